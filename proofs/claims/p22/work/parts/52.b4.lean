/-! the reference settles, pair by pair -/
def SvI (m : Nat) (A B : Nat → Nat) (C W : Nat → Int) (pj : Nat → Option Nat) (v : Int) (k : Nat) (f : Nat → Int) (s : PS) : Prop := NF m A B C W f (fzk pj k) s ∧ OptF m A B C W f v ∧ (∃ pi, FE (2 * m) (frS s) (toS s) (rmS s) (prS s) pi ∧ PB pi) ∧ (∀ i, i < k → s 45 i = vP pj f i) ∧ (∀ g, Cap m C g → Bal m A B g v → cost m W g = cost m W f → LexM k (vP pj f) (vP pj g)) ∧ PrOk m C pj s
section Sett2
variable {m n a b : Nat} {A B : Nat → Nat} {C W f g : Nat → Int} {fz fz2 : Nat → Prop} {pi : Nat → Int} {s0 s t u : PS} {r v v2 : Int} {pj : Nat → Option Nat} {k : Nat}
theorem vP_j {j : Nat} (h : pj k = some j) : vP pj f k = f j := by
  unfold vP
  rw [h]
theorem vP_0 (h : pj k = none) : vP pj f k = 0 := by
  unfold vP
  rw [h]
theorem NF.fzc (h : NF m A B C W f fz s) (e : ∀ j, fz2 j ↔ fz j) : NF m A B C W f fz2 s := by
  refine ⟨h.1, h.2.1, h.2.2.1, fun j hj => ?_⟩
  rw [e j]
  exact h.2.2.2 j hj
theorem agr_of (h : ∀ i, i < k → vP pj f i = vP pj g i) : Agr m (fzk pj k) f g := by
  intro j _ hz
  obtain ⟨i, hi, e⟩ := hz
  have z := h i hi
  rw [vP_j e, vP_j e] at z
  exact z.symm
theorem PrOk.cg (h : PrOk m C pj s) (e : t 44 = s 44) : PrOk m C pj t := by
  intro k hk
  rw [e]
  exact h k hk
theorem fe_cgs {s2 : PS} (h : FE (2 * m) (frS s) (toS s) (rmS s) (prS s) pi) (e38 : s2 38 = s 38) (e39 : s2 39 = s 39) (e41 : s2 41 = s 41) (e40 : ∀ l, l < 2 * m → rmS s2 l → rmS s l) : FE (2 * m) (frS s2) (toS s2) (rmS s2) (prS s2) pi := by
  intro l hl hr
  have z := h l hl (e40 l hl hr)
  unfold frS toS prS at z ⊢
  rw [e38, e39, e41]
  exact z
/-- a pair is settled for good -/
theorem shut {j : Nat} {s1 s8 : PS} (hF : NF m A B C W f (fzk pj k) s1) (hj : j < m) (hp : pj k = some j) (e : ∀ x, ¬ x = 40 → ¬ x = 45 → s8 x = s1 x) (e0 : s8 40 (2 * j) = 0) (e1 : s8 40 (2 * j + 1) = 0) (e2 : ∀ l, ¬ l = 2 * j → ¬ l = 2 * j + 1 → s8 40 l = s1 40 l) : NF m A B C W f (fzk pj (k + 1)) s8 := by
  refine ⟨by rw [e 0 (by decide) (by decide)]; exact hF.1, hF.2.1, fun i hi => by rw [e 38 (by decide) (by decide), e 39 (by decide) (by decide), e 41 (by decide) (by decide)]; exact hF.2.2.1 i hi, fun i hi => ?_⟩
  obtain ⟨w1, w2, w3, w4, w5⟩ := hF.2.2.2 i hi
  refine ⟨w1, w2, w3, ?_⟩
  by_cases c : i = j
  · rw [c, e0, e1]
    exact ⟨fun _ => ⟨rfl, rfl⟩, fun z => absurd ⟨k, by omega, hp⟩ z⟩
  · rw [e2 (2 * i) (by omega) (by omega), e2 (2 * i + 1) (by omega) (by omega)]
    have q : fzk pj (k + 1) i ↔ fzk pj k i := by
      constructor
      · intro h
        obtain ⟨x, x1, x2⟩ := h
        by_cases cx : x = k
        · rw [cx, hp] at x2
          exact absurd (Option.some.inj x2).symm c
        · exact ⟨x, by omega, x2⟩
      · intro h
        obtain ⟨x, x1, x2⟩ := h
        exact ⟨x, by omega, x2⟩
    rw [q]
    exact ⟨w4, w5⟩
theorem settle20 (hA : ∀ j, j < m → A j < 290 ∧ B j < 290) : ∀ (fu k : Nat) (f : Nat → Int) (s : PS) (r : Int) (t : PS), It_X12_settles fu 20 (k : Int) 0 s r t → k ≤ 400 → SvI m A B C W pj v k f s → ∃ f2, SvI m A B C W pj v 400 f2 t ∧ ∀ x, ¬ x = 40 → ¬ x = 42 → ¬ x = 43 → ¬ x = 45 → t x = s x := by
  intro fu
  induction fu using Nat.strongRecOn with
  | ind fu ih =>
  intro k f s r t h hk hI
  cases fu with
  | zero => exact False.elim h
  | succ fu =>
    replace h := ul_X12_settles_20 h
    unfold T_X12_settles_20 at h
    obtain ⟨_, _, h⟩ := h
    rw [Int.toNat_natCast] at h
    rcases h with ⟨c, _, es⟩ | ⟨c, s10, e10, h⟩
    · have e : k = 400 := by omega
      rw [e] at hI
      rw [es]
      exact ⟨f, hI, fun _ _ _ _ _ => rfl⟩
    · have hk2 : k < 400 := by
        clear h
        omega
      obtain ⟨hF, hO, ⟨pi, hE, hP⟩, hg, hL, hPr⟩ := hI
      have k10 : ∀ x, ¬ x = 45 → s10 x = s x := fun x hx => by rw [e10, us_k hx]
      have F10 : NF m A B C W f (fzk pj k) s10 := hF.cg (fun x hx => k10 x (by omega)) (by rw [k10 0 (by decide)])
      have E10 : FE (2 * m) (frS s10) (toS s10) (rmS s10) (prS s10) pi := fe_cgs hE (k10 38 (by decide)) (k10 39 (by decide)) (k10 41 (by decide)) (fun l _ hr => by unfold rmS at hr ⊢; rw [k10 40 (by decide)] at hr; exact hr)
      have g10 : ∀ i, i < k → s10 45 i = vP pj f i := fun i hi => by
        rw [e10, us_j (by omega)]
        exact hg i hi
      rcases hPr k hk2 with ⟨p0, p44⟩ | ⟨j, pj0, hj, cj, p44, pinj⟩
      · rw [p44] at h
        rcases h with ⟨c1, _⟩ | ⟨_, h⟩
        · exact absurd c1 (by decide)
        · have fzq : ∀ j, fzk pj (k + 1) j ↔ fzk pj k j := by
            intro j
            constructor
            · intro h
              obtain ⟨x, x1, x2⟩ := h
              by_cases cx : x = k
              · rw [cx, p0] at x2
                cases x2
              · exact ⟨x, by omega, x2⟩
            · intro h
              obtain ⟨x, x1, x2⟩ := h
              exact ⟨x, by omega, x2⟩
          obtain ⟨f2, w1, w2⟩ := ih fu (by omega) (k + 1) f s10 r t h (by omega) ⟨F10.fzc fzq, hO, ⟨pi, E10, hP⟩, fun i hi => by
            by_cases e : i = k
            · rw [e, e10, us_at, vP_0 p0]
            · exact g10 i (by omega), fun g g1 g2 g3 => (hL g g1 g2 g3).step (fun _ => by rw [vP_0 p0, vP_0 p0]; exact Int.le_refl 0), hPr.cg (k10 44 (by decide))⟩
          exact ⟨f2, w1, fun x x1 x2 x3 x4 => (w2 x x1 x2 x3 x4).trans (k10 x x4)⟩
      · obtain ⟨l1, l2, l3, l4, l5, l6⟩ := hF.2.2.1 j hj
        obtain ⟨w1, wf, wc, wz, wn⟩ := hF.2.2.2 j hj
        have nz : ¬ fzk pj k j := fun z => by
          obtain ⟨i, i1, i2⟩ := z
          exact pinj i i1 i2
        obtain ⟨n1, n2⟩ := wn nz
        rw [p44] at h
        simp only [Int.toNat_natCast] at h
        rw [l1, l2, l5] at h
        simp only [Int.toNat_natCast] at h
        have e1n : (((2 * j : Nat) : Int) + 1).toNat = 2 * j + 1 := by
          clear h
          omega
        rw [e1n] at h
        -- the pair is shut
        have fin : ∀ (f1 : Nat → Int) (s1 : PS), It_X12_settles fu 137 (k : Int) ((2 * j : Nat) : Int) s1 r t → NF m A B C W f1 (fzk pj k) s1 → OptF m A B C W f1 v → (∃ pi, FE (2 * m) (frS s1) (toS s1) (rmS s1) (prS s1) pi ∧ PB pi) → (∀ i, i < k → s1 45 i = vP pj f1 i) → (∀ g, Cap m C g → Bal m A B g v → cost m W g = cost m W f1 → LexM (k + 1) (vP pj f1) (vP pj g)) → (∀ x, ¬ x = 40 → ¬ x = 42 → ¬ x = 43 → ¬ x = 45 → s1 x = s x) → ∃ f2, SvI m A B C W pj v 400 f2 t ∧ ∀ x, ¬ x = 40 → ¬ x = 42 → ¬ x = 43 → ¬ x = 45 → t x = s x := by
          intro f1 s1 h F1 O1 hEP G1 L1 K1
          obtain ⟨pi1, E1, P1⟩ := hEP
          cases fu with
          | zero => exact False.elim h
          | succ fu =>
            replace h := ul_X12_settles_137 h
            unfold T_X12_settles_137 at h
            obtain ⟨_, _, _, h⟩ := h
            simp only [Int.toNat_natCast] at h
            rw [e1n] at h
            obtain ⟨_, vf, _, _, vn⟩ := F1.2.2.2 j hj
            obtain ⟨v1, v2⟩ := vn nz
            have go : ∀ (z : Int) (s8 : PS), It_X12_settles fu 20 ((k : Int) + 1) 0 s8 r t → s8 = us (us (us s1 45 k z) 40 (2 * j) 0) 40 (2 * j + 1) 0 → z = f1 j → ∃ f2, SvI m A B C W pj v 400 f2 t ∧ ∀ x, ¬ x = 40 → ¬ x = 42 → ¬ x = 43 → ¬ x = 45 → t x = s x := by
              intro z s8 h e8 ez
              have k8 : ∀ x, ¬ x = 40 → ¬ x = 45 → s8 x = s1 x := fun x x1 x2 => by rw [e8, us_k x1, us_k x1, us_k x2]
              have a0 : s8 40 (2 * j) = 0 := by rw [e8, us_j (by omega), us_at]
              have a1 : s8 40 (2 * j + 1) = 0 := by rw [e8, us_at]
              have a2 : ∀ l, ¬ l = 2 * j → ¬ l = 2 * j + 1 → s8 40 l = s1 40 l := fun l h1 h2 => by rw [e8, us_j h2, us_j h1, us_k (by decide)]
              obtain ⟨f2, w1, w2⟩ := ih fu (by omega) (k + 1) f1 s8 r t h (by omega) ⟨shut F1 hj pj0 k8 a0 a1 a2, O1, ⟨pi1, fe_cgs E1 (k8 38 (by decide) (by decide)) (k8 39 (by decide) (by decide)) (k8 41 (by decide) (by decide)) (fun l _ hr => by
                unfold rmS at hr ⊢
                by_cases c1 : l = 2 * j
                · rw [c1, a0] at hr
                  exact absurd rfl hr
                · by_cases c2 : l = 2 * j + 1
                  · rw [c2, a1] at hr
                    exact absurd rfl hr
                  · rw [a2 l c1 c2] at hr
                    exact hr), P1⟩, fun i hi => by
                by_cases e : i = k
                · rw [e, e8, us_k (by decide), us_k (by decide), us_at, vP_j pj0]
                  exact ez
                · rw [e8, us_k (by decide), us_k (by decide), us_j e]
                  exact G1 i (by omega), L1, hPr.cg ((k8 44 (by decide) (by decide)).trans (K1 44 (by decide) (by decide) (by decide) (by decide)))⟩
              exact ⟨f2, w1, fun x x1 x2 x3 x4 => (w2 x x1 x2 x3 x4).trans ((k8 x x1 x4).trans (K1 x x1 x2 x3 x4))⟩
            rcases h with ⟨c5, s6, e6, s7, e7, s8, e8, h⟩ | ⟨c5, s3, e3, s4, e4, s5, e5, h⟩
            · exact go 1 s8 h (by rw [e8, e7, e6]) (by clear h; omega)
            · exact go 0 s5 h (by rw [e5, e4, e3]) (by clear h; omega)
        have lexle : ∀ f1 : Nat → Int, (∀ g, Cap m C g → Bal m A B g v → cost m W g = cost m W f1 → LexM k (vP pj f1) (vP pj g)) → (∀ g, Cap m C g → Bal m A B g v → cost m W g = cost m W f1 → (∀ i, i < k → vP pj f1 i = vP pj g i) → g j ≤ f1 j) → ∀ g, Cap m C g → Bal m A B g v → cost m W g = cost m W f1 → LexM (k + 1) (vP pj f1) (vP pj g) := by
          intro f1 q1 q2 g g1 g2 g3
          refine (q1 g g1 g2 g3).step (fun q => ?_)
          rw [vP_j pj0, vP_j pj0]
          exact q2 g g1 g2 g3 q
        rcases h with ⟨_, ⟨c2, h⟩ | ⟨c2, r18, s17, m17, _, _, _, h⟩⟩ | ⟨c1, _⟩
        · exact fin f s10 h F10 hO ⟨pi, E10, hP⟩ g10 (lexle f hL (fun g g1 _ _ _ => by
            have y := g1 j hj
            clear h
            omega)) (fun x _ _ _ x4 => k10 x x4)
        · have f0 : f j = 0 := by
            clear h
            omega
          have hN10 := F10.net E10 hP
          have fd := findsM (a := B j) (b := A j) hN10 (hA j hj).2 m17
          have cut := cutS F10 hN10 hA fd
          have fd2 := fd
          obtain ⟨⟨tt, c0, hBs⟩, hNR, hk17, hr⟩ := fd2
          have k17 : ∀ x, ¬ x = 42 → ¬ x = 43 → ¬ x = 45 → s17 x = s x := fun x x1 x2 x3 => (hk17 x x1 x2).trans (k10 x x3)
          have F17 : NF m A B C W f (fzk pj k) s17 := F10.cg (fun x hx => hk17 x (by omega) (by omega)) (by rw [hk17 0 (by decide) (by decide)])
          have E17 : FE (2 * m) (frS s17) (toS s17) (rmS s17) (prS s17) pi := fe_cgs E10 (hk17 38 (by decide) (by decide)) (hk17 39 (by decide) (by decide)) (hk17 41 (by decide) (by decide)) (fun l _ hr => by unfold rmS at hr ⊢; rw [hk17 40 (by decide) (by decide)] at hr; exact hr)
          have g17 : ∀ i, i < k → s17 45 i = vP pj f i := fun i hi => by
            rw [hk17 45 (by decide) (by decide)]
            exact g10 i hi
          have hA1 := (hA j hj).1
          have hB1 := (hA j hj).2
          have far0 : s17 42 (B j) = 0 := hBs.1
          have ufA := BS_far hBs hA1
          rcases h with ⟨c3, h⟩ | ⟨c3, h⟩
          · have eA : s17 42 (A j) = 1152921504606846976 := by
              rcases hr with ⟨_, z⟩ | ⟨z, _⟩
              · rcases ufA with y | y
                · exact y
                · clear h
                  omega
              · clear h
                omega
            refine fin f s17 h F17 hO ⟨pi, E17, hP⟩ g17 (lexle f hL (fun g g1 g2 _ q => ?_)) (fun x x1 x2 x3 x4 => k17 x x2 x3 x4)
            by_cases y : f j < g j
            · have z := (cut_le (q := fun x => if s17 42 x = 1152921504606846976 then (1 : Int) else 0) (fun x => q01) F10.cap g1 (agr_of q) hO.2.1 g2 cut).2 j hj (if_pos eA) (if_neg (by rw [far0]; decide)) y
              rw [Int.sub_self, Int.mul_zero] at z
              exact absurd z (by decide)
            · omega
          · have r1 : r18 = 1 := by
              rcases hr with ⟨z, _⟩ | ⟨z, _⟩
              · exact absurd z c3
              · exact z
            rw [r1] at fd
            have nA : ¬ s17 42 (A j) = 1152921504606846976 := by
              rcases hr with ⟨z, _⟩ | ⟨_, z⟩
              · exact absurd z c3
              · intro y
                rw [y] at z
                exact z (by decide)
            have ub := BS_ub hBs hA1 nA
            have bA := PB_in hP hA1
            have bB := PB_in hP hB1
            have ew : wl (s17 42 (A j) + W j) = s17 42 (A j) + W j := wl_id (by clear h; omega) (by clear h; omega)
            rw [ew] at h
            have room : rmS s10 (2 * j) := by
              unfold rmS
              rw [k10 40 (by decide)]
              clear h
              omega
            have eF := E10 (2 * j) (by omega) room
            have eF2 : 0 ≤ W j + pi (A j) - pi (B j) := by
              unfold frS toS prS at eF
              rw [k10 38 (by decide), k10 39 (by decide), k10 41 (by decide), l1, l2, l5, Int.toNat_natCast, Int.toNat_natCast] at eF
              exact eF
            have nPA : nP (s17 42) pi (B j) (A j) (A j) = s17 42 (A j) + pi (B j) := by
              unfold nP
              rw [if_neg nA, if_pos (Int.le_refl _)]
              omega
            have nPB : nP (s17 42) pi (B j) (A j) (B j) = pi (B j) := by
              unfold nP
              rw [if_neg (by rw [far0]; decide), far0, if_pos (by omega)]
              omega
            rcases h with ⟨c4, s29, m29, _, _, s35, e35, s37, e37, h⟩ | ⟨c4, h⟩
            · have same := nP_same hBs E10 (l := 2 * j) (by omega) room (by unfold frS; rw [k10 38 (by decide), l1, Int.toNat_natCast]) (by unfold toS; rw [k10 39 (by decide), l2, Int.toNat_natCast]) hA1 nA (by
                unfold prS
                rw [k10 41 (by decide), l5]
                exact c4)
              obtain ⟨f1, g1, g2, g2z, g3, g4, g5, g6⟩ := goesMM F10 E10 hP hB1 hA1 fd m29
              have t4 := g4 (2 * j) (by omega) (by unfold toS; rw [k10 39 (by decide), l2, Int.toNat_natCast])
              rw [k10 40 (by decide)] at t4
              obtain ⟨⟨f2, h1, h2, h2z⟩, u1, u2, u3, u4⟩ := g1.push (l := 2 * j) (t := s35) (u := s37) (by omega) (by clear h; omega) e35 (by rw [xr_e]; exact e37)
              have k29 : ∀ x, ¬ x = 40 → ¬ x = 42 → ¬ x = 43 → ¬ x = 45 → s29 x = s x := fun x x1 x2 x3 x4 => (g3 x x1 x2 x3).trans (k10 x x4)
              have q38 : frS s29 (2 * j) = A j := by
                unfold frS
                rw [k29 38 (by decide) (by decide) (by decide) (by decide), l1, Int.toNat_natCast]
              have q39 : toS s29 (2 * j) = B j := by
                unfold toS
                rw [k29 39 (by decide) (by decide) (by decide) (by decide), l2, Int.toNat_natCast]
              have bal : Bal m A B f2 v := by
                intro rho
                have z := h2 rho
                have y := g2 rho
                have x := hO.2.1 rho
                rw [q38, q39] at z
                unfold Fl at z y
                rw [z, y, x]
                omega
              have fz2 : ∀ i, fzk pj k i → f2 i = f i := fun i hi => (h2z i hi).trans (g2z i hi)
              have E37 : FE (2 * m) (frS s37) (toS s37) (rmS s37) (prS s37) pi := by
                intro l hl hr
                have ef : frS s37 l = frS s29 l := by
                  unfold frS
                  rw [u4 38 (by decide)]
                have et : toS s37 l = toS s29 l := by
                  unfold toS
                  rw [u4 39 (by decide)]
                have ep : prS s37 l = prS s29 l := by
                  unfold prS
                  rw [u4 41 (by decide)]
                rw [ef, et, ep]
                have z0 : W j + pi (A j) - pi (B j) = 0 := by
                  have z := same (A j) hA1
                  rw [nPA] at z
                  clear h
                  omega
                by_cases c6 : l = 2 * j
                · rw [c6, q38, q39]
                  unfold prS
                  rw [k29 41 (by decide) (by decide) (by decide) (by decide), l5]
                  omega
                · by_cases c7 : l = 2 * j + 1
                  · rw [c7]
                    unfold prS frS toS
                    rw [k29 41 (by decide) (by decide) (by decide) (by decide), k29 38 (by decide) (by decide) (by decide) (by decide), k29 39 (by decide) (by decide) (by decide) (by decide), l3, l4, l6, Int.toNat_natCast, Int.toNat_natCast]
                    omega
                  · have hr2 : rmS s29 l := by
                      unfold rmS at hr ⊢
                      rw [u3 l c6 (by rw [xr_e]; exact c7)] at hr
                      exact hr
                    have z := g5 l hl hr2
                    rw [same _ (by
                      have e : frS s29 l = frS s10 l := by
                        unfold frS
                        rw [g3 38 (by decide) (by decide) (by decide)]
                      rw [e]
                      rcases half l with e | e
                      · have y := (F10.2.2.1 (l / 2) (by omega)).1
                        have w := (hA (l / 2) (by omega)).1
                        unfold frS
                        rw [e, y, Int.toNat_natCast]
                        exact w
                      · have y := (F10.2.2.1 (l / 2) (by omega)).2.2.1
                        have w := (hA (l / 2) (by omega)).2
                        unfold frS
                        rw [e, y, Int.toNat_natCast]
                        exact w), same _ (by
                      have e : toS s29 l = toS s10 l := by
                        unfold toS
                        rw [g3 39 (by decide) (by decide) (by decide)]
                      rw [e]
                      rcases half l with e | e
                      · have y := (F10.2.2.1 (l / 2) (by omega)).2.1
                        have w := (hA (l / 2) (by omega)).2
                        unfold toS
                        rw [e, y, Int.toNat_natCast]
                        exact w
                      · have y := (F10.2.2.1 (l / 2) (by omega)).2.2.2.1
                        have w := (hA (l / 2) (by omega)).1
                        unfold toS
                        rw [e, y, Int.toNat_natCast]
                        exact w)] at z
                    exact z
              have cf : cost m W f2 ≤ cost m W f := (h1.pot E37).best h1.cap hF.cap (fun i _ hi => (fz2 i hi).symm) bal hO.2.1
              have cf2 := (hO.2.2 f2 v h1.cap bal).2 rfl
              have ce : cost m W f2 = cost m W f := by omega
              have f21 : f2 j = 1 := by
                obtain ⟨_, x1, _, _, xn⟩ := h1.2.2.2 j hj
                obtain ⟨y1, _⟩ := xn nz
                obtain ⟨_, x2, _, _, xn2⟩ := g1.2.2.2 j hj
                obtain ⟨y2, _⟩ := xn2 nz
                clear h
                omega
              have vq : ∀ i, i < k → vP pj f2 i = vP pj f i := by
                intro i hi
                rcases hPr i (by omega) with ⟨p0, _⟩ | ⟨x, px, _⟩
                · rw [vP_0 p0, vP_0 p0]
                · rw [vP_j px, vP_j px]
                  exact fz2 x ⟨i, hi, px⟩
              refine fin f2 s37 h h1 ⟨h1.cap, bal, fun g v2 g1' g2' => ⟨(hO.2.2 g v2 g1' g2').1, fun e => by rw [ce]; exact (hO.2.2 g v2 g1' g2').2 e⟩⟩ ⟨pi, E37, hP⟩ (fun i hi => ?_) (lexle f2 (fun g g1' g2' g3' => (hL g g1' g2' (g3'.trans ce)).cgl vq) (fun g g1' _ _ _ => by
                have y := g1' j hj
                rw [f21]
                clear h
                omega)) (fun x x1 x2 x3 x4 => (u4 x x1).trans (k29 x x1 x2 x3 x4))
              rw [u4 45 (by decide), g3 45 (by decide) (by decide) (by decide), vq i hi]
              exact g10 i hi
            · have E10n : FE (2 * m) (frS s10) (toS s10) (rmS s10) (prS s10) (nP (s17 42) pi (B j) (A j)) := FE_aug (xr := xr) E10 (fun l hl => (hN10.2.2.2.2 l hl).2) (fun l => by
                by_cases hl : l < 2 * m
                · rcases half l with e | e
                  · have y := (F10.2.2.1 (l / 2) (by omega)).1
                    have w := (hA (l / 2) (by omega)).1
                    unfold frS
                    rw [e, y, Int.toNat_natCast]
                    exact w
                  · have y := (F10.2.2.1 (l / 2) (by omega)).2.2.1
                    have w := (hA (l / 2) (by omega)).2
                    unfold frS
                    rw [e, y, Int.toNat_natCast]
                    exact w
                · obtain ⟨_, mf⟩ := m17
                  unfold T_X12_finds_e at mf
                  exact tyM_fr mf.1 l) hBs hNR hA1 nA F10.xrev (fun l _ hr => Or.inl hr)
              refine fin f s17 h F17 hO ⟨pi, E17, hP⟩ g17 (lexle f hL (fun g g1 g2 g3 q => ?_)) (fun x x1 x2 x3 x4 => k17 x x2 x3 x4)
              by_cases y : f j < g j
              · have z := (F10.pot E10n).strict F10.cap g1 (agr_of q) hO.2.1 g2 hj (by rw [nPA, nPB]; clear h; omega) y
                omega
              · omega
        · exact absurd (show (0 : Int) ≤ ((2 * j : Nat) : Int) by omega) c1
end Sett2
