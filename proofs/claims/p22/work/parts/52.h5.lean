/-! the ranker: a search goes on till it finds, or is closed -/
/-- what a step of a search keeps -/
def MoS (R K S gg : Nat) (s t : PS) : Prop := (∀ r, r < R → Vs s r → Vs t r) ∧ (∀ k u, k < K → u < S → Ws s k u → Ws t k u) ∧ (¬ s 81 12 = -1 → t 81 12 = s 81 12) ∧ (¬ s 81 13 = -1 → t 81 13 = s 81 13) ∧ (∀ x, ¬ (81 ≤ x ∧ x ≤ 87) → t x = s x) ∧ t 82 = s 82 ∧ (∀ j, ¬ j = 10 → ¬ j = 11 → ¬ j = 12 → ¬ j = 13 → ¬ j = 14 → ¬ j = 15 → t 81 j = s 81 j) ∧ (∀ i : Nat, (i : Int) < s 81 11 → t 87 i = s 87 i) ∧ s 81 11 ≤ t 81 11 ∧ (∀ k u, k < K → u < S → Ws s k u → t 86 (24 * k + u) = s 86 (24 * k + u)) ∧ ∀ k u, k < K → u < S → Ws t k u → ¬ Ws s k u → ¬ t 86 (24 * k + u) = (gg : Int)
/-- what leads on from a row has been seen -/
def ArcS (K : Nat) (sl : Nat → Nat) (al : Nat → Nat → Prop) (pt X : Nat → Nat → Int) (x : Nat) (b : Nat) (s : PS) : Prop := ∀ k, x ≤ k → k < K → al b k → X b k = 0 → tb (s 82 b) k = false → s 77 (24 * k + sl b) = s 75 b - pt b k → Ws s k (sl b)
section Fnd
variable {R K S k g gg slot lo hi : Nat} {sl fr : Nat → Nat} {D : Nat → Int} {al : Nat → Nat → Prop} {pt cu X : Nat → Nat → Int} {rw_ cost : Int} {s t u : PS} {rr : Int}
theorem MoS.rf : MoS R K S gg s s := ⟨fun _ _ q => q, fun _ _ _ _ q => q, fun _ => rfl, fun _ => rfl, fun _ _ => rfl, rfl, fun _ _ _ _ _ _ _ => rfl, fun _ _ => rfl, Int.le_refl _, fun _ _ _ _ _ => rfl, fun _ _ _ _ q q2 => absurd q q2⟩
theorem MoS.tr {v : PS} (a : MoS R K S gg s v) (b : MoS R K S gg v t) : MoS R K S gg s t := by
  obtain ⟨a1, a2, a3, a4, a5, a6, a7, a8, a9, a10, a11⟩ := a
  obtain ⟨b1, b2, b3, b4, b5, b6, b7, b8, b9, b10, b11⟩ := b
  exact ⟨fun r hr q => b1 r hr (a1 r hr q), fun k u p q z => b2 k u p q (a2 k u p q z), fun q => (b3 (by rw [a3 q]; exact q)).trans (a3 q), fun q => (b4 (by rw [a4 q]; exact q)).trans (a4 q), fun x hx => (b5 x hx).trans (a5 x hx), b6.trans a6, fun j p q v w x y => (b7 j p q v w x y).trans (a7 j p q v w x y), fun i hi => (b8 i (by omega)).trans (a8 i hi), by omega, fun k u p q z => (b10 k u p q (a2 k u p q z)).trans (a10 k u p q z), fun k u p q z y => by
    by_cases w : Ws v k u
    · rw [b10 k u p q w]
      exact a11 k u p q w y
    · exact b11 k u p q z w⟩
theorem SpE.mo {I hit : Nat → Prop} {kk : Int} (hE : SpE R K S k I hit rw_ kk s t) (hI : ∀ u, u < S → I u → ¬ Ws s k u) (hgg : ¬ rw_ = (gg : Int)) : MoS R K S gg s t := by
  obtain ⟨e1, e2, eL, ⟨T, T2, e3, e4, e5, e6⟩, ⟨e7, e8⟩, ⟨e9, e10⟩, e11, e12, e13⟩ := hE
  have st : t 81 4 = s 81 4 := e13 4 (by decide) (by decide) (by decide)
  refine ⟨fun r hr q => ?_, fun k2 u q1 q2 q => ?_, e7, e9, e11, e12, fun j _ j1 j2 j3 _ _ => e13 j j1 j2 j3, fun i hi => e6 i (by omega), by omega, fun k2 u q1 q2 q => ?_, fun k2 u q1 q2 q p => ?_⟩
  · unfold Vs at q ⊢
    rw [st]
    by_cases z : hit r
    · exact ((e2 r hr).1 z).1
    · rw [((e2 r hr).2 z).1]
      exact q
  · unfold Ws at q ⊢
    rw [st]
    by_cases z : k2 = k ∧ I u
    · rw [((e1 k2 u q1 q2).1 z).1]
    · rw [((e1 k2 u q1 q2).2 z).1]
      exact q
  · by_cases z : k2 = k ∧ I u
    · rw [z.1] at q
      exact absurd q (hI u q2 z.2)
    · exact ((e1 k2 u q1 q2).2 z).2
  · by_cases z : k2 = k ∧ I u
    · rw [((e1 k2 u q1 q2).1 z).2]
      exact hgg
    · unfold Ws at q p
      rw [((e1 k2 u q1 q2).2 z).1, st] at q
      exact absurd q p
theorem spread_st (hF : FlS R K S sl fr D al pt cu X s) (hI : SrI R K S sl D al pt cu X g s) (hkK : k < K) (hslot : slot < S) (hun : ¬ Ws s k slot) (hr : -2199023255552 ≤ s 77 (24 * k + slot) ∧ s 77 (24 * k + slot) ≤ 2199023255552) (hsrc : (∃ b, b < R ∧ rw_ = (b : Int) ∧ slot = sl b ∧ (b = g ∨ Vs s b) ∧ al b k ∧ X b k = 0 ∧ (¬ b = g → tb (s 82 b) k = false) ∧ s 77 (24 * k + slot) = s 75 b - pt b k) ∨ (rw_ = -2 ∧ slot = S - 1 ∧ s 81 15 = 1 ∧ s 77 (24 * k + slot) = s 74 6)) (hgg : ¬ rw_ = (gg : Int)) (m : M_X9_spread s rw_ (k : Int) (slot : Int) rr t) : SrI R K S sl D al pt cu X g t ∧ MoS R K S gg s t ∧ Ws t k slot ∧ t 81 10 = s 81 10 ∧ t 81 14 = s 81 14 ∧ t 81 15 = s 81 15 := by
  obtain ⟨lo, hi, v1, v2, v3, v4, v5⟩ := spreadF hF hI.1 hkK hslot hr m
  obtain ⟨w1, _, _, w4, _, _⟩ := sp_st hF hI hkK hslot hun hsrc v1 v2 v3 v4 v5
  have e13 := v4.2.2.2.2.2.2.2.2
  refine ⟨w1, v4.mo (fun u hu q => ?_) hgg, w4, e13 10 (by decide) (by decide) (by decide), e13 14 (by decide) (by decide) (by decide), e13 15 (by decide) (by decide) (by decide)⟩
  by_cases q3 : u < slot + 1
  · exact (v5.1 u q.1 q3).1
  · exact ((v5.2.2.1 u (by omega) q.2).1).1
/-- ranges that hold all the while -/
def RgS (R K S : Nat) (s : PS) : Prop := (∀ r, r < R → -2199023255552 ≤ s 75 r ∧ s 75 r ≤ 2199023255552) ∧ ∀ k u, k < K → u < S → -2199023255552 ≤ s 77 (24 * k + u) ∧ s 77 (24 * k + u) ≤ 2199023255552
theorem RgS.mo (h : RgS R K S s) (m : MoS R K S gg s t) : RgS R K S t := by
  unfold RgS
  rw [m.2.2.2.2.1 75 (by decide), m.2.2.2.2.1 77 (by decide)]
  exact h
theorem FlS.mo (h : FlS R K S sl fr D al pt cu X s) (m : MoS R K S gg s t) : FlS R K S sl fr D al pt cu X t := h.cg (fun x x1 x2 => m.2.2.2.2.1 x (by omega))
theorem mayTakeF (hF : FlS R K S sl fr D al pt cu X s) (hg : RgS R K S s) {b : Nat} (hb : b < R) (hkK : k < K) (m : M_X9_mayTake s (b : Int) (k : Int) rr t) : t = s ∧ ((rr = 0 ∧ (¬ al b k ∨ Ws s k (sl b) ∨ ¬ s 77 (24 * k + sl b) = s 75 b - pt b k)) ∨ (rr = 1 ∧ al b k ∧ ¬ Ws s k (sl b) ∧ s 77 (24 * k + sl b) = s 75 b - pt b k)) := by
  obtain ⟨f1, f2, f3, f4, f5, f6, f7, f8⟩ := hF
  obtain ⟨g1, g2, g3, g4, g5⟩ := f4 b k hb hkK
  have rg := hg.1 b hb
  unfold M_X9_mayTake T_X9_mayTake_e at m
  obtain ⟨_, _, _, m⟩ := m
  rw [Int.toNat_natCast, (f3 b hb).1] at m
  have ei : (((k : Int) * 24) + (sl b : Int)).toNat = 24 * k + sl b := by
    clear m
    omega
  rw [ei] at m
  rcases m with ⟨c, er, et⟩ | ⟨c, m⟩
  · refine ⟨et, Or.inl ⟨er, Or.inl (fun q => ?_)⟩⟩
    have z := g1.mpr q
    unfold tb at z
    exact absurd c (of_decide_eq_true z)
  · have ha : al b k := g1.mp (by
      unfold tb
      exact decide_eq_true c)
    rcases m with ⟨c2, er, et⟩ | ⟨c2, r10, s9, m9, _, _, m⟩
    · exact ⟨et, Or.inl ⟨er, Or.inr (Or.inl c2)⟩⟩
    · unfold M_X3_pointsOf T_X3_pointsOf_e at m9
      obtain ⟨_, _, _, er9, es9⟩ := m9
      have ei2 : (((b : Int) * 10) + (k : Int)).toNat = 10 * b + k := by
        clear m
        omega
      rw [ei2, g3] at er9
      rw [er9, es9, wl_id (by clear m; omega) (by clear m; omega)] at m
      rcases m with ⟨c3, er, et⟩ | ⟨c3, er, et⟩
      · exact ⟨et, Or.inr ⟨er, ha, c2, c3⟩⟩
      · exact ⟨et, Or.inl ⟨er, Or.inr (Or.inr c3)⟩⟩
theorem widen23 {b : Nat} (hb : b < R) (hbg : ¬ b = gg) {op : Int} : ∀ fu : Nat, (∀ (x : Nat) (s : PS) (rr : Int) (t : PS), It_X9_widen fu 23 (b : Int) op (x : Int) s rr t → FlS R K S sl fr D al pt cu X s → RgS R K S s → SrI R K S sl D al pt cu X g s → Vs s b → (∀ k, k < K → (tb op k = true ↔ X b k = 0 ∧ tb (s 82 b) k = false)) → x ≤ K → SrI R K S sl D al pt cu X g t ∧ MoS R K S gg s t ∧ ArcS K sl al pt X x b t ∧ t 81 10 = s 81 10 ∧ t 81 14 = s 81 14 ∧ t 81 15 = s 81 15) ∧ ∀ (x : Nat) (s : PS) (rr : Int) (t : PS), It_X9_widen fu 66 (b : Int) op (x : Int) s rr t → FlS R K S sl fr D al pt cu X s → RgS R K S s → SrI R K S sl D al pt cu X g s → Vs s b → (∀ k, k < K → (tb op k = true ↔ X b k = 0 ∧ tb (s 82 b) k = false)) → x < K → SrI R K S sl D al pt cu X g t ∧ MoS R K S gg s t ∧ ArcS K sl al pt X (x + 1) b t ∧ t 81 10 = s 81 10 ∧ t 81 14 = s 81 14 ∧ t 81 15 = s 81 15
  | 0 => ⟨fun x s rr t m => False.elim m, fun x s rr t m => False.elim m⟩
  | fu + 1 => by
    have ih := widen23 hb hbg (op := op) fu
    refine ⟨fun x s rr t m hF hg hI hv hop hx => ?_, fun x s rr t m hF hg hI hv hop hx => ?_⟩
    · replace m := ul_X9_widen_23 m
      unfold T_X9_widen_23 at m
      obtain ⟨_, _, _, m⟩ := m
      rw [hF.1.1] at m
      rcases m with ⟨c, _, et⟩ | ⟨c, m⟩
      · rw [et]
        exact ⟨hI, MoS.rf, fun k k1 k2 => absurd k2 (by omega), rfl, rfl, rfl⟩
      · have hxK : x < K := by
          clear m
          omega
        have sb := (hF.2.2.1 b hb).2.1
        -- the arc of kind x is seen in u, or there is none
        have join : ∀ u : PS, MoS R K S gg s u → (SrI R K S sl D al pt cu X g t ∧ MoS R K S gg u t ∧ ArcS K sl al pt X (x + 1) b t ∧ t 81 10 = u 81 10 ∧ t 81 14 = u 81 14 ∧ t 81 15 = u 81 15) → (u 81 10 = s 81 10 ∧ u 81 14 = s 81 14 ∧ u 81 15 = s 81 15) → (al b x → X b x = 0 → tb (s 82 b) x = false → s 77 (24 * x + sl b) = s 75 b - pt b x → Ws u x (sl b)) → SrI R K S sl D al pt cu X g t ∧ MoS R K S gg s t ∧ ArcS K sl al pt X x b t ∧ t 81 10 = s 81 10 ∧ t 81 14 = s 81 14 ∧ t 81 15 = s 81 15 := by
          intro u m1 ⟨w1, w2, w3, w4, w5, w6⟩ ⟨y1, y2, y3⟩ hw
          have m3 := m1.tr w2
          refine ⟨w1, m3, fun k k1 k2 a1 a2 a3 a4 => ?_, w4.trans y1, w5.trans y2, w6.trans y3⟩
          by_cases e : k = x
          · rw [m3.2.2.2.2.2.1] at a3
            rw [m3.2.2.2.2.1 77 (by decide), m3.2.2.2.2.1 75 (by decide)] at a4
            rw [e] at a1 a2 a3 a4 ⊢
            exact w2.2.1 x (sl b) hxK sb (hw a1 a2 a3 a4)
          · exact w3 k (by omega) k2 a1 a2 a3 a4
        rcases m with ⟨c1, m⟩ | ⟨c1, r5, s4, m4, _, _, _, m⟩
        · refine join s MoS.rf (ih.2 x s rr t m hF hg hI hv hop hxK) ⟨rfl, rfl, rfl⟩ (fun a1 a2 a3 _ => ?_)
          have z := (hop x hxK).mpr ⟨a2, a3⟩
          unfold tb at z
          exact absurd c1 (of_decide_eq_true z)
        · obtain ⟨oX, oF⟩ := (hop x hxK).mp (by
            unfold tb
            exact decide_eq_true c1)
          obtain ⟨e4, res⟩ := mayTakeF hF hg hb hxK m4
          rw [e4] at m
          rcases m with ⟨c2, m⟩ | ⟨c2, s9, m9, _, _, m⟩
          · refine join s MoS.rf (ih.2 x s rr t m hF hg hI hv hop hxK) ⟨rfl, rfl, rfl⟩ (fun a1 a2 a3 a4 => ?_)
            rcases res with ⟨_, y | y | y⟩ | ⟨y, _⟩
            · exact absurd a1 y
            · exact y
            · exact absurd a4 y
            · omega
          · rcases res with ⟨y, _⟩ | ⟨_, y1, y2, y3⟩
            · exact absurd y c2
            · rw [Int.toNat_natCast, (hF.2.2.1 b hb).1] at m9
              obtain ⟨w1, w2, w3, w4, w5, w6⟩ := spread_st (rw_ := (b : Int)) hF hI hxK sb y2 (hg.2 x (sl b) hxK sb) (Or.inl ⟨b, hb, rfl, rfl, Or.inr hv, y1, oX, fun _ => oF, y3⟩) (fun e => hbg (Int.ofNat.inj e)) m9
              exact join s9 w2 (ih.2 x s9 rr t m (hF.mo w2) (hg.mo w2) w1 (w2.1 b hb hv) (by rw [w2.2.2.2.2.2.1]; exact hop) hxK) ⟨w4, w5, w6⟩ (fun _ _ _ _ => w3)
    · replace m := ul_X9_widen_66 m
      unfold T_X9_widen_66 at m
      obtain ⟨_, _, _, m⟩ := m
      exact ih.1 (x + 1) s rr t m hF hg hI hv hop (by omega)
theorem widenF (hF : FlS R K S sl fr D al pt cu X s) (hg : RgS R K S s) (hI : SrI R K S sl D al pt cu X g s) {b : Nat} (hb : b < R) (hbg : ¬ b = gg) (hv : Vs s b) (m : M_X9_widen s (b : Int) rr t) : SrI R K S sl D al pt cu X g t ∧ MoS R K S gg s t ∧ ArcS K sl al pt X 0 b t ∧ t 81 10 = s 81 10 ∧ t 81 14 = s 81 14 ∧ t 81 15 = s 81 15 := by
  obtain ⟨fu, m⟩ := m
  unfold T_X9_widen_e at m
  obtain ⟨_, _, m⟩ := m
  rw [Int.toNat_natCast] at m
  refine (widen23 hb hbg fu).1 0 s rr t m hF hg hI hv (fun k hk => ?_) (Nat.zero_le _)
  obtain ⟨g1, g2, _, _, g5⟩ := hF.2.2.2.1 b k hb hk
  have k32 : k < 32 := by
    have := hF.2.1
    omega
  rw [tb_and2 k32, tb_xor2 k32, tb_xor2 k32, tb_m32 ⟨k, k32⟩]
  constructor
  · intro z
    have z1 := Bool.and_eq_true_iff.mp z
    refine ⟨?_, ?_⟩
    · rcases g5 with y | y
      · exact y
      · rw [g2.mpr y] at z1
        exact absurd z1.1 (by decide)
    · cases h2 : tb (s 82 b) k with
      | false => rfl
      | true =>
        rw [h2] at z1
        exact absurd z1.2 (by decide)
  · intro z
    have y : tb (s 70 b) k = false := by
      cases h1 : tb (s 70 b) k with
      | false => rfl
      | true =>
        have := g2.mp h1
        have := z.1
        omega
    rw [y, z.2]
    rfl
/-- one row more that could take one more -/
theorem due_st (hF : FlS R K S sl fr D al pt cu X s) (hI : SrI R K S sl D al pt cu X g s) (h14 : s 81 14 = 1) {r : Nat} (hr : r < R) (hn : ¬ Vs s r) (hsl : sgN (X r) K < D r) (hrc : s 75 r = s 74 5) (m : M_X9_seeRow s (r : Int) (-3) rr t) : SrI R K S sl D al pt cu X g t ∧ MoS R K S gg s t ∧ Vs t r ∧ t 81 10 = s 81 10 ∧ t 81 14 = s 81 14 ∧ t 81 15 = s 81 15 := by
  obtain ⟨hE, t85, t86, t13⟩ := seeRowF (K := K) (S := S) (k := 0) (rw_ := -2) hI.1 hF.2.1.1 hr hn m
  have hmo := hE.mo (gg := gg) (fun _ _ q => q.elim) (by omega)
  obtain ⟨e1, e2, eL, ⟨T, T2, e3, e4, e5, e6⟩, ⟨e7, e8⟩, ⟨e9, e10⟩, e11, e12, e13⟩ := hE
  obtain ⟨iL, iR, iP, i12, i13, ⟨i14, i15⟩, iC⟩ := hI
  have st : t 81 4 = s 81 4 := e13 4 (by decide) (by decide) (by decide)
  have t14 : t 81 14 = s 81 14 := e13 14 (by decide) (by decide) (by decide)
  have t15 : t 81 15 = s 81 15 := e13 15 (by decide) (by decide) (by decide)
  have t10 : t 81 10 = s 81 10 := e13 10 (by decide) (by decide) (by decide)
  have t75 : t 75 = s 75 := e11 75 (by decide)
  have t77 : t 77 = s 77 := e11 77 (by decide)
  have t74 : t 74 = s 74 := e11 74 (by decide)
  have n12 := i14 h14
  have t12 : t 81 12 = s 81 12 := e7 n12
  have eW : ∀ k u, Ws t k u ↔ Ws s k u := fun k u => by
    unfold Ws
    rw [t85, st]
  have nr : ∀ a, a < R → ¬ a = r → t 84 a = s 84 a ∧ (Vs t a ↔ Vs s a) := fun a ha q => by
    obtain ⟨w1, w2⟩ := (e2 a ha).2 q
    refine ⟨w2, ?_⟩
    unfold Vs
    rw [w1, st]
  have vr : Vs t r := by
    unfold Vs
    rw [((e2 r hr).1 rfl).1, st]
  have neq : ∀ a, Vs s a → ¬ a = r := fun a q e => hn (by rw [← e]; exact q)
  refine ⟨⟨eL, fun j a ha ej hj => ?_, fun k2 u q1 q2 q => ?_, ?_, ?_, ⟨fun z => by rw [t12]; exact i14 (by rw [← t14]; exact z), fun z => by rw [t13]; exact i15 (by rw [← t15]; exact z)⟩, fun a ha q p z => by rw [t12]; exact n12⟩, hmo, vr, t10, t14, t15⟩
  · by_cases oldj : j < T
    · rw [e6 j oldj] at ej
      obtain ⟨_, va⟩ := iL.vs (by omega) ej
      have t84 := (nr a ha (neq a va)).1
      have ahd : ∀ b, Ahd s g j b → Ahd t g j b := fun b q => by
        rcases q with q | ⟨i, i1, i2⟩
        · exact Or.inl q
        · exact Or.inr ⟨i, i1, by rw [e6 i (by omega)]; exact i2⟩
      rcases iR j a ha ej (by omega) with ⟨z1, z2, z3, z4, lo', i, z5, z6, z7, z8⟩ | ⟨k', z1, z2, z3, z4, z5, z6, z7⟩
      · exact Or.inl ⟨by rw [t84]; exact z1, by rw [t14]; exact z2, z3, by rw [t75, t74]; exact z4, lo', i, z5, by rw [t12]; exact z6, z7, by rw [e6 i (by omega)]; exact z8⟩
      · refine Or.inr ⟨k', z1, by rw [t84]; exact z2, z3, by rw [e12]; exact z4, (eW k' (sl a)).mpr z5, by rw [t75, t77]; exact z6, ?_⟩
        rw [t86, t13]
        rcases z7 with ⟨b, b1, b2, b3⟩ | ⟨b1, lk, b, b2, b3, b4, b5, b6⟩
        · exact Or.inl ⟨b, b1, b2, ahd b b3⟩
        · exact Or.inr ⟨b1, lk, b, b2, b3, b4, b5, ahd b b6⟩
    · obtain ⟨_, va⟩ := eL.vs hj ej
      have ea : a = r := by
        by_cases q : a = r
        · exact q
        · obtain ⟨i, i1, i2⟩ := iL.ix ha ((nr a ha q).2.mp va)
          obtain ⟨T', x1, _, x3, _⟩ := eL
          have y := x3 i j (by omega) (by omega) (by rw [e6 i (by omega), i2, ej])
          omega
      rcases i12 with z | ⟨lo', z1, z2, z3, z4, z5⟩
      · exact absurd z n12
      · obtain ⟨i, i1, i2⟩ := iL.ix z1 z3
        rw [ea]
        exact Or.inl ⟨((e2 r hr).1 rfl).2, by rw [t14]; exact h14, hsl, by rw [t75, t74]; exact hrc, lo', i, z1, by rw [t12]; exact z2, by omega, by rw [e6 i (by omega)]; exact i2⟩
  · have old := (eW k2 u).mp q
    obtain ⟨z1, c1, c2, c3, c4⟩ := iP k2 u q1 q2 old
    refine ⟨?_, fun a ha a1 a2 a3 a4 => hmo.1 a ha (c1 a ha a1 a2 (by rw [← e12]; exact a3) (by rw [← t75, ← t77]; exact a4)), fun a1 a2 => (eW k2 (u - 1)).mpr (c2 a1 (by rw [← t77]; exact a2)), fun a1 a2 a3 => (eW k2 (u + 1)).mpr (c3 a1 a2 (by rw [← t77]; exact a3)), fun a1 a2 a3 => by rw [t13]; exact c4 a1 a2 (by rw [← t77, ← t74]; exact a3)⟩
    rcases z1 with ⟨b, b1, b2, b3, b4, b5, b6, b7, b8, b9⟩ | ⟨b1, b2, b3, b4⟩
    · refine Or.inl ⟨b, b1, by rw [t86]; exact b2, b3.imp id (hmo.1 b b1), b4, b5, fun z => by rw [e12]; exact b6 z, by rw [t77, t75]; exact b7, fun x x1 x2 => ?_, b9⟩
      obtain ⟨y1, y2, y3⟩ := b8 x x1 x2
      exact ⟨by rw [t77]; exact y1, (eW k2 x).mpr y2, by rw [t86]; exact y3⟩
    · refine Or.inr ⟨by rw [t86]; exact b1, by rw [t15]; exact b2, by rw [t77, t74]; exact b3, fun x x1 x2 => ?_⟩
      obtain ⟨y1, y2, y3⟩ := b4 x x1 x2
      exact ⟨by rw [t77, t74]; exact y1, (eW k2 x).mpr y2, by rw [t86]; exact y3⟩
  · rcases i12 with z | ⟨lo', z1, z2, z3, z4, z5⟩
    · exact absurd z n12
    · exact Or.inr ⟨lo', z1, by rw [t12]; exact z2, hmo.1 lo' z1 z3, by rw [(nr lo' z1 (neq lo' z3)).1]; exact z4, by rw [t75, t74]; exact z5⟩
  · rw [t13, t77, t74, t86]
    rcases i13 with z | ⟨lk, b, z1, z2, z3, z4⟩
    · exact Or.inl z
    · exact Or.inr ⟨lk, b, z1, z2, (eW lk (S - 1)).mpr z3, z4⟩
theorem spreadDue2 : ∀ fu : Nat, (∀ (x : Nat) (s : PS) (rr : Int) (t : PS), It_X9_spreadDue fu 2 (x : Int) s rr t → FlS R K S sl fr D al pt cu X s → SrI R K S sl D al pt cu X g s → s 81 14 = 1 → x ≤ R → SrI R K S sl D al pt cu X g t ∧ MoS R K S gg s t ∧ (∀ r, x ≤ r → r < R → sgN (X r) K < D r → t 75 r = t 74 5 → Vs t r) ∧ t 81 10 = s 81 10 ∧ t 81 14 = s 81 14 ∧ t 81 15 = s 81 15) ∧ ∀ (x : Nat) (s : PS) (rr : Int) (t : PS), It_X9_spreadDue fu 74 (x : Int) s rr t → FlS R K S sl fr D al pt cu X s → SrI R K S sl D al pt cu X g s → s 81 14 = 1 → x < R → SrI R K S sl D al pt cu X g t ∧ MoS R K S gg s t ∧ (∀ r, x + 1 ≤ r → r < R → sgN (X r) K < D r → t 75 r = t 74 5 → Vs t r) ∧ t 81 10 = s 81 10 ∧ t 81 14 = s 81 14 ∧ t 81 15 = s 81 15
  | 0 => ⟨fun x s rr t m => False.elim m, fun x s rr t m => False.elim m⟩
  | fu + 1 => by
    have ih := spreadDue2 fu
    refine ⟨fun x s rr t m hF hI h14 hx => ?_, fun x s rr t m hF hI h14 hx => ?_⟩
    · replace m := ul_X9_spreadDue_2 m
      unfold T_X9_spreadDue_2 at m
      obtain ⟨_, _, m⟩ := m
      rw [hF.1.2.1, Int.toNat_natCast] at m
      rcases m with ⟨c, _, et⟩ | ⟨c, m⟩
      · rw [et]
        exact ⟨hI, MoS.rf, fun r r1 r2 => absurd r2 (by omega), rfl, rfl, rfl⟩
      · have hxR : x < R := by
          clear m
          omega
        rw [(hF.2.2.1 x hxR).2.2.1, (hF.2.2.1 x hxR).2.2.2] at m
        have join : ∀ u : PS, MoS R K S gg s u → (SrI R K S sl D al pt cu X g t ∧ MoS R K S gg u t ∧ (∀ r, x + 1 ≤ r → r < R → sgN (X r) K < D r → t 75 r = t 74 5 → Vs t r) ∧ t 81 10 = u 81 10 ∧ t 81 14 = u 81 14 ∧ t 81 15 = u 81 15) → (u 81 10 = s 81 10 ∧ u 81 14 = s 81 14 ∧ u 81 15 = s 81 15) → (sgN (X x) K < D x → s 75 x = s 74 5 → Vs u x) → SrI R K S sl D al pt cu X g t ∧ MoS R K S gg s t ∧ (∀ r, x ≤ r → r < R → sgN (X r) K < D r → t 75 r = t 74 5 → Vs t r) ∧ t 81 10 = s 81 10 ∧ t 81 14 = s 81 14 ∧ t 81 15 = s 81 15 := by
          intro u m1 ⟨w1, w2, w3, w4, w5, w6⟩ ⟨y1, y2, y3⟩ hw
          have m3 := m1.tr w2
          refine ⟨w1, m3, fun r r1 r2 r3 r4 => ?_, w4.trans y1, w5.trans y2, w6.trans y3⟩
          by_cases e : r = x
          · rw [m3.2.2.2.2.1 75 (by decide), m3.2.2.2.2.1 74 (by decide)] at r4
            rw [e] at r3 r4 ⊢
            exact w2.1 x hxR (hw r3 r4)
          · exact w3 r (by omega) r2 r3 r4
        rcases m with ⟨c1, m⟩ | ⟨c1, m⟩
        · exact join s MoS.rf (ih.2 x s rr t m hF hI h14 hxR) ⟨rfl, rfl, rfl⟩ (fun a _ => absurd a (by omega))
        · rcases m with ⟨c2, m⟩ | ⟨c2, m⟩
          · exact join s MoS.rf (ih.2 x s rr t m hF hI h14 hxR) ⟨rfl, rfl, rfl⟩ (fun _ _ => c2)
          · rcases m with ⟨c3, s10, m10, _, _, m⟩ | ⟨c3, m⟩
            · obtain ⟨w1, w2, w3, w4, w5, w6⟩ := due_st hF hI h14 hxR c2 (by clear m; omega) c3 m10
              exact join s10 w2 (ih.2 x s10 rr t m (hF.mo w2) w1 (by rw [w5]; exact h14) hxR) ⟨w4, w5, w6⟩ (fun _ _ => w3)
            · exact join s MoS.rf (ih.2 x s rr t m hF hI h14 hxR) ⟨rfl, rfl, rfl⟩ (fun _ a => absurd a c3)
    · replace m := ul_X9_spreadDue_74 m
      unfold T_X9_spreadDue_74 at m
      obtain ⟨_, _, m⟩ := m
      exact ih.1 (x + 1) s rr t m hF hI h14 (by omega)
theorem spreadLeft12 (hS : 0 < S) : ∀ fu : Nat, (∀ (x : Nat) (s : PS) (rr : Int) (t : PS), It_X9_spreadLeft fu 12 ((S : Int) - 1) (x : Int) s rr t → FlS R K S sl fr D al pt cu X s → RgS R K S s → SrI R K S sl D al pt cu X g s → s 81 15 = 1 → x ≤ K → SrI R K S sl D al pt cu X g t ∧ MoS R K S gg s t ∧ (∀ k, x ≤ k → k < K → t 77 (24 * k + (S - 1)) = t 74 6 → Ws t k (S - 1)) ∧ t 81 10 = s 81 10 ∧ t 81 14 = s 81 14 ∧ t 81 15 = s 81 15) ∧ ∀ (x : Nat) (s : PS) (rr : Int) (t : PS), It_X9_spreadLeft fu 51 ((S : Int) - 1) (x : Int) s rr t → FlS R K S sl fr D al pt cu X s → RgS R K S s → SrI R K S sl D al pt cu X g s → s 81 15 = 1 → x < K → SrI R K S sl D al pt cu X g t ∧ MoS R K S gg s t ∧ (∀ k, x + 1 ≤ k → k < K → t 77 (24 * k + (S - 1)) = t 74 6 → Ws t k (S - 1)) ∧ t 81 10 = s 81 10 ∧ t 81 14 = s 81 14 ∧ t 81 15 = s 81 15
  | 0 => ⟨fun x s rr t m => False.elim m, fun x s rr t m => False.elim m⟩
  | fu + 1 => by
    have ih := spreadLeft12 hS fu
    refine ⟨fun x s rr t m hF hg hI h15 hx => ?_, fun x s rr t m hF hg hI h15 hx => ?_⟩
    · replace m := ul_X9_spreadLeft_12 m
      unfold T_X9_spreadLeft_12 at m
      obtain ⟨_, _, _, m⟩ := m
      rw [hF.1.1] at m
      rcases m with ⟨c, _, et⟩ | ⟨c, r3, s2, m2, _, _, _, m⟩
      · rw [et]
        exact ⟨hI, MoS.rf, fun k k1 k2 => absurd k2 (by omega), rfl, rfl, rfl⟩
      · have hxK : x < K := by
          clear m m2
          omega
        have ei : (((x : Int) * 24) + ((S : Int) - 1)) = ((24 * x + (S - 1) : Nat) : Int) := by
          clear m m2
          omega
        have es : (S : Int) - 1 = ((S - 1 : Nat) : Int) := by
          clear m m2
          omega
        rw [ei] at m2
        obtain ⟨e2, res⟩ := isFreeF m2
        rw [e2] at m
        have join : ∀ u : PS, MoS R K S gg s u → (SrI R K S sl D al pt cu X g t ∧ MoS R K S gg u t ∧ (∀ k, x + 1 ≤ k → k < K → t 77 (24 * k + (S - 1)) = t 74 6 → Ws t k (S - 1)) ∧ t 81 10 = u 81 10 ∧ t 81 14 = u 81 14 ∧ t 81 15 = u 81 15) → (u 81 10 = s 81 10 ∧ u 81 14 = s 81 14 ∧ u 81 15 = s 81 15) → (s 77 (24 * x + (S - 1)) = s 74 6 → Ws u x (S - 1)) → SrI R K S sl D al pt cu X g t ∧ MoS R K S gg s t ∧ (∀ k, x ≤ k → k < K → t 77 (24 * k + (S - 1)) = t 74 6 → Ws t k (S - 1)) ∧ t 81 10 = s 81 10 ∧ t 81 14 = s 81 14 ∧ t 81 15 = s 81 15 := by
          intro u m1 ⟨w1, w2, w3, w4, w5, w6⟩ ⟨y1, y2, y3⟩ hw
          have m3 := m1.tr w2
          refine ⟨w1, m3, fun k k1 k2 k3 => ?_, w4.trans y1, w5.trans y2, w6.trans y3⟩
          by_cases e : k = x
          · rw [m3.2.2.2.2.1 77 (by decide), m3.2.2.2.2.1 74 (by decide)] at k3
            rw [e] at k3 ⊢
            exact w2.2.1 x (S - 1) hxK (by omega) (hw k3)
          · exact w3 k (by omega) k2 k3
        rcases m with ⟨c1, m⟩ | ⟨c1, s7, m7, _, _, m⟩
        · refine join s MoS.rf (ih.2 x s rr t m hF hg hI h15 hxK) ⟨rfl, rfl, rfl⟩ (fun a => ?_)
          rcases res with ⟨_, y | y⟩ | ⟨y, _⟩
          · exact y
          · exact absurd a y
          · omega
        · rcases res with ⟨y, _⟩ | ⟨_, y1, y2⟩
          · exact absurd y c1
          · rw [es] at m7
            obtain ⟨w1, w2, w3, w4, w5, w6⟩ := spread_st hF hI hxK (show S - 1 < S by omega) y1 (hg.2 x (S - 1) hxK (by omega)) (Or.inr ⟨rfl, rfl, h15, y2⟩) (by omega) m7
            exact join s7 w2 (ih.2 x s7 rr t m (hF.mo w2) (hg.mo w2) w1 (by rw [w6]; exact h15) hxK) ⟨w4, w5, w6⟩ (fun _ => w3)
    · replace m := ul_X9_spreadLeft_51 m
      unfold T_X9_spreadLeft_51 at m
      obtain ⟨_, _, _, m⟩ := m
      exact ih.1 (x + 1) s rr t m hF hg hI h15 (by omega)
end Fnd
