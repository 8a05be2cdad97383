/-! the reference knows -/
section Knows
variable {s t u v : PS} {r r2 : Int} {L : LT} {S : KS} {c : CH} {k : Nat}
theorem cmTail {a n : Nat} {d : Nat → Int} {wl ws : List (List Nat)} {l m0 p co x y : Int} (hk : k ≤ 39) (ha : 1 ≤ a ∧ a ≤ 200) (hd : DtOk d wl) (hA : AtU a d wl s) (h : It_X12_comes n (k : Int) (a : Int) (d 1) 0 (us (us (us (us (us (us (us (us s 36 a (k : Int)) 27 k (d 1)) 28 k x) 29 k y) 30 k (d 2)) 31 k (d 3)) 32 k (d 4)) 35 k (wi (p + 1))) r t) (hx : x = min l (d 1)) (hy : y = max m0 (d 1)) (h26 : s 26 k = co) (hp : 0 ≤ p ∧ p ≤ 200) (hX : WsU ws k s) (ok : WsOk ws) : CU (co, d 1, min l (d 1), max m0 (d 1), d 2, d 3, d 4, p + 1, wl.foldl wadd ws) k t ∧ t 36 a = (k : Int) ∧ OtC k a s t := by
  rw [wi_id (by omega) (by omega)] at h
  generalize hv : us (us (us (us (us (us (us (us s 36 a (k : Int)) 27 k (d 1)) 28 k x) 29 k y) 30 k (d 2)) 31 k (d 3)) 32 k (d 4)) 35 k (p + 1) = s31 at h
  have ev := hv.symm
  have o1 : OtC k a s s31 := by
    rw [ev]
    exact OtC.us36.trans ((OtC.u1 (by decide)).trans ((OtC.u1 (by decide)).trans ((OtC.u1 (by decide)).trans ((OtC.u1 (by decide)).trans ((OtC.u1 (by decide)).trans ((OtC.u1 (by decide)).trans (OtC.u1 (by decide))))))))
  have X31 : WsU ws k s31 := by
    refine ⟨?_, fun j hj => ?_⟩
    · rw [ev, us_k (by decide), us_k (by decide), us_k (by decide), us_k (by decide), us_k (by decide), us_k (by decide), us_k (by decide), us_k (by decide)]
      exact hX.1
    · rw [ev, us_k (by decide), us_k (by decide), us_k (by decide), us_k (by decide), us_k (by decide), us_k (by decide), us_k (by decide), us_k (by decide)]
      exact hX.2 j hj
  have A31 : AtU a d wl s31 := by
    unfold AtU
    rw [o1.2.2.2 22 (by decide), o1.2.2.2 24 (by decide)]
    exact hA
  have h2 : It_X12_comes n (k : Int) (a : Int) (d 1) ((0 : Nat) : Int) s31 r t := h
  have z := cm138 (d := d) hk ha.2 hd.2.2.2.2.2.2 hd.2.2.2.2.2.1 n 0 s31 r t ws h2 X31 ok A31 (by decide)
  obtain ⟨z1, z2, z3⟩ := z
  rw [List.drop_zero] at z1
  refine ⟨⟨?_, ?_, ?_, ?_, ?_, ?_, ?_, ?_, z1.1, z1.2⟩, ?_, o1.trans z2⟩
  · rw [z3 26 (by decide) (by decide), ev, us_k (by decide), us_k (by decide), us_k (by decide), us_k (by decide), us_k (by decide), us_k (by decide), us_k (by decide), us_k (by decide)]
    exact h26
  · rw [z3 27 (by decide) (by decide), ev, us_k (by decide), us_k (by decide), us_k (by decide), us_k (by decide), us_k (by decide), us_k (by decide), us_at]
  · rw [z3 28 (by decide) (by decide), ev, us_k (by decide), us_k (by decide), us_k (by decide), us_k (by decide), us_k (by decide), us_at]
    exact hx
  · rw [z3 29 (by decide) (by decide), ev, us_k (by decide), us_k (by decide), us_k (by decide), us_k (by decide), us_at]
    exact hy
  · rw [z3 30 (by decide) (by decide), ev, us_k (by decide), us_k (by decide), us_k (by decide), us_at]
  · rw [z3 31 (by decide) (by decide), ev, us_k (by decide), us_k (by decide), us_at]
  · rw [z3 32 (by decide) (by decide), ev, us_k (by decide), us_at]
  · rw [z3 35 (by decide) (by decide), ev, us_at]
  · rw [z3 36 (by decide) (by decide), ev, us_k (by decide), us_k (by decide), us_k (by decide), us_k (by decide), us_k (by decide), us_k (by decide), us_k (by decide), us_at]
theorem comesM {a : Nat} {d : Nat → Int} {wl ws : List (List Nat)} {l m0 p co : Int} (hk : k ≤ 39) (ha : 1 ≤ a ∧ a ≤ 200) (hd : DtOk d wl) (hA : AtU a d wl s) (h : M_X12_comes s (k : Int) (a : Int) r t) (h26 : s 26 k = co) (h28 : s 28 k = l) (h29 : s 29 k = m0) (h35 : s 35 k = p) (hp : 0 ≤ p ∧ p ≤ 200) (hX : WsU ws k s) (ok : WsOk ws) : CU (co, d 1, min l (d 1), max m0 (d 1), d 2, d 3, d 4, p + 1, wl.foldl wadd ws) k t ∧ t 36 a = (k : Int) ∧ OtC k a s t := by
  obtain ⟨n, h⟩ := h
  unfold T_X12_comes_e at h
  have x1 : (5 * (a : Int) + 1).toNat = 5 * a + 1 := by omega
  have x2 : (5 * (a : Int) + 2).toNat = 5 * a + 2 := by omega
  have x3 : (5 * (a : Int) + 3).toNat = 5 * a + 3 := by omega
  have x4 : (5 * (a : Int) + 4).toNat = 5 * a + 4 := by omega
  rw [x1, x2, x3, x4, Int.toNat_natCast, Int.toNat_natCast, hA.1 1 (by decide), hA.1 2 (by decide), hA.1 3 (by decide), hA.1 4 (by decide), h28, h29, h35] at h
  obtain ⟨_, _, _, s1, e1, s2, e2, h⟩ := h
  rcases h with ⟨c1, s3, e3, ⟨c2, s4, e4, s5, e5', s6, e6, s7, e7, s8, e8', h⟩ | ⟨c2, s4, e4, s5, e5', s6, e6, s7, e7, s8, e8', h⟩⟩ | ⟨c1, s3, e3, ⟨c2, s4, e4, s5, e5', s6, e6, s7, e7, s8, e8', h⟩ | ⟨c2, s4, e4, s5, e5', s6, e6, s7, e7, s8, e8', h⟩⟩
  · rw [e8', e7, e6, e5', e4, e3, e2, e1] at h
    exact cmTail hk ha hd hA h (by omega) (by omega) h26 hp hX ok
  · rw [e8', e7, e6, e5', e4, e3, e2, e1] at h
    exact cmTail hk ha hd hA h (by omega) (by omega) h26 hp hX ok
  · rw [e8', e7, e6, e5', e4, e3, e2, e1] at h
    exact cmTail hk ha hd hA h (by omega) (by omega) h26 hp hX ok
  · rw [e8', e7, e6, e5', e4, e3, e2, e1] at h
    exact cmTail hk ha hd hA h (by omega) (by omega) h26 hp hX ok
/-- the children that the reference knows -/
def KCU (S : KS) (s : PS) : Prop := s 0 45 = (S.1 : Int) ∧ ∀ k, k < S.1 → CU (S.2.1 k) k s
def KU (S : KS) (a : Nat) (s : PS) : Prop := KCU S s ∧ ∀ x : Nat, 1 ≤ x → x ≤ a → s 36 x = S.2.2 x
theorem CU.ot {a k0 : Nat} (h : CU c k s) (ho : OtC k0 a s t) (hk : ¬ k = k0) (hw : (cWsh c).length ≤ 4) : CU c k t := by
  obtain ⟨h1, h2, h3, h4, h5, h6, h7, h8, h9, h10⟩ := h
  have lt := ho.2.1
  refine ⟨by rw [ho.2.2.2 26 (by decide)]; exact h1, by rw [ho.1 27 (by decide) k hk]; exact h2, by rw [ho.1 28 (by decide) k hk]; exact h3, by rw [ho.1 29 (by decide) k hk]; exact h4, by rw [ho.1 30 (by decide) k hk]; exact h5, by rw [ho.1 31 (by decide) k hk]; exact h6, by rw [ho.1 32 (by decide) k hk]; exact h7, by rw [ho.1 35 (by decide) k hk]; exact h8, by rw [ho.1 33 (by decide) k hk]; exact h9, fun j hj => ?_⟩
  rw [lt _ (by omega)]
  exact h10 j hj
/-- the act as known at which all is told -/
def nowU (u : PS) : Int := if u 0 39 = -1 then u 0 37 else u 0 39
theorem nowM (h : M_X12_now u r v) : v = u ∧ r = nowU u := by
  unfold M_X12_now T_X12_now_e at h
  obtain ⟨_, ⟨c, er, es⟩ | ⟨c, er, es⟩⟩ := h
  · refine ⟨es, ?_⟩
    unfold nowU
    rw [if_pos c]
    exact er
  · refine ⟨es, ?_⟩
    unfold nowU
    rw [if_neg c]
    exact er
theorem isSoM {a : Int} {A : Nat} (ha : a = (A : Int)) (h : M_X12_isSo u a r v) (hv : u 23 A = L.2.2.2.1 A) (hz : L.2.2.2.1 A = 0 ∨ 0 < L.2.2.2.1 A) : v = u ∧ ((r = 1 ∧ knwn L (nowU u) A = true) ∨ (r = 0 ∧ ¬ knwn L (nowU u) A = true)) := by
  unfold M_X12_isSo T_X12_isSo_e at h
  obtain ⟨_, _, r2, s1, m1, _, _, _, h⟩ := h
  obtain ⟨q1, q2⟩ := nowM m1
  subst q1
  have e : a.toNat = A := by omega
  rw [e, hv, q2] at h
  unfold knwn
  rcases h with ⟨c1, er, es⟩ | ⟨c1, ⟨c2, er, es⟩ | ⟨c2, r8, s7, m7, _, _, _, h⟩⟩
  · refine ⟨es, Or.inr ⟨er, fun z => ?_⟩⟩
    rw [Bool.and_eq_true] at z
    have := of_decide_eq_true z.1
    omega
  · refine ⟨es, Or.inl ⟨er, ?_⟩⟩
    rw [decide_eq_true (show (A : Int) ≤ nowU s1 by omega), decide_eq_true c2]
    rfl
  · obtain ⟨q7, q8⟩ := nowM m7
    subst q7
    rw [q8] at h
    rcases h with ⟨c3, er, es⟩ | ⟨c3, er, es⟩
    · refine ⟨es, Or.inr ⟨er, fun z => ?_⟩⟩
      rw [Bool.and_eq_true, Bool.or_eq_true] at z
      rcases z.2 with y | y
      · exact c2 (of_decide_eq_true y)
      · have := of_decide_eq_true y
        omega
    · refine ⟨es, Or.inl ⟨er, ?_⟩⟩
      rw [decide_eq_true (show (A : Int) ≤ nowU s7 by omega), decide_eq_true (show nowU s7 < L.2.2.2.1 A by omega), Bool.or_true]
      rfl
theorem kn46 {a : Nat} {kn now : Int} (hO : LOk kn L) (ha : 1 ≤ a ∧ a ≤ L.1) (hL2 : L.1 ≤ 200) (h0 : L.2.1 a = 0) (hkn : knwn L now a = true) (hS : KsOk (a - 1) S) : ∀ (n i : Nat) (x : Int) (s : PS) (r : Int) (t : PS), It_X12_knows n 46 (a : Int) x (i : Int) s r t → LU L s → KU S (a - 1) s → s 36 a = -1 → i ≤ S.1 → (x = -1 ∧ (∀ j, j < i → L.2.2.1 a 0 = 0 ∨ ¬ cCode (S.2.1 j) = L.2.2.1 a 0) ∨ ∃ j : Nat, j < i ∧ x = (j : Int) ∧ ¬ L.2.2.1 a 0 = 0 ∧ cCode (S.2.1 j) = L.2.2.1 a 0) → ∃ (m : Nat) (s1 : PS), m ≤ n ∧ It_X12_knows m 7 ((a : Int) + 1) 0 0 s1 r t ∧ KU (knStep L now S a) a s1 ∧ (∀ k, ¬ k = 0 → ¬ (26 ≤ k ∧ k ≤ 36) → s1 k = s k) ∧ ∀ j, ¬ j = 45 → s1 0 j = s 0 j
  | 0, i, x, s, r, t, h, _, _, _, _, _ => False.elim h
  | n + 1, i, x, s, r, t, h, hL, hK, h36, hi, hx => by
    replace h := ul_X12_knows_46 h
    unfold T_X12_knows_46 at h
    obtain ⟨_, _, _, _, h⟩ := h
    have g := hL.2 a ha.1 ha.2
    have g4 := g.2.2.2 h0
    have dt := hO.dt ha.1 ha.2 h0
    have hA : AtU a (L.2.2.1 a) (L.2.2.2.2 a) s := ⟨g4.1, g4.2.1, g4.2.2⟩
    have i0 : (5 * (a : Int)).toNat = 5 * a + 0 := by omega
    have i1 : (5 * (a : Int) + 1).toNat = 5 * a + 1 := by omega
    rw [i0, i1, hA.1 0 (by decide), hA.1 1 (by decide), hK.1.1] at h
    have un : knStep L now S a = (if kfd (L.2.2.1 a 0) S.1 S.2.1 < S.1 then S.upd a (kfd (L.2.2.1 a 0) S.1 S.2.1) (cupd (L.2.2.1 a) (L.2.2.2.2 a) (S.2.1 (kfd (L.2.2.1 a 0) S.1 S.2.1))) else if S.1 < 40 then S.new a (cupd (L.2.2.1 a) (L.2.2.2.2 a) (cnew (L.2.2.1 a))) else S.no a) := by
      unfold knStep
      rw [if_pos ⟨h0, hkn⟩]
    have s40 := hS.1
    have wl4 : ∀ j, j < S.1 → (cWsh (S.2.1 j)).length ≤ 4 := fun j hj => (hS.2.2.1 j hj).2.2.2.2.2.2.2.2.1
    rcases h with ⟨c1, h⟩ | ⟨c1, h⟩
    · have ei : i = S.1 := by clear h; omega
      subst ei
      have fno : x = -1 → kfd (L.2.2.1 a 0) S.1 S.2.1 = S.1 := by
        intro ex
        refine fndF_eq (Nat.le_refl _) (fun z => absurd z (Nat.lt_irrefl _)) (fun j hj e => ?_)
        rw [Bool.and_eq_true] at e
        rcases hx with ⟨_, z⟩ | ⟨j2, _, z, _⟩
        · rcases z j hj with y | y
          · exact (of_decide_eq_true e.1) y
          · exact y (of_decide_eq_true e.2)
        · omega
      rcases h with ⟨c2, h⟩ | ⟨c2, _, s4, m4, _, _, h⟩
      · have nf := fno c2
        rw [un, nf, if_neg (Nat.lt_irrefl _)]
        rcases h with ⟨c3, h⟩ | ⟨c3, _, s10, e10, s12, e12, s14, e14, s15, e15, s16, e16, s17, e17, s18, m18, f18, _, h⟩
        · rw [if_neg (by clear h; omega)]
          refine ⟨n, s, by omega, h, ⟨hK.1, fun y h1 h2 => ?_⟩, fun _ _ _ => rfl, fun _ _ => rfl⟩
          by_cases q : y = a
          · subst q
            rw [h36]
            exact (if_pos rfl).symm
          · rw [hK.2 y h1 (by omega)]
            exact (if_neg (by omega)).symm
        · rw [if_pos (by clear h m18; omega)]
          rw [Int.toNat_natCast] at e12 e14 e15 e16 e17
          have ev : s17 = us (us (us (us (us (us s 0 45 ((S.1 : Int) + 1)) 26 S.1 (L.2.2.1 a 0)) 28 S.1 (L.2.2.1 a 1)) 29 S.1 (L.2.2.1 a 1)) 33 S.1 0) 35 S.1 0 := by rw [e17, e16, e15, e14, e12, e10]
          have fr : ∀ m, ¬ m = 0 → ¬ (26 ≤ m ∧ m ≤ 36) → s17 m = s m := fun m h1 hm => by rw [ev, us_k (by omega), us_k (by omega), us_k (by omega), us_k (by omega), us_k (by omega), us_k (by omega)]
          have oth : ∀ m, 26 ≤ m → m ≤ 36 → ∀ j, ¬ j = S.1 → s17 m j = s m j := fun m h1 h2 j hj => by rw [ev, us_n (by omega), us_n (by omega), us_n (by omega), us_n (by omega), us_n (by omega), us_n (by omega)]
          have e34 : s17 34 = s 34 := by rw [ev, us_k (by decide), us_k (by decide), us_k (by decide), us_k (by decide), us_k (by decide), us_k (by decide)]
          have e36 : s17 36 = s 36 := by rw [ev, us_k (by decide), us_k (by decide), us_k (by decide), us_k (by decide), us_k (by decide), us_k (by decide)]
          have A17 : AtU a (L.2.2.1 a) (L.2.2.2.2 a) s17 := by
            unfold AtU
            rw [fr 22 (by decide) (by decide), fr 24 (by decide) (by decide)]
            exact hA
          have z := comesM (k := S.1) (ws := []) (l := L.2.2.1 a 1) (m0 := L.2.2.1 a 1) (p := 0) (co := L.2.2.1 a 0) (by clear h m18; omega) ⟨ha.1, by omega⟩ dt A17 m18 (by rw [ev, us_k (by decide), us_k (by decide), us_k (by decide), us_k (by decide), us_at]) (by rw [ev, us_k (by decide), us_k (by decide), us_k (by decide), us_at]) (by rw [ev, us_k (by decide), us_k (by decide), us_at]) (by rw [ev, us_at]) (by decide) ⟨by rw [ev, us_k (by decide), us_at]; rfl, fun j hj => absurd hj (Nat.not_lt_zero _)⟩ ⟨Nat.zero_le _, fun w hw => absurd hw List.not_mem_nil⟩
          obtain ⟨z1, z2, z3⟩ := z
          refine ⟨n, s18, by omega, h, ⟨⟨?_, fun j hj => ?_⟩, fun y h1 h2 => ?_⟩, fun m h1 h2 => by rw [z3.2.2.2 m (by omega), fr m h1 h2], fun j hj => ?_⟩
          · rw [z3.2.2.2 0 (by decide), ev, us_k (by decide), us_k (by decide), us_k (by decide), us_k (by decide), us_k (by decide), us_at]
            rfl
          · have hj2 : j < S.1 + 1 := hj
            show CU (if j = S.1 then cupd (L.2.2.1 a) (L.2.2.2.2 a) (cnew (L.2.2.1 a)) else S.2.1 j) j s18
            by_cases y : j = S.1
            · rw [if_pos y, y]
              exact z1
            · rw [if_neg y]
              have o := hK.1.2 j (by omega)
              have o2 : CU (S.2.1 j) j s17 := by
                obtain ⟨o1, o2, o3, o4, o5, o6, o7, o8, o9, o10⟩ := o
                refine ⟨by rw [oth 26 (by decide) (by decide) j y]; exact o1, by rw [oth 27 (by decide) (by decide) j y]; exact o2, by rw [oth 28 (by decide) (by decide) j y]; exact o3, by rw [oth 29 (by decide) (by decide) j y]; exact o4, by rw [oth 30 (by decide) (by decide) j y]; exact o5, by rw [oth 31 (by decide) (by decide) j y]; exact o6, by rw [oth 32 (by decide) (by decide) j y]; exact o7, by rw [oth 35 (by decide) (by decide) j y]; exact o8, by rw [oth 33 (by decide) (by decide) j y]; exact o9, by rw [e34]; exact o10⟩
              exact o2.ot z3 y (wl4 j (by omega))
          · by_cases q : y = a
            · subst q
              rw [z2]
              exact (if_pos rfl).symm
            · rw [z3.2.2.1 y q, e36, hK.2 y h1 (by omega)]
              exact (if_neg (by omega)).symm
          · rw [z3.2.2.2 0 (by decide), ev, us_k (by decide), us_k (by decide), us_k (by decide), us_k (by decide), us_k (by decide), us_j hj]
      · rcases hx with ⟨z, _⟩ | ⟨k0, f2, f1, nz, cc⟩
        · exact absurd z c2
        · have kf : kfd (L.2.2.1 a 0) S.1 S.2.1 = k0 := by
            refine fndF_eq (by omega) (fun _ => by rw [decide_eq_true nz, decide_eq_true cc]; rfl) (fun j hj e => ?_)
            rw [Bool.and_eq_true] at e
            have e2 := of_decide_eq_true e.2
            have := hS.2.2.2.1 k0 j f2 (by omega) (by rw [cc, e2]) (by rw [cc]; exact nz)
            omega
          rw [un, kf, if_pos f2]
          rw [f1] at m4
          have o := hK.1.2 k0 f2
          have ok := hS.2.2.1 k0 f2
          have z := comesM (k := k0) (ws := cWsh (S.2.1 k0)) (co := cCode (S.2.1 k0)) (l := cLst (S.2.1 k0)) (m0 := cMst (S.2.1 k0)) (p := cRep (S.2.1 k0)) (by clear h m4; omega) ⟨ha.1, by omega⟩ dt hA m4 o.1 o.2.2.1 o.2.2.2.1 o.2.2.2.2.2.2.2.1 (by have := ok.2.2.2.2.2.2.2.1; clear h m4; omega) ⟨o.2.2.2.2.2.2.2.2.1, o.2.2.2.2.2.2.2.2.2⟩ ok.2.2.2.2.2.2.2.2
          obtain ⟨z1, z2, z3⟩ := z
          refine ⟨n, s4, by omega, h, ⟨⟨?_, fun j hj => ?_⟩, fun y h1 h2 => ?_⟩, fun m h1 h2 => z3.2.2.2 m (by omega), fun j hj => by rw [z3.2.2.2 0 (by decide)]⟩
          · rw [z3.2.2.2 0 (by decide)]
            exact hK.1.1
          · show CU (if j = k0 then cupd (L.2.2.1 a) (L.2.2.2.2 a) (S.2.1 k0) else S.2.1 j) j s4
            by_cases y : j = k0
            · rw [if_pos y, y]
              exact z1
            · rw [if_neg y]
              exact (hK.1.2 j hj).ot z3 y (wl4 j hj)
          · by_cases q : y = a
            · subst q
              rw [z2]
              exact (if_pos rfl).symm
            · rw [z3.2.2.1 y q, hK.2 y h1 (by omega)]
              exact (if_neg (by omega)).symm
    · have hi2 : i < S.1 := by clear h; omega
      rw [Int.toNat_natCast, (hK.1.2 i hi2).1] at h
      have recu : ∀ x2 : Int, It_X12_knows n 46 (a : Int) x2 ((i : Int) + 1) s r t → (x2 = -1 ∧ (∀ j, j < i + 1 → L.2.2.1 a 0 = 0 ∨ ¬ cCode (S.2.1 j) = L.2.2.1 a 0) ∨ ∃ j : Nat, j < i + 1 ∧ x2 = (j : Int) ∧ ¬ L.2.2.1 a 0 = 0 ∧ cCode (S.2.1 j) = L.2.2.1 a 0) → ∃ (m : Nat) (s1 : PS), m ≤ n + 1 ∧ It_X12_knows m 7 ((a : Int) + 1) 0 0 s1 r t ∧ KU (knStep L now S a) a s1 ∧ (∀ k, ¬ k = 0 → ¬ (26 ≤ k ∧ k ≤ 36) → s1 k = s k) ∧ ∀ j, ¬ j = 45 → s1 0 j = s 0 j := by
        intro x2 h2 hx2
        have h3 : It_X12_knows n 46 (a : Int) x2 ((i + 1 : Nat) : Int) s r t := h2
        obtain ⟨m, s1, q1, q2⟩ := kn46 hO ha hL2 h0 hkn hS n (i + 1) x2 s r t h3 hL hK h36 (by omega) hx2
        exact ⟨m, s1, by omega, q2⟩
      have keep : L.2.2.1 a 0 = 0 ∨ ¬ cCode (S.2.1 i) = L.2.2.1 a 0 → (x = -1 ∧ (∀ j, j < i + 1 → L.2.2.1 a 0 = 0 ∨ ¬ cCode (S.2.1 j) = L.2.2.1 a 0) ∨ ∃ j : Nat, j < i + 1 ∧ x = (j : Int) ∧ ¬ L.2.2.1 a 0 = 0 ∧ cCode (S.2.1 j) = L.2.2.1 a 0) := by
        intro hc
        rcases hx with ⟨z1, z2⟩ | ⟨j, z1, z2⟩
        · refine Or.inl ⟨z1, fun j hj => ?_⟩
          by_cases q : j = i
          · rw [q]
            exact hc
          · exact z2 j (by omega)
        · exact Or.inr ⟨j, by omega, z2⟩
      rcases h with ⟨c2, h⟩ | ⟨c2, ⟨c3, h⟩ | ⟨c3, h⟩⟩
      · exact recu x h (keep (Or.inl c2))
      · exact recu _ h (Or.inr ⟨i, by omega, rfl, c2, c3⟩)
      · exact recu x h (keep (Or.inr c3))
theorem kn7 {kn : Int} (hO : LOk kn L) (hL2 : L.1 ≤ 200) : ∀ (N n a : Nat) (s : PS) (r : Int) (t : PS), n ≤ N → It_X12_knows n 7 ((a : Int) + 1) 0 0 s r t → LU L s → a ≤ L.1 → KU (knAll L (nowU s) a) a s → KU (knAll L (nowU s) L.1) L.1 t ∧ (∀ k, ¬ k = 0 → ¬ (26 ≤ k ∧ k ≤ 36) → t k = s k) ∧ ∀ j, ¬ j = 45 → t 0 j = s 0 j
  | N, 0, a, s, r, t, _, h, _, _, _ => False.elim h
  | 0, n + 1, a, s, r, t, hN, _, _, _, _ => absurd hN (by omega)
  | N + 1, n + 1, a, s, r, t, hN, h, hL, ha, hK => by
    replace h := ul_X12_knows_7 h
    unfold T_X12_knows_7 at h
    obtain ⟨_, _, h⟩ := h
    rw [hL.1] at h
    rcases h with ⟨c1, _, es⟩ | ⟨c1, s27, e27, h⟩
    · have e : a = L.1 := by omega
      rw [es, ← e]
      exact ⟨hK, fun _ _ _ => rfl, fun _ _ => rfl⟩
    · have ha2 : a + 1 ≤ L.1 := by clear h; omega
      have ix : ((a : Int) + 1).toNat = a + 1 := by omega
      have g := hL.2 (a + 1) (by omega) ha2
      have gv := (hO (a + 1) (by omega) ha2).2.2.2
      rw [ix] at e27
      rw [ix, g.1] at h
      have f27 : ∀ k, ¬ k = 36 → s27 k = s k := fun k hk => by rw [e27, us_k hk]
      have L27 : LU L s27 := hL.cg (by rw [f27 0 (by decide)]) (f27 21 (by decide)) (f27 22 (by decide)) (f27 23 (by decide)) (f27 24 (by decide))
      have n27 : nowU s27 = nowU s := by
        unfold nowU
        rw [f27 0 (by decide)]
      have C27 : KCU (knAll L (nowU s) a) s27 := by
        refine ⟨by rw [f27 0 (by decide)]; exact hK.1.1, fun k hk => ?_⟩
        have q := hK.1.2 k hk
        unfold CU
        rw [f27 26 (by decide), f27 27 (by decide), f27 28 (by decide), f27 29 (by decide), f27 30 (by decide), f27 31 (by decide), f27 32 (by decide), f27 33 (by decide), f27 34 (by decide), f27 35 (by decide)]
        exact q
      have K27 : KU (knAll L (nowU s) a) a s27 := ⟨C27, fun x h1 h2 => by rw [e27, us_j (by omega)]; exact hK.2 x h1 h2⟩
      have h36 : s27 36 (a + 1) = -1 := by rw [e27, us_at]
      have no : ¬ (L.2.1 (a + 1) = 0 ∧ knwn L (nowU s) (a + 1) = true) → KU (knAll L (nowU s) (a + 1)) (a + 1) s27 := by
        intro z
        have un : knAll L (nowU s) (a + 1) = (knAll L (nowU s) a).no (a + 1) := by
          show knStep L (nowU s) (knAll L (nowU s) a) (a + 1) = _
          unfold knStep
          rw [if_neg z]
        rw [un]
        refine ⟨C27, fun x h1 h2 => ?_⟩
        by_cases y : x = a + 1
        · subst y
          rw [h36]
          exact (if_pos rfl).symm
        · rw [K27.2 x h1 (by omega)]
          exact (if_neg (by omega)).symm
      have go : ∀ (m : Nat) (s1 : PS), m ≤ N → It_X12_knows m 7 ((a : Int) + 1 + 1) 0 0 s1 r t → KU (knAll L (nowU s) (a + 1)) (a + 1) s1 → (∀ k, ¬ k = 0 → ¬ (26 ≤ k ∧ k ≤ 36) → s1 k = s27 k) → (∀ j, ¬ j = 45 → s1 0 j = s27 0 j) → KU (knAll L (nowU s) L.1) L.1 t ∧ (∀ k, ¬ k = 0 → ¬ (26 ≤ k ∧ k ≤ 36) → t k = s k) ∧ ∀ j, ¬ j = 45 → t 0 j = s 0 j := by
        intro m s1 hm h1 q1 q2 q3
        have n1 : nowU s1 = nowU s := by
          rw [← n27]
          unfold nowU
          rw [q3 39 (by decide), q3 37 (by decide)]
        have h2 : It_X12_knows m 7 (((a + 1 : Nat) : Int) + 1) 0 0 s1 r t := h1
        have z := kn7 hO hL2 N m (a + 1) s1 r t hm h2 (L27.cg (q3 37 (by decide)) (q2 21 (by decide) (by decide)) (q2 22 (by decide) (by decide)) (q2 23 (by decide) (by decide)) (q2 24 (by decide) (by decide))) ha2 (by rw [n1]; exact q1)
        rw [n1] at z
        exact ⟨z.1, fun k h1 h2 => by rw [z.2.1 k h1 h2, q2 k h1 h2, f27 k (by omega)], fun j hj => by rw [z.2.2 j hj, q3 j hj, f27 0 (by decide)]⟩
      rcases h with ⟨c2, r31, s30, m30, _, _, _, h⟩ | ⟨c2, h⟩
      · have gz : L.2.2.2.1 (a + 1) = 0 ∨ 0 < L.2.2.2.1 (a + 1) := by
          rcases gv with z | z
          · exact Or.inl z
          · exact Or.inr (by omega)
        obtain ⟨q30, k30⟩ := isSoM (L := L) (A := a + 1) rfl m30 (L27.2 (a + 1) (by omega) ha2).2.2.1 gz
        subst q30
        rw [n27] at k30
        rcases h with ⟨c3, h⟩ | ⟨c3, h⟩
        · refine go n s30 (by omega) h (no (fun z => ?_)) (fun _ _ _ => rfl) (fun _ _ => rfl)
          rcases k30 with y | y
          · omega
          · exact y.2 z.2
        · have yk : knwn L (nowU s) (a + 1) = true := by
            rcases k30 with y | y
            · exact y.2
            · omega
          have h3 : It_X12_knows n 46 ((a + 1 : Nat) : Int) (-1) ((0 : Nat) : Int) s30 r t := h
          obtain ⟨m, s1, q1, q2, q3, q4, q5⟩ := kn46 (now := nowU s) hO ⟨by omega, ha2⟩ hL2 c2 yk (S := knAll L (nowU s) a) (knAll_ok hO a ha) n 0 (-1) s30 r t h3 L27 K27 h36 (Nat.zero_le _) (Or.inl ⟨rfl, fun j hj => absurd hj (Nat.not_lt_zero _)⟩)
          exact go m s1 (by omega) q2 q3 q4 q5
      · exact go n s27 (by omega) h (no (fun z => c2 z.1)) (fun _ _ _ => rfl) (fun _ _ => rfl)
theorem knowsM {kn : Int} (hL : LU L s) (hO : LOk kn L) (hL2 : L.1 ≤ 200) (h : M_X12_knows s r t) : KU (knAll L (nowU s) L.1) L.1 t ∧ (∀ k, ¬ k = 0 → ¬ (26 ≤ k ∧ k ≤ 36) → t k = s k) ∧ ∀ j, ¬ j = 45 → t 0 j = s 0 j := by
  obtain ⟨n, h⟩ := h
  unfold T_X12_knows_e at h
  obtain ⟨_, s1, e1, h⟩ := h
  have h2 : It_X12_knows n 7 (((0 : Nat) : Int) + 1) 0 0 s1 r t := h
  have n1 : nowU s1 = nowU s := by
    unfold nowU
    rw [e1, us_j (by decide), us_j (by decide)]
  have z := kn7 hO hL2 n n 0 s1 r t (Nat.le_refl _) h2 (hL.cg (by rw [e1, us_j (by decide)]) (by rw [e1, us_k (by decide)]) (by rw [e1, us_k (by decide)]) (by rw [e1, us_k (by decide)]) (by rw [e1, us_k (by decide)])) (Nat.zero_le _) ⟨⟨by rw [e1, us_at]; rfl, fun k hk => absurd hk (Nat.not_lt_zero _)⟩, fun x h1 h2 => absurd h1 (by omega)⟩
  rw [n1] at z
  exact ⟨z.1, fun k h1 h2 => by rw [z.2.1 k h1 h2, e1, us_k (by omega)], fun j hj => by rw [z.2.2 j hj, e1, us_j hj]⟩
end Knows
