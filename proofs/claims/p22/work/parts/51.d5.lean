/-! the reference's value of a piece of code -/
theorem heldM {s t : PS} {r v : Int} (h : M_X12_held s v r t) : r = bnd v ∧ t = s := by
  unfold M_X12_held T_X12_held_e at h
  unfold bnd
  obtain ⟨_, ⟨c, ⟨c2, hr, ht⟩ | ⟨c2, hr, ht⟩⟩ | ⟨c, hr, ht⟩⟩ := h
  · exact ⟨by omega, ht⟩
  · exact ⟨by omega, ht⟩
  · exact ⟨by omega, ht⟩
theorem twoM {s t : PS} {r a b : Int} {o : OPc} (h : M_X12_two s (o.1 : Int) a b r t) (h9 : ¬ o.1 ≤ 9) (h18 : o.1 ≤ 17) : r = jnR o.1 a b ∧ t = s := by
  unfold M_X12_two T_X12_two_e at h
  obtain ⟨_, _, h⟩ := h
  rcases h with ⟨c, r2, s2, hm, _, _, hr, ht⟩ | ⟨c, ⟨c2, r2, s2, hm, _, _, hr, ht⟩ | ⟨c2, ⟨c3, r2, s2, hm, _, _, hr, ht⟩ | ⟨c3, ⟨c4, h⟩ | ⟨c4, ⟨c5, h⟩ | ⟨c5, ⟨c6, h⟩ | ⟨c6, ⟨c7, hr, ht⟩ | ⟨c7, h⟩⟩⟩⟩⟩⟩⟩
  · have e : o.1 = 10 := by omega
    obtain ⟨g1, g2⟩ := heldM hm
    rw [e, hr, ht, jnR_10]
    exact ⟨g1, g2⟩
  · have e : o.1 = 11 := by omega
    obtain ⟨g1, g2⟩ := heldM hm
    rw [e, hr, ht, jnR_11]
    exact ⟨g1, g2⟩
  · have e : o.1 = 12 := by omega
    obtain ⟨g1, g2⟩ := heldM hm
    rw [e, hr, ht, jnR_12]
    exact ⟨g1, g2⟩
  · have e : o.1 = 13 := by
      clear h
      omega
    rw [e, jnR_13]
    rcases h with ⟨d, hr, ht⟩ | ⟨d, hr, ht⟩
    · rw [if_pos d]
      exact ⟨hr, ht⟩
    · rw [if_neg d]
      exact ⟨hr, ht⟩
  · have e : o.1 = 14 := by
      clear h
      omega
    rw [e, jnR_14]
    rcases h with ⟨d, hr, ht⟩ | ⟨d, hr, ht⟩
    · rw [if_pos d]
      exact ⟨hr, ht⟩
    · rw [if_neg d]
      exact ⟨hr, ht⟩
  · have e : o.1 = 15 := by
      clear h
      omega
    rw [e, jnR_15]
    rcases h with ⟨d, hr, ht⟩ | ⟨d, hr, ht⟩
    · rw [if_pos d]
      exact ⟨hr, ht⟩
    · rw [if_neg d]
      exact ⟨hr, ht⟩
  · have e : o.1 = 16 := by omega
    rw [e, jnR_16]
    exact ⟨hr, ht⟩
  · have e : o.1 = 17 := by
      clear h
      omega
    rw [e, jnR_17]
    rcases h with ⟨d, hr, ht⟩ | ⟨d, hr, ht⟩
    · rw [if_pos d]
      exact ⟨hr, ht⟩
    · rw [if_neg d]
      exact ⟨hr, ht⟩
section WorksL
variable {lf : OPc → Int} {a : Nat} {Pd : OPc → Prop}
theorem worksL {p1 p2 c kd v : Int} {s0 : PS} (hleaf : ∀ (i : Nat) (o : OPc) (s : PS) (r : Int) (t : PS), Pd o → (∀ k, ¬ k = 37 → s k = s0 k) → OpM a s i o → o.1 ≤ 9 → M_X12_leaf s (o.1 : Int) (i : Int) o.2.1 c kd r t → r = lf o ∧ t = s) : ∀ (l : List OPc) (m i : Nat) (st : List Int) (s : PS) (r : Int) (t : PS), It_X12_works m p1 p2 c kd (st.length : Int) (i : Int) s r t → (∀ k, ¬ k = 37 → s k = s0 k) → (∀ (j : Nat) (h : j < l.length), OpM a s (i + j) l[j]) → p2 = (i : Int) + (l.length : Int) → s 0 12 = (a : Int) → SkM st s → (∀ o ∈ l, o.1 ≤ 18 ∧ Pd o) → evR lf l st = some [v] → r = v ∧ ∀ k, ¬ k = 37 → t k = s k
  | [], m, i, st, s, r, t, h, _, _, hp, _, hS, _, he => by
    cases m with
    | zero => exact False.elim h
    | succ m =>
      have h := ul_X12_works_6 h
      unfold T_X12_works_6 at h
      have e2 : st = [v] := Option.some.inj he
      rw [List.length_nil] at hp
      obtain ⟨_, _, _, _, _, _, _, ⟨_, hr, ht⟩ | ⟨c, _⟩⟩ := h
      · rw [e2] at hS
        have z : s 37 0 = v := hS.1
        exact ⟨hr.trans z, fun k _ => by rw [ht]⟩
      · omega
  | o :: l, m, i, st, s, r, t, h, h0, hO, hp, hb, hS, ho, he => by
    have hlen : (o :: l).length = l.length + 1 := List.length_cons
    have he0 : (stR lf o st).bind (evR lf l) = some [v] := he
    have go : ∀ (m : Nat) (st2 : List Int) (s2 : PS), It_X12_works m p1 p2 c kd (st2.length : Int) ((i : Int) + 1) s2 r t → SkM st2 s2 → (∀ k, ¬ k = 37 → s2 k = s k) → stR lf o st = some st2 → r = v ∧ ∀ k, ¬ k = 37 → t k = s k := by
      intro m st2 s2 h hS2 hk e
      rw [e] at he0
      have k := worksL hleaf l m (i + 1) st2 s2 r t h (fun x hx => (hk x hx).trans (h0 x hx)) (fun j hj => by
        have z := hO (j + 1) (by omega)
        unfold OpM at z ⊢
        rw [hk 13 (by decide), hk 15 (by decide), show i + 1 + j = i + (j + 1) by omega]
        exact z) (by omega) (by rw [hk 0 (by decide)]; exact hb) hS2 (fun x hx => ho x (List.mem_cons_of_mem _ hx)) he0
      exact ⟨k.1, fun x hx => (k.2 x hx).trans (hk x hx)⟩
    cases m with
    | zero => exact False.elim h
    | succ m =>
      have h := ul_X12_works_6 h
      unfold T_X12_works_6 at h
      have hO0 : OpM a s i o := hO 0 (by omega)
      have o18 := (ho o List.mem_cons_self).1
      obtain ⟨z1, z2, z3⟩ := id hO0
      have i1 : (2200 * s 0 12 + 2 * (i : Int)).toNat = 2200 * a + 2 * i := by omega
      have i2 : (2200 * s 0 12 + 2 * (i : Int) + 1).toNat = 2200 * a + 2 * i + 1 := by omega
      rw [i1, i2, z1, z2] at h
      obtain ⟨_, _, _, _, _, _, _, h⟩ := h
      rcases h with ⟨c1, _⟩ | ⟨c1, ⟨c2, ⟨c3, s2, es, h⟩ | ⟨c3, r1, s1, hm, _, _, s2, es, h⟩⟩ | ⟨c2, r1, s1, hm, _, _, s2, es, h⟩⟩
      · omega
      · have e18 : o.1 = 18 := by omega
        cases st with
        | nil =>
          have e : stR lf o [] = none := if_neg (by omega)
          rw [e] at he0
          cases he0
        | cons b st =>
          have e1 : (((b :: st).length : Nat) : Int) - 1 = (st.length : Int) := by
            rw [List.length_cons]
            omega
          rw [e1, Int.toNat_natCast, hS.1] at es
          refine go m (wl (1 - b) :: st) s2 h ⟨by rw [es, us_at], hS.2.cg (fun j hj => by rw [es, us_j (by omega)])⟩ (fun x hx => by rw [es, us_k hx]) ?_
          cases st with
          | nil =>
            show (if o.1 ≤ 9 then _ else if o.1 = 18 then _ else _) = _
            rw [if_neg (by omega), if_pos e18]
          | cons d st =>
            show (if o.1 ≤ 9 then _ else if o.1 = 18 then _ else _) = _
            rw [if_neg (by omega), if_pos e18]
      · have o9 : ¬ o.1 ≤ 9 := by omega
        have n18 : ¬ o.1 = 18 := by omega
        cases st with
        | nil =>
          have e : stR lf o [] = none := if_neg o9
          rw [e] at he0
          cases he0
        | cons b st =>
          cases st with
          | nil =>
            have e : stR lf o [b] = none := by
              show (if o.1 ≤ 9 then _ else if o.1 = 18 then _ else _) = _
              rw [if_neg o9, if_neg n18]
            rw [e] at he0
            cases he0
          | cons d st =>
            have e1 : (((b :: d :: st).length : Nat) : Int) + (-1) = ((d :: st).length : Int) := by
              rw [List.length_cons, List.length_cons]
              omega
            have e2 : ((d :: st).length : Int) - 1 = (st.length : Int) := by
              rw [List.length_cons]
              omega
            rw [e1, e2, Int.toNat_natCast, Int.toNat_natCast, hS.1, hS.2.1] at hm
            rw [e1, e2, Int.toNat_natCast] at es
            rw [e1] at h
            obtain ⟨g1, g2⟩ := twoM hm o9 (by omega)
            rw [g2, g1] at es
            exact go m (jnR o.1 d b :: st) s2 h ⟨by rw [es, us_at], hS.2.2.cg (fun j hj => by rw [es, us_j (by omega)])⟩ (fun x hx => by rw [es, us_k hx]) (stR_2 o9 n18 st)
      · have o9 : o.1 ≤ 9 := by omega
        obtain ⟨g1, g2⟩ := hleaf i o s r1 s1 (ho o List.mem_cons_self).2 h0 hO0 o9 hm
        rw [Int.toNat_natCast, g1, g2] at es
        exact go m (lf o :: st) s2 h ⟨by rw [es, us_at], hS.cg (fun j hj => by rw [es, us_j (by omega)])⟩ (fun x hx => by rw [es, us_k hx]) (stR_lf o9 st)
end WorksL
