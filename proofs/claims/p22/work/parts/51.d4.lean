/-! the class's value of a piece of code -/
section ValL1
variable {A : List (List Nat)} {full : Int} {lf : OPc → Int}
/-- a piece of the class's code comes to what its codes come to -/
theorem valueL1 {p2 p3 v : Int} : ∀ (l : List OPc) (m i : Nat) (y : Int) (st : List Int) (s : PS) (r : Int) (t : PS), It_X5_value_1 m 6 p2 p3 full (st.length : Int) (i : Int) y s r t → (∀ (j : Nat) (h : j < l.length), OpX A l[j] (s 14 (i + j))) → p3 = (i : Int) + (l.length : Int) → SkX st s → LfX 7 full A lf s → evX lf full l st = [v] → r = v ∧ ∀ k, ¬ k = 63 → t k = s k
  | [], m, i, y, st, s, r, t, h, _, hp, hS, _, he => by
    cases m with
    | zero => exact False.elim h
    | succ m =>
      have h := ul_X5_value_1_6 h
      unfold T_X5_value_1_6 at h
      have e2 : st = [v] := he
      rw [List.length_nil] at hp
      obtain ⟨_, _, _, _, _, _, ⟨_, ⟨c2, _⟩ | ⟨_, hr, ht⟩⟩ | ⟨c, _⟩⟩ := h
      · rw [e2] at c2
        exact absurd c2 (show ¬ (1 : Int) ≤ 0 by decide)
      · rw [e2] at hS
        have z : s 63 0 = v := hS.1
        exact ⟨hr.trans z, fun k _ => by rw [ht]⟩
      · omega
  | o :: l, m, i, y, st, s, r, t, h, hO, hp, hS, hL, he => by
    have hlen : (o :: l).length = l.length + 1 := List.length_cons
    have go : ∀ (m : Nat) (st2 : List Int) (s2 : PS) (y2 : Int), It_X5_value_1 m 137 p2 p3 full (st2.length : Int) (i : Int) y2 s2 r t → SkX st2 s2 → (∀ k, ¬ k = 63 → s2 k = s k) → stX lf full o st = st2 → r = v ∧ ∀ k, ¬ k = 63 → t k = s k := by
      intro m st2 s2 y2 h hS2 hk e
      cases m with
      | zero => exact False.elim h
      | succ m =>
        have h := ul_X5_value_1_137 h
        unfold T_X5_value_1_137 at h
        obtain ⟨_, _, _, _, _, _, _, h⟩ := h
        have he2 : evX lf full l st2 = [v] := by
          rw [← e]
          exact he
        have hL2 : LfX 7 full A lf s2 := by
          intro x
          rw [hk 61 (by decide), hk 62 (by decide), hk 7 (by decide)]
          exact hL x
        have k := valueL1 l m (i + 1) 0 st2 s2 r t h (fun j hj => by
          have z := hO (j + 1) (by omega)
          rw [hk 14 (by decide), show i + 1 + j = i + (j + 1) by omega]
          exact z) (by omega) hS2 hL2 he2
        exact ⟨k.1, fun x hx => (k.2 x hx).trans (hk x hx)⟩
    cases m with
    | zero => exact False.elim h
    | succ m =>
      have h := ul_X5_value_1_6 h
      unfold T_X5_value_1_6 at h
      obtain ⟨_, _, _, _, _, _, h⟩ := h
      obtain ⟨n, k, hz, hn, hk, hK⟩ := hO 0 (by omega)
      have hz2 : s 14 i = ((16 * n + k : Nat) : Int) := hz
      rw [Int.toNat_natCast, hz2, and15 hn hk, shr4 hn hk] at h
      have hK2 : KdX A o n k := hK
      rcases h with ⟨c, _⟩ | ⟨c, ⟨c2, ⟨c3, h⟩ | ⟨c3, h⟩⟩ | ⟨c2, h⟩⟩
      · omega
      · have o18 : o.1 = 18 := by
          clear h
          rcases hK2 with ⟨k1, _⟩ | ⟨_, k1, _⟩ | ⟨k1, _⟩ | ⟨k1, _⟩ | ⟨k1, _⟩ | ⟨k1, _⟩ | hK2 <;> omega
        cases st with
        | nil =>
          rcases h with ⟨_, h⟩ | ⟨c4, _⟩
          · exact go m [] s _ h hS (fun _ _ => rfl) (if_neg (by omega))
          · exact absurd (show ((([] : List Int).length : Nat) : Int) ≤ 0 by decide) c4
        | cons a st =>
          have e1 : (((a :: st).length : Nat) : Int) - 1 = (st.length : Int) := by
            rw [List.length_cons]
            omega
          rcases h with ⟨c4, _⟩ | ⟨_, s2, es, h⟩
          · rw [List.length_cons] at c4
            omega
          · rw [e1, Int.toNat_natCast, hS.1] at es
            refine go m (iXor a full :: st) s2 _ h ⟨by rw [es, us_at], hS.2.cg (fun j hj => by rw [es, us_j (by omega)])⟩ (fun x hx => by rw [es, us_k hx]) ?_
            cases st with
            | nil =>
              show (if o.1 ≤ 9 then _ else if o.1 = 18 then _ else _) = _
              rw [if_neg (by omega), if_pos o18]
            | cons b st =>
              show (if o.1 ≤ 9 then _ else if o.1 = 18 then _ else _) = _
              rw [if_neg (by omega), if_pos o18]
      · have o2 : ¬ o.1 ≤ 9 ∧ ¬ o.1 = 18 := by
          clear h
          rcases hK2 with ⟨k1, _⟩ | ⟨_, k1, _⟩ | ⟨k1, _⟩ | ⟨k1, _⟩ | ⟨k1, _⟩ | ⟨k1, _⟩ | hK2 <;> omega
        cases st with
        | nil =>
          rcases h with ⟨_, h⟩ | ⟨c4, _⟩
          · exact go m [] s _ h hS (fun _ _ => rfl) (if_neg o2.1)
          · exact absurd (show ((([] : List Int).length : Nat) : Int) ≤ 1 by decide) c4
        | cons b st =>
          cases st with
          | nil =>
            rcases h with ⟨_, h⟩ | ⟨c4, _⟩
            · refine go m [b] s _ h hS (fun _ _ => rfl) ?_
              show (if o.1 ≤ 9 then _ else if o.1 = 18 then _ else _) = _
              rw [if_neg o2.1, if_neg o2.2]
            · exact absurd (show (1 : Int) ≤ 1 by decide) c4
          | cons a st =>
            have e1 : (((b :: a :: st).length : Nat) : Int) + (-1) = ((a :: st).length : Int) := by
              rw [List.length_cons, List.length_cons]
              omega
            have e2 : ((a :: st).length : Int) - 1 = (st.length : Int) := by
              rw [List.length_cons]
              omega
            rcases h with ⟨c4, _⟩ | ⟨_, r1, s1, hm, _, _, s2, es, h⟩
            · rw [List.length_cons, List.length_cons] at c4
              omega
            · rw [e1, e2, Int.toNat_natCast, Int.toNat_natCast, hS.1, hS.2.1] at hm
              rw [e1, e2, Int.toNat_natCast] at es
              rw [e1] at h
              obtain ⟨g1, g2⟩ := joinX hm hK2 o2.1 o2.2
              rw [g2, g1] at es
              exact go m (jnX o.1 a b :: st) s2 _ h ⟨by rw [es, us_at], hS.2.2.cg (fun j hj => by rw [es, us_j (by omega)])⟩ (fun x hx => by rw [es, us_k hx]) (stX_2 o2.1 o2.2 st)
      · have o9 : o.1 ≤ 9 := by
          clear h
          rcases hK2 with ⟨k1, _⟩ | ⟨_, k1, _⟩ | ⟨k1, _⟩ | ⟨k1, _⟩ | ⟨k1, _⟩ | ⟨k1, _⟩ | hK2 <;> omega
        rcases h with ⟨c3, h⟩ | ⟨c3, r1, s1, hm, _, _, s2, es, h⟩
        · refine go m st s _ h hS (fun _ _ => rfl) ?_
          cases st with
          | nil => exact absurd c3 (by decide)
          | cons b st =>
            cases st with
            | nil => exact absurd c3 (show ¬ (64 : Int) ≤ 1 by decide)
            | cons a st =>
              rw [List.length_cons, List.length_cons] at c3
              show (if o.1 ≤ 9 then (if st.length + 2 < 64 then _ else _) else _) = _
              rw [if_pos o9, if_neg (by omega)]
        · obtain ⟨g1, g2⟩ := leafX1 hm hK2 o9 hL
          rw [Int.toNat_natCast, g1, g2] at es
          exact go m (lf o :: st) s2 _ h ⟨by rw [es, us_at], hS.cg (fun j hj => by rw [es, us_j (by omega)])⟩ (fun x hx => by rw [es, us_k hx]) (stX_lf o9 st (by omega))
end ValL1
section ValL16
variable {A : List (List Nat)} {full : Int} {lf : OPc → Int}
/-- a piece of the class's code comes to what its codes come to -/
theorem valueL16 {p2 p3 v : Int} : ∀ (l : List OPc) (m i : Nat) (y : Int) (st : List Int) (s : PS) (r : Int) (t : PS), It_X5_value_16 m 6 p2 p3 full (st.length : Int) (i : Int) y s r t → (∀ (j : Nat) (h : j < l.length), OpX A l[j] (s 29 (i + j))) → p3 = (i : Int) + (l.length : Int) → SkX st s → LfX 22 full A lf s → evX lf full l st = [v] → r = v ∧ ∀ k, ¬ k = 63 → t k = s k
  | [], m, i, y, st, s, r, t, h, _, hp, hS, _, he => by
    cases m with
    | zero => exact False.elim h
    | succ m =>
      have h := ul_X5_value_16_6 h
      unfold T_X5_value_16_6 at h
      have e2 : st = [v] := he
      rw [List.length_nil] at hp
      obtain ⟨_, _, _, _, _, ⟨_, ⟨c2, _⟩ | ⟨_, hr, ht⟩⟩ | ⟨c, _⟩⟩ := h
      · rw [e2] at c2
        exact absurd c2 (show ¬ (1 : Int) ≤ 0 by decide)
      · rw [e2] at hS
        have z : s 63 0 = v := hS.1
        exact ⟨hr.trans z, fun k _ => by rw [ht]⟩
      · omega
  | o :: l, m, i, y, st, s, r, t, h, hO, hp, hS, hL, he => by
    have hlen : (o :: l).length = l.length + 1 := List.length_cons
    have go : ∀ (m : Nat) (st2 : List Int) (s2 : PS) (y2 : Int), It_X5_value_16 m 137 p2 p3 full (st2.length : Int) (i : Int) y2 s2 r t → SkX st2 s2 → (∀ k, ¬ k = 63 → s2 k = s k) → stX lf full o st = st2 → r = v ∧ ∀ k, ¬ k = 63 → t k = s k := by
      intro m st2 s2 y2 h hS2 hk e
      cases m with
      | zero => exact False.elim h
      | succ m =>
        have h := ul_X5_value_16_137 h
        unfold T_X5_value_16_137 at h
        obtain ⟨_, _, _, _, _, _, h⟩ := h
        have he2 : evX lf full l st2 = [v] := by
          rw [← e]
          exact he
        have hL2 : LfX 22 full A lf s2 := by
          intro x
          rw [hk 61 (by decide), hk 62 (by decide), hk 22 (by decide)]
          exact hL x
        have k := valueL16 l m (i + 1) 0 st2 s2 r t h (fun j hj => by
          have z := hO (j + 1) (by omega)
          rw [hk 29 (by decide), show i + 1 + j = i + (j + 1) by omega]
          exact z) (by omega) hS2 hL2 he2
        exact ⟨k.1, fun x hx => (k.2 x hx).trans (hk x hx)⟩
    cases m with
    | zero => exact False.elim h
    | succ m =>
      have h := ul_X5_value_16_6 h
      unfold T_X5_value_16_6 at h
      obtain ⟨_, _, _, _, _, h⟩ := h
      obtain ⟨n, k, hz, hn, hk, hK⟩ := hO 0 (by omega)
      have hz2 : s 29 i = ((16 * n + k : Nat) : Int) := hz
      rw [Int.toNat_natCast, hz2, and15 hn hk, shr4 hn hk] at h
      have hK2 : KdX A o n k := hK
      rcases h with ⟨c, _⟩ | ⟨c, ⟨c2, ⟨c3, h⟩ | ⟨c3, h⟩⟩ | ⟨c2, h⟩⟩
      · omega
      · have o18 : o.1 = 18 := by
          clear h
          rcases hK2 with ⟨k1, _⟩ | ⟨_, k1, _⟩ | ⟨k1, _⟩ | ⟨k1, _⟩ | ⟨k1, _⟩ | ⟨k1, _⟩ | hK2 <;> omega
        cases st with
        | nil =>
          rcases h with ⟨_, h⟩ | ⟨c4, _⟩
          · exact go m [] s _ h hS (fun _ _ => rfl) (if_neg (by omega))
          · exact absurd (show ((([] : List Int).length : Nat) : Int) ≤ 0 by decide) c4
        | cons a st =>
          have e1 : (((a :: st).length : Nat) : Int) - 1 = (st.length : Int) := by
            rw [List.length_cons]
            omega
          rcases h with ⟨c4, _⟩ | ⟨_, s2, es, h⟩
          · rw [List.length_cons] at c4
            omega
          · rw [e1, Int.toNat_natCast, hS.1] at es
            refine go m (iXor a full :: st) s2 _ h ⟨by rw [es, us_at], hS.2.cg (fun j hj => by rw [es, us_j (by omega)])⟩ (fun x hx => by rw [es, us_k hx]) ?_
            cases st with
            | nil =>
              show (if o.1 ≤ 9 then _ else if o.1 = 18 then _ else _) = _
              rw [if_neg (by omega), if_pos o18]
            | cons b st =>
              show (if o.1 ≤ 9 then _ else if o.1 = 18 then _ else _) = _
              rw [if_neg (by omega), if_pos o18]
      · have o2 : ¬ o.1 ≤ 9 ∧ ¬ o.1 = 18 := by
          clear h
          rcases hK2 with ⟨k1, _⟩ | ⟨_, k1, _⟩ | ⟨k1, _⟩ | ⟨k1, _⟩ | ⟨k1, _⟩ | ⟨k1, _⟩ | hK2 <;> omega
        cases st with
        | nil =>
          rcases h with ⟨_, h⟩ | ⟨c4, _⟩
          · exact go m [] s _ h hS (fun _ _ => rfl) (if_neg o2.1)
          · exact absurd (show ((([] : List Int).length : Nat) : Int) ≤ 1 by decide) c4
        | cons b st =>
          cases st with
          | nil =>
            rcases h with ⟨_, h⟩ | ⟨c4, _⟩
            · refine go m [b] s _ h hS (fun _ _ => rfl) ?_
              show (if o.1 ≤ 9 then _ else if o.1 = 18 then _ else _) = _
              rw [if_neg o2.1, if_neg o2.2]
            · exact absurd (show (1 : Int) ≤ 1 by decide) c4
          | cons a st =>
            have e1 : (((b :: a :: st).length : Nat) : Int) + (-1) = ((a :: st).length : Int) := by
              rw [List.length_cons, List.length_cons]
              omega
            have e2 : ((a :: st).length : Int) - 1 = (st.length : Int) := by
              rw [List.length_cons]
              omega
            rcases h with ⟨c4, _⟩ | ⟨_, r1, s1, hm, _, _, s2, es, h⟩
            · rw [List.length_cons, List.length_cons] at c4
              omega
            · rw [e1, e2, Int.toNat_natCast, Int.toNat_natCast, hS.1, hS.2.1] at hm
              rw [e1, e2, Int.toNat_natCast] at es
              rw [e1] at h
              obtain ⟨g1, g2⟩ := joinX hm hK2 o2.1 o2.2
              rw [g2, g1] at es
              exact go m (jnX o.1 a b :: st) s2 _ h ⟨by rw [es, us_at], hS.2.2.cg (fun j hj => by rw [es, us_j (by omega)])⟩ (fun x hx => by rw [es, us_k hx]) (stX_2 o2.1 o2.2 st)
      · have o9 : o.1 ≤ 9 := by
          clear h
          rcases hK2 with ⟨k1, _⟩ | ⟨_, k1, _⟩ | ⟨k1, _⟩ | ⟨k1, _⟩ | ⟨k1, _⟩ | ⟨k1, _⟩ | hK2 <;> omega
        rcases h with ⟨c3, h⟩ | ⟨c3, r1, s1, hm, _, _, s2, es, h⟩
        · refine go m st s _ h hS (fun _ _ => rfl) ?_
          cases st with
          | nil => exact absurd c3 (by decide)
          | cons b st =>
            cases st with
            | nil => exact absurd c3 (show ¬ (64 : Int) ≤ 1 by decide)
            | cons a st =>
              rw [List.length_cons, List.length_cons] at c3
              show (if o.1 ≤ 9 then (if st.length + 2 < 64 then _ else _) else _) = _
              rw [if_pos o9, if_neg (by omega)]
        · obtain ⟨g1, g2⟩ := leafX16 hm hK2 o9 hL
          rw [Int.toNat_natCast, g1, g2] at es
          exact go m (lf o :: st) s2 _ h ⟨by rw [es, us_at], hS.cg (fun j hj => by rw [es, us_j (by omega)])⟩ (fun x hx => by rw [es, us_k hx]) (stX_lf o9 st (by omega))
end ValL16
