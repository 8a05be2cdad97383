def T_X4_countRight_1_4 (K : Nat → Int → Int → Int → Int → PS → Int → PS → Prop) (x4_2 x4_3 : Int) (s_w4 : PS) (rr : Int) (ss : PS) : Prop := ((TyX s_w4) ∧ ((0 ≤ x4_3 ∧ x4_3 ≤ 40) ∧ (((s_w4 88 1) ≤ x4_3 ∧ (rr = x4_2 ∧ ss = s_w4)) ∨ (¬ ((s_w4 88 1) ≤ x4_3) ∧ (∃ r_4 : Int, (∃ s_w_3 : PS, ((M_X4_isRight_1 s_w4 x4_3 r_4 s_w_3) ∧ ((Fr intsX [] [] s_w4 s_w_3) ∧ ((TyX s_w_3) ∧ ((0 ≤ r_4 ∧ r_4 ≤ 1) ∧ ((r_4 = 0 ∧ (K 27 x4_2 x4_3 0 x4_2 s_w_3 rr ss)) ∨ (¬ (r_4 = 0) ∧ (K 27 x4_2 x4_3 1 x4_2 s_w_3 rr ss)))))))))))))
def T_X4_countRight_1_27 (K : Nat → Int → Int → Int → Int → PS → Int → PS → Prop) (x27_2 x27_3 y27_0 y27_1 : Int) (s_w27 : PS) (rr : Int) (ss : PS) : Prop := ((TyX s_w27) ∧ ((0 ≤ x27_3 ∧ x27_3 ≤ 39) ∧ ((0 ≤ y27_0 ∧ y27_0 ≤ 1) ∧ (K 4 (wi (y27_1 + y27_0)) (x27_3 + 1) 0 0 s_w27 rr ss))))
def T_X4_countRight_1_e (K : Nat → Int → Int → Int → Int → PS → Int → PS → Prop) (s_w : PS) (rr : Int) (ss : PS) : Prop := ((TyX s_w) ∧ (K 4 0 0 0 0 s_w rr ss))
def It_X4_countRight_1 : Nat → Nat → Int → Int → Int → Int → PS → Int → PS → Prop
  | 0, _, _, _, _, _, _, _, _ => False
  | n + 1, pc, a0, a1, a2, a3, s, r, t => (pc = 4 ∧ T_X4_countRight_1_4 (It_X4_countRight_1 n) a0 a1 s r t) ∨ (pc = 27 ∧ T_X4_countRight_1_27 (It_X4_countRight_1 n) a0 a1 a2 a3 s r t)
theorem rl_X4_countRight_1_4 {n : Nat} {a0 a1 : Int} {s t : PS} {r : Int} (h : T_X4_countRight_1_4 (It_X4_countRight_1 n) a0 a1 s r t) : It_X4_countRight_1 (n + 1) 4 a0 a1 0 0 s r t := Or.inl ⟨rfl, h⟩
theorem rl_X4_countRight_1_27 {n : Nat} {a0 a1 a2 a3 : Int} {s t : PS} {r : Int} (h : T_X4_countRight_1_27 (It_X4_countRight_1 n) a0 a1 a2 a3 s r t) : It_X4_countRight_1 (n + 1) 27 a0 a1 a2 a3 s r t := Or.inr (⟨rfl, h⟩)
theorem ul_X4_countRight_1_4 {n : Nat} {a0 a1 a2 a3 : Int} {s t : PS} {r : Int} (h : It_X4_countRight_1 (n + 1) 4 a0 a1 a2 a3 s r t) : T_X4_countRight_1_4 (It_X4_countRight_1 n) a0 a1 s r t := by
  have h2 : ((4 : Nat) = 4 ∧ T_X4_countRight_1_4 (It_X4_countRight_1 n) a0 a1 s r t) ∨ ((4 : Nat) = 27 ∧ T_X4_countRight_1_27 (It_X4_countRight_1 n) a0 a1 a2 a3 s r t) := h
  rcases h2 with ⟨e, h2⟩ | ⟨e, h2⟩
  · exact h2
  · exact absurd e (by decide)
theorem ul_X4_countRight_1_27 {n : Nat} {a0 a1 a2 a3 : Int} {s t : PS} {r : Int} (h : It_X4_countRight_1 (n + 1) 27 a0 a1 a2 a3 s r t) : T_X4_countRight_1_27 (It_X4_countRight_1 n) a0 a1 a2 a3 s r t := by
  have h2 : ((27 : Nat) = 4 ∧ T_X4_countRight_1_4 (It_X4_countRight_1 n) a0 a1 s r t) ∨ ((27 : Nat) = 27 ∧ T_X4_countRight_1_27 (It_X4_countRight_1 n) a0 a1 a2 a3 s r t) := h
  rcases h2 with ⟨e, h2⟩ | ⟨e, h2⟩
  · exact absurd e (by decide)
  · exact h2
def M_X4_countRight_1 (s : PS) (r : Int) (t : PS) : Prop := ∃ n, T_X4_countRight_1_e (It_X4_countRight_1 n) s r t
theorem mk_X4_countRight_1 {n : Nat} {s t : PS} {r : Int} (h : T_X4_countRight_1_e (It_X4_countRight_1 n) s r t) : M_X4_countRight_1 s r t := ⟨n, h⟩
def T_X11_right_e (s_w : PS) (rr : Int) (ss : PS) : Prop := ((TyX s_w) ∧ (((s_w 88 0) = 0 ∧ (rr = (-1) ∧ ss = s_w)) ∨ (¬ ((s_w 88 0) = 0) ∧ (∃ r_3 : Int, (∃ s_w_2 : PS, ((M_X4_countRight_1 s_w r_3 s_w_2) ∧ ((Fr intsX [] [] s_w s_w_2) ∧ ((TyX s_w_2) ∧ (rr = r_3 ∧ ss = s_w_2)))))))))
def M_X11_right (s : PS) (r : Int) (t : PS) : Prop := T_X11_right_e s r t
theorem mk_X11_right {s t : PS} {r : Int} (h : T_X11_right_e s r t) : M_X11_right s r t := h
def T_X0_farOf_1_4 (K : Nat → Int → Int → Int → PS → Int → PS → Prop) (x4_0 x4_2 x4_3 : Int) (s_w4 : PS) (rr : Int) (ss : PS) : Prop := ((TyX s_w4) ∧ ((0 ≤ x4_2 ∧ x4_2 ≤ 2147483647) ∧ ((0 ≤ x4_3 ∧ x4_3 ≤ 10) ∧ (((s_w4 1 0) ≤ x4_3 ∧ (rr = x4_2 ∧ ss = s_w4)) ∨ (¬ ((s_w4 1 0) ≤ x4_3) ∧ (((iAnd (iShr x4_0 x4_3) 1) = 0 ∧ (K 31 x4_0 x4_2 x4_3 s_w4 rr ss)) ∨ (¬ ((iAnd (iShr x4_0 x4_3) 1) = 0) ∧ (K 31 x4_0 (max x4_2 (s_w4 5 x4_3.toNat)) x4_3 s_w4 rr ss))))))))
def T_X0_farOf_1_31 (K : Nat → Int → Int → Int → PS → Int → PS → Prop) (x31_0 x31_2 x31_3 : Int) (s_w31 : PS) (rr : Int) (ss : PS) : Prop := ((TyX s_w31) ∧ ((0 ≤ x31_2 ∧ x31_2 ≤ 2147483647) ∧ ((0 ≤ x31_3 ∧ x31_3 ≤ 9) ∧ (K 4 x31_0 x31_2 (x31_3 + 1) s_w31 rr ss))))
def T_X0_farOf_1_e (K : Nat → Int → Int → Int → PS → Int → PS → Prop) (s_w : PS) (p0 : Int) (rr : Int) (ss : PS) : Prop := ((TyX s_w) ∧ (K 4 p0 0 0 s_w rr ss))
def It_X0_farOf_1 : Nat → Nat → Int → Int → Int → PS → Int → PS → Prop
  | 0, _, _, _, _, _, _, _ => False
  | n + 1, pc, a0, a1, a2, s, r, t => (pc = 4 ∧ T_X0_farOf_1_4 (It_X0_farOf_1 n) a0 a1 a2 s r t) ∨ (pc = 31 ∧ T_X0_farOf_1_31 (It_X0_farOf_1 n) a0 a1 a2 s r t)
theorem rl_X0_farOf_1_4 {n : Nat} {a0 a1 a2 : Int} {s t : PS} {r : Int} (h : T_X0_farOf_1_4 (It_X0_farOf_1 n) a0 a1 a2 s r t) : It_X0_farOf_1 (n + 1) 4 a0 a1 a2 s r t := Or.inl ⟨rfl, h⟩
theorem rl_X0_farOf_1_31 {n : Nat} {a0 a1 a2 : Int} {s t : PS} {r : Int} (h : T_X0_farOf_1_31 (It_X0_farOf_1 n) a0 a1 a2 s r t) : It_X0_farOf_1 (n + 1) 31 a0 a1 a2 s r t := Or.inr (⟨rfl, h⟩)
theorem ul_X0_farOf_1_4 {n : Nat} {a0 a1 a2 : Int} {s t : PS} {r : Int} (h : It_X0_farOf_1 (n + 1) 4 a0 a1 a2 s r t) : T_X0_farOf_1_4 (It_X0_farOf_1 n) a0 a1 a2 s r t := by
  have h2 : ((4 : Nat) = 4 ∧ T_X0_farOf_1_4 (It_X0_farOf_1 n) a0 a1 a2 s r t) ∨ ((4 : Nat) = 31 ∧ T_X0_farOf_1_31 (It_X0_farOf_1 n) a0 a1 a2 s r t) := h
  rcases h2 with ⟨e, h2⟩ | ⟨e, h2⟩
  · exact h2
  · exact absurd e (by decide)
theorem ul_X0_farOf_1_31 {n : Nat} {a0 a1 a2 : Int} {s t : PS} {r : Int} (h : It_X0_farOf_1 (n + 1) 31 a0 a1 a2 s r t) : T_X0_farOf_1_31 (It_X0_farOf_1 n) a0 a1 a2 s r t := by
  have h2 : ((31 : Nat) = 4 ∧ T_X0_farOf_1_4 (It_X0_farOf_1 n) a0 a1 a2 s r t) ∨ ((31 : Nat) = 31 ∧ T_X0_farOf_1_31 (It_X0_farOf_1 n) a0 a1 a2 s r t) := h
  rcases h2 with ⟨e, h2⟩ | ⟨e, h2⟩
  · exact absurd e (by decide)
  · exact h2
def M_X0_farOf_1 (s : PS) (p0 : Int) (r : Int) (t : PS) : Prop := ∃ n, T_X0_farOf_1_e (It_X0_farOf_1 n) s p0 r t
theorem mk_X0_farOf_1 {n : Nat} {s t : PS} {p0 : Int} {r : Int} (h : T_X0_farOf_1_e (It_X0_farOf_1 n) s p0 r t) : M_X0_farOf_1 s p0 r t := ⟨n, h⟩
def T_X0_insert_5 (K : Nat → Int → Int → Int → PS → Int → PS → Prop) (x5_1 x5_2 x5_3 : Int) (s_w5 : PS) (rr : Int) (ss : PS) : Prop := ((TyX s_w5) ∧ ((0 ≤ x5_1 ∧ x5_1 ≤ 39) ∧ ((0 ≤ x5_2 ∧ x5_2 ≤ 2147483647) ∧ ((0 ≤ x5_3 ∧ x5_3 ≤ 39) ∧ ((x5_3 ≤ 0 ∧ (K 55 x5_1 x5_2 x5_3 s_w5 rr ss)) ∨ (¬ (x5_3 ≤ 0) ∧ ((x5_2 ≤ (s_w5 104 (x5_3 - 1).toNat) ∧ (K 55 x5_1 x5_2 x5_3 s_w5 rr ss)) ∨ (¬ (x5_2 ≤ (s_w5 104 (x5_3 - 1).toNat)) ∧ (∃ s_w_7 : PS, s_w_7 = (us s_w5 104 x5_3.toNat (s_w5 104 (x5_3 - 1).toNat)) ∧ (∃ s_w_9 : PS, s_w_9 = (us s_w_7 103 x5_3.toNat (s_w5 103 (x5_3 - 1).toNat)) ∧ (K 5 x5_1 x5_2 (x5_3 + (-1)) s_w_9 rr ss)))))))))))
def T_X0_insert_55 (K : Nat → Int → Int → Int → PS → Int → PS → Prop) (x55_1 x55_2 x55_3 : Int) (s_w55 : PS) (rr : Int) (ss : PS) : Prop := ((TyX s_w55) ∧ ((0 ≤ x55_1 ∧ x55_1 ≤ 39) ∧ ((0 ≤ x55_2 ∧ x55_2 ≤ 2147483647) ∧ ((0 ≤ x55_3 ∧ x55_3 ≤ 39) ∧ (∃ s_w_1 : PS, s_w_1 = (us s_w55 104 x55_3.toNat x55_2) ∧ (∃ s_w_2 : PS, s_w_2 = (us s_w_1 103 x55_3.toNat x55_1) ∧ (∃ s_w_3 : PS, s_w_3 = (us s_w_2 102 0 ((s_w55 102 0) + 1)) ∧ (rr = 0 ∧ ss = s_w_3))))))))
def T_X0_insert_e (K : Nat → Int → Int → Int → PS → Int → PS → Prop) (s_w : PS) (p1 p2 : Int) (rr : Int) (ss : PS) : Prop := ((TyX s_w) ∧ ((0 ≤ p1 ∧ p1 ≤ 39) ∧ ((0 ≤ p2 ∧ p2 ≤ 2147483647) ∧ (K 5 p1 p2 (s_w 102 0) s_w rr ss))))
def It_X0_insert : Nat → Nat → Int → Int → Int → PS → Int → PS → Prop
  | 0, _, _, _, _, _, _, _ => False
  | n + 1, pc, a0, a1, a2, s, r, t => (pc = 5 ∧ T_X0_insert_5 (It_X0_insert n) a0 a1 a2 s r t) ∨ (pc = 55 ∧ T_X0_insert_55 (It_X0_insert n) a0 a1 a2 s r t)
theorem rl_X0_insert_5 {n : Nat} {a0 a1 a2 : Int} {s t : PS} {r : Int} (h : T_X0_insert_5 (It_X0_insert n) a0 a1 a2 s r t) : It_X0_insert (n + 1) 5 a0 a1 a2 s r t := Or.inl ⟨rfl, h⟩
theorem rl_X0_insert_55 {n : Nat} {a0 a1 a2 : Int} {s t : PS} {r : Int} (h : T_X0_insert_55 (It_X0_insert n) a0 a1 a2 s r t) : It_X0_insert (n + 1) 55 a0 a1 a2 s r t := Or.inr (⟨rfl, h⟩)
theorem ul_X0_insert_5 {n : Nat} {a0 a1 a2 : Int} {s t : PS} {r : Int} (h : It_X0_insert (n + 1) 5 a0 a1 a2 s r t) : T_X0_insert_5 (It_X0_insert n) a0 a1 a2 s r t := by
  have h2 : ((5 : Nat) = 5 ∧ T_X0_insert_5 (It_X0_insert n) a0 a1 a2 s r t) ∨ ((5 : Nat) = 55 ∧ T_X0_insert_55 (It_X0_insert n) a0 a1 a2 s r t) := h
  rcases h2 with ⟨e, h2⟩ | ⟨e, h2⟩
  · exact h2
  · exact absurd e (by decide)
theorem ul_X0_insert_55 {n : Nat} {a0 a1 a2 : Int} {s t : PS} {r : Int} (h : It_X0_insert (n + 1) 55 a0 a1 a2 s r t) : T_X0_insert_55 (It_X0_insert n) a0 a1 a2 s r t := by
  have h2 : ((55 : Nat) = 5 ∧ T_X0_insert_5 (It_X0_insert n) a0 a1 a2 s r t) ∨ ((55 : Nat) = 55 ∧ T_X0_insert_55 (It_X0_insert n) a0 a1 a2 s r t) := h
  rcases h2 with ⟨e, h2⟩ | ⟨e, h2⟩
  · exact absurd e (by decide)
  · exact h2
def M_X0_insert (s : PS) (p1 p2 : Int) (r : Int) (t : PS) : Prop := ∃ n, T_X0_insert_e (It_X0_insert n) s p1 p2 r t
theorem mk_X0_insert {n : Nat} {s t : PS} {p1 p2 : Int} {r : Int} (h : T_X0_insert_e (It_X0_insert n) s p1 p2 r t) : M_X0_insert s p1 p2 r t := ⟨n, h⟩
def T_X0_sort_88_1_7 (K : Nat → Int → PS → Int → PS → Prop) (x7_3 : Int) (s_w7 : PS) (rr : Int) (ss : PS) : Prop := ((TyX s_w7) ∧ ((0 ≤ x7_3 ∧ x7_3 ≤ 40) ∧ (((s_w7 88 1) ≤ x7_3 ∧ (rr = 0 ∧ ss = s_w7)) ∨ (¬ ((s_w7 88 1) ≤ x7_3) ∧ (((s_w7 95 x7_3.toNat) = 0 ∧ (K 39 x7_3 s_w7 rr ss)) ∨ (¬ ((s_w7 95 x7_3.toNat) = 0) ∧ (∃ r_5 : Int, (∃ s_w_4 : PS, ((M_X0_farOf_1 s_w7 (s_w7 95 x7_3.toNat) r_5 s_w_4) ∧ ((Fr intsX [] [] s_w7 s_w_4) ∧ ((TyX s_w_4) ∧ ((0 ≤ r_5 ∧ r_5 ≤ 2147483647) ∧ (∃ s_w_7 : PS, ((M_X0_insert s_w_4 x7_3 r_5 0 s_w_7) ∧ ((Fr intsX [102, 103, 104] [(102, 0)] s_w_4 s_w_7) ∧ ((TyX s_w_7) ∧ (K 39 x7_3 s_w_7 rr ss)))))))))))))))))
def T_X0_sort_88_1_39 (K : Nat → Int → PS → Int → PS → Prop) (x39_3 : Int) (s_w39 : PS) (rr : Int) (ss : PS) : Prop := ((TyX s_w39) ∧ ((0 ≤ x39_3 ∧ x39_3 ≤ 39) ∧ (K 7 (x39_3 + 1) s_w39 rr ss)))
def T_X0_sort_88_1_e (K : Nat → Int → PS → Int → PS → Prop) (s_w : PS) (rr : Int) (ss : PS) : Prop := ((TyX s_w) ∧ (∃ s_w_12 : PS, s_w_12 = (us s_w 102 0 0) ∧ (K 7 0 s_w_12 rr ss)))
def It_X0_sort_88_1 : Nat → Nat → Int → PS → Int → PS → Prop
  | 0, _, _, _, _, _ => False
  | n + 1, pc, a0, s, r, t => (pc = 7 ∧ T_X0_sort_88_1_7 (It_X0_sort_88_1 n) a0 s r t) ∨ (pc = 39 ∧ T_X0_sort_88_1_39 (It_X0_sort_88_1 n) a0 s r t)
theorem rl_X0_sort_88_1_7 {n : Nat} {a0 : Int} {s t : PS} {r : Int} (h : T_X0_sort_88_1_7 (It_X0_sort_88_1 n) a0 s r t) : It_X0_sort_88_1 (n + 1) 7 a0 s r t := Or.inl ⟨rfl, h⟩
theorem rl_X0_sort_88_1_39 {n : Nat} {a0 : Int} {s t : PS} {r : Int} (h : T_X0_sort_88_1_39 (It_X0_sort_88_1 n) a0 s r t) : It_X0_sort_88_1 (n + 1) 39 a0 s r t := Or.inr (⟨rfl, h⟩)
theorem ul_X0_sort_88_1_7 {n : Nat} {a0 : Int} {s t : PS} {r : Int} (h : It_X0_sort_88_1 (n + 1) 7 a0 s r t) : T_X0_sort_88_1_7 (It_X0_sort_88_1 n) a0 s r t := by
  have h2 : ((7 : Nat) = 7 ∧ T_X0_sort_88_1_7 (It_X0_sort_88_1 n) a0 s r t) ∨ ((7 : Nat) = 39 ∧ T_X0_sort_88_1_39 (It_X0_sort_88_1 n) a0 s r t) := h
  rcases h2 with ⟨e, h2⟩ | ⟨e, h2⟩
  · exact h2
  · exact absurd e (by decide)
theorem ul_X0_sort_88_1_39 {n : Nat} {a0 : Int} {s t : PS} {r : Int} (h : It_X0_sort_88_1 (n + 1) 39 a0 s r t) : T_X0_sort_88_1_39 (It_X0_sort_88_1 n) a0 s r t := by
  have h2 : ((39 : Nat) = 7 ∧ T_X0_sort_88_1_7 (It_X0_sort_88_1 n) a0 s r t) ∨ ((39 : Nat) = 39 ∧ T_X0_sort_88_1_39 (It_X0_sort_88_1 n) a0 s r t) := h
  rcases h2 with ⟨e, h2⟩ | ⟨e, h2⟩
  · exact absurd e (by decide)
  · exact h2
def M_X0_sort_88_1 (s : PS) (r : Int) (t : PS) : Prop := ∃ n, T_X0_sort_88_1_e (It_X0_sort_88_1 n) s r t
theorem mk_X0_sort_88_1 {n : Nat} {s t : PS} {r : Int} (h : T_X0_sort_88_1_e (It_X0_sort_88_1 n) s r t) : M_X0_sort_88_1 s r t := ⟨n, h⟩
def T_X0_steps_11 (K : Int → Int → Int → Int → PS → Int → PS → Prop) (x11_1 x11_2 x11_3 x11_4 : Int) (s_w11 : PS) (rr : Int) (ss : PS) : Prop := ((TyX s_w11) ∧ ((1 ≤ x11_1 ∧ x11_1 ≤ 40) ∧ ((1 ≤ x11_2 ∧ x11_2 ≤ 40) ∧ ((0 ≤ x11_4 ∧ x11_4 ≤ 79) ∧ (((s_w11 102 0) ≤ x11_4 ∧ (rr = x11_3 ∧ ss = s_w11)) ∨ (¬ ((s_w11 102 0) ≤ x11_4) ∧ (K x11_1 x11_2 (wi (x11_3 + (wi (2 * (s_w11 104 x11_4.toNat))))) (x11_4 + x11_2) s_w11 rr ss)))))))
def T_X0_steps_e (K : Int → Int → Int → Int → PS → Int → PS → Prop) (s_w : PS) (p1 : Int) (rr : Int) (ss : PS) : Prop := ((TyX s_w) ∧ ((1 ≤ p1 ∧ p1 ≤ 40) ∧ (K p1 (max 1 p1) 0 0 s_w rr ss)))
def It_X0_steps : Nat → Int → Int → Int → Int → PS → Int → PS → Prop
  | 0, _, _, _, _, _, _, _ => False
  | n + 1, a0, a1, a2, a3, s, r, t => T_X0_steps_11 (It_X0_steps n) a0 a1 a2 a3 s r t
theorem rl_X0_steps_11 {n : Nat} {a0 a1 a2 a3 : Int} {s t : PS} {r : Int} (h : T_X0_steps_11 (It_X0_steps n) a0 a1 a2 a3 s r t) : It_X0_steps (n + 1) a0 a1 a2 a3 s r t := h
theorem ul_X0_steps_11 {n : Nat} {a0 a1 a2 a3 : Int} {s t : PS} {r : Int} (h : It_X0_steps (n + 1) a0 a1 a2 a3 s r t) : T_X0_steps_11 (It_X0_steps n) a0 a1 a2 a3 s r t := h
def M_X0_steps (s : PS) (p1 : Int) (r : Int) (t : PS) : Prop := ∃ n, T_X0_steps_e (It_X0_steps n) s p1 r t
theorem mk_X0_steps {n : Nat} {s t : PS} {p1 : Int} {r : Int} (h : T_X0_steps_e (It_X0_steps n) s p1 r t) : M_X0_steps s p1 r t := ⟨n, h⟩
def T_X11_walks_e (s_w : PS) (p1 : Int) (rr : Int) (ss : PS) : Prop := ((TyX s_w) ∧ (((s_w 88 0) = 0 ∧ (rr = (-1) ∧ ss = s_w)) ∨ (¬ ((s_w 88 0) = 0) ∧ (∃ r_3 : Int, (∃ s_w_2 : PS, ((M_X11_within s_w p1 1 40 r_3 s_w_2) ∧ ((Fr intsX [] [] s_w s_w_2) ∧ ((TyX s_w_2) ∧ ((0 ≤ r_3 ∧ r_3 ≤ 1) ∧ ((r_3 = 0 ∧ (rr = (-1) ∧ ss = s_w_2)) ∨ (¬ (r_3 = 0) ∧ (∃ s_w_8 : PS, ((M_X0_sort_88_1 s_w_2 0 s_w_8) ∧ ((Fr intsX [102, 103, 104] [(102, 0)] s_w_2 s_w_8) ∧ ((TyX s_w_8) ∧ (∃ r_12 : Int, (∃ s_w_11 : PS, ((M_X0_steps s_w_8 p1 r_12 s_w_11) ∧ ((Fr intsX [] [] s_w_8 s_w_11) ∧ ((TyX s_w_11) ∧ (rr = r_12 ∧ ss = s_w_11)))))))))))))))))))))
def M_X11_walks (s : PS) (p1 : Int) (r : Int) (t : PS) : Prop := T_X11_walks_e s p1 r t
theorem mk_X11_walks {s t : PS} {p1 : Int} {r : Int} (h : T_X11_walks_e s p1 r t) : M_X11_walks s p1 r t := h
def T_X11_bag_e (s_w : PS) (p1 : Int) (rr : Int) (ss : PS) : Prop := ((TyX s_w) ∧ (((s_w 88 0) = 0 ∧ (rr = (-1) ∧ ss = s_w)) ∨ (¬ ((s_w 88 0) = 0) ∧ ((0 ≤ p1 ∧ (∃ s_w_3 : PS, ((M_X0_sort_88_1 s_w 0 s_w_3) ∧ ((Fr intsX [102, 103, 104] [(102, 0)] s_w s_w_3) ∧ ((TyX s_w_3) ∧ (((s_w_3 102 0) ≤ p1 ∧ (rr = (-1) ∧ ss = s_w_3)) ∨ (¬ ((s_w_3 102 0) ≤ p1) ∧ (rr = (s_w_3 103 p1.toNat) ∧ ss = s_w_3)))))))) ∨ (¬ (0 ≤ p1) ∧ (rr = (-1) ∧ ss = s_w))))))
def M_X11_bag (s : PS) (p1 : Int) (r : Int) (t : PS) : Prop := T_X11_bag_e s p1 r t
theorem mk_X11_bag {s t : PS} {p1 : Int} {r : Int} (h : T_X11_bag_e s p1 r t) : M_X11_bag s p1 r t := h
def T_X0_addToHouse_88_10 (K : Nat → Int → Int → Int → PS → Int → PS → Prop) (x10_2 x10_3 x10_4 : Int) (s_w10 : PS) (rr : Int) (ss : PS) : Prop := ((TyX s_w10) ∧ ((0 ≤ x10_2 ∧ x10_2 ≤ 39) ∧ ((0 ≤ x10_4 ∧ x10_4 ≤ 39) ∧ (((s_w10 102 3) ≤ x10_4 ∧ (K 57 x10_2 x10_3 x10_4 s_w10 rr ss)) ∨ (¬ ((s_w10 102 3) ≤ x10_4) ∧ ((x10_3 = 0 ∧ (K 57 x10_2 x10_3 x10_4 s_w10 rr ss)) ∨ (¬ (x10_3 = 0) ∧ (((s_w10 90 (s_w10 105 x10_4.toNat).toNat) = x10_3 ∧ (∃ s_w_10 : PS, s_w_10 = (us s_w10 106 x10_4.toNat (wi ((s_w10 106 x10_4.toNat) + 1))) ∧ (rr = 0 ∧ ss = s_w_10))) ∨ (¬ ((s_w10 90 (s_w10 105 x10_4.toNat).toNat) = x10_3) ∧ (K 10 x10_2 x10_3 (x10_4 + 1) s_w10 rr ss))))))))))
def T_X0_addToHouse_88_57 (K : Nat → Int → Int → Int → PS → Int → PS → Prop) (x57_2 x57_3 x57_4 : Int) (s_w57 : PS) (rr : Int) (ss : PS) : Prop := ((TyX s_w57) ∧ ((0 ≤ x57_2 ∧ x57_2 ≤ 39) ∧ ((0 ≤ x57_4 ∧ x57_4 ≤ 39) ∧ (∃ s_w_1 : PS, s_w_1 = (us s_w57 105 (s_w57 102 3).toNat x57_2) ∧ (∃ s_w_2 : PS, s_w_2 = (us s_w_1 106 (s_w57 102 3).toNat 3) ∧ (∃ s_w_3 : PS, s_w_3 = (us s_w_2 102 3 ((s_w57 102 3) + 1)) ∧ (rr = 0 ∧ ss = s_w_3)))))))
def T_X0_addToHouse_88_e (K : Nat → Int → Int → Int → PS → Int → PS → Prop) (s_w : PS) (p2 : Int) (rr : Int) (ss : PS) : Prop := ((TyX s_w) ∧ ((0 ≤ p2 ∧ p2 ≤ 39) ∧ (K 10 p2 (s_w 90 p2.toNat) 0 s_w rr ss)))
def It_X0_addToHouse_88 : Nat → Nat → Int → Int → Int → PS → Int → PS → Prop
  | 0, _, _, _, _, _, _, _ => False
  | n + 1, pc, a0, a1, a2, s, r, t => (pc = 10 ∧ T_X0_addToHouse_88_10 (It_X0_addToHouse_88 n) a0 a1 a2 s r t) ∨ (pc = 57 ∧ T_X0_addToHouse_88_57 (It_X0_addToHouse_88 n) a0 a1 a2 s r t)
theorem rl_X0_addToHouse_88_10 {n : Nat} {a0 a1 a2 : Int} {s t : PS} {r : Int} (h : T_X0_addToHouse_88_10 (It_X0_addToHouse_88 n) a0 a1 a2 s r t) : It_X0_addToHouse_88 (n + 1) 10 a0 a1 a2 s r t := Or.inl ⟨rfl, h⟩
theorem rl_X0_addToHouse_88_57 {n : Nat} {a0 a1 a2 : Int} {s t : PS} {r : Int} (h : T_X0_addToHouse_88_57 (It_X0_addToHouse_88 n) a0 a1 a2 s r t) : It_X0_addToHouse_88 (n + 1) 57 a0 a1 a2 s r t := Or.inr (⟨rfl, h⟩)
theorem ul_X0_addToHouse_88_10 {n : Nat} {a0 a1 a2 : Int} {s t : PS} {r : Int} (h : It_X0_addToHouse_88 (n + 1) 10 a0 a1 a2 s r t) : T_X0_addToHouse_88_10 (It_X0_addToHouse_88 n) a0 a1 a2 s r t := by
  have h2 : ((10 : Nat) = 10 ∧ T_X0_addToHouse_88_10 (It_X0_addToHouse_88 n) a0 a1 a2 s r t) ∨ ((10 : Nat) = 57 ∧ T_X0_addToHouse_88_57 (It_X0_addToHouse_88 n) a0 a1 a2 s r t) := h
  rcases h2 with ⟨e, h2⟩ | ⟨e, h2⟩
  · exact h2
  · exact absurd e (by decide)
theorem ul_X0_addToHouse_88_57 {n : Nat} {a0 a1 a2 : Int} {s t : PS} {r : Int} (h : It_X0_addToHouse_88 (n + 1) 57 a0 a1 a2 s r t) : T_X0_addToHouse_88_57 (It_X0_addToHouse_88 n) a0 a1 a2 s r t := by
  have h2 : ((57 : Nat) = 10 ∧ T_X0_addToHouse_88_10 (It_X0_addToHouse_88 n) a0 a1 a2 s r t) ∨ ((57 : Nat) = 57 ∧ T_X0_addToHouse_88_57 (It_X0_addToHouse_88 n) a0 a1 a2 s r t) := h
  rcases h2 with ⟨e, h2⟩ | ⟨e, h2⟩
  · exact absurd e (by decide)
  · exact h2
def M_X0_addToHouse_88 (s : PS) (p2 : Int) (r : Int) (t : PS) : Prop := ∃ n, T_X0_addToHouse_88_e (It_X0_addToHouse_88 n) s p2 r t
theorem mk_X0_addToHouse_88 {n : Nat} {s t : PS} {p2 : Int} {r : Int} (h : T_X0_addToHouse_88_e (It_X0_addToHouse_88 n) s p2 r t) : M_X0_addToHouse_88 s p2 r t := ⟨n, h⟩
def T_X0_formLine_88_7 (K : Nat → Int → Int → PS → Int → PS → Prop) (x7_2 x7_3 : Int) (s_w7 : PS) (rr : Int) (ss : PS) : Prop := ((TyX s_w7) ∧ ((1 ≤ x7_2 ∧ x7_2 ≤ 24) ∧ ((0 ≤ x7_3 ∧ x7_3 ≤ 40) ∧ (((s_w7 88 1) ≤ x7_3 ∧ (rr = 0 ∧ ss = s_w7)) ∨ (¬ ((s_w7 88 1) ≤ x7_3) ∧ (((s_w7 91 x7_3.toNat) = x7_2 ∧ (((s_w7 95 x7_3.toNat) = 0 ∧ (K 40 x7_2 x7_3 s_w7 rr ss)) ∨ (¬ ((s_w7 95 x7_3.toNat) = 0) ∧ (∃ s_w_6 : PS, ((M_X0_addToHouse_88 s_w7 x7_3 0 s_w_6) ∧ ((Fr intsX [102, 105, 106] [(102, 3)] s_w7 s_w_6) ∧ ((TyX s_w_6) ∧ (K 40 x7_2 x7_3 s_w_6 rr ss)))))))) ∨ (¬ ((s_w7 91 x7_3.toNat) = x7_2) ∧ (K 40 x7_2 x7_3 s_w7 rr ss))))))))
def T_X0_formLine_88_40 (K : Nat → Int → Int → PS → Int → PS → Prop) (x40_2 x40_3 : Int) (s_w40 : PS) (rr : Int) (ss : PS) : Prop := ((TyX s_w40) ∧ ((1 ≤ x40_2 ∧ x40_2 ≤ 24) ∧ ((0 ≤ x40_3 ∧ x40_3 ≤ 39) ∧ (K 7 x40_2 (x40_3 + 1) s_w40 rr ss))))
def T_X0_formLine_88_e (K : Nat → Int → Int → PS → Int → PS → Prop) (s_w : PS) (p2 : Int) (rr : Int) (ss : PS) : Prop := ((TyX s_w) ∧ ((1 ≤ p2 ∧ p2 ≤ 24) ∧ (∃ s_w_11 : PS, s_w_11 = (us s_w 102 3 0) ∧ (K 7 p2 0 s_w_11 rr ss))))
def It_X0_formLine_88 : Nat → Nat → Int → Int → PS → Int → PS → Prop
  | 0, _, _, _, _, _, _ => False
  | n + 1, pc, a0, a1, s, r, t => (pc = 7 ∧ T_X0_formLine_88_7 (It_X0_formLine_88 n) a0 a1 s r t) ∨ (pc = 40 ∧ T_X0_formLine_88_40 (It_X0_formLine_88 n) a0 a1 s r t)
theorem rl_X0_formLine_88_7 {n : Nat} {a0 a1 : Int} {s t : PS} {r : Int} (h : T_X0_formLine_88_7 (It_X0_formLine_88 n) a0 a1 s r t) : It_X0_formLine_88 (n + 1) 7 a0 a1 s r t := Or.inl ⟨rfl, h⟩
theorem rl_X0_formLine_88_40 {n : Nat} {a0 a1 : Int} {s t : PS} {r : Int} (h : T_X0_formLine_88_40 (It_X0_formLine_88 n) a0 a1 s r t) : It_X0_formLine_88 (n + 1) 40 a0 a1 s r t := Or.inr (⟨rfl, h⟩)
theorem ul_X0_formLine_88_7 {n : Nat} {a0 a1 : Int} {s t : PS} {r : Int} (h : It_X0_formLine_88 (n + 1) 7 a0 a1 s r t) : T_X0_formLine_88_7 (It_X0_formLine_88 n) a0 a1 s r t := by
  have h2 : ((7 : Nat) = 7 ∧ T_X0_formLine_88_7 (It_X0_formLine_88 n) a0 a1 s r t) ∨ ((7 : Nat) = 40 ∧ T_X0_formLine_88_40 (It_X0_formLine_88 n) a0 a1 s r t) := h
  rcases h2 with ⟨e, h2⟩ | ⟨e, h2⟩
  · exact h2
  · exact absurd e (by decide)
theorem ul_X0_formLine_88_40 {n : Nat} {a0 a1 : Int} {s t : PS} {r : Int} (h : It_X0_formLine_88 (n + 1) 40 a0 a1 s r t) : T_X0_formLine_88_40 (It_X0_formLine_88 n) a0 a1 s r t := by
  have h2 : ((40 : Nat) = 7 ∧ T_X0_formLine_88_7 (It_X0_formLine_88 n) a0 a1 s r t) ∨ ((40 : Nat) = 40 ∧ T_X0_formLine_88_40 (It_X0_formLine_88 n) a0 a1 s r t) := h
  rcases h2 with ⟨e, h2⟩ | ⟨e, h2⟩
  · exact absurd e (by decide)
  · exact h2
def M_X0_formLine_88 (s : PS) (p2 : Int) (r : Int) (t : PS) : Prop := ∃ n, T_X0_formLine_88_e (It_X0_formLine_88 n) s p2 r t
theorem mk_X0_formLine_88 {n : Nat} {s t : PS} {p2 : Int} {r : Int} (h : T_X0_formLine_88_e (It_X0_formLine_88 n) s p2 r t) : M_X0_formLine_88 s p2 r t := ⟨n, h⟩
def T_J7_fill_53178_107_5 (K : Int → Int → Int → PS → Int → PS → Prop) (x5_1 x5_2 x5_3 : Int) (s_w5 : PS) (rr : Int) (ss : PS) : Prop := ((TyX s_w5) ∧ ((0 ≤ x5_1 ∧ x5_1 ≤ 0) ∧ ((0 ≤ x5_2 ∧ x5_2 ≤ 9) ∧ ((9 ≤ x5_3 ∧ x5_3 ≤ 9) ∧ ((x5_3 ≤ x5_2 ∧ (rr = 0 ∧ ss = s_w5)) ∨ (¬ (x5_3 ≤ x5_2) ∧ (∃ s_w_2 : PS, s_w_2 = (us s_w5 107 x5_2.toNat x5_1) ∧ (K x5_1 (x5_2 + 1) x5_3 s_w_2 rr ss))))))))
def T_J7_fill_53178_107_e (K : Int → Int → Int → PS → Int → PS → Prop) (s_w : PS) (p1 : Int) (rr : Int) (ss : PS) : Prop := ((TyX s_w) ∧ ((0 ≤ p1 ∧ p1 ≤ 0) ∧ (K p1 0 9 s_w rr ss)))
def It_J7_fill_53178_107 : Nat → Int → Int → Int → PS → Int → PS → Prop
  | 0, _, _, _, _, _, _ => False
  | n + 1, a0, a1, a2, s, r, t => T_J7_fill_53178_107_5 (It_J7_fill_53178_107 n) a0 a1 a2 s r t
theorem rl_J7_fill_53178_107_5 {n : Nat} {a0 a1 a2 : Int} {s t : PS} {r : Int} (h : T_J7_fill_53178_107_5 (It_J7_fill_53178_107 n) a0 a1 a2 s r t) : It_J7_fill_53178_107 (n + 1) a0 a1 a2 s r t := h
theorem ul_J7_fill_53178_107_5 {n : Nat} {a0 a1 a2 : Int} {s t : PS} {r : Int} (h : It_J7_fill_53178_107 (n + 1) a0 a1 a2 s r t) : T_J7_fill_53178_107_5 (It_J7_fill_53178_107 n) a0 a1 a2 s r t := h
def M_J7_fill_53178_107 (s : PS) (p1 : Int) (r : Int) (t : PS) : Prop := ∃ n, T_J7_fill_53178_107_e (It_J7_fill_53178_107 n) s p1 r t
theorem mk_J7_fill_53178_107 {n : Nat} {s t : PS} {p1 : Int} {r : Int} (h : T_J7_fill_53178_107_e (It_J7_fill_53178_107 n) s p1 r t) : M_J7_fill_53178_107 s p1 r t := ⟨n, h⟩
def T_X0_serve_5 (K : Nat → Int → Int → Int → Int → PS → Int → PS → Prop) (x5_1 x5_2 x5_3 x5_4 : Int) (s_w5 : PS) (rr : Int) (ss : PS) : Prop := ((TyX s_w5) ∧ ((1 ≤ x5_1 ∧ x5_1 ≤ 9) ∧ ((3 ≤ x5_2 ∧ x5_2 ≤ 63) ∧ ((0 ≤ x5_3 ∧ x5_3 ≤ 8) ∧ ((1 ≤ x5_4 ∧ x5_4 ≤ 9) ∧ ((x5_1 ≤ x5_4 ∧ (K 43 x5_1 x5_2 x5_3 x5_4 s_w5 rr ss)) ∨ (¬ (x5_1 ≤ x5_4) ∧ ((¬ (9 ≤ x5_4)) ∧ (((s_w5 107 x5_3.toNat) ≤ (s_w5 107 x5_4.toNat) ∧ (K 37 x5_1 x5_2 x5_3 x5_4 s_w5 rr ss)) ∨ (¬ ((s_w5 107 x5_3.toNat) ≤ (s_w5 107 x5_4.toNat)) ∧ (K 37 x5_1 x5_2 x5_4 x5_4 s_w5 rr ss)))))))))))
def T_X0_serve_37 (K : Nat → Int → Int → Int → Int → PS → Int → PS → Prop) (x37_1 x37_2 x37_3 x37_4 : Int) (s_w37 : PS) (rr : Int) (ss : PS) : Prop := ((TyX s_w37) ∧ ((2 ≤ x37_1 ∧ x37_1 ≤ 9) ∧ ((3 ≤ x37_2 ∧ x37_2 ≤ 63) ∧ ((0 ≤ x37_3 ∧ x37_3 ≤ 8) ∧ ((1 ≤ x37_4 ∧ x37_4 ≤ 8) ∧ (K 5 x37_1 x37_2 x37_3 (x37_4 + 1) s_w37 rr ss))))))
def T_X0_serve_43 (K : Nat → Int → Int → Int → Int → PS → Int → PS → Prop) (x43_1 x43_2 x43_3 x43_4 : Int) (s_w43 : PS) (rr : Int) (ss : PS) : Prop := ((TyX s_w43) ∧ ((1 ≤ x43_1 ∧ x43_1 ≤ 9) ∧ ((3 ≤ x43_2 ∧ x43_2 ≤ 63) ∧ ((0 ≤ x43_3 ∧ x43_3 ≤ 8) ∧ ((1 ≤ x43_4 ∧ x43_4 ≤ 9) ∧ (∃ s_w_3 : PS, s_w_3 = (us s_w43 102 7 (wi ((s_w43 102 7) + (s_w43 107 x43_3.toNat)))) ∧ (∃ s_w_5 : PS, s_w_5 = (us s_w_3 107 x43_3.toNat (wi ((s_w43 107 x43_3.toNat) + x43_2))) ∧ (∃ s_w_7 : PS, s_w_7 = (us s_w_5 102 8 (max (s_w43 102 8) (wi ((s_w43 107 x43_3.toNat) + x43_2)))) ∧ (rr = 0 ∧ ss = s_w_7)))))))))
def T_X0_serve_e (K : Nat → Int → Int → Int → Int → PS → Int → PS → Prop) (s_w : PS) (p1 p2 : Int) (rr : Int) (ss : PS) : Prop := ((TyX s_w) ∧ ((1 ≤ p1 ∧ p1 ≤ 9) ∧ ((3 ≤ p2 ∧ p2 ≤ 63) ∧ (K 5 p1 p2 0 1 s_w rr ss))))
def It_X0_serve : Nat → Nat → Int → Int → Int → Int → PS → Int → PS → Prop
  | 0, _, _, _, _, _, _, _, _ => False
  | n + 1, pc, a0, a1, a2, a3, s, r, t => (pc = 5 ∧ T_X0_serve_5 (It_X0_serve n) a0 a1 a2 a3 s r t) ∨ (pc = 37 ∧ T_X0_serve_37 (It_X0_serve n) a0 a1 a2 a3 s r t) ∨ (pc = 43 ∧ T_X0_serve_43 (It_X0_serve n) a0 a1 a2 a3 s r t)
theorem rl_X0_serve_5 {n : Nat} {a0 a1 a2 a3 : Int} {s t : PS} {r : Int} (h : T_X0_serve_5 (It_X0_serve n) a0 a1 a2 a3 s r t) : It_X0_serve (n + 1) 5 a0 a1 a2 a3 s r t := Or.inl ⟨rfl, h⟩
theorem rl_X0_serve_37 {n : Nat} {a0 a1 a2 a3 : Int} {s t : PS} {r : Int} (h : T_X0_serve_37 (It_X0_serve n) a0 a1 a2 a3 s r t) : It_X0_serve (n + 1) 37 a0 a1 a2 a3 s r t := Or.inr (Or.inl ⟨rfl, h⟩)
theorem rl_X0_serve_43 {n : Nat} {a0 a1 a2 a3 : Int} {s t : PS} {r : Int} (h : T_X0_serve_43 (It_X0_serve n) a0 a1 a2 a3 s r t) : It_X0_serve (n + 1) 43 a0 a1 a2 a3 s r t := Or.inr (Or.inr (⟨rfl, h⟩))
theorem ul_X0_serve_5 {n : Nat} {a0 a1 a2 a3 : Int} {s t : PS} {r : Int} (h : It_X0_serve (n + 1) 5 a0 a1 a2 a3 s r t) : T_X0_serve_5 (It_X0_serve n) a0 a1 a2 a3 s r t := by
  have h2 : ((5 : Nat) = 5 ∧ T_X0_serve_5 (It_X0_serve n) a0 a1 a2 a3 s r t) ∨ ((5 : Nat) = 37 ∧ T_X0_serve_37 (It_X0_serve n) a0 a1 a2 a3 s r t) ∨ ((5 : Nat) = 43 ∧ T_X0_serve_43 (It_X0_serve n) a0 a1 a2 a3 s r t) := h
  rcases h2 with ⟨e, h2⟩ | ⟨e, h2⟩ | ⟨e, h2⟩
  · exact h2
  · exact absurd e (by decide)
  · exact absurd e (by decide)
theorem ul_X0_serve_37 {n : Nat} {a0 a1 a2 a3 : Int} {s t : PS} {r : Int} (h : It_X0_serve (n + 1) 37 a0 a1 a2 a3 s r t) : T_X0_serve_37 (It_X0_serve n) a0 a1 a2 a3 s r t := by
  have h2 : ((37 : Nat) = 5 ∧ T_X0_serve_5 (It_X0_serve n) a0 a1 a2 a3 s r t) ∨ ((37 : Nat) = 37 ∧ T_X0_serve_37 (It_X0_serve n) a0 a1 a2 a3 s r t) ∨ ((37 : Nat) = 43 ∧ T_X0_serve_43 (It_X0_serve n) a0 a1 a2 a3 s r t) := h
  rcases h2 with ⟨e, h2⟩ | ⟨e, h2⟩ | ⟨e, h2⟩
  · exact absurd e (by decide)
  · exact h2
  · exact absurd e (by decide)
theorem ul_X0_serve_43 {n : Nat} {a0 a1 a2 a3 : Int} {s t : PS} {r : Int} (h : It_X0_serve (n + 1) 43 a0 a1 a2 a3 s r t) : T_X0_serve_43 (It_X0_serve n) a0 a1 a2 a3 s r t := by
  have h2 : ((43 : Nat) = 5 ∧ T_X0_serve_5 (It_X0_serve n) a0 a1 a2 a3 s r t) ∨ ((43 : Nat) = 37 ∧ T_X0_serve_37 (It_X0_serve n) a0 a1 a2 a3 s r t) ∨ ((43 : Nat) = 43 ∧ T_X0_serve_43 (It_X0_serve n) a0 a1 a2 a3 s r t) := h
  rcases h2 with ⟨e, h2⟩ | ⟨e, h2⟩ | ⟨e, h2⟩
  · exact absurd e (by decide)
  · exact absurd e (by decide)
  · exact h2
def M_X0_serve (s : PS) (p1 p2 : Int) (r : Int) (t : PS) : Prop := ∃ n, T_X0_serve_e (It_X0_serve n) s p1 p2 r t
theorem mk_X0_serve {n : Nat} {s t : PS} {p1 p2 : Int} {r : Int} (h : T_X0_serve_e (It_X0_serve n) s p1 p2 r t) : M_X0_serve s p1 p2 r t := ⟨n, h⟩
def T_X0_serveLine_20 (K : Nat → Int → Int → Int → PS → Int → PS → Prop) (x20_1 x20_2 : Int) (s_w20 : PS) (rr : Int) (ss : PS) : Prop := ((TyX s_w20) ∧ ((1 ≤ x20_1 ∧ x20_1 ≤ 9) ∧ ((3 ≤ x20_2 ∧ x20_2 ≤ 64) ∧ ((42 < x20_2 ∧ (rr = 0 ∧ ss = s_w20)) ∨ (¬ (42 < x20_2) ∧ (K 28 x20_1 x20_2 0 s_w20 rr ss))))))
def T_X0_serveLine_28 (K : Nat → Int → Int → Int → PS → Int → PS → Prop) (x28_1 x28_2 x28_3 : Int) (s_w28 : PS) (rr : Int) (ss : PS) : Prop := ((TyX s_w28) ∧ ((1 ≤ x28_1 ∧ x28_1 ≤ 9) ∧ ((3 ≤ x28_2 ∧ x28_2 ≤ 63) ∧ ((0 ≤ x28_3 ∧ x28_3 ≤ 40) ∧ (((s_w28 102 3) ≤ x28_3 ∧ (K 20 x28_1 (x28_2 + 1) 0 s_w28 rr ss)) ∨ (¬ ((s_w28 102 3) ≤ x28_3) ∧ (((s_w28 106 x28_3.toNat) = x28_2 ∧ (∃ s_w_4 : PS, ((M_X0_serve s_w28 x28_1 x28_2 0 s_w_4) ∧ ((Fr intsX [102, 107] [(102, 7), (102, 8)] s_w28 s_w_4) ∧ ((TyX s_w_4) ∧ (K 52 x28_1 x28_2 x28_3 s_w_4 rr ss)))))) ∨ (¬ ((s_w28 106 x28_3.toNat) = x28_2) ∧ (K 52 x28_1 x28_2 x28_3 s_w28 rr ss)))))))))
def T_X0_serveLine_52 (K : Nat → Int → Int → Int → PS → Int → PS → Prop) (x52_1 x52_2 x52_3 : Int) (s_w52 : PS) (rr : Int) (ss : PS) : Prop := ((TyX s_w52) ∧ ((1 ≤ x52_1 ∧ x52_1 ≤ 9) ∧ ((3 ≤ x52_2 ∧ x52_2 ≤ 63) ∧ ((0 ≤ x52_3 ∧ x52_3 ≤ 39) ∧ (K 28 x52_1 x52_2 (x52_3 + 1) s_w52 rr ss)))))
def T_X0_serveLine_e (K : Nat → Int → Int → Int → PS → Int → PS → Prop) (s_w : PS) (p1 : Int) (rr : Int) (ss : PS) : Prop := ((TyX s_w) ∧ ((1 ≤ p1 ∧ p1 ≤ 9) ∧ (∃ s_w_8 : PS, ((M_J7_fill_53178_107 s_w 0 0 s_w_8) ∧ ((Fr intsX [107] [] s_w s_w_8) ∧ ((TyX s_w_8) ∧ (∃ s_w_12 : PS, s_w_12 = (us s_w_8 102 7 0) ∧ (∃ s_w_13 : PS, s_w_13 = (us s_w_12 102 8 0) ∧ (K 20 p1 3 0 s_w_13 rr ss)))))))))
def It_X0_serveLine : Nat → Nat → Int → Int → Int → PS → Int → PS → Prop
  | 0, _, _, _, _, _, _, _ => False
  | n + 1, pc, a0, a1, a2, s, r, t => (pc = 20 ∧ T_X0_serveLine_20 (It_X0_serveLine n) a0 a1 s r t) ∨ (pc = 28 ∧ T_X0_serveLine_28 (It_X0_serveLine n) a0 a1 a2 s r t) ∨ (pc = 52 ∧ T_X0_serveLine_52 (It_X0_serveLine n) a0 a1 a2 s r t)
theorem rl_X0_serveLine_20 {n : Nat} {a0 a1 : Int} {s t : PS} {r : Int} (h : T_X0_serveLine_20 (It_X0_serveLine n) a0 a1 s r t) : It_X0_serveLine (n + 1) 20 a0 a1 0 s r t := Or.inl ⟨rfl, h⟩
theorem rl_X0_serveLine_28 {n : Nat} {a0 a1 a2 : Int} {s t : PS} {r : Int} (h : T_X0_serveLine_28 (It_X0_serveLine n) a0 a1 a2 s r t) : It_X0_serveLine (n + 1) 28 a0 a1 a2 s r t := Or.inr (Or.inl ⟨rfl, h⟩)
theorem rl_X0_serveLine_52 {n : Nat} {a0 a1 a2 : Int} {s t : PS} {r : Int} (h : T_X0_serveLine_52 (It_X0_serveLine n) a0 a1 a2 s r t) : It_X0_serveLine (n + 1) 52 a0 a1 a2 s r t := Or.inr (Or.inr (⟨rfl, h⟩))
theorem ul_X0_serveLine_20 {n : Nat} {a0 a1 a2 : Int} {s t : PS} {r : Int} (h : It_X0_serveLine (n + 1) 20 a0 a1 a2 s r t) : T_X0_serveLine_20 (It_X0_serveLine n) a0 a1 s r t := by
  have h2 : ((20 : Nat) = 20 ∧ T_X0_serveLine_20 (It_X0_serveLine n) a0 a1 s r t) ∨ ((20 : Nat) = 28 ∧ T_X0_serveLine_28 (It_X0_serveLine n) a0 a1 a2 s r t) ∨ ((20 : Nat) = 52 ∧ T_X0_serveLine_52 (It_X0_serveLine n) a0 a1 a2 s r t) := h
  rcases h2 with ⟨e, h2⟩ | ⟨e, h2⟩ | ⟨e, h2⟩
  · exact h2
  · exact absurd e (by decide)
  · exact absurd e (by decide)
theorem ul_X0_serveLine_28 {n : Nat} {a0 a1 a2 : Int} {s t : PS} {r : Int} (h : It_X0_serveLine (n + 1) 28 a0 a1 a2 s r t) : T_X0_serveLine_28 (It_X0_serveLine n) a0 a1 a2 s r t := by
  have h2 : ((28 : Nat) = 20 ∧ T_X0_serveLine_20 (It_X0_serveLine n) a0 a1 s r t) ∨ ((28 : Nat) = 28 ∧ T_X0_serveLine_28 (It_X0_serveLine n) a0 a1 a2 s r t) ∨ ((28 : Nat) = 52 ∧ T_X0_serveLine_52 (It_X0_serveLine n) a0 a1 a2 s r t) := h
  rcases h2 with ⟨e, h2⟩ | ⟨e, h2⟩ | ⟨e, h2⟩
  · exact absurd e (by decide)
  · exact h2
  · exact absurd e (by decide)
theorem ul_X0_serveLine_52 {n : Nat} {a0 a1 a2 : Int} {s t : PS} {r : Int} (h : It_X0_serveLine (n + 1) 52 a0 a1 a2 s r t) : T_X0_serveLine_52 (It_X0_serveLine n) a0 a1 a2 s r t := by
  have h2 : ((52 : Nat) = 20 ∧ T_X0_serveLine_20 (It_X0_serveLine n) a0 a1 s r t) ∨ ((52 : Nat) = 28 ∧ T_X0_serveLine_28 (It_X0_serveLine n) a0 a1 a2 s r t) ∨ ((52 : Nat) = 52 ∧ T_X0_serveLine_52 (It_X0_serveLine n) a0 a1 a2 s r t) := h
  rcases h2 with ⟨e, h2⟩ | ⟨e, h2⟩ | ⟨e, h2⟩
  · exact absurd e (by decide)
  · exact absurd e (by decide)
  · exact h2
def M_X0_serveLine (s : PS) (p1 : Int) (r : Int) (t : PS) : Prop := ∃ n, T_X0_serveLine_e (It_X0_serveLine n) s p1 r t
theorem mk_X0_serveLine {n : Nat} {s t : PS} {p1 : Int} {r : Int} (h : T_X0_serveLine_e (It_X0_serveLine n) s p1 r t) : M_X0_serveLine s p1 r t := ⟨n, h⟩
