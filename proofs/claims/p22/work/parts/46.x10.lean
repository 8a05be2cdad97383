def T_J6_bitCount_0f7a4_e (s_w : PS) (p0 : Int) (rr : Int) (ss : PS) : Prop := ((TyX s_w) ∧ (rr = (iAnd (wi ((wi ((iAnd (wi (((iAnd (wi (p0 - (iAnd (iUsr p0 1) 1431655765))) 858993459) + (iAnd (iUsr (wi (p0 - (iAnd (iUsr p0 1) 1431655765))) 2) 858993459)) + (iUsr ((iAnd (wi (p0 - (iAnd (iUsr p0 1) 1431655765))) 858993459) + (iAnd (iUsr (wi (p0 - (iAnd (iUsr p0 1) 1431655765))) 2) 858993459)) 4))) 252645135) + (iUsr (iAnd (wi (((iAnd (wi (p0 - (iAnd (iUsr p0 1) 1431655765))) 858993459) + (iAnd (iUsr (wi (p0 - (iAnd (iUsr p0 1) 1431655765))) 2) 858993459)) + (iUsr ((iAnd (wi (p0 - (iAnd (iUsr p0 1) 1431655765))) 858993459) + (iAnd (iUsr (wi (p0 - (iAnd (iUsr p0 1) 1431655765))) 2) 858993459)) 4))) 252645135) 8))) + (iUsr (wi ((iAnd (wi (((iAnd (wi (p0 - (iAnd (iUsr p0 1) 1431655765))) 858993459) + (iAnd (iUsr (wi (p0 - (iAnd (iUsr p0 1) 1431655765))) 2) 858993459)) + (iUsr ((iAnd (wi (p0 - (iAnd (iUsr p0 1) 1431655765))) 858993459) + (iAnd (iUsr (wi (p0 - (iAnd (iUsr p0 1) 1431655765))) 2) 858993459)) 4))) 252645135) + (iUsr (iAnd (wi (((iAnd (wi (p0 - (iAnd (iUsr p0 1) 1431655765))) 858993459) + (iAnd (iUsr (wi (p0 - (iAnd (iUsr p0 1) 1431655765))) 2) 858993459)) + (iUsr ((iAnd (wi (p0 - (iAnd (iUsr p0 1) 1431655765))) 858993459) + (iAnd (iUsr (wi (p0 - (iAnd (iUsr p0 1) 1431655765))) 2) 858993459)) 4))) 252645135) 8))) 16))) 63) ∧ ss = s_w))
def M_J6_bitCount_0f7a4 (s : PS) (p0 : Int) (r : Int) (t : PS) : Prop := T_J6_bitCount_0f7a4_e s p0 r t
theorem mk_J6_bitCount_0f7a4 {s t : PS} {p0 : Int} {r : Int} (h : T_J6_bitCount_0f7a4_e s p0 r t) : M_J6_bitCount_0f7a4 s p0 r t := h
def T_X4_tally_1_56_3 (K : Nat → Int → Int → PS → Int → PS → Prop) (x3_3 x3_4 : Int) (s_w3 : PS) (rr : Int) (ss : PS) : Prop := ((TyX s_w3) ∧ ((0 ≤ x3_3 ∧ x3_3 ≤ 39) ∧ ((0 ≤ x3_4 ∧ x3_4 ≤ 10) ∧ (((s_w3 1 0) ≤ x3_4 ∧ (rr = 0 ∧ ss = s_w3)) ∨ (¬ ((s_w3 1 0) ≤ x3_4) ∧ (((iAnd (iShr (s_w3 95 x3_3.toNat) x3_4) 1) = 0 ∧ (K 58 x3_3 x3_4 s_w3 rr ss)) ∨ (¬ ((iAnd (iShr (s_w3 95 x3_3.toNat) x3_4) 1) = 0) ∧ (∃ s_w_6 : PS, s_w_6 = (us s_w3 96 x3_4.toNat (wi ((s_w3 96 x3_4.toNat) - 1))) ∧ (∃ s_w_9 : PS, s_w_9 = (us s_w_6 88 10 (wi ((s_w3 88 10) + (s_w3 59 ((x3_3 * 10) + x3_4).toNat)))) ∧ (K 58 x3_3 x3_4 s_w_9 rr ss))))))))))
def T_X4_tally_1_56_58 (K : Nat → Int → Int → PS → Int → PS → Prop) (x58_3 x58_4 : Int) (s_w58 : PS) (rr : Int) (ss : PS) : Prop := ((TyX s_w58) ∧ ((0 ≤ x58_3 ∧ x58_3 ≤ 39) ∧ ((0 ≤ x58_4 ∧ x58_4 ≤ 9) ∧ (K 3 x58_3 (x58_4 + 1) s_w58 rr ss))))
def T_X4_tally_1_56_e (K : Nat → Int → Int → PS → Int → PS → Prop) (s_w : PS) (p3 : Int) (rr : Int) (ss : PS) : Prop := ((TyX s_w) ∧ ((0 ≤ p3 ∧ p3 ≤ 39) ∧ (K 3 p3 0 s_w rr ss)))
def It_X4_tally_1_56 : Nat → Nat → Int → Int → PS → Int → PS → Prop
  | 0, _, _, _, _, _, _ => False
  | n + 1, pc, a0, a1, s, r, t => (pc = 3 ∧ T_X4_tally_1_56_3 (It_X4_tally_1_56 n) a0 a1 s r t) ∨ (pc = 58 ∧ T_X4_tally_1_56_58 (It_X4_tally_1_56 n) a0 a1 s r t)
theorem rl_X4_tally_1_56_3 {n : Nat} {a0 a1 : Int} {s t : PS} {r : Int} (h : T_X4_tally_1_56_3 (It_X4_tally_1_56 n) a0 a1 s r t) : It_X4_tally_1_56 (n + 1) 3 a0 a1 s r t := Or.inl ⟨rfl, h⟩
theorem rl_X4_tally_1_56_58 {n : Nat} {a0 a1 : Int} {s t : PS} {r : Int} (h : T_X4_tally_1_56_58 (It_X4_tally_1_56 n) a0 a1 s r t) : It_X4_tally_1_56 (n + 1) 58 a0 a1 s r t := Or.inr (⟨rfl, h⟩)
theorem ul_X4_tally_1_56_3 {n : Nat} {a0 a1 : Int} {s t : PS} {r : Int} (h : It_X4_tally_1_56 (n + 1) 3 a0 a1 s r t) : T_X4_tally_1_56_3 (It_X4_tally_1_56 n) a0 a1 s r t := by
  have h2 : ((3 : Nat) = 3 ∧ T_X4_tally_1_56_3 (It_X4_tally_1_56 n) a0 a1 s r t) ∨ ((3 : Nat) = 58 ∧ T_X4_tally_1_56_58 (It_X4_tally_1_56 n) a0 a1 s r t) := h
  rcases h2 with ⟨e, h2⟩ | ⟨e, h2⟩
  · exact h2
  · exact absurd e (by decide)
theorem ul_X4_tally_1_56_58 {n : Nat} {a0 a1 : Int} {s t : PS} {r : Int} (h : It_X4_tally_1_56 (n + 1) 58 a0 a1 s r t) : T_X4_tally_1_56_58 (It_X4_tally_1_56 n) a0 a1 s r t := by
  have h2 : ((58 : Nat) = 3 ∧ T_X4_tally_1_56_3 (It_X4_tally_1_56 n) a0 a1 s r t) ∨ ((58 : Nat) = 58 ∧ T_X4_tally_1_56_58 (It_X4_tally_1_56 n) a0 a1 s r t) := h
  rcases h2 with ⟨e, h2⟩ | ⟨e, h2⟩
  · exact absurd e (by decide)
  · exact h2
def M_X4_tally_1_56 (s : PS) (p3 : Int) (r : Int) (t : PS) : Prop := ∃ n, T_X4_tally_1_56_e (It_X4_tally_1_56 n) s p3 r t
theorem mk_X4_tally_1_56 {n : Nat} {s t : PS} {p3 : Int} {r : Int} (h : T_X4_tally_1_56_e (It_X4_tally_1_56 n) s p3 r t) : M_X4_tally_1_56 s p3 r t := ⟨n, h⟩
def T_X4_keep_1_42_56_64_109_26 (K : Nat → Int → Int → Int → Int → Int → PS → Int → PS → Prop) (x26_6 : Int) (s_w26 : PS) (rr : Int) (ss : PS) : Prop := ((TyX s_w26) ∧ ((0 ≤ x26_6 ∧ x26_6 ≤ 10) ∧ ((10 ≤ x26_6 ∧ (K 57 0 0 0 0 0 s_w26 rr ss)) ∨ (¬ (10 ≤ x26_6) ∧ (∃ s_w_26 : PS, s_w_26 = (us s_w26 96 x26_6.toNat (s_w26 109 x26_6.toNat)) ∧ (K 26 (x26_6 + 1) 0 0 0 0 s_w_26 rr ss))))))
def T_X4_keep_1_42_56_64_109_57 (K : Nat → Int → Int → Int → Int → Int → PS → Int → PS → Prop) (x57_6 x57_7 : Int) (s_w57 : PS) (rr : Int) (ss : PS) : Prop := ((TyX s_w57) ∧ ((0 ≤ x57_7 ∧ x57_7 ≤ 40) ∧ (((s_w57 88 1) ≤ x57_7 ∧ (rr = x57_6 ∧ ss = s_w57)) ∨ (¬ ((s_w57 88 1) ≤ x57_7) ∧ (∃ s_w_12 : PS, s_w_12 = (us s_w57 89 x57_7.toNat (s_w57 44 x57_7.toNat)) ∧ (∃ s_w_14 : PS, s_w_14 = (us s_w_12 90 x57_7.toNat (s_w57 48 x57_7.toNat)) ∧ (∃ s_w_16 : PS, s_w_16 = (us s_w_14 91 x57_7.toNat (s_w57 49 x57_7.toNat)) ∧ (∃ s_w_18 : PS, s_w_18 = (us s_w_16 92 x57_7.toNat (s_w57 57 x57_7.toNat)) ∧ (∃ s_w_20 : PS, s_w_20 = (us s_w_18 93 x57_7.toNat (s_w57 58 x57_7.toNat)) ∧ (((s_w57 67 x57_7.toNat) = (-1) ∧ (K 170 x57_6 x57_7 (s_w57 67 x57_7.toNat) 0 x57_7 s_w_20 rr ss)) ∨ (¬ ((s_w57 67 x57_7.toNat) = (-1)) ∧ (K 170 x57_6 x57_7 (s_w57 67 x57_7.toNat) (s_w57 70 (s_w57 67 x57_7.toNat).toNat) x57_7 s_w_20 rr ss))))))))))))
def T_X4_keep_1_42_56_64_109_170 (K : Nat → Int → Int → Int → Int → Int → PS → Int → PS → Prop) (x170_6 x170_7 x170_8 y170_0 y170_1 : Int) (s_w170 : PS) (rr : Int) (ss : PS) : Prop := ((TyX s_w170) ∧ ((0 ≤ x170_7 ∧ x170_7 ≤ 39) ∧ (((-1) ≤ x170_8 ∧ x170_8 ≤ 39) ∧ ((0 ≤ y170_1 ∧ y170_1 ≤ 39) ∧ (∃ s_w_1 : PS, s_w_1 = (us s_w170 95 y170_1.toNat y170_0) ∧ (∃ r_3 : Int, (∃ s_w_2 : PS, ((M_J6_bitCount_0f7a4 s_w_1 y170_0 r_3 s_w_2) ∧ ((Fr intsX [] [] s_w_1 s_w_2) ∧ ((TyX s_w_2) ∧ ((0 ≤ r_3 ∧ r_3 ≤ 63) ∧ (∃ s_w_5 : PS, s_w_5 = (us s_w_2 94 x170_7.toNat r_3) ∧ (∃ s_w_7 : PS, ((M_X4_tally_1_56 s_w_5 x170_7 0 s_w_7) ∧ ((Fr intsX [88, 96] [(88, 10)] s_w_5 s_w_7) ∧ ((TyX s_w_7) ∧ (K 57 (wi (x170_6 + r_3)) (x170_7 + 1) 0 0 0 s_w_7 rr ss)))))))))))))))))
def T_X4_keep_1_42_56_64_109_e (K : Nat → Int → Int → Int → Int → Int → PS → Int → PS → Prop) (s_w : PS) (rr : Int) (ss : PS) : Prop := ((TyX s_w) ∧ (∃ s_w_27 : PS, s_w_27 = (us s_w 88 0 1) ∧ (∃ s_w_28 : PS, s_w_28 = (us s_w_27 88 11 (-1)) ∧ (∃ s_w_29 : PS, s_w_29 = (us s_w_28 88 1 (s_w 42 2)) ∧ (∃ s_w_30 : PS, s_w_30 = (us s_w_29 88 10 0) ∧ (K 26 0 0 0 0 0 s_w_30 rr ss))))))
def It_X4_keep_1_42_56_64_109 : Nat → Nat → Int → Int → Int → Int → Int → PS → Int → PS → Prop
  | 0, _, _, _, _, _, _, _, _, _ => False
  | n + 1, pc, a0, a1, a2, a3, a4, s, r, t => (pc = 26 ∧ T_X4_keep_1_42_56_64_109_26 (It_X4_keep_1_42_56_64_109 n) a0 s r t) ∨ (pc = 57 ∧ T_X4_keep_1_42_56_64_109_57 (It_X4_keep_1_42_56_64_109 n) a0 a1 s r t) ∨ (pc = 170 ∧ T_X4_keep_1_42_56_64_109_170 (It_X4_keep_1_42_56_64_109 n) a0 a1 a2 a3 a4 s r t)
theorem rl_X4_keep_1_42_56_64_109_26 {n : Nat} {a0 : Int} {s t : PS} {r : Int} (h : T_X4_keep_1_42_56_64_109_26 (It_X4_keep_1_42_56_64_109 n) a0 s r t) : It_X4_keep_1_42_56_64_109 (n + 1) 26 a0 0 0 0 0 s r t := Or.inl ⟨rfl, h⟩
theorem rl_X4_keep_1_42_56_64_109_57 {n : Nat} {a0 a1 : Int} {s t : PS} {r : Int} (h : T_X4_keep_1_42_56_64_109_57 (It_X4_keep_1_42_56_64_109 n) a0 a1 s r t) : It_X4_keep_1_42_56_64_109 (n + 1) 57 a0 a1 0 0 0 s r t := Or.inr (Or.inl ⟨rfl, h⟩)
theorem rl_X4_keep_1_42_56_64_109_170 {n : Nat} {a0 a1 a2 a3 a4 : Int} {s t : PS} {r : Int} (h : T_X4_keep_1_42_56_64_109_170 (It_X4_keep_1_42_56_64_109 n) a0 a1 a2 a3 a4 s r t) : It_X4_keep_1_42_56_64_109 (n + 1) 170 a0 a1 a2 a3 a4 s r t := Or.inr (Or.inr (⟨rfl, h⟩))
theorem ul_X4_keep_1_42_56_64_109_26 {n : Nat} {a0 a1 a2 a3 a4 : Int} {s t : PS} {r : Int} (h : It_X4_keep_1_42_56_64_109 (n + 1) 26 a0 a1 a2 a3 a4 s r t) : T_X4_keep_1_42_56_64_109_26 (It_X4_keep_1_42_56_64_109 n) a0 s r t := by
  have h2 : ((26 : Nat) = 26 ∧ T_X4_keep_1_42_56_64_109_26 (It_X4_keep_1_42_56_64_109 n) a0 s r t) ∨ ((26 : Nat) = 57 ∧ T_X4_keep_1_42_56_64_109_57 (It_X4_keep_1_42_56_64_109 n) a0 a1 s r t) ∨ ((26 : Nat) = 170 ∧ T_X4_keep_1_42_56_64_109_170 (It_X4_keep_1_42_56_64_109 n) a0 a1 a2 a3 a4 s r t) := h
  rcases h2 with ⟨e, h2⟩ | ⟨e, h2⟩ | ⟨e, h2⟩
  · exact h2
  · exact absurd e (by decide)
  · exact absurd e (by decide)
theorem ul_X4_keep_1_42_56_64_109_57 {n : Nat} {a0 a1 a2 a3 a4 : Int} {s t : PS} {r : Int} (h : It_X4_keep_1_42_56_64_109 (n + 1) 57 a0 a1 a2 a3 a4 s r t) : T_X4_keep_1_42_56_64_109_57 (It_X4_keep_1_42_56_64_109 n) a0 a1 s r t := by
  have h2 : ((57 : Nat) = 26 ∧ T_X4_keep_1_42_56_64_109_26 (It_X4_keep_1_42_56_64_109 n) a0 s r t) ∨ ((57 : Nat) = 57 ∧ T_X4_keep_1_42_56_64_109_57 (It_X4_keep_1_42_56_64_109 n) a0 a1 s r t) ∨ ((57 : Nat) = 170 ∧ T_X4_keep_1_42_56_64_109_170 (It_X4_keep_1_42_56_64_109 n) a0 a1 a2 a3 a4 s r t) := h
  rcases h2 with ⟨e, h2⟩ | ⟨e, h2⟩ | ⟨e, h2⟩
  · exact absurd e (by decide)
  · exact h2
  · exact absurd e (by decide)
theorem ul_X4_keep_1_42_56_64_109_170 {n : Nat} {a0 a1 a2 a3 a4 : Int} {s t : PS} {r : Int} (h : It_X4_keep_1_42_56_64_109 (n + 1) 170 a0 a1 a2 a3 a4 s r t) : T_X4_keep_1_42_56_64_109_170 (It_X4_keep_1_42_56_64_109 n) a0 a1 a2 a3 a4 s r t := by
  have h2 : ((170 : Nat) = 26 ∧ T_X4_keep_1_42_56_64_109_26 (It_X4_keep_1_42_56_64_109 n) a0 s r t) ∨ ((170 : Nat) = 57 ∧ T_X4_keep_1_42_56_64_109_57 (It_X4_keep_1_42_56_64_109 n) a0 a1 s r t) ∨ ((170 : Nat) = 170 ∧ T_X4_keep_1_42_56_64_109_170 (It_X4_keep_1_42_56_64_109 n) a0 a1 a2 a3 a4 s r t) := h
  rcases h2 with ⟨e, h2⟩ | ⟨e, h2⟩ | ⟨e, h2⟩
  · exact absurd e (by decide)
  · exact absurd e (by decide)
  · exact h2
def M_X4_keep_1_42_56_64_109 (s : PS) (r : Int) (t : PS) : Prop := ∃ n, T_X4_keep_1_42_56_64_109_e (It_X4_keep_1_42_56_64_109 n) s r t
theorem mk_X4_keep_1_42_56_64_109 {n : Nat} {s t : PS} {r : Int} (h : T_X4_keep_1_42_56_64_109_e (It_X4_keep_1_42_56_64_109 n) s r t) : M_X4_keep_1_42_56_64_109 s r t := ⟨n, h⟩
def T_X6_addCome_109_3 (K : Int → Int → Int → PS → Int → PS → Prop) (x3_2 x3_3 x3_4 : Int) (s_w3 : PS) (rr : Int) (ss : PS) : Prop := ((TyX s_w3) ∧ ((1 ≤ x3_2 ∧ x3_2 ≤ 24) ∧ ((0 ≤ x3_3 ∧ x3_3 ≤ 10) ∧ ((0 ≤ x3_4 ∧ x3_4 ≤ 10) ∧ ((x3_3 ≤ x3_4 ∧ (rr = 0 ∧ ss = s_w3)) ∨ (¬ (x3_3 ≤ x3_4) ∧ (∃ s_w_5 : PS, s_w_5 = (us s_w3 109 x3_4.toNat (wi ((s_w3 109 x3_4.toNat) + (s_w3 54 ((x3_4 * 25) + x3_2).toNat)))) ∧ (K x3_2 x3_3 (x3_4 + 1) s_w_5 rr ss))))))))
def T_X6_addCome_109_e (K : Int → Int → Int → PS → Int → PS → Prop) (s_w : PS) (p2 p3 : Int) (rr : Int) (ss : PS) : Prop := ((TyX s_w) ∧ ((1 ≤ p2 ∧ p2 ≤ 24) ∧ ((0 ≤ p3 ∧ p3 ≤ 10) ∧ (K p2 p3 0 s_w rr ss))))
def It_X6_addCome_109 : Nat → Int → Int → Int → PS → Int → PS → Prop
  | 0, _, _, _, _, _, _ => False
  | n + 1, a0, a1, a2, s, r, t => T_X6_addCome_109_3 (It_X6_addCome_109 n) a0 a1 a2 s r t
theorem rl_X6_addCome_109_3 {n : Nat} {a0 a1 a2 : Int} {s t : PS} {r : Int} (h : T_X6_addCome_109_3 (It_X6_addCome_109 n) a0 a1 a2 s r t) : It_X6_addCome_109 (n + 1) a0 a1 a2 s r t := h
theorem ul_X6_addCome_109_3 {n : Nat} {a0 a1 a2 : Int} {s t : PS} {r : Int} (h : It_X6_addCome_109 (n + 1) a0 a1 a2 s r t) : T_X6_addCome_109_3 (It_X6_addCome_109 n) a0 a1 a2 s r t := h
def M_X6_addCome_109 (s : PS) (p2 p3 : Int) (r : Int) (t : PS) : Prop := ∃ n, T_X6_addCome_109_e (It_X6_addCome_109 n) s p2 p3 r t
theorem mk_X6_addCome_109 {n : Nat} {s t : PS} {p2 p3 : Int} {r : Int} (h : T_X6_addCome_109_e (It_X6_addCome_109 n) s p2 p3 r t) : M_X6_addCome_109 s p2 p3 r t := ⟨n, h⟩
def T_J7_fill_53178_82_5 (K : Int → Int → Int → PS → Int → PS → Prop) (x5_1 x5_2 x5_3 : Int) (s_w5 : PS) (rr : Int) (ss : PS) : Prop := ((TyX s_w5) ∧ ((0 ≤ x5_1 ∧ x5_1 ≤ 0) ∧ ((0 ≤ x5_2 ∧ x5_2 ≤ 40) ∧ ((40 ≤ x5_3 ∧ x5_3 ≤ 40) ∧ ((x5_3 ≤ x5_2 ∧ (rr = 0 ∧ ss = s_w5)) ∨ (¬ (x5_3 ≤ x5_2) ∧ (∃ s_w_2 : PS, s_w_2 = (us s_w5 82 x5_2.toNat x5_1) ∧ (K x5_1 (x5_2 + 1) x5_3 s_w_2 rr ss))))))))
def T_J7_fill_53178_82_e (K : Int → Int → Int → PS → Int → PS → Prop) (s_w : PS) (p1 : Int) (rr : Int) (ss : PS) : Prop := ((TyX s_w) ∧ ((0 ≤ p1 ∧ p1 ≤ 0) ∧ (K p1 0 40 s_w rr ss)))
def It_J7_fill_53178_82 : Nat → Int → Int → Int → PS → Int → PS → Prop
  | 0, _, _, _, _, _, _ => False
  | n + 1, a0, a1, a2, s, r, t => T_J7_fill_53178_82_5 (It_J7_fill_53178_82 n) a0 a1 a2 s r t
theorem rl_J7_fill_53178_82_5 {n : Nat} {a0 a1 a2 : Int} {s t : PS} {r : Int} (h : T_J7_fill_53178_82_5 (It_J7_fill_53178_82 n) a0 a1 a2 s r t) : It_J7_fill_53178_82 (n + 1) a0 a1 a2 s r t := h
theorem ul_J7_fill_53178_82_5 {n : Nat} {a0 a1 a2 : Int} {s t : PS} {r : Int} (h : It_J7_fill_53178_82 (n + 1) a0 a1 a2 s r t) : T_J7_fill_53178_82_5 (It_J7_fill_53178_82 n) a0 a1 a2 s r t := h
def M_J7_fill_53178_82 (s : PS) (p1 : Int) (r : Int) (t : PS) : Prop := ∃ n, T_J7_fill_53178_82_e (It_J7_fill_53178_82 n) s p1 r t
theorem mk_J7_fill_53178_82 {n : Nat} {s t : PS} {p1 : Int} {r : Int} (h : T_J7_fill_53178_82_e (It_J7_fill_53178_82 n) s p1 r t) : M_J7_fill_53178_82 s p1 r t := ⟨n, h⟩
def T_J7_fill_d0a16_75_6 (K : Int → Int → Int → PS → Int → PS → Prop) (x6_1 x6_3 x6_4 : Int) (s_w6 : PS) (rr : Int) (ss : PS) : Prop := ((TyX s_w6) ∧ ((0 ≤ x6_3 ∧ x6_3 ≤ 40) ∧ ((40 ≤ x6_4 ∧ x6_4 ≤ 40) ∧ ((x6_4 ≤ x6_3 ∧ (rr = 0 ∧ ss = s_w6)) ∨ (¬ (x6_4 ≤ x6_3) ∧ (∃ s_w_2 : PS, s_w_2 = (us s_w6 75 x6_3.toNat x6_1) ∧ (K x6_1 (x6_3 + 1) x6_4 s_w_2 rr ss)))))))
def T_J7_fill_d0a16_75_e (K : Int → Int → Int → PS → Int → PS → Prop) (s_w : PS) (p1 : Int) (rr : Int) (ss : PS) : Prop := ((TyX s_w) ∧ (K p1 0 40 s_w rr ss))
def It_J7_fill_d0a16_75 : Nat → Int → Int → Int → PS → Int → PS → Prop
  | 0, _, _, _, _, _, _ => False
  | n + 1, a0, a1, a2, s, r, t => T_J7_fill_d0a16_75_6 (It_J7_fill_d0a16_75 n) a0 a1 a2 s r t
theorem rl_J7_fill_d0a16_75_6 {n : Nat} {a0 a1 a2 : Int} {s t : PS} {r : Int} (h : T_J7_fill_d0a16_75_6 (It_J7_fill_d0a16_75 n) a0 a1 a2 s r t) : It_J7_fill_d0a16_75 (n + 1) a0 a1 a2 s r t := h
theorem ul_J7_fill_d0a16_75_6 {n : Nat} {a0 a1 a2 : Int} {s t : PS} {r : Int} (h : It_J7_fill_d0a16_75 (n + 1) a0 a1 a2 s r t) : T_J7_fill_d0a16_75_6 (It_J7_fill_d0a16_75 n) a0 a1 a2 s r t := h
def M_J7_fill_d0a16_75 (s : PS) (p1 : Int) (r : Int) (t : PS) : Prop := ∃ n, T_J7_fill_d0a16_75_e (It_J7_fill_d0a16_75 n) s p1 r t
theorem mk_J7_fill_d0a16_75 {n : Nat} {s t : PS} {p1 : Int} {r : Int} (h : T_J7_fill_d0a16_75_e (It_J7_fill_d0a16_75 n) s p1 r t) : M_J7_fill_d0a16_75 s p1 r t := ⟨n, h⟩
def T_J7_fill_d0a16_77_6 (K : Int → Int → Int → PS → Int → PS → Prop) (x6_1 x6_3 x6_4 : Int) (s_w6 : PS) (rr : Int) (ss : PS) : Prop := ((TyX s_w6) ∧ ((0 ≤ x6_3 ∧ x6_3 ≤ 240) ∧ ((240 ≤ x6_4 ∧ x6_4 ≤ 240) ∧ ((x6_4 ≤ x6_3 ∧ (rr = 0 ∧ ss = s_w6)) ∨ (¬ (x6_4 ≤ x6_3) ∧ (∃ s_w_2 : PS, s_w_2 = (us s_w6 77 x6_3.toNat x6_1) ∧ (K x6_1 (x6_3 + 1) x6_4 s_w_2 rr ss)))))))
def T_J7_fill_d0a16_77_e (K : Int → Int → Int → PS → Int → PS → Prop) (s_w : PS) (p1 : Int) (rr : Int) (ss : PS) : Prop := ((TyX s_w) ∧ (K p1 0 240 s_w rr ss))
def It_J7_fill_d0a16_77 : Nat → Int → Int → Int → PS → Int → PS → Prop
  | 0, _, _, _, _, _, _ => False
  | n + 1, a0, a1, a2, s, r, t => T_J7_fill_d0a16_77_6 (It_J7_fill_d0a16_77 n) a0 a1 a2 s r t
theorem rl_J7_fill_d0a16_77_6 {n : Nat} {a0 a1 a2 : Int} {s t : PS} {r : Int} (h : T_J7_fill_d0a16_77_6 (It_J7_fill_d0a16_77 n) a0 a1 a2 s r t) : It_J7_fill_d0a16_77 (n + 1) a0 a1 a2 s r t := h
theorem ul_J7_fill_d0a16_77_6 {n : Nat} {a0 a1 a2 : Int} {s t : PS} {r : Int} (h : It_J7_fill_d0a16_77 (n + 1) a0 a1 a2 s r t) : T_J7_fill_d0a16_77_6 (It_J7_fill_d0a16_77 n) a0 a1 a2 s r t := h
def M_J7_fill_d0a16_77 (s : PS) (p1 : Int) (r : Int) (t : PS) : Prop := ∃ n, T_J7_fill_d0a16_77_e (It_J7_fill_d0a16_77 n) s p1 r t
theorem mk_J7_fill_d0a16_77 {n : Nat} {s t : PS} {p1 : Int} {r : Int} (h : T_J7_fill_d0a16_77_e (It_J7_fill_d0a16_77 n) s p1 r t) : M_J7_fill_d0a16_77 s p1 r t := ⟨n, h⟩
def T_X3_drop_31 (K : Int → Int → Int → PS → Int → PS → Prop) (x31_1 x31_2 x31_3 : Int) (s_w31 : PS) (rr : Int) (ss : PS) : Prop := ((TyX s_w31) ∧ ((0 ≤ x31_1 ∧ x31_1 ≤ 39) ∧ ((0 ≤ x31_2 ∧ x31_2 ≤ 9) ∧ ((0 ≤ x31_3 ∧ x31_3 ≤ 24) ∧ (((s_w31 64 2) ≤ x31_3 ∧ (rr = 0 ∧ ss = s_w31)) ∨ (¬ ((s_w31 64 2) ≤ x31_3) ∧ (∃ s_w_3 : PS, s_w_3 = (us s_w31 73 ((x31_2 * 24) + x31_3).toNat (wi ((s_w31 73 ((x31_2 * 24) + x31_3).toNat) + 1))) ∧ (K x31_1 x31_2 (x31_3 + 1) s_w_3 rr ss))))))))
def T_X3_drop_e (K : Int → Int → Int → PS → Int → PS → Prop) (s_w : PS) (p1 p2 : Int) (rr : Int) (ss : PS) : Prop := ((TyX s_w) ∧ ((0 ≤ p1 ∧ p1 ≤ 39) ∧ ((0 ≤ p2 ∧ p2 ≤ 9) ∧ (∃ s_w_8 : PS, s_w_8 = (us s_w 70 p1.toNat (iAnd (s_w 70 p1.toNat) (iXor (iShl 1 p2) (-1)))) ∧ (∃ s_w_10 : PS, s_w_10 = (us s_w_8 71 p1.toNat (wi ((s_w 71 p1.toNat) - 1))) ∧ (K p1 p2 (s_w 65 p1.toNat) s_w_10 rr ss))))))
def It_X3_drop : Nat → Int → Int → Int → PS → Int → PS → Prop
  | 0, _, _, _, _, _, _ => False
  | n + 1, a0, a1, a2, s, r, t => T_X3_drop_31 (It_X3_drop n) a0 a1 a2 s r t
theorem rl_X3_drop_31 {n : Nat} {a0 a1 a2 : Int} {s t : PS} {r : Int} (h : T_X3_drop_31 (It_X3_drop n) a0 a1 a2 s r t) : It_X3_drop (n + 1) a0 a1 a2 s r t := h
theorem ul_X3_drop_31 {n : Nat} {a0 a1 a2 : Int} {s t : PS} {r : Int} (h : It_X3_drop (n + 1) a0 a1 a2 s r t) : T_X3_drop_31 (It_X3_drop n) a0 a1 a2 s r t := h
def M_X3_drop (s : PS) (p1 p2 : Int) (r : Int) (t : PS) : Prop := ∃ n, T_X3_drop_e (It_X3_drop n) s p1 p2 r t
theorem mk_X3_drop {n : Nat} {s t : PS} {p1 p2 : Int} {r : Int} (h : T_X3_drop_e (It_X3_drop n) s p1 p2 r t) : M_X3_drop s p1 p2 r t := ⟨n, h⟩
def T_X3_take_29 (K : Int → Int → Int → PS → Int → PS → Prop) (x29_1 x29_2 x29_3 : Int) (s_w29 : PS) (rr : Int) (ss : PS) : Prop := ((TyX s_w29) ∧ ((0 ≤ x29_1 ∧ x29_1 ≤ 39) ∧ ((0 ≤ x29_2 ∧ x29_2 ≤ 9) ∧ ((0 ≤ x29_3 ∧ x29_3 ≤ 24) ∧ (((s_w29 64 2) ≤ x29_3 ∧ (rr = 0 ∧ ss = s_w29)) ∨ (¬ ((s_w29 64 2) ≤ x29_3) ∧ (∃ s_w_3 : PS, s_w_3 = (us s_w29 73 ((x29_2 * 24) + x29_3).toNat (wi ((s_w29 73 ((x29_2 * 24) + x29_3).toNat) - 1))) ∧ (K x29_1 x29_2 (x29_3 + 1) s_w_3 rr ss))))))))
def T_X3_take_e (K : Int → Int → Int → PS → Int → PS → Prop) (s_w : PS) (p1 p2 : Int) (rr : Int) (ss : PS) : Prop := ((TyX s_w) ∧ ((0 ≤ p1 ∧ p1 ≤ 39) ∧ ((0 ≤ p2 ∧ p2 ≤ 9) ∧ (∃ s_w_7 : PS, s_w_7 = (us s_w 70 p1.toNat (iOr (s_w 70 p1.toNat) (iShl 1 p2))) ∧ (∃ s_w_9 : PS, s_w_9 = (us s_w_7 71 p1.toNat (wi ((s_w 71 p1.toNat) + 1))) ∧ (K p1 p2 (s_w 65 p1.toNat) s_w_9 rr ss))))))
def It_X3_take : Nat → Int → Int → Int → PS → Int → PS → Prop
  | 0, _, _, _, _, _, _ => False
  | n + 1, a0, a1, a2, s, r, t => T_X3_take_29 (It_X3_take n) a0 a1 a2 s r t
theorem rl_X3_take_29 {n : Nat} {a0 a1 a2 : Int} {s t : PS} {r : Int} (h : T_X3_take_29 (It_X3_take n) a0 a1 a2 s r t) : It_X3_take (n + 1) a0 a1 a2 s r t := h
theorem ul_X3_take_29 {n : Nat} {a0 a1 a2 : Int} {s t : PS} {r : Int} (h : It_X3_take (n + 1) a0 a1 a2 s r t) : T_X3_take_29 (It_X3_take n) a0 a1 a2 s r t := h
def M_X3_take (s : PS) (p1 p2 : Int) (r : Int) (t : PS) : Prop := ∃ n, T_X3_take_e (It_X3_take n) s p1 p2 r t
theorem mk_X3_take {n : Nat} {s t : PS} {p1 p2 : Int} {r : Int} (h : T_X3_take_e (It_X3_take n) s p1 p2 r t) : M_X3_take s p1 p2 r t := ⟨n, h⟩
def T_X2_change_5 (K : Int → Int → Int → Int → PS → Int → PS → Prop) (x5_1 x5_2 x5_3 x5_4 : Int) (s_w5 : PS) (rr : Int) (ss : PS) : Prop := ((TyX s_w5) ∧ ((0 ≤ x5_1 ∧ x5_1 ≤ 39) ∧ ((0 ≤ x5_2 ∧ x5_2 ≤ 39) ∧ ((0 ≤ x5_3 ∧ x5_3 ≤ 39) ∧ ((0 ≤ x5_4 ∧ x5_4 ≤ 1000000) ∧ ((1000000 ≤ x5_4 ∧ (rr = 0 ∧ ss = s_w5)) ∨ (¬ (1000000 ≤ x5_4) ∧ ((x5_3 = x5_1 ∧ (rr = 0 ∧ ss = s_w5)) ∨ (¬ (x5_3 = x5_1) ∧ (∃ s_w_6 : PS, ((M_X3_drop s_w5 x5_3 (s_w5 76 x5_3.toNat) 0 s_w_6) ∧ ((Fr intsX [70, 71, 73] [] s_w5 s_w_6) ∧ ((TyX s_w_6) ∧ (∃ s_w_9 : PS, ((M_X3_take s_w_6 (s_w5 78 (((s_w5 76 x5_3.toNat) * 24) + (s_w5 65 x5_3.toNat)).toNat) (s_w5 76 x5_3.toNat) 0 s_w_9) ∧ ((Fr intsX [70, 71, 73] [] s_w_6 s_w_9) ∧ ((TyX s_w_9) ∧ (K x5_1 x5_2 (s_w5 78 (((s_w5 76 x5_3.toNat) * 24) + (s_w5 65 x5_3.toNat)).toNat) (x5_4 + 1) s_w_9 rr ss))))))))))))))))))
def T_X2_change_e (K : Int → Int → Int → Int → PS → Int → PS → Prop) (s_w : PS) (p1 p2 : Int) (rr : Int) (ss : PS) : Prop := ((TyX s_w) ∧ ((0 ≤ p1 ∧ p1 ≤ 39) ∧ ((0 ≤ p2 ∧ p2 ≤ 39) ∧ (K p1 p2 p2 0 s_w rr ss))))
def It_X2_change : Nat → Int → Int → Int → Int → PS → Int → PS → Prop
  | 0, _, _, _, _, _, _, _ => False
  | n + 1, a0, a1, a2, a3, s, r, t => T_X2_change_5 (It_X2_change n) a0 a1 a2 a3 s r t
theorem rl_X2_change_5 {n : Nat} {a0 a1 a2 a3 : Int} {s t : PS} {r : Int} (h : T_X2_change_5 (It_X2_change n) a0 a1 a2 a3 s r t) : It_X2_change (n + 1) a0 a1 a2 a3 s r t := h
theorem ul_X2_change_5 {n : Nat} {a0 a1 a2 a3 : Int} {s t : PS} {r : Int} (h : It_X2_change (n + 1) a0 a1 a2 a3 s r t) : T_X2_change_5 (It_X2_change n) a0 a1 a2 a3 s r t := h
def M_X2_change (s : PS) (p1 p2 : Int) (r : Int) (t : PS) : Prop := ∃ n, T_X2_change_e (It_X2_change n) s p1 p2 r t
theorem mk_X2_change {n : Nat} {s t : PS} {p1 p2 : Int} {r : Int} (h : T_X2_change_e (It_X2_change n) s p1 p2 r t) : M_X2_change s p1 p2 r t := ⟨n, h⟩
