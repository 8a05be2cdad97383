def T_X12_greatest_13 (K : Nat → Int → Int → Int → Int → Int → PS → Int → PS → Prop) (x13_1 x13_2 x13_3 : Int) (s_w13 : PS) (rr : Int) (ss : PS) : Prop := ((TyM s_w13) ∧ ((0 ≤ x13_1 ∧ x13_1 ≤ 39) ∧ ((0 ≤ x13_3 ∧ x13_3 ≤ 40) ∧ (((s_w13 0 69) ≤ x13_3 ∧ (rr = x13_2 ∧ ss = s_w13)) ∨ (¬ ((s_w13 0 69) ≤ x13_3) ∧ (((s_w13 48 x13_1.toNat) = 0 ∧ (K 73 x13_1 x13_2 x13_3 0 0 s_w13 rr ss)) ∨ (¬ ((s_w13 48 x13_1.toNat) = 0) ∧ (((s_w13 48 x13_3.toNat) = (s_w13 48 x13_1.toNat) ∧ (∃ r_8 : Int, (∃ s_w_7 : PS, ((M_X12_worth s_w13 (s_w13 53 x13_3.toNat) r_8 s_w_7) ∧ ((Fr intsM [] [] s_w13 s_w_7) ∧ ((TyM s_w_7) ∧ ((r_8 ≤ x13_2 ∧ (K 72 x13_1 x13_2 x13_3 r_8 x13_2 s_w_7 rr ss)) ∨ (¬ (r_8 ≤ x13_2) ∧ (K 72 x13_1 x13_2 x13_3 r_8 r_8 s_w_7 rr ss))))))))) ∨ (¬ ((s_w13 48 x13_3.toNat) = (s_w13 48 x13_1.toNat)) ∧ (K 73 x13_1 x13_2 x13_3 0 0 s_w13 rr ss))))))))))
def T_X12_greatest_72 (K : Nat → Int → Int → Int → Int → Int → PS → Int → PS → Prop) (x72_1 x72_2 x72_3 x72_4 y72_0 : Int) (s_w72 : PS) (rr : Int) (ss : PS) : Prop := ((TyM s_w72) ∧ ((0 ≤ x72_1 ∧ x72_1 ≤ 39) ∧ ((0 ≤ x72_3 ∧ x72_3 ≤ 39) ∧ (K 73 x72_1 y72_0 x72_3 0 0 s_w72 rr ss))))
def T_X12_greatest_73 (K : Nat → Int → Int → Int → Int → Int → PS → Int → PS → Prop) (x73_1 x73_2 x73_3 : Int) (s_w73 : PS) (rr : Int) (ss : PS) : Prop := ((TyM s_w73) ∧ ((0 ≤ x73_1 ∧ x73_1 ≤ 39) ∧ ((0 ≤ x73_3 ∧ x73_3 ≤ 39) ∧ (K 13 x73_1 x73_2 (x73_3 + 1) 0 0 s_w73 rr ss))))
def T_X12_greatest_e (K : Nat → Int → Int → Int → Int → Int → PS → Int → PS → Prop) (s_w : PS) (p1 : Int) (rr : Int) (ss : PS) : Prop := ((TyM s_w) ∧ ((0 ≤ p1 ∧ p1 ≤ 39) ∧ (∃ r_13 : Int, (∃ s_w_12 : PS, ((M_X12_worth s_w (s_w 53 p1.toNat) r_13 s_w_12) ∧ ((Fr intsM [] [] s_w s_w_12) ∧ ((TyM s_w_12) ∧ (K 13 p1 r_13 0 0 0 s_w_12 rr ss))))))))
def It_X12_greatest : Nat → Nat → Int → Int → Int → Int → Int → PS → Int → PS → Prop
  | 0, _, _, _, _, _, _, _, _, _ => False
  | n + 1, pc, a0, a1, a2, a3, a4, s, r, t => (pc = 13 ∧ T_X12_greatest_13 (It_X12_greatest n) a0 a1 a2 s r t) ∨ (pc = 72 ∧ T_X12_greatest_72 (It_X12_greatest n) a0 a1 a2 a3 a4 s r t) ∨ (pc = 73 ∧ T_X12_greatest_73 (It_X12_greatest n) a0 a1 a2 s r t)
theorem rl_X12_greatest_13 {n : Nat} {a0 a1 a2 : Int} {s t : PS} {r : Int} (h : T_X12_greatest_13 (It_X12_greatest n) a0 a1 a2 s r t) : It_X12_greatest (n + 1) 13 a0 a1 a2 0 0 s r t := Or.inl ⟨rfl, h⟩
theorem rl_X12_greatest_72 {n : Nat} {a0 a1 a2 a3 a4 : Int} {s t : PS} {r : Int} (h : T_X12_greatest_72 (It_X12_greatest n) a0 a1 a2 a3 a4 s r t) : It_X12_greatest (n + 1) 72 a0 a1 a2 a3 a4 s r t := Or.inr (Or.inl ⟨rfl, h⟩)
theorem rl_X12_greatest_73 {n : Nat} {a0 a1 a2 : Int} {s t : PS} {r : Int} (h : T_X12_greatest_73 (It_X12_greatest n) a0 a1 a2 s r t) : It_X12_greatest (n + 1) 73 a0 a1 a2 0 0 s r t := Or.inr (Or.inr (⟨rfl, h⟩))
theorem ul_X12_greatest_13 {n : Nat} {a0 a1 a2 a3 a4 : Int} {s t : PS} {r : Int} (h : It_X12_greatest (n + 1) 13 a0 a1 a2 a3 a4 s r t) : T_X12_greatest_13 (It_X12_greatest n) a0 a1 a2 s r t := by
  have h2 : ((13 : Nat) = 13 ∧ T_X12_greatest_13 (It_X12_greatest n) a0 a1 a2 s r t) ∨ ((13 : Nat) = 72 ∧ T_X12_greatest_72 (It_X12_greatest n) a0 a1 a2 a3 a4 s r t) ∨ ((13 : Nat) = 73 ∧ T_X12_greatest_73 (It_X12_greatest n) a0 a1 a2 s r t) := h
  rcases h2 with ⟨e, h2⟩ | ⟨e, h2⟩ | ⟨e, h2⟩
  · exact h2
  · exact absurd e (by decide)
  · exact absurd e (by decide)
theorem ul_X12_greatest_72 {n : Nat} {a0 a1 a2 a3 a4 : Int} {s t : PS} {r : Int} (h : It_X12_greatest (n + 1) 72 a0 a1 a2 a3 a4 s r t) : T_X12_greatest_72 (It_X12_greatest n) a0 a1 a2 a3 a4 s r t := by
  have h2 : ((72 : Nat) = 13 ∧ T_X12_greatest_13 (It_X12_greatest n) a0 a1 a2 s r t) ∨ ((72 : Nat) = 72 ∧ T_X12_greatest_72 (It_X12_greatest n) a0 a1 a2 a3 a4 s r t) ∨ ((72 : Nat) = 73 ∧ T_X12_greatest_73 (It_X12_greatest n) a0 a1 a2 s r t) := h
  rcases h2 with ⟨e, h2⟩ | ⟨e, h2⟩ | ⟨e, h2⟩
  · exact absurd e (by decide)
  · exact h2
  · exact absurd e (by decide)
theorem ul_X12_greatest_73 {n : Nat} {a0 a1 a2 a3 a4 : Int} {s t : PS} {r : Int} (h : It_X12_greatest (n + 1) 73 a0 a1 a2 a3 a4 s r t) : T_X12_greatest_73 (It_X12_greatest n) a0 a1 a2 s r t := by
  have h2 : ((73 : Nat) = 13 ∧ T_X12_greatest_13 (It_X12_greatest n) a0 a1 a2 s r t) ∨ ((73 : Nat) = 72 ∧ T_X12_greatest_72 (It_X12_greatest n) a0 a1 a2 a3 a4 s r t) ∨ ((73 : Nat) = 73 ∧ T_X12_greatest_73 (It_X12_greatest n) a0 a1 a2 s r t) := h
  rcases h2 with ⟨e, h2⟩ | ⟨e, h2⟩ | ⟨e, h2⟩
  · exact absurd e (by decide)
  · exact absurd e (by decide)
  · exact h2
def M_X12_greatest (s : PS) (p1 : Int) (r : Int) (t : PS) : Prop := ∃ n, T_X12_greatest_e (It_X12_greatest n) s p1 r t
theorem mk_X12_greatest {n : Nat} {s t : PS} {p1 : Int} {r : Int} (h : T_X12_greatest_e (It_X12_greatest n) s p1 r t) : M_X12_greatest s p1 r t := ⟨n, h⟩
def T_X12_isAhead_e (s_w : PS) (p0 p1 : Int) (rr : Int) (ss : PS) : Prop := ((TyM s_w) ∧ ((1 ≤ p0 ∧ p0 ≤ 2147483646) ∧ ((0 ≤ p1 ∧ p1 ≤ 2147483646) ∧ (((iXor p0 p1) = 0 ∧ (rr = 0 ∧ ss = s_w)) ∨ (¬ ((iXor p0 p1) = 0) ∧ (((iAnd (iAnd p0 (iXor p0 p1)) (wi (-(iXor p0 p1)))) = 0 ∧ (rr = 0 ∧ ss = s_w)) ∨ (¬ ((iAnd (iAnd p0 (iXor p0 p1)) (wi (-(iXor p0 p1)))) = 0) ∧ (rr = 1 ∧ ss = s_w))))))))
def M_X12_isAhead (s : PS) (p0 p1 : Int) (r : Int) (t : PS) : Prop := T_X12_isAhead_e s p0 p1 r t
theorem mk_X12_isAhead {s t : PS} {p0 p1 : Int} {r : Int} (h : T_X12_isAhead_e s p0 p1 r t) : M_X12_isAhead s p0 p1 r t := h
def T_X12_isRight_e (s_w : PS) (p1 : Int) (rr : Int) (ss : PS) : Prop := ((TyM s_w) ∧ ((0 ≤ p1 ∧ p1 ≤ 39) ∧ (∃ r_3 : Int, (∃ s_w_2 : PS, ((M_X12_bits s_w (s_w 53 p1.toNat) r_3 s_w_2) ∧ ((Fr intsM [] [] s_w s_w_2) ∧ ((TyM s_w_2) ∧ ((r_3 < (s_w 47 p1.toNat) ∧ (rr = 0 ∧ ss = s_w_2)) ∨ (¬ (r_3 < (s_w 47 p1.toNat)) ∧ (∃ r_8 : Int, (∃ s_w_7 : PS, ((M_X12_worth s_w_2 (s_w 53 p1.toNat) r_8 s_w_7) ∧ ((Fr intsM [] [] s_w_2 s_w_7) ∧ ((TyM s_w_7) ∧ (∃ r_11 : Int, (∃ s_w_10 : PS, ((M_X12_greatest s_w_7 p1 r_11 s_w_10) ∧ ((Fr intsM [] [] s_w_7 s_w_10) ∧ ((TyM s_w_10) ∧ ((r_8 < (wi (r_11 - (s_w 5 (s_w 0 12).toNat))) ∧ (rr = 0 ∧ ss = s_w_10)) ∨ (¬ (r_8 < (wi (r_11 - (s_w 5 (s_w 0 12).toNat)))) ∧ (rr = 1 ∧ ss = s_w_10))))))))))))))))))))))
def M_X12_isRight (s : PS) (p1 : Int) (r : Int) (t : PS) : Prop := T_X12_isRight_e s p1 r t
theorem mk_X12_isRight {s t : PS} {p1 : Int} {r : Int} (h : T_X12_isRight_e s p1 r t) : M_X12_isRight s p1 r t := h
def T_X12_costs_26 (K : Nat → Int → Int → Int → Int → Int → Int → Int → Int → Int → PS → Int → PS → Prop) (x26_1 x26_2 x26_3 x26_4 : Int) (s_w26 : PS) (rr : Int) (ss : PS) : Prop := ((TyM s_w26) ∧ ((0 ≤ x26_1 ∧ x26_1 ≤ 39) ∧ ((1 ≤ x26_4 ∧ x26_4 ≤ 2147483647) ∧ (((iShl 1 (s_w26 2 (s_w26 0 12).toNat)) ≤ x26_4 ∧ (rr = x26_3 ∧ ss = s_w26)) ∨ (¬ ((iShl 1 (s_w26 2 (s_w26 0 12).toNat)) ≤ x26_4) ∧ (((iAnd x26_4 (s_w26 53 x26_1.toNat)) = 0 ∧ (K 62 x26_1 x26_2 x26_3 x26_4 0 1 0 0 0 s_w26 rr ss)) ∨ (¬ ((iAnd x26_4 (s_w26 53 x26_1.toNat)) = 0) ∧ (K 62 x26_1 x26_2 x26_3 x26_4 0 0 0 0 0 s_w26 rr ss))))))))
def T_X12_costs_62 (K : Nat → Int → Int → Int → Int → Int → Int → Int → Int → Int → PS → Int → PS → Prop) (x62_1 x62_2 x62_3 x62_4 x62_5 y62_0 : Int) (s_w62 : PS) (rr : Int) (ss : PS) : Prop := ((TyM s_w62) ∧ ((0 ≤ x62_1 ∧ x62_1 ≤ 39) ∧ ((1 ≤ x62_4 ∧ x62_4 ≤ 2147483646) ∧ ((0 ≤ x62_5 ∧ x62_5 ≤ 0) ∧ ((0 ≤ y62_0 ∧ y62_0 ≤ 1) ∧ (K 67 x62_1 x62_2 x62_3 x62_4 x62_5 y62_0 0 0 0 s_w62 rr ss))))))
def T_X12_costs_67 (K : Nat → Int → Int → Int → Int → Int → Int → Int → Int → Int → PS → Int → PS → Prop) (x67_1 x67_2 x67_3 x67_4 x67_5 x67_6 x67_7 : Int) (s_w67 : PS) (rr : Int) (ss : PS) : Prop := ((TyM s_w67) ∧ ((0 ≤ x67_1 ∧ x67_1 ≤ 39) ∧ ((1 ≤ x67_4 ∧ x67_4 ≤ 2147483646) ∧ ((0 ≤ x67_6 ∧ x67_6 ≤ 1) ∧ ((0 ≤ x67_7 ∧ x67_7 ≤ 10) ∧ (((s_w67 2 (s_w67 0 12).toNat) ≤ x67_7 ∧ (K 165 x67_1 x67_2 x67_3 x67_4 x67_5 x67_6 x67_7 0 0 s_w67 rr ss)) ∨ (¬ ((s_w67 2 (s_w67 0 12).toNat) ≤ x67_7) ∧ ((x67_6 = 0 ∧ (K 165 x67_1 x67_2 x67_3 x67_4 x67_5 x67_6 x67_7 0 0 s_w67 rr ss)) ∨ (¬ (x67_6 = 0) ∧ (((iAnd (iShr x67_4 x67_7) 1) = 0 ∧ (K 159 x67_1 x67_2 x67_3 x67_4 x67_5 x67_6 x67_7 0 0 s_w67 rr ss)) ∨ (¬ ((iAnd (iShr x67_4 x67_7) 1) = 0) ∧ (((s_w67 9 ((10 * (s_w67 0 12)) + x67_7).toNat) ≤ 0 ∧ (K 136 x67_1 x67_2 x67_3 x67_4 x67_5 x67_6 x67_7 0 0 s_w67 rr ss)) ∨ (¬ ((s_w67 9 ((10 * (s_w67 0 12)) + x67_7).toNat) ≤ 0) ∧ (((s_w67 51 ((10 * x67_1) + x67_7).toNat) = 0 ∧ (K 136 x67_1 x67_2 x67_3 x67_4 x67_5 x67_6 x67_7 0 0 s_w67 rr ss)) ∨ (¬ ((s_w67 51 ((10 * x67_1) + x67_7).toNat) = 0) ∧ (K 137 x67_1 x67_2 x67_3 x67_4 x67_5 x67_6 x67_7 1 0 s_w67 rr ss))))))))))))))))
def T_X12_costs_136 (K : Nat → Int → Int → Int → Int → Int → Int → Int → Int → Int → PS → Int → PS → Prop) (x136_1 x136_2 x136_3 x136_4 x136_5 x136_6 x136_7 : Int) (s_w136 : PS) (rr : Int) (ss : PS) : Prop := ((TyM s_w136) ∧ ((0 ≤ x136_1 ∧ x136_1 ≤ 39) ∧ ((1 ≤ x136_4 ∧ x136_4 ≤ 2147483646) ∧ ((1 ≤ x136_6 ∧ x136_6 ≤ 1) ∧ ((0 ≤ x136_7 ∧ x136_7 ≤ 9) ∧ (K 137 x136_1 x136_2 x136_3 x136_4 x136_5 x136_6 x136_7 0 0 s_w136 rr ss))))))
def T_X12_costs_137 (K : Nat → Int → Int → Int → Int → Int → Int → Int → Int → Int → PS → Int → PS → Prop) (x137_1 x137_2 x137_3 x137_4 x137_5 x137_6 x137_7 y137_0 : Int) (s_w137 : PS) (rr : Int) (ss : PS) : Prop := ((TyM s_w137) ∧ ((0 ≤ x137_1 ∧ x137_1 ≤ 39) ∧ ((1 ≤ x137_4 ∧ x137_4 ≤ 2147483646) ∧ ((1 ≤ x137_6 ∧ x137_6 ≤ 1) ∧ ((0 ≤ x137_7 ∧ x137_7 ≤ 9) ∧ ((0 ≤ y137_0 ∧ y137_0 ≤ 1) ∧ (K 159 x137_1 x137_2 x137_3 x137_4 (wi (x137_5 + (s_w137 9 ((10 * (s_w137 0 12)) + x137_7).toNat))) y137_0 x137_7 0 0 s_w137 rr ss)))))))
def T_X12_costs_159 (K : Nat → Int → Int → Int → Int → Int → Int → Int → Int → Int → PS → Int → PS → Prop) (x159_1 x159_2 x159_3 x159_4 x159_5 x159_6 x159_7 : Int) (s_w159 : PS) (rr : Int) (ss : PS) : Prop := ((TyM s_w159) ∧ ((0 ≤ x159_1 ∧ x159_1 ≤ 39) ∧ ((1 ≤ x159_4 ∧ x159_4 ≤ 2147483646) ∧ ((0 ≤ x159_6 ∧ x159_6 ≤ 1) ∧ ((0 ≤ x159_7 ∧ x159_7 ≤ 9) ∧ (K 67 x159_1 x159_2 x159_3 x159_4 x159_5 x159_6 (x159_7 + 1) 0 0 s_w159 rr ss))))))
def T_X12_costs_165 (K : Nat → Int → Int → Int → Int → Int → Int → Int → Int → Int → PS → Int → PS → Prop) (x165_1 x165_2 x165_3 x165_4 x165_5 x165_6 x165_7 : Int) (s_w165 : PS) (rr : Int) (ss : PS) : Prop := ((TyM s_w165) ∧ ((0 ≤ x165_1 ∧ x165_1 ≤ 39) ∧ ((1 ≤ x165_4 ∧ x165_4 ≤ 2147483646) ∧ ((0 ≤ x165_6 ∧ x165_6 ≤ 1) ∧ ((0 ≤ x165_7 ∧ x165_7 ≤ 10) ∧ (∃ r_27 : Int, (∃ s_w_26 : PS, ((M_X12_worth s_w165 (iOr x165_4 (s_w165 53 x165_1.toNat)) r_27 s_w_26) ∧ ((Fr intsM [] [] s_w165 s_w_26) ∧ ((TyM s_w_26) ∧ ((x165_6 = 0 ∧ (K 315 x165_1 x165_2 x165_3 x165_4 x165_5 x165_6 (iOr x165_4 (s_w165 53 x165_1.toNat)) r_27 0 s_w_26 rr ss)) ∨ (¬ (x165_6 = 0) ∧ (∃ r_31 : Int, (∃ s_w_30 : PS, ((M_X12_bits s_w_26 (iOr x165_4 (s_w165 53 x165_1.toNat)) r_31 s_w_30) ∧ ((Fr intsM [] [] s_w_26 s_w_30) ∧ ((TyM s_w_30) ∧ ((r_31 < (s_w165 47 x165_1.toNat) ∧ (K 315 x165_1 x165_2 x165_3 x165_4 x165_5 x165_6 (iOr x165_4 (s_w165 53 x165_1.toNat)) r_27 0 s_w_30 rr ss)) ∨ (¬ (r_31 < (s_w165 47 x165_1.toNat)) ∧ ((r_27 < (wi (x165_2 - (s_w165 5 (s_w165 0 12).toNat))) ∧ (K 315 x165_1 x165_2 x165_3 x165_4 x165_5 x165_6 (iOr x165_4 (s_w165 53 x165_1.toNat)) r_27 0 s_w_30 rr ss)) ∨ (¬ (r_27 < (wi (x165_2 - (s_w165 5 (s_w165 0 12).toNat)))) ∧ ((x165_2 ≤ 0 ∧ (K 232 x165_1 x165_2 x165_3 x165_4 x165_5 x165_6 (iOr x165_4 (s_w165 53 x165_1.toNat)) r_27 0 s_w_30 rr ss)) ∨ (¬ (x165_2 ≤ 0) ∧ ((r_27 ≤ x165_2 ∧ (K 232 x165_1 x165_2 x165_3 x165_4 x165_5 x165_6 (iOr x165_4 (s_w165 53 x165_1.toNat)) r_27 0 s_w_30 rr ss)) ∨ (¬ (r_27 ≤ x165_2) ∧ (K 315 x165_1 x165_2 x165_3 x165_4 x165_5 x165_6 (iOr x165_4 (s_w165 53 x165_1.toNat)) r_27 0 s_w_30 rr ss))))))))))))))))))))))))))
def T_X12_costs_232 (K : Nat → Int → Int → Int → Int → Int → Int → Int → Int → Int → PS → Int → PS → Prop) (x232_1 x232_2 x232_3 x232_4 x232_5 x232_6 x232_7 x232_8 : Int) (s_w232 : PS) (rr : Int) (ss : PS) : Prop := ((TyM s_w232) ∧ ((0 ≤ x232_1 ∧ x232_1 ≤ 39) ∧ ((1 ≤ x232_4 ∧ x232_4 ≤ 2147483646) ∧ ((1 ≤ x232_6 ∧ x232_6 ≤ 1) ∧ ((x232_3 = (-1) ∧ (K 291 x232_1 x232_2 x232_3 x232_4 x232_5 x232_6 x232_7 x232_8 0 s_w232 rr ss)) ∨ (¬ (x232_3 = (-1)) ∧ ((x232_5 < x232_3 ∧ (K 291 x232_1 x232_2 x232_3 x232_4 x232_5 x232_6 x232_7 x232_8 0 s_w232 rr ss)) ∨ (¬ (x232_5 < x232_3) ∧ ((x232_5 = x232_3 ∧ (∃ r_7 : Int, (∃ s_w_6 : PS, ((M_X12_bits s_w232 x232_4 r_7 s_w_6) ∧ ((Fr intsM [] [] s_w232 s_w_6) ∧ ((TyM s_w_6) ∧ (∃ r_10 : Int, (∃ s_w_9 : PS, ((M_X12_bits s_w_6 (s_w232 0 83) r_10 s_w_9) ∧ ((Fr intsM [] [] s_w_6 s_w_9) ∧ ((TyM s_w_9) ∧ ((r_7 < r_10 ∧ (K 291 x232_1 x232_2 x232_3 x232_4 x232_5 x232_6 x232_7 x232_8 0 s_w_9 rr ss)) ∨ (¬ (r_7 < r_10) ∧ (∃ r_14 : Int, (∃ s_w_13 : PS, ((M_X12_bits s_w_9 x232_4 r_14 s_w_13) ∧ ((Fr intsM [] [] s_w_9 s_w_13) ∧ ((TyM s_w_13) ∧ (∃ r_17 : Int, (∃ s_w_16 : PS, ((M_X12_bits s_w_13 (s_w232 0 83) r_17 s_w_16) ∧ ((Fr intsM [] [] s_w_13 s_w_16) ∧ ((TyM s_w_16) ∧ ((r_14 = r_17 ∧ (∃ r_21 : Int, (∃ s_w_20 : PS, ((M_X12_isAhead s_w_16 x232_4 (s_w232 0 83) r_21 s_w_20) ∧ ((Fr intsM [] [] s_w_16 s_w_20) ∧ ((TyM s_w_20) ∧ ((0 ≤ r_21 ∧ r_21 ≤ 1) ∧ ((r_21 = 0 ∧ (K 295 x232_1 x232_2 x232_3 x232_4 x232_5 x232_6 x232_7 x232_8 0 s_w_20 rr ss)) ∨ (¬ (r_21 = 0) ∧ (K 291 x232_1 x232_2 x232_3 x232_4 x232_5 x232_6 x232_7 x232_8 0 s_w_20 rr ss)))))))))) ∨ (¬ (r_14 = r_17) ∧ (K 295 x232_1 x232_2 x232_3 x232_4 x232_5 x232_6 x232_7 x232_8 0 s_w_16 rr ss)))))))))))))))))))))))))) ∨ (¬ (x232_5 = x232_3) ∧ (K 295 x232_1 x232_2 x232_3 x232_4 x232_5 x232_6 x232_7 x232_8 0 s_w232 rr ss)))))))))))
def T_X12_costs_291 (K : Nat → Int → Int → Int → Int → Int → Int → Int → Int → Int → PS → Int → PS → Prop) (x291_1 x291_2 x291_3 x291_4 x291_5 x291_6 x291_7 x291_8 : Int) (s_w291 : PS) (rr : Int) (ss : PS) : Prop := ((TyM s_w291) ∧ ((0 ≤ x291_1 ∧ x291_1 ≤ 39) ∧ ((1 ≤ x291_4 ∧ x291_4 ≤ 2147483646) ∧ ((1 ≤ x291_6 ∧ x291_6 ≤ 1) ∧ (K 296 x291_1 x291_2 x291_3 x291_4 x291_5 x291_6 x291_7 x291_8 1 s_w291 rr ss)))))
def T_X12_costs_295 (K : Nat → Int → Int → Int → Int → Int → Int → Int → Int → Int → PS → Int → PS → Prop) (x295_1 x295_2 x295_3 x295_4 x295_5 x295_6 x295_7 x295_8 : Int) (s_w295 : PS) (rr : Int) (ss : PS) : Prop := ((TyM s_w295) ∧ ((0 ≤ x295_1 ∧ x295_1 ≤ 39) ∧ ((1 ≤ x295_4 ∧ x295_4 ≤ 2147483646) ∧ ((1 ≤ x295_6 ∧ x295_6 ≤ 1) ∧ (K 296 x295_1 x295_2 x295_3 x295_4 x295_5 x295_6 x295_7 x295_8 0 s_w295 rr ss)))))
def T_X12_costs_296 (K : Nat → Int → Int → Int → Int → Int → Int → Int → Int → Int → PS → Int → PS → Prop) (x296_1 x296_2 x296_3 x296_4 x296_5 x296_6 x296_7 x296_8 y296_0 : Int) (s_w296 : PS) (rr : Int) (ss : PS) : Prop := ((TyM s_w296) ∧ ((0 ≤ x296_1 ∧ x296_1 ≤ 39) ∧ ((1 ≤ x296_4 ∧ x296_4 ≤ 2147483646) ∧ ((1 ≤ x296_6 ∧ x296_6 ≤ 1) ∧ ((0 ≤ y296_0 ∧ y296_0 ≤ 1) ∧ ((y296_0 = 0 ∧ (K 315 x296_1 x296_2 x296_3 x296_4 x296_5 x296_6 x296_7 x296_8 0 s_w296 rr ss)) ∨ (¬ (y296_0 = 0) ∧ (∃ s_w_2 : PS, s_w_2 = (us s_w296 0 83 x296_4) ∧ (K 315 x296_1 x296_2 x296_5 x296_4 x296_5 x296_6 x296_7 x296_8 0 s_w_2 rr ss)))))))))
def T_X12_costs_315 (K : Nat → Int → Int → Int → Int → Int → Int → Int → Int → Int → PS → Int → PS → Prop) (x315_1 x315_2 x315_3 x315_4 x315_5 x315_6 x315_7 x315_8 : Int) (s_w315 : PS) (rr : Int) (ss : PS) : Prop := ((TyM s_w315) ∧ ((0 ≤ x315_1 ∧ x315_1 ≤ 39) ∧ ((1 ≤ x315_4 ∧ x315_4 ≤ 2147483646) ∧ ((0 ≤ x315_6 ∧ x315_6 ≤ 1) ∧ (K 26 x315_1 x315_2 x315_3 (x315_4 + 1) 0 0 0 0 0 s_w315 rr ss)))))
def T_X12_costs_e (K : Nat → Int → Int → Int → Int → Int → Int → Int → Int → Int → PS → Int → PS → Prop) (s_w : PS) (p1 : Int) (rr : Int) (ss : PS) : Prop := ((TyM s_w) ∧ ((0 ≤ p1 ∧ p1 ≤ 39) ∧ (∃ s_w_57 : PS, s_w_57 = (us s_w 0 83 0) ∧ (∃ r_59 : Int, (∃ s_w_58 : PS, ((M_X12_isRight s_w_57 p1 r_59 s_w_58) ∧ ((Fr intsM [] [] s_w_57 s_w_58) ∧ ((TyM s_w_58) ∧ ((0 ≤ r_59 ∧ r_59 ≤ 1) ∧ ((r_59 = 0 ∧ (∃ r_63 : Int, (∃ s_w_62 : PS, ((M_X12_greatest s_w_58 p1 r_63 s_w_62) ∧ ((Fr intsM [] [] s_w_58 s_w_62) ∧ ((TyM s_w_62) ∧ (K 26 p1 r_63 (-1) 1 0 0 0 0 0 s_w_62 rr ss))))))) ∨ (¬ (r_59 = 0) ∧ (rr = 0 ∧ ss = s_w_58))))))))))))
def It_X12_costs : Nat → Nat → Int → Int → Int → Int → Int → Int → Int → Int → Int → PS → Int → PS → Prop
  | 0, _, _, _, _, _, _, _, _, _, _, _, _, _ => False
  | n + 1, pc, a0, a1, a2, a3, a4, a5, a6, a7, a8, s, r, t => (pc = 26 ∧ T_X12_costs_26 (It_X12_costs n) a0 a1 a2 a3 s r t) ∨ (pc = 62 ∧ T_X12_costs_62 (It_X12_costs n) a0 a1 a2 a3 a4 a5 s r t) ∨ (pc = 67 ∧ T_X12_costs_67 (It_X12_costs n) a0 a1 a2 a3 a4 a5 a6 s r t) ∨ (pc = 136 ∧ T_X12_costs_136 (It_X12_costs n) a0 a1 a2 a3 a4 a5 a6 s r t) ∨ (pc = 137 ∧ T_X12_costs_137 (It_X12_costs n) a0 a1 a2 a3 a4 a5 a6 a7 s r t) ∨ (pc = 159 ∧ T_X12_costs_159 (It_X12_costs n) a0 a1 a2 a3 a4 a5 a6 s r t) ∨ (pc = 165 ∧ T_X12_costs_165 (It_X12_costs n) a0 a1 a2 a3 a4 a5 a6 s r t) ∨ (pc = 232 ∧ T_X12_costs_232 (It_X12_costs n) a0 a1 a2 a3 a4 a5 a6 a7 s r t) ∨ (pc = 291 ∧ T_X12_costs_291 (It_X12_costs n) a0 a1 a2 a3 a4 a5 a6 a7 s r t) ∨ (pc = 295 ∧ T_X12_costs_295 (It_X12_costs n) a0 a1 a2 a3 a4 a5 a6 a7 s r t) ∨ (pc = 296 ∧ T_X12_costs_296 (It_X12_costs n) a0 a1 a2 a3 a4 a5 a6 a7 a8 s r t) ∨ (pc = 315 ∧ T_X12_costs_315 (It_X12_costs n) a0 a1 a2 a3 a4 a5 a6 a7 s r t)
theorem rl_X12_costs_26 {n : Nat} {a0 a1 a2 a3 : Int} {s t : PS} {r : Int} (h : T_X12_costs_26 (It_X12_costs n) a0 a1 a2 a3 s r t) : It_X12_costs (n + 1) 26 a0 a1 a2 a3 0 0 0 0 0 s r t := Or.inl ⟨rfl, h⟩
theorem rl_X12_costs_62 {n : Nat} {a0 a1 a2 a3 a4 a5 : Int} {s t : PS} {r : Int} (h : T_X12_costs_62 (It_X12_costs n) a0 a1 a2 a3 a4 a5 s r t) : It_X12_costs (n + 1) 62 a0 a1 a2 a3 a4 a5 0 0 0 s r t := Or.inr (Or.inl ⟨rfl, h⟩)
theorem rl_X12_costs_67 {n : Nat} {a0 a1 a2 a3 a4 a5 a6 : Int} {s t : PS} {r : Int} (h : T_X12_costs_67 (It_X12_costs n) a0 a1 a2 a3 a4 a5 a6 s r t) : It_X12_costs (n + 1) 67 a0 a1 a2 a3 a4 a5 a6 0 0 s r t := Or.inr (Or.inr (Or.inl ⟨rfl, h⟩))
theorem rl_X12_costs_136 {n : Nat} {a0 a1 a2 a3 a4 a5 a6 : Int} {s t : PS} {r : Int} (h : T_X12_costs_136 (It_X12_costs n) a0 a1 a2 a3 a4 a5 a6 s r t) : It_X12_costs (n + 1) 136 a0 a1 a2 a3 a4 a5 a6 0 0 s r t := Or.inr (Or.inr (Or.inr (Or.inl ⟨rfl, h⟩)))
theorem rl_X12_costs_137 {n : Nat} {a0 a1 a2 a3 a4 a5 a6 a7 : Int} {s t : PS} {r : Int} (h : T_X12_costs_137 (It_X12_costs n) a0 a1 a2 a3 a4 a5 a6 a7 s r t) : It_X12_costs (n + 1) 137 a0 a1 a2 a3 a4 a5 a6 a7 0 s r t := Or.inr (Or.inr (Or.inr (Or.inr (Or.inl ⟨rfl, h⟩))))
theorem rl_X12_costs_159 {n : Nat} {a0 a1 a2 a3 a4 a5 a6 : Int} {s t : PS} {r : Int} (h : T_X12_costs_159 (It_X12_costs n) a0 a1 a2 a3 a4 a5 a6 s r t) : It_X12_costs (n + 1) 159 a0 a1 a2 a3 a4 a5 a6 0 0 s r t := Or.inr (Or.inr (Or.inr (Or.inr (Or.inr (Or.inl ⟨rfl, h⟩)))))
theorem rl_X12_costs_165 {n : Nat} {a0 a1 a2 a3 a4 a5 a6 : Int} {s t : PS} {r : Int} (h : T_X12_costs_165 (It_X12_costs n) a0 a1 a2 a3 a4 a5 a6 s r t) : It_X12_costs (n + 1) 165 a0 a1 a2 a3 a4 a5 a6 0 0 s r t := Or.inr (Or.inr (Or.inr (Or.inr (Or.inr (Or.inr (Or.inl ⟨rfl, h⟩))))))
theorem rl_X12_costs_232 {n : Nat} {a0 a1 a2 a3 a4 a5 a6 a7 : Int} {s t : PS} {r : Int} (h : T_X12_costs_232 (It_X12_costs n) a0 a1 a2 a3 a4 a5 a6 a7 s r t) : It_X12_costs (n + 1) 232 a0 a1 a2 a3 a4 a5 a6 a7 0 s r t := Or.inr (Or.inr (Or.inr (Or.inr (Or.inr (Or.inr (Or.inr (Or.inl ⟨rfl, h⟩)))))))
theorem rl_X12_costs_291 {n : Nat} {a0 a1 a2 a3 a4 a5 a6 a7 : Int} {s t : PS} {r : Int} (h : T_X12_costs_291 (It_X12_costs n) a0 a1 a2 a3 a4 a5 a6 a7 s r t) : It_X12_costs (n + 1) 291 a0 a1 a2 a3 a4 a5 a6 a7 0 s r t := Or.inr (Or.inr (Or.inr (Or.inr (Or.inr (Or.inr (Or.inr (Or.inr (Or.inl ⟨rfl, h⟩))))))))
theorem rl_X12_costs_295 {n : Nat} {a0 a1 a2 a3 a4 a5 a6 a7 : Int} {s t : PS} {r : Int} (h : T_X12_costs_295 (It_X12_costs n) a0 a1 a2 a3 a4 a5 a6 a7 s r t) : It_X12_costs (n + 1) 295 a0 a1 a2 a3 a4 a5 a6 a7 0 s r t := Or.inr (Or.inr (Or.inr (Or.inr (Or.inr (Or.inr (Or.inr (Or.inr (Or.inr (Or.inl ⟨rfl, h⟩)))))))))
theorem rl_X12_costs_296 {n : Nat} {a0 a1 a2 a3 a4 a5 a6 a7 a8 : Int} {s t : PS} {r : Int} (h : T_X12_costs_296 (It_X12_costs n) a0 a1 a2 a3 a4 a5 a6 a7 a8 s r t) : It_X12_costs (n + 1) 296 a0 a1 a2 a3 a4 a5 a6 a7 a8 s r t := Or.inr (Or.inr (Or.inr (Or.inr (Or.inr (Or.inr (Or.inr (Or.inr (Or.inr (Or.inr (Or.inl ⟨rfl, h⟩))))))))))
theorem rl_X12_costs_315 {n : Nat} {a0 a1 a2 a3 a4 a5 a6 a7 : Int} {s t : PS} {r : Int} (h : T_X12_costs_315 (It_X12_costs n) a0 a1 a2 a3 a4 a5 a6 a7 s r t) : It_X12_costs (n + 1) 315 a0 a1 a2 a3 a4 a5 a6 a7 0 s r t := Or.inr (Or.inr (Or.inr (Or.inr (Or.inr (Or.inr (Or.inr (Or.inr (Or.inr (Or.inr (Or.inr (⟨rfl, h⟩)))))))))))
theorem ul_X12_costs_26 {n : Nat} {a0 a1 a2 a3 a4 a5 a6 a7 a8 : Int} {s t : PS} {r : Int} (h : It_X12_costs (n + 1) 26 a0 a1 a2 a3 a4 a5 a6 a7 a8 s r t) : T_X12_costs_26 (It_X12_costs n) a0 a1 a2 a3 s r t := by
  have h2 : ((26 : Nat) = 26 ∧ T_X12_costs_26 (It_X12_costs n) a0 a1 a2 a3 s r t) ∨ ((26 : Nat) = 62 ∧ T_X12_costs_62 (It_X12_costs n) a0 a1 a2 a3 a4 a5 s r t) ∨ ((26 : Nat) = 67 ∧ T_X12_costs_67 (It_X12_costs n) a0 a1 a2 a3 a4 a5 a6 s r t) ∨ ((26 : Nat) = 136 ∧ T_X12_costs_136 (It_X12_costs n) a0 a1 a2 a3 a4 a5 a6 s r t) ∨ ((26 : Nat) = 137 ∧ T_X12_costs_137 (It_X12_costs n) a0 a1 a2 a3 a4 a5 a6 a7 s r t) ∨ ((26 : Nat) = 159 ∧ T_X12_costs_159 (It_X12_costs n) a0 a1 a2 a3 a4 a5 a6 s r t) ∨ ((26 : Nat) = 165 ∧ T_X12_costs_165 (It_X12_costs n) a0 a1 a2 a3 a4 a5 a6 s r t) ∨ ((26 : Nat) = 232 ∧ T_X12_costs_232 (It_X12_costs n) a0 a1 a2 a3 a4 a5 a6 a7 s r t) ∨ ((26 : Nat) = 291 ∧ T_X12_costs_291 (It_X12_costs n) a0 a1 a2 a3 a4 a5 a6 a7 s r t) ∨ ((26 : Nat) = 295 ∧ T_X12_costs_295 (It_X12_costs n) a0 a1 a2 a3 a4 a5 a6 a7 s r t) ∨ ((26 : Nat) = 296 ∧ T_X12_costs_296 (It_X12_costs n) a0 a1 a2 a3 a4 a5 a6 a7 a8 s r t) ∨ ((26 : Nat) = 315 ∧ T_X12_costs_315 (It_X12_costs n) a0 a1 a2 a3 a4 a5 a6 a7 s r t) := h
  rcases h2 with ⟨e, h2⟩ | ⟨e, h2⟩ | ⟨e, h2⟩ | ⟨e, h2⟩ | ⟨e, h2⟩ | ⟨e, h2⟩ | ⟨e, h2⟩ | ⟨e, h2⟩ | ⟨e, h2⟩ | ⟨e, h2⟩ | ⟨e, h2⟩ | ⟨e, h2⟩
  · exact h2
  · exact absurd e (by decide)
  · exact absurd e (by decide)
  · exact absurd e (by decide)
  · exact absurd e (by decide)
  · exact absurd e (by decide)
  · exact absurd e (by decide)
  · exact absurd e (by decide)
  · exact absurd e (by decide)
  · exact absurd e (by decide)
  · exact absurd e (by decide)
  · exact absurd e (by decide)
theorem ul_X12_costs_62 {n : Nat} {a0 a1 a2 a3 a4 a5 a6 a7 a8 : Int} {s t : PS} {r : Int} (h : It_X12_costs (n + 1) 62 a0 a1 a2 a3 a4 a5 a6 a7 a8 s r t) : T_X12_costs_62 (It_X12_costs n) a0 a1 a2 a3 a4 a5 s r t := by
  have h2 : ((62 : Nat) = 26 ∧ T_X12_costs_26 (It_X12_costs n) a0 a1 a2 a3 s r t) ∨ ((62 : Nat) = 62 ∧ T_X12_costs_62 (It_X12_costs n) a0 a1 a2 a3 a4 a5 s r t) ∨ ((62 : Nat) = 67 ∧ T_X12_costs_67 (It_X12_costs n) a0 a1 a2 a3 a4 a5 a6 s r t) ∨ ((62 : Nat) = 136 ∧ T_X12_costs_136 (It_X12_costs n) a0 a1 a2 a3 a4 a5 a6 s r t) ∨ ((62 : Nat) = 137 ∧ T_X12_costs_137 (It_X12_costs n) a0 a1 a2 a3 a4 a5 a6 a7 s r t) ∨ ((62 : Nat) = 159 ∧ T_X12_costs_159 (It_X12_costs n) a0 a1 a2 a3 a4 a5 a6 s r t) ∨ ((62 : Nat) = 165 ∧ T_X12_costs_165 (It_X12_costs n) a0 a1 a2 a3 a4 a5 a6 s r t) ∨ ((62 : Nat) = 232 ∧ T_X12_costs_232 (It_X12_costs n) a0 a1 a2 a3 a4 a5 a6 a7 s r t) ∨ ((62 : Nat) = 291 ∧ T_X12_costs_291 (It_X12_costs n) a0 a1 a2 a3 a4 a5 a6 a7 s r t) ∨ ((62 : Nat) = 295 ∧ T_X12_costs_295 (It_X12_costs n) a0 a1 a2 a3 a4 a5 a6 a7 s r t) ∨ ((62 : Nat) = 296 ∧ T_X12_costs_296 (It_X12_costs n) a0 a1 a2 a3 a4 a5 a6 a7 a8 s r t) ∨ ((62 : Nat) = 315 ∧ T_X12_costs_315 (It_X12_costs n) a0 a1 a2 a3 a4 a5 a6 a7 s r t) := h
  rcases h2 with ⟨e, h2⟩ | ⟨e, h2⟩ | ⟨e, h2⟩ | ⟨e, h2⟩ | ⟨e, h2⟩ | ⟨e, h2⟩ | ⟨e, h2⟩ | ⟨e, h2⟩ | ⟨e, h2⟩ | ⟨e, h2⟩ | ⟨e, h2⟩ | ⟨e, h2⟩
  · exact absurd e (by decide)
  · exact h2
  · exact absurd e (by decide)
  · exact absurd e (by decide)
  · exact absurd e (by decide)
  · exact absurd e (by decide)
  · exact absurd e (by decide)
  · exact absurd e (by decide)
  · exact absurd e (by decide)
  · exact absurd e (by decide)
  · exact absurd e (by decide)
  · exact absurd e (by decide)
theorem ul_X12_costs_67 {n : Nat} {a0 a1 a2 a3 a4 a5 a6 a7 a8 : Int} {s t : PS} {r : Int} (h : It_X12_costs (n + 1) 67 a0 a1 a2 a3 a4 a5 a6 a7 a8 s r t) : T_X12_costs_67 (It_X12_costs n) a0 a1 a2 a3 a4 a5 a6 s r t := by
  have h2 : ((67 : Nat) = 26 ∧ T_X12_costs_26 (It_X12_costs n) a0 a1 a2 a3 s r t) ∨ ((67 : Nat) = 62 ∧ T_X12_costs_62 (It_X12_costs n) a0 a1 a2 a3 a4 a5 s r t) ∨ ((67 : Nat) = 67 ∧ T_X12_costs_67 (It_X12_costs n) a0 a1 a2 a3 a4 a5 a6 s r t) ∨ ((67 : Nat) = 136 ∧ T_X12_costs_136 (It_X12_costs n) a0 a1 a2 a3 a4 a5 a6 s r t) ∨ ((67 : Nat) = 137 ∧ T_X12_costs_137 (It_X12_costs n) a0 a1 a2 a3 a4 a5 a6 a7 s r t) ∨ ((67 : Nat) = 159 ∧ T_X12_costs_159 (It_X12_costs n) a0 a1 a2 a3 a4 a5 a6 s r t) ∨ ((67 : Nat) = 165 ∧ T_X12_costs_165 (It_X12_costs n) a0 a1 a2 a3 a4 a5 a6 s r t) ∨ ((67 : Nat) = 232 ∧ T_X12_costs_232 (It_X12_costs n) a0 a1 a2 a3 a4 a5 a6 a7 s r t) ∨ ((67 : Nat) = 291 ∧ T_X12_costs_291 (It_X12_costs n) a0 a1 a2 a3 a4 a5 a6 a7 s r t) ∨ ((67 : Nat) = 295 ∧ T_X12_costs_295 (It_X12_costs n) a0 a1 a2 a3 a4 a5 a6 a7 s r t) ∨ ((67 : Nat) = 296 ∧ T_X12_costs_296 (It_X12_costs n) a0 a1 a2 a3 a4 a5 a6 a7 a8 s r t) ∨ ((67 : Nat) = 315 ∧ T_X12_costs_315 (It_X12_costs n) a0 a1 a2 a3 a4 a5 a6 a7 s r t) := h
  rcases h2 with ⟨e, h2⟩ | ⟨e, h2⟩ | ⟨e, h2⟩ | ⟨e, h2⟩ | ⟨e, h2⟩ | ⟨e, h2⟩ | ⟨e, h2⟩ | ⟨e, h2⟩ | ⟨e, h2⟩ | ⟨e, h2⟩ | ⟨e, h2⟩ | ⟨e, h2⟩
  · exact absurd e (by decide)
  · exact absurd e (by decide)
  · exact h2
  · exact absurd e (by decide)
  · exact absurd e (by decide)
  · exact absurd e (by decide)
  · exact absurd e (by decide)
  · exact absurd e (by decide)
  · exact absurd e (by decide)
  · exact absurd e (by decide)
  · exact absurd e (by decide)
  · exact absurd e (by decide)
theorem ul_X12_costs_136 {n : Nat} {a0 a1 a2 a3 a4 a5 a6 a7 a8 : Int} {s t : PS} {r : Int} (h : It_X12_costs (n + 1) 136 a0 a1 a2 a3 a4 a5 a6 a7 a8 s r t) : T_X12_costs_136 (It_X12_costs n) a0 a1 a2 a3 a4 a5 a6 s r t := by
  have h2 : ((136 : Nat) = 26 ∧ T_X12_costs_26 (It_X12_costs n) a0 a1 a2 a3 s r t) ∨ ((136 : Nat) = 62 ∧ T_X12_costs_62 (It_X12_costs n) a0 a1 a2 a3 a4 a5 s r t) ∨ ((136 : Nat) = 67 ∧ T_X12_costs_67 (It_X12_costs n) a0 a1 a2 a3 a4 a5 a6 s r t) ∨ ((136 : Nat) = 136 ∧ T_X12_costs_136 (It_X12_costs n) a0 a1 a2 a3 a4 a5 a6 s r t) ∨ ((136 : Nat) = 137 ∧ T_X12_costs_137 (It_X12_costs n) a0 a1 a2 a3 a4 a5 a6 a7 s r t) ∨ ((136 : Nat) = 159 ∧ T_X12_costs_159 (It_X12_costs n) a0 a1 a2 a3 a4 a5 a6 s r t) ∨ ((136 : Nat) = 165 ∧ T_X12_costs_165 (It_X12_costs n) a0 a1 a2 a3 a4 a5 a6 s r t) ∨ ((136 : Nat) = 232 ∧ T_X12_costs_232 (It_X12_costs n) a0 a1 a2 a3 a4 a5 a6 a7 s r t) ∨ ((136 : Nat) = 291 ∧ T_X12_costs_291 (It_X12_costs n) a0 a1 a2 a3 a4 a5 a6 a7 s r t) ∨ ((136 : Nat) = 295 ∧ T_X12_costs_295 (It_X12_costs n) a0 a1 a2 a3 a4 a5 a6 a7 s r t) ∨ ((136 : Nat) = 296 ∧ T_X12_costs_296 (It_X12_costs n) a0 a1 a2 a3 a4 a5 a6 a7 a8 s r t) ∨ ((136 : Nat) = 315 ∧ T_X12_costs_315 (It_X12_costs n) a0 a1 a2 a3 a4 a5 a6 a7 s r t) := h
  rcases h2 with ⟨e, h2⟩ | ⟨e, h2⟩ | ⟨e, h2⟩ | ⟨e, h2⟩ | ⟨e, h2⟩ | ⟨e, h2⟩ | ⟨e, h2⟩ | ⟨e, h2⟩ | ⟨e, h2⟩ | ⟨e, h2⟩ | ⟨e, h2⟩ | ⟨e, h2⟩
  · exact absurd e (by decide)
  · exact absurd e (by decide)
  · exact absurd e (by decide)
  · exact h2
  · exact absurd e (by decide)
  · exact absurd e (by decide)
  · exact absurd e (by decide)
  · exact absurd e (by decide)
  · exact absurd e (by decide)
  · exact absurd e (by decide)
  · exact absurd e (by decide)
  · exact absurd e (by decide)
theorem ul_X12_costs_137 {n : Nat} {a0 a1 a2 a3 a4 a5 a6 a7 a8 : Int} {s t : PS} {r : Int} (h : It_X12_costs (n + 1) 137 a0 a1 a2 a3 a4 a5 a6 a7 a8 s r t) : T_X12_costs_137 (It_X12_costs n) a0 a1 a2 a3 a4 a5 a6 a7 s r t := by
  have h2 : ((137 : Nat) = 26 ∧ T_X12_costs_26 (It_X12_costs n) a0 a1 a2 a3 s r t) ∨ ((137 : Nat) = 62 ∧ T_X12_costs_62 (It_X12_costs n) a0 a1 a2 a3 a4 a5 s r t) ∨ ((137 : Nat) = 67 ∧ T_X12_costs_67 (It_X12_costs n) a0 a1 a2 a3 a4 a5 a6 s r t) ∨ ((137 : Nat) = 136 ∧ T_X12_costs_136 (It_X12_costs n) a0 a1 a2 a3 a4 a5 a6 s r t) ∨ ((137 : Nat) = 137 ∧ T_X12_costs_137 (It_X12_costs n) a0 a1 a2 a3 a4 a5 a6 a7 s r t) ∨ ((137 : Nat) = 159 ∧ T_X12_costs_159 (It_X12_costs n) a0 a1 a2 a3 a4 a5 a6 s r t) ∨ ((137 : Nat) = 165 ∧ T_X12_costs_165 (It_X12_costs n) a0 a1 a2 a3 a4 a5 a6 s r t) ∨ ((137 : Nat) = 232 ∧ T_X12_costs_232 (It_X12_costs n) a0 a1 a2 a3 a4 a5 a6 a7 s r t) ∨ ((137 : Nat) = 291 ∧ T_X12_costs_291 (It_X12_costs n) a0 a1 a2 a3 a4 a5 a6 a7 s r t) ∨ ((137 : Nat) = 295 ∧ T_X12_costs_295 (It_X12_costs n) a0 a1 a2 a3 a4 a5 a6 a7 s r t) ∨ ((137 : Nat) = 296 ∧ T_X12_costs_296 (It_X12_costs n) a0 a1 a2 a3 a4 a5 a6 a7 a8 s r t) ∨ ((137 : Nat) = 315 ∧ T_X12_costs_315 (It_X12_costs n) a0 a1 a2 a3 a4 a5 a6 a7 s r t) := h
  rcases h2 with ⟨e, h2⟩ | ⟨e, h2⟩ | ⟨e, h2⟩ | ⟨e, h2⟩ | ⟨e, h2⟩ | ⟨e, h2⟩ | ⟨e, h2⟩ | ⟨e, h2⟩ | ⟨e, h2⟩ | ⟨e, h2⟩ | ⟨e, h2⟩ | ⟨e, h2⟩
  · exact absurd e (by decide)
  · exact absurd e (by decide)
  · exact absurd e (by decide)
  · exact absurd e (by decide)
  · exact h2
  · exact absurd e (by decide)
  · exact absurd e (by decide)
  · exact absurd e (by decide)
  · exact absurd e (by decide)
  · exact absurd e (by decide)
  · exact absurd e (by decide)
  · exact absurd e (by decide)
theorem ul_X12_costs_159 {n : Nat} {a0 a1 a2 a3 a4 a5 a6 a7 a8 : Int} {s t : PS} {r : Int} (h : It_X12_costs (n + 1) 159 a0 a1 a2 a3 a4 a5 a6 a7 a8 s r t) : T_X12_costs_159 (It_X12_costs n) a0 a1 a2 a3 a4 a5 a6 s r t := by
  have h2 : ((159 : Nat) = 26 ∧ T_X12_costs_26 (It_X12_costs n) a0 a1 a2 a3 s r t) ∨ ((159 : Nat) = 62 ∧ T_X12_costs_62 (It_X12_costs n) a0 a1 a2 a3 a4 a5 s r t) ∨ ((159 : Nat) = 67 ∧ T_X12_costs_67 (It_X12_costs n) a0 a1 a2 a3 a4 a5 a6 s r t) ∨ ((159 : Nat) = 136 ∧ T_X12_costs_136 (It_X12_costs n) a0 a1 a2 a3 a4 a5 a6 s r t) ∨ ((159 : Nat) = 137 ∧ T_X12_costs_137 (It_X12_costs n) a0 a1 a2 a3 a4 a5 a6 a7 s r t) ∨ ((159 : Nat) = 159 ∧ T_X12_costs_159 (It_X12_costs n) a0 a1 a2 a3 a4 a5 a6 s r t) ∨ ((159 : Nat) = 165 ∧ T_X12_costs_165 (It_X12_costs n) a0 a1 a2 a3 a4 a5 a6 s r t) ∨ ((159 : Nat) = 232 ∧ T_X12_costs_232 (It_X12_costs n) a0 a1 a2 a3 a4 a5 a6 a7 s r t) ∨ ((159 : Nat) = 291 ∧ T_X12_costs_291 (It_X12_costs n) a0 a1 a2 a3 a4 a5 a6 a7 s r t) ∨ ((159 : Nat) = 295 ∧ T_X12_costs_295 (It_X12_costs n) a0 a1 a2 a3 a4 a5 a6 a7 s r t) ∨ ((159 : Nat) = 296 ∧ T_X12_costs_296 (It_X12_costs n) a0 a1 a2 a3 a4 a5 a6 a7 a8 s r t) ∨ ((159 : Nat) = 315 ∧ T_X12_costs_315 (It_X12_costs n) a0 a1 a2 a3 a4 a5 a6 a7 s r t) := h
  rcases h2 with ⟨e, h2⟩ | ⟨e, h2⟩ | ⟨e, h2⟩ | ⟨e, h2⟩ | ⟨e, h2⟩ | ⟨e, h2⟩ | ⟨e, h2⟩ | ⟨e, h2⟩ | ⟨e, h2⟩ | ⟨e, h2⟩ | ⟨e, h2⟩ | ⟨e, h2⟩
  · exact absurd e (by decide)
  · exact absurd e (by decide)
  · exact absurd e (by decide)
  · exact absurd e (by decide)
  · exact absurd e (by decide)
  · exact h2
  · exact absurd e (by decide)
  · exact absurd e (by decide)
  · exact absurd e (by decide)
  · exact absurd e (by decide)
  · exact absurd e (by decide)
  · exact absurd e (by decide)
theorem ul_X12_costs_165 {n : Nat} {a0 a1 a2 a3 a4 a5 a6 a7 a8 : Int} {s t : PS} {r : Int} (h : It_X12_costs (n + 1) 165 a0 a1 a2 a3 a4 a5 a6 a7 a8 s r t) : T_X12_costs_165 (It_X12_costs n) a0 a1 a2 a3 a4 a5 a6 s r t := by
  have h2 : ((165 : Nat) = 26 ∧ T_X12_costs_26 (It_X12_costs n) a0 a1 a2 a3 s r t) ∨ ((165 : Nat) = 62 ∧ T_X12_costs_62 (It_X12_costs n) a0 a1 a2 a3 a4 a5 s r t) ∨ ((165 : Nat) = 67 ∧ T_X12_costs_67 (It_X12_costs n) a0 a1 a2 a3 a4 a5 a6 s r t) ∨ ((165 : Nat) = 136 ∧ T_X12_costs_136 (It_X12_costs n) a0 a1 a2 a3 a4 a5 a6 s r t) ∨ ((165 : Nat) = 137 ∧ T_X12_costs_137 (It_X12_costs n) a0 a1 a2 a3 a4 a5 a6 a7 s r t) ∨ ((165 : Nat) = 159 ∧ T_X12_costs_159 (It_X12_costs n) a0 a1 a2 a3 a4 a5 a6 s r t) ∨ ((165 : Nat) = 165 ∧ T_X12_costs_165 (It_X12_costs n) a0 a1 a2 a3 a4 a5 a6 s r t) ∨ ((165 : Nat) = 232 ∧ T_X12_costs_232 (It_X12_costs n) a0 a1 a2 a3 a4 a5 a6 a7 s r t) ∨ ((165 : Nat) = 291 ∧ T_X12_costs_291 (It_X12_costs n) a0 a1 a2 a3 a4 a5 a6 a7 s r t) ∨ ((165 : Nat) = 295 ∧ T_X12_costs_295 (It_X12_costs n) a0 a1 a2 a3 a4 a5 a6 a7 s r t) ∨ ((165 : Nat) = 296 ∧ T_X12_costs_296 (It_X12_costs n) a0 a1 a2 a3 a4 a5 a6 a7 a8 s r t) ∨ ((165 : Nat) = 315 ∧ T_X12_costs_315 (It_X12_costs n) a0 a1 a2 a3 a4 a5 a6 a7 s r t) := h
  rcases h2 with ⟨e, h2⟩ | ⟨e, h2⟩ | ⟨e, h2⟩ | ⟨e, h2⟩ | ⟨e, h2⟩ | ⟨e, h2⟩ | ⟨e, h2⟩ | ⟨e, h2⟩ | ⟨e, h2⟩ | ⟨e, h2⟩ | ⟨e, h2⟩ | ⟨e, h2⟩
  · exact absurd e (by decide)
  · exact absurd e (by decide)
  · exact absurd e (by decide)
  · exact absurd e (by decide)
  · exact absurd e (by decide)
  · exact absurd e (by decide)
  · exact h2
  · exact absurd e (by decide)
  · exact absurd e (by decide)
  · exact absurd e (by decide)
  · exact absurd e (by decide)
  · exact absurd e (by decide)
theorem ul_X12_costs_232 {n : Nat} {a0 a1 a2 a3 a4 a5 a6 a7 a8 : Int} {s t : PS} {r : Int} (h : It_X12_costs (n + 1) 232 a0 a1 a2 a3 a4 a5 a6 a7 a8 s r t) : T_X12_costs_232 (It_X12_costs n) a0 a1 a2 a3 a4 a5 a6 a7 s r t := by
  have h2 : ((232 : Nat) = 26 ∧ T_X12_costs_26 (It_X12_costs n) a0 a1 a2 a3 s r t) ∨ ((232 : Nat) = 62 ∧ T_X12_costs_62 (It_X12_costs n) a0 a1 a2 a3 a4 a5 s r t) ∨ ((232 : Nat) = 67 ∧ T_X12_costs_67 (It_X12_costs n) a0 a1 a2 a3 a4 a5 a6 s r t) ∨ ((232 : Nat) = 136 ∧ T_X12_costs_136 (It_X12_costs n) a0 a1 a2 a3 a4 a5 a6 s r t) ∨ ((232 : Nat) = 137 ∧ T_X12_costs_137 (It_X12_costs n) a0 a1 a2 a3 a4 a5 a6 a7 s r t) ∨ ((232 : Nat) = 159 ∧ T_X12_costs_159 (It_X12_costs n) a0 a1 a2 a3 a4 a5 a6 s r t) ∨ ((232 : Nat) = 165 ∧ T_X12_costs_165 (It_X12_costs n) a0 a1 a2 a3 a4 a5 a6 s r t) ∨ ((232 : Nat) = 232 ∧ T_X12_costs_232 (It_X12_costs n) a0 a1 a2 a3 a4 a5 a6 a7 s r t) ∨ ((232 : Nat) = 291 ∧ T_X12_costs_291 (It_X12_costs n) a0 a1 a2 a3 a4 a5 a6 a7 s r t) ∨ ((232 : Nat) = 295 ∧ T_X12_costs_295 (It_X12_costs n) a0 a1 a2 a3 a4 a5 a6 a7 s r t) ∨ ((232 : Nat) = 296 ∧ T_X12_costs_296 (It_X12_costs n) a0 a1 a2 a3 a4 a5 a6 a7 a8 s r t) ∨ ((232 : Nat) = 315 ∧ T_X12_costs_315 (It_X12_costs n) a0 a1 a2 a3 a4 a5 a6 a7 s r t) := h
  rcases h2 with ⟨e, h2⟩ | ⟨e, h2⟩ | ⟨e, h2⟩ | ⟨e, h2⟩ | ⟨e, h2⟩ | ⟨e, h2⟩ | ⟨e, h2⟩ | ⟨e, h2⟩ | ⟨e, h2⟩ | ⟨e, h2⟩ | ⟨e, h2⟩ | ⟨e, h2⟩
  · exact absurd e (by decide)
  · exact absurd e (by decide)
  · exact absurd e (by decide)
  · exact absurd e (by decide)
  · exact absurd e (by decide)
  · exact absurd e (by decide)
  · exact absurd e (by decide)
  · exact h2
  · exact absurd e (by decide)
  · exact absurd e (by decide)
  · exact absurd e (by decide)
  · exact absurd e (by decide)
theorem ul_X12_costs_291 {n : Nat} {a0 a1 a2 a3 a4 a5 a6 a7 a8 : Int} {s t : PS} {r : Int} (h : It_X12_costs (n + 1) 291 a0 a1 a2 a3 a4 a5 a6 a7 a8 s r t) : T_X12_costs_291 (It_X12_costs n) a0 a1 a2 a3 a4 a5 a6 a7 s r t := by
  have h2 : ((291 : Nat) = 26 ∧ T_X12_costs_26 (It_X12_costs n) a0 a1 a2 a3 s r t) ∨ ((291 : Nat) = 62 ∧ T_X12_costs_62 (It_X12_costs n) a0 a1 a2 a3 a4 a5 s r t) ∨ ((291 : Nat) = 67 ∧ T_X12_costs_67 (It_X12_costs n) a0 a1 a2 a3 a4 a5 a6 s r t) ∨ ((291 : Nat) = 136 ∧ T_X12_costs_136 (It_X12_costs n) a0 a1 a2 a3 a4 a5 a6 s r t) ∨ ((291 : Nat) = 137 ∧ T_X12_costs_137 (It_X12_costs n) a0 a1 a2 a3 a4 a5 a6 a7 s r t) ∨ ((291 : Nat) = 159 ∧ T_X12_costs_159 (It_X12_costs n) a0 a1 a2 a3 a4 a5 a6 s r t) ∨ ((291 : Nat) = 165 ∧ T_X12_costs_165 (It_X12_costs n) a0 a1 a2 a3 a4 a5 a6 s r t) ∨ ((291 : Nat) = 232 ∧ T_X12_costs_232 (It_X12_costs n) a0 a1 a2 a3 a4 a5 a6 a7 s r t) ∨ ((291 : Nat) = 291 ∧ T_X12_costs_291 (It_X12_costs n) a0 a1 a2 a3 a4 a5 a6 a7 s r t) ∨ ((291 : Nat) = 295 ∧ T_X12_costs_295 (It_X12_costs n) a0 a1 a2 a3 a4 a5 a6 a7 s r t) ∨ ((291 : Nat) = 296 ∧ T_X12_costs_296 (It_X12_costs n) a0 a1 a2 a3 a4 a5 a6 a7 a8 s r t) ∨ ((291 : Nat) = 315 ∧ T_X12_costs_315 (It_X12_costs n) a0 a1 a2 a3 a4 a5 a6 a7 s r t) := h
  rcases h2 with ⟨e, h2⟩ | ⟨e, h2⟩ | ⟨e, h2⟩ | ⟨e, h2⟩ | ⟨e, h2⟩ | ⟨e, h2⟩ | ⟨e, h2⟩ | ⟨e, h2⟩ | ⟨e, h2⟩ | ⟨e, h2⟩ | ⟨e, h2⟩ | ⟨e, h2⟩
  · exact absurd e (by decide)
  · exact absurd e (by decide)
  · exact absurd e (by decide)
  · exact absurd e (by decide)
  · exact absurd e (by decide)
  · exact absurd e (by decide)
  · exact absurd e (by decide)
  · exact absurd e (by decide)
  · exact h2
  · exact absurd e (by decide)
  · exact absurd e (by decide)
  · exact absurd e (by decide)
theorem ul_X12_costs_295 {n : Nat} {a0 a1 a2 a3 a4 a5 a6 a7 a8 : Int} {s t : PS} {r : Int} (h : It_X12_costs (n + 1) 295 a0 a1 a2 a3 a4 a5 a6 a7 a8 s r t) : T_X12_costs_295 (It_X12_costs n) a0 a1 a2 a3 a4 a5 a6 a7 s r t := by
  have h2 : ((295 : Nat) = 26 ∧ T_X12_costs_26 (It_X12_costs n) a0 a1 a2 a3 s r t) ∨ ((295 : Nat) = 62 ∧ T_X12_costs_62 (It_X12_costs n) a0 a1 a2 a3 a4 a5 s r t) ∨ ((295 : Nat) = 67 ∧ T_X12_costs_67 (It_X12_costs n) a0 a1 a2 a3 a4 a5 a6 s r t) ∨ ((295 : Nat) = 136 ∧ T_X12_costs_136 (It_X12_costs n) a0 a1 a2 a3 a4 a5 a6 s r t) ∨ ((295 : Nat) = 137 ∧ T_X12_costs_137 (It_X12_costs n) a0 a1 a2 a3 a4 a5 a6 a7 s r t) ∨ ((295 : Nat) = 159 ∧ T_X12_costs_159 (It_X12_costs n) a0 a1 a2 a3 a4 a5 a6 s r t) ∨ ((295 : Nat) = 165 ∧ T_X12_costs_165 (It_X12_costs n) a0 a1 a2 a3 a4 a5 a6 s r t) ∨ ((295 : Nat) = 232 ∧ T_X12_costs_232 (It_X12_costs n) a0 a1 a2 a3 a4 a5 a6 a7 s r t) ∨ ((295 : Nat) = 291 ∧ T_X12_costs_291 (It_X12_costs n) a0 a1 a2 a3 a4 a5 a6 a7 s r t) ∨ ((295 : Nat) = 295 ∧ T_X12_costs_295 (It_X12_costs n) a0 a1 a2 a3 a4 a5 a6 a7 s r t) ∨ ((295 : Nat) = 296 ∧ T_X12_costs_296 (It_X12_costs n) a0 a1 a2 a3 a4 a5 a6 a7 a8 s r t) ∨ ((295 : Nat) = 315 ∧ T_X12_costs_315 (It_X12_costs n) a0 a1 a2 a3 a4 a5 a6 a7 s r t) := h
  rcases h2 with ⟨e, h2⟩ | ⟨e, h2⟩ | ⟨e, h2⟩ | ⟨e, h2⟩ | ⟨e, h2⟩ | ⟨e, h2⟩ | ⟨e, h2⟩ | ⟨e, h2⟩ | ⟨e, h2⟩ | ⟨e, h2⟩ | ⟨e, h2⟩ | ⟨e, h2⟩
  · exact absurd e (by decide)
  · exact absurd e (by decide)
  · exact absurd e (by decide)
  · exact absurd e (by decide)
  · exact absurd e (by decide)
  · exact absurd e (by decide)
  · exact absurd e (by decide)
  · exact absurd e (by decide)
  · exact absurd e (by decide)
  · exact h2
  · exact absurd e (by decide)
  · exact absurd e (by decide)
theorem ul_X12_costs_296 {n : Nat} {a0 a1 a2 a3 a4 a5 a6 a7 a8 : Int} {s t : PS} {r : Int} (h : It_X12_costs (n + 1) 296 a0 a1 a2 a3 a4 a5 a6 a7 a8 s r t) : T_X12_costs_296 (It_X12_costs n) a0 a1 a2 a3 a4 a5 a6 a7 a8 s r t := by
  have h2 : ((296 : Nat) = 26 ∧ T_X12_costs_26 (It_X12_costs n) a0 a1 a2 a3 s r t) ∨ ((296 : Nat) = 62 ∧ T_X12_costs_62 (It_X12_costs n) a0 a1 a2 a3 a4 a5 s r t) ∨ ((296 : Nat) = 67 ∧ T_X12_costs_67 (It_X12_costs n) a0 a1 a2 a3 a4 a5 a6 s r t) ∨ ((296 : Nat) = 136 ∧ T_X12_costs_136 (It_X12_costs n) a0 a1 a2 a3 a4 a5 a6 s r t) ∨ ((296 : Nat) = 137 ∧ T_X12_costs_137 (It_X12_costs n) a0 a1 a2 a3 a4 a5 a6 a7 s r t) ∨ ((296 : Nat) = 159 ∧ T_X12_costs_159 (It_X12_costs n) a0 a1 a2 a3 a4 a5 a6 s r t) ∨ ((296 : Nat) = 165 ∧ T_X12_costs_165 (It_X12_costs n) a0 a1 a2 a3 a4 a5 a6 s r t) ∨ ((296 : Nat) = 232 ∧ T_X12_costs_232 (It_X12_costs n) a0 a1 a2 a3 a4 a5 a6 a7 s r t) ∨ ((296 : Nat) = 291 ∧ T_X12_costs_291 (It_X12_costs n) a0 a1 a2 a3 a4 a5 a6 a7 s r t) ∨ ((296 : Nat) = 295 ∧ T_X12_costs_295 (It_X12_costs n) a0 a1 a2 a3 a4 a5 a6 a7 s r t) ∨ ((296 : Nat) = 296 ∧ T_X12_costs_296 (It_X12_costs n) a0 a1 a2 a3 a4 a5 a6 a7 a8 s r t) ∨ ((296 : Nat) = 315 ∧ T_X12_costs_315 (It_X12_costs n) a0 a1 a2 a3 a4 a5 a6 a7 s r t) := h
  rcases h2 with ⟨e, h2⟩ | ⟨e, h2⟩ | ⟨e, h2⟩ | ⟨e, h2⟩ | ⟨e, h2⟩ | ⟨e, h2⟩ | ⟨e, h2⟩ | ⟨e, h2⟩ | ⟨e, h2⟩ | ⟨e, h2⟩ | ⟨e, h2⟩ | ⟨e, h2⟩
  · exact absurd e (by decide)
  · exact absurd e (by decide)
  · exact absurd e (by decide)
  · exact absurd e (by decide)
  · exact absurd e (by decide)
  · exact absurd e (by decide)
  · exact absurd e (by decide)
  · exact absurd e (by decide)
  · exact absurd e (by decide)
  · exact absurd e (by decide)
  · exact h2
  · exact absurd e (by decide)
theorem ul_X12_costs_315 {n : Nat} {a0 a1 a2 a3 a4 a5 a6 a7 a8 : Int} {s t : PS} {r : Int} (h : It_X12_costs (n + 1) 315 a0 a1 a2 a3 a4 a5 a6 a7 a8 s r t) : T_X12_costs_315 (It_X12_costs n) a0 a1 a2 a3 a4 a5 a6 a7 s r t := by
  have h2 : ((315 : Nat) = 26 ∧ T_X12_costs_26 (It_X12_costs n) a0 a1 a2 a3 s r t) ∨ ((315 : Nat) = 62 ∧ T_X12_costs_62 (It_X12_costs n) a0 a1 a2 a3 a4 a5 s r t) ∨ ((315 : Nat) = 67 ∧ T_X12_costs_67 (It_X12_costs n) a0 a1 a2 a3 a4 a5 a6 s r t) ∨ ((315 : Nat) = 136 ∧ T_X12_costs_136 (It_X12_costs n) a0 a1 a2 a3 a4 a5 a6 s r t) ∨ ((315 : Nat) = 137 ∧ T_X12_costs_137 (It_X12_costs n) a0 a1 a2 a3 a4 a5 a6 a7 s r t) ∨ ((315 : Nat) = 159 ∧ T_X12_costs_159 (It_X12_costs n) a0 a1 a2 a3 a4 a5 a6 s r t) ∨ ((315 : Nat) = 165 ∧ T_X12_costs_165 (It_X12_costs n) a0 a1 a2 a3 a4 a5 a6 s r t) ∨ ((315 : Nat) = 232 ∧ T_X12_costs_232 (It_X12_costs n) a0 a1 a2 a3 a4 a5 a6 a7 s r t) ∨ ((315 : Nat) = 291 ∧ T_X12_costs_291 (It_X12_costs n) a0 a1 a2 a3 a4 a5 a6 a7 s r t) ∨ ((315 : Nat) = 295 ∧ T_X12_costs_295 (It_X12_costs n) a0 a1 a2 a3 a4 a5 a6 a7 s r t) ∨ ((315 : Nat) = 296 ∧ T_X12_costs_296 (It_X12_costs n) a0 a1 a2 a3 a4 a5 a6 a7 a8 s r t) ∨ ((315 : Nat) = 315 ∧ T_X12_costs_315 (It_X12_costs n) a0 a1 a2 a3 a4 a5 a6 a7 s r t) := h
  rcases h2 with ⟨e, h2⟩ | ⟨e, h2⟩ | ⟨e, h2⟩ | ⟨e, h2⟩ | ⟨e, h2⟩ | ⟨e, h2⟩ | ⟨e, h2⟩ | ⟨e, h2⟩ | ⟨e, h2⟩ | ⟨e, h2⟩ | ⟨e, h2⟩ | ⟨e, h2⟩
  · exact absurd e (by decide)
  · exact absurd e (by decide)
  · exact absurd e (by decide)
  · exact absurd e (by decide)
  · exact absurd e (by decide)
  · exact absurd e (by decide)
  · exact absurd e (by decide)
  · exact absurd e (by decide)
  · exact absurd e (by decide)
  · exact absurd e (by decide)
  · exact absurd e (by decide)
  · exact h2
def M_X12_costs (s : PS) (p1 : Int) (r : Int) (t : PS) : Prop := ∃ n, T_X12_costs_e (It_X12_costs n) s p1 r t
theorem mk_X12_costs {n : Nat} {s t : PS} {p1 : Int} {r : Int} (h : T_X12_costs_e (It_X12_costs n) s p1 r t) : M_X12_costs s p1 r t := ⟨n, h⟩
def T_X12_price_e (s_w : PS) (p1 : Int) (rr : Int) (ss : PS) : Prop := ((TyM s_w) ∧ (∃ r_2 : Int, (∃ s_w_1 : PS, ((M_X12_was s_w p1 r_2 s_w_1) ∧ ((Fr intsM [] [] s_w s_w_1) ∧ ((TyM s_w_1) ∧ ((0 ≤ r_2 ∧ r_2 ≤ 1) ∧ ((r_2 = 0 ∧ (rr = (-1) ∧ ss = s_w_1)) ∨ (¬ (r_2 = 0) ∧ (∃ r_7 : Int, (∃ s_w_6 : PS, ((M_X12_costs s_w_1 p1 r_7 s_w_6) ∧ ((Fr intsM [0] [(0, 83)] s_w_1 s_w_6) ∧ ((TyM s_w_6) ∧ (rr = r_7 ∧ ss = s_w_6)))))))))))))))
def M_X12_price (s : PS) (p1 : Int) (r : Int) (t : PS) : Prop := T_X12_price_e s p1 r t
theorem mk_X12_price {s t : PS} {p1 : Int} {r : Int} (h : T_X12_price_e s p1 r t) : M_X12_price s p1 r t := h
def T_X12_spend_29 (K : Nat → Int → Int → Int → Int → Int → PS → Int → PS → Prop) (x29_1 x29_2 : Int) (s_w29 : PS) (rr : Int) (ss : PS) : Prop := ((TyM s_w29) ∧ ((0 ≤ x29_1 ∧ x29_1 ≤ 100000) ∧ ((0 ≤ x29_2 ∧ x29_2 ≤ 40) ∧ (((s_w29 0 69) ≤ x29_2 ∧ (∃ s_w_25 : PS, s_w_25 = (us s_w29 0 80 1) ∧ (∃ s_w_26 : PS, s_w_26 = (us s_w_25 0 81 0) ∧ (K 89 x29_1 0 1 0 0 s_w_26 rr ss)))) ∨ (¬ ((s_w29 0 69) ≤ x29_2) ∧ (∃ r_28 : Int, (∃ s_w_27 : PS, ((M_X12_isRight s_w29 x29_2 r_28 s_w_27) ∧ ((Fr intsM [] [] s_w29 s_w_27) ∧ ((TyM s_w_27) ∧ ((0 ≤ r_28 ∧ r_28 ≤ 1) ∧ (∃ s_w_30 : PS, s_w_30 = (us s_w_27 58 x29_2.toNat r_28) ∧ (∃ r_32 : Int, (∃ s_w_31 : PS, ((M_X12_costs s_w_30 x29_2 r_32 s_w_31) ∧ ((Fr intsM [0] [(0, 83)] s_w_30 s_w_31) ∧ ((TyM s_w_31) ∧ (∃ s_w_34 : PS, s_w_34 = (us s_w_31 56 x29_2.toNat r_32) ∧ (∃ s_w_35 : PS, s_w_35 = (us s_w_34 57 x29_2.toNat (s_w_31 0 83)) ∧ (K 29 x29_1 (x29_2 + 1) 0 0 0 s_w_35 rr ss))))))))))))))))))))
def T_X12_spend_89 (K : Nat → Int → Int → Int → Int → Int → PS → Int → PS → Prop) (x89_1 x89_2 x89_3 : Int) (s_w89 : PS) (rr : Int) (ss : PS) : Prop := ((TyM s_w89) ∧ ((0 ≤ x89_1 ∧ x89_1 ≤ 100000) ∧ ((0 ≤ x89_3 ∧ x89_3 ≤ 1) ∧ ((x89_3 = 0 ∧ (rr = x89_2 ∧ ss = s_w89)) ∨ (¬ (x89_3 = 0) ∧ (K 99 x89_1 x89_2 x89_3 (-1) 0 s_w89 rr ss))))))
def T_X12_spend_99 (K : Nat → Int → Int → Int → Int → Int → PS → Int → PS → Prop) (x99_1 x99_2 x99_3 x99_4 x99_5 : Int) (s_w99 : PS) (rr : Int) (ss : PS) : Prop := ((TyM s_w99) ∧ ((0 ≤ x99_1 ∧ x99_1 ≤ 100000) ∧ ((1 ≤ x99_3 ∧ x99_3 ≤ 1) ∧ (((-1) ≤ x99_4 ∧ x99_4 ≤ 39) ∧ ((0 ≤ x99_5 ∧ x99_5 ≤ 40) ∧ (((s_w99 0 69) ≤ x99_5 ∧ ((x99_4 = (-1) ∧ (K 89 x99_1 x99_2 0 0 0 s_w99 rr ss)) ∨ (¬ (x99_4 = (-1)) ∧ ((x99_1 < (wi ((s_w99 0 81) + (s_w99 56 x99_4.toNat))) ∧ (K 89 x99_1 x99_2 0 0 0 s_w99 rr ss)) ∨ (¬ (x99_1 < (wi ((s_w99 0 81) + (s_w99 56 x99_4.toNat)))) ∧ (∃ s_w_9 : PS, s_w_9 = (us s_w99 58 x99_4.toNat 1) ∧ (∃ s_w_13 : PS, s_w_13 = (us s_w_9 53 x99_4.toNat (iOr (s_w99 53 x99_4.toNat) (s_w99 57 x99_4.toNat))) ∧ (∃ s_w_15 : PS, s_w_15 = (us s_w_13 0 81 (wi ((s_w99 0 81) + (s_w99 56 x99_4.toNat)))) ∧ (K 89 x99_1 (wi (x99_2 + 1)) 1 0 0 s_w_15 rr ss))))))))) ∨ (¬ ((s_w99 0 69) ≤ x99_5) ∧ (((s_w99 58 x99_5.toNat) = 0 ∧ (((s_w99 56 x99_5.toNat) < 0 ∧ (K 155 x99_1 x99_2 x99_3 x99_4 x99_5 s_w99 rr ss)) ∨ (¬ ((s_w99 56 x99_5.toNat) < 0) ∧ ((x99_4 = (-1) ∧ (K 151 x99_1 x99_2 x99_3 x99_4 x99_5 s_w99 rr ss)) ∨ (¬ (x99_4 = (-1)) ∧ (((s_w99 56 x99_4.toNat) ≤ (s_w99 56 x99_5.toNat) ∧ (K 155 x99_1 x99_2 x99_3 x99_4 x99_5 s_w99 rr ss)) ∨ (¬ ((s_w99 56 x99_4.toNat) ≤ (s_w99 56 x99_5.toNat)) ∧ (K 151 x99_1 x99_2 x99_3 x99_4 x99_5 s_w99 rr ss)))))))) ∨ (¬ ((s_w99 58 x99_5.toNat) = 0) ∧ (K 155 x99_1 x99_2 x99_3 x99_4 x99_5 s_w99 rr ss))))))))))
def T_X12_spend_151 (K : Nat → Int → Int → Int → Int → Int → PS → Int → PS → Prop) (x151_1 x151_2 x151_3 x151_4 x151_5 : Int) (s_w151 : PS) (rr : Int) (ss : PS) : Prop := ((TyM s_w151) ∧ ((0 ≤ x151_1 ∧ x151_1 ≤ 100000) ∧ ((1 ≤ x151_3 ∧ x151_3 ≤ 1) ∧ (((-1) ≤ x151_4 ∧ x151_4 ≤ 39) ∧ ((0 ≤ x151_5 ∧ x151_5 ≤ 39) ∧ (K 155 x151_1 x151_2 x151_3 x151_5 x151_5 s_w151 rr ss))))))
def T_X12_spend_155 (K : Nat → Int → Int → Int → Int → Int → PS → Int → PS → Prop) (x155_1 x155_2 x155_3 x155_4 x155_5 : Int) (s_w155 : PS) (rr : Int) (ss : PS) : Prop := ((TyM s_w155) ∧ ((0 ≤ x155_1 ∧ x155_1 ≤ 100000) ∧ ((1 ≤ x155_3 ∧ x155_3 ≤ 1) ∧ (((-1) ≤ x155_4 ∧ x155_4 ≤ 39) ∧ ((0 ≤ x155_5 ∧ x155_5 ≤ 39) ∧ (K 99 x155_1 x155_2 x155_3 x155_4 (x155_5 + 1) s_w155 rr ss))))))
def T_X12_spend_e (K : Nat → Int → Int → Int → Int → Int → PS → Int → PS → Prop) (s_w : PS) (p1 : Int) (rr : Int) (ss : PS) : Prop := ((TyM s_w) ∧ (((s_w 0 68) = 0 ∧ (rr = (-1) ∧ ss = s_w)) ∨ (¬ ((s_w 0 68) = 0) ∧ (((s_w 0 80) = 0 ∧ (∃ r_39 : Int, (∃ s_w_38 : PS, ((M_X12_is s_w p1 0 100000 r_39 s_w_38) ∧ ((Fr intsM [] [] s_w s_w_38) ∧ ((TyM s_w_38) ∧ ((0 ≤ r_39 ∧ r_39 ≤ 1) ∧ ((r_39 = 0 ∧ (rr = (-1) ∧ ss = s_w_38)) ∨ (¬ (r_39 = 0) ∧ (K 29 p1 0 0 0 0 s_w_38 rr ss)))))))))) ∨ (¬ ((s_w 0 80) = 0) ∧ (rr = (-1) ∧ ss = s_w))))))
def It_X12_spend : Nat → Nat → Int → Int → Int → Int → Int → PS → Int → PS → Prop
  | 0, _, _, _, _, _, _, _, _, _ => False
  | n + 1, pc, a0, a1, a2, a3, a4, s, r, t => (pc = 29 ∧ T_X12_spend_29 (It_X12_spend n) a0 a1 s r t) ∨ (pc = 89 ∧ T_X12_spend_89 (It_X12_spend n) a0 a1 a2 s r t) ∨ (pc = 99 ∧ T_X12_spend_99 (It_X12_spend n) a0 a1 a2 a3 a4 s r t) ∨ (pc = 151 ∧ T_X12_spend_151 (It_X12_spend n) a0 a1 a2 a3 a4 s r t) ∨ (pc = 155 ∧ T_X12_spend_155 (It_X12_spend n) a0 a1 a2 a3 a4 s r t)
theorem rl_X12_spend_29 {n : Nat} {a0 a1 : Int} {s t : PS} {r : Int} (h : T_X12_spend_29 (It_X12_spend n) a0 a1 s r t) : It_X12_spend (n + 1) 29 a0 a1 0 0 0 s r t := Or.inl ⟨rfl, h⟩
theorem rl_X12_spend_89 {n : Nat} {a0 a1 a2 : Int} {s t : PS} {r : Int} (h : T_X12_spend_89 (It_X12_spend n) a0 a1 a2 s r t) : It_X12_spend (n + 1) 89 a0 a1 a2 0 0 s r t := Or.inr (Or.inl ⟨rfl, h⟩)
theorem rl_X12_spend_99 {n : Nat} {a0 a1 a2 a3 a4 : Int} {s t : PS} {r : Int} (h : T_X12_spend_99 (It_X12_spend n) a0 a1 a2 a3 a4 s r t) : It_X12_spend (n + 1) 99 a0 a1 a2 a3 a4 s r t := Or.inr (Or.inr (Or.inl ⟨rfl, h⟩))
theorem rl_X12_spend_151 {n : Nat} {a0 a1 a2 a3 a4 : Int} {s t : PS} {r : Int} (h : T_X12_spend_151 (It_X12_spend n) a0 a1 a2 a3 a4 s r t) : It_X12_spend (n + 1) 151 a0 a1 a2 a3 a4 s r t := Or.inr (Or.inr (Or.inr (Or.inl ⟨rfl, h⟩)))
theorem rl_X12_spend_155 {n : Nat} {a0 a1 a2 a3 a4 : Int} {s t : PS} {r : Int} (h : T_X12_spend_155 (It_X12_spend n) a0 a1 a2 a3 a4 s r t) : It_X12_spend (n + 1) 155 a0 a1 a2 a3 a4 s r t := Or.inr (Or.inr (Or.inr (Or.inr (⟨rfl, h⟩))))
theorem ul_X12_spend_29 {n : Nat} {a0 a1 a2 a3 a4 : Int} {s t : PS} {r : Int} (h : It_X12_spend (n + 1) 29 a0 a1 a2 a3 a4 s r t) : T_X12_spend_29 (It_X12_spend n) a0 a1 s r t := by
  have h2 : ((29 : Nat) = 29 ∧ T_X12_spend_29 (It_X12_spend n) a0 a1 s r t) ∨ ((29 : Nat) = 89 ∧ T_X12_spend_89 (It_X12_spend n) a0 a1 a2 s r t) ∨ ((29 : Nat) = 99 ∧ T_X12_spend_99 (It_X12_spend n) a0 a1 a2 a3 a4 s r t) ∨ ((29 : Nat) = 151 ∧ T_X12_spend_151 (It_X12_spend n) a0 a1 a2 a3 a4 s r t) ∨ ((29 : Nat) = 155 ∧ T_X12_spend_155 (It_X12_spend n) a0 a1 a2 a3 a4 s r t) := h
  rcases h2 with ⟨e, h2⟩ | ⟨e, h2⟩ | ⟨e, h2⟩ | ⟨e, h2⟩ | ⟨e, h2⟩
  · exact h2
  · exact absurd e (by decide)
  · exact absurd e (by decide)
  · exact absurd e (by decide)
  · exact absurd e (by decide)
theorem ul_X12_spend_89 {n : Nat} {a0 a1 a2 a3 a4 : Int} {s t : PS} {r : Int} (h : It_X12_spend (n + 1) 89 a0 a1 a2 a3 a4 s r t) : T_X12_spend_89 (It_X12_spend n) a0 a1 a2 s r t := by
  have h2 : ((89 : Nat) = 29 ∧ T_X12_spend_29 (It_X12_spend n) a0 a1 s r t) ∨ ((89 : Nat) = 89 ∧ T_X12_spend_89 (It_X12_spend n) a0 a1 a2 s r t) ∨ ((89 : Nat) = 99 ∧ T_X12_spend_99 (It_X12_spend n) a0 a1 a2 a3 a4 s r t) ∨ ((89 : Nat) = 151 ∧ T_X12_spend_151 (It_X12_spend n) a0 a1 a2 a3 a4 s r t) ∨ ((89 : Nat) = 155 ∧ T_X12_spend_155 (It_X12_spend n) a0 a1 a2 a3 a4 s r t) := h
  rcases h2 with ⟨e, h2⟩ | ⟨e, h2⟩ | ⟨e, h2⟩ | ⟨e, h2⟩ | ⟨e, h2⟩
  · exact absurd e (by decide)
  · exact h2
  · exact absurd e (by decide)
  · exact absurd e (by decide)
  · exact absurd e (by decide)
theorem ul_X12_spend_99 {n : Nat} {a0 a1 a2 a3 a4 : Int} {s t : PS} {r : Int} (h : It_X12_spend (n + 1) 99 a0 a1 a2 a3 a4 s r t) : T_X12_spend_99 (It_X12_spend n) a0 a1 a2 a3 a4 s r t := by
  have h2 : ((99 : Nat) = 29 ∧ T_X12_spend_29 (It_X12_spend n) a0 a1 s r t) ∨ ((99 : Nat) = 89 ∧ T_X12_spend_89 (It_X12_spend n) a0 a1 a2 s r t) ∨ ((99 : Nat) = 99 ∧ T_X12_spend_99 (It_X12_spend n) a0 a1 a2 a3 a4 s r t) ∨ ((99 : Nat) = 151 ∧ T_X12_spend_151 (It_X12_spend n) a0 a1 a2 a3 a4 s r t) ∨ ((99 : Nat) = 155 ∧ T_X12_spend_155 (It_X12_spend n) a0 a1 a2 a3 a4 s r t) := h
  rcases h2 with ⟨e, h2⟩ | ⟨e, h2⟩ | ⟨e, h2⟩ | ⟨e, h2⟩ | ⟨e, h2⟩
  · exact absurd e (by decide)
  · exact absurd e (by decide)
  · exact h2
  · exact absurd e (by decide)
  · exact absurd e (by decide)
theorem ul_X12_spend_151 {n : Nat} {a0 a1 a2 a3 a4 : Int} {s t : PS} {r : Int} (h : It_X12_spend (n + 1) 151 a0 a1 a2 a3 a4 s r t) : T_X12_spend_151 (It_X12_spend n) a0 a1 a2 a3 a4 s r t := by
  have h2 : ((151 : Nat) = 29 ∧ T_X12_spend_29 (It_X12_spend n) a0 a1 s r t) ∨ ((151 : Nat) = 89 ∧ T_X12_spend_89 (It_X12_spend n) a0 a1 a2 s r t) ∨ ((151 : Nat) = 99 ∧ T_X12_spend_99 (It_X12_spend n) a0 a1 a2 a3 a4 s r t) ∨ ((151 : Nat) = 151 ∧ T_X12_spend_151 (It_X12_spend n) a0 a1 a2 a3 a4 s r t) ∨ ((151 : Nat) = 155 ∧ T_X12_spend_155 (It_X12_spend n) a0 a1 a2 a3 a4 s r t) := h
  rcases h2 with ⟨e, h2⟩ | ⟨e, h2⟩ | ⟨e, h2⟩ | ⟨e, h2⟩ | ⟨e, h2⟩
  · exact absurd e (by decide)
  · exact absurd e (by decide)
  · exact absurd e (by decide)
  · exact h2
  · exact absurd e (by decide)
theorem ul_X12_spend_155 {n : Nat} {a0 a1 a2 a3 a4 : Int} {s t : PS} {r : Int} (h : It_X12_spend (n + 1) 155 a0 a1 a2 a3 a4 s r t) : T_X12_spend_155 (It_X12_spend n) a0 a1 a2 a3 a4 s r t := by
  have h2 : ((155 : Nat) = 29 ∧ T_X12_spend_29 (It_X12_spend n) a0 a1 s r t) ∨ ((155 : Nat) = 89 ∧ T_X12_spend_89 (It_X12_spend n) a0 a1 a2 s r t) ∨ ((155 : Nat) = 99 ∧ T_X12_spend_99 (It_X12_spend n) a0 a1 a2 a3 a4 s r t) ∨ ((155 : Nat) = 151 ∧ T_X12_spend_151 (It_X12_spend n) a0 a1 a2 a3 a4 s r t) ∨ ((155 : Nat) = 155 ∧ T_X12_spend_155 (It_X12_spend n) a0 a1 a2 a3 a4 s r t) := h
  rcases h2 with ⟨e, h2⟩ | ⟨e, h2⟩ | ⟨e, h2⟩ | ⟨e, h2⟩ | ⟨e, h2⟩
  · exact absurd e (by decide)
  · exact absurd e (by decide)
  · exact absurd e (by decide)
  · exact absurd e (by decide)
  · exact h2
def M_X12_spend (s : PS) (p1 : Int) (r : Int) (t : PS) : Prop := ∃ n, T_X12_spend_e (It_X12_spend n) s p1 r t
theorem mk_X12_spend {n : Nat} {s t : PS} {p1 : Int} {r : Int} (h : T_X12_spend_e (It_X12_spend n) s p1 r t) : M_X12_spend s p1 r t := ⟨n, h⟩
def T_X12_spent_e (s_w : PS) (rr : Int) (ss : PS) : Prop := ((TyM s_w) ∧ (((s_w 0 68) = 0 ∧ (rr = (-1) ∧ ss = s_w)) ∨ (¬ ((s_w 0 68) = 0) ∧ (((s_w 0 80) = 0 ∧ (rr = (-1) ∧ ss = s_w)) ∨ (¬ ((s_w 0 80) = 0) ∧ (rr = (s_w 0 81) ∧ ss = s_w))))))
def M_X12_spent (s : PS) (r : Int) (t : PS) : Prop := T_X12_spent_e s r t
theorem mk_X12_spent {s t : PS} {r : Int} (h : T_X12_spent_e s r t) : M_X12_spent s r t := h
