def T_X7_detailOf_e (s_w : PS) (p1 p2 : Int) (rr : Int) (ss : PS) : Prop := ((TyX s_w) ∧ ((1 ≤ p1 ∧ p1 ≤ 200) ∧ ((0 ≤ p2 ∧ p2 ≤ 4) ∧ (rr = (s_w 37 ((p1 * 5) + p2).toNat) ∧ ss = s_w))))
def M_X7_detailOf (s : PS) (p1 p2 : Int) (r : Int) (t : PS) : Prop := T_X7_detailOf_e s p1 p2 r t
theorem mk_X7_detailOf {s t : PS} {p1 p2 : Int} {r : Int} (h : T_X7_detailOf_e s p1 p2 r t) : M_X7_detailOf s p1 p2 r t := h
def T_X6_learnReport_35_89 (K : Nat → Int → Int → Int → Int → Int → PS → Int → PS → Prop) (x89_2 x89_3 x89_4 x89_5 : Int) (s_w89 : PS) (rr : Int) (ss : PS) : Prop := ((TyX s_w89) ∧ ((1 ≤ x89_2 ∧ x89_2 ≤ 200) ∧ ((0 ≤ x89_4 ∧ x89_4 ≤ 39) ∧ (∃ s_w_7 : PS, s_w_7 = (us s_w89 53 x89_2.toNat x89_4) ∧ (∃ s_w_8 : PS, s_w_8 = (us s_w_7 44 x89_4.toNat x89_5) ∧ (∃ s_w_11 : PS, s_w_11 = (us s_w_8 45 x89_4.toNat (min (s_w89 45 x89_4.toNat) x89_5)) ∧ (∃ s_w_14 : PS, s_w_14 = (us s_w_11 46 x89_4.toNat (max (s_w89 46 x89_4.toNat) x89_5)) ∧ (∃ r_16 : Int, (∃ s_w_15 : PS, ((M_X7_detailOf s_w_14 x89_2 2 r_16 s_w_15) ∧ ((Fr intsX [] [] s_w_14 s_w_15) ∧ ((TyX s_w_15) ∧ (∃ s_w_19 : PS, s_w_19 = (us s_w_15 47 x89_4.toNat r_16) ∧ (∃ r_21 : Int, (∃ s_w_20 : PS, ((M_X7_detailOf s_w_19 x89_2 3 r_21 s_w_20) ∧ ((Fr intsX [] [] s_w_19 s_w_20) ∧ ((TyX s_w_20) ∧ (∃ s_w_24 : PS, s_w_24 = (us s_w_20 48 x89_4.toNat r_21) ∧ (∃ r_26 : Int, (∃ s_w_25 : PS, ((M_X7_detailOf s_w_24 x89_2 4 r_26 s_w_25) ∧ ((Fr intsX [] [] s_w_24 s_w_25) ∧ ((TyX s_w_25) ∧ (∃ s_w_29 : PS, s_w_29 = (us s_w_25 49 x89_4.toNat r_26) ∧ (∃ s_w_31 : PS, s_w_31 = (us s_w_29 50 x89_4.toNat (wi ((s_w89 50 x89_4.toNat) + 1))) ∧ (K 197 x89_2 x89_3 x89_4 x89_5 0 s_w_31 rr ss)))))))))))))))))))))))))))
def T_X6_learnReport_35_197 (K : Nat → Int → Int → Int → Int → Int → PS → Int → PS → Prop) (x197_2 x197_3 x197_4 x197_5 x197_6 : Int) (s_w197 : PS) (rr : Int) (ss : PS) : Prop := ((TyX s_w197) ∧ ((1 ≤ x197_2 ∧ x197_2 ≤ 200) ∧ ((0 ≤ x197_4 ∧ x197_4 ≤ 39) ∧ ((0 ≤ x197_6 ∧ x197_6 ≤ 3) ∧ (((s_w197 39 x197_2.toNat) ≤ x197_6 ∧ (rr = 0 ∧ ss = s_w197)) ∨ (¬ ((s_w197 39 x197_2.toNat) ≤ x197_6) ∧ (∃ s_w_4 : PS, ((M_X6_learnWish s_w197 x197_4 (s_w197 38 ((x197_2 * 3) + x197_6).toNat) 0 s_w_4) ∧ ((Fr intsX [51, 52] [] s_w197 s_w_4) ∧ ((TyX s_w_4) ∧ (K 197 x197_2 x197_3 x197_4 x197_5 (x197_6 + 1) s_w_4 rr ss)))))))))))
def T_X6_learnReport_35_e (K : Nat → Int → Int → Int → Int → Int → PS → Int → PS → Prop) (s_w : PS) (p2 p3 : Int) (rr : Int) (ss : PS) : Prop := ((TyX s_w) ∧ ((1 ≤ p2 ∧ p2 ≤ 200) ∧ (∃ r_33 : Int, (∃ s_w_32 : PS, ((M_X6_find s_w p3 r_33 s_w_32) ∧ ((Fr intsX [] [] s_w s_w_32) ∧ ((TyX s_w_32) ∧ (((-1) ≤ r_33 ∧ r_33 ≤ 39) ∧ (∃ r_36 : Int, (∃ s_w_35 : PS, ((M_X7_detailOf s_w_32 p2 1 r_36 s_w_35) ∧ ((Fr intsX [] [] s_w_32 s_w_35) ∧ ((TyX s_w_35) ∧ ((r_33 = (-1) ∧ (((s_w 42 2) < 40 ∧ (∃ s_w_41 : PS, s_w_41 = (us s_w_35 42 2 ((s_w 42 2) + 1)) ∧ (∃ s_w_42 : PS, s_w_42 = (us s_w_41 43 (s_w 42 2).toNat p3) ∧ (∃ s_w_43 : PS, s_w_43 = (us s_w_42 45 (s_w 42 2).toNat r_36) ∧ (∃ s_w_44 : PS, s_w_44 = (us s_w_43 46 (s_w 42 2).toNat r_36) ∧ (∃ s_w_45 : PS, s_w_45 = (us s_w_44 50 (s_w 42 2).toNat 0) ∧ (∃ s_w_46 : PS, s_w_46 = (us s_w_45 51 (s_w 42 2).toNat 0) ∧ (K 89 p2 p3 (s_w 42 2) r_36 0 s_w_46 rr ss)))))))) ∨ (¬ ((s_w 42 2) < 40) ∧ (rr = 0 ∧ ss = s_w_35)))) ∨ (¬ (r_33 = (-1)) ∧ (K 89 p2 p3 r_33 r_36 0 s_w_35 rr ss))))))))))))))))
def It_X6_learnReport_35 : Nat → Nat → Int → Int → Int → Int → Int → PS → Int → PS → Prop
  | 0, _, _, _, _, _, _, _, _, _ => False
  | n + 1, pc, a0, a1, a2, a3, a4, s, r, t => (pc = 89 ∧ T_X6_learnReport_35_89 (It_X6_learnReport_35 n) a0 a1 a2 a3 s r t) ∨ (pc = 197 ∧ T_X6_learnReport_35_197 (It_X6_learnReport_35 n) a0 a1 a2 a3 a4 s r t)
theorem rl_X6_learnReport_35_89 {n : Nat} {a0 a1 a2 a3 : Int} {s t : PS} {r : Int} (h : T_X6_learnReport_35_89 (It_X6_learnReport_35 n) a0 a1 a2 a3 s r t) : It_X6_learnReport_35 (n + 1) 89 a0 a1 a2 a3 0 s r t := Or.inl ⟨rfl, h⟩
theorem rl_X6_learnReport_35_197 {n : Nat} {a0 a1 a2 a3 a4 : Int} {s t : PS} {r : Int} (h : T_X6_learnReport_35_197 (It_X6_learnReport_35 n) a0 a1 a2 a3 a4 s r t) : It_X6_learnReport_35 (n + 1) 197 a0 a1 a2 a3 a4 s r t := Or.inr (⟨rfl, h⟩)
theorem ul_X6_learnReport_35_89 {n : Nat} {a0 a1 a2 a3 a4 : Int} {s t : PS} {r : Int} (h : It_X6_learnReport_35 (n + 1) 89 a0 a1 a2 a3 a4 s r t) : T_X6_learnReport_35_89 (It_X6_learnReport_35 n) a0 a1 a2 a3 s r t := by
  have h2 : ((89 : Nat) = 89 ∧ T_X6_learnReport_35_89 (It_X6_learnReport_35 n) a0 a1 a2 a3 s r t) ∨ ((89 : Nat) = 197 ∧ T_X6_learnReport_35_197 (It_X6_learnReport_35 n) a0 a1 a2 a3 a4 s r t) := h
  rcases h2 with ⟨e, h2⟩ | ⟨e, h2⟩
  · exact h2
  · exact absurd e (by decide)
theorem ul_X6_learnReport_35_197 {n : Nat} {a0 a1 a2 a3 a4 : Int} {s t : PS} {r : Int} (h : It_X6_learnReport_35 (n + 1) 197 a0 a1 a2 a3 a4 s r t) : T_X6_learnReport_35_197 (It_X6_learnReport_35 n) a0 a1 a2 a3 a4 s r t := by
  have h2 : ((197 : Nat) = 89 ∧ T_X6_learnReport_35_89 (It_X6_learnReport_35 n) a0 a1 a2 a3 s r t) ∨ ((197 : Nat) = 197 ∧ T_X6_learnReport_35_197 (It_X6_learnReport_35 n) a0 a1 a2 a3 a4 s r t) := h
  rcases h2 with ⟨e, h2⟩ | ⟨e, h2⟩
  · exact absurd e (by decide)
  · exact h2
def M_X6_learnReport_35 (s : PS) (p2 p3 : Int) (r : Int) (t : PS) : Prop := ∃ n, T_X6_learnReport_35_e (It_X6_learnReport_35 n) s p2 p3 r t
theorem mk_X6_learnReport_35 {n : Nat} {s t : PS} {p2 p3 : Int} {r : Int} (h : T_X6_learnReport_35_e (It_X6_learnReport_35 n) s p2 p3 r t) : M_X6_learnReport_35 s p2 p3 r t := ⟨n, h⟩
def T_X6_learn_35_e (s_w : PS) (p2 : Int) (rr : Int) (ss : PS) : Prop := ((TyX s_w) ∧ ((1 ≤ p2 ∧ p2 ≤ 200) ∧ (∃ r_2 : Int, (∃ s_w_1 : PS, ((M_X7_detailOf s_w p2 0 r_2 s_w_1) ∧ ((Fr intsX [] [] s_w s_w_1) ∧ ((TyX s_w_1) ∧ (∃ r_6 : Int, (∃ s_w_5 : PS, ((M_X7_detailOf s_w_1 p2 1 r_6 s_w_5) ∧ ((Fr intsX [] [] s_w_1 s_w_5) ∧ ((TyX s_w_5) ∧ (((s_w 36 p2.toNat) = 1 ∧ (∃ s_w_11 : PS, ((M_X6_learnReport_35 s_w_5 p2 r_2 0 s_w_11) ∧ ((Fr intsX [42, 43, 44, 45, 46, 47, 48, 49, 50, 51, 52, 53] [(42, 2)] s_w_5 s_w_11) ∧ ((TyX s_w_11) ∧ (rr = 0 ∧ ss = s_w_11)))))) ∨ (¬ ((s_w 36 p2.toNat) = 1) ∧ (((s_w 36 p2.toNat) = 2 ∧ (∃ r_17 : Int, (∃ s_w_16 : PS, ((M_X7_detailOf s_w_5 p2 2 r_17 s_w_16) ∧ ((Fr intsX [] [] s_w_5 s_w_16) ∧ ((TyX s_w_16) ∧ (∃ s_w_21 : PS, s_w_21 = (us s_w_16 54 ((r_2 * 25) + r_6).toNat (wi ((s_w 54 ((r_2 * 25) + r_6).toNat) + r_17))) ∧ (rr = 0 ∧ ss = s_w_21)))))))) ∨ (¬ ((s_w 36 p2.toNat) = 2) ∧ (((s_w 36 p2.toNat) = 3 ∧ (∃ s_w_25 : PS, s_w_25 = (us s_w_5 55 r_2.toNat (min (s_w 55 r_2.toNat) r_6)) ∧ (rr = 0 ∧ ss = s_w_25))) ∨ (¬ ((s_w 36 p2.toNat) = 3) ∧ (rr = 0 ∧ ss = s_w_5)))))))))))))))))))
def M_X6_learn_35 (s : PS) (p2 : Int) (r : Int) (t : PS) : Prop := T_X6_learn_35_e s p2 r t
theorem mk_X6_learn_35 {s t : PS} {p2 : Int} {r : Int} (h : T_X6_learn_35_e s p2 r t) : M_X6_learn_35 s p2 r t := h
def T_X7_isKnown_e (s_w : PS) (p1 p2 : Int) (rr : Int) (ss : PS) : Prop := ((TyX s_w) ∧ ((1 ≤ p1 ∧ p1 ≤ 200) ∧ ((1 ≤ p2 ∧ p2 ≤ 200) ∧ ((p2 < p1 ∧ (rr = 0 ∧ ss = s_w)) ∨ (¬ (p2 < p1) ∧ (((s_w 40 p1.toNat) = 0 ∧ (rr = 1 ∧ ss = s_w)) ∨ (¬ ((s_w 40 p1.toNat) = 0) ∧ (((s_w 40 p1.toNat) ≤ p2 ∧ (rr = 0 ∧ ss = s_w)) ∨ (¬ ((s_w 40 p1.toNat) ≤ p2) ∧ (rr = 1 ∧ ss = s_w))))))))))
def M_X7_isKnown (s : PS) (p1 p2 : Int) (r : Int) (t : PS) : Prop := T_X7_isKnown_e s p1 p2 r t
theorem mk_X7_isKnown {s t : PS} {p1 p2 : Int} {r : Int} (h : T_X7_isKnown_e s p1 p2 r t) : M_X7_isKnown s p1 p2 r t := h
def T_X6_look_35_48 (K : Nat → Int → Int → PS → Int → PS → Prop) (x48_2 x48_3 : Int) (s_w48 : PS) (rr : Int) (ss : PS) : Prop := ((TyX s_w48) ∧ ((0 ≤ x48_2 ∧ x48_2 ≤ 200) ∧ ((1 ≤ x48_3 ∧ x48_3 ≤ 201) ∧ ((x48_2 < x48_3 ∧ (rr = 0 ∧ ss = s_w48)) ∨ (¬ (x48_2 < x48_3) ∧ (∃ s_w_2 : PS, s_w_2 = (us s_w48 53 x48_3.toNat (-1)) ∧ (∃ r_4 : Int, (∃ s_w_3 : PS, ((M_X7_isKnown s_w_2 x48_3 x48_2 r_4 s_w_3) ∧ ((Fr intsX [] [] s_w_2 s_w_3) ∧ ((TyX s_w_3) ∧ ((0 ≤ r_4 ∧ r_4 ≤ 1) ∧ ((r_4 = 0 ∧ (K 75 x48_2 x48_3 s_w_3 rr ss)) ∨ (¬ (r_4 = 0) ∧ (∃ s_w_7 : PS, ((M_X6_learn_35 s_w_3 x48_3 0 s_w_7) ∧ ((Fr intsX [42, 43, 44, 45, 46, 47, 48, 49, 50, 51, 52, 53, 54, 55] [(42, 2)] s_w_3 s_w_7) ∧ ((TyX s_w_7) ∧ (K 75 x48_2 x48_3 s_w_7 rr ss)))))))))))))))))))
def T_X6_look_35_75 (K : Nat → Int → Int → PS → Int → PS → Prop) (x75_2 x75_3 : Int) (s_w75 : PS) (rr : Int) (ss : PS) : Prop := ((TyX s_w75) ∧ ((1 ≤ x75_2 ∧ x75_2 ≤ 200) ∧ ((1 ≤ x75_3 ∧ x75_3 ≤ 200) ∧ (K 48 x75_2 (x75_3 + 1) s_w75 rr ss))))
def T_X6_look_35_e (K : Nat → Int → Int → PS → Int → PS → Prop) (s_w : PS) (p2 : Int) (rr : Int) (ss : PS) : Prop := ((TyX s_w) ∧ ((0 ≤ p2 ∧ p2 ≤ 200) ∧ (((s_w 42 0) = p2 ∧ (rr = 0 ∧ ss = s_w)) ∨ (¬ ((s_w 42 0) = p2) ∧ (∃ s_w_11 : PS, s_w_11 = (us s_w 42 0 p2) ∧ (∃ s_w_12 : PS, s_w_12 = (us s_w_11 42 1 (wi ((s_w 42 1) + 1))) ∧ (∃ s_w_13 : PS, s_w_13 = (us s_w_12 42 2 0) ∧ (∃ s_w_14 : PS, ((M_J7_fill_53178_54 s_w_13 0 0 s_w_14) ∧ ((Fr intsX [54] [] s_w_13 s_w_14) ∧ ((TyX s_w_14) ∧ (∃ s_w_18 : PS, ((M_J7_fill_53178_55 s_w_14 25 0 s_w_18) ∧ ((Fr intsX [55] [] s_w_14 s_w_18) ∧ ((TyX s_w_18) ∧ (K 48 p2 1 s_w_18 rr ss))))))))))))))))
def It_X6_look_35 : Nat → Nat → Int → Int → PS → Int → PS → Prop
  | 0, _, _, _, _, _, _ => False
  | n + 1, pc, a0, a1, s, r, t => (pc = 48 ∧ T_X6_look_35_48 (It_X6_look_35 n) a0 a1 s r t) ∨ (pc = 75 ∧ T_X6_look_35_75 (It_X6_look_35 n) a0 a1 s r t)
theorem rl_X6_look_35_48 {n : Nat} {a0 a1 : Int} {s t : PS} {r : Int} (h : T_X6_look_35_48 (It_X6_look_35 n) a0 a1 s r t) : It_X6_look_35 (n + 1) 48 a0 a1 s r t := Or.inl ⟨rfl, h⟩
theorem rl_X6_look_35_75 {n : Nat} {a0 a1 : Int} {s t : PS} {r : Int} (h : T_X6_look_35_75 (It_X6_look_35 n) a0 a1 s r t) : It_X6_look_35 (n + 1) 75 a0 a1 s r t := Or.inr (⟨rfl, h⟩)
theorem ul_X6_look_35_48 {n : Nat} {a0 a1 : Int} {s t : PS} {r : Int} (h : It_X6_look_35 (n + 1) 48 a0 a1 s r t) : T_X6_look_35_48 (It_X6_look_35 n) a0 a1 s r t := by
  have h2 : ((48 : Nat) = 48 ∧ T_X6_look_35_48 (It_X6_look_35 n) a0 a1 s r t) ∨ ((48 : Nat) = 75 ∧ T_X6_look_35_75 (It_X6_look_35 n) a0 a1 s r t) := h
  rcases h2 with ⟨e, h2⟩ | ⟨e, h2⟩
  · exact h2
  · exact absurd e (by decide)
theorem ul_X6_look_35_75 {n : Nat} {a0 a1 : Int} {s t : PS} {r : Int} (h : It_X6_look_35 (n + 1) 75 a0 a1 s r t) : T_X6_look_35_75 (It_X6_look_35 n) a0 a1 s r t := by
  have h2 : ((75 : Nat) = 48 ∧ T_X6_look_35_48 (It_X6_look_35 n) a0 a1 s r t) ∨ ((75 : Nat) = 75 ∧ T_X6_look_35_75 (It_X6_look_35 n) a0 a1 s r t) := h
  rcases h2 with ⟨e, h2⟩ | ⟨e, h2⟩
  · exact absurd e (by decide)
  · exact h2
def M_X6_look_35 (s : PS) (p2 : Int) (r : Int) (t : PS) : Prop := ∃ n, T_X6_look_35_e (It_X6_look_35 n) s p2 r t
theorem mk_X6_look_35 {n : Nat} {s t : PS} {p2 : Int} {r : Int} (h : T_X6_look_35_e (It_X6_look_35 n) s p2 r t) : M_X6_look_35 s p2 r t := ⟨n, h⟩
def T_X11_look_e (s_w : PS) (rr : Int) (ss : PS) : Prop := ((TyX s_w) ∧ (∃ r_2 : Int, (∃ s_w_1 : PS, ((M_X11_actNow s_w r_2 s_w_1) ∧ ((Fr intsX [] [] s_w s_w_1) ∧ ((TyX s_w_1) ∧ ((0 ≤ r_2 ∧ r_2 ≤ 200) ∧ (∃ s_w_4 : PS, ((M_X6_look_35 s_w_1 r_2 0 s_w_4) ∧ ((Fr intsX [42, 43, 44, 45, 46, 47, 48, 49, 50, 51, 52, 53, 54, 55] [(42, 0), (42, 1), (42, 2)] s_w_1 s_w_4) ∧ ((TyX s_w_4) ∧ (rr = 0 ∧ ss = s_w_4))))))))))))
def M_X11_look (s : PS) (r : Int) (t : PS) : Prop := T_X11_look_e s r t
theorem mk_X11_look {s t : PS} {r : Int} (h : T_X11_look_e s r t) : M_X11_look s r t := h
def T_X6_areAlike_e (s_w : PS) (p1 p2 : Int) (rr : Int) (ss : PS) : Prop := ((TyX s_w) ∧ ((1 ≤ p1 ∧ p1 ≤ 39) ∧ ((0 ≤ p2 ∧ p2 ≤ 39) ∧ (((s_w 48 p1.toNat) = 0 ∧ (rr = 0 ∧ ss = s_w)) ∨ (¬ ((s_w 48 p1.toNat) = 0) ∧ (((s_w 48 p1.toNat) = (s_w 48 p2.toNat) ∧ (((s_w 47 p1.toNat) = (s_w 47 p2.toNat) ∧ (((s_w 44 p1.toNat) = (s_w 44 p2.toNat) ∧ (rr = 1 ∧ ss = s_w)) ∨ (¬ ((s_w 44 p1.toNat) = (s_w 44 p2.toNat)) ∧ (rr = 0 ∧ ss = s_w)))) ∨ (¬ ((s_w 47 p1.toNat) = (s_w 47 p2.toNat)) ∧ (rr = 0 ∧ ss = s_w)))) ∨ (¬ ((s_w 48 p1.toNat) = (s_w 48 p2.toNat)) ∧ (rr = 0 ∧ ss = s_w))))))))
def M_X6_areAlike (s : PS) (p1 p2 : Int) (r : Int) (t : PS) : Prop := T_X6_areAlike_e s p1 p2 r t
theorem mk_X6_areAlike {s t : PS} {p1 p2 : Int} {r : Int} (h : T_X6_areAlike_e s p1 p2 r t) : M_X6_areAlike s p1 p2 r t := h
def T_X6_doubts_4 (K : Nat → Int → Int → Int → PS → Int → PS → Prop) (x4_1 x4_2 : Int) (s_w4 : PS) (rr : Int) (ss : PS) : Prop := ((TyX s_w4) ∧ ((0 ≤ x4_2 ∧ x4_2 ≤ 40) ∧ (((s_w4 42 2) ≤ x4_2 ∧ (rr = x4_1 ∧ ss = s_w4)) ∨ (¬ ((s_w4 42 2) ≤ x4_2) ∧ (K 14 x4_1 x4_2 0 s_w4 rr ss)))))
def T_X6_doubts_14 (K : Nat → Int → Int → Int → PS → Int → PS → Prop) (x14_1 x14_2 x14_3 : Int) (s_w14 : PS) (rr : Int) (ss : PS) : Prop := ((TyX s_w14) ∧ ((0 ≤ x14_2 ∧ x14_2 ≤ 39) ∧ ((0 ≤ x14_3 ∧ x14_3 ≤ 39) ∧ ((x14_2 ≤ x14_3 ∧ (K 4 x14_1 (x14_2 + 1) 0 s_w14 rr ss)) ∨ (¬ (x14_2 ≤ x14_3) ∧ (((s_w14 43 x14_2.toNat) = 0 ∧ (K 37 x14_1 x14_2 x14_3 s_w14 rr ss)) ∨ (¬ ((s_w14 43 x14_2.toNat) = 0) ∧ (((s_w14 43 x14_3.toNat) = 0 ∧ (K 37 x14_1 x14_2 x14_3 s_w14 rr ss)) ∨ (¬ ((s_w14 43 x14_3.toNat) = 0) ∧ (K 49 x14_1 x14_2 x14_3 s_w14 rr ss))))))))))
def T_X6_doubts_37 (K : Nat → Int → Int → Int → PS → Int → PS → Prop) (x37_1 x37_2 x37_3 : Int) (s_w37 : PS) (rr : Int) (ss : PS) : Prop := ((TyX s_w37) ∧ ((1 ≤ x37_2 ∧ x37_2 ≤ 39) ∧ ((0 ≤ x37_3 ∧ x37_3 ≤ 38) ∧ (∃ r_2 : Int, (∃ s_w_1 : PS, ((M_X6_areAlike s_w37 x37_2 x37_3 r_2 s_w_1) ∧ ((Fr intsX [] [] s_w37 s_w_1) ∧ ((TyX s_w_1) ∧ ((0 ≤ r_2 ∧ r_2 ≤ 1) ∧ ((r_2 = 0 ∧ (K 49 x37_1 x37_2 x37_3 s_w_1 rr ss)) ∨ (¬ (r_2 = 0) ∧ (K 49 (wi (x37_1 + 1)) x37_2 x37_3 s_w_1 rr ss))))))))))))
def T_X6_doubts_49 (K : Nat → Int → Int → Int → PS → Int → PS → Prop) (x49_1 x49_2 x49_3 : Int) (s_w49 : PS) (rr : Int) (ss : PS) : Prop := ((TyX s_w49) ∧ ((1 ≤ x49_2 ∧ x49_2 ≤ 39) ∧ ((0 ≤ x49_3 ∧ x49_3 ≤ 38) ∧ (K 14 x49_1 x49_2 (x49_3 + 1) s_w49 rr ss))))
def T_X6_doubts_e (K : Nat → Int → Int → Int → PS → Int → PS → Prop) (s_w : PS) (rr : Int) (ss : PS) : Prop := ((TyX s_w) ∧ (K 4 0 0 0 s_w rr ss))
def It_X6_doubts : Nat → Nat → Int → Int → Int → PS → Int → PS → Prop
  | 0, _, _, _, _, _, _, _ => False
  | n + 1, pc, a0, a1, a2, s, r, t => (pc = 4 ∧ T_X6_doubts_4 (It_X6_doubts n) a0 a1 s r t) ∨ (pc = 14 ∧ T_X6_doubts_14 (It_X6_doubts n) a0 a1 a2 s r t) ∨ (pc = 37 ∧ T_X6_doubts_37 (It_X6_doubts n) a0 a1 a2 s r t) ∨ (pc = 49 ∧ T_X6_doubts_49 (It_X6_doubts n) a0 a1 a2 s r t)
theorem rl_X6_doubts_4 {n : Nat} {a0 a1 : Int} {s t : PS} {r : Int} (h : T_X6_doubts_4 (It_X6_doubts n) a0 a1 s r t) : It_X6_doubts (n + 1) 4 a0 a1 0 s r t := Or.inl ⟨rfl, h⟩
theorem rl_X6_doubts_14 {n : Nat} {a0 a1 a2 : Int} {s t : PS} {r : Int} (h : T_X6_doubts_14 (It_X6_doubts n) a0 a1 a2 s r t) : It_X6_doubts (n + 1) 14 a0 a1 a2 s r t := Or.inr (Or.inl ⟨rfl, h⟩)
theorem rl_X6_doubts_37 {n : Nat} {a0 a1 a2 : Int} {s t : PS} {r : Int} (h : T_X6_doubts_37 (It_X6_doubts n) a0 a1 a2 s r t) : It_X6_doubts (n + 1) 37 a0 a1 a2 s r t := Or.inr (Or.inr (Or.inl ⟨rfl, h⟩))
theorem rl_X6_doubts_49 {n : Nat} {a0 a1 a2 : Int} {s t : PS} {r : Int} (h : T_X6_doubts_49 (It_X6_doubts n) a0 a1 a2 s r t) : It_X6_doubts (n + 1) 49 a0 a1 a2 s r t := Or.inr (Or.inr (Or.inr (⟨rfl, h⟩)))
theorem ul_X6_doubts_4 {n : Nat} {a0 a1 a2 : Int} {s t : PS} {r : Int} (h : It_X6_doubts (n + 1) 4 a0 a1 a2 s r t) : T_X6_doubts_4 (It_X6_doubts n) a0 a1 s r t := by
  have h2 : ((4 : Nat) = 4 ∧ T_X6_doubts_4 (It_X6_doubts n) a0 a1 s r t) ∨ ((4 : Nat) = 14 ∧ T_X6_doubts_14 (It_X6_doubts n) a0 a1 a2 s r t) ∨ ((4 : Nat) = 37 ∧ T_X6_doubts_37 (It_X6_doubts n) a0 a1 a2 s r t) ∨ ((4 : Nat) = 49 ∧ T_X6_doubts_49 (It_X6_doubts n) a0 a1 a2 s r t) := h
  rcases h2 with ⟨e, h2⟩ | ⟨e, h2⟩ | ⟨e, h2⟩ | ⟨e, h2⟩
  · exact h2
  · exact absurd e (by decide)
  · exact absurd e (by decide)
  · exact absurd e (by decide)
theorem ul_X6_doubts_14 {n : Nat} {a0 a1 a2 : Int} {s t : PS} {r : Int} (h : It_X6_doubts (n + 1) 14 a0 a1 a2 s r t) : T_X6_doubts_14 (It_X6_doubts n) a0 a1 a2 s r t := by
  have h2 : ((14 : Nat) = 4 ∧ T_X6_doubts_4 (It_X6_doubts n) a0 a1 s r t) ∨ ((14 : Nat) = 14 ∧ T_X6_doubts_14 (It_X6_doubts n) a0 a1 a2 s r t) ∨ ((14 : Nat) = 37 ∧ T_X6_doubts_37 (It_X6_doubts n) a0 a1 a2 s r t) ∨ ((14 : Nat) = 49 ∧ T_X6_doubts_49 (It_X6_doubts n) a0 a1 a2 s r t) := h
  rcases h2 with ⟨e, h2⟩ | ⟨e, h2⟩ | ⟨e, h2⟩ | ⟨e, h2⟩
  · exact absurd e (by decide)
  · exact h2
  · exact absurd e (by decide)
  · exact absurd e (by decide)
theorem ul_X6_doubts_37 {n : Nat} {a0 a1 a2 : Int} {s t : PS} {r : Int} (h : It_X6_doubts (n + 1) 37 a0 a1 a2 s r t) : T_X6_doubts_37 (It_X6_doubts n) a0 a1 a2 s r t := by
  have h2 : ((37 : Nat) = 4 ∧ T_X6_doubts_4 (It_X6_doubts n) a0 a1 s r t) ∨ ((37 : Nat) = 14 ∧ T_X6_doubts_14 (It_X6_doubts n) a0 a1 a2 s r t) ∨ ((37 : Nat) = 37 ∧ T_X6_doubts_37 (It_X6_doubts n) a0 a1 a2 s r t) ∨ ((37 : Nat) = 49 ∧ T_X6_doubts_49 (It_X6_doubts n) a0 a1 a2 s r t) := h
  rcases h2 with ⟨e, h2⟩ | ⟨e, h2⟩ | ⟨e, h2⟩ | ⟨e, h2⟩
  · exact absurd e (by decide)
  · exact absurd e (by decide)
  · exact h2
  · exact absurd e (by decide)
theorem ul_X6_doubts_49 {n : Nat} {a0 a1 a2 : Int} {s t : PS} {r : Int} (h : It_X6_doubts (n + 1) 49 a0 a1 a2 s r t) : T_X6_doubts_49 (It_X6_doubts n) a0 a1 a2 s r t := by
  have h2 : ((49 : Nat) = 4 ∧ T_X6_doubts_4 (It_X6_doubts n) a0 a1 s r t) ∨ ((49 : Nat) = 14 ∧ T_X6_doubts_14 (It_X6_doubts n) a0 a1 a2 s r t) ∨ ((49 : Nat) = 37 ∧ T_X6_doubts_37 (It_X6_doubts n) a0 a1 a2 s r t) ∨ ((49 : Nat) = 49 ∧ T_X6_doubts_49 (It_X6_doubts n) a0 a1 a2 s r t) := h
  rcases h2 with ⟨e, h2⟩ | ⟨e, h2⟩ | ⟨e, h2⟩ | ⟨e, h2⟩
  · exact absurd e (by decide)
  · exact absurd e (by decide)
  · exact absurd e (by decide)
  · exact h2
def M_X6_doubts (s : PS) (r : Int) (t : PS) : Prop := ∃ n, T_X6_doubts_e (It_X6_doubts n) s r t
theorem mk_X6_doubts {n : Nat} {s t : PS} {r : Int} (h : T_X6_doubts_e (It_X6_doubts n) s r t) : M_X6_doubts s r t := ⟨n, h⟩
def T_X11_all_e (s_w : PS) (p1 : Int) (rr : Int) (ss : PS) : Prop := ((TyX s_w) ∧ ((p1 = 0 ∧ (rr = (s_w 1 0) ∧ ss = s_w)) ∨ (¬ (p1 = 0) ∧ ((p1 = 1 ∧ (rr = (s_w 1 5) ∧ ss = s_w)) ∨ (¬ (p1 = 1) ∧ ((p1 = 2 ∧ (rr = (s_w 1 8) ∧ ss = s_w)) ∨ (¬ (p1 = 2) ∧ ((p1 = 3 ∧ (rr = (s_w 35 0) ∧ ss = s_w)) ∨ (¬ (p1 = 3) ∧ ((p1 = 4 ∧ (∃ r_7 : Int, (∃ s_w_6 : PS, ((M_X11_actNow s_w r_7 s_w_6) ∧ ((Fr intsX [] [] s_w s_w_6) ∧ ((TyX s_w_6) ∧ ((0 ≤ r_7 ∧ r_7 ≤ 200) ∧ (rr = r_7 ∧ ss = s_w_6)))))))) ∨ (¬ (p1 = 4) ∧ ((p1 = 5 ∧ (∃ s_w_10 : PS, ((M_X11_look s_w 0 s_w_10) ∧ ((Fr intsX [42, 43, 44, 45, 46, 47, 48, 49, 50, 51, 52, 53, 54, 55] [(42, 0), (42, 1), (42, 2)] s_w s_w_10) ∧ ((TyX s_w_10) ∧ (rr = (s_w_10 42 2) ∧ ss = s_w_10)))))) ∨ (¬ (p1 = 5) ∧ ((p1 = 6 ∧ (∃ s_w_14 : PS, ((M_X11_look s_w 0 s_w_14) ∧ ((Fr intsX [42, 43, 44, 45, 46, 47, 48, 49, 50, 51, 52, 53, 54, 55] [(42, 0), (42, 1), (42, 2)] s_w s_w_14) ∧ ((TyX s_w_14) ∧ (∃ r_18 : Int, (∃ s_w_17 : PS, ((M_X6_doubts s_w_14 r_18 s_w_17) ∧ ((Fr intsX [] [] s_w_14 s_w_17) ∧ ((TyX s_w_17) ∧ (rr = r_18 ∧ ss = s_w_17))))))))))) ∨ (¬ (p1 = 6) ∧ ((p1 = 7 ∧ (rr = (s_w 1 9) ∧ ss = s_w)) ∨ (¬ (p1 = 7) ∧ (rr = (-1) ∧ ss = s_w))))))))))))))))))
def M_X11_all (s : PS) (p1 : Int) (r : Int) (t : PS) : Prop := T_X11_all_e s p1 r t
theorem mk_X11_all {s t : PS} {p1 : Int} {r : Int} (h : T_X11_all_e s p1 r t) : M_X11_all s p1 r t := h
def T_X11_child_e (s_w : PS) (p1 : Int) (rr : Int) (ss : PS) : Prop := ((TyX s_w) ∧ ((p1 < 1 ∧ (rr = (-1) ∧ ss = s_w)) ∨ (¬ (p1 < 1) ∧ (∃ r_3 : Int, (∃ s_w_2 : PS, ((M_X11_actNow s_w r_3 s_w_2) ∧ ((Fr intsX [] [] s_w s_w_2) ∧ ((TyX s_w_2) ∧ ((0 ≤ r_3 ∧ r_3 ≤ 200) ∧ ((p1 ≤ r_3 ∧ (∃ s_w_6 : PS, ((M_X11_look s_w_2 0 s_w_6) ∧ ((Fr intsX [42, 43, 44, 45, 46, 47, 48, 49, 50, 51, 52, 53, 54, 55] [(42, 0), (42, 1), (42, 2)] s_w_2 s_w_6) ∧ ((TyX s_w_6) ∧ (rr = (s_w_6 53 p1.toNat) ∧ ss = s_w_6)))))) ∨ (¬ (p1 ≤ r_3) ∧ (rr = (-1) ∧ ss = s_w_2))))))))))))
def M_X11_child (s : PS) (p1 : Int) (r : Int) (t : PS) : Prop := T_X11_child_e s p1 r t
theorem mk_X11_child {s t : PS} {p1 : Int} {r : Int} (h : T_X11_child_e s p1 r t) : M_X11_child s p1 r t := h
def T_X11_isChild_e (s_w : PS) (p1 : Int) (rr : Int) (ss : PS) : Prop := ((TyX s_w) ∧ (∃ s_w_1 : PS, ((M_X11_look s_w 0 s_w_1) ∧ ((Fr intsX [42, 43, 44, 45, 46, 47, 48, 49, 50, 51, 52, 53, 54, 55] [(42, 0), (42, 1), (42, 2)] s_w s_w_1) ∧ ((TyX s_w_1) ∧ ((p1 < 0 ∧ (rr = 0 ∧ ss = s_w_1)) ∨ (¬ (p1 < 0) ∧ (((s_w_1 42 2) ≤ p1 ∧ (rr = 0 ∧ ss = s_w_1)) ∨ (¬ ((s_w_1 42 2) ≤ p1) ∧ (rr = 1 ∧ ss = s_w_1))))))))))
def M_X11_isChild (s : PS) (p1 : Int) (r : Int) (t : PS) : Prop := T_X11_isChild_e s p1 r t
theorem mk_X11_isChild {s t : PS} {p1 : Int} {r : Int} (h : T_X11_isChild_e s p1 r t) : M_X11_isChild s p1 r t := h
