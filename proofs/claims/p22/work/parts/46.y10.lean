def T_X12_of_e (s_w : PS) (p1 p2 : Int) (rr : Int) (ss : PS) : Prop := ((TyM s_w) ∧ (∃ s_w_1 : PS, ((M_X12_knows s_w 0 s_w_1) ∧ ((Fr intsM [0, 26, 27, 28, 29, 30, 31, 32, 33, 34, 35, 36] [(0, 45)] s_w s_w_1) ∧ ((TyM s_w_1) ∧ (∃ r_6 : Int, (∃ s_w_5 : PS, ((M_X12_isChild s_w_1 p1 r_6 s_w_5) ∧ ((Fr intsM [] [] s_w_1 s_w_5) ∧ ((TyM s_w_5) ∧ ((0 ≤ r_6 ∧ r_6 ≤ 1) ∧ ((r_6 = 0 ∧ (rr = (-1) ∧ ss = s_w_5)) ∨ (¬ (r_6 = 0) ∧ ((p2 = 0 ∧ (rr = (s_w_1 26 p1.toNat) ∧ ss = s_w_5)) ∨ (¬ (p2 = 0) ∧ ((p2 = 1 ∧ (rr = (s_w_1 27 p1.toNat) ∧ ss = s_w_5)) ∨ (¬ (p2 = 1) ∧ ((p2 = 2 ∧ (rr = (wi ((s_w_1 29 p1.toNat) - (s_w_1 28 p1.toNat))) ∧ ss = s_w_5)) ∨ (¬ (p2 = 2) ∧ ((p2 = 3 ∧ (rr = (s_w_1 30 p1.toNat) ∧ ss = s_w_5)) ∨ (¬ (p2 = 3) ∧ ((p2 = 4 ∧ (rr = (s_w_1 31 p1.toNat) ∧ ss = s_w_5)) ∨ (¬ (p2 = 4) ∧ ((p2 = 5 ∧ (rr = (s_w_1 32 p1.toNat) ∧ ss = s_w_5)) ∨ (¬ (p2 = 5) ∧ ((p2 = 6 ∧ (rr = (s_w_1 33 p1.toNat) ∧ ss = s_w_5)) ∨ (¬ (p2 = 6) ∧ ((p2 = 7 ∧ (∃ r_28 : Int, (∃ s_w_27 : PS, ((M_X12_inHouse s_w_5 p1 r_28 s_w_27) ∧ ((Fr intsM [] [] s_w_5 s_w_27) ∧ ((TyM s_w_27) ∧ (rr = r_28 ∧ ss = s_w_27))))))) ∨ (¬ (p2 = 7) ∧ ((p2 = 8 ∧ (rr = (s_w_1 35 p1.toNat) ∧ ss = s_w_5)) ∨ (¬ (p2 = 8) ∧ ((p2 = 9 ∧ (∃ r_34 : Int, (∃ s_w_33 : PS, ((M_X12_due s_w_5 p1 r_34 s_w_33) ∧ ((Fr intsM [37] [] s_w_5 s_w_33) ∧ ((TyM s_w_33) ∧ (rr = r_34 ∧ ss = s_w_33))))))) ∨ (¬ (p2 = 9) ∧ (rr = (-1) ∧ ss = s_w_5))))))))))))))))))))))))))))))))))
def M_X12_of (s : PS) (p1 p2 : Int) (r : Int) (t : PS) : Prop := T_X12_of_e s p1 p2 r t
theorem mk_X12_of {s t : PS} {p1 p2 : Int} {r : Int} (h : T_X12_of_e s p1 p2 r t) : M_X12_of s p1 p2 r t := h
def T_X12_wish_e (s_w : PS) (p1 p2 p3 : Int) (rr : Int) (ss : PS) : Prop := ((TyM s_w) ∧ (∃ s_w_1 : PS, ((M_X12_knows s_w 0 s_w_1) ∧ ((Fr intsM [0, 26, 27, 28, 29, 30, 31, 32, 33, 34, 35, 36] [(0, 45)] s_w s_w_1) ∧ ((TyM s_w_1) ∧ (∃ r_6 : Int, (∃ s_w_5 : PS, ((M_X12_isChild s_w_1 p1 r_6 s_w_5) ∧ ((Fr intsM [] [] s_w_1 s_w_5) ∧ ((TyM s_w_5) ∧ ((0 ≤ r_6 ∧ r_6 ≤ 1) ∧ ((r_6 = 0 ∧ (rr = (-1) ∧ ss = s_w_5)) ∨ (¬ (r_6 = 0) ∧ ((p2 < 0 ∧ (rr = (-1) ∧ ss = s_w_5)) ∨ (¬ (p2 < 0) ∧ ((p2 < (s_w_1 33 p1.toNat) ∧ (∃ r_15 : Int, (∃ s_w_14 : PS, ((M_X12_letter s_w_5 (s_w_1 34 ((4 * p1) + p2).toNat) p3 r_15 s_w_14) ∧ ((Fr intsM [] [] s_w_5 s_w_14) ∧ ((TyM s_w_14) ∧ (rr = r_15 ∧ ss = s_w_14))))))) ∨ (¬ (p2 < (s_w_1 33 p1.toNat)) ∧ (rr = (-1) ∧ ss = s_w_5))))))))))))))))))
def M_X12_wish (s : PS) (p1 p2 p3 : Int) (r : Int) (t : PS) : Prop := T_X12_wish_e s p1 p2 p3 r t
theorem mk_X12_wish {s t : PS} {p1 p2 p3 : Int} {r : Int} (h : T_X12_wish_e s p1 p2 p3 r t) : M_X12_wish s p1 p2 p3 r t := h
def T_X12_isOf_e (s_w : PS) (p1 p2 p3 : Int) (rr : Int) (ss : PS) : Prop := ((TyM s_w) ∧ ((0 ≤ p1 ∧ p1 ≤ 23) ∧ ((0 ≤ p2 ∧ p2 ≤ 39) ∧ ((0 ≤ p3 ∧ p3 ≤ 9) ∧ (∃ r_2 : Int, (∃ s_w_1 : PS, ((M_X12_row s_w p1 r_2 s_w_1) ∧ ((Fr intsM [] [] s_w s_w_1) ∧ ((TyM s_w_1) ∧ ((0 ≤ r_2 ∧ r_2 ≤ 329) ∧ (∃ r_7 : Int, (∃ s_w_6 : PS, ((M_X12_row s_w_1 p1 r_7 s_w_6) ∧ ((Fr intsM [] [] s_w_1 s_w_6) ∧ ((TyM s_w_6) ∧ ((0 ≤ r_7 ∧ r_7 ≤ 329) ∧ (∃ r_12 : Int, (∃ s_w_11 : PS, ((M_X12_works s_w_6 (s_w 12 (r_2 + 3).toNat) (s_w 12 (r_7 + 4).toNat) p2 p3 r_12 s_w_11) ∧ ((Fr intsM [37] [] s_w_6 s_w_11) ∧ ((TyM s_w_11) ∧ ((r_12 = 1 ∧ (rr = 1 ∧ ss = s_w_11)) ∨ (¬ (r_12 = 1) ∧ (rr = 0 ∧ ss = s_w_11))))))))))))))))))))))))
def M_X12_isOf (s : PS) (p1 p2 p3 : Int) (r : Int) (t : PS) : Prop := T_X12_isOf_e s p1 p2 p3 r t
theorem mk_X12_isOf {s t : PS} {p1 p2 p3 : Int} {r : Int} (h : T_X12_isOf_e s p1 p2 p3 r t) : M_X12_isOf s p1 p2 p3 r t := h
def T_X12_mayGet_2 (K : Nat → Int → Int → Int → PS → Int → PS → Prop) (x2_1 x2_2 x2_3 : Int) (s_w2 : PS) (rr : Int) (ss : PS) : Prop := ((TyM s_w2) ∧ ((0 ≤ x2_1 ∧ x2_1 ≤ 39) ∧ ((0 ≤ x2_2 ∧ x2_2 ≤ 9) ∧ ((1 ≤ x2_3 ∧ x2_3 ≤ 201) ∧ (∃ r_18 : Int, (∃ s_w_17 : PS, ((M_X12_now s_w2 r_18 s_w_17) ∧ ((Fr intsM [] [] s_w2 s_w_17) ∧ ((TyM s_w_17) ∧ ((0 ≤ r_18 ∧ r_18 ≤ 200) ∧ ((r_18 < x2_3 ∧ (K 69 x2_1 x2_2 0 s_w_17 rr ss)) ∨ (¬ (r_18 < x2_3) ∧ (((s_w2 21 x2_3.toNat) = 2 ∧ (∃ r_24 : Int, (∃ s_w_23 : PS, ((M_X12_isSo s_w_17 x2_3 r_24 s_w_23) ∧ ((Fr intsM [] [] s_w_17 s_w_23) ∧ ((TyM s_w_23) ∧ ((0 ≤ r_24 ∧ r_24 ≤ 1) ∧ ((r_24 = 0 ∧ (K 61 x2_1 x2_2 x2_3 s_w_23 rr ss)) ∨ (¬ (r_24 = 0) ∧ (((s_w2 22 (5 * x2_3).toNat) = x2_2 ∧ (((s_w2 32 x2_1.toNat) < (s_w2 22 ((5 * x2_3) + 1).toNat) ∧ (K 61 x2_1 x2_2 x2_3 s_w_23 rr ss)) ∨ (¬ ((s_w2 32 x2_1.toNat) < (s_w2 22 ((5 * x2_3) + 1).toNat)) ∧ (rr = 0 ∧ ss = s_w_23)))) ∨ (¬ ((s_w2 22 (5 * x2_3).toNat) = x2_2) ∧ (K 61 x2_1 x2_2 x2_3 s_w_23 rr ss)))))))))))) ∨ (¬ ((s_w2 21 x2_3.toNat) = 2) ∧ (K 61 x2_1 x2_2 x2_3 s_w_17 rr ss)))))))))))))))
def T_X12_mayGet_61 (K : Nat → Int → Int → Int → PS → Int → PS → Prop) (x61_1 x61_2 x61_3 : Int) (s_w61 : PS) (rr : Int) (ss : PS) : Prop := ((TyM s_w61) ∧ ((0 ≤ x61_1 ∧ x61_1 ≤ 39) ∧ ((0 ≤ x61_2 ∧ x61_2 ≤ 9) ∧ ((1 ≤ x61_3 ∧ x61_3 ≤ 200) ∧ (K 2 x61_1 x61_2 (x61_3 + 1) s_w61 rr ss)))))
def T_X12_mayGet_69 (K : Nat → Int → Int → Int → PS → Int → PS → Prop) (x69_1 x69_2 x69_3 : Int) (s_w69 : PS) (rr : Int) (ss : PS) : Prop := ((TyM s_w69) ∧ ((0 ≤ x69_1 ∧ x69_1 ≤ 39) ∧ ((0 ≤ x69_2 ∧ x69_2 ≤ 9) ∧ ((0 ≤ x69_3 ∧ x69_3 ≤ 24) ∧ (((s_w69 4 (s_w69 0 12).toNat) ≤ x69_3 ∧ (rr = 1 ∧ ss = s_w69)) ∨ (¬ ((s_w69 4 (s_w69 0 12).toNat) ≤ x69_3) ∧ (∃ r_4 : Int, (∃ s_w_3 : PS, ((M_X12_row s_w69 x69_3 r_4 s_w_3) ∧ ((Fr intsM [] [] s_w69 s_w_3) ∧ ((TyM s_w_3) ∧ ((0 ≤ r_4 ∧ r_4 ≤ 329) ∧ (((s_w69 12 r_4.toNat) = 0 ∧ (∃ r_10 : Int, (∃ s_w_9 : PS, ((M_X12_isFor s_w_3 x69_3 x69_1 r_10 s_w_9) ∧ ((Fr intsM [37] [] s_w_3 s_w_9) ∧ ((TyM s_w_9) ∧ ((0 ≤ r_10 ∧ r_10 ≤ 1) ∧ ((r_10 = 0 ∧ (K 116 x69_1 x69_2 x69_3 s_w_9 rr ss)) ∨ (¬ (r_10 = 0) ∧ (∃ r_14 : Int, (∃ s_w_13 : PS, ((M_X12_isOf s_w_9 x69_3 x69_1 x69_2 r_14 s_w_13) ∧ ((Fr intsM [37] [] s_w_9 s_w_13) ∧ ((TyM s_w_13) ∧ ((0 ≤ r_14 ∧ r_14 ≤ 1) ∧ ((r_14 = 0 ∧ (K 116 x69_1 x69_2 x69_3 s_w_13 rr ss)) ∨ (¬ (r_14 = 0) ∧ (rr = 0 ∧ ss = s_w_13)))))))))))))))))) ∨ (¬ ((s_w69 12 r_4.toNat) = 0) ∧ (K 116 x69_1 x69_2 x69_3 s_w_3 rr ss)))))))))))))))
def T_X12_mayGet_116 (K : Nat → Int → Int → Int → PS → Int → PS → Prop) (x116_1 x116_2 x116_3 : Int) (s_w116 : PS) (rr : Int) (ss : PS) : Prop := ((TyM s_w116) ∧ ((0 ≤ x116_1 ∧ x116_1 ≤ 39) ∧ ((0 ≤ x116_2 ∧ x116_2 ≤ 9) ∧ ((0 ≤ x116_3 ∧ x116_3 ≤ 23) ∧ (K 69 x116_1 x116_2 (x116_3 + 1) s_w116 rr ss)))))
def T_X12_mayGet_e (K : Nat → Int → Int → Int → PS → Int → PS → Prop) (s_w : PS) (p1 p2 : Int) (rr : Int) (ss : PS) : Prop := ((TyM s_w) ∧ ((0 ≤ p1 ∧ p1 ≤ 39) ∧ ((0 ≤ p2 ∧ p2 ≤ 9) ∧ (K 2 p1 p2 1 s_w rr ss))))
def It_X12_mayGet : Nat → Nat → Int → Int → Int → PS → Int → PS → Prop
  | 0, _, _, _, _, _, _, _ => False
  | n + 1, pc, a0, a1, a2, s, r, t => (pc = 2 ∧ T_X12_mayGet_2 (It_X12_mayGet n) a0 a1 a2 s r t) ∨ (pc = 61 ∧ T_X12_mayGet_61 (It_X12_mayGet n) a0 a1 a2 s r t) ∨ (pc = 69 ∧ T_X12_mayGet_69 (It_X12_mayGet n) a0 a1 a2 s r t) ∨ (pc = 116 ∧ T_X12_mayGet_116 (It_X12_mayGet n) a0 a1 a2 s r t)
theorem rl_X12_mayGet_2 {n : Nat} {a0 a1 a2 : Int} {s t : PS} {r : Int} (h : T_X12_mayGet_2 (It_X12_mayGet n) a0 a1 a2 s r t) : It_X12_mayGet (n + 1) 2 a0 a1 a2 s r t := Or.inl ⟨rfl, h⟩
theorem rl_X12_mayGet_61 {n : Nat} {a0 a1 a2 : Int} {s t : PS} {r : Int} (h : T_X12_mayGet_61 (It_X12_mayGet n) a0 a1 a2 s r t) : It_X12_mayGet (n + 1) 61 a0 a1 a2 s r t := Or.inr (Or.inl ⟨rfl, h⟩)
theorem rl_X12_mayGet_69 {n : Nat} {a0 a1 a2 : Int} {s t : PS} {r : Int} (h : T_X12_mayGet_69 (It_X12_mayGet n) a0 a1 a2 s r t) : It_X12_mayGet (n + 1) 69 a0 a1 a2 s r t := Or.inr (Or.inr (Or.inl ⟨rfl, h⟩))
theorem rl_X12_mayGet_116 {n : Nat} {a0 a1 a2 : Int} {s t : PS} {r : Int} (h : T_X12_mayGet_116 (It_X12_mayGet n) a0 a1 a2 s r t) : It_X12_mayGet (n + 1) 116 a0 a1 a2 s r t := Or.inr (Or.inr (Or.inr (⟨rfl, h⟩)))
theorem ul_X12_mayGet_2 {n : Nat} {a0 a1 a2 : Int} {s t : PS} {r : Int} (h : It_X12_mayGet (n + 1) 2 a0 a1 a2 s r t) : T_X12_mayGet_2 (It_X12_mayGet n) a0 a1 a2 s r t := by
  have h2 : ((2 : Nat) = 2 ∧ T_X12_mayGet_2 (It_X12_mayGet n) a0 a1 a2 s r t) ∨ ((2 : Nat) = 61 ∧ T_X12_mayGet_61 (It_X12_mayGet n) a0 a1 a2 s r t) ∨ ((2 : Nat) = 69 ∧ T_X12_mayGet_69 (It_X12_mayGet n) a0 a1 a2 s r t) ∨ ((2 : Nat) = 116 ∧ T_X12_mayGet_116 (It_X12_mayGet n) a0 a1 a2 s r t) := h
  rcases h2 with ⟨e, h2⟩ | ⟨e, h2⟩ | ⟨e, h2⟩ | ⟨e, h2⟩
  · exact h2
  · exact absurd e (by decide)
  · exact absurd e (by decide)
  · exact absurd e (by decide)
theorem ul_X12_mayGet_61 {n : Nat} {a0 a1 a2 : Int} {s t : PS} {r : Int} (h : It_X12_mayGet (n + 1) 61 a0 a1 a2 s r t) : T_X12_mayGet_61 (It_X12_mayGet n) a0 a1 a2 s r t := by
  have h2 : ((61 : Nat) = 2 ∧ T_X12_mayGet_2 (It_X12_mayGet n) a0 a1 a2 s r t) ∨ ((61 : Nat) = 61 ∧ T_X12_mayGet_61 (It_X12_mayGet n) a0 a1 a2 s r t) ∨ ((61 : Nat) = 69 ∧ T_X12_mayGet_69 (It_X12_mayGet n) a0 a1 a2 s r t) ∨ ((61 : Nat) = 116 ∧ T_X12_mayGet_116 (It_X12_mayGet n) a0 a1 a2 s r t) := h
  rcases h2 with ⟨e, h2⟩ | ⟨e, h2⟩ | ⟨e, h2⟩ | ⟨e, h2⟩
  · exact absurd e (by decide)
  · exact h2
  · exact absurd e (by decide)
  · exact absurd e (by decide)
theorem ul_X12_mayGet_69 {n : Nat} {a0 a1 a2 : Int} {s t : PS} {r : Int} (h : It_X12_mayGet (n + 1) 69 a0 a1 a2 s r t) : T_X12_mayGet_69 (It_X12_mayGet n) a0 a1 a2 s r t := by
  have h2 : ((69 : Nat) = 2 ∧ T_X12_mayGet_2 (It_X12_mayGet n) a0 a1 a2 s r t) ∨ ((69 : Nat) = 61 ∧ T_X12_mayGet_61 (It_X12_mayGet n) a0 a1 a2 s r t) ∨ ((69 : Nat) = 69 ∧ T_X12_mayGet_69 (It_X12_mayGet n) a0 a1 a2 s r t) ∨ ((69 : Nat) = 116 ∧ T_X12_mayGet_116 (It_X12_mayGet n) a0 a1 a2 s r t) := h
  rcases h2 with ⟨e, h2⟩ | ⟨e, h2⟩ | ⟨e, h2⟩ | ⟨e, h2⟩
  · exact absurd e (by decide)
  · exact absurd e (by decide)
  · exact h2
  · exact absurd e (by decide)
theorem ul_X12_mayGet_116 {n : Nat} {a0 a1 a2 : Int} {s t : PS} {r : Int} (h : It_X12_mayGet (n + 1) 116 a0 a1 a2 s r t) : T_X12_mayGet_116 (It_X12_mayGet n) a0 a1 a2 s r t := by
  have h2 : ((116 : Nat) = 2 ∧ T_X12_mayGet_2 (It_X12_mayGet n) a0 a1 a2 s r t) ∨ ((116 : Nat) = 61 ∧ T_X12_mayGet_61 (It_X12_mayGet n) a0 a1 a2 s r t) ∨ ((116 : Nat) = 69 ∧ T_X12_mayGet_69 (It_X12_mayGet n) a0 a1 a2 s r t) ∨ ((116 : Nat) = 116 ∧ T_X12_mayGet_116 (It_X12_mayGet n) a0 a1 a2 s r t) := h
  rcases h2 with ⟨e, h2⟩ | ⟨e, h2⟩ | ⟨e, h2⟩ | ⟨e, h2⟩
  · exact absurd e (by decide)
  · exact absurd e (by decide)
  · exact absurd e (by decide)
  · exact h2
def M_X12_mayGet (s : PS) (p1 p2 : Int) (r : Int) (t : PS) : Prop := ∃ n, T_X12_mayGet_e (It_X12_mayGet n) s p1 p2 r t
theorem mk_X12_mayGet {n : Nat} {s t : PS} {p1 p2 : Int} {r : Int} (h : T_X12_mayGet_e (It_X12_mayGet n) s p1 p2 r t) : M_X12_mayGet s p1 p2 r t := ⟨n, h⟩
def T_X12_may_e (s_w : PS) (p1 p2 : Int) (rr : Int) (ss : PS) : Prop := ((TyM s_w) ∧ (∃ s_w_1 : PS, ((M_X12_knows s_w 0 s_w_1) ∧ ((Fr intsM [0, 26, 27, 28, 29, 30, 31, 32, 33, 34, 35, 36] [(0, 45)] s_w s_w_1) ∧ ((TyM s_w_1) ∧ (∃ r_6 : Int, (∃ s_w_5 : PS, ((M_X12_isChild s_w_1 p1 r_6 s_w_5) ∧ ((Fr intsM [] [] s_w_1 s_w_5) ∧ ((TyM s_w_5) ∧ ((0 ≤ r_6 ∧ r_6 ≤ 1) ∧ ((r_6 = 0 ∧ (rr = (-1) ∧ ss = s_w_5)) ∨ (¬ (r_6 = 0) ∧ (∃ r_11 : Int, (∃ s_w_10 : PS, ((M_X12_isKind s_w_5 p2 r_11 s_w_10) ∧ ((Fr intsM [] [] s_w_5 s_w_10) ∧ ((TyM s_w_10) ∧ ((0 ≤ r_11 ∧ r_11 ≤ 1) ∧ ((r_11 = 0 ∧ (rr = (-1) ∧ ss = s_w_10)) ∨ (¬ (r_11 = 0) ∧ (∃ r_16 : Int, (∃ s_w_15 : PS, ((M_X12_mayGet s_w_10 p1 p2 r_16 s_w_15) ∧ ((Fr intsM [37] [] s_w_10 s_w_15) ∧ ((TyM s_w_15) ∧ ((0 ≤ r_16 ∧ r_16 ≤ 1) ∧ ((r_16 = 0 ∧ (rr = 0 ∧ ss = s_w_15)) ∨ (¬ (r_16 = 0) ∧ (rr = 1 ∧ ss = s_w_15))))))))))))))))))))))))))))))
def M_X12_may (s : PS) (p1 p2 : Int) (r : Int) (t : PS) : Prop := T_X12_may_e s p1 p2 r t
theorem mk_X12_may {s t : PS} {p1 p2 : Int} {r : Int} (h : T_X12_may_e s p1 p2 r t) : M_X12_may s p1 p2 r t := h
def T_X12_pointsOf_5 (K : Nat → Int → Int → Int → Int → Int → Int → PS → Int → PS → Prop) (x5_1 x5_2 x5_3 x5_5 : Int) (s_w5 : PS) (rr : Int) (ss : PS) : Prop := ((TyM s_w5) ∧ ((0 ≤ x5_1 ∧ x5_1 ≤ 39) ∧ ((0 ≤ x5_2 ∧ x5_2 ≤ 9) ∧ ((0 ≤ x5_5 ∧ x5_5 ≤ 24) ∧ (((s_w5 4 (s_w5 0 12).toNat) ≤ x5_5 ∧ (rr = (wi x5_3) ∧ ss = s_w5)) ∨ (¬ ((s_w5 4 (s_w5 0 12).toNat) ≤ x5_5) ∧ (∃ r_6 : Int, (∃ s_w_5 : PS, ((M_X12_row s_w5 x5_5 r_6 s_w_5) ∧ ((Fr intsM [] [] s_w5 s_w_5) ∧ ((TyM s_w_5) ∧ ((0 ≤ r_6 ∧ r_6 ≤ 329) ∧ (((s_w5 12 r_6.toNat) = 1 ∧ (∃ r_12 : Int, (∃ s_w_11 : PS, ((M_X12_isFor s_w_5 x5_5 x5_1 r_12 s_w_11) ∧ ((Fr intsM [37] [] s_w_5 s_w_11) ∧ ((TyM s_w_11) ∧ ((0 ≤ r_12 ∧ r_12 ≤ 1) ∧ ((r_12 = 0 ∧ (K 91 x5_1 x5_2 x5_3 x5_5 x5_3 0 s_w_11 rr ss)) ∨ (¬ (r_12 = 0) ∧ (∃ r_16 : Int, (∃ s_w_15 : PS, ((M_X12_isOf s_w_11 x5_5 x5_1 x5_2 r_16 s_w_15) ∧ ((Fr intsM [37] [] s_w_11 s_w_15) ∧ ((TyM s_w_15) ∧ ((0 ≤ r_16 ∧ r_16 ≤ 1) ∧ ((r_16 = 0 ∧ (K 91 x5_1 x5_2 x5_3 x5_5 x5_3 0 s_w_15 rr ss)) ∨ (¬ (r_16 = 0) ∧ (∃ r_20 : Int, (∃ s_w_19 : PS, ((M_X12_row s_w_15 x5_5 r_20 s_w_19) ∧ ((Fr intsM [] [] s_w_15 s_w_19) ∧ ((TyM s_w_19) ∧ ((0 ≤ r_20 ∧ r_20 ≤ 329) ∧ (∃ r_25 : Int, (∃ s_w_24 : PS, ((M_X12_row s_w_19 x5_5 r_25 s_w_24) ∧ ((Fr intsM [] [] s_w_19 s_w_24) ∧ ((TyM s_w_24) ∧ ((0 ≤ r_25 ∧ r_25 ≤ 329) ∧ (∃ r_30 : Int, (∃ s_w_29 : PS, ((M_X12_works s_w_24 (s_w5 12 (r_20 + 1).toNat) (s_w5 12 (r_25 + 2).toNat) x5_1 x5_2 r_30 s_w_29) ∧ ((Fr intsM [37] [] s_w_24 s_w_29) ∧ ((TyM s_w_29) ∧ (K 92 x5_1 x5_2 x5_3 x5_5 r_30 x5_3 s_w_29 rr ss))))))))))))))))))))))))))))))))))) ∨ (¬ ((s_w5 12 r_6.toNat) = 1) ∧ (K 91 x5_1 x5_2 x5_3 x5_5 x5_3 0 s_w_5 rr ss)))))))))))))))
def T_X12_pointsOf_91 (K : Nat → Int → Int → Int → Int → Int → Int → PS → Int → PS → Prop) (x91_1 x91_2 x91_3 x91_5 y91_0 : Int) (s_w91 : PS) (rr : Int) (ss : PS) : Prop := ((TyM s_w91) ∧ ((0 ≤ x91_1 ∧ x91_1 ≤ 39) ∧ ((0 ≤ x91_2 ∧ x91_2 ≤ 9) ∧ ((0 ≤ x91_5 ∧ x91_5 ≤ 23) ∧ (K 92 x91_1 x91_2 x91_3 x91_5 0 y91_0 s_w91 rr ss)))))
def T_X12_pointsOf_92 (K : Nat → Int → Int → Int → Int → Int → Int → PS → Int → PS → Prop) (x92_1 x92_2 x92_3 x92_5 y92_0 y92_1 : Int) (s_w92 : PS) (rr : Int) (ss : PS) : Prop := ((TyM s_w92) ∧ ((0 ≤ x92_1 ∧ x92_1 ≤ 39) ∧ ((0 ≤ x92_2 ∧ x92_2 ≤ 9) ∧ ((0 ≤ x92_5 ∧ x92_5 ≤ 23) ∧ (K 5 x92_1 x92_2 (wl (y92_1 + y92_0)) (x92_5 + 1) 0 0 s_w92 rr ss)))))
def T_X12_pointsOf_e (K : Nat → Int → Int → Int → Int → Int → Int → PS → Int → PS → Prop) (s_w : PS) (p1 p2 : Int) (rr : Int) (ss : PS) : Prop := ((TyM s_w) ∧ ((0 ≤ p1 ∧ p1 ≤ 39) ∧ ((0 ≤ p2 ∧ p2 ≤ 9) ∧ (K 5 p1 p2 0 0 0 0 s_w rr ss))))
def It_X12_pointsOf : Nat → Nat → Int → Int → Int → Int → Int → Int → PS → Int → PS → Prop
  | 0, _, _, _, _, _, _, _, _, _, _ => False
  | n + 1, pc, a0, a1, a2, a3, a4, a5, s, r, t => (pc = 5 ∧ T_X12_pointsOf_5 (It_X12_pointsOf n) a0 a1 a2 a3 s r t) ∨ (pc = 91 ∧ T_X12_pointsOf_91 (It_X12_pointsOf n) a0 a1 a2 a3 a4 s r t) ∨ (pc = 92 ∧ T_X12_pointsOf_92 (It_X12_pointsOf n) a0 a1 a2 a3 a4 a5 s r t)
theorem rl_X12_pointsOf_5 {n : Nat} {a0 a1 a2 a3 : Int} {s t : PS} {r : Int} (h : T_X12_pointsOf_5 (It_X12_pointsOf n) a0 a1 a2 a3 s r t) : It_X12_pointsOf (n + 1) 5 a0 a1 a2 a3 0 0 s r t := Or.inl ⟨rfl, h⟩
theorem rl_X12_pointsOf_91 {n : Nat} {a0 a1 a2 a3 a4 : Int} {s t : PS} {r : Int} (h : T_X12_pointsOf_91 (It_X12_pointsOf n) a0 a1 a2 a3 a4 s r t) : It_X12_pointsOf (n + 1) 91 a0 a1 a2 a3 a4 0 s r t := Or.inr (Or.inl ⟨rfl, h⟩)
theorem rl_X12_pointsOf_92 {n : Nat} {a0 a1 a2 a3 a4 a5 : Int} {s t : PS} {r : Int} (h : T_X12_pointsOf_92 (It_X12_pointsOf n) a0 a1 a2 a3 a4 a5 s r t) : It_X12_pointsOf (n + 1) 92 a0 a1 a2 a3 a4 a5 s r t := Or.inr (Or.inr (⟨rfl, h⟩))
theorem ul_X12_pointsOf_5 {n : Nat} {a0 a1 a2 a3 a4 a5 : Int} {s t : PS} {r : Int} (h : It_X12_pointsOf (n + 1) 5 a0 a1 a2 a3 a4 a5 s r t) : T_X12_pointsOf_5 (It_X12_pointsOf n) a0 a1 a2 a3 s r t := by
  have h2 : ((5 : Nat) = 5 ∧ T_X12_pointsOf_5 (It_X12_pointsOf n) a0 a1 a2 a3 s r t) ∨ ((5 : Nat) = 91 ∧ T_X12_pointsOf_91 (It_X12_pointsOf n) a0 a1 a2 a3 a4 s r t) ∨ ((5 : Nat) = 92 ∧ T_X12_pointsOf_92 (It_X12_pointsOf n) a0 a1 a2 a3 a4 a5 s r t) := h
  rcases h2 with ⟨e, h2⟩ | ⟨e, h2⟩ | ⟨e, h2⟩
  · exact h2
  · exact absurd e (by decide)
  · exact absurd e (by decide)
theorem ul_X12_pointsOf_91 {n : Nat} {a0 a1 a2 a3 a4 a5 : Int} {s t : PS} {r : Int} (h : It_X12_pointsOf (n + 1) 91 a0 a1 a2 a3 a4 a5 s r t) : T_X12_pointsOf_91 (It_X12_pointsOf n) a0 a1 a2 a3 a4 s r t := by
  have h2 : ((91 : Nat) = 5 ∧ T_X12_pointsOf_5 (It_X12_pointsOf n) a0 a1 a2 a3 s r t) ∨ ((91 : Nat) = 91 ∧ T_X12_pointsOf_91 (It_X12_pointsOf n) a0 a1 a2 a3 a4 s r t) ∨ ((91 : Nat) = 92 ∧ T_X12_pointsOf_92 (It_X12_pointsOf n) a0 a1 a2 a3 a4 a5 s r t) := h
  rcases h2 with ⟨e, h2⟩ | ⟨e, h2⟩ | ⟨e, h2⟩
  · exact absurd e (by decide)
  · exact h2
  · exact absurd e (by decide)
theorem ul_X12_pointsOf_92 {n : Nat} {a0 a1 a2 a3 a4 a5 : Int} {s t : PS} {r : Int} (h : It_X12_pointsOf (n + 1) 92 a0 a1 a2 a3 a4 a5 s r t) : T_X12_pointsOf_92 (It_X12_pointsOf n) a0 a1 a2 a3 a4 a5 s r t := by
  have h2 : ((92 : Nat) = 5 ∧ T_X12_pointsOf_5 (It_X12_pointsOf n) a0 a1 a2 a3 s r t) ∨ ((92 : Nat) = 91 ∧ T_X12_pointsOf_91 (It_X12_pointsOf n) a0 a1 a2 a3 a4 s r t) ∨ ((92 : Nat) = 92 ∧ T_X12_pointsOf_92 (It_X12_pointsOf n) a0 a1 a2 a3 a4 a5 s r t) := h
  rcases h2 with ⟨e, h2⟩ | ⟨e, h2⟩ | ⟨e, h2⟩
  · exact absurd e (by decide)
  · exact absurd e (by decide)
  · exact h2
def M_X12_pointsOf (s : PS) (p1 p2 : Int) (r : Int) (t : PS) : Prop := ∃ n, T_X12_pointsOf_e (It_X12_pointsOf n) s p1 p2 r t
theorem mk_X12_pointsOf {n : Nat} {s t : PS} {p1 p2 : Int} {r : Int} (h : T_X12_pointsOf_e (It_X12_pointsOf n) s p1 p2 r t) : M_X12_pointsOf s p1 p2 r t := ⟨n, h⟩
def T_X12_points_e (s_w : PS) (p1 p2 : Int) (rr : Int) (ss : PS) : Prop := ((TyM s_w) ∧ (∃ s_w_1 : PS, ((M_X12_knows s_w 0 s_w_1) ∧ ((Fr intsM [0, 26, 27, 28, 29, 30, 31, 32, 33, 34, 35, 36] [(0, 45)] s_w s_w_1) ∧ ((TyM s_w_1) ∧ (∃ r_6 : Int, (∃ s_w_5 : PS, ((M_X12_isChild s_w_1 p1 r_6 s_w_5) ∧ ((Fr intsM [] [] s_w_1 s_w_5) ∧ ((TyM s_w_5) ∧ ((0 ≤ r_6 ∧ r_6 ≤ 1) ∧ ((r_6 = 0 ∧ (rr = (-2000000000) ∧ ss = s_w_5)) ∨ (¬ (r_6 = 0) ∧ (∃ r_11 : Int, (∃ s_w_10 : PS, ((M_X12_isKind s_w_5 p2 r_11 s_w_10) ∧ ((Fr intsM [] [] s_w_5 s_w_10) ∧ ((TyM s_w_10) ∧ ((0 ≤ r_11 ∧ r_11 ≤ 1) ∧ ((r_11 = 0 ∧ (rr = (-2000000000) ∧ ss = s_w_10)) ∨ (¬ (r_11 = 0) ∧ (∃ r_16 : Int, (∃ s_w_15 : PS, ((M_X12_pointsOf s_w_10 p1 p2 r_16 s_w_15) ∧ ((Fr intsM [37] [] s_w_10 s_w_15) ∧ ((TyM s_w_15) ∧ (rr = r_16 ∧ ss = s_w_15)))))))))))))))))))))))))))
def M_X12_points (s : PS) (p1 p2 : Int) (r : Int) (t : PS) : Prop := T_X12_points_e s p1 p2 r t
theorem mk_X12_points {s t : PS} {p1 p2 : Int} {r : Int} (h : T_X12_points_e s p1 p2 r t) : M_X12_points s p1 p2 r t := h
def T_X12_arrives_2 (K : Nat → Int → PS → Int → PS → Prop) (x2_1 : Int) (s_w2 : PS) (rr : Int) (ss : PS) : Prop := ((TyM s_w2) ∧ ((0 ≤ x2_1 ∧ x2_1 ≤ 250) ∧ ((250 ≤ x2_1 ∧ (K 24 1 s_w2 rr ss)) ∨ (¬ (250 ≤ x2_1) ∧ (∃ s_w_15 : PS, s_w_15 = (us s_w2 46 x2_1.toNat 0) ∧ (K 2 (x2_1 + 1) s_w_15 rr ss))))))
def T_X12_arrives_24 (K : Nat → Int → PS → Int → PS → Prop) (x24_1 : Int) (s_w24 : PS) (rr : Int) (ss : PS) : Prop := ((TyM s_w24) ∧ ((1 ≤ x24_1 ∧ x24_1 ≤ 201) ∧ (((s_w24 0 37) < x24_1 ∧ (rr = 0 ∧ ss = s_w24)) ∨ (¬ ((s_w24 0 37) < x24_1) ∧ (((s_w24 21 x24_1.toNat) = 1 ∧ (∃ r_5 : Int, (∃ s_w_4 : PS, ((M_X12_isSo s_w24 x24_1 r_5 s_w_4) ∧ ((Fr intsM [] [] s_w24 s_w_4) ∧ ((TyM s_w_4) ∧ ((0 ≤ r_5 ∧ r_5 ≤ 1) ∧ ((r_5 = 0 ∧ (K 90 x24_1 s_w_4 rr ss)) ∨ (¬ (r_5 = 0) ∧ (∃ s_w_13 : PS, s_w_13 = (us s_w_4 46 ((25 * (s_w24 22 (5 * x24_1).toNat)) + (s_w24 22 ((5 * x24_1) + 1).toNat)).toNat (wi ((s_w24 46 ((25 * (s_w24 22 (5 * x24_1).toNat)) + (s_w24 22 ((5 * x24_1) + 1).toNat)).toNat) + (s_w24 22 ((5 * x24_1) + 2).toNat)))) ∧ (K 90 x24_1 s_w_13 rr ss))))))))))) ∨ (¬ ((s_w24 21 x24_1.toNat) = 1) ∧ (K 90 x24_1 s_w24 rr ss)))))))
def T_X12_arrives_90 (K : Nat → Int → PS → Int → PS → Prop) (x90_1 : Int) (s_w90 : PS) (rr : Int) (ss : PS) : Prop := ((TyM s_w90) ∧ ((1 ≤ x90_1 ∧ x90_1 ≤ 200) ∧ (K 24 (x90_1 + 1) s_w90 rr ss)))
def T_X12_arrives_e (K : Nat → Int → PS → Int → PS → Prop) (s_w : PS) (rr : Int) (ss : PS) : Prop := ((TyM s_w) ∧ (K 2 0 s_w rr ss))
def It_X12_arrives : Nat → Nat → Int → PS → Int → PS → Prop
  | 0, _, _, _, _, _ => False
  | n + 1, pc, a0, s, r, t => (pc = 2 ∧ T_X12_arrives_2 (It_X12_arrives n) a0 s r t) ∨ (pc = 24 ∧ T_X12_arrives_24 (It_X12_arrives n) a0 s r t) ∨ (pc = 90 ∧ T_X12_arrives_90 (It_X12_arrives n) a0 s r t)
theorem rl_X12_arrives_2 {n : Nat} {a0 : Int} {s t : PS} {r : Int} (h : T_X12_arrives_2 (It_X12_arrives n) a0 s r t) : It_X12_arrives (n + 1) 2 a0 s r t := Or.inl ⟨rfl, h⟩
theorem rl_X12_arrives_24 {n : Nat} {a0 : Int} {s t : PS} {r : Int} (h : T_X12_arrives_24 (It_X12_arrives n) a0 s r t) : It_X12_arrives (n + 1) 24 a0 s r t := Or.inr (Or.inl ⟨rfl, h⟩)
theorem rl_X12_arrives_90 {n : Nat} {a0 : Int} {s t : PS} {r : Int} (h : T_X12_arrives_90 (It_X12_arrives n) a0 s r t) : It_X12_arrives (n + 1) 90 a0 s r t := Or.inr (Or.inr (⟨rfl, h⟩))
theorem ul_X12_arrives_2 {n : Nat} {a0 : Int} {s t : PS} {r : Int} (h : It_X12_arrives (n + 1) 2 a0 s r t) : T_X12_arrives_2 (It_X12_arrives n) a0 s r t := by
  have h2 : ((2 : Nat) = 2 ∧ T_X12_arrives_2 (It_X12_arrives n) a0 s r t) ∨ ((2 : Nat) = 24 ∧ T_X12_arrives_24 (It_X12_arrives n) a0 s r t) ∨ ((2 : Nat) = 90 ∧ T_X12_arrives_90 (It_X12_arrives n) a0 s r t) := h
  rcases h2 with ⟨e, h2⟩ | ⟨e, h2⟩ | ⟨e, h2⟩
  · exact h2
  · exact absurd e (by decide)
  · exact absurd e (by decide)
theorem ul_X12_arrives_24 {n : Nat} {a0 : Int} {s t : PS} {r : Int} (h : It_X12_arrives (n + 1) 24 a0 s r t) : T_X12_arrives_24 (It_X12_arrives n) a0 s r t := by
  have h2 : ((24 : Nat) = 2 ∧ T_X12_arrives_2 (It_X12_arrives n) a0 s r t) ∨ ((24 : Nat) = 24 ∧ T_X12_arrives_24 (It_X12_arrives n) a0 s r t) ∨ ((24 : Nat) = 90 ∧ T_X12_arrives_90 (It_X12_arrives n) a0 s r t) := h
  rcases h2 with ⟨e, h2⟩ | ⟨e, h2⟩ | ⟨e, h2⟩
  · exact absurd e (by decide)
  · exact h2
  · exact absurd e (by decide)
theorem ul_X12_arrives_90 {n : Nat} {a0 : Int} {s t : PS} {r : Int} (h : It_X12_arrives (n + 1) 90 a0 s r t) : T_X12_arrives_90 (It_X12_arrives n) a0 s r t := by
  have h2 : ((90 : Nat) = 2 ∧ T_X12_arrives_2 (It_X12_arrives n) a0 s r t) ∨ ((90 : Nat) = 24 ∧ T_X12_arrives_24 (It_X12_arrives n) a0 s r t) ∨ ((90 : Nat) = 90 ∧ T_X12_arrives_90 (It_X12_arrives n) a0 s r t) := h
  rcases h2 with ⟨e, h2⟩ | ⟨e, h2⟩ | ⟨e, h2⟩
  · exact absurd e (by decide)
  · exact absurd e (by decide)
  · exact h2
def M_X12_arrives (s : PS) (r : Int) (t : PS) : Prop := ∃ n, T_X12_arrives_e (It_X12_arrives n) s r t
theorem mk_X12_arrives {n : Nat} {s t : PS} {r : Int} (h : T_X12_arrives_e (It_X12_arrives n) s r t) : M_X12_arrives s r t := ⟨n, h⟩
