def T_X2_cheapestLeft_9 (K : Nat → Int → Int → Int → Int → PS → Int → PS → Prop) (x9_1 x9_2 x9_4 : Int) (s_w9 : PS) (rr : Int) (ss : PS) : Prop := ((TyX s_w9) ∧ (((-1) ≤ x9_1 ∧ x9_1 ≤ 9) ∧ ((0 ≤ x9_4 ∧ x9_4 ≤ 10) ∧ (((s_w9 64 0) ≤ x9_4 ∧ (rr = x9_1 ∧ ss = s_w9)) ∨ (¬ ((s_w9 64 0) ≤ x9_4) ∧ (((s_w9 73 (((x9_4 * 24) + (s_w9 64 2)) - 1).toNat) ≤ 0 ∧ (K 74 x9_1 x9_2 x9_4 (((x9_4 * 24) + (s_w9 64 2)) - 1) s_w9 rr ss)) ∨ (¬ ((s_w9 73 (((x9_4 * 24) + (s_w9 64 2)) - 1).toNat) ≤ 0) ∧ ((x9_2 ≤ (s_w9 77 (((x9_4 * 24) + (s_w9 64 2)) - 1).toNat) ∧ (K 74 x9_1 x9_2 x9_4 (((x9_4 * 24) + (s_w9 64 2)) - 1) s_w9 rr ss)) ∨ (¬ (x9_2 ≤ (s_w9 77 (((x9_4 * 24) + (s_w9 64 2)) - 1).toNat)) ∧ (K 74 x9_4 (s_w9 77 (((x9_4 * 24) + (s_w9 64 2)) - 1).toNat) x9_4 (((x9_4 * 24) + (s_w9 64 2)) - 1) s_w9 rr ss))))))))))
def T_X2_cheapestLeft_74 (K : Nat → Int → Int → Int → Int → PS → Int → PS → Prop) (x74_1 x74_2 x74_4 x74_5 : Int) (s_w74 : PS) (rr : Int) (ss : PS) : Prop := ((TyX s_w74) ∧ (((-1) ≤ x74_1 ∧ x74_1 ≤ 9) ∧ ((0 ≤ x74_4 ∧ x74_4 ≤ 9) ∧ ((0 ≤ x74_5 ∧ x74_5 ≤ 239) ∧ (K 9 x74_1 x74_2 (x74_4 + 1) 0 s_w74 rr ss)))))
def T_X2_cheapestLeft_e (K : Nat → Int → Int → Int → Int → PS → Int → PS → Prop) (s_w : PS) (rr : Int) (ss : PS) : Prop := ((TyX s_w) ∧ (K 9 (-1) 1152921504606846976 0 0 s_w rr ss))
def It_X2_cheapestLeft : Nat → Nat → Int → Int → Int → Int → PS → Int → PS → Prop
  | 0, _, _, _, _, _, _, _, _ => False
  | n + 1, pc, a0, a1, a2, a3, s, r, t => (pc = 9 ∧ T_X2_cheapestLeft_9 (It_X2_cheapestLeft n) a0 a1 a2 s r t) ∨ (pc = 74 ∧ T_X2_cheapestLeft_74 (It_X2_cheapestLeft n) a0 a1 a2 a3 s r t)
theorem rl_X2_cheapestLeft_9 {n : Nat} {a0 a1 a2 : Int} {s t : PS} {r : Int} (h : T_X2_cheapestLeft_9 (It_X2_cheapestLeft n) a0 a1 a2 s r t) : It_X2_cheapestLeft (n + 1) 9 a0 a1 a2 0 s r t := Or.inl ⟨rfl, h⟩
theorem rl_X2_cheapestLeft_74 {n : Nat} {a0 a1 a2 a3 : Int} {s t : PS} {r : Int} (h : T_X2_cheapestLeft_74 (It_X2_cheapestLeft n) a0 a1 a2 a3 s r t) : It_X2_cheapestLeft (n + 1) 74 a0 a1 a2 a3 s r t := Or.inr (⟨rfl, h⟩)
theorem ul_X2_cheapestLeft_9 {n : Nat} {a0 a1 a2 a3 : Int} {s t : PS} {r : Int} (h : It_X2_cheapestLeft (n + 1) 9 a0 a1 a2 a3 s r t) : T_X2_cheapestLeft_9 (It_X2_cheapestLeft n) a0 a1 a2 s r t := by
  have h2 : ((9 : Nat) = 9 ∧ T_X2_cheapestLeft_9 (It_X2_cheapestLeft n) a0 a1 a2 s r t) ∨ ((9 : Nat) = 74 ∧ T_X2_cheapestLeft_74 (It_X2_cheapestLeft n) a0 a1 a2 a3 s r t) := h
  rcases h2 with ⟨e, h2⟩ | ⟨e, h2⟩
  · exact h2
  · exact absurd e (by decide)
theorem ul_X2_cheapestLeft_74 {n : Nat} {a0 a1 a2 a3 : Int} {s t : PS} {r : Int} (h : It_X2_cheapestLeft (n + 1) 74 a0 a1 a2 a3 s r t) : T_X2_cheapestLeft_74 (It_X2_cheapestLeft n) a0 a1 a2 a3 s r t := by
  have h2 : ((74 : Nat) = 9 ∧ T_X2_cheapestLeft_9 (It_X2_cheapestLeft n) a0 a1 a2 s r t) ∨ ((74 : Nat) = 74 ∧ T_X2_cheapestLeft_74 (It_X2_cheapestLeft n) a0 a1 a2 a3 s r t) := h
  rcases h2 with ⟨e, h2⟩ | ⟨e, h2⟩
  · exact absurd e (by decide)
  · exact h2
def M_X2_cheapestLeft (s : PS) (r : Int) (t : PS) : Prop := ∃ n, T_X2_cheapestLeft_e (It_X2_cheapestLeft n) s r t
theorem mk_X2_cheapestLeft {n : Nat} {s t : PS} {r : Int} (h : T_X2_cheapestLeft_e (It_X2_cheapestLeft n) s r t) : M_X2_cheapestLeft s r t := ⟨n, h⟩
def T_X2_cheapestLoser_7 (K : Nat → Int → Int → Int → PS → Int → PS → Prop) (x7_1 x7_2 x7_4 : Int) (s_w7 : PS) (rr : Int) (ss : PS) : Prop := ((TyX s_w7) ∧ (((-1) ≤ x7_1 ∧ x7_1 ≤ 39) ∧ ((0 ≤ x7_4 ∧ x7_4 ≤ 40) ∧ (((s_w7 64 1) ≤ x7_4 ∧ (rr = x7_1 ∧ ss = s_w7)) ∨ (¬ ((s_w7 64 1) ≤ x7_4) ∧ ((x7_2 ≤ (s_w7 75 x7_4.toNat) ∧ (K 42 x7_1 x7_2 x7_4 s_w7 rr ss)) ∨ (¬ (x7_2 ≤ (s_w7 75 x7_4.toNat)) ∧ (K 42 x7_4 (s_w7 75 x7_4.toNat) x7_4 s_w7 rr ss))))))))
def T_X2_cheapestLoser_42 (K : Nat → Int → Int → Int → PS → Int → PS → Prop) (x42_1 x42_2 x42_4 : Int) (s_w42 : PS) (rr : Int) (ss : PS) : Prop := ((TyX s_w42) ∧ (((-1) ≤ x42_1 ∧ x42_1 ≤ 39) ∧ ((0 ≤ x42_4 ∧ x42_4 ≤ 39) ∧ (K 7 x42_1 x42_2 (x42_4 + 1) s_w42 rr ss))))
def T_X2_cheapestLoser_e (K : Nat → Int → Int → Int → PS → Int → PS → Prop) (s_w : PS) (rr : Int) (ss : PS) : Prop := ((TyX s_w) ∧ (K 7 (-1) 0 0 s_w rr ss))
def It_X2_cheapestLoser : Nat → Nat → Int → Int → Int → PS → Int → PS → Prop
  | 0, _, _, _, _, _, _, _ => False
  | n + 1, pc, a0, a1, a2, s, r, t => (pc = 7 ∧ T_X2_cheapestLoser_7 (It_X2_cheapestLoser n) a0 a1 a2 s r t) ∨ (pc = 42 ∧ T_X2_cheapestLoser_42 (It_X2_cheapestLoser n) a0 a1 a2 s r t)
theorem rl_X2_cheapestLoser_7 {n : Nat} {a0 a1 a2 : Int} {s t : PS} {r : Int} (h : T_X2_cheapestLoser_7 (It_X2_cheapestLoser n) a0 a1 a2 s r t) : It_X2_cheapestLoser (n + 1) 7 a0 a1 a2 s r t := Or.inl ⟨rfl, h⟩
theorem rl_X2_cheapestLoser_42 {n : Nat} {a0 a1 a2 : Int} {s t : PS} {r : Int} (h : T_X2_cheapestLoser_42 (It_X2_cheapestLoser n) a0 a1 a2 s r t) : It_X2_cheapestLoser (n + 1) 42 a0 a1 a2 s r t := Or.inr (⟨rfl, h⟩)
theorem ul_X2_cheapestLoser_7 {n : Nat} {a0 a1 a2 : Int} {s t : PS} {r : Int} (h : It_X2_cheapestLoser (n + 1) 7 a0 a1 a2 s r t) : T_X2_cheapestLoser_7 (It_X2_cheapestLoser n) a0 a1 a2 s r t := by
  have h2 : ((7 : Nat) = 7 ∧ T_X2_cheapestLoser_7 (It_X2_cheapestLoser n) a0 a1 a2 s r t) ∨ ((7 : Nat) = 42 ∧ T_X2_cheapestLoser_42 (It_X2_cheapestLoser n) a0 a1 a2 s r t) := h
  rcases h2 with ⟨e, h2⟩ | ⟨e, h2⟩
  · exact h2
  · exact absurd e (by decide)
theorem ul_X2_cheapestLoser_42 {n : Nat} {a0 a1 a2 : Int} {s t : PS} {r : Int} (h : It_X2_cheapestLoser (n + 1) 42 a0 a1 a2 s r t) : T_X2_cheapestLoser_42 (It_X2_cheapestLoser n) a0 a1 a2 s r t := by
  have h2 : ((42 : Nat) = 7 ∧ T_X2_cheapestLoser_7 (It_X2_cheapestLoser n) a0 a1 a2 s r t) ∨ ((42 : Nat) = 42 ∧ T_X2_cheapestLoser_42 (It_X2_cheapestLoser n) a0 a1 a2 s r t) := h
  rcases h2 with ⟨e, h2⟩ | ⟨e, h2⟩
  · exact absurd e (by decide)
  · exact h2
def M_X2_cheapestLoser (s : PS) (r : Int) (t : PS) : Prop := ∃ n, T_X2_cheapestLoser_e (It_X2_cheapestLoser n) s r t
theorem mk_X2_cheapestLoser {n : Nat} {s t : PS} {r : Int} (h : T_X2_cheapestLoser_e (It_X2_cheapestLoser n) s r t) : M_X2_cheapestLoser s r t := ⟨n, h⟩
def T_X2_enqueue_e (s_w : PS) (p1 : Int) (rr : Int) (ss : PS) : Prop := ((TyX s_w) ∧ ((0 ≤ p1 ∧ p1 ≤ 39) ∧ (((s_w 80 p1.toNat) = 0 ∧ (∃ s_w_3 : PS, s_w_3 = (us s_w 80 p1.toNat 1) ∧ (∃ s_w_4 : PS, s_w_4 = (us s_w_3 79 (iAnd (s_w 74 10) 63).toNat p1) ∧ (∃ s_w_5 : PS, s_w_5 = (us s_w_4 74 10 (wi ((s_w 74 10) + 1))) ∧ (rr = 0 ∧ ss = s_w_5))))) ∨ (¬ ((s_w 80 p1.toNat) = 0) ∧ (rr = 0 ∧ ss = s_w)))))
def M_X2_enqueue (s : PS) (p1 : Int) (r : Int) (t : PS) : Prop := T_X2_enqueue_e s p1 r t
theorem mk_X2_enqueue {s t : PS} {p1 : Int} {r : Int} (h : T_X2_enqueue_e s p1 r t) : M_X2_enqueue s p1 r t := h
def T_X3_pointsOf_e (s_w : PS) (p1 p2 : Int) (rr : Int) (ss : PS) : Prop := ((TyX s_w) ∧ ((0 ≤ p1 ∧ p1 ≤ 39) ∧ ((0 ≤ p2 ∧ p2 ≤ 9) ∧ (rr = (s_w 72 ((p1 * 10) + p2).toNat) ∧ ss = s_w))))
def M_X3_pointsOf (s : PS) (p1 p2 : Int) (r : Int) (t : PS) : Prop := T_X3_pointsOf_e s p1 p2 r t
theorem mk_X3_pointsOf {s t : PS} {p1 p2 : Int} {r : Int} (h : T_X3_pointsOf_e s p1 p2 r t) : M_X3_pointsOf s p1 p2 r t := h
def T_X2_settle_36 (K : Nat → Int → Int → Int → Int → Int → PS → Int → PS → Prop) (x36_1 x36_2 x36_3 x36_4 x36_6 : Int) (s_w36 : PS) (rr : Int) (ss : PS) : Prop := ((TyX s_w36) ∧ (((-2) ≤ x36_1 ∧ x36_1 ≤ 39) ∧ ((0 ≤ x36_2 ∧ x36_2 ≤ 9) ∧ ((0 ≤ x36_3 ∧ x36_3 ≤ 23) ∧ ((0 ≤ x36_6 ∧ x36_6 ≤ 40) ∧ (((s_w36 66 (x36_3 + 1).toNat) ≤ x36_6 ∧ (rr = 0 ∧ ss = s_w36)) ∨ (¬ ((s_w36 66 (x36_3 + 1).toNat) ≤ x36_6) ∧ (((iAnd (iShr (s_w36 70 x36_6.toNat) x36_2) 1) = 0 ∧ (K 121 x36_1 x36_2 x36_3 x36_4 x36_6 s_w36 rr ss)) ∨ (¬ ((iAnd (iShr (s_w36 70 x36_6.toNat) x36_2) 1) = 0) ∧ (∃ r_7 : Int, (∃ s_w_6 : PS, ((M_X3_pointsOf s_w36 x36_6 x36_2 r_7 s_w_6) ∧ ((Fr intsX [] [] s_w36 s_w_6) ∧ ((TyX s_w_6) ∧ (((s_w36 75 x36_6.toNat) ≤ (wl (x36_4 + r_7)) ∧ (K 121 x36_1 x36_2 x36_3 x36_4 x36_6 s_w_6 rr ss)) ∨ (¬ ((s_w36 75 x36_6.toNat) ≤ (wl (x36_4 + r_7))) ∧ (∃ s_w_14 : PS, s_w_14 = (us s_w_6 75 x36_6.toNat (wl (x36_4 + r_7))) ∧ (∃ s_w_15 : PS, s_w_15 = (us s_w_14 76 x36_6.toNat x36_2) ∧ (∃ s_w_16 : PS, ((M_X2_enqueue s_w_15 x36_6 0 s_w_16) ∧ ((Fr intsX [74, 79, 80] [(74, 10)] s_w_15 s_w_16) ∧ ((TyX s_w_16) ∧ (K 121 x36_1 x36_2 x36_3 x36_4 x36_6 s_w_16 rr ss)))))))))))))))))))))))
def T_X2_settle_121 (K : Nat → Int → Int → Int → Int → Int → PS → Int → PS → Prop) (x121_1 x121_2 x121_3 x121_4 x121_6 : Int) (s_w121 : PS) (rr : Int) (ss : PS) : Prop := ((TyX s_w121) ∧ (((-2) ≤ x121_1 ∧ x121_1 ≤ 39) ∧ ((0 ≤ x121_2 ∧ x121_2 ≤ 9) ∧ ((0 ≤ x121_3 ∧ x121_3 ≤ 23) ∧ ((0 ≤ x121_6 ∧ x121_6 ≤ 39) ∧ (K 36 x121_1 x121_2 x121_3 x121_4 (x121_6 + 1) s_w121 rr ss))))))
def T_X2_settle_e (K : Nat → Int → Int → Int → Int → Int → PS → Int → PS → Prop) (s_w : PS) (p1 p2 p3 p4 : Int) (rr : Int) (ss : PS) : Prop := ((TyX s_w) ∧ (((-2) ≤ p1 ∧ p1 ≤ 39) ∧ ((0 ≤ p2 ∧ p2 ≤ 9) ∧ ((0 ≤ p3 ∧ p3 ≤ 23) ∧ (∃ s_w_20 : PS, s_w_20 = (us s_w 77 ((p2 * 24) + p3).toNat p4) ∧ (∃ s_w_21 : PS, s_w_21 = (us s_w_20 78 ((p2 * 24) + p3).toNat p1) ∧ (K 36 p1 p2 p3 p4 (s_w 66 p3.toNat) s_w_21 rr ss)))))))
def It_X2_settle : Nat → Nat → Int → Int → Int → Int → Int → PS → Int → PS → Prop
  | 0, _, _, _, _, _, _, _, _, _ => False
  | n + 1, pc, a0, a1, a2, a3, a4, s, r, t => (pc = 36 ∧ T_X2_settle_36 (It_X2_settle n) a0 a1 a2 a3 a4 s r t) ∨ (pc = 121 ∧ T_X2_settle_121 (It_X2_settle n) a0 a1 a2 a3 a4 s r t)
theorem rl_X2_settle_36 {n : Nat} {a0 a1 a2 a3 a4 : Int} {s t : PS} {r : Int} (h : T_X2_settle_36 (It_X2_settle n) a0 a1 a2 a3 a4 s r t) : It_X2_settle (n + 1) 36 a0 a1 a2 a3 a4 s r t := Or.inl ⟨rfl, h⟩
theorem rl_X2_settle_121 {n : Nat} {a0 a1 a2 a3 a4 : Int} {s t : PS} {r : Int} (h : T_X2_settle_121 (It_X2_settle n) a0 a1 a2 a3 a4 s r t) : It_X2_settle (n + 1) 121 a0 a1 a2 a3 a4 s r t := Or.inr (⟨rfl, h⟩)
theorem ul_X2_settle_36 {n : Nat} {a0 a1 a2 a3 a4 : Int} {s t : PS} {r : Int} (h : It_X2_settle (n + 1) 36 a0 a1 a2 a3 a4 s r t) : T_X2_settle_36 (It_X2_settle n) a0 a1 a2 a3 a4 s r t := by
  have h2 : ((36 : Nat) = 36 ∧ T_X2_settle_36 (It_X2_settle n) a0 a1 a2 a3 a4 s r t) ∨ ((36 : Nat) = 121 ∧ T_X2_settle_121 (It_X2_settle n) a0 a1 a2 a3 a4 s r t) := h
  rcases h2 with ⟨e, h2⟩ | ⟨e, h2⟩
  · exact h2
  · exact absurd e (by decide)
theorem ul_X2_settle_121 {n : Nat} {a0 a1 a2 a3 a4 : Int} {s t : PS} {r : Int} (h : It_X2_settle (n + 1) 121 a0 a1 a2 a3 a4 s r t) : T_X2_settle_121 (It_X2_settle n) a0 a1 a2 a3 a4 s r t := by
  have h2 : ((121 : Nat) = 36 ∧ T_X2_settle_36 (It_X2_settle n) a0 a1 a2 a3 a4 s r t) ∨ ((121 : Nat) = 121 ∧ T_X2_settle_121 (It_X2_settle n) a0 a1 a2 a3 a4 s r t) := h
  rcases h2 with ⟨e, h2⟩ | ⟨e, h2⟩
  · exact absurd e (by decide)
  · exact h2
def M_X2_settle (s : PS) (p1 p2 p3 p4 : Int) (r : Int) (t : PS) : Prop := ∃ n, T_X2_settle_e (It_X2_settle n) s p1 p2 p3 p4 r t
theorem mk_X2_settle {n : Nat} {s t : PS} {p1 p2 p3 p4 : Int} {r : Int} (h : T_X2_settle_e (It_X2_settle n) s p1 p2 p3 p4 r t) : M_X2_settle s p1 p2 p3 p4 r t := ⟨n, h⟩
def T_X2_want_9 (K : Nat → Int → Int → Int → Int → Int → Int → PS → Int → PS → Prop) (x9_1 x9_2 x9_3 x9_4 x9_6 x9_7 : Int) (s_w9 : PS) (rr : Int) (ss : PS) : Prop := ((TyX s_w9) ∧ (((-2) ≤ x9_1 ∧ x9_1 ≤ 39) ∧ ((0 ≤ x9_2 ∧ x9_2 ≤ 9) ∧ ((0 ≤ x9_3 ∧ x9_3 ≤ 23) ∧ ((0 ≤ x9_6 ∧ x9_6 ≤ 216) ∧ (((-1) ≤ x9_7 ∧ x9_7 ≤ 23) ∧ ((x9_7 < 0 ∧ (K 46 x9_1 x9_2 x9_3 x9_4 x9_6 x9_7 s_w9 rr ss)) ∨ (¬ (x9_7 < 0) ∧ (((s_w9 77 (x9_6 + x9_7).toNat) ≤ x9_4 ∧ (K 46 x9_1 x9_2 x9_3 x9_4 x9_6 x9_7 s_w9 rr ss)) ∨ (¬ ((s_w9 77 (x9_6 + x9_7).toNat) ≤ x9_4) ∧ (∃ s_w_15 : PS, ((M_X2_settle s_w9 x9_1 x9_2 x9_7 x9_4 0 s_w_15) ∧ ((Fr intsX [74, 75, 76, 77, 78, 79, 80] [(74, 10)] s_w9 s_w_15) ∧ ((TyX s_w_15) ∧ (K 9 x9_1 x9_2 x9_3 x9_4 x9_6 (x9_7 + (-1)) s_w_15 rr ss)))))))))))))))
def T_X2_want_46 (K : Nat → Int → Int → Int → Int → Int → Int → PS → Int → PS → Prop) (x46_1 x46_2 x46_3 x46_4 x46_6 x46_7 : Int) (s_w46 : PS) (rr : Int) (ss : PS) : Prop := ((TyX s_w46) ∧ (((-2) ≤ x46_1 ∧ x46_1 ≤ 39) ∧ ((0 ≤ x46_2 ∧ x46_2 ≤ 9) ∧ ((0 ≤ x46_3 ∧ x46_3 ≤ 23) ∧ ((0 ≤ x46_6 ∧ x46_6 ≤ 216) ∧ (((-1) ≤ x46_7 ∧ x46_7 ≤ 23) ∧ (K 51 x46_1 x46_2 x46_3 x46_4 x46_6 (x46_3 + 1) s_w46 rr ss)))))))
def T_X2_want_51 (K : Nat → Int → Int → Int → Int → Int → Int → PS → Int → PS → Prop) (x51_1 x51_2 x51_3 x51_4 x51_6 x51_7 : Int) (s_w51 : PS) (rr : Int) (ss : PS) : Prop := ((TyX s_w51) ∧ (((-2) ≤ x51_1 ∧ x51_1 ≤ 39) ∧ ((0 ≤ x51_2 ∧ x51_2 ≤ 9) ∧ ((0 ≤ x51_3 ∧ x51_3 ≤ 23) ∧ ((0 ≤ x51_6 ∧ x51_6 ≤ 216) ∧ ((1 ≤ x51_7 ∧ x51_7 ≤ 24) ∧ (((s_w51 64 2) ≤ x51_7 ∧ (rr = 0 ∧ ss = s_w51)) ∨ (¬ ((s_w51 64 2) ≤ x51_7) ∧ (((s_w51 73 ((x51_6 + x51_7) - 1).toNat) ≤ 0 ∧ (rr = 0 ∧ ss = s_w51)) ∨ (¬ ((s_w51 73 ((x51_6 + x51_7) - 1).toNat) ≤ 0) ∧ (((s_w51 77 (x51_6 + x51_7).toNat) ≤ x51_4 ∧ (rr = 0 ∧ ss = s_w51)) ∨ (¬ ((s_w51 77 (x51_6 + x51_7).toNat) ≤ x51_4) ∧ (∃ s_w_7 : PS, ((M_X2_settle s_w51 x51_1 x51_2 x51_7 x51_4 0 s_w_7) ∧ ((Fr intsX [74, 75, 76, 77, 78, 79, 80] [(74, 10)] s_w51 s_w_7) ∧ ((TyX s_w_7) ∧ (K 51 x51_1 x51_2 x51_3 x51_4 x51_6 (x51_7 + 1) s_w_7 rr ss)))))))))))))))))
def T_X2_want_e (K : Nat → Int → Int → Int → Int → Int → Int → PS → Int → PS → Prop) (s_w : PS) (p1 p2 p3 p4 : Int) (rr : Int) (ss : PS) : Prop := ((TyX s_w) ∧ (((-2) ≤ p1 ∧ p1 ≤ 39) ∧ ((0 ≤ p2 ∧ p2 ≤ 9) ∧ ((0 ≤ p3 ∧ p3 ≤ 23) ∧ (K 9 p1 p2 p3 p4 (p2 * 24) p3 s_w rr ss)))))
def It_X2_want : Nat → Nat → Int → Int → Int → Int → Int → Int → PS → Int → PS → Prop
  | 0, _, _, _, _, _, _, _, _, _, _ => False
  | n + 1, pc, a0, a1, a2, a3, a4, a5, s, r, t => (pc = 9 ∧ T_X2_want_9 (It_X2_want n) a0 a1 a2 a3 a4 a5 s r t) ∨ (pc = 46 ∧ T_X2_want_46 (It_X2_want n) a0 a1 a2 a3 a4 a5 s r t) ∨ (pc = 51 ∧ T_X2_want_51 (It_X2_want n) a0 a1 a2 a3 a4 a5 s r t)
theorem rl_X2_want_9 {n : Nat} {a0 a1 a2 a3 a4 a5 : Int} {s t : PS} {r : Int} (h : T_X2_want_9 (It_X2_want n) a0 a1 a2 a3 a4 a5 s r t) : It_X2_want (n + 1) 9 a0 a1 a2 a3 a4 a5 s r t := Or.inl ⟨rfl, h⟩
theorem rl_X2_want_46 {n : Nat} {a0 a1 a2 a3 a4 a5 : Int} {s t : PS} {r : Int} (h : T_X2_want_46 (It_X2_want n) a0 a1 a2 a3 a4 a5 s r t) : It_X2_want (n + 1) 46 a0 a1 a2 a3 a4 a5 s r t := Or.inr (Or.inl ⟨rfl, h⟩)
theorem rl_X2_want_51 {n : Nat} {a0 a1 a2 a3 a4 a5 : Int} {s t : PS} {r : Int} (h : T_X2_want_51 (It_X2_want n) a0 a1 a2 a3 a4 a5 s r t) : It_X2_want (n + 1) 51 a0 a1 a2 a3 a4 a5 s r t := Or.inr (Or.inr (⟨rfl, h⟩))
theorem ul_X2_want_9 {n : Nat} {a0 a1 a2 a3 a4 a5 : Int} {s t : PS} {r : Int} (h : It_X2_want (n + 1) 9 a0 a1 a2 a3 a4 a5 s r t) : T_X2_want_9 (It_X2_want n) a0 a1 a2 a3 a4 a5 s r t := by
  have h2 : ((9 : Nat) = 9 ∧ T_X2_want_9 (It_X2_want n) a0 a1 a2 a3 a4 a5 s r t) ∨ ((9 : Nat) = 46 ∧ T_X2_want_46 (It_X2_want n) a0 a1 a2 a3 a4 a5 s r t) ∨ ((9 : Nat) = 51 ∧ T_X2_want_51 (It_X2_want n) a0 a1 a2 a3 a4 a5 s r t) := h
  rcases h2 with ⟨e, h2⟩ | ⟨e, h2⟩ | ⟨e, h2⟩
  · exact h2
  · exact absurd e (by decide)
  · exact absurd e (by decide)
theorem ul_X2_want_46 {n : Nat} {a0 a1 a2 a3 a4 a5 : Int} {s t : PS} {r : Int} (h : It_X2_want (n + 1) 46 a0 a1 a2 a3 a4 a5 s r t) : T_X2_want_46 (It_X2_want n) a0 a1 a2 a3 a4 a5 s r t := by
  have h2 : ((46 : Nat) = 9 ∧ T_X2_want_9 (It_X2_want n) a0 a1 a2 a3 a4 a5 s r t) ∨ ((46 : Nat) = 46 ∧ T_X2_want_46 (It_X2_want n) a0 a1 a2 a3 a4 a5 s r t) ∨ ((46 : Nat) = 51 ∧ T_X2_want_51 (It_X2_want n) a0 a1 a2 a3 a4 a5 s r t) := h
  rcases h2 with ⟨e, h2⟩ | ⟨e, h2⟩ | ⟨e, h2⟩
  · exact absurd e (by decide)
  · exact h2
  · exact absurd e (by decide)
theorem ul_X2_want_51 {n : Nat} {a0 a1 a2 a3 a4 a5 : Int} {s t : PS} {r : Int} (h : It_X2_want (n + 1) 51 a0 a1 a2 a3 a4 a5 s r t) : T_X2_want_51 (It_X2_want n) a0 a1 a2 a3 a4 a5 s r t := by
  have h2 : ((51 : Nat) = 9 ∧ T_X2_want_9 (It_X2_want n) a0 a1 a2 a3 a4 a5 s r t) ∨ ((51 : Nat) = 46 ∧ T_X2_want_46 (It_X2_want n) a0 a1 a2 a3 a4 a5 s r t) ∨ ((51 : Nat) = 51 ∧ T_X2_want_51 (It_X2_want n) a0 a1 a2 a3 a4 a5 s r t) := h
  rcases h2 with ⟨e, h2⟩ | ⟨e, h2⟩ | ⟨e, h2⟩
  · exact absurd e (by decide)
  · exact absurd e (by decide)
  · exact h2
def M_X2_want (s : PS) (p1 p2 p3 p4 : Int) (r : Int) (t : PS) : Prop := ∃ n, T_X2_want_e (It_X2_want n) s p1 p2 p3 p4 r t
theorem mk_X2_want {n : Nat} {s t : PS} {p1 p2 p3 p4 : Int} {r : Int} (h : T_X2_want_e (It_X2_want n) s p1 p2 p3 p4 r t) : M_X2_want s p1 p2 p3 p4 r t := ⟨n, h⟩
def T_X2_runQueue_2 (K : Nat → Int → Int → Int → Int → PS → Int → PS → Prop) (x2_1 : Int) (s_w2 : PS) (rr : Int) (ss : PS) : Prop := ((TyX s_w2) ∧ ((0 ≤ x2_1 ∧ x2_1 ≤ 1000001) ∧ ((1000000 ≤ x2_1 ∧ (rr = 0 ∧ ss = s_w2)) ∨ (¬ (1000000 ≤ x2_1) ∧ (((s_w2 74 9) = (s_w2 74 10) ∧ (rr = 0 ∧ ss = s_w2)) ∨ (¬ ((s_w2 74 9) = (s_w2 74 10)) ∧ (∃ s_w_18 : PS, s_w_18 = (us s_w2 74 9 (wi ((s_w2 74 9) + 1))) ∧ (∃ s_w_19 : PS, s_w_19 = (us s_w_18 80 (s_w2 79 (iAnd (s_w2 74 9) 63).toNat).toNat 0) ∧ (K 74 x2_1 (s_w2 79 (iAnd (s_w2 74 9) 63).toNat) (iAnd (s_w2 69 (s_w2 79 (iAnd (s_w2 74 9) 63).toNat).toNat) (iXor (s_w2 70 (s_w2 79 (iAnd (s_w2 74 9) 63).toNat).toNat) (-1))) 0 s_w_19 rr ss)))))))))
def T_X2_runQueue_74 (K : Nat → Int → Int → Int → Int → PS → Int → PS → Prop) (x74_1 x74_2 x74_3 x74_4 : Int) (s_w74 : PS) (rr : Int) (ss : PS) : Prop := ((TyX s_w74) ∧ ((0 ≤ x74_1 ∧ x74_1 ≤ 1000000) ∧ ((0 ≤ x74_2 ∧ x74_2 ≤ 39) ∧ ((0 ≤ x74_4 ∧ x74_4 ≤ 10) ∧ (((s_w74 64 0) ≤ x74_4 ∧ (K 2 (x74_1 + 1) 0 0 0 s_w74 rr ss)) ∨ (¬ ((s_w74 64 0) ≤ x74_4) ∧ (((iAnd (iShr x74_3 x74_4) 1) = 0 ∧ (K 129 x74_1 x74_2 x74_3 x74_4 s_w74 rr ss)) ∨ (¬ ((iAnd (iShr x74_3 x74_4) 1) = 0) ∧ (∃ r_7 : Int, (∃ s_w_6 : PS, ((M_X3_pointsOf s_w74 x74_2 x74_4 r_7 s_w_6) ∧ ((Fr intsX [] [] s_w74 s_w_6) ∧ ((TyX s_w_6) ∧ (∃ s_w_11 : PS, ((M_X2_want s_w_6 x74_2 x74_4 (s_w74 65 x74_2.toNat) (wl ((s_w74 75 x74_2.toNat) - r_7)) 0 s_w_11) ∧ ((Fr intsX [74, 75, 76, 77, 78, 79, 80] [(74, 10)] s_w_6 s_w_11) ∧ ((TyX s_w_11) ∧ (K 129 x74_1 x74_2 x74_3 x74_4 s_w_11 rr ss))))))))))))))))))
def T_X2_runQueue_129 (K : Nat → Int → Int → Int → Int → PS → Int → PS → Prop) (x129_1 x129_2 x129_3 x129_4 : Int) (s_w129 : PS) (rr : Int) (ss : PS) : Prop := ((TyX s_w129) ∧ ((0 ≤ x129_1 ∧ x129_1 ≤ 1000000) ∧ ((0 ≤ x129_2 ∧ x129_2 ≤ 39) ∧ ((0 ≤ x129_4 ∧ x129_4 ≤ 9) ∧ (K 74 x129_1 x129_2 x129_3 (x129_4 + 1) s_w129 rr ss)))))
def T_X2_runQueue_e (K : Nat → Int → Int → Int → Int → PS → Int → PS → Prop) (s_w : PS) (rr : Int) (ss : PS) : Prop := ((TyX s_w) ∧ (K 2 0 0 0 0 s_w rr ss))
def It_X2_runQueue : Nat → Nat → Int → Int → Int → Int → PS → Int → PS → Prop
  | 0, _, _, _, _, _, _, _, _ => False
  | n + 1, pc, a0, a1, a2, a3, s, r, t => (pc = 2 ∧ T_X2_runQueue_2 (It_X2_runQueue n) a0 s r t) ∨ (pc = 74 ∧ T_X2_runQueue_74 (It_X2_runQueue n) a0 a1 a2 a3 s r t) ∨ (pc = 129 ∧ T_X2_runQueue_129 (It_X2_runQueue n) a0 a1 a2 a3 s r t)
theorem rl_X2_runQueue_2 {n : Nat} {a0 : Int} {s t : PS} {r : Int} (h : T_X2_runQueue_2 (It_X2_runQueue n) a0 s r t) : It_X2_runQueue (n + 1) 2 a0 0 0 0 s r t := Or.inl ⟨rfl, h⟩
theorem rl_X2_runQueue_74 {n : Nat} {a0 a1 a2 a3 : Int} {s t : PS} {r : Int} (h : T_X2_runQueue_74 (It_X2_runQueue n) a0 a1 a2 a3 s r t) : It_X2_runQueue (n + 1) 74 a0 a1 a2 a3 s r t := Or.inr (Or.inl ⟨rfl, h⟩)
theorem rl_X2_runQueue_129 {n : Nat} {a0 a1 a2 a3 : Int} {s t : PS} {r : Int} (h : T_X2_runQueue_129 (It_X2_runQueue n) a0 a1 a2 a3 s r t) : It_X2_runQueue (n + 1) 129 a0 a1 a2 a3 s r t := Or.inr (Or.inr (⟨rfl, h⟩))
theorem ul_X2_runQueue_2 {n : Nat} {a0 a1 a2 a3 : Int} {s t : PS} {r : Int} (h : It_X2_runQueue (n + 1) 2 a0 a1 a2 a3 s r t) : T_X2_runQueue_2 (It_X2_runQueue n) a0 s r t := by
  have h2 : ((2 : Nat) = 2 ∧ T_X2_runQueue_2 (It_X2_runQueue n) a0 s r t) ∨ ((2 : Nat) = 74 ∧ T_X2_runQueue_74 (It_X2_runQueue n) a0 a1 a2 a3 s r t) ∨ ((2 : Nat) = 129 ∧ T_X2_runQueue_129 (It_X2_runQueue n) a0 a1 a2 a3 s r t) := h
  rcases h2 with ⟨e, h2⟩ | ⟨e, h2⟩ | ⟨e, h2⟩
  · exact h2
  · exact absurd e (by decide)
  · exact absurd e (by decide)
theorem ul_X2_runQueue_74 {n : Nat} {a0 a1 a2 a3 : Int} {s t : PS} {r : Int} (h : It_X2_runQueue (n + 1) 74 a0 a1 a2 a3 s r t) : T_X2_runQueue_74 (It_X2_runQueue n) a0 a1 a2 a3 s r t := by
  have h2 : ((74 : Nat) = 2 ∧ T_X2_runQueue_2 (It_X2_runQueue n) a0 s r t) ∨ ((74 : Nat) = 74 ∧ T_X2_runQueue_74 (It_X2_runQueue n) a0 a1 a2 a3 s r t) ∨ ((74 : Nat) = 129 ∧ T_X2_runQueue_129 (It_X2_runQueue n) a0 a1 a2 a3 s r t) := h
  rcases h2 with ⟨e, h2⟩ | ⟨e, h2⟩ | ⟨e, h2⟩
  · exact absurd e (by decide)
  · exact h2
  · exact absurd e (by decide)
theorem ul_X2_runQueue_129 {n : Nat} {a0 a1 a2 a3 : Int} {s t : PS} {r : Int} (h : It_X2_runQueue (n + 1) 129 a0 a1 a2 a3 s r t) : T_X2_runQueue_129 (It_X2_runQueue n) a0 a1 a2 a3 s r t := by
  have h2 : ((129 : Nat) = 2 ∧ T_X2_runQueue_2 (It_X2_runQueue n) a0 s r t) ∨ ((129 : Nat) = 74 ∧ T_X2_runQueue_74 (It_X2_runQueue n) a0 a1 a2 a3 s r t) ∨ ((129 : Nat) = 129 ∧ T_X2_runQueue_129 (It_X2_runQueue n) a0 a1 a2 a3 s r t) := h
  rcases h2 with ⟨e, h2⟩ | ⟨e, h2⟩ | ⟨e, h2⟩
  · exact absurd e (by decide)
  · exact absurd e (by decide)
  · exact h2
def M_X2_runQueue (s : PS) (r : Int) (t : PS) : Prop := ∃ n, T_X2_runQueue_e (It_X2_runQueue n) s r t
theorem mk_X2_runQueue {n : Nat} {s t : PS} {r : Int} (h : T_X2_runQueue_e (It_X2_runQueue n) s r t) : M_X2_runQueue s r t := ⟨n, h⟩
def T_J7_fill_53178_80_5 (K : Int → Int → Int → PS → Int → PS → Prop) (x5_1 x5_2 x5_3 : Int) (s_w5 : PS) (rr : Int) (ss : PS) : Prop := ((TyX s_w5) ∧ ((0 ≤ x5_1 ∧ x5_1 ≤ 0) ∧ ((0 ≤ x5_2 ∧ x5_2 ≤ 40) ∧ ((40 ≤ x5_3 ∧ x5_3 ≤ 40) ∧ ((x5_3 ≤ x5_2 ∧ (rr = 0 ∧ ss = s_w5)) ∨ (¬ (x5_3 ≤ x5_2) ∧ (∃ s_w_2 : PS, s_w_2 = (us s_w5 80 x5_2.toNat x5_1) ∧ (K x5_1 (x5_2 + 1) x5_3 s_w_2 rr ss))))))))
def T_J7_fill_53178_80_e (K : Int → Int → Int → PS → Int → PS → Prop) (s_w : PS) (p1 : Int) (rr : Int) (ss : PS) : Prop := ((TyX s_w) ∧ ((0 ≤ p1 ∧ p1 ≤ 0) ∧ (K p1 0 40 s_w rr ss)))
def It_J7_fill_53178_80 : Nat → Int → Int → Int → PS → Int → PS → Prop
  | 0, _, _, _, _, _, _ => False
  | n + 1, a0, a1, a2, s, r, t => T_J7_fill_53178_80_5 (It_J7_fill_53178_80 n) a0 a1 a2 s r t
theorem rl_J7_fill_53178_80_5 {n : Nat} {a0 a1 a2 : Int} {s t : PS} {r : Int} (h : T_J7_fill_53178_80_5 (It_J7_fill_53178_80 n) a0 a1 a2 s r t) : It_J7_fill_53178_80 (n + 1) a0 a1 a2 s r t := h
theorem ul_J7_fill_53178_80_5 {n : Nat} {a0 a1 a2 : Int} {s t : PS} {r : Int} (h : It_J7_fill_53178_80 (n + 1) a0 a1 a2 s r t) : T_J7_fill_53178_80_5 (It_J7_fill_53178_80 n) a0 a1 a2 s r t := h
def M_J7_fill_53178_80 (s : PS) (p1 : Int) (r : Int) (t : PS) : Prop := ∃ n, T_J7_fill_53178_80_e (It_J7_fill_53178_80 n) s p1 r t
theorem mk_J7_fill_53178_80 {n : Nat} {s t : PS} {p1 : Int} {r : Int} (h : T_J7_fill_53178_80_e (It_J7_fill_53178_80 n) s p1 r t) : M_J7_fill_53178_80 s p1 r t := ⟨n, h⟩
def T_X2_startQueue_e (s_w : PS) (rr : Int) (ss : PS) : Prop := ((TyX s_w) ∧ (∃ s_w_1 : PS, s_w_1 = (us s_w 74 9 0) ∧ (∃ s_w_2 : PS, s_w_2 = (us s_w_1 74 10 0) ∧ (∃ s_w_3 : PS, ((M_J7_fill_53178_80 s_w_2 0 0 s_w_3) ∧ ((Fr intsX [80] [] s_w_2 s_w_3) ∧ ((TyX s_w_3) ∧ (rr = 0 ∧ ss = s_w_3))))))))
def M_X2_startQueue (s : PS) (r : Int) (t : PS) : Prop := T_X2_startQueue_e s r t
theorem mk_X2_startQueue {s t : PS} {r : Int} (h : T_X2_startQueue_e s r t) : M_X2_startQueue s r t := h
def T_X2_serves_103 (K : Int → Int → Int → PS → Int → PS → Prop) (x103_1 x103_2 x103_3 : Int) (s_w103 : PS) (rr : Int) (ss : PS) : Prop := ((TyX s_w103) ∧ ((0 ≤ x103_1 ∧ x103_1 ≤ 39) ∧ (((-1) ≤ x103_2 ∧ x103_2 ≤ (-1)) ∧ (((-1) ≤ x103_3 ∧ x103_3 ≤ 39) ∧ ((x103_3 = (-1) ∧ (rr = 0 ∧ ss = s_w103)) ∨ (¬ (x103_3 = (-1)) ∧ (rr = 1 ∧ ss = s_w103)))))))
def T_X2_serves_e (K : Int → Int → Int → PS → Int → PS → Prop) (s_w : PS) (p1 : Int) (rr : Int) (ss : PS) : Prop := ((TyX s_w) ∧ ((0 ≤ p1 ∧ p1 ≤ 39) ∧ (∃ s_w_2 : PS, ((M_J7_fill_d0a16_75 s_w 1152921504606846976 0 s_w_2) ∧ ((Fr intsX [75] [] s_w s_w_2) ∧ ((TyX s_w_2) ∧ (∃ s_w_6 : PS, ((M_J7_fill_d0a16_77 s_w_2 1152921504606846976 0 s_w_6) ∧ ((Fr intsX [77] [] s_w_2 s_w_6) ∧ ((TyX s_w_6) ∧ (∃ s_w_10 : PS, ((M_X2_startQueue s_w_6 0 s_w_10) ∧ ((Fr intsX [74, 80] [(74, 9), (74, 10)] s_w_6 s_w_10) ∧ ((TyX s_w_10) ∧ (∃ s_w_14 : PS, s_w_14 = (us s_w_10 75 p1.toNat 0) ∧ (∃ s_w_15 : PS, ((M_X2_enqueue s_w_14 p1 0 s_w_15) ∧ ((Fr intsX [74, 79, 80] [(74, 10)] s_w_14 s_w_15) ∧ ((TyX s_w_15) ∧ (∃ s_w_19 : PS, ((M_X2_runQueue s_w_15 0 s_w_19) ∧ ((Fr intsX [74, 75, 76, 77, 78, 79, 80] [(74, 9), (74, 10)] s_w_15 s_w_19) ∧ ((TyX s_w_19) ∧ (∃ r_24 : Int, (∃ s_w_23 : PS, ((M_X2_cheapestLeft s_w_19 r_24 s_w_23) ∧ ((Fr intsX [] [] s_w_19 s_w_23) ∧ ((TyX s_w_23) ∧ (((-1) ≤ r_24 ∧ r_24 ≤ 9) ∧ ((r_24 = (-1) ∧ (∃ r_29 : Int, (∃ s_w_28 : PS, ((M_X2_cheapestLoser s_w_23 r_29 s_w_28) ∧ ((Fr intsX [] [] s_w_23 s_w_28) ∧ ((TyX s_w_28) ∧ (((-1) ≤ r_29 ∧ r_29 ≤ 39) ∧ ((r_29 = (-1) ∧ (K p1 r_24 r_29 s_w_28 rr ss)) ∨ (¬ (r_29 = (-1)) ∧ (∃ s_w_33 : PS, ((M_X2_change s_w_28 p1 r_29 0 s_w_33) ∧ ((Fr intsX [70, 71, 73] [] s_w_28 s_w_33) ∧ ((TyX s_w_33) ∧ (K p1 r_24 r_29 s_w_33 rr ss)))))))))))))) ∨ (¬ (r_24 = (-1)) ∧ (∃ s_w_37 : PS, ((M_X3_take s_w_23 (s_w_19 78 (((r_24 * 24) + (s_w 64 2)) - 1).toNat) r_24 0 s_w_37) ∧ ((Fr intsX [70, 71, 73] [] s_w_23 s_w_37) ∧ ((TyX s_w_37) ∧ (∃ s_w_40 : PS, ((M_X2_change s_w_37 p1 (s_w_19 78 (((r_24 * 24) + (s_w 64 2)) - 1).toNat) 0 s_w_40) ∧ ((Fr intsX [70, 71, 73] [] s_w_37 s_w_40) ∧ ((TyX s_w_40) ∧ (rr = 1 ∧ ss = s_w_40))))))))))))))))))))))))))))))))))))))))
def It_X2_serves : Nat → Int → Int → Int → PS → Int → PS → Prop
  | 0, _, _, _, _, _, _ => False
  | n + 1, a0, a1, a2, s, r, t => T_X2_serves_103 (It_X2_serves n) a0 a1 a2 s r t
theorem rl_X2_serves_103 {n : Nat} {a0 a1 a2 : Int} {s t : PS} {r : Int} (h : T_X2_serves_103 (It_X2_serves n) a0 a1 a2 s r t) : It_X2_serves (n + 1) a0 a1 a2 s r t := h
theorem ul_X2_serves_103 {n : Nat} {a0 a1 a2 : Int} {s t : PS} {r : Int} (h : It_X2_serves (n + 1) a0 a1 a2 s r t) : T_X2_serves_103 (It_X2_serves n) a0 a1 a2 s r t := h
def M_X2_serves (s : PS) (p1 : Int) (r : Int) (t : PS) : Prop := ∃ n, T_X2_serves_e (It_X2_serves n) s p1 r t
theorem mk_X2_serves {n : Nat} {s t : PS} {p1 : Int} {r : Int} (h : T_X2_serves_e (It_X2_serves n) s p1 r t) : M_X2_serves s p1 r t := ⟨n, h⟩
