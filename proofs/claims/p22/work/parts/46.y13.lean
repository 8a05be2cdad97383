def T_X12_given_51 (K : Nat → Int → Int → Int → Int → Int → PS → Int → PS → Prop) (x51_1 x51_2 x51_3 : Int) (s_w51 : PS) (rr : Int) (ss : PS) : Prop := ((TyM s_w51) ∧ ((0 ≤ x51_3 ∧ x51_3 ≤ 40) ∧ (((s_w51 0 69) ≤ x51_3 ∧ (rr = x51_2 ∧ ss = s_w51)) ∨ (¬ ((s_w51 0 69) ≤ x51_3) ∧ (∃ r_5 : Int, (∃ s_w_4 : PS, ((M_X12_bits s_w51 (s_w51 52 x51_3.toNat) r_5 s_w_4) ∧ ((Fr intsM [] [] s_w51 s_w_4) ∧ ((TyM s_w_4) ∧ ((r_5 < (s_w51 47 x51_3.toNat) ∧ (K 83 x51_1 x51_2 x51_3 0 x51_2 s_w_4 rr ss)) ∨ (¬ (r_5 < (s_w51 47 x51_3.toNat)) ∧ (K 83 x51_1 x51_2 x51_3 1 x51_2 s_w_4 rr ss))))))))))))
def T_X12_given_83 (K : Nat → Int → Int → Int → Int → Int → PS → Int → PS → Prop) (x83_1 x83_2 x83_3 y83_0 y83_1 : Int) (s_w83 : PS) (rr : Int) (ss : PS) : Prop := ((TyM s_w83) ∧ ((0 ≤ x83_3 ∧ x83_3 ≤ 39) ∧ ((0 ≤ y83_0 ∧ y83_0 ≤ 1) ∧ (K 51 x83_1 (wi (y83_1 + y83_0)) (x83_3 + 1) 0 0 s_w83 rr ss))))
def T_X12_given_95 (K : Nat → Int → Int → Int → Int → Int → PS → Int → PS → Prop) (x95_1 x95_2 x95_3 : Int) (s_w95 : PS) (rr : Int) (ss : PS) : Prop := ((TyM s_w95) ∧ ((0 ≤ x95_3 ∧ x95_3 ≤ 40) ∧ (((s_w95 0 69) ≤ x95_3 ∧ (rr = x95_2 ∧ ss = s_w95)) ∨ (¬ ((s_w95 0 69) ≤ x95_3) ∧ (∃ r_13 : Int, (∃ s_w_12 : PS, ((M_X12_bits s_w95 (s_w95 52 x95_3.toNat) r_13 s_w_12) ∧ ((Fr intsM [] [] s_w95 s_w_12) ∧ ((TyM s_w_12) ∧ (K 95 x95_1 (wi (x95_2 + (wi ((s_w95 47 x95_3.toNat) - r_13)))) (x95_3 + 1) 0 0 s_w_12 rr ss))))))))))
def T_X12_given_132 (K : Nat → Int → Int → Int → Int → Int → PS → Int → PS → Prop) (x132_1 x132_2 x132_3 : Int) (s_w132 : PS) (rr : Int) (ss : PS) : Prop := ((TyM s_w132) ∧ ((0 ≤ x132_3 ∧ x132_3 ≤ 10) ∧ (((s_w132 2 (s_w132 0 12).toNat) ≤ x132_3 ∧ (rr = x132_2 ∧ ss = s_w132)) ∨ (¬ ((s_w132 2 (s_w132 0 12).toNat) ≤ x132_3) ∧ (K 132 x132_1 (wi (x132_2 + (s_w132 54 x132_3.toNat))) (x132_3 + 1) 0 0 s_w132 rr ss)))))
def T_X12_given_e (K : Nat → Int → Int → Int → Int → Int → PS → Int → PS → Prop) (s_w : PS) (p1 : Int) (rr : Int) (ss : PS) : Prop := ((TyM s_w) ∧ (((s_w 0 68) = 0 ∧ (rr = (-1) ∧ ss = s_w)) ∨ (¬ ((s_w 0 68) = 0) ∧ ((p1 = 0 ∧ (rr = (s_w 0 79) ∧ ss = s_w)) ∨ (¬ (p1 = 0) ∧ ((p1 = 1 ∧ (K 51 p1 0 0 0 0 s_w rr ss)) ∨ (¬ (p1 = 1) ∧ ((p1 = 2 ∧ (K 95 p1 0 0 0 0 s_w rr ss)) ∨ (¬ (p1 = 2) ∧ ((p1 = 3 ∧ (K 132 p1 0 0 0 0 s_w rr ss)) ∨ (¬ (p1 = 3) ∧ (rr = (-1) ∧ ss = s_w))))))))))))
def It_X12_given : Nat → Nat → Int → Int → Int → Int → Int → PS → Int → PS → Prop
  | 0, _, _, _, _, _, _, _, _, _ => False
  | n + 1, pc, a0, a1, a2, a3, a4, s, r, t => (pc = 51 ∧ T_X12_given_51 (It_X12_given n) a0 a1 a2 s r t) ∨ (pc = 83 ∧ T_X12_given_83 (It_X12_given n) a0 a1 a2 a3 a4 s r t) ∨ (pc = 95 ∧ T_X12_given_95 (It_X12_given n) a0 a1 a2 s r t) ∨ (pc = 132 ∧ T_X12_given_132 (It_X12_given n) a0 a1 a2 s r t)
theorem rl_X12_given_51 {n : Nat} {a0 a1 a2 : Int} {s t : PS} {r : Int} (h : T_X12_given_51 (It_X12_given n) a0 a1 a2 s r t) : It_X12_given (n + 1) 51 a0 a1 a2 0 0 s r t := Or.inl ⟨rfl, h⟩
theorem rl_X12_given_83 {n : Nat} {a0 a1 a2 a3 a4 : Int} {s t : PS} {r : Int} (h : T_X12_given_83 (It_X12_given n) a0 a1 a2 a3 a4 s r t) : It_X12_given (n + 1) 83 a0 a1 a2 a3 a4 s r t := Or.inr (Or.inl ⟨rfl, h⟩)
theorem rl_X12_given_95 {n : Nat} {a0 a1 a2 : Int} {s t : PS} {r : Int} (h : T_X12_given_95 (It_X12_given n) a0 a1 a2 s r t) : It_X12_given (n + 1) 95 a0 a1 a2 0 0 s r t := Or.inr (Or.inr (Or.inl ⟨rfl, h⟩))
theorem rl_X12_given_132 {n : Nat} {a0 a1 a2 : Int} {s t : PS} {r : Int} (h : T_X12_given_132 (It_X12_given n) a0 a1 a2 s r t) : It_X12_given (n + 1) 132 a0 a1 a2 0 0 s r t := Or.inr (Or.inr (Or.inr (⟨rfl, h⟩)))
theorem ul_X12_given_51 {n : Nat} {a0 a1 a2 a3 a4 : Int} {s t : PS} {r : Int} (h : It_X12_given (n + 1) 51 a0 a1 a2 a3 a4 s r t) : T_X12_given_51 (It_X12_given n) a0 a1 a2 s r t := by
  have h2 : ((51 : Nat) = 51 ∧ T_X12_given_51 (It_X12_given n) a0 a1 a2 s r t) ∨ ((51 : Nat) = 83 ∧ T_X12_given_83 (It_X12_given n) a0 a1 a2 a3 a4 s r t) ∨ ((51 : Nat) = 95 ∧ T_X12_given_95 (It_X12_given n) a0 a1 a2 s r t) ∨ ((51 : Nat) = 132 ∧ T_X12_given_132 (It_X12_given n) a0 a1 a2 s r t) := h
  rcases h2 with ⟨e, h2⟩ | ⟨e, h2⟩ | ⟨e, h2⟩ | ⟨e, h2⟩
  · exact h2
  · exact absurd e (by decide)
  · exact absurd e (by decide)
  · exact absurd e (by decide)
theorem ul_X12_given_83 {n : Nat} {a0 a1 a2 a3 a4 : Int} {s t : PS} {r : Int} (h : It_X12_given (n + 1) 83 a0 a1 a2 a3 a4 s r t) : T_X12_given_83 (It_X12_given n) a0 a1 a2 a3 a4 s r t := by
  have h2 : ((83 : Nat) = 51 ∧ T_X12_given_51 (It_X12_given n) a0 a1 a2 s r t) ∨ ((83 : Nat) = 83 ∧ T_X12_given_83 (It_X12_given n) a0 a1 a2 a3 a4 s r t) ∨ ((83 : Nat) = 95 ∧ T_X12_given_95 (It_X12_given n) a0 a1 a2 s r t) ∨ ((83 : Nat) = 132 ∧ T_X12_given_132 (It_X12_given n) a0 a1 a2 s r t) := h
  rcases h2 with ⟨e, h2⟩ | ⟨e, h2⟩ | ⟨e, h2⟩ | ⟨e, h2⟩
  · exact absurd e (by decide)
  · exact h2
  · exact absurd e (by decide)
  · exact absurd e (by decide)
theorem ul_X12_given_95 {n : Nat} {a0 a1 a2 a3 a4 : Int} {s t : PS} {r : Int} (h : It_X12_given (n + 1) 95 a0 a1 a2 a3 a4 s r t) : T_X12_given_95 (It_X12_given n) a0 a1 a2 s r t := by
  have h2 : ((95 : Nat) = 51 ∧ T_X12_given_51 (It_X12_given n) a0 a1 a2 s r t) ∨ ((95 : Nat) = 83 ∧ T_X12_given_83 (It_X12_given n) a0 a1 a2 a3 a4 s r t) ∨ ((95 : Nat) = 95 ∧ T_X12_given_95 (It_X12_given n) a0 a1 a2 s r t) ∨ ((95 : Nat) = 132 ∧ T_X12_given_132 (It_X12_given n) a0 a1 a2 s r t) := h
  rcases h2 with ⟨e, h2⟩ | ⟨e, h2⟩ | ⟨e, h2⟩ | ⟨e, h2⟩
  · exact absurd e (by decide)
  · exact absurd e (by decide)
  · exact h2
  · exact absurd e (by decide)
theorem ul_X12_given_132 {n : Nat} {a0 a1 a2 a3 a4 : Int} {s t : PS} {r : Int} (h : It_X12_given (n + 1) 132 a0 a1 a2 a3 a4 s r t) : T_X12_given_132 (It_X12_given n) a0 a1 a2 s r t := by
  have h2 : ((132 : Nat) = 51 ∧ T_X12_given_51 (It_X12_given n) a0 a1 a2 s r t) ∨ ((132 : Nat) = 83 ∧ T_X12_given_83 (It_X12_given n) a0 a1 a2 a3 a4 s r t) ∨ ((132 : Nat) = 95 ∧ T_X12_given_95 (It_X12_given n) a0 a1 a2 s r t) ∨ ((132 : Nat) = 132 ∧ T_X12_given_132 (It_X12_given n) a0 a1 a2 s r t) := h
  rcases h2 with ⟨e, h2⟩ | ⟨e, h2⟩ | ⟨e, h2⟩ | ⟨e, h2⟩
  · exact absurd e (by decide)
  · exact absurd e (by decide)
  · exact absurd e (by decide)
  · exact h2
def M_X12_given (s : PS) (p1 : Int) (r : Int) (t : PS) : Prop := ∃ n, T_X12_given_e (It_X12_given n) s p1 r t
theorem mk_X12_given {n : Nat} {s t : PS} {p1 : Int} {r : Int} (h : T_X12_given_e (It_X12_given n) s p1 r t) : M_X12_given s p1 r t := ⟨n, h⟩
def T_X12_was_e (s_w : PS) (p1 : Int) (rr : Int) (ss : PS) : Prop := ((TyM s_w) ∧ (((s_w 0 68) = 0 ∧ (rr = 0 ∧ ss = s_w)) ∨ (¬ ((s_w 0 68) = 0) ∧ ((p1 < 0 ∧ (rr = 0 ∧ ss = s_w)) ∨ (¬ (p1 < 0) ∧ (((s_w 0 69) ≤ p1 ∧ (rr = 0 ∧ ss = s_w)) ∨ (¬ ((s_w 0 69) ≤ p1) ∧ (rr = 1 ∧ ss = s_w))))))))
def M_X12_was (s : PS) (p1 : Int) (r : Int) (t : PS) : Prop := T_X12_was_e s p1 r t
theorem mk_X12_was {s t : PS} {p1 : Int} {r : Int} (h : T_X12_was_e s p1 r t) : M_X12_was s p1 r t := h
def T_X12_gets_e (s_w : PS) (p1 : Int) (rr : Int) (ss : PS) : Prop := ((TyM s_w) ∧ (∃ r_2 : Int, (∃ s_w_1 : PS, ((M_X12_was s_w p1 r_2 s_w_1) ∧ ((Fr intsM [] [] s_w s_w_1) ∧ ((TyM s_w_1) ∧ ((0 ≤ r_2 ∧ r_2 ≤ 1) ∧ ((r_2 = 0 ∧ (rr = (-1) ∧ ss = s_w_1)) ∨ (¬ (r_2 = 0) ∧ (rr = (s_w 53 p1.toNat) ∧ ss = s_w_1))))))))))
def M_X12_gets (s : PS) (p1 : Int) (r : Int) (t : PS) : Prop := T_X12_gets_e s p1 r t
theorem mk_X12_gets {s t : PS} {p1 : Int} {r : Int} (h : T_X12_gets_e s p1 r t) : M_X12_gets s p1 r t := h
def T_X12_left_e (s_w : PS) (p1 : Int) (rr : Int) (ss : PS) : Prop := ((TyM s_w) ∧ (((s_w 0 68) = 0 ∧ (rr = (-1) ∧ ss = s_w)) ∨ (¬ ((s_w 0 68) = 0) ∧ (∃ r_3 : Int, (∃ s_w_2 : PS, ((M_X12_isKind s_w p1 r_3 s_w_2) ∧ ((Fr intsM [] [] s_w s_w_2) ∧ ((TyM s_w_2) ∧ ((0 ≤ r_3 ∧ r_3 ≤ 1) ∧ ((r_3 = 0 ∧ (rr = (-1) ∧ ss = s_w_2)) ∨ (¬ (r_3 = 0) ∧ (rr = (s_w 54 p1.toNat) ∧ ss = s_w_2))))))))))))
def M_X12_left (s : PS) (p1 : Int) (r : Int) (t : PS) : Prop := T_X12_left_e s p1 r t
theorem mk_X12_left {s t : PS} {p1 : Int} {r : Int} (h : T_X12_left_e s p1 r t) : M_X12_left s p1 r t := h
def T_X12_blindDay_7 (K : Nat → Int → Int → Int → Int → Int → PS → Int → PS → Prop) (x7_1 x7_2 : Int) (s_w7 : PS) (rr : Int) (ss : PS) : Prop := ((TyM s_w7) ∧ ((1 ≤ x7_1 ∧ x7_1 ≤ 24) ∧ ((0 ≤ x7_2 ∧ x7_2 ≤ 400) ∧ ((400 ≤ x7_2 ∧ (K 29 x7_1 0 0 0 0 s_w7 rr ss)) ∨ (¬ (400 ≤ x7_2) ∧ (∃ s_w_61 : PS, s_w_61 = (us s_w7 44 x7_2.toNat (-1)) ∧ (K 7 x7_1 (x7_2 + 1) 0 0 0 s_w_61 rr ss)))))))
def T_X12_blindDay_29 (K : Nat → Int → Int → Int → Int → Int → PS → Int → PS → Prop) (x29_1 x29_2 : Int) (s_w29 : PS) (rr : Int) (ss : PS) : Prop := ((TyM s_w29) ∧ ((1 ≤ x29_1 ∧ x29_1 ≤ 24) ∧ ((0 ≤ x29_2 ∧ x29_2 ≤ 10) ∧ (((s_w29 2 (s_w29 0 12).toNat) ≤ x29_2 ∧ (K 86 x29_1 0 0 0 0 s_w29 rr ss)) ∨ (¬ ((s_w29 2 (s_w29 0 12).toNat) ≤ x29_2) ∧ (∃ s_w_52 : PS, s_w_52 = (us s_w29 55 x29_2.toNat (wi ((s_w29 55 x29_2.toNat) + (s_w29 46 ((25 * x29_2) + x29_1).toNat)))) ∧ (∃ r_54 : Int, (∃ s_w_53 : PS, ((M_X12_lane s_w_52 0 (2 + x29_2) (wi ((s_w29 55 x29_2.toNat) + (s_w29 46 ((25 * x29_2) + x29_1).toNat))) 0 r_54 s_w_53) ∧ ((Fr intsM [0, 38, 39, 40, 41] [(0, 62)] s_w_52 s_w_53) ∧ ((TyM s_w_53) ∧ ((0 ≤ r_54 ∧ r_54 ≤ 2198) ∧ (K 29 x29_1 (x29_2 + 1) 0 0 0 s_w_53 rr ss)))))))))))))
def T_X12_blindDay_86 (K : Nat → Int → Int → Int → Int → Int → PS → Int → PS → Prop) (x86_1 x86_2 : Int) (s_w86 : PS) (rr : Int) (ss : PS) : Prop := ((TyM s_w86) ∧ ((1 ≤ x86_1 ∧ x86_1 ≤ 24) ∧ ((0 ≤ x86_2 ∧ x86_2 ≤ 40) ∧ (((s_w86 0 45) ≤ x86_2 ∧ (∃ s_w_31 : PS, ((M_X12_settles s_w86 0 s_w_31) ∧ ((Fr intsM [40, 42, 43, 45] [] s_w86 s_w_31) ∧ ((TyM s_w_31) ∧ (K 200 x86_1 0 0 0 0 s_w_31 rr ss)))))) ∨ (¬ ((s_w86 0 45) ≤ x86_2) ∧ (((s_w86 32 x86_2.toNat) = x86_1 ∧ (∃ r_37 : Int, (∃ s_w_36 : PS, ((M_X12_due s_w86 x86_2 r_37 s_w_36) ∧ ((Fr intsM [37] [] s_w86 s_w_36) ∧ ((TyM s_w_36) ∧ (∃ r_41 : Int, (∃ s_w_40 : PS, ((M_X12_lane s_w_36 (242 + x86_2) 1 r_37 0 r_41 s_w_40) ∧ ((Fr intsM [0, 38, 39, 40, 41] [(0, 62)] s_w_36 s_w_40) ∧ ((TyM s_w_40) ∧ ((0 ≤ r_41 ∧ r_41 ≤ 2198) ∧ (K 126 x86_1 x86_2 0 0 0 s_w_40 rr ss))))))))))))) ∨ (¬ ((s_w86 32 x86_2.toNat) = x86_1) ∧ (K 186 x86_1 x86_2 0 0 0 s_w86 rr ss))))))))
def T_X12_blindDay_126 (K : Nat → Int → Int → Int → Int → Int → PS → Int → PS → Prop) (x126_1 x126_2 x126_3 : Int) (s_w126 : PS) (rr : Int) (ss : PS) : Prop := ((TyM s_w126) ∧ ((1 ≤ x126_1 ∧ x126_1 ≤ 24) ∧ ((0 ≤ x126_2 ∧ x126_2 ≤ 39) ∧ ((0 ≤ x126_3 ∧ x126_3 ≤ 10) ∧ (((s_w126 2 (s_w126 0 12).toNat) ≤ x126_3 ∧ (K 186 x126_1 x126_2 0 0 0 s_w126 rr ss)) ∨ (¬ ((s_w126 2 (s_w126 0 12).toNat) ≤ x126_3) ∧ (∃ r_14 : Int, (∃ s_w_13 : PS, ((M_X12_mayGet s_w126 x126_2 x126_3 r_14 s_w_13) ∧ ((Fr intsM [37] [] s_w126 s_w_13) ∧ ((TyM s_w_13) ∧ ((0 ≤ r_14 ∧ r_14 ≤ 1) ∧ ((r_14 = 0 ∧ (K 180 x126_1 x126_2 x126_3 0 0 s_w_13 rr ss)) ∨ (¬ (r_14 = 0) ∧ (∃ r_18 : Int, (∃ s_w_17 : PS, ((M_X12_pointsOf s_w_13 x126_2 x126_3 r_18 s_w_17) ∧ ((Fr intsM [37] [] s_w_13 s_w_17) ∧ ((TyM s_w_17) ∧ (∃ r_23 : Int, (∃ s_w_22 : PS, ((M_X12_lane s_w_17 (2 + x126_3) (242 + x126_2) 1 (wi (-r_18)) r_23 s_w_22) ∧ ((Fr intsM [0, 38, 39, 40, 41] [(0, 62)] s_w_17 s_w_22) ∧ ((TyM s_w_22) ∧ ((0 ≤ r_23 ∧ r_23 ≤ 2198) ∧ (∃ s_w_29 : PS, s_w_29 = (us s_w_22 44 ((10 * x126_2) + x126_3).toNat r_23) ∧ (K 180 x126_1 x126_2 x126_3 0 0 s_w_29 rr ss)))))))))))))))))))))))))))
def T_X12_blindDay_180 (K : Nat → Int → Int → Int → Int → Int → PS → Int → PS → Prop) (x180_1 x180_2 x180_3 : Int) (s_w180 : PS) (rr : Int) (ss : PS) : Prop := ((TyM s_w180) ∧ ((1 ≤ x180_1 ∧ x180_1 ≤ 24) ∧ ((0 ≤ x180_2 ∧ x180_2 ≤ 39) ∧ ((0 ≤ x180_3 ∧ x180_3 ≤ 9) ∧ (K 126 x180_1 x180_2 (x180_3 + 1) 0 0 s_w180 rr ss)))))
def T_X12_blindDay_186 (K : Nat → Int → Int → Int → Int → Int → PS → Int → PS → Prop) (x186_1 x186_2 : Int) (s_w186 : PS) (rr : Int) (ss : PS) : Prop := ((TyM s_w186) ∧ ((1 ≤ x186_1 ∧ x186_1 ≤ 24) ∧ ((0 ≤ x186_2 ∧ x186_2 ≤ 39) ∧ (K 86 x186_1 (x186_2 + 1) 0 0 0 s_w186 rr ss))))
def T_X12_blindDay_200 (K : Nat → Int → Int → Int → Int → Int → PS → Int → PS → Prop) (x200_1 x200_2 x200_3 : Int) (s_w200 : PS) (rr : Int) (ss : PS) : Prop := ((TyM s_w200) ∧ ((1 ≤ x200_1 ∧ x200_1 ≤ 24) ∧ ((0 ≤ x200_3 ∧ x200_3 ≤ 40) ∧ (((s_w200 0 45) ≤ x200_3 ∧ (rr = x200_2 ∧ ss = s_w200)) ∨ (¬ ((s_w200 0 45) ≤ x200_3) ∧ (((s_w200 32 x200_3.toNat) = x200_1 ∧ (K 227 x200_1 x200_2 x200_3 0 0 s_w200 rr ss)) ∨ (¬ ((s_w200 32 x200_3.toNat) = x200_1) ∧ (K 284 x200_1 x200_2 x200_3 0 0 s_w200 rr ss))))))))
def T_X12_blindDay_227 (K : Nat → Int → Int → Int → Int → Int → PS → Int → PS → Prop) (x227_1 x227_2 x227_3 x227_4 x227_5 : Int) (s_w227 : PS) (rr : Int) (ss : PS) : Prop := ((TyM s_w227) ∧ ((1 ≤ x227_1 ∧ x227_1 ≤ 24) ∧ ((0 ≤ x227_3 ∧ x227_3 ≤ 39) ∧ ((0 ≤ x227_5 ∧ x227_5 ≤ 10) ∧ (((s_w227 2 (s_w227 0 12).toNat) ≤ x227_5 ∧ (K 284 x227_1 (wi (x227_2 + x227_4)) x227_3 0 0 s_w227 rr ss)) ∨ (¬ ((s_w227 2 (s_w227 0 12).toNat) ≤ x227_5) ∧ (((s_w227 45 ((10 * x227_3) + x227_5).toNat) = 0 ∧ (K 273 x227_1 x227_2 x227_3 x227_4 x227_5 s_w227 rr ss)) ∨ (¬ ((s_w227 45 ((10 * x227_3) + x227_5).toNat) = 0) ∧ (∃ s_w_7 : PS, s_w_7 = (us s_w227 55 x227_5.toNat (wi ((s_w227 55 x227_5.toNat) - 1))) ∧ (K 273 x227_1 x227_2 x227_3 (wi (x227_4 + 1)) x227_5 s_w_7 rr ss))))))))))
def T_X12_blindDay_273 (K : Nat → Int → Int → Int → Int → Int → PS → Int → PS → Prop) (x273_1 x273_2 x273_3 x273_4 x273_5 : Int) (s_w273 : PS) (rr : Int) (ss : PS) : Prop := ((TyM s_w273) ∧ ((1 ≤ x273_1 ∧ x273_1 ≤ 24) ∧ ((0 ≤ x273_3 ∧ x273_3 ≤ 39) ∧ ((0 ≤ x273_5 ∧ x273_5 ≤ 9) ∧ (K 227 x273_1 x273_2 x273_3 x273_4 (x273_5 + 1) s_w273 rr ss)))))
def T_X12_blindDay_284 (K : Nat → Int → Int → Int → Int → Int → PS → Int → PS → Prop) (x284_1 x284_2 x284_3 : Int) (s_w284 : PS) (rr : Int) (ss : PS) : Prop := ((TyM s_w284) ∧ ((1 ≤ x284_1 ∧ x284_1 ≤ 24) ∧ ((0 ≤ x284_3 ∧ x284_3 ≤ 39) ∧ (K 200 x284_1 x284_2 (x284_3 + 1) 0 0 s_w284 rr ss))))
def T_X12_blindDay_e (K : Nat → Int → Int → Int → Int → Int → PS → Int → PS → Prop) (s_w : PS) (p1 : Int) (rr : Int) (ss : PS) : Prop := ((TyM s_w) ∧ ((1 ≤ p1 ∧ p1 ≤ 24) ∧ (∃ s_w_62 : PS, s_w_62 = (us s_w 0 62 0) ∧ (K 7 p1 0 0 0 0 s_w_62 rr ss))))
def It_X12_blindDay : Nat → Nat → Int → Int → Int → Int → Int → PS → Int → PS → Prop
  | 0, _, _, _, _, _, _, _, _, _ => False
  | n + 1, pc, a0, a1, a2, a3, a4, s, r, t => (pc = 7 ∧ T_X12_blindDay_7 (It_X12_blindDay n) a0 a1 s r t) ∨ (pc = 29 ∧ T_X12_blindDay_29 (It_X12_blindDay n) a0 a1 s r t) ∨ (pc = 86 ∧ T_X12_blindDay_86 (It_X12_blindDay n) a0 a1 s r t) ∨ (pc = 126 ∧ T_X12_blindDay_126 (It_X12_blindDay n) a0 a1 a2 s r t) ∨ (pc = 180 ∧ T_X12_blindDay_180 (It_X12_blindDay n) a0 a1 a2 s r t) ∨ (pc = 186 ∧ T_X12_blindDay_186 (It_X12_blindDay n) a0 a1 s r t) ∨ (pc = 200 ∧ T_X12_blindDay_200 (It_X12_blindDay n) a0 a1 a2 s r t) ∨ (pc = 227 ∧ T_X12_blindDay_227 (It_X12_blindDay n) a0 a1 a2 a3 a4 s r t) ∨ (pc = 273 ∧ T_X12_blindDay_273 (It_X12_blindDay n) a0 a1 a2 a3 a4 s r t) ∨ (pc = 284 ∧ T_X12_blindDay_284 (It_X12_blindDay n) a0 a1 a2 s r t)
theorem rl_X12_blindDay_7 {n : Nat} {a0 a1 : Int} {s t : PS} {r : Int} (h : T_X12_blindDay_7 (It_X12_blindDay n) a0 a1 s r t) : It_X12_blindDay (n + 1) 7 a0 a1 0 0 0 s r t := Or.inl ⟨rfl, h⟩
theorem rl_X12_blindDay_29 {n : Nat} {a0 a1 : Int} {s t : PS} {r : Int} (h : T_X12_blindDay_29 (It_X12_blindDay n) a0 a1 s r t) : It_X12_blindDay (n + 1) 29 a0 a1 0 0 0 s r t := Or.inr (Or.inl ⟨rfl, h⟩)
theorem rl_X12_blindDay_86 {n : Nat} {a0 a1 : Int} {s t : PS} {r : Int} (h : T_X12_blindDay_86 (It_X12_blindDay n) a0 a1 s r t) : It_X12_blindDay (n + 1) 86 a0 a1 0 0 0 s r t := Or.inr (Or.inr (Or.inl ⟨rfl, h⟩))
theorem rl_X12_blindDay_126 {n : Nat} {a0 a1 a2 : Int} {s t : PS} {r : Int} (h : T_X12_blindDay_126 (It_X12_blindDay n) a0 a1 a2 s r t) : It_X12_blindDay (n + 1) 126 a0 a1 a2 0 0 s r t := Or.inr (Or.inr (Or.inr (Or.inl ⟨rfl, h⟩)))
theorem rl_X12_blindDay_180 {n : Nat} {a0 a1 a2 : Int} {s t : PS} {r : Int} (h : T_X12_blindDay_180 (It_X12_blindDay n) a0 a1 a2 s r t) : It_X12_blindDay (n + 1) 180 a0 a1 a2 0 0 s r t := Or.inr (Or.inr (Or.inr (Or.inr (Or.inl ⟨rfl, h⟩))))
theorem rl_X12_blindDay_186 {n : Nat} {a0 a1 : Int} {s t : PS} {r : Int} (h : T_X12_blindDay_186 (It_X12_blindDay n) a0 a1 s r t) : It_X12_blindDay (n + 1) 186 a0 a1 0 0 0 s r t := Or.inr (Or.inr (Or.inr (Or.inr (Or.inr (Or.inl ⟨rfl, h⟩)))))
theorem rl_X12_blindDay_200 {n : Nat} {a0 a1 a2 : Int} {s t : PS} {r : Int} (h : T_X12_blindDay_200 (It_X12_blindDay n) a0 a1 a2 s r t) : It_X12_blindDay (n + 1) 200 a0 a1 a2 0 0 s r t := Or.inr (Or.inr (Or.inr (Or.inr (Or.inr (Or.inr (Or.inl ⟨rfl, h⟩))))))
theorem rl_X12_blindDay_227 {n : Nat} {a0 a1 a2 a3 a4 : Int} {s t : PS} {r : Int} (h : T_X12_blindDay_227 (It_X12_blindDay n) a0 a1 a2 a3 a4 s r t) : It_X12_blindDay (n + 1) 227 a0 a1 a2 a3 a4 s r t := Or.inr (Or.inr (Or.inr (Or.inr (Or.inr (Or.inr (Or.inr (Or.inl ⟨rfl, h⟩)))))))
theorem rl_X12_blindDay_273 {n : Nat} {a0 a1 a2 a3 a4 : Int} {s t : PS} {r : Int} (h : T_X12_blindDay_273 (It_X12_blindDay n) a0 a1 a2 a3 a4 s r t) : It_X12_blindDay (n + 1) 273 a0 a1 a2 a3 a4 s r t := Or.inr (Or.inr (Or.inr (Or.inr (Or.inr (Or.inr (Or.inr (Or.inr (Or.inl ⟨rfl, h⟩))))))))
theorem rl_X12_blindDay_284 {n : Nat} {a0 a1 a2 : Int} {s t : PS} {r : Int} (h : T_X12_blindDay_284 (It_X12_blindDay n) a0 a1 a2 s r t) : It_X12_blindDay (n + 1) 284 a0 a1 a2 0 0 s r t := Or.inr (Or.inr (Or.inr (Or.inr (Or.inr (Or.inr (Or.inr (Or.inr (Or.inr (⟨rfl, h⟩)))))))))
theorem ul_X12_blindDay_7 {n : Nat} {a0 a1 a2 a3 a4 : Int} {s t : PS} {r : Int} (h : It_X12_blindDay (n + 1) 7 a0 a1 a2 a3 a4 s r t) : T_X12_blindDay_7 (It_X12_blindDay n) a0 a1 s r t := by
  have h2 : ((7 : Nat) = 7 ∧ T_X12_blindDay_7 (It_X12_blindDay n) a0 a1 s r t) ∨ ((7 : Nat) = 29 ∧ T_X12_blindDay_29 (It_X12_blindDay n) a0 a1 s r t) ∨ ((7 : Nat) = 86 ∧ T_X12_blindDay_86 (It_X12_blindDay n) a0 a1 s r t) ∨ ((7 : Nat) = 126 ∧ T_X12_blindDay_126 (It_X12_blindDay n) a0 a1 a2 s r t) ∨ ((7 : Nat) = 180 ∧ T_X12_blindDay_180 (It_X12_blindDay n) a0 a1 a2 s r t) ∨ ((7 : Nat) = 186 ∧ T_X12_blindDay_186 (It_X12_blindDay n) a0 a1 s r t) ∨ ((7 : Nat) = 200 ∧ T_X12_blindDay_200 (It_X12_blindDay n) a0 a1 a2 s r t) ∨ ((7 : Nat) = 227 ∧ T_X12_blindDay_227 (It_X12_blindDay n) a0 a1 a2 a3 a4 s r t) ∨ ((7 : Nat) = 273 ∧ T_X12_blindDay_273 (It_X12_blindDay n) a0 a1 a2 a3 a4 s r t) ∨ ((7 : Nat) = 284 ∧ T_X12_blindDay_284 (It_X12_blindDay n) a0 a1 a2 s r t) := h
  rcases h2 with ⟨e, h2⟩ | ⟨e, h2⟩ | ⟨e, h2⟩ | ⟨e, h2⟩ | ⟨e, h2⟩ | ⟨e, h2⟩ | ⟨e, h2⟩ | ⟨e, h2⟩ | ⟨e, h2⟩ | ⟨e, h2⟩
  · exact h2
  · exact absurd e (by decide)
  · exact absurd e (by decide)
  · exact absurd e (by decide)
  · exact absurd e (by decide)
  · exact absurd e (by decide)
  · exact absurd e (by decide)
  · exact absurd e (by decide)
  · exact absurd e (by decide)
  · exact absurd e (by decide)
theorem ul_X12_blindDay_29 {n : Nat} {a0 a1 a2 a3 a4 : Int} {s t : PS} {r : Int} (h : It_X12_blindDay (n + 1) 29 a0 a1 a2 a3 a4 s r t) : T_X12_blindDay_29 (It_X12_blindDay n) a0 a1 s r t := by
  have h2 : ((29 : Nat) = 7 ∧ T_X12_blindDay_7 (It_X12_blindDay n) a0 a1 s r t) ∨ ((29 : Nat) = 29 ∧ T_X12_blindDay_29 (It_X12_blindDay n) a0 a1 s r t) ∨ ((29 : Nat) = 86 ∧ T_X12_blindDay_86 (It_X12_blindDay n) a0 a1 s r t) ∨ ((29 : Nat) = 126 ∧ T_X12_blindDay_126 (It_X12_blindDay n) a0 a1 a2 s r t) ∨ ((29 : Nat) = 180 ∧ T_X12_blindDay_180 (It_X12_blindDay n) a0 a1 a2 s r t) ∨ ((29 : Nat) = 186 ∧ T_X12_blindDay_186 (It_X12_blindDay n) a0 a1 s r t) ∨ ((29 : Nat) = 200 ∧ T_X12_blindDay_200 (It_X12_blindDay n) a0 a1 a2 s r t) ∨ ((29 : Nat) = 227 ∧ T_X12_blindDay_227 (It_X12_blindDay n) a0 a1 a2 a3 a4 s r t) ∨ ((29 : Nat) = 273 ∧ T_X12_blindDay_273 (It_X12_blindDay n) a0 a1 a2 a3 a4 s r t) ∨ ((29 : Nat) = 284 ∧ T_X12_blindDay_284 (It_X12_blindDay n) a0 a1 a2 s r t) := h
  rcases h2 with ⟨e, h2⟩ | ⟨e, h2⟩ | ⟨e, h2⟩ | ⟨e, h2⟩ | ⟨e, h2⟩ | ⟨e, h2⟩ | ⟨e, h2⟩ | ⟨e, h2⟩ | ⟨e, h2⟩ | ⟨e, h2⟩
  · exact absurd e (by decide)
  · exact h2
  · exact absurd e (by decide)
  · exact absurd e (by decide)
  · exact absurd e (by decide)
  · exact absurd e (by decide)
  · exact absurd e (by decide)
  · exact absurd e (by decide)
  · exact absurd e (by decide)
  · exact absurd e (by decide)
theorem ul_X12_blindDay_86 {n : Nat} {a0 a1 a2 a3 a4 : Int} {s t : PS} {r : Int} (h : It_X12_blindDay (n + 1) 86 a0 a1 a2 a3 a4 s r t) : T_X12_blindDay_86 (It_X12_blindDay n) a0 a1 s r t := by
  have h2 : ((86 : Nat) = 7 ∧ T_X12_blindDay_7 (It_X12_blindDay n) a0 a1 s r t) ∨ ((86 : Nat) = 29 ∧ T_X12_blindDay_29 (It_X12_blindDay n) a0 a1 s r t) ∨ ((86 : Nat) = 86 ∧ T_X12_blindDay_86 (It_X12_blindDay n) a0 a1 s r t) ∨ ((86 : Nat) = 126 ∧ T_X12_blindDay_126 (It_X12_blindDay n) a0 a1 a2 s r t) ∨ ((86 : Nat) = 180 ∧ T_X12_blindDay_180 (It_X12_blindDay n) a0 a1 a2 s r t) ∨ ((86 : Nat) = 186 ∧ T_X12_blindDay_186 (It_X12_blindDay n) a0 a1 s r t) ∨ ((86 : Nat) = 200 ∧ T_X12_blindDay_200 (It_X12_blindDay n) a0 a1 a2 s r t) ∨ ((86 : Nat) = 227 ∧ T_X12_blindDay_227 (It_X12_blindDay n) a0 a1 a2 a3 a4 s r t) ∨ ((86 : Nat) = 273 ∧ T_X12_blindDay_273 (It_X12_blindDay n) a0 a1 a2 a3 a4 s r t) ∨ ((86 : Nat) = 284 ∧ T_X12_blindDay_284 (It_X12_blindDay n) a0 a1 a2 s r t) := h
  rcases h2 with ⟨e, h2⟩ | ⟨e, h2⟩ | ⟨e, h2⟩ | ⟨e, h2⟩ | ⟨e, h2⟩ | ⟨e, h2⟩ | ⟨e, h2⟩ | ⟨e, h2⟩ | ⟨e, h2⟩ | ⟨e, h2⟩
  · exact absurd e (by decide)
  · exact absurd e (by decide)
  · exact h2
  · exact absurd e (by decide)
  · exact absurd e (by decide)
  · exact absurd e (by decide)
  · exact absurd e (by decide)
  · exact absurd e (by decide)
  · exact absurd e (by decide)
  · exact absurd e (by decide)
theorem ul_X12_blindDay_126 {n : Nat} {a0 a1 a2 a3 a4 : Int} {s t : PS} {r : Int} (h : It_X12_blindDay (n + 1) 126 a0 a1 a2 a3 a4 s r t) : T_X12_blindDay_126 (It_X12_blindDay n) a0 a1 a2 s r t := by
  have h2 : ((126 : Nat) = 7 ∧ T_X12_blindDay_7 (It_X12_blindDay n) a0 a1 s r t) ∨ ((126 : Nat) = 29 ∧ T_X12_blindDay_29 (It_X12_blindDay n) a0 a1 s r t) ∨ ((126 : Nat) = 86 ∧ T_X12_blindDay_86 (It_X12_blindDay n) a0 a1 s r t) ∨ ((126 : Nat) = 126 ∧ T_X12_blindDay_126 (It_X12_blindDay n) a0 a1 a2 s r t) ∨ ((126 : Nat) = 180 ∧ T_X12_blindDay_180 (It_X12_blindDay n) a0 a1 a2 s r t) ∨ ((126 : Nat) = 186 ∧ T_X12_blindDay_186 (It_X12_blindDay n) a0 a1 s r t) ∨ ((126 : Nat) = 200 ∧ T_X12_blindDay_200 (It_X12_blindDay n) a0 a1 a2 s r t) ∨ ((126 : Nat) = 227 ∧ T_X12_blindDay_227 (It_X12_blindDay n) a0 a1 a2 a3 a4 s r t) ∨ ((126 : Nat) = 273 ∧ T_X12_blindDay_273 (It_X12_blindDay n) a0 a1 a2 a3 a4 s r t) ∨ ((126 : Nat) = 284 ∧ T_X12_blindDay_284 (It_X12_blindDay n) a0 a1 a2 s r t) := h
  rcases h2 with ⟨e, h2⟩ | ⟨e, h2⟩ | ⟨e, h2⟩ | ⟨e, h2⟩ | ⟨e, h2⟩ | ⟨e, h2⟩ | ⟨e, h2⟩ | ⟨e, h2⟩ | ⟨e, h2⟩ | ⟨e, h2⟩
  · exact absurd e (by decide)
  · exact absurd e (by decide)
  · exact absurd e (by decide)
  · exact h2
  · exact absurd e (by decide)
  · exact absurd e (by decide)
  · exact absurd e (by decide)
  · exact absurd e (by decide)
  · exact absurd e (by decide)
  · exact absurd e (by decide)
theorem ul_X12_blindDay_180 {n : Nat} {a0 a1 a2 a3 a4 : Int} {s t : PS} {r : Int} (h : It_X12_blindDay (n + 1) 180 a0 a1 a2 a3 a4 s r t) : T_X12_blindDay_180 (It_X12_blindDay n) a0 a1 a2 s r t := by
  have h2 : ((180 : Nat) = 7 ∧ T_X12_blindDay_7 (It_X12_blindDay n) a0 a1 s r t) ∨ ((180 : Nat) = 29 ∧ T_X12_blindDay_29 (It_X12_blindDay n) a0 a1 s r t) ∨ ((180 : Nat) = 86 ∧ T_X12_blindDay_86 (It_X12_blindDay n) a0 a1 s r t) ∨ ((180 : Nat) = 126 ∧ T_X12_blindDay_126 (It_X12_blindDay n) a0 a1 a2 s r t) ∨ ((180 : Nat) = 180 ∧ T_X12_blindDay_180 (It_X12_blindDay n) a0 a1 a2 s r t) ∨ ((180 : Nat) = 186 ∧ T_X12_blindDay_186 (It_X12_blindDay n) a0 a1 s r t) ∨ ((180 : Nat) = 200 ∧ T_X12_blindDay_200 (It_X12_blindDay n) a0 a1 a2 s r t) ∨ ((180 : Nat) = 227 ∧ T_X12_blindDay_227 (It_X12_blindDay n) a0 a1 a2 a3 a4 s r t) ∨ ((180 : Nat) = 273 ∧ T_X12_blindDay_273 (It_X12_blindDay n) a0 a1 a2 a3 a4 s r t) ∨ ((180 : Nat) = 284 ∧ T_X12_blindDay_284 (It_X12_blindDay n) a0 a1 a2 s r t) := h
  rcases h2 with ⟨e, h2⟩ | ⟨e, h2⟩ | ⟨e, h2⟩ | ⟨e, h2⟩ | ⟨e, h2⟩ | ⟨e, h2⟩ | ⟨e, h2⟩ | ⟨e, h2⟩ | ⟨e, h2⟩ | ⟨e, h2⟩
  · exact absurd e (by decide)
  · exact absurd e (by decide)
  · exact absurd e (by decide)
  · exact absurd e (by decide)
  · exact h2
  · exact absurd e (by decide)
  · exact absurd e (by decide)
  · exact absurd e (by decide)
  · exact absurd e (by decide)
  · exact absurd e (by decide)
theorem ul_X12_blindDay_186 {n : Nat} {a0 a1 a2 a3 a4 : Int} {s t : PS} {r : Int} (h : It_X12_blindDay (n + 1) 186 a0 a1 a2 a3 a4 s r t) : T_X12_blindDay_186 (It_X12_blindDay n) a0 a1 s r t := by
  have h2 : ((186 : Nat) = 7 ∧ T_X12_blindDay_7 (It_X12_blindDay n) a0 a1 s r t) ∨ ((186 : Nat) = 29 ∧ T_X12_blindDay_29 (It_X12_blindDay n) a0 a1 s r t) ∨ ((186 : Nat) = 86 ∧ T_X12_blindDay_86 (It_X12_blindDay n) a0 a1 s r t) ∨ ((186 : Nat) = 126 ∧ T_X12_blindDay_126 (It_X12_blindDay n) a0 a1 a2 s r t) ∨ ((186 : Nat) = 180 ∧ T_X12_blindDay_180 (It_X12_blindDay n) a0 a1 a2 s r t) ∨ ((186 : Nat) = 186 ∧ T_X12_blindDay_186 (It_X12_blindDay n) a0 a1 s r t) ∨ ((186 : Nat) = 200 ∧ T_X12_blindDay_200 (It_X12_blindDay n) a0 a1 a2 s r t) ∨ ((186 : Nat) = 227 ∧ T_X12_blindDay_227 (It_X12_blindDay n) a0 a1 a2 a3 a4 s r t) ∨ ((186 : Nat) = 273 ∧ T_X12_blindDay_273 (It_X12_blindDay n) a0 a1 a2 a3 a4 s r t) ∨ ((186 : Nat) = 284 ∧ T_X12_blindDay_284 (It_X12_blindDay n) a0 a1 a2 s r t) := h
  rcases h2 with ⟨e, h2⟩ | ⟨e, h2⟩ | ⟨e, h2⟩ | ⟨e, h2⟩ | ⟨e, h2⟩ | ⟨e, h2⟩ | ⟨e, h2⟩ | ⟨e, h2⟩ | ⟨e, h2⟩ | ⟨e, h2⟩
  · exact absurd e (by decide)
  · exact absurd e (by decide)
  · exact absurd e (by decide)
  · exact absurd e (by decide)
  · exact absurd e (by decide)
  · exact h2
  · exact absurd e (by decide)
  · exact absurd e (by decide)
  · exact absurd e (by decide)
  · exact absurd e (by decide)
theorem ul_X12_blindDay_200 {n : Nat} {a0 a1 a2 a3 a4 : Int} {s t : PS} {r : Int} (h : It_X12_blindDay (n + 1) 200 a0 a1 a2 a3 a4 s r t) : T_X12_blindDay_200 (It_X12_blindDay n) a0 a1 a2 s r t := by
  have h2 : ((200 : Nat) = 7 ∧ T_X12_blindDay_7 (It_X12_blindDay n) a0 a1 s r t) ∨ ((200 : Nat) = 29 ∧ T_X12_blindDay_29 (It_X12_blindDay n) a0 a1 s r t) ∨ ((200 : Nat) = 86 ∧ T_X12_blindDay_86 (It_X12_blindDay n) a0 a1 s r t) ∨ ((200 : Nat) = 126 ∧ T_X12_blindDay_126 (It_X12_blindDay n) a0 a1 a2 s r t) ∨ ((200 : Nat) = 180 ∧ T_X12_blindDay_180 (It_X12_blindDay n) a0 a1 a2 s r t) ∨ ((200 : Nat) = 186 ∧ T_X12_blindDay_186 (It_X12_blindDay n) a0 a1 s r t) ∨ ((200 : Nat) = 200 ∧ T_X12_blindDay_200 (It_X12_blindDay n) a0 a1 a2 s r t) ∨ ((200 : Nat) = 227 ∧ T_X12_blindDay_227 (It_X12_blindDay n) a0 a1 a2 a3 a4 s r t) ∨ ((200 : Nat) = 273 ∧ T_X12_blindDay_273 (It_X12_blindDay n) a0 a1 a2 a3 a4 s r t) ∨ ((200 : Nat) = 284 ∧ T_X12_blindDay_284 (It_X12_blindDay n) a0 a1 a2 s r t) := h
  rcases h2 with ⟨e, h2⟩ | ⟨e, h2⟩ | ⟨e, h2⟩ | ⟨e, h2⟩ | ⟨e, h2⟩ | ⟨e, h2⟩ | ⟨e, h2⟩ | ⟨e, h2⟩ | ⟨e, h2⟩ | ⟨e, h2⟩
  · exact absurd e (by decide)
  · exact absurd e (by decide)
  · exact absurd e (by decide)
  · exact absurd e (by decide)
  · exact absurd e (by decide)
  · exact absurd e (by decide)
  · exact h2
  · exact absurd e (by decide)
  · exact absurd e (by decide)
  · exact absurd e (by decide)
theorem ul_X12_blindDay_227 {n : Nat} {a0 a1 a2 a3 a4 : Int} {s t : PS} {r : Int} (h : It_X12_blindDay (n + 1) 227 a0 a1 a2 a3 a4 s r t) : T_X12_blindDay_227 (It_X12_blindDay n) a0 a1 a2 a3 a4 s r t := by
  have h2 : ((227 : Nat) = 7 ∧ T_X12_blindDay_7 (It_X12_blindDay n) a0 a1 s r t) ∨ ((227 : Nat) = 29 ∧ T_X12_blindDay_29 (It_X12_blindDay n) a0 a1 s r t) ∨ ((227 : Nat) = 86 ∧ T_X12_blindDay_86 (It_X12_blindDay n) a0 a1 s r t) ∨ ((227 : Nat) = 126 ∧ T_X12_blindDay_126 (It_X12_blindDay n) a0 a1 a2 s r t) ∨ ((227 : Nat) = 180 ∧ T_X12_blindDay_180 (It_X12_blindDay n) a0 a1 a2 s r t) ∨ ((227 : Nat) = 186 ∧ T_X12_blindDay_186 (It_X12_blindDay n) a0 a1 s r t) ∨ ((227 : Nat) = 200 ∧ T_X12_blindDay_200 (It_X12_blindDay n) a0 a1 a2 s r t) ∨ ((227 : Nat) = 227 ∧ T_X12_blindDay_227 (It_X12_blindDay n) a0 a1 a2 a3 a4 s r t) ∨ ((227 : Nat) = 273 ∧ T_X12_blindDay_273 (It_X12_blindDay n) a0 a1 a2 a3 a4 s r t) ∨ ((227 : Nat) = 284 ∧ T_X12_blindDay_284 (It_X12_blindDay n) a0 a1 a2 s r t) := h
  rcases h2 with ⟨e, h2⟩ | ⟨e, h2⟩ | ⟨e, h2⟩ | ⟨e, h2⟩ | ⟨e, h2⟩ | ⟨e, h2⟩ | ⟨e, h2⟩ | ⟨e, h2⟩ | ⟨e, h2⟩ | ⟨e, h2⟩
  · exact absurd e (by decide)
  · exact absurd e (by decide)
  · exact absurd e (by decide)
  · exact absurd e (by decide)
  · exact absurd e (by decide)
  · exact absurd e (by decide)
  · exact absurd e (by decide)
  · exact h2
  · exact absurd e (by decide)
  · exact absurd e (by decide)
theorem ul_X12_blindDay_273 {n : Nat} {a0 a1 a2 a3 a4 : Int} {s t : PS} {r : Int} (h : It_X12_blindDay (n + 1) 273 a0 a1 a2 a3 a4 s r t) : T_X12_blindDay_273 (It_X12_blindDay n) a0 a1 a2 a3 a4 s r t := by
  have h2 : ((273 : Nat) = 7 ∧ T_X12_blindDay_7 (It_X12_blindDay n) a0 a1 s r t) ∨ ((273 : Nat) = 29 ∧ T_X12_blindDay_29 (It_X12_blindDay n) a0 a1 s r t) ∨ ((273 : Nat) = 86 ∧ T_X12_blindDay_86 (It_X12_blindDay n) a0 a1 s r t) ∨ ((273 : Nat) = 126 ∧ T_X12_blindDay_126 (It_X12_blindDay n) a0 a1 a2 s r t) ∨ ((273 : Nat) = 180 ∧ T_X12_blindDay_180 (It_X12_blindDay n) a0 a1 a2 s r t) ∨ ((273 : Nat) = 186 ∧ T_X12_blindDay_186 (It_X12_blindDay n) a0 a1 s r t) ∨ ((273 : Nat) = 200 ∧ T_X12_blindDay_200 (It_X12_blindDay n) a0 a1 a2 s r t) ∨ ((273 : Nat) = 227 ∧ T_X12_blindDay_227 (It_X12_blindDay n) a0 a1 a2 a3 a4 s r t) ∨ ((273 : Nat) = 273 ∧ T_X12_blindDay_273 (It_X12_blindDay n) a0 a1 a2 a3 a4 s r t) ∨ ((273 : Nat) = 284 ∧ T_X12_blindDay_284 (It_X12_blindDay n) a0 a1 a2 s r t) := h
  rcases h2 with ⟨e, h2⟩ | ⟨e, h2⟩ | ⟨e, h2⟩ | ⟨e, h2⟩ | ⟨e, h2⟩ | ⟨e, h2⟩ | ⟨e, h2⟩ | ⟨e, h2⟩ | ⟨e, h2⟩ | ⟨e, h2⟩
  · exact absurd e (by decide)
  · exact absurd e (by decide)
  · exact absurd e (by decide)
  · exact absurd e (by decide)
  · exact absurd e (by decide)
  · exact absurd e (by decide)
  · exact absurd e (by decide)
  · exact absurd e (by decide)
  · exact h2
  · exact absurd e (by decide)
theorem ul_X12_blindDay_284 {n : Nat} {a0 a1 a2 a3 a4 : Int} {s t : PS} {r : Int} (h : It_X12_blindDay (n + 1) 284 a0 a1 a2 a3 a4 s r t) : T_X12_blindDay_284 (It_X12_blindDay n) a0 a1 a2 s r t := by
  have h2 : ((284 : Nat) = 7 ∧ T_X12_blindDay_7 (It_X12_blindDay n) a0 a1 s r t) ∨ ((284 : Nat) = 29 ∧ T_X12_blindDay_29 (It_X12_blindDay n) a0 a1 s r t) ∨ ((284 : Nat) = 86 ∧ T_X12_blindDay_86 (It_X12_blindDay n) a0 a1 s r t) ∨ ((284 : Nat) = 126 ∧ T_X12_blindDay_126 (It_X12_blindDay n) a0 a1 a2 s r t) ∨ ((284 : Nat) = 180 ∧ T_X12_blindDay_180 (It_X12_blindDay n) a0 a1 a2 s r t) ∨ ((284 : Nat) = 186 ∧ T_X12_blindDay_186 (It_X12_blindDay n) a0 a1 s r t) ∨ ((284 : Nat) = 200 ∧ T_X12_blindDay_200 (It_X12_blindDay n) a0 a1 a2 s r t) ∨ ((284 : Nat) = 227 ∧ T_X12_blindDay_227 (It_X12_blindDay n) a0 a1 a2 a3 a4 s r t) ∨ ((284 : Nat) = 273 ∧ T_X12_blindDay_273 (It_X12_blindDay n) a0 a1 a2 a3 a4 s r t) ∨ ((284 : Nat) = 284 ∧ T_X12_blindDay_284 (It_X12_blindDay n) a0 a1 a2 s r t) := h
  rcases h2 with ⟨e, h2⟩ | ⟨e, h2⟩ | ⟨e, h2⟩ | ⟨e, h2⟩ | ⟨e, h2⟩ | ⟨e, h2⟩ | ⟨e, h2⟩ | ⟨e, h2⟩ | ⟨e, h2⟩ | ⟨e, h2⟩
  · exact absurd e (by decide)
  · exact absurd e (by decide)
  · exact absurd e (by decide)
  · exact absurd e (by decide)
  · exact absurd e (by decide)
  · exact absurd e (by decide)
  · exact absurd e (by decide)
  · exact absurd e (by decide)
  · exact absurd e (by decide)
  · exact h2
def M_X12_blindDay (s : PS) (p1 : Int) (r : Int) (t : PS) : Prop := ∃ n, T_X12_blindDay_e (It_X12_blindDay n) s p1 r t
theorem mk_X12_blindDay {n : Nat} {s t : PS} {p1 : Int} {r : Int} (h : T_X12_blindDay_e (It_X12_blindDay n) s p1 r t) : M_X12_blindDay s p1 r t := ⟨n, h⟩
def T_X12_blind_12 (K : Nat → Int → Int → PS → Int → PS → Prop) (x12_1 x12_2 : Int) (s_w12 : PS) (rr : Int) (ss : PS) : Prop := ((TyM s_w12) ∧ ((0 ≤ x12_1 ∧ x12_1 ≤ 0) ∧ ((0 ≤ x12_2 ∧ x12_2 ≤ 10) ∧ ((10 ≤ x12_2 ∧ (K 33 x12_1 1 s_w12 rr ss)) ∨ (¬ (10 ≤ x12_2) ∧ (∃ s_w_7 : PS, s_w_7 = (us s_w12 55 x12_2.toNat 0) ∧ (K 12 x12_1 (x12_2 + 1) s_w_7 rr ss)))))))
def T_X12_blind_33 (K : Nat → Int → Int → PS → Int → PS → Prop) (x33_1 x33_2 : Int) (s_w33 : PS) (rr : Int) (ss : PS) : Prop := ((TyM s_w33) ∧ ((1 ≤ x33_2 ∧ x33_2 ≤ 25) ∧ ((24 < x33_2 ∧ (rr = x33_1 ∧ ss = s_w33)) ∨ (¬ (24 < x33_2) ∧ (∃ r_3 : Int, (∃ s_w_2 : PS, ((M_X12_blindDay s_w33 x33_2 r_3 s_w_2) ∧ ((Fr intsM [0, 37, 38, 39, 40, 41, 42, 43, 44, 45, 55] [(0, 62)] s_w33 s_w_2) ∧ ((TyM s_w_2) ∧ (K 33 (wi (x33_1 + r_3)) (x33_2 + 1) s_w_2 rr ss))))))))))
def T_X12_blind_e (K : Nat → Int → Int → PS → Int → PS → Prop) (s_w : PS) (rr : Int) (ss : PS) : Prop := ((TyM s_w) ∧ (∃ s_w_8 : PS, ((M_X12_knows s_w 0 s_w_8) ∧ ((Fr intsM [0, 26, 27, 28, 29, 30, 31, 32, 33, 34, 35, 36] [(0, 45)] s_w s_w_8) ∧ ((TyM s_w_8) ∧ (∃ s_w_12 : PS, ((M_X12_arrives s_w_8 0 s_w_12) ∧ ((Fr intsM [46] [] s_w_8 s_w_12) ∧ ((TyM s_w_12) ∧ (K 12 0 0 s_w_12 rr ss))))))))))
def It_X12_blind : Nat → Nat → Int → Int → PS → Int → PS → Prop
  | 0, _, _, _, _, _, _ => False
  | n + 1, pc, a0, a1, s, r, t => (pc = 12 ∧ T_X12_blind_12 (It_X12_blind n) a0 a1 s r t) ∨ (pc = 33 ∧ T_X12_blind_33 (It_X12_blind n) a0 a1 s r t)
theorem rl_X12_blind_12 {n : Nat} {a0 a1 : Int} {s t : PS} {r : Int} (h : T_X12_blind_12 (It_X12_blind n) a0 a1 s r t) : It_X12_blind (n + 1) 12 a0 a1 s r t := Or.inl ⟨rfl, h⟩
theorem rl_X12_blind_33 {n : Nat} {a0 a1 : Int} {s t : PS} {r : Int} (h : T_X12_blind_33 (It_X12_blind n) a0 a1 s r t) : It_X12_blind (n + 1) 33 a0 a1 s r t := Or.inr (⟨rfl, h⟩)
theorem ul_X12_blind_12 {n : Nat} {a0 a1 : Int} {s t : PS} {r : Int} (h : It_X12_blind (n + 1) 12 a0 a1 s r t) : T_X12_blind_12 (It_X12_blind n) a0 a1 s r t := by
  have h2 : ((12 : Nat) = 12 ∧ T_X12_blind_12 (It_X12_blind n) a0 a1 s r t) ∨ ((12 : Nat) = 33 ∧ T_X12_blind_33 (It_X12_blind n) a0 a1 s r t) := h
  rcases h2 with ⟨e, h2⟩ | ⟨e, h2⟩
  · exact h2
  · exact absurd e (by decide)
theorem ul_X12_blind_33 {n : Nat} {a0 a1 : Int} {s t : PS} {r : Int} (h : It_X12_blind (n + 1) 33 a0 a1 s r t) : T_X12_blind_33 (It_X12_blind n) a0 a1 s r t := by
  have h2 : ((33 : Nat) = 12 ∧ T_X12_blind_12 (It_X12_blind n) a0 a1 s r t) ∨ ((33 : Nat) = 33 ∧ T_X12_blind_33 (It_X12_blind n) a0 a1 s r t) := h
  rcases h2 with ⟨e, h2⟩ | ⟨e, h2⟩
  · exact absurd e (by decide)
  · exact h2
def M_X12_blind (s : PS) (r : Int) (t : PS) : Prop := ∃ n, T_X12_blind_e (It_X12_blind n) s r t
theorem mk_X12_blind {n : Nat} {s t : PS} {r : Int} (h : T_X12_blind_e (It_X12_blind n) s r t) : M_X12_blind s r t := ⟨n, h⟩
def T_X12_lacks_14 (K : Nat → Int → Int → Int → Int → Int → Int → PS → Int → PS → Prop) (x14_1 x14_2 x14_3 x14_4 : Int) (s_w14 : PS) (rr : Int) (ss : PS) : Prop := ((TyM s_w14) ∧ ((0 ≤ x14_4 ∧ x14_4 ≤ 40) ∧ (((s_w14 0 69) ≤ x14_4 ∧ (rr = x14_3 ∧ ss = s_w14)) ∨ (¬ ((s_w14 0 69) ≤ x14_4) ∧ (∃ r_5 : Int, (∃ s_w_4 : PS, ((M_X12_is s_w14 (s_w14 50 x14_4.toNat) x14_1 x14_2 r_5 s_w_4) ∧ ((Fr intsM [] [] s_w14 s_w_4) ∧ ((TyM s_w_4) ∧ ((0 ≤ r_5 ∧ r_5 ≤ 1) ∧ ((r_5 = 0 ∧ (K 61 x14_1 x14_2 x14_3 x14_4 0 x14_3 s_w_4 rr ss)) ∨ (¬ (r_5 = 0) ∧ (∃ r_12 : Int, (∃ s_w_11 : PS, ((M_X12_bits s_w_4 (s_w14 52 x14_4.toNat) r_12 s_w_11) ∧ ((Fr intsM [] [] s_w_4 s_w_11) ∧ ((TyM s_w_11) ∧ (K 61 x14_1 x14_2 x14_3 x14_4 (wi ((s_w14 47 x14_4.toNat) - r_12)) x14_3 s_w_11 rr ss))))))))))))))))))
def T_X12_lacks_61 (K : Nat → Int → Int → Int → Int → Int → Int → PS → Int → PS → Prop) (x61_1 x61_2 x61_3 x61_4 y61_0 y61_1 : Int) (s_w61 : PS) (rr : Int) (ss : PS) : Prop := ((TyM s_w61) ∧ ((0 ≤ x61_4 ∧ x61_4 ≤ 39) ∧ (K 14 x61_1 x61_2 (wi (y61_1 + y61_0)) (x61_4 + 1) 0 0 s_w61 rr ss)))
def T_X12_lacks_e (K : Nat → Int → Int → Int → Int → Int → Int → PS → Int → PS → Prop) (s_w : PS) (p1 p2 : Int) (rr : Int) (ss : PS) : Prop := ((TyM s_w) ∧ (((s_w 0 68) = 0 ∧ (rr = (-1) ∧ ss = s_w)) ∨ (¬ ((s_w 0 68) = 0) ∧ (K 14 p1 p2 0 0 0 0 s_w rr ss))))
def It_X12_lacks : Nat → Nat → Int → Int → Int → Int → Int → Int → PS → Int → PS → Prop
  | 0, _, _, _, _, _, _, _, _, _, _ => False
  | n + 1, pc, a0, a1, a2, a3, a4, a5, s, r, t => (pc = 14 ∧ T_X12_lacks_14 (It_X12_lacks n) a0 a1 a2 a3 s r t) ∨ (pc = 61 ∧ T_X12_lacks_61 (It_X12_lacks n) a0 a1 a2 a3 a4 a5 s r t)
theorem rl_X12_lacks_14 {n : Nat} {a0 a1 a2 a3 : Int} {s t : PS} {r : Int} (h : T_X12_lacks_14 (It_X12_lacks n) a0 a1 a2 a3 s r t) : It_X12_lacks (n + 1) 14 a0 a1 a2 a3 0 0 s r t := Or.inl ⟨rfl, h⟩
theorem rl_X12_lacks_61 {n : Nat} {a0 a1 a2 a3 a4 a5 : Int} {s t : PS} {r : Int} (h : T_X12_lacks_61 (It_X12_lacks n) a0 a1 a2 a3 a4 a5 s r t) : It_X12_lacks (n + 1) 61 a0 a1 a2 a3 a4 a5 s r t := Or.inr (⟨rfl, h⟩)
theorem ul_X12_lacks_14 {n : Nat} {a0 a1 a2 a3 a4 a5 : Int} {s t : PS} {r : Int} (h : It_X12_lacks (n + 1) 14 a0 a1 a2 a3 a4 a5 s r t) : T_X12_lacks_14 (It_X12_lacks n) a0 a1 a2 a3 s r t := by
  have h2 : ((14 : Nat) = 14 ∧ T_X12_lacks_14 (It_X12_lacks n) a0 a1 a2 a3 s r t) ∨ ((14 : Nat) = 61 ∧ T_X12_lacks_61 (It_X12_lacks n) a0 a1 a2 a3 a4 a5 s r t) := h
  rcases h2 with ⟨e, h2⟩ | ⟨e, h2⟩
  · exact h2
  · exact absurd e (by decide)
theorem ul_X12_lacks_61 {n : Nat} {a0 a1 a2 a3 a4 a5 : Int} {s t : PS} {r : Int} (h : It_X12_lacks (n + 1) 61 a0 a1 a2 a3 a4 a5 s r t) : T_X12_lacks_61 (It_X12_lacks n) a0 a1 a2 a3 a4 a5 s r t := by
  have h2 : ((61 : Nat) = 14 ∧ T_X12_lacks_14 (It_X12_lacks n) a0 a1 a2 a3 s r t) ∨ ((61 : Nat) = 61 ∧ T_X12_lacks_61 (It_X12_lacks n) a0 a1 a2 a3 a4 a5 s r t) := h
  rcases h2 with ⟨e, h2⟩ | ⟨e, h2⟩
  · exact absurd e (by decide)
  · exact h2
def M_X12_lacks (s : PS) (p1 p2 : Int) (r : Int) (t : PS) : Prop := ∃ n, T_X12_lacks_e (It_X12_lacks n) s p1 p2 r t
theorem mk_X12_lacks {n : Nat} {s t : PS} {p1 p2 : Int} {r : Int} (h : T_X12_lacks_e (It_X12_lacks n) s p1 p2 r t) : M_X12_lacks s p1 p2 r t := ⟨n, h⟩
def T_X12_worth_4 (K : Nat → Int → Int → Int → Int → Int → PS → Int → PS → Prop) (x4_1 x4_2 x4_3 : Int) (s_w4 : PS) (rr : Int) (ss : PS) : Prop := ((TyM s_w4) ∧ ((0 ≤ x4_3 ∧ x4_3 ≤ 10) ∧ (((s_w4 2 (s_w4 0 12).toNat) ≤ x4_3 ∧ (rr = x4_2 ∧ ss = s_w4)) ∨ (¬ ((s_w4 2 (s_w4 0 12).toNat) ≤ x4_3) ∧ (((iAnd (iShr x4_1 x4_3) 1) = 1 ∧ (K 45 x4_1 x4_2 x4_3 (s_w4 8 ((10 * (s_w4 0 12)) + x4_3).toNat) x4_2 s_w4 rr ss)) ∨ (¬ ((iAnd (iShr x4_1 x4_3) 1) = 1) ∧ (K 45 x4_1 x4_2 x4_3 0 x4_2 s_w4 rr ss)))))))
def T_X12_worth_45 (K : Nat → Int → Int → Int → Int → Int → PS → Int → PS → Prop) (x45_1 x45_2 x45_3 y45_0 y45_1 : Int) (s_w45 : PS) (rr : Int) (ss : PS) : Prop := ((TyM s_w45) ∧ ((0 ≤ x45_3 ∧ x45_3 ≤ 9) ∧ (K 4 x45_1 (wi (y45_1 + y45_0)) (x45_3 + 1) 0 0 s_w45 rr ss)))
def T_X12_worth_e (K : Nat → Int → Int → Int → Int → Int → PS → Int → PS → Prop) (s_w : PS) (p1 : Int) (rr : Int) (ss : PS) : Prop := ((TyM s_w) ∧ (K 4 p1 0 0 0 0 s_w rr ss))
def It_X12_worth : Nat → Nat → Int → Int → Int → Int → Int → PS → Int → PS → Prop
  | 0, _, _, _, _, _, _, _, _, _ => False
  | n + 1, pc, a0, a1, a2, a3, a4, s, r, t => (pc = 4 ∧ T_X12_worth_4 (It_X12_worth n) a0 a1 a2 s r t) ∨ (pc = 45 ∧ T_X12_worth_45 (It_X12_worth n) a0 a1 a2 a3 a4 s r t)
theorem rl_X12_worth_4 {n : Nat} {a0 a1 a2 : Int} {s t : PS} {r : Int} (h : T_X12_worth_4 (It_X12_worth n) a0 a1 a2 s r t) : It_X12_worth (n + 1) 4 a0 a1 a2 0 0 s r t := Or.inl ⟨rfl, h⟩
theorem rl_X12_worth_45 {n : Nat} {a0 a1 a2 a3 a4 : Int} {s t : PS} {r : Int} (h : T_X12_worth_45 (It_X12_worth n) a0 a1 a2 a3 a4 s r t) : It_X12_worth (n + 1) 45 a0 a1 a2 a3 a4 s r t := Or.inr (⟨rfl, h⟩)
theorem ul_X12_worth_4 {n : Nat} {a0 a1 a2 a3 a4 : Int} {s t : PS} {r : Int} (h : It_X12_worth (n + 1) 4 a0 a1 a2 a3 a4 s r t) : T_X12_worth_4 (It_X12_worth n) a0 a1 a2 s r t := by
  have h2 : ((4 : Nat) = 4 ∧ T_X12_worth_4 (It_X12_worth n) a0 a1 a2 s r t) ∨ ((4 : Nat) = 45 ∧ T_X12_worth_45 (It_X12_worth n) a0 a1 a2 a3 a4 s r t) := h
  rcases h2 with ⟨e, h2⟩ | ⟨e, h2⟩
  · exact h2
  · exact absurd e (by decide)
theorem ul_X12_worth_45 {n : Nat} {a0 a1 a2 a3 a4 : Int} {s t : PS} {r : Int} (h : It_X12_worth (n + 1) 45 a0 a1 a2 a3 a4 s r t) : T_X12_worth_45 (It_X12_worth n) a0 a1 a2 a3 a4 s r t := by
  have h2 : ((45 : Nat) = 4 ∧ T_X12_worth_4 (It_X12_worth n) a0 a1 a2 s r t) ∨ ((45 : Nat) = 45 ∧ T_X12_worth_45 (It_X12_worth n) a0 a1 a2 a3 a4 s r t) := h
  rcases h2 with ⟨e, h2⟩ | ⟨e, h2⟩
  · exact absurd e (by decide)
  · exact h2
def M_X12_worth (s : PS) (p1 : Int) (r : Int) (t : PS) : Prop := ∃ n, T_X12_worth_e (It_X12_worth n) s p1 r t
theorem mk_X12_worth {n : Nat} {s t : PS} {p1 : Int} {r : Int} (h : T_X12_worth_e (It_X12_worth n) s p1 r t) : M_X12_worth s p1 r t := ⟨n, h⟩
