def T_X9_finds_23 (K : Nat → Int → Int → PS → Int → PS → Prop) (x23_1 x23_2 : Int) (s_w23 : PS) (rr : Int) (ss : PS) : Prop := ((TyX s_w23) ∧ ((0 ≤ x23_1 ∧ x23_1 ≤ 9) ∧ ((0 ≤ x23_2 ∧ x23_2 ≤ 1000000) ∧ ((1000000 ≤ x23_2 ∧ (K 144 x23_1 x23_2 s_w23 rr ss)) ∨ (¬ (1000000 ≤ x23_2) ∧ (((s_w23 83 (s_w23 81 2).toNat) = (s_w23 81 4) ∧ (K 144 x23_1 x23_2 s_w23 rr ss)) ∨ (¬ ((s_w23 83 (s_w23 81 2).toNat) = (s_w23 81 4)) ∧ (((s_w23 81 11) ≤ (s_w23 81 10) ∧ (((s_w23 81 12) = (-1) ∧ (K 109 x23_1 x23_2 s_w23 rr ss)) ∨ (¬ ((s_w23 81 12) = (-1)) ∧ (((s_w23 81 14) = 0 ∧ (∃ s_w_16 : PS, s_w_16 = (us s_w23 81 14 1) ∧ (∃ s_w_17 : PS, ((M_X9_spreadDue s_w_16 0 s_w_17) ∧ ((Fr intsX [81, 83, 84, 87] [(81, 11), (81, 12)] s_w_16 s_w_17) ∧ ((TyX s_w_17) ∧ (K 138 x23_1 x23_2 s_w_17 rr ss))))))) ∨ (¬ ((s_w23 81 14) = 0) ∧ (K 109 x23_1 x23_2 s_w23 rr ss)))))) ∨ (¬ ((s_w23 81 11) ≤ (s_w23 81 10)) ∧ (∃ s_w_22 : PS, ((M_X9_widen s_w23 (s_w23 87 (s_w23 81 10).toNat) 0 s_w_22) ∧ ((Fr intsX [81, 83, 84, 85, 86, 87] [(81, 11), (81, 12), (81, 13)] s_w23 s_w_22) ∧ ((TyX s_w_22) ∧ (∃ s_w_26 : PS, s_w_26 = (us s_w_22 81 10 ((s_w23 81 10) + 1)) ∧ (K 138 x23_1 x23_2 s_w_26 rr ss)))))))))))))))
def T_X9_finds_109 (K : Nat → Int → Int → PS → Int → PS → Prop) (x109_1 x109_2 : Int) (s_w109 : PS) (rr : Int) (ss : PS) : Prop := ((TyX s_w109) ∧ ((0 ≤ x109_1 ∧ x109_1 ≤ 9) ∧ ((0 ≤ x109_2 ∧ x109_2 ≤ 999999) ∧ (((s_w109 81 13) = (-1) ∧ (rr = 0 ∧ ss = s_w109)) ∨ (¬ ((s_w109 81 13) = (-1)) ∧ (((s_w109 81 15) = 0 ∧ (∃ s_w_5 : PS, s_w_5 = (us s_w109 81 15 1) ∧ (∃ s_w_6 : PS, ((M_X9_spreadLeft s_w_5 0 s_w_6) ∧ ((Fr intsX [81, 83, 84, 85, 86, 87] [(81, 11), (81, 12), (81, 13)] s_w_5 s_w_6) ∧ ((TyX s_w_6) ∧ (K 138 x109_1 x109_2 s_w_6 rr ss))))))) ∨ (¬ ((s_w109 81 15) = 0) ∧ (rr = 0 ∧ ss = s_w109))))))))
def T_X9_finds_138 (K : Nat → Int → Int → PS → Int → PS → Prop) (x138_1 x138_2 : Int) (s_w138 : PS) (rr : Int) (ss : PS) : Prop := ((TyX s_w138) ∧ ((0 ≤ x138_1 ∧ x138_1 ≤ 9) ∧ ((0 ≤ x138_2 ∧ x138_2 ≤ 999999) ∧ (K 23 x138_1 (x138_2 + 1) s_w138 rr ss))))
def T_X9_finds_144 (K : Nat → Int → Int → PS → Int → PS → Prop) (x144_1 x144_2 : Int) (s_w144 : PS) (rr : Int) (ss : PS) : Prop := ((TyX s_w144) ∧ ((0 ≤ x144_1 ∧ x144_1 ≤ 9) ∧ ((0 ≤ x144_2 ∧ x144_2 ≤ 1000000) ∧ (((s_w144 83 (s_w144 81 2).toNat) = (s_w144 81 4) ∧ (rr = 1 ∧ ss = s_w144)) ∨ (¬ ((s_w144 83 (s_w144 81 2).toNat) = (s_w144 81 4)) ∧ (rr = 0 ∧ ss = s_w144))))))
def T_X9_finds_e (K : Nat → Int → Int → PS → Int → PS → Prop) (s_w : PS) (p1 : Int) (rr : Int) (ss : PS) : Prop := ((TyX s_w) ∧ ((0 ≤ p1 ∧ p1 ≤ 9) ∧ (∃ s_w_28 : PS, ((M_X9_spread s_w (s_w 81 2) p1 (s_w 65 (s_w 81 2).toNat) 0 s_w_28) ∧ ((Fr intsX [81, 83, 84, 85, 86, 87] [(81, 11), (81, 12), (81, 13)] s_w s_w_28) ∧ ((TyX s_w_28) ∧ (K 23 p1 0 s_w_28 rr ss)))))))
def It_X9_finds : Nat → Nat → Int → Int → PS → Int → PS → Prop
  | 0, _, _, _, _, _, _ => False
  | n + 1, pc, a0, a1, s, r, t => (pc = 23 ∧ T_X9_finds_23 (It_X9_finds n) a0 a1 s r t) ∨ (pc = 109 ∧ T_X9_finds_109 (It_X9_finds n) a0 a1 s r t) ∨ (pc = 138 ∧ T_X9_finds_138 (It_X9_finds n) a0 a1 s r t) ∨ (pc = 144 ∧ T_X9_finds_144 (It_X9_finds n) a0 a1 s r t)
theorem rl_X9_finds_23 {n : Nat} {a0 a1 : Int} {s t : PS} {r : Int} (h : T_X9_finds_23 (It_X9_finds n) a0 a1 s r t) : It_X9_finds (n + 1) 23 a0 a1 s r t := Or.inl ⟨rfl, h⟩
theorem rl_X9_finds_109 {n : Nat} {a0 a1 : Int} {s t : PS} {r : Int} (h : T_X9_finds_109 (It_X9_finds n) a0 a1 s r t) : It_X9_finds (n + 1) 109 a0 a1 s r t := Or.inr (Or.inl ⟨rfl, h⟩)
theorem rl_X9_finds_138 {n : Nat} {a0 a1 : Int} {s t : PS} {r : Int} (h : T_X9_finds_138 (It_X9_finds n) a0 a1 s r t) : It_X9_finds (n + 1) 138 a0 a1 s r t := Or.inr (Or.inr (Or.inl ⟨rfl, h⟩))
theorem rl_X9_finds_144 {n : Nat} {a0 a1 : Int} {s t : PS} {r : Int} (h : T_X9_finds_144 (It_X9_finds n) a0 a1 s r t) : It_X9_finds (n + 1) 144 a0 a1 s r t := Or.inr (Or.inr (Or.inr (⟨rfl, h⟩)))
theorem ul_X9_finds_23 {n : Nat} {a0 a1 : Int} {s t : PS} {r : Int} (h : It_X9_finds (n + 1) 23 a0 a1 s r t) : T_X9_finds_23 (It_X9_finds n) a0 a1 s r t := by
  have h2 : ((23 : Nat) = 23 ∧ T_X9_finds_23 (It_X9_finds n) a0 a1 s r t) ∨ ((23 : Nat) = 109 ∧ T_X9_finds_109 (It_X9_finds n) a0 a1 s r t) ∨ ((23 : Nat) = 138 ∧ T_X9_finds_138 (It_X9_finds n) a0 a1 s r t) ∨ ((23 : Nat) = 144 ∧ T_X9_finds_144 (It_X9_finds n) a0 a1 s r t) := h
  rcases h2 with ⟨e, h2⟩ | ⟨e, h2⟩ | ⟨e, h2⟩ | ⟨e, h2⟩
  · exact h2
  · exact absurd e (by decide)
  · exact absurd e (by decide)
  · exact absurd e (by decide)
theorem ul_X9_finds_109 {n : Nat} {a0 a1 : Int} {s t : PS} {r : Int} (h : It_X9_finds (n + 1) 109 a0 a1 s r t) : T_X9_finds_109 (It_X9_finds n) a0 a1 s r t := by
  have h2 : ((109 : Nat) = 23 ∧ T_X9_finds_23 (It_X9_finds n) a0 a1 s r t) ∨ ((109 : Nat) = 109 ∧ T_X9_finds_109 (It_X9_finds n) a0 a1 s r t) ∨ ((109 : Nat) = 138 ∧ T_X9_finds_138 (It_X9_finds n) a0 a1 s r t) ∨ ((109 : Nat) = 144 ∧ T_X9_finds_144 (It_X9_finds n) a0 a1 s r t) := h
  rcases h2 with ⟨e, h2⟩ | ⟨e, h2⟩ | ⟨e, h2⟩ | ⟨e, h2⟩
  · exact absurd e (by decide)
  · exact h2
  · exact absurd e (by decide)
  · exact absurd e (by decide)
theorem ul_X9_finds_138 {n : Nat} {a0 a1 : Int} {s t : PS} {r : Int} (h : It_X9_finds (n + 1) 138 a0 a1 s r t) : T_X9_finds_138 (It_X9_finds n) a0 a1 s r t := by
  have h2 : ((138 : Nat) = 23 ∧ T_X9_finds_23 (It_X9_finds n) a0 a1 s r t) ∨ ((138 : Nat) = 109 ∧ T_X9_finds_109 (It_X9_finds n) a0 a1 s r t) ∨ ((138 : Nat) = 138 ∧ T_X9_finds_138 (It_X9_finds n) a0 a1 s r t) ∨ ((138 : Nat) = 144 ∧ T_X9_finds_144 (It_X9_finds n) a0 a1 s r t) := h
  rcases h2 with ⟨e, h2⟩ | ⟨e, h2⟩ | ⟨e, h2⟩ | ⟨e, h2⟩
  · exact absurd e (by decide)
  · exact absurd e (by decide)
  · exact h2
  · exact absurd e (by decide)
theorem ul_X9_finds_144 {n : Nat} {a0 a1 : Int} {s t : PS} {r : Int} (h : It_X9_finds (n + 1) 144 a0 a1 s r t) : T_X9_finds_144 (It_X9_finds n) a0 a1 s r t := by
  have h2 : ((144 : Nat) = 23 ∧ T_X9_finds_23 (It_X9_finds n) a0 a1 s r t) ∨ ((144 : Nat) = 109 ∧ T_X9_finds_109 (It_X9_finds n) a0 a1 s r t) ∨ ((144 : Nat) = 138 ∧ T_X9_finds_138 (It_X9_finds n) a0 a1 s r t) ∨ ((144 : Nat) = 144 ∧ T_X9_finds_144 (It_X9_finds n) a0 a1 s r t) := h
  rcases h2 with ⟨e, h2⟩ | ⟨e, h2⟩ | ⟨e, h2⟩ | ⟨e, h2⟩
  · exact absurd e (by decide)
  · exact absurd e (by decide)
  · exact absurd e (by decide)
  · exact h2
def M_X9_finds (s : PS) (p1 : Int) (r : Int) (t : PS) : Prop := ∃ n, T_X9_finds_e (It_X9_finds n) s p1 r t
theorem mk_X9_finds {n : Nat} {s t : PS} {p1 : Int} {r : Int} (h : T_X9_finds_e (It_X9_finds n) s p1 r t) : M_X9_finds s p1 r t := ⟨n, h⟩
def T_X9_freshSearch_e (s_w : PS) (rr : Int) (ss : PS) : Prop := ((TyX s_w) ∧ (∃ s_w_1 : PS, s_w_1 = (us s_w 81 4 (wi ((s_w 81 4) + 1))) ∧ (∃ s_w_2 : PS, s_w_2 = (us s_w_1 81 10 0) ∧ (∃ s_w_3 : PS, s_w_3 = (us s_w_2 81 11 0) ∧ (∃ s_w_4 : PS, s_w_4 = (us s_w_3 81 12 (-1)) ∧ (∃ s_w_5 : PS, s_w_5 = (us s_w_4 81 13 (-1)) ∧ (∃ s_w_6 : PS, s_w_6 = (us s_w_5 81 14 0) ∧ (∃ s_w_7 : PS, s_w_7 = (us s_w_6 81 15 0) ∧ (rr = 0 ∧ ss = s_w_7)))))))))
def M_X9_freshSearch (s : PS) (r : Int) (t : PS) : Prop := T_X9_freshSearch_e s r t
theorem mk_X9_freshSearch {s t : PS} {r : Int} (h : T_X9_freshSearch_e s r t) : M_X9_freshSearch s r t := h
def T_X9_turn_7 (K : Int → Int → PS → Int → PS → Prop) (x7_1 x7_2 : Int) (s_w7 : PS) (rr : Int) (ss : PS) : Prop := ((TyX s_w7) ∧ ((0 ≤ x7_1 ∧ x7_1 ≤ 39) ∧ ((0 ≤ x7_2 ∧ x7_2 ≤ 1000000) ∧ ((1000000 ≤ x7_2 ∧ (rr = 0 ∧ ss = s_w7)) ∨ (¬ (1000000 ≤ x7_2) ∧ (((s_w7 84 x7_1.toNat) = (-3) ∧ (∃ s_w_22 : PS, ((M_X3_drop s_w7 (s_w7 81 12) (s_w7 84 (s_w7 81 12).toNat) 0 s_w_22) ∧ ((Fr intsX [70, 71, 73] [] s_w7 s_w_22) ∧ ((TyX s_w_22) ∧ (((s_w7 86 (((s_w7 84 (s_w7 81 12).toNat) * 24) + (s_w7 65 (s_w7 81 12).toNat)).toNat) = (-2) ∧ (∃ s_w_31 : PS, ((M_X3_take s_w_22 (s_w7 86 ((((s_w7 81 13) * 24) + (s_w7 64 2)) - 1).toNat) (s_w7 81 13) 0 s_w_31) ∧ ((Fr intsX [70, 71, 73] [] s_w_22 s_w_31) ∧ ((TyX s_w_31) ∧ (((s_w7 86 ((((s_w7 81 13) * 24) + (s_w7 64 2)) - 1).toNat) = (s_w7 81 2) ∧ (rr = 0 ∧ ss = s_w_31)) ∨ (¬ ((s_w7 86 ((((s_w7 81 13) * 24) + (s_w7 64 2)) - 1).toNat) = (s_w7 81 2)) ∧ (K (s_w7 86 ((((s_w7 81 13) * 24) + (s_w7 64 2)) - 1).toNat) (x7_2 + 1) s_w_31 rr ss)))))))) ∨ (¬ ((s_w7 86 (((s_w7 84 (s_w7 81 12).toNat) * 24) + (s_w7 65 (s_w7 81 12).toNat)).toNat) = (-2)) ∧ (∃ s_w_26 : PS, ((M_X3_take s_w_22 (s_w7 86 (((s_w7 84 (s_w7 81 12).toNat) * 24) + (s_w7 65 (s_w7 81 12).toNat)).toNat) (s_w7 84 (s_w7 81 12).toNat) 0 s_w_26) ∧ ((Fr intsX [70, 71, 73] [] s_w_22 s_w_26) ∧ ((TyX s_w_26) ∧ (((s_w7 86 (((s_w7 84 (s_w7 81 12).toNat) * 24) + (s_w7 65 (s_w7 81 12).toNat)).toNat) = (s_w7 81 2) ∧ (rr = 0 ∧ ss = s_w_26)) ∨ (¬ ((s_w7 86 (((s_w7 84 (s_w7 81 12).toNat) * 24) + (s_w7 65 (s_w7 81 12).toNat)).toNat) = (s_w7 81 2)) ∧ (K (s_w7 86 (((s_w7 84 (s_w7 81 12).toNat) * 24) + (s_w7 65 (s_w7 81 12).toNat)).toNat) (x7_2 + 1) s_w_26 rr ss)))))))))))))) ∨ (¬ ((s_w7 84 x7_1.toNat) = (-3)) ∧ (∃ s_w_6 : PS, ((M_X3_drop s_w7 x7_1 (s_w7 84 x7_1.toNat) 0 s_w_6) ∧ ((Fr intsX [70, 71, 73] [] s_w7 s_w_6) ∧ ((TyX s_w_6) ∧ (((s_w7 86 (((s_w7 84 x7_1.toNat) * 24) + (s_w7 65 x7_1.toNat)).toNat) = (-2) ∧ (∃ s_w_15 : PS, ((M_X3_take s_w_6 (s_w7 86 ((((s_w7 81 13) * 24) + (s_w7 64 2)) - 1).toNat) (s_w7 81 13) 0 s_w_15) ∧ ((Fr intsX [70, 71, 73] [] s_w_6 s_w_15) ∧ ((TyX s_w_15) ∧ (((s_w7 86 ((((s_w7 81 13) * 24) + (s_w7 64 2)) - 1).toNat) = (s_w7 81 2) ∧ (rr = 0 ∧ ss = s_w_15)) ∨ (¬ ((s_w7 86 ((((s_w7 81 13) * 24) + (s_w7 64 2)) - 1).toNat) = (s_w7 81 2)) ∧ (K (s_w7 86 ((((s_w7 81 13) * 24) + (s_w7 64 2)) - 1).toNat) (x7_2 + 1) s_w_15 rr ss)))))))) ∨ (¬ ((s_w7 86 (((s_w7 84 x7_1.toNat) * 24) + (s_w7 65 x7_1.toNat)).toNat) = (-2)) ∧ (∃ s_w_10 : PS, ((M_X3_take s_w_6 (s_w7 86 (((s_w7 84 x7_1.toNat) * 24) + (s_w7 65 x7_1.toNat)).toNat) (s_w7 84 x7_1.toNat) 0 s_w_10) ∧ ((Fr intsX [70, 71, 73] [] s_w_6 s_w_10) ∧ ((TyX s_w_10) ∧ (((s_w7 86 (((s_w7 84 x7_1.toNat) * 24) + (s_w7 65 x7_1.toNat)).toNat) = (s_w7 81 2) ∧ (rr = 0 ∧ ss = s_w_10)) ∨ (¬ ((s_w7 86 (((s_w7 84 x7_1.toNat) * 24) + (s_w7 65 x7_1.toNat)).toNat) = (s_w7 81 2)) ∧ (K (s_w7 86 (((s_w7 84 x7_1.toNat) * 24) + (s_w7 65 x7_1.toNat)).toNat) (x7_2 + 1) s_w_10 rr ss))))))))))))))))))))
def T_X9_turn_e (K : Int → Int → PS → Int → PS → Prop) (s_w : PS) (rr : Int) (ss : PS) : Prop := ((TyX s_w) ∧ (K (s_w 81 2) 0 s_w rr ss))
def It_X9_turn : Nat → Int → Int → PS → Int → PS → Prop
  | 0, _, _, _, _, _ => False
  | n + 1, a0, a1, s, r, t => T_X9_turn_7 (It_X9_turn n) a0 a1 s r t
theorem rl_X9_turn_7 {n : Nat} {a0 a1 : Int} {s t : PS} {r : Int} (h : T_X9_turn_7 (It_X9_turn n) a0 a1 s r t) : It_X9_turn (n + 1) a0 a1 s r t := h
theorem ul_X9_turn_7 {n : Nat} {a0 a1 : Int} {s t : PS} {r : Int} (h : It_X9_turn (n + 1) a0 a1 s r t) : T_X9_turn_7 (It_X9_turn n) a0 a1 s r t := h
def M_X9_turn (s : PS) (r : Int) (t : PS) : Prop := ∃ n, T_X9_turn_e (It_X9_turn n) s r t
theorem mk_X9_turn {n : Nat} {s t : PS} {r : Int} (h : T_X9_turn_e (It_X9_turn n) s r t) : M_X9_turn s r t := ⟨n, h⟩
def T_X9_rankRow_11 (K : Nat → Int → Int → PS → Int → PS → Prop) (x11_1 x11_2 : Int) (s_w11 : PS) (rr : Int) (ss : PS) : Prop := ((TyX s_w11) ∧ ((0 ≤ x11_1 ∧ x11_1 ≤ 39) ∧ ((0 ≤ x11_2 ∧ x11_2 ≤ 10) ∧ (((s_w11 64 0) ≤ x11_2 ∧ (K 89 x11_1 x11_2 s_w11 rr ss)) ∨ (¬ ((s_w11 64 0) ≤ x11_2) ∧ (∃ r_5 : Int, (∃ s_w_4 : PS, ((M_X9_canChange s_w11 x11_1 r_5 s_w_4) ∧ ((Fr intsX [] [] s_w11 s_w_4) ∧ ((TyX s_w_4) ∧ ((0 ≤ r_5 ∧ r_5 ≤ 1) ∧ ((r_5 = 0 ∧ (K 89 x11_1 x11_2 s_w_4 rr ss)) ∨ (¬ (r_5 = 0) ∧ (∃ s_w_11 : PS, s_w_11 = (us s_w_4 82 x11_1.toNat (iOr (s_w11 82 x11_1.toNat) (iShl 1 x11_2))) ∧ (((iAnd (iShr (s_w11 70 x11_1.toNat) x11_2) 1) = 0 ∧ (∃ r_16 : Int, (∃ s_w_15 : PS, ((M_X9_mayTake s_w_11 x11_1 x11_2 r_16 s_w_15) ∧ ((Fr intsX [] [] s_w_11 s_w_15) ∧ ((TyX s_w_15) ∧ ((0 ≤ r_16 ∧ r_16 ≤ 1) ∧ ((r_16 = 0 ∧ (K 83 x11_1 x11_2 s_w_15 rr ss)) ∨ (¬ (r_16 = 0) ∧ (∃ r_20 : Int, (∃ s_w_19 : PS, ((M_X9_finds s_w_15 x11_2 r_20 s_w_19) ∧ ((Fr intsX [81, 83, 84, 85, 86, 87] [(81, 10), (81, 11), (81, 12), (81, 13), (81, 14), (81, 15)] s_w_15 s_w_19) ∧ ((TyX s_w_19) ∧ ((0 ≤ r_20 ∧ r_20 ≤ 1) ∧ ((r_20 = 0 ∧ (K 83 x11_1 x11_2 s_w_19 rr ss)) ∨ (¬ (r_20 = 0) ∧ (∃ s_w_25 : PS, ((M_X9_turn s_w_19 0 s_w_25) ∧ ((Fr intsX [70, 71, 73] [] s_w_19 s_w_25) ∧ ((TyX s_w_25) ∧ (∃ s_w_28 : PS, ((M_X9_freshSearch s_w_25 0 s_w_28) ∧ ((Fr intsX [81] [(81, 4), (81, 10), (81, 11), (81, 12), (81, 13), (81, 14), (81, 15)] s_w_25 s_w_28) ∧ ((TyX s_w_28) ∧ (K 83 x11_1 x11_2 s_w_28 rr ss)))))))))))))))))))))))))) ∨ (¬ ((iAnd (iShr (s_w11 70 x11_1.toNat) x11_2) 1) = 0) ∧ (K 83 x11_1 x11_2 s_w_11 rr ss)))))))))))))))))
def T_X9_rankRow_83 (K : Nat → Int → Int → PS → Int → PS → Prop) (x83_1 x83_2 : Int) (s_w83 : PS) (rr : Int) (ss : PS) : Prop := ((TyX s_w83) ∧ ((0 ≤ x83_1 ∧ x83_1 ≤ 39) ∧ ((0 ≤ x83_2 ∧ x83_2 ≤ 9) ∧ (K 11 x83_1 (x83_2 + 1) s_w83 rr ss))))
def T_X9_rankRow_89 (K : Nat → Int → Int → PS → Int → PS → Prop) (x89_1 x89_2 : Int) (s_w89 : PS) (rr : Int) (ss : PS) : Prop := ((TyX s_w89) ∧ ((0 ≤ x89_1 ∧ x89_1 ≤ 39) ∧ ((0 ≤ x89_2 ∧ x89_2 ≤ 10) ∧ (∃ s_w_2 : PS, s_w_2 = (us s_w89 82 x89_1.toNat (wi ((iShl 1 (s_w89 64 0)) - 1))) ∧ (rr = 0 ∧ ss = s_w_2)))))
def T_X9_rankRow_e (K : Nat → Int → Int → PS → Int → PS → Prop) (s_w : PS) (p1 : Int) (rr : Int) (ss : PS) : Prop := ((TyX s_w) ∧ ((0 ≤ p1 ∧ p1 ≤ 39) ∧ (∃ s_w_34 : PS, s_w_34 = (us s_w 81 2 p1) ∧ (∃ s_w_35 : PS, ((M_X9_freshSearch s_w_34 0 s_w_35) ∧ ((Fr intsX [81] [(81, 4), (81, 10), (81, 11), (81, 12), (81, 13), (81, 14), (81, 15)] s_w_34 s_w_35) ∧ ((TyX s_w_35) ∧ (K 11 p1 0 s_w_35 rr ss))))))))
def It_X9_rankRow : Nat → Nat → Int → Int → PS → Int → PS → Prop
  | 0, _, _, _, _, _, _ => False
  | n + 1, pc, a0, a1, s, r, t => (pc = 11 ∧ T_X9_rankRow_11 (It_X9_rankRow n) a0 a1 s r t) ∨ (pc = 83 ∧ T_X9_rankRow_83 (It_X9_rankRow n) a0 a1 s r t) ∨ (pc = 89 ∧ T_X9_rankRow_89 (It_X9_rankRow n) a0 a1 s r t)
theorem rl_X9_rankRow_11 {n : Nat} {a0 a1 : Int} {s t : PS} {r : Int} (h : T_X9_rankRow_11 (It_X9_rankRow n) a0 a1 s r t) : It_X9_rankRow (n + 1) 11 a0 a1 s r t := Or.inl ⟨rfl, h⟩
theorem rl_X9_rankRow_83 {n : Nat} {a0 a1 : Int} {s t : PS} {r : Int} (h : T_X9_rankRow_83 (It_X9_rankRow n) a0 a1 s r t) : It_X9_rankRow (n + 1) 83 a0 a1 s r t := Or.inr (Or.inl ⟨rfl, h⟩)
theorem rl_X9_rankRow_89 {n : Nat} {a0 a1 : Int} {s t : PS} {r : Int} (h : T_X9_rankRow_89 (It_X9_rankRow n) a0 a1 s r t) : It_X9_rankRow (n + 1) 89 a0 a1 s r t := Or.inr (Or.inr (⟨rfl, h⟩))
theorem ul_X9_rankRow_11 {n : Nat} {a0 a1 : Int} {s t : PS} {r : Int} (h : It_X9_rankRow (n + 1) 11 a0 a1 s r t) : T_X9_rankRow_11 (It_X9_rankRow n) a0 a1 s r t := by
  have h2 : ((11 : Nat) = 11 ∧ T_X9_rankRow_11 (It_X9_rankRow n) a0 a1 s r t) ∨ ((11 : Nat) = 83 ∧ T_X9_rankRow_83 (It_X9_rankRow n) a0 a1 s r t) ∨ ((11 : Nat) = 89 ∧ T_X9_rankRow_89 (It_X9_rankRow n) a0 a1 s r t) := h
  rcases h2 with ⟨e, h2⟩ | ⟨e, h2⟩ | ⟨e, h2⟩
  · exact h2
  · exact absurd e (by decide)
  · exact absurd e (by decide)
theorem ul_X9_rankRow_83 {n : Nat} {a0 a1 : Int} {s t : PS} {r : Int} (h : It_X9_rankRow (n + 1) 83 a0 a1 s r t) : T_X9_rankRow_83 (It_X9_rankRow n) a0 a1 s r t := by
  have h2 : ((83 : Nat) = 11 ∧ T_X9_rankRow_11 (It_X9_rankRow n) a0 a1 s r t) ∨ ((83 : Nat) = 83 ∧ T_X9_rankRow_83 (It_X9_rankRow n) a0 a1 s r t) ∨ ((83 : Nat) = 89 ∧ T_X9_rankRow_89 (It_X9_rankRow n) a0 a1 s r t) := h
  rcases h2 with ⟨e, h2⟩ | ⟨e, h2⟩ | ⟨e, h2⟩
  · exact absurd e (by decide)
  · exact h2
  · exact absurd e (by decide)
theorem ul_X9_rankRow_89 {n : Nat} {a0 a1 : Int} {s t : PS} {r : Int} (h : It_X9_rankRow (n + 1) 89 a0 a1 s r t) : T_X9_rankRow_89 (It_X9_rankRow n) a0 a1 s r t := by
  have h2 : ((89 : Nat) = 11 ∧ T_X9_rankRow_11 (It_X9_rankRow n) a0 a1 s r t) ∨ ((89 : Nat) = 83 ∧ T_X9_rankRow_83 (It_X9_rankRow n) a0 a1 s r t) ∨ ((89 : Nat) = 89 ∧ T_X9_rankRow_89 (It_X9_rankRow n) a0 a1 s r t) := h
  rcases h2 with ⟨e, h2⟩ | ⟨e, h2⟩ | ⟨e, h2⟩
  · exact absurd e (by decide)
  · exact absurd e (by decide)
  · exact h2
def M_X9_rankRow (s : PS) (p1 : Int) (r : Int) (t : PS) : Prop := ∃ n, T_X9_rankRow_e (It_X9_rankRow n) s p1 r t
theorem mk_X9_rankRow {n : Nat} {s t : PS} {p1 : Int} {r : Int} (h : T_X9_rankRow_e (It_X9_rankRow n) s p1 r t) : M_X9_rankRow s p1 r t := ⟨n, h⟩
def T_X9_deal_35 (K : Nat → Int → PS → Int → PS → Prop) (x35_1 : Int) (s_w35 : PS) (rr : Int) (ss : PS) : Prop := ((TyX s_w35) ∧ ((0 ≤ x35_1 ∧ x35_1 ≤ 40) ∧ ((40 ≤ x35_1 ∧ (rr = 0 ∧ ss = s_w35)) ∨ (¬ (40 ≤ x35_1) ∧ (((s_w35 67 x35_1.toNat) = (-1) ∧ (K 67 x35_1 s_w35 rr ss)) ∨ (¬ ((s_w35 67 x35_1.toNat) = (-1)) ∧ (∃ s_w_4 : PS, ((M_X9_rankRow s_w35 (s_w35 67 x35_1.toNat) 0 s_w_4) ∧ ((Fr intsX [70, 71, 73, 81, 82, 83, 84, 85, 86, 87] [(81, 2), (81, 4), (81, 10), (81, 11), (81, 12), (81, 13), (81, 14), (81, 15)] s_w35 s_w_4) ∧ ((TyX s_w_4) ∧ (K 67 x35_1 s_w_4 rr ss)))))))))))
def T_X9_deal_67 (K : Nat → Int → PS → Int → PS → Prop) (x67_1 : Int) (s_w67 : PS) (rr : Int) (ss : PS) : Prop := ((TyX s_w67) ∧ ((0 ≤ x67_1 ∧ x67_1 ≤ 39) ∧ (K 35 (x67_1 + 1) s_w67 rr ss)))
def T_X9_deal_e (K : Nat → Int → PS → Int → PS → Prop) (s_w : PS) (rr : Int) (ss : PS) : Prop := ((TyX s_w) ∧ (((s_w 64 1) = 0 ∧ (rr = 0 ∧ ss = s_w)) ∨ (¬ ((s_w 64 1) = 0) ∧ (∃ s_w_9 : PS, ((M_X2_fill s_w 0 s_w_9) ∧ ((Fr intsX [70, 71, 73, 74, 75, 76, 77, 78, 79, 80] [(74, 9), (74, 10)] s_w s_w_9) ∧ ((TyX s_w_9) ∧ (∃ s_w_12 : PS, ((M_X2_level s_w_9 0 s_w_12) ∧ ((Fr intsX [74, 75, 76, 77, 78, 79, 80] [(74, 5), (74, 6), (74, 9), (74, 10)] s_w_9 s_w_12) ∧ ((TyX s_w_12) ∧ (∃ s_w_15 : PS, ((M_J7_fill_53178_82 s_w_12 0 0 s_w_15) ∧ ((Fr intsX [82] [] s_w_12 s_w_15) ∧ ((TyX s_w_15) ∧ (K 35 0 s_w_15 rr ss))))))))))))))))
def It_X9_deal : Nat → Nat → Int → PS → Int → PS → Prop
  | 0, _, _, _, _, _ => False
  | n + 1, pc, a0, s, r, t => (pc = 35 ∧ T_X9_deal_35 (It_X9_deal n) a0 s r t) ∨ (pc = 67 ∧ T_X9_deal_67 (It_X9_deal n) a0 s r t)
theorem rl_X9_deal_35 {n : Nat} {a0 : Int} {s t : PS} {r : Int} (h : T_X9_deal_35 (It_X9_deal n) a0 s r t) : It_X9_deal (n + 1) 35 a0 s r t := Or.inl ⟨rfl, h⟩
theorem rl_X9_deal_67 {n : Nat} {a0 : Int} {s t : PS} {r : Int} (h : T_X9_deal_67 (It_X9_deal n) a0 s r t) : It_X9_deal (n + 1) 67 a0 s r t := Or.inr (⟨rfl, h⟩)
theorem ul_X9_deal_35 {n : Nat} {a0 : Int} {s t : PS} {r : Int} (h : It_X9_deal (n + 1) 35 a0 s r t) : T_X9_deal_35 (It_X9_deal n) a0 s r t := by
  have h2 : ((35 : Nat) = 35 ∧ T_X9_deal_35 (It_X9_deal n) a0 s r t) ∨ ((35 : Nat) = 67 ∧ T_X9_deal_67 (It_X9_deal n) a0 s r t) := h
  rcases h2 with ⟨e, h2⟩ | ⟨e, h2⟩
  · exact h2
  · exact absurd e (by decide)
theorem ul_X9_deal_67 {n : Nat} {a0 : Int} {s t : PS} {r : Int} (h : It_X9_deal (n + 1) 67 a0 s r t) : T_X9_deal_67 (It_X9_deal n) a0 s r t := by
  have h2 : ((67 : Nat) = 35 ∧ T_X9_deal_35 (It_X9_deal n) a0 s r t) ∨ ((67 : Nat) = 67 ∧ T_X9_deal_67 (It_X9_deal n) a0 s r t) := h
  rcases h2 with ⟨e, h2⟩ | ⟨e, h2⟩
  · exact absurd e (by decide)
  · exact h2
def M_X9_deal (s : PS) (r : Int) (t : PS) : Prop := ∃ n, T_X9_deal_e (It_X9_deal n) s r t
theorem mk_X9_deal {n : Nat} {s t : PS} {r : Int} (h : T_X9_deal_e (It_X9_deal n) s r t) : M_X9_deal s r t := ⟨n, h⟩
def T_X11_give_28 (K : Int → PS → Int → PS → Prop) (x28_1 : Int) (s_w28 : PS) (rr : Int) (ss : PS) : Prop := ((TyX s_w28) ∧ ((1 ≤ x28_1 ∧ x28_1 ≤ 25) ∧ ((24 < x28_1 ∧ (∃ s_w_2 : PS, ((M_X9_deal s_w28 0 s_w_2) ∧ ((Fr intsX [70, 71, 73, 74, 75, 76, 77, 78, 79, 80, 81, 82, 83, 84, 85, 86, 87] [(74, 5), (74, 6), (74, 9), (74, 10), (81, 2), (81, 4), (81, 10), (81, 11), (81, 12), (81, 13), (81, 14), (81, 15)] s_w28 s_w_2) ∧ ((TyX s_w_2) ∧ (∃ r_7 : Int, (∃ s_w_6 : PS, ((M_X4_keep_1_42_56_64_109 s_w_2 r_7 s_w_6) ∧ ((Fr intsX [88, 89, 90, 91, 92, 93, 94, 95, 96] [(88, 0), (88, 1), (88, 10), (88, 11)] s_w_2 s_w_6) ∧ ((TyX s_w_6) ∧ (rr = r_7 ∧ ss = s_w_6))))))))))) ∨ (¬ (24 < x28_1) ∧ (∃ s_w_9 : PS, ((M_X6_addCome_109 s_w28 x28_1 (s_w28 1 0) 0 s_w_9) ∧ ((Fr intsX [109] [] s_w28 s_w_9) ∧ ((TyX s_w_9) ∧ (∃ s_w_12 : PS, ((M_X3_addDay_42_56_109 s_w_9 x28_1 0 s_w_12) ∧ ((Fr intsX [64, 65, 66, 67, 68, 69, 70, 71, 72, 73] [(64, 1), (64, 2)] s_w_9 s_w_12) ∧ ((TyX s_w_12) ∧ (K (x28_1 + 1) s_w_12 rr ss)))))))))))))
def T_X11_give_e (K : Int → PS → Int → PS → Prop) (s_w : PS) (rr : Int) (ss : PS) : Prop := ((TyX s_w) ∧ (∃ s_w_18 : PS, ((M_X11_weighAll s_w 0 s_w_18) ∧ ((Fr intsX [42, 43, 44, 45, 46, 47, 48, 49, 50, 51, 52, 53, 54, 55, 57, 58, 59, 60, 61, 62, 63] [(42, 0), (42, 1), (42, 2)] s_w s_w_18) ∧ ((TyX s_w_18) ∧ (∃ s_w_21 : PS, ((M_X3_clear s_w_18 (s_w 1 0) 0 s_w_21) ∧ ((Fr intsX [64, 66, 67] [(64, 0), (64, 1), (64, 2)] s_w_18 s_w_21) ∧ ((TyX s_w_21) ∧ (∃ s_w_27 : PS, ((M_J7_fill_53178_109 s_w_21 0 0 s_w_27) ∧ ((Fr intsX [109] [] s_w_21 s_w_27) ∧ ((TyX s_w_27) ∧ (K 1 s_w_27 rr ss))))))))))))))
def It_X11_give : Nat → Int → PS → Int → PS → Prop
  | 0, _, _, _, _ => False
  | n + 1, a0, s, r, t => T_X11_give_28 (It_X11_give n) a0 s r t
theorem rl_X11_give_28 {n : Nat} {a0 : Int} {s t : PS} {r : Int} (h : T_X11_give_28 (It_X11_give n) a0 s r t) : It_X11_give (n + 1) a0 s r t := h
theorem ul_X11_give_28 {n : Nat} {a0 : Int} {s t : PS} {r : Int} (h : It_X11_give (n + 1) a0 s r t) : T_X11_give_28 (It_X11_give n) a0 s r t := h
def M_X11_give (s : PS) (r : Int) (t : PS) : Prop := ∃ n, T_X11_give_e (It_X11_give n) s r t
theorem mk_X11_give {n : Nat} {s t : PS} {r : Int} (h : T_X11_give_e (It_X11_give n) s r t) : M_X11_give s r t := ⟨n, h⟩
def T_X4_lacking_5 (K : Nat → Int → Int → Int → Int → PS → Int → PS → Prop) (x5_1 x5_2 x5_3 x5_4 : Int) (s_w5 : PS) (rr : Int) (ss : PS) : Prop := ((TyX s_w5) ∧ ((0 ≤ x5_4 ∧ x5_4 ≤ 40) ∧ (((s_w5 88 1) ≤ x5_4 ∧ (rr = x5_3 ∧ ss = s_w5)) ∨ (¬ ((s_w5 88 1) ≤ x5_4) ∧ (((s_w5 89 x5_4.toNat) < x5_1 ∧ (K 54 x5_1 x5_2 x5_3 x5_4 s_w5 rr ss)) ∨ (¬ ((s_w5 89 x5_4.toNat) < x5_1) ∧ ((x5_2 < (s_w5 89 x5_4.toNat) ∧ (K 54 x5_1 x5_2 x5_3 x5_4 s_w5 rr ss)) ∨ (¬ (x5_2 < (s_w5 89 x5_4.toNat)) ∧ (K 54 x5_1 x5_2 (wi (x5_3 + (wi ((s_w5 92 x5_4.toNat) - (s_w5 94 x5_4.toNat))))) x5_4 s_w5 rr ss)))))))))
def T_X4_lacking_54 (K : Nat → Int → Int → Int → Int → PS → Int → PS → Prop) (x54_1 x54_2 x54_3 x54_4 : Int) (s_w54 : PS) (rr : Int) (ss : PS) : Prop := ((TyX s_w54) ∧ ((0 ≤ x54_4 ∧ x54_4 ≤ 39) ∧ (K 5 x54_1 x54_2 x54_3 (x54_4 + 1) s_w54 rr ss)))
def T_X4_lacking_e (K : Nat → Int → Int → Int → Int → PS → Int → PS → Prop) (s_w : PS) (p1 p2 : Int) (rr : Int) (ss : PS) : Prop := ((TyX s_w) ∧ (K 5 p1 p2 0 0 s_w rr ss))
def It_X4_lacking : Nat → Nat → Int → Int → Int → Int → PS → Int → PS → Prop
  | 0, _, _, _, _, _, _, _, _ => False
  | n + 1, pc, a0, a1, a2, a3, s, r, t => (pc = 5 ∧ T_X4_lacking_5 (It_X4_lacking n) a0 a1 a2 a3 s r t) ∨ (pc = 54 ∧ T_X4_lacking_54 (It_X4_lacking n) a0 a1 a2 a3 s r t)
theorem rl_X4_lacking_5 {n : Nat} {a0 a1 a2 a3 : Int} {s t : PS} {r : Int} (h : T_X4_lacking_5 (It_X4_lacking n) a0 a1 a2 a3 s r t) : It_X4_lacking (n + 1) 5 a0 a1 a2 a3 s r t := Or.inl ⟨rfl, h⟩
theorem rl_X4_lacking_54 {n : Nat} {a0 a1 a2 a3 : Int} {s t : PS} {r : Int} (h : T_X4_lacking_54 (It_X4_lacking n) a0 a1 a2 a3 s r t) : It_X4_lacking (n + 1) 54 a0 a1 a2 a3 s r t := Or.inr (⟨rfl, h⟩)
theorem ul_X4_lacking_5 {n : Nat} {a0 a1 a2 a3 : Int} {s t : PS} {r : Int} (h : It_X4_lacking (n + 1) 5 a0 a1 a2 a3 s r t) : T_X4_lacking_5 (It_X4_lacking n) a0 a1 a2 a3 s r t := by
  have h2 : ((5 : Nat) = 5 ∧ T_X4_lacking_5 (It_X4_lacking n) a0 a1 a2 a3 s r t) ∨ ((5 : Nat) = 54 ∧ T_X4_lacking_54 (It_X4_lacking n) a0 a1 a2 a3 s r t) := h
  rcases h2 with ⟨e, h2⟩ | ⟨e, h2⟩
  · exact h2
  · exact absurd e (by decide)
theorem ul_X4_lacking_54 {n : Nat} {a0 a1 a2 a3 : Int} {s t : PS} {r : Int} (h : It_X4_lacking (n + 1) 54 a0 a1 a2 a3 s r t) : T_X4_lacking_54 (It_X4_lacking n) a0 a1 a2 a3 s r t := by
  have h2 : ((54 : Nat) = 5 ∧ T_X4_lacking_5 (It_X4_lacking n) a0 a1 a2 a3 s r t) ∨ ((54 : Nat) = 54 ∧ T_X4_lacking_54 (It_X4_lacking n) a0 a1 a2 a3 s r t) := h
  rcases h2 with ⟨e, h2⟩ | ⟨e, h2⟩
  · exact absurd e (by decide)
  · exact h2
def M_X4_lacking (s : PS) (p1 p2 : Int) (r : Int) (t : PS) : Prop := ∃ n, T_X4_lacking_e (It_X4_lacking n) s p1 p2 r t
theorem mk_X4_lacking {n : Nat} {s t : PS} {p1 p2 : Int} {r : Int} (h : T_X4_lacking_e (It_X4_lacking n) s p1 p2 r t) : M_X4_lacking s p1 p2 r t := ⟨n, h⟩
