def T_X6_mates_15 (K : Nat → Int → Int → Int → PS → Int → PS → Prop) (x15_1 x15_2 x15_3 : Int) (s_w15 : PS) (rr : Int) (ss : PS) : Prop := ((TyX s_w15) ∧ ((0 ≤ x15_1 ∧ x15_1 ≤ 39) ∧ ((0 ≤ x15_3 ∧ x15_3 ≤ 40) ∧ (((s_w15 42 2) ≤ x15_3 ∧ (rr = x15_2 ∧ ss = s_w15)) ∨ (¬ ((s_w15 42 2) ≤ x15_3) ∧ (((s_w15 48 x15_3.toNat) = (s_w15 48 x15_1.toNat) ∧ (K 41 x15_1 (wi (x15_2 + 1)) x15_3 s_w15 rr ss)) ∨ (¬ ((s_w15 48 x15_3.toNat) = (s_w15 48 x15_1.toNat)) ∧ (K 41 x15_1 x15_2 x15_3 s_w15 rr ss))))))))
def T_X6_mates_41 (K : Nat → Int → Int → Int → PS → Int → PS → Prop) (x41_1 x41_2 x41_3 : Int) (s_w41 : PS) (rr : Int) (ss : PS) : Prop := ((TyX s_w41) ∧ ((0 ≤ x41_1 ∧ x41_1 ≤ 39) ∧ ((0 ≤ x41_3 ∧ x41_3 ≤ 39) ∧ (K 15 x41_1 x41_2 (x41_3 + 1) s_w41 rr ss))))
def T_X6_mates_e (K : Nat → Int → Int → Int → PS → Int → PS → Prop) (s_w : PS) (p1 : Int) (rr : Int) (ss : PS) : Prop := ((TyX s_w) ∧ ((0 ≤ p1 ∧ p1 ≤ 39) ∧ (((s_w 48 p1.toNat) = 0 ∧ (rr = 1 ∧ ss = s_w)) ∨ (¬ ((s_w 48 p1.toNat) = 0) ∧ (K 15 p1 0 0 s_w rr ss)))))
def It_X6_mates : Nat → Nat → Int → Int → Int → PS → Int → PS → Prop
  | 0, _, _, _, _, _, _, _ => False
  | n + 1, pc, a0, a1, a2, s, r, t => (pc = 15 ∧ T_X6_mates_15 (It_X6_mates n) a0 a1 a2 s r t) ∨ (pc = 41 ∧ T_X6_mates_41 (It_X6_mates n) a0 a1 a2 s r t)
theorem rl_X6_mates_15 {n : Nat} {a0 a1 a2 : Int} {s t : PS} {r : Int} (h : T_X6_mates_15 (It_X6_mates n) a0 a1 a2 s r t) : It_X6_mates (n + 1) 15 a0 a1 a2 s r t := Or.inl ⟨rfl, h⟩
theorem rl_X6_mates_41 {n : Nat} {a0 a1 a2 : Int} {s t : PS} {r : Int} (h : T_X6_mates_41 (It_X6_mates n) a0 a1 a2 s r t) : It_X6_mates (n + 1) 41 a0 a1 a2 s r t := Or.inr (⟨rfl, h⟩)
theorem ul_X6_mates_15 {n : Nat} {a0 a1 a2 : Int} {s t : PS} {r : Int} (h : It_X6_mates (n + 1) 15 a0 a1 a2 s r t) : T_X6_mates_15 (It_X6_mates n) a0 a1 a2 s r t := by
  have h2 : ((15 : Nat) = 15 ∧ T_X6_mates_15 (It_X6_mates n) a0 a1 a2 s r t) ∨ ((15 : Nat) = 41 ∧ T_X6_mates_41 (It_X6_mates n) a0 a1 a2 s r t) := h
  rcases h2 with ⟨e, h2⟩ | ⟨e, h2⟩
  · exact h2
  · exact absurd e (by decide)
theorem ul_X6_mates_41 {n : Nat} {a0 a1 a2 : Int} {s t : PS} {r : Int} (h : It_X6_mates (n + 1) 41 a0 a1 a2 s r t) : T_X6_mates_41 (It_X6_mates n) a0 a1 a2 s r t := by
  have h2 : ((41 : Nat) = 15 ∧ T_X6_mates_15 (It_X6_mates n) a0 a1 a2 s r t) ∨ ((41 : Nat) = 41 ∧ T_X6_mates_41 (It_X6_mates n) a0 a1 a2 s r t) := h
  rcases h2 with ⟨e, h2⟩ | ⟨e, h2⟩
  · exact absurd e (by decide)
  · exact h2
def M_X6_mates (s : PS) (p1 : Int) (r : Int) (t : PS) : Prop := ∃ n, T_X6_mates_e (It_X6_mates n) s p1 r t
theorem mk_X6_mates {n : Nat} {s t : PS} {p1 : Int} {r : Int} (h : T_X6_mates_e (It_X6_mates n) s p1 r t) : M_X6_mates s p1 r t := ⟨n, h⟩
def T_X5_gatherFacts_1_42_69 (K : Nat → Int → Int → Int → Int → PS → Int → PS → Prop) (x69_3 x69_4 : Int) (s_w69 : PS) (rr : Int) (ss : PS) : Prop := ((TyX s_w69) ∧ ((0 ≤ x69_3 ∧ x69_3 ≤ 39) ∧ ((0 ≤ x69_4 ∧ x69_4 ≤ 200) ∧ (((s_w69 1 19) ≤ x69_4 ∧ (rr = 0 ∧ ss = s_w69)) ∨ (¬ ((s_w69 1 19) ≤ x69_4) ∧ (∃ r_5 : Int, (∃ s_w_4 : PS, ((M_X6_wants s_w69 x69_3 (s_w69 15 x69_4.toNat) r_5 s_w_4) ∧ ((Fr intsX [] [] s_w69 s_w_4) ∧ ((TyX s_w_4) ∧ ((0 ≤ r_5 ∧ r_5 ≤ 1) ∧ ((r_5 = 0 ∧ (K 104 x69_3 x69_4 0 x69_4 s_w_4 rr ss)) ∨ (¬ (r_5 = 0) ∧ (K 104 x69_3 x69_4 1 x69_4 s_w_4 rr ss))))))))))))))
def T_X5_gatherFacts_1_42_104 (K : Nat → Int → Int → Int → Int → PS → Int → PS → Prop) (x104_3 x104_4 y104_0 y104_1 : Int) (s_w104 : PS) (rr : Int) (ss : PS) : Prop := ((TyX s_w104) ∧ ((0 ≤ x104_3 ∧ x104_3 ≤ 39) ∧ ((0 ≤ x104_4 ∧ x104_4 ≤ 199) ∧ ((0 ≤ y104_0 ∧ y104_0 ≤ 1) ∧ ((0 ≤ y104_1 ∧ y104_1 ≤ 199) ∧ (∃ s_w_1 : PS, s_w_1 = (us s_w104 62 y104_1.toNat y104_0) ∧ (K 69 x104_3 (x104_4 + 1) 0 0 s_w_1 rr ss)))))))
def T_X5_gatherFacts_1_42_e (K : Nat → Int → Int → Int → Int → PS → Int → PS → Prop) (s_w : PS) (p3 : Int) (rr : Int) (ss : PS) : Prop := ((TyX s_w) ∧ ((0 ≤ p3 ∧ p3 ≤ 39) ∧ (∃ s_w_9 : PS, s_w_9 = (us s_w 61 0 (s_w 44 p3.toNat)) ∧ (∃ s_w_13 : PS, s_w_13 = (us s_w_9 61 1 (wi ((s_w 46 p3.toNat) - (s_w 45 p3.toNat)))) ∧ (∃ s_w_15 : PS, s_w_15 = (us s_w_13 61 2 (s_w 47 p3.toNat)) ∧ (∃ r_17 : Int, (∃ s_w_16 : PS, ((M_X6_mates s_w_15 p3 r_17 s_w_16) ∧ ((Fr intsX [] [] s_w_15 s_w_16) ∧ ((TyX s_w_16) ∧ (∃ s_w_19 : PS, s_w_19 = (us s_w_16 61 3 r_17) ∧ (∃ s_w_21 : PS, s_w_21 = (us s_w_19 61 4 (s_w 51 p3.toNat)) ∧ (K 69 p3 0 0 0 s_w_21 rr ss)))))))))))))
def It_X5_gatherFacts_1_42 : Nat → Nat → Int → Int → Int → Int → PS → Int → PS → Prop
  | 0, _, _, _, _, _, _, _, _ => False
  | n + 1, pc, a0, a1, a2, a3, s, r, t => (pc = 69 ∧ T_X5_gatherFacts_1_42_69 (It_X5_gatherFacts_1_42 n) a0 a1 s r t) ∨ (pc = 104 ∧ T_X5_gatherFacts_1_42_104 (It_X5_gatherFacts_1_42 n) a0 a1 a2 a3 s r t)
theorem rl_X5_gatherFacts_1_42_69 {n : Nat} {a0 a1 : Int} {s t : PS} {r : Int} (h : T_X5_gatherFacts_1_42_69 (It_X5_gatherFacts_1_42 n) a0 a1 s r t) : It_X5_gatherFacts_1_42 (n + 1) 69 a0 a1 0 0 s r t := Or.inl ⟨rfl, h⟩
theorem rl_X5_gatherFacts_1_42_104 {n : Nat} {a0 a1 a2 a3 : Int} {s t : PS} {r : Int} (h : T_X5_gatherFacts_1_42_104 (It_X5_gatherFacts_1_42 n) a0 a1 a2 a3 s r t) : It_X5_gatherFacts_1_42 (n + 1) 104 a0 a1 a2 a3 s r t := Or.inr (⟨rfl, h⟩)
theorem ul_X5_gatherFacts_1_42_69 {n : Nat} {a0 a1 a2 a3 : Int} {s t : PS} {r : Int} (h : It_X5_gatherFacts_1_42 (n + 1) 69 a0 a1 a2 a3 s r t) : T_X5_gatherFacts_1_42_69 (It_X5_gatherFacts_1_42 n) a0 a1 s r t := by
  have h2 : ((69 : Nat) = 69 ∧ T_X5_gatherFacts_1_42_69 (It_X5_gatherFacts_1_42 n) a0 a1 s r t) ∨ ((69 : Nat) = 104 ∧ T_X5_gatherFacts_1_42_104 (It_X5_gatherFacts_1_42 n) a0 a1 a2 a3 s r t) := h
  rcases h2 with ⟨e, h2⟩ | ⟨e, h2⟩
  · exact h2
  · exact absurd e (by decide)
theorem ul_X5_gatherFacts_1_42_104 {n : Nat} {a0 a1 a2 a3 : Int} {s t : PS} {r : Int} (h : It_X5_gatherFacts_1_42 (n + 1) 104 a0 a1 a2 a3 s r t) : T_X5_gatherFacts_1_42_104 (It_X5_gatherFacts_1_42 n) a0 a1 a2 a3 s r t := by
  have h2 : ((104 : Nat) = 69 ∧ T_X5_gatherFacts_1_42_69 (It_X5_gatherFacts_1_42 n) a0 a1 s r t) ∨ ((104 : Nat) = 104 ∧ T_X5_gatherFacts_1_42_104 (It_X5_gatherFacts_1_42 n) a0 a1 a2 a3 s r t) := h
  rcases h2 with ⟨e, h2⟩ | ⟨e, h2⟩
  · exact absurd e (by decide)
  · exact h2
def M_X5_gatherFacts_1_42 (s : PS) (p3 : Int) (r : Int) (t : PS) : Prop := ∃ n, T_X5_gatherFacts_1_42_e (It_X5_gatherFacts_1_42 n) s p3 r t
theorem mk_X5_gatherFacts_1_42 {n : Nat} {s t : PS} {p3 : Int} {r : Int} (h : T_X5_gatherFacts_1_42_e (It_X5_gatherFacts_1_42 n) s p3 r t) : M_X5_gatherFacts_1_42 s p3 r t := ⟨n, h⟩
def T_X5_leaf_1_e (s_w : PS) (p2 p3 p4 : Int) (rr : Int) (ss : PS) : Prop := ((TyX s_w) ∧ ((0 ≤ p2 ∧ p2 ≤ 6) ∧ ((1 ≤ p4 ∧ p4 ≤ 1) ∧ ((p2 = 2 ∧ (rr = (s_w 61 p3.toNat) ∧ ss = s_w)) ∨ (¬ (p2 = 2) ∧ ((p2 = 3 ∧ (rr = p4 ∧ ss = s_w)) ∨ (¬ (p2 = 3) ∧ ((p2 = 4 ∧ (rr = (s_w 62 p3.toNat) ∧ ss = s_w)) ∨ (¬ (p2 = 4) ∧ ((p2 = 5 ∧ (rr = (iShl 1 p3) ∧ ss = s_w)) ∨ (¬ (p2 = 5) ∧ ((p2 = 6 ∧ (rr = (s_w 7 p3.toNat) ∧ ss = s_w)) ∨ (¬ (p2 = 6) ∧ (rr = p3 ∧ ss = s_w))))))))))))))
def M_X5_leaf_1 (s : PS) (p2 p3 p4 : Int) (r : Int) (t : PS) : Prop := T_X5_leaf_1_e s p2 p3 p4 r t
theorem mk_X5_leaf_1 {s t : PS} {p2 p3 p4 : Int} {r : Int} (h : T_X5_leaf_1_e s p2 p3 p4 r t) : M_X5_leaf_1 s p2 p3 p4 r t := h
def T_X5_value_1_6 (K : Nat → Int → Int → Int → Int → Int → Int → PS → Int → PS → Prop) (x6_2 x6_3 x6_4 x6_5 x6_6 : Int) (s_w6 : PS) (rr : Int) (ss : PS) : Prop := ((TyX s_w6) ∧ ((0 ≤ x6_2 ∧ x6_2 ≤ 1000) ∧ ((0 ≤ x6_3 ∧ x6_3 ≤ 1000) ∧ ((1 ≤ x6_4 ∧ x6_4 ≤ 1) ∧ ((0 ≤ x6_5 ∧ x6_5 ≤ 64) ∧ ((0 ≤ x6_6 ∧ x6_6 ≤ 1000) ∧ ((x6_3 ≤ x6_6 ∧ ((x6_5 ≤ 0 ∧ (rr = 0 ∧ ss = s_w6)) ∨ (¬ (x6_5 ≤ 0) ∧ (rr = (s_w6 63 0) ∧ ss = s_w6)))) ∨ (¬ (x6_3 ≤ x6_6) ∧ ((7 ≤ (iAnd (s_w6 14 x6_6.toNat) 15) ∧ (((iAnd (s_w6 14 x6_6.toNat) 15) = 7 ∧ ((x6_5 ≤ 0 ∧ (K 137 x6_2 x6_3 x6_4 x6_5 x6_6 (iAnd (s_w6 14 x6_6.toNat) 15) s_w6 rr ss)) ∨ (¬ (x6_5 ≤ 0) ∧ (∃ s_w_17 : PS, s_w_17 = (us s_w6 63 (x6_5 - 1).toNat (iXor (s_w6 63 (x6_5 - 1).toNat) x6_4)) ∧ (K 137 x6_2 x6_3 x6_4 x6_5 x6_6 (iAnd (s_w6 14 x6_6.toNat) 15) s_w_17 rr ss))))) ∨ (¬ ((iAnd (s_w6 14 x6_6.toNat) 15) = 7) ∧ ((x6_5 ≤ 1 ∧ (K 137 x6_2 x6_3 x6_4 x6_5 x6_6 (iAnd (s_w6 14 x6_6.toNat) 15) s_w6 rr ss)) ∨ (¬ (x6_5 ≤ 1) ∧ (∃ r_11 : Int, (∃ s_w_10 : PS, ((M_X5_joined s_w6 (iAnd (s_w6 14 x6_6.toNat) 15) (s_w6 63 ((x6_5 + (-1)) - 1).toNat) (s_w6 63 (x6_5 + (-1)).toNat) r_11 s_w_10) ∧ ((Fr intsX [] [] s_w6 s_w_10) ∧ ((TyX s_w_10) ∧ (∃ s_w_13 : PS, s_w_13 = (us s_w_10 63 ((x6_5 + (-1)) - 1).toNat r_11) ∧ (K 137 x6_2 x6_3 x6_4 (x6_5 + (-1)) x6_6 (iAnd (s_w6 14 x6_6.toNat) 15) s_w_13 rr ss)))))))))))) ∨ (¬ (7 ≤ (iAnd (s_w6 14 x6_6.toNat) 15)) ∧ ((64 ≤ x6_5 ∧ (K 137 x6_2 x6_3 x6_4 x6_5 x6_6 (iAnd (s_w6 14 x6_6.toNat) 15) s_w6 rr ss)) ∨ (¬ (64 ≤ x6_5) ∧ (∃ r_21 : Int, (∃ s_w_20 : PS, ((M_X5_leaf_1 s_w6 (iAnd (s_w6 14 x6_6.toNat) 15) (iShr (s_w6 14 x6_6.toNat) 4) x6_4 r_21 s_w_20) ∧ ((Fr intsX [] [] s_w6 s_w_20) ∧ ((TyX s_w_20) ∧ (∃ s_w_23 : PS, s_w_23 = (us s_w_20 63 x6_5.toNat r_21) ∧ (K 137 x6_2 x6_3 x6_4 (x6_5 + 1) x6_6 (iAnd (s_w6 14 x6_6.toNat) 15) s_w_23 rr ss)))))))))))))))))))
def T_X5_value_1_137 (K : Nat → Int → Int → Int → Int → Int → Int → PS → Int → PS → Prop) (x137_2 x137_3 x137_4 x137_5 x137_6 x137_7 : Int) (s_w137 : PS) (rr : Int) (ss : PS) : Prop := ((TyX s_w137) ∧ ((0 ≤ x137_2 ∧ x137_2 ≤ 1000) ∧ ((1 ≤ x137_3 ∧ x137_3 ≤ 1000) ∧ ((1 ≤ x137_4 ∧ x137_4 ≤ 1) ∧ ((0 ≤ x137_5 ∧ x137_5 ≤ 64) ∧ ((0 ≤ x137_6 ∧ x137_6 ≤ 999) ∧ ((0 ≤ x137_7 ∧ x137_7 ≤ 15) ∧ (K 6 x137_2 x137_3 x137_4 x137_5 (x137_6 + 1) 0 s_w137 rr ss))))))))
def T_X5_value_1_e (K : Nat → Int → Int → Int → Int → Int → Int → PS → Int → PS → Prop) (s_w : PS) (p2 p3 p4 : Int) (rr : Int) (ss : PS) : Prop := ((TyX s_w) ∧ ((0 ≤ p2 ∧ p2 ≤ 1000) ∧ ((0 ≤ p3 ∧ p3 ≤ 1000) ∧ ((1 ≤ p4 ∧ p4 ≤ 1) ∧ (K 6 p2 p3 p4 0 p2 0 s_w rr ss)))))
def It_X5_value_1 : Nat → Nat → Int → Int → Int → Int → Int → Int → PS → Int → PS → Prop
  | 0, _, _, _, _, _, _, _, _, _, _ => False
  | n + 1, pc, a0, a1, a2, a3, a4, a5, s, r, t => (pc = 6 ∧ T_X5_value_1_6 (It_X5_value_1 n) a0 a1 a2 a3 a4 s r t) ∨ (pc = 137 ∧ T_X5_value_1_137 (It_X5_value_1 n) a0 a1 a2 a3 a4 a5 s r t)
theorem rl_X5_value_1_6 {n : Nat} {a0 a1 a2 a3 a4 : Int} {s t : PS} {r : Int} (h : T_X5_value_1_6 (It_X5_value_1 n) a0 a1 a2 a3 a4 s r t) : It_X5_value_1 (n + 1) 6 a0 a1 a2 a3 a4 0 s r t := Or.inl ⟨rfl, h⟩
theorem rl_X5_value_1_137 {n : Nat} {a0 a1 a2 a3 a4 a5 : Int} {s t : PS} {r : Int} (h : T_X5_value_1_137 (It_X5_value_1 n) a0 a1 a2 a3 a4 a5 s r t) : It_X5_value_1 (n + 1) 137 a0 a1 a2 a3 a4 a5 s r t := Or.inr (⟨rfl, h⟩)
theorem ul_X5_value_1_6 {n : Nat} {a0 a1 a2 a3 a4 a5 : Int} {s t : PS} {r : Int} (h : It_X5_value_1 (n + 1) 6 a0 a1 a2 a3 a4 a5 s r t) : T_X5_value_1_6 (It_X5_value_1 n) a0 a1 a2 a3 a4 s r t := by
  have h2 : ((6 : Nat) = 6 ∧ T_X5_value_1_6 (It_X5_value_1 n) a0 a1 a2 a3 a4 s r t) ∨ ((6 : Nat) = 137 ∧ T_X5_value_1_137 (It_X5_value_1 n) a0 a1 a2 a3 a4 a5 s r t) := h
  rcases h2 with ⟨e, h2⟩ | ⟨e, h2⟩
  · exact h2
  · exact absurd e (by decide)
theorem ul_X5_value_1_137 {n : Nat} {a0 a1 a2 a3 a4 a5 : Int} {s t : PS} {r : Int} (h : It_X5_value_1 (n + 1) 137 a0 a1 a2 a3 a4 a5 s r t) : T_X5_value_1_137 (It_X5_value_1 n) a0 a1 a2 a3 a4 a5 s r t := by
  have h2 : ((137 : Nat) = 6 ∧ T_X5_value_1_6 (It_X5_value_1 n) a0 a1 a2 a3 a4 s r t) ∨ ((137 : Nat) = 137 ∧ T_X5_value_1_137 (It_X5_value_1 n) a0 a1 a2 a3 a4 a5 s r t) := h
  rcases h2 with ⟨e, h2⟩ | ⟨e, h2⟩
  · exact absurd e (by decide)
  · exact h2
def M_X5_value_1 (s : PS) (p2 p3 p4 : Int) (r : Int) (t : PS) : Prop := ∃ n, T_X5_value_1_e (It_X5_value_1 n) s p2 p3 p4 r t
theorem mk_X5_value_1 {n : Nat} {s t : PS} {p2 p3 p4 : Int} {r : Int} (h : T_X5_value_1_e (It_X5_value_1 n) s p2 p3 p4 r t) : M_X5_value_1 s p2 p3 p4 r t := ⟨n, h⟩
def T_X5_obey_1_80 (K : Nat → Int → Int → Int → Int → PS → Int → PS → Prop) (x80_2 x80_3 x80_4 x80_5 : Int) (s_w80 : PS) (rr : Int) (ss : PS) : Prop := ((TyX s_w80) ∧ ((0 ≤ x80_2 ∧ x80_2 ≤ 23) ∧ ((0 ≤ x80_3 ∧ x80_3 ≤ 39) ∧ ((0 ≤ x80_5 ∧ x80_5 ≤ 10) ∧ (((s_w80 1 0) ≤ x80_5 ∧ (rr = 0 ∧ ss = s_w80)) ∨ (¬ ((s_w80 1 0) ≤ x80_5) ∧ (((iAnd (iShr (s_w80 13 x80_2.toNat) x80_5) 1) = 0 ∧ (K 120 x80_2 x80_3 x80_4 x80_5 s_w80 rr ss)) ∨ (¬ ((iAnd (iShr (s_w80 13 x80_2.toNat) x80_5) 1) = 0) ∧ (∃ s_w_7 : PS, s_w_7 = (us s_w80 59 ((x80_3 * 10) + x80_5).toNat (wi ((s_w80 59 ((x80_3 * 10) + x80_5).toNat) + x80_4))) ∧ (K 120 x80_2 x80_3 x80_4 x80_5 s_w_7 rr ss))))))))))
def T_X5_obey_1_120 (K : Nat → Int → Int → Int → Int → PS → Int → PS → Prop) (x120_2 x120_3 x120_4 x120_5 : Int) (s_w120 : PS) (rr : Int) (ss : PS) : Prop := ((TyX s_w120) ∧ ((0 ≤ x120_2 ∧ x120_2 ≤ 23) ∧ ((0 ≤ x120_3 ∧ x120_3 ≤ 39) ∧ ((0 ≤ x120_5 ∧ x120_5 ≤ 9) ∧ (K 80 x120_2 x120_3 x120_4 (x120_5 + 1) s_w120 rr ss)))))
def T_X5_obey_1_e (K : Nat → Int → Int → Int → Int → PS → Int → PS → Prop) (s_w : PS) (p2 p3 : Int) (rr : Int) (ss : PS) : Prop := ((TyX s_w) ∧ ((0 ≤ p2 ∧ p2 ≤ 23) ∧ ((0 ≤ p3 ∧ p3 ≤ 39) ∧ (((s_w 8 p2.toNat) = 6 ∧ (∃ s_w_23 : PS, s_w_23 = (us s_w 58 p3.toNat (iAnd (s_w 58 p3.toNat) (iXor (s_w 13 p2.toNat) (-1)))) ∧ (rr = 0 ∧ ss = s_w_23))) ∨ (¬ ((s_w 8 p2.toNat) = 6) ∧ (∃ r_13 : Int, (∃ s_w_12 : PS, ((M_X5_value_1 s_w (s_w 9 p2.toNat) (s_w 10 p2.toNat) 1 r_13 s_w_12) ∧ ((Fr intsX [63] [] s_w s_w_12) ∧ ((TyX s_w_12) ∧ (((s_w 8 p2.toNat) = 10 ∧ (∃ s_w_18 : PS, s_w_18 = (us s_w_12 57 p3.toNat (max 0 (min 3 r_13))) ∧ (rr = 0 ∧ ss = s_w_18))) ∨ (¬ ((s_w 8 p2.toNat) = 10) ∧ (K 80 p2 p3 r_13 0 s_w_12 rr ss)))))))))))))
def It_X5_obey_1 : Nat → Nat → Int → Int → Int → Int → PS → Int → PS → Prop
  | 0, _, _, _, _, _, _, _, _ => False
  | n + 1, pc, a0, a1, a2, a3, s, r, t => (pc = 80 ∧ T_X5_obey_1_80 (It_X5_obey_1 n) a0 a1 a2 a3 s r t) ∨ (pc = 120 ∧ T_X5_obey_1_120 (It_X5_obey_1 n) a0 a1 a2 a3 s r t)
theorem rl_X5_obey_1_80 {n : Nat} {a0 a1 a2 a3 : Int} {s t : PS} {r : Int} (h : T_X5_obey_1_80 (It_X5_obey_1 n) a0 a1 a2 a3 s r t) : It_X5_obey_1 (n + 1) 80 a0 a1 a2 a3 s r t := Or.inl ⟨rfl, h⟩
theorem rl_X5_obey_1_120 {n : Nat} {a0 a1 a2 a3 : Int} {s t : PS} {r : Int} (h : T_X5_obey_1_120 (It_X5_obey_1 n) a0 a1 a2 a3 s r t) : It_X5_obey_1 (n + 1) 120 a0 a1 a2 a3 s r t := Or.inr (⟨rfl, h⟩)
theorem ul_X5_obey_1_80 {n : Nat} {a0 a1 a2 a3 : Int} {s t : PS} {r : Int} (h : It_X5_obey_1 (n + 1) 80 a0 a1 a2 a3 s r t) : T_X5_obey_1_80 (It_X5_obey_1 n) a0 a1 a2 a3 s r t := by
  have h2 : ((80 : Nat) = 80 ∧ T_X5_obey_1_80 (It_X5_obey_1 n) a0 a1 a2 a3 s r t) ∨ ((80 : Nat) = 120 ∧ T_X5_obey_1_120 (It_X5_obey_1 n) a0 a1 a2 a3 s r t) := h
  rcases h2 with ⟨e, h2⟩ | ⟨e, h2⟩
  · exact h2
  · exact absurd e (by decide)
theorem ul_X5_obey_1_120 {n : Nat} {a0 a1 a2 a3 : Int} {s t : PS} {r : Int} (h : It_X5_obey_1 (n + 1) 120 a0 a1 a2 a3 s r t) : T_X5_obey_1_120 (It_X5_obey_1 n) a0 a1 a2 a3 s r t := by
  have h2 : ((120 : Nat) = 80 ∧ T_X5_obey_1_80 (It_X5_obey_1 n) a0 a1 a2 a3 s r t) ∨ ((120 : Nat) = 120 ∧ T_X5_obey_1_120 (It_X5_obey_1 n) a0 a1 a2 a3 s r t) := h
  rcases h2 with ⟨e, h2⟩ | ⟨e, h2⟩
  · exact absurd e (by decide)
  · exact h2
def M_X5_obey_1 (s : PS) (p2 p3 : Int) (r : Int) (t : PS) : Prop := ∃ n, T_X5_obey_1_e (It_X5_obey_1 n) s p2 p3 r t
theorem mk_X5_obey_1 {n : Nat} {s t : PS} {p2 p3 : Int} {r : Int} (h : T_X5_obey_1_e (It_X5_obey_1 n) s p2 p3 r t) : M_X5_obey_1 s p2 p3 r t := ⟨n, h⟩
def T_X5_weigh_1_42_55 (K : Nat → Int → Int → PS → Int → PS → Prop) (x55_3 x55_4 : Int) (s_w55 : PS) (rr : Int) (ss : PS) : Prop := ((TyX s_w55) ∧ ((0 ≤ x55_3 ∧ x55_3 ≤ 39) ∧ ((0 ≤ x55_4 ∧ x55_4 ≤ 10) ∧ (((s_w55 1 0) ≤ x55_4 ∧ (K 117 x55_3 0 s_w55 rr ss)) ∨ (¬ ((s_w55 1 0) ≤ x55_4) ∧ (∃ s_w_14 : PS, s_w_14 = (us s_w55 59 ((x55_3 * 10) + x55_4).toNat 0) ∧ (((s_w55 49 x55_3.toNat) < (s_w55 55 x55_4.toNat) ∧ (K 108 x55_3 x55_4 s_w_14 rr ss)) ∨ (¬ ((s_w55 49 x55_3.toNat) < (s_w55 55 x55_4.toNat)) ∧ (∃ s_w_22 : PS, s_w_22 = (us s_w_14 58 x55_3.toNat (iAnd (s_w55 58 x55_3.toNat) (iXor (iShl 1 x55_4) (-1)))) ∧ (K 108 x55_3 x55_4 s_w_22 rr ss))))))))))
def T_X5_weigh_1_42_108 (K : Nat → Int → Int → PS → Int → PS → Prop) (x108_3 x108_4 : Int) (s_w108 : PS) (rr : Int) (ss : PS) : Prop := ((TyX s_w108) ∧ ((0 ≤ x108_3 ∧ x108_3 ≤ 39) ∧ ((0 ≤ x108_4 ∧ x108_4 ≤ 9) ∧ (K 55 x108_3 (x108_4 + 1) s_w108 rr ss))))
def T_X5_weigh_1_42_117 (K : Nat → Int → Int → PS → Int → PS → Prop) (x117_3 x117_4 : Int) (s_w117 : PS) (rr : Int) (ss : PS) : Prop := ((TyX s_w117) ∧ ((0 ≤ x117_3 ∧ x117_3 ≤ 39) ∧ ((0 ≤ x117_4 ∧ x117_4 ≤ 24) ∧ (((s_w117 1 8) ≤ x117_4 ∧ (rr = 0 ∧ ss = s_w117)) ∨ (¬ ((s_w117 1 8) ≤ x117_4) ∧ (((s_w117 8 x117_4.toNat) = 11 ∧ (K 169 x117_3 x117_4 s_w117 rr ss)) ∨ (¬ ((s_w117 8 x117_4.toNat) = 11) ∧ (∃ r_7 : Int, (∃ s_w_6 : PS, ((M_X5_value_1 s_w117 (s_w117 11 x117_4.toNat) (s_w117 12 x117_4.toNat) 1 r_7 s_w_6) ∧ ((Fr intsX [63] [] s_w117 s_w_6) ∧ ((TyX s_w_6) ∧ ((r_7 = 0 ∧ (K 169 x117_3 x117_4 s_w_6 rr ss)) ∨ (¬ (r_7 = 0) ∧ (∃ s_w_10 : PS, ((M_X5_obey_1 s_w_6 x117_4 x117_3 0 s_w_10) ∧ ((Fr intsX [57, 58, 59, 63] [] s_w_6 s_w_10) ∧ ((TyX s_w_10) ∧ (K 169 x117_3 x117_4 s_w_10 rr ss)))))))))))))))))))
def T_X5_weigh_1_42_169 (K : Nat → Int → Int → PS → Int → PS → Prop) (x169_3 x169_4 : Int) (s_w169 : PS) (rr : Int) (ss : PS) : Prop := ((TyX s_w169) ∧ ((0 ≤ x169_3 ∧ x169_3 ≤ 39) ∧ ((0 ≤ x169_4 ∧ x169_4 ≤ 23) ∧ (K 117 x169_3 (x169_4 + 1) s_w169 rr ss))))
def T_X5_weigh_1_42_e (K : Nat → Int → Int → PS → Int → PS → Prop) (s_w : PS) (p3 : Int) (rr : Int) (ss : PS) : Prop := ((TyX s_w) ∧ ((0 ≤ p3 ∧ p3 ≤ 39) ∧ (((s_w 60 p3.toNat) = (s_w 42 1) ∧ (rr = 0 ∧ ss = s_w)) ∨ (¬ ((s_w 60 p3.toNat) = (s_w 42 1)) ∧ (∃ s_w_25 : PS, s_w_25 = (us s_w 60 p3.toNat (s_w 42 1)) ∧ (∃ s_w_26 : PS, ((M_X5_gatherFacts_1_42 s_w_25 p3 0 s_w_26) ∧ ((Fr intsX [61, 62] [] s_w_25 s_w_26) ∧ ((TyX s_w_26) ∧ (∃ s_w_29 : PS, s_w_29 = (us s_w_26 57 p3.toNat 1) ∧ (∃ s_w_31 : PS, s_w_31 = (us s_w_29 58 p3.toNat (wi ((iShl 1 (s_w 1 0)) - 1))) ∧ (K 55 p3 0 s_w_31 rr ss))))))))))))
def It_X5_weigh_1_42 : Nat → Nat → Int → Int → PS → Int → PS → Prop
  | 0, _, _, _, _, _, _ => False
  | n + 1, pc, a0, a1, s, r, t => (pc = 55 ∧ T_X5_weigh_1_42_55 (It_X5_weigh_1_42 n) a0 a1 s r t) ∨ (pc = 108 ∧ T_X5_weigh_1_42_108 (It_X5_weigh_1_42 n) a0 a1 s r t) ∨ (pc = 117 ∧ T_X5_weigh_1_42_117 (It_X5_weigh_1_42 n) a0 a1 s r t) ∨ (pc = 169 ∧ T_X5_weigh_1_42_169 (It_X5_weigh_1_42 n) a0 a1 s r t)
theorem rl_X5_weigh_1_42_55 {n : Nat} {a0 a1 : Int} {s t : PS} {r : Int} (h : T_X5_weigh_1_42_55 (It_X5_weigh_1_42 n) a0 a1 s r t) : It_X5_weigh_1_42 (n + 1) 55 a0 a1 s r t := Or.inl ⟨rfl, h⟩
theorem rl_X5_weigh_1_42_108 {n : Nat} {a0 a1 : Int} {s t : PS} {r : Int} (h : T_X5_weigh_1_42_108 (It_X5_weigh_1_42 n) a0 a1 s r t) : It_X5_weigh_1_42 (n + 1) 108 a0 a1 s r t := Or.inr (Or.inl ⟨rfl, h⟩)
theorem rl_X5_weigh_1_42_117 {n : Nat} {a0 a1 : Int} {s t : PS} {r : Int} (h : T_X5_weigh_1_42_117 (It_X5_weigh_1_42 n) a0 a1 s r t) : It_X5_weigh_1_42 (n + 1) 117 a0 a1 s r t := Or.inr (Or.inr (Or.inl ⟨rfl, h⟩))
theorem rl_X5_weigh_1_42_169 {n : Nat} {a0 a1 : Int} {s t : PS} {r : Int} (h : T_X5_weigh_1_42_169 (It_X5_weigh_1_42 n) a0 a1 s r t) : It_X5_weigh_1_42 (n + 1) 169 a0 a1 s r t := Or.inr (Or.inr (Or.inr (⟨rfl, h⟩)))
theorem ul_X5_weigh_1_42_55 {n : Nat} {a0 a1 : Int} {s t : PS} {r : Int} (h : It_X5_weigh_1_42 (n + 1) 55 a0 a1 s r t) : T_X5_weigh_1_42_55 (It_X5_weigh_1_42 n) a0 a1 s r t := by
  have h2 : ((55 : Nat) = 55 ∧ T_X5_weigh_1_42_55 (It_X5_weigh_1_42 n) a0 a1 s r t) ∨ ((55 : Nat) = 108 ∧ T_X5_weigh_1_42_108 (It_X5_weigh_1_42 n) a0 a1 s r t) ∨ ((55 : Nat) = 117 ∧ T_X5_weigh_1_42_117 (It_X5_weigh_1_42 n) a0 a1 s r t) ∨ ((55 : Nat) = 169 ∧ T_X5_weigh_1_42_169 (It_X5_weigh_1_42 n) a0 a1 s r t) := h
  rcases h2 with ⟨e, h2⟩ | ⟨e, h2⟩ | ⟨e, h2⟩ | ⟨e, h2⟩
  · exact h2
  · exact absurd e (by decide)
  · exact absurd e (by decide)
  · exact absurd e (by decide)
theorem ul_X5_weigh_1_42_108 {n : Nat} {a0 a1 : Int} {s t : PS} {r : Int} (h : It_X5_weigh_1_42 (n + 1) 108 a0 a1 s r t) : T_X5_weigh_1_42_108 (It_X5_weigh_1_42 n) a0 a1 s r t := by
  have h2 : ((108 : Nat) = 55 ∧ T_X5_weigh_1_42_55 (It_X5_weigh_1_42 n) a0 a1 s r t) ∨ ((108 : Nat) = 108 ∧ T_X5_weigh_1_42_108 (It_X5_weigh_1_42 n) a0 a1 s r t) ∨ ((108 : Nat) = 117 ∧ T_X5_weigh_1_42_117 (It_X5_weigh_1_42 n) a0 a1 s r t) ∨ ((108 : Nat) = 169 ∧ T_X5_weigh_1_42_169 (It_X5_weigh_1_42 n) a0 a1 s r t) := h
  rcases h2 with ⟨e, h2⟩ | ⟨e, h2⟩ | ⟨e, h2⟩ | ⟨e, h2⟩
  · exact absurd e (by decide)
  · exact h2
  · exact absurd e (by decide)
  · exact absurd e (by decide)
theorem ul_X5_weigh_1_42_117 {n : Nat} {a0 a1 : Int} {s t : PS} {r : Int} (h : It_X5_weigh_1_42 (n + 1) 117 a0 a1 s r t) : T_X5_weigh_1_42_117 (It_X5_weigh_1_42 n) a0 a1 s r t := by
  have h2 : ((117 : Nat) = 55 ∧ T_X5_weigh_1_42_55 (It_X5_weigh_1_42 n) a0 a1 s r t) ∨ ((117 : Nat) = 108 ∧ T_X5_weigh_1_42_108 (It_X5_weigh_1_42 n) a0 a1 s r t) ∨ ((117 : Nat) = 117 ∧ T_X5_weigh_1_42_117 (It_X5_weigh_1_42 n) a0 a1 s r t) ∨ ((117 : Nat) = 169 ∧ T_X5_weigh_1_42_169 (It_X5_weigh_1_42 n) a0 a1 s r t) := h
  rcases h2 with ⟨e, h2⟩ | ⟨e, h2⟩ | ⟨e, h2⟩ | ⟨e, h2⟩
  · exact absurd e (by decide)
  · exact absurd e (by decide)
  · exact h2
  · exact absurd e (by decide)
theorem ul_X5_weigh_1_42_169 {n : Nat} {a0 a1 : Int} {s t : PS} {r : Int} (h : It_X5_weigh_1_42 (n + 1) 169 a0 a1 s r t) : T_X5_weigh_1_42_169 (It_X5_weigh_1_42 n) a0 a1 s r t := by
  have h2 : ((169 : Nat) = 55 ∧ T_X5_weigh_1_42_55 (It_X5_weigh_1_42 n) a0 a1 s r t) ∨ ((169 : Nat) = 108 ∧ T_X5_weigh_1_42_108 (It_X5_weigh_1_42 n) a0 a1 s r t) ∨ ((169 : Nat) = 117 ∧ T_X5_weigh_1_42_117 (It_X5_weigh_1_42 n) a0 a1 s r t) ∨ ((169 : Nat) = 169 ∧ T_X5_weigh_1_42_169 (It_X5_weigh_1_42 n) a0 a1 s r t) := h
  rcases h2 with ⟨e, h2⟩ | ⟨e, h2⟩ | ⟨e, h2⟩ | ⟨e, h2⟩
  · exact absurd e (by decide)
  · exact absurd e (by decide)
  · exact absurd e (by decide)
  · exact h2
def M_X5_weigh_1_42 (s : PS) (p3 : Int) (r : Int) (t : PS) : Prop := ∃ n, T_X5_weigh_1_42_e (It_X5_weigh_1_42 n) s p3 r t
theorem mk_X5_weigh_1_42 {n : Nat} {s t : PS} {p3 : Int} {r : Int} (h : T_X5_weigh_1_42_e (It_X5_weigh_1_42 n) s p3 r t) : M_X5_weigh_1_42 s p3 r t := ⟨n, h⟩
