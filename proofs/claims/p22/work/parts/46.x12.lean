def T_X2_fill_2 (K : Nat → Int → Int → Int → PS → Int → PS → Prop) (x2_1 : Int) (s_w2 : PS) (rr : Int) (ss : PS) : Prop := ((TyX s_w2) ∧ ((0 ≤ x2_1 ∧ x2_1 ≤ 40) ∧ (((s_w2 64 1) ≤ x2_1 ∧ (rr = 0 ∧ ss = s_w2)) ∨ (¬ ((s_w2 64 1) ≤ x2_1) ∧ (K 17 x2_1 1 0 s_w2 rr ss)))))
def T_X2_fill_17 (K : Nat → Int → Int → Int → PS → Int → PS → Prop) (x17_1 x17_2 x17_3 : Int) (s_w17 : PS) (rr : Int) (ss : PS) : Prop := ((TyX s_w17) ∧ ((0 ≤ x17_1 ∧ x17_1 ≤ 39) ∧ ((0 ≤ x17_2 ∧ x17_2 ≤ 1) ∧ ((0 ≤ x17_3 ∧ x17_3 ≤ 2147483647) ∧ (((s_w17 68 x17_1.toNat) ≤ x17_3 ∧ (K 46 x17_1 x17_2 x17_3 s_w17 rr ss)) ∨ (¬ ((s_w17 68 x17_1.toNat) ≤ x17_3) ∧ ((x17_2 = 0 ∧ (K 46 x17_1 x17_2 x17_3 s_w17 rr ss)) ∨ (¬ (x17_2 = 0) ∧ (∃ r_5 : Int, (∃ s_w_4 : PS, ((M_X2_serves s_w17 x17_1 r_5 s_w_4) ∧ ((Fr intsX [70, 71, 73, 74, 75, 76, 77, 78, 79, 80] [(74, 9), (74, 10)] s_w17 s_w_4) ∧ ((TyX s_w_4) ∧ ((0 ≤ r_5 ∧ r_5 ≤ 1) ∧ (K 17 x17_1 r_5 (x17_3 + 1) s_w_4 rr ss)))))))))))))))
def T_X2_fill_46 (K : Nat → Int → Int → Int → PS → Int → PS → Prop) (x46_1 x46_2 x46_3 : Int) (s_w46 : PS) (rr : Int) (ss : PS) : Prop := ((TyX s_w46) ∧ ((0 ≤ x46_1 ∧ x46_1 ≤ 39) ∧ ((0 ≤ x46_2 ∧ x46_2 ≤ 1) ∧ ((0 ≤ x46_3 ∧ x46_3 ≤ 2147483647) ∧ (K 2 (x46_1 + 1) 0 0 s_w46 rr ss)))))
def T_X2_fill_e (K : Nat → Int → Int → Int → PS → Int → PS → Prop) (s_w : PS) (rr : Int) (ss : PS) : Prop := ((TyX s_w) ∧ (K 2 0 0 0 s_w rr ss))
def It_X2_fill : Nat → Nat → Int → Int → Int → PS → Int → PS → Prop
  | 0, _, _, _, _, _, _, _ => False
  | n + 1, pc, a0, a1, a2, s, r, t => (pc = 2 ∧ T_X2_fill_2 (It_X2_fill n) a0 s r t) ∨ (pc = 17 ∧ T_X2_fill_17 (It_X2_fill n) a0 a1 a2 s r t) ∨ (pc = 46 ∧ T_X2_fill_46 (It_X2_fill n) a0 a1 a2 s r t)
theorem rl_X2_fill_2 {n : Nat} {a0 : Int} {s t : PS} {r : Int} (h : T_X2_fill_2 (It_X2_fill n) a0 s r t) : It_X2_fill (n + 1) 2 a0 0 0 s r t := Or.inl ⟨rfl, h⟩
theorem rl_X2_fill_17 {n : Nat} {a0 a1 a2 : Int} {s t : PS} {r : Int} (h : T_X2_fill_17 (It_X2_fill n) a0 a1 a2 s r t) : It_X2_fill (n + 1) 17 a0 a1 a2 s r t := Or.inr (Or.inl ⟨rfl, h⟩)
theorem rl_X2_fill_46 {n : Nat} {a0 a1 a2 : Int} {s t : PS} {r : Int} (h : T_X2_fill_46 (It_X2_fill n) a0 a1 a2 s r t) : It_X2_fill (n + 1) 46 a0 a1 a2 s r t := Or.inr (Or.inr (⟨rfl, h⟩))
theorem ul_X2_fill_2 {n : Nat} {a0 a1 a2 : Int} {s t : PS} {r : Int} (h : It_X2_fill (n + 1) 2 a0 a1 a2 s r t) : T_X2_fill_2 (It_X2_fill n) a0 s r t := by
  have h2 : ((2 : Nat) = 2 ∧ T_X2_fill_2 (It_X2_fill n) a0 s r t) ∨ ((2 : Nat) = 17 ∧ T_X2_fill_17 (It_X2_fill n) a0 a1 a2 s r t) ∨ ((2 : Nat) = 46 ∧ T_X2_fill_46 (It_X2_fill n) a0 a1 a2 s r t) := h
  rcases h2 with ⟨e, h2⟩ | ⟨e, h2⟩ | ⟨e, h2⟩
  · exact h2
  · exact absurd e (by decide)
  · exact absurd e (by decide)
theorem ul_X2_fill_17 {n : Nat} {a0 a1 a2 : Int} {s t : PS} {r : Int} (h : It_X2_fill (n + 1) 17 a0 a1 a2 s r t) : T_X2_fill_17 (It_X2_fill n) a0 a1 a2 s r t := by
  have h2 : ((17 : Nat) = 2 ∧ T_X2_fill_2 (It_X2_fill n) a0 s r t) ∨ ((17 : Nat) = 17 ∧ T_X2_fill_17 (It_X2_fill n) a0 a1 a2 s r t) ∨ ((17 : Nat) = 46 ∧ T_X2_fill_46 (It_X2_fill n) a0 a1 a2 s r t) := h
  rcases h2 with ⟨e, h2⟩ | ⟨e, h2⟩ | ⟨e, h2⟩
  · exact absurd e (by decide)
  · exact h2
  · exact absurd e (by decide)
theorem ul_X2_fill_46 {n : Nat} {a0 a1 a2 : Int} {s t : PS} {r : Int} (h : It_X2_fill (n + 1) 46 a0 a1 a2 s r t) : T_X2_fill_46 (It_X2_fill n) a0 a1 a2 s r t := by
  have h2 : ((46 : Nat) = 2 ∧ T_X2_fill_2 (It_X2_fill n) a0 s r t) ∨ ((46 : Nat) = 17 ∧ T_X2_fill_17 (It_X2_fill n) a0 a1 a2 s r t) ∨ ((46 : Nat) = 46 ∧ T_X2_fill_46 (It_X2_fill n) a0 a1 a2 s r t) := h
  rcases h2 with ⟨e, h2⟩ | ⟨e, h2⟩ | ⟨e, h2⟩
  · exact absurd e (by decide)
  · exact absurd e (by decide)
  · exact h2
def M_X2_fill (s : PS) (r : Int) (t : PS) : Prop := ∃ n, T_X2_fill_e (It_X2_fill n) s r t
theorem mk_X2_fill {n : Nat} {s t : PS} {r : Int} (h : T_X2_fill_e (It_X2_fill n) s r t) : M_X2_fill s r t := ⟨n, h⟩
def T_X2_levelDue_2 (K : Nat → Int → PS → Int → PS → Prop) (x2_1 : Int) (s_w2 : PS) (rr : Int) (ss : PS) : Prop := ((TyX s_w2) ∧ ((0 ≤ x2_1 ∧ x2_1 ≤ 40) ∧ (((s_w2 64 1) ≤ x2_1 ∧ (K 50 0 s_w2 rr ss)) ∨ (¬ ((s_w2 64 1) ≤ x2_1) ∧ (((s_w2 71 x2_1.toNat) ≤ 0 ∧ (K 42 x2_1 s_w2 rr ss)) ∨ (¬ ((s_w2 71 x2_1.toNat) ≤ 0) ∧ (∃ s_w_18 : PS, s_w_18 = (us s_w2 74 5 (min (s_w2 74 5) (s_w2 75 x2_1.toNat))) ∧ (K 42 x2_1 s_w_18 rr ss))))))))
def T_X2_levelDue_42 (K : Nat → Int → PS → Int → PS → Prop) (x42_1 : Int) (s_w42 : PS) (rr : Int) (ss : PS) : Prop := ((TyX s_w42) ∧ ((0 ≤ x42_1 ∧ x42_1 ≤ 39) ∧ (K 2 (x42_1 + 1) s_w42 rr ss)))
def T_X2_levelDue_50 (K : Nat → Int → PS → Int → PS → Prop) (x50_1 : Int) (s_w50 : PS) (rr : Int) (ss : PS) : Prop := ((TyX s_w50) ∧ ((0 ≤ x50_1 ∧ x50_1 ≤ 40) ∧ (((s_w50 64 1) ≤ x50_1 ∧ (rr = 0 ∧ ss = s_w50)) ∨ (¬ ((s_w50 64 1) ≤ x50_1) ∧ (((s_w50 68 x50_1.toNat) ≤ (s_w50 71 x50_1.toNat) ∧ (K 111 x50_1 s_w50 rr ss)) ∨ (¬ ((s_w50 68 x50_1.toNat) ≤ (s_w50 71 x50_1.toNat)) ∧ (((s_w50 75 x50_1.toNat) ≤ (s_w50 74 5) ∧ (K 111 x50_1 s_w50 rr ss)) ∨ (¬ ((s_w50 75 x50_1.toNat) ≤ (s_w50 74 5)) ∧ (∃ s_w_8 : PS, s_w_8 = (us s_w50 75 x50_1.toNat (s_w50 74 5)) ∧ (∃ s_w_9 : PS, ((M_X2_enqueue s_w_8 x50_1 0 s_w_9) ∧ ((Fr intsX [74, 79, 80] [(74, 10)] s_w_8 s_w_9) ∧ ((TyX s_w_9) ∧ (K 111 x50_1 s_w_9 rr ss))))))))))))))
def T_X2_levelDue_111 (K : Nat → Int → PS → Int → PS → Prop) (x111_1 : Int) (s_w111 : PS) (rr : Int) (ss : PS) : Prop := ((TyX s_w111) ∧ ((0 ≤ x111_1 ∧ x111_1 ≤ 39) ∧ (K 50 (x111_1 + 1) s_w111 rr ss)))
def T_X2_levelDue_e (K : Nat → Int → PS → Int → PS → Prop) (s_w : PS) (rr : Int) (ss : PS) : Prop := ((TyX s_w) ∧ (K 2 0 s_w rr ss))
def It_X2_levelDue : Nat → Nat → Int → PS → Int → PS → Prop
  | 0, _, _, _, _, _ => False
  | n + 1, pc, a0, s, r, t => (pc = 2 ∧ T_X2_levelDue_2 (It_X2_levelDue n) a0 s r t) ∨ (pc = 42 ∧ T_X2_levelDue_42 (It_X2_levelDue n) a0 s r t) ∨ (pc = 50 ∧ T_X2_levelDue_50 (It_X2_levelDue n) a0 s r t) ∨ (pc = 111 ∧ T_X2_levelDue_111 (It_X2_levelDue n) a0 s r t)
theorem rl_X2_levelDue_2 {n : Nat} {a0 : Int} {s t : PS} {r : Int} (h : T_X2_levelDue_2 (It_X2_levelDue n) a0 s r t) : It_X2_levelDue (n + 1) 2 a0 s r t := Or.inl ⟨rfl, h⟩
theorem rl_X2_levelDue_42 {n : Nat} {a0 : Int} {s t : PS} {r : Int} (h : T_X2_levelDue_42 (It_X2_levelDue n) a0 s r t) : It_X2_levelDue (n + 1) 42 a0 s r t := Or.inr (Or.inl ⟨rfl, h⟩)
theorem rl_X2_levelDue_50 {n : Nat} {a0 : Int} {s t : PS} {r : Int} (h : T_X2_levelDue_50 (It_X2_levelDue n) a0 s r t) : It_X2_levelDue (n + 1) 50 a0 s r t := Or.inr (Or.inr (Or.inl ⟨rfl, h⟩))
theorem rl_X2_levelDue_111 {n : Nat} {a0 : Int} {s t : PS} {r : Int} (h : T_X2_levelDue_111 (It_X2_levelDue n) a0 s r t) : It_X2_levelDue (n + 1) 111 a0 s r t := Or.inr (Or.inr (Or.inr (⟨rfl, h⟩)))
theorem ul_X2_levelDue_2 {n : Nat} {a0 : Int} {s t : PS} {r : Int} (h : It_X2_levelDue (n + 1) 2 a0 s r t) : T_X2_levelDue_2 (It_X2_levelDue n) a0 s r t := by
  have h2 : ((2 : Nat) = 2 ∧ T_X2_levelDue_2 (It_X2_levelDue n) a0 s r t) ∨ ((2 : Nat) = 42 ∧ T_X2_levelDue_42 (It_X2_levelDue n) a0 s r t) ∨ ((2 : Nat) = 50 ∧ T_X2_levelDue_50 (It_X2_levelDue n) a0 s r t) ∨ ((2 : Nat) = 111 ∧ T_X2_levelDue_111 (It_X2_levelDue n) a0 s r t) := h
  rcases h2 with ⟨e, h2⟩ | ⟨e, h2⟩ | ⟨e, h2⟩ | ⟨e, h2⟩
  · exact h2
  · exact absurd e (by decide)
  · exact absurd e (by decide)
  · exact absurd e (by decide)
theorem ul_X2_levelDue_42 {n : Nat} {a0 : Int} {s t : PS} {r : Int} (h : It_X2_levelDue (n + 1) 42 a0 s r t) : T_X2_levelDue_42 (It_X2_levelDue n) a0 s r t := by
  have h2 : ((42 : Nat) = 2 ∧ T_X2_levelDue_2 (It_X2_levelDue n) a0 s r t) ∨ ((42 : Nat) = 42 ∧ T_X2_levelDue_42 (It_X2_levelDue n) a0 s r t) ∨ ((42 : Nat) = 50 ∧ T_X2_levelDue_50 (It_X2_levelDue n) a0 s r t) ∨ ((42 : Nat) = 111 ∧ T_X2_levelDue_111 (It_X2_levelDue n) a0 s r t) := h
  rcases h2 with ⟨e, h2⟩ | ⟨e, h2⟩ | ⟨e, h2⟩ | ⟨e, h2⟩
  · exact absurd e (by decide)
  · exact h2
  · exact absurd e (by decide)
  · exact absurd e (by decide)
theorem ul_X2_levelDue_50 {n : Nat} {a0 : Int} {s t : PS} {r : Int} (h : It_X2_levelDue (n + 1) 50 a0 s r t) : T_X2_levelDue_50 (It_X2_levelDue n) a0 s r t := by
  have h2 : ((50 : Nat) = 2 ∧ T_X2_levelDue_2 (It_X2_levelDue n) a0 s r t) ∨ ((50 : Nat) = 42 ∧ T_X2_levelDue_42 (It_X2_levelDue n) a0 s r t) ∨ ((50 : Nat) = 50 ∧ T_X2_levelDue_50 (It_X2_levelDue n) a0 s r t) ∨ ((50 : Nat) = 111 ∧ T_X2_levelDue_111 (It_X2_levelDue n) a0 s r t) := h
  rcases h2 with ⟨e, h2⟩ | ⟨e, h2⟩ | ⟨e, h2⟩ | ⟨e, h2⟩
  · exact absurd e (by decide)
  · exact absurd e (by decide)
  · exact h2
  · exact absurd e (by decide)
theorem ul_X2_levelDue_111 {n : Nat} {a0 : Int} {s t : PS} {r : Int} (h : It_X2_levelDue (n + 1) 111 a0 s r t) : T_X2_levelDue_111 (It_X2_levelDue n) a0 s r t := by
  have h2 : ((111 : Nat) = 2 ∧ T_X2_levelDue_2 (It_X2_levelDue n) a0 s r t) ∨ ((111 : Nat) = 42 ∧ T_X2_levelDue_42 (It_X2_levelDue n) a0 s r t) ∨ ((111 : Nat) = 50 ∧ T_X2_levelDue_50 (It_X2_levelDue n) a0 s r t) ∨ ((111 : Nat) = 111 ∧ T_X2_levelDue_111 (It_X2_levelDue n) a0 s r t) := h
  rcases h2 with ⟨e, h2⟩ | ⟨e, h2⟩ | ⟨e, h2⟩ | ⟨e, h2⟩
  · exact absurd e (by decide)
  · exact absurd e (by decide)
  · exact absurd e (by decide)
  · exact h2
def M_X2_levelDue (s : PS) (r : Int) (t : PS) : Prop := ∃ n, T_X2_levelDue_e (It_X2_levelDue n) s r t
theorem mk_X2_levelDue {n : Nat} {s t : PS} {r : Int} (h : T_X2_levelDue_e (It_X2_levelDue n) s r t) : M_X2_levelDue s r t := ⟨n, h⟩
def T_X2_levelLeft_12 (K : Nat → Int → Int → PS → Int → PS → Prop) (x12_1 x12_2 : Int) (s_w12 : PS) (rr : Int) (ss : PS) : Prop := ((TyX s_w12) ∧ ((0 ≤ x12_1 ∧ x12_1 ≤ 23) ∧ ((0 ≤ x12_2 ∧ x12_2 ≤ 10) ∧ (((s_w12 64 0) ≤ x12_2 ∧ (K 70 x12_1 0 s_w12 rr ss)) ∨ (¬ ((s_w12 64 0) ≤ x12_2) ∧ (((s_w12 73 ((x12_2 * 24) + x12_1).toNat) ≤ 0 ∧ (K 62 x12_1 x12_2 s_w12 rr ss)) ∨ (¬ ((s_w12 73 ((x12_2 * 24) + x12_1).toNat) ≤ 0) ∧ (∃ s_w_11 : PS, s_w_11 = (us s_w12 74 6 (min (s_w12 74 6) (s_w12 77 ((x12_2 * 24) + x12_1).toNat))) ∧ (K 62 x12_1 x12_2 s_w_11 rr ss)))))))))
def T_X2_levelLeft_62 (K : Nat → Int → Int → PS → Int → PS → Prop) (x62_1 x62_2 : Int) (s_w62 : PS) (rr : Int) (ss : PS) : Prop := ((TyX s_w62) ∧ ((0 ≤ x62_1 ∧ x62_1 ≤ 23) ∧ ((0 ≤ x62_2 ∧ x62_2 ≤ 9) ∧ (K 12 x62_1 (x62_2 + 1) s_w62 rr ss))))
def T_X2_levelLeft_70 (K : Nat → Int → Int → PS → Int → PS → Prop) (x70_1 x70_2 : Int) (s_w70 : PS) (rr : Int) (ss : PS) : Prop := ((TyX s_w70) ∧ ((0 ≤ x70_1 ∧ x70_1 ≤ 23) ∧ ((0 ≤ x70_2 ∧ x70_2 ≤ 10) ∧ (((s_w70 64 0) ≤ x70_2 ∧ (rr = 0 ∧ ss = s_w70)) ∨ (¬ ((s_w70 64 0) ≤ x70_2) ∧ (∃ s_w_2 : PS, ((M_X2_want s_w70 (-2) x70_2 x70_1 (s_w70 74 6) 0 s_w_2) ∧ ((Fr intsX [74, 75, 76, 77, 78, 79, 80] [(74, 10)] s_w70 s_w_2) ∧ ((TyX s_w_2) ∧ (K 70 x70_1 (x70_2 + 1) s_w_2 rr ss))))))))))
def T_X2_levelLeft_e (K : Nat → Int → Int → PS → Int → PS → Prop) (s_w : PS) (rr : Int) (ss : PS) : Prop := ((TyX s_w) ∧ (K 12 ((s_w 64 2) - 1) 0 s_w rr ss))
def It_X2_levelLeft : Nat → Nat → Int → Int → PS → Int → PS → Prop
  | 0, _, _, _, _, _, _ => False
  | n + 1, pc, a0, a1, s, r, t => (pc = 12 ∧ T_X2_levelLeft_12 (It_X2_levelLeft n) a0 a1 s r t) ∨ (pc = 62 ∧ T_X2_levelLeft_62 (It_X2_levelLeft n) a0 a1 s r t) ∨ (pc = 70 ∧ T_X2_levelLeft_70 (It_X2_levelLeft n) a0 a1 s r t)
theorem rl_X2_levelLeft_12 {n : Nat} {a0 a1 : Int} {s t : PS} {r : Int} (h : T_X2_levelLeft_12 (It_X2_levelLeft n) a0 a1 s r t) : It_X2_levelLeft (n + 1) 12 a0 a1 s r t := Or.inl ⟨rfl, h⟩
theorem rl_X2_levelLeft_62 {n : Nat} {a0 a1 : Int} {s t : PS} {r : Int} (h : T_X2_levelLeft_62 (It_X2_levelLeft n) a0 a1 s r t) : It_X2_levelLeft (n + 1) 62 a0 a1 s r t := Or.inr (Or.inl ⟨rfl, h⟩)
theorem rl_X2_levelLeft_70 {n : Nat} {a0 a1 : Int} {s t : PS} {r : Int} (h : T_X2_levelLeft_70 (It_X2_levelLeft n) a0 a1 s r t) : It_X2_levelLeft (n + 1) 70 a0 a1 s r t := Or.inr (Or.inr (⟨rfl, h⟩))
theorem ul_X2_levelLeft_12 {n : Nat} {a0 a1 : Int} {s t : PS} {r : Int} (h : It_X2_levelLeft (n + 1) 12 a0 a1 s r t) : T_X2_levelLeft_12 (It_X2_levelLeft n) a0 a1 s r t := by
  have h2 : ((12 : Nat) = 12 ∧ T_X2_levelLeft_12 (It_X2_levelLeft n) a0 a1 s r t) ∨ ((12 : Nat) = 62 ∧ T_X2_levelLeft_62 (It_X2_levelLeft n) a0 a1 s r t) ∨ ((12 : Nat) = 70 ∧ T_X2_levelLeft_70 (It_X2_levelLeft n) a0 a1 s r t) := h
  rcases h2 with ⟨e, h2⟩ | ⟨e, h2⟩ | ⟨e, h2⟩
  · exact h2
  · exact absurd e (by decide)
  · exact absurd e (by decide)
theorem ul_X2_levelLeft_62 {n : Nat} {a0 a1 : Int} {s t : PS} {r : Int} (h : It_X2_levelLeft (n + 1) 62 a0 a1 s r t) : T_X2_levelLeft_62 (It_X2_levelLeft n) a0 a1 s r t := by
  have h2 : ((62 : Nat) = 12 ∧ T_X2_levelLeft_12 (It_X2_levelLeft n) a0 a1 s r t) ∨ ((62 : Nat) = 62 ∧ T_X2_levelLeft_62 (It_X2_levelLeft n) a0 a1 s r t) ∨ ((62 : Nat) = 70 ∧ T_X2_levelLeft_70 (It_X2_levelLeft n) a0 a1 s r t) := h
  rcases h2 with ⟨e, h2⟩ | ⟨e, h2⟩ | ⟨e, h2⟩
  · exact absurd e (by decide)
  · exact h2
  · exact absurd e (by decide)
theorem ul_X2_levelLeft_70 {n : Nat} {a0 a1 : Int} {s t : PS} {r : Int} (h : It_X2_levelLeft (n + 1) 70 a0 a1 s r t) : T_X2_levelLeft_70 (It_X2_levelLeft n) a0 a1 s r t := by
  have h2 : ((70 : Nat) = 12 ∧ T_X2_levelLeft_12 (It_X2_levelLeft n) a0 a1 s r t) ∨ ((70 : Nat) = 62 ∧ T_X2_levelLeft_62 (It_X2_levelLeft n) a0 a1 s r t) ∨ ((70 : Nat) = 70 ∧ T_X2_levelLeft_70 (It_X2_levelLeft n) a0 a1 s r t) := h
  rcases h2 with ⟨e, h2⟩ | ⟨e, h2⟩ | ⟨e, h2⟩
  · exact absurd e (by decide)
  · exact absurd e (by decide)
  · exact h2
def M_X2_levelLeft (s : PS) (r : Int) (t : PS) : Prop := ∃ n, T_X2_levelLeft_e (It_X2_levelLeft n) s r t
theorem mk_X2_levelLeft {n : Nat} {s t : PS} {r : Int} (h : T_X2_levelLeft_e (It_X2_levelLeft n) s r t) : M_X2_levelLeft s r t := ⟨n, h⟩
def T_X2_level_32 (K : Nat → Int → Int → PS → Int → PS → Prop) (x32_1 : Int) (s_w32 : PS) (rr : Int) (ss : PS) : Prop := ((TyX s_w32) ∧ ((0 ≤ x32_1 ∧ x32_1 ≤ 40) ∧ (((s_w32 64 1) ≤ x32_1 ∧ (K 116 0 0 s_w32 rr ss)) ∨ (¬ ((s_w32 64 1) ≤ x32_1) ∧ (K 45 x32_1 0 s_w32 rr ss)))))
def T_X2_level_45 (K : Nat → Int → Int → PS → Int → PS → Prop) (x45_1 x45_2 : Int) (s_w45 : PS) (rr : Int) (ss : PS) : Prop := ((TyX s_w45) ∧ ((0 ≤ x45_1 ∧ x45_1 ≤ 39) ∧ ((0 ≤ x45_2 ∧ x45_2 ≤ 10) ∧ (((s_w45 64 0) ≤ x45_2 ∧ (∃ s_w_14 : PS, ((M_X2_enqueue s_w45 x45_1 0 s_w_14) ∧ ((Fr intsX [74, 79, 80] [(74, 10)] s_w45 s_w_14) ∧ ((TyX s_w_14) ∧ (K 32 (x45_1 + 1) 0 s_w_14 rr ss)))))) ∨ (¬ ((s_w45 64 0) ≤ x45_2) ∧ (((iAnd (iShr (s_w45 70 x45_1.toNat) x45_2) 1) = 0 ∧ (K 97 x45_1 x45_2 s_w45 rr ss)) ∨ (¬ ((iAnd (iShr (s_w45 70 x45_1.toNat) x45_2) 1) = 0) ∧ (∃ r_23 : Int, (∃ s_w_22 : PS, ((M_X3_pointsOf s_w45 x45_1 x45_2 r_23 s_w_22) ∧ ((Fr intsX [] [] s_w45 s_w_22) ∧ ((TyX s_w_22) ∧ (∃ s_w_27 : PS, s_w_27 = (us s_w_22 75 x45_1.toNat (min (s_w45 75 x45_1.toNat) r_23)) ∧ (K 97 x45_1 x45_2 s_w_27 rr ss))))))))))))))
def T_X2_level_97 (K : Nat → Int → Int → PS → Int → PS → Prop) (x97_1 x97_2 : Int) (s_w97 : PS) (rr : Int) (ss : PS) : Prop := ((TyX s_w97) ∧ ((0 ≤ x97_1 ∧ x97_1 ≤ 39) ∧ ((0 ≤ x97_2 ∧ x97_2 ≤ 9) ∧ (K 45 x97_1 (x97_2 + 1) s_w97 rr ss))))
def T_X2_level_116 (K : Nat → Int → Int → PS → Int → PS → Prop) (x116_1 : Int) (s_w116 : PS) (rr : Int) (ss : PS) : Prop := ((TyX s_w116) ∧ ((0 ≤ x116_1 ∧ x116_1 ≤ 1000000) ∧ ((1000000 ≤ x116_1 ∧ (rr = 0 ∧ ss = s_w116)) ∨ (¬ (1000000 ≤ x116_1) ∧ (((s_w116 74 9) = (s_w116 74 10) ∧ (rr = 0 ∧ ss = s_w116)) ∨ (¬ ((s_w116 74 9) = (s_w116 74 10)) ∧ (∃ s_w_3 : PS, ((M_X2_runQueue s_w116 0 s_w_3) ∧ ((Fr intsX [74, 75, 76, 77, 78, 79, 80] [(74, 9), (74, 10)] s_w116 s_w_3) ∧ ((TyX s_w_3) ∧ (∃ s_w_7 : PS, ((M_X2_levelDue s_w_3 0 s_w_7) ∧ ((Fr intsX [74, 75, 79, 80] [(74, 5), (74, 10)] s_w_3 s_w_7) ∧ ((TyX s_w_7) ∧ (∃ s_w_10 : PS, ((M_X2_levelLeft s_w_7 0 s_w_10) ∧ ((Fr intsX [74, 75, 76, 77, 78, 79, 80] [(74, 6), (74, 10)] s_w_7 s_w_10) ∧ ((TyX s_w_10) ∧ (K 116 (x116_1 + 1) 0 s_w_10 rr ss)))))))))))))))))))
def T_X2_level_e (K : Nat → Int → Int → PS → Int → PS → Prop) (s_w : PS) (rr : Int) (ss : PS) : Prop := ((TyX s_w) ∧ (∃ s_w_29 : PS, ((M_J7_fill_d0a16_75 s_w 0 0 s_w_29) ∧ ((Fr intsX [75] [] s_w s_w_29) ∧ ((TyX s_w_29) ∧ (∃ s_w_33 : PS, ((M_J7_fill_d0a16_77 s_w_29 0 0 s_w_33) ∧ ((Fr intsX [77] [] s_w_29 s_w_33) ∧ ((TyX s_w_33) ∧ (∃ s_w_37 : PS, s_w_37 = (us s_w_33 74 5 0) ∧ (∃ s_w_38 : PS, s_w_38 = (us s_w_37 74 6 0) ∧ (∃ s_w_39 : PS, ((M_X2_startQueue s_w_38 0 s_w_39) ∧ ((Fr intsX [74, 80] [(74, 9), (74, 10)] s_w_38 s_w_39) ∧ ((TyX s_w_39) ∧ (K 32 0 0 s_w_39 rr ss))))))))))))))))
def It_X2_level : Nat → Nat → Int → Int → PS → Int → PS → Prop
  | 0, _, _, _, _, _, _ => False
  | n + 1, pc, a0, a1, s, r, t => (pc = 32 ∧ T_X2_level_32 (It_X2_level n) a0 s r t) ∨ (pc = 45 ∧ T_X2_level_45 (It_X2_level n) a0 a1 s r t) ∨ (pc = 97 ∧ T_X2_level_97 (It_X2_level n) a0 a1 s r t) ∨ (pc = 116 ∧ T_X2_level_116 (It_X2_level n) a0 s r t)
theorem rl_X2_level_32 {n : Nat} {a0 : Int} {s t : PS} {r : Int} (h : T_X2_level_32 (It_X2_level n) a0 s r t) : It_X2_level (n + 1) 32 a0 0 s r t := Or.inl ⟨rfl, h⟩
theorem rl_X2_level_45 {n : Nat} {a0 a1 : Int} {s t : PS} {r : Int} (h : T_X2_level_45 (It_X2_level n) a0 a1 s r t) : It_X2_level (n + 1) 45 a0 a1 s r t := Or.inr (Or.inl ⟨rfl, h⟩)
theorem rl_X2_level_97 {n : Nat} {a0 a1 : Int} {s t : PS} {r : Int} (h : T_X2_level_97 (It_X2_level n) a0 a1 s r t) : It_X2_level (n + 1) 97 a0 a1 s r t := Or.inr (Or.inr (Or.inl ⟨rfl, h⟩))
theorem rl_X2_level_116 {n : Nat} {a0 : Int} {s t : PS} {r : Int} (h : T_X2_level_116 (It_X2_level n) a0 s r t) : It_X2_level (n + 1) 116 a0 0 s r t := Or.inr (Or.inr (Or.inr (⟨rfl, h⟩)))
theorem ul_X2_level_32 {n : Nat} {a0 a1 : Int} {s t : PS} {r : Int} (h : It_X2_level (n + 1) 32 a0 a1 s r t) : T_X2_level_32 (It_X2_level n) a0 s r t := by
  have h2 : ((32 : Nat) = 32 ∧ T_X2_level_32 (It_X2_level n) a0 s r t) ∨ ((32 : Nat) = 45 ∧ T_X2_level_45 (It_X2_level n) a0 a1 s r t) ∨ ((32 : Nat) = 97 ∧ T_X2_level_97 (It_X2_level n) a0 a1 s r t) ∨ ((32 : Nat) = 116 ∧ T_X2_level_116 (It_X2_level n) a0 s r t) := h
  rcases h2 with ⟨e, h2⟩ | ⟨e, h2⟩ | ⟨e, h2⟩ | ⟨e, h2⟩
  · exact h2
  · exact absurd e (by decide)
  · exact absurd e (by decide)
  · exact absurd e (by decide)
theorem ul_X2_level_45 {n : Nat} {a0 a1 : Int} {s t : PS} {r : Int} (h : It_X2_level (n + 1) 45 a0 a1 s r t) : T_X2_level_45 (It_X2_level n) a0 a1 s r t := by
  have h2 : ((45 : Nat) = 32 ∧ T_X2_level_32 (It_X2_level n) a0 s r t) ∨ ((45 : Nat) = 45 ∧ T_X2_level_45 (It_X2_level n) a0 a1 s r t) ∨ ((45 : Nat) = 97 ∧ T_X2_level_97 (It_X2_level n) a0 a1 s r t) ∨ ((45 : Nat) = 116 ∧ T_X2_level_116 (It_X2_level n) a0 s r t) := h
  rcases h2 with ⟨e, h2⟩ | ⟨e, h2⟩ | ⟨e, h2⟩ | ⟨e, h2⟩
  · exact absurd e (by decide)
  · exact h2
  · exact absurd e (by decide)
  · exact absurd e (by decide)
theorem ul_X2_level_97 {n : Nat} {a0 a1 : Int} {s t : PS} {r : Int} (h : It_X2_level (n + 1) 97 a0 a1 s r t) : T_X2_level_97 (It_X2_level n) a0 a1 s r t := by
  have h2 : ((97 : Nat) = 32 ∧ T_X2_level_32 (It_X2_level n) a0 s r t) ∨ ((97 : Nat) = 45 ∧ T_X2_level_45 (It_X2_level n) a0 a1 s r t) ∨ ((97 : Nat) = 97 ∧ T_X2_level_97 (It_X2_level n) a0 a1 s r t) ∨ ((97 : Nat) = 116 ∧ T_X2_level_116 (It_X2_level n) a0 s r t) := h
  rcases h2 with ⟨e, h2⟩ | ⟨e, h2⟩ | ⟨e, h2⟩ | ⟨e, h2⟩
  · exact absurd e (by decide)
  · exact absurd e (by decide)
  · exact h2
  · exact absurd e (by decide)
theorem ul_X2_level_116 {n : Nat} {a0 a1 : Int} {s t : PS} {r : Int} (h : It_X2_level (n + 1) 116 a0 a1 s r t) : T_X2_level_116 (It_X2_level n) a0 s r t := by
  have h2 : ((116 : Nat) = 32 ∧ T_X2_level_32 (It_X2_level n) a0 s r t) ∨ ((116 : Nat) = 45 ∧ T_X2_level_45 (It_X2_level n) a0 a1 s r t) ∨ ((116 : Nat) = 97 ∧ T_X2_level_97 (It_X2_level n) a0 a1 s r t) ∨ ((116 : Nat) = 116 ∧ T_X2_level_116 (It_X2_level n) a0 s r t) := h
  rcases h2 with ⟨e, h2⟩ | ⟨e, h2⟩ | ⟨e, h2⟩ | ⟨e, h2⟩
  · exact absurd e (by decide)
  · exact absurd e (by decide)
  · exact absurd e (by decide)
  · exact h2
def M_X2_level (s : PS) (r : Int) (t : PS) : Prop := ∃ n, T_X2_level_e (It_X2_level n) s r t
theorem mk_X2_level {n : Nat} {s t : PS} {r : Int} (h : T_X2_level_e (It_X2_level n) s r t) : M_X2_level s r t := ⟨n, h⟩
def T_X9_canChange_e (s_w : PS) (p1 : Int) (rr : Int) (ss : PS) : Prop := ((TyX s_w) ∧ ((0 ≤ p1 ∧ p1 ≤ 39) ∧ (((s_w 71 p1.toNat) < (s_w 68 p1.toNat) ∧ (rr = 1 ∧ ss = s_w)) ∨ (¬ ((s_w 71 p1.toNat) < (s_w 68 p1.toNat)) ∧ (((iAnd (s_w 70 p1.toNat) (iXor (s_w 82 p1.toNat) (-1))) = 0 ∧ (rr = 0 ∧ ss = s_w)) ∨ (¬ ((iAnd (s_w 70 p1.toNat) (iXor (s_w 82 p1.toNat) (-1))) = 0) ∧ (rr = 1 ∧ ss = s_w)))))))
def M_X9_canChange (s : PS) (p1 : Int) (r : Int) (t : PS) : Prop := T_X9_canChange_e s p1 r t
theorem mk_X9_canChange {s t : PS} {p1 : Int} {r : Int} (h : T_X9_canChange_e s p1 r t) : M_X9_canChange s p1 r t := h
def T_X9_isFree_e (s_w : PS) (p1 p2 : Int) (rr : Int) (ss : PS) : Prop := ((TyX s_w) ∧ ((0 ≤ p1 ∧ p1 ≤ 239) ∧ (((s_w 85 p1.toNat) = (s_w 81 4) ∧ (rr = 0 ∧ ss = s_w)) ∨ (¬ ((s_w 85 p1.toNat) = (s_w 81 4)) ∧ (((s_w 77 p1.toNat) = p2 ∧ (rr = 1 ∧ ss = s_w)) ∨ (¬ ((s_w 77 p1.toNat) = p2) ∧ (rr = 0 ∧ ss = s_w)))))))
def M_X9_isFree (s : PS) (p1 p2 : Int) (r : Int) (t : PS) : Prop := T_X9_isFree_e s p1 p2 r t
theorem mk_X9_isFree {s t : PS} {p1 p2 : Int} {r : Int} (h : T_X9_isFree_e s p1 p2 r t) : M_X9_isFree s p1 p2 r t := h
def T_X9_seeRow_e (s_w : PS) (p1 p2 : Int) (rr : Int) (ss : PS) : Prop := ((TyX s_w) ∧ ((0 ≤ p1 ∧ p1 ≤ 39) ∧ (((-3) ≤ p2 ∧ p2 ≤ 9) ∧ (∃ s_w_1 : PS, s_w_1 = (us s_w 83 p1.toNat (s_w 81 4)) ∧ (∃ s_w_2 : PS, s_w_2 = (us s_w_1 84 p1.toNat p2) ∧ (∃ s_w_3 : PS, s_w_3 = (us s_w_2 87 (s_w 81 11).toNat p1) ∧ (∃ s_w_4 : PS, s_w_4 = (us s_w_3 81 11 ((s_w 81 11) + 1)) ∧ (((s_w 81 12) = (-1) ∧ ((p2 = (-3) ∧ (rr = 0 ∧ ss = s_w_4)) ∨ (¬ (p2 = (-3)) ∧ (((s_w 75 p1.toNat) = (s_w 74 5) ∧ (∃ s_w_10 : PS, s_w_10 = (us s_w_4 81 12 p1) ∧ (rr = 0 ∧ ss = s_w_10))) ∨ (¬ ((s_w 75 p1.toNat) = (s_w 74 5)) ∧ (rr = 0 ∧ ss = s_w_4)))))) ∨ (¬ ((s_w 81 12) = (-1)) ∧ (rr = 0 ∧ ss = s_w_4))))))))))
def M_X9_seeRow (s : PS) (p1 p2 : Int) (r : Int) (t : PS) : Prop := T_X9_seeRow_e s p1 p2 r t
theorem mk_X9_seeRow {s t : PS} {p1 p2 : Int} {r : Int} (h : T_X9_seeRow_e s p1 p2 r t) : M_X9_seeRow s p1 p2 r t := h
