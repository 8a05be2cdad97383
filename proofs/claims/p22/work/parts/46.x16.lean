def T_X4_listSets_1_49 (K : Nat → Int → Int → Int → Int → Int → Int → Int → PS → Int → PS → Prop) (x49_1 x49_3 x49_4 x49_5 x49_6 : Int) (s_w49 : PS) (rr : Int) (ss : PS) : Prop := ((TyX s_w49) ∧ ((0 ≤ x49_1 ∧ x49_1 ≤ 39) ∧ ((1 ≤ x49_4 ∧ x49_4 ≤ 1024) ∧ ((0 ≤ x49_6 ∧ x49_6 ≤ 10) ∧ (((s_w49 1 0) ≤ x49_6 ∧ (rr = x49_4 ∧ ss = s_w49)) ∨ (¬ ((s_w49 1 0) ≤ x49_6) ∧ (((iAnd (iShr x49_5 x49_6) 1) = 0 ∧ (K 83 x49_1 x49_3 x49_4 x49_5 x49_6 0 0 s_w49 rr ss)) ∨ (¬ ((iAnd (iShr x49_5 x49_6) 1) = 0) ∧ (((s_w49 4 x49_6.toNat) ≤ 0 ∧ (K 83 x49_1 x49_3 x49_4 x49_5 x49_6 0 0 s_w49 rr ss)) ∨ (¬ ((s_w49 4 x49_6.toNat) ≤ 0) ∧ (K 84 x49_1 x49_3 x49_4 x49_5 x49_6 x49_4 0 s_w49 rr ss)))))))))))
def T_X4_listSets_1_83 (K : Nat → Int → Int → Int → Int → Int → Int → Int → PS → Int → PS → Prop) (x83_1 x83_3 x83_4 x83_5 x83_6 : Int) (s_w83 : PS) (rr : Int) (ss : PS) : Prop := ((TyX s_w83) ∧ ((0 ≤ x83_1 ∧ x83_1 ≤ 39) ∧ ((1 ≤ x83_4 ∧ x83_4 ≤ 1024) ∧ ((0 ≤ x83_6 ∧ x83_6 ≤ 9) ∧ (K 84 x83_1 x83_3 x83_4 x83_5 x83_6 0 0 s_w83 rr ss)))))
def T_X4_listSets_1_84 (K : Nat → Int → Int → Int → Int → Int → Int → Int → PS → Int → PS → Prop) (x84_1 x84_3 x84_4 x84_5 x84_6 y84_0 : Int) (s_w84 : PS) (rr : Int) (ss : PS) : Prop := ((TyX s_w84) ∧ ((0 ≤ x84_1 ∧ x84_1 ≤ 39) ∧ ((1 ≤ x84_4 ∧ x84_4 ≤ 1024) ∧ ((0 ≤ x84_6 ∧ x84_6 ≤ 9) ∧ ((0 ≤ y84_0 ∧ y84_0 ≤ 1024) ∧ (K 89 x84_1 x84_3 x84_4 x84_5 x84_6 y84_0 0 s_w84 rr ss))))))
def T_X4_listSets_1_89 (K : Nat → Int → Int → Int → Int → Int → Int → Int → PS → Int → PS → Prop) (x89_1 x89_3 x89_4 x89_5 x89_6 x89_7 x89_8 : Int) (s_w89 : PS) (rr : Int) (ss : PS) : Prop := ((TyX s_w89) ∧ ((0 ≤ x89_1 ∧ x89_1 ≤ 39) ∧ ((1 ≤ x89_4 ∧ x89_4 ≤ 1024) ∧ ((0 ≤ x89_6 ∧ x89_6 ≤ 9) ∧ ((0 ≤ x89_7 ∧ x89_7 ≤ 1024) ∧ ((0 ≤ x89_8 ∧ x89_8 ≤ 1024) ∧ ((x89_7 ≤ x89_8 ∧ (K 195 x89_1 x89_3 x89_4 x89_5 x89_6 x89_7 x89_8 s_w89 rr ss)) ∨ (¬ (x89_7 ≤ x89_8) ∧ ((1024 ≤ x89_4 ∧ (K 195 x89_1 x89_3 x89_4 x89_5 x89_6 x89_7 x89_8 s_w89 rr ss)) ∨ (¬ (1024 ≤ x89_4) ∧ ((x89_3 < (wi ((s_w89 100 x89_8.toNat) + (s_w89 3 x89_6.toNat))) ∧ (K 189 x89_1 x89_3 x89_4 x89_5 x89_6 x89_7 x89_8 s_w89 rr ss)) ∨ (¬ (x89_3 < (wi ((s_w89 100 x89_8.toNat) + (s_w89 3 x89_6.toNat)))) ∧ (∃ s_w_10 : PS, s_w_10 = (us s_w89 99 x89_4.toNat (iOr (s_w89 99 x89_8.toNat) (iShl 1 x89_6))) ∧ (∃ s_w_12 : PS, s_w_12 = (us s_w_10 100 x89_4.toNat (wi ((s_w89 100 x89_8.toNat) + (s_w89 3 x89_6.toNat)))) ∧ (∃ s_w_16 : PS, s_w_16 = (us s_w_12 101 x89_4.toNat (wi ((s_w89 101 x89_8.toNat) + (s_w89 4 x89_6.toNat)))) ∧ (K 189 x89_1 x89_3 (x89_4 + 1) x89_5 x89_6 x89_7 x89_8 s_w_16 rr ss))))))))))))))))
def T_X4_listSets_1_189 (K : Nat → Int → Int → Int → Int → Int → Int → Int → PS → Int → PS → Prop) (x189_1 x189_3 x189_4 x189_5 x189_6 x189_7 x189_8 : Int) (s_w189 : PS) (rr : Int) (ss : PS) : Prop := ((TyX s_w189) ∧ ((0 ≤ x189_1 ∧ x189_1 ≤ 39) ∧ ((1 ≤ x189_4 ∧ x189_4 ≤ 1024) ∧ ((0 ≤ x189_6 ∧ x189_6 ≤ 9) ∧ ((1 ≤ x189_7 ∧ x189_7 ≤ 1024) ∧ ((0 ≤ x189_8 ∧ x189_8 ≤ 1023) ∧ (K 89 x189_1 x189_3 x189_4 x189_5 x189_6 x189_7 (x189_8 + 1) s_w189 rr ss)))))))
def T_X4_listSets_1_195 (K : Nat → Int → Int → Int → Int → Int → Int → Int → PS → Int → PS → Prop) (x195_1 x195_3 x195_4 x195_5 x195_6 x195_7 x195_8 : Int) (s_w195 : PS) (rr : Int) (ss : PS) : Prop := ((TyX s_w195) ∧ ((0 ≤ x195_1 ∧ x195_1 ≤ 39) ∧ ((1 ≤ x195_4 ∧ x195_4 ≤ 1024) ∧ ((0 ≤ x195_6 ∧ x195_6 ≤ 9) ∧ ((0 ≤ x195_7 ∧ x195_7 ≤ 1024) ∧ ((0 ≤ x195_8 ∧ x195_8 ≤ 1024) ∧ (K 49 x195_1 x195_3 x195_4 x195_5 (x195_6 + 1) 0 0 s_w195 rr ss)))))))
def T_X4_listSets_1_e (K : Nat → Int → Int → Int → Int → Int → Int → Int → PS → Int → PS → Prop) (s_w : PS) (p1 p3 : Int) (rr : Int) (ss : PS) : Prop := ((TyX s_w) ∧ ((0 ≤ p1 ∧ p1 ≤ 39) ∧ (∃ s_w_22 : PS, s_w_22 = (us s_w 99 0 0) ∧ (∃ r_24 : Int, (∃ s_w_23 : PS, ((M_X4_worthOf_1 s_w_22 p1 r_24 s_w_23) ∧ ((Fr intsX [] [] s_w_22 s_w_23) ∧ ((TyX s_w_23) ∧ (∃ s_w_26 : PS, s_w_26 = (us s_w_23 100 0 r_24) ∧ (∃ s_w_27 : PS, s_w_27 = (us s_w_26 101 0 0) ∧ (K 49 p1 p3 1 (iAnd (s_w 93 p1.toNat) (iXor (s_w 95 p1.toNat) (-1))) 0 0 0 s_w_27 rr ss)))))))))))
def It_X4_listSets_1 : Nat → Nat → Int → Int → Int → Int → Int → Int → Int → PS → Int → PS → Prop
  | 0, _, _, _, _, _, _, _, _, _, _, _ => False
  | n + 1, pc, a0, a1, a2, a3, a4, a5, a6, s, r, t => (pc = 49 ∧ T_X4_listSets_1_49 (It_X4_listSets_1 n) a0 a1 a2 a3 a4 s r t) ∨ (pc = 83 ∧ T_X4_listSets_1_83 (It_X4_listSets_1 n) a0 a1 a2 a3 a4 s r t) ∨ (pc = 84 ∧ T_X4_listSets_1_84 (It_X4_listSets_1 n) a0 a1 a2 a3 a4 a5 s r t) ∨ (pc = 89 ∧ T_X4_listSets_1_89 (It_X4_listSets_1 n) a0 a1 a2 a3 a4 a5 a6 s r t) ∨ (pc = 189 ∧ T_X4_listSets_1_189 (It_X4_listSets_1 n) a0 a1 a2 a3 a4 a5 a6 s r t) ∨ (pc = 195 ∧ T_X4_listSets_1_195 (It_X4_listSets_1 n) a0 a1 a2 a3 a4 a5 a6 s r t)
theorem rl_X4_listSets_1_49 {n : Nat} {a0 a1 a2 a3 a4 : Int} {s t : PS} {r : Int} (h : T_X4_listSets_1_49 (It_X4_listSets_1 n) a0 a1 a2 a3 a4 s r t) : It_X4_listSets_1 (n + 1) 49 a0 a1 a2 a3 a4 0 0 s r t := Or.inl ⟨rfl, h⟩
theorem rl_X4_listSets_1_83 {n : Nat} {a0 a1 a2 a3 a4 : Int} {s t : PS} {r : Int} (h : T_X4_listSets_1_83 (It_X4_listSets_1 n) a0 a1 a2 a3 a4 s r t) : It_X4_listSets_1 (n + 1) 83 a0 a1 a2 a3 a4 0 0 s r t := Or.inr (Or.inl ⟨rfl, h⟩)
theorem rl_X4_listSets_1_84 {n : Nat} {a0 a1 a2 a3 a4 a5 : Int} {s t : PS} {r : Int} (h : T_X4_listSets_1_84 (It_X4_listSets_1 n) a0 a1 a2 a3 a4 a5 s r t) : It_X4_listSets_1 (n + 1) 84 a0 a1 a2 a3 a4 a5 0 s r t := Or.inr (Or.inr (Or.inl ⟨rfl, h⟩))
theorem rl_X4_listSets_1_89 {n : Nat} {a0 a1 a2 a3 a4 a5 a6 : Int} {s t : PS} {r : Int} (h : T_X4_listSets_1_89 (It_X4_listSets_1 n) a0 a1 a2 a3 a4 a5 a6 s r t) : It_X4_listSets_1 (n + 1) 89 a0 a1 a2 a3 a4 a5 a6 s r t := Or.inr (Or.inr (Or.inr (Or.inl ⟨rfl, h⟩)))
theorem rl_X4_listSets_1_189 {n : Nat} {a0 a1 a2 a3 a4 a5 a6 : Int} {s t : PS} {r : Int} (h : T_X4_listSets_1_189 (It_X4_listSets_1 n) a0 a1 a2 a3 a4 a5 a6 s r t) : It_X4_listSets_1 (n + 1) 189 a0 a1 a2 a3 a4 a5 a6 s r t := Or.inr (Or.inr (Or.inr (Or.inr (Or.inl ⟨rfl, h⟩))))
theorem rl_X4_listSets_1_195 {n : Nat} {a0 a1 a2 a3 a4 a5 a6 : Int} {s t : PS} {r : Int} (h : T_X4_listSets_1_195 (It_X4_listSets_1 n) a0 a1 a2 a3 a4 a5 a6 s r t) : It_X4_listSets_1 (n + 1) 195 a0 a1 a2 a3 a4 a5 a6 s r t := Or.inr (Or.inr (Or.inr (Or.inr (Or.inr (⟨rfl, h⟩)))))
theorem ul_X4_listSets_1_49 {n : Nat} {a0 a1 a2 a3 a4 a5 a6 : Int} {s t : PS} {r : Int} (h : It_X4_listSets_1 (n + 1) 49 a0 a1 a2 a3 a4 a5 a6 s r t) : T_X4_listSets_1_49 (It_X4_listSets_1 n) a0 a1 a2 a3 a4 s r t := by
  have h2 : ((49 : Nat) = 49 ∧ T_X4_listSets_1_49 (It_X4_listSets_1 n) a0 a1 a2 a3 a4 s r t) ∨ ((49 : Nat) = 83 ∧ T_X4_listSets_1_83 (It_X4_listSets_1 n) a0 a1 a2 a3 a4 s r t) ∨ ((49 : Nat) = 84 ∧ T_X4_listSets_1_84 (It_X4_listSets_1 n) a0 a1 a2 a3 a4 a5 s r t) ∨ ((49 : Nat) = 89 ∧ T_X4_listSets_1_89 (It_X4_listSets_1 n) a0 a1 a2 a3 a4 a5 a6 s r t) ∨ ((49 : Nat) = 189 ∧ T_X4_listSets_1_189 (It_X4_listSets_1 n) a0 a1 a2 a3 a4 a5 a6 s r t) ∨ ((49 : Nat) = 195 ∧ T_X4_listSets_1_195 (It_X4_listSets_1 n) a0 a1 a2 a3 a4 a5 a6 s r t) := h
  rcases h2 with ⟨e, h2⟩ | ⟨e, h2⟩ | ⟨e, h2⟩ | ⟨e, h2⟩ | ⟨e, h2⟩ | ⟨e, h2⟩
  · exact h2
  · exact absurd e (by decide)
  · exact absurd e (by decide)
  · exact absurd e (by decide)
  · exact absurd e (by decide)
  · exact absurd e (by decide)
theorem ul_X4_listSets_1_83 {n : Nat} {a0 a1 a2 a3 a4 a5 a6 : Int} {s t : PS} {r : Int} (h : It_X4_listSets_1 (n + 1) 83 a0 a1 a2 a3 a4 a5 a6 s r t) : T_X4_listSets_1_83 (It_X4_listSets_1 n) a0 a1 a2 a3 a4 s r t := by
  have h2 : ((83 : Nat) = 49 ∧ T_X4_listSets_1_49 (It_X4_listSets_1 n) a0 a1 a2 a3 a4 s r t) ∨ ((83 : Nat) = 83 ∧ T_X4_listSets_1_83 (It_X4_listSets_1 n) a0 a1 a2 a3 a4 s r t) ∨ ((83 : Nat) = 84 ∧ T_X4_listSets_1_84 (It_X4_listSets_1 n) a0 a1 a2 a3 a4 a5 s r t) ∨ ((83 : Nat) = 89 ∧ T_X4_listSets_1_89 (It_X4_listSets_1 n) a0 a1 a2 a3 a4 a5 a6 s r t) ∨ ((83 : Nat) = 189 ∧ T_X4_listSets_1_189 (It_X4_listSets_1 n) a0 a1 a2 a3 a4 a5 a6 s r t) ∨ ((83 : Nat) = 195 ∧ T_X4_listSets_1_195 (It_X4_listSets_1 n) a0 a1 a2 a3 a4 a5 a6 s r t) := h
  rcases h2 with ⟨e, h2⟩ | ⟨e, h2⟩ | ⟨e, h2⟩ | ⟨e, h2⟩ | ⟨e, h2⟩ | ⟨e, h2⟩
  · exact absurd e (by decide)
  · exact h2
  · exact absurd e (by decide)
  · exact absurd e (by decide)
  · exact absurd e (by decide)
  · exact absurd e (by decide)
theorem ul_X4_listSets_1_84 {n : Nat} {a0 a1 a2 a3 a4 a5 a6 : Int} {s t : PS} {r : Int} (h : It_X4_listSets_1 (n + 1) 84 a0 a1 a2 a3 a4 a5 a6 s r t) : T_X4_listSets_1_84 (It_X4_listSets_1 n) a0 a1 a2 a3 a4 a5 s r t := by
  have h2 : ((84 : Nat) = 49 ∧ T_X4_listSets_1_49 (It_X4_listSets_1 n) a0 a1 a2 a3 a4 s r t) ∨ ((84 : Nat) = 83 ∧ T_X4_listSets_1_83 (It_X4_listSets_1 n) a0 a1 a2 a3 a4 s r t) ∨ ((84 : Nat) = 84 ∧ T_X4_listSets_1_84 (It_X4_listSets_1 n) a0 a1 a2 a3 a4 a5 s r t) ∨ ((84 : Nat) = 89 ∧ T_X4_listSets_1_89 (It_X4_listSets_1 n) a0 a1 a2 a3 a4 a5 a6 s r t) ∨ ((84 : Nat) = 189 ∧ T_X4_listSets_1_189 (It_X4_listSets_1 n) a0 a1 a2 a3 a4 a5 a6 s r t) ∨ ((84 : Nat) = 195 ∧ T_X4_listSets_1_195 (It_X4_listSets_1 n) a0 a1 a2 a3 a4 a5 a6 s r t) := h
  rcases h2 with ⟨e, h2⟩ | ⟨e, h2⟩ | ⟨e, h2⟩ | ⟨e, h2⟩ | ⟨e, h2⟩ | ⟨e, h2⟩
  · exact absurd e (by decide)
  · exact absurd e (by decide)
  · exact h2
  · exact absurd e (by decide)
  · exact absurd e (by decide)
  · exact absurd e (by decide)
theorem ul_X4_listSets_1_89 {n : Nat} {a0 a1 a2 a3 a4 a5 a6 : Int} {s t : PS} {r : Int} (h : It_X4_listSets_1 (n + 1) 89 a0 a1 a2 a3 a4 a5 a6 s r t) : T_X4_listSets_1_89 (It_X4_listSets_1 n) a0 a1 a2 a3 a4 a5 a6 s r t := by
  have h2 : ((89 : Nat) = 49 ∧ T_X4_listSets_1_49 (It_X4_listSets_1 n) a0 a1 a2 a3 a4 s r t) ∨ ((89 : Nat) = 83 ∧ T_X4_listSets_1_83 (It_X4_listSets_1 n) a0 a1 a2 a3 a4 s r t) ∨ ((89 : Nat) = 84 ∧ T_X4_listSets_1_84 (It_X4_listSets_1 n) a0 a1 a2 a3 a4 a5 s r t) ∨ ((89 : Nat) = 89 ∧ T_X4_listSets_1_89 (It_X4_listSets_1 n) a0 a1 a2 a3 a4 a5 a6 s r t) ∨ ((89 : Nat) = 189 ∧ T_X4_listSets_1_189 (It_X4_listSets_1 n) a0 a1 a2 a3 a4 a5 a6 s r t) ∨ ((89 : Nat) = 195 ∧ T_X4_listSets_1_195 (It_X4_listSets_1 n) a0 a1 a2 a3 a4 a5 a6 s r t) := h
  rcases h2 with ⟨e, h2⟩ | ⟨e, h2⟩ | ⟨e, h2⟩ | ⟨e, h2⟩ | ⟨e, h2⟩ | ⟨e, h2⟩
  · exact absurd e (by decide)
  · exact absurd e (by decide)
  · exact absurd e (by decide)
  · exact h2
  · exact absurd e (by decide)
  · exact absurd e (by decide)
theorem ul_X4_listSets_1_189 {n : Nat} {a0 a1 a2 a3 a4 a5 a6 : Int} {s t : PS} {r : Int} (h : It_X4_listSets_1 (n + 1) 189 a0 a1 a2 a3 a4 a5 a6 s r t) : T_X4_listSets_1_189 (It_X4_listSets_1 n) a0 a1 a2 a3 a4 a5 a6 s r t := by
  have h2 : ((189 : Nat) = 49 ∧ T_X4_listSets_1_49 (It_X4_listSets_1 n) a0 a1 a2 a3 a4 s r t) ∨ ((189 : Nat) = 83 ∧ T_X4_listSets_1_83 (It_X4_listSets_1 n) a0 a1 a2 a3 a4 s r t) ∨ ((189 : Nat) = 84 ∧ T_X4_listSets_1_84 (It_X4_listSets_1 n) a0 a1 a2 a3 a4 a5 s r t) ∨ ((189 : Nat) = 89 ∧ T_X4_listSets_1_89 (It_X4_listSets_1 n) a0 a1 a2 a3 a4 a5 a6 s r t) ∨ ((189 : Nat) = 189 ∧ T_X4_listSets_1_189 (It_X4_listSets_1 n) a0 a1 a2 a3 a4 a5 a6 s r t) ∨ ((189 : Nat) = 195 ∧ T_X4_listSets_1_195 (It_X4_listSets_1 n) a0 a1 a2 a3 a4 a5 a6 s r t) := h
  rcases h2 with ⟨e, h2⟩ | ⟨e, h2⟩ | ⟨e, h2⟩ | ⟨e, h2⟩ | ⟨e, h2⟩ | ⟨e, h2⟩
  · exact absurd e (by decide)
  · exact absurd e (by decide)
  · exact absurd e (by decide)
  · exact absurd e (by decide)
  · exact h2
  · exact absurd e (by decide)
theorem ul_X4_listSets_1_195 {n : Nat} {a0 a1 a2 a3 a4 a5 a6 : Int} {s t : PS} {r : Int} (h : It_X4_listSets_1 (n + 1) 195 a0 a1 a2 a3 a4 a5 a6 s r t) : T_X4_listSets_1_195 (It_X4_listSets_1 n) a0 a1 a2 a3 a4 a5 a6 s r t := by
  have h2 : ((195 : Nat) = 49 ∧ T_X4_listSets_1_49 (It_X4_listSets_1 n) a0 a1 a2 a3 a4 s r t) ∨ ((195 : Nat) = 83 ∧ T_X4_listSets_1_83 (It_X4_listSets_1 n) a0 a1 a2 a3 a4 s r t) ∨ ((195 : Nat) = 84 ∧ T_X4_listSets_1_84 (It_X4_listSets_1 n) a0 a1 a2 a3 a4 a5 s r t) ∨ ((195 : Nat) = 89 ∧ T_X4_listSets_1_89 (It_X4_listSets_1 n) a0 a1 a2 a3 a4 a5 a6 s r t) ∨ ((195 : Nat) = 189 ∧ T_X4_listSets_1_189 (It_X4_listSets_1 n) a0 a1 a2 a3 a4 a5 a6 s r t) ∨ ((195 : Nat) = 195 ∧ T_X4_listSets_1_195 (It_X4_listSets_1 n) a0 a1 a2 a3 a4 a5 a6 s r t) := h
  rcases h2 with ⟨e, h2⟩ | ⟨e, h2⟩ | ⟨e, h2⟩ | ⟨e, h2⟩ | ⟨e, h2⟩ | ⟨e, h2⟩
  · exact absurd e (by decide)
  · exact absurd e (by decide)
  · exact absurd e (by decide)
  · exact absurd e (by decide)
  · exact absurd e (by decide)
  · exact h2
def M_X4_listSets_1 (s : PS) (p1 p3 : Int) (r : Int) (t : PS) : Prop := ∃ n, T_X4_listSets_1_e (It_X4_listSets_1 n) s p1 p3 r t
theorem mk_X4_listSets_1 {n : Nat} {s t : PS} {p1 p3 : Int} {r : Int} (h : T_X4_listSets_1_e (It_X4_listSets_1 n) s p1 p3 r t) : M_X4_listSets_1 s p1 p3 r t := ⟨n, h⟩
def T_X4_cheapest_1_21 (K : Nat → Int → Int → Int → Int → Int → Int → Int → PS → Int → PS → Prop) (x21_1 x21_3 y21_0 y21_2 : Int) (s_w21 : PS) (rr : Int) (ss : PS) : Prop := ((TyX s_w21) ∧ ((0 ≤ x21_1 ∧ x21_1 ≤ 39) ∧ ((0 ≤ y21_2 ∧ y21_2 ≤ 39) ∧ (∃ r_17 : Int, (∃ s_w_16 : PS, ((M_X4_listSets_1 s_w21 y21_2 y21_0 r_17 s_w_16) ∧ ((Fr intsX [99, 100, 101] [] s_w21 s_w_16) ∧ ((TyX s_w_16) ∧ ((1 ≤ r_17 ∧ r_17 ≤ 1024) ∧ (∃ r_22 : Int, (∃ s_w_21 : PS, ((M_J6_bitCount_0f7a4 s_w_16 (s_w21 95 x21_1.toNat) r_22 s_w_21) ∧ ((Fr intsX [] [] s_w_16 s_w_21) ∧ ((TyX s_w_21) ∧ ((0 ≤ r_22 ∧ r_22 ≤ 63) ∧ (K 50 x21_1 x21_3 r_17 (wi ((s_w21 92 x21_1.toNat) - r_22)) (-1) 0 0 s_w_21 rr ss))))))))))))))))
def T_X4_cheapest_1_50 (K : Nat → Int → Int → Int → Int → Int → Int → Int → PS → Int → PS → Prop) (x50_1 x50_3 x50_4 x50_5 x50_6 x50_7 : Int) (s_w50 : PS) (rr : Int) (ss : PS) : Prop := ((TyX s_w50) ∧ ((0 ≤ x50_1 ∧ x50_1 ≤ 39) ∧ ((1 ≤ x50_4 ∧ x50_4 ≤ 1024) ∧ (((-1) ≤ x50_6 ∧ x50_6 ≤ 1023) ∧ ((0 ≤ x50_7 ∧ x50_7 ≤ 1024) ∧ ((x50_4 ≤ x50_7 ∧ (rr = x50_6 ∧ ss = s_w50)) ∨ (¬ (x50_4 ≤ x50_7) ∧ (((s_w50 100 x50_7.toNat) < (wi (x50_3 - (s_w50 1 9))) ∧ (K 92 x50_1 x50_3 x50_4 x50_5 x50_6 x50_7 0 s_w50 rr ss)) ∨ (¬ ((s_w50 100 x50_7.toNat) < (wi (x50_3 - (s_w50 1 9)))) ∧ (∃ r_13 : Int, (∃ s_w_12 : PS, ((M_J6_bitCount_0f7a4 s_w50 (s_w50 99 x50_7.toNat) r_13 s_w_12) ∧ ((Fr intsX [] [] s_w50 s_w_12) ∧ ((TyX s_w_12) ∧ ((0 ≤ r_13 ∧ r_13 ≤ 63) ∧ ((r_13 < x50_5 ∧ (K 92 x50_1 x50_3 x50_4 x50_5 x50_6 x50_7 0 s_w_12 rr ss)) ∨ (¬ (r_13 < x50_5) ∧ (K 93 x50_1 x50_3 x50_4 x50_5 x50_6 x50_7 1 s_w_12 rr ss))))))))))))))))))
def T_X4_cheapest_1_92 (K : Nat → Int → Int → Int → Int → Int → Int → Int → PS → Int → PS → Prop) (x92_1 x92_3 x92_4 x92_5 x92_6 x92_7 : Int) (s_w92 : PS) (rr : Int) (ss : PS) : Prop := ((TyX s_w92) ∧ ((0 ≤ x92_1 ∧ x92_1 ≤ 39) ∧ ((1 ≤ x92_4 ∧ x92_4 ≤ 1024) ∧ (((-1) ≤ x92_6 ∧ x92_6 ≤ 1023) ∧ ((0 ≤ x92_7 ∧ x92_7 ≤ 1023) ∧ (K 93 x92_1 x92_3 x92_4 x92_5 x92_6 x92_7 0 s_w92 rr ss))))))
def T_X4_cheapest_1_93 (K : Nat → Int → Int → Int → Int → Int → Int → Int → PS → Int → PS → Prop) (x93_1 x93_3 x93_4 x93_5 x93_6 x93_7 y93_0 : Int) (s_w93 : PS) (rr : Int) (ss : PS) : Prop := ((TyX s_w93) ∧ ((0 ≤ x93_1 ∧ x93_1 ≤ 39) ∧ ((1 ≤ x93_4 ∧ x93_4 ≤ 1024) ∧ (((-1) ≤ x93_6 ∧ x93_6 ≤ 1023) ∧ ((0 ≤ x93_7 ∧ x93_7 ≤ 1023) ∧ ((0 ≤ y93_0 ∧ y93_0 ≤ 1) ∧ ((y93_0 = 0 ∧ (K 121 x93_1 x93_3 x93_4 x93_5 x93_6 x93_7 y93_0 s_w93 rr ss)) ∨ (¬ (y93_0 = 0) ∧ ((x93_6 = (-1) ∧ (K 117 x93_1 x93_3 x93_4 x93_5 x93_6 x93_7 y93_0 s_w93 rr ss)) ∨ (¬ (x93_6 = (-1)) ∧ (∃ r_4 : Int, (∃ s_w_3 : PS, ((M_X4_isBetter s_w93 x93_7 x93_6 r_4 s_w_3) ∧ ((Fr intsX [] [] s_w93 s_w_3) ∧ ((TyX s_w_3) ∧ ((0 ≤ r_4 ∧ r_4 ≤ 1) ∧ ((r_4 = 0 ∧ (K 121 x93_1 x93_3 x93_4 x93_5 x93_6 x93_7 y93_0 s_w_3 rr ss)) ∨ (¬ (r_4 = 0) ∧ (K 117 x93_1 x93_3 x93_4 x93_5 x93_6 x93_7 y93_0 s_w_3 rr ss)))))))))))))))))))
def T_X4_cheapest_1_117 (K : Nat → Int → Int → Int → Int → Int → Int → Int → PS → Int → PS → Prop) (x117_1 x117_3 x117_4 x117_5 x117_6 x117_7 x117_8 : Int) (s_w117 : PS) (rr : Int) (ss : PS) : Prop := ((TyX s_w117) ∧ ((0 ≤ x117_1 ∧ x117_1 ≤ 39) ∧ ((1 ≤ x117_4 ∧ x117_4 ≤ 1024) ∧ (((-1) ≤ x117_6 ∧ x117_6 ≤ 1023) ∧ ((0 ≤ x117_7 ∧ x117_7 ≤ 1023) ∧ ((1 ≤ x117_8 ∧ x117_8 ≤ 1) ∧ (K 121 x117_1 x117_3 x117_4 x117_5 x117_7 x117_7 x117_8 s_w117 rr ss)))))))
def T_X4_cheapest_1_121 (K : Nat → Int → Int → Int → Int → Int → Int → Int → PS → Int → PS → Prop) (x121_1 x121_3 x121_4 x121_5 x121_6 x121_7 x121_8 : Int) (s_w121 : PS) (rr : Int) (ss : PS) : Prop := ((TyX s_w121) ∧ ((0 ≤ x121_1 ∧ x121_1 ≤ 39) ∧ ((1 ≤ x121_4 ∧ x121_4 ≤ 1024) ∧ (((-1) ≤ x121_6 ∧ x121_6 ≤ 1023) ∧ ((0 ≤ x121_7 ∧ x121_7 ≤ 1023) ∧ ((0 ≤ x121_8 ∧ x121_8 ≤ 1) ∧ (K 50 x121_1 x121_3 x121_4 x121_5 x121_6 (x121_7 + 1) 0 s_w121 rr ss)))))))
def T_X4_cheapest_1_e (K : Nat → Int → Int → Int → Int → Int → Int → Int → PS → Int → PS → Prop) (s_w : PS) (p1 : Int) (rr : Int) (ss : PS) : Prop := ((TyX s_w) ∧ ((0 ≤ p1 ∧ p1 ≤ 39) ∧ (∃ r_26 : Int, (∃ s_w_25 : PS, ((M_X4_greatest_1 s_w p1 r_26 s_w_25) ∧ ((Fr intsX [] [] s_w s_w_25) ∧ ((TyX s_w_25) ∧ ((r_26 = 0 ∧ (K 21 p1 r_26 5000 p1 0 0 0 s_w_25 rr ss)) ∨ (¬ (r_26 = 0) ∧ (K 21 p1 r_26 r_26 p1 0 0 0 s_w_25 rr ss))))))))))
def It_X4_cheapest_1 : Nat → Nat → Int → Int → Int → Int → Int → Int → Int → PS → Int → PS → Prop
  | 0, _, _, _, _, _, _, _, _, _, _, _ => False
  | n + 1, pc, a0, a1, a2, a3, a4, a5, a6, s, r, t => (pc = 21 ∧ T_X4_cheapest_1_21 (It_X4_cheapest_1 n) a0 a1 a2 a3 s r t) ∨ (pc = 50 ∧ T_X4_cheapest_1_50 (It_X4_cheapest_1 n) a0 a1 a2 a3 a4 a5 s r t) ∨ (pc = 92 ∧ T_X4_cheapest_1_92 (It_X4_cheapest_1 n) a0 a1 a2 a3 a4 a5 s r t) ∨ (pc = 93 ∧ T_X4_cheapest_1_93 (It_X4_cheapest_1 n) a0 a1 a2 a3 a4 a5 a6 s r t) ∨ (pc = 117 ∧ T_X4_cheapest_1_117 (It_X4_cheapest_1 n) a0 a1 a2 a3 a4 a5 a6 s r t) ∨ (pc = 121 ∧ T_X4_cheapest_1_121 (It_X4_cheapest_1 n) a0 a1 a2 a3 a4 a5 a6 s r t)
theorem rl_X4_cheapest_1_21 {n : Nat} {a0 a1 a2 a3 : Int} {s t : PS} {r : Int} (h : T_X4_cheapest_1_21 (It_X4_cheapest_1 n) a0 a1 a2 a3 s r t) : It_X4_cheapest_1 (n + 1) 21 a0 a1 a2 a3 0 0 0 s r t := Or.inl ⟨rfl, h⟩
theorem rl_X4_cheapest_1_50 {n : Nat} {a0 a1 a2 a3 a4 a5 : Int} {s t : PS} {r : Int} (h : T_X4_cheapest_1_50 (It_X4_cheapest_1 n) a0 a1 a2 a3 a4 a5 s r t) : It_X4_cheapest_1 (n + 1) 50 a0 a1 a2 a3 a4 a5 0 s r t := Or.inr (Or.inl ⟨rfl, h⟩)
theorem rl_X4_cheapest_1_92 {n : Nat} {a0 a1 a2 a3 a4 a5 : Int} {s t : PS} {r : Int} (h : T_X4_cheapest_1_92 (It_X4_cheapest_1 n) a0 a1 a2 a3 a4 a5 s r t) : It_X4_cheapest_1 (n + 1) 92 a0 a1 a2 a3 a4 a5 0 s r t := Or.inr (Or.inr (Or.inl ⟨rfl, h⟩))
theorem rl_X4_cheapest_1_93 {n : Nat} {a0 a1 a2 a3 a4 a5 a6 : Int} {s t : PS} {r : Int} (h : T_X4_cheapest_1_93 (It_X4_cheapest_1 n) a0 a1 a2 a3 a4 a5 a6 s r t) : It_X4_cheapest_1 (n + 1) 93 a0 a1 a2 a3 a4 a5 a6 s r t := Or.inr (Or.inr (Or.inr (Or.inl ⟨rfl, h⟩)))
theorem rl_X4_cheapest_1_117 {n : Nat} {a0 a1 a2 a3 a4 a5 a6 : Int} {s t : PS} {r : Int} (h : T_X4_cheapest_1_117 (It_X4_cheapest_1 n) a0 a1 a2 a3 a4 a5 a6 s r t) : It_X4_cheapest_1 (n + 1) 117 a0 a1 a2 a3 a4 a5 a6 s r t := Or.inr (Or.inr (Or.inr (Or.inr (Or.inl ⟨rfl, h⟩))))
theorem rl_X4_cheapest_1_121 {n : Nat} {a0 a1 a2 a3 a4 a5 a6 : Int} {s t : PS} {r : Int} (h : T_X4_cheapest_1_121 (It_X4_cheapest_1 n) a0 a1 a2 a3 a4 a5 a6 s r t) : It_X4_cheapest_1 (n + 1) 121 a0 a1 a2 a3 a4 a5 a6 s r t := Or.inr (Or.inr (Or.inr (Or.inr (Or.inr (⟨rfl, h⟩)))))
theorem ul_X4_cheapest_1_21 {n : Nat} {a0 a1 a2 a3 a4 a5 a6 : Int} {s t : PS} {r : Int} (h : It_X4_cheapest_1 (n + 1) 21 a0 a1 a2 a3 a4 a5 a6 s r t) : T_X4_cheapest_1_21 (It_X4_cheapest_1 n) a0 a1 a2 a3 s r t := by
  have h2 : ((21 : Nat) = 21 ∧ T_X4_cheapest_1_21 (It_X4_cheapest_1 n) a0 a1 a2 a3 s r t) ∨ ((21 : Nat) = 50 ∧ T_X4_cheapest_1_50 (It_X4_cheapest_1 n) a0 a1 a2 a3 a4 a5 s r t) ∨ ((21 : Nat) = 92 ∧ T_X4_cheapest_1_92 (It_X4_cheapest_1 n) a0 a1 a2 a3 a4 a5 s r t) ∨ ((21 : Nat) = 93 ∧ T_X4_cheapest_1_93 (It_X4_cheapest_1 n) a0 a1 a2 a3 a4 a5 a6 s r t) ∨ ((21 : Nat) = 117 ∧ T_X4_cheapest_1_117 (It_X4_cheapest_1 n) a0 a1 a2 a3 a4 a5 a6 s r t) ∨ ((21 : Nat) = 121 ∧ T_X4_cheapest_1_121 (It_X4_cheapest_1 n) a0 a1 a2 a3 a4 a5 a6 s r t) := h
  rcases h2 with ⟨e, h2⟩ | ⟨e, h2⟩ | ⟨e, h2⟩ | ⟨e, h2⟩ | ⟨e, h2⟩ | ⟨e, h2⟩
  · exact h2
  · exact absurd e (by decide)
  · exact absurd e (by decide)
  · exact absurd e (by decide)
  · exact absurd e (by decide)
  · exact absurd e (by decide)
theorem ul_X4_cheapest_1_50 {n : Nat} {a0 a1 a2 a3 a4 a5 a6 : Int} {s t : PS} {r : Int} (h : It_X4_cheapest_1 (n + 1) 50 a0 a1 a2 a3 a4 a5 a6 s r t) : T_X4_cheapest_1_50 (It_X4_cheapest_1 n) a0 a1 a2 a3 a4 a5 s r t := by
  have h2 : ((50 : Nat) = 21 ∧ T_X4_cheapest_1_21 (It_X4_cheapest_1 n) a0 a1 a2 a3 s r t) ∨ ((50 : Nat) = 50 ∧ T_X4_cheapest_1_50 (It_X4_cheapest_1 n) a0 a1 a2 a3 a4 a5 s r t) ∨ ((50 : Nat) = 92 ∧ T_X4_cheapest_1_92 (It_X4_cheapest_1 n) a0 a1 a2 a3 a4 a5 s r t) ∨ ((50 : Nat) = 93 ∧ T_X4_cheapest_1_93 (It_X4_cheapest_1 n) a0 a1 a2 a3 a4 a5 a6 s r t) ∨ ((50 : Nat) = 117 ∧ T_X4_cheapest_1_117 (It_X4_cheapest_1 n) a0 a1 a2 a3 a4 a5 a6 s r t) ∨ ((50 : Nat) = 121 ∧ T_X4_cheapest_1_121 (It_X4_cheapest_1 n) a0 a1 a2 a3 a4 a5 a6 s r t) := h
  rcases h2 with ⟨e, h2⟩ | ⟨e, h2⟩ | ⟨e, h2⟩ | ⟨e, h2⟩ | ⟨e, h2⟩ | ⟨e, h2⟩
  · exact absurd e (by decide)
  · exact h2
  · exact absurd e (by decide)
  · exact absurd e (by decide)
  · exact absurd e (by decide)
  · exact absurd e (by decide)
theorem ul_X4_cheapest_1_92 {n : Nat} {a0 a1 a2 a3 a4 a5 a6 : Int} {s t : PS} {r : Int} (h : It_X4_cheapest_1 (n + 1) 92 a0 a1 a2 a3 a4 a5 a6 s r t) : T_X4_cheapest_1_92 (It_X4_cheapest_1 n) a0 a1 a2 a3 a4 a5 s r t := by
  have h2 : ((92 : Nat) = 21 ∧ T_X4_cheapest_1_21 (It_X4_cheapest_1 n) a0 a1 a2 a3 s r t) ∨ ((92 : Nat) = 50 ∧ T_X4_cheapest_1_50 (It_X4_cheapest_1 n) a0 a1 a2 a3 a4 a5 s r t) ∨ ((92 : Nat) = 92 ∧ T_X4_cheapest_1_92 (It_X4_cheapest_1 n) a0 a1 a2 a3 a4 a5 s r t) ∨ ((92 : Nat) = 93 ∧ T_X4_cheapest_1_93 (It_X4_cheapest_1 n) a0 a1 a2 a3 a4 a5 a6 s r t) ∨ ((92 : Nat) = 117 ∧ T_X4_cheapest_1_117 (It_X4_cheapest_1 n) a0 a1 a2 a3 a4 a5 a6 s r t) ∨ ((92 : Nat) = 121 ∧ T_X4_cheapest_1_121 (It_X4_cheapest_1 n) a0 a1 a2 a3 a4 a5 a6 s r t) := h
  rcases h2 with ⟨e, h2⟩ | ⟨e, h2⟩ | ⟨e, h2⟩ | ⟨e, h2⟩ | ⟨e, h2⟩ | ⟨e, h2⟩
  · exact absurd e (by decide)
  · exact absurd e (by decide)
  · exact h2
  · exact absurd e (by decide)
  · exact absurd e (by decide)
  · exact absurd e (by decide)
theorem ul_X4_cheapest_1_93 {n : Nat} {a0 a1 a2 a3 a4 a5 a6 : Int} {s t : PS} {r : Int} (h : It_X4_cheapest_1 (n + 1) 93 a0 a1 a2 a3 a4 a5 a6 s r t) : T_X4_cheapest_1_93 (It_X4_cheapest_1 n) a0 a1 a2 a3 a4 a5 a6 s r t := by
  have h2 : ((93 : Nat) = 21 ∧ T_X4_cheapest_1_21 (It_X4_cheapest_1 n) a0 a1 a2 a3 s r t) ∨ ((93 : Nat) = 50 ∧ T_X4_cheapest_1_50 (It_X4_cheapest_1 n) a0 a1 a2 a3 a4 a5 s r t) ∨ ((93 : Nat) = 92 ∧ T_X4_cheapest_1_92 (It_X4_cheapest_1 n) a0 a1 a2 a3 a4 a5 s r t) ∨ ((93 : Nat) = 93 ∧ T_X4_cheapest_1_93 (It_X4_cheapest_1 n) a0 a1 a2 a3 a4 a5 a6 s r t) ∨ ((93 : Nat) = 117 ∧ T_X4_cheapest_1_117 (It_X4_cheapest_1 n) a0 a1 a2 a3 a4 a5 a6 s r t) ∨ ((93 : Nat) = 121 ∧ T_X4_cheapest_1_121 (It_X4_cheapest_1 n) a0 a1 a2 a3 a4 a5 a6 s r t) := h
  rcases h2 with ⟨e, h2⟩ | ⟨e, h2⟩ | ⟨e, h2⟩ | ⟨e, h2⟩ | ⟨e, h2⟩ | ⟨e, h2⟩
  · exact absurd e (by decide)
  · exact absurd e (by decide)
  · exact absurd e (by decide)
  · exact h2
  · exact absurd e (by decide)
  · exact absurd e (by decide)
theorem ul_X4_cheapest_1_117 {n : Nat} {a0 a1 a2 a3 a4 a5 a6 : Int} {s t : PS} {r : Int} (h : It_X4_cheapest_1 (n + 1) 117 a0 a1 a2 a3 a4 a5 a6 s r t) : T_X4_cheapest_1_117 (It_X4_cheapest_1 n) a0 a1 a2 a3 a4 a5 a6 s r t := by
  have h2 : ((117 : Nat) = 21 ∧ T_X4_cheapest_1_21 (It_X4_cheapest_1 n) a0 a1 a2 a3 s r t) ∨ ((117 : Nat) = 50 ∧ T_X4_cheapest_1_50 (It_X4_cheapest_1 n) a0 a1 a2 a3 a4 a5 s r t) ∨ ((117 : Nat) = 92 ∧ T_X4_cheapest_1_92 (It_X4_cheapest_1 n) a0 a1 a2 a3 a4 a5 s r t) ∨ ((117 : Nat) = 93 ∧ T_X4_cheapest_1_93 (It_X4_cheapest_1 n) a0 a1 a2 a3 a4 a5 a6 s r t) ∨ ((117 : Nat) = 117 ∧ T_X4_cheapest_1_117 (It_X4_cheapest_1 n) a0 a1 a2 a3 a4 a5 a6 s r t) ∨ ((117 : Nat) = 121 ∧ T_X4_cheapest_1_121 (It_X4_cheapest_1 n) a0 a1 a2 a3 a4 a5 a6 s r t) := h
  rcases h2 with ⟨e, h2⟩ | ⟨e, h2⟩ | ⟨e, h2⟩ | ⟨e, h2⟩ | ⟨e, h2⟩ | ⟨e, h2⟩
  · exact absurd e (by decide)
  · exact absurd e (by decide)
  · exact absurd e (by decide)
  · exact absurd e (by decide)
  · exact h2
  · exact absurd e (by decide)
theorem ul_X4_cheapest_1_121 {n : Nat} {a0 a1 a2 a3 a4 a5 a6 : Int} {s t : PS} {r : Int} (h : It_X4_cheapest_1 (n + 1) 121 a0 a1 a2 a3 a4 a5 a6 s r t) : T_X4_cheapest_1_121 (It_X4_cheapest_1 n) a0 a1 a2 a3 a4 a5 a6 s r t := by
  have h2 : ((121 : Nat) = 21 ∧ T_X4_cheapest_1_21 (It_X4_cheapest_1 n) a0 a1 a2 a3 s r t) ∨ ((121 : Nat) = 50 ∧ T_X4_cheapest_1_50 (It_X4_cheapest_1 n) a0 a1 a2 a3 a4 a5 s r t) ∨ ((121 : Nat) = 92 ∧ T_X4_cheapest_1_92 (It_X4_cheapest_1 n) a0 a1 a2 a3 a4 a5 s r t) ∨ ((121 : Nat) = 93 ∧ T_X4_cheapest_1_93 (It_X4_cheapest_1 n) a0 a1 a2 a3 a4 a5 a6 s r t) ∨ ((121 : Nat) = 117 ∧ T_X4_cheapest_1_117 (It_X4_cheapest_1 n) a0 a1 a2 a3 a4 a5 a6 s r t) ∨ ((121 : Nat) = 121 ∧ T_X4_cheapest_1_121 (It_X4_cheapest_1 n) a0 a1 a2 a3 a4 a5 a6 s r t) := h
  rcases h2 with ⟨e, h2⟩ | ⟨e, h2⟩ | ⟨e, h2⟩ | ⟨e, h2⟩ | ⟨e, h2⟩ | ⟨e, h2⟩
  · exact absurd e (by decide)
  · exact absurd e (by decide)
  · exact absurd e (by decide)
  · exact absurd e (by decide)
  · exact absurd e (by decide)
  · exact h2
def M_X4_cheapest_1 (s : PS) (p1 : Int) (r : Int) (t : PS) : Prop := ∃ n, T_X4_cheapest_1_e (It_X4_cheapest_1 n) s p1 r t
theorem mk_X4_cheapest_1 {n : Nat} {s t : PS} {p1 : Int} {r : Int} (h : T_X4_cheapest_1_e (It_X4_cheapest_1 n) s p1 r t) : M_X4_cheapest_1 s p1 r t := ⟨n, h⟩
def T_X4_isRight_1_e (s_w : PS) (p1 : Int) (rr : Int) (ss : PS) : Prop := ((TyX s_w) ∧ ((0 ≤ p1 ∧ p1 ≤ 39) ∧ (∃ r_3 : Int, (∃ s_w_2 : PS, ((M_J6_bitCount_0f7a4 s_w (s_w 95 p1.toNat) r_3 s_w_2) ∧ ((Fr intsX [] [] s_w s_w_2) ∧ ((TyX s_w_2) ∧ ((0 ≤ r_3 ∧ r_3 ≤ 63) ∧ ((r_3 < (s_w 92 p1.toNat) ∧ (rr = 0 ∧ ss = s_w_2)) ∨ (¬ (r_3 < (s_w 92 p1.toNat)) ∧ (∃ r_8 : Int, (∃ s_w_7 : PS, ((M_X4_worthOf_1 s_w_2 p1 r_8 s_w_7) ∧ ((Fr intsX [] [] s_w_2 s_w_7) ∧ ((TyX s_w_7) ∧ (∃ r_11 : Int, (∃ s_w_10 : PS, ((M_X4_greatest_1 s_w_7 p1 r_11 s_w_10) ∧ ((Fr intsX [] [] s_w_7 s_w_10) ∧ ((TyX s_w_10) ∧ ((r_8 < (wi (r_11 - (s_w 1 9))) ∧ (rr = 0 ∧ ss = s_w_10)) ∨ (¬ (r_8 < (wi (r_11 - (s_w 1 9)))) ∧ (rr = 1 ∧ ss = s_w_10)))))))))))))))))))))))
def M_X4_isRight_1 (s : PS) (p1 : Int) (r : Int) (t : PS) : Prop := T_X4_isRight_1_e s p1 r t
theorem mk_X4_isRight_1 {s t : PS} {p1 : Int} {r : Int} (h : T_X4_isRight_1_e s p1 r t) : M_X4_isRight_1 s p1 r t := h
def T_X4_costOf_1_e (s_w : PS) (p1 : Int) (rr : Int) (ss : PS) : Prop := ((TyX s_w) ∧ ((0 ≤ p1 ∧ p1 ≤ 39) ∧ (∃ r_2 : Int, (∃ s_w_1 : PS, ((M_X4_isRight_1 s_w p1 r_2 s_w_1) ∧ ((Fr intsX [] [] s_w s_w_1) ∧ ((TyX s_w_1) ∧ ((0 ≤ r_2 ∧ r_2 ≤ 1) ∧ ((r_2 = 0 ∧ (∃ r_6 : Int, (∃ s_w_5 : PS, ((M_X4_cheapest_1 s_w_1 p1 r_6 s_w_5) ∧ ((Fr intsX [99, 100, 101] [] s_w_1 s_w_5) ∧ ((TyX s_w_5) ∧ (((-1) ≤ r_6 ∧ r_6 ≤ 1023) ∧ ((r_6 = (-1) ∧ (rr = (-1) ∧ ss = s_w_5)) ∨ (¬ (r_6 = (-1)) ∧ (rr = (s_w_5 101 r_6.toNat) ∧ ss = s_w_5)))))))))) ∨ (¬ (r_2 = 0) ∧ (rr = 0 ∧ ss = s_w_1)))))))))))
def M_X4_costOf_1 (s : PS) (p1 : Int) (r : Int) (t : PS) : Prop := T_X4_costOf_1_e s p1 r t
theorem mk_X4_costOf_1 {s t : PS} {p1 : Int} {r : Int} (h : T_X4_costOf_1_e s p1 r t) : M_X4_costOf_1 s p1 r t := h
def T_X11_price_e (s_w : PS) (p1 : Int) (rr : Int) (ss : PS) : Prop := ((TyX s_w) ∧ (∃ r_2 : Int, (∃ s_w_1 : PS, ((M_X4_isChild s_w p1 r_2 s_w_1) ∧ ((Fr intsX [] [] s_w s_w_1) ∧ ((TyX s_w_1) ∧ ((0 ≤ r_2 ∧ r_2 ≤ 1) ∧ ((r_2 = 0 ∧ (rr = (-1) ∧ ss = s_w_1)) ∨ (¬ (r_2 = 0) ∧ (∃ r_7 : Int, (∃ s_w_6 : PS, ((M_X4_costOf_1 s_w_1 p1 r_7 s_w_6) ∧ ((Fr intsX [99, 100, 101] [] s_w_1 s_w_6) ∧ ((TyX s_w_6) ∧ (rr = r_7 ∧ ss = s_w_6)))))))))))))))
def M_X11_price (s : PS) (p1 : Int) (r : Int) (t : PS) : Prop := T_X11_price_e s p1 r t
theorem mk_X11_price {s t : PS} {p1 : Int} {r : Int} (h : T_X11_price_e s p1 r t) : M_X11_price s p1 r t := h
def T_X4_cheapestOffer_4 (K : Nat → Int → Int → PS → Int → PS → Prop) (x4_1 x4_2 : Int) (s_w4 : PS) (rr : Int) (ss : PS) : Prop := ((TyX s_w4) ∧ (((-1) ≤ x4_1 ∧ x4_1 ≤ 39) ∧ ((0 ≤ x4_2 ∧ x4_2 ≤ 40) ∧ (((s_w4 88 1) ≤ x4_2 ∧ (rr = x4_1 ∧ ss = s_w4)) ∨ (¬ ((s_w4 88 1) ≤ x4_2) ∧ (((s_w4 98 x4_2.toNat) = (-1) ∧ (K 44 x4_1 x4_2 s_w4 rr ss)) ∨ (¬ ((s_w4 98 x4_2.toNat) = (-1)) ∧ ((x4_1 = (-1) ∧ (K 42 x4_1 x4_2 s_w4 rr ss)) ∨ (¬ (x4_1 = (-1)) ∧ (((s_w4 98 x4_1.toNat) ≤ (s_w4 98 x4_2.toNat) ∧ (K 44 x4_1 x4_2 s_w4 rr ss)) ∨ (¬ ((s_w4 98 x4_1.toNat) ≤ (s_w4 98 x4_2.toNat)) ∧ (K 42 x4_1 x4_2 s_w4 rr ss))))))))))))
def T_X4_cheapestOffer_42 (K : Nat → Int → Int → PS → Int → PS → Prop) (x42_1 x42_2 : Int) (s_w42 : PS) (rr : Int) (ss : PS) : Prop := ((TyX s_w42) ∧ (((-1) ≤ x42_1 ∧ x42_1 ≤ 39) ∧ ((0 ≤ x42_2 ∧ x42_2 ≤ 39) ∧ (K 44 x42_2 x42_2 s_w42 rr ss))))
def T_X4_cheapestOffer_44 (K : Nat → Int → Int → PS → Int → PS → Prop) (x44_1 x44_2 : Int) (s_w44 : PS) (rr : Int) (ss : PS) : Prop := ((TyX s_w44) ∧ (((-1) ≤ x44_1 ∧ x44_1 ≤ 39) ∧ ((0 ≤ x44_2 ∧ x44_2 ≤ 39) ∧ (K 4 x44_1 (x44_2 + 1) s_w44 rr ss))))
def T_X4_cheapestOffer_e (K : Nat → Int → Int → PS → Int → PS → Prop) (s_w : PS) (rr : Int) (ss : PS) : Prop := ((TyX s_w) ∧ (K 4 (-1) 0 s_w rr ss))
def It_X4_cheapestOffer : Nat → Nat → Int → Int → PS → Int → PS → Prop
  | 0, _, _, _, _, _, _ => False
  | n + 1, pc, a0, a1, s, r, t => (pc = 4 ∧ T_X4_cheapestOffer_4 (It_X4_cheapestOffer n) a0 a1 s r t) ∨ (pc = 42 ∧ T_X4_cheapestOffer_42 (It_X4_cheapestOffer n) a0 a1 s r t) ∨ (pc = 44 ∧ T_X4_cheapestOffer_44 (It_X4_cheapestOffer n) a0 a1 s r t)
theorem rl_X4_cheapestOffer_4 {n : Nat} {a0 a1 : Int} {s t : PS} {r : Int} (h : T_X4_cheapestOffer_4 (It_X4_cheapestOffer n) a0 a1 s r t) : It_X4_cheapestOffer (n + 1) 4 a0 a1 s r t := Or.inl ⟨rfl, h⟩
theorem rl_X4_cheapestOffer_42 {n : Nat} {a0 a1 : Int} {s t : PS} {r : Int} (h : T_X4_cheapestOffer_42 (It_X4_cheapestOffer n) a0 a1 s r t) : It_X4_cheapestOffer (n + 1) 42 a0 a1 s r t := Or.inr (Or.inl ⟨rfl, h⟩)
theorem rl_X4_cheapestOffer_44 {n : Nat} {a0 a1 : Int} {s t : PS} {r : Int} (h : T_X4_cheapestOffer_44 (It_X4_cheapestOffer n) a0 a1 s r t) : It_X4_cheapestOffer (n + 1) 44 a0 a1 s r t := Or.inr (Or.inr (⟨rfl, h⟩))
theorem ul_X4_cheapestOffer_4 {n : Nat} {a0 a1 : Int} {s t : PS} {r : Int} (h : It_X4_cheapestOffer (n + 1) 4 a0 a1 s r t) : T_X4_cheapestOffer_4 (It_X4_cheapestOffer n) a0 a1 s r t := by
  have h2 : ((4 : Nat) = 4 ∧ T_X4_cheapestOffer_4 (It_X4_cheapestOffer n) a0 a1 s r t) ∨ ((4 : Nat) = 42 ∧ T_X4_cheapestOffer_42 (It_X4_cheapestOffer n) a0 a1 s r t) ∨ ((4 : Nat) = 44 ∧ T_X4_cheapestOffer_44 (It_X4_cheapestOffer n) a0 a1 s r t) := h
  rcases h2 with ⟨e, h2⟩ | ⟨e, h2⟩ | ⟨e, h2⟩
  · exact h2
  · exact absurd e (by decide)
  · exact absurd e (by decide)
theorem ul_X4_cheapestOffer_42 {n : Nat} {a0 a1 : Int} {s t : PS} {r : Int} (h : It_X4_cheapestOffer (n + 1) 42 a0 a1 s r t) : T_X4_cheapestOffer_42 (It_X4_cheapestOffer n) a0 a1 s r t := by
  have h2 : ((42 : Nat) = 4 ∧ T_X4_cheapestOffer_4 (It_X4_cheapestOffer n) a0 a1 s r t) ∨ ((42 : Nat) = 42 ∧ T_X4_cheapestOffer_42 (It_X4_cheapestOffer n) a0 a1 s r t) ∨ ((42 : Nat) = 44 ∧ T_X4_cheapestOffer_44 (It_X4_cheapestOffer n) a0 a1 s r t) := h
  rcases h2 with ⟨e, h2⟩ | ⟨e, h2⟩ | ⟨e, h2⟩
  · exact absurd e (by decide)
  · exact h2
  · exact absurd e (by decide)
theorem ul_X4_cheapestOffer_44 {n : Nat} {a0 a1 : Int} {s t : PS} {r : Int} (h : It_X4_cheapestOffer (n + 1) 44 a0 a1 s r t) : T_X4_cheapestOffer_44 (It_X4_cheapestOffer n) a0 a1 s r t := by
  have h2 : ((44 : Nat) = 4 ∧ T_X4_cheapestOffer_4 (It_X4_cheapestOffer n) a0 a1 s r t) ∨ ((44 : Nat) = 42 ∧ T_X4_cheapestOffer_42 (It_X4_cheapestOffer n) a0 a1 s r t) ∨ ((44 : Nat) = 44 ∧ T_X4_cheapestOffer_44 (It_X4_cheapestOffer n) a0 a1 s r t) := h
  rcases h2 with ⟨e, h2⟩ | ⟨e, h2⟩ | ⟨e, h2⟩
  · exact absurd e (by decide)
  · exact absurd e (by decide)
  · exact h2
def M_X4_cheapestOffer (s : PS) (r : Int) (t : PS) : Prop := ∃ n, T_X4_cheapestOffer_e (It_X4_cheapestOffer n) s r t
theorem mk_X4_cheapestOffer {n : Nat} {s t : PS} {r : Int} (h : T_X4_cheapestOffer_e (It_X4_cheapestOffer n) s r t) : M_X4_cheapestOffer s r t := ⟨n, h⟩
def T_X4_buy_1_2 (K : Nat → Int → Int → Int → Int → Int → PS → Int → PS → Prop) (x2_1 x2_3 : Int) (s_w2 : PS) (rr : Int) (ss : PS) : Prop := ((TyX s_w2) ∧ ((0 ≤ x2_1 ∧ x2_1 ≤ 100000) ∧ ((0 ≤ x2_3 ∧ x2_3 ≤ 40) ∧ (((s_w2 88 1) ≤ x2_3 ∧ (∃ s_w_23 : PS, s_w_23 = (us s_w2 88 11 0) ∧ (K 90 x2_1 0 0 0 0 s_w_23 rr ss))) ∨ (¬ ((s_w2 88 1) ≤ x2_3) ∧ (∃ r_25 : Int, (∃ s_w_24 : PS, ((M_X4_isRight_1 s_w2 x2_3 r_25 s_w_24) ∧ ((Fr intsX [] [] s_w2 s_w_24) ∧ ((TyX s_w_24) ∧ ((0 ≤ r_25 ∧ r_25 ≤ 1) ∧ ((r_25 = 0 ∧ (∃ r_29 : Int, (∃ s_w_28 : PS, ((M_X4_cheapest_1 s_w_24 x2_3 r_29 s_w_28) ∧ ((Fr intsX [99, 100, 101] [] s_w_24 s_w_28) ∧ ((TyX s_w_28) ∧ (((-1) ≤ r_29 ∧ r_29 ≤ 1023) ∧ (K 29 x2_1 x2_3 r_29 0 0 s_w_28 rr ss)))))))) ∨ (¬ (r_25 = 0) ∧ (K 29 x2_1 x2_3 (-1) 0 0 s_w_24 rr ss))))))))))))))
def T_X4_buy_1_29 (K : Nat → Int → Int → Int → Int → Int → PS → Int → PS → Prop) (x29_1 x29_3 y29_0 : Int) (s_w29 : PS) (rr : Int) (ss : PS) : Prop := ((TyX s_w29) ∧ ((0 ≤ x29_1 ∧ x29_1 ≤ 100000) ∧ ((0 ≤ x29_3 ∧ x29_3 ≤ 39) ∧ (((-1) ≤ y29_0 ∧ y29_0 ≤ 1023) ∧ ((y29_0 = (-1) ∧ (K 53 x29_1 x29_3 y29_0 (-1) x29_3 s_w29 rr ss)) ∨ (¬ (y29_0 = (-1)) ∧ (K 53 x29_1 x29_3 y29_0 (s_w29 101 y29_0.toNat) x29_3 s_w29 rr ss)))))))
def T_X4_buy_1_53 (K : Nat → Int → Int → Int → Int → Int → PS → Int → PS → Prop) (x53_1 x53_3 x53_4 y53_0 y53_1 : Int) (s_w53 : PS) (rr : Int) (ss : PS) : Prop := ((TyX s_w53) ∧ ((0 ≤ x53_1 ∧ x53_1 ≤ 100000) ∧ ((0 ≤ x53_3 ∧ x53_3 ≤ 39) ∧ (((-1) ≤ x53_4 ∧ x53_4 ≤ 1023) ∧ ((0 ≤ y53_1 ∧ y53_1 ≤ 39) ∧ (∃ s_w_17 : PS, s_w_17 = (us s_w53 98 y53_1.toNat y53_0) ∧ ((x53_4 = (-1) ∧ (K 76 x53_1 x53_3 x53_4 0 x53_3 s_w_17 rr ss)) ∨ (¬ (x53_4 = (-1)) ∧ (K 76 x53_1 x53_3 x53_4 (s_w53 99 x53_4.toNat) x53_3 s_w_17 rr ss)))))))))
def T_X4_buy_1_76 (K : Nat → Int → Int → Int → Int → Int → PS → Int → PS → Prop) (x76_1 x76_3 x76_4 y76_0 y76_1 : Int) (s_w76 : PS) (rr : Int) (ss : PS) : Prop := ((TyX s_w76) ∧ ((0 ≤ x76_1 ∧ x76_1 ≤ 100000) ∧ ((0 ≤ x76_3 ∧ x76_3 ≤ 39) ∧ (((-1) ≤ x76_4 ∧ x76_4 ≤ 1023) ∧ ((0 ≤ y76_1 ∧ y76_1 ≤ 39) ∧ (∃ s_w_16 : PS, s_w_16 = (us s_w76 97 y76_1.toNat y76_0) ∧ (K 2 x76_1 (x76_3 + 1) 0 0 0 s_w_16 rr ss)))))))
def T_X4_buy_1_90 (K : Nat → Int → Int → Int → Int → Int → PS → Int → PS → Prop) (x90_1 x90_3 : Int) (s_w90 : PS) (rr : Int) (ss : PS) : Prop := ((TyX s_w90) ∧ ((0 ≤ x90_1 ∧ x90_1 ≤ 100000) ∧ ((0 ≤ x90_3 ∧ x90_3 ≤ 40) ∧ (((s_w90 88 1) ≤ x90_3 ∧ (rr = (s_w90 88 1) ∧ ss = s_w90)) ∨ (¬ ((s_w90 88 1) ≤ x90_3) ∧ (∃ r_3 : Int, (∃ s_w_2 : PS, ((M_X4_cheapestOffer s_w90 r_3 s_w_2) ∧ ((Fr intsX [] [] s_w90 s_w_2) ∧ ((TyX s_w_2) ∧ (((-1) ≤ r_3 ∧ r_3 ≤ 39) ∧ ((r_3 = (-1) ∧ (rr = x90_3 ∧ ss = s_w_2)) ∨ (¬ (r_3 = (-1)) ∧ (((s_w90 98 r_3.toNat) ≤ (wi (x90_1 - (s_w90 88 11))) ∧ (∃ s_w_10 : PS, s_w_10 = (us s_w_2 88 11 (wi ((s_w90 88 11) + (s_w90 98 r_3.toNat)))) ∧ (∃ s_w_14 : PS, s_w_14 = (us s_w_10 95 r_3.toNat (iOr (s_w90 95 r_3.toNat) (s_w90 97 r_3.toNat))) ∧ (∃ s_w_15 : PS, s_w_15 = (us s_w_14 98 r_3.toNat (-1)) ∧ (K 90 x90_1 (x90_3 + 1) 0 0 0 s_w_15 rr ss))))) ∨ (¬ ((s_w90 98 r_3.toNat) ≤ (wi (x90_1 - (s_w90 88 11)))) ∧ (rr = x90_3 ∧ ss = s_w_2))))))))))))))))
def T_X4_buy_1_e (K : Nat → Int → Int → Int → Int → Int → PS → Int → PS → Prop) (s_w : PS) (p1 : Int) (rr : Int) (ss : PS) : Prop := ((TyX s_w) ∧ ((0 ≤ p1 ∧ p1 ≤ 100000) ∧ (K 2 p1 0 0 0 0 s_w rr ss)))
def It_X4_buy_1 : Nat → Nat → Int → Int → Int → Int → Int → PS → Int → PS → Prop
  | 0, _, _, _, _, _, _, _, _, _ => False
  | n + 1, pc, a0, a1, a2, a3, a4, s, r, t => (pc = 2 ∧ T_X4_buy_1_2 (It_X4_buy_1 n) a0 a1 s r t) ∨ (pc = 29 ∧ T_X4_buy_1_29 (It_X4_buy_1 n) a0 a1 a2 s r t) ∨ (pc = 53 ∧ T_X4_buy_1_53 (It_X4_buy_1 n) a0 a1 a2 a3 a4 s r t) ∨ (pc = 76 ∧ T_X4_buy_1_76 (It_X4_buy_1 n) a0 a1 a2 a3 a4 s r t) ∨ (pc = 90 ∧ T_X4_buy_1_90 (It_X4_buy_1 n) a0 a1 s r t)
theorem rl_X4_buy_1_2 {n : Nat} {a0 a1 : Int} {s t : PS} {r : Int} (h : T_X4_buy_1_2 (It_X4_buy_1 n) a0 a1 s r t) : It_X4_buy_1 (n + 1) 2 a0 a1 0 0 0 s r t := Or.inl ⟨rfl, h⟩
theorem rl_X4_buy_1_29 {n : Nat} {a0 a1 a2 : Int} {s t : PS} {r : Int} (h : T_X4_buy_1_29 (It_X4_buy_1 n) a0 a1 a2 s r t) : It_X4_buy_1 (n + 1) 29 a0 a1 a2 0 0 s r t := Or.inr (Or.inl ⟨rfl, h⟩)
theorem rl_X4_buy_1_53 {n : Nat} {a0 a1 a2 a3 a4 : Int} {s t : PS} {r : Int} (h : T_X4_buy_1_53 (It_X4_buy_1 n) a0 a1 a2 a3 a4 s r t) : It_X4_buy_1 (n + 1) 53 a0 a1 a2 a3 a4 s r t := Or.inr (Or.inr (Or.inl ⟨rfl, h⟩))
theorem rl_X4_buy_1_76 {n : Nat} {a0 a1 a2 a3 a4 : Int} {s t : PS} {r : Int} (h : T_X4_buy_1_76 (It_X4_buy_1 n) a0 a1 a2 a3 a4 s r t) : It_X4_buy_1 (n + 1) 76 a0 a1 a2 a3 a4 s r t := Or.inr (Or.inr (Or.inr (Or.inl ⟨rfl, h⟩)))
theorem rl_X4_buy_1_90 {n : Nat} {a0 a1 : Int} {s t : PS} {r : Int} (h : T_X4_buy_1_90 (It_X4_buy_1 n) a0 a1 s r t) : It_X4_buy_1 (n + 1) 90 a0 a1 0 0 0 s r t := Or.inr (Or.inr (Or.inr (Or.inr (⟨rfl, h⟩))))
theorem ul_X4_buy_1_2 {n : Nat} {a0 a1 a2 a3 a4 : Int} {s t : PS} {r : Int} (h : It_X4_buy_1 (n + 1) 2 a0 a1 a2 a3 a4 s r t) : T_X4_buy_1_2 (It_X4_buy_1 n) a0 a1 s r t := by
  have h2 : ((2 : Nat) = 2 ∧ T_X4_buy_1_2 (It_X4_buy_1 n) a0 a1 s r t) ∨ ((2 : Nat) = 29 ∧ T_X4_buy_1_29 (It_X4_buy_1 n) a0 a1 a2 s r t) ∨ ((2 : Nat) = 53 ∧ T_X4_buy_1_53 (It_X4_buy_1 n) a0 a1 a2 a3 a4 s r t) ∨ ((2 : Nat) = 76 ∧ T_X4_buy_1_76 (It_X4_buy_1 n) a0 a1 a2 a3 a4 s r t) ∨ ((2 : Nat) = 90 ∧ T_X4_buy_1_90 (It_X4_buy_1 n) a0 a1 s r t) := h
  rcases h2 with ⟨e, h2⟩ | ⟨e, h2⟩ | ⟨e, h2⟩ | ⟨e, h2⟩ | ⟨e, h2⟩
  · exact h2
  · exact absurd e (by decide)
  · exact absurd e (by decide)
  · exact absurd e (by decide)
  · exact absurd e (by decide)
theorem ul_X4_buy_1_29 {n : Nat} {a0 a1 a2 a3 a4 : Int} {s t : PS} {r : Int} (h : It_X4_buy_1 (n + 1) 29 a0 a1 a2 a3 a4 s r t) : T_X4_buy_1_29 (It_X4_buy_1 n) a0 a1 a2 s r t := by
  have h2 : ((29 : Nat) = 2 ∧ T_X4_buy_1_2 (It_X4_buy_1 n) a0 a1 s r t) ∨ ((29 : Nat) = 29 ∧ T_X4_buy_1_29 (It_X4_buy_1 n) a0 a1 a2 s r t) ∨ ((29 : Nat) = 53 ∧ T_X4_buy_1_53 (It_X4_buy_1 n) a0 a1 a2 a3 a4 s r t) ∨ ((29 : Nat) = 76 ∧ T_X4_buy_1_76 (It_X4_buy_1 n) a0 a1 a2 a3 a4 s r t) ∨ ((29 : Nat) = 90 ∧ T_X4_buy_1_90 (It_X4_buy_1 n) a0 a1 s r t) := h
  rcases h2 with ⟨e, h2⟩ | ⟨e, h2⟩ | ⟨e, h2⟩ | ⟨e, h2⟩ | ⟨e, h2⟩
  · exact absurd e (by decide)
  · exact h2
  · exact absurd e (by decide)
  · exact absurd e (by decide)
  · exact absurd e (by decide)
theorem ul_X4_buy_1_53 {n : Nat} {a0 a1 a2 a3 a4 : Int} {s t : PS} {r : Int} (h : It_X4_buy_1 (n + 1) 53 a0 a1 a2 a3 a4 s r t) : T_X4_buy_1_53 (It_X4_buy_1 n) a0 a1 a2 a3 a4 s r t := by
  have h2 : ((53 : Nat) = 2 ∧ T_X4_buy_1_2 (It_X4_buy_1 n) a0 a1 s r t) ∨ ((53 : Nat) = 29 ∧ T_X4_buy_1_29 (It_X4_buy_1 n) a0 a1 a2 s r t) ∨ ((53 : Nat) = 53 ∧ T_X4_buy_1_53 (It_X4_buy_1 n) a0 a1 a2 a3 a4 s r t) ∨ ((53 : Nat) = 76 ∧ T_X4_buy_1_76 (It_X4_buy_1 n) a0 a1 a2 a3 a4 s r t) ∨ ((53 : Nat) = 90 ∧ T_X4_buy_1_90 (It_X4_buy_1 n) a0 a1 s r t) := h
  rcases h2 with ⟨e, h2⟩ | ⟨e, h2⟩ | ⟨e, h2⟩ | ⟨e, h2⟩ | ⟨e, h2⟩
  · exact absurd e (by decide)
  · exact absurd e (by decide)
  · exact h2
  · exact absurd e (by decide)
  · exact absurd e (by decide)
theorem ul_X4_buy_1_76 {n : Nat} {a0 a1 a2 a3 a4 : Int} {s t : PS} {r : Int} (h : It_X4_buy_1 (n + 1) 76 a0 a1 a2 a3 a4 s r t) : T_X4_buy_1_76 (It_X4_buy_1 n) a0 a1 a2 a3 a4 s r t := by
  have h2 : ((76 : Nat) = 2 ∧ T_X4_buy_1_2 (It_X4_buy_1 n) a0 a1 s r t) ∨ ((76 : Nat) = 29 ∧ T_X4_buy_1_29 (It_X4_buy_1 n) a0 a1 a2 s r t) ∨ ((76 : Nat) = 53 ∧ T_X4_buy_1_53 (It_X4_buy_1 n) a0 a1 a2 a3 a4 s r t) ∨ ((76 : Nat) = 76 ∧ T_X4_buy_1_76 (It_X4_buy_1 n) a0 a1 a2 a3 a4 s r t) ∨ ((76 : Nat) = 90 ∧ T_X4_buy_1_90 (It_X4_buy_1 n) a0 a1 s r t) := h
  rcases h2 with ⟨e, h2⟩ | ⟨e, h2⟩ | ⟨e, h2⟩ | ⟨e, h2⟩ | ⟨e, h2⟩
  · exact absurd e (by decide)
  · exact absurd e (by decide)
  · exact absurd e (by decide)
  · exact h2
  · exact absurd e (by decide)
theorem ul_X4_buy_1_90 {n : Nat} {a0 a1 a2 a3 a4 : Int} {s t : PS} {r : Int} (h : It_X4_buy_1 (n + 1) 90 a0 a1 a2 a3 a4 s r t) : T_X4_buy_1_90 (It_X4_buy_1 n) a0 a1 s r t := by
  have h2 : ((90 : Nat) = 2 ∧ T_X4_buy_1_2 (It_X4_buy_1 n) a0 a1 s r t) ∨ ((90 : Nat) = 29 ∧ T_X4_buy_1_29 (It_X4_buy_1 n) a0 a1 a2 s r t) ∨ ((90 : Nat) = 53 ∧ T_X4_buy_1_53 (It_X4_buy_1 n) a0 a1 a2 a3 a4 s r t) ∨ ((90 : Nat) = 76 ∧ T_X4_buy_1_76 (It_X4_buy_1 n) a0 a1 a2 a3 a4 s r t) ∨ ((90 : Nat) = 90 ∧ T_X4_buy_1_90 (It_X4_buy_1 n) a0 a1 s r t) := h
  rcases h2 with ⟨e, h2⟩ | ⟨e, h2⟩ | ⟨e, h2⟩ | ⟨e, h2⟩ | ⟨e, h2⟩
  · exact absurd e (by decide)
  · exact absurd e (by decide)
  · exact absurd e (by decide)
  · exact absurd e (by decide)
  · exact h2
def M_X4_buy_1 (s : PS) (p1 : Int) (r : Int) (t : PS) : Prop := ∃ n, T_X4_buy_1_e (It_X4_buy_1 n) s p1 r t
theorem mk_X4_buy_1 {n : Nat} {s t : PS} {p1 : Int} {r : Int} (h : T_X4_buy_1_e (It_X4_buy_1 n) s p1 r t) : M_X4_buy_1 s p1 r t := ⟨n, h⟩
def T_X11_spend_e (s_w : PS) (p1 : Int) (rr : Int) (ss : PS) : Prop := ((TyX s_w) ∧ (((s_w 88 0) = 0 ∧ (rr = (-1) ∧ ss = s_w)) ∨ (¬ ((s_w 88 0) = 0) ∧ (((s_w 88 11) = (-1) ∧ (∃ r_4 : Int, (∃ s_w_3 : PS, ((M_X11_within s_w p1 0 100000 r_4 s_w_3) ∧ ((Fr intsX [] [] s_w s_w_3) ∧ ((TyX s_w_3) ∧ ((0 ≤ r_4 ∧ r_4 ≤ 1) ∧ ((r_4 = 0 ∧ (rr = (-1) ∧ ss = s_w_3)) ∨ (¬ (r_4 = 0) ∧ (∃ r_10 : Int, (∃ s_w_9 : PS, ((M_X4_buy_1 s_w_3 p1 r_10 s_w_9) ∧ ((Fr intsX [88, 95, 97, 98, 99, 100, 101] [(88, 11)] s_w_3 s_w_9) ∧ ((TyX s_w_9) ∧ ((0 ≤ r_10 ∧ r_10 ≤ 40) ∧ (rr = r_10 ∧ ss = s_w_9)))))))))))))))) ∨ (¬ ((s_w 88 11) = (-1)) ∧ (rr = (-1) ∧ ss = s_w))))))
def M_X11_spend (s : PS) (p1 : Int) (r : Int) (t : PS) : Prop := T_X11_spend_e s p1 r t
theorem mk_X11_spend {s t : PS} {p1 : Int} {r : Int} (h : T_X11_spend_e s p1 r t) : M_X11_spend s p1 r t := h
def T_X11_spent_e (s_w : PS) (rr : Int) (ss : PS) : Prop := ((TyX s_w) ∧ (((s_w 88 0) = 0 ∧ (rr = (-1) ∧ ss = s_w)) ∨ (¬ ((s_w 88 0) = 0) ∧ (rr = (s_w 88 11) ∧ ss = s_w))))
def M_X11_spent (s : PS) (r : Int) (t : PS) : Prop := T_X11_spent_e s r t
theorem mk_X11_spent {s t : PS} {r : Int} (h : T_X11_spent_e s r t) : M_X11_spent s r t := h
