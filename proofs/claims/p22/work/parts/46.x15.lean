def T_X4_total_18 (K : Nat → Int → Int → Int → Int → Int → PS → Int → PS → Prop) (x18_1 x18_2 x18_3 : Int) (s_w18 : PS) (rr : Int) (ss : PS) : Prop := ((TyX s_w18) ∧ ((1 ≤ x18_1 ∧ x18_1 ≤ 1) ∧ ((0 ≤ x18_3 ∧ x18_3 ≤ 40) ∧ (((s_w18 88 1) ≤ x18_3 ∧ (rr = x18_2 ∧ ss = s_w18)) ∨ (¬ ((s_w18 88 1) ≤ x18_3) ∧ (((s_w18 94 x18_3.toNat) = (s_w18 92 x18_3.toNat) ∧ (K 47 x18_1 x18_2 x18_3 1 x18_2 s_w18 rr ss)) ∨ (¬ ((s_w18 94 x18_3.toNat) = (s_w18 92 x18_3.toNat)) ∧ (K 47 x18_1 x18_2 x18_3 0 x18_2 s_w18 rr ss))))))))
def T_X4_total_47 (K : Nat → Int → Int → Int → Int → Int → PS → Int → PS → Prop) (x47_1 x47_2 x47_3 y47_0 y47_1 : Int) (s_w47 : PS) (rr : Int) (ss : PS) : Prop := ((TyX s_w47) ∧ ((1 ≤ x47_1 ∧ x47_1 ≤ 1) ∧ ((0 ≤ x47_3 ∧ x47_3 ≤ 39) ∧ ((0 ≤ y47_0 ∧ y47_0 ≤ 1) ∧ (K 18 x47_1 (wi (y47_1 + y47_0)) (x47_3 + 1) 0 0 s_w47 rr ss)))))
def T_X4_total_64 (K : Nat → Int → Int → Int → Int → Int → PS → Int → PS → Prop) (x64_1 x64_2 x64_3 : Int) (s_w64 : PS) (rr : Int) (ss : PS) : Prop := ((TyX s_w64) ∧ ((3 ≤ x64_1 ∧ x64_1 ≤ 3) ∧ ((0 ≤ x64_3 ∧ x64_3 ≤ 10) ∧ ((10 ≤ x64_3 ∧ (rr = x64_2 ∧ ss = s_w64)) ∨ (¬ (10 ≤ x64_3) ∧ (K 64 x64_1 (wi (x64_2 + (s_w64 96 x64_3.toNat))) (x64_3 + 1) 0 0 s_w64 rr ss))))))
def T_X4_total_e (K : Nat → Int → Int → Int → Int → Int → PS → Int → PS → Prop) (s_w : PS) (p1 : Int) (rr : Int) (ss : PS) : Prop := ((TyX s_w) ∧ ((p1 = 0 ∧ (rr = (s_w 88 10) ∧ ss = s_w)) ∨ (¬ (p1 = 0) ∧ ((p1 = 1 ∧ (K 18 p1 0 0 0 0 s_w rr ss)) ∨ (¬ (p1 = 1) ∧ ((p1 = 3 ∧ (K 64 p1 0 0 0 0 s_w rr ss)) ∨ (¬ (p1 = 3) ∧ ((p1 = 2 ∧ (∃ r_14 : Int, (∃ s_w_13 : PS, ((M_X4_lacking s_w 0 17 r_14 s_w_13) ∧ ((Fr intsX [] [] s_w s_w_13) ∧ ((TyX s_w_13) ∧ (rr = r_14 ∧ ss = s_w_13))))))) ∨ (¬ (p1 = 2) ∧ (rr = (-1) ∧ ss = s_w))))))))))
def It_X4_total : Nat → Nat → Int → Int → Int → Int → Int → PS → Int → PS → Prop
  | 0, _, _, _, _, _, _, _, _, _ => False
  | n + 1, pc, a0, a1, a2, a3, a4, s, r, t => (pc = 18 ∧ T_X4_total_18 (It_X4_total n) a0 a1 a2 s r t) ∨ (pc = 47 ∧ T_X4_total_47 (It_X4_total n) a0 a1 a2 a3 a4 s r t) ∨ (pc = 64 ∧ T_X4_total_64 (It_X4_total n) a0 a1 a2 s r t)
theorem rl_X4_total_18 {n : Nat} {a0 a1 a2 : Int} {s t : PS} {r : Int} (h : T_X4_total_18 (It_X4_total n) a0 a1 a2 s r t) : It_X4_total (n + 1) 18 a0 a1 a2 0 0 s r t := Or.inl ⟨rfl, h⟩
theorem rl_X4_total_47 {n : Nat} {a0 a1 a2 a3 a4 : Int} {s t : PS} {r : Int} (h : T_X4_total_47 (It_X4_total n) a0 a1 a2 a3 a4 s r t) : It_X4_total (n + 1) 47 a0 a1 a2 a3 a4 s r t := Or.inr (Or.inl ⟨rfl, h⟩)
theorem rl_X4_total_64 {n : Nat} {a0 a1 a2 : Int} {s t : PS} {r : Int} (h : T_X4_total_64 (It_X4_total n) a0 a1 a2 s r t) : It_X4_total (n + 1) 64 a0 a1 a2 0 0 s r t := Or.inr (Or.inr (⟨rfl, h⟩))
theorem ul_X4_total_18 {n : Nat} {a0 a1 a2 a3 a4 : Int} {s t : PS} {r : Int} (h : It_X4_total (n + 1) 18 a0 a1 a2 a3 a4 s r t) : T_X4_total_18 (It_X4_total n) a0 a1 a2 s r t := by
  have h2 : ((18 : Nat) = 18 ∧ T_X4_total_18 (It_X4_total n) a0 a1 a2 s r t) ∨ ((18 : Nat) = 47 ∧ T_X4_total_47 (It_X4_total n) a0 a1 a2 a3 a4 s r t) ∨ ((18 : Nat) = 64 ∧ T_X4_total_64 (It_X4_total n) a0 a1 a2 s r t) := h
  rcases h2 with ⟨e, h2⟩ | ⟨e, h2⟩ | ⟨e, h2⟩
  · exact h2
  · exact absurd e (by decide)
  · exact absurd e (by decide)
theorem ul_X4_total_47 {n : Nat} {a0 a1 a2 a3 a4 : Int} {s t : PS} {r : Int} (h : It_X4_total (n + 1) 47 a0 a1 a2 a3 a4 s r t) : T_X4_total_47 (It_X4_total n) a0 a1 a2 a3 a4 s r t := by
  have h2 : ((47 : Nat) = 18 ∧ T_X4_total_18 (It_X4_total n) a0 a1 a2 s r t) ∨ ((47 : Nat) = 47 ∧ T_X4_total_47 (It_X4_total n) a0 a1 a2 a3 a4 s r t) ∨ ((47 : Nat) = 64 ∧ T_X4_total_64 (It_X4_total n) a0 a1 a2 s r t) := h
  rcases h2 with ⟨e, h2⟩ | ⟨e, h2⟩ | ⟨e, h2⟩
  · exact absurd e (by decide)
  · exact h2
  · exact absurd e (by decide)
theorem ul_X4_total_64 {n : Nat} {a0 a1 a2 a3 a4 : Int} {s t : PS} {r : Int} (h : It_X4_total (n + 1) 64 a0 a1 a2 a3 a4 s r t) : T_X4_total_64 (It_X4_total n) a0 a1 a2 s r t := by
  have h2 : ((64 : Nat) = 18 ∧ T_X4_total_18 (It_X4_total n) a0 a1 a2 s r t) ∨ ((64 : Nat) = 47 ∧ T_X4_total_47 (It_X4_total n) a0 a1 a2 a3 a4 s r t) ∨ ((64 : Nat) = 64 ∧ T_X4_total_64 (It_X4_total n) a0 a1 a2 s r t) := h
  rcases h2 with ⟨e, h2⟩ | ⟨e, h2⟩ | ⟨e, h2⟩
  · exact absurd e (by decide)
  · exact absurd e (by decide)
  · exact h2
def M_X4_total (s : PS) (p1 : Int) (r : Int) (t : PS) : Prop := ∃ n, T_X4_total_e (It_X4_total n) s p1 r t
theorem mk_X4_total {n : Nat} {s t : PS} {p1 : Int} {r : Int} (h : T_X4_total_e (It_X4_total n) s p1 r t) : M_X4_total s p1 r t := ⟨n, h⟩
def T_X11_given_e (s_w : PS) (p1 : Int) (rr : Int) (ss : PS) : Prop := ((TyX s_w) ∧ (((s_w 88 0) = 0 ∧ (rr = (-1) ∧ ss = s_w)) ∨ (¬ ((s_w 88 0) = 0) ∧ (∃ r_3 : Int, (∃ s_w_2 : PS, ((M_X4_total s_w p1 r_3 s_w_2) ∧ ((Fr intsX [] [] s_w s_w_2) ∧ ((TyX s_w_2) ∧ (rr = r_3 ∧ ss = s_w_2)))))))))
def M_X11_given (s : PS) (p1 : Int) (r : Int) (t : PS) : Prop := T_X11_given_e s p1 r t
theorem mk_X11_given {s t : PS} {p1 : Int} {r : Int} (h : T_X11_given_e s p1 r t) : M_X11_given s p1 r t := h
def T_X4_isChild_e (s_w : PS) (p1 : Int) (rr : Int) (ss : PS) : Prop := ((TyX s_w) ∧ (((s_w 88 0) = 0 ∧ (rr = 0 ∧ ss = s_w)) ∨ (¬ ((s_w 88 0) = 0) ∧ ((p1 < 0 ∧ (rr = 0 ∧ ss = s_w)) ∨ (¬ (p1 < 0) ∧ (((s_w 88 1) ≤ p1 ∧ (rr = 0 ∧ ss = s_w)) ∨ (¬ ((s_w 88 1) ≤ p1) ∧ (rr = 1 ∧ ss = s_w))))))))
def M_X4_isChild (s : PS) (p1 : Int) (r : Int) (t : PS) : Prop := T_X4_isChild_e s p1 r t
theorem mk_X4_isChild {s t : PS} {p1 : Int} {r : Int} (h : T_X4_isChild_e s p1 r t) : M_X4_isChild s p1 r t := h
def T_X11_gets_e (s_w : PS) (p1 : Int) (rr : Int) (ss : PS) : Prop := ((TyX s_w) ∧ (∃ r_2 : Int, (∃ s_w_1 : PS, ((M_X4_isChild s_w p1 r_2 s_w_1) ∧ ((Fr intsX [] [] s_w s_w_1) ∧ ((TyX s_w_1) ∧ ((0 ≤ r_2 ∧ r_2 ≤ 1) ∧ ((r_2 = 0 ∧ (rr = (-1) ∧ ss = s_w_1)) ∨ (¬ (r_2 = 0) ∧ (rr = (s_w 95 p1.toNat) ∧ ss = s_w_1))))))))))
def M_X11_gets (s : PS) (p1 : Int) (r : Int) (t : PS) : Prop := T_X11_gets_e s p1 r t
theorem mk_X11_gets {s t : PS} {p1 : Int} {r : Int} (h : T_X11_gets_e s p1 r t) : M_X11_gets s p1 r t := h
def T_X11_left_e (s_w : PS) (p1 : Int) (rr : Int) (ss : PS) : Prop := ((TyX s_w) ∧ (((s_w 88 0) = 0 ∧ (rr = (-1) ∧ ss = s_w)) ∨ (¬ ((s_w 88 0) = 0) ∧ (∃ r_3 : Int, (∃ s_w_2 : PS, ((M_X11_isKind s_w p1 r_3 s_w_2) ∧ ((Fr intsX [] [] s_w s_w_2) ∧ ((TyX s_w_2) ∧ ((0 ≤ r_3 ∧ r_3 ≤ 1) ∧ ((r_3 = 0 ∧ (rr = (-1) ∧ ss = s_w_2)) ∨ (¬ (r_3 = 0) ∧ (rr = (s_w 96 p1.toNat) ∧ ss = s_w_2))))))))))))
def M_X11_left (s : PS) (p1 : Int) (r : Int) (t : PS) : Prop := T_X11_left_e s p1 r t
theorem mk_X11_left {s t : PS} {p1 : Int} {r : Int} (h : T_X11_left_e s p1 r t) : M_X11_left s p1 r t := h
def T_X3_takeRest_109_4 (K : Int → Int → PS → Int → PS → Prop) (x4_2 x4_3 : Int) (s_w4 : PS) (rr : Int) (ss : PS) : Prop := ((TyX s_w4) ∧ ((0 ≤ x4_3 ∧ x4_3 ≤ 10) ∧ (((s_w4 64 0) ≤ x4_3 ∧ (rr = x4_2 ∧ ss = s_w4)) ∨ (¬ ((s_w4 64 0) ≤ x4_3) ∧ (∃ s_w_6 : PS, s_w_6 = (us s_w4 109 x4_3.toNat (s_w4 73 (x4_3 * 24).toNat)) ∧ (K (wi (x4_2 + (wi ((s_w4 109 x4_3.toNat) - (s_w4 73 (x4_3 * 24).toNat))))) (x4_3 + 1) s_w_6 rr ss))))))
def T_X3_takeRest_109_e (K : Int → Int → PS → Int → PS → Prop) (s_w : PS) (rr : Int) (ss : PS) : Prop := ((TyX s_w) ∧ (K 0 0 s_w rr ss))
def It_X3_takeRest_109 : Nat → Int → Int → PS → Int → PS → Prop
  | 0, _, _, _, _, _ => False
  | n + 1, a0, a1, s, r, t => T_X3_takeRest_109_4 (It_X3_takeRest_109 n) a0 a1 s r t
theorem rl_X3_takeRest_109_4 {n : Nat} {a0 a1 : Int} {s t : PS} {r : Int} (h : T_X3_takeRest_109_4 (It_X3_takeRest_109 n) a0 a1 s r t) : It_X3_takeRest_109 (n + 1) a0 a1 s r t := h
theorem ul_X3_takeRest_109_4 {n : Nat} {a0 a1 : Int} {s t : PS} {r : Int} (h : It_X3_takeRest_109 (n + 1) a0 a1 s r t) : T_X3_takeRest_109_4 (It_X3_takeRest_109 n) a0 a1 s r t := h
def M_X3_takeRest_109 (s : PS) (r : Int) (t : PS) : Prop := ∃ n, T_X3_takeRest_109_e (It_X3_takeRest_109 n) s r t
theorem mk_X3_takeRest_109 {n : Nat} {s t : PS} {r : Int} (h : T_X3_takeRest_109_e (It_X3_takeRest_109 n) s r t) : M_X3_takeRest_109 s r t := ⟨n, h⟩
def T_X11_blind_16 (K : Nat → Int → Int → PS → Int → PS → Prop) (x16_1 x16_2 : Int) (s_w16 : PS) (rr : Int) (ss : PS) : Prop := ((TyX s_w16) ∧ ((1 ≤ x16_2 ∧ x16_2 ≤ 25) ∧ ((24 < x16_2 ∧ (rr = x16_1 ∧ ss = s_w16)) ∨ (¬ (24 < x16_2) ∧ (∃ s_w_2 : PS, ((M_X6_addCome_109 s_w16 x16_2 (s_w16 1 0) 0 s_w_2) ∧ ((Fr intsX [109] [] s_w16 s_w_2) ∧ ((TyX s_w_2) ∧ (∃ s_w_5 : PS, ((M_X3_clear s_w_2 (s_w16 1 0) 0 s_w_5) ∧ ((Fr intsX [64, 66, 67] [(64, 0), (64, 1), (64, 2)] s_w_2 s_w_5) ∧ ((TyX s_w_5) ∧ (∃ s_w_11 : PS, ((M_X3_addDay_42_56_109 s_w_5 x16_2 0 s_w_11) ∧ ((Fr intsX [64, 65, 66, 67, 68, 69, 70, 71, 72, 73] [(64, 1), (64, 2)] s_w_5 s_w_11) ∧ ((TyX s_w_11) ∧ (((s_w_11 64 1) ≤ 0 ∧ (K 106 x16_1 x16_2 s_w_11 rr ss)) ∨ (¬ ((s_w_11 64 1) ≤ 0) ∧ (∃ s_w_18 : PS, ((M_X9_deal s_w_11 0 s_w_18) ∧ ((Fr intsX [70, 71, 73, 74, 75, 76, 77, 78, 79, 80, 81, 82, 83, 84, 85, 86, 87] [(74, 5), (74, 6), (74, 9), (74, 10), (81, 2), (81, 4), (81, 10), (81, 11), (81, 12), (81, 13), (81, 14), (81, 15)] s_w_11 s_w_18) ∧ ((TyX s_w_18) ∧ (∃ r_23 : Int, (∃ s_w_22 : PS, ((M_X3_takeRest_109 s_w_18 r_23 s_w_22) ∧ ((Fr intsX [109] [] s_w_18 s_w_22) ∧ ((TyX s_w_22) ∧ (K 106 (wi (x16_1 + r_23)) x16_2 s_w_22 rr ss))))))))))))))))))))))))))))
def T_X11_blind_106 (K : Nat → Int → Int → PS → Int → PS → Prop) (x106_1 x106_2 : Int) (s_w106 : PS) (rr : Int) (ss : PS) : Prop := ((TyX s_w106) ∧ ((1 ≤ x106_2 ∧ x106_2 ≤ 24) ∧ (K 16 x106_1 (x106_2 + 1) s_w106 rr ss)))
def T_X11_blind_e (K : Nat → Int → Int → PS → Int → PS → Prop) (s_w : PS) (rr : Int) (ss : PS) : Prop := ((TyX s_w) ∧ (∃ s_w_26 : PS, ((M_X11_weighAll s_w 0 s_w_26) ∧ ((Fr intsX [42, 43, 44, 45, 46, 47, 48, 49, 50, 51, 52, 53, 54, 55, 57, 58, 59, 60, 61, 62, 63] [(42, 0), (42, 1), (42, 2)] s_w s_w_26) ∧ ((TyX s_w_26) ∧ (∃ s_w_29 : PS, ((M_J7_fill_53178_109 s_w_26 0 0 s_w_29) ∧ ((Fr intsX [109] [] s_w_26 s_w_29) ∧ ((TyX s_w_29) ∧ (K 16 0 1 s_w_29 rr ss))))))))))
def It_X11_blind : Nat → Nat → Int → Int → PS → Int → PS → Prop
  | 0, _, _, _, _, _, _ => False
  | n + 1, pc, a0, a1, s, r, t => (pc = 16 ∧ T_X11_blind_16 (It_X11_blind n) a0 a1 s r t) ∨ (pc = 106 ∧ T_X11_blind_106 (It_X11_blind n) a0 a1 s r t)
theorem rl_X11_blind_16 {n : Nat} {a0 a1 : Int} {s t : PS} {r : Int} (h : T_X11_blind_16 (It_X11_blind n) a0 a1 s r t) : It_X11_blind (n + 1) 16 a0 a1 s r t := Or.inl ⟨rfl, h⟩
theorem rl_X11_blind_106 {n : Nat} {a0 a1 : Int} {s t : PS} {r : Int} (h : T_X11_blind_106 (It_X11_blind n) a0 a1 s r t) : It_X11_blind (n + 1) 106 a0 a1 s r t := Or.inr (⟨rfl, h⟩)
theorem ul_X11_blind_16 {n : Nat} {a0 a1 : Int} {s t : PS} {r : Int} (h : It_X11_blind (n + 1) 16 a0 a1 s r t) : T_X11_blind_16 (It_X11_blind n) a0 a1 s r t := by
  have h2 : ((16 : Nat) = 16 ∧ T_X11_blind_16 (It_X11_blind n) a0 a1 s r t) ∨ ((16 : Nat) = 106 ∧ T_X11_blind_106 (It_X11_blind n) a0 a1 s r t) := h
  rcases h2 with ⟨e, h2⟩ | ⟨e, h2⟩
  · exact h2
  · exact absurd e (by decide)
theorem ul_X11_blind_106 {n : Nat} {a0 a1 : Int} {s t : PS} {r : Int} (h : It_X11_blind (n + 1) 106 a0 a1 s r t) : T_X11_blind_106 (It_X11_blind n) a0 a1 s r t := by
  have h2 : ((106 : Nat) = 16 ∧ T_X11_blind_16 (It_X11_blind n) a0 a1 s r t) ∨ ((106 : Nat) = 106 ∧ T_X11_blind_106 (It_X11_blind n) a0 a1 s r t) := h
  rcases h2 with ⟨e, h2⟩ | ⟨e, h2⟩
  · exact absurd e (by decide)
  · exact h2
def M_X11_blind (s : PS) (r : Int) (t : PS) : Prop := ∃ n, T_X11_blind_e (It_X11_blind n) s r t
theorem mk_X11_blind {n : Nat} {s t : PS} {r : Int} (h : T_X11_blind_e (It_X11_blind n) s r t) : M_X11_blind s r t := ⟨n, h⟩
def T_X11_lacks_e (s_w : PS) (p1 p2 : Int) (rr : Int) (ss : PS) : Prop := ((TyX s_w) ∧ (((s_w 88 0) = 0 ∧ (rr = (-1) ∧ ss = s_w)) ∨ (¬ ((s_w 88 0) = 0) ∧ (∃ r_3 : Int, (∃ s_w_2 : PS, ((M_X4_lacking s_w p1 p2 r_3 s_w_2) ∧ ((Fr intsX [] [] s_w s_w_2) ∧ ((TyX s_w_2) ∧ (rr = r_3 ∧ ss = s_w_2)))))))))
def M_X11_lacks (s : PS) (p1 p2 : Int) (r : Int) (t : PS) : Prop := T_X11_lacks_e s p1 p2 r t
theorem mk_X11_lacks {s t : PS} {p1 p2 : Int} {r : Int} (h : T_X11_lacks_e s p1 p2 r t) : M_X11_lacks s p1 p2 r t := h
def T_X4_worthOf_1_5 (K : Nat → Int → Int → Int → PS → Int → PS → Prop) (x5_1 x5_3 x5_4 : Int) (s_w5 : PS) (rr : Int) (ss : PS) : Prop := ((TyX s_w5) ∧ ((0 ≤ x5_1 ∧ x5_1 ≤ 39) ∧ ((0 ≤ x5_4 ∧ x5_4 ≤ 10) ∧ (((s_w5 1 0) ≤ x5_4 ∧ (rr = x5_3 ∧ ss = s_w5)) ∨ (¬ ((s_w5 1 0) ≤ x5_4) ∧ (((iAnd (iShr (s_w5 95 x5_1.toNat) x5_4) 1) = 0 ∧ (K 38 x5_1 x5_3 x5_4 s_w5 rr ss)) ∨ (¬ ((iAnd (iShr (s_w5 95 x5_1.toNat) x5_4) 1) = 0) ∧ (K 38 x5_1 (wi (x5_3 + (s_w5 3 x5_4.toNat))) x5_4 s_w5 rr ss))))))))
def T_X4_worthOf_1_38 (K : Nat → Int → Int → Int → PS → Int → PS → Prop) (x38_1 x38_3 x38_4 : Int) (s_w38 : PS) (rr : Int) (ss : PS) : Prop := ((TyX s_w38) ∧ ((0 ≤ x38_1 ∧ x38_1 ≤ 39) ∧ ((0 ≤ x38_4 ∧ x38_4 ≤ 9) ∧ (K 5 x38_1 x38_3 (x38_4 + 1) s_w38 rr ss))))
def T_X4_worthOf_1_e (K : Nat → Int → Int → Int → PS → Int → PS → Prop) (s_w : PS) (p1 : Int) (rr : Int) (ss : PS) : Prop := ((TyX s_w) ∧ ((0 ≤ p1 ∧ p1 ≤ 39) ∧ (K 5 p1 0 0 s_w rr ss)))
def It_X4_worthOf_1 : Nat → Nat → Int → Int → Int → PS → Int → PS → Prop
  | 0, _, _, _, _, _, _, _ => False
  | n + 1, pc, a0, a1, a2, s, r, t => (pc = 5 ∧ T_X4_worthOf_1_5 (It_X4_worthOf_1 n) a0 a1 a2 s r t) ∨ (pc = 38 ∧ T_X4_worthOf_1_38 (It_X4_worthOf_1 n) a0 a1 a2 s r t)
theorem rl_X4_worthOf_1_5 {n : Nat} {a0 a1 a2 : Int} {s t : PS} {r : Int} (h : T_X4_worthOf_1_5 (It_X4_worthOf_1 n) a0 a1 a2 s r t) : It_X4_worthOf_1 (n + 1) 5 a0 a1 a2 s r t := Or.inl ⟨rfl, h⟩
theorem rl_X4_worthOf_1_38 {n : Nat} {a0 a1 a2 : Int} {s t : PS} {r : Int} (h : T_X4_worthOf_1_38 (It_X4_worthOf_1 n) a0 a1 a2 s r t) : It_X4_worthOf_1 (n + 1) 38 a0 a1 a2 s r t := Or.inr (⟨rfl, h⟩)
theorem ul_X4_worthOf_1_5 {n : Nat} {a0 a1 a2 : Int} {s t : PS} {r : Int} (h : It_X4_worthOf_1 (n + 1) 5 a0 a1 a2 s r t) : T_X4_worthOf_1_5 (It_X4_worthOf_1 n) a0 a1 a2 s r t := by
  have h2 : ((5 : Nat) = 5 ∧ T_X4_worthOf_1_5 (It_X4_worthOf_1 n) a0 a1 a2 s r t) ∨ ((5 : Nat) = 38 ∧ T_X4_worthOf_1_38 (It_X4_worthOf_1 n) a0 a1 a2 s r t) := h
  rcases h2 with ⟨e, h2⟩ | ⟨e, h2⟩
  · exact h2
  · exact absurd e (by decide)
theorem ul_X4_worthOf_1_38 {n : Nat} {a0 a1 a2 : Int} {s t : PS} {r : Int} (h : It_X4_worthOf_1 (n + 1) 38 a0 a1 a2 s r t) : T_X4_worthOf_1_38 (It_X4_worthOf_1 n) a0 a1 a2 s r t := by
  have h2 : ((38 : Nat) = 5 ∧ T_X4_worthOf_1_5 (It_X4_worthOf_1 n) a0 a1 a2 s r t) ∨ ((38 : Nat) = 38 ∧ T_X4_worthOf_1_38 (It_X4_worthOf_1 n) a0 a1 a2 s r t) := h
  rcases h2 with ⟨e, h2⟩ | ⟨e, h2⟩
  · exact absurd e (by decide)
  · exact h2
def M_X4_worthOf_1 (s : PS) (p1 : Int) (r : Int) (t : PS) : Prop := ∃ n, T_X4_worthOf_1_e (It_X4_worthOf_1 n) s p1 r t
theorem mk_X4_worthOf_1 {n : Nat} {s t : PS} {p1 : Int} {r : Int} (h : T_X4_worthOf_1_e (It_X4_worthOf_1 n) s p1 r t) : M_X4_worthOf_1 s p1 r t := ⟨n, h⟩
def T_X4_greatest_1_21 (K : Nat → Int → Int → Int → PS → Int → PS → Prop) (x21_1 x21_3 x21_4 : Int) (s_w21 : PS) (rr : Int) (ss : PS) : Prop := ((TyX s_w21) ∧ ((0 ≤ x21_1 ∧ x21_1 ≤ 39) ∧ ((0 ≤ x21_4 ∧ x21_4 ≤ 40) ∧ (((s_w21 88 1) ≤ x21_4 ∧ (rr = x21_3 ∧ ss = s_w21)) ∨ (¬ ((s_w21 88 1) ≤ x21_4) ∧ (((s_w21 90 x21_4.toNat) = (s_w21 90 x21_1.toNat) ∧ (∃ r_6 : Int, (∃ s_w_5 : PS, ((M_X4_worthOf_1 s_w21 x21_4 r_6 s_w_5) ∧ ((Fr intsX [] [] s_w21 s_w_5) ∧ ((TyX s_w_5) ∧ (K 58 x21_1 (max x21_3 r_6) x21_4 s_w_5 rr ss))))))) ∨ (¬ ((s_w21 90 x21_4.toNat) = (s_w21 90 x21_1.toNat)) ∧ (K 58 x21_1 x21_3 x21_4 s_w21 rr ss))))))))
def T_X4_greatest_1_58 (K : Nat → Int → Int → Int → PS → Int → PS → Prop) (x58_1 x58_3 x58_4 : Int) (s_w58 : PS) (rr : Int) (ss : PS) : Prop := ((TyX s_w58) ∧ ((0 ≤ x58_1 ∧ x58_1 ≤ 39) ∧ ((0 ≤ x58_4 ∧ x58_4 ≤ 39) ∧ (K 21 x58_1 x58_3 (x58_4 + 1) s_w58 rr ss))))
def T_X4_greatest_1_e (K : Nat → Int → Int → Int → PS → Int → PS → Prop) (s_w : PS) (p1 : Int) (rr : Int) (ss : PS) : Prop := ((TyX s_w) ∧ ((0 ≤ p1 ∧ p1 ≤ 39) ∧ (∃ r_10 : Int, (∃ s_w_9 : PS, ((M_X4_worthOf_1 s_w p1 r_10 s_w_9) ∧ ((Fr intsX [] [] s_w s_w_9) ∧ ((TyX s_w_9) ∧ (((s_w 90 p1.toNat) = 0 ∧ (rr = r_10 ∧ ss = s_w_9)) ∨ (¬ ((s_w 90 p1.toNat) = 0) ∧ (K 21 p1 r_10 0 s_w_9 rr ss))))))))))
def It_X4_greatest_1 : Nat → Nat → Int → Int → Int → PS → Int → PS → Prop
  | 0, _, _, _, _, _, _, _ => False
  | n + 1, pc, a0, a1, a2, s, r, t => (pc = 21 ∧ T_X4_greatest_1_21 (It_X4_greatest_1 n) a0 a1 a2 s r t) ∨ (pc = 58 ∧ T_X4_greatest_1_58 (It_X4_greatest_1 n) a0 a1 a2 s r t)
theorem rl_X4_greatest_1_21 {n : Nat} {a0 a1 a2 : Int} {s t : PS} {r : Int} (h : T_X4_greatest_1_21 (It_X4_greatest_1 n) a0 a1 a2 s r t) : It_X4_greatest_1 (n + 1) 21 a0 a1 a2 s r t := Or.inl ⟨rfl, h⟩
theorem rl_X4_greatest_1_58 {n : Nat} {a0 a1 a2 : Int} {s t : PS} {r : Int} (h : T_X4_greatest_1_58 (It_X4_greatest_1 n) a0 a1 a2 s r t) : It_X4_greatest_1 (n + 1) 58 a0 a1 a2 s r t := Or.inr (⟨rfl, h⟩)
theorem ul_X4_greatest_1_21 {n : Nat} {a0 a1 a2 : Int} {s t : PS} {r : Int} (h : It_X4_greatest_1 (n + 1) 21 a0 a1 a2 s r t) : T_X4_greatest_1_21 (It_X4_greatest_1 n) a0 a1 a2 s r t := by
  have h2 : ((21 : Nat) = 21 ∧ T_X4_greatest_1_21 (It_X4_greatest_1 n) a0 a1 a2 s r t) ∨ ((21 : Nat) = 58 ∧ T_X4_greatest_1_58 (It_X4_greatest_1 n) a0 a1 a2 s r t) := h
  rcases h2 with ⟨e, h2⟩ | ⟨e, h2⟩
  · exact h2
  · exact absurd e (by decide)
theorem ul_X4_greatest_1_58 {n : Nat} {a0 a1 a2 : Int} {s t : PS} {r : Int} (h : It_X4_greatest_1 (n + 1) 58 a0 a1 a2 s r t) : T_X4_greatest_1_58 (It_X4_greatest_1 n) a0 a1 a2 s r t := by
  have h2 : ((58 : Nat) = 21 ∧ T_X4_greatest_1_21 (It_X4_greatest_1 n) a0 a1 a2 s r t) ∨ ((58 : Nat) = 58 ∧ T_X4_greatest_1_58 (It_X4_greatest_1 n) a0 a1 a2 s r t) := h
  rcases h2 with ⟨e, h2⟩ | ⟨e, h2⟩
  · exact absurd e (by decide)
  · exact h2
def M_X4_greatest_1 (s : PS) (p1 : Int) (r : Int) (t : PS) : Prop := ∃ n, T_X4_greatest_1_e (It_X4_greatest_1 n) s p1 r t
theorem mk_X4_greatest_1 {n : Nat} {s t : PS} {p1 : Int} {r : Int} (h : T_X4_greatest_1_e (It_X4_greatest_1 n) s p1 r t) : M_X4_greatest_1 s p1 r t := ⟨n, h⟩
def T_X4_isBetter_e (s_w : PS) (p1 p2 : Int) (rr : Int) (ss : PS) : Prop := ((TyX s_w) ∧ ((0 ≤ p1 ∧ p1 ≤ 1023) ∧ ((0 ≤ p2 ∧ p2 ≤ 1023) ∧ (((s_w 101 p1.toNat) = (s_w 101 p2.toNat) ∧ (∃ r_6 : Int, (∃ s_w_5 : PS, ((M_J6_bitCount_0f7a4 s_w (s_w 99 p1.toNat) r_6 s_w_5) ∧ ((Fr intsX [] [] s_w s_w_5) ∧ ((TyX s_w_5) ∧ ((0 ≤ r_6 ∧ r_6 ≤ 63) ∧ (∃ r_10 : Int, (∃ s_w_9 : PS, ((M_J6_bitCount_0f7a4 s_w_5 (s_w 99 p2.toNat) r_10 s_w_9) ∧ ((Fr intsX [] [] s_w_5 s_w_9) ∧ ((TyX s_w_9) ∧ ((0 ≤ r_10 ∧ r_10 ≤ 63) ∧ ((r_6 = r_10 ∧ (((iAnd (iAnd (s_w 99 p1.toNat) (iXor (s_w 99 p1.toNat) (s_w 99 p2.toNat))) (wi (-(iXor (s_w 99 p1.toNat) (s_w 99 p2.toNat))))) = 0 ∧ (rr = 0 ∧ ss = s_w_9)) ∨ (¬ ((iAnd (iAnd (s_w 99 p1.toNat) (iXor (s_w 99 p1.toNat) (s_w 99 p2.toNat))) (wi (-(iXor (s_w 99 p1.toNat) (s_w 99 p2.toNat))))) = 0) ∧ (rr = 1 ∧ ss = s_w_9)))) ∨ (¬ (r_6 = r_10) ∧ ((r_10 ≤ r_6 ∧ (rr = 0 ∧ ss = s_w_9)) ∨ (¬ (r_10 ≤ r_6) ∧ (rr = 1 ∧ ss = s_w_9)))))))))))))))))) ∨ (¬ ((s_w 101 p1.toNat) = (s_w 101 p2.toNat)) ∧ (((s_w 101 p2.toNat) ≤ (s_w 101 p1.toNat) ∧ (rr = 0 ∧ ss = s_w)) ∨ (¬ ((s_w 101 p2.toNat) ≤ (s_w 101 p1.toNat)) ∧ (rr = 1 ∧ ss = s_w))))))))
def M_X4_isBetter (s : PS) (p1 p2 : Int) (r : Int) (t : PS) : Prop := T_X4_isBetter_e s p1 p2 r t
theorem mk_X4_isBetter {s t : PS} {p1 p2 : Int} {r : Int} (h : T_X4_isBetter_e s p1 p2 r t) : M_X4_isBetter s p1 p2 r t := h
