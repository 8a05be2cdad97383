def T_X10_readWord_5 (K : Nat → Int → PS → Int → PS → Prop) (s_w5 : PS) (rr : Int) (ss : PS) : Prop := ((TyX s_w5) ∧ (((s_w5 31 1) ≤ (s_w5 31 3) ∧ (K 118 0 s_w5 rr ss)) ∨ (¬ ((s_w5 31 1) ≤ (s_w5 31 3)) ∧ (((s_w5 32 (s_w5 31 3).toNat) < 97 ∧ (K 118 0 s_w5 rr ss)) ∨ (¬ ((s_w5 32 (s_w5 31 3).toNat) < 97) ∧ ((122 < (s_w5 32 (s_w5 31 3).toNat) ∧ (K 118 0 s_w5 rr ss)) ∨ (¬ (122 < (s_w5 32 (s_w5 31 3).toNat)) ∧ (((wi ((s_w5 31 3) - (s_w5 31 5))) = 8 ∧ (∃ s_w_19 : PS, s_w_19 = (us s_w5 31 5 (s_w5 31 3)) ∧ (∃ s_w_20 : PS, s_w_20 = (us s_w_19 31 4 257) ∧ (rr = 0 ∧ ss = s_w_20)))) ∨ (¬ ((wi ((s_w5 31 3) - (s_w5 31 5))) = 8) ∧ (∃ s_w_17 : PS, s_w_17 = (us s_w5 31 6 (lOr (s_w5 31 6) (lShl ((s_w5 32 (s_w5 31 3).toNat) - 96) (wi (35 - (wi (5 * (wi ((s_w5 31 3) - (s_w5 31 5)))))))))) ∧ (∃ s_w_18 : PS, s_w_18 = (us s_w_17 31 3 ((s_w5 31 3) + 1)) ∧ (K 5 0 s_w_18 rr ss))))))))))))
def T_X10_readWord_118 (K : Nat → Int → PS → Int → PS → Prop) (s_w118 : PS) (rr : Int) (ss : PS) : Prop := ((TyX s_w118) ∧ (∃ s_w_6 : PS, s_w_6 = (us s_w118 31 4 258) ∧ (K 127 0 s_w_6 rr ss)))
def T_X10_readWord_127 (K : Nat → Int → PS → Int → PS → Prop) (x127_1 : Int) (s_w127 : PS) (rr : Int) (ss : PS) : Prop := ((TyX s_w127) ∧ ((0 ≤ x127_1 ∧ x127_1 ≤ 22) ∧ ((22 ≤ x127_1 ∧ (rr = 0 ∧ ss = s_w127)) ∨ (¬ (22 ≤ x127_1) ∧ (((s_w127 33 x127_1.toNat) = (s_w127 31 6) ∧ (∃ s_w_5 : PS, s_w_5 = (us s_w127 31 4 ((260 + x127_1) + 1)) ∧ (rr = 0 ∧ ss = s_w_5))) ∨ (¬ ((s_w127 33 x127_1.toNat) = (s_w127 31 6)) ∧ (K 127 (x127_1 + 1) s_w127 rr ss)))))))
def T_X10_readWord_e (K : Nat → Int → PS → Int → PS → Prop) (s_w : PS) (rr : Int) (ss : PS) : Prop := ((TyX s_w) ∧ (∃ s_w_21 : PS, s_w_21 = (us s_w 31 6 0) ∧ (K 5 0 s_w_21 rr ss)))
def It_X10_readWord : Nat → Nat → Int → PS → Int → PS → Prop
  | 0, _, _, _, _, _ => False
  | n + 1, pc, a0, s, r, t => (pc = 5 ∧ T_X10_readWord_5 (It_X10_readWord n) s r t) ∨ (pc = 118 ∧ T_X10_readWord_118 (It_X10_readWord n) s r t) ∨ (pc = 127 ∧ T_X10_readWord_127 (It_X10_readWord n) a0 s r t)
theorem rl_X10_readWord_5 {n : Nat} {s t : PS} {r : Int} (h : T_X10_readWord_5 (It_X10_readWord n) s r t) : It_X10_readWord (n + 1) 5 0 s r t := Or.inl ⟨rfl, h⟩
theorem rl_X10_readWord_118 {n : Nat} {s t : PS} {r : Int} (h : T_X10_readWord_118 (It_X10_readWord n) s r t) : It_X10_readWord (n + 1) 118 0 s r t := Or.inr (Or.inl ⟨rfl, h⟩)
theorem rl_X10_readWord_127 {n : Nat} {a0 : Int} {s t : PS} {r : Int} (h : T_X10_readWord_127 (It_X10_readWord n) a0 s r t) : It_X10_readWord (n + 1) 127 a0 s r t := Or.inr (Or.inr (⟨rfl, h⟩))
theorem ul_X10_readWord_5 {n : Nat} {a0 : Int} {s t : PS} {r : Int} (h : It_X10_readWord (n + 1) 5 a0 s r t) : T_X10_readWord_5 (It_X10_readWord n) s r t := by
  have h2 : ((5 : Nat) = 5 ∧ T_X10_readWord_5 (It_X10_readWord n) s r t) ∨ ((5 : Nat) = 118 ∧ T_X10_readWord_118 (It_X10_readWord n) s r t) ∨ ((5 : Nat) = 127 ∧ T_X10_readWord_127 (It_X10_readWord n) a0 s r t) := h
  rcases h2 with ⟨e, h2⟩ | ⟨e, h2⟩ | ⟨e, h2⟩
  · exact h2
  · exact absurd e (by decide)
  · exact absurd e (by decide)
theorem ul_X10_readWord_118 {n : Nat} {a0 : Int} {s t : PS} {r : Int} (h : It_X10_readWord (n + 1) 118 a0 s r t) : T_X10_readWord_118 (It_X10_readWord n) s r t := by
  have h2 : ((118 : Nat) = 5 ∧ T_X10_readWord_5 (It_X10_readWord n) s r t) ∨ ((118 : Nat) = 118 ∧ T_X10_readWord_118 (It_X10_readWord n) s r t) ∨ ((118 : Nat) = 127 ∧ T_X10_readWord_127 (It_X10_readWord n) a0 s r t) := h
  rcases h2 with ⟨e, h2⟩ | ⟨e, h2⟩ | ⟨e, h2⟩
  · exact absurd e (by decide)
  · exact h2
  · exact absurd e (by decide)
theorem ul_X10_readWord_127 {n : Nat} {a0 : Int} {s t : PS} {r : Int} (h : It_X10_readWord (n + 1) 127 a0 s r t) : T_X10_readWord_127 (It_X10_readWord n) a0 s r t := by
  have h2 : ((127 : Nat) = 5 ∧ T_X10_readWord_5 (It_X10_readWord n) s r t) ∨ ((127 : Nat) = 118 ∧ T_X10_readWord_118 (It_X10_readWord n) s r t) ∨ ((127 : Nat) = 127 ∧ T_X10_readWord_127 (It_X10_readWord n) a0 s r t) := h
  rcases h2 with ⟨e, h2⟩ | ⟨e, h2⟩ | ⟨e, h2⟩
  · exact absurd e (by decide)
  · exact absurd e (by decide)
  · exact h2
def M_X10_readWord (s : PS) (r : Int) (t : PS) : Prop := ∃ n, T_X10_readWord_e (It_X10_readWord n) s r t
theorem mk_X10_readWord {n : Nat} {s t : PS} {r : Int} (h : T_X10_readWord_e (It_X10_readWord n) s r t) : M_X10_readWord s r t := ⟨n, h⟩
def T_X10_step_15 (K : Nat → Int → Int → Int → Int → PS → Int → PS → Prop) (y15_0 : Int) (s_w15 : PS) (rr : Int) (ss : PS) : Prop := ((TyX s_w15) ∧ ((0 ≤ y15_0 ∧ y15_0 ≤ 1) ∧ (K 21 y15_0 (s_w15 31 3) 0 0 s_w15 rr ss)))
def T_X10_step_21 (K : Nat → Int → Int → Int → Int → PS → Int → PS → Prop) (x21_1 x21_2 : Int) (s_w21 : PS) (rr : Int) (ss : PS) : Prop := ((TyX s_w21) ∧ ((0 ≤ x21_1 ∧ x21_1 ≤ 1) ∧ ((0 ≤ x21_2 ∧ x21_2 ≤ 1000) ∧ (((s_w21 31 1) ≤ (s_w21 31 3) ∧ (K 73 x21_1 x21_2 0 0 s_w21 rr ss)) ∨ (¬ ((s_w21 31 1) ≤ (s_w21 31 3)) ∧ (((s_w21 32 (s_w21 31 3).toNat) = 10 ∧ (K 60 x21_1 x21_2 0 0 s_w21 rr ss)) ∨ (¬ ((s_w21 32 (s_w21 31 3).toNat) = 10) ∧ (((s_w21 32 (s_w21 31 3).toNat) = 32 ∧ (K 60 x21_1 x21_2 0 0 s_w21 rr ss)) ∨ (¬ ((s_w21 32 (s_w21 31 3).toNat) = 32) ∧ (K 73 x21_1 x21_2 0 0 s_w21 rr ss))))))))))
def T_X10_step_60 (K : Nat → Int → Int → Int → Int → PS → Int → PS → Prop) (x60_1 x60_2 : Int) (s_w60 : PS) (rr : Int) (ss : PS) : Prop := ((TyX s_w60) ∧ ((0 ≤ x60_1 ∧ x60_1 ≤ 1) ∧ ((0 ≤ x60_2 ∧ x60_2 ≤ 1000) ∧ (∃ s_w_24 : PS, s_w_24 = (us s_w60 31 3 ((s_w60 31 3) + 1)) ∧ (K 21 x60_1 x60_2 0 0 s_w_24 rr ss)))))
def T_X10_step_73 (K : Nat → Int → Int → Int → Int → PS → Int → PS → Prop) (x73_1 x73_2 : Int) (s_w73 : PS) (rr : Int) (ss : PS) : Prop := ((TyX s_w73) ∧ ((0 ≤ x73_1 ∧ x73_1 ≤ 1) ∧ ((0 ≤ x73_2 ∧ x73_2 ≤ 1000) ∧ (∃ s_w_21 : PS, s_w_21 = (us s_w73 31 5 (s_w73 31 3)) ∧ (((s_w73 31 1) ≤ (s_w73 31 3) ∧ (K 108 x73_1 x73_2 256 0 s_w_21 rr ss)) ∨ (¬ ((s_w73 31 1) ≤ (s_w73 31 3)) ∧ (K 108 x73_1 x73_2 (s_w73 32 (s_w73 31 3).toNat) 0 s_w_21 rr ss)))))))
def T_X10_step_108 (K : Nat → Int → Int → Int → Int → PS → Int → PS → Prop) (x108_1 x108_2 y108_0 : Int) (s_w108 : PS) (rr : Int) (ss : PS) : Prop := ((TyX s_w108) ∧ ((0 ≤ x108_1 ∧ x108_1 ≤ 1) ∧ ((0 ≤ x108_2 ∧ x108_2 ≤ 1000) ∧ ((0 ≤ y108_0 ∧ y108_0 ≤ 256) ∧ (∃ s_w_18 : PS, s_w_18 = (us s_w108 31 4 y108_0) ∧ ((y108_0 < 97 ∧ (K 133 x108_1 x108_2 0 0 s_w_18 rr ss)) ∨ (¬ (y108_0 < 97) ∧ ((122 < y108_0 ∧ (K 133 x108_1 x108_2 0 0 s_w_18 rr ss)) ∨ (¬ (122 < y108_0) ∧ (K 134 x108_1 x108_2 1 0 s_w_18 rr ss))))))))))
def T_X10_step_133 (K : Nat → Int → Int → Int → Int → PS → Int → PS → Prop) (x133_1 x133_2 : Int) (s_w133 : PS) (rr : Int) (ss : PS) : Prop := ((TyX s_w133) ∧ ((0 ≤ x133_1 ∧ x133_1 ≤ 1) ∧ ((0 ≤ x133_2 ∧ x133_2 ≤ 1000) ∧ (K 134 x133_1 x133_2 0 0 s_w133 rr ss))))
def T_X10_step_134 (K : Nat → Int → Int → Int → Int → PS → Int → PS → Prop) (x134_1 x134_2 y134_0 : Int) (s_w134 : PS) (rr : Int) (ss : PS) : Prop := ((TyX s_w134) ∧ ((0 ≤ x134_1 ∧ x134_1 ≤ 1) ∧ ((0 ≤ x134_2 ∧ x134_2 ≤ 1000) ∧ ((0 ≤ y134_0 ∧ y134_0 ≤ 1) ∧ (((s_w134 31 4) < 48 ∧ (K 157 x134_1 x134_2 y134_0 0 s_w134 rr ss)) ∨ (¬ ((s_w134 31 4) < 48) ∧ ((57 < (s_w134 31 4) ∧ (K 157 x134_1 x134_2 y134_0 0 s_w134 rr ss)) ∨ (¬ (57 < (s_w134 31 4)) ∧ (K 158 x134_1 x134_2 y134_0 1 s_w134 rr ss)))))))))
def T_X10_step_157 (K : Nat → Int → Int → Int → Int → PS → Int → PS → Prop) (x157_1 x157_2 x157_3 : Int) (s_w157 : PS) (rr : Int) (ss : PS) : Prop := ((TyX s_w157) ∧ ((0 ≤ x157_1 ∧ x157_1 ≤ 1) ∧ ((0 ≤ x157_2 ∧ x157_2 ≤ 1000) ∧ ((0 ≤ x157_3 ∧ x157_3 ≤ 1) ∧ (K 158 x157_1 x157_2 x157_3 0 s_w157 rr ss)))))
def T_X10_step_158 (K : Nat → Int → Int → Int → Int → PS → Int → PS → Prop) (x158_1 x158_2 x158_3 y158_0 : Int) (s_w158 : PS) (rr : Int) (ss : PS) : Prop := ((TyX s_w158) ∧ ((0 ≤ x158_1 ∧ x158_1 ≤ 1) ∧ ((0 ≤ x158_2 ∧ x158_2 ≤ 1000) ∧ ((0 ≤ x158_3 ∧ x158_3 ≤ 1) ∧ ((0 ≤ y158_0 ∧ y158_0 ≤ 1) ∧ ((x158_3 = 0 ∧ ((y158_0 = 0 ∧ (∃ s_w_9 : PS, s_w_9 = (us s_w158 31 3 (min ((s_w158 31 3) + 1) (s_w158 31 1))) ∧ (K 200 x158_1 x158_2 x158_3 y158_0 s_w_9 rr ss))) ∨ (¬ (y158_0 = 0) ∧ (∃ s_w_10 : PS, ((M_X10_readNumber s_w158 0 s_w_10) ∧ ((Fr intsX [31] [(31, 3), (31, 4), (31, 5), (31, 7)] s_w158 s_w_10) ∧ ((TyX s_w_10) ∧ (K 200 x158_1 x158_2 x158_3 y158_0 s_w_10 rr ss)))))))) ∨ (¬ (x158_3 = 0) ∧ (∃ s_w_13 : PS, ((M_X10_readWord s_w158 0 s_w_13) ∧ ((Fr intsX [31] [(31, 3), (31, 4), (31, 5), (31, 6)] s_w158 s_w_13) ∧ ((TyX s_w_13) ∧ (K 200 x158_1 x158_2 x158_3 y158_0 s_w_13 rr ss))))))))))))
def T_X10_step_200 (K : Nat → Int → Int → Int → Int → PS → Int → PS → Prop) (x200_1 x200_2 x200_3 x200_4 : Int) (s_w200 : PS) (rr : Int) (ss : PS) : Prop := ((TyX s_w200) ∧ ((0 ≤ x200_1 ∧ x200_1 ≤ 1) ∧ ((0 ≤ x200_2 ∧ x200_2 ≤ 1000) ∧ ((0 ≤ x200_3 ∧ x200_3 ≤ 1) ∧ ((0 ≤ x200_4 ∧ x200_4 ≤ 1) ∧ ((x200_1 = 0 ∧ (rr = 0 ∧ ss = s_w200)) ∨ (¬ (x200_1 = 0) ∧ ((x200_3 = 0 ∧ ((x200_4 = 0 ∧ (rr = 0 ∧ ss = s_w200)) ∨ (¬ (x200_4 = 0) ∧ (K 213 x200_1 x200_2 x200_3 x200_4 s_w200 rr ss)))) ∨ (¬ (x200_3 = 0) ∧ (K 213 x200_1 x200_2 x200_3 x200_4 s_w200 rr ss))))))))))
def T_X10_step_213 (K : Nat → Int → Int → Int → Int → PS → Int → PS → Prop) (x213_1 x213_2 x213_3 x213_4 : Int) (s_w213 : PS) (rr : Int) (ss : PS) : Prop := ((TyX s_w213) ∧ ((1 ≤ x213_1 ∧ x213_1 ≤ 1) ∧ ((0 ≤ x213_2 ∧ x213_2 ≤ 1000) ∧ ((0 ≤ x213_3 ∧ x213_3 ≤ 1) ∧ ((0 ≤ x213_4 ∧ x213_4 ≤ 1) ∧ (((s_w213 31 5) = x213_2 ∧ (∃ s_w_2 : PS, s_w_2 = (us s_w213 31 4 257) ∧ (rr = 0 ∧ ss = s_w_2))) ∨ (¬ ((s_w213 31 5) = x213_2) ∧ (rr = 0 ∧ ss = s_w213))))))))
def T_X10_step_e (K : Nat → Int → Int → Int → Int → PS → Int → PS → Prop) (s_w : PS) (rr : Int) (ss : PS) : Prop := ((TyX s_w) ∧ (((s_w 31 4) < 258 ∧ (K 15 0 0 0 0 s_w rr ss)) ∨ (¬ ((s_w 31 4) < 258) ∧ (K 15 1 0 0 0 s_w rr ss))))
def It_X10_step : Nat → Nat → Int → Int → Int → Int → PS → Int → PS → Prop
  | 0, _, _, _, _, _, _, _, _ => False
  | n + 1, pc, a0, a1, a2, a3, s, r, t => (pc = 15 ∧ T_X10_step_15 (It_X10_step n) a0 s r t) ∨ (pc = 21 ∧ T_X10_step_21 (It_X10_step n) a0 a1 s r t) ∨ (pc = 60 ∧ T_X10_step_60 (It_X10_step n) a0 a1 s r t) ∨ (pc = 73 ∧ T_X10_step_73 (It_X10_step n) a0 a1 s r t) ∨ (pc = 108 ∧ T_X10_step_108 (It_X10_step n) a0 a1 a2 s r t) ∨ (pc = 133 ∧ T_X10_step_133 (It_X10_step n) a0 a1 s r t) ∨ (pc = 134 ∧ T_X10_step_134 (It_X10_step n) a0 a1 a2 s r t) ∨ (pc = 157 ∧ T_X10_step_157 (It_X10_step n) a0 a1 a2 s r t) ∨ (pc = 158 ∧ T_X10_step_158 (It_X10_step n) a0 a1 a2 a3 s r t) ∨ (pc = 200 ∧ T_X10_step_200 (It_X10_step n) a0 a1 a2 a3 s r t) ∨ (pc = 213 ∧ T_X10_step_213 (It_X10_step n) a0 a1 a2 a3 s r t)
theorem rl_X10_step_15 {n : Nat} {a0 : Int} {s t : PS} {r : Int} (h : T_X10_step_15 (It_X10_step n) a0 s r t) : It_X10_step (n + 1) 15 a0 0 0 0 s r t := Or.inl ⟨rfl, h⟩
theorem rl_X10_step_21 {n : Nat} {a0 a1 : Int} {s t : PS} {r : Int} (h : T_X10_step_21 (It_X10_step n) a0 a1 s r t) : It_X10_step (n + 1) 21 a0 a1 0 0 s r t := Or.inr (Or.inl ⟨rfl, h⟩)
theorem rl_X10_step_60 {n : Nat} {a0 a1 : Int} {s t : PS} {r : Int} (h : T_X10_step_60 (It_X10_step n) a0 a1 s r t) : It_X10_step (n + 1) 60 a0 a1 0 0 s r t := Or.inr (Or.inr (Or.inl ⟨rfl, h⟩))
theorem rl_X10_step_73 {n : Nat} {a0 a1 : Int} {s t : PS} {r : Int} (h : T_X10_step_73 (It_X10_step n) a0 a1 s r t) : It_X10_step (n + 1) 73 a0 a1 0 0 s r t := Or.inr (Or.inr (Or.inr (Or.inl ⟨rfl, h⟩)))
theorem rl_X10_step_108 {n : Nat} {a0 a1 a2 : Int} {s t : PS} {r : Int} (h : T_X10_step_108 (It_X10_step n) a0 a1 a2 s r t) : It_X10_step (n + 1) 108 a0 a1 a2 0 s r t := Or.inr (Or.inr (Or.inr (Or.inr (Or.inl ⟨rfl, h⟩))))
theorem rl_X10_step_133 {n : Nat} {a0 a1 : Int} {s t : PS} {r : Int} (h : T_X10_step_133 (It_X10_step n) a0 a1 s r t) : It_X10_step (n + 1) 133 a0 a1 0 0 s r t := Or.inr (Or.inr (Or.inr (Or.inr (Or.inr (Or.inl ⟨rfl, h⟩)))))
theorem rl_X10_step_134 {n : Nat} {a0 a1 a2 : Int} {s t : PS} {r : Int} (h : T_X10_step_134 (It_X10_step n) a0 a1 a2 s r t) : It_X10_step (n + 1) 134 a0 a1 a2 0 s r t := Or.inr (Or.inr (Or.inr (Or.inr (Or.inr (Or.inr (Or.inl ⟨rfl, h⟩))))))
theorem rl_X10_step_157 {n : Nat} {a0 a1 a2 : Int} {s t : PS} {r : Int} (h : T_X10_step_157 (It_X10_step n) a0 a1 a2 s r t) : It_X10_step (n + 1) 157 a0 a1 a2 0 s r t := Or.inr (Or.inr (Or.inr (Or.inr (Or.inr (Or.inr (Or.inr (Or.inl ⟨rfl, h⟩)))))))
theorem rl_X10_step_158 {n : Nat} {a0 a1 a2 a3 : Int} {s t : PS} {r : Int} (h : T_X10_step_158 (It_X10_step n) a0 a1 a2 a3 s r t) : It_X10_step (n + 1) 158 a0 a1 a2 a3 s r t := Or.inr (Or.inr (Or.inr (Or.inr (Or.inr (Or.inr (Or.inr (Or.inr (Or.inl ⟨rfl, h⟩))))))))
theorem rl_X10_step_200 {n : Nat} {a0 a1 a2 a3 : Int} {s t : PS} {r : Int} (h : T_X10_step_200 (It_X10_step n) a0 a1 a2 a3 s r t) : It_X10_step (n + 1) 200 a0 a1 a2 a3 s r t := Or.inr (Or.inr (Or.inr (Or.inr (Or.inr (Or.inr (Or.inr (Or.inr (Or.inr (Or.inl ⟨rfl, h⟩)))))))))
theorem rl_X10_step_213 {n : Nat} {a0 a1 a2 a3 : Int} {s t : PS} {r : Int} (h : T_X10_step_213 (It_X10_step n) a0 a1 a2 a3 s r t) : It_X10_step (n + 1) 213 a0 a1 a2 a3 s r t := Or.inr (Or.inr (Or.inr (Or.inr (Or.inr (Or.inr (Or.inr (Or.inr (Or.inr (Or.inr (⟨rfl, h⟩))))))))))
theorem ul_X10_step_15 {n : Nat} {a0 a1 a2 a3 : Int} {s t : PS} {r : Int} (h : It_X10_step (n + 1) 15 a0 a1 a2 a3 s r t) : T_X10_step_15 (It_X10_step n) a0 s r t := by
  have h2 : ((15 : Nat) = 15 ∧ T_X10_step_15 (It_X10_step n) a0 s r t) ∨ ((15 : Nat) = 21 ∧ T_X10_step_21 (It_X10_step n) a0 a1 s r t) ∨ ((15 : Nat) = 60 ∧ T_X10_step_60 (It_X10_step n) a0 a1 s r t) ∨ ((15 : Nat) = 73 ∧ T_X10_step_73 (It_X10_step n) a0 a1 s r t) ∨ ((15 : Nat) = 108 ∧ T_X10_step_108 (It_X10_step n) a0 a1 a2 s r t) ∨ ((15 : Nat) = 133 ∧ T_X10_step_133 (It_X10_step n) a0 a1 s r t) ∨ ((15 : Nat) = 134 ∧ T_X10_step_134 (It_X10_step n) a0 a1 a2 s r t) ∨ ((15 : Nat) = 157 ∧ T_X10_step_157 (It_X10_step n) a0 a1 a2 s r t) ∨ ((15 : Nat) = 158 ∧ T_X10_step_158 (It_X10_step n) a0 a1 a2 a3 s r t) ∨ ((15 : Nat) = 200 ∧ T_X10_step_200 (It_X10_step n) a0 a1 a2 a3 s r t) ∨ ((15 : Nat) = 213 ∧ T_X10_step_213 (It_X10_step n) a0 a1 a2 a3 s r t) := h
  rcases h2 with ⟨e, h2⟩ | ⟨e, h2⟩ | ⟨e, h2⟩ | ⟨e, h2⟩ | ⟨e, h2⟩ | ⟨e, h2⟩ | ⟨e, h2⟩ | ⟨e, h2⟩ | ⟨e, h2⟩ | ⟨e, h2⟩ | ⟨e, h2⟩
  · exact h2
  · exact absurd e (by decide)
  · exact absurd e (by decide)
  · exact absurd e (by decide)
  · exact absurd e (by decide)
  · exact absurd e (by decide)
  · exact absurd e (by decide)
  · exact absurd e (by decide)
  · exact absurd e (by decide)
  · exact absurd e (by decide)
  · exact absurd e (by decide)
theorem ul_X10_step_21 {n : Nat} {a0 a1 a2 a3 : Int} {s t : PS} {r : Int} (h : It_X10_step (n + 1) 21 a0 a1 a2 a3 s r t) : T_X10_step_21 (It_X10_step n) a0 a1 s r t := by
  have h2 : ((21 : Nat) = 15 ∧ T_X10_step_15 (It_X10_step n) a0 s r t) ∨ ((21 : Nat) = 21 ∧ T_X10_step_21 (It_X10_step n) a0 a1 s r t) ∨ ((21 : Nat) = 60 ∧ T_X10_step_60 (It_X10_step n) a0 a1 s r t) ∨ ((21 : Nat) = 73 ∧ T_X10_step_73 (It_X10_step n) a0 a1 s r t) ∨ ((21 : Nat) = 108 ∧ T_X10_step_108 (It_X10_step n) a0 a1 a2 s r t) ∨ ((21 : Nat) = 133 ∧ T_X10_step_133 (It_X10_step n) a0 a1 s r t) ∨ ((21 : Nat) = 134 ∧ T_X10_step_134 (It_X10_step n) a0 a1 a2 s r t) ∨ ((21 : Nat) = 157 ∧ T_X10_step_157 (It_X10_step n) a0 a1 a2 s r t) ∨ ((21 : Nat) = 158 ∧ T_X10_step_158 (It_X10_step n) a0 a1 a2 a3 s r t) ∨ ((21 : Nat) = 200 ∧ T_X10_step_200 (It_X10_step n) a0 a1 a2 a3 s r t) ∨ ((21 : Nat) = 213 ∧ T_X10_step_213 (It_X10_step n) a0 a1 a2 a3 s r t) := h
  rcases h2 with ⟨e, h2⟩ | ⟨e, h2⟩ | ⟨e, h2⟩ | ⟨e, h2⟩ | ⟨e, h2⟩ | ⟨e, h2⟩ | ⟨e, h2⟩ | ⟨e, h2⟩ | ⟨e, h2⟩ | ⟨e, h2⟩ | ⟨e, h2⟩
  · exact absurd e (by decide)
  · exact h2
  · exact absurd e (by decide)
  · exact absurd e (by decide)
  · exact absurd e (by decide)
  · exact absurd e (by decide)
  · exact absurd e (by decide)
  · exact absurd e (by decide)
  · exact absurd e (by decide)
  · exact absurd e (by decide)
  · exact absurd e (by decide)
theorem ul_X10_step_60 {n : Nat} {a0 a1 a2 a3 : Int} {s t : PS} {r : Int} (h : It_X10_step (n + 1) 60 a0 a1 a2 a3 s r t) : T_X10_step_60 (It_X10_step n) a0 a1 s r t := by
  have h2 : ((60 : Nat) = 15 ∧ T_X10_step_15 (It_X10_step n) a0 s r t) ∨ ((60 : Nat) = 21 ∧ T_X10_step_21 (It_X10_step n) a0 a1 s r t) ∨ ((60 : Nat) = 60 ∧ T_X10_step_60 (It_X10_step n) a0 a1 s r t) ∨ ((60 : Nat) = 73 ∧ T_X10_step_73 (It_X10_step n) a0 a1 s r t) ∨ ((60 : Nat) = 108 ∧ T_X10_step_108 (It_X10_step n) a0 a1 a2 s r t) ∨ ((60 : Nat) = 133 ∧ T_X10_step_133 (It_X10_step n) a0 a1 s r t) ∨ ((60 : Nat) = 134 ∧ T_X10_step_134 (It_X10_step n) a0 a1 a2 s r t) ∨ ((60 : Nat) = 157 ∧ T_X10_step_157 (It_X10_step n) a0 a1 a2 s r t) ∨ ((60 : Nat) = 158 ∧ T_X10_step_158 (It_X10_step n) a0 a1 a2 a3 s r t) ∨ ((60 : Nat) = 200 ∧ T_X10_step_200 (It_X10_step n) a0 a1 a2 a3 s r t) ∨ ((60 : Nat) = 213 ∧ T_X10_step_213 (It_X10_step n) a0 a1 a2 a3 s r t) := h
  rcases h2 with ⟨e, h2⟩ | ⟨e, h2⟩ | ⟨e, h2⟩ | ⟨e, h2⟩ | ⟨e, h2⟩ | ⟨e, h2⟩ | ⟨e, h2⟩ | ⟨e, h2⟩ | ⟨e, h2⟩ | ⟨e, h2⟩ | ⟨e, h2⟩
  · exact absurd e (by decide)
  · exact absurd e (by decide)
  · exact h2
  · exact absurd e (by decide)
  · exact absurd e (by decide)
  · exact absurd e (by decide)
  · exact absurd e (by decide)
  · exact absurd e (by decide)
  · exact absurd e (by decide)
  · exact absurd e (by decide)
  · exact absurd e (by decide)
theorem ul_X10_step_73 {n : Nat} {a0 a1 a2 a3 : Int} {s t : PS} {r : Int} (h : It_X10_step (n + 1) 73 a0 a1 a2 a3 s r t) : T_X10_step_73 (It_X10_step n) a0 a1 s r t := by
  have h2 : ((73 : Nat) = 15 ∧ T_X10_step_15 (It_X10_step n) a0 s r t) ∨ ((73 : Nat) = 21 ∧ T_X10_step_21 (It_X10_step n) a0 a1 s r t) ∨ ((73 : Nat) = 60 ∧ T_X10_step_60 (It_X10_step n) a0 a1 s r t) ∨ ((73 : Nat) = 73 ∧ T_X10_step_73 (It_X10_step n) a0 a1 s r t) ∨ ((73 : Nat) = 108 ∧ T_X10_step_108 (It_X10_step n) a0 a1 a2 s r t) ∨ ((73 : Nat) = 133 ∧ T_X10_step_133 (It_X10_step n) a0 a1 s r t) ∨ ((73 : Nat) = 134 ∧ T_X10_step_134 (It_X10_step n) a0 a1 a2 s r t) ∨ ((73 : Nat) = 157 ∧ T_X10_step_157 (It_X10_step n) a0 a1 a2 s r t) ∨ ((73 : Nat) = 158 ∧ T_X10_step_158 (It_X10_step n) a0 a1 a2 a3 s r t) ∨ ((73 : Nat) = 200 ∧ T_X10_step_200 (It_X10_step n) a0 a1 a2 a3 s r t) ∨ ((73 : Nat) = 213 ∧ T_X10_step_213 (It_X10_step n) a0 a1 a2 a3 s r t) := h
  rcases h2 with ⟨e, h2⟩ | ⟨e, h2⟩ | ⟨e, h2⟩ | ⟨e, h2⟩ | ⟨e, h2⟩ | ⟨e, h2⟩ | ⟨e, h2⟩ | ⟨e, h2⟩ | ⟨e, h2⟩ | ⟨e, h2⟩ | ⟨e, h2⟩
  · exact absurd e (by decide)
  · exact absurd e (by decide)
  · exact absurd e (by decide)
  · exact h2
  · exact absurd e (by decide)
  · exact absurd e (by decide)
  · exact absurd e (by decide)
  · exact absurd e (by decide)
  · exact absurd e (by decide)
  · exact absurd e (by decide)
  · exact absurd e (by decide)
theorem ul_X10_step_108 {n : Nat} {a0 a1 a2 a3 : Int} {s t : PS} {r : Int} (h : It_X10_step (n + 1) 108 a0 a1 a2 a3 s r t) : T_X10_step_108 (It_X10_step n) a0 a1 a2 s r t := by
  have h2 : ((108 : Nat) = 15 ∧ T_X10_step_15 (It_X10_step n) a0 s r t) ∨ ((108 : Nat) = 21 ∧ T_X10_step_21 (It_X10_step n) a0 a1 s r t) ∨ ((108 : Nat) = 60 ∧ T_X10_step_60 (It_X10_step n) a0 a1 s r t) ∨ ((108 : Nat) = 73 ∧ T_X10_step_73 (It_X10_step n) a0 a1 s r t) ∨ ((108 : Nat) = 108 ∧ T_X10_step_108 (It_X10_step n) a0 a1 a2 s r t) ∨ ((108 : Nat) = 133 ∧ T_X10_step_133 (It_X10_step n) a0 a1 s r t) ∨ ((108 : Nat) = 134 ∧ T_X10_step_134 (It_X10_step n) a0 a1 a2 s r t) ∨ ((108 : Nat) = 157 ∧ T_X10_step_157 (It_X10_step n) a0 a1 a2 s r t) ∨ ((108 : Nat) = 158 ∧ T_X10_step_158 (It_X10_step n) a0 a1 a2 a3 s r t) ∨ ((108 : Nat) = 200 ∧ T_X10_step_200 (It_X10_step n) a0 a1 a2 a3 s r t) ∨ ((108 : Nat) = 213 ∧ T_X10_step_213 (It_X10_step n) a0 a1 a2 a3 s r t) := h
  rcases h2 with ⟨e, h2⟩ | ⟨e, h2⟩ | ⟨e, h2⟩ | ⟨e, h2⟩ | ⟨e, h2⟩ | ⟨e, h2⟩ | ⟨e, h2⟩ | ⟨e, h2⟩ | ⟨e, h2⟩ | ⟨e, h2⟩ | ⟨e, h2⟩
  · exact absurd e (by decide)
  · exact absurd e (by decide)
  · exact absurd e (by decide)
  · exact absurd e (by decide)
  · exact h2
  · exact absurd e (by decide)
  · exact absurd e (by decide)
  · exact absurd e (by decide)
  · exact absurd e (by decide)
  · exact absurd e (by decide)
  · exact absurd e (by decide)
theorem ul_X10_step_133 {n : Nat} {a0 a1 a2 a3 : Int} {s t : PS} {r : Int} (h : It_X10_step (n + 1) 133 a0 a1 a2 a3 s r t) : T_X10_step_133 (It_X10_step n) a0 a1 s r t := by
  have h2 : ((133 : Nat) = 15 ∧ T_X10_step_15 (It_X10_step n) a0 s r t) ∨ ((133 : Nat) = 21 ∧ T_X10_step_21 (It_X10_step n) a0 a1 s r t) ∨ ((133 : Nat) = 60 ∧ T_X10_step_60 (It_X10_step n) a0 a1 s r t) ∨ ((133 : Nat) = 73 ∧ T_X10_step_73 (It_X10_step n) a0 a1 s r t) ∨ ((133 : Nat) = 108 ∧ T_X10_step_108 (It_X10_step n) a0 a1 a2 s r t) ∨ ((133 : Nat) = 133 ∧ T_X10_step_133 (It_X10_step n) a0 a1 s r t) ∨ ((133 : Nat) = 134 ∧ T_X10_step_134 (It_X10_step n) a0 a1 a2 s r t) ∨ ((133 : Nat) = 157 ∧ T_X10_step_157 (It_X10_step n) a0 a1 a2 s r t) ∨ ((133 : Nat) = 158 ∧ T_X10_step_158 (It_X10_step n) a0 a1 a2 a3 s r t) ∨ ((133 : Nat) = 200 ∧ T_X10_step_200 (It_X10_step n) a0 a1 a2 a3 s r t) ∨ ((133 : Nat) = 213 ∧ T_X10_step_213 (It_X10_step n) a0 a1 a2 a3 s r t) := h
  rcases h2 with ⟨e, h2⟩ | ⟨e, h2⟩ | ⟨e, h2⟩ | ⟨e, h2⟩ | ⟨e, h2⟩ | ⟨e, h2⟩ | ⟨e, h2⟩ | ⟨e, h2⟩ | ⟨e, h2⟩ | ⟨e, h2⟩ | ⟨e, h2⟩
  · exact absurd e (by decide)
  · exact absurd e (by decide)
  · exact absurd e (by decide)
  · exact absurd e (by decide)
  · exact absurd e (by decide)
  · exact h2
  · exact absurd e (by decide)
  · exact absurd e (by decide)
  · exact absurd e (by decide)
  · exact absurd e (by decide)
  · exact absurd e (by decide)
theorem ul_X10_step_134 {n : Nat} {a0 a1 a2 a3 : Int} {s t : PS} {r : Int} (h : It_X10_step (n + 1) 134 a0 a1 a2 a3 s r t) : T_X10_step_134 (It_X10_step n) a0 a1 a2 s r t := by
  have h2 : ((134 : Nat) = 15 ∧ T_X10_step_15 (It_X10_step n) a0 s r t) ∨ ((134 : Nat) = 21 ∧ T_X10_step_21 (It_X10_step n) a0 a1 s r t) ∨ ((134 : Nat) = 60 ∧ T_X10_step_60 (It_X10_step n) a0 a1 s r t) ∨ ((134 : Nat) = 73 ∧ T_X10_step_73 (It_X10_step n) a0 a1 s r t) ∨ ((134 : Nat) = 108 ∧ T_X10_step_108 (It_X10_step n) a0 a1 a2 s r t) ∨ ((134 : Nat) = 133 ∧ T_X10_step_133 (It_X10_step n) a0 a1 s r t) ∨ ((134 : Nat) = 134 ∧ T_X10_step_134 (It_X10_step n) a0 a1 a2 s r t) ∨ ((134 : Nat) = 157 ∧ T_X10_step_157 (It_X10_step n) a0 a1 a2 s r t) ∨ ((134 : Nat) = 158 ∧ T_X10_step_158 (It_X10_step n) a0 a1 a2 a3 s r t) ∨ ((134 : Nat) = 200 ∧ T_X10_step_200 (It_X10_step n) a0 a1 a2 a3 s r t) ∨ ((134 : Nat) = 213 ∧ T_X10_step_213 (It_X10_step n) a0 a1 a2 a3 s r t) := h
  rcases h2 with ⟨e, h2⟩ | ⟨e, h2⟩ | ⟨e, h2⟩ | ⟨e, h2⟩ | ⟨e, h2⟩ | ⟨e, h2⟩ | ⟨e, h2⟩ | ⟨e, h2⟩ | ⟨e, h2⟩ | ⟨e, h2⟩ | ⟨e, h2⟩
  · exact absurd e (by decide)
  · exact absurd e (by decide)
  · exact absurd e (by decide)
  · exact absurd e (by decide)
  · exact absurd e (by decide)
  · exact absurd e (by decide)
  · exact h2
  · exact absurd e (by decide)
  · exact absurd e (by decide)
  · exact absurd e (by decide)
  · exact absurd e (by decide)
theorem ul_X10_step_157 {n : Nat} {a0 a1 a2 a3 : Int} {s t : PS} {r : Int} (h : It_X10_step (n + 1) 157 a0 a1 a2 a3 s r t) : T_X10_step_157 (It_X10_step n) a0 a1 a2 s r t := by
  have h2 : ((157 : Nat) = 15 ∧ T_X10_step_15 (It_X10_step n) a0 s r t) ∨ ((157 : Nat) = 21 ∧ T_X10_step_21 (It_X10_step n) a0 a1 s r t) ∨ ((157 : Nat) = 60 ∧ T_X10_step_60 (It_X10_step n) a0 a1 s r t) ∨ ((157 : Nat) = 73 ∧ T_X10_step_73 (It_X10_step n) a0 a1 s r t) ∨ ((157 : Nat) = 108 ∧ T_X10_step_108 (It_X10_step n) a0 a1 a2 s r t) ∨ ((157 : Nat) = 133 ∧ T_X10_step_133 (It_X10_step n) a0 a1 s r t) ∨ ((157 : Nat) = 134 ∧ T_X10_step_134 (It_X10_step n) a0 a1 a2 s r t) ∨ ((157 : Nat) = 157 ∧ T_X10_step_157 (It_X10_step n) a0 a1 a2 s r t) ∨ ((157 : Nat) = 158 ∧ T_X10_step_158 (It_X10_step n) a0 a1 a2 a3 s r t) ∨ ((157 : Nat) = 200 ∧ T_X10_step_200 (It_X10_step n) a0 a1 a2 a3 s r t) ∨ ((157 : Nat) = 213 ∧ T_X10_step_213 (It_X10_step n) a0 a1 a2 a3 s r t) := h
  rcases h2 with ⟨e, h2⟩ | ⟨e, h2⟩ | ⟨e, h2⟩ | ⟨e, h2⟩ | ⟨e, h2⟩ | ⟨e, h2⟩ | ⟨e, h2⟩ | ⟨e, h2⟩ | ⟨e, h2⟩ | ⟨e, h2⟩ | ⟨e, h2⟩
  · exact absurd e (by decide)
  · exact absurd e (by decide)
  · exact absurd e (by decide)
  · exact absurd e (by decide)
  · exact absurd e (by decide)
  · exact absurd e (by decide)
  · exact absurd e (by decide)
  · exact h2
  · exact absurd e (by decide)
  · exact absurd e (by decide)
  · exact absurd e (by decide)
theorem ul_X10_step_158 {n : Nat} {a0 a1 a2 a3 : Int} {s t : PS} {r : Int} (h : It_X10_step (n + 1) 158 a0 a1 a2 a3 s r t) : T_X10_step_158 (It_X10_step n) a0 a1 a2 a3 s r t := by
  have h2 : ((158 : Nat) = 15 ∧ T_X10_step_15 (It_X10_step n) a0 s r t) ∨ ((158 : Nat) = 21 ∧ T_X10_step_21 (It_X10_step n) a0 a1 s r t) ∨ ((158 : Nat) = 60 ∧ T_X10_step_60 (It_X10_step n) a0 a1 s r t) ∨ ((158 : Nat) = 73 ∧ T_X10_step_73 (It_X10_step n) a0 a1 s r t) ∨ ((158 : Nat) = 108 ∧ T_X10_step_108 (It_X10_step n) a0 a1 a2 s r t) ∨ ((158 : Nat) = 133 ∧ T_X10_step_133 (It_X10_step n) a0 a1 s r t) ∨ ((158 : Nat) = 134 ∧ T_X10_step_134 (It_X10_step n) a0 a1 a2 s r t) ∨ ((158 : Nat) = 157 ∧ T_X10_step_157 (It_X10_step n) a0 a1 a2 s r t) ∨ ((158 : Nat) = 158 ∧ T_X10_step_158 (It_X10_step n) a0 a1 a2 a3 s r t) ∨ ((158 : Nat) = 200 ∧ T_X10_step_200 (It_X10_step n) a0 a1 a2 a3 s r t) ∨ ((158 : Nat) = 213 ∧ T_X10_step_213 (It_X10_step n) a0 a1 a2 a3 s r t) := h
  rcases h2 with ⟨e, h2⟩ | ⟨e, h2⟩ | ⟨e, h2⟩ | ⟨e, h2⟩ | ⟨e, h2⟩ | ⟨e, h2⟩ | ⟨e, h2⟩ | ⟨e, h2⟩ | ⟨e, h2⟩ | ⟨e, h2⟩ | ⟨e, h2⟩
  · exact absurd e (by decide)
  · exact absurd e (by decide)
  · exact absurd e (by decide)
  · exact absurd e (by decide)
  · exact absurd e (by decide)
  · exact absurd e (by decide)
  · exact absurd e (by decide)
  · exact absurd e (by decide)
  · exact h2
  · exact absurd e (by decide)
  · exact absurd e (by decide)
theorem ul_X10_step_200 {n : Nat} {a0 a1 a2 a3 : Int} {s t : PS} {r : Int} (h : It_X10_step (n + 1) 200 a0 a1 a2 a3 s r t) : T_X10_step_200 (It_X10_step n) a0 a1 a2 a3 s r t := by
  have h2 : ((200 : Nat) = 15 ∧ T_X10_step_15 (It_X10_step n) a0 s r t) ∨ ((200 : Nat) = 21 ∧ T_X10_step_21 (It_X10_step n) a0 a1 s r t) ∨ ((200 : Nat) = 60 ∧ T_X10_step_60 (It_X10_step n) a0 a1 s r t) ∨ ((200 : Nat) = 73 ∧ T_X10_step_73 (It_X10_step n) a0 a1 s r t) ∨ ((200 : Nat) = 108 ∧ T_X10_step_108 (It_X10_step n) a0 a1 a2 s r t) ∨ ((200 : Nat) = 133 ∧ T_X10_step_133 (It_X10_step n) a0 a1 s r t) ∨ ((200 : Nat) = 134 ∧ T_X10_step_134 (It_X10_step n) a0 a1 a2 s r t) ∨ ((200 : Nat) = 157 ∧ T_X10_step_157 (It_X10_step n) a0 a1 a2 s r t) ∨ ((200 : Nat) = 158 ∧ T_X10_step_158 (It_X10_step n) a0 a1 a2 a3 s r t) ∨ ((200 : Nat) = 200 ∧ T_X10_step_200 (It_X10_step n) a0 a1 a2 a3 s r t) ∨ ((200 : Nat) = 213 ∧ T_X10_step_213 (It_X10_step n) a0 a1 a2 a3 s r t) := h
  rcases h2 with ⟨e, h2⟩ | ⟨e, h2⟩ | ⟨e, h2⟩ | ⟨e, h2⟩ | ⟨e, h2⟩ | ⟨e, h2⟩ | ⟨e, h2⟩ | ⟨e, h2⟩ | ⟨e, h2⟩ | ⟨e, h2⟩ | ⟨e, h2⟩
  · exact absurd e (by decide)
  · exact absurd e (by decide)
  · exact absurd e (by decide)
  · exact absurd e (by decide)
  · exact absurd e (by decide)
  · exact absurd e (by decide)
  · exact absurd e (by decide)
  · exact absurd e (by decide)
  · exact absurd e (by decide)
  · exact h2
  · exact absurd e (by decide)
theorem ul_X10_step_213 {n : Nat} {a0 a1 a2 a3 : Int} {s t : PS} {r : Int} (h : It_X10_step (n + 1) 213 a0 a1 a2 a3 s r t) : T_X10_step_213 (It_X10_step n) a0 a1 a2 a3 s r t := by
  have h2 : ((213 : Nat) = 15 ∧ T_X10_step_15 (It_X10_step n) a0 s r t) ∨ ((213 : Nat) = 21 ∧ T_X10_step_21 (It_X10_step n) a0 a1 s r t) ∨ ((213 : Nat) = 60 ∧ T_X10_step_60 (It_X10_step n) a0 a1 s r t) ∨ ((213 : Nat) = 73 ∧ T_X10_step_73 (It_X10_step n) a0 a1 s r t) ∨ ((213 : Nat) = 108 ∧ T_X10_step_108 (It_X10_step n) a0 a1 a2 s r t) ∨ ((213 : Nat) = 133 ∧ T_X10_step_133 (It_X10_step n) a0 a1 s r t) ∨ ((213 : Nat) = 134 ∧ T_X10_step_134 (It_X10_step n) a0 a1 a2 s r t) ∨ ((213 : Nat) = 157 ∧ T_X10_step_157 (It_X10_step n) a0 a1 a2 s r t) ∨ ((213 : Nat) = 158 ∧ T_X10_step_158 (It_X10_step n) a0 a1 a2 a3 s r t) ∨ ((213 : Nat) = 200 ∧ T_X10_step_200 (It_X10_step n) a0 a1 a2 a3 s r t) ∨ ((213 : Nat) = 213 ∧ T_X10_step_213 (It_X10_step n) a0 a1 a2 a3 s r t) := h
  rcases h2 with ⟨e, h2⟩ | ⟨e, h2⟩ | ⟨e, h2⟩ | ⟨e, h2⟩ | ⟨e, h2⟩ | ⟨e, h2⟩ | ⟨e, h2⟩ | ⟨e, h2⟩ | ⟨e, h2⟩ | ⟨e, h2⟩ | ⟨e, h2⟩
  · exact absurd e (by decide)
  · exact absurd e (by decide)
  · exact absurd e (by decide)
  · exact absurd e (by decide)
  · exact absurd e (by decide)
  · exact absurd e (by decide)
  · exact absurd e (by decide)
  · exact absurd e (by decide)
  · exact absurd e (by decide)
  · exact absurd e (by decide)
  · exact h2
def M_X10_step (s : PS) (r : Int) (t : PS) : Prop := ∃ n, T_X10_step_e (It_X10_step n) s r t
theorem mk_X10_step {n : Nat} {s t : PS} {r : Int} (h : T_X10_step_e (It_X10_step n) s r t) : M_X10_step s r t := ⟨n, h⟩
def T_X10_rewind_e (s_w : PS) (rr : Int) (ss : PS) : Prop := ((TyX s_w) ∧ (∃ s_w_1 : PS, s_w_1 = (us s_w 31 3 0) ∧ (∃ s_w_2 : PS, s_w_2 = (us s_w_1 31 4 256) ∧ (∃ s_w_3 : PS, ((M_X10_step s_w_2 0 s_w_3) ∧ ((Fr intsX [31] [(31, 3), (31, 4), (31, 5), (31, 6), (31, 7)] s_w_2 s_w_3) ∧ ((TyX s_w_3) ∧ (rr = 0 ∧ ss = s_w_3))))))))
def M_X10_rewind (s : PS) (r : Int) (t : PS) : Prop := T_X10_rewind_e s r t
theorem mk_X10_rewind {s t : PS} {r : Int} (h : T_X10_rewind_e s r t) : M_X10_rewind s r t := h
def T_X1_empty_at16_e (s_w : PS) (rr : Int) (ss : PS) : Prop := ((TyX s_w) ∧ (∃ s_w_1 : PS, s_w_1 = (us s_w 16 0 0) ∧ (∃ s_w_2 : PS, s_w_2 = (us s_w_1 16 5 0) ∧ (∃ s_w_3 : PS, s_w_3 = (us s_w_2 16 8 0) ∧ (∃ s_w_4 : PS, s_w_4 = (us s_w_3 16 9 1000) ∧ (∃ s_w_5 : PS, s_w_5 = (us s_w_4 16 17 0) ∧ (∃ s_w_6 : PS, s_w_6 = (us s_w_5 16 19 0) ∧ (rr = 0 ∧ ss = s_w_6))))))))
def M_X1_empty_at16 (s : PS) (r : Int) (t : PS) : Prop := T_X1_empty_at16_e s r t
theorem mk_X1_empty_at16 {s t : PS} {r : Int} (h : T_X1_empty_at16_e s r t) : M_X1_empty_at16 s r t := h
def T_X1_addOther_at16_e (s_w : PS) (p1 p2 p3 p4 : Int) (rr : Int) (ss : PS) : Prop := ((TyX s_w) ∧ ((6 ≤ p1 ∧ p1 ≤ 11) ∧ ((0 ≤ p2 ∧ p2 ≤ 1000) ∧ ((0 ≤ p3 ∧ p3 ≤ 1000) ∧ ((0 ≤ p4 ∧ p4 ≤ 1000) ∧ ((¬ (24 ≤ (s_w 16 8))) ∧ (∃ s_w_2 : PS, s_w_2 = (us s_w 23 (s_w 16 8).toNat p1) ∧ (∃ s_w_3 : PS, s_w_3 = (us s_w_2 24 (s_w 16 8).toNat p2) ∧ (∃ s_w_4 : PS, s_w_4 = (us s_w_3 25 (s_w 16 8).toNat p3) ∧ (∃ s_w_5 : PS, s_w_5 = (us s_w_4 26 (s_w 16 8).toNat p4) ∧ (∃ s_w_6 : PS, s_w_6 = (us s_w_5 27 (s_w 16 8).toNat (s_w 16 17)) ∧ (∃ s_w_7 : PS, s_w_7 = (us s_w_6 16 8 ((s_w 16 8) + 1)) ∧ (rr = 0 ∧ ss = s_w_7)))))))))))))
def M_X1_addOther_at16 (s : PS) (p1 p2 p3 p4 : Int) (r : Int) (t : PS) : Prop := T_X1_addOther_at16_e s p1 p2 p3 p4 r t
theorem mk_X1_addOther_at16 {s t : PS} {p1 p2 p3 p4 : Int} {r : Int} (h : T_X1_addOther_at16_e s p1 p2 p3 p4 r t) : M_X1_addOther_at16 s p1 p2 p3 p4 r t := h
def T_X8_fails_e (s_w : PS) (p1 : Int) (rr : Int) (ss : PS) : Prop := ((TyX s_w) ∧ ((1 ≤ p1 ∧ p1 ≤ 5) ∧ (∃ s_w_1 : PS, s_w_1 = (us s_w 34 2 p1) ∧ (∃ s_w_2 : PS, s_w_2 = (us s_w_1 34 3 (s_w 31 5)) ∧ (rr = 0 ∧ ss = s_w_2)))))
def M_X8_fails (s : PS) (p1 : Int) (r : Int) (t : PS) : Prop := T_X8_fails_e s p1 r t
theorem mk_X8_fails {s t : PS} {p1 : Int} {r : Int} (h : T_X8_fails_e s p1 r t) : M_X8_fails s p1 r t := h
def T_X8_passes_e (s_w : PS) (p1 : Int) (rr : Int) (ss : PS) : Prop := ((TyX s_w) ∧ ((41 ≤ p1 ∧ p1 ≤ 271) ∧ (((s_w 31 4) = p1 ∧ (∃ s_w_2 : PS, ((M_X10_step s_w 0 s_w_2) ∧ ((Fr intsX [31] [(31, 3), (31, 4), (31, 5), (31, 6), (31, 7)] s_w s_w_2) ∧ ((TyX s_w_2) ∧ (rr = 1 ∧ ss = s_w_2)))))) ∨ (¬ ((s_w 31 4) = p1) ∧ (∃ r_6 : Int, (∃ s_w_5 : PS, ((M_X8_fails s_w 1 r_6 s_w_5) ∧ ((Fr intsX [34] [(34, 2), (34, 3)] s_w s_w_5) ∧ ((TyX s_w_5) ∧ ((0 ≤ r_6 ∧ r_6 ≤ 0) ∧ (rr = 0 ∧ ss = s_w_5)))))))))))
def M_X8_passes (s : PS) (p1 : Int) (r : Int) (t : PS) : Prop := T_X8_passes_e s p1 r t
theorem mk_X8_passes {s t : PS} {p1 : Int} {r : Int} (h : T_X8_passes_e s p1 r t) : M_X8_passes s p1 r t := h
def T_X1_addCode_at16_e (s_w : PS) (p1 p2 : Int) (rr : Int) (ss : PS) : Prop := ((TyX s_w) ∧ (((-1) ≤ p1 ∧ p1 ≤ 15) ∧ ((1000 ≤ (s_w 16 17) ∧ (rr = 0 ∧ ss = s_w)) ∨ (¬ (1000 ≤ (s_w 16 17)) ∧ (∃ s_w_4 : PS, s_w_4 = (us s_w 29 (s_w 16 17).toNat (iOr (iShl p2 4) p1)) ∧ (∃ s_w_5 : PS, s_w_5 = (us s_w_4 16 17 ((s_w 16 17) + 1)) ∧ (rr = 0 ∧ ss = s_w_5)))))))
def M_X1_addCode_at16 (s : PS) (p1 p2 : Int) (r : Int) (t : PS) : Prop := T_X1_addCode_at16_e s p1 p2 r t
theorem mk_X1_addCode_at16 {s t : PS} {p1 p2 : Int} {r : Int} (h : T_X1_addCode_at16_e s p1 p2 r t) : M_X1_addCode_at16 s p1 p2 r t := h
def T_X8_comparison_e (s_w : PS) (p0 : Int) (rr : Int) (ss : PS) : Prop := ((TyX s_w) ∧ ((p0 = 60 ∧ (rr = 10 ∧ ss = s_w)) ∨ (¬ (p0 = 60) ∧ ((p0 = 62 ∧ (rr = 11 ∧ ss = s_w)) ∨ (¬ (p0 = 62) ∧ ((p0 = 61 ∧ (rr = 12 ∧ ss = s_w)) ∨ (¬ (p0 = 61) ∧ (rr = (-1) ∧ ss = s_w))))))))
def M_X8_comparison (s : PS) (p0 : Int) (r : Int) (t : PS) : Prop := T_X8_comparison_e s p0 r t
theorem mk_X8_comparison {s t : PS} {p0 : Int} {r : Int} (h : T_X8_comparison_e s p0 r t) : M_X8_comparison s p0 r t := h
def T_X8_opens_e (s_w : PS) (rr : Int) (ss : PS) : Prop := ((TyX s_w) ∧ (((s_w 34 4) < 8 ∧ (∃ s_w_2 : PS, s_w_2 = (us s_w 34 4 ((s_w 34 4) + 1)) ∧ (∃ s_w_3 : PS, ((M_X10_step s_w_2 0 s_w_3) ∧ ((Fr intsX [31] [(31, 3), (31, 4), (31, 5), (31, 6), (31, 7)] s_w_2 s_w_3) ∧ ((TyX s_w_3) ∧ (rr = 1 ∧ ss = s_w_3))))))) ∨ (¬ ((s_w 34 4) < 8) ∧ (∃ r_7 : Int, (∃ s_w_6 : PS, ((M_X8_fails s_w 5 r_7 s_w_6) ∧ ((Fr intsX [34] [(34, 2), (34, 3)] s_w s_w_6) ∧ ((TyX s_w_6) ∧ ((0 ≤ r_7 ∧ r_7 ≤ 0) ∧ (rr = 0 ∧ ss = s_w_6))))))))))
def M_X8_opens (s : PS) (r : Int) (t : PS) : Prop := T_X8_opens_e s r t
theorem mk_X8_opens {s t : PS} {r : Int} (h : T_X8_opens_e s r t) : M_X8_opens s r t := h
def T_X8_passesComparison_e (s_w : PS) (p1 : Int) (rr : Int) (ss : PS) : Prop := ((TyX s_w) ∧ (((-1) ≤ p1 ∧ p1 ≤ 12) ∧ ((p1 = (-1) ∧ (∃ r_6 : Int, (∃ s_w_5 : PS, ((M_X8_fails s_w 1 r_6 s_w_5) ∧ ((Fr intsX [34] [(34, 2), (34, 3)] s_w s_w_5) ∧ ((TyX s_w_5) ∧ ((0 ≤ r_6 ∧ r_6 ≤ 0) ∧ (rr = 0 ∧ ss = s_w_5)))))))) ∨ (¬ (p1 = (-1)) ∧ (∃ s_w_2 : PS, ((M_X10_step s_w 0 s_w_2) ∧ ((Fr intsX [31] [(31, 3), (31, 4), (31, 5), (31, 6), (31, 7)] s_w s_w_2) ∧ ((TyX s_w_2) ∧ (rr = 1 ∧ ss = s_w_2)))))))))
def M_X8_passesComparison (s : PS) (p1 : Int) (r : Int) (t : PS) : Prop := T_X8_passesComparison_e s p1 r t
theorem mk_X8_passesComparison {s t : PS} {p1 : Int} {r : Int} (h : T_X8_passesComparison_e s p1 r t) : M_X8_passesComparison s p1 r t := h
def T_X1_addAsked_at16_e (s_w : PS) (p1 : Int) (rr : Int) (ss : PS) : Prop := ((TyX s_w) ∧ ((200 ≤ (s_w 16 19) ∧ (rr = 0 ∧ ss = s_w)) ∨ (¬ (200 ≤ (s_w 16 19)) ∧ (∃ s_w_2 : PS, s_w_2 = (us s_w 30 (s_w 16 19).toNat p1) ∧ (∃ s_w_3 : PS, ((M_X1_addCode_at16 s_w_2 4 (s_w 16 19) 0 s_w_3) ∧ ((Fr intsX [16, 29] [(16, 17)] s_w_2 s_w_3) ∧ ((TyX s_w_3) ∧ (∃ s_w_7 : PS, s_w_7 = (us s_w_3 16 19 ((s_w 16 19) + 1)) ∧ (rr = 0 ∧ ss = s_w_7))))))))))
def M_X1_addAsked_at16 (s : PS) (p1 : Int) (r : Int) (t : PS) : Prop := T_X1_addAsked_at16_e s p1 r t
theorem mk_X1_addAsked_at16 {s t : PS} {p1 : Int} {r : Int} (h : T_X1_addAsked_at16_e s p1 r t) : M_X1_addAsked_at16 s p1 r t := h
