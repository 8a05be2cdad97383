def T_X11_queue_e (s_w : PS) (p1 p2 p3 : Int) (rr : Int) (ss : PS) : Prop := ((TyX s_w) ∧ (((s_w 88 0) = 0 ∧ (rr = (-1) ∧ ss = s_w)) ∨ (¬ ((s_w 88 0) = 0) ∧ (∃ r_3 : Int, (∃ s_w_2 : PS, ((M_X11_isDay s_w p1 r_3 s_w_2) ∧ ((Fr intsX [] [] s_w s_w_2) ∧ ((TyX s_w_2) ∧ ((0 ≤ r_3 ∧ r_3 ≤ 1) ∧ ((r_3 = 0 ∧ (rr = (-1) ∧ ss = s_w_2)) ∨ (¬ (r_3 = 0) ∧ (∃ r_8 : Int, (∃ s_w_7 : PS, ((M_X11_within s_w_2 p2 1 9 r_8 s_w_7) ∧ ((Fr intsX [] [] s_w_2 s_w_7) ∧ ((TyX s_w_7) ∧ ((0 ≤ r_8 ∧ r_8 ≤ 1) ∧ ((r_8 = 0 ∧ (rr = (-1) ∧ ss = s_w_7)) ∨ (¬ (r_8 = 0) ∧ (∃ r_14 : Int, (∃ s_w_13 : PS, ((M_X11_within s_w_7 p3 0 2 r_14 s_w_13) ∧ ((Fr intsX [] [] s_w_7 s_w_13) ∧ ((TyX s_w_13) ∧ ((0 ≤ r_14 ∧ r_14 ≤ 1) ∧ ((r_14 = 0 ∧ (rr = (-1) ∧ ss = s_w_13)) ∨ (¬ (r_14 = 0) ∧ (∃ s_w_19 : PS, ((M_X0_formLine_88 s_w_13 p1 0 s_w_19) ∧ ((Fr intsX [102, 105, 106] [(102, 3)] s_w_13 s_w_19) ∧ ((TyX s_w_19) ∧ ((p3 = 0 ∧ (rr = (s_w_19 102 3) ∧ ss = s_w_19)) ∨ (¬ (p3 = 0) ∧ (∃ s_w_23 : PS, ((M_X0_serveLine s_w_19 p2 0 s_w_23) ∧ ((Fr intsX [102, 107] [(102, 7), (102, 8)] s_w_19 s_w_23) ∧ ((TyX s_w_23) ∧ ((p3 = 1 ∧ (rr = (s_w_23 102 7) ∧ ss = s_w_23)) ∨ (¬ (p3 = 1) ∧ (rr = (s_w_23 102 8) ∧ ss = s_w_23))))))))))))))))))))))))))))))))))))))))
def M_X11_queue (s : PS) (p1 p2 p3 : Int) (r : Int) (t : PS) : Prop := T_X11_queue_e s p1 p2 p3 r t
theorem mk_X11_queue {s t : PS} {p1 p2 p3 : Int} {r : Int} (h : T_X11_queue_e s p1 p2 p3 r t) : M_X11_queue s p1 p2 p3 r t := h
def T_X0_put_e (s_w : PS) (p1 : Int) (rr : Int) (ss : PS) : Prop := ((TyX s_w) ∧ (((-1) ≤ p1 ∧ p1 ≤ 127) ∧ ((100 ≤ (s_w 102 10) ∧ (rr = 0 ∧ ss = s_w)) ∨ (¬ (100 ≤ (s_w 102 10)) ∧ (∃ s_w_2 : PS, s_w_2 = (us s_w 108 (s_w 102 10).toNat p1) ∧ (∃ s_w_3 : PS, s_w_3 = (us s_w_2 102 10 ((s_w 102 10) + 1)) ∧ (rr = 0 ∧ ss = s_w_3)))))))
def M_X0_put (s : PS) (p1 : Int) (r : Int) (t : PS) : Prop := T_X0_put_e s p1 r t
theorem mk_X0_put {s t : PS} {p1 : Int} {r : Int} (h : T_X0_put_e s p1 r t) : M_X0_put s p1 r t := h
def T_X0_write_1_7 (K : Nat → Int → Int → Int → PS → Int → PS → Prop) (x7_1 x7_3 : Int) (s_w7 : PS) (rr : Int) (ss : PS) : Prop := ((TyX s_w7) ∧ ((0 ≤ x7_3 ∧ x7_3 ≤ 10) ∧ (((s_w7 1 0) ≤ x7_3 ∧ (∃ s_w_15 : PS, ((M_X0_put s_w7 46 0 s_w_15) ∧ ((Fr intsX [102, 108] [(102, 10)] s_w7 s_w_15) ∧ ((TyX s_w_15) ∧ (rr = (s_w_15 102 10) ∧ ss = s_w_15)))))) ∨ (¬ ((s_w7 1 0) ≤ x7_3) ∧ (((iAnd (iShr x7_1 x7_3) 1) = 0 ∧ (K 88 x7_1 x7_3 0 s_w7 rr ss)) ∨ (¬ ((iAnd (iShr x7_1 x7_3) 1) = 0) ∧ (((s_w7 102 10) ≤ 0 ∧ (K 42 x7_1 x7_3 0 s_w7 rr ss)) ∨ (¬ ((s_w7 102 10) ≤ 0) ∧ (∃ s_w_22 : PS, ((M_X0_put s_w7 44 0 s_w_22) ∧ ((Fr intsX [102, 108] [(102, 10)] s_w7 s_w_22) ∧ ((TyX s_w_22) ∧ (∃ s_w_26 : PS, ((M_X0_put s_w_22 32 0 s_w_26) ∧ ((Fr intsX [102, 108] [(102, 10)] s_w_22 s_w_26) ∧ ((TyX s_w_26) ∧ (K 42 x7_1 x7_3 0 s_w_26 rr ss)))))))))))))))))
def T_X0_write_1_42 (K : Nat → Int → Int → Int → PS → Int → PS → Prop) (x42_1 x42_3 : Int) (s_w42 : PS) (rr : Int) (ss : PS) : Prop := ((TyX s_w42) ∧ ((0 ≤ x42_3 ∧ x42_3 ≤ 9) ∧ (K 45 x42_1 x42_3 0 s_w42 rr ss)))
def T_X0_write_1_45 (K : Nat → Int → Int → Int → PS → Int → PS → Prop) (x45_1 x45_3 x45_4 : Int) (s_w45 : PS) (rr : Int) (ss : PS) : Prop := ((TyX s_w45) ∧ ((0 ≤ x45_3 ∧ x45_3 ≤ 9) ∧ ((0 ≤ x45_4 ∧ x45_4 ≤ 8) ∧ ((8 ≤ x45_4 ∧ (K 88 x45_1 x45_3 0 s_w45 rr ss)) ∨ (¬ (8 ≤ x45_4) ∧ (∃ r_4 : Int, (∃ s_w_3 : PS, ((M_X11_letterOf s_w45 (s_w45 2 x45_3.toNat) x45_4 r_4 s_w_3) ∧ ((Fr intsX [] [] s_w45 s_w_3) ∧ ((TyX s_w_3) ∧ (((-1) ≤ r_4 ∧ r_4 ≤ 127) ∧ ((r_4 = (-1) ∧ (K 88 x45_1 x45_3 0 s_w_3 rr ss)) ∨ (¬ (r_4 = (-1)) ∧ (∃ r_8 : Int, (∃ s_w_7 : PS, ((M_X11_letterOf s_w_3 (s_w45 2 x45_3.toNat) x45_4 r_8 s_w_7) ∧ ((Fr intsX [] [] s_w_3 s_w_7) ∧ ((TyX s_w_7) ∧ (((-1) ≤ r_8 ∧ r_8 ≤ 127) ∧ (∃ s_w_10 : PS, ((M_X0_put s_w_7 r_8 0 s_w_10) ∧ ((Fr intsX [102, 108] [(102, 10)] s_w_7 s_w_10) ∧ ((TyX s_w_10) ∧ (K 45 x45_1 x45_3 (x45_4 + 1) s_w_10 rr ss))))))))))))))))))))))))
def T_X0_write_1_88 (K : Nat → Int → Int → Int → PS → Int → PS → Prop) (x88_1 x88_3 : Int) (s_w88 : PS) (rr : Int) (ss : PS) : Prop := ((TyX s_w88) ∧ ((0 ≤ x88_3 ∧ x88_3 ≤ 9) ∧ (K 7 x88_1 (x88_3 + 1) 0 s_w88 rr ss)))
def T_X0_write_1_e (K : Nat → Int → Int → Int → PS → Int → PS → Prop) (s_w : PS) (p1 : Int) (rr : Int) (ss : PS) : Prop := ((TyX s_w) ∧ (∃ s_w_30 : PS, s_w_30 = (us s_w 102 10 0) ∧ (K 7 p1 0 0 s_w_30 rr ss)))
def It_X0_write_1 : Nat → Nat → Int → Int → Int → PS → Int → PS → Prop
  | 0, _, _, _, _, _, _, _ => False
  | n + 1, pc, a0, a1, a2, s, r, t => (pc = 7 ∧ T_X0_write_1_7 (It_X0_write_1 n) a0 a1 s r t) ∨ (pc = 42 ∧ T_X0_write_1_42 (It_X0_write_1 n) a0 a1 s r t) ∨ (pc = 45 ∧ T_X0_write_1_45 (It_X0_write_1 n) a0 a1 a2 s r t) ∨ (pc = 88 ∧ T_X0_write_1_88 (It_X0_write_1 n) a0 a1 s r t)
theorem rl_X0_write_1_7 {n : Nat} {a0 a1 : Int} {s t : PS} {r : Int} (h : T_X0_write_1_7 (It_X0_write_1 n) a0 a1 s r t) : It_X0_write_1 (n + 1) 7 a0 a1 0 s r t := Or.inl ⟨rfl, h⟩
theorem rl_X0_write_1_42 {n : Nat} {a0 a1 : Int} {s t : PS} {r : Int} (h : T_X0_write_1_42 (It_X0_write_1 n) a0 a1 s r t) : It_X0_write_1 (n + 1) 42 a0 a1 0 s r t := Or.inr (Or.inl ⟨rfl, h⟩)
theorem rl_X0_write_1_45 {n : Nat} {a0 a1 a2 : Int} {s t : PS} {r : Int} (h : T_X0_write_1_45 (It_X0_write_1 n) a0 a1 a2 s r t) : It_X0_write_1 (n + 1) 45 a0 a1 a2 s r t := Or.inr (Or.inr (Or.inl ⟨rfl, h⟩))
theorem rl_X0_write_1_88 {n : Nat} {a0 a1 : Int} {s t : PS} {r : Int} (h : T_X0_write_1_88 (It_X0_write_1 n) a0 a1 s r t) : It_X0_write_1 (n + 1) 88 a0 a1 0 s r t := Or.inr (Or.inr (Or.inr (⟨rfl, h⟩)))
theorem ul_X0_write_1_7 {n : Nat} {a0 a1 a2 : Int} {s t : PS} {r : Int} (h : It_X0_write_1 (n + 1) 7 a0 a1 a2 s r t) : T_X0_write_1_7 (It_X0_write_1 n) a0 a1 s r t := by
  have h2 : ((7 : Nat) = 7 ∧ T_X0_write_1_7 (It_X0_write_1 n) a0 a1 s r t) ∨ ((7 : Nat) = 42 ∧ T_X0_write_1_42 (It_X0_write_1 n) a0 a1 s r t) ∨ ((7 : Nat) = 45 ∧ T_X0_write_1_45 (It_X0_write_1 n) a0 a1 a2 s r t) ∨ ((7 : Nat) = 88 ∧ T_X0_write_1_88 (It_X0_write_1 n) a0 a1 s r t) := h
  rcases h2 with ⟨e, h2⟩ | ⟨e, h2⟩ | ⟨e, h2⟩ | ⟨e, h2⟩
  · exact h2
  · exact absurd e (by decide)
  · exact absurd e (by decide)
  · exact absurd e (by decide)
theorem ul_X0_write_1_42 {n : Nat} {a0 a1 a2 : Int} {s t : PS} {r : Int} (h : It_X0_write_1 (n + 1) 42 a0 a1 a2 s r t) : T_X0_write_1_42 (It_X0_write_1 n) a0 a1 s r t := by
  have h2 : ((42 : Nat) = 7 ∧ T_X0_write_1_7 (It_X0_write_1 n) a0 a1 s r t) ∨ ((42 : Nat) = 42 ∧ T_X0_write_1_42 (It_X0_write_1 n) a0 a1 s r t) ∨ ((42 : Nat) = 45 ∧ T_X0_write_1_45 (It_X0_write_1 n) a0 a1 a2 s r t) ∨ ((42 : Nat) = 88 ∧ T_X0_write_1_88 (It_X0_write_1 n) a0 a1 s r t) := h
  rcases h2 with ⟨e, h2⟩ | ⟨e, h2⟩ | ⟨e, h2⟩ | ⟨e, h2⟩
  · exact absurd e (by decide)
  · exact h2
  · exact absurd e (by decide)
  · exact absurd e (by decide)
theorem ul_X0_write_1_45 {n : Nat} {a0 a1 a2 : Int} {s t : PS} {r : Int} (h : It_X0_write_1 (n + 1) 45 a0 a1 a2 s r t) : T_X0_write_1_45 (It_X0_write_1 n) a0 a1 a2 s r t := by
  have h2 : ((45 : Nat) = 7 ∧ T_X0_write_1_7 (It_X0_write_1 n) a0 a1 s r t) ∨ ((45 : Nat) = 42 ∧ T_X0_write_1_42 (It_X0_write_1 n) a0 a1 s r t) ∨ ((45 : Nat) = 45 ∧ T_X0_write_1_45 (It_X0_write_1 n) a0 a1 a2 s r t) ∨ ((45 : Nat) = 88 ∧ T_X0_write_1_88 (It_X0_write_1 n) a0 a1 s r t) := h
  rcases h2 with ⟨e, h2⟩ | ⟨e, h2⟩ | ⟨e, h2⟩ | ⟨e, h2⟩
  · exact absurd e (by decide)
  · exact absurd e (by decide)
  · exact h2
  · exact absurd e (by decide)
theorem ul_X0_write_1_88 {n : Nat} {a0 a1 a2 : Int} {s t : PS} {r : Int} (h : It_X0_write_1 (n + 1) 88 a0 a1 a2 s r t) : T_X0_write_1_88 (It_X0_write_1 n) a0 a1 s r t := by
  have h2 : ((88 : Nat) = 7 ∧ T_X0_write_1_7 (It_X0_write_1 n) a0 a1 s r t) ∨ ((88 : Nat) = 42 ∧ T_X0_write_1_42 (It_X0_write_1 n) a0 a1 s r t) ∨ ((88 : Nat) = 45 ∧ T_X0_write_1_45 (It_X0_write_1 n) a0 a1 a2 s r t) ∨ ((88 : Nat) = 88 ∧ T_X0_write_1_88 (It_X0_write_1 n) a0 a1 s r t) := h
  rcases h2 with ⟨e, h2⟩ | ⟨e, h2⟩ | ⟨e, h2⟩ | ⟨e, h2⟩
  · exact absurd e (by decide)
  · exact absurd e (by decide)
  · exact absurd e (by decide)
  · exact h2
def M_X0_write_1 (s : PS) (p1 : Int) (r : Int) (t : PS) : Prop := ∃ n, T_X0_write_1_e (It_X0_write_1 n) s p1 r t
theorem mk_X0_write_1 {n : Nat} {s t : PS} {p1 : Int} {r : Int} (h : T_X0_write_1_e (It_X0_write_1 n) s p1 r t) : M_X0_write_1 s p1 r t := ⟨n, h⟩
def T_X11_label_e (s_w : PS) (p1 : Int) (rr : Int) (ss : PS) : Prop := ((TyX s_w) ∧ (∃ r_2 : Int, (∃ s_w_1 : PS, ((M_X4_isChild s_w p1 r_2 s_w_1) ∧ ((Fr intsX [] [] s_w s_w_1) ∧ ((TyX s_w_1) ∧ ((0 ≤ r_2 ∧ r_2 ≤ 1) ∧ ((r_2 = 0 ∧ (rr = (-1) ∧ ss = s_w_1)) ∨ (¬ (r_2 = 0) ∧ (((s_w 95 p1.toNat) = 0 ∧ (rr = (-1) ∧ ss = s_w_1)) ∨ (¬ ((s_w 95 p1.toNat) = 0) ∧ (∃ r_9 : Int, (∃ s_w_8 : PS, ((M_X0_write_1 s_w_1 (s_w 95 p1.toNat) r_9 s_w_8) ∧ ((Fr intsX [102, 108] [(102, 10)] s_w_1 s_w_8) ∧ ((TyX s_w_8) ∧ ((1 ≤ r_9 ∧ r_9 ≤ 100) ∧ (rr = r_9 ∧ ss = s_w_8))))))))))))))))))
def M_X11_label (s : PS) (p1 : Int) (r : Int) (t : PS) : Prop := T_X11_label_e s p1 r t
theorem mk_X11_label {s t : PS} {p1 : Int} {r : Int} (h : T_X11_label_e s p1 r t) : M_X11_label s p1 r t := h
def T_X11_at_e (s_w : PS) (p1 : Int) (rr : Int) (ss : PS) : Prop := ((TyX s_w) ∧ ((p1 < 0 ∧ (rr = (-1) ∧ ss = s_w)) ∨ (¬ (p1 < 0) ∧ (((s_w 102 10) ≤ p1 ∧ (rr = (-1) ∧ ss = s_w)) ∨ (¬ ((s_w 102 10) ≤ p1) ∧ (rr = (s_w 108 p1.toNat) ∧ ss = s_w))))))
def M_X11_at (s : PS) (p1 : Int) (r : Int) (t : PS) : Prop := T_X11_at_e s p1 r t
theorem mk_X11_at {s t : PS} {p1 : Int} {r : Int} (h : T_X11_at_e s p1 r t) : M_X11_at s p1 r t := h
