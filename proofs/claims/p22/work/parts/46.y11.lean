def T_X12_lane_e (s_w : PS) (p1 p2 p3 p4 : Int) (rr : Int) (ss : PS) : Prop := ((TyM s_w) ∧ ((0 ≤ p1 ∧ p1 ≤ 282) ∧ ((1 ≤ p2 ∧ p2 ≤ 282) ∧ (∃ s_w_1 : PS, s_w_1 = (us s_w 38 (s_w 0 62).toNat p1) ∧ (∃ s_w_2 : PS, s_w_2 = (us s_w_1 39 (s_w 0 62).toNat p2) ∧ (∃ s_w_3 : PS, s_w_3 = (us s_w_2 40 (s_w 0 62).toNat p3) ∧ (∃ s_w_4 : PS, s_w_4 = (us s_w_3 41 (s_w 0 62).toNat p4) ∧ (∃ s_w_5 : PS, s_w_5 = (us s_w_4 38 ((s_w 0 62) + 1).toNat p2) ∧ (∃ s_w_6 : PS, s_w_6 = (us s_w_5 39 ((s_w 0 62) + 1).toNat p1) ∧ (∃ s_w_7 : PS, s_w_7 = (us s_w_6 40 ((s_w 0 62) + 1).toNat 0) ∧ (∃ s_w_9 : PS, s_w_9 = (us s_w_7 41 ((s_w 0 62) + 1).toNat (wl (-p4))) ∧ (∃ s_w_10 : PS, s_w_10 = (us s_w_9 0 62 ((s_w 0 62) + 2)) ∧ (rr = (((s_w 0 62) + 2) - 2) ∧ ss = s_w_10)))))))))))))
def M_X12_lane (s : PS) (p1 p2 p3 p4 : Int) (r : Int) (t : PS) : Prop := T_X12_lane_e s p1 p2 p3 p4 r t
theorem mk_X12_lane {s t : PS} {p1 p2 p3 p4 : Int} {r : Int} (h : T_X12_lane_e s p1 p2 p3 p4 r t) : M_X12_lane s p1 p2 p3 p4 r t := h
def T_X12_finds_2 (K : Nat → Int → Int → Int → Int → PS → Int → PS → Prop) (x2_1 x2_2 x2_3 : Int) (s_w2 : PS) (rr : Int) (ss : PS) : Prop := ((TyM s_w2) ∧ ((0 ≤ x2_1 ∧ x2_1 ≤ 289) ∧ ((0 ≤ x2_2 ∧ x2_2 ≤ 289) ∧ ((0 ≤ x2_3 ∧ x2_3 ≤ 290) ∧ ((290 ≤ x2_3 ∧ (∃ s_w_22 : PS, s_w_22 = (us s_w2 42 x2_1.toNat 0) ∧ (K 33 x2_1 x2_2 1 0 s_w_22 rr ss))) ∨ (¬ (290 ≤ x2_3) ∧ (∃ s_w_23 : PS, s_w_23 = (us s_w2 42 x2_3.toNat 1152921504606846976) ∧ (K 2 x2_1 x2_2 (x2_3 + 1) 0 s_w_23 rr ss))))))))
def T_X12_finds_33 (K : Nat → Int → Int → Int → Int → PS → Int → PS → Prop) (x33_1 x33_2 x33_3 : Int) (s_w33 : PS) (rr : Int) (ss : PS) : Prop := ((TyM s_w33) ∧ ((0 ≤ x33_1 ∧ x33_1 ≤ 289) ∧ ((0 ≤ x33_2 ∧ x33_2 ≤ 289) ∧ ((0 ≤ x33_3 ∧ x33_3 ≤ 1) ∧ ((x33_3 = 0 ∧ ((1152921504606846976 ≤ (s_w33 42 x33_2.toNat) ∧ (rr = 0 ∧ ss = s_w33)) ∨ (¬ (1152921504606846976 ≤ (s_w33 42 x33_2.toNat)) ∧ (rr = 1 ∧ ss = s_w33)))) ∨ (¬ (x33_3 = 0) ∧ (K 42 x33_1 x33_2 0 0 s_w33 rr ss)))))))
def T_X12_finds_42 (K : Nat → Int → Int → Int → Int → PS → Int → PS → Prop) (x42_1 x42_2 x42_3 x42_4 : Int) (s_w42 : PS) (rr : Int) (ss : PS) : Prop := ((TyM s_w42) ∧ ((0 ≤ x42_1 ∧ x42_1 ≤ 289) ∧ ((0 ≤ x42_2 ∧ x42_2 ≤ 289) ∧ ((0 ≤ x42_3 ∧ x42_3 ≤ 1) ∧ ((0 ≤ x42_4 ∧ x42_4 ≤ 2200) ∧ (((s_w42 0 62) ≤ x42_4 ∧ (K 33 x42_1 x42_2 x42_3 0 s_w42 rr ss)) ∨ (¬ ((s_w42 0 62) ≤ x42_4) ∧ (((s_w42 40 x42_4.toNat) = 0 ∧ (K 42 x42_1 x42_2 x42_3 (x42_4 + 1) s_w42 rr ss)) ∨ (¬ ((s_w42 40 x42_4.toNat) = 0) ∧ (((s_w42 42 (s_w42 38 x42_4.toNat).toNat) = 1152921504606846976 ∧ (K 42 x42_1 x42_2 x42_3 (x42_4 + 1) s_w42 rr ss)) ∨ (¬ ((s_w42 42 (s_w42 38 x42_4.toNat).toNat) = 1152921504606846976) ∧ (((wl ((s_w42 42 (s_w42 38 x42_4.toNat).toNat) + (s_w42 41 x42_4.toNat))) < (s_w42 42 (s_w42 39 x42_4.toNat).toNat) ∧ (∃ s_w_15 : PS, s_w_15 = (us s_w42 42 (s_w42 39 x42_4.toNat).toNat (wl ((s_w42 42 (s_w42 38 x42_4.toNat).toNat) + (s_w42 41 x42_4.toNat)))) ∧ (∃ s_w_16 : PS, s_w_16 = (us s_w_15 43 (s_w42 39 x42_4.toNat).toNat x42_4) ∧ (K 42 x42_1 x42_2 1 (x42_4 + 1) s_w_16 rr ss)))) ∨ (¬ ((wl ((s_w42 42 (s_w42 38 x42_4.toNat).toNat) + (s_w42 41 x42_4.toNat))) < (s_w42 42 (s_w42 39 x42_4.toNat).toNat)) ∧ (K 42 x42_1 x42_2 x42_3 (x42_4 + 1) s_w42 rr ss))))))))))))))
def T_X12_finds_e (K : Nat → Int → Int → Int → Int → PS → Int → PS → Prop) (s_w : PS) (p1 p2 : Int) (rr : Int) (ss : PS) : Prop := ((TyM s_w) ∧ ((0 ≤ p1 ∧ p1 ≤ 289) ∧ ((0 ≤ p2 ∧ p2 ≤ 289) ∧ (K 2 p1 p2 0 0 s_w rr ss))))
def It_X12_finds : Nat → Nat → Int → Int → Int → Int → PS → Int → PS → Prop
  | 0, _, _, _, _, _, _, _, _ => False
  | n + 1, pc, a0, a1, a2, a3, s, r, t => (pc = 2 ∧ T_X12_finds_2 (It_X12_finds n) a0 a1 a2 s r t) ∨ (pc = 33 ∧ T_X12_finds_33 (It_X12_finds n) a0 a1 a2 s r t) ∨ (pc = 42 ∧ T_X12_finds_42 (It_X12_finds n) a0 a1 a2 a3 s r t)
theorem rl_X12_finds_2 {n : Nat} {a0 a1 a2 : Int} {s t : PS} {r : Int} (h : T_X12_finds_2 (It_X12_finds n) a0 a1 a2 s r t) : It_X12_finds (n + 1) 2 a0 a1 a2 0 s r t := Or.inl ⟨rfl, h⟩
theorem rl_X12_finds_33 {n : Nat} {a0 a1 a2 : Int} {s t : PS} {r : Int} (h : T_X12_finds_33 (It_X12_finds n) a0 a1 a2 s r t) : It_X12_finds (n + 1) 33 a0 a1 a2 0 s r t := Or.inr (Or.inl ⟨rfl, h⟩)
theorem rl_X12_finds_42 {n : Nat} {a0 a1 a2 a3 : Int} {s t : PS} {r : Int} (h : T_X12_finds_42 (It_X12_finds n) a0 a1 a2 a3 s r t) : It_X12_finds (n + 1) 42 a0 a1 a2 a3 s r t := Or.inr (Or.inr (⟨rfl, h⟩))
theorem ul_X12_finds_2 {n : Nat} {a0 a1 a2 a3 : Int} {s t : PS} {r : Int} (h : It_X12_finds (n + 1) 2 a0 a1 a2 a3 s r t) : T_X12_finds_2 (It_X12_finds n) a0 a1 a2 s r t := by
  have h2 : ((2 : Nat) = 2 ∧ T_X12_finds_2 (It_X12_finds n) a0 a1 a2 s r t) ∨ ((2 : Nat) = 33 ∧ T_X12_finds_33 (It_X12_finds n) a0 a1 a2 s r t) ∨ ((2 : Nat) = 42 ∧ T_X12_finds_42 (It_X12_finds n) a0 a1 a2 a3 s r t) := h
  rcases h2 with ⟨e, h2⟩ | ⟨e, h2⟩ | ⟨e, h2⟩
  · exact h2
  · exact absurd e (by decide)
  · exact absurd e (by decide)
theorem ul_X12_finds_33 {n : Nat} {a0 a1 a2 a3 : Int} {s t : PS} {r : Int} (h : It_X12_finds (n + 1) 33 a0 a1 a2 a3 s r t) : T_X12_finds_33 (It_X12_finds n) a0 a1 a2 s r t := by
  have h2 : ((33 : Nat) = 2 ∧ T_X12_finds_2 (It_X12_finds n) a0 a1 a2 s r t) ∨ ((33 : Nat) = 33 ∧ T_X12_finds_33 (It_X12_finds n) a0 a1 a2 s r t) ∨ ((33 : Nat) = 42 ∧ T_X12_finds_42 (It_X12_finds n) a0 a1 a2 a3 s r t) := h
  rcases h2 with ⟨e, h2⟩ | ⟨e, h2⟩ | ⟨e, h2⟩
  · exact absurd e (by decide)
  · exact h2
  · exact absurd e (by decide)
theorem ul_X12_finds_42 {n : Nat} {a0 a1 a2 a3 : Int} {s t : PS} {r : Int} (h : It_X12_finds (n + 1) 42 a0 a1 a2 a3 s r t) : T_X12_finds_42 (It_X12_finds n) a0 a1 a2 a3 s r t := by
  have h2 : ((42 : Nat) = 2 ∧ T_X12_finds_2 (It_X12_finds n) a0 a1 a2 s r t) ∨ ((42 : Nat) = 33 ∧ T_X12_finds_33 (It_X12_finds n) a0 a1 a2 s r t) ∨ ((42 : Nat) = 42 ∧ T_X12_finds_42 (It_X12_finds n) a0 a1 a2 a3 s r t) := h
  rcases h2 with ⟨e, h2⟩ | ⟨e, h2⟩ | ⟨e, h2⟩
  · exact absurd e (by decide)
  · exact absurd e (by decide)
  · exact h2
def M_X12_finds (s : PS) (p1 p2 : Int) (r : Int) (t : PS) : Prop := ∃ n, T_X12_finds_e (It_X12_finds n) s p1 p2 r t
theorem mk_X12_finds {n : Nat} {s t : PS} {p1 p2 : Int} {r : Int} (h : T_X12_finds_e (It_X12_finds n) s p1 p2 r t) : M_X12_finds s p1 p2 r t := ⟨n, h⟩
def T_X12_goes_2 (K : Int → Int → Int → PS → Int → PS → Prop) (x2_1 x2_2 x2_3 : Int) (s_w2 : PS) (rr : Int) (ss : PS) : Prop := ((TyM s_w2) ∧ ((0 ≤ x2_1 ∧ x2_1 ≤ 289) ∧ ((0 ≤ x2_2 ∧ x2_2 ≤ 289) ∧ ((0 ≤ x2_3 ∧ x2_3 ≤ 289) ∧ ((x2_3 = x2_1 ∧ (rr = 0 ∧ ss = s_w2)) ∨ (¬ (x2_3 = x2_1) ∧ (∃ s_w_4 : PS, s_w_4 = (us s_w2 40 (s_w2 43 x2_3.toNat).toNat (wi ((s_w2 40 (s_w2 43 x2_3.toNat).toNat) - 1))) ∧ (∃ s_w_7 : PS, s_w_7 = (us s_w_4 40 (iXor (s_w2 43 x2_3.toNat) 1).toNat (wi ((s_w_4 40 (iXor (s_w2 43 x2_3.toNat) 1).toNat) + 1))) ∧ (K x2_1 x2_2 (s_w2 38 (s_w2 43 x2_3.toNat).toNat) s_w_7 rr ss)))))))))
def T_X12_goes_e (K : Int → Int → Int → PS → Int → PS → Prop) (s_w : PS) (p1 p2 : Int) (rr : Int) (ss : PS) : Prop := ((TyM s_w) ∧ ((0 ≤ p1 ∧ p1 ≤ 289) ∧ ((0 ≤ p2 ∧ p2 ≤ 289) ∧ (K p1 p2 p2 s_w rr ss))))
def It_X12_goes : Nat → Int → Int → Int → PS → Int → PS → Prop
  | 0, _, _, _, _, _, _ => False
  | n + 1, a0, a1, a2, s, r, t => T_X12_goes_2 (It_X12_goes n) a0 a1 a2 s r t
theorem rl_X12_goes_2 {n : Nat} {a0 a1 a2 : Int} {s t : PS} {r : Int} (h : T_X12_goes_2 (It_X12_goes n) a0 a1 a2 s r t) : It_X12_goes (n + 1) a0 a1 a2 s r t := h
theorem ul_X12_goes_2 {n : Nat} {a0 a1 a2 : Int} {s t : PS} {r : Int} (h : It_X12_goes (n + 1) a0 a1 a2 s r t) : T_X12_goes_2 (It_X12_goes n) a0 a1 a2 s r t := h
def M_X12_goes (s : PS) (p1 p2 : Int) (r : Int) (t : PS) : Prop := ∃ n, T_X12_goes_e (It_X12_goes n) s p1 p2 r t
theorem mk_X12_goes {n : Nat} {s t : PS} {p1 p2 : Int} {r : Int} (h : T_X12_goes_e (It_X12_goes n) s p1 p2 r t) : M_X12_goes s p1 p2 r t := ⟨n, h⟩
def T_X12_settles_0 (K : Nat → Int → Int → PS → Int → PS → Prop) (s_w0 : PS) (rr : Int) (ss : PS) : Prop := ((TyM s_w0) ∧ (∃ r_39 : Int, (∃ s_w_38 : PS, ((M_X12_finds s_w0 0 1 r_39 s_w_38) ∧ ((Fr intsM [42, 43] [] s_w0 s_w_38) ∧ ((TyM s_w_38) ∧ ((0 ≤ r_39 ∧ r_39 ≤ 1) ∧ ((r_39 = 0 ∧ (K 20 0 0 s_w_38 rr ss)) ∨ (¬ (r_39 = 0) ∧ (∃ s_w_45 : PS, ((M_X12_goes s_w_38 0 1 0 s_w_45) ∧ ((Fr intsM [40] [] s_w_38 s_w_45) ∧ ((TyM s_w_45) ∧ (K 0 0 0 s_w_45 rr ss))))))))))))))
def T_X12_settles_20 (K : Nat → Int → Int → PS → Int → PS → Prop) (x20_1 : Int) (s_w20 : PS) (rr : Int) (ss : PS) : Prop := ((TyM s_w20) ∧ ((0 ≤ x20_1 ∧ x20_1 ≤ 400) ∧ ((400 ≤ x20_1 ∧ (rr = 0 ∧ ss = s_w20)) ∨ (¬ (400 ≤ x20_1) ∧ (∃ s_w_10 : PS, s_w_10 = (us s_w20 45 x20_1.toNat 0) ∧ ((0 ≤ (s_w20 44 x20_1.toNat) ∧ (((s_w20 40 (s_w20 44 x20_1.toNat).toNat) ≤ 0 ∧ (K 137 x20_1 (s_w20 44 x20_1.toNat) s_w_10 rr ss)) ∨ (¬ ((s_w20 40 (s_w20 44 x20_1.toNat).toNat) ≤ 0) ∧ (∃ r_18 : Int, (∃ s_w_17 : PS, ((M_X12_finds s_w_10 (s_w20 39 (s_w20 44 x20_1.toNat).toNat) (s_w20 38 (s_w20 44 x20_1.toNat).toNat) r_18 s_w_17) ∧ ((Fr intsM [42, 43] [] s_w_10 s_w_17) ∧ ((TyM s_w_17) ∧ ((0 ≤ r_18 ∧ r_18 ≤ 1) ∧ ((r_18 = 0 ∧ (K 137 x20_1 (s_w20 44 x20_1.toNat) s_w_17 rr ss)) ∨ (¬ (r_18 = 0) ∧ (((wl ((s_w_17 42 (s_w20 38 (s_w20 44 x20_1.toNat).toNat).toNat) + (s_w20 41 (s_w20 44 x20_1.toNat).toNat))) = 0 ∧ (∃ s_w_29 : PS, ((M_X12_goes s_w_17 (s_w20 39 (s_w20 44 x20_1.toNat).toNat) (s_w20 38 (s_w20 44 x20_1.toNat).toNat) 0 s_w_29) ∧ ((Fr intsM [40] [] s_w_17 s_w_29) ∧ ((TyM s_w_29) ∧ (∃ s_w_35 : PS, s_w_35 = (us s_w_29 40 (s_w20 44 x20_1.toNat).toNat (wi ((s_w_29 40 (s_w20 44 x20_1.toNat).toNat) - 1))) ∧ (∃ s_w_37 : PS, s_w_37 = (us s_w_35 40 ((s_w20 44 x20_1.toNat) + 1).toNat (wi ((s_w_35 40 ((s_w20 44 x20_1.toNat) + 1).toNat) + 1))) ∧ (K 137 x20_1 (s_w20 44 x20_1.toNat) s_w_37 rr ss)))))))) ∨ (¬ ((wl ((s_w_17 42 (s_w20 38 (s_w20 44 x20_1.toNat).toNat).toNat) + (s_w20 41 (s_w20 44 x20_1.toNat).toNat))) = 0) ∧ (K 137 x20_1 (s_w20 44 x20_1.toNat) s_w_17 rr ss)))))))))))))) ∨ (¬ (0 ≤ (s_w20 44 x20_1.toNat)) ∧ (K 20 (x20_1 + 1) 0 s_w_10 rr ss))))))))
def T_X12_settles_137 (K : Nat → Int → Int → PS → Int → PS → Prop) (x137_1 x137_2 : Int) (s_w137 : PS) (rr : Int) (ss : PS) : Prop := ((TyM s_w137) ∧ ((0 ≤ x137_1 ∧ x137_1 ≤ 399) ∧ ((0 ≤ x137_2 ∧ x137_2 ≤ 2198) ∧ (((s_w137 40 x137_2.toNat) = 0 ∧ (∃ s_w_6 : PS, s_w_6 = (us s_w137 45 x137_1.toNat 1) ∧ (∃ s_w_7 : PS, s_w_7 = (us s_w_6 40 x137_2.toNat 0) ∧ (∃ s_w_8 : PS, s_w_8 = (us s_w_7 40 (x137_2 + 1).toNat 0) ∧ (K 20 (x137_1 + 1) 0 s_w_8 rr ss))))) ∨ (¬ ((s_w137 40 x137_2.toNat) = 0) ∧ (∃ s_w_3 : PS, s_w_3 = (us s_w137 45 x137_1.toNat 0) ∧ (∃ s_w_4 : PS, s_w_4 = (us s_w_3 40 x137_2.toNat 0) ∧ (∃ s_w_5 : PS, s_w_5 = (us s_w_4 40 (x137_2 + 1).toNat 0) ∧ (K 20 (x137_1 + 1) 0 s_w_5 rr ss)))))))))
def T_X12_settles_e (K : Nat → Int → Int → PS → Int → PS → Prop) (s_w : PS) (rr : Int) (ss : PS) : Prop := ((TyM s_w) ∧ (∃ r_51 : Int, (∃ s_w_50 : PS, ((M_X12_finds s_w 0 1 r_51 s_w_50) ∧ ((Fr intsM [42, 43] [] s_w s_w_50) ∧ ((TyM s_w_50) ∧ ((0 ≤ r_51 ∧ r_51 ≤ 1) ∧ ((r_51 = 0 ∧ (K 20 0 0 s_w_50 rr ss)) ∨ (¬ (r_51 = 0) ∧ (∃ s_w_57 : PS, ((M_X12_goes s_w_50 0 1 0 s_w_57) ∧ ((Fr intsM [40] [] s_w_50 s_w_57) ∧ ((TyM s_w_57) ∧ (K 0 0 0 s_w_57 rr ss))))))))))))))
def It_X12_settles : Nat → Nat → Int → Int → PS → Int → PS → Prop
  | 0, _, _, _, _, _, _ => False
  | n + 1, pc, a0, a1, s, r, t => (pc = 0 ∧ T_X12_settles_0 (It_X12_settles n) s r t) ∨ (pc = 20 ∧ T_X12_settles_20 (It_X12_settles n) a0 s r t) ∨ (pc = 137 ∧ T_X12_settles_137 (It_X12_settles n) a0 a1 s r t)
theorem rl_X12_settles_0 {n : Nat} {s t : PS} {r : Int} (h : T_X12_settles_0 (It_X12_settles n) s r t) : It_X12_settles (n + 1) 0 0 0 s r t := Or.inl ⟨rfl, h⟩
theorem rl_X12_settles_20 {n : Nat} {a0 : Int} {s t : PS} {r : Int} (h : T_X12_settles_20 (It_X12_settles n) a0 s r t) : It_X12_settles (n + 1) 20 a0 0 s r t := Or.inr (Or.inl ⟨rfl, h⟩)
theorem rl_X12_settles_137 {n : Nat} {a0 a1 : Int} {s t : PS} {r : Int} (h : T_X12_settles_137 (It_X12_settles n) a0 a1 s r t) : It_X12_settles (n + 1) 137 a0 a1 s r t := Or.inr (Or.inr (⟨rfl, h⟩))
theorem ul_X12_settles_0 {n : Nat} {a0 a1 : Int} {s t : PS} {r : Int} (h : It_X12_settles (n + 1) 0 a0 a1 s r t) : T_X12_settles_0 (It_X12_settles n) s r t := by
  have h2 : ((0 : Nat) = 0 ∧ T_X12_settles_0 (It_X12_settles n) s r t) ∨ ((0 : Nat) = 20 ∧ T_X12_settles_20 (It_X12_settles n) a0 s r t) ∨ ((0 : Nat) = 137 ∧ T_X12_settles_137 (It_X12_settles n) a0 a1 s r t) := h
  rcases h2 with ⟨e, h2⟩ | ⟨e, h2⟩ | ⟨e, h2⟩
  · exact h2
  · exact absurd e (by decide)
  · exact absurd e (by decide)
theorem ul_X12_settles_20 {n : Nat} {a0 a1 : Int} {s t : PS} {r : Int} (h : It_X12_settles (n + 1) 20 a0 a1 s r t) : T_X12_settles_20 (It_X12_settles n) a0 s r t := by
  have h2 : ((20 : Nat) = 0 ∧ T_X12_settles_0 (It_X12_settles n) s r t) ∨ ((20 : Nat) = 20 ∧ T_X12_settles_20 (It_X12_settles n) a0 s r t) ∨ ((20 : Nat) = 137 ∧ T_X12_settles_137 (It_X12_settles n) a0 a1 s r t) := h
  rcases h2 with ⟨e, h2⟩ | ⟨e, h2⟩ | ⟨e, h2⟩
  · exact absurd e (by decide)
  · exact h2
  · exact absurd e (by decide)
theorem ul_X12_settles_137 {n : Nat} {a0 a1 : Int} {s t : PS} {r : Int} (h : It_X12_settles (n + 1) 137 a0 a1 s r t) : T_X12_settles_137 (It_X12_settles n) a0 a1 s r t := by
  have h2 : ((137 : Nat) = 0 ∧ T_X12_settles_0 (It_X12_settles n) s r t) ∨ ((137 : Nat) = 20 ∧ T_X12_settles_20 (It_X12_settles n) a0 s r t) ∨ ((137 : Nat) = 137 ∧ T_X12_settles_137 (It_X12_settles n) a0 a1 s r t) := h
  rcases h2 with ⟨e, h2⟩ | ⟨e, h2⟩ | ⟨e, h2⟩
  · exact absurd e (by decide)
  · exact absurd e (by decide)
  · exact h2
def M_X12_settles (s : PS) (r : Int) (t : PS) : Prop := ∃ n, T_X12_settles_e (It_X12_settles n) s r t
theorem mk_X12_settles {n : Nat} {s t : PS} {r : Int} (h : T_X12_settles_e (It_X12_settles n) s r t) : M_X12_settles s r t := ⟨n, h⟩
