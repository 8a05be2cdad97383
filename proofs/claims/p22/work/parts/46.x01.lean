def T_X10_put_3 (K : Nat → Int → Int → PS → Int → PS → Prop) (x3_1 x3_2 : Int) (s_w3 : PS) (rr : Int) (ss : PS) : Prop := ((TyX s_w3) ∧ (((-8) ≤ x3_2 ∧ x3_2 ≤ 24) ∧ ((x3_2 < 0 ∧ (rr = 0 ∧ ss = s_w3)) ∨ (¬ (x3_2 < 0) ∧ ((1000 ≤ (s_w3 31 1) ∧ (K 43 x3_1 x3_2 s_w3 rr ss)) ∨ (¬ (1000 ≤ (s_w3 31 1)) ∧ (∃ s_w_4 : PS, s_w_4 = (us s_w3 32 (s_w3 31 1).toNat (iAnd (iUsr x3_1 x3_2) 255)) ∧ (∃ s_w_5 : PS, s_w_5 = (us s_w_4 31 1 ((s_w3 31 1) + 1)) ∧ (K 43 x3_1 x3_2 s_w_5 rr ss)))))))))
def T_X10_put_43 (K : Nat → Int → Int → PS → Int → PS → Prop) (x43_1 x43_2 : Int) (s_w43 : PS) (rr : Int) (ss : PS) : Prop := ((TyX s_w43) ∧ ((0 ≤ x43_2 ∧ x43_2 ≤ 24) ∧ (K 3 x43_1 (x43_2 + (-8)) s_w43 rr ss)))
def T_X10_put_e (K : Nat → Int → Int → PS → Int → PS → Prop) (s_w : PS) (p1 : Int) (rr : Int) (ss : PS) : Prop := ((TyX s_w) ∧ (K 3 p1 24 s_w rr ss))
def It_X10_put : Nat → Nat → Int → Int → PS → Int → PS → Prop
  | 0, _, _, _, _, _, _ => False
  | n + 1, pc, a0, a1, s, r, t => (pc = 3 ∧ T_X10_put_3 (It_X10_put n) a0 a1 s r t) ∨ (pc = 43 ∧ T_X10_put_43 (It_X10_put n) a0 a1 s r t)
theorem rl_X10_put_3 {n : Nat} {a0 a1 : Int} {s t : PS} {r : Int} (h : T_X10_put_3 (It_X10_put n) a0 a1 s r t) : It_X10_put (n + 1) 3 a0 a1 s r t := Or.inl ⟨rfl, h⟩
theorem rl_X10_put_43 {n : Nat} {a0 a1 : Int} {s t : PS} {r : Int} (h : T_X10_put_43 (It_X10_put n) a0 a1 s r t) : It_X10_put (n + 1) 43 a0 a1 s r t := Or.inr (⟨rfl, h⟩)
theorem ul_X10_put_3 {n : Nat} {a0 a1 : Int} {s t : PS} {r : Int} (h : It_X10_put (n + 1) 3 a0 a1 s r t) : T_X10_put_3 (It_X10_put n) a0 a1 s r t := by
  have h2 : ((3 : Nat) = 3 ∧ T_X10_put_3 (It_X10_put n) a0 a1 s r t) ∨ ((3 : Nat) = 43 ∧ T_X10_put_43 (It_X10_put n) a0 a1 s r t) := h
  rcases h2 with ⟨e, h2⟩ | ⟨e, h2⟩
  · exact h2
  · exact absurd e (by decide)
theorem ul_X10_put_43 {n : Nat} {a0 a1 : Int} {s t : PS} {r : Int} (h : It_X10_put (n + 1) 43 a0 a1 s r t) : T_X10_put_43 (It_X10_put n) a0 a1 s r t := by
  have h2 : ((43 : Nat) = 3 ∧ T_X10_put_3 (It_X10_put n) a0 a1 s r t) ∨ ((43 : Nat) = 43 ∧ T_X10_put_43 (It_X10_put n) a0 a1 s r t) := h
  rcases h2 with ⟨e, h2⟩ | ⟨e, h2⟩
  · exact absurd e (by decide)
  · exact h2
def M_X10_put (s : PS) (p1 : Int) (r : Int) (t : PS) : Prop := ∃ n, T_X10_put_e (It_X10_put n) s p1 r t
theorem mk_X10_put {n : Nat} {s t : PS} {p1 : Int} {r : Int} (h : T_X10_put_e (It_X10_put n) s p1 r t) : M_X10_put s p1 r t := ⟨n, h⟩
def T_X11_feed_e (s_w : PS) (p1 p2 p3 p4 p5 : Int) (rr : Int) (ss : PS) : Prop := ((TyX s_w) ∧ ((((s_w 31 1) + 20) ≤ 1000 ∧ (∃ s_w_2 : PS, ((M_X10_put s_w p1 0 s_w_2) ∧ ((Fr intsX [31, 32] [(31, 1)] s_w s_w_2) ∧ ((TyX s_w_2) ∧ (∃ s_w_6 : PS, ((M_X10_put s_w_2 p2 0 s_w_6) ∧ ((Fr intsX [31, 32] [(31, 1)] s_w_2 s_w_6) ∧ ((TyX s_w_6) ∧ (∃ s_w_10 : PS, ((M_X10_put s_w_6 p3 0 s_w_10) ∧ ((Fr intsX [31, 32] [(31, 1)] s_w_6 s_w_10) ∧ ((TyX s_w_10) ∧ (∃ s_w_14 : PS, ((M_X10_put s_w_10 p4 0 s_w_14) ∧ ((Fr intsX [31, 32] [(31, 1)] s_w_10 s_w_14) ∧ ((TyX s_w_14) ∧ (∃ s_w_18 : PS, ((M_X10_put s_w_14 p5 0 s_w_18) ∧ ((Fr intsX [31, 32] [(31, 1)] s_w_14 s_w_18) ∧ ((TyX s_w_18) ∧ (rr = (s_w_18 31 1) ∧ ss = s_w_18)))))))))))))))))))))) ∨ (¬ (((s_w 31 1) + 20) ≤ 1000) ∧ (rr = (-1) ∧ ss = s_w))))
def M_X11_feed (s : PS) (p1 p2 p3 p4 p5 : Int) (r : Int) (t : PS) : Prop := T_X11_feed_e s p1 p2 p3 p4 p5 r t
theorem mk_X11_feed {s t : PS} {p1 p2 p3 p4 p5 : Int} {r : Int} (h : T_X11_feed_e s p1 p2 p3 p4 p5 r t) : M_X11_feed s p1 p2 p3 p4 p5 r t := h
def T_X11_end_e (s_w : PS) (p1 : Int) (rr : Int) (ss : PS) : Prop := ((TyX s_w) ∧ ((p1 < 0 ∧ (rr = 0 ∧ ss = s_w)) ∨ (¬ (p1 < 0) ∧ ((p1 ≤ (s_w 31 1) ∧ (∃ s_w_3 : PS, s_w_3 = (us s_w 31 1 p1) ∧ (rr = 1 ∧ ss = s_w_3))) ∨ (¬ (p1 ≤ (s_w 31 1)) ∧ (rr = 0 ∧ ss = s_w))))))
def M_X11_end (s : PS) (p1 : Int) (r : Int) (t : PS) : Prop := T_X11_end_e s p1 r t
theorem mk_X11_end {s t : PS} {p1 : Int} {r : Int} (h : T_X11_end_e s p1 r t) : M_X11_end s p1 r t := h
def T_X5_bounded_e (s_w : PS) (p0 : Int) (rr : Int) (ss : PS) : Prop := ((TyX s_w) ∧ (rr = (wi (max (-1000000) (min 1000000 p0))) ∧ ss = s_w))
def M_X5_bounded (s : PS) (p0 : Int) (r : Int) (t : PS) : Prop := T_X5_bounded_e s p0 r t
theorem mk_X5_bounded {s t : PS} {p0 : Int} {r : Int} (h : T_X5_bounded_e s p0 r t) : M_X5_bounded s p0 r t := h
def T_X5_joined_e (s_w : PS) (p0 p1 p2 : Int) (rr : Int) (ss : PS) : Prop := ((TyX s_w) ∧ ((8 ≤ p0 ∧ p0 ≤ 15) ∧ ((p0 = 8 ∧ (rr = (iAnd p1 p2) ∧ ss = s_w)) ∨ (¬ (p0 = 8) ∧ ((p0 = 9 ∧ (rr = (iOr p1 p2) ∧ ss = s_w)) ∨ (¬ (p0 = 9) ∧ ((p0 = 10 ∧ ((p2 ≤ p1 ∧ (rr = 0 ∧ ss = s_w)) ∨ (¬ (p2 ≤ p1) ∧ (rr = 1 ∧ ss = s_w)))) ∨ (¬ (p0 = 10) ∧ ((p0 = 11 ∧ ((p1 ≤ p2 ∧ (rr = 0 ∧ ss = s_w)) ∨ (¬ (p1 ≤ p2) ∧ (rr = 1 ∧ ss = s_w)))) ∨ (¬ (p0 = 11) ∧ ((p0 = 12 ∧ ((p1 = p2 ∧ (rr = 1 ∧ ss = s_w)) ∨ (¬ (p1 = p2) ∧ (rr = 0 ∧ ss = s_w)))) ∨ (¬ (p0 = 12) ∧ ((p0 = 13 ∧ (∃ r_15 : Int, (∃ s_w_14 : PS, ((M_X5_bounded s_w (wi (p1 + p2)) r_15 s_w_14) ∧ ((Fr intsX [] [] s_w s_w_14) ∧ ((TyX s_w_14) ∧ (rr = r_15 ∧ ss = s_w_14))))))) ∨ (¬ (p0 = 13) ∧ ((p0 = 14 ∧ (∃ r_21 : Int, (∃ s_w_20 : PS, ((M_X5_bounded s_w (wi (p1 - p2)) r_21 s_w_20) ∧ ((Fr intsX [] [] s_w s_w_20) ∧ ((TyX s_w_20) ∧ (rr = r_21 ∧ ss = s_w_20))))))) ∨ (¬ (p0 = 14) ∧ (∃ r_27 : Int, (∃ s_w_26 : PS, ((M_X5_bounded s_w (wl (p1 * p2)) r_27 s_w_26) ∧ ((Fr intsX [] [] s_w s_w_26) ∧ ((TyX s_w_26) ∧ (rr = r_27 ∧ ss = s_w_26))))))))))))))))))))))
def M_X5_joined (s : PS) (p0 p1 p2 : Int) (r : Int) (t : PS) : Prop := T_X5_joined_e s p0 p1 p2 r t
theorem mk_X5_joined {s t : PS} {p0 p1 p2 : Int} {r : Int} (h : T_X5_joined_e s p0 p1 p2 r t) : M_X5_joined s p0 p1 p2 r t := h
def T_X5_leaf_16_e (s_w : PS) (p2 p3 p4 : Int) (rr : Int) (ss : PS) : Prop := ((TyX s_w) ∧ ((0 ≤ p2 ∧ p2 ≤ 6) ∧ ((p2 = 2 ∧ (rr = (s_w 61 p3.toNat) ∧ ss = s_w)) ∨ (¬ (p2 = 2) ∧ ((p2 = 3 ∧ (rr = p4 ∧ ss = s_w)) ∨ (¬ (p2 = 3) ∧ ((p2 = 4 ∧ (rr = (s_w 62 p3.toNat) ∧ ss = s_w)) ∨ (¬ (p2 = 4) ∧ ((p2 = 5 ∧ (rr = (iShl 1 p3) ∧ ss = s_w)) ∨ (¬ (p2 = 5) ∧ ((p2 = 6 ∧ (rr = (s_w 22 p3.toNat) ∧ ss = s_w)) ∨ (¬ (p2 = 6) ∧ (rr = p3 ∧ ss = s_w)))))))))))))
def M_X5_leaf_16 (s : PS) (p2 p3 p4 : Int) (r : Int) (t : PS) : Prop := T_X5_leaf_16_e s p2 p3 p4 r t
theorem mk_X5_leaf_16 {s t : PS} {p2 p3 p4 : Int} {r : Int} (h : T_X5_leaf_16_e s p2 p3 p4 r t) : M_X5_leaf_16 s p2 p3 p4 r t := h
def T_X5_value_16_6 (K : Nat → Int → Int → Int → Int → Int → Int → PS → Int → PS → Prop) (x6_2 x6_3 x6_4 x6_5 x6_6 : Int) (s_w6 : PS) (rr : Int) (ss : PS) : Prop := ((TyX s_w6) ∧ ((0 ≤ x6_2 ∧ x6_2 ≤ 1000) ∧ ((0 ≤ x6_3 ∧ x6_3 ≤ 1000) ∧ ((0 ≤ x6_5 ∧ x6_5 ≤ 64) ∧ ((0 ≤ x6_6 ∧ x6_6 ≤ 1000) ∧ ((x6_3 ≤ x6_6 ∧ ((x6_5 ≤ 0 ∧ (rr = 0 ∧ ss = s_w6)) ∨ (¬ (x6_5 ≤ 0) ∧ (rr = (s_w6 63 0) ∧ ss = s_w6)))) ∨ (¬ (x6_3 ≤ x6_6) ∧ ((7 ≤ (iAnd (s_w6 29 x6_6.toNat) 15) ∧ (((iAnd (s_w6 29 x6_6.toNat) 15) = 7 ∧ ((x6_5 ≤ 0 ∧ (K 137 x6_2 x6_3 x6_4 x6_5 x6_6 (iAnd (s_w6 29 x6_6.toNat) 15) s_w6 rr ss)) ∨ (¬ (x6_5 ≤ 0) ∧ (∃ s_w_17 : PS, s_w_17 = (us s_w6 63 (x6_5 - 1).toNat (iXor (s_w6 63 (x6_5 - 1).toNat) x6_4)) ∧ (K 137 x6_2 x6_3 x6_4 x6_5 x6_6 (iAnd (s_w6 29 x6_6.toNat) 15) s_w_17 rr ss))))) ∨ (¬ ((iAnd (s_w6 29 x6_6.toNat) 15) = 7) ∧ ((x6_5 ≤ 1 ∧ (K 137 x6_2 x6_3 x6_4 x6_5 x6_6 (iAnd (s_w6 29 x6_6.toNat) 15) s_w6 rr ss)) ∨ (¬ (x6_5 ≤ 1) ∧ (∃ r_11 : Int, (∃ s_w_10 : PS, ((M_X5_joined s_w6 (iAnd (s_w6 29 x6_6.toNat) 15) (s_w6 63 ((x6_5 + (-1)) - 1).toNat) (s_w6 63 (x6_5 + (-1)).toNat) r_11 s_w_10) ∧ ((Fr intsX [] [] s_w6 s_w_10) ∧ ((TyX s_w_10) ∧ (∃ s_w_13 : PS, s_w_13 = (us s_w_10 63 ((x6_5 + (-1)) - 1).toNat r_11) ∧ (K 137 x6_2 x6_3 x6_4 (x6_5 + (-1)) x6_6 (iAnd (s_w6 29 x6_6.toNat) 15) s_w_13 rr ss)))))))))))) ∨ (¬ (7 ≤ (iAnd (s_w6 29 x6_6.toNat) 15)) ∧ ((64 ≤ x6_5 ∧ (K 137 x6_2 x6_3 x6_4 x6_5 x6_6 (iAnd (s_w6 29 x6_6.toNat) 15) s_w6 rr ss)) ∨ (¬ (64 ≤ x6_5) ∧ (∃ r_21 : Int, (∃ s_w_20 : PS, ((M_X5_leaf_16 s_w6 (iAnd (s_w6 29 x6_6.toNat) 15) (iShr (s_w6 29 x6_6.toNat) 4) x6_4 r_21 s_w_20) ∧ ((Fr intsX [] [] s_w6 s_w_20) ∧ ((TyX s_w_20) ∧ (∃ s_w_23 : PS, s_w_23 = (us s_w_20 63 x6_5.toNat r_21) ∧ (K 137 x6_2 x6_3 x6_4 (x6_5 + 1) x6_6 (iAnd (s_w6 29 x6_6.toNat) 15) s_w_23 rr ss))))))))))))))))))
def T_X5_value_16_137 (K : Nat → Int → Int → Int → Int → Int → Int → PS → Int → PS → Prop) (x137_2 x137_3 x137_4 x137_5 x137_6 x137_7 : Int) (s_w137 : PS) (rr : Int) (ss : PS) : Prop := ((TyX s_w137) ∧ ((0 ≤ x137_2 ∧ x137_2 ≤ 1000) ∧ ((1 ≤ x137_3 ∧ x137_3 ≤ 1000) ∧ ((0 ≤ x137_5 ∧ x137_5 ≤ 64) ∧ ((0 ≤ x137_6 ∧ x137_6 ≤ 999) ∧ ((0 ≤ x137_7 ∧ x137_7 ≤ 15) ∧ (K 6 x137_2 x137_3 x137_4 x137_5 (x137_6 + 1) 0 s_w137 rr ss)))))))
def T_X5_value_16_e (K : Nat → Int → Int → Int → Int → Int → Int → PS → Int → PS → Prop) (s_w : PS) (p2 p3 p4 : Int) (rr : Int) (ss : PS) : Prop := ((TyX s_w) ∧ ((0 ≤ p2 ∧ p2 ≤ 1000) ∧ ((0 ≤ p3 ∧ p3 ≤ 1000) ∧ (K 6 p2 p3 p4 0 p2 0 s_w rr ss))))
def It_X5_value_16 : Nat → Nat → Int → Int → Int → Int → Int → Int → PS → Int → PS → Prop
  | 0, _, _, _, _, _, _, _, _, _, _ => False
  | n + 1, pc, a0, a1, a2, a3, a4, a5, s, r, t => (pc = 6 ∧ T_X5_value_16_6 (It_X5_value_16 n) a0 a1 a2 a3 a4 s r t) ∨ (pc = 137 ∧ T_X5_value_16_137 (It_X5_value_16 n) a0 a1 a2 a3 a4 a5 s r t)
theorem rl_X5_value_16_6 {n : Nat} {a0 a1 a2 a3 a4 : Int} {s t : PS} {r : Int} (h : T_X5_value_16_6 (It_X5_value_16 n) a0 a1 a2 a3 a4 s r t) : It_X5_value_16 (n + 1) 6 a0 a1 a2 a3 a4 0 s r t := Or.inl ⟨rfl, h⟩
theorem rl_X5_value_16_137 {n : Nat} {a0 a1 a2 a3 a4 a5 : Int} {s t : PS} {r : Int} (h : T_X5_value_16_137 (It_X5_value_16 n) a0 a1 a2 a3 a4 a5 s r t) : It_X5_value_16 (n + 1) 137 a0 a1 a2 a3 a4 a5 s r t := Or.inr (⟨rfl, h⟩)
theorem ul_X5_value_16_6 {n : Nat} {a0 a1 a2 a3 a4 a5 : Int} {s t : PS} {r : Int} (h : It_X5_value_16 (n + 1) 6 a0 a1 a2 a3 a4 a5 s r t) : T_X5_value_16_6 (It_X5_value_16 n) a0 a1 a2 a3 a4 s r t := by
  have h2 : ((6 : Nat) = 6 ∧ T_X5_value_16_6 (It_X5_value_16 n) a0 a1 a2 a3 a4 s r t) ∨ ((6 : Nat) = 137 ∧ T_X5_value_16_137 (It_X5_value_16 n) a0 a1 a2 a3 a4 a5 s r t) := h
  rcases h2 with ⟨e, h2⟩ | ⟨e, h2⟩
  · exact h2
  · exact absurd e (by decide)
theorem ul_X5_value_16_137 {n : Nat} {a0 a1 a2 a3 a4 a5 : Int} {s t : PS} {r : Int} (h : It_X5_value_16 (n + 1) 137 a0 a1 a2 a3 a4 a5 s r t) : T_X5_value_16_137 (It_X5_value_16 n) a0 a1 a2 a3 a4 a5 s r t := by
  have h2 : ((137 : Nat) = 6 ∧ T_X5_value_16_6 (It_X5_value_16 n) a0 a1 a2 a3 a4 s r t) ∨ ((137 : Nat) = 137 ∧ T_X5_value_16_137 (It_X5_value_16 n) a0 a1 a2 a3 a4 a5 s r t) := h
  rcases h2 with ⟨e, h2⟩ | ⟨e, h2⟩
  · exact absurd e (by decide)
  · exact h2
def M_X5_value_16 (s : PS) (p2 p3 p4 : Int) (r : Int) (t : PS) : Prop := ∃ n, T_X5_value_16_e (It_X5_value_16 n) s p2 p3 p4 r t
theorem mk_X5_value_16 {n : Nat} {s t : PS} {p2 p3 p4 : Int} {r : Int} (h : T_X5_value_16_e (It_X5_value_16 n) s p2 p3 p4 r t) : M_X5_value_16 s p2 p3 p4 r t := ⟨n, h⟩
def T_X5_chooseKinds_16_11 (K : Int → Int → PS → Int → PS → Prop) (x11_2 x11_3 : Int) (s_w11 : PS) (rr : Int) (ss : PS) : Prop := ((TyX s_w11) ∧ ((0 ≤ x11_3 ∧ x11_3 ≤ 24) ∧ (((s_w11 16 8) ≤ x11_3 ∧ (rr = 0 ∧ ss = s_w11)) ∨ (¬ ((s_w11 16 8) ≤ x11_3) ∧ (∃ r_5 : Int, (∃ s_w_4 : PS, ((M_X5_value_16 s_w11 (s_w11 25 x11_3.toNat) (s_w11 26 x11_3.toNat) x11_2 r_5 s_w_4) ∧ ((Fr intsX [63] [] s_w11 s_w_4) ∧ ((TyX s_w_4) ∧ (∃ s_w_7 : PS, s_w_7 = (us s_w_4 28 x11_3.toNat r_5) ∧ (K x11_2 (x11_3 + 1) s_w_7 rr ss)))))))))))
def T_X5_chooseKinds_16_e (K : Int → Int → PS → Int → PS → Prop) (s_w : PS) (rr : Int) (ss : PS) : Prop := ((TyX s_w) ∧ (K (wi ((iShl 1 (s_w 16 0)) - 1)) 0 s_w rr ss))
def It_X5_chooseKinds_16 : Nat → Int → Int → PS → Int → PS → Prop
  | 0, _, _, _, _, _ => False
  | n + 1, a0, a1, s, r, t => T_X5_chooseKinds_16_11 (It_X5_chooseKinds_16 n) a0 a1 s r t
theorem rl_X5_chooseKinds_16_11 {n : Nat} {a0 a1 : Int} {s t : PS} {r : Int} (h : T_X5_chooseKinds_16_11 (It_X5_chooseKinds_16 n) a0 a1 s r t) : It_X5_chooseKinds_16 (n + 1) a0 a1 s r t := h
theorem ul_X5_chooseKinds_16_11 {n : Nat} {a0 a1 : Int} {s t : PS} {r : Int} (h : It_X5_chooseKinds_16 (n + 1) a0 a1 s r t) : T_X5_chooseKinds_16_11 (It_X5_chooseKinds_16 n) a0 a1 s r t := h
def M_X5_chooseKinds_16 (s : PS) (r : Int) (t : PS) : Prop := ∃ n, T_X5_chooseKinds_16_e (It_X5_chooseKinds_16 n) s r t
theorem mk_X5_chooseKinds_16 {n : Nat} {s t : PS} {r : Int} (h : T_X5_chooseKinds_16_e (It_X5_chooseKinds_16 n) s r t) : M_X5_chooseKinds_16 s r t := ⟨n, h⟩
def T_X6_forget_e (s_w : PS) (rr : Int) (ss : PS) : Prop := ((TyX s_w) ∧ (∃ s_w_1 : PS, s_w_1 = (us s_w 42 0 (-1)) ∧ (rr = 0 ∧ ss = s_w_1)))
def M_X6_forget (s : PS) (r : Int) (t : PS) : Prop := T_X6_forget_e s r t
theorem mk_X6_forget {s t : PS} {r : Int} (h : T_X6_forget_e s r t) : M_X6_forget s r t := h
def T_X7_empty_e (s_w : PS) (rr : Int) (ss : PS) : Prop := ((TyX s_w) ∧ (∃ s_w_1 : PS, s_w_1 = (us s_w 35 0 0) ∧ (∃ s_w_2 : PS, s_w_2 = (us s_w_1 35 1 0) ∧ (rr = 0 ∧ ss = s_w_2))))
def M_X7_empty (s : PS) (r : Int) (t : PS) : Prop := T_X7_empty_e s r t
theorem mk_X7_empty {s t : PS} {r : Int} (h : T_X7_empty_e s r t) : M_X7_empty s r t := h
def T_X10_readNumber_5 (K : PS → Int → PS → Prop) (s_w5 : PS) (rr : Int) (ss : PS) : Prop := ((TyX s_w5) ∧ (((s_w5 31 1) ≤ (s_w5 31 3) ∧ (∃ s_w_2 : PS, s_w_2 = (us s_w5 31 4 259) ∧ (rr = 0 ∧ ss = s_w_2))) ∨ (¬ ((s_w5 31 1) ≤ (s_w5 31 3)) ∧ (((s_w5 32 (s_w5 31 3).toNat) < 48 ∧ (∃ s_w_5 : PS, s_w_5 = (us s_w5 31 4 259) ∧ (rr = 0 ∧ ss = s_w_5))) ∨ (¬ ((s_w5 32 (s_w5 31 3).toNat) < 48) ∧ ((57 < (s_w5 32 (s_w5 31 3).toNat) ∧ (∃ s_w_7 : PS, s_w_7 = (us s_w5 31 4 259) ∧ (rr = 0 ∧ ss = s_w_7))) ∨ (¬ (57 < (s_w5 32 (s_w5 31 3).toNat)) ∧ (((wi ((s_w5 31 3) - (s_w5 31 5))) = 5 ∧ (∃ s_w_14 : PS, s_w_14 = (us s_w5 31 5 (s_w5 31 3)) ∧ (∃ s_w_15 : PS, s_w_15 = (us s_w_14 31 4 257) ∧ (rr = 0 ∧ ss = s_w_15)))) ∨ (¬ ((wi ((s_w5 31 3) - (s_w5 31 5))) = 5) ∧ (∃ s_w_12 : PS, s_w_12 = (us s_w5 31 7 (wi ((wi ((wi ((s_w5 31 7) * 10)) + (s_w5 32 (s_w5 31 3).toNat))) - 48))) ∧ (∃ s_w_13 : PS, s_w_13 = (us s_w_12 31 3 ((s_w5 31 3) + 1)) ∧ (K s_w_13 rr ss))))))))))))
def T_X10_readNumber_e (K : PS → Int → PS → Prop) (s_w : PS) (rr : Int) (ss : PS) : Prop := ((TyX s_w) ∧ (∃ s_w_16 : PS, s_w_16 = (us s_w 31 7 0) ∧ (K s_w_16 rr ss)))
def It_X10_readNumber : Nat → PS → Int → PS → Prop
  | 0, _, _, _ => False
  | n + 1, s, r, t => T_X10_readNumber_5 (It_X10_readNumber n) s r t
theorem rl_X10_readNumber_5 {n : Nat} {s t : PS} {r : Int} (h : T_X10_readNumber_5 (It_X10_readNumber n) s r t) : It_X10_readNumber (n + 1) s r t := h
theorem ul_X10_readNumber_5 {n : Nat} {s t : PS} {r : Int} (h : It_X10_readNumber (n + 1) s r t) : T_X10_readNumber_5 (It_X10_readNumber n) s r t := h
def M_X10_readNumber (s : PS) (r : Int) (t : PS) : Prop := ∃ n, T_X10_readNumber_e (It_X10_readNumber n) s r t
theorem mk_X10_readNumber {n : Nat} {s t : PS} {r : Int} (h : T_X10_readNumber_e (It_X10_readNumber n) s r t) : M_X10_readNumber s r t := ⟨n, h⟩
