def T_X9_see_91 (K : Nat → Int → Int → Int → Int → Int → Int → Int → PS → Int → PS → Prop) (x91_1 x91_2 x91_3 x91_4 x91_5 : Int) (s_w91 : PS) (rr : Int) (ss : PS) : Prop := ((TyX s_w91) ∧ (((-2) ≤ x91_1 ∧ x91_1 ≤ 39) ∧ ((0 ≤ x91_2 ∧ x91_2 ≤ 9) ∧ ((0 ≤ x91_3 ∧ x91_3 ≤ 23) ∧ ((0 ≤ x91_4 ∧ x91_4 ≤ 239) ∧ (K 102 x91_1 x91_2 x91_3 x91_4 x91_5 (s_w91 66 x91_3.toNat) 0 s_w91 rr ss))))))
def T_X9_see_102 (K : Nat → Int → Int → Int → Int → Int → Int → Int → PS → Int → PS → Prop) (x102_1 x102_2 x102_3 x102_4 x102_5 x102_7 : Int) (s_w102 : PS) (rr : Int) (ss : PS) : Prop := ((TyX s_w102) ∧ (((-2) ≤ x102_1 ∧ x102_1 ≤ 39) ∧ ((0 ≤ x102_2 ∧ x102_2 ≤ 9) ∧ ((0 ≤ x102_3 ∧ x102_3 ≤ 23) ∧ ((0 ≤ x102_4 ∧ x102_4 ≤ 239) ∧ ((0 ≤ x102_7 ∧ x102_7 ≤ 40) ∧ (((s_w102 66 (x102_3 + 1).toNat) ≤ x102_7 ∧ (rr = 0 ∧ ss = s_w102)) ∨ (¬ ((s_w102 66 (x102_3 + 1).toNat) ≤ x102_7) ∧ (((iAnd (iAnd (s_w102 70 x102_7.toNat) (iXor (s_w102 82 x102_7.toNat) (-1))) (iShl 1 x102_2)) = 0 ∧ (K 206 x102_1 x102_2 x102_3 x102_4 x102_5 x102_7 0 s_w102 rr ss)) ∨ (¬ ((iAnd (iAnd (s_w102 70 x102_7.toNat) (iXor (s_w102 82 x102_7.toNat) (-1))) (iShl 1 x102_2)) = 0) ∧ (((s_w102 83 x102_7.toNat) = (s_w102 81 4) ∧ (K 206 x102_1 x102_2 x102_3 x102_4 x102_5 x102_7 1 s_w102 rr ss)) ∨ (¬ ((s_w102 83 x102_7.toNat) = (s_w102 81 4)) ∧ (∃ r_16 : Int, (∃ s_w_15 : PS, ((M_X3_pointsOf s_w102 x102_7 x102_2 r_16 s_w_15) ∧ ((Fr intsX [] [] s_w102 s_w_15) ∧ ((TyX s_w_15) ∧ (((s_w102 75 x102_7.toNat) = (wl (x102_5 + r_16)) ∧ (∃ s_w_22 : PS, ((M_X9_seeRow s_w_15 x102_7 x102_2 0 s_w_22) ∧ ((Fr intsX [81, 83, 84, 87] [(81, 11), (81, 12)] s_w_15 s_w_22) ∧ ((TyX s_w_22) ∧ (K 206 x102_1 x102_2 x102_3 x102_4 x102_5 x102_7 1 s_w_22 rr ss)))))) ∨ (¬ ((s_w102 75 x102_7.toNat) = (wl (x102_5 + r_16))) ∧ (K 206 x102_1 x102_2 x102_3 x102_4 x102_5 x102_7 1 s_w_15 rr ss))))))))))))))))))))
def T_X9_see_206 (K : Nat → Int → Int → Int → Int → Int → Int → Int → PS → Int → PS → Prop) (x206_1 x206_2 x206_3 x206_4 x206_5 x206_7 x206_8 : Int) (s_w206 : PS) (rr : Int) (ss : PS) : Prop := ((TyX s_w206) ∧ (((-2) ≤ x206_1 ∧ x206_1 ≤ 39) ∧ ((0 ≤ x206_2 ∧ x206_2 ≤ 9) ∧ ((0 ≤ x206_3 ∧ x206_3 ≤ 23) ∧ ((0 ≤ x206_4 ∧ x206_4 ≤ 239) ∧ ((0 ≤ x206_7 ∧ x206_7 ≤ 39) ∧ ((0 ≤ x206_8 ∧ x206_8 ≤ 1) ∧ (K 102 x206_1 x206_2 x206_3 x206_4 x206_5 (x206_7 + 1) 0 s_w206 rr ss))))))))
def T_X9_see_e (K : Nat → Int → Int → Int → Int → Int → Int → Int → PS → Int → PS → Prop) (s_w : PS) (p1 p2 p3 : Int) (rr : Int) (ss : PS) : Prop := ((TyX s_w) ∧ (((-2) ≤ p1 ∧ p1 ≤ 39) ∧ ((0 ≤ p2 ∧ p2 ≤ 9) ∧ ((0 ≤ p3 ∧ p3 ≤ 23) ∧ (∃ s_w_28 : PS, s_w_28 = (us s_w 85 ((p2 * 24) + p3).toNat (s_w 81 4)) ∧ (∃ s_w_29 : PS, s_w_29 = (us s_w_28 86 ((p2 * 24) + p3).toNat p1) ∧ ((p3 = ((s_w 64 2) - 1) ∧ (((s_w 81 13) = (-1) ∧ (((s_w 73 ((p2 * 24) + p3).toNat) ≤ 0 ∧ (K 91 p1 p2 p3 ((p2 * 24) + p3) (s_w 77 ((p2 * 24) + p3).toNat) 0 0 s_w_29 rr ss)) ∨ (¬ ((s_w 73 ((p2 * 24) + p3).toNat) ≤ 0) ∧ (((s_w 77 ((p2 * 24) + p3).toNat) = (s_w 74 6) ∧ (∃ s_w_36 : PS, s_w_36 = (us s_w_29 81 13 p2) ∧ (K 91 p1 p2 p3 ((p2 * 24) + p3) (s_w 77 ((p2 * 24) + p3).toNat) 0 0 s_w_36 rr ss))) ∨ (¬ ((s_w 77 ((p2 * 24) + p3).toNat) = (s_w 74 6)) ∧ (K 91 p1 p2 p3 ((p2 * 24) + p3) (s_w 77 ((p2 * 24) + p3).toNat) 0 0 s_w_29 rr ss)))))) ∨ (¬ ((s_w 81 13) = (-1)) ∧ (K 91 p1 p2 p3 ((p2 * 24) + p3) (s_w 77 ((p2 * 24) + p3).toNat) 0 0 s_w_29 rr ss)))) ∨ (¬ (p3 = ((s_w 64 2) - 1)) ∧ (K 91 p1 p2 p3 ((p2 * 24) + p3) (s_w 77 ((p2 * 24) + p3).toNat) 0 0 s_w_29 rr ss)))))))))
def It_X9_see : Nat → Nat → Int → Int → Int → Int → Int → Int → Int → PS → Int → PS → Prop
  | 0, _, _, _, _, _, _, _, _, _, _, _ => False
  | n + 1, pc, a0, a1, a2, a3, a4, a5, a6, s, r, t => (pc = 91 ∧ T_X9_see_91 (It_X9_see n) a0 a1 a2 a3 a4 s r t) ∨ (pc = 102 ∧ T_X9_see_102 (It_X9_see n) a0 a1 a2 a3 a4 a5 s r t) ∨ (pc = 206 ∧ T_X9_see_206 (It_X9_see n) a0 a1 a2 a3 a4 a5 a6 s r t)
theorem rl_X9_see_91 {n : Nat} {a0 a1 a2 a3 a4 : Int} {s t : PS} {r : Int} (h : T_X9_see_91 (It_X9_see n) a0 a1 a2 a3 a4 s r t) : It_X9_see (n + 1) 91 a0 a1 a2 a3 a4 0 0 s r t := Or.inl ⟨rfl, h⟩
theorem rl_X9_see_102 {n : Nat} {a0 a1 a2 a3 a4 a5 : Int} {s t : PS} {r : Int} (h : T_X9_see_102 (It_X9_see n) a0 a1 a2 a3 a4 a5 s r t) : It_X9_see (n + 1) 102 a0 a1 a2 a3 a4 a5 0 s r t := Or.inr (Or.inl ⟨rfl, h⟩)
theorem rl_X9_see_206 {n : Nat} {a0 a1 a2 a3 a4 a5 a6 : Int} {s t : PS} {r : Int} (h : T_X9_see_206 (It_X9_see n) a0 a1 a2 a3 a4 a5 a6 s r t) : It_X9_see (n + 1) 206 a0 a1 a2 a3 a4 a5 a6 s r t := Or.inr (Or.inr (⟨rfl, h⟩))
theorem ul_X9_see_91 {n : Nat} {a0 a1 a2 a3 a4 a5 a6 : Int} {s t : PS} {r : Int} (h : It_X9_see (n + 1) 91 a0 a1 a2 a3 a4 a5 a6 s r t) : T_X9_see_91 (It_X9_see n) a0 a1 a2 a3 a4 s r t := by
  have h2 : ((91 : Nat) = 91 ∧ T_X9_see_91 (It_X9_see n) a0 a1 a2 a3 a4 s r t) ∨ ((91 : Nat) = 102 ∧ T_X9_see_102 (It_X9_see n) a0 a1 a2 a3 a4 a5 s r t) ∨ ((91 : Nat) = 206 ∧ T_X9_see_206 (It_X9_see n) a0 a1 a2 a3 a4 a5 a6 s r t) := h
  rcases h2 with ⟨e, h2⟩ | ⟨e, h2⟩ | ⟨e, h2⟩
  · exact h2
  · exact absurd e (by decide)
  · exact absurd e (by decide)
theorem ul_X9_see_102 {n : Nat} {a0 a1 a2 a3 a4 a5 a6 : Int} {s t : PS} {r : Int} (h : It_X9_see (n + 1) 102 a0 a1 a2 a3 a4 a5 a6 s r t) : T_X9_see_102 (It_X9_see n) a0 a1 a2 a3 a4 a5 s r t := by
  have h2 : ((102 : Nat) = 91 ∧ T_X9_see_91 (It_X9_see n) a0 a1 a2 a3 a4 s r t) ∨ ((102 : Nat) = 102 ∧ T_X9_see_102 (It_X9_see n) a0 a1 a2 a3 a4 a5 s r t) ∨ ((102 : Nat) = 206 ∧ T_X9_see_206 (It_X9_see n) a0 a1 a2 a3 a4 a5 a6 s r t) := h
  rcases h2 with ⟨e, h2⟩ | ⟨e, h2⟩ | ⟨e, h2⟩
  · exact absurd e (by decide)
  · exact h2
  · exact absurd e (by decide)
theorem ul_X9_see_206 {n : Nat} {a0 a1 a2 a3 a4 a5 a6 : Int} {s t : PS} {r : Int} (h : It_X9_see (n + 1) 206 a0 a1 a2 a3 a4 a5 a6 s r t) : T_X9_see_206 (It_X9_see n) a0 a1 a2 a3 a4 a5 a6 s r t := by
  have h2 : ((206 : Nat) = 91 ∧ T_X9_see_91 (It_X9_see n) a0 a1 a2 a3 a4 s r t) ∨ ((206 : Nat) = 102 ∧ T_X9_see_102 (It_X9_see n) a0 a1 a2 a3 a4 a5 s r t) ∨ ((206 : Nat) = 206 ∧ T_X9_see_206 (It_X9_see n) a0 a1 a2 a3 a4 a5 a6 s r t) := h
  rcases h2 with ⟨e, h2⟩ | ⟨e, h2⟩ | ⟨e, h2⟩
  · exact absurd e (by decide)
  · exact absurd e (by decide)
  · exact h2
def M_X9_see (s : PS) (p1 p2 p3 : Int) (r : Int) (t : PS) : Prop := ∃ n, T_X9_see_e (It_X9_see n) s p1 p2 p3 r t
theorem mk_X9_see {n : Nat} {s t : PS} {p1 p2 p3 : Int} {r : Int} (h : T_X9_see_e (It_X9_see n) s p1 p2 p3 r t) : M_X9_see s p1 p2 p3 r t := ⟨n, h⟩
def T_X9_spread_23 (K : Nat → Int → Int → Int → Int → Int → Int → PS → Int → PS → Prop) (x23_1 x23_2 x23_3 x23_4 x23_5 x23_7 : Int) (s_w23 : PS) (rr : Int) (ss : PS) : Prop := ((TyX s_w23) ∧ (((-2) ≤ x23_1 ∧ x23_1 ≤ 39) ∧ ((0 ≤ x23_2 ∧ x23_2 ≤ 9) ∧ ((0 ≤ x23_3 ∧ x23_3 ≤ 23) ∧ ((0 ≤ x23_4 ∧ x23_4 ≤ 216) ∧ (((-1) ≤ x23_7 ∧ x23_7 ≤ 23) ∧ ((x23_7 < 0 ∧ (K 56 x23_1 x23_2 x23_3 x23_4 x23_5 x23_7 s_w23 rr ss)) ∨ (¬ (x23_7 < 0) ∧ (∃ r_15 : Int, (∃ s_w_14 : PS, ((M_X9_isFree s_w23 (x23_4 + x23_7) x23_5 r_15 s_w_14) ∧ ((Fr intsX [] [] s_w23 s_w_14) ∧ ((TyX s_w_14) ∧ ((0 ≤ r_15 ∧ r_15 ≤ 1) ∧ ((r_15 = 0 ∧ (K 56 x23_1 x23_2 x23_3 x23_4 x23_5 x23_7 s_w_14 rr ss)) ∨ (¬ (r_15 = 0) ∧ (∃ s_w_19 : PS, ((M_X9_see s_w_14 x23_1 x23_2 x23_7 0 s_w_19) ∧ ((Fr intsX [81, 83, 84, 85, 86, 87] [(81, 11), (81, 12), (81, 13)] s_w_14 s_w_19) ∧ ((TyX s_w_19) ∧ (K 23 x23_1 x23_2 x23_3 x23_4 x23_5 (x23_7 + (-1)) s_w_19 rr ss)))))))))))))))))))))
def T_X9_spread_56 (K : Nat → Int → Int → Int → Int → Int → Int → PS → Int → PS → Prop) (x56_1 x56_2 x56_3 x56_4 x56_5 x56_7 : Int) (s_w56 : PS) (rr : Int) (ss : PS) : Prop := ((TyX s_w56) ∧ (((-2) ≤ x56_1 ∧ x56_1 ≤ 39) ∧ ((0 ≤ x56_2 ∧ x56_2 ≤ 9) ∧ ((0 ≤ x56_3 ∧ x56_3 ≤ 23) ∧ ((0 ≤ x56_4 ∧ x56_4 ≤ 216) ∧ (((-1) ≤ x56_7 ∧ x56_7 ≤ 23) ∧ (K 61 x56_1 x56_2 x56_3 x56_4 x56_5 (x56_3 + 1) s_w56 rr ss)))))))
def T_X9_spread_61 (K : Nat → Int → Int → Int → Int → Int → Int → PS → Int → PS → Prop) (x61_1 x61_2 x61_3 x61_4 x61_5 x61_7 : Int) (s_w61 : PS) (rr : Int) (ss : PS) : Prop := ((TyX s_w61) ∧ (((-2) ≤ x61_1 ∧ x61_1 ≤ 39) ∧ ((0 ≤ x61_2 ∧ x61_2 ≤ 9) ∧ ((0 ≤ x61_3 ∧ x61_3 ≤ 23) ∧ ((0 ≤ x61_4 ∧ x61_4 ≤ 216) ∧ ((1 ≤ x61_7 ∧ x61_7 ≤ 24) ∧ (((s_w61 64 2) ≤ x61_7 ∧ (rr = 0 ∧ ss = s_w61)) ∨ (¬ ((s_w61 64 2) ≤ x61_7) ∧ (((s_w61 73 ((x61_4 + x61_7) - 1).toNat) ≤ 0 ∧ (rr = 0 ∧ ss = s_w61)) ∨ (¬ ((s_w61 73 ((x61_4 + x61_7) - 1).toNat) ≤ 0) ∧ (∃ r_5 : Int, (∃ s_w_4 : PS, ((M_X9_isFree s_w61 (x61_4 + x61_7) x61_5 r_5 s_w_4) ∧ ((Fr intsX [] [] s_w61 s_w_4) ∧ ((TyX s_w_4) ∧ ((0 ≤ r_5 ∧ r_5 ≤ 1) ∧ ((r_5 = 0 ∧ (rr = 0 ∧ ss = s_w_4)) ∨ (¬ (r_5 = 0) ∧ (∃ s_w_9 : PS, ((M_X9_see s_w_4 x61_1 x61_2 x61_7 0 s_w_9) ∧ ((Fr intsX [81, 83, 84, 85, 86, 87] [(81, 11), (81, 12), (81, 13)] s_w_4 s_w_9) ∧ ((TyX s_w_9) ∧ (K 61 x61_1 x61_2 x61_3 x61_4 x61_5 (x61_7 + 1) s_w_9 rr ss)))))))))))))))))))))))
def T_X9_spread_e (K : Nat → Int → Int → Int → Int → Int → Int → PS → Int → PS → Prop) (s_w : PS) (p1 p2 p3 : Int) (rr : Int) (ss : PS) : Prop := ((TyX s_w) ∧ (((-2) ≤ p1 ∧ p1 ≤ 39) ∧ ((0 ≤ p2 ∧ p2 ≤ 9) ∧ ((0 ≤ p3 ∧ p3 ≤ 23) ∧ (K 23 p1 p2 p3 (p2 * 24) (s_w 77 ((p2 * 24) + p3).toNat) p3 s_w rr ss)))))
def It_X9_spread : Nat → Nat → Int → Int → Int → Int → Int → Int → PS → Int → PS → Prop
  | 0, _, _, _, _, _, _, _, _, _, _ => False
  | n + 1, pc, a0, a1, a2, a3, a4, a5, s, r, t => (pc = 23 ∧ T_X9_spread_23 (It_X9_spread n) a0 a1 a2 a3 a4 a5 s r t) ∨ (pc = 56 ∧ T_X9_spread_56 (It_X9_spread n) a0 a1 a2 a3 a4 a5 s r t) ∨ (pc = 61 ∧ T_X9_spread_61 (It_X9_spread n) a0 a1 a2 a3 a4 a5 s r t)
theorem rl_X9_spread_23 {n : Nat} {a0 a1 a2 a3 a4 a5 : Int} {s t : PS} {r : Int} (h : T_X9_spread_23 (It_X9_spread n) a0 a1 a2 a3 a4 a5 s r t) : It_X9_spread (n + 1) 23 a0 a1 a2 a3 a4 a5 s r t := Or.inl ⟨rfl, h⟩
theorem rl_X9_spread_56 {n : Nat} {a0 a1 a2 a3 a4 a5 : Int} {s t : PS} {r : Int} (h : T_X9_spread_56 (It_X9_spread n) a0 a1 a2 a3 a4 a5 s r t) : It_X9_spread (n + 1) 56 a0 a1 a2 a3 a4 a5 s r t := Or.inr (Or.inl ⟨rfl, h⟩)
theorem rl_X9_spread_61 {n : Nat} {a0 a1 a2 a3 a4 a5 : Int} {s t : PS} {r : Int} (h : T_X9_spread_61 (It_X9_spread n) a0 a1 a2 a3 a4 a5 s r t) : It_X9_spread (n + 1) 61 a0 a1 a2 a3 a4 a5 s r t := Or.inr (Or.inr (⟨rfl, h⟩))
theorem ul_X9_spread_23 {n : Nat} {a0 a1 a2 a3 a4 a5 : Int} {s t : PS} {r : Int} (h : It_X9_spread (n + 1) 23 a0 a1 a2 a3 a4 a5 s r t) : T_X9_spread_23 (It_X9_spread n) a0 a1 a2 a3 a4 a5 s r t := by
  have h2 : ((23 : Nat) = 23 ∧ T_X9_spread_23 (It_X9_spread n) a0 a1 a2 a3 a4 a5 s r t) ∨ ((23 : Nat) = 56 ∧ T_X9_spread_56 (It_X9_spread n) a0 a1 a2 a3 a4 a5 s r t) ∨ ((23 : Nat) = 61 ∧ T_X9_spread_61 (It_X9_spread n) a0 a1 a2 a3 a4 a5 s r t) := h
  rcases h2 with ⟨e, h2⟩ | ⟨e, h2⟩ | ⟨e, h2⟩
  · exact h2
  · exact absurd e (by decide)
  · exact absurd e (by decide)
theorem ul_X9_spread_56 {n : Nat} {a0 a1 a2 a3 a4 a5 : Int} {s t : PS} {r : Int} (h : It_X9_spread (n + 1) 56 a0 a1 a2 a3 a4 a5 s r t) : T_X9_spread_56 (It_X9_spread n) a0 a1 a2 a3 a4 a5 s r t := by
  have h2 : ((56 : Nat) = 23 ∧ T_X9_spread_23 (It_X9_spread n) a0 a1 a2 a3 a4 a5 s r t) ∨ ((56 : Nat) = 56 ∧ T_X9_spread_56 (It_X9_spread n) a0 a1 a2 a3 a4 a5 s r t) ∨ ((56 : Nat) = 61 ∧ T_X9_spread_61 (It_X9_spread n) a0 a1 a2 a3 a4 a5 s r t) := h
  rcases h2 with ⟨e, h2⟩ | ⟨e, h2⟩ | ⟨e, h2⟩
  · exact absurd e (by decide)
  · exact h2
  · exact absurd e (by decide)
theorem ul_X9_spread_61 {n : Nat} {a0 a1 a2 a3 a4 a5 : Int} {s t : PS} {r : Int} (h : It_X9_spread (n + 1) 61 a0 a1 a2 a3 a4 a5 s r t) : T_X9_spread_61 (It_X9_spread n) a0 a1 a2 a3 a4 a5 s r t := by
  have h2 : ((61 : Nat) = 23 ∧ T_X9_spread_23 (It_X9_spread n) a0 a1 a2 a3 a4 a5 s r t) ∨ ((61 : Nat) = 56 ∧ T_X9_spread_56 (It_X9_spread n) a0 a1 a2 a3 a4 a5 s r t) ∨ ((61 : Nat) = 61 ∧ T_X9_spread_61 (It_X9_spread n) a0 a1 a2 a3 a4 a5 s r t) := h
  rcases h2 with ⟨e, h2⟩ | ⟨e, h2⟩ | ⟨e, h2⟩
  · exact absurd e (by decide)
  · exact absurd e (by decide)
  · exact h2
def M_X9_spread (s : PS) (p1 p2 p3 : Int) (r : Int) (t : PS) : Prop := ∃ n, T_X9_spread_e (It_X9_spread n) s p1 p2 p3 r t
theorem mk_X9_spread {n : Nat} {s t : PS} {p1 p2 p3 : Int} {r : Int} (h : T_X9_spread_e (It_X9_spread n) s p1 p2 p3 r t) : M_X9_spread s p1 p2 p3 r t := ⟨n, h⟩
def T_X9_spreadDue_2 (K : Nat → Int → PS → Int → PS → Prop) (x2_1 : Int) (s_w2 : PS) (rr : Int) (ss : PS) : Prop := ((TyX s_w2) ∧ ((0 ≤ x2_1 ∧ x2_1 ≤ 40) ∧ (((s_w2 64 1) ≤ x2_1 ∧ (rr = 0 ∧ ss = s_w2)) ∨ (¬ ((s_w2 64 1) ≤ x2_1) ∧ (((s_w2 68 x2_1.toNat) ≤ (s_w2 71 x2_1.toNat) ∧ (K 74 x2_1 s_w2 rr ss)) ∨ (¬ ((s_w2 68 x2_1.toNat) ≤ (s_w2 71 x2_1.toNat)) ∧ (((s_w2 83 x2_1.toNat) = (s_w2 81 4) ∧ (K 74 x2_1 s_w2 rr ss)) ∨ (¬ ((s_w2 83 x2_1.toNat) = (s_w2 81 4)) ∧ (((s_w2 75 x2_1.toNat) = (s_w2 74 5) ∧ (∃ s_w_10 : PS, ((M_X9_seeRow s_w2 x2_1 (-3) 0 s_w_10) ∧ ((Fr intsX [81, 83, 84, 87] [(81, 11), (81, 12)] s_w2 s_w_10) ∧ ((TyX s_w_10) ∧ (K 74 x2_1 s_w_10 rr ss)))))) ∨ (¬ ((s_w2 75 x2_1.toNat) = (s_w2 74 5)) ∧ (K 74 x2_1 s_w2 rr ss)))))))))))
def T_X9_spreadDue_74 (K : Nat → Int → PS → Int → PS → Prop) (x74_1 : Int) (s_w74 : PS) (rr : Int) (ss : PS) : Prop := ((TyX s_w74) ∧ ((0 ≤ x74_1 ∧ x74_1 ≤ 39) ∧ (K 2 (x74_1 + 1) s_w74 rr ss)))
def T_X9_spreadDue_e (K : Nat → Int → PS → Int → PS → Prop) (s_w : PS) (rr : Int) (ss : PS) : Prop := ((TyX s_w) ∧ (K 2 0 s_w rr ss))
def It_X9_spreadDue : Nat → Nat → Int → PS → Int → PS → Prop
  | 0, _, _, _, _, _ => False
  | n + 1, pc, a0, s, r, t => (pc = 2 ∧ T_X9_spreadDue_2 (It_X9_spreadDue n) a0 s r t) ∨ (pc = 74 ∧ T_X9_spreadDue_74 (It_X9_spreadDue n) a0 s r t)
theorem rl_X9_spreadDue_2 {n : Nat} {a0 : Int} {s t : PS} {r : Int} (h : T_X9_spreadDue_2 (It_X9_spreadDue n) a0 s r t) : It_X9_spreadDue (n + 1) 2 a0 s r t := Or.inl ⟨rfl, h⟩
theorem rl_X9_spreadDue_74 {n : Nat} {a0 : Int} {s t : PS} {r : Int} (h : T_X9_spreadDue_74 (It_X9_spreadDue n) a0 s r t) : It_X9_spreadDue (n + 1) 74 a0 s r t := Or.inr (⟨rfl, h⟩)
theorem ul_X9_spreadDue_2 {n : Nat} {a0 : Int} {s t : PS} {r : Int} (h : It_X9_spreadDue (n + 1) 2 a0 s r t) : T_X9_spreadDue_2 (It_X9_spreadDue n) a0 s r t := by
  have h2 : ((2 : Nat) = 2 ∧ T_X9_spreadDue_2 (It_X9_spreadDue n) a0 s r t) ∨ ((2 : Nat) = 74 ∧ T_X9_spreadDue_74 (It_X9_spreadDue n) a0 s r t) := h
  rcases h2 with ⟨e, h2⟩ | ⟨e, h2⟩
  · exact h2
  · exact absurd e (by decide)
theorem ul_X9_spreadDue_74 {n : Nat} {a0 : Int} {s t : PS} {r : Int} (h : It_X9_spreadDue (n + 1) 74 a0 s r t) : T_X9_spreadDue_74 (It_X9_spreadDue n) a0 s r t := by
  have h2 : ((74 : Nat) = 2 ∧ T_X9_spreadDue_2 (It_X9_spreadDue n) a0 s r t) ∨ ((74 : Nat) = 74 ∧ T_X9_spreadDue_74 (It_X9_spreadDue n) a0 s r t) := h
  rcases h2 with ⟨e, h2⟩ | ⟨e, h2⟩
  · exact absurd e (by decide)
  · exact h2
def M_X9_spreadDue (s : PS) (r : Int) (t : PS) : Prop := ∃ n, T_X9_spreadDue_e (It_X9_spreadDue n) s r t
theorem mk_X9_spreadDue {n : Nat} {s t : PS} {r : Int} (h : T_X9_spreadDue_e (It_X9_spreadDue n) s r t) : M_X9_spreadDue s r t := ⟨n, h⟩
def T_X9_spreadLeft_12 (K : Nat → Int → Int → PS → Int → PS → Prop) (x12_1 x12_2 : Int) (s_w12 : PS) (rr : Int) (ss : PS) : Prop := ((TyX s_w12) ∧ ((0 ≤ x12_1 ∧ x12_1 ≤ 23) ∧ ((0 ≤ x12_2 ∧ x12_2 ≤ 10) ∧ (((s_w12 64 0) ≤ x12_2 ∧ (rr = 0 ∧ ss = s_w12)) ∨ (¬ ((s_w12 64 0) ≤ x12_2) ∧ (∃ r_3 : Int, (∃ s_w_2 : PS, ((M_X9_isFree s_w12 ((x12_2 * 24) + x12_1) (s_w12 74 6) r_3 s_w_2) ∧ ((Fr intsX [] [] s_w12 s_w_2) ∧ ((TyX s_w_2) ∧ ((0 ≤ r_3 ∧ r_3 ≤ 1) ∧ ((r_3 = 0 ∧ (K 51 x12_1 x12_2 s_w_2 rr ss)) ∨ (¬ (r_3 = 0) ∧ (∃ s_w_7 : PS, ((M_X9_spread s_w_2 (-2) x12_2 x12_1 0 s_w_7) ∧ ((Fr intsX [81, 83, 84, 85, 86, 87] [(81, 11), (81, 12), (81, 13)] s_w_2 s_w_7) ∧ ((TyX s_w_7) ∧ (K 51 x12_1 x12_2 s_w_7 rr ss))))))))))))))))))
def T_X9_spreadLeft_51 (K : Nat → Int → Int → PS → Int → PS → Prop) (x51_1 x51_2 : Int) (s_w51 : PS) (rr : Int) (ss : PS) : Prop := ((TyX s_w51) ∧ ((0 ≤ x51_1 ∧ x51_1 ≤ 23) ∧ ((0 ≤ x51_2 ∧ x51_2 ≤ 9) ∧ (K 12 x51_1 (x51_2 + 1) s_w51 rr ss))))
def T_X9_spreadLeft_e (K : Nat → Int → Int → PS → Int → PS → Prop) (s_w : PS) (rr : Int) (ss : PS) : Prop := ((TyX s_w) ∧ (K 12 ((s_w 64 2) - 1) 0 s_w rr ss))
def It_X9_spreadLeft : Nat → Nat → Int → Int → PS → Int → PS → Prop
  | 0, _, _, _, _, _, _ => False
  | n + 1, pc, a0, a1, s, r, t => (pc = 12 ∧ T_X9_spreadLeft_12 (It_X9_spreadLeft n) a0 a1 s r t) ∨ (pc = 51 ∧ T_X9_spreadLeft_51 (It_X9_spreadLeft n) a0 a1 s r t)
theorem rl_X9_spreadLeft_12 {n : Nat} {a0 a1 : Int} {s t : PS} {r : Int} (h : T_X9_spreadLeft_12 (It_X9_spreadLeft n) a0 a1 s r t) : It_X9_spreadLeft (n + 1) 12 a0 a1 s r t := Or.inl ⟨rfl, h⟩
theorem rl_X9_spreadLeft_51 {n : Nat} {a0 a1 : Int} {s t : PS} {r : Int} (h : T_X9_spreadLeft_51 (It_X9_spreadLeft n) a0 a1 s r t) : It_X9_spreadLeft (n + 1) 51 a0 a1 s r t := Or.inr (⟨rfl, h⟩)
theorem ul_X9_spreadLeft_12 {n : Nat} {a0 a1 : Int} {s t : PS} {r : Int} (h : It_X9_spreadLeft (n + 1) 12 a0 a1 s r t) : T_X9_spreadLeft_12 (It_X9_spreadLeft n) a0 a1 s r t := by
  have h2 : ((12 : Nat) = 12 ∧ T_X9_spreadLeft_12 (It_X9_spreadLeft n) a0 a1 s r t) ∨ ((12 : Nat) = 51 ∧ T_X9_spreadLeft_51 (It_X9_spreadLeft n) a0 a1 s r t) := h
  rcases h2 with ⟨e, h2⟩ | ⟨e, h2⟩
  · exact h2
  · exact absurd e (by decide)
theorem ul_X9_spreadLeft_51 {n : Nat} {a0 a1 : Int} {s t : PS} {r : Int} (h : It_X9_spreadLeft (n + 1) 51 a0 a1 s r t) : T_X9_spreadLeft_51 (It_X9_spreadLeft n) a0 a1 s r t := by
  have h2 : ((51 : Nat) = 12 ∧ T_X9_spreadLeft_12 (It_X9_spreadLeft n) a0 a1 s r t) ∨ ((51 : Nat) = 51 ∧ T_X9_spreadLeft_51 (It_X9_spreadLeft n) a0 a1 s r t) := h
  rcases h2 with ⟨e, h2⟩ | ⟨e, h2⟩
  · exact absurd e (by decide)
  · exact h2
def M_X9_spreadLeft (s : PS) (r : Int) (t : PS) : Prop := ∃ n, T_X9_spreadLeft_e (It_X9_spreadLeft n) s r t
theorem mk_X9_spreadLeft {n : Nat} {s t : PS} {r : Int} (h : T_X9_spreadLeft_e (It_X9_spreadLeft n) s r t) : M_X9_spreadLeft s r t := ⟨n, h⟩
def T_X9_mayTake_e (s_w : PS) (p1 p2 : Int) (rr : Int) (ss : PS) : Prop := ((TyX s_w) ∧ ((0 ≤ p1 ∧ p1 ≤ 39) ∧ ((0 ≤ p2 ∧ p2 ≤ 9) ∧ (((iAnd (iShr (s_w 69 p1.toNat) p2) 1) = 0 ∧ (rr = 0 ∧ ss = s_w)) ∨ (¬ ((iAnd (iShr (s_w 69 p1.toNat) p2) 1) = 0) ∧ (((s_w 85 ((p2 * 24) + (s_w 65 p1.toNat)).toNat) = (s_w 81 4) ∧ (rr = 0 ∧ ss = s_w)) ∨ (¬ ((s_w 85 ((p2 * 24) + (s_w 65 p1.toNat)).toNat) = (s_w 81 4)) ∧ (∃ r_10 : Int, (∃ s_w_9 : PS, ((M_X3_pointsOf s_w p1 p2 r_10 s_w_9) ∧ ((Fr intsX [] [] s_w s_w_9) ∧ ((TyX s_w_9) ∧ (((s_w 77 ((p2 * 24) + (s_w 65 p1.toNat)).toNat) = (wl ((s_w 75 p1.toNat) - r_10)) ∧ (rr = 1 ∧ ss = s_w_9)) ∨ (¬ ((s_w 77 ((p2 * 24) + (s_w 65 p1.toNat)).toNat) = (wl ((s_w 75 p1.toNat) - r_10))) ∧ (rr = 0 ∧ ss = s_w_9)))))))))))))))
def M_X9_mayTake (s : PS) (p1 p2 : Int) (r : Int) (t : PS) : Prop := T_X9_mayTake_e s p1 p2 r t
theorem mk_X9_mayTake {s t : PS} {p1 p2 : Int} {r : Int} (h : T_X9_mayTake_e s p1 p2 r t) : M_X9_mayTake s p1 p2 r t := h
def T_X9_widen_23 (K : Nat → Int → Int → Int → PS → Int → PS → Prop) (x23_1 x23_2 x23_3 : Int) (s_w23 : PS) (rr : Int) (ss : PS) : Prop := ((TyX s_w23) ∧ ((0 ≤ x23_1 ∧ x23_1 ≤ 39) ∧ ((0 ≤ x23_3 ∧ x23_3 ≤ 10) ∧ (((s_w23 64 0) ≤ x23_3 ∧ (rr = 0 ∧ ss = s_w23)) ∨ (¬ ((s_w23 64 0) ≤ x23_3) ∧ (((iAnd (iShr x23_2 x23_3) 1) = 0 ∧ (K 66 x23_1 x23_2 x23_3 s_w23 rr ss)) ∨ (¬ ((iAnd (iShr x23_2 x23_3) 1) = 0) ∧ (∃ r_5 : Int, (∃ s_w_4 : PS, ((M_X9_mayTake s_w23 x23_1 x23_3 r_5 s_w_4) ∧ ((Fr intsX [] [] s_w23 s_w_4) ∧ ((TyX s_w_4) ∧ ((0 ≤ r_5 ∧ r_5 ≤ 1) ∧ ((r_5 = 0 ∧ (K 66 x23_1 x23_2 x23_3 s_w_4 rr ss)) ∨ (¬ (r_5 = 0) ∧ (∃ s_w_9 : PS, ((M_X9_spread s_w_4 x23_1 x23_3 (s_w23 65 x23_1.toNat) 0 s_w_9) ∧ ((Fr intsX [81, 83, 84, 85, 86, 87] [(81, 11), (81, 12), (81, 13)] s_w_4 s_w_9) ∧ ((TyX s_w_9) ∧ (K 66 x23_1 x23_2 x23_3 s_w_9 rr ss))))))))))))))))))))
def T_X9_widen_66 (K : Nat → Int → Int → Int → PS → Int → PS → Prop) (x66_1 x66_2 x66_3 : Int) (s_w66 : PS) (rr : Int) (ss : PS) : Prop := ((TyX s_w66) ∧ ((0 ≤ x66_1 ∧ x66_1 ≤ 39) ∧ ((0 ≤ x66_3 ∧ x66_3 ≤ 9) ∧ (K 23 x66_1 x66_2 (x66_3 + 1) s_w66 rr ss))))
def T_X9_widen_e (K : Nat → Int → Int → Int → PS → Int → PS → Prop) (s_w : PS) (p1 : Int) (rr : Int) (ss : PS) : Prop := ((TyX s_w) ∧ ((0 ≤ p1 ∧ p1 ≤ 39) ∧ (K 23 p1 (iAnd (iXor (s_w 70 p1.toNat) (-1)) (iXor (s_w 82 p1.toNat) (-1))) 0 s_w rr ss)))
def It_X9_widen : Nat → Nat → Int → Int → Int → PS → Int → PS → Prop
  | 0, _, _, _, _, _, _, _ => False
  | n + 1, pc, a0, a1, a2, s, r, t => (pc = 23 ∧ T_X9_widen_23 (It_X9_widen n) a0 a1 a2 s r t) ∨ (pc = 66 ∧ T_X9_widen_66 (It_X9_widen n) a0 a1 a2 s r t)
theorem rl_X9_widen_23 {n : Nat} {a0 a1 a2 : Int} {s t : PS} {r : Int} (h : T_X9_widen_23 (It_X9_widen n) a0 a1 a2 s r t) : It_X9_widen (n + 1) 23 a0 a1 a2 s r t := Or.inl ⟨rfl, h⟩
theorem rl_X9_widen_66 {n : Nat} {a0 a1 a2 : Int} {s t : PS} {r : Int} (h : T_X9_widen_66 (It_X9_widen n) a0 a1 a2 s r t) : It_X9_widen (n + 1) 66 a0 a1 a2 s r t := Or.inr (⟨rfl, h⟩)
theorem ul_X9_widen_23 {n : Nat} {a0 a1 a2 : Int} {s t : PS} {r : Int} (h : It_X9_widen (n + 1) 23 a0 a1 a2 s r t) : T_X9_widen_23 (It_X9_widen n) a0 a1 a2 s r t := by
  have h2 : ((23 : Nat) = 23 ∧ T_X9_widen_23 (It_X9_widen n) a0 a1 a2 s r t) ∨ ((23 : Nat) = 66 ∧ T_X9_widen_66 (It_X9_widen n) a0 a1 a2 s r t) := h
  rcases h2 with ⟨e, h2⟩ | ⟨e, h2⟩
  · exact h2
  · exact absurd e (by decide)
theorem ul_X9_widen_66 {n : Nat} {a0 a1 a2 : Int} {s t : PS} {r : Int} (h : It_X9_widen (n + 1) 66 a0 a1 a2 s r t) : T_X9_widen_66 (It_X9_widen n) a0 a1 a2 s r t := by
  have h2 : ((66 : Nat) = 23 ∧ T_X9_widen_23 (It_X9_widen n) a0 a1 a2 s r t) ∨ ((66 : Nat) = 66 ∧ T_X9_widen_66 (It_X9_widen n) a0 a1 a2 s r t) := h
  rcases h2 with ⟨e, h2⟩ | ⟨e, h2⟩
  · exact absurd e (by decide)
  · exact h2
def M_X9_widen (s : PS) (p1 : Int) (r : Int) (t : PS) : Prop := ∃ n, T_X9_widen_e (It_X9_widen n) s p1 r t
theorem mk_X9_widen {n : Nat} {s t : PS} {p1 : Int} {r : Int} (h : T_X9_widen_e (It_X9_widen n) s p1 r t) : M_X9_widen s p1 r t := ⟨n, h⟩
