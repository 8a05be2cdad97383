def T_X12_right_13 (K : Nat → Int → Int → Int → Int → PS → Int → PS → Prop) (x13_1 x13_2 : Int) (s_w13 : PS) (rr : Int) (ss : PS) : Prop := ((TyM s_w13) ∧ ((0 ≤ x13_2 ∧ x13_2 ≤ 40) ∧ (((s_w13 0 69) ≤ x13_2 ∧ (rr = x13_1 ∧ ss = s_w13)) ∨ (¬ ((s_w13 0 69) ≤ x13_2) ∧ (∃ r_4 : Int, (∃ s_w_3 : PS, ((M_X12_isRight s_w13 x13_2 r_4 s_w_3) ∧ ((Fr intsM [] [] s_w13 s_w_3) ∧ ((TyM s_w_3) ∧ ((0 ≤ r_4 ∧ r_4 ≤ 1) ∧ ((r_4 = 0 ∧ (K 35 x13_1 x13_2 0 x13_1 s_w_3 rr ss)) ∨ (¬ (r_4 = 0) ∧ (K 35 x13_1 x13_2 1 x13_1 s_w_3 rr ss)))))))))))))
def T_X12_right_35 (K : Nat → Int → Int → Int → Int → PS → Int → PS → Prop) (x35_1 x35_2 y35_0 y35_1 : Int) (s_w35 : PS) (rr : Int) (ss : PS) : Prop := ((TyM s_w35) ∧ ((0 ≤ x35_2 ∧ x35_2 ≤ 39) ∧ ((0 ≤ y35_0 ∧ y35_0 ≤ 1) ∧ (K 13 (wi (y35_1 + y35_0)) (x35_2 + 1) 0 0 s_w35 rr ss))))
def T_X12_right_e (K : Nat → Int → Int → Int → Int → PS → Int → PS → Prop) (s_w : PS) (rr : Int) (ss : PS) : Prop := ((TyM s_w) ∧ (((s_w 0 68) = 0 ∧ (rr = (-1) ∧ ss = s_w)) ∨ (¬ ((s_w 0 68) = 0) ∧ (K 13 0 0 0 0 s_w rr ss))))
def It_X12_right : Nat → Nat → Int → Int → Int → Int → PS → Int → PS → Prop
  | 0, _, _, _, _, _, _, _, _ => False
  | n + 1, pc, a0, a1, a2, a3, s, r, t => (pc = 13 ∧ T_X12_right_13 (It_X12_right n) a0 a1 s r t) ∨ (pc = 35 ∧ T_X12_right_35 (It_X12_right n) a0 a1 a2 a3 s r t)
theorem rl_X12_right_13 {n : Nat} {a0 a1 : Int} {s t : PS} {r : Int} (h : T_X12_right_13 (It_X12_right n) a0 a1 s r t) : It_X12_right (n + 1) 13 a0 a1 0 0 s r t := Or.inl ⟨rfl, h⟩
theorem rl_X12_right_35 {n : Nat} {a0 a1 a2 a3 : Int} {s t : PS} {r : Int} (h : T_X12_right_35 (It_X12_right n) a0 a1 a2 a3 s r t) : It_X12_right (n + 1) 35 a0 a1 a2 a3 s r t := Or.inr (⟨rfl, h⟩)
theorem ul_X12_right_13 {n : Nat} {a0 a1 a2 a3 : Int} {s t : PS} {r : Int} (h : It_X12_right (n + 1) 13 a0 a1 a2 a3 s r t) : T_X12_right_13 (It_X12_right n) a0 a1 s r t := by
  have h2 : ((13 : Nat) = 13 ∧ T_X12_right_13 (It_X12_right n) a0 a1 s r t) ∨ ((13 : Nat) = 35 ∧ T_X12_right_35 (It_X12_right n) a0 a1 a2 a3 s r t) := h
  rcases h2 with ⟨e, h2⟩ | ⟨e, h2⟩
  · exact h2
  · exact absurd e (by decide)
theorem ul_X12_right_35 {n : Nat} {a0 a1 a2 a3 : Int} {s t : PS} {r : Int} (h : It_X12_right (n + 1) 35 a0 a1 a2 a3 s r t) : T_X12_right_35 (It_X12_right n) a0 a1 a2 a3 s r t := by
  have h2 : ((35 : Nat) = 13 ∧ T_X12_right_13 (It_X12_right n) a0 a1 s r t) ∨ ((35 : Nat) = 35 ∧ T_X12_right_35 (It_X12_right n) a0 a1 a2 a3 s r t) := h
  rcases h2 with ⟨e, h2⟩ | ⟨e, h2⟩
  · exact absurd e (by decide)
  · exact h2
def M_X12_right (s : PS) (r : Int) (t : PS) : Prop := ∃ n, T_X12_right_e (It_X12_right n) s r t
theorem mk_X12_right {n : Nat} {s t : PS} {r : Int} (h : T_X12_right_e (It_X12_right n) s r t) : M_X12_right s r t := ⟨n, h⟩
def T_X12_farOf_4 (K : Nat → Int → Int → Int → PS → Int → PS → Prop) (x4_1 x4_2 x4_3 : Int) (s_w4 : PS) (rr : Int) (ss : PS) : Prop := ((TyM s_w4) ∧ ((0 ≤ x4_1 ∧ x4_1 ≤ 39) ∧ ((0 ≤ x4_2 ∧ x4_2 ≤ 2147483647) ∧ ((0 ≤ x4_3 ∧ x4_3 ≤ 10) ∧ (((s_w4 2 (s_w4 0 12).toNat) ≤ x4_3 ∧ (rr = x4_2 ∧ ss = s_w4)) ∨ (¬ ((s_w4 2 (s_w4 0 12).toNat) ≤ x4_3) ∧ (((iAnd (iShr (s_w4 53 x4_1.toNat) x4_3) 1) = 1 ∧ (((s_w4 10 ((10 * (s_w4 0 12)) + x4_3).toNat) ≤ x4_2 ∧ (K 64 x4_1 x4_2 x4_3 s_w4 rr ss)) ∨ (¬ ((s_w4 10 ((10 * (s_w4 0 12)) + x4_3).toNat) ≤ x4_2) ∧ (K 64 x4_1 (s_w4 10 ((10 * (s_w4 0 12)) + x4_3).toNat) x4_3 s_w4 rr ss)))) ∨ (¬ ((iAnd (iShr (s_w4 53 x4_1.toNat) x4_3) 1) = 1) ∧ (K 64 x4_1 x4_2 x4_3 s_w4 rr ss)))))))))
def T_X12_farOf_64 (K : Nat → Int → Int → Int → PS → Int → PS → Prop) (x64_1 x64_2 x64_3 : Int) (s_w64 : PS) (rr : Int) (ss : PS) : Prop := ((TyM s_w64) ∧ ((0 ≤ x64_1 ∧ x64_1 ≤ 39) ∧ ((0 ≤ x64_2 ∧ x64_2 ≤ 2147483647) ∧ ((0 ≤ x64_3 ∧ x64_3 ≤ 9) ∧ (K 4 x64_1 x64_2 (x64_3 + 1) s_w64 rr ss)))))
def T_X12_farOf_e (K : Nat → Int → Int → Int → PS → Int → PS → Prop) (s_w : PS) (p1 : Int) (rr : Int) (ss : PS) : Prop := ((TyM s_w) ∧ ((0 ≤ p1 ∧ p1 ≤ 39) ∧ (K 4 p1 0 0 s_w rr ss)))
def It_X12_farOf : Nat → Nat → Int → Int → Int → PS → Int → PS → Prop
  | 0, _, _, _, _, _, _, _ => False
  | n + 1, pc, a0, a1, a2, s, r, t => (pc = 4 ∧ T_X12_farOf_4 (It_X12_farOf n) a0 a1 a2 s r t) ∨ (pc = 64 ∧ T_X12_farOf_64 (It_X12_farOf n) a0 a1 a2 s r t)
theorem rl_X12_farOf_4 {n : Nat} {a0 a1 a2 : Int} {s t : PS} {r : Int} (h : T_X12_farOf_4 (It_X12_farOf n) a0 a1 a2 s r t) : It_X12_farOf (n + 1) 4 a0 a1 a2 s r t := Or.inl ⟨rfl, h⟩
theorem rl_X12_farOf_64 {n : Nat} {a0 a1 a2 : Int} {s t : PS} {r : Int} (h : T_X12_farOf_64 (It_X12_farOf n) a0 a1 a2 s r t) : It_X12_farOf (n + 1) 64 a0 a1 a2 s r t := Or.inr (⟨rfl, h⟩)
theorem ul_X12_farOf_4 {n : Nat} {a0 a1 a2 : Int} {s t : PS} {r : Int} (h : It_X12_farOf (n + 1) 4 a0 a1 a2 s r t) : T_X12_farOf_4 (It_X12_farOf n) a0 a1 a2 s r t := by
  have h2 : ((4 : Nat) = 4 ∧ T_X12_farOf_4 (It_X12_farOf n) a0 a1 a2 s r t) ∨ ((4 : Nat) = 64 ∧ T_X12_farOf_64 (It_X12_farOf n) a0 a1 a2 s r t) := h
  rcases h2 with ⟨e, h2⟩ | ⟨e, h2⟩
  · exact h2
  · exact absurd e (by decide)
theorem ul_X12_farOf_64 {n : Nat} {a0 a1 a2 : Int} {s t : PS} {r : Int} (h : It_X12_farOf (n + 1) 64 a0 a1 a2 s r t) : T_X12_farOf_64 (It_X12_farOf n) a0 a1 a2 s r t := by
  have h2 : ((64 : Nat) = 4 ∧ T_X12_farOf_4 (It_X12_farOf n) a0 a1 a2 s r t) ∨ ((64 : Nat) = 64 ∧ T_X12_farOf_64 (It_X12_farOf n) a0 a1 a2 s r t) := h
  rcases h2 with ⟨e, h2⟩ | ⟨e, h2⟩
  · exact absurd e (by decide)
  · exact h2
def M_X12_farOf (s : PS) (p1 : Int) (r : Int) (t : PS) : Prop := ∃ n, T_X12_farOf_e (It_X12_farOf n) s p1 r t
theorem mk_X12_farOf {n : Nat} {s t : PS} {p1 : Int} {r : Int} (h : T_X12_farOf_e (It_X12_farOf n) s p1 r t) : M_X12_farOf s p1 r t := ⟨n, h⟩
def T_X12_packs_7 (K : Nat → Int → Int → PS → Int → PS → Prop) (x7_1 : Int) (s_w7 : PS) (rr : Int) (ss : PS) : Prop := ((TyM s_w7) ∧ ((0 ≤ x7_1 ∧ x7_1 ≤ 40) ∧ (((s_w7 0 69) ≤ x7_1 ∧ (rr = 0 ∧ ss = s_w7)) ∨ (¬ ((s_w7 0 69) ≤ x7_1) ∧ (((s_w7 53 x7_1.toNat) = 0 ∧ (K 93 x7_1 0 s_w7 rr ss)) ∨ (¬ ((s_w7 53 x7_1.toNat) = 0) ∧ (K 32 x7_1 (s_w7 0 88) s_w7 rr ss)))))))
def T_X12_packs_32 (K : Nat → Int → Int → PS → Int → PS → Prop) (x32_1 x32_2 : Int) (s_w32 : PS) (rr : Int) (ss : PS) : Prop := ((TyM s_w32) ∧ ((0 ≤ x32_1 ∧ x32_1 ≤ 39) ∧ ((0 ≤ x32_2 ∧ x32_2 ≤ 39) ∧ ((x32_2 ≤ 0 ∧ (K 76 x32_1 x32_2 s_w32 rr ss)) ∨ (¬ (x32_2 ≤ 0) ∧ (∃ r_6 : Int, (∃ s_w_5 : PS, ((M_X12_farOf s_w32 (s_w32 59 (x32_2 - 1).toNat) r_6 s_w_5) ∧ ((Fr intsM [] [] s_w32 s_w_5) ∧ ((TyM s_w_5) ∧ ((0 ≤ r_6 ∧ r_6 ≤ 2147483647) ∧ (∃ r_9 : Int, (∃ s_w_8 : PS, ((M_X12_farOf s_w_5 x32_1 r_9 s_w_8) ∧ ((Fr intsM [] [] s_w_5 s_w_8) ∧ ((TyM s_w_8) ∧ ((0 ≤ r_9 ∧ r_9 ≤ 2147483647) ∧ ((r_9 ≤ r_6 ∧ (K 76 x32_1 x32_2 s_w_8 rr ss)) ∨ (¬ (r_9 ≤ r_6) ∧ (∃ s_w_12 : PS, s_w_12 = (us s_w_8 59 x32_2.toNat (s_w32 59 (x32_2 - 1).toNat)) ∧ (K 32 x32_1 (x32_2 + (-1)) s_w_12 rr ss)))))))))))))))))))))
def T_X12_packs_76 (K : Nat → Int → Int → PS → Int → PS → Prop) (x76_1 x76_2 : Int) (s_w76 : PS) (rr : Int) (ss : PS) : Prop := ((TyM s_w76) ∧ ((0 ≤ x76_1 ∧ x76_1 ≤ 39) ∧ ((0 ≤ x76_2 ∧ x76_2 ≤ 39) ∧ (∃ s_w_1 : PS, s_w_1 = (us s_w76 59 x76_2.toNat x76_1) ∧ (∃ s_w_2 : PS, s_w_2 = (us s_w_1 0 88 ((s_w76 0 88) + 1)) ∧ (K 93 x76_1 0 s_w_2 rr ss))))))
def T_X12_packs_93 (K : Nat → Int → Int → PS → Int → PS → Prop) (x93_1 : Int) (s_w93 : PS) (rr : Int) (ss : PS) : Prop := ((TyM s_w93) ∧ ((0 ≤ x93_1 ∧ x93_1 ≤ 39) ∧ (K 7 (x93_1 + 1) 0 s_w93 rr ss)))
def T_X12_packs_e (K : Nat → Int → Int → PS → Int → PS → Prop) (s_w : PS) (rr : Int) (ss : PS) : Prop := ((TyM s_w) ∧ (∃ s_w_16 : PS, s_w_16 = (us s_w 0 88 0) ∧ (K 7 0 0 s_w_16 rr ss)))
def It_X12_packs : Nat → Nat → Int → Int → PS → Int → PS → Prop
  | 0, _, _, _, _, _, _ => False
  | n + 1, pc, a0, a1, s, r, t => (pc = 7 ∧ T_X12_packs_7 (It_X12_packs n) a0 s r t) ∨ (pc = 32 ∧ T_X12_packs_32 (It_X12_packs n) a0 a1 s r t) ∨ (pc = 76 ∧ T_X12_packs_76 (It_X12_packs n) a0 a1 s r t) ∨ (pc = 93 ∧ T_X12_packs_93 (It_X12_packs n) a0 s r t)
theorem rl_X12_packs_7 {n : Nat} {a0 : Int} {s t : PS} {r : Int} (h : T_X12_packs_7 (It_X12_packs n) a0 s r t) : It_X12_packs (n + 1) 7 a0 0 s r t := Or.inl ⟨rfl, h⟩
theorem rl_X12_packs_32 {n : Nat} {a0 a1 : Int} {s t : PS} {r : Int} (h : T_X12_packs_32 (It_X12_packs n) a0 a1 s r t) : It_X12_packs (n + 1) 32 a0 a1 s r t := Or.inr (Or.inl ⟨rfl, h⟩)
theorem rl_X12_packs_76 {n : Nat} {a0 a1 : Int} {s t : PS} {r : Int} (h : T_X12_packs_76 (It_X12_packs n) a0 a1 s r t) : It_X12_packs (n + 1) 76 a0 a1 s r t := Or.inr (Or.inr (Or.inl ⟨rfl, h⟩))
theorem rl_X12_packs_93 {n : Nat} {a0 : Int} {s t : PS} {r : Int} (h : T_X12_packs_93 (It_X12_packs n) a0 s r t) : It_X12_packs (n + 1) 93 a0 0 s r t := Or.inr (Or.inr (Or.inr (⟨rfl, h⟩)))
theorem ul_X12_packs_7 {n : Nat} {a0 a1 : Int} {s t : PS} {r : Int} (h : It_X12_packs (n + 1) 7 a0 a1 s r t) : T_X12_packs_7 (It_X12_packs n) a0 s r t := by
  have h2 : ((7 : Nat) = 7 ∧ T_X12_packs_7 (It_X12_packs n) a0 s r t) ∨ ((7 : Nat) = 32 ∧ T_X12_packs_32 (It_X12_packs n) a0 a1 s r t) ∨ ((7 : Nat) = 76 ∧ T_X12_packs_76 (It_X12_packs n) a0 a1 s r t) ∨ ((7 : Nat) = 93 ∧ T_X12_packs_93 (It_X12_packs n) a0 s r t) := h
  rcases h2 with ⟨e, h2⟩ | ⟨e, h2⟩ | ⟨e, h2⟩ | ⟨e, h2⟩
  · exact h2
  · exact absurd e (by decide)
  · exact absurd e (by decide)
  · exact absurd e (by decide)
theorem ul_X12_packs_32 {n : Nat} {a0 a1 : Int} {s t : PS} {r : Int} (h : It_X12_packs (n + 1) 32 a0 a1 s r t) : T_X12_packs_32 (It_X12_packs n) a0 a1 s r t := by
  have h2 : ((32 : Nat) = 7 ∧ T_X12_packs_7 (It_X12_packs n) a0 s r t) ∨ ((32 : Nat) = 32 ∧ T_X12_packs_32 (It_X12_packs n) a0 a1 s r t) ∨ ((32 : Nat) = 76 ∧ T_X12_packs_76 (It_X12_packs n) a0 a1 s r t) ∨ ((32 : Nat) = 93 ∧ T_X12_packs_93 (It_X12_packs n) a0 s r t) := h
  rcases h2 with ⟨e, h2⟩ | ⟨e, h2⟩ | ⟨e, h2⟩ | ⟨e, h2⟩
  · exact absurd e (by decide)
  · exact h2
  · exact absurd e (by decide)
  · exact absurd e (by decide)
theorem ul_X12_packs_76 {n : Nat} {a0 a1 : Int} {s t : PS} {r : Int} (h : It_X12_packs (n + 1) 76 a0 a1 s r t) : T_X12_packs_76 (It_X12_packs n) a0 a1 s r t := by
  have h2 : ((76 : Nat) = 7 ∧ T_X12_packs_7 (It_X12_packs n) a0 s r t) ∨ ((76 : Nat) = 32 ∧ T_X12_packs_32 (It_X12_packs n) a0 a1 s r t) ∨ ((76 : Nat) = 76 ∧ T_X12_packs_76 (It_X12_packs n) a0 a1 s r t) ∨ ((76 : Nat) = 93 ∧ T_X12_packs_93 (It_X12_packs n) a0 s r t) := h
  rcases h2 with ⟨e, h2⟩ | ⟨e, h2⟩ | ⟨e, h2⟩ | ⟨e, h2⟩
  · exact absurd e (by decide)
  · exact absurd e (by decide)
  · exact h2
  · exact absurd e (by decide)
theorem ul_X12_packs_93 {n : Nat} {a0 a1 : Int} {s t : PS} {r : Int} (h : It_X12_packs (n + 1) 93 a0 a1 s r t) : T_X12_packs_93 (It_X12_packs n) a0 s r t := by
  have h2 : ((93 : Nat) = 7 ∧ T_X12_packs_7 (It_X12_packs n) a0 s r t) ∨ ((93 : Nat) = 32 ∧ T_X12_packs_32 (It_X12_packs n) a0 a1 s r t) ∨ ((93 : Nat) = 76 ∧ T_X12_packs_76 (It_X12_packs n) a0 a1 s r t) ∨ ((93 : Nat) = 93 ∧ T_X12_packs_93 (It_X12_packs n) a0 s r t) := h
  rcases h2 with ⟨e, h2⟩ | ⟨e, h2⟩ | ⟨e, h2⟩ | ⟨e, h2⟩
  · exact absurd e (by decide)
  · exact absurd e (by decide)
  · exact absurd e (by decide)
  · exact h2
def M_X12_packs (s : PS) (r : Int) (t : PS) : Prop := ∃ n, T_X12_packs_e (It_X12_packs n) s r t
theorem mk_X12_packs {n : Nat} {s t : PS} {r : Int} (h : T_X12_packs_e (It_X12_packs n) s r t) : M_X12_packs s r t := ⟨n, h⟩
def T_X12_walks_27 (K : Int → Int → Int → PS → Int → PS → Prop) (x27_1 x27_2 x27_3 : Int) (s_w27 : PS) (rr : Int) (ss : PS) : Prop := ((TyM s_w27) ∧ ((1 ≤ x27_1 ∧ x27_1 ≤ 40) ∧ ((0 ≤ x27_3 ∧ x27_3 ≤ 79) ∧ (((s_w27 0 88) ≤ x27_3 ∧ (rr = x27_2 ∧ ss = s_w27)) ∨ (¬ ((s_w27 0 88) ≤ x27_3) ∧ (∃ r_4 : Int, (∃ s_w_3 : PS, ((M_X12_farOf s_w27 (s_w27 59 x27_3.toNat) r_4 s_w_3) ∧ ((Fr intsM [] [] s_w27 s_w_3) ∧ ((TyM s_w_3) ∧ ((0 ≤ r_4 ∧ r_4 ≤ 2147483647) ∧ (K x27_1 (wi (x27_2 + (wi (2 * r_4)))) (x27_3 + x27_1) s_w_3 rr ss))))))))))))
def T_X12_walks_e (K : Int → Int → Int → PS → Int → PS → Prop) (s_w : PS) (p1 : Int) (rr : Int) (ss : PS) : Prop := ((TyM s_w) ∧ (((s_w 0 68) = 0 ∧ (rr = (-1) ∧ ss = s_w)) ∨ (¬ ((s_w 0 68) = 0) ∧ (∃ r_10 : Int, (∃ s_w_9 : PS, ((M_X12_is s_w p1 1 40 r_10 s_w_9) ∧ ((Fr intsM [] [] s_w s_w_9) ∧ ((TyM s_w_9) ∧ ((0 ≤ r_10 ∧ r_10 ≤ 1) ∧ ((r_10 = 0 ∧ (rr = (-1) ∧ ss = s_w_9)) ∨ (¬ (r_10 = 0) ∧ (∃ s_w_14 : PS, ((M_X12_packs s_w_9 0 s_w_14) ∧ ((Fr intsM [0, 59] [(0, 88)] s_w_9 s_w_14) ∧ ((TyM s_w_14) ∧ (K p1 0 0 s_w_14 rr ss))))))))))))))))
def It_X12_walks : Nat → Int → Int → Int → PS → Int → PS → Prop
  | 0, _, _, _, _, _, _ => False
  | n + 1, a0, a1, a2, s, r, t => T_X12_walks_27 (It_X12_walks n) a0 a1 a2 s r t
theorem rl_X12_walks_27 {n : Nat} {a0 a1 a2 : Int} {s t : PS} {r : Int} (h : T_X12_walks_27 (It_X12_walks n) a0 a1 a2 s r t) : It_X12_walks (n + 1) a0 a1 a2 s r t := h
theorem ul_X12_walks_27 {n : Nat} {a0 a1 a2 : Int} {s t : PS} {r : Int} (h : It_X12_walks (n + 1) a0 a1 a2 s r t) : T_X12_walks_27 (It_X12_walks n) a0 a1 a2 s r t := h
def M_X12_walks (s : PS) (p1 : Int) (r : Int) (t : PS) : Prop := ∃ n, T_X12_walks_e (It_X12_walks n) s p1 r t
theorem mk_X12_walks {n : Nat} {s t : PS} {p1 : Int} {r : Int} (h : T_X12_walks_e (It_X12_walks n) s p1 r t) : M_X12_walks s p1 r t := ⟨n, h⟩
def T_X12_bag_e (s_w : PS) (p1 : Int) (rr : Int) (ss : PS) : Prop := ((TyM s_w) ∧ (((s_w 0 68) = 0 ∧ (rr = (-1) ∧ ss = s_w)) ∨ (¬ ((s_w 0 68) = 0) ∧ (∃ s_w_2 : PS, ((M_X12_packs s_w 0 s_w_2) ∧ ((Fr intsM [0, 59] [(0, 88)] s_w s_w_2) ∧ ((TyM s_w_2) ∧ ((p1 < 0 ∧ (rr = (-1) ∧ ss = s_w_2)) ∨ (¬ (p1 < 0) ∧ ((p1 < (s_w_2 0 88) ∧ (rr = (s_w_2 59 p1.toNat) ∧ ss = s_w_2)) ∨ (¬ (p1 < (s_w_2 0 88)) ∧ (rr = (-1) ∧ ss = s_w_2))))))))))))
def M_X12_bag (s : PS) (p1 : Int) (r : Int) (t : PS) : Prop := T_X12_bag_e s p1 r t
theorem mk_X12_bag {s t : PS} {p1 : Int} {r : Int} (h : T_X12_bag_e s p1 r t) : M_X12_bag s p1 r t := h
def T_X12_bagsOf_26 (K : Nat → Int → Int → Int → Int → PS → Int → PS → Prop) (x26_1 x26_2 x26_3 x26_4 : Int) (s_w26 : PS) (rr : Int) (ss : PS) : Prop := ((TyM s_w26) ∧ ((0 ≤ x26_1 ∧ x26_1 ≤ 39) ∧ ((1 ≤ x26_2 ∧ x26_2 ≤ 24) ∧ ((0 ≤ x26_4 ∧ x26_4 ≤ 40) ∧ (((s_w26 0 69) ≤ x26_4 ∧ (rr = x26_3 ∧ ss = s_w26)) ∨ (¬ ((s_w26 0 69) ≤ x26_4) ∧ ((x26_4 = x26_1 ∧ (K 101 x26_1 x26_2 x26_3 x26_4 s_w26 rr ss)) ∨ (¬ (x26_4 = x26_1) ∧ (((s_w26 48 x26_1.toNat) = 0 ∧ (K 101 x26_1 x26_2 x26_3 x26_4 s_w26 rr ss)) ∨ (¬ ((s_w26 48 x26_1.toNat) = 0) ∧ (((s_w26 48 x26_4.toNat) = (s_w26 48 x26_1.toNat) ∧ (((s_w26 53 x26_4.toNat) = 0 ∧ (K 101 x26_1 x26_2 x26_3 x26_4 s_w26 rr ss)) ∨ (¬ ((s_w26 53 x26_4.toNat) = 0) ∧ (((s_w26 49 x26_4.toNat) = x26_2 ∧ ((x26_1 ≤ x26_4 ∧ (K 101 x26_1 x26_2 (wi (x26_3 + 1)) x26_4 s_w26 rr ss)) ∨ (¬ (x26_1 ≤ x26_4) ∧ (rr = 0 ∧ ss = s_w26)))) ∨ (¬ ((s_w26 49 x26_4.toNat) = x26_2) ∧ (K 101 x26_1 x26_2 x26_3 x26_4 s_w26 rr ss)))))) ∨ (¬ ((s_w26 48 x26_4.toNat) = (s_w26 48 x26_1.toNat)) ∧ (K 101 x26_1 x26_2 x26_3 x26_4 s_w26 rr ss)))))))))))))
def T_X12_bagsOf_101 (K : Nat → Int → Int → Int → Int → PS → Int → PS → Prop) (x101_1 x101_2 x101_3 x101_4 : Int) (s_w101 : PS) (rr : Int) (ss : PS) : Prop := ((TyM s_w101) ∧ ((0 ≤ x101_1 ∧ x101_1 ≤ 39) ∧ ((1 ≤ x101_2 ∧ x101_2 ≤ 24) ∧ ((0 ≤ x101_4 ∧ x101_4 ≤ 39) ∧ (K 26 x101_1 x101_2 x101_3 (x101_4 + 1) s_w101 rr ss)))))
def T_X12_bagsOf_e (K : Nat → Int → Int → Int → Int → PS → Int → PS → Prop) (s_w : PS) (p1 p2 : Int) (rr : Int) (ss : PS) : Prop := ((TyM s_w) ∧ ((0 ≤ p1 ∧ p1 ≤ 39) ∧ ((1 ≤ p2 ∧ p2 ≤ 24) ∧ (((s_w 53 p1.toNat) = 0 ∧ (rr = 0 ∧ ss = s_w)) ∨ (¬ ((s_w 53 p1.toNat) = 0) ∧ (((s_w 49 p1.toNat) = p2 ∧ (K 26 p1 p2 1 0 s_w rr ss)) ∨ (¬ ((s_w 49 p1.toNat) = p2) ∧ (rr = 0 ∧ ss = s_w))))))))
def It_X12_bagsOf : Nat → Nat → Int → Int → Int → Int → PS → Int → PS → Prop
  | 0, _, _, _, _, _, _, _, _ => False
  | n + 1, pc, a0, a1, a2, a3, s, r, t => (pc = 26 ∧ T_X12_bagsOf_26 (It_X12_bagsOf n) a0 a1 a2 a3 s r t) ∨ (pc = 101 ∧ T_X12_bagsOf_101 (It_X12_bagsOf n) a0 a1 a2 a3 s r t)
theorem rl_X12_bagsOf_26 {n : Nat} {a0 a1 a2 a3 : Int} {s t : PS} {r : Int} (h : T_X12_bagsOf_26 (It_X12_bagsOf n) a0 a1 a2 a3 s r t) : It_X12_bagsOf (n + 1) 26 a0 a1 a2 a3 s r t := Or.inl ⟨rfl, h⟩
theorem rl_X12_bagsOf_101 {n : Nat} {a0 a1 a2 a3 : Int} {s t : PS} {r : Int} (h : T_X12_bagsOf_101 (It_X12_bagsOf n) a0 a1 a2 a3 s r t) : It_X12_bagsOf (n + 1) 101 a0 a1 a2 a3 s r t := Or.inr (⟨rfl, h⟩)
theorem ul_X12_bagsOf_26 {n : Nat} {a0 a1 a2 a3 : Int} {s t : PS} {r : Int} (h : It_X12_bagsOf (n + 1) 26 a0 a1 a2 a3 s r t) : T_X12_bagsOf_26 (It_X12_bagsOf n) a0 a1 a2 a3 s r t := by
  have h2 : ((26 : Nat) = 26 ∧ T_X12_bagsOf_26 (It_X12_bagsOf n) a0 a1 a2 a3 s r t) ∨ ((26 : Nat) = 101 ∧ T_X12_bagsOf_101 (It_X12_bagsOf n) a0 a1 a2 a3 s r t) := h
  rcases h2 with ⟨e, h2⟩ | ⟨e, h2⟩
  · exact h2
  · exact absurd e (by decide)
theorem ul_X12_bagsOf_101 {n : Nat} {a0 a1 a2 a3 : Int} {s t : PS} {r : Int} (h : It_X12_bagsOf (n + 1) 101 a0 a1 a2 a3 s r t) : T_X12_bagsOf_101 (It_X12_bagsOf n) a0 a1 a2 a3 s r t := by
  have h2 : ((101 : Nat) = 26 ∧ T_X12_bagsOf_26 (It_X12_bagsOf n) a0 a1 a2 a3 s r t) ∨ ((101 : Nat) = 101 ∧ T_X12_bagsOf_101 (It_X12_bagsOf n) a0 a1 a2 a3 s r t) := h
  rcases h2 with ⟨e, h2⟩ | ⟨e, h2⟩
  · exact absurd e (by decide)
  · exact h2
def M_X12_bagsOf (s : PS) (p1 p2 : Int) (r : Int) (t : PS) : Prop := ∃ n, T_X12_bagsOf_e (It_X12_bagsOf n) s p1 p2 r t
theorem mk_X12_bagsOf {n : Nat} {s t : PS} {p1 p2 : Int} {r : Int} (h : T_X12_bagsOf_e (It_X12_bagsOf n) s p1 p2 r t) : M_X12_bagsOf s p1 p2 r t := ⟨n, h⟩
