def T_X12_queue_44 (K : Nat → Int → Int → Int → Int → Int → Int → Int → Int → Int → Int → PS → Int → PS → Prop) (x44_1 x44_2 x44_3 x44_4 x44_5 : Int) (s_w44 : PS) (rr : Int) (ss : PS) : Prop := ((TyM s_w44) ∧ ((1 ≤ x44_1 ∧ x44_1 ≤ 24) ∧ ((1 ≤ x44_2 ∧ x44_2 ≤ 9) ∧ ((0 ≤ x44_3 ∧ x44_3 ≤ 2) ∧ ((0 ≤ x44_4 ∧ x44_4 ≤ 40) ∧ ((0 ≤ x44_5 ∧ x44_5 ≤ 40) ∧ (((s_w44 0 69) ≤ x44_5 ∧ (K 165 x44_1 x44_2 x44_3 x44_4 0 0 0 0 0 0 s_w44 rr ss)) ∨ (¬ ((s_w44 0 69) ≤ x44_5) ∧ (∃ r_26 : Int, (∃ s_w_25 : PS, ((M_X12_bagsOf s_w44 x44_5 x44_1 r_26 s_w_25) ∧ ((Fr intsM [] [] s_w44 s_w_25) ∧ ((TyM s_w_25) ∧ ((r_26 = 0 ∧ (K 156 x44_1 x44_2 x44_3 x44_4 x44_5 r_26 0 0 0 0 s_w_25 rr ss)) ∨ (¬ (r_26 = 0) ∧ (K 74 x44_1 x44_2 x44_3 x44_4 x44_5 r_26 x44_4 0 0 0 s_w_25 rr ss))))))))))))))))
def T_X12_queue_74 (K : Nat → Int → Int → Int → Int → Int → Int → Int → Int → Int → Int → PS → Int → PS → Prop) (x74_1 x74_2 x74_3 x74_4 x74_5 x74_6 x74_7 : Int) (s_w74 : PS) (rr : Int) (ss : PS) : Prop := ((TyM s_w74) ∧ ((1 ≤ x74_1 ∧ x74_1 ≤ 24) ∧ ((1 ≤ x74_2 ∧ x74_2 ≤ 9) ∧ ((0 ≤ x74_3 ∧ x74_3 ≤ 2) ∧ ((0 ≤ x74_4 ∧ x74_4 ≤ 39) ∧ ((0 ≤ x74_5 ∧ x74_5 ≤ 39) ∧ ((0 ≤ x74_7 ∧ x74_7 ≤ 39) ∧ ((x74_7 ≤ 0 ∧ (K 133 x74_1 x74_2 x74_3 x74_4 x74_5 x74_6 x74_7 0 0 0 s_w74 rr ss)) ∨ (¬ (x74_7 ≤ 0) ∧ (((s_w74 61 (x74_7 - 1).toNat) ≤ (wi (x74_6 + 2)) ∧ (K 133 x74_1 x74_2 x74_3 x74_4 x74_5 x74_6 x74_7 0 0 0 s_w74 rr ss)) ∨ (¬ ((s_w74 61 (x74_7 - 1).toNat) ≤ (wi (x74_6 + 2))) ∧ (∃ s_w_21 : PS, s_w_21 = (us s_w74 61 x74_7.toNat (s_w74 61 (x74_7 - 1).toNat)) ∧ (∃ s_w_23 : PS, s_w_23 = (us s_w_21 60 x74_7.toNat (s_w74 60 (x74_7 - 1).toNat)) ∧ (K 74 x74_1 x74_2 x74_3 x74_4 x74_5 x74_6 (x74_7 + (-1)) 0 0 0 s_w_23 rr ss))))))))))))))
def T_X12_queue_133 (K : Nat → Int → Int → Int → Int → Int → Int → Int → Int → Int → Int → PS → Int → PS → Prop) (x133_1 x133_2 x133_3 x133_4 x133_5 x133_6 x133_7 : Int) (s_w133 : PS) (rr : Int) (ss : PS) : Prop := ((TyM s_w133) ∧ ((1 ≤ x133_1 ∧ x133_1 ≤ 24) ∧ ((1 ≤ x133_2 ∧ x133_2 ≤ 9) ∧ ((0 ≤ x133_3 ∧ x133_3 ≤ 2) ∧ ((0 ≤ x133_4 ∧ x133_4 ≤ 39) ∧ ((0 ≤ x133_5 ∧ x133_5 ≤ 39) ∧ ((0 ≤ x133_7 ∧ x133_7 ≤ 39) ∧ (∃ s_w_16 : PS, s_w_16 = (us s_w133 61 x133_7.toNat (wi (x133_6 + 2))) ∧ (∃ s_w_17 : PS, s_w_17 = (us s_w_16 60 x133_7.toNat x133_5) ∧ (K 156 x133_1 x133_2 x133_3 (x133_4 + 1) x133_5 x133_6 0 0 0 0 s_w_17 rr ss))))))))))
def T_X12_queue_156 (K : Nat → Int → Int → Int → Int → Int → Int → Int → Int → Int → Int → PS → Int → PS → Prop) (x156_1 x156_2 x156_3 x156_4 x156_5 x156_6 : Int) (s_w156 : PS) (rr : Int) (ss : PS) : Prop := ((TyM s_w156) ∧ ((1 ≤ x156_1 ∧ x156_1 ≤ 24) ∧ ((1 ≤ x156_2 ∧ x156_2 ≤ 9) ∧ ((0 ≤ x156_3 ∧ x156_3 ≤ 2) ∧ ((0 ≤ x156_4 ∧ x156_4 ≤ 40) ∧ ((0 ≤ x156_5 ∧ x156_5 ≤ 39) ∧ (K 44 x156_1 x156_2 x156_3 x156_4 (x156_5 + 1) 0 0 0 0 0 s_w156 rr ss)))))))
def T_X12_queue_165 (K : Nat → Int → Int → Int → Int → Int → Int → Int → Int → Int → Int → PS → Int → PS → Prop) (x165_1 x165_2 x165_3 x165_4 x165_5 : Int) (s_w165 : PS) (rr : Int) (ss : PS) : Prop := ((TyM s_w165) ∧ ((1 ≤ x165_1 ∧ x165_1 ≤ 24) ∧ ((1 ≤ x165_2 ∧ x165_2 ≤ 9) ∧ ((0 ≤ x165_3 ∧ x165_3 ≤ 2) ∧ ((0 ≤ x165_4 ∧ x165_4 ≤ 40) ∧ ((0 ≤ x165_5 ∧ x165_5 ≤ 9) ∧ ((9 ≤ x165_5 ∧ (K 195 x165_1 x165_2 x165_3 x165_4 0 0 0 0 0 0 s_w165 rr ss)) ∨ (¬ (9 ≤ x165_5) ∧ (∃ s_w_15 : PS, s_w_15 = (us s_w165 62 x165_5.toNat 0) ∧ (K 165 x165_1 x165_2 x165_3 x165_4 (x165_5 + 1) 0 0 0 0 0 s_w_15 rr ss))))))))))
def T_X12_queue_195 (K : Nat → Int → Int → Int → Int → Int → Int → Int → Int → Int → Int → PS → Int → PS → Prop) (x195_1 x195_2 x195_3 x195_4 x195_5 x195_6 x195_7 : Int) (s_w195 : PS) (rr : Int) (ss : PS) : Prop := ((TyM s_w195) ∧ ((1 ≤ x195_1 ∧ x195_1 ≤ 24) ∧ ((1 ≤ x195_2 ∧ x195_2 ≤ 9) ∧ ((0 ≤ x195_3 ∧ x195_3 ≤ 2) ∧ ((0 ≤ x195_4 ∧ x195_4 ≤ 40) ∧ ((0 ≤ x195_6 ∧ x195_6 ≤ 2147483647) ∧ ((0 ≤ x195_7 ∧ x195_7 ≤ 40) ∧ ((x195_4 ≤ x195_7 ∧ ((x195_3 = 0 ∧ (rr = x195_4 ∧ ss = s_w195)) ∨ (¬ (x195_3 = 0) ∧ ((x195_3 = 1 ∧ (rr = x195_5 ∧ ss = s_w195)) ∨ (¬ (x195_3 = 1) ∧ (rr = x195_6 ∧ ss = s_w195)))))) ∨ (¬ (x195_4 ≤ x195_7) ∧ (K 208 x195_1 x195_2 x195_3 x195_4 x195_5 x195_6 x195_7 0 1 0 s_w195 rr ss))))))))))
def T_X12_queue_208 (K : Nat → Int → Int → Int → Int → Int → Int → Int → Int → Int → Int → PS → Int → PS → Prop) (x208_1 x208_2 x208_3 x208_4 x208_5 x208_6 x208_7 x208_8 x208_9 : Int) (s_w208 : PS) (rr : Int) (ss : PS) : Prop := ((TyM s_w208) ∧ ((1 ≤ x208_1 ∧ x208_1 ≤ 24) ∧ ((1 ≤ x208_2 ∧ x208_2 ≤ 9) ∧ ((0 ≤ x208_3 ∧ x208_3 ≤ 2) ∧ ((1 ≤ x208_4 ∧ x208_4 ≤ 40) ∧ ((0 ≤ x208_6 ∧ x208_6 ≤ 2147483647) ∧ ((0 ≤ x208_7 ∧ x208_7 ≤ 39) ∧ ((0 ≤ x208_8 ∧ x208_8 ≤ 8) ∧ ((1 ≤ x208_9 ∧ x208_9 ≤ 9) ∧ ((x208_2 ≤ x208_9 ∧ (∃ s_w_6 : PS, s_w_6 = (us s_w208 62 x208_8.toNat (wi ((s_w208 62 x208_8.toNat) + (s_w208 61 x208_7.toNat)))) ∧ (((wi ((s_w208 62 x208_8.toNat) + (s_w208 61 x208_7.toNat))) ≤ x208_6 ∧ (K 299 x208_1 x208_2 x208_3 x208_4 (wi (x208_5 + (s_w208 62 x208_8.toNat))) x208_6 x208_7 x208_8 x208_9 x208_6 s_w_6 rr ss)) ∨ (¬ ((wi ((s_w208 62 x208_8.toNat) + (s_w208 61 x208_7.toNat))) ≤ x208_6) ∧ (K 299 x208_1 x208_2 x208_3 x208_4 (wi (x208_5 + (s_w208 62 x208_8.toNat))) x208_6 x208_7 x208_8 x208_9 (wi ((s_w208 62 x208_8.toNat) + (s_w208 61 x208_7.toNat))) s_w_6 rr ss))))) ∨ (¬ (x208_2 ≤ x208_9) ∧ (((s_w208 62 x208_8.toNat) ≤ (s_w208 62 x208_9.toNat) ∧ (K 238 x208_1 x208_2 x208_3 x208_4 x208_5 x208_6 x208_7 x208_8 x208_9 x208_8 s_w208 rr ss)) ∨ (¬ ((s_w208 62 x208_8.toNat) ≤ (s_w208 62 x208_9.toNat)) ∧ (K 238 x208_1 x208_2 x208_3 x208_4 x208_5 x208_6 x208_7 x208_8 x208_9 x208_9 s_w208 rr ss))))))))))))))
def T_X12_queue_238 (K : Nat → Int → Int → Int → Int → Int → Int → Int → Int → Int → Int → PS → Int → PS → Prop) (x238_1 x238_2 x238_3 x238_4 x238_5 x238_6 x238_7 x238_8 x238_9 y238_0 : Int) (s_w238 : PS) (rr : Int) (ss : PS) : Prop := ((TyM s_w238) ∧ ((1 ≤ x238_1 ∧ x238_1 ≤ 24) ∧ ((2 ≤ x238_2 ∧ x238_2 ≤ 9) ∧ ((0 ≤ x238_3 ∧ x238_3 ≤ 2) ∧ ((1 ≤ x238_4 ∧ x238_4 ≤ 40) ∧ ((0 ≤ x238_6 ∧ x238_6 ≤ 2147483647) ∧ ((0 ≤ x238_7 ∧ x238_7 ≤ 39) ∧ ((0 ≤ x238_8 ∧ x238_8 ≤ 8) ∧ ((1 ≤ x238_9 ∧ x238_9 ≤ 8) ∧ ((0 ≤ y238_0 ∧ y238_0 ≤ 8) ∧ (K 208 x238_1 x238_2 x238_3 x238_4 x238_5 x238_6 x238_7 y238_0 (x238_9 + 1) 0 s_w238 rr ss)))))))))))
def T_X12_queue_299 (K : Nat → Int → Int → Int → Int → Int → Int → Int → Int → Int → Int → PS → Int → PS → Prop) (x299_1 x299_2 x299_3 x299_4 x299_5 x299_6 x299_7 x299_8 x299_9 y299_0 : Int) (s_w299 : PS) (rr : Int) (ss : PS) : Prop := ((TyM s_w299) ∧ ((1 ≤ x299_1 ∧ x299_1 ≤ 24) ∧ ((1 ≤ x299_2 ∧ x299_2 ≤ 9) ∧ ((0 ≤ x299_3 ∧ x299_3 ≤ 2) ∧ ((1 ≤ x299_4 ∧ x299_4 ≤ 40) ∧ ((0 ≤ x299_6 ∧ x299_6 ≤ 2147483647) ∧ ((0 ≤ x299_7 ∧ x299_7 ≤ 39) ∧ ((0 ≤ x299_8 ∧ x299_8 ≤ 8) ∧ ((1 ≤ x299_9 ∧ x299_9 ≤ 9) ∧ ((0 ≤ y299_0 ∧ y299_0 ≤ 2147483647) ∧ (K 195 x299_1 x299_2 x299_3 x299_4 x299_5 y299_0 (x299_7 + 1) 0 0 0 s_w299 rr ss)))))))))))
def T_X12_queue_e (K : Nat → Int → Int → Int → Int → Int → Int → Int → Int → Int → Int → PS → Int → PS → Prop) (s_w : PS) (p1 p2 p3 : Int) (rr : Int) (ss : PS) : Prop := ((TyM s_w) ∧ (((s_w 0 68) = 0 ∧ (rr = (-1) ∧ ss = s_w)) ∨ (¬ ((s_w 0 68) = 0) ∧ (∃ r_31 : Int, (∃ s_w_30 : PS, ((M_X12_is s_w p1 1 24 r_31 s_w_30) ∧ ((Fr intsM [] [] s_w s_w_30) ∧ ((TyM s_w_30) ∧ ((0 ≤ r_31 ∧ r_31 ≤ 1) ∧ ((r_31 = 0 ∧ (rr = (-1) ∧ ss = s_w_30)) ∨ (¬ (r_31 = 0) ∧ (∃ r_36 : Int, (∃ s_w_35 : PS, ((M_X12_is s_w_30 p2 1 9 r_36 s_w_35) ∧ ((Fr intsM [] [] s_w_30 s_w_35) ∧ ((TyM s_w_35) ∧ ((0 ≤ r_36 ∧ r_36 ≤ 1) ∧ ((r_36 = 0 ∧ (rr = (-1) ∧ ss = s_w_35)) ∨ (¬ (r_36 = 0) ∧ (∃ r_41 : Int, (∃ s_w_40 : PS, ((M_X12_is s_w_35 p3 0 2 r_41 s_w_40) ∧ ((Fr intsM [] [] s_w_35 s_w_40) ∧ ((TyM s_w_40) ∧ ((0 ≤ r_41 ∧ r_41 ≤ 1) ∧ ((r_41 = 0 ∧ (rr = (-1) ∧ ss = s_w_40)) ∨ (¬ (r_41 = 0) ∧ (K 44 p1 p2 p3 0 0 0 0 0 0 0 s_w_40 rr ss))))))))))))))))))))))))))))
def It_X12_queue : Nat → Nat → Int → Int → Int → Int → Int → Int → Int → Int → Int → Int → PS → Int → PS → Prop
  | 0, _, _, _, _, _, _, _, _, _, _, _, _, _, _ => False
  | n + 1, pc, a0, a1, a2, a3, a4, a5, a6, a7, a8, a9, s, r, t => (pc = 44 ∧ T_X12_queue_44 (It_X12_queue n) a0 a1 a2 a3 a4 s r t) ∨ (pc = 74 ∧ T_X12_queue_74 (It_X12_queue n) a0 a1 a2 a3 a4 a5 a6 s r t) ∨ (pc = 133 ∧ T_X12_queue_133 (It_X12_queue n) a0 a1 a2 a3 a4 a5 a6 s r t) ∨ (pc = 156 ∧ T_X12_queue_156 (It_X12_queue n) a0 a1 a2 a3 a4 a5 s r t) ∨ (pc = 165 ∧ T_X12_queue_165 (It_X12_queue n) a0 a1 a2 a3 a4 s r t) ∨ (pc = 195 ∧ T_X12_queue_195 (It_X12_queue n) a0 a1 a2 a3 a4 a5 a6 s r t) ∨ (pc = 208 ∧ T_X12_queue_208 (It_X12_queue n) a0 a1 a2 a3 a4 a5 a6 a7 a8 s r t) ∨ (pc = 238 ∧ T_X12_queue_238 (It_X12_queue n) a0 a1 a2 a3 a4 a5 a6 a7 a8 a9 s r t) ∨ (pc = 299 ∧ T_X12_queue_299 (It_X12_queue n) a0 a1 a2 a3 a4 a5 a6 a7 a8 a9 s r t)
theorem rl_X12_queue_44 {n : Nat} {a0 a1 a2 a3 a4 : Int} {s t : PS} {r : Int} (h : T_X12_queue_44 (It_X12_queue n) a0 a1 a2 a3 a4 s r t) : It_X12_queue (n + 1) 44 a0 a1 a2 a3 a4 0 0 0 0 0 s r t := Or.inl ⟨rfl, h⟩
theorem rl_X12_queue_74 {n : Nat} {a0 a1 a2 a3 a4 a5 a6 : Int} {s t : PS} {r : Int} (h : T_X12_queue_74 (It_X12_queue n) a0 a1 a2 a3 a4 a5 a6 s r t) : It_X12_queue (n + 1) 74 a0 a1 a2 a3 a4 a5 a6 0 0 0 s r t := Or.inr (Or.inl ⟨rfl, h⟩)
theorem rl_X12_queue_133 {n : Nat} {a0 a1 a2 a3 a4 a5 a6 : Int} {s t : PS} {r : Int} (h : T_X12_queue_133 (It_X12_queue n) a0 a1 a2 a3 a4 a5 a6 s r t) : It_X12_queue (n + 1) 133 a0 a1 a2 a3 a4 a5 a6 0 0 0 s r t := Or.inr (Or.inr (Or.inl ⟨rfl, h⟩))
theorem rl_X12_queue_156 {n : Nat} {a0 a1 a2 a3 a4 a5 : Int} {s t : PS} {r : Int} (h : T_X12_queue_156 (It_X12_queue n) a0 a1 a2 a3 a4 a5 s r t) : It_X12_queue (n + 1) 156 a0 a1 a2 a3 a4 a5 0 0 0 0 s r t := Or.inr (Or.inr (Or.inr (Or.inl ⟨rfl, h⟩)))
theorem rl_X12_queue_165 {n : Nat} {a0 a1 a2 a3 a4 : Int} {s t : PS} {r : Int} (h : T_X12_queue_165 (It_X12_queue n) a0 a1 a2 a3 a4 s r t) : It_X12_queue (n + 1) 165 a0 a1 a2 a3 a4 0 0 0 0 0 s r t := Or.inr (Or.inr (Or.inr (Or.inr (Or.inl ⟨rfl, h⟩))))
theorem rl_X12_queue_195 {n : Nat} {a0 a1 a2 a3 a4 a5 a6 : Int} {s t : PS} {r : Int} (h : T_X12_queue_195 (It_X12_queue n) a0 a1 a2 a3 a4 a5 a6 s r t) : It_X12_queue (n + 1) 195 a0 a1 a2 a3 a4 a5 a6 0 0 0 s r t := Or.inr (Or.inr (Or.inr (Or.inr (Or.inr (Or.inl ⟨rfl, h⟩)))))
theorem rl_X12_queue_208 {n : Nat} {a0 a1 a2 a3 a4 a5 a6 a7 a8 : Int} {s t : PS} {r : Int} (h : T_X12_queue_208 (It_X12_queue n) a0 a1 a2 a3 a4 a5 a6 a7 a8 s r t) : It_X12_queue (n + 1) 208 a0 a1 a2 a3 a4 a5 a6 a7 a8 0 s r t := Or.inr (Or.inr (Or.inr (Or.inr (Or.inr (Or.inr (Or.inl ⟨rfl, h⟩))))))
theorem rl_X12_queue_238 {n : Nat} {a0 a1 a2 a3 a4 a5 a6 a7 a8 a9 : Int} {s t : PS} {r : Int} (h : T_X12_queue_238 (It_X12_queue n) a0 a1 a2 a3 a4 a5 a6 a7 a8 a9 s r t) : It_X12_queue (n + 1) 238 a0 a1 a2 a3 a4 a5 a6 a7 a8 a9 s r t := Or.inr (Or.inr (Or.inr (Or.inr (Or.inr (Or.inr (Or.inr (Or.inl ⟨rfl, h⟩)))))))
theorem rl_X12_queue_299 {n : Nat} {a0 a1 a2 a3 a4 a5 a6 a7 a8 a9 : Int} {s t : PS} {r : Int} (h : T_X12_queue_299 (It_X12_queue n) a0 a1 a2 a3 a4 a5 a6 a7 a8 a9 s r t) : It_X12_queue (n + 1) 299 a0 a1 a2 a3 a4 a5 a6 a7 a8 a9 s r t := Or.inr (Or.inr (Or.inr (Or.inr (Or.inr (Or.inr (Or.inr (Or.inr (⟨rfl, h⟩))))))))
theorem ul_X12_queue_44 {n : Nat} {a0 a1 a2 a3 a4 a5 a6 a7 a8 a9 : Int} {s t : PS} {r : Int} (h : It_X12_queue (n + 1) 44 a0 a1 a2 a3 a4 a5 a6 a7 a8 a9 s r t) : T_X12_queue_44 (It_X12_queue n) a0 a1 a2 a3 a4 s r t := by
  have h2 : ((44 : Nat) = 44 ∧ T_X12_queue_44 (It_X12_queue n) a0 a1 a2 a3 a4 s r t) ∨ ((44 : Nat) = 74 ∧ T_X12_queue_74 (It_X12_queue n) a0 a1 a2 a3 a4 a5 a6 s r t) ∨ ((44 : Nat) = 133 ∧ T_X12_queue_133 (It_X12_queue n) a0 a1 a2 a3 a4 a5 a6 s r t) ∨ ((44 : Nat) = 156 ∧ T_X12_queue_156 (It_X12_queue n) a0 a1 a2 a3 a4 a5 s r t) ∨ ((44 : Nat) = 165 ∧ T_X12_queue_165 (It_X12_queue n) a0 a1 a2 a3 a4 s r t) ∨ ((44 : Nat) = 195 ∧ T_X12_queue_195 (It_X12_queue n) a0 a1 a2 a3 a4 a5 a6 s r t) ∨ ((44 : Nat) = 208 ∧ T_X12_queue_208 (It_X12_queue n) a0 a1 a2 a3 a4 a5 a6 a7 a8 s r t) ∨ ((44 : Nat) = 238 ∧ T_X12_queue_238 (It_X12_queue n) a0 a1 a2 a3 a4 a5 a6 a7 a8 a9 s r t) ∨ ((44 : Nat) = 299 ∧ T_X12_queue_299 (It_X12_queue n) a0 a1 a2 a3 a4 a5 a6 a7 a8 a9 s r t) := h
  rcases h2 with ⟨e, h2⟩ | ⟨e, h2⟩ | ⟨e, h2⟩ | ⟨e, h2⟩ | ⟨e, h2⟩ | ⟨e, h2⟩ | ⟨e, h2⟩ | ⟨e, h2⟩ | ⟨e, h2⟩
  · exact h2
  · exact absurd e (by decide)
  · exact absurd e (by decide)
  · exact absurd e (by decide)
  · exact absurd e (by decide)
  · exact absurd e (by decide)
  · exact absurd e (by decide)
  · exact absurd e (by decide)
  · exact absurd e (by decide)
theorem ul_X12_queue_74 {n : Nat} {a0 a1 a2 a3 a4 a5 a6 a7 a8 a9 : Int} {s t : PS} {r : Int} (h : It_X12_queue (n + 1) 74 a0 a1 a2 a3 a4 a5 a6 a7 a8 a9 s r t) : T_X12_queue_74 (It_X12_queue n) a0 a1 a2 a3 a4 a5 a6 s r t := by
  have h2 : ((74 : Nat) = 44 ∧ T_X12_queue_44 (It_X12_queue n) a0 a1 a2 a3 a4 s r t) ∨ ((74 : Nat) = 74 ∧ T_X12_queue_74 (It_X12_queue n) a0 a1 a2 a3 a4 a5 a6 s r t) ∨ ((74 : Nat) = 133 ∧ T_X12_queue_133 (It_X12_queue n) a0 a1 a2 a3 a4 a5 a6 s r t) ∨ ((74 : Nat) = 156 ∧ T_X12_queue_156 (It_X12_queue n) a0 a1 a2 a3 a4 a5 s r t) ∨ ((74 : Nat) = 165 ∧ T_X12_queue_165 (It_X12_queue n) a0 a1 a2 a3 a4 s r t) ∨ ((74 : Nat) = 195 ∧ T_X12_queue_195 (It_X12_queue n) a0 a1 a2 a3 a4 a5 a6 s r t) ∨ ((74 : Nat) = 208 ∧ T_X12_queue_208 (It_X12_queue n) a0 a1 a2 a3 a4 a5 a6 a7 a8 s r t) ∨ ((74 : Nat) = 238 ∧ T_X12_queue_238 (It_X12_queue n) a0 a1 a2 a3 a4 a5 a6 a7 a8 a9 s r t) ∨ ((74 : Nat) = 299 ∧ T_X12_queue_299 (It_X12_queue n) a0 a1 a2 a3 a4 a5 a6 a7 a8 a9 s r t) := h
  rcases h2 with ⟨e, h2⟩ | ⟨e, h2⟩ | ⟨e, h2⟩ | ⟨e, h2⟩ | ⟨e, h2⟩ | ⟨e, h2⟩ | ⟨e, h2⟩ | ⟨e, h2⟩ | ⟨e, h2⟩
  · exact absurd e (by decide)
  · exact h2
  · exact absurd e (by decide)
  · exact absurd e (by decide)
  · exact absurd e (by decide)
  · exact absurd e (by decide)
  · exact absurd e (by decide)
  · exact absurd e (by decide)
  · exact absurd e (by decide)
theorem ul_X12_queue_133 {n : Nat} {a0 a1 a2 a3 a4 a5 a6 a7 a8 a9 : Int} {s t : PS} {r : Int} (h : It_X12_queue (n + 1) 133 a0 a1 a2 a3 a4 a5 a6 a7 a8 a9 s r t) : T_X12_queue_133 (It_X12_queue n) a0 a1 a2 a3 a4 a5 a6 s r t := by
  have h2 : ((133 : Nat) = 44 ∧ T_X12_queue_44 (It_X12_queue n) a0 a1 a2 a3 a4 s r t) ∨ ((133 : Nat) = 74 ∧ T_X12_queue_74 (It_X12_queue n) a0 a1 a2 a3 a4 a5 a6 s r t) ∨ ((133 : Nat) = 133 ∧ T_X12_queue_133 (It_X12_queue n) a0 a1 a2 a3 a4 a5 a6 s r t) ∨ ((133 : Nat) = 156 ∧ T_X12_queue_156 (It_X12_queue n) a0 a1 a2 a3 a4 a5 s r t) ∨ ((133 : Nat) = 165 ∧ T_X12_queue_165 (It_X12_queue n) a0 a1 a2 a3 a4 s r t) ∨ ((133 : Nat) = 195 ∧ T_X12_queue_195 (It_X12_queue n) a0 a1 a2 a3 a4 a5 a6 s r t) ∨ ((133 : Nat) = 208 ∧ T_X12_queue_208 (It_X12_queue n) a0 a1 a2 a3 a4 a5 a6 a7 a8 s r t) ∨ ((133 : Nat) = 238 ∧ T_X12_queue_238 (It_X12_queue n) a0 a1 a2 a3 a4 a5 a6 a7 a8 a9 s r t) ∨ ((133 : Nat) = 299 ∧ T_X12_queue_299 (It_X12_queue n) a0 a1 a2 a3 a4 a5 a6 a7 a8 a9 s r t) := h
  rcases h2 with ⟨e, h2⟩ | ⟨e, h2⟩ | ⟨e, h2⟩ | ⟨e, h2⟩ | ⟨e, h2⟩ | ⟨e, h2⟩ | ⟨e, h2⟩ | ⟨e, h2⟩ | ⟨e, h2⟩
  · exact absurd e (by decide)
  · exact absurd e (by decide)
  · exact h2
  · exact absurd e (by decide)
  · exact absurd e (by decide)
  · exact absurd e (by decide)
  · exact absurd e (by decide)
  · exact absurd e (by decide)
  · exact absurd e (by decide)
theorem ul_X12_queue_156 {n : Nat} {a0 a1 a2 a3 a4 a5 a6 a7 a8 a9 : Int} {s t : PS} {r : Int} (h : It_X12_queue (n + 1) 156 a0 a1 a2 a3 a4 a5 a6 a7 a8 a9 s r t) : T_X12_queue_156 (It_X12_queue n) a0 a1 a2 a3 a4 a5 s r t := by
  have h2 : ((156 : Nat) = 44 ∧ T_X12_queue_44 (It_X12_queue n) a0 a1 a2 a3 a4 s r t) ∨ ((156 : Nat) = 74 ∧ T_X12_queue_74 (It_X12_queue n) a0 a1 a2 a3 a4 a5 a6 s r t) ∨ ((156 : Nat) = 133 ∧ T_X12_queue_133 (It_X12_queue n) a0 a1 a2 a3 a4 a5 a6 s r t) ∨ ((156 : Nat) = 156 ∧ T_X12_queue_156 (It_X12_queue n) a0 a1 a2 a3 a4 a5 s r t) ∨ ((156 : Nat) = 165 ∧ T_X12_queue_165 (It_X12_queue n) a0 a1 a2 a3 a4 s r t) ∨ ((156 : Nat) = 195 ∧ T_X12_queue_195 (It_X12_queue n) a0 a1 a2 a3 a4 a5 a6 s r t) ∨ ((156 : Nat) = 208 ∧ T_X12_queue_208 (It_X12_queue n) a0 a1 a2 a3 a4 a5 a6 a7 a8 s r t) ∨ ((156 : Nat) = 238 ∧ T_X12_queue_238 (It_X12_queue n) a0 a1 a2 a3 a4 a5 a6 a7 a8 a9 s r t) ∨ ((156 : Nat) = 299 ∧ T_X12_queue_299 (It_X12_queue n) a0 a1 a2 a3 a4 a5 a6 a7 a8 a9 s r t) := h
  rcases h2 with ⟨e, h2⟩ | ⟨e, h2⟩ | ⟨e, h2⟩ | ⟨e, h2⟩ | ⟨e, h2⟩ | ⟨e, h2⟩ | ⟨e, h2⟩ | ⟨e, h2⟩ | ⟨e, h2⟩
  · exact absurd e (by decide)
  · exact absurd e (by decide)
  · exact absurd e (by decide)
  · exact h2
  · exact absurd e (by decide)
  · exact absurd e (by decide)
  · exact absurd e (by decide)
  · exact absurd e (by decide)
  · exact absurd e (by decide)
theorem ul_X12_queue_165 {n : Nat} {a0 a1 a2 a3 a4 a5 a6 a7 a8 a9 : Int} {s t : PS} {r : Int} (h : It_X12_queue (n + 1) 165 a0 a1 a2 a3 a4 a5 a6 a7 a8 a9 s r t) : T_X12_queue_165 (It_X12_queue n) a0 a1 a2 a3 a4 s r t := by
  have h2 : ((165 : Nat) = 44 ∧ T_X12_queue_44 (It_X12_queue n) a0 a1 a2 a3 a4 s r t) ∨ ((165 : Nat) = 74 ∧ T_X12_queue_74 (It_X12_queue n) a0 a1 a2 a3 a4 a5 a6 s r t) ∨ ((165 : Nat) = 133 ∧ T_X12_queue_133 (It_X12_queue n) a0 a1 a2 a3 a4 a5 a6 s r t) ∨ ((165 : Nat) = 156 ∧ T_X12_queue_156 (It_X12_queue n) a0 a1 a2 a3 a4 a5 s r t) ∨ ((165 : Nat) = 165 ∧ T_X12_queue_165 (It_X12_queue n) a0 a1 a2 a3 a4 s r t) ∨ ((165 : Nat) = 195 ∧ T_X12_queue_195 (It_X12_queue n) a0 a1 a2 a3 a4 a5 a6 s r t) ∨ ((165 : Nat) = 208 ∧ T_X12_queue_208 (It_X12_queue n) a0 a1 a2 a3 a4 a5 a6 a7 a8 s r t) ∨ ((165 : Nat) = 238 ∧ T_X12_queue_238 (It_X12_queue n) a0 a1 a2 a3 a4 a5 a6 a7 a8 a9 s r t) ∨ ((165 : Nat) = 299 ∧ T_X12_queue_299 (It_X12_queue n) a0 a1 a2 a3 a4 a5 a6 a7 a8 a9 s r t) := h
  rcases h2 with ⟨e, h2⟩ | ⟨e, h2⟩ | ⟨e, h2⟩ | ⟨e, h2⟩ | ⟨e, h2⟩ | ⟨e, h2⟩ | ⟨e, h2⟩ | ⟨e, h2⟩ | ⟨e, h2⟩
  · exact absurd e (by decide)
  · exact absurd e (by decide)
  · exact absurd e (by decide)
  · exact absurd e (by decide)
  · exact h2
  · exact absurd e (by decide)
  · exact absurd e (by decide)
  · exact absurd e (by decide)
  · exact absurd e (by decide)
theorem ul_X12_queue_195 {n : Nat} {a0 a1 a2 a3 a4 a5 a6 a7 a8 a9 : Int} {s t : PS} {r : Int} (h : It_X12_queue (n + 1) 195 a0 a1 a2 a3 a4 a5 a6 a7 a8 a9 s r t) : T_X12_queue_195 (It_X12_queue n) a0 a1 a2 a3 a4 a5 a6 s r t := by
  have h2 : ((195 : Nat) = 44 ∧ T_X12_queue_44 (It_X12_queue n) a0 a1 a2 a3 a4 s r t) ∨ ((195 : Nat) = 74 ∧ T_X12_queue_74 (It_X12_queue n) a0 a1 a2 a3 a4 a5 a6 s r t) ∨ ((195 : Nat) = 133 ∧ T_X12_queue_133 (It_X12_queue n) a0 a1 a2 a3 a4 a5 a6 s r t) ∨ ((195 : Nat) = 156 ∧ T_X12_queue_156 (It_X12_queue n) a0 a1 a2 a3 a4 a5 s r t) ∨ ((195 : Nat) = 165 ∧ T_X12_queue_165 (It_X12_queue n) a0 a1 a2 a3 a4 s r t) ∨ ((195 : Nat) = 195 ∧ T_X12_queue_195 (It_X12_queue n) a0 a1 a2 a3 a4 a5 a6 s r t) ∨ ((195 : Nat) = 208 ∧ T_X12_queue_208 (It_X12_queue n) a0 a1 a2 a3 a4 a5 a6 a7 a8 s r t) ∨ ((195 : Nat) = 238 ∧ T_X12_queue_238 (It_X12_queue n) a0 a1 a2 a3 a4 a5 a6 a7 a8 a9 s r t) ∨ ((195 : Nat) = 299 ∧ T_X12_queue_299 (It_X12_queue n) a0 a1 a2 a3 a4 a5 a6 a7 a8 a9 s r t) := h
  rcases h2 with ⟨e, h2⟩ | ⟨e, h2⟩ | ⟨e, h2⟩ | ⟨e, h2⟩ | ⟨e, h2⟩ | ⟨e, h2⟩ | ⟨e, h2⟩ | ⟨e, h2⟩ | ⟨e, h2⟩
  · exact absurd e (by decide)
  · exact absurd e (by decide)
  · exact absurd e (by decide)
  · exact absurd e (by decide)
  · exact absurd e (by decide)
  · exact h2
  · exact absurd e (by decide)
  · exact absurd e (by decide)
  · exact absurd e (by decide)
theorem ul_X12_queue_208 {n : Nat} {a0 a1 a2 a3 a4 a5 a6 a7 a8 a9 : Int} {s t : PS} {r : Int} (h : It_X12_queue (n + 1) 208 a0 a1 a2 a3 a4 a5 a6 a7 a8 a9 s r t) : T_X12_queue_208 (It_X12_queue n) a0 a1 a2 a3 a4 a5 a6 a7 a8 s r t := by
  have h2 : ((208 : Nat) = 44 ∧ T_X12_queue_44 (It_X12_queue n) a0 a1 a2 a3 a4 s r t) ∨ ((208 : Nat) = 74 ∧ T_X12_queue_74 (It_X12_queue n) a0 a1 a2 a3 a4 a5 a6 s r t) ∨ ((208 : Nat) = 133 ∧ T_X12_queue_133 (It_X12_queue n) a0 a1 a2 a3 a4 a5 a6 s r t) ∨ ((208 : Nat) = 156 ∧ T_X12_queue_156 (It_X12_queue n) a0 a1 a2 a3 a4 a5 s r t) ∨ ((208 : Nat) = 165 ∧ T_X12_queue_165 (It_X12_queue n) a0 a1 a2 a3 a4 s r t) ∨ ((208 : Nat) = 195 ∧ T_X12_queue_195 (It_X12_queue n) a0 a1 a2 a3 a4 a5 a6 s r t) ∨ ((208 : Nat) = 208 ∧ T_X12_queue_208 (It_X12_queue n) a0 a1 a2 a3 a4 a5 a6 a7 a8 s r t) ∨ ((208 : Nat) = 238 ∧ T_X12_queue_238 (It_X12_queue n) a0 a1 a2 a3 a4 a5 a6 a7 a8 a9 s r t) ∨ ((208 : Nat) = 299 ∧ T_X12_queue_299 (It_X12_queue n) a0 a1 a2 a3 a4 a5 a6 a7 a8 a9 s r t) := h
  rcases h2 with ⟨e, h2⟩ | ⟨e, h2⟩ | ⟨e, h2⟩ | ⟨e, h2⟩ | ⟨e, h2⟩ | ⟨e, h2⟩ | ⟨e, h2⟩ | ⟨e, h2⟩ | ⟨e, h2⟩
  · exact absurd e (by decide)
  · exact absurd e (by decide)
  · exact absurd e (by decide)
  · exact absurd e (by decide)
  · exact absurd e (by decide)
  · exact absurd e (by decide)
  · exact h2
  · exact absurd e (by decide)
  · exact absurd e (by decide)
theorem ul_X12_queue_238 {n : Nat} {a0 a1 a2 a3 a4 a5 a6 a7 a8 a9 : Int} {s t : PS} {r : Int} (h : It_X12_queue (n + 1) 238 a0 a1 a2 a3 a4 a5 a6 a7 a8 a9 s r t) : T_X12_queue_238 (It_X12_queue n) a0 a1 a2 a3 a4 a5 a6 a7 a8 a9 s r t := by
  have h2 : ((238 : Nat) = 44 ∧ T_X12_queue_44 (It_X12_queue n) a0 a1 a2 a3 a4 s r t) ∨ ((238 : Nat) = 74 ∧ T_X12_queue_74 (It_X12_queue n) a0 a1 a2 a3 a4 a5 a6 s r t) ∨ ((238 : Nat) = 133 ∧ T_X12_queue_133 (It_X12_queue n) a0 a1 a2 a3 a4 a5 a6 s r t) ∨ ((238 : Nat) = 156 ∧ T_X12_queue_156 (It_X12_queue n) a0 a1 a2 a3 a4 a5 s r t) ∨ ((238 : Nat) = 165 ∧ T_X12_queue_165 (It_X12_queue n) a0 a1 a2 a3 a4 s r t) ∨ ((238 : Nat) = 195 ∧ T_X12_queue_195 (It_X12_queue n) a0 a1 a2 a3 a4 a5 a6 s r t) ∨ ((238 : Nat) = 208 ∧ T_X12_queue_208 (It_X12_queue n) a0 a1 a2 a3 a4 a5 a6 a7 a8 s r t) ∨ ((238 : Nat) = 238 ∧ T_X12_queue_238 (It_X12_queue n) a0 a1 a2 a3 a4 a5 a6 a7 a8 a9 s r t) ∨ ((238 : Nat) = 299 ∧ T_X12_queue_299 (It_X12_queue n) a0 a1 a2 a3 a4 a5 a6 a7 a8 a9 s r t) := h
  rcases h2 with ⟨e, h2⟩ | ⟨e, h2⟩ | ⟨e, h2⟩ | ⟨e, h2⟩ | ⟨e, h2⟩ | ⟨e, h2⟩ | ⟨e, h2⟩ | ⟨e, h2⟩ | ⟨e, h2⟩
  · exact absurd e (by decide)
  · exact absurd e (by decide)
  · exact absurd e (by decide)
  · exact absurd e (by decide)
  · exact absurd e (by decide)
  · exact absurd e (by decide)
  · exact absurd e (by decide)
  · exact h2
  · exact absurd e (by decide)
theorem ul_X12_queue_299 {n : Nat} {a0 a1 a2 a3 a4 a5 a6 a7 a8 a9 : Int} {s t : PS} {r : Int} (h : It_X12_queue (n + 1) 299 a0 a1 a2 a3 a4 a5 a6 a7 a8 a9 s r t) : T_X12_queue_299 (It_X12_queue n) a0 a1 a2 a3 a4 a5 a6 a7 a8 a9 s r t := by
  have h2 : ((299 : Nat) = 44 ∧ T_X12_queue_44 (It_X12_queue n) a0 a1 a2 a3 a4 s r t) ∨ ((299 : Nat) = 74 ∧ T_X12_queue_74 (It_X12_queue n) a0 a1 a2 a3 a4 a5 a6 s r t) ∨ ((299 : Nat) = 133 ∧ T_X12_queue_133 (It_X12_queue n) a0 a1 a2 a3 a4 a5 a6 s r t) ∨ ((299 : Nat) = 156 ∧ T_X12_queue_156 (It_X12_queue n) a0 a1 a2 a3 a4 a5 s r t) ∨ ((299 : Nat) = 165 ∧ T_X12_queue_165 (It_X12_queue n) a0 a1 a2 a3 a4 s r t) ∨ ((299 : Nat) = 195 ∧ T_X12_queue_195 (It_X12_queue n) a0 a1 a2 a3 a4 a5 a6 s r t) ∨ ((299 : Nat) = 208 ∧ T_X12_queue_208 (It_X12_queue n) a0 a1 a2 a3 a4 a5 a6 a7 a8 s r t) ∨ ((299 : Nat) = 238 ∧ T_X12_queue_238 (It_X12_queue n) a0 a1 a2 a3 a4 a5 a6 a7 a8 a9 s r t) ∨ ((299 : Nat) = 299 ∧ T_X12_queue_299 (It_X12_queue n) a0 a1 a2 a3 a4 a5 a6 a7 a8 a9 s r t) := h
  rcases h2 with ⟨e, h2⟩ | ⟨e, h2⟩ | ⟨e, h2⟩ | ⟨e, h2⟩ | ⟨e, h2⟩ | ⟨e, h2⟩ | ⟨e, h2⟩ | ⟨e, h2⟩ | ⟨e, h2⟩
  · exact absurd e (by decide)
  · exact absurd e (by decide)
  · exact absurd e (by decide)
  · exact absurd e (by decide)
  · exact absurd e (by decide)
  · exact absurd e (by decide)
  · exact absurd e (by decide)
  · exact absurd e (by decide)
  · exact h2
def M_X12_queue (s : PS) (p1 p2 p3 : Int) (r : Int) (t : PS) : Prop := ∃ n, T_X12_queue_e (It_X12_queue n) s p1 p2 p3 r t
theorem mk_X12_queue {n : Nat} {s t : PS} {p1 p2 p3 : Int} {r : Int} (h : T_X12_queue_e (It_X12_queue n) s p1 p2 p3 r t) : M_X12_queue s p1 p2 p3 r t := ⟨n, h⟩
def T_X12_writes_e (s_w : PS) (p1 : Int) (rr : Int) (ss : PS) : Prop := ((TyM s_w) ∧ (∃ s_w_1 : PS, s_w_1 = (us s_w 63 (s_w 0 93).toNat p1) ∧ (∃ s_w_2 : PS, s_w_2 = (us s_w_1 0 93 ((s_w 0 93) + 1)) ∧ (rr = 0 ∧ ss = s_w_2))))
def M_X12_writes (s : PS) (p1 : Int) (r : Int) (t : PS) : Prop := T_X12_writes_e s p1 r t
theorem mk_X12_writes {s t : PS} {p1 : Int} {r : Int} (h : T_X12_writes_e s p1 r t) : M_X12_writes s p1 r t := h
def T_X12_label_26 (K : Nat → Int → Int → Int → Int → PS → Int → PS → Prop) (x26_1 x26_2 : Int) (s_w26 : PS) (rr : Int) (ss : PS) : Prop := ((TyM s_w26) ∧ ((0 ≤ x26_1 ∧ x26_1 ≤ 39) ∧ ((0 ≤ x26_2 ∧ x26_2 ≤ 10) ∧ (((s_w26 2 (s_w26 0 12).toNat) ≤ x26_2 ∧ (∃ s_w_18 : PS, ((M_X12_writes s_w26 46 0 s_w_18) ∧ ((Fr intsM [0, 63] [(0, 93)] s_w26 s_w_18) ∧ ((TyM s_w_18) ∧ (rr = (s_w_18 0 93) ∧ ss = s_w_18)))))) ∨ (¬ ((s_w26 2 (s_w26 0 12).toNat) ≤ x26_2) ∧ (((iAnd (iShr (s_w26 53 x26_1.toNat) x26_2) 1) = 0 ∧ (K 118 x26_1 x26_2 0 0 s_w26 rr ss)) ∨ (¬ ((iAnd (iShr (s_w26 53 x26_1.toNat) x26_2) 1) = 0) ∧ (((s_w26 0 93) ≤ 0 ∧ (K 74 x26_1 x26_2 0 0 s_w26 rr ss)) ∨ (¬ ((s_w26 0 93) ≤ 0) ∧ (∃ s_w_27 : PS, ((M_X12_writes s_w26 44 0 s_w_27) ∧ ((Fr intsM [0, 63] [(0, 93)] s_w26 s_w_27) ∧ ((TyM s_w_27) ∧ (∃ s_w_32 : PS, ((M_X12_writes s_w_27 32 0 s_w_32) ∧ ((Fr intsM [0, 63] [(0, 93)] s_w_27 s_w_32) ∧ ((TyM s_w_32) ∧ (K 74 x26_1 x26_2 0 0 s_w_32 rr ss))))))))))))))))))
def T_X12_label_74 (K : Nat → Int → Int → Int → Int → PS → Int → PS → Prop) (x74_1 x74_2 : Int) (s_w74 : PS) (rr : Int) (ss : PS) : Prop := ((TyM s_w74) ∧ ((0 ≤ x74_1 ∧ x74_1 ≤ 39) ∧ ((0 ≤ x74_2 ∧ x74_2 ≤ 9) ∧ (K 92 x74_1 x74_2 (s_w74 6 ((10 * (s_w74 0 12)) + x74_2).toNat) 0 s_w74 rr ss))))
def T_X12_label_92 (K : Nat → Int → Int → Int → Int → PS → Int → PS → Prop) (x92_1 x92_2 x92_3 x92_5 : Int) (s_w92 : PS) (rr : Int) (ss : PS) : Prop := ((TyM s_w92) ∧ ((0 ≤ x92_1 ∧ x92_1 ≤ 39) ∧ ((0 ≤ x92_2 ∧ x92_2 ≤ 9) ∧ ((0 ≤ x92_5 ∧ x92_5 ≤ 8) ∧ (∃ r_2 : Int, (∃ s_w_1 : PS, ((M_X12_letter s_w92 x92_3 x92_5 r_2 s_w_1) ∧ ((Fr intsM [] [] s_w92 s_w_1) ∧ ((TyM s_w_1) ∧ ((r_2 = (-1) ∧ (K 118 x92_1 x92_2 0 0 s_w_1 rr ss)) ∨ (¬ (r_2 = (-1)) ∧ (∃ r_7 : Int, (∃ s_w_6 : PS, ((M_X12_letter s_w_1 x92_3 x92_5 r_7 s_w_6) ∧ ((Fr intsM [] [] s_w_1 s_w_6) ∧ ((TyM s_w_6) ∧ (∃ s_w_10 : PS, ((M_X12_writes s_w_6 r_7 0 s_w_10) ∧ ((Fr intsM [0, 63] [(0, 93)] s_w_6 s_w_10) ∧ ((TyM s_w_10) ∧ (K 92 x92_1 x92_2 x92_3 (x92_5 + 1) s_w_10 rr ss)))))))))))))))))))))
def T_X12_label_118 (K : Nat → Int → Int → Int → Int → PS → Int → PS → Prop) (x118_1 x118_2 : Int) (s_w118 : PS) (rr : Int) (ss : PS) : Prop := ((TyM s_w118) ∧ ((0 ≤ x118_1 ∧ x118_1 ≤ 39) ∧ ((0 ≤ x118_2 ∧ x118_2 ≤ 9) ∧ (K 26 x118_1 (x118_2 + 1) 0 0 s_w118 rr ss))))
def T_X12_label_e (K : Nat → Int → Int → Int → Int → PS → Int → PS → Prop) (s_w : PS) (p1 : Int) (rr : Int) (ss : PS) : Prop := ((TyM s_w) ∧ (∃ r_38 : Int, (∃ s_w_37 : PS, ((M_X12_was s_w p1 r_38 s_w_37) ∧ ((Fr intsM [] [] s_w s_w_37) ∧ ((TyM s_w_37) ∧ ((0 ≤ r_38 ∧ r_38 ≤ 1) ∧ ((r_38 = 0 ∧ (rr = (-1) ∧ ss = s_w_37)) ∨ (¬ (r_38 = 0) ∧ (((s_w 53 p1.toNat) = 0 ∧ (rr = (-1) ∧ ss = s_w_37)) ∨ (¬ ((s_w 53 p1.toNat) = 0) ∧ (∃ s_w_44 : PS, s_w_44 = (us s_w_37 0 93 0) ∧ (K 26 p1 0 0 0 s_w_44 rr ss)))))))))))))
def It_X12_label : Nat → Nat → Int → Int → Int → Int → PS → Int → PS → Prop
  | 0, _, _, _, _, _, _, _, _ => False
  | n + 1, pc, a0, a1, a2, a3, s, r, t => (pc = 26 ∧ T_X12_label_26 (It_X12_label n) a0 a1 s r t) ∨ (pc = 74 ∧ T_X12_label_74 (It_X12_label n) a0 a1 s r t) ∨ (pc = 92 ∧ T_X12_label_92 (It_X12_label n) a0 a1 a2 a3 s r t) ∨ (pc = 118 ∧ T_X12_label_118 (It_X12_label n) a0 a1 s r t)
theorem rl_X12_label_26 {n : Nat} {a0 a1 : Int} {s t : PS} {r : Int} (h : T_X12_label_26 (It_X12_label n) a0 a1 s r t) : It_X12_label (n + 1) 26 a0 a1 0 0 s r t := Or.inl ⟨rfl, h⟩
theorem rl_X12_label_74 {n : Nat} {a0 a1 : Int} {s t : PS} {r : Int} (h : T_X12_label_74 (It_X12_label n) a0 a1 s r t) : It_X12_label (n + 1) 74 a0 a1 0 0 s r t := Or.inr (Or.inl ⟨rfl, h⟩)
theorem rl_X12_label_92 {n : Nat} {a0 a1 a2 a3 : Int} {s t : PS} {r : Int} (h : T_X12_label_92 (It_X12_label n) a0 a1 a2 a3 s r t) : It_X12_label (n + 1) 92 a0 a1 a2 a3 s r t := Or.inr (Or.inr (Or.inl ⟨rfl, h⟩))
theorem rl_X12_label_118 {n : Nat} {a0 a1 : Int} {s t : PS} {r : Int} (h : T_X12_label_118 (It_X12_label n) a0 a1 s r t) : It_X12_label (n + 1) 118 a0 a1 0 0 s r t := Or.inr (Or.inr (Or.inr (⟨rfl, h⟩)))
theorem ul_X12_label_26 {n : Nat} {a0 a1 a2 a3 : Int} {s t : PS} {r : Int} (h : It_X12_label (n + 1) 26 a0 a1 a2 a3 s r t) : T_X12_label_26 (It_X12_label n) a0 a1 s r t := by
  have h2 : ((26 : Nat) = 26 ∧ T_X12_label_26 (It_X12_label n) a0 a1 s r t) ∨ ((26 : Nat) = 74 ∧ T_X12_label_74 (It_X12_label n) a0 a1 s r t) ∨ ((26 : Nat) = 92 ∧ T_X12_label_92 (It_X12_label n) a0 a1 a2 a3 s r t) ∨ ((26 : Nat) = 118 ∧ T_X12_label_118 (It_X12_label n) a0 a1 s r t) := h
  rcases h2 with ⟨e, h2⟩ | ⟨e, h2⟩ | ⟨e, h2⟩ | ⟨e, h2⟩
  · exact h2
  · exact absurd e (by decide)
  · exact absurd e (by decide)
  · exact absurd e (by decide)
theorem ul_X12_label_74 {n : Nat} {a0 a1 a2 a3 : Int} {s t : PS} {r : Int} (h : It_X12_label (n + 1) 74 a0 a1 a2 a3 s r t) : T_X12_label_74 (It_X12_label n) a0 a1 s r t := by
  have h2 : ((74 : Nat) = 26 ∧ T_X12_label_26 (It_X12_label n) a0 a1 s r t) ∨ ((74 : Nat) = 74 ∧ T_X12_label_74 (It_X12_label n) a0 a1 s r t) ∨ ((74 : Nat) = 92 ∧ T_X12_label_92 (It_X12_label n) a0 a1 a2 a3 s r t) ∨ ((74 : Nat) = 118 ∧ T_X12_label_118 (It_X12_label n) a0 a1 s r t) := h
  rcases h2 with ⟨e, h2⟩ | ⟨e, h2⟩ | ⟨e, h2⟩ | ⟨e, h2⟩
  · exact absurd e (by decide)
  · exact h2
  · exact absurd e (by decide)
  · exact absurd e (by decide)
theorem ul_X12_label_92 {n : Nat} {a0 a1 a2 a3 : Int} {s t : PS} {r : Int} (h : It_X12_label (n + 1) 92 a0 a1 a2 a3 s r t) : T_X12_label_92 (It_X12_label n) a0 a1 a2 a3 s r t := by
  have h2 : ((92 : Nat) = 26 ∧ T_X12_label_26 (It_X12_label n) a0 a1 s r t) ∨ ((92 : Nat) = 74 ∧ T_X12_label_74 (It_X12_label n) a0 a1 s r t) ∨ ((92 : Nat) = 92 ∧ T_X12_label_92 (It_X12_label n) a0 a1 a2 a3 s r t) ∨ ((92 : Nat) = 118 ∧ T_X12_label_118 (It_X12_label n) a0 a1 s r t) := h
  rcases h2 with ⟨e, h2⟩ | ⟨e, h2⟩ | ⟨e, h2⟩ | ⟨e, h2⟩
  · exact absurd e (by decide)
  · exact absurd e (by decide)
  · exact h2
  · exact absurd e (by decide)
theorem ul_X12_label_118 {n : Nat} {a0 a1 a2 a3 : Int} {s t : PS} {r : Int} (h : It_X12_label (n + 1) 118 a0 a1 a2 a3 s r t) : T_X12_label_118 (It_X12_label n) a0 a1 s r t := by
  have h2 : ((118 : Nat) = 26 ∧ T_X12_label_26 (It_X12_label n) a0 a1 s r t) ∨ ((118 : Nat) = 74 ∧ T_X12_label_74 (It_X12_label n) a0 a1 s r t) ∨ ((118 : Nat) = 92 ∧ T_X12_label_92 (It_X12_label n) a0 a1 a2 a3 s r t) ∨ ((118 : Nat) = 118 ∧ T_X12_label_118 (It_X12_label n) a0 a1 s r t) := h
  rcases h2 with ⟨e, h2⟩ | ⟨e, h2⟩ | ⟨e, h2⟩ | ⟨e, h2⟩
  · exact absurd e (by decide)
  · exact absurd e (by decide)
  · exact absurd e (by decide)
  · exact h2
def M_X12_label (s : PS) (p1 : Int) (r : Int) (t : PS) : Prop := ∃ n, T_X12_label_e (It_X12_label n) s p1 r t
theorem mk_X12_label {n : Nat} {s t : PS} {p1 : Int} {r : Int} (h : T_X12_label_e (It_X12_label n) s p1 r t) : M_X12_label s p1 r t := ⟨n, h⟩
def T_X12_at_e (s_w : PS) (p1 : Int) (rr : Int) (ss : PS) : Prop := ((TyM s_w) ∧ ((p1 < 0 ∧ (rr = (-1) ∧ ss = s_w)) ∨ (¬ (p1 < 0) ∧ ((p1 < (s_w 0 93) ∧ (rr = (s_w 63 p1.toNat) ∧ ss = s_w)) ∨ (¬ (p1 < (s_w 0 93)) ∧ (rr = (-1) ∧ ss = s_w))))))
def M_X12_at (s : PS) (p1 : Int) (r : Int) (t : PS) : Prop := T_X12_at_e s p1 r t
theorem mk_X12_at {s t : PS} {p1 : Int} {r : Int} (h : T_X12_at_e s p1 r t) : M_X12_at s p1 r t := h
