def T_X12_give_15 (K : Nat → Int → Int → PS → Int → PS → Prop) (x15_1 : Int) (s_w15 : PS) (rr : Int) (ss : PS) : Prop := ((TyM s_w15) ∧ ((0 ≤ x15_1 ∧ x15_1 ≤ 10) ∧ (((s_w15 2 (s_w15 0 12).toNat) ≤ x15_1 ∧ (K 121 0 0 s_w15 rr ss)) ∨ (¬ ((s_w15 2 (s_w15 0 12).toNat) ≤ x15_1) ∧ (K 30 x15_1 1 s_w15 rr ss)))))
def T_X12_give_30 (K : Nat → Int → Int → PS → Int → PS → Prop) (x30_1 x30_2 : Int) (s_w30 : PS) (rr : Int) (ss : PS) : Prop := ((TyM s_w30) ∧ ((0 ≤ x30_1 ∧ x30_1 ≤ 9) ∧ ((1 ≤ x30_2 ∧ x30_2 ≤ 25) ∧ ((24 < x30_2 ∧ (K 15 (x30_1 + 1) 0 s_w30 rr ss)) ∨ (¬ (24 < x30_2) ∧ (((s_w30 46 ((25 * x30_1) + x30_2).toNat) ≤ 0 ∧ (K 76 x30_1 x30_2 s_w30 rr ss)) ∨ (¬ ((s_w30 46 ((25 * x30_1) + x30_2).toNat) ≤ 0) ∧ (∃ r_92 : Int, (∃ s_w_91 : PS, ((M_X12_lane s_w30 0 ((1 + (24 * x30_1)) + x30_2) (s_w30 46 ((25 * x30_1) + x30_2).toNat) 0 r_92 s_w_91) ∧ ((Fr intsM [0, 38, 39, 40, 41] [(0, 62)] s_w30 s_w_91) ∧ ((TyM s_w_91) ∧ ((0 ≤ r_92 ∧ r_92 ≤ 2198) ∧ (K 76 x30_1 x30_2 s_w_91 rr ss))))))))))))))
def T_X12_give_76 (K : Nat → Int → Int → PS → Int → PS → Prop) (x76_1 x76_2 : Int) (s_w76 : PS) (rr : Int) (ss : PS) : Prop := ((TyM s_w76) ∧ ((0 ≤ x76_1 ∧ x76_1 ≤ 9) ∧ ((1 ≤ x76_2 ∧ x76_2 ≤ 24) ∧ ((24 ≤ x76_2 ∧ (K 107 x76_1 x76_2 s_w76 rr ss)) ∨ (¬ (24 ≤ x76_2) ∧ (∃ r_82 : Int, (∃ s_w_81 : PS, ((M_X12_lane s_w76 ((1 + (24 * x76_1)) + x76_2) ((2 + (24 * x76_1)) + x76_2) 268435456 0 r_82 s_w_81) ∧ ((Fr intsM [0, 38, 39, 40, 41] [(0, 62)] s_w76 s_w_81) ∧ ((TyM s_w_81) ∧ ((0 ≤ r_82 ∧ r_82 ≤ 2198) ∧ (K 107 x76_1 x76_2 s_w_81 rr ss))))))))))))
def T_X12_give_107 (K : Nat → Int → Int → PS → Int → PS → Prop) (x107_1 x107_2 : Int) (s_w107 : PS) (rr : Int) (ss : PS) : Prop := ((TyM s_w107) ∧ ((0 ≤ x107_1 ∧ x107_1 ≤ 9) ∧ ((1 ≤ x107_2 ∧ x107_2 ≤ 24) ∧ (K 30 x107_1 (x107_2 + 1) s_w107 rr ss))))
def T_X12_give_121 (K : Nat → Int → Int → PS → Int → PS → Prop) (x121_1 : Int) (s_w121 : PS) (rr : Int) (ss : PS) : Prop := ((TyM s_w121) ∧ ((0 ≤ x121_1 ∧ x121_1 ≤ 400) ∧ ((400 ≤ x121_1 ∧ (∃ s_w_78 : PS, s_w_78 = (us s_w121 0 69 (s_w121 0 45)) ∧ (K 151 0 0 s_w_78 rr ss))) ∨ (¬ (400 ≤ x121_1) ∧ (∃ s_w_79 : PS, s_w_79 = (us s_w121 44 x121_1.toNat (-1)) ∧ (K 121 (x121_1 + 1) 0 s_w_79 rr ss))))))
def T_X12_give_151 (K : Nat → Int → Int → PS → Int → PS → Prop) (x151_1 : Int) (s_w151 : PS) (rr : Int) (ss : PS) : Prop := ((TyM s_w151) ∧ ((0 ≤ x151_1 ∧ x151_1 ≤ 40) ∧ (((s_w151 0 45) ≤ x151_1 ∧ (∃ s_w_54 : PS, ((M_X12_settles s_w151 0 s_w_54) ∧ ((Fr intsM [40, 42, 43, 45] [] s_w151 s_w_54) ∧ ((TyM s_w_54) ∧ (∃ s_w_57 : PS, s_w_57 = (us s_w_54 0 78 0) ∧ (∃ s_w_58 : PS, s_w_58 = (us s_w_57 0 79 0) ∧ (K 340 0 0 s_w_58 rr ss)))))))) ∨ (¬ ((s_w151 0 45) ≤ x151_1) ∧ (∃ r_60 : Int, (∃ s_w_59 : PS, ((M_X12_due s_w151 x151_1 r_60 s_w_59) ∧ ((Fr intsM [37] [] s_w151 s_w_59) ∧ ((TyM s_w_59) ∧ (∃ s_w_63 : PS, s_w_63 = (us s_w_59 47 x151_1.toNat r_60) ∧ (∃ s_w_65 : PS, s_w_65 = (us s_w_63 48 x151_1.toNat (s_w151 31 x151_1.toNat)) ∧ (∃ s_w_67 : PS, s_w_67 = (us s_w_65 49 x151_1.toNat (s_w151 32 x151_1.toNat)) ∧ (∃ s_w_69 : PS, s_w_69 = (us s_w_67 50 x151_1.toNat (s_w151 27 x151_1.toNat)) ∧ (∃ r_71 : Int, (∃ s_w_70 : PS, ((M_X12_lane s_w_69 (242 + x151_1) 1 r_60 0 r_71 s_w_70) ∧ ((Fr intsM [0, 38, 39, 40, 41] [(0, 62)] s_w_69 s_w_70) ∧ ((TyM s_w_70) ∧ ((0 ≤ r_71 ∧ r_71 ≤ 2198) ∧ (K 226 x151_1 0 s_w_70 rr ss))))))))))))))))))))
def T_X12_give_226 (K : Nat → Int → Int → PS → Int → PS → Prop) (x226_1 x226_2 : Int) (s_w226 : PS) (rr : Int) (ss : PS) : Prop := ((TyM s_w226) ∧ ((0 ≤ x226_1 ∧ x226_1 ≤ 39) ∧ ((0 ≤ x226_2 ∧ x226_2 ≤ 10) ∧ (((s_w226 2 (s_w226 0 12).toNat) ≤ x226_2 ∧ (K 151 (x226_1 + 1) 0 s_w226 rr ss)) ∨ (¬ ((s_w226 2 (s_w226 0 12).toNat) ≤ x226_2) ∧ (∃ r_34 : Int, (∃ s_w_33 : PS, ((M_X12_mayGet s_w226 x226_1 x226_2 r_34 s_w_33) ∧ ((Fr intsM [37] [] s_w226 s_w_33) ∧ ((TyM s_w_33) ∧ ((0 ≤ r_34 ∧ r_34 ≤ 1) ∧ (∃ s_w_36 : PS, s_w_36 = (us s_w_33 51 ((10 * x226_1) + x226_2).toNat r_34) ∧ (((s_w_36 51 ((10 * x226_1) + x226_2).toNat) = 0 ∧ (K 312 x226_1 x226_2 s_w_36 rr ss)) ∨ (¬ ((s_w_36 51 ((10 * x226_1) + x226_2).toNat) = 0) ∧ (∃ r_41 : Int, (∃ s_w_40 : PS, ((M_X12_pointsOf s_w_36 x226_1 x226_2 r_41 s_w_40) ∧ ((Fr intsM [37] [] s_w_36 s_w_40) ∧ ((TyM s_w_40) ∧ (∃ r_46 : Int, (∃ s_w_45 : PS, ((M_X12_lane s_w_40 ((1 + (24 * x226_2)) + (s_w226 32 x226_1.toNat)) (242 + x226_1) 1 (wi (-r_41)) r_46 s_w_45) ∧ ((Fr intsM [0, 38, 39, 40, 41] [(0, 62)] s_w_40 s_w_45) ∧ ((TyM s_w_45) ∧ ((0 ≤ r_46 ∧ r_46 ≤ 2198) ∧ (∃ s_w_52 : PS, s_w_52 = (us s_w_45 44 ((10 * x226_1) + x226_2).toNat r_46) ∧ (K 312 x226_1 x226_2 s_w_52 rr ss)))))))))))))))))))))))))))
def T_X12_give_312 (K : Nat → Int → Int → PS → Int → PS → Prop) (x312_1 x312_2 : Int) (s_w312 : PS) (rr : Int) (ss : PS) : Prop := ((TyM s_w312) ∧ ((0 ≤ x312_1 ∧ x312_1 ≤ 39) ∧ ((0 ≤ x312_2 ∧ x312_2 ≤ 9) ∧ (K 226 x312_1 (x312_2 + 1) s_w312 rr ss))))
def T_X12_give_340 (K : Nat → Int → Int → PS → Int → PS → Prop) (x340_1 : Int) (s_w340 : PS) (rr : Int) (ss : PS) : Prop := ((TyM s_w340) ∧ ((0 ≤ x340_1 ∧ x340_1 ≤ 10) ∧ (((s_w340 2 (s_w340 0 12).toNat) ≤ x340_1 ∧ (K 402 0 0 s_w340 rr ss)) ∨ (¬ ((s_w340 2 (s_w340 0 12).toNat) ≤ x340_1) ∧ (∃ s_w_30 : PS, s_w_30 = (us s_w340 54 x340_1.toNat 0) ∧ (K 362 x340_1 1 s_w_30 rr ss))))))
def T_X12_give_362 (K : Nat → Int → Int → PS → Int → PS → Prop) (x362_1 x362_2 : Int) (s_w362 : PS) (rr : Int) (ss : PS) : Prop := ((TyM s_w362) ∧ ((0 ≤ x362_1 ∧ x362_1 ≤ 9) ∧ ((1 ≤ x362_2 ∧ x362_2 ≤ 25) ∧ ((24 < x362_2 ∧ (K 340 (x362_1 + 1) 0 s_w362 rr ss)) ∨ (¬ (24 < x362_2) ∧ (∃ s_w_27 : PS, s_w_27 = (us s_w362 54 x362_1.toNat (wi ((s_w362 54 x362_1.toNat) + (s_w362 46 ((25 * x362_1) + x362_2).toNat)))) ∧ (K 362 x362_1 (x362_2 + 1) s_w_27 rr ss)))))))
def T_X12_give_402 (K : Nat → Int → Int → PS → Int → PS → Prop) (x402_1 : Int) (s_w402 : PS) (rr : Int) (ss : PS) : Prop := ((TyM s_w402) ∧ ((0 ≤ x402_1 ∧ x402_1 ≤ 40) ∧ (((s_w402 0 45) ≤ x402_1 ∧ (∃ s_w_20 : PS, s_w_20 = (us s_w402 0 68 1) ∧ (∃ s_w_21 : PS, s_w_21 = (us s_w_20 0 80 0) ∧ (rr = (s_w402 0 78) ∧ ss = s_w_21)))) ∨ (¬ ((s_w402 0 45) ≤ x402_1) ∧ (∃ s_w_22 : PS, s_w_22 = (us s_w402 52 x402_1.toNat 0) ∧ (K 419 x402_1 0 s_w_22 rr ss))))))
def T_X12_give_419 (K : Nat → Int → Int → PS → Int → PS → Prop) (x419_1 x419_2 : Int) (s_w419 : PS) (rr : Int) (ss : PS) : Prop := ((TyM s_w419) ∧ ((0 ≤ x419_1 ∧ x419_1 ≤ 39) ∧ ((0 ≤ x419_2 ∧ x419_2 ≤ 10) ∧ (((s_w419 2 (s_w419 0 12).toNat) ≤ x419_2 ∧ (∃ s_w_4 : PS, s_w_4 = (us s_w419 53 x419_1.toNat (s_w419 52 x419_1.toNat)) ∧ (K 402 (x419_1 + 1) 0 s_w_4 rr ss))) ∨ (¬ ((s_w419 2 (s_w419 0 12).toNat) ≤ x419_2) ∧ (((s_w419 45 ((10 * x419_1) + x419_2).toNat) = 0 ∧ (K 496 x419_1 x419_2 s_w419 rr ss)) ∨ (¬ ((s_w419 45 ((10 * x419_1) + x419_2).toNat) = 0) ∧ (∃ s_w_10 : PS, s_w_10 = (us s_w419 52 x419_1.toNat (iOr (s_w419 52 x419_1.toNat) (iShl 1 x419_2))) ∧ (∃ s_w_12 : PS, s_w_12 = (us s_w_10 54 x419_2.toNat (wi ((s_w419 54 x419_2.toNat) - 1))) ∧ (∃ s_w_13 : PS, s_w_13 = (us s_w_12 0 78 (wi ((s_w419 0 78) + 1))) ∧ (∃ r_15 : Int, (∃ s_w_14 : PS, ((M_X12_pointsOf s_w_13 x419_1 x419_2 r_15 s_w_14) ∧ ((Fr intsM [37] [] s_w_13 s_w_14) ∧ ((TyM s_w_14) ∧ (∃ s_w_18 : PS, s_w_18 = (us s_w_14 0 79 (wi ((s_w419 0 79) + r_15))) ∧ (K 496 x419_1 x419_2 s_w_18 rr ss)))))))))))))))))
def T_X12_give_496 (K : Nat → Int → Int → PS → Int → PS → Prop) (x496_1 x496_2 : Int) (s_w496 : PS) (rr : Int) (ss : PS) : Prop := ((TyM s_w496) ∧ ((0 ≤ x496_1 ∧ x496_1 ≤ 39) ∧ ((0 ≤ x496_2 ∧ x496_2 ≤ 9) ∧ (K 419 x496_1 (x496_2 + 1) s_w496 rr ss))))
def T_X12_give_e (K : Nat → Int → Int → PS → Int → PS → Prop) (s_w : PS) (rr : Int) (ss : PS) : Prop := ((TyM s_w) ∧ (∃ s_w_100 : PS, ((M_X12_knows s_w 0 s_w_100) ∧ ((Fr intsM [0, 26, 27, 28, 29, 30, 31, 32, 33, 34, 35, 36] [(0, 45)] s_w s_w_100) ∧ ((TyM s_w_100) ∧ (∃ s_w_104 : PS, ((M_X12_arrives s_w_100 0 s_w_104) ∧ ((Fr intsM [46] [] s_w_100 s_w_104) ∧ ((TyM s_w_104) ∧ (∃ s_w_107 : PS, s_w_107 = (us s_w_104 0 62 0) ∧ (K 15 0 0 s_w_107 rr ss)))))))))))
def It_X12_give : Nat → Nat → Int → Int → PS → Int → PS → Prop
  | 0, _, _, _, _, _, _ => False
  | n + 1, pc, a0, a1, s, r, t => (pc = 15 ∧ T_X12_give_15 (It_X12_give n) a0 s r t) ∨ (pc = 30 ∧ T_X12_give_30 (It_X12_give n) a0 a1 s r t) ∨ (pc = 76 ∧ T_X12_give_76 (It_X12_give n) a0 a1 s r t) ∨ (pc = 107 ∧ T_X12_give_107 (It_X12_give n) a0 a1 s r t) ∨ (pc = 121 ∧ T_X12_give_121 (It_X12_give n) a0 s r t) ∨ (pc = 151 ∧ T_X12_give_151 (It_X12_give n) a0 s r t) ∨ (pc = 226 ∧ T_X12_give_226 (It_X12_give n) a0 a1 s r t) ∨ (pc = 312 ∧ T_X12_give_312 (It_X12_give n) a0 a1 s r t) ∨ (pc = 340 ∧ T_X12_give_340 (It_X12_give n) a0 s r t) ∨ (pc = 362 ∧ T_X12_give_362 (It_X12_give n) a0 a1 s r t) ∨ (pc = 402 ∧ T_X12_give_402 (It_X12_give n) a0 s r t) ∨ (pc = 419 ∧ T_X12_give_419 (It_X12_give n) a0 a1 s r t) ∨ (pc = 496 ∧ T_X12_give_496 (It_X12_give n) a0 a1 s r t)
theorem rl_X12_give_15 {n : Nat} {a0 : Int} {s t : PS} {r : Int} (h : T_X12_give_15 (It_X12_give n) a0 s r t) : It_X12_give (n + 1) 15 a0 0 s r t := Or.inl ⟨rfl, h⟩
theorem rl_X12_give_30 {n : Nat} {a0 a1 : Int} {s t : PS} {r : Int} (h : T_X12_give_30 (It_X12_give n) a0 a1 s r t) : It_X12_give (n + 1) 30 a0 a1 s r t := Or.inr (Or.inl ⟨rfl, h⟩)
theorem rl_X12_give_76 {n : Nat} {a0 a1 : Int} {s t : PS} {r : Int} (h : T_X12_give_76 (It_X12_give n) a0 a1 s r t) : It_X12_give (n + 1) 76 a0 a1 s r t := Or.inr (Or.inr (Or.inl ⟨rfl, h⟩))
theorem rl_X12_give_107 {n : Nat} {a0 a1 : Int} {s t : PS} {r : Int} (h : T_X12_give_107 (It_X12_give n) a0 a1 s r t) : It_X12_give (n + 1) 107 a0 a1 s r t := Or.inr (Or.inr (Or.inr (Or.inl ⟨rfl, h⟩)))
theorem rl_X12_give_121 {n : Nat} {a0 : Int} {s t : PS} {r : Int} (h : T_X12_give_121 (It_X12_give n) a0 s r t) : It_X12_give (n + 1) 121 a0 0 s r t := Or.inr (Or.inr (Or.inr (Or.inr (Or.inl ⟨rfl, h⟩))))
theorem rl_X12_give_151 {n : Nat} {a0 : Int} {s t : PS} {r : Int} (h : T_X12_give_151 (It_X12_give n) a0 s r t) : It_X12_give (n + 1) 151 a0 0 s r t := Or.inr (Or.inr (Or.inr (Or.inr (Or.inr (Or.inl ⟨rfl, h⟩)))))
theorem rl_X12_give_226 {n : Nat} {a0 a1 : Int} {s t : PS} {r : Int} (h : T_X12_give_226 (It_X12_give n) a0 a1 s r t) : It_X12_give (n + 1) 226 a0 a1 s r t := Or.inr (Or.inr (Or.inr (Or.inr (Or.inr (Or.inr (Or.inl ⟨rfl, h⟩))))))
theorem rl_X12_give_312 {n : Nat} {a0 a1 : Int} {s t : PS} {r : Int} (h : T_X12_give_312 (It_X12_give n) a0 a1 s r t) : It_X12_give (n + 1) 312 a0 a1 s r t := Or.inr (Or.inr (Or.inr (Or.inr (Or.inr (Or.inr (Or.inr (Or.inl ⟨rfl, h⟩)))))))
theorem rl_X12_give_340 {n : Nat} {a0 : Int} {s t : PS} {r : Int} (h : T_X12_give_340 (It_X12_give n) a0 s r t) : It_X12_give (n + 1) 340 a0 0 s r t := Or.inr (Or.inr (Or.inr (Or.inr (Or.inr (Or.inr (Or.inr (Or.inr (Or.inl ⟨rfl, h⟩))))))))
theorem rl_X12_give_362 {n : Nat} {a0 a1 : Int} {s t : PS} {r : Int} (h : T_X12_give_362 (It_X12_give n) a0 a1 s r t) : It_X12_give (n + 1) 362 a0 a1 s r t := Or.inr (Or.inr (Or.inr (Or.inr (Or.inr (Or.inr (Or.inr (Or.inr (Or.inr (Or.inl ⟨rfl, h⟩)))))))))
theorem rl_X12_give_402 {n : Nat} {a0 : Int} {s t : PS} {r : Int} (h : T_X12_give_402 (It_X12_give n) a0 s r t) : It_X12_give (n + 1) 402 a0 0 s r t := Or.inr (Or.inr (Or.inr (Or.inr (Or.inr (Or.inr (Or.inr (Or.inr (Or.inr (Or.inr (Or.inl ⟨rfl, h⟩))))))))))
theorem rl_X12_give_419 {n : Nat} {a0 a1 : Int} {s t : PS} {r : Int} (h : T_X12_give_419 (It_X12_give n) a0 a1 s r t) : It_X12_give (n + 1) 419 a0 a1 s r t := Or.inr (Or.inr (Or.inr (Or.inr (Or.inr (Or.inr (Or.inr (Or.inr (Or.inr (Or.inr (Or.inr (Or.inl ⟨rfl, h⟩)))))))))))
theorem rl_X12_give_496 {n : Nat} {a0 a1 : Int} {s t : PS} {r : Int} (h : T_X12_give_496 (It_X12_give n) a0 a1 s r t) : It_X12_give (n + 1) 496 a0 a1 s r t := Or.inr (Or.inr (Or.inr (Or.inr (Or.inr (Or.inr (Or.inr (Or.inr (Or.inr (Or.inr (Or.inr (Or.inr (⟨rfl, h⟩))))))))))))
theorem ul_X12_give_15 {n : Nat} {a0 a1 : Int} {s t : PS} {r : Int} (h : It_X12_give (n + 1) 15 a0 a1 s r t) : T_X12_give_15 (It_X12_give n) a0 s r t := by
  have h2 : ((15 : Nat) = 15 ∧ T_X12_give_15 (It_X12_give n) a0 s r t) ∨ ((15 : Nat) = 30 ∧ T_X12_give_30 (It_X12_give n) a0 a1 s r t) ∨ ((15 : Nat) = 76 ∧ T_X12_give_76 (It_X12_give n) a0 a1 s r t) ∨ ((15 : Nat) = 107 ∧ T_X12_give_107 (It_X12_give n) a0 a1 s r t) ∨ ((15 : Nat) = 121 ∧ T_X12_give_121 (It_X12_give n) a0 s r t) ∨ ((15 : Nat) = 151 ∧ T_X12_give_151 (It_X12_give n) a0 s r t) ∨ ((15 : Nat) = 226 ∧ T_X12_give_226 (It_X12_give n) a0 a1 s r t) ∨ ((15 : Nat) = 312 ∧ T_X12_give_312 (It_X12_give n) a0 a1 s r t) ∨ ((15 : Nat) = 340 ∧ T_X12_give_340 (It_X12_give n) a0 s r t) ∨ ((15 : Nat) = 362 ∧ T_X12_give_362 (It_X12_give n) a0 a1 s r t) ∨ ((15 : Nat) = 402 ∧ T_X12_give_402 (It_X12_give n) a0 s r t) ∨ ((15 : Nat) = 419 ∧ T_X12_give_419 (It_X12_give n) a0 a1 s r t) ∨ ((15 : Nat) = 496 ∧ T_X12_give_496 (It_X12_give n) a0 a1 s r t) := h
  rcases h2 with ⟨e, h2⟩ | ⟨e, h2⟩ | ⟨e, h2⟩ | ⟨e, h2⟩ | ⟨e, h2⟩ | ⟨e, h2⟩ | ⟨e, h2⟩ | ⟨e, h2⟩ | ⟨e, h2⟩ | ⟨e, h2⟩ | ⟨e, h2⟩ | ⟨e, h2⟩ | ⟨e, h2⟩
  · exact h2
  · exact absurd e (by decide)
  · exact absurd e (by decide)
  · exact absurd e (by decide)
  · exact absurd e (by decide)
  · exact absurd e (by decide)
  · exact absurd e (by decide)
  · exact absurd e (by decide)
  · exact absurd e (by decide)
  · exact absurd e (by decide)
  · exact absurd e (by decide)
  · exact absurd e (by decide)
  · exact absurd e (by decide)
theorem ul_X12_give_30 {n : Nat} {a0 a1 : Int} {s t : PS} {r : Int} (h : It_X12_give (n + 1) 30 a0 a1 s r t) : T_X12_give_30 (It_X12_give n) a0 a1 s r t := by
  have h2 : ((30 : Nat) = 15 ∧ T_X12_give_15 (It_X12_give n) a0 s r t) ∨ ((30 : Nat) = 30 ∧ T_X12_give_30 (It_X12_give n) a0 a1 s r t) ∨ ((30 : Nat) = 76 ∧ T_X12_give_76 (It_X12_give n) a0 a1 s r t) ∨ ((30 : Nat) = 107 ∧ T_X12_give_107 (It_X12_give n) a0 a1 s r t) ∨ ((30 : Nat) = 121 ∧ T_X12_give_121 (It_X12_give n) a0 s r t) ∨ ((30 : Nat) = 151 ∧ T_X12_give_151 (It_X12_give n) a0 s r t) ∨ ((30 : Nat) = 226 ∧ T_X12_give_226 (It_X12_give n) a0 a1 s r t) ∨ ((30 : Nat) = 312 ∧ T_X12_give_312 (It_X12_give n) a0 a1 s r t) ∨ ((30 : Nat) = 340 ∧ T_X12_give_340 (It_X12_give n) a0 s r t) ∨ ((30 : Nat) = 362 ∧ T_X12_give_362 (It_X12_give n) a0 a1 s r t) ∨ ((30 : Nat) = 402 ∧ T_X12_give_402 (It_X12_give n) a0 s r t) ∨ ((30 : Nat) = 419 ∧ T_X12_give_419 (It_X12_give n) a0 a1 s r t) ∨ ((30 : Nat) = 496 ∧ T_X12_give_496 (It_X12_give n) a0 a1 s r t) := h
  rcases h2 with ⟨e, h2⟩ | ⟨e, h2⟩ | ⟨e, h2⟩ | ⟨e, h2⟩ | ⟨e, h2⟩ | ⟨e, h2⟩ | ⟨e, h2⟩ | ⟨e, h2⟩ | ⟨e, h2⟩ | ⟨e, h2⟩ | ⟨e, h2⟩ | ⟨e, h2⟩ | ⟨e, h2⟩
  · exact absurd e (by decide)
  · exact h2
  · exact absurd e (by decide)
  · exact absurd e (by decide)
  · exact absurd e (by decide)
  · exact absurd e (by decide)
  · exact absurd e (by decide)
  · exact absurd e (by decide)
  · exact absurd e (by decide)
  · exact absurd e (by decide)
  · exact absurd e (by decide)
  · exact absurd e (by decide)
  · exact absurd e (by decide)
theorem ul_X12_give_76 {n : Nat} {a0 a1 : Int} {s t : PS} {r : Int} (h : It_X12_give (n + 1) 76 a0 a1 s r t) : T_X12_give_76 (It_X12_give n) a0 a1 s r t := by
  have h2 : ((76 : Nat) = 15 ∧ T_X12_give_15 (It_X12_give n) a0 s r t) ∨ ((76 : Nat) = 30 ∧ T_X12_give_30 (It_X12_give n) a0 a1 s r t) ∨ ((76 : Nat) = 76 ∧ T_X12_give_76 (It_X12_give n) a0 a1 s r t) ∨ ((76 : Nat) = 107 ∧ T_X12_give_107 (It_X12_give n) a0 a1 s r t) ∨ ((76 : Nat) = 121 ∧ T_X12_give_121 (It_X12_give n) a0 s r t) ∨ ((76 : Nat) = 151 ∧ T_X12_give_151 (It_X12_give n) a0 s r t) ∨ ((76 : Nat) = 226 ∧ T_X12_give_226 (It_X12_give n) a0 a1 s r t) ∨ ((76 : Nat) = 312 ∧ T_X12_give_312 (It_X12_give n) a0 a1 s r t) ∨ ((76 : Nat) = 340 ∧ T_X12_give_340 (It_X12_give n) a0 s r t) ∨ ((76 : Nat) = 362 ∧ T_X12_give_362 (It_X12_give n) a0 a1 s r t) ∨ ((76 : Nat) = 402 ∧ T_X12_give_402 (It_X12_give n) a0 s r t) ∨ ((76 : Nat) = 419 ∧ T_X12_give_419 (It_X12_give n) a0 a1 s r t) ∨ ((76 : Nat) = 496 ∧ T_X12_give_496 (It_X12_give n) a0 a1 s r t) := h
  rcases h2 with ⟨e, h2⟩ | ⟨e, h2⟩ | ⟨e, h2⟩ | ⟨e, h2⟩ | ⟨e, h2⟩ | ⟨e, h2⟩ | ⟨e, h2⟩ | ⟨e, h2⟩ | ⟨e, h2⟩ | ⟨e, h2⟩ | ⟨e, h2⟩ | ⟨e, h2⟩ | ⟨e, h2⟩
  · exact absurd e (by decide)
  · exact absurd e (by decide)
  · exact h2
  · exact absurd e (by decide)
  · exact absurd e (by decide)
  · exact absurd e (by decide)
  · exact absurd e (by decide)
  · exact absurd e (by decide)
  · exact absurd e (by decide)
  · exact absurd e (by decide)
  · exact absurd e (by decide)
  · exact absurd e (by decide)
  · exact absurd e (by decide)
theorem ul_X12_give_107 {n : Nat} {a0 a1 : Int} {s t : PS} {r : Int} (h : It_X12_give (n + 1) 107 a0 a1 s r t) : T_X12_give_107 (It_X12_give n) a0 a1 s r t := by
  have h2 : ((107 : Nat) = 15 ∧ T_X12_give_15 (It_X12_give n) a0 s r t) ∨ ((107 : Nat) = 30 ∧ T_X12_give_30 (It_X12_give n) a0 a1 s r t) ∨ ((107 : Nat) = 76 ∧ T_X12_give_76 (It_X12_give n) a0 a1 s r t) ∨ ((107 : Nat) = 107 ∧ T_X12_give_107 (It_X12_give n) a0 a1 s r t) ∨ ((107 : Nat) = 121 ∧ T_X12_give_121 (It_X12_give n) a0 s r t) ∨ ((107 : Nat) = 151 ∧ T_X12_give_151 (It_X12_give n) a0 s r t) ∨ ((107 : Nat) = 226 ∧ T_X12_give_226 (It_X12_give n) a0 a1 s r t) ∨ ((107 : Nat) = 312 ∧ T_X12_give_312 (It_X12_give n) a0 a1 s r t) ∨ ((107 : Nat) = 340 ∧ T_X12_give_340 (It_X12_give n) a0 s r t) ∨ ((107 : Nat) = 362 ∧ T_X12_give_362 (It_X12_give n) a0 a1 s r t) ∨ ((107 : Nat) = 402 ∧ T_X12_give_402 (It_X12_give n) a0 s r t) ∨ ((107 : Nat) = 419 ∧ T_X12_give_419 (It_X12_give n) a0 a1 s r t) ∨ ((107 : Nat) = 496 ∧ T_X12_give_496 (It_X12_give n) a0 a1 s r t) := h
  rcases h2 with ⟨e, h2⟩ | ⟨e, h2⟩ | ⟨e, h2⟩ | ⟨e, h2⟩ | ⟨e, h2⟩ | ⟨e, h2⟩ | ⟨e, h2⟩ | ⟨e, h2⟩ | ⟨e, h2⟩ | ⟨e, h2⟩ | ⟨e, h2⟩ | ⟨e, h2⟩ | ⟨e, h2⟩
  · exact absurd e (by decide)
  · exact absurd e (by decide)
  · exact absurd e (by decide)
  · exact h2
  · exact absurd e (by decide)
  · exact absurd e (by decide)
  · exact absurd e (by decide)
  · exact absurd e (by decide)
  · exact absurd e (by decide)
  · exact absurd e (by decide)
  · exact absurd e (by decide)
  · exact absurd e (by decide)
  · exact absurd e (by decide)
theorem ul_X12_give_121 {n : Nat} {a0 a1 : Int} {s t : PS} {r : Int} (h : It_X12_give (n + 1) 121 a0 a1 s r t) : T_X12_give_121 (It_X12_give n) a0 s r t := by
  have h2 : ((121 : Nat) = 15 ∧ T_X12_give_15 (It_X12_give n) a0 s r t) ∨ ((121 : Nat) = 30 ∧ T_X12_give_30 (It_X12_give n) a0 a1 s r t) ∨ ((121 : Nat) = 76 ∧ T_X12_give_76 (It_X12_give n) a0 a1 s r t) ∨ ((121 : Nat) = 107 ∧ T_X12_give_107 (It_X12_give n) a0 a1 s r t) ∨ ((121 : Nat) = 121 ∧ T_X12_give_121 (It_X12_give n) a0 s r t) ∨ ((121 : Nat) = 151 ∧ T_X12_give_151 (It_X12_give n) a0 s r t) ∨ ((121 : Nat) = 226 ∧ T_X12_give_226 (It_X12_give n) a0 a1 s r t) ∨ ((121 : Nat) = 312 ∧ T_X12_give_312 (It_X12_give n) a0 a1 s r t) ∨ ((121 : Nat) = 340 ∧ T_X12_give_340 (It_X12_give n) a0 s r t) ∨ ((121 : Nat) = 362 ∧ T_X12_give_362 (It_X12_give n) a0 a1 s r t) ∨ ((121 : Nat) = 402 ∧ T_X12_give_402 (It_X12_give n) a0 s r t) ∨ ((121 : Nat) = 419 ∧ T_X12_give_419 (It_X12_give n) a0 a1 s r t) ∨ ((121 : Nat) = 496 ∧ T_X12_give_496 (It_X12_give n) a0 a1 s r t) := h
  rcases h2 with ⟨e, h2⟩ | ⟨e, h2⟩ | ⟨e, h2⟩ | ⟨e, h2⟩ | ⟨e, h2⟩ | ⟨e, h2⟩ | ⟨e, h2⟩ | ⟨e, h2⟩ | ⟨e, h2⟩ | ⟨e, h2⟩ | ⟨e, h2⟩ | ⟨e, h2⟩ | ⟨e, h2⟩
  · exact absurd e (by decide)
  · exact absurd e (by decide)
  · exact absurd e (by decide)
  · exact absurd e (by decide)
  · exact h2
  · exact absurd e (by decide)
  · exact absurd e (by decide)
  · exact absurd e (by decide)
  · exact absurd e (by decide)
  · exact absurd e (by decide)
  · exact absurd e (by decide)
  · exact absurd e (by decide)
  · exact absurd e (by decide)
theorem ul_X12_give_151 {n : Nat} {a0 a1 : Int} {s t : PS} {r : Int} (h : It_X12_give (n + 1) 151 a0 a1 s r t) : T_X12_give_151 (It_X12_give n) a0 s r t := by
  have h2 : ((151 : Nat) = 15 ∧ T_X12_give_15 (It_X12_give n) a0 s r t) ∨ ((151 : Nat) = 30 ∧ T_X12_give_30 (It_X12_give n) a0 a1 s r t) ∨ ((151 : Nat) = 76 ∧ T_X12_give_76 (It_X12_give n) a0 a1 s r t) ∨ ((151 : Nat) = 107 ∧ T_X12_give_107 (It_X12_give n) a0 a1 s r t) ∨ ((151 : Nat) = 121 ∧ T_X12_give_121 (It_X12_give n) a0 s r t) ∨ ((151 : Nat) = 151 ∧ T_X12_give_151 (It_X12_give n) a0 s r t) ∨ ((151 : Nat) = 226 ∧ T_X12_give_226 (It_X12_give n) a0 a1 s r t) ∨ ((151 : Nat) = 312 ∧ T_X12_give_312 (It_X12_give n) a0 a1 s r t) ∨ ((151 : Nat) = 340 ∧ T_X12_give_340 (It_X12_give n) a0 s r t) ∨ ((151 : Nat) = 362 ∧ T_X12_give_362 (It_X12_give n) a0 a1 s r t) ∨ ((151 : Nat) = 402 ∧ T_X12_give_402 (It_X12_give n) a0 s r t) ∨ ((151 : Nat) = 419 ∧ T_X12_give_419 (It_X12_give n) a0 a1 s r t) ∨ ((151 : Nat) = 496 ∧ T_X12_give_496 (It_X12_give n) a0 a1 s r t) := h
  rcases h2 with ⟨e, h2⟩ | ⟨e, h2⟩ | ⟨e, h2⟩ | ⟨e, h2⟩ | ⟨e, h2⟩ | ⟨e, h2⟩ | ⟨e, h2⟩ | ⟨e, h2⟩ | ⟨e, h2⟩ | ⟨e, h2⟩ | ⟨e, h2⟩ | ⟨e, h2⟩ | ⟨e, h2⟩
  · exact absurd e (by decide)
  · exact absurd e (by decide)
  · exact absurd e (by decide)
  · exact absurd e (by decide)
  · exact absurd e (by decide)
  · exact h2
  · exact absurd e (by decide)
  · exact absurd e (by decide)
  · exact absurd e (by decide)
  · exact absurd e (by decide)
  · exact absurd e (by decide)
  · exact absurd e (by decide)
  · exact absurd e (by decide)
theorem ul_X12_give_226 {n : Nat} {a0 a1 : Int} {s t : PS} {r : Int} (h : It_X12_give (n + 1) 226 a0 a1 s r t) : T_X12_give_226 (It_X12_give n) a0 a1 s r t := by
  have h2 : ((226 : Nat) = 15 ∧ T_X12_give_15 (It_X12_give n) a0 s r t) ∨ ((226 : Nat) = 30 ∧ T_X12_give_30 (It_X12_give n) a0 a1 s r t) ∨ ((226 : Nat) = 76 ∧ T_X12_give_76 (It_X12_give n) a0 a1 s r t) ∨ ((226 : Nat) = 107 ∧ T_X12_give_107 (It_X12_give n) a0 a1 s r t) ∨ ((226 : Nat) = 121 ∧ T_X12_give_121 (It_X12_give n) a0 s r t) ∨ ((226 : Nat) = 151 ∧ T_X12_give_151 (It_X12_give n) a0 s r t) ∨ ((226 : Nat) = 226 ∧ T_X12_give_226 (It_X12_give n) a0 a1 s r t) ∨ ((226 : Nat) = 312 ∧ T_X12_give_312 (It_X12_give n) a0 a1 s r t) ∨ ((226 : Nat) = 340 ∧ T_X12_give_340 (It_X12_give n) a0 s r t) ∨ ((226 : Nat) = 362 ∧ T_X12_give_362 (It_X12_give n) a0 a1 s r t) ∨ ((226 : Nat) = 402 ∧ T_X12_give_402 (It_X12_give n) a0 s r t) ∨ ((226 : Nat) = 419 ∧ T_X12_give_419 (It_X12_give n) a0 a1 s r t) ∨ ((226 : Nat) = 496 ∧ T_X12_give_496 (It_X12_give n) a0 a1 s r t) := h
  rcases h2 with ⟨e, h2⟩ | ⟨e, h2⟩ | ⟨e, h2⟩ | ⟨e, h2⟩ | ⟨e, h2⟩ | ⟨e, h2⟩ | ⟨e, h2⟩ | ⟨e, h2⟩ | ⟨e, h2⟩ | ⟨e, h2⟩ | ⟨e, h2⟩ | ⟨e, h2⟩ | ⟨e, h2⟩
  · exact absurd e (by decide)
  · exact absurd e (by decide)
  · exact absurd e (by decide)
  · exact absurd e (by decide)
  · exact absurd e (by decide)
  · exact absurd e (by decide)
  · exact h2
  · exact absurd e (by decide)
  · exact absurd e (by decide)
  · exact absurd e (by decide)
  · exact absurd e (by decide)
  · exact absurd e (by decide)
  · exact absurd e (by decide)
theorem ul_X12_give_312 {n : Nat} {a0 a1 : Int} {s t : PS} {r : Int} (h : It_X12_give (n + 1) 312 a0 a1 s r t) : T_X12_give_312 (It_X12_give n) a0 a1 s r t := by
  have h2 : ((312 : Nat) = 15 ∧ T_X12_give_15 (It_X12_give n) a0 s r t) ∨ ((312 : Nat) = 30 ∧ T_X12_give_30 (It_X12_give n) a0 a1 s r t) ∨ ((312 : Nat) = 76 ∧ T_X12_give_76 (It_X12_give n) a0 a1 s r t) ∨ ((312 : Nat) = 107 ∧ T_X12_give_107 (It_X12_give n) a0 a1 s r t) ∨ ((312 : Nat) = 121 ∧ T_X12_give_121 (It_X12_give n) a0 s r t) ∨ ((312 : Nat) = 151 ∧ T_X12_give_151 (It_X12_give n) a0 s r t) ∨ ((312 : Nat) = 226 ∧ T_X12_give_226 (It_X12_give n) a0 a1 s r t) ∨ ((312 : Nat) = 312 ∧ T_X12_give_312 (It_X12_give n) a0 a1 s r t) ∨ ((312 : Nat) = 340 ∧ T_X12_give_340 (It_X12_give n) a0 s r t) ∨ ((312 : Nat) = 362 ∧ T_X12_give_362 (It_X12_give n) a0 a1 s r t) ∨ ((312 : Nat) = 402 ∧ T_X12_give_402 (It_X12_give n) a0 s r t) ∨ ((312 : Nat) = 419 ∧ T_X12_give_419 (It_X12_give n) a0 a1 s r t) ∨ ((312 : Nat) = 496 ∧ T_X12_give_496 (It_X12_give n) a0 a1 s r t) := h
  rcases h2 with ⟨e, h2⟩ | ⟨e, h2⟩ | ⟨e, h2⟩ | ⟨e, h2⟩ | ⟨e, h2⟩ | ⟨e, h2⟩ | ⟨e, h2⟩ | ⟨e, h2⟩ | ⟨e, h2⟩ | ⟨e, h2⟩ | ⟨e, h2⟩ | ⟨e, h2⟩ | ⟨e, h2⟩
  · exact absurd e (by decide)
  · exact absurd e (by decide)
  · exact absurd e (by decide)
  · exact absurd e (by decide)
  · exact absurd e (by decide)
  · exact absurd e (by decide)
  · exact absurd e (by decide)
  · exact h2
  · exact absurd e (by decide)
  · exact absurd e (by decide)
  · exact absurd e (by decide)
  · exact absurd e (by decide)
  · exact absurd e (by decide)
theorem ul_X12_give_340 {n : Nat} {a0 a1 : Int} {s t : PS} {r : Int} (h : It_X12_give (n + 1) 340 a0 a1 s r t) : T_X12_give_340 (It_X12_give n) a0 s r t := by
  have h2 : ((340 : Nat) = 15 ∧ T_X12_give_15 (It_X12_give n) a0 s r t) ∨ ((340 : Nat) = 30 ∧ T_X12_give_30 (It_X12_give n) a0 a1 s r t) ∨ ((340 : Nat) = 76 ∧ T_X12_give_76 (It_X12_give n) a0 a1 s r t) ∨ ((340 : Nat) = 107 ∧ T_X12_give_107 (It_X12_give n) a0 a1 s r t) ∨ ((340 : Nat) = 121 ∧ T_X12_give_121 (It_X12_give n) a0 s r t) ∨ ((340 : Nat) = 151 ∧ T_X12_give_151 (It_X12_give n) a0 s r t) ∨ ((340 : Nat) = 226 ∧ T_X12_give_226 (It_X12_give n) a0 a1 s r t) ∨ ((340 : Nat) = 312 ∧ T_X12_give_312 (It_X12_give n) a0 a1 s r t) ∨ ((340 : Nat) = 340 ∧ T_X12_give_340 (It_X12_give n) a0 s r t) ∨ ((340 : Nat) = 362 ∧ T_X12_give_362 (It_X12_give n) a0 a1 s r t) ∨ ((340 : Nat) = 402 ∧ T_X12_give_402 (It_X12_give n) a0 s r t) ∨ ((340 : Nat) = 419 ∧ T_X12_give_419 (It_X12_give n) a0 a1 s r t) ∨ ((340 : Nat) = 496 ∧ T_X12_give_496 (It_X12_give n) a0 a1 s r t) := h
  rcases h2 with ⟨e, h2⟩ | ⟨e, h2⟩ | ⟨e, h2⟩ | ⟨e, h2⟩ | ⟨e, h2⟩ | ⟨e, h2⟩ | ⟨e, h2⟩ | ⟨e, h2⟩ | ⟨e, h2⟩ | ⟨e, h2⟩ | ⟨e, h2⟩ | ⟨e, h2⟩ | ⟨e, h2⟩
  · exact absurd e (by decide)
  · exact absurd e (by decide)
  · exact absurd e (by decide)
  · exact absurd e (by decide)
  · exact absurd e (by decide)
  · exact absurd e (by decide)
  · exact absurd e (by decide)
  · exact absurd e (by decide)
  · exact h2
  · exact absurd e (by decide)
  · exact absurd e (by decide)
  · exact absurd e (by decide)
  · exact absurd e (by decide)
theorem ul_X12_give_362 {n : Nat} {a0 a1 : Int} {s t : PS} {r : Int} (h : It_X12_give (n + 1) 362 a0 a1 s r t) : T_X12_give_362 (It_X12_give n) a0 a1 s r t := by
  have h2 : ((362 : Nat) = 15 ∧ T_X12_give_15 (It_X12_give n) a0 s r t) ∨ ((362 : Nat) = 30 ∧ T_X12_give_30 (It_X12_give n) a0 a1 s r t) ∨ ((362 : Nat) = 76 ∧ T_X12_give_76 (It_X12_give n) a0 a1 s r t) ∨ ((362 : Nat) = 107 ∧ T_X12_give_107 (It_X12_give n) a0 a1 s r t) ∨ ((362 : Nat) = 121 ∧ T_X12_give_121 (It_X12_give n) a0 s r t) ∨ ((362 : Nat) = 151 ∧ T_X12_give_151 (It_X12_give n) a0 s r t) ∨ ((362 : Nat) = 226 ∧ T_X12_give_226 (It_X12_give n) a0 a1 s r t) ∨ ((362 : Nat) = 312 ∧ T_X12_give_312 (It_X12_give n) a0 a1 s r t) ∨ ((362 : Nat) = 340 ∧ T_X12_give_340 (It_X12_give n) a0 s r t) ∨ ((362 : Nat) = 362 ∧ T_X12_give_362 (It_X12_give n) a0 a1 s r t) ∨ ((362 : Nat) = 402 ∧ T_X12_give_402 (It_X12_give n) a0 s r t) ∨ ((362 : Nat) = 419 ∧ T_X12_give_419 (It_X12_give n) a0 a1 s r t) ∨ ((362 : Nat) = 496 ∧ T_X12_give_496 (It_X12_give n) a0 a1 s r t) := h
  rcases h2 with ⟨e, h2⟩ | ⟨e, h2⟩ | ⟨e, h2⟩ | ⟨e, h2⟩ | ⟨e, h2⟩ | ⟨e, h2⟩ | ⟨e, h2⟩ | ⟨e, h2⟩ | ⟨e, h2⟩ | ⟨e, h2⟩ | ⟨e, h2⟩ | ⟨e, h2⟩ | ⟨e, h2⟩
  · exact absurd e (by decide)
  · exact absurd e (by decide)
  · exact absurd e (by decide)
  · exact absurd e (by decide)
  · exact absurd e (by decide)
  · exact absurd e (by decide)
  · exact absurd e (by decide)
  · exact absurd e (by decide)
  · exact absurd e (by decide)
  · exact h2
  · exact absurd e (by decide)
  · exact absurd e (by decide)
  · exact absurd e (by decide)
theorem ul_X12_give_402 {n : Nat} {a0 a1 : Int} {s t : PS} {r : Int} (h : It_X12_give (n + 1) 402 a0 a1 s r t) : T_X12_give_402 (It_X12_give n) a0 s r t := by
  have h2 : ((402 : Nat) = 15 ∧ T_X12_give_15 (It_X12_give n) a0 s r t) ∨ ((402 : Nat) = 30 ∧ T_X12_give_30 (It_X12_give n) a0 a1 s r t) ∨ ((402 : Nat) = 76 ∧ T_X12_give_76 (It_X12_give n) a0 a1 s r t) ∨ ((402 : Nat) = 107 ∧ T_X12_give_107 (It_X12_give n) a0 a1 s r t) ∨ ((402 : Nat) = 121 ∧ T_X12_give_121 (It_X12_give n) a0 s r t) ∨ ((402 : Nat) = 151 ∧ T_X12_give_151 (It_X12_give n) a0 s r t) ∨ ((402 : Nat) = 226 ∧ T_X12_give_226 (It_X12_give n) a0 a1 s r t) ∨ ((402 : Nat) = 312 ∧ T_X12_give_312 (It_X12_give n) a0 a1 s r t) ∨ ((402 : Nat) = 340 ∧ T_X12_give_340 (It_X12_give n) a0 s r t) ∨ ((402 : Nat) = 362 ∧ T_X12_give_362 (It_X12_give n) a0 a1 s r t) ∨ ((402 : Nat) = 402 ∧ T_X12_give_402 (It_X12_give n) a0 s r t) ∨ ((402 : Nat) = 419 ∧ T_X12_give_419 (It_X12_give n) a0 a1 s r t) ∨ ((402 : Nat) = 496 ∧ T_X12_give_496 (It_X12_give n) a0 a1 s r t) := h
  rcases h2 with ⟨e, h2⟩ | ⟨e, h2⟩ | ⟨e, h2⟩ | ⟨e, h2⟩ | ⟨e, h2⟩ | ⟨e, h2⟩ | ⟨e, h2⟩ | ⟨e, h2⟩ | ⟨e, h2⟩ | ⟨e, h2⟩ | ⟨e, h2⟩ | ⟨e, h2⟩ | ⟨e, h2⟩
  · exact absurd e (by decide)
  · exact absurd e (by decide)
  · exact absurd e (by decide)
  · exact absurd e (by decide)
  · exact absurd e (by decide)
  · exact absurd e (by decide)
  · exact absurd e (by decide)
  · exact absurd e (by decide)
  · exact absurd e (by decide)
  · exact absurd e (by decide)
  · exact h2
  · exact absurd e (by decide)
  · exact absurd e (by decide)
theorem ul_X12_give_419 {n : Nat} {a0 a1 : Int} {s t : PS} {r : Int} (h : It_X12_give (n + 1) 419 a0 a1 s r t) : T_X12_give_419 (It_X12_give n) a0 a1 s r t := by
  have h2 : ((419 : Nat) = 15 ∧ T_X12_give_15 (It_X12_give n) a0 s r t) ∨ ((419 : Nat) = 30 ∧ T_X12_give_30 (It_X12_give n) a0 a1 s r t) ∨ ((419 : Nat) = 76 ∧ T_X12_give_76 (It_X12_give n) a0 a1 s r t) ∨ ((419 : Nat) = 107 ∧ T_X12_give_107 (It_X12_give n) a0 a1 s r t) ∨ ((419 : Nat) = 121 ∧ T_X12_give_121 (It_X12_give n) a0 s r t) ∨ ((419 : Nat) = 151 ∧ T_X12_give_151 (It_X12_give n) a0 s r t) ∨ ((419 : Nat) = 226 ∧ T_X12_give_226 (It_X12_give n) a0 a1 s r t) ∨ ((419 : Nat) = 312 ∧ T_X12_give_312 (It_X12_give n) a0 a1 s r t) ∨ ((419 : Nat) = 340 ∧ T_X12_give_340 (It_X12_give n) a0 s r t) ∨ ((419 : Nat) = 362 ∧ T_X12_give_362 (It_X12_give n) a0 a1 s r t) ∨ ((419 : Nat) = 402 ∧ T_X12_give_402 (It_X12_give n) a0 s r t) ∨ ((419 : Nat) = 419 ∧ T_X12_give_419 (It_X12_give n) a0 a1 s r t) ∨ ((419 : Nat) = 496 ∧ T_X12_give_496 (It_X12_give n) a0 a1 s r t) := h
  rcases h2 with ⟨e, h2⟩ | ⟨e, h2⟩ | ⟨e, h2⟩ | ⟨e, h2⟩ | ⟨e, h2⟩ | ⟨e, h2⟩ | ⟨e, h2⟩ | ⟨e, h2⟩ | ⟨e, h2⟩ | ⟨e, h2⟩ | ⟨e, h2⟩ | ⟨e, h2⟩ | ⟨e, h2⟩
  · exact absurd e (by decide)
  · exact absurd e (by decide)
  · exact absurd e (by decide)
  · exact absurd e (by decide)
  · exact absurd e (by decide)
  · exact absurd e (by decide)
  · exact absurd e (by decide)
  · exact absurd e (by decide)
  · exact absurd e (by decide)
  · exact absurd e (by decide)
  · exact absurd e (by decide)
  · exact h2
  · exact absurd e (by decide)
theorem ul_X12_give_496 {n : Nat} {a0 a1 : Int} {s t : PS} {r : Int} (h : It_X12_give (n + 1) 496 a0 a1 s r t) : T_X12_give_496 (It_X12_give n) a0 a1 s r t := by
  have h2 : ((496 : Nat) = 15 ∧ T_X12_give_15 (It_X12_give n) a0 s r t) ∨ ((496 : Nat) = 30 ∧ T_X12_give_30 (It_X12_give n) a0 a1 s r t) ∨ ((496 : Nat) = 76 ∧ T_X12_give_76 (It_X12_give n) a0 a1 s r t) ∨ ((496 : Nat) = 107 ∧ T_X12_give_107 (It_X12_give n) a0 a1 s r t) ∨ ((496 : Nat) = 121 ∧ T_X12_give_121 (It_X12_give n) a0 s r t) ∨ ((496 : Nat) = 151 ∧ T_X12_give_151 (It_X12_give n) a0 s r t) ∨ ((496 : Nat) = 226 ∧ T_X12_give_226 (It_X12_give n) a0 a1 s r t) ∨ ((496 : Nat) = 312 ∧ T_X12_give_312 (It_X12_give n) a0 a1 s r t) ∨ ((496 : Nat) = 340 ∧ T_X12_give_340 (It_X12_give n) a0 s r t) ∨ ((496 : Nat) = 362 ∧ T_X12_give_362 (It_X12_give n) a0 a1 s r t) ∨ ((496 : Nat) = 402 ∧ T_X12_give_402 (It_X12_give n) a0 s r t) ∨ ((496 : Nat) = 419 ∧ T_X12_give_419 (It_X12_give n) a0 a1 s r t) ∨ ((496 : Nat) = 496 ∧ T_X12_give_496 (It_X12_give n) a0 a1 s r t) := h
  rcases h2 with ⟨e, h2⟩ | ⟨e, h2⟩ | ⟨e, h2⟩ | ⟨e, h2⟩ | ⟨e, h2⟩ | ⟨e, h2⟩ | ⟨e, h2⟩ | ⟨e, h2⟩ | ⟨e, h2⟩ | ⟨e, h2⟩ | ⟨e, h2⟩ | ⟨e, h2⟩ | ⟨e, h2⟩
  · exact absurd e (by decide)
  · exact absurd e (by decide)
  · exact absurd e (by decide)
  · exact absurd e (by decide)
  · exact absurd e (by decide)
  · exact absurd e (by decide)
  · exact absurd e (by decide)
  · exact absurd e (by decide)
  · exact absurd e (by decide)
  · exact absurd e (by decide)
  · exact absurd e (by decide)
  · exact absurd e (by decide)
  · exact h2
def M_X12_give (s : PS) (r : Int) (t : PS) : Prop := ∃ n, T_X12_give_e (It_X12_give n) s r t
theorem mk_X12_give {n : Nat} {s t : PS} {r : Int} (h : T_X12_give_e (It_X12_give n) s r t) : M_X12_give s r t := ⟨n, h⟩
def T_X12_bits_4 (K : Int → Int → Int → PS → Int → PS → Prop) (x4_0 x4_1 x4_2 : Int) (s_w4 : PS) (rr : Int) (ss : PS) : Prop := ((TyM s_w4) ∧ ((0 ≤ x4_2 ∧ x4_2 ≤ 10) ∧ ((10 ≤ x4_2 ∧ (rr = x4_1 ∧ ss = s_w4)) ∨ (¬ (10 ≤ x4_2) ∧ (K x4_0 (wi (x4_1 + (iAnd (iShr x4_0 x4_2) 1))) (x4_2 + 1) s_w4 rr ss)))))
def T_X12_bits_e (K : Int → Int → Int → PS → Int → PS → Prop) (s_w : PS) (p0 : Int) (rr : Int) (ss : PS) : Prop := ((TyM s_w) ∧ (K p0 0 0 s_w rr ss))
def It_X12_bits : Nat → Int → Int → Int → PS → Int → PS → Prop
  | 0, _, _, _, _, _, _ => False
  | n + 1, a0, a1, a2, s, r, t => T_X12_bits_4 (It_X12_bits n) a0 a1 a2 s r t
theorem rl_X12_bits_4 {n : Nat} {a0 a1 a2 : Int} {s t : PS} {r : Int} (h : T_X12_bits_4 (It_X12_bits n) a0 a1 a2 s r t) : It_X12_bits (n + 1) a0 a1 a2 s r t := h
theorem ul_X12_bits_4 {n : Nat} {a0 a1 a2 : Int} {s t : PS} {r : Int} (h : It_X12_bits (n + 1) a0 a1 a2 s r t) : T_X12_bits_4 (It_X12_bits n) a0 a1 a2 s r t := h
def M_X12_bits (s : PS) (p0 : Int) (r : Int) (t : PS) : Prop := ∃ n, T_X12_bits_e (It_X12_bits n) s p0 r t
theorem mk_X12_bits {n : Nat} {s t : PS} {p0 : Int} {r : Int} (h : T_X12_bits_e (It_X12_bits n) s p0 r t) : M_X12_bits s p0 r t := ⟨n, h⟩
