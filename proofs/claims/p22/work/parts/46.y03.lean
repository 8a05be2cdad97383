def T_X12_kind_25 (K : Nat → Int → Int → Int → Int → Int → Int → Int → PS → Int → PS → Prop) (x25_1 : Int) (s_w25 : PS) (rr : Int) (ss : PS) : Prop := ((TyM s_w25) ∧ ((0 ≤ x25_1 ∧ x25_1 ≤ 10) ∧ (((s_w25 0 8) = 0 ∧ (∃ s_w_108 : PS, ((M_X12_looks s_w25 0 s_w_108) ∧ ((Fr intsM [0] [(0, 3), (0, 4), (0, 5), (0, 6), (0, 7), (0, 8), (0, 9)] s_w25 s_w_108) ∧ ((TyM s_w_108) ∧ (K 36 x25_1 0 0 0 0 0 0 s_w_108 rr ss)))))) ∨ (¬ ((s_w25 0 8) = 0) ∧ (K 36 x25_1 0 0 0 0 0 0 s_w25 rr ss)))))
def T_X12_kind_36 (K : Nat → Int → Int → Int → Int → Int → Int → Int → PS → Int → PS → Prop) (x36_1 : Int) (s_w36 : PS) (rr : Int) (ss : PS) : Prop := ((TyM s_w36) ∧ ((0 ≤ x36_1 ∧ x36_1 ≤ 10) ∧ (((s_w36 0 8) = 0 ∧ (((s_w36 0 3) = 1 ∧ (∃ r_104 : Int, (∃ s_w_103 : PS, ((M_X12_isOwn s_w36 (s_w36 0 7) r_104 s_w_103) ∧ ((Fr intsM [] [] s_w36 s_w_103) ∧ ((TyM s_w_103) ∧ ((0 ≤ r_104 ∧ r_104 ≤ 1) ∧ ((r_104 = 0 ∧ (K 71 x36_1 0 0 0 0 0 0 s_w_103 rr ss)) ∨ (¬ (r_104 = 0) ∧ (K 62 x36_1 0 0 0 0 0 0 s_w_103 rr ss)))))))))) ∨ (¬ ((s_w36 0 3) = 1) ∧ (K 62 x36_1 0 0 0 0 0 0 s_w36 rr ss)))) ∨ (¬ ((s_w36 0 8) = 0) ∧ (K 71 x36_1 0 0 0 0 0 0 s_w36 rr ss)))))
def T_X12_kind_62 (K : Nat → Int → Int → Int → Int → Int → Int → Int → PS → Int → PS → Prop) (x62_1 : Int) (s_w62 : PS) (rr : Int) (ss : PS) : Prop := ((TyM s_w62) ∧ ((0 ≤ x62_1 ∧ x62_1 ≤ 10) ∧ (∃ s_w_95 : PS, ((M_X12_blame s_w62 1 (s_w62 0 4) 0 s_w_95) ∧ ((Fr intsM [0] [(0, 8), (0, 9)] s_w62 s_w_95) ∧ ((TyM s_w_95) ∧ (K 71 x62_1 0 0 0 0 0 0 s_w_95 rr ss)))))))
def T_X12_kind_71 (K : Nat → Int → Int → Int → Int → Int → Int → Int → PS → Int → PS → Prop) (x71_1 : Int) (s_w71 : PS) (rr : Int) (ss : PS) : Prop := ((TyM s_w71) ∧ ((0 ≤ x71_1 ∧ x71_1 ≤ 10) ∧ (((s_w71 0 8) = 0 ∧ (∃ r_88 : Int, (∃ s_w_87 : PS, ((M_X12_findKind s_w71 (s_w71 0 7) r_88 s_w_87) ∧ ((Fr intsM [] [] s_w71 s_w_87) ∧ ((TyM s_w_87) ∧ (((-1) ≤ r_88 ∧ r_88 ≤ 9) ∧ ((0 ≤ r_88 ∧ (K 100 x71_1 0 0 0 0 0 0 s_w_87 rr ss)) ∨ (¬ (0 ≤ r_88) ∧ (∃ r_92 : Int, (∃ s_w_91 : PS, ((M_X12_findMark s_w_87 (s_w71 0 7) r_92 s_w_91) ∧ ((Fr intsM [] [] s_w_87 s_w_91) ∧ ((TyM s_w_91) ∧ (((-1) ≤ r_92 ∧ r_92 ≤ 7) ∧ ((r_92 < 0 ∧ (K 109 x71_1 0 0 0 0 0 0 s_w_91 rr ss)) ∨ (¬ (r_92 < 0) ∧ (K 100 x71_1 0 0 0 0 0 0 s_w_91 rr ss)))))))))))))))))) ∨ (¬ ((s_w71 0 8) = 0) ∧ (K 109 x71_1 0 0 0 0 0 0 s_w71 rr ss)))))
def T_X12_kind_100 (K : Nat → Int → Int → Int → Int → Int → Int → Int → PS → Int → PS → Prop) (x100_1 : Int) (s_w100 : PS) (rr : Int) (ss : PS) : Prop := ((TyM s_w100) ∧ ((0 ≤ x100_1 ∧ x100_1 ≤ 10) ∧ (∃ s_w_80 : PS, ((M_X12_blame s_w100 2 (s_w100 0 4) 0 s_w_80) ∧ ((Fr intsM [0] [(0, 8), (0, 9)] s_w100 s_w_80) ∧ ((TyM s_w_80) ∧ (K 109 x100_1 0 0 0 0 0 0 s_w_80 rr ss)))))))
def T_X12_kind_109 (K : Nat → Int → Int → Int → Int → Int → Int → Int → PS → Int → PS → Prop) (x109_1 : Int) (s_w109 : PS) (rr : Int) (ss : PS) : Prop := ((TyM s_w109) ∧ ((0 ≤ x109_1 ∧ x109_1 ≤ 10) ∧ (((s_w109 0 8) = 0 ∧ (∃ s_w_74 : PS, ((M_X12_looks s_w109 0 s_w_74) ∧ ((Fr intsM [0] [(0, 3), (0, 4), (0, 5), (0, 6), (0, 7), (0, 8), (0, 9)] s_w109 s_w_74) ∧ ((TyM s_w_74) ∧ (K 125 x109_1 (s_w109 0 7) 0 0 0 0 0 s_w_74 rr ss)))))) ∨ (¬ ((s_w109 0 8) = 0) ∧ (K 125 x109_1 (s_w109 0 7) 0 0 0 0 0 s_w109 rr ss)))))
def T_X12_kind_125 (K : Nat → Int → Int → Int → Int → Int → Int → Int → PS → Int → PS → Prop) (x125_1 x125_2 : Int) (s_w125 : PS) (rr : Int) (ss : PS) : Prop := ((TyM s_w125) ∧ ((0 ≤ x125_1 ∧ x125_1 ≤ 10) ∧ (((s_w125 0 8) = 0 ∧ (∃ s_w_67 : PS, ((M_X12_mustWord s_w125 512970880104 0 s_w_67) ∧ ((Fr intsM [0] [(0, 3), (0, 4), (0, 5), (0, 6), (0, 7), (0, 8), (0, 9)] s_w125 s_w_67) ∧ ((TyM s_w_67) ∧ (K 139 x125_1 x125_2 0 0 0 0 0 s_w_67 rr ss)))))) ∨ (¬ ((s_w125 0 8) = 0) ∧ (K 139 x125_1 x125_2 0 0 0 0 0 s_w125 rr ss)))))
def T_X12_kind_139 (K : Nat → Int → Int → Int → Int → Int → Int → Int → PS → Int → PS → Prop) (x139_1 x139_2 : Int) (s_w139 : PS) (rr : Int) (ss : PS) : Prop := ((TyM s_w139) ∧ ((0 ≤ x139_1 ∧ x139_1 ≤ 10) ∧ (((s_w139 0 8) = 0 ∧ (∃ r_62 : Int, (∃ s_w_61 : PS, ((M_X12_number s_w139 1 500 r_62 s_w_61) ∧ ((Fr intsM [0] [(0, 3), (0, 4), (0, 5), (0, 6), (0, 7), (0, 8), (0, 9)] s_w139 s_w_61) ∧ ((TyM s_w_61) ∧ (K 158 x139_1 x139_2 r_62 0 0 0 0 s_w_61 rr ss))))))) ∨ (¬ ((s_w139 0 8) = 0) ∧ (K 158 x139_1 x139_2 0 0 0 0 0 s_w139 rr ss)))))
def T_X12_kind_158 (K : Nat → Int → Int → Int → Int → Int → Int → Int → PS → Int → PS → Prop) (x158_1 x158_2 y158_0 : Int) (s_w158 : PS) (rr : Int) (ss : PS) : Prop := ((TyM s_w158) ∧ ((0 ≤ x158_1 ∧ x158_1 ≤ 10) ∧ (((s_w158 0 8) = 0 ∧ (∃ s_w_54 : PS, ((M_X12_mustWord s_w158 482955846501 0 s_w_54) ∧ ((Fr intsM [0] [(0, 3), (0, 4), (0, 5), (0, 6), (0, 7), (0, 8), (0, 9)] s_w158 s_w_54) ∧ ((TyM s_w_54) ∧ (K 174 x158_1 x158_2 y158_0 0 0 0 0 s_w_54 rr ss)))))) ∨ (¬ ((s_w158 0 8) = 0) ∧ (K 174 x158_1 x158_2 y158_0 0 0 0 0 s_w158 rr ss)))))
def T_X12_kind_174 (K : Nat → Int → Int → Int → Int → Int → Int → Int → PS → Int → PS → Prop) (x174_1 x174_2 x174_4 : Int) (s_w174 : PS) (rr : Int) (ss : PS) : Prop := ((TyM s_w174) ∧ ((0 ≤ x174_1 ∧ x174_1 ≤ 10) ∧ (((s_w174 0 8) = 0 ∧ (∃ r_49 : Int, (∃ s_w_48 : PS, ((M_X12_number s_w174 0 1000 r_49 s_w_48) ∧ ((Fr intsM [0] [(0, 3), (0, 4), (0, 5), (0, 6), (0, 7), (0, 8), (0, 9)] s_w174 s_w_48) ∧ ((TyM s_w_48) ∧ (K 193 x174_1 x174_2 x174_4 r_49 0 0 0 s_w_48 rr ss))))))) ∨ (¬ ((s_w174 0 8) = 0) ∧ (K 193 x174_1 x174_2 x174_4 0 0 0 0 s_w174 rr ss)))))
def T_X12_kind_193 (K : Nat → Int → Int → Int → Int → Int → Int → Int → PS → Int → PS → Prop) (x193_1 x193_2 x193_4 y193_0 : Int) (s_w193 : PS) (rr : Int) (ss : PS) : Prop := ((TyM s_w193) ∧ ((0 ≤ x193_1 ∧ x193_1 ≤ 10) ∧ (((s_w193 0 8) = 0 ∧ (∃ s_w_41 : PS, ((M_X12_mustWord s_w193 24948 0 s_w_41) ∧ ((Fr intsM [0] [(0, 3), (0, 4), (0, 5), (0, 6), (0, 7), (0, 8), (0, 9)] s_w193 s_w_41) ∧ ((TyM s_w_41) ∧ (K 209 x193_1 x193_2 x193_4 y193_0 0 0 0 s_w_41 rr ss)))))) ∨ (¬ ((s_w193 0 8) = 0) ∧ (K 209 x193_1 x193_2 x193_4 y193_0 0 0 0 s_w193 rr ss)))))
def T_X12_kind_209 (K : Nat → Int → Int → Int → Int → Int → Int → Int → PS → Int → PS → Prop) (x209_1 x209_2 x209_4 x209_5 : Int) (s_w209 : PS) (rr : Int) (ss : PS) : Prop := ((TyM s_w209) ∧ ((0 ≤ x209_1 ∧ x209_1 ≤ 10) ∧ (((s_w209 0 8) = 0 ∧ (∃ r_36 : Int, (∃ s_w_35 : PS, ((M_X12_number s_w209 0 200 r_36 s_w_35) ∧ ((Fr intsM [0] [(0, 3), (0, 4), (0, 5), (0, 6), (0, 7), (0, 8), (0, 9)] s_w209 s_w_35) ∧ ((TyM s_w_35) ∧ (K 228 x209_1 x209_2 x209_4 x209_5 r_36 0 0 s_w_35 rr ss))))))) ∨ (¬ ((s_w209 0 8) = 0) ∧ (K 228 x209_1 x209_2 x209_4 x209_5 0 0 0 s_w209 rr ss)))))
def T_X12_kind_228 (K : Nat → Int → Int → Int → Int → Int → Int → Int → PS → Int → PS → Prop) (x228_1 x228_2 x228_4 x228_5 y228_0 : Int) (s_w228 : PS) (rr : Int) (ss : PS) : Prop := ((TyM s_w228) ∧ ((0 ≤ x228_1 ∧ x228_1 ≤ 10) ∧ (((s_w228 0 8) = 0 ∧ (∃ r_29 : Int, (∃ s_w_28 : PS, ((M_X12_isWord s_w228 26995 r_29 s_w_28) ∧ ((Fr intsM [] [] s_w228 s_w_28) ∧ ((TyM s_w_28) ∧ ((0 ≤ r_29 ∧ r_29 ≤ 1) ∧ ((r_29 = 0 ∧ (K 254 x228_1 x228_2 x228_4 x228_5 y228_0 0 0 s_w_28 rr ss)) ∨ (¬ (r_29 = 0) ∧ (K 255 x228_1 x228_2 x228_4 x228_5 y228_0 0 1 s_w_28 rr ss)))))))))) ∨ (¬ ((s_w228 0 8) = 0) ∧ (K 254 x228_1 x228_2 x228_4 x228_5 y228_0 0 0 s_w228 rr ss)))))
def T_X12_kind_254 (K : Nat → Int → Int → Int → Int → Int → Int → Int → PS → Int → PS → Prop) (x254_1 x254_2 x254_4 x254_5 x254_6 x254_7 : Int) (s_w254 : PS) (rr : Int) (ss : PS) : Prop := ((TyM s_w254) ∧ ((0 ≤ x254_1 ∧ x254_1 ≤ 10) ∧ ((0 ≤ x254_7 ∧ x254_7 ≤ 0) ∧ (K 255 x254_1 x254_2 x254_4 x254_5 x254_6 x254_7 0 s_w254 rr ss))))
def T_X12_kind_255 (K : Nat → Int → Int → Int → Int → Int → Int → Int → PS → Int → PS → Prop) (x255_1 x255_2 x255_4 x255_5 x255_6 x255_7 y255_0 : Int) (s_w255 : PS) (rr : Int) (ss : PS) : Prop := ((TyM s_w255) ∧ ((0 ≤ x255_1 ∧ x255_1 ≤ 10) ∧ ((0 ≤ x255_7 ∧ x255_7 ≤ 0) ∧ ((0 ≤ y255_0 ∧ y255_0 ≤ 1) ∧ (K 257 x255_1 x255_2 x255_4 x255_5 x255_6 x255_7 y255_0 s_w255 rr ss)))))
def T_X12_kind_257 (K : Nat → Int → Int → Int → Int → Int → Int → Int → PS → Int → PS → Prop) (x257_1 x257_2 x257_4 x257_5 x257_6 x257_7 x257_8 : Int) (s_w257 : PS) (rr : Int) (ss : PS) : Prop := ((TyM s_w257) ∧ ((0 ≤ x257_1 ∧ x257_1 ≤ 10) ∧ ((0 ≤ x257_8 ∧ x257_8 ≤ 1) ∧ ((x257_8 = 0 ∧ (((s_w257 0 8) ≤ 0 ∧ (∃ s_w_3 : PS, s_w_3 = (us s_w257 6 ((10 * (s_w257 0 13)) + x257_1).toNat x257_2) ∧ (∃ s_w_4 : PS, s_w_4 = (us s_w_3 8 ((10 * (s_w257 0 13)) + x257_1).toNat x257_4) ∧ (∃ s_w_5 : PS, s_w_5 = (us s_w_4 9 ((10 * (s_w257 0 13)) + x257_1).toNat x257_5) ∧ (∃ s_w_6 : PS, s_w_6 = (us s_w_5 10 ((10 * (s_w257 0 13)) + x257_1).toNat x257_6) ∧ (∃ s_w_7 : PS, s_w_7 = (us s_w_6 11 ((10 * (s_w257 0 13)) + x257_1).toNat x257_7) ∧ (∃ s_w_9 : PS, s_w_9 = (us s_w_7 2 (s_w257 0 13).toNat ((s_w257 2 (s_w257 0 13).toNat) + 1)) ∧ (rr = 0 ∧ ss = s_w_9)))))))) ∨ (¬ ((s_w257 0 8) ≤ 0) ∧ (rr = 0 ∧ ss = s_w257)))) ∨ (¬ (x257_8 = 0) ∧ (∃ s_w_10 : PS, ((M_X12_looks s_w257 0 s_w_10) ∧ ((Fr intsM [0] [(0, 3), (0, 4), (0, 5), (0, 6), (0, 7), (0, 8), (0, 9)] s_w257 s_w_10) ∧ ((TyM s_w_10) ∧ (∃ r_17 : Int, (∃ s_w_16 : PS, ((M_X12_mark s_w_10 x257_2 x257_7 r_17 s_w_16) ∧ ((Fr intsM [0, 3, 7] [(0, 3), (0, 4), (0, 5), (0, 6), (0, 7), (0, 8), (0, 9)] s_w_10 s_w_16) ∧ ((TyM s_w_16) ∧ (((s_w_16 0 8) = 0 ∧ (∃ r_23 : Int, (∃ s_w_22 : PS, ((M_X12_isSign s_w_16 44 r_23 s_w_22) ∧ ((Fr intsM [] [] s_w_16 s_w_22) ∧ ((TyM s_w_22) ∧ ((0 ≤ r_23 ∧ r_23 ≤ 1) ∧ ((r_23 = 0 ∧ (K 257 x257_1 x257_2 x257_4 x257_5 x257_6 r_17 0 s_w_22 rr ss)) ∨ (¬ (r_23 = 0) ∧ (K 257 x257_1 x257_2 x257_4 x257_5 x257_6 r_17 1 s_w_22 rr ss)))))))))) ∨ (¬ ((s_w_16 0 8) = 0) ∧ (K 257 x257_1 x257_2 x257_4 x257_5 x257_6 r_17 0 s_w_16 rr ss)))))))))))))))))
def T_X12_kind_e (K : Nat → Int → Int → Int → Int → Int → Int → Int → PS → Int → PS → Prop) (s_w : PS) (rr : Int) (ss : PS) : Prop := ((TyM s_w) ∧ (((s_w 2 (s_w 0 13).toNat) = 10 ∧ (∃ s_w_116 : PS, ((M_X12_blame s_w 5 (s_w 0 4) 0 s_w_116) ∧ ((Fr intsM [0] [(0, 8), (0, 9)] s_w s_w_116) ∧ ((TyM s_w_116) ∧ (K 25 (s_w 2 (s_w 0 13).toNat) 0 0 0 0 0 0 s_w_116 rr ss)))))) ∨ (¬ ((s_w 2 (s_w 0 13).toNat) = 10) ∧ (K 25 (s_w 2 (s_w 0 13).toNat) 0 0 0 0 0 0 s_w rr ss))))
def It_X12_kind : Nat → Nat → Int → Int → Int → Int → Int → Int → Int → PS → Int → PS → Prop
  | 0, _, _, _, _, _, _, _, _, _, _, _ => False
  | n + 1, pc, a0, a1, a2, a3, a4, a5, a6, s, r, t => (pc = 25 ∧ T_X12_kind_25 (It_X12_kind n) a0 s r t) ∨ (pc = 36 ∧ T_X12_kind_36 (It_X12_kind n) a0 s r t) ∨ (pc = 62 ∧ T_X12_kind_62 (It_X12_kind n) a0 s r t) ∨ (pc = 71 ∧ T_X12_kind_71 (It_X12_kind n) a0 s r t) ∨ (pc = 100 ∧ T_X12_kind_100 (It_X12_kind n) a0 s r t) ∨ (pc = 109 ∧ T_X12_kind_109 (It_X12_kind n) a0 s r t) ∨ (pc = 125 ∧ T_X12_kind_125 (It_X12_kind n) a0 a1 s r t) ∨ (pc = 139 ∧ T_X12_kind_139 (It_X12_kind n) a0 a1 s r t) ∨ (pc = 158 ∧ T_X12_kind_158 (It_X12_kind n) a0 a1 a2 s r t) ∨ (pc = 174 ∧ T_X12_kind_174 (It_X12_kind n) a0 a1 a2 s r t) ∨ (pc = 193 ∧ T_X12_kind_193 (It_X12_kind n) a0 a1 a2 a3 s r t) ∨ (pc = 209 ∧ T_X12_kind_209 (It_X12_kind n) a0 a1 a2 a3 s r t) ∨ (pc = 228 ∧ T_X12_kind_228 (It_X12_kind n) a0 a1 a2 a3 a4 s r t) ∨ (pc = 254 ∧ T_X12_kind_254 (It_X12_kind n) a0 a1 a2 a3 a4 a5 s r t) ∨ (pc = 255 ∧ T_X12_kind_255 (It_X12_kind n) a0 a1 a2 a3 a4 a5 a6 s r t) ∨ (pc = 257 ∧ T_X12_kind_257 (It_X12_kind n) a0 a1 a2 a3 a4 a5 a6 s r t)
theorem rl_X12_kind_25 {n : Nat} {a0 : Int} {s t : PS} {r : Int} (h : T_X12_kind_25 (It_X12_kind n) a0 s r t) : It_X12_kind (n + 1) 25 a0 0 0 0 0 0 0 s r t := Or.inl ⟨rfl, h⟩
theorem rl_X12_kind_36 {n : Nat} {a0 : Int} {s t : PS} {r : Int} (h : T_X12_kind_36 (It_X12_kind n) a0 s r t) : It_X12_kind (n + 1) 36 a0 0 0 0 0 0 0 s r t := Or.inr (Or.inl ⟨rfl, h⟩)
theorem rl_X12_kind_62 {n : Nat} {a0 : Int} {s t : PS} {r : Int} (h : T_X12_kind_62 (It_X12_kind n) a0 s r t) : It_X12_kind (n + 1) 62 a0 0 0 0 0 0 0 s r t := Or.inr (Or.inr (Or.inl ⟨rfl, h⟩))
theorem rl_X12_kind_71 {n : Nat} {a0 : Int} {s t : PS} {r : Int} (h : T_X12_kind_71 (It_X12_kind n) a0 s r t) : It_X12_kind (n + 1) 71 a0 0 0 0 0 0 0 s r t := Or.inr (Or.inr (Or.inr (Or.inl ⟨rfl, h⟩)))
theorem rl_X12_kind_100 {n : Nat} {a0 : Int} {s t : PS} {r : Int} (h : T_X12_kind_100 (It_X12_kind n) a0 s r t) : It_X12_kind (n + 1) 100 a0 0 0 0 0 0 0 s r t := Or.inr (Or.inr (Or.inr (Or.inr (Or.inl ⟨rfl, h⟩))))
theorem rl_X12_kind_109 {n : Nat} {a0 : Int} {s t : PS} {r : Int} (h : T_X12_kind_109 (It_X12_kind n) a0 s r t) : It_X12_kind (n + 1) 109 a0 0 0 0 0 0 0 s r t := Or.inr (Or.inr (Or.inr (Or.inr (Or.inr (Or.inl ⟨rfl, h⟩)))))
theorem rl_X12_kind_125 {n : Nat} {a0 a1 : Int} {s t : PS} {r : Int} (h : T_X12_kind_125 (It_X12_kind n) a0 a1 s r t) : It_X12_kind (n + 1) 125 a0 a1 0 0 0 0 0 s r t := Or.inr (Or.inr (Or.inr (Or.inr (Or.inr (Or.inr (Or.inl ⟨rfl, h⟩))))))
theorem rl_X12_kind_139 {n : Nat} {a0 a1 : Int} {s t : PS} {r : Int} (h : T_X12_kind_139 (It_X12_kind n) a0 a1 s r t) : It_X12_kind (n + 1) 139 a0 a1 0 0 0 0 0 s r t := Or.inr (Or.inr (Or.inr (Or.inr (Or.inr (Or.inr (Or.inr (Or.inl ⟨rfl, h⟩)))))))
theorem rl_X12_kind_158 {n : Nat} {a0 a1 a2 : Int} {s t : PS} {r : Int} (h : T_X12_kind_158 (It_X12_kind n) a0 a1 a2 s r t) : It_X12_kind (n + 1) 158 a0 a1 a2 0 0 0 0 s r t := Or.inr (Or.inr (Or.inr (Or.inr (Or.inr (Or.inr (Or.inr (Or.inr (Or.inl ⟨rfl, h⟩))))))))
theorem rl_X12_kind_174 {n : Nat} {a0 a1 a2 : Int} {s t : PS} {r : Int} (h : T_X12_kind_174 (It_X12_kind n) a0 a1 a2 s r t) : It_X12_kind (n + 1) 174 a0 a1 a2 0 0 0 0 s r t := Or.inr (Or.inr (Or.inr (Or.inr (Or.inr (Or.inr (Or.inr (Or.inr (Or.inr (Or.inl ⟨rfl, h⟩)))))))))
theorem rl_X12_kind_193 {n : Nat} {a0 a1 a2 a3 : Int} {s t : PS} {r : Int} (h : T_X12_kind_193 (It_X12_kind n) a0 a1 a2 a3 s r t) : It_X12_kind (n + 1) 193 a0 a1 a2 a3 0 0 0 s r t := Or.inr (Or.inr (Or.inr (Or.inr (Or.inr (Or.inr (Or.inr (Or.inr (Or.inr (Or.inr (Or.inl ⟨rfl, h⟩))))))))))
theorem rl_X12_kind_209 {n : Nat} {a0 a1 a2 a3 : Int} {s t : PS} {r : Int} (h : T_X12_kind_209 (It_X12_kind n) a0 a1 a2 a3 s r t) : It_X12_kind (n + 1) 209 a0 a1 a2 a3 0 0 0 s r t := Or.inr (Or.inr (Or.inr (Or.inr (Or.inr (Or.inr (Or.inr (Or.inr (Or.inr (Or.inr (Or.inr (Or.inl ⟨rfl, h⟩)))))))))))
theorem rl_X12_kind_228 {n : Nat} {a0 a1 a2 a3 a4 : Int} {s t : PS} {r : Int} (h : T_X12_kind_228 (It_X12_kind n) a0 a1 a2 a3 a4 s r t) : It_X12_kind (n + 1) 228 a0 a1 a2 a3 a4 0 0 s r t := Or.inr (Or.inr (Or.inr (Or.inr (Or.inr (Or.inr (Or.inr (Or.inr (Or.inr (Or.inr (Or.inr (Or.inr (Or.inl ⟨rfl, h⟩))))))))))))
theorem rl_X12_kind_254 {n : Nat} {a0 a1 a2 a3 a4 a5 : Int} {s t : PS} {r : Int} (h : T_X12_kind_254 (It_X12_kind n) a0 a1 a2 a3 a4 a5 s r t) : It_X12_kind (n + 1) 254 a0 a1 a2 a3 a4 a5 0 s r t := Or.inr (Or.inr (Or.inr (Or.inr (Or.inr (Or.inr (Or.inr (Or.inr (Or.inr (Or.inr (Or.inr (Or.inr (Or.inr (Or.inl ⟨rfl, h⟩)))))))))))))
theorem rl_X12_kind_255 {n : Nat} {a0 a1 a2 a3 a4 a5 a6 : Int} {s t : PS} {r : Int} (h : T_X12_kind_255 (It_X12_kind n) a0 a1 a2 a3 a4 a5 a6 s r t) : It_X12_kind (n + 1) 255 a0 a1 a2 a3 a4 a5 a6 s r t := Or.inr (Or.inr (Or.inr (Or.inr (Or.inr (Or.inr (Or.inr (Or.inr (Or.inr (Or.inr (Or.inr (Or.inr (Or.inr (Or.inr (Or.inl ⟨rfl, h⟩))))))))))))))
theorem rl_X12_kind_257 {n : Nat} {a0 a1 a2 a3 a4 a5 a6 : Int} {s t : PS} {r : Int} (h : T_X12_kind_257 (It_X12_kind n) a0 a1 a2 a3 a4 a5 a6 s r t) : It_X12_kind (n + 1) 257 a0 a1 a2 a3 a4 a5 a6 s r t := Or.inr (Or.inr (Or.inr (Or.inr (Or.inr (Or.inr (Or.inr (Or.inr (Or.inr (Or.inr (Or.inr (Or.inr (Or.inr (Or.inr (Or.inr (⟨rfl, h⟩)))))))))))))))
theorem ul_X12_kind_25 {n : Nat} {a0 a1 a2 a3 a4 a5 a6 : Int} {s t : PS} {r : Int} (h : It_X12_kind (n + 1) 25 a0 a1 a2 a3 a4 a5 a6 s r t) : T_X12_kind_25 (It_X12_kind n) a0 s r t := by
  have h2 : ((25 : Nat) = 25 ∧ T_X12_kind_25 (It_X12_kind n) a0 s r t) ∨ ((25 : Nat) = 36 ∧ T_X12_kind_36 (It_X12_kind n) a0 s r t) ∨ ((25 : Nat) = 62 ∧ T_X12_kind_62 (It_X12_kind n) a0 s r t) ∨ ((25 : Nat) = 71 ∧ T_X12_kind_71 (It_X12_kind n) a0 s r t) ∨ ((25 : Nat) = 100 ∧ T_X12_kind_100 (It_X12_kind n) a0 s r t) ∨ ((25 : Nat) = 109 ∧ T_X12_kind_109 (It_X12_kind n) a0 s r t) ∨ ((25 : Nat) = 125 ∧ T_X12_kind_125 (It_X12_kind n) a0 a1 s r t) ∨ ((25 : Nat) = 139 ∧ T_X12_kind_139 (It_X12_kind n) a0 a1 s r t) ∨ ((25 : Nat) = 158 ∧ T_X12_kind_158 (It_X12_kind n) a0 a1 a2 s r t) ∨ ((25 : Nat) = 174 ∧ T_X12_kind_174 (It_X12_kind n) a0 a1 a2 s r t) ∨ ((25 : Nat) = 193 ∧ T_X12_kind_193 (It_X12_kind n) a0 a1 a2 a3 s r t) ∨ ((25 : Nat) = 209 ∧ T_X12_kind_209 (It_X12_kind n) a0 a1 a2 a3 s r t) ∨ ((25 : Nat) = 228 ∧ T_X12_kind_228 (It_X12_kind n) a0 a1 a2 a3 a4 s r t) ∨ ((25 : Nat) = 254 ∧ T_X12_kind_254 (It_X12_kind n) a0 a1 a2 a3 a4 a5 s r t) ∨ ((25 : Nat) = 255 ∧ T_X12_kind_255 (It_X12_kind n) a0 a1 a2 a3 a4 a5 a6 s r t) ∨ ((25 : Nat) = 257 ∧ T_X12_kind_257 (It_X12_kind n) a0 a1 a2 a3 a4 a5 a6 s r t) := h
  rcases h2 with ⟨e, h2⟩ | ⟨e, h2⟩ | ⟨e, h2⟩ | ⟨e, h2⟩ | ⟨e, h2⟩ | ⟨e, h2⟩ | ⟨e, h2⟩ | ⟨e, h2⟩ | ⟨e, h2⟩ | ⟨e, h2⟩ | ⟨e, h2⟩ | ⟨e, h2⟩ | ⟨e, h2⟩ | ⟨e, h2⟩ | ⟨e, h2⟩ | ⟨e, h2⟩
  · exact h2
  · exact absurd e (by decide)
  · exact absurd e (by decide)
  · exact absurd e (by decide)
  · exact absurd e (by decide)
  · exact absurd e (by decide)
  · exact absurd e (by decide)
  · exact absurd e (by decide)
  · exact absurd e (by decide)
  · exact absurd e (by decide)
  · exact absurd e (by decide)
  · exact absurd e (by decide)
  · exact absurd e (by decide)
  · exact absurd e (by decide)
  · exact absurd e (by decide)
  · exact absurd e (by decide)
theorem ul_X12_kind_36 {n : Nat} {a0 a1 a2 a3 a4 a5 a6 : Int} {s t : PS} {r : Int} (h : It_X12_kind (n + 1) 36 a0 a1 a2 a3 a4 a5 a6 s r t) : T_X12_kind_36 (It_X12_kind n) a0 s r t := by
  have h2 : ((36 : Nat) = 25 ∧ T_X12_kind_25 (It_X12_kind n) a0 s r t) ∨ ((36 : Nat) = 36 ∧ T_X12_kind_36 (It_X12_kind n) a0 s r t) ∨ ((36 : Nat) = 62 ∧ T_X12_kind_62 (It_X12_kind n) a0 s r t) ∨ ((36 : Nat) = 71 ∧ T_X12_kind_71 (It_X12_kind n) a0 s r t) ∨ ((36 : Nat) = 100 ∧ T_X12_kind_100 (It_X12_kind n) a0 s r t) ∨ ((36 : Nat) = 109 ∧ T_X12_kind_109 (It_X12_kind n) a0 s r t) ∨ ((36 : Nat) = 125 ∧ T_X12_kind_125 (It_X12_kind n) a0 a1 s r t) ∨ ((36 : Nat) = 139 ∧ T_X12_kind_139 (It_X12_kind n) a0 a1 s r t) ∨ ((36 : Nat) = 158 ∧ T_X12_kind_158 (It_X12_kind n) a0 a1 a2 s r t) ∨ ((36 : Nat) = 174 ∧ T_X12_kind_174 (It_X12_kind n) a0 a1 a2 s r t) ∨ ((36 : Nat) = 193 ∧ T_X12_kind_193 (It_X12_kind n) a0 a1 a2 a3 s r t) ∨ ((36 : Nat) = 209 ∧ T_X12_kind_209 (It_X12_kind n) a0 a1 a2 a3 s r t) ∨ ((36 : Nat) = 228 ∧ T_X12_kind_228 (It_X12_kind n) a0 a1 a2 a3 a4 s r t) ∨ ((36 : Nat) = 254 ∧ T_X12_kind_254 (It_X12_kind n) a0 a1 a2 a3 a4 a5 s r t) ∨ ((36 : Nat) = 255 ∧ T_X12_kind_255 (It_X12_kind n) a0 a1 a2 a3 a4 a5 a6 s r t) ∨ ((36 : Nat) = 257 ∧ T_X12_kind_257 (It_X12_kind n) a0 a1 a2 a3 a4 a5 a6 s r t) := h
  rcases h2 with ⟨e, h2⟩ | ⟨e, h2⟩ | ⟨e, h2⟩ | ⟨e, h2⟩ | ⟨e, h2⟩ | ⟨e, h2⟩ | ⟨e, h2⟩ | ⟨e, h2⟩ | ⟨e, h2⟩ | ⟨e, h2⟩ | ⟨e, h2⟩ | ⟨e, h2⟩ | ⟨e, h2⟩ | ⟨e, h2⟩ | ⟨e, h2⟩ | ⟨e, h2⟩
  · exact absurd e (by decide)
  · exact h2
  · exact absurd e (by decide)
  · exact absurd e (by decide)
  · exact absurd e (by decide)
  · exact absurd e (by decide)
  · exact absurd e (by decide)
  · exact absurd e (by decide)
  · exact absurd e (by decide)
  · exact absurd e (by decide)
  · exact absurd e (by decide)
  · exact absurd e (by decide)
  · exact absurd e (by decide)
  · exact absurd e (by decide)
  · exact absurd e (by decide)
  · exact absurd e (by decide)
theorem ul_X12_kind_62 {n : Nat} {a0 a1 a2 a3 a4 a5 a6 : Int} {s t : PS} {r : Int} (h : It_X12_kind (n + 1) 62 a0 a1 a2 a3 a4 a5 a6 s r t) : T_X12_kind_62 (It_X12_kind n) a0 s r t := by
  have h2 : ((62 : Nat) = 25 ∧ T_X12_kind_25 (It_X12_kind n) a0 s r t) ∨ ((62 : Nat) = 36 ∧ T_X12_kind_36 (It_X12_kind n) a0 s r t) ∨ ((62 : Nat) = 62 ∧ T_X12_kind_62 (It_X12_kind n) a0 s r t) ∨ ((62 : Nat) = 71 ∧ T_X12_kind_71 (It_X12_kind n) a0 s r t) ∨ ((62 : Nat) = 100 ∧ T_X12_kind_100 (It_X12_kind n) a0 s r t) ∨ ((62 : Nat) = 109 ∧ T_X12_kind_109 (It_X12_kind n) a0 s r t) ∨ ((62 : Nat) = 125 ∧ T_X12_kind_125 (It_X12_kind n) a0 a1 s r t) ∨ ((62 : Nat) = 139 ∧ T_X12_kind_139 (It_X12_kind n) a0 a1 s r t) ∨ ((62 : Nat) = 158 ∧ T_X12_kind_158 (It_X12_kind n) a0 a1 a2 s r t) ∨ ((62 : Nat) = 174 ∧ T_X12_kind_174 (It_X12_kind n) a0 a1 a2 s r t) ∨ ((62 : Nat) = 193 ∧ T_X12_kind_193 (It_X12_kind n) a0 a1 a2 a3 s r t) ∨ ((62 : Nat) = 209 ∧ T_X12_kind_209 (It_X12_kind n) a0 a1 a2 a3 s r t) ∨ ((62 : Nat) = 228 ∧ T_X12_kind_228 (It_X12_kind n) a0 a1 a2 a3 a4 s r t) ∨ ((62 : Nat) = 254 ∧ T_X12_kind_254 (It_X12_kind n) a0 a1 a2 a3 a4 a5 s r t) ∨ ((62 : Nat) = 255 ∧ T_X12_kind_255 (It_X12_kind n) a0 a1 a2 a3 a4 a5 a6 s r t) ∨ ((62 : Nat) = 257 ∧ T_X12_kind_257 (It_X12_kind n) a0 a1 a2 a3 a4 a5 a6 s r t) := h
  rcases h2 with ⟨e, h2⟩ | ⟨e, h2⟩ | ⟨e, h2⟩ | ⟨e, h2⟩ | ⟨e, h2⟩ | ⟨e, h2⟩ | ⟨e, h2⟩ | ⟨e, h2⟩ | ⟨e, h2⟩ | ⟨e, h2⟩ | ⟨e, h2⟩ | ⟨e, h2⟩ | ⟨e, h2⟩ | ⟨e, h2⟩ | ⟨e, h2⟩ | ⟨e, h2⟩
  · exact absurd e (by decide)
  · exact absurd e (by decide)
  · exact h2
  · exact absurd e (by decide)
  · exact absurd e (by decide)
  · exact absurd e (by decide)
  · exact absurd e (by decide)
  · exact absurd e (by decide)
  · exact absurd e (by decide)
  · exact absurd e (by decide)
  · exact absurd e (by decide)
  · exact absurd e (by decide)
  · exact absurd e (by decide)
  · exact absurd e (by decide)
  · exact absurd e (by decide)
  · exact absurd e (by decide)
theorem ul_X12_kind_71 {n : Nat} {a0 a1 a2 a3 a4 a5 a6 : Int} {s t : PS} {r : Int} (h : It_X12_kind (n + 1) 71 a0 a1 a2 a3 a4 a5 a6 s r t) : T_X12_kind_71 (It_X12_kind n) a0 s r t := by
  have h2 : ((71 : Nat) = 25 ∧ T_X12_kind_25 (It_X12_kind n) a0 s r t) ∨ ((71 : Nat) = 36 ∧ T_X12_kind_36 (It_X12_kind n) a0 s r t) ∨ ((71 : Nat) = 62 ∧ T_X12_kind_62 (It_X12_kind n) a0 s r t) ∨ ((71 : Nat) = 71 ∧ T_X12_kind_71 (It_X12_kind n) a0 s r t) ∨ ((71 : Nat) = 100 ∧ T_X12_kind_100 (It_X12_kind n) a0 s r t) ∨ ((71 : Nat) = 109 ∧ T_X12_kind_109 (It_X12_kind n) a0 s r t) ∨ ((71 : Nat) = 125 ∧ T_X12_kind_125 (It_X12_kind n) a0 a1 s r t) ∨ ((71 : Nat) = 139 ∧ T_X12_kind_139 (It_X12_kind n) a0 a1 s r t) ∨ ((71 : Nat) = 158 ∧ T_X12_kind_158 (It_X12_kind n) a0 a1 a2 s r t) ∨ ((71 : Nat) = 174 ∧ T_X12_kind_174 (It_X12_kind n) a0 a1 a2 s r t) ∨ ((71 : Nat) = 193 ∧ T_X12_kind_193 (It_X12_kind n) a0 a1 a2 a3 s r t) ∨ ((71 : Nat) = 209 ∧ T_X12_kind_209 (It_X12_kind n) a0 a1 a2 a3 s r t) ∨ ((71 : Nat) = 228 ∧ T_X12_kind_228 (It_X12_kind n) a0 a1 a2 a3 a4 s r t) ∨ ((71 : Nat) = 254 ∧ T_X12_kind_254 (It_X12_kind n) a0 a1 a2 a3 a4 a5 s r t) ∨ ((71 : Nat) = 255 ∧ T_X12_kind_255 (It_X12_kind n) a0 a1 a2 a3 a4 a5 a6 s r t) ∨ ((71 : Nat) = 257 ∧ T_X12_kind_257 (It_X12_kind n) a0 a1 a2 a3 a4 a5 a6 s r t) := h
  rcases h2 with ⟨e, h2⟩ | ⟨e, h2⟩ | ⟨e, h2⟩ | ⟨e, h2⟩ | ⟨e, h2⟩ | ⟨e, h2⟩ | ⟨e, h2⟩ | ⟨e, h2⟩ | ⟨e, h2⟩ | ⟨e, h2⟩ | ⟨e, h2⟩ | ⟨e, h2⟩ | ⟨e, h2⟩ | ⟨e, h2⟩ | ⟨e, h2⟩ | ⟨e, h2⟩
  · exact absurd e (by decide)
  · exact absurd e (by decide)
  · exact absurd e (by decide)
  · exact h2
  · exact absurd e (by decide)
  · exact absurd e (by decide)
  · exact absurd e (by decide)
  · exact absurd e (by decide)
  · exact absurd e (by decide)
  · exact absurd e (by decide)
  · exact absurd e (by decide)
  · exact absurd e (by decide)
  · exact absurd e (by decide)
  · exact absurd e (by decide)
  · exact absurd e (by decide)
  · exact absurd e (by decide)
theorem ul_X12_kind_100 {n : Nat} {a0 a1 a2 a3 a4 a5 a6 : Int} {s t : PS} {r : Int} (h : It_X12_kind (n + 1) 100 a0 a1 a2 a3 a4 a5 a6 s r t) : T_X12_kind_100 (It_X12_kind n) a0 s r t := by
  have h2 : ((100 : Nat) = 25 ∧ T_X12_kind_25 (It_X12_kind n) a0 s r t) ∨ ((100 : Nat) = 36 ∧ T_X12_kind_36 (It_X12_kind n) a0 s r t) ∨ ((100 : Nat) = 62 ∧ T_X12_kind_62 (It_X12_kind n) a0 s r t) ∨ ((100 : Nat) = 71 ∧ T_X12_kind_71 (It_X12_kind n) a0 s r t) ∨ ((100 : Nat) = 100 ∧ T_X12_kind_100 (It_X12_kind n) a0 s r t) ∨ ((100 : Nat) = 109 ∧ T_X12_kind_109 (It_X12_kind n) a0 s r t) ∨ ((100 : Nat) = 125 ∧ T_X12_kind_125 (It_X12_kind n) a0 a1 s r t) ∨ ((100 : Nat) = 139 ∧ T_X12_kind_139 (It_X12_kind n) a0 a1 s r t) ∨ ((100 : Nat) = 158 ∧ T_X12_kind_158 (It_X12_kind n) a0 a1 a2 s r t) ∨ ((100 : Nat) = 174 ∧ T_X12_kind_174 (It_X12_kind n) a0 a1 a2 s r t) ∨ ((100 : Nat) = 193 ∧ T_X12_kind_193 (It_X12_kind n) a0 a1 a2 a3 s r t) ∨ ((100 : Nat) = 209 ∧ T_X12_kind_209 (It_X12_kind n) a0 a1 a2 a3 s r t) ∨ ((100 : Nat) = 228 ∧ T_X12_kind_228 (It_X12_kind n) a0 a1 a2 a3 a4 s r t) ∨ ((100 : Nat) = 254 ∧ T_X12_kind_254 (It_X12_kind n) a0 a1 a2 a3 a4 a5 s r t) ∨ ((100 : Nat) = 255 ∧ T_X12_kind_255 (It_X12_kind n) a0 a1 a2 a3 a4 a5 a6 s r t) ∨ ((100 : Nat) = 257 ∧ T_X12_kind_257 (It_X12_kind n) a0 a1 a2 a3 a4 a5 a6 s r t) := h
  rcases h2 with ⟨e, h2⟩ | ⟨e, h2⟩ | ⟨e, h2⟩ | ⟨e, h2⟩ | ⟨e, h2⟩ | ⟨e, h2⟩ | ⟨e, h2⟩ | ⟨e, h2⟩ | ⟨e, h2⟩ | ⟨e, h2⟩ | ⟨e, h2⟩ | ⟨e, h2⟩ | ⟨e, h2⟩ | ⟨e, h2⟩ | ⟨e, h2⟩ | ⟨e, h2⟩
  · exact absurd e (by decide)
  · exact absurd e (by decide)
  · exact absurd e (by decide)
  · exact absurd e (by decide)
  · exact h2
  · exact absurd e (by decide)
  · exact absurd e (by decide)
  · exact absurd e (by decide)
  · exact absurd e (by decide)
  · exact absurd e (by decide)
  · exact absurd e (by decide)
  · exact absurd e (by decide)
  · exact absurd e (by decide)
  · exact absurd e (by decide)
  · exact absurd e (by decide)
  · exact absurd e (by decide)
theorem ul_X12_kind_109 {n : Nat} {a0 a1 a2 a3 a4 a5 a6 : Int} {s t : PS} {r : Int} (h : It_X12_kind (n + 1) 109 a0 a1 a2 a3 a4 a5 a6 s r t) : T_X12_kind_109 (It_X12_kind n) a0 s r t := by
  have h2 : ((109 : Nat) = 25 ∧ T_X12_kind_25 (It_X12_kind n) a0 s r t) ∨ ((109 : Nat) = 36 ∧ T_X12_kind_36 (It_X12_kind n) a0 s r t) ∨ ((109 : Nat) = 62 ∧ T_X12_kind_62 (It_X12_kind n) a0 s r t) ∨ ((109 : Nat) = 71 ∧ T_X12_kind_71 (It_X12_kind n) a0 s r t) ∨ ((109 : Nat) = 100 ∧ T_X12_kind_100 (It_X12_kind n) a0 s r t) ∨ ((109 : Nat) = 109 ∧ T_X12_kind_109 (It_X12_kind n) a0 s r t) ∨ ((109 : Nat) = 125 ∧ T_X12_kind_125 (It_X12_kind n) a0 a1 s r t) ∨ ((109 : Nat) = 139 ∧ T_X12_kind_139 (It_X12_kind n) a0 a1 s r t) ∨ ((109 : Nat) = 158 ∧ T_X12_kind_158 (It_X12_kind n) a0 a1 a2 s r t) ∨ ((109 : Nat) = 174 ∧ T_X12_kind_174 (It_X12_kind n) a0 a1 a2 s r t) ∨ ((109 : Nat) = 193 ∧ T_X12_kind_193 (It_X12_kind n) a0 a1 a2 a3 s r t) ∨ ((109 : Nat) = 209 ∧ T_X12_kind_209 (It_X12_kind n) a0 a1 a2 a3 s r t) ∨ ((109 : Nat) = 228 ∧ T_X12_kind_228 (It_X12_kind n) a0 a1 a2 a3 a4 s r t) ∨ ((109 : Nat) = 254 ∧ T_X12_kind_254 (It_X12_kind n) a0 a1 a2 a3 a4 a5 s r t) ∨ ((109 : Nat) = 255 ∧ T_X12_kind_255 (It_X12_kind n) a0 a1 a2 a3 a4 a5 a6 s r t) ∨ ((109 : Nat) = 257 ∧ T_X12_kind_257 (It_X12_kind n) a0 a1 a2 a3 a4 a5 a6 s r t) := h
  rcases h2 with ⟨e, h2⟩ | ⟨e, h2⟩ | ⟨e, h2⟩ | ⟨e, h2⟩ | ⟨e, h2⟩ | ⟨e, h2⟩ | ⟨e, h2⟩ | ⟨e, h2⟩ | ⟨e, h2⟩ | ⟨e, h2⟩ | ⟨e, h2⟩ | ⟨e, h2⟩ | ⟨e, h2⟩ | ⟨e, h2⟩ | ⟨e, h2⟩ | ⟨e, h2⟩
  · exact absurd e (by decide)
  · exact absurd e (by decide)
  · exact absurd e (by decide)
  · exact absurd e (by decide)
  · exact absurd e (by decide)
  · exact h2
  · exact absurd e (by decide)
  · exact absurd e (by decide)
  · exact absurd e (by decide)
  · exact absurd e (by decide)
  · exact absurd e (by decide)
  · exact absurd e (by decide)
  · exact absurd e (by decide)
  · exact absurd e (by decide)
  · exact absurd e (by decide)
  · exact absurd e (by decide)
theorem ul_X12_kind_125 {n : Nat} {a0 a1 a2 a3 a4 a5 a6 : Int} {s t : PS} {r : Int} (h : It_X12_kind (n + 1) 125 a0 a1 a2 a3 a4 a5 a6 s r t) : T_X12_kind_125 (It_X12_kind n) a0 a1 s r t := by
  have h2 : ((125 : Nat) = 25 ∧ T_X12_kind_25 (It_X12_kind n) a0 s r t) ∨ ((125 : Nat) = 36 ∧ T_X12_kind_36 (It_X12_kind n) a0 s r t) ∨ ((125 : Nat) = 62 ∧ T_X12_kind_62 (It_X12_kind n) a0 s r t) ∨ ((125 : Nat) = 71 ∧ T_X12_kind_71 (It_X12_kind n) a0 s r t) ∨ ((125 : Nat) = 100 ∧ T_X12_kind_100 (It_X12_kind n) a0 s r t) ∨ ((125 : Nat) = 109 ∧ T_X12_kind_109 (It_X12_kind n) a0 s r t) ∨ ((125 : Nat) = 125 ∧ T_X12_kind_125 (It_X12_kind n) a0 a1 s r t) ∨ ((125 : Nat) = 139 ∧ T_X12_kind_139 (It_X12_kind n) a0 a1 s r t) ∨ ((125 : Nat) = 158 ∧ T_X12_kind_158 (It_X12_kind n) a0 a1 a2 s r t) ∨ ((125 : Nat) = 174 ∧ T_X12_kind_174 (It_X12_kind n) a0 a1 a2 s r t) ∨ ((125 : Nat) = 193 ∧ T_X12_kind_193 (It_X12_kind n) a0 a1 a2 a3 s r t) ∨ ((125 : Nat) = 209 ∧ T_X12_kind_209 (It_X12_kind n) a0 a1 a2 a3 s r t) ∨ ((125 : Nat) = 228 ∧ T_X12_kind_228 (It_X12_kind n) a0 a1 a2 a3 a4 s r t) ∨ ((125 : Nat) = 254 ∧ T_X12_kind_254 (It_X12_kind n) a0 a1 a2 a3 a4 a5 s r t) ∨ ((125 : Nat) = 255 ∧ T_X12_kind_255 (It_X12_kind n) a0 a1 a2 a3 a4 a5 a6 s r t) ∨ ((125 : Nat) = 257 ∧ T_X12_kind_257 (It_X12_kind n) a0 a1 a2 a3 a4 a5 a6 s r t) := h
  rcases h2 with ⟨e, h2⟩ | ⟨e, h2⟩ | ⟨e, h2⟩ | ⟨e, h2⟩ | ⟨e, h2⟩ | ⟨e, h2⟩ | ⟨e, h2⟩ | ⟨e, h2⟩ | ⟨e, h2⟩ | ⟨e, h2⟩ | ⟨e, h2⟩ | ⟨e, h2⟩ | ⟨e, h2⟩ | ⟨e, h2⟩ | ⟨e, h2⟩ | ⟨e, h2⟩
  · exact absurd e (by decide)
  · exact absurd e (by decide)
  · exact absurd e (by decide)
  · exact absurd e (by decide)
  · exact absurd e (by decide)
  · exact absurd e (by decide)
  · exact h2
  · exact absurd e (by decide)
  · exact absurd e (by decide)
  · exact absurd e (by decide)
  · exact absurd e (by decide)
  · exact absurd e (by decide)
  · exact absurd e (by decide)
  · exact absurd e (by decide)
  · exact absurd e (by decide)
  · exact absurd e (by decide)
theorem ul_X12_kind_139 {n : Nat} {a0 a1 a2 a3 a4 a5 a6 : Int} {s t : PS} {r : Int} (h : It_X12_kind (n + 1) 139 a0 a1 a2 a3 a4 a5 a6 s r t) : T_X12_kind_139 (It_X12_kind n) a0 a1 s r t := by
  have h2 : ((139 : Nat) = 25 ∧ T_X12_kind_25 (It_X12_kind n) a0 s r t) ∨ ((139 : Nat) = 36 ∧ T_X12_kind_36 (It_X12_kind n) a0 s r t) ∨ ((139 : Nat) = 62 ∧ T_X12_kind_62 (It_X12_kind n) a0 s r t) ∨ ((139 : Nat) = 71 ∧ T_X12_kind_71 (It_X12_kind n) a0 s r t) ∨ ((139 : Nat) = 100 ∧ T_X12_kind_100 (It_X12_kind n) a0 s r t) ∨ ((139 : Nat) = 109 ∧ T_X12_kind_109 (It_X12_kind n) a0 s r t) ∨ ((139 : Nat) = 125 ∧ T_X12_kind_125 (It_X12_kind n) a0 a1 s r t) ∨ ((139 : Nat) = 139 ∧ T_X12_kind_139 (It_X12_kind n) a0 a1 s r t) ∨ ((139 : Nat) = 158 ∧ T_X12_kind_158 (It_X12_kind n) a0 a1 a2 s r t) ∨ ((139 : Nat) = 174 ∧ T_X12_kind_174 (It_X12_kind n) a0 a1 a2 s r t) ∨ ((139 : Nat) = 193 ∧ T_X12_kind_193 (It_X12_kind n) a0 a1 a2 a3 s r t) ∨ ((139 : Nat) = 209 ∧ T_X12_kind_209 (It_X12_kind n) a0 a1 a2 a3 s r t) ∨ ((139 : Nat) = 228 ∧ T_X12_kind_228 (It_X12_kind n) a0 a1 a2 a3 a4 s r t) ∨ ((139 : Nat) = 254 ∧ T_X12_kind_254 (It_X12_kind n) a0 a1 a2 a3 a4 a5 s r t) ∨ ((139 : Nat) = 255 ∧ T_X12_kind_255 (It_X12_kind n) a0 a1 a2 a3 a4 a5 a6 s r t) ∨ ((139 : Nat) = 257 ∧ T_X12_kind_257 (It_X12_kind n) a0 a1 a2 a3 a4 a5 a6 s r t) := h
  rcases h2 with ⟨e, h2⟩ | ⟨e, h2⟩ | ⟨e, h2⟩ | ⟨e, h2⟩ | ⟨e, h2⟩ | ⟨e, h2⟩ | ⟨e, h2⟩ | ⟨e, h2⟩ | ⟨e, h2⟩ | ⟨e, h2⟩ | ⟨e, h2⟩ | ⟨e, h2⟩ | ⟨e, h2⟩ | ⟨e, h2⟩ | ⟨e, h2⟩ | ⟨e, h2⟩
  · exact absurd e (by decide)
  · exact absurd e (by decide)
  · exact absurd e (by decide)
  · exact absurd e (by decide)
  · exact absurd e (by decide)
  · exact absurd e (by decide)
  · exact absurd e (by decide)
  · exact h2
  · exact absurd e (by decide)
  · exact absurd e (by decide)
  · exact absurd e (by decide)
  · exact absurd e (by decide)
  · exact absurd e (by decide)
  · exact absurd e (by decide)
  · exact absurd e (by decide)
  · exact absurd e (by decide)
theorem ul_X12_kind_158 {n : Nat} {a0 a1 a2 a3 a4 a5 a6 : Int} {s t : PS} {r : Int} (h : It_X12_kind (n + 1) 158 a0 a1 a2 a3 a4 a5 a6 s r t) : T_X12_kind_158 (It_X12_kind n) a0 a1 a2 s r t := by
  have h2 : ((158 : Nat) = 25 ∧ T_X12_kind_25 (It_X12_kind n) a0 s r t) ∨ ((158 : Nat) = 36 ∧ T_X12_kind_36 (It_X12_kind n) a0 s r t) ∨ ((158 : Nat) = 62 ∧ T_X12_kind_62 (It_X12_kind n) a0 s r t) ∨ ((158 : Nat) = 71 ∧ T_X12_kind_71 (It_X12_kind n) a0 s r t) ∨ ((158 : Nat) = 100 ∧ T_X12_kind_100 (It_X12_kind n) a0 s r t) ∨ ((158 : Nat) = 109 ∧ T_X12_kind_109 (It_X12_kind n) a0 s r t) ∨ ((158 : Nat) = 125 ∧ T_X12_kind_125 (It_X12_kind n) a0 a1 s r t) ∨ ((158 : Nat) = 139 ∧ T_X12_kind_139 (It_X12_kind n) a0 a1 s r t) ∨ ((158 : Nat) = 158 ∧ T_X12_kind_158 (It_X12_kind n) a0 a1 a2 s r t) ∨ ((158 : Nat) = 174 ∧ T_X12_kind_174 (It_X12_kind n) a0 a1 a2 s r t) ∨ ((158 : Nat) = 193 ∧ T_X12_kind_193 (It_X12_kind n) a0 a1 a2 a3 s r t) ∨ ((158 : Nat) = 209 ∧ T_X12_kind_209 (It_X12_kind n) a0 a1 a2 a3 s r t) ∨ ((158 : Nat) = 228 ∧ T_X12_kind_228 (It_X12_kind n) a0 a1 a2 a3 a4 s r t) ∨ ((158 : Nat) = 254 ∧ T_X12_kind_254 (It_X12_kind n) a0 a1 a2 a3 a4 a5 s r t) ∨ ((158 : Nat) = 255 ∧ T_X12_kind_255 (It_X12_kind n) a0 a1 a2 a3 a4 a5 a6 s r t) ∨ ((158 : Nat) = 257 ∧ T_X12_kind_257 (It_X12_kind n) a0 a1 a2 a3 a4 a5 a6 s r t) := h
  rcases h2 with ⟨e, h2⟩ | ⟨e, h2⟩ | ⟨e, h2⟩ | ⟨e, h2⟩ | ⟨e, h2⟩ | ⟨e, h2⟩ | ⟨e, h2⟩ | ⟨e, h2⟩ | ⟨e, h2⟩ | ⟨e, h2⟩ | ⟨e, h2⟩ | ⟨e, h2⟩ | ⟨e, h2⟩ | ⟨e, h2⟩ | ⟨e, h2⟩ | ⟨e, h2⟩
  · exact absurd e (by decide)
  · exact absurd e (by decide)
  · exact absurd e (by decide)
  · exact absurd e (by decide)
  · exact absurd e (by decide)
  · exact absurd e (by decide)
  · exact absurd e (by decide)
  · exact absurd e (by decide)
  · exact h2
  · exact absurd e (by decide)
  · exact absurd e (by decide)
  · exact absurd e (by decide)
  · exact absurd e (by decide)
  · exact absurd e (by decide)
  · exact absurd e (by decide)
  · exact absurd e (by decide)
theorem ul_X12_kind_174 {n : Nat} {a0 a1 a2 a3 a4 a5 a6 : Int} {s t : PS} {r : Int} (h : It_X12_kind (n + 1) 174 a0 a1 a2 a3 a4 a5 a6 s r t) : T_X12_kind_174 (It_X12_kind n) a0 a1 a2 s r t := by
  have h2 : ((174 : Nat) = 25 ∧ T_X12_kind_25 (It_X12_kind n) a0 s r t) ∨ ((174 : Nat) = 36 ∧ T_X12_kind_36 (It_X12_kind n) a0 s r t) ∨ ((174 : Nat) = 62 ∧ T_X12_kind_62 (It_X12_kind n) a0 s r t) ∨ ((174 : Nat) = 71 ∧ T_X12_kind_71 (It_X12_kind n) a0 s r t) ∨ ((174 : Nat) = 100 ∧ T_X12_kind_100 (It_X12_kind n) a0 s r t) ∨ ((174 : Nat) = 109 ∧ T_X12_kind_109 (It_X12_kind n) a0 s r t) ∨ ((174 : Nat) = 125 ∧ T_X12_kind_125 (It_X12_kind n) a0 a1 s r t) ∨ ((174 : Nat) = 139 ∧ T_X12_kind_139 (It_X12_kind n) a0 a1 s r t) ∨ ((174 : Nat) = 158 ∧ T_X12_kind_158 (It_X12_kind n) a0 a1 a2 s r t) ∨ ((174 : Nat) = 174 ∧ T_X12_kind_174 (It_X12_kind n) a0 a1 a2 s r t) ∨ ((174 : Nat) = 193 ∧ T_X12_kind_193 (It_X12_kind n) a0 a1 a2 a3 s r t) ∨ ((174 : Nat) = 209 ∧ T_X12_kind_209 (It_X12_kind n) a0 a1 a2 a3 s r t) ∨ ((174 : Nat) = 228 ∧ T_X12_kind_228 (It_X12_kind n) a0 a1 a2 a3 a4 s r t) ∨ ((174 : Nat) = 254 ∧ T_X12_kind_254 (It_X12_kind n) a0 a1 a2 a3 a4 a5 s r t) ∨ ((174 : Nat) = 255 ∧ T_X12_kind_255 (It_X12_kind n) a0 a1 a2 a3 a4 a5 a6 s r t) ∨ ((174 : Nat) = 257 ∧ T_X12_kind_257 (It_X12_kind n) a0 a1 a2 a3 a4 a5 a6 s r t) := h
  rcases h2 with ⟨e, h2⟩ | ⟨e, h2⟩ | ⟨e, h2⟩ | ⟨e, h2⟩ | ⟨e, h2⟩ | ⟨e, h2⟩ | ⟨e, h2⟩ | ⟨e, h2⟩ | ⟨e, h2⟩ | ⟨e, h2⟩ | ⟨e, h2⟩ | ⟨e, h2⟩ | ⟨e, h2⟩ | ⟨e, h2⟩ | ⟨e, h2⟩ | ⟨e, h2⟩
  · exact absurd e (by decide)
  · exact absurd e (by decide)
  · exact absurd e (by decide)
  · exact absurd e (by decide)
  · exact absurd e (by decide)
  · exact absurd e (by decide)
  · exact absurd e (by decide)
  · exact absurd e (by decide)
  · exact absurd e (by decide)
  · exact h2
  · exact absurd e (by decide)
  · exact absurd e (by decide)
  · exact absurd e (by decide)
  · exact absurd e (by decide)
  · exact absurd e (by decide)
  · exact absurd e (by decide)
theorem ul_X12_kind_193 {n : Nat} {a0 a1 a2 a3 a4 a5 a6 : Int} {s t : PS} {r : Int} (h : It_X12_kind (n + 1) 193 a0 a1 a2 a3 a4 a5 a6 s r t) : T_X12_kind_193 (It_X12_kind n) a0 a1 a2 a3 s r t := by
  have h2 : ((193 : Nat) = 25 ∧ T_X12_kind_25 (It_X12_kind n) a0 s r t) ∨ ((193 : Nat) = 36 ∧ T_X12_kind_36 (It_X12_kind n) a0 s r t) ∨ ((193 : Nat) = 62 ∧ T_X12_kind_62 (It_X12_kind n) a0 s r t) ∨ ((193 : Nat) = 71 ∧ T_X12_kind_71 (It_X12_kind n) a0 s r t) ∨ ((193 : Nat) = 100 ∧ T_X12_kind_100 (It_X12_kind n) a0 s r t) ∨ ((193 : Nat) = 109 ∧ T_X12_kind_109 (It_X12_kind n) a0 s r t) ∨ ((193 : Nat) = 125 ∧ T_X12_kind_125 (It_X12_kind n) a0 a1 s r t) ∨ ((193 : Nat) = 139 ∧ T_X12_kind_139 (It_X12_kind n) a0 a1 s r t) ∨ ((193 : Nat) = 158 ∧ T_X12_kind_158 (It_X12_kind n) a0 a1 a2 s r t) ∨ ((193 : Nat) = 174 ∧ T_X12_kind_174 (It_X12_kind n) a0 a1 a2 s r t) ∨ ((193 : Nat) = 193 ∧ T_X12_kind_193 (It_X12_kind n) a0 a1 a2 a3 s r t) ∨ ((193 : Nat) = 209 ∧ T_X12_kind_209 (It_X12_kind n) a0 a1 a2 a3 s r t) ∨ ((193 : Nat) = 228 ∧ T_X12_kind_228 (It_X12_kind n) a0 a1 a2 a3 a4 s r t) ∨ ((193 : Nat) = 254 ∧ T_X12_kind_254 (It_X12_kind n) a0 a1 a2 a3 a4 a5 s r t) ∨ ((193 : Nat) = 255 ∧ T_X12_kind_255 (It_X12_kind n) a0 a1 a2 a3 a4 a5 a6 s r t) ∨ ((193 : Nat) = 257 ∧ T_X12_kind_257 (It_X12_kind n) a0 a1 a2 a3 a4 a5 a6 s r t) := h
  rcases h2 with ⟨e, h2⟩ | ⟨e, h2⟩ | ⟨e, h2⟩ | ⟨e, h2⟩ | ⟨e, h2⟩ | ⟨e, h2⟩ | ⟨e, h2⟩ | ⟨e, h2⟩ | ⟨e, h2⟩ | ⟨e, h2⟩ | ⟨e, h2⟩ | ⟨e, h2⟩ | ⟨e, h2⟩ | ⟨e, h2⟩ | ⟨e, h2⟩ | ⟨e, h2⟩
  · exact absurd e (by decide)
  · exact absurd e (by decide)
  · exact absurd e (by decide)
  · exact absurd e (by decide)
  · exact absurd e (by decide)
  · exact absurd e (by decide)
  · exact absurd e (by decide)
  · exact absurd e (by decide)
  · exact absurd e (by decide)
  · exact absurd e (by decide)
  · exact h2
  · exact absurd e (by decide)
  · exact absurd e (by decide)
  · exact absurd e (by decide)
  · exact absurd e (by decide)
  · exact absurd e (by decide)
theorem ul_X12_kind_209 {n : Nat} {a0 a1 a2 a3 a4 a5 a6 : Int} {s t : PS} {r : Int} (h : It_X12_kind (n + 1) 209 a0 a1 a2 a3 a4 a5 a6 s r t) : T_X12_kind_209 (It_X12_kind n) a0 a1 a2 a3 s r t := by
  have h2 : ((209 : Nat) = 25 ∧ T_X12_kind_25 (It_X12_kind n) a0 s r t) ∨ ((209 : Nat) = 36 ∧ T_X12_kind_36 (It_X12_kind n) a0 s r t) ∨ ((209 : Nat) = 62 ∧ T_X12_kind_62 (It_X12_kind n) a0 s r t) ∨ ((209 : Nat) = 71 ∧ T_X12_kind_71 (It_X12_kind n) a0 s r t) ∨ ((209 : Nat) = 100 ∧ T_X12_kind_100 (It_X12_kind n) a0 s r t) ∨ ((209 : Nat) = 109 ∧ T_X12_kind_109 (It_X12_kind n) a0 s r t) ∨ ((209 : Nat) = 125 ∧ T_X12_kind_125 (It_X12_kind n) a0 a1 s r t) ∨ ((209 : Nat) = 139 ∧ T_X12_kind_139 (It_X12_kind n) a0 a1 s r t) ∨ ((209 : Nat) = 158 ∧ T_X12_kind_158 (It_X12_kind n) a0 a1 a2 s r t) ∨ ((209 : Nat) = 174 ∧ T_X12_kind_174 (It_X12_kind n) a0 a1 a2 s r t) ∨ ((209 : Nat) = 193 ∧ T_X12_kind_193 (It_X12_kind n) a0 a1 a2 a3 s r t) ∨ ((209 : Nat) = 209 ∧ T_X12_kind_209 (It_X12_kind n) a0 a1 a2 a3 s r t) ∨ ((209 : Nat) = 228 ∧ T_X12_kind_228 (It_X12_kind n) a0 a1 a2 a3 a4 s r t) ∨ ((209 : Nat) = 254 ∧ T_X12_kind_254 (It_X12_kind n) a0 a1 a2 a3 a4 a5 s r t) ∨ ((209 : Nat) = 255 ∧ T_X12_kind_255 (It_X12_kind n) a0 a1 a2 a3 a4 a5 a6 s r t) ∨ ((209 : Nat) = 257 ∧ T_X12_kind_257 (It_X12_kind n) a0 a1 a2 a3 a4 a5 a6 s r t) := h
  rcases h2 with ⟨e, h2⟩ | ⟨e, h2⟩ | ⟨e, h2⟩ | ⟨e, h2⟩ | ⟨e, h2⟩ | ⟨e, h2⟩ | ⟨e, h2⟩ | ⟨e, h2⟩ | ⟨e, h2⟩ | ⟨e, h2⟩ | ⟨e, h2⟩ | ⟨e, h2⟩ | ⟨e, h2⟩ | ⟨e, h2⟩ | ⟨e, h2⟩ | ⟨e, h2⟩
  · exact absurd e (by decide)
  · exact absurd e (by decide)
  · exact absurd e (by decide)
  · exact absurd e (by decide)
  · exact absurd e (by decide)
  · exact absurd e (by decide)
  · exact absurd e (by decide)
  · exact absurd e (by decide)
  · exact absurd e (by decide)
  · exact absurd e (by decide)
  · exact absurd e (by decide)
  · exact h2
  · exact absurd e (by decide)
  · exact absurd e (by decide)
  · exact absurd e (by decide)
  · exact absurd e (by decide)
theorem ul_X12_kind_228 {n : Nat} {a0 a1 a2 a3 a4 a5 a6 : Int} {s t : PS} {r : Int} (h : It_X12_kind (n + 1) 228 a0 a1 a2 a3 a4 a5 a6 s r t) : T_X12_kind_228 (It_X12_kind n) a0 a1 a2 a3 a4 s r t := by
  have h2 : ((228 : Nat) = 25 ∧ T_X12_kind_25 (It_X12_kind n) a0 s r t) ∨ ((228 : Nat) = 36 ∧ T_X12_kind_36 (It_X12_kind n) a0 s r t) ∨ ((228 : Nat) = 62 ∧ T_X12_kind_62 (It_X12_kind n) a0 s r t) ∨ ((228 : Nat) = 71 ∧ T_X12_kind_71 (It_X12_kind n) a0 s r t) ∨ ((228 : Nat) = 100 ∧ T_X12_kind_100 (It_X12_kind n) a0 s r t) ∨ ((228 : Nat) = 109 ∧ T_X12_kind_109 (It_X12_kind n) a0 s r t) ∨ ((228 : Nat) = 125 ∧ T_X12_kind_125 (It_X12_kind n) a0 a1 s r t) ∨ ((228 : Nat) = 139 ∧ T_X12_kind_139 (It_X12_kind n) a0 a1 s r t) ∨ ((228 : Nat) = 158 ∧ T_X12_kind_158 (It_X12_kind n) a0 a1 a2 s r t) ∨ ((228 : Nat) = 174 ∧ T_X12_kind_174 (It_X12_kind n) a0 a1 a2 s r t) ∨ ((228 : Nat) = 193 ∧ T_X12_kind_193 (It_X12_kind n) a0 a1 a2 a3 s r t) ∨ ((228 : Nat) = 209 ∧ T_X12_kind_209 (It_X12_kind n) a0 a1 a2 a3 s r t) ∨ ((228 : Nat) = 228 ∧ T_X12_kind_228 (It_X12_kind n) a0 a1 a2 a3 a4 s r t) ∨ ((228 : Nat) = 254 ∧ T_X12_kind_254 (It_X12_kind n) a0 a1 a2 a3 a4 a5 s r t) ∨ ((228 : Nat) = 255 ∧ T_X12_kind_255 (It_X12_kind n) a0 a1 a2 a3 a4 a5 a6 s r t) ∨ ((228 : Nat) = 257 ∧ T_X12_kind_257 (It_X12_kind n) a0 a1 a2 a3 a4 a5 a6 s r t) := h
  rcases h2 with ⟨e, h2⟩ | ⟨e, h2⟩ | ⟨e, h2⟩ | ⟨e, h2⟩ | ⟨e, h2⟩ | ⟨e, h2⟩ | ⟨e, h2⟩ | ⟨e, h2⟩ | ⟨e, h2⟩ | ⟨e, h2⟩ | ⟨e, h2⟩ | ⟨e, h2⟩ | ⟨e, h2⟩ | ⟨e, h2⟩ | ⟨e, h2⟩ | ⟨e, h2⟩
  · exact absurd e (by decide)
  · exact absurd e (by decide)
  · exact absurd e (by decide)
  · exact absurd e (by decide)
  · exact absurd e (by decide)
  · exact absurd e (by decide)
  · exact absurd e (by decide)
  · exact absurd e (by decide)
  · exact absurd e (by decide)
  · exact absurd e (by decide)
  · exact absurd e (by decide)
  · exact absurd e (by decide)
  · exact h2
  · exact absurd e (by decide)
  · exact absurd e (by decide)
  · exact absurd e (by decide)
theorem ul_X12_kind_254 {n : Nat} {a0 a1 a2 a3 a4 a5 a6 : Int} {s t : PS} {r : Int} (h : It_X12_kind (n + 1) 254 a0 a1 a2 a3 a4 a5 a6 s r t) : T_X12_kind_254 (It_X12_kind n) a0 a1 a2 a3 a4 a5 s r t := by
  have h2 : ((254 : Nat) = 25 ∧ T_X12_kind_25 (It_X12_kind n) a0 s r t) ∨ ((254 : Nat) = 36 ∧ T_X12_kind_36 (It_X12_kind n) a0 s r t) ∨ ((254 : Nat) = 62 ∧ T_X12_kind_62 (It_X12_kind n) a0 s r t) ∨ ((254 : Nat) = 71 ∧ T_X12_kind_71 (It_X12_kind n) a0 s r t) ∨ ((254 : Nat) = 100 ∧ T_X12_kind_100 (It_X12_kind n) a0 s r t) ∨ ((254 : Nat) = 109 ∧ T_X12_kind_109 (It_X12_kind n) a0 s r t) ∨ ((254 : Nat) = 125 ∧ T_X12_kind_125 (It_X12_kind n) a0 a1 s r t) ∨ ((254 : Nat) = 139 ∧ T_X12_kind_139 (It_X12_kind n) a0 a1 s r t) ∨ ((254 : Nat) = 158 ∧ T_X12_kind_158 (It_X12_kind n) a0 a1 a2 s r t) ∨ ((254 : Nat) = 174 ∧ T_X12_kind_174 (It_X12_kind n) a0 a1 a2 s r t) ∨ ((254 : Nat) = 193 ∧ T_X12_kind_193 (It_X12_kind n) a0 a1 a2 a3 s r t) ∨ ((254 : Nat) = 209 ∧ T_X12_kind_209 (It_X12_kind n) a0 a1 a2 a3 s r t) ∨ ((254 : Nat) = 228 ∧ T_X12_kind_228 (It_X12_kind n) a0 a1 a2 a3 a4 s r t) ∨ ((254 : Nat) = 254 ∧ T_X12_kind_254 (It_X12_kind n) a0 a1 a2 a3 a4 a5 s r t) ∨ ((254 : Nat) = 255 ∧ T_X12_kind_255 (It_X12_kind n) a0 a1 a2 a3 a4 a5 a6 s r t) ∨ ((254 : Nat) = 257 ∧ T_X12_kind_257 (It_X12_kind n) a0 a1 a2 a3 a4 a5 a6 s r t) := h
  rcases h2 with ⟨e, h2⟩ | ⟨e, h2⟩ | ⟨e, h2⟩ | ⟨e, h2⟩ | ⟨e, h2⟩ | ⟨e, h2⟩ | ⟨e, h2⟩ | ⟨e, h2⟩ | ⟨e, h2⟩ | ⟨e, h2⟩ | ⟨e, h2⟩ | ⟨e, h2⟩ | ⟨e, h2⟩ | ⟨e, h2⟩ | ⟨e, h2⟩ | ⟨e, h2⟩
  · exact absurd e (by decide)
  · exact absurd e (by decide)
  · exact absurd e (by decide)
  · exact absurd e (by decide)
  · exact absurd e (by decide)
  · exact absurd e (by decide)
  · exact absurd e (by decide)
  · exact absurd e (by decide)
  · exact absurd e (by decide)
  · exact absurd e (by decide)
  · exact absurd e (by decide)
  · exact absurd e (by decide)
  · exact absurd e (by decide)
  · exact h2
  · exact absurd e (by decide)
  · exact absurd e (by decide)
theorem ul_X12_kind_255 {n : Nat} {a0 a1 a2 a3 a4 a5 a6 : Int} {s t : PS} {r : Int} (h : It_X12_kind (n + 1) 255 a0 a1 a2 a3 a4 a5 a6 s r t) : T_X12_kind_255 (It_X12_kind n) a0 a1 a2 a3 a4 a5 a6 s r t := by
  have h2 : ((255 : Nat) = 25 ∧ T_X12_kind_25 (It_X12_kind n) a0 s r t) ∨ ((255 : Nat) = 36 ∧ T_X12_kind_36 (It_X12_kind n) a0 s r t) ∨ ((255 : Nat) = 62 ∧ T_X12_kind_62 (It_X12_kind n) a0 s r t) ∨ ((255 : Nat) = 71 ∧ T_X12_kind_71 (It_X12_kind n) a0 s r t) ∨ ((255 : Nat) = 100 ∧ T_X12_kind_100 (It_X12_kind n) a0 s r t) ∨ ((255 : Nat) = 109 ∧ T_X12_kind_109 (It_X12_kind n) a0 s r t) ∨ ((255 : Nat) = 125 ∧ T_X12_kind_125 (It_X12_kind n) a0 a1 s r t) ∨ ((255 : Nat) = 139 ∧ T_X12_kind_139 (It_X12_kind n) a0 a1 s r t) ∨ ((255 : Nat) = 158 ∧ T_X12_kind_158 (It_X12_kind n) a0 a1 a2 s r t) ∨ ((255 : Nat) = 174 ∧ T_X12_kind_174 (It_X12_kind n) a0 a1 a2 s r t) ∨ ((255 : Nat) = 193 ∧ T_X12_kind_193 (It_X12_kind n) a0 a1 a2 a3 s r t) ∨ ((255 : Nat) = 209 ∧ T_X12_kind_209 (It_X12_kind n) a0 a1 a2 a3 s r t) ∨ ((255 : Nat) = 228 ∧ T_X12_kind_228 (It_X12_kind n) a0 a1 a2 a3 a4 s r t) ∨ ((255 : Nat) = 254 ∧ T_X12_kind_254 (It_X12_kind n) a0 a1 a2 a3 a4 a5 s r t) ∨ ((255 : Nat) = 255 ∧ T_X12_kind_255 (It_X12_kind n) a0 a1 a2 a3 a4 a5 a6 s r t) ∨ ((255 : Nat) = 257 ∧ T_X12_kind_257 (It_X12_kind n) a0 a1 a2 a3 a4 a5 a6 s r t) := h
  rcases h2 with ⟨e, h2⟩ | ⟨e, h2⟩ | ⟨e, h2⟩ | ⟨e, h2⟩ | ⟨e, h2⟩ | ⟨e, h2⟩ | ⟨e, h2⟩ | ⟨e, h2⟩ | ⟨e, h2⟩ | ⟨e, h2⟩ | ⟨e, h2⟩ | ⟨e, h2⟩ | ⟨e, h2⟩ | ⟨e, h2⟩ | ⟨e, h2⟩ | ⟨e, h2⟩
  · exact absurd e (by decide)
  · exact absurd e (by decide)
  · exact absurd e (by decide)
  · exact absurd e (by decide)
  · exact absurd e (by decide)
  · exact absurd e (by decide)
  · exact absurd e (by decide)
  · exact absurd e (by decide)
  · exact absurd e (by decide)
  · exact absurd e (by decide)
  · exact absurd e (by decide)
  · exact absurd e (by decide)
  · exact absurd e (by decide)
  · exact absurd e (by decide)
  · exact h2
  · exact absurd e (by decide)
theorem ul_X12_kind_257 {n : Nat} {a0 a1 a2 a3 a4 a5 a6 : Int} {s t : PS} {r : Int} (h : It_X12_kind (n + 1) 257 a0 a1 a2 a3 a4 a5 a6 s r t) : T_X12_kind_257 (It_X12_kind n) a0 a1 a2 a3 a4 a5 a6 s r t := by
  have h2 : ((257 : Nat) = 25 ∧ T_X12_kind_25 (It_X12_kind n) a0 s r t) ∨ ((257 : Nat) = 36 ∧ T_X12_kind_36 (It_X12_kind n) a0 s r t) ∨ ((257 : Nat) = 62 ∧ T_X12_kind_62 (It_X12_kind n) a0 s r t) ∨ ((257 : Nat) = 71 ∧ T_X12_kind_71 (It_X12_kind n) a0 s r t) ∨ ((257 : Nat) = 100 ∧ T_X12_kind_100 (It_X12_kind n) a0 s r t) ∨ ((257 : Nat) = 109 ∧ T_X12_kind_109 (It_X12_kind n) a0 s r t) ∨ ((257 : Nat) = 125 ∧ T_X12_kind_125 (It_X12_kind n) a0 a1 s r t) ∨ ((257 : Nat) = 139 ∧ T_X12_kind_139 (It_X12_kind n) a0 a1 s r t) ∨ ((257 : Nat) = 158 ∧ T_X12_kind_158 (It_X12_kind n) a0 a1 a2 s r t) ∨ ((257 : Nat) = 174 ∧ T_X12_kind_174 (It_X12_kind n) a0 a1 a2 s r t) ∨ ((257 : Nat) = 193 ∧ T_X12_kind_193 (It_X12_kind n) a0 a1 a2 a3 s r t) ∨ ((257 : Nat) = 209 ∧ T_X12_kind_209 (It_X12_kind n) a0 a1 a2 a3 s r t) ∨ ((257 : Nat) = 228 ∧ T_X12_kind_228 (It_X12_kind n) a0 a1 a2 a3 a4 s r t) ∨ ((257 : Nat) = 254 ∧ T_X12_kind_254 (It_X12_kind n) a0 a1 a2 a3 a4 a5 s r t) ∨ ((257 : Nat) = 255 ∧ T_X12_kind_255 (It_X12_kind n) a0 a1 a2 a3 a4 a5 a6 s r t) ∨ ((257 : Nat) = 257 ∧ T_X12_kind_257 (It_X12_kind n) a0 a1 a2 a3 a4 a5 a6 s r t) := h
  rcases h2 with ⟨e, h2⟩ | ⟨e, h2⟩ | ⟨e, h2⟩ | ⟨e, h2⟩ | ⟨e, h2⟩ | ⟨e, h2⟩ | ⟨e, h2⟩ | ⟨e, h2⟩ | ⟨e, h2⟩ | ⟨e, h2⟩ | ⟨e, h2⟩ | ⟨e, h2⟩ | ⟨e, h2⟩ | ⟨e, h2⟩ | ⟨e, h2⟩ | ⟨e, h2⟩
  · exact absurd e (by decide)
  · exact absurd e (by decide)
  · exact absurd e (by decide)
  · exact absurd e (by decide)
  · exact absurd e (by decide)
  · exact absurd e (by decide)
  · exact absurd e (by decide)
  · exact absurd e (by decide)
  · exact absurd e (by decide)
  · exact absurd e (by decide)
  · exact absurd e (by decide)
  · exact absurd e (by decide)
  · exact absurd e (by decide)
  · exact absurd e (by decide)
  · exact absurd e (by decide)
  · exact h2
def M_X12_kind (s : PS) (r : Int) (t : PS) : Prop := ∃ n, T_X12_kind_e (It_X12_kind n) s r t
theorem mk_X12_kind {n : Nat} {s t : PS} {r : Int} (h : T_X12_kind_e (It_X12_kind n) s r t) : M_X12_kind s r t := ⟨n, h⟩
def T_X12_must_e (s_w : PS) (p1 : Int) (rr : Int) (ss : PS) : Prop := ((TyM s_w) ∧ ((59 ≤ p1 ∧ p1 ≤ 59) ∧ (∃ r_2 : Int, (∃ s_w_1 : PS, ((M_X12_isSign s_w p1 r_2 s_w_1) ∧ ((Fr intsM [] [] s_w s_w_1) ∧ ((TyM s_w_1) ∧ ((0 ≤ r_2 ∧ r_2 ≤ 1) ∧ ((r_2 = 0 ∧ (∃ s_w_13 : PS, ((M_X12_blame s_w_1 1 (s_w 0 4) 0 s_w_13) ∧ ((Fr intsM [0] [(0, 8), (0, 9)] s_w_1 s_w_13) ∧ ((TyM s_w_13) ∧ ((¬ ((s_w_13 0 8) = 0)) ∧ (rr = 0 ∧ ss = s_w_13))))))) ∨ (¬ (r_2 = 0) ∧ (((s_w 0 8) = 0) ∧ (∃ s_w_7 : PS, ((M_X12_looks s_w_1 0 s_w_7) ∧ ((Fr intsM [0] [(0, 3), (0, 4), (0, 5), (0, 6), (0, 7), (0, 8), (0, 9)] s_w_1 s_w_7) ∧ ((TyM s_w_7) ∧ (rr = 0 ∧ ss = s_w_7))))))))))))))))
def M_X12_must (s : PS) (p1 : Int) (r : Int) (t : PS) : Prop := T_X12_must_e s p1 r t
theorem mk_X12_must {s t : PS} {p1 : Int} {r : Int} (h : T_X12_must_e s p1 r t) : M_X12_must s p1 r t := h
def T_X12_isTest_e (s_w : PS) (p0 : Int) (rr : Int) (ss : PS) : Prop := ((TyM s_w) ∧ ((0 ≤ p0 ∧ p0 ≤ 5) ∧ ((p0 = 1 ∧ (rr = 1 ∧ ss = s_w)) ∨ (¬ (p0 = 1) ∧ ((p0 = 4 ∧ (rr = 1 ∧ ss = s_w)) ∨ (¬ (p0 = 4) ∧ (rr = 0 ∧ ss = s_w)))))))
def M_X12_isTest (s : PS) (p0 : Int) (r : Int) (t : PS) : Prop := T_X12_isTest_e s p0 r t
theorem mk_X12_isTest {s t : PS} {p0 : Int} {r : Int} (h : T_X12_isTest_e s p0 r t) : M_X12_isTest s p0 r t := h
def T_X12_isWhich_e (s_w : PS) (p0 : Int) (rr : Int) (ss : PS) : Prop := ((TyM s_w) ∧ ((0 ≤ p0 ∧ p0 ≤ 5) ∧ ((p0 = 2 ∧ (rr = 1 ∧ ss = s_w)) ∨ (¬ (p0 = 2) ∧ ((p0 = 5 ∧ (rr = 1 ∧ ss = s_w)) ∨ (¬ (p0 = 5) ∧ (rr = 0 ∧ ss = s_w)))))))
def M_X12_isWhich (s : PS) (p0 : Int) (r : Int) (t : PS) : Prop := T_X12_isWhich_e s p0 r t
theorem mk_X12_isWhich {s t : PS} {p0 : Int} {r : Int} (h : T_X12_isWhich_e s p0 r t) : M_X12_isWhich s p0 r t := h
def T_X12_add_e (s_w : PS) (p1 p2 : Int) (rr : Int) (ss : PS) : Prop := ((TyM s_w) ∧ ((0 ≤ p1 ∧ p1 ≤ 23) ∧ (∃ s_w_2 : PS, s_w_2 = (us s_w 13 ((2200 * (s_w 0 13)) + (2 * (s_w 14 (s_w 0 13).toNat))).toNat p1) ∧ (∃ s_w_3 : PS, s_w_3 = (us s_w_2 13 (((2200 * (s_w 0 13)) + (2 * (s_w 14 (s_w 0 13).toNat))) + 1).toNat p2) ∧ (∃ s_w_4 : PS, s_w_4 = (us s_w_3 14 (s_w 0 13).toNat ((s_w 14 (s_w 0 13).toNat) + 1)) ∧ (rr = 0 ∧ ss = s_w_4))))))
def M_X12_add (s : PS) (p1 p2 : Int) (r : Int) (t : PS) : Prop := T_X12_add_e s p1 p2 r t
theorem mk_X12_add {s t : PS} {p1 p2 : Int} {r : Int} (h : T_X12_add_e s p1 p2 r t) : M_X12_add s p1 p2 r t := h
def T_X12_rank_e (s_w : PS) (p0 : Int) (rr : Int) (ss : PS) : Prop := ((TyM s_w) ∧ ((0 ≤ p0 ∧ p0 ≤ 18) ∧ ((p0 = 17 ∧ (rr = 1 ∧ ss = s_w)) ∨ (¬ (p0 = 17) ∧ ((p0 = 16 ∧ (rr = 2 ∧ ss = s_w)) ∨ (¬ (p0 = 16) ∧ ((p0 = 18 ∧ (rr = 3 ∧ ss = s_w)) ∨ (¬ (p0 = 18) ∧ ((p0 = 13 ∧ (rr = 4 ∧ ss = s_w)) ∨ (¬ (p0 = 13) ∧ ((p0 = 14 ∧ (rr = 4 ∧ ss = s_w)) ∨ (¬ (p0 = 14) ∧ ((p0 = 15 ∧ (rr = 4 ∧ ss = s_w)) ∨ (¬ (p0 = 15) ∧ (rr = 5 ∧ ss = s_w)))))))))))))))
def M_X12_rank (s : PS) (p0 : Int) (r : Int) (t : PS) : Prop := T_X12_rank_e s p0 r t
theorem mk_X12_rank {s t : PS} {p0 : Int} {r : Int} (h : T_X12_rank_e s p0 r t) : M_X12_rank s p0 r t := h
def T_X12_joins_0 (K : Int → PS → Int → PS → Prop) (x0_1 : Int) (s_w0 : PS) (rr : Int) (ss : PS) : Prop := ((TyM s_w0) ∧ ((1 ≤ x0_1 ∧ x0_1 ≤ 5) ∧ (((s_w0 0 35) ≤ (s_w0 19 ((s_w0 0 32) - 1).toNat) ∧ (rr = 0 ∧ ss = s_w0)) ∨ (¬ ((s_w0 0 35) ≤ (s_w0 19 ((s_w0 0 32) - 1).toNat)) ∧ (∃ r_5 : Int, (∃ s_w_4 : PS, ((M_X12_rank s_w0 (s_w0 20 ((s_w0 0 35) - 1).toNat) r_5 s_w_4) ∧ ((Fr intsM [] [] s_w0 s_w_4) ∧ ((TyM s_w_4) ∧ ((1 ≤ r_5 ∧ r_5 ≤ 5) ∧ ((r_5 < x0_1 ∧ (rr = 0 ∧ ss = s_w_4)) ∨ (¬ (r_5 < x0_1) ∧ (∃ s_w_9 : PS, s_w_9 = (us s_w_4 0 35 ((s_w0 0 35) - 1)) ∧ (∃ s_w_10 : PS, ((M_X12_add s_w_9 (s_w0 20 ((s_w0 0 35) - 1).toNat) 0 0 s_w_10) ∧ ((Fr intsM [13, 14] [] s_w_9 s_w_10) ∧ ((TyM s_w_10) ∧ (K x0_1 s_w_10 rr ss))))))))))))))))))
def T_X12_joins_e (K : Int → PS → Int → PS → Prop) (s_w : PS) (p1 : Int) (rr : Int) (ss : PS) : Prop := ((TyM s_w) ∧ ((1 ≤ p1 ∧ p1 ≤ 5) ∧ (((s_w 0 35) ≤ (s_w 19 ((s_w 0 32) - 1).toNat) ∧ (rr = 0 ∧ ss = s_w)) ∨ (¬ ((s_w 0 35) ≤ (s_w 19 ((s_w 0 32) - 1).toNat)) ∧ (∃ r_18 : Int, (∃ s_w_17 : PS, ((M_X12_rank s_w (s_w 20 ((s_w 0 35) - 1).toNat) r_18 s_w_17) ∧ ((Fr intsM [] [] s_w s_w_17) ∧ ((TyM s_w_17) ∧ ((1 ≤ r_18 ∧ r_18 ≤ 5) ∧ ((r_18 < p1 ∧ (rr = 0 ∧ ss = s_w_17)) ∨ (¬ (r_18 < p1) ∧ (∃ s_w_22 : PS, s_w_22 = (us s_w_17 0 35 ((s_w 0 35) - 1)) ∧ (∃ s_w_23 : PS, ((M_X12_add s_w_22 (s_w 20 ((s_w 0 35) - 1).toNat) 0 0 s_w_23) ∧ ((Fr intsM [13, 14] [] s_w_22 s_w_23) ∧ ((TyM s_w_23) ∧ (K p1 s_w_23 rr ss))))))))))))))))))
def It_X12_joins : Nat → Int → PS → Int → PS → Prop
  | 0, _, _, _, _ => False
  | n + 1, a0, s, r, t => T_X12_joins_0 (It_X12_joins n) a0 s r t
theorem rl_X12_joins_0 {n : Nat} {a0 : Int} {s t : PS} {r : Int} (h : T_X12_joins_0 (It_X12_joins n) a0 s r t) : It_X12_joins (n + 1) a0 s r t := h
theorem ul_X12_joins_0 {n : Nat} {a0 : Int} {s t : PS} {r : Int} (h : It_X12_joins (n + 1) a0 s r t) : T_X12_joins_0 (It_X12_joins n) a0 s r t := h
def M_X12_joins (s : PS) (p1 : Int) (r : Int) (t : PS) : Prop := ∃ n, T_X12_joins_e (It_X12_joins n) s p1 r t
theorem mk_X12_joins {n : Nat} {s t : PS} {p1 : Int} {r : Int} (h : T_X12_joins_e (It_X12_joins n) s p1 r t) : M_X12_joins s p1 r t := ⟨n, h⟩
def T_X12_waits_e (s_w : PS) (p1 : Int) (rr : Int) (ss : PS) : Prop := ((TyM s_w) ∧ ((10 ≤ p1 ∧ p1 ≤ 18) ∧ (∃ s_w_1 : PS, s_w_1 = (us s_w 20 (s_w 0 35).toNat p1) ∧ (∃ s_w_2 : PS, s_w_2 = (us s_w_1 0 35 ((s_w 0 35) + 1)) ∧ (rr = 0 ∧ ss = s_w_2)))))
def M_X12_waits (s : PS) (p1 : Int) (r : Int) (t : PS) : Prop := T_X12_waits_e s p1 r t
theorem mk_X12_waits {s t : PS} {p1 : Int} {r : Int} (h : T_X12_waits_e s p1 r t) : M_X12_waits s p1 r t := h
