def T_X12_put_3 (K : Int → Int → PS → Int → PS → Prop) (x3_1 x3_2 : Int) (s_w3 : PS) (rr : Int) (ss : PS) : Prop := ((TyM s_w3) ∧ (((-8) ≤ x3_2 ∧ x3_2 ≤ 24) ∧ ((x3_2 < 0 ∧ (rr = 0 ∧ ss = s_w3)) ∨ (¬ (x3_2 < 0) ∧ (∃ s_w_3 : PS, s_w_3 = (us s_w3 1 (s_w3 0 1).toNat (iAnd (iShr x3_1 x3_2) 255)) ∧ (∃ s_w_4 : PS, s_w_4 = (us s_w_3 0 1 ((s_w3 0 1) + 1)) ∧ (K x3_1 (x3_2 + (-8)) s_w_4 rr ss)))))))
def T_X12_put_e (K : Int → Int → PS → Int → PS → Prop) (s_w : PS) (p1 : Int) (rr : Int) (ss : PS) : Prop := ((TyM s_w) ∧ (K p1 24 s_w rr ss))
def It_X12_put : Nat → Int → Int → PS → Int → PS → Prop
  | 0, _, _, _, _, _ => False
  | n + 1, a0, a1, s, r, t => T_X12_put_3 (It_X12_put n) a0 a1 s r t
theorem rl_X12_put_3 {n : Nat} {a0 a1 : Int} {s t : PS} {r : Int} (h : T_X12_put_3 (It_X12_put n) a0 a1 s r t) : It_X12_put (n + 1) a0 a1 s r t := h
theorem ul_X12_put_3 {n : Nat} {a0 a1 : Int} {s t : PS} {r : Int} (h : It_X12_put (n + 1) a0 a1 s r t) : T_X12_put_3 (It_X12_put n) a0 a1 s r t := h
def M_X12_put (s : PS) (p1 : Int) (r : Int) (t : PS) : Prop := ∃ n, T_X12_put_e (It_X12_put n) s p1 r t
theorem mk_X12_put {n : Nat} {s t : PS} {p1 : Int} {r : Int} (h : T_X12_put_e (It_X12_put n) s p1 r t) : M_X12_put s p1 r t := ⟨n, h⟩
def T_X12_feed_e (s_w : PS) (p1 p2 p3 p4 p5 : Int) (rr : Int) (ss : PS) : Prop := ((TyM s_w) ∧ ((((s_w 0 1) + 20) ≤ 1000 ∧ (∃ s_w_2 : PS, ((M_X12_put s_w p1 0 s_w_2) ∧ ((Fr intsM [0, 1] [(0, 1)] s_w s_w_2) ∧ ((TyM s_w_2) ∧ (∃ s_w_6 : PS, ((M_X12_put s_w_2 p2 0 s_w_6) ∧ ((Fr intsM [0, 1] [(0, 1)] s_w_2 s_w_6) ∧ ((TyM s_w_6) ∧ (∃ s_w_10 : PS, ((M_X12_put s_w_6 p3 0 s_w_10) ∧ ((Fr intsM [0, 1] [(0, 1)] s_w_6 s_w_10) ∧ ((TyM s_w_10) ∧ (∃ s_w_14 : PS, ((M_X12_put s_w_10 p4 0 s_w_14) ∧ ((Fr intsM [0, 1] [(0, 1)] s_w_10 s_w_14) ∧ ((TyM s_w_14) ∧ (∃ s_w_18 : PS, ((M_X12_put s_w_14 p5 0 s_w_18) ∧ ((Fr intsM [0, 1] [(0, 1)] s_w_14 s_w_18) ∧ ((TyM s_w_18) ∧ (rr = (s_w_18 0 1) ∧ ss = s_w_18)))))))))))))))))))))) ∨ (¬ (((s_w 0 1) + 20) ≤ 1000) ∧ (rr = (-1) ∧ ss = s_w))))
def M_X12_feed (s : PS) (p1 p2 p3 p4 p5 : Int) (r : Int) (t : PS) : Prop := T_X12_feed_e s p1 p2 p3 p4 p5 r t
theorem mk_X12_feed {s t : PS} {p1 p2 p3 p4 p5 : Int} {r : Int} (h : T_X12_feed_e s p1 p2 p3 p4 p5 r t) : M_X12_feed s p1 p2 p3 p4 p5 r t := h
def T_X12_end_e (s_w : PS) (p1 : Int) (rr : Int) (ss : PS) : Prop := ((TyM s_w) ∧ ((p1 < 0 ∧ (rr = 0 ∧ ss = s_w)) ∨ (¬ (p1 < 0) ∧ ((p1 ≤ (s_w 0 1) ∧ (∃ s_w_3 : PS, s_w_3 = (us s_w 0 1 p1) ∧ (rr = 1 ∧ ss = s_w_3))) ∨ (¬ (p1 ≤ (s_w 0 1)) ∧ (rr = 0 ∧ ss = s_w))))))
def M_X12_end (s : PS) (p1 : Int) (r : Int) (t : PS) : Prop := T_X12_end_e s p1 r t
theorem mk_X12_end {s t : PS} {p1 : Int} {r : Int} (h : T_X12_end_e s p1 r t) : M_X12_end s p1 r t := h
def T_X12_blame_e (s_w : PS) (p1 p2 : Int) (rr : Int) (ss : PS) : Prop := ((TyM s_w) ∧ ((1 ≤ p1 ∧ p1 ≤ 5) ∧ ((0 ≤ p2 ∧ p2 ≤ 1000) ∧ (((s_w 0 8) ≤ 0 ∧ (∃ s_w_2 : PS, s_w_2 = (us s_w 0 8 p1) ∧ (∃ s_w_3 : PS, s_w_3 = (us s_w_2 0 9 p2) ∧ (rr = 0 ∧ ss = s_w_3)))) ∨ (¬ ((s_w 0 8) ≤ 0) ∧ (rr = 0 ∧ ss = s_w))))))
def M_X12_blame (s : PS) (p1 p2 : Int) (r : Int) (t : PS) : Prop := T_X12_blame_e s p1 p2 r t
theorem mk_X12_blame {s t : PS} {p1 p2 : Int} {r : Int} (h : T_X12_blame_e s p1 p2 r t) : M_X12_blame s p1 p2 r t := h
def T_X12_isDigit_e (s_w : PS) (p0 : Int) (rr : Int) (ss : PS) : Prop := ((TyM s_w) ∧ ((0 ≤ p0 ∧ p0 ≤ 255) ∧ ((p0 < 48 ∧ (rr = 0 ∧ ss = s_w)) ∨ (¬ (p0 < 48) ∧ ((57 < p0 ∧ (rr = 0 ∧ ss = s_w)) ∨ (¬ (57 < p0) ∧ (rr = 1 ∧ ss = s_w)))))))
def M_X12_isDigit (s : PS) (p0 : Int) (r : Int) (t : PS) : Prop := T_X12_isDigit_e s p0 r t
theorem mk_X12_isDigit {s t : PS} {p0 : Int} {r : Int} (h : T_X12_isDigit_e s p0 r t) : M_X12_isDigit s p0 r t := h
def T_X12_isLetter_e (s_w : PS) (p0 : Int) (rr : Int) (ss : PS) : Prop := ((TyM s_w) ∧ ((0 ≤ p0 ∧ p0 ≤ 255) ∧ ((p0 < 97 ∧ (rr = 0 ∧ ss = s_w)) ∨ (¬ (p0 < 97) ∧ ((122 < p0 ∧ (rr = 0 ∧ ss = s_w)) ∨ (¬ (122 < p0) ∧ (rr = 1 ∧ ss = s_w)))))))
def M_X12_isLetter (s : PS) (p0 : Int) (r : Int) (t : PS) : Prop := T_X12_isLetter_e s p0 r t
theorem mk_X12_isLetter {s t : PS} {p0 : Int} {r : Int} (h : T_X12_isLetter_e s p0 r t) : M_X12_isLetter s p0 r t := h
def T_X12_looks_5 (K : Nat → Int → Int → Int → Int → Int → PS → Int → PS → Prop) (x5_1 : Int) (s_w5 : PS) (rr : Int) (ss : PS) : Prop := ((TyM s_w5) ∧ ((0 ≤ x5_1 ∧ x5_1 ≤ 1000) ∧ (((s_w5 0 2) ≤ x5_1 ∧ (K 41 x5_1 0 0 0 0 s_w5 rr ss)) ∨ (¬ ((s_w5 0 2) ≤ x5_1) ∧ (((s_w5 1 x5_1.toNat) = 32 ∧ (K 35 x5_1 0 0 0 0 s_w5 rr ss)) ∨ (¬ ((s_w5 1 x5_1.toNat) = 32) ∧ (((s_w5 1 x5_1.toNat) = 10 ∧ (K 35 x5_1 0 0 0 0 s_w5 rr ss)) ∨ (¬ ((s_w5 1 x5_1.toNat) = 10) ∧ (K 41 x5_1 0 0 0 0 s_w5 rr ss)))))))))
def T_X12_looks_35 (K : Nat → Int → Int → Int → Int → Int → PS → Int → PS → Prop) (x35_1 : Int) (s_w35 : PS) (rr : Int) (ss : PS) : Prop := ((TyM s_w35) ∧ ((0 ≤ x35_1 ∧ x35_1 ≤ 999) ∧ (K 5 (x35_1 + 1) 0 0 0 0 s_w35 rr ss)))
def T_X12_looks_41 (K : Nat → Int → Int → Int → Int → Int → PS → Int → PS → Prop) (x41_1 : Int) (s_w41 : PS) (rr : Int) (ss : PS) : Prop := ((TyM s_w41) ∧ ((0 ≤ x41_1 ∧ x41_1 ≤ 1000) ∧ (∃ s_w_40 : PS, s_w_40 = (us s_w41 0 4 x41_1) ∧ (∃ s_w_41 : PS, s_w_41 = (us s_w_40 0 5 x41_1) ∧ (∃ s_w_42 : PS, s_w_42 = (us s_w_41 0 3 0) ∧ ((x41_1 < (s_w41 0 2) ∧ (∃ r_46 : Int, (∃ s_w_45 : PS, ((M_X12_isLetter s_w_42 (s_w41 1 x41_1.toNat) r_46 s_w_45) ∧ ((Fr intsM [] [] s_w_42 s_w_45) ∧ ((TyM s_w_45) ∧ ((0 ≤ r_46 ∧ r_46 ≤ 1) ∧ (∃ r_51 : Int, (∃ s_w_50 : PS, ((M_X12_isDigit s_w_45 (s_w41 1 x41_1.toNat) r_51 s_w_50) ∧ ((Fr intsM [] [] s_w_45 s_w_50) ∧ ((TyM s_w_50) ∧ ((0 ≤ r_51 ∧ r_51 ≤ 1) ∧ ((r_46 = 0 ∧ ((r_51 = 0 ∧ (∃ s_w_115 : PS, s_w_115 = (us s_w_50 0 6 0) ∧ (∃ s_w_116 : PS, s_w_116 = (us s_w_115 0 7 0) ∧ (∃ s_w_117 : PS, s_w_117 = (us s_w_116 0 3 3) ∧ (∃ s_w_118 : PS, s_w_118 = (us s_w_117 0 5 (x41_1 + 1)) ∧ ((r_46 = 0) ∧ ((r_51 = 0) ∧ (∃ s_w_121 : PS, s_w_121 = (us s_w_118 0 6 (s_w41 1 x41_1.toNat)) ∧ (rr = 0 ∧ ss = s_w_121))))))))) ∨ (¬ (r_51 = 0) ∧ ((x41_1 ≤ 0 ∧ (∃ s_w_123 : PS, s_w_123 = (us s_w_50 0 6 0) ∧ (∃ s_w_124 : PS, s_w_124 = (us s_w_123 0 7 0) ∧ (∃ s_w_125 : PS, s_w_125 = (us s_w_124 0 3 3) ∧ (∃ s_w_126 : PS, s_w_126 = (us s_w_125 0 5 (x41_1 + 1)) ∧ ((r_46 = 0) ∧ ((¬ (r_51 = 0)) ∧ ((r_46 = 0) ∧ (∃ s_w_130 : PS, s_w_130 = (us s_w_126 0 3 2) ∧ ((r_46 = 0) ∧ (K 200 x41_1 r_46 r_51 5 0 s_w_130 rr ss))))))))))) ∨ (¬ (x41_1 ≤ 0) ∧ (∃ r_134 : Int, (∃ s_w_133 : PS, ((M_X12_isLetter s_w_50 (s_w41 1 (x41_1 - 1).toNat) r_134 s_w_133) ∧ ((Fr intsM [] [] s_w_50 s_w_133) ∧ ((TyM s_w_133) ∧ ((0 ≤ r_134 ∧ r_134 ≤ 1) ∧ ((r_134 = 0 ∧ (∃ r_155 : Int, (∃ s_w_154 : PS, ((M_X12_isDigit s_w_133 (s_w41 1 (x41_1 - 1).toNat) r_155 s_w_154) ∧ ((Fr intsM [] [] s_w_133 s_w_154) ∧ ((TyM s_w_154) ∧ ((0 ≤ r_155 ∧ r_155 ≤ 1) ∧ ((r_155 = 0 ∧ (∃ s_w_160 : PS, s_w_160 = (us s_w_154 0 6 0) ∧ (∃ s_w_161 : PS, s_w_161 = (us s_w_160 0 7 0) ∧ (∃ s_w_162 : PS, s_w_162 = (us s_w_161 0 3 3) ∧ (∃ s_w_163 : PS, s_w_163 = (us s_w_162 0 5 (x41_1 + 1)) ∧ ((r_46 = 0) ∧ ((¬ (r_51 = 0)) ∧ ((r_46 = 0) ∧ (∃ s_w_167 : PS, s_w_167 = (us s_w_163 0 3 2) ∧ ((r_46 = 0) ∧ (K 200 x41_1 r_46 r_51 5 0 s_w_167 rr ss))))))))))) ∨ (¬ (r_155 = 0) ∧ (∃ s_w_169 : PS, ((M_X12_blame s_w_154 1 x41_1 0 s_w_169) ∧ ((Fr intsM [0] [(0, 8), (0, 9)] s_w_154 s_w_169) ∧ ((TyM s_w_169) ∧ (∃ s_w_175 : PS, s_w_175 = (us s_w_169 0 6 0) ∧ (∃ s_w_176 : PS, s_w_176 = (us s_w_175 0 7 0) ∧ (∃ s_w_177 : PS, s_w_177 = (us s_w_176 0 3 3) ∧ (∃ s_w_178 : PS, s_w_178 = (us s_w_177 0 5 (x41_1 + 1)) ∧ ((r_46 = 0) ∧ ((¬ (r_51 = 0)) ∧ ((r_46 = 0) ∧ (∃ s_w_182 : PS, s_w_182 = (us s_w_178 0 3 2) ∧ ((r_46 = 0) ∧ (K 200 x41_1 r_46 r_51 5 0 s_w_182 rr ss))))))))))))))))))))))) ∨ (¬ (r_134 = 0) ∧ (∃ s_w_139 : PS, ((M_X12_blame s_w_133 1 x41_1 0 s_w_139) ∧ ((Fr intsM [0] [(0, 8), (0, 9)] s_w_133 s_w_139) ∧ ((TyM s_w_139) ∧ (∃ s_w_145 : PS, s_w_145 = (us s_w_139 0 6 0) ∧ (∃ s_w_146 : PS, s_w_146 = (us s_w_145 0 7 0) ∧ (∃ s_w_147 : PS, s_w_147 = (us s_w_146 0 3 3) ∧ (∃ s_w_148 : PS, s_w_148 = (us s_w_147 0 5 (x41_1 + 1)) ∧ ((r_46 = 0) ∧ ((¬ (r_51 = 0)) ∧ ((r_46 = 0) ∧ (∃ s_w_152 : PS, s_w_152 = (us s_w_148 0 3 2) ∧ ((r_46 = 0) ∧ (K 200 x41_1 r_46 r_51 5 0 s_w_152 rr ss))))))))))))))))))))))))))) ∨ (¬ (r_46 = 0) ∧ ((x41_1 ≤ 0 ∧ (∃ s_w_57 : PS, s_w_57 = (us s_w_50 0 6 0) ∧ (∃ s_w_58 : PS, s_w_58 = (us s_w_57 0 7 0) ∧ (∃ s_w_59 : PS, s_w_59 = (us s_w_58 0 3 3) ∧ (∃ s_w_60 : PS, s_w_60 = (us s_w_59 0 5 (x41_1 + 1)) ∧ ((¬ (r_46 = 0)) ∧ ((¬ (r_46 = 0)) ∧ (∃ s_w_63 : PS, s_w_63 = (us s_w_60 0 3 1) ∧ ((¬ (r_46 = 0)) ∧ (K 200 x41_1 r_46 r_51 8 0 s_w_63 rr ss)))))))))) ∨ (¬ (x41_1 ≤ 0) ∧ (∃ r_67 : Int, (∃ s_w_66 : PS, ((M_X12_isLetter s_w_50 (s_w41 1 (x41_1 - 1).toNat) r_67 s_w_66) ∧ ((Fr intsM [] [] s_w_50 s_w_66) ∧ ((TyM s_w_66) ∧ ((0 ≤ r_67 ∧ r_67 ≤ 1) ∧ ((r_67 = 0 ∧ (∃ r_87 : Int, (∃ s_w_86 : PS, ((M_X12_isDigit s_w_66 (s_w41 1 (x41_1 - 1).toNat) r_87 s_w_86) ∧ ((Fr intsM [] [] s_w_66 s_w_86) ∧ ((TyM s_w_86) ∧ ((0 ≤ r_87 ∧ r_87 ≤ 1) ∧ ((r_87 = 0 ∧ (∃ s_w_92 : PS, s_w_92 = (us s_w_86 0 6 0) ∧ (∃ s_w_93 : PS, s_w_93 = (us s_w_92 0 7 0) ∧ (∃ s_w_94 : PS, s_w_94 = (us s_w_93 0 3 3) ∧ (∃ s_w_95 : PS, s_w_95 = (us s_w_94 0 5 (x41_1 + 1)) ∧ ((¬ (r_46 = 0)) ∧ ((¬ (r_46 = 0)) ∧ (∃ s_w_98 : PS, s_w_98 = (us s_w_95 0 3 1) ∧ ((¬ (r_46 = 0)) ∧ (K 200 x41_1 r_46 r_51 8 0 s_w_98 rr ss)))))))))) ∨ (¬ (r_87 = 0) ∧ (∃ s_w_100 : PS, ((M_X12_blame s_w_86 1 x41_1 0 s_w_100) ∧ ((Fr intsM [0] [(0, 8), (0, 9)] s_w_86 s_w_100) ∧ ((TyM s_w_100) ∧ (∃ s_w_106 : PS, s_w_106 = (us s_w_100 0 6 0) ∧ (∃ s_w_107 : PS, s_w_107 = (us s_w_106 0 7 0) ∧ (∃ s_w_108 : PS, s_w_108 = (us s_w_107 0 3 3) ∧ (∃ s_w_109 : PS, s_w_109 = (us s_w_108 0 5 (x41_1 + 1)) ∧ ((¬ (r_46 = 0)) ∧ ((¬ (r_46 = 0)) ∧ (∃ s_w_112 : PS, s_w_112 = (us s_w_109 0 3 1) ∧ ((¬ (r_46 = 0)) ∧ (K 200 x41_1 r_46 r_51 8 0 s_w_112 rr ss)))))))))))))))))))))) ∨ (¬ (r_67 = 0) ∧ (∃ s_w_72 : PS, ((M_X12_blame s_w_66 1 x41_1 0 s_w_72) ∧ ((Fr intsM [0] [(0, 8), (0, 9)] s_w_66 s_w_72) ∧ ((TyM s_w_72) ∧ (∃ s_w_78 : PS, s_w_78 = (us s_w_72 0 6 0) ∧ (∃ s_w_79 : PS, s_w_79 = (us s_w_78 0 7 0) ∧ (∃ s_w_80 : PS, s_w_80 = (us s_w_79 0 3 3) ∧ (∃ s_w_81 : PS, s_w_81 = (us s_w_80 0 5 (x41_1 + 1)) ∧ ((¬ (r_46 = 0)) ∧ ((¬ (r_46 = 0)) ∧ (∃ s_w_84 : PS, s_w_84 = (us s_w_81 0 3 1) ∧ ((¬ (r_46 = 0)) ∧ (K 200 x41_1 r_46 r_51 8 0 s_w_84 rr ss)))))))))))))))))))))))))))))))))))))) ∨ (¬ (x41_1 < (s_w41 0 2)) ∧ (rr = 0 ∧ ss = s_w_42))))))))
def T_X12_looks_200 (K : Nat → Int → Int → Int → Int → Int → PS → Int → PS → Prop) (x200_1 x200_2 x200_3 x200_4 x200_5 : Int) (s_w200 : PS) (rr : Int) (ss : PS) : Prop := ((TyM s_w200) ∧ ((0 ≤ x200_1 ∧ x200_1 ≤ 1000) ∧ ((0 ≤ x200_2 ∧ x200_2 ≤ 1) ∧ ((0 ≤ x200_3 ∧ x200_3 ≤ 1) ∧ ((4 ≤ x200_4 ∧ x200_4 ≤ 8) ∧ (((s_w200 0 2) ≤ x200_1 ∧ (∃ s_w_22 : PS, s_w_22 = (us s_w200 0 5 x200_1) ∧ (rr = 0 ∧ ss = s_w_22))) ∨ (¬ ((s_w200 0 2) ≤ x200_1) ∧ ((x200_2 = 0 ∧ (∃ r_26 : Int, (∃ s_w_25 : PS, ((M_X12_isDigit s_w200 (s_w200 1 x200_1.toNat) r_26 s_w_25) ∧ ((Fr intsM [] [] s_w200 s_w_25) ∧ ((TyM s_w_25) ∧ ((0 ≤ r_26 ∧ r_26 ≤ 1) ∧ ((r_26 = 0 ∧ (∃ s_w_31 : PS, s_w_31 = (us s_w_25 0 5 x200_1) ∧ (rr = 0 ∧ ss = s_w_31))) ∨ (¬ (r_26 = 0) ∧ (K 239 x200_1 x200_2 x200_3 x200_4 x200_5 s_w_25 rr ss)))))))))) ∨ (¬ (x200_2 = 0) ∧ (∃ r_34 : Int, (∃ s_w_33 : PS, ((M_X12_isLetter s_w200 (s_w200 1 x200_1.toNat) r_34 s_w_33) ∧ ((Fr intsM [] [] s_w200 s_w_33) ∧ ((TyM s_w_33) ∧ ((0 ≤ r_34 ∧ r_34 ≤ 1) ∧ ((r_34 = 0 ∧ (∃ s_w_39 : PS, s_w_39 = (us s_w_33 0 5 x200_1) ∧ (rr = 0 ∧ ss = s_w_39))) ∨ (¬ (r_34 = 0) ∧ (K 239 x200_1 x200_2 x200_3 x200_4 x200_5 s_w_33 rr ss))))))))))))))))))
def T_X12_looks_239 (K : Nat → Int → Int → Int → Int → Int → PS → Int → PS → Prop) (x239_1 x239_2 x239_3 x239_4 x239_5 : Int) (s_w239 : PS) (rr : Int) (ss : PS) : Prop := ((TyM s_w239) ∧ ((0 ≤ x239_1 ∧ x239_1 ≤ 999) ∧ ((0 ≤ x239_2 ∧ x239_2 ≤ 1) ∧ ((0 ≤ x239_3 ∧ x239_3 ≤ 1) ∧ ((4 ≤ x239_4 ∧ x239_4 ≤ 8) ∧ ((x239_5 = x239_4 ∧ (∃ s_w_15 : PS, ((M_X12_blame s_w239 1 x239_1 0 s_w_15) ∧ ((Fr intsM [0] [(0, 8), (0, 9)] s_w239 s_w_15) ∧ ((TyM s_w_15) ∧ (K 252 x239_1 x239_2 x239_3 x239_4 x239_5 s_w_15 rr ss)))))) ∨ (¬ (x239_5 = x239_4) ∧ (K 252 x239_1 x239_2 x239_3 x239_4 x239_5 s_w239 rr ss))))))))
def T_X12_looks_252 (K : Nat → Int → Int → Int → Int → Int → PS → Int → PS → Prop) (x252_1 x252_2 x252_3 x252_4 x252_5 : Int) (s_w252 : PS) (rr : Int) (ss : PS) : Prop := ((TyM s_w252) ∧ ((0 ≤ x252_1 ∧ x252_1 ≤ 999) ∧ ((0 ≤ x252_2 ∧ x252_2 ≤ 1) ∧ ((0 ≤ x252_3 ∧ x252_3 ≤ 1) ∧ ((4 ≤ x252_4 ∧ x252_4 ≤ 8) ∧ ((x252_4 ≤ x252_5 ∧ (K 282 x252_1 x252_2 x252_3 x252_4 x252_5 s_w252 rr ss)) ∨ (¬ (x252_4 ≤ x252_5) ∧ ((x252_2 = 0 ∧ (K 282 x252_1 x252_2 x252_3 x252_4 x252_5 s_w252 rr ss)) ∨ (¬ (x252_2 = 0) ∧ (∃ s_w_13 : PS, s_w_13 = (us s_w252 0 7 (lOr (lShl (s_w252 0 7) 8) (s_w252 1 x252_1.toNat))) ∧ (K 282 x252_1 x252_2 x252_3 x252_4 x252_5 s_w_13 rr ss)))))))))))
def T_X12_looks_282 (K : Nat → Int → Int → Int → Int → Int → PS → Int → PS → Prop) (x282_1 x282_2 x282_3 x282_4 x282_5 : Int) (s_w282 : PS) (rr : Int) (ss : PS) : Prop := ((TyM s_w282) ∧ ((0 ≤ x282_1 ∧ x282_1 ≤ 999) ∧ ((0 ≤ x282_2 ∧ x282_2 ≤ 1) ∧ ((0 ≤ x282_3 ∧ x282_3 ≤ 1) ∧ ((4 ≤ x282_4 ∧ x282_4 ≤ 8) ∧ ((x282_4 ≤ x282_5 ∧ (K 314 x282_1 x282_2 x282_3 x282_4 x282_5 s_w282 rr ss)) ∨ (¬ (x282_4 ≤ x282_5) ∧ ((x282_3 = 0 ∧ (K 314 x282_1 x282_2 x282_3 x282_4 x282_5 s_w282 rr ss)) ∨ (¬ (x282_3 = 0) ∧ (∃ s_w_6 : PS, s_w_6 = (us s_w282 0 6 (wi ((wi ((wi (10 * (s_w282 0 6))) + (s_w282 1 x282_1.toNat))) - 48))) ∧ (K 314 x282_1 x282_2 x282_3 x282_4 x282_5 s_w_6 rr ss)))))))))))
def T_X12_looks_314 (K : Nat → Int → Int → Int → Int → Int → PS → Int → PS → Prop) (x314_1 x314_2 x314_3 x314_4 x314_5 : Int) (s_w314 : PS) (rr : Int) (ss : PS) : Prop := ((TyM s_w314) ∧ ((0 ≤ x314_1 ∧ x314_1 ≤ 999) ∧ ((0 ≤ x314_2 ∧ x314_2 ≤ 1) ∧ ((0 ≤ x314_3 ∧ x314_3 ≤ 1) ∧ ((4 ≤ x314_4 ∧ x314_4 ≤ 8) ∧ (K 200 (x314_1 + 1) x314_2 x314_3 x314_4 (wi (x314_5 + 1)) s_w314 rr ss))))))
def T_X12_looks_e (K : Nat → Int → Int → Int → Int → Int → PS → Int → PS → Prop) (s_w : PS) (rr : Int) (ss : PS) : Prop := ((TyM s_w) ∧ (K 5 (s_w 0 5) 0 0 0 0 s_w rr ss))
def It_X12_looks : Nat → Nat → Int → Int → Int → Int → Int → PS → Int → PS → Prop
  | 0, _, _, _, _, _, _, _, _, _ => False
  | n + 1, pc, a0, a1, a2, a3, a4, s, r, t => (pc = 5 ∧ T_X12_looks_5 (It_X12_looks n) a0 s r t) ∨ (pc = 35 ∧ T_X12_looks_35 (It_X12_looks n) a0 s r t) ∨ (pc = 41 ∧ T_X12_looks_41 (It_X12_looks n) a0 s r t) ∨ (pc = 200 ∧ T_X12_looks_200 (It_X12_looks n) a0 a1 a2 a3 a4 s r t) ∨ (pc = 239 ∧ T_X12_looks_239 (It_X12_looks n) a0 a1 a2 a3 a4 s r t) ∨ (pc = 252 ∧ T_X12_looks_252 (It_X12_looks n) a0 a1 a2 a3 a4 s r t) ∨ (pc = 282 ∧ T_X12_looks_282 (It_X12_looks n) a0 a1 a2 a3 a4 s r t) ∨ (pc = 314 ∧ T_X12_looks_314 (It_X12_looks n) a0 a1 a2 a3 a4 s r t)
theorem rl_X12_looks_5 {n : Nat} {a0 : Int} {s t : PS} {r : Int} (h : T_X12_looks_5 (It_X12_looks n) a0 s r t) : It_X12_looks (n + 1) 5 a0 0 0 0 0 s r t := Or.inl ⟨rfl, h⟩
theorem rl_X12_looks_35 {n : Nat} {a0 : Int} {s t : PS} {r : Int} (h : T_X12_looks_35 (It_X12_looks n) a0 s r t) : It_X12_looks (n + 1) 35 a0 0 0 0 0 s r t := Or.inr (Or.inl ⟨rfl, h⟩)
theorem rl_X12_looks_41 {n : Nat} {a0 : Int} {s t : PS} {r : Int} (h : T_X12_looks_41 (It_X12_looks n) a0 s r t) : It_X12_looks (n + 1) 41 a0 0 0 0 0 s r t := Or.inr (Or.inr (Or.inl ⟨rfl, h⟩))
theorem rl_X12_looks_200 {n : Nat} {a0 a1 a2 a3 a4 : Int} {s t : PS} {r : Int} (h : T_X12_looks_200 (It_X12_looks n) a0 a1 a2 a3 a4 s r t) : It_X12_looks (n + 1) 200 a0 a1 a2 a3 a4 s r t := Or.inr (Or.inr (Or.inr (Or.inl ⟨rfl, h⟩)))
theorem rl_X12_looks_239 {n : Nat} {a0 a1 a2 a3 a4 : Int} {s t : PS} {r : Int} (h : T_X12_looks_239 (It_X12_looks n) a0 a1 a2 a3 a4 s r t) : It_X12_looks (n + 1) 239 a0 a1 a2 a3 a4 s r t := Or.inr (Or.inr (Or.inr (Or.inr (Or.inl ⟨rfl, h⟩))))
theorem rl_X12_looks_252 {n : Nat} {a0 a1 a2 a3 a4 : Int} {s t : PS} {r : Int} (h : T_X12_looks_252 (It_X12_looks n) a0 a1 a2 a3 a4 s r t) : It_X12_looks (n + 1) 252 a0 a1 a2 a3 a4 s r t := Or.inr (Or.inr (Or.inr (Or.inr (Or.inr (Or.inl ⟨rfl, h⟩)))))
theorem rl_X12_looks_282 {n : Nat} {a0 a1 a2 a3 a4 : Int} {s t : PS} {r : Int} (h : T_X12_looks_282 (It_X12_looks n) a0 a1 a2 a3 a4 s r t) : It_X12_looks (n + 1) 282 a0 a1 a2 a3 a4 s r t := Or.inr (Or.inr (Or.inr (Or.inr (Or.inr (Or.inr (Or.inl ⟨rfl, h⟩))))))
theorem rl_X12_looks_314 {n : Nat} {a0 a1 a2 a3 a4 : Int} {s t : PS} {r : Int} (h : T_X12_looks_314 (It_X12_looks n) a0 a1 a2 a3 a4 s r t) : It_X12_looks (n + 1) 314 a0 a1 a2 a3 a4 s r t := Or.inr (Or.inr (Or.inr (Or.inr (Or.inr (Or.inr (Or.inr (⟨rfl, h⟩)))))))
theorem ul_X12_looks_5 {n : Nat} {a0 a1 a2 a3 a4 : Int} {s t : PS} {r : Int} (h : It_X12_looks (n + 1) 5 a0 a1 a2 a3 a4 s r t) : T_X12_looks_5 (It_X12_looks n) a0 s r t := by
  have h2 : ((5 : Nat) = 5 ∧ T_X12_looks_5 (It_X12_looks n) a0 s r t) ∨ ((5 : Nat) = 35 ∧ T_X12_looks_35 (It_X12_looks n) a0 s r t) ∨ ((5 : Nat) = 41 ∧ T_X12_looks_41 (It_X12_looks n) a0 s r t) ∨ ((5 : Nat) = 200 ∧ T_X12_looks_200 (It_X12_looks n) a0 a1 a2 a3 a4 s r t) ∨ ((5 : Nat) = 239 ∧ T_X12_looks_239 (It_X12_looks n) a0 a1 a2 a3 a4 s r t) ∨ ((5 : Nat) = 252 ∧ T_X12_looks_252 (It_X12_looks n) a0 a1 a2 a3 a4 s r t) ∨ ((5 : Nat) = 282 ∧ T_X12_looks_282 (It_X12_looks n) a0 a1 a2 a3 a4 s r t) ∨ ((5 : Nat) = 314 ∧ T_X12_looks_314 (It_X12_looks n) a0 a1 a2 a3 a4 s r t) := h
  rcases h2 with ⟨e, h2⟩ | ⟨e, h2⟩ | ⟨e, h2⟩ | ⟨e, h2⟩ | ⟨e, h2⟩ | ⟨e, h2⟩ | ⟨e, h2⟩ | ⟨e, h2⟩
  · exact h2
  · exact absurd e (by decide)
  · exact absurd e (by decide)
  · exact absurd e (by decide)
  · exact absurd e (by decide)
  · exact absurd e (by decide)
  · exact absurd e (by decide)
  · exact absurd e (by decide)
theorem ul_X12_looks_35 {n : Nat} {a0 a1 a2 a3 a4 : Int} {s t : PS} {r : Int} (h : It_X12_looks (n + 1) 35 a0 a1 a2 a3 a4 s r t) : T_X12_looks_35 (It_X12_looks n) a0 s r t := by
  have h2 : ((35 : Nat) = 5 ∧ T_X12_looks_5 (It_X12_looks n) a0 s r t) ∨ ((35 : Nat) = 35 ∧ T_X12_looks_35 (It_X12_looks n) a0 s r t) ∨ ((35 : Nat) = 41 ∧ T_X12_looks_41 (It_X12_looks n) a0 s r t) ∨ ((35 : Nat) = 200 ∧ T_X12_looks_200 (It_X12_looks n) a0 a1 a2 a3 a4 s r t) ∨ ((35 : Nat) = 239 ∧ T_X12_looks_239 (It_X12_looks n) a0 a1 a2 a3 a4 s r t) ∨ ((35 : Nat) = 252 ∧ T_X12_looks_252 (It_X12_looks n) a0 a1 a2 a3 a4 s r t) ∨ ((35 : Nat) = 282 ∧ T_X12_looks_282 (It_X12_looks n) a0 a1 a2 a3 a4 s r t) ∨ ((35 : Nat) = 314 ∧ T_X12_looks_314 (It_X12_looks n) a0 a1 a2 a3 a4 s r t) := h
  rcases h2 with ⟨e, h2⟩ | ⟨e, h2⟩ | ⟨e, h2⟩ | ⟨e, h2⟩ | ⟨e, h2⟩ | ⟨e, h2⟩ | ⟨e, h2⟩ | ⟨e, h2⟩
  · exact absurd e (by decide)
  · exact h2
  · exact absurd e (by decide)
  · exact absurd e (by decide)
  · exact absurd e (by decide)
  · exact absurd e (by decide)
  · exact absurd e (by decide)
  · exact absurd e (by decide)
theorem ul_X12_looks_41 {n : Nat} {a0 a1 a2 a3 a4 : Int} {s t : PS} {r : Int} (h : It_X12_looks (n + 1) 41 a0 a1 a2 a3 a4 s r t) : T_X12_looks_41 (It_X12_looks n) a0 s r t := by
  have h2 : ((41 : Nat) = 5 ∧ T_X12_looks_5 (It_X12_looks n) a0 s r t) ∨ ((41 : Nat) = 35 ∧ T_X12_looks_35 (It_X12_looks n) a0 s r t) ∨ ((41 : Nat) = 41 ∧ T_X12_looks_41 (It_X12_looks n) a0 s r t) ∨ ((41 : Nat) = 200 ∧ T_X12_looks_200 (It_X12_looks n) a0 a1 a2 a3 a4 s r t) ∨ ((41 : Nat) = 239 ∧ T_X12_looks_239 (It_X12_looks n) a0 a1 a2 a3 a4 s r t) ∨ ((41 : Nat) = 252 ∧ T_X12_looks_252 (It_X12_looks n) a0 a1 a2 a3 a4 s r t) ∨ ((41 : Nat) = 282 ∧ T_X12_looks_282 (It_X12_looks n) a0 a1 a2 a3 a4 s r t) ∨ ((41 : Nat) = 314 ∧ T_X12_looks_314 (It_X12_looks n) a0 a1 a2 a3 a4 s r t) := h
  rcases h2 with ⟨e, h2⟩ | ⟨e, h2⟩ | ⟨e, h2⟩ | ⟨e, h2⟩ | ⟨e, h2⟩ | ⟨e, h2⟩ | ⟨e, h2⟩ | ⟨e, h2⟩
  · exact absurd e (by decide)
  · exact absurd e (by decide)
  · exact h2
  · exact absurd e (by decide)
  · exact absurd e (by decide)
  · exact absurd e (by decide)
  · exact absurd e (by decide)
  · exact absurd e (by decide)
theorem ul_X12_looks_200 {n : Nat} {a0 a1 a2 a3 a4 : Int} {s t : PS} {r : Int} (h : It_X12_looks (n + 1) 200 a0 a1 a2 a3 a4 s r t) : T_X12_looks_200 (It_X12_looks n) a0 a1 a2 a3 a4 s r t := by
  have h2 : ((200 : Nat) = 5 ∧ T_X12_looks_5 (It_X12_looks n) a0 s r t) ∨ ((200 : Nat) = 35 ∧ T_X12_looks_35 (It_X12_looks n) a0 s r t) ∨ ((200 : Nat) = 41 ∧ T_X12_looks_41 (It_X12_looks n) a0 s r t) ∨ ((200 : Nat) = 200 ∧ T_X12_looks_200 (It_X12_looks n) a0 a1 a2 a3 a4 s r t) ∨ ((200 : Nat) = 239 ∧ T_X12_looks_239 (It_X12_looks n) a0 a1 a2 a3 a4 s r t) ∨ ((200 : Nat) = 252 ∧ T_X12_looks_252 (It_X12_looks n) a0 a1 a2 a3 a4 s r t) ∨ ((200 : Nat) = 282 ∧ T_X12_looks_282 (It_X12_looks n) a0 a1 a2 a3 a4 s r t) ∨ ((200 : Nat) = 314 ∧ T_X12_looks_314 (It_X12_looks n) a0 a1 a2 a3 a4 s r t) := h
  rcases h2 with ⟨e, h2⟩ | ⟨e, h2⟩ | ⟨e, h2⟩ | ⟨e, h2⟩ | ⟨e, h2⟩ | ⟨e, h2⟩ | ⟨e, h2⟩ | ⟨e, h2⟩
  · exact absurd e (by decide)
  · exact absurd e (by decide)
  · exact absurd e (by decide)
  · exact h2
  · exact absurd e (by decide)
  · exact absurd e (by decide)
  · exact absurd e (by decide)
  · exact absurd e (by decide)
theorem ul_X12_looks_239 {n : Nat} {a0 a1 a2 a3 a4 : Int} {s t : PS} {r : Int} (h : It_X12_looks (n + 1) 239 a0 a1 a2 a3 a4 s r t) : T_X12_looks_239 (It_X12_looks n) a0 a1 a2 a3 a4 s r t := by
  have h2 : ((239 : Nat) = 5 ∧ T_X12_looks_5 (It_X12_looks n) a0 s r t) ∨ ((239 : Nat) = 35 ∧ T_X12_looks_35 (It_X12_looks n) a0 s r t) ∨ ((239 : Nat) = 41 ∧ T_X12_looks_41 (It_X12_looks n) a0 s r t) ∨ ((239 : Nat) = 200 ∧ T_X12_looks_200 (It_X12_looks n) a0 a1 a2 a3 a4 s r t) ∨ ((239 : Nat) = 239 ∧ T_X12_looks_239 (It_X12_looks n) a0 a1 a2 a3 a4 s r t) ∨ ((239 : Nat) = 252 ∧ T_X12_looks_252 (It_X12_looks n) a0 a1 a2 a3 a4 s r t) ∨ ((239 : Nat) = 282 ∧ T_X12_looks_282 (It_X12_looks n) a0 a1 a2 a3 a4 s r t) ∨ ((239 : Nat) = 314 ∧ T_X12_looks_314 (It_X12_looks n) a0 a1 a2 a3 a4 s r t) := h
  rcases h2 with ⟨e, h2⟩ | ⟨e, h2⟩ | ⟨e, h2⟩ | ⟨e, h2⟩ | ⟨e, h2⟩ | ⟨e, h2⟩ | ⟨e, h2⟩ | ⟨e, h2⟩
  · exact absurd e (by decide)
  · exact absurd e (by decide)
  · exact absurd e (by decide)
  · exact absurd e (by decide)
  · exact h2
  · exact absurd e (by decide)
  · exact absurd e (by decide)
  · exact absurd e (by decide)
theorem ul_X12_looks_252 {n : Nat} {a0 a1 a2 a3 a4 : Int} {s t : PS} {r : Int} (h : It_X12_looks (n + 1) 252 a0 a1 a2 a3 a4 s r t) : T_X12_looks_252 (It_X12_looks n) a0 a1 a2 a3 a4 s r t := by
  have h2 : ((252 : Nat) = 5 ∧ T_X12_looks_5 (It_X12_looks n) a0 s r t) ∨ ((252 : Nat) = 35 ∧ T_X12_looks_35 (It_X12_looks n) a0 s r t) ∨ ((252 : Nat) = 41 ∧ T_X12_looks_41 (It_X12_looks n) a0 s r t) ∨ ((252 : Nat) = 200 ∧ T_X12_looks_200 (It_X12_looks n) a0 a1 a2 a3 a4 s r t) ∨ ((252 : Nat) = 239 ∧ T_X12_looks_239 (It_X12_looks n) a0 a1 a2 a3 a4 s r t) ∨ ((252 : Nat) = 252 ∧ T_X12_looks_252 (It_X12_looks n) a0 a1 a2 a3 a4 s r t) ∨ ((252 : Nat) = 282 ∧ T_X12_looks_282 (It_X12_looks n) a0 a1 a2 a3 a4 s r t) ∨ ((252 : Nat) = 314 ∧ T_X12_looks_314 (It_X12_looks n) a0 a1 a2 a3 a4 s r t) := h
  rcases h2 with ⟨e, h2⟩ | ⟨e, h2⟩ | ⟨e, h2⟩ | ⟨e, h2⟩ | ⟨e, h2⟩ | ⟨e, h2⟩ | ⟨e, h2⟩ | ⟨e, h2⟩
  · exact absurd e (by decide)
  · exact absurd e (by decide)
  · exact absurd e (by decide)
  · exact absurd e (by decide)
  · exact absurd e (by decide)
  · exact h2
  · exact absurd e (by decide)
  · exact absurd e (by decide)
theorem ul_X12_looks_282 {n : Nat} {a0 a1 a2 a3 a4 : Int} {s t : PS} {r : Int} (h : It_X12_looks (n + 1) 282 a0 a1 a2 a3 a4 s r t) : T_X12_looks_282 (It_X12_looks n) a0 a1 a2 a3 a4 s r t := by
  have h2 : ((282 : Nat) = 5 ∧ T_X12_looks_5 (It_X12_looks n) a0 s r t) ∨ ((282 : Nat) = 35 ∧ T_X12_looks_35 (It_X12_looks n) a0 s r t) ∨ ((282 : Nat) = 41 ∧ T_X12_looks_41 (It_X12_looks n) a0 s r t) ∨ ((282 : Nat) = 200 ∧ T_X12_looks_200 (It_X12_looks n) a0 a1 a2 a3 a4 s r t) ∨ ((282 : Nat) = 239 ∧ T_X12_looks_239 (It_X12_looks n) a0 a1 a2 a3 a4 s r t) ∨ ((282 : Nat) = 252 ∧ T_X12_looks_252 (It_X12_looks n) a0 a1 a2 a3 a4 s r t) ∨ ((282 : Nat) = 282 ∧ T_X12_looks_282 (It_X12_looks n) a0 a1 a2 a3 a4 s r t) ∨ ((282 : Nat) = 314 ∧ T_X12_looks_314 (It_X12_looks n) a0 a1 a2 a3 a4 s r t) := h
  rcases h2 with ⟨e, h2⟩ | ⟨e, h2⟩ | ⟨e, h2⟩ | ⟨e, h2⟩ | ⟨e, h2⟩ | ⟨e, h2⟩ | ⟨e, h2⟩ | ⟨e, h2⟩
  · exact absurd e (by decide)
  · exact absurd e (by decide)
  · exact absurd e (by decide)
  · exact absurd e (by decide)
  · exact absurd e (by decide)
  · exact absurd e (by decide)
  · exact h2
  · exact absurd e (by decide)
theorem ul_X12_looks_314 {n : Nat} {a0 a1 a2 a3 a4 : Int} {s t : PS} {r : Int} (h : It_X12_looks (n + 1) 314 a0 a1 a2 a3 a4 s r t) : T_X12_looks_314 (It_X12_looks n) a0 a1 a2 a3 a4 s r t := by
  have h2 : ((314 : Nat) = 5 ∧ T_X12_looks_5 (It_X12_looks n) a0 s r t) ∨ ((314 : Nat) = 35 ∧ T_X12_looks_35 (It_X12_looks n) a0 s r t) ∨ ((314 : Nat) = 41 ∧ T_X12_looks_41 (It_X12_looks n) a0 s r t) ∨ ((314 : Nat) = 200 ∧ T_X12_looks_200 (It_X12_looks n) a0 a1 a2 a3 a4 s r t) ∨ ((314 : Nat) = 239 ∧ T_X12_looks_239 (It_X12_looks n) a0 a1 a2 a3 a4 s r t) ∨ ((314 : Nat) = 252 ∧ T_X12_looks_252 (It_X12_looks n) a0 a1 a2 a3 a4 s r t) ∨ ((314 : Nat) = 282 ∧ T_X12_looks_282 (It_X12_looks n) a0 a1 a2 a3 a4 s r t) ∨ ((314 : Nat) = 314 ∧ T_X12_looks_314 (It_X12_looks n) a0 a1 a2 a3 a4 s r t) := h
  rcases h2 with ⟨e, h2⟩ | ⟨e, h2⟩ | ⟨e, h2⟩ | ⟨e, h2⟩ | ⟨e, h2⟩ | ⟨e, h2⟩ | ⟨e, h2⟩ | ⟨e, h2⟩
  · exact absurd e (by decide)
  · exact absurd e (by decide)
  · exact absurd e (by decide)
  · exact absurd e (by decide)
  · exact absurd e (by decide)
  · exact absurd e (by decide)
  · exact absurd e (by decide)
  · exact h2
def M_X12_looks (s : PS) (r : Int) (t : PS) : Prop := ∃ n, T_X12_looks_e (It_X12_looks n) s r t
theorem mk_X12_looks {n : Nat} {s t : PS} {r : Int} (h : T_X12_looks_e (It_X12_looks n) s r t) : M_X12_looks s r t := ⟨n, h⟩
def T_X12_starts_e (s_w : PS) (rr : Int) (ss : PS) : Prop := ((TyM s_w) ∧ (∃ s_w_1 : PS, s_w_1 = (us s_w 0 2 (s_w 0 1)) ∧ (∃ s_w_2 : PS, s_w_2 = (us s_w_1 0 1 0) ∧ (∃ s_w_3 : PS, s_w_3 = (us s_w_2 0 5 0) ∧ (∃ s_w_4 : PS, s_w_4 = (us s_w_3 0 8 0) ∧ (∃ s_w_5 : PS, s_w_5 = (us s_w_4 0 9 (-1)) ∧ (∃ s_w_6 : PS, ((M_X12_looks s_w_5 0 s_w_6) ∧ ((Fr intsM [0] [(0, 3), (0, 4), (0, 5), (0, 6), (0, 7), (0, 8), (0, 9)] s_w_5 s_w_6) ∧ ((TyM s_w_6) ∧ (rr = 0 ∧ ss = s_w_6)))))))))))
def M_X12_starts (s : PS) (r : Int) (t : PS) : Prop := T_X12_starts_e s r t
theorem mk_X12_starts {s t : PS} {r : Int} (h : T_X12_starts_e s r t) : M_X12_starts s r t := h
def T_X12_isWord_e (s_w : PS) (p1 : Int) (rr : Int) (ss : PS) : Prop := ((TyM s_w) ∧ (((s_w 0 3) = 1 ∧ (((s_w 0 7) = p1 ∧ (rr = 1 ∧ ss = s_w)) ∨ (¬ ((s_w 0 7) = p1) ∧ (rr = 0 ∧ ss = s_w)))) ∨ (¬ ((s_w 0 3) = 1) ∧ (rr = 0 ∧ ss = s_w))))
def M_X12_isWord (s : PS) (p1 : Int) (r : Int) (t : PS) : Prop := T_X12_isWord_e s p1 r t
theorem mk_X12_isWord {s t : PS} {p1 : Int} {r : Int} (h : T_X12_isWord_e s p1 r t) : M_X12_isWord s p1 r t := h
def T_X12_findKind_2 (K : Int → Int → PS → Int → PS → Prop) (x2_1 x2_3 : Int) (s_w2 : PS) (rr : Int) (ss : PS) : Prop := ((TyM s_w2) ∧ ((0 ≤ x2_3 ∧ x2_3 ≤ 10) ∧ (((s_w2 2 (s_w2 0 13).toNat) ≤ x2_3 ∧ (rr = (-1) ∧ ss = s_w2)) ∨ (¬ ((s_w2 2 (s_w2 0 13).toNat) ≤ x2_3) ∧ (((s_w2 6 ((10 * (s_w2 0 13)) + x2_3).toNat) = x2_1 ∧ (rr = x2_3 ∧ ss = s_w2)) ∨ (¬ ((s_w2 6 ((10 * (s_w2 0 13)) + x2_3).toNat) = x2_1) ∧ (K x2_1 (x2_3 + 1) s_w2 rr ss)))))))
def T_X12_findKind_e (K : Int → Int → PS → Int → PS → Prop) (s_w : PS) (p1 : Int) (rr : Int) (ss : PS) : Prop := ((TyM s_w) ∧ (K p1 0 s_w rr ss))
def It_X12_findKind : Nat → Int → Int → PS → Int → PS → Prop
  | 0, _, _, _, _, _ => False
  | n + 1, a0, a1, s, r, t => T_X12_findKind_2 (It_X12_findKind n) a0 a1 s r t
theorem rl_X12_findKind_2 {n : Nat} {a0 a1 : Int} {s t : PS} {r : Int} (h : T_X12_findKind_2 (It_X12_findKind n) a0 a1 s r t) : It_X12_findKind (n + 1) a0 a1 s r t := h
theorem ul_X12_findKind_2 {n : Nat} {a0 a1 : Int} {s t : PS} {r : Int} (h : It_X12_findKind (n + 1) a0 a1 s r t) : T_X12_findKind_2 (It_X12_findKind n) a0 a1 s r t := h
def M_X12_findKind (s : PS) (p1 : Int) (r : Int) (t : PS) : Prop := ∃ n, T_X12_findKind_e (It_X12_findKind n) s p1 r t
theorem mk_X12_findKind {n : Nat} {s t : PS} {p1 : Int} {r : Int} (h : T_X12_findKind_e (It_X12_findKind n) s p1 r t) : M_X12_findKind s p1 r t := ⟨n, h⟩
def T_X12_findMark_2 (K : Int → Int → PS → Int → PS → Prop) (x2_1 x2_3 : Int) (s_w2 : PS) (rr : Int) (ss : PS) : Prop := ((TyM s_w2) ∧ ((0 ≤ x2_3 ∧ x2_3 ≤ 8) ∧ (((s_w2 3 (s_w2 0 13).toNat) ≤ x2_3 ∧ (rr = (-1) ∧ ss = s_w2)) ∨ (¬ ((s_w2 3 (s_w2 0 13).toNat) ≤ x2_3) ∧ (((s_w2 7 ((8 * (s_w2 0 13)) + x2_3).toNat) = x2_1 ∧ (rr = x2_3 ∧ ss = s_w2)) ∨ (¬ ((s_w2 7 ((8 * (s_w2 0 13)) + x2_3).toNat) = x2_1) ∧ (K x2_1 (x2_3 + 1) s_w2 rr ss)))))))
def T_X12_findMark_e (K : Int → Int → PS → Int → PS → Prop) (s_w : PS) (p1 : Int) (rr : Int) (ss : PS) : Prop := ((TyM s_w) ∧ (K p1 0 s_w rr ss))
def It_X12_findMark : Nat → Int → Int → PS → Int → PS → Prop
  | 0, _, _, _, _, _ => False
  | n + 1, a0, a1, s, r, t => T_X12_findMark_2 (It_X12_findMark n) a0 a1 s r t
theorem rl_X12_findMark_2 {n : Nat} {a0 a1 : Int} {s t : PS} {r : Int} (h : T_X12_findMark_2 (It_X12_findMark n) a0 a1 s r t) : It_X12_findMark (n + 1) a0 a1 s r t := h
theorem ul_X12_findMark_2 {n : Nat} {a0 a1 : Int} {s t : PS} {r : Int} (h : It_X12_findMark (n + 1) a0 a1 s r t) : T_X12_findMark_2 (It_X12_findMark n) a0 a1 s r t := h
def M_X12_findMark (s : PS) (p1 : Int) (r : Int) (t : PS) : Prop := ∃ n, T_X12_findMark_e (It_X12_findMark n) s p1 r t
theorem mk_X12_findMark {n : Nat} {s t : PS} {p1 : Int} {r : Int} (h : T_X12_findMark_e (It_X12_findMark n) s p1 r t) : M_X12_findMark s p1 r t := ⟨n, h⟩
