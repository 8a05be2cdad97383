set_option maxRecDepth 100000 in
set_option maxHeartbeats 8000000 in
theorem k_X12_knows (l : Launch) (D : va_G) (cI cJ cZ : ClassId) (q : Nat → Nat) (w : va_W) (hW_w : HT q (TM q cI cJ cZ) w) (hLM : LM w) : Con_v l yX12_knows cX12_knows 4 none ({ frames := 2, cells := 0, slots := 0, locals := 50 }) D cI cJ cZ eW [.ref (q 0)] w (fun (w1 : va_W) => HT q (TM q cI cJ cZ) w1 ∧ Sm [0, 26, 27, 28, 29, 30, 31, 32, 33, 34, 35, 36] [(0, 45)] w w1) := by
  refine eQ_v rfl (by decide) (Nat.le_of_ble_eq_true rfl) ⟨rfl, rfl⟩ ?_
  intro p e R s m args below meth c A Q hx hb hml hown hts hK hE hA hR hret hP hD hS ls hl
  have hown : s.vm.findClass RX12 = some m.cls := hown
  have hl : lv_has ls 4 [(0, .ref (q 0))] := hl
  have J7 : ∀ (N : Nat) (x7_1 : Int32) (w7 : va_W) (H : Heap) (locs : List Loc) (ls : Array Slot), (201 - x7_1.toInt).toNat < N → HT q (TM q cI cJ cZ) w7 → Sm [0, 26, 27, 28, 29, 30, 31, 32, 33, 34, 35, 36] [(0, 45)] w w7 → (In 1 201 x7_1) → va_P D vwCl w7 H → va_D A w7 → va_S A s.heap H locs → lv_has ls 4 [(0, .ref (q 0)), (1, .int x7_1)] → W p l e R s m args below meth c H locs 0 0 Q (F0 m 7 ls []) := by
    intro N
    induction N with
    | zero => intro x7_1 w7 H locs ls hmu; exact absurd hmu (Nat.not_lt_zero _)
    | succ N ih7 =>
      intro x7_1 w7 H locs ls hmu7 hW_w7 hM_w7 i_x7_1 hP hD hS hl
      have J46 : ∀ (N : Nat) (x46_2 : Int32) (x46_3 : Int32) (w46 : va_W) (H : Heap) (locs : List Loc) (ls : Array Slot), (40 - x46_3.toInt).toNat < N → HT q (TM q cI cJ cZ) w46 → Sm [0, 26, 27, 28, 29, 30, 31, 32, 33, 34, 35, 36] [(0, 45)] w w46 → (In 1 200 x7_1) → (In (-1) 39 x46_2) → (In 0 40 x46_3) → (In 1 200 (fI w46 0 37)) → (aF w 21 x7_1.toNatClampNeg = 0) → va_P D vwCl w46 H → va_D A w46 → va_S A s.heap H locs → lv_has ls 4 [(0, .ref (q 0)), (1, .int x7_1), (2, .int x46_2), (3, .int x46_3)] → W p l e R s m args below meth c H locs 0 0 Q (F0 m 46 ls []) := by
        intro N
        induction N with
        | zero => intro x46_2 x46_3 w46 H locs ls hmu; exact absurd hmu (Nat.not_lt_zero _)
        | succ N ih46 =>
          intro x46_2 x46_3 w46 H locs ls hmu46 hW_w46 hM_w46 i_x46_1 i_x46_2 i_x46_3 g46_0_37 hz_46 hP hD hS hl
          refine lv_iload_n hx hb dX12_knows_46 rfl (lv_at hl 3 rfl) ?_
          refine lv_aload_n hx hb dX12_knows_47 rfl (lv_at hl 0 rfl) ?_
          refine gt_X12 hx hb hts hown hK hP 0 (hW_w46.o tM_0) 45 (by decide) wd_1446 rfl (hW_w46.fi tM_0 rfl) dX12_knows_48 ?_
          refine lv_icmp_ge (tgt := 94) hx hb dX12_knows_51 (by decide) (fun c_1 => ?_) (fun c_1 => ?_)
          · refine lv_iload_n hx hb dX12_knows_94 rfl (lv_at hl 2 rfl) ?_
            refine lv_iconst (v := (-1)) hx hb dX12_knows_95 (by decide) ?_
            refine lv_icmp_ne (tgt := 111) hx hb dX12_knows_96 (by decide) (fun c_2 => ?_) (fun c_2 => ?_)
            · refine lv_iload_n hx hb dX12_knows_111 rfl (lv_at hl 2 rfl) ?_
              refine lv_iconst (v := (-1)) hx hb dX12_knows_112 (by decide) ?_
              refine lv_icmp_ne (tgt := 191) hx hb dX12_knows_113 (by decide) (fun c_3 => ?_) (fun c_3 => ?_)
              · refine lv_aload_n hx hb dX12_knows_191 rfl (lv_at hl 0 rfl) ?_
                refine lv_iload_n hx hb dX12_knows_192 rfl (lv_at hl 2 rfl) ?_
                refine lv_iload_n hx hb dX12_knows_193 rfl (lv_at hl 1 rfl) ?_
                refine kW_v ⟨rfl, rfl⟩ hP hD hS hA (rW_V (As := [.int x46_2, .int x7_1]) (rest := []) hx hb hml hown hts hK hE hP hD (k_X12_comes l D cI cJ cZ q w46 hW_w46 x46_2 x7_1 (R_ne_l i_x46_2 (In_lit (n := (-1)) (by decide) (by decide) : In (-1) (-1) (-1)) c_2 (by decide) : In 0 39 x46_2) i_x46_1 (In_of (hM_w46.2 0 37 (by decide) (by decide)) (In_of (hM_w46.2 0 37 (by decide) (by decide)).symm g46_0_37)) (LM_cg (hM_w46.hA (by decide)) (hM_w46.hA (by decide)) hLM) (((congrFun (hM_w46.hA (by decide)) _).trans hz_46)) _) ⟨⟨rfl, rfl⟩, rfl, rfl⟩ sv_X12_464 ⟨(Nat.le_trans (by decide) hR.1), (Nat.le_trans (by decide) hR.2)⟩ 0 12 (hW_w46.o tM_0) rfl rfl rfl hl.1 rfl (Nat.le_of_ble_eq_true rfl) dX12_knows_194) (fun w_4 H locs hw_w_4 hP hD hS => ?_)
                obtain ⟨hW_w_4, hs_w_4⟩ := hw_w_4
                refine lv_iinc (v := (x7_1 + 1)) (lv' := [(1, .int (x7_1 + 1)), (0, .ref (q 0)), (2, .int x46_2), (3, .int x46_3)]) hx hb dX12_knows_197 hl (k := 1) rfl (rfl) (by decide) rfl (fun ls hl => ?_)
                refine lv_goto (tgt := 7) hx hb dX12_knows_200 (by decide) ?_
                exact ih7 (x7_1 + 1) w_4 _ _ ls (mu_inc hmu7 i_x46_1 (In_lit (n := 1) (by decide) (by decide) : In 1 1 1) (by decide)) hW_w_4 (hM_w46.tr hs_w_4 (by decide)) (In_w ((In_add (y := 1) i_x46_1 (In_lit (n := 1) (by decide) (by decide) : In 1 1 1) (by decide)) : In 2 201 (x7_1 + 1)) (by decide) : In 1 201 (x7_1 + 1)) hP hD hS (lv_sub hl [1, 0] rfl)
              · exact (In_no (R_eq_l (R_ne_l i_x46_2 (In_lit (n := (-1)) (by decide) (by decide) : In (-1) (-1) (-1)) c_2 (by decide) : In 0 39 x46_2) (In_lit (n := (-1)) (by decide) (by decide) : In (-1) (-1) (-1)) c_3 (by decide) : In 0 (-1) x46_2) (by decide)).elim
            · refine lv_aload_n hx hb dX12_knows_99 rfl (lv_at hl 0 rfl) ?_
              refine gt_X12 hx hb hts hown hK hP 0 (hW_w46.o tM_0) 45 (by decide) wd_1446 rfl (hW_w46.fi tM_0 rfl) dX12_knows_100 ?_
              refine lv_bipush (v := 40) hx hb dX12_knows_103 (by decide) ?_
              refine lv_icmp_ne (tgt := 111) hx hb dX12_knows_105 (by decide) (fun c_6 => ?_) (fun c_6 => ?_)
              · refine lv_iload_n hx hb dX12_knows_111 rfl (lv_at hl 2 rfl) ?_
                refine lv_iconst (v := (-1)) hx hb dX12_knows_112 (by decide) ?_
                refine lv_icmp_ne (tgt := 191) hx hb dX12_knows_113 (by decide) (fun c_7 => ?_) (fun c_7 => ?_)
                · exact (In_no (R_ne_l (R_eq_l i_x46_2 (In_lit (n := (-1)) (by decide) (by decide) : In (-1) (-1) (-1)) c_2 (by decide) : In (-1) (-1) x46_2) (In_lit (n := (-1)) (by decide) (by decide) : In (-1) (-1) (-1)) c_7 (by decide) : In 0 (-2) x46_2) (by decide)).elim
                · refine lv_aload_n hx hb dX12_knows_116 rfl (lv_at hl 0 rfl) ?_
                  refine gt_X12 hx hb hts hown hK hP 0 (hW_w46.o tM_0) 45 (by decide) wd_1446 rfl (hW_w46.fi tM_0 rfl) dX12_knows_117 ?_
                  refine lv_istore_n (lv' := [(2, .int (fI w46 0 45)), (0, .ref (q 0)), (1, .int x7_1), (3, .int x46_3)]) hx hb dX12_knows_120 rfl hl (by decide) rfl (fun ls hl => ?_)
                  refine lv_aload_n hx hb dX12_knows_121 rfl (lv_at hl 1 rfl) ?_
                  refine lv_dup hx hb dX12_knows_122 rfl ?_
                  refine gt_X12 hx hb hts hown hK hP 0 (hW_w46.o tM_0) 45 (by decide) wd_1446 rfl (hW_w46.fi tM_0 rfl) dX12_knows_123 ?_
                  refine lv_iconst (v := 1) hx hb dX12_knows_126 (by decide) ?_
                  refine lv_iadd hx hb dX12_knows_127 ?_
                  refine pt_X12 hx hb hts hown hK hP hD hS 0 (hW_w46.o tM_0) 45 (by decide) wd_1446 rfl rfl (ty := .int) (v := .int ((fI w46 0 45) + 1)) (by decide +kernel) rfl rfl (hW_w46.ll tM_0 (Nat.le_of_ble_eq_true rfl)) dX12_knows_128 (fun H locs hP hD hS => fr_w (hW_w46.sI tM_0 rfl (In_w ((In_add (R_ne_l (hW_w46.fin tM_0 rfl : In 0 40 (fI w46 0 45)) (In_lit (n := 40) (by decide) (by decide) : In 40 40 40) c_6 (by decide) : In 0 39 (fI w46 0 45)) (In_lit (n := 1) (by decide) (by decide) : In 1 1 1) (by decide)) : In 1 40 ((fI w46 0 45) + 1)) (by decide) : In 0 40 ((fI w46 0 45) + 1))) hP hD (fun w_8 ew_8 hW_w_8 hP hD => ?_))
                  refine lv_aload_n hx hb dX12_knows_131 rfl (lv_at hl 1 rfl) ?_
                  refine gt_X12 hx hb hts hown hK hP 0 (hW_w_8.o tM_0) 46 (by decide) wd_1447 rfl (hW_w_8.fr tM_0 rfl) dX12_knows_132 ?_
                  refine lv_iload_n hx hb dX12_knows_135 rfl (lv_at hl 0 rfl) ?_
                  refine lv_aload_n hx hb dX12_knows_136 rfl (lv_at hl 1 rfl) ?_
                  refine gt_X12 hx hb hts hown hK hP 0 (hW_w_8.o tM_0) 41 (by decide) wd_1442 rfl (hW_w_8.fr tM_0 rfl) dX12_knows_137 ?_
                  refine lv_iconst (v := 5) hx hb dX12_knows_140 (by decide) ?_
                  refine lv_iload_n hx hb dX12_knows_141 rfl (lv_at hl 2 rfl) ?_
                  refine lv_imul hx hb dX12_knows_142 ?_
                  refine va_iald hx hb hK hP 22 0 (hW_w_8.a tM_22) rfl (in_I ((In_mull i_x46_1 (n := 5) (by decide) (by decide)) : In 5 1000 (5 * x7_1)) (by decide)) dX12_knows_143 ?_
                  refine lv_topi (fun v_9 ev_9 => ?_)
                  refine va_iast hx hb hK hP hD hS 26 0 (hW_w_8.a tM_26) rfl (in_I (R_ne_l (hW_w46.fin tM_0 rfl : In 0 40 (fI w46 0 45)) (In_lit (n := 40) (by decide) (by decide) : In 40 40 40) c_6 (by decide) : In 0 39 (fI w46 0 45)) (by decide)) dX12_knows_144 (fun H locs hP hD hS => fr_w (hW_w_8.uA tM_26 (In_any v_9)) hP hD (fun w_10 ew_10 hW_w_10 hP hD => ?_))
                  refine lv_aload_n hx hb dX12_knows_145 rfl (lv_at hl 1 rfl) ?_
                  refine gt_X12 hx hb hts hown hK hP 0 (hW_w_10.o tM_0) 48 (by decide) wd_1449 rfl (hW_w_10.fr tM_0 rfl) dX12_knows_146 ?_
                  refine lv_iload_n hx hb dX12_knows_149 rfl (lv_at hl 0 rfl) ?_
                  refine lv_aload_n hx hb dX12_knows_150 rfl (lv_at hl 1 rfl) ?_
                  refine gt_X12 hx hb hts hown hK hP 0 (hW_w_10.o tM_0) 41 (by decide) wd_1442 rfl (hW_w_10.fr tM_0 rfl) dX12_knows_151 ?_
                  refine lv_iconst (v := 5) hx hb dX12_knows_154 (by decide) ?_
                  refine lv_iload_n hx hb dX12_knows_155 rfl (lv_at hl 2 rfl) ?_
                  refine lv_imul hx hb dX12_knows_156 ?_
                  refine lv_iconst (v := 1) hx hb dX12_knows_157 (by decide) ?_
                  refine lv_iadd hx hb dX12_knows_158 ?_
                  refine va_iald hx hb hK hP 22 0 (hW_w_10.a tM_22) rfl (in_I ((In_add ((In_mull i_x46_1 (n := 5) (by decide) (by decide)) : In 5 1000 (5 * x7_1)) (In_lit (n := 1) (by decide) (by decide) : In 1 1 1) (by decide)) : In 6 1001 ((5 * x7_1) + 1)) (by decide)) dX12_knows_159 ?_
                  refine lv_topi (fun v_11 ev_11 => ?_)
                  refine va_iast hx hb hK hP hD hS 28 0 (hW_w_10.a tM_28) rfl (in_I (R_ne_l (hW_w46.fin tM_0 rfl : In 0 40 (fI w46 0 45)) (In_lit (n := 40) (by decide) (by decide) : In 40 40 40) c_6 (by decide) : In 0 39 (fI w46 0 45)) (by decide)) dX12_knows_160 (fun H locs hP hD hS => fr_w (hW_w_10.uA tM_28 (In_any v_11)) hP hD (fun w_12 ew_12 hW_w_12 hP hD => ?_))
                  refine lv_aload_n hx hb dX12_knows_161 rfl (lv_at hl 1 rfl) ?_
                  refine gt_X12 hx hb hts hown hK hP 0 (hW_w_12.o tM_0) 49 (by decide) wd_1450 rfl (hW_w_12.fr tM_0 rfl) dX12_knows_162 ?_
                  refine lv_iload_n hx hb dX12_knows_165 rfl (lv_at hl 0 rfl) ?_
                  refine lv_aload_n hx hb dX12_knows_166 rfl (lv_at hl 1 rfl) ?_
                  refine gt_X12 hx hb hts hown hK hP 0 (hW_w_12.o tM_0) 41 (by decide) wd_1442 rfl (hW_w_12.fr tM_0 rfl) dX12_knows_167 ?_
                  refine lv_iconst (v := 5) hx hb dX12_knows_170 (by decide) ?_
                  refine lv_iload_n hx hb dX12_knows_171 rfl (lv_at hl 2 rfl) ?_
                  refine lv_imul hx hb dX12_knows_172 ?_
                  refine lv_iconst (v := 1) hx hb dX12_knows_173 (by decide) ?_
                  refine lv_iadd hx hb dX12_knows_174 ?_
                  refine va_iald hx hb hK hP 22 0 (hW_w_12.a tM_22) rfl (in_I ((In_add ((In_mull i_x46_1 (n := 5) (by decide) (by decide)) : In 5 1000 (5 * x7_1)) (In_lit (n := 1) (by decide) (by decide) : In 1 1 1) (by decide)) : In 6 1001 ((5 * x7_1) + 1)) (by decide)) dX12_knows_175 ?_
                  refine tov (v := v_11) ((congrFun ((aF_cg (st_ne ew_12 (by decide))).trans ((aF_cg (st_ne ew_10 (by decide))).trans ((aF_cg (st_ne ew_8 (by decide))).trans (hM_w46.hA (by decide))))) _).trans ((congrFun ((aF_cg (st_ne ew_10 (by decide))).trans ((aF_cg (st_ne ew_8 (by decide))).trans (hM_w46.hA (by decide)))) _).symm.trans ev_11.symm)) ?_
                  refine va_iast hx hb hK hP hD hS 29 0 (hW_w_12.a tM_29) rfl (in_I (R_ne_l (hW_w46.fin tM_0 rfl : In 0 40 (fI w46 0 45)) (In_lit (n := 40) (by decide) (by decide) : In 40 40 40) c_6 (by decide) : In 0 39 (fI w46 0 45)) (by decide)) dX12_knows_176 (fun H locs hP hD hS => fr_w (hW_w_12.uA tM_29 (In_any v_11)) hP hD (fun w_13 ew_13 hW_w_13 hP hD => ?_))
                  refine lv_aload_n hx hb dX12_knows_177 rfl (lv_at hl 1 rfl) ?_
                  refine gt_X12 hx hb hts hown hK hP 0 (hW_w_13.o tM_0) 53 (by decide) wd_1454 rfl (hW_w_13.fr tM_0 rfl) dX12_knows_178 ?_
                  refine lv_iload_n hx hb dX12_knows_181 rfl (lv_at hl 0 rfl) ?_
                  refine lv_iconst (v := 0) hx hb dX12_knows_182 (by decide) ?_
                  refine va_iast hx hb hK hP hD hS 33 0 (hW_w_13.a tM_33) rfl (in_I (R_ne_l (hW_w46.fin tM_0 rfl : In 0 40 (fI w46 0 45)) (In_lit (n := 40) (by decide) (by decide) : In 40 40 40) c_6 (by decide) : In 0 39 (fI w46 0 45)) (by decide)) dX12_knows_183 (fun H locs hP hD hS => fr_w (hW_w_13.uA tM_33 (In_lit (n := 0) (by decide) (by decide) : In 0 4 0)) hP hD (fun w_14 ew_14 hW_w_14 hP hD => ?_))
                  refine lv_aload_n hx hb dX12_knows_184 rfl (lv_at hl 1 rfl) ?_
                  refine gt_X12 hx hb hts hown hK hP 0 (hW_w_14.o tM_0) 55 (by decide) wd_1456 rfl (hW_w_14.fr tM_0 rfl) dX12_knows_185 ?_
                  refine lv_iload_n hx hb dX12_knows_188 rfl (lv_at hl 0 rfl) ?_
                  refine lv_iconst (v := 0) hx hb dX12_knows_189 (by decide) ?_
                  refine va_iast hx hb hK hP hD hS 35 0 (hW_w_14.a tM_35) rfl (in_I (R_ne_l (hW_w46.fin tM_0 rfl : In 0 40 (fI w46 0 45)) (In_lit (n := 40) (by decide) (by decide) : In 40 40 40) c_6 (by decide) : In 0 39 (fI w46 0 45)) (by decide)) dX12_knows_190 (fun H locs hP hD hS => fr_w (hW_w_14.uA tM_35 (In_lit (n := 0) (by decide) (by decide) : In (-2147483648) 2147483647 0)) hP hD (fun w_15 ew_15 hW_w_15 hP hD => ?_))
                  refine lv_aload_n hx hb dX12_knows_191 rfl (lv_at hl 1 rfl) ?_
                  refine lv_iload_n hx hb dX12_knows_192 rfl (lv_at hl 0 rfl) ?_
                  refine lv_iload_n hx hb dX12_knows_193 rfl (lv_at hl 2 rfl) ?_
                  refine kW_v ⟨rfl, rfl⟩ hP hD hS hA (rW_V (As := [.int (fI w46 0 45), .int x7_1]) (rest := []) hx hb hml hown hts hK hE hP hD (k_X12_comes l D cI cJ cZ q w_15 hW_w_15 (fI w46 0 45) x7_1 (R_ne_l (hW_w46.fin tM_0 rfl : In 0 40 (fI w46 0 45)) (In_lit (n := 40) (by decide) (by decide) : In 40 40 40) c_6 (by decide) : In 0 39 (fI w46 0 45)) i_x46_1 (In_of ((fI_cg (st_ne ew_15 (by decide))).trans ((fI_cg (st_ne ew_14 (by decide))).trans ((fI_cg (st_ne ew_13 (by decide))).trans ((fI_cg (st_ne ew_12 (by decide))).trans ((fI_cg (st_ne ew_10 (by decide))).trans ((fI_nej (hW_w46.lt tM_0) ew_8 (by decide)).trans (hM_w46.2 0 37 (by decide) (by decide)))))))) (In_of (hM_w46.2 0 37 (by decide) (by decide)).symm g46_0_37)) (LM_cg ((aF_cg (st_ne ew_15 (by decide))).trans ((aF_cg (st_ne ew_14 (by decide))).trans ((aF_cg (st_ne ew_13 (by decide))).trans ((aF_cg (st_ne ew_12 (by decide))).trans ((aF_cg (st_ne ew_10 (by decide))).trans ((aF_cg (st_ne ew_8 (by decide))).trans (hM_w46.hA (by decide)))))))) ((aF_cg (st_ne ew_15 (by decide))).trans ((aF_cg (st_ne ew_14 (by decide))).trans ((aF_cg (st_ne ew_13 (by decide))).trans ((aF_cg (st_ne ew_12 (by decide))).trans ((aF_cg (st_ne ew_10 (by decide))).trans ((aF_cg (st_ne ew_8 (by decide))).trans (hM_w46.hA (by decide)))))))) hLM) (((congrFun ((aF_cg (st_ne ew_15 (by decide))).trans ((aF_cg (st_ne ew_14 (by decide))).trans ((aF_cg (st_ne ew_13 (by decide))).trans ((aF_cg (st_ne ew_12 (by decide))).trans ((aF_cg (st_ne ew_10 (by decide))).trans ((aF_cg (st_ne ew_8 (by decide))).trans (hM_w46.hA (by decide)))))))) _).trans hz_46)) _) ⟨⟨rfl, rfl⟩, rfl, rfl⟩ sv_X12_464 ⟨(Nat.le_trans (by decide) hR.1), (Nat.le_trans (by decide) hR.2)⟩ 0 12 (hW_w_15.o tM_0) rfl rfl rfl hl.1 rfl (Nat.le_of_ble_eq_true rfl) dX12_knows_194) (fun w_16 H locs hw_w_16 hP hD hS => ?_)
                  obtain ⟨hW_w_16, hs_w_16⟩ := hw_w_16
                  refine lv_iinc (v := (x7_1 + 1)) (lv' := [(1, .int (x7_1 + 1)), (2, .int (fI w46 0 45)), (0, .ref (q 0)), (3, .int x46_3)]) hx hb dX12_knows_197 hl (k := 2) rfl (rfl) (by decide) rfl (fun ls hl => ?_)
                  refine lv_goto (tgt := 7) hx hb dX12_knows_200 (by decide) ?_
                  exact ih7 (x7_1 + 1) w_16 _ _ ls (mu_inc hmu7 i_x46_1 (In_lit (n := 1) (by decide) (by decide) : In 1 1 1) (by decide)) hW_w_16 (((((((hM_w46.sf (hW_w46.lt tM_0) ew_8 (by decide)).sa ew_10 (by decide)).sa ew_12 (by decide)).sa ew_13 (by decide)).sa ew_14 (by decide)).sa ew_15 (by decide)).tr hs_w_16 (by decide)) (In_w ((In_add (y := 1) i_x46_1 (In_lit (n := 1) (by decide) (by decide) : In 1 1 1) (by decide)) : In 2 201 (x7_1 + 1)) (by decide) : In 1 201 (x7_1 + 1)) hP hD hS (lv_sub hl [2, 0] rfl)
              · refine lv_goto (tgt := 197) hx hb dX12_knows_108 (by decide) ?_
                refine lv_iinc (v := (x7_1 + 1)) (lv' := [(1, .int (x7_1 + 1)), (0, .ref (q 0)), (2, .int x46_2), (3, .int x46_3)]) hx hb dX12_knows_197 hl (k := 1) rfl (rfl) (by decide) rfl (fun ls hl => ?_)
                refine lv_goto (tgt := 7) hx hb dX12_knows_200 (by decide) ?_
                exact ih7 (x7_1 + 1) w46 _ _ ls (mu_inc hmu7 i_x46_1 (In_lit (n := 1) (by decide) (by decide) : In 1 1 1) (by decide)) hW_w46 hM_w46 (In_w ((In_add (y := 1) i_x46_1 (In_lit (n := 1) (by decide) (by decide) : In 1 1 1) (by decide)) : In 2 201 (x7_1 + 1)) (by decide) : In 1 201 (x7_1 + 1)) hP hD hS (lv_sub hl [1, 0] rfl)
          · refine lv_aload_n hx hb dX12_knows_54 rfl (lv_at hl 0 rfl) ?_
            refine gt_X12 hx hb hts hown hK hP 0 (hW_w46.o tM_0) 41 (by decide) wd_1442 rfl (hW_w46.fr tM_0 rfl) dX12_knows_55 ?_
            refine lv_iconst (v := 5) hx hb dX12_knows_58 (by decide) ?_
            refine lv_iload_n hx hb dX12_knows_59 rfl (lv_at hl 1 rfl) ?_
            refine lv_imul hx hb dX12_knows_60 ?_
            refine va_iald hx hb hK hP 22 0 (hW_w46.a tM_22) rfl (in_I ((In_mull i_x46_1 (n := 5) (by decide) (by decide)) : In 5 1000 (5 * x7_1)) (by decide)) dX12_knows_61 ?_
            refine lv_topi (fun v_18 ev_18 => ?_)
            refine lv_if_eq (tgt := 86) hx hb dX12_knows_62 (by decide) (fun c_19 => ?_) (fun c_19 => ?_)
            · refine lv_iload_n hx hb dX12_knows_86 rfl (lv_at hl 2 rfl) ?_
              refine lv_istore_n (lv' := [(2, .int x46_2), (0, .ref (q 0)), (1, .int x7_1), (3, .int x46_3)]) hx hb dX12_knows_87 rfl hl (by decide) rfl (fun ls hl => ?_)
              refine lv_iinc (v := (x46_3 + 1)) (lv' := [(3, .int (x46_3 + 1)), (2, .int x46_2), (0, .ref (q 0)), (1, .int x7_1)]) hx hb dX12_knows_88 hl (k := 3) rfl (rfl) (by decide) rfl (fun ls hl => ?_)
              refine lv_goto (tgt := 46) hx hb dX12_knows_91 (by decide) ?_
              exact ih46 x46_2 (x46_3 + 1) w46 _ _ ls (mu_inc hmu46 (R_nle_r (hW_w46.fin tM_0 rfl : In 0 40 (fI w46 0 45)) i_x46_3 c_1 (by decide) : In 0 39 x46_3) (In_lit (n := 1) (by decide) (by decide) : In 1 1 1) (by decide)) hW_w46 hM_w46 i_x46_1 i_x46_2 (In_w ((In_add (y := 1) (R_nle_r (hW_w46.fin tM_0 rfl : In 0 40 (fI w46 0 45)) i_x46_3 c_1 (by decide) : In 0 39 x46_3) (In_lit (n := 1) (by decide) (by decide) : In 1 1 1) (by decide)) : In 1 40 (x46_3 + 1)) (by decide) : In 0 40 (x46_3 + 1)) (In_of (hM_w46.2 0 37 (by decide) (by decide)) (In_of (hM_w46.2 0 37 (by decide) (by decide)).symm g46_0_37)) hz_46 hP hD hS (lv_sub hl [2, 3, 1, 0] rfl)
            · refine lv_aload_n hx hb dX12_knows_65 rfl (lv_at hl 0 rfl) ?_
              refine gt_X12 hx hb hts hown hK hP 0 (hW_w46.o tM_0) 46 (by decide) wd_1447 rfl (hW_w46.fr tM_0 rfl) dX12_knows_66 ?_
              refine lv_iload_n hx hb dX12_knows_69 rfl (lv_at hl 3 rfl) ?_
              refine va_iald hx hb hK hP 26 0 (hW_w46.a tM_26) rfl (in_I (R_nle_r (hW_w46.fin tM_0 rfl : In 0 40 (fI w46 0 45)) i_x46_3 c_1 (by decide) : In 0 39 x46_3) (by decide)) dX12_knows_70 ?_
              refine lv_topi (fun v_20 ev_20 => ?_)
              refine lv_aload_n hx hb dX12_knows_71 rfl (lv_at hl 0 rfl) ?_
              refine gt_X12 hx hb hts hown hK hP 0 (hW_w46.o tM_0) 41 (by decide) wd_1442 rfl (hW_w46.fr tM_0 rfl) dX12_knows_72 ?_
              refine lv_iconst (v := 5) hx hb dX12_knows_75 (by decide) ?_
              refine lv_iload_n hx hb dX12_knows_76 rfl (lv_at hl 1 rfl) ?_
              refine lv_imul hx hb dX12_knows_77 ?_
              refine va_iald hx hb hK hP 22 0 (hW_w46.a tM_22) rfl (in_I ((In_mull i_x46_1 (n := 5) (by decide) (by decide)) : In 5 1000 (5 * x7_1)) (by decide)) dX12_knows_78 ?_
              refine tov (v := v_18) ((congrFun (hM_w46.hA (by decide)) _).trans ((congrFun (hM_w46.hA (by decide)) _).symm.trans ev_18.symm)) ?_
              refine lv_icmp_ne (tgt := 86) hx hb dX12_knows_79 (by decide) (fun c_21 => ?_) (fun c_21 => ?_)
              · refine lv_iload_n hx hb dX12_knows_86 rfl (lv_at hl 2 rfl) ?_
                refine lv_istore_n (lv' := [(2, .int x46_2), (0, .ref (q 0)), (1, .int x7_1), (3, .int x46_3)]) hx hb dX12_knows_87 rfl hl (by decide) rfl (fun ls hl => ?_)
                refine lv_iinc (v := (x46_3 + 1)) (lv' := [(3, .int (x46_3 + 1)), (2, .int x46_2), (0, .ref (q 0)), (1, .int x7_1)]) hx hb dX12_knows_88 hl (k := 3) rfl (rfl) (by decide) rfl (fun ls hl => ?_)
                refine lv_goto (tgt := 46) hx hb dX12_knows_91 (by decide) ?_
                exact ih46 x46_2 (x46_3 + 1) w46 _ _ ls (mu_inc hmu46 (R_nle_r (hW_w46.fin tM_0 rfl : In 0 40 (fI w46 0 45)) i_x46_3 c_1 (by decide) : In 0 39 x46_3) (In_lit (n := 1) (by decide) (by decide) : In 1 1 1) (by decide)) hW_w46 hM_w46 i_x46_1 i_x46_2 (In_w ((In_add (y := 1) (R_nle_r (hW_w46.fin tM_0 rfl : In 0 40 (fI w46 0 45)) i_x46_3 c_1 (by decide) : In 0 39 x46_3) (In_lit (n := 1) (by decide) (by decide) : In 1 1 1) (by decide)) : In 1 40 (x46_3 + 1)) (by decide) : In 0 40 (x46_3 + 1)) (In_of (hM_w46.2 0 37 (by decide) (by decide)) (In_of (hM_w46.2 0 37 (by decide) (by decide)).symm g46_0_37)) hz_46 hP hD hS (lv_sub hl [2, 3, 1, 0] rfl)
              · refine lv_iload_n hx hb dX12_knows_82 rfl (lv_at hl 3 rfl) ?_
                refine lv_goto (tgt := 87) hx hb dX12_knows_83 (by decide) ?_
                refine lv_istore_n (lv' := [(2, .int x46_3), (0, .ref (q 0)), (1, .int x7_1), (3, .int x46_3)]) hx hb dX12_knows_87 rfl hl (by decide) rfl (fun ls hl => ?_)
                refine lv_iinc (v := (x46_3 + 1)) (lv' := [(3, .int (x46_3 + 1)), (2, .int x46_3), (0, .ref (q 0)), (1, .int x7_1)]) hx hb dX12_knows_88 hl (k := 3) rfl (rfl) (by decide) rfl (fun ls hl => ?_)
                refine lv_goto (tgt := 46) hx hb dX12_knows_91 (by decide) ?_
                exact ih46 x46_3 (x46_3 + 1) w46 _ _ ls (mu_inc hmu46 (R_nle_r (hW_w46.fin tM_0 rfl : In 0 40 (fI w46 0 45)) i_x46_3 c_1 (by decide) : In 0 39 x46_3) (In_lit (n := 1) (by decide) (by decide) : In 1 1 1) (by decide)) hW_w46 hM_w46 i_x46_1 (In_w (R_nle_r (hW_w46.fin tM_0 rfl : In 0 40 (fI w46 0 45)) i_x46_3 c_1 (by decide) : In 0 39 x46_3) (by decide) : In (-1) 39 x46_3) (In_w ((In_add (y := 1) (R_nle_r (hW_w46.fin tM_0 rfl : In 0 40 (fI w46 0 45)) i_x46_3 c_1 (by decide) : In 0 39 x46_3) (In_lit (n := 1) (by decide) (by decide) : In 1 1 1) (by decide)) : In 1 40 (x46_3 + 1)) (by decide) : In 0 40 (x46_3 + 1)) (In_of (hM_w46.2 0 37 (by decide) (by decide)) (In_of (hM_w46.2 0 37 (by decide) (by decide)).symm g46_0_37)) hz_46 hP hD hS (lv_sub hl [2, 3, 1, 0] rfl)
      refine lv_iload_n hx hb dX12_knows_7 rfl (lv_at hl 1 rfl) ?_
      refine lv_aload_n hx hb dX12_knows_8 rfl (lv_at hl 0 rfl) ?_
      refine gt_X12 hx hb hts hown hK hP 0 (hW_w7.o tM_0) 37 (by decide) wd_1438 rfl (hW_w7.fi tM_0 rfl) dX12_knows_9 ?_
      refine tov (v := (fI w 0 37)) (hM_w7.2 0 37 (by decide) (by decide)) ?_
      refine lv_icmp_gt (tgt := 203) hx hb dX12_knows_12 (by decide) (fun c_22 => ?_) (fun c_22 => ?_)
      · exact hret _ _ _ _ _ hP hD hS dX12_knows_203 ⟨hW_w7, hM_w7⟩
      · refine lv_aload_n hx hb dX12_knows_15 rfl (lv_at hl 0 rfl) ?_
        refine gt_X12 hx hb hts hown hK hP 0 (hW_w7.o tM_0) 56 (by decide) wd_1457 rfl (hW_w7.fr tM_0 rfl) dX12_knows_16 ?_
        refine lv_iload_n hx hb dX12_knows_19 rfl (lv_at hl 1 rfl) ?_
        refine lv_iconst (v := (-1)) hx hb dX12_knows_20 (by decide) ?_
        refine va_iast hx hb hK hP hD hS 36 0 (hW_w7.a tM_36) rfl (in_I (R_nlt_r (hW_w.fin tM_0 rfl : In 0 200 (fI w 0 37)) i_x7_1 c_22 (by decide) : In 1 200 x7_1) (by decide)) dX12_knows_21 (fun H locs hP hD hS => fr_w (hW_w7.uA tM_36 (In_lit (n := (-1)) (by decide) (by decide) : In (-1) 39 (-1))) hP hD (fun w_23 ew_23 hW_w_23 hP hD => ?_))
        refine lv_aload_n hx hb dX12_knows_22 rfl (lv_at hl 0 rfl) ?_
        refine gt_X12 hx hb hts hown hK hP 0 (hW_w_23.o tM_0) 40 (by decide) wd_1441 rfl (hW_w_23.fr tM_0 rfl) dX12_knows_23 ?_
        refine lv_iload_n hx hb dX12_knows_26 rfl (lv_at hl 1 rfl) ?_
        refine va_iald hx hb hK hP 21 0 (hW_w_23.a tM_21) rfl (in_I (R_nlt_r (hW_w.fin tM_0 rfl : In 0 200 (fI w 0 37)) i_x7_1 c_22 (by decide) : In 1 200 x7_1) (by decide)) dX12_knows_27 ?_
        refine lv_topi (fun v_24 ev_24 => ?_)
        refine lv_if_ne (tgt := 197) hx hb dX12_knows_28 (by decide) (fun c_25 => ?_) (fun c_25 => ?_)
        · refine lv_iinc (v := (x7_1 + 1)) (lv' := [(1, .int (x7_1 + 1)), (0, .ref (q 0))]) hx hb dX12_knows_197 hl (k := 1) rfl (rfl) (by decide) rfl (fun ls hl => ?_)
          refine lv_goto (tgt := 7) hx hb dX12_knows_200 (by decide) ?_
          exact ih7 (x7_1 + 1) w_23 _ _ ls (mu_inc hmu7 (R_nlt_r (hW_w.fin tM_0 rfl : In 0 200 (fI w 0 37)) i_x7_1 c_22 (by decide) : In 1 200 x7_1) (In_lit (n := 1) (by decide) (by decide) : In 1 1 1) (by decide)) hW_w_23 (hM_w7.sa ew_23 (by decide)) (In_w ((In_add (y := 1) (R_nlt_r (hW_w.fin tM_0 rfl : In 0 200 (fI w 0 37)) i_x7_1 c_22 (by decide) : In 1 200 x7_1) (In_lit (n := 1) (by decide) (by decide) : In 1 1 1) (by decide)) : In 2 201 (x7_1 + 1)) (by decide) : In 1 201 (x7_1 + 1)) hP hD hS (lv_sub hl [1, 0] rfl)
        · refine lv_aload_n hx hb dX12_knows_31 rfl (lv_at hl 0 rfl) ?_
          refine lv_iload_n hx hb dX12_knows_32 rfl (lv_at hl 1 rfl) ?_
          refine kW_i ⟨rfl, rfl⟩ hP hD hS hA (rW_V (As := [.int x7_1]) (rest := []) hx hb hml hown hts hK hE hP hD (k_X12_isSo l D cI cJ cZ q w_23 hW_w_23 x7_1 (R_nlt_r (hW_w.fin tM_0 rfl : In 0 200 (fI w 0 37)) i_x7_1 c_22 (by decide) : In 1 200 x7_1) _) ⟨⟨rfl, rfl⟩, rfl, rfl⟩ sv_X12_461 ⟨(Nat.le_trans (by decide) hR.1), (Nat.le_trans (by decide) hR.2)⟩ 0 12 (hW_w_23.o tM_0) rfl rfl rfl hl.1 rfl (Nat.le_of_ble_eq_true rfl) dX12_knows_33) (fun r_27 w_26 H locs hw_w_26 hP hD hS => ?_)
          obtain ⟨hW_w_26, hs_w_26, i_r_27⟩ := hw_w_26
          refine lv_if_ne (tgt := 42) hx hb dX12_knows_36 (by decide) (fun c_28 => ?_) (fun c_28 => ?_)
          · refine lv_iconst (v := (-1)) hx hb dX12_knows_42 (by decide) ?_
            refine lv_istore_n (lv' := [(2, .int (-1)), (0, .ref (q 0)), (1, .int x7_1)]) hx hb dX12_knows_43 rfl hl (by decide) rfl (fun ls hl => ?_)
            refine lv_iconst (v := 0) hx hb dX12_knows_44 (by decide) ?_
            refine lv_istore_n (lv' := [(3, .int 0), (2, .int (-1)), (0, .ref (q 0)), (1, .int x7_1)]) hx hb dX12_knows_45 rfl hl (by decide) rfl (fun ls hl => ?_)
            exact J46 _ (-1) 0 w_26 _ _ ls (Nat.lt_succ_self _) hW_w_26 ((hM_w7.sa ew_23 (by decide)).tr hs_w_26 (by decide)) (R_nlt_r (hW_w.fin tM_0 rfl : In 0 200 (fI w 0 37)) i_x7_1 c_22 (by decide) : In 1 200 x7_1) (In_lit (n := (-1)) (by decide) (by decide) : In (-1) 39 (-1)) (In_lit (n := 0) (by decide) (by decide) : In 0 40 0) (In_of ((hs_w_26.gI (by decide)).trans ((fI_cg (st_ne ew_23 (by decide))).trans (hM_w7.2 0 37 (by decide) (by decide)))) (R_nlt_l (hW_w.fin tM_0 rfl : In 0 200 (fI w 0 37)) i_x7_1 c_22 (by decide) : In 1 200 (fI w 0 37))) (((congrFun ((aF_cg (st_ne ew_23 (by decide))).trans (hM_w7.hA (by decide))) _).symm.trans ev_24.symm).trans c_25) hP hD hS (lv_sub hl [2, 3, 1, 0] rfl)
          · refine lv_goto (tgt := 197) hx hb dX12_knows_39 (by decide) ?_
            refine lv_iinc (v := (x7_1 + 1)) (lv' := [(1, .int (x7_1 + 1)), (0, .ref (q 0))]) hx hb dX12_knows_197 hl (k := 1) rfl (rfl) (by decide) rfl (fun ls hl => ?_)
            refine lv_goto (tgt := 7) hx hb dX12_knows_200 (by decide) ?_
            exact ih7 (x7_1 + 1) w_26 _ _ ls (mu_inc hmu7 (R_nlt_r (hW_w.fin tM_0 rfl : In 0 200 (fI w 0 37)) i_x7_1 c_22 (by decide) : In 1 200 x7_1) (In_lit (n := 1) (by decide) (by decide) : In 1 1 1) (by decide)) hW_w_26 ((hM_w7.sa ew_23 (by decide)).tr hs_w_26 (by decide)) (In_w ((In_add (y := 1) (R_nlt_r (hW_w.fin tM_0 rfl : In 0 200 (fI w 0 37)) i_x7_1 c_22 (by decide) : In 1 200 x7_1) (In_lit (n := 1) (by decide) (by decide) : In 1 1 1) (by decide)) : In 2 201 (x7_1 + 1)) (by decide) : In 1 201 (x7_1 + 1)) hP hD hS (lv_sub hl [1, 0] rfl)
  refine lv_aload_n hx hb dX12_knows_0 rfl (lv_at hl 0 rfl) ?_
  refine lv_iconst (v := 0) hx hb dX12_knows_1 (by decide) ?_
  refine pt_X12 hx hb hts hown hK hP hD hS 0 (hW_w.o tM_0) 45 (by decide) wd_1446 rfl rfl (ty := .int) (v := .int 0) (by decide +kernel) rfl rfl (hW_w.ll tM_0 (Nat.le_of_ble_eq_true rfl)) dX12_knows_2 (fun H locs hP hD hS => fr_w (hW_w.sI tM_0 rfl (In_lit (n := 0) (by decide) (by decide) : In 0 40 0)) hP hD (fun w_29 ew_29 hW_w_29 hP hD => ?_))
  refine lv_iconst (v := 1) hx hb dX12_knows_5 (by decide) ?_
  refine lv_istore_n (lv' := [(1, .int 1), (0, .ref (q 0))]) hx hb dX12_knows_6 rfl hl (by decide) rfl (fun ls hl => ?_)
  exact J7 _ 1 w_29 _ _ ls (Nat.lt_succ_self _) hW_w_29 (Sm.rf.sf (hW_w.lt tM_0) ew_29 (by decide)) (In_lit (n := 1) (by decide) (by decide) : In 1 201 1) hP hD hS (lv_sub hl [1, 0] rfl)
set_option maxRecDepth 100000 in
set_option maxHeartbeats 8000000 in
theorem k_X12_doubt (l : Launch) (D : va_G) (cI cJ cZ : ClassId) (q : Nat → Nat) (w : va_W) (hW_w : HT q (TM q cI cJ cZ) w) (hLM : LM w) : Con_i l yX12_doubt cX12_doubt 4 (some .int) ({ frames := 3, cells := 0, slots := 0, locals := 73 }) D cI cJ cZ eW [.ref (q 0)] w (fun (r : Int32) (w1 : va_W) => HT q (TM q cI cJ cZ) w1 ∧ Sm [0, 26, 27, 28, 29, 30, 31, 32, 33, 34, 35, 36] [(0, 45)] w w1) := by
  refine eQ_i rfl (by decide) (Nat.le_of_ble_eq_true rfl) ⟨rfl, rfl⟩ ?_
  intro p e R s m args below meth c A Q hx hb hml hown hts hK hE hA hR hret hP hD hS ls hl
  have hown : s.vm.findClass RX12 = some m.cls := hown
  have hl : lv_has ls 4 [(0, .ref (q 0))] := hl
  have J8 : ∀ (N : Nat) (x8_1 : Int32) (x8_2 : Int32) (w8 : va_W) (H : Heap) (locs : List Loc) (ls : Array Slot), (40 - x8_2.toInt).toNat < N → HT q (TM q cI cJ cZ) w8 → Sm [0, 26, 27, 28, 29, 30, 31, 32, 33, 34, 35, 36] [(0, 45)] w w8 → (In 0 40 x8_2) → va_P D vwCl w8 H → va_D A w8 → va_S A s.heap H locs → lv_has ls 4 [(0, .ref (q 0)), (1, .int x8_1), (2, .int x8_2)] → W p l e R s m args below meth c H locs 0 0 Q (F0 m 8 ls []) := by
    intro N
    induction N with
    | zero => intro x8_1 x8_2 w8 H locs ls hmu; exact absurd hmu (Nat.not_lt_zero _)
    | succ N ih8 =>
      intro x8_1 x8_2 w8 H locs ls hmu8 hW_w8 hM_w8 i_x8_2 hP hD hS hl
      have J18 : ∀ (N : Nat) (x18_1 : Int32) (x18_3 : Int32) (w18 : va_W) (H : Heap) (locs : List Loc) (ls : Array Slot), (39 - x18_3.toInt).toNat < N → HT q (TM q cI cJ cZ) w18 → Sm [0, 26, 27, 28, 29, 30, 31, 32, 33, 34, 35, 36] [(0, 45)] w w18 → (In 0 39 x8_2) → (In 0 39 x18_3) → (fI w18 0 45 = (fI w8 0 45)) → (In 1 40 (fI w8 0 45)) → va_P D vwCl w18 H → va_D A w18 → va_S A s.heap H locs → lv_has ls 4 [(0, .ref (q 0)), (1, .int x18_1), (2, .int x8_2), (3, .int x18_3)] → W p l e R s m args below meth c H locs 0 0 Q (F0 m 18 ls []) := by
        intro N
        induction N with
        | zero => intro x18_1 x18_3 w18 H locs ls hmu; exact absurd hmu (Nat.not_lt_zero _)
        | succ N ih18 =>
          intro x18_1 x18_3 w18 H locs ls hmu18 hW_w18 hM_w18 i_x18_2 i_x18_3 g18_0_45e g18_0_45 hP hD hS hl
          have J101 : ∀ (y101_0 : Int32) (w101 : va_W) (H : Heap) (locs : List Loc) (ls : Array Slot), HT q (TM q cI cJ cZ) w101 → Sm [0, 26, 27, 28, 29, 30, 31, 32, 33, 34, 35, 36] [(0, 45)] w w101 → (In 1 39 x8_2) → (In 0 38 x18_3) → (In 0 1 y101_0) → (fI w101 0 45 = (fI w8 0 45)) → (In 1 40 (fI w8 0 45)) → va_P D vwCl w101 H → va_D A w101 → va_S A s.heap H locs → lv_has ls 4 [(0, .ref (q 0)), (1, .int x18_1), (2, .int x8_2), (3, .int x18_3)] → W p l e R s m args below meth c H locs 0 0 Q (F0 m 101 ls [.int y101_0, .int x18_1]) := by
            intro y101_0 w101 H locs ls hW_w101 hM_w101 i_x101_2 i_x101_3 i_y101_0 g101_0_45e g101_0_45 hP hD hS hl
            refine lv_iadd hx hb dX12_doubt_101 ?_
            refine lv_topi (fun v_1 ev_1 => ?_)
            refine lv_istore_n (lv' := [(1, .int v_1), (0, .ref (q 0)), (2, .int x8_2), (3, .int x18_3)]) hx hb dX12_doubt_102 rfl hl (by decide) rfl (fun ls hl => ?_)
            refine lv_iinc (v := (x18_3 + 1)) (lv' := [(3, .int (x18_3 + 1)), (1, .int v_1), (0, .ref (q 0)), (2, .int x8_2)]) hx hb dX12_doubt_103 hl (k := 3) rfl (rfl) (by decide) rfl (fun ls hl => ?_)
            refine lv_goto (tgt := 18) hx hb dX12_doubt_106 (by decide) ?_
            exact ih18 v_1 (x18_3 + 1) w101 _ _ ls (mu_inc hmu18 i_x101_3 (In_lit (n := 1) (by decide) (by decide) : In 1 1 1) (by decide)) hW_w101 hM_w101 (In_w i_x101_2 (by decide) : In 0 39 x8_2) (In_w ((In_add (y := 1) i_x101_3 (In_lit (n := 1) (by decide) (by decide) : In 1 1 1) (by decide)) : In 1 39 (x18_3 + 1)) (by decide) : In 0 39 (x18_3 + 1)) g101_0_45e g18_0_45 hP hD hS (lv_sub hl [2, 1, 3, 0] rfl)
          have J100 : ∀ (w100 : va_W) (H : Heap) (locs : List Loc) (ls : Array Slot), HT q (TM q cI cJ cZ) w100 → Sm [0, 26, 27, 28, 29, 30, 31, 32, 33, 34, 35, 36] [(0, 45)] w w100 → (In 1 39 x8_2) → (In 0 38 x18_3) → (fI w100 0 45 = (fI w8 0 45)) → (In 1 40 (fI w8 0 45)) → va_P D vwCl w100 H → va_D A w100 → va_S A s.heap H locs → lv_has ls 4 [(0, .ref (q 0)), (1, .int x18_1), (2, .int x8_2), (3, .int x18_3)] → W p l e R s m args below meth c H locs 0 0 Q (F0 m 100 ls [.int x18_1]) := by
            intro w100 H locs ls hW_w100 hM_w100 i_x100_2 i_x100_3 g100_0_45e g100_0_45 hP hD hS hl
            refine lv_iconst (v := 0) hx hb dX12_doubt_100 (by decide) ?_
            exact J101 0 w100 _ _ ls hW_w100 hM_w100 i_x100_2 i_x100_3 (In_lit (n := 0) (by decide) (by decide) : In 0 1 0) g100_0_45e g18_0_45 hP hD hS (lv_sub hl [0, 1, 2, 3] rfl)
          have J42 : ∀ (w42 : va_W) (H : Heap) (locs : List Loc) (ls : Array Slot), HT q (TM q cI cJ cZ) w42 → Sm [0, 26, 27, 28, 29, 30, 31, 32, 33, 34, 35, 36] [(0, 45)] w w42 → (In 1 39 x8_2) → (In 0 38 x18_3) → (fI w42 0 45 = (fI w8 0 45)) → (In 1 40 (fI w8 0 45)) → va_P D vwCl w42 H → va_D A w42 → va_S A s.heap H locs → lv_has ls 4 [(0, .ref (q 0)), (1, .int x18_1), (2, .int x8_2), (3, .int x18_3)] → W p l e R s m args below meth c H locs 0 0 Q (F0 m 42 ls [.int x18_1]) := by
            intro w42 H locs ls hW_w42 hM_w42 i_x42_2 i_x42_3 g42_0_45e g42_0_45 hP hD hS hl
            refine lv_aload_n hx hb dX12_doubt_42 rfl (lv_at hl 0 rfl) ?_
            refine gt_X12 hx hb hts hown hK hP 0 (hW_w42.o tM_0) 51 (by decide) wd_1452 rfl (hW_w42.fr tM_0 rfl) dX12_doubt_43 ?_
            refine lv_iload_n hx hb dX12_doubt_46 rfl (lv_at hl 2 rfl) ?_
            refine va_iald hx hb hK hP 31 0 (hW_w42.a tM_31) rfl (in_I i_x42_2 (by decide)) dX12_doubt_47 ?_
            refine lv_topi (fun v_2 ev_2 => ?_)
            refine lv_if_eq (tgt := 100) hx hb dX12_doubt_48 (by decide) (fun c_3 => ?_) (fun c_3 => ?_)
            · exact J100 w42 _ _ ls hW_w42 hM_w42 i_x42_2 i_x42_3 g42_0_45e g18_0_45 hP hD hS (lv_sub hl [0, 1, 2, 3] rfl)
            · refine lv_aload_n hx hb dX12_doubt_51 rfl (lv_at hl 0 rfl) ?_
              refine gt_X12 hx hb hts hown hK hP 0 (hW_w42.o tM_0) 51 (by decide) wd_1452 rfl (hW_w42.fr tM_0 rfl) dX12_doubt_52 ?_
              refine lv_iload_n hx hb dX12_doubt_55 rfl (lv_at hl 2 rfl) ?_
              refine va_iald hx hb hK hP 31 0 (hW_w42.a tM_31) rfl (in_I i_x42_2 (by decide)) dX12_doubt_56 ?_
              refine tov (v := v_2) ev_2.symm ?_
              refine lv_aload_n hx hb dX12_doubt_57 rfl (lv_at hl 0 rfl) ?_
              refine gt_X12 hx hb hts hown hK hP 0 (hW_w42.o tM_0) 51 (by decide) wd_1452 rfl (hW_w42.fr tM_0 rfl) dX12_doubt_58 ?_
              refine lv_iload_n hx hb dX12_doubt_61 rfl (lv_at hl 3 rfl) ?_
              refine va_iald hx hb hK hP 31 0 (hW_w42.a tM_31) rfl (in_I i_x42_3 (by decide)) dX12_doubt_62 ?_
              refine lv_topi (fun v_4 ev_4 => ?_)
              refine lv_icmp_ne (tgt := 100) hx hb dX12_doubt_63 (by decide) (fun c_5 => ?_) (fun c_5 => ?_)
              · exact J100 w42 _ _ ls hW_w42 hM_w42 i_x42_2 i_x42_3 g42_0_45e g18_0_45 hP hD hS (lv_sub hl [0, 1, 2, 3] rfl)
              · refine lv_aload_n hx hb dX12_doubt_66 rfl (lv_at hl 0 rfl) ?_
                refine gt_X12 hx hb hts hown hK hP 0 (hW_w42.o tM_0) 50 (by decide) wd_1451 rfl (hW_w42.fr tM_0 rfl) dX12_doubt_67 ?_
                refine lv_iload_n hx hb dX12_doubt_70 rfl (lv_at hl 2 rfl) ?_
                refine va_iald hx hb hK hP 30 0 (hW_w42.a tM_30) rfl (in_I i_x42_2 (by decide)) dX12_doubt_71 ?_
                refine lv_topi (fun v_6 ev_6 => ?_)
                refine lv_aload_n hx hb dX12_doubt_72 rfl (lv_at hl 0 rfl) ?_
                refine gt_X12 hx hb hts hown hK hP 0 (hW_w42.o tM_0) 50 (by decide) wd_1451 rfl (hW_w42.fr tM_0 rfl) dX12_doubt_73 ?_
                refine lv_iload_n hx hb dX12_doubt_76 rfl (lv_at hl 3 rfl) ?_
                refine va_iald hx hb hK hP 30 0 (hW_w42.a tM_30) rfl (in_I i_x42_3 (by decide)) dX12_doubt_77 ?_
                refine lv_topi (fun v_7 ev_7 => ?_)
                refine lv_icmp_ne (tgt := 100) hx hb dX12_doubt_78 (by decide) (fun c_8 => ?_) (fun c_8 => ?_)
                · exact J100 w42 _ _ ls hW_w42 hM_w42 i_x42_2 i_x42_3 g42_0_45e g18_0_45 hP hD hS (lv_sub hl [0, 1, 2, 3] rfl)
                · refine lv_aload_n hx hb dX12_doubt_81 rfl (lv_at hl 0 rfl) ?_
                  refine gt_X12 hx hb hts hown hK hP 0 (hW_w42.o tM_0) 47 (by decide) wd_1448 rfl (hW_w42.fr tM_0 rfl) dX12_doubt_82 ?_
                  refine lv_iload_n hx hb dX12_doubt_85 rfl (lv_at hl 2 rfl) ?_
                  refine va_iald hx hb hK hP 27 0 (hW_w42.a tM_27) rfl (in_I i_x42_2 (by decide)) dX12_doubt_86 ?_
                  refine lv_topi (fun v_9 ev_9 => ?_)
                  refine lv_aload_n hx hb dX12_doubt_87 rfl (lv_at hl 0 rfl) ?_
                  refine gt_X12 hx hb hts hown hK hP 0 (hW_w42.o tM_0) 47 (by decide) wd_1448 rfl (hW_w42.fr tM_0 rfl) dX12_doubt_88 ?_
                  refine lv_iload_n hx hb dX12_doubt_91 rfl (lv_at hl 3 rfl) ?_
                  refine va_iald hx hb hK hP 27 0 (hW_w42.a tM_27) rfl (in_I i_x42_3 (by decide)) dX12_doubt_92 ?_
                  refine lv_topi (fun v_10 ev_10 => ?_)
                  refine lv_icmp_ne (tgt := 100) hx hb dX12_doubt_93 (by decide) (fun c_11 => ?_) (fun c_11 => ?_)
                  · exact J100 w42 _ _ ls hW_w42 hM_w42 i_x42_2 i_x42_3 g42_0_45e g18_0_45 hP hD hS (lv_sub hl [0, 1, 2, 3] rfl)
                  · refine lv_iconst (v := 1) hx hb dX12_doubt_96 (by decide) ?_
                    refine lv_goto (tgt := 101) hx hb dX12_doubt_97 (by decide) ?_
                    exact J101 1 w42 _ _ ls hW_w42 hM_w42 i_x42_2 i_x42_3 (In_lit (n := 1) (by decide) (by decide) : In 0 1 1) g42_0_45e g18_0_45 hP hD hS (lv_sub hl [0, 1, 2, 3] rfl)
          refine lv_iload_n hx hb dX12_doubt_18 rfl (lv_at hl 3 rfl) ?_
          refine lv_iload_n hx hb dX12_doubt_19 rfl (lv_at hl 2 rfl) ?_
          refine lv_icmp_ge (tgt := 109) hx hb dX12_doubt_20 (by decide) (fun c_12 => ?_) (fun c_12 => ?_)
          · refine lv_iinc (v := (x8_2 + 1)) (lv' := [(2, .int (x8_2 + 1)), (0, .ref (q 0)), (1, .int x18_1), (3, .int x18_3)]) hx hb dX12_doubt_109 hl (k := 2) rfl (rfl) (by decide) rfl (fun ls hl => ?_)
            refine lv_goto (tgt := 8) hx hb dX12_doubt_112 (by decide) ?_
            exact ih8 x18_1 (x8_2 + 1) w18 _ _ ls (mu_inc hmu8 i_x18_2 (In_lit (n := 1) (by decide) (by decide) : In 1 1 1) (by decide)) hW_w18 hM_w18 (In_w ((In_add (y := 1) i_x18_2 (In_lit (n := 1) (by decide) (by decide) : In 1 1 1) (by decide)) : In 1 40 (x8_2 + 1)) (by decide) : In 0 40 (x8_2 + 1)) hP hD hS (lv_sub hl [1, 2, 0] rfl)
          · refine lv_iload_n hx hb dX12_doubt_23 rfl (lv_at hl 1 rfl) ?_
            refine lv_aload_n hx hb dX12_doubt_24 rfl (lv_at hl 0 rfl) ?_
            refine gt_X12 hx hb hts hown hK hP 0 (hW_w18.o tM_0) 46 (by decide) wd_1447 rfl (hW_w18.fr tM_0 rfl) dX12_doubt_25 ?_
            refine lv_iload_n hx hb dX12_doubt_28 rfl (lv_at hl 2 rfl) ?_
            refine va_iald hx hb hK hP 26 0 (hW_w18.a tM_26) rfl (in_I (R_nle_l i_x18_2 i_x18_3 c_12 (by decide) : In 1 39 x8_2) (by decide)) dX12_doubt_29 ?_
            refine lv_topi (fun v_13 ev_13 => ?_)
            refine lv_if_eq (tgt := 42) hx hb dX12_doubt_30 (by decide) (fun c_14 => ?_) (fun c_14 => ?_)
            · exact J42 w18 _ _ ls hW_w18 hM_w18 (R_nle_l i_x18_2 i_x18_3 c_12 (by decide) : In 1 39 x8_2) (R_nle_r i_x18_2 i_x18_3 c_12 (by decide) : In 0 38 x18_3) g18_0_45e g18_0_45 hP hD hS (lv_sub hl [0, 1, 2, 3] rfl)
            · refine lv_aload_n hx hb dX12_doubt_33 rfl (lv_at hl 0 rfl) ?_
              refine gt_X12 hx hb hts hown hK hP 0 (hW_w18.o tM_0) 46 (by decide) wd_1447 rfl (hW_w18.fr tM_0 rfl) dX12_doubt_34 ?_
              refine lv_iload_n hx hb dX12_doubt_37 rfl (lv_at hl 3 rfl) ?_
              refine va_iald hx hb hK hP 26 0 (hW_w18.a tM_26) rfl (in_I (R_nle_r i_x18_2 i_x18_3 c_12 (by decide) : In 0 38 x18_3) (by decide)) dX12_doubt_38 ?_
              refine lv_topi (fun v_15 ev_15 => ?_)
              refine lv_if_ne (tgt := 100) hx hb dX12_doubt_39 (by decide) (fun c_16 => ?_) (fun c_16 => ?_)
              · exact J100 w18 _ _ ls hW_w18 hM_w18 (R_nle_l i_x18_2 i_x18_3 c_12 (by decide) : In 1 39 x8_2) (R_nle_r i_x18_2 i_x18_3 c_12 (by decide) : In 0 38 x18_3) g18_0_45e g18_0_45 hP hD hS (lv_sub hl [0, 1, 2, 3] rfl)
              · exact J42 w18 _ _ ls hW_w18 hM_w18 (R_nle_l i_x18_2 i_x18_3 c_12 (by decide) : In 1 39 x8_2) (R_nle_r i_x18_2 i_x18_3 c_12 (by decide) : In 0 38 x18_3) g18_0_45e g18_0_45 hP hD hS (lv_sub hl [0, 1, 2, 3] rfl)
      refine lv_iload_n hx hb dX12_doubt_8 rfl (lv_at hl 2 rfl) ?_
      refine lv_aload_n hx hb dX12_doubt_9 rfl (lv_at hl 0 rfl) ?_
      refine gt_X12 hx hb hts hown hK hP 0 (hW_w8.o tM_0) 45 (by decide) wd_1446 rfl (hW_w8.fi tM_0 rfl) dX12_doubt_10 ?_
      refine lv_icmp_ge (tgt := 115) hx hb dX12_doubt_13 (by decide) (fun c_17 => ?_) (fun c_17 => ?_)
      · refine lv_iload_n hx hb dX12_doubt_115 rfl (lv_at hl 1 rfl) ?_
        exact hret _ _ _ _ _ _ hP hD hS dX12_doubt_116 ⟨hW_w8, hM_w8⟩
      · refine lv_iconst (v := 0) hx hb dX12_doubt_16 (by decide) ?_
        refine lv_istore_n (lv' := [(3, .int 0), (0, .ref (q 0)), (1, .int x8_1), (2, .int x8_2)]) hx hb dX12_doubt_17 rfl hl (by decide) rfl (fun ls hl => ?_)
        exact J18 _ x8_1 0 w8 _ _ ls (Nat.lt_succ_self _) hW_w8 hM_w8 (R_nle_r (hW_w8.fin tM_0 rfl : In 0 40 (fI w8 0 45)) i_x8_2 c_17 (by decide) : In 0 39 x8_2) (In_lit (n := 0) (by decide) (by decide) : In 0 39 0) rfl (R_nle_l (hW_w8.fin tM_0 rfl : In 0 40 (fI w8 0 45)) i_x8_2 c_17 (by decide) : In 1 40 (fI w8 0 45)) hP hD hS (lv_sub hl [1, 2, 3, 0] rfl)
  refine lv_aload_n hx hb dX12_doubt_0 rfl (lv_at hl 0 rfl) ?_
  refine kW_v ⟨rfl, rfl⟩ hP hD hS hA (rW_V (As := []) (rest := []) hx hb hml hown hts hK hE hP hD (k_X12_knows l D cI cJ cZ q w hW_w (LM_cg rfl rfl hLM) _) ⟨⟨rfl, rfl⟩, rfl, rfl⟩ sv_X12_471 ⟨(Nat.le_trans (by decide) hR.1), (Nat.le_trans (by decide) hR.2)⟩ 0 12 (hW_w.o tM_0) rfl rfl rfl hl.1 rfl (Nat.le_of_ble_eq_true rfl) dX12_doubt_1) (fun w_18 H locs hw_w_18 hP hD hS => ?_)
  obtain ⟨hW_w_18, hs_w_18⟩ := hw_w_18
  refine lv_iconst (v := 0) hx hb dX12_doubt_4 (by decide) ?_
  refine lv_istore_n (lv' := [(1, .int 0), (0, .ref (q 0))]) hx hb dX12_doubt_5 rfl hl (by decide) rfl (fun ls hl => ?_)
  refine lv_iconst (v := 0) hx hb dX12_doubt_6 (by decide) ?_
  refine lv_istore_n (lv' := [(2, .int 0), (1, .int 0), (0, .ref (q 0))]) hx hb dX12_doubt_7 rfl hl (by decide) rfl (fun ls hl => ?_)
  exact J8 _ 0 0 w_18 _ _ ls (Nat.lt_succ_self _) hW_w_18 (Sm.rf.tr hs_w_18 (by decide)) (In_lit (n := 0) (by decide) (by decide) : In 0 40 0) hP hD hS (lv_sub hl [2, 1, 0] rfl)
set_option maxRecDepth 100000 in
set_option maxHeartbeats 8000000 in
theorem k_X12_all (l : Launch) (D : va_G) (cI cJ cZ : ClassId) (q : Nat → Nat) (w : va_W) (hW_w : HT q (TM q cI cJ cZ) w) (p1 : Int32) (hLM : LM w) : Con_i l yX12_all cX12_all 2 (some .int) ({ frames := 4, cells := 0, slots := 0, locals := 96 }) D cI cJ cZ eW [.ref (q 0), .int p1] w (fun (r : Int32) (w1 : va_W) => HT q (TM q cI cJ cZ) w1 ∧ Sm [0, 26, 27, 28, 29, 30, 31, 32, 33, 34, 35, 36] [(0, 45)] w w1) := by
  refine eQ_i rfl (by decide) (Nat.le_of_ble_eq_true rfl) ⟨rfl, rfl⟩ ?_
  intro p e R s m args below meth c A Q hx hb hml hown hts hK hE hA hR hret hP hD hS ls hl
  have hown : s.vm.findClass RX12 = some m.cls := hown
  have hl : lv_has ls 2 [(0, .ref (q 0)), (1, .int p1)] := hl
  refine lv_iload_n hx hb dX12_all_0 rfl (lv_at hl 1 rfl) ?_
  by_cases c_1 : p1 = 0
  · have c_1t : (p1 : Int32).toInt = 0 := by rw [c_1]; rfl
    refine lv_tableIn (tgt := 48) hx hb dX12_all_1 (by rw [c_1t]; decide) (by rw [c_1t]; decide) (off := 47) (by rw [c_1t]; rfl) (by decide) ?_
    refine lv_aload_n hx hb dX12_all_48 rfl (lv_at hl 0 rfl) ?_
    refine gt_X12 hx hb hts hown hK hP 0 (hW_w.o tM_0) 14 (by decide) wd_1415 rfl (hW_w.fr tM_0 rfl) dX12_all_49 ?_
    refine lv_aload_n hx hb dX12_all_52 rfl (lv_at hl 0 rfl) ?_
    refine gt_X12 hx hb hts hown hK hP 0 (hW_w.o tM_0) 12 (by decide) wd_1413 rfl (hW_w.fi tM_0 rfl) dX12_all_53 ?_
    refine va_iald hx hb hK hP 2 0 (hW_w.a tM_2) rfl (in_I (hW_w.fin tM_0 rfl : In 0 1 (fI w 0 12)) (by decide)) dX12_all_56 ?_
    refine lv_topi (fun v_2 ev_2 => ?_)
    exact hret _ _ _ _ _ _ hP hD hS dX12_all_57 ⟨hW_w, Sm.rf⟩
  by_cases c_3 : p1 = 1
  · have c_3t : (p1 : Int32).toInt = 1 := by rw [c_3]; rfl
    refine lv_tableIn (tgt := 58) hx hb dX12_all_1 (by rw [c_3t]; decide) (by rw [c_3t]; decide) (off := 57) (by rw [c_3t]; rfl) (by decide) ?_
    refine lv_aload_n hx hb dX12_all_58 rfl (lv_at hl 0 rfl) ?_
    refine gt_X12 hx hb hts hown hK hP 0 (hW_w.o tM_0) 15 (by decide) wd_1416 rfl (hW_w.fr tM_0 rfl) dX12_all_59 ?_
    refine lv_aload_n hx hb dX12_all_62 rfl (lv_at hl 0 rfl) ?_
    refine gt_X12 hx hb hts hown hK hP 0 (hW_w.o tM_0) 12 (by decide) wd_1413 rfl (hW_w.fi tM_0 rfl) dX12_all_63 ?_
    refine va_iald hx hb hK hP 3 0 (hW_w.a tM_3) rfl (in_I (hW_w.fin tM_0 rfl : In 0 1 (fI w 0 12)) (by decide)) dX12_all_66 ?_
    refine lv_topi (fun v_4 ev_4 => ?_)
    exact hret _ _ _ _ _ _ hP hD hS dX12_all_67 ⟨hW_w, Sm.rf⟩
  by_cases c_5 : p1 = 2
  · have c_5t : (p1 : Int32).toInt = 2 := by rw [c_5]; rfl
    refine lv_tableIn (tgt := 68) hx hb dX12_all_1 (by rw [c_5t]; decide) (by rw [c_5t]; decide) (off := 67) (by rw [c_5t]; rfl) (by decide) ?_
    refine lv_aload_n hx hb dX12_all_68 rfl (lv_at hl 0 rfl) ?_
    refine gt_X12 hx hb hts hown hK hP 0 (hW_w.o tM_0) 16 (by decide) wd_1417 rfl (hW_w.fr tM_0 rfl) dX12_all_69 ?_
    refine lv_aload_n hx hb dX12_all_72 rfl (lv_at hl 0 rfl) ?_
    refine gt_X12 hx hb hts hown hK hP 0 (hW_w.o tM_0) 12 (by decide) wd_1413 rfl (hW_w.fi tM_0 rfl) dX12_all_73 ?_
    refine va_iald hx hb hK hP 4 0 (hW_w.a tM_4) rfl (in_I (hW_w.fin tM_0 rfl : In 0 1 (fI w 0 12)) (by decide)) dX12_all_76 ?_
    refine lv_topi (fun v_6 ev_6 => ?_)
    exact hret _ _ _ _ _ _ hP hD hS dX12_all_77 ⟨hW_w, Sm.rf⟩
  by_cases c_7 : p1 = 3
  · have c_7t : (p1 : Int32).toInt = 3 := by rw [c_7]; rfl
    refine lv_tableIn (tgt := 78) hx hb dX12_all_1 (by rw [c_7t]; decide) (by rw [c_7t]; decide) (off := 77) (by rw [c_7t]; rfl) (by decide) ?_
    refine lv_aload_n hx hb dX12_all_78 rfl (lv_at hl 0 rfl) ?_
    refine gt_X12 hx hb hts hown hK hP 0 (hW_w.o tM_0) 37 (by decide) wd_1438 rfl (hW_w.fi tM_0 rfl) dX12_all_79 ?_
    exact hret _ _ _ _ _ _ hP hD hS dX12_all_82 ⟨hW_w, Sm.rf⟩
  by_cases c_8 : p1 = 4
  · have c_8t : (p1 : Int32).toInt = 4 := by rw [c_8]; rfl
    refine lv_tableIn (tgt := 83) hx hb dX12_all_1 (by rw [c_8t]; decide) (by rw [c_8t]; decide) (off := 82) (by rw [c_8t]; rfl) (by decide) ?_
    refine lv_aload_n hx hb dX12_all_83 rfl (lv_at hl 0 rfl) ?_
    refine kW_i ⟨rfl, rfl⟩ hP hD hS hA (rW_V (As := []) (rest := []) hx hb hml hown hts hK hE hP hD (k_X12_now l D cI cJ cZ q w hW_w  _) ⟨⟨rfl, rfl⟩, rfl, rfl⟩ sv_X12_457 ⟨(Nat.le_trans (by decide) hR.1), (Nat.le_trans (by decide) hR.2)⟩ 0 12 (hW_w.o tM_0) rfl rfl rfl hl.1 rfl (Nat.le_of_ble_eq_true rfl) dX12_all_84) (fun r_10 w_9 H locs hw_w_9 hP hD hS => ?_)
    obtain ⟨hW_w_9, hs_w_9, i_r_10⟩ := hw_w_9
    exact hret _ _ _ _ _ _ hP hD hS dX12_all_87 ⟨hW_w_9, (Sm.rf.tr hs_w_9 (by decide))⟩
  by_cases c_11 : p1 = 5
  · have c_11t : (p1 : Int32).toInt = 5 := by rw [c_11]; rfl
    refine lv_tableIn (tgt := 88) hx hb dX12_all_1 (by rw [c_11t]; decide) (by rw [c_11t]; decide) (off := 87) (by rw [c_11t]; rfl) (by decide) ?_
    refine lv_aload_n hx hb dX12_all_88 rfl (lv_at hl 0 rfl) ?_
    refine kW_v ⟨rfl, rfl⟩ hP hD hS hA (rW_V (As := []) (rest := []) hx hb hml hown hts hK hE hP hD (k_X12_knows l D cI cJ cZ q w hW_w (LM_cg rfl rfl hLM) _) ⟨⟨rfl, rfl⟩, rfl, rfl⟩ sv_X12_471 ⟨(Nat.le_trans (by decide) hR.1), (Nat.le_trans (by decide) hR.2)⟩ 0 12 (hW_w.o tM_0) rfl rfl rfl hl.1 rfl (Nat.le_of_ble_eq_true rfl) dX12_all_89) (fun w_12 H locs hw_w_12 hP hD hS => ?_)
    obtain ⟨hW_w_12, hs_w_12⟩ := hw_w_12
    refine lv_aload_n hx hb dX12_all_92 rfl (lv_at hl 0 rfl) ?_
    refine gt_X12 hx hb hts hown hK hP 0 (hW_w_12.o tM_0) 45 (by decide) wd_1446 rfl (hW_w_12.fi tM_0 rfl) dX12_all_93 ?_
    exact hret _ _ _ _ _ _ hP hD hS dX12_all_96 ⟨hW_w_12, (Sm.rf.tr hs_w_12 (by decide))⟩
  by_cases c_14 : p1 = 6
  · have c_14t : (p1 : Int32).toInt = 6 := by rw [c_14]; rfl
    refine lv_tableIn (tgt := 97) hx hb dX12_all_1 (by rw [c_14t]; decide) (by rw [c_14t]; decide) (off := 96) (by rw [c_14t]; rfl) (by decide) ?_
    refine lv_aload_n hx hb dX12_all_97 rfl (lv_at hl 0 rfl) ?_
    refine kW_i ⟨rfl, rfl⟩ hP hD hS hA (rW_V (As := []) (rest := []) hx hb hml hown hts hK hE hP hD (k_X12_doubt l D cI cJ cZ q w hW_w (LM_cg rfl rfl hLM) _) ⟨⟨rfl, rfl⟩, rfl, rfl⟩ sv_X12_509 ⟨(Nat.le_trans (by decide) hR.1), (Nat.le_trans (by decide) hR.2)⟩ 0 12 (hW_w.o tM_0) rfl rfl rfl hl.1 rfl (Nat.le_of_ble_eq_true rfl) dX12_all_98) (fun r_16 w_15 H locs hw_w_15 hP hD hS => ?_)
    obtain ⟨hW_w_15, hs_w_15⟩ := hw_w_15
    exact hret _ _ _ _ _ _ hP hD hS dX12_all_101 ⟨hW_w_15, (Sm.rf.tr hs_w_15 (by decide))⟩
  by_cases c_17 : p1 = 7
  · have c_17t : (p1 : Int32).toInt = 7 := by rw [c_17]; rfl
    refine lv_tableIn (tgt := 102) hx hb dX12_all_1 (by rw [c_17t]; decide) (by rw [c_17t]; decide) (off := 101) (by rw [c_17t]; rfl) (by decide) ?_
    refine lv_aload_n hx hb dX12_all_102 rfl (lv_at hl 0 rfl) ?_
    refine gt_X12 hx hb hts hown hK hP 0 (hW_w.o tM_0) 17 (by decide) wd_1418 rfl (hW_w.fr tM_0 rfl) dX12_all_103 ?_
    refine lv_aload_n hx hb dX12_all_106 rfl (lv_at hl 0 rfl) ?_
    refine gt_X12 hx hb hts hown hK hP 0 (hW_w.o tM_0) 12 (by decide) wd_1413 rfl (hW_w.fi tM_0 rfl) dX12_all_107 ?_
    refine va_iald hx hb hK hP 5 0 (hW_w.a tM_5) rfl (in_I (hW_w.fin tM_0 rfl : In 0 1 (fI w 0 12)) (by decide)) dX12_all_110 ?_
    refine lv_topi (fun v_18 ev_18 => ?_)
    exact hret _ _ _ _ _ _ hP hD hS dX12_all_111 ⟨hW_w, Sm.rf⟩
  refine lv_tableOut (tgt := 112) hx hb dX12_all_1 (by have h0 := lv_neT c_1 (a := 0) (by decide); have h1 := lv_neT c_3 (a := 1) (by decide); have h2 := lv_neT c_5 (a := 2) (by decide); have h3 := lv_neT c_7 (a := 3) (by decide); have h4 := lv_neT c_8 (a := 4) (by decide); have h5 := lv_neT c_11 (a := 5) (by decide); have h6 := lv_neT c_14 (a := 6) (by decide); have h7 := lv_neT c_17 (a := 7) (by decide); omega) (by decide) ?_
  refine lv_iconst (v := (-1)) hx hb dX12_all_112 (by decide) ?_
  exact hret _ _ _ _ _ _ hP hD hS dX12_all_113 ⟨hW_w, Sm.rf⟩
set_option maxRecDepth 100000 in
set_option maxHeartbeats 8000000 in
theorem k_X12_child (l : Launch) (D : va_G) (cI cJ cZ : ClassId) (q : Nat → Nat) (w : va_W) (hW_w : HT q (TM q cI cJ cZ) w) (p1 : Int32) (hLM : LM w) : Con_i l yX12_child cX12_child 2 (some .int) ({ frames := 3, cells := 0, slots := 0, locals := 73 }) D cI cJ cZ eW [.ref (q 0), .int p1] w (fun (r : Int32) (w1 : va_W) => HT q (TM q cI cJ cZ) w1 ∧ Sm [0, 26, 27, 28, 29, 30, 31, 32, 33, 34, 35, 36] [(0, 45)] w w1 ∧ In (-1) 39 r) := by
  refine eQ_i rfl (by decide) (Nat.le_of_ble_eq_true rfl) ⟨rfl, rfl⟩ ?_
  intro p e R s m args below meth c A Q hx hb hml hown hts hK hE hA hR hret hP hD hS ls hl
  have hown : s.vm.findClass RX12 = some m.cls := hown
  have hl : lv_has ls 2 [(0, .ref (q 0)), (1, .int p1)] := hl
  refine lv_iload_n hx hb dX12_child_0 rfl (lv_at hl 1 rfl) ?_
  refine lv_iconst (v := 1) hx hb dX12_child_1 (by decide) ?_
  refine lv_icmp_lt (tgt := 13) hx hb dX12_child_2 (by decide) (fun c_1 => ?_) (fun c_1 => ?_)
  · refine lv_iconst (v := (-1)) hx hb dX12_child_13 (by decide) ?_
    exact hret _ _ _ _ _ _ hP hD hS dX12_child_14 ⟨hW_w, Sm.rf, (In_lit (n := (-1)) (by decide) (by decide) : In (-1) 39 (-1))⟩
  · refine lv_iload_n hx hb dX12_child_5 rfl (lv_at hl 1 rfl) ?_
    refine lv_aload_n hx hb dX12_child_6 rfl (lv_at hl 0 rfl) ?_
    refine gt_X12 hx hb hts hown hK hP 0 (hW_w.o tM_0) 37 (by decide) wd_1438 rfl (hW_w.fi tM_0 rfl) dX12_child_7 ?_
    refine lv_icmp_le (tgt := 15) hx hb dX12_child_10 (by decide) (fun c_2 => ?_) (fun c_2 => ?_)
    · refine lv_aload_n hx hb dX12_child_15 rfl (lv_at hl 0 rfl) ?_
      refine kW_v ⟨rfl, rfl⟩ hP hD hS hA (rW_V (As := []) (rest := []) hx hb hml hown hts hK hE hP hD (k_X12_knows l D cI cJ cZ q w hW_w (LM_cg rfl rfl hLM) _) ⟨⟨rfl, rfl⟩, rfl, rfl⟩ sv_X12_471 ⟨(Nat.le_trans (by decide) hR.1), (Nat.le_trans (by decide) hR.2)⟩ 0 12 (hW_w.o tM_0) rfl rfl rfl hl.1 rfl (Nat.le_of_ble_eq_true rfl) dX12_child_16) (fun w_3 H locs hw_w_3 hP hD hS => ?_)
      obtain ⟨hW_w_3, hs_w_3⟩ := hw_w_3
      refine lv_aload_n hx hb dX12_child_19 rfl (lv_at hl 0 rfl) ?_
      refine gt_X12 hx hb hts hown hK hP 0 (hW_w_3.o tM_0) 56 (by decide) wd_1457 rfl (hW_w_3.fr tM_0 rfl) dX12_child_20 ?_
      refine lv_iload_n hx hb dX12_child_23 rfl (lv_at hl 1 rfl) ?_
      refine va_iald hx hb hK hP 36 0 (hW_w_3.a tM_36) rfl (in_I (R_le_l (R_nlt_l (In_any p1) (In_lit (n := 1) (by decide) (by decide) : In 1 1 1) c_1 (by decide) : In 1 2147483647 p1) (hW_w.fin tM_0 rfl : In 0 200 (fI w 0 37)) c_2 (by decide) : In 1 200 p1) (by decide)) dX12_child_24 ?_
      refine lv_topi (fun v_5 ev_5 => ?_)
      exact hret _ _ _ _ _ _ hP hD hS dX12_child_25 ⟨hW_w_3, (Sm.rf.tr hs_w_3 (by decide)), (In_of ev_5 (hW_w_3.ap tM_36 _) : In (-1) 39 v_5)⟩
    · refine lv_iconst (v := (-1)) hx hb dX12_child_13 (by decide) ?_
      exact hret _ _ _ _ _ _ hP hD hS dX12_child_14 ⟨hW_w, Sm.rf, (In_lit (n := (-1)) (by decide) (by decide) : In (-1) 39 (-1))⟩
set_option maxRecDepth 100000 in
set_option maxHeartbeats 8000000 in
theorem k_X12_row (l : Launch) (D : va_G) (cI cJ cZ : ClassId) (q : Nat → Nat) (w : va_W) (hW_w : HT q (TM q cI cJ cZ) w) (p1 : Int32) (i_p1 : In 0 23 p1) (hf_0_45 : In 1 40 (fI w 0 45)) : Con_i l yX12_row cX12_row 2 (some .int) ({ frames := 0, cells := 0, slots := 0, locals := 0 }) D cI cJ cZ eW [.ref (q 0), .int p1] w (fun (r : Int32) (w1 : va_W) => HT q (TM q cI cJ cZ) w1 ∧ Sm [] [] w w1 ∧ In 0 329 r) := by
  refine eQ_i rfl (by decide) (Nat.le_of_ble_eq_true rfl) ⟨rfl, rfl⟩ ?_
  intro p e R s m args below meth c A Q hx hb hml hown hts hK hE hA hR hret hP hD hS ls hl
  have hown : s.vm.findClass RX12 = some m.cls := hown
  have hl : lv_has ls 2 [(0, .ref (q 0)), (1, .int p1)] := hl
  refine lv_sipush (v := 168) hx hb dX12_row_0 (by decide) ?_
  refine lv_aload_n hx hb dX12_row_3 rfl (lv_at hl 0 rfl) ?_
  refine gt_X12 hx hb hts hown hK hP 0 (hW_w.o tM_0) 12 (by decide) wd_1413 rfl (hW_w.fi tM_0 rfl) dX12_row_4 ?_
  refine lv_imul hx hb dX12_row_7 ?_
  refine lv_bipush (v := 7) hx hb dX12_row_8 (by decide) ?_
  refine lv_iload_n hx hb dX12_row_10 rfl (lv_at hl 1 rfl) ?_
  refine lv_imul hx hb dX12_row_11 ?_
  refine lv_iadd hx hb dX12_row_12 ?_
  exact hret _ _ _ _ _ _ hP hD hS dX12_row_13 ⟨hW_w, Sm.rf, ((In_add ((In_mull (hW_w.fin tM_0 rfl : In 0 1 (fI w 0 12)) (n := 168) (by decide) (by decide)) : In 0 168 (168 * (fI w 0 12))) ((In_mull i_p1 (n := 7) (by decide) (by decide)) : In 0 161 (7 * p1)) (by decide)) : In 0 329 ((168 * (fI w 0 12)) + (7 * p1)))⟩
set_option maxRecDepth 100000 in
set_option maxHeartbeats 8000000 in
theorem k_X12_inHouse (l : Launch) (D : va_G) (cI cJ cZ : ClassId) (q : Nat → Nat) (w : va_W) (hW_w : HT q (TM q cI cJ cZ) w) (p1 : Int32) (i_p1 : In 0 39 p1) (hf_0_45 : In 1 40 (fI w 0 45)) : Con_i l yX12_inHouse cX12_inHouse 4 (some .int) ({ frames := 0, cells := 0, slots := 0, locals := 0 }) D cI cJ cZ eW [.ref (q 0), .int p1] w (fun (r : Int32) (w1 : va_W) => HT q (TM q cI cJ cZ) w1 ∧ Sm [] [] w w1) := by
  refine eQ_i rfl (by decide) (Nat.le_of_ble_eq_true rfl) ⟨rfl, rfl⟩ ?_
  intro p e R s m args below meth c A Q hx hb hml hown hts hK hE hA hR hret hP hD hS ls hl
  have hown : s.vm.findClass RX12 = some m.cls := hown
  have hl : lv_has ls 4 [(0, .ref (q 0)), (1, .int p1)] := hl
  have J15 : ∀ (N : Nat) (x15_2 : Int32) (x15_3 : Int32) (w15 : va_W) (H : Heap) (locs : List Loc) (ls : Array Slot), (40 - x15_3.toInt).toNat < N → HT q (TM q cI cJ cZ) w15 → Sm [] [] w w15 → (In 0 39 p1) → (In 0 40 x15_3) → (In 1 40 (fI w15 0 45)) → va_P D vwCl w15 H → va_D A w15 → va_S A s.heap H locs → lv_has ls 4 [(0, .ref (q 0)), (1, .int p1), (2, .int x15_2), (3, .int x15_3)] → W p l e R s m args below meth c H locs 0 0 Q (F0 m 15 ls []) := by
    intro N
    induction N with
    | zero => intro x15_2 x15_3 w15 H locs ls hmu; exact absurd hmu (Nat.not_lt_zero _)
    | succ N ih15 =>
      intro x15_2 x15_3 w15 H locs ls hmu15 hW_w15 hM_w15 i_x15_1 i_x15_3 g15_0_45 hP hD hS hl
      have J44 : ∀ (y44_0 : Int32) (w44 : va_W) (H : Heap) (locs : List Loc) (ls : Array Slot), HT q (TM q cI cJ cZ) w44 → Sm [] [] w w44 → (In 0 39 p1) → (In 0 39 x15_3) → (In 0 1 y44_0) → (In 1 40 (fI w44 0 45)) → va_P D vwCl w44 H → va_D A w44 → va_S A s.heap H locs → lv_has ls 4 [(0, .ref (q 0)), (1, .int p1), (2, .int x15_2), (3, .int x15_3)] → W p l e R s m args below meth c H locs 0 0 Q (F0 m 44 ls [.int y44_0, .int x15_2]) := by
        intro y44_0 w44 H locs ls hW_w44 hM_w44 i_x44_1 i_x44_3 i_y44_0 g44_0_45 hP hD hS hl
        refine lv_iadd hx hb dX12_inHouse_44 ?_
        refine lv_topi (fun v_1 ev_1 => ?_)
        refine lv_istore_n (lv' := [(2, .int v_1), (0, .ref (q 0)), (1, .int p1), (3, .int x15_3)]) hx hb dX12_inHouse_45 rfl hl (by decide) rfl (fun ls hl => ?_)
        refine lv_iinc (v := (x15_3 + 1)) (lv' := [(3, .int (x15_3 + 1)), (2, .int v_1), (0, .ref (q 0)), (1, .int p1)]) hx hb dX12_inHouse_46 hl (k := 3) rfl (rfl) (by decide) rfl (fun ls hl => ?_)
        refine lv_goto (tgt := 15) hx hb dX12_inHouse_49 (by decide) ?_
        exact ih15 v_1 (x15_3 + 1) w44 _ _ ls (mu_inc hmu15 i_x44_3 (In_lit (n := 1) (by decide) (by decide) : In 1 1 1) (by decide)) hW_w44 hM_w44 i_p1 (In_w ((In_add (y := 1) i_x44_3 (In_lit (n := 1) (by decide) (by decide) : In 1 1 1) (by decide)) : In 1 40 (x15_3 + 1)) (by decide) : In 0 40 (x15_3 + 1)) (In_of (hM_w44.gI (by decide)) (In_of (hM_w44.gI (by decide)).symm g44_0_45)) hP hD hS (lv_sub hl [2, 3, 1, 0] rfl)
      refine lv_iload_n hx hb dX12_inHouse_15 rfl (lv_at hl 3 rfl) ?_
      refine lv_aload_n hx hb dX12_inHouse_16 rfl (lv_at hl 0 rfl) ?_
      refine gt_X12 hx hb hts hown hK hP 0 (hW_w15.o tM_0) 45 (by decide) wd_1446 rfl (hW_w15.fi tM_0 rfl) dX12_inHouse_17 ?_
      refine tov (v := (fI w 0 45)) (hM_w15.gI (by decide)) ?_
      refine lv_icmp_ge (tgt := 52) hx hb dX12_inHouse_20 (by decide) (fun c_2 => ?_) (fun c_2 => ?_)
      · refine lv_iload_n hx hb dX12_inHouse_52 rfl (lv_at hl 2 rfl) ?_
        exact hret _ _ _ _ _ _ hP hD hS dX12_inHouse_53 ⟨hW_w15, hM_w15⟩
      · refine lv_iload_n hx hb dX12_inHouse_23 rfl (lv_at hl 2 rfl) ?_
        refine lv_aload_n hx hb dX12_inHouse_24 rfl (lv_at hl 0 rfl) ?_
        refine gt_X12 hx hb hts hown hK hP 0 (hW_w15.o tM_0) 51 (by decide) wd_1452 rfl (hW_w15.fr tM_0 rfl) dX12_inHouse_25 ?_
        refine lv_iload_n hx hb dX12_inHouse_28 rfl (lv_at hl 3 rfl) ?_
        refine va_iald hx hb hK hP 31 0 (hW_w15.a tM_31) rfl (in_I (R_nle_r (In_of (hM_w15.gI (by decide)).symm g15_0_45) i_x15_3 c_2 (by decide) : In 0 39 x15_3) (by decide)) dX12_inHouse_29 ?_
        refine lv_topi (fun v_3 ev_3 => ?_)
        refine lv_aload_n hx hb dX12_inHouse_30 rfl (lv_at hl 0 rfl) ?_
        refine gt_X12 hx hb hts hown hK hP 0 (hW_w15.o tM_0) 51 (by decide) wd_1452 rfl (hW_w15.fr tM_0 rfl) dX12_inHouse_31 ?_
        refine lv_iload_n hx hb dX12_inHouse_34 rfl (lv_at hl 1 rfl) ?_
        refine va_iald hx hb hK hP 31 0 (hW_w15.a tM_31) rfl (in_I i_p1 (by decide)) dX12_inHouse_35 ?_
        refine lv_topi (fun v_4 ev_4 => ?_)
        refine lv_icmp_ne (tgt := 43) hx hb dX12_inHouse_36 (by decide) (fun c_5 => ?_) (fun c_5 => ?_)
        · refine lv_iconst (v := 0) hx hb dX12_inHouse_43 (by decide) ?_
          exact J44 0 w15 _ _ ls hW_w15 hM_w15 i_p1 (R_nle_r (In_of (hM_w15.gI (by decide)).symm g15_0_45) i_x15_3 c_2 (by decide) : In 0 39 x15_3) (In_lit (n := 0) (by decide) (by decide) : In 0 1 0) (In_of (hM_w15.gI (by decide)) (In_of (hM_w15.gI (by decide)).symm g15_0_45)) hP hD hS (lv_sub hl [0, 1, 2, 3] rfl)
        · refine lv_iconst (v := 1) hx hb dX12_inHouse_39 (by decide) ?_
          refine lv_goto (tgt := 44) hx hb dX12_inHouse_40 (by decide) ?_
          exact J44 1 w15 _ _ ls hW_w15 hM_w15 i_p1 (R_nle_r (In_of (hM_w15.gI (by decide)).symm g15_0_45) i_x15_3 c_2 (by decide) : In 0 39 x15_3) (In_lit (n := 1) (by decide) (by decide) : In 0 1 1) (In_of (hM_w15.gI (by decide)) (In_of (hM_w15.gI (by decide)).symm g15_0_45)) hP hD hS (lv_sub hl [0, 1, 2, 3] rfl)
  refine lv_aload_n hx hb dX12_inHouse_0 rfl (lv_at hl 0 rfl) ?_
  refine gt_X12 hx hb hts hown hK hP 0 (hW_w.o tM_0) 51 (by decide) wd_1452 rfl (hW_w.fr tM_0 rfl) dX12_inHouse_1 ?_
  refine lv_iload_n hx hb dX12_inHouse_4 rfl (lv_at hl 1 rfl) ?_
  refine va_iald hx hb hK hP 31 0 (hW_w.a tM_31) rfl (in_I i_p1 (by decide)) dX12_inHouse_5 ?_
  refine lv_topi (fun v_6 ev_6 => ?_)
  refine lv_if_ne (tgt := 11) hx hb dX12_inHouse_6 (by decide) (fun c_7 => ?_) (fun c_7 => ?_)
  · refine lv_iconst (v := 0) hx hb dX12_inHouse_11 (by decide) ?_
    refine lv_istore_n (lv' := [(2, .int 0), (0, .ref (q 0)), (1, .int p1)]) hx hb dX12_inHouse_12 rfl hl (by decide) rfl (fun ls hl => ?_)
    refine lv_iconst (v := 0) hx hb dX12_inHouse_13 (by decide) ?_
    refine lv_istore_n (lv' := [(3, .int 0), (2, .int 0), (0, .ref (q 0)), (1, .int p1)]) hx hb dX12_inHouse_14 rfl hl (by decide) rfl (fun ls hl => ?_)
    exact J15 _ 0 0 w _ _ ls (Nat.lt_succ_self _) hW_w Sm.rf i_p1 (In_lit (n := 0) (by decide) (by decide) : In 0 40 0) hf_0_45 hP hD hS (lv_sub hl [2, 3, 1, 0] rfl)
  · refine lv_iconst (v := 1) hx hb dX12_inHouse_9 (by decide) ?_
    exact hret _ _ _ _ _ _ hP hD hS dX12_inHouse_10 ⟨hW_w, Sm.rf⟩
set_option maxRecDepth 100000 in
set_option maxHeartbeats 8000000 in
theorem k_X12_leaf (l : Launch) (D : va_G) (cI cJ cZ : ClassId) (q : Nat → Nat) (w : va_W) (hW_w : HT q (TM q cI cJ cZ) w) (p1 : Int32) (p2 : Int32) (p3 : Int32) (p4 : Int32) (p5 : Int32) (i_p1 : In (-2147483648) 9 p1) (i_p2 : In 0 1099 p2) (i_p4 : In 0 39 p4) (i_p5 : In 0 9 p5) (hf_0_45 : In 1 40 (fI w 0 45)) : Con_l l yX12_leaf cX12_leaf 6 (some .long) ({ frames := 1, cells := 0, slots := 0, locals := 24 }) D cI cJ cZ eW [.ref (q 0), .int p1, .int p2, .int p3, .int p4, .int p5] w (fun (r : Int64) (w1 : va_W) => HT q (TM q cI cJ cZ) w1 ∧ Sm [] [] w w1) := by
  refine eQ_l rfl (by decide) (Nat.le_of_ble_eq_true rfl) ⟨rfl, rfl⟩ ?_
  intro p e R s m args below meth c A Q hx hb hml hown hts hK hE hA hR hret hP hD hS ls hl
  have hown : s.vm.findClass RX12 = some m.cls := hown
  have hl : lv_has ls 6 [(0, .ref (q 0)), (1, .int p1), (2, .int p2), (3, .int p3), (4, .int p4), (5, .int p5)] := hl
  refine lv_iload_n hx hb dX12_leaf_0 rfl (lv_at hl 1 rfl) ?_
  by_cases c_1 : p1 = 0
  · have c_1t : (p1 : Int32).toInt = 0 := by rw [c_1]; rfl
    refine lv_tableIn (tgt := 52) hx hb dX12_leaf_1 (by rw [c_1t]; decide) (by rw [c_1t]; decide) (off := 51) (by rw [c_1t]; rfl) (by decide) ?_
    refine lv_iload_n hx hb dX12_leaf_52 rfl (lv_at hl 3 rfl) ?_
    refine lv_i2l hx hb dX12_leaf_53 rfl ?_
    refine lv_topl (fun v_2 ev_2 => ?_)
    exact hret _ _ _ _ _ _ hP hD hS dX12_leaf_54 ⟨hW_w, Sm.rf⟩
  by_cases c_3 : p1 = 1
  · have c_3t : (p1 : Int32).toInt = 1 := by rw [c_3]; rfl
    refine lv_tableIn (tgt := 55) hx hb dX12_leaf_1 (by rw [c_3t]; decide) (by rw [c_3t]; decide) (off := 54) (by rw [c_3t]; rfl) (by decide) ?_
    refine lv_aload_n hx hb dX12_leaf_55 rfl (lv_at hl 0 rfl) ?_
    refine gt_X12 hx hb hts hown hK hP 0 (hW_w.o tM_0) 47 (by decide) wd_1448 rfl (hW_w.fr tM_0 rfl) dX12_leaf_56 ?_
    refine lv_iload hx hb dX12_leaf_59 (lv_at hl 4 rfl) ?_
    refine va_iald hx hb hK hP 27 0 (hW_w.a tM_27) rfl (in_I i_p4 (by decide)) dX12_leaf_61 ?_
    refine lv_topi (fun v_4 ev_4 => ?_)
    refine lv_i2l hx hb dX12_leaf_62 rfl ?_
    refine lv_topl (fun v_5 ev_5 => ?_)
    exact hret _ _ _ _ _ _ hP hD hS dX12_leaf_63 ⟨hW_w, Sm.rf⟩
  by_cases c_6 : p1 = 2
  · have c_6t : (p1 : Int32).toInt = 2 := by rw [c_6]; rfl
    refine lv_tableIn (tgt := 64) hx hb dX12_leaf_1 (by rw [c_6t]; decide) (by rw [c_6t]; decide) (off := 63) (by rw [c_6t]; rfl) (by decide) ?_
    refine lv_aload_n hx hb dX12_leaf_64 rfl (lv_at hl 0 rfl) ?_
    refine gt_X12 hx hb hts hown hK hP 0 (hW_w.o tM_0) 49 (by decide) wd_1450 rfl (hW_w.fr tM_0 rfl) dX12_leaf_65 ?_
    refine lv_iload hx hb dX12_leaf_68 (lv_at hl 4 rfl) ?_
    refine va_iald hx hb hK hP 29 0 (hW_w.a tM_29) rfl (in_I i_p4 (by decide)) dX12_leaf_70 ?_
    refine lv_topi (fun v_7 ev_7 => ?_)
    refine lv_aload_n hx hb dX12_leaf_71 rfl (lv_at hl 0 rfl) ?_
    refine gt_X12 hx hb hts hown hK hP 0 (hW_w.o tM_0) 48 (by decide) wd_1449 rfl (hW_w.fr tM_0 rfl) dX12_leaf_72 ?_
    refine lv_iload hx hb dX12_leaf_75 (lv_at hl 4 rfl) ?_
    refine va_iald hx hb hK hP 28 0 (hW_w.a tM_28) rfl (in_I i_p4 (by decide)) dX12_leaf_77 ?_
    refine lv_topi (fun v_8 ev_8 => ?_)
    refine lv_isub hx hb dX12_leaf_78 ?_
    refine lv_topi (fun v_9 ev_9 => ?_)
    refine lv_i2l hx hb dX12_leaf_79 rfl ?_
    refine lv_topl (fun v_10 ev_10 => ?_)
    exact hret _ _ _ _ _ _ hP hD hS dX12_leaf_80 ⟨hW_w, Sm.rf⟩
  by_cases c_11 : p1 = 3
  · have c_11t : (p1 : Int32).toInt = 3 := by rw [c_11]; rfl
    refine lv_tableIn (tgt := 81) hx hb dX12_leaf_1 (by rw [c_11t]; decide) (by rw [c_11t]; decide) (off := 80) (by rw [c_11t]; rfl) (by decide) ?_
    refine lv_aload_n hx hb dX12_leaf_81 rfl (lv_at hl 0 rfl) ?_
    refine gt_X12 hx hb hts hown hK hP 0 (hW_w.o tM_0) 50 (by decide) wd_1451 rfl (hW_w.fr tM_0 rfl) dX12_leaf_82 ?_
    refine lv_iload hx hb dX12_leaf_85 (lv_at hl 4 rfl) ?_
    refine va_iald hx hb hK hP 30 0 (hW_w.a tM_30) rfl (in_I i_p4 (by decide)) dX12_leaf_87 ?_
    refine lv_topi (fun v_12 ev_12 => ?_)
    refine lv_i2l hx hb dX12_leaf_88 rfl ?_
    refine lv_topl (fun v_13 ev_13 => ?_)
    exact hret _ _ _ _ _ _ hP hD hS dX12_leaf_89 ⟨hW_w, Sm.rf⟩
  by_cases c_14 : p1 = 4
  · have c_14t : (p1 : Int32).toInt = 4 := by rw [c_14]; rfl
    refine lv_tableIn (tgt := 90) hx hb dX12_leaf_1 (by rw [c_14t]; decide) (by rw [c_14t]; decide) (off := 89) (by rw [c_14t]; rfl) (by decide) ?_
    refine lv_aload_n hx hb dX12_leaf_90 rfl (lv_at hl 0 rfl) ?_
    refine lv_iload hx hb dX12_leaf_91 (lv_at hl 4 rfl) ?_
    refine kW_i ⟨rfl, rfl⟩ hP hD hS hA (rW_V (As := [.int p4]) (rest := []) hx hb hml hown hts hK hE hP hD (k_X12_inHouse l D cI cJ cZ q w hW_w p4 i_p4 hf_0_45 _) ⟨⟨rfl, rfl⟩, rfl, rfl⟩ sv_X12_478 ⟨(Nat.le_trans (by decide) hR.1), (Nat.le_trans (by decide) hR.2)⟩ 0 12 (hW_w.o tM_0) rfl rfl rfl hl.1 rfl (Nat.le_of_ble_eq_true rfl) dX12_leaf_93) (fun r_16 w_15 H locs hw_w_15 hP hD hS => ?_)
    obtain ⟨hW_w_15, hs_w_15⟩ := hw_w_15
    refine lv_i2l hx hb dX12_leaf_96 rfl ?_
    refine lv_topl (fun v_17 ev_17 => ?_)
    exact hret _ _ _ _ _ _ hP hD hS dX12_leaf_97 ⟨hW_w_15, (Sm.rf.tr hs_w_15 (by decide))⟩
  by_cases c_18 : p1 = 5
  · have c_18t : (p1 : Int32).toInt = 5 := by rw [c_18]; rfl
    refine lv_tableIn (tgt := 98) hx hb dX12_leaf_1 (by rw [c_18t]; decide) (by rw [c_18t]; decide) (off := 97) (by rw [c_18t]; rfl) (by decide) ?_
    refine lv_aload_n hx hb dX12_leaf_98 rfl (lv_at hl 0 rfl) ?_
    refine gt_X12 hx hb hts hown hK hP 0 (hW_w.o tM_0) 53 (by decide) wd_1454 rfl (hW_w.fr tM_0 rfl) dX12_leaf_99 ?_
    refine lv_iload hx hb dX12_leaf_102 (lv_at hl 4 rfl) ?_
    refine va_iald hx hb hK hP 33 0 (hW_w.a tM_33) rfl (in_I i_p4 (by decide)) dX12_leaf_104 ?_
    refine lv_topi (fun v_19 ev_19 => ?_)
    refine lv_i2l hx hb dX12_leaf_105 rfl ?_
    refine lv_topl (fun v_20 ev_20 => ?_)
    exact hret _ _ _ _ _ _ hP hD hS dX12_leaf_106 ⟨hW_w, Sm.rf⟩
  by_cases c_21 : p1 = 6
  · have c_21t : (p1 : Int32).toInt = 6 := by rw [c_21]; rfl
    refine lv_tableIn (tgt := 107) hx hb dX12_leaf_1 (by rw [c_21t]; decide) (by rw [c_21t]; decide) (off := 106) (by rw [c_21t]; rfl) (by decide) ?_
    refine lv_lconst (v := 1) hx hb dX12_leaf_107 (by decide) ?_
    exact hret _ _ _ _ _ _ hP hD hS dX12_leaf_108 ⟨hW_w, Sm.rf⟩
  by_cases c_22 : p1 = 7
  · have c_22t : (p1 : Int32).toInt = 7 := by rw [c_22]; rfl
    refine lv_tableIn (tgt := 109) hx hb dX12_leaf_1 (by rw [c_22t]; decide) (by rw [c_22t]; decide) (off := 108) (by rw [c_22t]; rfl) (by decide) ?_
    refine lv_aload_n hx hb dX12_leaf_109 rfl (lv_at hl 0 rfl) ?_
    refine lv_iload hx hb dX12_leaf_110 (lv_at hl 4 rfl) ?_
    refine lv_aload_n hx hb dX12_leaf_112 rfl (lv_at hl 0 rfl) ?_
    refine gt_X12 hx hb hts hown hK hP 0 (hW_w.o tM_0) 27 (by decide) wd_1428 rfl (hW_w.fr tM_0 rfl) dX12_leaf_113 ?_
    refine lv_sipush (v := 1100) hx hb dX12_leaf_116 (by decide) ?_
    refine lv_aload_n hx hb dX12_leaf_119 rfl (lv_at hl 0 rfl) ?_
    refine gt_X12 hx hb hts hown hK hP 0 (hW_w.o tM_0) 12 (by decide) wd_1413 rfl (hW_w.fi tM_0 rfl) dX12_leaf_120 ?_
    refine lv_imul hx hb dX12_leaf_123 ?_
    refine lv_iload_n hx hb dX12_leaf_124 rfl (lv_at hl 2 rfl) ?_
    refine lv_iadd hx hb dX12_leaf_125 ?_
    refine va_lald hx hb hK hP 15 1 (hW_w.al tM_15) rfl (in_I ((In_add ((In_mull (hW_w.fin tM_0 rfl : In 0 1 (fI w 0 12)) (n := 1100) (by decide) (by decide)) : In 0 1100 (1100 * (fI w 0 12))) i_p2 (by decide)) : In 0 2199 ((1100 * (fI w 0 12)) + p2)) (by decide)) dX12_leaf_126 ?_
    refine lv_topl (fun v_23 ev_23 => ?_)
    refine kW_i ⟨rfl, rfl⟩ hP hD hS hA (rW_V (As := [.int p4, .long v_23]) (rest := []) hx hb hml hown hts hK hE hP hD (k_X12_hasWish l D cI cJ cZ q w hW_w p4 v_23 i_p4 _) ⟨⟨rfl, rfl⟩, rfl, rfl⟩ sv_X12_467 ⟨(Nat.le_trans (by decide) hR.1), (Nat.le_trans (by decide) hR.2)⟩ 0 12 (hW_w.o tM_0) rfl rfl rfl hl.1 rfl (Nat.le_of_ble_eq_true rfl) dX12_leaf_127) (fun r_25 w_24 H locs hw_w_24 hP hD hS => ?_)
    obtain ⟨hW_w_24, hs_w_24, i_r_25⟩ := hw_w_24
    refine lv_if_eq (tgt := 137) hx hb dX12_leaf_130 (by decide) (fun c_26 => ?_) (fun c_26 => ?_)
    · refine lv_lconst (v := 0) hx hb dX12_leaf_137 (by decide) ?_
      exact hret _ _ _ _ _ _ hP hD hS dX12_leaf_138 ⟨hW_w_24, (Sm.rf.tr hs_w_24 (by decide))⟩
    · refine lv_lconst (v := 1) hx hb dX12_leaf_133 (by decide) ?_
      refine lv_goto (tgt := 138) hx hb dX12_leaf_134 (by decide) ?_
      exact hret _ _ _ _ _ _ hP hD hS dX12_leaf_138 ⟨hW_w_24, (Sm.rf.tr hs_w_24 (by decide))⟩
  by_cases c_27 : p1 = 8
  · have c_27t : (p1 : Int32).toInt = 8 := by rw [c_27]; rfl
    refine lv_tableIn (tgt := 139) hx hb dX12_leaf_1 (by rw [c_27t]; decide) (by rw [c_27t]; decide) (off := 138) (by rw [c_27t]; rfl) (by decide) ?_
    refine lv_iload hx hb dX12_leaf_139 (lv_at hl 5 rfl) ?_
    refine lv_iload_n hx hb dX12_leaf_141 rfl (lv_at hl 3 rfl) ?_
    refine lv_icmp_ne (tgt := 149) hx hb dX12_leaf_142 (by decide) (fun c_28 => ?_) (fun c_28 => ?_)
    · refine lv_lconst (v := 0) hx hb dX12_leaf_149 (by decide) ?_
      exact hret _ _ _ _ _ _ hP hD hS dX12_leaf_150 ⟨hW_w, Sm.rf⟩
    · refine lv_lconst (v := 1) hx hb dX12_leaf_145 (by decide) ?_
      refine lv_goto (tgt := 150) hx hb dX12_leaf_146 (by decide) ?_
      exact hret _ _ _ _ _ _ hP hD hS dX12_leaf_150 ⟨hW_w, Sm.rf⟩
  refine lv_tableOut (tgt := 151) hx hb dX12_leaf_1 (by have h0 := lv_neT c_1 (a := 0) (by decide); have h1 := lv_neT c_3 (a := 1) (by decide); have h2 := lv_neT c_6 (a := 2) (by decide); have h3 := lv_neT c_11 (a := 3) (by decide); have h4 := lv_neT c_14 (a := 4) (by decide); have h5 := lv_neT c_18 (a := 5) (by decide); have h6 := lv_neT c_21 (a := 6) (by decide); have h7 := lv_neT c_22 (a := 7) (by decide); have h8 := lv_neT c_27 (a := 8) (by decide); omega) (by decide) ?_
  refine lv_aload_n hx hb dX12_leaf_151 rfl (lv_at hl 0 rfl) ?_
  refine gt_X12 hx hb hts hown hK hP 0 (hW_w.o tM_0) 23 (by decide) wd_1424 rfl (hW_w.fr tM_0 rfl) dX12_leaf_152 ?_
  refine lv_bipush (v := 10) hx hb dX12_leaf_155 (by decide) ?_
  refine lv_aload_n hx hb dX12_leaf_157 rfl (lv_at hl 0 rfl) ?_
  refine gt_X12 hx hb hts hown hK hP 0 (hW_w.o tM_0) 12 (by decide) wd_1413 rfl (hW_w.fi tM_0 rfl) dX12_leaf_158 ?_
  refine lv_imul hx hb dX12_leaf_161 ?_
  refine lv_iload hx hb dX12_leaf_162 (lv_at hl 5 rfl) ?_
  refine lv_iadd hx hb dX12_leaf_164 ?_
  refine va_iald hx hb hK hP 11 0 (hW_w.a tM_11) rfl (in_I ((In_add ((In_mull (hW_w.fin tM_0 rfl : In 0 1 (fI w 0 12)) (n := 10) (by decide) (by decide)) : In 0 10 (10 * (fI w 0 12))) i_p5 (by decide)) : In 0 19 ((10 * (fI w 0 12)) + p5)) (by decide)) dX12_leaf_165 ?_
  refine lv_topi (fun v_29 ev_29 => ?_)
  refine lv_iload_n hx hb dX12_leaf_166 rfl (lv_at hl 3 rfl) ?_
  refine lv_ishr hx hb dX12_leaf_167 ?_
  refine lv_topi (fun v_30 ev_30 => ?_)
  refine lv_iconst (v := 1) hx hb dX12_leaf_168 (by decide) ?_
  refine lv_iand hx hb dX12_leaf_169 ?_
  refine lv_i2l hx hb dX12_leaf_170 rfl ?_
  refine lv_topl (fun v_31 ev_31 => ?_)
  exact hret _ _ _ _ _ _ hP hD hS dX12_leaf_171 ⟨hW_w, Sm.rf⟩
set_option maxRecDepth 100000 in
set_option maxHeartbeats 8000000 in
theorem k_X12_held (l : Launch) (D : va_G) (cI cJ cZ : ClassId) (q : Nat → Nat) (w : va_W) (hW_w : HT q (TM q cI cJ cZ) w) (p0 : Int64) (hf_0_45 : In 1 40 (fI w 0 45)) : Con_l l yX12_held cX12_held 2 (some .long) ({ frames := 0, cells := 0, slots := 0, locals := 0 }) D cI cJ cZ eW [.long p0] w (fun (r : Int64) (w1 : va_W) => HT q (TM q cI cJ cZ) w1 ∧ Sm [] [] w w1) := by
  refine eQ_l rfl (by decide) (Nat.le_of_ble_eq_true rfl) ⟨rfl, rfl⟩ ?_
  intro p e R s m args below meth c A Q hx hb hml hown hts hK hE hA hR hret hP hD hS ls hl
  have hown : s.vm.findClass RX12 = some m.cls := hown
  have hl : lv_has ls 2 [(0, .long p0)] := hl
  refine lv_lload_n hx hb dX12_held_0 rfl (lv_at hl 0 rfl) ?_
  refine lv_ldc2 hx hb hown (hts _ wd_1951) dX12_held_1 ?_
  refine W.lcmp hx hb dX12_held_4 ?_
  refine lv_topi (fun v_1 ev_1 => ?_)
  refine lv_if_le (tgt := 14) hx hb dX12_held_5 (by decide) (fun c_2 => ?_) (fun c_2 => ?_)
  · refine lv_lload_n hx hb dX12_held_14 rfl (lv_at hl 0 rfl) ?_
    refine lv_ldc2 hx hb hown (hts _ wd_1952) dX12_held_15 ?_
    refine W.lcmp hx hb dX12_held_18 ?_
    refine lv_topi (fun v_3 ev_3 => ?_)
    refine lv_if_ge (tgt := 28) hx hb dX12_held_19 (by decide) (fun c_4 => ?_) (fun c_4 => ?_)
    · refine lv_lload_n hx hb dX12_held_28 rfl (lv_at hl 0 rfl) ?_
      exact hret _ _ _ _ _ _ hP hD hS dX12_held_29 ⟨hW_w, Sm.rf⟩
    · refine lv_ldc2 hx hb hown (hts _ wd_1952) dX12_held_22 ?_
      refine lv_goto (tgt := 29) hx hb dX12_held_25 (by decide) ?_
      exact hret _ _ _ _ _ _ hP hD hS dX12_held_29 ⟨hW_w, Sm.rf⟩
  · refine lv_ldc2 hx hb hown (hts _ wd_1951) dX12_held_8 ?_
    refine lv_goto (tgt := 29) hx hb dX12_held_11 (by decide) ?_
    exact hret _ _ _ _ _ _ hP hD hS dX12_held_29 ⟨hW_w, Sm.rf⟩
set_option maxRecDepth 100000 in
set_option maxHeartbeats 8000000 in
theorem k_X12_two (l : Launch) (D : va_G) (cI cJ cZ : ClassId) (q : Nat → Nat) (w : va_W) (hW_w : HT q (TM q cI cJ cZ) w) (p0 : Int32) (p1 : Int64) (p2 : Int64) (i_p0 : In 10 2147483647 p0) (hf_0_45 : In 1 40 (fI w 0 45)) : Con_l l yX12_two cX12_two 5 (some .long) ({ frames := 1, cells := 0, slots := 0, locals := 21 }) D cI cJ cZ eW [.int p0, .long p1, .long p2] w (fun (r : Int64) (w1 : va_W) => HT q (TM q cI cJ cZ) w1 ∧ Sm [] [] w w1) := by
  refine eQ_l rfl (by decide) (Nat.le_of_ble_eq_true rfl) ⟨rfl, rfl⟩ ?_
  intro p e R s m args below meth c A Q hx hb hml hown hts hK hE hA hR hret hP hD hS ls hl
  have hown : s.vm.findClass RX12 = some m.cls := hown
  have hl : lv_has ls 5 [(0, .int p0), (1, .long p1), (3, .long p2)] := hl
  refine lv_iload_n hx hb dX12_two_0 rfl (lv_at hl 0 rfl) ?_
  by_cases c_1 : p0 = 10
  · have c_1t : (p0 : Int32).toInt = 10 := by rw [c_1]; rfl
    refine lv_tableIn (tgt := 44) hx hb dX12_two_1 (by rw [c_1t]; decide) (by rw [c_1t]; decide) (off := 43) (by rw [c_1t]; rfl) (by decide) ?_
    refine lv_lload_n hx hb dX12_two_44 rfl (lv_at hl 1 rfl) ?_
    refine lv_lload_n hx hb dX12_two_45 rfl (lv_at hl 2 rfl) ?_
    refine lv_ladd hx hb dX12_two_46 ?_
    refine lv_topl (fun v_2 ev_2 => ?_)
    refine kW_l ⟨rfl, rfl⟩ hP hD hS hA (rW_S (As := [.long v_2]) (rest := []) hx hb hml hown hts hK hE hP hD (k_X12_held l D cI cJ cZ q w hW_w v_2 hf_0_45 _) ⟨⟨rfl, rfl⟩, rfl, rfl⟩ sv_X12_481 ⟨(Nat.le_trans (by decide) hR.1), (Nat.le_trans (by decide) hR.2)⟩ rfl hl.1 rfl (Nat.le_of_ble_eq_true rfl) dX12_two_47) (fun r_4 w_3 H locs hw_w_3 hP hD hS => ?_)
    obtain ⟨hW_w_3, hs_w_3⟩ := hw_w_3
    exact hret _ _ _ _ _ _ hP hD hS dX12_two_50 ⟨hW_w_3, (Sm.rf.tr hs_w_3 (by decide))⟩
  by_cases c_5 : p0 = 11
  · have c_5t : (p0 : Int32).toInt = 11 := by rw [c_5]; rfl
    refine lv_tableIn (tgt := 51) hx hb dX12_two_1 (by rw [c_5t]; decide) (by rw [c_5t]; decide) (off := 50) (by rw [c_5t]; rfl) (by decide) ?_
    refine lv_lload_n hx hb dX12_two_51 rfl (lv_at hl 1 rfl) ?_
    refine lv_lload_n hx hb dX12_two_52 rfl (lv_at hl 2 rfl) ?_
    refine lv_lsub hx hb dX12_two_53 ?_
    refine lv_topl (fun v_6 ev_6 => ?_)
    refine kW_l ⟨rfl, rfl⟩ hP hD hS hA (rW_S (As := [.long v_6]) (rest := []) hx hb hml hown hts hK hE hP hD (k_X12_held l D cI cJ cZ q w hW_w v_6 hf_0_45 _) ⟨⟨rfl, rfl⟩, rfl, rfl⟩ sv_X12_481 ⟨(Nat.le_trans (by decide) hR.1), (Nat.le_trans (by decide) hR.2)⟩ rfl hl.1 rfl (Nat.le_of_ble_eq_true rfl) dX12_two_54) (fun r_8 w_7 H locs hw_w_7 hP hD hS => ?_)
    obtain ⟨hW_w_7, hs_w_7⟩ := hw_w_7
    exact hret _ _ _ _ _ _ hP hD hS dX12_two_57 ⟨hW_w_7, (Sm.rf.tr hs_w_7 (by decide))⟩
  by_cases c_9 : p0 = 12
  · have c_9t : (p0 : Int32).toInt = 12 := by rw [c_9]; rfl
    refine lv_tableIn (tgt := 58) hx hb dX12_two_1 (by rw [c_9t]; decide) (by rw [c_9t]; decide) (off := 57) (by rw [c_9t]; rfl) (by decide) ?_
    refine lv_lload_n hx hb dX12_two_58 rfl (lv_at hl 1 rfl) ?_
    refine lv_lload_n hx hb dX12_two_59 rfl (lv_at hl 2 rfl) ?_
    refine lv_lmul hx hb dX12_two_60 ?_
    refine lv_topl (fun v_10 ev_10 => ?_)
    refine kW_l ⟨rfl, rfl⟩ hP hD hS hA (rW_S (As := [.long v_10]) (rest := []) hx hb hml hown hts hK hE hP hD (k_X12_held l D cI cJ cZ q w hW_w v_10 hf_0_45 _) ⟨⟨rfl, rfl⟩, rfl, rfl⟩ sv_X12_481 ⟨(Nat.le_trans (by decide) hR.1), (Nat.le_trans (by decide) hR.2)⟩ rfl hl.1 rfl (Nat.le_of_ble_eq_true rfl) dX12_two_61) (fun r_12 w_11 H locs hw_w_11 hP hD hS => ?_)
    obtain ⟨hW_w_11, hs_w_11⟩ := hw_w_11
    exact hret _ _ _ _ _ _ hP hD hS dX12_two_64 ⟨hW_w_11, (Sm.rf.tr hs_w_11 (by decide))⟩
  by_cases c_13 : p0 = 13
  · have c_13t : (p0 : Int32).toInt = 13 := by rw [c_13]; rfl
    refine lv_tableIn (tgt := 65) hx hb dX12_two_1 (by rw [c_13t]; decide) (by rw [c_13t]; decide) (off := 64) (by rw [c_13t]; rfl) (by decide) ?_
    refine lv_lload_n hx hb dX12_two_65 rfl (lv_at hl 1 rfl) ?_
    refine lv_lload_n hx hb dX12_two_66 rfl (lv_at hl 2 rfl) ?_
    refine W.lcmp hx hb dX12_two_67 ?_
    refine lv_topi (fun v_14 ev_14 => ?_)
    refine lv_if_ge (tgt := 75) hx hb dX12_two_68 (by decide) (fun c_15 => ?_) (fun c_15 => ?_)
    · refine lv_lconst (v := 0) hx hb dX12_two_75 (by decide) ?_
      exact hret _ _ _ _ _ _ hP hD hS dX12_two_76 ⟨hW_w, Sm.rf⟩
    · refine lv_lconst (v := 1) hx hb dX12_two_71 (by decide) ?_
      refine lv_goto (tgt := 76) hx hb dX12_two_72 (by decide) ?_
      exact hret _ _ _ _ _ _ hP hD hS dX12_two_76 ⟨hW_w, Sm.rf⟩
  by_cases c_16 : p0 = 14
  · have c_16t : (p0 : Int32).toInt = 14 := by rw [c_16]; rfl
    refine lv_tableIn (tgt := 77) hx hb dX12_two_1 (by rw [c_16t]; decide) (by rw [c_16t]; decide) (off := 76) (by rw [c_16t]; rfl) (by decide) ?_
    refine lv_lload_n hx hb dX12_two_77 rfl (lv_at hl 1 rfl) ?_
    refine lv_lload_n hx hb dX12_two_78 rfl (lv_at hl 2 rfl) ?_
    refine W.lcmp hx hb dX12_two_79 ?_
    refine lv_topi (fun v_17 ev_17 => ?_)
    refine lv_if_le (tgt := 87) hx hb dX12_two_80 (by decide) (fun c_18 => ?_) (fun c_18 => ?_)
    · refine lv_lconst (v := 0) hx hb dX12_two_87 (by decide) ?_
      exact hret _ _ _ _ _ _ hP hD hS dX12_two_88 ⟨hW_w, Sm.rf⟩
    · refine lv_lconst (v := 1) hx hb dX12_two_83 (by decide) ?_
      refine lv_goto (tgt := 88) hx hb dX12_two_84 (by decide) ?_
      exact hret _ _ _ _ _ _ hP hD hS dX12_two_88 ⟨hW_w, Sm.rf⟩
  by_cases c_19 : p0 = 15
  · have c_19t : (p0 : Int32).toInt = 15 := by rw [c_19]; rfl
    refine lv_tableIn (tgt := 89) hx hb dX12_two_1 (by rw [c_19t]; decide) (by rw [c_19t]; decide) (off := 88) (by rw [c_19t]; rfl) (by decide) ?_
    refine lv_lload_n hx hb dX12_two_89 rfl (lv_at hl 1 rfl) ?_
    refine lv_lload_n hx hb dX12_two_90 rfl (lv_at hl 2 rfl) ?_
    refine W.lcmp hx hb dX12_two_91 ?_
    refine lv_topi (fun v_20 ev_20 => ?_)
    refine lv_if_ne (tgt := 99) hx hb dX12_two_92 (by decide) (fun c_21 => ?_) (fun c_21 => ?_)
    · refine lv_lconst (v := 0) hx hb dX12_two_99 (by decide) ?_
      exact hret _ _ _ _ _ _ hP hD hS dX12_two_100 ⟨hW_w, Sm.rf⟩
    · refine lv_lconst (v := 1) hx hb dX12_two_95 (by decide) ?_
      refine lv_goto (tgt := 100) hx hb dX12_two_96 (by decide) ?_
      exact hret _ _ _ _ _ _ hP hD hS dX12_two_100 ⟨hW_w, Sm.rf⟩
  by_cases c_22 : p0 = 16
  · have c_22t : (p0 : Int32).toInt = 16 := by rw [c_22]; rfl
    refine lv_tableIn (tgt := 101) hx hb dX12_two_1 (by rw [c_22t]; decide) (by rw [c_22t]; decide) (off := 100) (by rw [c_22t]; rfl) (by decide) ?_
    refine lv_lload_n hx hb dX12_two_101 rfl (lv_at hl 1 rfl) ?_
    refine lv_lload_n hx hb dX12_two_102 rfl (lv_at hl 2 rfl) ?_
    refine lv_lmul hx hb dX12_two_103 ?_
    refine lv_topl (fun v_23 ev_23 => ?_)
    exact hret _ _ _ _ _ _ hP hD hS dX12_two_104 ⟨hW_w, Sm.rf⟩
  refine lv_tableOut (tgt := 105) hx hb dX12_two_1 (by have h0 := lv_neT c_1 (a := 10) (by decide); have h1 := lv_neT c_5 (a := 11) (by decide); have h2 := lv_neT c_9 (a := 12) (by decide); have h3 := lv_neT c_13 (a := 13) (by decide); have h4 := lv_neT c_16 (a := 14) (by decide); have h5 := lv_neT c_19 (a := 15) (by decide); have h6 := lv_neT c_22 (a := 16) (by decide); omega) (by decide) ?_
  refine lv_lload_n hx hb dX12_two_105 rfl (lv_at hl 1 rfl) ?_
  refine lv_lload_n hx hb dX12_two_106 rfl (lv_at hl 2 rfl) ?_
  refine lv_ladd hx hb dX12_two_107 ?_
  refine lv_topl (fun v_24 ev_24 => ?_)
  refine lv_lconst (v := 0) hx hb dX12_two_108 (by decide) ?_
  refine W.lcmp hx hb dX12_two_109 ?_
  refine lv_topi (fun v_25 ev_25 => ?_)
  refine lv_if_le (tgt := 117) hx hb dX12_two_110 (by decide) (fun c_26 => ?_) (fun c_26 => ?_)
  · refine lv_lconst (v := 0) hx hb dX12_two_117 (by decide) ?_
    exact hret _ _ _ _ _ _ hP hD hS dX12_two_118 ⟨hW_w, Sm.rf⟩
  · refine lv_lconst (v := 1) hx hb dX12_two_113 (by decide) ?_
    refine lv_goto (tgt := 118) hx hb dX12_two_114 (by decide) ?_
    exact hret _ _ _ _ _ _ hP hD hS dX12_two_118 ⟨hW_w, Sm.rf⟩
