set_option maxRecDepth 100000 in
set_option maxHeartbeats 8000000 in
theorem k_X12_comes (l : Launch) (D : va_G) (cI cJ cZ : ClassId) (q : Nat → Nat) (w : va_W) (hW_w : HT q (TM q cI cJ cZ) w) (p1 : Int32) (p2 : Int32) (i_p1 : In 0 39 p1) (i_p2 : In 1 200 p2) (hf_0_37 : In 1 200 (fI w 0 37)) (hLM : LM w) (hz : aF w 21 p2.toNatClampNeg = 0) : Con_v l yX12_comes cX12_comes 7 none ({ frames := 1, cells := 0, slots := 0, locals := 24 }) D cI cJ cZ eW [.ref (q 0), .int p1, .int p2] w (fun (w1 : va_W) => HT q (TM q cI cJ cZ) w1 ∧ Sm [27, 28, 29, 30, 31, 32, 33, 34, 35, 36] [] w w1 ∧ (aF w1 32 = upd (aF w 32) p1.toNatClampNeg (aF w 22 ((5 * p2) + 4).toNatClampNeg))) := by
  refine eQ_v rfl (by decide) (Nat.le_of_ble_eq_true rfl) ⟨rfl, rfl⟩ ?_
  intro p e R s m args below meth c A Q hx hb hml hown hts hK hE hA hR hret hP hD hS ls hl
  have hown : s.vm.findClass RX12 = some m.cls := hown
  have hl : lv_has ls 7 [(0, .ref (q 0)), (1, .int p1), (2, .int p2)] := hl
  have J138 : ∀ (N : Nat) (x138_3 : Int32) (x138_4 : Int32) (w138 : va_W) (H : Heap) (locs : List Loc) (ls : Array Slot), (3 - x138_4.toInt).toNat < N → HT q (TM q cI cJ cZ) w138 → Sm [27, 28, 29, 30, 31, 32, 33, 34, 35, 36] [] w w138 → (In 0 39 p1) → (In 1 200 p2) → (In 0 3 x138_4) → (In 1 200 (fI w138 0 37)) → (aF w138 32 = upd (aF w 32) p1.toNatClampNeg (aF w 22 ((5 * p2) + 4).toNatClampNeg)) → va_P D vwCl w138 H → va_D A w138 → va_S A s.heap H locs → lv_has ls 7 [(0, .ref (q 0)), (1, .int p1), (2, .int p2), (3, .int x138_3), (4, .int x138_4)] → W p l e R s m args below meth c H locs 0 0 Q (F0 m 138 ls []) := by
    intro N
    induction N with
    | zero => intro x138_3 x138_4 w138 H locs ls hmu; exact absurd hmu (Nat.not_lt_zero _)
    | succ N ih138 =>
      intro x138_3 x138_4 w138 H locs ls hmu138 hW_w138 hM_w138 i_x138_1 i_x138_2 i_x138_4 g138_0_37 hdo_138 hP hD hS hl
      refine lv_iload hx hb dX12_comes_138 (lv_at hl 4 rfl) ?_
      refine lv_iconst (v := 3) hx hb dX12_comes_140 (by decide) ?_
      refine lv_icmp_ge (tgt := 220) hx hb dX12_comes_141 (by decide) (fun c_1 => ?_) (fun c_1 => ?_)
      · exact hret _ _ _ _ _ hP hD hS dX12_comes_220 ⟨hW_w138, hM_w138, hdo_138⟩
      · refine lv_aload_n hx hb dX12_comes_144 rfl (lv_at hl 0 rfl) ?_
        refine gt_X12 hx hb hts hown hK hP 0 (hW_w138.o tM_0) 43 (by decide) wd_1444 rfl (hW_w138.fr tM_0 rfl) dX12_comes_145 ?_
        refine lv_iconst (v := 3) hx hb dX12_comes_148 (by decide) ?_
        refine lv_iload_n hx hb dX12_comes_149 rfl (lv_at hl 2 rfl) ?_
        refine lv_imul hx hb dX12_comes_150 ?_
        refine lv_iload hx hb dX12_comes_151 (lv_at hl 4 rfl) ?_
        refine lv_iadd hx hb dX12_comes_153 ?_
        refine va_lald hx hb hK hP 24 1 (hW_w138.al tM_24) rfl (in_I ((In_add ((In_mull i_p2 (n := 3) (by decide) (by decide)) : In 3 600 (3 * p2)) (R_nle_r (In_lit (n := 3) (by decide) (by decide) : In 3 3 3) i_x138_4 c_1 (by decide) : In 0 2 x138_4) (by decide)) : In 3 602 ((3 * p2) + x138_4)) (by decide)) dX12_comes_154 ?_
        refine lv_topl (fun v_2 ev_2 => ?_)
        refine lv_lstore (lv' := [(5, .long v_2), (0, .ref (q 0)), (1, .int p1), (2, .int p2), (3, .int x138_3), (4, .int x138_4)]) hx hb dX12_comes_155 hl (by decide) rfl (fun ls hl => ?_)
        refine lv_lload hx hb dX12_comes_157 (lv_at hl 0 rfl) ?_
        refine lv_lconst (v := 0) hx hb dX12_comes_159 (by decide) ?_
        refine W.lcmp hx hb dX12_comes_160 ?_
        refine lv_topi (fun v_3 ev_3 => ?_)
        refine lv_if_eq (tgt := 214) hx hb dX12_comes_161 (by decide) (fun c_4 => ?_) (fun c_4 => ?_)
        · refine lv_iinc (v := (x138_4 + 1)) (lv' := [(4, .int (x138_4 + 1)), (5, .long v_2), (0, .ref (q 0)), (1, .int p1), (2, .int p2), (3, .int x138_3)]) hx hb dX12_comes_214 hl (k := 5) rfl (rfl) (by decide) rfl (fun ls hl => ?_)
          refine lv_goto (tgt := 138) hx hb dX12_comes_217 (by decide) ?_
          exact ih138 x138_3 (x138_4 + 1) w138 _ _ ls (mu_inc hmu138 (R_nle_r (In_lit (n := 3) (by decide) (by decide) : In 3 3 3) i_x138_4 c_1 (by decide) : In 0 2 x138_4) (In_lit (n := 1) (by decide) (by decide) : In 1 1 1) (by decide)) hW_w138 hM_w138 i_p1 i_p2 (In_w ((In_add (y := 1) (R_nle_r (In_lit (n := 3) (by decide) (by decide) : In 3 3 3) i_x138_4 c_1 (by decide) : In 0 2 x138_4) (In_lit (n := 1) (by decide) (by decide) : In 1 1 1) (by decide)) : In 1 3 (x138_4 + 1)) (by decide) : In 0 3 (x138_4 + 1)) (In_of (hM_w138.gI (by decide)) (In_of (hM_w138.gI (by decide)).symm g138_0_37)) hdo_138 hP hD hS (lv_sub hl [2, 3, 4, 5, 0] rfl)
        · refine lv_aload_n hx hb dX12_comes_164 rfl (lv_at hl 1 rfl) ?_
          refine gt_X12 hx hb hts hown hK hP 0 (hW_w138.o tM_0) 53 (by decide) wd_1454 rfl (hW_w138.fr tM_0 rfl) dX12_comes_165 ?_
          refine lv_iload_n hx hb dX12_comes_168 rfl (lv_at hl 2 rfl) ?_
          refine va_iald hx hb hK hP 33 0 (hW_w138.a tM_33) rfl (in_I i_p1 (by decide)) dX12_comes_169 ?_
          refine lv_topi (fun v_5 ev_5 => ?_)
          refine lv_iconst (v := 4) hx hb dX12_comes_170 (by decide) ?_
          refine lv_icmp_eq (tgt := 214) hx hb dX12_comes_171 (by decide) (fun c_6 => ?_) (fun c_6 => ?_)
          · refine lv_iinc (v := (x138_4 + 1)) (lv' := [(4, .int (x138_4 + 1)), (5, .long v_2), (0, .ref (q 0)), (1, .int p1), (2, .int p2), (3, .int x138_3)]) hx hb dX12_comes_214 hl (k := 5) rfl (rfl) (by decide) rfl (fun ls hl => ?_)
            refine lv_goto (tgt := 138) hx hb dX12_comes_217 (by decide) ?_
            exact ih138 x138_3 (x138_4 + 1) w138 _ _ ls (mu_inc hmu138 (R_nle_r (In_lit (n := 3) (by decide) (by decide) : In 3 3 3) i_x138_4 c_1 (by decide) : In 0 2 x138_4) (In_lit (n := 1) (by decide) (by decide) : In 1 1 1) (by decide)) hW_w138 hM_w138 i_p1 i_p2 (In_w ((In_add (y := 1) (R_nle_r (In_lit (n := 3) (by decide) (by decide) : In 3 3 3) i_x138_4 c_1 (by decide) : In 0 2 x138_4) (In_lit (n := 1) (by decide) (by decide) : In 1 1 1) (by decide)) : In 1 3 (x138_4 + 1)) (by decide) : In 0 3 (x138_4 + 1)) (In_of (hM_w138.gI (by decide)) (In_of (hM_w138.gI (by decide)).symm g138_0_37)) hdo_138 hP hD hS (lv_sub hl [2, 3, 4, 5, 0] rfl)
          · refine lv_aload_n hx hb dX12_comes_174 rfl (lv_at hl 1 rfl) ?_
            refine lv_iload_n hx hb dX12_comes_175 rfl (lv_at hl 2 rfl) ?_
            refine lv_lload hx hb dX12_comes_176 (lv_at hl 0 rfl) ?_
            refine kW_i ⟨rfl, rfl⟩ hP hD hS hA (rW_V (As := [.int p1, .long v_2]) (rest := []) hx hb hml hown hts hK hE hP hD (k_X12_hasWish l D cI cJ cZ q w138 hW_w138 p1 v_2 i_p1 _) ⟨⟨rfl, rfl⟩, rfl, rfl⟩ sv_X12_467 ⟨(Nat.le_trans (by decide) hR.1), (Nat.le_trans (by decide) hR.2)⟩ 0 12 (hW_w138.o tM_0) rfl rfl rfl hl.1 rfl (Nat.le_of_ble_eq_true rfl) dX12_comes_178) (fun r_8 w_7 H locs hw_w_7 hP hD hS => ?_)
            obtain ⟨hW_w_7, hs_w_7, i_r_8⟩ := hw_w_7
            refine lv_if_eq (tgt := 187) hx hb dX12_comes_181 (by decide) (fun c_9 => ?_) (fun c_9 => ?_)
            · refine lv_aload_n hx hb dX12_comes_187 rfl (lv_at hl 1 rfl) ?_
              refine gt_X12 hx hb hts hown hK hP 0 (hW_w_7.o tM_0) 54 (by decide) wd_1455 rfl (hW_w_7.fr tM_0 rfl) dX12_comes_188 ?_
              refine lv_iconst (v := 4) hx hb dX12_comes_191 (by decide) ?_
              refine lv_iload_n hx hb dX12_comes_192 rfl (lv_at hl 2 rfl) ?_
              refine lv_imul hx hb dX12_comes_193 ?_
              refine lv_aload_n hx hb dX12_comes_194 rfl (lv_at hl 1 rfl) ?_
              refine gt_X12 hx hb hts hown hK hP 0 (hW_w_7.o tM_0) 53 (by decide) wd_1454 rfl (hW_w_7.fr tM_0 rfl) dX12_comes_195 ?_
              refine lv_iload_n hx hb dX12_comes_198 rfl (lv_at hl 2 rfl) ?_
              refine va_iald hx hb hK hP 33 0 (hW_w_7.a tM_33) rfl (in_I i_p1 (by decide)) dX12_comes_199 ?_
              refine tov (v := v_5) ((congrFun (hs_w_7.hA (by decide)) _).trans ev_5.symm) ?_
              refine lv_iadd hx hb dX12_comes_200 ?_
              refine lv_lload hx hb dX12_comes_201 (lv_at hl 0 rfl) ?_
              refine va_last hx hb hK hP hD hS 34 1 (hW_w_7.al tM_34) rfl (in_I ((In_add ((In_mull i_p1 (n := 4) (by decide) (by decide)) : In 0 156 (4 * p1)) (R_ne_l (In_of ev_5 (hW_w138.ap tM_33 _) : In 0 4 v_5) (In_lit (n := 4) (by decide) (by decide) : In 4 4 4) c_6 (by decide) : In 0 3 v_5) (by decide)) : In 0 159 ((4 * p1) + v_5)) (by decide)) dX12_comes_203 (fun H locs hP hD hS => fr_w (hW_w_7.uL tM_34) hP hD (fun w_10 ew_10 hW_w_10 hP hD => ?_))
              refine lv_aload_n hx hb dX12_comes_204 rfl (lv_at hl 1 rfl) ?_
              refine gt_X12 hx hb hts hown hK hP 0 (hW_w_10.o tM_0) 53 (by decide) wd_1454 rfl (hW_w_10.fr tM_0 rfl) dX12_comes_205 ?_
              refine lv_iload_n hx hb dX12_comes_208 rfl (lv_at hl 2 rfl) ?_
              refine lv_dup2_11 hx hb dX12_comes_209 rfl rfl ?_
              refine va_iald hx hb hK hP 33 0 (hW_w_10.a tM_33) rfl (in_I i_p1 (by decide)) dX12_comes_210 ?_
              refine tov (v := v_5) ((congrFun ((aF_cg (st_ne ew_10 (by decide))).trans (hs_w_7.hA (by decide))) _).trans ev_5.symm) ?_
              refine lv_iconst (v := 1) hx hb dX12_comes_211 (by decide) ?_
              refine lv_iadd hx hb dX12_comes_212 ?_
              refine va_iast hx hb hK hP hD hS 33 0 (hW_w_10.a tM_33) rfl (in_I i_p1 (by decide)) dX12_comes_213 (fun H locs hP hD hS => fr_w (hW_w_10.uA tM_33 (In_w ((In_add (R_ne_l (In_of ev_5 (hW_w138.ap tM_33 _) : In 0 4 v_5) (In_lit (n := 4) (by decide) (by decide) : In 4 4 4) c_6 (by decide) : In 0 3 v_5) (In_lit (n := 1) (by decide) (by decide) : In 1 1 1) (by decide)) : In 1 4 (v_5 + 1)) (by decide) : In 0 4 (v_5 + 1))) hP hD (fun w_11 ew_11 hW_w_11 hP hD => ?_))
              refine lv_iinc (v := (x138_4 + 1)) (lv' := [(4, .int (x138_4 + 1)), (5, .long v_2), (0, .ref (q 0)), (1, .int p1), (2, .int p2), (3, .int x138_3)]) hx hb dX12_comes_214 hl (k := 5) rfl (rfl) (by decide) rfl (fun ls hl => ?_)
              refine lv_goto (tgt := 138) hx hb dX12_comes_217 (by decide) ?_
              exact ih138 x138_3 (x138_4 + 1) w_11 _ _ ls (mu_inc hmu138 (R_nle_r (In_lit (n := 3) (by decide) (by decide) : In 3 3 3) i_x138_4 c_1 (by decide) : In 0 2 x138_4) (In_lit (n := 1) (by decide) (by decide) : In 1 1 1) (by decide)) hW_w_11 (((hM_w138.tr hs_w_7 (by decide)).sa ew_10 (by decide)).sa ew_11 (by decide)) i_p1 i_p2 (In_w ((In_add (y := 1) (R_nle_r (In_lit (n := 3) (by decide) (by decide) : In 3 3 3) i_x138_4 c_1 (by decide) : In 0 2 x138_4) (In_lit (n := 1) (by decide) (by decide) : In 1 1 1) (by decide)) : In 1 3 (x138_4 + 1)) (by decide) : In 0 3 (x138_4 + 1)) (In_of ((fI_cg (st_ne ew_11 (by decide))).trans ((fI_cg (st_ne ew_10 (by decide))).trans ((hs_w_7.gI (by decide)).trans (hM_w138.gI (by decide))))) (In_of (hM_w138.gI (by decide)).symm g138_0_37)) (((aF_cg (st_ne ew_11 (by decide))).trans ((aF_cg (st_ne ew_10 (by decide))).trans (hs_w_7.hA (by decide)))).trans hdo_138) hP hD hS (lv_sub hl [2, 3, 4, 5, 0] rfl)
            · refine lv_goto (tgt := 214) hx hb dX12_comes_184 (by decide) ?_
              refine lv_iinc (v := (x138_4 + 1)) (lv' := [(4, .int (x138_4 + 1)), (5, .long v_2), (0, .ref (q 0)), (1, .int p1), (2, .int p2), (3, .int x138_3)]) hx hb dX12_comes_214 hl (k := 5) rfl (rfl) (by decide) rfl (fun ls hl => ?_)
              refine lv_goto (tgt := 138) hx hb dX12_comes_217 (by decide) ?_
              exact ih138 x138_3 (x138_4 + 1) w_7 _ _ ls (mu_inc hmu138 (R_nle_r (In_lit (n := 3) (by decide) (by decide) : In 3 3 3) i_x138_4 c_1 (by decide) : In 0 2 x138_4) (In_lit (n := 1) (by decide) (by decide) : In 1 1 1) (by decide)) hW_w_7 (hM_w138.tr hs_w_7 (by decide)) i_p1 i_p2 (In_w ((In_add (y := 1) (R_nle_r (In_lit (n := 3) (by decide) (by decide) : In 3 3 3) i_x138_4 c_1 (by decide) : In 0 2 x138_4) (In_lit (n := 1) (by decide) (by decide) : In 1 1 1) (by decide)) : In 1 3 (x138_4 + 1)) (by decide) : In 0 3 (x138_4 + 1)) (In_of ((hs_w_7.gI (by decide)).trans (hM_w138.gI (by decide))) (In_of (hM_w138.gI (by decide)).symm g138_0_37)) ((hs_w_7.hA (by decide)).trans hdo_138) hP hD hS (lv_sub hl [2, 3, 4, 5, 0] rfl)
  refine lv_aload_n hx hb dX12_comes_0 rfl (lv_at hl 0 rfl) ?_
  refine gt_X12 hx hb hts hown hK hP 0 (hW_w.o tM_0) 56 (by decide) wd_1457 rfl (hW_w.fr tM_0 rfl) dX12_comes_1 ?_
  refine lv_iload_n hx hb dX12_comes_4 rfl (lv_at hl 2 rfl) ?_
  refine lv_iload_n hx hb dX12_comes_5 rfl (lv_at hl 1 rfl) ?_
  refine va_iast hx hb hK hP hD hS 36 0 (hW_w.a tM_36) rfl (in_I i_p2 (by decide)) dX12_comes_6 (fun H locs hP hD hS => fr_w (hW_w.uA tM_36 (In_w i_p1 (by decide) : In (-1) 39 p1)) hP hD (fun w_12 ew_12 hW_w_12 hP hD => ?_))
  refine lv_aload_n hx hb dX12_comes_7 rfl (lv_at hl 0 rfl) ?_
  refine gt_X12 hx hb hts hown hK hP 0 (hW_w_12.o tM_0) 41 (by decide) wd_1442 rfl (hW_w_12.fr tM_0 rfl) dX12_comes_8 ?_
  refine lv_iconst (v := 5) hx hb dX12_comes_11 (by decide) ?_
  refine lv_iload_n hx hb dX12_comes_12 rfl (lv_at hl 2 rfl) ?_
  refine lv_imul hx hb dX12_comes_13 ?_
  refine lv_iconst (v := 1) hx hb dX12_comes_14 (by decide) ?_
  refine lv_iadd hx hb dX12_comes_15 ?_
  refine va_iald hx hb hK hP 22 0 (hW_w_12.a tM_22) rfl (in_I ((In_add ((In_mull i_p2 (n := 5) (by decide) (by decide)) : In 5 1000 (5 * p2)) (In_lit (n := 1) (by decide) (by decide) : In 1 1 1) (by decide)) : In 6 1001 ((5 * p2) + 1)) (by decide)) dX12_comes_16 ?_
  refine lv_topi (fun v_13 ev_13 => ?_)
  refine lv_istore_n (lv' := [(3, .int v_13), (0, .ref (q 0)), (1, .int p1), (2, .int p2)]) hx hb dX12_comes_17 rfl hl (by decide) rfl (fun ls hl => ?_)
  refine lv_aload_n hx hb dX12_comes_18 rfl (lv_at hl 1 rfl) ?_
  refine gt_X12 hx hb hts hown hK hP 0 (hW_w_12.o tM_0) 47 (by decide) wd_1448 rfl (hW_w_12.fr tM_0 rfl) dX12_comes_19 ?_
  refine lv_iload_n hx hb dX12_comes_22 rfl (lv_at hl 2 rfl) ?_
  refine lv_iload_n hx hb dX12_comes_23 rfl (lv_at hl 0 rfl) ?_
  refine va_iast hx hb hK hP hD hS 27 0 (hW_w_12.a tM_27) rfl (in_I i_p1 (by decide)) dX12_comes_24 (fun H locs hP hD hS => fr_w (hW_w_12.uA tM_27 (In_any v_13)) hP hD (fun w_14 ew_14 hW_w_14 hP hD => ?_))
  refine lv_aload_n hx hb dX12_comes_25 rfl (lv_at hl 1 rfl) ?_
  refine gt_X12 hx hb hts hown hK hP 0 (hW_w_14.o tM_0) 48 (by decide) wd_1449 rfl (hW_w_14.fr tM_0 rfl) dX12_comes_26 ?_
  refine lv_iload_n hx hb dX12_comes_29 rfl (lv_at hl 2 rfl) ?_
  refine lv_iload_n hx hb dX12_comes_30 rfl (lv_at hl 0 rfl) ?_
  refine lv_aload_n hx hb dX12_comes_31 rfl (lv_at hl 1 rfl) ?_
  refine gt_X12 hx hb hts hown hK hP 0 (hW_w_14.o tM_0) 48 (by decide) wd_1449 rfl (hW_w_14.fr tM_0 rfl) dX12_comes_32 ?_
  refine lv_iload_n hx hb dX12_comes_35 rfl (lv_at hl 2 rfl) ?_
  refine va_iald hx hb hK hP 28 0 (hW_w_14.a tM_28) rfl (in_I i_p1 (by decide)) dX12_comes_36 ?_
  refine lv_topi (fun v_15 ev_15 => ?_)
  refine lv_icmp_ge (tgt := 44) hx hb dX12_comes_37 (by decide) (fun c_16 => ?_) (fun c_16 => ?_)
  · refine lv_aload_n hx hb dX12_comes_44 rfl (lv_at hl 1 rfl) ?_
    refine gt_X12 hx hb hts hown hK hP 0 (hW_w_14.o tM_0) 48 (by decide) wd_1449 rfl (hW_w_14.fr tM_0 rfl) dX12_comes_45 ?_
    refine lv_iload_n hx hb dX12_comes_48 rfl (lv_at hl 2 rfl) ?_
    refine va_iald hx hb hK hP 28 0 (hW_w_14.a tM_28) rfl (in_I i_p1 (by decide)) dX12_comes_49 ?_
    refine tov (v := v_15) ((congrFun ((aF_cg (st_ne ew_14 (by decide))).trans (aF_cg (st_ne ew_12 (by decide)))) _).trans ((congrFun ((aF_cg (st_ne ew_14 (by decide))).trans (aF_cg (st_ne ew_12 (by decide)))) _).symm.trans ev_15.symm)) ?_
    refine va_iast hx hb hK hP hD hS 28 0 (hW_w_14.a tM_28) rfl (in_I i_p1 (by decide)) dX12_comes_50 (fun H locs hP hD hS => fr_w (hW_w_14.uA tM_28 (In_any v_15)) hP hD (fun w_17 ew_17 hW_w_17 hP hD => ?_))
    refine lv_aload_n hx hb dX12_comes_51 rfl (lv_at hl 1 rfl) ?_
    refine gt_X12 hx hb hts hown hK hP 0 (hW_w_17.o tM_0) 49 (by decide) wd_1450 rfl (hW_w_17.fr tM_0 rfl) dX12_comes_52 ?_
    refine lv_iload_n hx hb dX12_comes_55 rfl (lv_at hl 2 rfl) ?_
    refine lv_iload_n hx hb dX12_comes_56 rfl (lv_at hl 0 rfl) ?_
    refine lv_aload_n hx hb dX12_comes_57 rfl (lv_at hl 1 rfl) ?_
    refine gt_X12 hx hb hts hown hK hP 0 (hW_w_17.o tM_0) 49 (by decide) wd_1450 rfl (hW_w_17.fr tM_0 rfl) dX12_comes_58 ?_
    refine lv_iload_n hx hb dX12_comes_61 rfl (lv_at hl 2 rfl) ?_
    refine va_iald hx hb hK hP 29 0 (hW_w_17.a tM_29) rfl (in_I i_p1 (by decide)) dX12_comes_62 ?_
    refine lv_topi (fun v_18 ev_18 => ?_)
    refine lv_icmp_le (tgt := 70) hx hb dX12_comes_63 (by decide) (fun c_19 => ?_) (fun c_19 => ?_)
    · refine lv_aload_n hx hb dX12_comes_70 rfl (lv_at hl 1 rfl) ?_
      refine gt_X12 hx hb hts hown hK hP 0 (hW_w_17.o tM_0) 49 (by decide) wd_1450 rfl (hW_w_17.fr tM_0 rfl) dX12_comes_71 ?_
      refine lv_iload_n hx hb dX12_comes_74 rfl (lv_at hl 2 rfl) ?_
      refine va_iald hx hb hK hP 29 0 (hW_w_17.a tM_29) rfl (in_I i_p1 (by decide)) dX12_comes_75 ?_
      refine tov (v := v_18) ((congrFun ((aF_cg (st_ne ew_17 (by decide))).trans ((aF_cg (st_ne ew_14 (by decide))).trans (aF_cg (st_ne ew_12 (by decide))))) _).trans ((congrFun ((aF_cg (st_ne ew_17 (by decide))).trans ((aF_cg (st_ne ew_14 (by decide))).trans (aF_cg (st_ne ew_12 (by decide))))) _).symm.trans ev_18.symm)) ?_
      refine va_iast hx hb hK hP hD hS 29 0 (hW_w_17.a tM_29) rfl (in_I i_p1 (by decide)) dX12_comes_76 (fun H locs hP hD hS => fr_w (hW_w_17.uA tM_29 (In_any v_18)) hP hD (fun w_20 ew_20 hW_w_20 hP hD => ?_))
      refine lv_aload_n hx hb dX12_comes_77 rfl (lv_at hl 1 rfl) ?_
      refine gt_X12 hx hb hts hown hK hP 0 (hW_w_20.o tM_0) 50 (by decide) wd_1451 rfl (hW_w_20.fr tM_0 rfl) dX12_comes_78 ?_
      refine lv_iload_n hx hb dX12_comes_81 rfl (lv_at hl 2 rfl) ?_
      refine lv_aload_n hx hb dX12_comes_82 rfl (lv_at hl 1 rfl) ?_
      refine gt_X12 hx hb hts hown hK hP 0 (hW_w_20.o tM_0) 41 (by decide) wd_1442 rfl (hW_w_20.fr tM_0 rfl) dX12_comes_83 ?_
      refine lv_iconst (v := 5) hx hb dX12_comes_86 (by decide) ?_
      refine lv_iload_n hx hb dX12_comes_87 rfl (lv_at hl 3 rfl) ?_
      refine lv_imul hx hb dX12_comes_88 ?_
      refine lv_iconst (v := 2) hx hb dX12_comes_89 (by decide) ?_
      refine lv_iadd hx hb dX12_comes_90 ?_
      refine va_iald hx hb hK hP 22 0 (hW_w_20.a tM_22) rfl (in_I ((In_add ((In_mull i_p2 (n := 5) (by decide) (by decide)) : In 5 1000 (5 * p2)) (In_lit (n := 2) (by decide) (by decide) : In 2 2 2) (by decide)) : In 7 1002 ((5 * p2) + 2)) (by decide)) dX12_comes_91 ?_
      refine lv_topi (fun v_21 ev_21 => ?_)
      refine va_iast hx hb hK hP hD hS 30 0 (hW_w_20.a tM_30) rfl (in_I i_p1 (by decide)) dX12_comes_92 (fun H locs hP hD hS => fr_w (hW_w_20.uA tM_30 (In_any v_21)) hP hD (fun w_22 ew_22 hW_w_22 hP hD => ?_))
      refine lv_aload_n hx hb dX12_comes_93 rfl (lv_at hl 1 rfl) ?_
      refine gt_X12 hx hb hts hown hK hP 0 (hW_w_22.o tM_0) 51 (by decide) wd_1452 rfl (hW_w_22.fr tM_0 rfl) dX12_comes_94 ?_
      refine lv_iload_n hx hb dX12_comes_97 rfl (lv_at hl 2 rfl) ?_
      refine lv_aload_n hx hb dX12_comes_98 rfl (lv_at hl 1 rfl) ?_
      refine gt_X12 hx hb hts hown hK hP 0 (hW_w_22.o tM_0) 41 (by decide) wd_1442 rfl (hW_w_22.fr tM_0 rfl) dX12_comes_99 ?_
      refine lv_iconst (v := 5) hx hb dX12_comes_102 (by decide) ?_
      refine lv_iload_n hx hb dX12_comes_103 rfl (lv_at hl 3 rfl) ?_
      refine lv_imul hx hb dX12_comes_104 ?_
      refine lv_iconst (v := 3) hx hb dX12_comes_105 (by decide) ?_
      refine lv_iadd hx hb dX12_comes_106 ?_
      refine va_iald hx hb hK hP 22 0 (hW_w_22.a tM_22) rfl (in_I ((In_add ((In_mull i_p2 (n := 5) (by decide) (by decide)) : In 5 1000 (5 * p2)) (In_lit (n := 3) (by decide) (by decide) : In 3 3 3) (by decide)) : In 8 1003 ((5 * p2) + 3)) (by decide)) dX12_comes_107 ?_
      refine lv_topi (fun v_23 ev_23 => ?_)
      refine va_iast hx hb hK hP hD hS 31 0 (hW_w_22.a tM_31) rfl (in_I i_p1 (by decide)) dX12_comes_108 (fun H locs hP hD hS => fr_w (hW_w_22.uA tM_31 (In_any v_23)) hP hD (fun w_24 ew_24 hW_w_24 hP hD => ?_))
      refine lv_aload_n hx hb dX12_comes_109 rfl (lv_at hl 1 rfl) ?_
      refine gt_X12 hx hb hts hown hK hP 0 (hW_w_24.o tM_0) 52 (by decide) wd_1453 rfl (hW_w_24.fr tM_0 rfl) dX12_comes_110 ?_
      refine lv_iload_n hx hb dX12_comes_113 rfl (lv_at hl 2 rfl) ?_
      refine lv_aload_n hx hb dX12_comes_114 rfl (lv_at hl 1 rfl) ?_
      refine gt_X12 hx hb hts hown hK hP 0 (hW_w_24.o tM_0) 41 (by decide) wd_1442 rfl (hW_w_24.fr tM_0 rfl) dX12_comes_115 ?_
      refine lv_iconst (v := 5) hx hb dX12_comes_118 (by decide) ?_
      refine lv_iload_n hx hb dX12_comes_119 rfl (lv_at hl 3 rfl) ?_
      refine lv_imul hx hb dX12_comes_120 ?_
      refine lv_iconst (v := 4) hx hb dX12_comes_121 (by decide) ?_
      refine lv_iadd hx hb dX12_comes_122 ?_
      refine va_iald hx hb hK hP 22 0 (hW_w_24.a tM_22) rfl (in_I ((In_add ((In_mull i_p2 (n := 5) (by decide) (by decide)) : In 5 1000 (5 * p2)) (In_lit (n := 4) (by decide) (by decide) : In 4 4 4) (by decide)) : In 9 1004 ((5 * p2) + 4)) (by decide)) dX12_comes_123 ?_
      refine lv_topi (fun v_25 ev_25 => ?_)
      refine va_iast hx hb hK hP hD hS 32 0 (hW_w_24.a tM_32) rfl (in_I i_p1 (by decide)) dX12_comes_124 (fun H locs hP hD hS => fr_w (hW_w_24.uA tM_32 (In_of (ev_25.trans (congrFun ((aF_cg (st_ne ew_24 (by decide))).trans ((aF_cg (st_ne ew_22 (by decide))).trans ((aF_cg (st_ne ew_20 (by decide))).trans ((aF_cg (st_ne ew_17 (by decide))).trans ((aF_cg (st_ne ew_14 (by decide))).trans (aF_cg (st_ne ew_12 (by decide)))))))) _)) ((hLM p2 i_p2).1 hz) : In 0 24 v_25)) hP hD (fun w_26 ew_26 hW_w_26 hP hD => ?_))
      refine lv_aload_n hx hb dX12_comes_125 rfl (lv_at hl 1 rfl) ?_
      refine gt_X12 hx hb hts hown hK hP 0 (hW_w_26.o tM_0) 55 (by decide) wd_1456 rfl (hW_w_26.fr tM_0 rfl) dX12_comes_126 ?_
      refine lv_iload_n hx hb dX12_comes_129 rfl (lv_at hl 2 rfl) ?_
      refine lv_dup2_11 hx hb dX12_comes_130 rfl rfl ?_
      refine va_iald hx hb hK hP 35 0 (hW_w_26.a tM_35) rfl (in_I i_p1 (by decide)) dX12_comes_131 ?_
      refine lv_topi (fun v_27 ev_27 => ?_)
      refine lv_iconst (v := 1) hx hb dX12_comes_132 (by decide) ?_
      refine lv_iadd hx hb dX12_comes_133 ?_
      refine va_iast hx hb hK hP hD hS 35 0 (hW_w_26.a tM_35) rfl (in_I i_p1 (by decide)) dX12_comes_134 (fun H locs hP hD hS => fr_w (hW_w_26.uA tM_35 (In_any (v_27 + 1))) hP hD (fun w_28 ew_28 hW_w_28 hP hD => ?_))
      refine lv_iconst (v := 0) hx hb dX12_comes_135 (by decide) ?_
      refine lv_istore (lv' := [(4, .int 0), (3, .int v_13), (0, .ref (q 0)), (1, .int p1), (2, .int p2)]) hx hb dX12_comes_136 hl (by decide) rfl (fun ls hl => ?_)
      exact J138 _ v_13 0 w_28 _ _ ls (Nat.lt_succ_self _) hW_w_28 ((((((((Sm.rf.sa ew_12 (by decide)).sa ew_14 (by decide)).sa ew_17 (by decide)).sa ew_20 (by decide)).sa ew_22 (by decide)).sa ew_24 (by decide)).sa ew_26 (by decide)).sa ew_28 (by decide)) i_p1 i_p2 (In_lit (n := 0) (by decide) (by decide) : In 0 3 0) (In_of ((fI_cg (st_ne ew_28 (by decide))).trans ((fI_cg (st_ne ew_26 (by decide))).trans ((fI_cg (st_ne ew_24 (by decide))).trans ((fI_cg (st_ne ew_22 (by decide))).trans ((fI_cg (st_ne ew_20 (by decide))).trans ((fI_cg (st_ne ew_17 (by decide))).trans ((fI_cg (st_ne ew_14 (by decide))).trans (fI_cg (st_ne ew_12 (by decide)))))))))) hf_0_37) (by have e : aF w_28 32 = upd (aF w 32) p1.toNatClampNeg v_25 := (by rw [(aF_cg (st_ne ew_28 (by decide))), aF_eq (hW_w_24.lt tM_32) ew_26, (aF_cg (st_ne ew_24 (by decide))), (aF_cg (st_ne ew_22 (by decide))), (aF_cg (st_ne ew_20 (by decide))), (aF_cg (st_ne ew_17 (by decide))), (aF_cg (st_ne ew_14 (by decide))), (aF_cg (st_ne ew_12 (by decide)))]); rw [e, show v_25 = aF w 22 ((5 * p2) + 4).toNatClampNeg from (ev_25.trans (congrFun ((aF_cg (st_ne ew_24 (by decide))).trans ((aF_cg (st_ne ew_22 (by decide))).trans ((aF_cg (st_ne ew_20 (by decide))).trans ((aF_cg (st_ne ew_17 (by decide))).trans ((aF_cg (st_ne ew_14 (by decide))).trans (aF_cg (st_ne ew_12 (by decide)))))))) _))]) hP hD hS (lv_sub hl [2, 3, 4, 1, 0] rfl)
    · refine lv_iload_n hx hb dX12_comes_66 rfl (lv_at hl 0 rfl) ?_
      refine lv_goto (tgt := 76) hx hb dX12_comes_67 (by decide) ?_
      refine va_iast hx hb hK hP hD hS 29 0 (hW_w_17.a tM_29) rfl (in_I i_p1 (by decide)) dX12_comes_76 (fun H locs hP hD hS => fr_w (hW_w_17.uA tM_29 (In_w (R_nle_l (In_any v_13) (In_any v_18) c_19 (by decide) : In (-2147483647) 2147483647 v_13) (by decide) : In (-2147483648) 2147483647 v_13)) hP hD (fun w_29 ew_29 hW_w_29 hP hD => ?_))
      refine lv_aload_n hx hb dX12_comes_77 rfl (lv_at hl 1 rfl) ?_
      refine gt_X12 hx hb hts hown hK hP 0 (hW_w_29.o tM_0) 50 (by decide) wd_1451 rfl (hW_w_29.fr tM_0 rfl) dX12_comes_78 ?_
      refine lv_iload_n hx hb dX12_comes_81 rfl (lv_at hl 2 rfl) ?_
      refine lv_aload_n hx hb dX12_comes_82 rfl (lv_at hl 1 rfl) ?_
      refine gt_X12 hx hb hts hown hK hP 0 (hW_w_29.o tM_0) 41 (by decide) wd_1442 rfl (hW_w_29.fr tM_0 rfl) dX12_comes_83 ?_
      refine lv_iconst (v := 5) hx hb dX12_comes_86 (by decide) ?_
      refine lv_iload_n hx hb dX12_comes_87 rfl (lv_at hl 3 rfl) ?_
      refine lv_imul hx hb dX12_comes_88 ?_
      refine lv_iconst (v := 2) hx hb dX12_comes_89 (by decide) ?_
      refine lv_iadd hx hb dX12_comes_90 ?_
      refine va_iald hx hb hK hP 22 0 (hW_w_29.a tM_22) rfl (in_I ((In_add ((In_mull i_p2 (n := 5) (by decide) (by decide)) : In 5 1000 (5 * p2)) (In_lit (n := 2) (by decide) (by decide) : In 2 2 2) (by decide)) : In 7 1002 ((5 * p2) + 2)) (by decide)) dX12_comes_91 ?_
      refine lv_topi (fun v_30 ev_30 => ?_)
      refine va_iast hx hb hK hP hD hS 30 0 (hW_w_29.a tM_30) rfl (in_I i_p1 (by decide)) dX12_comes_92 (fun H locs hP hD hS => fr_w (hW_w_29.uA tM_30 (In_any v_30)) hP hD (fun w_31 ew_31 hW_w_31 hP hD => ?_))
      refine lv_aload_n hx hb dX12_comes_93 rfl (lv_at hl 1 rfl) ?_
      refine gt_X12 hx hb hts hown hK hP 0 (hW_w_31.o tM_0) 51 (by decide) wd_1452 rfl (hW_w_31.fr tM_0 rfl) dX12_comes_94 ?_
      refine lv_iload_n hx hb dX12_comes_97 rfl (lv_at hl 2 rfl) ?_
      refine lv_aload_n hx hb dX12_comes_98 rfl (lv_at hl 1 rfl) ?_
      refine gt_X12 hx hb hts hown hK hP 0 (hW_w_31.o tM_0) 41 (by decide) wd_1442 rfl (hW_w_31.fr tM_0 rfl) dX12_comes_99 ?_
      refine lv_iconst (v := 5) hx hb dX12_comes_102 (by decide) ?_
      refine lv_iload_n hx hb dX12_comes_103 rfl (lv_at hl 3 rfl) ?_
      refine lv_imul hx hb dX12_comes_104 ?_
      refine lv_iconst (v := 3) hx hb dX12_comes_105 (by decide) ?_
      refine lv_iadd hx hb dX12_comes_106 ?_
      refine va_iald hx hb hK hP 22 0 (hW_w_31.a tM_22) rfl (in_I ((In_add ((In_mull i_p2 (n := 5) (by decide) (by decide)) : In 5 1000 (5 * p2)) (In_lit (n := 3) (by decide) (by decide) : In 3 3 3) (by decide)) : In 8 1003 ((5 * p2) + 3)) (by decide)) dX12_comes_107 ?_
      refine lv_topi (fun v_32 ev_32 => ?_)
      refine va_iast hx hb hK hP hD hS 31 0 (hW_w_31.a tM_31) rfl (in_I i_p1 (by decide)) dX12_comes_108 (fun H locs hP hD hS => fr_w (hW_w_31.uA tM_31 (In_any v_32)) hP hD (fun w_33 ew_33 hW_w_33 hP hD => ?_))
      refine lv_aload_n hx hb dX12_comes_109 rfl (lv_at hl 1 rfl) ?_
      refine gt_X12 hx hb hts hown hK hP 0 (hW_w_33.o tM_0) 52 (by decide) wd_1453 rfl (hW_w_33.fr tM_0 rfl) dX12_comes_110 ?_
      refine lv_iload_n hx hb dX12_comes_113 rfl (lv_at hl 2 rfl) ?_
      refine lv_aload_n hx hb dX12_comes_114 rfl (lv_at hl 1 rfl) ?_
      refine gt_X12 hx hb hts hown hK hP 0 (hW_w_33.o tM_0) 41 (by decide) wd_1442 rfl (hW_w_33.fr tM_0 rfl) dX12_comes_115 ?_
      refine lv_iconst (v := 5) hx hb dX12_comes_118 (by decide) ?_
      refine lv_iload_n hx hb dX12_comes_119 rfl (lv_at hl 3 rfl) ?_
      refine lv_imul hx hb dX12_comes_120 ?_
      refine lv_iconst (v := 4) hx hb dX12_comes_121 (by decide) ?_
      refine lv_iadd hx hb dX12_comes_122 ?_
      refine va_iald hx hb hK hP 22 0 (hW_w_33.a tM_22) rfl (in_I ((In_add ((In_mull i_p2 (n := 5) (by decide) (by decide)) : In 5 1000 (5 * p2)) (In_lit (n := 4) (by decide) (by decide) : In 4 4 4) (by decide)) : In 9 1004 ((5 * p2) + 4)) (by decide)) dX12_comes_123 ?_
      refine lv_topi (fun v_34 ev_34 => ?_)
      refine va_iast hx hb hK hP hD hS 32 0 (hW_w_33.a tM_32) rfl (in_I i_p1 (by decide)) dX12_comes_124 (fun H locs hP hD hS => fr_w (hW_w_33.uA tM_32 (In_of (ev_34.trans (congrFun ((aF_cg (st_ne ew_33 (by decide))).trans ((aF_cg (st_ne ew_31 (by decide))).trans ((aF_cg (st_ne ew_29 (by decide))).trans ((aF_cg (st_ne ew_17 (by decide))).trans ((aF_cg (st_ne ew_14 (by decide))).trans (aF_cg (st_ne ew_12 (by decide)))))))) _)) ((hLM p2 i_p2).1 hz) : In 0 24 v_34)) hP hD (fun w_35 ew_35 hW_w_35 hP hD => ?_))
      refine lv_aload_n hx hb dX12_comes_125 rfl (lv_at hl 1 rfl) ?_
      refine gt_X12 hx hb hts hown hK hP 0 (hW_w_35.o tM_0) 55 (by decide) wd_1456 rfl (hW_w_35.fr tM_0 rfl) dX12_comes_126 ?_
      refine lv_iload_n hx hb dX12_comes_129 rfl (lv_at hl 2 rfl) ?_
      refine lv_dup2_11 hx hb dX12_comes_130 rfl rfl ?_
      refine va_iald hx hb hK hP 35 0 (hW_w_35.a tM_35) rfl (in_I i_p1 (by decide)) dX12_comes_131 ?_
      refine lv_topi (fun v_36 ev_36 => ?_)
      refine lv_iconst (v := 1) hx hb dX12_comes_132 (by decide) ?_
      refine lv_iadd hx hb dX12_comes_133 ?_
      refine va_iast hx hb hK hP hD hS 35 0 (hW_w_35.a tM_35) rfl (in_I i_p1 (by decide)) dX12_comes_134 (fun H locs hP hD hS => fr_w (hW_w_35.uA tM_35 (In_any (v_36 + 1))) hP hD (fun w_37 ew_37 hW_w_37 hP hD => ?_))
      refine lv_iconst (v := 0) hx hb dX12_comes_135 (by decide) ?_
      refine lv_istore (lv' := [(4, .int 0), (3, .int v_13), (0, .ref (q 0)), (1, .int p1), (2, .int p2)]) hx hb dX12_comes_136 hl (by decide) rfl (fun ls hl => ?_)
      exact J138 _ v_13 0 w_37 _ _ ls (Nat.lt_succ_self _) hW_w_37 ((((((((Sm.rf.sa ew_12 (by decide)).sa ew_14 (by decide)).sa ew_17 (by decide)).sa ew_29 (by decide)).sa ew_31 (by decide)).sa ew_33 (by decide)).sa ew_35 (by decide)).sa ew_37 (by decide)) i_p1 i_p2 (In_lit (n := 0) (by decide) (by decide) : In 0 3 0) (In_of ((fI_cg (st_ne ew_37 (by decide))).trans ((fI_cg (st_ne ew_35 (by decide))).trans ((fI_cg (st_ne ew_33 (by decide))).trans ((fI_cg (st_ne ew_31 (by decide))).trans ((fI_cg (st_ne ew_29 (by decide))).trans ((fI_cg (st_ne ew_17 (by decide))).trans ((fI_cg (st_ne ew_14 (by decide))).trans (fI_cg (st_ne ew_12 (by decide)))))))))) hf_0_37) (by have e : aF w_37 32 = upd (aF w 32) p1.toNatClampNeg v_34 := (by rw [(aF_cg (st_ne ew_37 (by decide))), aF_eq (hW_w_33.lt tM_32) ew_35, (aF_cg (st_ne ew_33 (by decide))), (aF_cg (st_ne ew_31 (by decide))), (aF_cg (st_ne ew_29 (by decide))), (aF_cg (st_ne ew_17 (by decide))), (aF_cg (st_ne ew_14 (by decide))), (aF_cg (st_ne ew_12 (by decide)))]); rw [e, show v_34 = aF w 22 ((5 * p2) + 4).toNatClampNeg from (ev_34.trans (congrFun ((aF_cg (st_ne ew_33 (by decide))).trans ((aF_cg (st_ne ew_31 (by decide))).trans ((aF_cg (st_ne ew_29 (by decide))).trans ((aF_cg (st_ne ew_17 (by decide))).trans ((aF_cg (st_ne ew_14 (by decide))).trans (aF_cg (st_ne ew_12 (by decide)))))))) _))]) hP hD hS (lv_sub hl [2, 3, 4, 1, 0] rfl)
  · refine lv_iload_n hx hb dX12_comes_40 rfl (lv_at hl 0 rfl) ?_
    refine lv_goto (tgt := 50) hx hb dX12_comes_41 (by decide) ?_
    refine va_iast hx hb hK hP hD hS 28 0 (hW_w_14.a tM_28) rfl (in_I i_p1 (by decide)) dX12_comes_50 (fun H locs hP hD hS => fr_w (hW_w_14.uA tM_28 (In_w (R_nle_r (In_any v_15) (In_any v_13) c_16 (by decide) : In (-2147483648) 2147483646 v_13) (by decide) : In (-2147483648) 2147483647 v_13)) hP hD (fun w_38 ew_38 hW_w_38 hP hD => ?_))
    refine lv_aload_n hx hb dX12_comes_51 rfl (lv_at hl 1 rfl) ?_
    refine gt_X12 hx hb hts hown hK hP 0 (hW_w_38.o tM_0) 49 (by decide) wd_1450 rfl (hW_w_38.fr tM_0 rfl) dX12_comes_52 ?_
    refine lv_iload_n hx hb dX12_comes_55 rfl (lv_at hl 2 rfl) ?_
    refine lv_iload_n hx hb dX12_comes_56 rfl (lv_at hl 0 rfl) ?_
    refine lv_aload_n hx hb dX12_comes_57 rfl (lv_at hl 1 rfl) ?_
    refine gt_X12 hx hb hts hown hK hP 0 (hW_w_38.o tM_0) 49 (by decide) wd_1450 rfl (hW_w_38.fr tM_0 rfl) dX12_comes_58 ?_
    refine lv_iload_n hx hb dX12_comes_61 rfl (lv_at hl 2 rfl) ?_
    refine va_iald hx hb hK hP 29 0 (hW_w_38.a tM_29) rfl (in_I i_p1 (by decide)) dX12_comes_62 ?_
    refine lv_topi (fun v_39 ev_39 => ?_)
    refine lv_icmp_le (tgt := 70) hx hb dX12_comes_63 (by decide) (fun c_40 => ?_) (fun c_40 => ?_)
    · refine lv_aload_n hx hb dX12_comes_70 rfl (lv_at hl 1 rfl) ?_
      refine gt_X12 hx hb hts hown hK hP 0 (hW_w_38.o tM_0) 49 (by decide) wd_1450 rfl (hW_w_38.fr tM_0 rfl) dX12_comes_71 ?_
      refine lv_iload_n hx hb dX12_comes_74 rfl (lv_at hl 2 rfl) ?_
      refine va_iald hx hb hK hP 29 0 (hW_w_38.a tM_29) rfl (in_I i_p1 (by decide)) dX12_comes_75 ?_
      refine tov (v := v_39) ((congrFun ((aF_cg (st_ne ew_38 (by decide))).trans ((aF_cg (st_ne ew_14 (by decide))).trans (aF_cg (st_ne ew_12 (by decide))))) _).trans ((congrFun ((aF_cg (st_ne ew_38 (by decide))).trans ((aF_cg (st_ne ew_14 (by decide))).trans (aF_cg (st_ne ew_12 (by decide))))) _).symm.trans ev_39.symm)) ?_
      refine va_iast hx hb hK hP hD hS 29 0 (hW_w_38.a tM_29) rfl (in_I i_p1 (by decide)) dX12_comes_76 (fun H locs hP hD hS => fr_w (hW_w_38.uA tM_29 (In_any v_39)) hP hD (fun w_41 ew_41 hW_w_41 hP hD => ?_))
      refine lv_aload_n hx hb dX12_comes_77 rfl (lv_at hl 1 rfl) ?_
      refine gt_X12 hx hb hts hown hK hP 0 (hW_w_41.o tM_0) 50 (by decide) wd_1451 rfl (hW_w_41.fr tM_0 rfl) dX12_comes_78 ?_
      refine lv_iload_n hx hb dX12_comes_81 rfl (lv_at hl 2 rfl) ?_
      refine lv_aload_n hx hb dX12_comes_82 rfl (lv_at hl 1 rfl) ?_
      refine gt_X12 hx hb hts hown hK hP 0 (hW_w_41.o tM_0) 41 (by decide) wd_1442 rfl (hW_w_41.fr tM_0 rfl) dX12_comes_83 ?_
      refine lv_iconst (v := 5) hx hb dX12_comes_86 (by decide) ?_
      refine lv_iload_n hx hb dX12_comes_87 rfl (lv_at hl 3 rfl) ?_
      refine lv_imul hx hb dX12_comes_88 ?_
      refine lv_iconst (v := 2) hx hb dX12_comes_89 (by decide) ?_
      refine lv_iadd hx hb dX12_comes_90 ?_
      refine va_iald hx hb hK hP 22 0 (hW_w_41.a tM_22) rfl (in_I ((In_add ((In_mull i_p2 (n := 5) (by decide) (by decide)) : In 5 1000 (5 * p2)) (In_lit (n := 2) (by decide) (by decide) : In 2 2 2) (by decide)) : In 7 1002 ((5 * p2) + 2)) (by decide)) dX12_comes_91 ?_
      refine lv_topi (fun v_42 ev_42 => ?_)
      refine va_iast hx hb hK hP hD hS 30 0 (hW_w_41.a tM_30) rfl (in_I i_p1 (by decide)) dX12_comes_92 (fun H locs hP hD hS => fr_w (hW_w_41.uA tM_30 (In_any v_42)) hP hD (fun w_43 ew_43 hW_w_43 hP hD => ?_))
      refine lv_aload_n hx hb dX12_comes_93 rfl (lv_at hl 1 rfl) ?_
      refine gt_X12 hx hb hts hown hK hP 0 (hW_w_43.o tM_0) 51 (by decide) wd_1452 rfl (hW_w_43.fr tM_0 rfl) dX12_comes_94 ?_
      refine lv_iload_n hx hb dX12_comes_97 rfl (lv_at hl 2 rfl) ?_
      refine lv_aload_n hx hb dX12_comes_98 rfl (lv_at hl 1 rfl) ?_
      refine gt_X12 hx hb hts hown hK hP 0 (hW_w_43.o tM_0) 41 (by decide) wd_1442 rfl (hW_w_43.fr tM_0 rfl) dX12_comes_99 ?_
      refine lv_iconst (v := 5) hx hb dX12_comes_102 (by decide) ?_
      refine lv_iload_n hx hb dX12_comes_103 rfl (lv_at hl 3 rfl) ?_
      refine lv_imul hx hb dX12_comes_104 ?_
      refine lv_iconst (v := 3) hx hb dX12_comes_105 (by decide) ?_
      refine lv_iadd hx hb dX12_comes_106 ?_
      refine va_iald hx hb hK hP 22 0 (hW_w_43.a tM_22) rfl (in_I ((In_add ((In_mull i_p2 (n := 5) (by decide) (by decide)) : In 5 1000 (5 * p2)) (In_lit (n := 3) (by decide) (by decide) : In 3 3 3) (by decide)) : In 8 1003 ((5 * p2) + 3)) (by decide)) dX12_comes_107 ?_
      refine lv_topi (fun v_44 ev_44 => ?_)
      refine va_iast hx hb hK hP hD hS 31 0 (hW_w_43.a tM_31) rfl (in_I i_p1 (by decide)) dX12_comes_108 (fun H locs hP hD hS => fr_w (hW_w_43.uA tM_31 (In_any v_44)) hP hD (fun w_45 ew_45 hW_w_45 hP hD => ?_))
      refine lv_aload_n hx hb dX12_comes_109 rfl (lv_at hl 1 rfl) ?_
      refine gt_X12 hx hb hts hown hK hP 0 (hW_w_45.o tM_0) 52 (by decide) wd_1453 rfl (hW_w_45.fr tM_0 rfl) dX12_comes_110 ?_
      refine lv_iload_n hx hb dX12_comes_113 rfl (lv_at hl 2 rfl) ?_
      refine lv_aload_n hx hb dX12_comes_114 rfl (lv_at hl 1 rfl) ?_
      refine gt_X12 hx hb hts hown hK hP 0 (hW_w_45.o tM_0) 41 (by decide) wd_1442 rfl (hW_w_45.fr tM_0 rfl) dX12_comes_115 ?_
      refine lv_iconst (v := 5) hx hb dX12_comes_118 (by decide) ?_
      refine lv_iload_n hx hb dX12_comes_119 rfl (lv_at hl 3 rfl) ?_
      refine lv_imul hx hb dX12_comes_120 ?_
      refine lv_iconst (v := 4) hx hb dX12_comes_121 (by decide) ?_
      refine lv_iadd hx hb dX12_comes_122 ?_
      refine va_iald hx hb hK hP 22 0 (hW_w_45.a tM_22) rfl (in_I ((In_add ((In_mull i_p2 (n := 5) (by decide) (by decide)) : In 5 1000 (5 * p2)) (In_lit (n := 4) (by decide) (by decide) : In 4 4 4) (by decide)) : In 9 1004 ((5 * p2) + 4)) (by decide)) dX12_comes_123 ?_
      refine lv_topi (fun v_46 ev_46 => ?_)
      refine va_iast hx hb hK hP hD hS 32 0 (hW_w_45.a tM_32) rfl (in_I i_p1 (by decide)) dX12_comes_124 (fun H locs hP hD hS => fr_w (hW_w_45.uA tM_32 (In_of (ev_46.trans (congrFun ((aF_cg (st_ne ew_45 (by decide))).trans ((aF_cg (st_ne ew_43 (by decide))).trans ((aF_cg (st_ne ew_41 (by decide))).trans ((aF_cg (st_ne ew_38 (by decide))).trans ((aF_cg (st_ne ew_14 (by decide))).trans (aF_cg (st_ne ew_12 (by decide)))))))) _)) ((hLM p2 i_p2).1 hz) : In 0 24 v_46)) hP hD (fun w_47 ew_47 hW_w_47 hP hD => ?_))
      refine lv_aload_n hx hb dX12_comes_125 rfl (lv_at hl 1 rfl) ?_
      refine gt_X12 hx hb hts hown hK hP 0 (hW_w_47.o tM_0) 55 (by decide) wd_1456 rfl (hW_w_47.fr tM_0 rfl) dX12_comes_126 ?_
      refine lv_iload_n hx hb dX12_comes_129 rfl (lv_at hl 2 rfl) ?_
      refine lv_dup2_11 hx hb dX12_comes_130 rfl rfl ?_
      refine va_iald hx hb hK hP 35 0 (hW_w_47.a tM_35) rfl (in_I i_p1 (by decide)) dX12_comes_131 ?_
      refine lv_topi (fun v_48 ev_48 => ?_)
      refine lv_iconst (v := 1) hx hb dX12_comes_132 (by decide) ?_
      refine lv_iadd hx hb dX12_comes_133 ?_
      refine va_iast hx hb hK hP hD hS 35 0 (hW_w_47.a tM_35) rfl (in_I i_p1 (by decide)) dX12_comes_134 (fun H locs hP hD hS => fr_w (hW_w_47.uA tM_35 (In_any (v_48 + 1))) hP hD (fun w_49 ew_49 hW_w_49 hP hD => ?_))
      refine lv_iconst (v := 0) hx hb dX12_comes_135 (by decide) ?_
      refine lv_istore (lv' := [(4, .int 0), (3, .int v_13), (0, .ref (q 0)), (1, .int p1), (2, .int p2)]) hx hb dX12_comes_136 hl (by decide) rfl (fun ls hl => ?_)
      exact J138 _ v_13 0 w_49 _ _ ls (Nat.lt_succ_self _) hW_w_49 ((((((((Sm.rf.sa ew_12 (by decide)).sa ew_14 (by decide)).sa ew_38 (by decide)).sa ew_41 (by decide)).sa ew_43 (by decide)).sa ew_45 (by decide)).sa ew_47 (by decide)).sa ew_49 (by decide)) i_p1 i_p2 (In_lit (n := 0) (by decide) (by decide) : In 0 3 0) (In_of ((fI_cg (st_ne ew_49 (by decide))).trans ((fI_cg (st_ne ew_47 (by decide))).trans ((fI_cg (st_ne ew_45 (by decide))).trans ((fI_cg (st_ne ew_43 (by decide))).trans ((fI_cg (st_ne ew_41 (by decide))).trans ((fI_cg (st_ne ew_38 (by decide))).trans ((fI_cg (st_ne ew_14 (by decide))).trans (fI_cg (st_ne ew_12 (by decide)))))))))) hf_0_37) (by have e : aF w_49 32 = upd (aF w 32) p1.toNatClampNeg v_46 := (by rw [(aF_cg (st_ne ew_49 (by decide))), aF_eq (hW_w_45.lt tM_32) ew_47, (aF_cg (st_ne ew_45 (by decide))), (aF_cg (st_ne ew_43 (by decide))), (aF_cg (st_ne ew_41 (by decide))), (aF_cg (st_ne ew_38 (by decide))), (aF_cg (st_ne ew_14 (by decide))), (aF_cg (st_ne ew_12 (by decide)))]); rw [e, show v_46 = aF w 22 ((5 * p2) + 4).toNatClampNeg from (ev_46.trans (congrFun ((aF_cg (st_ne ew_45 (by decide))).trans ((aF_cg (st_ne ew_43 (by decide))).trans ((aF_cg (st_ne ew_41 (by decide))).trans ((aF_cg (st_ne ew_38 (by decide))).trans ((aF_cg (st_ne ew_14 (by decide))).trans (aF_cg (st_ne ew_12 (by decide)))))))) _))]) hP hD hS (lv_sub hl [2, 3, 4, 1, 0] rfl)
    · refine lv_iload_n hx hb dX12_comes_66 rfl (lv_at hl 0 rfl) ?_
      refine lv_goto (tgt := 76) hx hb dX12_comes_67 (by decide) ?_
      refine va_iast hx hb hK hP hD hS 29 0 (hW_w_38.a tM_29) rfl (in_I i_p1 (by decide)) dX12_comes_76 (fun H locs hP hD hS => fr_w (hW_w_38.uA tM_29 (In_w (R_nle_l (R_nle_r (In_any v_15) (In_any v_13) c_16 (by decide) : In (-2147483648) 2147483646 v_13) (In_any v_39) c_40 (by decide) : In (-2147483647) 2147483646 v_13) (by decide) : In (-2147483648) 2147483647 v_13)) hP hD (fun w_50 ew_50 hW_w_50 hP hD => ?_))
      refine lv_aload_n hx hb dX12_comes_77 rfl (lv_at hl 1 rfl) ?_
      refine gt_X12 hx hb hts hown hK hP 0 (hW_w_50.o tM_0) 50 (by decide) wd_1451 rfl (hW_w_50.fr tM_0 rfl) dX12_comes_78 ?_
      refine lv_iload_n hx hb dX12_comes_81 rfl (lv_at hl 2 rfl) ?_
      refine lv_aload_n hx hb dX12_comes_82 rfl (lv_at hl 1 rfl) ?_
      refine gt_X12 hx hb hts hown hK hP 0 (hW_w_50.o tM_0) 41 (by decide) wd_1442 rfl (hW_w_50.fr tM_0 rfl) dX12_comes_83 ?_
      refine lv_iconst (v := 5) hx hb dX12_comes_86 (by decide) ?_
      refine lv_iload_n hx hb dX12_comes_87 rfl (lv_at hl 3 rfl) ?_
      refine lv_imul hx hb dX12_comes_88 ?_
      refine lv_iconst (v := 2) hx hb dX12_comes_89 (by decide) ?_
      refine lv_iadd hx hb dX12_comes_90 ?_
      refine va_iald hx hb hK hP 22 0 (hW_w_50.a tM_22) rfl (in_I ((In_add ((In_mull i_p2 (n := 5) (by decide) (by decide)) : In 5 1000 (5 * p2)) (In_lit (n := 2) (by decide) (by decide) : In 2 2 2) (by decide)) : In 7 1002 ((5 * p2) + 2)) (by decide)) dX12_comes_91 ?_
      refine lv_topi (fun v_51 ev_51 => ?_)
      refine va_iast hx hb hK hP hD hS 30 0 (hW_w_50.a tM_30) rfl (in_I i_p1 (by decide)) dX12_comes_92 (fun H locs hP hD hS => fr_w (hW_w_50.uA tM_30 (In_any v_51)) hP hD (fun w_52 ew_52 hW_w_52 hP hD => ?_))
      refine lv_aload_n hx hb dX12_comes_93 rfl (lv_at hl 1 rfl) ?_
      refine gt_X12 hx hb hts hown hK hP 0 (hW_w_52.o tM_0) 51 (by decide) wd_1452 rfl (hW_w_52.fr tM_0 rfl) dX12_comes_94 ?_
      refine lv_iload_n hx hb dX12_comes_97 rfl (lv_at hl 2 rfl) ?_
      refine lv_aload_n hx hb dX12_comes_98 rfl (lv_at hl 1 rfl) ?_
      refine gt_X12 hx hb hts hown hK hP 0 (hW_w_52.o tM_0) 41 (by decide) wd_1442 rfl (hW_w_52.fr tM_0 rfl) dX12_comes_99 ?_
      refine lv_iconst (v := 5) hx hb dX12_comes_102 (by decide) ?_
      refine lv_iload_n hx hb dX12_comes_103 rfl (lv_at hl 3 rfl) ?_
      refine lv_imul hx hb dX12_comes_104 ?_
      refine lv_iconst (v := 3) hx hb dX12_comes_105 (by decide) ?_
      refine lv_iadd hx hb dX12_comes_106 ?_
      refine va_iald hx hb hK hP 22 0 (hW_w_52.a tM_22) rfl (in_I ((In_add ((In_mull i_p2 (n := 5) (by decide) (by decide)) : In 5 1000 (5 * p2)) (In_lit (n := 3) (by decide) (by decide) : In 3 3 3) (by decide)) : In 8 1003 ((5 * p2) + 3)) (by decide)) dX12_comes_107 ?_
      refine lv_topi (fun v_53 ev_53 => ?_)
      refine va_iast hx hb hK hP hD hS 31 0 (hW_w_52.a tM_31) rfl (in_I i_p1 (by decide)) dX12_comes_108 (fun H locs hP hD hS => fr_w (hW_w_52.uA tM_31 (In_any v_53)) hP hD (fun w_54 ew_54 hW_w_54 hP hD => ?_))
      refine lv_aload_n hx hb dX12_comes_109 rfl (lv_at hl 1 rfl) ?_
      refine gt_X12 hx hb hts hown hK hP 0 (hW_w_54.o tM_0) 52 (by decide) wd_1453 rfl (hW_w_54.fr tM_0 rfl) dX12_comes_110 ?_
      refine lv_iload_n hx hb dX12_comes_113 rfl (lv_at hl 2 rfl) ?_
      refine lv_aload_n hx hb dX12_comes_114 rfl (lv_at hl 1 rfl) ?_
      refine gt_X12 hx hb hts hown hK hP 0 (hW_w_54.o tM_0) 41 (by decide) wd_1442 rfl (hW_w_54.fr tM_0 rfl) dX12_comes_115 ?_
      refine lv_iconst (v := 5) hx hb dX12_comes_118 (by decide) ?_
      refine lv_iload_n hx hb dX12_comes_119 rfl (lv_at hl 3 rfl) ?_
      refine lv_imul hx hb dX12_comes_120 ?_
      refine lv_iconst (v := 4) hx hb dX12_comes_121 (by decide) ?_
      refine lv_iadd hx hb dX12_comes_122 ?_
      refine va_iald hx hb hK hP 22 0 (hW_w_54.a tM_22) rfl (in_I ((In_add ((In_mull i_p2 (n := 5) (by decide) (by decide)) : In 5 1000 (5 * p2)) (In_lit (n := 4) (by decide) (by decide) : In 4 4 4) (by decide)) : In 9 1004 ((5 * p2) + 4)) (by decide)) dX12_comes_123 ?_
      refine lv_topi (fun v_55 ev_55 => ?_)
      refine va_iast hx hb hK hP hD hS 32 0 (hW_w_54.a tM_32) rfl (in_I i_p1 (by decide)) dX12_comes_124 (fun H locs hP hD hS => fr_w (hW_w_54.uA tM_32 (In_of (ev_55.trans (congrFun ((aF_cg (st_ne ew_54 (by decide))).trans ((aF_cg (st_ne ew_52 (by decide))).trans ((aF_cg (st_ne ew_50 (by decide))).trans ((aF_cg (st_ne ew_38 (by decide))).trans ((aF_cg (st_ne ew_14 (by decide))).trans (aF_cg (st_ne ew_12 (by decide)))))))) _)) ((hLM p2 i_p2).1 hz) : In 0 24 v_55)) hP hD (fun w_56 ew_56 hW_w_56 hP hD => ?_))
      refine lv_aload_n hx hb dX12_comes_125 rfl (lv_at hl 1 rfl) ?_
      refine gt_X12 hx hb hts hown hK hP 0 (hW_w_56.o tM_0) 55 (by decide) wd_1456 rfl (hW_w_56.fr tM_0 rfl) dX12_comes_126 ?_
      refine lv_iload_n hx hb dX12_comes_129 rfl (lv_at hl 2 rfl) ?_
      refine lv_dup2_11 hx hb dX12_comes_130 rfl rfl ?_
      refine va_iald hx hb hK hP 35 0 (hW_w_56.a tM_35) rfl (in_I i_p1 (by decide)) dX12_comes_131 ?_
      refine lv_topi (fun v_57 ev_57 => ?_)
      refine lv_iconst (v := 1) hx hb dX12_comes_132 (by decide) ?_
      refine lv_iadd hx hb dX12_comes_133 ?_
      refine va_iast hx hb hK hP hD hS 35 0 (hW_w_56.a tM_35) rfl (in_I i_p1 (by decide)) dX12_comes_134 (fun H locs hP hD hS => fr_w (hW_w_56.uA tM_35 (In_any (v_57 + 1))) hP hD (fun w_58 ew_58 hW_w_58 hP hD => ?_))
      refine lv_iconst (v := 0) hx hb dX12_comes_135 (by decide) ?_
      refine lv_istore (lv' := [(4, .int 0), (3, .int v_13), (0, .ref (q 0)), (1, .int p1), (2, .int p2)]) hx hb dX12_comes_136 hl (by decide) rfl (fun ls hl => ?_)
      exact J138 _ v_13 0 w_58 _ _ ls (Nat.lt_succ_self _) hW_w_58 ((((((((Sm.rf.sa ew_12 (by decide)).sa ew_14 (by decide)).sa ew_38 (by decide)).sa ew_50 (by decide)).sa ew_52 (by decide)).sa ew_54 (by decide)).sa ew_56 (by decide)).sa ew_58 (by decide)) i_p1 i_p2 (In_lit (n := 0) (by decide) (by decide) : In 0 3 0) (In_of ((fI_cg (st_ne ew_58 (by decide))).trans ((fI_cg (st_ne ew_56 (by decide))).trans ((fI_cg (st_ne ew_54 (by decide))).trans ((fI_cg (st_ne ew_52 (by decide))).trans ((fI_cg (st_ne ew_50 (by decide))).trans ((fI_cg (st_ne ew_38 (by decide))).trans ((fI_cg (st_ne ew_14 (by decide))).trans (fI_cg (st_ne ew_12 (by decide)))))))))) hf_0_37) (by have e : aF w_58 32 = upd (aF w 32) p1.toNatClampNeg v_55 := (by rw [(aF_cg (st_ne ew_58 (by decide))), aF_eq (hW_w_54.lt tM_32) ew_56, (aF_cg (st_ne ew_54 (by decide))), (aF_cg (st_ne ew_52 (by decide))), (aF_cg (st_ne ew_50 (by decide))), (aF_cg (st_ne ew_38 (by decide))), (aF_cg (st_ne ew_14 (by decide))), (aF_cg (st_ne ew_12 (by decide)))]); rw [e, show v_55 = aF w 22 ((5 * p2) + 4).toNatClampNeg from (ev_55.trans (congrFun ((aF_cg (st_ne ew_54 (by decide))).trans ((aF_cg (st_ne ew_52 (by decide))).trans ((aF_cg (st_ne ew_50 (by decide))).trans ((aF_cg (st_ne ew_38 (by decide))).trans ((aF_cg (st_ne ew_14 (by decide))).trans (aF_cg (st_ne ew_12 (by decide)))))))) _))]) hP hD hS (lv_sub hl [2, 3, 4, 1, 0] rfl)
set_option maxRecDepth 100000 in
set_option maxHeartbeats 8000000 in
theorem k_X12_now (l : Launch) (D : va_G) (cI cJ cZ : ClassId) (q : Nat → Nat) (w : va_W) (hW_w : HT q (TM q cI cJ cZ) w) : Con_i l yX12_now cX12_now 1 (some .int) ({ frames := 0, cells := 0, slots := 0, locals := 0 }) D cI cJ cZ eW [.ref (q 0)] w (fun (r : Int32) (w1 : va_W) => HT q (TM q cI cJ cZ) w1 ∧ Sm [] [] w w1 ∧ In 0 200 r) := by
  refine eQ_i rfl (by decide) (Nat.le_of_ble_eq_true rfl) ⟨rfl, rfl⟩ ?_
  intro p e R s m args below meth c A Q hx hb hml hown hts hK hE hA hR hret hP hD hS ls hl
  have hown : s.vm.findClass RX12 = some m.cls := hown
  have hl : lv_has ls 1 [(0, .ref (q 0))] := hl
  refine lv_aload_n hx hb dX12_now_0 rfl (lv_at hl 0 rfl) ?_
  refine gt_X12 hx hb hts hown hK hP 0 (hW_w.o tM_0) 39 (by decide) wd_1440 rfl (hW_w.fi tM_0 rfl) dX12_now_1 ?_
  refine lv_iconst (v := (-1)) hx hb dX12_now_4 (by decide) ?_
  refine lv_icmp_ne (tgt := 15) hx hb dX12_now_5 (by decide) (fun c_1 => ?_) (fun c_1 => ?_)
  · refine lv_aload_n hx hb dX12_now_15 rfl (lv_at hl 0 rfl) ?_
    refine gt_X12 hx hb hts hown hK hP 0 (hW_w.o tM_0) 39 (by decide) wd_1440 rfl (hW_w.fi tM_0 rfl) dX12_now_16 ?_
    exact hret _ _ _ _ _ _ hP hD hS dX12_now_19 ⟨hW_w, Sm.rf, (R_ne_l (hW_w.fin tM_0 rfl : In (-1) 200 (fI w 0 39)) (In_lit (n := (-1)) (by decide) (by decide) : In (-1) (-1) (-1)) c_1 (by decide) : In 0 200 (fI w 0 39))⟩
  · refine lv_aload_n hx hb dX12_now_8 rfl (lv_at hl 0 rfl) ?_
    refine gt_X12 hx hb hts hown hK hP 0 (hW_w.o tM_0) 37 (by decide) wd_1438 rfl (hW_w.fi tM_0 rfl) dX12_now_9 ?_
    refine lv_goto (tgt := 19) hx hb dX12_now_12 (by decide) ?_
    exact hret _ _ _ _ _ _ hP hD hS dX12_now_19 ⟨hW_w, Sm.rf, (hW_w.fin tM_0 rfl : In 0 200 (fI w 0 37))⟩
set_option maxRecDepth 100000 in
set_option maxHeartbeats 8000000 in
theorem k_X12_isSo (l : Launch) (D : va_G) (cI cJ cZ : ClassId) (q : Nat → Nat) (w : va_W) (hW_w : HT q (TM q cI cJ cZ) w) (p1 : Int32) (i_p1 : In 1 200 p1) : Con_i l yX12_isSo cX12_isSo 2 (some .boolean) ({ frames := 1, cells := 0, slots := 0, locals := 20 }) D cI cJ cZ eW [.ref (q 0), .int p1] w (fun (r : Int32) (w1 : va_W) => HT q (TM q cI cJ cZ) w1 ∧ Sm [] [] w w1 ∧ In 0 1 r) := by
  refine eQ_z rfl (by decide) (Nat.le_of_ble_eq_true rfl) ⟨rfl, rfl⟩ ?_
  intro p e R s m args below meth c A Q hx hb hml hown hts hK hE hA hR hret hP hD hS ls hl
  have hown : s.vm.findClass RX12 = some m.cls := hown
  have hl : lv_has ls 2 [(0, .ref (q 0)), (1, .int p1)] := hl
  refine lv_iload_n hx hb dX12_isSo_0 rfl (lv_at hl 1 rfl) ?_
  refine lv_aload_n hx hb dX12_isSo_1 rfl (lv_at hl 0 rfl) ?_
  refine kW_i ⟨rfl, rfl⟩ hP hD hS hA (rW_V (As := []) (rest := [.int p1]) hx hb hml hown hts hK hE hP hD (k_X12_now l D cI cJ cZ q w hW_w  _) ⟨⟨rfl, rfl⟩, rfl, rfl⟩ sv_X12_457 ⟨(Nat.le_trans (by decide) hR.1), (Nat.le_trans (by decide) hR.2)⟩ 0 12 (hW_w.o tM_0) rfl rfl rfl hl.1 rfl (Nat.le_of_ble_eq_true rfl) dX12_isSo_2) (fun r_2 w_1 H locs hw_w_1 hP hD hS => ?_)
  obtain ⟨hW_w_1, hs_w_1, i_r_2⟩ := hw_w_1
  refine lv_icmp_gt (tgt := 34) hx hb dX12_isSo_5 (by decide) (fun c_3 => ?_) (fun c_3 => ?_)
  · refine lv_iconst (v := 0) hx hb dX12_isSo_34 (by decide) ?_
    exact hret _ _ _ _ _ _ hP hD hS dX12_isSo_35 (In_lit (n := 0) (by decide) (by decide) : In 0 1 0) ⟨hW_w_1, (Sm.rf.tr hs_w_1 (by decide)), (In_lit (n := 0) (by decide) (by decide) : In 0 1 0)⟩
  · refine lv_aload_n hx hb dX12_isSo_8 rfl (lv_at hl 0 rfl) ?_
    refine gt_X12 hx hb hts hown hK hP 0 (hW_w_1.o tM_0) 42 (by decide) wd_1443 rfl (hW_w_1.fr tM_0 rfl) dX12_isSo_9 ?_
    refine lv_iload_n hx hb dX12_isSo_12 rfl (lv_at hl 1 rfl) ?_
    refine va_iald hx hb hK hP 23 0 (hW_w_1.a tM_23) rfl (in_I i_p1 (by decide)) dX12_isSo_13 ?_
    refine lv_topi (fun v_4 ev_4 => ?_)
    refine lv_if_eq (tgt := 30) hx hb dX12_isSo_14 (by decide) (fun c_5 => ?_) (fun c_5 => ?_)
    · refine lv_iconst (v := 1) hx hb dX12_isSo_30 (by decide) ?_
      refine lv_goto (tgt := 35) hx hb dX12_isSo_31 (by decide) ?_
      exact hret _ _ _ _ _ _ hP hD hS dX12_isSo_35 (In_lit (n := 1) (by decide) (by decide) : In 0 1 1) ⟨hW_w_1, (Sm.rf.tr hs_w_1 (by decide)), (In_lit (n := 1) (by decide) (by decide) : In 0 1 1)⟩
    · refine lv_aload_n hx hb dX12_isSo_17 rfl (lv_at hl 0 rfl) ?_
      refine gt_X12 hx hb hts hown hK hP 0 (hW_w_1.o tM_0) 42 (by decide) wd_1443 rfl (hW_w_1.fr tM_0 rfl) dX12_isSo_18 ?_
      refine lv_iload_n hx hb dX12_isSo_21 rfl (lv_at hl 1 rfl) ?_
      refine va_iald hx hb hK hP 23 0 (hW_w_1.a tM_23) rfl (in_I i_p1 (by decide)) dX12_isSo_22 ?_
      refine tov (v := v_4) ((congrFun (hs_w_1.hA (by decide)) _).trans ((congrFun (hs_w_1.hA (by decide)) _).symm.trans ev_4.symm)) ?_
      refine lv_aload_n hx hb dX12_isSo_23 rfl (lv_at hl 0 rfl) ?_
      refine kW_i ⟨rfl, rfl⟩ hP hD hS hA (rW_V (As := []) (rest := [.int v_4]) hx hb hml hown hts hK hE hP hD (k_X12_now l D cI cJ cZ q w_1 hW_w_1  _) ⟨⟨rfl, rfl⟩, rfl, rfl⟩ sv_X12_457 ⟨(Nat.le_trans (by decide) hR.1), (Nat.le_trans (by decide) hR.2)⟩ 0 12 (hW_w_1.o tM_0) rfl rfl rfl hl.1 rfl (Nat.le_of_ble_eq_true rfl) dX12_isSo_24) (fun r_7 w_6 H locs hw_w_6 hP hD hS => ?_)
      obtain ⟨hW_w_6, hs_w_6, i_r_7⟩ := hw_w_6
      refine lv_icmp_le (tgt := 34) hx hb dX12_isSo_27 (by decide) (fun c_8 => ?_) (fun c_8 => ?_)
      · refine lv_iconst (v := 0) hx hb dX12_isSo_34 (by decide) ?_
        exact hret _ _ _ _ _ _ hP hD hS dX12_isSo_35 (In_lit (n := 0) (by decide) (by decide) : In 0 1 0) ⟨hW_w_6, ((Sm.rf.tr hs_w_1 (by decide)).tr hs_w_6 (by decide)), (In_lit (n := 0) (by decide) (by decide) : In 0 1 0)⟩
      · refine lv_iconst (v := 1) hx hb dX12_isSo_30 (by decide) ?_
        refine lv_goto (tgt := 35) hx hb dX12_isSo_31 (by decide) ?_
        exact hret _ _ _ _ _ _ hP hD hS dX12_isSo_35 (In_lit (n := 1) (by decide) (by decide) : In 0 1 1) ⟨hW_w_6, ((Sm.rf.tr hs_w_1 (by decide)).tr hs_w_6 (by decide)), (In_lit (n := 1) (by decide) (by decide) : In 0 1 1)⟩
set_option maxRecDepth 100000 in
set_option maxHeartbeats 8000000 in
theorem k_X12_knows (l : Launch) (D : va_G) (cI cJ cZ : ClassId) (q : Nat → Nat) (w : va_W) (hW_w : HT q (TM q cI cJ cZ) w) (hLM : LM w) : Con_v l yX12_knows cX12_knows 4 none ({ frames := 2, cells := 0, slots := 0, locals := 50 }) D cI cJ cZ eW [.ref (q 0)] w (fun (w1 : va_W) => HT q (TM q cI cJ cZ) w1 ∧ Sm [0, 26, 27, 28, 29, 30, 31, 32, 33, 34, 35, 36] [(0, 45)] w w1 ∧ ((LY w → DY w1))) := by
  refine eQ_v rfl (by decide) (Nat.le_of_ble_eq_true rfl) ⟨rfl, rfl⟩ ?_
  intro p e R s m args below meth c A Q hx hb hml hown hts hK hE hA hR hret hP hD hS ls hl
  have hown : s.vm.findClass RX12 = some m.cls := hown
  have hl : lv_has ls 4 [(0, .ref (q 0))] := hl
  have J7 : ∀ (N : Nat) (x7_1 : Int32) (w7 : va_W) (H : Heap) (locs : List Loc) (ls : Array Slot), (201 - x7_1.toInt).toNat < N → HT q (TM q cI cJ cZ) w7 → Sm [0, 26, 27, 28, 29, 30, 31, 32, 33, 34, 35, 36] [(0, 45)] w w7 → (In 1 201 x7_1) → (LY w → DY w7) → va_P D vwCl w7 H → va_D A w7 → va_S A s.heap H locs → lv_has ls 4 [(0, .ref (q 0)), (1, .int x7_1)] → W p l e R s m args below meth c H locs 0 0 Q (F0 m 7 ls []) := by
    intro N
    induction N with
    | zero => intro x7_1 w7 H locs ls hmu; exact absurd hmu (Nat.not_lt_zero _)
    | succ N ih7 =>
      intro x7_1 w7 H locs ls hmu7 hW_w7 hM_w7 i_x7_1 hdy_7 hP hD hS hl
      have J46 : ∀ (N : Nat) (x46_2 : Int32) (x46_3 : Int32) (w46 : va_W) (H : Heap) (locs : List Loc) (ls : Array Slot), (40 - x46_3.toInt).toNat < N → HT q (TM q cI cJ cZ) w46 → Sm [0, 26, 27, 28, 29, 30, 31, 32, 33, 34, 35, 36] [(0, 45)] w w46 → (In 1 200 x7_1) → (In (-1) 39 x46_2) → (In 0 40 x46_3) → (In 1 200 (fI w46 0 37)) → (aF w 21 x7_1.toNatClampNeg = 0) → ((x7_1 : Int32).toInt ≤ (fI w 0 37).toInt) → (LY w → DY w46) → va_P D vwCl w46 H → va_D A w46 → va_S A s.heap H locs → lv_has ls 4 [(0, .ref (q 0)), (1, .int x7_1), (2, .int x46_2), (3, .int x46_3)] → W p l e R s m args below meth c H locs 0 0 Q (F0 m 46 ls []) := by
        intro N
        induction N with
        | zero => intro x46_2 x46_3 w46 H locs ls hmu; exact absurd hmu (Nat.not_lt_zero _)
        | succ N ih46 =>
          intro x46_2 x46_3 w46 H locs ls hmu46 hW_w46 hM_w46 i_x46_1 i_x46_2 i_x46_3 g46_0_37 hz_46 hle_46 hdy_46 hP hD hS hl
          refine lv_iload_n hx hb dX12_knows_46 rfl (lv_at hl 3 rfl) ?_
          refine lv_aload_n hx hb dX12_knows_47 rfl (lv_at hl 0 rfl) ?_
          refine gt_X12 hx hb hts hown hK hP 0 (hW_w46.o tM_0) 45 (by decide) wd_1446 rfl (hW_w46.fi tM_0 rfl) dX12_knows_48 ?_
          refine lv_icmp_ge (tgt := 94) hx hb dX12_knows_51 (by decide) (fun c_1 => ?_) (fun c_1 => ?_)
          · refine lv_iload_n hx hb dX12_knows_94 rfl (lv_at hl 2 rfl) ?_
            refine lv_iconst (v := (-1)) hx hb dX12_knows_95 (by decide) ?_
            refine lv_icmp_ne (tgt := 111) hx hb dX12_knows_96 (by decide) (fun c_2 => ?_) (fun c_2 => ?_)
            · refine lv_iload_n hx hb dX12_knows_111 rfl (lv_at hl 2 rfl) ?_
              refine lv_iconst (v := (-1)) hx hb dX12_knows_112 (by decide) ?_
              refine lv_icmp_ne (tgt := 191) hx hb dX12_knows_113 (by decide) (fun c_3 => ?_) (fun c_3 => ?_)
              · refine lv_aload_n hx hb dX12_knows_191 rfl (lv_at hl 0 rfl) ?_
                refine lv_iload_n hx hb dX12_knows_192 rfl (lv_at hl 2 rfl) ?_
                refine lv_iload_n hx hb dX12_knows_193 rfl (lv_at hl 1 rfl) ?_
                refine kW_v ⟨rfl, rfl⟩ hP hD hS hA (rW_V (As := [.int x46_2, .int x7_1]) (rest := []) hx hb hml hown hts hK hE hP hD (k_X12_comes l D cI cJ cZ q w46 hW_w46 x46_2 x7_1 (R_ne_l i_x46_2 (In_lit (n := (-1)) (by decide) (by decide) : In (-1) (-1) (-1)) c_2 (by decide) : In 0 39 x46_2) i_x46_1 (In_of (hM_w46.2 0 37 (by decide) (by decide)) (In_of (hM_w46.2 0 37 (by decide) (by decide)).symm g46_0_37)) (LM_cg (hM_w46.hA (by decide)) (hM_w46.hA (by decide)) hLM) (((congrFun (hM_w46.hA (by decide)) _).trans hz_46)) _) ⟨⟨rfl, rfl⟩, rfl, rfl⟩ sv_X12_464 ⟨(Nat.le_trans (by decide) hR.1), (Nat.le_trans (by decide) hR.2)⟩ 0 12 (hW_w46.o tM_0) rfl rfl rfl hl.1 rfl (Nat.le_of_ble_eq_true rfl) dX12_knows_194) (fun w_4 H locs hw_w_4 hP hD hS => ?_)
                obtain ⟨hW_w_4, hs_w_4, h_6⟩ := hw_w_4
                refine lv_iinc (v := (x7_1 + 1)) (lv' := [(1, .int (x7_1 + 1)), (0, .ref (q 0)), (2, .int x46_2), (3, .int x46_3)]) hx hb dX12_knows_197 hl (k := 1) rfl (rfl) (by decide) rfl (fun ls hl => ?_)
                refine lv_goto (tgt := 7) hx hb dX12_knows_200 (by decide) ?_
                exact ih7 (x7_1 + 1) w_4 _ _ ls (mu_inc hmu7 i_x46_1 (In_lit (n := 1) (by decide) (by decide) : In 1 1 1) (by decide)) hW_w_4 (hM_w46.tr hs_w_4 (by decide)) (In_w ((In_add (y := 1) i_x46_1 (In_lit (n := 1) (by decide) (by decide) : In 1 1 1) (by decide)) : In 2 201 (x7_1 + 1)) (by decide) : In 1 201 (x7_1 + 1)) (fun hL => DY_st (R_ne_l i_x46_2 (In_lit (n := (-1)) (by decide) (by decide) : In (-1) (-1) (-1)) c_2 (by decide) : In 0 39 x46_2) (by have e := h_6; rw [show aF w46 32 = aF w46 32 from rfl, show aF w46 22 = aF w 22 from (hM_w46.hA (by decide))] at e; exact e) (hL x7_1 i_x46_1 hle_46 hz_46) (Or.inl (by have e0_45 : (fI w_4 0 45).toInt = ((fI w46 0 45) : Int32).toInt := congrArg Int32.toInt (hs_w_4.gI (by decide)); have i0_45 := (hW_w46.fin tM_0 rfl : In 0 40 (fI w46 0 45)); unfold In at i0_45; omega)) (hdy_46 hL)) hP hD hS (lv_sub hl [1, 0] rfl)
              · exact (In_no (R_eq_l (R_ne_l i_x46_2 (In_lit (n := (-1)) (by decide) (by decide) : In (-1) (-1) (-1)) c_2 (by decide) : In 0 39 x46_2) (In_lit (n := (-1)) (by decide) (by decide) : In (-1) (-1) (-1)) c_3 (by decide) : In 0 (-1) x46_2) (by decide)).elim
            · refine lv_aload_n hx hb dX12_knows_99 rfl (lv_at hl 0 rfl) ?_
              refine gt_X12 hx hb hts hown hK hP 0 (hW_w46.o tM_0) 45 (by decide) wd_1446 rfl (hW_w46.fi tM_0 rfl) dX12_knows_100 ?_
              refine lv_bipush (v := 40) hx hb dX12_knows_103 (by decide) ?_
              refine lv_icmp_ne (tgt := 111) hx hb dX12_knows_105 (by decide) (fun c_7 => ?_) (fun c_7 => ?_)
              · refine lv_iload_n hx hb dX12_knows_111 rfl (lv_at hl 2 rfl) ?_
                refine lv_iconst (v := (-1)) hx hb dX12_knows_112 (by decide) ?_
                refine lv_icmp_ne (tgt := 191) hx hb dX12_knows_113 (by decide) (fun c_8 => ?_) (fun c_8 => ?_)
                · exact (In_no (R_ne_l (R_eq_l i_x46_2 (In_lit (n := (-1)) (by decide) (by decide) : In (-1) (-1) (-1)) c_2 (by decide) : In (-1) (-1) x46_2) (In_lit (n := (-1)) (by decide) (by decide) : In (-1) (-1) (-1)) c_8 (by decide) : In 0 (-2) x46_2) (by decide)).elim
                · refine lv_aload_n hx hb dX12_knows_116 rfl (lv_at hl 0 rfl) ?_
                  refine gt_X12 hx hb hts hown hK hP 0 (hW_w46.o tM_0) 45 (by decide) wd_1446 rfl (hW_w46.fi tM_0 rfl) dX12_knows_117 ?_
                  refine lv_istore_n (lv' := [(2, .int (fI w46 0 45)), (0, .ref (q 0)), (1, .int x7_1), (3, .int x46_3)]) hx hb dX12_knows_120 rfl hl (by decide) rfl (fun ls hl => ?_)
                  refine lv_aload_n hx hb dX12_knows_121 rfl (lv_at hl 1 rfl) ?_
                  refine lv_dup hx hb dX12_knows_122 rfl ?_
                  refine gt_X12 hx hb hts hown hK hP 0 (hW_w46.o tM_0) 45 (by decide) wd_1446 rfl (hW_w46.fi tM_0 rfl) dX12_knows_123 ?_
                  refine lv_iconst (v := 1) hx hb dX12_knows_126 (by decide) ?_
                  refine lv_iadd hx hb dX12_knows_127 ?_
                  refine pt_X12 hx hb hts hown hK hP hD hS 0 (hW_w46.o tM_0) 45 (by decide) wd_1446 rfl rfl (ty := .int) (v := .int ((fI w46 0 45) + 1)) (by decide +kernel) rfl rfl (hW_w46.ll tM_0 (Nat.le_of_ble_eq_true rfl)) dX12_knows_128 (fun H locs hP hD hS => fr_w (hW_w46.sI tM_0 rfl (In_w ((In_add (R_ne_l (hW_w46.fin tM_0 rfl : In 0 40 (fI w46 0 45)) (In_lit (n := 40) (by decide) (by decide) : In 40 40 40) c_7 (by decide) : In 0 39 (fI w46 0 45)) (In_lit (n := 1) (by decide) (by decide) : In 1 1 1) (by decide)) : In 1 40 ((fI w46 0 45) + 1)) (by decide) : In 0 40 ((fI w46 0 45) + 1))) hP hD (fun w_9 ew_9 hW_w_9 hP hD => ?_))
                  refine lv_aload_n hx hb dX12_knows_131 rfl (lv_at hl 1 rfl) ?_
                  refine gt_X12 hx hb hts hown hK hP 0 (hW_w_9.o tM_0) 46 (by decide) wd_1447 rfl (hW_w_9.fr tM_0 rfl) dX12_knows_132 ?_
                  refine lv_iload_n hx hb dX12_knows_135 rfl (lv_at hl 0 rfl) ?_
                  refine lv_aload_n hx hb dX12_knows_136 rfl (lv_at hl 1 rfl) ?_
                  refine gt_X12 hx hb hts hown hK hP 0 (hW_w_9.o tM_0) 41 (by decide) wd_1442 rfl (hW_w_9.fr tM_0 rfl) dX12_knows_137 ?_
                  refine lv_iconst (v := 5) hx hb dX12_knows_140 (by decide) ?_
                  refine lv_iload_n hx hb dX12_knows_141 rfl (lv_at hl 2 rfl) ?_
                  refine lv_imul hx hb dX12_knows_142 ?_
                  refine va_iald hx hb hK hP 22 0 (hW_w_9.a tM_22) rfl (in_I ((In_mull i_x46_1 (n := 5) (by decide) (by decide)) : In 5 1000 (5 * x7_1)) (by decide)) dX12_knows_143 ?_
                  refine lv_topi (fun v_10 ev_10 => ?_)
                  refine va_iast hx hb hK hP hD hS 26 0 (hW_w_9.a tM_26) rfl (in_I (R_ne_l (hW_w46.fin tM_0 rfl : In 0 40 (fI w46 0 45)) (In_lit (n := 40) (by decide) (by decide) : In 40 40 40) c_7 (by decide) : In 0 39 (fI w46 0 45)) (by decide)) dX12_knows_144 (fun H locs hP hD hS => fr_w (hW_w_9.uA tM_26 (In_any v_10)) hP hD (fun w_11 ew_11 hW_w_11 hP hD => ?_))
                  refine lv_aload_n hx hb dX12_knows_145 rfl (lv_at hl 1 rfl) ?_
                  refine gt_X12 hx hb hts hown hK hP 0 (hW_w_11.o tM_0) 48 (by decide) wd_1449 rfl (hW_w_11.fr tM_0 rfl) dX12_knows_146 ?_
                  refine lv_iload_n hx hb dX12_knows_149 rfl (lv_at hl 0 rfl) ?_
                  refine lv_aload_n hx hb dX12_knows_150 rfl (lv_at hl 1 rfl) ?_
                  refine gt_X12 hx hb hts hown hK hP 0 (hW_w_11.o tM_0) 41 (by decide) wd_1442 rfl (hW_w_11.fr tM_0 rfl) dX12_knows_151 ?_
                  refine lv_iconst (v := 5) hx hb dX12_knows_154 (by decide) ?_
                  refine lv_iload_n hx hb dX12_knows_155 rfl (lv_at hl 2 rfl) ?_
                  refine lv_imul hx hb dX12_knows_156 ?_
                  refine lv_iconst (v := 1) hx hb dX12_knows_157 (by decide) ?_
                  refine lv_iadd hx hb dX12_knows_158 ?_
                  refine va_iald hx hb hK hP 22 0 (hW_w_11.a tM_22) rfl (in_I ((In_add ((In_mull i_x46_1 (n := 5) (by decide) (by decide)) : In 5 1000 (5 * x7_1)) (In_lit (n := 1) (by decide) (by decide) : In 1 1 1) (by decide)) : In 6 1001 ((5 * x7_1) + 1)) (by decide)) dX12_knows_159 ?_
                  refine lv_topi (fun v_12 ev_12 => ?_)
                  refine va_iast hx hb hK hP hD hS 28 0 (hW_w_11.a tM_28) rfl (in_I (R_ne_l (hW_w46.fin tM_0 rfl : In 0 40 (fI w46 0 45)) (In_lit (n := 40) (by decide) (by decide) : In 40 40 40) c_7 (by decide) : In 0 39 (fI w46 0 45)) (by decide)) dX12_knows_160 (fun H locs hP hD hS => fr_w (hW_w_11.uA tM_28 (In_any v_12)) hP hD (fun w_13 ew_13 hW_w_13 hP hD => ?_))
                  refine lv_aload_n hx hb dX12_knows_161 rfl (lv_at hl 1 rfl) ?_
                  refine gt_X12 hx hb hts hown hK hP 0 (hW_w_13.o tM_0) 49 (by decide) wd_1450 rfl (hW_w_13.fr tM_0 rfl) dX12_knows_162 ?_
                  refine lv_iload_n hx hb dX12_knows_165 rfl (lv_at hl 0 rfl) ?_
                  refine lv_aload_n hx hb dX12_knows_166 rfl (lv_at hl 1 rfl) ?_
                  refine gt_X12 hx hb hts hown hK hP 0 (hW_w_13.o tM_0) 41 (by decide) wd_1442 rfl (hW_w_13.fr tM_0 rfl) dX12_knows_167 ?_
                  refine lv_iconst (v := 5) hx hb dX12_knows_170 (by decide) ?_
                  refine lv_iload_n hx hb dX12_knows_171 rfl (lv_at hl 2 rfl) ?_
                  refine lv_imul hx hb dX12_knows_172 ?_
                  refine lv_iconst (v := 1) hx hb dX12_knows_173 (by decide) ?_
                  refine lv_iadd hx hb dX12_knows_174 ?_
                  refine va_iald hx hb hK hP 22 0 (hW_w_13.a tM_22) rfl (in_I ((In_add ((In_mull i_x46_1 (n := 5) (by decide) (by decide)) : In 5 1000 (5 * x7_1)) (In_lit (n := 1) (by decide) (by decide) : In 1 1 1) (by decide)) : In 6 1001 ((5 * x7_1) + 1)) (by decide)) dX12_knows_175 ?_
                  refine tov (v := v_12) ((congrFun ((aF_cg (st_ne ew_13 (by decide))).trans ((aF_cg (st_ne ew_11 (by decide))).trans ((aF_cg (st_ne ew_9 (by decide))).trans (hM_w46.hA (by decide))))) _).trans ((congrFun ((aF_cg (st_ne ew_11 (by decide))).trans ((aF_cg (st_ne ew_9 (by decide))).trans (hM_w46.hA (by decide)))) _).symm.trans ev_12.symm)) ?_
                  refine va_iast hx hb hK hP hD hS 29 0 (hW_w_13.a tM_29) rfl (in_I (R_ne_l (hW_w46.fin tM_0 rfl : In 0 40 (fI w46 0 45)) (In_lit (n := 40) (by decide) (by decide) : In 40 40 40) c_7 (by decide) : In 0 39 (fI w46 0 45)) (by decide)) dX12_knows_176 (fun H locs hP hD hS => fr_w (hW_w_13.uA tM_29 (In_any v_12)) hP hD (fun w_14 ew_14 hW_w_14 hP hD => ?_))
                  refine lv_aload_n hx hb dX12_knows_177 rfl (lv_at hl 1 rfl) ?_
                  refine gt_X12 hx hb hts hown hK hP 0 (hW_w_14.o tM_0) 53 (by decide) wd_1454 rfl (hW_w_14.fr tM_0 rfl) dX12_knows_178 ?_
                  refine lv_iload_n hx hb dX12_knows_181 rfl (lv_at hl 0 rfl) ?_
                  refine lv_iconst (v := 0) hx hb dX12_knows_182 (by decide) ?_
                  refine va_iast hx hb hK hP hD hS 33 0 (hW_w_14.a tM_33) rfl (in_I (R_ne_l (hW_w46.fin tM_0 rfl : In 0 40 (fI w46 0 45)) (In_lit (n := 40) (by decide) (by decide) : In 40 40 40) c_7 (by decide) : In 0 39 (fI w46 0 45)) (by decide)) dX12_knows_183 (fun H locs hP hD hS => fr_w (hW_w_14.uA tM_33 (In_lit (n := 0) (by decide) (by decide) : In 0 4 0)) hP hD (fun w_15 ew_15 hW_w_15 hP hD => ?_))
                  refine lv_aload_n hx hb dX12_knows_184 rfl (lv_at hl 1 rfl) ?_
                  refine gt_X12 hx hb hts hown hK hP 0 (hW_w_15.o tM_0) 55 (by decide) wd_1456 rfl (hW_w_15.fr tM_0 rfl) dX12_knows_185 ?_
                  refine lv_iload_n hx hb dX12_knows_188 rfl (lv_at hl 0 rfl) ?_
                  refine lv_iconst (v := 0) hx hb dX12_knows_189 (by decide) ?_
                  refine va_iast hx hb hK hP hD hS 35 0 (hW_w_15.a tM_35) rfl (in_I (R_ne_l (hW_w46.fin tM_0 rfl : In 0 40 (fI w46 0 45)) (In_lit (n := 40) (by decide) (by decide) : In 40 40 40) c_7 (by decide) : In 0 39 (fI w46 0 45)) (by decide)) dX12_knows_190 (fun H locs hP hD hS => fr_w (hW_w_15.uA tM_35 (In_lit (n := 0) (by decide) (by decide) : In (-2147483648) 2147483647 0)) hP hD (fun w_16 ew_16 hW_w_16 hP hD => ?_))
                  refine lv_aload_n hx hb dX12_knows_191 rfl (lv_at hl 1 rfl) ?_
                  refine lv_iload_n hx hb dX12_knows_192 rfl (lv_at hl 0 rfl) ?_
                  refine lv_iload_n hx hb dX12_knows_193 rfl (lv_at hl 2 rfl) ?_
                  refine kW_v ⟨rfl, rfl⟩ hP hD hS hA (rW_V (As := [.int (fI w46 0 45), .int x7_1]) (rest := []) hx hb hml hown hts hK hE hP hD (k_X12_comes l D cI cJ cZ q w_16 hW_w_16 (fI w46 0 45) x7_1 (R_ne_l (hW_w46.fin tM_0 rfl : In 0 40 (fI w46 0 45)) (In_lit (n := 40) (by decide) (by decide) : In 40 40 40) c_7 (by decide) : In 0 39 (fI w46 0 45)) i_x46_1 (In_of ((fI_cg (st_ne ew_16 (by decide))).trans ((fI_cg (st_ne ew_15 (by decide))).trans ((fI_cg (st_ne ew_14 (by decide))).trans ((fI_cg (st_ne ew_13 (by decide))).trans ((fI_cg (st_ne ew_11 (by decide))).trans ((fI_nej (hW_w46.lt tM_0) ew_9 (by decide)).trans (hM_w46.2 0 37 (by decide) (by decide)))))))) (In_of (hM_w46.2 0 37 (by decide) (by decide)).symm g46_0_37)) (LM_cg ((aF_cg (st_ne ew_16 (by decide))).trans ((aF_cg (st_ne ew_15 (by decide))).trans ((aF_cg (st_ne ew_14 (by decide))).trans ((aF_cg (st_ne ew_13 (by decide))).trans ((aF_cg (st_ne ew_11 (by decide))).trans ((aF_cg (st_ne ew_9 (by decide))).trans (hM_w46.hA (by decide)))))))) ((aF_cg (st_ne ew_16 (by decide))).trans ((aF_cg (st_ne ew_15 (by decide))).trans ((aF_cg (st_ne ew_14 (by decide))).trans ((aF_cg (st_ne ew_13 (by decide))).trans ((aF_cg (st_ne ew_11 (by decide))).trans ((aF_cg (st_ne ew_9 (by decide))).trans (hM_w46.hA (by decide)))))))) hLM) (((congrFun ((aF_cg (st_ne ew_16 (by decide))).trans ((aF_cg (st_ne ew_15 (by decide))).trans ((aF_cg (st_ne ew_14 (by decide))).trans ((aF_cg (st_ne ew_13 (by decide))).trans ((aF_cg (st_ne ew_11 (by decide))).trans ((aF_cg (st_ne ew_9 (by decide))).trans (hM_w46.hA (by decide)))))))) _).trans hz_46)) _) ⟨⟨rfl, rfl⟩, rfl, rfl⟩ sv_X12_464 ⟨(Nat.le_trans (by decide) hR.1), (Nat.le_trans (by decide) hR.2)⟩ 0 12 (hW_w_16.o tM_0) rfl rfl rfl hl.1 rfl (Nat.le_of_ble_eq_true rfl) dX12_knows_194) (fun w_17 H locs hw_w_17 hP hD hS => ?_)
                  obtain ⟨hW_w_17, hs_w_17, h_19⟩ := hw_w_17
                  refine lv_iinc (v := (x7_1 + 1)) (lv' := [(1, .int (x7_1 + 1)), (2, .int (fI w46 0 45)), (0, .ref (q 0)), (3, .int x46_3)]) hx hb dX12_knows_197 hl (k := 2) rfl (rfl) (by decide) rfl (fun ls hl => ?_)
                  refine lv_goto (tgt := 7) hx hb dX12_knows_200 (by decide) ?_
                  exact ih7 (x7_1 + 1) w_17 _ _ ls (mu_inc hmu7 i_x46_1 (In_lit (n := 1) (by decide) (by decide) : In 1 1 1) (by decide)) hW_w_17 (((((((hM_w46.sf (hW_w46.lt tM_0) ew_9 (by decide)).sa ew_11 (by decide)).sa ew_13 (by decide)).sa ew_14 (by decide)).sa ew_15 (by decide)).sa ew_16 (by decide)).tr hs_w_17 (by decide)) (In_w ((In_add (y := 1) i_x46_1 (In_lit (n := 1) (by decide) (by decide) : In 1 1 1) (by decide)) : In 2 201 (x7_1 + 1)) (by decide) : In 1 201 (x7_1 + 1)) (fun hL => DY_st (R_ne_l (hW_w46.fin tM_0 rfl : In 0 40 (fI w46 0 45)) (In_lit (n := 40) (by decide) (by decide) : In 40 40 40) c_7 (by decide) : In 0 39 (fI w46 0 45)) (by have e := h_19; rw [show aF w_16 32 = aF w46 32 from ((aF_cg (st_ne ew_16 (by decide))).trans ((aF_cg (st_ne ew_15 (by decide))).trans ((aF_cg (st_ne ew_14 (by decide))).trans ((aF_cg (st_ne ew_13 (by decide))).trans ((aF_cg (st_ne ew_11 (by decide))).trans (aF_cg (st_ne ew_9 (by decide)))))))), show aF w_16 22 = aF w 22 from ((aF_cg (st_ne ew_16 (by decide))).trans ((aF_cg (st_ne ew_15 (by decide))).trans ((aF_cg (st_ne ew_14 (by decide))).trans ((aF_cg (st_ne ew_13 (by decide))).trans ((aF_cg (st_ne ew_11 (by decide))).trans ((aF_cg (st_ne ew_9 (by decide))).trans (hM_w46.hA (by decide))))))))] at e; exact e) (hL x7_1 i_x46_1 hle_46 hz_46) (Or.inr ⟨(by have e0_45 : (fI w_17 0 45).toInt = (((fI w46 0 45) + 1) : Int32).toInt := congrArg Int32.toInt ((hs_w_17.gI (by decide)).trans ((fI_cg (st_ne ew_16 (by decide))).trans ((fI_cg (st_ne ew_15 (by decide))).trans ((fI_cg (st_ne ew_14 (by decide))).trans ((fI_cg (st_ne ew_13 (by decide))).trans ((fI_cg (st_ne ew_11 (by decide))).trans (fI_eq (hW_w46.lt tM_0) ew_9 (hW_w46.ll tM_0 (Nat.le_of_ble_eq_true rfl))))))))); have i0_45 := ((In_add (R_ne_l (hW_w46.fin tM_0 rfl : In 0 40 (fI w46 0 45)) (In_lit (n := 40) (by decide) (by decide) : In 40 40 40) c_7 (by decide) : In 0 39 (fI w46 0 45)) (In_lit (n := 1) (by decide) (by decide) : In 1 1 1) (by decide)) : In 1 40 ((fI w46 0 45) + 1)); unfold In at i0_45; have t19 := t_add (R_ne_l (hW_w46.fin tM_0 rfl : In 0 40 (fI w46 0 45)) (In_lit (n := 40) (by decide) (by decide) : In 40 40 40) c_7 (by decide) : In 0 39 (fI w46 0 45)) (In_lit (n := 1) (by decide) (by decide) : In 1 1 1) (by decide); have z1 : (1 : Int32).toInt = 1 := (by decide); omega), (by rfl)⟩) (hdy_46 hL)) hP hD hS (lv_sub hl [2, 0] rfl)
              · refine lv_goto (tgt := 197) hx hb dX12_knows_108 (by decide) ?_
                refine lv_iinc (v := (x7_1 + 1)) (lv' := [(1, .int (x7_1 + 1)), (0, .ref (q 0)), (2, .int x46_2), (3, .int x46_3)]) hx hb dX12_knows_197 hl (k := 1) rfl (rfl) (by decide) rfl (fun ls hl => ?_)
                refine lv_goto (tgt := 7) hx hb dX12_knows_200 (by decide) ?_
                exact ih7 (x7_1 + 1) w46 _ _ ls (mu_inc hmu7 i_x46_1 (In_lit (n := 1) (by decide) (by decide) : In 1 1 1) (by decide)) hW_w46 hM_w46 (In_w ((In_add (y := 1) i_x46_1 (In_lit (n := 1) (by decide) (by decide) : In 1 1 1) (by decide)) : In 2 201 (x7_1 + 1)) (by decide) : In 1 201 (x7_1 + 1)) hdy_46 hP hD hS (lv_sub hl [1, 0] rfl)
          · refine lv_aload_n hx hb dX12_knows_54 rfl (lv_at hl 0 rfl) ?_
            refine gt_X12 hx hb hts hown hK hP 0 (hW_w46.o tM_0) 41 (by decide) wd_1442 rfl (hW_w46.fr tM_0 rfl) dX12_knows_55 ?_
            refine lv_iconst (v := 5) hx hb dX12_knows_58 (by decide) ?_
            refine lv_iload_n hx hb dX12_knows_59 rfl (lv_at hl 1 rfl) ?_
            refine lv_imul hx hb dX12_knows_60 ?_
            refine va_iald hx hb hK hP 22 0 (hW_w46.a tM_22) rfl (in_I ((In_mull i_x46_1 (n := 5) (by decide) (by decide)) : In 5 1000 (5 * x7_1)) (by decide)) dX12_knows_61 ?_
            refine lv_topi (fun v_20 ev_20 => ?_)
            refine lv_if_eq (tgt := 86) hx hb dX12_knows_62 (by decide) (fun c_21 => ?_) (fun c_21 => ?_)
            · refine lv_iload_n hx hb dX12_knows_86 rfl (lv_at hl 2 rfl) ?_
              refine lv_istore_n (lv' := [(2, .int x46_2), (0, .ref (q 0)), (1, .int x7_1), (3, .int x46_3)]) hx hb dX12_knows_87 rfl hl (by decide) rfl (fun ls hl => ?_)
              refine lv_iinc (v := (x46_3 + 1)) (lv' := [(3, .int (x46_3 + 1)), (2, .int x46_2), (0, .ref (q 0)), (1, .int x7_1)]) hx hb dX12_knows_88 hl (k := 3) rfl (rfl) (by decide) rfl (fun ls hl => ?_)
              refine lv_goto (tgt := 46) hx hb dX12_knows_91 (by decide) ?_
              exact ih46 x46_2 (x46_3 + 1) w46 _ _ ls (mu_inc hmu46 (R_nle_r (hW_w46.fin tM_0 rfl : In 0 40 (fI w46 0 45)) i_x46_3 c_1 (by decide) : In 0 39 x46_3) (In_lit (n := 1) (by decide) (by decide) : In 1 1 1) (by decide)) hW_w46 hM_w46 i_x46_1 i_x46_2 (In_w ((In_add (y := 1) (R_nle_r (hW_w46.fin tM_0 rfl : In 0 40 (fI w46 0 45)) i_x46_3 c_1 (by decide) : In 0 39 x46_3) (In_lit (n := 1) (by decide) (by decide) : In 1 1 1) (by decide)) : In 1 40 (x46_3 + 1)) (by decide) : In 0 40 (x46_3 + 1)) (In_of (hM_w46.2 0 37 (by decide) (by decide)) (In_of (hM_w46.2 0 37 (by decide) (by decide)).symm g46_0_37)) hz_46 hle_46 hdy_46 hP hD hS (lv_sub hl [2, 3, 1, 0] rfl)
            · refine lv_aload_n hx hb dX12_knows_65 rfl (lv_at hl 0 rfl) ?_
              refine gt_X12 hx hb hts hown hK hP 0 (hW_w46.o tM_0) 46 (by decide) wd_1447 rfl (hW_w46.fr tM_0 rfl) dX12_knows_66 ?_
              refine lv_iload_n hx hb dX12_knows_69 rfl (lv_at hl 3 rfl) ?_
              refine va_iald hx hb hK hP 26 0 (hW_w46.a tM_26) rfl (in_I (R_nle_r (hW_w46.fin tM_0 rfl : In 0 40 (fI w46 0 45)) i_x46_3 c_1 (by decide) : In 0 39 x46_3) (by decide)) dX12_knows_70 ?_
              refine lv_topi (fun v_22 ev_22 => ?_)
              refine lv_aload_n hx hb dX12_knows_71 rfl (lv_at hl 0 rfl) ?_
              refine gt_X12 hx hb hts hown hK hP 0 (hW_w46.o tM_0) 41 (by decide) wd_1442 rfl (hW_w46.fr tM_0 rfl) dX12_knows_72 ?_
              refine lv_iconst (v := 5) hx hb dX12_knows_75 (by decide) ?_
              refine lv_iload_n hx hb dX12_knows_76 rfl (lv_at hl 1 rfl) ?_
              refine lv_imul hx hb dX12_knows_77 ?_
              refine va_iald hx hb hK hP 22 0 (hW_w46.a tM_22) rfl (in_I ((In_mull i_x46_1 (n := 5) (by decide) (by decide)) : In 5 1000 (5 * x7_1)) (by decide)) dX12_knows_78 ?_
              refine tov (v := v_20) ((congrFun (hM_w46.hA (by decide)) _).trans ((congrFun (hM_w46.hA (by decide)) _).symm.trans ev_20.symm)) ?_
              refine lv_icmp_ne (tgt := 86) hx hb dX12_knows_79 (by decide) (fun c_23 => ?_) (fun c_23 => ?_)
              · refine lv_iload_n hx hb dX12_knows_86 rfl (lv_at hl 2 rfl) ?_
                refine lv_istore_n (lv' := [(2, .int x46_2), (0, .ref (q 0)), (1, .int x7_1), (3, .int x46_3)]) hx hb dX12_knows_87 rfl hl (by decide) rfl (fun ls hl => ?_)
                refine lv_iinc (v := (x46_3 + 1)) (lv' := [(3, .int (x46_3 + 1)), (2, .int x46_2), (0, .ref (q 0)), (1, .int x7_1)]) hx hb dX12_knows_88 hl (k := 3) rfl (rfl) (by decide) rfl (fun ls hl => ?_)
                refine lv_goto (tgt := 46) hx hb dX12_knows_91 (by decide) ?_
                exact ih46 x46_2 (x46_3 + 1) w46 _ _ ls (mu_inc hmu46 (R_nle_r (hW_w46.fin tM_0 rfl : In 0 40 (fI w46 0 45)) i_x46_3 c_1 (by decide) : In 0 39 x46_3) (In_lit (n := 1) (by decide) (by decide) : In 1 1 1) (by decide)) hW_w46 hM_w46 i_x46_1 i_x46_2 (In_w ((In_add (y := 1) (R_nle_r (hW_w46.fin tM_0 rfl : In 0 40 (fI w46 0 45)) i_x46_3 c_1 (by decide) : In 0 39 x46_3) (In_lit (n := 1) (by decide) (by decide) : In 1 1 1) (by decide)) : In 1 40 (x46_3 + 1)) (by decide) : In 0 40 (x46_3 + 1)) (In_of (hM_w46.2 0 37 (by decide) (by decide)) (In_of (hM_w46.2 0 37 (by decide) (by decide)).symm g46_0_37)) hz_46 hle_46 hdy_46 hP hD hS (lv_sub hl [2, 3, 1, 0] rfl)
              · refine lv_iload_n hx hb dX12_knows_82 rfl (lv_at hl 3 rfl) ?_
                refine lv_goto (tgt := 87) hx hb dX12_knows_83 (by decide) ?_
                refine lv_istore_n (lv' := [(2, .int x46_3), (0, .ref (q 0)), (1, .int x7_1), (3, .int x46_3)]) hx hb dX12_knows_87 rfl hl (by decide) rfl (fun ls hl => ?_)
                refine lv_iinc (v := (x46_3 + 1)) (lv' := [(3, .int (x46_3 + 1)), (2, .int x46_3), (0, .ref (q 0)), (1, .int x7_1)]) hx hb dX12_knows_88 hl (k := 3) rfl (rfl) (by decide) rfl (fun ls hl => ?_)
                refine lv_goto (tgt := 46) hx hb dX12_knows_91 (by decide) ?_
                exact ih46 x46_3 (x46_3 + 1) w46 _ _ ls (mu_inc hmu46 (R_nle_r (hW_w46.fin tM_0 rfl : In 0 40 (fI w46 0 45)) i_x46_3 c_1 (by decide) : In 0 39 x46_3) (In_lit (n := 1) (by decide) (by decide) : In 1 1 1) (by decide)) hW_w46 hM_w46 i_x46_1 (In_w (R_nle_r (hW_w46.fin tM_0 rfl : In 0 40 (fI w46 0 45)) i_x46_3 c_1 (by decide) : In 0 39 x46_3) (by decide) : In (-1) 39 x46_3) (In_w ((In_add (y := 1) (R_nle_r (hW_w46.fin tM_0 rfl : In 0 40 (fI w46 0 45)) i_x46_3 c_1 (by decide) : In 0 39 x46_3) (In_lit (n := 1) (by decide) (by decide) : In 1 1 1) (by decide)) : In 1 40 (x46_3 + 1)) (by decide) : In 0 40 (x46_3 + 1)) (In_of (hM_w46.2 0 37 (by decide) (by decide)) (In_of (hM_w46.2 0 37 (by decide) (by decide)).symm g46_0_37)) hz_46 hle_46 hdy_46 hP hD hS (lv_sub hl [2, 3, 1, 0] rfl)
      refine lv_iload_n hx hb dX12_knows_7 rfl (lv_at hl 1 rfl) ?_
      refine lv_aload_n hx hb dX12_knows_8 rfl (lv_at hl 0 rfl) ?_
      refine gt_X12 hx hb hts hown hK hP 0 (hW_w7.o tM_0) 37 (by decide) wd_1438 rfl (hW_w7.fi tM_0 rfl) dX12_knows_9 ?_
      refine tov (v := (fI w 0 37)) (hM_w7.2 0 37 (by decide) (by decide)) ?_
      refine lv_icmp_gt (tgt := 203) hx hb dX12_knows_12 (by decide) (fun c_24 => ?_) (fun c_24 => ?_)
      · have lb_c_24 : ((fI w 0 37) : Int32).toInt < (x7_1 : Int32).toInt := q_lt.mp c_24
        exact hret _ _ _ _ _ hP hD hS dX12_knows_203 ⟨hW_w7, hM_w7, hdy_7⟩
      · have lb_c_24 : ¬ ((fI w 0 37) : Int32).toInt < (x7_1 : Int32).toInt := fun h => c_24 (q_lt.mpr h)
        refine lv_aload_n hx hb dX12_knows_15 rfl (lv_at hl 0 rfl) ?_
        refine gt_X12 hx hb hts hown hK hP 0 (hW_w7.o tM_0) 56 (by decide) wd_1457 rfl (hW_w7.fr tM_0 rfl) dX12_knows_16 ?_
        refine lv_iload_n hx hb dX12_knows_19 rfl (lv_at hl 1 rfl) ?_
        refine lv_iconst (v := (-1)) hx hb dX12_knows_20 (by decide) ?_
        refine va_iast hx hb hK hP hD hS 36 0 (hW_w7.a tM_36) rfl (in_I (R_nlt_r (hW_w.fin tM_0 rfl : In 0 200 (fI w 0 37)) i_x7_1 c_24 (by decide) : In 1 200 x7_1) (by decide)) dX12_knows_21 (fun H locs hP hD hS => fr_w (hW_w7.uA tM_36 (In_lit (n := (-1)) (by decide) (by decide) : In (-1) 39 (-1))) hP hD (fun w_25 ew_25 hW_w_25 hP hD => ?_))
        refine lv_aload_n hx hb dX12_knows_22 rfl (lv_at hl 0 rfl) ?_
        refine gt_X12 hx hb hts hown hK hP 0 (hW_w_25.o tM_0) 40 (by decide) wd_1441 rfl (hW_w_25.fr tM_0 rfl) dX12_knows_23 ?_
        refine lv_iload_n hx hb dX12_knows_26 rfl (lv_at hl 1 rfl) ?_
        refine va_iald hx hb hK hP 21 0 (hW_w_25.a tM_21) rfl (in_I (R_nlt_r (hW_w.fin tM_0 rfl : In 0 200 (fI w 0 37)) i_x7_1 c_24 (by decide) : In 1 200 x7_1) (by decide)) dX12_knows_27 ?_
        refine lv_topi (fun v_26 ev_26 => ?_)
        refine lv_if_ne (tgt := 197) hx hb dX12_knows_28 (by decide) (fun c_27 => ?_) (fun c_27 => ?_)
        · refine lv_iinc (v := (x7_1 + 1)) (lv' := [(1, .int (x7_1 + 1)), (0, .ref (q 0))]) hx hb dX12_knows_197 hl (k := 1) rfl (rfl) (by decide) rfl (fun ls hl => ?_)
          refine lv_goto (tgt := 7) hx hb dX12_knows_200 (by decide) ?_
          exact ih7 (x7_1 + 1) w_25 _ _ ls (mu_inc hmu7 (R_nlt_r (hW_w.fin tM_0 rfl : In 0 200 (fI w 0 37)) i_x7_1 c_24 (by decide) : In 1 200 x7_1) (In_lit (n := 1) (by decide) (by decide) : In 1 1 1) (by decide)) hW_w_25 (hM_w7.sa ew_25 (by decide)) (In_w ((In_add (y := 1) (R_nlt_r (hW_w.fin tM_0 rfl : In 0 200 (fI w 0 37)) i_x7_1 c_24 (by decide) : In 1 200 x7_1) (In_lit (n := 1) (by decide) (by decide) : In 1 1 1) (by decide)) : In 2 201 (x7_1 + 1)) (by decide) : In 1 201 (x7_1 + 1)) (fun hL => DY_cg (aF_cg (st_ne ew_25 (by decide))) (fI_cg (st_ne ew_25 (by decide))) (hdy_7 hL)) hP hD hS (lv_sub hl [1, 0] rfl)
        · refine lv_aload_n hx hb dX12_knows_31 rfl (lv_at hl 0 rfl) ?_
          refine lv_iload_n hx hb dX12_knows_32 rfl (lv_at hl 1 rfl) ?_
          refine kW_i ⟨rfl, rfl⟩ hP hD hS hA (rW_V (As := [.int x7_1]) (rest := []) hx hb hml hown hts hK hE hP hD (k_X12_isSo l D cI cJ cZ q w_25 hW_w_25 x7_1 (R_nlt_r (hW_w.fin tM_0 rfl : In 0 200 (fI w 0 37)) i_x7_1 c_24 (by decide) : In 1 200 x7_1) _) ⟨⟨rfl, rfl⟩, rfl, rfl⟩ sv_X12_461 ⟨(Nat.le_trans (by decide) hR.1), (Nat.le_trans (by decide) hR.2)⟩ 0 12 (hW_w_25.o tM_0) rfl rfl rfl hl.1 rfl (Nat.le_of_ble_eq_true rfl) dX12_knows_33) (fun r_29 w_28 H locs hw_w_28 hP hD hS => ?_)
          obtain ⟨hW_w_28, hs_w_28, i_r_29⟩ := hw_w_28
          refine lv_if_ne (tgt := 42) hx hb dX12_knows_36 (by decide) (fun c_30 => ?_) (fun c_30 => ?_)
          · refine lv_iconst (v := (-1)) hx hb dX12_knows_42 (by decide) ?_
            refine lv_istore_n (lv' := [(2, .int (-1)), (0, .ref (q 0)), (1, .int x7_1)]) hx hb dX12_knows_43 rfl hl (by decide) rfl (fun ls hl => ?_)
            refine lv_iconst (v := 0) hx hb dX12_knows_44 (by decide) ?_
            refine lv_istore_n (lv' := [(3, .int 0), (2, .int (-1)), (0, .ref (q 0)), (1, .int x7_1)]) hx hb dX12_knows_45 rfl hl (by decide) rfl (fun ls hl => ?_)
            exact J46 _ (-1) 0 w_28 _ _ ls (Nat.lt_succ_self _) hW_w_28 ((hM_w7.sa ew_25 (by decide)).tr hs_w_28 (by decide)) (R_nlt_r (hW_w.fin tM_0 rfl : In 0 200 (fI w 0 37)) i_x7_1 c_24 (by decide) : In 1 200 x7_1) (In_lit (n := (-1)) (by decide) (by decide) : In (-1) 39 (-1)) (In_lit (n := 0) (by decide) (by decide) : In 0 40 0) (In_of ((hs_w_28.gI (by decide)).trans ((fI_cg (st_ne ew_25 (by decide))).trans (hM_w7.2 0 37 (by decide) (by decide)))) (R_nlt_l (hW_w.fin tM_0 rfl : In 0 200 (fI w 0 37)) i_x7_1 c_24 (by decide) : In 1 200 (fI w 0 37))) (((congrFun ((aF_cg (st_ne ew_25 (by decide))).trans (hM_w7.hA (by decide))) _).symm.trans ev_26.symm).trans c_27) (by have q := lb_c_24; omega) (fun hL => DY_cg ((hs_w_28.hA (by decide)).trans (aF_cg (st_ne ew_25 (by decide)))) ((hs_w_28.gI (by decide)).trans (fI_cg (st_ne ew_25 (by decide)))) (hdy_7 hL)) hP hD hS (lv_sub hl [2, 3, 1, 0] rfl)
          · refine lv_goto (tgt := 197) hx hb dX12_knows_39 (by decide) ?_
            refine lv_iinc (v := (x7_1 + 1)) (lv' := [(1, .int (x7_1 + 1)), (0, .ref (q 0))]) hx hb dX12_knows_197 hl (k := 1) rfl (rfl) (by decide) rfl (fun ls hl => ?_)
            refine lv_goto (tgt := 7) hx hb dX12_knows_200 (by decide) ?_
            exact ih7 (x7_1 + 1) w_28 _ _ ls (mu_inc hmu7 (R_nlt_r (hW_w.fin tM_0 rfl : In 0 200 (fI w 0 37)) i_x7_1 c_24 (by decide) : In 1 200 x7_1) (In_lit (n := 1) (by decide) (by decide) : In 1 1 1) (by decide)) hW_w_28 ((hM_w7.sa ew_25 (by decide)).tr hs_w_28 (by decide)) (In_w ((In_add (y := 1) (R_nlt_r (hW_w.fin tM_0 rfl : In 0 200 (fI w 0 37)) i_x7_1 c_24 (by decide) : In 1 200 x7_1) (In_lit (n := 1) (by decide) (by decide) : In 1 1 1) (by decide)) : In 2 201 (x7_1 + 1)) (by decide) : In 1 201 (x7_1 + 1)) (fun hL => DY_cg ((hs_w_28.hA (by decide)).trans (aF_cg (st_ne ew_25 (by decide)))) ((hs_w_28.gI (by decide)).trans (fI_cg (st_ne ew_25 (by decide)))) (hdy_7 hL)) hP hD hS (lv_sub hl [1, 0] rfl)
  refine lv_aload_n hx hb dX12_knows_0 rfl (lv_at hl 0 rfl) ?_
  refine lv_iconst (v := 0) hx hb dX12_knows_1 (by decide) ?_
  refine pt_X12 hx hb hts hown hK hP hD hS 0 (hW_w.o tM_0) 45 (by decide) wd_1446 rfl rfl (ty := .int) (v := .int 0) (by decide +kernel) rfl rfl (hW_w.ll tM_0 (Nat.le_of_ble_eq_true rfl)) dX12_knows_2 (fun H locs hP hD hS => fr_w (hW_w.sI tM_0 rfl (In_lit (n := 0) (by decide) (by decide) : In 0 40 0)) hP hD (fun w_31 ew_31 hW_w_31 hP hD => ?_))
  refine lv_iconst (v := 1) hx hb dX12_knows_5 (by decide) ?_
  refine lv_istore_n (lv' := [(1, .int 1), (0, .ref (q 0))]) hx hb dX12_knows_6 rfl hl (by decide) rfl (fun ls hl => ?_)
  exact J7 _ 1 w_31 _ _ ls (Nat.lt_succ_self _) hW_w_31 (Sm.rf.sf (hW_w.lt tM_0) ew_31 (by decide)) (In_lit (n := 1) (by decide) (by decide) : In 1 201 1) (fun _ => DY_0 (fI_eq (hW_w.lt tM_0) ew_31 (hW_w.ll tM_0 (Nat.le_of_ble_eq_true rfl)))) hP hD hS (lv_sub hl [1, 0] rfl)
set_option maxRecDepth 100000 in
set_option maxHeartbeats 8000000 in
theorem k_X12_doubt (l : Launch) (D : va_G) (cI cJ cZ : ClassId) (q : Nat → Nat) (w : va_W) (hW_w : HT q (TM q cI cJ cZ) w) (hLM : LM w) : Con_i l yX12_doubt cX12_doubt 4 (some .int) ({ frames := 3, cells := 0, slots := 0, locals := 73 }) D cI cJ cZ eW [.ref (q 0)] w (fun (r : Int32) (w1 : va_W) => HT q (TM q cI cJ cZ) w1 ∧ Sm [0, 26, 27, 28, 29, 30, 31, 32, 33, 34, 35, 36] [(0, 45)] w w1) := by
  refine eQ_i rfl (by decide) (Nat.le_of_ble_eq_true rfl) ⟨rfl, rfl⟩ ?_
  intro p e R s m args below meth c A Q hx hb hml hown hts hK hE hA hR hret hP hD hS ls hl
  have hown : s.vm.findClass RX12 = some m.cls := hown
  have hl : lv_has ls 4 [(0, .ref (q 0))] := hl
  have J8 : ∀ (N : Nat) (x8_1 : Int32) (x8_2 : Int32) (w8 : va_W) (H : Heap) (locs : List Loc) (ls : Array Slot), (40 - x8_2.toInt).toNat < N → HT q (TM q cI cJ cZ) w8 → Sm [0, 26, 27, 28, 29, 30, 31, 32, 33, 34, 35, 36] [(0, 45)] w w8 → (In 0 40 x8_2) → va_P D vwCl w8 H → va_D A w8 → va_S A s.heap H locs → lv_has ls 4 [(0, .ref (q 0)), (1, .int x8_1), (2, .int x8_2)] → W p l e R s m args below meth c H locs 0 0 Q (F0 m 8 ls []) := by
    intro N
    induction N with
    | zero => intro x8_1 x8_2 w8 H locs ls hmu; exact absurd hmu (Nat.not_lt_zero _)
    | succ N ih8 =>
      intro x8_1 x8_2 w8 H locs ls hmu8 hW_w8 hM_w8 i_x8_2 hP hD hS hl
      have J18 : ∀ (N : Nat) (x18_1 : Int32) (x18_3 : Int32) (w18 : va_W) (H : Heap) (locs : List Loc) (ls : Array Slot), (39 - x18_3.toInt).toNat < N → HT q (TM q cI cJ cZ) w18 → Sm [0, 26, 27, 28, 29, 30, 31, 32, 33, 34, 35, 36] [(0, 45)] w w18 → (In 0 39 x8_2) → (In 0 39 x18_3) → (fI w18 0 45 = (fI w8 0 45)) → (In 1 40 (fI w8 0 45)) → va_P D vwCl w18 H → va_D A w18 → va_S A s.heap H locs → lv_has ls 4 [(0, .ref (q 0)), (1, .int x18_1), (2, .int x8_2), (3, .int x18_3)] → W p l e R s m args below meth c H locs 0 0 Q (F0 m 18 ls []) := by
        intro N
        induction N with
        | zero => intro x18_1 x18_3 w18 H locs ls hmu; exact absurd hmu (Nat.not_lt_zero _)
        | succ N ih18 =>
          intro x18_1 x18_3 w18 H locs ls hmu18 hW_w18 hM_w18 i_x18_2 i_x18_3 g18_0_45e g18_0_45 hP hD hS hl
          have J101 : ∀ (y101_0 : Int32) (w101 : va_W) (H : Heap) (locs : List Loc) (ls : Array Slot), HT q (TM q cI cJ cZ) w101 → Sm [0, 26, 27, 28, 29, 30, 31, 32, 33, 34, 35, 36] [(0, 45)] w w101 → (In 1 39 x8_2) → (In 0 38 x18_3) → (In 0 1 y101_0) → (fI w101 0 45 = (fI w8 0 45)) → (In 1 40 (fI w8 0 45)) → va_P D vwCl w101 H → va_D A w101 → va_S A s.heap H locs → lv_has ls 4 [(0, .ref (q 0)), (1, .int x18_1), (2, .int x8_2), (3, .int x18_3)] → W p l e R s m args below meth c H locs 0 0 Q (F0 m 101 ls [.int y101_0, .int x18_1]) := by
            intro y101_0 w101 H locs ls hW_w101 hM_w101 i_x101_2 i_x101_3 i_y101_0 g101_0_45e g101_0_45 hP hD hS hl
            refine lv_iadd hx hb dX12_doubt_101 ?_
            refine lv_topi (fun v_1 ev_1 => ?_)
            refine lv_istore_n (lv' := [(1, .int v_1), (0, .ref (q 0)), (2, .int x8_2), (3, .int x18_3)]) hx hb dX12_doubt_102 rfl hl (by decide) rfl (fun ls hl => ?_)
            refine lv_iinc (v := (x18_3 + 1)) (lv' := [(3, .int (x18_3 + 1)), (1, .int v_1), (0, .ref (q 0)), (2, .int x8_2)]) hx hb dX12_doubt_103 hl (k := 3) rfl (rfl) (by decide) rfl (fun ls hl => ?_)
            refine lv_goto (tgt := 18) hx hb dX12_doubt_106 (by decide) ?_
            exact ih18 v_1 (x18_3 + 1) w101 _ _ ls (mu_inc hmu18 i_x101_3 (In_lit (n := 1) (by decide) (by decide) : In 1 1 1) (by decide)) hW_w101 hM_w101 (In_w i_x101_2 (by decide) : In 0 39 x8_2) (In_w ((In_add (y := 1) i_x101_3 (In_lit (n := 1) (by decide) (by decide) : In 1 1 1) (by decide)) : In 1 39 (x18_3 + 1)) (by decide) : In 0 39 (x18_3 + 1)) g101_0_45e g18_0_45 hP hD hS (lv_sub hl [2, 1, 3, 0] rfl)
          have J100 : ∀ (w100 : va_W) (H : Heap) (locs : List Loc) (ls : Array Slot), HT q (TM q cI cJ cZ) w100 → Sm [0, 26, 27, 28, 29, 30, 31, 32, 33, 34, 35, 36] [(0, 45)] w w100 → (In 1 39 x8_2) → (In 0 38 x18_3) → (fI w100 0 45 = (fI w8 0 45)) → (In 1 40 (fI w8 0 45)) → va_P D vwCl w100 H → va_D A w100 → va_S A s.heap H locs → lv_has ls 4 [(0, .ref (q 0)), (1, .int x18_1), (2, .int x8_2), (3, .int x18_3)] → W p l e R s m args below meth c H locs 0 0 Q (F0 m 100 ls [.int x18_1]) := by
            intro w100 H locs ls hW_w100 hM_w100 i_x100_2 i_x100_3 g100_0_45e g100_0_45 hP hD hS hl
            refine lv_iconst (v := 0) hx hb dX12_doubt_100 (by decide) ?_
            exact J101 0 w100 _ _ ls hW_w100 hM_w100 i_x100_2 i_x100_3 (In_lit (n := 0) (by decide) (by decide) : In 0 1 0) g100_0_45e g18_0_45 hP hD hS (lv_sub hl [0, 1, 2, 3] rfl)
          have J42 : ∀ (w42 : va_W) (H : Heap) (locs : List Loc) (ls : Array Slot), HT q (TM q cI cJ cZ) w42 → Sm [0, 26, 27, 28, 29, 30, 31, 32, 33, 34, 35, 36] [(0, 45)] w w42 → (In 1 39 x8_2) → (In 0 38 x18_3) → (fI w42 0 45 = (fI w8 0 45)) → (In 1 40 (fI w8 0 45)) → va_P D vwCl w42 H → va_D A w42 → va_S A s.heap H locs → lv_has ls 4 [(0, .ref (q 0)), (1, .int x18_1), (2, .int x8_2), (3, .int x18_3)] → W p l e R s m args below meth c H locs 0 0 Q (F0 m 42 ls [.int x18_1]) := by
            intro w42 H locs ls hW_w42 hM_w42 i_x42_2 i_x42_3 g42_0_45e g42_0_45 hP hD hS hl
            refine lv_aload_n hx hb dX12_doubt_42 rfl (lv_at hl 0 rfl) ?_
            refine gt_X12 hx hb hts hown hK hP 0 (hW_w42.o tM_0) 51 (by decide) wd_1452 rfl (hW_w42.fr tM_0 rfl) dX12_doubt_43 ?_
            refine lv_iload_n hx hb dX12_doubt_46 rfl (lv_at hl 2 rfl) ?_
            refine va_iald hx hb hK hP 31 0 (hW_w42.a tM_31) rfl (in_I i_x42_2 (by decide)) dX12_doubt_47 ?_
            refine lv_topi (fun v_2 ev_2 => ?_)
            refine lv_if_eq (tgt := 100) hx hb dX12_doubt_48 (by decide) (fun c_3 => ?_) (fun c_3 => ?_)
            · exact J100 w42 _ _ ls hW_w42 hM_w42 i_x42_2 i_x42_3 g42_0_45e g18_0_45 hP hD hS (lv_sub hl [0, 1, 2, 3] rfl)
            · refine lv_aload_n hx hb dX12_doubt_51 rfl (lv_at hl 0 rfl) ?_
              refine gt_X12 hx hb hts hown hK hP 0 (hW_w42.o tM_0) 51 (by decide) wd_1452 rfl (hW_w42.fr tM_0 rfl) dX12_doubt_52 ?_
              refine lv_iload_n hx hb dX12_doubt_55 rfl (lv_at hl 2 rfl) ?_
              refine va_iald hx hb hK hP 31 0 (hW_w42.a tM_31) rfl (in_I i_x42_2 (by decide)) dX12_doubt_56 ?_
              refine tov (v := v_2) ev_2.symm ?_
              refine lv_aload_n hx hb dX12_doubt_57 rfl (lv_at hl 0 rfl) ?_
              refine gt_X12 hx hb hts hown hK hP 0 (hW_w42.o tM_0) 51 (by decide) wd_1452 rfl (hW_w42.fr tM_0 rfl) dX12_doubt_58 ?_
              refine lv_iload_n hx hb dX12_doubt_61 rfl (lv_at hl 3 rfl) ?_
              refine va_iald hx hb hK hP 31 0 (hW_w42.a tM_31) rfl (in_I i_x42_3 (by decide)) dX12_doubt_62 ?_
              refine lv_topi (fun v_4 ev_4 => ?_)
              refine lv_icmp_ne (tgt := 100) hx hb dX12_doubt_63 (by decide) (fun c_5 => ?_) (fun c_5 => ?_)
              · exact J100 w42 _ _ ls hW_w42 hM_w42 i_x42_2 i_x42_3 g42_0_45e g18_0_45 hP hD hS (lv_sub hl [0, 1, 2, 3] rfl)
              · refine lv_aload_n hx hb dX12_doubt_66 rfl (lv_at hl 0 rfl) ?_
                refine gt_X12 hx hb hts hown hK hP 0 (hW_w42.o tM_0) 50 (by decide) wd_1451 rfl (hW_w42.fr tM_0 rfl) dX12_doubt_67 ?_
                refine lv_iload_n hx hb dX12_doubt_70 rfl (lv_at hl 2 rfl) ?_
                refine va_iald hx hb hK hP 30 0 (hW_w42.a tM_30) rfl (in_I i_x42_2 (by decide)) dX12_doubt_71 ?_
                refine lv_topi (fun v_6 ev_6 => ?_)
                refine lv_aload_n hx hb dX12_doubt_72 rfl (lv_at hl 0 rfl) ?_
                refine gt_X12 hx hb hts hown hK hP 0 (hW_w42.o tM_0) 50 (by decide) wd_1451 rfl (hW_w42.fr tM_0 rfl) dX12_doubt_73 ?_
                refine lv_iload_n hx hb dX12_doubt_76 rfl (lv_at hl 3 rfl) ?_
                refine va_iald hx hb hK hP 30 0 (hW_w42.a tM_30) rfl (in_I i_x42_3 (by decide)) dX12_doubt_77 ?_
                refine lv_topi (fun v_7 ev_7 => ?_)
                refine lv_icmp_ne (tgt := 100) hx hb dX12_doubt_78 (by decide) (fun c_8 => ?_) (fun c_8 => ?_)
                · exact J100 w42 _ _ ls hW_w42 hM_w42 i_x42_2 i_x42_3 g42_0_45e g18_0_45 hP hD hS (lv_sub hl [0, 1, 2, 3] rfl)
                · refine lv_aload_n hx hb dX12_doubt_81 rfl (lv_at hl 0 rfl) ?_
                  refine gt_X12 hx hb hts hown hK hP 0 (hW_w42.o tM_0) 47 (by decide) wd_1448 rfl (hW_w42.fr tM_0 rfl) dX12_doubt_82 ?_
                  refine lv_iload_n hx hb dX12_doubt_85 rfl (lv_at hl 2 rfl) ?_
                  refine va_iald hx hb hK hP 27 0 (hW_w42.a tM_27) rfl (in_I i_x42_2 (by decide)) dX12_doubt_86 ?_
                  refine lv_topi (fun v_9 ev_9 => ?_)
                  refine lv_aload_n hx hb dX12_doubt_87 rfl (lv_at hl 0 rfl) ?_
                  refine gt_X12 hx hb hts hown hK hP 0 (hW_w42.o tM_0) 47 (by decide) wd_1448 rfl (hW_w42.fr tM_0 rfl) dX12_doubt_88 ?_
                  refine lv_iload_n hx hb dX12_doubt_91 rfl (lv_at hl 3 rfl) ?_
                  refine va_iald hx hb hK hP 27 0 (hW_w42.a tM_27) rfl (in_I i_x42_3 (by decide)) dX12_doubt_92 ?_
                  refine lv_topi (fun v_10 ev_10 => ?_)
                  refine lv_icmp_ne (tgt := 100) hx hb dX12_doubt_93 (by decide) (fun c_11 => ?_) (fun c_11 => ?_)
                  · exact J100 w42 _ _ ls hW_w42 hM_w42 i_x42_2 i_x42_3 g42_0_45e g18_0_45 hP hD hS (lv_sub hl [0, 1, 2, 3] rfl)
                  · refine lv_iconst (v := 1) hx hb dX12_doubt_96 (by decide) ?_
                    refine lv_goto (tgt := 101) hx hb dX12_doubt_97 (by decide) ?_
                    exact J101 1 w42 _ _ ls hW_w42 hM_w42 i_x42_2 i_x42_3 (In_lit (n := 1) (by decide) (by decide) : In 0 1 1) g42_0_45e g18_0_45 hP hD hS (lv_sub hl [0, 1, 2, 3] rfl)
          refine lv_iload_n hx hb dX12_doubt_18 rfl (lv_at hl 3 rfl) ?_
          refine lv_iload_n hx hb dX12_doubt_19 rfl (lv_at hl 2 rfl) ?_
          refine lv_icmp_ge (tgt := 109) hx hb dX12_doubt_20 (by decide) (fun c_12 => ?_) (fun c_12 => ?_)
          · refine lv_iinc (v := (x8_2 + 1)) (lv' := [(2, .int (x8_2 + 1)), (0, .ref (q 0)), (1, .int x18_1), (3, .int x18_3)]) hx hb dX12_doubt_109 hl (k := 2) rfl (rfl) (by decide) rfl (fun ls hl => ?_)
            refine lv_goto (tgt := 8) hx hb dX12_doubt_112 (by decide) ?_
            exact ih8 x18_1 (x8_2 + 1) w18 _ _ ls (mu_inc hmu8 i_x18_2 (In_lit (n := 1) (by decide) (by decide) : In 1 1 1) (by decide)) hW_w18 hM_w18 (In_w ((In_add (y := 1) i_x18_2 (In_lit (n := 1) (by decide) (by decide) : In 1 1 1) (by decide)) : In 1 40 (x8_2 + 1)) (by decide) : In 0 40 (x8_2 + 1)) hP hD hS (lv_sub hl [1, 2, 0] rfl)
          · refine lv_iload_n hx hb dX12_doubt_23 rfl (lv_at hl 1 rfl) ?_
            refine lv_aload_n hx hb dX12_doubt_24 rfl (lv_at hl 0 rfl) ?_
            refine gt_X12 hx hb hts hown hK hP 0 (hW_w18.o tM_0) 46 (by decide) wd_1447 rfl (hW_w18.fr tM_0 rfl) dX12_doubt_25 ?_
            refine lv_iload_n hx hb dX12_doubt_28 rfl (lv_at hl 2 rfl) ?_
            refine va_iald hx hb hK hP 26 0 (hW_w18.a tM_26) rfl (in_I (R_nle_l i_x18_2 i_x18_3 c_12 (by decide) : In 1 39 x8_2) (by decide)) dX12_doubt_29 ?_
            refine lv_topi (fun v_13 ev_13 => ?_)
            refine lv_if_eq (tgt := 42) hx hb dX12_doubt_30 (by decide) (fun c_14 => ?_) (fun c_14 => ?_)
            · exact J42 w18 _ _ ls hW_w18 hM_w18 (R_nle_l i_x18_2 i_x18_3 c_12 (by decide) : In 1 39 x8_2) (R_nle_r i_x18_2 i_x18_3 c_12 (by decide) : In 0 38 x18_3) g18_0_45e g18_0_45 hP hD hS (lv_sub hl [0, 1, 2, 3] rfl)
            · refine lv_aload_n hx hb dX12_doubt_33 rfl (lv_at hl 0 rfl) ?_
              refine gt_X12 hx hb hts hown hK hP 0 (hW_w18.o tM_0) 46 (by decide) wd_1447 rfl (hW_w18.fr tM_0 rfl) dX12_doubt_34 ?_
              refine lv_iload_n hx hb dX12_doubt_37 rfl (lv_at hl 3 rfl) ?_
              refine va_iald hx hb hK hP 26 0 (hW_w18.a tM_26) rfl (in_I (R_nle_r i_x18_2 i_x18_3 c_12 (by decide) : In 0 38 x18_3) (by decide)) dX12_doubt_38 ?_
              refine lv_topi (fun v_15 ev_15 => ?_)
              refine lv_if_ne (tgt := 100) hx hb dX12_doubt_39 (by decide) (fun c_16 => ?_) (fun c_16 => ?_)
              · exact J100 w18 _ _ ls hW_w18 hM_w18 (R_nle_l i_x18_2 i_x18_3 c_12 (by decide) : In 1 39 x8_2) (R_nle_r i_x18_2 i_x18_3 c_12 (by decide) : In 0 38 x18_3) g18_0_45e g18_0_45 hP hD hS (lv_sub hl [0, 1, 2, 3] rfl)
              · exact J42 w18 _ _ ls hW_w18 hM_w18 (R_nle_l i_x18_2 i_x18_3 c_12 (by decide) : In 1 39 x8_2) (R_nle_r i_x18_2 i_x18_3 c_12 (by decide) : In 0 38 x18_3) g18_0_45e g18_0_45 hP hD hS (lv_sub hl [0, 1, 2, 3] rfl)
      refine lv_iload_n hx hb dX12_doubt_8 rfl (lv_at hl 2 rfl) ?_
      refine lv_aload_n hx hb dX12_doubt_9 rfl (lv_at hl 0 rfl) ?_
      refine gt_X12 hx hb hts hown hK hP 0 (hW_w8.o tM_0) 45 (by decide) wd_1446 rfl (hW_w8.fi tM_0 rfl) dX12_doubt_10 ?_
      refine lv_icmp_ge (tgt := 115) hx hb dX12_doubt_13 (by decide) (fun c_17 => ?_) (fun c_17 => ?_)
      · refine lv_iload_n hx hb dX12_doubt_115 rfl (lv_at hl 1 rfl) ?_
        exact hret _ _ _ _ _ _ hP hD hS dX12_doubt_116 ⟨hW_w8, hM_w8⟩
      · refine lv_iconst (v := 0) hx hb dX12_doubt_16 (by decide) ?_
        refine lv_istore_n (lv' := [(3, .int 0), (0, .ref (q 0)), (1, .int x8_1), (2, .int x8_2)]) hx hb dX12_doubt_17 rfl hl (by decide) rfl (fun ls hl => ?_)
        exact J18 _ x8_1 0 w8 _ _ ls (Nat.lt_succ_self _) hW_w8 hM_w8 (R_nle_r (hW_w8.fin tM_0 rfl : In 0 40 (fI w8 0 45)) i_x8_2 c_17 (by decide) : In 0 39 x8_2) (In_lit (n := 0) (by decide) (by decide) : In 0 39 0) rfl (R_nle_l (hW_w8.fin tM_0 rfl : In 0 40 (fI w8 0 45)) i_x8_2 c_17 (by decide) : In 1 40 (fI w8 0 45)) hP hD hS (lv_sub hl [1, 2, 3, 0] rfl)
  refine lv_aload_n hx hb dX12_doubt_0 rfl (lv_at hl 0 rfl) ?_
  refine kW_v ⟨rfl, rfl⟩ hP hD hS hA (rW_V (As := []) (rest := []) hx hb hml hown hts hK hE hP hD (k_X12_knows l D cI cJ cZ q w hW_w (LM_cg rfl rfl hLM) _) ⟨⟨rfl, rfl⟩, rfl, rfl⟩ sv_X12_471 ⟨(Nat.le_trans (by decide) hR.1), (Nat.le_trans (by decide) hR.2)⟩ 0 12 (hW_w.o tM_0) rfl rfl rfl hl.1 rfl (Nat.le_of_ble_eq_true rfl) dX12_doubt_1) (fun w_18 H locs hw_w_18 hP hD hS => ?_)
  obtain ⟨hW_w_18, hs_w_18, h_20⟩ := hw_w_18
  refine lv_iconst (v := 0) hx hb dX12_doubt_4 (by decide) ?_
  refine lv_istore_n (lv' := [(1, .int 0), (0, .ref (q 0))]) hx hb dX12_doubt_5 rfl hl (by decide) rfl (fun ls hl => ?_)
  refine lv_iconst (v := 0) hx hb dX12_doubt_6 (by decide) ?_
  refine lv_istore_n (lv' := [(2, .int 0), (1, .int 0), (0, .ref (q 0))]) hx hb dX12_doubt_7 rfl hl (by decide) rfl (fun ls hl => ?_)
  exact J8 _ 0 0 w_18 _ _ ls (Nat.lt_succ_self _) hW_w_18 (Sm.rf.tr hs_w_18 (by decide)) (In_lit (n := 0) (by decide) (by decide) : In 0 40 0) hP hD hS (lv_sub hl [2, 1, 0] rfl)
set_option maxRecDepth 100000 in
set_option maxHeartbeats 8000000 in
theorem k_X12_all (l : Launch) (D : va_G) (cI cJ cZ : ClassId) (q : Nat → Nat) (w : va_W) (hW_w : HT q (TM q cI cJ cZ) w) (p1 : Int32) (hLM : LM w) : Con_i l yX12_all cX12_all 2 (some .int) ({ frames := 4, cells := 0, slots := 0, locals := 96 }) D cI cJ cZ eW [.ref (q 0), .int p1] w (fun (r : Int32) (w1 : va_W) => HT q (TM q cI cJ cZ) w1 ∧ Sm [0, 26, 27, 28, 29, 30, 31, 32, 33, 34, 35, 36] [(0, 45)] w w1) := by
  refine eQ_i rfl (by decide) (Nat.le_of_ble_eq_true rfl) ⟨rfl, rfl⟩ ?_
  intro p e R s m args below meth c A Q hx hb hml hown hts hK hE hA hR hret hP hD hS ls hl
  have hown : s.vm.findClass RX12 = some m.cls := hown
  have hl : lv_has ls 2 [(0, .ref (q 0)), (1, .int p1)] := hl
  refine lv_iload_n hx hb dX12_all_0 rfl (lv_at hl 1 rfl) ?_
  by_cases c_1 : p1 = 0
  · have c_1t : (p1 : Int32).toInt = 0 := by rw [c_1]; rfl
    refine lv_tableIn (tgt := 48) hx hb dX12_all_1 (by rw [c_1t]; decide) (by rw [c_1t]; decide) (off := 47) (by rw [c_1t]; rfl) (by decide) ?_
    refine lv_aload_n hx hb dX12_all_48 rfl (lv_at hl 0 rfl) ?_
    refine gt_X12 hx hb hts hown hK hP 0 (hW_w.o tM_0) 14 (by decide) wd_1415 rfl (hW_w.fr tM_0 rfl) dX12_all_49 ?_
    refine lv_aload_n hx hb dX12_all_52 rfl (lv_at hl 0 rfl) ?_
    refine gt_X12 hx hb hts hown hK hP 0 (hW_w.o tM_0) 12 (by decide) wd_1413 rfl (hW_w.fi tM_0 rfl) dX12_all_53 ?_
    refine va_iald hx hb hK hP 2 0 (hW_w.a tM_2) rfl (in_I (hW_w.fin tM_0 rfl : In 0 1 (fI w 0 12)) (by decide)) dX12_all_56 ?_
    refine lv_topi (fun v_2 ev_2 => ?_)
    exact hret _ _ _ _ _ _ hP hD hS dX12_all_57 ⟨hW_w, Sm.rf⟩
  by_cases c_3 : p1 = 1
  · have c_3t : (p1 : Int32).toInt = 1 := by rw [c_3]; rfl
    refine lv_tableIn (tgt := 58) hx hb dX12_all_1 (by rw [c_3t]; decide) (by rw [c_3t]; decide) (off := 57) (by rw [c_3t]; rfl) (by decide) ?_
    refine lv_aload_n hx hb dX12_all_58 rfl (lv_at hl 0 rfl) ?_
    refine gt_X12 hx hb hts hown hK hP 0 (hW_w.o tM_0) 15 (by decide) wd_1416 rfl (hW_w.fr tM_0 rfl) dX12_all_59 ?_
    refine lv_aload_n hx hb dX12_all_62 rfl (lv_at hl 0 rfl) ?_
    refine gt_X12 hx hb hts hown hK hP 0 (hW_w.o tM_0) 12 (by decide) wd_1413 rfl (hW_w.fi tM_0 rfl) dX12_all_63 ?_
    refine va_iald hx hb hK hP 3 0 (hW_w.a tM_3) rfl (in_I (hW_w.fin tM_0 rfl : In 0 1 (fI w 0 12)) (by decide)) dX12_all_66 ?_
    refine lv_topi (fun v_4 ev_4 => ?_)
    exact hret _ _ _ _ _ _ hP hD hS dX12_all_67 ⟨hW_w, Sm.rf⟩
  by_cases c_5 : p1 = 2
  · have c_5t : (p1 : Int32).toInt = 2 := by rw [c_5]; rfl
    refine lv_tableIn (tgt := 68) hx hb dX12_all_1 (by rw [c_5t]; decide) (by rw [c_5t]; decide) (off := 67) (by rw [c_5t]; rfl) (by decide) ?_
    refine lv_aload_n hx hb dX12_all_68 rfl (lv_at hl 0 rfl) ?_
    refine gt_X12 hx hb hts hown hK hP 0 (hW_w.o tM_0) 16 (by decide) wd_1417 rfl (hW_w.fr tM_0 rfl) dX12_all_69 ?_
    refine lv_aload_n hx hb dX12_all_72 rfl (lv_at hl 0 rfl) ?_
    refine gt_X12 hx hb hts hown hK hP 0 (hW_w.o tM_0) 12 (by decide) wd_1413 rfl (hW_w.fi tM_0 rfl) dX12_all_73 ?_
    refine va_iald hx hb hK hP 4 0 (hW_w.a tM_4) rfl (in_I (hW_w.fin tM_0 rfl : In 0 1 (fI w 0 12)) (by decide)) dX12_all_76 ?_
    refine lv_topi (fun v_6 ev_6 => ?_)
    exact hret _ _ _ _ _ _ hP hD hS dX12_all_77 ⟨hW_w, Sm.rf⟩
  by_cases c_7 : p1 = 3
  · have c_7t : (p1 : Int32).toInt = 3 := by rw [c_7]; rfl
    refine lv_tableIn (tgt := 78) hx hb dX12_all_1 (by rw [c_7t]; decide) (by rw [c_7t]; decide) (off := 77) (by rw [c_7t]; rfl) (by decide) ?_
    refine lv_aload_n hx hb dX12_all_78 rfl (lv_at hl 0 rfl) ?_
    refine gt_X12 hx hb hts hown hK hP 0 (hW_w.o tM_0) 37 (by decide) wd_1438 rfl (hW_w.fi tM_0 rfl) dX12_all_79 ?_
    exact hret _ _ _ _ _ _ hP hD hS dX12_all_82 ⟨hW_w, Sm.rf⟩
  by_cases c_8 : p1 = 4
  · have c_8t : (p1 : Int32).toInt = 4 := by rw [c_8]; rfl
    refine lv_tableIn (tgt := 83) hx hb dX12_all_1 (by rw [c_8t]; decide) (by rw [c_8t]; decide) (off := 82) (by rw [c_8t]; rfl) (by decide) ?_
    refine lv_aload_n hx hb dX12_all_83 rfl (lv_at hl 0 rfl) ?_
    refine kW_i ⟨rfl, rfl⟩ hP hD hS hA (rW_V (As := []) (rest := []) hx hb hml hown hts hK hE hP hD (k_X12_now l D cI cJ cZ q w hW_w  _) ⟨⟨rfl, rfl⟩, rfl, rfl⟩ sv_X12_457 ⟨(Nat.le_trans (by decide) hR.1), (Nat.le_trans (by decide) hR.2)⟩ 0 12 (hW_w.o tM_0) rfl rfl rfl hl.1 rfl (Nat.le_of_ble_eq_true rfl) dX12_all_84) (fun r_10 w_9 H locs hw_w_9 hP hD hS => ?_)
    obtain ⟨hW_w_9, hs_w_9, i_r_10⟩ := hw_w_9
    exact hret _ _ _ _ _ _ hP hD hS dX12_all_87 ⟨hW_w_9, (Sm.rf.tr hs_w_9 (by decide))⟩
  by_cases c_11 : p1 = 5
  · have c_11t : (p1 : Int32).toInt = 5 := by rw [c_11]; rfl
    refine lv_tableIn (tgt := 88) hx hb dX12_all_1 (by rw [c_11t]; decide) (by rw [c_11t]; decide) (off := 87) (by rw [c_11t]; rfl) (by decide) ?_
    refine lv_aload_n hx hb dX12_all_88 rfl (lv_at hl 0 rfl) ?_
    refine kW_v ⟨rfl, rfl⟩ hP hD hS hA (rW_V (As := []) (rest := []) hx hb hml hown hts hK hE hP hD (k_X12_knows l D cI cJ cZ q w hW_w (LM_cg rfl rfl hLM) _) ⟨⟨rfl, rfl⟩, rfl, rfl⟩ sv_X12_471 ⟨(Nat.le_trans (by decide) hR.1), (Nat.le_trans (by decide) hR.2)⟩ 0 12 (hW_w.o tM_0) rfl rfl rfl hl.1 rfl (Nat.le_of_ble_eq_true rfl) dX12_all_89) (fun w_12 H locs hw_w_12 hP hD hS => ?_)
    obtain ⟨hW_w_12, hs_w_12, h_14⟩ := hw_w_12
    refine lv_aload_n hx hb dX12_all_92 rfl (lv_at hl 0 rfl) ?_
    refine gt_X12 hx hb hts hown hK hP 0 (hW_w_12.o tM_0) 45 (by decide) wd_1446 rfl (hW_w_12.fi tM_0 rfl) dX12_all_93 ?_
    exact hret _ _ _ _ _ _ hP hD hS dX12_all_96 ⟨hW_w_12, (Sm.rf.tr hs_w_12 (by decide))⟩
  by_cases c_15 : p1 = 6
  · have c_15t : (p1 : Int32).toInt = 6 := by rw [c_15]; rfl
    refine lv_tableIn (tgt := 97) hx hb dX12_all_1 (by rw [c_15t]; decide) (by rw [c_15t]; decide) (off := 96) (by rw [c_15t]; rfl) (by decide) ?_
    refine lv_aload_n hx hb dX12_all_97 rfl (lv_at hl 0 rfl) ?_
    refine kW_i ⟨rfl, rfl⟩ hP hD hS hA (rW_V (As := []) (rest := []) hx hb hml hown hts hK hE hP hD (k_X12_doubt l D cI cJ cZ q w hW_w (LM_cg rfl rfl hLM) _) ⟨⟨rfl, rfl⟩, rfl, rfl⟩ sv_X12_509 ⟨(Nat.le_trans (by decide) hR.1), (Nat.le_trans (by decide) hR.2)⟩ 0 12 (hW_w.o tM_0) rfl rfl rfl hl.1 rfl (Nat.le_of_ble_eq_true rfl) dX12_all_98) (fun r_17 w_16 H locs hw_w_16 hP hD hS => ?_)
    obtain ⟨hW_w_16, hs_w_16⟩ := hw_w_16
    exact hret _ _ _ _ _ _ hP hD hS dX12_all_101 ⟨hW_w_16, (Sm.rf.tr hs_w_16 (by decide))⟩
  by_cases c_18 : p1 = 7
  · have c_18t : (p1 : Int32).toInt = 7 := by rw [c_18]; rfl
    refine lv_tableIn (tgt := 102) hx hb dX12_all_1 (by rw [c_18t]; decide) (by rw [c_18t]; decide) (off := 101) (by rw [c_18t]; rfl) (by decide) ?_
    refine lv_aload_n hx hb dX12_all_102 rfl (lv_at hl 0 rfl) ?_
    refine gt_X12 hx hb hts hown hK hP 0 (hW_w.o tM_0) 17 (by decide) wd_1418 rfl (hW_w.fr tM_0 rfl) dX12_all_103 ?_
    refine lv_aload_n hx hb dX12_all_106 rfl (lv_at hl 0 rfl) ?_
    refine gt_X12 hx hb hts hown hK hP 0 (hW_w.o tM_0) 12 (by decide) wd_1413 rfl (hW_w.fi tM_0 rfl) dX12_all_107 ?_
    refine va_iald hx hb hK hP 5 0 (hW_w.a tM_5) rfl (in_I (hW_w.fin tM_0 rfl : In 0 1 (fI w 0 12)) (by decide)) dX12_all_110 ?_
    refine lv_topi (fun v_19 ev_19 => ?_)
    exact hret _ _ _ _ _ _ hP hD hS dX12_all_111 ⟨hW_w, Sm.rf⟩
  refine lv_tableOut (tgt := 112) hx hb dX12_all_1 (by have h0 := lv_neT c_1 (a := 0) (by decide); have h1 := lv_neT c_3 (a := 1) (by decide); have h2 := lv_neT c_5 (a := 2) (by decide); have h3 := lv_neT c_7 (a := 3) (by decide); have h4 := lv_neT c_8 (a := 4) (by decide); have h5 := lv_neT c_11 (a := 5) (by decide); have h6 := lv_neT c_15 (a := 6) (by decide); have h7 := lv_neT c_18 (a := 7) (by decide); omega) (by decide) ?_
  refine lv_iconst (v := (-1)) hx hb dX12_all_112 (by decide) ?_
  exact hret _ _ _ _ _ _ hP hD hS dX12_all_113 ⟨hW_w, Sm.rf⟩
set_option maxRecDepth 100000 in
set_option maxHeartbeats 8000000 in
theorem k_X12_child (l : Launch) (D : va_G) (cI cJ cZ : ClassId) (q : Nat → Nat) (w : va_W) (hW_w : HT q (TM q cI cJ cZ) w) (p1 : Int32) (hLM : LM w) : Con_i l yX12_child cX12_child 2 (some .int) ({ frames := 3, cells := 0, slots := 0, locals := 73 }) D cI cJ cZ eW [.ref (q 0), .int p1] w (fun (r : Int32) (w1 : va_W) => HT q (TM q cI cJ cZ) w1 ∧ Sm [0, 26, 27, 28, 29, 30, 31, 32, 33, 34, 35, 36] [(0, 45)] w w1 ∧ In (-1) 39 r) := by
  refine eQ_i rfl (by decide) (Nat.le_of_ble_eq_true rfl) ⟨rfl, rfl⟩ ?_
  intro p e R s m args below meth c A Q hx hb hml hown hts hK hE hA hR hret hP hD hS ls hl
  have hown : s.vm.findClass RX12 = some m.cls := hown
  have hl : lv_has ls 2 [(0, .ref (q 0)), (1, .int p1)] := hl
  refine lv_iload_n hx hb dX12_child_0 rfl (lv_at hl 1 rfl) ?_
  refine lv_iconst (v := 1) hx hb dX12_child_1 (by decide) ?_
  refine lv_icmp_lt (tgt := 13) hx hb dX12_child_2 (by decide) (fun c_1 => ?_) (fun c_1 => ?_)
  · refine lv_iconst (v := (-1)) hx hb dX12_child_13 (by decide) ?_
    exact hret _ _ _ _ _ _ hP hD hS dX12_child_14 ⟨hW_w, Sm.rf, (In_lit (n := (-1)) (by decide) (by decide) : In (-1) 39 (-1))⟩
  · refine lv_iload_n hx hb dX12_child_5 rfl (lv_at hl 1 rfl) ?_
    refine lv_aload_n hx hb dX12_child_6 rfl (lv_at hl 0 rfl) ?_
    refine gt_X12 hx hb hts hown hK hP 0 (hW_w.o tM_0) 37 (by decide) wd_1438 rfl (hW_w.fi tM_0 rfl) dX12_child_7 ?_
    refine lv_icmp_le (tgt := 15) hx hb dX12_child_10 (by decide) (fun c_2 => ?_) (fun c_2 => ?_)
    · refine lv_aload_n hx hb dX12_child_15 rfl (lv_at hl 0 rfl) ?_
      refine kW_v ⟨rfl, rfl⟩ hP hD hS hA (rW_V (As := []) (rest := []) hx hb hml hown hts hK hE hP hD (k_X12_knows l D cI cJ cZ q w hW_w (LM_cg rfl rfl hLM) _) ⟨⟨rfl, rfl⟩, rfl, rfl⟩ sv_X12_471 ⟨(Nat.le_trans (by decide) hR.1), (Nat.le_trans (by decide) hR.2)⟩ 0 12 (hW_w.o tM_0) rfl rfl rfl hl.1 rfl (Nat.le_of_ble_eq_true rfl) dX12_child_16) (fun w_3 H locs hw_w_3 hP hD hS => ?_)
      obtain ⟨hW_w_3, hs_w_3, h_5⟩ := hw_w_3
      refine lv_aload_n hx hb dX12_child_19 rfl (lv_at hl 0 rfl) ?_
      refine gt_X12 hx hb hts hown hK hP 0 (hW_w_3.o tM_0) 56 (by decide) wd_1457 rfl (hW_w_3.fr tM_0 rfl) dX12_child_20 ?_
      refine lv_iload_n hx hb dX12_child_23 rfl (lv_at hl 1 rfl) ?_
      refine va_iald hx hb hK hP 36 0 (hW_w_3.a tM_36) rfl (in_I (R_le_l (R_nlt_l (In_any p1) (In_lit (n := 1) (by decide) (by decide) : In 1 1 1) c_1 (by decide) : In 1 2147483647 p1) (hW_w.fin tM_0 rfl : In 0 200 (fI w 0 37)) c_2 (by decide) : In 1 200 p1) (by decide)) dX12_child_24 ?_
      refine lv_topi (fun v_6 ev_6 => ?_)
      exact hret _ _ _ _ _ _ hP hD hS dX12_child_25 ⟨hW_w_3, (Sm.rf.tr hs_w_3 (by decide)), (In_of ev_6 (hW_w_3.ap tM_36 _) : In (-1) 39 v_6)⟩
    · refine lv_iconst (v := (-1)) hx hb dX12_child_13 (by decide) ?_
      exact hret _ _ _ _ _ _ hP hD hS dX12_child_14 ⟨hW_w, Sm.rf, (In_lit (n := (-1)) (by decide) (by decide) : In (-1) 39 (-1))⟩
set_option maxRecDepth 100000 in
set_option maxHeartbeats 8000000 in
theorem k_X12_row (l : Launch) (D : va_G) (cI cJ cZ : ClassId) (q : Nat → Nat) (w : va_W) (hW_w : HT q (TM q cI cJ cZ) w) (p1 : Int32) (i_p1 : In 0 23 p1) (hf_0_45 : In 1 40 (fI w 0 45)) : Con_i l yX12_row cX12_row 2 (some .int) ({ frames := 0, cells := 0, slots := 0, locals := 0 }) D cI cJ cZ eW [.ref (q 0), .int p1] w (fun (r : Int32) (w1 : va_W) => HT q (TM q cI cJ cZ) w1 ∧ Sm [] [] w w1 ∧ In 0 329 r ∧ (r.toInt = 168 * (fI w 0 12).toInt + 7 * p1.toInt)) := by
  refine eQ_i rfl (by decide) (Nat.le_of_ble_eq_true rfl) ⟨rfl, rfl⟩ ?_
  intro p e R s m args below meth c A Q hx hb hml hown hts hK hE hA hR hret hP hD hS ls hl
  have hown : s.vm.findClass RX12 = some m.cls := hown
  have hl : lv_has ls 2 [(0, .ref (q 0)), (1, .int p1)] := hl
  refine lv_sipush (v := 168) hx hb dX12_row_0 (by decide) ?_
  refine lv_aload_n hx hb dX12_row_3 rfl (lv_at hl 0 rfl) ?_
  refine gt_X12 hx hb hts hown hK hP 0 (hW_w.o tM_0) 12 (by decide) wd_1413 rfl (hW_w.fi tM_0 rfl) dX12_row_4 ?_
  refine lv_imul hx hb dX12_row_7 ?_
  refine lv_bipush (v := 7) hx hb dX12_row_8 (by decide) ?_
  refine lv_iload_n hx hb dX12_row_10 rfl (lv_at hl 1 rfl) ?_
  refine lv_imul hx hb dX12_row_11 ?_
  refine lv_iadd hx hb dX12_row_12 ?_
  exact hret _ _ _ _ _ _ hP hD hS dX12_row_13 ⟨hW_w, Sm.rf, ((In_add ((In_mull (hW_w.fin tM_0 rfl : In 0 1 (fI w 0 12)) (n := 168) (by decide) (by decide)) : In 0 168 (168 * (fI w 0 12))) ((In_mull i_p1 (n := 7) (by decide) (by decide)) : In 0 161 (7 * p1)) (by decide)) : In 0 329 ((168 * (fI w 0 12)) + (7 * p1))), (rowv (hW_w.fin tM_0 rfl : In 0 1 (fI w 0 12)) i_p1)⟩
