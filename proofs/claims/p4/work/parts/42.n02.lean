set_option maxRecDepth 100000 in
set_option maxHeartbeats 8000000 in
theorem k_X12_works (l : Launch) (D : va_G) (cI cJ cZ : ClassId) (q : Nat → Nat) (w : va_W) (hW_w : HT q (TM q cI cJ cZ) w) (p1 : Int32) (p2 : Int32) (p3 : Int32) (p4 : Int32) (i_p1 : In 0 1100 p1) (i_p2 : In 0 1100 p2) (i_p3 : In 0 39 p3) (i_p4 : In 0 9 p4) (hf_0_45 : In 1 40 (fI w 0 45)) (hV : HV w (fI w 0 12) p1 p2) : Con_l l yX12_works cX12_works 8 (some .long) ({ frames := 2, cells := 0, slots := 0, locals := 49 }) D cI cJ cZ eW [.ref (q 0), .int p1, .int p2, .int p3, .int p4] w (fun (r : Int64) (w1 : va_W) => HT q (TM q cI cJ cZ) w1 ∧ Sm [37] [] w w1) := by
  refine eQ_l rfl (by decide) (Nat.le_of_ble_eq_true rfl) ⟨rfl, rfl⟩ ?_
  intro p e R s m args below meth c A Q hx hb hml hown hts hK hE hA hR hret hP hD hS ls hl
  have hown : s.vm.findClass RX12 = some m.cls := hown
  have hl : lv_has ls 8 [(0, .ref (q 0)), (1, .int p1), (2, .int p2), (3, .int p3), (4, .int p4)] := hl
  have J6 : ∀ (N : Nat) (x6_5 : Int32) (x6_6 : Int32) (w6 : va_W) (H : Heap) (locs : List Loc) (ls : Array Slot), (1100 - x6_6.toInt).toNat < N → HT q (TM q cI cJ cZ) w6 → Sm [37] [] w w6 → (In 0 1100 p1) → (In 0 1100 p2) → (In 0 39 p3) → (In 0 9 p4) → (In 0 1101 x6_5) → (In 0 1100 x6_6) → (In 1 40 (fI w6 0 45)) → (WK w (fI w 0 12) p1 x6_6 x6_5) → va_P D vwCl w6 H → va_D A w6 → va_S A s.heap H locs → lv_has ls 8 [(0, .ref (q 0)), (1, .int p1), (2, .int p2), (3, .int p3), (4, .int p4), (5, .int x6_5), (6, .int x6_6)] → W p l e R s m args below meth c H locs 0 0 Q (F0 m 6 ls []) := by
    intro N
    induction N with
    | zero => intro x6_5 x6_6 w6 H locs ls hmu; exact absurd hmu (Nat.not_lt_zero _)
    | succ N ih6 =>
      intro x6_5 x6_6 w6 H locs ls hmu6 hW_w6 hM_w6 i_x6_1 i_x6_2 i_x6_3 i_x6_4 i_x6_5 i_x6_6 g6_0_45 hk_6 hP hD hS hl
      refine lv_iload hx hb dX12_works_6 (lv_at hl 6 rfl) ?_
      refine lv_iload_n hx hb dX12_works_8 rfl (lv_at hl 2 rfl) ?_
      refine lv_icmp_ge (tgt := 152) hx hb dX12_works_9 (by decide) (fun c_1 => ?_) (fun c_1 => ?_)
      · have lb_c_1 : (p2 : Int32).toInt ≤ (x6_6 : Int32).toInt := q_le.mp c_1
        refine lv_aload_n hx hb dX12_works_152 rfl (lv_at hl 0 rfl) ?_
        refine gt_X12 hx hb hts hown hK hP 0 (hW_w6.o tM_0) 57 (by decide) wd_1458 rfl (hW_w6.fr tM_0 rfl) dX12_works_153 ?_
        refine lv_iconst (v := 0) hx hb dX12_works_156 (by decide) ?_
        refine va_lald hx hb hK hP 37 1 (hW_w6.al tM_37) rfl (in_I (In_lit (n := 0) (by decide) (by decide) : In 0 0 0) (by decide)) dX12_works_157 ?_
        refine lv_topl (fun v_2 ev_2 => ?_)
        exact hret _ _ _ _ _ _ hP hD hS dX12_works_158 ⟨hW_w6, hM_w6⟩
      · have lb_c_1 : ¬ (p2 : Int32).toInt ≤ (x6_6 : Int32).toInt := fun h => c_1 (q_le.mpr h)
        refine lv_aload_n hx hb dX12_works_12 rfl (lv_at hl 0 rfl) ?_
        refine gt_X12 hx hb hts hown hK hP 0 (hW_w6.o tM_0) 25 (by decide) wd_1426 rfl (hW_w6.fr tM_0 rfl) dX12_works_13 ?_
        refine lv_sipush (v := 2200) hx hb dX12_works_16 (by decide) ?_
        refine lv_aload_n hx hb dX12_works_19 rfl (lv_at hl 0 rfl) ?_
        refine gt_X12 hx hb hts hown hK hP 0 (hW_w6.o tM_0) 12 (by decide) wd_1413 rfl (hW_w6.fi tM_0 rfl) dX12_works_20 ?_
        refine tov (v := (fI w 0 12)) (hM_w6.gI (by decide)) ?_
        refine lv_imul hx hb dX12_works_23 ?_
        refine lv_iconst (v := 2) hx hb dX12_works_24 (by decide) ?_
        refine lv_iload hx hb dX12_works_25 (lv_at hl 6 rfl) ?_
        refine lv_imul hx hb dX12_works_27 ?_
        refine lv_iadd hx hb dX12_works_28 ?_
        refine va_iald hx hb hK hP 13 0 (hW_w6.a tM_13) rfl (in_I ((In_add ((In_mull (hW_w.fin tM_0 rfl : In 0 1 (fI w 0 12)) (n := 2200) (by decide) (by decide)) : In 0 2200 (2200 * (fI w 0 12))) ((In_mull (R_nle_r i_p2 i_x6_6 c_1 (by decide) : In 0 1099 x6_6) (n := 2) (by decide) (by decide)) : In 0 2198 (2 * x6_6)) (by decide)) : In 0 4398 ((2200 * (fI w 0 12)) + (2 * x6_6))) (by decide)) dX12_works_29 ?_
        refine lv_topi (fun v_3 ev_3 => ?_)
        refine lv_istore (lv' := [(7, .int v_3), (0, .ref (q 0)), (1, .int p1), (2, .int p2), (3, .int p3), (4, .int p4), (5, .int x6_5), (6, .int x6_6)]) hx hb dX12_works_30 hl (by decide) rfl (fun ls hl => ?_)
        refine lv_iload hx hb dX12_works_32 (lv_at hl 0 rfl) ?_
        refine lv_bipush (v := 9) hx hb dX12_works_34 (by decide) ?_
        refine lv_icmp_gt (tgt := 83) hx hb dX12_works_36 (by decide) (fun c_4 => ?_) (fun c_4 => ?_)
        · have lb_c_4 : (9 : Int32).toInt < (v_3 : Int32).toInt := q_lt.mp c_4
          have lq_c_4 : (9 : Int32).toInt = 9 := by decide
          refine lv_iload hx hb dX12_works_83 (lv_at hl 0 rfl) ?_
          refine lv_bipush (v := 18) hx hb dX12_works_85 (by decide) ?_
          refine lv_icmp_ne (tgt := 113) hx hb dX12_works_87 (by decide) (fun c_5 => ?_) (fun c_5 => ?_)
          · refine lv_iinc (v := (x6_5 + (-1))) (lv' := [(5, .int (x6_5 + (-1))), (7, .int v_3), (0, .ref (q 0)), (1, .int p1), (2, .int p2), (3, .int p3), (4, .int p4), (6, .int x6_6)]) hx hb dX12_works_113 hl (k := 6) rfl (rfl) (by decide) rfl (fun ls hl => ?_)
            refine lv_aload_n hx hb dX12_works_116 rfl (lv_at hl 2 rfl) ?_
            refine gt_X12 hx hb hts hown hK hP 0 (hW_w6.o tM_0) 57 (by decide) wd_1458 rfl (hW_w6.fr tM_0 rfl) dX12_works_117 ?_
            refine lv_iload hx hb dX12_works_120 (lv_at hl 0 rfl) ?_
            refine lv_iconst (v := 1) hx hb dX12_works_122 (by decide) ?_
            refine lv_isub hx hb dX12_works_123 ?_
            refine lv_iload hx hb dX12_works_124 (lv_at hl 1 rfl) ?_
            refine lv_aload_n hx hb dX12_works_126 rfl (lv_at hl 2 rfl) ?_
            refine gt_X12 hx hb hts hown hK hP 0 (hW_w6.o tM_0) 57 (by decide) wd_1458 rfl (hW_w6.fr tM_0 rfl) dX12_works_127 ?_
            refine lv_iload hx hb dX12_works_130 (lv_at hl 0 rfl) ?_
            refine lv_iconst (v := 1) hx hb dX12_works_132 (by decide) ?_
            refine lv_isub hx hb dX12_works_133 ?_
            refine va_lald hx hb hK hP 37 1 (hW_w6.al tM_37) rfl (in_I ((In_sub ((In_dec (y := (-1)) (n := 1) (WK_t1 hk_6 hV i_p1 (by omega) (hW_w.fin tM_0 rfl : In 0 1 (fI w 0 12)) (R_nle_r i_p2 i_x6_6 c_1 (by decide) : In 0 1099 x6_6) (WK_in hk_6 (In_w (R_nle_r i_p2 i_x6_6 c_1 (by decide) : In 0 1099 x6_6) (by decide) : In 0 1100 x6_6) : In 0 1100 x6_5) (ev_3.trans (congrFun (hM_w6.hA (by decide)) _)) (by omega) c_5 : In 2 1100 x6_5) (by decide) (by decide)) : In 1 1099 (x6_5 + (-1))) (In_lit (n := 1) (by decide) (by decide) : In 1 1 1) (by decide)) : In 0 1098 ((x6_5 + (-1)) - 1)) (by decide)) dX12_works_134 ?_
            refine lv_topl (fun v_6 ev_6 => ?_)
            refine lv_aload_n hx hb dX12_works_135 rfl (lv_at hl 2 rfl) ?_
            refine gt_X12 hx hb hts hown hK hP 0 (hW_w6.o tM_0) 57 (by decide) wd_1458 rfl (hW_w6.fr tM_0 rfl) dX12_works_136 ?_
            refine lv_iload hx hb dX12_works_139 (lv_at hl 0 rfl) ?_
            refine va_lald hx hb hK hP 37 1 (hW_w6.al tM_37) rfl (in_I ((In_dec (y := (-1)) (n := 1) (WK_t1 hk_6 hV i_p1 (by omega) (hW_w.fin tM_0 rfl : In 0 1 (fI w 0 12)) (R_nle_r i_p2 i_x6_6 c_1 (by decide) : In 0 1099 x6_6) (WK_in hk_6 (In_w (R_nle_r i_p2 i_x6_6 c_1 (by decide) : In 0 1099 x6_6) (by decide) : In 0 1100 x6_6) : In 0 1100 x6_5) (ev_3.trans (congrFun (hM_w6.hA (by decide)) _)) (by omega) c_5 : In 2 1100 x6_5) (by decide) (by decide)) : In 1 1099 (x6_5 + (-1))) (by decide)) dX12_works_141 ?_
            refine lv_topl (fun v_7 ev_7 => ?_)
            refine kW_l ⟨rfl, rfl⟩ hP hD hS hA (rW_S (As := [.int v_3, .long v_6, .long v_7]) (rest := [.int ((x6_5 + (-1)) - 1), .ref (q 37)]) hx hb hml hown hts hK hE hP hD (k_X12_two l D cI cJ cZ q w6 hW_w6 v_3 v_6 v_7 (R_lt_r (In_lit (n := 9) (by decide) (by decide) : In 9 9 9) (In_any v_3) c_4 (by decide) : In 10 2147483647 v_3) (In_of (hM_w6.gI (by decide)) (In_of (hM_w6.gI (by decide)).symm g6_0_45)) _) ⟨⟨rfl, rfl⟩, rfl, rfl⟩ sv_X12_489 ⟨(Nat.le_trans (by decide) hR.1), (Nat.le_trans (by decide) hR.2)⟩ rfl hl.1 rfl (Nat.le_of_ble_eq_true rfl) dX12_works_142) (fun r_9 w_8 H locs hw_w_8 hP hD hS => ?_)
            obtain ⟨hW_w_8, hs_w_8⟩ := hw_w_8
            refine va_last hx hb hK hP hD hS 37 1 (hW_w_8.al tM_37) rfl (in_I ((In_sub ((In_dec (y := (-1)) (n := 1) (WK_t1 hk_6 hV i_p1 (by omega) (hW_w.fin tM_0 rfl : In 0 1 (fI w 0 12)) (R_nle_r i_p2 i_x6_6 c_1 (by decide) : In 0 1099 x6_6) (WK_in hk_6 (In_w (R_nle_r i_p2 i_x6_6 c_1 (by decide) : In 0 1099 x6_6) (by decide) : In 0 1100 x6_6) : In 0 1100 x6_5) (ev_3.trans (congrFun (hM_w6.hA (by decide)) _)) (by omega) c_5 : In 2 1100 x6_5) (by decide) (by decide)) : In 1 1099 (x6_5 + (-1))) (In_lit (n := 1) (by decide) (by decide) : In 1 1 1) (by decide)) : In 0 1098 ((x6_5 + (-1)) - 1)) (by decide)) dX12_works_145 (fun H locs hP hD hS => fr_w (hW_w_8.uL tM_37) hP hD (fun w_10 ew_10 hW_w_10 hP hD => ?_))
            refine lv_iinc (v := (x6_6 + 1)) (lv' := [(6, .int (x6_6 + 1)), (5, .int (x6_5 + (-1))), (7, .int v_3), (0, .ref (q 0)), (1, .int p1), (2, .int p2), (3, .int p3), (4, .int p4)]) hx hb dX12_works_146 hl (k := 7) rfl (rfl) (by decide) rfl (fun ls hl => ?_)
            refine lv_goto (tgt := 6) hx hb dX12_works_149 (by decide) ?_
            exact ih6 (x6_5 + (-1)) (x6_6 + 1) w_10 _ _ ls (mu_inc hmu6 (R_nle_r i_p2 i_x6_6 c_1 (by decide) : In 0 1099 x6_6) (In_lit (n := 1) (by decide) (by decide) : In 1 1 1) (by decide)) hW_w_10 ((hM_w6.tr hs_w_8 (by decide)).sa ew_10 (by decide)) i_p1 (In_w (R_nle_l i_p2 i_x6_6 c_1 (by decide) : In 1 1100 p2) (by decide) : In 0 1100 p2) i_p3 i_p4 (In_w ((In_dec (y := (-1)) (n := 1) (WK_t1 hk_6 hV i_p1 (by omega) (hW_w.fin tM_0 rfl : In 0 1 (fI w 0 12)) (R_nle_r i_p2 i_x6_6 c_1 (by decide) : In 0 1099 x6_6) (WK_in hk_6 (In_w (R_nle_r i_p2 i_x6_6 c_1 (by decide) : In 0 1099 x6_6) (by decide) : In 0 1100 x6_6) : In 0 1100 x6_5) (ev_3.trans (congrFun (hM_w6.hA (by decide)) _)) (by omega) c_5 : In 2 1100 x6_5) (by decide) (by decide)) : In 1 1099 (x6_5 + (-1))) (by decide) : In 0 1101 (x6_5 + (-1))) (In_w ((In_add (y := 1) (R_nle_r i_p2 i_x6_6 c_1 (by decide) : In 0 1099 x6_6) (In_lit (n := 1) (by decide) (by decide) : In 1 1 1) (by decide)) : In 1 1100 (x6_6 + 1)) (by decide) : In 0 1100 (x6_6 + 1)) (In_of ((fI_cg (st_ne ew_10 (by decide))).trans ((hs_w_8.gI (by decide)).trans (hM_w6.gI (by decide)))) (In_of (hM_w6.gI (by decide)).symm g6_0_45)) (WK_two hk_6 hV i_p1 (by omega) (hW_w.fin tM_0 rfl : In 0 1 (fI w 0 12)) (R_nle_r i_p2 i_x6_6 c_1 (by decide) : In 0 1099 x6_6) (WK_t1 hk_6 hV i_p1 (by omega) (hW_w.fin tM_0 rfl : In 0 1 (fI w 0 12)) (R_nle_r i_p2 i_x6_6 c_1 (by decide) : In 0 1099 x6_6) (WK_in hk_6 (In_w (R_nle_r i_p2 i_x6_6 c_1 (by decide) : In 0 1099 x6_6) (by decide) : In 0 1100 x6_6) : In 0 1100 x6_5) (ev_3.trans (congrFun (hM_w6.hA (by decide)) _)) (by omega) c_5 : In 2 1100 x6_5) (ev_3.trans (congrFun (hM_w6.hA (by decide)) _)) (by omega) c_5) hP hD hS (lv_sub hl [3, 4, 5, 6, 7, 1, 0] rfl)
          · refine lv_aload_n hx hb dX12_works_90 rfl (lv_at hl 1 rfl) ?_
            refine gt_X12 hx hb hts hown hK hP 0 (hW_w6.o tM_0) 57 (by decide) wd_1458 rfl (hW_w6.fr tM_0 rfl) dX12_works_91 ?_
            refine lv_iload hx hb dX12_works_94 (lv_at hl 6 rfl) ?_
            refine lv_iconst (v := 1) hx hb dX12_works_96 (by decide) ?_
            refine lv_isub hx hb dX12_works_97 ?_
            refine lv_lconst (v := 1) hx hb dX12_works_98 (by decide) ?_
            refine lv_aload_n hx hb dX12_works_99 rfl (lv_at hl 1 rfl) ?_
            refine gt_X12 hx hb hts hown hK hP 0 (hW_w6.o tM_0) 57 (by decide) wd_1458 rfl (hW_w6.fr tM_0 rfl) dX12_works_100 ?_
            refine lv_iload hx hb dX12_works_103 (lv_at hl 6 rfl) ?_
            refine lv_iconst (v := 1) hx hb dX12_works_105 (by decide) ?_
            refine lv_isub hx hb dX12_works_106 ?_
            refine va_lald hx hb hK hP 37 1 (hW_w6.al tM_37) rfl (in_I ((In_sub (WK_n1 hk_6 hV i_p1 (by omega) (hW_w.fin tM_0 rfl : In 0 1 (fI w 0 12)) (R_nle_r i_p2 i_x6_6 c_1 (by decide) : In 0 1099 x6_6) (WK_in hk_6 (In_w (R_nle_r i_p2 i_x6_6 c_1 (by decide) : In 0 1099 x6_6) (by decide) : In 0 1100 x6_6) : In 0 1100 x6_5) (ev_3.trans (congrFun (hM_w6.hA (by decide)) _)) c_5 : In 1 1100 x6_5) (In_lit (n := 1) (by decide) (by decide) : In 1 1 1) (by decide)) : In 0 1099 (x6_5 - 1)) (by decide)) dX12_works_107 ?_
            refine lv_topl (fun v_11 ev_11 => ?_)
            refine lv_lsub hx hb dX12_works_108 ?_
            refine lv_topl (fun v_12 ev_12 => ?_)
            refine va_last hx hb hK hP hD hS 37 1 (hW_w6.al tM_37) rfl (in_I ((In_sub (WK_n1 hk_6 hV i_p1 (by omega) (hW_w.fin tM_0 rfl : In 0 1 (fI w 0 12)) (R_nle_r i_p2 i_x6_6 c_1 (by decide) : In 0 1099 x6_6) (WK_in hk_6 (In_w (R_nle_r i_p2 i_x6_6 c_1 (by decide) : In 0 1099 x6_6) (by decide) : In 0 1100 x6_6) : In 0 1100 x6_5) (ev_3.trans (congrFun (hM_w6.hA (by decide)) _)) c_5 : In 1 1100 x6_5) (In_lit (n := 1) (by decide) (by decide) : In 1 1 1) (by decide)) : In 0 1099 (x6_5 - 1)) (by decide)) dX12_works_109 (fun H locs hP hD hS => fr_w (hW_w6.uL tM_37) hP hD (fun w_13 ew_13 hW_w_13 hP hD => ?_))
            refine lv_goto (tgt := 146) hx hb dX12_works_110 (by decide) ?_
            refine lv_iinc (v := (x6_6 + 1)) (lv' := [(6, .int (x6_6 + 1)), (7, .int v_3), (0, .ref (q 0)), (1, .int p1), (2, .int p2), (3, .int p3), (4, .int p4), (5, .int x6_5)]) hx hb dX12_works_146 hl (k := 7) rfl (rfl) (by decide) rfl (fun ls hl => ?_)
            refine lv_goto (tgt := 6) hx hb dX12_works_149 (by decide) ?_
            exact ih6 x6_5 (x6_6 + 1) w_13 _ _ ls (mu_inc hmu6 (R_nle_r i_p2 i_x6_6 c_1 (by decide) : In 0 1099 x6_6) (In_lit (n := 1) (by decide) (by decide) : In 1 1 1) (by decide)) hW_w_13 (hM_w6.sa ew_13 (by decide)) i_p1 (In_w (R_nle_l i_p2 i_x6_6 c_1 (by decide) : In 1 1100 p2) (by decide) : In 0 1100 p2) i_p3 i_p4 (In_w (WK_n1 hk_6 hV i_p1 (by omega) (hW_w.fin tM_0 rfl : In 0 1 (fI w 0 12)) (R_nle_r i_p2 i_x6_6 c_1 (by decide) : In 0 1099 x6_6) (WK_in hk_6 (In_w (R_nle_r i_p2 i_x6_6 c_1 (by decide) : In 0 1099 x6_6) (by decide) : In 0 1100 x6_6) : In 0 1100 x6_5) (ev_3.trans (congrFun (hM_w6.hA (by decide)) _)) c_5 : In 1 1100 x6_5) (by decide) : In 0 1101 x6_5) (In_w ((In_add (y := 1) (R_nle_r i_p2 i_x6_6 c_1 (by decide) : In 0 1099 x6_6) (In_lit (n := 1) (by decide) (by decide) : In 1 1 1) (by decide)) : In 1 1100 (x6_6 + 1)) (by decide) : In 0 1100 (x6_6 + 1)) (In_of ((fI_cg (st_ne ew_13 (by decide))).trans (hM_w6.gI (by decide))) (In_of (hM_w6.gI (by decide)).symm g6_0_45)) (WK_no hk_6 hV i_p1 (by omega) (hW_w.fin tM_0 rfl : In 0 1 (fI w 0 12)) (R_nle_r i_p2 i_x6_6 c_1 (by decide) : In 0 1099 x6_6) (WK_n1 hk_6 hV i_p1 (by omega) (hW_w.fin tM_0 rfl : In 0 1 (fI w 0 12)) (R_nle_r i_p2 i_x6_6 c_1 (by decide) : In 0 1099 x6_6) (WK_in hk_6 (In_w (R_nle_r i_p2 i_x6_6 c_1 (by decide) : In 0 1099 x6_6) (by decide) : In 0 1100 x6_6) : In 0 1100 x6_5) (ev_3.trans (congrFun (hM_w6.hA (by decide)) _)) c_5 : In 1 1100 x6_5) (ev_3.trans (congrFun (hM_w6.hA (by decide)) _)) c_5) hP hD hS (lv_sub hl [2, 3, 4, 5, 6, 7, 0] rfl)
        · have lb_c_4 : ¬ (9 : Int32).toInt < (v_3 : Int32).toInt := fun h => c_4 (q_lt.mpr h)
          have lq_c_4 : (9 : Int32).toInt = 9 := by decide
          refine lv_aload_n hx hb dX12_works_39 rfl (lv_at hl 1 rfl) ?_
          refine gt_X12 hx hb hts hown hK hP 0 (hW_w6.o tM_0) 57 (by decide) wd_1458 rfl (hW_w6.fr tM_0 rfl) dX12_works_40 ?_
          refine lv_iload hx hb dX12_works_43 (lv_at hl 6 rfl) ?_
          refine lv_aload_n hx hb dX12_works_45 rfl (lv_at hl 1 rfl) ?_
          refine lv_iload hx hb dX12_works_46 (lv_at hl 0 rfl) ?_
          refine lv_iload hx hb dX12_works_48 (lv_at hl 7 rfl) ?_
          refine lv_aload_n hx hb dX12_works_50 rfl (lv_at hl 1 rfl) ?_
          refine gt_X12 hx hb hts hown hK hP 0 (hW_w6.o tM_0) 25 (by decide) wd_1426 rfl (hW_w6.fr tM_0 rfl) dX12_works_51 ?_
          refine lv_sipush (v := 2200) hx hb dX12_works_54 (by decide) ?_
          refine lv_aload_n hx hb dX12_works_57 rfl (lv_at hl 1 rfl) ?_
          refine gt_X12 hx hb hts hown hK hP 0 (hW_w6.o tM_0) 12 (by decide) wd_1413 rfl (hW_w6.fi tM_0 rfl) dX12_works_58 ?_
          refine tov (v := (fI w 0 12)) (hM_w6.gI (by decide)) ?_
          refine lv_imul hx hb dX12_works_61 ?_
          refine lv_iconst (v := 2) hx hb dX12_works_62 (by decide) ?_
          refine lv_iload hx hb dX12_works_63 (lv_at hl 7 rfl) ?_
          refine lv_imul hx hb dX12_works_65 ?_
          refine lv_iadd hx hb dX12_works_66 ?_
          refine lv_iconst (v := 1) hx hb dX12_works_67 (by decide) ?_
          refine lv_iadd hx hb dX12_works_68 ?_
          refine va_iald hx hb hK hP 13 0 (hW_w6.a tM_13) rfl (in_I ((In_add ((In_add ((In_mull (hW_w.fin tM_0 rfl : In 0 1 (fI w 0 12)) (n := 2200) (by decide) (by decide)) : In 0 2200 (2200 * (fI w 0 12))) ((In_mull (R_nle_r i_p2 i_x6_6 c_1 (by decide) : In 0 1099 x6_6) (n := 2) (by decide) (by decide)) : In 0 2198 (2 * x6_6)) (by decide)) : In 0 4398 ((2200 * (fI w 0 12)) + (2 * x6_6))) (In_lit (n := 1) (by decide) (by decide) : In 1 1 1) (by decide)) : In 1 4399 (((2200 * (fI w 0 12)) + (2 * x6_6)) + 1)) (by decide)) dX12_works_69 ?_
          refine lv_topi (fun v_14 ev_14 => ?_)
          refine lv_iload_n hx hb dX12_works_70 rfl (lv_at hl 4 rfl) ?_
          refine lv_iload hx hb dX12_works_71 (lv_at hl 5 rfl) ?_
          refine kW_l ⟨rfl, rfl⟩ hP hD hS hA (rW_V (As := [.int v_3, .int x6_6, .int v_14, .int p3, .int p4]) (rest := [.int x6_5, .ref (q 37)]) hx hb hml hown hts hK hE hP hD (k_X12_leaf l D cI cJ cZ q w6 hW_w6 v_3 x6_6 v_14 p3 p4 (R_nlt_r (In_lit (n := 9) (by decide) (by decide) : In 9 9 9) (In_any v_3) c_4 (by decide) : In (-2147483648) 9 v_3) (R_nle_r i_p2 i_x6_6 c_1 (by decide) : In 0 1099 x6_6) i_p3 i_p4 (In_of (hM_w6.gI (by decide)) (In_of (hM_w6.gI (by decide)).symm g6_0_45)) _) ⟨⟨rfl, rfl⟩, rfl, rfl⟩ sv_X12_485 ⟨(Nat.le_trans (by decide) hR.1), (Nat.le_trans (by decide) hR.2)⟩ 0 12 (hW_w6.o tM_0) rfl rfl rfl hl.1 rfl (Nat.le_of_ble_eq_true rfl) dX12_works_73) (fun r_16 w_15 H locs hw_w_15 hP hD hS => ?_)
          obtain ⟨hW_w_15, hs_w_15⟩ := hw_w_15
          refine va_last hx hb hK hP hD hS 37 1 (hW_w_15.al tM_37) rfl (in_I (WK_in hk_6 (In_w (R_nle_r i_p2 i_x6_6 c_1 (by decide) : In 0 1099 x6_6) (by decide) : In 0 1100 x6_6) : In 0 1100 x6_5) (by decide)) dX12_works_76 (fun H locs hP hD hS => fr_w (hW_w_15.uL tM_37) hP hD (fun w_17 ew_17 hW_w_17 hP hD => ?_))
          refine lv_iinc (v := (x6_5 + 1)) (lv' := [(5, .int (x6_5 + 1)), (7, .int v_3), (0, .ref (q 0)), (1, .int p1), (2, .int p2), (3, .int p3), (4, .int p4), (6, .int x6_6)]) hx hb dX12_works_77 hl (k := 6) rfl (rfl) (by decide) rfl (fun ls hl => ?_)
          refine lv_goto (tgt := 146) hx hb dX12_works_80 (by decide) ?_
          refine lv_iinc (v := (x6_6 + 1)) (lv' := [(6, .int (x6_6 + 1)), (5, .int (x6_5 + 1)), (7, .int v_3), (0, .ref (q 0)), (1, .int p1), (2, .int p2), (3, .int p3), (4, .int p4)]) hx hb dX12_works_146 hl (k := 7) rfl (rfl) (by decide) rfl (fun ls hl => ?_)
          refine lv_goto (tgt := 6) hx hb dX12_works_149 (by decide) ?_
          exact ih6 (x6_5 + 1) (x6_6 + 1) w_17 _ _ ls (mu_inc hmu6 (R_nle_r i_p2 i_x6_6 c_1 (by decide) : In 0 1099 x6_6) (In_lit (n := 1) (by decide) (by decide) : In 1 1 1) (by decide)) hW_w_17 ((hM_w6.tr hs_w_15 (by decide)).sa ew_17 (by decide)) i_p1 (In_w (R_nle_l i_p2 i_x6_6 c_1 (by decide) : In 1 1100 p2) (by decide) : In 0 1100 p2) i_p3 i_p4 (In_w ((In_add (y := 1) (WK_in hk_6 (In_w (R_nle_r i_p2 i_x6_6 c_1 (by decide) : In 0 1099 x6_6) (by decide) : In 0 1100 x6_6) : In 0 1100 x6_5) (In_lit (n := 1) (by decide) (by decide) : In 1 1 1) (by decide)) : In 1 1101 (x6_5 + 1)) (by decide) : In 0 1101 (x6_5 + 1)) (In_w ((In_add (y := 1) (R_nle_r i_p2 i_x6_6 c_1 (by decide) : In 0 1099 x6_6) (In_lit (n := 1) (by decide) (by decide) : In 1 1 1) (by decide)) : In 1 1100 (x6_6 + 1)) (by decide) : In 0 1100 (x6_6 + 1)) (In_of ((fI_cg (st_ne ew_17 (by decide))).trans ((hs_w_15.gI (by decide)).trans (hM_w6.gI (by decide)))) (In_of (hM_w6.gI (by decide)).symm g6_0_45)) (WK_lf hk_6 hV i_p1 (by omega) (hW_w.fin tM_0 rfl : In 0 1 (fI w 0 12)) (R_nle_r i_p2 i_x6_6 c_1 (by decide) : In 0 1099 x6_6) (WK_in hk_6 (In_w (R_nle_r i_p2 i_x6_6 c_1 (by decide) : In 0 1099 x6_6) (by decide) : In 0 1100 x6_6) : In 0 1100 x6_5) (ev_3.trans (congrFun (hM_w6.hA (by decide)) _)) (by omega)) hP hD hS (lv_sub hl [3, 4, 5, 6, 7, 1, 0] rfl)
  refine lv_iconst (v := 0) hx hb dX12_works_0 (by decide) ?_
  refine lv_istore (lv' := [(5, .int 0), (0, .ref (q 0)), (1, .int p1), (2, .int p2), (3, .int p3), (4, .int p4)]) hx hb dX12_works_1 hl (by decide) rfl (fun ls hl => ?_)
  refine lv_iload_n hx hb dX12_works_3 rfl (lv_at hl 2 rfl) ?_
  refine lv_istore (lv' := [(6, .int p1), (5, .int 0), (0, .ref (q 0)), (1, .int p1), (2, .int p2), (3, .int p3), (4, .int p4)]) hx hb dX12_works_4 hl (by decide) rfl (fun ls hl => ?_)
  exact J6 _ 0 p1 w _ _ ls (Nat.lt_succ_self _) hW_w Sm.rf i_p1 i_p2 i_p3 i_p4 (In_lit (n := 0) (by decide) (by decide) : In 0 1101 0) i_p1 hf_0_45 WK_0 hP hD hS (lv_sub hl [2, 3, 4, 5, 6, 1, 0] rfl)
set_option maxRecDepth 100000 in
set_option maxHeartbeats 8000000 in
theorem k_X12_isFor (l : Launch) (D : va_G) (cI cJ cZ : ClassId) (q : Nat → Nat) (w : va_W) (hW_w : HT q (TM q cI cJ cZ) w) (p1 : Int32) (p2 : Int32) (i_p1 : In 0 23 p1) (i_p2 : In 0 39 p2) (hf_0_45 : In 1 40 (fI w 0 45)) (hRV : RV w) (hlt : p1.toInt < (aF w 4 (fI w 0 12).toNatClampNeg).toInt) : Con_i l yX12_isFor cX12_isFor 3 (some .boolean) ({ frames := 3, cells := 0, slots := 0, locals := 76 }) D cI cJ cZ eW [.ref (q 0), .int p1, .int p2] w (fun (r : Int32) (w1 : va_W) => HT q (TM q cI cJ cZ) w1 ∧ Sm [37] [] w w1 ∧ In 0 1 r) := by
  refine eQ_z rfl (by decide) (Nat.le_of_ble_eq_true rfl) ⟨rfl, rfl⟩ ?_
  intro p e R s m args below meth c A Q hx hb hml hown hts hK hE hA hR hret hP hD hS ls hl
  have hown : s.vm.findClass RX12 = some m.cls := hown
  have hl : lv_has ls 3 [(0, .ref (q 0)), (1, .int p1), (2, .int p2)] := hl
  refine lv_aload_n hx hb dX12_isFor_0 rfl (lv_at hl 0 rfl) ?_
  refine lv_aload_n hx hb dX12_isFor_1 rfl (lv_at hl 0 rfl) ?_
  refine gt_X12 hx hb hts hown hK hP 0 (hW_w.o tM_0) 24 (by decide) wd_1425 rfl (hW_w.fr tM_0 rfl) dX12_isFor_2 ?_
  refine lv_aload_n hx hb dX12_isFor_5 rfl (lv_at hl 0 rfl) ?_
  refine lv_iload_n hx hb dX12_isFor_6 rfl (lv_at hl 1 rfl) ?_
  refine kW_i ⟨rfl, rfl⟩ hP hD hS hA (rW_V (As := [.int p1]) (rest := [.ref (q 12), .ref (q 0)]) hx hb hml hown hts hK hE hP hD (k_X12_row l D cI cJ cZ q w hW_w p1 i_p1 hf_0_45 _) ⟨⟨rfl, rfl⟩, rfl, rfl⟩ sv_X12_493 ⟨(Nat.le_trans (by decide) hR.1), (Nat.le_trans (by decide) hR.2)⟩ 0 12 (hW_w.o tM_0) rfl rfl rfl hl.1 rfl (Nat.le_of_ble_eq_true rfl) dX12_isFor_7) (fun r_2 w_1 H locs hw_w_1 hP hD hS => ?_)
  obtain ⟨hW_w_1, hs_w_1, i_r_2, h_3⟩ := hw_w_1
  have o_h_3 : (r_2 : Int32).toInt = 168 * ((fI w 0 12) : Int32).toInt + 7 * (p1 : Int32).toInt := (by have q := h_3; omega)
  refine lv_iconst (v := 5) hx hb dX12_isFor_10 (by decide) ?_
  refine lv_iadd hx hb dX12_isFor_11 ?_
  refine va_iald hx hb hK hP 12 0 (hW_w_1.a tM_12) rfl (in_I ((In_add i_r_2 (In_lit (n := 5) (by decide) (by decide) : In 5 5 5) (by decide)) : In 5 334 (r_2 + 5)) (by decide)) dX12_isFor_12 ?_
  refine lv_topi (fun v_4 ev_4 => ?_)
  refine lv_aload_n hx hb dX12_isFor_13 rfl (lv_at hl 0 rfl) ?_
  refine gt_X12 hx hb hts hown hK hP 0 (hW_w_1.o tM_0) 24 (by decide) wd_1425 rfl (hW_w_1.fr tM_0 rfl) dX12_isFor_14 ?_
  refine lv_aload_n hx hb dX12_isFor_17 rfl (lv_at hl 0 rfl) ?_
  refine lv_iload_n hx hb dX12_isFor_18 rfl (lv_at hl 1 rfl) ?_
  refine kW_i ⟨rfl, rfl⟩ hP hD hS hA (rW_V (As := [.int p1]) (rest := [.ref (q 12), .int v_4, .ref (q 0)]) hx hb hml hown hts hK hE hP hD (k_X12_row l D cI cJ cZ q w_1 hW_w_1 p1 i_p1 (In_of (hs_w_1.gI (by decide)) hf_0_45) _) ⟨⟨rfl, rfl⟩, rfl, rfl⟩ sv_X12_493 ⟨(Nat.le_trans (by decide) hR.1), (Nat.le_trans (by decide) hR.2)⟩ 0 12 (hW_w_1.o tM_0) rfl rfl rfl hl.1 rfl (Nat.le_of_ble_eq_true rfl) dX12_isFor_19) (fun r_6 w_5 H locs hw_w_5 hP hD hS => ?_)
  obtain ⟨hW_w_5, hs_w_5, i_r_6, h_7⟩ := hw_w_5
  have o_h_7 : (r_6 : Int32).toInt = 168 * ((fI w 0 12) : Int32).toInt + 7 * (p1 : Int32).toInt := (by have e : (fI w_1 0 12).toInt = ((fI w 0 12) : Int32).toInt := congrArg Int32.toInt (hs_w_1.gI (by decide)); have q := h_7; omega)
  refine lv_bipush (v := 6) hx hb dX12_isFor_22 (by decide) ?_
  refine lv_iadd hx hb dX12_isFor_24 ?_
  refine va_iald hx hb hK hP 12 0 (hW_w_5.a tM_12) rfl (in_I ((In_add i_r_6 (In_lit (n := 6) (by decide) (by decide) : In 6 6 6) (by decide)) : In 6 335 (r_6 + 6)) (by decide)) dX12_isFor_25 ?_
  refine lv_topi (fun v_8 ev_8 => ?_)
  refine lv_iload_n hx hb dX12_isFor_26 rfl (lv_at hl 2 rfl) ?_
  refine lv_iconst (v := 0) hx hb dX12_isFor_27 (by decide) ?_
  refine kW_l ⟨rfl, rfl⟩ hP hD hS hA (rW_V (As := [.int v_4, .int v_8, .int p2, .int 0]) (rest := []) hx hb hml hown hts hK hE hP hD (k_X12_works l D cI cJ cZ q w_5 hW_w_5 v_4 v_8 p2 0 (In_of ev_4 (hW_w_1.ap tM_12 _) : In 0 1100 v_4) (In_of ev_8 (hW_w_5.ap tM_12 _) : In 0 1100 v_8) i_p2 (In_lit (n := 0) (by decide) (by decide) : In 0 9 0) (In_of ((hs_w_5.gI (by decide)).trans (hs_w_1.gI (by decide))) hf_0_45) ((by rw [show fI w_5 0 12 = fI w 0 12 from ((hs_w_5.gI (by decide)).trans (hs_w_1.gI (by decide)))]; exact (HV_cg ((hs_w_5.hA (by decide)).trans (hs_w_1.hA (by decide))) (RV_at (k := 4) (o := r_2) (i := (r_2 + 5)) (j := (r_6 + 6)) hRV i_p1 hlt o_h_3 (hW_w.fin tM_0 rfl : In 0 1 (fI w 0 12)) (by decide) (by have t9 := t_add i_r_2 (In_lit (n := 5) (by decide) (by decide) : In 5 5 5) (by decide); have z5 : (5 : Int32).toInt = 5 := (by decide); have r1 := o_h_3; have r2 := o_h_7; omega) (by have t9 := t_add i_r_6 (In_lit (n := 6) (by decide) (by decide) : In 6 6 6) (by decide); have z6 : (6 : Int32).toInt = 6 := (by decide); have r1 := o_h_3; have r2 := o_h_7; omega) (ev_4.trans (congrFun (hs_w_1.hA (by decide)) _)) (ev_8.trans (congrFun ((hs_w_5.hA (by decide)).trans (hs_w_1.hA (by decide))) _)))))) _) ⟨⟨rfl, rfl⟩, rfl, rfl⟩ sv_X12_496 ⟨(Nat.le_trans (by decide) hR.1), (Nat.le_trans (by decide) hR.2)⟩ 0 12 (hW_w_5.o tM_0) rfl rfl rfl hl.1 rfl (Nat.le_of_ble_eq_true rfl) dX12_isFor_28) (fun r_10 w_9 H locs hw_w_9 hP hD hS => ?_)
  obtain ⟨hW_w_9, hs_w_9⟩ := hw_w_9
  refine lv_lconst (v := 1) hx hb dX12_isFor_31 (by decide) ?_
  refine W.lcmp hx hb dX12_isFor_32 ?_
  refine lv_topi (fun v_11 ev_11 => ?_)
  refine lv_if_ne (tgt := 40) hx hb dX12_isFor_33 (by decide) (fun c_12 => ?_) (fun c_12 => ?_)
  · refine lv_iconst (v := 0) hx hb dX12_isFor_40 (by decide) ?_
    exact hret _ _ _ _ _ _ hP hD hS dX12_isFor_41 (In_lit (n := 0) (by decide) (by decide) : In 0 1 0) ⟨hW_w_9, (((Sm.rf.tr hs_w_1 (by decide)).tr hs_w_5 (by decide)).tr hs_w_9 (by decide)), (In_lit (n := 0) (by decide) (by decide) : In 0 1 0)⟩
  · refine lv_iconst (v := 1) hx hb dX12_isFor_36 (by decide) ?_
    refine lv_goto (tgt := 41) hx hb dX12_isFor_37 (by decide) ?_
    exact hret _ _ _ _ _ _ hP hD hS dX12_isFor_41 (In_lit (n := 1) (by decide) (by decide) : In 0 1 1) ⟨hW_w_9, (((Sm.rf.tr hs_w_1 (by decide)).tr hs_w_5 (by decide)).tr hs_w_9 (by decide)), (In_lit (n := 1) (by decide) (by decide) : In 0 1 1)⟩
set_option maxRecDepth 100000 in
set_option maxHeartbeats 8000000 in
theorem k_X12_due (l : Launch) (D : va_G) (cI cJ cZ : ClassId) (q : Nat → Nat) (w : va_W) (hW_w : HT q (TM q cI cJ cZ) w) (p1 : Int32) (i_p1 : In 0 39 p1) (hf_0_45 : In 1 40 (fI w 0 45)) (hRV : RV w) : Con_i l yX12_due cX12_due 5 (some .int) ({ frames := 4, cells := 0, slots := 0, locals := 98 }) D cI cJ cZ eW [.ref (q 0), .int p1] w (fun (r : Int32) (w1 : va_W) => HT q (TM q cI cJ cZ) w1 ∧ Sm [37] [] w w1 ∧ (0 ≤ r.toInt)) := by
  refine eQ_i rfl (by decide) (Nat.le_of_ble_eq_true rfl) ⟨rfl, rfl⟩ ?_
  intro p e R s m args below meth c A Q hx hb hml hown hts hK hE hA hR hret hP hD hS ls hl
  have hown : s.vm.findClass RX12 = some m.cls := hown
  have hl : lv_has ls 5 [(0, .ref (q 0)), (1, .int p1)] := hl
  have J5 : ∀ (N : Nat) (x5_2 : Int64) (x5_4 : Int32) (w5 : va_W) (H : Heap) (locs : List Loc) (ls : Array Slot), (24 - x5_4.toInt).toNat < N → HT q (TM q cI cJ cZ) w5 → Sm [37] [] w w5 → (In 0 39 p1) → (In 0 24 x5_4) → (In 1 40 (fI w5 0 45)) → va_P D vwCl w5 H → va_D A w5 → va_S A s.heap H locs → lv_has ls 5 [(0, .ref (q 0)), (1, .int p1), (2, .long x5_2), (4, .int x5_4)] → W p l e R s m args below meth c H locs 0 0 Q (F0 m 5 ls []) := by
    intro N
    induction N with
    | zero => intro x5_2 x5_4 w5 H locs ls hmu; exact absurd hmu (Nat.not_lt_zero _)
    | succ N ih5 =>
      intro x5_2 x5_4 w5 H locs ls hmu5 hW_w5 hM_w5 i_x5_1 i_x5_4 g5_0_45 hP hD hS hl
      have J80 : ∀ (y80_0 : Int64) (w80 : va_W) (H : Heap) (locs : List Loc) (ls : Array Slot), HT q (TM q cI cJ cZ) w80 → Sm [37] [] w w80 → (In 0 39 p1) → (In 0 23 x5_4) → (In 1 40 (fI w80 0 45)) → va_P D vwCl w80 H → va_D A w80 → va_S A s.heap H locs → lv_has ls 5 [(0, .ref (q 0)), (1, .int p1), (2, .long x5_2), (4, .int x5_4)] → W p l e R s m args below meth c H locs 0 0 Q (F0 m 80 ls [.long y80_0]) := by
        intro y80_0 w80 H locs ls hW_w80 hM_w80 i_x80_1 i_x80_4 g80_0_45 hP hD hS hl
        refine lv_lstore_n (lv' := [(2, .long y80_0), (0, .ref (q 0)), (1, .int p1), (4, .int x5_4)]) hx hb dX12_due_80 rfl hl (by decide) rfl (fun ls hl => ?_)
        refine lv_iinc (v := (x5_4 + 1)) (lv' := [(4, .int (x5_4 + 1)), (2, .long y80_0), (0, .ref (q 0)), (1, .int p1)]) hx hb dX12_due_81 hl (k := 3) rfl (rfl) (by decide) rfl (fun ls hl => ?_)
        refine lv_goto (tgt := 5) hx hb dX12_due_84 (by decide) ?_
        exact ih5 y80_0 (x5_4 + 1) w80 _ _ ls (mu_inc hmu5 i_x80_4 (In_lit (n := 1) (by decide) (by decide) : In 1 1 1) (by decide)) hW_w80 hM_w80 i_p1 (In_w ((In_add (y := 1) i_x80_4 (In_lit (n := 1) (by decide) (by decide) : In 1 1 1) (by decide)) : In 1 24 (x5_4 + 1)) (by decide) : In 0 24 (x5_4 + 1)) (In_of (hM_w80.gI (by decide)) (In_of (hM_w80.gI (by decide)).symm g80_0_45)) hP hD hS (lv_sub hl [2, 3, 1, 0] rfl)
      have J79 : ∀ (w79 : va_W) (H : Heap) (locs : List Loc) (ls : Array Slot), HT q (TM q cI cJ cZ) w79 → Sm [37] [] w w79 → (In 0 39 p1) → (In 0 23 x5_4) → (In 1 40 (fI w79 0 45)) → va_P D vwCl w79 H → va_D A w79 → va_S A s.heap H locs → lv_has ls 5 [(0, .ref (q 0)), (1, .int p1), (2, .long x5_2), (4, .int x5_4)] → W p l e R s m args below meth c H locs 0 0 Q (F0 m 79 ls []) := by
        intro w79 H locs ls hW_w79 hM_w79 i_x79_1 i_x79_4 g79_0_45 hP hD hS hl
        refine lv_lload_n hx hb dX12_due_79 rfl (lv_at hl 2 rfl) ?_
        exact J80 x5_2 w79 _ _ ls hW_w79 hM_w79 i_p1 i_x79_4 (In_of (hM_w79.gI (by decide)) (In_of (hM_w79.gI (by decide)).symm g79_0_45)) hP hD hS (lv_sub hl [0, 1, 2, 3] rfl)
      refine lv_iload hx hb dX12_due_5 (lv_at hl 3 rfl) ?_
      refine lv_aload_n hx hb dX12_due_7 rfl (lv_at hl 0 rfl) ?_
      refine gt_X12 hx hb hts hown hK hP 0 (hW_w5.o tM_0) 16 (by decide) wd_1417 rfl (hW_w5.fr tM_0 rfl) dX12_due_8 ?_
      refine lv_aload_n hx hb dX12_due_11 rfl (lv_at hl 0 rfl) ?_
      refine gt_X12 hx hb hts hown hK hP 0 (hW_w5.o tM_0) 12 (by decide) wd_1413 rfl (hW_w5.fi tM_0 rfl) dX12_due_12 ?_
      refine tov (v := (fI w 0 12)) (hM_w5.gI (by decide)) ?_
      refine va_iald hx hb hK hP 4 0 (hW_w5.a tM_4) rfl (in_I (hW_w.fin tM_0 rfl : In 0 1 (fI w 0 12)) (by decide)) dX12_due_15 ?_
      refine lv_topi (fun v_1 ev_1 => ?_)
      refine lv_icmp_ge (tgt := 87) hx hb dX12_due_16 (by decide) (fun c_2 => ?_) (fun c_2 => ?_)
      · have lb_c_2 : (v_1 : Int32).toInt ≤ (x5_4 : Int32).toInt := q_le.mp c_2
        refine lv_lload_n hx hb dX12_due_87 rfl (lv_at hl 2 rfl) ?_
        refine lv_lconst (v := 0) hx hb dX12_due_88 (by decide) ?_
        refine W.lcmp hx hb dX12_due_89 ?_
        refine lv_topi (fun v_3 ev_3 => ?_)
        refine lv_if_ge (tgt := 97) hx hb dX12_due_90 (by decide) (fun c_4 => ?_) (fun c_4 => ?_)
        · refine lv_lload_n hx hb dX12_due_97 rfl (lv_at hl 2 rfl) ?_
          refine lv_ldc2 hx hb hown (hts _ wd_1953) dX12_due_98 ?_
          refine W.lcmp hx hb dX12_due_101 ?_
          refine lv_topi (fun v_5 ev_5 => ?_)
          refine lv_if_le (tgt := 109) hx hb dX12_due_102 (by decide) (fun c_6 => ?_) (fun c_6 => ?_)
          · refine lv_lload_n hx hb dX12_due_109 rfl (lv_at hl 2 rfl) ?_
            refine lv_l2i hx hb dX12_due_110 rfl ?_
            refine lv_topi (fun v_7 ev_7 => ?_)
            exact hret _ _ _ _ _ _ hP hD hS dX12_due_111 ⟨hW_w5, hM_w5, (l2i_nn ev_7 ev_3 (R_le_r (In_lit (n := 0) (by decide) (by decide) : In 0 0 0) (In_any v_3) c_4 (by decide) : In 0 2147483647 v_3) ev_5 (R_le_l (In_any v_5) (In_lit (n := 0) (by decide) (by decide) : In 0 0 0) c_6 (by decide) : In (-2147483648) 0 v_5))⟩
          · refine lv_iconst (v := 3) hx hb dX12_due_105 (by decide) ?_
            refine lv_goto (tgt := 111) hx hb dX12_due_106 (by decide) ?_
            exact hret _ _ _ _ _ _ hP hD hS dX12_due_111 ⟨hW_w5, hM_w5, (by decide)⟩
        · refine lv_iconst (v := 0) hx hb dX12_due_93 (by decide) ?_
          refine lv_goto (tgt := 111) hx hb dX12_due_94 (by decide) ?_
          exact hret _ _ _ _ _ _ hP hD hS dX12_due_111 ⟨hW_w5, hM_w5, (by decide)⟩
      · have lb_c_2 : ¬ (v_1 : Int32).toInt ≤ (x5_4 : Int32).toInt := fun h => c_2 (q_le.mpr h)
        refine lv_aload_n hx hb dX12_due_19 rfl (lv_at hl 0 rfl) ?_
        refine gt_X12 hx hb hts hown hK hP 0 (hW_w5.o tM_0) 24 (by decide) wd_1425 rfl (hW_w5.fr tM_0 rfl) dX12_due_20 ?_
        refine lv_aload_n hx hb dX12_due_23 rfl (lv_at hl 0 rfl) ?_
        refine lv_iload hx hb dX12_due_24 (lv_at hl 3 rfl) ?_
        refine kW_i ⟨rfl, rfl⟩ hP hD hS hA (rW_V (As := [.int x5_4]) (rest := [.ref (q 12)]) hx hb hml hown hts hK hE hP hD (k_X12_row l D cI cJ cZ q w5 hW_w5 x5_4 (R_nle_r (In_of ev_1 (hW_w5.ap tM_4 _) : In 0 24 v_1) i_x5_4 c_2 (by decide) : In 0 23 x5_4) (In_of (hM_w5.gI (by decide)) (In_of (hM_w5.gI (by decide)).symm g5_0_45)) _) ⟨⟨rfl, rfl⟩, rfl, rfl⟩ sv_X12_493 ⟨(Nat.le_trans (by decide) hR.1), (Nat.le_trans (by decide) hR.2)⟩ 0 12 (hW_w5.o tM_0) rfl rfl rfl hl.1 rfl (Nat.le_of_ble_eq_true rfl) dX12_due_26) (fun r_9 w_8 H locs hw_w_8 hP hD hS => ?_)
        obtain ⟨hW_w_8, hs_w_8, i_r_9, h_10⟩ := hw_w_8
        have o_h_10 : (r_9 : Int32).toInt = 168 * ((fI w 0 12) : Int32).toInt + 7 * (x5_4 : Int32).toInt := (by have e : (fI w5 0 12).toInt = ((fI w 0 12) : Int32).toInt := congrArg Int32.toInt (hM_w5.gI (by decide)); have q := h_10; omega)
        refine va_iald hx hb hK hP 12 0 (hW_w_8.a tM_12) rfl (in_I i_r_9 (by decide)) dX12_due_29 ?_
        refine lv_topi (fun v_11 ev_11 => ?_)
        refine lv_iconst (v := 2) hx hb dX12_due_30 (by decide) ?_
        refine lv_icmp_ne (tgt := 79) hx hb dX12_due_31 (by decide) (fun c_12 => ?_) (fun c_12 => ?_)
        · exact J79 w_8 _ _ ls hW_w_8 (hM_w5.tr hs_w_8 (by decide)) i_p1 (R_nle_r (In_of ev_1 (hW_w5.ap tM_4 _) : In 0 24 v_1) i_x5_4 c_2 (by decide) : In 0 23 x5_4) (In_of ((hs_w_8.gI (by decide)).trans (hM_w5.gI (by decide))) (In_of (hM_w5.gI (by decide)).symm g5_0_45)) hP hD hS (lv_sub hl [0, 1, 2, 3] rfl)
        · refine lv_aload_n hx hb dX12_due_34 rfl (lv_at hl 0 rfl) ?_
          refine lv_iload hx hb dX12_due_35 (lv_at hl 3 rfl) ?_
          refine lv_iload_n hx hb dX12_due_37 rfl (lv_at hl 1 rfl) ?_
          refine kW_i ⟨rfl, rfl⟩ hP hD hS hA (rW_V (As := [.int x5_4, .int p1]) (rest := []) hx hb hml hown hts hK hE hP hD (k_X12_isFor l D cI cJ cZ q w_8 hW_w_8 x5_4 p1 (R_nle_r (In_of ev_1 (hW_w5.ap tM_4 _) : In 0 24 v_1) i_x5_4 c_2 (by decide) : In 0 23 x5_4) i_p1 (In_of ((hs_w_8.gI (by decide)).trans (hM_w5.gI (by decide))) (In_of (hM_w5.gI (by decide)).symm g5_0_45)) (RV_cg ((hs_w_8.hA (by decide)).trans (hM_w5.hA (by decide))) ((hs_w_8.hA (by decide)).trans (hM_w5.hA (by decide))) ((hs_w_8.hA (by decide)).trans (hM_w5.hA (by decide))) ((hs_w_8.gI (by decide)).trans (hM_w5.gI (by decide))) hRV) ((by have e : (aF w 4 (fI w 0 12).toNatClampNeg).toInt = (v_1 : Int32).toInt := congrArg Int32.toInt ((congrFun (hM_w5.hA (by decide)) _).symm.trans ev_1.symm); rw [show aF w_8 4 = aF w 4 from ((hs_w_8.hA (by decide)).trans (hM_w5.hA (by decide))), show fI w_8 0 12 = fI w 0 12 from ((hs_w_8.gI (by decide)).trans (hM_w5.gI (by decide)))]; omega)) _) ⟨⟨rfl, rfl⟩, rfl, rfl⟩ sv_X12_500 ⟨(Nat.le_trans (by decide) hR.1), (Nat.le_trans (by decide) hR.2)⟩ 0 12 (hW_w_8.o tM_0) rfl rfl rfl hl.1 rfl (Nat.le_of_ble_eq_true rfl) dX12_due_38) (fun r_14 w_13 H locs hw_w_13 hP hD hS => ?_)
          obtain ⟨hW_w_13, hs_w_13, i_r_14⟩ := hw_w_13
          refine lv_if_eq (tgt := 79) hx hb dX12_due_41 (by decide) (fun c_15 => ?_) (fun c_15 => ?_)
          · exact J79 w_13 _ _ ls hW_w_13 ((hM_w5.tr hs_w_8 (by decide)).tr hs_w_13 (by decide)) i_p1 (R_nle_r (In_of ev_1 (hW_w5.ap tM_4 _) : In 0 24 v_1) i_x5_4 c_2 (by decide) : In 0 23 x5_4) (In_of ((hs_w_13.gI (by decide)).trans ((hs_w_8.gI (by decide)).trans (hM_w5.gI (by decide)))) (In_of (hM_w5.gI (by decide)).symm g5_0_45)) hP hD hS (lv_sub hl [0, 1, 2, 3] rfl)
          · refine lv_aload_n hx hb dX12_due_44 rfl (lv_at hl 0 rfl) ?_
            refine lv_aload_n hx hb dX12_due_45 rfl (lv_at hl 0 rfl) ?_
            refine gt_X12 hx hb hts hown hK hP 0 (hW_w_13.o tM_0) 24 (by decide) wd_1425 rfl (hW_w_13.fr tM_0 rfl) dX12_due_46 ?_
            refine lv_aload_n hx hb dX12_due_49 rfl (lv_at hl 0 rfl) ?_
            refine lv_iload hx hb dX12_due_50 (lv_at hl 3 rfl) ?_
            refine kW_i ⟨rfl, rfl⟩ hP hD hS hA (rW_V (As := [.int x5_4]) (rest := [.ref (q 12), .ref (q 0)]) hx hb hml hown hts hK hE hP hD (k_X12_row l D cI cJ cZ q w_13 hW_w_13 x5_4 (R_nle_r (In_of ev_1 (hW_w5.ap tM_4 _) : In 0 24 v_1) i_x5_4 c_2 (by decide) : In 0 23 x5_4) (In_of ((hs_w_13.gI (by decide)).trans ((hs_w_8.gI (by decide)).trans (hM_w5.gI (by decide)))) (In_of (hM_w5.gI (by decide)).symm g5_0_45)) _) ⟨⟨rfl, rfl⟩, rfl, rfl⟩ sv_X12_493 ⟨(Nat.le_trans (by decide) hR.1), (Nat.le_trans (by decide) hR.2)⟩ 0 12 (hW_w_13.o tM_0) rfl rfl rfl hl.1 rfl (Nat.le_of_ble_eq_true rfl) dX12_due_52) (fun r_17 w_16 H locs hw_w_16 hP hD hS => ?_)
            obtain ⟨hW_w_16, hs_w_16, i_r_17, h_18⟩ := hw_w_16
            have o_h_18 : (r_17 : Int32).toInt = 168 * ((fI w 0 12) : Int32).toInt + 7 * (x5_4 : Int32).toInt := (by have e : (fI w_13 0 12).toInt = ((fI w 0 12) : Int32).toInt := congrArg Int32.toInt ((hs_w_13.gI (by decide)).trans ((hs_w_8.gI (by decide)).trans (hM_w5.gI (by decide)))); have q := h_18; omega)
            refine lv_iconst (v := 1) hx hb dX12_due_55 (by decide) ?_
            refine lv_iadd hx hb dX12_due_56 ?_
            refine va_iald hx hb hK hP 12 0 (hW_w_16.a tM_12) rfl (in_I ((In_add i_r_17 (In_lit (n := 1) (by decide) (by decide) : In 1 1 1) (by decide)) : In 1 330 (r_17 + 1)) (by decide)) dX12_due_57 ?_
            refine lv_topi (fun v_19 ev_19 => ?_)
            refine lv_aload_n hx hb dX12_due_58 rfl (lv_at hl 0 rfl) ?_
            refine gt_X12 hx hb hts hown hK hP 0 (hW_w_16.o tM_0) 24 (by decide) wd_1425 rfl (hW_w_16.fr tM_0 rfl) dX12_due_59 ?_
            refine lv_aload_n hx hb dX12_due_62 rfl (lv_at hl 0 rfl) ?_
            refine lv_iload hx hb dX12_due_63 (lv_at hl 3 rfl) ?_
            refine kW_i ⟨rfl, rfl⟩ hP hD hS hA (rW_V (As := [.int x5_4]) (rest := [.ref (q 12), .int v_19, .ref (q 0)]) hx hb hml hown hts hK hE hP hD (k_X12_row l D cI cJ cZ q w_16 hW_w_16 x5_4 (R_nle_r (In_of ev_1 (hW_w5.ap tM_4 _) : In 0 24 v_1) i_x5_4 c_2 (by decide) : In 0 23 x5_4) (In_of ((hs_w_16.gI (by decide)).trans ((hs_w_13.gI (by decide)).trans ((hs_w_8.gI (by decide)).trans (hM_w5.gI (by decide))))) (In_of (hM_w5.gI (by decide)).symm g5_0_45)) _) ⟨⟨rfl, rfl⟩, rfl, rfl⟩ sv_X12_493 ⟨(Nat.le_trans (by decide) hR.1), (Nat.le_trans (by decide) hR.2)⟩ 0 12 (hW_w_16.o tM_0) rfl rfl rfl hl.1 rfl (Nat.le_of_ble_eq_true rfl) dX12_due_65) (fun r_21 w_20 H locs hw_w_20 hP hD hS => ?_)
            obtain ⟨hW_w_20, hs_w_20, i_r_21, h_22⟩ := hw_w_20
            have o_h_22 : (r_21 : Int32).toInt = 168 * ((fI w 0 12) : Int32).toInt + 7 * (x5_4 : Int32).toInt := (by have e : (fI w_16 0 12).toInt = ((fI w 0 12) : Int32).toInt := congrArg Int32.toInt ((hs_w_16.gI (by decide)).trans ((hs_w_13.gI (by decide)).trans ((hs_w_8.gI (by decide)).trans (hM_w5.gI (by decide))))); have q := h_22; omega)
            refine lv_iconst (v := 2) hx hb dX12_due_68 (by decide) ?_
            refine lv_iadd hx hb dX12_due_69 ?_
            refine va_iald hx hb hK hP 12 0 (hW_w_20.a tM_12) rfl (in_I ((In_add i_r_21 (In_lit (n := 2) (by decide) (by decide) : In 2 2 2) (by decide)) : In 2 331 (r_21 + 2)) (by decide)) dX12_due_70 ?_
            refine lv_topi (fun v_23 ev_23 => ?_)
            refine lv_iload_n hx hb dX12_due_71 rfl (lv_at hl 1 rfl) ?_
            refine lv_iconst (v := 0) hx hb dX12_due_72 (by decide) ?_
            refine kW_l ⟨rfl, rfl⟩ hP hD hS hA (rW_V (As := [.int v_19, .int v_23, .int p1, .int 0]) (rest := []) hx hb hml hown hts hK hE hP hD (k_X12_works l D cI cJ cZ q w_20 hW_w_20 v_19 v_23 p1 0 (In_of ev_19 (hW_w_16.ap tM_12 _) : In 0 1100 v_19) (In_of ev_23 (hW_w_20.ap tM_12 _) : In 0 1100 v_23) i_p1 (In_lit (n := 0) (by decide) (by decide) : In 0 9 0) (In_of ((hs_w_20.gI (by decide)).trans ((hs_w_16.gI (by decide)).trans ((hs_w_13.gI (by decide)).trans ((hs_w_8.gI (by decide)).trans (hM_w5.gI (by decide)))))) (In_of (hM_w5.gI (by decide)).symm g5_0_45)) ((by rw [show fI w_20 0 12 = fI w 0 12 from ((hs_w_20.gI (by decide)).trans ((hs_w_16.gI (by decide)).trans ((hs_w_13.gI (by decide)).trans ((hs_w_8.gI (by decide)).trans (hM_w5.gI (by decide))))))]; exact (HV_cg ((hs_w_20.hA (by decide)).trans ((hs_w_16.hA (by decide)).trans ((hs_w_13.hA (by decide)).trans ((hs_w_8.hA (by decide)).trans (hM_w5.hA (by decide)))))) (RV_at (k := 0) (o := r_17) (i := (r_17 + 1)) (j := (r_21 + 2)) hRV (R_nle_r (In_of ev_1 (hW_w5.ap tM_4 _) : In 0 24 v_1) i_x5_4 c_2 (by decide) : In 0 23 x5_4) (by have e : (aF w 4 (fI w 0 12).toNatClampNeg).toInt = (v_1 : Int32).toInt := congrArg Int32.toInt ((congrFun (hM_w5.hA (by decide)) _).symm.trans ev_1.symm); omega) o_h_18 (hW_w.fin tM_0 rfl : In 0 1 (fI w 0 12)) (by decide) (by have t10 := t_add i_r_17 (In_lit (n := 1) (by decide) (by decide) : In 1 1 1) (by decide); have z1 : (1 : Int32).toInt = 1 := (by decide); have r1 := o_h_18; have r2 := o_h_22; omega) (by have t10 := t_add i_r_21 (In_lit (n := 2) (by decide) (by decide) : In 2 2 2) (by decide); have z2 : (2 : Int32).toInt = 2 := (by decide); have r1 := o_h_18; have r2 := o_h_22; omega) (ev_19.trans (congrFun ((hs_w_16.hA (by decide)).trans ((hs_w_13.hA (by decide)).trans ((hs_w_8.hA (by decide)).trans (hM_w5.hA (by decide))))) _)) (ev_23.trans (congrFun ((hs_w_20.hA (by decide)).trans ((hs_w_16.hA (by decide)).trans ((hs_w_13.hA (by decide)).trans ((hs_w_8.hA (by decide)).trans (hM_w5.hA (by decide)))))) _)))))) _) ⟨⟨rfl, rfl⟩, rfl, rfl⟩ sv_X12_496 ⟨(Nat.le_trans (by decide) hR.1), (Nat.le_trans (by decide) hR.2)⟩ 0 12 (hW_w_20.o tM_0) rfl rfl rfl hl.1 rfl (Nat.le_of_ble_eq_true rfl) dX12_due_73) (fun r_25 w_24 H locs hw_w_24 hP hD hS => ?_)
            obtain ⟨hW_w_24, hs_w_24⟩ := hw_w_24
            refine lv_goto (tgt := 80) hx hb dX12_due_76 (by decide) ?_
            exact J80 r_25 w_24 _ _ ls hW_w_24 (((((hM_w5.tr hs_w_8 (by decide)).tr hs_w_13 (by decide)).tr hs_w_16 (by decide)).tr hs_w_20 (by decide)).tr hs_w_24 (by decide)) i_p1 (R_nle_r (In_of ev_1 (hW_w5.ap tM_4 _) : In 0 24 v_1) i_x5_4 c_2 (by decide) : In 0 23 x5_4) (In_of ((hs_w_24.gI (by decide)).trans ((hs_w_20.gI (by decide)).trans ((hs_w_16.gI (by decide)).trans ((hs_w_13.gI (by decide)).trans ((hs_w_8.gI (by decide)).trans (hM_w5.gI (by decide))))))) (In_of (hM_w5.gI (by decide)).symm g5_0_45)) hP hD hS (lv_sub hl [0, 1, 2, 3] rfl)
  refine lv_lconst (v := 1) hx hb dX12_due_0 (by decide) ?_
  refine lv_lstore_n (lv' := [(2, .long 1), (0, .ref (q 0)), (1, .int p1)]) hx hb dX12_due_1 rfl hl (by decide) rfl (fun ls hl => ?_)
  refine lv_iconst (v := 0) hx hb dX12_due_2 (by decide) ?_
  refine lv_istore (lv' := [(4, .int 0), (2, .long 1), (0, .ref (q 0)), (1, .int p1)]) hx hb dX12_due_3 hl (by decide) rfl (fun ls hl => ?_)
  exact J5 _ 1 0 w _ _ ls (Nat.lt_succ_self _) hW_w Sm.rf i_p1 (In_lit (n := 0) (by decide) (by decide) : In 0 24 0) hf_0_45 hP hD hS (lv_sub hl [2, 3, 1, 0] rfl)
set_option maxRecDepth 100000 in
set_option maxHeartbeats 8000000 in
theorem k_X12_of (l : Launch) (D : va_G) (cI cJ cZ : ClassId) (q : Nat → Nat) (w : va_W) (hW_w : HT q (TM q cI cJ cZ) w) (p1 : Int32) (p2 : Int32) (hLM : LM w) (hRV : RV w) : Con_i l yX12_of cX12_of 3 (some .int) ({ frames := 5, cells := 0, slots := 0, locals := 122 }) D cI cJ cZ eW [.ref (q 0), .int p1, .int p2] w (fun (r : Int32) (w1 : va_W) => HT q (TM q cI cJ cZ) w1 ∧ Sm [0, 26, 27, 28, 29, 30, 31, 32, 33, 34, 35, 36, 37] [(0, 45)] w w1) := by
  refine eQ_i rfl (by decide) (Nat.le_of_ble_eq_true rfl) ⟨rfl, rfl⟩ ?_
  intro p e R s m args below meth c A Q hx hb hml hown hts hK hE hA hR hret hP hD hS ls hl
  have hown : s.vm.findClass RX12 = some m.cls := hown
  have hl : lv_has ls 3 [(0, .ref (q 0)), (1, .int p1), (2, .int p2)] := hl
  refine lv_aload_n hx hb dX12_of_0 rfl (lv_at hl 0 rfl) ?_
  refine kW_v ⟨rfl, rfl⟩ hP hD hS hA (rW_V (As := []) (rest := []) hx hb hml hown hts hK hE hP hD (k_X12_knows l D cI cJ cZ q w hW_w (LM_cg rfl rfl hLM) _) ⟨⟨rfl, rfl⟩, rfl, rfl⟩ sv_X12_471 ⟨(Nat.le_trans (by decide) hR.1), (Nat.le_trans (by decide) hR.2)⟩ 0 12 (hW_w.o tM_0) rfl rfl rfl hl.1 rfl (Nat.le_of_ble_eq_true rfl) dX12_of_1) (fun w_1 H locs hw_w_1 hP hD hS => ?_)
  obtain ⟨hW_w_1, hs_w_1, h_3⟩ := hw_w_1
  refine lv_aload_n hx hb dX12_of_4 rfl (lv_at hl 0 rfl) ?_
  refine lv_iload_n hx hb dX12_of_5 rfl (lv_at hl 1 rfl) ?_
  refine kW_i ⟨rfl, rfl⟩ hP hD hS hA (rW_V (As := [.int p1]) (rest := []) hx hb hml hown hts hK hE hP hD (k_X12_isChild l D cI cJ cZ q w_1 hW_w_1 p1 _) ⟨⟨rfl, rfl⟩, rfl, rfl⟩ sv_X12_512 ⟨(Nat.le_trans (by decide) hR.1), (Nat.le_trans (by decide) hR.2)⟩ 0 12 (hW_w_1.o tM_0) rfl rfl rfl hl.1 rfl (Nat.le_of_ble_eq_true rfl) dX12_of_6) (fun r_5 w_4 H locs hw_w_4 hP hD hS => ?_)
  obtain ⟨hW_w_4, hs_w_4, i_r_5, h_6⟩ := hw_w_4
  refine lv_if_ne (tgt := 14) hx hb dX12_of_9 (by decide) (fun c_7 => ?_) (fun c_7 => ?_)
  · refine lv_iload_n hx hb dX12_of_14 rfl (lv_at hl 2 rfl) ?_
    by_cases c_8 : p2 = 0
    · have c_8t : (p2 : Int32).toInt = 0 := by rw [c_8]; rfl
      refine lv_tableIn (tgt := 68) hx hb dX12_of_15 (by rw [c_8t]; decide) (by rw [c_8t]; decide) (off := 53) (by rw [c_8t]; rfl) (by decide) ?_
      refine lv_aload_n hx hb dX12_of_68 rfl (lv_at hl 0 rfl) ?_
      refine gt_X12 hx hb hts hown hK hP 0 (hW_w_4.o tM_0) 46 (by decide) wd_1447 rfl (hW_w_4.fr tM_0 rfl) dX12_of_69 ?_
      refine lv_iload_n hx hb dX12_of_72 rfl (lv_at hl 1 rfl) ?_
      refine va_iald hx hb hK hP 26 0 (hW_w_4.a tM_26) rfl (in_I (h_6 c_7).2 (by decide)) dX12_of_73 ?_
      refine lv_topi (fun v_9 ev_9 => ?_)
      exact hret _ _ _ _ _ _ hP hD hS dX12_of_74 ⟨hW_w_4, ((Sm.rf.tr hs_w_1 (by decide)).tr hs_w_4 (by decide))⟩
    by_cases c_10 : p2 = 1
    · have c_10t : (p2 : Int32).toInt = 1 := by rw [c_10]; rfl
      refine lv_tableIn (tgt := 75) hx hb dX12_of_15 (by rw [c_10t]; decide) (by rw [c_10t]; decide) (off := 60) (by rw [c_10t]; rfl) (by decide) ?_
      refine lv_aload_n hx hb dX12_of_75 rfl (lv_at hl 0 rfl) ?_
      refine gt_X12 hx hb hts hown hK hP 0 (hW_w_4.o tM_0) 47 (by decide) wd_1448 rfl (hW_w_4.fr tM_0 rfl) dX12_of_76 ?_
      refine lv_iload_n hx hb dX12_of_79 rfl (lv_at hl 1 rfl) ?_
      refine va_iald hx hb hK hP 27 0 (hW_w_4.a tM_27) rfl (in_I (h_6 c_7).2 (by decide)) dX12_of_80 ?_
      refine lv_topi (fun v_11 ev_11 => ?_)
      exact hret _ _ _ _ _ _ hP hD hS dX12_of_81 ⟨hW_w_4, ((Sm.rf.tr hs_w_1 (by decide)).tr hs_w_4 (by decide))⟩
    by_cases c_12 : p2 = 2
    · have c_12t : (p2 : Int32).toInt = 2 := by rw [c_12]; rfl
      refine lv_tableIn (tgt := 82) hx hb dX12_of_15 (by rw [c_12t]; decide) (by rw [c_12t]; decide) (off := 67) (by rw [c_12t]; rfl) (by decide) ?_
      refine lv_aload_n hx hb dX12_of_82 rfl (lv_at hl 0 rfl) ?_
      refine gt_X12 hx hb hts hown hK hP 0 (hW_w_4.o tM_0) 49 (by decide) wd_1450 rfl (hW_w_4.fr tM_0 rfl) dX12_of_83 ?_
      refine lv_iload_n hx hb dX12_of_86 rfl (lv_at hl 1 rfl) ?_
      refine va_iald hx hb hK hP 29 0 (hW_w_4.a tM_29) rfl (in_I (h_6 c_7).2 (by decide)) dX12_of_87 ?_
      refine lv_topi (fun v_13 ev_13 => ?_)
      refine lv_aload_n hx hb dX12_of_88 rfl (lv_at hl 0 rfl) ?_
      refine gt_X12 hx hb hts hown hK hP 0 (hW_w_4.o tM_0) 48 (by decide) wd_1449 rfl (hW_w_4.fr tM_0 rfl) dX12_of_89 ?_
      refine lv_iload_n hx hb dX12_of_92 rfl (lv_at hl 1 rfl) ?_
      refine va_iald hx hb hK hP 28 0 (hW_w_4.a tM_28) rfl (in_I (h_6 c_7).2 (by decide)) dX12_of_93 ?_
      refine lv_topi (fun v_14 ev_14 => ?_)
      refine lv_isub hx hb dX12_of_94 ?_
      refine lv_topi (fun v_15 ev_15 => ?_)
      exact hret _ _ _ _ _ _ hP hD hS dX12_of_95 ⟨hW_w_4, ((Sm.rf.tr hs_w_1 (by decide)).tr hs_w_4 (by decide))⟩
    by_cases c_16 : p2 = 3
    · have c_16t : (p2 : Int32).toInt = 3 := by rw [c_16]; rfl
      refine lv_tableIn (tgt := 96) hx hb dX12_of_15 (by rw [c_16t]; decide) (by rw [c_16t]; decide) (off := 81) (by rw [c_16t]; rfl) (by decide) ?_
      refine lv_aload_n hx hb dX12_of_96 rfl (lv_at hl 0 rfl) ?_
      refine gt_X12 hx hb hts hown hK hP 0 (hW_w_4.o tM_0) 50 (by decide) wd_1451 rfl (hW_w_4.fr tM_0 rfl) dX12_of_97 ?_
      refine lv_iload_n hx hb dX12_of_100 rfl (lv_at hl 1 rfl) ?_
      refine va_iald hx hb hK hP 30 0 (hW_w_4.a tM_30) rfl (in_I (h_6 c_7).2 (by decide)) dX12_of_101 ?_
      refine lv_topi (fun v_17 ev_17 => ?_)
      exact hret _ _ _ _ _ _ hP hD hS dX12_of_102 ⟨hW_w_4, ((Sm.rf.tr hs_w_1 (by decide)).tr hs_w_4 (by decide))⟩
    by_cases c_18 : p2 = 4
    · have c_18t : (p2 : Int32).toInt = 4 := by rw [c_18]; rfl
      refine lv_tableIn (tgt := 103) hx hb dX12_of_15 (by rw [c_18t]; decide) (by rw [c_18t]; decide) (off := 88) (by rw [c_18t]; rfl) (by decide) ?_
      refine lv_aload_n hx hb dX12_of_103 rfl (lv_at hl 0 rfl) ?_
      refine gt_X12 hx hb hts hown hK hP 0 (hW_w_4.o tM_0) 51 (by decide) wd_1452 rfl (hW_w_4.fr tM_0 rfl) dX12_of_104 ?_
      refine lv_iload_n hx hb dX12_of_107 rfl (lv_at hl 1 rfl) ?_
      refine va_iald hx hb hK hP 31 0 (hW_w_4.a tM_31) rfl (in_I (h_6 c_7).2 (by decide)) dX12_of_108 ?_
      refine lv_topi (fun v_19 ev_19 => ?_)
      exact hret _ _ _ _ _ _ hP hD hS dX12_of_109 ⟨hW_w_4, ((Sm.rf.tr hs_w_1 (by decide)).tr hs_w_4 (by decide))⟩
    by_cases c_20 : p2 = 5
    · have c_20t : (p2 : Int32).toInt = 5 := by rw [c_20]; rfl
      refine lv_tableIn (tgt := 110) hx hb dX12_of_15 (by rw [c_20t]; decide) (by rw [c_20t]; decide) (off := 95) (by rw [c_20t]; rfl) (by decide) ?_
      refine lv_aload_n hx hb dX12_of_110 rfl (lv_at hl 0 rfl) ?_
      refine gt_X12 hx hb hts hown hK hP 0 (hW_w_4.o tM_0) 52 (by decide) wd_1453 rfl (hW_w_4.fr tM_0 rfl) dX12_of_111 ?_
      refine lv_iload_n hx hb dX12_of_114 rfl (lv_at hl 1 rfl) ?_
      refine va_iald hx hb hK hP 32 0 (hW_w_4.a tM_32) rfl (in_I (h_6 c_7).2 (by decide)) dX12_of_115 ?_
      refine lv_topi (fun v_21 ev_21 => ?_)
      exact hret _ _ _ _ _ _ hP hD hS dX12_of_116 ⟨hW_w_4, ((Sm.rf.tr hs_w_1 (by decide)).tr hs_w_4 (by decide))⟩
    by_cases c_22 : p2 = 6
    · have c_22t : (p2 : Int32).toInt = 6 := by rw [c_22]; rfl
      refine lv_tableIn (tgt := 117) hx hb dX12_of_15 (by rw [c_22t]; decide) (by rw [c_22t]; decide) (off := 102) (by rw [c_22t]; rfl) (by decide) ?_
      refine lv_aload_n hx hb dX12_of_117 rfl (lv_at hl 0 rfl) ?_
      refine gt_X12 hx hb hts hown hK hP 0 (hW_w_4.o tM_0) 53 (by decide) wd_1454 rfl (hW_w_4.fr tM_0 rfl) dX12_of_118 ?_
      refine lv_iload_n hx hb dX12_of_121 rfl (lv_at hl 1 rfl) ?_
      refine va_iald hx hb hK hP 33 0 (hW_w_4.a tM_33) rfl (in_I (h_6 c_7).2 (by decide)) dX12_of_122 ?_
      refine lv_topi (fun v_23 ev_23 => ?_)
      exact hret _ _ _ _ _ _ hP hD hS dX12_of_123 ⟨hW_w_4, ((Sm.rf.tr hs_w_1 (by decide)).tr hs_w_4 (by decide))⟩
    by_cases c_24 : p2 = 7
    · have c_24t : (p2 : Int32).toInt = 7 := by rw [c_24]; rfl
      refine lv_tableIn (tgt := 124) hx hb dX12_of_15 (by rw [c_24t]; decide) (by rw [c_24t]; decide) (off := 109) (by rw [c_24t]; rfl) (by decide) ?_
      refine lv_aload_n hx hb dX12_of_124 rfl (lv_at hl 0 rfl) ?_
      refine lv_iload_n hx hb dX12_of_125 rfl (lv_at hl 1 rfl) ?_
      refine kW_i ⟨rfl, rfl⟩ hP hD hS hA (rW_V (As := [.int p1]) (rest := []) hx hb hml hown hts hK hE hP hD (k_X12_inHouse l D cI cJ cZ q w_4 hW_w_4 p1 (h_6 c_7).2 (In_of (hs_w_4.gI (by decide)) (In_of (hs_w_4.gI (by decide)).symm (h_6 c_7).1)) _) ⟨⟨rfl, rfl⟩, rfl, rfl⟩ sv_X12_478 ⟨(Nat.le_trans (by decide) hR.1), (Nat.le_trans (by decide) hR.2)⟩ 0 12 (hW_w_4.o tM_0) rfl rfl rfl hl.1 rfl (Nat.le_of_ble_eq_true rfl) dX12_of_126) (fun r_26 w_25 H locs hw_w_25 hP hD hS => ?_)
      obtain ⟨hW_w_25, hs_w_25⟩ := hw_w_25
      exact hret _ _ _ _ _ _ hP hD hS dX12_of_129 ⟨hW_w_25, (((Sm.rf.tr hs_w_1 (by decide)).tr hs_w_4 (by decide)).tr hs_w_25 (by decide))⟩
    by_cases c_27 : p2 = 8
    · have c_27t : (p2 : Int32).toInt = 8 := by rw [c_27]; rfl
      refine lv_tableIn (tgt := 130) hx hb dX12_of_15 (by rw [c_27t]; decide) (by rw [c_27t]; decide) (off := 115) (by rw [c_27t]; rfl) (by decide) ?_
      refine lv_aload_n hx hb dX12_of_130 rfl (lv_at hl 0 rfl) ?_
      refine gt_X12 hx hb hts hown hK hP 0 (hW_w_4.o tM_0) 55 (by decide) wd_1456 rfl (hW_w_4.fr tM_0 rfl) dX12_of_131 ?_
      refine lv_iload_n hx hb dX12_of_134 rfl (lv_at hl 1 rfl) ?_
      refine va_iald hx hb hK hP 35 0 (hW_w_4.a tM_35) rfl (in_I (h_6 c_7).2 (by decide)) dX12_of_135 ?_
      refine lv_topi (fun v_28 ev_28 => ?_)
      exact hret _ _ _ _ _ _ hP hD hS dX12_of_136 ⟨hW_w_4, ((Sm.rf.tr hs_w_1 (by decide)).tr hs_w_4 (by decide))⟩
    by_cases c_29 : p2 = 9
    · have c_29t : (p2 : Int32).toInt = 9 := by rw [c_29]; rfl
      refine lv_tableIn (tgt := 137) hx hb dX12_of_15 (by rw [c_29t]; decide) (by rw [c_29t]; decide) (off := 122) (by rw [c_29t]; rfl) (by decide) ?_
      refine lv_aload_n hx hb dX12_of_137 rfl (lv_at hl 0 rfl) ?_
      refine lv_iload_n hx hb dX12_of_138 rfl (lv_at hl 1 rfl) ?_
      refine kW_i ⟨rfl, rfl⟩ hP hD hS hA (rW_V (As := [.int p1]) (rest := []) hx hb hml hown hts hK hE hP hD (k_X12_due l D cI cJ cZ q w_4 hW_w_4 p1 (h_6 c_7).2 (In_of (hs_w_4.gI (by decide)) (In_of (hs_w_4.gI (by decide)).symm (h_6 c_7).1)) (RV_cg ((hs_w_4.hA (by decide)).trans (hs_w_1.hA (by decide))) ((hs_w_4.hA (by decide)).trans (hs_w_1.hA (by decide))) ((hs_w_4.hA (by decide)).trans (hs_w_1.hA (by decide))) ((hs_w_4.gI (by decide)).trans (hs_w_1.2 0 12 (by decide) (by decide))) hRV) _) ⟨⟨rfl, rfl⟩, rfl, rfl⟩ sv_X12_515 ⟨(Nat.le_trans (by decide) hR.1), (Nat.le_trans (by decide) hR.2)⟩ 0 12 (hW_w_4.o tM_0) rfl rfl rfl hl.1 rfl (Nat.le_of_ble_eq_true rfl) dX12_of_139) (fun r_31 w_30 H locs hw_w_30 hP hD hS => ?_)
      obtain ⟨hW_w_30, hs_w_30, h_32⟩ := hw_w_30
      exact hret _ _ _ _ _ _ hP hD hS dX12_of_142 ⟨hW_w_30, (((Sm.rf.tr hs_w_1 (by decide)).tr hs_w_4 (by decide)).tr hs_w_30 (by decide))⟩
    refine lv_tableOut (tgt := 143) hx hb dX12_of_15 (by have h0 := lv_neT c_8 (a := 0) (by decide); have h1 := lv_neT c_10 (a := 1) (by decide); have h2 := lv_neT c_12 (a := 2) (by decide); have h3 := lv_neT c_16 (a := 3) (by decide); have h4 := lv_neT c_18 (a := 4) (by decide); have h5 := lv_neT c_20 (a := 5) (by decide); have h6 := lv_neT c_22 (a := 6) (by decide); have h7 := lv_neT c_24 (a := 7) (by decide); have h8 := lv_neT c_27 (a := 8) (by decide); have h9 := lv_neT c_29 (a := 9) (by decide); omega) (by decide) ?_
    refine lv_iconst (v := (-1)) hx hb dX12_of_143 (by decide) ?_
    exact hret _ _ _ _ _ _ hP hD hS dX12_of_144 ⟨hW_w_4, ((Sm.rf.tr hs_w_1 (by decide)).tr hs_w_4 (by decide))⟩
  · refine lv_iconst (v := (-1)) hx hb dX12_of_12 (by decide) ?_
    exact hret _ _ _ _ _ _ hP hD hS dX12_of_13 ⟨hW_w_4, ((Sm.rf.tr hs_w_1 (by decide)).tr hs_w_4 (by decide))⟩
set_option maxRecDepth 100000 in
set_option maxHeartbeats 8000000 in
theorem k_X12_isOf (l : Launch) (D : va_G) (cI cJ cZ : ClassId) (q : Nat → Nat) (w : va_W) (hW_w : HT q (TM q cI cJ cZ) w) (p1 : Int32) (p2 : Int32) (p3 : Int32) (i_p1 : In 0 23 p1) (i_p2 : In 0 39 p2) (i_p3 : In 0 9 p3) (hf_0_45 : In 1 40 (fI w 0 45)) (hRV : RV w) (hlt : p1.toInt < (aF w 4 (fI w 0 12).toNatClampNeg).toInt) : Con_i l yX12_isOf cX12_isOf 4 (some .boolean) ({ frames := 3, cells := 0, slots := 0, locals := 76 }) D cI cJ cZ eW [.ref (q 0), .int p1, .int p2, .int p3] w (fun (r : Int32) (w1 : va_W) => HT q (TM q cI cJ cZ) w1 ∧ Sm [37] [] w w1 ∧ In 0 1 r) := by
  refine eQ_z rfl (by decide) (Nat.le_of_ble_eq_true rfl) ⟨rfl, rfl⟩ ?_
  intro p e R s m args below meth c A Q hx hb hml hown hts hK hE hA hR hret hP hD hS ls hl
  have hown : s.vm.findClass RX12 = some m.cls := hown
  have hl : lv_has ls 4 [(0, .ref (q 0)), (1, .int p1), (2, .int p2), (3, .int p3)] := hl
  refine lv_aload_n hx hb dX12_isOf_0 rfl (lv_at hl 0 rfl) ?_
  refine lv_aload_n hx hb dX12_isOf_1 rfl (lv_at hl 0 rfl) ?_
  refine gt_X12 hx hb hts hown hK hP 0 (hW_w.o tM_0) 24 (by decide) wd_1425 rfl (hW_w.fr tM_0 rfl) dX12_isOf_2 ?_
  refine lv_aload_n hx hb dX12_isOf_5 rfl (lv_at hl 0 rfl) ?_
  refine lv_iload_n hx hb dX12_isOf_6 rfl (lv_at hl 1 rfl) ?_
  refine kW_i ⟨rfl, rfl⟩ hP hD hS hA (rW_V (As := [.int p1]) (rest := [.ref (q 12), .ref (q 0)]) hx hb hml hown hts hK hE hP hD (k_X12_row l D cI cJ cZ q w hW_w p1 i_p1 hf_0_45 _) ⟨⟨rfl, rfl⟩, rfl, rfl⟩ sv_X12_493 ⟨(Nat.le_trans (by decide) hR.1), (Nat.le_trans (by decide) hR.2)⟩ 0 12 (hW_w.o tM_0) rfl rfl rfl hl.1 rfl (Nat.le_of_ble_eq_true rfl) dX12_isOf_7) (fun r_2 w_1 H locs hw_w_1 hP hD hS => ?_)
  obtain ⟨hW_w_1, hs_w_1, i_r_2, h_3⟩ := hw_w_1
  have o_h_3 : (r_2 : Int32).toInt = 168 * ((fI w 0 12) : Int32).toInt + 7 * (p1 : Int32).toInt := (by have q := h_3; omega)
  refine lv_iconst (v := 3) hx hb dX12_isOf_10 (by decide) ?_
  refine lv_iadd hx hb dX12_isOf_11 ?_
  refine va_iald hx hb hK hP 12 0 (hW_w_1.a tM_12) rfl (in_I ((In_add i_r_2 (In_lit (n := 3) (by decide) (by decide) : In 3 3 3) (by decide)) : In 3 332 (r_2 + 3)) (by decide)) dX12_isOf_12 ?_
  refine lv_topi (fun v_4 ev_4 => ?_)
  refine lv_aload_n hx hb dX12_isOf_13 rfl (lv_at hl 0 rfl) ?_
  refine gt_X12 hx hb hts hown hK hP 0 (hW_w_1.o tM_0) 24 (by decide) wd_1425 rfl (hW_w_1.fr tM_0 rfl) dX12_isOf_14 ?_
  refine lv_aload_n hx hb dX12_isOf_17 rfl (lv_at hl 0 rfl) ?_
  refine lv_iload_n hx hb dX12_isOf_18 rfl (lv_at hl 1 rfl) ?_
  refine kW_i ⟨rfl, rfl⟩ hP hD hS hA (rW_V (As := [.int p1]) (rest := [.ref (q 12), .int v_4, .ref (q 0)]) hx hb hml hown hts hK hE hP hD (k_X12_row l D cI cJ cZ q w_1 hW_w_1 p1 i_p1 (In_of (hs_w_1.gI (by decide)) hf_0_45) _) ⟨⟨rfl, rfl⟩, rfl, rfl⟩ sv_X12_493 ⟨(Nat.le_trans (by decide) hR.1), (Nat.le_trans (by decide) hR.2)⟩ 0 12 (hW_w_1.o tM_0) rfl rfl rfl hl.1 rfl (Nat.le_of_ble_eq_true rfl) dX12_isOf_19) (fun r_6 w_5 H locs hw_w_5 hP hD hS => ?_)
  obtain ⟨hW_w_5, hs_w_5, i_r_6, h_7⟩ := hw_w_5
  have o_h_7 : (r_6 : Int32).toInt = 168 * ((fI w 0 12) : Int32).toInt + 7 * (p1 : Int32).toInt := (by have e : (fI w_1 0 12).toInt = ((fI w 0 12) : Int32).toInt := congrArg Int32.toInt (hs_w_1.gI (by decide)); have q := h_7; omega)
  refine lv_iconst (v := 4) hx hb dX12_isOf_22 (by decide) ?_
  refine lv_iadd hx hb dX12_isOf_23 ?_
  refine va_iald hx hb hK hP 12 0 (hW_w_5.a tM_12) rfl (in_I ((In_add i_r_6 (In_lit (n := 4) (by decide) (by decide) : In 4 4 4) (by decide)) : In 4 333 (r_6 + 4)) (by decide)) dX12_isOf_24 ?_
  refine lv_topi (fun v_8 ev_8 => ?_)
  refine lv_iload_n hx hb dX12_isOf_25 rfl (lv_at hl 2 rfl) ?_
  refine lv_iload_n hx hb dX12_isOf_26 rfl (lv_at hl 3 rfl) ?_
  refine kW_l ⟨rfl, rfl⟩ hP hD hS hA (rW_V (As := [.int v_4, .int v_8, .int p2, .int p3]) (rest := []) hx hb hml hown hts hK hE hP hD (k_X12_works l D cI cJ cZ q w_5 hW_w_5 v_4 v_8 p2 p3 (In_of ev_4 (hW_w_1.ap tM_12 _) : In 0 1100 v_4) (In_of ev_8 (hW_w_5.ap tM_12 _) : In 0 1100 v_8) i_p2 i_p3 (In_of ((hs_w_5.gI (by decide)).trans (hs_w_1.gI (by decide))) hf_0_45) ((by rw [show fI w_5 0 12 = fI w 0 12 from ((hs_w_5.gI (by decide)).trans (hs_w_1.gI (by decide)))]; exact (HV_cg ((hs_w_5.hA (by decide)).trans (hs_w_1.hA (by decide))) (RV_at (k := 2) (o := r_2) (i := (r_2 + 3)) (j := (r_6 + 4)) hRV i_p1 hlt o_h_3 (hW_w.fin tM_0 rfl : In 0 1 (fI w 0 12)) (by decide) (by have t9 := t_add i_r_2 (In_lit (n := 3) (by decide) (by decide) : In 3 3 3) (by decide); have z3 : (3 : Int32).toInt = 3 := (by decide); have r1 := o_h_3; have r2 := o_h_7; omega) (by have t9 := t_add i_r_6 (In_lit (n := 4) (by decide) (by decide) : In 4 4 4) (by decide); have z4 : (4 : Int32).toInt = 4 := (by decide); have r1 := o_h_3; have r2 := o_h_7; omega) (ev_4.trans (congrFun (hs_w_1.hA (by decide)) _)) (ev_8.trans (congrFun ((hs_w_5.hA (by decide)).trans (hs_w_1.hA (by decide))) _)))))) _) ⟨⟨rfl, rfl⟩, rfl, rfl⟩ sv_X12_496 ⟨(Nat.le_trans (by decide) hR.1), (Nat.le_trans (by decide) hR.2)⟩ 0 12 (hW_w_5.o tM_0) rfl rfl rfl hl.1 rfl (Nat.le_of_ble_eq_true rfl) dX12_isOf_27) (fun r_10 w_9 H locs hw_w_9 hP hD hS => ?_)
  obtain ⟨hW_w_9, hs_w_9⟩ := hw_w_9
  refine lv_lconst (v := 1) hx hb dX12_isOf_30 (by decide) ?_
  refine W.lcmp hx hb dX12_isOf_31 ?_
  refine lv_topi (fun v_11 ev_11 => ?_)
  refine lv_if_ne (tgt := 39) hx hb dX12_isOf_32 (by decide) (fun c_12 => ?_) (fun c_12 => ?_)
  · refine lv_iconst (v := 0) hx hb dX12_isOf_39 (by decide) ?_
    exact hret _ _ _ _ _ _ hP hD hS dX12_isOf_40 (In_lit (n := 0) (by decide) (by decide) : In 0 1 0) ⟨hW_w_9, (((Sm.rf.tr hs_w_1 (by decide)).tr hs_w_5 (by decide)).tr hs_w_9 (by decide)), (In_lit (n := 0) (by decide) (by decide) : In 0 1 0)⟩
  · refine lv_iconst (v := 1) hx hb dX12_isOf_35 (by decide) ?_
    refine lv_goto (tgt := 40) hx hb dX12_isOf_36 (by decide) ?_
    exact hret _ _ _ _ _ _ hP hD hS dX12_isOf_40 (In_lit (n := 1) (by decide) (by decide) : In 0 1 1) ⟨hW_w_9, (((Sm.rf.tr hs_w_1 (by decide)).tr hs_w_5 (by decide)).tr hs_w_9 (by decide)), (In_lit (n := 1) (by decide) (by decide) : In 0 1 1)⟩
set_option maxRecDepth 100000 in
set_option maxHeartbeats 8000000 in
theorem k_X12_mayGet (l : Launch) (D : va_G) (cI cJ cZ : ClassId) (q : Nat → Nat) (w : va_W) (hW_w : HT q (TM q cI cJ cZ) w) (p1 : Int32) (p2 : Int32) (i_p1 : In 0 39 p1) (i_p2 : In 0 9 p2) (hf_0_45 : In 1 40 (fI w 0 45)) (hRV : RV w) : Con_i l yX12_mayGet cX12_mayGet 4 (some .boolean) ({ frames := 4, cells := 0, slots := 0, locals := 99 }) D cI cJ cZ eW [.ref (q 0), .int p1, .int p2] w (fun (r : Int32) (w1 : va_W) => HT q (TM q cI cJ cZ) w1 ∧ Sm [37] [] w w1 ∧ In 0 1 r) := by
  refine eQ_z rfl (by decide) (Nat.le_of_ble_eq_true rfl) ⟨rfl, rfl⟩ ?_
  intro p e R s m args below meth c A Q hx hb hml hown hts hK hE hA hR hret hP hD hS ls hl
  have hown : s.vm.findClass RX12 = some m.cls := hown
  have hl : lv_has ls 4 [(0, .ref (q 0)), (1, .int p1), (2, .int p2)] := hl
  have J69 : ∀ (N : Nat) (x69_3 : Int32) (w69 : va_W) (H : Heap) (locs : List Loc) (ls : Array Slot), (24 - x69_3.toInt).toNat < N → HT q (TM q cI cJ cZ) w69 → Sm [37] [] w w69 → (In 0 39 p1) → (In 0 9 p2) → (In 0 24 x69_3) → (In 1 40 (fI w69 0 45)) → va_P D vwCl w69 H → va_D A w69 → va_S A s.heap H locs → lv_has ls 4 [(0, .ref (q 0)), (1, .int p1), (2, .int p2), (3, .int x69_3)] → W p l e R s m args below meth c H locs 0 0 Q (F0 m 69 ls []) := by
    intro N
    induction N with
    | zero => intro x69_3 w69 H locs ls hmu; exact absurd hmu (Nat.not_lt_zero _)
    | succ N ih69 =>
      intro x69_3 w69 H locs ls hmu69 hW_w69 hM_w69 i_x69_1 i_x69_2 i_x69_3 g69_0_45 hP hD hS hl
      have J116 : ∀ (w116 : va_W) (H : Heap) (locs : List Loc) (ls : Array Slot), HT q (TM q cI cJ cZ) w116 → Sm [37] [] w w116 → (In 0 39 p1) → (In 0 9 p2) → (In 0 23 x69_3) → (In 1 40 (fI w116 0 45)) → va_P D vwCl w116 H → va_D A w116 → va_S A s.heap H locs → lv_has ls 4 [(0, .ref (q 0)), (1, .int p1), (2, .int p2), (3, .int x69_3)] → W p l e R s m args below meth c H locs 0 0 Q (F0 m 116 ls []) := by
        intro w116 H locs ls hW_w116 hM_w116 i_x116_1 i_x116_2 i_x116_3 g116_0_45 hP hD hS hl
        refine lv_iinc (v := (x69_3 + 1)) (lv' := [(3, .int (x69_3 + 1)), (0, .ref (q 0)), (1, .int p1), (2, .int p2)]) hx hb dX12_mayGet_116 hl (k := 3) rfl (rfl) (by decide) rfl (fun ls hl => ?_)
        refine lv_goto (tgt := 69) hx hb dX12_mayGet_119 (by decide) ?_
        exact ih69 (x69_3 + 1) w116 _ _ ls (mu_inc hmu69 i_x116_3 (In_lit (n := 1) (by decide) (by decide) : In 1 1 1) (by decide)) hW_w116 hM_w116 i_p1 i_p2 (In_w ((In_add (y := 1) i_x116_3 (In_lit (n := 1) (by decide) (by decide) : In 1 1 1) (by decide)) : In 1 24 (x69_3 + 1)) (by decide) : In 0 24 (x69_3 + 1)) (In_of (hM_w116.gI (by decide)) (In_of (hM_w116.gI (by decide)).symm g116_0_45)) hP hD hS (lv_sub hl [1, 2, 3, 0] rfl)
      refine lv_iload_n hx hb dX12_mayGet_69 rfl (lv_at hl 3 rfl) ?_
      refine lv_aload_n hx hb dX12_mayGet_70 rfl (lv_at hl 0 rfl) ?_
      refine gt_X12 hx hb hts hown hK hP 0 (hW_w69.o tM_0) 16 (by decide) wd_1417 rfl (hW_w69.fr tM_0 rfl) dX12_mayGet_71 ?_
      refine lv_aload_n hx hb dX12_mayGet_74 rfl (lv_at hl 0 rfl) ?_
      refine gt_X12 hx hb hts hown hK hP 0 (hW_w69.o tM_0) 12 (by decide) wd_1413 rfl (hW_w69.fi tM_0 rfl) dX12_mayGet_75 ?_
      refine tov (v := (fI w 0 12)) (hM_w69.gI (by decide)) ?_
      refine va_iald hx hb hK hP 4 0 (hW_w69.a tM_4) rfl (in_I (hW_w.fin tM_0 rfl : In 0 1 (fI w 0 12)) (by decide)) dX12_mayGet_78 ?_
      refine lv_topi (fun v_1 ev_1 => ?_)
      refine lv_icmp_ge (tgt := 122) hx hb dX12_mayGet_79 (by decide) (fun c_2 => ?_) (fun c_2 => ?_)
      · have lb_c_2 : (v_1 : Int32).toInt ≤ (x69_3 : Int32).toInt := q_le.mp c_2
        refine lv_iconst (v := 1) hx hb dX12_mayGet_122 (by decide) ?_
        exact hret _ _ _ _ _ _ hP hD hS dX12_mayGet_123 (In_lit (n := 1) (by decide) (by decide) : In 0 1 1) ⟨hW_w69, hM_w69, (In_lit (n := 1) (by decide) (by decide) : In 0 1 1)⟩
      · have lb_c_2 : ¬ (v_1 : Int32).toInt ≤ (x69_3 : Int32).toInt := fun h => c_2 (q_le.mpr h)
        refine lv_aload_n hx hb dX12_mayGet_82 rfl (lv_at hl 0 rfl) ?_
        refine gt_X12 hx hb hts hown hK hP 0 (hW_w69.o tM_0) 24 (by decide) wd_1425 rfl (hW_w69.fr tM_0 rfl) dX12_mayGet_83 ?_
        refine lv_aload_n hx hb dX12_mayGet_86 rfl (lv_at hl 0 rfl) ?_
        refine lv_iload_n hx hb dX12_mayGet_87 rfl (lv_at hl 3 rfl) ?_
        refine kW_i ⟨rfl, rfl⟩ hP hD hS hA (rW_V (As := [.int x69_3]) (rest := [.ref (q 12)]) hx hb hml hown hts hK hE hP hD (k_X12_row l D cI cJ cZ q w69 hW_w69 x69_3 (R_nle_r (In_of ev_1 (hW_w69.ap tM_4 _) : In 0 24 v_1) i_x69_3 c_2 (by decide) : In 0 23 x69_3) (In_of (hM_w69.gI (by decide)) (In_of (hM_w69.gI (by decide)).symm g69_0_45)) _) ⟨⟨rfl, rfl⟩, rfl, rfl⟩ sv_X12_493 ⟨(Nat.le_trans (by decide) hR.1), (Nat.le_trans (by decide) hR.2)⟩ 0 12 (hW_w69.o tM_0) rfl rfl rfl hl.1 rfl (Nat.le_of_ble_eq_true rfl) dX12_mayGet_88) (fun r_4 w_3 H locs hw_w_3 hP hD hS => ?_)
        obtain ⟨hW_w_3, hs_w_3, i_r_4, h_5⟩ := hw_w_3
        have o_h_5 : (r_4 : Int32).toInt = 168 * ((fI w 0 12) : Int32).toInt + 7 * (x69_3 : Int32).toInt := (by have e : (fI w69 0 12).toInt = ((fI w 0 12) : Int32).toInt := congrArg Int32.toInt (hM_w69.gI (by decide)); have q := h_5; omega)
        refine va_iald hx hb hK hP 12 0 (hW_w_3.a tM_12) rfl (in_I i_r_4 (by decide)) dX12_mayGet_91 ?_
        refine lv_topi (fun v_6 ev_6 => ?_)
        refine lv_if_ne (tgt := 116) hx hb dX12_mayGet_92 (by decide) (fun c_7 => ?_) (fun c_7 => ?_)
        · exact J116 w_3 _ _ ls hW_w_3 (hM_w69.tr hs_w_3 (by decide)) i_p1 i_p2 (R_nle_r (In_of ev_1 (hW_w69.ap tM_4 _) : In 0 24 v_1) i_x69_3 c_2 (by decide) : In 0 23 x69_3) (In_of ((hs_w_3.gI (by decide)).trans (hM_w69.gI (by decide))) (In_of (hM_w69.gI (by decide)).symm g69_0_45)) hP hD hS (lv_sub hl [0, 1, 2, 3] rfl)
        · refine lv_aload_n hx hb dX12_mayGet_95 rfl (lv_at hl 0 rfl) ?_
          refine lv_iload_n hx hb dX12_mayGet_96 rfl (lv_at hl 3 rfl) ?_
          refine lv_iload_n hx hb dX12_mayGet_97 rfl (lv_at hl 1 rfl) ?_
          refine kW_i ⟨rfl, rfl⟩ hP hD hS hA (rW_V (As := [.int x69_3, .int p1]) (rest := []) hx hb hml hown hts hK hE hP hD (k_X12_isFor l D cI cJ cZ q w_3 hW_w_3 x69_3 p1 (R_nle_r (In_of ev_1 (hW_w69.ap tM_4 _) : In 0 24 v_1) i_x69_3 c_2 (by decide) : In 0 23 x69_3) i_p1 (In_of ((hs_w_3.gI (by decide)).trans (hM_w69.gI (by decide))) (In_of (hM_w69.gI (by decide)).symm g69_0_45)) (RV_cg ((hs_w_3.hA (by decide)).trans (hM_w69.hA (by decide))) ((hs_w_3.hA (by decide)).trans (hM_w69.hA (by decide))) ((hs_w_3.hA (by decide)).trans (hM_w69.hA (by decide))) ((hs_w_3.gI (by decide)).trans (hM_w69.gI (by decide))) hRV) ((by have e : (aF w 4 (fI w 0 12).toNatClampNeg).toInt = (v_1 : Int32).toInt := congrArg Int32.toInt ((congrFun (hM_w69.hA (by decide)) _).symm.trans ev_1.symm); rw [show aF w_3 4 = aF w 4 from ((hs_w_3.hA (by decide)).trans (hM_w69.hA (by decide))), show fI w_3 0 12 = fI w 0 12 from ((hs_w_3.gI (by decide)).trans (hM_w69.gI (by decide)))]; omega)) _) ⟨⟨rfl, rfl⟩, rfl, rfl⟩ sv_X12_500 ⟨(Nat.le_trans (by decide) hR.1), (Nat.le_trans (by decide) hR.2)⟩ 0 12 (hW_w_3.o tM_0) rfl rfl rfl hl.1 rfl (Nat.le_of_ble_eq_true rfl) dX12_mayGet_98) (fun r_9 w_8 H locs hw_w_8 hP hD hS => ?_)
          obtain ⟨hW_w_8, hs_w_8, i_r_9⟩ := hw_w_8
          refine lv_if_eq (tgt := 116) hx hb dX12_mayGet_101 (by decide) (fun c_10 => ?_) (fun c_10 => ?_)
          · exact J116 w_8 _ _ ls hW_w_8 ((hM_w69.tr hs_w_3 (by decide)).tr hs_w_8 (by decide)) i_p1 i_p2 (R_nle_r (In_of ev_1 (hW_w69.ap tM_4 _) : In 0 24 v_1) i_x69_3 c_2 (by decide) : In 0 23 x69_3) (In_of ((hs_w_8.gI (by decide)).trans ((hs_w_3.gI (by decide)).trans (hM_w69.gI (by decide)))) (In_of (hM_w69.gI (by decide)).symm g69_0_45)) hP hD hS (lv_sub hl [0, 1, 2, 3] rfl)
          · refine lv_aload_n hx hb dX12_mayGet_104 rfl (lv_at hl 0 rfl) ?_
            refine lv_iload_n hx hb dX12_mayGet_105 rfl (lv_at hl 3 rfl) ?_
            refine lv_iload_n hx hb dX12_mayGet_106 rfl (lv_at hl 1 rfl) ?_
            refine lv_iload_n hx hb dX12_mayGet_107 rfl (lv_at hl 2 rfl) ?_
            refine kW_i ⟨rfl, rfl⟩ hP hD hS hA (rW_V (As := [.int x69_3, .int p1, .int p2]) (rest := []) hx hb hml hown hts hK hE hP hD (k_X12_isOf l D cI cJ cZ q w_8 hW_w_8 x69_3 p1 p2 (R_nle_r (In_of ev_1 (hW_w69.ap tM_4 _) : In 0 24 v_1) i_x69_3 c_2 (by decide) : In 0 23 x69_3) i_p1 i_p2 (In_of ((hs_w_8.gI (by decide)).trans ((hs_w_3.gI (by decide)).trans (hM_w69.gI (by decide)))) (In_of (hM_w69.gI (by decide)).symm g69_0_45)) (RV_cg ((hs_w_8.hA (by decide)).trans ((hs_w_3.hA (by decide)).trans (hM_w69.hA (by decide)))) ((hs_w_8.hA (by decide)).trans ((hs_w_3.hA (by decide)).trans (hM_w69.hA (by decide)))) ((hs_w_8.hA (by decide)).trans ((hs_w_3.hA (by decide)).trans (hM_w69.hA (by decide)))) ((hs_w_8.gI (by decide)).trans ((hs_w_3.gI (by decide)).trans (hM_w69.gI (by decide)))) hRV) ((by have e : (aF w 4 (fI w 0 12).toNatClampNeg).toInt = (v_1 : Int32).toInt := congrArg Int32.toInt ((congrFun (hM_w69.hA (by decide)) _).symm.trans ev_1.symm); rw [show aF w_8 4 = aF w 4 from ((hs_w_8.hA (by decide)).trans ((hs_w_3.hA (by decide)).trans (hM_w69.hA (by decide)))), show fI w_8 0 12 = fI w 0 12 from ((hs_w_8.gI (by decide)).trans ((hs_w_3.gI (by decide)).trans (hM_w69.gI (by decide))))]; omega)) _) ⟨⟨rfl, rfl⟩, rfl, rfl⟩ sv_X12_506 ⟨(Nat.le_trans (by decide) hR.1), (Nat.le_trans (by decide) hR.2)⟩ 0 12 (hW_w_8.o tM_0) rfl rfl rfl hl.1 rfl (Nat.le_of_ble_eq_true rfl) dX12_mayGet_108) (fun r_12 w_11 H locs hw_w_11 hP hD hS => ?_)
            obtain ⟨hW_w_11, hs_w_11, i_r_12⟩ := hw_w_11
            refine lv_if_eq (tgt := 116) hx hb dX12_mayGet_111 (by decide) (fun c_13 => ?_) (fun c_13 => ?_)
            · exact J116 w_11 _ _ ls hW_w_11 (((hM_w69.tr hs_w_3 (by decide)).tr hs_w_8 (by decide)).tr hs_w_11 (by decide)) i_p1 i_p2 (R_nle_r (In_of ev_1 (hW_w69.ap tM_4 _) : In 0 24 v_1) i_x69_3 c_2 (by decide) : In 0 23 x69_3) (In_of ((hs_w_11.gI (by decide)).trans ((hs_w_8.gI (by decide)).trans ((hs_w_3.gI (by decide)).trans (hM_w69.gI (by decide))))) (In_of (hM_w69.gI (by decide)).symm g69_0_45)) hP hD hS (lv_sub hl [0, 1, 2, 3] rfl)
            · refine lv_iconst (v := 0) hx hb dX12_mayGet_114 (by decide) ?_
              exact hret _ _ _ _ _ _ hP hD hS dX12_mayGet_115 (In_lit (n := 0) (by decide) (by decide) : In 0 1 0) ⟨hW_w_11, (((hM_w69.tr hs_w_3 (by decide)).tr hs_w_8 (by decide)).tr hs_w_11 (by decide)), (In_lit (n := 0) (by decide) (by decide) : In 0 1 0)⟩
  have J2 : ∀ (N : Nat) (x2_3 : Int32) (w2 : va_W) (H : Heap) (locs : List Loc) (ls : Array Slot), (201 - x2_3.toInt).toNat < N → HT q (TM q cI cJ cZ) w2 → Sm [37] [] w w2 → (In 0 39 p1) → (In 0 9 p2) → (In 1 201 x2_3) → (In 1 40 (fI w2 0 45)) → va_P D vwCl w2 H → va_D A w2 → va_S A s.heap H locs → lv_has ls 4 [(0, .ref (q 0)), (1, .int p1), (2, .int p2), (3, .int x2_3)] → W p l e R s m args below meth c H locs 0 0 Q (F0 m 2 ls []) := by
    intro N
    induction N with
    | zero => intro x2_3 w2 H locs ls hmu; exact absurd hmu (Nat.not_lt_zero _)
    | succ N ih2 =>
      intro x2_3 w2 H locs ls hmu2 hW_w2 hM_w2 i_x2_1 i_x2_2 i_x2_3 g2_0_45 hP hD hS hl
      have J61 : ∀ (w61 : va_W) (H : Heap) (locs : List Loc) (ls : Array Slot), HT q (TM q cI cJ cZ) w61 → Sm [37] [] w w61 → (In 0 39 p1) → (In 0 9 p2) → (In 1 200 x2_3) → (In 1 40 (fI w61 0 45)) → va_P D vwCl w61 H → va_D A w61 → va_S A s.heap H locs → lv_has ls 4 [(0, .ref (q 0)), (1, .int p1), (2, .int p2), (3, .int x2_3)] → W p l e R s m args below meth c H locs 0 0 Q (F0 m 61 ls []) := by
        intro w61 H locs ls hW_w61 hM_w61 i_x61_1 i_x61_2 i_x61_3 g61_0_45 hP hD hS hl
        refine lv_iinc (v := (x2_3 + 1)) (lv' := [(3, .int (x2_3 + 1)), (0, .ref (q 0)), (1, .int p1), (2, .int p2)]) hx hb dX12_mayGet_61 hl (k := 3) rfl (rfl) (by decide) rfl (fun ls hl => ?_)
        refine lv_goto (tgt := 2) hx hb dX12_mayGet_64 (by decide) ?_
        exact ih2 (x2_3 + 1) w61 _ _ ls (mu_inc hmu2 i_x61_3 (In_lit (n := 1) (by decide) (by decide) : In 1 1 1) (by decide)) hW_w61 hM_w61 i_p1 i_p2 (In_w ((In_add (y := 1) i_x61_3 (In_lit (n := 1) (by decide) (by decide) : In 1 1 1) (by decide)) : In 2 201 (x2_3 + 1)) (by decide) : In 1 201 (x2_3 + 1)) (In_of (hM_w61.gI (by decide)) (In_of (hM_w61.gI (by decide)).symm g61_0_45)) hP hD hS (lv_sub hl [1, 2, 3, 0] rfl)
      refine lv_iload_n hx hb dX12_mayGet_2 rfl (lv_at hl 3 rfl) ?_
      refine lv_aload_n hx hb dX12_mayGet_3 rfl (lv_at hl 0 rfl) ?_
      refine kW_i ⟨rfl, rfl⟩ hP hD hS hA (rW_V (As := []) (rest := [.int x2_3]) hx hb hml hown hts hK hE hP hD (k_X12_now l D cI cJ cZ q w2 hW_w2  _) ⟨⟨rfl, rfl⟩, rfl, rfl⟩ sv_X12_457 ⟨(Nat.le_trans (by decide) hR.1), (Nat.le_trans (by decide) hR.2)⟩ 0 12 (hW_w2.o tM_0) rfl rfl rfl hl.1 rfl (Nat.le_of_ble_eq_true rfl) dX12_mayGet_4) (fun r_15 w_14 H locs hw_w_14 hP hD hS => ?_)
      obtain ⟨hW_w_14, hs_w_14, i_r_15⟩ := hw_w_14
      refine lv_icmp_gt (tgt := 67) hx hb dX12_mayGet_7 (by decide) (fun c_16 => ?_) (fun c_16 => ?_)
      · refine lv_iconst (v := 0) hx hb dX12_mayGet_67 (by decide) ?_
        refine lv_istore_n (lv' := [(3, .int 0), (0, .ref (q 0)), (1, .int p1), (2, .int p2)]) hx hb dX12_mayGet_68 rfl hl (by decide) rfl (fun ls hl => ?_)
        exact J69 _ 0 w_14 _ _ ls (Nat.lt_succ_self _) hW_w_14 (hM_w2.tr hs_w_14 (by decide)) i_p1 i_p2 (In_lit (n := 0) (by decide) (by decide) : In 0 24 0) (In_of ((hs_w_14.gI (by decide)).trans (hM_w2.gI (by decide))) (In_of (hM_w2.gI (by decide)).symm g2_0_45)) hP hD hS (lv_sub hl [1, 2, 3, 0] rfl)
      · refine lv_aload_n hx hb dX12_mayGet_10 rfl (lv_at hl 0 rfl) ?_
        refine gt_X12 hx hb hts hown hK hP 0 (hW_w_14.o tM_0) 40 (by decide) wd_1441 rfl (hW_w_14.fr tM_0 rfl) dX12_mayGet_11 ?_
        refine lv_iload_n hx hb dX12_mayGet_14 rfl (lv_at hl 3 rfl) ?_
        refine va_iald hx hb hK hP 21 0 (hW_w_14.a tM_21) rfl (in_I (R_nlt_r i_r_15 i_x2_3 c_16 (by decide) : In 1 200 x2_3) (by decide)) dX12_mayGet_15 ?_
        refine lv_topi (fun v_17 ev_17 => ?_)
        refine lv_iconst (v := 2) hx hb dX12_mayGet_16 (by decide) ?_
        refine lv_icmp_ne (tgt := 61) hx hb dX12_mayGet_17 (by decide) (fun c_18 => ?_) (fun c_18 => ?_)
        · exact J61 w_14 _ _ ls hW_w_14 (hM_w2.tr hs_w_14 (by decide)) i_p1 i_p2 (R_nlt_r i_r_15 i_x2_3 c_16 (by decide) : In 1 200 x2_3) (In_of ((hs_w_14.gI (by decide)).trans (hM_w2.gI (by decide))) (In_of (hM_w2.gI (by decide)).symm g2_0_45)) hP hD hS (lv_sub hl [0, 1, 2, 3] rfl)
        · refine lv_aload_n hx hb dX12_mayGet_20 rfl (lv_at hl 0 rfl) ?_
          refine lv_iload_n hx hb dX12_mayGet_21 rfl (lv_at hl 3 rfl) ?_
          refine kW_i ⟨rfl, rfl⟩ hP hD hS hA (rW_V (As := [.int x2_3]) (rest := []) hx hb hml hown hts hK hE hP hD (k_X12_isSo l D cI cJ cZ q w_14 hW_w_14 x2_3 (R_nlt_r i_r_15 i_x2_3 c_16 (by decide) : In 1 200 x2_3) _) ⟨⟨rfl, rfl⟩, rfl, rfl⟩ sv_X12_461 ⟨(Nat.le_trans (by decide) hR.1), (Nat.le_trans (by decide) hR.2)⟩ 0 12 (hW_w_14.o tM_0) rfl rfl rfl hl.1 rfl (Nat.le_of_ble_eq_true rfl) dX12_mayGet_22) (fun r_20 w_19 H locs hw_w_19 hP hD hS => ?_)
          obtain ⟨hW_w_19, hs_w_19, i_r_20⟩ := hw_w_19
          refine lv_if_eq (tgt := 61) hx hb dX12_mayGet_25 (by decide) (fun c_21 => ?_) (fun c_21 => ?_)
          · exact J61 w_19 _ _ ls hW_w_19 ((hM_w2.tr hs_w_14 (by decide)).tr hs_w_19 (by decide)) i_p1 i_p2 (R_nlt_r i_r_15 i_x2_3 c_16 (by decide) : In 1 200 x2_3) (In_of ((hs_w_19.gI (by decide)).trans ((hs_w_14.gI (by decide)).trans (hM_w2.gI (by decide)))) (In_of (hM_w2.gI (by decide)).symm g2_0_45)) hP hD hS (lv_sub hl [0, 1, 2, 3] rfl)
          · refine lv_aload_n hx hb dX12_mayGet_28 rfl (lv_at hl 0 rfl) ?_
            refine gt_X12 hx hb hts hown hK hP 0 (hW_w_19.o tM_0) 41 (by decide) wd_1442 rfl (hW_w_19.fr tM_0 rfl) dX12_mayGet_29 ?_
            refine lv_iconst (v := 5) hx hb dX12_mayGet_32 (by decide) ?_
            refine lv_iload_n hx hb dX12_mayGet_33 rfl (lv_at hl 3 rfl) ?_
            refine lv_imul hx hb dX12_mayGet_34 ?_
            refine va_iald hx hb hK hP 22 0 (hW_w_19.a tM_22) rfl (in_I ((In_mull (R_nlt_r i_r_15 i_x2_3 c_16 (by decide) : In 1 200 x2_3) (n := 5) (by decide) (by decide)) : In 5 1000 (5 * x2_3)) (by decide)) dX12_mayGet_35 ?_
            refine lv_topi (fun v_22 ev_22 => ?_)
            refine lv_iload_n hx hb dX12_mayGet_36 rfl (lv_at hl 2 rfl) ?_
            refine lv_icmp_ne (tgt := 61) hx hb dX12_mayGet_37 (by decide) (fun c_23 => ?_) (fun c_23 => ?_)
            · exact J61 w_19 _ _ ls hW_w_19 ((hM_w2.tr hs_w_14 (by decide)).tr hs_w_19 (by decide)) i_p1 i_p2 (R_nlt_r i_r_15 i_x2_3 c_16 (by decide) : In 1 200 x2_3) (In_of ((hs_w_19.gI (by decide)).trans ((hs_w_14.gI (by decide)).trans (hM_w2.gI (by decide)))) (In_of (hM_w2.gI (by decide)).symm g2_0_45)) hP hD hS (lv_sub hl [0, 1, 2, 3] rfl)
            · refine lv_aload_n hx hb dX12_mayGet_40 rfl (lv_at hl 0 rfl) ?_
              refine gt_X12 hx hb hts hown hK hP 0 (hW_w_19.o tM_0) 41 (by decide) wd_1442 rfl (hW_w_19.fr tM_0 rfl) dX12_mayGet_41 ?_
              refine lv_iconst (v := 5) hx hb dX12_mayGet_44 (by decide) ?_
              refine lv_iload_n hx hb dX12_mayGet_45 rfl (lv_at hl 3 rfl) ?_
              refine lv_imul hx hb dX12_mayGet_46 ?_
              refine lv_iconst (v := 1) hx hb dX12_mayGet_47 (by decide) ?_
              refine lv_iadd hx hb dX12_mayGet_48 ?_
              refine va_iald hx hb hK hP 22 0 (hW_w_19.a tM_22) rfl (in_I ((In_add ((In_mull (R_nlt_r i_r_15 i_x2_3 c_16 (by decide) : In 1 200 x2_3) (n := 5) (by decide) (by decide)) : In 5 1000 (5 * x2_3)) (In_lit (n := 1) (by decide) (by decide) : In 1 1 1) (by decide)) : In 6 1001 ((5 * x2_3) + 1)) (by decide)) dX12_mayGet_49 ?_
              refine lv_topi (fun v_24 ev_24 => ?_)
              refine lv_aload_n hx hb dX12_mayGet_50 rfl (lv_at hl 0 rfl) ?_
              refine gt_X12 hx hb hts hown hK hP 0 (hW_w_19.o tM_0) 52 (by decide) wd_1453 rfl (hW_w_19.fr tM_0 rfl) dX12_mayGet_51 ?_
              refine lv_iload_n hx hb dX12_mayGet_54 rfl (lv_at hl 1 rfl) ?_
              refine va_iald hx hb hK hP 32 0 (hW_w_19.a tM_32) rfl (in_I i_p1 (by decide)) dX12_mayGet_55 ?_
              refine lv_topi (fun v_25 ev_25 => ?_)
              refine lv_icmp_gt (tgt := 61) hx hb dX12_mayGet_56 (by decide) (fun c_26 => ?_) (fun c_26 => ?_)
              · exact J61 w_19 _ _ ls hW_w_19 ((hM_w2.tr hs_w_14 (by decide)).tr hs_w_19 (by decide)) i_p1 i_p2 (R_nlt_r i_r_15 i_x2_3 c_16 (by decide) : In 1 200 x2_3) (In_of ((hs_w_19.gI (by decide)).trans ((hs_w_14.gI (by decide)).trans (hM_w2.gI (by decide)))) (In_of (hM_w2.gI (by decide)).symm g2_0_45)) hP hD hS (lv_sub hl [0, 1, 2, 3] rfl)
              · refine lv_iconst (v := 0) hx hb dX12_mayGet_59 (by decide) ?_
                exact hret _ _ _ _ _ _ hP hD hS dX12_mayGet_60 (In_lit (n := 0) (by decide) (by decide) : In 0 1 0) ⟨hW_w_19, ((hM_w2.tr hs_w_14 (by decide)).tr hs_w_19 (by decide)), (In_lit (n := 0) (by decide) (by decide) : In 0 1 0)⟩
  refine lv_iconst (v := 1) hx hb dX12_mayGet_0 (by decide) ?_
  refine lv_istore_n (lv' := [(3, .int 1), (0, .ref (q 0)), (1, .int p1), (2, .int p2)]) hx hb dX12_mayGet_1 rfl hl (by decide) rfl (fun ls hl => ?_)
  exact J2 _ 1 w _ _ ls (Nat.lt_succ_self _) hW_w Sm.rf i_p1 i_p2 (In_lit (n := 1) (by decide) (by decide) : In 1 201 1) hf_0_45 hP hD hS (lv_sub hl [1, 2, 3, 0] rfl)
set_option maxRecDepth 100000 in
set_option maxHeartbeats 8000000 in
theorem k_X12_may (l : Launch) (D : va_G) (cI cJ cZ : ClassId) (q : Nat → Nat) (w : va_W) (hW_w : HT q (TM q cI cJ cZ) w) (p1 : Int32) (p2 : Int32) (hLM : LM w) (hRV : RV w) : Con_i l yX12_may cX12_may 3 (some .int) ({ frames := 5, cells := 0, slots := 0, locals := 122 }) D cI cJ cZ eW [.ref (q 0), .int p1, .int p2] w (fun (r : Int32) (w1 : va_W) => HT q (TM q cI cJ cZ) w1 ∧ Sm [0, 26, 27, 28, 29, 30, 31, 32, 33, 34, 35, 36, 37] [(0, 45)] w w1 ∧ In (-1) 1 r) := by
  refine eQ_i rfl (by decide) (Nat.le_of_ble_eq_true rfl) ⟨rfl, rfl⟩ ?_
  intro p e R s m args below meth c A Q hx hb hml hown hts hK hE hA hR hret hP hD hS ls hl
  have hown : s.vm.findClass RX12 = some m.cls := hown
  have hl : lv_has ls 3 [(0, .ref (q 0)), (1, .int p1), (2, .int p2)] := hl
  refine lv_aload_n hx hb dX12_may_0 rfl (lv_at hl 0 rfl) ?_
  refine kW_v ⟨rfl, rfl⟩ hP hD hS hA (rW_V (As := []) (rest := []) hx hb hml hown hts hK hE hP hD (k_X12_knows l D cI cJ cZ q w hW_w (LM_cg rfl rfl hLM) _) ⟨⟨rfl, rfl⟩, rfl, rfl⟩ sv_X12_471 ⟨(Nat.le_trans (by decide) hR.1), (Nat.le_trans (by decide) hR.2)⟩ 0 12 (hW_w.o tM_0) rfl rfl rfl hl.1 rfl (Nat.le_of_ble_eq_true rfl) dX12_may_1) (fun w_1 H locs hw_w_1 hP hD hS => ?_)
  obtain ⟨hW_w_1, hs_w_1, h_3⟩ := hw_w_1
  refine lv_aload_n hx hb dX12_may_4 rfl (lv_at hl 0 rfl) ?_
  refine lv_iload_n hx hb dX12_may_5 rfl (lv_at hl 1 rfl) ?_
  refine kW_i ⟨rfl, rfl⟩ hP hD hS hA (rW_V (As := [.int p1]) (rest := []) hx hb hml hown hts hK hE hP hD (k_X12_isChild l D cI cJ cZ q w_1 hW_w_1 p1 _) ⟨⟨rfl, rfl⟩, rfl, rfl⟩ sv_X12_512 ⟨(Nat.le_trans (by decide) hR.1), (Nat.le_trans (by decide) hR.2)⟩ 0 12 (hW_w_1.o tM_0) rfl rfl rfl hl.1 rfl (Nat.le_of_ble_eq_true rfl) dX12_may_6) (fun r_5 w_4 H locs hw_w_4 hP hD hS => ?_)
  obtain ⟨hW_w_4, hs_w_4, i_r_5, h_6⟩ := hw_w_4
  refine lv_if_eq (tgt := 20) hx hb dX12_may_9 (by decide) (fun c_7 => ?_) (fun c_7 => ?_)
  · refine lv_iconst (v := (-1)) hx hb dX12_may_20 (by decide) ?_
    refine lv_goto (tgt := 38) hx hb dX12_may_21 (by decide) ?_
    exact hret _ _ _ _ _ _ hP hD hS dX12_may_38 ⟨hW_w_4, ((Sm.rf.tr hs_w_1 (by decide)).tr hs_w_4 (by decide)), (In_lit (n := (-1)) (by decide) (by decide) : In (-1) 1 (-1))⟩
  · refine lv_aload_n hx hb dX12_may_12 rfl (lv_at hl 0 rfl) ?_
    refine lv_iload_n hx hb dX12_may_13 rfl (lv_at hl 2 rfl) ?_
    refine kW_i ⟨rfl, rfl⟩ hP hD hS hA (rW_V (As := [.int p2]) (rest := []) hx hb hml hown hts hK hE hP hD (k_X12_isKind l D cI cJ cZ q w_4 hW_w_4 p2 _) ⟨⟨rfl, rfl⟩, rfl, rfl⟩ sv_X12_450 ⟨(Nat.le_trans (by decide) hR.1), (Nat.le_trans (by decide) hR.2)⟩ 0 12 (hW_w_4.o tM_0) rfl rfl rfl hl.1 rfl (Nat.le_of_ble_eq_true rfl) dX12_may_14) (fun r_9 w_8 H locs hw_w_8 hP hD hS => ?_)
    obtain ⟨hW_w_8, hs_w_8, i_r_9, h_10⟩ := hw_w_8
    refine lv_if_ne (tgt := 24) hx hb dX12_may_17 (by decide) (fun c_11 => ?_) (fun c_11 => ?_)
    · refine lv_aload_n hx hb dX12_may_24 rfl (lv_at hl 0 rfl) ?_
      refine lv_iload_n hx hb dX12_may_25 rfl (lv_at hl 1 rfl) ?_
      refine lv_iload_n hx hb dX12_may_26 rfl (lv_at hl 2 rfl) ?_
      refine kW_i ⟨rfl, rfl⟩ hP hD hS hA (rW_V (As := [.int p1, .int p2]) (rest := []) hx hb hml hown hts hK hE hP hD (k_X12_mayGet l D cI cJ cZ q w_8 hW_w_8 p1 p2 (h_6 c_7).2 (h_10 c_11) (In_of ((hs_w_8.gI (by decide)).trans (hs_w_4.gI (by decide))) (In_of (hs_w_4.gI (by decide)).symm (h_6 c_7).1)) (RV_cg ((hs_w_8.hA (by decide)).trans ((hs_w_4.hA (by decide)).trans (hs_w_1.hA (by decide)))) ((hs_w_8.hA (by decide)).trans ((hs_w_4.hA (by decide)).trans (hs_w_1.hA (by decide)))) ((hs_w_8.hA (by decide)).trans ((hs_w_4.hA (by decide)).trans (hs_w_1.hA (by decide)))) ((hs_w_8.gI (by decide)).trans ((hs_w_4.gI (by decide)).trans (hs_w_1.2 0 12 (by decide) (by decide)))) hRV) _) ⟨⟨rfl, rfl⟩, rfl, rfl⟩ sv_X12_518 ⟨(Nat.le_trans (by decide) hR.1), (Nat.le_trans (by decide) hR.2)⟩ 0 12 (hW_w_8.o tM_0) rfl rfl rfl hl.1 rfl (Nat.le_of_ble_eq_true rfl) dX12_may_27) (fun r_13 w_12 H locs hw_w_12 hP hD hS => ?_)
      obtain ⟨hW_w_12, hs_w_12, i_r_13⟩ := hw_w_12
      refine lv_if_eq (tgt := 37) hx hb dX12_may_30 (by decide) (fun c_14 => ?_) (fun c_14 => ?_)
      · refine lv_iconst (v := 0) hx hb dX12_may_37 (by decide) ?_
        exact hret _ _ _ _ _ _ hP hD hS dX12_may_38 ⟨hW_w_12, ((((Sm.rf.tr hs_w_1 (by decide)).tr hs_w_4 (by decide)).tr hs_w_8 (by decide)).tr hs_w_12 (by decide)), (In_lit (n := 0) (by decide) (by decide) : In (-1) 1 0)⟩
      · refine lv_iconst (v := 1) hx hb dX12_may_33 (by decide) ?_
        refine lv_goto (tgt := 38) hx hb dX12_may_34 (by decide) ?_
        exact hret _ _ _ _ _ _ hP hD hS dX12_may_38 ⟨hW_w_12, ((((Sm.rf.tr hs_w_1 (by decide)).tr hs_w_4 (by decide)).tr hs_w_8 (by decide)).tr hs_w_12 (by decide)), (In_lit (n := 1) (by decide) (by decide) : In (-1) 1 1)⟩
    · refine lv_iconst (v := (-1)) hx hb dX12_may_20 (by decide) ?_
      refine lv_goto (tgt := 38) hx hb dX12_may_21 (by decide) ?_
      exact hret _ _ _ _ _ _ hP hD hS dX12_may_38 ⟨hW_w_8, (((Sm.rf.tr hs_w_1 (by decide)).tr hs_w_4 (by decide)).tr hs_w_8 (by decide)), (In_lit (n := (-1)) (by decide) (by decide) : In (-1) 1 (-1))⟩
set_option maxRecDepth 100000 in
set_option maxHeartbeats 8000000 in
theorem k_X12_pointsOf (l : Launch) (D : va_G) (cI cJ cZ : ClassId) (q : Nat → Nat) (w : va_W) (hW_w : HT q (TM q cI cJ cZ) w) (p1 : Int32) (p2 : Int32) (i_p1 : In 0 39 p1) (i_p2 : In 0 9 p2) (hf_0_45 : In 1 40 (fI w 0 45)) (hRV : RV w) : Con_i l yX12_pointsOf cX12_pointsOf 6 (some .int) ({ frames := 4, cells := 0, slots := 0, locals := 99 }) D cI cJ cZ eW [.ref (q 0), .int p1, .int p2] w (fun (r : Int32) (w1 : va_W) => HT q (TM q cI cJ cZ) w1 ∧ Sm [37] [] w w1) := by
  refine eQ_i rfl (by decide) (Nat.le_of_ble_eq_true rfl) ⟨rfl, rfl⟩ ?_
  intro p e R s m args below meth c A Q hx hb hml hown hts hK hE hA hR hret hP hD hS ls hl
  have hown : s.vm.findClass RX12 = some m.cls := hown
  have hl : lv_has ls 6 [(0, .ref (q 0)), (1, .int p1), (2, .int p2)] := hl
  have J5 : ∀ (N : Nat) (x5_3 : Int64) (x5_5 : Int32) (w5 : va_W) (H : Heap) (locs : List Loc) (ls : Array Slot), (24 - x5_5.toInt).toNat < N → HT q (TM q cI cJ cZ) w5 → Sm [37] [] w w5 → (In 0 39 p1) → (In 0 9 p2) → (In 0 24 x5_5) → (In 1 40 (fI w5 0 45)) → va_P D vwCl w5 H → va_D A w5 → va_S A s.heap H locs → lv_has ls 6 [(0, .ref (q 0)), (1, .int p1), (2, .int p2), (3, .long x5_3), (5, .int x5_5)] → W p l e R s m args below meth c H locs 0 0 Q (F0 m 5 ls []) := by
    intro N
    induction N with
    | zero => intro x5_3 x5_5 w5 H locs ls hmu; exact absurd hmu (Nat.not_lt_zero _)
    | succ N ih5 =>
      intro x5_3 x5_5 w5 H locs ls hmu5 hW_w5 hM_w5 i_x5_1 i_x5_2 i_x5_5 g5_0_45 hP hD hS hl
      have J92 : ∀ (y92_0 : Int64) (w92 : va_W) (H : Heap) (locs : List Loc) (ls : Array Slot), HT q (TM q cI cJ cZ) w92 → Sm [37] [] w w92 → (In 0 39 p1) → (In 0 9 p2) → (In 0 23 x5_5) → (In 1 40 (fI w92 0 45)) → va_P D vwCl w92 H → va_D A w92 → va_S A s.heap H locs → lv_has ls 6 [(0, .ref (q 0)), (1, .int p1), (2, .int p2), (3, .long x5_3), (5, .int x5_5)] → W p l e R s m args below meth c H locs 0 0 Q (F0 m 92 ls [.long y92_0, .long x5_3]) := by
        intro y92_0 w92 H locs ls hW_w92 hM_w92 i_x92_1 i_x92_2 i_x92_5 g92_0_45 hP hD hS hl
        refine lv_ladd hx hb dX12_pointsOf_92 ?_
        refine lv_topl (fun v_1 ev_1 => ?_)
        refine lv_lstore_n (lv' := [(3, .long v_1), (0, .ref (q 0)), (1, .int p1), (2, .int p2), (5, .int x5_5)]) hx hb dX12_pointsOf_93 rfl hl (by decide) rfl (fun ls hl => ?_)
        refine lv_iinc (v := (x5_5 + 1)) (lv' := [(5, .int (x5_5 + 1)), (3, .long v_1), (0, .ref (q 0)), (1, .int p1), (2, .int p2)]) hx hb dX12_pointsOf_94 hl (k := 4) rfl (rfl) (by decide) rfl (fun ls hl => ?_)
        refine lv_goto (tgt := 5) hx hb dX12_pointsOf_97 (by decide) ?_
        exact ih5 v_1 (x5_5 + 1) w92 _ _ ls (mu_inc hmu5 i_x92_5 (In_lit (n := 1) (by decide) (by decide) : In 1 1 1) (by decide)) hW_w92 hM_w92 i_p1 i_p2 (In_w ((In_add (y := 1) i_x92_5 (In_lit (n := 1) (by decide) (by decide) : In 1 1 1) (by decide)) : In 1 24 (x5_5 + 1)) (by decide) : In 0 24 (x5_5 + 1)) (In_of (hM_w92.gI (by decide)) (In_of (hM_w92.gI (by decide)).symm g92_0_45)) hP hD hS (lv_sub hl [2, 3, 4, 1, 0] rfl)
      have J91 : ∀ (w91 : va_W) (H : Heap) (locs : List Loc) (ls : Array Slot), HT q (TM q cI cJ cZ) w91 → Sm [37] [] w w91 → (In 0 39 p1) → (In 0 9 p2) → (In 0 23 x5_5) → (In 1 40 (fI w91 0 45)) → va_P D vwCl w91 H → va_D A w91 → va_S A s.heap H locs → lv_has ls 6 [(0, .ref (q 0)), (1, .int p1), (2, .int p2), (3, .long x5_3), (5, .int x5_5)] → W p l e R s m args below meth c H locs 0 0 Q (F0 m 91 ls [.long x5_3]) := by
        intro w91 H locs ls hW_w91 hM_w91 i_x91_1 i_x91_2 i_x91_5 g91_0_45 hP hD hS hl
        refine lv_lconst (v := 0) hx hb dX12_pointsOf_91 (by decide) ?_
        exact J92 0 w91 _ _ ls hW_w91 hM_w91 i_p1 i_p2 i_x91_5 (In_of (hM_w91.gI (by decide)) (In_of (hM_w91.gI (by decide)).symm g91_0_45)) hP hD hS (lv_sub hl [0, 1, 2, 3, 4] rfl)
      refine lv_iload hx hb dX12_pointsOf_5 (lv_at hl 4 rfl) ?_
      refine lv_aload_n hx hb dX12_pointsOf_7 rfl (lv_at hl 0 rfl) ?_
      refine gt_X12 hx hb hts hown hK hP 0 (hW_w5.o tM_0) 16 (by decide) wd_1417 rfl (hW_w5.fr tM_0 rfl) dX12_pointsOf_8 ?_
      refine lv_aload_n hx hb dX12_pointsOf_11 rfl (lv_at hl 0 rfl) ?_
      refine gt_X12 hx hb hts hown hK hP 0 (hW_w5.o tM_0) 12 (by decide) wd_1413 rfl (hW_w5.fi tM_0 rfl) dX12_pointsOf_12 ?_
      refine tov (v := (fI w 0 12)) (hM_w5.gI (by decide)) ?_
      refine va_iald hx hb hK hP 4 0 (hW_w5.a tM_4) rfl (in_I (hW_w.fin tM_0 rfl : In 0 1 (fI w 0 12)) (by decide)) dX12_pointsOf_15 ?_
      refine lv_topi (fun v_2 ev_2 => ?_)
      refine lv_icmp_ge (tgt := 100) hx hb dX12_pointsOf_16 (by decide) (fun c_3 => ?_) (fun c_3 => ?_)
      · have lb_c_3 : (v_2 : Int32).toInt ≤ (x5_5 : Int32).toInt := q_le.mp c_3
        refine lv_lload_n hx hb dX12_pointsOf_100 rfl (lv_at hl 3 rfl) ?_
        refine lv_l2i hx hb dX12_pointsOf_101 rfl ?_
        refine lv_topi (fun v_4 ev_4 => ?_)
        exact hret _ _ _ _ _ _ hP hD hS dX12_pointsOf_102 ⟨hW_w5, hM_w5⟩
      · have lb_c_3 : ¬ (v_2 : Int32).toInt ≤ (x5_5 : Int32).toInt := fun h => c_3 (q_le.mpr h)
        refine lv_lload_n hx hb dX12_pointsOf_19 rfl (lv_at hl 3 rfl) ?_
        refine lv_aload_n hx hb dX12_pointsOf_20 rfl (lv_at hl 0 rfl) ?_
        refine gt_X12 hx hb hts hown hK hP 0 (hW_w5.o tM_0) 24 (by decide) wd_1425 rfl (hW_w5.fr tM_0 rfl) dX12_pointsOf_21 ?_
        refine lv_aload_n hx hb dX12_pointsOf_24 rfl (lv_at hl 0 rfl) ?_
        refine lv_iload hx hb dX12_pointsOf_25 (lv_at hl 4 rfl) ?_
        refine kW_i ⟨rfl, rfl⟩ hP hD hS hA (rW_V (As := [.int x5_5]) (rest := [.ref (q 12), .long x5_3]) hx hb hml hown hts hK hE hP hD (k_X12_row l D cI cJ cZ q w5 hW_w5 x5_5 (R_nle_r (In_of ev_2 (hW_w5.ap tM_4 _) : In 0 24 v_2) i_x5_5 c_3 (by decide) : In 0 23 x5_5) (In_of (hM_w5.gI (by decide)) (In_of (hM_w5.gI (by decide)).symm g5_0_45)) _) ⟨⟨rfl, rfl⟩, rfl, rfl⟩ sv_X12_493 ⟨(Nat.le_trans (by decide) hR.1), (Nat.le_trans (by decide) hR.2)⟩ 0 12 (hW_w5.o tM_0) rfl rfl rfl hl.1 rfl (Nat.le_of_ble_eq_true rfl) dX12_pointsOf_27) (fun r_6 w_5 H locs hw_w_5 hP hD hS => ?_)
        obtain ⟨hW_w_5, hs_w_5, i_r_6, h_7⟩ := hw_w_5
        have o_h_7 : (r_6 : Int32).toInt = 168 * ((fI w 0 12) : Int32).toInt + 7 * (x5_5 : Int32).toInt := (by have e : (fI w5 0 12).toInt = ((fI w 0 12) : Int32).toInt := congrArg Int32.toInt (hM_w5.gI (by decide)); have q := h_7; omega)
        refine va_iald hx hb hK hP 12 0 (hW_w_5.a tM_12) rfl (in_I i_r_6 (by decide)) dX12_pointsOf_30 ?_
        refine lv_topi (fun v_8 ev_8 => ?_)
        refine lv_iconst (v := 1) hx hb dX12_pointsOf_31 (by decide) ?_
        refine lv_icmp_ne (tgt := 91) hx hb dX12_pointsOf_32 (by decide) (fun c_9 => ?_) (fun c_9 => ?_)
        · exact J91 w_5 _ _ ls hW_w_5 (hM_w5.tr hs_w_5 (by decide)) i_p1 i_p2 (R_nle_r (In_of ev_2 (hW_w5.ap tM_4 _) : In 0 24 v_2) i_x5_5 c_3 (by decide) : In 0 23 x5_5) (In_of ((hs_w_5.gI (by decide)).trans (hM_w5.gI (by decide))) (In_of (hM_w5.gI (by decide)).symm g5_0_45)) hP hD hS (lv_sub hl [0, 1, 2, 3, 4] rfl)
        · refine lv_aload_n hx hb dX12_pointsOf_35 rfl (lv_at hl 0 rfl) ?_
          refine lv_iload hx hb dX12_pointsOf_36 (lv_at hl 4 rfl) ?_
          refine lv_iload_n hx hb dX12_pointsOf_38 rfl (lv_at hl 1 rfl) ?_
          refine kW_i ⟨rfl, rfl⟩ hP hD hS hA (rW_V (As := [.int x5_5, .int p1]) (rest := [.long x5_3]) hx hb hml hown hts hK hE hP hD (k_X12_isFor l D cI cJ cZ q w_5 hW_w_5 x5_5 p1 (R_nle_r (In_of ev_2 (hW_w5.ap tM_4 _) : In 0 24 v_2) i_x5_5 c_3 (by decide) : In 0 23 x5_5) i_p1 (In_of ((hs_w_5.gI (by decide)).trans (hM_w5.gI (by decide))) (In_of (hM_w5.gI (by decide)).symm g5_0_45)) (RV_cg ((hs_w_5.hA (by decide)).trans (hM_w5.hA (by decide))) ((hs_w_5.hA (by decide)).trans (hM_w5.hA (by decide))) ((hs_w_5.hA (by decide)).trans (hM_w5.hA (by decide))) ((hs_w_5.gI (by decide)).trans (hM_w5.gI (by decide))) hRV) ((by have e : (aF w 4 (fI w 0 12).toNatClampNeg).toInt = (v_2 : Int32).toInt := congrArg Int32.toInt ((congrFun (hM_w5.hA (by decide)) _).symm.trans ev_2.symm); rw [show aF w_5 4 = aF w 4 from ((hs_w_5.hA (by decide)).trans (hM_w5.hA (by decide))), show fI w_5 0 12 = fI w 0 12 from ((hs_w_5.gI (by decide)).trans (hM_w5.gI (by decide)))]; omega)) _) ⟨⟨rfl, rfl⟩, rfl, rfl⟩ sv_X12_500 ⟨(Nat.le_trans (by decide) hR.1), (Nat.le_trans (by decide) hR.2)⟩ 0 12 (hW_w_5.o tM_0) rfl rfl rfl hl.1 rfl (Nat.le_of_ble_eq_true rfl) dX12_pointsOf_39) (fun r_11 w_10 H locs hw_w_10 hP hD hS => ?_)
          obtain ⟨hW_w_10, hs_w_10, i_r_11⟩ := hw_w_10
          refine lv_if_eq (tgt := 91) hx hb dX12_pointsOf_42 (by decide) (fun c_12 => ?_) (fun c_12 => ?_)
          · exact J91 w_10 _ _ ls hW_w_10 ((hM_w5.tr hs_w_5 (by decide)).tr hs_w_10 (by decide)) i_p1 i_p2 (R_nle_r (In_of ev_2 (hW_w5.ap tM_4 _) : In 0 24 v_2) i_x5_5 c_3 (by decide) : In 0 23 x5_5) (In_of ((hs_w_10.gI (by decide)).trans ((hs_w_5.gI (by decide)).trans (hM_w5.gI (by decide)))) (In_of (hM_w5.gI (by decide)).symm g5_0_45)) hP hD hS (lv_sub hl [0, 1, 2, 3, 4] rfl)
          · refine lv_aload_n hx hb dX12_pointsOf_45 rfl (lv_at hl 0 rfl) ?_
            refine lv_iload hx hb dX12_pointsOf_46 (lv_at hl 4 rfl) ?_
            refine lv_iload_n hx hb dX12_pointsOf_48 rfl (lv_at hl 1 rfl) ?_
            refine lv_iload_n hx hb dX12_pointsOf_49 rfl (lv_at hl 2 rfl) ?_
            refine kW_i ⟨rfl, rfl⟩ hP hD hS hA (rW_V (As := [.int x5_5, .int p1, .int p2]) (rest := [.long x5_3]) hx hb hml hown hts hK hE hP hD (k_X12_isOf l D cI cJ cZ q w_10 hW_w_10 x5_5 p1 p2 (R_nle_r (In_of ev_2 (hW_w5.ap tM_4 _) : In 0 24 v_2) i_x5_5 c_3 (by decide) : In 0 23 x5_5) i_p1 i_p2 (In_of ((hs_w_10.gI (by decide)).trans ((hs_w_5.gI (by decide)).trans (hM_w5.gI (by decide)))) (In_of (hM_w5.gI (by decide)).symm g5_0_45)) (RV_cg ((hs_w_10.hA (by decide)).trans ((hs_w_5.hA (by decide)).trans (hM_w5.hA (by decide)))) ((hs_w_10.hA (by decide)).trans ((hs_w_5.hA (by decide)).trans (hM_w5.hA (by decide)))) ((hs_w_10.hA (by decide)).trans ((hs_w_5.hA (by decide)).trans (hM_w5.hA (by decide)))) ((hs_w_10.gI (by decide)).trans ((hs_w_5.gI (by decide)).trans (hM_w5.gI (by decide)))) hRV) ((by have e : (aF w 4 (fI w 0 12).toNatClampNeg).toInt = (v_2 : Int32).toInt := congrArg Int32.toInt ((congrFun (hM_w5.hA (by decide)) _).symm.trans ev_2.symm); rw [show aF w_10 4 = aF w 4 from ((hs_w_10.hA (by decide)).trans ((hs_w_5.hA (by decide)).trans (hM_w5.hA (by decide)))), show fI w_10 0 12 = fI w 0 12 from ((hs_w_10.gI (by decide)).trans ((hs_w_5.gI (by decide)).trans (hM_w5.gI (by decide))))]; omega)) _) ⟨⟨rfl, rfl⟩, rfl, rfl⟩ sv_X12_506 ⟨(Nat.le_trans (by decide) hR.1), (Nat.le_trans (by decide) hR.2)⟩ 0 12 (hW_w_10.o tM_0) rfl rfl rfl hl.1 rfl (Nat.le_of_ble_eq_true rfl) dX12_pointsOf_50) (fun r_14 w_13 H locs hw_w_13 hP hD hS => ?_)
            obtain ⟨hW_w_13, hs_w_13, i_r_14⟩ := hw_w_13
            refine lv_if_eq (tgt := 91) hx hb dX12_pointsOf_53 (by decide) (fun c_15 => ?_) (fun c_15 => ?_)
            · exact J91 w_13 _ _ ls hW_w_13 (((hM_w5.tr hs_w_5 (by decide)).tr hs_w_10 (by decide)).tr hs_w_13 (by decide)) i_p1 i_p2 (R_nle_r (In_of ev_2 (hW_w5.ap tM_4 _) : In 0 24 v_2) i_x5_5 c_3 (by decide) : In 0 23 x5_5) (In_of ((hs_w_13.gI (by decide)).trans ((hs_w_10.gI (by decide)).trans ((hs_w_5.gI (by decide)).trans (hM_w5.gI (by decide))))) (In_of (hM_w5.gI (by decide)).symm g5_0_45)) hP hD hS (lv_sub hl [0, 1, 2, 3, 4] rfl)
            · refine lv_aload_n hx hb dX12_pointsOf_56 rfl (lv_at hl 0 rfl) ?_
              refine lv_aload_n hx hb dX12_pointsOf_57 rfl (lv_at hl 0 rfl) ?_
              refine gt_X12 hx hb hts hown hK hP 0 (hW_w_13.o tM_0) 24 (by decide) wd_1425 rfl (hW_w_13.fr tM_0 rfl) dX12_pointsOf_58 ?_
              refine lv_aload_n hx hb dX12_pointsOf_61 rfl (lv_at hl 0 rfl) ?_
              refine lv_iload hx hb dX12_pointsOf_62 (lv_at hl 4 rfl) ?_
              refine kW_i ⟨rfl, rfl⟩ hP hD hS hA (rW_V (As := [.int x5_5]) (rest := [.ref (q 12), .ref (q 0), .long x5_3]) hx hb hml hown hts hK hE hP hD (k_X12_row l D cI cJ cZ q w_13 hW_w_13 x5_5 (R_nle_r (In_of ev_2 (hW_w5.ap tM_4 _) : In 0 24 v_2) i_x5_5 c_3 (by decide) : In 0 23 x5_5) (In_of ((hs_w_13.gI (by decide)).trans ((hs_w_10.gI (by decide)).trans ((hs_w_5.gI (by decide)).trans (hM_w5.gI (by decide))))) (In_of (hM_w5.gI (by decide)).symm g5_0_45)) _) ⟨⟨rfl, rfl⟩, rfl, rfl⟩ sv_X12_493 ⟨(Nat.le_trans (by decide) hR.1), (Nat.le_trans (by decide) hR.2)⟩ 0 12 (hW_w_13.o tM_0) rfl rfl rfl hl.1 rfl (Nat.le_of_ble_eq_true rfl) dX12_pointsOf_64) (fun r_17 w_16 H locs hw_w_16 hP hD hS => ?_)
              obtain ⟨hW_w_16, hs_w_16, i_r_17, h_18⟩ := hw_w_16
              have o_h_18 : (r_17 : Int32).toInt = 168 * ((fI w 0 12) : Int32).toInt + 7 * (x5_5 : Int32).toInt := (by have e : (fI w_13 0 12).toInt = ((fI w 0 12) : Int32).toInt := congrArg Int32.toInt ((hs_w_13.gI (by decide)).trans ((hs_w_10.gI (by decide)).trans ((hs_w_5.gI (by decide)).trans (hM_w5.gI (by decide))))); have q := h_18; omega)
              refine lv_iconst (v := 1) hx hb dX12_pointsOf_67 (by decide) ?_
              refine lv_iadd hx hb dX12_pointsOf_68 ?_
              refine va_iald hx hb hK hP 12 0 (hW_w_16.a tM_12) rfl (in_I ((In_add i_r_17 (In_lit (n := 1) (by decide) (by decide) : In 1 1 1) (by decide)) : In 1 330 (r_17 + 1)) (by decide)) dX12_pointsOf_69 ?_
              refine lv_topi (fun v_19 ev_19 => ?_)
              refine lv_aload_n hx hb dX12_pointsOf_70 rfl (lv_at hl 0 rfl) ?_
              refine gt_X12 hx hb hts hown hK hP 0 (hW_w_16.o tM_0) 24 (by decide) wd_1425 rfl (hW_w_16.fr tM_0 rfl) dX12_pointsOf_71 ?_
              refine lv_aload_n hx hb dX12_pointsOf_74 rfl (lv_at hl 0 rfl) ?_
              refine lv_iload hx hb dX12_pointsOf_75 (lv_at hl 4 rfl) ?_
              refine kW_i ⟨rfl, rfl⟩ hP hD hS hA (rW_V (As := [.int x5_5]) (rest := [.ref (q 12), .int v_19, .ref (q 0), .long x5_3]) hx hb hml hown hts hK hE hP hD (k_X12_row l D cI cJ cZ q w_16 hW_w_16 x5_5 (R_nle_r (In_of ev_2 (hW_w5.ap tM_4 _) : In 0 24 v_2) i_x5_5 c_3 (by decide) : In 0 23 x5_5) (In_of ((hs_w_16.gI (by decide)).trans ((hs_w_13.gI (by decide)).trans ((hs_w_10.gI (by decide)).trans ((hs_w_5.gI (by decide)).trans (hM_w5.gI (by decide)))))) (In_of (hM_w5.gI (by decide)).symm g5_0_45)) _) ⟨⟨rfl, rfl⟩, rfl, rfl⟩ sv_X12_493 ⟨(Nat.le_trans (by decide) hR.1), (Nat.le_trans (by decide) hR.2)⟩ 0 12 (hW_w_16.o tM_0) rfl rfl rfl hl.1 rfl (Nat.le_of_ble_eq_true rfl) dX12_pointsOf_77) (fun r_21 w_20 H locs hw_w_20 hP hD hS => ?_)
              obtain ⟨hW_w_20, hs_w_20, i_r_21, h_22⟩ := hw_w_20
              have o_h_22 : (r_21 : Int32).toInt = 168 * ((fI w 0 12) : Int32).toInt + 7 * (x5_5 : Int32).toInt := (by have e : (fI w_16 0 12).toInt = ((fI w 0 12) : Int32).toInt := congrArg Int32.toInt ((hs_w_16.gI (by decide)).trans ((hs_w_13.gI (by decide)).trans ((hs_w_10.gI (by decide)).trans ((hs_w_5.gI (by decide)).trans (hM_w5.gI (by decide)))))); have q := h_22; omega)
              refine lv_iconst (v := 2) hx hb dX12_pointsOf_80 (by decide) ?_
              refine lv_iadd hx hb dX12_pointsOf_81 ?_
              refine va_iald hx hb hK hP 12 0 (hW_w_20.a tM_12) rfl (in_I ((In_add i_r_21 (In_lit (n := 2) (by decide) (by decide) : In 2 2 2) (by decide)) : In 2 331 (r_21 + 2)) (by decide)) dX12_pointsOf_82 ?_
              refine lv_topi (fun v_23 ev_23 => ?_)
              refine lv_iload_n hx hb dX12_pointsOf_83 rfl (lv_at hl 1 rfl) ?_
              refine lv_iload_n hx hb dX12_pointsOf_84 rfl (lv_at hl 2 rfl) ?_
              refine kW_l ⟨rfl, rfl⟩ hP hD hS hA (rW_V (As := [.int v_19, .int v_23, .int p1, .int p2]) (rest := [.long x5_3]) hx hb hml hown hts hK hE hP hD (k_X12_works l D cI cJ cZ q w_20 hW_w_20 v_19 v_23 p1 p2 (In_of ev_19 (hW_w_16.ap tM_12 _) : In 0 1100 v_19) (In_of ev_23 (hW_w_20.ap tM_12 _) : In 0 1100 v_23) i_p1 i_p2 (In_of ((hs_w_20.gI (by decide)).trans ((hs_w_16.gI (by decide)).trans ((hs_w_13.gI (by decide)).trans ((hs_w_10.gI (by decide)).trans ((hs_w_5.gI (by decide)).trans (hM_w5.gI (by decide))))))) (In_of (hM_w5.gI (by decide)).symm g5_0_45)) ((by rw [show fI w_20 0 12 = fI w 0 12 from ((hs_w_20.gI (by decide)).trans ((hs_w_16.gI (by decide)).trans ((hs_w_13.gI (by decide)).trans ((hs_w_10.gI (by decide)).trans ((hs_w_5.gI (by decide)).trans (hM_w5.gI (by decide)))))))]; exact (HV_cg ((hs_w_20.hA (by decide)).trans ((hs_w_16.hA (by decide)).trans ((hs_w_13.hA (by decide)).trans ((hs_w_10.hA (by decide)).trans ((hs_w_5.hA (by decide)).trans (hM_w5.hA (by decide))))))) (RV_at (k := 0) (o := r_17) (i := (r_17 + 1)) (j := (r_21 + 2)) hRV (R_nle_r (In_of ev_2 (hW_w5.ap tM_4 _) : In 0 24 v_2) i_x5_5 c_3 (by decide) : In 0 23 x5_5) (by have e : (aF w 4 (fI w 0 12).toNatClampNeg).toInt = (v_2 : Int32).toInt := congrArg Int32.toInt ((congrFun (hM_w5.hA (by decide)) _).symm.trans ev_2.symm); omega) o_h_18 (hW_w.fin tM_0 rfl : In 0 1 (fI w 0 12)) (by decide) (by have t10 := t_add i_r_17 (In_lit (n := 1) (by decide) (by decide) : In 1 1 1) (by decide); have z1 : (1 : Int32).toInt = 1 := (by decide); have r1 := o_h_18; have r2 := o_h_22; omega) (by have t10 := t_add i_r_21 (In_lit (n := 2) (by decide) (by decide) : In 2 2 2) (by decide); have z2 : (2 : Int32).toInt = 2 := (by decide); have r1 := o_h_18; have r2 := o_h_22; omega) (ev_19.trans (congrFun ((hs_w_16.hA (by decide)).trans ((hs_w_13.hA (by decide)).trans ((hs_w_10.hA (by decide)).trans ((hs_w_5.hA (by decide)).trans (hM_w5.hA (by decide)))))) _)) (ev_23.trans (congrFun ((hs_w_20.hA (by decide)).trans ((hs_w_16.hA (by decide)).trans ((hs_w_13.hA (by decide)).trans ((hs_w_10.hA (by decide)).trans ((hs_w_5.hA (by decide)).trans (hM_w5.hA (by decide))))))) _)))))) _) ⟨⟨rfl, rfl⟩, rfl, rfl⟩ sv_X12_496 ⟨(Nat.le_trans (by decide) hR.1), (Nat.le_trans (by decide) hR.2)⟩ 0 12 (hW_w_20.o tM_0) rfl rfl rfl hl.1 rfl (Nat.le_of_ble_eq_true rfl) dX12_pointsOf_85) (fun r_25 w_24 H locs hw_w_24 hP hD hS => ?_)
              obtain ⟨hW_w_24, hs_w_24⟩ := hw_w_24
              refine lv_goto (tgt := 92) hx hb dX12_pointsOf_88 (by decide) ?_
              exact J92 r_25 w_24 _ _ ls hW_w_24 ((((((hM_w5.tr hs_w_5 (by decide)).tr hs_w_10 (by decide)).tr hs_w_13 (by decide)).tr hs_w_16 (by decide)).tr hs_w_20 (by decide)).tr hs_w_24 (by decide)) i_p1 i_p2 (R_nle_r (In_of ev_2 (hW_w5.ap tM_4 _) : In 0 24 v_2) i_x5_5 c_3 (by decide) : In 0 23 x5_5) (In_of ((hs_w_24.gI (by decide)).trans ((hs_w_20.gI (by decide)).trans ((hs_w_16.gI (by decide)).trans ((hs_w_13.gI (by decide)).trans ((hs_w_10.gI (by decide)).trans ((hs_w_5.gI (by decide)).trans (hM_w5.gI (by decide)))))))) (In_of (hM_w5.gI (by decide)).symm g5_0_45)) hP hD hS (lv_sub hl [0, 1, 2, 3, 4] rfl)
  refine lv_lconst (v := 0) hx hb dX12_pointsOf_0 (by decide) ?_
  refine lv_lstore_n (lv' := [(3, .long 0), (0, .ref (q 0)), (1, .int p1), (2, .int p2)]) hx hb dX12_pointsOf_1 rfl hl (by decide) rfl (fun ls hl => ?_)
  refine lv_iconst (v := 0) hx hb dX12_pointsOf_2 (by decide) ?_
  refine lv_istore (lv' := [(5, .int 0), (3, .long 0), (0, .ref (q 0)), (1, .int p1), (2, .int p2)]) hx hb dX12_pointsOf_3 hl (by decide) rfl (fun ls hl => ?_)
  exact J5 _ 0 0 w _ _ ls (Nat.lt_succ_self _) hW_w Sm.rf i_p1 i_p2 (In_lit (n := 0) (by decide) (by decide) : In 0 24 0) hf_0_45 hP hD hS (lv_sub hl [2, 3, 4, 1, 0] rfl)
set_option maxRecDepth 100000 in
set_option maxHeartbeats 8000000 in
theorem k_X12_points (l : Launch) (D : va_G) (cI cJ cZ : ClassId) (q : Nat → Nat) (w : va_W) (hW_w : HT q (TM q cI cJ cZ) w) (p1 : Int32) (p2 : Int32) (hLM : LM w) (hRV : RV w) : Con_i l yX12_points cX12_points 3 (some .int) ({ frames := 5, cells := 0, slots := 0, locals := 124 }) D cI cJ cZ eW [.ref (q 0), .int p1, .int p2] w (fun (r : Int32) (w1 : va_W) => HT q (TM q cI cJ cZ) w1 ∧ Sm [0, 26, 27, 28, 29, 30, 31, 32, 33, 34, 35, 36, 37] [(0, 45)] w w1) := by
  refine eQ_i rfl (by decide) (Nat.le_of_ble_eq_true rfl) ⟨rfl, rfl⟩ ?_
  intro p e R s m args below meth c A Q hx hb hml hown hts hK hE hA hR hret hP hD hS ls hl
  have hown : s.vm.findClass RX12 = some m.cls := hown
  have hl : lv_has ls 3 [(0, .ref (q 0)), (1, .int p1), (2, .int p2)] := hl
  refine lv_aload_n hx hb dX12_points_0 rfl (lv_at hl 0 rfl) ?_
  refine kW_v ⟨rfl, rfl⟩ hP hD hS hA (rW_V (As := []) (rest := []) hx hb hml hown hts hK hE hP hD (k_X12_knows l D cI cJ cZ q w hW_w (LM_cg rfl rfl hLM) _) ⟨⟨rfl, rfl⟩, rfl, rfl⟩ sv_X12_471 ⟨(Nat.le_trans (by decide) hR.1), (Nat.le_trans (by decide) hR.2)⟩ 0 12 (hW_w.o tM_0) rfl rfl rfl hl.1 rfl (Nat.le_of_ble_eq_true rfl) dX12_points_1) (fun w_1 H locs hw_w_1 hP hD hS => ?_)
  obtain ⟨hW_w_1, hs_w_1, h_3⟩ := hw_w_1
  refine lv_aload_n hx hb dX12_points_4 rfl (lv_at hl 0 rfl) ?_
  refine lv_iload_n hx hb dX12_points_5 rfl (lv_at hl 1 rfl) ?_
  refine kW_i ⟨rfl, rfl⟩ hP hD hS hA (rW_V (As := [.int p1]) (rest := []) hx hb hml hown hts hK hE hP hD (k_X12_isChild l D cI cJ cZ q w_1 hW_w_1 p1 _) ⟨⟨rfl, rfl⟩, rfl, rfl⟩ sv_X12_512 ⟨(Nat.le_trans (by decide) hR.1), (Nat.le_trans (by decide) hR.2)⟩ 0 12 (hW_w_1.o tM_0) rfl rfl rfl hl.1 rfl (Nat.le_of_ble_eq_true rfl) dX12_points_6) (fun r_5 w_4 H locs hw_w_4 hP hD hS => ?_)
  obtain ⟨hW_w_4, hs_w_4, i_r_5, h_6⟩ := hw_w_4
  refine lv_if_eq (tgt := 20) hx hb dX12_points_9 (by decide) (fun c_7 => ?_) (fun c_7 => ?_)
  · refine lv_ldcw hx hb hown (hts _ wd_1974) dX12_points_20 ?_
    refine lv_goto (tgt := 32) hx hb dX12_points_23 (by decide) ?_
    exact hret _ _ _ _ _ _ hP hD hS dX12_points_32 ⟨hW_w_4, ((Sm.rf.tr hs_w_1 (by decide)).tr hs_w_4 (by decide))⟩
  · refine lv_aload_n hx hb dX12_points_12 rfl (lv_at hl 0 rfl) ?_
    refine lv_iload_n hx hb dX12_points_13 rfl (lv_at hl 2 rfl) ?_
    refine kW_i ⟨rfl, rfl⟩ hP hD hS hA (rW_V (As := [.int p2]) (rest := []) hx hb hml hown hts hK hE hP hD (k_X12_isKind l D cI cJ cZ q w_4 hW_w_4 p2 _) ⟨⟨rfl, rfl⟩, rfl, rfl⟩ sv_X12_450 ⟨(Nat.le_trans (by decide) hR.1), (Nat.le_trans (by decide) hR.2)⟩ 0 12 (hW_w_4.o tM_0) rfl rfl rfl hl.1 rfl (Nat.le_of_ble_eq_true rfl) dX12_points_14) (fun r_9 w_8 H locs hw_w_8 hP hD hS => ?_)
    obtain ⟨hW_w_8, hs_w_8, i_r_9, h_10⟩ := hw_w_8
    refine lv_if_ne (tgt := 26) hx hb dX12_points_17 (by decide) (fun c_11 => ?_) (fun c_11 => ?_)
    · refine lv_aload_n hx hb dX12_points_26 rfl (lv_at hl 0 rfl) ?_
      refine lv_iload_n hx hb dX12_points_27 rfl (lv_at hl 1 rfl) ?_
      refine lv_iload_n hx hb dX12_points_28 rfl (lv_at hl 2 rfl) ?_
      refine kW_i ⟨rfl, rfl⟩ hP hD hS hA (rW_V (As := [.int p1, .int p2]) (rest := []) hx hb hml hown hts hK hE hP hD (k_X12_pointsOf l D cI cJ cZ q w_8 hW_w_8 p1 p2 (h_6 c_7).2 (h_10 c_11) (In_of ((hs_w_8.gI (by decide)).trans (hs_w_4.gI (by decide))) (In_of (hs_w_4.gI (by decide)).symm (h_6 c_7).1)) (RV_cg ((hs_w_8.hA (by decide)).trans ((hs_w_4.hA (by decide)).trans (hs_w_1.hA (by decide)))) ((hs_w_8.hA (by decide)).trans ((hs_w_4.hA (by decide)).trans (hs_w_1.hA (by decide)))) ((hs_w_8.hA (by decide)).trans ((hs_w_4.hA (by decide)).trans (hs_w_1.hA (by decide)))) ((hs_w_8.gI (by decide)).trans ((hs_w_4.gI (by decide)).trans (hs_w_1.2 0 12 (by decide) (by decide)))) hRV) _) ⟨⟨rfl, rfl⟩, rfl, rfl⟩ sv_X12_522 ⟨(Nat.le_trans (by decide) hR.1), (Nat.le_trans (by decide) hR.2)⟩ 0 12 (hW_w_8.o tM_0) rfl rfl rfl hl.1 rfl (Nat.le_of_ble_eq_true rfl) dX12_points_29) (fun r_13 w_12 H locs hw_w_12 hP hD hS => ?_)
      obtain ⟨hW_w_12, hs_w_12⟩ := hw_w_12
      exact hret _ _ _ _ _ _ hP hD hS dX12_points_32 ⟨hW_w_12, ((((Sm.rf.tr hs_w_1 (by decide)).tr hs_w_4 (by decide)).tr hs_w_8 (by decide)).tr hs_w_12 (by decide))⟩
    · refine lv_ldcw hx hb hown (hts _ wd_1974) dX12_points_20 ?_
      refine lv_goto (tgt := 32) hx hb dX12_points_23 (by decide) ?_
      exact hret _ _ _ _ _ _ hP hD hS dX12_points_32 ⟨hW_w_8, (((Sm.rf.tr hs_w_1 (by decide)).tr hs_w_4 (by decide)).tr hs_w_8 (by decide))⟩
