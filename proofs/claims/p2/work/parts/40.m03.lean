set_option maxRecDepth 100000 in
set_option maxHeartbeats 8000000 in
theorem k_X12_marked (l : Launch) (D : va_G) (cI cJ cZ : ClassId) (q : Nat → Nat) (w : va_W) (hW_w : HT q (TM q cI cJ cZ) w) (p1 : Int32) (p2 : Int32) : Con_i l yX12_marked cX12_marked 3 (some .int) ({ frames := 1, cells := 0, slots := 0, locals := 21 }) D cI cJ cZ eW [.ref (q 0), .int p1, .int p2] w (fun (r : Int32) (w1 : va_W) => HT q (TM q cI cJ cZ) w1 ∧ Sm [] [] w w1 ∧ In (-1) 1 r) := by
  refine eQ_i rfl (by decide) (Nat.le_of_ble_eq_true rfl) ⟨rfl, rfl⟩ ?_
  intro p e R s m args below meth c A Q hx hb hml hown hts hK hE hA hR hret hP hD hS ls hl
  have hown : s.vm.findClass RX12 = some m.cls := hown
  have hl : lv_has ls 3 [(0, .ref (q 0)), (1, .int p1), (2, .int p2)] := hl
  refine lv_aload_n hx hb dX12_marked_0 rfl (lv_at hl 0 rfl) ?_
  refine lv_iload_n hx hb dX12_marked_1 rfl (lv_at hl 1 rfl) ?_
  refine kW_i ⟨rfl, rfl⟩ hP hD hS hA (rW_V (As := [.int p1]) (rest := []) hx hb hml hown hts hK hE hP hD (k_X12_isKind l D cI cJ cZ q w hW_w p1 _) ⟨⟨rfl, rfl⟩, rfl, rfl⟩ sv_X12_450 ⟨(Nat.le_trans (by decide) hR.1), (Nat.le_trans (by decide) hR.2)⟩ 0 12 (hW_w.o tM_0) rfl rfl rfl hl.1 rfl (Nat.le_of_ble_eq_true rfl) dX12_marked_2) (fun r_2 w_1 H locs hw_w_1 hP hD hS => ?_)
  obtain ⟨hW_w_1, hs_w_1, i_r_2, h_3⟩ := hw_w_1
  refine lv_if_eq (tgt := 25) hx hb dX12_marked_5 (by decide) (fun c_4 => ?_) (fun c_4 => ?_)
  · refine lv_iconst (v := (-1)) hx hb dX12_marked_25 (by decide) ?_
    refine lv_goto (tgt := 47) hx hb dX12_marked_26 (by decide) ?_
    exact hret _ _ _ _ _ _ hP hD hS dX12_marked_47 ⟨hW_w_1, (Sm.rf.tr hs_w_1 (by decide)), (In_lit (n := (-1)) (by decide) (by decide) : In (-1) 1 (-1))⟩
  · refine lv_iload_n hx hb dX12_marked_8 rfl (lv_at hl 2 rfl) ?_
    refine lv_if_lt (tgt := 25) hx hb dX12_marked_9 (by decide) (fun c_5 => ?_) (fun c_5 => ?_)
    · refine lv_iconst (v := (-1)) hx hb dX12_marked_25 (by decide) ?_
      refine lv_goto (tgt := 47) hx hb dX12_marked_26 (by decide) ?_
      exact hret _ _ _ _ _ _ hP hD hS dX12_marked_47 ⟨hW_w_1, (Sm.rf.tr hs_w_1 (by decide)), (In_lit (n := (-1)) (by decide) (by decide) : In (-1) 1 (-1))⟩
    · refine lv_iload_n hx hb dX12_marked_12 rfl (lv_at hl 2 rfl) ?_
      refine lv_aload_n hx hb dX12_marked_13 rfl (lv_at hl 0 rfl) ?_
      refine gt_X12 hx hb hts hown hK hP 0 (hW_w_1.o tM_0) 15 (by decide) wd_1416 rfl (hW_w_1.fr tM_0 rfl) dX12_marked_14 ?_
      refine lv_aload_n hx hb dX12_marked_17 rfl (lv_at hl 0 rfl) ?_
      refine gt_X12 hx hb hts hown hK hP 0 (hW_w_1.o tM_0) 12 (by decide) wd_1413 rfl (hW_w_1.fi tM_0 rfl) dX12_marked_18 ?_
      refine tov (v := (fI w 0 12)) (hs_w_1.gI (by decide)) ?_
      refine va_iald hx hb hK hP 3 0 (hW_w_1.a tM_3) rfl (in_I (hW_w.fin tM_0 rfl : In 0 1 (fI w 0 12)) (by decide)) dX12_marked_21 ?_
      refine lv_topi (fun v_6 ev_6 => ?_)
      refine lv_icmp_lt (tgt := 29) hx hb dX12_marked_22 (by decide) (fun c_7 => ?_) (fun c_7 => ?_)
      · refine lv_aload_n hx hb dX12_marked_29 rfl (lv_at hl 0 rfl) ?_
        refine gt_X12 hx hb hts hown hK hP 0 (hW_w_1.o tM_0) 23 (by decide) wd_1424 rfl (hW_w_1.fr tM_0 rfl) dX12_marked_30 ?_
        refine lv_bipush (v := 10) hx hb dX12_marked_33 (by decide) ?_
        refine lv_aload_n hx hb dX12_marked_35 rfl (lv_at hl 0 rfl) ?_
        refine gt_X12 hx hb hts hown hK hP 0 (hW_w_1.o tM_0) 12 (by decide) wd_1413 rfl (hW_w_1.fi tM_0 rfl) dX12_marked_36 ?_
        refine tov (v := (fI w 0 12)) (hs_w_1.gI (by decide)) ?_
        refine lv_imul hx hb dX12_marked_39 ?_
        refine lv_iload_n hx hb dX12_marked_40 rfl (lv_at hl 1 rfl) ?_
        refine lv_iadd hx hb dX12_marked_41 ?_
        refine va_iald hx hb hK hP 11 0 (hW_w_1.a tM_11) rfl (in_I ((In_add ((In_mull (hW_w.fin tM_0 rfl : In 0 1 (fI w 0 12)) (n := 10) (by decide) (by decide)) : In 0 10 (10 * (fI w 0 12))) (h_3 c_4) (by decide)) : In 0 19 ((10 * (fI w 0 12)) + p1)) (by decide)) dX12_marked_42 ?_
        refine lv_topi (fun v_8 ev_8 => ?_)
        refine lv_iload_n hx hb dX12_marked_43 rfl (lv_at hl 2 rfl) ?_
        refine lv_ishr hx hb dX12_marked_44 ?_
        refine lv_topi (fun v_9 ev_9 => ?_)
        refine lv_iconst (v := 1) hx hb dX12_marked_45 (by decide) ?_
        refine lv_iand hx hb dX12_marked_46 ?_
        exact hret _ _ _ _ _ _ hP hD hS dX12_marked_47 ⟨hW_w_1, (Sm.rf.tr hs_w_1 (by decide)), (In_w ((In_and (n := 1) (by decide) (by decide)) : In 0 1 (v_9 &&& 1)) (by decide) : In (-1) 1 (v_9 &&& 1))⟩
      · refine lv_iconst (v := (-1)) hx hb dX12_marked_25 (by decide) ?_
        refine lv_goto (tgt := 47) hx hb dX12_marked_26 (by decide) ?_
        exact hret _ _ _ _ _ _ hP hD hS dX12_marked_47 ⟨hW_w_1, (Sm.rf.tr hs_w_1 (by decide)), (In_lit (n := (-1)) (by decide) (by decide) : In (-1) 1 (-1))⟩
set_option maxRecDepth 100000 in
set_option maxHeartbeats 8000000 in
theorem k_X12_tells (l : Launch) (D : va_G) (cI cJ cZ : ClassId) (q : Nat → Nat) (w : va_W) (hW_w : HT q (TM q cI cJ cZ) w) (p1 : Int32) (p2 : Int32) (p3 : Int32) (p4 : Int32) (p5 : Int32) (p6 : Int32) (i_p1 : In 0 3 p1) (hf_0_37 : In 0 199 (fI w 0 37)) : Con_i l yX12_tells cX12_tells 7 (some .int) ({ frames := 0, cells := 0, slots := 0, locals := 0 }) D cI cJ cZ eW [.ref (q 0), .int p1, .int p2, .int p3, .int p4, .int p5, .int p6] w (fun (r : Int32) (w1 : va_W) => HT q (TM q cI cJ cZ) w1 ∧ Sm [0, 21, 22, 23] [(0, 37)] w w1 ∧ In 1 200 r ∧ In 1 200 (fI w1 0 37) ∧ ((LM w → okM p1 p2 p3 p6 → LM w1))) := by
  refine eQ_i rfl (by decide) (Nat.le_of_ble_eq_true rfl) ⟨rfl, rfl⟩ ?_
  intro p e R s m args below meth c A Q hx hb hml hown hts hK hE hA hR hret hP hD hS ls hl
  have hown : s.vm.findClass RX12 = some m.cls := hown
  have hl : lv_has ls 7 [(0, .ref (q 0)), (1, .int p1), (2, .int p2), (3, .int p3), (4, .int p4), (5, .int p5), (6, .int p6)] := hl
  refine lv_aload_n hx hb dX12_tells_0 rfl (lv_at hl 0 rfl) ?_
  refine lv_dup hx hb dX12_tells_1 rfl ?_
  refine gt_X12 hx hb hts hown hK hP 0 (hW_w.o tM_0) 37 (by decide) wd_1438 rfl (hW_w.fi tM_0 rfl) dX12_tells_2 ?_
  refine lv_iconst (v := 1) hx hb dX12_tells_5 (by decide) ?_
  refine lv_iadd hx hb dX12_tells_6 ?_
  refine pt_X12 hx hb hts hown hK hP hD hS 0 (hW_w.o tM_0) 37 (by decide) wd_1438 rfl rfl (ty := .int) (v := .int ((fI w 0 37) + 1)) (by decide +kernel) rfl rfl (hW_w.ll tM_0 (Nat.le_of_ble_eq_true rfl)) dX12_tells_7 (fun H locs hP hD hS => fr_w (hW_w.sI tM_0 rfl (In_w ((In_add hf_0_37 (In_lit (n := 1) (by decide) (by decide) : In 1 1 1) (by decide)) : In 1 200 ((fI w 0 37) + 1)) (by decide) : In 0 200 ((fI w 0 37) + 1))) hP hD (fun w_1 ew_1 hW_w_1 hP hD => ?_))
  refine lv_aload_n hx hb dX12_tells_10 rfl (lv_at hl 0 rfl) ?_
  refine gt_X12 hx hb hts hown hK hP 0 (hW_w_1.o tM_0) 40 (by decide) wd_1441 rfl (hW_w_1.fr tM_0 rfl) dX12_tells_11 ?_
  refine lv_aload_n hx hb dX12_tells_14 rfl (lv_at hl 0 rfl) ?_
  refine gt_X12 hx hb hts hown hK hP 0 (hW_w_1.o tM_0) 37 (by decide) wd_1438 rfl (hW_w_1.fi tM_0 rfl) dX12_tells_15 ?_
  refine tov (v := ((fI w 0 37) + 1)) (fI_eq (hW_w.lt tM_0) ew_1 (hW_w.ll tM_0 (Nat.le_of_ble_eq_true rfl))) ?_
  refine lv_iload_n hx hb dX12_tells_18 rfl (lv_at hl 1 rfl) ?_
  refine va_iast hx hb hK hP hD hS 21 0 (hW_w_1.a tM_21) rfl (in_I ((In_add hf_0_37 (In_lit (n := 1) (by decide) (by decide) : In 1 1 1) (by decide)) : In 1 200 ((fI w 0 37) + 1)) (by decide)) dX12_tells_19 (fun H locs hP hD hS => fr_w (hW_w_1.uA tM_21 (In_w i_p1 (by decide) : In (-2147483648) 2147483647 p1)) hP hD (fun w_2 ew_2 hW_w_2 hP hD => ?_))
  refine lv_aload_n hx hb dX12_tells_20 rfl (lv_at hl 0 rfl) ?_
  refine gt_X12 hx hb hts hown hK hP 0 (hW_w_2.o tM_0) 42 (by decide) wd_1443 rfl (hW_w_2.fr tM_0 rfl) dX12_tells_21 ?_
  refine lv_aload_n hx hb dX12_tells_24 rfl (lv_at hl 0 rfl) ?_
  refine gt_X12 hx hb hts hown hK hP 0 (hW_w_2.o tM_0) 37 (by decide) wd_1438 rfl (hW_w_2.fi tM_0 rfl) dX12_tells_25 ?_
  refine tov (v := ((fI w 0 37) + 1)) ((fI_cg (st_ne ew_2 (by decide))).trans (fI_eq (hW_w.lt tM_0) ew_1 (hW_w.ll tM_0 (Nat.le_of_ble_eq_true rfl)))) ?_
  refine lv_iconst (v := 0) hx hb dX12_tells_28 (by decide) ?_
  refine va_iast hx hb hK hP hD hS 23 0 (hW_w_2.a tM_23) rfl (in_I ((In_add hf_0_37 (In_lit (n := 1) (by decide) (by decide) : In 1 1 1) (by decide)) : In 1 200 ((fI w 0 37) + 1)) (by decide)) dX12_tells_29 (fun H locs hP hD hS => fr_w (hW_w_2.uA tM_23 (In_lit (n := 0) (by decide) (by decide) : In (-2147483648) 2147483647 0)) hP hD (fun w_3 ew_3 hW_w_3 hP hD => ?_))
  refine lv_aload_n hx hb dX12_tells_30 rfl (lv_at hl 0 rfl) ?_
  refine gt_X12 hx hb hts hown hK hP 0 (hW_w_3.o tM_0) 41 (by decide) wd_1442 rfl (hW_w_3.fr tM_0 rfl) dX12_tells_31 ?_
  refine lv_iconst (v := 5) hx hb dX12_tells_34 (by decide) ?_
  refine lv_aload_n hx hb dX12_tells_35 rfl (lv_at hl 0 rfl) ?_
  refine gt_X12 hx hb hts hown hK hP 0 (hW_w_3.o tM_0) 37 (by decide) wd_1438 rfl (hW_w_3.fi tM_0 rfl) dX12_tells_36 ?_
  refine tov (v := ((fI w 0 37) + 1)) ((fI_cg (st_ne ew_3 (by decide))).trans ((fI_cg (st_ne ew_2 (by decide))).trans (fI_eq (hW_w.lt tM_0) ew_1 (hW_w.ll tM_0 (Nat.le_of_ble_eq_true rfl))))) ?_
  refine lv_imul hx hb dX12_tells_39 ?_
  refine lv_iload_n hx hb dX12_tells_40 rfl (lv_at hl 2 rfl) ?_
  refine va_iast hx hb hK hP hD hS 22 0 (hW_w_3.a tM_22) rfl (in_I ((In_mull ((In_add hf_0_37 (In_lit (n := 1) (by decide) (by decide) : In 1 1 1) (by decide)) : In 1 200 ((fI w 0 37) + 1)) (n := 5) (by decide) (by decide)) : In 5 1000 (5 * ((fI w 0 37) + 1))) (by decide)) dX12_tells_41 (fun H locs hP hD hS => fr_w (hW_w_3.uA tM_22 (In_any p2)) hP hD (fun w_4 ew_4 hW_w_4 hP hD => ?_))
  refine lv_aload_n hx hb dX12_tells_42 rfl (lv_at hl 0 rfl) ?_
  refine gt_X12 hx hb hts hown hK hP 0 (hW_w_4.o tM_0) 41 (by decide) wd_1442 rfl (hW_w_4.fr tM_0 rfl) dX12_tells_43 ?_
  refine lv_iconst (v := 5) hx hb dX12_tells_46 (by decide) ?_
  refine lv_aload_n hx hb dX12_tells_47 rfl (lv_at hl 0 rfl) ?_
  refine gt_X12 hx hb hts hown hK hP 0 (hW_w_4.o tM_0) 37 (by decide) wd_1438 rfl (hW_w_4.fi tM_0 rfl) dX12_tells_48 ?_
  refine tov (v := ((fI w 0 37) + 1)) ((fI_cg (st_ne ew_4 (by decide))).trans ((fI_cg (st_ne ew_3 (by decide))).trans ((fI_cg (st_ne ew_2 (by decide))).trans (fI_eq (hW_w.lt tM_0) ew_1 (hW_w.ll tM_0 (Nat.le_of_ble_eq_true rfl)))))) ?_
  refine lv_imul hx hb dX12_tells_51 ?_
  refine lv_iconst (v := 1) hx hb dX12_tells_52 (by decide) ?_
  refine lv_iadd hx hb dX12_tells_53 ?_
  refine lv_iload_n hx hb dX12_tells_54 rfl (lv_at hl 3 rfl) ?_
  refine va_iast hx hb hK hP hD hS 22 0 (hW_w_4.a tM_22) rfl (in_I ((In_add ((In_mull ((In_add hf_0_37 (In_lit (n := 1) (by decide) (by decide) : In 1 1 1) (by decide)) : In 1 200 ((fI w 0 37) + 1)) (n := 5) (by decide) (by decide)) : In 5 1000 (5 * ((fI w 0 37) + 1))) (In_lit (n := 1) (by decide) (by decide) : In 1 1 1) (by decide)) : In 6 1001 ((5 * ((fI w 0 37) + 1)) + 1)) (by decide)) dX12_tells_55 (fun H locs hP hD hS => fr_w (hW_w_4.uA tM_22 (In_any p3)) hP hD (fun w_5 ew_5 hW_w_5 hP hD => ?_))
  refine lv_aload_n hx hb dX12_tells_56 rfl (lv_at hl 0 rfl) ?_
  refine gt_X12 hx hb hts hown hK hP 0 (hW_w_5.o tM_0) 41 (by decide) wd_1442 rfl (hW_w_5.fr tM_0 rfl) dX12_tells_57 ?_
  refine lv_iconst (v := 5) hx hb dX12_tells_60 (by decide) ?_
  refine lv_aload_n hx hb dX12_tells_61 rfl (lv_at hl 0 rfl) ?_
  refine gt_X12 hx hb hts hown hK hP 0 (hW_w_5.o tM_0) 37 (by decide) wd_1438 rfl (hW_w_5.fi tM_0 rfl) dX12_tells_62 ?_
  refine tov (v := ((fI w 0 37) + 1)) ((fI_cg (st_ne ew_5 (by decide))).trans ((fI_cg (st_ne ew_4 (by decide))).trans ((fI_cg (st_ne ew_3 (by decide))).trans ((fI_cg (st_ne ew_2 (by decide))).trans (fI_eq (hW_w.lt tM_0) ew_1 (hW_w.ll tM_0 (Nat.le_of_ble_eq_true rfl))))))) ?_
  refine lv_imul hx hb dX12_tells_65 ?_
  refine lv_iconst (v := 2) hx hb dX12_tells_66 (by decide) ?_
  refine lv_iadd hx hb dX12_tells_67 ?_
  refine lv_iload hx hb dX12_tells_68 (lv_at hl 4 rfl) ?_
  refine va_iast hx hb hK hP hD hS 22 0 (hW_w_5.a tM_22) rfl (in_I ((In_add ((In_mull ((In_add hf_0_37 (In_lit (n := 1) (by decide) (by decide) : In 1 1 1) (by decide)) : In 1 200 ((fI w 0 37) + 1)) (n := 5) (by decide) (by decide)) : In 5 1000 (5 * ((fI w 0 37) + 1))) (In_lit (n := 2) (by decide) (by decide) : In 2 2 2) (by decide)) : In 7 1002 ((5 * ((fI w 0 37) + 1)) + 2)) (by decide)) dX12_tells_70 (fun H locs hP hD hS => fr_w (hW_w_5.uA tM_22 (In_any p4)) hP hD (fun w_6 ew_6 hW_w_6 hP hD => ?_))
  refine lv_aload_n hx hb dX12_tells_71 rfl (lv_at hl 0 rfl) ?_
  refine gt_X12 hx hb hts hown hK hP 0 (hW_w_6.o tM_0) 41 (by decide) wd_1442 rfl (hW_w_6.fr tM_0 rfl) dX12_tells_72 ?_
  refine lv_iconst (v := 5) hx hb dX12_tells_75 (by decide) ?_
  refine lv_aload_n hx hb dX12_tells_76 rfl (lv_at hl 0 rfl) ?_
  refine gt_X12 hx hb hts hown hK hP 0 (hW_w_6.o tM_0) 37 (by decide) wd_1438 rfl (hW_w_6.fi tM_0 rfl) dX12_tells_77 ?_
  refine tov (v := ((fI w 0 37) + 1)) ((fI_cg (st_ne ew_6 (by decide))).trans ((fI_cg (st_ne ew_5 (by decide))).trans ((fI_cg (st_ne ew_4 (by decide))).trans ((fI_cg (st_ne ew_3 (by decide))).trans ((fI_cg (st_ne ew_2 (by decide))).trans (fI_eq (hW_w.lt tM_0) ew_1 (hW_w.ll tM_0 (Nat.le_of_ble_eq_true rfl)))))))) ?_
  refine lv_imul hx hb dX12_tells_80 ?_
  refine lv_iconst (v := 3) hx hb dX12_tells_81 (by decide) ?_
  refine lv_iadd hx hb dX12_tells_82 ?_
  refine lv_iload hx hb dX12_tells_83 (lv_at hl 5 rfl) ?_
  refine va_iast hx hb hK hP hD hS 22 0 (hW_w_6.a tM_22) rfl (in_I ((In_add ((In_mull ((In_add hf_0_37 (In_lit (n := 1) (by decide) (by decide) : In 1 1 1) (by decide)) : In 1 200 ((fI w 0 37) + 1)) (n := 5) (by decide) (by decide)) : In 5 1000 (5 * ((fI w 0 37) + 1))) (In_lit (n := 3) (by decide) (by decide) : In 3 3 3) (by decide)) : In 8 1003 ((5 * ((fI w 0 37) + 1)) + 3)) (by decide)) dX12_tells_85 (fun H locs hP hD hS => fr_w (hW_w_6.uA tM_22 (In_any p5)) hP hD (fun w_7 ew_7 hW_w_7 hP hD => ?_))
  refine lv_aload_n hx hb dX12_tells_86 rfl (lv_at hl 0 rfl) ?_
  refine gt_X12 hx hb hts hown hK hP 0 (hW_w_7.o tM_0) 41 (by decide) wd_1442 rfl (hW_w_7.fr tM_0 rfl) dX12_tells_87 ?_
  refine lv_iconst (v := 5) hx hb dX12_tells_90 (by decide) ?_
  refine lv_aload_n hx hb dX12_tells_91 rfl (lv_at hl 0 rfl) ?_
  refine gt_X12 hx hb hts hown hK hP 0 (hW_w_7.o tM_0) 37 (by decide) wd_1438 rfl (hW_w_7.fi tM_0 rfl) dX12_tells_92 ?_
  refine tov (v := ((fI w 0 37) + 1)) ((fI_cg (st_ne ew_7 (by decide))).trans ((fI_cg (st_ne ew_6 (by decide))).trans ((fI_cg (st_ne ew_5 (by decide))).trans ((fI_cg (st_ne ew_4 (by decide))).trans ((fI_cg (st_ne ew_3 (by decide))).trans ((fI_cg (st_ne ew_2 (by decide))).trans (fI_eq (hW_w.lt tM_0) ew_1 (hW_w.ll tM_0 (Nat.le_of_ble_eq_true rfl))))))))) ?_
  refine lv_imul hx hb dX12_tells_95 ?_
  refine lv_iconst (v := 4) hx hb dX12_tells_96 (by decide) ?_
  refine lv_iadd hx hb dX12_tells_97 ?_
  refine lv_iload hx hb dX12_tells_98 (lv_at hl 6 rfl) ?_
  refine va_iast hx hb hK hP hD hS 22 0 (hW_w_7.a tM_22) rfl (in_I ((In_add ((In_mull ((In_add hf_0_37 (In_lit (n := 1) (by decide) (by decide) : In 1 1 1) (by decide)) : In 1 200 ((fI w 0 37) + 1)) (n := 5) (by decide) (by decide)) : In 5 1000 (5 * ((fI w 0 37) + 1))) (In_lit (n := 4) (by decide) (by decide) : In 4 4 4) (by decide)) : In 9 1004 ((5 * ((fI w 0 37) + 1)) + 4)) (by decide)) dX12_tells_100 (fun H locs hP hD hS => fr_w (hW_w_7.uA tM_22 (In_any p6)) hP hD (fun w_8 ew_8 hW_w_8 hP hD => ?_))
  refine lv_aload_n hx hb dX12_tells_101 rfl (lv_at hl 0 rfl) ?_
  refine gt_X12 hx hb hts hown hK hP 0 (hW_w_8.o tM_0) 37 (by decide) wd_1438 rfl (hW_w_8.fi tM_0 rfl) dX12_tells_102 ?_
  refine tov (v := ((fI w 0 37) + 1)) ((fI_cg (st_ne ew_8 (by decide))).trans ((fI_cg (st_ne ew_7 (by decide))).trans ((fI_cg (st_ne ew_6 (by decide))).trans ((fI_cg (st_ne ew_5 (by decide))).trans ((fI_cg (st_ne ew_4 (by decide))).trans ((fI_cg (st_ne ew_3 (by decide))).trans ((fI_cg (st_ne ew_2 (by decide))).trans (fI_eq (hW_w.lt tM_0) ew_1 (hW_w.ll tM_0 (Nat.le_of_ble_eq_true rfl)))))))))) ?_
  exact hret _ _ _ _ _ _ hP hD hS dX12_tells_105 ⟨hW_w_8, ((((((((Sm.rf.sf (hW_w.lt tM_0) ew_1 (by decide)).sa ew_2 (by decide)).sa ew_3 (by decide)).sa ew_4 (by decide)).sa ew_5 (by decide)).sa ew_6 (by decide)).sa ew_7 (by decide)).sa ew_8 (by decide)), ((In_add hf_0_37 (In_lit (n := 1) (by decide) (by decide) : In 1 1 1) (by decide)) : In 1 200 ((fI w 0 37) + 1)), (In_of ((fI_cg (st_ne ew_8 (by decide))).trans ((fI_cg (st_ne ew_7 (by decide))).trans ((fI_cg (st_ne ew_6 (by decide))).trans ((fI_cg (st_ne ew_5 (by decide))).trans ((fI_cg (st_ne ew_4 (by decide))).trans ((fI_cg (st_ne ew_3 (by decide))).trans ((fI_cg (st_ne ew_2 (by decide))).trans (fI_eq (hW_w.lt tM_0) ew_1 (hW_w.ll tM_0 (Nat.le_of_ble_eq_true rfl)))))))))) ((In_add hf_0_37 (In_lit (n := 1) (by decide) (by decide) : In 1 1 1) (by decide)) : In 1 200 ((fI w 0 37) + 1))), (fun hL hk => LM_add (a0 := (fI w 0 37) + 1) ((In_add hf_0_37 (In_lit (n := 1) (by decide) (by decide) : In 1 1 1) (by decide)) : In 1 200 ((fI w 0 37) + 1)) (t := p1) (x := p2) (y := p3) (z := p4) (u := p5) (v := p6) (by rw [(aF_cg (st_ne ew_8 (by decide))), (aF_cg (st_ne ew_7 (by decide))), (aF_cg (st_ne ew_6 (by decide))), (aF_cg (st_ne ew_5 (by decide))), (aF_cg (st_ne ew_4 (by decide))), (aF_cg (st_ne ew_3 (by decide))), (aF_eq (hW_w_1.lt tM_21) ew_2), (aF_cg (st_ne ew_1 (by decide)))]) (by rw [(aF_eq (hW_w_7.lt tM_22) ew_8), (aF_eq (hW_w_6.lt tM_22) ew_7), (aF_eq (hW_w_5.lt tM_22) ew_6), (aF_eq (hW_w_4.lt tM_22) ew_5), (aF_eq (hW_w_3.lt tM_22) ew_4), (aF_cg (st_ne ew_3 (by decide))), (aF_cg (st_ne ew_2 (by decide))), (aF_cg (st_ne ew_1 (by decide)))]) hL hk)⟩
set_option maxRecDepth 100000 in
set_option maxHeartbeats 8000000 in
theorem k_X12_gifts (l : Launch) (D : va_G) (cI cJ cZ : ClassId) (q : Nat → Nat) (w : va_W) (hW_w : HT q (TM q cI cJ cZ) w) (p1 : Int32) (p2 : Int32) (p3 : Int32) : Con_i l yX12_gifts cX12_gifts 4 (some .int) ({ frames := 1, cells := 0, slots := 0, locals := 26 }) D cI cJ cZ eW [.ref (q 0), .int p1, .int p2, .int p3] w (fun (r : Int32) (w1 : va_W) => HT q (TM q cI cJ cZ) w1 ∧ Sm [0, 21, 22, 23] [(0, 37)] w w1 ∧ In (-1) 200 r ∧ ((LM w → LM w1))) := by
  refine eQ_i rfl (by decide) (Nat.le_of_ble_eq_true rfl) ⟨rfl, rfl⟩ ?_
  intro p e R s m args below meth c A Q hx hb hml hown hts hK hE hA hR hret hP hD hS ls hl
  have hown : s.vm.findClass RX12 = some m.cls := hown
  have hl : lv_has ls 4 [(0, .ref (q 0)), (1, .int p1), (2, .int p2), (3, .int p3)] := hl
  refine lv_aload_n hx hb dX12_gifts_0 rfl (lv_at hl 0 rfl) ?_
  refine lv_iload_n hx hb dX12_gifts_1 rfl (lv_at hl 1 rfl) ?_
  refine kW_i ⟨rfl, rfl⟩ hP hD hS hA (rW_V (As := [.int p1]) (rest := []) hx hb hml hown hts hK hE hP hD (k_X12_isKind l D cI cJ cZ q w hW_w p1 _) ⟨⟨rfl, rfl⟩, rfl, rfl⟩ sv_X12_450 ⟨(Nat.le_trans (by decide) hR.1), (Nat.le_trans (by decide) hR.2)⟩ 0 12 (hW_w.o tM_0) rfl rfl rfl hl.1 rfl (Nat.le_of_ble_eq_true rfl) dX12_gifts_2) (fun r_2 w_1 H locs hw_w_1 hP hD hS => ?_)
  obtain ⟨hW_w_1, hs_w_1, i_r_2, h_3⟩ := hw_w_1
  refine lv_if_eq (tgt := 38) hx hb dX12_gifts_5 (by decide) (fun c_4 => ?_) (fun c_4 => ?_)
  · refine lv_iconst (v := (-1)) hx hb dX12_gifts_38 (by decide) ?_
    refine lv_goto (tgt := 52) hx hb dX12_gifts_39 (by decide) ?_
    exact hret _ _ _ _ _ _ hP hD hS dX12_gifts_52 ⟨hW_w_1, (Sm.rf.tr hs_w_1 (by decide)), (In_lit (n := (-1)) (by decide) (by decide) : In (-1) 200 (-1)), (fun hL => (LM_cg (hs_w_1.hA (by decide)) (hs_w_1.hA (by decide)) hL))⟩
  · refine lv_iload_n hx hb dX12_gifts_8 rfl (lv_at hl 2 rfl) ?_
    refine lv_iconst (v := 1) hx hb dX12_gifts_9 (by decide) ?_
    refine lv_bipush (v := 24) hx hb dX12_gifts_10 (by decide) ?_
    refine kW_i ⟨rfl, rfl⟩ hP hD hS hA (rW_S (As := [.int p2, .int 1, .int 24]) (rest := []) hx hb hml hown hts hK hE hP hD (k_X12_is l D cI cJ cZ q w_1 hW_w_1 p2 1 24 _) ⟨⟨rfl, rfl⟩, rfl, rfl⟩ sv_X12_322 ⟨(Nat.le_trans (by decide) hR.1), (Nat.le_trans (by decide) hR.2)⟩ rfl hl.1 rfl (Nat.le_of_ble_eq_true rfl) dX12_gifts_12) (fun r_6 w_5 H locs hw_w_5 hP hD hS => ?_)
    obtain ⟨hW_w_5, hs_w_5, i_r_6, h_7⟩ := hw_w_5
    refine lv_if_eq (tgt := 38) hx hb dX12_gifts_15 (by decide) (fun c_8 => ?_) (fun c_8 => ?_)
    · refine lv_iconst (v := (-1)) hx hb dX12_gifts_38 (by decide) ?_
      refine lv_goto (tgt := 52) hx hb dX12_gifts_39 (by decide) ?_
      exact hret _ _ _ _ _ _ hP hD hS dX12_gifts_52 ⟨hW_w_5, ((Sm.rf.tr hs_w_1 (by decide)).tr hs_w_5 (by decide)), (In_lit (n := (-1)) (by decide) (by decide) : In (-1) 200 (-1)), (fun hL => (LM_cg (hs_w_5.hA (by decide)) (hs_w_5.hA (by decide)) (LM_cg (hs_w_1.hA (by decide)) (hs_w_1.hA (by decide)) hL)))⟩
    · refine lv_iload_n hx hb dX12_gifts_18 rfl (lv_at hl 3 rfl) ?_
      refine lv_iconst (v := 1) hx hb dX12_gifts_19 (by decide) ?_
      refine lv_bipush (v := 99) hx hb dX12_gifts_20 (by decide) ?_
      refine kW_i ⟨rfl, rfl⟩ hP hD hS hA (rW_S (As := [.int p3, .int 1, .int 99]) (rest := []) hx hb hml hown hts hK hE hP hD (k_X12_is l D cI cJ cZ q w_5 hW_w_5 p3 1 99 _) ⟨⟨rfl, rfl⟩, rfl, rfl⟩ sv_X12_322 ⟨(Nat.le_trans (by decide) hR.1), (Nat.le_trans (by decide) hR.2)⟩ rfl hl.1 rfl (Nat.le_of_ble_eq_true rfl) dX12_gifts_22) (fun r_10 w_9 H locs hw_w_9 hP hD hS => ?_)
      obtain ⟨hW_w_9, hs_w_9, i_r_10, h_11⟩ := hw_w_9
      refine lv_if_eq (tgt := 38) hx hb dX12_gifts_25 (by decide) (fun c_12 => ?_) (fun c_12 => ?_)
      · refine lv_iconst (v := (-1)) hx hb dX12_gifts_38 (by decide) ?_
        refine lv_goto (tgt := 52) hx hb dX12_gifts_39 (by decide) ?_
        exact hret _ _ _ _ _ _ hP hD hS dX12_gifts_52 ⟨hW_w_9, (((Sm.rf.tr hs_w_1 (by decide)).tr hs_w_5 (by decide)).tr hs_w_9 (by decide)), (In_lit (n := (-1)) (by decide) (by decide) : In (-1) 200 (-1)), (fun hL => (LM_cg (hs_w_9.hA (by decide)) (hs_w_9.hA (by decide)) (LM_cg (hs_w_5.hA (by decide)) (hs_w_5.hA (by decide)) (LM_cg (hs_w_1.hA (by decide)) (hs_w_1.hA (by decide)) hL))))⟩
      · refine lv_aload_n hx hb dX12_gifts_28 rfl (lv_at hl 0 rfl) ?_
        refine gt_X12 hx hb hts hown hK hP 0 (hW_w_9.o tM_0) 37 (by decide) wd_1438 rfl (hW_w_9.fi tM_0 rfl) dX12_gifts_29 ?_
        refine tov (v := (fI w 0 37)) ((hs_w_9.gI (by decide)).trans ((hs_w_5.gI (by decide)).trans (hs_w_1.gI (by decide)))) ?_
        refine lv_sipush (v := 200) hx hb dX12_gifts_32 (by decide) ?_
        refine lv_icmp_ne (tgt := 42) hx hb dX12_gifts_35 (by decide) (fun c_13 => ?_) (fun c_13 => ?_)
        · refine lv_aload_n hx hb dX12_gifts_42 rfl (lv_at hl 0 rfl) ?_
          refine lv_iconst (v := 1) hx hb dX12_gifts_43 (by decide) ?_
          refine lv_iload_n hx hb dX12_gifts_44 rfl (lv_at hl 1 rfl) ?_
          refine lv_iload_n hx hb dX12_gifts_45 rfl (lv_at hl 2 rfl) ?_
          refine lv_iload_n hx hb dX12_gifts_46 rfl (lv_at hl 3 rfl) ?_
          refine lv_iconst (v := 0) hx hb dX12_gifts_47 (by decide) ?_
          refine lv_iconst (v := 0) hx hb dX12_gifts_48 (by decide) ?_
          refine kW_i ⟨rfl, rfl⟩ hP hD hS hA (rW_V (As := [.int 1, .int p1, .int p2, .int p3, .int 0, .int 0]) (rest := []) hx hb hml hown hts hK hE hP hD (k_X12_tells l D cI cJ cZ q w_9 hW_w_9 1 p1 p2 p3 0 0 (In_lit (n := 1) (by decide) (by decide) : In 0 3 1) (In_of ((hs_w_9.gI (by decide)).trans ((hs_w_5.gI (by decide)).trans (hs_w_1.gI (by decide)))) (R_ne_l (hW_w.fin tM_0 rfl : In 0 200 (fI w 0 37)) (In_lit (n := 200) (by decide) (by decide) : In 200 200 200) c_13 (by decide) : In 0 199 (fI w 0 37))) _) ⟨⟨rfl, rfl⟩, rfl, rfl⟩ sv_X12_453 ⟨(Nat.le_trans (by decide) hR.1), (Nat.le_trans (by decide) hR.2)⟩ 0 12 (hW_w_9.o tM_0) rfl rfl rfl hl.1 rfl (Nat.le_of_ble_eq_true rfl) dX12_gifts_49) (fun r_15 w_14 H locs hw_w_14 hP hD hS => ?_)
          obtain ⟨hW_w_14, hs_w_14, i_r_15, h_16, h_17⟩ := hw_w_14
          exact hret _ _ _ _ _ _ hP hD hS dX12_gifts_52 ⟨hW_w_14, ((((Sm.rf.tr hs_w_1 (by decide)).tr hs_w_5 (by decide)).tr hs_w_9 (by decide)).tr hs_w_14 (by decide)), (In_w i_r_15 (by decide) : In (-1) 200 r_15), (fun hL => (h_17 (LM_cg (hs_w_9.hA (by decide)) (hs_w_9.hA (by decide)) (LM_cg (hs_w_5.hA (by decide)) (hs_w_5.hA (by decide)) (LM_cg (hs_w_1.hA (by decide)) (hs_w_1.hA (by decide)) hL))) ⟨(fun q => absurd q (by decide)), (fun _ => ⟨(h_3 c_4), (In_w (by have q0 := h_7 c_8; have q1 := (In_lit (n := 1) (by decide) (by decide) : In 1 1 1); have q2 := (In_lit (n := 24) (by decide) (by decide) : In 24 24 24); have q3 := (In_any p2); unfold In at q1 q2 q3 ⊢; omega : In 1 24 p2) (by decide) : In 0 24 p2)⟩)⟩))⟩
        · refine lv_iconst (v := (-1)) hx hb dX12_gifts_38 (by decide) ?_
          refine lv_goto (tgt := 52) hx hb dX12_gifts_39 (by decide) ?_
          exact hret _ _ _ _ _ _ hP hD hS dX12_gifts_52 ⟨hW_w_9, (((Sm.rf.tr hs_w_1 (by decide)).tr hs_w_5 (by decide)).tr hs_w_9 (by decide)), (In_lit (n := (-1)) (by decide) (by decide) : In (-1) 200 (-1)), (fun hL => (LM_cg (hs_w_9.hA (by decide)) (hs_w_9.hA (by decide)) (LM_cg (hs_w_5.hA (by decide)) (hs_w_5.hA (by decide)) (LM_cg (hs_w_1.hA (by decide)) (hs_w_1.hA (by decide)) hL))))⟩
set_option maxRecDepth 100000 in
set_option maxHeartbeats 8000000 in
theorem k_X12_call (l : Launch) (D : va_G) (cI cJ cZ : ClassId) (q : Nat → Nat) (w : va_W) (hW_w : HT q (TM q cI cJ cZ) w) (p1 : Int32) (p2 : Int32) : Con_i l yX12_call cX12_call 3 (some .int) ({ frames := 1, cells := 0, slots := 0, locals := 26 }) D cI cJ cZ eW [.ref (q 0), .int p1, .int p2] w (fun (r : Int32) (w1 : va_W) => HT q (TM q cI cJ cZ) w1 ∧ Sm [0, 21, 22, 23] [(0, 37)] w w1 ∧ In (-1) 200 r ∧ ((LM w → LM w1))) := by
  refine eQ_i rfl (by decide) (Nat.le_of_ble_eq_true rfl) ⟨rfl, rfl⟩ ?_
  intro p e R s m args below meth c A Q hx hb hml hown hts hK hE hA hR hret hP hD hS ls hl
  have hown : s.vm.findClass RX12 = some m.cls := hown
  have hl : lv_has ls 3 [(0, .ref (q 0)), (1, .int p1), (2, .int p2)] := hl
  refine lv_aload_n hx hb dX12_call_0 rfl (lv_at hl 0 rfl) ?_
  refine lv_iload_n hx hb dX12_call_1 rfl (lv_at hl 1 rfl) ?_
  refine kW_i ⟨rfl, rfl⟩ hP hD hS hA (rW_V (As := [.int p1]) (rest := []) hx hb hml hown hts hK hE hP hD (k_X12_isKind l D cI cJ cZ q w hW_w p1 _) ⟨⟨rfl, rfl⟩, rfl, rfl⟩ sv_X12_450 ⟨(Nat.le_trans (by decide) hR.1), (Nat.le_trans (by decide) hR.2)⟩ 0 12 (hW_w.o tM_0) rfl rfl rfl hl.1 rfl (Nat.le_of_ble_eq_true rfl) dX12_call_2) (fun r_2 w_1 H locs hw_w_1 hP hD hS => ?_)
  obtain ⟨hW_w_1, hs_w_1, i_r_2, h_3⟩ := hw_w_1
  refine lv_if_eq (tgt := 28) hx hb dX12_call_5 (by decide) (fun c_4 => ?_) (fun c_4 => ?_)
  · refine lv_iconst (v := (-1)) hx hb dX12_call_28 (by decide) ?_
    refine lv_goto (tgt := 42) hx hb dX12_call_29 (by decide) ?_
    exact hret _ _ _ _ _ _ hP hD hS dX12_call_42 ⟨hW_w_1, (Sm.rf.tr hs_w_1 (by decide)), (In_lit (n := (-1)) (by decide) (by decide) : In (-1) 200 (-1)), (fun hL => (LM_cg (hs_w_1.hA (by decide)) (hs_w_1.hA (by decide)) hL))⟩
  · refine lv_iload_n hx hb dX12_call_8 rfl (lv_at hl 2 rfl) ?_
    refine lv_iconst (v := 1) hx hb dX12_call_9 (by decide) ?_
    refine lv_bipush (v := 24) hx hb dX12_call_10 (by decide) ?_
    refine kW_i ⟨rfl, rfl⟩ hP hD hS hA (rW_S (As := [.int p2, .int 1, .int 24]) (rest := []) hx hb hml hown hts hK hE hP hD (k_X12_is l D cI cJ cZ q w_1 hW_w_1 p2 1 24 _) ⟨⟨rfl, rfl⟩, rfl, rfl⟩ sv_X12_322 ⟨(Nat.le_trans (by decide) hR.1), (Nat.le_trans (by decide) hR.2)⟩ rfl hl.1 rfl (Nat.le_of_ble_eq_true rfl) dX12_call_12) (fun r_6 w_5 H locs hw_w_5 hP hD hS => ?_)
    obtain ⟨hW_w_5, hs_w_5, i_r_6, h_7⟩ := hw_w_5
    refine lv_if_eq (tgt := 28) hx hb dX12_call_15 (by decide) (fun c_8 => ?_) (fun c_8 => ?_)
    · refine lv_iconst (v := (-1)) hx hb dX12_call_28 (by decide) ?_
      refine lv_goto (tgt := 42) hx hb dX12_call_29 (by decide) ?_
      exact hret _ _ _ _ _ _ hP hD hS dX12_call_42 ⟨hW_w_5, ((Sm.rf.tr hs_w_1 (by decide)).tr hs_w_5 (by decide)), (In_lit (n := (-1)) (by decide) (by decide) : In (-1) 200 (-1)), (fun hL => (LM_cg (hs_w_5.hA (by decide)) (hs_w_5.hA (by decide)) (LM_cg (hs_w_1.hA (by decide)) (hs_w_1.hA (by decide)) hL)))⟩
    · refine lv_aload_n hx hb dX12_call_18 rfl (lv_at hl 0 rfl) ?_
      refine gt_X12 hx hb hts hown hK hP 0 (hW_w_5.o tM_0) 37 (by decide) wd_1438 rfl (hW_w_5.fi tM_0 rfl) dX12_call_19 ?_
      refine tov (v := (fI w 0 37)) ((hs_w_5.gI (by decide)).trans (hs_w_1.gI (by decide))) ?_
      refine lv_sipush (v := 200) hx hb dX12_call_22 (by decide) ?_
      refine lv_icmp_ne (tgt := 32) hx hb dX12_call_25 (by decide) (fun c_9 => ?_) (fun c_9 => ?_)
      · refine lv_aload_n hx hb dX12_call_32 rfl (lv_at hl 0 rfl) ?_
        refine lv_iconst (v := 2) hx hb dX12_call_33 (by decide) ?_
        refine lv_iload_n hx hb dX12_call_34 rfl (lv_at hl 1 rfl) ?_
        refine lv_iload_n hx hb dX12_call_35 rfl (lv_at hl 2 rfl) ?_
        refine lv_iconst (v := 0) hx hb dX12_call_36 (by decide) ?_
        refine lv_iconst (v := 0) hx hb dX12_call_37 (by decide) ?_
        refine lv_iconst (v := 0) hx hb dX12_call_38 (by decide) ?_
        refine kW_i ⟨rfl, rfl⟩ hP hD hS hA (rW_V (As := [.int 2, .int p1, .int p2, .int 0, .int 0, .int 0]) (rest := []) hx hb hml hown hts hK hE hP hD (k_X12_tells l D cI cJ cZ q w_5 hW_w_5 2 p1 p2 0 0 0 (In_lit (n := 2) (by decide) (by decide) : In 0 3 2) (In_of ((hs_w_5.gI (by decide)).trans (hs_w_1.gI (by decide))) (R_ne_l (hW_w.fin tM_0 rfl : In 0 200 (fI w 0 37)) (In_lit (n := 200) (by decide) (by decide) : In 200 200 200) c_9 (by decide) : In 0 199 (fI w 0 37))) _) ⟨⟨rfl, rfl⟩, rfl, rfl⟩ sv_X12_453 ⟨(Nat.le_trans (by decide) hR.1), (Nat.le_trans (by decide) hR.2)⟩ 0 12 (hW_w_5.o tM_0) rfl rfl rfl hl.1 rfl (Nat.le_of_ble_eq_true rfl) dX12_call_39) (fun r_11 w_10 H locs hw_w_10 hP hD hS => ?_)
        obtain ⟨hW_w_10, hs_w_10, i_r_11, h_12, h_13⟩ := hw_w_10
        exact hret _ _ _ _ _ _ hP hD hS dX12_call_42 ⟨hW_w_10, (((Sm.rf.tr hs_w_1 (by decide)).tr hs_w_5 (by decide)).tr hs_w_10 (by decide)), (In_w i_r_11 (by decide) : In (-1) 200 r_11), (fun hL => (h_13 (LM_cg (hs_w_5.hA (by decide)) (hs_w_5.hA (by decide)) (LM_cg (hs_w_1.hA (by decide)) (hs_w_1.hA (by decide)) hL)) ⟨(fun q => absurd q (by decide)), (fun q => absurd q (by decide))⟩))⟩
      · refine lv_iconst (v := (-1)) hx hb dX12_call_28 (by decide) ?_
        refine lv_goto (tgt := 42) hx hb dX12_call_29 (by decide) ?_
        exact hret _ _ _ _ _ _ hP hD hS dX12_call_42 ⟨hW_w_5, ((Sm.rf.tr hs_w_1 (by decide)).tr hs_w_5 (by decide)), (In_lit (n := (-1)) (by decide) (by decide) : In (-1) 200 (-1)), (fun hL => (LM_cg (hs_w_5.hA (by decide)) (hs_w_5.hA (by decide)) (LM_cg (hs_w_1.hA (by decide)) (hs_w_1.hA (by decide)) hL)))⟩
set_option maxRecDepth 100000 in
set_option maxHeartbeats 8000000 in
theorem k_X12_annul (l : Launch) (D : va_G) (cI cJ cZ : ClassId) (q : Nat → Nat) (w : va_W) (hW_w : HT q (TM q cI cJ cZ) w) (p1 : Int32) : Con_i l yX12_annul cX12_annul 3 (some .int) ({ frames := 1, cells := 0, slots := 0, locals := 26 }) D cI cJ cZ eW [.ref (q 0), .int p1] w (fun (r : Int32) (w1 : va_W) => HT q (TM q cI cJ cZ) w1 ∧ Sm [0, 21, 22, 23] [(0, 37)] w w1 ∧ In (-1) 200 r ∧ ((LM w → LM w1))) := by
  refine eQ_i rfl (by decide) (Nat.le_of_ble_eq_true rfl) ⟨rfl, rfl⟩ ?_
  intro p e R s m args below meth c A Q hx hb hml hown hts hK hE hA hR hret hP hD hS ls hl
  have hown : s.vm.findClass RX12 = some m.cls := hown
  have hl : lv_has ls 3 [(0, .ref (q 0)), (1, .int p1)] := hl
  refine lv_iload_n hx hb dX12_annul_0 rfl (lv_at hl 1 rfl) ?_
  refine lv_iconst (v := 1) hx hb dX12_annul_1 (by decide) ?_
  refine lv_icmp_lt (tgt := 42) hx hb dX12_annul_2 (by decide) (fun c_1 => ?_) (fun c_1 => ?_)
  · refine lv_iconst (v := (-1)) hx hb dX12_annul_42 (by decide) ?_
    exact hret _ _ _ _ _ _ hP hD hS dX12_annul_43 ⟨hW_w, Sm.rf, (In_lit (n := (-1)) (by decide) (by decide) : In (-1) 200 (-1)), (fun hL => hL)⟩
  · refine lv_iload_n hx hb dX12_annul_5 rfl (lv_at hl 1 rfl) ?_
    refine lv_aload_n hx hb dX12_annul_6 rfl (lv_at hl 0 rfl) ?_
    refine gt_X12 hx hb hts hown hK hP 0 (hW_w.o tM_0) 37 (by decide) wd_1438 rfl (hW_w.fi tM_0 rfl) dX12_annul_7 ?_
    refine lv_icmp_gt (tgt := 42) hx hb dX12_annul_10 (by decide) (fun c_2 => ?_) (fun c_2 => ?_)
    · refine lv_iconst (v := (-1)) hx hb dX12_annul_42 (by decide) ?_
      exact hret _ _ _ _ _ _ hP hD hS dX12_annul_43 ⟨hW_w, Sm.rf, (In_lit (n := (-1)) (by decide) (by decide) : In (-1) 200 (-1)), (fun hL => hL)⟩
    · refine lv_aload_n hx hb dX12_annul_13 rfl (lv_at hl 0 rfl) ?_
      refine gt_X12 hx hb hts hown hK hP 0 (hW_w.o tM_0) 40 (by decide) wd_1441 rfl (hW_w.fr tM_0 rfl) dX12_annul_14 ?_
      refine lv_iload_n hx hb dX12_annul_17 rfl (lv_at hl 1 rfl) ?_
      refine va_iald hx hb hK hP 21 0 (hW_w.a tM_21) rfl (in_I (R_nlt_r (hW_w.fin tM_0 rfl : In 0 200 (fI w 0 37)) (R_nlt_l (In_any p1) (In_lit (n := 1) (by decide) (by decide) : In 1 1 1) c_1 (by decide) : In 1 2147483647 p1) c_2 (by decide) : In 1 200 p1) (by decide)) dX12_annul_18 ?_
      refine lv_topi (fun v_3 ev_3 => ?_)
      refine lv_iconst (v := 3) hx hb dX12_annul_19 (by decide) ?_
      refine lv_icmp_eq (tgt := 42) hx hb dX12_annul_20 (by decide) (fun c_4 => ?_) (fun c_4 => ?_)
      · refine lv_iconst (v := (-1)) hx hb dX12_annul_42 (by decide) ?_
        exact hret _ _ _ _ _ _ hP hD hS dX12_annul_43 ⟨hW_w, Sm.rf, (In_lit (n := (-1)) (by decide) (by decide) : In (-1) 200 (-1)), (fun hL => hL)⟩
      · refine lv_aload_n hx hb dX12_annul_23 rfl (lv_at hl 0 rfl) ?_
        refine gt_X12 hx hb hts hown hK hP 0 (hW_w.o tM_0) 42 (by decide) wd_1443 rfl (hW_w.fr tM_0 rfl) dX12_annul_24 ?_
        refine lv_iload_n hx hb dX12_annul_27 rfl (lv_at hl 1 rfl) ?_
        refine va_iald hx hb hK hP 23 0 (hW_w.a tM_23) rfl (in_I (R_nlt_r (hW_w.fin tM_0 rfl : In 0 200 (fI w 0 37)) (R_nlt_l (In_any p1) (In_lit (n := 1) (by decide) (by decide) : In 1 1 1) c_1 (by decide) : In 1 2147483647 p1) c_2 (by decide) : In 1 200 p1) (by decide)) dX12_annul_28 ?_
        refine lv_topi (fun v_5 ev_5 => ?_)
        refine lv_if_gt (tgt := 42) hx hb dX12_annul_29 (by decide) (fun c_6 => ?_) (fun c_6 => ?_)
        · refine lv_iconst (v := (-1)) hx hb dX12_annul_42 (by decide) ?_
          exact hret _ _ _ _ _ _ hP hD hS dX12_annul_43 ⟨hW_w, Sm.rf, (In_lit (n := (-1)) (by decide) (by decide) : In (-1) 200 (-1)), (fun hL => hL)⟩
        · refine lv_aload_n hx hb dX12_annul_32 rfl (lv_at hl 0 rfl) ?_
          refine gt_X12 hx hb hts hown hK hP 0 (hW_w.o tM_0) 37 (by decide) wd_1438 rfl (hW_w.fi tM_0 rfl) dX12_annul_33 ?_
          refine lv_sipush (v := 200) hx hb dX12_annul_36 (by decide) ?_
          refine lv_icmp_ne (tgt := 44) hx hb dX12_annul_39 (by decide) (fun c_7 => ?_) (fun c_7 => ?_)
          · refine lv_aload_n hx hb dX12_annul_44 rfl (lv_at hl 0 rfl) ?_
            refine lv_iconst (v := 3) hx hb dX12_annul_45 (by decide) ?_
            refine lv_iload_n hx hb dX12_annul_46 rfl (lv_at hl 1 rfl) ?_
            refine lv_iconst (v := 0) hx hb dX12_annul_47 (by decide) ?_
            refine lv_iconst (v := 0) hx hb dX12_annul_48 (by decide) ?_
            refine lv_iconst (v := 0) hx hb dX12_annul_49 (by decide) ?_
            refine lv_iconst (v := 0) hx hb dX12_annul_50 (by decide) ?_
            refine kW_i ⟨rfl, rfl⟩ hP hD hS hA (rW_V (As := [.int 3, .int p1, .int 0, .int 0, .int 0, .int 0]) (rest := []) hx hb hml hown hts hK hE hP hD (k_X12_tells l D cI cJ cZ q w hW_w 3 p1 0 0 0 0 (In_lit (n := 3) (by decide) (by decide) : In 0 3 3) (In_w (R_ne_l (R_nlt_l (hW_w.fin tM_0 rfl : In 0 200 (fI w 0 37)) (R_nlt_l (In_any p1) (In_lit (n := 1) (by decide) (by decide) : In 1 1 1) c_1 (by decide) : In 1 2147483647 p1) c_2 (by decide) : In 1 200 (fI w 0 37)) (In_lit (n := 200) (by decide) (by decide) : In 200 200 200) c_7 (by decide) : In 1 199 (fI w 0 37)) (by decide) : In 0 199 (fI w 0 37)) _) ⟨⟨rfl, rfl⟩, rfl, rfl⟩ sv_X12_453 ⟨(Nat.le_trans (by decide) hR.1), (Nat.le_trans (by decide) hR.2)⟩ 0 12 (hW_w.o tM_0) rfl rfl rfl hl.1 rfl (Nat.le_of_ble_eq_true rfl) dX12_annul_51) (fun r_9 w_8 H locs hw_w_8 hP hD hS => ?_)
            obtain ⟨hW_w_8, hs_w_8, i_r_9, h_10, h_11⟩ := hw_w_8
            refine lv_istore_n (lv' := [(2, .int r_9), (0, .ref (q 0)), (1, .int p1)]) hx hb dX12_annul_54 rfl hl (by decide) rfl (fun ls hl => ?_)
            refine lv_aload_n hx hb dX12_annul_55 rfl (lv_at hl 1 rfl) ?_
            refine gt_X12 hx hb hts hown hK hP 0 (hW_w_8.o tM_0) 42 (by decide) wd_1443 rfl (hW_w_8.fr tM_0 rfl) dX12_annul_56 ?_
            refine lv_iload_n hx hb dX12_annul_59 rfl (lv_at hl 2 rfl) ?_
            refine lv_iload_n hx hb dX12_annul_60 rfl (lv_at hl 0 rfl) ?_
            refine va_iast hx hb hK hP hD hS 23 0 (hW_w_8.a tM_23) rfl (in_I (R_nlt_r (hW_w.fin tM_0 rfl : In 0 200 (fI w 0 37)) (R_nlt_l (In_any p1) (In_lit (n := 1) (by decide) (by decide) : In 1 1 1) c_1 (by decide) : In 1 2147483647 p1) c_2 (by decide) : In 1 200 p1) (by decide)) dX12_annul_61 (fun H locs hP hD hS => fr_w (hW_w_8.uA tM_23 (In_w i_r_9 (by decide) : In (-2147483648) 2147483647 r_9)) hP hD (fun w_12 ew_12 hW_w_12 hP hD => ?_))
            refine lv_iload_n hx hb dX12_annul_62 rfl (lv_at hl 0 rfl) ?_
            exact hret _ _ _ _ _ _ hP hD hS dX12_annul_63 ⟨hW_w_12, ((Sm.rf.tr hs_w_8 (by decide)).sa ew_12 (by decide)), (In_w i_r_9 (by decide) : In (-1) 200 r_9), (fun hL => (LM_cg (aF_cg (st_ne ew_12 (by decide))) (aF_cg (st_ne ew_12 (by decide))) (h_11 hL ⟨(fun q => absurd q (by decide)), (fun q => absurd q (by decide))⟩)))⟩
          · refine lv_iconst (v := (-1)) hx hb dX12_annul_42 (by decide) ?_
            exact hret _ _ _ _ _ _ hP hD hS dX12_annul_43 ⟨hW_w, Sm.rf, (In_lit (n := (-1)) (by decide) (by decide) : In (-1) 200 (-1)), (fun hL => hL)⟩
set_option maxRecDepth 100000 in
set_option maxHeartbeats 8000000 in
theorem k_X12_as (l : Launch) (D : va_G) (cI cJ cZ : ClassId) (q : Nat → Nat) (w : va_W) (hW_w : HT q (TM q cI cJ cZ) w) (p1 : Int32) : Con_i l yX12_as cX12_as 2 (some .boolean) ({ frames := 1, cells := 0, slots := 0, locals := 22 }) D cI cJ cZ eW [.ref (q 0), .int p1] w (fun (r : Int32) (w1 : va_W) => HT q (TM q cI cJ cZ) w1 ∧ Sm [0] [(0, 39)] w w1 ∧ In 0 1 r ∧ (¬ r = 0 → In (-1) 200 p1)) := by
  refine eQ_z rfl (by decide) (Nat.le_of_ble_eq_true rfl) ⟨rfl, rfl⟩ ?_
  intro p e R s m args below meth c A Q hx hb hml hown hts hK hE hA hR hret hP hD hS ls hl
  have hown : s.vm.findClass RX12 = some m.cls := hown
  have hl : lv_has ls 2 [(0, .ref (q 0)), (1, .int p1)] := hl
  refine lv_iload_n hx hb dX12_as_0 rfl (lv_at hl 1 rfl) ?_
  refine lv_iconst (v := (-1)) hx hb dX12_as_1 (by decide) ?_
  refine lv_aload_n hx hb dX12_as_2 rfl (lv_at hl 0 rfl) ?_
  refine gt_X12 hx hb hts hown hK hP 0 (hW_w.o tM_0) 37 (by decide) wd_1438 rfl (hW_w.fi tM_0 rfl) dX12_as_3 ?_
  refine kW_i ⟨rfl, rfl⟩ hP hD hS hA (rW_S (As := [.int p1, .int (-1), .int (fI w 0 37)]) (rest := []) hx hb hml hown hts hK hE hP hD (k_X12_is l D cI cJ cZ q w hW_w p1 (-1) (fI w 0 37) _) ⟨⟨rfl, rfl⟩, rfl, rfl⟩ sv_X12_322 ⟨(Nat.le_trans (by decide) hR.1), (Nat.le_trans (by decide) hR.2)⟩ rfl hl.1 rfl (Nat.le_of_ble_eq_true rfl) dX12_as_6) (fun r_2 w_1 H locs hw_w_1 hP hD hS => ?_)
  obtain ⟨hW_w_1, hs_w_1, i_r_2, h_3⟩ := hw_w_1
  refine lv_if_ne (tgt := 14) hx hb dX12_as_9 (by decide) (fun c_4 => ?_) (fun c_4 => ?_)
  · refine lv_aload_n hx hb dX12_as_14 rfl (lv_at hl 0 rfl) ?_
    refine lv_iload_n hx hb dX12_as_15 rfl (lv_at hl 1 rfl) ?_
    refine pt_X12 hx hb hts hown hK hP hD hS 0 (hW_w_1.o tM_0) 39 (by decide) wd_1440 rfl rfl (ty := .int) (v := .int p1) (by decide +kernel) rfl rfl (hW_w_1.ll tM_0 (Nat.le_of_ble_eq_true rfl)) dX12_as_16 (fun H locs hP hD hS => fr_w (hW_w_1.sI tM_0 rfl (by have q0 := h_3 c_4; have q1 := (In_lit (n := (-1)) (by decide) (by decide) : In (-1) (-1) (-1)); have q2 := (hW_w.fin tM_0 rfl : In 0 200 (fI w 0 37)); have q3 := (In_any p1); unfold In at q1 q2 q3 ⊢; omega : In (-1) 200 p1)) hP hD (fun w_5 ew_5 hW_w_5 hP hD => ?_))
    refine lv_iconst (v := 1) hx hb dX12_as_19 (by decide) ?_
    exact hret _ _ _ _ _ _ hP hD hS dX12_as_20 (In_lit (n := 1) (by decide) (by decide) : In 0 1 1) ⟨hW_w_5, ((Sm.rf.tr hs_w_1 (by decide)).sf (hW_w_1.lt tM_0) ew_5 (by decide)), (In_lit (n := 1) (by decide) (by decide) : In 0 1 1), (fun h => (by have q0 := h_3 c_4; have q1 := (In_lit (n := (-1)) (by decide) (by decide) : In (-1) (-1) (-1)); have q2 := (hW_w.fin tM_0 rfl : In 0 200 (fI w 0 37)); have q3 := (In_any p1); unfold In at q1 q2 q3 ⊢; omega : In (-1) 200 p1))⟩
  · refine lv_iconst (v := 0) hx hb dX12_as_12 (by decide) ?_
    exact hret _ _ _ _ _ _ hP hD hS dX12_as_13 (In_lit (n := 0) (by decide) (by decide) : In 0 1 0) ⟨hW_w_1, (Sm.rf.tr hs_w_1 (by decide)), (In_lit (n := 0) (by decide) (by decide) : In 0 1 0), (fun h => absurd rfl h)⟩
set_option maxRecDepth 100000 in
set_option maxHeartbeats 8000000 in
theorem k_X12_hasWish (l : Launch) (D : va_G) (cI cJ cZ : ClassId) (q : Nat → Nat) (w : va_W) (hW_w : HT q (TM q cI cJ cZ) w) (p1 : Int32) (p2 : Int64) (i_p1 : In 0 39 p1) : Con_i l yX12_hasWish cX12_hasWish 5 (some .boolean) ({ frames := 0, cells := 0, slots := 0, locals := 0 }) D cI cJ cZ eW [.ref (q 0), .int p1, .long p2] w (fun (r : Int32) (w1 : va_W) => HT q (TM q cI cJ cZ) w1 ∧ Sm [] [] w w1 ∧ In 0 1 r) := by
  refine eQ_z rfl (by decide) (Nat.le_of_ble_eq_true rfl) ⟨rfl, rfl⟩ ?_
  intro p e R s m args below meth c A Q hx hb hml hown hts hK hE hA hR hret hP hD hS ls hl
  have hown : s.vm.findClass RX12 = some m.cls := hown
  have hl : lv_has ls 5 [(0, .ref (q 0)), (1, .int p1), (2, .long p2)] := hl
  have J3 : ∀ (N : Nat) (x3_4 : Int32) (w3 : va_W) (H : Heap) (locs : List Loc) (ls : Array Slot), (4 - x3_4.toInt).toNat < N → HT q (TM q cI cJ cZ) w3 → Sm [] [] w w3 → (In 0 39 p1) → (In 0 4 x3_4) → va_P D vwCl w3 H → va_D A w3 → va_S A s.heap H locs → lv_has ls 5 [(0, .ref (q 0)), (1, .int p1), (2, .long p2), (4, .int x3_4)] → W p l e R s m args below meth c H locs 0 0 Q (F0 m 3 ls []) := by
    intro N
    induction N with
    | zero => intro x3_4 w3 H locs ls hmu; exact absurd hmu (Nat.not_lt_zero _)
    | succ N ih3 =>
      intro x3_4 w3 H locs ls hmu3 hW_w3 hM_w3 i_x3_1 i_x3_4 hP hD hS hl
      refine lv_iload hx hb dX12_hasWish_3 (lv_at hl 3 rfl) ?_
      refine lv_aload_n hx hb dX12_hasWish_5 rfl (lv_at hl 0 rfl) ?_
      refine gt_X12 hx hb hts hown hK hP 0 (hW_w3.o tM_0) 53 (by decide) wd_1454 rfl (hW_w3.fr tM_0 rfl) dX12_hasWish_6 ?_
      refine lv_iload_n hx hb dX12_hasWish_9 rfl (lv_at hl 1 rfl) ?_
      refine va_iald hx hb hK hP 33 0 (hW_w3.a tM_33) rfl (in_I i_p1 (by decide)) dX12_hasWish_10 ?_
      refine lv_topi (fun v_1 ev_1 => ?_)
      refine lv_icmp_ge (tgt := 38) hx hb dX12_hasWish_11 (by decide) (fun c_2 => ?_) (fun c_2 => ?_)
      · refine lv_iconst (v := 0) hx hb dX12_hasWish_38 (by decide) ?_
        exact hret _ _ _ _ _ _ hP hD hS dX12_hasWish_39 (In_lit (n := 0) (by decide) (by decide) : In 0 1 0) ⟨hW_w3, hM_w3, (In_lit (n := 0) (by decide) (by decide) : In 0 1 0)⟩
      · refine lv_aload_n hx hb dX12_hasWish_14 rfl (lv_at hl 0 rfl) ?_
        refine gt_X12 hx hb hts hown hK hP 0 (hW_w3.o tM_0) 54 (by decide) wd_1455 rfl (hW_w3.fr tM_0 rfl) dX12_hasWish_15 ?_
        refine lv_iconst (v := 4) hx hb dX12_hasWish_18 (by decide) ?_
        refine lv_iload_n hx hb dX12_hasWish_19 rfl (lv_at hl 1 rfl) ?_
        refine lv_imul hx hb dX12_hasWish_20 ?_
        refine lv_iload hx hb dX12_hasWish_21 (lv_at hl 3 rfl) ?_
        refine lv_iadd hx hb dX12_hasWish_23 ?_
        refine va_lald hx hb hK hP 34 1 (hW_w3.al tM_34) rfl (in_I ((In_add ((In_mull i_p1 (n := 4) (by decide) (by decide)) : In 0 156 (4 * p1)) (R_nle_r (In_of ev_1 (hW_w3.ap tM_33 _) : In 0 4 v_1) i_x3_4 c_2 (by decide) : In 0 3 x3_4) (by decide)) : In 0 159 ((4 * p1) + x3_4)) (by decide)) dX12_hasWish_24 ?_
        refine lv_topl (fun v_3 ev_3 => ?_)
        refine lv_lload_n hx hb dX12_hasWish_25 rfl (lv_at hl 2 rfl) ?_
        refine W.lcmp hx hb dX12_hasWish_26 ?_
        refine lv_topi (fun v_4 ev_4 => ?_)
        refine lv_if_ne (tgt := 32) hx hb dX12_hasWish_27 (by decide) (fun c_5 => ?_) (fun c_5 => ?_)
        · refine lv_iinc (v := (x3_4 + 1)) (lv' := [(4, .int (x3_4 + 1)), (0, .ref (q 0)), (1, .int p1), (2, .long p2)]) hx hb dX12_hasWish_32 hl (k := 3) rfl (rfl) (by decide) rfl (fun ls hl => ?_)
          refine lv_goto (tgt := 3) hx hb dX12_hasWish_35 (by decide) ?_
          exact ih3 (x3_4 + 1) w3 _ _ ls (mu_inc hmu3 (R_nle_r (In_of ev_1 (hW_w3.ap tM_33 _) : In 0 4 v_1) i_x3_4 c_2 (by decide) : In 0 3 x3_4) (In_lit (n := 1) (by decide) (by decide) : In 1 1 1) (by decide)) hW_w3 hM_w3 i_p1 (In_w ((In_add (y := 1) (R_nle_r (In_of ev_1 (hW_w3.ap tM_33 _) : In 0 4 v_1) i_x3_4 c_2 (by decide) : In 0 3 x3_4) (In_lit (n := 1) (by decide) (by decide) : In 1 1 1) (by decide)) : In 1 4 (x3_4 + 1)) (by decide) : In 0 4 (x3_4 + 1)) hP hD hS (lv_sub hl [1, 2, 3, 0] rfl)
        · refine lv_iconst (v := 1) hx hb dX12_hasWish_30 (by decide) ?_
          exact hret _ _ _ _ _ _ hP hD hS dX12_hasWish_31 (In_lit (n := 1) (by decide) (by decide) : In 0 1 1) ⟨hW_w3, hM_w3, (In_lit (n := 1) (by decide) (by decide) : In 0 1 1)⟩
  refine lv_iconst (v := 0) hx hb dX12_hasWish_0 (by decide) ?_
  refine lv_istore (lv' := [(4, .int 0), (0, .ref (q 0)), (1, .int p1), (2, .long p2)]) hx hb dX12_hasWish_1 hl (by decide) rfl (fun ls hl => ?_)
  exact J3 _ 0 w _ _ ls (Nat.lt_succ_self _) hW_w Sm.rf i_p1 (In_lit (n := 0) (by decide) (by decide) : In 0 4 0) hP hD hS (lv_sub hl [1, 2, 3, 0] rfl)
set_option maxRecDepth 100000 in
set_option maxHeartbeats 8000000 in
theorem k_X12_comes (l : Launch) (D : va_G) (cI cJ cZ : ClassId) (q : Nat → Nat) (w : va_W) (hW_w : HT q (TM q cI cJ cZ) w) (p1 : Int32) (p2 : Int32) (i_p1 : In 0 39 p1) (i_p2 : In 1 200 p2) (hf_0_37 : In 1 200 (fI w 0 37)) (hLM : LM w) (hz : aF w 21 p2.toNatClampNeg = 0) : Con_v l yX12_comes cX12_comes 7 none ({ frames := 1, cells := 0, slots := 0, locals := 24 }) D cI cJ cZ eW [.ref (q 0), .int p1, .int p2] w (fun (w1 : va_W) => HT q (TM q cI cJ cZ) w1 ∧ Sm [27, 28, 29, 30, 31, 32, 33, 34, 35, 36] [] w w1) := by
  refine eQ_v rfl (by decide) (Nat.le_of_ble_eq_true rfl) ⟨rfl, rfl⟩ ?_
  intro p e R s m args below meth c A Q hx hb hml hown hts hK hE hA hR hret hP hD hS ls hl
  have hown : s.vm.findClass RX12 = some m.cls := hown
  have hl : lv_has ls 7 [(0, .ref (q 0)), (1, .int p1), (2, .int p2)] := hl
  have J138 : ∀ (N : Nat) (x138_3 : Int32) (x138_4 : Int32) (w138 : va_W) (H : Heap) (locs : List Loc) (ls : Array Slot), (3 - x138_4.toInt).toNat < N → HT q (TM q cI cJ cZ) w138 → Sm [27, 28, 29, 30, 31, 32, 33, 34, 35, 36] [] w w138 → (In 0 39 p1) → (In 1 200 p2) → (In 0 3 x138_4) → (In 1 200 (fI w138 0 37)) → va_P D vwCl w138 H → va_D A w138 → va_S A s.heap H locs → lv_has ls 7 [(0, .ref (q 0)), (1, .int p1), (2, .int p2), (3, .int x138_3), (4, .int x138_4)] → W p l e R s m args below meth c H locs 0 0 Q (F0 m 138 ls []) := by
    intro N
    induction N with
    | zero => intro x138_3 x138_4 w138 H locs ls hmu; exact absurd hmu (Nat.not_lt_zero _)
    | succ N ih138 =>
      intro x138_3 x138_4 w138 H locs ls hmu138 hW_w138 hM_w138 i_x138_1 i_x138_2 i_x138_4 g138_0_37 hP hD hS hl
      refine lv_iload hx hb dX12_comes_138 (lv_at hl 4 rfl) ?_
      refine lv_iconst (v := 3) hx hb dX12_comes_140 (by decide) ?_
      refine lv_icmp_ge (tgt := 220) hx hb dX12_comes_141 (by decide) (fun c_1 => ?_) (fun c_1 => ?_)
      · exact hret _ _ _ _ _ hP hD hS dX12_comes_220 ⟨hW_w138, hM_w138⟩
      · refine lv_aload_n hx hb dX12_comes_144 rfl (lv_at hl 0 rfl) ?_
        refine gt_X12 hx hb hts hown hK hP 0 (hW_w138.o tM_0) 43 (by decide) wd_1444 rfl (hW_w138.fr tM_0 rfl) dX12_comes_145 ?_
        refine lv_iconst (v := 3) hx hb dX12_comes_148 (by decide) ?_
        refine lv_iload_n hx hb dX12_comes_149 rfl (lv_at hl 2 rfl) ?_
        refine lv_imul hx hb dX12_comes_150 ?_
        refine lv_iload hx hb dX12_comes_151 (lv_at hl 4 rfl) ?_
        refine lv_iadd hx hb dX12_comes_153 ?_
        refine va_lald hx hb hK hP 24 1 (hW_w138.al tM_24) rfl (in_I ((In_add ((In_mull i_p2 (n := 3) (by decide) (by decide)) : In 3 600 (3 * p2)) (R_nle_r (In_lit (n := 3) (by decide) (by decide) : In 3 3 3) i_x138_4 c_1 (by decide) : In 0 2 x138_4) (by decide)) : In 3 602 ((3 * p2) + x138_4)) (by decide)) dX12_comes_154 ?_
        refine lv_topl (fun v_2 ev_2 => ?_)
        refine lv_lstore (lv' := [(5, .long v_2), (0, .ref (q 0)), (1, .int p1), (2, .int p2), (3, .int x138_3), (4, .int x138_4)]) hx hb dX12_comes_155 hl (by decide) rfl (fun ls hl => ?_)
        refine lv_lload hx hb dX12_comes_157 (lv_at hl 0 rfl) ?_
        refine lv_lconst (v := 0) hx hb dX12_comes_159 (by decide) ?_
        refine W.lcmp hx hb dX12_comes_160 ?_
        refine lv_topi (fun v_3 ev_3 => ?_)
        refine lv_if_eq (tgt := 214) hx hb dX12_comes_161 (by decide) (fun c_4 => ?_) (fun c_4 => ?_)
        · refine lv_iinc (v := (x138_4 + 1)) (lv' := [(4, .int (x138_4 + 1)), (5, .long v_2), (0, .ref (q 0)), (1, .int p1), (2, .int p2), (3, .int x138_3)]) hx hb dX12_comes_214 hl (k := 5) rfl (rfl) (by decide) rfl (fun ls hl => ?_)
          refine lv_goto (tgt := 138) hx hb dX12_comes_217 (by decide) ?_
          exact ih138 x138_3 (x138_4 + 1) w138 _ _ ls (mu_inc hmu138 (R_nle_r (In_lit (n := 3) (by decide) (by decide) : In 3 3 3) i_x138_4 c_1 (by decide) : In 0 2 x138_4) (In_lit (n := 1) (by decide) (by decide) : In 1 1 1) (by decide)) hW_w138 hM_w138 i_p1 i_p2 (In_w ((In_add (y := 1) (R_nle_r (In_lit (n := 3) (by decide) (by decide) : In 3 3 3) i_x138_4 c_1 (by decide) : In 0 2 x138_4) (In_lit (n := 1) (by decide) (by decide) : In 1 1 1) (by decide)) : In 1 3 (x138_4 + 1)) (by decide) : In 0 3 (x138_4 + 1)) (In_of (hM_w138.gI (by decide)) (In_of (hM_w138.gI (by decide)).symm g138_0_37)) hP hD hS (lv_sub hl [2, 3, 4, 5, 0] rfl)
        · refine lv_aload_n hx hb dX12_comes_164 rfl (lv_at hl 1 rfl) ?_
          refine gt_X12 hx hb hts hown hK hP 0 (hW_w138.o tM_0) 53 (by decide) wd_1454 rfl (hW_w138.fr tM_0 rfl) dX12_comes_165 ?_
          refine lv_iload_n hx hb dX12_comes_168 rfl (lv_at hl 2 rfl) ?_
          refine va_iald hx hb hK hP 33 0 (hW_w138.a tM_33) rfl (in_I i_p1 (by decide)) dX12_comes_169 ?_
          refine lv_topi (fun v_5 ev_5 => ?_)
          refine lv_iconst (v := 4) hx hb dX12_comes_170 (by decide) ?_
          refine lv_icmp_eq (tgt := 214) hx hb dX12_comes_171 (by decide) (fun c_6 => ?_) (fun c_6 => ?_)
          · refine lv_iinc (v := (x138_4 + 1)) (lv' := [(4, .int (x138_4 + 1)), (5, .long v_2), (0, .ref (q 0)), (1, .int p1), (2, .int p2), (3, .int x138_3)]) hx hb dX12_comes_214 hl (k := 5) rfl (rfl) (by decide) rfl (fun ls hl => ?_)
            refine lv_goto (tgt := 138) hx hb dX12_comes_217 (by decide) ?_
            exact ih138 x138_3 (x138_4 + 1) w138 _ _ ls (mu_inc hmu138 (R_nle_r (In_lit (n := 3) (by decide) (by decide) : In 3 3 3) i_x138_4 c_1 (by decide) : In 0 2 x138_4) (In_lit (n := 1) (by decide) (by decide) : In 1 1 1) (by decide)) hW_w138 hM_w138 i_p1 i_p2 (In_w ((In_add (y := 1) (R_nle_r (In_lit (n := 3) (by decide) (by decide) : In 3 3 3) i_x138_4 c_1 (by decide) : In 0 2 x138_4) (In_lit (n := 1) (by decide) (by decide) : In 1 1 1) (by decide)) : In 1 3 (x138_4 + 1)) (by decide) : In 0 3 (x138_4 + 1)) (In_of (hM_w138.gI (by decide)) (In_of (hM_w138.gI (by decide)).symm g138_0_37)) hP hD hS (lv_sub hl [2, 3, 4, 5, 0] rfl)
          · refine lv_aload_n hx hb dX12_comes_174 rfl (lv_at hl 1 rfl) ?_
            refine lv_iload_n hx hb dX12_comes_175 rfl (lv_at hl 2 rfl) ?_
            refine lv_lload hx hb dX12_comes_176 (lv_at hl 0 rfl) ?_
            refine kW_i ⟨rfl, rfl⟩ hP hD hS hA (rW_V (As := [.int p1, .long v_2]) (rest := []) hx hb hml hown hts hK hE hP hD (k_X12_hasWish l D cI cJ cZ q w138 hW_w138 p1 v_2 i_p1 _) ⟨⟨rfl, rfl⟩, rfl, rfl⟩ sv_X12_467 ⟨(Nat.le_trans (by decide) hR.1), (Nat.le_trans (by decide) hR.2)⟩ 0 12 (hW_w138.o tM_0) rfl rfl rfl hl.1 rfl (Nat.le_of_ble_eq_true rfl) dX12_comes_178) (fun r_8 w_7 H locs hw_w_7 hP hD hS => ?_)
            obtain ⟨hW_w_7, hs_w_7, i_r_8⟩ := hw_w_7
            refine lv_if_eq (tgt := 187) hx hb dX12_comes_181 (by decide) (fun c_9 => ?_) (fun c_9 => ?_)
            · refine lv_aload_n hx hb dX12_comes_187 rfl (lv_at hl 1 rfl) ?_
              refine gt_X12 hx hb hts hown hK hP 0 (hW_w_7.o tM_0) 54 (by decide) wd_1455 rfl (hW_w_7.fr tM_0 rfl) dX12_comes_188 ?_
              refine lv_iconst (v := 4) hx hb dX12_comes_191 (by decide) ?_
              refine lv_iload_n hx hb dX12_comes_192 rfl (lv_at hl 2 rfl) ?_
              refine lv_imul hx hb dX12_comes_193 ?_
              refine lv_aload_n hx hb dX12_comes_194 rfl (lv_at hl 1 rfl) ?_
              refine gt_X12 hx hb hts hown hK hP 0 (hW_w_7.o tM_0) 53 (by decide) wd_1454 rfl (hW_w_7.fr tM_0 rfl) dX12_comes_195 ?_
              refine lv_iload_n hx hb dX12_comes_198 rfl (lv_at hl 2 rfl) ?_
              refine va_iald hx hb hK hP 33 0 (hW_w_7.a tM_33) rfl (in_I i_p1 (by decide)) dX12_comes_199 ?_
              refine tov (v := v_5) ((congrFun (hs_w_7.hA (by decide)) _).trans ev_5.symm) ?_
              refine lv_iadd hx hb dX12_comes_200 ?_
              refine lv_lload hx hb dX12_comes_201 (lv_at hl 0 rfl) ?_
              refine va_last hx hb hK hP hD hS 34 1 (hW_w_7.al tM_34) rfl (in_I ((In_add ((In_mull i_p1 (n := 4) (by decide) (by decide)) : In 0 156 (4 * p1)) (R_ne_l (In_of ev_5 (hW_w138.ap tM_33 _) : In 0 4 v_5) (In_lit (n := 4) (by decide) (by decide) : In 4 4 4) c_6 (by decide) : In 0 3 v_5) (by decide)) : In 0 159 ((4 * p1) + v_5)) (by decide)) dX12_comes_203 (fun H locs hP hD hS => fr_w (hW_w_7.uL tM_34) hP hD (fun w_10 ew_10 hW_w_10 hP hD => ?_))
              refine lv_aload_n hx hb dX12_comes_204 rfl (lv_at hl 1 rfl) ?_
              refine gt_X12 hx hb hts hown hK hP 0 (hW_w_10.o tM_0) 53 (by decide) wd_1454 rfl (hW_w_10.fr tM_0 rfl) dX12_comes_205 ?_
              refine lv_iload_n hx hb dX12_comes_208 rfl (lv_at hl 2 rfl) ?_
              refine lv_dup2_11 hx hb dX12_comes_209 rfl rfl ?_
              refine va_iald hx hb hK hP 33 0 (hW_w_10.a tM_33) rfl (in_I i_p1 (by decide)) dX12_comes_210 ?_
              refine tov (v := v_5) ((congrFun ((aF_cg (st_ne ew_10 (by decide))).trans (hs_w_7.hA (by decide))) _).trans ev_5.symm) ?_
              refine lv_iconst (v := 1) hx hb dX12_comes_211 (by decide) ?_
              refine lv_iadd hx hb dX12_comes_212 ?_
              refine va_iast hx hb hK hP hD hS 33 0 (hW_w_10.a tM_33) rfl (in_I i_p1 (by decide)) dX12_comes_213 (fun H locs hP hD hS => fr_w (hW_w_10.uA tM_33 (In_w ((In_add (R_ne_l (In_of ev_5 (hW_w138.ap tM_33 _) : In 0 4 v_5) (In_lit (n := 4) (by decide) (by decide) : In 4 4 4) c_6 (by decide) : In 0 3 v_5) (In_lit (n := 1) (by decide) (by decide) : In 1 1 1) (by decide)) : In 1 4 (v_5 + 1)) (by decide) : In 0 4 (v_5 + 1))) hP hD (fun w_11 ew_11 hW_w_11 hP hD => ?_))
              refine lv_iinc (v := (x138_4 + 1)) (lv' := [(4, .int (x138_4 + 1)), (5, .long v_2), (0, .ref (q 0)), (1, .int p1), (2, .int p2), (3, .int x138_3)]) hx hb dX12_comes_214 hl (k := 5) rfl (rfl) (by decide) rfl (fun ls hl => ?_)
              refine lv_goto (tgt := 138) hx hb dX12_comes_217 (by decide) ?_
              exact ih138 x138_3 (x138_4 + 1) w_11 _ _ ls (mu_inc hmu138 (R_nle_r (In_lit (n := 3) (by decide) (by decide) : In 3 3 3) i_x138_4 c_1 (by decide) : In 0 2 x138_4) (In_lit (n := 1) (by decide) (by decide) : In 1 1 1) (by decide)) hW_w_11 (((hM_w138.tr hs_w_7 (by decide)).sa ew_10 (by decide)).sa ew_11 (by decide)) i_p1 i_p2 (In_w ((In_add (y := 1) (R_nle_r (In_lit (n := 3) (by decide) (by decide) : In 3 3 3) i_x138_4 c_1 (by decide) : In 0 2 x138_4) (In_lit (n := 1) (by decide) (by decide) : In 1 1 1) (by decide)) : In 1 3 (x138_4 + 1)) (by decide) : In 0 3 (x138_4 + 1)) (In_of ((fI_cg (st_ne ew_11 (by decide))).trans ((fI_cg (st_ne ew_10 (by decide))).trans ((hs_w_7.gI (by decide)).trans (hM_w138.gI (by decide))))) (In_of (hM_w138.gI (by decide)).symm g138_0_37)) hP hD hS (lv_sub hl [2, 3, 4, 5, 0] rfl)
            · refine lv_goto (tgt := 214) hx hb dX12_comes_184 (by decide) ?_
              refine lv_iinc (v := (x138_4 + 1)) (lv' := [(4, .int (x138_4 + 1)), (5, .long v_2), (0, .ref (q 0)), (1, .int p1), (2, .int p2), (3, .int x138_3)]) hx hb dX12_comes_214 hl (k := 5) rfl (rfl) (by decide) rfl (fun ls hl => ?_)
              refine lv_goto (tgt := 138) hx hb dX12_comes_217 (by decide) ?_
              exact ih138 x138_3 (x138_4 + 1) w_7 _ _ ls (mu_inc hmu138 (R_nle_r (In_lit (n := 3) (by decide) (by decide) : In 3 3 3) i_x138_4 c_1 (by decide) : In 0 2 x138_4) (In_lit (n := 1) (by decide) (by decide) : In 1 1 1) (by decide)) hW_w_7 (hM_w138.tr hs_w_7 (by decide)) i_p1 i_p2 (In_w ((In_add (y := 1) (R_nle_r (In_lit (n := 3) (by decide) (by decide) : In 3 3 3) i_x138_4 c_1 (by decide) : In 0 2 x138_4) (In_lit (n := 1) (by decide) (by decide) : In 1 1 1) (by decide)) : In 1 3 (x138_4 + 1)) (by decide) : In 0 3 (x138_4 + 1)) (In_of ((hs_w_7.gI (by decide)).trans (hM_w138.gI (by decide))) (In_of (hM_w138.gI (by decide)).symm g138_0_37)) hP hD hS (lv_sub hl [2, 3, 4, 5, 0] rfl)
  have J76 : ∀ (x76_3 : Int32) (y76_0 : Int32) (w76 : va_W) (H : Heap) (locs : List Loc) (ls : Array Slot), HT q (TM q cI cJ cZ) w76 → Sm [27, 28, 29, 30, 31, 32, 33, 34, 35, 36] [] w w76 → (In 0 39 p1) → (In 1 200 p2) → (In 0 39 p1) → (In 1 200 (fI w76 0 37)) → va_P D vwCl w76 H → va_D A w76 → va_S A s.heap H locs → lv_has ls 7 [(0, .ref (q 0)), (1, .int p1), (2, .int p2), (3, .int x76_3)] → W p l e R s m args below meth c H locs 0 0 Q (F0 m 76 ls [.int y76_0, .int p1, .ref (q 29)]) := by
    intro x76_3 y76_0 w76 H locs ls hW_w76 hM_w76 i_x76_1 i_x76_2 i_y76_1 g76_0_37 hP hD hS hl
    refine va_iast hx hb hK hP hD hS 29 0 (hW_w76.a tM_29) rfl (in_I i_p1 (by decide)) dX12_comes_76 (fun H locs hP hD hS => fr_w (hW_w76.uA tM_29 (In_any y76_0)) hP hD (fun w_12 ew_12 hW_w_12 hP hD => ?_))
    refine lv_aload_n hx hb dX12_comes_77 rfl (lv_at hl 0 rfl) ?_
    refine gt_X12 hx hb hts hown hK hP 0 (hW_w_12.o tM_0) 50 (by decide) wd_1451 rfl (hW_w_12.fr tM_0 rfl) dX12_comes_78 ?_
    refine lv_iload_n hx hb dX12_comes_81 rfl (lv_at hl 1 rfl) ?_
    refine lv_aload_n hx hb dX12_comes_82 rfl (lv_at hl 0 rfl) ?_
    refine gt_X12 hx hb hts hown hK hP 0 (hW_w_12.o tM_0) 41 (by decide) wd_1442 rfl (hW_w_12.fr tM_0 rfl) dX12_comes_83 ?_
    refine lv_iconst (v := 5) hx hb dX12_comes_86 (by decide) ?_
    refine lv_iload_n hx hb dX12_comes_87 rfl (lv_at hl 2 rfl) ?_
    refine lv_imul hx hb dX12_comes_88 ?_
    refine lv_iconst (v := 2) hx hb dX12_comes_89 (by decide) ?_
    refine lv_iadd hx hb dX12_comes_90 ?_
    refine va_iald hx hb hK hP 22 0 (hW_w_12.a tM_22) rfl (in_I ((In_add ((In_mull i_p2 (n := 5) (by decide) (by decide)) : In 5 1000 (5 * p2)) (In_lit (n := 2) (by decide) (by decide) : In 2 2 2) (by decide)) : In 7 1002 ((5 * p2) + 2)) (by decide)) dX12_comes_91 ?_
    refine lv_topi (fun v_13 ev_13 => ?_)
    refine va_iast hx hb hK hP hD hS 30 0 (hW_w_12.a tM_30) rfl (in_I i_p1 (by decide)) dX12_comes_92 (fun H locs hP hD hS => fr_w (hW_w_12.uA tM_30 (In_any v_13)) hP hD (fun w_14 ew_14 hW_w_14 hP hD => ?_))
    refine lv_aload_n hx hb dX12_comes_93 rfl (lv_at hl 0 rfl) ?_
    refine gt_X12 hx hb hts hown hK hP 0 (hW_w_14.o tM_0) 51 (by decide) wd_1452 rfl (hW_w_14.fr tM_0 rfl) dX12_comes_94 ?_
    refine lv_iload_n hx hb dX12_comes_97 rfl (lv_at hl 1 rfl) ?_
    refine lv_aload_n hx hb dX12_comes_98 rfl (lv_at hl 0 rfl) ?_
    refine gt_X12 hx hb hts hown hK hP 0 (hW_w_14.o tM_0) 41 (by decide) wd_1442 rfl (hW_w_14.fr tM_0 rfl) dX12_comes_99 ?_
    refine lv_iconst (v := 5) hx hb dX12_comes_102 (by decide) ?_
    refine lv_iload_n hx hb dX12_comes_103 rfl (lv_at hl 2 rfl) ?_
    refine lv_imul hx hb dX12_comes_104 ?_
    refine lv_iconst (v := 3) hx hb dX12_comes_105 (by decide) ?_
    refine lv_iadd hx hb dX12_comes_106 ?_
    refine va_iald hx hb hK hP 22 0 (hW_w_14.a tM_22) rfl (in_I ((In_add ((In_mull i_p2 (n := 5) (by decide) (by decide)) : In 5 1000 (5 * p2)) (In_lit (n := 3) (by decide) (by decide) : In 3 3 3) (by decide)) : In 8 1003 ((5 * p2) + 3)) (by decide)) dX12_comes_107 ?_
    refine lv_topi (fun v_15 ev_15 => ?_)
    refine va_iast hx hb hK hP hD hS 31 0 (hW_w_14.a tM_31) rfl (in_I i_p1 (by decide)) dX12_comes_108 (fun H locs hP hD hS => fr_w (hW_w_14.uA tM_31 (In_any v_15)) hP hD (fun w_16 ew_16 hW_w_16 hP hD => ?_))
    refine lv_aload_n hx hb dX12_comes_109 rfl (lv_at hl 0 rfl) ?_
    refine gt_X12 hx hb hts hown hK hP 0 (hW_w_16.o tM_0) 52 (by decide) wd_1453 rfl (hW_w_16.fr tM_0 rfl) dX12_comes_110 ?_
    refine lv_iload_n hx hb dX12_comes_113 rfl (lv_at hl 1 rfl) ?_
    refine lv_aload_n hx hb dX12_comes_114 rfl (lv_at hl 0 rfl) ?_
    refine gt_X12 hx hb hts hown hK hP 0 (hW_w_16.o tM_0) 41 (by decide) wd_1442 rfl (hW_w_16.fr tM_0 rfl) dX12_comes_115 ?_
    refine lv_iconst (v := 5) hx hb dX12_comes_118 (by decide) ?_
    refine lv_iload_n hx hb dX12_comes_119 rfl (lv_at hl 2 rfl) ?_
    refine lv_imul hx hb dX12_comes_120 ?_
    refine lv_iconst (v := 4) hx hb dX12_comes_121 (by decide) ?_
    refine lv_iadd hx hb dX12_comes_122 ?_
    refine va_iald hx hb hK hP 22 0 (hW_w_16.a tM_22) rfl (in_I ((In_add ((In_mull i_p2 (n := 5) (by decide) (by decide)) : In 5 1000 (5 * p2)) (In_lit (n := 4) (by decide) (by decide) : In 4 4 4) (by decide)) : In 9 1004 ((5 * p2) + 4)) (by decide)) dX12_comes_123 ?_
    refine lv_topi (fun v_17 ev_17 => ?_)
    refine va_iast hx hb hK hP hD hS 32 0 (hW_w_16.a tM_32) rfl (in_I i_p1 (by decide)) dX12_comes_124 (fun H locs hP hD hS => fr_w (hW_w_16.uA tM_32 (In_of (ev_17.trans (congrFun ((aF_cg (st_ne ew_16 (by decide))).trans ((aF_cg (st_ne ew_14 (by decide))).trans ((aF_cg (st_ne ew_12 (by decide))).trans (hM_w76.hA (by decide))))) _)) ((hLM p2 i_p2).1 hz) : In 0 24 v_17)) hP hD (fun w_18 ew_18 hW_w_18 hP hD => ?_))
    refine lv_aload_n hx hb dX12_comes_125 rfl (lv_at hl 0 rfl) ?_
    refine gt_X12 hx hb hts hown hK hP 0 (hW_w_18.o tM_0) 55 (by decide) wd_1456 rfl (hW_w_18.fr tM_0 rfl) dX12_comes_126 ?_
    refine lv_iload_n hx hb dX12_comes_129 rfl (lv_at hl 1 rfl) ?_
    refine lv_dup2_11 hx hb dX12_comes_130 rfl rfl ?_
    refine va_iald hx hb hK hP 35 0 (hW_w_18.a tM_35) rfl (in_I i_p1 (by decide)) dX12_comes_131 ?_
    refine lv_topi (fun v_19 ev_19 => ?_)
    refine lv_iconst (v := 1) hx hb dX12_comes_132 (by decide) ?_
    refine lv_iadd hx hb dX12_comes_133 ?_
    refine va_iast hx hb hK hP hD hS 35 0 (hW_w_18.a tM_35) rfl (in_I i_p1 (by decide)) dX12_comes_134 (fun H locs hP hD hS => fr_w (hW_w_18.uA tM_35 (In_any (v_19 + 1))) hP hD (fun w_20 ew_20 hW_w_20 hP hD => ?_))
    refine lv_iconst (v := 0) hx hb dX12_comes_135 (by decide) ?_
    refine lv_istore (lv' := [(4, .int 0), (0, .ref (q 0)), (1, .int p1), (2, .int p2), (3, .int x76_3)]) hx hb dX12_comes_136 hl (by decide) rfl (fun ls hl => ?_)
    exact J138 _ x76_3 0 w_20 _ _ ls (Nat.lt_succ_self _) hW_w_20 (((((hM_w76.sa ew_12 (by decide)).sa ew_14 (by decide)).sa ew_16 (by decide)).sa ew_18 (by decide)).sa ew_20 (by decide)) i_p1 i_p2 (In_lit (n := 0) (by decide) (by decide) : In 0 3 0) (In_of ((fI_cg (st_ne ew_20 (by decide))).trans ((fI_cg (st_ne ew_18 (by decide))).trans ((fI_cg (st_ne ew_16 (by decide))).trans ((fI_cg (st_ne ew_14 (by decide))).trans ((fI_cg (st_ne ew_12 (by decide))).trans (hM_w76.gI (by decide))))))) (In_of (hM_w76.gI (by decide)).symm g76_0_37)) hP hD hS (lv_sub hl [1, 2, 3, 4, 0] rfl)
  have J50 : ∀ (x50_3 : Int32) (y50_0 : Int32) (w50 : va_W) (H : Heap) (locs : List Loc) (ls : Array Slot), HT q (TM q cI cJ cZ) w50 → Sm [27, 28, 29, 30, 31, 32, 33, 34, 35, 36] [] w w50 → (In 0 39 p1) → (In 1 200 p2) → (In 0 39 p1) → (In 1 200 (fI w50 0 37)) → va_P D vwCl w50 H → va_D A w50 → va_S A s.heap H locs → lv_has ls 7 [(0, .ref (q 0)), (1, .int p1), (2, .int p2), (3, .int x50_3)] → W p l e R s m args below meth c H locs 0 0 Q (F0 m 50 ls [.int y50_0, .int p1, .ref (q 28)]) := by
    intro x50_3 y50_0 w50 H locs ls hW_w50 hM_w50 i_x50_1 i_x50_2 i_y50_1 g50_0_37 hP hD hS hl
    refine va_iast hx hb hK hP hD hS 28 0 (hW_w50.a tM_28) rfl (in_I i_p1 (by decide)) dX12_comes_50 (fun H locs hP hD hS => fr_w (hW_w50.uA tM_28 (In_any y50_0)) hP hD (fun w_21 ew_21 hW_w_21 hP hD => ?_))
    refine lv_aload_n hx hb dX12_comes_51 rfl (lv_at hl 0 rfl) ?_
    refine gt_X12 hx hb hts hown hK hP 0 (hW_w_21.o tM_0) 49 (by decide) wd_1450 rfl (hW_w_21.fr tM_0 rfl) dX12_comes_52 ?_
    refine lv_iload_n hx hb dX12_comes_55 rfl (lv_at hl 1 rfl) ?_
    refine lv_iload_n hx hb dX12_comes_56 rfl (lv_at hl 3 rfl) ?_
    refine lv_aload_n hx hb dX12_comes_57 rfl (lv_at hl 0 rfl) ?_
    refine gt_X12 hx hb hts hown hK hP 0 (hW_w_21.o tM_0) 49 (by decide) wd_1450 rfl (hW_w_21.fr tM_0 rfl) dX12_comes_58 ?_
    refine lv_iload_n hx hb dX12_comes_61 rfl (lv_at hl 1 rfl) ?_
    refine va_iald hx hb hK hP 29 0 (hW_w_21.a tM_29) rfl (in_I i_p1 (by decide)) dX12_comes_62 ?_
    refine lv_topi (fun v_22 ev_22 => ?_)
    refine lv_icmp_le (tgt := 70) hx hb dX12_comes_63 (by decide) (fun c_23 => ?_) (fun c_23 => ?_)
    · refine lv_aload_n hx hb dX12_comes_70 rfl (lv_at hl 0 rfl) ?_
      refine gt_X12 hx hb hts hown hK hP 0 (hW_w_21.o tM_0) 49 (by decide) wd_1450 rfl (hW_w_21.fr tM_0 rfl) dX12_comes_71 ?_
      refine lv_iload_n hx hb dX12_comes_74 rfl (lv_at hl 1 rfl) ?_
      refine va_iald hx hb hK hP 29 0 (hW_w_21.a tM_29) rfl (in_I i_p1 (by decide)) dX12_comes_75 ?_
      refine tov (v := v_22) ((congrFun (aF_cg (st_ne ew_21 (by decide))) _).trans ((congrFun (aF_cg (st_ne ew_21 (by decide))) _).symm.trans ev_22.symm)) ?_
      exact J76 x50_3 v_22 w_21 _ _ ls hW_w_21 (hM_w50.sa ew_21 (by decide)) i_p1 i_p2 i_p1 (In_of ((fI_cg (st_ne ew_21 (by decide))).trans (hM_w50.gI (by decide))) (In_of (hM_w50.gI (by decide)).symm g50_0_37)) hP hD hS (lv_sub hl [0, 1, 2, 3] rfl)
    · refine lv_iload_n hx hb dX12_comes_66 rfl (lv_at hl 3 rfl) ?_
      refine lv_goto (tgt := 76) hx hb dX12_comes_67 (by decide) ?_
      exact J76 x50_3 x50_3 w_21 _ _ ls hW_w_21 (hM_w50.sa ew_21 (by decide)) i_p1 i_p2 i_p1 (In_of ((fI_cg (st_ne ew_21 (by decide))).trans (hM_w50.gI (by decide))) (In_of (hM_w50.gI (by decide)).symm g50_0_37)) hP hD hS (lv_sub hl [0, 1, 2, 3] rfl)
  refine lv_aload_n hx hb dX12_comes_0 rfl (lv_at hl 0 rfl) ?_
  refine gt_X12 hx hb hts hown hK hP 0 (hW_w.o tM_0) 56 (by decide) wd_1457 rfl (hW_w.fr tM_0 rfl) dX12_comes_1 ?_
  refine lv_iload_n hx hb dX12_comes_4 rfl (lv_at hl 2 rfl) ?_
  refine lv_iload_n hx hb dX12_comes_5 rfl (lv_at hl 1 rfl) ?_
  refine va_iast hx hb hK hP hD hS 36 0 (hW_w.a tM_36) rfl (in_I i_p2 (by decide)) dX12_comes_6 (fun H locs hP hD hS => fr_w (hW_w.uA tM_36 (In_w i_p1 (by decide) : In (-1) 39 p1)) hP hD (fun w_24 ew_24 hW_w_24 hP hD => ?_))
  refine lv_aload_n hx hb dX12_comes_7 rfl (lv_at hl 0 rfl) ?_
  refine gt_X12 hx hb hts hown hK hP 0 (hW_w_24.o tM_0) 41 (by decide) wd_1442 rfl (hW_w_24.fr tM_0 rfl) dX12_comes_8 ?_
  refine lv_iconst (v := 5) hx hb dX12_comes_11 (by decide) ?_
  refine lv_iload_n hx hb dX12_comes_12 rfl (lv_at hl 2 rfl) ?_
  refine lv_imul hx hb dX12_comes_13 ?_
  refine lv_iconst (v := 1) hx hb dX12_comes_14 (by decide) ?_
  refine lv_iadd hx hb dX12_comes_15 ?_
  refine va_iald hx hb hK hP 22 0 (hW_w_24.a tM_22) rfl (in_I ((In_add ((In_mull i_p2 (n := 5) (by decide) (by decide)) : In 5 1000 (5 * p2)) (In_lit (n := 1) (by decide) (by decide) : In 1 1 1) (by decide)) : In 6 1001 ((5 * p2) + 1)) (by decide)) dX12_comes_16 ?_
  refine lv_topi (fun v_25 ev_25 => ?_)
  refine lv_istore_n (lv' := [(3, .int v_25), (0, .ref (q 0)), (1, .int p1), (2, .int p2)]) hx hb dX12_comes_17 rfl hl (by decide) rfl (fun ls hl => ?_)
  refine lv_aload_n hx hb dX12_comes_18 rfl (lv_at hl 1 rfl) ?_
  refine gt_X12 hx hb hts hown hK hP 0 (hW_w_24.o tM_0) 47 (by decide) wd_1448 rfl (hW_w_24.fr tM_0 rfl) dX12_comes_19 ?_
  refine lv_iload_n hx hb dX12_comes_22 rfl (lv_at hl 2 rfl) ?_
  refine lv_iload_n hx hb dX12_comes_23 rfl (lv_at hl 0 rfl) ?_
  refine va_iast hx hb hK hP hD hS 27 0 (hW_w_24.a tM_27) rfl (in_I i_p1 (by decide)) dX12_comes_24 (fun H locs hP hD hS => fr_w (hW_w_24.uA tM_27 (In_any v_25)) hP hD (fun w_26 ew_26 hW_w_26 hP hD => ?_))
  refine lv_aload_n hx hb dX12_comes_25 rfl (lv_at hl 1 rfl) ?_
  refine gt_X12 hx hb hts hown hK hP 0 (hW_w_26.o tM_0) 48 (by decide) wd_1449 rfl (hW_w_26.fr tM_0 rfl) dX12_comes_26 ?_
  refine lv_iload_n hx hb dX12_comes_29 rfl (lv_at hl 2 rfl) ?_
  refine lv_iload_n hx hb dX12_comes_30 rfl (lv_at hl 0 rfl) ?_
  refine lv_aload_n hx hb dX12_comes_31 rfl (lv_at hl 1 rfl) ?_
  refine gt_X12 hx hb hts hown hK hP 0 (hW_w_26.o tM_0) 48 (by decide) wd_1449 rfl (hW_w_26.fr tM_0 rfl) dX12_comes_32 ?_
  refine lv_iload_n hx hb dX12_comes_35 rfl (lv_at hl 2 rfl) ?_
  refine va_iald hx hb hK hP 28 0 (hW_w_26.a tM_28) rfl (in_I i_p1 (by decide)) dX12_comes_36 ?_
  refine lv_topi (fun v_27 ev_27 => ?_)
  refine lv_icmp_ge (tgt := 44) hx hb dX12_comes_37 (by decide) (fun c_28 => ?_) (fun c_28 => ?_)
  · refine lv_aload_n hx hb dX12_comes_44 rfl (lv_at hl 1 rfl) ?_
    refine gt_X12 hx hb hts hown hK hP 0 (hW_w_26.o tM_0) 48 (by decide) wd_1449 rfl (hW_w_26.fr tM_0 rfl) dX12_comes_45 ?_
    refine lv_iload_n hx hb dX12_comes_48 rfl (lv_at hl 2 rfl) ?_
    refine va_iald hx hb hK hP 28 0 (hW_w_26.a tM_28) rfl (in_I i_p1 (by decide)) dX12_comes_49 ?_
    refine tov (v := v_27) ((congrFun ((aF_cg (st_ne ew_26 (by decide))).trans (aF_cg (st_ne ew_24 (by decide)))) _).trans ((congrFun ((aF_cg (st_ne ew_26 (by decide))).trans (aF_cg (st_ne ew_24 (by decide)))) _).symm.trans ev_27.symm)) ?_
    exact J50 v_25 v_27 w_26 _ _ ls hW_w_26 ((Sm.rf.sa ew_24 (by decide)).sa ew_26 (by decide)) i_p1 i_p2 i_p1 (In_of ((fI_cg (st_ne ew_26 (by decide))).trans (fI_cg (st_ne ew_24 (by decide)))) hf_0_37) hP hD hS (lv_sub hl [1, 2, 3, 0] rfl)
  · refine lv_iload_n hx hb dX12_comes_40 rfl (lv_at hl 0 rfl) ?_
    refine lv_goto (tgt := 50) hx hb dX12_comes_41 (by decide) ?_
    exact J50 v_25 v_25 w_26 _ _ ls hW_w_26 ((Sm.rf.sa ew_24 (by decide)).sa ew_26 (by decide)) i_p1 i_p2 i_p1 (In_of ((fI_cg (st_ne ew_26 (by decide))).trans (fI_cg (st_ne ew_24 (by decide)))) hf_0_37) hP hD hS (lv_sub hl [1, 2, 3, 0] rfl)
set_option maxRecDepth 100000 in
set_option maxHeartbeats 8000000 in
theorem k_X12_now (l : Launch) (D : va_G) (cI cJ cZ : ClassId) (q : Nat → Nat) (w : va_W) (hW_w : HT q (TM q cI cJ cZ) w) : Con_i l yX12_now cX12_now 1 (some .int) ({ frames := 0, cells := 0, slots := 0, locals := 0 }) D cI cJ cZ eW [.ref (q 0)] w (fun (r : Int32) (w1 : va_W) => HT q (TM q cI cJ cZ) w1 ∧ Sm [] [] w w1 ∧ In 0 200 r) := by
  refine eQ_i rfl (by decide) (Nat.le_of_ble_eq_true rfl) ⟨rfl, rfl⟩ ?_
  intro p e R s m args below meth c A Q hx hb hml hown hts hK hE hA hR hret hP hD hS ls hl
  have hown : s.vm.findClass RX12 = some m.cls := hown
  have hl : lv_has ls 1 [(0, .ref (q 0))] := hl
  refine lv_aload_n hx hb dX12_now_0 rfl (lv_at hl 0 rfl) ?_
  refine gt_X12 hx hb hts hown hK hP 0 (hW_w.o tM_0) 39 (by decide) wd_1440 rfl (hW_w.fi tM_0 rfl) dX12_now_1 ?_
  refine lv_iconst (v := (-1)) hx hb dX12_now_4 (by decide) ?_
  refine lv_icmp_ne (tgt := 15) hx hb dX12_now_5 (by decide) (fun c_1 => ?_) (fun c_1 => ?_)
  · refine lv_aload_n hx hb dX12_now_15 rfl (lv_at hl 0 rfl) ?_
    refine gt_X12 hx hb hts hown hK hP 0 (hW_w.o tM_0) 39 (by decide) wd_1440 rfl (hW_w.fi tM_0 rfl) dX12_now_16 ?_
    exact hret _ _ _ _ _ _ hP hD hS dX12_now_19 ⟨hW_w, Sm.rf, (R_ne_l (hW_w.fin tM_0 rfl : In (-1) 200 (fI w 0 39)) (In_lit (n := (-1)) (by decide) (by decide) : In (-1) (-1) (-1)) c_1 (by decide) : In 0 200 (fI w 0 39))⟩
  · refine lv_aload_n hx hb dX12_now_8 rfl (lv_at hl 0 rfl) ?_
    refine gt_X12 hx hb hts hown hK hP 0 (hW_w.o tM_0) 37 (by decide) wd_1438 rfl (hW_w.fi tM_0 rfl) dX12_now_9 ?_
    refine lv_goto (tgt := 19) hx hb dX12_now_12 (by decide) ?_
    exact hret _ _ _ _ _ _ hP hD hS dX12_now_19 ⟨hW_w, Sm.rf, (hW_w.fin tM_0 rfl : In 0 200 (fI w 0 37))⟩
set_option maxRecDepth 100000 in
set_option maxHeartbeats 8000000 in
theorem k_X12_isSo (l : Launch) (D : va_G) (cI cJ cZ : ClassId) (q : Nat → Nat) (w : va_W) (hW_w : HT q (TM q cI cJ cZ) w) (p1 : Int32) (i_p1 : In 1 200 p1) : Con_i l yX12_isSo cX12_isSo 2 (some .boolean) ({ frames := 1, cells := 0, slots := 0, locals := 20 }) D cI cJ cZ eW [.ref (q 0), .int p1] w (fun (r : Int32) (w1 : va_W) => HT q (TM q cI cJ cZ) w1 ∧ Sm [] [] w w1 ∧ In 0 1 r) := by
  refine eQ_z rfl (by decide) (Nat.le_of_ble_eq_true rfl) ⟨rfl, rfl⟩ ?_
  intro p e R s m args below meth c A Q hx hb hml hown hts hK hE hA hR hret hP hD hS ls hl
  have hown : s.vm.findClass RX12 = some m.cls := hown
  have hl : lv_has ls 2 [(0, .ref (q 0)), (1, .int p1)] := hl
  refine lv_iload_n hx hb dX12_isSo_0 rfl (lv_at hl 1 rfl) ?_
  refine lv_aload_n hx hb dX12_isSo_1 rfl (lv_at hl 0 rfl) ?_
  refine kW_i ⟨rfl, rfl⟩ hP hD hS hA (rW_V (As := []) (rest := [.int p1]) hx hb hml hown hts hK hE hP hD (k_X12_now l D cI cJ cZ q w hW_w  _) ⟨⟨rfl, rfl⟩, rfl, rfl⟩ sv_X12_457 ⟨(Nat.le_trans (by decide) hR.1), (Nat.le_trans (by decide) hR.2)⟩ 0 12 (hW_w.o tM_0) rfl rfl rfl hl.1 rfl (Nat.le_of_ble_eq_true rfl) dX12_isSo_2) (fun r_2 w_1 H locs hw_w_1 hP hD hS => ?_)
  obtain ⟨hW_w_1, hs_w_1, i_r_2⟩ := hw_w_1
  refine lv_icmp_gt (tgt := 34) hx hb dX12_isSo_5 (by decide) (fun c_3 => ?_) (fun c_3 => ?_)
  · refine lv_iconst (v := 0) hx hb dX12_isSo_34 (by decide) ?_
    exact hret _ _ _ _ _ _ hP hD hS dX12_isSo_35 (In_lit (n := 0) (by decide) (by decide) : In 0 1 0) ⟨hW_w_1, (Sm.rf.tr hs_w_1 (by decide)), (In_lit (n := 0) (by decide) (by decide) : In 0 1 0)⟩
  · refine lv_aload_n hx hb dX12_isSo_8 rfl (lv_at hl 0 rfl) ?_
    refine gt_X12 hx hb hts hown hK hP 0 (hW_w_1.o tM_0) 42 (by decide) wd_1443 rfl (hW_w_1.fr tM_0 rfl) dX12_isSo_9 ?_
    refine lv_iload_n hx hb dX12_isSo_12 rfl (lv_at hl 1 rfl) ?_
    refine va_iald hx hb hK hP 23 0 (hW_w_1.a tM_23) rfl (in_I i_p1 (by decide)) dX12_isSo_13 ?_
    refine lv_topi (fun v_4 ev_4 => ?_)
    refine lv_if_eq (tgt := 30) hx hb dX12_isSo_14 (by decide) (fun c_5 => ?_) (fun c_5 => ?_)
    · refine lv_iconst (v := 1) hx hb dX12_isSo_30 (by decide) ?_
      refine lv_goto (tgt := 35) hx hb dX12_isSo_31 (by decide) ?_
      exact hret _ _ _ _ _ _ hP hD hS dX12_isSo_35 (In_lit (n := 1) (by decide) (by decide) : In 0 1 1) ⟨hW_w_1, (Sm.rf.tr hs_w_1 (by decide)), (In_lit (n := 1) (by decide) (by decide) : In 0 1 1)⟩
    · refine lv_aload_n hx hb dX12_isSo_17 rfl (lv_at hl 0 rfl) ?_
      refine gt_X12 hx hb hts hown hK hP 0 (hW_w_1.o tM_0) 42 (by decide) wd_1443 rfl (hW_w_1.fr tM_0 rfl) dX12_isSo_18 ?_
      refine lv_iload_n hx hb dX12_isSo_21 rfl (lv_at hl 1 rfl) ?_
      refine va_iald hx hb hK hP 23 0 (hW_w_1.a tM_23) rfl (in_I i_p1 (by decide)) dX12_isSo_22 ?_
      refine tov (v := v_4) ((congrFun (hs_w_1.hA (by decide)) _).trans ((congrFun (hs_w_1.hA (by decide)) _).symm.trans ev_4.symm)) ?_
      refine lv_aload_n hx hb dX12_isSo_23 rfl (lv_at hl 0 rfl) ?_
      refine kW_i ⟨rfl, rfl⟩ hP hD hS hA (rW_V (As := []) (rest := [.int v_4]) hx hb hml hown hts hK hE hP hD (k_X12_now l D cI cJ cZ q w_1 hW_w_1  _) ⟨⟨rfl, rfl⟩, rfl, rfl⟩ sv_X12_457 ⟨(Nat.le_trans (by decide) hR.1), (Nat.le_trans (by decide) hR.2)⟩ 0 12 (hW_w_1.o tM_0) rfl rfl rfl hl.1 rfl (Nat.le_of_ble_eq_true rfl) dX12_isSo_24) (fun r_7 w_6 H locs hw_w_6 hP hD hS => ?_)
      obtain ⟨hW_w_6, hs_w_6, i_r_7⟩ := hw_w_6
      refine lv_icmp_le (tgt := 34) hx hb dX12_isSo_27 (by decide) (fun c_8 => ?_) (fun c_8 => ?_)
      · refine lv_iconst (v := 0) hx hb dX12_isSo_34 (by decide) ?_
        exact hret _ _ _ _ _ _ hP hD hS dX12_isSo_35 (In_lit (n := 0) (by decide) (by decide) : In 0 1 0) ⟨hW_w_6, ((Sm.rf.tr hs_w_1 (by decide)).tr hs_w_6 (by decide)), (In_lit (n := 0) (by decide) (by decide) : In 0 1 0)⟩
      · refine lv_iconst (v := 1) hx hb dX12_isSo_30 (by decide) ?_
        refine lv_goto (tgt := 35) hx hb dX12_isSo_31 (by decide) ?_
        exact hret _ _ _ _ _ _ hP hD hS dX12_isSo_35 (In_lit (n := 1) (by decide) (by decide) : In 0 1 1) ⟨hW_w_6, ((Sm.rf.tr hs_w_1 (by decide)).tr hs_w_6 (by decide)), (In_lit (n := 1) (by decide) (by decide) : In 0 1 1)⟩
