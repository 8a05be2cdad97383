set_option maxRecDepth 100000 in
set_option maxHeartbeats 8000000 in
theorem kl_X12_lane (l : Launch) (D : va_G) (cI cJ cZ : ClassId) (q : Nat → Nat) (w : va_W) (hW_w : HT q (TM q cI cJ cZ) w) (p1 : Int32) (p2 : Int32) (p3 : Int32) (p4 : Int64) (i_p1 : In 0 282 p1) (i_p2 : In 1 282 p2) (hf_0_62 : In 0 2198 (fI w 0 62)) : Con_i l yX12_lane cX12_lane 6 (some .int) ({ frames := 0, cells := 0, slots := 0, locals := 0 }) D cI cJ cZ eW [.ref (q 0), .int p1, .int p2, .int p3, .long p4] w (fun (r : Int32) (w1 : va_W) => HT q (TM q cI cJ cZ) w1 ∧ Sm [0, 38, 39, 40, 41] [(0, 62)] w w1 ∧ In 0 2198 r ∧ In 2 2200 (fI w1 0 62) ∧ ((fI w1 0 62).toInt = (fI w 0 62).toInt + 2) ∧ ((r.toInt.toNat < lnM w1)) ∧ ((LBx w → okLn p1 p2 p3 p4 → LBx w1))) := by
  refine eQ_i rfl (by decide) (Nat.le_of_ble_eq_true rfl) ⟨rfl, rfl⟩ ?_
  intro p e R s m args below meth c A Q hx hb hml hown hts hK hE hA hR hret hP hD hS ls hl
  have hown : s.vm.findClass RX12 = some m.cls := hown
  have hl : lv_has ls 6 [(0, .ref (q 0)), (1, .int p1), (2, .int p2), (3, .int p3), (4, .long p4)] := hl
  refine lv_aload_n hx hb dX12_lane_0 rfl (lv_at hl 0 rfl) ?_
  refine gt_X12 hx hb hts hown hK hP 0 (hW_w.o tM_0) 58 (by decide) wd_1459 rfl (hW_w.fr tM_0 rfl) dX12_lane_1 ?_
  refine lv_aload_n hx hb dX12_lane_4 rfl (lv_at hl 0 rfl) ?_
  refine gt_X12 hx hb hts hown hK hP 0 (hW_w.o tM_0) 62 (by decide) wd_1463 rfl (hW_w.fi tM_0 rfl) dX12_lane_5 ?_
  refine lv_iload_n hx hb dX12_lane_8 rfl (lv_at hl 1 rfl) ?_
  refine va_iast hx hb hK hP hD hS 38 0 (hW_w.a tM_38) rfl (in_I hf_0_62 (by decide)) dX12_lane_9 (fun H locs hP hD hS => fr_w (hW_w.uA tM_38 (In_w i_p1 (by decide) : In 0 289 p1)) hP hD (fun w_1 ew_1 hW_w_1 hP hD => ?_))
  refine lv_aload_n hx hb dX12_lane_10 rfl (lv_at hl 0 rfl) ?_
  refine gt_X12 hx hb hts hown hK hP 0 (hW_w_1.o tM_0) 59 (by decide) wd_1460 rfl (hW_w_1.fr tM_0 rfl) dX12_lane_11 ?_
  refine lv_aload_n hx hb dX12_lane_14 rfl (lv_at hl 0 rfl) ?_
  refine gt_X12 hx hb hts hown hK hP 0 (hW_w_1.o tM_0) 62 (by decide) wd_1463 rfl (hW_w_1.fi tM_0 rfl) dX12_lane_15 ?_
  refine tov (v := (fI w 0 62)) (fI_cg (st_ne ew_1 (by decide))) ?_
  refine lv_iload_n hx hb dX12_lane_18 rfl (lv_at hl 2 rfl) ?_
  refine va_iast hx hb hK hP hD hS 39 0 (hW_w_1.a tM_39) rfl (in_I hf_0_62 (by decide)) dX12_lane_19 (fun H locs hP hD hS => fr_w (hW_w_1.uA tM_39 (In_w i_p2 (by decide) : In 0 289 p2)) hP hD (fun w_2 ew_2 hW_w_2 hP hD => ?_))
  refine lv_aload_n hx hb dX12_lane_20 rfl (lv_at hl 0 rfl) ?_
  refine gt_X12 hx hb hts hown hK hP 0 (hW_w_2.o tM_0) 60 (by decide) wd_1461 rfl (hW_w_2.fr tM_0 rfl) dX12_lane_21 ?_
  refine lv_aload_n hx hb dX12_lane_24 rfl (lv_at hl 0 rfl) ?_
  refine gt_X12 hx hb hts hown hK hP 0 (hW_w_2.o tM_0) 62 (by decide) wd_1463 rfl (hW_w_2.fi tM_0 rfl) dX12_lane_25 ?_
  refine tov (v := (fI w 0 62)) ((fI_cg (st_ne ew_2 (by decide))).trans (fI_cg (st_ne ew_1 (by decide)))) ?_
  refine lv_iload_n hx hb dX12_lane_28 rfl (lv_at hl 3 rfl) ?_
  refine va_iast hx hb hK hP hD hS 40 0 (hW_w_2.a tM_40) rfl (in_I hf_0_62 (by decide)) dX12_lane_29 (fun H locs hP hD hS => fr_w (hW_w_2.uA tM_40 (In_any p3)) hP hD (fun w_3 ew_3 hW_w_3 hP hD => ?_))
  refine lv_aload_n hx hb dX12_lane_30 rfl (lv_at hl 0 rfl) ?_
  refine gt_X12 hx hb hts hown hK hP 0 (hW_w_3.o tM_0) 61 (by decide) wd_1462 rfl (hW_w_3.fr tM_0 rfl) dX12_lane_31 ?_
  refine lv_aload_n hx hb dX12_lane_34 rfl (lv_at hl 0 rfl) ?_
  refine gt_X12 hx hb hts hown hK hP 0 (hW_w_3.o tM_0) 62 (by decide) wd_1463 rfl (hW_w_3.fi tM_0 rfl) dX12_lane_35 ?_
  refine tov (v := (fI w 0 62)) ((fI_cg (st_ne ew_3 (by decide))).trans ((fI_cg (st_ne ew_2 (by decide))).trans (fI_cg (st_ne ew_1 (by decide))))) ?_
  refine lv_lload hx hb dX12_lane_38 (lv_at hl 4 rfl) ?_
  refine va_last hx hb hK hP hD hS 41 1 (hW_w_3.al tM_41) rfl (in_I hf_0_62 (by decide)) dX12_lane_40 (fun H locs hP hD hS => fr_w (hW_w_3.uL tM_41) hP hD (fun w_4 ew_4 hW_w_4 hP hD => ?_))
  refine lv_aload_n hx hb dX12_lane_41 rfl (lv_at hl 0 rfl) ?_
  refine gt_X12 hx hb hts hown hK hP 0 (hW_w_4.o tM_0) 58 (by decide) wd_1459 rfl (hW_w_4.fr tM_0 rfl) dX12_lane_42 ?_
  refine lv_aload_n hx hb dX12_lane_45 rfl (lv_at hl 0 rfl) ?_
  refine gt_X12 hx hb hts hown hK hP 0 (hW_w_4.o tM_0) 62 (by decide) wd_1463 rfl (hW_w_4.fi tM_0 rfl) dX12_lane_46 ?_
  refine tov (v := (fI w 0 62)) ((fI_cg (st_ne ew_4 (by decide))).trans ((fI_cg (st_ne ew_3 (by decide))).trans ((fI_cg (st_ne ew_2 (by decide))).trans (fI_cg (st_ne ew_1 (by decide)))))) ?_
  refine lv_iconst (v := 1) hx hb dX12_lane_49 (by decide) ?_
  refine lv_iadd hx hb dX12_lane_50 ?_
  refine lv_iload_n hx hb dX12_lane_51 rfl (lv_at hl 2 rfl) ?_
  refine va_iast hx hb hK hP hD hS 38 0 (hW_w_4.a tM_38) rfl (in_I ((In_add hf_0_62 (In_lit (n := 1) (by decide) (by decide) : In 1 1 1) (by decide)) : In 1 2199 ((fI w 0 62) + 1)) (by decide)) dX12_lane_52 (fun H locs hP hD hS => fr_w (hW_w_4.uA tM_38 (In_w i_p2 (by decide) : In 0 289 p2)) hP hD (fun w_5 ew_5 hW_w_5 hP hD => ?_))
  refine lv_aload_n hx hb dX12_lane_53 rfl (lv_at hl 0 rfl) ?_
  refine gt_X12 hx hb hts hown hK hP 0 (hW_w_5.o tM_0) 59 (by decide) wd_1460 rfl (hW_w_5.fr tM_0 rfl) dX12_lane_54 ?_
  refine lv_aload_n hx hb dX12_lane_57 rfl (lv_at hl 0 rfl) ?_
  refine gt_X12 hx hb hts hown hK hP 0 (hW_w_5.o tM_0) 62 (by decide) wd_1463 rfl (hW_w_5.fi tM_0 rfl) dX12_lane_58 ?_
  refine tov (v := (fI w 0 62)) ((fI_cg (st_ne ew_5 (by decide))).trans ((fI_cg (st_ne ew_4 (by decide))).trans ((fI_cg (st_ne ew_3 (by decide))).trans ((fI_cg (st_ne ew_2 (by decide))).trans (fI_cg (st_ne ew_1 (by decide))))))) ?_
  refine lv_iconst (v := 1) hx hb dX12_lane_61 (by decide) ?_
  refine lv_iadd hx hb dX12_lane_62 ?_
  refine lv_iload_n hx hb dX12_lane_63 rfl (lv_at hl 1 rfl) ?_
  refine va_iast hx hb hK hP hD hS 39 0 (hW_w_5.a tM_39) rfl (in_I ((In_add hf_0_62 (In_lit (n := 1) (by decide) (by decide) : In 1 1 1) (by decide)) : In 1 2199 ((fI w 0 62) + 1)) (by decide)) dX12_lane_64 (fun H locs hP hD hS => fr_w (hW_w_5.uA tM_39 (In_w i_p1 (by decide) : In 0 289 p1)) hP hD (fun w_6 ew_6 hW_w_6 hP hD => ?_))
  refine lv_aload_n hx hb dX12_lane_65 rfl (lv_at hl 0 rfl) ?_
  refine gt_X12 hx hb hts hown hK hP 0 (hW_w_6.o tM_0) 60 (by decide) wd_1461 rfl (hW_w_6.fr tM_0 rfl) dX12_lane_66 ?_
  refine lv_aload_n hx hb dX12_lane_69 rfl (lv_at hl 0 rfl) ?_
  refine gt_X12 hx hb hts hown hK hP 0 (hW_w_6.o tM_0) 62 (by decide) wd_1463 rfl (hW_w_6.fi tM_0 rfl) dX12_lane_70 ?_
  refine tov (v := (fI w 0 62)) ((fI_cg (st_ne ew_6 (by decide))).trans ((fI_cg (st_ne ew_5 (by decide))).trans ((fI_cg (st_ne ew_4 (by decide))).trans ((fI_cg (st_ne ew_3 (by decide))).trans ((fI_cg (st_ne ew_2 (by decide))).trans (fI_cg (st_ne ew_1 (by decide)))))))) ?_
  refine lv_iconst (v := 1) hx hb dX12_lane_73 (by decide) ?_
  refine lv_iadd hx hb dX12_lane_74 ?_
  refine lv_iconst (v := 0) hx hb dX12_lane_75 (by decide) ?_
  refine va_iast hx hb hK hP hD hS 40 0 (hW_w_6.a tM_40) rfl (in_I ((In_add hf_0_62 (In_lit (n := 1) (by decide) (by decide) : In 1 1 1) (by decide)) : In 1 2199 ((fI w 0 62) + 1)) (by decide)) dX12_lane_76 (fun H locs hP hD hS => fr_w (hW_w_6.uA tM_40 (In_lit (n := 0) (by decide) (by decide) : In (-2147483648) 2147483647 0)) hP hD (fun w_7 ew_7 hW_w_7 hP hD => ?_))
  refine lv_aload_n hx hb dX12_lane_77 rfl (lv_at hl 0 rfl) ?_
  refine gt_X12 hx hb hts hown hK hP 0 (hW_w_7.o tM_0) 61 (by decide) wd_1462 rfl (hW_w_7.fr tM_0 rfl) dX12_lane_78 ?_
  refine lv_aload_n hx hb dX12_lane_81 rfl (lv_at hl 0 rfl) ?_
  refine gt_X12 hx hb hts hown hK hP 0 (hW_w_7.o tM_0) 62 (by decide) wd_1463 rfl (hW_w_7.fi tM_0 rfl) dX12_lane_82 ?_
  refine tov (v := (fI w 0 62)) ((fI_cg (st_ne ew_7 (by decide))).trans ((fI_cg (st_ne ew_6 (by decide))).trans ((fI_cg (st_ne ew_5 (by decide))).trans ((fI_cg (st_ne ew_4 (by decide))).trans ((fI_cg (st_ne ew_3 (by decide))).trans ((fI_cg (st_ne ew_2 (by decide))).trans (fI_cg (st_ne ew_1 (by decide))))))))) ?_
  refine lv_iconst (v := 1) hx hb dX12_lane_85 (by decide) ?_
  refine lv_iadd hx hb dX12_lane_86 ?_
  refine lv_lload hx hb dX12_lane_87 (lv_at hl 4 rfl) ?_
  refine lv_lneg hx hb dX12_lane_89 ?_
  refine lv_topl (fun v_8 ev_8 => ?_)
  refine va_last hx hb hK hP hD hS 41 1 (hW_w_7.al tM_41) rfl (in_I ((In_add hf_0_62 (In_lit (n := 1) (by decide) (by decide) : In 1 1 1) (by decide)) : In 1 2199 ((fI w 0 62) + 1)) (by decide)) dX12_lane_90 (fun H locs hP hD hS => fr_w (hW_w_7.uL tM_41) hP hD (fun w_9 ew_9 hW_w_9 hP hD => ?_))
  refine lv_aload_n hx hb dX12_lane_91 rfl (lv_at hl 0 rfl) ?_
  refine lv_dup hx hb dX12_lane_92 rfl ?_
  refine gt_X12 hx hb hts hown hK hP 0 (hW_w_9.o tM_0) 62 (by decide) wd_1463 rfl (hW_w_9.fi tM_0 rfl) dX12_lane_93 ?_
  refine tov (v := (fI w 0 62)) ((fI_cg (st_ne ew_9 (by decide))).trans ((fI_cg (st_ne ew_7 (by decide))).trans ((fI_cg (st_ne ew_6 (by decide))).trans ((fI_cg (st_ne ew_5 (by decide))).trans ((fI_cg (st_ne ew_4 (by decide))).trans ((fI_cg (st_ne ew_3 (by decide))).trans ((fI_cg (st_ne ew_2 (by decide))).trans (fI_cg (st_ne ew_1 (by decide)))))))))) ?_
  refine lv_iconst (v := 2) hx hb dX12_lane_96 (by decide) ?_
  refine lv_iadd hx hb dX12_lane_97 ?_
  refine pt_X12 hx hb hts hown hK hP hD hS 0 (hW_w_9.o tM_0) 62 (by decide) wd_1463 rfl rfl (ty := .int) (v := .int ((fI w 0 62) + 2)) (by decide +kernel) rfl rfl (hW_w_9.ll tM_0 (Nat.le_of_ble_eq_true rfl)) dX12_lane_98 (fun H locs hP hD hS => fr_w (hW_w_9.sI tM_0 rfl (In_w ((In_add hf_0_62 (In_lit (n := 2) (by decide) (by decide) : In 2 2 2) (by decide)) : In 2 2200 ((fI w 0 62) + 2)) (by decide) : In 0 2200 ((fI w 0 62) + 2))) hP hD (fun w_10 ew_10 hW_w_10 hP hD => ?_))
  refine lv_aload_n hx hb dX12_lane_101 rfl (lv_at hl 0 rfl) ?_
  refine gt_X12 hx hb hts hown hK hP 0 (hW_w_10.o tM_0) 62 (by decide) wd_1463 rfl (hW_w_10.fi tM_0 rfl) dX12_lane_102 ?_
  refine tov (v := ((fI w 0 62) + 2)) (fI_eq (hW_w_9.lt tM_0) ew_10 (hW_w_9.ll tM_0 (Nat.le_of_ble_eq_true rfl))) ?_
  refine lv_iconst (v := 2) hx hb dX12_lane_105 (by decide) ?_
  refine lv_isub hx hb dX12_lane_106 ?_
  exact hret _ _ _ _ _ _ hP hD hS dX12_lane_107 ⟨hW_w_10, (((((((((Sm.rf.sa ew_1 (by decide)).sa ew_2 (by decide)).sa ew_3 (by decide)).sa ew_4 (by decide)).sa ew_5 (by decide)).sa ew_6 (by decide)).sa ew_7 (by decide)).sa ew_9 (by decide)).sf (hW_w_9.lt tM_0) ew_10 (by decide)), ((In_sub ((In_add hf_0_62 (In_lit (n := 2) (by decide) (by decide) : In 2 2 2) (by decide)) : In 2 2200 ((fI w 0 62) + 2)) (In_lit (n := 2) (by decide) (by decide) : In 2 2 2) (by decide)) : In 0 2198 (((fI w 0 62) + 2) - 2)), (In_of (fI_eq (hW_w_9.lt tM_0) ew_10 (hW_w_9.ll tM_0 (Nat.le_of_ble_eq_true rfl))) ((In_add hf_0_62 (In_lit (n := 2) (by decide) (by decide) : In 2 2 2) (by decide)) : In 2 2200 ((fI w 0 62) + 2))), (by have e0_62 : (fI w_10 0 62).toInt = (((fI w 0 62) + 2) : Int32).toInt := congrArg Int32.toInt (fI_eq (hW_w_9.lt tM_0) ew_10 (hW_w_9.ll tM_0 (Nat.le_of_ble_eq_true rfl))); have i0_62 := ((In_add hf_0_62 (In_lit (n := 2) (by decide) (by decide) : In 2 2 2) (by decide)) : In 2 2200 ((fI w 0 62) + 2)); unfold In at i0_62; have t17 := t_add hf_0_62 (In_lit (n := 2) (by decide) (by decide) : In 2 2 2) (by decide); have z2 : (2 : Int32).toInt = 2 := (by decide); omega), (by have t23 := t_sub ((In_add hf_0_62 (In_lit (n := 2) (by decide) (by decide) : In 2 2 2) (by decide)) : In 2 2200 ((fI w 0 62) + 2)) (In_lit (n := 2) (by decide) (by decide) : In 2 2 2) (by decide); have z2 : (2 : Int32).toInt = 2 := (by decide); have t17 := t_add hf_0_62 (In_lit (n := 2) (by decide) (by decide) : In 2 2 2) (by decide); have z2 : (2 : Int32).toInt = 2 := (by decide); have e0_62 : (fI w_10 0 62).toInt = (((fI w 0 62) + 2) : Int32).toInt := congrArg Int32.toInt (fI_eq (hW_w_9.lt tM_0) ew_10 (hW_w_9.ll tM_0 (Nat.le_of_ble_eq_true rfl))); have i0_62 := ((In_add hf_0_62 (In_lit (n := 2) (by decide) (by decide) : In 2 2 2) (by decide)) : In 2 2200 ((fI w 0 62) + 2)); unfold In at i0_62; have t17 := t_add hf_0_62 (In_lit (n := 2) (by decide) (by decide) : In 2 2 2) (by decide); have z2 : (2 : Int32).toInt = 2 := (by decide); have i62 := hf_0_62; unfold In at i62; show ((((fI w 0 62) + 2) - 2) : Int32).toInt.toNat < (fI w_10 0 62).toInt.toNat; omega), (fun hB hk => LB_add (a := p1) (b := p2) (t := p3) (c := p4) (c2 := v_8) hf_0_62 (by rw [(aF_cg (st_ne ew_10 (by decide))), (aF_cg (st_ne ew_9 (by decide))), (aF_cg (st_ne ew_7 (by decide))), (aF_cg (st_ne ew_6 (by decide))), aF_eq (hW_w_4.lt tM_38) ew_5, (aF_cg (st_ne ew_4 (by decide))), (aF_cg (st_ne ew_3 (by decide))), (aF_cg (st_ne ew_2 (by decide))), aF_eq (hW_w.lt tM_38) ew_1]) (by rw [(aF_cg (st_ne ew_10 (by decide))), (aF_cg (st_ne ew_9 (by decide))), (aF_cg (st_ne ew_7 (by decide))), aF_eq (hW_w_5.lt tM_39) ew_6, (aF_cg (st_ne ew_5 (by decide))), (aF_cg (st_ne ew_4 (by decide))), (aF_cg (st_ne ew_3 (by decide))), aF_eq (hW_w_1.lt tM_39) ew_2, (aF_cg (st_ne ew_1 (by decide)))]) (by rw [(aF_cg (st_ne ew_10 (by decide))), (aF_cg (st_ne ew_9 (by decide))), aF_eq (hW_w_6.lt tM_40) ew_7, (aF_cg (st_ne ew_6 (by decide))), (aF_cg (st_ne ew_5 (by decide))), (aF_cg (st_ne ew_4 (by decide))), aF_eq (hW_w_2.lt tM_40) ew_3, (aF_cg (st_ne ew_2 (by decide))), (aF_cg (st_ne ew_1 (by decide)))]) (by rw [(aL_cg (st_ne ew_10 (by decide))), aL_eq (hW_w_7.lt tM_41) ew_9, (aL_cg (st_ne ew_7 (by decide))), (aL_cg (st_ne ew_6 (by decide))), (aL_cg (st_ne ew_5 (by decide))), aL_eq (hW_w_3.lt tM_41) ew_4, (aL_cg (st_ne ew_3 (by decide))), (aL_cg (st_ne ew_2 (by decide))), (aL_cg (st_ne ew_1 (by decide)))]) ev_8 (by have e0_62 : (fI w_10 0 62).toInt = (((fI w 0 62) + 2) : Int32).toInt := congrArg Int32.toInt (fI_eq (hW_w_9.lt tM_0) ew_10 (hW_w_9.ll tM_0 (Nat.le_of_ble_eq_true rfl))); have i0_62 := ((In_add hf_0_62 (In_lit (n := 2) (by decide) (by decide) : In 2 2 2) (by decide)) : In 2 2200 ((fI w 0 62) + 2)); unfold In at i0_62; have t17 := t_add hf_0_62 (In_lit (n := 2) (by decide) (by decide) : In 2 2 2) (by decide); have z2 : (2 : Int32).toInt = 2 := (by decide); omega) hB hk)⟩
set_option maxRecDepth 100000 in
set_option maxHeartbeats 8000000 in
theorem k_X12_give (l : Launch) (D : va_G) (cI cJ cZ : ClassId) (q : Nat → Nat) (w : va_W) (hW_w : HT q (TM q cI cJ cZ) w) (hLM : LM w) (hRV : RV w) (hLY : LY w) : Con_i l yX12_give cX12_give 3 (some .int) ({ frames := 5, cells := 0, slots := 0, locals := 124 }) D cI cJ cZ eW [.ref (q 0)] w (fun (r : Int32) (w1 : va_W) => HT q (TM q cI cJ cZ) w1 ∧ Sm [0, 26, 27, 28, 29, 30, 31, 32, 33, 34, 35, 36, 37, 38, 39, 40, 41, 42, 43, 44, 45, 46, 47, 48, 49, 50, 51, 52, 53, 54] [(0, 45), (0, 62), (0, 68), (0, 69), (0, 78), (0, 79), (0, 80)] w w1) := by
  refine eQ_i rfl (by decide) (Nat.le_of_ble_eq_true rfl) ⟨rfl, rfl⟩ ?_
  intro p e R s m args below meth c A Q hx hb hml hown hts hK hE hA hR hret hP hD hS ls hl
  have hown : s.vm.findClass RX12 = some m.cls := hown
  have hl : lv_has ls 3 [(0, .ref (q 0))] := hl
  have J402 : ∀ (N : Nat) (x402_1 : Int32) (w402 : va_W) (H : Heap) (locs : List Loc) (ls : Array Slot), (40 - x402_1.toInt).toNat < N → HT q (TM q cI cJ cZ) w402 → Sm [0, 26, 27, 28, 29, 30, 31, 32, 33, 34, 35, 36, 37, 38, 39, 40, 41, 42, 43, 44, 45, 46, 47, 48, 49, 50, 51, 52, 53, 54] [(0, 45), (0, 62), (0, 68), (0, 69), (0, 78), (0, 79), (0, 80)] w w402 → (In 0 40 x402_1) → va_P D vwCl w402 H → va_D A w402 → va_S A s.heap H locs → lv_has ls 3 [(0, .ref (q 0)), (1, .int x402_1)] → W p l e R s m args below meth c H locs 0 0 Q (F0 m 402 ls []) := by
    intro N
    induction N with
    | zero => intro x402_1 w402 H locs ls hmu; exact absurd hmu (Nat.not_lt_zero _)
    | succ N ih402 =>
      intro x402_1 w402 H locs ls hmu402 hW_w402 hM_w402 i_x402_1 hP hD hS hl
      have J419 : ∀ (N : Nat) (x419_2 : Int32) (w419 : va_W) (H : Heap) (locs : List Loc) (ls : Array Slot), (10 - x419_2.toInt).toNat < N → HT q (TM q cI cJ cZ) w419 → Sm [0, 26, 27, 28, 29, 30, 31, 32, 33, 34, 35, 36, 37, 38, 39, 40, 41, 42, 43, 44, 45, 46, 47, 48, 49, 50, 51, 52, 53, 54] [(0, 45), (0, 62), (0, 68), (0, 69), (0, 78), (0, 79), (0, 80)] w w419 → (In 0 39 x402_1) → (In 0 10 x419_2) → (fI w419 0 45 = (fI w402 0 45)) → (In 1 40 (fI w402 0 45)) → va_P D vwCl w419 H → va_D A w419 → va_S A s.heap H locs → lv_has ls 3 [(0, .ref (q 0)), (1, .int x402_1), (2, .int x419_2)] → W p l e R s m args below meth c H locs 0 0 Q (F0 m 419 ls []) := by
        intro N
        induction N with
        | zero => intro x419_2 w419 H locs ls hmu; exact absurd hmu (Nat.not_lt_zero _)
        | succ N ih419 =>
          intro x419_2 w419 H locs ls hmu419 hW_w419 hM_w419 i_x419_1 i_x419_2 g419_0_45e g419_0_45 hP hD hS hl
          have J496 : ∀ (w496 : va_W) (H : Heap) (locs : List Loc) (ls : Array Slot), HT q (TM q cI cJ cZ) w496 → Sm [0, 26, 27, 28, 29, 30, 31, 32, 33, 34, 35, 36, 37, 38, 39, 40, 41, 42, 43, 44, 45, 46, 47, 48, 49, 50, 51, 52, 53, 54] [(0, 45), (0, 62), (0, 68), (0, 69), (0, 78), (0, 79), (0, 80)] w w496 → (In 0 39 x402_1) → (In 0 9 x419_2) → (fI w496 0 45 = (fI w402 0 45)) → (In 1 40 (fI w402 0 45)) → va_P D vwCl w496 H → va_D A w496 → va_S A s.heap H locs → lv_has ls 3 [(0, .ref (q 0)), (1, .int x402_1), (2, .int x419_2)] → W p l e R s m args below meth c H locs 0 0 Q (F0 m 496 ls []) := by
            intro w496 H locs ls hW_w496 hM_w496 i_x496_1 i_x496_2 g496_0_45e g496_0_45 hP hD hS hl
            refine lv_iinc (v := (x419_2 + 1)) (lv' := [(2, .int (x419_2 + 1)), (0, .ref (q 0)), (1, .int x402_1)]) hx hb dX12_give_496 hl (k := 2) rfl (rfl) (by decide) rfl (fun ls hl => ?_)
            refine lv_goto (tgt := 419) hx hb dX12_give_499 (by decide) ?_
            exact ih419 (x419_2 + 1) w496 _ _ ls (mu_inc hmu419 i_x496_2 (In_lit (n := 1) (by decide) (by decide) : In 1 1 1) (by decide)) hW_w496 hM_w496 i_x419_1 (In_w ((In_add (y := 1) i_x496_2 (In_lit (n := 1) (by decide) (by decide) : In 1 1 1) (by decide)) : In 1 10 (x419_2 + 1)) (by decide) : In 0 10 (x419_2 + 1)) g496_0_45e g419_0_45 hP hD hS (lv_sub hl [1, 2, 0] rfl)
          refine lv_iload_n hx hb dX12_give_419 rfl (lv_at hl 2 rfl) ?_
          refine lv_aload_n hx hb dX12_give_420 rfl (lv_at hl 0 rfl) ?_
          refine gt_X12 hx hb hts hown hK hP 0 (hW_w419.o tM_0) 14 (by decide) wd_1415 rfl (hW_w419.fr tM_0 rfl) dX12_give_421 ?_
          refine lv_aload_n hx hb dX12_give_424 rfl (lv_at hl 0 rfl) ?_
          refine gt_X12 hx hb hts hown hK hP 0 (hW_w419.o tM_0) 12 (by decide) wd_1413 rfl (hW_w419.fi tM_0 rfl) dX12_give_425 ?_
          refine tov (v := (fI w 0 12)) (hM_w419.2 0 12 (by decide) (by decide)) ?_
          refine va_iald hx hb hK hP 2 0 (hW_w419.a tM_2) rfl (in_I (hW_w.fin tM_0 rfl : In 0 1 (fI w 0 12)) (by decide)) dX12_give_428 ?_
          refine lv_topi (fun v_1 ev_1 => ?_)
          refine lv_icmp_ge (tgt := 502) hx hb dX12_give_429 (by decide) (fun c_2 => ?_) (fun c_2 => ?_)
          · refine lv_aload_n hx hb dX12_give_502 rfl (lv_at hl 0 rfl) ?_
            refine gt_X12 hx hb hts hown hK hP 0 (hW_w419.o tM_0) 76 (by decide) wd_1477 rfl (hW_w419.fr tM_0 rfl) dX12_give_503 ?_
            refine lv_iload_n hx hb dX12_give_506 rfl (lv_at hl 1 rfl) ?_
            refine lv_aload_n hx hb dX12_give_507 rfl (lv_at hl 0 rfl) ?_
            refine gt_X12 hx hb hts hown hK hP 0 (hW_w419.o tM_0) 75 (by decide) wd_1476 rfl (hW_w419.fr tM_0 rfl) dX12_give_508 ?_
            refine lv_iload_n hx hb dX12_give_511 rfl (lv_at hl 1 rfl) ?_
            refine va_iald hx hb hK hP 52 0 (hW_w419.a tM_52) rfl (in_I i_x419_1 (by decide)) dX12_give_512 ?_
            refine lv_topi (fun v_3 ev_3 => ?_)
            refine va_iast hx hb hK hP hD hS 53 0 (hW_w419.a tM_53) rfl (in_I i_x419_1 (by decide)) dX12_give_513 (fun H locs hP hD hS => fr_w (hW_w419.uA tM_53 (In_any v_3)) hP hD (fun w_4 ew_4 hW_w_4 hP hD => ?_))
            refine lv_iinc (v := (x402_1 + 1)) (lv' := [(1, .int (x402_1 + 1)), (0, .ref (q 0)), (2, .int x419_2)]) hx hb dX12_give_514 hl (k := 1) rfl (rfl) (by decide) rfl (fun ls hl => ?_)
            refine lv_goto (tgt := 402) hx hb dX12_give_517 (by decide) ?_
            exact ih402 (x402_1 + 1) w_4 _ _ ls (mu_inc hmu402 i_x419_1 (In_lit (n := 1) (by decide) (by decide) : In 1 1 1) (by decide)) hW_w_4 (hM_w419.sa ew_4 (by decide)) (In_w ((In_add (y := 1) i_x419_1 (In_lit (n := 1) (by decide) (by decide) : In 1 1 1) (by decide)) : In 1 40 (x402_1 + 1)) (by decide) : In 0 40 (x402_1 + 1)) hP hD hS (lv_sub hl [1, 0] rfl)
          · refine lv_aload_n hx hb dX12_give_432 rfl (lv_at hl 0 rfl) ?_
            refine gt_X12 hx hb hts hown hK hP 0 (hW_w419.o tM_0) 66 (by decide) wd_1467 rfl (hW_w419.fr tM_0 rfl) dX12_give_433 ?_
            refine lv_bipush (v := 10) hx hb dX12_give_436 (by decide) ?_
            refine lv_iload_n hx hb dX12_give_438 rfl (lv_at hl 1 rfl) ?_
            refine lv_imul hx hb dX12_give_439 ?_
            refine lv_iload_n hx hb dX12_give_440 rfl (lv_at hl 2 rfl) ?_
            refine lv_iadd hx hb dX12_give_441 ?_
            refine va_zald hx hb hK hP 45 2 (hW_w419.a tM_45) rfl (in_I ((In_add ((In_mull i_x419_1 (n := 10) (by decide) (by decide)) : In 0 390 (10 * x402_1)) (R_nle_r (In_of ev_1 (hW_w419.ap tM_2 _) : In 0 10 v_1) i_x419_2 c_2 (by decide) : In 0 9 x419_2) (by decide)) : In 0 399 ((10 * x402_1) + x419_2)) (by decide)) dX12_give_442 ?_
            refine lv_topi (fun v_5 ev_5 => ?_)
            refine lv_if_ne (tgt := 449) hx hb dX12_give_443 (by decide) (fun c_6 => ?_) (fun c_6 => ?_)
            · refine lv_aload_n hx hb dX12_give_449 rfl (lv_at hl 0 rfl) ?_
              refine gt_X12 hx hb hts hown hK hP 0 (hW_w419.o tM_0) 75 (by decide) wd_1476 rfl (hW_w419.fr tM_0 rfl) dX12_give_450 ?_
              refine lv_iload_n hx hb dX12_give_453 rfl (lv_at hl 1 rfl) ?_
              refine lv_dup2_11 hx hb dX12_give_454 rfl rfl ?_
              refine va_iald hx hb hK hP 52 0 (hW_w419.a tM_52) rfl (in_I i_x419_1 (by decide)) dX12_give_455 ?_
              refine lv_topi (fun v_7 ev_7 => ?_)
              refine lv_iconst (v := 1) hx hb dX12_give_456 (by decide) ?_
              refine lv_iload_n hx hb dX12_give_457 rfl (lv_at hl 2 rfl) ?_
              refine lv_ishl hx hb dX12_give_458 ?_
              refine lv_topi (fun v_8 ev_8 => ?_)
              refine lv_ior hx hb dX12_give_459 ?_
              refine lv_topi (fun v_9 ev_9 => ?_)
              refine va_iast hx hb hK hP hD hS 52 0 (hW_w419.a tM_52) rfl (in_I i_x419_1 (by decide)) dX12_give_460 (fun H locs hP hD hS => fr_w (hW_w419.uA tM_52 (In_any v_9)) hP hD (fun w_10 ew_10 hW_w_10 hP hD => ?_))
              refine lv_aload_n hx hb dX12_give_461 rfl (lv_at hl 0 rfl) ?_
              refine gt_X12 hx hb hts hown hK hP 0 (hW_w_10.o tM_0) 77 (by decide) wd_1478 rfl (hW_w_10.fr tM_0 rfl) dX12_give_462 ?_
              refine lv_iload_n hx hb dX12_give_465 rfl (lv_at hl 2 rfl) ?_
              refine lv_dup2_11 hx hb dX12_give_466 rfl rfl ?_
              refine va_iald hx hb hK hP 54 0 (hW_w_10.a tM_54) rfl (in_I (R_nle_r (In_of ev_1 (hW_w419.ap tM_2 _) : In 0 10 v_1) i_x419_2 c_2 (by decide) : In 0 9 x419_2) (by decide)) dX12_give_467 ?_
              refine lv_topi (fun v_11 ev_11 => ?_)
              refine lv_iconst (v := 1) hx hb dX12_give_468 (by decide) ?_
              refine lv_isub hx hb dX12_give_469 ?_
              refine va_iast hx hb hK hP hD hS 54 0 (hW_w_10.a tM_54) rfl (in_I (R_nle_r (In_of ev_1 (hW_w419.ap tM_2 _) : In 0 10 v_1) i_x419_2 c_2 (by decide) : In 0 9 x419_2) (by decide)) dX12_give_470 (fun H locs hP hD hS => fr_w (hW_w_10.uA tM_54 (In_any (v_11 - 1))) hP hD (fun w_12 ew_12 hW_w_12 hP hD => ?_))
              refine lv_aload_n hx hb dX12_give_471 rfl (lv_at hl 0 rfl) ?_
              refine lv_dup hx hb dX12_give_472 rfl ?_
              refine gt_X12 hx hb hts hown hK hP 0 (hW_w_12.o tM_0) 78 (by decide) wd_1479 rfl (hW_w_12.fi tM_0 rfl) dX12_give_473 ?_
              refine tov (v := (fI w419 0 78)) ((fI_cg (st_ne ew_12 (by decide))).trans (fI_cg (st_ne ew_10 (by decide)))) ?_
              refine lv_iconst (v := 1) hx hb dX12_give_476 (by decide) ?_
              refine lv_iadd hx hb dX12_give_477 ?_
              refine pt_X12 hx hb hts hown hK hP hD hS 0 (hW_w_12.o tM_0) 78 (by decide) wd_1479 rfl rfl (ty := .int) (v := .int ((fI w419 0 78) + 1)) (by decide +kernel) rfl rfl (hW_w_12.ll tM_0 (Nat.le_of_ble_eq_true rfl)) dX12_give_478 (fun H locs hP hD hS => fr_w (hW_w_12.sI tM_0 rfl (In_any ((fI w419 0 78) + 1))) hP hD (fun w_13 ew_13 hW_w_13 hP hD => ?_))
              refine lv_aload_n hx hb dX12_give_481 rfl (lv_at hl 0 rfl) ?_
              refine lv_dup hx hb dX12_give_482 rfl ?_
              refine gt_X12 hx hb hts hown hK hP 0 (hW_w_13.o tM_0) 79 (by decide) wd_1480 rfl (hW_w_13.fi tM_0 rfl) dX12_give_483 ?_
              refine tov (v := (fI w419 0 79)) ((fI_nej (hW_w_12.lt tM_0) ew_13 (by decide)).trans ((fI_cg (st_ne ew_12 (by decide))).trans (fI_cg (st_ne ew_10 (by decide))))) ?_
              refine lv_aload_n hx hb dX12_give_486 rfl (lv_at hl 0 rfl) ?_
              refine lv_iload_n hx hb dX12_give_487 rfl (lv_at hl 1 rfl) ?_
              refine lv_iload_n hx hb dX12_give_488 rfl (lv_at hl 2 rfl) ?_
              refine kW_i ⟨rfl, rfl⟩ hP hD hS hA (rW_V (As := [.int x402_1, .int x419_2]) (rest := [.int (fI w419 0 79), .ref (q 0)]) hx hb hml hown hts hK hE hP hD (k_X12_pointsOf l D cI cJ cZ q w_13 hW_w_13 x402_1 x419_2 i_x419_1 (R_nle_r (In_of ev_1 (hW_w419.ap tM_2 _) : In 0 10 v_1) i_x419_2 c_2 (by decide) : In 0 9 x419_2) (In_of ((fI_nej (hW_w_12.lt tM_0) ew_13 (by decide)).trans ((fI_cg (st_ne ew_12 (by decide))).trans ((fI_cg (st_ne ew_10 (by decide))).trans g419_0_45e))) g419_0_45) (RV_cg ((aF_cg (st_ne ew_13 (by decide))).trans ((aF_cg (st_ne ew_12 (by decide))).trans ((aF_cg (st_ne ew_10 (by decide))).trans (hM_w419.hA (by decide))))) ((aF_cg (st_ne ew_13 (by decide))).trans ((aF_cg (st_ne ew_12 (by decide))).trans ((aF_cg (st_ne ew_10 (by decide))).trans (hM_w419.hA (by decide))))) ((aF_cg (st_ne ew_13 (by decide))).trans ((aF_cg (st_ne ew_12 (by decide))).trans ((aF_cg (st_ne ew_10 (by decide))).trans (hM_w419.hA (by decide))))) ((fI_nej (hW_w_12.lt tM_0) ew_13 (by decide)).trans ((fI_cg (st_ne ew_12 (by decide))).trans ((fI_cg (st_ne ew_10 (by decide))).trans (hM_w419.2 0 12 (by decide) (by decide))))) hRV) _) ⟨⟨rfl, rfl⟩, rfl, rfl⟩ sv_X12_522 ⟨(Nat.le_trans (by decide) hR.1), (Nat.le_trans (by decide) hR.2)⟩ 0 12 (hW_w_13.o tM_0) rfl rfl rfl hl.1 rfl (Nat.le_of_ble_eq_true rfl) dX12_give_489) (fun r_15 w_14 H locs hw_w_14 hP hD hS => ?_)
              obtain ⟨hW_w_14, hs_w_14⟩ := hw_w_14
              refine lv_iadd hx hb dX12_give_492 ?_
              refine lv_topi (fun v_16 ev_16 => ?_)
              refine pt_X12 hx hb hts hown hK hP hD hS 0 (hW_w_14.o tM_0) 79 (by decide) wd_1480 rfl rfl (ty := .int) (v := .int v_16) (by decide +kernel) rfl rfl (hW_w_14.ll tM_0 (Nat.le_of_ble_eq_true rfl)) dX12_give_493 (fun H locs hP hD hS => fr_w (hW_w_14.sI tM_0 rfl (In_any v_16)) hP hD (fun w_17 ew_17 hW_w_17 hP hD => ?_))
              exact J496 w_17 _ _ ls hW_w_17 (((((hM_w419.sa ew_10 (by decide)).sa ew_12 (by decide)).sf (hW_w_12.lt tM_0) ew_13 (by decide)).tr hs_w_14 (by decide)).sf (hW_w_14.lt tM_0) ew_17 (by decide)) i_x419_1 (R_nle_r (In_of ev_1 (hW_w419.ap tM_2 _) : In 0 10 v_1) i_x419_2 c_2 (by decide) : In 0 9 x419_2) ((fI_nej (hW_w_14.lt tM_0) ew_17 (by decide)).trans ((hs_w_14.gI (by decide)).trans ((fI_nej (hW_w_12.lt tM_0) ew_13 (by decide)).trans ((fI_cg (st_ne ew_12 (by decide))).trans ((fI_cg (st_ne ew_10 (by decide))).trans g419_0_45e))))) g419_0_45 hP hD hS (lv_sub hl [0, 1, 2] rfl)
            · refine lv_goto (tgt := 496) hx hb dX12_give_446 (by decide) ?_
              exact J496 w419 _ _ ls hW_w419 hM_w419 i_x419_1 (R_nle_r (In_of ev_1 (hW_w419.ap tM_2 _) : In 0 10 v_1) i_x419_2 c_2 (by decide) : In 0 9 x419_2) g419_0_45e g419_0_45 hP hD hS (lv_sub hl [0, 1, 2] rfl)
      refine lv_iload_n hx hb dX12_give_402 rfl (lv_at hl 1 rfl) ?_
      refine lv_aload_n hx hb dX12_give_403 rfl (lv_at hl 0 rfl) ?_
      refine gt_X12 hx hb hts hown hK hP 0 (hW_w402.o tM_0) 45 (by decide) wd_1446 rfl (hW_w402.fi tM_0 rfl) dX12_give_404 ?_
      refine lv_icmp_ge (tgt := 520) hx hb dX12_give_407 (by decide) (fun c_18 => ?_) (fun c_18 => ?_)
      · refine lv_aload_n hx hb dX12_give_520 rfl (lv_at hl 0 rfl) ?_
        refine lv_iconst (v := 1) hx hb dX12_give_521 (by decide) ?_
        refine pt_X12 hx hb hts hown hK hP hD hS 0 (hW_w402.o tM_0) 68 (by decide) wd_1469 rfl rfl (ty := .boolean) (v := .int 1) (by decide +kernel) rfl rfl (hW_w402.ll tM_0 (Nat.le_of_ble_eq_true rfl)) dX12_give_522 (fun H locs hP hD hS => fr_w (hW_w402.sI tM_0 rfl (In_lit (n := 1) (by decide) (by decide) : In 0 1 1)) hP hD (fun w_19 ew_19 hW_w_19 hP hD => ?_))
        refine lv_aload_n hx hb dX12_give_525 rfl (lv_at hl 0 rfl) ?_
        refine lv_iconst (v := 0) hx hb dX12_give_526 (by decide) ?_
        refine pt_X12 hx hb hts hown hK hP hD hS 0 (hW_w_19.o tM_0) 80 (by decide) wd_1481 rfl rfl (ty := .boolean) (v := .int 0) (by decide +kernel) rfl rfl (hW_w_19.ll tM_0 (Nat.le_of_ble_eq_true rfl)) dX12_give_527 (fun H locs hP hD hS => fr_w (hW_w_19.sI tM_0 rfl (In_lit (n := 0) (by decide) (by decide) : In 0 1 0)) hP hD (fun w_20 ew_20 hW_w_20 hP hD => ?_))
        refine lv_aload_n hx hb dX12_give_530 rfl (lv_at hl 0 rfl) ?_
        refine gt_X12 hx hb hts hown hK hP 0 (hW_w_20.o tM_0) 78 (by decide) wd_1479 rfl (hW_w_20.fi tM_0 rfl) dX12_give_531 ?_
        refine tov (v := (fI w402 0 78)) ((fI_nej (hW_w_19.lt tM_0) ew_20 (by decide)).trans (fI_nej (hW_w402.lt tM_0) ew_19 (by decide))) ?_
        exact hret _ _ _ _ _ _ hP hD hS dX12_give_534 ⟨hW_w_20, ((hM_w402.sf (hW_w402.lt tM_0) ew_19 (by decide)).sf (hW_w_19.lt tM_0) ew_20 (by decide))⟩
      · refine lv_aload_n hx hb dX12_give_410 rfl (lv_at hl 0 rfl) ?_
        refine gt_X12 hx hb hts hown hK hP 0 (hW_w402.o tM_0) 75 (by decide) wd_1476 rfl (hW_w402.fr tM_0 rfl) dX12_give_411 ?_
        refine lv_iload_n hx hb dX12_give_414 rfl (lv_at hl 1 rfl) ?_
        refine lv_iconst (v := 0) hx hb dX12_give_415 (by decide) ?_
        refine va_iast hx hb hK hP hD hS 52 0 (hW_w402.a tM_52) rfl (in_I (R_nle_r (hW_w402.fin tM_0 rfl : In 0 40 (fI w402 0 45)) i_x402_1 c_18 (by decide) : In 0 39 x402_1) (by decide)) dX12_give_416 (fun H locs hP hD hS => fr_w (hW_w402.uA tM_52 (In_lit (n := 0) (by decide) (by decide) : In (-2147483648) 2147483647 0)) hP hD (fun w_21 ew_21 hW_w_21 hP hD => ?_))
        refine lv_iconst (v := 0) hx hb dX12_give_417 (by decide) ?_
        refine lv_istore_n (lv' := [(2, .int 0), (0, .ref (q 0)), (1, .int x402_1)]) hx hb dX12_give_418 rfl hl (by decide) rfl (fun ls hl => ?_)
        exact J419 _ 0 w_21 _ _ ls (Nat.lt_succ_self _) hW_w_21 (hM_w402.sa ew_21 (by decide)) (R_nle_r (hW_w402.fin tM_0 rfl : In 0 40 (fI w402 0 45)) i_x402_1 c_18 (by decide) : In 0 39 x402_1) (In_lit (n := 0) (by decide) (by decide) : In 0 10 0) (fI_cg (st_ne ew_21 (by decide))) (R_nle_l (hW_w402.fin tM_0 rfl : In 0 40 (fI w402 0 45)) i_x402_1 c_18 (by decide) : In 1 40 (fI w402 0 45)) hP hD hS (lv_sub hl [1, 2, 0] rfl)
  have J340 : ∀ (N : Nat) (x340_1 : Int32) (w340 : va_W) (H : Heap) (locs : List Loc) (ls : Array Slot), (10 - x340_1.toInt).toNat < N → HT q (TM q cI cJ cZ) w340 → Sm [0, 26, 27, 28, 29, 30, 31, 32, 33, 34, 35, 36, 37, 38, 39, 40, 41, 42, 43, 44, 45, 46, 47, 48, 49, 50, 51, 52, 53, 54] [(0, 45), (0, 62), (0, 68), (0, 69), (0, 78), (0, 79), (0, 80)] w w340 → (In 0 10 x340_1) → (fI w340 0 78 = 0) → (fI w340 0 79 = 0) → va_P D vwCl w340 H → va_D A w340 → va_S A s.heap H locs → lv_has ls 3 [(0, .ref (q 0)), (1, .int x340_1)] → W p l e R s m args below meth c H locs 0 0 Q (F0 m 340 ls []) := by
    intro N
    induction N with
    | zero => intro x340_1 w340 H locs ls hmu; exact absurd hmu (Nat.not_lt_zero _)
    | succ N ih340 =>
      intro x340_1 w340 H locs ls hmu340 hW_w340 hM_w340 i_x340_1 g340_0_78e g340_0_79e hP hD hS hl
      have J362 : ∀ (N : Nat) (x362_2 : Int32) (w362 : va_W) (H : Heap) (locs : List Loc) (ls : Array Slot), (25 - x362_2.toInt).toNat < N → HT q (TM q cI cJ cZ) w362 → Sm [0, 26, 27, 28, 29, 30, 31, 32, 33, 34, 35, 36, 37, 38, 39, 40, 41, 42, 43, 44, 45, 46, 47, 48, 49, 50, 51, 52, 53, 54] [(0, 45), (0, 62), (0, 68), (0, 69), (0, 78), (0, 79), (0, 80)] w w362 → (In 0 9 x340_1) → (In 1 25 x362_2) → (fI w362 0 78 = 0) → (fI w362 0 79 = 0) → va_P D vwCl w362 H → va_D A w362 → va_S A s.heap H locs → lv_has ls 3 [(0, .ref (q 0)), (1, .int x340_1), (2, .int x362_2)] → W p l e R s m args below meth c H locs 0 0 Q (F0 m 362 ls []) := by
        intro N
        induction N with
        | zero => intro x362_2 w362 H locs ls hmu; exact absurd hmu (Nat.not_lt_zero _)
        | succ N ih362 =>
          intro x362_2 w362 H locs ls hmu362 hW_w362 hM_w362 i_x362_1 i_x362_2 g362_0_78e g362_0_79e hP hD hS hl
          refine lv_iload_n hx hb dX12_give_362 rfl (lv_at hl 2 rfl) ?_
          refine lv_bipush (v := 24) hx hb dX12_give_363 (by decide) ?_
          refine lv_icmp_gt (tgt := 394) hx hb dX12_give_365 (by decide) (fun c_22 => ?_) (fun c_22 => ?_)
          · refine lv_iinc (v := (x340_1 + 1)) (lv' := [(1, .int (x340_1 + 1)), (0, .ref (q 0)), (2, .int x362_2)]) hx hb dX12_give_394 hl (k := 1) rfl (rfl) (by decide) rfl (fun ls hl => ?_)
            refine lv_goto (tgt := 340) hx hb dX12_give_397 (by decide) ?_
            exact ih340 (x340_1 + 1) w362 _ _ ls (mu_inc hmu340 i_x362_1 (In_lit (n := 1) (by decide) (by decide) : In 1 1 1) (by decide)) hW_w362 hM_w362 (In_w ((In_add (y := 1) i_x362_1 (In_lit (n := 1) (by decide) (by decide) : In 1 1 1) (by decide)) : In 1 10 (x340_1 + 1)) (by decide) : In 0 10 (x340_1 + 1)) g362_0_78e g362_0_79e hP hD hS (lv_sub hl [1, 0] rfl)
          · refine lv_aload_n hx hb dX12_give_368 rfl (lv_at hl 0 rfl) ?_
            refine gt_X12 hx hb hts hown hK hP 0 (hW_w362.o tM_0) 77 (by decide) wd_1478 rfl (hW_w362.fr tM_0 rfl) dX12_give_369 ?_
            refine lv_iload_n hx hb dX12_give_372 rfl (lv_at hl 1 rfl) ?_
            refine lv_dup2_11 hx hb dX12_give_373 rfl rfl ?_
            refine va_iald hx hb hK hP 54 0 (hW_w362.a tM_54) rfl (in_I i_x362_1 (by decide)) dX12_give_374 ?_
            refine lv_topi (fun v_23 ev_23 => ?_)
            refine lv_aload_n hx hb dX12_give_375 rfl (lv_at hl 0 rfl) ?_
            refine gt_X12 hx hb hts hown hK hP 0 (hW_w362.o tM_0) 67 (by decide) wd_1468 rfl (hW_w362.fr tM_0 rfl) dX12_give_376 ?_
            refine lv_bipush (v := 25) hx hb dX12_give_379 (by decide) ?_
            refine lv_iload_n hx hb dX12_give_381 rfl (lv_at hl 1 rfl) ?_
            refine lv_imul hx hb dX12_give_382 ?_
            refine lv_iload_n hx hb dX12_give_383 rfl (lv_at hl 2 rfl) ?_
            refine lv_iadd hx hb dX12_give_384 ?_
            refine va_iald hx hb hK hP 46 0 (hW_w362.a tM_46) rfl (in_I ((In_add ((In_mull i_x362_1 (n := 25) (by decide) (by decide)) : In 0 225 (25 * x340_1)) (R_nlt_r (In_lit (n := 24) (by decide) (by decide) : In 24 24 24) i_x362_2 c_22 (by decide) : In 1 24 x362_2) (by decide)) : In 1 249 ((25 * x340_1) + x362_2)) (by decide)) dX12_give_385 ?_
            refine lv_topi (fun v_24 ev_24 => ?_)
            refine lv_iadd hx hb dX12_give_386 ?_
            refine lv_topi (fun v_25 ev_25 => ?_)
            refine va_iast hx hb hK hP hD hS 54 0 (hW_w362.a tM_54) rfl (in_I i_x362_1 (by decide)) dX12_give_387 (fun H locs hP hD hS => fr_w (hW_w362.uA tM_54 (In_any v_25)) hP hD (fun w_26 ew_26 hW_w_26 hP hD => ?_))
            refine lv_iinc (v := (x362_2 + 1)) (lv' := [(2, .int (x362_2 + 1)), (0, .ref (q 0)), (1, .int x340_1)]) hx hb dX12_give_388 hl (k := 2) rfl (rfl) (by decide) rfl (fun ls hl => ?_)
            refine lv_goto (tgt := 362) hx hb dX12_give_391 (by decide) ?_
            exact ih362 (x362_2 + 1) w_26 _ _ ls (mu_inc hmu362 (R_nlt_r (In_lit (n := 24) (by decide) (by decide) : In 24 24 24) i_x362_2 c_22 (by decide) : In 1 24 x362_2) (In_lit (n := 1) (by decide) (by decide) : In 1 1 1) (by decide)) hW_w_26 (hM_w362.sa ew_26 (by decide)) i_x362_1 (In_w ((In_add (y := 1) (R_nlt_r (In_lit (n := 24) (by decide) (by decide) : In 24 24 24) i_x362_2 c_22 (by decide) : In 1 24 x362_2) (In_lit (n := 1) (by decide) (by decide) : In 1 1 1) (by decide)) : In 2 25 (x362_2 + 1)) (by decide) : In 1 25 (x362_2 + 1)) ((fI_cg (st_ne ew_26 (by decide))).trans g362_0_78e) ((fI_cg (st_ne ew_26 (by decide))).trans g362_0_79e) hP hD hS (lv_sub hl [1, 2, 0] rfl)
      refine lv_iload_n hx hb dX12_give_340 rfl (lv_at hl 1 rfl) ?_
      refine lv_aload_n hx hb dX12_give_341 rfl (lv_at hl 0 rfl) ?_
      refine gt_X12 hx hb hts hown hK hP 0 (hW_w340.o tM_0) 14 (by decide) wd_1415 rfl (hW_w340.fr tM_0 rfl) dX12_give_342 ?_
      refine lv_aload_n hx hb dX12_give_345 rfl (lv_at hl 0 rfl) ?_
      refine gt_X12 hx hb hts hown hK hP 0 (hW_w340.o tM_0) 12 (by decide) wd_1413 rfl (hW_w340.fi tM_0 rfl) dX12_give_346 ?_
      refine tov (v := (fI w 0 12)) (hM_w340.2 0 12 (by decide) (by decide)) ?_
      refine va_iald hx hb hK hP 2 0 (hW_w340.a tM_2) rfl (in_I (hW_w.fin tM_0 rfl : In 0 1 (fI w 0 12)) (by decide)) dX12_give_349 ?_
      refine lv_topi (fun v_27 ev_27 => ?_)
      refine lv_icmp_ge (tgt := 400) hx hb dX12_give_350 (by decide) (fun c_28 => ?_) (fun c_28 => ?_)
      · refine lv_iconst (v := 0) hx hb dX12_give_400 (by decide) ?_
        refine lv_istore_n (lv' := [(1, .int 0), (0, .ref (q 0))]) hx hb dX12_give_401 rfl hl (by decide) rfl (fun ls hl => ?_)
        exact J402 _ 0 w340 _ _ ls (Nat.lt_succ_self _) hW_w340 hM_w340 (In_lit (n := 0) (by decide) (by decide) : In 0 40 0) hP hD hS (lv_sub hl [1, 0] rfl)
      · refine lv_aload_n hx hb dX12_give_353 rfl (lv_at hl 0 rfl) ?_
        refine gt_X12 hx hb hts hown hK hP 0 (hW_w340.o tM_0) 77 (by decide) wd_1478 rfl (hW_w340.fr tM_0 rfl) dX12_give_354 ?_
        refine lv_iload_n hx hb dX12_give_357 rfl (lv_at hl 1 rfl) ?_
        refine lv_iconst (v := 0) hx hb dX12_give_358 (by decide) ?_
        refine va_iast hx hb hK hP hD hS 54 0 (hW_w340.a tM_54) rfl (in_I (R_nle_r (In_of ev_27 (hW_w340.ap tM_2 _) : In 0 10 v_27) i_x340_1 c_28 (by decide) : In 0 9 x340_1) (by decide)) dX12_give_359 (fun H locs hP hD hS => fr_w (hW_w340.uA tM_54 (In_lit (n := 0) (by decide) (by decide) : In (-2147483648) 2147483647 0)) hP hD (fun w_29 ew_29 hW_w_29 hP hD => ?_))
        refine lv_iconst (v := 1) hx hb dX12_give_360 (by decide) ?_
        refine lv_istore_n (lv' := [(2, .int 1), (0, .ref (q 0)), (1, .int x340_1)]) hx hb dX12_give_361 rfl hl (by decide) rfl (fun ls hl => ?_)
        exact J362 _ 1 w_29 _ _ ls (Nat.lt_succ_self _) hW_w_29 (hM_w340.sa ew_29 (by decide)) (R_nle_r (In_of ev_27 (hW_w340.ap tM_2 _) : In 0 10 v_27) i_x340_1 c_28 (by decide) : In 0 9 x340_1) (In_lit (n := 1) (by decide) (by decide) : In 1 25 1) ((fI_cg (st_ne ew_29 (by decide))).trans g340_0_78e) ((fI_cg (st_ne ew_29 (by decide))).trans g340_0_79e) hP hD hS (lv_sub hl [1, 2, 0] rfl)
  have J151 : ∀ (N : Nat) (x151_1 : Int32) (w151 : va_W) (H : Heap) (locs : List Loc) (ls : Array Slot), (40 - x151_1.toInt).toNat < N → HT q (TM q cI cJ cZ) w151 → Sm [0, 26, 27, 28, 29, 30, 31, 32, 33, 34, 35, 36, 37, 38, 39, 40, 41, 42, 43, 44, 45, 46, 47, 48, 49, 50, 51, 52, 53, 54] [(0, 45), (0, 62), (0, 68), (0, 69), (0, 78), (0, 79), (0, 80)] w w151 → (In 0 40 x151_1) → ((fI w151 0 62).toInt ≤ 960 + 22 * (x151_1 : Int32).toInt) → (LBx w151) → (DY w151) → (PRx w151) → va_P D vwCl w151 H → va_D A w151 → va_S A s.heap H locs → lv_has ls 3 [(0, .ref (q 0)), (1, .int x151_1)] → W p l e R s m args below meth c H locs 0 0 Q (F0 m 151 ls []) := by
    intro N
    induction N with
    | zero => intro x151_1 w151 H locs ls hmu; exact absurd hmu (Nat.not_lt_zero _)
    | succ N ih151 =>
      intro x151_1 w151 H locs ls hmu151 hW_w151 hM_w151 i_x151_1 hc_151 hlb_151 hdy_151 hpr_151 hP hD hS hl
      have J226 : ∀ (N : Nat) (x226_2 : Int32) (w226 : va_W) (H : Heap) (locs : List Loc) (ls : Array Slot), (10 - x226_2.toInt).toNat < N → HT q (TM q cI cJ cZ) w226 → Sm [0, 26, 27, 28, 29, 30, 31, 32, 33, 34, 35, 36, 37, 38, 39, 40, 41, 42, 43, 44, 45, 46, 47, 48, 49, 50, 51, 52, 53, 54] [(0, 45), (0, 62), (0, 68), (0, 69), (0, 78), (0, 79), (0, 80)] w w226 → (In 0 39 x151_1) → (In 0 10 x226_2) → (fI w226 0 45 = (fI w151 0 45)) → (In 1 40 (fI w151 0 45)) → (In 2 2200 (fI w226 0 62)) → ((fI w226 0 62).toInt ≤ 962 + 22 * (x151_1 : Int32).toInt + 2 * (x226_2 : Int32).toInt) → (LBx w226) → (DY w226) → (PRx w226) → (1 ≤ (aF w226 32 x151_1.toNatClampNeg).toInt) → va_P D vwCl w226 H → va_D A w226 → va_S A s.heap H locs → lv_has ls 3 [(0, .ref (q 0)), (1, .int x151_1), (2, .int x226_2)] → W p l e R s m args below meth c H locs 0 0 Q (F0 m 226 ls []) := by
        intro N
        induction N with
        | zero => intro x226_2 w226 H locs ls hmu; exact absurd hmu (Nat.not_lt_zero _)
        | succ N ih226 =>
          intro x226_2 w226 H locs ls hmu226 hW_w226 hM_w226 i_x226_1 i_x226_2 g226_0_45e g226_0_45 g226_0_62 hc_226 hlb_226 hdy_226 hpr_226 hd2_226 hP hD hS hl
          have J312 : ∀ (w312 : va_W) (H : Heap) (locs : List Loc) (ls : Array Slot), HT q (TM q cI cJ cZ) w312 → Sm [0, 26, 27, 28, 29, 30, 31, 32, 33, 34, 35, 36, 37, 38, 39, 40, 41, 42, 43, 44, 45, 46, 47, 48, 49, 50, 51, 52, 53, 54] [(0, 45), (0, 62), (0, 68), (0, 69), (0, 78), (0, 79), (0, 80)] w w312 → (In 0 39 x151_1) → (In 0 9 x226_2) → (fI w312 0 45 = (fI w151 0 45)) → (In 1 40 (fI w151 0 45)) → (In 2 2200 (fI w312 0 62)) → ((fI w312 0 62).toInt ≤ 964 + 22 * (x151_1 : Int32).toInt + 2 * (x226_2 : Int32).toInt) → (LBx w312) → (DY w312) → (PRx w312) → (1 ≤ (aF w312 32 x151_1.toNatClampNeg).toInt) → va_P D vwCl w312 H → va_D A w312 → va_S A s.heap H locs → lv_has ls 3 [(0, .ref (q 0)), (1, .int x151_1), (2, .int x226_2)] → W p l e R s m args below meth c H locs 0 0 Q (F0 m 312 ls []) := by
            intro w312 H locs ls hW_w312 hM_w312 i_x312_1 i_x312_2 g312_0_45e g312_0_45 g312_0_62 hc_312 hlb_312 hdy_312 hpr_312 hd2_312 hP hD hS hl
            refine lv_iinc (v := (x226_2 + 1)) (lv' := [(2, .int (x226_2 + 1)), (0, .ref (q 0)), (1, .int x151_1)]) hx hb dX12_give_312 hl (k := 2) rfl (rfl) (by decide) rfl (fun ls hl => ?_)
            refine lv_goto (tgt := 226) hx hb dX12_give_315 (by decide) ?_
            exact ih226 (x226_2 + 1) w312 _ _ ls (mu_inc hmu226 i_x312_2 (In_lit (n := 1) (by decide) (by decide) : In 1 1 1) (by decide)) hW_w312 hM_w312 i_x226_1 (In_w ((In_add (y := 1) i_x312_2 (In_lit (n := 1) (by decide) (by decide) : In 1 1 1) (by decide)) : In 1 10 (x226_2 + 1)) (by decide) : In 0 10 (x226_2 + 1)) g312_0_45e g226_0_45 g312_0_62 (by have i0_62 := g312_0_62; unfold In at i0_62; have il1 := i_x226_1; unfold In at il1; have t12 := t_add i_x312_2 (In_lit (n := 1) (by decide) (by decide) : In 1 1 1) (by decide); have z1 : (1 : Int32).toInt = 1 := (by decide); have il2 := ((In_add (y := 1) i_x312_2 (In_lit (n := 1) (by decide) (by decide) : In 1 1 1) (by decide)) : In 1 10 (x226_2 + 1)); unfold In at il2; have iq_x226_2 := i_x312_2; unfold In at iq_x226_2; omega) hlb_312 hdy_312 hpr_312 hd2_312 hP hD hS (lv_sub hl [1, 2, 0] rfl)
          refine lv_iload_n hx hb dX12_give_226 rfl (lv_at hl 2 rfl) ?_
          refine lv_aload_n hx hb dX12_give_227 rfl (lv_at hl 0 rfl) ?_
          refine gt_X12 hx hb hts hown hK hP 0 (hW_w226.o tM_0) 14 (by decide) wd_1415 rfl (hW_w226.fr tM_0 rfl) dX12_give_228 ?_
          refine lv_aload_n hx hb dX12_give_231 rfl (lv_at hl 0 rfl) ?_
          refine gt_X12 hx hb hts hown hK hP 0 (hW_w226.o tM_0) 12 (by decide) wd_1413 rfl (hW_w226.fi tM_0 rfl) dX12_give_232 ?_
          refine tov (v := (fI w 0 12)) (hM_w226.2 0 12 (by decide) (by decide)) ?_
          refine va_iald hx hb hK hP 2 0 (hW_w226.a tM_2) rfl (in_I (hW_w.fin tM_0 rfl : In 0 1 (fI w 0 12)) (by decide)) dX12_give_235 ?_
          refine lv_topi (fun v_30 ev_30 => ?_)
          refine lv_icmp_ge (tgt := 318) hx hb dX12_give_236 (by decide) (fun c_31 => ?_) (fun c_31 => ?_)
          · refine lv_iinc (v := (x151_1 + 1)) (lv' := [(1, .int (x151_1 + 1)), (0, .ref (q 0)), (2, .int x226_2)]) hx hb dX12_give_318 hl (k := 1) rfl (rfl) (by decide) rfl (fun ls hl => ?_)
            refine lv_goto (tgt := 151) hx hb dX12_give_321 (by decide) ?_
            exact ih151 (x151_1 + 1) w226 _ _ ls (mu_inc hmu151 i_x226_1 (In_lit (n := 1) (by decide) (by decide) : In 1 1 1) (by decide)) hW_w226 hM_w226 (In_w ((In_add (y := 1) i_x226_1 (In_lit (n := 1) (by decide) (by decide) : In 1 1 1) (by decide)) : In 1 40 (x151_1 + 1)) (by decide) : In 0 40 (x151_1 + 1)) (by have i0_62 := g226_0_62; unfold In at i0_62; have t12 := t_add i_x226_1 (In_lit (n := 1) (by decide) (by decide) : In 1 1 1) (by decide); have z1 : (1 : Int32).toInt = 1 := (by decide); have il1 := ((In_add (y := 1) i_x226_1 (In_lit (n := 1) (by decide) (by decide) : In 1 1 1) (by decide)) : In 1 40 (x151_1 + 1)); unfold In at il1; have im2 := i_x226_2; unfold In at im2; have iq_x151_1 := i_x226_1; unfold In at iq_x151_1; omega) hlb_226 hdy_226 hpr_226 hP hD hS (lv_sub hl [1, 0] rfl)
          · refine lv_aload_n hx hb dX12_give_239 rfl (lv_at hl 0 rfl) ?_
            refine gt_X12 hx hb hts hown hK hP 0 (hW_w226.o tM_0) 74 (by decide) wd_1475 rfl (hW_w226.fr tM_0 rfl) dX12_give_240 ?_
            refine lv_bipush (v := 10) hx hb dX12_give_243 (by decide) ?_
            refine lv_iload_n hx hb dX12_give_245 rfl (lv_at hl 1 rfl) ?_
            refine lv_imul hx hb dX12_give_246 ?_
            refine lv_iload_n hx hb dX12_give_247 rfl (lv_at hl 2 rfl) ?_
            refine lv_iadd hx hb dX12_give_248 ?_
            refine lv_aload_n hx hb dX12_give_249 rfl (lv_at hl 0 rfl) ?_
            refine lv_iload_n hx hb dX12_give_250 rfl (lv_at hl 1 rfl) ?_
            refine lv_iload_n hx hb dX12_give_251 rfl (lv_at hl 2 rfl) ?_
            refine kW_i ⟨rfl, rfl⟩ hP hD hS hA (rW_V (As := [.int x151_1, .int x226_2]) (rest := [.int ((10 * x151_1) + x226_2), .ref (q 51)]) hx hb hml hown hts hK hE hP hD (k_X12_mayGet l D cI cJ cZ q w226 hW_w226 x151_1 x226_2 i_x226_1 (R_nle_r (In_of ev_30 (hW_w226.ap tM_2 _) : In 0 10 v_30) i_x226_2 c_31 (by decide) : In 0 9 x226_2) (In_of g226_0_45e g226_0_45) (RV_cg (hM_w226.hA (by decide)) (hM_w226.hA (by decide)) (hM_w226.hA (by decide)) (hM_w226.2 0 12 (by decide) (by decide)) hRV) _) ⟨⟨rfl, rfl⟩, rfl, rfl⟩ sv_X12_518 ⟨(Nat.le_trans (by decide) hR.1), (Nat.le_trans (by decide) hR.2)⟩ 0 12 (hW_w226.o tM_0) rfl rfl rfl hl.1 rfl (Nat.le_of_ble_eq_true rfl) dX12_give_252) (fun r_33 w_32 H locs hw_w_32 hP hD hS => ?_)
            obtain ⟨hW_w_32, hs_w_32, i_r_33⟩ := hw_w_32
            refine va_zast hx hb hK hP hD hS 51 2 (hW_w_32.a tM_51) rfl (in_I ((In_add ((In_mull i_x226_1 (n := 10) (by decide) (by decide)) : In 0 390 (10 * x151_1)) (R_nle_r (In_of ev_30 (hW_w226.ap tM_2 _) : In 0 10 v_30) i_x226_2 c_31 (by decide) : In 0 9 x226_2) (by decide)) : In 0 399 ((10 * x151_1) + x226_2)) (by decide)) dX12_give_255 (fun H locs hP hD hS => fr_w (hW_w_32.uA tM_51 (vnar_z _)) hP hD (fun w_34 ew_34 hW_w_34 hP hD => ?_))
            refine lv_aload_n hx hb dX12_give_256 rfl (lv_at hl 0 rfl) ?_
            refine gt_X12 hx hb hts hown hK hP 0 (hW_w_34.o tM_0) 74 (by decide) wd_1475 rfl (hW_w_34.fr tM_0 rfl) dX12_give_257 ?_
            refine lv_bipush (v := 10) hx hb dX12_give_260 (by decide) ?_
            refine lv_iload_n hx hb dX12_give_262 rfl (lv_at hl 1 rfl) ?_
            refine lv_imul hx hb dX12_give_263 ?_
            refine lv_iload_n hx hb dX12_give_264 rfl (lv_at hl 2 rfl) ?_
            refine lv_iadd hx hb dX12_give_265 ?_
            refine va_zald hx hb hK hP 51 2 (hW_w_34.a tM_51) rfl (in_I ((In_add ((In_mull i_x226_1 (n := 10) (by decide) (by decide)) : In 0 390 (10 * x151_1)) (R_nle_r (In_of ev_30 (hW_w226.ap tM_2 _) : In 0 10 v_30) i_x226_2 c_31 (by decide) : In 0 9 x226_2) (by decide)) : In 0 399 ((10 * x151_1) + x226_2)) (by decide)) dX12_give_266 ?_
            refine lv_topi (fun v_35 ev_35 => ?_)
            refine lv_if_eq (tgt := 312) hx hb dX12_give_267 (by decide) (fun c_36 => ?_) (fun c_36 => ?_)
            · exact J312 w_34 _ _ ls hW_w_34 ((hM_w226.tr hs_w_32 (by decide)).sa ew_34 (by decide)) i_x226_1 (R_nle_r (In_of ev_30 (hW_w226.ap tM_2 _) : In 0 10 v_30) i_x226_2 c_31 (by decide) : In 0 9 x226_2) ((fI_cg (st_ne ew_34 (by decide))).trans ((hs_w_32.gI (by decide)).trans g226_0_45e)) g226_0_45 (In_of ((fI_cg (st_ne ew_34 (by decide))).trans (hs_w_32.gI (by decide))) g226_0_62) (by have e0_62 : (fI w_34 0 62).toInt = ((fI w226 0 62) : Int32).toInt := congrArg Int32.toInt ((fI_cg (st_ne ew_34 (by decide))).trans (hs_w_32.gI (by decide))); have i0_62 := g226_0_62; unfold In at i0_62; have il1 := i_x226_1; unfold In at il1; have il2 := (R_nle_r (In_of ev_30 (hW_w226.ap tM_2 _) : In 0 10 v_30) i_x226_2 c_31 (by decide) : In 0 9 x226_2); unfold In at il2; omega) (LB_cg ((aF_cg (st_ne ew_34 (by decide))).trans (hs_w_32.hA (by decide))) ((aF_cg (st_ne ew_34 (by decide))).trans (hs_w_32.hA (by decide))) ((aF_cg (st_ne ew_34 (by decide))).trans (hs_w_32.hA (by decide))) ((aL_cg (st_ne ew_34 (by decide))).trans (hs_w_32.hL (by decide))) ((fI_cg (st_ne ew_34 (by decide))).trans (hs_w_32.gI (by decide))) hlb_226) (DY_cg ((aF_cg (st_ne ew_34 (by decide))).trans (hs_w_32.hA (by decide))) ((fI_cg (st_ne ew_34 (by decide))).trans (hs_w_32.gI (by decide))) hdy_226) (PR_up ((aF_cg (st_ne ew_34 (by decide))).trans (hs_w_32.hA (by decide))) (Nat.le_of_eq (congrArg (fun z : Int32 => z.toInt.toNat) (((fI_cg (st_ne ew_34 (by decide))).trans (hs_w_32.gI (by decide)))).symm)) hpr_226) (by rw [show aF w_34 32 = aF w226 32 from ((aF_cg (st_ne ew_34 (by decide))).trans (hs_w_32.hA (by decide)))]; exact hd2_226) hP hD hS (lv_sub hl [0, 1, 2] rfl)
            · refine lv_aload_n hx hb dX12_give_270 rfl (lv_at hl 0 rfl) ?_
              refine gt_X12 hx hb hts hown hK hP 0 (hW_w_34.o tM_0) 65 (by decide) wd_1466 rfl (hW_w_34.fr tM_0 rfl) dX12_give_271 ?_
              refine lv_bipush (v := 10) hx hb dX12_give_274 (by decide) ?_
              refine lv_iload_n hx hb dX12_give_276 rfl (lv_at hl 1 rfl) ?_
              refine lv_imul hx hb dX12_give_277 ?_
              refine lv_iload_n hx hb dX12_give_278 rfl (lv_at hl 2 rfl) ?_
              refine lv_iadd hx hb dX12_give_279 ?_
              refine lv_aload_n hx hb dX12_give_280 rfl (lv_at hl 0 rfl) ?_
              refine lv_iconst (v := 1) hx hb dX12_give_281 (by decide) ?_
              refine lv_bipush (v := 24) hx hb dX12_give_282 (by decide) ?_
              refine lv_iload_n hx hb dX12_give_284 rfl (lv_at hl 2 rfl) ?_
              refine lv_imul hx hb dX12_give_285 ?_
              refine lv_iadd hx hb dX12_give_286 ?_
              refine lv_aload_n hx hb dX12_give_287 rfl (lv_at hl 0 rfl) ?_
              refine gt_X12 hx hb hts hown hK hP 0 (hW_w_34.o tM_0) 52 (by decide) wd_1453 rfl (hW_w_34.fr tM_0 rfl) dX12_give_288 ?_
              refine lv_iload_n hx hb dX12_give_291 rfl (lv_at hl 1 rfl) ?_
              refine va_iald hx hb hK hP 32 0 (hW_w_34.a tM_32) rfl (in_I i_x226_1 (by decide)) dX12_give_292 ?_
              refine lv_topi (fun v_37 ev_37 => ?_)
              refine lv_iadd hx hb dX12_give_293 ?_
              refine lv_sipush (v := 242) hx hb dX12_give_294 (by decide) ?_
              refine lv_iload_n hx hb dX12_give_297 rfl (lv_at hl 1 rfl) ?_
              refine lv_iadd hx hb dX12_give_298 ?_
              refine lv_iconst (v := 1) hx hb dX12_give_299 (by decide) ?_
              refine lv_aload_n hx hb dX12_give_300 rfl (lv_at hl 0 rfl) ?_
              refine lv_iload_n hx hb dX12_give_301 rfl (lv_at hl 1 rfl) ?_
              refine lv_iload_n hx hb dX12_give_302 rfl (lv_at hl 2 rfl) ?_
              refine kW_i ⟨rfl, rfl⟩ hP hD hS hA (rW_V (As := [.int x151_1, .int x226_2]) (rest := [.int 1, .int (242 + x151_1), .int ((1 + (24 * x226_2)) + v_37), .ref (q 0), .int ((10 * x151_1) + x226_2), .ref (q 44)]) hx hb hml hown hts hK hE hP hD (k_X12_pointsOf l D cI cJ cZ q w_34 hW_w_34 x151_1 x226_2 i_x226_1 (R_nle_r (In_of ev_30 (hW_w226.ap tM_2 _) : In 0 10 v_30) i_x226_2 c_31 (by decide) : In 0 9 x226_2) (In_of ((fI_cg (st_ne ew_34 (by decide))).trans ((hs_w_32.gI (by decide)).trans g226_0_45e)) g226_0_45) (RV_cg ((aF_cg (st_ne ew_34 (by decide))).trans ((hs_w_32.hA (by decide)).trans (hM_w226.hA (by decide)))) ((aF_cg (st_ne ew_34 (by decide))).trans ((hs_w_32.hA (by decide)).trans (hM_w226.hA (by decide)))) ((aF_cg (st_ne ew_34 (by decide))).trans ((hs_w_32.hA (by decide)).trans (hM_w226.hA (by decide)))) ((fI_cg (st_ne ew_34 (by decide))).trans ((hs_w_32.gI (by decide)).trans (hM_w226.2 0 12 (by decide) (by decide)))) hRV) _) ⟨⟨rfl, rfl⟩, rfl, rfl⟩ sv_X12_522 ⟨(Nat.le_trans (by decide) hR.1), (Nat.le_trans (by decide) hR.2)⟩ 0 12 (hW_w_34.o tM_0) rfl rfl rfl hl.1 rfl (Nat.le_of_ble_eq_true rfl) dX12_give_303) (fun r_39 w_38 H locs hw_w_38 hP hD hS => ?_)
              obtain ⟨hW_w_38, hs_w_38⟩ := hw_w_38
              refine lv_ineg hx hb dX12_give_306 ?_
              refine lv_topi (fun v_40 ev_40 => ?_)
              refine lv_i2l hx hb dX12_give_307 rfl ?_
              refine lv_topl (fun v_41 ev_41 => ?_)
              refine kW_i ⟨rfl, rfl⟩ hP hD hS hA (rW_V (As := [.int ((1 + (24 * x226_2)) + v_37), .int (242 + x151_1), .int 1, .long v_41]) (rest := [.int ((10 * x151_1) + x226_2), .ref (q 44)]) hx hb hml hown hts hK hE hP hD (kl_X12_lane l D cI cJ cZ q w_38 hW_w_38 ((1 + (24 * x226_2)) + v_37) (242 + x151_1) 1 v_41 (In_w ((In_add ((In_add (In_lit (n := 1) (by decide) (by decide) : In 1 1 1) ((In_mull (R_nle_r (In_of ev_30 (hW_w226.ap tM_2 _) : In 0 10 v_30) i_x226_2 c_31 (by decide) : In 0 9 x226_2) (n := 24) (by decide) (by decide)) : In 0 216 (24 * x226_2)) (by decide)) : In 1 217 (1 + (24 * x226_2))) (by have y := hd2_226; have e := congrArg Int32.toInt (ev_37.trans (congrFun ((aF_cg (st_ne ew_34 (by decide))).trans (hs_w_32.hA (by decide))) _)); have z := (In_of ev_37 (hW_w_34.ap tM_32 _) : In 0 24 v_37); unfold In at z ⊢; omega : In 1 24 v_37) (by decide)) : In 2 241 ((1 + (24 * x226_2)) + v_37)) (by decide) : In 0 282 ((1 + (24 * x226_2)) + v_37)) (In_w ((In_add (In_lit (n := 242) (by decide) (by decide) : In 242 242 242) i_x226_1 (by decide)) : In 242 281 (242 + x151_1)) (by decide) : In 1 282 (242 + x151_1)) (In_of ((hs_w_38.gI (by decide)).trans ((fI_cg (st_ne ew_34 (by decide))).trans (hs_w_32.gI (by decide)))) (by have q0 := g226_0_62; have q1 := i_x226_1; have q2 := (R_nle_r (In_of ev_30 (hW_w226.ap tM_2 _) : In 0 10 v_30) i_x226_2 c_31 (by decide) : In 0 9 x226_2); unfold In at q0 q1 q2 ⊢; omega : In 0 2198 (fI w226 0 62))) _) ⟨⟨rfl, rfl⟩, rfl, rfl⟩ sv_X12_536 ⟨(Nat.le_trans (by decide) hR.1), (Nat.le_trans (by decide) hR.2)⟩ 0 12 (hW_w_38.o tM_0) rfl rfl rfl hl.1 rfl (Nat.le_of_ble_eq_true rfl) dX12_give_308) (fun r_43 w_42 H locs hw_w_42 hP hD hS => ?_)
              obtain ⟨hW_w_42, hs_w_42, i_r_43, h_44, h_45, h_46, h_47⟩ := hw_w_42
              have n_h_45 : (fI w_42 0 62).toInt = ((fI w226 0 62) : Int32).toInt + 2 := (by have ee : (fI w_38 0 62).toInt = ((fI w226 0 62) : Int32).toInt := congrArg Int32.toInt ((hs_w_38.gI (by decide)).trans ((fI_cg (st_ne ew_34 (by decide))).trans (hs_w_32.gI (by decide)))); have q := h_45; omega)
              refine va_iast hx hb hK hP hD hS 44 0 (hW_w_42.a tM_44) rfl (in_I ((In_add ((In_mull i_x226_1 (n := 10) (by decide) (by decide)) : In 0 390 (10 * x151_1)) (R_nle_r (In_of ev_30 (hW_w226.ap tM_2 _) : In 0 10 v_30) i_x226_2 c_31 (by decide) : In 0 9 x226_2) (by decide)) : In 0 399 ((10 * x151_1) + x226_2)) (by decide)) dX12_give_311 (fun H locs hP hD hS => fr_w (hW_w_42.uA tM_44 (In_w i_r_43 (by decide) : In (-1) 2198 r_43)) hP hD (fun w_48 ew_48 hW_w_48 hP hD => ?_))
              exact J312 w_48 _ _ ls hW_w_48 (((((hM_w226.tr hs_w_32 (by decide)).sa ew_34 (by decide)).tr hs_w_38 (by decide)).tr hs_w_42 (by decide)).sa ew_48 (by decide)) i_x226_1 (R_nle_r (In_of ev_30 (hW_w226.ap tM_2 _) : In 0 10 v_30) i_x226_2 c_31 (by decide) : In 0 9 x226_2) ((fI_cg (st_ne ew_48 (by decide))).trans ((hs_w_42.2 0 45 (by decide) (by decide)).trans ((hs_w_38.gI (by decide)).trans ((fI_cg (st_ne ew_34 (by decide))).trans ((hs_w_32.gI (by decide)).trans g226_0_45e))))) g226_0_45 (In_of (fI_cg (st_ne ew_48 (by decide))) h_44) (by have e0_62 : (fI w_48 0 62).toInt = ((fI w_42 0 62) : Int32).toInt := congrArg Int32.toInt (fI_cg (st_ne ew_48 (by decide))); have i0_62 := h_44; unfold In at i0_62; have il1 := i_x226_1; unfold In at il1; have il2 := (R_nle_r (In_of ev_30 (hW_w226.ap tM_2 _) : In 0 10 v_30) i_x226_2 c_31 (by decide) : In 0 9 x226_2); unfold In at il2; omega) (LB_cg (aF_cg (st_ne ew_48 (by decide))) (aF_cg (st_ne ew_48 (by decide))) (aF_cg (st_ne ew_48 (by decide))) (aL_cg (st_ne ew_48 (by decide))) (fI_cg (st_ne ew_48 (by decide))) (h_47 (LB_cg ((hs_w_38.hA (by decide)).trans ((aF_cg (st_ne ew_34 (by decide))).trans (hs_w_32.hA (by decide)))) ((hs_w_38.hA (by decide)).trans ((aF_cg (st_ne ew_34 (by decide))).trans (hs_w_32.hA (by decide)))) ((hs_w_38.hA (by decide)).trans ((aF_cg (st_ne ew_34 (by decide))).trans (hs_w_32.hA (by decide)))) ((hs_w_38.hL (by decide)).trans ((aL_cg (st_ne ew_34 (by decide))).trans (hs_w_32.hL (by decide)))) ((hs_w_38.gI (by decide)).trans ((fI_cg (st_ne ew_34 (by decide))).trans (hs_w_32.gI (by decide)))) hlb_226) (ok_4 ev_41 ((In_add ((In_add (In_lit (n := 1) (by decide) (by decide) : In 1 1 1) ((In_mull (R_nle_r (In_of ev_30 (hW_w226.ap tM_2 _) : In 0 10 v_30) i_x226_2 c_31 (by decide) : In 0 9 x226_2) (n := 24) (by decide) (by decide)) : In 0 216 (24 * x226_2)) (by decide)) : In 1 217 (1 + (24 * x226_2))) (by have y := hd2_226; have e := congrArg Int32.toInt (ev_37.trans (congrFun ((aF_cg (st_ne ew_34 (by decide))).trans (hs_w_32.hA (by decide))) _)); have z := (In_of ev_37 (hW_w_34.ap tM_32 _) : In 0 24 v_37); unfold In at z ⊢; omega : In 1 24 v_37) (by decide)) : In 2 241 ((1 + (24 * x226_2)) + v_37)) (In_w ((In_add (In_lit (n := 242) (by decide) (by decide) : In 242 242 242) i_x226_1 (by decide)) : In 242 281 (242 + x151_1)) (by decide) : In 242 289 (242 + x151_1))))) (DY_cg ((aF_cg (st_ne ew_48 (by decide))).trans ((hs_w_42.hA (by decide)).trans ((hs_w_38.hA (by decide)).trans ((aF_cg (st_ne ew_34 (by decide))).trans (hs_w_32.hA (by decide)))))) ((fI_cg (st_ne ew_48 (by decide))).trans ((hs_w_42.2 0 45 (by decide) (by decide)).trans ((hs_w_38.gI (by decide)).trans ((fI_cg (st_ne ew_34 (by decide))).trans (hs_w_32.gI (by decide)))))) hdy_226) (PR_st (aF_eq (hW_w_42.lt tM_44) ew_48) h_46 (fI_cg (st_ne ew_48 (by decide))) (PR_up ((hs_w_42.hA (by decide)).trans ((hs_w_38.hA (by decide)).trans ((aF_cg (st_ne ew_34 (by decide))).trans (hs_w_32.hA (by decide))))) (by show (fI w226 0 62).toInt.toNat ≤ (fI w_42 0 62).toInt.toNat; have i0_62 := h_44; unfold In at i0_62; have y := n_h_45; omega) hpr_226)) (by rw [show aF w_48 32 = aF w226 32 from ((aF_cg (st_ne ew_48 (by decide))).trans ((hs_w_42.hA (by decide)).trans ((hs_w_38.hA (by decide)).trans ((aF_cg (st_ne ew_34 (by decide))).trans (hs_w_32.hA (by decide))))))]; exact hd2_226) hP hD hS (lv_sub hl [0, 1, 2] rfl)
      refine lv_iload_n hx hb dX12_give_151 rfl (lv_at hl 1 rfl) ?_
      refine lv_aload_n hx hb dX12_give_152 rfl (lv_at hl 0 rfl) ?_
      refine gt_X12 hx hb hts hown hK hP 0 (hW_w151.o tM_0) 45 (by decide) wd_1446 rfl (hW_w151.fi tM_0 rfl) dX12_give_153 ?_
      refine lv_icmp_ge (tgt := 324) hx hb dX12_give_156 (by decide) (fun c_49 => ?_) (fun c_49 => ?_)
      · have lb_c_49 : ((fI w151 0 45) : Int32).toInt ≤ (x151_1 : Int32).toInt := q_le.mp c_49
        refine lv_aload_n hx hb dX12_give_324 rfl (lv_at hl 0 rfl) ?_
        refine kW_v ⟨rfl, rfl⟩ hP hD hS hA (rW_V (As := []) (rest := []) hx hb hml hown hts hK hE hP hD (k_X12_settles l D cI cJ cZ q w151 hW_w151 (hlb_151.2.1) (hpr_151) (FP_0 hlb_151) (hlb_151.2.2.1) _) ⟨⟨rfl, rfl⟩, rfl, rfl⟩ sv_X12_541 ⟨(Nat.le_trans (by decide) hR.1), (Nat.le_trans (by decide) hR.2)⟩ 0 12 (hW_w151.o tM_0) rfl rfl rfl hl.1 rfl (Nat.le_of_ble_eq_true rfl) dX12_give_325) (fun w_50 H locs hw_w_50 hP hD hS => ?_)
        obtain ⟨hW_w_50, hs_w_50⟩ := hw_w_50
        refine lv_aload_n hx hb dX12_give_328 rfl (lv_at hl 0 rfl) ?_
        refine lv_iconst (v := 0) hx hb dX12_give_329 (by decide) ?_
        refine pt_X12 hx hb hts hown hK hP hD hS 0 (hW_w_50.o tM_0) 78 (by decide) wd_1479 rfl rfl (ty := .int) (v := .int 0) (by decide +kernel) rfl rfl (hW_w_50.ll tM_0 (Nat.le_of_ble_eq_true rfl)) dX12_give_330 (fun H locs hP hD hS => fr_w (hW_w_50.sI tM_0 rfl (In_lit (n := 0) (by decide) (by decide) : In (-2147483648) 2147483647 0)) hP hD (fun w_52 ew_52 hW_w_52 hP hD => ?_))
        refine lv_aload_n hx hb dX12_give_333 rfl (lv_at hl 0 rfl) ?_
        refine lv_iconst (v := 0) hx hb dX12_give_334 (by decide) ?_
        refine pt_X12 hx hb hts hown hK hP hD hS 0 (hW_w_52.o tM_0) 79 (by decide) wd_1480 rfl rfl (ty := .int) (v := .int 0) (by decide +kernel) rfl rfl (hW_w_52.ll tM_0 (Nat.le_of_ble_eq_true rfl)) dX12_give_335 (fun H locs hP hD hS => fr_w (hW_w_52.sI tM_0 rfl (In_lit (n := 0) (by decide) (by decide) : In (-2147483648) 2147483647 0)) hP hD (fun w_53 ew_53 hW_w_53 hP hD => ?_))
        refine lv_iconst (v := 0) hx hb dX12_give_338 (by decide) ?_
        refine lv_istore_n (lv' := [(1, .int 0), (0, .ref (q 0))]) hx hb dX12_give_339 rfl hl (by decide) rfl (fun ls hl => ?_)
        exact J340 _ 0 w_53 _ _ ls (Nat.lt_succ_self _) hW_w_53 (((hM_w151.tr hs_w_50 (by decide)).sf (hW_w_50.lt tM_0) ew_52 (by decide)).sf (hW_w_52.lt tM_0) ew_53 (by decide)) (In_lit (n := 0) (by decide) (by decide) : In 0 10 0) ((fI_nej (hW_w_52.lt tM_0) ew_53 (by decide)).trans (fI_eq (hW_w_50.lt tM_0) ew_52 (hW_w_50.ll tM_0 (Nat.le_of_ble_eq_true rfl)))) (fI_eq (hW_w_52.lt tM_0) ew_53 (hW_w_52.ll tM_0 (Nat.le_of_ble_eq_true rfl))) hP hD hS (lv_sub hl [1, 0] rfl)
      · have lb_c_49 : ¬ ((fI w151 0 45) : Int32).toInt ≤ (x151_1 : Int32).toInt := fun h => c_49 (q_le.mpr h)
        refine lv_aload_n hx hb dX12_give_159 rfl (lv_at hl 0 rfl) ?_
        refine gt_X12 hx hb hts hown hK hP 0 (hW_w151.o tM_0) 70 (by decide) wd_1471 rfl (hW_w151.fr tM_0 rfl) dX12_give_160 ?_
        refine lv_iload_n hx hb dX12_give_163 rfl (lv_at hl 1 rfl) ?_
        refine lv_aload_n hx hb dX12_give_164 rfl (lv_at hl 0 rfl) ?_
        refine lv_iload_n hx hb dX12_give_165 rfl (lv_at hl 1 rfl) ?_
        refine kW_i ⟨rfl, rfl⟩ hP hD hS hA (rW_V (As := [.int x151_1]) (rest := [.int x151_1, .ref (q 47)]) hx hb hml hown hts hK hE hP hD (k_X12_due l D cI cJ cZ q w151 hW_w151 x151_1 (R_nle_r (hW_w151.fin tM_0 rfl : In 0 40 (fI w151 0 45)) i_x151_1 c_49 (by decide) : In 0 39 x151_1) (R_nle_l (hW_w151.fin tM_0 rfl : In 0 40 (fI w151 0 45)) i_x151_1 c_49 (by decide) : In 1 40 (fI w151 0 45)) (RV_cg (hM_w151.hA (by decide)) (hM_w151.hA (by decide)) (hM_w151.hA (by decide)) (hM_w151.2 0 12 (by decide) (by decide)) hRV) _) ⟨⟨rfl, rfl⟩, rfl, rfl⟩ sv_X12_515 ⟨(Nat.le_trans (by decide) hR.1), (Nat.le_trans (by decide) hR.2)⟩ 0 12 (hW_w151.o tM_0) rfl rfl rfl hl.1 rfl (Nat.le_of_ble_eq_true rfl) dX12_give_166) (fun r_55 w_54 H locs hw_w_54 hP hD hS => ?_)
        obtain ⟨hW_w_54, hs_w_54, h_56⟩ := hw_w_54
        refine va_iast hx hb hK hP hD hS 47 0 (hW_w_54.a tM_47) rfl (in_I (R_nle_r (hW_w151.fin tM_0 rfl : In 0 40 (fI w151 0 45)) i_x151_1 c_49 (by decide) : In 0 39 x151_1) (by decide)) dX12_give_169 (fun H locs hP hD hS => fr_w (hW_w_54.uA tM_47 (In_w (⟨h_56, (In_any r_55).2⟩ : In 0 2147483647 r_55) (by decide) : In (-2147483648) 2147483647 r_55)) hP hD (fun w_57 ew_57 hW_w_57 hP hD => ?_))
        refine lv_aload_n hx hb dX12_give_170 rfl (lv_at hl 0 rfl) ?_
        refine gt_X12 hx hb hts hown hK hP 0 (hW_w_57.o tM_0) 71 (by decide) wd_1472 rfl (hW_w_57.fr tM_0 rfl) dX12_give_171 ?_
        refine lv_iload_n hx hb dX12_give_174 rfl (lv_at hl 1 rfl) ?_
        refine lv_aload_n hx hb dX12_give_175 rfl (lv_at hl 0 rfl) ?_
        refine gt_X12 hx hb hts hown hK hP 0 (hW_w_57.o tM_0) 51 (by decide) wd_1452 rfl (hW_w_57.fr tM_0 rfl) dX12_give_176 ?_
        refine lv_iload_n hx hb dX12_give_179 rfl (lv_at hl 1 rfl) ?_
        refine va_iald hx hb hK hP 31 0 (hW_w_57.a tM_31) rfl (in_I (R_nle_r (hW_w151.fin tM_0 rfl : In 0 40 (fI w151 0 45)) i_x151_1 c_49 (by decide) : In 0 39 x151_1) (by decide)) dX12_give_180 ?_
        refine lv_topi (fun v_58 ev_58 => ?_)
        refine va_iast hx hb hK hP hD hS 48 0 (hW_w_57.a tM_48) rfl (in_I (R_nle_r (hW_w151.fin tM_0 rfl : In 0 40 (fI w151 0 45)) i_x151_1 c_49 (by decide) : In 0 39 x151_1) (by decide)) dX12_give_181 (fun H locs hP hD hS => fr_w (hW_w_57.uA tM_48 (In_any v_58)) hP hD (fun w_59 ew_59 hW_w_59 hP hD => ?_))
        refine lv_aload_n hx hb dX12_give_182 rfl (lv_at hl 0 rfl) ?_
        refine gt_X12 hx hb hts hown hK hP 0 (hW_w_59.o tM_0) 72 (by decide) wd_1473 rfl (hW_w_59.fr tM_0 rfl) dX12_give_183 ?_
        refine lv_iload_n hx hb dX12_give_186 rfl (lv_at hl 1 rfl) ?_
        refine lv_aload_n hx hb dX12_give_187 rfl (lv_at hl 0 rfl) ?_
        refine gt_X12 hx hb hts hown hK hP 0 (hW_w_59.o tM_0) 52 (by decide) wd_1453 rfl (hW_w_59.fr tM_0 rfl) dX12_give_188 ?_
        refine lv_iload_n hx hb dX12_give_191 rfl (lv_at hl 1 rfl) ?_
        refine va_iald hx hb hK hP 32 0 (hW_w_59.a tM_32) rfl (in_I (R_nle_r (hW_w151.fin tM_0 rfl : In 0 40 (fI w151 0 45)) i_x151_1 c_49 (by decide) : In 0 39 x151_1) (by decide)) dX12_give_192 ?_
        refine lv_topi (fun v_60 ev_60 => ?_)
        refine va_iast hx hb hK hP hD hS 49 0 (hW_w_59.a tM_49) rfl (in_I (R_nle_r (hW_w151.fin tM_0 rfl : In 0 40 (fI w151 0 45)) i_x151_1 c_49 (by decide) : In 0 39 x151_1) (by decide)) dX12_give_193 (fun H locs hP hD hS => fr_w (hW_w_59.uA tM_49 (In_w (In_of ev_60 (hW_w_59.ap tM_32 _) : In 0 24 v_60) (by decide) : In (-2147483648) 2147483647 v_60)) hP hD (fun w_61 ew_61 hW_w_61 hP hD => ?_))
        refine lv_aload_n hx hb dX12_give_194 rfl (lv_at hl 0 rfl) ?_
        refine gt_X12 hx hb hts hown hK hP 0 (hW_w_61.o tM_0) 73 (by decide) wd_1474 rfl (hW_w_61.fr tM_0 rfl) dX12_give_195 ?_
        refine lv_iload_n hx hb dX12_give_198 rfl (lv_at hl 1 rfl) ?_
        refine lv_aload_n hx hb dX12_give_199 rfl (lv_at hl 0 rfl) ?_
        refine gt_X12 hx hb hts hown hK hP 0 (hW_w_61.o tM_0) 47 (by decide) wd_1448 rfl (hW_w_61.fr tM_0 rfl) dX12_give_200 ?_
        refine lv_iload_n hx hb dX12_give_203 rfl (lv_at hl 1 rfl) ?_
        refine va_iald hx hb hK hP 27 0 (hW_w_61.a tM_27) rfl (in_I (R_nle_r (hW_w151.fin tM_0 rfl : In 0 40 (fI w151 0 45)) i_x151_1 c_49 (by decide) : In 0 39 x151_1) (by decide)) dX12_give_204 ?_
        refine lv_topi (fun v_62 ev_62 => ?_)
        refine va_iast hx hb hK hP hD hS 50 0 (hW_w_61.a tM_50) rfl (in_I (R_nle_r (hW_w151.fin tM_0 rfl : In 0 40 (fI w151 0 45)) i_x151_1 c_49 (by decide) : In 0 39 x151_1) (by decide)) dX12_give_205 (fun H locs hP hD hS => fr_w (hW_w_61.uA tM_50 (In_any v_62)) hP hD (fun w_63 ew_63 hW_w_63 hP hD => ?_))
        refine lv_aload_n hx hb dX12_give_206 rfl (lv_at hl 0 rfl) ?_
        refine lv_sipush (v := 242) hx hb dX12_give_207 (by decide) ?_
        refine lv_iload_n hx hb dX12_give_210 rfl (lv_at hl 1 rfl) ?_
        refine lv_iadd hx hb dX12_give_211 ?_
        refine lv_iconst (v := 1) hx hb dX12_give_212 (by decide) ?_
        refine lv_aload_n hx hb dX12_give_213 rfl (lv_at hl 0 rfl) ?_
        refine gt_X12 hx hb hts hown hK hP 0 (hW_w_63.o tM_0) 70 (by decide) wd_1471 rfl (hW_w_63.fr tM_0 rfl) dX12_give_214 ?_
        refine lv_iload_n hx hb dX12_give_217 rfl (lv_at hl 1 rfl) ?_
        refine va_iald hx hb hK hP 47 0 (hW_w_63.a tM_47) rfl (in_I (R_nle_r (hW_w151.fin tM_0 rfl : In 0 40 (fI w151 0 45)) i_x151_1 c_49 (by decide) : In 0 39 x151_1) (by decide)) dX12_give_218 ?_
        refine tov (v := r_55) ((congrFun ((aF_cg (st_ne ew_63 (by decide))).trans ((aF_cg (st_ne ew_61 (by decide))).trans (aF_cg (st_ne ew_59 (by decide))))) _).trans (upd_at (aF_eq (hW_w_54.lt tM_47) ew_57))) ?_
        refine lv_lconst (v := 0) hx hb dX12_give_219 (by decide) ?_
        refine kW_i ⟨rfl, rfl⟩ hP hD hS hA (rW_V (As := [.int (242 + x151_1), .int 1, .int r_55, .long 0]) (rest := []) hx hb hml hown hts hK hE hP hD (kl_X12_lane l D cI cJ cZ q w_63 hW_w_63 (242 + x151_1) 1 r_55 0 (In_w ((In_add (In_lit (n := 242) (by decide) (by decide) : In 242 242 242) (R_nle_r (hW_w151.fin tM_0 rfl : In 0 40 (fI w151 0 45)) i_x151_1 c_49 (by decide) : In 0 39 x151_1) (by decide)) : In 242 281 (242 + x151_1)) (by decide) : In 0 282 (242 + x151_1)) (In_lit (n := 1) (by decide) (by decide) : In 1 282 1) (In_of ((fI_cg (st_ne ew_63 (by decide))).trans ((fI_cg (st_ne ew_61 (by decide))).trans ((fI_cg (st_ne ew_59 (by decide))).trans ((fI_cg (st_ne ew_57 (by decide))).trans (hs_w_54.gI (by decide)))))) (by have q0 := (hW_w151.fin tM_0 rfl : In 0 2200 (fI w151 0 62)); have q1 := (R_nle_r (hW_w151.fin tM_0 rfl : In 0 40 (fI w151 0 45)) i_x151_1 c_49 (by decide) : In 0 39 x151_1); unfold In at q0 q1 ⊢; omega : In 0 2198 (fI w151 0 62))) _) ⟨⟨rfl, rfl⟩, rfl, rfl⟩ sv_X12_536 ⟨(Nat.le_trans (by decide) hR.1), (Nat.le_trans (by decide) hR.2)⟩ 0 12 (hW_w_63.o tM_0) rfl rfl rfl hl.1 rfl (Nat.le_of_ble_eq_true rfl) dX12_give_220) (fun r_65 w_64 H locs hw_w_64 hP hD hS => ?_)
        obtain ⟨hW_w_64, hs_w_64, i_r_65, h_66, h_67, h_68, h_69⟩ := hw_w_64
        have n_h_67 : (fI w_64 0 62).toInt = ((fI w151 0 62) : Int32).toInt + 2 := (by have ee : (fI w_63 0 62).toInt = ((fI w151 0 62) : Int32).toInt := congrArg Int32.toInt ((fI_cg (st_ne ew_63 (by decide))).trans ((fI_cg (st_ne ew_61 (by decide))).trans ((fI_cg (st_ne ew_59 (by decide))).trans ((fI_cg (st_ne ew_57 (by decide))).trans (hs_w_54.gI (by decide)))))); have q := h_67; omega)
        refine lv_pop hx hb dX12_give_223 rfl ?_
        refine lv_iconst (v := 0) hx hb dX12_give_224 (by decide) ?_
        refine lv_istore_n (lv' := [(2, .int 0), (0, .ref (q 0)), (1, .int x151_1)]) hx hb dX12_give_225 rfl hl (by decide) rfl (fun ls hl => ?_)
        exact J226 _ 0 w_64 _ _ ls (Nat.lt_succ_self _) hW_w_64 ((((((hM_w151.tr hs_w_54 (by decide)).sa ew_57 (by decide)).sa ew_59 (by decide)).sa ew_61 (by decide)).sa ew_63 (by decide)).tr hs_w_64 (by decide)) (R_nle_r (hW_w151.fin tM_0 rfl : In 0 40 (fI w151 0 45)) i_x151_1 c_49 (by decide) : In 0 39 x151_1) (In_lit (n := 0) (by decide) (by decide) : In 0 10 0) ((hs_w_64.2 0 45 (by decide) (by decide)).trans ((fI_cg (st_ne ew_63 (by decide))).trans ((fI_cg (st_ne ew_61 (by decide))).trans ((fI_cg (st_ne ew_59 (by decide))).trans ((fI_cg (st_ne ew_57 (by decide))).trans (hs_w_54.gI (by decide))))))) (R_nle_l (hW_w151.fin tM_0 rfl : In 0 40 (fI w151 0 45)) i_x151_1 c_49 (by decide) : In 1 40 (fI w151 0 45)) h_66 (by have i0_62 := h_66; unfold In at i0_62; have il1 := (R_nle_r (hW_w151.fin tM_0 rfl : In 0 40 (fI w151 0 45)) i_x151_1 c_49 (by decide) : In 0 39 x151_1); unfold In at il1; have z0 : (0 : Int32).toInt = 0 := (by decide); omega) (h_69 (LB_cg ((aF_cg (st_ne ew_63 (by decide))).trans ((aF_cg (st_ne ew_61 (by decide))).trans ((aF_cg (st_ne ew_59 (by decide))).trans ((aF_cg (st_ne ew_57 (by decide))).trans (hs_w_54.hA (by decide)))))) ((aF_cg (st_ne ew_63 (by decide))).trans ((aF_cg (st_ne ew_61 (by decide))).trans ((aF_cg (st_ne ew_59 (by decide))).trans ((aF_cg (st_ne ew_57 (by decide))).trans (hs_w_54.hA (by decide)))))) ((aF_cg (st_ne ew_63 (by decide))).trans ((aF_cg (st_ne ew_61 (by decide))).trans ((aF_cg (st_ne ew_59 (by decide))).trans ((aF_cg (st_ne ew_57 (by decide))).trans (hs_w_54.hA (by decide)))))) ((aL_cg (st_ne ew_63 (by decide))).trans ((aL_cg (st_ne ew_61 (by decide))).trans ((aL_cg (st_ne ew_59 (by decide))).trans ((aL_cg (st_ne ew_57 (by decide))).trans (hs_w_54.hL (by decide)))))) ((fI_cg (st_ne ew_63 (by decide))).trans ((fI_cg (st_ne ew_61 (by decide))).trans ((fI_cg (st_ne ew_59 (by decide))).trans ((fI_cg (st_ne ew_57 (by decide))).trans (hs_w_54.gI (by decide)))))) hlb_151) (ok_3 (In_w ((In_add (In_lit (n := 242) (by decide) (by decide) : In 242 242 242) (R_nle_r (hW_w151.fin tM_0 rfl : In 0 40 (fI w151 0 45)) i_x151_1 c_49 (by decide) : In 0 39 x151_1) (by decide)) : In 242 281 (242 + x151_1)) (by decide) : In 242 289 (242 + x151_1)) (by decide) (⟨h_56, (In_any r_55).2⟩ : In 0 2147483647 r_55))) (DY_cg ((hs_w_64.hA (by decide)).trans ((aF_cg (st_ne ew_63 (by decide))).trans ((aF_cg (st_ne ew_61 (by decide))).trans ((aF_cg (st_ne ew_59 (by decide))).trans ((aF_cg (st_ne ew_57 (by decide))).trans (hs_w_54.hA (by decide))))))) ((hs_w_64.2 0 45 (by decide) (by decide)).trans ((fI_cg (st_ne ew_63 (by decide))).trans ((fI_cg (st_ne ew_61 (by decide))).trans ((fI_cg (st_ne ew_59 (by decide))).trans ((fI_cg (st_ne ew_57 (by decide))).trans (hs_w_54.gI (by decide))))))) hdy_151) (PR_up ((hs_w_64.hA (by decide)).trans ((aF_cg (st_ne ew_63 (by decide))).trans ((aF_cg (st_ne ew_61 (by decide))).trans ((aF_cg (st_ne ew_59 (by decide))).trans ((aF_cg (st_ne ew_57 (by decide))).trans (hs_w_54.hA (by decide))))))) (by show (fI w151 0 62).toInt.toNat ≤ (fI w_64 0 62).toInt.toNat; have i0_62 := h_66; unfold In at i0_62; have y := n_h_67; omega) hpr_151) (by have y := hdy_151 x151_1.toNatClampNeg (by show ((x151_1.toInt.toNat : Nat) : Int) < _; have z := (R_nle_r (hW_w151.fin tM_0 rfl : In 0 40 (fI w151 0 45)) i_x151_1 c_49 (by decide) : In 0 39 x151_1); unfold In at z; have l := lb_c_49; omega); rw [show aF w_64 32 = aF w151 32 from ((hs_w_64.hA (by decide)).trans ((aF_cg (st_ne ew_63 (by decide))).trans ((aF_cg (st_ne ew_61 (by decide))).trans ((aF_cg (st_ne ew_59 (by decide))).trans ((aF_cg (st_ne ew_57 (by decide))).trans (hs_w_54.hA (by decide)))))))]; exact y) hP hD hS (lv_sub hl [1, 2, 0] rfl)
  have J121 : ∀ (N : Nat) (x121_1 : Int32) (w121 : va_W) (H : Heap) (locs : List Loc) (ls : Array Slot), (400 - x121_1.toInt).toNat < N → HT q (TM q cI cJ cZ) w121 → Sm [0, 26, 27, 28, 29, 30, 31, 32, 33, 34, 35, 36, 37, 38, 39, 40, 41, 42, 43, 44, 45, 46, 47, 48, 49, 50, 51, 52, 53, 54] [(0, 45), (0, 62), (0, 68), (0, 69), (0, 78), (0, 79), (0, 80)] w w121 → (In 0 400 x121_1) → ((fI w121 0 62).toInt ≤ 960) → (LBx w121) → (DY w121) → (∀ i : Nat, i < (x121_1 : Int32).toInt.toNat → aF w121 44 i = -1) → va_P D vwCl w121 H → va_D A w121 → va_S A s.heap H locs → lv_has ls 3 [(0, .ref (q 0)), (1, .int x121_1)] → W p l e R s m args below meth c H locs 0 0 Q (F0 m 121 ls []) := by
    intro N
    induction N with
    | zero => intro x121_1 w121 H locs ls hmu; exact absurd hmu (Nat.not_lt_zero _)
    | succ N ih121 =>
      intro x121_1 w121 H locs ls hmu121 hW_w121 hM_w121 i_x121_1 hc_121 hlb_121 hdy_121 hfl_121 hP hD hS hl
      refine lv_iload_n hx hb dX12_give_121 rfl (lv_at hl 1 rfl) ?_
      refine lv_sipush (v := 400) hx hb dX12_give_122 (by decide) ?_
      refine lv_icmp_ge (tgt := 141) hx hb dX12_give_125 (by decide) (fun c_70 => ?_) (fun c_70 => ?_)
      · have lb_c_70 : (400 : Int32).toInt ≤ (x121_1 : Int32).toInt := q_le.mp c_70
        have lq_c_70 : (400 : Int32).toInt = 400 := by decide
        refine lv_aload_n hx hb dX12_give_141 rfl (lv_at hl 0 rfl) ?_
        refine lv_aload_n hx hb dX12_give_142 rfl (lv_at hl 0 rfl) ?_
        refine gt_X12 hx hb hts hown hK hP 0 (hW_w121.o tM_0) 45 (by decide) wd_1446 rfl (hW_w121.fi tM_0 rfl) dX12_give_143 ?_
        refine pt_X12 hx hb hts hown hK hP hD hS 0 (hW_w121.o tM_0) 69 (by decide) wd_1470 rfl rfl (ty := .int) (v := .int (fI w121 0 45)) (by decide +kernel) rfl rfl (hW_w121.ll tM_0 (Nat.le_of_ble_eq_true rfl)) dX12_give_146 (fun H locs hP hD hS => fr_w (hW_w121.sI tM_0 rfl (hW_w121.fin tM_0 rfl : In 0 40 (fI w121 0 45))) hP hD (fun w_71 ew_71 hW_w_71 hP hD => ?_))
        refine lv_iconst (v := 0) hx hb dX12_give_149 (by decide) ?_
        refine lv_istore_n (lv' := [(1, .int 0), (0, .ref (q 0))]) hx hb dX12_give_150 rfl hl (by decide) rfl (fun ls hl => ?_)
        exact J151 _ 0 w_71 _ _ ls (Nat.lt_succ_self _) hW_w_71 (hM_w121.sf (hW_w121.lt tM_0) ew_71 (by decide)) (In_lit (n := 0) (by decide) (by decide) : In 0 40 0) (by have e0_62 : (fI w_71 0 62).toInt = ((fI w121 0 62) : Int32).toInt := congrArg Int32.toInt (fI_nej (hW_w121.lt tM_0) ew_71 (by decide)); have i0_62 := (hW_w121.fin tM_0 rfl : In 0 2200 (fI w121 0 62)); unfold In at i0_62; have z0 : (0 : Int32).toInt = 0 := (by decide); have iq_x121_1 := (R_le_r (In_lit (n := 400) (by decide) (by decide) : In 400 400 400) i_x121_1 c_70 (by decide) : In 400 400 x121_1); unfold In at iq_x121_1; omega) (LB_cg (aF_cg (st_ne ew_71 (by decide))) (aF_cg (st_ne ew_71 (by decide))) (aF_cg (st_ne ew_71 (by decide))) (aL_cg (st_ne ew_71 (by decide))) (fI_nej (hW_w121.lt tM_0) ew_71 (by decide)) hlb_121) (DY_cg (aF_cg (st_ne ew_71 (by decide))) (fI_nej (hW_w121.lt tM_0) ew_71 (by decide)) hdy_121) (PR_up (aF_cg (st_ne ew_71 (by decide))) (Nat.le_of_eq (congrArg (fun z : Int32 => z.toInt.toNat) ((fI_nej (hW_w121.lt tM_0) ew_71 (by decide))).symm)) (PR_fl (y := x121_1) (by have z := lq_c_70; have y := lb_c_70; omega) hfl_121)) hP hD hS (lv_sub hl [1, 0] rfl)
      · have lb_c_70 : ¬ (400 : Int32).toInt ≤ (x121_1 : Int32).toInt := fun h => c_70 (q_le.mpr h)
        have lq_c_70 : (400 : Int32).toInt = 400 := by decide
        refine lv_aload_n hx hb dX12_give_128 rfl (lv_at hl 0 rfl) ?_
        refine gt_X12 hx hb hts hown hK hP 0 (hW_w121.o tM_0) 65 (by decide) wd_1466 rfl (hW_w121.fr tM_0 rfl) dX12_give_129 ?_
        refine lv_iload_n hx hb dX12_give_132 rfl (lv_at hl 1 rfl) ?_
        refine lv_iconst (v := (-1)) hx hb dX12_give_133 (by decide) ?_
        refine va_iast hx hb hK hP hD hS 44 0 (hW_w121.a tM_44) rfl (in_I (R_nle_r (In_lit (n := 400) (by decide) (by decide) : In 400 400 400) i_x121_1 c_70 (by decide) : In 0 399 x121_1) (by decide)) dX12_give_134 (fun H locs hP hD hS => fr_w (hW_w121.uA tM_44 (In_lit (n := (-1)) (by decide) (by decide) : In (-1) 2198 (-1))) hP hD (fun w_72 ew_72 hW_w_72 hP hD => ?_))
        refine lv_iinc (v := (x121_1 + 1)) (lv' := [(1, .int (x121_1 + 1)), (0, .ref (q 0))]) hx hb dX12_give_135 hl (k := 1) rfl (rfl) (by decide) rfl (fun ls hl => ?_)
        refine lv_goto (tgt := 121) hx hb dX12_give_138 (by decide) ?_
        exact ih121 (x121_1 + 1) w_72 _ _ ls (mu_inc hmu121 (R_nle_r (In_lit (n := 400) (by decide) (by decide) : In 400 400 400) i_x121_1 c_70 (by decide) : In 0 399 x121_1) (In_lit (n := 1) (by decide) (by decide) : In 1 1 1) (by decide)) hW_w_72 (hM_w121.sa ew_72 (by decide)) (In_w ((In_add (y := 1) (R_nle_r (In_lit (n := 400) (by decide) (by decide) : In 400 400 400) i_x121_1 c_70 (by decide) : In 0 399 x121_1) (In_lit (n := 1) (by decide) (by decide) : In 1 1 1) (by decide)) : In 1 400 (x121_1 + 1)) (by decide) : In 0 400 (x121_1 + 1)) (by have e0_62 : (fI w_72 0 62).toInt = ((fI w121 0 62) : Int32).toInt := congrArg Int32.toInt (fI_cg (st_ne ew_72 (by decide))); have i0_62 := (hW_w121.fin tM_0 rfl : In 0 2200 (fI w121 0 62)); unfold In at i0_62; have im1 := ((In_add (y := 1) (R_nle_r (In_lit (n := 400) (by decide) (by decide) : In 400 400 400) i_x121_1 c_70 (by decide) : In 0 399 x121_1) (In_lit (n := 1) (by decide) (by decide) : In 1 1 1) (by decide)) : In 1 400 (x121_1 + 1)); unfold In at im1; have iq_x121_1 := (R_nle_r (In_lit (n := 400) (by decide) (by decide) : In 400 400 400) i_x121_1 c_70 (by decide) : In 0 399 x121_1); unfold In at iq_x121_1; omega) (LB_cg (aF_cg (st_ne ew_72 (by decide))) (aF_cg (st_ne ew_72 (by decide))) (aF_cg (st_ne ew_72 (by decide))) (aL_cg (st_ne ew_72 (by decide))) (fI_cg (st_ne ew_72 (by decide))) hlb_121) (DY_cg (aF_cg (st_ne ew_72 (by decide))) (fI_cg (st_ne ew_72 (by decide))) hdy_121) (fi44 (R_nle_r (In_lit (n := 400) (by decide) (by decide) : In 400 400 400) i_x121_1 c_70 (by decide) : In 0 399 x121_1) hfl_121 (aF_eq (hW_w121.lt tM_44) ew_72)) hP hD hS (lv_sub hl [1, 0] rfl)
  have J15 : ∀ (N : Nat) (x15_1 : Int32) (w15 : va_W) (H : Heap) (locs : List Loc) (ls : Array Slot), (10 - x15_1.toInt).toNat < N → HT q (TM q cI cJ cZ) w15 → Sm [0, 26, 27, 28, 29, 30, 31, 32, 33, 34, 35, 36, 37, 38, 39, 40, 41, 42, 43, 44, 45, 46, 47, 48, 49, 50, 51, 52, 53, 54] [(0, 45), (0, 62), (0, 68), (0, 69), (0, 78), (0, 79), (0, 80)] w w15 → (In 0 10 x15_1) → ((fI w15 0 62).toInt ≤ 96 * (x15_1 : Int32).toInt) → (LBx w15) → (DY w15) → va_P D vwCl w15 H → va_D A w15 → va_S A s.heap H locs → lv_has ls 3 [(0, .ref (q 0)), (1, .int x15_1)] → W p l e R s m args below meth c H locs 0 0 Q (F0 m 15 ls []) := by
    intro N
    induction N with
    | zero => intro x15_1 w15 H locs ls hmu; exact absurd hmu (Nat.not_lt_zero _)
    | succ N ih15 =>
      intro x15_1 w15 H locs ls hmu15 hW_w15 hM_w15 i_x15_1 hc_15 hlb_15 hdy_15 hP hD hS hl
      have J30 : ∀ (N : Nat) (x30_2 : Int32) (w30 : va_W) (H : Heap) (locs : List Loc) (ls : Array Slot), (25 - x30_2.toInt).toNat < N → HT q (TM q cI cJ cZ) w30 → Sm [0, 26, 27, 28, 29, 30, 31, 32, 33, 34, 35, 36, 37, 38, 39, 40, 41, 42, 43, 44, 45, 46, 47, 48, 49, 50, 51, 52, 53, 54] [(0, 45), (0, 62), (0, 68), (0, 69), (0, 78), (0, 79), (0, 80)] w w30 → (In 0 9 x15_1) → (In 1 25 x30_2) → ((fI w30 0 62).toInt ≤ 96 * (x15_1 : Int32).toInt + 4 * ((x30_2 : Int32).toInt - 1)) → (LBx w30) → (DY w30) → va_P D vwCl w30 H → va_D A w30 → va_S A s.heap H locs → lv_has ls 3 [(0, .ref (q 0)), (1, .int x15_1), (2, .int x30_2)] → W p l e R s m args below meth c H locs 0 0 Q (F0 m 30 ls []) := by
        intro N
        induction N with
        | zero => intro x30_2 w30 H locs ls hmu; exact absurd hmu (Nat.not_lt_zero _)
        | succ N ih30 =>
          intro x30_2 w30 H locs ls hmu30 hW_w30 hM_w30 i_x30_1 i_x30_2 hc_30 hlb_30 hdy_30 hP hD hS hl
          have J107 : ∀ (w107 : va_W) (H : Heap) (locs : List Loc) (ls : Array Slot), HT q (TM q cI cJ cZ) w107 → Sm [0, 26, 27, 28, 29, 30, 31, 32, 33, 34, 35, 36, 37, 38, 39, 40, 41, 42, 43, 44, 45, 46, 47, 48, 49, 50, 51, 52, 53, 54] [(0, 45), (0, 62), (0, 68), (0, 69), (0, 78), (0, 79), (0, 80)] w w107 → (In 0 9 x15_1) → (In 1 24 x30_2) → ((fI w107 0 62).toInt ≤ 96 * (x15_1 : Int32).toInt + 4 * (x30_2 : Int32).toInt) → (LBx w107) → (DY w107) → va_P D vwCl w107 H → va_D A w107 → va_S A s.heap H locs → lv_has ls 3 [(0, .ref (q 0)), (1, .int x15_1), (2, .int x30_2)] → W p l e R s m args below meth c H locs 0 0 Q (F0 m 107 ls []) := by
            intro w107 H locs ls hW_w107 hM_w107 i_x107_1 i_x107_2 hc_107 hlb_107 hdy_107 hP hD hS hl
            refine lv_iinc (v := (x30_2 + 1)) (lv' := [(2, .int (x30_2 + 1)), (0, .ref (q 0)), (1, .int x15_1)]) hx hb dX12_give_107 hl (k := 2) rfl (rfl) (by decide) rfl (fun ls hl => ?_)
            refine lv_goto (tgt := 30) hx hb dX12_give_110 (by decide) ?_
            exact ih30 (x30_2 + 1) w107 _ _ ls (mu_inc hmu30 i_x107_2 (In_lit (n := 1) (by decide) (by decide) : In 1 1 1) (by decide)) hW_w107 hM_w107 i_x30_1 (In_w ((In_add (y := 1) i_x107_2 (In_lit (n := 1) (by decide) (by decide) : In 1 1 1) (by decide)) : In 2 25 (x30_2 + 1)) (by decide) : In 1 25 (x30_2 + 1)) (by have i0_62 := (hW_w107.fin tM_0 rfl : In 0 2200 (fI w107 0 62)); unfold In at i0_62; have il1 := i_x30_1; unfold In at il1; have t11 := t_add i_x107_2 (In_lit (n := 1) (by decide) (by decide) : In 1 1 1) (by decide); have z1 : (1 : Int32).toInt = 1 := (by decide); have il2 := ((In_add (y := 1) i_x107_2 (In_lit (n := 1) (by decide) (by decide) : In 1 1 1) (by decide)) : In 2 25 (x30_2 + 1)); unfold In at il2; have iq_x30_2 := i_x107_2; unfold In at iq_x30_2; omega) hlb_107 hdy_107 hP hD hS (lv_sub hl [1, 2, 0] rfl)
          have J76 : ∀ (w76 : va_W) (H : Heap) (locs : List Loc) (ls : Array Slot), HT q (TM q cI cJ cZ) w76 → Sm [0, 26, 27, 28, 29, 30, 31, 32, 33, 34, 35, 36, 37, 38, 39, 40, 41, 42, 43, 44, 45, 46, 47, 48, 49, 50, 51, 52, 53, 54] [(0, 45), (0, 62), (0, 68), (0, 69), (0, 78), (0, 79), (0, 80)] w w76 → (In 0 9 x15_1) → (In 1 24 x30_2) → ((fI w76 0 62).toInt ≤ 96 * (x15_1 : Int32).toInt + 4 * ((x30_2 : Int32).toInt - 1) + 2) → (LBx w76) → (DY w76) → va_P D vwCl w76 H → va_D A w76 → va_S A s.heap H locs → lv_has ls 3 [(0, .ref (q 0)), (1, .int x15_1), (2, .int x30_2)] → W p l e R s m args below meth c H locs 0 0 Q (F0 m 76 ls []) := by
            intro w76 H locs ls hW_w76 hM_w76 i_x76_1 i_x76_2 hc_76 hlb_76 hdy_76 hP hD hS hl
            refine lv_iload_n hx hb dX12_give_76 rfl (lv_at hl 2 rfl) ?_
            refine lv_bipush (v := 24) hx hb dX12_give_77 (by decide) ?_
            refine lv_icmp_ge (tgt := 107) hx hb dX12_give_79 (by decide) (fun c_73 => ?_) (fun c_73 => ?_)
            · exact J107 w76 _ _ ls hW_w76 hM_w76 i_x30_1 (In_w (R_le_r (In_lit (n := 24) (by decide) (by decide) : In 24 24 24) i_x76_2 c_73 (by decide) : In 24 24 x30_2) (by decide) : In 1 24 x30_2) (by have i0_62 := (hW_w76.fin tM_0 rfl : In 0 2200 (fI w76 0 62)); unfold In at i0_62; have il1 := i_x30_1; unfold In at il1; have il2 := (R_le_r (In_lit (n := 24) (by decide) (by decide) : In 24 24 24) i_x76_2 c_73 (by decide) : In 24 24 x30_2); unfold In at il2; omega) hlb_76 hdy_76 hP hD hS (lv_sub hl [0, 1, 2] rfl)
            · refine lv_aload_n hx hb dX12_give_82 rfl (lv_at hl 0 rfl) ?_
              refine lv_iconst (v := 1) hx hb dX12_give_83 (by decide) ?_
              refine lv_bipush (v := 24) hx hb dX12_give_84 (by decide) ?_
              refine lv_iload_n hx hb dX12_give_86 rfl (lv_at hl 1 rfl) ?_
              refine lv_imul hx hb dX12_give_87 ?_
              refine lv_iadd hx hb dX12_give_88 ?_
              refine lv_iload_n hx hb dX12_give_89 rfl (lv_at hl 2 rfl) ?_
              refine lv_iadd hx hb dX12_give_90 ?_
              refine lv_iconst (v := 2) hx hb dX12_give_91 (by decide) ?_
              refine lv_bipush (v := 24) hx hb dX12_give_92 (by decide) ?_
              refine lv_iload_n hx hb dX12_give_94 rfl (lv_at hl 1 rfl) ?_
              refine lv_imul hx hb dX12_give_95 ?_
              refine lv_iadd hx hb dX12_give_96 ?_
              refine lv_iload_n hx hb dX12_give_97 rfl (lv_at hl 2 rfl) ?_
              refine lv_iadd hx hb dX12_give_98 ?_
              refine lv_ldcw hx hb hown (hts _ wd_1991) dX12_give_99 ?_
              refine lv_lconst (v := 0) hx hb dX12_give_102 (by decide) ?_
              refine kW_i ⟨rfl, rfl⟩ hP hD hS hA (rW_V (As := [.int ((1 + (24 * x15_1)) + x30_2), .int ((2 + (24 * x15_1)) + x30_2), .int 268435456, .long 0]) (rest := []) hx hb hml hown hts hK hE hP hD (kl_X12_lane l D cI cJ cZ q w76 hW_w76 ((1 + (24 * x15_1)) + x30_2) ((2 + (24 * x15_1)) + x30_2) 268435456 0 (In_w ((In_add ((In_add (In_lit (n := 1) (by decide) (by decide) : In 1 1 1) ((In_mull i_x30_1 (n := 24) (by decide) (by decide)) : In 0 216 (24 * x15_1)) (by decide)) : In 1 217 (1 + (24 * x15_1))) (R_nle_r (In_lit (n := 24) (by decide) (by decide) : In 24 24 24) i_x76_2 c_73 (by decide) : In 1 23 x30_2) (by decide)) : In 2 240 ((1 + (24 * x15_1)) + x30_2)) (by decide) : In 0 282 ((1 + (24 * x15_1)) + x30_2)) (In_w ((In_add ((In_add (In_lit (n := 2) (by decide) (by decide) : In 2 2 2) ((In_mull i_x30_1 (n := 24) (by decide) (by decide)) : In 0 216 (24 * x15_1)) (by decide)) : In 2 218 (2 + (24 * x15_1))) (R_nle_r (In_lit (n := 24) (by decide) (by decide) : In 24 24 24) i_x76_2 c_73 (by decide) : In 1 23 x30_2) (by decide)) : In 3 241 ((2 + (24 * x15_1)) + x30_2)) (by decide) : In 1 282 ((2 + (24 * x15_1)) + x30_2)) (by have q0 := (hW_w76.fin tM_0 rfl : In 0 2200 (fI w76 0 62)); have q1 := i_x30_1; have q2 := (R_nle_r (In_lit (n := 24) (by decide) (by decide) : In 24 24 24) i_x76_2 c_73 (by decide) : In 1 23 x30_2); unfold In at q0 q1 q2 ⊢; omega : In 0 2198 (fI w76 0 62)) _) ⟨⟨rfl, rfl⟩, rfl, rfl⟩ sv_X12_536 ⟨(Nat.le_trans (by decide) hR.1), (Nat.le_trans (by decide) hR.2)⟩ 0 12 (hW_w76.o tM_0) rfl rfl rfl hl.1 rfl (Nat.le_of_ble_eq_true rfl) dX12_give_103) (fun r_75 w_74 H locs hw_w_74 hP hD hS => ?_)
              obtain ⟨hW_w_74, hs_w_74, i_r_75, h_76, h_77, h_78, h_79⟩ := hw_w_74
              have n_h_77 : (fI w_74 0 62).toInt = ((fI w76 0 62) : Int32).toInt + 2 := (by have q := h_77; omega)
              refine lv_pop hx hb dX12_give_106 rfl ?_
              exact J107 w_74 _ _ ls hW_w_74 (hM_w76.tr hs_w_74 (by decide)) i_x30_1 (In_w (R_nle_r (In_lit (n := 24) (by decide) (by decide) : In 24 24 24) i_x76_2 c_73 (by decide) : In 1 23 x30_2) (by decide) : In 1 24 x30_2) (by have i0_62 := h_76; unfold In at i0_62; have il1 := i_x30_1; unfold In at il1; have il2 := (R_nle_r (In_lit (n := 24) (by decide) (by decide) : In 24 24 24) i_x76_2 c_73 (by decide) : In 1 23 x30_2); unfold In at il2; omega) (h_79 hlb_76 (ok_1 (In_w ((In_add ((In_add (In_lit (n := 1) (by decide) (by decide) : In 1 1 1) ((In_mull i_x30_1 (n := 24) (by decide) (by decide)) : In 0 216 (24 * x15_1)) (by decide)) : In 1 217 (1 + (24 * x15_1))) (R_nle_r (In_lit (n := 24) (by decide) (by decide) : In 24 24 24) i_x76_2 c_73 (by decide) : In 1 23 x30_2) (by decide)) : In 2 240 ((1 + (24 * x15_1)) + x30_2)) (by decide) : In 0 241 ((1 + (24 * x15_1)) + x30_2)) (by have y := (In_w ((In_add ((In_add (In_lit (n := 1) (by decide) (by decide) : In 1 1 1) ((In_mull i_x30_1 (n := 24) (by decide) (by decide)) : In 0 216 (24 * x15_1)) (by decide)) : In 1 217 (1 + (24 * x15_1))) (R_nle_r (In_lit (n := 24) (by decide) (by decide) : In 24 24 24) i_x76_2 c_73 (by decide) : In 1 23 x30_2) (by decide)) : In 2 240 ((1 + (24 * x15_1)) + x30_2)) (by decide) : In 2 241 ((1 + (24 * x15_1)) + x30_2)); unfold In at y; omega) (In_w ((In_add ((In_add (In_lit (n := 2) (by decide) (by decide) : In 2 2 2) ((In_mull i_x30_1 (n := 24) (by decide) (by decide)) : In 0 216 (24 * x15_1)) (by decide)) : In 2 218 (2 + (24 * x15_1))) (R_nle_r (In_lit (n := 24) (by decide) (by decide) : In 24 24 24) i_x76_2 c_73 (by decide) : In 1 23 x30_2) (by decide)) : In 3 241 ((2 + (24 * x15_1)) + x30_2)) (by decide) : In 2 241 ((2 + (24 * x15_1)) + x30_2)))) (DY_cg (hs_w_74.hA (by decide)) (hs_w_74.2 0 45 (by decide) (by decide)) hdy_76) hP hD hS (lv_sub hl [0, 1, 2] rfl)
          refine lv_iload_n hx hb dX12_give_30 rfl (lv_at hl 2 rfl) ?_
          refine lv_bipush (v := 24) hx hb dX12_give_31 (by decide) ?_
          refine lv_icmp_gt (tgt := 113) hx hb dX12_give_33 (by decide) (fun c_80 => ?_) (fun c_80 => ?_)
          · refine lv_iinc (v := (x15_1 + 1)) (lv' := [(1, .int (x15_1 + 1)), (0, .ref (q 0)), (2, .int x30_2)]) hx hb dX12_give_113 hl (k := 1) rfl (rfl) (by decide) rfl (fun ls hl => ?_)
            refine lv_goto (tgt := 15) hx hb dX12_give_116 (by decide) ?_
            exact ih15 (x15_1 + 1) w30 _ _ ls (mu_inc hmu15 i_x30_1 (In_lit (n := 1) (by decide) (by decide) : In 1 1 1) (by decide)) hW_w30 hM_w30 (In_w ((In_add (y := 1) i_x30_1 (In_lit (n := 1) (by decide) (by decide) : In 1 1 1) (by decide)) : In 1 10 (x15_1 + 1)) (by decide) : In 0 10 (x15_1 + 1)) (by have i0_62 := (hW_w30.fin tM_0 rfl : In 0 2200 (fI w30 0 62)); unfold In at i0_62; have t11 := t_add i_x30_1 (In_lit (n := 1) (by decide) (by decide) : In 1 1 1) (by decide); have z1 : (1 : Int32).toInt = 1 := (by decide); have il1 := ((In_add (y := 1) i_x30_1 (In_lit (n := 1) (by decide) (by decide) : In 1 1 1) (by decide)) : In 1 10 (x15_1 + 1)); unfold In at il1; have im2 := (R_lt_r (In_lit (n := 24) (by decide) (by decide) : In 24 24 24) i_x30_2 c_80 (by decide) : In 25 25 x30_2); unfold In at im2; have iq_x15_1 := i_x30_1; unfold In at iq_x15_1; omega) hlb_30 hdy_30 hP hD hS (lv_sub hl [1, 0] rfl)
          · refine lv_aload_n hx hb dX12_give_36 rfl (lv_at hl 0 rfl) ?_
            refine gt_X12 hx hb hts hown hK hP 0 (hW_w30.o tM_0) 67 (by decide) wd_1468 rfl (hW_w30.fr tM_0 rfl) dX12_give_37 ?_
            refine lv_bipush (v := 25) hx hb dX12_give_40 (by decide) ?_
            refine lv_iload_n hx hb dX12_give_42 rfl (lv_at hl 1 rfl) ?_
            refine lv_imul hx hb dX12_give_43 ?_
            refine lv_iload_n hx hb dX12_give_44 rfl (lv_at hl 2 rfl) ?_
            refine lv_iadd hx hb dX12_give_45 ?_
            refine va_iald hx hb hK hP 46 0 (hW_w30.a tM_46) rfl (in_I ((In_add ((In_mull i_x30_1 (n := 25) (by decide) (by decide)) : In 0 225 (25 * x15_1)) (R_nlt_r (In_lit (n := 24) (by decide) (by decide) : In 24 24 24) i_x30_2 c_80 (by decide) : In 1 24 x30_2) (by decide)) : In 1 249 ((25 * x15_1) + x30_2)) (by decide)) dX12_give_46 ?_
            refine lv_topi (fun v_81 ev_81 => ?_)
            refine lv_if_le (tgt := 76) hx hb dX12_give_47 (by decide) (fun c_82 => ?_) (fun c_82 => ?_)
            · exact J76 w30 _ _ ls hW_w30 hM_w30 i_x30_1 (R_nlt_r (In_lit (n := 24) (by decide) (by decide) : In 24 24 24) i_x30_2 c_80 (by decide) : In 1 24 x30_2) (by have i0_62 := (hW_w30.fin tM_0 rfl : In 0 2200 (fI w30 0 62)); unfold In at i0_62; have il1 := i_x30_1; unfold In at il1; have il2 := (R_nlt_r (In_lit (n := 24) (by decide) (by decide) : In 24 24 24) i_x30_2 c_80 (by decide) : In 1 24 x30_2); unfold In at il2; omega) hlb_30 hdy_30 hP hD hS (lv_sub hl [0, 1, 2] rfl)
            · refine lv_aload_n hx hb dX12_give_50 rfl (lv_at hl 0 rfl) ?_
              refine lv_iconst (v := 0) hx hb dX12_give_51 (by decide) ?_
              refine lv_iconst (v := 1) hx hb dX12_give_52 (by decide) ?_
              refine lv_bipush (v := 24) hx hb dX12_give_53 (by decide) ?_
              refine lv_iload_n hx hb dX12_give_55 rfl (lv_at hl 1 rfl) ?_
              refine lv_imul hx hb dX12_give_56 ?_
              refine lv_iadd hx hb dX12_give_57 ?_
              refine lv_iload_n hx hb dX12_give_58 rfl (lv_at hl 2 rfl) ?_
              refine lv_iadd hx hb dX12_give_59 ?_
              refine lv_aload_n hx hb dX12_give_60 rfl (lv_at hl 0 rfl) ?_
              refine gt_X12 hx hb hts hown hK hP 0 (hW_w30.o tM_0) 67 (by decide) wd_1468 rfl (hW_w30.fr tM_0 rfl) dX12_give_61 ?_
              refine lv_bipush (v := 25) hx hb dX12_give_64 (by decide) ?_
              refine lv_iload_n hx hb dX12_give_66 rfl (lv_at hl 1 rfl) ?_
              refine lv_imul hx hb dX12_give_67 ?_
              refine lv_iload_n hx hb dX12_give_68 rfl (lv_at hl 2 rfl) ?_
              refine lv_iadd hx hb dX12_give_69 ?_
              refine va_iald hx hb hK hP 46 0 (hW_w30.a tM_46) rfl (in_I ((In_add ((In_mull i_x30_1 (n := 25) (by decide) (by decide)) : In 0 225 (25 * x15_1)) (R_nlt_r (In_lit (n := 24) (by decide) (by decide) : In 24 24 24) i_x30_2 c_80 (by decide) : In 1 24 x30_2) (by decide)) : In 1 249 ((25 * x15_1) + x30_2)) (by decide)) dX12_give_70 ?_
              refine tov (v := v_81) ev_81.symm ?_
              refine lv_lconst (v := 0) hx hb dX12_give_71 (by decide) ?_
              refine kW_i ⟨rfl, rfl⟩ hP hD hS hA (rW_V (As := [.int 0, .int ((1 + (24 * x15_1)) + x30_2), .int v_81, .long 0]) (rest := []) hx hb hml hown hts hK hE hP hD (kl_X12_lane l D cI cJ cZ q w30 hW_w30 0 ((1 + (24 * x15_1)) + x30_2) v_81 0 (In_lit (n := 0) (by decide) (by decide) : In 0 282 0) (In_w ((In_add ((In_add (In_lit (n := 1) (by decide) (by decide) : In 1 1 1) ((In_mull i_x30_1 (n := 24) (by decide) (by decide)) : In 0 216 (24 * x15_1)) (by decide)) : In 1 217 (1 + (24 * x15_1))) (R_nlt_r (In_lit (n := 24) (by decide) (by decide) : In 24 24 24) i_x30_2 c_80 (by decide) : In 1 24 x30_2) (by decide)) : In 2 241 ((1 + (24 * x15_1)) + x30_2)) (by decide) : In 1 282 ((1 + (24 * x15_1)) + x30_2)) (by have q0 := (hW_w30.fin tM_0 rfl : In 0 2200 (fI w30 0 62)); have q1 := i_x30_1; have q2 := (R_nlt_r (In_lit (n := 24) (by decide) (by decide) : In 24 24 24) i_x30_2 c_80 (by decide) : In 1 24 x30_2); unfold In at q0 q1 q2 ⊢; omega : In 0 2198 (fI w30 0 62)) _) ⟨⟨rfl, rfl⟩, rfl, rfl⟩ sv_X12_536 ⟨(Nat.le_trans (by decide) hR.1), (Nat.le_trans (by decide) hR.2)⟩ 0 12 (hW_w30.o tM_0) rfl rfl rfl hl.1 rfl (Nat.le_of_ble_eq_true rfl) dX12_give_72) (fun r_84 w_83 H locs hw_w_83 hP hD hS => ?_)
              obtain ⟨hW_w_83, hs_w_83, i_r_84, h_85, h_86, h_87, h_88⟩ := hw_w_83
              have n_h_86 : (fI w_83 0 62).toInt = ((fI w30 0 62) : Int32).toInt + 2 := (by have q := h_86; omega)
              refine lv_pop hx hb dX12_give_75 rfl ?_
              exact J76 w_83 _ _ ls hW_w_83 (hM_w30.tr hs_w_83 (by decide)) i_x30_1 (R_nlt_r (In_lit (n := 24) (by decide) (by decide) : In 24 24 24) i_x30_2 c_80 (by decide) : In 1 24 x30_2) (by have i0_62 := h_85; unfold In at i0_62; have il1 := i_x30_1; unfold In at il1; have il2 := (R_nlt_r (In_lit (n := 24) (by decide) (by decide) : In 24 24 24) i_x30_2 c_80 (by decide) : In 1 24 x30_2); unfold In at il2; omega) (h_88 hlb_30 (ok_1 (In_lit (n := 0) (by decide) (by decide) : In 0 241 0) (by decide) ((In_add ((In_add (In_lit (n := 1) (by decide) (by decide) : In 1 1 1) ((In_mull i_x30_1 (n := 24) (by decide) (by decide)) : In 0 216 (24 * x15_1)) (by decide)) : In 1 217 (1 + (24 * x15_1))) (R_nlt_r (In_lit (n := 24) (by decide) (by decide) : In 24 24 24) i_x30_2 c_80 (by decide) : In 1 24 x30_2) (by decide)) : In 2 241 ((1 + (24 * x15_1)) + x30_2)))) (DY_cg (hs_w_83.hA (by decide)) (hs_w_83.2 0 45 (by decide) (by decide)) hdy_30) hP hD hS (lv_sub hl [0, 1, 2] rfl)
      refine lv_iload_n hx hb dX12_give_15 rfl (lv_at hl 1 rfl) ?_
      refine lv_aload_n hx hb dX12_give_16 rfl (lv_at hl 0 rfl) ?_
      refine gt_X12 hx hb hts hown hK hP 0 (hW_w15.o tM_0) 14 (by decide) wd_1415 rfl (hW_w15.fr tM_0 rfl) dX12_give_17 ?_
      refine lv_aload_n hx hb dX12_give_20 rfl (lv_at hl 0 rfl) ?_
      refine gt_X12 hx hb hts hown hK hP 0 (hW_w15.o tM_0) 12 (by decide) wd_1413 rfl (hW_w15.fi tM_0 rfl) dX12_give_21 ?_
      refine tov (v := (fI w 0 12)) (hM_w15.2 0 12 (by decide) (by decide)) ?_
      refine va_iald hx hb hK hP 2 0 (hW_w15.a tM_2) rfl (in_I (hW_w.fin tM_0 rfl : In 0 1 (fI w 0 12)) (by decide)) dX12_give_24 ?_
      refine lv_topi (fun v_89 ev_89 => ?_)
      refine lv_icmp_ge (tgt := 119) hx hb dX12_give_25 (by decide) (fun c_90 => ?_) (fun c_90 => ?_)
      · refine lv_iconst (v := 0) hx hb dX12_give_119 (by decide) ?_
        refine lv_istore_n (lv' := [(1, .int 0), (0, .ref (q 0))]) hx hb dX12_give_120 rfl hl (by decide) rfl (fun ls hl => ?_)
        exact J121 _ 0 w15 _ _ ls (Nat.lt_succ_self _) hW_w15 hM_w15 (In_lit (n := 0) (by decide) (by decide) : In 0 400 0) (by have i0_62 := (hW_w15.fin tM_0 rfl : In 0 2200 (fI w15 0 62)); unfold In at i0_62; have iq_x15_1 := i_x15_1; unfold In at iq_x15_1; omega) hlb_15 hdy_15 (fun i h => absurd h (by rw [show (0 : Int32).toInt = 0 from by decide]; omega)) hP hD hS (lv_sub hl [1, 0] rfl)
      · refine lv_iconst (v := 1) hx hb dX12_give_28 (by decide) ?_
        refine lv_istore_n (lv' := [(2, .int 1), (0, .ref (q 0)), (1, .int x15_1)]) hx hb dX12_give_29 rfl hl (by decide) rfl (fun ls hl => ?_)
        exact J30 _ 1 w15 _ _ ls (Nat.lt_succ_self _) hW_w15 hM_w15 (R_nle_r (In_of ev_89 (hW_w15.ap tM_2 _) : In 0 10 v_89) i_x15_1 c_90 (by decide) : In 0 9 x15_1) (In_lit (n := 1) (by decide) (by decide) : In 1 25 1) (by have i0_62 := (hW_w15.fin tM_0 rfl : In 0 2200 (fI w15 0 62)); unfold In at i0_62; have il1 := (R_nle_r (In_of ev_89 (hW_w15.ap tM_2 _) : In 0 10 v_89) i_x15_1 c_90 (by decide) : In 0 9 x15_1); unfold In at il1; have z1 : (1 : Int32).toInt = 1 := (by decide); omega) hlb_15 hdy_15 hP hD hS (lv_sub hl [1, 2, 0] rfl)
  refine lv_aload_n hx hb dX12_give_0 rfl (lv_at hl 0 rfl) ?_
  refine kW_v ⟨rfl, rfl⟩ hP hD hS hA (rW_V (As := []) (rest := []) hx hb hml hown hts hK hE hP hD (k_X12_knows l D cI cJ cZ q w hW_w (LM_cg rfl rfl hLM) _) ⟨⟨rfl, rfl⟩, rfl, rfl⟩ sv_X12_471 ⟨(Nat.le_trans (by decide) hR.1), (Nat.le_trans (by decide) hR.2)⟩ 0 12 (hW_w.o tM_0) rfl rfl rfl hl.1 rfl (Nat.le_of_ble_eq_true rfl) dX12_give_1) (fun w_91 H locs hw_w_91 hP hD hS => ?_)
  obtain ⟨hW_w_91, hs_w_91, h_93⟩ := hw_w_91
  refine lv_aload_n hx hb dX12_give_4 rfl (lv_at hl 0 rfl) ?_
  refine kW_v ⟨rfl, rfl⟩ hP hD hS hA (rW_V (As := []) (rest := []) hx hb hml hown hts hK hE hP hD (k_X12_arrives l D cI cJ cZ q w_91 hW_w_91 (LM_cg (hs_w_91.hA (by decide)) (hs_w_91.hA (by decide)) hLM) _) ⟨⟨rfl, rfl⟩, rfl, rfl⟩ sv_X12_533 ⟨(Nat.le_trans (by decide) hR.1), (Nat.le_trans (by decide) hR.2)⟩ 0 12 (hW_w_91.o tM_0) rfl rfl rfl hl.1 rfl (Nat.le_of_ble_eq_true rfl) dX12_give_5) (fun w_94 H locs hw_w_94 hP hD hS => ?_)
  obtain ⟨hW_w_94, hs_w_94⟩ := hw_w_94
  refine lv_aload_n hx hb dX12_give_8 rfl (lv_at hl 0 rfl) ?_
  refine lv_iconst (v := 0) hx hb dX12_give_9 (by decide) ?_
  refine pt_X12 hx hb hts hown hK hP hD hS 0 (hW_w_94.o tM_0) 62 (by decide) wd_1463 rfl rfl (ty := .int) (v := .int 0) (by decide +kernel) rfl rfl (hW_w_94.ll tM_0 (Nat.le_of_ble_eq_true rfl)) dX12_give_10 (fun H locs hP hD hS => fr_w (hW_w_94.sI tM_0 rfl (In_lit (n := 0) (by decide) (by decide) : In 0 2200 0)) hP hD (fun w_96 ew_96 hW_w_96 hP hD => ?_))
  refine lv_iconst (v := 0) hx hb dX12_give_13 (by decide) ?_
  refine lv_istore_n (lv' := [(1, .int 0), (0, .ref (q 0))]) hx hb dX12_give_14 rfl hl (by decide) rfl (fun ls hl => ?_)
  exact J15 _ 0 w_96 _ _ ls (Nat.lt_succ_self _) hW_w_96 (((Sm.rf.tr hs_w_91 (by decide)).tr hs_w_94 (by decide)).sf (hW_w_94.lt tM_0) ew_96 (by decide)) (In_lit (n := 0) (by decide) (by decide) : In 0 10 0) (by have e0_62 : (fI w_96 0 62).toInt = (0 : Int32).toInt := congrArg Int32.toInt (fI_eq (hW_w_94.lt tM_0) ew_96 (hW_w_94.ll tM_0 (Nat.le_of_ble_eq_true rfl))); have z0 : (0 : Int32).toInt = 0 := (by decide); have z0 : (0 : Int32).toInt = 0 := (by decide); omega) (LB_0 (fI_eq (hW_w_94.lt tM_0) ew_96 (hW_w_94.ll tM_0 (Nat.le_of_ble_eq_true rfl)))) (DY_cg ((aF_cg (st_ne ew_96 (by decide))).trans (hs_w_94.hA (by decide))) ((fI_nej (hW_w_94.lt tM_0) ew_96 (by decide)).trans (hs_w_94.gI (by decide))) (h_93 hLY)) hP hD hS (lv_sub hl [1, 0] rfl)
