set_option maxRecDepth 100000 in
set_option maxHeartbeats 8000000 in
theorem k_X12_tells (l : Launch) (D : va_G) (cI cJ cZ : ClassId) (q : Nat → Nat) (w : va_W) (hW_w : HT q (TM q cI cJ cZ) w) (p1 : Int32) (p2 : Int32) (p3 : Int32) (p4 : Int32) (p5 : Int32) (p6 : Int32) (i_p1 : In 0 3 p1) (i_p2 : In 0 9999 p2) (i_p3 : In 0 24 p3) (i_p4 : In 0 99 p4) (i_p5 : In 0 999 p5) (i_p6 : In 0 24 p6) (hf_0_37 : In 0 199 (fI w 0 37)) : Con_i l yX12_tells cX12_tells 7 (some .int) ({ frames := 0, cells := 0, slots := 0, locals := 0 }) D cI cJ cZ eW [.ref (q 0), .int p1, .int p2, .int p3, .int p4, .int p5, .int p6] w (fun (r : Int32) (w1 : va_W) => HT q (TM q cI cJ cZ) w1 ∧ Sm [0, 21, 22, 23] [(0, 37)] w w1 ∧ In 1 200 r ∧ In 1 200 (fI w1 0 37) ∧ ((LM w → okM p1 p2 p3 p6 → LM w1)) ∧ ((LY w → (p1 = 0 → 1 ≤ p6.toInt) → LY w1))) := by
  refine eQ_i rfl (by decide) (Nat.le_of_ble_eq_true rfl) ⟨rfl, rfl⟩ ?_
  intro p e R s m args below meth c A Q hx hb hml hown hts hK hE hA hR hret hP hD hS ls hl
  have hown : s.vm.findClass RX12 = some m.cls := hown
  have hl : lv_has ls 7 [(0, .ref (q 0)), (1, .int p1), (2, .int p2), (3, .int p3), (4, .int p4), (5, .int p5), (6, .int p6)] := hl
  refine lv_aload_n hx hb dX12_tells_0 rfl (lv_at hl 0 rfl) ?_
  refine lv_dup hx hb dX12_tells_1 rfl ?_
  refine gt_X12 hx hb hts hown hK hP 0 (hW_w.o tM_0) 37 (by decide) wd_1438 rfl (hW_w.fi tM_0 rfl) dX12_tells_2 ?_
  refine lv_iconst (v := 1) hx hb dX12_tells_5 (by decide) ?_
  refine lv_iadd hx hb dX12_tells_6 ?_
  refine pt_X12 hx hb hts hown hK hP hD hS 0 (hW_w.o tM_0) 37 (by decide) wd_1438 rfl rfl (ty := .int) (v := .int ((fI w 0 37) + 1)) (by decide +kernel) rfl rfl (hW_w.ll tM_0 (Nat.le_of_ble_eq_true rfl)) dX12_tells_7 (fun H locs hP hD hS => fr_w (hW_w.sI tM_0 rfl (In_w ((In_add hf_0_37 (In_lit (n := 1) (by decide) (by decide) : In 1 1 1) (by decide)) : In 1 200 ((fI w 0 37) + 1)) (by decide) : In 0 200 ((fI w 0 37) + 1))) hP hD (fun w_1 ew_1 hW_w_1 hP hD => ?_))
  refine lv_aload_n hx hb dX12_tells_10 rfl (lv_at hl 0 rfl) ?_
  refine gt_X12 hx hb hts hown hK hP 0 (hW_w_1.o tM_0) 40 (by decide) wd_1441 rfl (hW_w_1.fr tM_0 rfl) dX12_tells_11 ?_
  refine lv_aload_n hx hb dX12_tells_14 rfl (lv_at hl 0 rfl) ?_
  refine gt_X12 hx hb hts hown hK hP 0 (hW_w_1.o tM_0) 37 (by decide) wd_1438 rfl (hW_w_1.fi tM_0 rfl) dX12_tells_15 ?_
  refine tov (v := ((fI w 0 37) + 1)) (fI_eq (hW_w.lt tM_0) ew_1 (hW_w.ll tM_0 (Nat.le_of_ble_eq_true rfl))) ?_
  refine lv_iload_n hx hb dX12_tells_18 rfl (lv_at hl 1 rfl) ?_
  refine va_iast hx hb hK hP hD hS 21 0 (hW_w_1.a tM_21) rfl (in_I ((In_add hf_0_37 (In_lit (n := 1) (by decide) (by decide) : In 1 1 1) (by decide)) : In 1 200 ((fI w 0 37) + 1)) (by decide)) dX12_tells_19 (fun H locs hP hD hS => fr_w (hW_w_1.uA tM_21 (In_w i_p1 (by decide) : In (-2147483648) 2147483647 p1)) hP hD (fun w_2 ew_2 hW_w_2 hP hD => ?_))
  refine lv_aload_n hx hb dX12_tells_20 rfl (lv_at hl 0 rfl) ?_
  refine gt_X12 hx hb hts hown hK hP 0 (hW_w_2.o tM_0) 42 (by decide) wd_1443 rfl (hW_w_2.fr tM_0 rfl) dX12_tells_21 ?_
  refine lv_aload_n hx hb dX12_tells_24 rfl (lv_at hl 0 rfl) ?_
  refine gt_X12 hx hb hts hown hK hP 0 (hW_w_2.o tM_0) 37 (by decide) wd_1438 rfl (hW_w_2.fi tM_0 rfl) dX12_tells_25 ?_
  refine tov (v := ((fI w 0 37) + 1)) ((fI_cg (st_ne ew_2 (by decide))).trans (fI_eq (hW_w.lt tM_0) ew_1 (hW_w.ll tM_0 (Nat.le_of_ble_eq_true rfl)))) ?_
  refine lv_iconst (v := 0) hx hb dX12_tells_28 (by decide) ?_
  refine va_iast hx hb hK hP hD hS 23 0 (hW_w_2.a tM_23) rfl (in_I ((In_add hf_0_37 (In_lit (n := 1) (by decide) (by decide) : In 1 1 1) (by decide)) : In 1 200 ((fI w 0 37) + 1)) (by decide)) dX12_tells_29 (fun H locs hP hD hS => fr_w (hW_w_2.uA tM_23 (In_lit (n := 0) (by decide) (by decide) : In (-2147483648) 2147483647 0)) hP hD (fun w_3 ew_3 hW_w_3 hP hD => ?_))
  refine lv_aload_n hx hb dX12_tells_30 rfl (lv_at hl 0 rfl) ?_
  refine gt_X12 hx hb hts hown hK hP 0 (hW_w_3.o tM_0) 41 (by decide) wd_1442 rfl (hW_w_3.fr tM_0 rfl) dX12_tells_31 ?_
  refine lv_iconst (v := 5) hx hb dX12_tells_34 (by decide) ?_
  refine lv_aload_n hx hb dX12_tells_35 rfl (lv_at hl 0 rfl) ?_
  refine gt_X12 hx hb hts hown hK hP 0 (hW_w_3.o tM_0) 37 (by decide) wd_1438 rfl (hW_w_3.fi tM_0 rfl) dX12_tells_36 ?_
  refine tov (v := ((fI w 0 37) + 1)) ((fI_cg (st_ne ew_3 (by decide))).trans ((fI_cg (st_ne ew_2 (by decide))).trans (fI_eq (hW_w.lt tM_0) ew_1 (hW_w.ll tM_0 (Nat.le_of_ble_eq_true rfl))))) ?_
  refine lv_imul hx hb dX12_tells_39 ?_
  refine lv_iload_n hx hb dX12_tells_40 rfl (lv_at hl 2 rfl) ?_
  refine va_iast hx hb hK hP hD hS 22 0 (hW_w_3.a tM_22) rfl (in_I ((In_mull ((In_add hf_0_37 (In_lit (n := 1) (by decide) (by decide) : In 1 1 1) (by decide)) : In 1 200 ((fI w 0 37) + 1)) (n := 5) (by decide) (by decide)) : In 5 1000 (5 * ((fI w 0 37) + 1))) (by decide)) dX12_tells_41 (fun H locs hP hD hS => fr_w (hW_w_3.uA tM_22 (In_w i_p2 (by decide) : In (-2147483648) 2147483647 p2)) hP hD (fun w_4 ew_4 hW_w_4 hP hD => ?_))
  refine lv_aload_n hx hb dX12_tells_42 rfl (lv_at hl 0 rfl) ?_
  refine gt_X12 hx hb hts hown hK hP 0 (hW_w_4.o tM_0) 41 (by decide) wd_1442 rfl (hW_w_4.fr tM_0 rfl) dX12_tells_43 ?_
  refine lv_iconst (v := 5) hx hb dX12_tells_46 (by decide) ?_
  refine lv_aload_n hx hb dX12_tells_47 rfl (lv_at hl 0 rfl) ?_
  refine gt_X12 hx hb hts hown hK hP 0 (hW_w_4.o tM_0) 37 (by decide) wd_1438 rfl (hW_w_4.fi tM_0 rfl) dX12_tells_48 ?_
  refine tov (v := ((fI w 0 37) + 1)) ((fI_cg (st_ne ew_4 (by decide))).trans ((fI_cg (st_ne ew_3 (by decide))).trans ((fI_cg (st_ne ew_2 (by decide))).trans (fI_eq (hW_w.lt tM_0) ew_1 (hW_w.ll tM_0 (Nat.le_of_ble_eq_true rfl)))))) ?_
  refine lv_imul hx hb dX12_tells_51 ?_
  refine lv_iconst (v := 1) hx hb dX12_tells_52 (by decide) ?_
  refine lv_iadd hx hb dX12_tells_53 ?_
  refine lv_iload_n hx hb dX12_tells_54 rfl (lv_at hl 3 rfl) ?_
  refine va_iast hx hb hK hP hD hS 22 0 (hW_w_4.a tM_22) rfl (in_I ((In_add ((In_mull ((In_add hf_0_37 (In_lit (n := 1) (by decide) (by decide) : In 1 1 1) (by decide)) : In 1 200 ((fI w 0 37) + 1)) (n := 5) (by decide) (by decide)) : In 5 1000 (5 * ((fI w 0 37) + 1))) (In_lit (n := 1) (by decide) (by decide) : In 1 1 1) (by decide)) : In 6 1001 ((5 * ((fI w 0 37) + 1)) + 1)) (by decide)) dX12_tells_55 (fun H locs hP hD hS => fr_w (hW_w_4.uA tM_22 (In_w i_p3 (by decide) : In (-2147483648) 2147483647 p3)) hP hD (fun w_5 ew_5 hW_w_5 hP hD => ?_))
  refine lv_aload_n hx hb dX12_tells_56 rfl (lv_at hl 0 rfl) ?_
  refine gt_X12 hx hb hts hown hK hP 0 (hW_w_5.o tM_0) 41 (by decide) wd_1442 rfl (hW_w_5.fr tM_0 rfl) dX12_tells_57 ?_
  refine lv_iconst (v := 5) hx hb dX12_tells_60 (by decide) ?_
  refine lv_aload_n hx hb dX12_tells_61 rfl (lv_at hl 0 rfl) ?_
  refine gt_X12 hx hb hts hown hK hP 0 (hW_w_5.o tM_0) 37 (by decide) wd_1438 rfl (hW_w_5.fi tM_0 rfl) dX12_tells_62 ?_
  refine tov (v := ((fI w 0 37) + 1)) ((fI_cg (st_ne ew_5 (by decide))).trans ((fI_cg (st_ne ew_4 (by decide))).trans ((fI_cg (st_ne ew_3 (by decide))).trans ((fI_cg (st_ne ew_2 (by decide))).trans (fI_eq (hW_w.lt tM_0) ew_1 (hW_w.ll tM_0 (Nat.le_of_ble_eq_true rfl))))))) ?_
  refine lv_imul hx hb dX12_tells_65 ?_
  refine lv_iconst (v := 2) hx hb dX12_tells_66 (by decide) ?_
  refine lv_iadd hx hb dX12_tells_67 ?_
  refine lv_iload hx hb dX12_tells_68 (lv_at hl 4 rfl) ?_
  refine va_iast hx hb hK hP hD hS 22 0 (hW_w_5.a tM_22) rfl (in_I ((In_add ((In_mull ((In_add hf_0_37 (In_lit (n := 1) (by decide) (by decide) : In 1 1 1) (by decide)) : In 1 200 ((fI w 0 37) + 1)) (n := 5) (by decide) (by decide)) : In 5 1000 (5 * ((fI w 0 37) + 1))) (In_lit (n := 2) (by decide) (by decide) : In 2 2 2) (by decide)) : In 7 1002 ((5 * ((fI w 0 37) + 1)) + 2)) (by decide)) dX12_tells_70 (fun H locs hP hD hS => fr_w (hW_w_5.uA tM_22 (In_w i_p4 (by decide) : In (-2147483648) 2147483647 p4)) hP hD (fun w_6 ew_6 hW_w_6 hP hD => ?_))
  refine lv_aload_n hx hb dX12_tells_71 rfl (lv_at hl 0 rfl) ?_
  refine gt_X12 hx hb hts hown hK hP 0 (hW_w_6.o tM_0) 41 (by decide) wd_1442 rfl (hW_w_6.fr tM_0 rfl) dX12_tells_72 ?_
  refine lv_iconst (v := 5) hx hb dX12_tells_75 (by decide) ?_
  refine lv_aload_n hx hb dX12_tells_76 rfl (lv_at hl 0 rfl) ?_
  refine gt_X12 hx hb hts hown hK hP 0 (hW_w_6.o tM_0) 37 (by decide) wd_1438 rfl (hW_w_6.fi tM_0 rfl) dX12_tells_77 ?_
  refine tov (v := ((fI w 0 37) + 1)) ((fI_cg (st_ne ew_6 (by decide))).trans ((fI_cg (st_ne ew_5 (by decide))).trans ((fI_cg (st_ne ew_4 (by decide))).trans ((fI_cg (st_ne ew_3 (by decide))).trans ((fI_cg (st_ne ew_2 (by decide))).trans (fI_eq (hW_w.lt tM_0) ew_1 (hW_w.ll tM_0 (Nat.le_of_ble_eq_true rfl)))))))) ?_
  refine lv_imul hx hb dX12_tells_80 ?_
  refine lv_iconst (v := 3) hx hb dX12_tells_81 (by decide) ?_
  refine lv_iadd hx hb dX12_tells_82 ?_
  refine lv_iload hx hb dX12_tells_83 (lv_at hl 5 rfl) ?_
  refine va_iast hx hb hK hP hD hS 22 0 (hW_w_6.a tM_22) rfl (in_I ((In_add ((In_mull ((In_add hf_0_37 (In_lit (n := 1) (by decide) (by decide) : In 1 1 1) (by decide)) : In 1 200 ((fI w 0 37) + 1)) (n := 5) (by decide) (by decide)) : In 5 1000 (5 * ((fI w 0 37) + 1))) (In_lit (n := 3) (by decide) (by decide) : In 3 3 3) (by decide)) : In 8 1003 ((5 * ((fI w 0 37) + 1)) + 3)) (by decide)) dX12_tells_85 (fun H locs hP hD hS => fr_w (hW_w_6.uA tM_22 (In_w i_p5 (by decide) : In (-2147483648) 2147483647 p5)) hP hD (fun w_7 ew_7 hW_w_7 hP hD => ?_))
  refine lv_aload_n hx hb dX12_tells_86 rfl (lv_at hl 0 rfl) ?_
  refine gt_X12 hx hb hts hown hK hP 0 (hW_w_7.o tM_0) 41 (by decide) wd_1442 rfl (hW_w_7.fr tM_0 rfl) dX12_tells_87 ?_
  refine lv_iconst (v := 5) hx hb dX12_tells_90 (by decide) ?_
  refine lv_aload_n hx hb dX12_tells_91 rfl (lv_at hl 0 rfl) ?_
  refine gt_X12 hx hb hts hown hK hP 0 (hW_w_7.o tM_0) 37 (by decide) wd_1438 rfl (hW_w_7.fi tM_0 rfl) dX12_tells_92 ?_
  refine tov (v := ((fI w 0 37) + 1)) ((fI_cg (st_ne ew_7 (by decide))).trans ((fI_cg (st_ne ew_6 (by decide))).trans ((fI_cg (st_ne ew_5 (by decide))).trans ((fI_cg (st_ne ew_4 (by decide))).trans ((fI_cg (st_ne ew_3 (by decide))).trans ((fI_cg (st_ne ew_2 (by decide))).trans (fI_eq (hW_w.lt tM_0) ew_1 (hW_w.ll tM_0 (Nat.le_of_ble_eq_true rfl))))))))) ?_
  refine lv_imul hx hb dX12_tells_95 ?_
  refine lv_iconst (v := 4) hx hb dX12_tells_96 (by decide) ?_
  refine lv_iadd hx hb dX12_tells_97 ?_
  refine lv_iload hx hb dX12_tells_98 (lv_at hl 6 rfl) ?_
  refine va_iast hx hb hK hP hD hS 22 0 (hW_w_7.a tM_22) rfl (in_I ((In_add ((In_mull ((In_add hf_0_37 (In_lit (n := 1) (by decide) (by decide) : In 1 1 1) (by decide)) : In 1 200 ((fI w 0 37) + 1)) (n := 5) (by decide) (by decide)) : In 5 1000 (5 * ((fI w 0 37) + 1))) (In_lit (n := 4) (by decide) (by decide) : In 4 4 4) (by decide)) : In 9 1004 ((5 * ((fI w 0 37) + 1)) + 4)) (by decide)) dX12_tells_100 (fun H locs hP hD hS => fr_w (hW_w_7.uA tM_22 (In_w i_p6 (by decide) : In (-2147483648) 2147483647 p6)) hP hD (fun w_8 ew_8 hW_w_8 hP hD => ?_))
  refine lv_aload_n hx hb dX12_tells_101 rfl (lv_at hl 0 rfl) ?_
  refine gt_X12 hx hb hts hown hK hP 0 (hW_w_8.o tM_0) 37 (by decide) wd_1438 rfl (hW_w_8.fi tM_0 rfl) dX12_tells_102 ?_
  refine tov (v := ((fI w 0 37) + 1)) ((fI_cg (st_ne ew_8 (by decide))).trans ((fI_cg (st_ne ew_7 (by decide))).trans ((fI_cg (st_ne ew_6 (by decide))).trans ((fI_cg (st_ne ew_5 (by decide))).trans ((fI_cg (st_ne ew_4 (by decide))).trans ((fI_cg (st_ne ew_3 (by decide))).trans ((fI_cg (st_ne ew_2 (by decide))).trans (fI_eq (hW_w.lt tM_0) ew_1 (hW_w.ll tM_0 (Nat.le_of_ble_eq_true rfl)))))))))) ?_
  exact hret _ _ _ _ _ _ hP hD hS dX12_tells_105 ⟨hW_w_8, ((((((((Sm.rf.sf (hW_w.lt tM_0) ew_1 (by decide)).sa ew_2 (by decide)).sa ew_3 (by decide)).sa ew_4 (by decide)).sa ew_5 (by decide)).sa ew_6 (by decide)).sa ew_7 (by decide)).sa ew_8 (by decide)), ((In_add hf_0_37 (In_lit (n := 1) (by decide) (by decide) : In 1 1 1) (by decide)) : In 1 200 ((fI w 0 37) + 1)), (In_of ((fI_cg (st_ne ew_8 (by decide))).trans ((fI_cg (st_ne ew_7 (by decide))).trans ((fI_cg (st_ne ew_6 (by decide))).trans ((fI_cg (st_ne ew_5 (by decide))).trans ((fI_cg (st_ne ew_4 (by decide))).trans ((fI_cg (st_ne ew_3 (by decide))).trans ((fI_cg (st_ne ew_2 (by decide))).trans (fI_eq (hW_w.lt tM_0) ew_1 (hW_w.ll tM_0 (Nat.le_of_ble_eq_true rfl)))))))))) ((In_add hf_0_37 (In_lit (n := 1) (by decide) (by decide) : In 1 1 1) (by decide)) : In 1 200 ((fI w 0 37) + 1))), (fun hL hk => LM_add (a0 := (fI w 0 37) + 1) ((In_add hf_0_37 (In_lit (n := 1) (by decide) (by decide) : In 1 1 1) (by decide)) : In 1 200 ((fI w 0 37) + 1)) (t := p1) (x := p2) (y := p3) (z := p4) (u := p5) (v := p6) (by rw [(aF_cg (st_ne ew_8 (by decide))), (aF_cg (st_ne ew_7 (by decide))), (aF_cg (st_ne ew_6 (by decide))), (aF_cg (st_ne ew_5 (by decide))), (aF_cg (st_ne ew_4 (by decide))), (aF_cg (st_ne ew_3 (by decide))), (aF_eq (hW_w_1.lt tM_21) ew_2), (aF_cg (st_ne ew_1 (by decide)))]) (by rw [(aF_eq (hW_w_7.lt tM_22) ew_8), (aF_eq (hW_w_6.lt tM_22) ew_7), (aF_eq (hW_w_5.lt tM_22) ew_6), (aF_eq (hW_w_4.lt tM_22) ew_5), (aF_eq (hW_w_3.lt tM_22) ew_4), (aF_cg (st_ne ew_3 (by decide))), (aF_cg (st_ne ew_2 (by decide))), (aF_cg (st_ne ew_1 (by decide)))]) hL hk), (fun hL hk => LY_add (a0 := (fI w 0 37) + 1) ((In_add hf_0_37 (In_lit (n := 1) (by decide) (by decide) : In 1 1 1) (by decide)) : In 1 200 ((fI w 0 37) + 1)) (by have t17 := t_add hf_0_37 (In_lit (n := 1) (by decide) (by decide) : In 1 1 1) (by decide); have z1 : (1 : Int32).toInt = 1 := (by decide); omega) ((fI_cg (st_ne ew_8 (by decide))).trans ((fI_cg (st_ne ew_7 (by decide))).trans ((fI_cg (st_ne ew_6 (by decide))).trans ((fI_cg (st_ne ew_5 (by decide))).trans ((fI_cg (st_ne ew_4 (by decide))).trans ((fI_cg (st_ne ew_3 (by decide))).trans ((fI_cg (st_ne ew_2 (by decide))).trans (fI_eq (hW_w.lt tM_0) ew_1 (hW_w.ll tM_0 (Nat.le_of_ble_eq_true rfl)))))))))) (t := p1) (x := p2) (y := p3) (z := p4) (u := p5) (v := p6) (by rw [(aF_cg (st_ne ew_8 (by decide))), (aF_cg (st_ne ew_7 (by decide))), (aF_cg (st_ne ew_6 (by decide))), (aF_cg (st_ne ew_5 (by decide))), (aF_cg (st_ne ew_4 (by decide))), (aF_cg (st_ne ew_3 (by decide))), (aF_eq (hW_w_1.lt tM_21) ew_2), (aF_cg (st_ne ew_1 (by decide)))]) (by rw [(aF_eq (hW_w_7.lt tM_22) ew_8), (aF_eq (hW_w_6.lt tM_22) ew_7), (aF_eq (hW_w_5.lt tM_22) ew_6), (aF_eq (hW_w_4.lt tM_22) ew_5), (aF_eq (hW_w_3.lt tM_22) ew_4), (aF_cg (st_ne ew_3 (by decide))), (aF_cg (st_ne ew_2 (by decide))), (aF_cg (st_ne ew_1 (by decide)))]) hL hk)⟩
set_option maxRecDepth 100000 in
set_option maxHeartbeats 8000000 in
theorem k_X12_report (l : Launch) (D : va_G) (cI cJ cZ : ClassId) (q : Nat → Nat) (w : va_W) (hW_w : HT q (TM q cI cJ cZ) w) (p1 : Int32) (p2 : Int32) (p3 : Int32) (p4 : Int32) (p5 : Int32) : Con_i l yX12_report cX12_report 10 (some .int) ({ frames := 3, cells := 0, slots := 0, locals := 67 }) D cI cJ cZ eW [.ref (q 0), .int p1, .int p2, .int p3, .int p4, .int p5] w (fun (r : Int32) (w1 : va_W) => HT q (TM q cI cJ cZ) w1 ∧ Sm [0, 21, 22, 23, 24, 25] [(0, 1), (0, 2), (0, 3), (0, 4), (0, 5), (0, 6), (0, 7), (0, 8), (0, 9), (0, 37), (0, 38)] w w1 ∧ In (-1) 200 r ∧ In 0 0 (fI w1 0 1) ∧ ((LM w → LM w1)) ∧ ((LY w → LY w1))) := by
  refine eQ_i rfl (by decide) (Nat.le_of_ble_eq_true rfl) ⟨rfl, rfl⟩ ?_
  intro p e R s m args below meth c A Q hx hb hml hown hts hK hE hA hR hret hP hD hS ls hl
  have hown : s.vm.findClass RX12 = some m.cls := hown
  have hl : lv_has ls 10 [(0, .ref (q 0)), (1, .int p1), (2, .int p2), (3, .int p3), (4, .int p4), (5, .int p5)] := hl
  have J207 : ∀ (N : Nat) (x207_6 : Int32) (x207_7 : Int32) (x207_8 : Int32) (x207_9 : Int32) (w207 : va_W) (H : Heap) (locs : List Loc) (ls : Array Slot), (3 - x207_9.toInt).toNat < N → HT q (TM q cI cJ cZ) w207 → Sm [0, 21, 22, 23, 24, 25] [(0, 1), (0, 2), (0, 3), (0, 4), (0, 5), (0, 6), (0, 7), (0, 8), (0, 9), (0, 37), (0, 38)] w w207 → (In 0 9999 p1) → (In 0 17 p2) → (In 0 99 p3) → (In 0 999 p4) → (In 1 24 p5) → (In 0 3 x207_6) → (In 1 1 x207_7) → (In 1 200 x207_8) → (In 0 3 x207_9) → (In 0 0 (fI w207 0 1)) → (In 0 0 (fI w207 0 8)) → (In 1 200 (fI w207 0 37)) → (LM w → LM w207) → (LY w → LY w207) → va_P D vwCl w207 H → va_D A w207 → va_S A s.heap H locs → lv_has ls 10 [(0, .ref (q 0)), (1, .int p1), (2, .int p2), (3, .int p3), (4, .int p4), (5, .int p5), (6, .int x207_6), (7, .int x207_7), (8, .int x207_8), (9, .int x207_9)] → W p l e R s m args below meth c H locs 0 0 Q (F0 m 207 ls []) := by
    intro N
    induction N with
    | zero => intro x207_6 x207_7 x207_8 x207_9 w207 H locs ls hmu; exact absurd hmu (Nat.not_lt_zero _)
    | succ N ih207 =>
      intro x207_6 x207_7 x207_8 x207_9 w207 H locs ls hmu207 hW_w207 hM_w207 i_x207_1 i_x207_2 i_x207_3 i_x207_4 i_x207_5 i_x207_6 i_x207_7 i_x207_8 i_x207_9 g207_0_1 g207_0_8 g207_0_37 hl_207 hy_207 hP hD hS hl
      refine lv_iload hx hb dX12_report_207 (lv_at hl 9 rfl) ?_
      refine lv_iconst (v := 3) hx hb dX12_report_209 (by decide) ?_
      refine lv_icmp_ge (tgt := 249) hx hb dX12_report_210 (by decide) (fun c_1 => ?_) (fun c_1 => ?_)
      · refine lv_iload hx hb dX12_report_249 (lv_at hl 8 rfl) ?_
        exact hret _ _ _ _ _ _ hP hD hS dX12_report_251 ⟨hW_w207, hM_w207, (In_w i_x207_8 (by decide) : In (-1) 200 x207_8), g207_0_1, (fun hL => (hl_207 hL)), (fun hL => (hy_207 hL))⟩
      · refine lv_aload_n hx hb dX12_report_213 rfl (lv_at hl 0 rfl) ?_
        refine gt_X12 hx hb hts hown hK hP 0 (hW_w207.o tM_0) 43 (by decide) wd_1444 rfl (hW_w207.fr tM_0 rfl) dX12_report_214 ?_
        refine lv_iconst (v := 3) hx hb dX12_report_217 (by decide) ?_
        refine lv_iload hx hb dX12_report_218 (lv_at hl 8 rfl) ?_
        refine lv_imul hx hb dX12_report_220 ?_
        refine lv_iload hx hb dX12_report_221 (lv_at hl 9 rfl) ?_
        refine lv_iadd hx hb dX12_report_223 ?_
        refine lv_iload hx hb dX12_report_224 (lv_at hl 9 rfl) ?_
        refine lv_iload hx hb dX12_report_226 (lv_at hl 6 rfl) ?_
        refine lv_icmp_ge (tgt := 241) hx hb dX12_report_228 (by decide) (fun c_2 => ?_) (fun c_2 => ?_)
        · refine lv_lconst (v := 0) hx hb dX12_report_241 (by decide) ?_
          refine va_last hx hb hK hP hD hS 24 1 (hW_w207.al tM_24) rfl (in_I ((In_add ((In_mull i_x207_8 (n := 3) (by decide) (by decide)) : In 3 600 (3 * x207_8)) (R_nle_r (In_lit (n := 3) (by decide) (by decide) : In 3 3 3) i_x207_9 c_1 (by decide) : In 0 2 x207_9) (by decide)) : In 3 602 ((3 * x207_8) + x207_9)) (by decide)) dX12_report_242 (fun H locs hP hD hS => fr_w (hW_w207.uL tM_24) hP hD (fun w_3 ew_3 hW_w_3 hP hD => ?_))
          refine lv_iinc (v := (x207_9 + 1)) (lv' := [(9, .int (x207_9 + 1)), (0, .ref (q 0)), (1, .int p1), (2, .int p2), (3, .int p3), (4, .int p4), (5, .int p5), (6, .int x207_6), (7, .int x207_7), (8, .int x207_8)]) hx hb dX12_report_243 hl (k := 9) rfl (rfl) (by decide) rfl (fun ls hl => ?_)
          refine lv_goto (tgt := 207) hx hb dX12_report_246 (by decide) ?_
          exact ih207 x207_6 x207_7 x207_8 (x207_9 + 1) w_3 _ _ ls (mu_inc hmu207 (R_nle_r (In_lit (n := 3) (by decide) (by decide) : In 3 3 3) i_x207_9 c_1 (by decide) : In 0 2 x207_9) (In_lit (n := 1) (by decide) (by decide) : In 1 1 1) (by decide)) hW_w_3 (hM_w207.sa ew_3 (by decide)) i_x207_1 i_x207_2 i_x207_3 i_x207_4 i_x207_5 (In_w (R_le_l i_x207_6 (R_nle_r (In_lit (n := 3) (by decide) (by decide) : In 3 3 3) i_x207_9 c_1 (by decide) : In 0 2 x207_9) c_2 (by decide) : In 0 2 x207_6) (by decide) : In 0 3 x207_6) i_x207_7 i_x207_8 (In_w ((In_add (y := 1) (R_nle_r (In_lit (n := 3) (by decide) (by decide) : In 3 3 3) i_x207_9 c_1 (by decide) : In 0 2 x207_9) (In_lit (n := 1) (by decide) (by decide) : In 1 1 1) (by decide)) : In 1 3 (x207_9 + 1)) (by decide) : In 0 3 (x207_9 + 1)) (In_of (fI_cg (st_ne ew_3 (by decide))) g207_0_1) (In_of (fI_cg (st_ne ew_3 (by decide))) g207_0_8) (In_of (fI_cg (st_ne ew_3 (by decide))) g207_0_37) (fun hL => (LM_cg (aF_cg (st_ne ew_3 (by decide))) (aF_cg (st_ne ew_3 (by decide))) (hl_207 hL))) (fun hL => (LY_cg (aF_cg (st_ne ew_3 (by decide))) (aF_cg (st_ne ew_3 (by decide))) (fI_cg (st_ne ew_3 (by decide))) (hy_207 hL))) hP hD hS (lv_sub hl [1, 2, 3, 4, 5, 6, 7, 8, 9, 0] rfl)
        · refine lv_aload_n hx hb dX12_report_231 rfl (lv_at hl 0 rfl) ?_
          refine gt_X12 hx hb hts hown hK hP 0 (hW_w207.o tM_0) 44 (by decide) wd_1445 rfl (hW_w207.fr tM_0 rfl) dX12_report_232 ?_
          refine lv_iload hx hb dX12_report_235 (lv_at hl 9 rfl) ?_
          refine va_lald hx hb hK hP 25 1 (hW_w207.al tM_25) rfl (in_I (R_nle_r (In_lit (n := 3) (by decide) (by decide) : In 3 3 3) i_x207_9 c_1 (by decide) : In 0 2 x207_9) (by decide)) dX12_report_237 ?_
          refine lv_topl (fun v_4 ev_4 => ?_)
          refine lv_goto (tgt := 242) hx hb dX12_report_238 (by decide) ?_
          refine va_last hx hb hK hP hD hS 24 1 (hW_w207.al tM_24) rfl (in_I ((In_add ((In_mull i_x207_8 (n := 3) (by decide) (by decide)) : In 3 600 (3 * x207_8)) (R_nle_r (In_lit (n := 3) (by decide) (by decide) : In 3 3 3) i_x207_9 c_1 (by decide) : In 0 2 x207_9) (by decide)) : In 3 602 ((3 * x207_8) + x207_9)) (by decide)) dX12_report_242 (fun H locs hP hD hS => fr_w (hW_w207.uL tM_24) hP hD (fun w_5 ew_5 hW_w_5 hP hD => ?_))
          refine lv_iinc (v := (x207_9 + 1)) (lv' := [(9, .int (x207_9 + 1)), (0, .ref (q 0)), (1, .int p1), (2, .int p2), (3, .int p3), (4, .int p4), (5, .int p5), (6, .int x207_6), (7, .int x207_7), (8, .int x207_8)]) hx hb dX12_report_243 hl (k := 9) rfl (rfl) (by decide) rfl (fun ls hl => ?_)
          refine lv_goto (tgt := 207) hx hb dX12_report_246 (by decide) ?_
          exact ih207 x207_6 x207_7 x207_8 (x207_9 + 1) w_5 _ _ ls (mu_inc hmu207 (R_nle_r (In_lit (n := 3) (by decide) (by decide) : In 3 3 3) i_x207_9 c_1 (by decide) : In 0 2 x207_9) (In_lit (n := 1) (by decide) (by decide) : In 1 1 1) (by decide)) hW_w_5 (hM_w207.sa ew_5 (by decide)) i_x207_1 i_x207_2 i_x207_3 i_x207_4 i_x207_5 (In_w (R_nle_l i_x207_6 (R_nle_r (In_lit (n := 3) (by decide) (by decide) : In 3 3 3) i_x207_9 c_1 (by decide) : In 0 2 x207_9) c_2 (by decide) : In 1 3 x207_6) (by decide) : In 0 3 x207_6) i_x207_7 i_x207_8 (In_w ((In_add (y := 1) (R_nle_r (In_lit (n := 3) (by decide) (by decide) : In 3 3 3) i_x207_9 c_1 (by decide) : In 0 2 x207_9) (In_lit (n := 1) (by decide) (by decide) : In 1 1 1) (by decide)) : In 1 3 (x207_9 + 1)) (by decide) : In 0 3 (x207_9 + 1)) (In_of (fI_cg (st_ne ew_5 (by decide))) g207_0_1) (In_of (fI_cg (st_ne ew_5 (by decide))) g207_0_8) (In_of (fI_cg (st_ne ew_5 (by decide))) g207_0_37) (fun hL => (LM_cg (aF_cg (st_ne ew_5 (by decide))) (aF_cg (st_ne ew_5 (by decide))) (hl_207 hL))) (fun hL => (LY_cg (aF_cg (st_ne ew_5 (by decide))) (aF_cg (st_ne ew_5 (by decide))) (fI_cg (st_ne ew_5 (by decide))) (hy_207 hL))) hP hD hS (lv_sub hl [1, 2, 3, 4, 5, 6, 7, 8, 9, 0] rfl)
  have J86 : ∀ (x86_6 : Int32) (w86 : va_W) (H : Heap) (locs : List Loc) (ls : Array Slot), HT q (TM q cI cJ cZ) w86 → Sm [0, 21, 22, 23, 24, 25] [(0, 1), (0, 2), (0, 3), (0, 4), (0, 5), (0, 6), (0, 7), (0, 8), (0, 9), (0, 37), (0, 38)] w w86 → (In 0 3 x86_6) → (In 0 0 (fI w86 0 1)) → (LM w → LM w86) → (LY w → LY w86) → va_P D vwCl w86 H → va_D A w86 → va_S A s.heap H locs → lv_has ls 10 [(0, .ref (q 0)), (1, .int p1), (2, .int p2), (3, .int p3), (4, .int p4), (5, .int p5), (6, .int x86_6)] → W p l e R s m args below meth c H locs 0 0 Q (F0 m 86 ls []) := by
    intro x86_6 w86 H locs ls hW_w86 hM_w86 i_x86_6 g86_0_1 hl_86 hy_86 hP hD hS hl
    refine lv_aload_n hx hb dX12_report_86 rfl (lv_at hl 0 rfl) ?_
    refine gt_X12 hx hb hts hown hK hP 0 (hW_w86.o tM_0) 8 (by decide) wd_1409 rfl (hW_w86.fi tM_0 rfl) dX12_report_87 ?_
    refine lv_if_ne (tgt := 151) hx hb dX12_report_90 (by decide) (fun c_6 => ?_) (fun c_6 => ?_)
    · refine lv_iconst (v := 0) hx hb dX12_report_151 (by decide) ?_
      refine lv_istore (lv' := [(7, .int 0), (0, .ref (q 0)), (1, .int p1), (2, .int p2), (3, .int p3), (4, .int p4), (5, .int p5), (6, .int x86_6)]) hx hb dX12_report_152 hl (by decide) rfl (fun ls hl => ?_)
      refine lv_iload hx hb dX12_report_154 (lv_at hl 0 rfl) ?_
      refine lv_if_eq (tgt := 178) hx hb dX12_report_156 (by decide) (fun _ => ?_) (fun h => (h (by decide)).elim)
      refine lv_iconst (v := (-1)) hx hb dX12_report_178 (by decide) ?_
      exact hret _ _ _ _ _ _ hP hD hS dX12_report_179 ⟨hW_w86, hM_w86, (In_lit (n := (-1)) (by decide) (by decide) : In (-1) 200 (-1)), g86_0_1, (fun hL => (hl_86 hL)), (fun hL => (hy_86 hL))⟩
    · refine lv_iload_n hx hb dX12_report_93 rfl (lv_at hl 1 rfl) ?_
      refine lv_iconst (v := 0) hx hb dX12_report_94 (by decide) ?_
      refine lv_sipush (v := 9999) hx hb dX12_report_95 (by decide) ?_
      refine kW_i ⟨rfl, rfl⟩ hP hD hS hA (rW_S (As := [.int p1, .int 0, .int 9999]) (rest := []) hx hb hml hown hts hK hE hP hD (k_X12_is l D cI cJ cZ q w86 hW_w86 p1 0 9999 _) ⟨⟨rfl, rfl⟩, rfl, rfl⟩ sv_X12_322 ⟨(Nat.le_trans (by decide) hR.1), (Nat.le_trans (by decide) hR.2)⟩ rfl hl.1 rfl (Nat.le_of_ble_eq_true rfl) dX12_report_98) (fun r_9 w_8 H locs hw_w_8 hP hD hS => ?_)
      obtain ⟨hW_w_8, hs_w_8, i_r_9, h_10⟩ := hw_w_8
      refine lv_if_eq (tgt := 151) hx hb dX12_report_101 (by decide) (fun c_11 => ?_) (fun c_11 => ?_)
      · refine lv_iconst (v := 0) hx hb dX12_report_151 (by decide) ?_
        refine lv_istore (lv' := [(7, .int 0), (0, .ref (q 0)), (1, .int p1), (2, .int p2), (3, .int p3), (4, .int p4), (5, .int p5), (6, .int x86_6)]) hx hb dX12_report_152 hl (by decide) rfl (fun ls hl => ?_)
        refine lv_iload hx hb dX12_report_154 (lv_at hl 0 rfl) ?_
        refine lv_if_eq (tgt := 178) hx hb dX12_report_156 (by decide) (fun _ => ?_) (fun h => (h (by decide)).elim)
        refine lv_iconst (v := (-1)) hx hb dX12_report_178 (by decide) ?_
        exact hret _ _ _ _ _ _ hP hD hS dX12_report_179 ⟨hW_w_8, (hM_w86.tr hs_w_8 (by decide)), (In_lit (n := (-1)) (by decide) (by decide) : In (-1) 200 (-1)), (In_of (hs_w_8.gI (by decide)) g86_0_1), (fun hL => (LM_cg (hs_w_8.hA (by decide)) (hs_w_8.hA (by decide)) (hl_86 hL))), (fun hL => (LY_cg (hs_w_8.hA (by decide)) (hs_w_8.hA (by decide)) (hs_w_8.gI (by decide)) (hy_86 hL)))⟩
      · refine lv_iload_n hx hb dX12_report_104 rfl (lv_at hl 2 rfl) ?_
        refine lv_iconst (v := 0) hx hb dX12_report_105 (by decide) ?_
        refine lv_bipush (v := 17) hx hb dX12_report_106 (by decide) ?_
        refine kW_i ⟨rfl, rfl⟩ hP hD hS hA (rW_S (As := [.int p2, .int 0, .int 17]) (rest := []) hx hb hml hown hts hK hE hP hD (k_X12_is l D cI cJ cZ q w_8 hW_w_8 p2 0 17 _) ⟨⟨rfl, rfl⟩, rfl, rfl⟩ sv_X12_322 ⟨(Nat.le_trans (by decide) hR.1), (Nat.le_trans (by decide) hR.2)⟩ rfl hl.1 rfl (Nat.le_of_ble_eq_true rfl) dX12_report_108) (fun r_14 w_13 H locs hw_w_13 hP hD hS => ?_)
        obtain ⟨hW_w_13, hs_w_13, i_r_14, h_15⟩ := hw_w_13
        refine lv_if_eq (tgt := 151) hx hb dX12_report_111 (by decide) (fun c_16 => ?_) (fun c_16 => ?_)
        · refine lv_iconst (v := 0) hx hb dX12_report_151 (by decide) ?_
          refine lv_istore (lv' := [(7, .int 0), (0, .ref (q 0)), (1, .int p1), (2, .int p2), (3, .int p3), (4, .int p4), (5, .int p5), (6, .int x86_6)]) hx hb dX12_report_152 hl (by decide) rfl (fun ls hl => ?_)
          refine lv_iload hx hb dX12_report_154 (lv_at hl 0 rfl) ?_
          refine lv_if_eq (tgt := 178) hx hb dX12_report_156 (by decide) (fun _ => ?_) (fun h => (h (by decide)).elim)
          refine lv_iconst (v := (-1)) hx hb dX12_report_178 (by decide) ?_
          exact hret _ _ _ _ _ _ hP hD hS dX12_report_179 ⟨hW_w_13, ((hM_w86.tr hs_w_8 (by decide)).tr hs_w_13 (by decide)), (In_lit (n := (-1)) (by decide) (by decide) : In (-1) 200 (-1)), (In_of ((hs_w_13.gI (by decide)).trans (hs_w_8.gI (by decide))) g86_0_1), (fun hL => (LM_cg (hs_w_13.hA (by decide)) (hs_w_13.hA (by decide)) (LM_cg (hs_w_8.hA (by decide)) (hs_w_8.hA (by decide)) (hl_86 hL)))), (fun hL => (LY_cg ((hs_w_13.hA (by decide)).trans (hs_w_8.hA (by decide))) ((hs_w_13.hA (by decide)).trans (hs_w_8.hA (by decide))) ((hs_w_13.gI (by decide)).trans (hs_w_8.gI (by decide))) (hy_86 hL)))⟩
        · refine lv_iload_n hx hb dX12_report_114 rfl (lv_at hl 3 rfl) ?_
          refine lv_iconst (v := 0) hx hb dX12_report_115 (by decide) ?_
          refine lv_bipush (v := 99) hx hb dX12_report_116 (by decide) ?_
          refine kW_i ⟨rfl, rfl⟩ hP hD hS hA (rW_S (As := [.int p3, .int 0, .int 99]) (rest := []) hx hb hml hown hts hK hE hP hD (k_X12_is l D cI cJ cZ q w_13 hW_w_13 p3 0 99 _) ⟨⟨rfl, rfl⟩, rfl, rfl⟩ sv_X12_322 ⟨(Nat.le_trans (by decide) hR.1), (Nat.le_trans (by decide) hR.2)⟩ rfl hl.1 rfl (Nat.le_of_ble_eq_true rfl) dX12_report_118) (fun r_19 w_18 H locs hw_w_18 hP hD hS => ?_)
          obtain ⟨hW_w_18, hs_w_18, i_r_19, h_20⟩ := hw_w_18
          refine lv_if_eq (tgt := 151) hx hb dX12_report_121 (by decide) (fun c_21 => ?_) (fun c_21 => ?_)
          · refine lv_iconst (v := 0) hx hb dX12_report_151 (by decide) ?_
            refine lv_istore (lv' := [(7, .int 0), (0, .ref (q 0)), (1, .int p1), (2, .int p2), (3, .int p3), (4, .int p4), (5, .int p5), (6, .int x86_6)]) hx hb dX12_report_152 hl (by decide) rfl (fun ls hl => ?_)
            refine lv_iload hx hb dX12_report_154 (lv_at hl 0 rfl) ?_
            refine lv_if_eq (tgt := 178) hx hb dX12_report_156 (by decide) (fun _ => ?_) (fun h => (h (by decide)).elim)
            refine lv_iconst (v := (-1)) hx hb dX12_report_178 (by decide) ?_
            exact hret _ _ _ _ _ _ hP hD hS dX12_report_179 ⟨hW_w_18, (((hM_w86.tr hs_w_8 (by decide)).tr hs_w_13 (by decide)).tr hs_w_18 (by decide)), (In_lit (n := (-1)) (by decide) (by decide) : In (-1) 200 (-1)), (In_of ((hs_w_18.gI (by decide)).trans ((hs_w_13.gI (by decide)).trans (hs_w_8.gI (by decide)))) g86_0_1), (fun hL => (LM_cg (hs_w_18.hA (by decide)) (hs_w_18.hA (by decide)) (LM_cg (hs_w_13.hA (by decide)) (hs_w_13.hA (by decide)) (LM_cg (hs_w_8.hA (by decide)) (hs_w_8.hA (by decide)) (hl_86 hL))))), (fun hL => (LY_cg ((hs_w_18.hA (by decide)).trans ((hs_w_13.hA (by decide)).trans (hs_w_8.hA (by decide)))) ((hs_w_18.hA (by decide)).trans ((hs_w_13.hA (by decide)).trans (hs_w_8.hA (by decide)))) ((hs_w_18.gI (by decide)).trans ((hs_w_13.gI (by decide)).trans (hs_w_8.gI (by decide)))) (hy_86 hL)))⟩
          · refine lv_iload hx hb dX12_report_124 (lv_at hl 4 rfl) ?_
            refine lv_iconst (v := 0) hx hb dX12_report_126 (by decide) ?_
            refine lv_sipush (v := 999) hx hb dX12_report_127 (by decide) ?_
            refine kW_i ⟨rfl, rfl⟩ hP hD hS hA (rW_S (As := [.int p4, .int 0, .int 999]) (rest := []) hx hb hml hown hts hK hE hP hD (k_X12_is l D cI cJ cZ q w_18 hW_w_18 p4 0 999 _) ⟨⟨rfl, rfl⟩, rfl, rfl⟩ sv_X12_322 ⟨(Nat.le_trans (by decide) hR.1), (Nat.le_trans (by decide) hR.2)⟩ rfl hl.1 rfl (Nat.le_of_ble_eq_true rfl) dX12_report_130) (fun r_24 w_23 H locs hw_w_23 hP hD hS => ?_)
            obtain ⟨hW_w_23, hs_w_23, i_r_24, h_25⟩ := hw_w_23
            refine lv_if_eq (tgt := 151) hx hb dX12_report_133 (by decide) (fun c_26 => ?_) (fun c_26 => ?_)
            · refine lv_iconst (v := 0) hx hb dX12_report_151 (by decide) ?_
              refine lv_istore (lv' := [(7, .int 0), (0, .ref (q 0)), (1, .int p1), (2, .int p2), (3, .int p3), (4, .int p4), (5, .int p5), (6, .int x86_6)]) hx hb dX12_report_152 hl (by decide) rfl (fun ls hl => ?_)
              refine lv_iload hx hb dX12_report_154 (lv_at hl 0 rfl) ?_
              refine lv_if_eq (tgt := 178) hx hb dX12_report_156 (by decide) (fun _ => ?_) (fun h => (h (by decide)).elim)
              refine lv_iconst (v := (-1)) hx hb dX12_report_178 (by decide) ?_
              exact hret _ _ _ _ _ _ hP hD hS dX12_report_179 ⟨hW_w_23, ((((hM_w86.tr hs_w_8 (by decide)).tr hs_w_13 (by decide)).tr hs_w_18 (by decide)).tr hs_w_23 (by decide)), (In_lit (n := (-1)) (by decide) (by decide) : In (-1) 200 (-1)), (In_of ((hs_w_23.gI (by decide)).trans ((hs_w_18.gI (by decide)).trans ((hs_w_13.gI (by decide)).trans (hs_w_8.gI (by decide))))) g86_0_1), (fun hL => (LM_cg (hs_w_23.hA (by decide)) (hs_w_23.hA (by decide)) (LM_cg (hs_w_18.hA (by decide)) (hs_w_18.hA (by decide)) (LM_cg (hs_w_13.hA (by decide)) (hs_w_13.hA (by decide)) (LM_cg (hs_w_8.hA (by decide)) (hs_w_8.hA (by decide)) (hl_86 hL)))))), (fun hL => (LY_cg ((hs_w_23.hA (by decide)).trans ((hs_w_18.hA (by decide)).trans ((hs_w_13.hA (by decide)).trans (hs_w_8.hA (by decide))))) ((hs_w_23.hA (by decide)).trans ((hs_w_18.hA (by decide)).trans ((hs_w_13.hA (by decide)).trans (hs_w_8.hA (by decide))))) ((hs_w_23.gI (by decide)).trans ((hs_w_18.gI (by decide)).trans ((hs_w_13.gI (by decide)).trans (hs_w_8.gI (by decide))))) (hy_86 hL)))⟩
            · refine lv_iload hx hb dX12_report_136 (lv_at hl 5 rfl) ?_
              refine lv_iconst (v := 1) hx hb dX12_report_138 (by decide) ?_
              refine lv_bipush (v := 24) hx hb dX12_report_139 (by decide) ?_
              refine kW_i ⟨rfl, rfl⟩ hP hD hS hA (rW_S (As := [.int p5, .int 1, .int 24]) (rest := []) hx hb hml hown hts hK hE hP hD (k_X12_is l D cI cJ cZ q w_23 hW_w_23 p5 1 24 _) ⟨⟨rfl, rfl⟩, rfl, rfl⟩ sv_X12_322 ⟨(Nat.le_trans (by decide) hR.1), (Nat.le_trans (by decide) hR.2)⟩ rfl hl.1 rfl (Nat.le_of_ble_eq_true rfl) dX12_report_141) (fun r_29 w_28 H locs hw_w_28 hP hD hS => ?_)
              obtain ⟨hW_w_28, hs_w_28, i_r_29, h_30⟩ := hw_w_28
              refine lv_if_eq (tgt := 151) hx hb dX12_report_144 (by decide) (fun c_31 => ?_) (fun c_31 => ?_)
              · refine lv_iconst (v := 0) hx hb dX12_report_151 (by decide) ?_
                refine lv_istore (lv' := [(7, .int 0), (0, .ref (q 0)), (1, .int p1), (2, .int p2), (3, .int p3), (4, .int p4), (5, .int p5), (6, .int x86_6)]) hx hb dX12_report_152 hl (by decide) rfl (fun ls hl => ?_)
                refine lv_iload hx hb dX12_report_154 (lv_at hl 0 rfl) ?_
                refine lv_if_eq (tgt := 178) hx hb dX12_report_156 (by decide) (fun _ => ?_) (fun h => (h (by decide)).elim)
                refine lv_iconst (v := (-1)) hx hb dX12_report_178 (by decide) ?_
                exact hret _ _ _ _ _ _ hP hD hS dX12_report_179 ⟨hW_w_28, (((((hM_w86.tr hs_w_8 (by decide)).tr hs_w_13 (by decide)).tr hs_w_18 (by decide)).tr hs_w_23 (by decide)).tr hs_w_28 (by decide)), (In_lit (n := (-1)) (by decide) (by decide) : In (-1) 200 (-1)), (In_of ((hs_w_28.gI (by decide)).trans ((hs_w_23.gI (by decide)).trans ((hs_w_18.gI (by decide)).trans ((hs_w_13.gI (by decide)).trans (hs_w_8.gI (by decide)))))) g86_0_1), (fun hL => (LM_cg (hs_w_28.hA (by decide)) (hs_w_28.hA (by decide)) (LM_cg (hs_w_23.hA (by decide)) (hs_w_23.hA (by decide)) (LM_cg (hs_w_18.hA (by decide)) (hs_w_18.hA (by decide)) (LM_cg (hs_w_13.hA (by decide)) (hs_w_13.hA (by decide)) (LM_cg (hs_w_8.hA (by decide)) (hs_w_8.hA (by decide)) (hl_86 hL))))))), (fun hL => (LY_cg ((hs_w_28.hA (by decide)).trans ((hs_w_23.hA (by decide)).trans ((hs_w_18.hA (by decide)).trans ((hs_w_13.hA (by decide)).trans (hs_w_8.hA (by decide)))))) ((hs_w_28.hA (by decide)).trans ((hs_w_23.hA (by decide)).trans ((hs_w_18.hA (by decide)).trans ((hs_w_13.hA (by decide)).trans (hs_w_8.hA (by decide)))))) ((hs_w_28.gI (by decide)).trans ((hs_w_23.gI (by decide)).trans ((hs_w_18.gI (by decide)).trans ((hs_w_13.gI (by decide)).trans (hs_w_8.gI (by decide)))))) (hy_86 hL)))⟩
              · refine lv_iconst (v := 1) hx hb dX12_report_147 (by decide) ?_
                refine lv_goto (tgt := 152) hx hb dX12_report_148 (by decide) ?_
                refine lv_istore (lv' := [(7, .int 1), (0, .ref (q 0)), (1, .int p1), (2, .int p2), (3, .int p3), (4, .int p4), (5, .int p5), (6, .int x86_6)]) hx hb dX12_report_152 hl (by decide) rfl (fun ls hl => ?_)
                refine lv_iload hx hb dX12_report_154 (lv_at hl 0 rfl) ?_
                refine lv_if_eq (tgt := 178) hx hb dX12_report_156 (by decide) (fun h => absurd h (by decide)) (fun _ => ?_)
                refine lv_aload_n hx hb dX12_report_159 rfl (lv_at hl 1 rfl) ?_
                refine gt_X12 hx hb hts hown hK hP 0 (hW_w_28.o tM_0) 37 (by decide) wd_1438 rfl (hW_w_28.fi tM_0 rfl) dX12_report_160 ?_
                refine tov (v := (fI w86 0 37)) ((hs_w_28.gI (by decide)).trans ((hs_w_23.gI (by decide)).trans ((hs_w_18.gI (by decide)).trans ((hs_w_13.gI (by decide)).trans (hs_w_8.gI (by decide)))))) ?_
                refine lv_sipush (v := 200) hx hb dX12_report_163 (by decide) ?_
                refine lv_icmp_eq (tgt := 178) hx hb dX12_report_166 (by decide) (fun c_34 => ?_) (fun c_34 => ?_)
                · refine lv_iconst (v := (-1)) hx hb dX12_report_178 (by decide) ?_
                  exact hret _ _ _ _ _ _ hP hD hS dX12_report_179 ⟨hW_w_28, (((((hM_w86.tr hs_w_8 (by decide)).tr hs_w_13 (by decide)).tr hs_w_18 (by decide)).tr hs_w_23 (by decide)).tr hs_w_28 (by decide)), (In_lit (n := (-1)) (by decide) (by decide) : In (-1) 200 (-1)), (In_of ((hs_w_28.gI (by decide)).trans ((hs_w_23.gI (by decide)).trans ((hs_w_18.gI (by decide)).trans ((hs_w_13.gI (by decide)).trans (hs_w_8.gI (by decide)))))) g86_0_1), (fun hL => (LM_cg (hs_w_28.hA (by decide)) (hs_w_28.hA (by decide)) (LM_cg (hs_w_23.hA (by decide)) (hs_w_23.hA (by decide)) (LM_cg (hs_w_18.hA (by decide)) (hs_w_18.hA (by decide)) (LM_cg (hs_w_13.hA (by decide)) (hs_w_13.hA (by decide)) (LM_cg (hs_w_8.hA (by decide)) (hs_w_8.hA (by decide)) (hl_86 hL))))))), (fun hL => (LY_cg ((hs_w_28.hA (by decide)).trans ((hs_w_23.hA (by decide)).trans ((hs_w_18.hA (by decide)).trans ((hs_w_13.hA (by decide)).trans (hs_w_8.hA (by decide)))))) ((hs_w_28.hA (by decide)).trans ((hs_w_23.hA (by decide)).trans ((hs_w_18.hA (by decide)).trans ((hs_w_13.hA (by decide)).trans (hs_w_8.hA (by decide)))))) ((hs_w_28.gI (by decide)).trans ((hs_w_23.gI (by decide)).trans ((hs_w_18.gI (by decide)).trans ((hs_w_13.gI (by decide)).trans (hs_w_8.gI (by decide)))))) (hy_86 hL)))⟩
                · refine lv_aload_n hx hb dX12_report_169 rfl (lv_at hl 1 rfl) ?_
                  refine gt_X12 hx hb hts hown hK hP 0 (hW_w_28.o tM_0) 38 (by decide) wd_1439 rfl (hW_w_28.fi tM_0 rfl) dX12_report_170 ?_
                  refine tov (v := (fI w86 0 38)) ((hs_w_28.gI (by decide)).trans ((hs_w_23.gI (by decide)).trans ((hs_w_18.gI (by decide)).trans ((hs_w_13.gI (by decide)).trans (hs_w_8.gI (by decide)))))) ?_
                  refine lv_bipush (v := 80) hx hb dX12_report_173 (by decide) ?_
                  refine lv_icmp_ne (tgt := 180) hx hb dX12_report_175 (by decide) (fun c_35 => ?_) (fun c_35 => ?_)
                  · refine lv_aload_n hx hb dX12_report_180 rfl (lv_at hl 1 rfl) ?_
                    refine lv_dup hx hb dX12_report_181 rfl ?_
                    refine gt_X12 hx hb hts hown hK hP 0 (hW_w_28.o tM_0) 38 (by decide) wd_1439 rfl (hW_w_28.fi tM_0 rfl) dX12_report_182 ?_
                    refine tov (v := (fI w86 0 38)) ((hs_w_28.gI (by decide)).trans ((hs_w_23.gI (by decide)).trans ((hs_w_18.gI (by decide)).trans ((hs_w_13.gI (by decide)).trans (hs_w_8.gI (by decide)))))) ?_
                    refine lv_iconst (v := 1) hx hb dX12_report_185 (by decide) ?_
                    refine lv_iadd hx hb dX12_report_186 ?_
                    refine pt_X12 hx hb hts hown hK hP hD hS 0 (hW_w_28.o tM_0) 38 (by decide) wd_1439 rfl rfl (ty := .int) (v := .int ((fI w86 0 38) + 1)) (by decide +kernel) rfl rfl (hW_w_28.ll tM_0 (Nat.le_of_ble_eq_true rfl)) dX12_report_187 (fun H locs hP hD hS => fr_w (hW_w_28.sI tM_0 rfl (In_any ((fI w86 0 38) + 1))) hP hD (fun w_36 ew_36 hW_w_36 hP hD => ?_))
                    refine lv_aload_n hx hb dX12_report_190 rfl (lv_at hl 1 rfl) ?_
                    refine lv_iconst (v := 0) hx hb dX12_report_191 (by decide) ?_
                    refine lv_iload_n hx hb dX12_report_192 rfl (lv_at hl 2 rfl) ?_
                    refine lv_iload_n hx hb dX12_report_193 rfl (lv_at hl 3 rfl) ?_
                    refine lv_iload_n hx hb dX12_report_194 rfl (lv_at hl 4 rfl) ?_
                    refine lv_iload hx hb dX12_report_195 (lv_at hl 5 rfl) ?_
                    refine lv_iload hx hb dX12_report_197 (lv_at hl 6 rfl) ?_
                    refine kW_i ⟨rfl, rfl⟩ hP hD hS hA (rW_V (As := [.int 0, .int p1, .int p2, .int p3, .int p4, .int p5]) (rest := []) hx hb hml hown hts hK hE hP hD (k_X12_tells l D cI cJ cZ q w_36 hW_w_36 0 p1 p2 p3 p4 p5 (In_lit (n := 0) (by decide) (by decide) : In 0 3 0) (by have q0 := h_10 c_11; have q1 := (In_lit (n := 0) (by decide) (by decide) : In 0 0 0); have q2 := (In_lit (n := 9999) (by decide) (by decide) : In 9999 9999 9999); have q3 := (In_any p1); unfold In at q1 q2 q3 ⊢; omega : In 0 9999 p1) (In_w (by have q0 := h_15 c_16; have q1 := (In_lit (n := 0) (by decide) (by decide) : In 0 0 0); have q2 := (In_lit (n := 17) (by decide) (by decide) : In 17 17 17); have q3 := (In_any p2); unfold In at q1 q2 q3 ⊢; omega : In 0 17 p2) (by decide) : In 0 24 p2) (by have q0 := h_20 c_21; have q1 := (In_lit (n := 0) (by decide) (by decide) : In 0 0 0); have q2 := (In_lit (n := 99) (by decide) (by decide) : In 99 99 99); have q3 := (In_any p3); unfold In at q1 q2 q3 ⊢; omega : In 0 99 p3) (by have q0 := h_25 c_26; have q1 := (In_lit (n := 0) (by decide) (by decide) : In 0 0 0); have q2 := (In_lit (n := 999) (by decide) (by decide) : In 999 999 999); have q3 := (In_any p4); unfold In at q1 q2 q3 ⊢; omega : In 0 999 p4) (In_w (by have q0 := h_30 c_31; have q1 := (In_lit (n := 1) (by decide) (by decide) : In 1 1 1); have q2 := (In_lit (n := 24) (by decide) (by decide) : In 24 24 24); have q3 := (In_any p5); unfold In at q1 q2 q3 ⊢; omega : In 1 24 p5) (by decide) : In 0 24 p5) (In_of ((fI_nej (hW_w_28.lt tM_0) ew_36 (by decide)).trans ((hs_w_28.gI (by decide)).trans ((hs_w_23.gI (by decide)).trans ((hs_w_18.gI (by decide)).trans ((hs_w_13.gI (by decide)).trans (hs_w_8.gI (by decide))))))) (R_ne_l (hW_w86.fin tM_0 rfl : In 0 200 (fI w86 0 37)) (In_lit (n := 200) (by decide) (by decide) : In 200 200 200) c_34 (by decide) : In 0 199 (fI w86 0 37))) _) ⟨⟨rfl, rfl⟩, rfl, rfl⟩ sv_X12_453 ⟨(Nat.le_trans (by decide) hR.1), (Nat.le_trans (by decide) hR.2)⟩ 0 12 (hW_w_36.o tM_0) rfl rfl rfl hl.1 rfl (Nat.le_of_ble_eq_true rfl) dX12_report_199) (fun r_38 w_37 H locs hw_w_37 hP hD hS => ?_)
                    obtain ⟨hW_w_37, hs_w_37, i_r_38, h_39, h_40, h_41⟩ := hw_w_37
                    refine lv_istore (lv' := [(8, .int r_38), (7, .int 1), (0, .ref (q 0)), (1, .int p1), (2, .int p2), (3, .int p3), (4, .int p4), (5, .int p5), (6, .int x86_6)]) hx hb dX12_report_202 hl (by decide) rfl (fun ls hl => ?_)
                    refine lv_iconst (v := 0) hx hb dX12_report_204 (by decide) ?_
                    refine lv_istore (lv' := [(9, .int 0), (8, .int r_38), (7, .int 1), (0, .ref (q 0)), (1, .int p1), (2, .int p2), (3, .int p3), (4, .int p4), (5, .int p5), (6, .int x86_6)]) hx hb dX12_report_205 hl (by decide) rfl (fun ls hl => ?_)
                    exact J207 _ x86_6 1 r_38 0 w_37 _ _ ls (Nat.lt_succ_self _) hW_w_37 (((((((hM_w86.tr hs_w_8 (by decide)).tr hs_w_13 (by decide)).tr hs_w_18 (by decide)).tr hs_w_23 (by decide)).tr hs_w_28 (by decide)).sf (hW_w_28.lt tM_0) ew_36 (by decide)).tr hs_w_37 (by decide)) (by have q0 := h_10 c_11; have q1 := (In_lit (n := 0) (by decide) (by decide) : In 0 0 0); have q2 := (In_lit (n := 9999) (by decide) (by decide) : In 9999 9999 9999); have q3 := (In_any p1); unfold In at q1 q2 q3 ⊢; omega : In 0 9999 p1) (by have q0 := h_15 c_16; have q1 := (In_lit (n := 0) (by decide) (by decide) : In 0 0 0); have q2 := (In_lit (n := 17) (by decide) (by decide) : In 17 17 17); have q3 := (In_any p2); unfold In at q1 q2 q3 ⊢; omega : In 0 17 p2) (by have q0 := h_20 c_21; have q1 := (In_lit (n := 0) (by decide) (by decide) : In 0 0 0); have q2 := (In_lit (n := 99) (by decide) (by decide) : In 99 99 99); have q3 := (In_any p3); unfold In at q1 q2 q3 ⊢; omega : In 0 99 p3) (by have q0 := h_25 c_26; have q1 := (In_lit (n := 0) (by decide) (by decide) : In 0 0 0); have q2 := (In_lit (n := 999) (by decide) (by decide) : In 999 999 999); have q3 := (In_any p4); unfold In at q1 q2 q3 ⊢; omega : In 0 999 p4) (by have q0 := h_30 c_31; have q1 := (In_lit (n := 1) (by decide) (by decide) : In 1 1 1); have q2 := (In_lit (n := 24) (by decide) (by decide) : In 24 24 24); have q3 := (In_any p5); unfold In at q1 q2 q3 ⊢; omega : In 1 24 p5) i_x86_6 (In_lit (n := 1) (by decide) (by decide) : In 1 1 1) i_r_38 (In_lit (n := 0) (by decide) (by decide) : In 0 3 0) (In_of ((hs_w_37.2 0 1 (by decide) (by decide)).trans ((fI_nej (hW_w_28.lt tM_0) ew_36 (by decide)).trans ((hs_w_28.gI (by decide)).trans ((hs_w_23.gI (by decide)).trans ((hs_w_18.gI (by decide)).trans ((hs_w_13.gI (by decide)).trans (hs_w_8.gI (by decide)))))))) g86_0_1) (In_of ((hs_w_37.2 0 8 (by decide) (by decide)).trans ((fI_nej (hW_w_28.lt tM_0) ew_36 (by decide)).trans ((hs_w_28.gI (by decide)).trans ((hs_w_23.gI (by decide)).trans ((hs_w_18.gI (by decide)).trans ((hs_w_13.gI (by decide)).trans (hs_w_8.gI (by decide)))))))) (R_eq_l (hW_w86.fin tM_0 rfl : In 0 5 (fI w86 0 8)) (In_lit (n := 0) (by decide) (by decide) : In 0 0 0) c_6 (by decide) : In 0 0 (fI w86 0 8))) h_39 (fun hL => (h_40 (LM_cg (aF_cg (st_ne ew_36 (by decide))) (aF_cg (st_ne ew_36 (by decide))) (LM_cg (hs_w_28.hA (by decide)) (hs_w_28.hA (by decide)) (LM_cg (hs_w_23.hA (by decide)) (hs_w_23.hA (by decide)) (LM_cg (hs_w_18.hA (by decide)) (hs_w_18.hA (by decide)) (LM_cg (hs_w_13.hA (by decide)) (hs_w_13.hA (by decide)) (LM_cg (hs_w_8.hA (by decide)) (hs_w_8.hA (by decide)) (hl_86 hL))))))) ⟨(fun _ => (In_w (by have q0 := h_30 c_31; have q1 := (In_lit (n := 1) (by decide) (by decide) : In 1 1 1); have q2 := (In_lit (n := 24) (by decide) (by decide) : In 24 24 24); have q3 := (In_any p5); unfold In at q1 q2 q3 ⊢; omega : In 1 24 p5) (by decide) : In 0 24 p5)), (fun q => absurd q (by decide))⟩)) (fun hL => (h_41 (LY_cg ((aF_cg (st_ne ew_36 (by decide))).trans ((hs_w_28.hA (by decide)).trans ((hs_w_23.hA (by decide)).trans ((hs_w_18.hA (by decide)).trans ((hs_w_13.hA (by decide)).trans (hs_w_8.hA (by decide))))))) ((aF_cg (st_ne ew_36 (by decide))).trans ((hs_w_28.hA (by decide)).trans ((hs_w_23.hA (by decide)).trans ((hs_w_18.hA (by decide)).trans ((hs_w_13.hA (by decide)).trans (hs_w_8.hA (by decide))))))) ((fI_nej (hW_w_28.lt tM_0) ew_36 (by decide)).trans ((hs_w_28.gI (by decide)).trans ((hs_w_23.gI (by decide)).trans ((hs_w_18.gI (by decide)).trans ((hs_w_13.gI (by decide)).trans (hs_w_8.gI (by decide))))))) (hy_86 hL)) (fun _ => ((by have q0 := h_30 c_31; have q1 := (In_lit (n := 1) (by decide) (by decide) : In 1 1 1); have q2 := (In_lit (n := 24) (by decide) (by decide) : In 24 24 24); have q3 := (In_any p5); unfold In at q1 q2 q3 ⊢; omega : In 1 24 p5)).1))) hP hD hS (lv_sub hl [3, 4, 5, 6, 7, 8, 9, 2, 1, 0] rfl)
                  · refine lv_iconst (v := (-1)) hx hb dX12_report_178 (by decide) ?_
                    exact hret _ _ _ _ _ _ hP hD hS dX12_report_179 ⟨hW_w_28, (((((hM_w86.tr hs_w_8 (by decide)).tr hs_w_13 (by decide)).tr hs_w_18 (by decide)).tr hs_w_23 (by decide)).tr hs_w_28 (by decide)), (In_lit (n := (-1)) (by decide) (by decide) : In (-1) 200 (-1)), (In_of ((hs_w_28.gI (by decide)).trans ((hs_w_23.gI (by decide)).trans ((hs_w_18.gI (by decide)).trans ((hs_w_13.gI (by decide)).trans (hs_w_8.gI (by decide)))))) g86_0_1), (fun hL => (LM_cg (hs_w_28.hA (by decide)) (hs_w_28.hA (by decide)) (LM_cg (hs_w_23.hA (by decide)) (hs_w_23.hA (by decide)) (LM_cg (hs_w_18.hA (by decide)) (hs_w_18.hA (by decide)) (LM_cg (hs_w_13.hA (by decide)) (hs_w_13.hA (by decide)) (LM_cg (hs_w_8.hA (by decide)) (hs_w_8.hA (by decide)) (hl_86 hL))))))), (fun hL => (LY_cg ((hs_w_28.hA (by decide)).trans ((hs_w_23.hA (by decide)).trans ((hs_w_18.hA (by decide)).trans ((hs_w_13.hA (by decide)).trans (hs_w_8.hA (by decide)))))) ((hs_w_28.hA (by decide)).trans ((hs_w_23.hA (by decide)).trans ((hs_w_18.hA (by decide)).trans ((hs_w_13.hA (by decide)).trans (hs_w_8.hA (by decide)))))) ((hs_w_28.gI (by decide)).trans ((hs_w_23.gI (by decide)).trans ((hs_w_18.gI (by decide)).trans ((hs_w_13.gI (by decide)).trans (hs_w_8.gI (by decide)))))) (hy_86 hL)))⟩
  have J7 : ∀ (N : Nat) (x7_6 : Int32) (w7 : va_W) (H : Heap) (locs : List Loc) (ls : Array Slot), (2 * (1000 - (fI w7 0 5).toInt).toNat + (if fI w7 0 3 = 0 then 0 else 1) + (if fI w7 0 8 = 0 then 3000 else 0)) < N → HT q (TM q cI cJ cZ) w7 → Sm [0, 21, 22, 23, 24, 25] [(0, 1), (0, 2), (0, 3), (0, 4), (0, 5), (0, 6), (0, 7), (0, 8), (0, 9), (0, 37), (0, 38)] w w7 → (In 0 3 x7_6) → (In 0 0 (fI w7 0 1)) → (LM w → LM w7) → (LY w → LY w7) → va_P D vwCl w7 H → va_D A w7 → va_S A s.heap H locs → lv_has ls 10 [(0, .ref (q 0)), (1, .int p1), (2, .int p2), (3, .int p3), (4, .int p4), (5, .int p5), (6, .int x7_6)] → W p l e R s m args below meth c H locs 0 0 Q (F0 m 7 ls []) := by
    intro N
    induction N with
    | zero => intro x7_6 w7 H locs ls hmu; exact absurd hmu (Nat.not_lt_zero _)
    | succ N ih7 =>
      intro x7_6 w7 H locs ls hmu7 hW_w7 hM_w7 i_x7_6 g7_0_1 hl_7 hy_7 hP hD hS hl
      refine lv_aload_n hx hb dX12_report_7 rfl (lv_at hl 0 rfl) ?_
      refine gt_X12 hx hb hts hown hK hP 0 (hW_w7.o tM_0) 8 (by decide) wd_1409 rfl (hW_w7.fi tM_0 rfl) dX12_report_8 ?_
      refine lv_if_ne (tgt := 86) hx hb dX12_report_11 (by decide) (fun c_42 => ?_) (fun c_42 => ?_)
      · exact J86 x7_6 w7 _ _ ls hW_w7 hM_w7 i_x7_6 g7_0_1 (fun hL => (hl_7 hL)) (fun hL => (hy_7 hL)) hP hD hS (lv_sub hl [0, 1, 2, 3, 4, 5, 6] rfl)
      · refine lv_aload_n hx hb dX12_report_14 rfl (lv_at hl 0 rfl) ?_
        refine gt_X12 hx hb hts hown hK hP 0 (hW_w7.o tM_0) 3 (by decide) wd_1404 rfl (hW_w7.fi tM_0 rfl) dX12_report_15 ?_
        refine lv_if_eq (tgt := 86) hx hb dX12_report_18 (by decide) (fun c_43 => ?_) (fun c_43 => ?_)
        · exact J86 x7_6 w7 _ _ ls hW_w7 hM_w7 i_x7_6 g7_0_1 (fun hL => (hl_7 hL)) (fun hL => (hy_7 hL)) hP hD hS (lv_sub hl [0, 1, 2, 3, 4, 5, 6] rfl)
        · refine lv_aload_n hx hb dX12_report_21 rfl (lv_at hl 0 rfl) ?_
          refine gt_X12 hx hb hts hown hK hP 0 (hW_w7.o tM_0) 3 (by decide) wd_1404 rfl (hW_w7.fi tM_0 rfl) dX12_report_22 ?_
          refine lv_iconst (v := 1) hx hb dX12_report_25 (by decide) ?_
          refine lv_icmp_ne (tgt := 46) hx hb dX12_report_26 (by decide) (fun c_44 => ?_) (fun c_44 => ?_)
          · refine lv_aload_n hx hb dX12_report_46 rfl (lv_at hl 0 rfl) ?_
            refine lv_iconst (v := 1) hx hb dX12_report_47 (by decide) ?_
            refine lv_aload_n hx hb dX12_report_48 rfl (lv_at hl 0 rfl) ?_
            refine gt_X12 hx hb hts hown hK hP 0 (hW_w7.o tM_0) 4 (by decide) wd_1405 rfl (hW_w7.fi tM_0 rfl) dX12_report_49 ?_
            refine kW_v ⟨rfl, rfl⟩ hP hD hS hA (rW_V (As := [.int 1, .int (fI w7 0 4)]) (rest := []) hx hb hml hown hts hK hE hP hD (k_X12_blame l D cI cJ cZ q w7 hW_w7 1 (fI w7 0 4) (In_lit (n := 1) (by decide) (by decide) : In 1 5 1) (hW_w7.fin tM_0 rfl : In 0 1000 (fI w7 0 4)) g7_0_1 _) ⟨⟨rfl, rfl⟩, rfl, rfl⟩ sv_X12_308 ⟨(Nat.le_trans (by decide) hR.1), (Nat.le_trans (by decide) hR.2)⟩ 0 12 (hW_w7.o tM_0) rfl rfl rfl hl.1 rfl (Nat.le_of_ble_eq_true rfl) dX12_report_52) (fun w_45 H locs hw_w_45 hP hD hS => ?_)
            obtain ⟨hW_w_45, hs_w_45, h_47, h_48, h_49⟩ := hw_w_45
            have f_h_48 : 1 ≤ ((fI w7 0 8) : Int32).toInt → 1 ≤ (fI w_45 0 8).toInt := h_48
            refine lv_aload_n hx hb dX12_report_55 rfl (lv_at hl 0 rfl) ?_
            refine gt_X12 hx hb hts hown hK hP 0 (hW_w_45.o tM_0) 8 (by decide) wd_1409 rfl (hW_w_45.fi tM_0 rfl) dX12_report_56 ?_
            refine lv_if_le (tgt := 65) hx hb dX12_report_59 (by decide) (fun c_50 => ?_) (fun c_50 => ?_)
            · exact (In_no (R_le_l h_47 (In_lit (n := 0) (by decide) (by decide) : In 0 0 0) c_50 (by decide) : In 1 0 (fI w_45 0 8)) (by decide)).elim
            · refine lv_goto (tgt := 7) hx hb dX12_report_62 (by decide) ?_
              exact ih7 x7_6 w_45 _ _ ls (by have q := mu_fl (f2 := fI w_45 0 8) hmu7 c_42 (by have i0_8 := h_47; unfold In at i0_8; omega); rw [show fI w_45 0 5 = fI w7 0 5 from (hs_w_45.2 0 5 (by decide) (by decide)), show fI w_45 0 3 = fI w7 0 3 from (hs_w_45.2 0 3 (by decide) (by decide))]; exact q) hW_w_45 (hM_w7.tr hs_w_45 (by decide)) i_x7_6 (In_of (hs_w_45.2 0 1 (by decide) (by decide)) g7_0_1) (fun hL => (LM_cg (hs_w_45.hA (by decide)) (hs_w_45.hA (by decide)) (hl_7 hL))) (fun hL => (LY_cg (hs_w_45.hA (by decide)) (hs_w_45.hA (by decide)) (hs_w_45.2 0 37 (by decide) (by decide)) (hy_7 hL))) hP hD hS (lv_sub hl [0, 1, 2, 3, 4, 5, 6] rfl)
          · refine lv_aload_n hx hb dX12_report_29 rfl (lv_at hl 0 rfl) ?_
            refine lv_aload_n hx hb dX12_report_30 rfl (lv_at hl 0 rfl) ?_
            refine gt_X12 hx hb hts hown hK hP 0 (hW_w7.o tM_0) 7 (by decide) wd_1408 rfl (hW_w7.fl tM_0 rfl) dX12_report_31 ?_
            refine kW_i ⟨rfl, rfl⟩ hP hD hS hA (rW_V (As := [.long (fL w7 0 7)]) (rest := []) hx hb hml hown hts hK hE hP hD (k_X12_isOwn l D cI cJ cZ q w7 hW_w7 (fL w7 0 7) g7_0_1 _) ⟨⟨rfl, rfl⟩, rfl, rfl⟩ sv_X12_395 ⟨(Nat.le_trans (by decide) hR.1), (Nat.le_trans (by decide) hR.2)⟩ 0 12 (hW_w7.o tM_0) rfl rfl rfl hl.1 rfl (Nat.le_of_ble_eq_true rfl) dX12_report_34) (fun r_52 w_51 H locs hw_w_51 hP hD hS => ?_)
            obtain ⟨hW_w_51, hs_w_51, i_r_52⟩ := hw_w_51
            refine lv_if_ne (tgt := 46) hx hb dX12_report_37 (by decide) (fun c_53 => ?_) (fun c_53 => ?_)
            · refine lv_aload_n hx hb dX12_report_46 rfl (lv_at hl 0 rfl) ?_
              refine lv_iconst (v := 1) hx hb dX12_report_47 (by decide) ?_
              refine lv_aload_n hx hb dX12_report_48 rfl (lv_at hl 0 rfl) ?_
              refine gt_X12 hx hb hts hown hK hP 0 (hW_w_51.o tM_0) 4 (by decide) wd_1405 rfl (hW_w_51.fi tM_0 rfl) dX12_report_49 ?_
              refine tov (v := (fI w7 0 4)) (hs_w_51.gI (by decide)) ?_
              refine kW_v ⟨rfl, rfl⟩ hP hD hS hA (rW_V (As := [.int 1, .int (fI w7 0 4)]) (rest := []) hx hb hml hown hts hK hE hP hD (k_X12_blame l D cI cJ cZ q w_51 hW_w_51 1 (fI w7 0 4) (In_lit (n := 1) (by decide) (by decide) : In 1 5 1) (hW_w7.fin tM_0 rfl : In 0 1000 (fI w7 0 4)) (In_of (hs_w_51.gI (by decide)) g7_0_1) _) ⟨⟨rfl, rfl⟩, rfl, rfl⟩ sv_X12_308 ⟨(Nat.le_trans (by decide) hR.1), (Nat.le_trans (by decide) hR.2)⟩ 0 12 (hW_w_51.o tM_0) rfl rfl rfl hl.1 rfl (Nat.le_of_ble_eq_true rfl) dX12_report_52) (fun w_54 H locs hw_w_54 hP hD hS => ?_)
              obtain ⟨hW_w_54, hs_w_54, h_56, h_57, h_58⟩ := hw_w_54
              have f_h_57 : 1 ≤ ((fI w7 0 8) : Int32).toInt → 1 ≤ (fI w_54 0 8).toInt := ft_cg h_57 (hs_w_51.gI (by decide))
              refine lv_aload_n hx hb dX12_report_55 rfl (lv_at hl 0 rfl) ?_
              refine gt_X12 hx hb hts hown hK hP 0 (hW_w_54.o tM_0) 8 (by decide) wd_1409 rfl (hW_w_54.fi tM_0 rfl) dX12_report_56 ?_
              refine lv_if_le (tgt := 65) hx hb dX12_report_59 (by decide) (fun c_59 => ?_) (fun c_59 => ?_)
              · exact (In_no (R_le_l h_56 (In_lit (n := 0) (by decide) (by decide) : In 0 0 0) c_59 (by decide) : In 1 0 (fI w_54 0 8)) (by decide)).elim
              · refine lv_goto (tgt := 7) hx hb dX12_report_62 (by decide) ?_
                exact ih7 x7_6 w_54 _ _ ls (by have q := mu_fl (f2 := fI w_54 0 8) hmu7 c_42 (by have i0_8 := h_56; unfold In at i0_8; omega); rw [show fI w_54 0 5 = fI w7 0 5 from ((hs_w_54.2 0 5 (by decide) (by decide)).trans (hs_w_51.gI (by decide))), show fI w_54 0 3 = fI w7 0 3 from ((hs_w_54.2 0 3 (by decide) (by decide)).trans (hs_w_51.gI (by decide)))]; exact q) hW_w_54 ((hM_w7.tr hs_w_51 (by decide)).tr hs_w_54 (by decide)) i_x7_6 (In_of ((hs_w_54.2 0 1 (by decide) (by decide)).trans (hs_w_51.gI (by decide))) g7_0_1) (fun hL => (LM_cg (hs_w_54.hA (by decide)) (hs_w_54.hA (by decide)) (LM_cg (hs_w_51.hA (by decide)) (hs_w_51.hA (by decide)) (hl_7 hL)))) (fun hL => (LY_cg ((hs_w_54.hA (by decide)).trans (hs_w_51.hA (by decide))) ((hs_w_54.hA (by decide)).trans (hs_w_51.hA (by decide))) ((hs_w_54.2 0 37 (by decide) (by decide)).trans (hs_w_51.gI (by decide))) (hy_7 hL))) hP hD hS (lv_sub hl [0, 1, 2, 3, 4, 5, 6] rfl)
            · refine lv_iload hx hb dX12_report_40 (lv_at hl 6 rfl) ?_
              refine lv_iconst (v := 3) hx hb dX12_report_42 (by decide) ?_
              refine lv_icmp_ne (tgt := 55) hx hb dX12_report_43 (by decide) (fun c_60 => ?_) (fun c_60 => ?_)
              · refine lv_aload_n hx hb dX12_report_55 rfl (lv_at hl 0 rfl) ?_
                refine gt_X12 hx hb hts hown hK hP 0 (hW_w_51.o tM_0) 8 (by decide) wd_1409 rfl (hW_w_51.fi tM_0 rfl) dX12_report_56 ?_
                refine tov (v := (fI w7 0 8)) (hs_w_51.gI (by decide)) ?_
                refine lv_if_le (tgt := 65) hx hb dX12_report_59 (by decide) (fun c_61 => ?_) (fun c_61 => ?_)
                · refine lv_aload_n hx hb dX12_report_65 rfl (lv_at hl 0 rfl) ?_
                  refine gt_X12 hx hb hts hown hK hP 0 (hW_w_51.o tM_0) 44 (by decide) wd_1445 rfl (hW_w_51.fr tM_0 rfl) dX12_report_66 ?_
                  refine lv_iload hx hb dX12_report_69 (lv_at hl 6 rfl) ?_
                  refine lv_aload_n hx hb dX12_report_71 rfl (lv_at hl 0 rfl) ?_
                  refine gt_X12 hx hb hts hown hK hP 0 (hW_w_51.o tM_0) 7 (by decide) wd_1408 rfl (hW_w_51.fl tM_0 rfl) dX12_report_72 ?_
                  refine tol (v := (fL w7 0 7)) (hs_w_51.gL (by decide)) ?_
                  refine va_last hx hb hK hP hD hS 25 1 (hW_w_51.al tM_25) rfl (in_I (R_ne_l i_x7_6 (In_lit (n := 3) (by decide) (by decide) : In 3 3 3) c_60 (by decide) : In 0 2 x7_6) (by decide)) dX12_report_75 (fun H locs hP hD hS => fr_w (hW_w_51.uL tM_25) hP hD (fun w_62 ew_62 hW_w_62 hP hD => ?_))
                  refine lv_iinc (v := (x7_6 + 1)) (lv' := [(6, .int (x7_6 + 1)), (0, .ref (q 0)), (1, .int p1), (2, .int p2), (3, .int p3), (4, .int p4), (5, .int p5)]) hx hb dX12_report_76 hl (k := 6) rfl (rfl) (by decide) rfl (fun ls hl => ?_)
                  refine lv_aload_n hx hb dX12_report_79 rfl (lv_at hl 1 rfl) ?_
                  refine kW_v ⟨rfl, rfl⟩ hP hD hS hA (rW_V (As := []) (rest := []) hx hb hml hown hts hK hE hP hD (k_X12_looks l D cI cJ cZ q w_62 hW_w_62 (In_of ((fI_cg (st_ne ew_62 (by decide))).trans (hs_w_51.gI (by decide))) g7_0_1) _) ⟨⟨rfl, rfl⟩, rfl, rfl⟩ sv_X12_312 ⟨(Nat.le_trans (by decide) hR.1), (Nat.le_trans (by decide) hR.2)⟩ 0 12 (hW_w_62.o tM_0) rfl rfl rfl hl.1 rfl (Nat.le_of_ble_eq_true rfl) dX12_report_80) (fun w_63 H locs hw_w_63 hP hD hS => ?_)
                  obtain ⟨hW_w_63, hs_w_63, h_65, h_66, h_67⟩ := hw_w_63
                  have f_h_65 : 1 ≤ ((fI w7 0 8) : Int32).toInt → 1 ≤ (fI w_63 0 8).toInt := ft_cg h_65 ((fI_cg (st_ne ew_62 (by decide))).trans (hs_w_51.gI (by decide)))
                  refine lv_goto (tgt := 7) hx hb dX12_report_83 (by decide) ?_
                  exact ih7 (x7_6 + 1) w_63 _ _ ls (mu_lk hmu7 c_43 c_42 (by have e : (fI w_62 0 5).toInt = (fI w7 0 5).toInt := congrArg Int32.toInt ((fI_cg (st_ne ew_62 (by decide))).trans (hs_w_51.gI (by decide))); have g := h_66; exact ⟨by omega, g.2.1, g.2.2⟩) (by have g := (hW_w_63.fin tM_0 rfl : In 0 1000 (fI w_63 0 5)); unfold In at g; omega)) hW_w_63 (((hM_w7.tr hs_w_51 (by decide)).sa ew_62 (by decide)).tr hs_w_63 (by decide)) (In_w ((In_add (y := 1) (R_ne_l i_x7_6 (In_lit (n := 3) (by decide) (by decide) : In 3 3 3) c_60 (by decide) : In 0 2 x7_6) (In_lit (n := 1) (by decide) (by decide) : In 1 1 1) (by decide)) : In 1 3 (x7_6 + 1)) (by decide) : In 0 3 (x7_6 + 1)) (In_of ((hs_w_63.2 0 1 (by decide) (by decide)).trans ((fI_cg (st_ne ew_62 (by decide))).trans (hs_w_51.gI (by decide)))) g7_0_1) (fun hL => (LM_cg (hs_w_63.hA (by decide)) (hs_w_63.hA (by decide)) (LM_cg (aF_cg (st_ne ew_62 (by decide))) (aF_cg (st_ne ew_62 (by decide))) (LM_cg (hs_w_51.hA (by decide)) (hs_w_51.hA (by decide)) (hl_7 hL))))) (fun hL => (LY_cg ((hs_w_63.hA (by decide)).trans ((aF_cg (st_ne ew_62 (by decide))).trans (hs_w_51.hA (by decide)))) ((hs_w_63.hA (by decide)).trans ((aF_cg (st_ne ew_62 (by decide))).trans (hs_w_51.hA (by decide)))) ((hs_w_63.2 0 37 (by decide) (by decide)).trans ((fI_cg (st_ne ew_62 (by decide))).trans (hs_w_51.gI (by decide)))) (hy_7 hL))) hP hD hS (lv_sub hl [1, 2, 3, 4, 5, 6, 0] rfl)
                · exact (In_no (R_nle_l (R_eq_l (hW_w7.fin tM_0 rfl : In 0 5 (fI w7 0 8)) (In_lit (n := 0) (by decide) (by decide) : In 0 0 0) c_42 (by decide) : In 0 0 (fI w7 0 8)) (In_lit (n := 0) (by decide) (by decide) : In 0 0 0) c_61 (by decide) : In 1 0 (fI w7 0 8)) (by decide)).elim
              · refine lv_aload_n hx hb dX12_report_46 rfl (lv_at hl 0 rfl) ?_
                refine lv_iconst (v := 1) hx hb dX12_report_47 (by decide) ?_
                refine lv_aload_n hx hb dX12_report_48 rfl (lv_at hl 0 rfl) ?_
                refine gt_X12 hx hb hts hown hK hP 0 (hW_w_51.o tM_0) 4 (by decide) wd_1405 rfl (hW_w_51.fi tM_0 rfl) dX12_report_49 ?_
                refine tov (v := (fI w7 0 4)) (hs_w_51.gI (by decide)) ?_
                refine kW_v ⟨rfl, rfl⟩ hP hD hS hA (rW_V (As := [.int 1, .int (fI w7 0 4)]) (rest := []) hx hb hml hown hts hK hE hP hD (k_X12_blame l D cI cJ cZ q w_51 hW_w_51 1 (fI w7 0 4) (In_lit (n := 1) (by decide) (by decide) : In 1 5 1) (hW_w7.fin tM_0 rfl : In 0 1000 (fI w7 0 4)) (In_of (hs_w_51.gI (by decide)) g7_0_1) _) ⟨⟨rfl, rfl⟩, rfl, rfl⟩ sv_X12_308 ⟨(Nat.le_trans (by decide) hR.1), (Nat.le_trans (by decide) hR.2)⟩ 0 12 (hW_w_51.o tM_0) rfl rfl rfl hl.1 rfl (Nat.le_of_ble_eq_true rfl) dX12_report_52) (fun w_68 H locs hw_w_68 hP hD hS => ?_)
                obtain ⟨hW_w_68, hs_w_68, h_70, h_71, h_72⟩ := hw_w_68
                have f_h_71 : 1 ≤ ((fI w7 0 8) : Int32).toInt → 1 ≤ (fI w_68 0 8).toInt := ft_cg h_71 (hs_w_51.gI (by decide))
                refine lv_aload_n hx hb dX12_report_55 rfl (lv_at hl 0 rfl) ?_
                refine gt_X12 hx hb hts hown hK hP 0 (hW_w_68.o tM_0) 8 (by decide) wd_1409 rfl (hW_w_68.fi tM_0 rfl) dX12_report_56 ?_
                refine lv_if_le (tgt := 65) hx hb dX12_report_59 (by decide) (fun c_73 => ?_) (fun c_73 => ?_)
                · exact (In_no (R_le_l h_70 (In_lit (n := 0) (by decide) (by decide) : In 0 0 0) c_73 (by decide) : In 1 0 (fI w_68 0 8)) (by decide)).elim
                · refine lv_goto (tgt := 7) hx hb dX12_report_62 (by decide) ?_
                  exact ih7 x7_6 w_68 _ _ ls (by have q := mu_fl (f2 := fI w_68 0 8) hmu7 c_42 (by have i0_8 := h_70; unfold In at i0_8; omega); rw [show fI w_68 0 5 = fI w7 0 5 from ((hs_w_68.2 0 5 (by decide) (by decide)).trans (hs_w_51.gI (by decide))), show fI w_68 0 3 = fI w7 0 3 from ((hs_w_68.2 0 3 (by decide) (by decide)).trans (hs_w_51.gI (by decide)))]; exact q) hW_w_68 ((hM_w7.tr hs_w_51 (by decide)).tr hs_w_68 (by decide)) (In_w (R_eq_l i_x7_6 (In_lit (n := 3) (by decide) (by decide) : In 3 3 3) c_60 (by decide) : In 3 3 x7_6) (by decide) : In 0 3 x7_6) (In_of ((hs_w_68.2 0 1 (by decide) (by decide)).trans (hs_w_51.gI (by decide))) g7_0_1) (fun hL => (LM_cg (hs_w_68.hA (by decide)) (hs_w_68.hA (by decide)) (LM_cg (hs_w_51.hA (by decide)) (hs_w_51.hA (by decide)) (hl_7 hL)))) (fun hL => (LY_cg ((hs_w_68.hA (by decide)).trans (hs_w_51.hA (by decide))) ((hs_w_68.hA (by decide)).trans (hs_w_51.hA (by decide))) ((hs_w_68.2 0 37 (by decide) (by decide)).trans (hs_w_51.gI (by decide))) (hy_7 hL))) hP hD hS (lv_sub hl [0, 1, 2, 3, 4, 5, 6] rfl)
  refine lv_aload_n hx hb dX12_report_0 rfl (lv_at hl 0 rfl) ?_
  refine kW_v ⟨rfl, rfl⟩ hP hD hS hA (rW_V (As := []) (rest := []) hx hb hml hown hts hK hE hP hD (k_X12_starts l D cI cJ cZ q w hW_w  _) ⟨⟨rfl, rfl⟩, rfl, rfl⟩ sv_X12_439 ⟨(Nat.le_trans (by decide) hR.1), (Nat.le_trans (by decide) hR.2)⟩ 0 12 (hW_w.o tM_0) rfl rfl rfl hl.1 rfl (Nat.le_of_ble_eq_true rfl) dX12_report_1) (fun w_74 H locs hw_w_74 hP hD hS => ?_)
  obtain ⟨hW_w_74, hs_w_74, h_76⟩ := hw_w_74
  refine lv_iconst (v := 0) hx hb dX12_report_4 (by decide) ?_
  refine lv_istore (lv' := [(6, .int 0), (0, .ref (q 0)), (1, .int p1), (2, .int p2), (3, .int p3), (4, .int p4), (5, .int p5)]) hx hb dX12_report_5 hl (by decide) rfl (fun ls hl => ?_)
  exact J7 _ 0 w_74 _ _ ls (Nat.lt_succ_self _) hW_w_74 (Sm.rf.tr hs_w_74 (by decide)) (In_lit (n := 0) (by decide) (by decide) : In 0 3 0) h_76 (fun hL => (LM_cg (hs_w_74.hA (by decide)) (hs_w_74.hA (by decide)) hL)) (fun hL => (LY_cg (hs_w_74.hA (by decide)) (hs_w_74.hA (by decide)) (hs_w_74.2 0 37 (by decide) (by decide)) hL)) hP hD hS (lv_sub hl [1, 2, 3, 4, 5, 6, 0] rfl)
set_option maxRecDepth 100000 in
set_option maxHeartbeats 8000000 in
theorem k_X12_gifts (l : Launch) (D : va_G) (cI cJ cZ : ClassId) (q : Nat → Nat) (w : va_W) (hW_w : HT q (TM q cI cJ cZ) w) (p1 : Int32) (p2 : Int32) (p3 : Int32) : Con_i l yX12_gifts cX12_gifts 4 (some .int) ({ frames := 1, cells := 0, slots := 0, locals := 26 }) D cI cJ cZ eW [.ref (q 0), .int p1, .int p2, .int p3] w (fun (r : Int32) (w1 : va_W) => HT q (TM q cI cJ cZ) w1 ∧ Sm [0, 21, 22, 23] [(0, 37)] w w1 ∧ In (-1) 200 r ∧ ((LM w → LM w1)) ∧ ((LY w → LY w1))) := by
  refine eQ_i rfl (by decide) (Nat.le_of_ble_eq_true rfl) ⟨rfl, rfl⟩ ?_
  intro p e R s m args below meth c A Q hx hb hml hown hts hK hE hA hR hret hP hD hS ls hl
  have hown : s.vm.findClass RX12 = some m.cls := hown
  have hl : lv_has ls 4 [(0, .ref (q 0)), (1, .int p1), (2, .int p2), (3, .int p3)] := hl
  refine lv_aload_n hx hb dX12_gifts_0 rfl (lv_at hl 0 rfl) ?_
  refine lv_iload_n hx hb dX12_gifts_1 rfl (lv_at hl 1 rfl) ?_
  refine kW_i ⟨rfl, rfl⟩ hP hD hS hA (rW_V (As := [.int p1]) (rest := []) hx hb hml hown hts hK hE hP hD (k_X12_isKind l D cI cJ cZ q w hW_w p1 _) ⟨⟨rfl, rfl⟩, rfl, rfl⟩ sv_X12_450 ⟨(Nat.le_trans (by decide) hR.1), (Nat.le_trans (by decide) hR.2)⟩ 0 12 (hW_w.o tM_0) rfl rfl rfl hl.1 rfl (Nat.le_of_ble_eq_true rfl) dX12_gifts_2) (fun r_2 w_1 H locs hw_w_1 hP hD hS => ?_)
  obtain ⟨hW_w_1, hs_w_1, i_r_2, h_3⟩ := hw_w_1
  refine lv_if_eq (tgt := 38) hx hb dX12_gifts_5 (by decide) (fun c_4 => ?_) (fun c_4 => ?_)
  · refine lv_iconst (v := (-1)) hx hb dX12_gifts_38 (by decide) ?_
    refine lv_goto (tgt := 52) hx hb dX12_gifts_39 (by decide) ?_
    exact hret _ _ _ _ _ _ hP hD hS dX12_gifts_52 ⟨hW_w_1, (Sm.rf.tr hs_w_1 (by decide)), (In_lit (n := (-1)) (by decide) (by decide) : In (-1) 200 (-1)), (fun hL => (LM_cg (hs_w_1.hA (by decide)) (hs_w_1.hA (by decide)) hL)), (fun hL => (LY_cg (hs_w_1.hA (by decide)) (hs_w_1.hA (by decide)) (hs_w_1.gI (by decide)) hL))⟩
  · refine lv_iload_n hx hb dX12_gifts_8 rfl (lv_at hl 2 rfl) ?_
    refine lv_iconst (v := 1) hx hb dX12_gifts_9 (by decide) ?_
    refine lv_bipush (v := 24) hx hb dX12_gifts_10 (by decide) ?_
    refine kW_i ⟨rfl, rfl⟩ hP hD hS hA (rW_S (As := [.int p2, .int 1, .int 24]) (rest := []) hx hb hml hown hts hK hE hP hD (k_X12_is l D cI cJ cZ q w_1 hW_w_1 p2 1 24 _) ⟨⟨rfl, rfl⟩, rfl, rfl⟩ sv_X12_322 ⟨(Nat.le_trans (by decide) hR.1), (Nat.le_trans (by decide) hR.2)⟩ rfl hl.1 rfl (Nat.le_of_ble_eq_true rfl) dX12_gifts_12) (fun r_6 w_5 H locs hw_w_5 hP hD hS => ?_)
    obtain ⟨hW_w_5, hs_w_5, i_r_6, h_7⟩ := hw_w_5
    refine lv_if_eq (tgt := 38) hx hb dX12_gifts_15 (by decide) (fun c_8 => ?_) (fun c_8 => ?_)
    · refine lv_iconst (v := (-1)) hx hb dX12_gifts_38 (by decide) ?_
      refine lv_goto (tgt := 52) hx hb dX12_gifts_39 (by decide) ?_
      exact hret _ _ _ _ _ _ hP hD hS dX12_gifts_52 ⟨hW_w_5, ((Sm.rf.tr hs_w_1 (by decide)).tr hs_w_5 (by decide)), (In_lit (n := (-1)) (by decide) (by decide) : In (-1) 200 (-1)), (fun hL => (LM_cg (hs_w_5.hA (by decide)) (hs_w_5.hA (by decide)) (LM_cg (hs_w_1.hA (by decide)) (hs_w_1.hA (by decide)) hL))), (fun hL => (LY_cg ((hs_w_5.hA (by decide)).trans (hs_w_1.hA (by decide))) ((hs_w_5.hA (by decide)).trans (hs_w_1.hA (by decide))) ((hs_w_5.gI (by decide)).trans (hs_w_1.gI (by decide))) hL))⟩
    · refine lv_iload_n hx hb dX12_gifts_18 rfl (lv_at hl 3 rfl) ?_
      refine lv_iconst (v := 1) hx hb dX12_gifts_19 (by decide) ?_
      refine lv_bipush (v := 99) hx hb dX12_gifts_20 (by decide) ?_
      refine kW_i ⟨rfl, rfl⟩ hP hD hS hA (rW_S (As := [.int p3, .int 1, .int 99]) (rest := []) hx hb hml hown hts hK hE hP hD (k_X12_is l D cI cJ cZ q w_5 hW_w_5 p3 1 99 _) ⟨⟨rfl, rfl⟩, rfl, rfl⟩ sv_X12_322 ⟨(Nat.le_trans (by decide) hR.1), (Nat.le_trans (by decide) hR.2)⟩ rfl hl.1 rfl (Nat.le_of_ble_eq_true rfl) dX12_gifts_22) (fun r_10 w_9 H locs hw_w_9 hP hD hS => ?_)
      obtain ⟨hW_w_9, hs_w_9, i_r_10, h_11⟩ := hw_w_9
      refine lv_if_eq (tgt := 38) hx hb dX12_gifts_25 (by decide) (fun c_12 => ?_) (fun c_12 => ?_)
      · refine lv_iconst (v := (-1)) hx hb dX12_gifts_38 (by decide) ?_
        refine lv_goto (tgt := 52) hx hb dX12_gifts_39 (by decide) ?_
        exact hret _ _ _ _ _ _ hP hD hS dX12_gifts_52 ⟨hW_w_9, (((Sm.rf.tr hs_w_1 (by decide)).tr hs_w_5 (by decide)).tr hs_w_9 (by decide)), (In_lit (n := (-1)) (by decide) (by decide) : In (-1) 200 (-1)), (fun hL => (LM_cg (hs_w_9.hA (by decide)) (hs_w_9.hA (by decide)) (LM_cg (hs_w_5.hA (by decide)) (hs_w_5.hA (by decide)) (LM_cg (hs_w_1.hA (by decide)) (hs_w_1.hA (by decide)) hL)))), (fun hL => (LY_cg ((hs_w_9.hA (by decide)).trans ((hs_w_5.hA (by decide)).trans (hs_w_1.hA (by decide)))) ((hs_w_9.hA (by decide)).trans ((hs_w_5.hA (by decide)).trans (hs_w_1.hA (by decide)))) ((hs_w_9.gI (by decide)).trans ((hs_w_5.gI (by decide)).trans (hs_w_1.gI (by decide)))) hL))⟩
      · refine lv_aload_n hx hb dX12_gifts_28 rfl (lv_at hl 0 rfl) ?_
        refine gt_X12 hx hb hts hown hK hP 0 (hW_w_9.o tM_0) 37 (by decide) wd_1438 rfl (hW_w_9.fi tM_0 rfl) dX12_gifts_29 ?_
        refine tov (v := (fI w 0 37)) ((hs_w_9.gI (by decide)).trans ((hs_w_5.gI (by decide)).trans (hs_w_1.gI (by decide)))) ?_
        refine lv_sipush (v := 200) hx hb dX12_gifts_32 (by decide) ?_
        refine lv_icmp_ne (tgt := 42) hx hb dX12_gifts_35 (by decide) (fun c_13 => ?_) (fun c_13 => ?_)
        · refine lv_aload_n hx hb dX12_gifts_42 rfl (lv_at hl 0 rfl) ?_
          refine lv_iconst (v := 1) hx hb dX12_gifts_43 (by decide) ?_
          refine lv_iload_n hx hb dX12_gifts_44 rfl (lv_at hl 1 rfl) ?_
          refine lv_iload_n hx hb dX12_gifts_45 rfl (lv_at hl 2 rfl) ?_
          refine lv_iload_n hx hb dX12_gifts_46 rfl (lv_at hl 3 rfl) ?_
          refine lv_iconst (v := 0) hx hb dX12_gifts_47 (by decide) ?_
          refine lv_iconst (v := 0) hx hb dX12_gifts_48 (by decide) ?_
          refine kW_i ⟨rfl, rfl⟩ hP hD hS hA (rW_V (As := [.int 1, .int p1, .int p2, .int p3, .int 0, .int 0]) (rest := []) hx hb hml hown hts hK hE hP hD (k_X12_tells l D cI cJ cZ q w_9 hW_w_9 1 p1 p2 p3 0 0 (In_lit (n := 1) (by decide) (by decide) : In 0 3 1) (In_w (h_3 c_4) (by decide) : In 0 9999 p1) (In_w (by have q0 := h_7 c_8; have q1 := (In_lit (n := 1) (by decide) (by decide) : In 1 1 1); have q2 := (In_lit (n := 24) (by decide) (by decide) : In 24 24 24); have q3 := (In_any p2); unfold In at q1 q2 q3 ⊢; omega : In 1 24 p2) (by decide) : In 0 24 p2) (In_w (by have q0 := h_11 c_12; have q1 := (In_lit (n := 1) (by decide) (by decide) : In 1 1 1); have q2 := (In_lit (n := 99) (by decide) (by decide) : In 99 99 99); have q3 := (In_any p3); unfold In at q1 q2 q3 ⊢; omega : In 1 99 p3) (by decide) : In 0 99 p3) (In_lit (n := 0) (by decide) (by decide) : In 0 999 0) (In_lit (n := 0) (by decide) (by decide) : In 0 24 0) (In_of ((hs_w_9.gI (by decide)).trans ((hs_w_5.gI (by decide)).trans (hs_w_1.gI (by decide)))) (R_ne_l (hW_w.fin tM_0 rfl : In 0 200 (fI w 0 37)) (In_lit (n := 200) (by decide) (by decide) : In 200 200 200) c_13 (by decide) : In 0 199 (fI w 0 37))) _) ⟨⟨rfl, rfl⟩, rfl, rfl⟩ sv_X12_453 ⟨(Nat.le_trans (by decide) hR.1), (Nat.le_trans (by decide) hR.2)⟩ 0 12 (hW_w_9.o tM_0) rfl rfl rfl hl.1 rfl (Nat.le_of_ble_eq_true rfl) dX12_gifts_49) (fun r_15 w_14 H locs hw_w_14 hP hD hS => ?_)
          obtain ⟨hW_w_14, hs_w_14, i_r_15, h_16, h_17, h_18⟩ := hw_w_14
          exact hret _ _ _ _ _ _ hP hD hS dX12_gifts_52 ⟨hW_w_14, ((((Sm.rf.tr hs_w_1 (by decide)).tr hs_w_5 (by decide)).tr hs_w_9 (by decide)).tr hs_w_14 (by decide)), (In_w i_r_15 (by decide) : In (-1) 200 r_15), (fun hL => (h_17 (LM_cg (hs_w_9.hA (by decide)) (hs_w_9.hA (by decide)) (LM_cg (hs_w_5.hA (by decide)) (hs_w_5.hA (by decide)) (LM_cg (hs_w_1.hA (by decide)) (hs_w_1.hA (by decide)) hL))) ⟨(fun q => absurd q (by decide)), (fun _ => ⟨(h_3 c_4), (In_w (by have q0 := h_7 c_8; have q1 := (In_lit (n := 1) (by decide) (by decide) : In 1 1 1); have q2 := (In_lit (n := 24) (by decide) (by decide) : In 24 24 24); have q3 := (In_any p2); unfold In at q1 q2 q3 ⊢; omega : In 1 24 p2) (by decide) : In 0 24 p2)⟩)⟩)), (fun hL => (h_18 (LY_cg ((hs_w_9.hA (by decide)).trans ((hs_w_5.hA (by decide)).trans (hs_w_1.hA (by decide)))) ((hs_w_9.hA (by decide)).trans ((hs_w_5.hA (by decide)).trans (hs_w_1.hA (by decide)))) ((hs_w_9.gI (by decide)).trans ((hs_w_5.gI (by decide)).trans (hs_w_1.gI (by decide)))) hL) (fun q => absurd q (by decide))))⟩
        · refine lv_iconst (v := (-1)) hx hb dX12_gifts_38 (by decide) ?_
          refine lv_goto (tgt := 52) hx hb dX12_gifts_39 (by decide) ?_
          exact hret _ _ _ _ _ _ hP hD hS dX12_gifts_52 ⟨hW_w_9, (((Sm.rf.tr hs_w_1 (by decide)).tr hs_w_5 (by decide)).tr hs_w_9 (by decide)), (In_lit (n := (-1)) (by decide) (by decide) : In (-1) 200 (-1)), (fun hL => (LM_cg (hs_w_9.hA (by decide)) (hs_w_9.hA (by decide)) (LM_cg (hs_w_5.hA (by decide)) (hs_w_5.hA (by decide)) (LM_cg (hs_w_1.hA (by decide)) (hs_w_1.hA (by decide)) hL)))), (fun hL => (LY_cg ((hs_w_9.hA (by decide)).trans ((hs_w_5.hA (by decide)).trans (hs_w_1.hA (by decide)))) ((hs_w_9.hA (by decide)).trans ((hs_w_5.hA (by decide)).trans (hs_w_1.hA (by decide)))) ((hs_w_9.gI (by decide)).trans ((hs_w_5.gI (by decide)).trans (hs_w_1.gI (by decide)))) hL))⟩
set_option maxRecDepth 100000 in
set_option maxHeartbeats 8000000 in
theorem k_X12_call (l : Launch) (D : va_G) (cI cJ cZ : ClassId) (q : Nat → Nat) (w : va_W) (hW_w : HT q (TM q cI cJ cZ) w) (p1 : Int32) (p2 : Int32) : Con_i l yX12_call cX12_call 3 (some .int) ({ frames := 1, cells := 0, slots := 0, locals := 26 }) D cI cJ cZ eW [.ref (q 0), .int p1, .int p2] w (fun (r : Int32) (w1 : va_W) => HT q (TM q cI cJ cZ) w1 ∧ Sm [0, 21, 22, 23] [(0, 37)] w w1 ∧ In (-1) 200 r ∧ ((LM w → LM w1)) ∧ ((LY w → LY w1))) := by
  refine eQ_i rfl (by decide) (Nat.le_of_ble_eq_true rfl) ⟨rfl, rfl⟩ ?_
  intro p e R s m args below meth c A Q hx hb hml hown hts hK hE hA hR hret hP hD hS ls hl
  have hown : s.vm.findClass RX12 = some m.cls := hown
  have hl : lv_has ls 3 [(0, .ref (q 0)), (1, .int p1), (2, .int p2)] := hl
  refine lv_aload_n hx hb dX12_call_0 rfl (lv_at hl 0 rfl) ?_
  refine lv_iload_n hx hb dX12_call_1 rfl (lv_at hl 1 rfl) ?_
  refine kW_i ⟨rfl, rfl⟩ hP hD hS hA (rW_V (As := [.int p1]) (rest := []) hx hb hml hown hts hK hE hP hD (k_X12_isKind l D cI cJ cZ q w hW_w p1 _) ⟨⟨rfl, rfl⟩, rfl, rfl⟩ sv_X12_450 ⟨(Nat.le_trans (by decide) hR.1), (Nat.le_trans (by decide) hR.2)⟩ 0 12 (hW_w.o tM_0) rfl rfl rfl hl.1 rfl (Nat.le_of_ble_eq_true rfl) dX12_call_2) (fun r_2 w_1 H locs hw_w_1 hP hD hS => ?_)
  obtain ⟨hW_w_1, hs_w_1, i_r_2, h_3⟩ := hw_w_1
  refine lv_if_eq (tgt := 28) hx hb dX12_call_5 (by decide) (fun c_4 => ?_) (fun c_4 => ?_)
  · refine lv_iconst (v := (-1)) hx hb dX12_call_28 (by decide) ?_
    refine lv_goto (tgt := 42) hx hb dX12_call_29 (by decide) ?_
    exact hret _ _ _ _ _ _ hP hD hS dX12_call_42 ⟨hW_w_1, (Sm.rf.tr hs_w_1 (by decide)), (In_lit (n := (-1)) (by decide) (by decide) : In (-1) 200 (-1)), (fun hL => (LM_cg (hs_w_1.hA (by decide)) (hs_w_1.hA (by decide)) hL)), (fun hL => (LY_cg (hs_w_1.hA (by decide)) (hs_w_1.hA (by decide)) (hs_w_1.gI (by decide)) hL))⟩
  · refine lv_iload_n hx hb dX12_call_8 rfl (lv_at hl 2 rfl) ?_
    refine lv_iconst (v := 1) hx hb dX12_call_9 (by decide) ?_
    refine lv_bipush (v := 24) hx hb dX12_call_10 (by decide) ?_
    refine kW_i ⟨rfl, rfl⟩ hP hD hS hA (rW_S (As := [.int p2, .int 1, .int 24]) (rest := []) hx hb hml hown hts hK hE hP hD (k_X12_is l D cI cJ cZ q w_1 hW_w_1 p2 1 24 _) ⟨⟨rfl, rfl⟩, rfl, rfl⟩ sv_X12_322 ⟨(Nat.le_trans (by decide) hR.1), (Nat.le_trans (by decide) hR.2)⟩ rfl hl.1 rfl (Nat.le_of_ble_eq_true rfl) dX12_call_12) (fun r_6 w_5 H locs hw_w_5 hP hD hS => ?_)
    obtain ⟨hW_w_5, hs_w_5, i_r_6, h_7⟩ := hw_w_5
    refine lv_if_eq (tgt := 28) hx hb dX12_call_15 (by decide) (fun c_8 => ?_) (fun c_8 => ?_)
    · refine lv_iconst (v := (-1)) hx hb dX12_call_28 (by decide) ?_
      refine lv_goto (tgt := 42) hx hb dX12_call_29 (by decide) ?_
      exact hret _ _ _ _ _ _ hP hD hS dX12_call_42 ⟨hW_w_5, ((Sm.rf.tr hs_w_1 (by decide)).tr hs_w_5 (by decide)), (In_lit (n := (-1)) (by decide) (by decide) : In (-1) 200 (-1)), (fun hL => (LM_cg (hs_w_5.hA (by decide)) (hs_w_5.hA (by decide)) (LM_cg (hs_w_1.hA (by decide)) (hs_w_1.hA (by decide)) hL))), (fun hL => (LY_cg ((hs_w_5.hA (by decide)).trans (hs_w_1.hA (by decide))) ((hs_w_5.hA (by decide)).trans (hs_w_1.hA (by decide))) ((hs_w_5.gI (by decide)).trans (hs_w_1.gI (by decide))) hL))⟩
    · refine lv_aload_n hx hb dX12_call_18 rfl (lv_at hl 0 rfl) ?_
      refine gt_X12 hx hb hts hown hK hP 0 (hW_w_5.o tM_0) 37 (by decide) wd_1438 rfl (hW_w_5.fi tM_0 rfl) dX12_call_19 ?_
      refine tov (v := (fI w 0 37)) ((hs_w_5.gI (by decide)).trans (hs_w_1.gI (by decide))) ?_
      refine lv_sipush (v := 200) hx hb dX12_call_22 (by decide) ?_
      refine lv_icmp_ne (tgt := 32) hx hb dX12_call_25 (by decide) (fun c_9 => ?_) (fun c_9 => ?_)
      · refine lv_aload_n hx hb dX12_call_32 rfl (lv_at hl 0 rfl) ?_
        refine lv_iconst (v := 2) hx hb dX12_call_33 (by decide) ?_
        refine lv_iload_n hx hb dX12_call_34 rfl (lv_at hl 1 rfl) ?_
        refine lv_iload_n hx hb dX12_call_35 rfl (lv_at hl 2 rfl) ?_
        refine lv_iconst (v := 0) hx hb dX12_call_36 (by decide) ?_
        refine lv_iconst (v := 0) hx hb dX12_call_37 (by decide) ?_
        refine lv_iconst (v := 0) hx hb dX12_call_38 (by decide) ?_
        refine kW_i ⟨rfl, rfl⟩ hP hD hS hA (rW_V (As := [.int 2, .int p1, .int p2, .int 0, .int 0, .int 0]) (rest := []) hx hb hml hown hts hK hE hP hD (k_X12_tells l D cI cJ cZ q w_5 hW_w_5 2 p1 p2 0 0 0 (In_lit (n := 2) (by decide) (by decide) : In 0 3 2) (In_w (h_3 c_4) (by decide) : In 0 9999 p1) (In_w (by have q0 := h_7 c_8; have q1 := (In_lit (n := 1) (by decide) (by decide) : In 1 1 1); have q2 := (In_lit (n := 24) (by decide) (by decide) : In 24 24 24); have q3 := (In_any p2); unfold In at q1 q2 q3 ⊢; omega : In 1 24 p2) (by decide) : In 0 24 p2) (In_lit (n := 0) (by decide) (by decide) : In 0 99 0) (In_lit (n := 0) (by decide) (by decide) : In 0 999 0) (In_lit (n := 0) (by decide) (by decide) : In 0 24 0) (In_of ((hs_w_5.gI (by decide)).trans (hs_w_1.gI (by decide))) (R_ne_l (hW_w.fin tM_0 rfl : In 0 200 (fI w 0 37)) (In_lit (n := 200) (by decide) (by decide) : In 200 200 200) c_9 (by decide) : In 0 199 (fI w 0 37))) _) ⟨⟨rfl, rfl⟩, rfl, rfl⟩ sv_X12_453 ⟨(Nat.le_trans (by decide) hR.1), (Nat.le_trans (by decide) hR.2)⟩ 0 12 (hW_w_5.o tM_0) rfl rfl rfl hl.1 rfl (Nat.le_of_ble_eq_true rfl) dX12_call_39) (fun r_11 w_10 H locs hw_w_10 hP hD hS => ?_)
        obtain ⟨hW_w_10, hs_w_10, i_r_11, h_12, h_13, h_14⟩ := hw_w_10
        exact hret _ _ _ _ _ _ hP hD hS dX12_call_42 ⟨hW_w_10, (((Sm.rf.tr hs_w_1 (by decide)).tr hs_w_5 (by decide)).tr hs_w_10 (by decide)), (In_w i_r_11 (by decide) : In (-1) 200 r_11), (fun hL => (h_13 (LM_cg (hs_w_5.hA (by decide)) (hs_w_5.hA (by decide)) (LM_cg (hs_w_1.hA (by decide)) (hs_w_1.hA (by decide)) hL)) ⟨(fun q => absurd q (by decide)), (fun q => absurd q (by decide))⟩)), (fun hL => (h_14 (LY_cg ((hs_w_5.hA (by decide)).trans (hs_w_1.hA (by decide))) ((hs_w_5.hA (by decide)).trans (hs_w_1.hA (by decide))) ((hs_w_5.gI (by decide)).trans (hs_w_1.gI (by decide))) hL) (fun q => absurd q (by decide))))⟩
      · refine lv_iconst (v := (-1)) hx hb dX12_call_28 (by decide) ?_
        refine lv_goto (tgt := 42) hx hb dX12_call_29 (by decide) ?_
        exact hret _ _ _ _ _ _ hP hD hS dX12_call_42 ⟨hW_w_5, ((Sm.rf.tr hs_w_1 (by decide)).tr hs_w_5 (by decide)), (In_lit (n := (-1)) (by decide) (by decide) : In (-1) 200 (-1)), (fun hL => (LM_cg (hs_w_5.hA (by decide)) (hs_w_5.hA (by decide)) (LM_cg (hs_w_1.hA (by decide)) (hs_w_1.hA (by decide)) hL))), (fun hL => (LY_cg ((hs_w_5.hA (by decide)).trans (hs_w_1.hA (by decide))) ((hs_w_5.hA (by decide)).trans (hs_w_1.hA (by decide))) ((hs_w_5.gI (by decide)).trans (hs_w_1.gI (by decide))) hL))⟩
set_option maxRecDepth 100000 in
set_option maxHeartbeats 8000000 in
theorem k_X12_annul (l : Launch) (D : va_G) (cI cJ cZ : ClassId) (q : Nat → Nat) (w : va_W) (hW_w : HT q (TM q cI cJ cZ) w) (p1 : Int32) : Con_i l yX12_annul cX12_annul 3 (some .int) ({ frames := 1, cells := 0, slots := 0, locals := 26 }) D cI cJ cZ eW [.ref (q 0), .int p1] w (fun (r : Int32) (w1 : va_W) => HT q (TM q cI cJ cZ) w1 ∧ Sm [0, 21, 22, 23] [(0, 37)] w w1 ∧ In (-1) 200 r ∧ ((LM w → LM w1)) ∧ ((LY w → LY w1))) := by
  refine eQ_i rfl (by decide) (Nat.le_of_ble_eq_true rfl) ⟨rfl, rfl⟩ ?_
  intro p e R s m args below meth c A Q hx hb hml hown hts hK hE hA hR hret hP hD hS ls hl
  have hown : s.vm.findClass RX12 = some m.cls := hown
  have hl : lv_has ls 3 [(0, .ref (q 0)), (1, .int p1)] := hl
  refine lv_iload_n hx hb dX12_annul_0 rfl (lv_at hl 1 rfl) ?_
  refine lv_iconst (v := 1) hx hb dX12_annul_1 (by decide) ?_
  refine lv_icmp_lt (tgt := 42) hx hb dX12_annul_2 (by decide) (fun c_1 => ?_) (fun c_1 => ?_)
  · refine lv_iconst (v := (-1)) hx hb dX12_annul_42 (by decide) ?_
    exact hret _ _ _ _ _ _ hP hD hS dX12_annul_43 ⟨hW_w, Sm.rf, (In_lit (n := (-1)) (by decide) (by decide) : In (-1) 200 (-1)), (fun hL => hL), (fun hL => hL)⟩
  · refine lv_iload_n hx hb dX12_annul_5 rfl (lv_at hl 1 rfl) ?_
    refine lv_aload_n hx hb dX12_annul_6 rfl (lv_at hl 0 rfl) ?_
    refine gt_X12 hx hb hts hown hK hP 0 (hW_w.o tM_0) 37 (by decide) wd_1438 rfl (hW_w.fi tM_0 rfl) dX12_annul_7 ?_
    refine lv_icmp_gt (tgt := 42) hx hb dX12_annul_10 (by decide) (fun c_2 => ?_) (fun c_2 => ?_)
    · refine lv_iconst (v := (-1)) hx hb dX12_annul_42 (by decide) ?_
      exact hret _ _ _ _ _ _ hP hD hS dX12_annul_43 ⟨hW_w, Sm.rf, (In_lit (n := (-1)) (by decide) (by decide) : In (-1) 200 (-1)), (fun hL => hL), (fun hL => hL)⟩
    · refine lv_aload_n hx hb dX12_annul_13 rfl (lv_at hl 0 rfl) ?_
      refine gt_X12 hx hb hts hown hK hP 0 (hW_w.o tM_0) 40 (by decide) wd_1441 rfl (hW_w.fr tM_0 rfl) dX12_annul_14 ?_
      refine lv_iload_n hx hb dX12_annul_17 rfl (lv_at hl 1 rfl) ?_
      refine va_iald hx hb hK hP 21 0 (hW_w.a tM_21) rfl (in_I (R_nlt_r (hW_w.fin tM_0 rfl : In 0 200 (fI w 0 37)) (R_nlt_l (In_any p1) (In_lit (n := 1) (by decide) (by decide) : In 1 1 1) c_1 (by decide) : In 1 2147483647 p1) c_2 (by decide) : In 1 200 p1) (by decide)) dX12_annul_18 ?_
      refine lv_topi (fun v_3 ev_3 => ?_)
      refine lv_iconst (v := 3) hx hb dX12_annul_19 (by decide) ?_
      refine lv_icmp_eq (tgt := 42) hx hb dX12_annul_20 (by decide) (fun c_4 => ?_) (fun c_4 => ?_)
      · refine lv_iconst (v := (-1)) hx hb dX12_annul_42 (by decide) ?_
        exact hret _ _ _ _ _ _ hP hD hS dX12_annul_43 ⟨hW_w, Sm.rf, (In_lit (n := (-1)) (by decide) (by decide) : In (-1) 200 (-1)), (fun hL => hL), (fun hL => hL)⟩
      · refine lv_aload_n hx hb dX12_annul_23 rfl (lv_at hl 0 rfl) ?_
        refine gt_X12 hx hb hts hown hK hP 0 (hW_w.o tM_0) 42 (by decide) wd_1443 rfl (hW_w.fr tM_0 rfl) dX12_annul_24 ?_
        refine lv_iload_n hx hb dX12_annul_27 rfl (lv_at hl 1 rfl) ?_
        refine va_iald hx hb hK hP 23 0 (hW_w.a tM_23) rfl (in_I (R_nlt_r (hW_w.fin tM_0 rfl : In 0 200 (fI w 0 37)) (R_nlt_l (In_any p1) (In_lit (n := 1) (by decide) (by decide) : In 1 1 1) c_1 (by decide) : In 1 2147483647 p1) c_2 (by decide) : In 1 200 p1) (by decide)) dX12_annul_28 ?_
        refine lv_topi (fun v_5 ev_5 => ?_)
        refine lv_if_gt (tgt := 42) hx hb dX12_annul_29 (by decide) (fun c_6 => ?_) (fun c_6 => ?_)
        · refine lv_iconst (v := (-1)) hx hb dX12_annul_42 (by decide) ?_
          exact hret _ _ _ _ _ _ hP hD hS dX12_annul_43 ⟨hW_w, Sm.rf, (In_lit (n := (-1)) (by decide) (by decide) : In (-1) 200 (-1)), (fun hL => hL), (fun hL => hL)⟩
        · refine lv_aload_n hx hb dX12_annul_32 rfl (lv_at hl 0 rfl) ?_
          refine gt_X12 hx hb hts hown hK hP 0 (hW_w.o tM_0) 37 (by decide) wd_1438 rfl (hW_w.fi tM_0 rfl) dX12_annul_33 ?_
          refine lv_sipush (v := 200) hx hb dX12_annul_36 (by decide) ?_
          refine lv_icmp_ne (tgt := 44) hx hb dX12_annul_39 (by decide) (fun c_7 => ?_) (fun c_7 => ?_)
          · refine lv_aload_n hx hb dX12_annul_44 rfl (lv_at hl 0 rfl) ?_
            refine lv_iconst (v := 3) hx hb dX12_annul_45 (by decide) ?_
            refine lv_iload_n hx hb dX12_annul_46 rfl (lv_at hl 1 rfl) ?_
            refine lv_iconst (v := 0) hx hb dX12_annul_47 (by decide) ?_
            refine lv_iconst (v := 0) hx hb dX12_annul_48 (by decide) ?_
            refine lv_iconst (v := 0) hx hb dX12_annul_49 (by decide) ?_
            refine lv_iconst (v := 0) hx hb dX12_annul_50 (by decide) ?_
            refine kW_i ⟨rfl, rfl⟩ hP hD hS hA (rW_V (As := [.int 3, .int p1, .int 0, .int 0, .int 0, .int 0]) (rest := []) hx hb hml hown hts hK hE hP hD (k_X12_tells l D cI cJ cZ q w hW_w 3 p1 0 0 0 0 (In_lit (n := 3) (by decide) (by decide) : In 0 3 3) (In_w (R_nlt_r (hW_w.fin tM_0 rfl : In 0 200 (fI w 0 37)) (R_nlt_l (In_any p1) (In_lit (n := 1) (by decide) (by decide) : In 1 1 1) c_1 (by decide) : In 1 2147483647 p1) c_2 (by decide) : In 1 200 p1) (by decide) : In 0 9999 p1) (In_lit (n := 0) (by decide) (by decide) : In 0 24 0) (In_lit (n := 0) (by decide) (by decide) : In 0 99 0) (In_lit (n := 0) (by decide) (by decide) : In 0 999 0) (In_lit (n := 0) (by decide) (by decide) : In 0 24 0) (In_w (R_ne_l (R_nlt_l (hW_w.fin tM_0 rfl : In 0 200 (fI w 0 37)) (R_nlt_l (In_any p1) (In_lit (n := 1) (by decide) (by decide) : In 1 1 1) c_1 (by decide) : In 1 2147483647 p1) c_2 (by decide) : In 1 200 (fI w 0 37)) (In_lit (n := 200) (by decide) (by decide) : In 200 200 200) c_7 (by decide) : In 1 199 (fI w 0 37)) (by decide) : In 0 199 (fI w 0 37)) _) ⟨⟨rfl, rfl⟩, rfl, rfl⟩ sv_X12_453 ⟨(Nat.le_trans (by decide) hR.1), (Nat.le_trans (by decide) hR.2)⟩ 0 12 (hW_w.o tM_0) rfl rfl rfl hl.1 rfl (Nat.le_of_ble_eq_true rfl) dX12_annul_51) (fun r_9 w_8 H locs hw_w_8 hP hD hS => ?_)
            obtain ⟨hW_w_8, hs_w_8, i_r_9, h_10, h_11, h_12⟩ := hw_w_8
            refine lv_istore_n (lv' := [(2, .int r_9), (0, .ref (q 0)), (1, .int p1)]) hx hb dX12_annul_54 rfl hl (by decide) rfl (fun ls hl => ?_)
            refine lv_aload_n hx hb dX12_annul_55 rfl (lv_at hl 1 rfl) ?_
            refine gt_X12 hx hb hts hown hK hP 0 (hW_w_8.o tM_0) 42 (by decide) wd_1443 rfl (hW_w_8.fr tM_0 rfl) dX12_annul_56 ?_
            refine lv_iload_n hx hb dX12_annul_59 rfl (lv_at hl 2 rfl) ?_
            refine lv_iload_n hx hb dX12_annul_60 rfl (lv_at hl 0 rfl) ?_
            refine va_iast hx hb hK hP hD hS 23 0 (hW_w_8.a tM_23) rfl (in_I (R_nlt_r (hW_w.fin tM_0 rfl : In 0 200 (fI w 0 37)) (R_nlt_l (In_any p1) (In_lit (n := 1) (by decide) (by decide) : In 1 1 1) c_1 (by decide) : In 1 2147483647 p1) c_2 (by decide) : In 1 200 p1) (by decide)) dX12_annul_61 (fun H locs hP hD hS => fr_w (hW_w_8.uA tM_23 (In_w i_r_9 (by decide) : In (-2147483648) 2147483647 r_9)) hP hD (fun w_13 ew_13 hW_w_13 hP hD => ?_))
            refine lv_iload_n hx hb dX12_annul_62 rfl (lv_at hl 0 rfl) ?_
            exact hret _ _ _ _ _ _ hP hD hS dX12_annul_63 ⟨hW_w_13, ((Sm.rf.tr hs_w_8 (by decide)).sa ew_13 (by decide)), (In_w i_r_9 (by decide) : In (-1) 200 r_9), (fun hL => (LM_cg (aF_cg (st_ne ew_13 (by decide))) (aF_cg (st_ne ew_13 (by decide))) (h_11 hL ⟨(fun q => absurd q (by decide)), (fun q => absurd q (by decide))⟩))), (fun hL => (LY_cg (aF_cg (st_ne ew_13 (by decide))) (aF_cg (st_ne ew_13 (by decide))) (fI_cg (st_ne ew_13 (by decide))) (h_12 hL (fun q => absurd q (by decide)))))⟩
          · refine lv_iconst (v := (-1)) hx hb dX12_annul_42 (by decide) ?_
            exact hret _ _ _ _ _ _ hP hD hS dX12_annul_43 ⟨hW_w, Sm.rf, (In_lit (n := (-1)) (by decide) (by decide) : In (-1) 200 (-1)), (fun hL => hL), (fun hL => hL)⟩
set_option maxRecDepth 100000 in
set_option maxHeartbeats 8000000 in
theorem k_X12_as (l : Launch) (D : va_G) (cI cJ cZ : ClassId) (q : Nat → Nat) (w : va_W) (hW_w : HT q (TM q cI cJ cZ) w) (p1 : Int32) : Con_i l yX12_as cX12_as 2 (some .boolean) ({ frames := 1, cells := 0, slots := 0, locals := 22 }) D cI cJ cZ eW [.ref (q 0), .int p1] w (fun (r : Int32) (w1 : va_W) => HT q (TM q cI cJ cZ) w1 ∧ Sm [0] [(0, 39)] w w1 ∧ In 0 1 r ∧ (¬ r = 0 → In (-1) 200 p1)) := by
  refine eQ_z rfl (by decide) (Nat.le_of_ble_eq_true rfl) ⟨rfl, rfl⟩ ?_
  intro p e R s m args below meth c A Q hx hb hml hown hts hK hE hA hR hret hP hD hS ls hl
  have hown : s.vm.findClass RX12 = some m.cls := hown
  have hl : lv_has ls 2 [(0, .ref (q 0)), (1, .int p1)] := hl
  refine lv_iload_n hx hb dX12_as_0 rfl (lv_at hl 1 rfl) ?_
  refine lv_iconst (v := (-1)) hx hb dX12_as_1 (by decide) ?_
  refine lv_aload_n hx hb dX12_as_2 rfl (lv_at hl 0 rfl) ?_
  refine gt_X12 hx hb hts hown hK hP 0 (hW_w.o tM_0) 37 (by decide) wd_1438 rfl (hW_w.fi tM_0 rfl) dX12_as_3 ?_
  refine kW_i ⟨rfl, rfl⟩ hP hD hS hA (rW_S (As := [.int p1, .int (-1), .int (fI w 0 37)]) (rest := []) hx hb hml hown hts hK hE hP hD (k_X12_is l D cI cJ cZ q w hW_w p1 (-1) (fI w 0 37) _) ⟨⟨rfl, rfl⟩, rfl, rfl⟩ sv_X12_322 ⟨(Nat.le_trans (by decide) hR.1), (Nat.le_trans (by decide) hR.2)⟩ rfl hl.1 rfl (Nat.le_of_ble_eq_true rfl) dX12_as_6) (fun r_2 w_1 H locs hw_w_1 hP hD hS => ?_)
  obtain ⟨hW_w_1, hs_w_1, i_r_2, h_3⟩ := hw_w_1
  refine lv_if_ne (tgt := 14) hx hb dX12_as_9 (by decide) (fun c_4 => ?_) (fun c_4 => ?_)
  · refine lv_aload_n hx hb dX12_as_14 rfl (lv_at hl 0 rfl) ?_
    refine lv_iload_n hx hb dX12_as_15 rfl (lv_at hl 1 rfl) ?_
    refine pt_X12 hx hb hts hown hK hP hD hS 0 (hW_w_1.o tM_0) 39 (by decide) wd_1440 rfl rfl (ty := .int) (v := .int p1) (by decide +kernel) rfl rfl (hW_w_1.ll tM_0 (Nat.le_of_ble_eq_true rfl)) dX12_as_16 (fun H locs hP hD hS => fr_w (hW_w_1.sI tM_0 rfl (by have q0 := h_3 c_4; have q1 := (In_lit (n := (-1)) (by decide) (by decide) : In (-1) (-1) (-1)); have q2 := (hW_w.fin tM_0 rfl : In 0 200 (fI w 0 37)); have q3 := (In_any p1); unfold In at q1 q2 q3 ⊢; omega : In (-1) 200 p1)) hP hD (fun w_5 ew_5 hW_w_5 hP hD => ?_))
    refine lv_iconst (v := 1) hx hb dX12_as_19 (by decide) ?_
    exact hret _ _ _ _ _ _ hP hD hS dX12_as_20 (In_lit (n := 1) (by decide) (by decide) : In 0 1 1) ⟨hW_w_5, ((Sm.rf.tr hs_w_1 (by decide)).sf (hW_w_1.lt tM_0) ew_5 (by decide)), (In_lit (n := 1) (by decide) (by decide) : In 0 1 1), (fun h => (by have q0 := h_3 c_4; have q1 := (In_lit (n := (-1)) (by decide) (by decide) : In (-1) (-1) (-1)); have q2 := (hW_w.fin tM_0 rfl : In 0 200 (fI w 0 37)); have q3 := (In_any p1); unfold In at q1 q2 q3 ⊢; omega : In (-1) 200 p1))⟩
  · refine lv_iconst (v := 0) hx hb dX12_as_12 (by decide) ?_
    exact hret _ _ _ _ _ _ hP hD hS dX12_as_13 (In_lit (n := 0) (by decide) (by decide) : In 0 1 0) ⟨hW_w_1, (Sm.rf.tr hs_w_1 (by decide)), (In_lit (n := 0) (by decide) (by decide) : In 0 1 0), (fun h => absurd rfl h)⟩
set_option maxRecDepth 100000 in
set_option maxHeartbeats 8000000 in
theorem k_X12_hasWish (l : Launch) (D : va_G) (cI cJ cZ : ClassId) (q : Nat → Nat) (w : va_W) (hW_w : HT q (TM q cI cJ cZ) w) (p1 : Int32) (p2 : Int64) (i_p1 : In 0 39 p1) : Con_i l yX12_hasWish cX12_hasWish 5 (some .boolean) ({ frames := 0, cells := 0, slots := 0, locals := 0 }) D cI cJ cZ eW [.ref (q 0), .int p1, .long p2] w (fun (r : Int32) (w1 : va_W) => HT q (TM q cI cJ cZ) w1 ∧ Sm [] [] w w1 ∧ In 0 1 r) := by
  refine eQ_z rfl (by decide) (Nat.le_of_ble_eq_true rfl) ⟨rfl, rfl⟩ ?_
  intro p e R s m args below meth c A Q hx hb hml hown hts hK hE hA hR hret hP hD hS ls hl
  have hown : s.vm.findClass RX12 = some m.cls := hown
  have hl : lv_has ls 5 [(0, .ref (q 0)), (1, .int p1), (2, .long p2)] := hl
  have J3 : ∀ (N : Nat) (x3_4 : Int32) (w3 : va_W) (H : Heap) (locs : List Loc) (ls : Array Slot), (4 - x3_4.toInt).toNat < N → HT q (TM q cI cJ cZ) w3 → Sm [] [] w w3 → (In 0 39 p1) → (In 0 4 x3_4) → va_P D vwCl w3 H → va_D A w3 → va_S A s.heap H locs → lv_has ls 5 [(0, .ref (q 0)), (1, .int p1), (2, .long p2), (4, .int x3_4)] → W p l e R s m args below meth c H locs 0 0 Q (F0 m 3 ls []) := by
    intro N
    induction N with
    | zero => intro x3_4 w3 H locs ls hmu; exact absurd hmu (Nat.not_lt_zero _)
    | succ N ih3 =>
      intro x3_4 w3 H locs ls hmu3 hW_w3 hM_w3 i_x3_1 i_x3_4 hP hD hS hl
      refine lv_iload hx hb dX12_hasWish_3 (lv_at hl 3 rfl) ?_
      refine lv_aload_n hx hb dX12_hasWish_5 rfl (lv_at hl 0 rfl) ?_
      refine gt_X12 hx hb hts hown hK hP 0 (hW_w3.o tM_0) 53 (by decide) wd_1454 rfl (hW_w3.fr tM_0 rfl) dX12_hasWish_6 ?_
      refine lv_iload_n hx hb dX12_hasWish_9 rfl (lv_at hl 1 rfl) ?_
      refine va_iald hx hb hK hP 33 0 (hW_w3.a tM_33) rfl (in_I i_p1 (by decide)) dX12_hasWish_10 ?_
      refine lv_topi (fun v_1 ev_1 => ?_)
      refine lv_icmp_ge (tgt := 38) hx hb dX12_hasWish_11 (by decide) (fun c_2 => ?_) (fun c_2 => ?_)
      · refine lv_iconst (v := 0) hx hb dX12_hasWish_38 (by decide) ?_
        exact hret _ _ _ _ _ _ hP hD hS dX12_hasWish_39 (In_lit (n := 0) (by decide) (by decide) : In 0 1 0) ⟨hW_w3, hM_w3, (In_lit (n := 0) (by decide) (by decide) : In 0 1 0)⟩
      · refine lv_aload_n hx hb dX12_hasWish_14 rfl (lv_at hl 0 rfl) ?_
        refine gt_X12 hx hb hts hown hK hP 0 (hW_w3.o tM_0) 54 (by decide) wd_1455 rfl (hW_w3.fr tM_0 rfl) dX12_hasWish_15 ?_
        refine lv_iconst (v := 4) hx hb dX12_hasWish_18 (by decide) ?_
        refine lv_iload_n hx hb dX12_hasWish_19 rfl (lv_at hl 1 rfl) ?_
        refine lv_imul hx hb dX12_hasWish_20 ?_
        refine lv_iload hx hb dX12_hasWish_21 (lv_at hl 3 rfl) ?_
        refine lv_iadd hx hb dX12_hasWish_23 ?_
        refine va_lald hx hb hK hP 34 1 (hW_w3.al tM_34) rfl (in_I ((In_add ((In_mull i_p1 (n := 4) (by decide) (by decide)) : In 0 156 (4 * p1)) (R_nle_r (In_of ev_1 (hW_w3.ap tM_33 _) : In 0 4 v_1) i_x3_4 c_2 (by decide) : In 0 3 x3_4) (by decide)) : In 0 159 ((4 * p1) + x3_4)) (by decide)) dX12_hasWish_24 ?_
        refine lv_topl (fun v_3 ev_3 => ?_)
        refine lv_lload_n hx hb dX12_hasWish_25 rfl (lv_at hl 2 rfl) ?_
        refine W.lcmp hx hb dX12_hasWish_26 ?_
        refine lv_topi (fun v_4 ev_4 => ?_)
        refine lv_if_ne (tgt := 32) hx hb dX12_hasWish_27 (by decide) (fun c_5 => ?_) (fun c_5 => ?_)
        · refine lv_iinc (v := (x3_4 + 1)) (lv' := [(4, .int (x3_4 + 1)), (0, .ref (q 0)), (1, .int p1), (2, .long p2)]) hx hb dX12_hasWish_32 hl (k := 3) rfl (rfl) (by decide) rfl (fun ls hl => ?_)
          refine lv_goto (tgt := 3) hx hb dX12_hasWish_35 (by decide) ?_
          exact ih3 (x3_4 + 1) w3 _ _ ls (mu_inc hmu3 (R_nle_r (In_of ev_1 (hW_w3.ap tM_33 _) : In 0 4 v_1) i_x3_4 c_2 (by decide) : In 0 3 x3_4) (In_lit (n := 1) (by decide) (by decide) : In 1 1 1) (by decide)) hW_w3 hM_w3 i_p1 (In_w ((In_add (y := 1) (R_nle_r (In_of ev_1 (hW_w3.ap tM_33 _) : In 0 4 v_1) i_x3_4 c_2 (by decide) : In 0 3 x3_4) (In_lit (n := 1) (by decide) (by decide) : In 1 1 1) (by decide)) : In 1 4 (x3_4 + 1)) (by decide) : In 0 4 (x3_4 + 1)) hP hD hS (lv_sub hl [1, 2, 3, 0] rfl)
        · refine lv_iconst (v := 1) hx hb dX12_hasWish_30 (by decide) ?_
          exact hret _ _ _ _ _ _ hP hD hS dX12_hasWish_31 (In_lit (n := 1) (by decide) (by decide) : In 0 1 1) ⟨hW_w3, hM_w3, (In_lit (n := 1) (by decide) (by decide) : In 0 1 1)⟩
  refine lv_iconst (v := 0) hx hb dX12_hasWish_0 (by decide) ?_
  refine lv_istore (lv' := [(4, .int 0), (0, .ref (q 0)), (1, .int p1), (2, .long p2)]) hx hb dX12_hasWish_1 hl (by decide) rfl (fun ls hl => ?_)
  exact J3 _ 0 w _ _ ls (Nat.lt_succ_self _) hW_w Sm.rf i_p1 (In_lit (n := 0) (by decide) (by decide) : In 0 4 0) hP hD hS (lv_sub hl [1, 2, 3, 0] rfl)
