set_option maxRecDepth 100000 in
set_option maxHeartbeats 8000000 in
theorem k_X8_readsKind (l : Launch) (D : va_G) (cI cJ cZ : ClassId) (q : Nat → Nat) (bb bs : Nat) (w : va_W) (hW_w : HT q (TX q cI cJ cZ bb bs 16) w) (hf_34_4 : In 0 0 (fI w 34 4)) : Con_i l yX8_readsKind cX8_readsKind 2 (some .boolean) ({ frames := 4, cells := 0, slots := 0, locals := 93 }) D cI cJ cZ eW [.ref (q 34)] w (fun (r : Int32) (w1 : va_W) => HT q (TX q cI cJ cZ bb bs 16) w1 ∧ Sm [16, 17, 18, 19, 20, 21, 22, 31, 34] [(16, 0), (16, 5), (31, 3), (31, 4), (31, 5), (31, 6), (31, 7), (34, 2), (34, 3)] w w1 ∧ In 0 1 r ∧ (¬ r = 0 → In 1 10 (fI w1 16 0))) := by
  refine eQ_z rfl (by decide) (Nat.le_of_ble_eq_true rfl) ⟨rfl, rfl⟩ ?_
  intro p e R s m args below meth c A Q hx hb hml hown hts hK hE hA hR hret hP hD hS ls hl
  have hown : s.vm.findClass RX8 = some m.cls := hown
  have hl : lv_has ls 2 [(0, .ref (q 34))] := hl
  refine lv_aload_n hx hb dX8_readsKind_0 rfl (lv_at hl 0 rfl) ?_
  refine gt_X8 hx hb hts hown hK hP 34 (hW_w.o tX_34) 1 (by decide) wd_228 rfl (hW_w.fr tX_34 rfl) dX8_readsKind_1 ?_
  refine gt_X1 hx hb hts hown hK hP 16 (hW_w.o tX_16) 0 (by decide) wd_40 rfl (hW_w.fi tX_16 rfl) dX8_readsKind_4 ?_
  refine lv_bipush (v := 10) hx hb dX8_readsKind_7 (by decide) ?_
  refine lv_icmp_lt (tgt := 18) hx hb dX8_readsKind_9 (by decide) (fun c_1 => ?_) (fun c_1 => ?_)
  · refine lv_aload_n hx hb dX8_readsKind_18 rfl (lv_at hl 0 rfl) ?_
    refine gt_X8 hx hb hts hown hK hP 34 (hW_w.o tX_34) 0 (by decide) wd_227 rfl (hW_w.fr tX_34 rfl) dX8_readsKind_19 ?_
    refine kW_v ⟨rfl, rfl⟩ hP hD hS hA (rW_V (As := []) (rest := []) hx hb hml hown hts hK hE hP hD (k_X10_step l D cI cJ cZ q bb bs 16 w hW_w  _) ⟨⟨rfl, rfl⟩, rfl, rfl⟩ sv_X8_59 ⟨(Nat.le_trans (by decide) hR.1), (Nat.le_trans (by decide) hR.2)⟩ 31 10 (hW_w.o tX_31) rfl rfl rfl hl.1 rfl (Nat.le_of_ble_eq_true rfl) dX8_readsKind_22) (fun w_2 H locs hw_w_2 hP hD hS => ?_)
    obtain ⟨hW_w_2, hs_w_2⟩ := hw_w_2
    refine lv_aload_n hx hb dX8_readsKind_25 rfl (lv_at hl 0 rfl) ?_
    refine gt_X8 hx hb hts hown hK hP 34 (hW_w_2.o tX_34) 0 (by decide) wd_227 rfl (hW_w_2.fr tX_34 rfl) dX8_readsKind_26 ?_
    refine gt_X10 hx hb hts hown hK hP 31 (hW_w_2.o tX_31) 4 (by decide) wd_195 rfl (hW_w_2.fi tX_31 rfl) dX8_readsKind_29 ?_
    refine lv_sipush (v := 258) hx hb dX8_readsKind_32 (by decide) ?_
    refine lv_icmp_eq (tgt := 44) hx hb dX8_readsKind_35 (by decide) (fun c_4 => ?_) (fun c_4 => ?_)
    · refine lv_aload_n hx hb dX8_readsKind_44 rfl (lv_at hl 0 rfl) ?_
      refine gt_X8 hx hb hts hown hK hP 34 (hW_w_2.o tX_34) 1 (by decide) wd_228 rfl (hW_w_2.fr tX_34 rfl) dX8_readsKind_45 ?_
      refine lv_aload_n hx hb dX8_readsKind_48 rfl (lv_at hl 0 rfl) ?_
      refine gt_X8 hx hb hts hown hK hP 34 (hW_w_2.o tX_34) 0 (by decide) wd_227 rfl (hW_w_2.fr tX_34 rfl) dX8_readsKind_49 ?_
      refine gt_X10 hx hb hts hown hK hP 31 (hW_w_2.o tX_31) 6 (by decide) wd_200 rfl (hW_w_2.fl tX_31 rfl) dX8_readsKind_52 ?_
      refine kW_i ⟨rfl, rfl⟩ hP hD hS hA (rW_V (As := [.long (fL w_2 31 6)]) (rest := []) hx hb hml hown hts hK hE hP hD (k_X1_kindOf_at16 l D cI cJ cZ q bb bs 16 w_2 hW_w_2 (fL w_2 31 6) _) ⟨⟨rfl, rfl⟩, rfl, rfl⟩ sv_X8_69 ⟨(Nat.le_trans (by decide) hR.1), (Nat.le_trans (by decide) hR.2)⟩ 16 1 (hW_w_2.o tX_16) rfl rfl rfl hl.1 rfl (Nat.le_of_ble_eq_true rfl) dX8_readsKind_55) (fun r_6 w_5 H locs hw_w_5 hP hD hS => ?_)
      obtain ⟨hW_w_5, hs_w_5, i_r_6⟩ := hw_w_5
      refine lv_iconst (v := (-1)) hx hb dX8_readsKind_58 (by decide) ?_
      refine lv_icmp_ne (tgt := 80) hx hb dX8_readsKind_59 (by decide) (fun c_7 => ?_) (fun c_7 => ?_)
      · refine lv_aload_n hx hb dX8_readsKind_80 rfl (lv_at hl 0 rfl) ?_
        refine lv_iconst (v := 2) hx hb dX8_readsKind_81 (by decide) ?_
        refine kW_i ⟨rfl, rfl⟩ hP hD hS hA (rW_V (As := [.int 2]) (rest := []) hx hb hml hown hts hK hE hP hD (k_X8_fails l D cI cJ cZ q bb bs w_5 hW_w_5 2 (In_lit (n := 2) (by decide) (by decide) : In 1 5 2) _) ⟨⟨rfl, rfl⟩, rfl, rfl⟩ sv_X8_56 ⟨(Nat.le_trans (by decide) hR.1), (Nat.le_trans (by decide) hR.2)⟩ 34 8 (hW_w_5.o tX_34) rfl rfl rfl hl.1 rfl (Nat.le_of_ble_eq_true rfl) dX8_readsKind_82) (fun r_9 w_8 H locs hw_w_8 hP hD hS => ?_)
        obtain ⟨hW_w_8, hs_w_8, i_r_9⟩ := hw_w_8
        refine tov (v := 0) (In_one i_r_9 (by decide)) ?_
        exact hret _ _ _ _ _ _ hP hD hS dX8_readsKind_85 (In_lit (n := 0) (by decide) (by decide) : In 0 1 0) ⟨hW_w_8, (((Sm.rf.tr hs_w_2 (by decide)).tr hs_w_5 (by decide)).tr hs_w_8 (by decide)), (In_lit (n := 0) (by decide) (by decide) : In 0 1 0), (fun h => absurd rfl h)⟩
      · refine lv_aload_n hx hb dX8_readsKind_62 rfl (lv_at hl 0 rfl) ?_
        refine gt_X8 hx hb hts hown hK hP 34 (hW_w_5.o tX_34) 1 (by decide) wd_228 rfl (hW_w_5.fr tX_34 rfl) dX8_readsKind_63 ?_
        refine lv_aload_n hx hb dX8_readsKind_66 rfl (lv_at hl 0 rfl) ?_
        refine gt_X8 hx hb hts hown hK hP 34 (hW_w_5.o tX_34) 0 (by decide) wd_227 rfl (hW_w_5.fr tX_34 rfl) dX8_readsKind_67 ?_
        refine gt_X10 hx hb hts hown hK hP 31 (hW_w_5.o tX_31) 6 (by decide) wd_200 rfl (hW_w_5.fl tX_31 rfl) dX8_readsKind_70 ?_
        refine tol (v := (fL w_2 31 6)) (hs_w_5.gL (by decide)) ?_
        refine kW_i ⟨rfl, rfl⟩ hP hD hS hA (rW_V (As := [.long (fL w_2 31 6)]) (rest := []) hx hb hml hown hts hK hE hP hD (k_X1_markOf_at16 l D cI cJ cZ q bb bs 16 w_5 hW_w_5 (fL w_2 31 6) _) ⟨⟨rfl, rfl⟩, rfl, rfl⟩ sv_X8_73 ⟨(Nat.le_trans (by decide) hR.1), (Nat.le_trans (by decide) hR.2)⟩ 16 1 (hW_w_5.o tX_16) rfl rfl rfl hl.1 rfl (Nat.le_of_ble_eq_true rfl) dX8_readsKind_73) (fun r_11 w_10 H locs hw_w_10 hP hD hS => ?_)
        obtain ⟨hW_w_10, hs_w_10, i_r_11⟩ := hw_w_10
        refine lv_iconst (v := (-1)) hx hb dX8_readsKind_76 (by decide) ?_
        refine lv_icmp_eq (tgt := 86) hx hb dX8_readsKind_77 (by decide) (fun c_12 => ?_) (fun c_12 => ?_)
        · refine lv_aload_n hx hb dX8_readsKind_86 rfl (lv_at hl 0 rfl) ?_
          refine gt_X8 hx hb hts hown hK hP 34 (hW_w_10.o tX_34) 1 (by decide) wd_228 rfl (hW_w_10.fr tX_34 rfl) dX8_readsKind_87 ?_
          refine gt_X1 hx hb hts hown hK hP 16 (hW_w_10.o tX_16) 0 (by decide) wd_40 rfl (hW_w_10.fi tX_16 rfl) dX8_readsKind_90 ?_
          refine tov (v := (fI w 16 0)) ((hs_w_10.gI (by decide)).trans ((hs_w_5.gI (by decide)).trans (hs_w_2.gI (by decide)))) ?_
          refine lv_istore_n (lv' := [(1, .int (fI w 16 0)), (0, .ref (q 34))]) hx hb dX8_readsKind_93 rfl hl (by decide) rfl (fun ls hl => ?_)
          refine lv_aload_n hx hb dX8_readsKind_94 rfl (lv_at hl 1 rfl) ?_
          refine gt_X8 hx hb hts hown hK hP 34 (hW_w_10.o tX_34) 1 (by decide) wd_228 rfl (hW_w_10.fr tX_34 rfl) dX8_readsKind_95 ?_
          refine gt_X1 hx hb hts hown hK hP 16 (hW_w_10.o tX_16) 1 (by decide) wd_42 rfl (hW_w_10.fr tX_16 rfl) dX8_readsKind_98 ?_
          refine lv_iload_n hx hb dX8_readsKind_101 rfl (lv_at hl 0 rfl) ?_
          refine lv_aload_n hx hb dX8_readsKind_102 rfl (lv_at hl 1 rfl) ?_
          refine gt_X8 hx hb hts hown hK hP 34 (hW_w_10.o tX_34) 0 (by decide) wd_227 rfl (hW_w_10.fr tX_34 rfl) dX8_readsKind_103 ?_
          refine gt_X10 hx hb hts hown hK hP 31 (hW_w_10.o tX_31) 6 (by decide) wd_200 rfl (hW_w_10.fl tX_31 rfl) dX8_readsKind_106 ?_
          refine tol (v := (fL w_2 31 6)) ((hs_w_10.gL (by decide)).trans (hs_w_5.gL (by decide))) ?_
          refine va_last hx hb hK hP hD hS 17 1 (hW_w_10.al tX_17) rfl (in_I (R_lt_l (hW_w.fin tX_16 rfl : In 0 10 (fI w 16 0)) (In_lit (n := 10) (by decide) (by decide) : In 10 10 10) c_1 (by decide) : In 0 9 (fI w 16 0)) (by decide)) dX8_readsKind_109 (fun H locs hP hD hS => fr_w (hW_w_10.uL tX_17) hP hD (fun w_13 ew_13 hW_w_13 hP hD => ?_))
          refine lv_aload_n hx hb dX8_readsKind_110 rfl (lv_at hl 1 rfl) ?_
          refine gt_X8 hx hb hts hown hK hP 34 (hW_w_13.o tX_34) 1 (by decide) wd_228 rfl (hW_w_13.fr tX_34 rfl) dX8_readsKind_111 ?_
          refine lv_dup hx hb dX8_readsKind_114 rfl ?_
          refine gt_X1 hx hb hts hown hK hP 16 (hW_w_13.o tX_16) 0 (by decide) wd_40 rfl (hW_w_13.fi tX_16 rfl) dX8_readsKind_115 ?_
          refine tov (v := (fI w 16 0)) ((fI_cg (st_ne ew_13 (by decide))).trans ((hs_w_10.gI (by decide)).trans ((hs_w_5.gI (by decide)).trans (hs_w_2.gI (by decide))))) ?_
          refine lv_iconst (v := 1) hx hb dX8_readsKind_118 (by decide) ?_
          refine lv_iadd hx hb dX8_readsKind_119 ?_
          refine pt_X1 hx hb hts hown hK hP hD hS 16 (hW_w_13.o tX_16) 0 (by decide) wd_40 rfl rfl (ty := .int) (v := .int ((fI w 16 0) + 1)) (by decide +kernel) rfl rfl (hW_w_13.ll tX_16 (Nat.le_of_ble_eq_true rfl)) dX8_readsKind_120 (fun H locs hP hD hS => fr_w (hW_w_13.sI tX_16 rfl (In_w ((In_add (R_lt_l (hW_w.fin tX_16 rfl : In 0 10 (fI w 16 0)) (In_lit (n := 10) (by decide) (by decide) : In 10 10 10) c_1 (by decide) : In 0 9 (fI w 16 0)) (In_lit (n := 1) (by decide) (by decide) : In 1 1 1) (by decide)) : In 1 10 ((fI w 16 0) + 1)) (by decide) : In 0 10 ((fI w 16 0) + 1))) hP hD (fun w_14 ew_14 hW_w_14 hP hD => ?_))
          refine lv_aload_n hx hb dX8_readsKind_123 rfl (lv_at hl 1 rfl) ?_
          refine gt_X8 hx hb hts hown hK hP 34 (hW_w_14.o tX_34) 0 (by decide) wd_227 rfl (hW_w_14.fr tX_34 rfl) dX8_readsKind_124 ?_
          refine kW_v ⟨rfl, rfl⟩ hP hD hS hA (rW_V (As := []) (rest := []) hx hb hml hown hts hK hE hP hD (k_X10_step l D cI cJ cZ q bb bs 16 w_14 hW_w_14  _) ⟨⟨rfl, rfl⟩, rfl, rfl⟩ sv_X8_59 ⟨(Nat.le_trans (by decide) hR.1), (Nat.le_trans (by decide) hR.2)⟩ 31 10 (hW_w_14.o tX_31) rfl rfl rfl hl.1 rfl (Nat.le_of_ble_eq_true rfl) dX8_readsKind_127) (fun w_15 H locs hw_w_15 hP hD hS => ?_)
          obtain ⟨hW_w_15, hs_w_15⟩ := hw_w_15
          refine lv_aload_n hx hb dX8_readsKind_130 rfl (lv_at hl 1 rfl) ?_
          refine lv_iconst (v := 2) hx hb dX8_readsKind_131 (by decide) ?_
          refine lv_iconst (v := 1) hx hb dX8_readsKind_132 (by decide) ?_
          refine lv_sipush (v := 500) hx hb dX8_readsKind_133 (by decide) ?_
          refine lv_aload_n hx hb dX8_readsKind_136 rfl (lv_at hl 1 rfl) ?_
          refine gt_X8 hx hb hts hown hK hP 34 (hW_w_15.o tX_34) 1 (by decide) wd_228 rfl (hW_w_15.fr tX_34 rfl) dX8_readsKind_137 ?_
          refine gt_X1 hx hb hts hown hK hP 16 (hW_w_15.o tX_16) 2 (by decide) wd_46 rfl (hW_w_15.fr tX_16 rfl) dX8_readsKind_140 ?_
          refine lv_iload_n hx hb dX8_readsKind_143 rfl (lv_at hl 0 rfl) ?_
          refine kW_i ⟨rfl, rfl⟩ hP hD hS hA (rW_V (As := [.int 2, .int 1, .int 500, .ref (q 18), .int (fI w 16 0)]) (rest := []) hx hb hml hown hts hK hE hP hD (k_X8_readsNumber_18 l D cI cJ cZ q bb bs w_15 hW_w_15 2 1 500 (fI w 16 0) (In_lit (n := 2) (by decide) (by decide) : In 2 2 2) (In_lit (n := 1) (by decide) (by decide) : In 1 1 1) (In_lit (n := 500) (by decide) (by decide) : In 500 500 500) (R_lt_l (hW_w.fin tX_16 rfl : In 0 10 (fI w 16 0)) (In_lit (n := 10) (by decide) (by decide) : In 10 10 10) c_1 (by decide) : In 0 9 (fI w 16 0)) (In_of ((hs_w_15.gI (by decide)).trans (fI_eq (hW_w_13.lt tX_16) ew_14 (hW_w_13.ll tX_16 (Nat.le_of_ble_eq_true rfl)))) ((In_add (R_lt_l (hW_w.fin tX_16 rfl : In 0 10 (fI w 16 0)) (In_lit (n := 10) (by decide) (by decide) : In 10 10 10) c_1 (by decide) : In 0 9 (fI w 16 0)) (In_lit (n := 1) (by decide) (by decide) : In 1 1 1) (by decide)) : In 1 10 ((fI w 16 0) + 1))) (In_of ((hs_w_15.gI (by decide)).trans ((fI_cg (st_ne ew_14 (by decide))).trans ((fI_cg (st_ne ew_13 (by decide))).trans ((hs_w_10.gI (by decide)).trans ((hs_w_5.gI (by decide)).trans (hs_w_2.gI (by decide))))))) hf_34_4) _) ⟨⟨rfl, rfl⟩, rfl, rfl⟩ sv_X8_84 ⟨(Nat.le_trans (by decide) hR.1), (Nat.le_trans (by decide) hR.2)⟩ 34 8 (hW_w_15.o tX_34) rfl rfl rfl hl.1 rfl (Nat.le_of_ble_eq_true rfl) dX8_readsKind_144) (fun r_18 w_17 H locs hw_w_17 hP hD hS => ?_)
          obtain ⟨hW_w_17, hs_w_17, i_r_18⟩ := hw_w_17
          refine lv_if_eq (tgt := 211) hx hb dX8_readsKind_147 (by decide) (fun c_19 => ?_) (fun c_19 => ?_)
          · refine lv_iconst (v := 0) hx hb dX8_readsKind_211 (by decide) ?_
            exact hret _ _ _ _ _ _ hP hD hS dX8_readsKind_212 (In_lit (n := 0) (by decide) (by decide) : In 0 1 0) ⟨hW_w_17, (((((((Sm.rf.tr hs_w_2 (by decide)).tr hs_w_5 (by decide)).tr hs_w_10 (by decide)).sa ew_13 (by decide)).sf (hW_w_13.lt tX_16) ew_14 (by decide)).tr hs_w_15 (by decide)).tr hs_w_17 (by decide)), (In_lit (n := 0) (by decide) (by decide) : In 0 1 0), (fun h => absurd rfl h)⟩
          · refine lv_aload_n hx hb dX8_readsKind_150 rfl (lv_at hl 1 rfl) ?_
            refine lv_iconst (v := 3) hx hb dX8_readsKind_151 (by decide) ?_
            refine lv_iconst (v := 0) hx hb dX8_readsKind_152 (by decide) ?_
            refine lv_sipush (v := 1000) hx hb dX8_readsKind_153 (by decide) ?_
            refine lv_aload_n hx hb dX8_readsKind_156 rfl (lv_at hl 1 rfl) ?_
            refine gt_X8 hx hb hts hown hK hP 34 (hW_w_17.o tX_34) 1 (by decide) wd_228 rfl (hW_w_17.fr tX_34 rfl) dX8_readsKind_157 ?_
            refine gt_X1 hx hb hts hown hK hP 16 (hW_w_17.o tX_16) 3 (by decide) wd_49 rfl (hW_w_17.fr tX_16 rfl) dX8_readsKind_160 ?_
            refine lv_iload_n hx hb dX8_readsKind_163 rfl (lv_at hl 0 rfl) ?_
            refine kW_i ⟨rfl, rfl⟩ hP hD hS hA (rW_V (As := [.int 3, .int 0, .int 1000, .ref (q 19), .int (fI w 16 0)]) (rest := []) hx hb hml hown hts hK hE hP hD (k_X8_readsNumber_19 l D cI cJ cZ q bb bs w_17 hW_w_17 3 0 1000 (fI w 16 0) (In_lit (n := 3) (by decide) (by decide) : In 3 3 3) (In_lit (n := 0) (by decide) (by decide) : In 0 0 0) (In_lit (n := 1000) (by decide) (by decide) : In 1000 1000 1000) (R_lt_l (hW_w.fin tX_16 rfl : In 0 10 (fI w 16 0)) (In_lit (n := 10) (by decide) (by decide) : In 10 10 10) c_1 (by decide) : In 0 9 (fI w 16 0)) (In_of ((hs_w_17.gI (by decide)).trans ((hs_w_15.gI (by decide)).trans (fI_eq (hW_w_13.lt tX_16) ew_14 (hW_w_13.ll tX_16 (Nat.le_of_ble_eq_true rfl))))) ((In_add (R_lt_l (hW_w.fin tX_16 rfl : In 0 10 (fI w 16 0)) (In_lit (n := 10) (by decide) (by decide) : In 10 10 10) c_1 (by decide) : In 0 9 (fI w 16 0)) (In_lit (n := 1) (by decide) (by decide) : In 1 1 1) (by decide)) : In 1 10 ((fI w 16 0) + 1))) (In_of ((hs_w_17.2 34 4 (by decide) (by decide)).trans ((hs_w_15.gI (by decide)).trans ((fI_cg (st_ne ew_14 (by decide))).trans ((fI_cg (st_ne ew_13 (by decide))).trans ((hs_w_10.gI (by decide)).trans ((hs_w_5.gI (by decide)).trans (hs_w_2.gI (by decide)))))))) hf_34_4) _) ⟨⟨rfl, rfl⟩, rfl, rfl⟩ sv_X8_84 ⟨(Nat.le_trans (by decide) hR.1), (Nat.le_trans (by decide) hR.2)⟩ 34 8 (hW_w_17.o tX_34) rfl rfl rfl hl.1 rfl (Nat.le_of_ble_eq_true rfl) dX8_readsKind_164) (fun r_21 w_20 H locs hw_w_20 hP hD hS => ?_)
            obtain ⟨hW_w_20, hs_w_20, i_r_21⟩ := hw_w_20
            refine lv_if_eq (tgt := 211) hx hb dX8_readsKind_167 (by decide) (fun c_22 => ?_) (fun c_22 => ?_)
            · refine lv_iconst (v := 0) hx hb dX8_readsKind_211 (by decide) ?_
              exact hret _ _ _ _ _ _ hP hD hS dX8_readsKind_212 (In_lit (n := 0) (by decide) (by decide) : In 0 1 0) ⟨hW_w_20, ((((((((Sm.rf.tr hs_w_2 (by decide)).tr hs_w_5 (by decide)).tr hs_w_10 (by decide)).sa ew_13 (by decide)).sf (hW_w_13.lt tX_16) ew_14 (by decide)).tr hs_w_15 (by decide)).tr hs_w_17 (by decide)).tr hs_w_20 (by decide)), (In_lit (n := 0) (by decide) (by decide) : In 0 1 0), (fun h => absurd rfl h)⟩
            · refine lv_aload_n hx hb dX8_readsKind_170 rfl (lv_at hl 1 rfl) ?_
              refine lv_iconst (v := 4) hx hb dX8_readsKind_171 (by decide) ?_
              refine lv_iconst (v := 0) hx hb dX8_readsKind_172 (by decide) ?_
              refine lv_sipush (v := 200) hx hb dX8_readsKind_173 (by decide) ?_
              refine lv_aload_n hx hb dX8_readsKind_176 rfl (lv_at hl 1 rfl) ?_
              refine gt_X8 hx hb hts hown hK hP 34 (hW_w_20.o tX_34) 1 (by decide) wd_228 rfl (hW_w_20.fr tX_34 rfl) dX8_readsKind_177 ?_
              refine gt_X1 hx hb hts hown hK hP 16 (hW_w_20.o tX_16) 4 (by decide) wd_53 rfl (hW_w_20.fr tX_16 rfl) dX8_readsKind_180 ?_
              refine lv_iload_n hx hb dX8_readsKind_183 rfl (lv_at hl 0 rfl) ?_
              refine kW_i ⟨rfl, rfl⟩ hP hD hS hA (rW_V (As := [.int 4, .int 0, .int 200, .ref (q 20), .int (fI w 16 0)]) (rest := []) hx hb hml hown hts hK hE hP hD (k_X8_readsNumber_20 l D cI cJ cZ q bb bs w_20 hW_w_20 4 0 200 (fI w 16 0) (In_lit (n := 4) (by decide) (by decide) : In 4 4 4) (In_lit (n := 0) (by decide) (by decide) : In 0 0 0) (In_lit (n := 200) (by decide) (by decide) : In 200 200 200) (R_lt_l (hW_w.fin tX_16 rfl : In 0 10 (fI w 16 0)) (In_lit (n := 10) (by decide) (by decide) : In 10 10 10) c_1 (by decide) : In 0 9 (fI w 16 0)) (In_of ((hs_w_20.gI (by decide)).trans ((hs_w_17.gI (by decide)).trans ((hs_w_15.gI (by decide)).trans (fI_eq (hW_w_13.lt tX_16) ew_14 (hW_w_13.ll tX_16 (Nat.le_of_ble_eq_true rfl)))))) ((In_add (R_lt_l (hW_w.fin tX_16 rfl : In 0 10 (fI w 16 0)) (In_lit (n := 10) (by decide) (by decide) : In 10 10 10) c_1 (by decide) : In 0 9 (fI w 16 0)) (In_lit (n := 1) (by decide) (by decide) : In 1 1 1) (by decide)) : In 1 10 ((fI w 16 0) + 1))) (In_of ((hs_w_20.2 34 4 (by decide) (by decide)).trans ((hs_w_17.2 34 4 (by decide) (by decide)).trans ((hs_w_15.gI (by decide)).trans ((fI_cg (st_ne ew_14 (by decide))).trans ((fI_cg (st_ne ew_13 (by decide))).trans ((hs_w_10.gI (by decide)).trans ((hs_w_5.gI (by decide)).trans (hs_w_2.gI (by decide))))))))) hf_34_4) _) ⟨⟨rfl, rfl⟩, rfl, rfl⟩ sv_X8_84 ⟨(Nat.le_trans (by decide) hR.1), (Nat.le_trans (by decide) hR.2)⟩ 34 8 (hW_w_20.o tX_34) rfl rfl rfl hl.1 rfl (Nat.le_of_ble_eq_true rfl) dX8_readsKind_184) (fun r_24 w_23 H locs hw_w_23 hP hD hS => ?_)
              obtain ⟨hW_w_23, hs_w_23, i_r_24⟩ := hw_w_23
              refine lv_if_eq (tgt := 211) hx hb dX8_readsKind_187 (by decide) (fun c_25 => ?_) (fun c_25 => ?_)
              · refine lv_iconst (v := 0) hx hb dX8_readsKind_211 (by decide) ?_
                exact hret _ _ _ _ _ _ hP hD hS dX8_readsKind_212 (In_lit (n := 0) (by decide) (by decide) : In 0 1 0) ⟨hW_w_23, (((((((((Sm.rf.tr hs_w_2 (by decide)).tr hs_w_5 (by decide)).tr hs_w_10 (by decide)).sa ew_13 (by decide)).sf (hW_w_13.lt tX_16) ew_14 (by decide)).tr hs_w_15 (by decide)).tr hs_w_17 (by decide)).tr hs_w_20 (by decide)).tr hs_w_23 (by decide)), (In_lit (n := 0) (by decide) (by decide) : In 0 1 0), (fun h => absurd rfl h)⟩
              · refine lv_aload_n hx hb dX8_readsKind_190 rfl (lv_at hl 1 rfl) ?_
                refine lv_iload_n hx hb dX8_readsKind_191 rfl (lv_at hl 0 rfl) ?_
                refine kW_i ⟨rfl, rfl⟩ hP hD hS hA (rW_V (As := [.int (fI w 16 0)]) (rest := []) hx hb hml hown hts hK hE hP hD (k_X8_readsMarks l D cI cJ cZ q bb bs w_23 hW_w_23 (fI w 16 0) (R_lt_l (hW_w.fin tX_16 rfl : In 0 10 (fI w 16 0)) (In_lit (n := 10) (by decide) (by decide) : In 10 10 10) c_1 (by decide) : In 0 9 (fI w 16 0)) (In_of ((hs_w_23.gI (by decide)).trans ((hs_w_20.gI (by decide)).trans ((hs_w_17.gI (by decide)).trans ((hs_w_15.gI (by decide)).trans (fI_eq (hW_w_13.lt tX_16) ew_14 (hW_w_13.ll tX_16 (Nat.le_of_ble_eq_true rfl))))))) ((In_add (R_lt_l (hW_w.fin tX_16 rfl : In 0 10 (fI w 16 0)) (In_lit (n := 10) (by decide) (by decide) : In 10 10 10) c_1 (by decide) : In 0 9 (fI w 16 0)) (In_lit (n := 1) (by decide) (by decide) : In 1 1 1) (by decide)) : In 1 10 ((fI w 16 0) + 1))) (In_of ((hs_w_23.2 34 4 (by decide) (by decide)).trans ((hs_w_20.2 34 4 (by decide) (by decide)).trans ((hs_w_17.2 34 4 (by decide) (by decide)).trans ((hs_w_15.gI (by decide)).trans ((fI_cg (st_ne ew_14 (by decide))).trans ((fI_cg (st_ne ew_13 (by decide))).trans ((hs_w_10.gI (by decide)).trans ((hs_w_5.gI (by decide)).trans (hs_w_2.gI (by decide)))))))))) hf_34_4) _) ⟨⟨rfl, rfl⟩, rfl, rfl⟩ sv_X8_94 ⟨(Nat.le_trans (by decide) hR.1), (Nat.le_trans (by decide) hR.2)⟩ 34 8 (hW_w_23.o tX_34) rfl rfl rfl hl.1 rfl (Nat.le_of_ble_eq_true rfl) dX8_readsKind_192) (fun r_27 w_26 H locs hw_w_26 hP hD hS => ?_)
                obtain ⟨hW_w_26, hs_w_26, i_r_27⟩ := hw_w_26
                refine lv_if_eq (tgt := 211) hx hb dX8_readsKind_195 (by decide) (fun c_28 => ?_) (fun c_28 => ?_)
                · refine lv_iconst (v := 0) hx hb dX8_readsKind_211 (by decide) ?_
                  exact hret _ _ _ _ _ _ hP hD hS dX8_readsKind_212 (In_lit (n := 0) (by decide) (by decide) : In 0 1 0) ⟨hW_w_26, ((((((((((Sm.rf.tr hs_w_2 (by decide)).tr hs_w_5 (by decide)).tr hs_w_10 (by decide)).sa ew_13 (by decide)).sf (hW_w_13.lt tX_16) ew_14 (by decide)).tr hs_w_15 (by decide)).tr hs_w_17 (by decide)).tr hs_w_20 (by decide)).tr hs_w_23 (by decide)).tr hs_w_26 (by decide)), (In_lit (n := 0) (by decide) (by decide) : In 0 1 0), (fun h => absurd rfl h)⟩
                · refine lv_aload_n hx hb dX8_readsKind_198 rfl (lv_at hl 1 rfl) ?_
                  refine lv_bipush (v := 59) hx hb dX8_readsKind_199 (by decide) ?_
                  refine kW_i ⟨rfl, rfl⟩ hP hD hS hA (rW_V (As := [.int 59]) (rest := []) hx hb hml hown hts hK hE hP hD (k_X8_passes l D cI cJ cZ q bb bs w_26 hW_w_26 59 (In_lit (n := 59) (by decide) (by decide) : In 41 271 59) _) ⟨⟨rfl, rfl⟩, rfl, rfl⟩ sv_X8_97 ⟨(Nat.le_trans (by decide) hR.1), (Nat.le_trans (by decide) hR.2)⟩ 34 8 (hW_w_26.o tX_34) rfl rfl rfl hl.1 rfl (Nat.le_of_ble_eq_true rfl) dX8_readsKind_201) (fun r_30 w_29 H locs hw_w_29 hP hD hS => ?_)
                  obtain ⟨hW_w_29, hs_w_29, i_r_30⟩ := hw_w_29
                  refine lv_if_eq (tgt := 211) hx hb dX8_readsKind_204 (by decide) (fun c_31 => ?_) (fun c_31 => ?_)
                  · refine lv_iconst (v := 0) hx hb dX8_readsKind_211 (by decide) ?_
                    exact hret _ _ _ _ _ _ hP hD hS dX8_readsKind_212 (In_lit (n := 0) (by decide) (by decide) : In 0 1 0) ⟨hW_w_29, (((((((((((Sm.rf.tr hs_w_2 (by decide)).tr hs_w_5 (by decide)).tr hs_w_10 (by decide)).sa ew_13 (by decide)).sf (hW_w_13.lt tX_16) ew_14 (by decide)).tr hs_w_15 (by decide)).tr hs_w_17 (by decide)).tr hs_w_20 (by decide)).tr hs_w_23 (by decide)).tr hs_w_26 (by decide)).tr hs_w_29 (by decide)), (In_lit (n := 0) (by decide) (by decide) : In 0 1 0), (fun h => absurd rfl h)⟩
                  · refine lv_iconst (v := 1) hx hb dX8_readsKind_207 (by decide) ?_
                    refine lv_goto (tgt := 212) hx hb dX8_readsKind_208 (by decide) ?_
                    exact hret _ _ _ _ _ _ hP hD hS dX8_readsKind_212 (In_lit (n := 1) (by decide) (by decide) : In 0 1 1) ⟨hW_w_29, (((((((((((Sm.rf.tr hs_w_2 (by decide)).tr hs_w_5 (by decide)).tr hs_w_10 (by decide)).sa ew_13 (by decide)).sf (hW_w_13.lt tX_16) ew_14 (by decide)).tr hs_w_15 (by decide)).tr hs_w_17 (by decide)).tr hs_w_20 (by decide)).tr hs_w_23 (by decide)).tr hs_w_26 (by decide)).tr hs_w_29 (by decide)), (In_lit (n := 1) (by decide) (by decide) : In 0 1 1), (fun h => (In_of ((hs_w_29.gI (by decide)).trans ((hs_w_26.2 16 0 (by decide) (by decide)).trans ((hs_w_23.gI (by decide)).trans ((hs_w_20.gI (by decide)).trans ((hs_w_17.gI (by decide)).trans ((hs_w_15.gI (by decide)).trans (fI_eq (hW_w_13.lt tX_16) ew_14 (hW_w_13.ll tX_16 (Nat.le_of_ble_eq_true rfl))))))))) ((In_add (R_lt_l (hW_w.fin tX_16 rfl : In 0 10 (fI w 16 0)) (In_lit (n := 10) (by decide) (by decide) : In 10 10 10) c_1 (by decide) : In 0 9 (fI w 16 0)) (In_lit (n := 1) (by decide) (by decide) : In 1 1 1) (by decide)) : In 1 10 ((fI w 16 0) + 1))))⟩
        · refine lv_aload_n hx hb dX8_readsKind_80 rfl (lv_at hl 0 rfl) ?_
          refine lv_iconst (v := 2) hx hb dX8_readsKind_81 (by decide) ?_
          refine kW_i ⟨rfl, rfl⟩ hP hD hS hA (rW_V (As := [.int 2]) (rest := []) hx hb hml hown hts hK hE hP hD (k_X8_fails l D cI cJ cZ q bb bs w_10 hW_w_10 2 (In_lit (n := 2) (by decide) (by decide) : In 1 5 2) _) ⟨⟨rfl, rfl⟩, rfl, rfl⟩ sv_X8_56 ⟨(Nat.le_trans (by decide) hR.1), (Nat.le_trans (by decide) hR.2)⟩ 34 8 (hW_w_10.o tX_34) rfl rfl rfl hl.1 rfl (Nat.le_of_ble_eq_true rfl) dX8_readsKind_82) (fun r_33 w_32 H locs hw_w_32 hP hD hS => ?_)
          obtain ⟨hW_w_32, hs_w_32, i_r_33⟩ := hw_w_32
          refine tov (v := 0) (In_one i_r_33 (by decide)) ?_
          exact hret _ _ _ _ _ _ hP hD hS dX8_readsKind_85 (In_lit (n := 0) (by decide) (by decide) : In 0 1 0) ⟨hW_w_32, ((((Sm.rf.tr hs_w_2 (by decide)).tr hs_w_5 (by decide)).tr hs_w_10 (by decide)).tr hs_w_32 (by decide)), (In_lit (n := 0) (by decide) (by decide) : In 0 1 0), (fun h => absurd rfl h)⟩
    · refine lv_aload_n hx hb dX8_readsKind_38 rfl (lv_at hl 0 rfl) ?_
      refine lv_iconst (v := 1) hx hb dX8_readsKind_39 (by decide) ?_
      refine kW_i ⟨rfl, rfl⟩ hP hD hS hA (rW_V (As := [.int 1]) (rest := []) hx hb hml hown hts hK hE hP hD (k_X8_fails l D cI cJ cZ q bb bs w_2 hW_w_2 1 (In_lit (n := 1) (by decide) (by decide) : In 1 5 1) _) ⟨⟨rfl, rfl⟩, rfl, rfl⟩ sv_X8_56 ⟨(Nat.le_trans (by decide) hR.1), (Nat.le_trans (by decide) hR.2)⟩ 34 8 (hW_w_2.o tX_34) rfl rfl rfl hl.1 rfl (Nat.le_of_ble_eq_true rfl) dX8_readsKind_40) (fun r_35 w_34 H locs hw_w_34 hP hD hS => ?_)
      obtain ⟨hW_w_34, hs_w_34, i_r_35⟩ := hw_w_34
      refine tov (v := 0) (In_one i_r_35 (by decide)) ?_
      exact hret _ _ _ _ _ _ hP hD hS dX8_readsKind_43 (In_lit (n := 0) (by decide) (by decide) : In 0 1 0) ⟨hW_w_34, ((Sm.rf.tr hs_w_2 (by decide)).tr hs_w_34 (by decide)), (In_lit (n := 0) (by decide) (by decide) : In 0 1 0), (fun h => absurd rfl h)⟩
  · refine lv_aload_n hx hb dX8_readsKind_12 rfl (lv_at hl 0 rfl) ?_
    refine lv_iconst (v := 5) hx hb dX8_readsKind_13 (by decide) ?_
    refine kW_i ⟨rfl, rfl⟩ hP hD hS hA (rW_V (As := [.int 5]) (rest := []) hx hb hml hown hts hK hE hP hD (k_X8_fails l D cI cJ cZ q bb bs w hW_w 5 (In_lit (n := 5) (by decide) (by decide) : In 1 5 5) _) ⟨⟨rfl, rfl⟩, rfl, rfl⟩ sv_X8_56 ⟨(Nat.le_trans (by decide) hR.1), (Nat.le_trans (by decide) hR.2)⟩ 34 8 (hW_w.o tX_34) rfl rfl rfl hl.1 rfl (Nat.le_of_ble_eq_true rfl) dX8_readsKind_14) (fun r_37 w_36 H locs hw_w_36 hP hD hS => ?_)
    obtain ⟨hW_w_36, hs_w_36, i_r_37⟩ := hw_w_36
    refine tov (v := 0) (In_one i_r_37 (by decide)) ?_
    exact hret _ _ _ _ _ _ hP hD hS dX8_readsKind_17 (In_lit (n := 0) (by decide) (by decide) : In 0 1 0) ⟨hW_w_36, (Sm.rf.tr hs_w_36 (by decide)), (In_lit (n := 0) (by decide) (by decide) : In 0 1 0), (fun h => absurd rfl h)⟩
set_option maxRecDepth 100000 in
set_option maxHeartbeats 8000000 in
theorem k_X8_readsAll_16 (l : Launch) (D : va_G) (cI cJ cZ : ClassId) (q : Nat → Nat) (bb bs bp : Nat) (w : va_W) (hW_w : HT q (TX q cI cJ cZ bb bs bp) w) : Con_i l yX8_readsAll cX8_readsAll 4 (some .boolean) ({ frames := 33, cells := 0, slots := 0, locals := 1626 }) D cI cJ cZ eW [.ref (q 34), .ref (q 16)] w (fun (r : Int32) (w1 : va_W) => HT q (TX q cI cJ cZ bb bs 16) w1 ∧ Sm [16, 17, 18, 19, 20, 21, 22, 23, 24, 25, 26, 27, 29, 30, 31, 34] [(16, 0), (16, 5), (16, 8), (16, 9), (16, 17), (16, 19), (31, 3), (31, 4), (31, 5), (31, 6), (31, 7), (34, 1), (34, 2), (34, 3), (34, 4)] w w1 ∧ In 0 1 r ∧ (¬ r = 0 → In 0 0 (fI w1 34 4))) := by
  refine eQ_z rfl (by decide) (Nat.le_of_ble_eq_true rfl) ⟨rfl, rfl⟩ ?_
  intro p e R s m args below meth c A Q hx hb hml hown hts hK hE hA hR hret hP hD hS ls hl
  have hown : s.vm.findClass RX8 = some m.cls := hown
  have hl : lv_has ls 4 [(0, .ref (q 34)), (1, .ref (q 16))] := hl
  have J36 : ∀ (N : Nat) (x36_2 : Int32) (w36 : va_W) (H : Heap) (locs : List Loc) (ls : Array Slot), (1001 - x36_2.toInt).toNat < N → HT q (TX q cI cJ cZ bb bs 16) w36 → Sm [16, 17, 18, 19, 20, 21, 22, 23, 24, 25, 26, 27, 29, 30, 31, 34] [(16, 0), (16, 5), (16, 8), (16, 9), (16, 17), (16, 19), (31, 3), (31, 4), (31, 5), (31, 6), (31, 7), (34, 1), (34, 2), (34, 3), (34, 4)] w w36 → (In 0 1001 x36_2) → (fI w36 34 4 = 0) → va_P D vwCl w36 H → va_D A w36 → va_S A s.heap H locs → lv_has ls 4 [(0, .ref (q 34)), (1, .ref (q 16)), (2, .int x36_2)] → W p l e R s m args below meth c H locs 0 0 Q (F0 m 36 ls []) := by
    intro N
    induction N with
    | zero => intro x36_2 w36 H locs ls hmu; exact absurd hmu (Nat.not_lt_zero _)
    | succ N ih36 =>
      intro x36_2 w36 H locs ls hmu36 hW_w36 hM_w36 i_x36_2 g36_34_4e hP hD hS hl
      refine lv_iload_n hx hb dX8_readsAll_36 rfl (lv_at hl 2 rfl) ?_
      refine lv_sipush (v := 1000) hx hb dX8_readsAll_37 (by decide) ?_
      refine lv_icmp_gt (tgt := 126) hx hb dX8_readsAll_40 (by decide) (fun c_1 => ?_) (fun c_1 => ?_)
      · refine lv_iconst (v := 1) hx hb dX8_readsAll_126 (by decide) ?_
        exact hret _ _ _ _ _ _ hP hD hS dX8_readsAll_127 (In_lit (n := 1) (by decide) (by decide) : In 0 1 1) ⟨hW_w36, hM_w36, (In_lit (n := 1) (by decide) (by decide) : In 0 1 1), (fun h => (In_of g36_34_4e (In_lit (n := 0) (by decide) (by decide) : In 0 0 0)))⟩
      · refine lv_aload_n hx hb dX8_readsAll_43 rfl (lv_at hl 0 rfl) ?_
        refine gt_X8 hx hb hts hown hK hP 34 (hW_w36.o tX_34) 0 (by decide) wd_227 rfl (hW_w36.fr tX_34 rfl) dX8_readsAll_44 ?_
        refine gt_X10 hx hb hts hown hK hP 31 (hW_w36.o tX_31) 4 (by decide) wd_195 rfl (hW_w36.fi tX_31 rfl) dX8_readsAll_47 ?_
        refine lv_sipush (v := 256) hx hb dX8_readsAll_50 (by decide) ?_
        refine lv_icmp_eq (tgt := 126) hx hb dX8_readsAll_53 (by decide) (fun c_2 => ?_) (fun c_2 => ?_)
        · refine lv_iconst (v := 1) hx hb dX8_readsAll_126 (by decide) ?_
          exact hret _ _ _ _ _ _ hP hD hS dX8_readsAll_127 (In_lit (n := 1) (by decide) (by decide) : In 0 1 1) ⟨hW_w36, hM_w36, (In_lit (n := 1) (by decide) (by decide) : In 0 1 1), (fun h => (In_of g36_34_4e (In_lit (n := 0) (by decide) (by decide) : In 0 0 0)))⟩
        · refine lv_aload_n hx hb dX8_readsAll_56 rfl (lv_at hl 0 rfl) ?_
          refine gt_X8 hx hb hts hown hK hP 34 (hW_w36.o tX_34) 0 (by decide) wd_227 rfl (hW_w36.fr tX_34 rfl) dX8_readsAll_57 ?_
          refine gt_X10 hx hb hts hown hK hP 31 (hW_w36.o tX_31) 4 (by decide) wd_195 rfl (hW_w36.fi tX_31 rfl) dX8_readsAll_60 ?_
          refine lv_sipush (v := 261) hx hb dX8_readsAll_63 (by decide) ?_
          refine lv_icmp_ne (tgt := 77) hx hb dX8_readsAll_66 (by decide) (fun c_3 => ?_) (fun c_3 => ?_)
          · refine lv_aload_n hx hb dX8_readsAll_77 rfl (lv_at hl 0 rfl) ?_
            refine gt_X8 hx hb hts hown hK hP 34 (hW_w36.o tX_34) 0 (by decide) wd_227 rfl (hW_w36.fr tX_34 rfl) dX8_readsAll_78 ?_
            refine gt_X10 hx hb hts hown hK hP 31 (hW_w36.o tX_31) 4 (by decide) wd_195 rfl (hW_w36.fi tX_31 rfl) dX8_readsAll_81 ?_
            refine lv_sipush (v := 271) hx hb dX8_readsAll_84 (by decide) ?_
            refine lv_icmp_ne (tgt := 98) hx hb dX8_readsAll_87 (by decide) (fun c_4 => ?_) (fun c_4 => ?_)
            · refine lv_aload_n hx hb dX8_readsAll_98 rfl (lv_at hl 0 rfl) ?_
              refine lv_aload_n hx hb dX8_readsAll_99 rfl (lv_at hl 0 rfl) ?_
              refine gt_X8 hx hb hts hown hK hP 34 (hW_w36.o tX_34) 0 (by decide) wd_227 rfl (hW_w36.fr tX_34 rfl) dX8_readsAll_100 ?_
              refine gt_X10 hx hb hts hown hK hP 31 (hW_w36.o tX_31) 4 (by decide) wd_195 rfl (hW_w36.fi tX_31 rfl) dX8_readsAll_103 ?_
              refine lv_sipush (v := 260) hx hb dX8_readsAll_106 (by decide) ?_
              refine lv_isub hx hb dX8_readsAll_109 ?_
              refine kW_i ⟨rfl, rfl⟩ hP hD hS hA (rW_V (As := [.int ((fI w36 31 4) - 260)]) (rest := []) hx hb hml hown hts hK hE hP hD (k_X8_readsClause l D cI cJ cZ q bb bs w36 hW_w36 ((fI w36 31 4) - 260) (In_of g36_34_4e (In_lit (n := 0) (by decide) (by decide) : In 0 0 0)) _) ⟨⟨rfl, rfl⟩, rfl, rfl⟩ sv_X8_49 ⟨(Nat.le_trans (by decide) hR.1), (Nat.le_trans (by decide) hR.2)⟩ 34 8 (hW_w36.o tX_34) rfl rfl rfl hl.1 rfl (Nat.le_of_ble_eq_true rfl) dX8_readsAll_110) (fun r_6 w_5 H locs hw_w_5 hP hD hS => ?_)
              obtain ⟨hW_w_5, hs_w_5, i_r_6, h_7⟩ := hw_w_5
              refine lv_istore_n (lv' := [(3, .int r_6), (0, .ref (q 34)), (1, .ref (q 16)), (2, .int x36_2)]) hx hb dX8_readsAll_113 rfl hl (by decide) rfl (fun ls hl => ?_)
              refine lv_iload_n hx hb dX8_readsAll_114 rfl (lv_at hl 0 rfl) ?_
              refine lv_if_ne (tgt := 120) hx hb dX8_readsAll_115 (by decide) (fun c_8 => ?_) (fun c_8 => ?_)
              · refine lv_iinc (v := (x36_2 + 1)) (lv' := [(2, .int (x36_2 + 1)), (3, .int r_6), (0, .ref (q 34)), (1, .ref (q 16))]) hx hb dX8_readsAll_120 hl (k := 3) rfl (rfl) (by decide) rfl (fun ls hl => ?_)
                refine lv_goto (tgt := 36) hx hb dX8_readsAll_123 (by decide) ?_
                exact ih36 (x36_2 + 1) w_5 _ _ ls (mu_inc hmu36 (R_nlt_r (In_lit (n := 1000) (by decide) (by decide) : In 1000 1000 1000) i_x36_2 c_1 (by decide) : In 0 1000 x36_2) (In_lit (n := 1) (by decide) (by decide) : In 1 1 1) (by decide)) hW_w_5 (hM_w36.tr hs_w_5 (by decide)) (In_w ((In_add (y := 1) (R_nlt_r (In_lit (n := 1000) (by decide) (by decide) : In 1000 1000 1000) i_x36_2 c_1 (by decide) : In 0 1000 x36_2) (In_lit (n := 1) (by decide) (by decide) : In 1 1 1) (by decide)) : In 1 1001 (x36_2 + 1)) (by decide) : In 0 1001 (x36_2 + 1)) ((h_7 c_8).1.trans g36_34_4e) hP hD hS (lv_sub hl [2, 3, 0] rfl)
              · refine lv_iconst (v := 0) hx hb dX8_readsAll_118 (by decide) ?_
                exact hret _ _ _ _ _ _ hP hD hS dX8_readsAll_119 (In_lit (n := 0) (by decide) (by decide) : In 0 1 0) ⟨hW_w_5, (hM_w36.tr hs_w_5 (by decide)), (In_lit (n := 0) (by decide) (by decide) : In 0 1 0), (fun h => absurd rfl h)⟩
            · refine lv_aload_n hx hb dX8_readsAll_90 rfl (lv_at hl 0 rfl) ?_
              refine kW_i ⟨rfl, rfl⟩ hP hD hS hA (rW_V (As := []) (rest := []) hx hb hml hown hts hK hE hP hD (k_X8_readsEven l D cI cJ cZ q bb bs w36 hW_w36 (In_of g36_34_4e (In_lit (n := 0) (by decide) (by decide) : In 0 0 0)) _) ⟨⟨rfl, rfl⟩, rfl, rfl⟩ sv_X8_46 ⟨(Nat.le_trans (by decide) hR.1), (Nat.le_trans (by decide) hR.2)⟩ 34 8 (hW_w36.o tX_34) rfl rfl rfl hl.1 rfl (Nat.le_of_ble_eq_true rfl) dX8_readsAll_91) (fun r_10 w_9 H locs hw_w_9 hP hD hS => ?_)
              obtain ⟨hW_w_9, hs_w_9, i_r_10, h_11⟩ := hw_w_9
              refine lv_istore_n (lv' := [(3, .int r_10), (0, .ref (q 34)), (1, .ref (q 16)), (2, .int x36_2)]) hx hb dX8_readsAll_94 rfl hl (by decide) rfl (fun ls hl => ?_)
              refine lv_goto (tgt := 114) hx hb dX8_readsAll_95 (by decide) ?_
              refine lv_iload_n hx hb dX8_readsAll_114 rfl (lv_at hl 0 rfl) ?_
              refine lv_if_ne (tgt := 120) hx hb dX8_readsAll_115 (by decide) (fun c_12 => ?_) (fun c_12 => ?_)
              · refine lv_iinc (v := (x36_2 + 1)) (lv' := [(2, .int (x36_2 + 1)), (3, .int r_10), (0, .ref (q 34)), (1, .ref (q 16))]) hx hb dX8_readsAll_120 hl (k := 3) rfl (rfl) (by decide) rfl (fun ls hl => ?_)
                refine lv_goto (tgt := 36) hx hb dX8_readsAll_123 (by decide) ?_
                exact ih36 (x36_2 + 1) w_9 _ _ ls (mu_inc hmu36 (R_nlt_r (In_lit (n := 1000) (by decide) (by decide) : In 1000 1000 1000) i_x36_2 c_1 (by decide) : In 0 1000 x36_2) (In_lit (n := 1) (by decide) (by decide) : In 1 1 1) (by decide)) hW_w_9 (hM_w36.tr hs_w_9 (by decide)) (In_w ((In_add (y := 1) (R_nlt_r (In_lit (n := 1000) (by decide) (by decide) : In 1000 1000 1000) i_x36_2 c_1 (by decide) : In 0 1000 x36_2) (In_lit (n := 1) (by decide) (by decide) : In 1 1 1) (by decide)) : In 1 1001 (x36_2 + 1)) (by decide) : In 0 1001 (x36_2 + 1)) ((hs_w_9.2 34 4 (by decide) (by decide)).trans g36_34_4e) hP hD hS (lv_sub hl [2, 3, 0] rfl)
              · refine lv_iconst (v := 0) hx hb dX8_readsAll_118 (by decide) ?_
                exact hret _ _ _ _ _ _ hP hD hS dX8_readsAll_119 (In_lit (n := 0) (by decide) (by decide) : In 0 1 0) ⟨hW_w_9, (hM_w36.tr hs_w_9 (by decide)), (In_lit (n := 0) (by decide) (by decide) : In 0 1 0), (fun h => absurd rfl h)⟩
          · refine lv_aload_n hx hb dX8_readsAll_69 rfl (lv_at hl 0 rfl) ?_
            refine kW_i ⟨rfl, rfl⟩ hP hD hS hA (rW_V (As := []) (rest := []) hx hb hml hown hts hK hE hP hD (k_X8_readsKind l D cI cJ cZ q bb bs w36 hW_w36 (In_of g36_34_4e (In_lit (n := 0) (by decide) (by decide) : In 0 0 0)) _) ⟨⟨rfl, rfl⟩, rfl, rfl⟩ sv_X8_42 ⟨(Nat.le_trans (by decide) hR.1), (Nat.le_trans (by decide) hR.2)⟩ 34 8 (hW_w36.o tX_34) rfl rfl rfl hl.1 rfl (Nat.le_of_ble_eq_true rfl) dX8_readsAll_70) (fun r_14 w_13 H locs hw_w_13 hP hD hS => ?_)
            obtain ⟨hW_w_13, hs_w_13, i_r_14, h_15⟩ := hw_w_13
            refine lv_istore_n (lv' := [(3, .int r_14), (0, .ref (q 34)), (1, .ref (q 16)), (2, .int x36_2)]) hx hb dX8_readsAll_73 rfl hl (by decide) rfl (fun ls hl => ?_)
            refine lv_goto (tgt := 114) hx hb dX8_readsAll_74 (by decide) ?_
            refine lv_iload_n hx hb dX8_readsAll_114 rfl (lv_at hl 0 rfl) ?_
            refine lv_if_ne (tgt := 120) hx hb dX8_readsAll_115 (by decide) (fun c_16 => ?_) (fun c_16 => ?_)
            · refine lv_iinc (v := (x36_2 + 1)) (lv' := [(2, .int (x36_2 + 1)), (3, .int r_14), (0, .ref (q 34)), (1, .ref (q 16))]) hx hb dX8_readsAll_120 hl (k := 3) rfl (rfl) (by decide) rfl (fun ls hl => ?_)
              refine lv_goto (tgt := 36) hx hb dX8_readsAll_123 (by decide) ?_
              exact ih36 (x36_2 + 1) w_13 _ _ ls (mu_inc hmu36 (R_nlt_r (In_lit (n := 1000) (by decide) (by decide) : In 1000 1000 1000) i_x36_2 c_1 (by decide) : In 0 1000 x36_2) (In_lit (n := 1) (by decide) (by decide) : In 1 1 1) (by decide)) hW_w_13 (hM_w36.tr hs_w_13 (by decide)) (In_w ((In_add (y := 1) (R_nlt_r (In_lit (n := 1000) (by decide) (by decide) : In 1000 1000 1000) i_x36_2 c_1 (by decide) : In 0 1000 x36_2) (In_lit (n := 1) (by decide) (by decide) : In 1 1 1) (by decide)) : In 1 1001 (x36_2 + 1)) (by decide) : In 0 1001 (x36_2 + 1)) ((hs_w_13.2 34 4 (by decide) (by decide)).trans g36_34_4e) hP hD hS (lv_sub hl [2, 3, 0] rfl)
            · refine lv_iconst (v := 0) hx hb dX8_readsAll_118 (by decide) ?_
              exact hret _ _ _ _ _ _ hP hD hS dX8_readsAll_119 (In_lit (n := 0) (by decide) (by decide) : In 0 1 0) ⟨hW_w_13, (hM_w36.tr hs_w_13 (by decide)), (In_lit (n := 0) (by decide) (by decide) : In 0 1 0), (fun h => absurd rfl h)⟩
  refine lv_aload_n hx hb dX8_readsAll_0 rfl (lv_at hl 0 rfl) ?_
  refine lv_aload_n hx hb dX8_readsAll_1 rfl (lv_at hl 1 rfl) ?_
  refine pt_X8 hx hb hts hown hK hP hD hS 34 (hW_w.o tX_34) 1 (by decide) wd_228 rfl rfl (ty := .object "WinterToys$Book") (v := .ref (q 16)) (by decide +kernel) rfl rfl (hW_w.ll tX_34 (Nat.le_of_ble_eq_true rfl)) dX8_readsAll_2 (fun H locs hP hD hS => fr_w (HT.sR (T2 := TX q cI cJ cZ bb bs 16) hW_w tX_34 rfl rfl) hP hD (fun w_17 ew_17 hW_w_17 hP hD => ?_))
  refine lv_aload_n hx hb dX8_readsAll_5 rfl (lv_at hl 0 rfl) ?_
  refine lv_iconst (v := 0) hx hb dX8_readsAll_6 (by decide) ?_
  refine pt_X8 hx hb hts hown hK hP hD hS 34 (hW_w_17.o tX_34) 2 (by decide) wd_229 rfl rfl (ty := .int) (v := .int 0) (by decide +kernel) rfl rfl (hW_w_17.ll tX_34 (Nat.le_of_ble_eq_true rfl)) dX8_readsAll_7 (fun H locs hP hD hS => fr_w (hW_w_17.sI tX_34 rfl (In_lit (n := 0) (by decide) (by decide) : In (-2147483648) 2147483647 0)) hP hD (fun w_18 ew_18 hW_w_18 hP hD => ?_))
  refine lv_aload_n hx hb dX8_readsAll_10 rfl (lv_at hl 0 rfl) ?_
  refine lv_iconst (v := (-1)) hx hb dX8_readsAll_11 (by decide) ?_
  refine pt_X8 hx hb hts hown hK hP hD hS 34 (hW_w_18.o tX_34) 3 (by decide) wd_231 rfl rfl (ty := .int) (v := .int (-1)) (by decide +kernel) rfl rfl (hW_w_18.ll tX_34 (Nat.le_of_ble_eq_true rfl)) dX8_readsAll_12 (fun H locs hP hD hS => fr_w (hW_w_18.sI tX_34 rfl (In_lit (n := (-1)) (by decide) (by decide) : In (-2147483648) 2147483647 (-1))) hP hD (fun w_19 ew_19 hW_w_19 hP hD => ?_))
  refine lv_aload_n hx hb dX8_readsAll_15 rfl (lv_at hl 0 rfl) ?_
  refine lv_iconst (v := 0) hx hb dX8_readsAll_16 (by decide) ?_
  refine pt_X8 hx hb hts hown hK hP hD hS 34 (hW_w_19.o tX_34) 4 (by decide) wd_233 rfl rfl (ty := .int) (v := .int 0) (by decide +kernel) rfl rfl (hW_w_19.ll tX_34 (Nat.le_of_ble_eq_true rfl)) dX8_readsAll_17 (fun H locs hP hD hS => fr_w (hW_w_19.sI tX_34 rfl (In_lit (n := 0) (by decide) (by decide) : In (-2147483648) 2147483647 0)) hP hD (fun w_20 ew_20 hW_w_20 hP hD => ?_))
  refine lv_aload_n hx hb dX8_readsAll_20 rfl (lv_at hl 0 rfl) ?_
  refine gt_X8 hx hb hts hown hK hP 34 (hW_w_20.o tX_34) 1 (by decide) wd_228 rfl (hW_w_20.fr tX_34 rfl) dX8_readsAll_21 ?_
  refine kW_v ⟨rfl, rfl⟩ hP hD hS hA (rW_V (As := []) (rest := []) hx hb hml hown hts hK hE hP hD (k_X1_empty_at16 l D cI cJ cZ q bb bs 16 w_20 hW_w_20 (In_of (fI_eq (hW_w_19.lt tX_34) ew_20 (hW_w_19.ll tX_34 (Nat.le_of_ble_eq_true rfl))) (In_lit (n := 0) (by decide) (by decide) : In 0 0 0)) _) ⟨⟨rfl, rfl⟩, rfl, rfl⟩ sv_X8_29 ⟨(Nat.le_trans (by decide) hR.1), (Nat.le_trans (by decide) hR.2)⟩ 16 1 (hW_w_20.o tX_16) rfl rfl rfl hl.1 rfl (Nat.le_of_ble_eq_true rfl) dX8_readsAll_24) (fun w_21 H locs hw_w_21 hP hD hS => ?_)
  obtain ⟨hW_w_21, hs_w_21, h_23, h_24, h_25, h_26, h_27⟩ := hw_w_21
  refine lv_aload_n hx hb dX8_readsAll_27 rfl (lv_at hl 0 rfl) ?_
  refine gt_X8 hx hb hts hown hK hP 34 (hW_w_21.o tX_34) 0 (by decide) wd_227 rfl (hW_w_21.fr tX_34 rfl) dX8_readsAll_28 ?_
  refine kW_v ⟨rfl, rfl⟩ hP hD hS hA (rW_V (As := []) (rest := []) hx hb hml hown hts hK hE hP hD (k_X10_rewind l D cI cJ cZ q bb bs 16 w_21 hW_w_21  _) ⟨⟨rfl, rfl⟩, rfl, rfl⟩ sv_X8_34 ⟨(Nat.le_trans (by decide) hR.1), (Nat.le_trans (by decide) hR.2)⟩ 31 10 (hW_w_21.o tX_31) rfl rfl rfl hl.1 rfl (Nat.le_of_ble_eq_true rfl) dX8_readsAll_31) (fun w_28 H locs hw_w_28 hP hD hS => ?_)
  obtain ⟨hW_w_28, hs_w_28⟩ := hw_w_28
  refine lv_iconst (v := 0) hx hb dX8_readsAll_34 (by decide) ?_
  refine lv_istore_n (lv' := [(2, .int 0), (0, .ref (q 34)), (1, .ref (q 16))]) hx hb dX8_readsAll_35 rfl hl (by decide) rfl (fun ls hl => ?_)
  exact J36 _ 0 w_28 _ _ ls (Nat.lt_succ_self _) hW_w_28 ((((((Sm.rf.sf (hW_w.lt tX_34) ew_17 (by decide)).sf (hW_w_17.lt tX_34) ew_18 (by decide)).sf (hW_w_18.lt tX_34) ew_19 (by decide)).sf (hW_w_19.lt tX_34) ew_20 (by decide)).tr hs_w_21 (by decide)).tr hs_w_28 (by decide)) (In_lit (n := 0) (by decide) (by decide) : In 0 1001 0) ((hs_w_28.gI (by decide)).trans ((hs_w_21.gI (by decide)).trans (fI_eq (hW_w_19.lt tX_34) ew_20 (hW_w_19.ll tX_34 (Nat.le_of_ble_eq_true rfl))))) hP hD hS (lv_sub hl [1, 2, 0] rfl)
set_option maxRecDepth 100000 in
set_option maxHeartbeats 8000000 in
theorem k_X11_rules (l : Launch) (D : va_G) (cI cJ cZ : ClassId) (q : Nat → Nat) (bp : Nat) (w : va_W) (hW_w : HT q (TX q cI cJ cZ 1 16 bp) w) : Con_i l yX11_rules cX11_rules 3 (some .int) ({ frames := 34, cells := 0, slots := 0, locals := 1649 }) D cI cJ cZ eW [.ref (q 0)] w (fun (r : Int32) (w1 : va_W) => ((HT q (TX q cI cJ cZ 1 16 16) w1) ∨ (HT q (TX q cI cJ cZ 16 1 16) w1)) ∧ Sm [0, 16, 17, 18, 19, 20, 21, 22, 23, 24, 25, 26, 27, 28, 29, 30, 31, 34, 35, 42, 63, 88] [(0, 0), (0, 1), (0, 12), (16, 0), (16, 5), (16, 8), (16, 9), (16, 17), (16, 19), (31, 1), (31, 3), (31, 4), (31, 5), (31, 6), (31, 7), (34, 1), (34, 2), (34, 3), (34, 4), (35, 0), (35, 1), (42, 0), (88, 0)] w w1 ∧ In (-1) 39 r ∧ (fI w1 31 1 = 0)) := by
  refine eQ_i rfl (by decide) (Nat.le_of_ble_eq_true rfl) ⟨rfl, rfl⟩ ?_
  intro p e R s m args below meth c A Q hx hb hml hown hts hK hE hA hR hret hP hD hS ls hl
  have hown : s.vm.findClass RX11 = some m.cls := hown
  have hl : lv_has ls 3 [(0, .ref (q 0))] := hl
  refine lv_aload_n hx hb dX11_rules_0 rfl (lv_at hl 0 rfl) ?_
  refine gt_X11 hx hb hts hown hK hP 0 (hW_w.o tX_0) 3 (by decide) wd_676 rfl (hW_w.fr tX_0 rfl) dX11_rules_1 ?_
  refine lv_aload_n hx hb dX11_rules_4 rfl (lv_at hl 0 rfl) ?_
  refine gt_X11 hx hb hts hown hK hP 0 (hW_w.o tX_0) 1 (by decide) wd_674 rfl (hW_w.fr tX_0 rfl) dX11_rules_5 ?_
  refine kW_i ⟨rfl, rfl⟩ hP hD hS hA (rW_V (As := [.ref (q 16)]) (rest := []) hx hb hml hown hts hK hE hP hD (k_X8_readsAll_16 l D cI cJ cZ q 1 16 bp w hW_w  _) ⟨⟨rfl, rfl⟩, rfl, rfl⟩ sv_X11_110 ⟨(Nat.le_trans (by decide) hR.1), (Nat.le_trans (by decide) hR.2)⟩ 34 8 (hW_w.o tX_34) rfl rfl rfl hl.1 rfl (Nat.le_of_ble_eq_true rfl) dX11_rules_8) (fun r_2 w_1 H locs hw_w_1 hP hD hS => ?_)
  obtain ⟨hW_w_1, hs_w_1, i_r_2, h_3⟩ := hw_w_1
  refine lv_istore_n (lv' := [(1, .int r_2), (0, .ref (q 0))]) hx hb dX11_rules_11 rfl hl (by decide) rfl (fun ls hl => ?_)
  refine lv_aload_n hx hb dX11_rules_12 rfl (lv_at hl 1 rfl) ?_
  refine gt_X11 hx hb hts hown hK hP 0 (hW_w_1.o tX_0) 2 (by decide) wd_675 rfl (hW_w_1.fr tX_0 rfl) dX11_rules_13 ?_
  refine lv_iconst (v := 0) hx hb dX11_rules_16 (by decide) ?_
  refine pt_X10 hx hb hts hown hK hP hD hS 31 (hW_w_1.o tX_31) 1 (by decide) wd_191 rfl rfl (ty := .int) (v := .int 0) (by decide +kernel) rfl rfl (hW_w_1.ll tX_31 (Nat.le_of_ble_eq_true rfl)) dX11_rules_17 (fun H locs hP hD hS => fr_w (hW_w_1.sI tX_31 rfl (In_lit (n := 0) (by decide) (by decide) : In 0 1000 0)) hP hD (fun w_4 ew_4 hW_w_4 hP hD => ?_))
  refine lv_iload_n hx hb dX11_rules_20 rfl (lv_at hl 0 rfl) ?_
  refine lv_if_ne (tgt := 26) hx hb dX11_rules_21 (by decide) (fun c_5 => ?_) (fun c_5 => ?_)
  · refine lv_aload_n hx hb dX11_rules_26 rfl (lv_at hl 1 rfl) ?_
    refine gt_X11 hx hb hts hown hK hP 0 (hW_w_4.o tX_0) 0 (by decide) wd_673 rfl (hW_w_4.fr tX_0 rfl) dX11_rules_27 ?_
    refine lv_astore_n (lv' := [(2, .ref (q 1)), (1, .int r_2), (0, .ref (q 0))]) hx hb dX11_rules_30 rfl hl (by decide) rfl (fun ls hl => ?_)
    refine lv_aload_n hx hb dX11_rules_31 rfl (lv_at hl 2 rfl) ?_
    refine lv_aload_n hx hb dX11_rules_32 rfl (lv_at hl 2 rfl) ?_
    refine gt_X11 hx hb hts hown hK hP 0 (hW_w_4.o tX_0) 1 (by decide) wd_674 rfl (hW_w_4.fr tX_0 rfl) dX11_rules_33 ?_
    refine pt_X11 hx hb hts hown hK hP hD hS 0 (hW_w_4.o tX_0) 0 (by decide) wd_673 rfl rfl (ty := .object "WinterToys$Book") (v := .ref (q 16)) (by decide +kernel) rfl rfl (hW_w_4.ll tX_0 (Nat.le_of_ble_eq_true rfl)) dX11_rules_36 (fun H locs hP hD hS => fr_w (HT.sR (T2 := TX q cI cJ cZ 16 16 16) hW_w_4 tX_0 rfl rfl) hP hD (fun w_6 ew_6 hW_w_6 hP hD => ?_))
    refine lv_aload_n hx hb dX11_rules_39 rfl (lv_at hl 2 rfl) ?_
    refine lv_aload_n hx hb dX11_rules_40 rfl (lv_at hl 0 rfl) ?_
    refine pt_X11 hx hb hts hown hK hP hD hS 0 (hW_w_6.o tX_0) 1 (by decide) wd_674 rfl rfl (ty := .object "WinterToys$Book") (v := .ref (q 1)) (by decide +kernel) rfl rfl (hW_w_6.ll tX_0 (Nat.le_of_ble_eq_true rfl)) dX11_rules_41 (fun H locs hP hD hS => fr_w (HT.sR (T2 := TX q cI cJ cZ 16 1 16) hW_w_6 tX_0 rfl rfl) hP hD (fun w_7 ew_7 hW_w_7 hP hD => ?_))
    refine lv_aload_n hx hb dX11_rules_44 rfl (lv_at hl 2 rfl) ?_
    refine gt_X11 hx hb hts hown hK hP 0 (hW_w_7.o tX_0) 6 (by decide) wd_679 rfl (hW_w_7.fr tX_0 rfl) dX11_rules_45 ?_
    refine lv_aload_n hx hb dX11_rules_48 rfl (lv_at hl 2 rfl) ?_
    refine gt_X11 hx hb hts hown hK hP 0 (hW_w_7.o tX_0) 0 (by decide) wd_673 rfl (hW_w_7.fr tX_0 rfl) dX11_rules_49 ?_
    refine kW_v ⟨rfl, rfl⟩ hP hD hS hA (rW_V (As := [.ref (q 16)]) (rest := []) hx hb hml hown hts hK hE hP hD (k_X5_chooseKinds_16 l D cI cJ cZ q 16 1 16 w_7 hW_w_7  _) ⟨⟨rfl, rfl⟩, rfl, rfl⟩ sv_X11_114 ⟨(Nat.le_trans (by decide) hR.1), (Nat.le_trans (by decide) hR.2)⟩ 56 5 (hW_w_7.o tX_56) rfl rfl rfl hl.1 rfl (Nat.le_of_ble_eq_true rfl) dX11_rules_52) (fun w_8 H locs hw_w_8 hP hD hS => ?_)
    obtain ⟨hW_w_8, hs_w_8⟩ := hw_w_8
    refine lv_aload_n hx hb dX11_rules_55 rfl (lv_at hl 2 rfl) ?_
    refine gt_X11 hx hb hts hown hK hP 0 (hW_w_8.o tX_0) 4 (by decide) wd_677 rfl (hW_w_8.fr tX_0 rfl) dX11_rules_56 ?_
    refine kW_v ⟨rfl, rfl⟩ hP hD hS hA (rW_V (As := []) (rest := []) hx hb hml hown hts hK hE hP hD (k_X7_empty l D cI cJ cZ q 16 1 16 w_8 hW_w_8  _) ⟨⟨rfl, rfl⟩, rfl, rfl⟩ sv_X11_118 ⟨(Nat.le_trans (by decide) hR.1), (Nat.le_trans (by decide) hR.2)⟩ 35 7 (hW_w_8.o tX_35) rfl rfl rfl hl.1 rfl (Nat.le_of_ble_eq_true rfl) dX11_rules_59) (fun w_10 H locs hw_w_10 hP hD hS => ?_)
    obtain ⟨hW_w_10, hs_w_10, h_12⟩ := hw_w_10
    refine lv_aload_n hx hb dX11_rules_62 rfl (lv_at hl 2 rfl) ?_
    refine lv_iconst (v := (-1)) hx hb dX11_rules_63 (by decide) ?_
    refine pt_X11 hx hb hts hown hK hP hD hS 0 (hW_w_10.o tX_0) 12 (by decide) wd_685 rfl rfl (ty := .int) (v := .int (-1)) (by decide +kernel) rfl rfl (hW_w_10.ll tX_0 (Nat.le_of_ble_eq_true rfl)) dX11_rules_64 (fun H locs hP hD hS => fr_w (hW_w_10.sI tX_0 rfl (In_lit (n := (-1)) (by decide) (by decide) : In (-1) 200 (-1))) hP hD (fun w_13 ew_13 hW_w_13 hP hD => ?_))
    refine lv_aload_n hx hb dX11_rules_67 rfl (lv_at hl 2 rfl) ?_
    refine gt_X11 hx hb hts hown hK hP 0 (hW_w_13.o tX_0) 5 (by decide) wd_678 rfl (hW_w_13.fr tX_0 rfl) dX11_rules_68 ?_
    refine kW_v ⟨rfl, rfl⟩ hP hD hS hA (rW_V (As := []) (rest := []) hx hb hml hown hts hK hE hP hD (k_X6_forget l D cI cJ cZ q 16 1 16 w_13 hW_w_13 (In_of ((fI_cg (st_ne ew_13 (by decide))).trans ((hs_w_10.gI (by decide)).trans ((hs_w_8.gI (by decide)).trans ((fI_cg (st_ne ew_7 (by decide))).trans ((fI_cg (st_ne ew_6 (by decide))).trans (fI_cg (st_ne ew_4 (by decide)))))))) (h_3 c_5)) (In_of (fI_cg (st_ne ew_13 (by decide))) h_12) _) ⟨⟨rfl, rfl⟩, rfl, rfl⟩ sv_X11_121 ⟨(Nat.le_trans (by decide) hR.1), (Nat.le_trans (by decide) hR.2)⟩ 42 6 (hW_w_13.o tX_42) rfl rfl rfl hl.1 rfl (Nat.le_of_ble_eq_true rfl) dX11_rules_71) (fun w_14 H locs hw_w_14 hP hD hS => ?_)
    obtain ⟨hW_w_14, hs_w_14⟩ := hw_w_14
    refine lv_aload_n hx hb dX11_rules_74 rfl (lv_at hl 2 rfl) ?_
    refine gt_X11 hx hb hts hown hK hP 0 (hW_w_14.o tX_0) 10 (by decide) wd_683 rfl (hW_w_14.fr tX_0 rfl) dX11_rules_75 ?_
    refine lv_iconst (v := 0) hx hb dX11_rules_78 (by decide) ?_
    refine pt_X4 hx hb hts hown hK hP hD hS 88 (hW_w_14.o tX_88) 0 (by decide) wd_567 rfl rfl (ty := .boolean) (v := .int 0) (by decide +kernel) rfl rfl (hW_w_14.ll tX_88 (Nat.le_of_ble_eq_true rfl)) dX11_rules_79 (fun H locs hP hD hS => fr_w (hW_w_14.sI tX_88 rfl (In_lit (n := 0) (by decide) (by decide) : In 0 1 0)) hP hD (fun w_16 ew_16 hW_w_16 hP hD => ?_))
    refine lv_aload_n hx hb dX11_rules_82 rfl (lv_at hl 2 rfl) ?_
    refine gt_X11 hx hb hts hown hK hP 0 (hW_w_16.o tX_0) 0 (by decide) wd_673 rfl (hW_w_16.fr tX_0 rfl) dX11_rules_83 ?_
    refine gt_X1 hx hb hts hown hK hP 16 (hW_w_16.o tX_16) 0 (by decide) wd_39 rfl (hW_w_16.fi tX_16 rfl) dX11_rules_86 ?_
    refine tov (v := (fI w_1 16 0)) ((fI_cg (st_ne ew_16 (by decide))).trans ((hs_w_14.gI (by decide)).trans ((fI_cg (st_ne ew_13 (by decide))).trans ((hs_w_10.gI (by decide)).trans ((hs_w_8.gI (by decide)).trans ((fI_cg (st_ne ew_7 (by decide))).trans ((fI_cg (st_ne ew_6 (by decide))).trans (fI_cg (st_ne ew_4 (by decide)))))))))) ?_
    refine lv_aload_n hx hb dX11_rules_89 rfl (lv_at hl 2 rfl) ?_
    refine gt_X11 hx hb hts hown hK hP 0 (hW_w_16.o tX_0) 0 (by decide) wd_673 rfl (hW_w_16.fr tX_0 rfl) dX11_rules_90 ?_
    refine gt_X1 hx hb hts hown hK hP 16 (hW_w_16.o tX_16) 8 (by decide) wd_65 rfl (hW_w_16.fi tX_16 rfl) dX11_rules_93 ?_
    refine tov (v := (fI w_1 16 8)) ((fI_cg (st_ne ew_16 (by decide))).trans ((hs_w_14.gI (by decide)).trans ((fI_cg (st_ne ew_13 (by decide))).trans ((hs_w_10.gI (by decide)).trans ((hs_w_8.gI (by decide)).trans ((fI_cg (st_ne ew_7 (by decide))).trans ((fI_cg (st_ne ew_6 (by decide))).trans (fI_cg (st_ne ew_4 (by decide)))))))))) ?_
    refine lv_iadd hx hb dX11_rules_96 ?_
    exact hret _ _ _ _ _ _ hP hD hS dX11_rules_97 ⟨(Or.inr hW_w_16), (((((((((Sm.rf.tr hs_w_1 (by decide)).sf (hW_w_1.lt tX_31) ew_4 (by decide)).sf (hW_w_4.lt tX_0) ew_6 (by decide)).sf (hW_w_6.lt tX_0) ew_7 (by decide)).tr hs_w_8 (by decide)).tr hs_w_10 (by decide)).sf (hW_w_10.lt tX_0) ew_13 (by decide)).tr hs_w_14 (by decide)).sf (hW_w_14.lt tX_88) ew_16 (by decide)), (In_w ((In_add (hW_w_1.fin tX_16 rfl : In 0 10 (fI w_1 16 0)) (hW_w_1.fin tX_16 rfl : In 0 24 (fI w_1 16 8)) (by decide)) : In 0 34 ((fI w_1 16 0) + (fI w_1 16 8))) (by decide) : In (-1) 39 ((fI w_1 16 0) + (fI w_1 16 8))), ((fI_cg (st_ne ew_16 (by decide))).trans ((hs_w_14.gI (by decide)).trans ((fI_cg (st_ne ew_13 (by decide))).trans ((hs_w_10.gI (by decide)).trans ((hs_w_8.gI (by decide)).trans ((fI_cg (st_ne ew_7 (by decide))).trans ((fI_cg (st_ne ew_6 (by decide))).trans (fI_eq (hW_w_1.lt tX_31) ew_4 (hW_w_1.ll tX_31 (Nat.le_of_ble_eq_true rfl))))))))))⟩
  · refine lv_iconst (v := (-1)) hx hb dX11_rules_24 (by decide) ?_
    exact hret _ _ _ _ _ _ hP hD hS dX11_rules_25 ⟨(Or.inl hW_w_4), ((Sm.rf.tr hs_w_1 (by decide)).sf (hW_w_1.lt tX_31) ew_4 (by decide)), (In_lit (n := (-1)) (by decide) (by decide) : In (-1) 39 (-1)), (fI_eq (hW_w_1.lt tX_31) ew_4 (hW_w_1.ll tX_31 (Nat.le_of_ble_eq_true rfl)))⟩
set_option maxRecDepth 100000 in
set_option maxHeartbeats 8000000 in
theorem k_X11_fault (l : Launch) (D : va_G) (cI cJ cZ : ClassId) (q : Nat → Nat) (bp : Nat) (w : va_W) (hW_w : HT q (TX q cI cJ cZ 1 16 bp) w) (p1 : Int32) : Con_i l yX11_fault cX11_fault 2 (some .int) ({ frames := 0, cells := 0, slots := 0, locals := 0 }) D cI cJ cZ eW [.ref (q 0), .int p1] w (fun (r : Int32) (w1 : va_W) => HT q (TX q cI cJ cZ 1 16 bp) w1 ∧ Sm [] [] w w1) := by
  refine eQ_i rfl (by decide) (Nat.le_of_ble_eq_true rfl) ⟨rfl, rfl⟩ ?_
  intro p e R s m args below meth c A Q hx hb hml hown hts hK hE hA hR hret hP hD hS ls hl
  have hown : s.vm.findClass RX11 = some m.cls := hown
  have hl : lv_has ls 2 [(0, .ref (q 0)), (1, .int p1)] := hl
  refine lv_iload_n hx hb dX11_fault_0 rfl (lv_at hl 1 rfl) ?_
  refine lv_if_ne (tgt := 12) hx hb dX11_fault_1 (by decide) (fun c_1 => ?_) (fun c_1 => ?_)
  · refine lv_iload_n hx hb dX11_fault_12 rfl (lv_at hl 1 rfl) ?_
    refine lv_iconst (v := 1) hx hb dX11_fault_13 (by decide) ?_
    refine lv_icmp_ne (tgt := 27) hx hb dX11_fault_14 (by decide) (fun c_2 => ?_) (fun c_2 => ?_)
    · refine lv_iconst (v := (-1)) hx hb dX11_fault_27 (by decide) ?_
      exact hret _ _ _ _ _ _ hP hD hS dX11_fault_28 ⟨hW_w, Sm.rf⟩
    · refine lv_aload_n hx hb dX11_fault_17 rfl (lv_at hl 0 rfl) ?_
      refine gt_X11 hx hb hts hown hK hP 0 (hW_w.o tX_0) 3 (by decide) wd_676 rfl (hW_w.fr tX_0 rfl) dX11_fault_18 ?_
      refine gt_X8 hx hb hts hown hK hP 34 (hW_w.o tX_34) 3 (by decide) wd_232 rfl (hW_w.fi tX_34 rfl) dX11_fault_21 ?_
      refine lv_goto (tgt := 28) hx hb dX11_fault_24 (by decide) ?_
      exact hret _ _ _ _ _ _ hP hD hS dX11_fault_28 ⟨hW_w, Sm.rf⟩
  · refine lv_aload_n hx hb dX11_fault_4 rfl (lv_at hl 0 rfl) ?_
    refine gt_X11 hx hb hts hown hK hP 0 (hW_w.o tX_0) 3 (by decide) wd_676 rfl (hW_w.fr tX_0 rfl) dX11_fault_5 ?_
    refine gt_X8 hx hb hts hown hK hP 34 (hW_w.o tX_34) 2 (by decide) wd_230 rfl (hW_w.fi tX_34 rfl) dX11_fault_8 ?_
    exact hret _ _ _ _ _ _ hP hD hS dX11_fault_11 ⟨hW_w, Sm.rf⟩
set_option maxRecDepth 100000 in
set_option maxHeartbeats 8000000 in
theorem k_X11_letterOf (l : Launch) (D : va_G) (cI cJ cZ : ClassId) (q : Nat → Nat) (bb bs bp : Nat) (w : va_W) (hW_w : HT q (TX q cI cJ cZ bb bs bp) w) (p0 : Int64) (p1 : Int32) : Con_i l yX11_letterOf cX11_letterOf 4 (some .int) ({ frames := 0, cells := 0, slots := 0, locals := 0 }) D cI cJ cZ eW [.long p0, .int p1] w (fun (r : Int32) (w1 : va_W) => HT q (TX q cI cJ cZ bb bs bp) w1 ∧ Sm [] [] w w1 ∧ In (-1) 127 r) := by
  refine eQ_i rfl (by decide) (Nat.le_of_ble_eq_true rfl) ⟨rfl, rfl⟩ ?_
  intro p e R s m args below meth c A Q hx hb hml hown hts hK hE hA hR hret hP hD hS ls hl
  have hown : s.vm.findClass RX11 = some m.cls := hown
  have hl : lv_has ls 4 [(0, .long p0), (2, .int p1)] := hl
  refine lv_iload_n hx hb dX11_letterOf_0 rfl (lv_at hl 1 rfl) ?_
  refine lv_if_lt (tgt := 10) hx hb dX11_letterOf_1 (by decide) (fun c_1 => ?_) (fun c_1 => ?_)
  · refine lv_iconst (v := (-1)) hx hb dX11_letterOf_10 (by decide) ?_
    exact hret _ _ _ _ _ _ hP hD hS dX11_letterOf_11 ⟨hW_w, Sm.rf, (In_lit (n := (-1)) (by decide) (by decide) : In (-1) 127 (-1))⟩
  · refine lv_iload_n hx hb dX11_letterOf_4 rfl (lv_at hl 1 rfl) ?_
    refine lv_bipush (v := 8) hx hb dX11_letterOf_5 (by decide) ?_
    refine lv_icmp_lt (tgt := 12) hx hb dX11_letterOf_7 (by decide) (fun c_2 => ?_) (fun c_2 => ?_)
    · refine lv_lload_n hx hb dX11_letterOf_12 rfl (lv_at hl 0 rfl) ?_
      refine lv_bipush (v := 35) hx hb dX11_letterOf_13 (by decide) ?_
      refine lv_iconst (v := 5) hx hb dX11_letterOf_15 (by decide) ?_
      refine lv_iload_n hx hb dX11_letterOf_16 rfl (lv_at hl 1 rfl) ?_
      refine lv_imul hx hb dX11_letterOf_17 ?_
      refine lv_isub hx hb dX11_letterOf_18 ?_
      refine lv_lshr hx hb dX11_letterOf_19 rfl ?_
      refine lv_topl (fun v_3 ev_3 => ?_)
      refine lv_l2i hx hb dX11_letterOf_20 rfl ?_
      refine lv_topi (fun v_4 ev_4 => ?_)
      refine lv_bipush (v := 31) hx hb dX11_letterOf_21 (by decide) ?_
      refine lv_iand hx hb dX11_letterOf_23 ?_
      refine lv_istore_n (lv' := [(3, .int (v_4 &&& 31)), (0, .long p0), (2, .int p1)]) hx hb dX11_letterOf_24 rfl hl (by decide) rfl (fun ls hl => ?_)
      refine lv_iload_n hx hb dX11_letterOf_25 rfl (lv_at hl 0 rfl) ?_
      refine lv_if_ne (tgt := 33) hx hb dX11_letterOf_26 (by decide) (fun c_5 => ?_) (fun c_5 => ?_)
      · refine lv_iload_n hx hb dX11_letterOf_33 rfl (lv_at hl 0 rfl) ?_
        refine lv_bipush (v := 96) hx hb dX11_letterOf_34 (by decide) ?_
        refine lv_iadd hx hb dX11_letterOf_36 ?_
        exact hret _ _ _ _ _ _ hP hD hS dX11_letterOf_37 ⟨hW_w, Sm.rf, (In_w ((In_add (R_ne_l ((In_and (n := 31) (by decide) (by decide)) : In 0 31 (v_4 &&& 31)) (In_lit (n := 0) (by decide) (by decide) : In 0 0 0) c_5 (by decide) : In 1 31 (v_4 &&& 31)) (In_lit (n := 96) (by decide) (by decide) : In 96 96 96) (by decide)) : In 97 127 ((v_4 &&& 31) + 96)) (by decide) : In (-1) 127 ((v_4 &&& 31) + 96))⟩
      · refine lv_iconst (v := (-1)) hx hb dX11_letterOf_29 (by decide) ?_
        refine lv_goto (tgt := 37) hx hb dX11_letterOf_30 (by decide) ?_
        exact hret _ _ _ _ _ _ hP hD hS dX11_letterOf_37 ⟨hW_w, Sm.rf, (In_lit (n := (-1)) (by decide) (by decide) : In (-1) 127 (-1))⟩
    · refine lv_iconst (v := (-1)) hx hb dX11_letterOf_10 (by decide) ?_
      exact hret _ _ _ _ _ _ hP hD hS dX11_letterOf_11 ⟨hW_w, Sm.rf, (In_lit (n := (-1)) (by decide) (by decide) : In (-1) 127 (-1))⟩
set_option maxRecDepth 100000 in
set_option maxHeartbeats 8000000 in
theorem k_X11_name (l : Launch) (D : va_G) (cI cJ cZ : ClassId) (q : Nat → Nat) (bp : Nat) (w : va_W) (hW_w : HT q (TX q cI cJ cZ 1 16 bp) w) (p1 : Int32) (p2 : Int32) (p3 : Int32) (i_p1 : In 0 1 p1) : Con_i l yX11_name cX11_name 4 (some .int) ({ frames := 1, cells := 0, slots := 0, locals := 23 }) D cI cJ cZ eW [.ref (q 0), .int p1, .int p2, .int p3] w (fun (r : Int32) (w1 : va_W) => HT q (TX q cI cJ cZ 1 16 bp) w1 ∧ Sm [] [] w w1 ∧ In (-1) 127 r) := by
  refine eQ_i rfl (by decide) (Nat.le_of_ble_eq_true rfl) ⟨rfl, rfl⟩ ?_
  intro p e R s m args below meth c A Q hx hb hml hown hts hK hE hA hR hret hP hD hS ls hl
  have hown : s.vm.findClass RX11 = some m.cls := hown
  have hl : lv_has ls 4 [(0, .ref (q 0)), (1, .int p1), (2, .int p2), (3, .int p3)] := hl
  refine lv_iload_n hx hb dX11_name_0 rfl (lv_at hl 2 rfl) ?_
  refine lv_if_lt (tgt := 29) hx hb dX11_name_1 (by decide) (fun c_1 => ?_) (fun c_1 => ?_)
  · refine lv_iconst (v := (-1)) hx hb dX11_name_29 (by decide) ?_
    exact hret _ _ _ _ _ _ hP hD hS dX11_name_30 ⟨hW_w, Sm.rf, (In_lit (n := (-1)) (by decide) (by decide) : In (-1) 127 (-1))⟩
  · refine lv_iload_n hx hb dX11_name_4 rfl (lv_at hl 2 rfl) ?_
    refine lv_iload_n hx hb dX11_name_5 rfl (lv_at hl 1 rfl) ?_
    refine lv_if_eq (tgt := 19) hx hb dX11_name_6 (by decide) (fun c_2 => ?_) (fun c_2 => ?_)
    · refine lv_aload_n hx hb dX11_name_19 rfl (lv_at hl 0 rfl) ?_
      refine gt_X11 hx hb hts hown hK hP 0 (hW_w.o tX_0) 0 (by decide) wd_673 rfl (hW_w.fr tX_0 rfl) dX11_name_20 ?_
      refine gt_X1 hx hb hts hown hK hP 1 (hW_w.o tX_1) 0 (by decide) wd_39 rfl (hW_w.fi tX_1 rfl) dX11_name_23 ?_
      refine lv_icmp_lt (tgt := 31) hx hb dX11_name_26 (by decide) (fun c_3 => ?_) (fun c_3 => ?_)
      · refine lv_iload_n hx hb dX11_name_31 rfl (lv_at hl 1 rfl) ?_
        refine lv_if_eq (tgt := 47) hx hb dX11_name_32 (by decide) (fun c_4 => ?_) (fun c_4 => ?_)
        · refine lv_aload_n hx hb dX11_name_47 rfl (lv_at hl 0 rfl) ?_
          refine gt_X11 hx hb hts hown hK hP 0 (hW_w.o tX_0) 0 (by decide) wd_673 rfl (hW_w.fr tX_0 rfl) dX11_name_48 ?_
          refine gt_X1 hx hb hts hown hK hP 1 (hW_w.o tX_1) 1 (by decide) wd_43 rfl (hW_w.fr tX_1 rfl) dX11_name_51 ?_
          refine lv_iload_n hx hb dX11_name_54 rfl (lv_at hl 2 rfl) ?_
          refine va_lald hx hb hK hP 2 1 (hW_w.al tX_2) rfl (in_I (R_lt_l (R_nlt_l (In_any _) (In_lit (n := 0) (by decide) (by decide) : In 0 0 0) c_1 (by decide) : In 0 2147483647 p2) (hW_w.fin tX_1 rfl : In 0 10 (fI w 1 0)) c_3 (by decide) : In 0 9 p2) (by decide)) dX11_name_55 ?_
          refine lv_topl (fun v_5 ev_5 => ?_)
          refine lv_iload_n hx hb dX11_name_56 rfl (lv_at hl 3 rfl) ?_
          refine kW_i ⟨rfl, rfl⟩ hP hD hS hA (rW_S (As := [.long v_5, .int p3]) (rest := []) hx hb hml hown hts hK hE hP hD (k_X11_letterOf l D cI cJ cZ q 1 16 bp w hW_w v_5 p3 _) ⟨⟨rfl, rfl⟩, rfl, rfl⟩ sv_X11_150 ⟨(Nat.le_trans (by decide) hR.1), (Nat.le_trans (by decide) hR.2)⟩ rfl hl.1 rfl (Nat.le_of_ble_eq_true rfl) dX11_name_57) (fun r_7 w_6 H locs hw_w_6 hP hD hS => ?_)
          obtain ⟨hW_w_6, hs_w_6, i_r_7⟩ := hw_w_6
          exact hret _ _ _ _ _ _ hP hD hS dX11_name_60 ⟨hW_w_6, (Sm.rf.tr hs_w_6 (by decide)), i_r_7⟩
        · exact (In_no (R_ne_l (R_eq_l i_p1 (In_lit (n := 0) (by decide) (by decide) : In 0 0 0) c_2 (by decide) : In 0 0 p1) (In_lit (n := 0) (by decide) (by decide) : In 0 0 0) c_4 (by decide) : In 1 (-1) p1) (by decide)).elim
      · refine lv_iconst (v := (-1)) hx hb dX11_name_29 (by decide) ?_
        exact hret _ _ _ _ _ _ hP hD hS dX11_name_30 ⟨hW_w, Sm.rf, (In_lit (n := (-1)) (by decide) (by decide) : In (-1) 127 (-1))⟩
    · refine lv_aload_n hx hb dX11_name_9 rfl (lv_at hl 0 rfl) ?_
      refine gt_X11 hx hb hts hown hK hP 0 (hW_w.o tX_0) 0 (by decide) wd_673 rfl (hW_w.fr tX_0 rfl) dX11_name_10 ?_
      refine gt_X1 hx hb hts hown hK hP 1 (hW_w.o tX_1) 5 (by decide) wd_55 rfl (hW_w.fi tX_1 rfl) dX11_name_13 ?_
      refine lv_goto (tgt := 26) hx hb dX11_name_16 (by decide) ?_
      refine lv_icmp_lt (tgt := 31) hx hb dX11_name_26 (by decide) (fun c_8 => ?_) (fun c_8 => ?_)
      · refine lv_iload_n hx hb dX11_name_31 rfl (lv_at hl 1 rfl) ?_
        refine lv_if_eq (tgt := 47) hx hb dX11_name_32 (by decide) (fun c_9 => ?_) (fun c_9 => ?_)
        · exact (In_no (R_eq_l (R_ne_l i_p1 (In_lit (n := 0) (by decide) (by decide) : In 0 0 0) c_2 (by decide) : In 1 1 p1) (In_lit (n := 0) (by decide) (by decide) : In 0 0 0) c_9 (by decide) : In 1 0 p1) (by decide)).elim
        · refine lv_aload_n hx hb dX11_name_35 rfl (lv_at hl 0 rfl) ?_
          refine gt_X11 hx hb hts hown hK hP 0 (hW_w.o tX_0) 0 (by decide) wd_673 rfl (hW_w.fr tX_0 rfl) dX11_name_36 ?_
          refine gt_X1 hx hb hts hown hK hP 1 (hW_w.o tX_1) 6 (by decide) wd_58 rfl (hW_w.fr tX_1 rfl) dX11_name_39 ?_
          refine lv_iload_n hx hb dX11_name_42 rfl (lv_at hl 2 rfl) ?_
          refine va_lald hx hb hK hP 6 1 (hW_w.al tX_6) rfl (in_I (R_lt_l (R_nlt_l (In_any _) (In_lit (n := 0) (by decide) (by decide) : In 0 0 0) c_1 (by decide) : In 0 2147483647 p2) (hW_w.fin tX_1 rfl : In 0 8 (fI w 1 5)) c_8 (by decide) : In 0 7 p2) (by decide)) dX11_name_43 ?_
          refine lv_topl (fun v_10 ev_10 => ?_)
          refine lv_goto (tgt := 56) hx hb dX11_name_44 (by decide) ?_
          refine lv_iload_n hx hb dX11_name_56 rfl (lv_at hl 3 rfl) ?_
          refine kW_i ⟨rfl, rfl⟩ hP hD hS hA (rW_S (As := [.long v_10, .int p3]) (rest := []) hx hb hml hown hts hK hE hP hD (k_X11_letterOf l D cI cJ cZ q 1 16 bp w hW_w v_10 p3 _) ⟨⟨rfl, rfl⟩, rfl, rfl⟩ sv_X11_150 ⟨(Nat.le_trans (by decide) hR.1), (Nat.le_trans (by decide) hR.2)⟩ rfl hl.1 rfl (Nat.le_of_ble_eq_true rfl) dX11_name_57) (fun r_12 w_11 H locs hw_w_11 hP hD hS => ?_)
          obtain ⟨hW_w_11, hs_w_11, i_r_12⟩ := hw_w_11
          exact hret _ _ _ _ _ _ hP hD hS dX11_name_60 ⟨hW_w_11, (Sm.rf.tr hs_w_11 (by decide)), i_r_12⟩
      · refine lv_iconst (v := (-1)) hx hb dX11_name_29 (by decide) ?_
        exact hret _ _ _ _ _ _ hP hD hS dX11_name_30 ⟨hW_w, Sm.rf, (In_lit (n := (-1)) (by decide) (by decide) : In (-1) 127 (-1))⟩
set_option maxRecDepth 100000 in
set_option maxHeartbeats 8000000 in
theorem k_X11_isKind (l : Launch) (D : va_G) (cI cJ cZ : ClassId) (q : Nat → Nat) (bp : Nat) (w : va_W) (hW_w : HT q (TX q cI cJ cZ 1 16 bp) w) (p1 : Int32) : Con_i l yX11_isKind cX11_isKind 2 (some .boolean) ({ frames := 0, cells := 0, slots := 0, locals := 0 }) D cI cJ cZ eW [.ref (q 0), .int p1] w (fun (r : Int32) (w1 : va_W) => HT q (TX q cI cJ cZ 1 16 bp) w1 ∧ Sm [] [] w w1 ∧ In 0 1 r ∧ (¬ r = 0 → In 1 10 (fI w1 1 0) ∧ In 0 9 p1)) := by
  refine eQ_z rfl (by decide) (Nat.le_of_ble_eq_true rfl) ⟨rfl, rfl⟩ ?_
  intro p e R s m args below meth c A Q hx hb hml hown hts hK hE hA hR hret hP hD hS ls hl
  have hown : s.vm.findClass RX11 = some m.cls := hown
  have hl : lv_has ls 2 [(0, .ref (q 0)), (1, .int p1)] := hl
  refine lv_iload_n hx hb dX11_isKind_0 rfl (lv_at hl 1 rfl) ?_
  refine lv_if_lt (tgt := 19) hx hb dX11_isKind_1 (by decide) (fun c_1 => ?_) (fun c_1 => ?_)
  · refine lv_iconst (v := 0) hx hb dX11_isKind_19 (by decide) ?_
    exact hret _ _ _ _ _ _ hP hD hS dX11_isKind_20 (In_lit (n := 0) (by decide) (by decide) : In 0 1 0) ⟨hW_w, Sm.rf, (In_lit (n := 0) (by decide) (by decide) : In 0 1 0), (fun h => absurd rfl h)⟩
  · refine lv_iload_n hx hb dX11_isKind_4 rfl (lv_at hl 1 rfl) ?_
    refine lv_aload_n hx hb dX11_isKind_5 rfl (lv_at hl 0 rfl) ?_
    refine gt_X11 hx hb hts hown hK hP 0 (hW_w.o tX_0) 0 (by decide) wd_673 rfl (hW_w.fr tX_0 rfl) dX11_isKind_6 ?_
    refine gt_X1 hx hb hts hown hK hP 1 (hW_w.o tX_1) 0 (by decide) wd_39 rfl (hW_w.fi tX_1 rfl) dX11_isKind_9 ?_
    refine lv_icmp_ge (tgt := 19) hx hb dX11_isKind_12 (by decide) (fun c_2 => ?_) (fun c_2 => ?_)
    · refine lv_iconst (v := 0) hx hb dX11_isKind_19 (by decide) ?_
      exact hret _ _ _ _ _ _ hP hD hS dX11_isKind_20 (In_lit (n := 0) (by decide) (by decide) : In 0 1 0) ⟨hW_w, Sm.rf, (In_lit (n := 0) (by decide) (by decide) : In 0 1 0), (fun h => absurd rfl h)⟩
    · refine lv_iconst (v := 1) hx hb dX11_isKind_15 (by decide) ?_
      refine lv_goto (tgt := 20) hx hb dX11_isKind_16 (by decide) ?_
      exact hret _ _ _ _ _ _ hP hD hS dX11_isKind_20 (In_lit (n := 1) (by decide) (by decide) : In 0 1 1) ⟨hW_w, Sm.rf, (In_lit (n := 1) (by decide) (by decide) : In 0 1 1), (fun h => ⟨(R_nle_l (hW_w.fin tX_1 rfl : In 0 10 (fI w 1 0)) (R_nlt_l (In_any _) (In_lit (n := 0) (by decide) (by decide) : In 0 0 0) c_1 (by decide) : In 0 2147483647 p1) c_2 (by decide) : In 1 10 (fI w 1 0)), (R_nle_r (hW_w.fin tX_1 rfl : In 0 10 (fI w 1 0)) (R_nlt_l (In_any _) (In_lit (n := 0) (by decide) (by decide) : In 0 0 0) c_1 (by decide) : In 0 2147483647 p1) c_2 (by decide) : In 0 9 p1)⟩)⟩
set_option maxRecDepth 100000 in
set_option maxHeartbeats 8000000 in
theorem k_X11_marked (l : Launch) (D : va_G) (cI cJ cZ : ClassId) (q : Nat → Nat) (bp : Nat) (w : va_W) (hW_w : HT q (TX q cI cJ cZ 1 16 bp) w) (p1 : Int32) (p2 : Int32) : Con_i l yX11_marked cX11_marked 3 (some .int) ({ frames := 1, cells := 0, slots := 0, locals := 21 }) D cI cJ cZ eW [.ref (q 0), .int p1, .int p2] w (fun (r : Int32) (w1 : va_W) => HT q (TX q cI cJ cZ 1 16 bp) w1 ∧ Sm [] [] w w1 ∧ In (-1) 1 r) := by
  refine eQ_i rfl (by decide) (Nat.le_of_ble_eq_true rfl) ⟨rfl, rfl⟩ ?_
  intro p e R s m args below meth c A Q hx hb hml hown hts hK hE hA hR hret hP hD hS ls hl
  have hown : s.vm.findClass RX11 = some m.cls := hown
  have hl : lv_has ls 3 [(0, .ref (q 0)), (1, .int p1), (2, .int p2)] := hl
  refine lv_aload_n hx hb dX11_marked_0 rfl (lv_at hl 0 rfl) ?_
  refine lv_iload_n hx hb dX11_marked_1 rfl (lv_at hl 1 rfl) ?_
  refine kW_i ⟨rfl, rfl⟩ hP hD hS hA (rW_V (As := [.int p1]) (rest := []) hx hb hml hown hts hK hE hP hD (k_X11_isKind l D cI cJ cZ q bp w hW_w p1 _) ⟨⟨rfl, rfl⟩, rfl, rfl⟩ sv_X11_154 ⟨(Nat.le_trans (by decide) hR.1), (Nat.le_trans (by decide) hR.2)⟩ 0 11 (hW_w.o tX_0) rfl rfl rfl hl.1 rfl (Nat.le_of_ble_eq_true rfl) dX11_marked_2) (fun r_2 w_1 H locs hw_w_1 hP hD hS => ?_)
  obtain ⟨hW_w_1, hs_w_1, i_r_2, h_3⟩ := hw_w_1
  refine lv_if_eq (tgt := 23) hx hb dX11_marked_5 (by decide) (fun c_4 => ?_) (fun c_4 => ?_)
  · refine lv_iconst (v := (-1)) hx hb dX11_marked_23 (by decide) ?_
    exact hret _ _ _ _ _ _ hP hD hS dX11_marked_24 ⟨hW_w_1, (Sm.rf.tr hs_w_1 (by decide)), (In_lit (n := (-1)) (by decide) (by decide) : In (-1) 1 (-1))⟩
  · refine lv_iload_n hx hb dX11_marked_8 rfl (lv_at hl 2 rfl) ?_
    refine lv_if_lt (tgt := 23) hx hb dX11_marked_9 (by decide) (fun c_5 => ?_) (fun c_5 => ?_)
    · refine lv_iconst (v := (-1)) hx hb dX11_marked_23 (by decide) ?_
      exact hret _ _ _ _ _ _ hP hD hS dX11_marked_24 ⟨hW_w_1, (Sm.rf.tr hs_w_1 (by decide)), (In_lit (n := (-1)) (by decide) (by decide) : In (-1) 1 (-1))⟩
    · refine lv_iload_n hx hb dX11_marked_12 rfl (lv_at hl 2 rfl) ?_
      refine lv_aload_n hx hb dX11_marked_13 rfl (lv_at hl 0 rfl) ?_
      refine gt_X11 hx hb hts hown hK hP 0 (hW_w_1.o tX_0) 0 (by decide) wd_673 rfl (hW_w_1.fr tX_0 rfl) dX11_marked_14 ?_
      refine gt_X1 hx hb hts hown hK hP 1 (hW_w_1.o tX_1) 5 (by decide) wd_55 rfl (hW_w_1.fi tX_1 rfl) dX11_marked_17 ?_
      refine tov (v := (fI w 1 5)) (hs_w_1.gI (by decide)) ?_
      refine lv_icmp_lt (tgt := 25) hx hb dX11_marked_20 (by decide) (fun c_6 => ?_) (fun c_6 => ?_)
      · refine lv_aload_n hx hb dX11_marked_25 rfl (lv_at hl 0 rfl) ?_
        refine gt_X11 hx hb hts hown hK hP 0 (hW_w_1.o tX_0) 0 (by decide) wd_673 rfl (hW_w_1.fr tX_0 rfl) dX11_marked_26 ?_
        refine gt_X1 hx hb hts hown hK hP 1 (hW_w_1.o tX_1) 7 (by decide) wd_60 rfl (hW_w_1.fr tX_1 rfl) dX11_marked_29 ?_
        refine lv_iload_n hx hb dX11_marked_32 rfl (lv_at hl 2 rfl) ?_
        refine va_iald hx hb hK hP 7 0 (hW_w_1.a tX_7) rfl (in_I (R_lt_l (R_nlt_l (In_any _) (In_lit (n := 0) (by decide) (by decide) : In 0 0 0) c_5 (by decide) : In 0 2147483647 p2) (hW_w.fin tX_1 rfl : In 0 8 (fI w 1 5)) c_6 (by decide) : In 0 7 p2) (by decide)) dX11_marked_33 ?_
        refine lv_topi (fun v_7 ev_7 => ?_)
        refine lv_iload_n hx hb dX11_marked_34 rfl (lv_at hl 1 rfl) ?_
        refine lv_ishr hx hb dX11_marked_35 ?_
        refine lv_topi (fun v_8 ev_8 => ?_)
        refine lv_iconst (v := 1) hx hb dX11_marked_36 (by decide) ?_
        refine lv_iand hx hb dX11_marked_37 ?_
        exact hret _ _ _ _ _ _ hP hD hS dX11_marked_38 ⟨hW_w_1, (Sm.rf.tr hs_w_1 (by decide)), (In_w ((In_and (n := 1) (by decide) (by decide)) : In 0 1 (v_8 &&& 1)) (by decide) : In (-1) 1 (v_8 &&& 1))⟩
      · refine lv_iconst (v := (-1)) hx hb dX11_marked_23 (by decide) ?_
        exact hret _ _ _ _ _ _ hP hD hS dX11_marked_24 ⟨hW_w_1, (Sm.rf.tr hs_w_1 (by decide)), (In_lit (n := (-1)) (by decide) (by decide) : In (-1) 1 (-1))⟩
set_option maxRecDepth 100000 in
set_option maxHeartbeats 8000000 in
theorem k_X10_readWishes_41 (l : Launch) (D : va_G) (cI cJ cZ : ClassId) (q : Nat → Nat) (bb bs bp : Nat) (w : va_W) (hW_w : HT q (TX q cI cJ cZ bb bs bp) w) : Con_i l yX10_readWishes cX10_readWishes 3 (some .int) ({ frames := 3, cells := 0, slots := 0, locals := 67 }) D cI cJ cZ eW [.ref (q 31), .ref (q 41)] w (fun (r : Int32) (w1 : va_W) => HT q (TX q cI cJ cZ bb bs bp) w1 ∧ Sm [31, 41] [(31, 3), (31, 4), (31, 5), (31, 6), (31, 7)] w w1 ∧ In (-1) 3 r) := by
  refine eQ_i rfl (by decide) (Nat.le_of_ble_eq_true rfl) ⟨rfl, rfl⟩ ?_
  intro p e R s m args below meth c A Q hx hb hml hown hts hK hE hA hR hret hP hD hS ls hl
  have hown : s.vm.findClass RX10 = some m.cls := hown
  have hl : lv_has ls 3 [(0, .ref (q 31)), (1, .ref (q 41))] := hl
  have J6 : ∀ (N : Nat) (x6_2 : Int32) (w6 : va_W) (H : Heap) (locs : List Loc) (ls : Array Slot), (3 - x6_2.toInt).toNat < N → HT q (TX q cI cJ cZ bb bs bp) w6 → Sm [31, 41] [(31, 3), (31, 4), (31, 5), (31, 6), (31, 7)] w w6 → (In 0 3 x6_2) → va_P D vwCl w6 H → va_D A w6 → va_S A s.heap H locs → lv_has ls 3 [(0, .ref (q 31)), (1, .ref (q 41)), (2, .int x6_2)] → W p l e R s m args below meth c H locs 0 0 Q (F0 m 6 ls []) := by
    intro N
    induction N with
    | zero => intro x6_2 w6 H locs ls hmu; exact absurd hmu (Nat.not_lt_zero _)
    | succ N ih6 =>
      intro x6_2 w6 H locs ls hmu6 hW_w6 hM_w6 i_x6_2 hP hD hS hl
      refine lv_iload_n hx hb dX10_readWishes_6 rfl (lv_at hl 2 rfl) ?_
      refine lv_iconst (v := 3) hx hb dX10_readWishes_7 (by decide) ?_
      refine lv_icmp_ge (tgt := 54) hx hb dX10_readWishes_8 (by decide) (fun c_1 => ?_) (fun c_1 => ?_)
      · refine lv_aload_n hx hb dX10_readWishes_54 rfl (lv_at hl 0 rfl) ?_
        refine gt_X10 hx hb hts hown hK hP 31 (hW_w6.o tX_31) 4 (by decide) wd_196 rfl (hW_w6.fi tX_31 rfl) dX10_readWishes_55 ?_
        refine lv_sipush (v := 256) hx hb dX10_readWishes_58 (by decide) ?_
        refine lv_icmp_ne (tgt := 68) hx hb dX10_readWishes_61 (by decide) (fun c_2 => ?_) (fun c_2 => ?_)
        · refine lv_iconst (v := (-1)) hx hb dX10_readWishes_68 (by decide) ?_
          exact hret _ _ _ _ _ _ hP hD hS dX10_readWishes_69 ⟨hW_w6, hM_w6, (In_lit (n := (-1)) (by decide) (by decide) : In (-1) 3 (-1))⟩
        · refine lv_iconst (v := 3) hx hb dX10_readWishes_64 (by decide) ?_
          refine lv_goto (tgt := 69) hx hb dX10_readWishes_65 (by decide) ?_
          exact hret _ _ _ _ _ _ hP hD hS dX10_readWishes_69 ⟨hW_w6, hM_w6, (In_lit (n := 3) (by decide) (by decide) : In (-1) 3 3)⟩
      · refine lv_aload_n hx hb dX10_readWishes_11 rfl (lv_at hl 0 rfl) ?_
        refine gt_X10 hx hb hts hown hK hP 31 (hW_w6.o tX_31) 4 (by decide) wd_196 rfl (hW_w6.fi tX_31 rfl) dX10_readWishes_12 ?_
        refine lv_sipush (v := 258) hx hb dX10_readWishes_15 (by decide) ?_
        refine lv_icmp_eq (tgt := 37) hx hb dX10_readWishes_18 (by decide) (fun c_3 => ?_) (fun c_3 => ?_)
        · refine lv_aload_n hx hb dX10_readWishes_37 rfl (lv_at hl 1 rfl) ?_
          refine lv_iload_n hx hb dX10_readWishes_38 rfl (lv_at hl 2 rfl) ?_
          refine lv_aload_n hx hb dX10_readWishes_39 rfl (lv_at hl 0 rfl) ?_
          refine gt_X10 hx hb hts hown hK hP 31 (hW_w6.o tX_31) 6 (by decide) wd_199 rfl (hW_w6.fl tX_31 rfl) dX10_readWishes_40 ?_
          refine va_last hx hb hK hP hD hS 41 1 (hW_w6.al tX_41) rfl (in_I (R_nle_r (In_lit (n := 3) (by decide) (by decide) : In 3 3 3) i_x6_2 c_1 (by decide) : In 0 2 x6_2) (by decide)) dX10_readWishes_43 (fun H locs hP hD hS => fr_w (hW_w6.uL tX_41) hP hD (fun w_4 ew_4 hW_w_4 hP hD => ?_))
          refine lv_aload_n hx hb dX10_readWishes_44 rfl (lv_at hl 0 rfl) ?_
          refine kW_v ⟨rfl, rfl⟩ hP hD hS hA (rW_V (As := []) (rest := []) hx hb hml hown hts hK hE hP hD (k_X10_step l D cI cJ cZ q bb bs bp w_4 hW_w_4  _) ⟨⟨rfl, rfl⟩, rfl, rfl⟩ sv_X10_40 ⟨(Nat.le_trans (by decide) hR.1), (Nat.le_trans (by decide) hR.2)⟩ 31 10 (hW_w_4.o tX_31) rfl rfl rfl hl.1 rfl (Nat.le_of_ble_eq_true rfl) dX10_readWishes_45) (fun w_5 H locs hw_w_5 hP hD hS => ?_)
          obtain ⟨hW_w_5, hs_w_5⟩ := hw_w_5
          refine lv_iinc (v := (x6_2 + 1)) (lv' := [(2, .int (x6_2 + 1)), (0, .ref (q 31)), (1, .ref (q 41))]) hx hb dX10_readWishes_48 hl (k := 2) rfl (rfl) (by decide) rfl (fun ls hl => ?_)
          refine lv_goto (tgt := 6) hx hb dX10_readWishes_51 (by decide) ?_
          exact ih6 (x6_2 + 1) w_5 _ _ ls (mu_inc hmu6 (R_nle_r (In_lit (n := 3) (by decide) (by decide) : In 3 3 3) i_x6_2 c_1 (by decide) : In 0 2 x6_2) (In_lit (n := 1) (by decide) (by decide) : In 1 1 1) (by decide)) hW_w_5 ((hM_w6.sa ew_4 (by decide)).tr hs_w_5 (by decide)) (In_w ((In_add (y := 1) (R_nle_r (In_lit (n := 3) (by decide) (by decide) : In 3 3 3) i_x6_2 c_1 (by decide) : In 0 2 x6_2) (In_lit (n := 1) (by decide) (by decide) : In 1 1 1) (by decide)) : In 1 3 (x6_2 + 1)) (by decide) : In 0 3 (x6_2 + 1)) hP hD hS (lv_sub hl [1, 2, 0] rfl)
        · refine lv_aload_n hx hb dX10_readWishes_21 rfl (lv_at hl 0 rfl) ?_
          refine gt_X10 hx hb hts hown hK hP 31 (hW_w6.o tX_31) 4 (by decide) wd_196 rfl (hW_w6.fi tX_31 rfl) dX10_readWishes_22 ?_
          refine lv_sipush (v := 256) hx hb dX10_readWishes_25 (by decide) ?_
          refine lv_icmp_ne (tgt := 35) hx hb dX10_readWishes_28 (by decide) (fun c_7 => ?_) (fun c_7 => ?_)
          · refine lv_iconst (v := (-1)) hx hb dX10_readWishes_35 (by decide) ?_
            exact hret _ _ _ _ _ _ hP hD hS dX10_readWishes_36 ⟨hW_w6, hM_w6, (In_lit (n := (-1)) (by decide) (by decide) : In (-1) 3 (-1))⟩
          · refine lv_iload_n hx hb dX10_readWishes_31 rfl (lv_at hl 2 rfl) ?_
            refine lv_goto (tgt := 36) hx hb dX10_readWishes_32 (by decide) ?_
            exact hret _ _ _ _ _ _ hP hD hS dX10_readWishes_36 ⟨hW_w6, hM_w6, (In_w (R_nle_r (In_lit (n := 3) (by decide) (by decide) : In 3 3 3) i_x6_2 c_1 (by decide) : In 0 2 x6_2) (by decide) : In (-1) 3 x6_2)⟩
  refine lv_aload_n hx hb dX10_readWishes_0 rfl (lv_at hl 0 rfl) ?_
  refine kW_v ⟨rfl, rfl⟩ hP hD hS hA (rW_V (As := []) (rest := []) hx hb hml hown hts hK hE hP hD (k_X10_rewind l D cI cJ cZ q bb bs bp w hW_w  _) ⟨⟨rfl, rfl⟩, rfl, rfl⟩ sv_X10_65 ⟨(Nat.le_trans (by decide) hR.1), (Nat.le_trans (by decide) hR.2)⟩ 31 10 (hW_w.o tX_31) rfl rfl rfl hl.1 rfl (Nat.le_of_ble_eq_true rfl) dX10_readWishes_1) (fun w_8 H locs hw_w_8 hP hD hS => ?_)
  obtain ⟨hW_w_8, hs_w_8⟩ := hw_w_8
  refine lv_iconst (v := 0) hx hb dX10_readWishes_4 (by decide) ?_
  refine lv_istore_n (lv' := [(2, .int 0), (0, .ref (q 31)), (1, .ref (q 41))]) hx hb dX10_readWishes_5 rfl hl (by decide) rfl (fun ls hl => ?_)
  exact J6 _ 0 w_8 _ _ ls (Nat.lt_succ_self _) hW_w_8 (Sm.rf.tr hs_w_8 (by decide)) (In_lit (n := 0) (by decide) (by decide) : In 0 3 0) hP hD hS (lv_sub hl [1, 2, 0] rfl)
set_option maxRecDepth 100000 in
set_option maxHeartbeats 8000000 in
theorem k_X11_isDay (l : Launch) (D : va_G) (cI cJ cZ : ClassId) (q : Nat → Nat) (bb bs bp : Nat) (w : va_W) (hW_w : HT q (TX q cI cJ cZ bb bs bp) w) (p0 : Int32) : Con_i l yX11_isDay cX11_isDay 1 (some .boolean) ({ frames := 1, cells := 0, slots := 0, locals := 22 }) D cI cJ cZ eW [.int p0] w (fun (r : Int32) (w1 : va_W) => HT q (TX q cI cJ cZ bb bs bp) w1 ∧ Sm [] [] w w1 ∧ In 0 1 r ∧ (¬ r = 0 → In 1 24 p0)) := by
  refine eQ_z rfl (by decide) (Nat.le_of_ble_eq_true rfl) ⟨rfl, rfl⟩ ?_
  intro p e R s m args below meth c A Q hx hb hml hown hts hK hE hA hR hret hP hD hS ls hl
  have hown : s.vm.findClass RX11 = some m.cls := hown
  have hl : lv_has ls 1 [(0, .int p0)] := hl
  refine lv_iload_n hx hb dX11_isDay_0 rfl (lv_at hl 0 rfl) ?_
  refine lv_iconst (v := 1) hx hb dX11_isDay_1 (by decide) ?_
  refine lv_bipush (v := 24) hx hb dX11_isDay_2 (by decide) ?_
  refine kW_i ⟨rfl, rfl⟩ hP hD hS hA (rW_S (As := [.int p0, .int 1, .int 24]) (rest := []) hx hb hml hown hts hK hE hP hD (k_X11_within l D cI cJ cZ q bb bs bp w hW_w p0 1 24 (In_lit (n := 1) (by decide) (by decide) : In 0 278 1) (In_lit (n := 24) (by decide) (by decide) : In 2 100000 24) _) ⟨⟨rfl, rfl⟩, rfl, rfl⟩ sv_X11_168 ⟨(Nat.le_trans (by decide) hR.1), (Nat.le_trans (by decide) hR.2)⟩ rfl hl.1 rfl (Nat.le_of_ble_eq_true rfl) dX11_isDay_4) (fun r_2 w_1 H locs hw_w_1 hP hD hS => ?_)
  obtain ⟨hW_w_1, hs_w_1, i_r_2, h_3, h_4⟩ := hw_w_1
  exact hret _ _ _ _ _ _ hP hD hS dX11_isDay_7 i_r_2 ⟨hW_w_1, (Sm.rf.tr hs_w_1 (by decide)), i_r_2, (fun h => (by have q0 := h_4 h; have q1 := (In_lit (n := 1) (by decide) (by decide) : In 1 1 1); have q2 := (In_lit (n := 24) (by decide) (by decide) : In 24 24 24); have q3 := (h_3 h); unfold In at q1 q2 q3 ⊢; omega : In 1 24 p0))⟩
set_option maxRecDepth 100000 in
set_option maxHeartbeats 8000000 in
theorem k_X7_add (l : Launch) (D : va_G) (cI cJ cZ : ClassId) (q : Nat → Nat) (bb bs bp : Nat) (w : va_W) (hW_w : HT q (TX q cI cJ cZ bb bs bp) w) (p1 : Int32) (p2 : Int32) (p3 : Int32) (p4 : Int32) (i_p1 : In 1 4 p1) (hf_35_0 : In 0 199 (fI w 35 0)) : Con_i l yX7_add cX7_add 5 (some .int) ({ frames := 0, cells := 0, slots := 0, locals := 0 }) D cI cJ cZ eW [.ref (q 35), .int p1, .int p2, .int p3, .int p4] w (fun (r : Int32) (w1 : va_W) => HT q (TX q cI cJ cZ bb bs bp) w1 ∧ Sm [35, 36, 37, 39, 40] [(35, 0)] w w1 ∧ In 1 200 r ∧ In 1 200 (fI w1 35 0) ∧ ((LD w → okA p1 p2 p3 → LD w1))) := by
  refine eQ_i rfl (by decide) (Nat.le_of_ble_eq_true rfl) ⟨rfl, rfl⟩ ?_
  intro p e R s m args below meth c A Q hx hb hml hown hts hK hE hA hR hret hP hD hS ls hl
  have hown : s.vm.findClass RX7 = some m.cls := hown
  have hl : lv_has ls 5 [(0, .ref (q 35)), (1, .int p1), (2, .int p2), (3, .int p3), (4, .int p4)] := hl
  refine lv_aload_n hx hb dX7_add_0 rfl (lv_at hl 0 rfl) ?_
  refine lv_dup hx hb dX7_add_1 rfl ?_
  refine gt_X7 hx hb hts hown hK hP 35 (hW_w.o tX_35) 0 (by decide) wd_251 rfl (hW_w.fi tX_35 rfl) dX7_add_2 ?_
  refine lv_iconst (v := 1) hx hb dX7_add_5 (by decide) ?_
  refine lv_iadd hx hb dX7_add_6 ?_
  refine pt_X7 hx hb hts hown hK hP hD hS 35 (hW_w.o tX_35) 0 (by decide) wd_251 rfl rfl (ty := .int) (v := .int ((fI w 35 0) + 1)) (by decide +kernel) rfl rfl (hW_w.ll tX_35 (Nat.le_of_ble_eq_true rfl)) dX7_add_7 (fun H locs hP hD hS => fr_w (hW_w.sI tX_35 rfl (In_w ((In_add hf_35_0 (In_lit (n := 1) (by decide) (by decide) : In 1 1 1) (by decide)) : In 1 200 ((fI w 35 0) + 1)) (by decide) : In 0 200 ((fI w 35 0) + 1))) hP hD (fun w_1 ew_1 hW_w_1 hP hD => ?_))
  refine lv_aload_n hx hb dX7_add_10 rfl (lv_at hl 0 rfl) ?_
  refine gt_X7 hx hb hts hown hK hP 35 (hW_w_1.o tX_35) 2 (by decide) wd_255 rfl (hW_w_1.fr tX_35 rfl) dX7_add_11 ?_
  refine lv_aload_n hx hb dX7_add_14 rfl (lv_at hl 0 rfl) ?_
  refine gt_X7 hx hb hts hown hK hP 35 (hW_w_1.o tX_35) 0 (by decide) wd_251 rfl (hW_w_1.fi tX_35 rfl) dX7_add_15 ?_
  refine tov (v := ((fI w 35 0) + 1)) (fI_eq (hW_w.lt tX_35) ew_1 (hW_w.ll tX_35 (Nat.le_of_ble_eq_true rfl))) ?_
  refine lv_iload_n hx hb dX7_add_18 rfl (lv_at hl 1 rfl) ?_
  refine va_iast hx hb hK hP hD hS 36 0 (hW_w_1.a tX_36) rfl (in_I ((In_add hf_35_0 (In_lit (n := 1) (by decide) (by decide) : In 1 1 1) (by decide)) : In 1 200 ((fI w 35 0) + 1)) (by decide)) dX7_add_19 (fun H locs hP hD hS => fr_w (hW_w_1.uA tX_36 (In_w i_p1 (by decide) : In (-2147483648) 2147483647 p1)) hP hD (fun w_2 ew_2 hW_w_2 hP hD => ?_))
  refine lv_aload_n hx hb dX7_add_20 rfl (lv_at hl 0 rfl) ?_
  refine gt_X7 hx hb hts hown hK hP 35 (hW_w_2.o tX_35) 6 (by decide) wd_263 rfl (hW_w_2.fr tX_35 rfl) dX7_add_21 ?_
  refine lv_aload_n hx hb dX7_add_24 rfl (lv_at hl 0 rfl) ?_
  refine gt_X7 hx hb hts hown hK hP 35 (hW_w_2.o tX_35) 0 (by decide) wd_251 rfl (hW_w_2.fi tX_35 rfl) dX7_add_25 ?_
  refine tov (v := ((fI w 35 0) + 1)) ((fI_cg (st_ne ew_2 (by decide))).trans (fI_eq (hW_w.lt tX_35) ew_1 (hW_w.ll tX_35 (Nat.le_of_ble_eq_true rfl)))) ?_
  refine lv_iconst (v := 0) hx hb dX7_add_28 (by decide) ?_
  refine va_iast hx hb hK hP hD hS 40 0 (hW_w_2.a tX_40) rfl (in_I ((In_add hf_35_0 (In_lit (n := 1) (by decide) (by decide) : In 1 1 1) (by decide)) : In 1 200 ((fI w 35 0) + 1)) (by decide)) dX7_add_29 (fun H locs hP hD hS => fr_w (hW_w_2.uA tX_40 (In_lit (n := 0) (by decide) (by decide) : In 0 200 0)) hP hD (fun w_3 ew_3 hW_w_3 hP hD => ?_))
  refine lv_aload_n hx hb dX7_add_30 rfl (lv_at hl 0 rfl) ?_
  refine gt_X7 hx hb hts hown hK hP 35 (hW_w_3.o tX_35) 5 (by decide) wd_261 rfl (hW_w_3.fr tX_35 rfl) dX7_add_31 ?_
  refine lv_aload_n hx hb dX7_add_34 rfl (lv_at hl 0 rfl) ?_
  refine gt_X7 hx hb hts hown hK hP 35 (hW_w_3.o tX_35) 0 (by decide) wd_251 rfl (hW_w_3.fi tX_35 rfl) dX7_add_35 ?_
  refine tov (v := ((fI w 35 0) + 1)) ((fI_cg (st_ne ew_3 (by decide))).trans ((fI_cg (st_ne ew_2 (by decide))).trans (fI_eq (hW_w.lt tX_35) ew_1 (hW_w.ll tX_35 (Nat.le_of_ble_eq_true rfl))))) ?_
  refine lv_iconst (v := 0) hx hb dX7_add_38 (by decide) ?_
  refine va_iast hx hb hK hP hD hS 39 0 (hW_w_3.a tX_39) rfl (in_I ((In_add hf_35_0 (In_lit (n := 1) (by decide) (by decide) : In 1 1 1) (by decide)) : In 1 200 ((fI w 35 0) + 1)) (by decide)) dX7_add_39 (fun H locs hP hD hS => fr_w (hW_w_3.uA tX_39 (In_lit (n := 0) (by decide) (by decide) : In (-1) 3 0)) hP hD (fun w_4 ew_4 hW_w_4 hP hD => ?_))
  refine lv_aload_n hx hb dX7_add_40 rfl (lv_at hl 0 rfl) ?_
  refine gt_X7 hx hb hts hown hK hP 35 (hW_w_4.o tX_35) 3 (by decide) wd_258 rfl (hW_w_4.fr tX_35 rfl) dX7_add_41 ?_
  refine lv_aload_n hx hb dX7_add_44 rfl (lv_at hl 0 rfl) ?_
  refine gt_X7 hx hb hts hown hK hP 35 (hW_w_4.o tX_35) 0 (by decide) wd_251 rfl (hW_w_4.fi tX_35 rfl) dX7_add_45 ?_
  refine tov (v := ((fI w 35 0) + 1)) ((fI_cg (st_ne ew_4 (by decide))).trans ((fI_cg (st_ne ew_3 (by decide))).trans ((fI_cg (st_ne ew_2 (by decide))).trans (fI_eq (hW_w.lt tX_35) ew_1 (hW_w.ll tX_35 (Nat.le_of_ble_eq_true rfl)))))) ?_
  refine lv_iconst (v := 5) hx hb dX7_add_48 (by decide) ?_
  refine lv_imul hx hb dX7_add_49 ?_
  refine lv_iload_n hx hb dX7_add_50 rfl (lv_at hl 2 rfl) ?_
  refine va_iast hx hb hK hP hD hS 37 0 (hW_w_4.a tX_37) rfl (in_I ((In_mulr ((In_add hf_35_0 (In_lit (n := 1) (by decide) (by decide) : In 1 1 1) (by decide)) : In 1 200 ((fI w 35 0) + 1)) (n := 5) (by decide) (by decide)) : In 5 1000 (((fI w 35 0) + 1) * 5)) (by decide)) dX7_add_51 (fun H locs hP hD hS => fr_w (hW_w_4.uA tX_37 (In_any _)) hP hD (fun w_5 ew_5 hW_w_5 hP hD => ?_))
  refine lv_aload_n hx hb dX7_add_52 rfl (lv_at hl 0 rfl) ?_
  refine gt_X7 hx hb hts hown hK hP 35 (hW_w_5.o tX_35) 3 (by decide) wd_258 rfl (hW_w_5.fr tX_35 rfl) dX7_add_53 ?_
  refine lv_aload_n hx hb dX7_add_56 rfl (lv_at hl 0 rfl) ?_
  refine gt_X7 hx hb hts hown hK hP 35 (hW_w_5.o tX_35) 0 (by decide) wd_251 rfl (hW_w_5.fi tX_35 rfl) dX7_add_57 ?_
  refine tov (v := ((fI w 35 0) + 1)) ((fI_cg (st_ne ew_5 (by decide))).trans ((fI_cg (st_ne ew_4 (by decide))).trans ((fI_cg (st_ne ew_3 (by decide))).trans ((fI_cg (st_ne ew_2 (by decide))).trans (fI_eq (hW_w.lt tX_35) ew_1 (hW_w.ll tX_35 (Nat.le_of_ble_eq_true rfl))))))) ?_
  refine lv_iconst (v := 5) hx hb dX7_add_60 (by decide) ?_
  refine lv_imul hx hb dX7_add_61 ?_
  refine lv_iconst (v := 1) hx hb dX7_add_62 (by decide) ?_
  refine lv_iadd hx hb dX7_add_63 ?_
  refine lv_iload_n hx hb dX7_add_64 rfl (lv_at hl 3 rfl) ?_
  refine va_iast hx hb hK hP hD hS 37 0 (hW_w_5.a tX_37) rfl (in_I ((In_add ((In_mulr ((In_add hf_35_0 (In_lit (n := 1) (by decide) (by decide) : In 1 1 1) (by decide)) : In 1 200 ((fI w 35 0) + 1)) (n := 5) (by decide) (by decide)) : In 5 1000 (((fI w 35 0) + 1) * 5)) (In_lit (n := 1) (by decide) (by decide) : In 1 1 1) (by decide)) : In 6 1001 ((((fI w 35 0) + 1) * 5) + 1)) (by decide)) dX7_add_65 (fun H locs hP hD hS => fr_w (hW_w_5.uA tX_37 (In_any _)) hP hD (fun w_6 ew_6 hW_w_6 hP hD => ?_))
  refine lv_aload_n hx hb dX7_add_66 rfl (lv_at hl 0 rfl) ?_
  refine gt_X7 hx hb hts hown hK hP 35 (hW_w_6.o tX_35) 3 (by decide) wd_258 rfl (hW_w_6.fr tX_35 rfl) dX7_add_67 ?_
  refine lv_aload_n hx hb dX7_add_70 rfl (lv_at hl 0 rfl) ?_
  refine gt_X7 hx hb hts hown hK hP 35 (hW_w_6.o tX_35) 0 (by decide) wd_251 rfl (hW_w_6.fi tX_35 rfl) dX7_add_71 ?_
  refine tov (v := ((fI w 35 0) + 1)) ((fI_cg (st_ne ew_6 (by decide))).trans ((fI_cg (st_ne ew_5 (by decide))).trans ((fI_cg (st_ne ew_4 (by decide))).trans ((fI_cg (st_ne ew_3 (by decide))).trans ((fI_cg (st_ne ew_2 (by decide))).trans (fI_eq (hW_w.lt tX_35) ew_1 (hW_w.ll tX_35 (Nat.le_of_ble_eq_true rfl)))))))) ?_
  refine lv_iconst (v := 5) hx hb dX7_add_74 (by decide) ?_
  refine lv_imul hx hb dX7_add_75 ?_
  refine lv_iconst (v := 2) hx hb dX7_add_76 (by decide) ?_
  refine lv_iadd hx hb dX7_add_77 ?_
  refine lv_iload hx hb dX7_add_78 (lv_at hl 4 rfl) ?_
  refine va_iast hx hb hK hP hD hS 37 0 (hW_w_6.a tX_37) rfl (in_I ((In_add ((In_mulr ((In_add hf_35_0 (In_lit (n := 1) (by decide) (by decide) : In 1 1 1) (by decide)) : In 1 200 ((fI w 35 0) + 1)) (n := 5) (by decide) (by decide)) : In 5 1000 (((fI w 35 0) + 1) * 5)) (In_lit (n := 2) (by decide) (by decide) : In 2 2 2) (by decide)) : In 7 1002 ((((fI w 35 0) + 1) * 5) + 2)) (by decide)) dX7_add_80 (fun H locs hP hD hS => fr_w (hW_w_6.uA tX_37 (In_any _)) hP hD (fun w_7 ew_7 hW_w_7 hP hD => ?_))
  refine lv_aload_n hx hb dX7_add_81 rfl (lv_at hl 0 rfl) ?_
  refine gt_X7 hx hb hts hown hK hP 35 (hW_w_7.o tX_35) 0 (by decide) wd_251 rfl (hW_w_7.fi tX_35 rfl) dX7_add_82 ?_
  refine tov (v := ((fI w 35 0) + 1)) ((fI_cg (st_ne ew_7 (by decide))).trans ((fI_cg (st_ne ew_6 (by decide))).trans ((fI_cg (st_ne ew_5 (by decide))).trans ((fI_cg (st_ne ew_4 (by decide))).trans ((fI_cg (st_ne ew_3 (by decide))).trans ((fI_cg (st_ne ew_2 (by decide))).trans (fI_eq (hW_w.lt tX_35) ew_1 (hW_w.ll tX_35 (Nat.le_of_ble_eq_true rfl))))))))) ?_
  exact hret _ _ _ _ _ _ hP hD hS dX7_add_85 ⟨hW_w_7, (((((((Sm.rf.sf (hW_w.lt tX_35) ew_1 (by decide)).sa ew_2 (by decide)).sa ew_3 (by decide)).sa ew_4 (by decide)).sa ew_5 (by decide)).sa ew_6 (by decide)).sa ew_7 (by decide)), ((In_add hf_35_0 (In_lit (n := 1) (by decide) (by decide) : In 1 1 1) (by decide)) : In 1 200 ((fI w 35 0) + 1)), (In_of ((fI_cg (st_ne ew_7 (by decide))).trans ((fI_cg (st_ne ew_6 (by decide))).trans ((fI_cg (st_ne ew_5 (by decide))).trans ((fI_cg (st_ne ew_4 (by decide))).trans ((fI_cg (st_ne ew_3 (by decide))).trans ((fI_cg (st_ne ew_2 (by decide))).trans (fI_eq (hW_w.lt tX_35) ew_1 (hW_w.ll tX_35 (Nat.le_of_ble_eq_true rfl))))))))) ((In_add hf_35_0 (In_lit (n := 1) (by decide) (by decide) : In 1 1 1) (by decide)) : In 1 200 ((fI w 35 0) + 1))), (fun hL hk => LD_add (a0 := (fI w 35 0) + 1) ((In_add hf_35_0 (In_lit (n := 1) (by decide) (by decide) : In 1 1 1) (by decide)) : In 1 200 ((fI w 35 0) + 1)) (t := p1) (x := p2) (y := p3) (z := p4) (by rw [(aF_cg (st_ne ew_7 (by decide))), (aF_cg (st_ne ew_6 (by decide))), (aF_cg (st_ne ew_5 (by decide))), (aF_cg (st_ne ew_4 (by decide))), (aF_cg (st_ne ew_3 (by decide))), (aF_eq (hW_w_1.lt tX_36) ew_2), (aF_cg (st_ne ew_1 (by decide)))]) (by rw [(aF_eq (hW_w_6.lt tX_37) ew_7), (aF_eq (hW_w_5.lt tX_37) ew_6), (aF_eq (hW_w_4.lt tX_37) ew_5), (aF_cg (st_ne ew_4 (by decide))), (aF_cg (st_ne ew_3 (by decide))), (aF_cg (st_ne ew_2 (by decide))), (aF_cg (st_ne ew_1 (by decide)))]) hL hk)⟩
