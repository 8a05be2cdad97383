set_option maxRecDepth 100000 in
set_option maxHeartbeats 8000000 in
theorem k_X12_inHouse (l : Launch) (D : va_G) (cI cJ cZ : ClassId) (q : Nat → Nat) (w : va_W) (hW_w : HT q (TM q cI cJ cZ) w) (p1 : Int32) (i_p1 : In 0 39 p1) (hf_0_45 : In 1 40 (fI w 0 45)) : Con_i l yX12_inHouse cX12_inHouse 4 (some .int) ({ frames := 0, cells := 0, slots := 0, locals := 0 }) D cI cJ cZ eW [.ref (q 0), .int p1] w (fun (r : Int32) (w1 : va_W) => HT q (TM q cI cJ cZ) w1 ∧ Sm [] [] w w1) := by
  refine eQ_i rfl (by decide) (Nat.le_of_ble_eq_true rfl) ⟨rfl, rfl⟩ ?_
  intro p e R s m args below meth c A Q hx hb hml hown hts hK hE hA hR hret hP hD hS ls hl
  have hown : s.vm.findClass RX12 = some m.cls := hown
  have hl : lv_has ls 4 [(0, .ref (q 0)), (1, .int p1)] := hl
  have J15 : ∀ (N : Nat) (x15_2 : Int32) (x15_3 : Int32) (w15 : va_W) (H : Heap) (locs : List Loc) (ls : Array Slot), (40 - x15_3.toInt).toNat < N → HT q (TM q cI cJ cZ) w15 → Sm [] [] w w15 → (In 0 39 p1) → (In 0 40 x15_3) → (In 1 40 (fI w15 0 45)) → va_P D vwCl w15 H → va_D A w15 → va_S A s.heap H locs → lv_has ls 4 [(0, .ref (q 0)), (1, .int p1), (2, .int x15_2), (3, .int x15_3)] → W p l e R s m args below meth c H locs 0 0 Q (F0 m 15 ls []) := by
    intro N
    induction N with
    | zero => intro x15_2 x15_3 w15 H locs ls hmu; exact absurd hmu (Nat.not_lt_zero _)
    | succ N ih15 =>
      intro x15_2 x15_3 w15 H locs ls hmu15 hW_w15 hM_w15 i_x15_1 i_x15_3 g15_0_45 hP hD hS hl
      have J44 : ∀ (y44_0 : Int32) (w44 : va_W) (H : Heap) (locs : List Loc) (ls : Array Slot), HT q (TM q cI cJ cZ) w44 → Sm [] [] w w44 → (In 0 39 p1) → (In 0 39 x15_3) → (In 0 1 y44_0) → (In 1 40 (fI w44 0 45)) → va_P D vwCl w44 H → va_D A w44 → va_S A s.heap H locs → lv_has ls 4 [(0, .ref (q 0)), (1, .int p1), (2, .int x15_2), (3, .int x15_3)] → W p l e R s m args below meth c H locs 0 0 Q (F0 m 44 ls [.int y44_0, .int x15_2]) := by
        intro y44_0 w44 H locs ls hW_w44 hM_w44 i_x44_1 i_x44_3 i_y44_0 g44_0_45 hP hD hS hl
        refine lv_iadd hx hb dX12_inHouse_44 ?_
        refine lv_topi (fun v_1 ev_1 => ?_)
        refine lv_istore_n (lv' := [(2, .int v_1), (0, .ref (q 0)), (1, .int p1), (3, .int x15_3)]) hx hb dX12_inHouse_45 rfl hl (by decide) rfl (fun ls hl => ?_)
        refine lv_iinc (v := (x15_3 + 1)) (lv' := [(3, .int (x15_3 + 1)), (2, .int v_1), (0, .ref (q 0)), (1, .int p1)]) hx hb dX12_inHouse_46 hl (k := 3) rfl (rfl) (by decide) rfl (fun ls hl => ?_)
        refine lv_goto (tgt := 15) hx hb dX12_inHouse_49 (by decide) ?_
        exact ih15 v_1 (x15_3 + 1) w44 _ _ ls (mu_inc hmu15 i_x44_3 (In_lit (n := 1) (by decide) (by decide) : In 1 1 1) (by decide)) hW_w44 hM_w44 i_p1 (In_w ((In_add (y := 1) i_x44_3 (In_lit (n := 1) (by decide) (by decide) : In 1 1 1) (by decide)) : In 1 40 (x15_3 + 1)) (by decide) : In 0 40 (x15_3 + 1)) (In_of (hM_w44.gI (by decide)) (In_of (hM_w44.gI (by decide)).symm g44_0_45)) hP hD hS (lv_sub hl [2, 3, 1, 0] rfl)
      refine lv_iload_n hx hb dX12_inHouse_15 rfl (lv_at hl 3 rfl) ?_
      refine lv_aload_n hx hb dX12_inHouse_16 rfl (lv_at hl 0 rfl) ?_
      refine gt_X12 hx hb hts hown hK hP 0 (hW_w15.o tM_0) 45 (by decide) wd_1446 rfl (hW_w15.fi tM_0 rfl) dX12_inHouse_17 ?_
      refine tov (v := (fI w 0 45)) (hM_w15.gI (by decide)) ?_
      refine lv_icmp_ge (tgt := 52) hx hb dX12_inHouse_20 (by decide) (fun c_2 => ?_) (fun c_2 => ?_)
      · refine lv_iload_n hx hb dX12_inHouse_52 rfl (lv_at hl 2 rfl) ?_
        exact hret _ _ _ _ _ _ hP hD hS dX12_inHouse_53 ⟨hW_w15, hM_w15⟩
      · refine lv_iload_n hx hb dX12_inHouse_23 rfl (lv_at hl 2 rfl) ?_
        refine lv_aload_n hx hb dX12_inHouse_24 rfl (lv_at hl 0 rfl) ?_
        refine gt_X12 hx hb hts hown hK hP 0 (hW_w15.o tM_0) 51 (by decide) wd_1452 rfl (hW_w15.fr tM_0 rfl) dX12_inHouse_25 ?_
        refine lv_iload_n hx hb dX12_inHouse_28 rfl (lv_at hl 3 rfl) ?_
        refine va_iald hx hb hK hP 31 0 (hW_w15.a tM_31) rfl (in_I (R_nle_r (In_of (hM_w15.gI (by decide)).symm g15_0_45) i_x15_3 c_2 (by decide) : In 0 39 x15_3) (by decide)) dX12_inHouse_29 ?_
        refine lv_topi (fun v_3 ev_3 => ?_)
        refine lv_aload_n hx hb dX12_inHouse_30 rfl (lv_at hl 0 rfl) ?_
        refine gt_X12 hx hb hts hown hK hP 0 (hW_w15.o tM_0) 51 (by decide) wd_1452 rfl (hW_w15.fr tM_0 rfl) dX12_inHouse_31 ?_
        refine lv_iload_n hx hb dX12_inHouse_34 rfl (lv_at hl 1 rfl) ?_
        refine va_iald hx hb hK hP 31 0 (hW_w15.a tM_31) rfl (in_I i_p1 (by decide)) dX12_inHouse_35 ?_
        refine lv_topi (fun v_4 ev_4 => ?_)
        refine lv_icmp_ne (tgt := 43) hx hb dX12_inHouse_36 (by decide) (fun c_5 => ?_) (fun c_5 => ?_)
        · refine lv_iconst (v := 0) hx hb dX12_inHouse_43 (by decide) ?_
          exact J44 0 w15 _ _ ls hW_w15 hM_w15 i_p1 (R_nle_r (In_of (hM_w15.gI (by decide)).symm g15_0_45) i_x15_3 c_2 (by decide) : In 0 39 x15_3) (In_lit (n := 0) (by decide) (by decide) : In 0 1 0) (In_of (hM_w15.gI (by decide)) (In_of (hM_w15.gI (by decide)).symm g15_0_45)) hP hD hS (lv_sub hl [0, 1, 2, 3] rfl)
        · refine lv_iconst (v := 1) hx hb dX12_inHouse_39 (by decide) ?_
          refine lv_goto (tgt := 44) hx hb dX12_inHouse_40 (by decide) ?_
          exact J44 1 w15 _ _ ls hW_w15 hM_w15 i_p1 (R_nle_r (In_of (hM_w15.gI (by decide)).symm g15_0_45) i_x15_3 c_2 (by decide) : In 0 39 x15_3) (In_lit (n := 1) (by decide) (by decide) : In 0 1 1) (In_of (hM_w15.gI (by decide)) (In_of (hM_w15.gI (by decide)).symm g15_0_45)) hP hD hS (lv_sub hl [0, 1, 2, 3] rfl)
  refine lv_aload_n hx hb dX12_inHouse_0 rfl (lv_at hl 0 rfl) ?_
  refine gt_X12 hx hb hts hown hK hP 0 (hW_w.o tM_0) 51 (by decide) wd_1452 rfl (hW_w.fr tM_0 rfl) dX12_inHouse_1 ?_
  refine lv_iload_n hx hb dX12_inHouse_4 rfl (lv_at hl 1 rfl) ?_
  refine va_iald hx hb hK hP 31 0 (hW_w.a tM_31) rfl (in_I i_p1 (by decide)) dX12_inHouse_5 ?_
  refine lv_topi (fun v_6 ev_6 => ?_)
  refine lv_if_ne (tgt := 11) hx hb dX12_inHouse_6 (by decide) (fun c_7 => ?_) (fun c_7 => ?_)
  · refine lv_iconst (v := 0) hx hb dX12_inHouse_11 (by decide) ?_
    refine lv_istore_n (lv' := [(2, .int 0), (0, .ref (q 0)), (1, .int p1)]) hx hb dX12_inHouse_12 rfl hl (by decide) rfl (fun ls hl => ?_)
    refine lv_iconst (v := 0) hx hb dX12_inHouse_13 (by decide) ?_
    refine lv_istore_n (lv' := [(3, .int 0), (2, .int 0), (0, .ref (q 0)), (1, .int p1)]) hx hb dX12_inHouse_14 rfl hl (by decide) rfl (fun ls hl => ?_)
    exact J15 _ 0 0 w _ _ ls (Nat.lt_succ_self _) hW_w Sm.rf i_p1 (In_lit (n := 0) (by decide) (by decide) : In 0 40 0) hf_0_45 hP hD hS (lv_sub hl [2, 3, 1, 0] rfl)
  · refine lv_iconst (v := 1) hx hb dX12_inHouse_9 (by decide) ?_
    exact hret _ _ _ _ _ _ hP hD hS dX12_inHouse_10 ⟨hW_w, Sm.rf⟩
set_option maxRecDepth 100000 in
set_option maxHeartbeats 8000000 in
theorem k_X12_leaf (l : Launch) (D : va_G) (cI cJ cZ : ClassId) (q : Nat → Nat) (w : va_W) (hW_w : HT q (TM q cI cJ cZ) w) (p1 : Int32) (p2 : Int32) (p3 : Int32) (p4 : Int32) (p5 : Int32) (i_p1 : In (-2147483648) 9 p1) (i_p2 : In 0 1099 p2) (i_p4 : In 0 39 p4) (i_p5 : In 0 9 p5) (hf_0_45 : In 1 40 (fI w 0 45)) : Con_l l yX12_leaf cX12_leaf 6 (some .long) ({ frames := 1, cells := 0, slots := 0, locals := 24 }) D cI cJ cZ eW [.ref (q 0), .int p1, .int p2, .int p3, .int p4, .int p5] w (fun (r : Int64) (w1 : va_W) => HT q (TM q cI cJ cZ) w1 ∧ Sm [] [] w w1) := by
  refine eQ_l rfl (by decide) (Nat.le_of_ble_eq_true rfl) ⟨rfl, rfl⟩ ?_
  intro p e R s m args below meth c A Q hx hb hml hown hts hK hE hA hR hret hP hD hS ls hl
  have hown : s.vm.findClass RX12 = some m.cls := hown
  have hl : lv_has ls 6 [(0, .ref (q 0)), (1, .int p1), (2, .int p2), (3, .int p3), (4, .int p4), (5, .int p5)] := hl
  refine lv_iload_n hx hb dX12_leaf_0 rfl (lv_at hl 1 rfl) ?_
  by_cases c_1 : p1 = 0
  · have c_1t : (p1 : Int32).toInt = 0 := by rw [c_1]; rfl
    refine lv_tableIn (tgt := 52) hx hb dX12_leaf_1 (by rw [c_1t]; decide) (by rw [c_1t]; decide) (off := 51) (by rw [c_1t]; rfl) (by decide) ?_
    refine lv_iload_n hx hb dX12_leaf_52 rfl (lv_at hl 3 rfl) ?_
    refine lv_i2l hx hb dX12_leaf_53 rfl ?_
    refine lv_topl (fun v_2 ev_2 => ?_)
    exact hret _ _ _ _ _ _ hP hD hS dX12_leaf_54 ⟨hW_w, Sm.rf⟩
  by_cases c_3 : p1 = 1
  · have c_3t : (p1 : Int32).toInt = 1 := by rw [c_3]; rfl
    refine lv_tableIn (tgt := 55) hx hb dX12_leaf_1 (by rw [c_3t]; decide) (by rw [c_3t]; decide) (off := 54) (by rw [c_3t]; rfl) (by decide) ?_
    refine lv_aload_n hx hb dX12_leaf_55 rfl (lv_at hl 0 rfl) ?_
    refine gt_X12 hx hb hts hown hK hP 0 (hW_w.o tM_0) 47 (by decide) wd_1448 rfl (hW_w.fr tM_0 rfl) dX12_leaf_56 ?_
    refine lv_iload hx hb dX12_leaf_59 (lv_at hl 4 rfl) ?_
    refine va_iald hx hb hK hP 27 0 (hW_w.a tM_27) rfl (in_I i_p4 (by decide)) dX12_leaf_61 ?_
    refine lv_topi (fun v_4 ev_4 => ?_)
    refine lv_i2l hx hb dX12_leaf_62 rfl ?_
    refine lv_topl (fun v_5 ev_5 => ?_)
    exact hret _ _ _ _ _ _ hP hD hS dX12_leaf_63 ⟨hW_w, Sm.rf⟩
  by_cases c_6 : p1 = 2
  · have c_6t : (p1 : Int32).toInt = 2 := by rw [c_6]; rfl
    refine lv_tableIn (tgt := 64) hx hb dX12_leaf_1 (by rw [c_6t]; decide) (by rw [c_6t]; decide) (off := 63) (by rw [c_6t]; rfl) (by decide) ?_
    refine lv_aload_n hx hb dX12_leaf_64 rfl (lv_at hl 0 rfl) ?_
    refine gt_X12 hx hb hts hown hK hP 0 (hW_w.o tM_0) 49 (by decide) wd_1450 rfl (hW_w.fr tM_0 rfl) dX12_leaf_65 ?_
    refine lv_iload hx hb dX12_leaf_68 (lv_at hl 4 rfl) ?_
    refine va_iald hx hb hK hP 29 0 (hW_w.a tM_29) rfl (in_I i_p4 (by decide)) dX12_leaf_70 ?_
    refine lv_topi (fun v_7 ev_7 => ?_)
    refine lv_aload_n hx hb dX12_leaf_71 rfl (lv_at hl 0 rfl) ?_
    refine gt_X12 hx hb hts hown hK hP 0 (hW_w.o tM_0) 48 (by decide) wd_1449 rfl (hW_w.fr tM_0 rfl) dX12_leaf_72 ?_
    refine lv_iload hx hb dX12_leaf_75 (lv_at hl 4 rfl) ?_
    refine va_iald hx hb hK hP 28 0 (hW_w.a tM_28) rfl (in_I i_p4 (by decide)) dX12_leaf_77 ?_
    refine lv_topi (fun v_8 ev_8 => ?_)
    refine lv_isub hx hb dX12_leaf_78 ?_
    refine lv_topi (fun v_9 ev_9 => ?_)
    refine lv_i2l hx hb dX12_leaf_79 rfl ?_
    refine lv_topl (fun v_10 ev_10 => ?_)
    exact hret _ _ _ _ _ _ hP hD hS dX12_leaf_80 ⟨hW_w, Sm.rf⟩
  by_cases c_11 : p1 = 3
  · have c_11t : (p1 : Int32).toInt = 3 := by rw [c_11]; rfl
    refine lv_tableIn (tgt := 81) hx hb dX12_leaf_1 (by rw [c_11t]; decide) (by rw [c_11t]; decide) (off := 80) (by rw [c_11t]; rfl) (by decide) ?_
    refine lv_aload_n hx hb dX12_leaf_81 rfl (lv_at hl 0 rfl) ?_
    refine gt_X12 hx hb hts hown hK hP 0 (hW_w.o tM_0) 50 (by decide) wd_1451 rfl (hW_w.fr tM_0 rfl) dX12_leaf_82 ?_
    refine lv_iload hx hb dX12_leaf_85 (lv_at hl 4 rfl) ?_
    refine va_iald hx hb hK hP 30 0 (hW_w.a tM_30) rfl (in_I i_p4 (by decide)) dX12_leaf_87 ?_
    refine lv_topi (fun v_12 ev_12 => ?_)
    refine lv_i2l hx hb dX12_leaf_88 rfl ?_
    refine lv_topl (fun v_13 ev_13 => ?_)
    exact hret _ _ _ _ _ _ hP hD hS dX12_leaf_89 ⟨hW_w, Sm.rf⟩
  by_cases c_14 : p1 = 4
  · have c_14t : (p1 : Int32).toInt = 4 := by rw [c_14]; rfl
    refine lv_tableIn (tgt := 90) hx hb dX12_leaf_1 (by rw [c_14t]; decide) (by rw [c_14t]; decide) (off := 89) (by rw [c_14t]; rfl) (by decide) ?_
    refine lv_aload_n hx hb dX12_leaf_90 rfl (lv_at hl 0 rfl) ?_
    refine lv_iload hx hb dX12_leaf_91 (lv_at hl 4 rfl) ?_
    refine kW_i ⟨rfl, rfl⟩ hP hD hS hA (rW_V (As := [.int p4]) (rest := []) hx hb hml hown hts hK hE hP hD (k_X12_inHouse l D cI cJ cZ q w hW_w p4 i_p4 hf_0_45 _) ⟨⟨rfl, rfl⟩, rfl, rfl⟩ sv_X12_478 ⟨(Nat.le_trans (by decide) hR.1), (Nat.le_trans (by decide) hR.2)⟩ 0 12 (hW_w.o tM_0) rfl rfl rfl hl.1 rfl (Nat.le_of_ble_eq_true rfl) dX12_leaf_93) (fun r_16 w_15 H locs hw_w_15 hP hD hS => ?_)
    obtain ⟨hW_w_15, hs_w_15⟩ := hw_w_15
    refine lv_i2l hx hb dX12_leaf_96 rfl ?_
    refine lv_topl (fun v_17 ev_17 => ?_)
    exact hret _ _ _ _ _ _ hP hD hS dX12_leaf_97 ⟨hW_w_15, (Sm.rf.tr hs_w_15 (by decide))⟩
  by_cases c_18 : p1 = 5
  · have c_18t : (p1 : Int32).toInt = 5 := by rw [c_18]; rfl
    refine lv_tableIn (tgt := 98) hx hb dX12_leaf_1 (by rw [c_18t]; decide) (by rw [c_18t]; decide) (off := 97) (by rw [c_18t]; rfl) (by decide) ?_
    refine lv_aload_n hx hb dX12_leaf_98 rfl (lv_at hl 0 rfl) ?_
    refine gt_X12 hx hb hts hown hK hP 0 (hW_w.o tM_0) 53 (by decide) wd_1454 rfl (hW_w.fr tM_0 rfl) dX12_leaf_99 ?_
    refine lv_iload hx hb dX12_leaf_102 (lv_at hl 4 rfl) ?_
    refine va_iald hx hb hK hP 33 0 (hW_w.a tM_33) rfl (in_I i_p4 (by decide)) dX12_leaf_104 ?_
    refine lv_topi (fun v_19 ev_19 => ?_)
    refine lv_i2l hx hb dX12_leaf_105 rfl ?_
    refine lv_topl (fun v_20 ev_20 => ?_)
    exact hret _ _ _ _ _ _ hP hD hS dX12_leaf_106 ⟨hW_w, Sm.rf⟩
  by_cases c_21 : p1 = 6
  · have c_21t : (p1 : Int32).toInt = 6 := by rw [c_21]; rfl
    refine lv_tableIn (tgt := 107) hx hb dX12_leaf_1 (by rw [c_21t]; decide) (by rw [c_21t]; decide) (off := 106) (by rw [c_21t]; rfl) (by decide) ?_
    refine lv_lconst (v := 1) hx hb dX12_leaf_107 (by decide) ?_
    exact hret _ _ _ _ _ _ hP hD hS dX12_leaf_108 ⟨hW_w, Sm.rf⟩
  by_cases c_22 : p1 = 7
  · have c_22t : (p1 : Int32).toInt = 7 := by rw [c_22]; rfl
    refine lv_tableIn (tgt := 109) hx hb dX12_leaf_1 (by rw [c_22t]; decide) (by rw [c_22t]; decide) (off := 108) (by rw [c_22t]; rfl) (by decide) ?_
    refine lv_aload_n hx hb dX12_leaf_109 rfl (lv_at hl 0 rfl) ?_
    refine lv_iload hx hb dX12_leaf_110 (lv_at hl 4 rfl) ?_
    refine lv_aload_n hx hb dX12_leaf_112 rfl (lv_at hl 0 rfl) ?_
    refine gt_X12 hx hb hts hown hK hP 0 (hW_w.o tM_0) 27 (by decide) wd_1428 rfl (hW_w.fr tM_0 rfl) dX12_leaf_113 ?_
    refine lv_sipush (v := 1100) hx hb dX12_leaf_116 (by decide) ?_
    refine lv_aload_n hx hb dX12_leaf_119 rfl (lv_at hl 0 rfl) ?_
    refine gt_X12 hx hb hts hown hK hP 0 (hW_w.o tM_0) 12 (by decide) wd_1413 rfl (hW_w.fi tM_0 rfl) dX12_leaf_120 ?_
    refine lv_imul hx hb dX12_leaf_123 ?_
    refine lv_iload_n hx hb dX12_leaf_124 rfl (lv_at hl 2 rfl) ?_
    refine lv_iadd hx hb dX12_leaf_125 ?_
    refine va_lald hx hb hK hP 15 1 (hW_w.al tM_15) rfl (in_I ((In_add ((In_mull (hW_w.fin tM_0 rfl : In 0 1 (fI w 0 12)) (n := 1100) (by decide) (by decide)) : In 0 1100 (1100 * (fI w 0 12))) i_p2 (by decide)) : In 0 2199 ((1100 * (fI w 0 12)) + p2)) (by decide)) dX12_leaf_126 ?_
    refine lv_topl (fun v_23 ev_23 => ?_)
    refine kW_i ⟨rfl, rfl⟩ hP hD hS hA (rW_V (As := [.int p4, .long v_23]) (rest := []) hx hb hml hown hts hK hE hP hD (k_X12_hasWish l D cI cJ cZ q w hW_w p4 v_23 i_p4 _) ⟨⟨rfl, rfl⟩, rfl, rfl⟩ sv_X12_467 ⟨(Nat.le_trans (by decide) hR.1), (Nat.le_trans (by decide) hR.2)⟩ 0 12 (hW_w.o tM_0) rfl rfl rfl hl.1 rfl (Nat.le_of_ble_eq_true rfl) dX12_leaf_127) (fun r_25 w_24 H locs hw_w_24 hP hD hS => ?_)
    obtain ⟨hW_w_24, hs_w_24, i_r_25⟩ := hw_w_24
    refine lv_if_eq (tgt := 137) hx hb dX12_leaf_130 (by decide) (fun c_26 => ?_) (fun c_26 => ?_)
    · refine lv_lconst (v := 0) hx hb dX12_leaf_137 (by decide) ?_
      exact hret _ _ _ _ _ _ hP hD hS dX12_leaf_138 ⟨hW_w_24, (Sm.rf.tr hs_w_24 (by decide))⟩
    · refine lv_lconst (v := 1) hx hb dX12_leaf_133 (by decide) ?_
      refine lv_goto (tgt := 138) hx hb dX12_leaf_134 (by decide) ?_
      exact hret _ _ _ _ _ _ hP hD hS dX12_leaf_138 ⟨hW_w_24, (Sm.rf.tr hs_w_24 (by decide))⟩
  by_cases c_27 : p1 = 8
  · have c_27t : (p1 : Int32).toInt = 8 := by rw [c_27]; rfl
    refine lv_tableIn (tgt := 139) hx hb dX12_leaf_1 (by rw [c_27t]; decide) (by rw [c_27t]; decide) (off := 138) (by rw [c_27t]; rfl) (by decide) ?_
    refine lv_iload hx hb dX12_leaf_139 (lv_at hl 5 rfl) ?_
    refine lv_iload_n hx hb dX12_leaf_141 rfl (lv_at hl 3 rfl) ?_
    refine lv_icmp_ne (tgt := 149) hx hb dX12_leaf_142 (by decide) (fun c_28 => ?_) (fun c_28 => ?_)
    · refine lv_lconst (v := 0) hx hb dX12_leaf_149 (by decide) ?_
      exact hret _ _ _ _ _ _ hP hD hS dX12_leaf_150 ⟨hW_w, Sm.rf⟩
    · refine lv_lconst (v := 1) hx hb dX12_leaf_145 (by decide) ?_
      refine lv_goto (tgt := 150) hx hb dX12_leaf_146 (by decide) ?_
      exact hret _ _ _ _ _ _ hP hD hS dX12_leaf_150 ⟨hW_w, Sm.rf⟩
  refine lv_tableOut (tgt := 151) hx hb dX12_leaf_1 (by have h0 := lv_neT c_1 (a := 0) (by decide); have h1 := lv_neT c_3 (a := 1) (by decide); have h2 := lv_neT c_6 (a := 2) (by decide); have h3 := lv_neT c_11 (a := 3) (by decide); have h4 := lv_neT c_14 (a := 4) (by decide); have h5 := lv_neT c_18 (a := 5) (by decide); have h6 := lv_neT c_21 (a := 6) (by decide); have h7 := lv_neT c_22 (a := 7) (by decide); have h8 := lv_neT c_27 (a := 8) (by decide); omega) (by decide) ?_
  refine lv_aload_n hx hb dX12_leaf_151 rfl (lv_at hl 0 rfl) ?_
  refine gt_X12 hx hb hts hown hK hP 0 (hW_w.o tM_0) 23 (by decide) wd_1424 rfl (hW_w.fr tM_0 rfl) dX12_leaf_152 ?_
  refine lv_bipush (v := 10) hx hb dX12_leaf_155 (by decide) ?_
  refine lv_aload_n hx hb dX12_leaf_157 rfl (lv_at hl 0 rfl) ?_
  refine gt_X12 hx hb hts hown hK hP 0 (hW_w.o tM_0) 12 (by decide) wd_1413 rfl (hW_w.fi tM_0 rfl) dX12_leaf_158 ?_
  refine lv_imul hx hb dX12_leaf_161 ?_
  refine lv_iload hx hb dX12_leaf_162 (lv_at hl 5 rfl) ?_
  refine lv_iadd hx hb dX12_leaf_164 ?_
  refine va_iald hx hb hK hP 11 0 (hW_w.a tM_11) rfl (in_I ((In_add ((In_mull (hW_w.fin tM_0 rfl : In 0 1 (fI w 0 12)) (n := 10) (by decide) (by decide)) : In 0 10 (10 * (fI w 0 12))) i_p5 (by decide)) : In 0 19 ((10 * (fI w 0 12)) + p5)) (by decide)) dX12_leaf_165 ?_
  refine lv_topi (fun v_29 ev_29 => ?_)
  refine lv_iload_n hx hb dX12_leaf_166 rfl (lv_at hl 3 rfl) ?_
  refine lv_ishr hx hb dX12_leaf_167 ?_
  refine lv_topi (fun v_30 ev_30 => ?_)
  refine lv_iconst (v := 1) hx hb dX12_leaf_168 (by decide) ?_
  refine lv_iand hx hb dX12_leaf_169 ?_
  refine lv_i2l hx hb dX12_leaf_170 rfl ?_
  refine lv_topl (fun v_31 ev_31 => ?_)
  exact hret _ _ _ _ _ _ hP hD hS dX12_leaf_171 ⟨hW_w, Sm.rf⟩
set_option maxRecDepth 100000 in
set_option maxHeartbeats 8000000 in
theorem k_X12_held (l : Launch) (D : va_G) (cI cJ cZ : ClassId) (q : Nat → Nat) (w : va_W) (hW_w : HT q (TM q cI cJ cZ) w) (p0 : Int64) (hf_0_45 : In 1 40 (fI w 0 45)) : Con_l l yX12_held cX12_held 2 (some .long) ({ frames := 0, cells := 0, slots := 0, locals := 0 }) D cI cJ cZ eW [.long p0] w (fun (r : Int64) (w1 : va_W) => HT q (TM q cI cJ cZ) w1 ∧ Sm [] [] w w1) := by
  refine eQ_l rfl (by decide) (Nat.le_of_ble_eq_true rfl) ⟨rfl, rfl⟩ ?_
  intro p e R s m args below meth c A Q hx hb hml hown hts hK hE hA hR hret hP hD hS ls hl
  have hown : s.vm.findClass RX12 = some m.cls := hown
  have hl : lv_has ls 2 [(0, .long p0)] := hl
  refine lv_lload_n hx hb dX12_held_0 rfl (lv_at hl 0 rfl) ?_
  refine lv_ldc2 hx hb hown (hts _ wd_1951) dX12_held_1 ?_
  refine W.lcmp hx hb dX12_held_4 ?_
  refine lv_topi (fun v_1 ev_1 => ?_)
  refine lv_if_le (tgt := 14) hx hb dX12_held_5 (by decide) (fun c_2 => ?_) (fun c_2 => ?_)
  · refine lv_lload_n hx hb dX12_held_14 rfl (lv_at hl 0 rfl) ?_
    refine lv_ldc2 hx hb hown (hts _ wd_1952) dX12_held_15 ?_
    refine W.lcmp hx hb dX12_held_18 ?_
    refine lv_topi (fun v_3 ev_3 => ?_)
    refine lv_if_ge (tgt := 28) hx hb dX12_held_19 (by decide) (fun c_4 => ?_) (fun c_4 => ?_)
    · refine lv_lload_n hx hb dX12_held_28 rfl (lv_at hl 0 rfl) ?_
      exact hret _ _ _ _ _ _ hP hD hS dX12_held_29 ⟨hW_w, Sm.rf⟩
    · refine lv_ldc2 hx hb hown (hts _ wd_1952) dX12_held_22 ?_
      refine lv_goto (tgt := 29) hx hb dX12_held_25 (by decide) ?_
      exact hret _ _ _ _ _ _ hP hD hS dX12_held_29 ⟨hW_w, Sm.rf⟩
  · refine lv_ldc2 hx hb hown (hts _ wd_1951) dX12_held_8 ?_
    refine lv_goto (tgt := 29) hx hb dX12_held_11 (by decide) ?_
    exact hret _ _ _ _ _ _ hP hD hS dX12_held_29 ⟨hW_w, Sm.rf⟩
set_option maxRecDepth 100000 in
set_option maxHeartbeats 8000000 in
theorem k_X12_two (l : Launch) (D : va_G) (cI cJ cZ : ClassId) (q : Nat → Nat) (w : va_W) (hW_w : HT q (TM q cI cJ cZ) w) (p0 : Int32) (p1 : Int64) (p2 : Int64) (i_p0 : In 10 2147483647 p0) (hf_0_45 : In 1 40 (fI w 0 45)) : Con_l l yX12_two cX12_two 5 (some .long) ({ frames := 1, cells := 0, slots := 0, locals := 21 }) D cI cJ cZ eW [.int p0, .long p1, .long p2] w (fun (r : Int64) (w1 : va_W) => HT q (TM q cI cJ cZ) w1 ∧ Sm [] [] w w1) := by
  refine eQ_l rfl (by decide) (Nat.le_of_ble_eq_true rfl) ⟨rfl, rfl⟩ ?_
  intro p e R s m args below meth c A Q hx hb hml hown hts hK hE hA hR hret hP hD hS ls hl
  have hown : s.vm.findClass RX12 = some m.cls := hown
  have hl : lv_has ls 5 [(0, .int p0), (1, .long p1), (3, .long p2)] := hl
  refine lv_iload_n hx hb dX12_two_0 rfl (lv_at hl 0 rfl) ?_
  by_cases c_1 : p0 = 10
  · have c_1t : (p0 : Int32).toInt = 10 := by rw [c_1]; rfl
    refine lv_tableIn (tgt := 44) hx hb dX12_two_1 (by rw [c_1t]; decide) (by rw [c_1t]; decide) (off := 43) (by rw [c_1t]; rfl) (by decide) ?_
    refine lv_lload_n hx hb dX12_two_44 rfl (lv_at hl 1 rfl) ?_
    refine lv_lload_n hx hb dX12_two_45 rfl (lv_at hl 2 rfl) ?_
    refine lv_ladd hx hb dX12_two_46 ?_
    refine lv_topl (fun v_2 ev_2 => ?_)
    refine kW_l ⟨rfl, rfl⟩ hP hD hS hA (rW_S (As := [.long v_2]) (rest := []) hx hb hml hown hts hK hE hP hD (k_X12_held l D cI cJ cZ q w hW_w v_2 hf_0_45 _) ⟨⟨rfl, rfl⟩, rfl, rfl⟩ sv_X12_481 ⟨(Nat.le_trans (by decide) hR.1), (Nat.le_trans (by decide) hR.2)⟩ rfl hl.1 rfl (Nat.le_of_ble_eq_true rfl) dX12_two_47) (fun r_4 w_3 H locs hw_w_3 hP hD hS => ?_)
    obtain ⟨hW_w_3, hs_w_3⟩ := hw_w_3
    exact hret _ _ _ _ _ _ hP hD hS dX12_two_50 ⟨hW_w_3, (Sm.rf.tr hs_w_3 (by decide))⟩
  by_cases c_5 : p0 = 11
  · have c_5t : (p0 : Int32).toInt = 11 := by rw [c_5]; rfl
    refine lv_tableIn (tgt := 51) hx hb dX12_two_1 (by rw [c_5t]; decide) (by rw [c_5t]; decide) (off := 50) (by rw [c_5t]; rfl) (by decide) ?_
    refine lv_lload_n hx hb dX12_two_51 rfl (lv_at hl 1 rfl) ?_
    refine lv_lload_n hx hb dX12_two_52 rfl (lv_at hl 2 rfl) ?_
    refine lv_lsub hx hb dX12_two_53 ?_
    refine lv_topl (fun v_6 ev_6 => ?_)
    refine kW_l ⟨rfl, rfl⟩ hP hD hS hA (rW_S (As := [.long v_6]) (rest := []) hx hb hml hown hts hK hE hP hD (k_X12_held l D cI cJ cZ q w hW_w v_6 hf_0_45 _) ⟨⟨rfl, rfl⟩, rfl, rfl⟩ sv_X12_481 ⟨(Nat.le_trans (by decide) hR.1), (Nat.le_trans (by decide) hR.2)⟩ rfl hl.1 rfl (Nat.le_of_ble_eq_true rfl) dX12_two_54) (fun r_8 w_7 H locs hw_w_7 hP hD hS => ?_)
    obtain ⟨hW_w_7, hs_w_7⟩ := hw_w_7
    exact hret _ _ _ _ _ _ hP hD hS dX12_two_57 ⟨hW_w_7, (Sm.rf.tr hs_w_7 (by decide))⟩
  by_cases c_9 : p0 = 12
  · have c_9t : (p0 : Int32).toInt = 12 := by rw [c_9]; rfl
    refine lv_tableIn (tgt := 58) hx hb dX12_two_1 (by rw [c_9t]; decide) (by rw [c_9t]; decide) (off := 57) (by rw [c_9t]; rfl) (by decide) ?_
    refine lv_lload_n hx hb dX12_two_58 rfl (lv_at hl 1 rfl) ?_
    refine lv_lload_n hx hb dX12_two_59 rfl (lv_at hl 2 rfl) ?_
    refine lv_lmul hx hb dX12_two_60 ?_
    refine lv_topl (fun v_10 ev_10 => ?_)
    refine kW_l ⟨rfl, rfl⟩ hP hD hS hA (rW_S (As := [.long v_10]) (rest := []) hx hb hml hown hts hK hE hP hD (k_X12_held l D cI cJ cZ q w hW_w v_10 hf_0_45 _) ⟨⟨rfl, rfl⟩, rfl, rfl⟩ sv_X12_481 ⟨(Nat.le_trans (by decide) hR.1), (Nat.le_trans (by decide) hR.2)⟩ rfl hl.1 rfl (Nat.le_of_ble_eq_true rfl) dX12_two_61) (fun r_12 w_11 H locs hw_w_11 hP hD hS => ?_)
    obtain ⟨hW_w_11, hs_w_11⟩ := hw_w_11
    exact hret _ _ _ _ _ _ hP hD hS dX12_two_64 ⟨hW_w_11, (Sm.rf.tr hs_w_11 (by decide))⟩
  by_cases c_13 : p0 = 13
  · have c_13t : (p0 : Int32).toInt = 13 := by rw [c_13]; rfl
    refine lv_tableIn (tgt := 65) hx hb dX12_two_1 (by rw [c_13t]; decide) (by rw [c_13t]; decide) (off := 64) (by rw [c_13t]; rfl) (by decide) ?_
    refine lv_lload_n hx hb dX12_two_65 rfl (lv_at hl 1 rfl) ?_
    refine lv_lload_n hx hb dX12_two_66 rfl (lv_at hl 2 rfl) ?_
    refine W.lcmp hx hb dX12_two_67 ?_
    refine lv_topi (fun v_14 ev_14 => ?_)
    refine lv_if_ge (tgt := 75) hx hb dX12_two_68 (by decide) (fun c_15 => ?_) (fun c_15 => ?_)
    · refine lv_lconst (v := 0) hx hb dX12_two_75 (by decide) ?_
      exact hret _ _ _ _ _ _ hP hD hS dX12_two_76 ⟨hW_w, Sm.rf⟩
    · refine lv_lconst (v := 1) hx hb dX12_two_71 (by decide) ?_
      refine lv_goto (tgt := 76) hx hb dX12_two_72 (by decide) ?_
      exact hret _ _ _ _ _ _ hP hD hS dX12_two_76 ⟨hW_w, Sm.rf⟩
  by_cases c_16 : p0 = 14
  · have c_16t : (p0 : Int32).toInt = 14 := by rw [c_16]; rfl
    refine lv_tableIn (tgt := 77) hx hb dX12_two_1 (by rw [c_16t]; decide) (by rw [c_16t]; decide) (off := 76) (by rw [c_16t]; rfl) (by decide) ?_
    refine lv_lload_n hx hb dX12_two_77 rfl (lv_at hl 1 rfl) ?_
    refine lv_lload_n hx hb dX12_two_78 rfl (lv_at hl 2 rfl) ?_
    refine W.lcmp hx hb dX12_two_79 ?_
    refine lv_topi (fun v_17 ev_17 => ?_)
    refine lv_if_le (tgt := 87) hx hb dX12_two_80 (by decide) (fun c_18 => ?_) (fun c_18 => ?_)
    · refine lv_lconst (v := 0) hx hb dX12_two_87 (by decide) ?_
      exact hret _ _ _ _ _ _ hP hD hS dX12_two_88 ⟨hW_w, Sm.rf⟩
    · refine lv_lconst (v := 1) hx hb dX12_two_83 (by decide) ?_
      refine lv_goto (tgt := 88) hx hb dX12_two_84 (by decide) ?_
      exact hret _ _ _ _ _ _ hP hD hS dX12_two_88 ⟨hW_w, Sm.rf⟩
  by_cases c_19 : p0 = 15
  · have c_19t : (p0 : Int32).toInt = 15 := by rw [c_19]; rfl
    refine lv_tableIn (tgt := 89) hx hb dX12_two_1 (by rw [c_19t]; decide) (by rw [c_19t]; decide) (off := 88) (by rw [c_19t]; rfl) (by decide) ?_
    refine lv_lload_n hx hb dX12_two_89 rfl (lv_at hl 1 rfl) ?_
    refine lv_lload_n hx hb dX12_two_90 rfl (lv_at hl 2 rfl) ?_
    refine W.lcmp hx hb dX12_two_91 ?_
    refine lv_topi (fun v_20 ev_20 => ?_)
    refine lv_if_ne (tgt := 99) hx hb dX12_two_92 (by decide) (fun c_21 => ?_) (fun c_21 => ?_)
    · refine lv_lconst (v := 0) hx hb dX12_two_99 (by decide) ?_
      exact hret _ _ _ _ _ _ hP hD hS dX12_two_100 ⟨hW_w, Sm.rf⟩
    · refine lv_lconst (v := 1) hx hb dX12_two_95 (by decide) ?_
      refine lv_goto (tgt := 100) hx hb dX12_two_96 (by decide) ?_
      exact hret _ _ _ _ _ _ hP hD hS dX12_two_100 ⟨hW_w, Sm.rf⟩
  by_cases c_22 : p0 = 16
  · have c_22t : (p0 : Int32).toInt = 16 := by rw [c_22]; rfl
    refine lv_tableIn (tgt := 101) hx hb dX12_two_1 (by rw [c_22t]; decide) (by rw [c_22t]; decide) (off := 100) (by rw [c_22t]; rfl) (by decide) ?_
    refine lv_lload_n hx hb dX12_two_101 rfl (lv_at hl 1 rfl) ?_
    refine lv_lload_n hx hb dX12_two_102 rfl (lv_at hl 2 rfl) ?_
    refine lv_lmul hx hb dX12_two_103 ?_
    refine lv_topl (fun v_23 ev_23 => ?_)
    exact hret _ _ _ _ _ _ hP hD hS dX12_two_104 ⟨hW_w, Sm.rf⟩
  refine lv_tableOut (tgt := 105) hx hb dX12_two_1 (by have h0 := lv_neT c_1 (a := 10) (by decide); have h1 := lv_neT c_5 (a := 11) (by decide); have h2 := lv_neT c_9 (a := 12) (by decide); have h3 := lv_neT c_13 (a := 13) (by decide); have h4 := lv_neT c_16 (a := 14) (by decide); have h5 := lv_neT c_19 (a := 15) (by decide); have h6 := lv_neT c_22 (a := 16) (by decide); omega) (by decide) ?_
  refine lv_lload_n hx hb dX12_two_105 rfl (lv_at hl 1 rfl) ?_
  refine lv_lload_n hx hb dX12_two_106 rfl (lv_at hl 2 rfl) ?_
  refine lv_ladd hx hb dX12_two_107 ?_
  refine lv_topl (fun v_24 ev_24 => ?_)
  refine lv_lconst (v := 0) hx hb dX12_two_108 (by decide) ?_
  refine W.lcmp hx hb dX12_two_109 ?_
  refine lv_topi (fun v_25 ev_25 => ?_)
  refine lv_if_le (tgt := 117) hx hb dX12_two_110 (by decide) (fun c_26 => ?_) (fun c_26 => ?_)
  · refine lv_lconst (v := 0) hx hb dX12_two_117 (by decide) ?_
    exact hret _ _ _ _ _ _ hP hD hS dX12_two_118 ⟨hW_w, Sm.rf⟩
  · refine lv_lconst (v := 1) hx hb dX12_two_113 (by decide) ?_
    refine lv_goto (tgt := 118) hx hb dX12_two_114 (by decide) ?_
    exact hret _ _ _ _ _ _ hP hD hS dX12_two_118 ⟨hW_w, Sm.rf⟩
set_option maxRecDepth 100000 in
set_option maxHeartbeats 8000000 in
theorem k_X12_isChild (l : Launch) (D : va_G) (cI cJ cZ : ClassId) (q : Nat → Nat) (w : va_W) (hW_w : HT q (TM q cI cJ cZ) w) (p1 : Int32) : Con_i l yX12_isChild cX12_isChild 2 (some .boolean) ({ frames := 0, cells := 0, slots := 0, locals := 0 }) D cI cJ cZ eW [.ref (q 0), .int p1] w (fun (r : Int32) (w1 : va_W) => HT q (TM q cI cJ cZ) w1 ∧ Sm [] [] w w1 ∧ In 0 1 r ∧ (¬ r = 0 → In 1 40 (fI w1 0 45) ∧ In 0 39 p1)) := by
  refine eQ_z rfl (by decide) (Nat.le_of_ble_eq_true rfl) ⟨rfl, rfl⟩ ?_
  intro p e R s m args below meth c A Q hx hb hml hown hts hK hE hA hR hret hP hD hS ls hl
  have hown : s.vm.findClass RX12 = some m.cls := hown
  have hl : lv_has ls 2 [(0, .ref (q 0)), (1, .int p1)] := hl
  refine lv_iload_n hx hb dX12_isChild_0 rfl (lv_at hl 1 rfl) ?_
  refine lv_if_lt (tgt := 16) hx hb dX12_isChild_1 (by decide) (fun c_1 => ?_) (fun c_1 => ?_)
  · refine lv_iconst (v := 0) hx hb dX12_isChild_16 (by decide) ?_
    exact hret _ _ _ _ _ _ hP hD hS dX12_isChild_17 (In_lit (n := 0) (by decide) (by decide) : In 0 1 0) ⟨hW_w, Sm.rf, (In_lit (n := 0) (by decide) (by decide) : In 0 1 0), (fun h => absurd rfl h)⟩
  · refine lv_iload_n hx hb dX12_isChild_4 rfl (lv_at hl 1 rfl) ?_
    refine lv_aload_n hx hb dX12_isChild_5 rfl (lv_at hl 0 rfl) ?_
    refine gt_X12 hx hb hts hown hK hP 0 (hW_w.o tM_0) 45 (by decide) wd_1446 rfl (hW_w.fi tM_0 rfl) dX12_isChild_6 ?_
    refine lv_icmp_ge (tgt := 16) hx hb dX12_isChild_9 (by decide) (fun c_2 => ?_) (fun c_2 => ?_)
    · refine lv_iconst (v := 0) hx hb dX12_isChild_16 (by decide) ?_
      exact hret _ _ _ _ _ _ hP hD hS dX12_isChild_17 (In_lit (n := 0) (by decide) (by decide) : In 0 1 0) ⟨hW_w, Sm.rf, (In_lit (n := 0) (by decide) (by decide) : In 0 1 0), (fun h => absurd rfl h)⟩
    · refine lv_iconst (v := 1) hx hb dX12_isChild_12 (by decide) ?_
      refine lv_goto (tgt := 17) hx hb dX12_isChild_13 (by decide) ?_
      exact hret _ _ _ _ _ _ hP hD hS dX12_isChild_17 (In_lit (n := 1) (by decide) (by decide) : In 0 1 1) ⟨hW_w, Sm.rf, (In_lit (n := 1) (by decide) (by decide) : In 0 1 1), (fun h => ⟨(R_nle_l (hW_w.fin tM_0 rfl : In 0 40 (fI w 0 45)) (R_nlt_l (In_any p1) (In_lit (n := 0) (by decide) (by decide) : In 0 0 0) c_1 (by decide) : In 0 2147483647 p1) c_2 (by decide) : In 1 40 (fI w 0 45)), (R_nle_r (hW_w.fin tM_0 rfl : In 0 40 (fI w 0 45)) (R_nlt_l (In_any p1) (In_lit (n := 0) (by decide) (by decide) : In 0 0 0) c_1 (by decide) : In 0 2147483647 p1) c_2 (by decide) : In 0 39 p1)⟩)⟩
set_option maxRecDepth 100000 in
set_option maxHeartbeats 8000000 in
theorem k_X12_wish (l : Launch) (D : va_G) (cI cJ cZ : ClassId) (q : Nat → Nat) (w : va_W) (hW_w : HT q (TM q cI cJ cZ) w) (p1 : Int32) (p2 : Int32) (p3 : Int32) (hLM : LM w) : Con_i l yX12_wish cX12_wish 4 (some .int) ({ frames := 3, cells := 0, slots := 0, locals := 73 }) D cI cJ cZ eW [.ref (q 0), .int p1, .int p2, .int p3] w (fun (r : Int32) (w1 : va_W) => HT q (TM q cI cJ cZ) w1 ∧ Sm [0, 26, 27, 28, 29, 30, 31, 32, 33, 34, 35, 36] [(0, 45)] w w1) := by
  refine eQ_i rfl (by decide) (Nat.le_of_ble_eq_true rfl) ⟨rfl, rfl⟩ ?_
  intro p e R s m args below meth c A Q hx hb hml hown hts hK hE hA hR hret hP hD hS ls hl
  have hown : s.vm.findClass RX12 = some m.cls := hown
  have hl : lv_has ls 4 [(0, .ref (q 0)), (1, .int p1), (2, .int p2), (3, .int p3)] := hl
  refine lv_aload_n hx hb dX12_wish_0 rfl (lv_at hl 0 rfl) ?_
  refine kW_v ⟨rfl, rfl⟩ hP hD hS hA (rW_V (As := []) (rest := []) hx hb hml hown hts hK hE hP hD (k_X12_knows l D cI cJ cZ q w hW_w (LM_cg rfl rfl hLM) _) ⟨⟨rfl, rfl⟩, rfl, rfl⟩ sv_X12_471 ⟨(Nat.le_trans (by decide) hR.1), (Nat.le_trans (by decide) hR.2)⟩ 0 12 (hW_w.o tM_0) rfl rfl rfl hl.1 rfl (Nat.le_of_ble_eq_true rfl) dX12_wish_1) (fun w_1 H locs hw_w_1 hP hD hS => ?_)
  obtain ⟨hW_w_1, hs_w_1, h_3⟩ := hw_w_1
  refine lv_aload_n hx hb dX12_wish_4 rfl (lv_at hl 0 rfl) ?_
  refine lv_iload_n hx hb dX12_wish_5 rfl (lv_at hl 1 rfl) ?_
  refine kW_i ⟨rfl, rfl⟩ hP hD hS hA (rW_V (As := [.int p1]) (rest := []) hx hb hml hown hts hK hE hP hD (k_X12_isChild l D cI cJ cZ q w_1 hW_w_1 p1 _) ⟨⟨rfl, rfl⟩, rfl, rfl⟩ sv_X12_512 ⟨(Nat.le_trans (by decide) hR.1), (Nat.le_trans (by decide) hR.2)⟩ 0 12 (hW_w_1.o tM_0) rfl rfl rfl hl.1 rfl (Nat.le_of_ble_eq_true rfl) dX12_wish_6) (fun r_5 w_4 H locs hw_w_4 hP hD hS => ?_)
  obtain ⟨hW_w_4, hs_w_4, i_r_5, h_6⟩ := hw_w_4
  refine lv_if_eq (tgt := 26) hx hb dX12_wish_9 (by decide) (fun c_7 => ?_) (fun c_7 => ?_)
  · refine lv_iconst (v := (-1)) hx hb dX12_wish_26 (by decide) ?_
    refine lv_goto (tgt := 44) hx hb dX12_wish_27 (by decide) ?_
    exact hret _ _ _ _ _ _ hP hD hS dX12_wish_44 ⟨hW_w_4, ((Sm.rf.tr hs_w_1 (by decide)).tr hs_w_4 (by decide))⟩
  · refine lv_iload_n hx hb dX12_wish_12 rfl (lv_at hl 2 rfl) ?_
    refine lv_if_lt (tgt := 26) hx hb dX12_wish_13 (by decide) (fun c_8 => ?_) (fun c_8 => ?_)
    · refine lv_iconst (v := (-1)) hx hb dX12_wish_26 (by decide) ?_
      refine lv_goto (tgt := 44) hx hb dX12_wish_27 (by decide) ?_
      exact hret _ _ _ _ _ _ hP hD hS dX12_wish_44 ⟨hW_w_4, ((Sm.rf.tr hs_w_1 (by decide)).tr hs_w_4 (by decide))⟩
    · refine lv_iload_n hx hb dX12_wish_16 rfl (lv_at hl 2 rfl) ?_
      refine lv_aload_n hx hb dX12_wish_17 rfl (lv_at hl 0 rfl) ?_
      refine gt_X12 hx hb hts hown hK hP 0 (hW_w_4.o tM_0) 53 (by decide) wd_1454 rfl (hW_w_4.fr tM_0 rfl) dX12_wish_18 ?_
      refine lv_iload_n hx hb dX12_wish_21 rfl (lv_at hl 1 rfl) ?_
      refine va_iald hx hb hK hP 33 0 (hW_w_4.a tM_33) rfl (in_I (h_6 c_7).2 (by decide)) dX12_wish_22 ?_
      refine lv_topi (fun v_9 ev_9 => ?_)
      refine lv_icmp_lt (tgt := 30) hx hb dX12_wish_23 (by decide) (fun c_10 => ?_) (fun c_10 => ?_)
      · refine lv_aload_n hx hb dX12_wish_30 rfl (lv_at hl 0 rfl) ?_
        refine gt_X12 hx hb hts hown hK hP 0 (hW_w_4.o tM_0) 54 (by decide) wd_1455 rfl (hW_w_4.fr tM_0 rfl) dX12_wish_31 ?_
        refine lv_iconst (v := 4) hx hb dX12_wish_34 (by decide) ?_
        refine lv_iload_n hx hb dX12_wish_35 rfl (lv_at hl 1 rfl) ?_
        refine lv_imul hx hb dX12_wish_36 ?_
        refine lv_iload_n hx hb dX12_wish_37 rfl (lv_at hl 2 rfl) ?_
        refine lv_iadd hx hb dX12_wish_38 ?_
        refine va_lald hx hb hK hP 34 1 (hW_w_4.al tM_34) rfl (in_I ((In_add ((In_mull (h_6 c_7).2 (n := 4) (by decide) (by decide)) : In 0 156 (4 * p1)) (R_lt_l (R_nlt_l (In_any p2) (In_lit (n := 0) (by decide) (by decide) : In 0 0 0) c_8 (by decide) : In 0 2147483647 p2) (In_of ev_9 (hW_w_4.ap tM_33 _) : In 0 4 v_9) c_10 (by decide) : In 0 3 p2) (by decide)) : In 0 159 ((4 * p1) + p2)) (by decide)) dX12_wish_39 ?_
        refine lv_topl (fun v_11 ev_11 => ?_)
        refine lv_iload_n hx hb dX12_wish_40 rfl (lv_at hl 3 rfl) ?_
        refine kW_i ⟨rfl, rfl⟩ hP hD hS hA (rW_S (As := [.long v_11, .int p3]) (rest := []) hx hb hml hown hts hK hE hP hD (k_X12_letter l D cI cJ cZ q w_4 hW_w_4 v_11 p3 _) ⟨⟨rfl, rfl⟩, rfl, rfl⟩ sv_X12_447 ⟨(Nat.le_trans (by decide) hR.1), (Nat.le_trans (by decide) hR.2)⟩ rfl hl.1 rfl (Nat.le_of_ble_eq_true rfl) dX12_wish_41) (fun r_13 w_12 H locs hw_w_12 hP hD hS => ?_)
        obtain ⟨hW_w_12, hs_w_12, h_14⟩ := hw_w_12
        exact hret _ _ _ _ _ _ hP hD hS dX12_wish_44 ⟨hW_w_12, (((Sm.rf.tr hs_w_1 (by decide)).tr hs_w_4 (by decide)).tr hs_w_12 (by decide))⟩
      · refine lv_iconst (v := (-1)) hx hb dX12_wish_26 (by decide) ?_
        refine lv_goto (tgt := 44) hx hb dX12_wish_27 (by decide) ?_
        exact hret _ _ _ _ _ _ hP hD hS dX12_wish_44 ⟨hW_w_4, ((Sm.rf.tr hs_w_1 (by decide)).tr hs_w_4 (by decide))⟩
set_option maxRecDepth 100000 in
set_option maxHeartbeats 8000000 in
theorem k_X12_arrives (l : Launch) (D : va_G) (cI cJ cZ : ClassId) (q : Nat → Nat) (w : va_W) (hW_w : HT q (TM q cI cJ cZ) w) (hLM : LM w) : Con_v l yX12_arrives cX12_arrives 2 none ({ frames := 2, cells := 0, slots := 0, locals := 41 }) D cI cJ cZ eW [.ref (q 0)] w (fun (w1 : va_W) => HT q (TM q cI cJ cZ) w1 ∧ Sm [46] [] w w1) := by
  refine eQ_v rfl (by decide) (Nat.le_of_ble_eq_true rfl) ⟨rfl, rfl⟩ ?_
  intro p e R s m args below meth c A Q hx hb hml hown hts hK hE hA hR hret hP hD hS ls hl
  have hown : s.vm.findClass RX12 = some m.cls := hown
  have hl : lv_has ls 2 [(0, .ref (q 0))] := hl
  have J24 : ∀ (N : Nat) (x24_1 : Int32) (w24 : va_W) (H : Heap) (locs : List Loc) (ls : Array Slot), (201 - x24_1.toInt).toNat < N → HT q (TM q cI cJ cZ) w24 → Sm [46] [] w w24 → (In 1 201 x24_1) → va_P D vwCl w24 H → va_D A w24 → va_S A s.heap H locs → lv_has ls 2 [(0, .ref (q 0)), (1, .int x24_1)] → W p l e R s m args below meth c H locs 0 0 Q (F0 m 24 ls []) := by
    intro N
    induction N with
    | zero => intro x24_1 w24 H locs ls hmu; exact absurd hmu (Nat.not_lt_zero _)
    | succ N ih24 =>
      intro x24_1 w24 H locs ls hmu24 hW_w24 hM_w24 i_x24_1 hP hD hS hl
      have J90 : ∀ (w90 : va_W) (H : Heap) (locs : List Loc) (ls : Array Slot), HT q (TM q cI cJ cZ) w90 → Sm [46] [] w w90 → (In 1 200 x24_1) → (In 1 200 (fI w90 0 37)) → va_P D vwCl w90 H → va_D A w90 → va_S A s.heap H locs → lv_has ls 2 [(0, .ref (q 0)), (1, .int x24_1)] → W p l e R s m args below meth c H locs 0 0 Q (F0 m 90 ls []) := by
        intro w90 H locs ls hW_w90 hM_w90 i_x90_1 g90_0_37 hP hD hS hl
        refine lv_iinc (v := (x24_1 + 1)) (lv' := [(1, .int (x24_1 + 1)), (0, .ref (q 0))]) hx hb dX12_arrives_90 hl (k := 1) rfl (rfl) (by decide) rfl (fun ls hl => ?_)
        refine lv_goto (tgt := 24) hx hb dX12_arrives_93 (by decide) ?_
        exact ih24 (x24_1 + 1) w90 _ _ ls (mu_inc hmu24 i_x90_1 (In_lit (n := 1) (by decide) (by decide) : In 1 1 1) (by decide)) hW_w90 hM_w90 (In_w ((In_add (y := 1) i_x90_1 (In_lit (n := 1) (by decide) (by decide) : In 1 1 1) (by decide)) : In 2 201 (x24_1 + 1)) (by decide) : In 1 201 (x24_1 + 1)) hP hD hS (lv_sub hl [1, 0] rfl)
      refine lv_iload_n hx hb dX12_arrives_24 rfl (lv_at hl 1 rfl) ?_
      refine lv_aload_n hx hb dX12_arrives_25 rfl (lv_at hl 0 rfl) ?_
      refine gt_X12 hx hb hts hown hK hP 0 (hW_w24.o tM_0) 37 (by decide) wd_1438 rfl (hW_w24.fi tM_0 rfl) dX12_arrives_26 ?_
      refine tov (v := (fI w 0 37)) (hM_w24.gI (by decide)) ?_
      refine lv_icmp_gt (tgt := 96) hx hb dX12_arrives_29 (by decide) (fun c_1 => ?_) (fun c_1 => ?_)
      · exact hret _ _ _ _ _ hP hD hS dX12_arrives_96 ⟨hW_w24, hM_w24⟩
      · refine lv_aload_n hx hb dX12_arrives_32 rfl (lv_at hl 0 rfl) ?_
        refine gt_X12 hx hb hts hown hK hP 0 (hW_w24.o tM_0) 40 (by decide) wd_1441 rfl (hW_w24.fr tM_0 rfl) dX12_arrives_33 ?_
        refine lv_iload_n hx hb dX12_arrives_36 rfl (lv_at hl 1 rfl) ?_
        refine va_iald hx hb hK hP 21 0 (hW_w24.a tM_21) rfl (in_I (R_nlt_r (hW_w.fin tM_0 rfl : In 0 200 (fI w 0 37)) i_x24_1 c_1 (by decide) : In 1 200 x24_1) (by decide)) dX12_arrives_37 ?_
        refine lv_topi (fun v_2 ev_2 => ?_)
        refine lv_iconst (v := 1) hx hb dX12_arrives_38 (by decide) ?_
        refine lv_icmp_ne (tgt := 90) hx hb dX12_arrives_39 (by decide) (fun c_3 => ?_) (fun c_3 => ?_)
        · exact J90 w24 _ _ ls hW_w24 hM_w24 (R_nlt_r (hW_w.fin tM_0 rfl : In 0 200 (fI w 0 37)) i_x24_1 c_1 (by decide) : In 1 200 x24_1) (In_of (hM_w24.gI (by decide)) (R_nlt_l (hW_w.fin tM_0 rfl : In 0 200 (fI w 0 37)) i_x24_1 c_1 (by decide) : In 1 200 (fI w 0 37))) hP hD hS (lv_sub hl [0, 1] rfl)
        · refine lv_aload_n hx hb dX12_arrives_42 rfl (lv_at hl 0 rfl) ?_
          refine lv_iload_n hx hb dX12_arrives_43 rfl (lv_at hl 1 rfl) ?_
          refine kW_i ⟨rfl, rfl⟩ hP hD hS hA (rW_V (As := [.int x24_1]) (rest := []) hx hb hml hown hts hK hE hP hD (k_X12_isSo l D cI cJ cZ q w24 hW_w24 x24_1 (R_nlt_r (hW_w.fin tM_0 rfl : In 0 200 (fI w 0 37)) i_x24_1 c_1 (by decide) : In 1 200 x24_1) _) ⟨⟨rfl, rfl⟩, rfl, rfl⟩ sv_X12_461 ⟨(Nat.le_trans (by decide) hR.1), (Nat.le_trans (by decide) hR.2)⟩ 0 12 (hW_w24.o tM_0) rfl rfl rfl hl.1 rfl (Nat.le_of_ble_eq_true rfl) dX12_arrives_44) (fun r_5 w_4 H locs hw_w_4 hP hD hS => ?_)
          obtain ⟨hW_w_4, hs_w_4, i_r_5⟩ := hw_w_4
          refine lv_if_eq (tgt := 90) hx hb dX12_arrives_47 (by decide) (fun c_6 => ?_) (fun c_6 => ?_)
          · exact J90 w_4 _ _ ls hW_w_4 (hM_w24.tr hs_w_4 (by decide)) (R_nlt_r (hW_w.fin tM_0 rfl : In 0 200 (fI w 0 37)) i_x24_1 c_1 (by decide) : In 1 200 x24_1) (In_of ((hs_w_4.gI (by decide)).trans (hM_w24.gI (by decide))) (R_nlt_l (hW_w.fin tM_0 rfl : In 0 200 (fI w 0 37)) i_x24_1 c_1 (by decide) : In 1 200 (fI w 0 37))) hP hD hS (lv_sub hl [0, 1] rfl)
          · refine lv_aload_n hx hb dX12_arrives_50 rfl (lv_at hl 0 rfl) ?_
            refine gt_X12 hx hb hts hown hK hP 0 (hW_w_4.o tM_0) 67 (by decide) wd_1468 rfl (hW_w_4.fr tM_0 rfl) dX12_arrives_51 ?_
            refine lv_bipush (v := 25) hx hb dX12_arrives_54 (by decide) ?_
            refine lv_aload_n hx hb dX12_arrives_56 rfl (lv_at hl 0 rfl) ?_
            refine gt_X12 hx hb hts hown hK hP 0 (hW_w_4.o tM_0) 41 (by decide) wd_1442 rfl (hW_w_4.fr tM_0 rfl) dX12_arrives_57 ?_
            refine lv_iconst (v := 5) hx hb dX12_arrives_60 (by decide) ?_
            refine lv_iload_n hx hb dX12_arrives_61 rfl (lv_at hl 1 rfl) ?_
            refine lv_imul hx hb dX12_arrives_62 ?_
            refine va_iald hx hb hK hP 22 0 (hW_w_4.a tM_22) rfl (in_I ((In_mull (R_nlt_r (hW_w.fin tM_0 rfl : In 0 200 (fI w 0 37)) i_x24_1 c_1 (by decide) : In 1 200 x24_1) (n := 5) (by decide) (by decide)) : In 5 1000 (5 * x24_1)) (by decide)) dX12_arrives_63 ?_
            refine lv_topi (fun v_7 ev_7 => ?_)
            refine lv_imul hx hb dX12_arrives_64 ?_
            refine lv_aload_n hx hb dX12_arrives_65 rfl (lv_at hl 0 rfl) ?_
            refine gt_X12 hx hb hts hown hK hP 0 (hW_w_4.o tM_0) 41 (by decide) wd_1442 rfl (hW_w_4.fr tM_0 rfl) dX12_arrives_66 ?_
            refine lv_iconst (v := 5) hx hb dX12_arrives_69 (by decide) ?_
            refine lv_iload_n hx hb dX12_arrives_70 rfl (lv_at hl 1 rfl) ?_
            refine lv_imul hx hb dX12_arrives_71 ?_
            refine lv_iconst (v := 1) hx hb dX12_arrives_72 (by decide) ?_
            refine lv_iadd hx hb dX12_arrives_73 ?_
            refine va_iald hx hb hK hP 22 0 (hW_w_4.a tM_22) rfl (in_I ((In_add ((In_mull (R_nlt_r (hW_w.fin tM_0 rfl : In 0 200 (fI w 0 37)) i_x24_1 c_1 (by decide) : In 1 200 x24_1) (n := 5) (by decide) (by decide)) : In 5 1000 (5 * x24_1)) (In_lit (n := 1) (by decide) (by decide) : In 1 1 1) (by decide)) : In 6 1001 ((5 * x24_1) + 1)) (by decide)) dX12_arrives_74 ?_
            refine lv_topi (fun v_8 ev_8 => ?_)
            refine lv_iadd hx hb dX12_arrives_75 ?_
            refine lv_dup2_11 hx hb dX12_arrives_76 rfl rfl ?_
            refine va_iald hx hb hK hP 46 0 (hW_w_4.a tM_46) rfl (in_I ((In_add ((In_mull (In_of (ev_7.trans (congrFun ((hs_w_4.hA (by decide)).trans (hM_w24.hA (by decide))) _)) ((hLM x24_1 (R_nlt_r (hW_w.fin tM_0 rfl : In 0 200 (fI w 0 37)) i_x24_1 c_1 (by decide) : In 1 200 x24_1)).2 (((congrFun (hM_w24.hA (by decide)) _).symm.trans ev_2.symm).trans c_3)).1 : In 0 9 v_7) (n := 25) (by decide) (by decide)) : In 0 225 (25 * v_7)) (In_of (ev_8.trans (congrFun ((hs_w_4.hA (by decide)).trans (hM_w24.hA (by decide))) _)) ((hLM x24_1 (R_nlt_r (hW_w.fin tM_0 rfl : In 0 200 (fI w 0 37)) i_x24_1 c_1 (by decide) : In 1 200 x24_1)).2 (((congrFun (hM_w24.hA (by decide)) _).symm.trans ev_2.symm).trans c_3)).2 : In 0 24 v_8) (by decide)) : In 0 249 ((25 * v_7) + v_8)) (by decide)) dX12_arrives_77 ?_
            refine lv_topi (fun v_9 ev_9 => ?_)
            refine lv_aload_n hx hb dX12_arrives_78 rfl (lv_at hl 0 rfl) ?_
            refine gt_X12 hx hb hts hown hK hP 0 (hW_w_4.o tM_0) 41 (by decide) wd_1442 rfl (hW_w_4.fr tM_0 rfl) dX12_arrives_79 ?_
            refine lv_iconst (v := 5) hx hb dX12_arrives_82 (by decide) ?_
            refine lv_iload_n hx hb dX12_arrives_83 rfl (lv_at hl 1 rfl) ?_
            refine lv_imul hx hb dX12_arrives_84 ?_
            refine lv_iconst (v := 2) hx hb dX12_arrives_85 (by decide) ?_
            refine lv_iadd hx hb dX12_arrives_86 ?_
            refine va_iald hx hb hK hP 22 0 (hW_w_4.a tM_22) rfl (in_I ((In_add ((In_mull (R_nlt_r (hW_w.fin tM_0 rfl : In 0 200 (fI w 0 37)) i_x24_1 c_1 (by decide) : In 1 200 x24_1) (n := 5) (by decide) (by decide)) : In 5 1000 (5 * x24_1)) (In_lit (n := 2) (by decide) (by decide) : In 2 2 2) (by decide)) : In 7 1002 ((5 * x24_1) + 2)) (by decide)) dX12_arrives_87 ?_
            refine lv_topi (fun v_10 ev_10 => ?_)
            refine lv_iadd hx hb dX12_arrives_88 ?_
            refine lv_topi (fun v_11 ev_11 => ?_)
            refine va_iast hx hb hK hP hD hS 46 0 (hW_w_4.a tM_46) rfl (in_I ((In_add ((In_mull (In_of (ev_7.trans (congrFun ((hs_w_4.hA (by decide)).trans (hM_w24.hA (by decide))) _)) ((hLM x24_1 (R_nlt_r (hW_w.fin tM_0 rfl : In 0 200 (fI w 0 37)) i_x24_1 c_1 (by decide) : In 1 200 x24_1)).2 (((congrFun (hM_w24.hA (by decide)) _).symm.trans ev_2.symm).trans c_3)).1 : In 0 9 v_7) (n := 25) (by decide) (by decide)) : In 0 225 (25 * v_7)) (In_of (ev_8.trans (congrFun ((hs_w_4.hA (by decide)).trans (hM_w24.hA (by decide))) _)) ((hLM x24_1 (R_nlt_r (hW_w.fin tM_0 rfl : In 0 200 (fI w 0 37)) i_x24_1 c_1 (by decide) : In 1 200 x24_1)).2 (((congrFun (hM_w24.hA (by decide)) _).symm.trans ev_2.symm).trans c_3)).2 : In 0 24 v_8) (by decide)) : In 0 249 ((25 * v_7) + v_8)) (by decide)) dX12_arrives_89 (fun H locs hP hD hS => fr_w (hW_w_4.uA tM_46 (In_any v_11)) hP hD (fun w_12 ew_12 hW_w_12 hP hD => ?_))
            exact J90 w_12 _ _ ls hW_w_12 ((hM_w24.tr hs_w_4 (by decide)).sa ew_12 (by decide)) (R_nlt_r (hW_w.fin tM_0 rfl : In 0 200 (fI w 0 37)) i_x24_1 c_1 (by decide) : In 1 200 x24_1) (In_of ((fI_cg (st_ne ew_12 (by decide))).trans ((hs_w_4.gI (by decide)).trans (hM_w24.gI (by decide)))) (R_nlt_l (hW_w.fin tM_0 rfl : In 0 200 (fI w 0 37)) i_x24_1 c_1 (by decide) : In 1 200 (fI w 0 37))) hP hD hS (lv_sub hl [0, 1] rfl)
  have J2 : ∀ (N : Nat) (x2_1 : Int32) (w2 : va_W) (H : Heap) (locs : List Loc) (ls : Array Slot), (250 - x2_1.toInt).toNat < N → HT q (TM q cI cJ cZ) w2 → Sm [46] [] w w2 → (In 0 250 x2_1) → va_P D vwCl w2 H → va_D A w2 → va_S A s.heap H locs → lv_has ls 2 [(0, .ref (q 0)), (1, .int x2_1)] → W p l e R s m args below meth c H locs 0 0 Q (F0 m 2 ls []) := by
    intro N
    induction N with
    | zero => intro x2_1 w2 H locs ls hmu; exact absurd hmu (Nat.not_lt_zero _)
    | succ N ih2 =>
      intro x2_1 w2 H locs ls hmu2 hW_w2 hM_w2 i_x2_1 hP hD hS hl
      refine lv_iload_n hx hb dX12_arrives_2 rfl (lv_at hl 1 rfl) ?_
      refine lv_sipush (v := 250) hx hb dX12_arrives_3 (by decide) ?_
      refine lv_icmp_ge (tgt := 22) hx hb dX12_arrives_6 (by decide) (fun c_13 => ?_) (fun c_13 => ?_)
      · refine lv_iconst (v := 1) hx hb dX12_arrives_22 (by decide) ?_
        refine lv_istore_n (lv' := [(1, .int 1), (0, .ref (q 0))]) hx hb dX12_arrives_23 rfl hl (by decide) rfl (fun ls hl => ?_)
        exact J24 _ 1 w2 _ _ ls (Nat.lt_succ_self _) hW_w2 hM_w2 (In_lit (n := 1) (by decide) (by decide) : In 1 201 1) hP hD hS (lv_sub hl [1, 0] rfl)
      · refine lv_aload_n hx hb dX12_arrives_9 rfl (lv_at hl 0 rfl) ?_
        refine gt_X12 hx hb hts hown hK hP 0 (hW_w2.o tM_0) 67 (by decide) wd_1468 rfl (hW_w2.fr tM_0 rfl) dX12_arrives_10 ?_
        refine lv_iload_n hx hb dX12_arrives_13 rfl (lv_at hl 1 rfl) ?_
        refine lv_iconst (v := 0) hx hb dX12_arrives_14 (by decide) ?_
        refine va_iast hx hb hK hP hD hS 46 0 (hW_w2.a tM_46) rfl (in_I (R_nle_r (In_lit (n := 250) (by decide) (by decide) : In 250 250 250) i_x2_1 c_13 (by decide) : In 0 249 x2_1) (by decide)) dX12_arrives_15 (fun H locs hP hD hS => fr_w (hW_w2.uA tM_46 (In_lit (n := 0) (by decide) (by decide) : In (-2147483648) 2147483647 0)) hP hD (fun w_14 ew_14 hW_w_14 hP hD => ?_))
        refine lv_iinc (v := (x2_1 + 1)) (lv' := [(1, .int (x2_1 + 1)), (0, .ref (q 0))]) hx hb dX12_arrives_16 hl (k := 1) rfl (rfl) (by decide) rfl (fun ls hl => ?_)
        refine lv_goto (tgt := 2) hx hb dX12_arrives_19 (by decide) ?_
        exact ih2 (x2_1 + 1) w_14 _ _ ls (mu_inc hmu2 (R_nle_r (In_lit (n := 250) (by decide) (by decide) : In 250 250 250) i_x2_1 c_13 (by decide) : In 0 249 x2_1) (In_lit (n := 1) (by decide) (by decide) : In 1 1 1) (by decide)) hW_w_14 (hM_w2.sa ew_14 (by decide)) (In_w ((In_add (y := 1) (R_nle_r (In_lit (n := 250) (by decide) (by decide) : In 250 250 250) i_x2_1 c_13 (by decide) : In 0 249 x2_1) (In_lit (n := 1) (by decide) (by decide) : In 1 1 1) (by decide)) : In 1 250 (x2_1 + 1)) (by decide) : In 0 250 (x2_1 + 1)) hP hD hS (lv_sub hl [1, 0] rfl)
  refine lv_iconst (v := 0) hx hb dX12_arrives_0 (by decide) ?_
  refine lv_istore_n (lv' := [(1, .int 0), (0, .ref (q 0))]) hx hb dX12_arrives_1 rfl hl (by decide) rfl (fun ls hl => ?_)
  exact J2 _ 0 w _ _ ls (Nat.lt_succ_self _) hW_w Sm.rf (In_lit (n := 0) (by decide) (by decide) : In 0 250 0) hP hD hS (lv_sub hl [1, 0] rfl)
set_option maxRecDepth 100000 in
set_option maxHeartbeats 8000000 in
theorem k_X12_lane (l : Launch) (D : va_G) (cI cJ cZ : ClassId) (q : Nat → Nat) (w : va_W) (hW_w : HT q (TM q cI cJ cZ) w) (p1 : Int32) (p2 : Int32) (p3 : Int32) (p4 : Int64) (i_p1 : In 0 282 p1) (i_p2 : In 1 282 p2) (hf_0_62 : In 0 2198 (fI w 0 62)) : Con_i l yX12_lane cX12_lane 6 (some .int) ({ frames := 0, cells := 0, slots := 0, locals := 0 }) D cI cJ cZ eW [.ref (q 0), .int p1, .int p2, .int p3, .long p4] w (fun (r : Int32) (w1 : va_W) => HT q (TM q cI cJ cZ) w1 ∧ Sm [0, 38, 39, 40, 41] [(0, 62)] w w1 ∧ In 0 2198 r ∧ In 2 2200 (fI w1 0 62) ∧ ((fI w1 0 62).toInt = (fI w 0 62).toInt + 2)) := by
  refine eQ_i rfl (by decide) (Nat.le_of_ble_eq_true rfl) ⟨rfl, rfl⟩ ?_
  intro p e R s m args below meth c A Q hx hb hml hown hts hK hE hA hR hret hP hD hS ls hl
  have hown : s.vm.findClass RX12 = some m.cls := hown
  have hl : lv_has ls 6 [(0, .ref (q 0)), (1, .int p1), (2, .int p2), (3, .int p3), (4, .long p4)] := hl
  refine lv_aload_n hx hb dX12_lane_0 rfl (lv_at hl 0 rfl) ?_
  refine gt_X12 hx hb hts hown hK hP 0 (hW_w.o tM_0) 58 (by decide) wd_1459 rfl (hW_w.fr tM_0 rfl) dX12_lane_1 ?_
  refine lv_aload_n hx hb dX12_lane_4 rfl (lv_at hl 0 rfl) ?_
  refine gt_X12 hx hb hts hown hK hP 0 (hW_w.o tM_0) 62 (by decide) wd_1463 rfl (hW_w.fi tM_0 rfl) dX12_lane_5 ?_
  refine lv_iload_n hx hb dX12_lane_8 rfl (lv_at hl 1 rfl) ?_
  refine va_iast hx hb hK hP hD hS 38 0 (hW_w.a tM_38) rfl (in_I hf_0_62 (by decide)) dX12_lane_9 (fun H locs hP hD hS => fr_w (hW_w.uA tM_38 (In_w i_p1 (by decide) : In 0 289 p1)) hP hD (fun w_1 ew_1 hW_w_1 hP hD => ?_))
  refine lv_aload_n hx hb dX12_lane_10 rfl (lv_at hl 0 rfl) ?_
  refine gt_X12 hx hb hts hown hK hP 0 (hW_w_1.o tM_0) 59 (by decide) wd_1460 rfl (hW_w_1.fr tM_0 rfl) dX12_lane_11 ?_
  refine lv_aload_n hx hb dX12_lane_14 rfl (lv_at hl 0 rfl) ?_
  refine gt_X12 hx hb hts hown hK hP 0 (hW_w_1.o tM_0) 62 (by decide) wd_1463 rfl (hW_w_1.fi tM_0 rfl) dX12_lane_15 ?_
  refine tov (v := (fI w 0 62)) (fI_cg (st_ne ew_1 (by decide))) ?_
  refine lv_iload_n hx hb dX12_lane_18 rfl (lv_at hl 2 rfl) ?_
  refine va_iast hx hb hK hP hD hS 39 0 (hW_w_1.a tM_39) rfl (in_I hf_0_62 (by decide)) dX12_lane_19 (fun H locs hP hD hS => fr_w (hW_w_1.uA tM_39 (In_w i_p2 (by decide) : In 0 289 p2)) hP hD (fun w_2 ew_2 hW_w_2 hP hD => ?_))
  refine lv_aload_n hx hb dX12_lane_20 rfl (lv_at hl 0 rfl) ?_
  refine gt_X12 hx hb hts hown hK hP 0 (hW_w_2.o tM_0) 60 (by decide) wd_1461 rfl (hW_w_2.fr tM_0 rfl) dX12_lane_21 ?_
  refine lv_aload_n hx hb dX12_lane_24 rfl (lv_at hl 0 rfl) ?_
  refine gt_X12 hx hb hts hown hK hP 0 (hW_w_2.o tM_0) 62 (by decide) wd_1463 rfl (hW_w_2.fi tM_0 rfl) dX12_lane_25 ?_
  refine tov (v := (fI w 0 62)) ((fI_cg (st_ne ew_2 (by decide))).trans (fI_cg (st_ne ew_1 (by decide)))) ?_
  refine lv_iload_n hx hb dX12_lane_28 rfl (lv_at hl 3 rfl) ?_
  refine va_iast hx hb hK hP hD hS 40 0 (hW_w_2.a tM_40) rfl (in_I hf_0_62 (by decide)) dX12_lane_29 (fun H locs hP hD hS => fr_w (hW_w_2.uA tM_40 (In_any p3)) hP hD (fun w_3 ew_3 hW_w_3 hP hD => ?_))
  refine lv_aload_n hx hb dX12_lane_30 rfl (lv_at hl 0 rfl) ?_
  refine gt_X12 hx hb hts hown hK hP 0 (hW_w_3.o tM_0) 61 (by decide) wd_1462 rfl (hW_w_3.fr tM_0 rfl) dX12_lane_31 ?_
  refine lv_aload_n hx hb dX12_lane_34 rfl (lv_at hl 0 rfl) ?_
  refine gt_X12 hx hb hts hown hK hP 0 (hW_w_3.o tM_0) 62 (by decide) wd_1463 rfl (hW_w_3.fi tM_0 rfl) dX12_lane_35 ?_
  refine tov (v := (fI w 0 62)) ((fI_cg (st_ne ew_3 (by decide))).trans ((fI_cg (st_ne ew_2 (by decide))).trans (fI_cg (st_ne ew_1 (by decide))))) ?_
  refine lv_lload hx hb dX12_lane_38 (lv_at hl 4 rfl) ?_
  refine va_last hx hb hK hP hD hS 41 1 (hW_w_3.al tM_41) rfl (in_I hf_0_62 (by decide)) dX12_lane_40 (fun H locs hP hD hS => fr_w (hW_w_3.uL tM_41) hP hD (fun w_4 ew_4 hW_w_4 hP hD => ?_))
  refine lv_aload_n hx hb dX12_lane_41 rfl (lv_at hl 0 rfl) ?_
  refine gt_X12 hx hb hts hown hK hP 0 (hW_w_4.o tM_0) 58 (by decide) wd_1459 rfl (hW_w_4.fr tM_0 rfl) dX12_lane_42 ?_
  refine lv_aload_n hx hb dX12_lane_45 rfl (lv_at hl 0 rfl) ?_
  refine gt_X12 hx hb hts hown hK hP 0 (hW_w_4.o tM_0) 62 (by decide) wd_1463 rfl (hW_w_4.fi tM_0 rfl) dX12_lane_46 ?_
  refine tov (v := (fI w 0 62)) ((fI_cg (st_ne ew_4 (by decide))).trans ((fI_cg (st_ne ew_3 (by decide))).trans ((fI_cg (st_ne ew_2 (by decide))).trans (fI_cg (st_ne ew_1 (by decide)))))) ?_
  refine lv_iconst (v := 1) hx hb dX12_lane_49 (by decide) ?_
  refine lv_iadd hx hb dX12_lane_50 ?_
  refine lv_iload_n hx hb dX12_lane_51 rfl (lv_at hl 2 rfl) ?_
  refine va_iast hx hb hK hP hD hS 38 0 (hW_w_4.a tM_38) rfl (in_I ((In_add hf_0_62 (In_lit (n := 1) (by decide) (by decide) : In 1 1 1) (by decide)) : In 1 2199 ((fI w 0 62) + 1)) (by decide)) dX12_lane_52 (fun H locs hP hD hS => fr_w (hW_w_4.uA tM_38 (In_w i_p2 (by decide) : In 0 289 p2)) hP hD (fun w_5 ew_5 hW_w_5 hP hD => ?_))
  refine lv_aload_n hx hb dX12_lane_53 rfl (lv_at hl 0 rfl) ?_
  refine gt_X12 hx hb hts hown hK hP 0 (hW_w_5.o tM_0) 59 (by decide) wd_1460 rfl (hW_w_5.fr tM_0 rfl) dX12_lane_54 ?_
  refine lv_aload_n hx hb dX12_lane_57 rfl (lv_at hl 0 rfl) ?_
  refine gt_X12 hx hb hts hown hK hP 0 (hW_w_5.o tM_0) 62 (by decide) wd_1463 rfl (hW_w_5.fi tM_0 rfl) dX12_lane_58 ?_
  refine tov (v := (fI w 0 62)) ((fI_cg (st_ne ew_5 (by decide))).trans ((fI_cg (st_ne ew_4 (by decide))).trans ((fI_cg (st_ne ew_3 (by decide))).trans ((fI_cg (st_ne ew_2 (by decide))).trans (fI_cg (st_ne ew_1 (by decide))))))) ?_
  refine lv_iconst (v := 1) hx hb dX12_lane_61 (by decide) ?_
  refine lv_iadd hx hb dX12_lane_62 ?_
  refine lv_iload_n hx hb dX12_lane_63 rfl (lv_at hl 1 rfl) ?_
  refine va_iast hx hb hK hP hD hS 39 0 (hW_w_5.a tM_39) rfl (in_I ((In_add hf_0_62 (In_lit (n := 1) (by decide) (by decide) : In 1 1 1) (by decide)) : In 1 2199 ((fI w 0 62) + 1)) (by decide)) dX12_lane_64 (fun H locs hP hD hS => fr_w (hW_w_5.uA tM_39 (In_w i_p1 (by decide) : In 0 289 p1)) hP hD (fun w_6 ew_6 hW_w_6 hP hD => ?_))
  refine lv_aload_n hx hb dX12_lane_65 rfl (lv_at hl 0 rfl) ?_
  refine gt_X12 hx hb hts hown hK hP 0 (hW_w_6.o tM_0) 60 (by decide) wd_1461 rfl (hW_w_6.fr tM_0 rfl) dX12_lane_66 ?_
  refine lv_aload_n hx hb dX12_lane_69 rfl (lv_at hl 0 rfl) ?_
  refine gt_X12 hx hb hts hown hK hP 0 (hW_w_6.o tM_0) 62 (by decide) wd_1463 rfl (hW_w_6.fi tM_0 rfl) dX12_lane_70 ?_
  refine tov (v := (fI w 0 62)) ((fI_cg (st_ne ew_6 (by decide))).trans ((fI_cg (st_ne ew_5 (by decide))).trans ((fI_cg (st_ne ew_4 (by decide))).trans ((fI_cg (st_ne ew_3 (by decide))).trans ((fI_cg (st_ne ew_2 (by decide))).trans (fI_cg (st_ne ew_1 (by decide)))))))) ?_
  refine lv_iconst (v := 1) hx hb dX12_lane_73 (by decide) ?_
  refine lv_iadd hx hb dX12_lane_74 ?_
  refine lv_iconst (v := 0) hx hb dX12_lane_75 (by decide) ?_
  refine va_iast hx hb hK hP hD hS 40 0 (hW_w_6.a tM_40) rfl (in_I ((In_add hf_0_62 (In_lit (n := 1) (by decide) (by decide) : In 1 1 1) (by decide)) : In 1 2199 ((fI w 0 62) + 1)) (by decide)) dX12_lane_76 (fun H locs hP hD hS => fr_w (hW_w_6.uA tM_40 (In_lit (n := 0) (by decide) (by decide) : In (-2147483648) 2147483647 0)) hP hD (fun w_7 ew_7 hW_w_7 hP hD => ?_))
  refine lv_aload_n hx hb dX12_lane_77 rfl (lv_at hl 0 rfl) ?_
  refine gt_X12 hx hb hts hown hK hP 0 (hW_w_7.o tM_0) 61 (by decide) wd_1462 rfl (hW_w_7.fr tM_0 rfl) dX12_lane_78 ?_
  refine lv_aload_n hx hb dX12_lane_81 rfl (lv_at hl 0 rfl) ?_
  refine gt_X12 hx hb hts hown hK hP 0 (hW_w_7.o tM_0) 62 (by decide) wd_1463 rfl (hW_w_7.fi tM_0 rfl) dX12_lane_82 ?_
  refine tov (v := (fI w 0 62)) ((fI_cg (st_ne ew_7 (by decide))).trans ((fI_cg (st_ne ew_6 (by decide))).trans ((fI_cg (st_ne ew_5 (by decide))).trans ((fI_cg (st_ne ew_4 (by decide))).trans ((fI_cg (st_ne ew_3 (by decide))).trans ((fI_cg (st_ne ew_2 (by decide))).trans (fI_cg (st_ne ew_1 (by decide))))))))) ?_
  refine lv_iconst (v := 1) hx hb dX12_lane_85 (by decide) ?_
  refine lv_iadd hx hb dX12_lane_86 ?_
  refine lv_lload hx hb dX12_lane_87 (lv_at hl 4 rfl) ?_
  refine lv_lneg hx hb dX12_lane_89 ?_
  refine lv_topl (fun v_8 ev_8 => ?_)
  refine va_last hx hb hK hP hD hS 41 1 (hW_w_7.al tM_41) rfl (in_I ((In_add hf_0_62 (In_lit (n := 1) (by decide) (by decide) : In 1 1 1) (by decide)) : In 1 2199 ((fI w 0 62) + 1)) (by decide)) dX12_lane_90 (fun H locs hP hD hS => fr_w (hW_w_7.uL tM_41) hP hD (fun w_9 ew_9 hW_w_9 hP hD => ?_))
  refine lv_aload_n hx hb dX12_lane_91 rfl (lv_at hl 0 rfl) ?_
  refine lv_dup hx hb dX12_lane_92 rfl ?_
  refine gt_X12 hx hb hts hown hK hP 0 (hW_w_9.o tM_0) 62 (by decide) wd_1463 rfl (hW_w_9.fi tM_0 rfl) dX12_lane_93 ?_
  refine tov (v := (fI w 0 62)) ((fI_cg (st_ne ew_9 (by decide))).trans ((fI_cg (st_ne ew_7 (by decide))).trans ((fI_cg (st_ne ew_6 (by decide))).trans ((fI_cg (st_ne ew_5 (by decide))).trans ((fI_cg (st_ne ew_4 (by decide))).trans ((fI_cg (st_ne ew_3 (by decide))).trans ((fI_cg (st_ne ew_2 (by decide))).trans (fI_cg (st_ne ew_1 (by decide)))))))))) ?_
  refine lv_iconst (v := 2) hx hb dX12_lane_96 (by decide) ?_
  refine lv_iadd hx hb dX12_lane_97 ?_
  refine pt_X12 hx hb hts hown hK hP hD hS 0 (hW_w_9.o tM_0) 62 (by decide) wd_1463 rfl rfl (ty := .int) (v := .int ((fI w 0 62) + 2)) (by decide +kernel) rfl rfl (hW_w_9.ll tM_0 (Nat.le_of_ble_eq_true rfl)) dX12_lane_98 (fun H locs hP hD hS => fr_w (hW_w_9.sI tM_0 rfl (In_w ((In_add hf_0_62 (In_lit (n := 2) (by decide) (by decide) : In 2 2 2) (by decide)) : In 2 2200 ((fI w 0 62) + 2)) (by decide) : In 0 2200 ((fI w 0 62) + 2))) hP hD (fun w_10 ew_10 hW_w_10 hP hD => ?_))
  refine lv_aload_n hx hb dX12_lane_101 rfl (lv_at hl 0 rfl) ?_
  refine gt_X12 hx hb hts hown hK hP 0 (hW_w_10.o tM_0) 62 (by decide) wd_1463 rfl (hW_w_10.fi tM_0 rfl) dX12_lane_102 ?_
  refine tov (v := ((fI w 0 62) + 2)) (fI_eq (hW_w_9.lt tM_0) ew_10 (hW_w_9.ll tM_0 (Nat.le_of_ble_eq_true rfl))) ?_
  refine lv_iconst (v := 2) hx hb dX12_lane_105 (by decide) ?_
  refine lv_isub hx hb dX12_lane_106 ?_
  exact hret _ _ _ _ _ _ hP hD hS dX12_lane_107 ⟨hW_w_10, (((((((((Sm.rf.sa ew_1 (by decide)).sa ew_2 (by decide)).sa ew_3 (by decide)).sa ew_4 (by decide)).sa ew_5 (by decide)).sa ew_6 (by decide)).sa ew_7 (by decide)).sa ew_9 (by decide)).sf (hW_w_9.lt tM_0) ew_10 (by decide)), ((In_sub ((In_add hf_0_62 (In_lit (n := 2) (by decide) (by decide) : In 2 2 2) (by decide)) : In 2 2200 ((fI w 0 62) + 2)) (In_lit (n := 2) (by decide) (by decide) : In 2 2 2) (by decide)) : In 0 2198 (((fI w 0 62) + 2) - 2)), (In_of (fI_eq (hW_w_9.lt tM_0) ew_10 (hW_w_9.ll tM_0 (Nat.le_of_ble_eq_true rfl))) ((In_add hf_0_62 (In_lit (n := 2) (by decide) (by decide) : In 2 2 2) (by decide)) : In 2 2200 ((fI w 0 62) + 2))), (by have e0_62 : (fI w_10 0 62).toInt = (((fI w 0 62) + 2) : Int32).toInt := congrArg Int32.toInt (fI_eq (hW_w_9.lt tM_0) ew_10 (hW_w_9.ll tM_0 (Nat.le_of_ble_eq_true rfl))); have i0_62 := ((In_add hf_0_62 (In_lit (n := 2) (by decide) (by decide) : In 2 2 2) (by decide)) : In 2 2200 ((fI w 0 62) + 2)); unfold In at i0_62; have t17 := t_add hf_0_62 (In_lit (n := 2) (by decide) (by decide) : In 2 2 2) (by decide); have z2 : (2 : Int32).toInt = 2 := (by decide); omega)⟩
set_option maxRecDepth 100000 in
set_option maxHeartbeats 8000000 in
theorem k_X12_bits (l : Launch) (D : va_G) (cI cJ cZ : ClassId) (q : Nat → Nat) (w : va_W) (hW_w : HT q (TM q cI cJ cZ) w) (p0 : Int32) (hf_0_69 : In 1 40 (fI w 0 69)) : Con_i l yX12_bits cX12_bits 3 (some .int) ({ frames := 0, cells := 0, slots := 0, locals := 0 }) D cI cJ cZ eW [.int p0] w (fun (r : Int32) (w1 : va_W) => HT q (TM q cI cJ cZ) w1 ∧ Sm [] [] w w1) := by
  refine eQ_i rfl (by decide) (Nat.le_of_ble_eq_true rfl) ⟨rfl, rfl⟩ ?_
  intro p e R s m args below meth c A Q hx hb hml hown hts hK hE hA hR hret hP hD hS ls hl
  have hown : s.vm.findClass RX12 = some m.cls := hown
  have hl : lv_has ls 3 [(0, .int p0)] := hl
  have J4 : ∀ (N : Nat) (x4_1 : Int32) (x4_2 : Int32) (w4 : va_W) (H : Heap) (locs : List Loc) (ls : Array Slot), (10 - x4_2.toInt).toNat < N → HT q (TM q cI cJ cZ) w4 → Sm [] [] w w4 → (In 0 10 x4_2) → (In 1 40 (fI w4 0 69)) → va_P D vwCl w4 H → va_D A w4 → va_S A s.heap H locs → lv_has ls 3 [(0, .int p0), (1, .int x4_1), (2, .int x4_2)] → W p l e R s m args below meth c H locs 0 0 Q (F0 m 4 ls []) := by
    intro N
    induction N with
    | zero => intro x4_1 x4_2 w4 H locs ls hmu; exact absurd hmu (Nat.not_lt_zero _)
    | succ N ih4 =>
      intro x4_1 x4_2 w4 H locs ls hmu4 hW_w4 hM_w4 i_x4_2 g4_0_69 hP hD hS hl
      refine lv_iload_n hx hb dX12_bits_4 rfl (lv_at hl 2 rfl) ?_
      refine lv_bipush (v := 10) hx hb dX12_bits_5 (by decide) ?_
      refine lv_icmp_ge (tgt := 24) hx hb dX12_bits_7 (by decide) (fun c_1 => ?_) (fun c_1 => ?_)
      · refine lv_iload_n hx hb dX12_bits_24 rfl (lv_at hl 1 rfl) ?_
        exact hret _ _ _ _ _ _ hP hD hS dX12_bits_25 ⟨hW_w4, hM_w4⟩
      · refine lv_iload_n hx hb dX12_bits_10 rfl (lv_at hl 1 rfl) ?_
        refine lv_iload_n hx hb dX12_bits_11 rfl (lv_at hl 0 rfl) ?_
        refine lv_iload_n hx hb dX12_bits_12 rfl (lv_at hl 2 rfl) ?_
        refine lv_ishr hx hb dX12_bits_13 ?_
        refine lv_topi (fun v_2 ev_2 => ?_)
        refine lv_iconst (v := 1) hx hb dX12_bits_14 (by decide) ?_
        refine lv_iand hx hb dX12_bits_15 ?_
        refine lv_iadd hx hb dX12_bits_16 ?_
        refine lv_topi (fun v_3 ev_3 => ?_)
        refine lv_istore_n (lv' := [(1, .int v_3), (0, .int p0), (2, .int x4_2)]) hx hb dX12_bits_17 rfl hl (by decide) rfl (fun ls hl => ?_)
        refine lv_iinc (v := (x4_2 + 1)) (lv' := [(2, .int (x4_2 + 1)), (1, .int v_3), (0, .int p0)]) hx hb dX12_bits_18 hl (k := 2) rfl (rfl) (by decide) rfl (fun ls hl => ?_)
        refine lv_goto (tgt := 4) hx hb dX12_bits_21 (by decide) ?_
        exact ih4 v_3 (x4_2 + 1) w4 _ _ ls (mu_inc hmu4 (R_nle_r (In_lit (n := 10) (by decide) (by decide) : In 10 10 10) i_x4_2 c_1 (by decide) : In 0 9 x4_2) (In_lit (n := 1) (by decide) (by decide) : In 1 1 1) (by decide)) hW_w4 hM_w4 (In_w ((In_add (y := 1) (R_nle_r (In_lit (n := 10) (by decide) (by decide) : In 10 10 10) i_x4_2 c_1 (by decide) : In 0 9 x4_2) (In_lit (n := 1) (by decide) (by decide) : In 1 1 1) (by decide)) : In 1 10 (x4_2 + 1)) (by decide) : In 0 10 (x4_2 + 1)) (In_of (hM_w4.gI (by decide)) (In_of (hM_w4.gI (by decide)).symm g4_0_69)) hP hD hS (lv_sub hl [2, 1, 0] rfl)
  refine lv_iconst (v := 0) hx hb dX12_bits_0 (by decide) ?_
  refine lv_istore_n (lv' := [(1, .int 0), (0, .int p0)]) hx hb dX12_bits_1 rfl hl (by decide) rfl (fun ls hl => ?_)
  refine lv_iconst (v := 0) hx hb dX12_bits_2 (by decide) ?_
  refine lv_istore_n (lv' := [(2, .int 0), (1, .int 0), (0, .int p0)]) hx hb dX12_bits_3 rfl hl (by decide) rfl (fun ls hl => ?_)
  exact J4 _ 0 0 w _ _ ls (Nat.lt_succ_self _) hW_w Sm.rf (In_lit (n := 0) (by decide) (by decide) : In 0 10 0) hf_0_69 hP hD hS (lv_sub hl [2, 1, 0] rfl)
