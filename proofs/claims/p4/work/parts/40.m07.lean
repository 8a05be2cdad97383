set_option maxRecDepth 100000 in
set_option maxHeartbeats 8000000 in
theorem k_X12_given (l : Launch) (D : va_G) (cI cJ cZ : ClassId) (q : Nat → Nat) (w : va_W) (hW_w : HT q (TM q cI cJ cZ) w) (p1 : Int32) : Con_i l yX12_given cX12_given 4 (some .int) ({ frames := 1, cells := 0, slots := 0, locals := 22 }) D cI cJ cZ eW [.ref (q 0), .int p1] w (fun (r : Int32) (w1 : va_W) => HT q (TM q cI cJ cZ) w1 ∧ Sm [] [] w w1) := by
  refine eQ_i rfl (by decide) (Nat.le_of_ble_eq_true rfl) ⟨rfl, rfl⟩ ?_
  intro p e R s m args below meth c A Q hx hb hml hown hts hK hE hA hR hret hP hD hS ls hl
  have hown : s.vm.findClass RX12 = some m.cls := hown
  have hl : lv_has ls 4 [(0, .ref (q 0)), (1, .int p1)] := hl
  have J51 : ∀ (N : Nat) (x51_2 : Int32) (x51_3 : Int32) (w51 : va_W) (H : Heap) (locs : List Loc) (ls : Array Slot), (40 - x51_3.toInt).toNat < N → HT q (TM q cI cJ cZ) w51 → Sm [] [] w w51 → (In 0 40 x51_3) → (In 1 1 (fI w51 0 68)) → va_P D vwCl w51 H → va_D A w51 → va_S A s.heap H locs → lv_has ls 4 [(0, .ref (q 0)), (1, .int p1), (2, .int x51_2), (3, .int x51_3)] → W p l e R s m args below meth c H locs 0 0 Q (F0 m 51 ls []) := by
    intro N
    induction N with
    | zero => intro x51_2 x51_3 w51 H locs ls hmu; exact absurd hmu (Nat.not_lt_zero _)
    | succ N ih51 =>
      intro x51_2 x51_3 w51 H locs ls hmu51 hW_w51 hM_w51 i_x51_3 g51_0_68 hP hD hS hl
      have J83 : ∀ (y83_0 : Int32) (w83 : va_W) (H : Heap) (locs : List Loc) (ls : Array Slot), HT q (TM q cI cJ cZ) w83 → Sm [] [] w w83 → (In 0 39 x51_3) → (In 0 1 y83_0) → (In 1 1 (fI w83 0 68)) → (In 1 40 (fI w83 0 69)) → va_P D vwCl w83 H → va_D A w83 → va_S A s.heap H locs → lv_has ls 4 [(0, .ref (q 0)), (1, .int p1), (2, .int x51_2), (3, .int x51_3)] → W p l e R s m args below meth c H locs 0 0 Q (F0 m 83 ls [.int y83_0, .int x51_2]) := by
        intro y83_0 w83 H locs ls hW_w83 hM_w83 i_x83_3 i_y83_0 g83_0_68 g83_0_69 hP hD hS hl
        refine lv_iadd hx hb dX12_given_83 ?_
        refine lv_topi (fun v_1 ev_1 => ?_)
        refine lv_istore_n (lv' := [(2, .int v_1), (0, .ref (q 0)), (1, .int p1), (3, .int x51_3)]) hx hb dX12_given_84 rfl hl (by decide) rfl (fun ls hl => ?_)
        refine lv_iinc (v := (x51_3 + 1)) (lv' := [(3, .int (x51_3 + 1)), (2, .int v_1), (0, .ref (q 0)), (1, .int p1)]) hx hb dX12_given_85 hl (k := 3) rfl (rfl) (by decide) rfl (fun ls hl => ?_)
        refine lv_goto (tgt := 51) hx hb dX12_given_88 (by decide) ?_
        exact ih51 v_1 (x51_3 + 1) w83 _ _ ls (mu_inc hmu51 i_x83_3 (In_lit (n := 1) (by decide) (by decide) : In 1 1 1) (by decide)) hW_w83 hM_w83 (In_w ((In_add (y := 1) i_x83_3 (In_lit (n := 1) (by decide) (by decide) : In 1 1 1) (by decide)) : In 1 40 (x51_3 + 1)) (by decide) : In 0 40 (x51_3 + 1)) (In_of (hM_w83.gI (by decide)) (In_of (hM_w83.gI (by decide)).symm g83_0_68)) hP hD hS (lv_sub hl [2, 3, 1, 0] rfl)
      refine lv_iload_n hx hb dX12_given_51 rfl (lv_at hl 3 rfl) ?_
      refine lv_aload_n hx hb dX12_given_52 rfl (lv_at hl 0 rfl) ?_
      refine gt_X12 hx hb hts hown hK hP 0 (hW_w51.o tM_0) 69 (by decide) wd_1470 rfl (hW_w51.fi tM_0 rfl) dX12_given_53 ?_
      refine tov (v := (fI w 0 69)) (hM_w51.gI (by decide)) ?_
      refine lv_icmp_ge (tgt := 91) hx hb dX12_given_56 (by decide) (fun c_2 => ?_) (fun c_2 => ?_)
      · refine lv_iload_n hx hb dX12_given_91 rfl (lv_at hl 2 rfl) ?_
        exact hret _ _ _ _ _ _ hP hD hS dX12_given_92 ⟨hW_w51, hM_w51⟩
      · refine lv_iload_n hx hb dX12_given_59 rfl (lv_at hl 2 rfl) ?_
        refine lv_aload_n hx hb dX12_given_60 rfl (lv_at hl 0 rfl) ?_
        refine gt_X12 hx hb hts hown hK hP 0 (hW_w51.o tM_0) 75 (by decide) wd_1476 rfl (hW_w51.fr tM_0 rfl) dX12_given_61 ?_
        refine lv_iload_n hx hb dX12_given_64 rfl (lv_at hl 3 rfl) ?_
        refine va_iald hx hb hK hP 52 0 (hW_w51.a tM_52) rfl (in_I (R_nle_r (hW_w.fin tM_0 rfl : In 0 40 (fI w 0 69)) i_x51_3 c_2 (by decide) : In 0 39 x51_3) (by decide)) dX12_given_65 ?_
        refine lv_topi (fun v_3 ev_3 => ?_)
        refine kW_i ⟨rfl, rfl⟩ hP hD hS hA (rW_S (As := [.int v_3]) (rest := [.int x51_2]) hx hb hml hown hts hK hE hP hD (k_X12_bits l D cI cJ cZ q w51 hW_w51 v_3 (In_of (hM_w51.gI (by decide)) (R_nle_l (hW_w.fin tM_0 rfl : In 0 40 (fI w 0 69)) i_x51_3 c_2 (by decide) : In 1 40 (fI w 0 69))) _) ⟨⟨rfl, rfl⟩, rfl, rfl⟩ sv_X12_544 ⟨(Nat.le_trans (by decide) hR.1), (Nat.le_trans (by decide) hR.2)⟩ rfl hl.1 rfl (Nat.le_of_ble_eq_true rfl) dX12_given_66) (fun r_5 w_4 H locs hw_w_4 hP hD hS => ?_)
        obtain ⟨hW_w_4, hs_w_4⟩ := hw_w_4
        refine lv_aload_n hx hb dX12_given_69 rfl (lv_at hl 0 rfl) ?_
        refine gt_X12 hx hb hts hown hK hP 0 (hW_w_4.o tM_0) 70 (by decide) wd_1471 rfl (hW_w_4.fr tM_0 rfl) dX12_given_70 ?_
        refine lv_iload_n hx hb dX12_given_73 rfl (lv_at hl 3 rfl) ?_
        refine va_iald hx hb hK hP 47 0 (hW_w_4.a tM_47) rfl (in_I (R_nle_r (hW_w.fin tM_0 rfl : In 0 40 (fI w 0 69)) i_x51_3 c_2 (by decide) : In 0 39 x51_3) (by decide)) dX12_given_74 ?_
        refine lv_topi (fun v_6 ev_6 => ?_)
        refine lv_icmp_lt (tgt := 82) hx hb dX12_given_75 (by decide) (fun c_7 => ?_) (fun c_7 => ?_)
        · refine lv_iconst (v := 0) hx hb dX12_given_82 (by decide) ?_
          exact J83 0 w_4 _ _ ls hW_w_4 (hM_w51.tr hs_w_4 (by decide)) (R_nle_r (hW_w.fin tM_0 rfl : In 0 40 (fI w 0 69)) i_x51_3 c_2 (by decide) : In 0 39 x51_3) (In_lit (n := 0) (by decide) (by decide) : In 0 1 0) (In_of ((hs_w_4.gI (by decide)).trans (hM_w51.gI (by decide))) (In_of (hM_w51.gI (by decide)).symm g51_0_68)) (In_of ((hs_w_4.gI (by decide)).trans (hM_w51.gI (by decide))) (R_nle_l (hW_w.fin tM_0 rfl : In 0 40 (fI w 0 69)) i_x51_3 c_2 (by decide) : In 1 40 (fI w 0 69))) hP hD hS (lv_sub hl [0, 1, 2, 3] rfl)
        · refine lv_iconst (v := 1) hx hb dX12_given_78 (by decide) ?_
          refine lv_goto (tgt := 83) hx hb dX12_given_79 (by decide) ?_
          exact J83 1 w_4 _ _ ls hW_w_4 (hM_w51.tr hs_w_4 (by decide)) (R_nle_r (hW_w.fin tM_0 rfl : In 0 40 (fI w 0 69)) i_x51_3 c_2 (by decide) : In 0 39 x51_3) (In_lit (n := 1) (by decide) (by decide) : In 0 1 1) (In_of ((hs_w_4.gI (by decide)).trans (hM_w51.gI (by decide))) (In_of (hM_w51.gI (by decide)).symm g51_0_68)) (In_of ((hs_w_4.gI (by decide)).trans (hM_w51.gI (by decide))) (R_nle_l (hW_w.fin tM_0 rfl : In 0 40 (fI w 0 69)) i_x51_3 c_2 (by decide) : In 1 40 (fI w 0 69))) hP hD hS (lv_sub hl [0, 1, 2, 3] rfl)
  have J95 : ∀ (N : Nat) (x95_2 : Int32) (x95_3 : Int32) (w95 : va_W) (H : Heap) (locs : List Loc) (ls : Array Slot), (40 - x95_3.toInt).toNat < N → HT q (TM q cI cJ cZ) w95 → Sm [] [] w w95 → (In 0 40 x95_3) → (In 1 1 (fI w95 0 68)) → va_P D vwCl w95 H → va_D A w95 → va_S A s.heap H locs → lv_has ls 4 [(0, .ref (q 0)), (1, .int p1), (2, .int x95_2), (3, .int x95_3)] → W p l e R s m args below meth c H locs 0 0 Q (F0 m 95 ls []) := by
    intro N
    induction N with
    | zero => intro x95_2 x95_3 w95 H locs ls hmu; exact absurd hmu (Nat.not_lt_zero _)
    | succ N ih95 =>
      intro x95_2 x95_3 w95 H locs ls hmu95 hW_w95 hM_w95 i_x95_3 g95_0_68 hP hD hS hl
      refine lv_iload_n hx hb dX12_given_95 rfl (lv_at hl 3 rfl) ?_
      refine lv_aload_n hx hb dX12_given_96 rfl (lv_at hl 0 rfl) ?_
      refine gt_X12 hx hb hts hown hK hP 0 (hW_w95.o tM_0) 69 (by decide) wd_1470 rfl (hW_w95.fi tM_0 rfl) dX12_given_97 ?_
      refine tov (v := (fI w 0 69)) (hM_w95.gI (by decide)) ?_
      refine lv_icmp_ge (tgt := 128) hx hb dX12_given_100 (by decide) (fun c_8 => ?_) (fun c_8 => ?_)
      · refine lv_iload_n hx hb dX12_given_128 rfl (lv_at hl 2 rfl) ?_
        exact hret _ _ _ _ _ _ hP hD hS dX12_given_129 ⟨hW_w95, hM_w95⟩
      · refine lv_iload_n hx hb dX12_given_103 rfl (lv_at hl 2 rfl) ?_
        refine lv_aload_n hx hb dX12_given_104 rfl (lv_at hl 0 rfl) ?_
        refine gt_X12 hx hb hts hown hK hP 0 (hW_w95.o tM_0) 70 (by decide) wd_1471 rfl (hW_w95.fr tM_0 rfl) dX12_given_105 ?_
        refine lv_iload_n hx hb dX12_given_108 rfl (lv_at hl 3 rfl) ?_
        refine va_iald hx hb hK hP 47 0 (hW_w95.a tM_47) rfl (in_I (R_nle_r (hW_w.fin tM_0 rfl : In 0 40 (fI w 0 69)) i_x95_3 c_8 (by decide) : In 0 39 x95_3) (by decide)) dX12_given_109 ?_
        refine lv_topi (fun v_9 ev_9 => ?_)
        refine lv_aload_n hx hb dX12_given_110 rfl (lv_at hl 0 rfl) ?_
        refine gt_X12 hx hb hts hown hK hP 0 (hW_w95.o tM_0) 75 (by decide) wd_1476 rfl (hW_w95.fr tM_0 rfl) dX12_given_111 ?_
        refine lv_iload_n hx hb dX12_given_114 rfl (lv_at hl 3 rfl) ?_
        refine va_iald hx hb hK hP 52 0 (hW_w95.a tM_52) rfl (in_I (R_nle_r (hW_w.fin tM_0 rfl : In 0 40 (fI w 0 69)) i_x95_3 c_8 (by decide) : In 0 39 x95_3) (by decide)) dX12_given_115 ?_
        refine lv_topi (fun v_10 ev_10 => ?_)
        refine kW_i ⟨rfl, rfl⟩ hP hD hS hA (rW_S (As := [.int v_10]) (rest := [.int v_9, .int x95_2]) hx hb hml hown hts hK hE hP hD (k_X12_bits l D cI cJ cZ q w95 hW_w95 v_10 (In_of (hM_w95.gI (by decide)) (R_nle_l (hW_w.fin tM_0 rfl : In 0 40 (fI w 0 69)) i_x95_3 c_8 (by decide) : In 1 40 (fI w 0 69))) _) ⟨⟨rfl, rfl⟩, rfl, rfl⟩ sv_X12_544 ⟨(Nat.le_trans (by decide) hR.1), (Nat.le_trans (by decide) hR.2)⟩ rfl hl.1 rfl (Nat.le_of_ble_eq_true rfl) dX12_given_116) (fun r_12 w_11 H locs hw_w_11 hP hD hS => ?_)
        obtain ⟨hW_w_11, hs_w_11⟩ := hw_w_11
        refine lv_isub hx hb dX12_given_119 ?_
        refine lv_topi (fun v_13 ev_13 => ?_)
        refine lv_iadd hx hb dX12_given_120 ?_
        refine lv_topi (fun v_14 ev_14 => ?_)
        refine lv_istore_n (lv' := [(2, .int v_14), (0, .ref (q 0)), (1, .int p1), (3, .int x95_3)]) hx hb dX12_given_121 rfl hl (by decide) rfl (fun ls hl => ?_)
        refine lv_iinc (v := (x95_3 + 1)) (lv' := [(3, .int (x95_3 + 1)), (2, .int v_14), (0, .ref (q 0)), (1, .int p1)]) hx hb dX12_given_122 hl (k := 3) rfl (rfl) (by decide) rfl (fun ls hl => ?_)
        refine lv_goto (tgt := 95) hx hb dX12_given_125 (by decide) ?_
        exact ih95 v_14 (x95_3 + 1) w_11 _ _ ls (mu_inc hmu95 (R_nle_r (hW_w.fin tM_0 rfl : In 0 40 (fI w 0 69)) i_x95_3 c_8 (by decide) : In 0 39 x95_3) (In_lit (n := 1) (by decide) (by decide) : In 1 1 1) (by decide)) hW_w_11 (hM_w95.tr hs_w_11 (by decide)) (In_w ((In_add (y := 1) (R_nle_r (hW_w.fin tM_0 rfl : In 0 40 (fI w 0 69)) i_x95_3 c_8 (by decide) : In 0 39 x95_3) (In_lit (n := 1) (by decide) (by decide) : In 1 1 1) (by decide)) : In 1 40 (x95_3 + 1)) (by decide) : In 0 40 (x95_3 + 1)) (In_of ((hs_w_11.gI (by decide)).trans (hM_w95.gI (by decide))) (In_of (hM_w95.gI (by decide)).symm g95_0_68)) hP hD hS (lv_sub hl [2, 3, 1, 0] rfl)
  have J132 : ∀ (N : Nat) (x132_2 : Int32) (x132_3 : Int32) (w132 : va_W) (H : Heap) (locs : List Loc) (ls : Array Slot), (10 - x132_3.toInt).toNat < N → HT q (TM q cI cJ cZ) w132 → Sm [] [] w w132 → (In 0 10 x132_3) → (In 1 1 (fI w132 0 68)) → va_P D vwCl w132 H → va_D A w132 → va_S A s.heap H locs → lv_has ls 4 [(0, .ref (q 0)), (1, .int p1), (2, .int x132_2), (3, .int x132_3)] → W p l e R s m args below meth c H locs 0 0 Q (F0 m 132 ls []) := by
    intro N
    induction N with
    | zero => intro x132_2 x132_3 w132 H locs ls hmu; exact absurd hmu (Nat.not_lt_zero _)
    | succ N ih132 =>
      intro x132_2 x132_3 w132 H locs ls hmu132 hW_w132 hM_w132 i_x132_3 g132_0_68 hP hD hS hl
      refine lv_iload_n hx hb dX12_given_132 rfl (lv_at hl 3 rfl) ?_
      refine lv_aload_n hx hb dX12_given_133 rfl (lv_at hl 0 rfl) ?_
      refine gt_X12 hx hb hts hown hK hP 0 (hW_w132.o tM_0) 14 (by decide) wd_1415 rfl (hW_w132.fr tM_0 rfl) dX12_given_134 ?_
      refine lv_aload_n hx hb dX12_given_137 rfl (lv_at hl 0 rfl) ?_
      refine gt_X12 hx hb hts hown hK hP 0 (hW_w132.o tM_0) 12 (by decide) wd_1413 rfl (hW_w132.fi tM_0 rfl) dX12_given_138 ?_
      refine tov (v := (fI w 0 12)) (hM_w132.gI (by decide)) ?_
      refine va_iald hx hb hK hP 2 0 (hW_w132.a tM_2) rfl (in_I (hW_w.fin tM_0 rfl : In 0 1 (fI w 0 12)) (by decide)) dX12_given_141 ?_
      refine lv_topi (fun v_15 ev_15 => ?_)
      refine lv_icmp_ge (tgt := 160) hx hb dX12_given_142 (by decide) (fun c_16 => ?_) (fun c_16 => ?_)
      · refine lv_iload_n hx hb dX12_given_160 rfl (lv_at hl 2 rfl) ?_
        exact hret _ _ _ _ _ _ hP hD hS dX12_given_161 ⟨hW_w132, hM_w132⟩
      · refine lv_iload_n hx hb dX12_given_145 rfl (lv_at hl 2 rfl) ?_
        refine lv_aload_n hx hb dX12_given_146 rfl (lv_at hl 0 rfl) ?_
        refine gt_X12 hx hb hts hown hK hP 0 (hW_w132.o tM_0) 77 (by decide) wd_1478 rfl (hW_w132.fr tM_0 rfl) dX12_given_147 ?_
        refine lv_iload_n hx hb dX12_given_150 rfl (lv_at hl 3 rfl) ?_
        refine va_iald hx hb hK hP 54 0 (hW_w132.a tM_54) rfl (in_I (R_nle_r (In_of ev_15 (hW_w132.ap tM_2 _) : In 0 10 v_15) i_x132_3 c_16 (by decide) : In 0 9 x132_3) (by decide)) dX12_given_151 ?_
        refine lv_topi (fun v_17 ev_17 => ?_)
        refine lv_iadd hx hb dX12_given_152 ?_
        refine lv_topi (fun v_18 ev_18 => ?_)
        refine lv_istore_n (lv' := [(2, .int v_18), (0, .ref (q 0)), (1, .int p1), (3, .int x132_3)]) hx hb dX12_given_153 rfl hl (by decide) rfl (fun ls hl => ?_)
        refine lv_iinc (v := (x132_3 + 1)) (lv' := [(3, .int (x132_3 + 1)), (2, .int v_18), (0, .ref (q 0)), (1, .int p1)]) hx hb dX12_given_154 hl (k := 3) rfl (rfl) (by decide) rfl (fun ls hl => ?_)
        refine lv_goto (tgt := 132) hx hb dX12_given_157 (by decide) ?_
        exact ih132 v_18 (x132_3 + 1) w132 _ _ ls (mu_inc hmu132 (R_nle_r (In_of ev_15 (hW_w132.ap tM_2 _) : In 0 10 v_15) i_x132_3 c_16 (by decide) : In 0 9 x132_3) (In_lit (n := 1) (by decide) (by decide) : In 1 1 1) (by decide)) hW_w132 hM_w132 (In_w ((In_add (y := 1) (R_nle_r (In_of ev_15 (hW_w132.ap tM_2 _) : In 0 10 v_15) i_x132_3 c_16 (by decide) : In 0 9 x132_3) (In_lit (n := 1) (by decide) (by decide) : In 1 1 1) (by decide)) : In 1 10 (x132_3 + 1)) (by decide) : In 0 10 (x132_3 + 1)) (In_of (hM_w132.gI (by decide)) (In_of (hM_w132.gI (by decide)).symm g132_0_68)) hP hD hS (lv_sub hl [2, 3, 1, 0] rfl)
  refine lv_aload_n hx hb dX12_given_0 rfl (lv_at hl 0 rfl) ?_
  refine gt_X12 hx hb hts hown hK hP 0 (hW_w.o tM_0) 68 (by decide) wd_1469 rfl (hW_w.fi tM_0 rfl) dX12_given_1 ?_
  refine lv_if_ne (tgt := 9) hx hb dX12_given_4 (by decide) (fun c_19 => ?_) (fun c_19 => ?_)
  · refine lv_iconst (v := 0) hx hb dX12_given_9 (by decide) ?_
    refine lv_istore_n (lv' := [(2, .int 0), (0, .ref (q 0)), (1, .int p1)]) hx hb dX12_given_10 rfl hl (by decide) rfl (fun ls hl => ?_)
    refine lv_iload_n hx hb dX12_given_11 rfl (lv_at hl 2 rfl) ?_
    by_cases c_20 : p1 = 0
    · have c_20t : (p1 : Int32).toInt = 0 := by rw [c_20]; rfl
      refine lv_tableIn (tgt := 44) hx hb dX12_given_12 (by rw [c_20t]; decide) (by rw [c_20t]; decide) (off := 32) (by rw [c_20t]; rfl) (by decide) ?_
      refine lv_aload_n hx hb dX12_given_44 rfl (lv_at hl 1 rfl) ?_
      refine gt_X12 hx hb hts hown hK hP 0 (hW_w.o tM_0) 79 (by decide) wd_1480 rfl (hW_w.fi tM_0 rfl) dX12_given_45 ?_
      exact hret _ _ _ _ _ _ hP hD hS dX12_given_48 ⟨hW_w, Sm.rf⟩
    by_cases c_21 : p1 = 1
    · have c_21t : (p1 : Int32).toInt = 1 := by rw [c_21]; rfl
      refine lv_tableIn (tgt := 49) hx hb dX12_given_12 (by rw [c_21t]; decide) (by rw [c_21t]; decide) (off := 37) (by rw [c_21t]; rfl) (by decide) ?_
      refine lv_iconst (v := 0) hx hb dX12_given_49 (by decide) ?_
      refine lv_istore_n (lv' := [(3, .int 0), (2, .int 0), (0, .ref (q 0)), (1, .int p1)]) hx hb dX12_given_50 rfl hl (by decide) rfl (fun ls hl => ?_)
      exact J51 _ 0 0 w _ _ ls (Nat.lt_succ_self _) hW_w Sm.rf (In_lit (n := 0) (by decide) (by decide) : In 0 40 0) (R_ne_l (hW_w.fin tM_0 rfl : In 0 1 (fI w 0 68)) (In_lit (n := 0) (by decide) (by decide) : In 0 0 0) c_19 (by decide) : In 1 1 (fI w 0 68)) hP hD hS (lv_sub hl [2, 3, 1, 0] rfl)
    by_cases c_22 : p1 = 2
    · have c_22t : (p1 : Int32).toInt = 2 := by rw [c_22]; rfl
      refine lv_tableIn (tgt := 93) hx hb dX12_given_12 (by rw [c_22t]; decide) (by rw [c_22t]; decide) (off := 81) (by rw [c_22t]; rfl) (by decide) ?_
      refine lv_iconst (v := 0) hx hb dX12_given_93 (by decide) ?_
      refine lv_istore_n (lv' := [(3, .int 0), (2, .int 0), (0, .ref (q 0)), (1, .int p1)]) hx hb dX12_given_94 rfl hl (by decide) rfl (fun ls hl => ?_)
      exact J95 _ 0 0 w _ _ ls (Nat.lt_succ_self _) hW_w Sm.rf (In_lit (n := 0) (by decide) (by decide) : In 0 40 0) (R_ne_l (hW_w.fin tM_0 rfl : In 0 1 (fI w 0 68)) (In_lit (n := 0) (by decide) (by decide) : In 0 0 0) c_19 (by decide) : In 1 1 (fI w 0 68)) hP hD hS (lv_sub hl [2, 3, 1, 0] rfl)
    by_cases c_23 : p1 = 3
    · have c_23t : (p1 : Int32).toInt = 3 := by rw [c_23]; rfl
      refine lv_tableIn (tgt := 130) hx hb dX12_given_12 (by rw [c_23t]; decide) (by rw [c_23t]; decide) (off := 118) (by rw [c_23t]; rfl) (by decide) ?_
      refine lv_iconst (v := 0) hx hb dX12_given_130 (by decide) ?_
      refine lv_istore_n (lv' := [(3, .int 0), (2, .int 0), (0, .ref (q 0)), (1, .int p1)]) hx hb dX12_given_131 rfl hl (by decide) rfl (fun ls hl => ?_)
      exact J132 _ 0 0 w _ _ ls (Nat.lt_succ_self _) hW_w Sm.rf (In_lit (n := 0) (by decide) (by decide) : In 0 10 0) (R_ne_l (hW_w.fin tM_0 rfl : In 0 1 (fI w 0 68)) (In_lit (n := 0) (by decide) (by decide) : In 0 0 0) c_19 (by decide) : In 1 1 (fI w 0 68)) hP hD hS (lv_sub hl [2, 3, 1, 0] rfl)
    refine lv_tableOut (tgt := 162) hx hb dX12_given_12 (by have h0 := lv_neT c_20 (a := 0) (by decide); have h1 := lv_neT c_21 (a := 1) (by decide); have h2 := lv_neT c_22 (a := 2) (by decide); have h3 := lv_neT c_23 (a := 3) (by decide); omega) (by decide) ?_
    refine lv_iconst (v := (-1)) hx hb dX12_given_162 (by decide) ?_
    exact hret _ _ _ _ _ _ hP hD hS dX12_given_163 ⟨hW_w, Sm.rf⟩
  · refine lv_iconst (v := (-1)) hx hb dX12_given_7 (by decide) ?_
    exact hret _ _ _ _ _ _ hP hD hS dX12_given_8 ⟨hW_w, Sm.rf⟩
set_option maxRecDepth 100000 in
set_option maxHeartbeats 8000000 in
theorem k_X12_was (l : Launch) (D : va_G) (cI cJ cZ : ClassId) (q : Nat → Nat) (w : va_W) (hW_w : HT q (TM q cI cJ cZ) w) (p1 : Int32) : Con_i l yX12_was cX12_was 2 (some .boolean) ({ frames := 0, cells := 0, slots := 0, locals := 0 }) D cI cJ cZ eW [.ref (q 0), .int p1] w (fun (r : Int32) (w1 : va_W) => HT q (TM q cI cJ cZ) w1 ∧ Sm [] [] w w1 ∧ In 0 1 r ∧ (¬ r = 0 → In 1 40 (fI w1 0 69) ∧ In 0 39 p1)) := by
  refine eQ_z rfl (by decide) (Nat.le_of_ble_eq_true rfl) ⟨rfl, rfl⟩ ?_
  intro p e R s m args below meth c A Q hx hb hml hown hts hK hE hA hR hret hP hD hS ls hl
  have hown : s.vm.findClass RX12 = some m.cls := hown
  have hl : lv_has ls 2 [(0, .ref (q 0)), (1, .int p1)] := hl
  refine lv_aload_n hx hb dX12_was_0 rfl (lv_at hl 0 rfl) ?_
  refine gt_X12 hx hb hts hown hK hP 0 (hW_w.o tM_0) 68 (by decide) wd_1469 rfl (hW_w.fi tM_0 rfl) dX12_was_1 ?_
  refine lv_if_eq (tgt := 23) hx hb dX12_was_4 (by decide) (fun c_1 => ?_) (fun c_1 => ?_)
  · refine lv_iconst (v := 0) hx hb dX12_was_23 (by decide) ?_
    exact hret _ _ _ _ _ _ hP hD hS dX12_was_24 (In_lit (n := 0) (by decide) (by decide) : In 0 1 0) ⟨hW_w, Sm.rf, (In_lit (n := 0) (by decide) (by decide) : In 0 1 0), (fun h => absurd rfl h)⟩
  · refine lv_iload_n hx hb dX12_was_7 rfl (lv_at hl 1 rfl) ?_
    refine lv_if_lt (tgt := 23) hx hb dX12_was_8 (by decide) (fun c_2 => ?_) (fun c_2 => ?_)
    · refine lv_iconst (v := 0) hx hb dX12_was_23 (by decide) ?_
      exact hret _ _ _ _ _ _ hP hD hS dX12_was_24 (In_lit (n := 0) (by decide) (by decide) : In 0 1 0) ⟨hW_w, Sm.rf, (In_lit (n := 0) (by decide) (by decide) : In 0 1 0), (fun h => absurd rfl h)⟩
    · refine lv_iload_n hx hb dX12_was_11 rfl (lv_at hl 1 rfl) ?_
      refine lv_aload_n hx hb dX12_was_12 rfl (lv_at hl 0 rfl) ?_
      refine gt_X12 hx hb hts hown hK hP 0 (hW_w.o tM_0) 69 (by decide) wd_1470 rfl (hW_w.fi tM_0 rfl) dX12_was_13 ?_
      refine lv_icmp_ge (tgt := 23) hx hb dX12_was_16 (by decide) (fun c_3 => ?_) (fun c_3 => ?_)
      · refine lv_iconst (v := 0) hx hb dX12_was_23 (by decide) ?_
        exact hret _ _ _ _ _ _ hP hD hS dX12_was_24 (In_lit (n := 0) (by decide) (by decide) : In 0 1 0) ⟨hW_w, Sm.rf, (In_lit (n := 0) (by decide) (by decide) : In 0 1 0), (fun h => absurd rfl h)⟩
      · refine lv_iconst (v := 1) hx hb dX12_was_19 (by decide) ?_
        refine lv_goto (tgt := 24) hx hb dX12_was_20 (by decide) ?_
        exact hret _ _ _ _ _ _ hP hD hS dX12_was_24 (In_lit (n := 1) (by decide) (by decide) : In 0 1 1) ⟨hW_w, Sm.rf, (In_lit (n := 1) (by decide) (by decide) : In 0 1 1), (fun h => ⟨(R_nle_l (hW_w.fin tM_0 rfl : In 0 40 (fI w 0 69)) (R_nlt_l (In_any p1) (In_lit (n := 0) (by decide) (by decide) : In 0 0 0) c_2 (by decide) : In 0 2147483647 p1) c_3 (by decide) : In 1 40 (fI w 0 69)), (R_nle_r (hW_w.fin tM_0 rfl : In 0 40 (fI w 0 69)) (R_nlt_l (In_any p1) (In_lit (n := 0) (by decide) (by decide) : In 0 0 0) c_2 (by decide) : In 0 2147483647 p1) c_3 (by decide) : In 0 39 p1)⟩)⟩
set_option maxRecDepth 100000 in
set_option maxHeartbeats 8000000 in
theorem k_X12_gets (l : Launch) (D : va_G) (cI cJ cZ : ClassId) (q : Nat → Nat) (w : va_W) (hW_w : HT q (TM q cI cJ cZ) w) (p1 : Int32) : Con_i l yX12_gets cX12_gets 2 (some .int) ({ frames := 1, cells := 0, slots := 0, locals := 21 }) D cI cJ cZ eW [.ref (q 0), .int p1] w (fun (r : Int32) (w1 : va_W) => HT q (TM q cI cJ cZ) w1 ∧ Sm [] [] w w1) := by
  refine eQ_i rfl (by decide) (Nat.le_of_ble_eq_true rfl) ⟨rfl, rfl⟩ ?_
  intro p e R s m args below meth c A Q hx hb hml hown hts hK hE hA hR hret hP hD hS ls hl
  have hown : s.vm.findClass RX12 = some m.cls := hown
  have hl : lv_has ls 2 [(0, .ref (q 0)), (1, .int p1)] := hl
  refine lv_aload_n hx hb dX12_gets_0 rfl (lv_at hl 0 rfl) ?_
  refine lv_iload_n hx hb dX12_gets_1 rfl (lv_at hl 1 rfl) ?_
  refine kW_i ⟨rfl, rfl⟩ hP hD hS hA (rW_V (As := [.int p1]) (rest := []) hx hb hml hown hts hK hE hP hD (k_X12_was l D cI cJ cZ q w hW_w p1 _) ⟨⟨rfl, rfl⟩, rfl, rfl⟩ sv_X12_547 ⟨(Nat.le_trans (by decide) hR.1), (Nat.le_trans (by decide) hR.2)⟩ 0 12 (hW_w.o tM_0) rfl rfl rfl hl.1 rfl (Nat.le_of_ble_eq_true rfl) dX12_gets_2) (fun r_2 w_1 H locs hw_w_1 hP hD hS => ?_)
  obtain ⟨hW_w_1, hs_w_1, i_r_2, h_3⟩ := hw_w_1
  refine lv_if_eq (tgt := 17) hx hb dX12_gets_5 (by decide) (fun c_4 => ?_) (fun c_4 => ?_)
  · refine lv_iconst (v := (-1)) hx hb dX12_gets_17 (by decide) ?_
    exact hret _ _ _ _ _ _ hP hD hS dX12_gets_18 ⟨hW_w_1, (Sm.rf.tr hs_w_1 (by decide))⟩
  · refine lv_aload_n hx hb dX12_gets_8 rfl (lv_at hl 0 rfl) ?_
    refine gt_X12 hx hb hts hown hK hP 0 (hW_w_1.o tM_0) 76 (by decide) wd_1477 rfl (hW_w_1.fr tM_0 rfl) dX12_gets_9 ?_
    refine lv_iload_n hx hb dX12_gets_12 rfl (lv_at hl 1 rfl) ?_
    refine va_iald hx hb hK hP 53 0 (hW_w_1.a tM_53) rfl (in_I (h_3 c_4).2 (by decide)) dX12_gets_13 ?_
    refine lv_topi (fun v_5 ev_5 => ?_)
    refine lv_goto (tgt := 18) hx hb dX12_gets_14 (by decide) ?_
    exact hret _ _ _ _ _ _ hP hD hS dX12_gets_18 ⟨hW_w_1, (Sm.rf.tr hs_w_1 (by decide))⟩
set_option maxRecDepth 100000 in
set_option maxHeartbeats 8000000 in
theorem k_X12_left (l : Launch) (D : va_G) (cI cJ cZ : ClassId) (q : Nat → Nat) (w : va_W) (hW_w : HT q (TM q cI cJ cZ) w) (p1 : Int32) : Con_i l yX12_left cX12_left 2 (some .int) ({ frames := 1, cells := 0, slots := 0, locals := 21 }) D cI cJ cZ eW [.ref (q 0), .int p1] w (fun (r : Int32) (w1 : va_W) => HT q (TM q cI cJ cZ) w1 ∧ Sm [] [] w w1) := by
  refine eQ_i rfl (by decide) (Nat.le_of_ble_eq_true rfl) ⟨rfl, rfl⟩ ?_
  intro p e R s m args below meth c A Q hx hb hml hown hts hK hE hA hR hret hP hD hS ls hl
  have hown : s.vm.findClass RX12 = some m.cls := hown
  have hl : lv_has ls 2 [(0, .ref (q 0)), (1, .int p1)] := hl
  refine lv_aload_n hx hb dX12_left_0 rfl (lv_at hl 0 rfl) ?_
  refine gt_X12 hx hb hts hown hK hP 0 (hW_w.o tM_0) 68 (by decide) wd_1469 rfl (hW_w.fi tM_0 rfl) dX12_left_1 ?_
  refine lv_if_eq (tgt := 15) hx hb dX12_left_4 (by decide) (fun c_1 => ?_) (fun c_1 => ?_)
  · refine lv_iconst (v := (-1)) hx hb dX12_left_15 (by decide) ?_
    refine lv_goto (tgt := 25) hx hb dX12_left_16 (by decide) ?_
    exact hret _ _ _ _ _ _ hP hD hS dX12_left_25 ⟨hW_w, Sm.rf⟩
  · refine lv_aload_n hx hb dX12_left_7 rfl (lv_at hl 0 rfl) ?_
    refine lv_iload_n hx hb dX12_left_8 rfl (lv_at hl 1 rfl) ?_
    refine kW_i ⟨rfl, rfl⟩ hP hD hS hA (rW_V (As := [.int p1]) (rest := []) hx hb hml hown hts hK hE hP hD (k_X12_isKind l D cI cJ cZ q w hW_w p1 _) ⟨⟨rfl, rfl⟩, rfl, rfl⟩ sv_X12_450 ⟨(Nat.le_trans (by decide) hR.1), (Nat.le_trans (by decide) hR.2)⟩ 0 12 (hW_w.o tM_0) rfl rfl rfl hl.1 rfl (Nat.le_of_ble_eq_true rfl) dX12_left_9) (fun r_3 w_2 H locs hw_w_2 hP hD hS => ?_)
    obtain ⟨hW_w_2, hs_w_2, i_r_3, h_4⟩ := hw_w_2
    refine lv_if_ne (tgt := 19) hx hb dX12_left_12 (by decide) (fun c_5 => ?_) (fun c_5 => ?_)
    · refine lv_aload_n hx hb dX12_left_19 rfl (lv_at hl 0 rfl) ?_
      refine gt_X12 hx hb hts hown hK hP 0 (hW_w_2.o tM_0) 77 (by decide) wd_1478 rfl (hW_w_2.fr tM_0 rfl) dX12_left_20 ?_
      refine lv_iload_n hx hb dX12_left_23 rfl (lv_at hl 1 rfl) ?_
      refine va_iald hx hb hK hP 54 0 (hW_w_2.a tM_54) rfl (in_I (h_4 c_5) (by decide)) dX12_left_24 ?_
      refine lv_topi (fun v_6 ev_6 => ?_)
      exact hret _ _ _ _ _ _ hP hD hS dX12_left_25 ⟨hW_w_2, (Sm.rf.tr hs_w_2 (by decide))⟩
    · refine lv_iconst (v := (-1)) hx hb dX12_left_15 (by decide) ?_
      refine lv_goto (tgt := 25) hx hb dX12_left_16 (by decide) ?_
      exact hret _ _ _ _ _ _ hP hD hS dX12_left_25 ⟨hW_w_2, (Sm.rf.tr hs_w_2 (by decide))⟩
set_option maxRecDepth 100000 in
set_option maxHeartbeats 8000000 in
theorem k_X12_lacks (l : Launch) (D : va_G) (cI cJ cZ : ClassId) (q : Nat → Nat) (w : va_W) (hW_w : HT q (TM q cI cJ cZ) w) (p1 : Int32) (p2 : Int32) : Con_i l yX12_lacks cX12_lacks 5 (some .int) ({ frames := 1, cells := 0, slots := 0, locals := 22 }) D cI cJ cZ eW [.ref (q 0), .int p1, .int p2] w (fun (r : Int32) (w1 : va_W) => HT q (TM q cI cJ cZ) w1 ∧ Sm [] [] w w1) := by
  refine eQ_i rfl (by decide) (Nat.le_of_ble_eq_true rfl) ⟨rfl, rfl⟩ ?_
  intro p e R s m args below meth c A Q hx hb hml hown hts hK hE hA hR hret hP hD hS ls hl
  have hown : s.vm.findClass RX12 = some m.cls := hown
  have hl : lv_has ls 5 [(0, .ref (q 0)), (1, .int p1), (2, .int p2)] := hl
  have J14 : ∀ (N : Nat) (x14_3 : Int32) (x14_4 : Int32) (w14 : va_W) (H : Heap) (locs : List Loc) (ls : Array Slot), (40 - x14_4.toInt).toNat < N → HT q (TM q cI cJ cZ) w14 → Sm [] [] w w14 → (In 0 40 x14_4) → (In 1 1 (fI w14 0 68)) → va_P D vwCl w14 H → va_D A w14 → va_S A s.heap H locs → lv_has ls 5 [(0, .ref (q 0)), (1, .int p1), (2, .int p2), (3, .int x14_3), (4, .int x14_4)] → W p l e R s m args below meth c H locs 0 0 Q (F0 m 14 ls []) := by
    intro N
    induction N with
    | zero => intro x14_3 x14_4 w14 H locs ls hmu; exact absurd hmu (Nat.not_lt_zero _)
    | succ N ih14 =>
      intro x14_3 x14_4 w14 H locs ls hmu14 hW_w14 hM_w14 i_x14_4 g14_0_68 hP hD hS hl
      have J61 : ∀ (y61_0 : Int32) (w61 : va_W) (H : Heap) (locs : List Loc) (ls : Array Slot), HT q (TM q cI cJ cZ) w61 → Sm [] [] w w61 → (In 0 39 x14_4) → (In 1 1 (fI w61 0 68)) → (In 1 40 (fI w61 0 69)) → va_P D vwCl w61 H → va_D A w61 → va_S A s.heap H locs → lv_has ls 5 [(0, .ref (q 0)), (1, .int p1), (2, .int p2), (3, .int x14_3), (4, .int x14_4)] → W p l e R s m args below meth c H locs 0 0 Q (F0 m 61 ls [.int y61_0, .int x14_3]) := by
        intro y61_0 w61 H locs ls hW_w61 hM_w61 i_x61_4 g61_0_68 g61_0_69 hP hD hS hl
        refine lv_iadd hx hb dX12_lacks_61 ?_
        refine lv_topi (fun v_1 ev_1 => ?_)
        refine lv_istore_n (lv' := [(3, .int v_1), (0, .ref (q 0)), (1, .int p1), (2, .int p2), (4, .int x14_4)]) hx hb dX12_lacks_62 rfl hl (by decide) rfl (fun ls hl => ?_)
        refine lv_iinc (v := (x14_4 + 1)) (lv' := [(4, .int (x14_4 + 1)), (3, .int v_1), (0, .ref (q 0)), (1, .int p1), (2, .int p2)]) hx hb dX12_lacks_63 hl (k := 4) rfl (rfl) (by decide) rfl (fun ls hl => ?_)
        refine lv_goto (tgt := 14) hx hb dX12_lacks_66 (by decide) ?_
        exact ih14 v_1 (x14_4 + 1) w61 _ _ ls (mu_inc hmu14 i_x61_4 (In_lit (n := 1) (by decide) (by decide) : In 1 1 1) (by decide)) hW_w61 hM_w61 (In_w ((In_add (y := 1) i_x61_4 (In_lit (n := 1) (by decide) (by decide) : In 1 1 1) (by decide)) : In 1 40 (x14_4 + 1)) (by decide) : In 0 40 (x14_4 + 1)) (In_of (hM_w61.gI (by decide)) (In_of (hM_w61.gI (by decide)).symm g61_0_68)) hP hD hS (lv_sub hl [2, 3, 4, 1, 0] rfl)
      refine lv_iload hx hb dX12_lacks_14 (lv_at hl 4 rfl) ?_
      refine lv_aload_n hx hb dX12_lacks_16 rfl (lv_at hl 0 rfl) ?_
      refine gt_X12 hx hb hts hown hK hP 0 (hW_w14.o tM_0) 69 (by decide) wd_1470 rfl (hW_w14.fi tM_0 rfl) dX12_lacks_17 ?_
      refine tov (v := (fI w 0 69)) (hM_w14.gI (by decide)) ?_
      refine lv_icmp_ge (tgt := 69) hx hb dX12_lacks_20 (by decide) (fun c_2 => ?_) (fun c_2 => ?_)
      · refine lv_iload_n hx hb dX12_lacks_69 rfl (lv_at hl 3 rfl) ?_
        exact hret _ _ _ _ _ _ hP hD hS dX12_lacks_70 ⟨hW_w14, hM_w14⟩
      · refine lv_iload_n hx hb dX12_lacks_23 rfl (lv_at hl 3 rfl) ?_
        refine lv_aload_n hx hb dX12_lacks_24 rfl (lv_at hl 0 rfl) ?_
        refine gt_X12 hx hb hts hown hK hP 0 (hW_w14.o tM_0) 73 (by decide) wd_1474 rfl (hW_w14.fr tM_0 rfl) dX12_lacks_25 ?_
        refine lv_iload hx hb dX12_lacks_28 (lv_at hl 4 rfl) ?_
        refine va_iald hx hb hK hP 50 0 (hW_w14.a tM_50) rfl (in_I (R_nle_r (hW_w.fin tM_0 rfl : In 0 40 (fI w 0 69)) i_x14_4 c_2 (by decide) : In 0 39 x14_4) (by decide)) dX12_lacks_30 ?_
        refine lv_topi (fun v_3 ev_3 => ?_)
        refine lv_iload_n hx hb dX12_lacks_31 rfl (lv_at hl 1 rfl) ?_
        refine lv_iload_n hx hb dX12_lacks_32 rfl (lv_at hl 2 rfl) ?_
        refine kW_i ⟨rfl, rfl⟩ hP hD hS hA (rW_S (As := [.int v_3, .int p1, .int p2]) (rest := [.int x14_3]) hx hb hml hown hts hK hE hP hD (k_X12_is l D cI cJ cZ q w14 hW_w14 v_3 p1 p2 _) ⟨⟨rfl, rfl⟩, rfl, rfl⟩ sv_X12_322 ⟨(Nat.le_trans (by decide) hR.1), (Nat.le_trans (by decide) hR.2)⟩ rfl hl.1 rfl (Nat.le_of_ble_eq_true rfl) dX12_lacks_33) (fun r_5 w_4 H locs hw_w_4 hP hD hS => ?_)
        obtain ⟨hW_w_4, hs_w_4, i_r_5, h_6⟩ := hw_w_4
        refine lv_if_eq (tgt := 60) hx hb dX12_lacks_36 (by decide) (fun c_7 => ?_) (fun c_7 => ?_)
        · refine lv_iconst (v := 0) hx hb dX12_lacks_60 (by decide) ?_
          exact J61 0 w_4 _ _ ls hW_w_4 (hM_w14.tr hs_w_4 (by decide)) (R_nle_r (hW_w.fin tM_0 rfl : In 0 40 (fI w 0 69)) i_x14_4 c_2 (by decide) : In 0 39 x14_4) (In_of ((hs_w_4.gI (by decide)).trans (hM_w14.gI (by decide))) (In_of (hM_w14.gI (by decide)).symm g14_0_68)) (In_of ((hs_w_4.gI (by decide)).trans (hM_w14.gI (by decide))) (R_nle_l (hW_w.fin tM_0 rfl : In 0 40 (fI w 0 69)) i_x14_4 c_2 (by decide) : In 1 40 (fI w 0 69))) hP hD hS (lv_sub hl [0, 1, 2, 3, 4] rfl)
        · refine lv_aload_n hx hb dX12_lacks_39 rfl (lv_at hl 0 rfl) ?_
          refine gt_X12 hx hb hts hown hK hP 0 (hW_w_4.o tM_0) 70 (by decide) wd_1471 rfl (hW_w_4.fr tM_0 rfl) dX12_lacks_40 ?_
          refine lv_iload hx hb dX12_lacks_43 (lv_at hl 4 rfl) ?_
          refine va_iald hx hb hK hP 47 0 (hW_w_4.a tM_47) rfl (in_I (R_nle_r (hW_w.fin tM_0 rfl : In 0 40 (fI w 0 69)) i_x14_4 c_2 (by decide) : In 0 39 x14_4) (by decide)) dX12_lacks_45 ?_
          refine lv_topi (fun v_8 ev_8 => ?_)
          refine lv_aload_n hx hb dX12_lacks_46 rfl (lv_at hl 0 rfl) ?_
          refine gt_X12 hx hb hts hown hK hP 0 (hW_w_4.o tM_0) 75 (by decide) wd_1476 rfl (hW_w_4.fr tM_0 rfl) dX12_lacks_47 ?_
          refine lv_iload hx hb dX12_lacks_50 (lv_at hl 4 rfl) ?_
          refine va_iald hx hb hK hP 52 0 (hW_w_4.a tM_52) rfl (in_I (R_nle_r (hW_w.fin tM_0 rfl : In 0 40 (fI w 0 69)) i_x14_4 c_2 (by decide) : In 0 39 x14_4) (by decide)) dX12_lacks_52 ?_
          refine lv_topi (fun v_9 ev_9 => ?_)
          refine kW_i ⟨rfl, rfl⟩ hP hD hS hA (rW_S (As := [.int v_9]) (rest := [.int v_8, .int x14_3]) hx hb hml hown hts hK hE hP hD (k_X12_bits l D cI cJ cZ q w_4 hW_w_4 v_9 (In_of ((hs_w_4.gI (by decide)).trans (hM_w14.gI (by decide))) (R_nle_l (hW_w.fin tM_0 rfl : In 0 40 (fI w 0 69)) i_x14_4 c_2 (by decide) : In 1 40 (fI w 0 69))) _) ⟨⟨rfl, rfl⟩, rfl, rfl⟩ sv_X12_544 ⟨(Nat.le_trans (by decide) hR.1), (Nat.le_trans (by decide) hR.2)⟩ rfl hl.1 rfl (Nat.le_of_ble_eq_true rfl) dX12_lacks_53) (fun r_11 w_10 H locs hw_w_10 hP hD hS => ?_)
          obtain ⟨hW_w_10, hs_w_10⟩ := hw_w_10
          refine lv_isub hx hb dX12_lacks_56 ?_
          refine lv_topi (fun v_12 ev_12 => ?_)
          refine lv_goto (tgt := 61) hx hb dX12_lacks_57 (by decide) ?_
          exact J61 v_12 w_10 _ _ ls hW_w_10 ((hM_w14.tr hs_w_4 (by decide)).tr hs_w_10 (by decide)) (R_nle_r (hW_w.fin tM_0 rfl : In 0 40 (fI w 0 69)) i_x14_4 c_2 (by decide) : In 0 39 x14_4) (In_of ((hs_w_10.gI (by decide)).trans ((hs_w_4.gI (by decide)).trans (hM_w14.gI (by decide)))) (In_of (hM_w14.gI (by decide)).symm g14_0_68)) (In_of ((hs_w_10.gI (by decide)).trans ((hs_w_4.gI (by decide)).trans (hM_w14.gI (by decide)))) (R_nle_l (hW_w.fin tM_0 rfl : In 0 40 (fI w 0 69)) i_x14_4 c_2 (by decide) : In 1 40 (fI w 0 69))) hP hD hS (lv_sub hl [0, 1, 2, 3, 4] rfl)
  refine lv_aload_n hx hb dX12_lacks_0 rfl (lv_at hl 0 rfl) ?_
  refine gt_X12 hx hb hts hown hK hP 0 (hW_w.o tM_0) 68 (by decide) wd_1469 rfl (hW_w.fi tM_0 rfl) dX12_lacks_1 ?_
  refine lv_if_ne (tgt := 9) hx hb dX12_lacks_4 (by decide) (fun c_13 => ?_) (fun c_13 => ?_)
  · refine lv_iconst (v := 0) hx hb dX12_lacks_9 (by decide) ?_
    refine lv_istore_n (lv' := [(3, .int 0), (0, .ref (q 0)), (1, .int p1), (2, .int p2)]) hx hb dX12_lacks_10 rfl hl (by decide) rfl (fun ls hl => ?_)
    refine lv_iconst (v := 0) hx hb dX12_lacks_11 (by decide) ?_
    refine lv_istore (lv' := [(4, .int 0), (3, .int 0), (0, .ref (q 0)), (1, .int p1), (2, .int p2)]) hx hb dX12_lacks_12 hl (by decide) rfl (fun ls hl => ?_)
    exact J14 _ 0 0 w _ _ ls (Nat.lt_succ_self _) hW_w Sm.rf (In_lit (n := 0) (by decide) (by decide) : In 0 40 0) (R_ne_l (hW_w.fin tM_0 rfl : In 0 1 (fI w 0 68)) (In_lit (n := 0) (by decide) (by decide) : In 0 0 0) c_13 (by decide) : In 1 1 (fI w 0 68)) hP hD hS (lv_sub hl [2, 3, 4, 1, 0] rfl)
  · refine lv_iconst (v := (-1)) hx hb dX12_lacks_7 (by decide) ?_
    exact hret _ _ _ _ _ _ hP hD hS dX12_lacks_8 ⟨hW_w, Sm.rf⟩
set_option maxRecDepth 100000 in
set_option maxHeartbeats 8000000 in
theorem k_X12_worth (l : Launch) (D : va_G) (cI cJ cZ : ClassId) (q : Nat → Nat) (w : va_W) (hW_w : HT q (TM q cI cJ cZ) w) (p1 : Int32) (hf_0_69 : In 1 40 (fI w 0 69)) : Con_i l yX12_worth cX12_worth 4 (some .int) ({ frames := 0, cells := 0, slots := 0, locals := 0 }) D cI cJ cZ eW [.ref (q 0), .int p1] w (fun (r : Int32) (w1 : va_W) => HT q (TM q cI cJ cZ) w1 ∧ Sm [] [] w w1) := by
  refine eQ_i rfl (by decide) (Nat.le_of_ble_eq_true rfl) ⟨rfl, rfl⟩ ?_
  intro p e R s m args below meth c A Q hx hb hml hown hts hK hE hA hR hret hP hD hS ls hl
  have hown : s.vm.findClass RX12 = some m.cls := hown
  have hl : lv_has ls 4 [(0, .ref (q 0)), (1, .int p1)] := hl
  have J4 : ∀ (N : Nat) (x4_2 : Int32) (x4_3 : Int32) (w4 : va_W) (H : Heap) (locs : List Loc) (ls : Array Slot), (10 - x4_3.toInt).toNat < N → HT q (TM q cI cJ cZ) w4 → Sm [] [] w w4 → (In 0 10 x4_3) → (In 1 40 (fI w4 0 69)) → va_P D vwCl w4 H → va_D A w4 → va_S A s.heap H locs → lv_has ls 4 [(0, .ref (q 0)), (1, .int p1), (2, .int x4_2), (3, .int x4_3)] → W p l e R s m args below meth c H locs 0 0 Q (F0 m 4 ls []) := by
    intro N
    induction N with
    | zero => intro x4_2 x4_3 w4 H locs ls hmu; exact absurd hmu (Nat.not_lt_zero _)
    | succ N ih4 =>
      intro x4_2 x4_3 w4 H locs ls hmu4 hW_w4 hM_w4 i_x4_3 g4_0_69 hP hD hS hl
      have J45 : ∀ (y45_0 : Int32) (w45 : va_W) (H : Heap) (locs : List Loc) (ls : Array Slot), HT q (TM q cI cJ cZ) w45 → Sm [] [] w w45 → (In 0 9 x4_3) → (In 1 40 (fI w45 0 69)) → va_P D vwCl w45 H → va_D A w45 → va_S A s.heap H locs → lv_has ls 4 [(0, .ref (q 0)), (1, .int p1), (2, .int x4_2), (3, .int x4_3)] → W p l e R s m args below meth c H locs 0 0 Q (F0 m 45 ls [.int y45_0, .int x4_2]) := by
        intro y45_0 w45 H locs ls hW_w45 hM_w45 i_x45_3 g45_0_69 hP hD hS hl
        refine lv_iadd hx hb dX12_worth_45 ?_
        refine lv_topi (fun v_1 ev_1 => ?_)
        refine lv_istore_n (lv' := [(2, .int v_1), (0, .ref (q 0)), (1, .int p1), (3, .int x4_3)]) hx hb dX12_worth_46 rfl hl (by decide) rfl (fun ls hl => ?_)
        refine lv_iinc (v := (x4_3 + 1)) (lv' := [(3, .int (x4_3 + 1)), (2, .int v_1), (0, .ref (q 0)), (1, .int p1)]) hx hb dX12_worth_47 hl (k := 3) rfl (rfl) (by decide) rfl (fun ls hl => ?_)
        refine lv_goto (tgt := 4) hx hb dX12_worth_50 (by decide) ?_
        exact ih4 v_1 (x4_3 + 1) w45 _ _ ls (mu_inc hmu4 i_x45_3 (In_lit (n := 1) (by decide) (by decide) : In 1 1 1) (by decide)) hW_w45 hM_w45 (In_w ((In_add (y := 1) i_x45_3 (In_lit (n := 1) (by decide) (by decide) : In 1 1 1) (by decide)) : In 1 10 (x4_3 + 1)) (by decide) : In 0 10 (x4_3 + 1)) (In_of (hM_w45.gI (by decide)) (In_of (hM_w45.gI (by decide)).symm g45_0_69)) hP hD hS (lv_sub hl [2, 3, 1, 0] rfl)
      refine lv_iload_n hx hb dX12_worth_4 rfl (lv_at hl 3 rfl) ?_
      refine lv_aload_n hx hb dX12_worth_5 rfl (lv_at hl 0 rfl) ?_
      refine gt_X12 hx hb hts hown hK hP 0 (hW_w4.o tM_0) 14 (by decide) wd_1415 rfl (hW_w4.fr tM_0 rfl) dX12_worth_6 ?_
      refine lv_aload_n hx hb dX12_worth_9 rfl (lv_at hl 0 rfl) ?_
      refine gt_X12 hx hb hts hown hK hP 0 (hW_w4.o tM_0) 12 (by decide) wd_1413 rfl (hW_w4.fi tM_0 rfl) dX12_worth_10 ?_
      refine tov (v := (fI w 0 12)) (hM_w4.gI (by decide)) ?_
      refine va_iald hx hb hK hP 2 0 (hW_w4.a tM_2) rfl (in_I (hW_w.fin tM_0 rfl : In 0 1 (fI w 0 12)) (by decide)) dX12_worth_13 ?_
      refine lv_topi (fun v_2 ev_2 => ?_)
      refine lv_icmp_ge (tgt := 53) hx hb dX12_worth_14 (by decide) (fun c_3 => ?_) (fun c_3 => ?_)
      · refine lv_iload_n hx hb dX12_worth_53 rfl (lv_at hl 2 rfl) ?_
        exact hret _ _ _ _ _ _ hP hD hS dX12_worth_54 ⟨hW_w4, hM_w4⟩
      · refine lv_iload_n hx hb dX12_worth_17 rfl (lv_at hl 2 rfl) ?_
        refine lv_iload_n hx hb dX12_worth_18 rfl (lv_at hl 1 rfl) ?_
        refine lv_iload_n hx hb dX12_worth_19 rfl (lv_at hl 3 rfl) ?_
        refine lv_ishr hx hb dX12_worth_20 ?_
        refine lv_topi (fun v_4 ev_4 => ?_)
        refine lv_iconst (v := 1) hx hb dX12_worth_21 (by decide) ?_
        refine lv_iand hx hb dX12_worth_22 ?_
        refine lv_iconst (v := 1) hx hb dX12_worth_23 (by decide) ?_
        refine lv_icmp_ne (tgt := 44) hx hb dX12_worth_24 (by decide) (fun c_5 => ?_) (fun c_5 => ?_)
        · refine lv_iconst (v := 0) hx hb dX12_worth_44 (by decide) ?_
          exact J45 0 w4 _ _ ls hW_w4 hM_w4 (R_nle_r (In_of ev_2 (hW_w4.ap tM_2 _) : In 0 10 v_2) i_x4_3 c_3 (by decide) : In 0 9 x4_3) (In_of (hM_w4.gI (by decide)) (In_of (hM_w4.gI (by decide)).symm g4_0_69)) hP hD hS (lv_sub hl [0, 1, 2, 3] rfl)
        · refine lv_aload_n hx hb dX12_worth_27 rfl (lv_at hl 0 rfl) ?_
          refine gt_X12 hx hb hts hown hK hP 0 (hW_w4.o tM_0) 20 (by decide) wd_1421 rfl (hW_w4.fr tM_0 rfl) dX12_worth_28 ?_
          refine lv_bipush (v := 10) hx hb dX12_worth_31 (by decide) ?_
          refine lv_aload_n hx hb dX12_worth_33 rfl (lv_at hl 0 rfl) ?_
          refine gt_X12 hx hb hts hown hK hP 0 (hW_w4.o tM_0) 12 (by decide) wd_1413 rfl (hW_w4.fi tM_0 rfl) dX12_worth_34 ?_
          refine tov (v := (fI w 0 12)) (hM_w4.gI (by decide)) ?_
          refine lv_imul hx hb dX12_worth_37 ?_
          refine lv_iload_n hx hb dX12_worth_38 rfl (lv_at hl 3 rfl) ?_
          refine lv_iadd hx hb dX12_worth_39 ?_
          refine va_iald hx hb hK hP 8 0 (hW_w4.a tM_8) rfl (in_I ((In_add ((In_mull (hW_w.fin tM_0 rfl : In 0 1 (fI w 0 12)) (n := 10) (by decide) (by decide)) : In 0 10 (10 * (fI w 0 12))) (R_nle_r (In_of ev_2 (hW_w4.ap tM_2 _) : In 0 10 v_2) i_x4_3 c_3 (by decide) : In 0 9 x4_3) (by decide)) : In 0 19 ((10 * (fI w 0 12)) + x4_3)) (by decide)) dX12_worth_40 ?_
          refine lv_topi (fun v_6 ev_6 => ?_)
          refine lv_goto (tgt := 45) hx hb dX12_worth_41 (by decide) ?_
          exact J45 v_6 w4 _ _ ls hW_w4 hM_w4 (R_nle_r (In_of ev_2 (hW_w4.ap tM_2 _) : In 0 10 v_2) i_x4_3 c_3 (by decide) : In 0 9 x4_3) (In_of (hM_w4.gI (by decide)) (In_of (hM_w4.gI (by decide)).symm g4_0_69)) hP hD hS (lv_sub hl [0, 1, 2, 3] rfl)
  refine lv_iconst (v := 0) hx hb dX12_worth_0 (by decide) ?_
  refine lv_istore_n (lv' := [(2, .int 0), (0, .ref (q 0)), (1, .int p1)]) hx hb dX12_worth_1 rfl hl (by decide) rfl (fun ls hl => ?_)
  refine lv_iconst (v := 0) hx hb dX12_worth_2 (by decide) ?_
  refine lv_istore_n (lv' := [(3, .int 0), (2, .int 0), (0, .ref (q 0)), (1, .int p1)]) hx hb dX12_worth_3 rfl hl (by decide) rfl (fun ls hl => ?_)
  exact J4 _ 0 0 w _ _ ls (Nat.lt_succ_self _) hW_w Sm.rf (In_lit (n := 0) (by decide) (by decide) : In 0 10 0) hf_0_69 hP hD hS (lv_sub hl [2, 3, 1, 0] rfl)
set_option maxRecDepth 100000 in
set_option maxHeartbeats 8000000 in
theorem k_X12_greatest (l : Launch) (D : va_G) (cI cJ cZ : ClassId) (q : Nat → Nat) (w : va_W) (hW_w : HT q (TM q cI cJ cZ) w) (p1 : Int32) (i_p1 : In 0 39 p1) (hf_0_69 : In 1 40 (fI w 0 69)) : Con_i l yX12_greatest cX12_greatest 5 (some .int) ({ frames := 1, cells := 0, slots := 0, locals := 23 }) D cI cJ cZ eW [.ref (q 0), .int p1] w (fun (r : Int32) (w1 : va_W) => HT q (TM q cI cJ cZ) w1 ∧ Sm [] [] w w1) := by
  refine eQ_i rfl (by decide) (Nat.le_of_ble_eq_true rfl) ⟨rfl, rfl⟩ ?_
  intro p e R s m args below meth c A Q hx hb hml hown hts hK hE hA hR hret hP hD hS ls hl
  have hown : s.vm.findClass RX12 = some m.cls := hown
  have hl : lv_has ls 5 [(0, .ref (q 0)), (1, .int p1)] := hl
  have J13 : ∀ (N : Nat) (x13_2 : Int32) (x13_3 : Int32) (w13 : va_W) (H : Heap) (locs : List Loc) (ls : Array Slot), (40 - x13_3.toInt).toNat < N → HT q (TM q cI cJ cZ) w13 → Sm [] [] w w13 → (In 0 39 p1) → (In 0 40 x13_3) → (In 1 40 (fI w13 0 69)) → va_P D vwCl w13 H → va_D A w13 → va_S A s.heap H locs → lv_has ls 5 [(0, .ref (q 0)), (1, .int p1), (2, .int x13_2), (3, .int x13_3)] → W p l e R s m args below meth c H locs 0 0 Q (F0 m 13 ls []) := by
    intro N
    induction N with
    | zero => intro x13_2 x13_3 w13 H locs ls hmu; exact absurd hmu (Nat.not_lt_zero _)
    | succ N ih13 =>
      intro x13_2 x13_3 w13 H locs ls hmu13 hW_w13 hM_w13 i_x13_1 i_x13_3 g13_0_69 hP hD hS hl
      have J73 : ∀ (x73_2 : Int32) (w73 : va_W) (H : Heap) (locs : List Loc) (ls : Array Slot), HT q (TM q cI cJ cZ) w73 → Sm [] [] w w73 → (In 0 39 p1) → (In 0 39 x13_3) → (In 1 40 (fI w73 0 69)) → va_P D vwCl w73 H → va_D A w73 → va_S A s.heap H locs → lv_has ls 5 [(0, .ref (q 0)), (1, .int p1), (2, .int x73_2), (3, .int x13_3)] → W p l e R s m args below meth c H locs 0 0 Q (F0 m 73 ls []) := by
        intro x73_2 w73 H locs ls hW_w73 hM_w73 i_x73_1 i_x73_3 g73_0_69 hP hD hS hl
        refine lv_iinc (v := (x13_3 + 1)) (lv' := [(3, .int (x13_3 + 1)), (0, .ref (q 0)), (1, .int p1), (2, .int x73_2)]) hx hb dX12_greatest_73 hl (k := 3) rfl (rfl) (by decide) rfl (fun ls hl => ?_)
        refine lv_goto (tgt := 13) hx hb dX12_greatest_76 (by decide) ?_
        exact ih13 x73_2 (x13_3 + 1) w73 _ _ ls (mu_inc hmu13 i_x73_3 (In_lit (n := 1) (by decide) (by decide) : In 1 1 1) (by decide)) hW_w73 hM_w73 i_p1 (In_w ((In_add (y := 1) i_x73_3 (In_lit (n := 1) (by decide) (by decide) : In 1 1 1) (by decide)) : In 1 40 (x13_3 + 1)) (by decide) : In 0 40 (x13_3 + 1)) (In_of (hM_w73.gI (by decide)) (In_of (hM_w73.gI (by decide)).symm g73_0_69)) hP hD hS (lv_sub hl [1, 2, 3, 0] rfl)
      have J72 : ∀ (x72_4 : Int32) (y72_0 : Int32) (w72 : va_W) (H : Heap) (locs : List Loc) (ls : Array Slot), HT q (TM q cI cJ cZ) w72 → Sm [] [] w w72 → (In 0 39 p1) → (In 0 39 x13_3) → (In 1 40 (fI w72 0 69)) → va_P D vwCl w72 H → va_D A w72 → va_S A s.heap H locs → lv_has ls 5 [(0, .ref (q 0)), (1, .int p1), (2, .int x13_2), (3, .int x13_3), (4, .int x72_4)] → W p l e R s m args below meth c H locs 0 0 Q (F0 m 72 ls [.int y72_0]) := by
        intro x72_4 y72_0 w72 H locs ls hW_w72 hM_w72 i_x72_1 i_x72_3 g72_0_69 hP hD hS hl
        refine lv_istore_n (lv' := [(2, .int y72_0), (0, .ref (q 0)), (1, .int p1), (3, .int x13_3), (4, .int x72_4)]) hx hb dX12_greatest_72 rfl hl (by decide) rfl (fun ls hl => ?_)
        exact J73 y72_0 w72 _ _ ls hW_w72 hM_w72 i_p1 i_x72_3 (In_of (hM_w72.gI (by decide)) (In_of (hM_w72.gI (by decide)).symm g72_0_69)) hP hD hS (lv_sub hl [1, 2, 0, 3] rfl)
      refine lv_iload_n hx hb dX12_greatest_13 rfl (lv_at hl 3 rfl) ?_
      refine lv_aload_n hx hb dX12_greatest_14 rfl (lv_at hl 0 rfl) ?_
      refine gt_X12 hx hb hts hown hK hP 0 (hW_w13.o tM_0) 69 (by decide) wd_1470 rfl (hW_w13.fi tM_0 rfl) dX12_greatest_15 ?_
      refine tov (v := (fI w 0 69)) (hM_w13.gI (by decide)) ?_
      refine lv_icmp_ge (tgt := 79) hx hb dX12_greatest_18 (by decide) (fun c_1 => ?_) (fun c_1 => ?_)
      · refine lv_iload_n hx hb dX12_greatest_79 rfl (lv_at hl 2 rfl) ?_
        exact hret _ _ _ _ _ _ hP hD hS dX12_greatest_80 ⟨hW_w13, hM_w13⟩
      · refine lv_aload_n hx hb dX12_greatest_21 rfl (lv_at hl 0 rfl) ?_
        refine gt_X12 hx hb hts hown hK hP 0 (hW_w13.o tM_0) 71 (by decide) wd_1472 rfl (hW_w13.fr tM_0 rfl) dX12_greatest_22 ?_
        refine lv_iload_n hx hb dX12_greatest_25 rfl (lv_at hl 1 rfl) ?_
        refine va_iald hx hb hK hP 48 0 (hW_w13.a tM_48) rfl (in_I i_p1 (by decide)) dX12_greatest_26 ?_
        refine lv_topi (fun v_2 ev_2 => ?_)
        refine lv_if_eq (tgt := 73) hx hb dX12_greatest_27 (by decide) (fun c_3 => ?_) (fun c_3 => ?_)
        · exact J73 x13_2 w13 _ _ ls hW_w13 hM_w13 i_p1 (R_nle_r (In_of (hM_w13.gI (by decide)).symm g13_0_69) i_x13_3 c_1 (by decide) : In 0 39 x13_3) (In_of (hM_w13.gI (by decide)) (In_of (hM_w13.gI (by decide)).symm g13_0_69)) hP hD hS (lv_sub hl [0, 1, 2, 3] rfl)
        · refine lv_aload_n hx hb dX12_greatest_30 rfl (lv_at hl 0 rfl) ?_
          refine gt_X12 hx hb hts hown hK hP 0 (hW_w13.o tM_0) 71 (by decide) wd_1472 rfl (hW_w13.fr tM_0 rfl) dX12_greatest_31 ?_
          refine lv_iload_n hx hb dX12_greatest_34 rfl (lv_at hl 3 rfl) ?_
          refine va_iald hx hb hK hP 48 0 (hW_w13.a tM_48) rfl (in_I (R_nle_r (In_of (hM_w13.gI (by decide)).symm g13_0_69) i_x13_3 c_1 (by decide) : In 0 39 x13_3) (by decide)) dX12_greatest_35 ?_
          refine lv_topi (fun v_4 ev_4 => ?_)
          refine lv_aload_n hx hb dX12_greatest_36 rfl (lv_at hl 0 rfl) ?_
          refine gt_X12 hx hb hts hown hK hP 0 (hW_w13.o tM_0) 71 (by decide) wd_1472 rfl (hW_w13.fr tM_0 rfl) dX12_greatest_37 ?_
          refine lv_iload_n hx hb dX12_greatest_40 rfl (lv_at hl 1 rfl) ?_
          refine va_iald hx hb hK hP 48 0 (hW_w13.a tM_48) rfl (in_I i_p1 (by decide)) dX12_greatest_41 ?_
          refine tov (v := v_2) ((congrFun (hM_w13.hA (by decide)) _).trans ((congrFun (hM_w13.hA (by decide)) _).symm.trans ev_2.symm)) ?_
          refine lv_icmp_eq (tgt := 48) hx hb dX12_greatest_42 (by decide) (fun c_5 => ?_) (fun c_5 => ?_)
          · refine lv_aload_n hx hb dX12_greatest_48 rfl (lv_at hl 0 rfl) ?_
            refine lv_aload_n hx hb dX12_greatest_49 rfl (lv_at hl 0 rfl) ?_
            refine gt_X12 hx hb hts hown hK hP 0 (hW_w13.o tM_0) 76 (by decide) wd_1477 rfl (hW_w13.fr tM_0 rfl) dX12_greatest_50 ?_
            refine lv_iload_n hx hb dX12_greatest_53 rfl (lv_at hl 3 rfl) ?_
            refine va_iald hx hb hK hP 53 0 (hW_w13.a tM_53) rfl (in_I (R_nle_r (In_of (hM_w13.gI (by decide)).symm g13_0_69) i_x13_3 c_1 (by decide) : In 0 39 x13_3) (by decide)) dX12_greatest_54 ?_
            refine lv_topi (fun v_6 ev_6 => ?_)
            refine kW_i ⟨rfl, rfl⟩ hP hD hS hA (rW_V (As := [.int v_6]) (rest := []) hx hb hml hown hts hK hE hP hD (k_X12_worth l D cI cJ cZ q w13 hW_w13 v_6 (In_of (hM_w13.gI (by decide)) (In_of (hM_w13.gI (by decide)).symm g13_0_69)) _) ⟨⟨rfl, rfl⟩, rfl, rfl⟩ sv_X12_553 ⟨(Nat.le_trans (by decide) hR.1), (Nat.le_trans (by decide) hR.2)⟩ 0 12 (hW_w13.o tM_0) rfl rfl rfl hl.1 rfl (Nat.le_of_ble_eq_true rfl) dX12_greatest_55) (fun r_8 w_7 H locs hw_w_7 hP hD hS => ?_)
            obtain ⟨hW_w_7, hs_w_7⟩ := hw_w_7
            refine lv_istore (lv' := [(4, .int r_8), (0, .ref (q 0)), (1, .int p1), (2, .int x13_2), (3, .int x13_3)]) hx hb dX12_greatest_58 hl (by decide) rfl (fun ls hl => ?_)
            refine lv_iload hx hb dX12_greatest_60 (lv_at hl 0 rfl) ?_
            refine lv_iload_n hx hb dX12_greatest_62 rfl (lv_at hl 3 rfl) ?_
            refine lv_icmp_le (tgt := 71) hx hb dX12_greatest_63 (by decide) (fun c_9 => ?_) (fun c_9 => ?_)
            · refine lv_iload_n hx hb dX12_greatest_71 rfl (lv_at hl 3 rfl) ?_
              exact J72 r_8 x13_2 w_7 _ _ ls hW_w_7 (hM_w13.tr hs_w_7 (by decide)) i_p1 (R_nle_r (In_of (hM_w13.gI (by decide)).symm g13_0_69) i_x13_3 c_1 (by decide) : In 0 39 x13_3) (In_of ((hs_w_7.gI (by decide)).trans (hM_w13.gI (by decide))) (In_of (hM_w13.gI (by decide)).symm g13_0_69)) hP hD hS (lv_sub hl [1, 2, 3, 4, 0] rfl)
            · refine lv_iload hx hb dX12_greatest_66 (lv_at hl 0 rfl) ?_
              refine lv_goto (tgt := 72) hx hb dX12_greatest_68 (by decide) ?_
              exact J72 r_8 r_8 w_7 _ _ ls hW_w_7 (hM_w13.tr hs_w_7 (by decide)) i_p1 (R_nle_r (In_of (hM_w13.gI (by decide)).symm g13_0_69) i_x13_3 c_1 (by decide) : In 0 39 x13_3) (In_of ((hs_w_7.gI (by decide)).trans (hM_w13.gI (by decide))) (In_of (hM_w13.gI (by decide)).symm g13_0_69)) hP hD hS (lv_sub hl [1, 2, 3, 4, 0] rfl)
          · refine lv_goto (tgt := 73) hx hb dX12_greatest_45 (by decide) ?_
            exact J73 x13_2 w13 _ _ ls hW_w13 hM_w13 i_p1 (R_nle_r (In_of (hM_w13.gI (by decide)).symm g13_0_69) i_x13_3 c_1 (by decide) : In 0 39 x13_3) (In_of (hM_w13.gI (by decide)) (In_of (hM_w13.gI (by decide)).symm g13_0_69)) hP hD hS (lv_sub hl [0, 1, 2, 3] rfl)
  refine lv_aload_n hx hb dX12_greatest_0 rfl (lv_at hl 0 rfl) ?_
  refine lv_aload_n hx hb dX12_greatest_1 rfl (lv_at hl 0 rfl) ?_
  refine gt_X12 hx hb hts hown hK hP 0 (hW_w.o tM_0) 76 (by decide) wd_1477 rfl (hW_w.fr tM_0 rfl) dX12_greatest_2 ?_
  refine lv_iload_n hx hb dX12_greatest_5 rfl (lv_at hl 1 rfl) ?_
  refine va_iald hx hb hK hP 53 0 (hW_w.a tM_53) rfl (in_I i_p1 (by decide)) dX12_greatest_6 ?_
  refine lv_topi (fun v_10 ev_10 => ?_)
  refine kW_i ⟨rfl, rfl⟩ hP hD hS hA (rW_V (As := [.int v_10]) (rest := []) hx hb hml hown hts hK hE hP hD (k_X12_worth l D cI cJ cZ q w hW_w v_10 hf_0_69 _) ⟨⟨rfl, rfl⟩, rfl, rfl⟩ sv_X12_553 ⟨(Nat.le_trans (by decide) hR.1), (Nat.le_trans (by decide) hR.2)⟩ 0 12 (hW_w.o tM_0) rfl rfl rfl hl.1 rfl (Nat.le_of_ble_eq_true rfl) dX12_greatest_7) (fun r_12 w_11 H locs hw_w_11 hP hD hS => ?_)
  obtain ⟨hW_w_11, hs_w_11⟩ := hw_w_11
  refine lv_istore_n (lv' := [(2, .int r_12), (0, .ref (q 0)), (1, .int p1)]) hx hb dX12_greatest_10 rfl hl (by decide) rfl (fun ls hl => ?_)
  refine lv_iconst (v := 0) hx hb dX12_greatest_11 (by decide) ?_
  refine lv_istore_n (lv' := [(3, .int 0), (2, .int r_12), (0, .ref (q 0)), (1, .int p1)]) hx hb dX12_greatest_12 rfl hl (by decide) rfl (fun ls hl => ?_)
  exact J13 _ r_12 0 w_11 _ _ ls (Nat.lt_succ_self _) hW_w_11 (Sm.rf.tr hs_w_11 (by decide)) i_p1 (In_lit (n := 0) (by decide) (by decide) : In 0 40 0) (In_of (hs_w_11.gI (by decide)) hf_0_69) hP hD hS (lv_sub hl [2, 3, 1, 0] rfl)
set_option maxRecDepth 100000 in
set_option maxHeartbeats 8000000 in
theorem k_X12_isAhead (l : Launch) (D : va_G) (cI cJ cZ : ClassId) (q : Nat → Nat) (w : va_W) (hW_w : HT q (TM q cI cJ cZ) w) (p0 : Int32) (p1 : Int32) (i_p0 : In 1 2147483646 p0) (i_p1 : In 0 2147483646 p1) (hf_0_69 : In 1 40 (fI w 0 69)) : Con_i l yX12_isAhead cX12_isAhead 3 (some .boolean) ({ frames := 0, cells := 0, slots := 0, locals := 0 }) D cI cJ cZ eW [.int p0, .int p1] w (fun (r : Int32) (w1 : va_W) => HT q (TM q cI cJ cZ) w1 ∧ Sm [] [] w w1 ∧ In 0 1 r) := by
  refine eQ_z rfl (by decide) (Nat.le_of_ble_eq_true rfl) ⟨rfl, rfl⟩ ?_
  intro p e R s m args below meth c A Q hx hb hml hown hts hK hE hA hR hret hP hD hS ls hl
  have hown : s.vm.findClass RX12 = some m.cls := hown
  have hl : lv_has ls 3 [(0, .int p0), (1, .int p1)] := hl
  refine lv_iload_n hx hb dX12_isAhead_0 rfl (lv_at hl 0 rfl) ?_
  refine lv_iload_n hx hb dX12_isAhead_1 rfl (lv_at hl 1 rfl) ?_
  refine lv_ixor hx hb dX12_isAhead_2 ?_
  refine lv_topi (fun v_1 ev_1 => ?_)
  refine lv_istore_n (lv' := [(2, .int v_1), (0, .int p0), (1, .int p1)]) hx hb dX12_isAhead_3 rfl hl (by decide) rfl (fun ls hl => ?_)
  refine lv_iload_n hx hb dX12_isAhead_4 rfl (lv_at hl 0 rfl) ?_
  refine lv_if_eq (tgt := 21) hx hb dX12_isAhead_5 (by decide) (fun c_2 => ?_) (fun c_2 => ?_)
  · refine lv_iconst (v := 0) hx hb dX12_isAhead_21 (by decide) ?_
    exact hret _ _ _ _ _ _ hP hD hS dX12_isAhead_22 (In_lit (n := 0) (by decide) (by decide) : In 0 1 0) ⟨hW_w, Sm.rf, (In_lit (n := 0) (by decide) (by decide) : In 0 1 0)⟩
  · refine lv_iload_n hx hb dX12_isAhead_8 rfl (lv_at hl 1 rfl) ?_
    refine lv_iload_n hx hb dX12_isAhead_9 rfl (lv_at hl 0 rfl) ?_
    refine lv_iand hx hb dX12_isAhead_10 ?_
    refine lv_topi (fun v_3 ev_3 => ?_)
    refine lv_iload_n hx hb dX12_isAhead_11 rfl (lv_at hl 0 rfl) ?_
    refine lv_ineg hx hb dX12_isAhead_12 ?_
    refine lv_topi (fun v_4 ev_4 => ?_)
    refine lv_iand hx hb dX12_isAhead_13 ?_
    refine lv_topi (fun v_5 ev_5 => ?_)
    refine lv_if_eq (tgt := 21) hx hb dX12_isAhead_14 (by decide) (fun c_6 => ?_) (fun c_6 => ?_)
    · refine lv_iconst (v := 0) hx hb dX12_isAhead_21 (by decide) ?_
      exact hret _ _ _ _ _ _ hP hD hS dX12_isAhead_22 (In_lit (n := 0) (by decide) (by decide) : In 0 1 0) ⟨hW_w, Sm.rf, (In_lit (n := 0) (by decide) (by decide) : In 0 1 0)⟩
    · refine lv_iconst (v := 1) hx hb dX12_isAhead_17 (by decide) ?_
      refine lv_goto (tgt := 22) hx hb dX12_isAhead_18 (by decide) ?_
      exact hret _ _ _ _ _ _ hP hD hS dX12_isAhead_22 (In_lit (n := 1) (by decide) (by decide) : In 0 1 1) ⟨hW_w, Sm.rf, (In_lit (n := 1) (by decide) (by decide) : In 0 1 1)⟩
set_option maxRecDepth 100000 in
set_option maxHeartbeats 8000000 in
theorem k_X12_isRight (l : Launch) (D : va_G) (cI cJ cZ : ClassId) (q : Nat → Nat) (w : va_W) (hW_w : HT q (TM q cI cJ cZ) w) (p1 : Int32) (i_p1 : In 0 39 p1) (hf_0_69 : In 1 40 (fI w 0 69)) : Con_i l yX12_isRight cX12_isRight 2 (some .boolean) ({ frames := 2, cells := 0, slots := 0, locals := 47 }) D cI cJ cZ eW [.ref (q 0), .int p1] w (fun (r : Int32) (w1 : va_W) => HT q (TM q cI cJ cZ) w1 ∧ Sm [] [] w w1 ∧ In 0 1 r) := by
  refine eQ_z rfl (by decide) (Nat.le_of_ble_eq_true rfl) ⟨rfl, rfl⟩ ?_
  intro p e R s m args below meth c A Q hx hb hml hown hts hK hE hA hR hret hP hD hS ls hl
  have hown : s.vm.findClass RX12 = some m.cls := hown
  have hl : lv_has ls 2 [(0, .ref (q 0)), (1, .int p1)] := hl
  refine lv_aload_n hx hb dX12_isRight_0 rfl (lv_at hl 0 rfl) ?_
  refine gt_X12 hx hb hts hown hK hP 0 (hW_w.o tM_0) 76 (by decide) wd_1477 rfl (hW_w.fr tM_0 rfl) dX12_isRight_1 ?_
  refine lv_iload_n hx hb dX12_isRight_4 rfl (lv_at hl 1 rfl) ?_
  refine va_iald hx hb hK hP 53 0 (hW_w.a tM_53) rfl (in_I i_p1 (by decide)) dX12_isRight_5 ?_
  refine lv_topi (fun v_1 ev_1 => ?_)
  refine kW_i ⟨rfl, rfl⟩ hP hD hS hA (rW_S (As := [.int v_1]) (rest := []) hx hb hml hown hts hK hE hP hD (k_X12_bits l D cI cJ cZ q w hW_w v_1 hf_0_69 _) ⟨⟨rfl, rfl⟩, rfl, rfl⟩ sv_X12_544 ⟨(Nat.le_trans (by decide) hR.1), (Nat.le_trans (by decide) hR.2)⟩ rfl hl.1 rfl (Nat.le_of_ble_eq_true rfl) dX12_isRight_6) (fun r_3 w_2 H locs hw_w_2 hP hD hS => ?_)
  obtain ⟨hW_w_2, hs_w_2⟩ := hw_w_2
  refine lv_aload_n hx hb dX12_isRight_9 rfl (lv_at hl 0 rfl) ?_
  refine gt_X12 hx hb hts hown hK hP 0 (hW_w_2.o tM_0) 70 (by decide) wd_1471 rfl (hW_w_2.fr tM_0 rfl) dX12_isRight_10 ?_
  refine lv_iload_n hx hb dX12_isRight_13 rfl (lv_at hl 1 rfl) ?_
  refine va_iald hx hb hK hP 47 0 (hW_w_2.a tM_47) rfl (in_I i_p1 (by decide)) dX12_isRight_14 ?_
  refine lv_topi (fun v_4 ev_4 => ?_)
  refine lv_icmp_lt (tgt := 50) hx hb dX12_isRight_15 (by decide) (fun c_5 => ?_) (fun c_5 => ?_)
  · refine lv_iconst (v := 0) hx hb dX12_isRight_50 (by decide) ?_
    exact hret _ _ _ _ _ _ hP hD hS dX12_isRight_51 (In_lit (n := 0) (by decide) (by decide) : In 0 1 0) ⟨hW_w_2, (Sm.rf.tr hs_w_2 (by decide)), (In_lit (n := 0) (by decide) (by decide) : In 0 1 0)⟩
  · refine lv_aload_n hx hb dX12_isRight_18 rfl (lv_at hl 0 rfl) ?_
    refine lv_aload_n hx hb dX12_isRight_19 rfl (lv_at hl 0 rfl) ?_
    refine gt_X12 hx hb hts hown hK hP 0 (hW_w_2.o tM_0) 76 (by decide) wd_1477 rfl (hW_w_2.fr tM_0 rfl) dX12_isRight_20 ?_
    refine lv_iload_n hx hb dX12_isRight_23 rfl (lv_at hl 1 rfl) ?_
    refine va_iald hx hb hK hP 53 0 (hW_w_2.a tM_53) rfl (in_I i_p1 (by decide)) dX12_isRight_24 ?_
    refine tov (v := v_1) ((congrFun (hs_w_2.hA (by decide)) _).trans ev_1.symm) ?_
    refine kW_i ⟨rfl, rfl⟩ hP hD hS hA (rW_V (As := [.int v_1]) (rest := []) hx hb hml hown hts hK hE hP hD (k_X12_worth l D cI cJ cZ q w_2 hW_w_2 v_1 (In_of (hs_w_2.gI (by decide)) hf_0_69) _) ⟨⟨rfl, rfl⟩, rfl, rfl⟩ sv_X12_553 ⟨(Nat.le_trans (by decide) hR.1), (Nat.le_trans (by decide) hR.2)⟩ 0 12 (hW_w_2.o tM_0) rfl rfl rfl hl.1 rfl (Nat.le_of_ble_eq_true rfl) dX12_isRight_25) (fun r_7 w_6 H locs hw_w_6 hP hD hS => ?_)
    obtain ⟨hW_w_6, hs_w_6⟩ := hw_w_6
    refine lv_aload_n hx hb dX12_isRight_28 rfl (lv_at hl 0 rfl) ?_
    refine lv_iload_n hx hb dX12_isRight_29 rfl (lv_at hl 1 rfl) ?_
    refine kW_i ⟨rfl, rfl⟩ hP hD hS hA (rW_V (As := [.int p1]) (rest := [.int r_7]) hx hb hml hown hts hK hE hP hD (k_X12_greatest l D cI cJ cZ q w_6 hW_w_6 p1 i_p1 (In_of ((hs_w_6.gI (by decide)).trans (hs_w_2.gI (by decide))) hf_0_69) _) ⟨⟨rfl, rfl⟩, rfl, rfl⟩ sv_X12_556 ⟨(Nat.le_trans (by decide) hR.1), (Nat.le_trans (by decide) hR.2)⟩ 0 12 (hW_w_6.o tM_0) rfl rfl rfl hl.1 rfl (Nat.le_of_ble_eq_true rfl) dX12_isRight_30) (fun r_9 w_8 H locs hw_w_8 hP hD hS => ?_)
    obtain ⟨hW_w_8, hs_w_8⟩ := hw_w_8
    refine lv_aload_n hx hb dX12_isRight_33 rfl (lv_at hl 0 rfl) ?_
    refine gt_X12 hx hb hts hown hK hP 0 (hW_w_8.o tM_0) 17 (by decide) wd_1418 rfl (hW_w_8.fr tM_0 rfl) dX12_isRight_34 ?_
    refine lv_aload_n hx hb dX12_isRight_37 rfl (lv_at hl 0 rfl) ?_
    refine gt_X12 hx hb hts hown hK hP 0 (hW_w_8.o tM_0) 12 (by decide) wd_1413 rfl (hW_w_8.fi tM_0 rfl) dX12_isRight_38 ?_
    refine tov (v := (fI w 0 12)) ((hs_w_8.gI (by decide)).trans ((hs_w_6.gI (by decide)).trans (hs_w_2.gI (by decide)))) ?_
    refine va_iald hx hb hK hP 5 0 (hW_w_8.a tM_5) rfl (in_I (hW_w.fin tM_0 rfl : In 0 1 (fI w 0 12)) (by decide)) dX12_isRight_41 ?_
    refine lv_topi (fun v_10 ev_10 => ?_)
    refine lv_isub hx hb dX12_isRight_42 ?_
    refine lv_topi (fun v_11 ev_11 => ?_)
    refine lv_icmp_lt (tgt := 50) hx hb dX12_isRight_43 (by decide) (fun c_12 => ?_) (fun c_12 => ?_)
    · refine lv_iconst (v := 0) hx hb dX12_isRight_50 (by decide) ?_
      exact hret _ _ _ _ _ _ hP hD hS dX12_isRight_51 (In_lit (n := 0) (by decide) (by decide) : In 0 1 0) ⟨hW_w_8, (((Sm.rf.tr hs_w_2 (by decide)).tr hs_w_6 (by decide)).tr hs_w_8 (by decide)), (In_lit (n := 0) (by decide) (by decide) : In 0 1 0)⟩
    · refine lv_iconst (v := 1) hx hb dX12_isRight_46 (by decide) ?_
      refine lv_goto (tgt := 51) hx hb dX12_isRight_47 (by decide) ?_
      exact hret _ _ _ _ _ _ hP hD hS dX12_isRight_51 (In_lit (n := 1) (by decide) (by decide) : In 0 1 1) ⟨hW_w_8, (((Sm.rf.tr hs_w_2 (by decide)).tr hs_w_6 (by decide)).tr hs_w_8 (by decide)), (In_lit (n := 1) (by decide) (by decide) : In 0 1 1)⟩
