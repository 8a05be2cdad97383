set_option maxRecDepth 100000 in
set_option maxHeartbeats 8000000 in
theorem k_X2_levelLeft (l : Launch) (D : va_G) (cI cJ cZ : ClassId) (q : Nat → Nat) (bb bs bp : Nat) (w : va_W) (hW_w : HT q (TX q cI cJ cZ bb bs bp) w) (hf_64_1 : In 1 40 (fI w 64 1)) (hf_64_2 : In 1 24 (fI w 64 2)) : Con_v l yX2_levelLeft cX2_levelLeft 3 none ({ frames := 3, cells := 0, slots := 0, locals := 77 }) D cI cJ cZ eW [.ref (q 74)] w (fun (w1 : va_W) => HT q (TX q cI cJ cZ bb bs bp) w1 ∧ Sm [74, 75, 76, 77, 78, 79, 80] [(74, 6), (74, 10)] w w1) := by
  refine eQ_v rfl (by decide) (Nat.le_of_ble_eq_true rfl) ⟨rfl, rfl⟩ ?_
  intro p e R s m args below meth c A Q hx hb hml hown hts hK hE hA hR hret hP hD hS ls hl
  have hown : s.vm.findClass RX2 = some m.cls := hown
  have hl : lv_has ls 3 [(0, .ref (q 74))] := hl
  have J70 : ∀ (N : Nat) (x70_2 : Int32) (w70 : va_W) (H : Heap) (locs : List Loc) (ls : Array Slot), (10 - x70_2.toInt).toNat < N → HT q (TX q cI cJ cZ bb bs bp) w70 → Sm [74, 75, 76, 77, 78, 79, 80] [(74, 6), (74, 10)] w w70 → (In 0 23 ((fI w 64 2) - 1)) → (In 0 10 x70_2) → (In 1 40 (fI w70 64 1)) → (In 1 24 (fI w70 64 2)) → va_P D vwCl w70 H → va_D A w70 → va_S A s.heap H locs → lv_has ls 3 [(0, .ref (q 74)), (1, .int ((fI w 64 2) - 1)), (2, .int x70_2)] → W p l e R s m args below meth c H locs 0 0 Q (F0 m 70 ls []) := by
    intro N
    induction N with
    | zero => intro x70_2 w70 H locs ls hmu; exact absurd hmu (Nat.not_lt_zero _)
    | succ N ih70 =>
      intro x70_2 w70 H locs ls hmu70 hW_w70 hM_w70 i_x70_1 i_x70_2 g70_64_1 g70_64_2 hP hD hS hl
      refine lv_iload_n hx hb dX2_levelLeft_70 rfl (lv_at hl 2 rfl) ?_
      refine lv_aload_n hx hb dX2_levelLeft_71 rfl (lv_at hl 0 rfl) ?_
      refine gt_X2 hx hb hts hown hK hP 74 (hW_w70.o tX_74) 0 (by decide) wd_467 rfl (hW_w70.fr tX_74 rfl) dX2_levelLeft_72 ?_
      refine gt_X3 hx hb hts hown hK hP 64 (hW_w70.o tX_64) 0 (by decide) wd_402 rfl (hW_w70.fi tX_64 rfl) dX2_levelLeft_75 ?_
      refine tov (v := (fI w 64 0)) (hM_w70.gI (by decide)) ?_
      refine lv_icmp_ge (tgt := 99) hx hb dX2_levelLeft_78 (by decide) (fun c_1 => ?_) (fun c_1 => ?_)
      · exact hret _ _ _ _ _ hP hD hS dX2_levelLeft_99 ⟨hW_w70, hM_w70⟩
      · refine lv_aload_n hx hb dX2_levelLeft_81 rfl (lv_at hl 0 rfl) ?_
        refine lv_bipush (v := (-2)) hx hb dX2_levelLeft_82 (by decide) ?_
        refine lv_iload_n hx hb dX2_levelLeft_84 rfl (lv_at hl 2 rfl) ?_
        refine lv_iload_n hx hb dX2_levelLeft_85 rfl (lv_at hl 1 rfl) ?_
        refine lv_aload_n hx hb dX2_levelLeft_86 rfl (lv_at hl 0 rfl) ?_
        refine gt_X2 hx hb hts hown hK hP 74 (hW_w70.o tX_74) 6 (by decide) wd_477 rfl (hW_w70.fl tX_74 rfl) dX2_levelLeft_87 ?_
        refine kW_v ⟨rfl, rfl⟩ hP hD hS hA (rW_V (As := [.int (-2), .int x70_2, .int ((fI w 64 2) - 1), .long (fL w70 74 6)]) (rest := []) hx hb hml hown hts hK hE hP hD (k_X2_want l D cI cJ cZ q bb bs bp w70 hW_w70 (-2) x70_2 ((fI w 64 2) - 1) (fL w70 74 6) (In_lit (n := (-2)) (by decide) (by decide) : In (-2) 39 (-2)) (R_nle_r (hW_w.fin tX_64 rfl : In 0 10 (fI w 64 0)) i_x70_2 c_1 (by decide) : In 0 9 x70_2) i_x70_1 (In_of (hM_w70.gI (by decide)) (R_nle_l (hW_w.fin tX_64 rfl : In 0 10 (fI w 64 0)) i_x70_2 c_1 (by decide) : In 1 10 (fI w 64 0))) (In_of (hM_w70.gI (by decide)) (In_of (hM_w70.gI (by decide)).symm g70_64_1)) (In_of (hM_w70.gI (by decide)) (In_of (hM_w70.gI (by decide)).symm g70_64_2)) _) ⟨⟨rfl, rfl⟩, rfl, rfl⟩ sv_X2_115 ⟨(Nat.le_trans (by decide) hR.1), (Nat.le_trans (by decide) hR.2)⟩ 74 2 (hW_w70.o tX_74) rfl rfl rfl hl.1 rfl (Nat.le_of_ble_eq_true rfl) dX2_levelLeft_90) (fun w_2 H locs hw_w_2 hP hD hS => ?_)
        obtain ⟨hW_w_2, hs_w_2, h_4⟩ := hw_w_2
        refine lv_iinc (v := (x70_2 + 1)) (lv' := [(2, .int (x70_2 + 1)), (0, .ref (q 74)), (1, .int ((fI w 64 2) - 1))]) hx hb dX2_levelLeft_93 hl (k := 2) rfl (rfl) (by decide) rfl (fun ls hl => ?_)
        refine lv_goto (tgt := 70) hx hb dX2_levelLeft_96 (by decide) ?_
        exact ih70 (x70_2 + 1) w_2 _ _ ls (mu_inc hmu70 (R_nle_r (hW_w.fin tX_64 rfl : In 0 10 (fI w 64 0)) i_x70_2 c_1 (by decide) : In 0 9 x70_2) (In_lit (n := 1) (by decide) (by decide) : In 1 1 1) (by decide)) hW_w_2 (hM_w70.tr hs_w_2 (by decide)) i_x70_1 (In_w ((In_add (y := 1) (R_nle_r (hW_w.fin tX_64 rfl : In 0 10 (fI w 64 0)) i_x70_2 c_1 (by decide) : In 0 9 x70_2) (In_lit (n := 1) (by decide) (by decide) : In 1 1 1) (by decide)) : In 1 10 (x70_2 + 1)) (by decide) : In 0 10 (x70_2 + 1)) (In_of ((hs_w_2.gI (by decide)).trans (hM_w70.gI (by decide))) (In_of (hM_w70.gI (by decide)).symm g70_64_1)) (In_of ((hs_w_2.gI (by decide)).trans (hM_w70.gI (by decide))) (In_of (hM_w70.gI (by decide)).symm g70_64_2)) hP hD hS (lv_sub hl [1, 2, 0] rfl)
  have J12 : ∀ (N : Nat) (x12_2 : Int32) (w12 : va_W) (H : Heap) (locs : List Loc) (ls : Array Slot), (10 - x12_2.toInt).toNat < N → HT q (TX q cI cJ cZ bb bs bp) w12 → Sm [74, 75, 76, 77, 78, 79, 80] [(74, 6), (74, 10)] w w12 → (In 0 23 ((fI w 64 2) - 1)) → (In 0 10 x12_2) → (In 1 40 (fI w12 64 1)) → (In 1 24 (fI w12 64 2)) → va_P D vwCl w12 H → va_D A w12 → va_S A s.heap H locs → lv_has ls 3 [(0, .ref (q 74)), (1, .int ((fI w 64 2) - 1)), (2, .int x12_2)] → W p l e R s m args below meth c H locs 0 0 Q (F0 m 12 ls []) := by
    intro N
    induction N with
    | zero => intro x12_2 w12 H locs ls hmu; exact absurd hmu (Nat.not_lt_zero _)
    | succ N ih12 =>
      intro x12_2 w12 H locs ls hmu12 hW_w12 hM_w12 i_x12_1 i_x12_2 g12_64_1 g12_64_2 hP hD hS hl
      have J62 : ∀ (w62 : va_W) (H : Heap) (locs : List Loc) (ls : Array Slot), HT q (TX q cI cJ cZ bb bs bp) w62 → Sm [74, 75, 76, 77, 78, 79, 80] [(74, 6), (74, 10)] w w62 → (In 0 23 ((fI w 64 2) - 1)) → (In 0 9 x12_2) → (In 1 10 (fI w62 64 0)) → (In 1 40 (fI w62 64 1)) → (In 1 24 (fI w62 64 2)) → va_P D vwCl w62 H → va_D A w62 → va_S A s.heap H locs → lv_has ls 3 [(0, .ref (q 74)), (1, .int ((fI w 64 2) - 1)), (2, .int x12_2)] → W p l e R s m args below meth c H locs 0 0 Q (F0 m 62 ls []) := by
        intro w62 H locs ls hW_w62 hM_w62 i_x62_1 i_x62_2 g62_64_0 g62_64_1 g62_64_2 hP hD hS hl
        refine lv_iinc (v := (x12_2 + 1)) (lv' := [(2, .int (x12_2 + 1)), (0, .ref (q 74)), (1, .int ((fI w 64 2) - 1))]) hx hb dX2_levelLeft_62 hl (k := 2) rfl (rfl) (by decide) rfl (fun ls hl => ?_)
        refine lv_goto (tgt := 12) hx hb dX2_levelLeft_65 (by decide) ?_
        exact ih12 (x12_2 + 1) w62 _ _ ls (mu_inc hmu12 i_x62_2 (In_lit (n := 1) (by decide) (by decide) : In 1 1 1) (by decide)) hW_w62 hM_w62 i_x12_1 (In_w ((In_add (y := 1) i_x62_2 (In_lit (n := 1) (by decide) (by decide) : In 1 1 1) (by decide)) : In 1 10 (x12_2 + 1)) (by decide) : In 0 10 (x12_2 + 1)) (In_of (hM_w62.gI (by decide)) (In_of (hM_w62.gI (by decide)).symm g62_64_1)) (In_of (hM_w62.gI (by decide)) (In_of (hM_w62.gI (by decide)).symm g62_64_2)) hP hD hS (lv_sub hl [1, 2, 0] rfl)
      refine lv_iload_n hx hb dX2_levelLeft_12 rfl (lv_at hl 2 rfl) ?_
      refine lv_aload_n hx hb dX2_levelLeft_13 rfl (lv_at hl 0 rfl) ?_
      refine gt_X2 hx hb hts hown hK hP 74 (hW_w12.o tX_74) 0 (by decide) wd_467 rfl (hW_w12.fr tX_74 rfl) dX2_levelLeft_14 ?_
      refine gt_X3 hx hb hts hown hK hP 64 (hW_w12.o tX_64) 0 (by decide) wd_402 rfl (hW_w12.fi tX_64 rfl) dX2_levelLeft_17 ?_
      refine tov (v := (fI w 64 0)) (hM_w12.gI (by decide)) ?_
      refine lv_icmp_ge (tgt := 68) hx hb dX2_levelLeft_20 (by decide) (fun c_5 => ?_) (fun c_5 => ?_)
      · refine lv_iconst (v := 0) hx hb dX2_levelLeft_68 (by decide) ?_
        refine lv_istore_n (lv' := [(2, .int 0), (0, .ref (q 74)), (1, .int ((fI w 64 2) - 1))]) hx hb dX2_levelLeft_69 rfl hl (by decide) rfl (fun ls hl => ?_)
        exact J70 _ 0 w12 _ _ ls (Nat.lt_succ_self _) hW_w12 hM_w12 i_x12_1 (In_lit (n := 0) (by decide) (by decide) : In 0 10 0) (In_of (hM_w12.gI (by decide)) (In_of (hM_w12.gI (by decide)).symm g12_64_1)) (In_of (hM_w12.gI (by decide)) (In_of (hM_w12.gI (by decide)).symm g12_64_2)) hP hD hS (lv_sub hl [1, 2, 0] rfl)
      · refine lv_aload_n hx hb dX2_levelLeft_23 rfl (lv_at hl 0 rfl) ?_
        refine gt_X2 hx hb hts hown hK hP 74 (hW_w12.o tX_74) 0 (by decide) wd_467 rfl (hW_w12.fr tX_74 rfl) dX2_levelLeft_24 ?_
        refine gt_X3 hx hb hts hown hK hP 64 (hW_w12.o tX_64) 11 (by decide) wd_434 rfl (hW_w12.fr tX_64 rfl) dX2_levelLeft_27 ?_
        refine lv_iload_n hx hb dX2_levelLeft_30 rfl (lv_at hl 2 rfl) ?_
        refine lv_bipush (v := 24) hx hb dX2_levelLeft_31 (by decide) ?_
        refine lv_imul hx hb dX2_levelLeft_33 ?_
        refine lv_iload_n hx hb dX2_levelLeft_34 rfl (lv_at hl 1 rfl) ?_
        refine lv_iadd hx hb dX2_levelLeft_35 ?_
        refine va_iald hx hb hK hP 73 0 (hW_w12.a tX_73) rfl (in_I ((In_add ((In_mulr (R_nle_r (hW_w.fin tX_64 rfl : In 0 10 (fI w 64 0)) i_x12_2 c_5 (by decide) : In 0 9 x12_2) (n := 24) (by decide) (by decide)) : In 0 216 (x12_2 * 24)) i_x12_1 (by decide)) : In 0 239 ((x12_2 * 24) + ((fI w 64 2) - 1))) (by decide)) dX2_levelLeft_36 ?_
        refine lv_topi (fun v_6 ev_6 => ?_)
        refine lv_if_le (tgt := 62) hx hb dX2_levelLeft_37 (by decide) (fun c_7 => ?_) (fun c_7 => ?_)
        · exact J62 w12 _ _ ls hW_w12 hM_w12 i_x12_1 (R_nle_r (hW_w.fin tX_64 rfl : In 0 10 (fI w 64 0)) i_x12_2 c_5 (by decide) : In 0 9 x12_2) (In_of (hM_w12.gI (by decide)) (R_nle_l (hW_w.fin tX_64 rfl : In 0 10 (fI w 64 0)) i_x12_2 c_5 (by decide) : In 1 10 (fI w 64 0))) (In_of (hM_w12.gI (by decide)) (In_of (hM_w12.gI (by decide)).symm g12_64_1)) (In_of (hM_w12.gI (by decide)) (In_of (hM_w12.gI (by decide)).symm g12_64_2)) hP hD hS (lv_sub hl [0, 1, 2] rfl)
        · refine lv_aload_n hx hb dX2_levelLeft_40 rfl (lv_at hl 0 rfl) ?_
          refine lv_aload_n hx hb dX2_levelLeft_41 rfl (lv_at hl 0 rfl) ?_
          refine gt_X2 hx hb hts hown hK hP 74 (hW_w12.o tX_74) 6 (by decide) wd_477 rfl (hW_w12.fl tX_74 rfl) dX2_levelLeft_42 ?_
          refine lv_aload_n hx hb dX2_levelLeft_45 rfl (lv_at hl 0 rfl) ?_
          refine gt_X2 hx hb hts hown hK hP 74 (hW_w12.o tX_74) 3 (by decide) wd_471 rfl (hW_w12.fr tX_74 rfl) dX2_levelLeft_46 ?_
          refine lv_iload_n hx hb dX2_levelLeft_49 rfl (lv_at hl 2 rfl) ?_
          refine lv_bipush (v := 24) hx hb dX2_levelLeft_50 (by decide) ?_
          refine lv_imul hx hb dX2_levelLeft_52 ?_
          refine lv_iload_n hx hb dX2_levelLeft_53 rfl (lv_at hl 1 rfl) ?_
          refine lv_iadd hx hb dX2_levelLeft_54 ?_
          refine va_lald hx hb hK hP 77 1 (hW_w12.al tX_77) rfl (in_I ((In_add ((In_mulr (R_nle_r (hW_w.fin tX_64 rfl : In 0 10 (fI w 64 0)) i_x12_2 c_5 (by decide) : In 0 9 x12_2) (n := 24) (by decide) (by decide)) : In 0 216 (x12_2 * 24)) i_x12_1 (by decide)) : In 0 239 ((x12_2 * 24) + ((fI w 64 2) - 1))) (by decide)) dX2_levelLeft_55 ?_
          refine lv_topl (fun v_8 ev_8 => ?_)
          refine va_mmin_long hx hb (by rw [hml]; exact hl.1.symm) hown (hts _ wd_1158) (hts _ wd_880) (hts _ wd_18) (hts _ wd_881) (Nat.le_trans (by decide) hR.1) (Nat.le_trans (Nat.le_of_ble_eq_true rfl) hR.2) (Nat.zero_le _) (Nat.zero_le _) dX2_levelLeft_56 ?_
          refine lv_topl (fun v_9 ev_9 => ?_)
          refine pt_X2 hx hb hts hown hK hP hD hS 74 (hW_w12.o tX_74) 6 (by decide) wd_477 rfl rfl (ty := .long) (v := .long v_9) (by decide +kernel) rfl rfl (hW_w12.ll tX_74 (Nat.le_of_ble_eq_true rfl)) dX2_levelLeft_59 (fun H locs hP hD hS => fr_w (hW_w12.sL tX_74 rfl) hP hD (fun w_10 ew_10 hW_w_10 hP hD => ?_))
          exact J62 w_10 _ _ ls hW_w_10 (hM_w12.sf (hW_w12.lt tX_74) ew_10 (by decide)) i_x12_1 (R_nle_r (hW_w.fin tX_64 rfl : In 0 10 (fI w 64 0)) i_x12_2 c_5 (by decide) : In 0 9 x12_2) (In_of ((fI_cg (st_ne ew_10 (by decide))).trans (hM_w12.gI (by decide))) (R_nle_l (hW_w.fin tX_64 rfl : In 0 10 (fI w 64 0)) i_x12_2 c_5 (by decide) : In 1 10 (fI w 64 0))) (In_of ((fI_cg (st_ne ew_10 (by decide))).trans (hM_w12.gI (by decide))) (In_of (hM_w12.gI (by decide)).symm g12_64_1)) (In_of ((fI_cg (st_ne ew_10 (by decide))).trans (hM_w12.gI (by decide))) (In_of (hM_w12.gI (by decide)).symm g12_64_2)) hP hD hS (lv_sub hl [0, 1, 2] rfl)
  refine lv_aload_n hx hb dX2_levelLeft_0 rfl (lv_at hl 0 rfl) ?_
  refine gt_X2 hx hb hts hown hK hP 74 (hW_w.o tX_74) 0 (by decide) wd_467 rfl (hW_w.fr tX_74 rfl) dX2_levelLeft_1 ?_
  refine gt_X3 hx hb hts hown hK hP 64 (hW_w.o tX_64) 2 (by decide) wd_408 rfl (hW_w.fi tX_64 rfl) dX2_levelLeft_4 ?_
  refine lv_iconst (v := 1) hx hb dX2_levelLeft_7 (by decide) ?_
  refine lv_isub hx hb dX2_levelLeft_8 ?_
  refine lv_istore_n (lv' := [(1, .int ((fI w 64 2) - 1)), (0, .ref (q 74))]) hx hb dX2_levelLeft_9 rfl hl (by decide) rfl (fun ls hl => ?_)
  refine lv_iconst (v := 0) hx hb dX2_levelLeft_10 (by decide) ?_
  refine lv_istore_n (lv' := [(2, .int 0), (1, .int ((fI w 64 2) - 1)), (0, .ref (q 74))]) hx hb dX2_levelLeft_11 rfl hl (by decide) rfl (fun ls hl => ?_)
  exact J12 _ 0 w _ _ ls (Nat.lt_succ_self _) hW_w Sm.rf ((In_sub hf_64_2 (In_lit (n := 1) (by decide) (by decide) : In 1 1 1) (by decide)) : In 0 23 ((fI w 64 2) - 1)) (In_lit (n := 0) (by decide) (by decide) : In 0 10 0) hf_64_1 hf_64_2 hP hD hS (lv_sub hl [2, 1, 0] rfl)
set_option maxRecDepth 100000 in
set_option maxHeartbeats 8000000 in
theorem k_X2_level (l : Launch) (D : va_G) (cI cJ cZ : ClassId) (q : Nat → Nat) (bb bs bp : Nat) (w : va_W) (hW_w : HT q (TX q cI cJ cZ bb bs bp) w) (hf_64_1 : In 1 40 (fI w 64 1)) (hf_64_2 : In 1 24 (fI w 64 2)) : Con_v l yX2_level cX2_level 3 none ({ frames := 4, cells := 0, slots := 0, locals := 101 }) D cI cJ cZ eW [.ref (q 74)] w (fun (w1 : va_W) => HT q (TX q cI cJ cZ bb bs bp) w1 ∧ Sm [74, 75, 76, 77, 78, 79, 80] [(74, 5), (74, 6), (74, 9), (74, 10)] w w1) := by
  refine eQ_v rfl (by decide) (Nat.le_of_ble_eq_true rfl) ⟨rfl, rfl⟩ ?_
  intro p e R s m args below meth c A Q hx hb hml hown hts hK hE hA hR hret hP hD hS ls hl
  have hown : s.vm.findClass RX2 = some m.cls := hown
  have hl : lv_has ls 3 [(0, .ref (q 74))] := hl
  have J116 : ∀ (N : Nat) (x116_1 : Int32) (w116 : va_W) (H : Heap) (locs : List Loc) (ls : Array Slot), (1000000 - x116_1.toInt).toNat < N → HT q (TX q cI cJ cZ bb bs bp) w116 → Sm [74, 75, 76, 77, 78, 79, 80] [(74, 5), (74, 6), (74, 9), (74, 10)] w w116 → (In 0 1000000 x116_1) → (In 1 40 (fI w116 64 1)) → (In 1 24 (fI w116 64 2)) → va_P D vwCl w116 H → va_D A w116 → va_S A s.heap H locs → lv_has ls 3 [(0, .ref (q 74)), (1, .int x116_1)] → W p l e R s m args below meth c H locs 0 0 Q (F0 m 116 ls []) := by
    intro N
    induction N with
    | zero => intro x116_1 w116 H locs ls hmu; exact absurd hmu (Nat.not_lt_zero _)
    | succ N ih116 =>
      intro x116_1 w116 H locs ls hmu116 hW_w116 hM_w116 i_x116_1 g116_64_1 g116_64_2 hP hD hS hl
      refine lv_iload_n hx hb dX2_level_116 rfl (lv_at hl 1 rfl) ?_
      refine lv_ldc hx hb hown (hts _ wd_1121) dX2_level_117 ?_
      refine lv_icmp_ge (tgt := 151) hx hb dX2_level_119 (by decide) (fun c_1 => ?_) (fun c_1 => ?_)
      · exact hret _ _ _ _ _ hP hD hS dX2_level_151 ⟨hW_w116, hM_w116⟩
      · refine lv_aload_n hx hb dX2_level_122 rfl (lv_at hl 0 rfl) ?_
        refine gt_X2 hx hb hts hown hK hP 74 (hW_w116.o tX_74) 9 (by decide) wd_480 rfl (hW_w116.fi tX_74 rfl) dX2_level_123 ?_
        refine lv_aload_n hx hb dX2_level_126 rfl (lv_at hl 0 rfl) ?_
        refine gt_X2 hx hb hts hown hK hP 74 (hW_w116.o tX_74) 10 (by decide) wd_481 rfl (hW_w116.fi tX_74 rfl) dX2_level_127 ?_
        refine lv_icmp_eq (tgt := 151) hx hb dX2_level_130 (by decide) (fun c_2 => ?_) (fun c_2 => ?_)
        · exact hret _ _ _ _ _ hP hD hS dX2_level_151 ⟨hW_w116, hM_w116⟩
        · refine lv_aload_n hx hb dX2_level_133 rfl (lv_at hl 0 rfl) ?_
          refine kW_v ⟨rfl, rfl⟩ hP hD hS hA (rW_V (As := []) (rest := []) hx hb hml hown hts hK hE hP hD (k_X2_runQueue l D cI cJ cZ q bb bs bp w116 hW_w116 (In_of (hM_w116.gI (by decide)) (In_of (hM_w116.gI (by decide)).symm g116_64_1)) (In_of (hM_w116.gI (by decide)) (In_of (hM_w116.gI (by decide)).symm g116_64_2)) _) ⟨⟨rfl, rfl⟩, rfl, rfl⟩ sv_X2_63 ⟨(Nat.le_trans (by decide) hR.1), (Nat.le_trans (by decide) hR.2)⟩ 74 2 (hW_w116.o tX_74) rfl rfl rfl hl.1 rfl (Nat.le_of_ble_eq_true rfl) dX2_level_134) (fun w_3 H locs hw_w_3 hP hD hS => ?_)
          obtain ⟨hW_w_3, hs_w_3, h_5⟩ := hw_w_3
          refine lv_aload_n hx hb dX2_level_137 rfl (lv_at hl 0 rfl) ?_
          refine kW_v ⟨rfl, rfl⟩ hP hD hS hA (rW_V (As := []) (rest := []) hx hb hml hown hts hK hE hP hD (k_X2_levelDue l D cI cJ cZ q bb bs bp w_3 hW_w_3 (In_of ((hs_w_3.gI (by decide)).trans (hM_w116.gI (by decide))) (In_of (hM_w116.gI (by decide)).symm g116_64_1)) (In_of ((hs_w_3.gI (by decide)).trans (hM_w116.gI (by decide))) (In_of (hM_w116.gI (by decide)).symm g116_64_2)) _) ⟨⟨rfl, rfl⟩, rfl, rfl⟩ sv_X2_138 ⟨(Nat.le_trans (by decide) hR.1), (Nat.le_trans (by decide) hR.2)⟩ 74 2 (hW_w_3.o tX_74) rfl rfl rfl hl.1 rfl (Nat.le_of_ble_eq_true rfl) dX2_level_138) (fun w_6 H locs hw_w_6 hP hD hS => ?_)
          obtain ⟨hW_w_6, hs_w_6⟩ := hw_w_6
          refine lv_aload_n hx hb dX2_level_141 rfl (lv_at hl 0 rfl) ?_
          refine kW_v ⟨rfl, rfl⟩ hP hD hS hA (rW_V (As := []) (rest := []) hx hb hml hown hts hK hE hP hD (k_X2_levelLeft l D cI cJ cZ q bb bs bp w_6 hW_w_6 (In_of ((hs_w_6.gI (by decide)).trans ((hs_w_3.gI (by decide)).trans (hM_w116.gI (by decide)))) (In_of (hM_w116.gI (by decide)).symm g116_64_1)) (In_of ((hs_w_6.gI (by decide)).trans ((hs_w_3.gI (by decide)).trans (hM_w116.gI (by decide)))) (In_of (hM_w116.gI (by decide)).symm g116_64_2)) _) ⟨⟨rfl, rfl⟩, rfl, rfl⟩ sv_X2_141 ⟨(Nat.le_trans (by decide) hR.1), (Nat.le_trans (by decide) hR.2)⟩ 74 2 (hW_w_6.o tX_74) rfl rfl rfl hl.1 rfl (Nat.le_of_ble_eq_true rfl) dX2_level_142) (fun w_8 H locs hw_w_8 hP hD hS => ?_)
          obtain ⟨hW_w_8, hs_w_8⟩ := hw_w_8
          refine lv_iinc (v := (x116_1 + 1)) (lv' := [(1, .int (x116_1 + 1)), (0, .ref (q 74))]) hx hb dX2_level_145 hl (k := 1) rfl (rfl) (by decide) rfl (fun ls hl => ?_)
          refine lv_goto (tgt := 116) hx hb dX2_level_148 (by decide) ?_
          exact ih116 (x116_1 + 1) w_8 _ _ ls (mu_inc hmu116 (R_nle_r (In_lit (n := 1000000) (by decide) (by decide) : In 1000000 1000000 1000000) i_x116_1 c_1 (by decide) : In 0 999999 x116_1) (In_lit (n := 1) (by decide) (by decide) : In 1 1 1) (by decide)) hW_w_8 (((hM_w116.tr hs_w_3 (by decide)).tr hs_w_6 (by decide)).tr hs_w_8 (by decide)) (In_w ((In_add (y := 1) (R_nle_r (In_lit (n := 1000000) (by decide) (by decide) : In 1000000 1000000 1000000) i_x116_1 c_1 (by decide) : In 0 999999 x116_1) (In_lit (n := 1) (by decide) (by decide) : In 1 1 1) (by decide)) : In 1 1000000 (x116_1 + 1)) (by decide) : In 0 1000000 (x116_1 + 1)) (In_of ((hs_w_8.gI (by decide)).trans ((hs_w_6.gI (by decide)).trans ((hs_w_3.gI (by decide)).trans (hM_w116.gI (by decide))))) (In_of (hM_w116.gI (by decide)).symm g116_64_1)) (In_of ((hs_w_8.gI (by decide)).trans ((hs_w_6.gI (by decide)).trans ((hs_w_3.gI (by decide)).trans (hM_w116.gI (by decide))))) (In_of (hM_w116.gI (by decide)).symm g116_64_2)) hP hD hS (lv_sub hl [1, 0] rfl)
  have J32 : ∀ (N : Nat) (x32_1 : Int32) (w32 : va_W) (H : Heap) (locs : List Loc) (ls : Array Slot), (40 - x32_1.toInt).toNat < N → HT q (TX q cI cJ cZ bb bs bp) w32 → Sm [74, 75, 76, 77, 78, 79, 80] [(74, 5), (74, 6), (74, 9), (74, 10)] w w32 → (In 0 40 x32_1) → (In 1 40 (fI w32 64 1)) → (In 1 24 (fI w32 64 2)) → va_P D vwCl w32 H → va_D A w32 → va_S A s.heap H locs → lv_has ls 3 [(0, .ref (q 74)), (1, .int x32_1)] → W p l e R s m args below meth c H locs 0 0 Q (F0 m 32 ls []) := by
    intro N
    induction N with
    | zero => intro x32_1 w32 H locs ls hmu; exact absurd hmu (Nat.not_lt_zero _)
    | succ N ih32 =>
      intro x32_1 w32 H locs ls hmu32 hW_w32 hM_w32 i_x32_1 g32_64_1 g32_64_2 hP hD hS hl
      have J45 : ∀ (N : Nat) (x45_2 : Int32) (w45 : va_W) (H : Heap) (locs : List Loc) (ls : Array Slot), (10 - x45_2.toInt).toNat < N → HT q (TX q cI cJ cZ bb bs bp) w45 → Sm [74, 75, 76, 77, 78, 79, 80] [(74, 5), (74, 6), (74, 9), (74, 10)] w w45 → (In 0 39 x32_1) → (In 0 10 x45_2) → (In 1 40 (fI w45 64 1)) → (In 1 24 (fI w45 64 2)) → va_P D vwCl w45 H → va_D A w45 → va_S A s.heap H locs → lv_has ls 3 [(0, .ref (q 74)), (1, .int x32_1), (2, .int x45_2)] → W p l e R s m args below meth c H locs 0 0 Q (F0 m 45 ls []) := by
        intro N
        induction N with
        | zero => intro x45_2 w45 H locs ls hmu; exact absurd hmu (Nat.not_lt_zero _)
        | succ N ih45 =>
          intro x45_2 w45 H locs ls hmu45 hW_w45 hM_w45 i_x45_1 i_x45_2 g45_64_1 g45_64_2 hP hD hS hl
          have J97 : ∀ (w97 : va_W) (H : Heap) (locs : List Loc) (ls : Array Slot), HT q (TX q cI cJ cZ bb bs bp) w97 → Sm [74, 75, 76, 77, 78, 79, 80] [(74, 5), (74, 6), (74, 9), (74, 10)] w w97 → (In 0 39 x32_1) → (In 0 9 x45_2) → (In 1 10 (fI w97 64 0)) → (In 1 40 (fI w97 64 1)) → (In 1 24 (fI w97 64 2)) → va_P D vwCl w97 H → va_D A w97 → va_S A s.heap H locs → lv_has ls 3 [(0, .ref (q 74)), (1, .int x32_1), (2, .int x45_2)] → W p l e R s m args below meth c H locs 0 0 Q (F0 m 97 ls []) := by
            intro w97 H locs ls hW_w97 hM_w97 i_x97_1 i_x97_2 g97_64_0 g97_64_1 g97_64_2 hP hD hS hl
            refine lv_iinc (v := (x45_2 + 1)) (lv' := [(2, .int (x45_2 + 1)), (0, .ref (q 74)), (1, .int x32_1)]) hx hb dX2_level_97 hl (k := 2) rfl (rfl) (by decide) rfl (fun ls hl => ?_)
            refine lv_goto (tgt := 45) hx hb dX2_level_100 (by decide) ?_
            exact ih45 (x45_2 + 1) w97 _ _ ls (mu_inc hmu45 i_x97_2 (In_lit (n := 1) (by decide) (by decide) : In 1 1 1) (by decide)) hW_w97 hM_w97 i_x45_1 (In_w ((In_add (y := 1) i_x97_2 (In_lit (n := 1) (by decide) (by decide) : In 1 1 1) (by decide)) : In 1 10 (x45_2 + 1)) (by decide) : In 0 10 (x45_2 + 1)) (In_of (hM_w97.gI (by decide)) (In_of (hM_w97.gI (by decide)).symm g97_64_1)) (In_of (hM_w97.gI (by decide)) (In_of (hM_w97.gI (by decide)).symm g97_64_2)) hP hD hS (lv_sub hl [1, 2, 0] rfl)
          refine lv_iload_n hx hb dX2_level_45 rfl (lv_at hl 2 rfl) ?_
          refine lv_aload_n hx hb dX2_level_46 rfl (lv_at hl 0 rfl) ?_
          refine gt_X2 hx hb hts hown hK hP 74 (hW_w45.o tX_74) 0 (by decide) wd_467 rfl (hW_w45.fr tX_74 rfl) dX2_level_47 ?_
          refine gt_X3 hx hb hts hown hK hP 64 (hW_w45.o tX_64) 0 (by decide) wd_402 rfl (hW_w45.fi tX_64 rfl) dX2_level_50 ?_
          refine tov (v := (fI w 64 0)) (hM_w45.gI (by decide)) ?_
          refine lv_icmp_ge (tgt := 103) hx hb dX2_level_53 (by decide) (fun c_10 => ?_) (fun c_10 => ?_)
          · refine lv_aload_n hx hb dX2_level_103 rfl (lv_at hl 0 rfl) ?_
            refine lv_iload_n hx hb dX2_level_104 rfl (lv_at hl 1 rfl) ?_
            refine kW_v ⟨rfl, rfl⟩ hP hD hS hA (rW_V (As := [.int x32_1]) (rest := []) hx hb hml hown hts hK hE hP hD (k_X2_enqueue l D cI cJ cZ q bb bs bp w45 hW_w45 x32_1 i_x45_1 (In_of (hM_w45.gI (by decide)) (In_of (hM_w45.gI (by decide)).symm g45_64_1)) (In_of (hM_w45.gI (by decide)) (In_of (hM_w45.gI (by decide)).symm g45_64_2)) _) ⟨⟨rfl, rfl⟩, rfl, rfl⟩ sv_X2_59 ⟨(Nat.le_trans (by decide) hR.1), (Nat.le_trans (by decide) hR.2)⟩ 74 2 (hW_w45.o tX_74) rfl rfl rfl hl.1 rfl (Nat.le_of_ble_eq_true rfl) dX2_level_105) (fun w_11 H locs hw_w_11 hP hD hS => ?_)
            obtain ⟨hW_w_11, hs_w_11, h_13⟩ := hw_w_11
            refine lv_iinc (v := (x32_1 + 1)) (lv' := [(1, .int (x32_1 + 1)), (0, .ref (q 74)), (2, .int x45_2)]) hx hb dX2_level_108 hl (k := 1) rfl (rfl) (by decide) rfl (fun ls hl => ?_)
            refine lv_goto (tgt := 32) hx hb dX2_level_111 (by decide) ?_
            exact ih32 (x32_1 + 1) w_11 _ _ ls (mu_inc hmu32 i_x45_1 (In_lit (n := 1) (by decide) (by decide) : In 1 1 1) (by decide)) hW_w_11 (hM_w45.tr hs_w_11 (by decide)) (In_w ((In_add (y := 1) i_x45_1 (In_lit (n := 1) (by decide) (by decide) : In 1 1 1) (by decide)) : In 1 40 (x32_1 + 1)) (by decide) : In 0 40 (x32_1 + 1)) (In_of ((hs_w_11.gI (by decide)).trans (hM_w45.gI (by decide))) (In_of (hM_w45.gI (by decide)).symm g45_64_1)) (In_of ((hs_w_11.gI (by decide)).trans (hM_w45.gI (by decide))) (In_of (hM_w45.gI (by decide)).symm g45_64_2)) hP hD hS (lv_sub hl [1, 0] rfl)
          · refine lv_aload_n hx hb dX2_level_56 rfl (lv_at hl 0 rfl) ?_
            refine gt_X2 hx hb hts hown hK hP 74 (hW_w45.o tX_74) 0 (by decide) wd_467 rfl (hW_w45.fr tX_74 rfl) dX2_level_57 ?_
            refine gt_X3 hx hb hts hown hK hP 64 (hW_w45.o tX_64) 8 (by decide) wd_428 rfl (hW_w45.fr tX_64 rfl) dX2_level_60 ?_
            refine lv_iload_n hx hb dX2_level_63 rfl (lv_at hl 1 rfl) ?_
            refine va_iald hx hb hK hP 70 0 (hW_w45.a tX_70) rfl (in_I i_x45_1 (by decide)) dX2_level_64 ?_
            refine lv_topi (fun v_14 ev_14 => ?_)
            refine lv_iload_n hx hb dX2_level_65 rfl (lv_at hl 2 rfl) ?_
            refine lv_ishr hx hb dX2_level_66 ?_
            refine lv_topi (fun v_15 ev_15 => ?_)
            refine lv_iconst (v := 1) hx hb dX2_level_67 (by decide) ?_
            refine lv_iand hx hb dX2_level_68 ?_
            refine lv_if_eq (tgt := 97) hx hb dX2_level_69 (by decide) (fun c_16 => ?_) (fun c_16 => ?_)
            · exact J97 w45 _ _ ls hW_w45 hM_w45 i_x45_1 (R_nle_r (hW_w.fin tX_64 rfl : In 0 10 (fI w 64 0)) i_x45_2 c_10 (by decide) : In 0 9 x45_2) (In_of (hM_w45.gI (by decide)) (R_nle_l (hW_w.fin tX_64 rfl : In 0 10 (fI w 64 0)) i_x45_2 c_10 (by decide) : In 1 10 (fI w 64 0))) (In_of (hM_w45.gI (by decide)) (In_of (hM_w45.gI (by decide)).symm g45_64_1)) (In_of (hM_w45.gI (by decide)) (In_of (hM_w45.gI (by decide)).symm g45_64_2)) hP hD hS (lv_sub hl [0, 1, 2] rfl)
            · refine lv_aload_n hx hb dX2_level_72 rfl (lv_at hl 0 rfl) ?_
              refine gt_X2 hx hb hts hown hK hP 74 (hW_w45.o tX_74) 1 (by decide) wd_468 rfl (hW_w45.fr tX_74 rfl) dX2_level_73 ?_
              refine lv_iload_n hx hb dX2_level_76 rfl (lv_at hl 1 rfl) ?_
              refine lv_aload_n hx hb dX2_level_77 rfl (lv_at hl 0 rfl) ?_
              refine gt_X2 hx hb hts hown hK hP 74 (hW_w45.o tX_74) 1 (by decide) wd_468 rfl (hW_w45.fr tX_74 rfl) dX2_level_78 ?_
              refine lv_iload_n hx hb dX2_level_81 rfl (lv_at hl 1 rfl) ?_
              refine va_lald hx hb hK hP 75 1 (hW_w45.al tX_75) rfl (in_I i_x45_1 (by decide)) dX2_level_82 ?_
              refine lv_topl (fun v_17 ev_17 => ?_)
              refine lv_aload_n hx hb dX2_level_83 rfl (lv_at hl 0 rfl) ?_
              refine gt_X2 hx hb hts hown hK hP 74 (hW_w45.o tX_74) 0 (by decide) wd_467 rfl (hW_w45.fr tX_74 rfl) dX2_level_84 ?_
              refine lv_iload_n hx hb dX2_level_87 rfl (lv_at hl 1 rfl) ?_
              refine lv_iload_n hx hb dX2_level_88 rfl (lv_at hl 2 rfl) ?_
              refine kW_i ⟨rfl, rfl⟩ hP hD hS hA (rW_V (As := [.int x32_1, .int x45_2]) (rest := [.long v_17, .int x32_1, .ref (q 75)]) hx hb hml hown hts hK hE hP hD (k_X3_pointsOf l D cI cJ cZ q bb bs bp w45 hW_w45 x32_1 x45_2 i_x45_1 (R_nle_r (hW_w.fin tX_64 rfl : In 0 10 (fI w 64 0)) i_x45_2 c_10 (by decide) : In 0 9 x45_2) (In_of (hM_w45.gI (by decide)) (R_nle_l (hW_w.fin tX_64 rfl : In 0 10 (fI w 64 0)) i_x45_2 c_10 (by decide) : In 1 10 (fI w 64 0))) (In_of (hM_w45.gI (by decide)) (In_of (hM_w45.gI (by decide)).symm g45_64_1)) (In_of (hM_w45.gI (by decide)) (In_of (hM_w45.gI (by decide)).symm g45_64_2)) _) ⟨⟨rfl, rfl⟩, rfl, rfl⟩ sv_X2_111 ⟨(Nat.le_trans (by decide) hR.1), (Nat.le_trans (by decide) hR.2)⟩ 64 3 (hW_w45.o tX_64) rfl rfl rfl hl.1 rfl (Nat.le_of_ble_eq_true rfl) dX2_level_89) (fun r_19 w_18 H locs hw_w_18 hP hD hS => ?_)
              obtain ⟨hW_w_18, hs_w_18⟩ := hw_w_18
              refine lv_i2l hx hb dX2_level_92 rfl ?_
              refine lv_topl (fun v_20 ev_20 => ?_)
              refine va_mmin_long hx hb (by rw [hml]; exact hl.1.symm) hown (hts _ wd_1158) (hts _ wd_880) (hts _ wd_18) (hts _ wd_881) (Nat.le_trans (by decide) hR.1) (Nat.le_trans (Nat.le_of_ble_eq_true rfl) hR.2) (Nat.zero_le _) (Nat.zero_le _) dX2_level_93 ?_
              refine lv_topl (fun v_21 ev_21 => ?_)
              refine va_last hx hb hK hP hD hS 75 1 (hW_w_18.al tX_75) rfl (in_I i_x45_1 (by decide)) dX2_level_96 (fun H locs hP hD hS => fr_w (hW_w_18.uL tX_75) hP hD (fun w_22 ew_22 hW_w_22 hP hD => ?_))
              exact J97 w_22 _ _ ls hW_w_22 ((hM_w45.tr hs_w_18 (by decide)).sa ew_22 (by decide)) i_x45_1 (R_nle_r (hW_w.fin tX_64 rfl : In 0 10 (fI w 64 0)) i_x45_2 c_10 (by decide) : In 0 9 x45_2) (In_of ((fI_cg (st_ne ew_22 (by decide))).trans ((hs_w_18.gI (by decide)).trans (hM_w45.gI (by decide)))) (R_nle_l (hW_w.fin tX_64 rfl : In 0 10 (fI w 64 0)) i_x45_2 c_10 (by decide) : In 1 10 (fI w 64 0))) (In_of ((fI_cg (st_ne ew_22 (by decide))).trans ((hs_w_18.gI (by decide)).trans (hM_w45.gI (by decide)))) (In_of (hM_w45.gI (by decide)).symm g45_64_1)) (In_of ((fI_cg (st_ne ew_22 (by decide))).trans ((hs_w_18.gI (by decide)).trans (hM_w45.gI (by decide)))) (In_of (hM_w45.gI (by decide)).symm g45_64_2)) hP hD hS (lv_sub hl [0, 1, 2] rfl)
      refine lv_iload_n hx hb dX2_level_32 rfl (lv_at hl 1 rfl) ?_
      refine lv_aload_n hx hb dX2_level_33 rfl (lv_at hl 0 rfl) ?_
      refine gt_X2 hx hb hts hown hK hP 74 (hW_w32.o tX_74) 0 (by decide) wd_467 rfl (hW_w32.fr tX_74 rfl) dX2_level_34 ?_
      refine gt_X3 hx hb hts hown hK hP 64 (hW_w32.o tX_64) 1 (by decide) wd_405 rfl (hW_w32.fi tX_64 rfl) dX2_level_37 ?_
      refine tov (v := (fI w 64 1)) (hM_w32.gI (by decide)) ?_
      refine lv_icmp_ge (tgt := 114) hx hb dX2_level_40 (by decide) (fun c_23 => ?_) (fun c_23 => ?_)
      · refine lv_iconst (v := 0) hx hb dX2_level_114 (by decide) ?_
        refine lv_istore_n (lv' := [(1, .int 0), (0, .ref (q 74))]) hx hb dX2_level_115 rfl hl (by decide) rfl (fun ls hl => ?_)
        exact J116 _ 0 w32 _ _ ls (Nat.lt_succ_self _) hW_w32 hM_w32 (In_lit (n := 0) (by decide) (by decide) : In 0 1000000 0) (In_of (hM_w32.gI (by decide)) (In_of (hM_w32.gI (by decide)).symm g32_64_1)) (In_of (hM_w32.gI (by decide)) (In_of (hM_w32.gI (by decide)).symm g32_64_2)) hP hD hS (lv_sub hl [1, 0] rfl)
      · refine lv_iconst (v := 0) hx hb dX2_level_43 (by decide) ?_
        refine lv_istore_n (lv' := [(2, .int 0), (0, .ref (q 74)), (1, .int x32_1)]) hx hb dX2_level_44 rfl hl (by decide) rfl (fun ls hl => ?_)
        exact J45 _ 0 w32 _ _ ls (Nat.lt_succ_self _) hW_w32 hM_w32 (R_nle_r (In_of (hM_w32.gI (by decide)).symm g32_64_1) i_x32_1 c_23 (by decide) : In 0 39 x32_1) (In_lit (n := 0) (by decide) (by decide) : In 0 10 0) (In_of (hM_w32.gI (by decide)) (In_of (hM_w32.gI (by decide)).symm g32_64_1)) (In_of (hM_w32.gI (by decide)) (In_of (hM_w32.gI (by decide)).symm g32_64_2)) hP hD hS (lv_sub hl [1, 2, 0] rfl)
  refine lv_aload_n hx hb dX2_level_0 rfl (lv_at hl 0 rfl) ?_
  refine gt_X2 hx hb hts hown hK hP 74 (hW_w.o tX_74) 1 (by decide) wd_468 rfl (hW_w.fr tX_74 rfl) dX2_level_1 ?_
  refine lv_lconst (v := 0) hx hb dX2_level_4 (by decide) ?_
  refine kW_v ⟨rfl, rfl⟩ hP hD hS hA (rW_S (As := [.ref (q 75), .long 0]) (rest := []) hx hb hml hown hts hK hE hP hD (k_J7_fill_d0a16_75 l D cI cJ cZ q bb bs bp w hW_w 0 hf_64_1 hf_64_2 _) ⟨⟨rfl, rfl⟩, rfl, rfl⟩ sv_X2_50 ⟨(Nat.le_trans (by decide) hR.1), (Nat.le_trans (by decide) hR.2)⟩ rfl hl.1 rfl (Nat.le_of_ble_eq_true rfl) dX2_level_5) (fun w_24 H locs hw_w_24 hP hD hS => ?_)
  obtain ⟨hW_w_24, hs_w_24, h_26⟩ := hw_w_24
  refine lv_aload_n hx hb dX2_level_8 rfl (lv_at hl 0 rfl) ?_
  refine gt_X2 hx hb hts hown hK hP 74 (hW_w_24.o tX_74) 3 (by decide) wd_471 rfl (hW_w_24.fr tX_74 rfl) dX2_level_9 ?_
  refine lv_lconst (v := 0) hx hb dX2_level_12 (by decide) ?_
  refine kW_v ⟨rfl, rfl⟩ hP hD hS hA (rW_S (As := [.ref (q 77), .long 0]) (rest := []) hx hb hml hown hts hK hE hP hD (k_J7_fill_d0a16_77 l D cI cJ cZ q bb bs bp w_24 hW_w_24 0 (In_of (hs_w_24.gI (by decide)) hf_64_1) (In_of (hs_w_24.gI (by decide)) hf_64_2) _) ⟨⟨rfl, rfl⟩, rfl, rfl⟩ sv_X2_50 ⟨(Nat.le_trans (by decide) hR.1), (Nat.le_trans (by decide) hR.2)⟩ rfl hl.1 rfl (Nat.le_of_ble_eq_true rfl) dX2_level_13) (fun w_27 H locs hw_w_27 hP hD hS => ?_)
  obtain ⟨hW_w_27, hs_w_27, h_29⟩ := hw_w_27
  refine lv_aload_n hx hb dX2_level_16 rfl (lv_at hl 0 rfl) ?_
  refine lv_lconst (v := 0) hx hb dX2_level_17 (by decide) ?_
  refine pt_X2 hx hb hts hown hK hP hD hS 74 (hW_w_27.o tX_74) 5 (by decide) wd_474 rfl rfl (ty := .long) (v := .long 0) (by decide +kernel) rfl rfl (hW_w_27.ll tX_74 (Nat.le_of_ble_eq_true rfl)) dX2_level_18 (fun H locs hP hD hS => fr_w (hW_w_27.sL tX_74 rfl) hP hD (fun w_30 ew_30 hW_w_30 hP hD => ?_))
  refine lv_aload_n hx hb dX2_level_21 rfl (lv_at hl 0 rfl) ?_
  refine lv_lconst (v := 0) hx hb dX2_level_22 (by decide) ?_
  refine pt_X2 hx hb hts hown hK hP hD hS 74 (hW_w_30.o tX_74) 6 (by decide) wd_477 rfl rfl (ty := .long) (v := .long 0) (by decide +kernel) rfl rfl (hW_w_30.ll tX_74 (Nat.le_of_ble_eq_true rfl)) dX2_level_23 (fun H locs hP hD hS => fr_w (hW_w_30.sL tX_74 rfl) hP hD (fun w_31 ew_31 hW_w_31 hP hD => ?_))
  refine lv_aload_n hx hb dX2_level_26 rfl (lv_at hl 0 rfl) ?_
  refine kW_v ⟨rfl, rfl⟩ hP hD hS hA (rW_V (As := []) (rest := []) hx hb hml hown hts hK hE hP hD (k_X2_startQueue l D cI cJ cZ q bb bs bp w_31 hW_w_31 (In_of ((fI_cg (st_ne ew_31 (by decide))).trans ((fI_cg (st_ne ew_30 (by decide))).trans ((hs_w_27.gI (by decide)).trans (hs_w_24.gI (by decide))))) hf_64_1) (In_of ((fI_cg (st_ne ew_31 (by decide))).trans ((fI_cg (st_ne ew_30 (by decide))).trans ((hs_w_27.gI (by decide)).trans (hs_w_24.gI (by decide))))) hf_64_2) _) ⟨⟨rfl, rfl⟩, rfl, rfl⟩ sv_X2_56 ⟨(Nat.le_trans (by decide) hR.1), (Nat.le_trans (by decide) hR.2)⟩ 74 2 (hW_w_31.o tX_74) rfl rfl rfl hl.1 rfl (Nat.le_of_ble_eq_true rfl) dX2_level_27) (fun w_32 H locs hw_w_32 hP hD hS => ?_)
  obtain ⟨hW_w_32, hs_w_32, h_34⟩ := hw_w_32
  refine lv_iconst (v := 0) hx hb dX2_level_30 (by decide) ?_
  refine lv_istore_n (lv' := [(1, .int 0), (0, .ref (q 74))]) hx hb dX2_level_31 rfl hl (by decide) rfl (fun ls hl => ?_)
  exact J32 _ 0 w_32 _ _ ls (Nat.lt_succ_self _) hW_w_32 (((((Sm.rf.tr hs_w_24 (by decide)).tr hs_w_27 (by decide)).sf (hW_w_27.lt tX_74) ew_30 (by decide)).sf (hW_w_30.lt tX_74) ew_31 (by decide)).tr hs_w_32 (by decide)) (In_lit (n := 0) (by decide) (by decide) : In 0 40 0) (In_of ((hs_w_32.gI (by decide)).trans ((fI_cg (st_ne ew_31 (by decide))).trans ((fI_cg (st_ne ew_30 (by decide))).trans ((hs_w_27.gI (by decide)).trans (hs_w_24.gI (by decide)))))) hf_64_1) (In_of ((hs_w_32.gI (by decide)).trans ((fI_cg (st_ne ew_31 (by decide))).trans ((fI_cg (st_ne ew_30 (by decide))).trans ((hs_w_27.gI (by decide)).trans (hs_w_24.gI (by decide)))))) hf_64_2) hP hD hS (lv_sub hl [1, 0] rfl)
set_option maxRecDepth 100000 in
set_option maxHeartbeats 8000000 in
theorem k_X9_canChange (l : Launch) (D : va_G) (cI cJ cZ : ClassId) (q : Nat → Nat) (bb bs bp : Nat) (w : va_W) (hW_w : HT q (TX q cI cJ cZ bb bs bp) w) (p1 : Int32) (i_p1 : In 0 39 p1) (hf_64_0 : In 1 10 (fI w 64 0)) (hf_64_1 : In 1 40 (fI w 64 1)) (hf_64_2 : In 1 24 (fI w 64 2)) : Con_i l yX9_canChange cX9_canChange 2 (some .boolean) ({ frames := 0, cells := 0, slots := 0, locals := 0 }) D cI cJ cZ eW [.ref (q 81), .int p1] w (fun (r : Int32) (w1 : va_W) => HT q (TX q cI cJ cZ bb bs bp) w1 ∧ Sm [] [] w w1 ∧ In 0 1 r) := by
  refine eQ_z rfl (by decide) (Nat.le_of_ble_eq_true rfl) ⟨rfl, rfl⟩ ?_
  intro p e R s m args below meth c A Q hx hb hml hown hts hK hE hA hR hret hP hD hS ls hl
  have hown : s.vm.findClass RX9 = some m.cls := hown
  have hl : lv_has ls 2 [(0, .ref (q 81)), (1, .int p1)] := hl
  refine lv_aload_n hx hb dX9_canChange_0 rfl (lv_at hl 0 rfl) ?_
  refine gt_X9 hx hb hts hown hK hP 81 (hW_w.o tX_81) 0 (by decide) wd_511 rfl (hW_w.fr tX_81 rfl) dX9_canChange_1 ?_
  refine gt_X3 hx hb hts hown hK hP 64 (hW_w.o tX_64) 9 (by decide) wd_430 rfl (hW_w.fr tX_64 rfl) dX9_canChange_4 ?_
  refine lv_iload_n hx hb dX9_canChange_7 rfl (lv_at hl 1 rfl) ?_
  refine va_iald hx hb hK hP 71 0 (hW_w.a tX_71) rfl (in_I i_p1 (by decide)) dX9_canChange_8 ?_
  refine lv_topi (fun v_1 ev_1 => ?_)
  refine lv_aload_n hx hb dX9_canChange_9 rfl (lv_at hl 0 rfl) ?_
  refine gt_X9 hx hb hts hown hK hP 81 (hW_w.o tX_81) 0 (by decide) wd_511 rfl (hW_w.fr tX_81 rfl) dX9_canChange_10 ?_
  refine gt_X3 hx hb hts hown hK hP 64 (hW_w.o tX_64) 6 (by decide) wd_421 rfl (hW_w.fr tX_64 rfl) dX9_canChange_13 ?_
  refine lv_iload_n hx hb dX9_canChange_16 rfl (lv_at hl 1 rfl) ?_
  refine va_iald hx hb hK hP 68 0 (hW_w.a tX_68) rfl (in_I i_p1 (by decide)) dX9_canChange_17 ?_
  refine lv_topi (fun v_2 ev_2 => ?_)
  refine lv_icmp_lt (tgt := 42) hx hb dX9_canChange_18 (by decide) (fun c_3 => ?_) (fun c_3 => ?_)
  · refine lv_iconst (v := 1) hx hb dX9_canChange_42 (by decide) ?_
    refine lv_goto (tgt := 47) hx hb dX9_canChange_43 (by decide) ?_
    exact hret _ _ _ _ _ _ hP hD hS dX9_canChange_47 (In_lit (n := 1) (by decide) (by decide) : In 0 1 1) ⟨hW_w, Sm.rf, (In_lit (n := 1) (by decide) (by decide) : In 0 1 1)⟩
  · refine lv_aload_n hx hb dX9_canChange_21 rfl (lv_at hl 0 rfl) ?_
    refine gt_X9 hx hb hts hown hK hP 81 (hW_w.o tX_81) 0 (by decide) wd_511 rfl (hW_w.fr tX_81 rfl) dX9_canChange_22 ?_
    refine gt_X3 hx hb hts hown hK hP 64 (hW_w.o tX_64) 8 (by decide) wd_427 rfl (hW_w.fr tX_64 rfl) dX9_canChange_25 ?_
    refine lv_iload_n hx hb dX9_canChange_28 rfl (lv_at hl 1 rfl) ?_
    refine va_iald hx hb hK hP 70 0 (hW_w.a tX_70) rfl (in_I i_p1 (by decide)) dX9_canChange_29 ?_
    refine lv_topi (fun v_4 ev_4 => ?_)
    refine lv_aload_n hx hb dX9_canChange_30 rfl (lv_at hl 0 rfl) ?_
    refine gt_X9 hx hb hts hown hK hP 81 (hW_w.o tX_81) 3 (by decide) wd_514 rfl (hW_w.fr tX_81 rfl) dX9_canChange_31 ?_
    refine lv_iload_n hx hb dX9_canChange_34 rfl (lv_at hl 1 rfl) ?_
    refine va_iald hx hb hK hP 82 0 (hW_w.a tX_82) rfl (in_I i_p1 (by decide)) dX9_canChange_35 ?_
    refine lv_topi (fun v_5 ev_5 => ?_)
    refine lv_iconst (v := (-1)) hx hb dX9_canChange_36 (by decide) ?_
    refine lv_ixor hx hb dX9_canChange_37 ?_
    refine lv_topi (fun v_6 ev_6 => ?_)
    refine lv_iand hx hb dX9_canChange_38 ?_
    refine lv_topi (fun v_7 ev_7 => ?_)
    refine lv_if_eq (tgt := 46) hx hb dX9_canChange_39 (by decide) (fun c_8 => ?_) (fun c_8 => ?_)
    · refine lv_iconst (v := 0) hx hb dX9_canChange_46 (by decide) ?_
      exact hret _ _ _ _ _ _ hP hD hS dX9_canChange_47 (In_lit (n := 0) (by decide) (by decide) : In 0 1 0) ⟨hW_w, Sm.rf, (In_lit (n := 0) (by decide) (by decide) : In 0 1 0)⟩
    · refine lv_iconst (v := 1) hx hb dX9_canChange_42 (by decide) ?_
      refine lv_goto (tgt := 47) hx hb dX9_canChange_43 (by decide) ?_
      exact hret _ _ _ _ _ _ hP hD hS dX9_canChange_47 (In_lit (n := 1) (by decide) (by decide) : In 0 1 1) ⟨hW_w, Sm.rf, (In_lit (n := 1) (by decide) (by decide) : In 0 1 1)⟩
set_option maxRecDepth 100000 in
set_option maxHeartbeats 8000000 in
theorem k_X9_isFree (l : Launch) (D : va_G) (cI cJ cZ : ClassId) (q : Nat → Nat) (bb bs bp : Nat) (w : va_W) (hW_w : HT q (TX q cI cJ cZ bb bs bp) w) (p1 : Int32) (p2 : Int64) (i_p1 : In 0 239 p1) (hf_64_0 : In 1 10 (fI w 64 0)) (hf_64_1 : In 1 40 (fI w 64 1)) (hf_64_2 : In 1 24 (fI w 64 2)) : Con_i l yX9_isFree cX9_isFree 4 (some .boolean) ({ frames := 0, cells := 0, slots := 0, locals := 0 }) D cI cJ cZ eW [.ref (q 81), .int p1, .long p2] w (fun (r : Int32) (w1 : va_W) => HT q (TX q cI cJ cZ bb bs bp) w1 ∧ Sm [] [] w w1 ∧ In 0 1 r ∧ ((¬ r = 0 → ¬ aF w 85 p1.toNatClampNeg = fI w 81 4))) := by
  refine eQ_z rfl (by decide) (Nat.le_of_ble_eq_true rfl) ⟨rfl, rfl⟩ ?_
  intro p e R s m args below meth c A Q hx hb hml hown hts hK hE hA hR hret hP hD hS ls hl
  have hown : s.vm.findClass RX9 = some m.cls := hown
  have hl : lv_has ls 4 [(0, .ref (q 81)), (1, .int p1), (2, .long p2)] := hl
  refine lv_aload_n hx hb dX9_isFree_0 rfl (lv_at hl 0 rfl) ?_
  refine gt_X9 hx hb hts hown hK hP 81 (hW_w.o tX_81) 7 (by decide) wd_518 rfl (hW_w.fr tX_81 rfl) dX9_isFree_1 ?_
  refine lv_iload_n hx hb dX9_isFree_4 rfl (lv_at hl 1 rfl) ?_
  refine va_iald hx hb hK hP 85 0 (hW_w.a tX_85) rfl (in_I i_p1 (by decide)) dX9_isFree_5 ?_
  refine lv_topi (fun v_1 ev_1 => ?_)
  refine lv_aload_n hx hb dX9_isFree_6 rfl (lv_at hl 0 rfl) ?_
  refine gt_X9 hx hb hts hown hK hP 81 (hW_w.o tX_81) 4 (by decide) wd_515 rfl (hW_w.fi tX_81 rfl) dX9_isFree_7 ?_
  refine lv_icmp_eq (tgt := 31) hx hb dX9_isFree_10 (by decide) (fun c_2 => ?_) (fun c_2 => ?_)
  · refine lv_iconst (v := 0) hx hb dX9_isFree_31 (by decide) ?_
    exact hret _ _ _ _ _ _ hP hD hS dX9_isFree_32 (In_lit (n := 0) (by decide) (by decide) : In 0 1 0) ⟨hW_w, Sm.rf, (In_lit (n := 0) (by decide) (by decide) : In 0 1 0), (fun h => absurd rfl h)⟩
  · refine lv_aload_n hx hb dX9_isFree_13 rfl (lv_at hl 0 rfl) ?_
    refine gt_X9 hx hb hts hown hK hP 81 (hW_w.o tX_81) 1 (by decide) wd_512 rfl (hW_w.fr tX_81 rfl) dX9_isFree_14 ?_
    refine gt_X2 hx hb hts hown hK hP 74 (hW_w.o tX_74) 3 (by decide) wd_472 rfl (hW_w.fr tX_74 rfl) dX9_isFree_17 ?_
    refine lv_iload_n hx hb dX9_isFree_20 rfl (lv_at hl 1 rfl) ?_
    refine va_lald hx hb hK hP 77 1 (hW_w.al tX_77) rfl (in_I i_p1 (by decide)) dX9_isFree_21 ?_
    refine lv_topl (fun v_3 ev_3 => ?_)
    refine lv_lload_n hx hb dX9_isFree_22 rfl (lv_at hl 2 rfl) ?_
    refine W.lcmp hx hb dX9_isFree_23 ?_
    refine lv_topi (fun v_4 ev_4 => ?_)
    refine lv_if_ne (tgt := 31) hx hb dX9_isFree_24 (by decide) (fun c_5 => ?_) (fun c_5 => ?_)
    · refine lv_iconst (v := 0) hx hb dX9_isFree_31 (by decide) ?_
      exact hret _ _ _ _ _ _ hP hD hS dX9_isFree_32 (In_lit (n := 0) (by decide) (by decide) : In 0 1 0) ⟨hW_w, Sm.rf, (In_lit (n := 0) (by decide) (by decide) : In 0 1 0), (fun h => absurd rfl h)⟩
    · refine lv_iconst (v := 1) hx hb dX9_isFree_27 (by decide) ?_
      refine lv_goto (tgt := 32) hx hb dX9_isFree_28 (by decide) ?_
      exact hret _ _ _ _ _ _ hP hD hS dX9_isFree_32 (In_lit (n := 1) (by decide) (by decide) : In 0 1 1) ⟨hW_w, Sm.rf, (In_lit (n := 1) (by decide) (by decide) : In 0 1 1), (fun _ q => c_2 (ev_1.trans q))⟩
set_option maxRecDepth 100000 in
set_option maxHeartbeats 8000000 in
theorem k_X9_seeRow (l : Launch) (D : va_G) (cI cJ cZ : ClassId) (q : Nat → Nat) (bb bs bp : Nat) (w : va_W) (hW_w : HT q (TX q cI cJ cZ bb bs bp) w) (p1 : Int32) (p2 : Int32) (i_p1 : In 0 39 p1) (i_p2 : In (-3) 9 p2) (hf_64_0 : In 1 10 (fI w 64 0)) (hf_64_1 : In 1 40 (fI w 64 1)) (hf_64_2 : In 1 24 (fI w 64 2)) (hRI : RI w) (hn : ¬ aF w 83 p1.toNatClampNeg = fI w 81 4) (hk : (p2 = -3 ∧ 0 ≤ (fI w 81 12).toInt) ∨ (0 ≤ p2.toInt ∧ kn w (p2.toNatClampNeg * 24 + (aF w 65 p1.toNatClampNeg).toNatClampNeg))) (hrr : p1.toInt < (fI w 64 1).toInt) : Con_v l yX9_seeRow cX9_seeRow 3 none ({ frames := 0, cells := 0, slots := 0, locals := 0 }) D cI cJ cZ eW [.ref (q 81), .int p1, .int p2] w (fun (w1 : va_W) => HT q (TX q cI cJ cZ bb bs bp) w1 ∧ Sm [81, 83, 84, 87] [(81, 11), (81, 12)] w w1 ∧ ((RI w1 ∧ Mn w w1))) := by
  refine eQ_v rfl (by decide) (Nat.le_of_ble_eq_true rfl) ⟨rfl, rfl⟩ ?_
  intro p e R s m args below meth c A Q hx hb hml hown hts hK hE hA hR hret hP hD hS ls hl
  have hown : s.vm.findClass RX9 = some m.cls := hown
  have hl : lv_has ls 3 [(0, .ref (q 81)), (1, .int p1), (2, .int p2)] := hl
  refine lv_aload_n hx hb dX9_seeRow_0 rfl (lv_at hl 0 rfl) ?_
  refine gt_X9 hx hb hts hown hK hP 81 (hW_w.o tX_81) 5 (by decide) wd_516 rfl (hW_w.fr tX_81 rfl) dX9_seeRow_1 ?_
  refine lv_iload_n hx hb dX9_seeRow_4 rfl (lv_at hl 1 rfl) ?_
  refine lv_aload_n hx hb dX9_seeRow_5 rfl (lv_at hl 0 rfl) ?_
  refine gt_X9 hx hb hts hown hK hP 81 (hW_w.o tX_81) 4 (by decide) wd_515 rfl (hW_w.fi tX_81 rfl) dX9_seeRow_6 ?_
  refine va_iast hx hb hK hP hD hS 83 0 (hW_w.a tX_83) rfl (in_I i_p1 (by decide)) dX9_seeRow_9 (fun H locs hP hD hS => fr_w (hW_w.uA tX_83 (In_any _)) hP hD (fun w_1 ew_1 hW_w_1 hP hD => ?_))
  refine lv_aload_n hx hb dX9_seeRow_10 rfl (lv_at hl 0 rfl) ?_
  refine gt_X9 hx hb hts hown hK hP 81 (hW_w_1.o tX_81) 6 (by decide) wd_517 rfl (hW_w_1.fr tX_81 rfl) dX9_seeRow_11 ?_
  refine lv_iload_n hx hb dX9_seeRow_14 rfl (lv_at hl 1 rfl) ?_
  refine lv_iload_n hx hb dX9_seeRow_15 rfl (lv_at hl 2 rfl) ?_
  refine va_iast hx hb hK hP hD hS 84 0 (hW_w_1.a tX_84) rfl (in_I i_p1 (by decide)) dX9_seeRow_16 (fun H locs hP hD hS => fr_w (hW_w_1.uA tX_84 i_p2) hP hD (fun w_2 ew_2 hW_w_2 hP hD => ?_))
  refine lv_aload_n hx hb dX9_seeRow_17 rfl (lv_at hl 0 rfl) ?_
  refine gt_X9 hx hb hts hown hK hP 81 (hW_w_2.o tX_81) 9 (by decide) wd_520 rfl (hW_w_2.fr tX_81 rfl) dX9_seeRow_18 ?_
  refine lv_aload_n hx hb dX9_seeRow_21 rfl (lv_at hl 0 rfl) ?_
  refine gt_X9 hx hb hts hown hK hP 81 (hW_w_2.o tX_81) 11 (by decide) wd_522 rfl (hW_w_2.fi tX_81 rfl) dX9_seeRow_22 ?_
  refine tov (v := (fI w 81 11)) ((fI_cg (st_ne ew_2 (by decide))).trans (fI_cg (st_ne ew_1 (by decide)))) ?_
  refine lv_iload_n hx hb dX9_seeRow_25 rfl (lv_at hl 1 rfl) ?_
  refine va_iast hx hb hK hP hD hS 87 0 (hW_w_2.a tX_87) rfl (in_I (RI_tail hRI i_p1 hn (hW_w.fin tX_81 rfl) : In 0 39 (fI w 81 11)) (by decide)) dX9_seeRow_26 (fun H locs hP hD hS => fr_w (hW_w_2.uA tX_87 i_p1) hP hD (fun w_3 ew_3 hW_w_3 hP hD => ?_))
  refine lv_aload_n hx hb dX9_seeRow_27 rfl (lv_at hl 0 rfl) ?_
  refine lv_dup hx hb dX9_seeRow_28 rfl ?_
  refine gt_X9 hx hb hts hown hK hP 81 (hW_w_3.o tX_81) 11 (by decide) wd_522 rfl (hW_w_3.fi tX_81 rfl) dX9_seeRow_29 ?_
  refine tov (v := (fI w 81 11)) ((fI_cg (st_ne ew_3 (by decide))).trans ((fI_cg (st_ne ew_2 (by decide))).trans (fI_cg (st_ne ew_1 (by decide))))) ?_
  refine lv_iconst (v := 1) hx hb dX9_seeRow_32 (by decide) ?_
  refine lv_iadd hx hb dX9_seeRow_33 ?_
  refine pt_X9 hx hb hts hown hK hP hD hS 81 (hW_w_3.o tX_81) 11 (by decide) wd_522 rfl rfl (ty := .int) (v := .int ((fI w 81 11) + 1)) (by decide +kernel) rfl rfl (hW_w_3.ll tX_81 (Nat.le_of_ble_eq_true rfl)) dX9_seeRow_34 (fun H locs hP hD hS => fr_w (hW_w_3.sI tX_81 rfl (In_w ((In_add (RI_tail hRI i_p1 hn (hW_w.fin tX_81 rfl) : In 0 39 (fI w 81 11)) (In_lit (n := 1) (by decide) (by decide) : In 1 1 1) (by decide)) : In 1 40 ((fI w 81 11) + 1)) (by decide) : In 0 40 ((fI w 81 11) + 1))) hP hD (fun w_4 ew_4 hW_w_4 hP hD => ?_))
  refine lv_aload_n hx hb dX9_seeRow_37 rfl (lv_at hl 0 rfl) ?_
  refine gt_X9 hx hb hts hown hK hP 81 (hW_w_4.o tX_81) 12 (by decide) wd_523 rfl (hW_w_4.fi tX_81 rfl) dX9_seeRow_38 ?_
  refine tov (v := (fI w 81 12)) ((fI_nej (hW_w_3.lt tX_81) ew_4 (by decide)).trans ((fI_cg (st_ne ew_3 (by decide))).trans ((fI_cg (st_ne ew_2 (by decide))).trans (fI_cg (st_ne ew_1 (by decide)))))) ?_
  refine lv_iconst (v := (-1)) hx hb dX9_seeRow_41 (by decide) ?_
  refine lv_icmp_ne (tgt := 76) hx hb dX9_seeRow_42 (by decide) (fun c_5 => ?_) (fun c_5 => ?_)
  · exact hret _ _ _ _ _ hP hD hS dX9_seeRow_76 ⟨hW_w_4, ((((Sm.rf.sa ew_1 (by decide)).sa ew_2 (by decide)).sa ew_3 (by decide)).sf (hW_w_3.lt tX_81) ew_4 (by decide)), (RI_row i_p1 hrr hn hk (RI_tail hRI i_p1 hn (hW_w.fin tX_81 rfl) : In 0 39 (fI w 81 11)) (by rw [(aF_cg (st_ne ew_4 (by decide))), (aF_cg (st_ne ew_3 (by decide))), (aF_cg (st_ne ew_2 (by decide))), aF_eq (hW_w.lt tX_83) ew_1]) (by rw [(aF_cg (st_ne ew_4 (by decide))), (aF_cg (st_ne ew_3 (by decide))), aF_eq (hW_w_1.lt tX_84) ew_2, (aF_cg (st_ne ew_1 (by decide)))]) (by rw [(aF_cg (st_ne ew_4 (by decide))), aF_eq (hW_w_2.lt tX_87) ew_3, (aF_cg (st_ne ew_2 (by decide))), (aF_cg (st_ne ew_1 (by decide)))]) (fI_eq (hW_w_3.lt tX_81) ew_4 (hW_w_3.ll tX_81 (Nat.le_of_ble_eq_true rfl))) ((aF_cg (st_ne ew_4 (by decide))).trans ((aF_cg (st_ne ew_3 (by decide))).trans ((aF_cg (st_ne ew_2 (by decide))).trans (aF_cg (st_ne ew_1 (by decide)))))) ((aF_cg (st_ne ew_4 (by decide))).trans ((aF_cg (st_ne ew_3 (by decide))).trans ((aF_cg (st_ne ew_2 (by decide))).trans (aF_cg (st_ne ew_1 (by decide)))))) ((aF_cg (st_ne ew_4 (by decide))).trans ((aF_cg (st_ne ew_3 (by decide))).trans ((aF_cg (st_ne ew_2 (by decide))).trans (aF_cg (st_ne ew_1 (by decide)))))) ((fI_nej (hW_w_3.lt tX_81) ew_4 (by decide)).trans ((fI_cg (st_ne ew_3 (by decide))).trans ((fI_cg (st_ne ew_2 (by decide))).trans (fI_cg (st_ne ew_1 (by decide)))))) ((fI_nej (hW_w_3.lt tX_81) ew_4 (by decide)).trans ((fI_cg (st_ne ew_3 (by decide))).trans ((fI_cg (st_ne ew_2 (by decide))).trans (fI_cg (st_ne ew_1 (by decide)))))) ((fI_nej (hW_w_3.lt tX_81) ew_4 (by decide)).trans ((fI_cg (st_ne ew_3 (by decide))).trans ((fI_cg (st_ne ew_2 (by decide))).trans (fI_cg (st_ne ew_1 (by decide)))))) ((fI_cg (st_ne ew_4 (by decide))).trans ((fI_cg (st_ne ew_3 (by decide))).trans ((fI_cg (st_ne ew_2 (by decide))).trans (fI_cg (st_ne ew_1 (by decide)))))) ((fI_cg (st_ne ew_4 (by decide))).trans ((fI_cg (st_ne ew_3 (by decide))).trans ((fI_cg (st_ne ew_2 (by decide))).trans (fI_cg (st_ne ew_1 (by decide)))))) (Or.inl ((fI_nej (hW_w_3.lt tX_81) ew_4 (by decide)).trans ((fI_cg (st_ne ew_3 (by decide))).trans ((fI_cg (st_ne ew_2 (by decide))).trans (fI_cg (st_ne ew_1 (by decide))))))) hRI)⟩
  · refine lv_iload_n hx hb dX9_seeRow_45 rfl (lv_at hl 2 rfl) ?_
    refine lv_bipush (v := (-3)) hx hb dX9_seeRow_46 (by decide) ?_
    refine lv_icmp_eq (tgt := 76) hx hb dX9_seeRow_48 (by decide) (fun c_6 => ?_) (fun c_6 => ?_)
    · exact hret _ _ _ _ _ hP hD hS dX9_seeRow_76 ⟨hW_w_4, ((((Sm.rf.sa ew_1 (by decide)).sa ew_2 (by decide)).sa ew_3 (by decide)).sf (hW_w_3.lt tX_81) ew_4 (by decide)), (RI_row i_p1 hrr hn hk (RI_tail hRI i_p1 hn (hW_w.fin tX_81 rfl) : In 0 39 (fI w 81 11)) (by rw [(aF_cg (st_ne ew_4 (by decide))), (aF_cg (st_ne ew_3 (by decide))), (aF_cg (st_ne ew_2 (by decide))), aF_eq (hW_w.lt tX_83) ew_1]) (by rw [(aF_cg (st_ne ew_4 (by decide))), (aF_cg (st_ne ew_3 (by decide))), aF_eq (hW_w_1.lt tX_84) ew_2, (aF_cg (st_ne ew_1 (by decide)))]) (by rw [(aF_cg (st_ne ew_4 (by decide))), aF_eq (hW_w_2.lt tX_87) ew_3, (aF_cg (st_ne ew_2 (by decide))), (aF_cg (st_ne ew_1 (by decide)))]) (fI_eq (hW_w_3.lt tX_81) ew_4 (hW_w_3.ll tX_81 (Nat.le_of_ble_eq_true rfl))) ((aF_cg (st_ne ew_4 (by decide))).trans ((aF_cg (st_ne ew_3 (by decide))).trans ((aF_cg (st_ne ew_2 (by decide))).trans (aF_cg (st_ne ew_1 (by decide)))))) ((aF_cg (st_ne ew_4 (by decide))).trans ((aF_cg (st_ne ew_3 (by decide))).trans ((aF_cg (st_ne ew_2 (by decide))).trans (aF_cg (st_ne ew_1 (by decide)))))) ((aF_cg (st_ne ew_4 (by decide))).trans ((aF_cg (st_ne ew_3 (by decide))).trans ((aF_cg (st_ne ew_2 (by decide))).trans (aF_cg (st_ne ew_1 (by decide)))))) ((fI_nej (hW_w_3.lt tX_81) ew_4 (by decide)).trans ((fI_cg (st_ne ew_3 (by decide))).trans ((fI_cg (st_ne ew_2 (by decide))).trans (fI_cg (st_ne ew_1 (by decide)))))) ((fI_nej (hW_w_3.lt tX_81) ew_4 (by decide)).trans ((fI_cg (st_ne ew_3 (by decide))).trans ((fI_cg (st_ne ew_2 (by decide))).trans (fI_cg (st_ne ew_1 (by decide)))))) ((fI_nej (hW_w_3.lt tX_81) ew_4 (by decide)).trans ((fI_cg (st_ne ew_3 (by decide))).trans ((fI_cg (st_ne ew_2 (by decide))).trans (fI_cg (st_ne ew_1 (by decide)))))) ((fI_cg (st_ne ew_4 (by decide))).trans ((fI_cg (st_ne ew_3 (by decide))).trans ((fI_cg (st_ne ew_2 (by decide))).trans (fI_cg (st_ne ew_1 (by decide)))))) ((fI_cg (st_ne ew_4 (by decide))).trans ((fI_cg (st_ne ew_3 (by decide))).trans ((fI_cg (st_ne ew_2 (by decide))).trans (fI_cg (st_ne ew_1 (by decide)))))) (Or.inl ((fI_nej (hW_w_3.lt tX_81) ew_4 (by decide)).trans ((fI_cg (st_ne ew_3 (by decide))).trans ((fI_cg (st_ne ew_2 (by decide))).trans (fI_cg (st_ne ew_1 (by decide))))))) hRI)⟩
    · refine lv_aload_n hx hb dX9_seeRow_51 rfl (lv_at hl 0 rfl) ?_
      refine gt_X9 hx hb hts hown hK hP 81 (hW_w_4.o tX_81) 1 (by decide) wd_512 rfl (hW_w_4.fr tX_81 rfl) dX9_seeRow_52 ?_
      refine gt_X2 hx hb hts hown hK hP 74 (hW_w_4.o tX_74) 1 (by decide) wd_469 rfl (hW_w_4.fr tX_74 rfl) dX9_seeRow_55 ?_
      refine lv_iload_n hx hb dX9_seeRow_58 rfl (lv_at hl 1 rfl) ?_
      refine va_lald hx hb hK hP 75 1 (hW_w_4.al tX_75) rfl (in_I i_p1 (by decide)) dX9_seeRow_59 ?_
      refine lv_topl (fun v_7 ev_7 => ?_)
      refine lv_aload_n hx hb dX9_seeRow_60 rfl (lv_at hl 0 rfl) ?_
      refine gt_X9 hx hb hts hown hK hP 81 (hW_w_4.o tX_81) 1 (by decide) wd_512 rfl (hW_w_4.fr tX_81 rfl) dX9_seeRow_61 ?_
      refine gt_X2 hx hb hts hown hK hP 74 (hW_w_4.o tX_74) 5 (by decide) wd_475 rfl (hW_w_4.fl tX_74 rfl) dX9_seeRow_64 ?_
      refine tol (v := (fL w 74 5)) ((fL_cg (st_ne ew_4 (by decide))).trans ((fL_cg (st_ne ew_3 (by decide))).trans ((fL_cg (st_ne ew_2 (by decide))).trans (fL_cg (st_ne ew_1 (by decide)))))) ?_
      refine W.lcmp hx hb dX9_seeRow_67 ?_
      refine lv_topi (fun v_8 ev_8 => ?_)
      refine lv_if_ne (tgt := 76) hx hb dX9_seeRow_68 (by decide) (fun c_9 => ?_) (fun c_9 => ?_)
      · exact hret _ _ _ _ _ hP hD hS dX9_seeRow_76 ⟨hW_w_4, ((((Sm.rf.sa ew_1 (by decide)).sa ew_2 (by decide)).sa ew_3 (by decide)).sf (hW_w_3.lt tX_81) ew_4 (by decide)), (RI_row i_p1 hrr hn hk (RI_tail hRI i_p1 hn (hW_w.fin tX_81 rfl) : In 0 39 (fI w 81 11)) (by rw [(aF_cg (st_ne ew_4 (by decide))), (aF_cg (st_ne ew_3 (by decide))), (aF_cg (st_ne ew_2 (by decide))), aF_eq (hW_w.lt tX_83) ew_1]) (by rw [(aF_cg (st_ne ew_4 (by decide))), (aF_cg (st_ne ew_3 (by decide))), aF_eq (hW_w_1.lt tX_84) ew_2, (aF_cg (st_ne ew_1 (by decide)))]) (by rw [(aF_cg (st_ne ew_4 (by decide))), aF_eq (hW_w_2.lt tX_87) ew_3, (aF_cg (st_ne ew_2 (by decide))), (aF_cg (st_ne ew_1 (by decide)))]) (fI_eq (hW_w_3.lt tX_81) ew_4 (hW_w_3.ll tX_81 (Nat.le_of_ble_eq_true rfl))) ((aF_cg (st_ne ew_4 (by decide))).trans ((aF_cg (st_ne ew_3 (by decide))).trans ((aF_cg (st_ne ew_2 (by decide))).trans (aF_cg (st_ne ew_1 (by decide)))))) ((aF_cg (st_ne ew_4 (by decide))).trans ((aF_cg (st_ne ew_3 (by decide))).trans ((aF_cg (st_ne ew_2 (by decide))).trans (aF_cg (st_ne ew_1 (by decide)))))) ((aF_cg (st_ne ew_4 (by decide))).trans ((aF_cg (st_ne ew_3 (by decide))).trans ((aF_cg (st_ne ew_2 (by decide))).trans (aF_cg (st_ne ew_1 (by decide)))))) ((fI_nej (hW_w_3.lt tX_81) ew_4 (by decide)).trans ((fI_cg (st_ne ew_3 (by decide))).trans ((fI_cg (st_ne ew_2 (by decide))).trans (fI_cg (st_ne ew_1 (by decide)))))) ((fI_nej (hW_w_3.lt tX_81) ew_4 (by decide)).trans ((fI_cg (st_ne ew_3 (by decide))).trans ((fI_cg (st_ne ew_2 (by decide))).trans (fI_cg (st_ne ew_1 (by decide)))))) ((fI_nej (hW_w_3.lt tX_81) ew_4 (by decide)).trans ((fI_cg (st_ne ew_3 (by decide))).trans ((fI_cg (st_ne ew_2 (by decide))).trans (fI_cg (st_ne ew_1 (by decide)))))) ((fI_cg (st_ne ew_4 (by decide))).trans ((fI_cg (st_ne ew_3 (by decide))).trans ((fI_cg (st_ne ew_2 (by decide))).trans (fI_cg (st_ne ew_1 (by decide)))))) ((fI_cg (st_ne ew_4 (by decide))).trans ((fI_cg (st_ne ew_3 (by decide))).trans ((fI_cg (st_ne ew_2 (by decide))).trans (fI_cg (st_ne ew_1 (by decide)))))) (Or.inl ((fI_nej (hW_w_3.lt tX_81) ew_4 (by decide)).trans ((fI_cg (st_ne ew_3 (by decide))).trans ((fI_cg (st_ne ew_2 (by decide))).trans (fI_cg (st_ne ew_1 (by decide))))))) hRI)⟩
      · refine lv_aload_n hx hb dX9_seeRow_71 rfl (lv_at hl 0 rfl) ?_
        refine lv_iload_n hx hb dX9_seeRow_72 rfl (lv_at hl 1 rfl) ?_
        refine pt_X9 hx hb hts hown hK hP hD hS 81 (hW_w_4.o tX_81) 12 (by decide) wd_523 rfl rfl (ty := .int) (v := .int p1) (by decide +kernel) rfl rfl (hW_w_4.ll tX_81 (Nat.le_of_ble_eq_true rfl)) dX9_seeRow_73 (fun H locs hP hD hS => fr_w (hW_w_4.sI tX_81 rfl (In_w i_p1 (by decide) : In (-1) 39 p1)) hP hD (fun w_10 ew_10 hW_w_10 hP hD => ?_))
        exact hret _ _ _ _ _ hP hD hS dX9_seeRow_76 ⟨hW_w_10, (((((Sm.rf.sa ew_1 (by decide)).sa ew_2 (by decide)).sa ew_3 (by decide)).sf (hW_w_3.lt tX_81) ew_4 (by decide)).sf (hW_w_4.lt tX_81) ew_10 (by decide)), (RI_row i_p1 hrr hn hk (RI_tail hRI i_p1 hn (hW_w.fin tX_81 rfl) : In 0 39 (fI w 81 11)) (by rw [(aF_cg (st_ne ew_10 (by decide))), (aF_cg (st_ne ew_4 (by decide))), (aF_cg (st_ne ew_3 (by decide))), (aF_cg (st_ne ew_2 (by decide))), aF_eq (hW_w.lt tX_83) ew_1]) (by rw [(aF_cg (st_ne ew_10 (by decide))), (aF_cg (st_ne ew_4 (by decide))), (aF_cg (st_ne ew_3 (by decide))), aF_eq (hW_w_1.lt tX_84) ew_2, (aF_cg (st_ne ew_1 (by decide)))]) (by rw [(aF_cg (st_ne ew_10 (by decide))), (aF_cg (st_ne ew_4 (by decide))), aF_eq (hW_w_2.lt tX_87) ew_3, (aF_cg (st_ne ew_2 (by decide))), (aF_cg (st_ne ew_1 (by decide)))]) ((fI_nej (hW_w_4.lt tX_81) ew_10 (by decide)).trans (fI_eq (hW_w_3.lt tX_81) ew_4 (hW_w_3.ll tX_81 (Nat.le_of_ble_eq_true rfl)))) ((aF_cg (st_ne ew_10 (by decide))).trans ((aF_cg (st_ne ew_4 (by decide))).trans ((aF_cg (st_ne ew_3 (by decide))).trans ((aF_cg (st_ne ew_2 (by decide))).trans (aF_cg (st_ne ew_1 (by decide))))))) ((aF_cg (st_ne ew_10 (by decide))).trans ((aF_cg (st_ne ew_4 (by decide))).trans ((aF_cg (st_ne ew_3 (by decide))).trans ((aF_cg (st_ne ew_2 (by decide))).trans (aF_cg (st_ne ew_1 (by decide))))))) ((aF_cg (st_ne ew_10 (by decide))).trans ((aF_cg (st_ne ew_4 (by decide))).trans ((aF_cg (st_ne ew_3 (by decide))).trans ((aF_cg (st_ne ew_2 (by decide))).trans (aF_cg (st_ne ew_1 (by decide))))))) ((fI_nej (hW_w_4.lt tX_81) ew_10 (by decide)).trans ((fI_nej (hW_w_3.lt tX_81) ew_4 (by decide)).trans ((fI_cg (st_ne ew_3 (by decide))).trans ((fI_cg (st_ne ew_2 (by decide))).trans (fI_cg (st_ne ew_1 (by decide))))))) ((fI_nej (hW_w_4.lt tX_81) ew_10 (by decide)).trans ((fI_nej (hW_w_3.lt tX_81) ew_4 (by decide)).trans ((fI_cg (st_ne ew_3 (by decide))).trans ((fI_cg (st_ne ew_2 (by decide))).trans (fI_cg (st_ne ew_1 (by decide))))))) ((fI_nej (hW_w_4.lt tX_81) ew_10 (by decide)).trans ((fI_nej (hW_w_3.lt tX_81) ew_4 (by decide)).trans ((fI_cg (st_ne ew_3 (by decide))).trans ((fI_cg (st_ne ew_2 (by decide))).trans (fI_cg (st_ne ew_1 (by decide))))))) ((fI_cg (st_ne ew_10 (by decide))).trans ((fI_cg (st_ne ew_4 (by decide))).trans ((fI_cg (st_ne ew_3 (by decide))).trans ((fI_cg (st_ne ew_2 (by decide))).trans (fI_cg (st_ne ew_1 (by decide))))))) ((fI_cg (st_ne ew_10 (by decide))).trans ((fI_cg (st_ne ew_4 (by decide))).trans ((fI_cg (st_ne ew_3 (by decide))).trans ((fI_cg (st_ne ew_2 (by decide))).trans (fI_cg (st_ne ew_1 (by decide))))))) (Or.inr ⟨c_5, c_6, (fI_eq (hW_w_4.lt tX_81) ew_10 (hW_w_4.ll tX_81 (Nat.le_of_ble_eq_true rfl)))⟩) hRI)⟩
set_option maxRecDepth 100000 in
set_option maxHeartbeats 8000000 in
theorem k_X9_see (l : Launch) (D : va_G) (cI cJ cZ : ClassId) (q : Nat → Nat) (bb bs bp : Nat) (w : va_W) (hW_w : HT q (TX q cI cJ cZ bb bs bp) w) (p1 : Int32) (p2 : Int32) (p3 : Int32) (i_p1 : In (-2) 39 p1) (i_p2 : In 0 9 p2) (i_p3 : In 0 23 p3) (hf_64_0 : In 1 10 (fI w 64 0)) (hf_64_1 : In 1 40 (fI w 64 1)) (hf_64_2 : In 1 24 (fI w 64 2)) (hRI : RI w) (hFL : FL w) (hrw : rwP w p1) (hnk : ¬ aF w 85 (p2 * 24 + p3).toNatClampNeg = fI w 81 4) (hsl : p3.toInt < (fI w 64 2).toInt) : Con_v l yX9_see cX9_see 9 none ({ frames := 1, cells := 0, slots := 0, locals := 22 }) D cI cJ cZ eW [.ref (q 81), .int p1, .int p2, .int p3] w (fun (w1 : va_W) => HT q (TX q cI cJ cZ bb bs bp) w1 ∧ Sm [81, 83, 84, 85, 86, 87] [(81, 11), (81, 12), (81, 13)] w w1 ∧ ((RI w1 ∧ Mn w w1))) := by
  refine eQ_v rfl (by decide) (Nat.le_of_ble_eq_true rfl) ⟨rfl, rfl⟩ ?_
  intro p e R s m args below meth c A Q hx hb hml hown hts hK hE hA hR hret hP hD hS ls hl
  have hown : s.vm.findClass RX9 = some m.cls := hown
  have hl : lv_has ls 9 [(0, .ref (q 81)), (1, .int p1), (2, .int p2), (3, .int p3)] := hl
  have J102 : ∀ (N : Nat) (x102_5 : Int64) (x102_7 : Int32) (w102 : va_W) (H : Heap) (locs : List Loc) (ls : Array Slot), (40 - x102_7.toInt).toNat < N → HT q (TX q cI cJ cZ bb bs bp) w102 → Sm [81, 83, 84, 85, 86, 87] [(81, 11), (81, 12), (81, 13)] w w102 → (In (-2) 39 p1) → (In 0 9 p2) → (In 0 23 p3) → (In 0 239 ((p2 * 24) + p3)) → (In 0 40 x102_7) → (In 1 10 (fI w102 64 0)) → (In 1 40 (fI w102 64 1)) → (In 1 24 (fI w102 64 2)) → (RI w102 ∧ Mn w w102 ∧ kn w102 (p2 * 24 + p3).toNatClampNeg) → ((aF w 66 p3.toNatClampNeg).toInt ≤ (x102_7 : Int32).toInt) → va_P D vwCl w102 H → va_D A w102 → va_S A s.heap H locs → lv_has ls 9 [(0, .ref (q 81)), (1, .int p1), (2, .int p2), (3, .int p3), (4, .int ((p2 * 24) + p3)), (5, .long x102_5), (7, .int x102_7)] → W p l e R s m args below meth c H locs 0 0 Q (F0 m 102 ls []) := by
    intro N
    induction N with
    | zero => intro x102_5 x102_7 w102 H locs ls hmu; exact absurd hmu (Nat.not_lt_zero _)
    | succ N ih102 =>
      intro x102_5 x102_7 w102 H locs ls hmu102 hW_w102 hM_w102 i_x102_1 i_x102_2 i_x102_3 i_x102_4 i_x102_7 g102_64_0 g102_64_1 g102_64_2 hR_102 hm_102 hP hD hS hl
      have J206 : ∀ (x206_8 : Int32) (w206 : va_W) (H : Heap) (locs : List Loc) (ls : Array Slot), HT q (TX q cI cJ cZ bb bs bp) w206 → Sm [81, 83, 84, 85, 86, 87] [(81, 11), (81, 12), (81, 13)] w w206 → (In (-2) 39 p1) → (In 0 9 p2) → (In 0 23 p3) → (In 0 239 ((p2 * 24) + p3)) → (In 0 39 x102_7) → (In 0 1 x206_8) → (In 1 10 (fI w206 64 0)) → (In 1 40 (fI w206 64 1)) → (In 1 24 (fI w206 64 2)) → (RI w206 ∧ Mn w w206 ∧ kn w206 (p2 * 24 + p3).toNatClampNeg) → ((aF w 66 p3.toNatClampNeg).toInt ≤ (x102_7 : Int32).toInt) → va_P D vwCl w206 H → va_D A w206 → va_S A s.heap H locs → lv_has ls 9 [(0, .ref (q 81)), (1, .int p1), (2, .int p2), (3, .int p3), (4, .int ((p2 * 24) + p3)), (5, .long x102_5), (7, .int x102_7), (8, .int x206_8)] → W p l e R s m args below meth c H locs 0 0 Q (F0 m 206 ls []) := by
        intro x206_8 w206 H locs ls hW_w206 hM_w206 i_x206_1 i_x206_2 i_x206_3 i_x206_4 i_x206_7 i_x206_8 g206_64_0 g206_64_1 g206_64_2 hR_206 hm_206 hP hD hS hl
        refine lv_iinc (v := (x102_7 + 1)) (lv' := [(7, .int (x102_7 + 1)), (0, .ref (q 81)), (1, .int p1), (2, .int p2), (3, .int p3), (4, .int ((p2 * 24) + p3)), (5, .long x102_5), (8, .int x206_8)]) hx hb dX9_see_206 hl (k := 6) rfl (rfl) (by decide) rfl (fun ls hl => ?_)
        refine lv_goto (tgt := 102) hx hb dX9_see_209 (by decide) ?_
        exact ih102 x102_5 (x102_7 + 1) w206 _ _ ls (mu_inc hmu102 i_x206_7 (In_lit (n := 1) (by decide) (by decide) : In 1 1 1) (by decide)) hW_w206 hM_w206 i_p1 i_p2 i_p3 i_x102_4 (In_w ((In_add (y := 1) i_x206_7 (In_lit (n := 1) (by decide) (by decide) : In 1 1 1) (by decide)) : In 1 40 (x102_7 + 1)) (by decide) : In 0 40 (x102_7 + 1)) (In_of (hM_w206.gI (by decide)) (In_of (hM_w206.gI (by decide)).symm g206_64_0)) (In_of (hM_w206.gI (by decide)) (In_of (hM_w206.gI (by decide)).symm g206_64_1)) (In_of (hM_w206.gI (by decide)) (In_of (hM_w206.gI (by decide)).symm g206_64_2)) hR_206 (by have t12 := t_add i_x206_7 (In_lit (n := 1) (by decide) (by decide) : In 1 1 1) (by decide); have z1 : (1 : Int32).toInt = 1 := (by decide); omega) hP hD hS (lv_sub hl [1, 2, 3, 4, 5, 6, 0] rfl)
      refine lv_iload hx hb dX9_see_102 (lv_at hl 6 rfl) ?_
      refine lv_aload_n hx hb dX9_see_104 rfl (lv_at hl 0 rfl) ?_
      refine gt_X9 hx hb hts hown hK hP 81 (hW_w102.o tX_81) 0 (by decide) wd_511 rfl (hW_w102.fr tX_81 rfl) dX9_see_105 ?_
      refine gt_X3 hx hb hts hown hK hP 64 (hW_w102.o tX_64) 4 (by decide) wd_415 rfl (hW_w102.fr tX_64 rfl) dX9_see_108 ?_
      refine lv_iload_n hx hb dX9_see_111 rfl (lv_at hl 3 rfl) ?_
      refine lv_iconst (v := 1) hx hb dX9_see_112 (by decide) ?_
      refine lv_iadd hx hb dX9_see_113 ?_
      refine va_iald hx hb hK hP 66 0 (hW_w102.a tX_66) rfl (in_I ((In_add i_p3 (In_lit (n := 1) (by decide) (by decide) : In 1 1 1) (by decide)) : In 1 24 (p3 + 1)) (by decide)) dX9_see_114 ?_
      refine lv_topi (fun v_1 ev_1 => ?_)
      refine lv_icmp_ge (tgt := 212) hx hb dX9_see_115 (by decide) (fun c_2 => ?_) (fun c_2 => ?_)
      · have lb_c_2 : (v_1 : Int32).toInt ≤ (x102_7 : Int32).toInt := q_le.mp c_2
        exact hret _ _ _ _ _ hP hD hS dX9_see_212 ⟨hW_w102, hM_w102, ⟨hR_102.1, hR_102.2.1⟩⟩
      · have lb_c_2 : ¬ (v_1 : Int32).toInt ≤ (x102_7 : Int32).toInt := fun h => c_2 (q_le.mpr h)
        refine lv_aload_n hx hb dX9_see_118 rfl (lv_at hl 0 rfl) ?_
        refine gt_X9 hx hb hts hown hK hP 81 (hW_w102.o tX_81) 0 (by decide) wd_511 rfl (hW_w102.fr tX_81 rfl) dX9_see_119 ?_
        refine gt_X3 hx hb hts hown hK hP 64 (hW_w102.o tX_64) 8 (by decide) wd_427 rfl (hW_w102.fr tX_64 rfl) dX9_see_122 ?_
        refine lv_iload hx hb dX9_see_125 (lv_at hl 6 rfl) ?_
        refine va_iald hx hb hK hP 70 0 (hW_w102.a tX_70) rfl (in_I (R_nle_r (In_of ev_1 (hW_w102.ap tX_66 _) : In 0 40 v_1) i_x102_7 c_2 (by decide) : In 0 39 x102_7) (by decide)) dX9_see_127 ?_
        refine lv_topi (fun v_3 ev_3 => ?_)
        refine lv_aload_n hx hb dX9_see_128 rfl (lv_at hl 0 rfl) ?_
        refine gt_X9 hx hb hts hown hK hP 81 (hW_w102.o tX_81) 3 (by decide) wd_514 rfl (hW_w102.fr tX_81 rfl) dX9_see_129 ?_
        refine lv_iload hx hb dX9_see_132 (lv_at hl 6 rfl) ?_
        refine va_iald hx hb hK hP 82 0 (hW_w102.a tX_82) rfl (in_I (R_nle_r (In_of ev_1 (hW_w102.ap tX_66 _) : In 0 40 v_1) i_x102_7 c_2 (by decide) : In 0 39 x102_7) (by decide)) dX9_see_134 ?_
        refine lv_topi (fun v_4 ev_4 => ?_)
        refine lv_iconst (v := (-1)) hx hb dX9_see_135 (by decide) ?_
        refine lv_ixor hx hb dX9_see_136 ?_
        refine lv_topi (fun v_5 ev_5 => ?_)
        refine lv_iand hx hb dX9_see_137 ?_
        refine lv_topi (fun v_6 ev_6 => ?_)
        refine lv_iconst (v := 1) hx hb dX9_see_138 (by decide) ?_
        refine lv_iload_n hx hb dX9_see_139 rfl (lv_at hl 2 rfl) ?_
        refine lv_ishl hx hb dX9_see_140 ?_
        refine lv_topi (fun v_7 ev_7 => ?_)
        refine lv_iand hx hb dX9_see_141 ?_
        refine lv_topi (fun v_8 ev_8 => ?_)
        refine lv_if_eq (tgt := 149) hx hb dX9_see_142 (by decide) (fun c_9 => ?_) (fun c_9 => ?_)
        · refine lv_iconst (v := 0) hx hb dX9_see_149 (by decide) ?_
          refine lv_istore (lv' := [(8, .int 0), (0, .ref (q 81)), (1, .int p1), (2, .int p2), (3, .int p3), (4, .int ((p2 * 24) + p3)), (5, .long x102_5), (7, .int x102_7)]) hx hb dX9_see_150 hl (by decide) rfl (fun ls hl => ?_)
          refine lv_iload hx hb dX9_see_152 (lv_at hl 0 rfl) ?_
          refine lv_if_eq (tgt := 206) hx hb dX9_see_154 (by decide) (fun _ => ?_) (fun h => (h (by decide)).elim)
          exact J206 0 w102 _ _ ls hW_w102 hM_w102 i_p1 i_p2 i_p3 i_x102_4 (R_nle_r (In_of ev_1 (hW_w102.ap tX_66 _) : In 0 40 v_1) i_x102_7 c_2 (by decide) : In 0 39 x102_7) (In_lit (n := 0) (by decide) (by decide) : In 0 1 0) (In_of (hM_w102.gI (by decide)) (In_of (hM_w102.gI (by decide)).symm g102_64_0)) (In_of (hM_w102.gI (by decide)) (In_of (hM_w102.gI (by decide)).symm g102_64_1)) (In_of (hM_w102.gI (by decide)) (In_of (hM_w102.gI (by decide)).symm g102_64_2)) hR_102 (by omega) hP hD hS (lv_sub hl [1, 2, 3, 4, 5, 6, 7, 0] rfl)
        · refine lv_iconst (v := 1) hx hb dX9_see_145 (by decide) ?_
          refine lv_goto (tgt := 150) hx hb dX9_see_146 (by decide) ?_
          refine lv_istore (lv' := [(8, .int 1), (0, .ref (q 81)), (1, .int p1), (2, .int p2), (3, .int p3), (4, .int ((p2 * 24) + p3)), (5, .long x102_5), (7, .int x102_7)]) hx hb dX9_see_150 hl (by decide) rfl (fun ls hl => ?_)
          refine lv_iload hx hb dX9_see_152 (lv_at hl 0 rfl) ?_
          refine lv_if_eq (tgt := 206) hx hb dX9_see_154 (by decide) (fun h => absurd h (by decide)) (fun _ => ?_)
          refine lv_aload_n hx hb dX9_see_157 rfl (lv_at hl 1 rfl) ?_
          refine gt_X9 hx hb hts hown hK hP 81 (hW_w102.o tX_81) 5 (by decide) wd_516 rfl (hW_w102.fr tX_81 rfl) dX9_see_158 ?_
          refine lv_iload hx hb dX9_see_161 (lv_at hl 7 rfl) ?_
          refine va_iald hx hb hK hP 83 0 (hW_w102.a tX_83) rfl (in_I (R_nle_r (In_of ev_1 (hW_w102.ap tX_66 _) : In 0 40 v_1) i_x102_7 c_2 (by decide) : In 0 39 x102_7) (by decide)) dX9_see_163 ?_
          refine lv_topi (fun v_12 ev_12 => ?_)
          refine lv_aload_n hx hb dX9_see_164 rfl (lv_at hl 1 rfl) ?_
          refine gt_X9 hx hb hts hown hK hP 81 (hW_w102.o tX_81) 4 (by decide) wd_515 rfl (hW_w102.fi tX_81 rfl) dX9_see_165 ?_
          refine tov (v := (fI w 81 4)) (hM_w102.2 81 4 (by decide) (by decide)) ?_
          refine lv_icmp_eq (tgt := 206) hx hb dX9_see_168 (by decide) (fun c_13 => ?_) (fun c_13 => ?_)
          · exact J206 1 w102 _ _ ls hW_w102 hM_w102 i_p1 i_p2 i_p3 i_x102_4 (R_nle_r (In_of ev_1 (hW_w102.ap tX_66 _) : In 0 40 v_1) i_x102_7 c_2 (by decide) : In 0 39 x102_7) (In_lit (n := 1) (by decide) (by decide) : In 0 1 1) (In_of (hM_w102.gI (by decide)) (In_of (hM_w102.gI (by decide)).symm g102_64_0)) (In_of (hM_w102.gI (by decide)) (In_of (hM_w102.gI (by decide)).symm g102_64_1)) (In_of (hM_w102.gI (by decide)) (In_of (hM_w102.gI (by decide)).symm g102_64_2)) hR_102 (by omega) hP hD hS (lv_sub hl [1, 2, 3, 4, 5, 6, 7, 0] rfl)
          · refine lv_aload_n hx hb dX9_see_171 rfl (lv_at hl 1 rfl) ?_
            refine gt_X9 hx hb hts hown hK hP 81 (hW_w102.o tX_81) 1 (by decide) wd_512 rfl (hW_w102.fr tX_81 rfl) dX9_see_172 ?_
            refine gt_X2 hx hb hts hown hK hP 74 (hW_w102.o tX_74) 1 (by decide) wd_469 rfl (hW_w102.fr tX_74 rfl) dX9_see_175 ?_
            refine lv_iload hx hb dX9_see_178 (lv_at hl 7 rfl) ?_
            refine va_lald hx hb hK hP 75 1 (hW_w102.al tX_75) rfl (in_I (R_nle_r (In_of ev_1 (hW_w102.ap tX_66 _) : In 0 40 v_1) i_x102_7 c_2 (by decide) : In 0 39 x102_7) (by decide)) dX9_see_180 ?_
            refine lv_topl (fun v_14 ev_14 => ?_)
            refine lv_lload hx hb dX9_see_181 (lv_at hl 6 rfl) ?_
            refine lv_aload_n hx hb dX9_see_183 rfl (lv_at hl 1 rfl) ?_
            refine gt_X9 hx hb hts hown hK hP 81 (hW_w102.o tX_81) 0 (by decide) wd_511 rfl (hW_w102.fr tX_81 rfl) dX9_see_184 ?_
            refine lv_iload hx hb dX9_see_187 (lv_at hl 7 rfl) ?_
            refine lv_iload_n hx hb dX9_see_189 rfl (lv_at hl 3 rfl) ?_
            refine kW_i ⟨rfl, rfl⟩ hP hD hS hA (rW_V (As := [.int x102_7, .int p2]) (rest := [.long x102_5, .long v_14]) hx hb hml hown hts hK hE hP hD (k_X3_pointsOf l D cI cJ cZ q bb bs bp w102 hW_w102 x102_7 p2 (R_nle_r (In_of ev_1 (hW_w102.ap tX_66 _) : In 0 40 v_1) i_x102_7 c_2 (by decide) : In 0 39 x102_7) i_p2 (In_of (hM_w102.gI (by decide)) (In_of (hM_w102.gI (by decide)).symm g102_64_0)) (In_of (hM_w102.gI (by decide)) (In_of (hM_w102.gI (by decide)).symm g102_64_1)) (In_of (hM_w102.gI (by decide)) (In_of (hM_w102.gI (by decide)).symm g102_64_2)) _) ⟨⟨rfl, rfl⟩, rfl, rfl⟩ sv_X9_131 ⟨(Nat.le_trans (by decide) hR.1), (Nat.le_trans (by decide) hR.2)⟩ 64 3 (hW_w102.o tX_64) rfl rfl rfl hl.1 rfl (Nat.le_of_ble_eq_true rfl) dX9_see_190) (fun r_16 w_15 H locs hw_w_15 hP hD hS => ?_)
            obtain ⟨hW_w_15, hs_w_15⟩ := hw_w_15
            refine lv_i2l hx hb dX9_see_193 rfl ?_
            refine lv_topl (fun v_17 ev_17 => ?_)
            refine lv_ladd hx hb dX9_see_194 ?_
            refine lv_topl (fun v_18 ev_18 => ?_)
            refine W.lcmp hx hb dX9_see_195 ?_
            refine lv_topi (fun v_19 ev_19 => ?_)
            refine lv_if_ne (tgt := 206) hx hb dX9_see_196 (by decide) (fun c_20 => ?_) (fun c_20 => ?_)
            · exact J206 1 w_15 _ _ ls hW_w_15 (hM_w102.tr hs_w_15 (by decide)) i_p1 i_p2 i_p3 i_x102_4 (R_nle_r (In_of ev_1 (hW_w102.ap tX_66 _) : In 0 40 v_1) i_x102_7 c_2 (by decide) : In 0 39 x102_7) (In_lit (n := 1) (by decide) (by decide) : In 0 1 1) (In_of ((hs_w_15.gI (by decide)).trans (hM_w102.gI (by decide))) (In_of (hM_w102.gI (by decide)).symm g102_64_0)) (In_of ((hs_w_15.gI (by decide)).trans (hM_w102.gI (by decide))) (In_of (hM_w102.gI (by decide)).symm g102_64_1)) (In_of ((hs_w_15.gI (by decide)).trans (hM_w102.gI (by decide))) (In_of (hM_w102.gI (by decide)).symm g102_64_2)) (⟨RI_cg ⟨(hs_w_15.hA (by decide)), (hs_w_15.hA (by decide)), (hs_w_15.hA (by decide)), (hs_w_15.hA (by decide)), (hs_w_15.hA (by decide)), (hs_w_15.hA (by decide)), (hs_w_15.gI (by decide)), (hs_w_15.gI (by decide)), (hs_w_15.gI (by decide)), (hs_w_15.gI (by decide)), (hs_w_15.gI (by decide)), (hs_w_15.gI (by decide)), (hs_w_15.gI (by decide))⟩ hR_102.1, Mn_cg ⟨(hs_w_15.hA (by decide)), (hs_w_15.hA (by decide)), (hs_w_15.hA (by decide)), (hs_w_15.hA (by decide)), (hs_w_15.hA (by decide)), (hs_w_15.hA (by decide)), (hs_w_15.gI (by decide)), (hs_w_15.gI (by decide)), (hs_w_15.gI (by decide)), (hs_w_15.gI (by decide)), (hs_w_15.gI (by decide)), (hs_w_15.gI (by decide)), (hs_w_15.gI (by decide))⟩ hR_102.2.1, kn_cg (hs_w_15.hA (by decide)) (hs_w_15.gI (by decide)) hR_102.2.2⟩ : RI w_15 ∧ Mn w w_15 ∧ kn w_15 (p2 * 24 + p3).toNatClampNeg) (by omega) hP hD hS (lv_sub hl [1, 2, 3, 4, 5, 6, 7, 0] rfl)
            · refine lv_aload_n hx hb dX9_see_199 rfl (lv_at hl 1 rfl) ?_
              refine lv_iload hx hb dX9_see_200 (lv_at hl 7 rfl) ?_
              refine lv_iload_n hx hb dX9_see_202 rfl (lv_at hl 3 rfl) ?_
              refine kW_v ⟨rfl, rfl⟩ hP hD hS hA (rW_V (As := [.int x102_7, .int p2]) (rest := []) hx hb hml hown hts hK hE hP hD (k_X9_seeRow l D cI cJ cZ q bb bs bp w_15 hW_w_15 x102_7 p2 (R_nle_r (In_of ev_1 (hW_w102.ap tX_66 _) : In 0 40 v_1) i_x102_7 c_2 (by decide) : In 0 39 x102_7) (In_w i_p2 (by decide) : In (-3) 9 p2) (In_of ((hs_w_15.gI (by decide)).trans (hM_w102.gI (by decide))) (In_of (hM_w102.gI (by decide)).symm g102_64_0)) (In_of ((hs_w_15.gI (by decide)).trans (hM_w102.gI (by decide))) (In_of (hM_w102.gI (by decide)).symm g102_64_1)) (In_of ((hs_w_15.gI (by decide)).trans (hM_w102.gI (by decide))) (In_of (hM_w102.gI (by decide)).symm g102_64_2)) ((⟨RI_cg ⟨(hs_w_15.hA (by decide)), (hs_w_15.hA (by decide)), (hs_w_15.hA (by decide)), (hs_w_15.hA (by decide)), (hs_w_15.hA (by decide)), (hs_w_15.hA (by decide)), (hs_w_15.gI (by decide)), (hs_w_15.gI (by decide)), (hs_w_15.gI (by decide)), (hs_w_15.gI (by decide)), (hs_w_15.gI (by decide)), (hs_w_15.gI (by decide)), (hs_w_15.gI (by decide))⟩ hR_102.1, Mn_cg ⟨(hs_w_15.hA (by decide)), (hs_w_15.hA (by decide)), (hs_w_15.hA (by decide)), (hs_w_15.hA (by decide)), (hs_w_15.hA (by decide)), (hs_w_15.hA (by decide)), (hs_w_15.gI (by decide)), (hs_w_15.gI (by decide)), (hs_w_15.gI (by decide)), (hs_w_15.gI (by decide)), (hs_w_15.gI (by decide)), (hs_w_15.gI (by decide)), (hs_w_15.gI (by decide))⟩ hR_102.2.1, kn_cg (hs_w_15.hA (by decide)) (hs_w_15.gI (by decide)) hR_102.2.2⟩ : RI w_15 ∧ Mn w w_15 ∧ kn w_15 (p2 * 24 + p3).toNatClampNeg).1) ((fun q => c_13 ((ev_12.trans (congrFun (hs_w_15.hA (by decide)) _).symm).trans (q.trans ((hs_w_15.gI (by decide)).trans (hM_w102.2 81 4 (by decide) (by decide))))))) (Or.inr ⟨i_p2.1, (by have g := (FL_slot hFL i_p3 hsl (R_nle_r (In_of ev_1 (hW_w102.ap tX_66 _) : In 0 40 v_1) i_x102_7 c_2 (by decide) : In 0 39 x102_7) rfl ((congrFun (hM_w102.hA (by decide)) _).symm.trans ev_1.symm).symm hm_102 (by omega) rfl); have e := ix24 i_p2 i_p3; rw [show aF w_15 65 = aF w 65 from ((hs_w_15.hA (by decide)).trans (hM_w102.hA (by decide))), g.1, ← e.1]; exact (⟨RI_cg ⟨(hs_w_15.hA (by decide)), (hs_w_15.hA (by decide)), (hs_w_15.hA (by decide)), (hs_w_15.hA (by decide)), (hs_w_15.hA (by decide)), (hs_w_15.hA (by decide)), (hs_w_15.gI (by decide)), (hs_w_15.gI (by decide)), (hs_w_15.gI (by decide)), (hs_w_15.gI (by decide)), (hs_w_15.gI (by decide)), (hs_w_15.gI (by decide)), (hs_w_15.gI (by decide))⟩ hR_102.1, Mn_cg ⟨(hs_w_15.hA (by decide)), (hs_w_15.hA (by decide)), (hs_w_15.hA (by decide)), (hs_w_15.hA (by decide)), (hs_w_15.hA (by decide)), (hs_w_15.hA (by decide)), (hs_w_15.gI (by decide)), (hs_w_15.gI (by decide)), (hs_w_15.gI (by decide)), (hs_w_15.gI (by decide)), (hs_w_15.gI (by decide)), (hs_w_15.gI (by decide)), (hs_w_15.gI (by decide))⟩ hR_102.2.1, kn_cg (hs_w_15.hA (by decide)) (hs_w_15.gI (by decide)) hR_102.2.2⟩ : RI w_15 ∧ Mn w w_15 ∧ kn w_15 (p2 * 24 + p3).toNatClampNeg).2.2)⟩) ((by have g := (FL_slot hFL i_p3 hsl (R_nle_r (In_of ev_1 (hW_w102.ap tX_66 _) : In 0 40 v_1) i_x102_7 c_2 (by decide) : In 0 39 x102_7) rfl ((congrFun (hM_w102.hA (by decide)) _).symm.trans ev_1.symm).symm hm_102 (by omega) rfl).2; have e : (fI w_15 64 1).toInt = (fI w 64 1).toInt := congrArg Int32.toInt ((hs_w_15.gI (by decide)).trans (hM_w102.gI (by decide))); omega)) _) ⟨⟨rfl, rfl⟩, rfl, rfl⟩ sv_X9_169 ⟨(Nat.le_trans (by decide) hR.1), (Nat.le_trans (by decide) hR.2)⟩ 81 9 (hW_w_15.o tX_81) rfl rfl rfl hl.1 rfl (Nat.le_of_ble_eq_true rfl) dX9_see_203) (fun w_21 H locs hw_w_21 hP hD hS => ?_)
              obtain ⟨hW_w_21, hs_w_21, h_23⟩ := hw_w_21
              have R_w_21 : RI w_21 ∧ Mn w w_21 ∧ kn w_21 (p2 * 24 + p3).toNatClampNeg := ⟨h_23.1, (⟨RI_cg ⟨(hs_w_15.hA (by decide)), (hs_w_15.hA (by decide)), (hs_w_15.hA (by decide)), (hs_w_15.hA (by decide)), (hs_w_15.hA (by decide)), (hs_w_15.hA (by decide)), (hs_w_15.gI (by decide)), (hs_w_15.gI (by decide)), (hs_w_15.gI (by decide)), (hs_w_15.gI (by decide)), (hs_w_15.gI (by decide)), (hs_w_15.gI (by decide)), (hs_w_15.gI (by decide))⟩ hR_102.1, Mn_cg ⟨(hs_w_15.hA (by decide)), (hs_w_15.hA (by decide)), (hs_w_15.hA (by decide)), (hs_w_15.hA (by decide)), (hs_w_15.hA (by decide)), (hs_w_15.hA (by decide)), (hs_w_15.gI (by decide)), (hs_w_15.gI (by decide)), (hs_w_15.gI (by decide)), (hs_w_15.gI (by decide)), (hs_w_15.gI (by decide)), (hs_w_15.gI (by decide)), (hs_w_15.gI (by decide))⟩ hR_102.2.1, kn_cg (hs_w_15.hA (by decide)) (hs_w_15.gI (by decide)) hR_102.2.2⟩ : RI w_15 ∧ Mn w w_15 ∧ kn w_15 (p2 * 24 + p3).toNatClampNeg).2.1.tr h_23.2, h_23.2.2.1 _ (⟨RI_cg ⟨(hs_w_15.hA (by decide)), (hs_w_15.hA (by decide)), (hs_w_15.hA (by decide)), (hs_w_15.hA (by decide)), (hs_w_15.hA (by decide)), (hs_w_15.hA (by decide)), (hs_w_15.gI (by decide)), (hs_w_15.gI (by decide)), (hs_w_15.gI (by decide)), (hs_w_15.gI (by decide)), (hs_w_15.gI (by decide)), (hs_w_15.gI (by decide)), (hs_w_15.gI (by decide))⟩ hR_102.1, Mn_cg ⟨(hs_w_15.hA (by decide)), (hs_w_15.hA (by decide)), (hs_w_15.hA (by decide)), (hs_w_15.hA (by decide)), (hs_w_15.hA (by decide)), (hs_w_15.hA (by decide)), (hs_w_15.gI (by decide)), (hs_w_15.gI (by decide)), (hs_w_15.gI (by decide)), (hs_w_15.gI (by decide)), (hs_w_15.gI (by decide)), (hs_w_15.gI (by decide)), (hs_w_15.gI (by decide))⟩ hR_102.2.1, kn_cg (hs_w_15.hA (by decide)) (hs_w_15.gI (by decide)) hR_102.2.2⟩ : RI w_15 ∧ Mn w w_15 ∧ kn w_15 (p2 * 24 + p3).toNatClampNeg).2.2⟩
              exact J206 1 w_21 _ _ ls hW_w_21 ((hM_w102.tr hs_w_15 (by decide)).tr hs_w_21 (by decide)) i_p1 i_p2 i_p3 i_x102_4 (R_nle_r (In_of ev_1 (hW_w102.ap tX_66 _) : In 0 40 v_1) i_x102_7 c_2 (by decide) : In 0 39 x102_7) (In_lit (n := 1) (by decide) (by decide) : In 0 1 1) (In_of ((hs_w_21.gI (by decide)).trans ((hs_w_15.gI (by decide)).trans (hM_w102.gI (by decide)))) (In_of (hM_w102.gI (by decide)).symm g102_64_0)) (In_of ((hs_w_21.gI (by decide)).trans ((hs_w_15.gI (by decide)).trans (hM_w102.gI (by decide)))) (In_of (hM_w102.gI (by decide)).symm g102_64_1)) (In_of ((hs_w_21.gI (by decide)).trans ((hs_w_15.gI (by decide)).trans (hM_w102.gI (by decide)))) (In_of (hM_w102.gI (by decide)).symm g102_64_2)) R_w_21 (by omega) hP hD hS (lv_sub hl [1, 2, 3, 4, 5, 6, 7, 0] rfl)
  have J91 : ∀ (x91_5 : Int64) (w91 : va_W) (H : Heap) (locs : List Loc) (ls : Array Slot), HT q (TX q cI cJ cZ bb bs bp) w91 → Sm [81, 83, 84, 85, 86, 87] [(81, 11), (81, 12), (81, 13)] w w91 → (In (-2) 39 p1) → (In 0 9 p2) → (In 0 23 p3) → (In 0 239 ((p2 * 24) + p3)) → (In 1 10 (fI w91 64 0)) → (In 1 40 (fI w91 64 1)) → (In 1 24 (fI w91 64 2)) → (RI w91 ∧ Mn w w91 ∧ kn w91 (p2 * 24 + p3).toNatClampNeg) → va_P D vwCl w91 H → va_D A w91 → va_S A s.heap H locs → lv_has ls 9 [(0, .ref (q 81)), (1, .int p1), (2, .int p2), (3, .int p3), (4, .int ((p2 * 24) + p3)), (5, .long x91_5)] → W p l e R s m args below meth c H locs 0 0 Q (F0 m 91 ls []) := by
    intro x91_5 w91 H locs ls hW_w91 hM_w91 i_x91_1 i_x91_2 i_x91_3 i_x91_4 g91_64_0 g91_64_1 g91_64_2 hR_91 hP hD hS hl
    refine lv_aload_n hx hb dX9_see_91 rfl (lv_at hl 0 rfl) ?_
    refine gt_X9 hx hb hts hown hK hP 81 (hW_w91.o tX_81) 0 (by decide) wd_511 rfl (hW_w91.fr tX_81 rfl) dX9_see_92 ?_
    refine gt_X3 hx hb hts hown hK hP 64 (hW_w91.o tX_64) 4 (by decide) wd_415 rfl (hW_w91.fr tX_64 rfl) dX9_see_95 ?_
    refine lv_iload_n hx hb dX9_see_98 rfl (lv_at hl 3 rfl) ?_
    refine va_iald hx hb hK hP 66 0 (hW_w91.a tX_66) rfl (in_I i_p3 (by decide)) dX9_see_99 ?_
    refine lv_topi (fun v_24 ev_24 => ?_)
    refine lv_istore (lv' := [(7, .int v_24), (0, .ref (q 81)), (1, .int p1), (2, .int p2), (3, .int p3), (4, .int ((p2 * 24) + p3)), (5, .long x91_5)]) hx hb dX9_see_100 hl (by decide) rfl (fun ls hl => ?_)
    exact J102 _ x91_5 v_24 w91 _ _ ls (Nat.lt_succ_self _) hW_w91 hM_w91 i_p1 i_p2 i_p3 i_x91_4 (In_of ev_24 (hW_w91.ap tX_66 _) : In 0 40 v_24) (In_of (hM_w91.gI (by decide)) (In_of (hM_w91.gI (by decide)).symm g91_64_0)) (In_of (hM_w91.gI (by decide)) (In_of (hM_w91.gI (by decide)).symm g91_64_1)) (In_of (hM_w91.gI (by decide)) (In_of (hM_w91.gI (by decide)).symm g91_64_2)) hR_91 (by have q : (v_24 : Int32).toInt = (aF w 66 p3.toNatClampNeg).toInt := congrArg Int32.toInt (ev_24.trans (congrFun (hM_w91.hA (by decide)) _)); omega) hP hD hS (lv_sub hl [1, 2, 3, 4, 5, 6, 0] rfl)
  refine lv_iload_n hx hb dX9_see_0 rfl (lv_at hl 2 rfl) ?_
  refine lv_bipush (v := 24) hx hb dX9_see_1 (by decide) ?_
  refine lv_imul hx hb dX9_see_3 ?_
  refine lv_iload_n hx hb dX9_see_4 rfl (lv_at hl 3 rfl) ?_
  refine lv_iadd hx hb dX9_see_5 ?_
  refine lv_istore (lv' := [(4, .int ((p2 * 24) + p3)), (0, .ref (q 81)), (1, .int p1), (2, .int p2), (3, .int p3)]) hx hb dX9_see_6 hl (by decide) rfl (fun ls hl => ?_)
  refine lv_aload_n hx hb dX9_see_8 rfl (lv_at hl 1 rfl) ?_
  refine gt_X9 hx hb hts hown hK hP 81 (hW_w.o tX_81) 1 (by decide) wd_512 rfl (hW_w.fr tX_81 rfl) dX9_see_9 ?_
  refine gt_X2 hx hb hts hown hK hP 74 (hW_w.o tX_74) 3 (by decide) wd_472 rfl (hW_w.fr tX_74 rfl) dX9_see_12 ?_
  refine lv_iload hx hb dX9_see_15 (lv_at hl 0 rfl) ?_
  refine va_lald hx hb hK hP 77 1 (hW_w.al tX_77) rfl (in_I ((In_add ((In_mulr i_p2 (n := 24) (by decide) (by decide)) : In 0 216 (p2 * 24)) i_p3 (by decide)) : In 0 239 ((p2 * 24) + p3)) (by decide)) dX9_see_17 ?_
  refine lv_topl (fun v_25 ev_25 => ?_)
  refine lv_lstore (lv' := [(5, .long v_25), (4, .int ((p2 * 24) + p3)), (0, .ref (q 81)), (1, .int p1), (2, .int p2), (3, .int p3)]) hx hb dX9_see_18 hl (by decide) rfl (fun ls hl => ?_)
  refine lv_aload_n hx hb dX9_see_20 rfl (lv_at hl 2 rfl) ?_
  refine gt_X9 hx hb hts hown hK hP 81 (hW_w.o tX_81) 7 (by decide) wd_518 rfl (hW_w.fr tX_81 rfl) dX9_see_21 ?_
  refine lv_iload hx hb dX9_see_24 (lv_at hl 1 rfl) ?_
  refine lv_aload_n hx hb dX9_see_26 rfl (lv_at hl 2 rfl) ?_
  refine gt_X9 hx hb hts hown hK hP 81 (hW_w.o tX_81) 4 (by decide) wd_515 rfl (hW_w.fi tX_81 rfl) dX9_see_27 ?_
  refine va_iast hx hb hK hP hD hS 85 0 (hW_w.a tX_85) rfl (in_I ((In_add ((In_mulr i_p2 (n := 24) (by decide) (by decide)) : In 0 216 (p2 * 24)) i_p3 (by decide)) : In 0 239 ((p2 * 24) + p3)) (by decide)) dX9_see_30 (fun H locs hP hD hS => fr_w (hW_w.uA tX_85 (In_any _)) hP hD (fun w_26 ew_26 hW_w_26 hP hD => ?_))
  refine lv_aload_n hx hb dX9_see_31 rfl (lv_at hl 2 rfl) ?_
  refine gt_X9 hx hb hts hown hK hP 81 (hW_w_26.o tX_81) 8 (by decide) wd_519 rfl (hW_w_26.fr tX_81 rfl) dX9_see_32 ?_
  refine lv_iload hx hb dX9_see_35 (lv_at hl 1 rfl) ?_
  refine lv_iload_n hx hb dX9_see_37 rfl (lv_at hl 3 rfl) ?_
  refine va_iast hx hb hK hP hD hS 86 0 (hW_w_26.a tX_86) rfl (in_I ((In_add ((In_mulr i_p2 (n := 24) (by decide) (by decide)) : In 0 216 (p2 * 24)) i_p3 (by decide)) : In 0 239 ((p2 * 24) + p3)) (by decide)) dX9_see_38 (fun H locs hP hD hS => fr_w (hW_w_26.uA tX_86 i_p1) hP hD (fun w_27 ew_27 hW_w_27 hP hD => ?_))
  refine lv_iload_n hx hb dX9_see_39 rfl (lv_at hl 5 rfl) ?_
  refine lv_aload_n hx hb dX9_see_40 rfl (lv_at hl 2 rfl) ?_
  refine gt_X9 hx hb hts hown hK hP 81 (hW_w_27.o tX_81) 0 (by decide) wd_511 rfl (hW_w_27.fr tX_81 rfl) dX9_see_41 ?_
  refine gt_X3 hx hb hts hown hK hP 64 (hW_w_27.o tX_64) 2 (by decide) wd_409 rfl (hW_w_27.fi tX_64 rfl) dX9_see_44 ?_
  refine tov (v := (fI w 64 2)) ((fI_cg (st_ne ew_27 (by decide))).trans (fI_cg (st_ne ew_26 (by decide)))) ?_
  refine lv_iconst (v := 1) hx hb dX9_see_47 (by decide) ?_
  refine lv_isub hx hb dX9_see_48 ?_
  refine lv_icmp_ne (tgt := 91) hx hb dX9_see_49 (by decide) (fun c_28 => ?_) (fun c_28 => ?_)
  · have lb_c_28 : ¬ (p3 : Int32).toInt = (((fI w 64 2) - 1) : Int32).toInt := fun h => c_28 (q_eq.mpr h)
    exact J91 v_25 w_27 _ _ ls hW_w_27 ((Sm.rf.sa ew_26 (by decide)).sa ew_27 (by decide)) i_p1 i_p2 i_p3 ((In_add ((In_mulr i_p2 (n := 24) (by decide) (by decide)) : In 0 216 (p2 * 24)) i_p3 (by decide)) : In 0 239 ((p2 * 24) + p3)) (In_of ((fI_cg (st_ne ew_27 (by decide))).trans (fI_cg (st_ne ew_26 (by decide)))) hf_64_0) (In_of ((fI_cg (st_ne ew_27 (by decide))).trans (fI_cg (st_ne ew_26 (by decide)))) hf_64_1) (In_of ((fI_cg (st_ne ew_27 (by decide))).trans (fI_cg (st_ne ew_26 (by decide)))) hf_64_2) (RI_see i_p2 i_p3 hsl hnk hrw (by rw [(aF_cg (st_ne ew_27 (by decide))), aF_eq (hW_w.lt tX_85) ew_26]) (by rw [aF_eq (hW_w_26.lt tX_86) ew_27, (aF_cg (st_ne ew_26 (by decide)))]) ((aF_cg (st_ne ew_27 (by decide))).trans (aF_cg (st_ne ew_26 (by decide)))) ((aF_cg (st_ne ew_27 (by decide))).trans (aF_cg (st_ne ew_26 (by decide)))) ((aF_cg (st_ne ew_27 (by decide))).trans (aF_cg (st_ne ew_26 (by decide)))) ((aF_cg (st_ne ew_27 (by decide))).trans (aF_cg (st_ne ew_26 (by decide)))) ((fI_cg (st_ne ew_27 (by decide))).trans (fI_cg (st_ne ew_26 (by decide)))) ((fI_cg (st_ne ew_27 (by decide))).trans (fI_cg (st_ne ew_26 (by decide)))) ((fI_cg (st_ne ew_27 (by decide))).trans (fI_cg (st_ne ew_26 (by decide)))) ((fI_cg (st_ne ew_27 (by decide))).trans (fI_cg (st_ne ew_26 (by decide)))) ((fI_cg (st_ne ew_27 (by decide))).trans (fI_cg (st_ne ew_26 (by decide)))) ((fI_cg (st_ne ew_27 (by decide))).trans (fI_cg (st_ne ew_26 (by decide)))) (Or.inl ((fI_cg (st_ne ew_27 (by decide))).trans (fI_cg (st_ne ew_26 (by decide))))) hRI) hP hD hS (lv_sub hl [2, 3, 4, 5, 1, 0] rfl)
  · have lb_c_28 : (p3 : Int32).toInt = (((fI w 64 2) - 1) : Int32).toInt := q_eq.mp c_28
    refine lv_aload_n hx hb dX9_see_52 rfl (lv_at hl 2 rfl) ?_
    refine gt_X9 hx hb hts hown hK hP 81 (hW_w_27.o tX_81) 13 (by decide) wd_524 rfl (hW_w_27.fi tX_81 rfl) dX9_see_53 ?_
    refine tov (v := (fI w 81 13)) ((fI_cg (st_ne ew_27 (by decide))).trans (fI_cg (st_ne ew_26 (by decide)))) ?_
    refine lv_iconst (v := (-1)) hx hb dX9_see_56 (by decide) ?_
    refine lv_icmp_ne (tgt := 91) hx hb dX9_see_57 (by decide) (fun c_29 => ?_) (fun c_29 => ?_)
    · exact J91 v_25 w_27 _ _ ls hW_w_27 ((Sm.rf.sa ew_26 (by decide)).sa ew_27 (by decide)) i_p1 i_p2 i_p3 ((In_add ((In_mulr i_p2 (n := 24) (by decide) (by decide)) : In 0 216 (p2 * 24)) i_p3 (by decide)) : In 0 239 ((p2 * 24) + p3)) (In_of ((fI_cg (st_ne ew_27 (by decide))).trans (fI_cg (st_ne ew_26 (by decide)))) hf_64_0) (In_of ((fI_cg (st_ne ew_27 (by decide))).trans (fI_cg (st_ne ew_26 (by decide)))) hf_64_1) (In_of ((fI_cg (st_ne ew_27 (by decide))).trans (fI_cg (st_ne ew_26 (by decide)))) hf_64_2) (RI_see i_p2 i_p3 hsl hnk hrw (by rw [(aF_cg (st_ne ew_27 (by decide))), aF_eq (hW_w.lt tX_85) ew_26]) (by rw [aF_eq (hW_w_26.lt tX_86) ew_27, (aF_cg (st_ne ew_26 (by decide)))]) ((aF_cg (st_ne ew_27 (by decide))).trans (aF_cg (st_ne ew_26 (by decide)))) ((aF_cg (st_ne ew_27 (by decide))).trans (aF_cg (st_ne ew_26 (by decide)))) ((aF_cg (st_ne ew_27 (by decide))).trans (aF_cg (st_ne ew_26 (by decide)))) ((aF_cg (st_ne ew_27 (by decide))).trans (aF_cg (st_ne ew_26 (by decide)))) ((fI_cg (st_ne ew_27 (by decide))).trans (fI_cg (st_ne ew_26 (by decide)))) ((fI_cg (st_ne ew_27 (by decide))).trans (fI_cg (st_ne ew_26 (by decide)))) ((fI_cg (st_ne ew_27 (by decide))).trans (fI_cg (st_ne ew_26 (by decide)))) ((fI_cg (st_ne ew_27 (by decide))).trans (fI_cg (st_ne ew_26 (by decide)))) ((fI_cg (st_ne ew_27 (by decide))).trans (fI_cg (st_ne ew_26 (by decide)))) ((fI_cg (st_ne ew_27 (by decide))).trans (fI_cg (st_ne ew_26 (by decide)))) (Or.inl ((fI_cg (st_ne ew_27 (by decide))).trans (fI_cg (st_ne ew_26 (by decide))))) hRI) hP hD hS (lv_sub hl [2, 3, 4, 5, 1, 0] rfl)
    · refine lv_aload_n hx hb dX9_see_60 rfl (lv_at hl 2 rfl) ?_
      refine gt_X9 hx hb hts hown hK hP 81 (hW_w_27.o tX_81) 0 (by decide) wd_511 rfl (hW_w_27.fr tX_81 rfl) dX9_see_61 ?_
      refine gt_X3 hx hb hts hown hK hP 64 (hW_w_27.o tX_64) 11 (by decide) wd_435 rfl (hW_w_27.fr tX_64 rfl) dX9_see_64 ?_
      refine lv_iload hx hb dX9_see_67 (lv_at hl 1 rfl) ?_
      refine va_iald hx hb hK hP 73 0 (hW_w_27.a tX_73) rfl (in_I ((In_add ((In_mulr i_p2 (n := 24) (by decide) (by decide)) : In 0 216 (p2 * 24)) i_p3 (by decide)) : In 0 239 ((p2 * 24) + p3)) (by decide)) dX9_see_69 ?_
      refine lv_topi (fun v_30 ev_30 => ?_)
      refine lv_if_le (tgt := 91) hx hb dX9_see_70 (by decide) (fun c_31 => ?_) (fun c_31 => ?_)
      · exact J91 v_25 w_27 _ _ ls hW_w_27 ((Sm.rf.sa ew_26 (by decide)).sa ew_27 (by decide)) i_p1 i_p2 i_p3 ((In_add ((In_mulr i_p2 (n := 24) (by decide) (by decide)) : In 0 216 (p2 * 24)) i_p3 (by decide)) : In 0 239 ((p2 * 24) + p3)) (In_of ((fI_cg (st_ne ew_27 (by decide))).trans (fI_cg (st_ne ew_26 (by decide)))) hf_64_0) (In_of ((fI_cg (st_ne ew_27 (by decide))).trans (fI_cg (st_ne ew_26 (by decide)))) hf_64_1) (In_of ((fI_cg (st_ne ew_27 (by decide))).trans (fI_cg (st_ne ew_26 (by decide)))) hf_64_2) (RI_see i_p2 i_p3 hsl hnk hrw (by rw [(aF_cg (st_ne ew_27 (by decide))), aF_eq (hW_w.lt tX_85) ew_26]) (by rw [aF_eq (hW_w_26.lt tX_86) ew_27, (aF_cg (st_ne ew_26 (by decide)))]) ((aF_cg (st_ne ew_27 (by decide))).trans (aF_cg (st_ne ew_26 (by decide)))) ((aF_cg (st_ne ew_27 (by decide))).trans (aF_cg (st_ne ew_26 (by decide)))) ((aF_cg (st_ne ew_27 (by decide))).trans (aF_cg (st_ne ew_26 (by decide)))) ((aF_cg (st_ne ew_27 (by decide))).trans (aF_cg (st_ne ew_26 (by decide)))) ((fI_cg (st_ne ew_27 (by decide))).trans (fI_cg (st_ne ew_26 (by decide)))) ((fI_cg (st_ne ew_27 (by decide))).trans (fI_cg (st_ne ew_26 (by decide)))) ((fI_cg (st_ne ew_27 (by decide))).trans (fI_cg (st_ne ew_26 (by decide)))) ((fI_cg (st_ne ew_27 (by decide))).trans (fI_cg (st_ne ew_26 (by decide)))) ((fI_cg (st_ne ew_27 (by decide))).trans (fI_cg (st_ne ew_26 (by decide)))) ((fI_cg (st_ne ew_27 (by decide))).trans (fI_cg (st_ne ew_26 (by decide)))) (Or.inl ((fI_cg (st_ne ew_27 (by decide))).trans (fI_cg (st_ne ew_26 (by decide))))) hRI) hP hD hS (lv_sub hl [2, 3, 4, 5, 1, 0] rfl)
      · refine lv_lload hx hb dX9_see_73 (lv_at hl 0 rfl) ?_
        refine lv_aload_n hx hb dX9_see_75 rfl (lv_at hl 2 rfl) ?_
        refine gt_X9 hx hb hts hown hK hP 81 (hW_w_27.o tX_81) 1 (by decide) wd_512 rfl (hW_w_27.fr tX_81 rfl) dX9_see_76 ?_
        refine gt_X2 hx hb hts hown hK hP 74 (hW_w_27.o tX_74) 6 (by decide) wd_476 rfl (hW_w_27.fl tX_74 rfl) dX9_see_79 ?_
        refine tol (v := (fL w 74 6)) ((fL_cg (st_ne ew_27 (by decide))).trans (fL_cg (st_ne ew_26 (by decide)))) ?_
        refine W.lcmp hx hb dX9_see_82 ?_
        refine lv_topi (fun v_32 ev_32 => ?_)
        refine lv_if_ne (tgt := 91) hx hb dX9_see_83 (by decide) (fun c_33 => ?_) (fun c_33 => ?_)
        · exact J91 v_25 w_27 _ _ ls hW_w_27 ((Sm.rf.sa ew_26 (by decide)).sa ew_27 (by decide)) i_p1 i_p2 i_p3 ((In_add ((In_mulr i_p2 (n := 24) (by decide) (by decide)) : In 0 216 (p2 * 24)) i_p3 (by decide)) : In 0 239 ((p2 * 24) + p3)) (In_of ((fI_cg (st_ne ew_27 (by decide))).trans (fI_cg (st_ne ew_26 (by decide)))) hf_64_0) (In_of ((fI_cg (st_ne ew_27 (by decide))).trans (fI_cg (st_ne ew_26 (by decide)))) hf_64_1) (In_of ((fI_cg (st_ne ew_27 (by decide))).trans (fI_cg (st_ne ew_26 (by decide)))) hf_64_2) (RI_see i_p2 i_p3 hsl hnk hrw (by rw [(aF_cg (st_ne ew_27 (by decide))), aF_eq (hW_w.lt tX_85) ew_26]) (by rw [aF_eq (hW_w_26.lt tX_86) ew_27, (aF_cg (st_ne ew_26 (by decide)))]) ((aF_cg (st_ne ew_27 (by decide))).trans (aF_cg (st_ne ew_26 (by decide)))) ((aF_cg (st_ne ew_27 (by decide))).trans (aF_cg (st_ne ew_26 (by decide)))) ((aF_cg (st_ne ew_27 (by decide))).trans (aF_cg (st_ne ew_26 (by decide)))) ((aF_cg (st_ne ew_27 (by decide))).trans (aF_cg (st_ne ew_26 (by decide)))) ((fI_cg (st_ne ew_27 (by decide))).trans (fI_cg (st_ne ew_26 (by decide)))) ((fI_cg (st_ne ew_27 (by decide))).trans (fI_cg (st_ne ew_26 (by decide)))) ((fI_cg (st_ne ew_27 (by decide))).trans (fI_cg (st_ne ew_26 (by decide)))) ((fI_cg (st_ne ew_27 (by decide))).trans (fI_cg (st_ne ew_26 (by decide)))) ((fI_cg (st_ne ew_27 (by decide))).trans (fI_cg (st_ne ew_26 (by decide)))) ((fI_cg (st_ne ew_27 (by decide))).trans (fI_cg (st_ne ew_26 (by decide)))) (Or.inl ((fI_cg (st_ne ew_27 (by decide))).trans (fI_cg (st_ne ew_26 (by decide))))) hRI) hP hD hS (lv_sub hl [2, 3, 4, 5, 1, 0] rfl)
        · refine lv_aload_n hx hb dX9_see_86 rfl (lv_at hl 2 rfl) ?_
          refine lv_iload_n hx hb dX9_see_87 rfl (lv_at hl 4 rfl) ?_
          refine pt_X9 hx hb hts hown hK hP hD hS 81 (hW_w_27.o tX_81) 13 (by decide) wd_524 rfl rfl (ty := .int) (v := .int p2) (by decide +kernel) rfl rfl (hW_w_27.ll tX_81 (Nat.le_of_ble_eq_true rfl)) dX9_see_88 (fun H locs hP hD hS => fr_w (hW_w_27.sI tX_81 rfl (In_w i_p2 (by decide) : In (-1) 9 p2)) hP hD (fun w_34 ew_34 hW_w_34 hP hD => ?_))
          exact J91 v_25 w_34 _ _ ls hW_w_34 (((Sm.rf.sa ew_26 (by decide)).sa ew_27 (by decide)).sf (hW_w_27.lt tX_81) ew_34 (by decide)) i_p1 i_p2 i_p3 ((In_add ((In_mulr i_p2 (n := 24) (by decide) (by decide)) : In 0 216 (p2 * 24)) i_p3 (by decide)) : In 0 239 ((p2 * 24) + p3)) (In_of ((fI_cg (st_ne ew_34 (by decide))).trans ((fI_cg (st_ne ew_27 (by decide))).trans (fI_cg (st_ne ew_26 (by decide))))) hf_64_0) (In_of ((fI_cg (st_ne ew_34 (by decide))).trans ((fI_cg (st_ne ew_27 (by decide))).trans (fI_cg (st_ne ew_26 (by decide))))) hf_64_1) (In_of ((fI_cg (st_ne ew_34 (by decide))).trans ((fI_cg (st_ne ew_27 (by decide))).trans (fI_cg (st_ne ew_26 (by decide))))) hf_64_2) (RI_see i_p2 i_p3 hsl hnk hrw (by rw [(aF_cg (st_ne ew_34 (by decide))), (aF_cg (st_ne ew_27 (by decide))), aF_eq (hW_w.lt tX_85) ew_26]) (by rw [(aF_cg (st_ne ew_34 (by decide))), aF_eq (hW_w_26.lt tX_86) ew_27, (aF_cg (st_ne ew_26 (by decide)))]) ((aF_cg (st_ne ew_34 (by decide))).trans ((aF_cg (st_ne ew_27 (by decide))).trans (aF_cg (st_ne ew_26 (by decide))))) ((aF_cg (st_ne ew_34 (by decide))).trans ((aF_cg (st_ne ew_27 (by decide))).trans (aF_cg (st_ne ew_26 (by decide))))) ((aF_cg (st_ne ew_34 (by decide))).trans ((aF_cg (st_ne ew_27 (by decide))).trans (aF_cg (st_ne ew_26 (by decide))))) ((aF_cg (st_ne ew_34 (by decide))).trans ((aF_cg (st_ne ew_27 (by decide))).trans (aF_cg (st_ne ew_26 (by decide))))) ((fI_nej (hW_w_27.lt tX_81) ew_34 (by decide)).trans ((fI_cg (st_ne ew_27 (by decide))).trans (fI_cg (st_ne ew_26 (by decide))))) ((fI_nej (hW_w_27.lt tX_81) ew_34 (by decide)).trans ((fI_cg (st_ne ew_27 (by decide))).trans (fI_cg (st_ne ew_26 (by decide))))) ((fI_nej (hW_w_27.lt tX_81) ew_34 (by decide)).trans ((fI_cg (st_ne ew_27 (by decide))).trans (fI_cg (st_ne ew_26 (by decide))))) ((fI_nej (hW_w_27.lt tX_81) ew_34 (by decide)).trans ((fI_cg (st_ne ew_27 (by decide))).trans (fI_cg (st_ne ew_26 (by decide))))) ((fI_cg (st_ne ew_34 (by decide))).trans ((fI_cg (st_ne ew_27 (by decide))).trans (fI_cg (st_ne ew_26 (by decide))))) ((fI_cg (st_ne ew_34 (by decide))).trans ((fI_cg (st_ne ew_27 (by decide))).trans (fI_cg (st_ne ew_26 (by decide))))) (Or.inr ⟨c_29, (fI_eq (hW_w_27.lt tX_81) ew_34 (hW_w_27.ll tX_81 (Nat.le_of_ble_eq_true rfl))), (by have t := t_sub hf_64_2 (In_lit (n := 1) (by decide) (by decide) : In 1 1 1) (by decide); have z : (1 : Int32).toInt = 1 := (by decide); omega)⟩) hRI) hP hD hS (lv_sub hl [2, 3, 4, 5, 1, 0] rfl)
set_option maxRecDepth 100000 in
set_option maxHeartbeats 8000000 in
theorem k_X9_spread (l : Launch) (D : va_G) (cI cJ cZ : ClassId) (q : Nat → Nat) (bb bs bp : Nat) (w : va_W) (hW_w : HT q (TX q cI cJ cZ bb bs bp) w) (p1 : Int32) (p2 : Int32) (p3 : Int32) (i_p1 : In (-2) 39 p1) (i_p2 : In 0 9 p2) (i_p3 : In 0 23 p3) (hf_64_0 : In 1 10 (fI w 64 0)) (hf_64_1 : In 1 40 (fI w 64 1)) (hf_64_2 : In 1 24 (fI w 64 2)) (hRI : RI w) (hFL : FL w) (hrw : rwP w p1) (hsl : p3.toInt < (fI w 64 2).toInt) : Con_v l yX9_spread cX9_spread 8 none ({ frames := 2, cells := 0, slots := 0, locals := 50 }) D cI cJ cZ eW [.ref (q 81), .int p1, .int p2, .int p3] w (fun (w1 : va_W) => HT q (TX q cI cJ cZ bb bs bp) w1 ∧ Sm [81, 83, 84, 85, 86, 87] [(81, 11), (81, 12), (81, 13)] w w1 ∧ ((RI w1 ∧ Mn w w1))) := by
  refine eQ_v rfl (by decide) (Nat.le_of_ble_eq_true rfl) ⟨rfl, rfl⟩ ?_
  intro p e R s m args below meth c A Q hx hb hml hown hts hK hE hA hR hret hP hD hS ls hl
  have hown : s.vm.findClass RX9 = some m.cls := hown
  have hl : lv_has ls 8 [(0, .ref (q 81)), (1, .int p1), (2, .int p2), (3, .int p3)] := hl
  have R_w : RI w ∧ Mn w w := ⟨hRI, Mn.rf⟩
  have J61 : ∀ (N : Nat) (x61_5 : Int64) (x61_7 : Int32) (w61 : va_W) (H : Heap) (locs : List Loc) (ls : Array Slot), (24 - x61_7.toInt).toNat < N → HT q (TX q cI cJ cZ bb bs bp) w61 → Sm [81, 83, 84, 85, 86, 87] [(81, 11), (81, 12), (81, 13)] w w61 → (In (-2) 39 p1) → (In 0 9 p2) → (In 0 23 p3) → (In 0 216 (p2 * 24)) → (In 1 24 x61_7) → (In 1 10 (fI w61 64 0)) → (In 1 40 (fI w61 64 1)) → (In 1 24 (fI w61 64 2)) → (RI w61 ∧ Mn w w61) → va_P D vwCl w61 H → va_D A w61 → va_S A s.heap H locs → lv_has ls 8 [(0, .ref (q 81)), (1, .int p1), (2, .int p2), (3, .int p3), (4, .int (p2 * 24)), (5, .long x61_5), (7, .int x61_7)] → W p l e R s m args below meth c H locs 0 0 Q (F0 m 61 ls []) := by
    intro N
    induction N with
    | zero => intro x61_5 x61_7 w61 H locs ls hmu; exact absurd hmu (Nat.not_lt_zero _)
    | succ N ih61 =>
      intro x61_5 x61_7 w61 H locs ls hmu61 hW_w61 hM_w61 i_x61_1 i_x61_2 i_x61_3 i_x61_4 i_x61_7 g61_64_0 g61_64_1 g61_64_2 hR_61 hP hD hS hl
      refine lv_iload hx hb dX9_spread_61 (lv_at hl 6 rfl) ?_
      refine lv_aload_n hx hb dX9_spread_63 rfl (lv_at hl 0 rfl) ?_
      refine gt_X9 hx hb hts hown hK hP 81 (hW_w61.o tX_81) 0 (by decide) wd_511 rfl (hW_w61.fr tX_81 rfl) dX9_spread_64 ?_
      refine gt_X3 hx hb hts hown hK hP 64 (hW_w61.o tX_64) 2 (by decide) wd_409 rfl (hW_w61.fi tX_64 rfl) dX9_spread_67 ?_
      refine tov (v := (fI w 64 2)) (hM_w61.gI (by decide)) ?_
      refine lv_icmp_ge (tgt := 119) hx hb dX9_spread_70 (by decide) (fun c_1 => ?_) (fun c_1 => ?_)
      · have lb_c_1 : ((fI w 64 2) : Int32).toInt ≤ (x61_7 : Int32).toInt := q_le.mp c_1
        exact hret _ _ _ _ _ hP hD hS dX9_spread_119 ⟨hW_w61, hM_w61, hR_61⟩
      · have lb_c_1 : ¬ ((fI w 64 2) : Int32).toInt ≤ (x61_7 : Int32).toInt := fun h => c_1 (q_le.mpr h)
        refine lv_aload_n hx hb dX9_spread_73 rfl (lv_at hl 0 rfl) ?_
        refine gt_X9 hx hb hts hown hK hP 81 (hW_w61.o tX_81) 0 (by decide) wd_511 rfl (hW_w61.fr tX_81 rfl) dX9_spread_74 ?_
        refine gt_X3 hx hb hts hown hK hP 64 (hW_w61.o tX_64) 11 (by decide) wd_435 rfl (hW_w61.fr tX_64 rfl) dX9_spread_77 ?_
        refine lv_iload hx hb dX9_spread_80 (lv_at hl 4 rfl) ?_
        refine lv_iload hx hb dX9_spread_82 (lv_at hl 6 rfl) ?_
        refine lv_iadd hx hb dX9_spread_84 ?_
        refine lv_iconst (v := 1) hx hb dX9_spread_85 (by decide) ?_
        refine lv_isub hx hb dX9_spread_86 ?_
        refine va_iald hx hb hK hP 73 0 (hW_w61.a tX_73) rfl (in_I ((In_sub ((In_add i_x61_4 (R_nle_r (In_of (hM_w61.gI (by decide)).symm g61_64_2) i_x61_7 c_1 (by decide) : In 1 23 x61_7) (by decide)) : In 1 239 ((p2 * 24) + x61_7)) (In_lit (n := 1) (by decide) (by decide) : In 1 1 1) (by decide)) : In 0 238 (((p2 * 24) + x61_7) - 1)) (by decide)) dX9_spread_87 ?_
        refine lv_topi (fun v_2 ev_2 => ?_)
        refine lv_if_le (tgt := 119) hx hb dX9_spread_88 (by decide) (fun c_3 => ?_) (fun c_3 => ?_)
        · exact hret _ _ _ _ _ hP hD hS dX9_spread_119 ⟨hW_w61, hM_w61, hR_61⟩
        · refine lv_aload_n hx hb dX9_spread_91 rfl (lv_at hl 0 rfl) ?_
          refine lv_iload hx hb dX9_spread_92 (lv_at hl 4 rfl) ?_
          refine lv_iload hx hb dX9_spread_94 (lv_at hl 6 rfl) ?_
          refine lv_iadd hx hb dX9_spread_96 ?_
          refine lv_lload hx hb dX9_spread_97 (lv_at hl 5 rfl) ?_
          refine kW_i ⟨rfl, rfl⟩ hP hD hS hA (rW_V (As := [.int ((p2 * 24) + x61_7), .long x61_5]) (rest := []) hx hb hml hown hts hK hE hP hD (k_X9_isFree l D cI cJ cZ q bb bs bp w61 hW_w61 ((p2 * 24) + x61_7) x61_5 (In_w ((In_add i_x61_4 (R_nle_r (In_of (hM_w61.gI (by decide)).symm g61_64_2) i_x61_7 c_1 (by decide) : In 1 23 x61_7) (by decide)) : In 1 239 ((p2 * 24) + x61_7)) (by decide) : In 0 239 ((p2 * 24) + x61_7)) (In_of (hM_w61.gI (by decide)) (In_of (hM_w61.gI (by decide)).symm g61_64_0)) (In_of (hM_w61.gI (by decide)) (In_of (hM_w61.gI (by decide)).symm g61_64_1)) (In_of (hM_w61.gI (by decide)) (In_w (R_nle_l (In_of (hM_w61.gI (by decide)).symm g61_64_2) i_x61_7 c_1 (by decide) : In 2 24 (fI w 64 2)) (by decide) : In 1 24 (fI w 64 2))) _) ⟨⟨rfl, rfl⟩, rfl, rfl⟩ sv_X9_149 ⟨(Nat.le_trans (by decide) hR.1), (Nat.le_trans (by decide) hR.2)⟩ 81 9 (hW_w61.o tX_81) rfl rfl rfl hl.1 rfl (Nat.le_of_ble_eq_true rfl) dX9_spread_99) (fun r_5 w_4 H locs hw_w_4 hP hD hS => ?_)
          obtain ⟨hW_w_4, hs_w_4, i_r_5, h_6⟩ := hw_w_4
          refine lv_if_eq (tgt := 119) hx hb dX9_spread_102 (by decide) (fun c_7 => ?_) (fun c_7 => ?_)
          · exact hret _ _ _ _ _ hP hD hS dX9_spread_119 ⟨hW_w_4, (hM_w61.tr hs_w_4 (by decide)), (⟨RI_cg ⟨(hs_w_4.hA (by decide)), (hs_w_4.hA (by decide)), (hs_w_4.hA (by decide)), (hs_w_4.hA (by decide)), (hs_w_4.hA (by decide)), (hs_w_4.hA (by decide)), (hs_w_4.gI (by decide)), (hs_w_4.gI (by decide)), (hs_w_4.gI (by decide)), (hs_w_4.gI (by decide)), (hs_w_4.gI (by decide)), (hs_w_4.gI (by decide)), (hs_w_4.gI (by decide))⟩ hR_61.1, Mn_cg ⟨(hs_w_4.hA (by decide)), (hs_w_4.hA (by decide)), (hs_w_4.hA (by decide)), (hs_w_4.hA (by decide)), (hs_w_4.hA (by decide)), (hs_w_4.hA (by decide)), (hs_w_4.gI (by decide)), (hs_w_4.gI (by decide)), (hs_w_4.gI (by decide)), (hs_w_4.gI (by decide)), (hs_w_4.gI (by decide)), (hs_w_4.gI (by decide)), (hs_w_4.gI (by decide))⟩ hR_61.2⟩ : RI w_4 ∧ Mn w w_4)⟩
          · refine lv_aload_n hx hb dX9_spread_105 rfl (lv_at hl 0 rfl) ?_
            refine lv_iload_n hx hb dX9_spread_106 rfl (lv_at hl 1 rfl) ?_
            refine lv_iload_n hx hb dX9_spread_107 rfl (lv_at hl 2 rfl) ?_
            refine lv_iload hx hb dX9_spread_108 (lv_at hl 6 rfl) ?_
            refine kW_v ⟨rfl, rfl⟩ hP hD hS hA (rW_V (As := [.int p1, .int p2, .int x61_7]) (rest := []) hx hb hml hown hts hK hE hP hD (k_X9_see l D cI cJ cZ q bb bs bp w_4 hW_w_4 p1 p2 x61_7 i_p1 i_p2 (In_w (R_nle_r (In_of (hM_w61.gI (by decide)).symm g61_64_2) i_x61_7 c_1 (by decide) : In 1 23 x61_7) (by decide) : In 0 23 x61_7) (In_of ((hs_w_4.gI (by decide)).trans (hM_w61.gI (by decide))) (In_of (hM_w61.gI (by decide)).symm g61_64_0)) (In_of ((hs_w_4.gI (by decide)).trans (hM_w61.gI (by decide))) (In_of (hM_w61.gI (by decide)).symm g61_64_1)) (In_of ((hs_w_4.gI (by decide)).trans (hM_w61.gI (by decide))) (In_w (R_nle_l (In_of (hM_w61.gI (by decide)).symm g61_64_2) i_x61_7 c_1 (by decide) : In 2 24 (fI w 64 2)) (by decide) : In 1 24 (fI w 64 2))) ((⟨RI_cg ⟨(hs_w_4.hA (by decide)), (hs_w_4.hA (by decide)), (hs_w_4.hA (by decide)), (hs_w_4.hA (by decide)), (hs_w_4.hA (by decide)), (hs_w_4.hA (by decide)), (hs_w_4.gI (by decide)), (hs_w_4.gI (by decide)), (hs_w_4.gI (by decide)), (hs_w_4.gI (by decide)), (hs_w_4.gI (by decide)), (hs_w_4.gI (by decide)), (hs_w_4.gI (by decide))⟩ hR_61.1, Mn_cg ⟨(hs_w_4.hA (by decide)), (hs_w_4.hA (by decide)), (hs_w_4.hA (by decide)), (hs_w_4.hA (by decide)), (hs_w_4.hA (by decide)), (hs_w_4.hA (by decide)), (hs_w_4.gI (by decide)), (hs_w_4.gI (by decide)), (hs_w_4.gI (by decide)), (hs_w_4.gI (by decide)), (hs_w_4.gI (by decide)), (hs_w_4.gI (by decide)), (hs_w_4.gI (by decide))⟩ hR_61.2⟩ : RI w_4 ∧ Mn w w_4).1) (FL_cg ((hs_w_4.gI (by decide)).trans (hM_w61.gI (by decide))) ((hs_w_4.gI (by decide)).trans (hM_w61.gI (by decide))) ((hs_w_4.hA (by decide)).trans (hM_w61.hA (by decide))) ((hs_w_4.hA (by decide)).trans (hM_w61.hA (by decide))) ((hs_w_4.hA (by decide)).trans (hM_w61.hA (by decide))) hFL) (rw_up (⟨RI_cg ⟨(hs_w_4.hA (by decide)), (hs_w_4.hA (by decide)), (hs_w_4.hA (by decide)), (hs_w_4.hA (by decide)), (hs_w_4.hA (by decide)), (hs_w_4.hA (by decide)), (hs_w_4.gI (by decide)), (hs_w_4.gI (by decide)), (hs_w_4.gI (by decide)), (hs_w_4.gI (by decide)), (hs_w_4.gI (by decide)), (hs_w_4.gI (by decide)), (hs_w_4.gI (by decide))⟩ hR_61.1, Mn_cg ⟨(hs_w_4.hA (by decide)), (hs_w_4.hA (by decide)), (hs_w_4.hA (by decide)), (hs_w_4.hA (by decide)), (hs_w_4.hA (by decide)), (hs_w_4.hA (by decide)), (hs_w_4.gI (by decide)), (hs_w_4.gI (by decide)), (hs_w_4.gI (by decide)), (hs_w_4.gI (by decide)), (hs_w_4.gI (by decide)), (hs_w_4.gI (by decide)), (hs_w_4.gI (by decide))⟩ hR_61.2⟩ : RI w_4 ∧ Mn w w_4).2 ((hs_w_4.gI (by decide)).trans (hM_w61.2 81 2 (by decide) (by decide))) hrw) ((fun q => (h_6 c_7) ((congrFun (hs_w_4.hA (by decide)) _).symm.trans (q.trans (hs_w_4.gI (by decide)))))) ((by have e : (fI w_4 64 2).toInt = (fI w 64 2).toInt := congrArg Int32.toInt ((hs_w_4.gI (by decide)).trans (hM_w61.gI (by decide))); omega)) _) ⟨⟨rfl, rfl⟩, rfl, rfl⟩ sv_X9_153 ⟨(Nat.le_trans (by decide) hR.1), (Nat.le_trans (by decide) hR.2)⟩ 81 9 (hW_w_4.o tX_81) rfl rfl rfl hl.1 rfl (Nat.le_of_ble_eq_true rfl) dX9_spread_110) (fun w_8 H locs hw_w_8 hP hD hS => ?_)
            obtain ⟨hW_w_8, hs_w_8, h_10⟩ := hw_w_8
            have R_w_8 : RI w_8 ∧ Mn w w_8 := ⟨h_10.1, (⟨RI_cg ⟨(hs_w_4.hA (by decide)), (hs_w_4.hA (by decide)), (hs_w_4.hA (by decide)), (hs_w_4.hA (by decide)), (hs_w_4.hA (by decide)), (hs_w_4.hA (by decide)), (hs_w_4.gI (by decide)), (hs_w_4.gI (by decide)), (hs_w_4.gI (by decide)), (hs_w_4.gI (by decide)), (hs_w_4.gI (by decide)), (hs_w_4.gI (by decide)), (hs_w_4.gI (by decide))⟩ hR_61.1, Mn_cg ⟨(hs_w_4.hA (by decide)), (hs_w_4.hA (by decide)), (hs_w_4.hA (by decide)), (hs_w_4.hA (by decide)), (hs_w_4.hA (by decide)), (hs_w_4.hA (by decide)), (hs_w_4.gI (by decide)), (hs_w_4.gI (by decide)), (hs_w_4.gI (by decide)), (hs_w_4.gI (by decide)), (hs_w_4.gI (by decide)), (hs_w_4.gI (by decide)), (hs_w_4.gI (by decide))⟩ hR_61.2⟩ : RI w_4 ∧ Mn w w_4).2.tr h_10.2⟩
            refine lv_iinc (v := (x61_7 + 1)) (lv' := [(7, .int (x61_7 + 1)), (0, .ref (q 81)), (1, .int p1), (2, .int p2), (3, .int p3), (4, .int (p2 * 24)), (5, .long x61_5)]) hx hb dX9_spread_113 hl (k := 6) rfl (rfl) (by decide) rfl (fun ls hl => ?_)
            refine lv_goto (tgt := 61) hx hb dX9_spread_116 (by decide) ?_
            exact ih61 x61_5 (x61_7 + 1) w_8 _ _ ls (mu_inc hmu61 (R_nle_r (In_of (hM_w61.gI (by decide)).symm g61_64_2) i_x61_7 c_1 (by decide) : In 1 23 x61_7) (In_lit (n := 1) (by decide) (by decide) : In 1 1 1) (by decide)) hW_w_8 ((hM_w61.tr hs_w_4 (by decide)).tr hs_w_8 (by decide)) i_p1 i_p2 i_p3 i_x61_4 (In_w ((In_add (y := 1) (R_nle_r (In_of (hM_w61.gI (by decide)).symm g61_64_2) i_x61_7 c_1 (by decide) : In 1 23 x61_7) (In_lit (n := 1) (by decide) (by decide) : In 1 1 1) (by decide)) : In 2 24 (x61_7 + 1)) (by decide) : In 1 24 (x61_7 + 1)) (In_of ((hs_w_8.gI (by decide)).trans ((hs_w_4.gI (by decide)).trans (hM_w61.gI (by decide)))) (In_of (hM_w61.gI (by decide)).symm g61_64_0)) (In_of ((hs_w_8.gI (by decide)).trans ((hs_w_4.gI (by decide)).trans (hM_w61.gI (by decide)))) (In_of (hM_w61.gI (by decide)).symm g61_64_1)) (In_of ((hs_w_8.gI (by decide)).trans ((hs_w_4.gI (by decide)).trans (hM_w61.gI (by decide)))) (In_w (R_nle_l (In_of (hM_w61.gI (by decide)).symm g61_64_2) i_x61_7 c_1 (by decide) : In 2 24 (fI w 64 2)) (by decide) : In 1 24 (fI w 64 2))) R_w_8 hP hD hS (lv_sub hl [1, 2, 3, 4, 5, 6, 0] rfl)
  have J56 : ∀ (x56_5 : Int64) (x56_7 : Int32) (w56 : va_W) (H : Heap) (locs : List Loc) (ls : Array Slot), HT q (TX q cI cJ cZ bb bs bp) w56 → Sm [81, 83, 84, 85, 86, 87] [(81, 11), (81, 12), (81, 13)] w w56 → (In (-2) 39 p1) → (In 0 9 p2) → (In 0 23 p3) → (In 0 216 (p2 * 24)) → (In (-1) 23 x56_7) → (In 1 10 (fI w56 64 0)) → (In 1 40 (fI w56 64 1)) → (In 1 24 (fI w56 64 2)) → (RI w56 ∧ Mn w w56) → va_P D vwCl w56 H → va_D A w56 → va_S A s.heap H locs → lv_has ls 8 [(0, .ref (q 81)), (1, .int p1), (2, .int p2), (3, .int p3), (4, .int (p2 * 24)), (5, .long x56_5), (7, .int x56_7)] → W p l e R s m args below meth c H locs 0 0 Q (F0 m 56 ls []) := by
    intro x56_5 x56_7 w56 H locs ls hW_w56 hM_w56 i_x56_1 i_x56_2 i_x56_3 i_x56_4 i_x56_7 g56_64_0 g56_64_1 g56_64_2 hR_56 hP hD hS hl
    refine lv_iload_n hx hb dX9_spread_56 rfl (lv_at hl 3 rfl) ?_
    refine lv_iconst (v := 1) hx hb dX9_spread_57 (by decide) ?_
    refine lv_iadd hx hb dX9_spread_58 ?_
    refine lv_istore (lv' := [(7, .int (p3 + 1)), (0, .ref (q 81)), (1, .int p1), (2, .int p2), (3, .int p3), (4, .int (p2 * 24)), (5, .long x56_5)]) hx hb dX9_spread_59 hl (by decide) rfl (fun ls hl => ?_)
    exact J61 _ x56_5 (p3 + 1) w56 _ _ ls (Nat.lt_succ_self _) hW_w56 hM_w56 i_p1 i_p2 i_p3 i_x56_4 ((In_add i_p3 (In_lit (n := 1) (by decide) (by decide) : In 1 1 1) (by decide)) : In 1 24 (p3 + 1)) (In_of (hM_w56.gI (by decide)) (In_of (hM_w56.gI (by decide)).symm g56_64_0)) (In_of (hM_w56.gI (by decide)) (In_of (hM_w56.gI (by decide)).symm g56_64_1)) (In_of (hM_w56.gI (by decide)) (In_of (hM_w56.gI (by decide)).symm g56_64_2)) hR_56 hP hD hS (lv_sub hl [1, 2, 3, 4, 5, 6, 0] rfl)
  have J23 : ∀ (N : Nat) (x23_5 : Int64) (x23_7 : Int32) (w23 : va_W) (H : Heap) (locs : List Loc) (ls : Array Slot), (x23_7.toInt - (-1)).toNat < N → HT q (TX q cI cJ cZ bb bs bp) w23 → Sm [81, 83, 84, 85, 86, 87] [(81, 11), (81, 12), (81, 13)] w w23 → (In (-2) 39 p1) → (In 0 9 p2) → (In 0 23 p3) → (In 0 216 (p2 * 24)) → (In (-1) 23 x23_7) → (In 1 10 (fI w23 64 0)) → (In 1 40 (fI w23 64 1)) → (In 1 24 (fI w23 64 2)) → (RI w23 ∧ Mn w w23) → ((x23_7 : Int32).toInt ≤ p3.toInt) → va_P D vwCl w23 H → va_D A w23 → va_S A s.heap H locs → lv_has ls 8 [(0, .ref (q 81)), (1, .int p1), (2, .int p2), (3, .int p3), (4, .int (p2 * 24)), (5, .long x23_5), (7, .int x23_7)] → W p l e R s m args below meth c H locs 0 0 Q (F0 m 23 ls []) := by
    intro N
    induction N with
    | zero => intro x23_5 x23_7 w23 H locs ls hmu; exact absurd hmu (Nat.not_lt_zero _)
    | succ N ih23 =>
      intro x23_5 x23_7 w23 H locs ls hmu23 hW_w23 hM_w23 i_x23_1 i_x23_2 i_x23_3 i_x23_4 i_x23_7 g23_64_0 g23_64_1 g23_64_2 hR_23 hv_23 hP hD hS hl
      refine lv_iload hx hb dX9_spread_23 (lv_at hl 6 rfl) ?_
      refine lv_if_lt (tgt := 56) hx hb dX9_spread_25 (by decide) (fun c_11 => ?_) (fun c_11 => ?_)
      · exact J56 x23_5 x23_7 w23 _ _ ls hW_w23 hM_w23 i_p1 i_p2 i_p3 i_x23_4 (In_w (R_lt_l i_x23_7 (In_lit (n := 0) (by decide) (by decide) : In 0 0 0) c_11 (by decide) : In (-1) (-1) x23_7) (by decide) : In (-1) 23 x23_7) (In_of (hM_w23.gI (by decide)) (In_of (hM_w23.gI (by decide)).symm g23_64_0)) (In_of (hM_w23.gI (by decide)) (In_of (hM_w23.gI (by decide)).symm g23_64_1)) (In_of (hM_w23.gI (by decide)) (In_of (hM_w23.gI (by decide)).symm g23_64_2)) hR_23 hP hD hS (lv_sub hl [0, 1, 2, 3, 4, 5, 6] rfl)
      · refine lv_aload_n hx hb dX9_spread_28 rfl (lv_at hl 0 rfl) ?_
        refine lv_iload hx hb dX9_spread_29 (lv_at hl 4 rfl) ?_
        refine lv_iload hx hb dX9_spread_31 (lv_at hl 6 rfl) ?_
        refine lv_iadd hx hb dX9_spread_33 ?_
        refine lv_lload hx hb dX9_spread_34 (lv_at hl 5 rfl) ?_
        refine kW_i ⟨rfl, rfl⟩ hP hD hS hA (rW_V (As := [.int ((p2 * 24) + x23_7), .long x23_5]) (rest := []) hx hb hml hown hts hK hE hP hD (k_X9_isFree l D cI cJ cZ q bb bs bp w23 hW_w23 ((p2 * 24) + x23_7) x23_5 ((In_add i_x23_4 (R_nlt_l i_x23_7 (In_lit (n := 0) (by decide) (by decide) : In 0 0 0) c_11 (by decide) : In 0 23 x23_7) (by decide)) : In 0 239 ((p2 * 24) + x23_7)) (In_of (hM_w23.gI (by decide)) (In_of (hM_w23.gI (by decide)).symm g23_64_0)) (In_of (hM_w23.gI (by decide)) (In_of (hM_w23.gI (by decide)).symm g23_64_1)) (In_of (hM_w23.gI (by decide)) (In_of (hM_w23.gI (by decide)).symm g23_64_2)) _) ⟨⟨rfl, rfl⟩, rfl, rfl⟩ sv_X9_149 ⟨(Nat.le_trans (by decide) hR.1), (Nat.le_trans (by decide) hR.2)⟩ 81 9 (hW_w23.o tX_81) rfl rfl rfl hl.1 rfl (Nat.le_of_ble_eq_true rfl) dX9_spread_36) (fun r_13 w_12 H locs hw_w_12 hP hD hS => ?_)
        obtain ⟨hW_w_12, hs_w_12, i_r_13, h_14⟩ := hw_w_12
        refine lv_if_eq (tgt := 56) hx hb dX9_spread_39 (by decide) (fun c_15 => ?_) (fun c_15 => ?_)
        · exact J56 x23_5 x23_7 w_12 _ _ ls hW_w_12 (hM_w23.tr hs_w_12 (by decide)) i_p1 i_p2 i_p3 i_x23_4 (In_w (R_nlt_l i_x23_7 (In_lit (n := 0) (by decide) (by decide) : In 0 0 0) c_11 (by decide) : In 0 23 x23_7) (by decide) : In (-1) 23 x23_7) (In_of ((hs_w_12.gI (by decide)).trans (hM_w23.gI (by decide))) (In_of (hM_w23.gI (by decide)).symm g23_64_0)) (In_of ((hs_w_12.gI (by decide)).trans (hM_w23.gI (by decide))) (In_of (hM_w23.gI (by decide)).symm g23_64_1)) (In_of ((hs_w_12.gI (by decide)).trans (hM_w23.gI (by decide))) (In_of (hM_w23.gI (by decide)).symm g23_64_2)) (⟨RI_cg ⟨(hs_w_12.hA (by decide)), (hs_w_12.hA (by decide)), (hs_w_12.hA (by decide)), (hs_w_12.hA (by decide)), (hs_w_12.hA (by decide)), (hs_w_12.hA (by decide)), (hs_w_12.gI (by decide)), (hs_w_12.gI (by decide)), (hs_w_12.gI (by decide)), (hs_w_12.gI (by decide)), (hs_w_12.gI (by decide)), (hs_w_12.gI (by decide)), (hs_w_12.gI (by decide))⟩ hR_23.1, Mn_cg ⟨(hs_w_12.hA (by decide)), (hs_w_12.hA (by decide)), (hs_w_12.hA (by decide)), (hs_w_12.hA (by decide)), (hs_w_12.hA (by decide)), (hs_w_12.hA (by decide)), (hs_w_12.gI (by decide)), (hs_w_12.gI (by decide)), (hs_w_12.gI (by decide)), (hs_w_12.gI (by decide)), (hs_w_12.gI (by decide)), (hs_w_12.gI (by decide)), (hs_w_12.gI (by decide))⟩ hR_23.2⟩ : RI w_12 ∧ Mn w w_12) hP hD hS (lv_sub hl [0, 1, 2, 3, 4, 5, 6] rfl)
        · refine lv_aload_n hx hb dX9_spread_42 rfl (lv_at hl 0 rfl) ?_
          refine lv_iload_n hx hb dX9_spread_43 rfl (lv_at hl 1 rfl) ?_
          refine lv_iload_n hx hb dX9_spread_44 rfl (lv_at hl 2 rfl) ?_
          refine lv_iload hx hb dX9_spread_45 (lv_at hl 6 rfl) ?_
          refine kW_v ⟨rfl, rfl⟩ hP hD hS hA (rW_V (As := [.int p1, .int p2, .int x23_7]) (rest := []) hx hb hml hown hts hK hE hP hD (k_X9_see l D cI cJ cZ q bb bs bp w_12 hW_w_12 p1 p2 x23_7 i_p1 i_p2 (R_nlt_l i_x23_7 (In_lit (n := 0) (by decide) (by decide) : In 0 0 0) c_11 (by decide) : In 0 23 x23_7) (In_of ((hs_w_12.gI (by decide)).trans (hM_w23.gI (by decide))) (In_of (hM_w23.gI (by decide)).symm g23_64_0)) (In_of ((hs_w_12.gI (by decide)).trans (hM_w23.gI (by decide))) (In_of (hM_w23.gI (by decide)).symm g23_64_1)) (In_of ((hs_w_12.gI (by decide)).trans (hM_w23.gI (by decide))) (In_of (hM_w23.gI (by decide)).symm g23_64_2)) ((⟨RI_cg ⟨(hs_w_12.hA (by decide)), (hs_w_12.hA (by decide)), (hs_w_12.hA (by decide)), (hs_w_12.hA (by decide)), (hs_w_12.hA (by decide)), (hs_w_12.hA (by decide)), (hs_w_12.gI (by decide)), (hs_w_12.gI (by decide)), (hs_w_12.gI (by decide)), (hs_w_12.gI (by decide)), (hs_w_12.gI (by decide)), (hs_w_12.gI (by decide)), (hs_w_12.gI (by decide))⟩ hR_23.1, Mn_cg ⟨(hs_w_12.hA (by decide)), (hs_w_12.hA (by decide)), (hs_w_12.hA (by decide)), (hs_w_12.hA (by decide)), (hs_w_12.hA (by decide)), (hs_w_12.hA (by decide)), (hs_w_12.gI (by decide)), (hs_w_12.gI (by decide)), (hs_w_12.gI (by decide)), (hs_w_12.gI (by decide)), (hs_w_12.gI (by decide)), (hs_w_12.gI (by decide)), (hs_w_12.gI (by decide))⟩ hR_23.2⟩ : RI w_12 ∧ Mn w w_12).1) (FL_cg ((hs_w_12.gI (by decide)).trans (hM_w23.gI (by decide))) ((hs_w_12.gI (by decide)).trans (hM_w23.gI (by decide))) ((hs_w_12.hA (by decide)).trans (hM_w23.hA (by decide))) ((hs_w_12.hA (by decide)).trans (hM_w23.hA (by decide))) ((hs_w_12.hA (by decide)).trans (hM_w23.hA (by decide))) hFL) (rw_up (⟨RI_cg ⟨(hs_w_12.hA (by decide)), (hs_w_12.hA (by decide)), (hs_w_12.hA (by decide)), (hs_w_12.hA (by decide)), (hs_w_12.hA (by decide)), (hs_w_12.hA (by decide)), (hs_w_12.gI (by decide)), (hs_w_12.gI (by decide)), (hs_w_12.gI (by decide)), (hs_w_12.gI (by decide)), (hs_w_12.gI (by decide)), (hs_w_12.gI (by decide)), (hs_w_12.gI (by decide))⟩ hR_23.1, Mn_cg ⟨(hs_w_12.hA (by decide)), (hs_w_12.hA (by decide)), (hs_w_12.hA (by decide)), (hs_w_12.hA (by decide)), (hs_w_12.hA (by decide)), (hs_w_12.hA (by decide)), (hs_w_12.gI (by decide)), (hs_w_12.gI (by decide)), (hs_w_12.gI (by decide)), (hs_w_12.gI (by decide)), (hs_w_12.gI (by decide)), (hs_w_12.gI (by decide)), (hs_w_12.gI (by decide))⟩ hR_23.2⟩ : RI w_12 ∧ Mn w w_12).2 ((hs_w_12.gI (by decide)).trans (hM_w23.2 81 2 (by decide) (by decide))) hrw) ((fun q => (h_14 c_15) ((congrFun (hs_w_12.hA (by decide)) _).symm.trans (q.trans (hs_w_12.gI (by decide)))))) ((by have e : (fI w_12 64 2).toInt = (fI w 64 2).toInt := congrArg Int32.toInt ((hs_w_12.gI (by decide)).trans (hM_w23.gI (by decide))); omega)) _) ⟨⟨rfl, rfl⟩, rfl, rfl⟩ sv_X9_153 ⟨(Nat.le_trans (by decide) hR.1), (Nat.le_trans (by decide) hR.2)⟩ 81 9 (hW_w_12.o tX_81) rfl rfl rfl hl.1 rfl (Nat.le_of_ble_eq_true rfl) dX9_spread_47) (fun w_16 H locs hw_w_16 hP hD hS => ?_)
          obtain ⟨hW_w_16, hs_w_16, h_18⟩ := hw_w_16
          have R_w_16 : RI w_16 ∧ Mn w w_16 := ⟨h_18.1, (⟨RI_cg ⟨(hs_w_12.hA (by decide)), (hs_w_12.hA (by decide)), (hs_w_12.hA (by decide)), (hs_w_12.hA (by decide)), (hs_w_12.hA (by decide)), (hs_w_12.hA (by decide)), (hs_w_12.gI (by decide)), (hs_w_12.gI (by decide)), (hs_w_12.gI (by decide)), (hs_w_12.gI (by decide)), (hs_w_12.gI (by decide)), (hs_w_12.gI (by decide)), (hs_w_12.gI (by decide))⟩ hR_23.1, Mn_cg ⟨(hs_w_12.hA (by decide)), (hs_w_12.hA (by decide)), (hs_w_12.hA (by decide)), (hs_w_12.hA (by decide)), (hs_w_12.hA (by decide)), (hs_w_12.hA (by decide)), (hs_w_12.gI (by decide)), (hs_w_12.gI (by decide)), (hs_w_12.gI (by decide)), (hs_w_12.gI (by decide)), (hs_w_12.gI (by decide)), (hs_w_12.gI (by decide)), (hs_w_12.gI (by decide))⟩ hR_23.2⟩ : RI w_12 ∧ Mn w w_12).2.tr h_18.2⟩
          refine lv_iinc (v := (x23_7 + (-1))) (lv' := [(7, .int (x23_7 + (-1))), (0, .ref (q 81)), (1, .int p1), (2, .int p2), (3, .int p3), (4, .int (p2 * 24)), (5, .long x23_5)]) hx hb dX9_spread_50 hl (k := 6) rfl (rfl) (by decide) rfl (fun ls hl => ?_)
          refine lv_goto (tgt := 23) hx hb dX9_spread_53 (by decide) ?_
          exact ih23 x23_5 (x23_7 + (-1)) w_16 _ _ ls (mu_dec (n := 1) hmu23 (R_nlt_l i_x23_7 (In_lit (n := 0) (by decide) (by decide) : In 0 0 0) c_11 (by decide) : In 0 23 x23_7) (by decide) (by decide)) hW_w_16 ((hM_w23.tr hs_w_12 (by decide)).tr hs_w_16 (by decide)) i_p1 i_p2 i_p3 i_x23_4 (In_w ((In_dec (y := (-1)) (n := 1) (R_nlt_l i_x23_7 (In_lit (n := 0) (by decide) (by decide) : In 0 0 0) c_11 (by decide) : In 0 23 x23_7) (by decide) (by decide)) : In (-1) 22 (x23_7 + (-1))) (by decide) : In (-1) 23 (x23_7 + (-1))) (In_of ((hs_w_16.gI (by decide)).trans ((hs_w_12.gI (by decide)).trans (hM_w23.gI (by decide)))) (In_of (hM_w23.gI (by decide)).symm g23_64_0)) (In_of ((hs_w_16.gI (by decide)).trans ((hs_w_12.gI (by decide)).trans (hM_w23.gI (by decide)))) (In_of (hM_w23.gI (by decide)).symm g23_64_1)) (In_of ((hs_w_16.gI (by decide)).trans ((hs_w_12.gI (by decide)).trans (hM_w23.gI (by decide)))) (In_of (hM_w23.gI (by decide)).symm g23_64_2)) R_w_16 (le_dec (n := 1) (R_nlt_l i_x23_7 (In_lit (n := 0) (by decide) (by decide) : In 0 0 0) c_11 (by decide) : In 0 23 x23_7) (by decide) (by decide) hv_23) hP hD hS (lv_sub hl [1, 2, 3, 4, 5, 6, 0] rfl)
  refine lv_iload_n hx hb dX9_spread_0 rfl (lv_at hl 2 rfl) ?_
  refine lv_bipush (v := 24) hx hb dX9_spread_1 (by decide) ?_
  refine lv_imul hx hb dX9_spread_3 ?_
  refine lv_istore (lv' := [(4, .int (p2 * 24)), (0, .ref (q 81)), (1, .int p1), (2, .int p2), (3, .int p3)]) hx hb dX9_spread_4 hl (by decide) rfl (fun ls hl => ?_)
  refine lv_aload_n hx hb dX9_spread_6 rfl (lv_at hl 1 rfl) ?_
  refine gt_X9 hx hb hts hown hK hP 81 (hW_w.o tX_81) 1 (by decide) wd_512 rfl (hW_w.fr tX_81 rfl) dX9_spread_7 ?_
  refine gt_X2 hx hb hts hown hK hP 74 (hW_w.o tX_74) 3 (by decide) wd_472 rfl (hW_w.fr tX_74 rfl) dX9_spread_10 ?_
  refine lv_iload hx hb dX9_spread_13 (lv_at hl 0 rfl) ?_
  refine lv_iload_n hx hb dX9_spread_15 rfl (lv_at hl 4 rfl) ?_
  refine lv_iadd hx hb dX9_spread_16 ?_
  refine va_lald hx hb hK hP 77 1 (hW_w.al tX_77) rfl (in_I ((In_add ((In_mulr i_p2 (n := 24) (by decide) (by decide)) : In 0 216 (p2 * 24)) i_p3 (by decide)) : In 0 239 ((p2 * 24) + p3)) (by decide)) dX9_spread_17 ?_
  refine lv_topl (fun v_19 ev_19 => ?_)
  refine lv_lstore (lv' := [(5, .long v_19), (4, .int (p2 * 24)), (0, .ref (q 81)), (1, .int p1), (2, .int p2), (3, .int p3)]) hx hb dX9_spread_18 hl (by decide) rfl (fun ls hl => ?_)
  refine lv_iload_n hx hb dX9_spread_20 rfl (lv_at hl 5 rfl) ?_
  refine lv_istore (lv' := [(7, .int p3), (5, .long v_19), (4, .int (p2 * 24)), (0, .ref (q 81)), (1, .int p1), (2, .int p2), (3, .int p3)]) hx hb dX9_spread_21 hl (by decide) rfl (fun ls hl => ?_)
  exact J23 _ v_19 p3 w _ _ ls (Nat.lt_succ_self _) hW_w Sm.rf i_p1 i_p2 i_p3 ((In_mulr i_p2 (n := 24) (by decide) (by decide)) : In 0 216 (p2 * 24)) (In_w i_p3 (by decide) : In (-1) 23 p3) hf_64_0 hf_64_1 hf_64_2 R_w (Int.le_refl _) hP hD hS (lv_sub hl [3, 4, 5, 6, 2, 1, 0] rfl)
set_option maxRecDepth 100000 in
set_option maxHeartbeats 8000000 in
theorem k_X9_spreadDue (l : Launch) (D : va_G) (cI cJ cZ : ClassId) (q : Nat → Nat) (bb bs bp : Nat) (w : va_W) (hW_w : HT q (TX q cI cJ cZ bb bs bp) w) (hf_64_0 : In 1 10 (fI w 64 0)) (hf_64_1 : In 1 40 (fI w 64 1)) (hf_64_2 : In 1 24 (fI w 64 2)) (hf_81_12 : In 0 39 (fI w 81 12)) (hRI : RI w) : Con_v l yX9_spreadDue cX9_spreadDue 2 none ({ frames := 1, cells := 0, slots := 0, locals := 22 }) D cI cJ cZ eW [.ref (q 81)] w (fun (w1 : va_W) => HT q (TX q cI cJ cZ bb bs bp) w1 ∧ Sm [81, 83, 84, 87] [(81, 11), (81, 12)] w w1 ∧ ((RI w1 ∧ Mn w w1))) := by
  refine eQ_v rfl (by decide) (Nat.le_of_ble_eq_true rfl) ⟨rfl, rfl⟩ ?_
  intro p e R s m args below meth c A Q hx hb hml hown hts hK hE hA hR hret hP hD hS ls hl
  have hown : s.vm.findClass RX9 = some m.cls := hown
  have hl : lv_has ls 2 [(0, .ref (q 81))] := hl
  have R_w : RI w ∧ Mn w w := ⟨hRI, Mn.rf⟩
  have J2 : ∀ (N : Nat) (x2_1 : Int32) (w2 : va_W) (H : Heap) (locs : List Loc) (ls : Array Slot), (40 - x2_1.toInt).toNat < N → HT q (TX q cI cJ cZ bb bs bp) w2 → Sm [81, 83, 84, 87] [(81, 11), (81, 12)] w w2 → (In 0 40 x2_1) → (In 1 10 (fI w2 64 0)) → (In 1 40 (fI w2 64 1)) → (In 1 24 (fI w2 64 2)) → (RI w2 ∧ Mn w w2) → va_P D vwCl w2 H → va_D A w2 → va_S A s.heap H locs → lv_has ls 2 [(0, .ref (q 81)), (1, .int x2_1)] → W p l e R s m args below meth c H locs 0 0 Q (F0 m 2 ls []) := by
    intro N
    induction N with
    | zero => intro x2_1 w2 H locs ls hmu; exact absurd hmu (Nat.not_lt_zero _)
    | succ N ih2 =>
      intro x2_1 w2 H locs ls hmu2 hW_w2 hM_w2 i_x2_1 g2_64_0 g2_64_1 g2_64_2 hR_2 hP hD hS hl
      have J74 : ∀ (w74 : va_W) (H : Heap) (locs : List Loc) (ls : Array Slot), HT q (TX q cI cJ cZ bb bs bp) w74 → Sm [81, 83, 84, 87] [(81, 11), (81, 12)] w w74 → (In 0 39 x2_1) → (In 1 10 (fI w74 64 0)) → (In 1 40 (fI w74 64 1)) → (In 1 24 (fI w74 64 2)) → (RI w74 ∧ Mn w w74) → va_P D vwCl w74 H → va_D A w74 → va_S A s.heap H locs → lv_has ls 2 [(0, .ref (q 81)), (1, .int x2_1)] → W p l e R s m args below meth c H locs 0 0 Q (F0 m 74 ls []) := by
        intro w74 H locs ls hW_w74 hM_w74 i_x74_1 g74_64_0 g74_64_1 g74_64_2 hR_74 hP hD hS hl
        refine lv_iinc (v := (x2_1 + 1)) (lv' := [(1, .int (x2_1 + 1)), (0, .ref (q 81))]) hx hb dX9_spreadDue_74 hl (k := 1) rfl (rfl) (by decide) rfl (fun ls hl => ?_)
        refine lv_goto (tgt := 2) hx hb dX9_spreadDue_77 (by decide) ?_
        exact ih2 (x2_1 + 1) w74 _ _ ls (mu_inc hmu2 i_x74_1 (In_lit (n := 1) (by decide) (by decide) : In 1 1 1) (by decide)) hW_w74 hM_w74 (In_w ((In_add (y := 1) i_x74_1 (In_lit (n := 1) (by decide) (by decide) : In 1 1 1) (by decide)) : In 1 40 (x2_1 + 1)) (by decide) : In 0 40 (x2_1 + 1)) (In_of (hM_w74.gI (by decide)) (In_of (hM_w74.gI (by decide)).symm g74_64_0)) (In_of (hM_w74.gI (by decide)) (In_of (hM_w74.gI (by decide)).symm g74_64_1)) (In_of (hM_w74.gI (by decide)) (In_of (hM_w74.gI (by decide)).symm g74_64_2)) hR_74 hP hD hS (lv_sub hl [1, 0] rfl)
      refine lv_iload_n hx hb dX9_spreadDue_2 rfl (lv_at hl 1 rfl) ?_
      refine lv_aload_n hx hb dX9_spreadDue_3 rfl (lv_at hl 0 rfl) ?_
      refine gt_X9 hx hb hts hown hK hP 81 (hW_w2.o tX_81) 0 (by decide) wd_511 rfl (hW_w2.fr tX_81 rfl) dX9_spreadDue_4 ?_
      refine gt_X3 hx hb hts hown hK hP 64 (hW_w2.o tX_64) 1 (by decide) wd_403 rfl (hW_w2.fi tX_64 rfl) dX9_spreadDue_7 ?_
      refine tov (v := (fI w 64 1)) (hM_w2.gI (by decide)) ?_
      refine lv_icmp_ge (tgt := 80) hx hb dX9_spreadDue_10 (by decide) (fun c_1 => ?_) (fun c_1 => ?_)
      · have lb_c_1 : ((fI w 64 1) : Int32).toInt ≤ (x2_1 : Int32).toInt := q_le.mp c_1
        exact hret _ _ _ _ _ hP hD hS dX9_spreadDue_80 ⟨hW_w2, hM_w2, hR_2⟩
      · have lb_c_1 : ¬ ((fI w 64 1) : Int32).toInt ≤ (x2_1 : Int32).toInt := fun h => c_1 (q_le.mpr h)
        refine lv_aload_n hx hb dX9_spreadDue_13 rfl (lv_at hl 0 rfl) ?_
        refine gt_X9 hx hb hts hown hK hP 81 (hW_w2.o tX_81) 0 (by decide) wd_511 rfl (hW_w2.fr tX_81 rfl) dX9_spreadDue_14 ?_
        refine gt_X3 hx hb hts hown hK hP 64 (hW_w2.o tX_64) 9 (by decide) wd_430 rfl (hW_w2.fr tX_64 rfl) dX9_spreadDue_17 ?_
        refine lv_iload_n hx hb dX9_spreadDue_20 rfl (lv_at hl 1 rfl) ?_
        refine va_iald hx hb hK hP 71 0 (hW_w2.a tX_71) rfl (in_I (R_nle_r (In_of (hM_w2.gI (by decide)).symm g2_64_1) i_x2_1 c_1 (by decide) : In 0 39 x2_1) (by decide)) dX9_spreadDue_21 ?_
        refine lv_topi (fun v_2 ev_2 => ?_)
        refine lv_aload_n hx hb dX9_spreadDue_22 rfl (lv_at hl 0 rfl) ?_
        refine gt_X9 hx hb hts hown hK hP 81 (hW_w2.o tX_81) 0 (by decide) wd_511 rfl (hW_w2.fr tX_81 rfl) dX9_spreadDue_23 ?_
        refine gt_X3 hx hb hts hown hK hP 64 (hW_w2.o tX_64) 6 (by decide) wd_421 rfl (hW_w2.fr tX_64 rfl) dX9_spreadDue_26 ?_
        refine lv_iload_n hx hb dX9_spreadDue_29 rfl (lv_at hl 1 rfl) ?_
        refine va_iald hx hb hK hP 68 0 (hW_w2.a tX_68) rfl (in_I (R_nle_r (In_of (hM_w2.gI (by decide)).symm g2_64_1) i_x2_1 c_1 (by decide) : In 0 39 x2_1) (by decide)) dX9_spreadDue_30 ?_
        refine lv_topi (fun v_3 ev_3 => ?_)
        refine lv_icmp_ge (tgt := 74) hx hb dX9_spreadDue_31 (by decide) (fun c_4 => ?_) (fun c_4 => ?_)
        · exact J74 w2 _ _ ls hW_w2 hM_w2 (R_nle_r (In_of (hM_w2.gI (by decide)).symm g2_64_1) i_x2_1 c_1 (by decide) : In 0 39 x2_1) (In_of (hM_w2.gI (by decide)) (In_of (hM_w2.gI (by decide)).symm g2_64_0)) (In_of (hM_w2.gI (by decide)) (In_of (hM_w2.gI (by decide)).symm g2_64_1)) (In_of (hM_w2.gI (by decide)) (In_of (hM_w2.gI (by decide)).symm g2_64_2)) hR_2 hP hD hS (lv_sub hl [0, 1] rfl)
        · refine lv_aload_n hx hb dX9_spreadDue_34 rfl (lv_at hl 0 rfl) ?_
          refine gt_X9 hx hb hts hown hK hP 81 (hW_w2.o tX_81) 5 (by decide) wd_516 rfl (hW_w2.fr tX_81 rfl) dX9_spreadDue_35 ?_
          refine lv_iload_n hx hb dX9_spreadDue_38 rfl (lv_at hl 1 rfl) ?_
          refine va_iald hx hb hK hP 83 0 (hW_w2.a tX_83) rfl (in_I (R_nle_r (In_of (hM_w2.gI (by decide)).symm g2_64_1) i_x2_1 c_1 (by decide) : In 0 39 x2_1) (by decide)) dX9_spreadDue_39 ?_
          refine lv_topi (fun v_5 ev_5 => ?_)
          refine lv_aload_n hx hb dX9_spreadDue_40 rfl (lv_at hl 0 rfl) ?_
          refine gt_X9 hx hb hts hown hK hP 81 (hW_w2.o tX_81) 4 (by decide) wd_515 rfl (hW_w2.fi tX_81 rfl) dX9_spreadDue_41 ?_
          refine tov (v := (fI w 81 4)) (hM_w2.2 81 4 (by decide) (by decide)) ?_
          refine lv_icmp_eq (tgt := 74) hx hb dX9_spreadDue_44 (by decide) (fun c_6 => ?_) (fun c_6 => ?_)
          · exact J74 w2 _ _ ls hW_w2 hM_w2 (R_nle_r (In_of (hM_w2.gI (by decide)).symm g2_64_1) i_x2_1 c_1 (by decide) : In 0 39 x2_1) (In_of (hM_w2.gI (by decide)) (In_of (hM_w2.gI (by decide)).symm g2_64_0)) (In_of (hM_w2.gI (by decide)) (In_of (hM_w2.gI (by decide)).symm g2_64_1)) (In_of (hM_w2.gI (by decide)) (In_of (hM_w2.gI (by decide)).symm g2_64_2)) hR_2 hP hD hS (lv_sub hl [0, 1] rfl)
          · refine lv_aload_n hx hb dX9_spreadDue_47 rfl (lv_at hl 0 rfl) ?_
            refine gt_X9 hx hb hts hown hK hP 81 (hW_w2.o tX_81) 1 (by decide) wd_512 rfl (hW_w2.fr tX_81 rfl) dX9_spreadDue_48 ?_
            refine gt_X2 hx hb hts hown hK hP 74 (hW_w2.o tX_74) 1 (by decide) wd_469 rfl (hW_w2.fr tX_74 rfl) dX9_spreadDue_51 ?_
            refine lv_iload_n hx hb dX9_spreadDue_54 rfl (lv_at hl 1 rfl) ?_
            refine va_lald hx hb hK hP 75 1 (hW_w2.al tX_75) rfl (in_I (R_nle_r (In_of (hM_w2.gI (by decide)).symm g2_64_1) i_x2_1 c_1 (by decide) : In 0 39 x2_1) (by decide)) dX9_spreadDue_55 ?_
            refine lv_topl (fun v_7 ev_7 => ?_)
            refine lv_aload_n hx hb dX9_spreadDue_56 rfl (lv_at hl 0 rfl) ?_
            refine gt_X9 hx hb hts hown hK hP 81 (hW_w2.o tX_81) 1 (by decide) wd_512 rfl (hW_w2.fr tX_81 rfl) dX9_spreadDue_57 ?_
            refine gt_X2 hx hb hts hown hK hP 74 (hW_w2.o tX_74) 5 (by decide) wd_475 rfl (hW_w2.fl tX_74 rfl) dX9_spreadDue_60 ?_
            refine tol (v := (fL w 74 5)) (hM_w2.gL (by decide)) ?_
            refine W.lcmp hx hb dX9_spreadDue_63 ?_
            refine lv_topi (fun v_8 ev_8 => ?_)
            refine lv_if_ne (tgt := 74) hx hb dX9_spreadDue_64 (by decide) (fun c_9 => ?_) (fun c_9 => ?_)
            · exact J74 w2 _ _ ls hW_w2 hM_w2 (R_nle_r (In_of (hM_w2.gI (by decide)).symm g2_64_1) i_x2_1 c_1 (by decide) : In 0 39 x2_1) (In_of (hM_w2.gI (by decide)) (In_of (hM_w2.gI (by decide)).symm g2_64_0)) (In_of (hM_w2.gI (by decide)) (In_of (hM_w2.gI (by decide)).symm g2_64_1)) (In_of (hM_w2.gI (by decide)) (In_of (hM_w2.gI (by decide)).symm g2_64_2)) hR_2 hP hD hS (lv_sub hl [0, 1] rfl)
            · refine lv_aload_n hx hb dX9_spreadDue_67 rfl (lv_at hl 0 rfl) ?_
              refine lv_iload_n hx hb dX9_spreadDue_68 rfl (lv_at hl 1 rfl) ?_
              refine lv_bipush (v := (-3)) hx hb dX9_spreadDue_69 (by decide) ?_
              refine kW_v ⟨rfl, rfl⟩ hP hD hS hA (rW_V (As := [.int x2_1, .int (-3)]) (rest := []) hx hb hml hown hts hK hE hP hD (k_X9_seeRow l D cI cJ cZ q bb bs bp w2 hW_w2 x2_1 (-3) (R_nle_r (In_of (hM_w2.gI (by decide)).symm g2_64_1) i_x2_1 c_1 (by decide) : In 0 39 x2_1) (In_lit (n := (-3)) (by decide) (by decide) : In (-3) 9 (-3)) (In_of (hM_w2.gI (by decide)) (In_of (hM_w2.gI (by decide)).symm g2_64_0)) (In_of (hM_w2.gI (by decide)) (In_of (hM_w2.gI (by decide)).symm g2_64_1)) (In_of (hM_w2.gI (by decide)) (In_of (hM_w2.gI (by decide)).symm g2_64_2)) (hR_2.1) ((fun q => c_6 (ev_5.trans (q.trans (hM_w2.2 81 4 (by decide) (by decide)))))) (Or.inl ⟨rfl, hR_2.2.2.2.2.1 hf_81_12.1⟩) ((by have e : (fI w2 64 1).toInt = (fI w 64 1).toInt := congrArg Int32.toInt (hM_w2.gI (by decide)); omega)) _) ⟨⟨rfl, rfl⟩, rfl, rfl⟩ sv_X9_169 ⟨(Nat.le_trans (by decide) hR.1), (Nat.le_trans (by decide) hR.2)⟩ 81 9 (hW_w2.o tX_81) rfl rfl rfl hl.1 rfl (Nat.le_of_ble_eq_true rfl) dX9_spreadDue_71) (fun w_10 H locs hw_w_10 hP hD hS => ?_)
              obtain ⟨hW_w_10, hs_w_10, h_12⟩ := hw_w_10
              have R_w_10 : RI w_10 ∧ Mn w w_10 := ⟨h_12.1, hR_2.2.tr h_12.2⟩
              exact J74 w_10 _ _ ls hW_w_10 (hM_w2.tr hs_w_10 (by decide)) (R_nle_r (In_of (hM_w2.gI (by decide)).symm g2_64_1) i_x2_1 c_1 (by decide) : In 0 39 x2_1) (In_of ((hs_w_10.gI (by decide)).trans (hM_w2.gI (by decide))) (In_of (hM_w2.gI (by decide)).symm g2_64_0)) (In_of ((hs_w_10.gI (by decide)).trans (hM_w2.gI (by decide))) (In_of (hM_w2.gI (by decide)).symm g2_64_1)) (In_of ((hs_w_10.gI (by decide)).trans (hM_w2.gI (by decide))) (In_of (hM_w2.gI (by decide)).symm g2_64_2)) R_w_10 hP hD hS (lv_sub hl [0, 1] rfl)
  refine lv_iconst (v := 0) hx hb dX9_spreadDue_0 (by decide) ?_
  refine lv_istore_n (lv' := [(1, .int 0), (0, .ref (q 81))]) hx hb dX9_spreadDue_1 rfl hl (by decide) rfl (fun ls hl => ?_)
  exact J2 _ 0 w _ _ ls (Nat.lt_succ_self _) hW_w Sm.rf (In_lit (n := 0) (by decide) (by decide) : In 0 40 0) hf_64_0 hf_64_1 hf_64_2 R_w hP hD hS (lv_sub hl [1, 0] rfl)
