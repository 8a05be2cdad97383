set_option maxRecDepth 100000 in
set_option maxHeartbeats 8000000 in
theorem k_X7_addReport (l : Launch) (D : va_G) (cI cJ cZ : ClassId) (q : Nat → Nat) (bb bs bp : Nat) (w : va_W) (hW_w : HT q (TX q cI cJ cZ bb bs bp) w) (p1 : Int32) (p2 : Int32) (p3 : Int32) (p4 : Int32) (p5 : Int32) (p6 : Int32) (i_p6 : In (-1) 3 p6) (hf_35_0 : In 0 199 (fI w 35 0)) : Con_i l yX7_addReport cX7_addReport 9 (some .int) ({ frames := 1, cells := 0, slots := 0, locals := 24 }) D cI cJ cZ eW [.ref (q 35), .int p1, .int p2, .int p3, .int p4, .int p5, .int p6] w (fun (r : Int32) (w1 : va_W) => HT q (TX q cI cJ cZ bb bs bp) w1 ∧ Sm [35, 36, 37, 38, 39, 40] [(35, 0), (35, 1)] w w1 ∧ In 1 200 r ∧ In 1 200 (fI w1 35 0) ∧ ((LD w → LD w1))) := by
  refine eQ_i rfl (by decide) (Nat.le_of_ble_eq_true rfl) ⟨rfl, rfl⟩ ?_
  intro p e R s m args below meth c A Q hx hb hml hown hts hK hE hA hR hret hP hD hS ls hl
  have hown : s.vm.findClass RX7 = some m.cls := hown
  have hl : lv_has ls 9 [(0, .ref (q 35)), (1, .int p1), (2, .int p2), (3, .int p3), (4, .int p4), (5, .int p5), (6, .int p6)] := hl
  have J86 : ∀ (x86_7 : Int32) (x86_8 : Int32) (w86 : va_W) (H : Heap) (locs : List Loc) (ls : Array Slot), HT q (TX q cI cJ cZ bb bs bp) w86 → Sm [35, 36, 37, 38, 39, 40] [(35, 0), (35, 1)] w w86 → (In (-1) 3 p6) → (In 1 200 x86_7) → (In 0 3 x86_8) → (In 1 200 (fI w86 35 0)) → (LD w → LD w86) → va_P D vwCl w86 H → va_D A w86 → va_S A s.heap H locs → lv_has ls 9 [(0, .ref (q 35)), (1, .int p1), (2, .int p2), (3, .int p3), (4, .int p4), (5, .int p5), (6, .int p6), (7, .int x86_7), (8, .int x86_8)] → W p l e R s m args below meth c H locs 0 0 Q (F0 m 86 ls []) := by
    intro x86_7 x86_8 w86 H locs ls hW_w86 hM_w86 i_x86_6 i_x86_7 i_x86_8 g86_35_0 hl_86 hP hD hS hl
    refine lv_aload_n hx hb dX7_addReport_86 rfl (lv_at hl 0 rfl) ?_
    refine lv_dup hx hb dX7_addReport_87 rfl ?_
    refine gt_X7 hx hb hts hown hK hP 35 (hW_w86.o tX_35) 1 (by decide) wd_253 rfl (hW_w86.fi tX_35 rfl) dX7_addReport_88 ?_
    refine lv_iconst (v := 1) hx hb dX7_addReport_91 (by decide) ?_
    refine lv_iadd hx hb dX7_addReport_92 ?_
    refine pt_X7 hx hb hts hown hK hP hD hS 35 (hW_w86.o tX_35) 1 (by decide) wd_253 rfl rfl (ty := .int) (v := .int ((fI w86 35 1) + 1)) (by decide +kernel) rfl rfl (hW_w86.ll tX_35 (Nat.le_of_ble_eq_true rfl)) dX7_addReport_93 (fun H locs hP hD hS => fr_w (hW_w86.sI tX_35 rfl (In_any _)) hP hD (fun w_1 ew_1 hW_w_1 hP hD => ?_))
    refine lv_iload hx hb dX7_addReport_96 (lv_at hl 7 rfl) ?_
    exact hret _ _ _ _ _ _ hP hD hS dX7_addReport_98 ⟨hW_w_1, (hM_w86.sf (hW_w86.lt tX_35) ew_1 (by decide)), i_x86_7, (In_of (fI_nej (hW_w86.lt tX_35) ew_1 (by decide)) g86_35_0), (fun hL => (LD_cg (aF_cg (st_ne ew_1 (by decide))) (aF_cg (st_ne ew_1 (by decide))) (hl_86 hL)))⟩
  have J48 : ∀ (N : Nat) (x48_7 : Int32) (x48_8 : Int32) (w48 : va_W) (H : Heap) (locs : List Loc) (ls : Array Slot), (3 - x48_8.toInt).toNat < N → HT q (TX q cI cJ cZ bb bs bp) w48 → Sm [35, 36, 37, 38, 39, 40] [(35, 0), (35, 1)] w w48 → (In (-1) 3 p6) → (In 1 200 x48_7) → (In 0 3 x48_8) → (In 1 200 (fI w48 35 0)) → (LD w → LD w48) → va_P D vwCl w48 H → va_D A w48 → va_S A s.heap H locs → lv_has ls 9 [(0, .ref (q 35)), (1, .int p1), (2, .int p2), (3, .int p3), (4, .int p4), (5, .int p5), (6, .int p6), (7, .int x48_7), (8, .int x48_8)] → W p l e R s m args below meth c H locs 0 0 Q (F0 m 48 ls []) := by
    intro N
    induction N with
    | zero => intro x48_7 x48_8 w48 H locs ls hmu; exact absurd hmu (Nat.not_lt_zero _)
    | succ N ih48 =>
      intro x48_7 x48_8 w48 H locs ls hmu48 hW_w48 hM_w48 i_x48_6 i_x48_7 i_x48_8 g48_35_0 hl_48 hP hD hS hl
      refine lv_iload hx hb dX7_addReport_48 (lv_at hl 8 rfl) ?_
      refine lv_iload hx hb dX7_addReport_50 (lv_at hl 6 rfl) ?_
      refine lv_icmp_ge (tgt := 86) hx hb dX7_addReport_52 (by decide) (fun c_2 => ?_) (fun c_2 => ?_)
      · exact J86 x48_7 x48_8 w48 _ _ ls hW_w48 hM_w48 i_p6 i_x48_7 i_x48_8 g48_35_0 (fun hL => (hl_48 hL)) hP hD hS (lv_sub hl [0, 1, 2, 3, 4, 5, 6, 7, 8] rfl)
      · refine lv_iload hx hb dX7_addReport_55 (lv_at hl 8 rfl) ?_
        refine lv_iconst (v := 3) hx hb dX7_addReport_57 (by decide) ?_
        refine lv_icmp_ge (tgt := 86) hx hb dX7_addReport_58 (by decide) (fun c_3 => ?_) (fun c_3 => ?_)
        · exact (In_no (R_le_l (In_lit (n := 3) (by decide) (by decide) : In 3 3 3) (R_nle_r i_p6 i_x48_8 c_2 (by decide) : In 0 2 x48_8) c_3 (by decide) : In 3 2 3) (by decide)).elim
        · refine lv_aload_n hx hb dX7_addReport_61 rfl (lv_at hl 0 rfl) ?_
          refine gt_X7 hx hb hts hown hK hP 35 (hW_w48.o tX_35) 4 (by decide) wd_259 rfl (hW_w48.fr tX_35 rfl) dX7_addReport_62 ?_
          refine lv_iload hx hb dX7_addReport_65 (lv_at hl 7 rfl) ?_
          refine lv_iconst (v := 3) hx hb dX7_addReport_67 (by decide) ?_
          refine lv_imul hx hb dX7_addReport_68 ?_
          refine lv_iload hx hb dX7_addReport_69 (lv_at hl 8 rfl) ?_
          refine lv_iadd hx hb dX7_addReport_71 ?_
          refine lv_aload_n hx hb dX7_addReport_72 rfl (lv_at hl 0 rfl) ?_
          refine gt_X7 hx hb hts hown hK hP 35 (hW_w48.o tX_35) 7 (by decide) wd_265 rfl (hW_w48.fr tX_35 rfl) dX7_addReport_73 ?_
          refine lv_iload hx hb dX7_addReport_76 (lv_at hl 8 rfl) ?_
          refine va_lald hx hb hK hP 41 1 (hW_w48.al tX_41) rfl (in_I (R_nle_r i_p6 i_x48_8 c_2 (by decide) : In 0 2 x48_8) (by decide)) dX7_addReport_78 ?_
          refine lv_topl (fun v_4 ev_4 => ?_)
          refine va_last hx hb hK hP hD hS 38 1 (hW_w48.al tX_38) rfl (in_I ((In_add ((In_mulr i_x48_7 (n := 3) (by decide) (by decide)) : In 3 600 (x48_7 * 3)) (R_nle_r i_p6 i_x48_8 c_2 (by decide) : In 0 2 x48_8) (by decide)) : In 3 602 ((x48_7 * 3) + x48_8)) (by decide)) dX7_addReport_79 (fun H locs hP hD hS => fr_w (hW_w48.uL tX_38) hP hD (fun w_5 ew_5 hW_w_5 hP hD => ?_))
          refine lv_iinc (v := (x48_8 + 1)) (lv' := [(8, .int (x48_8 + 1)), (0, .ref (q 35)), (1, .int p1), (2, .int p2), (3, .int p3), (4, .int p4), (5, .int p5), (6, .int p6), (7, .int x48_7)]) hx hb dX7_addReport_80 hl (k := 8) rfl (rfl) (by decide) rfl (fun ls hl => ?_)
          refine lv_goto (tgt := 48) hx hb dX7_addReport_83 (by decide) ?_
          exact ih48 x48_7 (x48_8 + 1) w_5 _ _ ls (mu_inc hmu48 (R_nle_r i_p6 i_x48_8 c_2 (by decide) : In 0 2 x48_8) (In_lit (n := 1) (by decide) (by decide) : In 1 1 1) (by decide)) hW_w_5 (hM_w48.sa ew_5 (by decide)) (In_w (R_nle_l i_p6 i_x48_8 c_2 (by decide) : In 1 3 p6) (by decide) : In (-1) 3 p6) i_x48_7 (In_w ((In_add (y := 1) (R_nle_r i_p6 i_x48_8 c_2 (by decide) : In 0 2 x48_8) (In_lit (n := 1) (by decide) (by decide) : In 1 1 1) (by decide)) : In 1 3 (x48_8 + 1)) (by decide) : In 0 3 (x48_8 + 1)) (In_of (fI_cg (st_ne ew_5 (by decide))) g48_35_0) (fun hL => (LD_cg (aF_cg (st_ne ew_5 (by decide))) (aF_cg (st_ne ew_5 (by decide))) (hl_48 hL))) hP hD hS (lv_sub hl [1, 2, 3, 4, 5, 6, 7, 8, 0] rfl)
  refine lv_aload_n hx hb dX7_addReport_0 rfl (lv_at hl 0 rfl) ?_
  refine lv_iconst (v := 1) hx hb dX7_addReport_1 (by decide) ?_
  refine lv_iload_n hx hb dX7_addReport_2 rfl (lv_at hl 1 rfl) ?_
  refine lv_iload_n hx hb dX7_addReport_3 rfl (lv_at hl 2 rfl) ?_
  refine lv_iload_n hx hb dX7_addReport_4 rfl (lv_at hl 3 rfl) ?_
  refine kW_i ⟨rfl, rfl⟩ hP hD hS hA (rW_V (As := [.int 1, .int p1, .int p2, .int p3]) (rest := []) hx hb hml hown hts hK hE hP hD (k_X7_add l D cI cJ cZ q bb bs bp w hW_w 1 p1 p2 p3 (In_lit (n := 1) (by decide) (by decide) : In 1 4 1) hf_35_0 _) ⟨⟨rfl, rfl⟩, rfl, rfl⟩ sv_X7_38 ⟨(Nat.le_trans (by decide) hR.1), (Nat.le_trans (by decide) hR.2)⟩ 35 7 (hW_w.o tX_35) rfl rfl rfl hl.1 rfl (Nat.le_of_ble_eq_true rfl) dX7_addReport_5) (fun r_7 w_6 H locs hw_w_6 hP hD hS => ?_)
  obtain ⟨hW_w_6, hs_w_6, i_r_7, h_8, h_9⟩ := hw_w_6
  refine lv_istore (lv' := [(7, .int r_7), (0, .ref (q 35)), (1, .int p1), (2, .int p2), (3, .int p3), (4, .int p4), (5, .int p5), (6, .int p6)]) hx hb dX7_addReport_8 hl (by decide) rfl (fun ls hl => ?_)
  refine lv_aload_n hx hb dX7_addReport_10 rfl (lv_at hl 1 rfl) ?_
  refine gt_X7 hx hb hts hown hK hP 35 (hW_w_6.o tX_35) 3 (by decide) wd_258 rfl (hW_w_6.fr tX_35 rfl) dX7_addReport_11 ?_
  refine lv_iload hx hb dX7_addReport_14 (lv_at hl 0 rfl) ?_
  refine lv_iconst (v := 5) hx hb dX7_addReport_16 (by decide) ?_
  refine lv_imul hx hb dX7_addReport_17 ?_
  refine lv_iconst (v := 3) hx hb dX7_addReport_18 (by decide) ?_
  refine lv_iadd hx hb dX7_addReport_19 ?_
  refine lv_iload hx hb dX7_addReport_20 (lv_at hl 5 rfl) ?_
  refine va_iast hx hb hK hP hD hS 37 0 (hW_w_6.a tX_37) rfl (in_I ((In_add ((In_mulr i_r_7 (n := 5) (by decide) (by decide)) : In 5 1000 (r_7 * 5)) (In_lit (n := 3) (by decide) (by decide) : In 3 3 3) (by decide)) : In 8 1003 ((r_7 * 5) + 3)) (by decide)) dX7_addReport_22 (fun H locs hP hD hS => fr_w (hW_w_6.uA tX_37 (In_any _)) hP hD (fun w_10 ew_10 hW_w_10 hP hD => ?_))
  refine lv_aload_n hx hb dX7_addReport_23 rfl (lv_at hl 1 rfl) ?_
  refine gt_X7 hx hb hts hown hK hP 35 (hW_w_10.o tX_35) 3 (by decide) wd_258 rfl (hW_w_10.fr tX_35 rfl) dX7_addReport_24 ?_
  refine lv_iload hx hb dX7_addReport_27 (lv_at hl 0 rfl) ?_
  refine lv_iconst (v := 5) hx hb dX7_addReport_29 (by decide) ?_
  refine lv_imul hx hb dX7_addReport_30 ?_
  refine lv_iconst (v := 4) hx hb dX7_addReport_31 (by decide) ?_
  refine lv_iadd hx hb dX7_addReport_32 ?_
  refine lv_iload hx hb dX7_addReport_33 (lv_at hl 6 rfl) ?_
  refine va_iast hx hb hK hP hD hS 37 0 (hW_w_10.a tX_37) rfl (in_I ((In_add ((In_mulr i_r_7 (n := 5) (by decide) (by decide)) : In 5 1000 (r_7 * 5)) (In_lit (n := 4) (by decide) (by decide) : In 4 4 4) (by decide)) : In 9 1004 ((r_7 * 5) + 4)) (by decide)) dX7_addReport_35 (fun H locs hP hD hS => fr_w (hW_w_10.uA tX_37 (In_any _)) hP hD (fun w_11 ew_11 hW_w_11 hP hD => ?_))
  refine lv_aload_n hx hb dX7_addReport_36 rfl (lv_at hl 1 rfl) ?_
  refine gt_X7 hx hb hts hown hK hP 35 (hW_w_11.o tX_35) 5 (by decide) wd_261 rfl (hW_w_11.fr tX_35 rfl) dX7_addReport_37 ?_
  refine lv_iload hx hb dX7_addReport_40 (lv_at hl 0 rfl) ?_
  refine lv_iload hx hb dX7_addReport_42 (lv_at hl 7 rfl) ?_
  refine va_iast hx hb hK hP hD hS 39 0 (hW_w_11.a tX_39) rfl (in_I i_r_7 (by decide)) dX7_addReport_44 (fun H locs hP hD hS => fr_w (hW_w_11.uA tX_39 i_p6) hP hD (fun w_12 ew_12 hW_w_12 hP hD => ?_))
  refine lv_iconst (v := 0) hx hb dX7_addReport_45 (by decide) ?_
  refine lv_istore (lv' := [(8, .int 0), (7, .int r_7), (0, .ref (q 35)), (1, .int p1), (2, .int p2), (3, .int p3), (4, .int p4), (5, .int p5), (6, .int p6)]) hx hb dX7_addReport_46 hl (by decide) rfl (fun ls hl => ?_)
  exact J48 _ r_7 0 w_12 _ _ ls (Nat.lt_succ_self _) hW_w_12 ((((Sm.rf.tr hs_w_6 (by decide)).sa ew_10 (by decide)).sa ew_11 (by decide)).sa ew_12 (by decide)) i_p6 i_r_7 (In_lit (n := 0) (by decide) (by decide) : In 0 3 0) (In_of ((fI_cg (st_ne ew_12 (by decide))).trans ((fI_cg (st_ne ew_11 (by decide))).trans (fI_cg (st_ne ew_10 (by decide))))) h_8) (fun hL => (LD_cg (aF_cg (st_ne ew_12 (by decide))) (aF_cg (st_ne ew_12 (by decide))) (LD_put (a0 := r_7) (j := 4) (n := 4) i_r_7 (by decide) (by decide) (by decide) (aF_cg (st_ne ew_11 (by decide))) (aF_eq (hW_w_10.lt tX_37) ew_11) (LD_put (a0 := r_7) (j := 3) (n := 3) i_r_7 (by decide) (by decide) (by decide) (aF_cg (st_ne ew_10 (by decide))) (aF_eq (hW_w_6.lt tX_37) ew_10) (h_9 hL ⟨(fun q => absurd q (by decide)), (fun q => absurd q (by decide))⟩))))) hP hD hS (lv_sub hl [2, 3, 4, 5, 6, 7, 8, 1, 0] rfl)
set_option maxRecDepth 100000 in
set_option maxHeartbeats 8000000 in
theorem k_X7_isFull (l : Launch) (D : va_G) (cI cJ cZ : ClassId) (q : Nat → Nat) (bb bs bp : Nat) (w : va_W) (hW_w : HT q (TX q cI cJ cZ bb bs bp) w) : Con_i l yX7_isFull cX7_isFull 1 (some .boolean) ({ frames := 0, cells := 0, slots := 0, locals := 0 }) D cI cJ cZ eW [.ref (q 35)] w (fun (r : Int32) (w1 : va_W) => HT q (TX q cI cJ cZ bb bs bp) w1 ∧ Sm [] [] w w1 ∧ In 0 1 r ∧ (r = 0 → In 0 199 (fI w1 35 0)) ∧ (¬ r = 0 → In 200 200 (fI w1 35 0))) := by
  refine eQ_z rfl (by decide) (Nat.le_of_ble_eq_true rfl) ⟨rfl, rfl⟩ ?_
  intro p e R s m args below meth c A Q hx hb hml hown hts hK hE hA hR hret hP hD hS ls hl
  have hown : s.vm.findClass RX7 = some m.cls := hown
  have hl : lv_has ls 1 [(0, .ref (q 35))] := hl
  refine lv_aload_n hx hb dX7_isFull_0 rfl (lv_at hl 0 rfl) ?_
  refine gt_X7 hx hb hts hown hK hP 35 (hW_w.o tX_35) 0 (by decide) wd_251 rfl (hW_w.fi tX_35 rfl) dX7_isFull_1 ?_
  refine lv_sipush (v := 200) hx hb dX7_isFull_4 (by decide) ?_
  refine lv_icmp_lt (tgt := 14) hx hb dX7_isFull_7 (by decide) (fun c_1 => ?_) (fun c_1 => ?_)
  · refine lv_iconst (v := 0) hx hb dX7_isFull_14 (by decide) ?_
    exact hret _ _ _ _ _ _ hP hD hS dX7_isFull_15 (In_lit (n := 0) (by decide) (by decide) : In 0 1 0) ⟨hW_w, Sm.rf, (In_lit (n := 0) (by decide) (by decide) : In 0 1 0), (fun h => (R_lt_l (hW_w.fin tX_35 rfl : In 0 200 (fI w 35 0)) (In_lit (n := 200) (by decide) (by decide) : In 200 200 200) c_1 (by decide) : In 0 199 (fI w 35 0))), (fun h => absurd rfl h)⟩
  · refine lv_iconst (v := 1) hx hb dX7_isFull_10 (by decide) ?_
    refine lv_goto (tgt := 15) hx hb dX7_isFull_11 (by decide) ?_
    exact hret _ _ _ _ _ _ hP hD hS dX7_isFull_15 (In_lit (n := 1) (by decide) (by decide) : In 0 1 1) ⟨hW_w, Sm.rf, (In_lit (n := 1) (by decide) (by decide) : In 0 1 1), (fun h => absurd h (by decide)), (fun h => (R_nlt_l (hW_w.fin tX_35 rfl : In 0 200 (fI w 35 0)) (In_lit (n := 200) (by decide) (by decide) : In 200 200 200) c_1 (by decide) : In 200 200 (fI w 35 0)))⟩
set_option maxRecDepth 100000 in
set_option maxHeartbeats 8000000 in
theorem k_X11_report (l : Launch) (D : va_G) (cI cJ cZ : ClassId) (q : Nat → Nat) (bp : Nat) (w : va_W) (hW_w : HT q (TX q cI cJ cZ 1 16 bp) w) (p1 : Int32) (p2 : Int32) (p3 : Int32) (p4 : Int32) (p5 : Int32) : Con_i l yX11_report cX11_report 8 (some .int) ({ frames := 4, cells := 0, slots := 0, locals := 89 }) D cI cJ cZ eW [.ref (q 0), .int p1, .int p2, .int p3, .int p4, .int p5] w (fun (r : Int32) (w1 : va_W) => HT q (TX q cI cJ cZ 1 16 bp) w1 ∧ Sm [31, 35, 36, 37, 38, 39, 40, 41] [(31, 1), (31, 3), (31, 4), (31, 5), (31, 6), (31, 7), (35, 0), (35, 1)] w w1 ∧ In (-1) 200 r ∧ ((LD w → LD w1)) ∧ (fI w1 31 1 = 0)) := by
  refine eQ_i rfl (by decide) (Nat.le_of_ble_eq_true rfl) ⟨rfl, rfl⟩ ?_
  intro p e R s m args below meth c A Q hx hb hml hown hts hK hE hA hR hret hP hD hS ls hl
  have hown : s.vm.findClass RX11 = some m.cls := hown
  have hl : lv_has ls 8 [(0, .ref (q 0)), (1, .int p1), (2, .int p2), (3, .int p3), (4, .int p4), (5, .int p5)] := hl
  have J86 : ∀ (x86_6 : Int32) (y86_0 : Int32) (w86 : va_W) (H : Heap) (locs : List Loc) (ls : Array Slot), HT q (TX q cI cJ cZ 1 16 bp) w86 → Sm [31, 35, 36, 37, 38, 39, 40, 41] [(31, 1), (31, 3), (31, 4), (31, 5), (31, 6), (31, 7), (35, 0), (35, 1)] w w86 → (In (-1) 3 x86_6) → (In 0 1 y86_0) → (fI w86 31 1 = 0) → (LD w → LD w86) → va_P D vwCl w86 H → va_D A w86 → va_S A s.heap H locs → lv_has ls 8 [(0, .ref (q 0)), (1, .int p1), (2, .int p2), (3, .int p3), (4, .int p4), (5, .int p5), (6, .int x86_6)] → W p l e R s m args below meth c H locs 0 0 Q (F0 m 86 ls [.int y86_0]) := by
    intro x86_6 y86_0 w86 H locs ls hW_w86 hM_w86 i_x86_6 i_y86_0 g86_31_1e hl_86 hP hD hS hl
    refine lv_istore (lv' := [(7, .int y86_0), (0, .ref (q 0)), (1, .int p1), (2, .int p2), (3, .int p3), (4, .int p4), (5, .int p5), (6, .int x86_6)]) hx hb dX11_report_86 hl (by decide) rfl (fun ls hl => ?_)
    refine lv_iload hx hb dX11_report_88 (lv_at hl 0 rfl) ?_
    refine lv_if_eq (tgt := 115) hx hb dX11_report_90 (by decide) (fun c_1 => ?_) (fun c_1 => ?_)
    · refine lv_iconst (v := (-1)) hx hb dX11_report_115 (by decide) ?_
      exact hret _ _ _ _ _ _ hP hD hS dX11_report_116 ⟨hW_w86, hM_w86, (In_lit (n := (-1)) (by decide) (by decide) : In (-1) 200 (-1)), (fun hL => (hl_86 hL)), g86_31_1e⟩
    · refine lv_aload_n hx hb dX11_report_93 rfl (lv_at hl 1 rfl) ?_
      refine gt_X11 hx hb hts hown hK hP 0 (hW_w86.o tX_0) 4 (by decide) wd_677 rfl (hW_w86.fr tX_0 rfl) dX11_report_94 ?_
      refine gt_X7 hx hb hts hown hK hP 35 (hW_w86.o tX_35) 1 (by decide) wd_254 rfl (hW_w86.fi tX_35 rfl) dX11_report_97 ?_
      refine lv_bipush (v := 80) hx hb dX11_report_100 (by decide) ?_
      refine lv_icmp_ge (tgt := 115) hx hb dX11_report_102 (by decide) (fun c_2 => ?_) (fun c_2 => ?_)
      · refine lv_iconst (v := (-1)) hx hb dX11_report_115 (by decide) ?_
        exact hret _ _ _ _ _ _ hP hD hS dX11_report_116 ⟨hW_w86, hM_w86, (In_lit (n := (-1)) (by decide) (by decide) : In (-1) 200 (-1)), (fun hL => (hl_86 hL)), g86_31_1e⟩
      · refine lv_aload_n hx hb dX11_report_105 rfl (lv_at hl 1 rfl) ?_
        refine gt_X11 hx hb hts hown hK hP 0 (hW_w86.o tX_0) 4 (by decide) wd_677 rfl (hW_w86.fr tX_0 rfl) dX11_report_106 ?_
        refine kW_i ⟨rfl, rfl⟩ hP hD hS hA (rW_V (As := []) (rest := []) hx hb hml hown hts hK hE hP hD (k_X7_isFull l D cI cJ cZ q 1 16 bp w86 hW_w86  _) ⟨⟨rfl, rfl⟩, rfl, rfl⟩ sv_X11_178 ⟨(Nat.le_trans (by decide) hR.1), (Nat.le_trans (by decide) hR.2)⟩ 35 7 (hW_w86.o tX_35) rfl rfl rfl hl.1 rfl (Nat.le_of_ble_eq_true rfl) dX11_report_109) (fun r_4 w_3 H locs hw_w_3 hP hD hS => ?_)
        obtain ⟨hW_w_3, hs_w_3, i_r_4, h_5, h_6⟩ := hw_w_3
        refine lv_if_eq (tgt := 117) hx hb dX11_report_112 (by decide) (fun c_7 => ?_) (fun c_7 => ?_)
        · refine lv_aload_n hx hb dX11_report_117 rfl (lv_at hl 1 rfl) ?_
          refine gt_X11 hx hb hts hown hK hP 0 (hW_w_3.o tX_0) 4 (by decide) wd_677 rfl (hW_w_3.fr tX_0 rfl) dX11_report_118 ?_
          refine lv_iload_n hx hb dX11_report_121 rfl (lv_at hl 2 rfl) ?_
          refine lv_iload_n hx hb dX11_report_122 rfl (lv_at hl 3 rfl) ?_
          refine lv_iload_n hx hb dX11_report_123 rfl (lv_at hl 4 rfl) ?_
          refine lv_iload hx hb dX11_report_124 (lv_at hl 5 rfl) ?_
          refine lv_iload hx hb dX11_report_126 (lv_at hl 6 rfl) ?_
          refine lv_iload hx hb dX11_report_128 (lv_at hl 7 rfl) ?_
          refine kW_i ⟨rfl, rfl⟩ hP hD hS hA (rW_V (As := [.int p1, .int p2, .int p3, .int p4, .int p5, .int x86_6]) (rest := []) hx hb hml hown hts hK hE hP hD (k_X7_addReport l D cI cJ cZ q 1 16 bp w_3 hW_w_3 p1 p2 p3 p4 p5 x86_6 i_x86_6 (In_of (hs_w_3.gI (by decide)) (In_of (hs_w_3.gI (by decide)).symm (h_5 c_7))) _) ⟨⟨rfl, rfl⟩, rfl, rfl⟩ sv_X11_182 ⟨(Nat.le_trans (by decide) hR.1), (Nat.le_trans (by decide) hR.2)⟩ 35 7 (hW_w_3.o tX_35) rfl rfl rfl hl.1 rfl (Nat.le_of_ble_eq_true rfl) dX11_report_130) (fun r_9 w_8 H locs hw_w_8 hP hD hS => ?_)
          obtain ⟨hW_w_8, hs_w_8, i_r_9, h_10, h_11⟩ := hw_w_8
          exact hret _ _ _ _ _ _ hP hD hS dX11_report_133 ⟨hW_w_8, ((hM_w86.tr hs_w_3 (by decide)).tr hs_w_8 (by decide)), (In_w i_r_9 (by decide) : In (-1) 200 r_9), (fun hL => (h_11 (LD_cg (hs_w_3.hA (by decide)) (hs_w_3.hA (by decide)) (hl_86 hL)))), ((hs_w_8.gI (by decide)).trans ((hs_w_3.gI (by decide)).trans g86_31_1e))⟩
        · refine lv_iconst (v := (-1)) hx hb dX11_report_115 (by decide) ?_
          exact hret _ _ _ _ _ _ hP hD hS dX11_report_116 ⟨hW_w_3, (hM_w86.tr hs_w_3 (by decide)), (In_lit (n := (-1)) (by decide) (by decide) : In (-1) 200 (-1)), (fun hL => (LD_cg (hs_w_3.hA (by decide)) (hs_w_3.hA (by decide)) (hl_86 hL))), ((hs_w_3.gI (by decide)).trans g86_31_1e)⟩
  have J85 : ∀ (x85_6 : Int32) (w85 : va_W) (H : Heap) (locs : List Loc) (ls : Array Slot), HT q (TX q cI cJ cZ 1 16 bp) w85 → Sm [31, 35, 36, 37, 38, 39, 40, 41] [(31, 1), (31, 3), (31, 4), (31, 5), (31, 6), (31, 7), (35, 0), (35, 1)] w w85 → (In (-1) 3 x85_6) → (fI w85 31 1 = 0) → (LD w → LD w85) → va_P D vwCl w85 H → va_D A w85 → va_S A s.heap H locs → lv_has ls 8 [(0, .ref (q 0)), (1, .int p1), (2, .int p2), (3, .int p3), (4, .int p4), (5, .int p5), (6, .int x85_6)] → W p l e R s m args below meth c H locs 0 0 Q (F0 m 85 ls []) := by
    intro x85_6 w85 H locs ls hW_w85 hM_w85 i_x85_6 g85_31_1e hl_85 hP hD hS hl
    refine lv_iconst (v := 0) hx hb dX11_report_85 (by decide) ?_
    exact J86 x85_6 0 w85 _ _ ls hW_w85 hM_w85 i_x85_6 (In_lit (n := 0) (by decide) (by decide) : In 0 1 0) g85_31_1e (fun hL => (hl_85 hL)) hP hD hS (lv_sub hl [0, 1, 2, 3, 4, 5, 6] rfl)
  refine lv_aload_n hx hb dX11_report_0 rfl (lv_at hl 0 rfl) ?_
  refine gt_X11 hx hb hts hown hK hP 0 (hW_w.o tX_0) 2 (by decide) wd_675 rfl (hW_w.fr tX_0 rfl) dX11_report_1 ?_
  refine lv_aload_n hx hb dX11_report_4 rfl (lv_at hl 0 rfl) ?_
  refine gt_X11 hx hb hts hown hK hP 0 (hW_w.o tX_0) 4 (by decide) wd_677 rfl (hW_w.fr tX_0 rfl) dX11_report_5 ?_
  refine gt_X7 hx hb hts hown hK hP 35 (hW_w.o tX_35) 7 (by decide) wd_266 rfl (hW_w.fr tX_35 rfl) dX11_report_8 ?_
  refine kW_i ⟨rfl, rfl⟩ hP hD hS hA (rW_V (As := [.ref (q 41)]) (rest := []) hx hb hml hown hts hK hE hP hD (k_X10_readWishes_41 l D cI cJ cZ q 1 16 bp w hW_w  _) ⟨⟨rfl, rfl⟩, rfl, rfl⟩ sv_X11_164 ⟨(Nat.le_trans (by decide) hR.1), (Nat.le_trans (by decide) hR.2)⟩ 31 10 (hW_w.o tX_31) rfl rfl rfl hl.1 rfl (Nat.le_of_ble_eq_true rfl) dX11_report_11) (fun r_13 w_12 H locs hw_w_12 hP hD hS => ?_)
  obtain ⟨hW_w_12, hs_w_12, i_r_13⟩ := hw_w_12
  refine lv_istore (lv' := [(6, .int r_13), (0, .ref (q 0)), (1, .int p1), (2, .int p2), (3, .int p3), (4, .int p4), (5, .int p5)]) hx hb dX11_report_14 hl (by decide) rfl (fun ls hl => ?_)
  refine lv_aload_n hx hb dX11_report_16 rfl (lv_at hl 1 rfl) ?_
  refine gt_X11 hx hb hts hown hK hP 0 (hW_w_12.o tX_0) 2 (by decide) wd_675 rfl (hW_w_12.fr tX_0 rfl) dX11_report_17 ?_
  refine lv_iconst (v := 0) hx hb dX11_report_20 (by decide) ?_
  refine pt_X10 hx hb hts hown hK hP hD hS 31 (hW_w_12.o tX_31) 1 (by decide) wd_191 rfl rfl (ty := .int) (v := .int 0) (by decide +kernel) rfl rfl (hW_w_12.ll tX_31 (Nat.le_of_ble_eq_true rfl)) dX11_report_21 (fun H locs hP hD hS => fr_w (hW_w_12.sI tX_31 rfl (In_lit (n := 0) (by decide) (by decide) : In 0 1000 0)) hP hD (fun w_14 ew_14 hW_w_14 hP hD => ?_))
  refine lv_iload hx hb dX11_report_24 (lv_at hl 0 rfl) ?_
  refine lv_iconst (v := (-1)) hx hb dX11_report_26 (by decide) ?_
  refine lv_icmp_eq (tgt := 85) hx hb dX11_report_27 (by decide) (fun c_15 => ?_) (fun c_15 => ?_)
  · exact J85 r_13 w_14 _ _ ls hW_w_14 ((Sm.rf.tr hs_w_12 (by decide)).sf (hW_w_12.lt tX_31) ew_14 (by decide)) (In_w (R_eq_l i_r_13 (In_lit (n := (-1)) (by decide) (by decide) : In (-1) (-1) (-1)) c_15 (by decide) : In (-1) (-1) r_13) (by decide) : In (-1) 3 r_13) (fI_eq (hW_w_12.lt tX_31) ew_14 (hW_w_12.ll tX_31 (Nat.le_of_ble_eq_true rfl))) (fun hL => (LD_cg (aF_cg (st_ne ew_14 (by decide))) (aF_cg (st_ne ew_14 (by decide))) (LD_cg (hs_w_12.hA (by decide)) (hs_w_12.hA (by decide)) hL))) hP hD hS (lv_sub hl [1, 2, 3, 4, 5, 6, 0] rfl)
  · refine lv_iload_n hx hb dX11_report_30 rfl (lv_at hl 2 rfl) ?_
    refine lv_iconst (v := 0) hx hb dX11_report_31 (by decide) ?_
    refine lv_sipush (v := 9999) hx hb dX11_report_32 (by decide) ?_
    refine kW_i ⟨rfl, rfl⟩ hP hD hS hA (rW_S (As := [.int p1, .int 0, .int 9999]) (rest := []) hx hb hml hown hts hK hE hP hD (k_X11_within l D cI cJ cZ q 1 16 bp w_14 hW_w_14 p1 0 9999 (In_lit (n := 0) (by decide) (by decide) : In 0 278 0) (In_lit (n := 9999) (by decide) (by decide) : In 2 100000 9999) _) ⟨⟨rfl, rfl⟩, rfl, rfl⟩ sv_X11_168 ⟨(Nat.le_trans (by decide) hR.1), (Nat.le_trans (by decide) hR.2)⟩ rfl hl.1 rfl (Nat.le_of_ble_eq_true rfl) dX11_report_35) (fun r_17 w_16 H locs hw_w_16 hP hD hS => ?_)
    obtain ⟨hW_w_16, hs_w_16, i_r_17, h_18, h_19⟩ := hw_w_16
    refine lv_if_eq (tgt := 85) hx hb dX11_report_38 (by decide) (fun c_20 => ?_) (fun c_20 => ?_)
    · exact J85 r_13 w_16 _ _ ls hW_w_16 (((Sm.rf.tr hs_w_12 (by decide)).sf (hW_w_12.lt tX_31) ew_14 (by decide)).tr hs_w_16 (by decide)) (In_w (R_ne_l i_r_13 (In_lit (n := (-1)) (by decide) (by decide) : In (-1) (-1) (-1)) c_15 (by decide) : In 0 3 r_13) (by decide) : In (-1) 3 r_13) ((hs_w_16.gI (by decide)).trans (fI_eq (hW_w_12.lt tX_31) ew_14 (hW_w_12.ll tX_31 (Nat.le_of_ble_eq_true rfl)))) (fun hL => (LD_cg (hs_w_16.hA (by decide)) (hs_w_16.hA (by decide)) (LD_cg (aF_cg (st_ne ew_14 (by decide))) (aF_cg (st_ne ew_14 (by decide))) (LD_cg (hs_w_12.hA (by decide)) (hs_w_12.hA (by decide)) hL)))) hP hD hS (lv_sub hl [1, 2, 3, 4, 5, 6, 0] rfl)
    · refine lv_iload_n hx hb dX11_report_41 rfl (lv_at hl 3 rfl) ?_
      refine lv_iconst (v := 0) hx hb dX11_report_42 (by decide) ?_
      refine lv_bipush (v := 17) hx hb dX11_report_43 (by decide) ?_
      refine kW_i ⟨rfl, rfl⟩ hP hD hS hA (rW_S (As := [.int p2, .int 0, .int 17]) (rest := []) hx hb hml hown hts hK hE hP hD (k_X11_within l D cI cJ cZ q 1 16 bp w_16 hW_w_16 p2 0 17 (In_lit (n := 0) (by decide) (by decide) : In 0 278 0) (In_lit (n := 17) (by decide) (by decide) : In 2 100000 17) _) ⟨⟨rfl, rfl⟩, rfl, rfl⟩ sv_X11_168 ⟨(Nat.le_trans (by decide) hR.1), (Nat.le_trans (by decide) hR.2)⟩ rfl hl.1 rfl (Nat.le_of_ble_eq_true rfl) dX11_report_45) (fun r_22 w_21 H locs hw_w_21 hP hD hS => ?_)
      obtain ⟨hW_w_21, hs_w_21, i_r_22, h_23, h_24⟩ := hw_w_21
      refine lv_if_eq (tgt := 85) hx hb dX11_report_48 (by decide) (fun c_25 => ?_) (fun c_25 => ?_)
      · exact J85 r_13 w_21 _ _ ls hW_w_21 ((((Sm.rf.tr hs_w_12 (by decide)).sf (hW_w_12.lt tX_31) ew_14 (by decide)).tr hs_w_16 (by decide)).tr hs_w_21 (by decide)) (In_w (R_ne_l i_r_13 (In_lit (n := (-1)) (by decide) (by decide) : In (-1) (-1) (-1)) c_15 (by decide) : In 0 3 r_13) (by decide) : In (-1) 3 r_13) ((hs_w_21.gI (by decide)).trans ((hs_w_16.gI (by decide)).trans (fI_eq (hW_w_12.lt tX_31) ew_14 (hW_w_12.ll tX_31 (Nat.le_of_ble_eq_true rfl))))) (fun hL => (LD_cg (hs_w_21.hA (by decide)) (hs_w_21.hA (by decide)) (LD_cg (hs_w_16.hA (by decide)) (hs_w_16.hA (by decide)) (LD_cg (aF_cg (st_ne ew_14 (by decide))) (aF_cg (st_ne ew_14 (by decide))) (LD_cg (hs_w_12.hA (by decide)) (hs_w_12.hA (by decide)) hL))))) hP hD hS (lv_sub hl [1, 2, 3, 4, 5, 6, 0] rfl)
      · refine lv_iload_n hx hb dX11_report_51 rfl (lv_at hl 4 rfl) ?_
        refine lv_iconst (v := 0) hx hb dX11_report_52 (by decide) ?_
        refine lv_bipush (v := 99) hx hb dX11_report_53 (by decide) ?_
        refine kW_i ⟨rfl, rfl⟩ hP hD hS hA (rW_S (As := [.int p3, .int 0, .int 99]) (rest := []) hx hb hml hown hts hK hE hP hD (k_X11_within l D cI cJ cZ q 1 16 bp w_21 hW_w_21 p3 0 99 (In_lit (n := 0) (by decide) (by decide) : In 0 278 0) (In_lit (n := 99) (by decide) (by decide) : In 2 100000 99) _) ⟨⟨rfl, rfl⟩, rfl, rfl⟩ sv_X11_168 ⟨(Nat.le_trans (by decide) hR.1), (Nat.le_trans (by decide) hR.2)⟩ rfl hl.1 rfl (Nat.le_of_ble_eq_true rfl) dX11_report_55) (fun r_27 w_26 H locs hw_w_26 hP hD hS => ?_)
        obtain ⟨hW_w_26, hs_w_26, i_r_27, h_28, h_29⟩ := hw_w_26
        refine lv_if_eq (tgt := 85) hx hb dX11_report_58 (by decide) (fun c_30 => ?_) (fun c_30 => ?_)
        · exact J85 r_13 w_26 _ _ ls hW_w_26 (((((Sm.rf.tr hs_w_12 (by decide)).sf (hW_w_12.lt tX_31) ew_14 (by decide)).tr hs_w_16 (by decide)).tr hs_w_21 (by decide)).tr hs_w_26 (by decide)) (In_w (R_ne_l i_r_13 (In_lit (n := (-1)) (by decide) (by decide) : In (-1) (-1) (-1)) c_15 (by decide) : In 0 3 r_13) (by decide) : In (-1) 3 r_13) ((hs_w_26.gI (by decide)).trans ((hs_w_21.gI (by decide)).trans ((hs_w_16.gI (by decide)).trans (fI_eq (hW_w_12.lt tX_31) ew_14 (hW_w_12.ll tX_31 (Nat.le_of_ble_eq_true rfl)))))) (fun hL => (LD_cg (hs_w_26.hA (by decide)) (hs_w_26.hA (by decide)) (LD_cg (hs_w_21.hA (by decide)) (hs_w_21.hA (by decide)) (LD_cg (hs_w_16.hA (by decide)) (hs_w_16.hA (by decide)) (LD_cg (aF_cg (st_ne ew_14 (by decide))) (aF_cg (st_ne ew_14 (by decide))) (LD_cg (hs_w_12.hA (by decide)) (hs_w_12.hA (by decide)) hL)))))) hP hD hS (lv_sub hl [1, 2, 3, 4, 5, 6, 0] rfl)
        · refine lv_iload hx hb dX11_report_61 (lv_at hl 5 rfl) ?_
          refine lv_iconst (v := 0) hx hb dX11_report_63 (by decide) ?_
          refine lv_sipush (v := 999) hx hb dX11_report_64 (by decide) ?_
          refine kW_i ⟨rfl, rfl⟩ hP hD hS hA (rW_S (As := [.int p4, .int 0, .int 999]) (rest := []) hx hb hml hown hts hK hE hP hD (k_X11_within l D cI cJ cZ q 1 16 bp w_26 hW_w_26 p4 0 999 (In_lit (n := 0) (by decide) (by decide) : In 0 278 0) (In_lit (n := 999) (by decide) (by decide) : In 2 100000 999) _) ⟨⟨rfl, rfl⟩, rfl, rfl⟩ sv_X11_168 ⟨(Nat.le_trans (by decide) hR.1), (Nat.le_trans (by decide) hR.2)⟩ rfl hl.1 rfl (Nat.le_of_ble_eq_true rfl) dX11_report_67) (fun r_32 w_31 H locs hw_w_31 hP hD hS => ?_)
          obtain ⟨hW_w_31, hs_w_31, i_r_32, h_33, h_34⟩ := hw_w_31
          refine lv_if_eq (tgt := 85) hx hb dX11_report_70 (by decide) (fun c_35 => ?_) (fun c_35 => ?_)
          · exact J85 r_13 w_31 _ _ ls hW_w_31 ((((((Sm.rf.tr hs_w_12 (by decide)).sf (hW_w_12.lt tX_31) ew_14 (by decide)).tr hs_w_16 (by decide)).tr hs_w_21 (by decide)).tr hs_w_26 (by decide)).tr hs_w_31 (by decide)) (In_w (R_ne_l i_r_13 (In_lit (n := (-1)) (by decide) (by decide) : In (-1) (-1) (-1)) c_15 (by decide) : In 0 3 r_13) (by decide) : In (-1) 3 r_13) ((hs_w_31.gI (by decide)).trans ((hs_w_26.gI (by decide)).trans ((hs_w_21.gI (by decide)).trans ((hs_w_16.gI (by decide)).trans (fI_eq (hW_w_12.lt tX_31) ew_14 (hW_w_12.ll tX_31 (Nat.le_of_ble_eq_true rfl))))))) (fun hL => (LD_cg (hs_w_31.hA (by decide)) (hs_w_31.hA (by decide)) (LD_cg (hs_w_26.hA (by decide)) (hs_w_26.hA (by decide)) (LD_cg (hs_w_21.hA (by decide)) (hs_w_21.hA (by decide)) (LD_cg (hs_w_16.hA (by decide)) (hs_w_16.hA (by decide)) (LD_cg (aF_cg (st_ne ew_14 (by decide))) (aF_cg (st_ne ew_14 (by decide))) (LD_cg (hs_w_12.hA (by decide)) (hs_w_12.hA (by decide)) hL))))))) hP hD hS (lv_sub hl [1, 2, 3, 4, 5, 6, 0] rfl)
          · refine lv_iload hx hb dX11_report_73 (lv_at hl 6 rfl) ?_
            refine kW_i ⟨rfl, rfl⟩ hP hD hS hA (rW_S (As := [.int p5]) (rest := []) hx hb hml hown hts hK hE hP hD (k_X11_isDay l D cI cJ cZ q 1 16 bp w_31 hW_w_31 p5 _) ⟨⟨rfl, rfl⟩, rfl, rfl⟩ sv_X11_172 ⟨(Nat.le_trans (by decide) hR.1), (Nat.le_trans (by decide) hR.2)⟩ rfl hl.1 rfl (Nat.le_of_ble_eq_true rfl) dX11_report_75) (fun r_37 w_36 H locs hw_w_36 hP hD hS => ?_)
            obtain ⟨hW_w_36, hs_w_36, i_r_37, h_38⟩ := hw_w_36
            refine lv_if_eq (tgt := 85) hx hb dX11_report_78 (by decide) (fun c_39 => ?_) (fun c_39 => ?_)
            · exact J85 r_13 w_36 _ _ ls hW_w_36 (((((((Sm.rf.tr hs_w_12 (by decide)).sf (hW_w_12.lt tX_31) ew_14 (by decide)).tr hs_w_16 (by decide)).tr hs_w_21 (by decide)).tr hs_w_26 (by decide)).tr hs_w_31 (by decide)).tr hs_w_36 (by decide)) (In_w (R_ne_l i_r_13 (In_lit (n := (-1)) (by decide) (by decide) : In (-1) (-1) (-1)) c_15 (by decide) : In 0 3 r_13) (by decide) : In (-1) 3 r_13) ((hs_w_36.gI (by decide)).trans ((hs_w_31.gI (by decide)).trans ((hs_w_26.gI (by decide)).trans ((hs_w_21.gI (by decide)).trans ((hs_w_16.gI (by decide)).trans (fI_eq (hW_w_12.lt tX_31) ew_14 (hW_w_12.ll tX_31 (Nat.le_of_ble_eq_true rfl)))))))) (fun hL => (LD_cg (hs_w_36.hA (by decide)) (hs_w_36.hA (by decide)) (LD_cg (hs_w_31.hA (by decide)) (hs_w_31.hA (by decide)) (LD_cg (hs_w_26.hA (by decide)) (hs_w_26.hA (by decide)) (LD_cg (hs_w_21.hA (by decide)) (hs_w_21.hA (by decide)) (LD_cg (hs_w_16.hA (by decide)) (hs_w_16.hA (by decide)) (LD_cg (aF_cg (st_ne ew_14 (by decide))) (aF_cg (st_ne ew_14 (by decide))) (LD_cg (hs_w_12.hA (by decide)) (hs_w_12.hA (by decide)) hL)))))))) hP hD hS (lv_sub hl [1, 2, 3, 4, 5, 6, 0] rfl)
            · refine lv_iconst (v := 1) hx hb dX11_report_81 (by decide) ?_
              refine lv_goto (tgt := 86) hx hb dX11_report_82 (by decide) ?_
              exact J86 r_13 1 w_36 _ _ ls hW_w_36 (((((((Sm.rf.tr hs_w_12 (by decide)).sf (hW_w_12.lt tX_31) ew_14 (by decide)).tr hs_w_16 (by decide)).tr hs_w_21 (by decide)).tr hs_w_26 (by decide)).tr hs_w_31 (by decide)).tr hs_w_36 (by decide)) (In_w (R_ne_l i_r_13 (In_lit (n := (-1)) (by decide) (by decide) : In (-1) (-1) (-1)) c_15 (by decide) : In 0 3 r_13) (by decide) : In (-1) 3 r_13) (In_lit (n := 1) (by decide) (by decide) : In 0 1 1) ((hs_w_36.gI (by decide)).trans ((hs_w_31.gI (by decide)).trans ((hs_w_26.gI (by decide)).trans ((hs_w_21.gI (by decide)).trans ((hs_w_16.gI (by decide)).trans (fI_eq (hW_w_12.lt tX_31) ew_14 (hW_w_12.ll tX_31 (Nat.le_of_ble_eq_true rfl)))))))) (fun hL => (LD_cg (hs_w_36.hA (by decide)) (hs_w_36.hA (by decide)) (LD_cg (hs_w_31.hA (by decide)) (hs_w_31.hA (by decide)) (LD_cg (hs_w_26.hA (by decide)) (hs_w_26.hA (by decide)) (LD_cg (hs_w_21.hA (by decide)) (hs_w_21.hA (by decide)) (LD_cg (hs_w_16.hA (by decide)) (hs_w_16.hA (by decide)) (LD_cg (aF_cg (st_ne ew_14 (by decide))) (aF_cg (st_ne ew_14 (by decide))) (LD_cg (hs_w_12.hA (by decide)) (hs_w_12.hA (by decide)) hL)))))))) hP hD hS (lv_sub hl [1, 2, 3, 4, 5, 6, 0] rfl)
set_option maxRecDepth 100000 in
set_option maxHeartbeats 8000000 in
theorem k_X11_gifts (l : Launch) (D : va_G) (cI cJ cZ : ClassId) (q : Nat → Nat) (bp : Nat) (w : va_W) (hW_w : HT q (TX q cI cJ cZ 1 16 bp) w) (p1 : Int32) (p2 : Int32) (p3 : Int32) : Con_i l yX11_gifts cX11_gifts 4 (some .int) ({ frames := 2, cells := 0, slots := 0, locals := 42 }) D cI cJ cZ eW [.ref (q 0), .int p1, .int p2, .int p3] w (fun (r : Int32) (w1 : va_W) => HT q (TX q cI cJ cZ 1 16 bp) w1 ∧ Sm [35, 36, 37, 39, 40] [(35, 0)] w w1 ∧ In (-1) 200 r ∧ ((LD w → LD w1))) := by
  refine eQ_i rfl (by decide) (Nat.le_of_ble_eq_true rfl) ⟨rfl, rfl⟩ ?_
  intro p e R s m args below meth c A Q hx hb hml hown hts hK hE hA hR hret hP hD hS ls hl
  have hown : s.vm.findClass RX11 = some m.cls := hown
  have hl : lv_has ls 4 [(0, .ref (q 0)), (1, .int p1), (2, .int p2), (3, .int p3)] := hl
  refine lv_aload_n hx hb dX11_gifts_0 rfl (lv_at hl 0 rfl) ?_
  refine lv_iload_n hx hb dX11_gifts_1 rfl (lv_at hl 1 rfl) ?_
  refine kW_i ⟨rfl, rfl⟩ hP hD hS hA (rW_V (As := [.int p1]) (rest := []) hx hb hml hown hts hK hE hP hD (k_X11_isKind l D cI cJ cZ q bp w hW_w p1 _) ⟨⟨rfl, rfl⟩, rfl, rfl⟩ sv_X11_154 ⟨(Nat.le_trans (by decide) hR.1), (Nat.le_trans (by decide) hR.2)⟩ 0 11 (hW_w.o tX_0) rfl rfl rfl hl.1 rfl (Nat.le_of_ble_eq_true rfl) dX11_gifts_2) (fun r_2 w_1 H locs hw_w_1 hP hD hS => ?_)
  obtain ⟨hW_w_1, hs_w_1, i_r_2, h_3⟩ := hw_w_1
  refine lv_if_eq (tgt := 35) hx hb dX11_gifts_5 (by decide) (fun c_4 => ?_) (fun c_4 => ?_)
  · refine lv_iconst (v := (-1)) hx hb dX11_gifts_35 (by decide) ?_
    exact hret _ _ _ _ _ _ hP hD hS dX11_gifts_36 ⟨hW_w_1, (Sm.rf.tr hs_w_1 (by decide)), (In_lit (n := (-1)) (by decide) (by decide) : In (-1) 200 (-1)), (fun hL => (LD_cg (hs_w_1.hA (by decide)) (hs_w_1.hA (by decide)) hL))⟩
  · refine lv_iload_n hx hb dX11_gifts_8 rfl (lv_at hl 2 rfl) ?_
    refine kW_i ⟨rfl, rfl⟩ hP hD hS hA (rW_S (As := [.int p2]) (rest := []) hx hb hml hown hts hK hE hP hD (k_X11_isDay l D cI cJ cZ q 1 16 bp w_1 hW_w_1 p2 _) ⟨⟨rfl, rfl⟩, rfl, rfl⟩ sv_X11_172 ⟨(Nat.le_trans (by decide) hR.1), (Nat.le_trans (by decide) hR.2)⟩ rfl hl.1 rfl (Nat.le_of_ble_eq_true rfl) dX11_gifts_9) (fun r_6 w_5 H locs hw_w_5 hP hD hS => ?_)
    obtain ⟨hW_w_5, hs_w_5, i_r_6, h_7⟩ := hw_w_5
    refine lv_if_eq (tgt := 35) hx hb dX11_gifts_12 (by decide) (fun c_8 => ?_) (fun c_8 => ?_)
    · refine lv_iconst (v := (-1)) hx hb dX11_gifts_35 (by decide) ?_
      exact hret _ _ _ _ _ _ hP hD hS dX11_gifts_36 ⟨hW_w_5, ((Sm.rf.tr hs_w_1 (by decide)).tr hs_w_5 (by decide)), (In_lit (n := (-1)) (by decide) (by decide) : In (-1) 200 (-1)), (fun hL => (LD_cg (hs_w_5.hA (by decide)) (hs_w_5.hA (by decide)) (LD_cg (hs_w_1.hA (by decide)) (hs_w_1.hA (by decide)) hL)))⟩
    · refine lv_iload_n hx hb dX11_gifts_15 rfl (lv_at hl 3 rfl) ?_
      refine lv_iconst (v := 1) hx hb dX11_gifts_16 (by decide) ?_
      refine lv_bipush (v := 99) hx hb dX11_gifts_17 (by decide) ?_
      refine kW_i ⟨rfl, rfl⟩ hP hD hS hA (rW_S (As := [.int p3, .int 1, .int 99]) (rest := []) hx hb hml hown hts hK hE hP hD (k_X11_within l D cI cJ cZ q 1 16 bp w_5 hW_w_5 p3 1 99 (In_lit (n := 1) (by decide) (by decide) : In 0 278 1) (In_lit (n := 99) (by decide) (by decide) : In 2 100000 99) _) ⟨⟨rfl, rfl⟩, rfl, rfl⟩ sv_X11_168 ⟨(Nat.le_trans (by decide) hR.1), (Nat.le_trans (by decide) hR.2)⟩ rfl hl.1 rfl (Nat.le_of_ble_eq_true rfl) dX11_gifts_19) (fun r_10 w_9 H locs hw_w_9 hP hD hS => ?_)
      obtain ⟨hW_w_9, hs_w_9, i_r_10, h_11, h_12⟩ := hw_w_9
      refine lv_if_eq (tgt := 35) hx hb dX11_gifts_22 (by decide) (fun c_13 => ?_) (fun c_13 => ?_)
      · refine lv_iconst (v := (-1)) hx hb dX11_gifts_35 (by decide) ?_
        exact hret _ _ _ _ _ _ hP hD hS dX11_gifts_36 ⟨hW_w_9, (((Sm.rf.tr hs_w_1 (by decide)).tr hs_w_5 (by decide)).tr hs_w_9 (by decide)), (In_lit (n := (-1)) (by decide) (by decide) : In (-1) 200 (-1)), (fun hL => (LD_cg (hs_w_9.hA (by decide)) (hs_w_9.hA (by decide)) (LD_cg (hs_w_5.hA (by decide)) (hs_w_5.hA (by decide)) (LD_cg (hs_w_1.hA (by decide)) (hs_w_1.hA (by decide)) hL))))⟩
      · refine lv_aload_n hx hb dX11_gifts_25 rfl (lv_at hl 0 rfl) ?_
        refine gt_X11 hx hb hts hown hK hP 0 (hW_w_9.o tX_0) 4 (by decide) wd_677 rfl (hW_w_9.fr tX_0 rfl) dX11_gifts_26 ?_
        refine kW_i ⟨rfl, rfl⟩ hP hD hS hA (rW_V (As := []) (rest := []) hx hb hml hown hts hK hE hP hD (k_X7_isFull l D cI cJ cZ q 1 16 bp w_9 hW_w_9  _) ⟨⟨rfl, rfl⟩, rfl, rfl⟩ sv_X11_178 ⟨(Nat.le_trans (by decide) hR.1), (Nat.le_trans (by decide) hR.2)⟩ 35 7 (hW_w_9.o tX_35) rfl rfl rfl hl.1 rfl (Nat.le_of_ble_eq_true rfl) dX11_gifts_29) (fun r_15 w_14 H locs hw_w_14 hP hD hS => ?_)
        obtain ⟨hW_w_14, hs_w_14, i_r_15, h_16, h_17⟩ := hw_w_14
        refine lv_if_eq (tgt := 37) hx hb dX11_gifts_32 (by decide) (fun c_18 => ?_) (fun c_18 => ?_)
        · refine lv_aload_n hx hb dX11_gifts_37 rfl (lv_at hl 0 rfl) ?_
          refine gt_X11 hx hb hts hown hK hP 0 (hW_w_14.o tX_0) 4 (by decide) wd_677 rfl (hW_w_14.fr tX_0 rfl) dX11_gifts_38 ?_
          refine lv_iconst (v := 2) hx hb dX11_gifts_41 (by decide) ?_
          refine lv_iload_n hx hb dX11_gifts_42 rfl (lv_at hl 1 rfl) ?_
          refine lv_iload_n hx hb dX11_gifts_43 rfl (lv_at hl 2 rfl) ?_
          refine lv_iload_n hx hb dX11_gifts_44 rfl (lv_at hl 3 rfl) ?_
          refine kW_i ⟨rfl, rfl⟩ hP hD hS hA (rW_V (As := [.int 2, .int p1, .int p2, .int p3]) (rest := []) hx hb hml hown hts hK hE hP hD (k_X7_add l D cI cJ cZ q 1 16 bp w_14 hW_w_14 2 p1 p2 p3 (In_lit (n := 2) (by decide) (by decide) : In 1 4 2) (In_of ((hs_w_14.gI (by decide)).trans ((hs_w_9.gI (by decide)).trans ((hs_w_5.gI (by decide)).trans (hs_w_1.gI (by decide))))) (In_of ((hs_w_14.gI (by decide)).trans ((hs_w_9.gI (by decide)).trans ((hs_w_5.gI (by decide)).trans (hs_w_1.gI (by decide))))).symm (h_16 c_18))) _) ⟨⟨rfl, rfl⟩, rfl, rfl⟩ sv_X11_186 ⟨(Nat.le_trans (by decide) hR.1), (Nat.le_trans (by decide) hR.2)⟩ 35 7 (hW_w_14.o tX_35) rfl rfl rfl hl.1 rfl (Nat.le_of_ble_eq_true rfl) dX11_gifts_45) (fun r_20 w_19 H locs hw_w_19 hP hD hS => ?_)
          obtain ⟨hW_w_19, hs_w_19, i_r_20, h_21, h_22⟩ := hw_w_19
          exact hret _ _ _ _ _ _ hP hD hS dX11_gifts_48 ⟨hW_w_19, (((((Sm.rf.tr hs_w_1 (by decide)).tr hs_w_5 (by decide)).tr hs_w_9 (by decide)).tr hs_w_14 (by decide)).tr hs_w_19 (by decide)), (In_w i_r_20 (by decide) : In (-1) 200 r_20), (fun hL => (h_22 (LD_cg (hs_w_14.hA (by decide)) (hs_w_14.hA (by decide)) (LD_cg (hs_w_9.hA (by decide)) (hs_w_9.hA (by decide)) (LD_cg (hs_w_5.hA (by decide)) (hs_w_5.hA (by decide)) (LD_cg (hs_w_1.hA (by decide)) (hs_w_1.hA (by decide)) hL)))) ⟨(fun _ => ⟨(h_3 c_4).2, (In_w (h_7 c_8) (by decide) : In 0 24 p2)⟩), (fun q => absurd q (by decide))⟩))⟩
        · refine lv_iconst (v := (-1)) hx hb dX11_gifts_35 (by decide) ?_
          exact hret _ _ _ _ _ _ hP hD hS dX11_gifts_36 ⟨hW_w_14, ((((Sm.rf.tr hs_w_1 (by decide)).tr hs_w_5 (by decide)).tr hs_w_9 (by decide)).tr hs_w_14 (by decide)), (In_lit (n := (-1)) (by decide) (by decide) : In (-1) 200 (-1)), (fun hL => (LD_cg (hs_w_14.hA (by decide)) (hs_w_14.hA (by decide)) (LD_cg (hs_w_9.hA (by decide)) (hs_w_9.hA (by decide)) (LD_cg (hs_w_5.hA (by decide)) (hs_w_5.hA (by decide)) (LD_cg (hs_w_1.hA (by decide)) (hs_w_1.hA (by decide)) hL)))))⟩
set_option maxRecDepth 100000 in
set_option maxHeartbeats 8000000 in
theorem k_X11_call (l : Launch) (D : va_G) (cI cJ cZ : ClassId) (q : Nat → Nat) (bp : Nat) (w : va_W) (hW_w : HT q (TX q cI cJ cZ 1 16 bp) w) (p1 : Int32) (p2 : Int32) : Con_i l yX11_call cX11_call 3 (some .int) ({ frames := 2, cells := 0, slots := 0, locals := 42 }) D cI cJ cZ eW [.ref (q 0), .int p1, .int p2] w (fun (r : Int32) (w1 : va_W) => HT q (TX q cI cJ cZ 1 16 bp) w1 ∧ Sm [35, 36, 37, 39, 40] [(35, 0)] w w1 ∧ In (-1) 200 r ∧ ((LD w → LD w1))) := by
  refine eQ_i rfl (by decide) (Nat.le_of_ble_eq_true rfl) ⟨rfl, rfl⟩ ?_
  intro p e R s m args below meth c A Q hx hb hml hown hts hK hE hA hR hret hP hD hS ls hl
  have hown : s.vm.findClass RX11 = some m.cls := hown
  have hl : lv_has ls 3 [(0, .ref (q 0)), (1, .int p1), (2, .int p2)] := hl
  refine lv_aload_n hx hb dX11_call_0 rfl (lv_at hl 0 rfl) ?_
  refine lv_iload_n hx hb dX11_call_1 rfl (lv_at hl 1 rfl) ?_
  refine kW_i ⟨rfl, rfl⟩ hP hD hS hA (rW_V (As := [.int p1]) (rest := []) hx hb hml hown hts hK hE hP hD (k_X11_isKind l D cI cJ cZ q bp w hW_w p1 _) ⟨⟨rfl, rfl⟩, rfl, rfl⟩ sv_X11_154 ⟨(Nat.le_trans (by decide) hR.1), (Nat.le_trans (by decide) hR.2)⟩ 0 11 (hW_w.o tX_0) rfl rfl rfl hl.1 rfl (Nat.le_of_ble_eq_true rfl) dX11_call_2) (fun r_2 w_1 H locs hw_w_1 hP hD hS => ?_)
  obtain ⟨hW_w_1, hs_w_1, i_r_2, h_3⟩ := hw_w_1
  refine lv_if_eq (tgt := 25) hx hb dX11_call_5 (by decide) (fun c_4 => ?_) (fun c_4 => ?_)
  · refine lv_iconst (v := (-1)) hx hb dX11_call_25 (by decide) ?_
    exact hret _ _ _ _ _ _ hP hD hS dX11_call_26 ⟨hW_w_1, (Sm.rf.tr hs_w_1 (by decide)), (In_lit (n := (-1)) (by decide) (by decide) : In (-1) 200 (-1)), (fun hL => (LD_cg (hs_w_1.hA (by decide)) (hs_w_1.hA (by decide)) hL))⟩
  · refine lv_iload_n hx hb dX11_call_8 rfl (lv_at hl 2 rfl) ?_
    refine kW_i ⟨rfl, rfl⟩ hP hD hS hA (rW_S (As := [.int p2]) (rest := []) hx hb hml hown hts hK hE hP hD (k_X11_isDay l D cI cJ cZ q 1 16 bp w_1 hW_w_1 p2 _) ⟨⟨rfl, rfl⟩, rfl, rfl⟩ sv_X11_172 ⟨(Nat.le_trans (by decide) hR.1), (Nat.le_trans (by decide) hR.2)⟩ rfl hl.1 rfl (Nat.le_of_ble_eq_true rfl) dX11_call_9) (fun r_6 w_5 H locs hw_w_5 hP hD hS => ?_)
    obtain ⟨hW_w_5, hs_w_5, i_r_6, h_7⟩ := hw_w_5
    refine lv_if_eq (tgt := 25) hx hb dX11_call_12 (by decide) (fun c_8 => ?_) (fun c_8 => ?_)
    · refine lv_iconst (v := (-1)) hx hb dX11_call_25 (by decide) ?_
      exact hret _ _ _ _ _ _ hP hD hS dX11_call_26 ⟨hW_w_5, ((Sm.rf.tr hs_w_1 (by decide)).tr hs_w_5 (by decide)), (In_lit (n := (-1)) (by decide) (by decide) : In (-1) 200 (-1)), (fun hL => (LD_cg (hs_w_5.hA (by decide)) (hs_w_5.hA (by decide)) (LD_cg (hs_w_1.hA (by decide)) (hs_w_1.hA (by decide)) hL)))⟩
    · refine lv_aload_n hx hb dX11_call_15 rfl (lv_at hl 0 rfl) ?_
      refine gt_X11 hx hb hts hown hK hP 0 (hW_w_5.o tX_0) 4 (by decide) wd_677 rfl (hW_w_5.fr tX_0 rfl) dX11_call_16 ?_
      refine kW_i ⟨rfl, rfl⟩ hP hD hS hA (rW_V (As := []) (rest := []) hx hb hml hown hts hK hE hP hD (k_X7_isFull l D cI cJ cZ q 1 16 bp w_5 hW_w_5  _) ⟨⟨rfl, rfl⟩, rfl, rfl⟩ sv_X11_178 ⟨(Nat.le_trans (by decide) hR.1), (Nat.le_trans (by decide) hR.2)⟩ 35 7 (hW_w_5.o tX_35) rfl rfl rfl hl.1 rfl (Nat.le_of_ble_eq_true rfl) dX11_call_19) (fun r_10 w_9 H locs hw_w_9 hP hD hS => ?_)
      obtain ⟨hW_w_9, hs_w_9, i_r_10, h_11, h_12⟩ := hw_w_9
      refine lv_if_eq (tgt := 27) hx hb dX11_call_22 (by decide) (fun c_13 => ?_) (fun c_13 => ?_)
      · refine lv_aload_n hx hb dX11_call_27 rfl (lv_at hl 0 rfl) ?_
        refine gt_X11 hx hb hts hown hK hP 0 (hW_w_9.o tX_0) 4 (by decide) wd_677 rfl (hW_w_9.fr tX_0 rfl) dX11_call_28 ?_
        refine lv_iconst (v := 3) hx hb dX11_call_31 (by decide) ?_
        refine lv_iload_n hx hb dX11_call_32 rfl (lv_at hl 1 rfl) ?_
        refine lv_iload_n hx hb dX11_call_33 rfl (lv_at hl 2 rfl) ?_
        refine lv_iconst (v := 0) hx hb dX11_call_34 (by decide) ?_
        refine kW_i ⟨rfl, rfl⟩ hP hD hS hA (rW_V (As := [.int 3, .int p1, .int p2, .int 0]) (rest := []) hx hb hml hown hts hK hE hP hD (k_X7_add l D cI cJ cZ q 1 16 bp w_9 hW_w_9 3 p1 p2 0 (In_lit (n := 3) (by decide) (by decide) : In 1 4 3) (In_of ((hs_w_9.gI (by decide)).trans ((hs_w_5.gI (by decide)).trans (hs_w_1.gI (by decide)))) (In_of ((hs_w_9.gI (by decide)).trans ((hs_w_5.gI (by decide)).trans (hs_w_1.gI (by decide)))).symm (h_11 c_13))) _) ⟨⟨rfl, rfl⟩, rfl, rfl⟩ sv_X11_186 ⟨(Nat.le_trans (by decide) hR.1), (Nat.le_trans (by decide) hR.2)⟩ 35 7 (hW_w_9.o tX_35) rfl rfl rfl hl.1 rfl (Nat.le_of_ble_eq_true rfl) dX11_call_35) (fun r_15 w_14 H locs hw_w_14 hP hD hS => ?_)
        obtain ⟨hW_w_14, hs_w_14, i_r_15, h_16, h_17⟩ := hw_w_14
        exact hret _ _ _ _ _ _ hP hD hS dX11_call_38 ⟨hW_w_14, ((((Sm.rf.tr hs_w_1 (by decide)).tr hs_w_5 (by decide)).tr hs_w_9 (by decide)).tr hs_w_14 (by decide)), (In_w i_r_15 (by decide) : In (-1) 200 r_15), (fun hL => (h_17 (LD_cg (hs_w_9.hA (by decide)) (hs_w_9.hA (by decide)) (LD_cg (hs_w_5.hA (by decide)) (hs_w_5.hA (by decide)) (LD_cg (hs_w_1.hA (by decide)) (hs_w_1.hA (by decide)) hL))) ⟨(fun q => absurd q (by decide)), (fun _ => (h_3 c_4).2)⟩))⟩
      · refine lv_iconst (v := (-1)) hx hb dX11_call_25 (by decide) ?_
        exact hret _ _ _ _ _ _ hP hD hS dX11_call_26 ⟨hW_w_9, (((Sm.rf.tr hs_w_1 (by decide)).tr hs_w_5 (by decide)).tr hs_w_9 (by decide)), (In_lit (n := (-1)) (by decide) (by decide) : In (-1) 200 (-1)), (fun hL => (LD_cg (hs_w_9.hA (by decide)) (hs_w_9.hA (by decide)) (LD_cg (hs_w_5.hA (by decide)) (hs_w_5.hA (by decide)) (LD_cg (hs_w_1.hA (by decide)) (hs_w_1.hA (by decide)) hL))))⟩
set_option maxRecDepth 100000 in
set_option maxHeartbeats 8000000 in
theorem k_X7_addVoid (l : Launch) (D : va_G) (cI cJ cZ : ClassId) (q : Nat → Nat) (bb bs bp : Nat) (w : va_W) (hW_w : HT q (TX q cI cJ cZ bb bs bp) w) (p1 : Int32) (i_p1 : In 1 200 p1) (hf_35_0 : In 1 199 (fI w 35 0)) : Con_i l yX7_addVoid cX7_addVoid 3 (some .int) ({ frames := 1, cells := 0, slots := 0, locals := 24 }) D cI cJ cZ eW [.ref (q 35), .int p1] w (fun (r : Int32) (w1 : va_W) => HT q (TX q cI cJ cZ bb bs bp) w1 ∧ Sm [35, 36, 37, 39, 40] [(35, 0)] w w1 ∧ In 1 200 r ∧ In 1 200 (fI w1 35 0) ∧ ((LD w → LD w1))) := by
  refine eQ_i rfl (by decide) (Nat.le_of_ble_eq_true rfl) ⟨rfl, rfl⟩ ?_
  intro p e R s m args below meth c A Q hx hb hml hown hts hK hE hA hR hret hP hD hS ls hl
  have hown : s.vm.findClass RX7 = some m.cls := hown
  have hl : lv_has ls 3 [(0, .ref (q 35)), (1, .int p1)] := hl
  refine lv_aload_n hx hb dX7_addVoid_0 rfl (lv_at hl 0 rfl) ?_
  refine lv_iconst (v := 4) hx hb dX7_addVoid_1 (by decide) ?_
  refine lv_iload_n hx hb dX7_addVoid_2 rfl (lv_at hl 1 rfl) ?_
  refine lv_iconst (v := 0) hx hb dX7_addVoid_3 (by decide) ?_
  refine lv_iconst (v := 0) hx hb dX7_addVoid_4 (by decide) ?_
  refine kW_i ⟨rfl, rfl⟩ hP hD hS hA (rW_V (As := [.int 4, .int p1, .int 0, .int 0]) (rest := []) hx hb hml hown hts hK hE hP hD (k_X7_add l D cI cJ cZ q bb bs bp w hW_w 4 p1 0 0 (In_lit (n := 4) (by decide) (by decide) : In 1 4 4) (In_w hf_35_0 (by decide) : In 0 199 (fI w 35 0)) _) ⟨⟨rfl, rfl⟩, rfl, rfl⟩ sv_X7_38 ⟨(Nat.le_trans (by decide) hR.1), (Nat.le_trans (by decide) hR.2)⟩ 35 7 (hW_w.o tX_35) rfl rfl rfl hl.1 rfl (Nat.le_of_ble_eq_true rfl) dX7_addVoid_5) (fun r_2 w_1 H locs hw_w_1 hP hD hS => ?_)
  obtain ⟨hW_w_1, hs_w_1, i_r_2, h_3, h_4⟩ := hw_w_1
  refine lv_istore_n (lv' := [(2, .int r_2), (0, .ref (q 35)), (1, .int p1)]) hx hb dX7_addVoid_8 rfl hl (by decide) rfl (fun ls hl => ?_)
  refine lv_aload_n hx hb dX7_addVoid_9 rfl (lv_at hl 1 rfl) ?_
  refine gt_X7 hx hb hts hown hK hP 35 (hW_w_1.o tX_35) 6 (by decide) wd_263 rfl (hW_w_1.fr tX_35 rfl) dX7_addVoid_10 ?_
  refine lv_iload_n hx hb dX7_addVoid_13 rfl (lv_at hl 2 rfl) ?_
  refine lv_iload_n hx hb dX7_addVoid_14 rfl (lv_at hl 0 rfl) ?_
  refine va_iast hx hb hK hP hD hS 40 0 (hW_w_1.a tX_40) rfl (in_I i_p1 (by decide)) dX7_addVoid_15 (fun H locs hP hD hS => fr_w (hW_w_1.uA tX_40 (In_w i_r_2 (by decide) : In 0 200 r_2)) hP hD (fun w_5 ew_5 hW_w_5 hP hD => ?_))
  refine lv_iload_n hx hb dX7_addVoid_16 rfl (lv_at hl 0 rfl) ?_
  exact hret _ _ _ _ _ _ hP hD hS dX7_addVoid_17 ⟨hW_w_5, ((Sm.rf.tr hs_w_1 (by decide)).sa ew_5 (by decide)), i_r_2, (In_of (fI_cg (st_ne ew_5 (by decide))) h_3), (fun hL => (LD_cg (aF_cg (st_ne ew_5 (by decide))) (aF_cg (st_ne ew_5 (by decide))) (h_4 hL ⟨(fun q => absurd q (by decide)), (fun q => absurd q (by decide))⟩)))⟩
set_option maxRecDepth 100000 in
set_option maxHeartbeats 8000000 in
theorem k_X11_annul (l : Launch) (D : va_G) (cI cJ cZ : ClassId) (q : Nat → Nat) (bp : Nat) (w : va_W) (hW_w : HT q (TX q cI cJ cZ 1 16 bp) w) (p1 : Int32) : Con_i l yX11_annul cX11_annul 2 (some .int) ({ frames := 2, cells := 0, slots := 0, locals := 46 }) D cI cJ cZ eW [.ref (q 0), .int p1] w (fun (r : Int32) (w1 : va_W) => HT q (TX q cI cJ cZ 1 16 bp) w1 ∧ Sm [35, 36, 37, 39, 40] [(35, 0)] w w1 ∧ In (-1) 200 r ∧ ((LD w → LD w1))) := by
  refine eQ_i rfl (by decide) (Nat.le_of_ble_eq_true rfl) ⟨rfl, rfl⟩ ?_
  intro p e R s m args below meth c A Q hx hb hml hown hts hK hE hA hR hret hP hD hS ls hl
  have hown : s.vm.findClass RX11 = some m.cls := hown
  have hl : lv_has ls 2 [(0, .ref (q 0)), (1, .int p1)] := hl
  refine lv_iload_n hx hb dX11_annul_0 rfl (lv_at hl 1 rfl) ?_
  refine lv_iconst (v := 1) hx hb dX11_annul_1 (by decide) ?_
  refine lv_icmp_lt (tgt := 26) hx hb dX11_annul_2 (by decide) (fun c_1 => ?_) (fun c_1 => ?_)
  · refine lv_iconst (v := (-1)) hx hb dX11_annul_26 (by decide) ?_
    exact hret _ _ _ _ _ _ hP hD hS dX11_annul_27 ⟨hW_w, Sm.rf, (In_lit (n := (-1)) (by decide) (by decide) : In (-1) 200 (-1)), (fun hL => hL)⟩
  · refine lv_iload_n hx hb dX11_annul_5 rfl (lv_at hl 1 rfl) ?_
    refine lv_aload_n hx hb dX11_annul_6 rfl (lv_at hl 0 rfl) ?_
    refine gt_X11 hx hb hts hown hK hP 0 (hW_w.o tX_0) 4 (by decide) wd_677 rfl (hW_w.fr tX_0 rfl) dX11_annul_7 ?_
    refine gt_X7 hx hb hts hown hK hP 35 (hW_w.o tX_35) 0 (by decide) wd_252 rfl (hW_w.fi tX_35 rfl) dX11_annul_10 ?_
    refine lv_icmp_gt (tgt := 26) hx hb dX11_annul_13 (by decide) (fun c_2 => ?_) (fun c_2 => ?_)
    · refine lv_iconst (v := (-1)) hx hb dX11_annul_26 (by decide) ?_
      exact hret _ _ _ _ _ _ hP hD hS dX11_annul_27 ⟨hW_w, Sm.rf, (In_lit (n := (-1)) (by decide) (by decide) : In (-1) 200 (-1)), (fun hL => hL)⟩
    · refine lv_aload_n hx hb dX11_annul_16 rfl (lv_at hl 0 rfl) ?_
      refine gt_X11 hx hb hts hown hK hP 0 (hW_w.o tX_0) 4 (by decide) wd_677 rfl (hW_w.fr tX_0 rfl) dX11_annul_17 ?_
      refine kW_i ⟨rfl, rfl⟩ hP hD hS hA (rW_V (As := []) (rest := []) hx hb hml hown hts hK hE hP hD (k_X7_isFull l D cI cJ cZ q 1 16 bp w hW_w  _) ⟨⟨rfl, rfl⟩, rfl, rfl⟩ sv_X11_178 ⟨(Nat.le_trans (by decide) hR.1), (Nat.le_trans (by decide) hR.2)⟩ 35 7 (hW_w.o tX_35) rfl rfl rfl hl.1 rfl (Nat.le_of_ble_eq_true rfl) dX11_annul_20) (fun r_4 w_3 H locs hw_w_3 hP hD hS => ?_)
      obtain ⟨hW_w_3, hs_w_3, i_r_4, h_5, h_6⟩ := hw_w_3
      refine lv_if_eq (tgt := 28) hx hb dX11_annul_23 (by decide) (fun c_7 => ?_) (fun c_7 => ?_)
      · refine lv_aload_n hx hb dX11_annul_28 rfl (lv_at hl 0 rfl) ?_
        refine gt_X11 hx hb hts hown hK hP 0 (hW_w_3.o tX_0) 4 (by decide) wd_677 rfl (hW_w_3.fr tX_0 rfl) dX11_annul_29 ?_
        refine gt_X7 hx hb hts hown hK hP 35 (hW_w_3.o tX_35) 2 (by decide) wd_257 rfl (hW_w_3.fr tX_35 rfl) dX11_annul_32 ?_
        refine lv_iload_n hx hb dX11_annul_35 rfl (lv_at hl 1 rfl) ?_
        refine va_iald hx hb hK hP 36 0 (hW_w_3.a tX_36) rfl (in_I (R_nlt_r (hW_w.fin tX_35 rfl : In 0 200 (fI w 35 0)) (R_nlt_l (In_any _) (In_lit (n := 1) (by decide) (by decide) : In 1 1 1) c_1 (by decide) : In 1 2147483647 p1) c_2 (by decide) : In 1 200 p1) (by decide)) dX11_annul_36 ?_
        refine lv_topi (fun v_8 ev_8 => ?_)
        refine lv_iconst (v := 4) hx hb dX11_annul_37 (by decide) ?_
        refine lv_icmp_eq (tgt := 53) hx hb dX11_annul_38 (by decide) (fun c_9 => ?_) (fun c_9 => ?_)
        · refine lv_iconst (v := (-1)) hx hb dX11_annul_53 (by decide) ?_
          exact hret _ _ _ _ _ _ hP hD hS dX11_annul_54 ⟨hW_w_3, (Sm.rf.tr hs_w_3 (by decide)), (In_lit (n := (-1)) (by decide) (by decide) : In (-1) 200 (-1)), (fun hL => (LD_cg (hs_w_3.hA (by decide)) (hs_w_3.hA (by decide)) hL))⟩
        · refine lv_aload_n hx hb dX11_annul_41 rfl (lv_at hl 0 rfl) ?_
          refine gt_X11 hx hb hts hown hK hP 0 (hW_w_3.o tX_0) 4 (by decide) wd_677 rfl (hW_w_3.fr tX_0 rfl) dX11_annul_42 ?_
          refine gt_X7 hx hb hts hown hK hP 35 (hW_w_3.o tX_35) 6 (by decide) wd_264 rfl (hW_w_3.fr tX_35 rfl) dX11_annul_45 ?_
          refine lv_iload_n hx hb dX11_annul_48 rfl (lv_at hl 1 rfl) ?_
          refine va_iald hx hb hK hP 40 0 (hW_w_3.a tX_40) rfl (in_I (R_nlt_r (hW_w.fin tX_35 rfl : In 0 200 (fI w 35 0)) (R_nlt_l (In_any _) (In_lit (n := 1) (by decide) (by decide) : In 1 1 1) c_1 (by decide) : In 1 2147483647 p1) c_2 (by decide) : In 1 200 p1) (by decide)) dX11_annul_49 ?_
          refine lv_topi (fun v_10 ev_10 => ?_)
          refine lv_if_eq (tgt := 55) hx hb dX11_annul_50 (by decide) (fun c_11 => ?_) (fun c_11 => ?_)
          · refine lv_aload_n hx hb dX11_annul_55 rfl (lv_at hl 0 rfl) ?_
            refine gt_X11 hx hb hts hown hK hP 0 (hW_w_3.o tX_0) 4 (by decide) wd_677 rfl (hW_w_3.fr tX_0 rfl) dX11_annul_56 ?_
            refine lv_iload_n hx hb dX11_annul_59 rfl (lv_at hl 1 rfl) ?_
            refine kW_i ⟨rfl, rfl⟩ hP hD hS hA (rW_V (As := [.int p1]) (rest := []) hx hb hml hown hts hK hE hP hD (k_X7_addVoid l D cI cJ cZ q 1 16 bp w_3 hW_w_3 p1 (R_nlt_r (hW_w.fin tX_35 rfl : In 0 200 (fI w 35 0)) (R_nlt_l (In_any _) (In_lit (n := 1) (by decide) (by decide) : In 1 1 1) c_1 (by decide) : In 1 2147483647 p1) c_2 (by decide) : In 1 200 p1) (In_of (hs_w_3.gI (by decide)) (R_eq_l (R_nlt_l (hW_w.fin tX_35 rfl : In 0 200 (fI w 35 0)) (R_nlt_l (In_any _) (In_lit (n := 1) (by decide) (by decide) : In 1 1 1) c_1 (by decide) : In 1 2147483647 p1) c_2 (by decide) : In 1 200 (fI w 35 0)) (In_of (hs_w_3.gI (by decide)).symm (h_5 c_7)) rfl (by decide) : In 1 199 (fI w 35 0))) _) ⟨⟨rfl, rfl⟩, rfl, rfl⟩ sv_X11_199 ⟨(Nat.le_trans (by decide) hR.1), (Nat.le_trans (by decide) hR.2)⟩ 35 7 (hW_w_3.o tX_35) rfl rfl rfl hl.1 rfl (Nat.le_of_ble_eq_true rfl) dX11_annul_60) (fun r_13 w_12 H locs hw_w_12 hP hD hS => ?_)
            obtain ⟨hW_w_12, hs_w_12, i_r_13, h_14, h_15⟩ := hw_w_12
            exact hret _ _ _ _ _ _ hP hD hS dX11_annul_63 ⟨hW_w_12, ((Sm.rf.tr hs_w_3 (by decide)).tr hs_w_12 (by decide)), (In_w i_r_13 (by decide) : In (-1) 200 r_13), (fun hL => (h_15 (LD_cg (hs_w_3.hA (by decide)) (hs_w_3.hA (by decide)) hL)))⟩
          · refine lv_iconst (v := (-1)) hx hb dX11_annul_53 (by decide) ?_
            exact hret _ _ _ _ _ _ hP hD hS dX11_annul_54 ⟨hW_w_3, (Sm.rf.tr hs_w_3 (by decide)), (In_lit (n := (-1)) (by decide) (by decide) : In (-1) 200 (-1)), (fun hL => (LD_cg (hs_w_3.hA (by decide)) (hs_w_3.hA (by decide)) hL))⟩
      · refine lv_iconst (v := (-1)) hx hb dX11_annul_26 (by decide) ?_
        exact hret _ _ _ _ _ _ hP hD hS dX11_annul_27 ⟨hW_w_3, (Sm.rf.tr hs_w_3 (by decide)), (In_lit (n := (-1)) (by decide) (by decide) : In (-1) 200 (-1)), (fun hL => (LD_cg (hs_w_3.hA (by decide)) (hs_w_3.hA (by decide)) hL))⟩
set_option maxRecDepth 100000 in
set_option maxHeartbeats 8000000 in
theorem k_X11_as (l : Launch) (D : va_G) (cI cJ cZ : ClassId) (q : Nat → Nat) (bp : Nat) (w : va_W) (hW_w : HT q (TX q cI cJ cZ 1 16 bp) w) (p1 : Int32) : Con_i l yX11_as cX11_as 2 (some .boolean) ({ frames := 0, cells := 0, slots := 0, locals := 0 }) D cI cJ cZ eW [.ref (q 0), .int p1] w (fun (r : Int32) (w1 : va_W) => HT q (TX q cI cJ cZ 1 16 bp) w1 ∧ Sm [0] [(0, 12)] w w1 ∧ In 0 1 r ∧ (¬ r = 0 → In (-1) 200 p1)) := by
  refine eQ_z rfl (by decide) (Nat.le_of_ble_eq_true rfl) ⟨rfl, rfl⟩ ?_
  intro p e R s m args below meth c A Q hx hb hml hown hts hK hE hA hR hret hP hD hS ls hl
  have hown : s.vm.findClass RX11 = some m.cls := hown
  have hl : lv_has ls 2 [(0, .ref (q 0)), (1, .int p1)] := hl
  refine lv_iload_n hx hb dX11_as_0 rfl (lv_at hl 1 rfl) ?_
  refine lv_iconst (v := (-1)) hx hb dX11_as_1 (by decide) ?_
  refine lv_icmp_lt (tgt := 16) hx hb dX11_as_2 (by decide) (fun c_1 => ?_) (fun c_1 => ?_)
  · refine lv_iconst (v := 0) hx hb dX11_as_16 (by decide) ?_
    exact hret _ _ _ _ _ _ hP hD hS dX11_as_17 (In_lit (n := 0) (by decide) (by decide) : In 0 1 0) ⟨hW_w, Sm.rf, (In_lit (n := 0) (by decide) (by decide) : In 0 1 0), (fun h => absurd rfl h)⟩
  · refine lv_iload_n hx hb dX11_as_5 rfl (lv_at hl 1 rfl) ?_
    refine lv_aload_n hx hb dX11_as_6 rfl (lv_at hl 0 rfl) ?_
    refine gt_X11 hx hb hts hown hK hP 0 (hW_w.o tX_0) 4 (by decide) wd_677 rfl (hW_w.fr tX_0 rfl) dX11_as_7 ?_
    refine gt_X7 hx hb hts hown hK hP 35 (hW_w.o tX_35) 0 (by decide) wd_252 rfl (hW_w.fi tX_35 rfl) dX11_as_10 ?_
    refine lv_icmp_le (tgt := 18) hx hb dX11_as_13 (by decide) (fun c_2 => ?_) (fun c_2 => ?_)
    · refine lv_aload_n hx hb dX11_as_18 rfl (lv_at hl 0 rfl) ?_
      refine lv_iload_n hx hb dX11_as_19 rfl (lv_at hl 1 rfl) ?_
      refine pt_X11 hx hb hts hown hK hP hD hS 0 (hW_w.o tX_0) 12 (by decide) wd_685 rfl rfl (ty := .int) (v := .int p1) (by decide +kernel) rfl rfl (hW_w.ll tX_0 (Nat.le_of_ble_eq_true rfl)) dX11_as_20 (fun H locs hP hD hS => fr_w (hW_w.sI tX_0 rfl (R_le_l (R_nlt_l (In_any _) (In_lit (n := (-1)) (by decide) (by decide) : In (-1) (-1) (-1)) c_1 (by decide) : In (-1) 2147483647 p1) (hW_w.fin tX_35 rfl : In 0 200 (fI w 35 0)) c_2 (by decide) : In (-1) 200 p1)) hP hD (fun w_3 ew_3 hW_w_3 hP hD => ?_))
      refine lv_iconst (v := 1) hx hb dX11_as_23 (by decide) ?_
      exact hret _ _ _ _ _ _ hP hD hS dX11_as_24 (In_lit (n := 1) (by decide) (by decide) : In 0 1 1) ⟨hW_w_3, (Sm.rf.sf (hW_w.lt tX_0) ew_3 (by decide)), (In_lit (n := 1) (by decide) (by decide) : In 0 1 1), (fun h => (R_le_l (R_nlt_l (In_any _) (In_lit (n := (-1)) (by decide) (by decide) : In (-1) (-1) (-1)) c_1 (by decide) : In (-1) 2147483647 p1) (hW_w.fin tX_35 rfl : In 0 200 (fI w 35 0)) c_2 (by decide) : In (-1) 200 p1))⟩
    · refine lv_iconst (v := 0) hx hb dX11_as_16 (by decide) ?_
      exact hret _ _ _ _ _ _ hP hD hS dX11_as_17 (In_lit (n := 0) (by decide) (by decide) : In 0 1 0) ⟨hW_w, Sm.rf, (In_lit (n := 0) (by decide) (by decide) : In 0 1 0), (fun h => absurd rfl h)⟩
set_option maxRecDepth 100000 in
set_option maxHeartbeats 8000000 in
theorem k_X11_actNow (l : Launch) (D : va_G) (cI cJ cZ : ClassId) (q : Nat → Nat) (bp : Nat) (w : va_W) (hW_w : HT q (TX q cI cJ cZ 1 16 bp) w) : Con_i l yX11_actNow cX11_actNow 1 (some .int) ({ frames := 0, cells := 0, slots := 0, locals := 0 }) D cI cJ cZ eW [.ref (q 0)] w (fun (r : Int32) (w1 : va_W) => HT q (TX q cI cJ cZ 1 16 bp) w1 ∧ Sm [] [] w w1 ∧ In 0 200 r) := by
  refine eQ_i rfl (by decide) (Nat.le_of_ble_eq_true rfl) ⟨rfl, rfl⟩ ?_
  intro p e R s m args below meth c A Q hx hb hml hown hts hK hE hA hR hret hP hD hS ls hl
  have hown : s.vm.findClass RX11 = some m.cls := hown
  have hl : lv_has ls 1 [(0, .ref (q 0))] := hl
  refine lv_aload_n hx hb dX11_actNow_0 rfl (lv_at hl 0 rfl) ?_
  refine gt_X11 hx hb hts hown hK hP 0 (hW_w.o tX_0) 12 (by decide) wd_685 rfl (hW_w.fi tX_0 rfl) dX11_actNow_1 ?_
  refine lv_iconst (v := (-1)) hx hb dX11_actNow_4 (by decide) ?_
  refine lv_icmp_ne (tgt := 18) hx hb dX11_actNow_5 (by decide) (fun c_1 => ?_) (fun c_1 => ?_)
  · refine lv_aload_n hx hb dX11_actNow_18 rfl (lv_at hl 0 rfl) ?_
    refine gt_X11 hx hb hts hown hK hP 0 (hW_w.o tX_0) 12 (by decide) wd_685 rfl (hW_w.fi tX_0 rfl) dX11_actNow_19 ?_
    exact hret _ _ _ _ _ _ hP hD hS dX11_actNow_22 ⟨hW_w, Sm.rf, (R_ne_l (hW_w.fin tX_0 rfl : In (-1) 200 (fI w 0 12)) (In_lit (n := (-1)) (by decide) (by decide) : In (-1) (-1) (-1)) c_1 (by decide) : In 0 200 (fI w 0 12))⟩
  · refine lv_aload_n hx hb dX11_actNow_8 rfl (lv_at hl 0 rfl) ?_
    refine gt_X11 hx hb hts hown hK hP 0 (hW_w.o tX_0) 4 (by decide) wd_677 rfl (hW_w.fr tX_0 rfl) dX11_actNow_9 ?_
    refine gt_X7 hx hb hts hown hK hP 35 (hW_w.o tX_35) 0 (by decide) wd_252 rfl (hW_w.fi tX_35 rfl) dX11_actNow_12 ?_
    refine lv_goto (tgt := 22) hx hb dX11_actNow_15 (by decide) ?_
    exact hret _ _ _ _ _ _ hP hD hS dX11_actNow_22 ⟨hW_w, Sm.rf, (hW_w.fin tX_35 rfl : In 0 200 (fI w 35 0))⟩
set_option maxRecDepth 100000 in
set_option maxHeartbeats 8000000 in
theorem k_J7_fill_53178_54 (l : Launch) (D : va_G) (cI cJ cZ : ClassId) (q : Nat → Nat) (bb bs bp : Nat) (w : va_W) (hW_w : HT q (TX q cI cJ cZ bb bs bp) w) (p1 : Int32) (i_p1 : In 0 0 p1) (hf_42_2 : In 0 0 (fI w 42 2)) : Con_v l yJ7_fill_53178 cJ7_fill_53178 4 none ({ frames := 0, cells := 0, slots := 0, locals := 0 }) D cI cJ cZ eW [.ref (q 54), .int p1] w (fun (w1 : va_W) => HT q (TX q cI cJ cZ bb bs bp) w1 ∧ Sm [54] [] w w1 ∧ ((∀ i : Nat, i < 250 → aF w1 54 i = p1))) := by
  refine eQ_v rfl (by decide) (Nat.le_of_ble_eq_true rfl) ⟨rfl, rfl⟩ ?_
  intro p e R s m args below meth c A Q hx hb hml hown hts hK hE hA hR hret hP hD hS ls hl
  have hown : s.vm.findClass RJ7 = some m.cls := hown
  have hl : lv_has ls 4 [(0, .ref (q 54)), (1, .int p1)] := hl
  have J5 : ∀ (N : Nat) (x5_2 : Int32) (x5_3 : Int32) (w5 : va_W) (H : Heap) (locs : List Loc) (ls : Array Slot), (250 - x5_2.toInt).toNat < N → HT q (TX q cI cJ cZ bb bs bp) w5 → Sm [54] [] w w5 → (In 0 0 p1) → (In 0 250 x5_2) → (In 250 250 x5_3) → (In 0 0 (fI w5 42 2)) → (∀ i : Nat, i < (x5_2 : Int32).toInt.toNat → aF w5 54 i = p1) → va_P D vwCl w5 H → va_D A w5 → va_S A s.heap H locs → lv_has ls 4 [(0, .ref (q 54)), (1, .int p1), (2, .int x5_2), (3, .int x5_3)] → W p l e R s m args below meth c H locs 0 0 Q (F0 m 5 ls []) := by
    intro N
    induction N with
    | zero => intro x5_2 x5_3 w5 H locs ls hmu; exact absurd hmu (Nat.not_lt_zero _)
    | succ N ih5 =>
      intro x5_2 x5_3 w5 H locs ls hmu5 hW_w5 hM_w5 i_x5_1 i_x5_2 i_x5_3 g5_42_2 hj_5 hP hD hS hl
      refine lv_iload_n hx hb dJ7_fill_53178_5 rfl (lv_at hl 2 rfl) ?_
      refine lv_iload_n hx hb dJ7_fill_53178_6 rfl (lv_at hl 3 rfl) ?_
      refine lv_icmp_ge (tgt := 20) hx hb dJ7_fill_53178_7 (by decide) (fun c_1 => ?_) (fun c_1 => ?_)
      · have lb_c_1 : (x5_3 : Int32).toInt ≤ (x5_2 : Int32).toInt := q_le.mp c_1
        exact hret _ _ _ _ _ hP hD hS dJ7_fill_53178_20 ⟨hW_w5, hM_w5, (fun i hi => hj_5 i (by have q := i_x5_3; unfold In at q; omega))⟩
      · have lb_c_1 : ¬ (x5_3 : Int32).toInt ≤ (x5_2 : Int32).toInt := fun h => c_1 (q_le.mpr h)
        refine lv_aload_n hx hb dJ7_fill_53178_10 rfl (lv_at hl 0 rfl) ?_
        refine lv_iload_n hx hb dJ7_fill_53178_11 rfl (lv_at hl 2 rfl) ?_
        refine lv_iload_n hx hb dJ7_fill_53178_12 rfl (lv_at hl 1 rfl) ?_
        refine va_iast hx hb hK hP hD hS 54 0 (hW_w5.a tX_54) rfl (in_I (R_nle_r i_x5_3 i_x5_2 c_1 (by decide) : In 0 249 x5_2) (by decide)) dJ7_fill_53178_13 (fun H locs hP hD hS => fr_w (hW_w5.uA tX_54 (In_w i_p1 (by decide) : In (-2147483648) 2147483647 p1)) hP hD (fun w_2 ew_2 hW_w_2 hP hD => ?_))
        refine lv_iinc (v := (x5_2 + 1)) (lv' := [(2, .int (x5_2 + 1)), (0, .ref (q 54)), (1, .int p1), (3, .int x5_3)]) hx hb dJ7_fill_53178_14 hl (k := 2) rfl (rfl) (by decide) rfl (fun ls hl => ?_)
        refine lv_goto (tgt := 5) hx hb dJ7_fill_53178_17 (by decide) ?_
        exact ih5 (x5_2 + 1) x5_3 w_2 _ _ ls (mu_inc hmu5 (R_nle_r i_x5_3 i_x5_2 c_1 (by decide) : In 0 249 x5_2) (In_lit (n := 1) (by decide) (by decide) : In 1 1 1) (by decide)) hW_w_2 (hM_w5.sa ew_2 (by decide)) i_p1 (In_w ((In_add (y := 1) (R_nle_r i_x5_3 i_x5_2 c_1 (by decide) : In 0 249 x5_2) (In_lit (n := 1) (by decide) (by decide) : In 1 1 1) (by decide)) : In 1 250 (x5_2 + 1)) (by decide) : In 0 250 (x5_2 + 1)) i_x5_3 (In_of ((fI_cg (st_ne ew_2 (by decide))).trans (hM_w5.gI (by decide))) (In_of (hM_w5.gI (by decide)).symm g5_42_2)) (fill_si (R_nle_r i_x5_3 i_x5_2 c_1 (by decide) : In 0 249 x5_2) hj_5 (aF_eq (hW_w5.lt tX_54) ew_2)) hP hD hS (lv_sub hl [1, 2, 0, 3] rfl)
  refine lv_iconst (v := 0) hx hb dJ7_fill_53178_0 (by decide) ?_
  refine lv_istore_n (lv' := [(2, .int 0), (0, .ref (q 54)), (1, .int p1)]) hx hb dJ7_fill_53178_1 rfl hl (by decide) rfl (fun ls hl => ?_)
  refine lv_aload_n hx hb dJ7_fill_53178_2 rfl (lv_at hl 1 rfl) ?_
  refine va_alen hx hb hK hP 54 0 (hW_w.a tX_54) rfl (v := 250) (by show Int32.ofNat 250 = 250; decide) dJ7_fill_53178_3 ?_
  refine lv_istore_n (lv' := [(3, .int 250), (2, .int 0), (0, .ref (q 54)), (1, .int p1)]) hx hb dJ7_fill_53178_4 rfl hl (by decide) rfl (fun ls hl => ?_)
  exact J5 _ 0 250 w _ _ ls (Nat.lt_succ_self _) hW_w Sm.rf i_p1 (In_lit (n := 0) (by decide) (by decide) : In 0 250 0) (In_lit (n := 250) (by decide) (by decide) : In 250 250 250) hf_42_2 (fun i h => absurd h (by have z : (0 : Int32).toInt = 0 := (by decide); omega)) hP hD hS (lv_sub hl [2, 3, 1, 0] rfl)
set_option maxRecDepth 100000 in
set_option maxHeartbeats 8000000 in
theorem k_J7_fill_53178_55 (l : Launch) (D : va_G) (cI cJ cZ : ClassId) (q : Nat → Nat) (bb bs bp : Nat) (w : va_W) (hW_w : HT q (TX q cI cJ cZ bb bs bp) w) (p1 : Int32) (i_p1 : In 25 25 p1) (hf_42_2 : In 0 0 (fI w 42 2)) : Con_v l yJ7_fill_53178 cJ7_fill_53178 4 none ({ frames := 0, cells := 0, slots := 0, locals := 0 }) D cI cJ cZ eW [.ref (q 55), .int p1] w (fun (w1 : va_W) => HT q (TX q cI cJ cZ bb bs bp) w1 ∧ Sm [55] [] w w1 ∧ ((∀ i : Nat, i < 10 → aF w1 55 i = p1))) := by
  refine eQ_v rfl (by decide) (Nat.le_of_ble_eq_true rfl) ⟨rfl, rfl⟩ ?_
  intro p e R s m args below meth c A Q hx hb hml hown hts hK hE hA hR hret hP hD hS ls hl
  have hown : s.vm.findClass RJ7 = some m.cls := hown
  have hl : lv_has ls 4 [(0, .ref (q 55)), (1, .int p1)] := hl
  have J5 : ∀ (N : Nat) (x5_2 : Int32) (x5_3 : Int32) (w5 : va_W) (H : Heap) (locs : List Loc) (ls : Array Slot), (10 - x5_2.toInt).toNat < N → HT q (TX q cI cJ cZ bb bs bp) w5 → Sm [55] [] w w5 → (In 25 25 p1) → (In 0 10 x5_2) → (In 10 10 x5_3) → (In 0 0 (fI w5 42 2)) → (∀ i : Nat, i < (x5_2 : Int32).toInt.toNat → aF w5 55 i = p1) → va_P D vwCl w5 H → va_D A w5 → va_S A s.heap H locs → lv_has ls 4 [(0, .ref (q 55)), (1, .int p1), (2, .int x5_2), (3, .int x5_3)] → W p l e R s m args below meth c H locs 0 0 Q (F0 m 5 ls []) := by
    intro N
    induction N with
    | zero => intro x5_2 x5_3 w5 H locs ls hmu; exact absurd hmu (Nat.not_lt_zero _)
    | succ N ih5 =>
      intro x5_2 x5_3 w5 H locs ls hmu5 hW_w5 hM_w5 i_x5_1 i_x5_2 i_x5_3 g5_42_2 hj_5 hP hD hS hl
      refine lv_iload_n hx hb dJ7_fill_53178_5 rfl (lv_at hl 2 rfl) ?_
      refine lv_iload_n hx hb dJ7_fill_53178_6 rfl (lv_at hl 3 rfl) ?_
      refine lv_icmp_ge (tgt := 20) hx hb dJ7_fill_53178_7 (by decide) (fun c_1 => ?_) (fun c_1 => ?_)
      · have lb_c_1 : (x5_3 : Int32).toInt ≤ (x5_2 : Int32).toInt := q_le.mp c_1
        exact hret _ _ _ _ _ hP hD hS dJ7_fill_53178_20 ⟨hW_w5, hM_w5, (fun i hi => hj_5 i (by have q := i_x5_3; unfold In at q; omega))⟩
      · have lb_c_1 : ¬ (x5_3 : Int32).toInt ≤ (x5_2 : Int32).toInt := fun h => c_1 (q_le.mpr h)
        refine lv_aload_n hx hb dJ7_fill_53178_10 rfl (lv_at hl 0 rfl) ?_
        refine lv_iload_n hx hb dJ7_fill_53178_11 rfl (lv_at hl 2 rfl) ?_
        refine lv_iload_n hx hb dJ7_fill_53178_12 rfl (lv_at hl 1 rfl) ?_
        refine va_iast hx hb hK hP hD hS 55 0 (hW_w5.a tX_55) rfl (in_I (R_nle_r i_x5_3 i_x5_2 c_1 (by decide) : In 0 9 x5_2) (by decide)) dJ7_fill_53178_13 (fun H locs hP hD hS => fr_w (hW_w5.uA tX_55 (In_w i_p1 (by decide) : In (-2147483648) 2147483647 p1)) hP hD (fun w_2 ew_2 hW_w_2 hP hD => ?_))
        refine lv_iinc (v := (x5_2 + 1)) (lv' := [(2, .int (x5_2 + 1)), (0, .ref (q 55)), (1, .int p1), (3, .int x5_3)]) hx hb dJ7_fill_53178_14 hl (k := 2) rfl (rfl) (by decide) rfl (fun ls hl => ?_)
        refine lv_goto (tgt := 5) hx hb dJ7_fill_53178_17 (by decide) ?_
        exact ih5 (x5_2 + 1) x5_3 w_2 _ _ ls (mu_inc hmu5 (R_nle_r i_x5_3 i_x5_2 c_1 (by decide) : In 0 9 x5_2) (In_lit (n := 1) (by decide) (by decide) : In 1 1 1) (by decide)) hW_w_2 (hM_w5.sa ew_2 (by decide)) i_p1 (In_w ((In_add (y := 1) (R_nle_r i_x5_3 i_x5_2 c_1 (by decide) : In 0 9 x5_2) (In_lit (n := 1) (by decide) (by decide) : In 1 1 1) (by decide)) : In 1 10 (x5_2 + 1)) (by decide) : In 0 10 (x5_2 + 1)) i_x5_3 (In_of ((fI_cg (st_ne ew_2 (by decide))).trans (hM_w5.gI (by decide))) (In_of (hM_w5.gI (by decide)).symm g5_42_2)) (fill_si (R_nle_r i_x5_3 i_x5_2 c_1 (by decide) : In 0 9 x5_2) hj_5 (aF_eq (hW_w5.lt tX_55) ew_2)) hP hD hS (lv_sub hl [1, 2, 0, 3] rfl)
  refine lv_iconst (v := 0) hx hb dJ7_fill_53178_0 (by decide) ?_
  refine lv_istore_n (lv' := [(2, .int 0), (0, .ref (q 55)), (1, .int p1)]) hx hb dJ7_fill_53178_1 rfl hl (by decide) rfl (fun ls hl => ?_)
  refine lv_aload_n hx hb dJ7_fill_53178_2 rfl (lv_at hl 1 rfl) ?_
  refine va_alen hx hb hK hP 55 0 (hW_w.a tX_55) rfl (v := 10) (by show Int32.ofNat 10 = 10; decide) dJ7_fill_53178_3 ?_
  refine lv_istore_n (lv' := [(3, .int 10), (2, .int 0), (0, .ref (q 55)), (1, .int p1)]) hx hb dJ7_fill_53178_4 rfl hl (by decide) rfl (fun ls hl => ?_)
  exact J5 _ 0 10 w _ _ ls (Nat.lt_succ_self _) hW_w Sm.rf i_p1 (In_lit (n := 0) (by decide) (by decide) : In 0 10 0) (In_lit (n := 10) (by decide) (by decide) : In 10 10 10) hf_42_2 (fun i h => absurd h (by have z : (0 : Int32).toInt = 0 := (by decide); omega)) hP hD hS (lv_sub hl [2, 3, 1, 0] rfl)
set_option maxRecDepth 100000 in
set_option maxHeartbeats 8000000 in
theorem k_X6_find (l : Launch) (D : va_G) (cI cJ cZ : ClassId) (q : Nat → Nat) (bb bs bp : Nat) (w : va_W) (hW_w : HT q (TX q cI cJ cZ bb bs bp) w) (p1 : Int32) : Con_i l yX6_find cX6_find 3 (some .int) ({ frames := 0, cells := 0, slots := 0, locals := 0 }) D cI cJ cZ eW [.ref (q 42), .int p1] w (fun (r : Int32) (w1 : va_W) => HT q (TX q cI cJ cZ bb bs bp) w1 ∧ Sm [] [] w w1 ∧ In (-1) 39 r) := by
  refine eQ_i rfl (by decide) (Nat.le_of_ble_eq_true rfl) ⟨rfl, rfl⟩ ?_
  intro p e R s m args below meth c A Q hx hb hml hown hts hK hE hA hR hret hP hD hS ls hl
  have hown : s.vm.findClass RX6 = some m.cls := hown
  have hl : lv_has ls 3 [(0, .ref (q 42)), (1, .int p1)] := hl
  have J8 : ∀ (N : Nat) (x8_2 : Int32) (w8 : va_W) (H : Heap) (locs : List Loc) (ls : Array Slot), (40 - x8_2.toInt).toNat < N → HT q (TX q cI cJ cZ bb bs bp) w8 → Sm [] [] w w8 → (In 0 40 x8_2) → va_P D vwCl w8 H → va_D A w8 → va_S A s.heap H locs → lv_has ls 3 [(0, .ref (q 42)), (1, .int p1), (2, .int x8_2)] → W p l e R s m args below meth c H locs 0 0 Q (F0 m 8 ls []) := by
    intro N
    induction N with
    | zero => intro x8_2 w8 H locs ls hmu; exact absurd hmu (Nat.not_lt_zero _)
    | succ N ih8 =>
      intro x8_2 w8 H locs ls hmu8 hW_w8 hM_w8 i_x8_2 hP hD hS hl
      refine lv_iload_n hx hb dX6_find_8 rfl (lv_at hl 2 rfl) ?_
      refine lv_aload_n hx hb dX6_find_9 rfl (lv_at hl 0 rfl) ?_
      refine gt_X6 hx hb hts hown hK hP 42 (hW_w8.o tX_42) 2 (by decide) wd_295 rfl (hW_w8.fi tX_42 rfl) dX6_find_10 ?_
      refine tov (v := (fI w 42 2)) (hM_w8.gI (by decide)) ?_
      refine lv_icmp_ge (tgt := 34) hx hb dX6_find_13 (by decide) (fun c_1 => ?_) (fun c_1 => ?_)
      · refine lv_iconst (v := (-1)) hx hb dX6_find_34 (by decide) ?_
        exact hret _ _ _ _ _ _ hP hD hS dX6_find_35 ⟨hW_w8, hM_w8, (In_lit (n := (-1)) (by decide) (by decide) : In (-1) 39 (-1))⟩
      · refine lv_aload_n hx hb dX6_find_16 rfl (lv_at hl 0 rfl) ?_
        refine gt_X6 hx hb hts hown hK hP 42 (hW_w8.o tX_42) 3 (by decide) wd_297 rfl (hW_w8.fr tX_42 rfl) dX6_find_17 ?_
        refine lv_iload_n hx hb dX6_find_20 rfl (lv_at hl 2 rfl) ?_
        refine va_iald hx hb hK hP 43 0 (hW_w8.a tX_43) rfl (in_I (R_nle_r (hW_w.fin tX_42 rfl : In 0 40 (fI w 42 2)) i_x8_2 c_1 (by decide) : In 0 39 x8_2) (by decide)) dX6_find_21 ?_
        refine lv_topi (fun v_2 ev_2 => ?_)
        refine lv_iload_n hx hb dX6_find_22 rfl (lv_at hl 1 rfl) ?_
        refine lv_icmp_ne (tgt := 28) hx hb dX6_find_23 (by decide) (fun c_3 => ?_) (fun c_3 => ?_)
        · refine lv_iinc (v := (x8_2 + 1)) (lv' := [(2, .int (x8_2 + 1)), (0, .ref (q 42)), (1, .int p1)]) hx hb dX6_find_28 hl (k := 2) rfl (rfl) (by decide) rfl (fun ls hl => ?_)
          refine lv_goto (tgt := 8) hx hb dX6_find_31 (by decide) ?_
          exact ih8 (x8_2 + 1) w8 _ _ ls (mu_inc hmu8 (R_nle_r (hW_w.fin tX_42 rfl : In 0 40 (fI w 42 2)) i_x8_2 c_1 (by decide) : In 0 39 x8_2) (In_lit (n := 1) (by decide) (by decide) : In 1 1 1) (by decide)) hW_w8 hM_w8 (In_w ((In_add (y := 1) (R_nle_r (hW_w.fin tX_42 rfl : In 0 40 (fI w 42 2)) i_x8_2 c_1 (by decide) : In 0 39 x8_2) (In_lit (n := 1) (by decide) (by decide) : In 1 1 1) (by decide)) : In 1 40 (x8_2 + 1)) (by decide) : In 0 40 (x8_2 + 1)) hP hD hS (lv_sub hl [1, 2, 0] rfl)
        · refine lv_iload_n hx hb dX6_find_26 rfl (lv_at hl 2 rfl) ?_
          exact hret _ _ _ _ _ _ hP hD hS dX6_find_27 ⟨hW_w8, hM_w8, (In_w (R_nle_r (hW_w.fin tX_42 rfl : In 0 40 (fI w 42 2)) i_x8_2 c_1 (by decide) : In 0 39 x8_2) (by decide) : In (-1) 39 x8_2)⟩
  refine lv_iload_n hx hb dX6_find_0 rfl (lv_at hl 1 rfl) ?_
  refine lv_if_ne (tgt := 6) hx hb dX6_find_1 (by decide) (fun c_4 => ?_) (fun c_4 => ?_)
  · refine lv_iconst (v := 0) hx hb dX6_find_6 (by decide) ?_
    refine lv_istore_n (lv' := [(2, .int 0), (0, .ref (q 42)), (1, .int p1)]) hx hb dX6_find_7 rfl hl (by decide) rfl (fun ls hl => ?_)
    exact J8 _ 0 w _ _ ls (Nat.lt_succ_self _) hW_w Sm.rf (In_lit (n := 0) (by decide) (by decide) : In 0 40 0) hP hD hS (lv_sub hl [1, 2, 0] rfl)
  · refine lv_iconst (v := (-1)) hx hb dX6_find_4 (by decide) ?_
    exact hret _ _ _ _ _ _ hP hD hS dX6_find_5 ⟨hW_w, Sm.rf, (In_lit (n := (-1)) (by decide) (by decide) : In (-1) 39 (-1))⟩
set_option maxRecDepth 100000 in
set_option maxHeartbeats 8000000 in
theorem k_X6_wants (l : Launch) (D : va_G) (cI cJ cZ : ClassId) (q : Nat → Nat) (bb bs bp : Nat) (w : va_W) (hW_w : HT q (TX q cI cJ cZ bb bs bp) w) (p1 : Int32) (p2 : Int64) (i_p1 : In 0 39 p1) : Con_i l yX6_wants cX6_wants 5 (some .boolean) ({ frames := 0, cells := 0, slots := 0, locals := 0 }) D cI cJ cZ eW [.ref (q 42), .int p1, .long p2] w (fun (r : Int32) (w1 : va_W) => HT q (TX q cI cJ cZ bb bs bp) w1 ∧ Sm [] [] w w1 ∧ In 0 1 r) := by
  refine eQ_z rfl (by decide) (Nat.le_of_ble_eq_true rfl) ⟨rfl, rfl⟩ ?_
  intro p e R s m args below meth c A Q hx hb hml hown hts hK hE hA hR hret hP hD hS ls hl
  have hown : s.vm.findClass RX6 = some m.cls := hown
  have hl : lv_has ls 5 [(0, .ref (q 42)), (1, .int p1), (2, .long p2)] := hl
  have J3 : ∀ (N : Nat) (x3_4 : Int32) (w3 : va_W) (H : Heap) (locs : List Loc) (ls : Array Slot), (4 - x3_4.toInt).toNat < N → HT q (TX q cI cJ cZ bb bs bp) w3 → Sm [] [] w w3 → (In 0 39 p1) → (In 0 4 x3_4) → va_P D vwCl w3 H → va_D A w3 → va_S A s.heap H locs → lv_has ls 5 [(0, .ref (q 42)), (1, .int p1), (2, .long p2), (4, .int x3_4)] → W p l e R s m args below meth c H locs 0 0 Q (F0 m 3 ls []) := by
    intro N
    induction N with
    | zero => intro x3_4 w3 H locs ls hmu; exact absurd hmu (Nat.not_lt_zero _)
    | succ N ih3 =>
      intro x3_4 w3 H locs ls hmu3 hW_w3 hM_w3 i_x3_1 i_x3_4 hP hD hS hl
      refine lv_iload hx hb dX6_wants_3 (lv_at hl 3 rfl) ?_
      refine lv_aload_n hx hb dX6_wants_5 rfl (lv_at hl 0 rfl) ?_
      refine gt_X6 hx hb hts hown hK hP 42 (hW_w3.o tX_42) 11 (by decide) wd_314 rfl (hW_w3.fr tX_42 rfl) dX6_wants_6 ?_
      refine lv_iload_n hx hb dX6_wants_9 rfl (lv_at hl 1 rfl) ?_
      refine va_iald hx hb hK hP 51 0 (hW_w3.a tX_51) rfl (in_I i_p1 (by decide)) dX6_wants_10 ?_
      refine lv_topi (fun v_1 ev_1 => ?_)
      refine lv_icmp_ge (tgt := 38) hx hb dX6_wants_11 (by decide) (fun c_2 => ?_) (fun c_2 => ?_)
      · refine lv_iconst (v := 0) hx hb dX6_wants_38 (by decide) ?_
        exact hret _ _ _ _ _ _ hP hD hS dX6_wants_39 (In_lit (n := 0) (by decide) (by decide) : In 0 1 0) ⟨hW_w3, hM_w3, (In_lit (n := 0) (by decide) (by decide) : In 0 1 0)⟩
      · refine lv_aload_n hx hb dX6_wants_14 rfl (lv_at hl 0 rfl) ?_
        refine gt_X6 hx hb hts hown hK hP 42 (hW_w3.o tX_42) 12 (by decide) wd_317 rfl (hW_w3.fr tX_42 rfl) dX6_wants_15 ?_
        refine lv_iload_n hx hb dX6_wants_18 rfl (lv_at hl 1 rfl) ?_
        refine lv_iconst (v := 4) hx hb dX6_wants_19 (by decide) ?_
        refine lv_imul hx hb dX6_wants_20 ?_
        refine lv_iload hx hb dX6_wants_21 (lv_at hl 3 rfl) ?_
        refine lv_iadd hx hb dX6_wants_23 ?_
        refine va_lald hx hb hK hP 52 1 (hW_w3.al tX_52) rfl (in_I ((In_add ((In_mulr i_p1 (n := 4) (by decide) (by decide)) : In 0 156 (p1 * 4)) (R_nle_r (In_of ev_1 (hW_w3.ap tX_51 _) : In 0 4 v_1) i_x3_4 c_2 (by decide) : In 0 3 x3_4) (by decide)) : In 0 159 ((p1 * 4) + x3_4)) (by decide)) dX6_wants_24 ?_
        refine lv_topl (fun v_3 ev_3 => ?_)
        refine lv_lload_n hx hb dX6_wants_25 rfl (lv_at hl 2 rfl) ?_
        refine W.lcmp hx hb dX6_wants_26 ?_
        refine lv_topi (fun v_4 ev_4 => ?_)
        refine lv_if_ne (tgt := 32) hx hb dX6_wants_27 (by decide) (fun c_5 => ?_) (fun c_5 => ?_)
        · refine lv_iinc (v := (x3_4 + 1)) (lv' := [(4, .int (x3_4 + 1)), (0, .ref (q 42)), (1, .int p1), (2, .long p2)]) hx hb dX6_wants_32 hl (k := 3) rfl (rfl) (by decide) rfl (fun ls hl => ?_)
          refine lv_goto (tgt := 3) hx hb dX6_wants_35 (by decide) ?_
          exact ih3 (x3_4 + 1) w3 _ _ ls (mu_inc hmu3 (R_nle_r (In_of ev_1 (hW_w3.ap tX_51 _) : In 0 4 v_1) i_x3_4 c_2 (by decide) : In 0 3 x3_4) (In_lit (n := 1) (by decide) (by decide) : In 1 1 1) (by decide)) hW_w3 hM_w3 i_p1 (In_w ((In_add (y := 1) (R_nle_r (In_of ev_1 (hW_w3.ap tX_51 _) : In 0 4 v_1) i_x3_4 c_2 (by decide) : In 0 3 x3_4) (In_lit (n := 1) (by decide) (by decide) : In 1 1 1) (by decide)) : In 1 4 (x3_4 + 1)) (by decide) : In 0 4 (x3_4 + 1)) hP hD hS (lv_sub hl [1, 2, 3, 0] rfl)
        · refine lv_iconst (v := 1) hx hb dX6_wants_30 (by decide) ?_
          exact hret _ _ _ _ _ _ hP hD hS dX6_wants_31 (In_lit (n := 1) (by decide) (by decide) : In 0 1 1) ⟨hW_w3, hM_w3, (In_lit (n := 1) (by decide) (by decide) : In 0 1 1)⟩
  refine lv_iconst (v := 0) hx hb dX6_wants_0 (by decide) ?_
  refine lv_istore (lv' := [(4, .int 0), (0, .ref (q 42)), (1, .int p1), (2, .long p2)]) hx hb dX6_wants_1 hl (by decide) rfl (fun ls hl => ?_)
  exact J3 _ 0 w _ _ ls (Nat.lt_succ_self _) hW_w Sm.rf i_p1 (In_lit (n := 0) (by decide) (by decide) : In 0 4 0) hP hD hS (lv_sub hl [1, 2, 3, 0] rfl)
set_option maxRecDepth 100000 in
set_option maxHeartbeats 8000000 in
theorem k_X6_learnWish (l : Launch) (D : va_G) (cI cJ cZ : ClassId) (q : Nat → Nat) (bb bs bp : Nat) (w : va_W) (hW_w : HT q (TX q cI cJ cZ bb bs bp) w) (p1 : Int32) (p2 : Int64) (i_p1 : In 0 39 p1) : Con_v l yX6_learnWish cX6_learnWish 4 none ({ frames := 1, cells := 0, slots := 0, locals := 24 }) D cI cJ cZ eW [.ref (q 42), .int p1, .long p2] w (fun (w1 : va_W) => HT q (TX q cI cJ cZ bb bs bp) w1 ∧ Sm [51, 52] [] w w1) := by
  refine eQ_v rfl (by decide) (Nat.le_of_ble_eq_true rfl) ⟨rfl, rfl⟩ ?_
  intro p e R s m args below meth c A Q hx hb hml hown hts hK hE hA hR hret hP hD hS ls hl
  have hown : s.vm.findClass RX6 = some m.cls := hown
  have hl : lv_has ls 4 [(0, .ref (q 42)), (1, .int p1), (2, .long p2)] := hl
  refine lv_aload_n hx hb dX6_learnWish_0 rfl (lv_at hl 0 rfl) ?_
  refine gt_X6 hx hb hts hown hK hP 42 (hW_w.o tX_42) 11 (by decide) wd_314 rfl (hW_w.fr tX_42 rfl) dX6_learnWish_1 ?_
  refine lv_iload_n hx hb dX6_learnWish_4 rfl (lv_at hl 1 rfl) ?_
  refine va_iald hx hb hK hP 51 0 (hW_w.a tX_51) rfl (in_I i_p1 (by decide)) dX6_learnWish_5 ?_
  refine lv_topi (fun v_1 ev_1 => ?_)
  refine lv_iconst (v := 4) hx hb dX6_learnWish_6 (by decide) ?_
  refine lv_icmp_ge (tgt := 45) hx hb dX6_learnWish_7 (by decide) (fun c_2 => ?_) (fun c_2 => ?_)
  · exact hret _ _ _ _ _ hP hD hS dX6_learnWish_45 ⟨hW_w, Sm.rf⟩
  · refine lv_aload_n hx hb dX6_learnWish_10 rfl (lv_at hl 0 rfl) ?_
    refine lv_iload_n hx hb dX6_learnWish_11 rfl (lv_at hl 1 rfl) ?_
    refine lv_lload_n hx hb dX6_learnWish_12 rfl (lv_at hl 2 rfl) ?_
    refine kW_i ⟨rfl, rfl⟩ hP hD hS hA (rW_V (As := [.int p1, .long p2]) (rest := []) hx hb hml hown hts hK hE hP hD (k_X6_wants l D cI cJ cZ q bb bs bp w hW_w p1 p2 i_p1 _) ⟨⟨rfl, rfl⟩, rfl, rfl⟩ sv_X6_107 ⟨(Nat.le_trans (by decide) hR.1), (Nat.le_trans (by decide) hR.2)⟩ 42 6 (hW_w.o tX_42) rfl rfl rfl hl.1 rfl (Nat.le_of_ble_eq_true rfl) dX6_learnWish_13) (fun r_4 w_3 H locs hw_w_3 hP hD hS => ?_)
    obtain ⟨hW_w_3, hs_w_3, i_r_4⟩ := hw_w_3
    refine lv_if_ne (tgt := 45) hx hb dX6_learnWish_16 (by decide) (fun c_5 => ?_) (fun c_5 => ?_)
    · exact hret _ _ _ _ _ hP hD hS dX6_learnWish_45 ⟨hW_w_3, (Sm.rf.tr hs_w_3 (by decide))⟩
    · refine lv_aload_n hx hb dX6_learnWish_19 rfl (lv_at hl 0 rfl) ?_
      refine gt_X6 hx hb hts hown hK hP 42 (hW_w_3.o tX_42) 12 (by decide) wd_317 rfl (hW_w_3.fr tX_42 rfl) dX6_learnWish_20 ?_
      refine lv_iload_n hx hb dX6_learnWish_23 rfl (lv_at hl 1 rfl) ?_
      refine lv_iconst (v := 4) hx hb dX6_learnWish_24 (by decide) ?_
      refine lv_imul hx hb dX6_learnWish_25 ?_
      refine lv_aload_n hx hb dX6_learnWish_26 rfl (lv_at hl 0 rfl) ?_
      refine gt_X6 hx hb hts hown hK hP 42 (hW_w_3.o tX_42) 11 (by decide) wd_314 rfl (hW_w_3.fr tX_42 rfl) dX6_learnWish_27 ?_
      refine lv_iload_n hx hb dX6_learnWish_30 rfl (lv_at hl 1 rfl) ?_
      refine va_iald hx hb hK hP 51 0 (hW_w_3.a tX_51) rfl (in_I i_p1 (by decide)) dX6_learnWish_31 ?_
      refine tov (v := v_1) ((congrFun (hs_w_3.hA (by decide)) _).trans ev_1.symm) ?_
      refine lv_iadd hx hb dX6_learnWish_32 ?_
      refine lv_lload_n hx hb dX6_learnWish_33 rfl (lv_at hl 2 rfl) ?_
      refine va_last hx hb hK hP hD hS 52 1 (hW_w_3.al tX_52) rfl (in_I ((In_add ((In_mulr i_p1 (n := 4) (by decide) (by decide)) : In 0 156 (p1 * 4)) (R_nle_r (In_lit (n := 4) (by decide) (by decide) : In 4 4 4) (In_of ev_1 (hW_w.ap tX_51 _) : In 0 4 v_1) c_2 (by decide) : In 0 3 v_1) (by decide)) : In 0 159 ((p1 * 4) + v_1)) (by decide)) dX6_learnWish_34 (fun H locs hP hD hS => fr_w (hW_w_3.uL tX_52) hP hD (fun w_6 ew_6 hW_w_6 hP hD => ?_))
      refine lv_aload_n hx hb dX6_learnWish_35 rfl (lv_at hl 0 rfl) ?_
      refine gt_X6 hx hb hts hown hK hP 42 (hW_w_6.o tX_42) 11 (by decide) wd_314 rfl (hW_w_6.fr tX_42 rfl) dX6_learnWish_36 ?_
      refine lv_iload_n hx hb dX6_learnWish_39 rfl (lv_at hl 1 rfl) ?_
      refine lv_dup2_11 hx hb dX6_learnWish_40 rfl rfl ?_
      refine va_iald hx hb hK hP 51 0 (hW_w_6.a tX_51) rfl (in_I i_p1 (by decide)) dX6_learnWish_41 ?_
      refine tov (v := v_1) ((congrFun ((aF_cg (st_ne ew_6 (by decide))).trans (hs_w_3.hA (by decide))) _).trans ev_1.symm) ?_
      refine lv_iconst (v := 1) hx hb dX6_learnWish_42 (by decide) ?_
      refine lv_iadd hx hb dX6_learnWish_43 ?_
      refine va_iast hx hb hK hP hD hS 51 0 (hW_w_6.a tX_51) rfl (in_I i_p1 (by decide)) dX6_learnWish_44 (fun H locs hP hD hS => fr_w (hW_w_6.uA tX_51 (In_w ((In_add (R_nle_r (In_lit (n := 4) (by decide) (by decide) : In 4 4 4) (In_of ev_1 (hW_w.ap tX_51 _) : In 0 4 v_1) c_2 (by decide) : In 0 3 v_1) (In_lit (n := 1) (by decide) (by decide) : In 1 1 1) (by decide)) : In 1 4 (v_1 + 1)) (by decide) : In 0 4 (v_1 + 1))) hP hD (fun w_7 ew_7 hW_w_7 hP hD => ?_))
      exact hret _ _ _ _ _ hP hD hS dX6_learnWish_45 ⟨hW_w_7, (((Sm.rf.tr hs_w_3 (by decide)).sa ew_6 (by decide)).sa ew_7 (by decide))⟩
set_option maxRecDepth 100000 in
set_option maxHeartbeats 8000000 in
theorem k_X7_detailOf (l : Launch) (D : va_G) (cI cJ cZ : ClassId) (q : Nat → Nat) (bb bs bp : Nat) (w : va_W) (hW_w : HT q (TX q cI cJ cZ bb bs bp) w) (p1 : Int32) (p2 : Int32) (i_p1 : In 1 200 p1) (i_p2 : In 0 4 p2) : Con_i l yX7_detailOf cX7_detailOf 3 (some .int) ({ frames := 0, cells := 0, slots := 0, locals := 0 }) D cI cJ cZ eW [.ref (q 35), .int p1, .int p2] w (fun (r : Int32) (w1 : va_W) => HT q (TX q cI cJ cZ bb bs bp) w1 ∧ Sm [] [] w w1 ∧ (r = aF w 37 (p1 * 5 + p2).toNatClampNeg)) := by
  refine eQ_i rfl (by decide) (Nat.le_of_ble_eq_true rfl) ⟨rfl, rfl⟩ ?_
  intro p e R s m args below meth c A Q hx hb hml hown hts hK hE hA hR hret hP hD hS ls hl
  have hown : s.vm.findClass RX7 = some m.cls := hown
  have hl : lv_has ls 3 [(0, .ref (q 35)), (1, .int p1), (2, .int p2)] := hl
  refine lv_aload_n hx hb dX7_detailOf_0 rfl (lv_at hl 0 rfl) ?_
  refine gt_X7 hx hb hts hown hK hP 35 (hW_w.o tX_35) 3 (by decide) wd_258 rfl (hW_w.fr tX_35 rfl) dX7_detailOf_1 ?_
  refine lv_iload_n hx hb dX7_detailOf_4 rfl (lv_at hl 1 rfl) ?_
  refine lv_iconst (v := 5) hx hb dX7_detailOf_5 (by decide) ?_
  refine lv_imul hx hb dX7_detailOf_6 ?_
  refine lv_iload_n hx hb dX7_detailOf_7 rfl (lv_at hl 2 rfl) ?_
  refine lv_iadd hx hb dX7_detailOf_8 ?_
  refine va_iald hx hb hK hP 37 0 (hW_w.a tX_37) rfl (in_I ((In_add ((In_mulr i_p1 (n := 5) (by decide) (by decide)) : In 5 1000 (p1 * 5)) i_p2 (by decide)) : In 5 1004 ((p1 * 5) + p2)) (by decide)) dX7_detailOf_9 ?_
  refine lv_topi (fun v_1 ev_1 => ?_)
  exact hret _ _ _ _ _ _ hP hD hS dX7_detailOf_10 ⟨hW_w, Sm.rf, ev_1⟩
