set_option maxRecDepth 100000 in
set_option maxHeartbeats 8000000 in
theorem k_X12_packs (l : Launch) (D : va_G) (cI cJ cZ : ClassId) (q : Nat → Nat) (w : va_W) (hW_w : HT q (TM q cI cJ cZ) w) : Con_v l yX12_packs cX12_packs 3 none ({ frames := 1, cells := 0, slots := 0, locals := 23 }) D cI cJ cZ eW [.ref (q 0)] w (fun (w1 : va_W) => HT q (TM q cI cJ cZ) w1 ∧ Sm [0, 59] [(0, 88)] w w1) := by
  refine eQ_v rfl (by decide) (Nat.le_of_ble_eq_true rfl) ⟨rfl, rfl⟩ ?_
  intro p e R s m args below meth c A Q hx hb hml hown hts hK hE hA hR hret hP hD hS ls hl
  have hown : s.vm.findClass RX12 = some m.cls := hown
  have hl : lv_has ls 3 [(0, .ref (q 0))] := hl
  have J7 : ∀ (N : Nat) (x7_1 : Int32) (w7 : va_W) (H : Heap) (locs : List Loc) (ls : Array Slot), (40 - x7_1.toInt).toNat < N → HT q (TM q cI cJ cZ) w7 → Sm [0, 59] [(0, 88)] w w7 → (In 0 40 x7_1) → ((fI w7 0 88).toInt ≤ (x7_1 : Int32).toInt) → va_P D vwCl w7 H → va_D A w7 → va_S A s.heap H locs → lv_has ls 3 [(0, .ref (q 0)), (1, .int x7_1)] → W p l e R s m args below meth c H locs 0 0 Q (F0 m 7 ls []) := by
    intro N
    induction N with
    | zero => intro x7_1 w7 H locs ls hmu; exact absurd hmu (Nat.not_lt_zero _)
    | succ N ih7 =>
      intro x7_1 w7 H locs ls hmu7 hW_w7 hM_w7 i_x7_1 hc_7 hP hD hS hl
      have J93 : ∀ (w93 : va_W) (H : Heap) (locs : List Loc) (ls : Array Slot), HT q (TM q cI cJ cZ) w93 → Sm [0, 59] [(0, 88)] w w93 → (In 0 39 x7_1) → (In 1 40 (fI w93 0 69)) → ((fI w93 0 88).toInt ≤ (x7_1 : Int32).toInt + 1) → va_P D vwCl w93 H → va_D A w93 → va_S A s.heap H locs → lv_has ls 3 [(0, .ref (q 0)), (1, .int x7_1)] → W p l e R s m args below meth c H locs 0 0 Q (F0 m 93 ls []) := by
        intro w93 H locs ls hW_w93 hM_w93 i_x93_1 g93_0_69 hc_93 hP hD hS hl
        refine lv_iinc (v := (x7_1 + 1)) (lv' := [(1, .int (x7_1 + 1)), (0, .ref (q 0))]) hx hb dX12_packs_93 hl (k := 1) rfl (rfl) (by decide) rfl (fun ls hl => ?_)
        refine lv_goto (tgt := 7) hx hb dX12_packs_96 (by decide) ?_
        exact ih7 (x7_1 + 1) w93 _ _ ls (mu_inc hmu7 i_x93_1 (In_lit (n := 1) (by decide) (by decide) : In 1 1 1) (by decide)) hW_w93 hM_w93 (In_w ((In_add (y := 1) i_x93_1 (In_lit (n := 1) (by decide) (by decide) : In 1 1 1) (by decide)) : In 1 40 (x7_1 + 1)) (by decide) : In 0 40 (x7_1 + 1)) (by have i0_88 := (hW_w93.fin tM_0 rfl : In 0 40 (fI w93 0 88)); unfold In at i0_88; have t10 := t_add i_x93_1 (In_lit (n := 1) (by decide) (by decide) : In 1 1 1) (by decide); have z1 : (1 : Int32).toInt = 1 := (by decide); have il1 := ((In_add (y := 1) i_x93_1 (In_lit (n := 1) (by decide) (by decide) : In 1 1 1) (by decide)) : In 1 40 (x7_1 + 1)); unfold In at il1; omega) hP hD hS (lv_sub hl [1, 0] rfl)
      have J76 : ∀ (x76_2 : Int32) (w76 : va_W) (H : Heap) (locs : List Loc) (ls : Array Slot), HT q (TM q cI cJ cZ) w76 → Sm [0, 59] [(0, 88)] w w76 → (In 0 39 x7_1) → (In 0 39 x76_2) → (In 1 40 (fI w76 0 69)) → (In 0 39 (fI w76 0 88)) → ((fI w76 0 88).toInt ≤ (x7_1 : Int32).toInt) → va_P D vwCl w76 H → va_D A w76 → va_S A s.heap H locs → lv_has ls 3 [(0, .ref (q 0)), (1, .int x7_1), (2, .int x76_2)] → W p l e R s m args below meth c H locs 0 0 Q (F0 m 76 ls []) := by
        intro x76_2 w76 H locs ls hW_w76 hM_w76 i_x76_1 i_x76_2 g76_0_69 g76_0_88 hc_76 hP hD hS hl
        refine lv_aload_n hx hb dX12_packs_76 rfl (lv_at hl 0 rfl) ?_
        refine gt_X12 hx hb hts hown hK hP 0 (hW_w76.o tM_0) 87 (by decide) wd_1488 rfl (hW_w76.fr tM_0 rfl) dX12_packs_77 ?_
        refine lv_iload_n hx hb dX12_packs_80 rfl (lv_at hl 2 rfl) ?_
        refine lv_iload_n hx hb dX12_packs_81 rfl (lv_at hl 1 rfl) ?_
        refine va_iast hx hb hK hP hD hS 59 0 (hW_w76.a tM_59) rfl (in_I i_x76_2 (by decide)) dX12_packs_82 (fun H locs hP hD hS => fr_w (hW_w76.uA tM_59 i_x76_1) hP hD (fun w_1 ew_1 hW_w_1 hP hD => ?_))
        refine lv_aload_n hx hb dX12_packs_83 rfl (lv_at hl 0 rfl) ?_
        refine lv_dup hx hb dX12_packs_84 rfl ?_
        refine gt_X12 hx hb hts hown hK hP 0 (hW_w_1.o tM_0) 88 (by decide) wd_1489 rfl (hW_w_1.fi tM_0 rfl) dX12_packs_85 ?_
        refine tov (v := (fI w76 0 88)) (fI_cg (st_ne ew_1 (by decide))) ?_
        refine lv_iconst (v := 1) hx hb dX12_packs_88 (by decide) ?_
        refine lv_iadd hx hb dX12_packs_89 ?_
        refine pt_X12 hx hb hts hown hK hP hD hS 0 (hW_w_1.o tM_0) 88 (by decide) wd_1489 rfl rfl (ty := .int) (v := .int ((fI w76 0 88) + 1)) (by decide +kernel) rfl rfl (hW_w_1.ll tM_0 (Nat.le_of_ble_eq_true rfl)) dX12_packs_90 (fun H locs hP hD hS => fr_w (hW_w_1.sI tM_0 rfl (In_w ((In_add g76_0_88 (In_lit (n := 1) (by decide) (by decide) : In 1 1 1) (by decide)) : In 1 40 ((fI w76 0 88) + 1)) (by decide) : In 0 40 ((fI w76 0 88) + 1))) hP hD (fun w_2 ew_2 hW_w_2 hP hD => ?_))
        exact J93 w_2 _ _ ls hW_w_2 ((hM_w76.sa ew_1 (by decide)).sf (hW_w_1.lt tM_0) ew_2 (by decide)) i_x76_1 (In_of ((fI_nej (hW_w_1.lt tM_0) ew_2 (by decide)).trans ((fI_cg (st_ne ew_1 (by decide))).trans (hM_w76.2 0 69 (by decide) (by decide)))) (In_of (hM_w76.2 0 69 (by decide) (by decide)).symm g76_0_69)) (by have e0_88 : (fI w_2 0 88).toInt = (((fI w76 0 88) + 1) : Int32).toInt := congrArg Int32.toInt (fI_eq (hW_w_1.lt tM_0) ew_2 (hW_w_1.ll tM_0 (Nat.le_of_ble_eq_true rfl))); have i0_88 := ((In_add g76_0_88 (In_lit (n := 1) (by decide) (by decide) : In 1 1 1) (by decide)) : In 1 40 ((fI w76 0 88) + 1)); unfold In at i0_88; have t19 := t_add g76_0_88 (In_lit (n := 1) (by decide) (by decide) : In 1 1 1) (by decide); have z1 : (1 : Int32).toInt = 1 := (by decide); have il1 := i_x76_1; unfold In at il1; have im2 := i_x76_2; unfold In at im2; omega) hP hD hS (lv_sub hl [0, 1] rfl)
      have J32 : ∀ (N : Nat) (x32_2 : Int32) (w32 : va_W) (H : Heap) (locs : List Loc) (ls : Array Slot), (x32_2.toInt - 0).toNat < N → HT q (TM q cI cJ cZ) w32 → Sm [0, 59] [(0, 88)] w w32 → (In 0 39 x7_1) → (In 0 39 x32_2) → (In 1 40 (fI w32 0 69)) → (In 0 39 (fI w32 0 88)) → ((fI w32 0 88).toInt ≤ (x7_1 : Int32).toInt) → va_P D vwCl w32 H → va_D A w32 → va_S A s.heap H locs → lv_has ls 3 [(0, .ref (q 0)), (1, .int x7_1), (2, .int x32_2)] → W p l e R s m args below meth c H locs 0 0 Q (F0 m 32 ls []) := by
        intro N
        induction N with
        | zero => intro x32_2 w32 H locs ls hmu; exact absurd hmu (Nat.not_lt_zero _)
        | succ N ih32 =>
          intro x32_2 w32 H locs ls hmu32 hW_w32 hM_w32 i_x32_1 i_x32_2 g32_0_69 g32_0_88 hc_32 hP hD hS hl
          refine lv_iload_n hx hb dX12_packs_32 rfl (lv_at hl 2 rfl) ?_
          refine lv_if_le (tgt := 76) hx hb dX12_packs_33 (by decide) (fun c_3 => ?_) (fun c_3 => ?_)
          · exact J76 x32_2 w32 _ _ ls hW_w32 hM_w32 i_x32_1 (In_w (R_le_l i_x32_2 (In_lit (n := 0) (by decide) (by decide) : In 0 0 0) c_3 (by decide) : In 0 0 x32_2) (by decide) : In 0 39 x32_2) (In_of (hM_w32.2 0 69 (by decide) (by decide)) (In_of (hM_w32.2 0 69 (by decide) (by decide)).symm g32_0_69)) g32_0_88 (by have i0_88 := g32_0_88; unfold In at i0_88; have il1 := i_x32_1; unfold In at il1; have im2 := (R_le_l i_x32_2 (In_lit (n := 0) (by decide) (by decide) : In 0 0 0) c_3 (by decide) : In 0 0 x32_2); unfold In at im2; omega) hP hD hS (lv_sub hl [0, 1, 2] rfl)
          · refine lv_aload_n hx hb dX12_packs_36 rfl (lv_at hl 0 rfl) ?_
            refine lv_aload_n hx hb dX12_packs_37 rfl (lv_at hl 0 rfl) ?_
            refine gt_X12 hx hb hts hown hK hP 0 (hW_w32.o tM_0) 87 (by decide) wd_1488 rfl (hW_w32.fr tM_0 rfl) dX12_packs_38 ?_
            refine lv_iload_n hx hb dX12_packs_41 rfl (lv_at hl 2 rfl) ?_
            refine lv_iconst (v := 1) hx hb dX12_packs_42 (by decide) ?_
            refine lv_isub hx hb dX12_packs_43 ?_
            refine va_iald hx hb hK hP 59 0 (hW_w32.a tM_59) rfl (in_I ((In_sub (R_nle_l i_x32_2 (In_lit (n := 0) (by decide) (by decide) : In 0 0 0) c_3 (by decide) : In 1 39 x32_2) (In_lit (n := 1) (by decide) (by decide) : In 1 1 1) (by decide)) : In 0 38 (x32_2 - 1)) (by decide)) dX12_packs_44 ?_
            refine lv_topi (fun v_4 ev_4 => ?_)
            refine kW_i ⟨rfl, rfl⟩ hP hD hS hA (rW_V (As := [.int v_4]) (rest := []) hx hb hml hown hts hK hE hP hD (k_X12_farOf l D cI cJ cZ q w32 hW_w32 v_4 (In_of ev_4 (hW_w32.ap tM_59 _) : In 0 39 v_4) _) ⟨⟨rfl, rfl⟩, rfl, rfl⟩ sv_X12_569 ⟨(Nat.le_trans (by decide) hR.1), (Nat.le_trans (by decide) hR.2)⟩ 0 12 (hW_w32.o tM_0) rfl rfl rfl hl.1 rfl (Nat.le_of_ble_eq_true rfl) dX12_packs_45) (fun r_6 w_5 H locs hw_w_5 hP hD hS => ?_)
            obtain ⟨hW_w_5, hs_w_5, i_r_6⟩ := hw_w_5
            refine lv_aload_n hx hb dX12_packs_48 rfl (lv_at hl 0 rfl) ?_
            refine lv_iload_n hx hb dX12_packs_49 rfl (lv_at hl 1 rfl) ?_
            refine kW_i ⟨rfl, rfl⟩ hP hD hS hA (rW_V (As := [.int x7_1]) (rest := [.int r_6]) hx hb hml hown hts hK hE hP hD (k_X12_farOf l D cI cJ cZ q w_5 hW_w_5 x7_1 i_x32_1 _) ⟨⟨rfl, rfl⟩, rfl, rfl⟩ sv_X12_569 ⟨(Nat.le_trans (by decide) hR.1), (Nat.le_trans (by decide) hR.2)⟩ 0 12 (hW_w_5.o tM_0) rfl rfl rfl hl.1 rfl (Nat.le_of_ble_eq_true rfl) dX12_packs_50) (fun r_8 w_7 H locs hw_w_7 hP hD hS => ?_)
            obtain ⟨hW_w_7, hs_w_7, i_r_8⟩ := hw_w_7
            refine lv_icmp_ge (tgt := 76) hx hb dX12_packs_53 (by decide) (fun c_9 => ?_) (fun c_9 => ?_)
            · exact J76 x32_2 w_7 _ _ ls hW_w_7 ((hM_w32.tr hs_w_5 (by decide)).tr hs_w_7 (by decide)) i_x32_1 (In_w (R_nle_l i_x32_2 (In_lit (n := 0) (by decide) (by decide) : In 0 0 0) c_3 (by decide) : In 1 39 x32_2) (by decide) : In 0 39 x32_2) (In_of ((hs_w_7.gI (by decide)).trans ((hs_w_5.gI (by decide)).trans (hM_w32.2 0 69 (by decide) (by decide)))) (In_of (hM_w32.2 0 69 (by decide) (by decide)).symm g32_0_69)) (In_of ((hs_w_7.gI (by decide)).trans (hs_w_5.gI (by decide))) g32_0_88) (by have e0_88 : (fI w_7 0 88).toInt = ((fI w32 0 88) : Int32).toInt := congrArg Int32.toInt ((hs_w_7.gI (by decide)).trans (hs_w_5.gI (by decide))); have i0_88 := g32_0_88; unfold In at i0_88; have il1 := i_x32_1; unfold In at il1; have im2 := (R_nle_l i_x32_2 (In_lit (n := 0) (by decide) (by decide) : In 0 0 0) c_3 (by decide) : In 1 39 x32_2); unfold In at im2; omega) hP hD hS (lv_sub hl [0, 1, 2] rfl)
            · refine lv_aload_n hx hb dX12_packs_56 rfl (lv_at hl 0 rfl) ?_
              refine gt_X12 hx hb hts hown hK hP 0 (hW_w_7.o tM_0) 87 (by decide) wd_1488 rfl (hW_w_7.fr tM_0 rfl) dX12_packs_57 ?_
              refine lv_iload_n hx hb dX12_packs_60 rfl (lv_at hl 2 rfl) ?_
              refine lv_aload_n hx hb dX12_packs_61 rfl (lv_at hl 0 rfl) ?_
              refine gt_X12 hx hb hts hown hK hP 0 (hW_w_7.o tM_0) 87 (by decide) wd_1488 rfl (hW_w_7.fr tM_0 rfl) dX12_packs_62 ?_
              refine lv_iload_n hx hb dX12_packs_65 rfl (lv_at hl 2 rfl) ?_
              refine lv_iconst (v := 1) hx hb dX12_packs_66 (by decide) ?_
              refine lv_isub hx hb dX12_packs_67 ?_
              refine va_iald hx hb hK hP 59 0 (hW_w_7.a tM_59) rfl (in_I ((In_sub (R_nle_l i_x32_2 (In_lit (n := 0) (by decide) (by decide) : In 0 0 0) c_3 (by decide) : In 1 39 x32_2) (In_lit (n := 1) (by decide) (by decide) : In 1 1 1) (by decide)) : In 0 38 (x32_2 - 1)) (by decide)) dX12_packs_68 ?_
              refine tov (v := v_4) ((congrFun ((hs_w_7.hA (by decide)).trans (hs_w_5.hA (by decide))) _).trans ev_4.symm) ?_
              refine va_iast hx hb hK hP hD hS 59 0 (hW_w_7.a tM_59) rfl (in_I (R_nle_l i_x32_2 (In_lit (n := 0) (by decide) (by decide) : In 0 0 0) c_3 (by decide) : In 1 39 x32_2) (by decide)) dX12_packs_69 (fun H locs hP hD hS => fr_w (hW_w_7.uA tM_59 (In_of ev_4 (hW_w32.ap tM_59 _) : In 0 39 v_4)) hP hD (fun w_10 ew_10 hW_w_10 hP hD => ?_))
              refine lv_iinc (v := (x32_2 + (-1))) (lv' := [(2, .int (x32_2 + (-1))), (0, .ref (q 0)), (1, .int x7_1)]) hx hb dX12_packs_70 hl (k := 2) rfl (rfl) (by decide) rfl (fun ls hl => ?_)
              refine lv_goto (tgt := 32) hx hb dX12_packs_73 (by decide) ?_
              exact ih32 (x32_2 + (-1)) w_10 _ _ ls (mu_dec (n := 1) hmu32 (R_nle_l i_x32_2 (In_lit (n := 0) (by decide) (by decide) : In 0 0 0) c_3 (by decide) : In 1 39 x32_2) (by decide) (by decide)) hW_w_10 (((hM_w32.tr hs_w_5 (by decide)).tr hs_w_7 (by decide)).sa ew_10 (by decide)) i_x32_1 (In_w ((In_dec (y := (-1)) (n := 1) (R_nle_l i_x32_2 (In_lit (n := 0) (by decide) (by decide) : In 0 0 0) c_3 (by decide) : In 1 39 x32_2) (by decide) (by decide)) : In 0 38 (x32_2 + (-1))) (by decide) : In 0 39 (x32_2 + (-1))) (In_of ((fI_cg (st_ne ew_10 (by decide))).trans ((hs_w_7.gI (by decide)).trans ((hs_w_5.gI (by decide)).trans (hM_w32.2 0 69 (by decide) (by decide))))) (In_of (hM_w32.2 0 69 (by decide) (by decide)).symm g32_0_69)) (In_of ((fI_cg (st_ne ew_10 (by decide))).trans ((hs_w_7.gI (by decide)).trans (hs_w_5.gI (by decide)))) g32_0_88) (by have e0_88 : (fI w_10 0 88).toInt = ((fI w32 0 88) : Int32).toInt := congrArg Int32.toInt ((fI_cg (st_ne ew_10 (by decide))).trans ((hs_w_7.gI (by decide)).trans (hs_w_5.gI (by decide)))); have i0_88 := g32_0_88; unfold In at i0_88; have il1 := i_x32_1; unfold In at il1; have im2 := ((In_dec (y := (-1)) (n := 1) (R_nle_l i_x32_2 (In_lit (n := 0) (by decide) (by decide) : In 0 0 0) c_3 (by decide) : In 1 39 x32_2) (by decide) (by decide)) : In 0 38 (x32_2 + (-1))); unfold In at im2; omega) hP hD hS (lv_sub hl [1, 2, 0] rfl)
      refine lv_iload_n hx hb dX12_packs_7 rfl (lv_at hl 1 rfl) ?_
      refine lv_aload_n hx hb dX12_packs_8 rfl (lv_at hl 0 rfl) ?_
      refine gt_X12 hx hb hts hown hK hP 0 (hW_w7.o tM_0) 69 (by decide) wd_1470 rfl (hW_w7.fi tM_0 rfl) dX12_packs_9 ?_
      refine tov (v := (fI w 0 69)) (hM_w7.2 0 69 (by decide) (by decide)) ?_
      refine lv_icmp_ge (tgt := 99) hx hb dX12_packs_12 (by decide) (fun c_11 => ?_) (fun c_11 => ?_)
      · exact hret _ _ _ _ _ hP hD hS dX12_packs_99 ⟨hW_w7, hM_w7⟩
      · refine lv_aload_n hx hb dX12_packs_15 rfl (lv_at hl 0 rfl) ?_
        refine gt_X12 hx hb hts hown hK hP 0 (hW_w7.o tM_0) 76 (by decide) wd_1477 rfl (hW_w7.fr tM_0 rfl) dX12_packs_16 ?_
        refine lv_iload_n hx hb dX12_packs_19 rfl (lv_at hl 1 rfl) ?_
        refine va_iald hx hb hK hP 53 0 (hW_w7.a tM_53) rfl (in_I (R_nle_r (hW_w.fin tM_0 rfl : In 0 40 (fI w 0 69)) i_x7_1 c_11 (by decide) : In 0 39 x7_1) (by decide)) dX12_packs_20 ?_
        refine lv_topi (fun v_12 ev_12 => ?_)
        refine lv_if_ne (tgt := 27) hx hb dX12_packs_21 (by decide) (fun c_13 => ?_) (fun c_13 => ?_)
        · refine lv_aload_n hx hb dX12_packs_27 rfl (lv_at hl 0 rfl) ?_
          refine gt_X12 hx hb hts hown hK hP 0 (hW_w7.o tM_0) 88 (by decide) wd_1489 rfl (hW_w7.fi tM_0 rfl) dX12_packs_28 ?_
          refine lv_istore_n (lv' := [(2, .int (fI w7 0 88)), (0, .ref (q 0)), (1, .int x7_1)]) hx hb dX12_packs_31 rfl hl (by decide) rfl (fun ls hl => ?_)
          exact J32 _ (fI w7 0 88) w7 _ _ ls (Nat.lt_succ_self _) hW_w7 hM_w7 (R_nle_r (hW_w.fin tM_0 rfl : In 0 40 (fI w 0 69)) i_x7_1 c_11 (by decide) : In 0 39 x7_1) (by have q0 := (hW_w7.fin tM_0 rfl : In 0 40 (fI w7 0 88)); have q1 := (R_nle_r (hW_w.fin tM_0 rfl : In 0 40 (fI w 0 69)) i_x7_1 c_11 (by decide) : In 0 39 x7_1); unfold In at q0 q1 ⊢; omega : In 0 39 (fI w7 0 88)) (In_of (hM_w7.2 0 69 (by decide) (by decide)) (R_nle_l (hW_w.fin tM_0 rfl : In 0 40 (fI w 0 69)) i_x7_1 c_11 (by decide) : In 1 40 (fI w 0 69))) (by have q0 := (hW_w7.fin tM_0 rfl : In 0 40 (fI w7 0 88)); have q1 := (R_nle_r (hW_w.fin tM_0 rfl : In 0 40 (fI w 0 69)) i_x7_1 c_11 (by decide) : In 0 39 x7_1); unfold In at q0 q1 ⊢; omega : In 0 39 (fI w7 0 88)) (by have i0_88 := (by have q0 := (hW_w7.fin tM_0 rfl : In 0 40 (fI w7 0 88)); have q1 := (R_nle_r (hW_w.fin tM_0 rfl : In 0 40 (fI w 0 69)) i_x7_1 c_11 (by decide) : In 0 39 x7_1); unfold In at q0 q1 ⊢; omega : In 0 39 (fI w7 0 88)); unfold In at i0_88; have il1 := (R_nle_r (hW_w.fin tM_0 rfl : In 0 40 (fI w 0 69)) i_x7_1 c_11 (by decide) : In 0 39 x7_1); unfold In at il1; have im2 := (by have q0 := (hW_w7.fin tM_0 rfl : In 0 40 (fI w7 0 88)); have q1 := (R_nle_r (hW_w.fin tM_0 rfl : In 0 40 (fI w 0 69)) i_x7_1 c_11 (by decide) : In 0 39 x7_1); unfold In at q0 q1 ⊢; omega : In 0 39 (fI w7 0 88)); unfold In at im2; omega) hP hD hS (lv_sub hl [1, 2, 0] rfl)
        · refine lv_goto (tgt := 93) hx hb dX12_packs_24 (by decide) ?_
          exact J93 w7 _ _ ls hW_w7 hM_w7 (R_nle_r (hW_w.fin tM_0 rfl : In 0 40 (fI w 0 69)) i_x7_1 c_11 (by decide) : In 0 39 x7_1) (In_of (hM_w7.2 0 69 (by decide) (by decide)) (R_nle_l (hW_w.fin tM_0 rfl : In 0 40 (fI w 0 69)) i_x7_1 c_11 (by decide) : In 1 40 (fI w 0 69))) (by have i0_88 := (hW_w7.fin tM_0 rfl : In 0 40 (fI w7 0 88)); unfold In at i0_88; have il1 := (R_nle_r (hW_w.fin tM_0 rfl : In 0 40 (fI w 0 69)) i_x7_1 c_11 (by decide) : In 0 39 x7_1); unfold In at il1; omega) hP hD hS (lv_sub hl [0, 1] rfl)
  refine lv_aload_n hx hb dX12_packs_0 rfl (lv_at hl 0 rfl) ?_
  refine lv_iconst (v := 0) hx hb dX12_packs_1 (by decide) ?_
  refine pt_X12 hx hb hts hown hK hP hD hS 0 (hW_w.o tM_0) 88 (by decide) wd_1489 rfl rfl (ty := .int) (v := .int 0) (by decide +kernel) rfl rfl (hW_w.ll tM_0 (Nat.le_of_ble_eq_true rfl)) dX12_packs_2 (fun H locs hP hD hS => fr_w (hW_w.sI tM_0 rfl (In_lit (n := 0) (by decide) (by decide) : In 0 40 0)) hP hD (fun w_14 ew_14 hW_w_14 hP hD => ?_))
  refine lv_iconst (v := 0) hx hb dX12_packs_5 (by decide) ?_
  refine lv_istore_n (lv' := [(1, .int 0), (0, .ref (q 0))]) hx hb dX12_packs_6 rfl hl (by decide) rfl (fun ls hl => ?_)
  exact J7 _ 0 w_14 _ _ ls (Nat.lt_succ_self _) hW_w_14 (Sm.rf.sf (hW_w.lt tM_0) ew_14 (by decide)) (In_lit (n := 0) (by decide) (by decide) : In 0 40 0) (by have e0_88 : (fI w_14 0 88).toInt = (0 : Int32).toInt := congrArg Int32.toInt (fI_eq (hW_w.lt tM_0) ew_14 (hW_w.ll tM_0 (Nat.le_of_ble_eq_true rfl))); have z0 : (0 : Int32).toInt = 0 := (by decide); have z0 : (0 : Int32).toInt = 0 := (by decide); omega) hP hD hS (lv_sub hl [1, 0] rfl)
set_option maxRecDepth 100000 in
set_option maxHeartbeats 8000000 in
theorem k_X12_walks (l : Launch) (D : va_G) (cI cJ cZ : ClassId) (q : Nat → Nat) (w : va_W) (hW_w : HT q (TM q cI cJ cZ) w) (p1 : Int32) : Con_i l yX12_walks cX12_walks 4 (some .int) ({ frames := 2, cells := 0, slots := 0, locals := 45 }) D cI cJ cZ eW [.ref (q 0), .int p1] w (fun (r : Int32) (w1 : va_W) => HT q (TM q cI cJ cZ) w1 ∧ Sm [0, 59] [(0, 88)] w w1) := by
  refine eQ_i rfl (by decide) (Nat.le_of_ble_eq_true rfl) ⟨rfl, rfl⟩ ?_
  intro p e R s m args below meth c A Q hx hb hml hown hts hK hE hA hR hret hP hD hS ls hl
  have hown : s.vm.findClass RX12 = some m.cls := hown
  have hl : lv_has ls 4 [(0, .ref (q 0)), (1, .int p1)] := hl
  have J27 : ∀ (N : Nat) (x27_2 : Int32) (x27_3 : Int32) (w27 : va_W) (H : Heap) (locs : List Loc) (ls : Array Slot), (79 - x27_3.toInt).toNat < N → HT q (TM q cI cJ cZ) w27 → Sm [0, 59] [(0, 88)] w w27 → (In 1 40 p1) → (In 0 79 x27_3) → (In 1 1 (fI w27 0 68)) → va_P D vwCl w27 H → va_D A w27 → va_S A s.heap H locs → lv_has ls 4 [(0, .ref (q 0)), (1, .int p1), (2, .int x27_2), (3, .int x27_3)] → W p l e R s m args below meth c H locs 0 0 Q (F0 m 27 ls []) := by
    intro N
    induction N with
    | zero => intro x27_2 x27_3 w27 H locs ls hmu; exact absurd hmu (Nat.not_lt_zero _)
    | succ N ih27 =>
      intro x27_2 x27_3 w27 H locs ls hmu27 hW_w27 hM_w27 i_x27_1 i_x27_3 g27_0_68 hP hD hS hl
      refine lv_iload_n hx hb dX12_walks_27 rfl (lv_at hl 3 rfl) ?_
      refine lv_aload_n hx hb dX12_walks_28 rfl (lv_at hl 0 rfl) ?_
      refine gt_X12 hx hb hts hown hK hP 0 (hW_w27.o tM_0) 88 (by decide) wd_1489 rfl (hW_w27.fi tM_0 rfl) dX12_walks_29 ?_
      refine lv_icmp_ge (tgt := 57) hx hb dX12_walks_32 (by decide) (fun c_1 => ?_) (fun c_1 => ?_)
      · refine lv_iload_n hx hb dX12_walks_57 rfl (lv_at hl 2 rfl) ?_
        exact hret _ _ _ _ _ _ hP hD hS dX12_walks_58 ⟨hW_w27, hM_w27⟩
      · refine lv_iload_n hx hb dX12_walks_35 rfl (lv_at hl 2 rfl) ?_
        refine lv_iconst (v := 2) hx hb dX12_walks_36 (by decide) ?_
        refine lv_aload_n hx hb dX12_walks_37 rfl (lv_at hl 0 rfl) ?_
        refine lv_aload_n hx hb dX12_walks_38 rfl (lv_at hl 0 rfl) ?_
        refine gt_X12 hx hb hts hown hK hP 0 (hW_w27.o tM_0) 87 (by decide) wd_1488 rfl (hW_w27.fr tM_0 rfl) dX12_walks_39 ?_
        refine lv_iload_n hx hb dX12_walks_42 rfl (lv_at hl 3 rfl) ?_
        refine va_iald hx hb hK hP 59 0 (hW_w27.a tM_59) rfl (in_I (R_nle_r (hW_w27.fin tM_0 rfl : In 0 40 (fI w27 0 88)) i_x27_3 c_1 (by decide) : In 0 39 x27_3) (by decide)) dX12_walks_43 ?_
        refine lv_topi (fun v_2 ev_2 => ?_)
        refine kW_i ⟨rfl, rfl⟩ hP hD hS hA (rW_V (As := [.int v_2]) (rest := [.int 2, .int x27_2]) hx hb hml hown hts hK hE hP hD (k_X12_farOf l D cI cJ cZ q w27 hW_w27 v_2 (In_of ev_2 (hW_w27.ap tM_59 _) : In 0 39 v_2) _) ⟨⟨rfl, rfl⟩, rfl, rfl⟩ sv_X12_569 ⟨(Nat.le_trans (by decide) hR.1), (Nat.le_trans (by decide) hR.2)⟩ 0 12 (hW_w27.o tM_0) rfl rfl rfl hl.1 rfl (Nat.le_of_ble_eq_true rfl) dX12_walks_44) (fun r_4 w_3 H locs hw_w_3 hP hD hS => ?_)
        obtain ⟨hW_w_3, hs_w_3, i_r_4⟩ := hw_w_3
        refine lv_imul hx hb dX12_walks_47 ?_
        refine lv_topi (fun v_5 ev_5 => ?_)
        refine lv_iadd hx hb dX12_walks_48 ?_
        refine lv_topi (fun v_6 ev_6 => ?_)
        refine lv_istore_n (lv' := [(2, .int v_6), (0, .ref (q 0)), (1, .int p1), (3, .int x27_3)]) hx hb dX12_walks_49 rfl hl (by decide) rfl (fun ls hl => ?_)
        refine lv_iload_n hx hb dX12_walks_50 rfl (lv_at hl 3 rfl) ?_
        refine lv_iload_n hx hb dX12_walks_51 rfl (lv_at hl 2 rfl) ?_
        refine lv_iadd hx hb dX12_walks_52 ?_
        refine lv_istore_n (lv' := [(3, .int (x27_3 + p1)), (2, .int v_6), (0, .ref (q 0)), (1, .int p1)]) hx hb dX12_walks_53 rfl hl (by decide) rfl (fun ls hl => ?_)
        refine lv_goto (tgt := 27) hx hb dX12_walks_54 (by decide) ?_
        exact ih27 v_6 (x27_3 + p1) w_3 _ _ ls (mu_inc hmu27 (R_nle_r (hW_w27.fin tM_0 rfl : In 0 40 (fI w27 0 88)) i_x27_3 c_1 (by decide) : In 0 39 x27_3) i_x27_1 (by decide)) hW_w_3 (hM_w27.tr hs_w_3 (by decide)) i_x27_1 (In_w ((In_add (R_nle_r (hW_w27.fin tM_0 rfl : In 0 40 (fI w27 0 88)) i_x27_3 c_1 (by decide) : In 0 39 x27_3) i_x27_1 (by decide)) : In 1 79 (x27_3 + p1)) (by decide) : In 0 79 (x27_3 + p1)) (In_of ((hs_w_3.gI (by decide)).trans (hM_w27.2 0 68 (by decide) (by decide))) (In_of (hM_w27.2 0 68 (by decide) (by decide)).symm g27_0_68)) hP hD hS (lv_sub hl [2, 3, 1, 0] rfl)
  refine lv_aload_n hx hb dX12_walks_0 rfl (lv_at hl 0 rfl) ?_
  refine gt_X12 hx hb hts hown hK hP 0 (hW_w.o tM_0) 68 (by decide) wd_1469 rfl (hW_w.fi tM_0 rfl) dX12_walks_1 ?_
  refine lv_if_eq (tgt := 17) hx hb dX12_walks_4 (by decide) (fun c_7 => ?_) (fun c_7 => ?_)
  · refine lv_iconst (v := (-1)) hx hb dX12_walks_17 (by decide) ?_
    exact hret _ _ _ _ _ _ hP hD hS dX12_walks_18 ⟨hW_w, Sm.rf⟩
  · refine lv_iload_n hx hb dX12_walks_7 rfl (lv_at hl 1 rfl) ?_
    refine lv_iconst (v := 1) hx hb dX12_walks_8 (by decide) ?_
    refine lv_bipush (v := 40) hx hb dX12_walks_9 (by decide) ?_
    refine kW_i ⟨rfl, rfl⟩ hP hD hS hA (rW_S (As := [.int p1, .int 1, .int 40]) (rest := []) hx hb hml hown hts hK hE hP hD (k_X12_is l D cI cJ cZ q w hW_w p1 1 40 _) ⟨⟨rfl, rfl⟩, rfl, rfl⟩ sv_X12_322 ⟨(Nat.le_trans (by decide) hR.1), (Nat.le_trans (by decide) hR.2)⟩ rfl hl.1 rfl (Nat.le_of_ble_eq_true rfl) dX12_walks_11) (fun r_9 w_8 H locs hw_w_8 hP hD hS => ?_)
    obtain ⟨hW_w_8, hs_w_8, i_r_9, h_10⟩ := hw_w_8
    refine lv_if_ne (tgt := 19) hx hb dX12_walks_14 (by decide) (fun c_11 => ?_) (fun c_11 => ?_)
    · refine lv_aload_n hx hb dX12_walks_19 rfl (lv_at hl 0 rfl) ?_
      refine kW_v ⟨rfl, rfl⟩ hP hD hS hA (rW_V (As := []) (rest := []) hx hb hml hown hts hK hE hP hD (k_X12_packs l D cI cJ cZ q w_8 hW_w_8  _) ⟨⟨rfl, rfl⟩, rfl, rfl⟩ sv_X12_572 ⟨(Nat.le_trans (by decide) hR.1), (Nat.le_trans (by decide) hR.2)⟩ 0 12 (hW_w_8.o tM_0) rfl rfl rfl hl.1 rfl (Nat.le_of_ble_eq_true rfl) dX12_walks_20) (fun w_12 H locs hw_w_12 hP hD hS => ?_)
      obtain ⟨hW_w_12, hs_w_12⟩ := hw_w_12
      refine lv_iconst (v := 0) hx hb dX12_walks_23 (by decide) ?_
      refine lv_istore_n (lv' := [(2, .int 0), (0, .ref (q 0)), (1, .int p1)]) hx hb dX12_walks_24 rfl hl (by decide) rfl (fun ls hl => ?_)
      refine lv_iconst (v := 0) hx hb dX12_walks_25 (by decide) ?_
      refine lv_istore_n (lv' := [(3, .int 0), (2, .int 0), (0, .ref (q 0)), (1, .int p1)]) hx hb dX12_walks_26 rfl hl (by decide) rfl (fun ls hl => ?_)
      exact J27 _ 0 0 w_12 _ _ ls (Nat.lt_succ_self _) hW_w_12 ((Sm.rf.tr hs_w_8 (by decide)).tr hs_w_12 (by decide)) (by have q0 := h_10 c_11; have q1 := (In_lit (n := 1) (by decide) (by decide) : In 1 1 1); have q2 := (In_lit (n := 40) (by decide) (by decide) : In 40 40 40); have q3 := (In_any p1); unfold In at q1 q2 q3 ⊢; omega : In 1 40 p1) (In_lit (n := 0) (by decide) (by decide) : In 0 79 0) (In_of ((hs_w_12.2 0 68 (by decide) (by decide)).trans (hs_w_8.gI (by decide))) (R_ne_l (hW_w.fin tM_0 rfl : In 0 1 (fI w 0 68)) (In_lit (n := 0) (by decide) (by decide) : In 0 0 0) c_7 (by decide) : In 1 1 (fI w 0 68))) hP hD hS (lv_sub hl [2, 3, 1, 0] rfl)
    · refine lv_iconst (v := (-1)) hx hb dX12_walks_17 (by decide) ?_
      exact hret _ _ _ _ _ _ hP hD hS dX12_walks_18 ⟨hW_w_8, (Sm.rf.tr hs_w_8 (by decide))⟩
set_option maxRecDepth 100000 in
set_option maxHeartbeats 8000000 in
theorem k_X12_bag (l : Launch) (D : va_G) (cI cJ cZ : ClassId) (q : Nat → Nat) (w : va_W) (hW_w : HT q (TM q cI cJ cZ) w) (p1 : Int32) : Con_i l yX12_bag cX12_bag 2 (some .int) ({ frames := 2, cells := 0, slots := 0, locals := 45 }) D cI cJ cZ eW [.ref (q 0), .int p1] w (fun (r : Int32) (w1 : va_W) => HT q (TM q cI cJ cZ) w1 ∧ Sm [0, 59] [(0, 88)] w w1 ∧ In (-1) 39 r) := by
  refine eQ_i rfl (by decide) (Nat.le_of_ble_eq_true rfl) ⟨rfl, rfl⟩ ?_
  intro p e R s m args below meth c A Q hx hb hml hown hts hK hE hA hR hret hP hD hS ls hl
  have hown : s.vm.findClass RX12 = some m.cls := hown
  have hl : lv_has ls 2 [(0, .ref (q 0)), (1, .int p1)] := hl
  refine lv_aload_n hx hb dX12_bag_0 rfl (lv_at hl 0 rfl) ?_
  refine gt_X12 hx hb hts hown hK hP 0 (hW_w.o tM_0) 68 (by decide) wd_1469 rfl (hW_w.fi tM_0 rfl) dX12_bag_1 ?_
  refine lv_if_ne (tgt := 9) hx hb dX12_bag_4 (by decide) (fun c_1 => ?_) (fun c_1 => ?_)
  · refine lv_aload_n hx hb dX12_bag_9 rfl (lv_at hl 0 rfl) ?_
    refine kW_v ⟨rfl, rfl⟩ hP hD hS hA (rW_V (As := []) (rest := []) hx hb hml hown hts hK hE hP hD (k_X12_packs l D cI cJ cZ q w hW_w  _) ⟨⟨rfl, rfl⟩, rfl, rfl⟩ sv_X12_572 ⟨(Nat.le_trans (by decide) hR.1), (Nat.le_trans (by decide) hR.2)⟩ 0 12 (hW_w.o tM_0) rfl rfl rfl hl.1 rfl (Nat.le_of_ble_eq_true rfl) dX12_bag_10) (fun w_2 H locs hw_w_2 hP hD hS => ?_)
    obtain ⟨hW_w_2, hs_w_2⟩ := hw_w_2
    refine lv_iload_n hx hb dX12_bag_13 rfl (lv_at hl 1 rfl) ?_
    refine lv_if_lt (tgt := 25) hx hb dX12_bag_14 (by decide) (fun c_4 => ?_) (fun c_4 => ?_)
    · refine lv_iconst (v := (-1)) hx hb dX12_bag_25 (by decide) ?_
      refine lv_goto (tgt := 35) hx hb dX12_bag_26 (by decide) ?_
      exact hret _ _ _ _ _ _ hP hD hS dX12_bag_35 ⟨hW_w_2, (Sm.rf.tr hs_w_2 (by decide)), (In_lit (n := (-1)) (by decide) (by decide) : In (-1) 39 (-1))⟩
    · refine lv_iload_n hx hb dX12_bag_17 rfl (lv_at hl 1 rfl) ?_
      refine lv_aload_n hx hb dX12_bag_18 rfl (lv_at hl 0 rfl) ?_
      refine gt_X12 hx hb hts hown hK hP 0 (hW_w_2.o tM_0) 88 (by decide) wd_1489 rfl (hW_w_2.fi tM_0 rfl) dX12_bag_19 ?_
      refine lv_icmp_lt (tgt := 29) hx hb dX12_bag_22 (by decide) (fun c_5 => ?_) (fun c_5 => ?_)
      · refine lv_aload_n hx hb dX12_bag_29 rfl (lv_at hl 0 rfl) ?_
        refine gt_X12 hx hb hts hown hK hP 0 (hW_w_2.o tM_0) 87 (by decide) wd_1488 rfl (hW_w_2.fr tM_0 rfl) dX12_bag_30 ?_
        refine lv_iload_n hx hb dX12_bag_33 rfl (lv_at hl 1 rfl) ?_
        refine va_iald hx hb hK hP 59 0 (hW_w_2.a tM_59) rfl (in_I (R_lt_l (R_nlt_l (In_any p1) (In_lit (n := 0) (by decide) (by decide) : In 0 0 0) c_4 (by decide) : In 0 2147483647 p1) (hW_w_2.fin tM_0 rfl : In 0 40 (fI w_2 0 88)) c_5 (by decide) : In 0 39 p1) (by decide)) dX12_bag_34 ?_
        refine lv_topi (fun v_6 ev_6 => ?_)
        exact hret _ _ _ _ _ _ hP hD hS dX12_bag_35 ⟨hW_w_2, (Sm.rf.tr hs_w_2 (by decide)), (In_w (In_of ev_6 (hW_w_2.ap tM_59 _) : In 0 39 v_6) (by decide) : In (-1) 39 v_6)⟩
      · refine lv_iconst (v := (-1)) hx hb dX12_bag_25 (by decide) ?_
        refine lv_goto (tgt := 35) hx hb dX12_bag_26 (by decide) ?_
        exact hret _ _ _ _ _ _ hP hD hS dX12_bag_35 ⟨hW_w_2, (Sm.rf.tr hs_w_2 (by decide)), (In_lit (n := (-1)) (by decide) (by decide) : In (-1) 39 (-1))⟩
  · refine lv_iconst (v := (-1)) hx hb dX12_bag_7 (by decide) ?_
    exact hret _ _ _ _ _ _ hP hD hS dX12_bag_8 ⟨hW_w, Sm.rf, (In_lit (n := (-1)) (by decide) (by decide) : In (-1) 39 (-1))⟩
set_option maxRecDepth 100000 in
set_option maxHeartbeats 8000000 in
theorem k_X12_bagsOf (l : Launch) (D : va_G) (cI cJ cZ : ClassId) (q : Nat → Nat) (w : va_W) (hW_w : HT q (TM q cI cJ cZ) w) (p1 : Int32) (p2 : Int32) (i_p1 : In 0 39 p1) (i_p2 : In 1 24 p2) (hf_0_69 : In 1 40 (fI w 0 69)) : Con_i l yX12_bagsOf cX12_bagsOf 5 (some .int) ({ frames := 0, cells := 0, slots := 0, locals := 0 }) D cI cJ cZ eW [.ref (q 0), .int p1, .int p2] w (fun (r : Int32) (w1 : va_W) => HT q (TM q cI cJ cZ) w1 ∧ Sm [] [] w w1) := by
  refine eQ_i rfl (by decide) (Nat.le_of_ble_eq_true rfl) ⟨rfl, rfl⟩ ?_
  intro p e R s m args below meth c A Q hx hb hml hown hts hK hE hA hR hret hP hD hS ls hl
  have hown : s.vm.findClass RX12 = some m.cls := hown
  have hl : lv_has ls 5 [(0, .ref (q 0)), (1, .int p1), (2, .int p2)] := hl
  have J26 : ∀ (N : Nat) (x26_3 : Int32) (x26_4 : Int32) (w26 : va_W) (H : Heap) (locs : List Loc) (ls : Array Slot), (40 - x26_4.toInt).toNat < N → HT q (TM q cI cJ cZ) w26 → Sm [] [] w w26 → (In 0 39 p1) → (In 1 24 p2) → (In 0 40 x26_4) → (In 1 40 (fI w26 0 69)) → va_P D vwCl w26 H → va_D A w26 → va_S A s.heap H locs → lv_has ls 5 [(0, .ref (q 0)), (1, .int p1), (2, .int p2), (3, .int x26_3), (4, .int x26_4)] → W p l e R s m args below meth c H locs 0 0 Q (F0 m 26 ls []) := by
    intro N
    induction N with
    | zero => intro x26_3 x26_4 w26 H locs ls hmu; exact absurd hmu (Nat.not_lt_zero _)
    | succ N ih26 =>
      intro x26_3 x26_4 w26 H locs ls hmu26 hW_w26 hM_w26 i_x26_1 i_x26_2 i_x26_4 g26_0_69 hP hD hS hl
      have J101 : ∀ (x101_3 : Int32) (w101 : va_W) (H : Heap) (locs : List Loc) (ls : Array Slot), HT q (TM q cI cJ cZ) w101 → Sm [] [] w w101 → (In 0 39 p1) → (In 1 24 p2) → (In 0 39 x26_4) → (In 1 40 (fI w101 0 69)) → va_P D vwCl w101 H → va_D A w101 → va_S A s.heap H locs → lv_has ls 5 [(0, .ref (q 0)), (1, .int p1), (2, .int p2), (3, .int x101_3), (4, .int x26_4)] → W p l e R s m args below meth c H locs 0 0 Q (F0 m 101 ls []) := by
        intro x101_3 w101 H locs ls hW_w101 hM_w101 i_x101_1 i_x101_2 i_x101_4 g101_0_69 hP hD hS hl
        refine lv_iinc (v := (x26_4 + 1)) (lv' := [(4, .int (x26_4 + 1)), (0, .ref (q 0)), (1, .int p1), (2, .int p2), (3, .int x101_3)]) hx hb dX12_bagsOf_101 hl (k := 4) rfl (rfl) (by decide) rfl (fun ls hl => ?_)
        refine lv_goto (tgt := 26) hx hb dX12_bagsOf_104 (by decide) ?_
        exact ih26 x101_3 (x26_4 + 1) w101 _ _ ls (mu_inc hmu26 i_x101_4 (In_lit (n := 1) (by decide) (by decide) : In 1 1 1) (by decide)) hW_w101 hM_w101 i_p1 i_p2 (In_w ((In_add (y := 1) i_x101_4 (In_lit (n := 1) (by decide) (by decide) : In 1 1 1) (by decide)) : In 1 40 (x26_4 + 1)) (by decide) : In 0 40 (x26_4 + 1)) (In_of (hM_w101.gI (by decide)) (In_of (hM_w101.gI (by decide)).symm g101_0_69)) hP hD hS (lv_sub hl [1, 2, 3, 4, 0] rfl)
      refine lv_iload hx hb dX12_bagsOf_26 (lv_at hl 4 rfl) ?_
      refine lv_aload_n hx hb dX12_bagsOf_28 rfl (lv_at hl 0 rfl) ?_
      refine gt_X12 hx hb hts hown hK hP 0 (hW_w26.o tM_0) 69 (by decide) wd_1470 rfl (hW_w26.fi tM_0 rfl) dX12_bagsOf_29 ?_
      refine tov (v := (fI w 0 69)) (hM_w26.gI (by decide)) ?_
      refine lv_icmp_ge (tgt := 107) hx hb dX12_bagsOf_32 (by decide) (fun c_1 => ?_) (fun c_1 => ?_)
      · refine lv_iload_n hx hb dX12_bagsOf_107 rfl (lv_at hl 3 rfl) ?_
        exact hret _ _ _ _ _ _ hP hD hS dX12_bagsOf_108 ⟨hW_w26, hM_w26⟩
      · refine lv_iload hx hb dX12_bagsOf_35 (lv_at hl 4 rfl) ?_
        refine lv_iload_n hx hb dX12_bagsOf_37 rfl (lv_at hl 1 rfl) ?_
        refine lv_icmp_eq (tgt := 101) hx hb dX12_bagsOf_38 (by decide) (fun c_2 => ?_) (fun c_2 => ?_)
        · exact J101 x26_3 w26 _ _ ls hW_w26 hM_w26 i_p1 i_p2 (R_nle_r (In_of (hM_w26.gI (by decide)).symm g26_0_69) i_x26_4 c_1 (by decide) : In 0 39 x26_4) (In_of (hM_w26.gI (by decide)) (In_of (hM_w26.gI (by decide)).symm g26_0_69)) hP hD hS (lv_sub hl [0, 1, 2, 3, 4] rfl)
        · refine lv_aload_n hx hb dX12_bagsOf_41 rfl (lv_at hl 0 rfl) ?_
          refine gt_X12 hx hb hts hown hK hP 0 (hW_w26.o tM_0) 71 (by decide) wd_1472 rfl (hW_w26.fr tM_0 rfl) dX12_bagsOf_42 ?_
          refine lv_iload_n hx hb dX12_bagsOf_45 rfl (lv_at hl 1 rfl) ?_
          refine va_iald hx hb hK hP 48 0 (hW_w26.a tM_48) rfl (in_I i_p1 (by decide)) dX12_bagsOf_46 ?_
          refine lv_topi (fun v_3 ev_3 => ?_)
          refine lv_if_eq (tgt := 101) hx hb dX12_bagsOf_47 (by decide) (fun c_4 => ?_) (fun c_4 => ?_)
          · exact J101 x26_3 w26 _ _ ls hW_w26 hM_w26 i_p1 i_p2 (R_nle_r (In_of (hM_w26.gI (by decide)).symm g26_0_69) i_x26_4 c_1 (by decide) : In 0 39 x26_4) (In_of (hM_w26.gI (by decide)) (In_of (hM_w26.gI (by decide)).symm g26_0_69)) hP hD hS (lv_sub hl [0, 1, 2, 3, 4] rfl)
          · refine lv_aload_n hx hb dX12_bagsOf_50 rfl (lv_at hl 0 rfl) ?_
            refine gt_X12 hx hb hts hown hK hP 0 (hW_w26.o tM_0) 71 (by decide) wd_1472 rfl (hW_w26.fr tM_0 rfl) dX12_bagsOf_51 ?_
            refine lv_iload hx hb dX12_bagsOf_54 (lv_at hl 4 rfl) ?_
            refine va_iald hx hb hK hP 48 0 (hW_w26.a tM_48) rfl (in_I (R_nle_r (In_of (hM_w26.gI (by decide)).symm g26_0_69) i_x26_4 c_1 (by decide) : In 0 39 x26_4) (by decide)) dX12_bagsOf_56 ?_
            refine lv_topi (fun v_5 ev_5 => ?_)
            refine lv_aload_n hx hb dX12_bagsOf_57 rfl (lv_at hl 0 rfl) ?_
            refine gt_X12 hx hb hts hown hK hP 0 (hW_w26.o tM_0) 71 (by decide) wd_1472 rfl (hW_w26.fr tM_0 rfl) dX12_bagsOf_58 ?_
            refine lv_iload_n hx hb dX12_bagsOf_61 rfl (lv_at hl 1 rfl) ?_
            refine va_iald hx hb hK hP 48 0 (hW_w26.a tM_48) rfl (in_I i_p1 (by decide)) dX12_bagsOf_62 ?_
            refine tov (v := v_3) ((congrFun (hM_w26.hA (by decide)) _).trans ((congrFun (hM_w26.hA (by decide)) _).symm.trans ev_3.symm)) ?_
            refine lv_icmp_ne (tgt := 101) hx hb dX12_bagsOf_63 (by decide) (fun c_6 => ?_) (fun c_6 => ?_)
            · exact J101 x26_3 w26 _ _ ls hW_w26 hM_w26 i_p1 i_p2 (R_nle_r (In_of (hM_w26.gI (by decide)).symm g26_0_69) i_x26_4 c_1 (by decide) : In 0 39 x26_4) (In_of (hM_w26.gI (by decide)) (In_of (hM_w26.gI (by decide)).symm g26_0_69)) hP hD hS (lv_sub hl [0, 1, 2, 3, 4] rfl)
            · refine lv_aload_n hx hb dX12_bagsOf_66 rfl (lv_at hl 0 rfl) ?_
              refine gt_X12 hx hb hts hown hK hP 0 (hW_w26.o tM_0) 76 (by decide) wd_1477 rfl (hW_w26.fr tM_0 rfl) dX12_bagsOf_67 ?_
              refine lv_iload hx hb dX12_bagsOf_70 (lv_at hl 4 rfl) ?_
              refine va_iald hx hb hK hP 53 0 (hW_w26.a tM_53) rfl (in_I (R_nle_r (In_of (hM_w26.gI (by decide)).symm g26_0_69) i_x26_4 c_1 (by decide) : In 0 39 x26_4) (by decide)) dX12_bagsOf_72 ?_
              refine lv_topi (fun v_7 ev_7 => ?_)
              refine lv_if_eq (tgt := 101) hx hb dX12_bagsOf_73 (by decide) (fun c_8 => ?_) (fun c_8 => ?_)
              · exact J101 x26_3 w26 _ _ ls hW_w26 hM_w26 i_p1 i_p2 (R_nle_r (In_of (hM_w26.gI (by decide)).symm g26_0_69) i_x26_4 c_1 (by decide) : In 0 39 x26_4) (In_of (hM_w26.gI (by decide)) (In_of (hM_w26.gI (by decide)).symm g26_0_69)) hP hD hS (lv_sub hl [0, 1, 2, 3, 4] rfl)
              · refine lv_aload_n hx hb dX12_bagsOf_76 rfl (lv_at hl 0 rfl) ?_
                refine gt_X12 hx hb hts hown hK hP 0 (hW_w26.o tM_0) 72 (by decide) wd_1473 rfl (hW_w26.fr tM_0 rfl) dX12_bagsOf_77 ?_
                refine lv_iload hx hb dX12_bagsOf_80 (lv_at hl 4 rfl) ?_
                refine va_iald hx hb hK hP 49 0 (hW_w26.a tM_49) rfl (in_I (R_nle_r (In_of (hM_w26.gI (by decide)).symm g26_0_69) i_x26_4 c_1 (by decide) : In 0 39 x26_4) (by decide)) dX12_bagsOf_82 ?_
                refine lv_topi (fun v_9 ev_9 => ?_)
                refine lv_iload_n hx hb dX12_bagsOf_83 rfl (lv_at hl 2 rfl) ?_
                refine lv_icmp_eq (tgt := 90) hx hb dX12_bagsOf_84 (by decide) (fun c_10 => ?_) (fun c_10 => ?_)
                · refine lv_iload hx hb dX12_bagsOf_90 (lv_at hl 4 rfl) ?_
                  refine lv_iload_n hx hb dX12_bagsOf_92 rfl (lv_at hl 1 rfl) ?_
                  refine lv_icmp_ge (tgt := 98) hx hb dX12_bagsOf_93 (by decide) (fun c_11 => ?_) (fun c_11 => ?_)
                  · refine lv_iinc (v := (x26_3 + 1)) (lv' := [(3, .int (x26_3 + 1)), (0, .ref (q 0)), (1, .int p1), (2, .int p2), (4, .int x26_4)]) hx hb dX12_bagsOf_98 hl (k := 3) rfl (rfl) (by decide) rfl (fun ls hl => ?_)
                    exact J101 (x26_3 + 1) w26 _ _ ls hW_w26 hM_w26 i_p1 i_p2 (R_nle_r (In_of (hM_w26.gI (by decide)).symm g26_0_69) i_x26_4 c_1 (by decide) : In 0 39 x26_4) (In_of (hM_w26.gI (by decide)) (In_of (hM_w26.gI (by decide)).symm g26_0_69)) hP hD hS (lv_sub hl [1, 2, 3, 0, 4] rfl)
                  · refine lv_iconst (v := 0) hx hb dX12_bagsOf_96 (by decide) ?_
                    exact hret _ _ _ _ _ _ hP hD hS dX12_bagsOf_97 ⟨hW_w26, hM_w26⟩
                · refine lv_goto (tgt := 101) hx hb dX12_bagsOf_87 (by decide) ?_
                  exact J101 x26_3 w26 _ _ ls hW_w26 hM_w26 i_p1 i_p2 (R_nle_r (In_of (hM_w26.gI (by decide)).symm g26_0_69) i_x26_4 c_1 (by decide) : In 0 39 x26_4) (In_of (hM_w26.gI (by decide)) (In_of (hM_w26.gI (by decide)).symm g26_0_69)) hP hD hS (lv_sub hl [0, 1, 2, 3, 4] rfl)
  refine lv_aload_n hx hb dX12_bagsOf_0 rfl (lv_at hl 0 rfl) ?_
  refine gt_X12 hx hb hts hown hK hP 0 (hW_w.o tM_0) 76 (by decide) wd_1477 rfl (hW_w.fr tM_0 rfl) dX12_bagsOf_1 ?_
  refine lv_iload_n hx hb dX12_bagsOf_4 rfl (lv_at hl 1 rfl) ?_
  refine va_iald hx hb hK hP 53 0 (hW_w.a tM_53) rfl (in_I i_p1 (by decide)) dX12_bagsOf_5 ?_
  refine lv_topi (fun v_12 ev_12 => ?_)
  refine lv_if_eq (tgt := 19) hx hb dX12_bagsOf_6 (by decide) (fun c_13 => ?_) (fun c_13 => ?_)
  · refine lv_iconst (v := 0) hx hb dX12_bagsOf_19 (by decide) ?_
    exact hret _ _ _ _ _ _ hP hD hS dX12_bagsOf_20 ⟨hW_w, Sm.rf⟩
  · refine lv_aload_n hx hb dX12_bagsOf_9 rfl (lv_at hl 0 rfl) ?_
    refine gt_X12 hx hb hts hown hK hP 0 (hW_w.o tM_0) 72 (by decide) wd_1473 rfl (hW_w.fr tM_0 rfl) dX12_bagsOf_10 ?_
    refine lv_iload_n hx hb dX12_bagsOf_13 rfl (lv_at hl 1 rfl) ?_
    refine va_iald hx hb hK hP 49 0 (hW_w.a tM_49) rfl (in_I i_p1 (by decide)) dX12_bagsOf_14 ?_
    refine lv_topi (fun v_14 ev_14 => ?_)
    refine lv_iload_n hx hb dX12_bagsOf_15 rfl (lv_at hl 2 rfl) ?_
    refine lv_icmp_eq (tgt := 21) hx hb dX12_bagsOf_16 (by decide) (fun c_15 => ?_) (fun c_15 => ?_)
    · refine lv_iconst (v := 1) hx hb dX12_bagsOf_21 (by decide) ?_
      refine lv_istore_n (lv' := [(3, .int 1), (0, .ref (q 0)), (1, .int p1), (2, .int p2)]) hx hb dX12_bagsOf_22 rfl hl (by decide) rfl (fun ls hl => ?_)
      refine lv_iconst (v := 0) hx hb dX12_bagsOf_23 (by decide) ?_
      refine lv_istore (lv' := [(4, .int 0), (3, .int 1), (0, .ref (q 0)), (1, .int p1), (2, .int p2)]) hx hb dX12_bagsOf_24 hl (by decide) rfl (fun ls hl => ?_)
      exact J26 _ 1 0 w _ _ ls (Nat.lt_succ_self _) hW_w Sm.rf i_p1 i_p2 (In_lit (n := 0) (by decide) (by decide) : In 0 40 0) hf_0_69 hP hD hS (lv_sub hl [2, 3, 4, 1, 0] rfl)
    · refine lv_iconst (v := 0) hx hb dX12_bagsOf_19 (by decide) ?_
      exact hret _ _ _ _ _ _ hP hD hS dX12_bagsOf_20 ⟨hW_w, Sm.rf⟩
set_option maxRecDepth 100000 in
set_option maxHeartbeats 8000000 in
theorem k_X12_queue (l : Launch) (D : va_G) (cI cJ cZ : ClassId) (q : Nat → Nat) (w : va_W) (hW_w : HT q (TM q cI cJ cZ) w) (p1 : Int32) (p2 : Int32) (p3 : Int32) : Con_i l yX12_queue cX12_queue 10 (some .int) ({ frames := 1, cells := 0, slots := 0, locals := 24 }) D cI cJ cZ eW [.ref (q 0), .int p1, .int p2, .int p3] w (fun (r : Int32) (w1 : va_W) => HT q (TM q cI cJ cZ) w1 ∧ Sm [60, 61, 62] [] w w1) := by
  refine eQ_i rfl (by decide) (Nat.le_of_ble_eq_true rfl) ⟨rfl, rfl⟩ ?_
  intro p e R s m args below meth c A Q hx hb hml hown hts hK hE hA hR hret hP hD hS ls hl
  have hown : s.vm.findClass RX12 = some m.cls := hown
  have hl : lv_has ls 10 [(0, .ref (q 0)), (1, .int p1), (2, .int p2), (3, .int p3)] := hl
  have J195 : ∀ (N : Nat) (x195_4 : Int32) (x195_5 : Int32) (x195_6 : Int32) (x195_7 : Int32) (w195 : va_W) (H : Heap) (locs : List Loc) (ls : Array Slot), (40 - x195_7.toInt).toNat < N → HT q (TM q cI cJ cZ) w195 → Sm [60, 61, 62] [] w w195 → (In 1 24 p1) → (In 1 9 p2) → (In 0 2 p3) → (In 0 40 x195_4) → (In 0 2147483647 x195_6) → (In 0 40 x195_7) → (In 1 1 (fI w195 0 68)) → va_P D vwCl w195 H → va_D A w195 → va_S A s.heap H locs → lv_has ls 10 [(0, .ref (q 0)), (1, .int p1), (2, .int p2), (3, .int p3), (4, .int x195_4), (5, .int x195_5), (6, .int x195_6), (7, .int x195_7)] → W p l e R s m args below meth c H locs 0 0 Q (F0 m 195 ls []) := by
    intro N
    induction N with
    | zero => intro x195_4 x195_5 x195_6 x195_7 w195 H locs ls hmu; exact absurd hmu (Nat.not_lt_zero _)
    | succ N ih195 =>
      intro x195_4 x195_5 x195_6 x195_7 w195 H locs ls hmu195 hW_w195 hM_w195 i_x195_1 i_x195_2 i_x195_3 i_x195_4 i_x195_6 i_x195_7 g195_0_68 hP hD hS hl
      have J299 : ∀ (x299_5 : Int32) (x299_8 : Int32) (x299_9 : Int32) (y299_0 : Int32) (w299 : va_W) (H : Heap) (locs : List Loc) (ls : Array Slot), HT q (TM q cI cJ cZ) w299 → Sm [60, 61, 62] [] w w299 → (In 1 24 p1) → (In 1 9 p2) → (In 0 2 p3) → (In 1 40 x195_4) → (In 0 2147483647 x195_6) → (In 0 39 x195_7) → (In 0 8 x299_8) → (In 1 9 x299_9) → (In 0 2147483647 y299_0) → (In 1 1 (fI w299 0 68)) → va_P D vwCl w299 H → va_D A w299 → va_S A s.heap H locs → lv_has ls 10 [(0, .ref (q 0)), (1, .int p1), (2, .int p2), (3, .int p3), (4, .int x195_4), (5, .int x299_5), (6, .int x195_6), (7, .int x195_7), (8, .int x299_8), (9, .int x299_9)] → W p l e R s m args below meth c H locs 0 0 Q (F0 m 299 ls [.int y299_0]) := by
        intro x299_5 x299_8 x299_9 y299_0 w299 H locs ls hW_w299 hM_w299 i_x299_1 i_x299_2 i_x299_3 i_x299_4 i_x299_6 i_x299_7 i_x299_8 i_x299_9 i_y299_0 g299_0_68 hP hD hS hl
        refine lv_istore (lv' := [(6, .int y299_0), (0, .ref (q 0)), (1, .int p1), (2, .int p2), (3, .int p3), (4, .int x195_4), (5, .int x299_5), (7, .int x195_7), (8, .int x299_8), (9, .int x299_9)]) hx hb dX12_queue_299 hl (by decide) rfl (fun ls hl => ?_)
        refine lv_iinc (v := (x195_7 + 1)) (lv' := [(7, .int (x195_7 + 1)), (6, .int y299_0), (0, .ref (q 0)), (1, .int p1), (2, .int p2), (3, .int p3), (4, .int x195_4), (5, .int x299_5), (8, .int x299_8), (9, .int x299_9)]) hx hb dX12_queue_301 hl (k := 7) rfl (rfl) (by decide) rfl (fun ls hl => ?_)
        refine lv_goto (tgt := 195) hx hb dX12_queue_304 (by decide) ?_
        exact ih195 x195_4 x299_5 y299_0 (x195_7 + 1) w299 _ _ ls (mu_inc hmu195 i_x299_7 (In_lit (n := 1) (by decide) (by decide) : In 1 1 1) (by decide)) hW_w299 hM_w299 i_x195_1 i_x195_2 i_x195_3 (In_w i_x299_4 (by decide) : In 0 40 x195_4) i_y299_0 (In_w ((In_add (y := 1) i_x299_7 (In_lit (n := 1) (by decide) (by decide) : In 1 1 1) (by decide)) : In 1 40 (x195_7 + 1)) (by decide) : In 0 40 (x195_7 + 1)) (In_of (hM_w299.gI (by decide)) (In_of (hM_w299.gI (by decide)).symm g299_0_68)) hP hD hS (lv_sub hl [2, 3, 4, 5, 6, 7, 1, 0] rfl)
      have J208 : ∀ (N : Nat) (x208_8 : Int32) (x208_9 : Int32) (w208 : va_W) (H : Heap) (locs : List Loc) (ls : Array Slot), (9 - x208_9.toInt).toNat < N → HT q (TM q cI cJ cZ) w208 → Sm [60, 61, 62] [] w w208 → (In 1 24 p1) → (In 1 9 p2) → (In 0 2 p3) → (In 1 40 x195_4) → (In 0 2147483647 x195_6) → (In 0 39 x195_7) → (In 0 8 x208_8) → (In 1 9 x208_9) → (In 1 1 (fI w208 0 68)) → va_P D vwCl w208 H → va_D A w208 → va_S A s.heap H locs → lv_has ls 10 [(0, .ref (q 0)), (1, .int p1), (2, .int p2), (3, .int p3), (4, .int x195_4), (5, .int x195_5), (6, .int x195_6), (7, .int x195_7), (8, .int x208_8), (9, .int x208_9)] → W p l e R s m args below meth c H locs 0 0 Q (F0 m 208 ls []) := by
        intro N
        induction N with
        | zero => intro x208_8 x208_9 w208 H locs ls hmu; exact absurd hmu (Nat.not_lt_zero _)
        | succ N ih208 =>
          intro x208_8 x208_9 w208 H locs ls hmu208 hW_w208 hM_w208 i_x208_1 i_x208_2 i_x208_3 i_x208_4 i_x208_6 i_x208_7 i_x208_8 i_x208_9 g208_0_68 hP hD hS hl
          have J238 : ∀ (y238_0 : Int32) (w238 : va_W) (H : Heap) (locs : List Loc) (ls : Array Slot), HT q (TM q cI cJ cZ) w238 → Sm [60, 61, 62] [] w w238 → (In 1 24 p1) → (In 2 9 p2) → (In 0 2 p3) → (In 1 40 x195_4) → (In 0 2147483647 x195_6) → (In 0 39 x195_7) → (In 0 8 x208_8) → (In 1 8 x208_9) → (In 0 8 y238_0) → (In 1 1 (fI w238 0 68)) → va_P D vwCl w238 H → va_D A w238 → va_S A s.heap H locs → lv_has ls 10 [(0, .ref (q 0)), (1, .int p1), (2, .int p2), (3, .int p3), (4, .int x195_4), (5, .int x195_5), (6, .int x195_6), (7, .int x195_7), (8, .int x208_8), (9, .int x208_9)] → W p l e R s m args below meth c H locs 0 0 Q (F0 m 238 ls [.int y238_0]) := by
            intro y238_0 w238 H locs ls hW_w238 hM_w238 i_x238_1 i_x238_2 i_x238_3 i_x238_4 i_x238_6 i_x238_7 i_x238_8 i_x238_9 i_y238_0 g238_0_68 hP hD hS hl
            refine lv_istore (lv' := [(8, .int y238_0), (0, .ref (q 0)), (1, .int p1), (2, .int p2), (3, .int p3), (4, .int x195_4), (5, .int x195_5), (6, .int x195_6), (7, .int x195_7), (9, .int x208_9)]) hx hb dX12_queue_238 hl (by decide) rfl (fun ls hl => ?_)
            refine lv_iinc (v := (x208_9 + 1)) (lv' := [(9, .int (x208_9 + 1)), (8, .int y238_0), (0, .ref (q 0)), (1, .int p1), (2, .int p2), (3, .int p3), (4, .int x195_4), (5, .int x195_5), (6, .int x195_6), (7, .int x195_7)]) hx hb dX12_queue_240 hl (k := 9) rfl (rfl) (by decide) rfl (fun ls hl => ?_)
            refine lv_goto (tgt := 208) hx hb dX12_queue_243 (by decide) ?_
            exact ih208 y238_0 (x208_9 + 1) w238 _ _ ls (mu_inc hmu208 i_x238_9 (In_lit (n := 1) (by decide) (by decide) : In 1 1 1) (by decide)) hW_w238 hM_w238 i_x195_1 (In_w i_x238_2 (by decide) : In 1 9 p2) i_x195_3 i_x208_4 i_x195_6 i_x208_7 i_y238_0 (In_w ((In_add (y := 1) i_x238_9 (In_lit (n := 1) (by decide) (by decide) : In 1 1 1) (by decide)) : In 2 9 (x208_9 + 1)) (by decide) : In 1 9 (x208_9 + 1)) (In_of (hM_w238.gI (by decide)) (In_of (hM_w238.gI (by decide)).symm g238_0_68)) hP hD hS (lv_sub hl [2, 3, 4, 5, 6, 7, 8, 9, 1, 0] rfl)
          refine lv_iload hx hb dX12_queue_208 (lv_at hl 9 rfl) ?_
          refine lv_iload_n hx hb dX12_queue_210 rfl (lv_at hl 2 rfl) ?_
          refine lv_icmp_ge (tgt := 246) hx hb dX12_queue_211 (by decide) (fun c_1 => ?_) (fun c_1 => ?_)
          · refine lv_iload hx hb dX12_queue_246 (lv_at hl 5 rfl) ?_
            refine lv_aload_n hx hb dX12_queue_248 rfl (lv_at hl 0 rfl) ?_
            refine gt_X12 hx hb hts hown hK hP 0 (hW_w208.o tM_0) 91 (by decide) wd_1492 rfl (hW_w208.fr tM_0 rfl) dX12_queue_249 ?_
            refine lv_iload hx hb dX12_queue_252 (lv_at hl 8 rfl) ?_
            refine va_iald hx hb hK hP 62 0 (hW_w208.a tM_62) rfl (in_I i_x208_8 (by decide)) dX12_queue_254 ?_
            refine lv_topi (fun v_2 ev_2 => ?_)
            refine lv_iadd hx hb dX12_queue_255 ?_
            refine lv_topi (fun v_3 ev_3 => ?_)
            refine lv_istore (lv' := [(5, .int v_3), (0, .ref (q 0)), (1, .int p1), (2, .int p2), (3, .int p3), (4, .int x195_4), (6, .int x195_6), (7, .int x195_7), (8, .int x208_8), (9, .int x208_9)]) hx hb dX12_queue_256 hl (by decide) rfl (fun ls hl => ?_)
            refine lv_aload_n hx hb dX12_queue_258 rfl (lv_at hl 1 rfl) ?_
            refine gt_X12 hx hb hts hown hK hP 0 (hW_w208.o tM_0) 91 (by decide) wd_1492 rfl (hW_w208.fr tM_0 rfl) dX12_queue_259 ?_
            refine lv_iload hx hb dX12_queue_262 (lv_at hl 8 rfl) ?_
            refine lv_dup2_11 hx hb dX12_queue_264 rfl rfl ?_
            refine va_iald hx hb hK hP 62 0 (hW_w208.a tM_62) rfl (in_I i_x208_8 (by decide)) dX12_queue_265 ?_
            refine tov (v := v_2) ev_2.symm ?_
            refine lv_aload_n hx hb dX12_queue_266 rfl (lv_at hl 1 rfl) ?_
            refine gt_X12 hx hb hts hown hK hP 0 (hW_w208.o tM_0) 90 (by decide) wd_1491 rfl (hW_w208.fr tM_0 rfl) dX12_queue_267 ?_
            refine lv_iload hx hb dX12_queue_270 (lv_at hl 7 rfl) ?_
            refine va_iald hx hb hK hP 61 0 (hW_w208.a tM_61) rfl (in_I i_x208_7 (by decide)) dX12_queue_272 ?_
            refine lv_topi (fun v_4 ev_4 => ?_)
            refine lv_iadd hx hb dX12_queue_273 ?_
            refine lv_topi (fun v_5 ev_5 => ?_)
            refine va_iast hx hb hK hP hD hS 62 0 (hW_w208.a tM_62) rfl (in_I i_x208_8 (by decide)) dX12_queue_274 (fun H locs hP hD hS => fr_w (hW_w208.uA tM_62 (In_any v_5)) hP hD (fun w_6 ew_6 hW_w_6 hP hD => ?_))
            refine lv_aload_n hx hb dX12_queue_275 rfl (lv_at hl 1 rfl) ?_
            refine gt_X12 hx hb hts hown hK hP 0 (hW_w_6.o tM_0) 91 (by decide) wd_1492 rfl (hW_w_6.fr tM_0 rfl) dX12_queue_276 ?_
            refine lv_iload hx hb dX12_queue_279 (lv_at hl 8 rfl) ?_
            refine va_iald hx hb hK hP 62 0 (hW_w_6.a tM_62) rfl (in_I i_x208_8 (by decide)) dX12_queue_281 ?_
            refine tov (v := v_5) (upd_at (aF_eq (hW_w208.lt tM_62) ew_6)) ?_
            refine lv_iload hx hb dX12_queue_282 (lv_at hl 6 rfl) ?_
            refine lv_icmp_le (tgt := 297) hx hb dX12_queue_284 (by decide) (fun c_7 => ?_) (fun c_7 => ?_)
            · refine lv_iload hx hb dX12_queue_297 (lv_at hl 6 rfl) ?_
              exact J299 v_3 x208_8 x208_9 x195_6 w_6 _ _ ls hW_w_6 (hM_w208.sa ew_6 (by decide)) i_x195_1 i_x195_2 i_x195_3 i_x208_4 i_x195_6 i_x208_7 i_x208_8 i_x208_9 i_x195_6 (In_of ((fI_cg (st_ne ew_6 (by decide))).trans (hM_w208.gI (by decide))) (In_of (hM_w208.gI (by decide)).symm g208_0_68)) hP hD hS (lv_sub hl [1, 2, 3, 4, 5, 0, 6, 7, 8, 9] rfl)
            · refine lv_aload_n hx hb dX12_queue_287 rfl (lv_at hl 1 rfl) ?_
              refine gt_X12 hx hb hts hown hK hP 0 (hW_w_6.o tM_0) 91 (by decide) wd_1492 rfl (hW_w_6.fr tM_0 rfl) dX12_queue_288 ?_
              refine lv_iload hx hb dX12_queue_291 (lv_at hl 8 rfl) ?_
              refine va_iald hx hb hK hP 62 0 (hW_w_6.a tM_62) rfl (in_I i_x208_8 (by decide)) dX12_queue_293 ?_
              refine tov (v := v_5) (upd_at (aF_eq (hW_w208.lt tM_62) ew_6)) ?_
              refine lv_goto (tgt := 299) hx hb dX12_queue_294 (by decide) ?_
              exact J299 v_3 x208_8 x208_9 v_5 w_6 _ _ ls hW_w_6 (hM_w208.sa ew_6 (by decide)) i_x195_1 i_x195_2 i_x195_3 i_x208_4 (In_w (R_nle_r (In_any v_5) i_x195_6 c_7 (by decide) : In 0 2147483646 x195_6) (by decide) : In 0 2147483647 x195_6) i_x208_7 i_x208_8 i_x208_9 (In_w (R_nle_l (In_any v_5) i_x195_6 c_7 (by decide) : In 1 2147483647 v_5) (by decide) : In 0 2147483647 v_5) (In_of ((fI_cg (st_ne ew_6 (by decide))).trans (hM_w208.gI (by decide))) (In_of (hM_w208.gI (by decide)).symm g208_0_68)) hP hD hS (lv_sub hl [1, 2, 3, 4, 5, 0, 6, 7, 8, 9] rfl)
          · refine lv_aload_n hx hb dX12_queue_214 rfl (lv_at hl 0 rfl) ?_
            refine gt_X12 hx hb hts hown hK hP 0 (hW_w208.o tM_0) 91 (by decide) wd_1492 rfl (hW_w208.fr tM_0 rfl) dX12_queue_215 ?_
            refine lv_iload hx hb dX12_queue_218 (lv_at hl 9 rfl) ?_
            refine va_iald hx hb hK hP 62 0 (hW_w208.a tM_62) rfl (in_I (R_nle_r i_x195_2 i_x208_9 c_1 (by decide) : In 1 8 x208_9) (by decide)) dX12_queue_220 ?_
            refine lv_topi (fun v_8 ev_8 => ?_)
            refine lv_aload_n hx hb dX12_queue_221 rfl (lv_at hl 0 rfl) ?_
            refine gt_X12 hx hb hts hown hK hP 0 (hW_w208.o tM_0) 91 (by decide) wd_1492 rfl (hW_w208.fr tM_0 rfl) dX12_queue_222 ?_
            refine lv_iload hx hb dX12_queue_225 (lv_at hl 8 rfl) ?_
            refine va_iald hx hb hK hP 62 0 (hW_w208.a tM_62) rfl (in_I i_x208_8 (by decide)) dX12_queue_227 ?_
            refine lv_topi (fun v_9 ev_9 => ?_)
            refine lv_icmp_ge (tgt := 236) hx hb dX12_queue_228 (by decide) (fun c_10 => ?_) (fun c_10 => ?_)
            · refine lv_iload hx hb dX12_queue_236 (lv_at hl 8 rfl) ?_
              exact J238 x208_8 w208 _ _ ls hW_w208 hM_w208 i_x195_1 (R_nle_l i_x195_2 i_x208_9 c_1 (by decide) : In 2 9 p2) i_x195_3 i_x208_4 i_x195_6 i_x208_7 i_x208_8 (R_nle_r i_x195_2 i_x208_9 c_1 (by decide) : In 1 8 x208_9) i_x208_8 (In_of (hM_w208.gI (by decide)) (In_of (hM_w208.gI (by decide)).symm g208_0_68)) hP hD hS (lv_sub hl [0, 1, 2, 3, 4, 5, 6, 7, 8, 9] rfl)
            · refine lv_iload hx hb dX12_queue_231 (lv_at hl 9 rfl) ?_
              refine lv_goto (tgt := 238) hx hb dX12_queue_233 (by decide) ?_
              exact J238 x208_9 w208 _ _ ls hW_w208 hM_w208 i_x195_1 (R_nle_l i_x195_2 i_x208_9 c_1 (by decide) : In 2 9 p2) i_x195_3 i_x208_4 i_x195_6 i_x208_7 i_x208_8 (R_nle_r i_x195_2 i_x208_9 c_1 (by decide) : In 1 8 x208_9) (In_w (R_nle_r i_x195_2 i_x208_9 c_1 (by decide) : In 1 8 x208_9) (by decide) : In 0 8 x208_9) (In_of (hM_w208.gI (by decide)) (In_of (hM_w208.gI (by decide)).symm g208_0_68)) hP hD hS (lv_sub hl [0, 1, 2, 3, 4, 5, 6, 7, 8, 9] rfl)
      refine lv_iload hx hb dX12_queue_195 (lv_at hl 7 rfl) ?_
      refine lv_iload hx hb dX12_queue_197 (lv_at hl 4 rfl) ?_
      refine lv_icmp_ge (tgt := 307) hx hb dX12_queue_199 (by decide) (fun c_11 => ?_) (fun c_11 => ?_)
      · refine lv_iload_n hx hb dX12_queue_307 rfl (lv_at hl 3 rfl) ?_
        refine lv_if_ne (tgt := 316) hx hb dX12_queue_308 (by decide) (fun c_12 => ?_) (fun c_12 => ?_)
        · refine lv_iload_n hx hb dX12_queue_316 rfl (lv_at hl 3 rfl) ?_
          refine lv_iconst (v := 1) hx hb dX12_queue_317 (by decide) ?_
          refine lv_icmp_ne (tgt := 326) hx hb dX12_queue_318 (by decide) (fun c_13 => ?_) (fun c_13 => ?_)
          · refine lv_iload hx hb dX12_queue_326 (lv_at hl 6 rfl) ?_
            exact hret _ _ _ _ _ _ hP hD hS dX12_queue_328 ⟨hW_w195, hM_w195⟩
          · refine lv_iload hx hb dX12_queue_321 (lv_at hl 5 rfl) ?_
            refine lv_goto (tgt := 328) hx hb dX12_queue_323 (by decide) ?_
            exact hret _ _ _ _ _ _ hP hD hS dX12_queue_328 ⟨hW_w195, hM_w195⟩
        · refine lv_iload hx hb dX12_queue_311 (lv_at hl 4 rfl) ?_
          refine lv_goto (tgt := 328) hx hb dX12_queue_313 (by decide) ?_
          exact hret _ _ _ _ _ _ hP hD hS dX12_queue_328 ⟨hW_w195, hM_w195⟩
      · refine lv_iconst (v := 0) hx hb dX12_queue_202 (by decide) ?_
        refine lv_istore (lv' := [(8, .int 0), (0, .ref (q 0)), (1, .int p1), (2, .int p2), (3, .int p3), (4, .int x195_4), (5, .int x195_5), (6, .int x195_6), (7, .int x195_7)]) hx hb dX12_queue_203 hl (by decide) rfl (fun ls hl => ?_)
        refine lv_iconst (v := 1) hx hb dX12_queue_205 (by decide) ?_
        refine lv_istore (lv' := [(9, .int 1), (8, .int 0), (0, .ref (q 0)), (1, .int p1), (2, .int p2), (3, .int p3), (4, .int x195_4), (5, .int x195_5), (6, .int x195_6), (7, .int x195_7)]) hx hb dX12_queue_206 hl (by decide) rfl (fun ls hl => ?_)
        exact J208 _ 0 1 w195 _ _ ls (Nat.lt_succ_self _) hW_w195 hM_w195 i_x195_1 i_x195_2 i_x195_3 (R_nle_l i_x195_4 i_x195_7 c_11 (by decide) : In 1 40 x195_4) i_x195_6 (R_nle_r i_x195_4 i_x195_7 c_11 (by decide) : In 0 39 x195_7) (In_lit (n := 0) (by decide) (by decide) : In 0 8 0) (In_lit (n := 1) (by decide) (by decide) : In 1 9 1) (In_of (hM_w195.gI (by decide)) (In_of (hM_w195.gI (by decide)).symm g195_0_68)) hP hD hS (lv_sub hl [2, 3, 4, 5, 6, 7, 8, 9, 1, 0] rfl)
  have J165 : ∀ (N : Nat) (x165_4 : Int32) (x165_5 : Int32) (w165 : va_W) (H : Heap) (locs : List Loc) (ls : Array Slot), (9 - x165_5.toInt).toNat < N → HT q (TM q cI cJ cZ) w165 → Sm [60, 61, 62] [] w w165 → (In 1 24 p1) → (In 1 9 p2) → (In 0 2 p3) → (In 0 40 x165_4) → (In 0 9 x165_5) → (In 1 1 (fI w165 0 68)) → va_P D vwCl w165 H → va_D A w165 → va_S A s.heap H locs → lv_has ls 10 [(0, .ref (q 0)), (1, .int p1), (2, .int p2), (3, .int p3), (4, .int x165_4), (5, .int x165_5)] → W p l e R s m args below meth c H locs 0 0 Q (F0 m 165 ls []) := by
    intro N
    induction N with
    | zero => intro x165_4 x165_5 w165 H locs ls hmu; exact absurd hmu (Nat.not_lt_zero _)
    | succ N ih165 =>
      intro x165_4 x165_5 w165 H locs ls hmu165 hW_w165 hM_w165 i_x165_1 i_x165_2 i_x165_3 i_x165_4 i_x165_5 g165_0_68 hP hD hS hl
      refine lv_iload hx hb dX12_queue_165 (lv_at hl 5 rfl) ?_
      refine lv_bipush (v := 9) hx hb dX12_queue_167 (by decide) ?_
      refine lv_icmp_ge (tgt := 186) hx hb dX12_queue_169 (by decide) (fun c_14 => ?_) (fun c_14 => ?_)
      · refine lv_iconst (v := 0) hx hb dX12_queue_186 (by decide) ?_
        refine lv_istore (lv' := [(5, .int 0), (0, .ref (q 0)), (1, .int p1), (2, .int p2), (3, .int p3), (4, .int x165_4)]) hx hb dX12_queue_187 hl (by decide) rfl (fun ls hl => ?_)
        refine lv_iconst (v := 0) hx hb dX12_queue_189 (by decide) ?_
        refine lv_istore (lv' := [(6, .int 0), (5, .int 0), (0, .ref (q 0)), (1, .int p1), (2, .int p2), (3, .int p3), (4, .int x165_4)]) hx hb dX12_queue_190 hl (by decide) rfl (fun ls hl => ?_)
        refine lv_iconst (v := 0) hx hb dX12_queue_192 (by decide) ?_
        refine lv_istore (lv' := [(7, .int 0), (6, .int 0), (5, .int 0), (0, .ref (q 0)), (1, .int p1), (2, .int p2), (3, .int p3), (4, .int x165_4)]) hx hb dX12_queue_193 hl (by decide) rfl (fun ls hl => ?_)
        exact J195 _ x165_4 0 0 0 w165 _ _ ls (Nat.lt_succ_self _) hW_w165 hM_w165 i_x165_1 i_x165_2 i_x165_3 i_x165_4 (In_lit (n := 0) (by decide) (by decide) : In 0 2147483647 0) (In_lit (n := 0) (by decide) (by decide) : In 0 40 0) (In_of (hM_w165.gI (by decide)) (In_of (hM_w165.gI (by decide)).symm g165_0_68)) hP hD hS (lv_sub hl [3, 4, 5, 6, 7, 2, 1, 0] rfl)
      · refine lv_aload_n hx hb dX12_queue_172 rfl (lv_at hl 0 rfl) ?_
        refine gt_X12 hx hb hts hown hK hP 0 (hW_w165.o tM_0) 91 (by decide) wd_1492 rfl (hW_w165.fr tM_0 rfl) dX12_queue_173 ?_
        refine lv_iload hx hb dX12_queue_176 (lv_at hl 5 rfl) ?_
        refine lv_iconst (v := 0) hx hb dX12_queue_178 (by decide) ?_
        refine va_iast hx hb hK hP hD hS 62 0 (hW_w165.a tM_62) rfl (in_I (R_nle_r (In_lit (n := 9) (by decide) (by decide) : In 9 9 9) i_x165_5 c_14 (by decide) : In 0 8 x165_5) (by decide)) dX12_queue_179 (fun H locs hP hD hS => fr_w (hW_w165.uA tM_62 (In_lit (n := 0) (by decide) (by decide) : In (-2147483648) 2147483647 0)) hP hD (fun w_15 ew_15 hW_w_15 hP hD => ?_))
        refine lv_iinc (v := (x165_5 + 1)) (lv' := [(5, .int (x165_5 + 1)), (0, .ref (q 0)), (1, .int p1), (2, .int p2), (3, .int p3), (4, .int x165_4)]) hx hb dX12_queue_180 hl (k := 5) rfl (rfl) (by decide) rfl (fun ls hl => ?_)
        refine lv_goto (tgt := 165) hx hb dX12_queue_183 (by decide) ?_
        exact ih165 x165_4 (x165_5 + 1) w_15 _ _ ls (mu_inc hmu165 (R_nle_r (In_lit (n := 9) (by decide) (by decide) : In 9 9 9) i_x165_5 c_14 (by decide) : In 0 8 x165_5) (In_lit (n := 1) (by decide) (by decide) : In 1 1 1) (by decide)) hW_w_15 (hM_w165.sa ew_15 (by decide)) i_x165_1 i_x165_2 i_x165_3 i_x165_4 (In_w ((In_add (y := 1) (R_nle_r (In_lit (n := 9) (by decide) (by decide) : In 9 9 9) i_x165_5 c_14 (by decide) : In 0 8 x165_5) (In_lit (n := 1) (by decide) (by decide) : In 1 1 1) (by decide)) : In 1 9 (x165_5 + 1)) (by decide) : In 0 9 (x165_5 + 1)) (In_of ((fI_cg (st_ne ew_15 (by decide))).trans (hM_w165.gI (by decide))) (In_of (hM_w165.gI (by decide)).symm g165_0_68)) hP hD hS (lv_sub hl [1, 2, 3, 4, 5, 0] rfl)
  have J44 : ∀ (N : Nat) (x44_4 : Int32) (x44_5 : Int32) (w44 : va_W) (H : Heap) (locs : List Loc) (ls : Array Slot), (40 - x44_5.toInt).toNat < N → HT q (TM q cI cJ cZ) w44 → Sm [60, 61, 62] [] w w44 → (In 1 24 p1) → (In 1 9 p2) → (In 0 2 p3) → (In 0 40 x44_4) → (In 0 40 x44_5) → (In 1 1 (fI w44 0 68)) → ((x44_4 : Int32).toInt ≤ (x44_5 : Int32).toInt) → va_P D vwCl w44 H → va_D A w44 → va_S A s.heap H locs → lv_has ls 10 [(0, .ref (q 0)), (1, .int p1), (2, .int p2), (3, .int p3), (4, .int x44_4), (5, .int x44_5)] → W p l e R s m args below meth c H locs 0 0 Q (F0 m 44 ls []) := by
    intro N
    induction N with
    | zero => intro x44_4 x44_5 w44 H locs ls hmu; exact absurd hmu (Nat.not_lt_zero _)
    | succ N ih44 =>
      intro x44_4 x44_5 w44 H locs ls hmu44 hW_w44 hM_w44 i_x44_1 i_x44_2 i_x44_3 i_x44_4 i_x44_5 g44_0_68 hh_44 hP hD hS hl
      have J156 : ∀ (x156_4 : Int32) (x156_6 : Int32) (w156 : va_W) (H : Heap) (locs : List Loc) (ls : Array Slot), HT q (TM q cI cJ cZ) w156 → Sm [60, 61, 62] [] w w156 → (In 1 24 p1) → (In 1 9 p2) → (In 0 2 p3) → (In 0 40 x156_4) → (In 0 39 x44_5) → (In 1 1 (fI w156 0 68)) → (In 1 40 (fI w156 0 69)) → ((x156_4 : Int32).toInt ≤ (x44_5 : Int32).toInt + 1) → va_P D vwCl w156 H → va_D A w156 → va_S A s.heap H locs → lv_has ls 10 [(0, .ref (q 0)), (1, .int p1), (2, .int p2), (3, .int p3), (4, .int x156_4), (5, .int x44_5), (6, .int x156_6)] → W p l e R s m args below meth c H locs 0 0 Q (F0 m 156 ls []) := by
        intro x156_4 x156_6 w156 H locs ls hW_w156 hM_w156 i_x156_1 i_x156_2 i_x156_3 i_x156_4 i_x156_5 g156_0_68 g156_0_69 hh_156 hP hD hS hl
        refine lv_iinc (v := (x44_5 + 1)) (lv' := [(5, .int (x44_5 + 1)), (0, .ref (q 0)), (1, .int p1), (2, .int p2), (3, .int p3), (4, .int x156_4), (6, .int x156_6)]) hx hb dX12_queue_156 hl (k := 5) rfl (rfl) (by decide) rfl (fun ls hl => ?_)
        refine lv_goto (tgt := 44) hx hb dX12_queue_159 (by decide) ?_
        exact ih44 x156_4 (x44_5 + 1) w156 _ _ ls (mu_inc hmu44 i_x156_5 (In_lit (n := 1) (by decide) (by decide) : In 1 1 1) (by decide)) hW_w156 hM_w156 i_x44_1 i_x44_2 i_x44_3 i_x156_4 (In_w ((In_add (y := 1) i_x156_5 (In_lit (n := 1) (by decide) (by decide) : In 1 1 1) (by decide)) : In 1 40 (x44_5 + 1)) (by decide) : In 0 40 (x44_5 + 1)) (In_of (hM_w156.gI (by decide)) (In_of (hM_w156.gI (by decide)).symm g156_0_68)) (by have t11 := t_add i_x156_5 (In_lit (n := 1) (by decide) (by decide) : In 1 1 1) (by decide); have z1 : (1 : Int32).toInt = 1 := (by decide); omega) hP hD hS (lv_sub hl [1, 2, 3, 4, 5, 0] rfl)
      have J133 : ∀ (x133_6 : Int32) (x133_7 : Int32) (w133 : va_W) (H : Heap) (locs : List Loc) (ls : Array Slot), HT q (TM q cI cJ cZ) w133 → Sm [60, 61, 62] [] w w133 → (In 1 24 p1) → (In 1 9 p2) → (In 0 2 p3) → (In 0 39 x44_4) → (In 0 39 x44_5) → (In 0 39 x133_7) → (In 1 1 (fI w133 0 68)) → (In 1 40 (fI w133 0 69)) → va_P D vwCl w133 H → va_D A w133 → va_S A s.heap H locs → lv_has ls 10 [(0, .ref (q 0)), (1, .int p1), (2, .int p2), (3, .int p3), (4, .int x44_4), (5, .int x44_5), (6, .int x133_6), (7, .int x133_7)] → W p l e R s m args below meth c H locs 0 0 Q (F0 m 133 ls []) := by
        intro x133_6 x133_7 w133 H locs ls hW_w133 hM_w133 i_x133_1 i_x133_2 i_x133_3 i_x133_4 i_x133_5 i_x133_7 g133_0_68 g133_0_69 hP hD hS hl
        refine lv_aload_n hx hb dX12_queue_133 rfl (lv_at hl 0 rfl) ?_
        refine gt_X12 hx hb hts hown hK hP 0 (hW_w133.o tM_0) 90 (by decide) wd_1491 rfl (hW_w133.fr tM_0 rfl) dX12_queue_134 ?_
        refine lv_iload hx hb dX12_queue_137 (lv_at hl 7 rfl) ?_
        refine lv_iload hx hb dX12_queue_139 (lv_at hl 6 rfl) ?_
        refine lv_iconst (v := 2) hx hb dX12_queue_141 (by decide) ?_
        refine lv_iadd hx hb dX12_queue_142 ?_
        refine va_iast hx hb hK hP hD hS 61 0 (hW_w133.a tM_61) rfl (in_I i_x133_7 (by decide)) dX12_queue_143 (fun H locs hP hD hS => fr_w (hW_w133.uA tM_61 (In_any (x133_6 + 2))) hP hD (fun w_16 ew_16 hW_w_16 hP hD => ?_))
        refine lv_aload_n hx hb dX12_queue_144 rfl (lv_at hl 0 rfl) ?_
        refine gt_X12 hx hb hts hown hK hP 0 (hW_w_16.o tM_0) 89 (by decide) wd_1490 rfl (hW_w_16.fr tM_0 rfl) dX12_queue_145 ?_
        refine lv_iload hx hb dX12_queue_148 (lv_at hl 7 rfl) ?_
        refine lv_iload hx hb dX12_queue_150 (lv_at hl 5 rfl) ?_
        refine va_iast hx hb hK hP hD hS 60 0 (hW_w_16.a tM_60) rfl (in_I i_x133_7 (by decide)) dX12_queue_152 (fun H locs hP hD hS => fr_w (hW_w_16.uA tM_60 i_x133_5) hP hD (fun w_17 ew_17 hW_w_17 hP hD => ?_))
        refine lv_iinc (v := (x44_4 + 1)) (lv' := [(4, .int (x44_4 + 1)), (0, .ref (q 0)), (1, .int p1), (2, .int p2), (3, .int p3), (5, .int x44_5), (6, .int x133_6), (7, .int x133_7)]) hx hb dX12_queue_153 hl (k := 4) rfl (rfl) (by decide) rfl (fun ls hl => ?_)
        exact J156 (x44_4 + 1) x133_6 w_17 _ _ ls hW_w_17 ((hM_w133.sa ew_16 (by decide)).sa ew_17 (by decide)) i_x44_1 i_x44_2 i_x44_3 (In_w ((In_add (y := 1) i_x133_4 (In_lit (n := 1) (by decide) (by decide) : In 1 1 1) (by decide)) : In 1 40 (x44_4 + 1)) (by decide) : In 0 40 (x44_4 + 1)) i_x133_5 (In_of ((fI_cg (st_ne ew_17 (by decide))).trans ((fI_cg (st_ne ew_16 (by decide))).trans (hM_w133.gI (by decide)))) (In_of (hM_w133.gI (by decide)).symm g133_0_68)) (In_of ((fI_cg (st_ne ew_17 (by decide))).trans ((fI_cg (st_ne ew_16 (by decide))).trans (hM_w133.gI (by decide)))) (In_of (hM_w133.gI (by decide)).symm g133_0_69)) (by have t11 := t_add i_x133_4 (In_lit (n := 1) (by decide) (by decide) : In 1 1 1) (by decide); have z1 : (1 : Int32).toInt = 1 := (by decide); omega) hP hD hS (lv_sub hl [1, 2, 3, 4, 0, 5, 6] rfl)
      have J74 : ∀ (N : Nat) (x74_6 : Int32) (x74_7 : Int32) (w74 : va_W) (H : Heap) (locs : List Loc) (ls : Array Slot), (x74_7.toInt - 0).toNat < N → HT q (TM q cI cJ cZ) w74 → Sm [60, 61, 62] [] w w74 → (In 1 24 p1) → (In 1 9 p2) → (In 0 2 p3) → (In 0 39 x44_4) → (In 0 39 x44_5) → (In 0 39 x74_7) → (In 1 1 (fI w74 0 68)) → (In 1 40 (fI w74 0 69)) → va_P D vwCl w74 H → va_D A w74 → va_S A s.heap H locs → lv_has ls 10 [(0, .ref (q 0)), (1, .int p1), (2, .int p2), (3, .int p3), (4, .int x44_4), (5, .int x44_5), (6, .int x74_6), (7, .int x74_7)] → W p l e R s m args below meth c H locs 0 0 Q (F0 m 74 ls []) := by
        intro N
        induction N with
        | zero => intro x74_6 x74_7 w74 H locs ls hmu; exact absurd hmu (Nat.not_lt_zero _)
        | succ N ih74 =>
          intro x74_6 x74_7 w74 H locs ls hmu74 hW_w74 hM_w74 i_x74_1 i_x74_2 i_x74_3 i_x74_4 i_x74_5 i_x74_7 g74_0_68 g74_0_69 hP hD hS hl
          refine lv_iload hx hb dX12_queue_74 (lv_at hl 7 rfl) ?_
          refine lv_if_le (tgt := 133) hx hb dX12_queue_76 (by decide) (fun c_18 => ?_) (fun c_18 => ?_)
          · exact J133 x74_6 x74_7 w74 _ _ ls hW_w74 hM_w74 i_x44_1 i_x44_2 i_x44_3 i_x74_4 i_x74_5 (In_w (R_le_l i_x74_7 (In_lit (n := 0) (by decide) (by decide) : In 0 0 0) c_18 (by decide) : In 0 0 x74_7) (by decide) : In 0 39 x74_7) (In_of (hM_w74.gI (by decide)) (In_of (hM_w74.gI (by decide)).symm g74_0_68)) (In_of (hM_w74.gI (by decide)) (In_of (hM_w74.gI (by decide)).symm g74_0_69)) hP hD hS (lv_sub hl [0, 1, 2, 3, 4, 5, 6, 7] rfl)
          · refine lv_aload_n hx hb dX12_queue_79 rfl (lv_at hl 0 rfl) ?_
            refine gt_X12 hx hb hts hown hK hP 0 (hW_w74.o tM_0) 90 (by decide) wd_1491 rfl (hW_w74.fr tM_0 rfl) dX12_queue_80 ?_
            refine lv_iload hx hb dX12_queue_83 (lv_at hl 7 rfl) ?_
            refine lv_iconst (v := 1) hx hb dX12_queue_85 (by decide) ?_
            refine lv_isub hx hb dX12_queue_86 ?_
            refine va_iald hx hb hK hP 61 0 (hW_w74.a tM_61) rfl (in_I ((In_sub (R_nle_l i_x74_7 (In_lit (n := 0) (by decide) (by decide) : In 0 0 0) c_18 (by decide) : In 1 39 x74_7) (In_lit (n := 1) (by decide) (by decide) : In 1 1 1) (by decide)) : In 0 38 (x74_7 - 1)) (by decide)) dX12_queue_87 ?_
            refine lv_topi (fun v_19 ev_19 => ?_)
            refine lv_iload hx hb dX12_queue_88 (lv_at hl 6 rfl) ?_
            refine lv_iconst (v := 2) hx hb dX12_queue_90 (by decide) ?_
            refine lv_iadd hx hb dX12_queue_91 ?_
            refine lv_icmp_le (tgt := 133) hx hb dX12_queue_92 (by decide) (fun c_20 => ?_) (fun c_20 => ?_)
            · exact J133 x74_6 x74_7 w74 _ _ ls hW_w74 hM_w74 i_x44_1 i_x44_2 i_x44_3 i_x74_4 i_x74_5 (In_w (R_nle_l i_x74_7 (In_lit (n := 0) (by decide) (by decide) : In 0 0 0) c_18 (by decide) : In 1 39 x74_7) (by decide) : In 0 39 x74_7) (In_of (hM_w74.gI (by decide)) (In_of (hM_w74.gI (by decide)).symm g74_0_68)) (In_of (hM_w74.gI (by decide)) (In_of (hM_w74.gI (by decide)).symm g74_0_69)) hP hD hS (lv_sub hl [0, 1, 2, 3, 4, 5, 6, 7] rfl)
            · refine lv_aload_n hx hb dX12_queue_95 rfl (lv_at hl 0 rfl) ?_
              refine gt_X12 hx hb hts hown hK hP 0 (hW_w74.o tM_0) 90 (by decide) wd_1491 rfl (hW_w74.fr tM_0 rfl) dX12_queue_96 ?_
              refine lv_iload hx hb dX12_queue_99 (lv_at hl 7 rfl) ?_
              refine lv_aload_n hx hb dX12_queue_101 rfl (lv_at hl 0 rfl) ?_
              refine gt_X12 hx hb hts hown hK hP 0 (hW_w74.o tM_0) 90 (by decide) wd_1491 rfl (hW_w74.fr tM_0 rfl) dX12_queue_102 ?_
              refine lv_iload hx hb dX12_queue_105 (lv_at hl 7 rfl) ?_
              refine lv_iconst (v := 1) hx hb dX12_queue_107 (by decide) ?_
              refine lv_isub hx hb dX12_queue_108 ?_
              refine va_iald hx hb hK hP 61 0 (hW_w74.a tM_61) rfl (in_I ((In_sub (R_nle_l i_x74_7 (In_lit (n := 0) (by decide) (by decide) : In 0 0 0) c_18 (by decide) : In 1 39 x74_7) (In_lit (n := 1) (by decide) (by decide) : In 1 1 1) (by decide)) : In 0 38 (x74_7 - 1)) (by decide)) dX12_queue_109 ?_
              refine tov (v := v_19) ev_19.symm ?_
              refine va_iast hx hb hK hP hD hS 61 0 (hW_w74.a tM_61) rfl (in_I (R_nle_l i_x74_7 (In_lit (n := 0) (by decide) (by decide) : In 0 0 0) c_18 (by decide) : In 1 39 x74_7) (by decide)) dX12_queue_110 (fun H locs hP hD hS => fr_w (hW_w74.uA tM_61 (In_w (R_nle_l (In_any v_19) (In_any (x74_6 + 2)) c_20 (by decide) : In (-2147483647) 2147483647 v_19) (by decide) : In (-2147483648) 2147483647 v_19)) hP hD (fun w_21 ew_21 hW_w_21 hP hD => ?_))
              refine lv_aload_n hx hb dX12_queue_111 rfl (lv_at hl 0 rfl) ?_
              refine gt_X12 hx hb hts hown hK hP 0 (hW_w_21.o tM_0) 89 (by decide) wd_1490 rfl (hW_w_21.fr tM_0 rfl) dX12_queue_112 ?_
              refine lv_iload hx hb dX12_queue_115 (lv_at hl 7 rfl) ?_
              refine lv_aload_n hx hb dX12_queue_117 rfl (lv_at hl 0 rfl) ?_
              refine gt_X12 hx hb hts hown hK hP 0 (hW_w_21.o tM_0) 89 (by decide) wd_1490 rfl (hW_w_21.fr tM_0 rfl) dX12_queue_118 ?_
              refine lv_iload hx hb dX12_queue_121 (lv_at hl 7 rfl) ?_
              refine lv_iconst (v := 1) hx hb dX12_queue_123 (by decide) ?_
              refine lv_isub hx hb dX12_queue_124 ?_
              refine va_iald hx hb hK hP 60 0 (hW_w_21.a tM_60) rfl (in_I ((In_sub (R_nle_l i_x74_7 (In_lit (n := 0) (by decide) (by decide) : In 0 0 0) c_18 (by decide) : In 1 39 x74_7) (In_lit (n := 1) (by decide) (by decide) : In 1 1 1) (by decide)) : In 0 38 (x74_7 - 1)) (by decide)) dX12_queue_125 ?_
              refine lv_topi (fun v_22 ev_22 => ?_)
              refine va_iast hx hb hK hP hD hS 60 0 (hW_w_21.a tM_60) rfl (in_I (R_nle_l i_x74_7 (In_lit (n := 0) (by decide) (by decide) : In 0 0 0) c_18 (by decide) : In 1 39 x74_7) (by decide)) dX12_queue_126 (fun H locs hP hD hS => fr_w (hW_w_21.uA tM_60 (In_of ev_22 (hW_w_21.ap tM_60 _) : In 0 39 v_22)) hP hD (fun w_23 ew_23 hW_w_23 hP hD => ?_))
              refine lv_iinc (v := (x74_7 + (-1))) (lv' := [(7, .int (x74_7 + (-1))), (0, .ref (q 0)), (1, .int p1), (2, .int p2), (3, .int p3), (4, .int x44_4), (5, .int x44_5), (6, .int x74_6)]) hx hb dX12_queue_127 hl (k := 7) rfl (rfl) (by decide) rfl (fun ls hl => ?_)
              refine lv_goto (tgt := 74) hx hb dX12_queue_130 (by decide) ?_
              exact ih74 x74_6 (x74_7 + (-1)) w_23 _ _ ls (mu_dec (n := 1) hmu74 (R_nle_l i_x74_7 (In_lit (n := 0) (by decide) (by decide) : In 0 0 0) c_18 (by decide) : In 1 39 x74_7) (by decide) (by decide)) hW_w_23 ((hM_w74.sa ew_21 (by decide)).sa ew_23 (by decide)) i_x44_1 i_x44_2 i_x44_3 i_x74_4 i_x74_5 (In_w ((In_dec (y := (-1)) (n := 1) (R_nle_l i_x74_7 (In_lit (n := 0) (by decide) (by decide) : In 0 0 0) c_18 (by decide) : In 1 39 x74_7) (by decide) (by decide)) : In 0 38 (x74_7 + (-1))) (by decide) : In 0 39 (x74_7 + (-1))) (In_of ((fI_cg (st_ne ew_23 (by decide))).trans ((fI_cg (st_ne ew_21 (by decide))).trans (hM_w74.gI (by decide)))) (In_of (hM_w74.gI (by decide)).symm g74_0_68)) (In_of ((fI_cg (st_ne ew_23 (by decide))).trans ((fI_cg (st_ne ew_21 (by decide))).trans (hM_w74.gI (by decide)))) (In_of (hM_w74.gI (by decide)).symm g74_0_69)) hP hD hS (lv_sub hl [1, 2, 3, 4, 5, 6, 7, 0] rfl)
      refine lv_iload hx hb dX12_queue_44 (lv_at hl 5 rfl) ?_
      refine lv_aload_n hx hb dX12_queue_46 rfl (lv_at hl 0 rfl) ?_
      refine gt_X12 hx hb hts hown hK hP 0 (hW_w44.o tM_0) 69 (by decide) wd_1470 rfl (hW_w44.fi tM_0 rfl) dX12_queue_47 ?_
      refine tov (v := (fI w 0 69)) (hM_w44.gI (by decide)) ?_
      refine lv_icmp_ge (tgt := 162) hx hb dX12_queue_50 (by decide) (fun c_24 => ?_) (fun c_24 => ?_)
      · refine lv_iconst (v := 0) hx hb dX12_queue_162 (by decide) ?_
        refine lv_istore (lv' := [(5, .int 0), (0, .ref (q 0)), (1, .int p1), (2, .int p2), (3, .int p3), (4, .int x44_4)]) hx hb dX12_queue_163 hl (by decide) rfl (fun ls hl => ?_)
        exact J165 _ x44_4 0 w44 _ _ ls (Nat.lt_succ_self _) hW_w44 hM_w44 i_x44_1 i_x44_2 i_x44_3 i_x44_4 (In_lit (n := 0) (by decide) (by decide) : In 0 9 0) (In_of (hM_w44.gI (by decide)) (In_of (hM_w44.gI (by decide)).symm g44_0_68)) hP hD hS (lv_sub hl [1, 2, 3, 4, 5, 0] rfl)
      · refine lv_aload_n hx hb dX12_queue_53 rfl (lv_at hl 0 rfl) ?_
        refine lv_iload hx hb dX12_queue_54 (lv_at hl 5 rfl) ?_
        refine lv_iload_n hx hb dX12_queue_56 rfl (lv_at hl 1 rfl) ?_
        refine kW_i ⟨rfl, rfl⟩ hP hD hS hA (rW_V (As := [.int x44_5, .int p1]) (rest := []) hx hb hml hown hts hK hE hP hD (k_X12_bagsOf l D cI cJ cZ q w44 hW_w44 x44_5 p1 (R_nle_r (hW_w.fin tM_0 rfl : In 0 40 (fI w 0 69)) i_x44_5 c_24 (by decide) : In 0 39 x44_5) i_x44_1 (In_of (hM_w44.gI (by decide)) (R_nle_l (hW_w.fin tM_0 rfl : In 0 40 (fI w 0 69)) i_x44_5 c_24 (by decide) : In 1 40 (fI w 0 69))) _) ⟨⟨rfl, rfl⟩, rfl, rfl⟩ sv_X12_575 ⟨(Nat.le_trans (by decide) hR.1), (Nat.le_trans (by decide) hR.2)⟩ 0 12 (hW_w44.o tM_0) rfl rfl rfl hl.1 rfl (Nat.le_of_ble_eq_true rfl) dX12_queue_57) (fun r_26 w_25 H locs hw_w_25 hP hD hS => ?_)
        obtain ⟨hW_w_25, hs_w_25⟩ := hw_w_25
        refine lv_istore (lv' := [(6, .int r_26), (0, .ref (q 0)), (1, .int p1), (2, .int p2), (3, .int p3), (4, .int x44_4), (5, .int x44_5)]) hx hb dX12_queue_60 hl (by decide) rfl (fun ls hl => ?_)
        refine lv_iload hx hb dX12_queue_62 (lv_at hl 0 rfl) ?_
        refine lv_if_ne (tgt := 70) hx hb dX12_queue_64 (by decide) (fun c_27 => ?_) (fun c_27 => ?_)
        · refine lv_iload hx hb dX12_queue_70 (lv_at hl 5 rfl) ?_
          refine lv_istore (lv' := [(7, .int x44_4), (6, .int r_26), (0, .ref (q 0)), (1, .int p1), (2, .int p2), (3, .int p3), (4, .int x44_4), (5, .int x44_5)]) hx hb dX12_queue_72 hl (by decide) rfl (fun ls hl => ?_)
          exact J74 _ r_26 x44_4 w_25 _ _ ls (Nat.lt_succ_self _) hW_w_25 (hM_w44.tr hs_w_25 (by decide)) i_x44_1 i_x44_2 i_x44_3 (by have q0 := i_x44_4; have q1 := (R_nle_r (hW_w.fin tM_0 rfl : In 0 40 (fI w 0 69)) i_x44_5 c_24 (by decide) : In 0 39 x44_5); unfold In at q0 q1 ⊢; omega : In 0 39 x44_4) (R_nle_r (hW_w.fin tM_0 rfl : In 0 40 (fI w 0 69)) i_x44_5 c_24 (by decide) : In 0 39 x44_5) (by have q0 := i_x44_4; have q1 := (R_nle_r (hW_w.fin tM_0 rfl : In 0 40 (fI w 0 69)) i_x44_5 c_24 (by decide) : In 0 39 x44_5); unfold In at q0 q1 ⊢; omega : In 0 39 x44_4) (In_of ((hs_w_25.gI (by decide)).trans (hM_w44.gI (by decide))) (In_of (hM_w44.gI (by decide)).symm g44_0_68)) (In_of ((hs_w_25.gI (by decide)).trans (hM_w44.gI (by decide))) (R_nle_l (hW_w.fin tM_0 rfl : In 0 40 (fI w 0 69)) i_x44_5 c_24 (by decide) : In 1 40 (fI w 0 69))) hP hD hS (lv_sub hl [2, 3, 4, 5, 6, 7, 1, 0] rfl)
        · refine lv_goto (tgt := 156) hx hb dX12_queue_67 (by decide) ?_
          exact J156 x44_4 r_26 w_25 _ _ ls hW_w_25 (hM_w44.tr hs_w_25 (by decide)) i_x44_1 i_x44_2 i_x44_3 (In_w (by have q0 := i_x44_4; have q1 := (R_nle_r (hW_w.fin tM_0 rfl : In 0 40 (fI w 0 69)) i_x44_5 c_24 (by decide) : In 0 39 x44_5); unfold In at q0 q1 ⊢; omega : In 0 39 x44_4) (by decide) : In 0 40 x44_4) (R_nle_r (hW_w.fin tM_0 rfl : In 0 40 (fI w 0 69)) i_x44_5 c_24 (by decide) : In 0 39 x44_5) (In_of ((hs_w_25.gI (by decide)).trans (hM_w44.gI (by decide))) (In_of (hM_w44.gI (by decide)).symm g44_0_68)) (In_of ((hs_w_25.gI (by decide)).trans (hM_w44.gI (by decide))) (R_nle_l (hW_w.fin tM_0 rfl : In 0 40 (fI w 0 69)) i_x44_5 c_24 (by decide) : In 1 40 (fI w 0 69))) (by omega) hP hD hS (lv_sub hl [1, 2, 3, 4, 5, 6, 0] rfl)
  refine lv_aload_n hx hb dX12_queue_0 rfl (lv_at hl 0 rfl) ?_
  refine gt_X12 hx hb hts hown hK hP 0 (hW_w.o tM_0) 68 (by decide) wd_1469 rfl (hW_w.fi tM_0 rfl) dX12_queue_1 ?_
  refine lv_if_eq (tgt := 36) hx hb dX12_queue_4 (by decide) (fun c_28 => ?_) (fun c_28 => ?_)
  · refine lv_iconst (v := (-1)) hx hb dX12_queue_36 (by decide) ?_
    exact hret _ _ _ _ _ _ hP hD hS dX12_queue_37 ⟨hW_w, Sm.rf⟩
  · refine lv_iload_n hx hb dX12_queue_7 rfl (lv_at hl 1 rfl) ?_
    refine lv_iconst (v := 1) hx hb dX12_queue_8 (by decide) ?_
    refine lv_bipush (v := 24) hx hb dX12_queue_9 (by decide) ?_
    refine kW_i ⟨rfl, rfl⟩ hP hD hS hA (rW_S (As := [.int p1, .int 1, .int 24]) (rest := []) hx hb hml hown hts hK hE hP hD (k_X12_is l D cI cJ cZ q w hW_w p1 1 24 _) ⟨⟨rfl, rfl⟩, rfl, rfl⟩ sv_X12_322 ⟨(Nat.le_trans (by decide) hR.1), (Nat.le_trans (by decide) hR.2)⟩ rfl hl.1 rfl (Nat.le_of_ble_eq_true rfl) dX12_queue_11) (fun r_30 w_29 H locs hw_w_29 hP hD hS => ?_)
    obtain ⟨hW_w_29, hs_w_29, i_r_30, h_31⟩ := hw_w_29
    refine lv_if_eq (tgt := 36) hx hb dX12_queue_14 (by decide) (fun c_32 => ?_) (fun c_32 => ?_)
    · refine lv_iconst (v := (-1)) hx hb dX12_queue_36 (by decide) ?_
      exact hret _ _ _ _ _ _ hP hD hS dX12_queue_37 ⟨hW_w_29, (Sm.rf.tr hs_w_29 (by decide))⟩
    · refine lv_iload_n hx hb dX12_queue_17 rfl (lv_at hl 2 rfl) ?_
      refine lv_iconst (v := 1) hx hb dX12_queue_18 (by decide) ?_
      refine lv_bipush (v := 9) hx hb dX12_queue_19 (by decide) ?_
      refine kW_i ⟨rfl, rfl⟩ hP hD hS hA (rW_S (As := [.int p2, .int 1, .int 9]) (rest := []) hx hb hml hown hts hK hE hP hD (k_X12_is l D cI cJ cZ q w_29 hW_w_29 p2 1 9 _) ⟨⟨rfl, rfl⟩, rfl, rfl⟩ sv_X12_322 ⟨(Nat.le_trans (by decide) hR.1), (Nat.le_trans (by decide) hR.2)⟩ rfl hl.1 rfl (Nat.le_of_ble_eq_true rfl) dX12_queue_21) (fun r_34 w_33 H locs hw_w_33 hP hD hS => ?_)
      obtain ⟨hW_w_33, hs_w_33, i_r_34, h_35⟩ := hw_w_33
      refine lv_if_eq (tgt := 36) hx hb dX12_queue_24 (by decide) (fun c_36 => ?_) (fun c_36 => ?_)
      · refine lv_iconst (v := (-1)) hx hb dX12_queue_36 (by decide) ?_
        exact hret _ _ _ _ _ _ hP hD hS dX12_queue_37 ⟨hW_w_33, ((Sm.rf.tr hs_w_29 (by decide)).tr hs_w_33 (by decide))⟩
      · refine lv_iload_n hx hb dX12_queue_27 rfl (lv_at hl 3 rfl) ?_
        refine lv_iconst (v := 0) hx hb dX12_queue_28 (by decide) ?_
        refine lv_iconst (v := 2) hx hb dX12_queue_29 (by decide) ?_
        refine kW_i ⟨rfl, rfl⟩ hP hD hS hA (rW_S (As := [.int p3, .int 0, .int 2]) (rest := []) hx hb hml hown hts hK hE hP hD (k_X12_is l D cI cJ cZ q w_33 hW_w_33 p3 0 2 _) ⟨⟨rfl, rfl⟩, rfl, rfl⟩ sv_X12_322 ⟨(Nat.le_trans (by decide) hR.1), (Nat.le_trans (by decide) hR.2)⟩ rfl hl.1 rfl (Nat.le_of_ble_eq_true rfl) dX12_queue_30) (fun r_38 w_37 H locs hw_w_37 hP hD hS => ?_)
        obtain ⟨hW_w_37, hs_w_37, i_r_38, h_39⟩ := hw_w_37
        refine lv_if_ne (tgt := 38) hx hb dX12_queue_33 (by decide) (fun c_40 => ?_) (fun c_40 => ?_)
        · refine lv_iconst (v := 0) hx hb dX12_queue_38 (by decide) ?_
          refine lv_istore (lv' := [(4, .int 0), (0, .ref (q 0)), (1, .int p1), (2, .int p2), (3, .int p3)]) hx hb dX12_queue_39 hl (by decide) rfl (fun ls hl => ?_)
          refine lv_iconst (v := 0) hx hb dX12_queue_41 (by decide) ?_
          refine lv_istore (lv' := [(5, .int 0), (4, .int 0), (0, .ref (q 0)), (1, .int p1), (2, .int p2), (3, .int p3)]) hx hb dX12_queue_42 hl (by decide) rfl (fun ls hl => ?_)
          exact J44 _ 0 0 w_37 _ _ ls (Nat.lt_succ_self _) hW_w_37 (((Sm.rf.tr hs_w_29 (by decide)).tr hs_w_33 (by decide)).tr hs_w_37 (by decide)) (by have q0 := h_31 c_32; have q1 := (In_lit (n := 1) (by decide) (by decide) : In 1 1 1); have q2 := (In_lit (n := 24) (by decide) (by decide) : In 24 24 24); have q3 := (In_any p1); unfold In at q1 q2 q3 ⊢; omega : In 1 24 p1) (by have q0 := h_35 c_36; have q1 := (In_lit (n := 1) (by decide) (by decide) : In 1 1 1); have q2 := (In_lit (n := 9) (by decide) (by decide) : In 9 9 9); have q3 := (In_any p2); unfold In at q1 q2 q3 ⊢; omega : In 1 9 p2) (by have q0 := h_39 c_40; have q1 := (In_lit (n := 0) (by decide) (by decide) : In 0 0 0); have q2 := (In_lit (n := 2) (by decide) (by decide) : In 2 2 2); have q3 := (In_any p3); unfold In at q1 q2 q3 ⊢; omega : In 0 2 p3) (In_lit (n := 0) (by decide) (by decide) : In 0 40 0) (In_lit (n := 0) (by decide) (by decide) : In 0 40 0) (In_of ((hs_w_37.gI (by decide)).trans ((hs_w_33.gI (by decide)).trans (hs_w_29.gI (by decide)))) (R_ne_l (hW_w.fin tM_0 rfl : In 0 1 (fI w 0 68)) (In_lit (n := 0) (by decide) (by decide) : In 0 0 0) c_28 (by decide) : In 1 1 (fI w 0 68))) (by have z0 : (0 : Int32).toInt = 0 := (by decide); have z0 : (0 : Int32).toInt = 0 := (by decide); omega) hP hD hS (lv_sub hl [2, 3, 4, 5, 1, 0] rfl)
        · refine lv_iconst (v := (-1)) hx hb dX12_queue_36 (by decide) ?_
          exact hret _ _ _ _ _ _ hP hD hS dX12_queue_37 ⟨hW_w_37, (((Sm.rf.tr hs_w_29 (by decide)).tr hs_w_33 (by decide)).tr hs_w_37 (by decide))⟩
set_option maxRecDepth 100000 in
set_option maxHeartbeats 8000000 in
theorem k_X12_writes (l : Launch) (D : va_G) (cI cJ cZ : ClassId) (q : Nat → Nat) (w : va_W) (hW_w : HT q (TM q cI cJ cZ) w) (p1 : Int32) (hf_0_69 : In 1 40 (fI w 0 69)) (hf_0_93 : In 0 199 (fI w 0 93)) : Con_v l yX12_writes cX12_writes 2 none ({ frames := 0, cells := 0, slots := 0, locals := 0 }) D cI cJ cZ eW [.ref (q 0), .int p1] w (fun (w1 : va_W) => HT q (TM q cI cJ cZ) w1 ∧ Sm [0, 63] [(0, 93)] w w1 ∧ In 1 200 (fI w1 0 93) ∧ ((fI w1 0 93).toInt = (fI w 0 93).toInt + 1)) := by
  refine eQ_v rfl (by decide) (Nat.le_of_ble_eq_true rfl) ⟨rfl, rfl⟩ ?_
  intro p e R s m args below meth c A Q hx hb hml hown hts hK hE hA hR hret hP hD hS ls hl
  have hown : s.vm.findClass RX12 = some m.cls := hown
  have hl : lv_has ls 2 [(0, .ref (q 0)), (1, .int p1)] := hl
  refine lv_aload_n hx hb dX12_writes_0 rfl (lv_at hl 0 rfl) ?_
  refine gt_X12 hx hb hts hown hK hP 0 (hW_w.o tM_0) 92 (by decide) wd_1493 rfl (hW_w.fr tM_0 rfl) dX12_writes_1 ?_
  refine lv_aload_n hx hb dX12_writes_4 rfl (lv_at hl 0 rfl) ?_
  refine gt_X12 hx hb hts hown hK hP 0 (hW_w.o tM_0) 93 (by decide) wd_1494 rfl (hW_w.fi tM_0 rfl) dX12_writes_5 ?_
  refine lv_iload_n hx hb dX12_writes_8 rfl (lv_at hl 1 rfl) ?_
  refine va_iast hx hb hK hP hD hS 63 0 (hW_w.a tM_63) rfl (in_I hf_0_93 (by decide)) dX12_writes_9 (fun H locs hP hD hS => fr_w (hW_w.uA tM_63 (In_any p1)) hP hD (fun w_1 ew_1 hW_w_1 hP hD => ?_))
  refine lv_aload_n hx hb dX12_writes_10 rfl (lv_at hl 0 rfl) ?_
  refine lv_dup hx hb dX12_writes_11 rfl ?_
  refine gt_X12 hx hb hts hown hK hP 0 (hW_w_1.o tM_0) 93 (by decide) wd_1494 rfl (hW_w_1.fi tM_0 rfl) dX12_writes_12 ?_
  refine tov (v := (fI w 0 93)) (fI_cg (st_ne ew_1 (by decide))) ?_
  refine lv_iconst (v := 1) hx hb dX12_writes_15 (by decide) ?_
  refine lv_iadd hx hb dX12_writes_16 ?_
  refine pt_X12 hx hb hts hown hK hP hD hS 0 (hW_w_1.o tM_0) 93 (by decide) wd_1494 rfl rfl (ty := .int) (v := .int ((fI w 0 93) + 1)) (by decide +kernel) rfl rfl (hW_w_1.ll tM_0 (Nat.le_of_ble_eq_true rfl)) dX12_writes_17 (fun H locs hP hD hS => fr_w (hW_w_1.sI tM_0 rfl (In_w ((In_add hf_0_93 (In_lit (n := 1) (by decide) (by decide) : In 1 1 1) (by decide)) : In 1 200 ((fI w 0 93) + 1)) (by decide) : In 0 200 ((fI w 0 93) + 1))) hP hD (fun w_2 ew_2 hW_w_2 hP hD => ?_))
  exact hret _ _ _ _ _ hP hD hS dX12_writes_20 ⟨hW_w_2, ((Sm.rf.sa ew_1 (by decide)).sf (hW_w_1.lt tM_0) ew_2 (by decide)), (In_of (fI_eq (hW_w_1.lt tM_0) ew_2 (hW_w_1.ll tM_0 (Nat.le_of_ble_eq_true rfl))) ((In_add hf_0_93 (In_lit (n := 1) (by decide) (by decide) : In 1 1 1) (by decide)) : In 1 200 ((fI w 0 93) + 1))), (by have e0_93 : (fI w_2 0 93).toInt = (((fI w 0 93) + 1) : Int32).toInt := congrArg Int32.toInt (fI_eq (hW_w_1.lt tM_0) ew_2 (hW_w_1.ll tM_0 (Nat.le_of_ble_eq_true rfl))); have i0_93 := ((In_add hf_0_93 (In_lit (n := 1) (by decide) (by decide) : In 1 1 1) (by decide)) : In 1 200 ((fI w 0 93) + 1)); unfold In at i0_93; have t17 := t_add hf_0_93 (In_lit (n := 1) (by decide) (by decide) : In 1 1 1) (by decide); have z1 : (1 : Int32).toInt = 1 := (by decide); omega)⟩
set_option maxRecDepth 100000 in
set_option maxHeartbeats 8000000 in
theorem k_X12_label (l : Launch) (D : va_G) (cI cJ cZ : ClassId) (q : Nat → Nat) (w : va_W) (hW_w : HT q (TM q cI cJ cZ) w) (p1 : Int32) : Con_i l yX12_label cX12_label 6 (some .int) ({ frames := 1, cells := 0, slots := 0, locals := 25 }) D cI cJ cZ eW [.ref (q 0), .int p1] w (fun (r : Int32) (w1 : va_W) => HT q (TM q cI cJ cZ) w1 ∧ Sm [0, 63] [(0, 93)] w w1 ∧ In (-1) 200 r) := by
  refine eQ_i rfl (by decide) (Nat.le_of_ble_eq_true rfl) ⟨rfl, rfl⟩ ?_
  intro p e R s m args below meth c A Q hx hb hml hown hts hK hE hA hR hret hP hD hS ls hl
  have hown : s.vm.findClass RX12 = some m.cls := hown
  have hl : lv_has ls 6 [(0, .ref (q 0)), (1, .int p1)] := hl
  have J26 : ∀ (N : Nat) (x26_2 : Int32) (w26 : va_W) (H : Heap) (locs : List Loc) (ls : Array Slot), (10 - x26_2.toInt).toNat < N → HT q (TM q cI cJ cZ) w26 → Sm [0, 63] [(0, 93)] w w26 → (In 0 39 p1) → (In 0 10 x26_2) → (In 1 40 (fI w26 0 69)) → ((fI w26 0 93).toInt ≤ 10 * (x26_2 : Int32).toInt) → va_P D vwCl w26 H → va_D A w26 → va_S A s.heap H locs → lv_has ls 6 [(0, .ref (q 0)), (1, .int p1), (2, .int x26_2)] → W p l e R s m args below meth c H locs 0 0 Q (F0 m 26 ls []) := by
    intro N
    induction N with
    | zero => intro x26_2 w26 H locs ls hmu; exact absurd hmu (Nat.not_lt_zero _)
    | succ N ih26 =>
      intro x26_2 w26 H locs ls hmu26 hW_w26 hM_w26 i_x26_1 i_x26_2 g26_0_69 hc_26 hP hD hS hl
      have J118 : ∀ (w118 : va_W) (H : Heap) (locs : List Loc) (ls : Array Slot), HT q (TM q cI cJ cZ) w118 → Sm [0, 63] [(0, 93)] w w118 → (In 0 39 p1) → (In 0 9 x26_2) → (In 1 40 (fI w118 0 69)) → ((fI w118 0 93).toInt ≤ 10 * (x26_2 : Int32).toInt + 10) → va_P D vwCl w118 H → va_D A w118 → va_S A s.heap H locs → lv_has ls 6 [(0, .ref (q 0)), (1, .int p1), (2, .int x26_2)] → W p l e R s m args below meth c H locs 0 0 Q (F0 m 118 ls []) := by
        intro w118 H locs ls hW_w118 hM_w118 i_x118_1 i_x118_2 g118_0_69 hc_118 hP hD hS hl
        refine lv_iinc (v := (x26_2 + 1)) (lv' := [(2, .int (x26_2 + 1)), (0, .ref (q 0)), (1, .int p1)]) hx hb dX12_label_118 hl (k := 2) rfl (rfl) (by decide) rfl (fun ls hl => ?_)
        refine lv_goto (tgt := 26) hx hb dX12_label_121 (by decide) ?_
        exact ih26 (x26_2 + 1) w118 _ _ ls (mu_inc hmu26 i_x118_2 (In_lit (n := 1) (by decide) (by decide) : In 1 1 1) (by decide)) hW_w118 hM_w118 i_x26_1 (In_w ((In_add (y := 1) i_x118_2 (In_lit (n := 1) (by decide) (by decide) : In 1 1 1) (by decide)) : In 1 10 (x26_2 + 1)) (by decide) : In 0 10 (x26_2 + 1)) (In_of (hM_w118.2 0 69 (by decide) (by decide)) (In_of (hM_w118.2 0 69 (by decide) (by decide)).symm g118_0_69)) (by have i0_93 := (hW_w118.fin tM_0 rfl : In 0 200 (fI w118 0 93)); unfold In at i0_93; have t11 := t_add i_x118_2 (In_lit (n := 1) (by decide) (by decide) : In 1 1 1) (by decide); have z1 : (1 : Int32).toInt = 1 := (by decide); have il2 := ((In_add (y := 1) i_x118_2 (In_lit (n := 1) (by decide) (by decide) : In 1 1 1) (by decide)) : In 1 10 (x26_2 + 1)); unfold In at il2; have im1 := i_x26_1; unfold In at im1; omega) hP hD hS (lv_sub hl [1, 2, 0] rfl)
      have J92 : ∀ (N : Nat) (x92_3 : Int64) (x92_5 : Int32) (w92 : va_W) (H : Heap) (locs : List Loc) (ls : Array Slot), (8 - x92_5.toInt).toNat < N → HT q (TM q cI cJ cZ) w92 → Sm [0, 63] [(0, 93)] w w92 → (In 0 39 p1) → (In 0 9 x26_2) → (In 0 8 x92_5) → (In 1 40 (fI w92 0 69)) → ((fI w92 0 93).toInt ≤ 10 * (x26_2 : Int32).toInt + 2 + (x92_5 : Int32).toInt) → va_P D vwCl w92 H → va_D A w92 → va_S A s.heap H locs → lv_has ls 6 [(0, .ref (q 0)), (1, .int p1), (2, .int x26_2), (3, .long x92_3), (5, .int x92_5)] → W p l e R s m args below meth c H locs 0 0 Q (F0 m 92 ls []) := by
        intro N
        induction N with
        | zero => intro x92_3 x92_5 w92 H locs ls hmu; exact absurd hmu (Nat.not_lt_zero _)
        | succ N ih92 =>
          intro x92_3 x92_5 w92 H locs ls hmu92 hW_w92 hM_w92 i_x92_1 i_x92_2 i_x92_5 g92_0_69 hc_92 hP hD hS hl
          refine lv_lload_n hx hb dX12_label_92 rfl (lv_at hl 3 rfl) ?_
          refine lv_iload hx hb dX12_label_93 (lv_at hl 4 rfl) ?_
          refine kW_i ⟨rfl, rfl⟩ hP hD hS hA (rW_S (As := [.long x92_3, .int x92_5]) (rest := []) hx hb hml hown hts hK hE hP hD (k_X12_letter l D cI cJ cZ q w92 hW_w92 x92_3 x92_5 _) ⟨⟨rfl, rfl⟩, rfl, rfl⟩ sv_X12_447 ⟨(Nat.le_trans (by decide) hR.1), (Nat.le_trans (by decide) hR.2)⟩ rfl hl.1 rfl (Nat.le_of_ble_eq_true rfl) dX12_label_95) (fun r_2 w_1 H locs hw_w_1 hP hD hS => ?_)
          obtain ⟨hW_w_1, hs_w_1, h_3⟩ := hw_w_1
          refine lv_iconst (v := (-1)) hx hb dX12_label_98 (by decide) ?_
          refine lv_icmp_eq (tgt := 118) hx hb dX12_label_99 (by decide) (fun c_4 => ?_) (fun c_4 => ?_)
          · exact J118 w_1 _ _ ls hW_w_1 (hM_w92.tr hs_w_1 (by decide)) i_x26_1 i_x92_2 (In_of ((hs_w_1.gI (by decide)).trans (hM_w92.2 0 69 (by decide) (by decide))) (In_of (hM_w92.2 0 69 (by decide) (by decide)).symm g92_0_69)) (by have e0_93 : (fI w_1 0 93).toInt = ((fI w92 0 93) : Int32).toInt := congrArg Int32.toInt (hs_w_1.gI (by decide)); have i0_93 := (hW_w92.fin tM_0 rfl : In 0 200 (fI w92 0 93)); unfold In at i0_93; have il2 := i_x92_2; unfold In at il2; have im1 := i_x26_1; unfold In at im1; have im5 := i_x92_5; unfold In at im5; omega) hP hD hS (lv_sub hl [0, 1, 2] rfl)
          · refine lv_aload_n hx hb dX12_label_102 rfl (lv_at hl 0 rfl) ?_
            refine lv_lload_n hx hb dX12_label_103 rfl (lv_at hl 3 rfl) ?_
            refine lv_iload hx hb dX12_label_104 (lv_at hl 4 rfl) ?_
            refine kW_i ⟨rfl, rfl⟩ hP hD hS hA (rW_S (As := [.long x92_3, .int x92_5]) (rest := [.ref (q 0)]) hx hb hml hown hts hK hE hP hD (k_X12_letter l D cI cJ cZ q w_1 hW_w_1 x92_3 x92_5 _) ⟨⟨rfl, rfl⟩, rfl, rfl⟩ sv_X12_447 ⟨(Nat.le_trans (by decide) hR.1), (Nat.le_trans (by decide) hR.2)⟩ rfl hl.1 rfl (Nat.le_of_ble_eq_true rfl) dX12_label_106) (fun r_6 w_5 H locs hw_w_5 hP hD hS => ?_)
            obtain ⟨hW_w_5, hs_w_5, h_7⟩ := hw_w_5
            refine kW_v ⟨rfl, rfl⟩ hP hD hS hA (rW_V (As := [.int r_6]) (rest := []) hx hb hml hown hts hK hE hP hD (k_X12_writes l D cI cJ cZ q w_5 hW_w_5 r_6 (In_of ((hs_w_5.gI (by decide)).trans ((hs_w_1.gI (by decide)).trans (hM_w92.2 0 69 (by decide) (by decide)))) (In_of (hM_w92.2 0 69 (by decide) (by decide)).symm g92_0_69)) (In_of ((hs_w_5.gI (by decide)).trans (hs_w_1.gI (by decide))) (by have q0 := (hW_w92.fin tM_0 rfl : In 0 200 (fI w92 0 93)); have q1 := i_x92_2; have q2 := (by have q := h_3.resolve_left c_4; have a := i_x92_5; unfold In at a ⊢; omega : In 0 7 x92_5); unfold In at q0 q1 q2 ⊢; omega : In 0 199 (fI w92 0 93))) _) ⟨⟨rfl, rfl⟩, rfl, rfl⟩ sv_X12_578 ⟨(Nat.le_trans (by decide) hR.1), (Nat.le_trans (by decide) hR.2)⟩ 0 12 (hW_w_5.o tM_0) rfl rfl rfl hl.1 rfl (Nat.le_of_ble_eq_true rfl) dX12_label_109) (fun w_8 H locs hw_w_8 hP hD hS => ?_)
            obtain ⟨hW_w_8, hs_w_8, h_10, h_11⟩ := hw_w_8
            have n_h_11 : (fI w_8 0 93).toInt = ((fI w92 0 93) : Int32).toInt + 1 := (by have ee : (fI w_5 0 93).toInt = ((fI w92 0 93) : Int32).toInt := congrArg Int32.toInt ((hs_w_5.gI (by decide)).trans (hs_w_1.gI (by decide))); have q := h_11; omega)
            refine lv_iinc (v := (x92_5 + 1)) (lv' := [(5, .int (x92_5 + 1)), (0, .ref (q 0)), (1, .int p1), (2, .int x26_2), (3, .long x92_3)]) hx hb dX12_label_112 hl (k := 4) rfl (rfl) (by decide) rfl (fun ls hl => ?_)
            refine lv_goto (tgt := 92) hx hb dX12_label_115 (by decide) ?_
            exact ih92 x92_3 (x92_5 + 1) w_8 _ _ ls (mu_inc hmu92 (by have q := h_3.resolve_left c_4; have a := i_x92_5; unfold In at a ⊢; omega : In 0 7 x92_5) (In_lit (n := 1) (by decide) (by decide) : In 1 1 1) (by decide)) hW_w_8 (((hM_w92.tr hs_w_1 (by decide)).tr hs_w_5 (by decide)).tr hs_w_8 (by decide)) i_x26_1 i_x92_2 (In_w ((In_add (y := 1) (by have q := h_3.resolve_left c_4; have a := i_x92_5; unfold In at a ⊢; omega : In 0 7 x92_5) (In_lit (n := 1) (by decide) (by decide) : In 1 1 1) (by decide)) : In 1 8 (x92_5 + 1)) (by decide) : In 0 8 (x92_5 + 1)) (In_of ((hs_w_8.2 0 69 (by decide) (by decide)).trans ((hs_w_5.gI (by decide)).trans ((hs_w_1.gI (by decide)).trans (hM_w92.2 0 69 (by decide) (by decide))))) (In_of (hM_w92.2 0 69 (by decide) (by decide)).symm g92_0_69)) (by have i0_93 := h_10; unfold In at i0_93; have il2 := i_x92_2; unfold In at il2; have t11 := t_add (by have q := h_3.resolve_left c_4; have a := i_x92_5; unfold In at a ⊢; omega : In 0 7 x92_5) (In_lit (n := 1) (by decide) (by decide) : In 1 1 1) (by decide); have z1 : (1 : Int32).toInt = 1 := (by decide); have il5 := ((In_add (y := 1) (by have q := h_3.resolve_left c_4; have a := i_x92_5; unfold In at a ⊢; omega : In 0 7 x92_5) (In_lit (n := 1) (by decide) (by decide) : In 1 1 1) (by decide)) : In 1 8 (x92_5 + 1)); unfold In at il5; have im1 := i_x26_1; unfold In at im1; omega) hP hD hS (lv_sub hl [1, 2, 3, 4, 0] rfl)
      have J74 : ∀ (w74 : va_W) (H : Heap) (locs : List Loc) (ls : Array Slot), HT q (TM q cI cJ cZ) w74 → Sm [0, 63] [(0, 93)] w w74 → (In 0 39 p1) → (In 0 9 x26_2) → (In 1 40 (fI w74 0 69)) → ((fI w74 0 93).toInt ≤ 10 * (x26_2 : Int32).toInt + 2) → va_P D vwCl w74 H → va_D A w74 → va_S A s.heap H locs → lv_has ls 6 [(0, .ref (q 0)), (1, .int p1), (2, .int x26_2)] → W p l e R s m args below meth c H locs 0 0 Q (F0 m 74 ls []) := by
        intro w74 H locs ls hW_w74 hM_w74 i_x74_1 i_x74_2 g74_0_69 hc_74 hP hD hS hl
        refine lv_aload_n hx hb dX12_label_74 rfl (lv_at hl 0 rfl) ?_
        refine gt_X12 hx hb hts hown hK hP 0 (hW_w74.o tM_0) 18 (by decide) wd_1419 rfl (hW_w74.fr tM_0 rfl) dX12_label_75 ?_
        refine lv_bipush (v := 10) hx hb dX12_label_78 (by decide) ?_
        refine lv_aload_n hx hb dX12_label_80 rfl (lv_at hl 0 rfl) ?_
        refine gt_X12 hx hb hts hown hK hP 0 (hW_w74.o tM_0) 12 (by decide) wd_1413 rfl (hW_w74.fi tM_0 rfl) dX12_label_81 ?_
        refine tov (v := (fI w 0 12)) (hM_w74.2 0 12 (by decide) (by decide)) ?_
        refine lv_imul hx hb dX12_label_84 ?_
        refine lv_iload_n hx hb dX12_label_85 rfl (lv_at hl 2 rfl) ?_
        refine lv_iadd hx hb dX12_label_86 ?_
        refine va_lald hx hb hK hP 6 1 (hW_w74.al tM_6) rfl (in_I ((In_add ((In_mull (hW_w.fin tM_0 rfl : In 0 1 (fI w 0 12)) (n := 10) (by decide) (by decide)) : In 0 10 (10 * (fI w 0 12))) i_x74_2 (by decide)) : In 0 19 ((10 * (fI w 0 12)) + x26_2)) (by decide)) dX12_label_87 ?_
        refine lv_topl (fun v_12 ev_12 => ?_)
        refine lv_lstore_n (lv' := [(3, .long v_12), (0, .ref (q 0)), (1, .int p1), (2, .int x26_2)]) hx hb dX12_label_88 rfl hl (by decide) rfl (fun ls hl => ?_)
        refine lv_iconst (v := 0) hx hb dX12_label_89 (by decide) ?_
        refine lv_istore (lv' := [(5, .int 0), (3, .long v_12), (0, .ref (q 0)), (1, .int p1), (2, .int x26_2)]) hx hb dX12_label_90 hl (by decide) rfl (fun ls hl => ?_)
        exact J92 _ v_12 0 w74 _ _ ls (Nat.lt_succ_self _) hW_w74 hM_w74 i_x26_1 i_x74_2 (In_lit (n := 0) (by decide) (by decide) : In 0 8 0) (In_of (hM_w74.2 0 69 (by decide) (by decide)) (In_of (hM_w74.2 0 69 (by decide) (by decide)).symm g74_0_69)) (by have i0_93 := (hW_w74.fin tM_0 rfl : In 0 200 (fI w74 0 93)); unfold In at i0_93; have il2 := i_x74_2; unfold In at il2; have z0 : (0 : Int32).toInt = 0 := (by decide); have im1 := i_x26_1; unfold In at im1; omega) hP hD hS (lv_sub hl [2, 3, 4, 1, 0] rfl)
      refine lv_iload_n hx hb dX12_label_26 rfl (lv_at hl 2 rfl) ?_
      refine lv_aload_n hx hb dX12_label_27 rfl (lv_at hl 0 rfl) ?_
      refine gt_X12 hx hb hts hown hK hP 0 (hW_w26.o tM_0) 14 (by decide) wd_1415 rfl (hW_w26.fr tM_0 rfl) dX12_label_28 ?_
      refine lv_aload_n hx hb dX12_label_31 rfl (lv_at hl 0 rfl) ?_
      refine gt_X12 hx hb hts hown hK hP 0 (hW_w26.o tM_0) 12 (by decide) wd_1413 rfl (hW_w26.fi tM_0 rfl) dX12_label_32 ?_
      refine tov (v := (fI w 0 12)) (hM_w26.2 0 12 (by decide) (by decide)) ?_
      refine va_iald hx hb hK hP 2 0 (hW_w26.a tM_2) rfl (in_I (hW_w.fin tM_0 rfl : In 0 1 (fI w 0 12)) (by decide)) dX12_label_35 ?_
      refine lv_topi (fun v_13 ev_13 => ?_)
      refine lv_icmp_ge (tgt := 124) hx hb dX12_label_36 (by decide) (fun c_14 => ?_) (fun c_14 => ?_)
      · refine lv_aload_n hx hb dX12_label_124 rfl (lv_at hl 0 rfl) ?_
        refine lv_bipush (v := 46) hx hb dX12_label_125 (by decide) ?_
        refine kW_v ⟨rfl, rfl⟩ hP hD hS hA (rW_V (As := [.int 46]) (rest := []) hx hb hml hown hts hK hE hP hD (k_X12_writes l D cI cJ cZ q w26 hW_w26 46 (In_of (hM_w26.2 0 69 (by decide) (by decide)) (In_of (hM_w26.2 0 69 (by decide) (by decide)).symm g26_0_69)) (by have q0 := (hW_w26.fin tM_0 rfl : In 0 200 (fI w26 0 93)); have q1 := i_x26_2; unfold In at q0 q1 ⊢; omega : In 0 199 (fI w26 0 93)) _) ⟨⟨rfl, rfl⟩, rfl, rfl⟩ sv_X12_578 ⟨(Nat.le_trans (by decide) hR.1), (Nat.le_trans (by decide) hR.2)⟩ 0 12 (hW_w26.o tM_0) rfl rfl rfl hl.1 rfl (Nat.le_of_ble_eq_true rfl) dX12_label_127) (fun w_15 H locs hw_w_15 hP hD hS => ?_)
        obtain ⟨hW_w_15, hs_w_15, h_17, h_18⟩ := hw_w_15
        have n_h_18 : (fI w_15 0 93).toInt = ((fI w26 0 93) : Int32).toInt + 1 := (by have q := h_18; omega)
        refine lv_aload_n hx hb dX12_label_130 rfl (lv_at hl 0 rfl) ?_
        refine gt_X12 hx hb hts hown hK hP 0 (hW_w_15.o tM_0) 93 (by decide) wd_1494 rfl (hW_w_15.fi tM_0 rfl) dX12_label_131 ?_
        exact hret _ _ _ _ _ _ hP hD hS dX12_label_134 ⟨hW_w_15, (hM_w26.tr hs_w_15 (by decide)), (In_w h_17 (by decide) : In (-1) 200 (fI w_15 0 93))⟩
      · refine lv_aload_n hx hb dX12_label_39 rfl (lv_at hl 0 rfl) ?_
        refine gt_X12 hx hb hts hown hK hP 0 (hW_w26.o tM_0) 76 (by decide) wd_1477 rfl (hW_w26.fr tM_0 rfl) dX12_label_40 ?_
        refine lv_iload_n hx hb dX12_label_43 rfl (lv_at hl 1 rfl) ?_
        refine va_iald hx hb hK hP 53 0 (hW_w26.a tM_53) rfl (in_I i_x26_1 (by decide)) dX12_label_44 ?_
        refine lv_topi (fun v_19 ev_19 => ?_)
        refine lv_iload_n hx hb dX12_label_45 rfl (lv_at hl 2 rfl) ?_
        refine lv_ishr hx hb dX12_label_46 ?_
        refine lv_topi (fun v_20 ev_20 => ?_)
        refine lv_iconst (v := 1) hx hb dX12_label_47 (by decide) ?_
        refine lv_iand hx hb dX12_label_48 ?_
        refine lv_if_ne (tgt := 55) hx hb dX12_label_49 (by decide) (fun c_21 => ?_) (fun c_21 => ?_)
        · refine lv_aload_n hx hb dX12_label_55 rfl (lv_at hl 0 rfl) ?_
          refine gt_X12 hx hb hts hown hK hP 0 (hW_w26.o tM_0) 93 (by decide) wd_1494 rfl (hW_w26.fi tM_0 rfl) dX12_label_56 ?_
          refine lv_if_le (tgt := 74) hx hb dX12_label_59 (by decide) (fun c_22 => ?_) (fun c_22 => ?_)
          · exact J74 w26 _ _ ls hW_w26 hM_w26 i_x26_1 (R_nle_r (In_of ev_13 (hW_w26.ap tM_2 _) : In 0 10 v_13) i_x26_2 c_14 (by decide) : In 0 9 x26_2) (In_of (hM_w26.2 0 69 (by decide) (by decide)) (In_of (hM_w26.2 0 69 (by decide) (by decide)).symm g26_0_69)) (by have i0_93 := (R_le_l (hW_w26.fin tM_0 rfl : In 0 200 (fI w26 0 93)) (In_lit (n := 0) (by decide) (by decide) : In 0 0 0) c_22 (by decide) : In 0 0 (fI w26 0 93)); unfold In at i0_93; have il2 := (R_nle_r (In_of ev_13 (hW_w26.ap tM_2 _) : In 0 10 v_13) i_x26_2 c_14 (by decide) : In 0 9 x26_2); unfold In at il2; have im1 := i_x26_1; unfold In at im1; omega) hP hD hS (lv_sub hl [0, 1, 2] rfl)
          · refine lv_aload_n hx hb dX12_label_62 rfl (lv_at hl 0 rfl) ?_
            refine lv_bipush (v := 44) hx hb dX12_label_63 (by decide) ?_
            refine kW_v ⟨rfl, rfl⟩ hP hD hS hA (rW_V (As := [.int 44]) (rest := []) hx hb hml hown hts hK hE hP hD (k_X12_writes l D cI cJ cZ q w26 hW_w26 44 (In_of (hM_w26.2 0 69 (by decide) (by decide)) (In_of (hM_w26.2 0 69 (by decide) (by decide)).symm g26_0_69)) (by have q0 := (R_nle_l (hW_w26.fin tM_0 rfl : In 0 200 (fI w26 0 93)) (In_lit (n := 0) (by decide) (by decide) : In 0 0 0) c_22 (by decide) : In 1 200 (fI w26 0 93)); have q1 := (R_nle_r (In_of ev_13 (hW_w26.ap tM_2 _) : In 0 10 v_13) i_x26_2 c_14 (by decide) : In 0 9 x26_2); unfold In at q0 q1 ⊢; omega : In 0 199 (fI w26 0 93)) _) ⟨⟨rfl, rfl⟩, rfl, rfl⟩ sv_X12_578 ⟨(Nat.le_trans (by decide) hR.1), (Nat.le_trans (by decide) hR.2)⟩ 0 12 (hW_w26.o tM_0) rfl rfl rfl hl.1 rfl (Nat.le_of_ble_eq_true rfl) dX12_label_65) (fun w_23 H locs hw_w_23 hP hD hS => ?_)
            obtain ⟨hW_w_23, hs_w_23, h_25, h_26⟩ := hw_w_23
            have n_h_26 : (fI w_23 0 93).toInt = ((fI w26 0 93) : Int32).toInt + 1 := (by have q := h_26; omega)
            refine lv_aload_n hx hb dX12_label_68 rfl (lv_at hl 0 rfl) ?_
            refine lv_bipush (v := 32) hx hb dX12_label_69 (by decide) ?_
            refine kW_v ⟨rfl, rfl⟩ hP hD hS hA (rW_V (As := [.int 32]) (rest := []) hx hb hml hown hts hK hE hP hD (k_X12_writes l D cI cJ cZ q w_23 hW_w_23 32 (In_of ((hs_w_23.2 0 69 (by decide) (by decide)).trans (hM_w26.2 0 69 (by decide) (by decide))) (In_of (hM_w26.2 0 69 (by decide) (by decide)).symm g26_0_69)) (by have q0 := h_25; have q1 := (R_nle_r (In_of ev_13 (hW_w26.ap tM_2 _) : In 0 10 v_13) i_x26_2 c_14 (by decide) : In 0 9 x26_2); unfold In at q0 q1 ⊢; omega : In 0 199 (fI w_23 0 93)) _) ⟨⟨rfl, rfl⟩, rfl, rfl⟩ sv_X12_578 ⟨(Nat.le_trans (by decide) hR.1), (Nat.le_trans (by decide) hR.2)⟩ 0 12 (hW_w_23.o tM_0) rfl rfl rfl hl.1 rfl (Nat.le_of_ble_eq_true rfl) dX12_label_71) (fun w_27 H locs hw_w_27 hP hD hS => ?_)
            obtain ⟨hW_w_27, hs_w_27, h_29, h_30⟩ := hw_w_27
            have n_h_30 : (fI w_27 0 93).toInt = ((fI w_23 0 93) : Int32).toInt + 1 := (by have q := h_30; omega)
            exact J74 w_27 _ _ ls hW_w_27 ((hM_w26.tr hs_w_23 (by decide)).tr hs_w_27 (by decide)) i_x26_1 (R_nle_r (In_of ev_13 (hW_w26.ap tM_2 _) : In 0 10 v_13) i_x26_2 c_14 (by decide) : In 0 9 x26_2) (In_of ((hs_w_27.2 0 69 (by decide) (by decide)).trans ((hs_w_23.2 0 69 (by decide) (by decide)).trans (hM_w26.2 0 69 (by decide) (by decide)))) (In_of (hM_w26.2 0 69 (by decide) (by decide)).symm g26_0_69)) (by have i0_93 := h_29; unfold In at i0_93; have il2 := (R_nle_r (In_of ev_13 (hW_w26.ap tM_2 _) : In 0 10 v_13) i_x26_2 c_14 (by decide) : In 0 9 x26_2); unfold In at il2; have im1 := i_x26_1; unfold In at im1; omega) hP hD hS (lv_sub hl [0, 1, 2] rfl)
        · refine lv_goto (tgt := 118) hx hb dX12_label_52 (by decide) ?_
          exact J118 w26 _ _ ls hW_w26 hM_w26 i_x26_1 (R_nle_r (In_of ev_13 (hW_w26.ap tM_2 _) : In 0 10 v_13) i_x26_2 c_14 (by decide) : In 0 9 x26_2) (In_of (hM_w26.2 0 69 (by decide) (by decide)) (In_of (hM_w26.2 0 69 (by decide) (by decide)).symm g26_0_69)) (by have i0_93 := (hW_w26.fin tM_0 rfl : In 0 200 (fI w26 0 93)); unfold In at i0_93; have il2 := (R_nle_r (In_of ev_13 (hW_w26.ap tM_2 _) : In 0 10 v_13) i_x26_2 c_14 (by decide) : In 0 9 x26_2); unfold In at il2; have im1 := i_x26_1; unfold In at im1; omega) hP hD hS (lv_sub hl [0, 1, 2] rfl)
  refine lv_aload_n hx hb dX12_label_0 rfl (lv_at hl 0 rfl) ?_
  refine lv_iload_n hx hb dX12_label_1 rfl (lv_at hl 1 rfl) ?_
  refine kW_i ⟨rfl, rfl⟩ hP hD hS hA (rW_V (As := [.int p1]) (rest := []) hx hb hml hown hts hK hE hP hD (k_X12_was l D cI cJ cZ q w hW_w p1 _) ⟨⟨rfl, rfl⟩, rfl, rfl⟩ sv_X12_547 ⟨(Nat.le_trans (by decide) hR.1), (Nat.le_trans (by decide) hR.2)⟩ 0 12 (hW_w.o tM_0) rfl rfl rfl hl.1 rfl (Nat.le_of_ble_eq_true rfl) dX12_label_2) (fun r_32 w_31 H locs hw_w_31 hP hD hS => ?_)
  obtain ⟨hW_w_31, hs_w_31, i_r_32, h_33⟩ := hw_w_31
  refine lv_if_eq (tgt := 17) hx hb dX12_label_5 (by decide) (fun c_34 => ?_) (fun c_34 => ?_)
  · refine lv_iconst (v := (-1)) hx hb dX12_label_17 (by decide) ?_
    exact hret _ _ _ _ _ _ hP hD hS dX12_label_18 ⟨hW_w_31, (Sm.rf.tr hs_w_31 (by decide)), (In_lit (n := (-1)) (by decide) (by decide) : In (-1) 200 (-1))⟩
  · refine lv_aload_n hx hb dX12_label_8 rfl (lv_at hl 0 rfl) ?_
    refine gt_X12 hx hb hts hown hK hP 0 (hW_w_31.o tM_0) 76 (by decide) wd_1477 rfl (hW_w_31.fr tM_0 rfl) dX12_label_9 ?_
    refine lv_iload_n hx hb dX12_label_12 rfl (lv_at hl 1 rfl) ?_
    refine va_iald hx hb hK hP 53 0 (hW_w_31.a tM_53) rfl (in_I (h_33 c_34).2 (by decide)) dX12_label_13 ?_
    refine lv_topi (fun v_35 ev_35 => ?_)
    refine lv_if_ne (tgt := 19) hx hb dX12_label_14 (by decide) (fun c_36 => ?_) (fun c_36 => ?_)
    · refine lv_aload_n hx hb dX12_label_19 rfl (lv_at hl 0 rfl) ?_
      refine lv_iconst (v := 0) hx hb dX12_label_20 (by decide) ?_
      refine pt_X12 hx hb hts hown hK hP hD hS 0 (hW_w_31.o tM_0) 93 (by decide) wd_1494 rfl rfl (ty := .int) (v := .int 0) (by decide +kernel) rfl rfl (hW_w_31.ll tM_0 (Nat.le_of_ble_eq_true rfl)) dX12_label_21 (fun H locs hP hD hS => fr_w (hW_w_31.sI tM_0 rfl (In_lit (n := 0) (by decide) (by decide) : In 0 200 0)) hP hD (fun w_37 ew_37 hW_w_37 hP hD => ?_))
      refine lv_iconst (v := 0) hx hb dX12_label_24 (by decide) ?_
      refine lv_istore_n (lv' := [(2, .int 0), (0, .ref (q 0)), (1, .int p1)]) hx hb dX12_label_25 rfl hl (by decide) rfl (fun ls hl => ?_)
      exact J26 _ 0 w_37 _ _ ls (Nat.lt_succ_self _) hW_w_37 ((Sm.rf.tr hs_w_31 (by decide)).sf (hW_w_31.lt tM_0) ew_37 (by decide)) (h_33 c_34).2 (In_lit (n := 0) (by decide) (by decide) : In 0 10 0) (In_of ((fI_nej (hW_w_31.lt tM_0) ew_37 (by decide)).trans (hs_w_31.gI (by decide))) (In_of (hs_w_31.gI (by decide)).symm (h_33 c_34).1)) (by have e0_93 : (fI w_37 0 93).toInt = (0 : Int32).toInt := congrArg Int32.toInt (fI_eq (hW_w_31.lt tM_0) ew_37 (hW_w_31.ll tM_0 (Nat.le_of_ble_eq_true rfl))); have z0 : (0 : Int32).toInt = 0 := (by decide); have z0 : (0 : Int32).toInt = 0 := (by decide); have im1 := (h_33 c_34).2; unfold In at im1; omega) hP hD hS (lv_sub hl [1, 2, 0] rfl)
    · refine lv_iconst (v := (-1)) hx hb dX12_label_17 (by decide) ?_
      exact hret _ _ _ _ _ _ hP hD hS dX12_label_18 ⟨hW_w_31, (Sm.rf.tr hs_w_31 (by decide)), (In_lit (n := (-1)) (by decide) (by decide) : In (-1) 200 (-1))⟩
set_option maxRecDepth 100000 in
set_option maxHeartbeats 8000000 in
theorem k_X12_at (l : Launch) (D : va_G) (cI cJ cZ : ClassId) (q : Nat → Nat) (w : va_W) (hW_w : HT q (TM q cI cJ cZ) w) (p1 : Int32) : Con_i l yX12_at cX12_at 2 (some .int) ({ frames := 0, cells := 0, slots := 0, locals := 0 }) D cI cJ cZ eW [.ref (q 0), .int p1] w (fun (r : Int32) (w1 : va_W) => HT q (TM q cI cJ cZ) w1 ∧ Sm [] [] w w1) := by
  refine eQ_i rfl (by decide) (Nat.le_of_ble_eq_true rfl) ⟨rfl, rfl⟩ ?_
  intro p e R s m args below meth c A Q hx hb hml hown hts hK hE hA hR hret hP hD hS ls hl
  have hown : s.vm.findClass RX12 = some m.cls := hown
  have hl : lv_has ls 2 [(0, .ref (q 0)), (1, .int p1)] := hl
  refine lv_iload_n hx hb dX12_at_0 rfl (lv_at hl 1 rfl) ?_
  refine lv_if_lt (tgt := 12) hx hb dX12_at_1 (by decide) (fun c_1 => ?_) (fun c_1 => ?_)
  · refine lv_iconst (v := (-1)) hx hb dX12_at_12 (by decide) ?_
    refine lv_goto (tgt := 22) hx hb dX12_at_13 (by decide) ?_
    exact hret _ _ _ _ _ _ hP hD hS dX12_at_22 ⟨hW_w, Sm.rf⟩
  · refine lv_iload_n hx hb dX12_at_4 rfl (lv_at hl 1 rfl) ?_
    refine lv_aload_n hx hb dX12_at_5 rfl (lv_at hl 0 rfl) ?_
    refine gt_X12 hx hb hts hown hK hP 0 (hW_w.o tM_0) 93 (by decide) wd_1494 rfl (hW_w.fi tM_0 rfl) dX12_at_6 ?_
    refine lv_icmp_lt (tgt := 16) hx hb dX12_at_9 (by decide) (fun c_2 => ?_) (fun c_2 => ?_)
    · refine lv_aload_n hx hb dX12_at_16 rfl (lv_at hl 0 rfl) ?_
      refine gt_X12 hx hb hts hown hK hP 0 (hW_w.o tM_0) 92 (by decide) wd_1493 rfl (hW_w.fr tM_0 rfl) dX12_at_17 ?_
      refine lv_iload_n hx hb dX12_at_20 rfl (lv_at hl 1 rfl) ?_
      refine va_iald hx hb hK hP 63 0 (hW_w.a tM_63) rfl (in_I (R_lt_l (R_nlt_l (In_any p1) (In_lit (n := 0) (by decide) (by decide) : In 0 0 0) c_1 (by decide) : In 0 2147483647 p1) (hW_w.fin tM_0 rfl : In 0 200 (fI w 0 93)) c_2 (by decide) : In 0 199 p1) (by decide)) dX12_at_21 ?_
      refine lv_topi (fun v_3 ev_3 => ?_)
      exact hret _ _ _ _ _ _ hP hD hS dX12_at_22 ⟨hW_w, Sm.rf⟩
    · refine lv_iconst (v := (-1)) hx hb dX12_at_12 (by decide) ?_
      refine lv_goto (tgt := 22) hx hb dX12_at_13 (by decide) ?_
      exact hret _ _ _ _ _ _ hP hD hS dX12_at_22 ⟨hW_w, Sm.rf⟩
