set_option maxRecDepth 100000 in
set_option maxHeartbeats 8000000 in
theorem k_X12_isChild (l : Launch) (D : va_G) (cI cJ cZ : ClassId) (q : Nat → Nat) (w : va_W) (hW_w : HT q (TM q cI cJ cZ) w) (p1 : Int32) : Con_i l yX12_isChild cX12_isChild 2 (some .boolean) ({ frames := 0, cells := 0, slots := 0, locals := 0 }) D cI cJ cZ eW [.ref (q 0), .int p1] w (fun (r : Int32) (w1 : va_W) => HT q (TM q cI cJ cZ) w1 ∧ Sm [] [] w w1 ∧ In 0 1 r ∧ (¬ r = 0 → In 1 40 (fI w1 0 45) ∧ In 0 39 p1)) := by
  refine eQ_z rfl (by decide) (Nat.le_of_ble_eq_true rfl) ⟨rfl, rfl⟩ ?_
  intro p e R s m args below meth c A Q hx hb hml hown hts hK hE hA hR hret hP hD hS ls hl
  have hown : s.vm.findClass RX12 = some m.cls := hown
  have hl : lv_has ls 2 [(0, .ref (q 0)), (1, .int p1)] := hl
  refine lv_iload_n hx hb dX12_isChild_0 rfl (lv_at hl 1 rfl) ?_
  refine lv_if_lt (tgt := 16) hx hb dX12_isChild_1 (by decide) (fun c_1 => ?_) (fun c_1 => ?_)
  · refine lv_iconst (v := 0) hx hb dX12_isChild_16 (by decide) ?_
    exact hret _ _ _ _ _ _ hP hD hS dX12_isChild_17 (In_lit (n := 0) (by decide) (by decide) : In 0 1 0) ⟨hW_w, Sm.rf, (In_lit (n := 0) (by decide) (by decide) : In 0 1 0), (fun h => absurd rfl h)⟩
  · refine lv_iload_n hx hb dX12_isChild_4 rfl (lv_at hl 1 rfl) ?_
    refine lv_aload_n hx hb dX12_isChild_5 rfl (lv_at hl 0 rfl) ?_
    refine gt_X12 hx hb hts hown hK hP 0 (hW_w.o tM_0) 45 (by decide) wd_1446 rfl (hW_w.fi tM_0 rfl) dX12_isChild_6 ?_
    refine lv_icmp_ge (tgt := 16) hx hb dX12_isChild_9 (by decide) (fun c_2 => ?_) (fun c_2 => ?_)
    · refine lv_iconst (v := 0) hx hb dX12_isChild_16 (by decide) ?_
      exact hret _ _ _ _ _ _ hP hD hS dX12_isChild_17 (In_lit (n := 0) (by decide) (by decide) : In 0 1 0) ⟨hW_w, Sm.rf, (In_lit (n := 0) (by decide) (by decide) : In 0 1 0), (fun h => absurd rfl h)⟩
    · refine lv_iconst (v := 1) hx hb dX12_isChild_12 (by decide) ?_
      refine lv_goto (tgt := 17) hx hb dX12_isChild_13 (by decide) ?_
      exact hret _ _ _ _ _ _ hP hD hS dX12_isChild_17 (In_lit (n := 1) (by decide) (by decide) : In 0 1 1) ⟨hW_w, Sm.rf, (In_lit (n := 1) (by decide) (by decide) : In 0 1 1), (fun h => ⟨(R_nle_l (hW_w.fin tM_0 rfl : In 0 40 (fI w 0 45)) (R_nlt_l (In_any p1) (In_lit (n := 0) (by decide) (by decide) : In 0 0 0) c_1 (by decide) : In 0 2147483647 p1) c_2 (by decide) : In 1 40 (fI w 0 45)), (R_nle_r (hW_w.fin tM_0 rfl : In 0 40 (fI w 0 45)) (R_nlt_l (In_any p1) (In_lit (n := 0) (by decide) (by decide) : In 0 0 0) c_1 (by decide) : In 0 2147483647 p1) c_2 (by decide) : In 0 39 p1)⟩)⟩
set_option maxRecDepth 100000 in
set_option maxHeartbeats 8000000 in
theorem k_X12_wish (l : Launch) (D : va_G) (cI cJ cZ : ClassId) (q : Nat → Nat) (w : va_W) (hW_w : HT q (TM q cI cJ cZ) w) (p1 : Int32) (p2 : Int32) (p3 : Int32) (hLM : LM w) : Con_i l yX12_wish cX12_wish 4 (some .int) ({ frames := 3, cells := 0, slots := 0, locals := 73 }) D cI cJ cZ eW [.ref (q 0), .int p1, .int p2, .int p3] w (fun (r : Int32) (w1 : va_W) => HT q (TM q cI cJ cZ) w1 ∧ Sm [0, 26, 27, 28, 29, 30, 31, 32, 33, 34, 35, 36] [(0, 45)] w w1) := by
  refine eQ_i rfl (by decide) (Nat.le_of_ble_eq_true rfl) ⟨rfl, rfl⟩ ?_
  intro p e R s m args below meth c A Q hx hb hml hown hts hK hE hA hR hret hP hD hS ls hl
  have hown : s.vm.findClass RX12 = some m.cls := hown
  have hl : lv_has ls 4 [(0, .ref (q 0)), (1, .int p1), (2, .int p2), (3, .int p3)] := hl
  refine lv_aload_n hx hb dX12_wish_0 rfl (lv_at hl 0 rfl) ?_
  refine kW_v ⟨rfl, rfl⟩ hP hD hS hA (rW_V (As := []) (rest := []) hx hb hml hown hts hK hE hP hD (k_X12_knows l D cI cJ cZ q w hW_w (LM_cg rfl rfl hLM) _) ⟨⟨rfl, rfl⟩, rfl, rfl⟩ sv_X12_471 ⟨(Nat.le_trans (by decide) hR.1), (Nat.le_trans (by decide) hR.2)⟩ 0 12 (hW_w.o tM_0) rfl rfl rfl hl.1 rfl (Nat.le_of_ble_eq_true rfl) dX12_wish_1) (fun w_1 H locs hw_w_1 hP hD hS => ?_)
  obtain ⟨hW_w_1, hs_w_1⟩ := hw_w_1
  refine lv_aload_n hx hb dX12_wish_4 rfl (lv_at hl 0 rfl) ?_
  refine lv_iload_n hx hb dX12_wish_5 rfl (lv_at hl 1 rfl) ?_
  refine kW_i ⟨rfl, rfl⟩ hP hD hS hA (rW_V (As := [.int p1]) (rest := []) hx hb hml hown hts hK hE hP hD (k_X12_isChild l D cI cJ cZ q w_1 hW_w_1 p1 _) ⟨⟨rfl, rfl⟩, rfl, rfl⟩ sv_X12_512 ⟨(Nat.le_trans (by decide) hR.1), (Nat.le_trans (by decide) hR.2)⟩ 0 12 (hW_w_1.o tM_0) rfl rfl rfl hl.1 rfl (Nat.le_of_ble_eq_true rfl) dX12_wish_6) (fun r_4 w_3 H locs hw_w_3 hP hD hS => ?_)
  obtain ⟨hW_w_3, hs_w_3, i_r_4, h_5⟩ := hw_w_3
  refine lv_if_eq (tgt := 26) hx hb dX12_wish_9 (by decide) (fun c_6 => ?_) (fun c_6 => ?_)
  · refine lv_iconst (v := (-1)) hx hb dX12_wish_26 (by decide) ?_
    refine lv_goto (tgt := 44) hx hb dX12_wish_27 (by decide) ?_
    exact hret _ _ _ _ _ _ hP hD hS dX12_wish_44 ⟨hW_w_3, ((Sm.rf.tr hs_w_1 (by decide)).tr hs_w_3 (by decide))⟩
  · refine lv_iload_n hx hb dX12_wish_12 rfl (lv_at hl 2 rfl) ?_
    refine lv_if_lt (tgt := 26) hx hb dX12_wish_13 (by decide) (fun c_7 => ?_) (fun c_7 => ?_)
    · refine lv_iconst (v := (-1)) hx hb dX12_wish_26 (by decide) ?_
      refine lv_goto (tgt := 44) hx hb dX12_wish_27 (by decide) ?_
      exact hret _ _ _ _ _ _ hP hD hS dX12_wish_44 ⟨hW_w_3, ((Sm.rf.tr hs_w_1 (by decide)).tr hs_w_3 (by decide))⟩
    · refine lv_iload_n hx hb dX12_wish_16 rfl (lv_at hl 2 rfl) ?_
      refine lv_aload_n hx hb dX12_wish_17 rfl (lv_at hl 0 rfl) ?_
      refine gt_X12 hx hb hts hown hK hP 0 (hW_w_3.o tM_0) 53 (by decide) wd_1454 rfl (hW_w_3.fr tM_0 rfl) dX12_wish_18 ?_
      refine lv_iload_n hx hb dX12_wish_21 rfl (lv_at hl 1 rfl) ?_
      refine va_iald hx hb hK hP 33 0 (hW_w_3.a tM_33) rfl (in_I (h_5 c_6).2 (by decide)) dX12_wish_22 ?_
      refine lv_topi (fun v_8 ev_8 => ?_)
      refine lv_icmp_lt (tgt := 30) hx hb dX12_wish_23 (by decide) (fun c_9 => ?_) (fun c_9 => ?_)
      · refine lv_aload_n hx hb dX12_wish_30 rfl (lv_at hl 0 rfl) ?_
        refine gt_X12 hx hb hts hown hK hP 0 (hW_w_3.o tM_0) 54 (by decide) wd_1455 rfl (hW_w_3.fr tM_0 rfl) dX12_wish_31 ?_
        refine lv_iconst (v := 4) hx hb dX12_wish_34 (by decide) ?_
        refine lv_iload_n hx hb dX12_wish_35 rfl (lv_at hl 1 rfl) ?_
        refine lv_imul hx hb dX12_wish_36 ?_
        refine lv_iload_n hx hb dX12_wish_37 rfl (lv_at hl 2 rfl) ?_
        refine lv_iadd hx hb dX12_wish_38 ?_
        refine va_lald hx hb hK hP 34 1 (hW_w_3.al tM_34) rfl (in_I ((In_add ((In_mull (h_5 c_6).2 (n := 4) (by decide) (by decide)) : In 0 156 (4 * p1)) (R_lt_l (R_nlt_l (In_any p2) (In_lit (n := 0) (by decide) (by decide) : In 0 0 0) c_7 (by decide) : In 0 2147483647 p2) (In_of ev_8 (hW_w_3.ap tM_33 _) : In 0 4 v_8) c_9 (by decide) : In 0 3 p2) (by decide)) : In 0 159 ((4 * p1) + p2)) (by decide)) dX12_wish_39 ?_
        refine lv_topl (fun v_10 ev_10 => ?_)
        refine lv_iload_n hx hb dX12_wish_40 rfl (lv_at hl 3 rfl) ?_
        refine kW_i ⟨rfl, rfl⟩ hP hD hS hA (rW_S (As := [.long v_10, .int p3]) (rest := []) hx hb hml hown hts hK hE hP hD (k_X12_letter l D cI cJ cZ q w_3 hW_w_3 v_10 p3 _) ⟨⟨rfl, rfl⟩, rfl, rfl⟩ sv_X12_447 ⟨(Nat.le_trans (by decide) hR.1), (Nat.le_trans (by decide) hR.2)⟩ rfl hl.1 rfl (Nat.le_of_ble_eq_true rfl) dX12_wish_41) (fun r_12 w_11 H locs hw_w_11 hP hD hS => ?_)
        obtain ⟨hW_w_11, hs_w_11, h_13⟩ := hw_w_11
        exact hret _ _ _ _ _ _ hP hD hS dX12_wish_44 ⟨hW_w_11, (((Sm.rf.tr hs_w_1 (by decide)).tr hs_w_3 (by decide)).tr hs_w_11 (by decide))⟩
      · refine lv_iconst (v := (-1)) hx hb dX12_wish_26 (by decide) ?_
        refine lv_goto (tgt := 44) hx hb dX12_wish_27 (by decide) ?_
        exact hret _ _ _ _ _ _ hP hD hS dX12_wish_44 ⟨hW_w_3, ((Sm.rf.tr hs_w_1 (by decide)).tr hs_w_3 (by decide))⟩
set_option maxRecDepth 100000 in
set_option maxHeartbeats 8000000 in
theorem k_X12_arrives (l : Launch) (D : va_G) (cI cJ cZ : ClassId) (q : Nat → Nat) (w : va_W) (hW_w : HT q (TM q cI cJ cZ) w) (hLM : LM w) : Con_v l yX12_arrives cX12_arrives 2 none ({ frames := 2, cells := 0, slots := 0, locals := 41 }) D cI cJ cZ eW [.ref (q 0)] w (fun (w1 : va_W) => HT q (TM q cI cJ cZ) w1 ∧ Sm [46] [] w w1) := by
  refine eQ_v rfl (by decide) (Nat.le_of_ble_eq_true rfl) ⟨rfl, rfl⟩ ?_
  intro p e R s m args below meth c A Q hx hb hml hown hts hK hE hA hR hret hP hD hS ls hl
  have hown : s.vm.findClass RX12 = some m.cls := hown
  have hl : lv_has ls 2 [(0, .ref (q 0))] := hl
  have J24 : ∀ (N : Nat) (x24_1 : Int32) (w24 : va_W) (H : Heap) (locs : List Loc) (ls : Array Slot), (201 - x24_1.toInt).toNat < N → HT q (TM q cI cJ cZ) w24 → Sm [46] [] w w24 → (In 1 201 x24_1) → va_P D vwCl w24 H → va_D A w24 → va_S A s.heap H locs → lv_has ls 2 [(0, .ref (q 0)), (1, .int x24_1)] → W p l e R s m args below meth c H locs 0 0 Q (F0 m 24 ls []) := by
    intro N
    induction N with
    | zero => intro x24_1 w24 H locs ls hmu; exact absurd hmu (Nat.not_lt_zero _)
    | succ N ih24 =>
      intro x24_1 w24 H locs ls hmu24 hW_w24 hM_w24 i_x24_1 hP hD hS hl
      have J90 : ∀ (w90 : va_W) (H : Heap) (locs : List Loc) (ls : Array Slot), HT q (TM q cI cJ cZ) w90 → Sm [46] [] w w90 → (In 1 200 x24_1) → (In 1 200 (fI w90 0 37)) → va_P D vwCl w90 H → va_D A w90 → va_S A s.heap H locs → lv_has ls 2 [(0, .ref (q 0)), (1, .int x24_1)] → W p l e R s m args below meth c H locs 0 0 Q (F0 m 90 ls []) := by
        intro w90 H locs ls hW_w90 hM_w90 i_x90_1 g90_0_37 hP hD hS hl
        refine lv_iinc (v := (x24_1 + 1)) (lv' := [(1, .int (x24_1 + 1)), (0, .ref (q 0))]) hx hb dX12_arrives_90 hl (k := 1) rfl (rfl) (by decide) rfl (fun ls hl => ?_)
        refine lv_goto (tgt := 24) hx hb dX12_arrives_93 (by decide) ?_
        exact ih24 (x24_1 + 1) w90 _ _ ls (mu_inc hmu24 i_x90_1 (In_lit (n := 1) (by decide) (by decide) : In 1 1 1) (by decide)) hW_w90 hM_w90 (In_w ((In_add (y := 1) i_x90_1 (In_lit (n := 1) (by decide) (by decide) : In 1 1 1) (by decide)) : In 2 201 (x24_1 + 1)) (by decide) : In 1 201 (x24_1 + 1)) hP hD hS (lv_sub hl [1, 0] rfl)
      refine lv_iload_n hx hb dX12_arrives_24 rfl (lv_at hl 1 rfl) ?_
      refine lv_aload_n hx hb dX12_arrives_25 rfl (lv_at hl 0 rfl) ?_
      refine gt_X12 hx hb hts hown hK hP 0 (hW_w24.o tM_0) 37 (by decide) wd_1438 rfl (hW_w24.fi tM_0 rfl) dX12_arrives_26 ?_
      refine tov (v := (fI w 0 37)) (hM_w24.gI (by decide)) ?_
      refine lv_icmp_gt (tgt := 96) hx hb dX12_arrives_29 (by decide) (fun c_1 => ?_) (fun c_1 => ?_)
      · exact hret _ _ _ _ _ hP hD hS dX12_arrives_96 ⟨hW_w24, hM_w24⟩
      · refine lv_aload_n hx hb dX12_arrives_32 rfl (lv_at hl 0 rfl) ?_
        refine gt_X12 hx hb hts hown hK hP 0 (hW_w24.o tM_0) 40 (by decide) wd_1441 rfl (hW_w24.fr tM_0 rfl) dX12_arrives_33 ?_
        refine lv_iload_n hx hb dX12_arrives_36 rfl (lv_at hl 1 rfl) ?_
        refine va_iald hx hb hK hP 21 0 (hW_w24.a tM_21) rfl (in_I (R_nlt_r (hW_w.fin tM_0 rfl : In 0 200 (fI w 0 37)) i_x24_1 c_1 (by decide) : In 1 200 x24_1) (by decide)) dX12_arrives_37 ?_
        refine lv_topi (fun v_2 ev_2 => ?_)
        refine lv_iconst (v := 1) hx hb dX12_arrives_38 (by decide) ?_
        refine lv_icmp_ne (tgt := 90) hx hb dX12_arrives_39 (by decide) (fun c_3 => ?_) (fun c_3 => ?_)
        · exact J90 w24 _ _ ls hW_w24 hM_w24 (R_nlt_r (hW_w.fin tM_0 rfl : In 0 200 (fI w 0 37)) i_x24_1 c_1 (by decide) : In 1 200 x24_1) (In_of (hM_w24.gI (by decide)) (R_nlt_l (hW_w.fin tM_0 rfl : In 0 200 (fI w 0 37)) i_x24_1 c_1 (by decide) : In 1 200 (fI w 0 37))) hP hD hS (lv_sub hl [0, 1] rfl)
        · refine lv_aload_n hx hb dX12_arrives_42 rfl (lv_at hl 0 rfl) ?_
          refine lv_iload_n hx hb dX12_arrives_43 rfl (lv_at hl 1 rfl) ?_
          refine kW_i ⟨rfl, rfl⟩ hP hD hS hA (rW_V (As := [.int x24_1]) (rest := []) hx hb hml hown hts hK hE hP hD (k_X12_isSo l D cI cJ cZ q w24 hW_w24 x24_1 (R_nlt_r (hW_w.fin tM_0 rfl : In 0 200 (fI w 0 37)) i_x24_1 c_1 (by decide) : In 1 200 x24_1) _) ⟨⟨rfl, rfl⟩, rfl, rfl⟩ sv_X12_461 ⟨(Nat.le_trans (by decide) hR.1), (Nat.le_trans (by decide) hR.2)⟩ 0 12 (hW_w24.o tM_0) rfl rfl rfl hl.1 rfl (Nat.le_of_ble_eq_true rfl) dX12_arrives_44) (fun r_5 w_4 H locs hw_w_4 hP hD hS => ?_)
          obtain ⟨hW_w_4, hs_w_4, i_r_5⟩ := hw_w_4
          refine lv_if_eq (tgt := 90) hx hb dX12_arrives_47 (by decide) (fun c_6 => ?_) (fun c_6 => ?_)
          · exact J90 w_4 _ _ ls hW_w_4 (hM_w24.tr hs_w_4 (by decide)) (R_nlt_r (hW_w.fin tM_0 rfl : In 0 200 (fI w 0 37)) i_x24_1 c_1 (by decide) : In 1 200 x24_1) (In_of ((hs_w_4.gI (by decide)).trans (hM_w24.gI (by decide))) (R_nlt_l (hW_w.fin tM_0 rfl : In 0 200 (fI w 0 37)) i_x24_1 c_1 (by decide) : In 1 200 (fI w 0 37))) hP hD hS (lv_sub hl [0, 1] rfl)
          · refine lv_aload_n hx hb dX12_arrives_50 rfl (lv_at hl 0 rfl) ?_
            refine gt_X12 hx hb hts hown hK hP 0 (hW_w_4.o tM_0) 67 (by decide) wd_1468 rfl (hW_w_4.fr tM_0 rfl) dX12_arrives_51 ?_
            refine lv_bipush (v := 25) hx hb dX12_arrives_54 (by decide) ?_
            refine lv_aload_n hx hb dX12_arrives_56 rfl (lv_at hl 0 rfl) ?_
            refine gt_X12 hx hb hts hown hK hP 0 (hW_w_4.o tM_0) 41 (by decide) wd_1442 rfl (hW_w_4.fr tM_0 rfl) dX12_arrives_57 ?_
            refine lv_iconst (v := 5) hx hb dX12_arrives_60 (by decide) ?_
            refine lv_iload_n hx hb dX12_arrives_61 rfl (lv_at hl 1 rfl) ?_
            refine lv_imul hx hb dX12_arrives_62 ?_
            refine va_iald hx hb hK hP 22 0 (hW_w_4.a tM_22) rfl (in_I ((In_mull (R_nlt_r (hW_w.fin tM_0 rfl : In 0 200 (fI w 0 37)) i_x24_1 c_1 (by decide) : In 1 200 x24_1) (n := 5) (by decide) (by decide)) : In 5 1000 (5 * x24_1)) (by decide)) dX12_arrives_63 ?_
            refine lv_topi (fun v_7 ev_7 => ?_)
            refine lv_imul hx hb dX12_arrives_64 ?_
            refine lv_aload_n hx hb dX12_arrives_65 rfl (lv_at hl 0 rfl) ?_
            refine gt_X12 hx hb hts hown hK hP 0 (hW_w_4.o tM_0) 41 (by decide) wd_1442 rfl (hW_w_4.fr tM_0 rfl) dX12_arrives_66 ?_
            refine lv_iconst (v := 5) hx hb dX12_arrives_69 (by decide) ?_
            refine lv_iload_n hx hb dX12_arrives_70 rfl (lv_at hl 1 rfl) ?_
            refine lv_imul hx hb dX12_arrives_71 ?_
            refine lv_iconst (v := 1) hx hb dX12_arrives_72 (by decide) ?_
            refine lv_iadd hx hb dX12_arrives_73 ?_
            refine va_iald hx hb hK hP 22 0 (hW_w_4.a tM_22) rfl (in_I ((In_add ((In_mull (R_nlt_r (hW_w.fin tM_0 rfl : In 0 200 (fI w 0 37)) i_x24_1 c_1 (by decide) : In 1 200 x24_1) (n := 5) (by decide) (by decide)) : In 5 1000 (5 * x24_1)) (In_lit (n := 1) (by decide) (by decide) : In 1 1 1) (by decide)) : In 6 1001 ((5 * x24_1) + 1)) (by decide)) dX12_arrives_74 ?_
            refine lv_topi (fun v_8 ev_8 => ?_)
            refine lv_iadd hx hb dX12_arrives_75 ?_
            refine lv_dup2_11 hx hb dX12_arrives_76 rfl rfl ?_
            refine va_iald hx hb hK hP 46 0 (hW_w_4.a tM_46) rfl (in_I ((In_add ((In_mull (In_of (ev_7.trans (congrFun ((hs_w_4.hA (by decide)).trans (hM_w24.hA (by decide))) _)) ((hLM x24_1 (R_nlt_r (hW_w.fin tM_0 rfl : In 0 200 (fI w 0 37)) i_x24_1 c_1 (by decide) : In 1 200 x24_1)).2 (((congrFun (hM_w24.hA (by decide)) _).symm.trans ev_2.symm).trans c_3)).1 : In 0 9 v_7) (n := 25) (by decide) (by decide)) : In 0 225 (25 * v_7)) (In_of (ev_8.trans (congrFun ((hs_w_4.hA (by decide)).trans (hM_w24.hA (by decide))) _)) ((hLM x24_1 (R_nlt_r (hW_w.fin tM_0 rfl : In 0 200 (fI w 0 37)) i_x24_1 c_1 (by decide) : In 1 200 x24_1)).2 (((congrFun (hM_w24.hA (by decide)) _).symm.trans ev_2.symm).trans c_3)).2 : In 0 24 v_8) (by decide)) : In 0 249 ((25 * v_7) + v_8)) (by decide)) dX12_arrives_77 ?_
            refine lv_topi (fun v_9 ev_9 => ?_)
            refine lv_aload_n hx hb dX12_arrives_78 rfl (lv_at hl 0 rfl) ?_
            refine gt_X12 hx hb hts hown hK hP 0 (hW_w_4.o tM_0) 41 (by decide) wd_1442 rfl (hW_w_4.fr tM_0 rfl) dX12_arrives_79 ?_
            refine lv_iconst (v := 5) hx hb dX12_arrives_82 (by decide) ?_
            refine lv_iload_n hx hb dX12_arrives_83 rfl (lv_at hl 1 rfl) ?_
            refine lv_imul hx hb dX12_arrives_84 ?_
            refine lv_iconst (v := 2) hx hb dX12_arrives_85 (by decide) ?_
            refine lv_iadd hx hb dX12_arrives_86 ?_
            refine va_iald hx hb hK hP 22 0 (hW_w_4.a tM_22) rfl (in_I ((In_add ((In_mull (R_nlt_r (hW_w.fin tM_0 rfl : In 0 200 (fI w 0 37)) i_x24_1 c_1 (by decide) : In 1 200 x24_1) (n := 5) (by decide) (by decide)) : In 5 1000 (5 * x24_1)) (In_lit (n := 2) (by decide) (by decide) : In 2 2 2) (by decide)) : In 7 1002 ((5 * x24_1) + 2)) (by decide)) dX12_arrives_87 ?_
            refine lv_topi (fun v_10 ev_10 => ?_)
            refine lv_iadd hx hb dX12_arrives_88 ?_
            refine lv_topi (fun v_11 ev_11 => ?_)
            refine va_iast hx hb hK hP hD hS 46 0 (hW_w_4.a tM_46) rfl (in_I ((In_add ((In_mull (In_of (ev_7.trans (congrFun ((hs_w_4.hA (by decide)).trans (hM_w24.hA (by decide))) _)) ((hLM x24_1 (R_nlt_r (hW_w.fin tM_0 rfl : In 0 200 (fI w 0 37)) i_x24_1 c_1 (by decide) : In 1 200 x24_1)).2 (((congrFun (hM_w24.hA (by decide)) _).symm.trans ev_2.symm).trans c_3)).1 : In 0 9 v_7) (n := 25) (by decide) (by decide)) : In 0 225 (25 * v_7)) (In_of (ev_8.trans (congrFun ((hs_w_4.hA (by decide)).trans (hM_w24.hA (by decide))) _)) ((hLM x24_1 (R_nlt_r (hW_w.fin tM_0 rfl : In 0 200 (fI w 0 37)) i_x24_1 c_1 (by decide) : In 1 200 x24_1)).2 (((congrFun (hM_w24.hA (by decide)) _).symm.trans ev_2.symm).trans c_3)).2 : In 0 24 v_8) (by decide)) : In 0 249 ((25 * v_7) + v_8)) (by decide)) dX12_arrives_89 (fun H locs hP hD hS => fr_w (hW_w_4.uA tM_46 (In_any v_11)) hP hD (fun w_12 ew_12 hW_w_12 hP hD => ?_))
            exact J90 w_12 _ _ ls hW_w_12 ((hM_w24.tr hs_w_4 (by decide)).sa ew_12 (by decide)) (R_nlt_r (hW_w.fin tM_0 rfl : In 0 200 (fI w 0 37)) i_x24_1 c_1 (by decide) : In 1 200 x24_1) (In_of ((fI_cg (st_ne ew_12 (by decide))).trans ((hs_w_4.gI (by decide)).trans (hM_w24.gI (by decide)))) (R_nlt_l (hW_w.fin tM_0 rfl : In 0 200 (fI w 0 37)) i_x24_1 c_1 (by decide) : In 1 200 (fI w 0 37))) hP hD hS (lv_sub hl [0, 1] rfl)
  have J2 : ∀ (N : Nat) (x2_1 : Int32) (w2 : va_W) (H : Heap) (locs : List Loc) (ls : Array Slot), (250 - x2_1.toInt).toNat < N → HT q (TM q cI cJ cZ) w2 → Sm [46] [] w w2 → (In 0 250 x2_1) → va_P D vwCl w2 H → va_D A w2 → va_S A s.heap H locs → lv_has ls 2 [(0, .ref (q 0)), (1, .int x2_1)] → W p l e R s m args below meth c H locs 0 0 Q (F0 m 2 ls []) := by
    intro N
    induction N with
    | zero => intro x2_1 w2 H locs ls hmu; exact absurd hmu (Nat.not_lt_zero _)
    | succ N ih2 =>
      intro x2_1 w2 H locs ls hmu2 hW_w2 hM_w2 i_x2_1 hP hD hS hl
      refine lv_iload_n hx hb dX12_arrives_2 rfl (lv_at hl 1 rfl) ?_
      refine lv_sipush (v := 250) hx hb dX12_arrives_3 (by decide) ?_
      refine lv_icmp_ge (tgt := 22) hx hb dX12_arrives_6 (by decide) (fun c_13 => ?_) (fun c_13 => ?_)
      · refine lv_iconst (v := 1) hx hb dX12_arrives_22 (by decide) ?_
        refine lv_istore_n (lv' := [(1, .int 1), (0, .ref (q 0))]) hx hb dX12_arrives_23 rfl hl (by decide) rfl (fun ls hl => ?_)
        exact J24 _ 1 w2 _ _ ls (Nat.lt_succ_self _) hW_w2 hM_w2 (In_lit (n := 1) (by decide) (by decide) : In 1 201 1) hP hD hS (lv_sub hl [1, 0] rfl)
      · refine lv_aload_n hx hb dX12_arrives_9 rfl (lv_at hl 0 rfl) ?_
        refine gt_X12 hx hb hts hown hK hP 0 (hW_w2.o tM_0) 67 (by decide) wd_1468 rfl (hW_w2.fr tM_0 rfl) dX12_arrives_10 ?_
        refine lv_iload_n hx hb dX12_arrives_13 rfl (lv_at hl 1 rfl) ?_
        refine lv_iconst (v := 0) hx hb dX12_arrives_14 (by decide) ?_
        refine va_iast hx hb hK hP hD hS 46 0 (hW_w2.a tM_46) rfl (in_I (R_nle_r (In_lit (n := 250) (by decide) (by decide) : In 250 250 250) i_x2_1 c_13 (by decide) : In 0 249 x2_1) (by decide)) dX12_arrives_15 (fun H locs hP hD hS => fr_w (hW_w2.uA tM_46 (In_lit (n := 0) (by decide) (by decide) : In (-2147483648) 2147483647 0)) hP hD (fun w_14 ew_14 hW_w_14 hP hD => ?_))
        refine lv_iinc (v := (x2_1 + 1)) (lv' := [(1, .int (x2_1 + 1)), (0, .ref (q 0))]) hx hb dX12_arrives_16 hl (k := 1) rfl (rfl) (by decide) rfl (fun ls hl => ?_)
        refine lv_goto (tgt := 2) hx hb dX12_arrives_19 (by decide) ?_
        exact ih2 (x2_1 + 1) w_14 _ _ ls (mu_inc hmu2 (R_nle_r (In_lit (n := 250) (by decide) (by decide) : In 250 250 250) i_x2_1 c_13 (by decide) : In 0 249 x2_1) (In_lit (n := 1) (by decide) (by decide) : In 1 1 1) (by decide)) hW_w_14 (hM_w2.sa ew_14 (by decide)) (In_w ((In_add (y := 1) (R_nle_r (In_lit (n := 250) (by decide) (by decide) : In 250 250 250) i_x2_1 c_13 (by decide) : In 0 249 x2_1) (In_lit (n := 1) (by decide) (by decide) : In 1 1 1) (by decide)) : In 1 250 (x2_1 + 1)) (by decide) : In 0 250 (x2_1 + 1)) hP hD hS (lv_sub hl [1, 0] rfl)
  refine lv_iconst (v := 0) hx hb dX12_arrives_0 (by decide) ?_
  refine lv_istore_n (lv' := [(1, .int 0), (0, .ref (q 0))]) hx hb dX12_arrives_1 rfl hl (by decide) rfl (fun ls hl => ?_)
  exact J2 _ 0 w _ _ ls (Nat.lt_succ_self _) hW_w Sm.rf (In_lit (n := 0) (by decide) (by decide) : In 0 250 0) hP hD hS (lv_sub hl [1, 0] rfl)
set_option maxRecDepth 100000 in
set_option maxHeartbeats 8000000 in
theorem k_X12_lane (l : Launch) (D : va_G) (cI cJ cZ : ClassId) (q : Nat → Nat) (w : va_W) (hW_w : HT q (TM q cI cJ cZ) w) (p1 : Int32) (p2 : Int32) (p3 : Int32) (p4 : Int64) (i_p1 : In 0 282 p1) (i_p2 : In 1 282 p2) (hf_0_62 : In 0 2198 (fI w 0 62)) : Con_i l yX12_lane cX12_lane 6 (some .int) ({ frames := 0, cells := 0, slots := 0, locals := 0 }) D cI cJ cZ eW [.ref (q 0), .int p1, .int p2, .int p3, .long p4] w (fun (r : Int32) (w1 : va_W) => HT q (TM q cI cJ cZ) w1 ∧ Sm [0, 38, 39, 40, 41] [(0, 62)] w w1 ∧ In 0 2198 r ∧ In 2 2200 (fI w1 0 62) ∧ ((fI w1 0 62).toInt = (fI w 0 62).toInt + 2)) := by
  refine eQ_i rfl (by decide) (Nat.le_of_ble_eq_true rfl) ⟨rfl, rfl⟩ ?_
  intro p e R s m args below meth c A Q hx hb hml hown hts hK hE hA hR hret hP hD hS ls hl
  have hown : s.vm.findClass RX12 = some m.cls := hown
  have hl : lv_has ls 6 [(0, .ref (q 0)), (1, .int p1), (2, .int p2), (3, .int p3), (4, .long p4)] := hl
  refine lv_aload_n hx hb dX12_lane_0 rfl (lv_at hl 0 rfl) ?_
  refine gt_X12 hx hb hts hown hK hP 0 (hW_w.o tM_0) 58 (by decide) wd_1459 rfl (hW_w.fr tM_0 rfl) dX12_lane_1 ?_
  refine lv_aload_n hx hb dX12_lane_4 rfl (lv_at hl 0 rfl) ?_
  refine gt_X12 hx hb hts hown hK hP 0 (hW_w.o tM_0) 62 (by decide) wd_1463 rfl (hW_w.fi tM_0 rfl) dX12_lane_5 ?_
  refine lv_iload_n hx hb dX12_lane_8 rfl (lv_at hl 1 rfl) ?_
  refine va_iast hx hb hK hP hD hS 38 0 (hW_w.a tM_38) rfl (in_I hf_0_62 (by decide)) dX12_lane_9 (fun H locs hP hD hS => fr_w (hW_w.uA tM_38 (In_w i_p1 (by decide) : In 0 289 p1)) hP hD (fun w_1 ew_1 hW_w_1 hP hD => ?_))
  refine lv_aload_n hx hb dX12_lane_10 rfl (lv_at hl 0 rfl) ?_
  refine gt_X12 hx hb hts hown hK hP 0 (hW_w_1.o tM_0) 59 (by decide) wd_1460 rfl (hW_w_1.fr tM_0 rfl) dX12_lane_11 ?_
  refine lv_aload_n hx hb dX12_lane_14 rfl (lv_at hl 0 rfl) ?_
  refine gt_X12 hx hb hts hown hK hP 0 (hW_w_1.o tM_0) 62 (by decide) wd_1463 rfl (hW_w_1.fi tM_0 rfl) dX12_lane_15 ?_
  refine tov (v := (fI w 0 62)) (fI_cg (st_ne ew_1 (by decide))) ?_
  refine lv_iload_n hx hb dX12_lane_18 rfl (lv_at hl 2 rfl) ?_
  refine va_iast hx hb hK hP hD hS 39 0 (hW_w_1.a tM_39) rfl (in_I hf_0_62 (by decide)) dX12_lane_19 (fun H locs hP hD hS => fr_w (hW_w_1.uA tM_39 (In_w i_p2 (by decide) : In 0 289 p2)) hP hD (fun w_2 ew_2 hW_w_2 hP hD => ?_))
  refine lv_aload_n hx hb dX12_lane_20 rfl (lv_at hl 0 rfl) ?_
  refine gt_X12 hx hb hts hown hK hP 0 (hW_w_2.o tM_0) 60 (by decide) wd_1461 rfl (hW_w_2.fr tM_0 rfl) dX12_lane_21 ?_
  refine lv_aload_n hx hb dX12_lane_24 rfl (lv_at hl 0 rfl) ?_
  refine gt_X12 hx hb hts hown hK hP 0 (hW_w_2.o tM_0) 62 (by decide) wd_1463 rfl (hW_w_2.fi tM_0 rfl) dX12_lane_25 ?_
  refine tov (v := (fI w 0 62)) ((fI_cg (st_ne ew_2 (by decide))).trans (fI_cg (st_ne ew_1 (by decide)))) ?_
  refine lv_iload_n hx hb dX12_lane_28 rfl (lv_at hl 3 rfl) ?_
  refine va_iast hx hb hK hP hD hS 40 0 (hW_w_2.a tM_40) rfl (in_I hf_0_62 (by decide)) dX12_lane_29 (fun H locs hP hD hS => fr_w (hW_w_2.uA tM_40 (In_any p3)) hP hD (fun w_3 ew_3 hW_w_3 hP hD => ?_))
  refine lv_aload_n hx hb dX12_lane_30 rfl (lv_at hl 0 rfl) ?_
  refine gt_X12 hx hb hts hown hK hP 0 (hW_w_3.o tM_0) 61 (by decide) wd_1462 rfl (hW_w_3.fr tM_0 rfl) dX12_lane_31 ?_
  refine lv_aload_n hx hb dX12_lane_34 rfl (lv_at hl 0 rfl) ?_
  refine gt_X12 hx hb hts hown hK hP 0 (hW_w_3.o tM_0) 62 (by decide) wd_1463 rfl (hW_w_3.fi tM_0 rfl) dX12_lane_35 ?_
  refine tov (v := (fI w 0 62)) ((fI_cg (st_ne ew_3 (by decide))).trans ((fI_cg (st_ne ew_2 (by decide))).trans (fI_cg (st_ne ew_1 (by decide))))) ?_
  refine lv_lload hx hb dX12_lane_38 (lv_at hl 4 rfl) ?_
  refine va_last hx hb hK hP hD hS 41 1 (hW_w_3.al tM_41) rfl (in_I hf_0_62 (by decide)) dX12_lane_40 (fun H locs hP hD hS => fr_w (hW_w_3.uL tM_41) hP hD (fun w_4 ew_4 hW_w_4 hP hD => ?_))
  refine lv_aload_n hx hb dX12_lane_41 rfl (lv_at hl 0 rfl) ?_
  refine gt_X12 hx hb hts hown hK hP 0 (hW_w_4.o tM_0) 58 (by decide) wd_1459 rfl (hW_w_4.fr tM_0 rfl) dX12_lane_42 ?_
  refine lv_aload_n hx hb dX12_lane_45 rfl (lv_at hl 0 rfl) ?_
  refine gt_X12 hx hb hts hown hK hP 0 (hW_w_4.o tM_0) 62 (by decide) wd_1463 rfl (hW_w_4.fi tM_0 rfl) dX12_lane_46 ?_
  refine tov (v := (fI w 0 62)) ((fI_cg (st_ne ew_4 (by decide))).trans ((fI_cg (st_ne ew_3 (by decide))).trans ((fI_cg (st_ne ew_2 (by decide))).trans (fI_cg (st_ne ew_1 (by decide)))))) ?_
  refine lv_iconst (v := 1) hx hb dX12_lane_49 (by decide) ?_
  refine lv_iadd hx hb dX12_lane_50 ?_
  refine lv_iload_n hx hb dX12_lane_51 rfl (lv_at hl 2 rfl) ?_
  refine va_iast hx hb hK hP hD hS 38 0 (hW_w_4.a tM_38) rfl (in_I ((In_add hf_0_62 (In_lit (n := 1) (by decide) (by decide) : In 1 1 1) (by decide)) : In 1 2199 ((fI w 0 62) + 1)) (by decide)) dX12_lane_52 (fun H locs hP hD hS => fr_w (hW_w_4.uA tM_38 (In_w i_p2 (by decide) : In 0 289 p2)) hP hD (fun w_5 ew_5 hW_w_5 hP hD => ?_))
  refine lv_aload_n hx hb dX12_lane_53 rfl (lv_at hl 0 rfl) ?_
  refine gt_X12 hx hb hts hown hK hP 0 (hW_w_5.o tM_0) 59 (by decide) wd_1460 rfl (hW_w_5.fr tM_0 rfl) dX12_lane_54 ?_
  refine lv_aload_n hx hb dX12_lane_57 rfl (lv_at hl 0 rfl) ?_
  refine gt_X12 hx hb hts hown hK hP 0 (hW_w_5.o tM_0) 62 (by decide) wd_1463 rfl (hW_w_5.fi tM_0 rfl) dX12_lane_58 ?_
  refine tov (v := (fI w 0 62)) ((fI_cg (st_ne ew_5 (by decide))).trans ((fI_cg (st_ne ew_4 (by decide))).trans ((fI_cg (st_ne ew_3 (by decide))).trans ((fI_cg (st_ne ew_2 (by decide))).trans (fI_cg (st_ne ew_1 (by decide))))))) ?_
  refine lv_iconst (v := 1) hx hb dX12_lane_61 (by decide) ?_
  refine lv_iadd hx hb dX12_lane_62 ?_
  refine lv_iload_n hx hb dX12_lane_63 rfl (lv_at hl 1 rfl) ?_
  refine va_iast hx hb hK hP hD hS 39 0 (hW_w_5.a tM_39) rfl (in_I ((In_add hf_0_62 (In_lit (n := 1) (by decide) (by decide) : In 1 1 1) (by decide)) : In 1 2199 ((fI w 0 62) + 1)) (by decide)) dX12_lane_64 (fun H locs hP hD hS => fr_w (hW_w_5.uA tM_39 (In_w i_p1 (by decide) : In 0 289 p1)) hP hD (fun w_6 ew_6 hW_w_6 hP hD => ?_))
  refine lv_aload_n hx hb dX12_lane_65 rfl (lv_at hl 0 rfl) ?_
  refine gt_X12 hx hb hts hown hK hP 0 (hW_w_6.o tM_0) 60 (by decide) wd_1461 rfl (hW_w_6.fr tM_0 rfl) dX12_lane_66 ?_
  refine lv_aload_n hx hb dX12_lane_69 rfl (lv_at hl 0 rfl) ?_
  refine gt_X12 hx hb hts hown hK hP 0 (hW_w_6.o tM_0) 62 (by decide) wd_1463 rfl (hW_w_6.fi tM_0 rfl) dX12_lane_70 ?_
  refine tov (v := (fI w 0 62)) ((fI_cg (st_ne ew_6 (by decide))).trans ((fI_cg (st_ne ew_5 (by decide))).trans ((fI_cg (st_ne ew_4 (by decide))).trans ((fI_cg (st_ne ew_3 (by decide))).trans ((fI_cg (st_ne ew_2 (by decide))).trans (fI_cg (st_ne ew_1 (by decide)))))))) ?_
  refine lv_iconst (v := 1) hx hb dX12_lane_73 (by decide) ?_
  refine lv_iadd hx hb dX12_lane_74 ?_
  refine lv_iconst (v := 0) hx hb dX12_lane_75 (by decide) ?_
  refine va_iast hx hb hK hP hD hS 40 0 (hW_w_6.a tM_40) rfl (in_I ((In_add hf_0_62 (In_lit (n := 1) (by decide) (by decide) : In 1 1 1) (by decide)) : In 1 2199 ((fI w 0 62) + 1)) (by decide)) dX12_lane_76 (fun H locs hP hD hS => fr_w (hW_w_6.uA tM_40 (In_lit (n := 0) (by decide) (by decide) : In (-2147483648) 2147483647 0)) hP hD (fun w_7 ew_7 hW_w_7 hP hD => ?_))
  refine lv_aload_n hx hb dX12_lane_77 rfl (lv_at hl 0 rfl) ?_
  refine gt_X12 hx hb hts hown hK hP 0 (hW_w_7.o tM_0) 61 (by decide) wd_1462 rfl (hW_w_7.fr tM_0 rfl) dX12_lane_78 ?_
  refine lv_aload_n hx hb dX12_lane_81 rfl (lv_at hl 0 rfl) ?_
  refine gt_X12 hx hb hts hown hK hP 0 (hW_w_7.o tM_0) 62 (by decide) wd_1463 rfl (hW_w_7.fi tM_0 rfl) dX12_lane_82 ?_
  refine tov (v := (fI w 0 62)) ((fI_cg (st_ne ew_7 (by decide))).trans ((fI_cg (st_ne ew_6 (by decide))).trans ((fI_cg (st_ne ew_5 (by decide))).trans ((fI_cg (st_ne ew_4 (by decide))).trans ((fI_cg (st_ne ew_3 (by decide))).trans ((fI_cg (st_ne ew_2 (by decide))).trans (fI_cg (st_ne ew_1 (by decide))))))))) ?_
  refine lv_iconst (v := 1) hx hb dX12_lane_85 (by decide) ?_
  refine lv_iadd hx hb dX12_lane_86 ?_
  refine lv_lload hx hb dX12_lane_87 (lv_at hl 4 rfl) ?_
  refine lv_lneg hx hb dX12_lane_89 ?_
  refine lv_topl (fun v_8 ev_8 => ?_)
  refine va_last hx hb hK hP hD hS 41 1 (hW_w_7.al tM_41) rfl (in_I ((In_add hf_0_62 (In_lit (n := 1) (by decide) (by decide) : In 1 1 1) (by decide)) : In 1 2199 ((fI w 0 62) + 1)) (by decide)) dX12_lane_90 (fun H locs hP hD hS => fr_w (hW_w_7.uL tM_41) hP hD (fun w_9 ew_9 hW_w_9 hP hD => ?_))
  refine lv_aload_n hx hb dX12_lane_91 rfl (lv_at hl 0 rfl) ?_
  refine lv_dup hx hb dX12_lane_92 rfl ?_
  refine gt_X12 hx hb hts hown hK hP 0 (hW_w_9.o tM_0) 62 (by decide) wd_1463 rfl (hW_w_9.fi tM_0 rfl) dX12_lane_93 ?_
  refine tov (v := (fI w 0 62)) ((fI_cg (st_ne ew_9 (by decide))).trans ((fI_cg (st_ne ew_7 (by decide))).trans ((fI_cg (st_ne ew_6 (by decide))).trans ((fI_cg (st_ne ew_5 (by decide))).trans ((fI_cg (st_ne ew_4 (by decide))).trans ((fI_cg (st_ne ew_3 (by decide))).trans ((fI_cg (st_ne ew_2 (by decide))).trans (fI_cg (st_ne ew_1 (by decide)))))))))) ?_
  refine lv_iconst (v := 2) hx hb dX12_lane_96 (by decide) ?_
  refine lv_iadd hx hb dX12_lane_97 ?_
  refine pt_X12 hx hb hts hown hK hP hD hS 0 (hW_w_9.o tM_0) 62 (by decide) wd_1463 rfl rfl (ty := .int) (v := .int ((fI w 0 62) + 2)) (by decide +kernel) rfl rfl (hW_w_9.ll tM_0 (Nat.le_of_ble_eq_true rfl)) dX12_lane_98 (fun H locs hP hD hS => fr_w (hW_w_9.sI tM_0 rfl (In_w ((In_add hf_0_62 (In_lit (n := 2) (by decide) (by decide) : In 2 2 2) (by decide)) : In 2 2200 ((fI w 0 62) + 2)) (by decide) : In 0 2200 ((fI w 0 62) + 2))) hP hD (fun w_10 ew_10 hW_w_10 hP hD => ?_))
  refine lv_aload_n hx hb dX12_lane_101 rfl (lv_at hl 0 rfl) ?_
  refine gt_X12 hx hb hts hown hK hP 0 (hW_w_10.o tM_0) 62 (by decide) wd_1463 rfl (hW_w_10.fi tM_0 rfl) dX12_lane_102 ?_
  refine tov (v := ((fI w 0 62) + 2)) (fI_eq (hW_w_9.lt tM_0) ew_10 (hW_w_9.ll tM_0 (Nat.le_of_ble_eq_true rfl))) ?_
  refine lv_iconst (v := 2) hx hb dX12_lane_105 (by decide) ?_
  refine lv_isub hx hb dX12_lane_106 ?_
  exact hret _ _ _ _ _ _ hP hD hS dX12_lane_107 ⟨hW_w_10, (((((((((Sm.rf.sa ew_1 (by decide)).sa ew_2 (by decide)).sa ew_3 (by decide)).sa ew_4 (by decide)).sa ew_5 (by decide)).sa ew_6 (by decide)).sa ew_7 (by decide)).sa ew_9 (by decide)).sf (hW_w_9.lt tM_0) ew_10 (by decide)), ((In_sub ((In_add hf_0_62 (In_lit (n := 2) (by decide) (by decide) : In 2 2 2) (by decide)) : In 2 2200 ((fI w 0 62) + 2)) (In_lit (n := 2) (by decide) (by decide) : In 2 2 2) (by decide)) : In 0 2198 (((fI w 0 62) + 2) - 2)), (In_of (fI_eq (hW_w_9.lt tM_0) ew_10 (hW_w_9.ll tM_0 (Nat.le_of_ble_eq_true rfl))) ((In_add hf_0_62 (In_lit (n := 2) (by decide) (by decide) : In 2 2 2) (by decide)) : In 2 2200 ((fI w 0 62) + 2))), (by have e0_62 : (fI w_10 0 62).toInt = (((fI w 0 62) + 2) : Int32).toInt := congrArg Int32.toInt (fI_eq (hW_w_9.lt tM_0) ew_10 (hW_w_9.ll tM_0 (Nat.le_of_ble_eq_true rfl))); have i0_62 := ((In_add hf_0_62 (In_lit (n := 2) (by decide) (by decide) : In 2 2 2) (by decide)) : In 2 2200 ((fI w 0 62) + 2)); unfold In at i0_62; have t17 := t_add hf_0_62 (In_lit (n := 2) (by decide) (by decide) : In 2 2 2) (by decide); have z2 : (2 : Int32).toInt = 2 := (by decide); omega)⟩
set_option maxRecDepth 100000 in
set_option maxHeartbeats 8000000 in
theorem k_X12_bits (l : Launch) (D : va_G) (cI cJ cZ : ClassId) (q : Nat → Nat) (w : va_W) (hW_w : HT q (TM q cI cJ cZ) w) (p0 : Int32) (hf_0_69 : In 1 40 (fI w 0 69)) : Con_i l yX12_bits cX12_bits 3 (some .int) ({ frames := 0, cells := 0, slots := 0, locals := 0 }) D cI cJ cZ eW [.int p0] w (fun (r : Int32) (w1 : va_W) => HT q (TM q cI cJ cZ) w1 ∧ Sm [] [] w w1) := by
  refine eQ_i rfl (by decide) (Nat.le_of_ble_eq_true rfl) ⟨rfl, rfl⟩ ?_
  intro p e R s m args below meth c A Q hx hb hml hown hts hK hE hA hR hret hP hD hS ls hl
  have hown : s.vm.findClass RX12 = some m.cls := hown
  have hl : lv_has ls 3 [(0, .int p0)] := hl
  have J4 : ∀ (N : Nat) (x4_1 : Int32) (x4_2 : Int32) (w4 : va_W) (H : Heap) (locs : List Loc) (ls : Array Slot), (10 - x4_2.toInt).toNat < N → HT q (TM q cI cJ cZ) w4 → Sm [] [] w w4 → (In 0 10 x4_2) → (In 1 40 (fI w4 0 69)) → va_P D vwCl w4 H → va_D A w4 → va_S A s.heap H locs → lv_has ls 3 [(0, .int p0), (1, .int x4_1), (2, .int x4_2)] → W p l e R s m args below meth c H locs 0 0 Q (F0 m 4 ls []) := by
    intro N
    induction N with
    | zero => intro x4_1 x4_2 w4 H locs ls hmu; exact absurd hmu (Nat.not_lt_zero _)
    | succ N ih4 =>
      intro x4_1 x4_2 w4 H locs ls hmu4 hW_w4 hM_w4 i_x4_2 g4_0_69 hP hD hS hl
      refine lv_iload_n hx hb dX12_bits_4 rfl (lv_at hl 2 rfl) ?_
      refine lv_bipush (v := 10) hx hb dX12_bits_5 (by decide) ?_
      refine lv_icmp_ge (tgt := 24) hx hb dX12_bits_7 (by decide) (fun c_1 => ?_) (fun c_1 => ?_)
      · refine lv_iload_n hx hb dX12_bits_24 rfl (lv_at hl 1 rfl) ?_
        exact hret _ _ _ _ _ _ hP hD hS dX12_bits_25 ⟨hW_w4, hM_w4⟩
      · refine lv_iload_n hx hb dX12_bits_10 rfl (lv_at hl 1 rfl) ?_
        refine lv_iload_n hx hb dX12_bits_11 rfl (lv_at hl 0 rfl) ?_
        refine lv_iload_n hx hb dX12_bits_12 rfl (lv_at hl 2 rfl) ?_
        refine lv_ishr hx hb dX12_bits_13 ?_
        refine lv_topi (fun v_2 ev_2 => ?_)
        refine lv_iconst (v := 1) hx hb dX12_bits_14 (by decide) ?_
        refine lv_iand hx hb dX12_bits_15 ?_
        refine lv_iadd hx hb dX12_bits_16 ?_
        refine lv_topi (fun v_3 ev_3 => ?_)
        refine lv_istore_n (lv' := [(1, .int v_3), (0, .int p0), (2, .int x4_2)]) hx hb dX12_bits_17 rfl hl (by decide) rfl (fun ls hl => ?_)
        refine lv_iinc (v := (x4_2 + 1)) (lv' := [(2, .int (x4_2 + 1)), (1, .int v_3), (0, .int p0)]) hx hb dX12_bits_18 hl (k := 2) rfl (rfl) (by decide) rfl (fun ls hl => ?_)
        refine lv_goto (tgt := 4) hx hb dX12_bits_21 (by decide) ?_
        exact ih4 v_3 (x4_2 + 1) w4 _ _ ls (mu_inc hmu4 (R_nle_r (In_lit (n := 10) (by decide) (by decide) : In 10 10 10) i_x4_2 c_1 (by decide) : In 0 9 x4_2) (In_lit (n := 1) (by decide) (by decide) : In 1 1 1) (by decide)) hW_w4 hM_w4 (In_w ((In_add (y := 1) (R_nle_r (In_lit (n := 10) (by decide) (by decide) : In 10 10 10) i_x4_2 c_1 (by decide) : In 0 9 x4_2) (In_lit (n := 1) (by decide) (by decide) : In 1 1 1) (by decide)) : In 1 10 (x4_2 + 1)) (by decide) : In 0 10 (x4_2 + 1)) (In_of (hM_w4.gI (by decide)) (In_of (hM_w4.gI (by decide)).symm g4_0_69)) hP hD hS (lv_sub hl [2, 1, 0] rfl)
  refine lv_iconst (v := 0) hx hb dX12_bits_0 (by decide) ?_
  refine lv_istore_n (lv' := [(1, .int 0), (0, .int p0)]) hx hb dX12_bits_1 rfl hl (by decide) rfl (fun ls hl => ?_)
  refine lv_iconst (v := 0) hx hb dX12_bits_2 (by decide) ?_
  refine lv_istore_n (lv' := [(2, .int 0), (1, .int 0), (0, .int p0)]) hx hb dX12_bits_3 rfl hl (by decide) rfl (fun ls hl => ?_)
  exact J4 _ 0 0 w _ _ ls (Nat.lt_succ_self _) hW_w Sm.rf (In_lit (n := 0) (by decide) (by decide) : In 0 10 0) hf_0_69 hP hD hS (lv_sub hl [2, 1, 0] rfl)
set_option maxRecDepth 100000 in
set_option maxHeartbeats 8000000 in
theorem k_X12_given (l : Launch) (D : va_G) (cI cJ cZ : ClassId) (q : Nat → Nat) (w : va_W) (hW_w : HT q (TM q cI cJ cZ) w) (p1 : Int32) : Con_i l yX12_given cX12_given 4 (some .int) ({ frames := 1, cells := 0, slots := 0, locals := 22 }) D cI cJ cZ eW [.ref (q 0), .int p1] w (fun (r : Int32) (w1 : va_W) => HT q (TM q cI cJ cZ) w1 ∧ Sm [] [] w w1) := by
  refine eQ_i rfl (by decide) (Nat.le_of_ble_eq_true rfl) ⟨rfl, rfl⟩ ?_
  intro p e R s m args below meth c A Q hx hb hml hown hts hK hE hA hR hret hP hD hS ls hl
  have hown : s.vm.findClass RX12 = some m.cls := hown
  have hl : lv_has ls 4 [(0, .ref (q 0)), (1, .int p1)] := hl
  have J51 : ∀ (N : Nat) (x51_2 : Int32) (x51_3 : Int32) (w51 : va_W) (H : Heap) (locs : List Loc) (ls : Array Slot), (40 - x51_3.toInt).toNat < N → HT q (TM q cI cJ cZ) w51 → Sm [] [] w w51 → (In 0 40 x51_3) → (In 1 1 (fI w51 0 68)) → va_P D vwCl w51 H → va_D A w51 → va_S A s.heap H locs → lv_has ls 4 [(0, .ref (q 0)), (1, .int p1), (2, .int x51_2), (3, .int x51_3)] → W p l e R s m args below meth c H locs 0 0 Q (F0 m 51 ls []) := by
    intro N
    induction N with
    | zero => intro x51_2 x51_3 w51 H locs ls hmu; exact absurd hmu (Nat.not_lt_zero _)
    | succ N ih51 =>
      intro x51_2 x51_3 w51 H locs ls hmu51 hW_w51 hM_w51 i_x51_3 g51_0_68 hP hD hS hl
      have J83 : ∀ (y83_0 : Int32) (w83 : va_W) (H : Heap) (locs : List Loc) (ls : Array Slot), HT q (TM q cI cJ cZ) w83 → Sm [] [] w w83 → (In 0 39 x51_3) → (In 0 1 y83_0) → (In 1 1 (fI w83 0 68)) → (In 1 40 (fI w83 0 69)) → va_P D vwCl w83 H → va_D A w83 → va_S A s.heap H locs → lv_has ls 4 [(0, .ref (q 0)), (1, .int p1), (2, .int x51_2), (3, .int x51_3)] → W p l e R s m args below meth c H locs 0 0 Q (F0 m 83 ls [.int y83_0, .int x51_2]) := by
        intro y83_0 w83 H locs ls hW_w83 hM_w83 i_x83_3 i_y83_0 g83_0_68 g83_0_69 hP hD hS hl
        refine lv_iadd hx hb dX12_given_83 ?_
        refine lv_topi (fun v_1 ev_1 => ?_)
        refine lv_istore_n (lv' := [(2, .int v_1), (0, .ref (q 0)), (1, .int p1), (3, .int x51_3)]) hx hb dX12_given_84 rfl hl (by decide) rfl (fun ls hl => ?_)
        refine lv_iinc (v := (x51_3 + 1)) (lv' := [(3, .int (x51_3 + 1)), (2, .int v_1), (0, .ref (q 0)), (1, .int p1)]) hx hb dX12_given_85 hl (k := 3) rfl (rfl) (by decide) rfl (fun ls hl => ?_)
        refine lv_goto (tgt := 51) hx hb dX12_given_88 (by decide) ?_
        exact ih51 v_1 (x51_3 + 1) w83 _ _ ls (mu_inc hmu51 i_x83_3 (In_lit (n := 1) (by decide) (by decide) : In 1 1 1) (by decide)) hW_w83 hM_w83 (In_w ((In_add (y := 1) i_x83_3 (In_lit (n := 1) (by decide) (by decide) : In 1 1 1) (by decide)) : In 1 40 (x51_3 + 1)) (by decide) : In 0 40 (x51_3 + 1)) (In_of (hM_w83.gI (by decide)) (In_of (hM_w83.gI (by decide)).symm g83_0_68)) hP hD hS (lv_sub hl [2, 3, 1, 0] rfl)
      refine lv_iload_n hx hb dX12_given_51 rfl (lv_at hl 3 rfl) ?_
      refine lv_aload_n hx hb dX12_given_52 rfl (lv_at hl 0 rfl) ?_
      refine gt_X12 hx hb hts hown hK hP 0 (hW_w51.o tM_0) 69 (by decide) wd_1470 rfl (hW_w51.fi tM_0 rfl) dX12_given_53 ?_
      refine tov (v := (fI w 0 69)) (hM_w51.gI (by decide)) ?_
      refine lv_icmp_ge (tgt := 91) hx hb dX12_given_56 (by decide) (fun c_2 => ?_) (fun c_2 => ?_)
      · refine lv_iload_n hx hb dX12_given_91 rfl (lv_at hl 2 rfl) ?_
        exact hret _ _ _ _ _ _ hP hD hS dX12_given_92 ⟨hW_w51, hM_w51⟩
      · refine lv_iload_n hx hb dX12_given_59 rfl (lv_at hl 2 rfl) ?_
        refine lv_aload_n hx hb dX12_given_60 rfl (lv_at hl 0 rfl) ?_
        refine gt_X12 hx hb hts hown hK hP 0 (hW_w51.o tM_0) 75 (by decide) wd_1476 rfl (hW_w51.fr tM_0 rfl) dX12_given_61 ?_
        refine lv_iload_n hx hb dX12_given_64 rfl (lv_at hl 3 rfl) ?_
        refine va_iald hx hb hK hP 52 0 (hW_w51.a tM_52) rfl (in_I (R_nle_r (hW_w.fin tM_0 rfl : In 0 40 (fI w 0 69)) i_x51_3 c_2 (by decide) : In 0 39 x51_3) (by decide)) dX12_given_65 ?_
        refine lv_topi (fun v_3 ev_3 => ?_)
        refine kW_i ⟨rfl, rfl⟩ hP hD hS hA (rW_S (As := [.int v_3]) (rest := [.int x51_2]) hx hb hml hown hts hK hE hP hD (k_X12_bits l D cI cJ cZ q w51 hW_w51 v_3 (In_of (hM_w51.gI (by decide)) (R_nle_l (hW_w.fin tM_0 rfl : In 0 40 (fI w 0 69)) i_x51_3 c_2 (by decide) : In 1 40 (fI w 0 69))) _) ⟨⟨rfl, rfl⟩, rfl, rfl⟩ sv_X12_544 ⟨(Nat.le_trans (by decide) hR.1), (Nat.le_trans (by decide) hR.2)⟩ rfl hl.1 rfl (Nat.le_of_ble_eq_true rfl) dX12_given_66) (fun r_5 w_4 H locs hw_w_4 hP hD hS => ?_)
        obtain ⟨hW_w_4, hs_w_4⟩ := hw_w_4
        refine lv_aload_n hx hb dX12_given_69 rfl (lv_at hl 0 rfl) ?_
        refine gt_X12 hx hb hts hown hK hP 0 (hW_w_4.o tM_0) 70 (by decide) wd_1471 rfl (hW_w_4.fr tM_0 rfl) dX12_given_70 ?_
        refine lv_iload_n hx hb dX12_given_73 rfl (lv_at hl 3 rfl) ?_
        refine va_iald hx hb hK hP 47 0 (hW_w_4.a tM_47) rfl (in_I (R_nle_r (hW_w.fin tM_0 rfl : In 0 40 (fI w 0 69)) i_x51_3 c_2 (by decide) : In 0 39 x51_3) (by decide)) dX12_given_74 ?_
        refine lv_topi (fun v_6 ev_6 => ?_)
        refine lv_icmp_lt (tgt := 82) hx hb dX12_given_75 (by decide) (fun c_7 => ?_) (fun c_7 => ?_)
        · refine lv_iconst (v := 0) hx hb dX12_given_82 (by decide) ?_
          exact J83 0 w_4 _ _ ls hW_w_4 (hM_w51.tr hs_w_4 (by decide)) (R_nle_r (hW_w.fin tM_0 rfl : In 0 40 (fI w 0 69)) i_x51_3 c_2 (by decide) : In 0 39 x51_3) (In_lit (n := 0) (by decide) (by decide) : In 0 1 0) (In_of ((hs_w_4.gI (by decide)).trans (hM_w51.gI (by decide))) (In_of (hM_w51.gI (by decide)).symm g51_0_68)) (In_of ((hs_w_4.gI (by decide)).trans (hM_w51.gI (by decide))) (R_nle_l (hW_w.fin tM_0 rfl : In 0 40 (fI w 0 69)) i_x51_3 c_2 (by decide) : In 1 40 (fI w 0 69))) hP hD hS (lv_sub hl [0, 1, 2, 3] rfl)
        · refine lv_iconst (v := 1) hx hb dX12_given_78 (by decide) ?_
          refine lv_goto (tgt := 83) hx hb dX12_given_79 (by decide) ?_
          exact J83 1 w_4 _ _ ls hW_w_4 (hM_w51.tr hs_w_4 (by decide)) (R_nle_r (hW_w.fin tM_0 rfl : In 0 40 (fI w 0 69)) i_x51_3 c_2 (by decide) : In 0 39 x51_3) (In_lit (n := 1) (by decide) (by decide) : In 0 1 1) (In_of ((hs_w_4.gI (by decide)).trans (hM_w51.gI (by decide))) (In_of (hM_w51.gI (by decide)).symm g51_0_68)) (In_of ((hs_w_4.gI (by decide)).trans (hM_w51.gI (by decide))) (R_nle_l (hW_w.fin tM_0 rfl : In 0 40 (fI w 0 69)) i_x51_3 c_2 (by decide) : In 1 40 (fI w 0 69))) hP hD hS (lv_sub hl [0, 1, 2, 3] rfl)
  have J95 : ∀ (N : Nat) (x95_2 : Int32) (x95_3 : Int32) (w95 : va_W) (H : Heap) (locs : List Loc) (ls : Array Slot), (40 - x95_3.toInt).toNat < N → HT q (TM q cI cJ cZ) w95 → Sm [] [] w w95 → (In 0 40 x95_3) → (In 1 1 (fI w95 0 68)) → va_P D vwCl w95 H → va_D A w95 → va_S A s.heap H locs → lv_has ls 4 [(0, .ref (q 0)), (1, .int p1), (2, .int x95_2), (3, .int x95_3)] → W p l e R s m args below meth c H locs 0 0 Q (F0 m 95 ls []) := by
    intro N
    induction N with
    | zero => intro x95_2 x95_3 w95 H locs ls hmu; exact absurd hmu (Nat.not_lt_zero _)
    | succ N ih95 =>
      intro x95_2 x95_3 w95 H locs ls hmu95 hW_w95 hM_w95 i_x95_3 g95_0_68 hP hD hS hl
      refine lv_iload_n hx hb dX12_given_95 rfl (lv_at hl 3 rfl) ?_
      refine lv_aload_n hx hb dX12_given_96 rfl (lv_at hl 0 rfl) ?_
      refine gt_X12 hx hb hts hown hK hP 0 (hW_w95.o tM_0) 69 (by decide) wd_1470 rfl (hW_w95.fi tM_0 rfl) dX12_given_97 ?_
      refine tov (v := (fI w 0 69)) (hM_w95.gI (by decide)) ?_
      refine lv_icmp_ge (tgt := 128) hx hb dX12_given_100 (by decide) (fun c_8 => ?_) (fun c_8 => ?_)
      · refine lv_iload_n hx hb dX12_given_128 rfl (lv_at hl 2 rfl) ?_
        exact hret _ _ _ _ _ _ hP hD hS dX12_given_129 ⟨hW_w95, hM_w95⟩
      · refine lv_iload_n hx hb dX12_given_103 rfl (lv_at hl 2 rfl) ?_
        refine lv_aload_n hx hb dX12_given_104 rfl (lv_at hl 0 rfl) ?_
        refine gt_X12 hx hb hts hown hK hP 0 (hW_w95.o tM_0) 70 (by decide) wd_1471 rfl (hW_w95.fr tM_0 rfl) dX12_given_105 ?_
        refine lv_iload_n hx hb dX12_given_108 rfl (lv_at hl 3 rfl) ?_
        refine va_iald hx hb hK hP 47 0 (hW_w95.a tM_47) rfl (in_I (R_nle_r (hW_w.fin tM_0 rfl : In 0 40 (fI w 0 69)) i_x95_3 c_8 (by decide) : In 0 39 x95_3) (by decide)) dX12_given_109 ?_
        refine lv_topi (fun v_9 ev_9 => ?_)
        refine lv_aload_n hx hb dX12_given_110 rfl (lv_at hl 0 rfl) ?_
        refine gt_X12 hx hb hts hown hK hP 0 (hW_w95.o tM_0) 75 (by decide) wd_1476 rfl (hW_w95.fr tM_0 rfl) dX12_given_111 ?_
        refine lv_iload_n hx hb dX12_given_114 rfl (lv_at hl 3 rfl) ?_
        refine va_iald hx hb hK hP 52 0 (hW_w95.a tM_52) rfl (in_I (R_nle_r (hW_w.fin tM_0 rfl : In 0 40 (fI w 0 69)) i_x95_3 c_8 (by decide) : In 0 39 x95_3) (by decide)) dX12_given_115 ?_
        refine lv_topi (fun v_10 ev_10 => ?_)
        refine kW_i ⟨rfl, rfl⟩ hP hD hS hA (rW_S (As := [.int v_10]) (rest := [.int v_9, .int x95_2]) hx hb hml hown hts hK hE hP hD (k_X12_bits l D cI cJ cZ q w95 hW_w95 v_10 (In_of (hM_w95.gI (by decide)) (R_nle_l (hW_w.fin tM_0 rfl : In 0 40 (fI w 0 69)) i_x95_3 c_8 (by decide) : In 1 40 (fI w 0 69))) _) ⟨⟨rfl, rfl⟩, rfl, rfl⟩ sv_X12_544 ⟨(Nat.le_trans (by decide) hR.1), (Nat.le_trans (by decide) hR.2)⟩ rfl hl.1 rfl (Nat.le_of_ble_eq_true rfl) dX12_given_116) (fun r_12 w_11 H locs hw_w_11 hP hD hS => ?_)
        obtain ⟨hW_w_11, hs_w_11⟩ := hw_w_11
        refine lv_isub hx hb dX12_given_119 ?_
        refine lv_topi (fun v_13 ev_13 => ?_)
        refine lv_iadd hx hb dX12_given_120 ?_
        refine lv_topi (fun v_14 ev_14 => ?_)
        refine lv_istore_n (lv' := [(2, .int v_14), (0, .ref (q 0)), (1, .int p1), (3, .int x95_3)]) hx hb dX12_given_121 rfl hl (by decide) rfl (fun ls hl => ?_)
        refine lv_iinc (v := (x95_3 + 1)) (lv' := [(3, .int (x95_3 + 1)), (2, .int v_14), (0, .ref (q 0)), (1, .int p1)]) hx hb dX12_given_122 hl (k := 3) rfl (rfl) (by decide) rfl (fun ls hl => ?_)
        refine lv_goto (tgt := 95) hx hb dX12_given_125 (by decide) ?_
        exact ih95 v_14 (x95_3 + 1) w_11 _ _ ls (mu_inc hmu95 (R_nle_r (hW_w.fin tM_0 rfl : In 0 40 (fI w 0 69)) i_x95_3 c_8 (by decide) : In 0 39 x95_3) (In_lit (n := 1) (by decide) (by decide) : In 1 1 1) (by decide)) hW_w_11 (hM_w95.tr hs_w_11 (by decide)) (In_w ((In_add (y := 1) (R_nle_r (hW_w.fin tM_0 rfl : In 0 40 (fI w 0 69)) i_x95_3 c_8 (by decide) : In 0 39 x95_3) (In_lit (n := 1) (by decide) (by decide) : In 1 1 1) (by decide)) : In 1 40 (x95_3 + 1)) (by decide) : In 0 40 (x95_3 + 1)) (In_of ((hs_w_11.gI (by decide)).trans (hM_w95.gI (by decide))) (In_of (hM_w95.gI (by decide)).symm g95_0_68)) hP hD hS (lv_sub hl [2, 3, 1, 0] rfl)
  have J132 : ∀ (N : Nat) (x132_2 : Int32) (x132_3 : Int32) (w132 : va_W) (H : Heap) (locs : List Loc) (ls : Array Slot), (10 - x132_3.toInt).toNat < N → HT q (TM q cI cJ cZ) w132 → Sm [] [] w w132 → (In 0 10 x132_3) → (In 1 1 (fI w132 0 68)) → va_P D vwCl w132 H → va_D A w132 → va_S A s.heap H locs → lv_has ls 4 [(0, .ref (q 0)), (1, .int p1), (2, .int x132_2), (3, .int x132_3)] → W p l e R s m args below meth c H locs 0 0 Q (F0 m 132 ls []) := by
    intro N
    induction N with
    | zero => intro x132_2 x132_3 w132 H locs ls hmu; exact absurd hmu (Nat.not_lt_zero _)
    | succ N ih132 =>
      intro x132_2 x132_3 w132 H locs ls hmu132 hW_w132 hM_w132 i_x132_3 g132_0_68 hP hD hS hl
      refine lv_iload_n hx hb dX12_given_132 rfl (lv_at hl 3 rfl) ?_
      refine lv_aload_n hx hb dX12_given_133 rfl (lv_at hl 0 rfl) ?_
      refine gt_X12 hx hb hts hown hK hP 0 (hW_w132.o tM_0) 14 (by decide) wd_1415 rfl (hW_w132.fr tM_0 rfl) dX12_given_134 ?_
      refine lv_aload_n hx hb dX12_given_137 rfl (lv_at hl 0 rfl) ?_
      refine gt_X12 hx hb hts hown hK hP 0 (hW_w132.o tM_0) 12 (by decide) wd_1413 rfl (hW_w132.fi tM_0 rfl) dX12_given_138 ?_
      refine tov (v := (fI w 0 12)) (hM_w132.gI (by decide)) ?_
      refine va_iald hx hb hK hP 2 0 (hW_w132.a tM_2) rfl (in_I (hW_w.fin tM_0 rfl : In 0 1 (fI w 0 12)) (by decide)) dX12_given_141 ?_
      refine lv_topi (fun v_15 ev_15 => ?_)
      refine lv_icmp_ge (tgt := 160) hx hb dX12_given_142 (by decide) (fun c_16 => ?_) (fun c_16 => ?_)
      · refine lv_iload_n hx hb dX12_given_160 rfl (lv_at hl 2 rfl) ?_
        exact hret _ _ _ _ _ _ hP hD hS dX12_given_161 ⟨hW_w132, hM_w132⟩
      · refine lv_iload_n hx hb dX12_given_145 rfl (lv_at hl 2 rfl) ?_
        refine lv_aload_n hx hb dX12_given_146 rfl (lv_at hl 0 rfl) ?_
        refine gt_X12 hx hb hts hown hK hP 0 (hW_w132.o tM_0) 77 (by decide) wd_1478 rfl (hW_w132.fr tM_0 rfl) dX12_given_147 ?_
        refine lv_iload_n hx hb dX12_given_150 rfl (lv_at hl 3 rfl) ?_
        refine va_iald hx hb hK hP 54 0 (hW_w132.a tM_54) rfl (in_I (R_nle_r (In_of ev_15 (hW_w132.ap tM_2 _) : In 0 10 v_15) i_x132_3 c_16 (by decide) : In 0 9 x132_3) (by decide)) dX12_given_151 ?_
        refine lv_topi (fun v_17 ev_17 => ?_)
        refine lv_iadd hx hb dX12_given_152 ?_
        refine lv_topi (fun v_18 ev_18 => ?_)
        refine lv_istore_n (lv' := [(2, .int v_18), (0, .ref (q 0)), (1, .int p1), (3, .int x132_3)]) hx hb dX12_given_153 rfl hl (by decide) rfl (fun ls hl => ?_)
        refine lv_iinc (v := (x132_3 + 1)) (lv' := [(3, .int (x132_3 + 1)), (2, .int v_18), (0, .ref (q 0)), (1, .int p1)]) hx hb dX12_given_154 hl (k := 3) rfl (rfl) (by decide) rfl (fun ls hl => ?_)
        refine lv_goto (tgt := 132) hx hb dX12_given_157 (by decide) ?_
        exact ih132 v_18 (x132_3 + 1) w132 _ _ ls (mu_inc hmu132 (R_nle_r (In_of ev_15 (hW_w132.ap tM_2 _) : In 0 10 v_15) i_x132_3 c_16 (by decide) : In 0 9 x132_3) (In_lit (n := 1) (by decide) (by decide) : In 1 1 1) (by decide)) hW_w132 hM_w132 (In_w ((In_add (y := 1) (R_nle_r (In_of ev_15 (hW_w132.ap tM_2 _) : In 0 10 v_15) i_x132_3 c_16 (by decide) : In 0 9 x132_3) (In_lit (n := 1) (by decide) (by decide) : In 1 1 1) (by decide)) : In 1 10 (x132_3 + 1)) (by decide) : In 0 10 (x132_3 + 1)) (In_of (hM_w132.gI (by decide)) (In_of (hM_w132.gI (by decide)).symm g132_0_68)) hP hD hS (lv_sub hl [2, 3, 1, 0] rfl)
  refine lv_aload_n hx hb dX12_given_0 rfl (lv_at hl 0 rfl) ?_
  refine gt_X12 hx hb hts hown hK hP 0 (hW_w.o tM_0) 68 (by decide) wd_1469 rfl (hW_w.fi tM_0 rfl) dX12_given_1 ?_
  refine lv_if_ne (tgt := 9) hx hb dX12_given_4 (by decide) (fun c_19 => ?_) (fun c_19 => ?_)
  · refine lv_iconst (v := 0) hx hb dX12_given_9 (by decide) ?_
    refine lv_istore_n (lv' := [(2, .int 0), (0, .ref (q 0)), (1, .int p1)]) hx hb dX12_given_10 rfl hl (by decide) rfl (fun ls hl => ?_)
    refine lv_iload_n hx hb dX12_given_11 rfl (lv_at hl 2 rfl) ?_
    by_cases c_20 : p1 = 0
    · have c_20t : (p1 : Int32).toInt = 0 := by rw [c_20]; rfl
      refine lv_tableIn (tgt := 44) hx hb dX12_given_12 (by rw [c_20t]; decide) (by rw [c_20t]; decide) (off := 32) (by rw [c_20t]; rfl) (by decide) ?_
      refine lv_aload_n hx hb dX12_given_44 rfl (lv_at hl 1 rfl) ?_
      refine gt_X12 hx hb hts hown hK hP 0 (hW_w.o tM_0) 79 (by decide) wd_1480 rfl (hW_w.fi tM_0 rfl) dX12_given_45 ?_
      exact hret _ _ _ _ _ _ hP hD hS dX12_given_48 ⟨hW_w, Sm.rf⟩
    by_cases c_21 : p1 = 1
    · have c_21t : (p1 : Int32).toInt = 1 := by rw [c_21]; rfl
      refine lv_tableIn (tgt := 49) hx hb dX12_given_12 (by rw [c_21t]; decide) (by rw [c_21t]; decide) (off := 37) (by rw [c_21t]; rfl) (by decide) ?_
      refine lv_iconst (v := 0) hx hb dX12_given_49 (by decide) ?_
      refine lv_istore_n (lv' := [(3, .int 0), (2, .int 0), (0, .ref (q 0)), (1, .int p1)]) hx hb dX12_given_50 rfl hl (by decide) rfl (fun ls hl => ?_)
      exact J51 _ 0 0 w _ _ ls (Nat.lt_succ_self _) hW_w Sm.rf (In_lit (n := 0) (by decide) (by decide) : In 0 40 0) (R_ne_l (hW_w.fin tM_0 rfl : In 0 1 (fI w 0 68)) (In_lit (n := 0) (by decide) (by decide) : In 0 0 0) c_19 (by decide) : In 1 1 (fI w 0 68)) hP hD hS (lv_sub hl [2, 3, 1, 0] rfl)
    by_cases c_22 : p1 = 2
    · have c_22t : (p1 : Int32).toInt = 2 := by rw [c_22]; rfl
      refine lv_tableIn (tgt := 93) hx hb dX12_given_12 (by rw [c_22t]; decide) (by rw [c_22t]; decide) (off := 81) (by rw [c_22t]; rfl) (by decide) ?_
      refine lv_iconst (v := 0) hx hb dX12_given_93 (by decide) ?_
      refine lv_istore_n (lv' := [(3, .int 0), (2, .int 0), (0, .ref (q 0)), (1, .int p1)]) hx hb dX12_given_94 rfl hl (by decide) rfl (fun ls hl => ?_)
      exact J95 _ 0 0 w _ _ ls (Nat.lt_succ_self _) hW_w Sm.rf (In_lit (n := 0) (by decide) (by decide) : In 0 40 0) (R_ne_l (hW_w.fin tM_0 rfl : In 0 1 (fI w 0 68)) (In_lit (n := 0) (by decide) (by decide) : In 0 0 0) c_19 (by decide) : In 1 1 (fI w 0 68)) hP hD hS (lv_sub hl [2, 3, 1, 0] rfl)
    by_cases c_23 : p1 = 3
    · have c_23t : (p1 : Int32).toInt = 3 := by rw [c_23]; rfl
      refine lv_tableIn (tgt := 130) hx hb dX12_given_12 (by rw [c_23t]; decide) (by rw [c_23t]; decide) (off := 118) (by rw [c_23t]; rfl) (by decide) ?_
      refine lv_iconst (v := 0) hx hb dX12_given_130 (by decide) ?_
      refine lv_istore_n (lv' := [(3, .int 0), (2, .int 0), (0, .ref (q 0)), (1, .int p1)]) hx hb dX12_given_131 rfl hl (by decide) rfl (fun ls hl => ?_)
      exact J132 _ 0 0 w _ _ ls (Nat.lt_succ_self _) hW_w Sm.rf (In_lit (n := 0) (by decide) (by decide) : In 0 10 0) (R_ne_l (hW_w.fin tM_0 rfl : In 0 1 (fI w 0 68)) (In_lit (n := 0) (by decide) (by decide) : In 0 0 0) c_19 (by decide) : In 1 1 (fI w 0 68)) hP hD hS (lv_sub hl [2, 3, 1, 0] rfl)
    refine lv_tableOut (tgt := 162) hx hb dX12_given_12 (by have h0 := lv_neT c_20 (a := 0) (by decide); have h1 := lv_neT c_21 (a := 1) (by decide); have h2 := lv_neT c_22 (a := 2) (by decide); have h3 := lv_neT c_23 (a := 3) (by decide); omega) (by decide) ?_
    refine lv_iconst (v := (-1)) hx hb dX12_given_162 (by decide) ?_
    exact hret _ _ _ _ _ _ hP hD hS dX12_given_163 ⟨hW_w, Sm.rf⟩
  · refine lv_iconst (v := (-1)) hx hb dX12_given_7 (by decide) ?_
    exact hret _ _ _ _ _ _ hP hD hS dX12_given_8 ⟨hW_w, Sm.rf⟩
set_option maxRecDepth 100000 in
set_option maxHeartbeats 8000000 in
theorem k_X12_was (l : Launch) (D : va_G) (cI cJ cZ : ClassId) (q : Nat → Nat) (w : va_W) (hW_w : HT q (TM q cI cJ cZ) w) (p1 : Int32) : Con_i l yX12_was cX12_was 2 (some .boolean) ({ frames := 0, cells := 0, slots := 0, locals := 0 }) D cI cJ cZ eW [.ref (q 0), .int p1] w (fun (r : Int32) (w1 : va_W) => HT q (TM q cI cJ cZ) w1 ∧ Sm [] [] w w1 ∧ In 0 1 r ∧ (¬ r = 0 → In 1 40 (fI w1 0 69) ∧ In 0 39 p1)) := by
  refine eQ_z rfl (by decide) (Nat.le_of_ble_eq_true rfl) ⟨rfl, rfl⟩ ?_
  intro p e R s m args below meth c A Q hx hb hml hown hts hK hE hA hR hret hP hD hS ls hl
  have hown : s.vm.findClass RX12 = some m.cls := hown
  have hl : lv_has ls 2 [(0, .ref (q 0)), (1, .int p1)] := hl
  refine lv_aload_n hx hb dX12_was_0 rfl (lv_at hl 0 rfl) ?_
  refine gt_X12 hx hb hts hown hK hP 0 (hW_w.o tM_0) 68 (by decide) wd_1469 rfl (hW_w.fi tM_0 rfl) dX12_was_1 ?_
  refine lv_if_eq (tgt := 23) hx hb dX12_was_4 (by decide) (fun c_1 => ?_) (fun c_1 => ?_)
  · refine lv_iconst (v := 0) hx hb dX12_was_23 (by decide) ?_
    exact hret _ _ _ _ _ _ hP hD hS dX12_was_24 (In_lit (n := 0) (by decide) (by decide) : In 0 1 0) ⟨hW_w, Sm.rf, (In_lit (n := 0) (by decide) (by decide) : In 0 1 0), (fun h => absurd rfl h)⟩
  · refine lv_iload_n hx hb dX12_was_7 rfl (lv_at hl 1 rfl) ?_
    refine lv_if_lt (tgt := 23) hx hb dX12_was_8 (by decide) (fun c_2 => ?_) (fun c_2 => ?_)
    · refine lv_iconst (v := 0) hx hb dX12_was_23 (by decide) ?_
      exact hret _ _ _ _ _ _ hP hD hS dX12_was_24 (In_lit (n := 0) (by decide) (by decide) : In 0 1 0) ⟨hW_w, Sm.rf, (In_lit (n := 0) (by decide) (by decide) : In 0 1 0), (fun h => absurd rfl h)⟩
    · refine lv_iload_n hx hb dX12_was_11 rfl (lv_at hl 1 rfl) ?_
      refine lv_aload_n hx hb dX12_was_12 rfl (lv_at hl 0 rfl) ?_
      refine gt_X12 hx hb hts hown hK hP 0 (hW_w.o tM_0) 69 (by decide) wd_1470 rfl (hW_w.fi tM_0 rfl) dX12_was_13 ?_
      refine lv_icmp_ge (tgt := 23) hx hb dX12_was_16 (by decide) (fun c_3 => ?_) (fun c_3 => ?_)
      · refine lv_iconst (v := 0) hx hb dX12_was_23 (by decide) ?_
        exact hret _ _ _ _ _ _ hP hD hS dX12_was_24 (In_lit (n := 0) (by decide) (by decide) : In 0 1 0) ⟨hW_w, Sm.rf, (In_lit (n := 0) (by decide) (by decide) : In 0 1 0), (fun h => absurd rfl h)⟩
      · refine lv_iconst (v := 1) hx hb dX12_was_19 (by decide) ?_
        refine lv_goto (tgt := 24) hx hb dX12_was_20 (by decide) ?_
        exact hret _ _ _ _ _ _ hP hD hS dX12_was_24 (In_lit (n := 1) (by decide) (by decide) : In 0 1 1) ⟨hW_w, Sm.rf, (In_lit (n := 1) (by decide) (by decide) : In 0 1 1), (fun h => ⟨(R_nle_l (hW_w.fin tM_0 rfl : In 0 40 (fI w 0 69)) (R_nlt_l (In_any p1) (In_lit (n := 0) (by decide) (by decide) : In 0 0 0) c_2 (by decide) : In 0 2147483647 p1) c_3 (by decide) : In 1 40 (fI w 0 69)), (R_nle_r (hW_w.fin tM_0 rfl : In 0 40 (fI w 0 69)) (R_nlt_l (In_any p1) (In_lit (n := 0) (by decide) (by decide) : In 0 0 0) c_2 (by decide) : In 0 2147483647 p1) c_3 (by decide) : In 0 39 p1)⟩)⟩
set_option maxRecDepth 100000 in
set_option maxHeartbeats 8000000 in
theorem k_X12_gets (l : Launch) (D : va_G) (cI cJ cZ : ClassId) (q : Nat → Nat) (w : va_W) (hW_w : HT q (TM q cI cJ cZ) w) (p1 : Int32) : Con_i l yX12_gets cX12_gets 2 (some .int) ({ frames := 1, cells := 0, slots := 0, locals := 21 }) D cI cJ cZ eW [.ref (q 0), .int p1] w (fun (r : Int32) (w1 : va_W) => HT q (TM q cI cJ cZ) w1 ∧ Sm [] [] w w1) := by
  refine eQ_i rfl (by decide) (Nat.le_of_ble_eq_true rfl) ⟨rfl, rfl⟩ ?_
  intro p e R s m args below meth c A Q hx hb hml hown hts hK hE hA hR hret hP hD hS ls hl
  have hown : s.vm.findClass RX12 = some m.cls := hown
  have hl : lv_has ls 2 [(0, .ref (q 0)), (1, .int p1)] := hl
  refine lv_aload_n hx hb dX12_gets_0 rfl (lv_at hl 0 rfl) ?_
  refine lv_iload_n hx hb dX12_gets_1 rfl (lv_at hl 1 rfl) ?_
  refine kW_i ⟨rfl, rfl⟩ hP hD hS hA (rW_V (As := [.int p1]) (rest := []) hx hb hml hown hts hK hE hP hD (k_X12_was l D cI cJ cZ q w hW_w p1 _) ⟨⟨rfl, rfl⟩, rfl, rfl⟩ sv_X12_547 ⟨(Nat.le_trans (by decide) hR.1), (Nat.le_trans (by decide) hR.2)⟩ 0 12 (hW_w.o tM_0) rfl rfl rfl hl.1 rfl (Nat.le_of_ble_eq_true rfl) dX12_gets_2) (fun r_2 w_1 H locs hw_w_1 hP hD hS => ?_)
  obtain ⟨hW_w_1, hs_w_1, i_r_2, h_3⟩ := hw_w_1
  refine lv_if_eq (tgt := 17) hx hb dX12_gets_5 (by decide) (fun c_4 => ?_) (fun c_4 => ?_)
  · refine lv_iconst (v := (-1)) hx hb dX12_gets_17 (by decide) ?_
    exact hret _ _ _ _ _ _ hP hD hS dX12_gets_18 ⟨hW_w_1, (Sm.rf.tr hs_w_1 (by decide))⟩
  · refine lv_aload_n hx hb dX12_gets_8 rfl (lv_at hl 0 rfl) ?_
    refine gt_X12 hx hb hts hown hK hP 0 (hW_w_1.o tM_0) 76 (by decide) wd_1477 rfl (hW_w_1.fr tM_0 rfl) dX12_gets_9 ?_
    refine lv_iload_n hx hb dX12_gets_12 rfl (lv_at hl 1 rfl) ?_
    refine va_iald hx hb hK hP 53 0 (hW_w_1.a tM_53) rfl (in_I (h_3 c_4).2 (by decide)) dX12_gets_13 ?_
    refine lv_topi (fun v_5 ev_5 => ?_)
    refine lv_goto (tgt := 18) hx hb dX12_gets_14 (by decide) ?_
    exact hret _ _ _ _ _ _ hP hD hS dX12_gets_18 ⟨hW_w_1, (Sm.rf.tr hs_w_1 (by decide))⟩
set_option maxRecDepth 100000 in
set_option maxHeartbeats 8000000 in
theorem k_X12_left (l : Launch) (D : va_G) (cI cJ cZ : ClassId) (q : Nat → Nat) (w : va_W) (hW_w : HT q (TM q cI cJ cZ) w) (p1 : Int32) : Con_i l yX12_left cX12_left 2 (some .int) ({ frames := 1, cells := 0, slots := 0, locals := 21 }) D cI cJ cZ eW [.ref (q 0), .int p1] w (fun (r : Int32) (w1 : va_W) => HT q (TM q cI cJ cZ) w1 ∧ Sm [] [] w w1) := by
  refine eQ_i rfl (by decide) (Nat.le_of_ble_eq_true rfl) ⟨rfl, rfl⟩ ?_
  intro p e R s m args below meth c A Q hx hb hml hown hts hK hE hA hR hret hP hD hS ls hl
  have hown : s.vm.findClass RX12 = some m.cls := hown
  have hl : lv_has ls 2 [(0, .ref (q 0)), (1, .int p1)] := hl
  refine lv_aload_n hx hb dX12_left_0 rfl (lv_at hl 0 rfl) ?_
  refine gt_X12 hx hb hts hown hK hP 0 (hW_w.o tM_0) 68 (by decide) wd_1469 rfl (hW_w.fi tM_0 rfl) dX12_left_1 ?_
  refine lv_if_eq (tgt := 15) hx hb dX12_left_4 (by decide) (fun c_1 => ?_) (fun c_1 => ?_)
  · refine lv_iconst (v := (-1)) hx hb dX12_left_15 (by decide) ?_
    refine lv_goto (tgt := 25) hx hb dX12_left_16 (by decide) ?_
    exact hret _ _ _ _ _ _ hP hD hS dX12_left_25 ⟨hW_w, Sm.rf⟩
  · refine lv_aload_n hx hb dX12_left_7 rfl (lv_at hl 0 rfl) ?_
    refine lv_iload_n hx hb dX12_left_8 rfl (lv_at hl 1 rfl) ?_
    refine kW_i ⟨rfl, rfl⟩ hP hD hS hA (rW_V (As := [.int p1]) (rest := []) hx hb hml hown hts hK hE hP hD (k_X12_isKind l D cI cJ cZ q w hW_w p1 _) ⟨⟨rfl, rfl⟩, rfl, rfl⟩ sv_X12_450 ⟨(Nat.le_trans (by decide) hR.1), (Nat.le_trans (by decide) hR.2)⟩ 0 12 (hW_w.o tM_0) rfl rfl rfl hl.1 rfl (Nat.le_of_ble_eq_true rfl) dX12_left_9) (fun r_3 w_2 H locs hw_w_2 hP hD hS => ?_)
    obtain ⟨hW_w_2, hs_w_2, i_r_3, h_4⟩ := hw_w_2
    refine lv_if_ne (tgt := 19) hx hb dX12_left_12 (by decide) (fun c_5 => ?_) (fun c_5 => ?_)
    · refine lv_aload_n hx hb dX12_left_19 rfl (lv_at hl 0 rfl) ?_
      refine gt_X12 hx hb hts hown hK hP 0 (hW_w_2.o tM_0) 77 (by decide) wd_1478 rfl (hW_w_2.fr tM_0 rfl) dX12_left_20 ?_
      refine lv_iload_n hx hb dX12_left_23 rfl (lv_at hl 1 rfl) ?_
      refine va_iald hx hb hK hP 54 0 (hW_w_2.a tM_54) rfl (in_I (h_4 c_5) (by decide)) dX12_left_24 ?_
      refine lv_topi (fun v_6 ev_6 => ?_)
      exact hret _ _ _ _ _ _ hP hD hS dX12_left_25 ⟨hW_w_2, (Sm.rf.tr hs_w_2 (by decide))⟩
    · refine lv_iconst (v := (-1)) hx hb dX12_left_15 (by decide) ?_
      refine lv_goto (tgt := 25) hx hb dX12_left_16 (by decide) ?_
      exact hret _ _ _ _ _ _ hP hD hS dX12_left_25 ⟨hW_w_2, (Sm.rf.tr hs_w_2 (by decide))⟩
set_option maxRecDepth 100000 in
set_option maxHeartbeats 8000000 in
theorem k_X12_lacks (l : Launch) (D : va_G) (cI cJ cZ : ClassId) (q : Nat → Nat) (w : va_W) (hW_w : HT q (TM q cI cJ cZ) w) (p1 : Int32) (p2 : Int32) : Con_i l yX12_lacks cX12_lacks 5 (some .int) ({ frames := 1, cells := 0, slots := 0, locals := 22 }) D cI cJ cZ eW [.ref (q 0), .int p1, .int p2] w (fun (r : Int32) (w1 : va_W) => HT q (TM q cI cJ cZ) w1 ∧ Sm [] [] w w1) := by
  refine eQ_i rfl (by decide) (Nat.le_of_ble_eq_true rfl) ⟨rfl, rfl⟩ ?_
  intro p e R s m args below meth c A Q hx hb hml hown hts hK hE hA hR hret hP hD hS ls hl
  have hown : s.vm.findClass RX12 = some m.cls := hown
  have hl : lv_has ls 5 [(0, .ref (q 0)), (1, .int p1), (2, .int p2)] := hl
  have J14 : ∀ (N : Nat) (x14_3 : Int32) (x14_4 : Int32) (w14 : va_W) (H : Heap) (locs : List Loc) (ls : Array Slot), (40 - x14_4.toInt).toNat < N → HT q (TM q cI cJ cZ) w14 → Sm [] [] w w14 → (In 0 40 x14_4) → (In 1 1 (fI w14 0 68)) → va_P D vwCl w14 H → va_D A w14 → va_S A s.heap H locs → lv_has ls 5 [(0, .ref (q 0)), (1, .int p1), (2, .int p2), (3, .int x14_3), (4, .int x14_4)] → W p l e R s m args below meth c H locs 0 0 Q (F0 m 14 ls []) := by
    intro N
    induction N with
    | zero => intro x14_3 x14_4 w14 H locs ls hmu; exact absurd hmu (Nat.not_lt_zero _)
    | succ N ih14 =>
      intro x14_3 x14_4 w14 H locs ls hmu14 hW_w14 hM_w14 i_x14_4 g14_0_68 hP hD hS hl
      have J61 : ∀ (y61_0 : Int32) (w61 : va_W) (H : Heap) (locs : List Loc) (ls : Array Slot), HT q (TM q cI cJ cZ) w61 → Sm [] [] w w61 → (In 0 39 x14_4) → (In 1 1 (fI w61 0 68)) → (In 1 40 (fI w61 0 69)) → va_P D vwCl w61 H → va_D A w61 → va_S A s.heap H locs → lv_has ls 5 [(0, .ref (q 0)), (1, .int p1), (2, .int p2), (3, .int x14_3), (4, .int x14_4)] → W p l e R s m args below meth c H locs 0 0 Q (F0 m 61 ls [.int y61_0, .int x14_3]) := by
        intro y61_0 w61 H locs ls hW_w61 hM_w61 i_x61_4 g61_0_68 g61_0_69 hP hD hS hl
        refine lv_iadd hx hb dX12_lacks_61 ?_
        refine lv_topi (fun v_1 ev_1 => ?_)
        refine lv_istore_n (lv' := [(3, .int v_1), (0, .ref (q 0)), (1, .int p1), (2, .int p2), (4, .int x14_4)]) hx hb dX12_lacks_62 rfl hl (by decide) rfl (fun ls hl => ?_)
        refine lv_iinc (v := (x14_4 + 1)) (lv' := [(4, .int (x14_4 + 1)), (3, .int v_1), (0, .ref (q 0)), (1, .int p1), (2, .int p2)]) hx hb dX12_lacks_63 hl (k := 4) rfl (rfl) (by decide) rfl (fun ls hl => ?_)
        refine lv_goto (tgt := 14) hx hb dX12_lacks_66 (by decide) ?_
        exact ih14 v_1 (x14_4 + 1) w61 _ _ ls (mu_inc hmu14 i_x61_4 (In_lit (n := 1) (by decide) (by decide) : In 1 1 1) (by decide)) hW_w61 hM_w61 (In_w ((In_add (y := 1) i_x61_4 (In_lit (n := 1) (by decide) (by decide) : In 1 1 1) (by decide)) : In 1 40 (x14_4 + 1)) (by decide) : In 0 40 (x14_4 + 1)) (In_of (hM_w61.gI (by decide)) (In_of (hM_w61.gI (by decide)).symm g61_0_68)) hP hD hS (lv_sub hl [2, 3, 4, 1, 0] rfl)
      refine lv_iload hx hb dX12_lacks_14 (lv_at hl 4 rfl) ?_
      refine lv_aload_n hx hb dX12_lacks_16 rfl (lv_at hl 0 rfl) ?_
      refine gt_X12 hx hb hts hown hK hP 0 (hW_w14.o tM_0) 69 (by decide) wd_1470 rfl (hW_w14.fi tM_0 rfl) dX12_lacks_17 ?_
      refine tov (v := (fI w 0 69)) (hM_w14.gI (by decide)) ?_
      refine lv_icmp_ge (tgt := 69) hx hb dX12_lacks_20 (by decide) (fun c_2 => ?_) (fun c_2 => ?_)
      · refine lv_iload_n hx hb dX12_lacks_69 rfl (lv_at hl 3 rfl) ?_
        exact hret _ _ _ _ _ _ hP hD hS dX12_lacks_70 ⟨hW_w14, hM_w14⟩
      · refine lv_iload_n hx hb dX12_lacks_23 rfl (lv_at hl 3 rfl) ?_
        refine lv_aload_n hx hb dX12_lacks_24 rfl (lv_at hl 0 rfl) ?_
        refine gt_X12 hx hb hts hown hK hP 0 (hW_w14.o tM_0) 73 (by decide) wd_1474 rfl (hW_w14.fr tM_0 rfl) dX12_lacks_25 ?_
        refine lv_iload hx hb dX12_lacks_28 (lv_at hl 4 rfl) ?_
        refine va_iald hx hb hK hP 50 0 (hW_w14.a tM_50) rfl (in_I (R_nle_r (hW_w.fin tM_0 rfl : In 0 40 (fI w 0 69)) i_x14_4 c_2 (by decide) : In 0 39 x14_4) (by decide)) dX12_lacks_30 ?_
        refine lv_topi (fun v_3 ev_3 => ?_)
        refine lv_iload_n hx hb dX12_lacks_31 rfl (lv_at hl 1 rfl) ?_
        refine lv_iload_n hx hb dX12_lacks_32 rfl (lv_at hl 2 rfl) ?_
        refine kW_i ⟨rfl, rfl⟩ hP hD hS hA (rW_S (As := [.int v_3, .int p1, .int p2]) (rest := [.int x14_3]) hx hb hml hown hts hK hE hP hD (k_X12_is l D cI cJ cZ q w14 hW_w14 v_3 p1 p2 _) ⟨⟨rfl, rfl⟩, rfl, rfl⟩ sv_X12_322 ⟨(Nat.le_trans (by decide) hR.1), (Nat.le_trans (by decide) hR.2)⟩ rfl hl.1 rfl (Nat.le_of_ble_eq_true rfl) dX12_lacks_33) (fun r_5 w_4 H locs hw_w_4 hP hD hS => ?_)
        obtain ⟨hW_w_4, hs_w_4, i_r_5, h_6⟩ := hw_w_4
        refine lv_if_eq (tgt := 60) hx hb dX12_lacks_36 (by decide) (fun c_7 => ?_) (fun c_7 => ?_)
        · refine lv_iconst (v := 0) hx hb dX12_lacks_60 (by decide) ?_
          exact J61 0 w_4 _ _ ls hW_w_4 (hM_w14.tr hs_w_4 (by decide)) (R_nle_r (hW_w.fin tM_0 rfl : In 0 40 (fI w 0 69)) i_x14_4 c_2 (by decide) : In 0 39 x14_4) (In_of ((hs_w_4.gI (by decide)).trans (hM_w14.gI (by decide))) (In_of (hM_w14.gI (by decide)).symm g14_0_68)) (In_of ((hs_w_4.gI (by decide)).trans (hM_w14.gI (by decide))) (R_nle_l (hW_w.fin tM_0 rfl : In 0 40 (fI w 0 69)) i_x14_4 c_2 (by decide) : In 1 40 (fI w 0 69))) hP hD hS (lv_sub hl [0, 1, 2, 3, 4] rfl)
        · refine lv_aload_n hx hb dX12_lacks_39 rfl (lv_at hl 0 rfl) ?_
          refine gt_X12 hx hb hts hown hK hP 0 (hW_w_4.o tM_0) 70 (by decide) wd_1471 rfl (hW_w_4.fr tM_0 rfl) dX12_lacks_40 ?_
          refine lv_iload hx hb dX12_lacks_43 (lv_at hl 4 rfl) ?_
          refine va_iald hx hb hK hP 47 0 (hW_w_4.a tM_47) rfl (in_I (R_nle_r (hW_w.fin tM_0 rfl : In 0 40 (fI w 0 69)) i_x14_4 c_2 (by decide) : In 0 39 x14_4) (by decide)) dX12_lacks_45 ?_
          refine lv_topi (fun v_8 ev_8 => ?_)
          refine lv_aload_n hx hb dX12_lacks_46 rfl (lv_at hl 0 rfl) ?_
          refine gt_X12 hx hb hts hown hK hP 0 (hW_w_4.o tM_0) 75 (by decide) wd_1476 rfl (hW_w_4.fr tM_0 rfl) dX12_lacks_47 ?_
          refine lv_iload hx hb dX12_lacks_50 (lv_at hl 4 rfl) ?_
          refine va_iald hx hb hK hP 52 0 (hW_w_4.a tM_52) rfl (in_I (R_nle_r (hW_w.fin tM_0 rfl : In 0 40 (fI w 0 69)) i_x14_4 c_2 (by decide) : In 0 39 x14_4) (by decide)) dX12_lacks_52 ?_
          refine lv_topi (fun v_9 ev_9 => ?_)
          refine kW_i ⟨rfl, rfl⟩ hP hD hS hA (rW_S (As := [.int v_9]) (rest := [.int v_8, .int x14_3]) hx hb hml hown hts hK hE hP hD (k_X12_bits l D cI cJ cZ q w_4 hW_w_4 v_9 (In_of ((hs_w_4.gI (by decide)).trans (hM_w14.gI (by decide))) (R_nle_l (hW_w.fin tM_0 rfl : In 0 40 (fI w 0 69)) i_x14_4 c_2 (by decide) : In 1 40 (fI w 0 69))) _) ⟨⟨rfl, rfl⟩, rfl, rfl⟩ sv_X12_544 ⟨(Nat.le_trans (by decide) hR.1), (Nat.le_trans (by decide) hR.2)⟩ rfl hl.1 rfl (Nat.le_of_ble_eq_true rfl) dX12_lacks_53) (fun r_11 w_10 H locs hw_w_10 hP hD hS => ?_)
          obtain ⟨hW_w_10, hs_w_10⟩ := hw_w_10
          refine lv_isub hx hb dX12_lacks_56 ?_
          refine lv_topi (fun v_12 ev_12 => ?_)
          refine lv_goto (tgt := 61) hx hb dX12_lacks_57 (by decide) ?_
          exact J61 v_12 w_10 _ _ ls hW_w_10 ((hM_w14.tr hs_w_4 (by decide)).tr hs_w_10 (by decide)) (R_nle_r (hW_w.fin tM_0 rfl : In 0 40 (fI w 0 69)) i_x14_4 c_2 (by decide) : In 0 39 x14_4) (In_of ((hs_w_10.gI (by decide)).trans ((hs_w_4.gI (by decide)).trans (hM_w14.gI (by decide)))) (In_of (hM_w14.gI (by decide)).symm g14_0_68)) (In_of ((hs_w_10.gI (by decide)).trans ((hs_w_4.gI (by decide)).trans (hM_w14.gI (by decide)))) (R_nle_l (hW_w.fin tM_0 rfl : In 0 40 (fI w 0 69)) i_x14_4 c_2 (by decide) : In 1 40 (fI w 0 69))) hP hD hS (lv_sub hl [0, 1, 2, 3, 4] rfl)
  refine lv_aload_n hx hb dX12_lacks_0 rfl (lv_at hl 0 rfl) ?_
  refine gt_X12 hx hb hts hown hK hP 0 (hW_w.o tM_0) 68 (by decide) wd_1469 rfl (hW_w.fi tM_0 rfl) dX12_lacks_1 ?_
  refine lv_if_ne (tgt := 9) hx hb dX12_lacks_4 (by decide) (fun c_13 => ?_) (fun c_13 => ?_)
  · refine lv_iconst (v := 0) hx hb dX12_lacks_9 (by decide) ?_
    refine lv_istore_n (lv' := [(3, .int 0), (0, .ref (q 0)), (1, .int p1), (2, .int p2)]) hx hb dX12_lacks_10 rfl hl (by decide) rfl (fun ls hl => ?_)
    refine lv_iconst (v := 0) hx hb dX12_lacks_11 (by decide) ?_
    refine lv_istore (lv' := [(4, .int 0), (3, .int 0), (0, .ref (q 0)), (1, .int p1), (2, .int p2)]) hx hb dX12_lacks_12 hl (by decide) rfl (fun ls hl => ?_)
    exact J14 _ 0 0 w _ _ ls (Nat.lt_succ_self _) hW_w Sm.rf (In_lit (n := 0) (by decide) (by decide) : In 0 40 0) (R_ne_l (hW_w.fin tM_0 rfl : In 0 1 (fI w 0 68)) (In_lit (n := 0) (by decide) (by decide) : In 0 0 0) c_13 (by decide) : In 1 1 (fI w 0 68)) hP hD hS (lv_sub hl [2, 3, 4, 1, 0] rfl)
  · refine lv_iconst (v := (-1)) hx hb dX12_lacks_7 (by decide) ?_
    exact hret _ _ _ _ _ _ hP hD hS dX12_lacks_8 ⟨hW_w, Sm.rf⟩
set_option maxRecDepth 100000 in
set_option maxHeartbeats 8000000 in
theorem k_X12_worth (l : Launch) (D : va_G) (cI cJ cZ : ClassId) (q : Nat → Nat) (w : va_W) (hW_w : HT q (TM q cI cJ cZ) w) (p1 : Int32) (hf_0_69 : In 1 40 (fI w 0 69)) : Con_i l yX12_worth cX12_worth 4 (some .int) ({ frames := 0, cells := 0, slots := 0, locals := 0 }) D cI cJ cZ eW [.ref (q 0), .int p1] w (fun (r : Int32) (w1 : va_W) => HT q (TM q cI cJ cZ) w1 ∧ Sm [] [] w w1) := by
  refine eQ_i rfl (by decide) (Nat.le_of_ble_eq_true rfl) ⟨rfl, rfl⟩ ?_
  intro p e R s m args below meth c A Q hx hb hml hown hts hK hE hA hR hret hP hD hS ls hl
  have hown : s.vm.findClass RX12 = some m.cls := hown
  have hl : lv_has ls 4 [(0, .ref (q 0)), (1, .int p1)] := hl
  have J4 : ∀ (N : Nat) (x4_2 : Int32) (x4_3 : Int32) (w4 : va_W) (H : Heap) (locs : List Loc) (ls : Array Slot), (10 - x4_3.toInt).toNat < N → HT q (TM q cI cJ cZ) w4 → Sm [] [] w w4 → (In 0 10 x4_3) → (In 1 40 (fI w4 0 69)) → va_P D vwCl w4 H → va_D A w4 → va_S A s.heap H locs → lv_has ls 4 [(0, .ref (q 0)), (1, .int p1), (2, .int x4_2), (3, .int x4_3)] → W p l e R s m args below meth c H locs 0 0 Q (F0 m 4 ls []) := by
    intro N
    induction N with
    | zero => intro x4_2 x4_3 w4 H locs ls hmu; exact absurd hmu (Nat.not_lt_zero _)
    | succ N ih4 =>
      intro x4_2 x4_3 w4 H locs ls hmu4 hW_w4 hM_w4 i_x4_3 g4_0_69 hP hD hS hl
      have J45 : ∀ (y45_0 : Int32) (w45 : va_W) (H : Heap) (locs : List Loc) (ls : Array Slot), HT q (TM q cI cJ cZ) w45 → Sm [] [] w w45 → (In 0 9 x4_3) → (In 1 40 (fI w45 0 69)) → va_P D vwCl w45 H → va_D A w45 → va_S A s.heap H locs → lv_has ls 4 [(0, .ref (q 0)), (1, .int p1), (2, .int x4_2), (3, .int x4_3)] → W p l e R s m args below meth c H locs 0 0 Q (F0 m 45 ls [.int y45_0, .int x4_2]) := by
        intro y45_0 w45 H locs ls hW_w45 hM_w45 i_x45_3 g45_0_69 hP hD hS hl
        refine lv_iadd hx hb dX12_worth_45 ?_
        refine lv_topi (fun v_1 ev_1 => ?_)
        refine lv_istore_n (lv' := [(2, .int v_1), (0, .ref (q 0)), (1, .int p1), (3, .int x4_3)]) hx hb dX12_worth_46 rfl hl (by decide) rfl (fun ls hl => ?_)
        refine lv_iinc (v := (x4_3 + 1)) (lv' := [(3, .int (x4_3 + 1)), (2, .int v_1), (0, .ref (q 0)), (1, .int p1)]) hx hb dX12_worth_47 hl (k := 3) rfl (rfl) (by decide) rfl (fun ls hl => ?_)
        refine lv_goto (tgt := 4) hx hb dX12_worth_50 (by decide) ?_
        exact ih4 v_1 (x4_3 + 1) w45 _ _ ls (mu_inc hmu4 i_x45_3 (In_lit (n := 1) (by decide) (by decide) : In 1 1 1) (by decide)) hW_w45 hM_w45 (In_w ((In_add (y := 1) i_x45_3 (In_lit (n := 1) (by decide) (by decide) : In 1 1 1) (by decide)) : In 1 10 (x4_3 + 1)) (by decide) : In 0 10 (x4_3 + 1)) (In_of (hM_w45.gI (by decide)) (In_of (hM_w45.gI (by decide)).symm g45_0_69)) hP hD hS (lv_sub hl [2, 3, 1, 0] rfl)
      refine lv_iload_n hx hb dX12_worth_4 rfl (lv_at hl 3 rfl) ?_
      refine lv_aload_n hx hb dX12_worth_5 rfl (lv_at hl 0 rfl) ?_
      refine gt_X12 hx hb hts hown hK hP 0 (hW_w4.o tM_0) 14 (by decide) wd_1415 rfl (hW_w4.fr tM_0 rfl) dX12_worth_6 ?_
      refine lv_aload_n hx hb dX12_worth_9 rfl (lv_at hl 0 rfl) ?_
      refine gt_X12 hx hb hts hown hK hP 0 (hW_w4.o tM_0) 12 (by decide) wd_1413 rfl (hW_w4.fi tM_0 rfl) dX12_worth_10 ?_
      refine tov (v := (fI w 0 12)) (hM_w4.gI (by decide)) ?_
      refine va_iald hx hb hK hP 2 0 (hW_w4.a tM_2) rfl (in_I (hW_w.fin tM_0 rfl : In 0 1 (fI w 0 12)) (by decide)) dX12_worth_13 ?_
      refine lv_topi (fun v_2 ev_2 => ?_)
      refine lv_icmp_ge (tgt := 53) hx hb dX12_worth_14 (by decide) (fun c_3 => ?_) (fun c_3 => ?_)
      · refine lv_iload_n hx hb dX12_worth_53 rfl (lv_at hl 2 rfl) ?_
        exact hret _ _ _ _ _ _ hP hD hS dX12_worth_54 ⟨hW_w4, hM_w4⟩
      · refine lv_iload_n hx hb dX12_worth_17 rfl (lv_at hl 2 rfl) ?_
        refine lv_iload_n hx hb dX12_worth_18 rfl (lv_at hl 1 rfl) ?_
        refine lv_iload_n hx hb dX12_worth_19 rfl (lv_at hl 3 rfl) ?_
        refine lv_ishr hx hb dX12_worth_20 ?_
        refine lv_topi (fun v_4 ev_4 => ?_)
        refine lv_iconst (v := 1) hx hb dX12_worth_21 (by decide) ?_
        refine lv_iand hx hb dX12_worth_22 ?_
        refine lv_iconst (v := 1) hx hb dX12_worth_23 (by decide) ?_
        refine lv_icmp_ne (tgt := 44) hx hb dX12_worth_24 (by decide) (fun c_5 => ?_) (fun c_5 => ?_)
        · refine lv_iconst (v := 0) hx hb dX12_worth_44 (by decide) ?_
          exact J45 0 w4 _ _ ls hW_w4 hM_w4 (R_nle_r (In_of ev_2 (hW_w4.ap tM_2 _) : In 0 10 v_2) i_x4_3 c_3 (by decide) : In 0 9 x4_3) (In_of (hM_w4.gI (by decide)) (In_of (hM_w4.gI (by decide)).symm g4_0_69)) hP hD hS (lv_sub hl [0, 1, 2, 3] rfl)
        · refine lv_aload_n hx hb dX12_worth_27 rfl (lv_at hl 0 rfl) ?_
          refine gt_X12 hx hb hts hown hK hP 0 (hW_w4.o tM_0) 20 (by decide) wd_1421 rfl (hW_w4.fr tM_0 rfl) dX12_worth_28 ?_
          refine lv_bipush (v := 10) hx hb dX12_worth_31 (by decide) ?_
          refine lv_aload_n hx hb dX12_worth_33 rfl (lv_at hl 0 rfl) ?_
          refine gt_X12 hx hb hts hown hK hP 0 (hW_w4.o tM_0) 12 (by decide) wd_1413 rfl (hW_w4.fi tM_0 rfl) dX12_worth_34 ?_
          refine tov (v := (fI w 0 12)) (hM_w4.gI (by decide)) ?_
          refine lv_imul hx hb dX12_worth_37 ?_
          refine lv_iload_n hx hb dX12_worth_38 rfl (lv_at hl 3 rfl) ?_
          refine lv_iadd hx hb dX12_worth_39 ?_
          refine va_iald hx hb hK hP 8 0 (hW_w4.a tM_8) rfl (in_I ((In_add ((In_mull (hW_w.fin tM_0 rfl : In 0 1 (fI w 0 12)) (n := 10) (by decide) (by decide)) : In 0 10 (10 * (fI w 0 12))) (R_nle_r (In_of ev_2 (hW_w4.ap tM_2 _) : In 0 10 v_2) i_x4_3 c_3 (by decide) : In 0 9 x4_3) (by decide)) : In 0 19 ((10 * (fI w 0 12)) + x4_3)) (by decide)) dX12_worth_40 ?_
          refine lv_topi (fun v_6 ev_6 => ?_)
          refine lv_goto (tgt := 45) hx hb dX12_worth_41 (by decide) ?_
          exact J45 v_6 w4 _ _ ls hW_w4 hM_w4 (R_nle_r (In_of ev_2 (hW_w4.ap tM_2 _) : In 0 10 v_2) i_x4_3 c_3 (by decide) : In 0 9 x4_3) (In_of (hM_w4.gI (by decide)) (In_of (hM_w4.gI (by decide)).symm g4_0_69)) hP hD hS (lv_sub hl [0, 1, 2, 3] rfl)
  refine lv_iconst (v := 0) hx hb dX12_worth_0 (by decide) ?_
  refine lv_istore_n (lv' := [(2, .int 0), (0, .ref (q 0)), (1, .int p1)]) hx hb dX12_worth_1 rfl hl (by decide) rfl (fun ls hl => ?_)
  refine lv_iconst (v := 0) hx hb dX12_worth_2 (by decide) ?_
  refine lv_istore_n (lv' := [(3, .int 0), (2, .int 0), (0, .ref (q 0)), (1, .int p1)]) hx hb dX12_worth_3 rfl hl (by decide) rfl (fun ls hl => ?_)
  exact J4 _ 0 0 w _ _ ls (Nat.lt_succ_self _) hW_w Sm.rf (In_lit (n := 0) (by decide) (by decide) : In 0 10 0) hf_0_69 hP hD hS (lv_sub hl [2, 3, 1, 0] rfl)
set_option maxRecDepth 100000 in
set_option maxHeartbeats 8000000 in
theorem k_X12_greatest (l : Launch) (D : va_G) (cI cJ cZ : ClassId) (q : Nat → Nat) (w : va_W) (hW_w : HT q (TM q cI cJ cZ) w) (p1 : Int32) (i_p1 : In 0 39 p1) (hf_0_69 : In 1 40 (fI w 0 69)) : Con_i l yX12_greatest cX12_greatest 5 (some .int) ({ frames := 1, cells := 0, slots := 0, locals := 23 }) D cI cJ cZ eW [.ref (q 0), .int p1] w (fun (r : Int32) (w1 : va_W) => HT q (TM q cI cJ cZ) w1 ∧ Sm [] [] w w1) := by
  refine eQ_i rfl (by decide) (Nat.le_of_ble_eq_true rfl) ⟨rfl, rfl⟩ ?_
  intro p e R s m args below meth c A Q hx hb hml hown hts hK hE hA hR hret hP hD hS ls hl
  have hown : s.vm.findClass RX12 = some m.cls := hown
  have hl : lv_has ls 5 [(0, .ref (q 0)), (1, .int p1)] := hl
  have J13 : ∀ (N : Nat) (x13_2 : Int32) (x13_3 : Int32) (w13 : va_W) (H : Heap) (locs : List Loc) (ls : Array Slot), (40 - x13_3.toInt).toNat < N → HT q (TM q cI cJ cZ) w13 → Sm [] [] w w13 → (In 0 39 p1) → (In 0 40 x13_3) → (In 1 40 (fI w13 0 69)) → va_P D vwCl w13 H → va_D A w13 → va_S A s.heap H locs → lv_has ls 5 [(0, .ref (q 0)), (1, .int p1), (2, .int x13_2), (3, .int x13_3)] → W p l e R s m args below meth c H locs 0 0 Q (F0 m 13 ls []) := by
    intro N
    induction N with
    | zero => intro x13_2 x13_3 w13 H locs ls hmu; exact absurd hmu (Nat.not_lt_zero _)
    | succ N ih13 =>
      intro x13_2 x13_3 w13 H locs ls hmu13 hW_w13 hM_w13 i_x13_1 i_x13_3 g13_0_69 hP hD hS hl
      have J73 : ∀ (x73_2 : Int32) (w73 : va_W) (H : Heap) (locs : List Loc) (ls : Array Slot), HT q (TM q cI cJ cZ) w73 → Sm [] [] w w73 → (In 0 39 p1) → (In 0 39 x13_3) → (In 1 40 (fI w73 0 69)) → va_P D vwCl w73 H → va_D A w73 → va_S A s.heap H locs → lv_has ls 5 [(0, .ref (q 0)), (1, .int p1), (2, .int x73_2), (3, .int x13_3)] → W p l e R s m args below meth c H locs 0 0 Q (F0 m 73 ls []) := by
        intro x73_2 w73 H locs ls hW_w73 hM_w73 i_x73_1 i_x73_3 g73_0_69 hP hD hS hl
        refine lv_iinc (v := (x13_3 + 1)) (lv' := [(3, .int (x13_3 + 1)), (0, .ref (q 0)), (1, .int p1), (2, .int x73_2)]) hx hb dX12_greatest_73 hl (k := 3) rfl (rfl) (by decide) rfl (fun ls hl => ?_)
        refine lv_goto (tgt := 13) hx hb dX12_greatest_76 (by decide) ?_
        exact ih13 x73_2 (x13_3 + 1) w73 _ _ ls (mu_inc hmu13 i_x73_3 (In_lit (n := 1) (by decide) (by decide) : In 1 1 1) (by decide)) hW_w73 hM_w73 i_p1 (In_w ((In_add (y := 1) i_x73_3 (In_lit (n := 1) (by decide) (by decide) : In 1 1 1) (by decide)) : In 1 40 (x13_3 + 1)) (by decide) : In 0 40 (x13_3 + 1)) (In_of (hM_w73.gI (by decide)) (In_of (hM_w73.gI (by decide)).symm g73_0_69)) hP hD hS (lv_sub hl [1, 2, 3, 0] rfl)
      have J72 : ∀ (x72_4 : Int32) (y72_0 : Int32) (w72 : va_W) (H : Heap) (locs : List Loc) (ls : Array Slot), HT q (TM q cI cJ cZ) w72 → Sm [] [] w w72 → (In 0 39 p1) → (In 0 39 x13_3) → (In 1 40 (fI w72 0 69)) → va_P D vwCl w72 H → va_D A w72 → va_S A s.heap H locs → lv_has ls 5 [(0, .ref (q 0)), (1, .int p1), (2, .int x13_2), (3, .int x13_3), (4, .int x72_4)] → W p l e R s m args below meth c H locs 0 0 Q (F0 m 72 ls [.int y72_0]) := by
        intro x72_4 y72_0 w72 H locs ls hW_w72 hM_w72 i_x72_1 i_x72_3 g72_0_69 hP hD hS hl
        refine lv_istore_n (lv' := [(2, .int y72_0), (0, .ref (q 0)), (1, .int p1), (3, .int x13_3), (4, .int x72_4)]) hx hb dX12_greatest_72 rfl hl (by decide) rfl (fun ls hl => ?_)
        exact J73 y72_0 w72 _ _ ls hW_w72 hM_w72 i_p1 i_x72_3 (In_of (hM_w72.gI (by decide)) (In_of (hM_w72.gI (by decide)).symm g72_0_69)) hP hD hS (lv_sub hl [1, 2, 0, 3] rfl)
      refine lv_iload_n hx hb dX12_greatest_13 rfl (lv_at hl 3 rfl) ?_
      refine lv_aload_n hx hb dX12_greatest_14 rfl (lv_at hl 0 rfl) ?_
      refine gt_X12 hx hb hts hown hK hP 0 (hW_w13.o tM_0) 69 (by decide) wd_1470 rfl (hW_w13.fi tM_0 rfl) dX12_greatest_15 ?_
      refine tov (v := (fI w 0 69)) (hM_w13.gI (by decide)) ?_
      refine lv_icmp_ge (tgt := 79) hx hb dX12_greatest_18 (by decide) (fun c_1 => ?_) (fun c_1 => ?_)
      · refine lv_iload_n hx hb dX12_greatest_79 rfl (lv_at hl 2 rfl) ?_
        exact hret _ _ _ _ _ _ hP hD hS dX12_greatest_80 ⟨hW_w13, hM_w13⟩
      · refine lv_aload_n hx hb dX12_greatest_21 rfl (lv_at hl 0 rfl) ?_
        refine gt_X12 hx hb hts hown hK hP 0 (hW_w13.o tM_0) 71 (by decide) wd_1472 rfl (hW_w13.fr tM_0 rfl) dX12_greatest_22 ?_
        refine lv_iload_n hx hb dX12_greatest_25 rfl (lv_at hl 1 rfl) ?_
        refine va_iald hx hb hK hP 48 0 (hW_w13.a tM_48) rfl (in_I i_p1 (by decide)) dX12_greatest_26 ?_
        refine lv_topi (fun v_2 ev_2 => ?_)
        refine lv_if_eq (tgt := 73) hx hb dX12_greatest_27 (by decide) (fun c_3 => ?_) (fun c_3 => ?_)
        · exact J73 x13_2 w13 _ _ ls hW_w13 hM_w13 i_p1 (R_nle_r (In_of (hM_w13.gI (by decide)).symm g13_0_69) i_x13_3 c_1 (by decide) : In 0 39 x13_3) (In_of (hM_w13.gI (by decide)) (In_of (hM_w13.gI (by decide)).symm g13_0_69)) hP hD hS (lv_sub hl [0, 1, 2, 3] rfl)
        · refine lv_aload_n hx hb dX12_greatest_30 rfl (lv_at hl 0 rfl) ?_
          refine gt_X12 hx hb hts hown hK hP 0 (hW_w13.o tM_0) 71 (by decide) wd_1472 rfl (hW_w13.fr tM_0 rfl) dX12_greatest_31 ?_
          refine lv_iload_n hx hb dX12_greatest_34 rfl (lv_at hl 3 rfl) ?_
          refine va_iald hx hb hK hP 48 0 (hW_w13.a tM_48) rfl (in_I (R_nle_r (In_of (hM_w13.gI (by decide)).symm g13_0_69) i_x13_3 c_1 (by decide) : In 0 39 x13_3) (by decide)) dX12_greatest_35 ?_
          refine lv_topi (fun v_4 ev_4 => ?_)
          refine lv_aload_n hx hb dX12_greatest_36 rfl (lv_at hl 0 rfl) ?_
          refine gt_X12 hx hb hts hown hK hP 0 (hW_w13.o tM_0) 71 (by decide) wd_1472 rfl (hW_w13.fr tM_0 rfl) dX12_greatest_37 ?_
          refine lv_iload_n hx hb dX12_greatest_40 rfl (lv_at hl 1 rfl) ?_
          refine va_iald hx hb hK hP 48 0 (hW_w13.a tM_48) rfl (in_I i_p1 (by decide)) dX12_greatest_41 ?_
          refine tov (v := v_2) ((congrFun (hM_w13.hA (by decide)) _).trans ((congrFun (hM_w13.hA (by decide)) _).symm.trans ev_2.symm)) ?_
          refine lv_icmp_eq (tgt := 48) hx hb dX12_greatest_42 (by decide) (fun c_5 => ?_) (fun c_5 => ?_)
          · refine lv_aload_n hx hb dX12_greatest_48 rfl (lv_at hl 0 rfl) ?_
            refine lv_aload_n hx hb dX12_greatest_49 rfl (lv_at hl 0 rfl) ?_
            refine gt_X12 hx hb hts hown hK hP 0 (hW_w13.o tM_0) 76 (by decide) wd_1477 rfl (hW_w13.fr tM_0 rfl) dX12_greatest_50 ?_
            refine lv_iload_n hx hb dX12_greatest_53 rfl (lv_at hl 3 rfl) ?_
            refine va_iald hx hb hK hP 53 0 (hW_w13.a tM_53) rfl (in_I (R_nle_r (In_of (hM_w13.gI (by decide)).symm g13_0_69) i_x13_3 c_1 (by decide) : In 0 39 x13_3) (by decide)) dX12_greatest_54 ?_
            refine lv_topi (fun v_6 ev_6 => ?_)
            refine kW_i ⟨rfl, rfl⟩ hP hD hS hA (rW_V (As := [.int v_6]) (rest := []) hx hb hml hown hts hK hE hP hD (k_X12_worth l D cI cJ cZ q w13 hW_w13 v_6 (In_of (hM_w13.gI (by decide)) (In_of (hM_w13.gI (by decide)).symm g13_0_69)) _) ⟨⟨rfl, rfl⟩, rfl, rfl⟩ sv_X12_553 ⟨(Nat.le_trans (by decide) hR.1), (Nat.le_trans (by decide) hR.2)⟩ 0 12 (hW_w13.o tM_0) rfl rfl rfl hl.1 rfl (Nat.le_of_ble_eq_true rfl) dX12_greatest_55) (fun r_8 w_7 H locs hw_w_7 hP hD hS => ?_)
            obtain ⟨hW_w_7, hs_w_7⟩ := hw_w_7
            refine lv_istore (lv' := [(4, .int r_8), (0, .ref (q 0)), (1, .int p1), (2, .int x13_2), (3, .int x13_3)]) hx hb dX12_greatest_58 hl (by decide) rfl (fun ls hl => ?_)
            refine lv_iload hx hb dX12_greatest_60 (lv_at hl 0 rfl) ?_
            refine lv_iload_n hx hb dX12_greatest_62 rfl (lv_at hl 3 rfl) ?_
            refine lv_icmp_le (tgt := 71) hx hb dX12_greatest_63 (by decide) (fun c_9 => ?_) (fun c_9 => ?_)
            · refine lv_iload_n hx hb dX12_greatest_71 rfl (lv_at hl 3 rfl) ?_
              exact J72 r_8 x13_2 w_7 _ _ ls hW_w_7 (hM_w13.tr hs_w_7 (by decide)) i_p1 (R_nle_r (In_of (hM_w13.gI (by decide)).symm g13_0_69) i_x13_3 c_1 (by decide) : In 0 39 x13_3) (In_of ((hs_w_7.gI (by decide)).trans (hM_w13.gI (by decide))) (In_of (hM_w13.gI (by decide)).symm g13_0_69)) hP hD hS (lv_sub hl [1, 2, 3, 4, 0] rfl)
            · refine lv_iload hx hb dX12_greatest_66 (lv_at hl 0 rfl) ?_
              refine lv_goto (tgt := 72) hx hb dX12_greatest_68 (by decide) ?_
              exact J72 r_8 r_8 w_7 _ _ ls hW_w_7 (hM_w13.tr hs_w_7 (by decide)) i_p1 (R_nle_r (In_of (hM_w13.gI (by decide)).symm g13_0_69) i_x13_3 c_1 (by decide) : In 0 39 x13_3) (In_of ((hs_w_7.gI (by decide)).trans (hM_w13.gI (by decide))) (In_of (hM_w13.gI (by decide)).symm g13_0_69)) hP hD hS (lv_sub hl [1, 2, 3, 4, 0] rfl)
          · refine lv_goto (tgt := 73) hx hb dX12_greatest_45 (by decide) ?_
            exact J73 x13_2 w13 _ _ ls hW_w13 hM_w13 i_p1 (R_nle_r (In_of (hM_w13.gI (by decide)).symm g13_0_69) i_x13_3 c_1 (by decide) : In 0 39 x13_3) (In_of (hM_w13.gI (by decide)) (In_of (hM_w13.gI (by decide)).symm g13_0_69)) hP hD hS (lv_sub hl [0, 1, 2, 3] rfl)
  refine lv_aload_n hx hb dX12_greatest_0 rfl (lv_at hl 0 rfl) ?_
  refine lv_aload_n hx hb dX12_greatest_1 rfl (lv_at hl 0 rfl) ?_
  refine gt_X12 hx hb hts hown hK hP 0 (hW_w.o tM_0) 76 (by decide) wd_1477 rfl (hW_w.fr tM_0 rfl) dX12_greatest_2 ?_
  refine lv_iload_n hx hb dX12_greatest_5 rfl (lv_at hl 1 rfl) ?_
  refine va_iald hx hb hK hP 53 0 (hW_w.a tM_53) rfl (in_I i_p1 (by decide)) dX12_greatest_6 ?_
  refine lv_topi (fun v_10 ev_10 => ?_)
  refine kW_i ⟨rfl, rfl⟩ hP hD hS hA (rW_V (As := [.int v_10]) (rest := []) hx hb hml hown hts hK hE hP hD (k_X12_worth l D cI cJ cZ q w hW_w v_10 hf_0_69 _) ⟨⟨rfl, rfl⟩, rfl, rfl⟩ sv_X12_553 ⟨(Nat.le_trans (by decide) hR.1), (Nat.le_trans (by decide) hR.2)⟩ 0 12 (hW_w.o tM_0) rfl rfl rfl hl.1 rfl (Nat.le_of_ble_eq_true rfl) dX12_greatest_7) (fun r_12 w_11 H locs hw_w_11 hP hD hS => ?_)
  obtain ⟨hW_w_11, hs_w_11⟩ := hw_w_11
  refine lv_istore_n (lv' := [(2, .int r_12), (0, .ref (q 0)), (1, .int p1)]) hx hb dX12_greatest_10 rfl hl (by decide) rfl (fun ls hl => ?_)
  refine lv_iconst (v := 0) hx hb dX12_greatest_11 (by decide) ?_
  refine lv_istore_n (lv' := [(3, .int 0), (2, .int r_12), (0, .ref (q 0)), (1, .int p1)]) hx hb dX12_greatest_12 rfl hl (by decide) rfl (fun ls hl => ?_)
  exact J13 _ r_12 0 w_11 _ _ ls (Nat.lt_succ_self _) hW_w_11 (Sm.rf.tr hs_w_11 (by decide)) i_p1 (In_lit (n := 0) (by decide) (by decide) : In 0 40 0) (In_of (hs_w_11.gI (by decide)) hf_0_69) hP hD hS (lv_sub hl [2, 3, 1, 0] rfl)
set_option maxRecDepth 100000 in
set_option maxHeartbeats 8000000 in
theorem k_X12_isAhead (l : Launch) (D : va_G) (cI cJ cZ : ClassId) (q : Nat → Nat) (w : va_W) (hW_w : HT q (TM q cI cJ cZ) w) (p0 : Int32) (p1 : Int32) (i_p0 : In 1 2147483646 p0) (i_p1 : In 0 2147483646 p1) (hf_0_69 : In 1 40 (fI w 0 69)) : Con_i l yX12_isAhead cX12_isAhead 3 (some .boolean) ({ frames := 0, cells := 0, slots := 0, locals := 0 }) D cI cJ cZ eW [.int p0, .int p1] w (fun (r : Int32) (w1 : va_W) => HT q (TM q cI cJ cZ) w1 ∧ Sm [] [] w w1 ∧ In 0 1 r) := by
  refine eQ_z rfl (by decide) (Nat.le_of_ble_eq_true rfl) ⟨rfl, rfl⟩ ?_
  intro p e R s m args below meth c A Q hx hb hml hown hts hK hE hA hR hret hP hD hS ls hl
  have hown : s.vm.findClass RX12 = some m.cls := hown
  have hl : lv_has ls 3 [(0, .int p0), (1, .int p1)] := hl
  refine lv_iload_n hx hb dX12_isAhead_0 rfl (lv_at hl 0 rfl) ?_
  refine lv_iload_n hx hb dX12_isAhead_1 rfl (lv_at hl 1 rfl) ?_
  refine lv_ixor hx hb dX12_isAhead_2 ?_
  refine lv_topi (fun v_1 ev_1 => ?_)
  refine lv_istore_n (lv' := [(2, .int v_1), (0, .int p0), (1, .int p1)]) hx hb dX12_isAhead_3 rfl hl (by decide) rfl (fun ls hl => ?_)
  refine lv_iload_n hx hb dX12_isAhead_4 rfl (lv_at hl 0 rfl) ?_
  refine lv_if_eq (tgt := 21) hx hb dX12_isAhead_5 (by decide) (fun c_2 => ?_) (fun c_2 => ?_)
  · refine lv_iconst (v := 0) hx hb dX12_isAhead_21 (by decide) ?_
    exact hret _ _ _ _ _ _ hP hD hS dX12_isAhead_22 (In_lit (n := 0) (by decide) (by decide) : In 0 1 0) ⟨hW_w, Sm.rf, (In_lit (n := 0) (by decide) (by decide) : In 0 1 0)⟩
  · refine lv_iload_n hx hb dX12_isAhead_8 rfl (lv_at hl 1 rfl) ?_
    refine lv_iload_n hx hb dX12_isAhead_9 rfl (lv_at hl 0 rfl) ?_
    refine lv_iand hx hb dX12_isAhead_10 ?_
    refine lv_topi (fun v_3 ev_3 => ?_)
    refine lv_iload_n hx hb dX12_isAhead_11 rfl (lv_at hl 0 rfl) ?_
    refine lv_ineg hx hb dX12_isAhead_12 ?_
    refine lv_topi (fun v_4 ev_4 => ?_)
    refine lv_iand hx hb dX12_isAhead_13 ?_
    refine lv_topi (fun v_5 ev_5 => ?_)
    refine lv_if_eq (tgt := 21) hx hb dX12_isAhead_14 (by decide) (fun c_6 => ?_) (fun c_6 => ?_)
    · refine lv_iconst (v := 0) hx hb dX12_isAhead_21 (by decide) ?_
      exact hret _ _ _ _ _ _ hP hD hS dX12_isAhead_22 (In_lit (n := 0) (by decide) (by decide) : In 0 1 0) ⟨hW_w, Sm.rf, (In_lit (n := 0) (by decide) (by decide) : In 0 1 0)⟩
    · refine lv_iconst (v := 1) hx hb dX12_isAhead_17 (by decide) ?_
      refine lv_goto (tgt := 22) hx hb dX12_isAhead_18 (by decide) ?_
      exact hret _ _ _ _ _ _ hP hD hS dX12_isAhead_22 (In_lit (n := 1) (by decide) (by decide) : In 0 1 1) ⟨hW_w, Sm.rf, (In_lit (n := 1) (by decide) (by decide) : In 0 1 1)⟩
