set_option maxRecDepth 100000 in
set_option maxHeartbeats 8000000 in
theorem k_X12_add (l : Launch) (D : va_G) (cI cJ cZ : ClassId) (q : Nat → Nat) (w : va_W) (hW_w : HT q (TM q cI cJ cZ) w) (p1 : Int32) (p2 : Int32) (i_p1 : In 0 23 p1) (hf_0_1 : In 0 0 (fI w 0 1)) (hf_0_32 : In 1 20 (fI w 0 32)) (hC : In 0 1099 (aF w 14 (fI w 0 13).toNatClampNeg)) : Con_v l yX12_add cX12_add 4 none ({ frames := 0, cells := 0, slots := 0, locals := 0 }) D cI cJ cZ eW [.ref (q 0), .int p1, .int p2] w (fun (w1 : va_W) => HT q (TM q cI cJ cZ) w1 ∧ Sm [13, 14] [] w w1 ∧ (AD w w1 p1)) := by
  refine eQ_v rfl (by decide) (Nat.le_of_ble_eq_true rfl) ⟨rfl, rfl⟩ ?_
  intro p e R s m args below meth c A Q hx hb hml hown hts hK hE hA hR hret hP hD hS ls hl
  have hown : s.vm.findClass RX12 = some m.cls := hown
  have hl : lv_has ls 4 [(0, .ref (q 0)), (1, .int p1), (2, .int p2)] := hl
  refine lv_sipush (v := 2200) hx hb dX12_add_0 (by decide) ?_
  refine lv_aload_n hx hb dX12_add_3 rfl (lv_at hl 0 rfl) ?_
  refine gt_X12 hx hb hts hown hK hP 0 (hW_w.o tM_0) 13 (by decide) wd_1414 rfl (hW_w.fi tM_0 rfl) dX12_add_4 ?_
  refine lv_imul hx hb dX12_add_7 ?_
  refine lv_iconst (v := 2) hx hb dX12_add_8 (by decide) ?_
  refine lv_aload_n hx hb dX12_add_9 rfl (lv_at hl 0 rfl) ?_
  refine gt_X12 hx hb hts hown hK hP 0 (hW_w.o tM_0) 26 (by decide) wd_1427 rfl (hW_w.fr tM_0 rfl) dX12_add_10 ?_
  refine lv_aload_n hx hb dX12_add_13 rfl (lv_at hl 0 rfl) ?_
  refine gt_X12 hx hb hts hown hK hP 0 (hW_w.o tM_0) 13 (by decide) wd_1414 rfl (hW_w.fi tM_0 rfl) dX12_add_14 ?_
  refine va_iald hx hb hK hP 14 0 (hW_w.a tM_14) rfl (in_I (hW_w.fin tM_0 rfl : In 0 1 (fI w 0 13)) (by decide)) dX12_add_17 ?_
  refine lv_topi (fun v_1 ev_1 => ?_)
  refine lv_imul hx hb dX12_add_18 ?_
  refine lv_iadd hx hb dX12_add_19 ?_
  refine lv_istore_n (lv' := [(3, .int ((2200 * (fI w 0 13)) + (2 * v_1))), (0, .ref (q 0)), (1, .int p1), (2, .int p2)]) hx hb dX12_add_20 rfl hl (by decide) rfl (fun ls hl => ?_)
  refine lv_aload_n hx hb dX12_add_21 rfl (lv_at hl 1 rfl) ?_
  refine gt_X12 hx hb hts hown hK hP 0 (hW_w.o tM_0) 25 (by decide) wd_1426 rfl (hW_w.fr tM_0 rfl) dX12_add_22 ?_
  refine lv_iload_n hx hb dX12_add_25 rfl (lv_at hl 0 rfl) ?_
  refine lv_iload_n hx hb dX12_add_26 rfl (lv_at hl 2 rfl) ?_
  refine va_iast hx hb hK hP hD hS 13 0 (hW_w.a tM_13) rfl (in_I ((In_add ((In_mull (hW_w.fin tM_0 rfl : In 0 1 (fI w 0 13)) (n := 2200) (by decide) (by decide)) : In 0 2200 (2200 * (fI w 0 13))) ((In_mull (In_of ev_1 hC : In 0 1099 v_1) (n := 2) (by decide) (by decide)) : In 0 2198 (2 * v_1)) (by decide)) : In 0 4398 ((2200 * (fI w 0 13)) + (2 * v_1))) (by decide)) dX12_add_27 (fun H locs hP hD hS => fr_w (hW_w.uA tM_13 (In_w i_p1 (by decide) : In (-2147483648) 2147483647 p1)) hP hD (fun w_2 ew_2 hW_w_2 hP hD => ?_))
  refine lv_aload_n hx hb dX12_add_28 rfl (lv_at hl 1 rfl) ?_
  refine gt_X12 hx hb hts hown hK hP 0 (hW_w_2.o tM_0) 25 (by decide) wd_1426 rfl (hW_w_2.fr tM_0 rfl) dX12_add_29 ?_
  refine lv_iload_n hx hb dX12_add_32 rfl (lv_at hl 0 rfl) ?_
  refine lv_iconst (v := 1) hx hb dX12_add_33 (by decide) ?_
  refine lv_iadd hx hb dX12_add_34 ?_
  refine lv_iload_n hx hb dX12_add_35 rfl (lv_at hl 3 rfl) ?_
  refine va_iast hx hb hK hP hD hS 13 0 (hW_w_2.a tM_13) rfl (in_I ((In_add ((In_add ((In_mull (hW_w.fin tM_0 rfl : In 0 1 (fI w 0 13)) (n := 2200) (by decide) (by decide)) : In 0 2200 (2200 * (fI w 0 13))) ((In_mull (In_of ev_1 hC : In 0 1099 v_1) (n := 2) (by decide) (by decide)) : In 0 2198 (2 * v_1)) (by decide)) : In 0 4398 ((2200 * (fI w 0 13)) + (2 * v_1))) (In_lit (n := 1) (by decide) (by decide) : In 1 1 1) (by decide)) : In 1 4399 (((2200 * (fI w 0 13)) + (2 * v_1)) + 1)) (by decide)) dX12_add_36 (fun H locs hP hD hS => fr_w (hW_w_2.uA tM_13 (In_any p2)) hP hD (fun w_3 ew_3 hW_w_3 hP hD => ?_))
  refine lv_aload_n hx hb dX12_add_37 rfl (lv_at hl 1 rfl) ?_
  refine gt_X12 hx hb hts hown hK hP 0 (hW_w_3.o tM_0) 26 (by decide) wd_1427 rfl (hW_w_3.fr tM_0 rfl) dX12_add_38 ?_
  refine lv_aload_n hx hb dX12_add_41 rfl (lv_at hl 1 rfl) ?_
  refine gt_X12 hx hb hts hown hK hP 0 (hW_w_3.o tM_0) 13 (by decide) wd_1414 rfl (hW_w_3.fi tM_0 rfl) dX12_add_42 ?_
  refine tov (v := (fI w 0 13)) ((fI_cg (st_ne ew_3 (by decide))).trans (fI_cg (st_ne ew_2 (by decide)))) ?_
  refine lv_dup2_11 hx hb dX12_add_45 rfl rfl ?_
  refine va_iald hx hb hK hP 14 0 (hW_w_3.a tM_14) rfl (in_I (hW_w.fin tM_0 rfl : In 0 1 (fI w 0 13)) (by decide)) dX12_add_46 ?_
  refine tov (v := v_1) ((congrFun ((aF_cg (st_ne ew_3 (by decide))).trans (aF_cg (st_ne ew_2 (by decide)))) _).trans ev_1.symm) ?_
  refine lv_iconst (v := 1) hx hb dX12_add_47 (by decide) ?_
  refine lv_iadd hx hb dX12_add_48 ?_
  refine va_iast hx hb hK hP hD hS 14 0 (hW_w_3.a tM_14) rfl (in_I (hW_w.fin tM_0 rfl : In 0 1 (fI w 0 13)) (by decide)) dX12_add_49 (fun H locs hP hD hS => fr_w (hW_w_3.uA tM_14 (In_w ((In_add (In_of ev_1 hC : In 0 1099 v_1) (In_lit (n := 1) (by decide) (by decide) : In 1 1 1) (by decide)) : In 1 1100 (v_1 + 1)) (by decide) : In 0 1100 (v_1 + 1))) hP hD (fun w_4 ew_4 hW_w_4 hP hD => ?_))
  exact hret _ _ _ _ _ hP hD hS dX12_add_50 ⟨hW_w_4, (((Sm.rf.sa ew_2 (by decide)).sa ew_3 (by decide)).sa ew_4 (by decide)), (AD_of (c := v_1) (v := p2) (hW_w.fin tM_0 rfl : In 0 1 (fI w 0 13)) (In_of ev_1 hC : In 0 1099 v_1) ev_1 (by rw [(aF_cg (st_ne ew_4 (by decide))), aF_eq (hW_w_2.lt tM_13) ew_3, aF_eq (hW_w.lt tM_13) ew_2]) (by rw [aF_eq (hW_w_3.lt tM_14) ew_4, (aF_cg (st_ne ew_3 (by decide))), (aF_cg (st_ne ew_2 (by decide)))]))⟩
set_option maxRecDepth 100000 in
set_option maxHeartbeats 8000000 in
theorem k_X12_rank (l : Launch) (D : va_G) (cI cJ cZ : ClassId) (q : Nat → Nat) (w : va_W) (hW_w : HT q (TM q cI cJ cZ) w) (p0 : Int32) (i_p0 : In 0 18 p0) (hf_0_1 : In 0 0 (fI w 0 1)) (hf_0_8 : In 0 0 (fI w 0 8)) (hf_0_32 : In 1 20 (fI w 0 32)) (hf_0_35 : In 1 400 (fI w 0 35)) : Con_i l yX12_rank cX12_rank 1 (some .int) ({ frames := 0, cells := 0, slots := 0, locals := 0 }) D cI cJ cZ eW [.int p0] w (fun (r : Int32) (w1 : va_W) => HT q (TM q cI cJ cZ) w1 ∧ Sm [] [] w w1 ∧ In 1 5 r ∧ (r.toInt = (rkO p0 : Int))) := by
  refine eQ_i rfl (by decide) (Nat.le_of_ble_eq_true rfl) ⟨rfl, rfl⟩ ?_
  intro p e R s m args below meth c A Q hx hb hml hown hts hK hE hA hR hret hP hD hS ls hl
  have hown : s.vm.findClass RX12 = some m.cls := hown
  have hl : lv_has ls 1 [(0, .int p0)] := hl
  refine lv_iload_n hx hb dX12_rank_0 rfl (lv_at hl 0 rfl) ?_
  refine lv_bipush (v := 17) hx hb dX12_rank_1 (by decide) ?_
  refine lv_icmp_ne (tgt := 10) hx hb dX12_rank_3 (by decide) (fun c_1 => ?_) (fun c_1 => ?_)
  · refine lv_iload_n hx hb dX12_rank_10 rfl (lv_at hl 0 rfl) ?_
    refine lv_bipush (v := 16) hx hb dX12_rank_11 (by decide) ?_
    refine lv_icmp_ne (tgt := 20) hx hb dX12_rank_13 (by decide) (fun c_2 => ?_) (fun c_2 => ?_)
    · refine lv_iload_n hx hb dX12_rank_20 rfl (lv_at hl 0 rfl) ?_
      refine lv_bipush (v := 18) hx hb dX12_rank_21 (by decide) ?_
      refine lv_icmp_ne (tgt := 30) hx hb dX12_rank_23 (by decide) (fun c_3 => ?_) (fun c_3 => ?_)
      · refine lv_iload_n hx hb dX12_rank_30 rfl (lv_at hl 0 rfl) ?_
        refine lv_bipush (v := 13) hx hb dX12_rank_31 (by decide) ?_
        refine lv_icmp_eq (tgt := 48) hx hb dX12_rank_33 (by decide) (fun c_4 => ?_) (fun c_4 => ?_)
        · refine lv_iconst (v := 4) hx hb dX12_rank_48 (by decide) ?_
          refine lv_goto (tgt := 53) hx hb dX12_rank_49 (by decide) ?_
          exact hret _ _ _ _ _ _ hP hD hS dX12_rank_53 ⟨hW_w, Sm.rf, (In_lit (n := 4) (by decide) (by decide) : In 1 5 4), (by unfold rkO; rw [if_neg c_1, if_neg c_2, if_neg c_3, if_pos (Or.inl c_4)]; decide)⟩
        · refine lv_iload_n hx hb dX12_rank_36 rfl (lv_at hl 0 rfl) ?_
          refine lv_bipush (v := 14) hx hb dX12_rank_37 (by decide) ?_
          refine lv_icmp_eq (tgt := 48) hx hb dX12_rank_39 (by decide) (fun c_5 => ?_) (fun c_5 => ?_)
          · refine lv_iconst (v := 4) hx hb dX12_rank_48 (by decide) ?_
            refine lv_goto (tgt := 53) hx hb dX12_rank_49 (by decide) ?_
            exact hret _ _ _ _ _ _ hP hD hS dX12_rank_53 ⟨hW_w, Sm.rf, (In_lit (n := 4) (by decide) (by decide) : In 1 5 4), (by unfold rkO; rw [if_neg c_1, if_neg c_2, if_neg c_3, if_pos (Or.inr (Or.inl c_5))]; decide)⟩
          · refine lv_iload_n hx hb dX12_rank_42 rfl (lv_at hl 0 rfl) ?_
            refine lv_bipush (v := 15) hx hb dX12_rank_43 (by decide) ?_
            refine lv_icmp_ne (tgt := 52) hx hb dX12_rank_45 (by decide) (fun c_6 => ?_) (fun c_6 => ?_)
            · refine lv_iconst (v := 5) hx hb dX12_rank_52 (by decide) ?_
              exact hret _ _ _ _ _ _ hP hD hS dX12_rank_53 ⟨hW_w, Sm.rf, (In_lit (n := 5) (by decide) (by decide) : In 1 5 5), (by unfold rkO; rw [if_neg c_1, if_neg c_2, if_neg c_3, if_neg (fun q => q.elim c_4 (fun q => q.elim c_5 c_6))]; decide)⟩
            · refine lv_iconst (v := 4) hx hb dX12_rank_48 (by decide) ?_
              refine lv_goto (tgt := 53) hx hb dX12_rank_49 (by decide) ?_
              exact hret _ _ _ _ _ _ hP hD hS dX12_rank_53 ⟨hW_w, Sm.rf, (In_lit (n := 4) (by decide) (by decide) : In 1 5 4), (by unfold rkO; rw [if_neg c_1, if_neg c_2, if_neg c_3, if_pos (Or.inr (Or.inr c_6))]; decide)⟩
      · refine lv_iconst (v := 3) hx hb dX12_rank_26 (by decide) ?_
        refine lv_goto (tgt := 53) hx hb dX12_rank_27 (by decide) ?_
        exact hret _ _ _ _ _ _ hP hD hS dX12_rank_53 ⟨hW_w, Sm.rf, (In_lit (n := 3) (by decide) (by decide) : In 1 5 3), (by unfold rkO; rw [if_neg c_1, if_neg c_2, if_pos c_3]; decide)⟩
    · refine lv_iconst (v := 2) hx hb dX12_rank_16 (by decide) ?_
      refine lv_goto (tgt := 53) hx hb dX12_rank_17 (by decide) ?_
      exact hret _ _ _ _ _ _ hP hD hS dX12_rank_53 ⟨hW_w, Sm.rf, (In_lit (n := 2) (by decide) (by decide) : In 1 5 2), (by unfold rkO; rw [if_neg c_1, if_pos c_2]; decide)⟩
  · refine lv_iconst (v := 1) hx hb dX12_rank_6 (by decide) ?_
    refine lv_goto (tgt := 53) hx hb dX12_rank_7 (by decide) ?_
    exact hret _ _ _ _ _ _ hP hD hS dX12_rank_53 ⟨hW_w, Sm.rf, (In_lit (n := 1) (by decide) (by decide) : In 1 5 1), (by unfold rkO; rw [if_pos c_1]; decide)⟩
set_option maxRecDepth 100000 in
set_option maxHeartbeats 8000000 in
theorem k_X12_joins (l : Launch) (D : va_G) (cI cJ cZ : ClassId) (q : Nat → Nat) (w : va_W) (hW_w : HT q (TM q cI cJ cZ) w) (p1 : Int32) (i_p1 : In 1 5 p1) (hf_0_1 : In 0 0 (fI w 0 1)) (hf_0_8 : In 0 0 (fI w 0 8)) (hf_0_32 : In 1 20 (fI w 0 32)) (gT : Int) (gA : Nat) (hPW : PW gT gA w 1) (hTT : gT ≤ 1001) : Con_v l yX12_joins cX12_joins 2 none ({ frames := 1, cells := 0, slots := 0, locals := 23 }) D cI cJ cZ eW [.ref (q 0), .int p1] w (fun (w1 : va_W) => HT q (TM q cI cJ cZ) w1 ∧ Sm [0, 13, 14] [(0, 35)] w w1 ∧ (PW gT gA w1 1 ∧ JT p1 w1) ∧ (KC w w1) ∧ (fL w1 0 7 = fL w 0 7)) := by
  refine eQ_v rfl (by decide) (Nat.le_of_ble_eq_true rfl) ⟨rfl, rfl⟩ ?_
  intro p e R s m args below meth c A Q hx hb hml hown hts hK hE hA hR hret hP hD hS ls hl
  have hown : s.vm.findClass RX12 = some m.cls := hown
  have hl : lv_has ls 2 [(0, .ref (q 0)), (1, .int p1)] := hl
  have J0 : ∀ (N : Nat) (w0 : va_W) (H : Heap) (locs : List Loc) (ls : Array Slot), ((fI w0 0 35).toInt - 0).toNat < N → HT q (TM q cI cJ cZ) w0 → Sm [0, 13, 14] [(0, 35)] w w0 → (In 1 5 p1) → (In 0 0 (fI w0 0 1)) → (In 0 0 (fI w0 0 8)) → (In 1 20 (fI w0 0 32)) → (In 0 399 (fI w0 0 35)) → (PW gT gA w0 1) → (KC w w0) → (fL w0 0 7 = fL w 0 7) → va_P D vwCl w0 H → va_D A w0 → va_S A s.heap H locs → lv_has ls 2 [(0, .ref (q 0)), (1, .int p1)] → W p l e R s m args below meth c H locs 0 0 Q (F0 m 0 ls []) := by
    intro N
    induction N with
    | zero => intro w0 H locs ls hmu; exact absurd hmu (Nat.not_lt_zero _)
    | succ N ih0 =>
      intro w0 H locs ls hmu0 hW_w0 hM_w0 i_x0_1 g0_0_1 g0_0_8 g0_0_32 g0_0_35 hw_0 hkc_0 hf7_0 hP hD hS hl
      refine lv_aload_n hx hb dX12_joins_0 rfl (lv_at hl 0 rfl) ?_
      refine gt_X12 hx hb hts hown hK hP 0 (hW_w0.o tM_0) 35 (by decide) wd_1436 rfl (hW_w0.fi tM_0 rfl) dX12_joins_1 ?_
      refine lv_aload_n hx hb dX12_joins_4 rfl (lv_at hl 0 rfl) ?_
      refine gt_X12 hx hb hts hown hK hP 0 (hW_w0.o tM_0) 31 (by decide) wd_1432 rfl (hW_w0.fr tM_0 rfl) dX12_joins_5 ?_
      refine lv_aload_n hx hb dX12_joins_8 rfl (lv_at hl 0 rfl) ?_
      refine gt_X12 hx hb hts hown hK hP 0 (hW_w0.o tM_0) 32 (by decide) wd_1433 rfl (hW_w0.fi tM_0 rfl) dX12_joins_9 ?_
      refine tov (v := (fI w 0 32)) (hM_w0.2 0 32 (by decide) (by decide)) ?_
      refine lv_iconst (v := 1) hx hb dX12_joins_12 (by decide) ?_
      refine lv_isub hx hb dX12_joins_13 ?_
      refine va_iald hx hb hK hP 19 0 (hW_w0.a tM_19) rfl (in_I ((In_sub (In_of (hM_w0.2 0 32 (by decide) (by decide)).symm g0_0_32) (In_lit (n := 1) (by decide) (by decide) : In 1 1 1) (by decide)) : In 0 19 ((fI w 0 32) - 1)) (by decide)) dX12_joins_14 ?_
      refine lv_topi (fun v_1 ev_1 => ?_)
      refine lv_icmp_le (tgt := 63) hx hb dX12_joins_15 (by decide) (fun c_2 => ?_) (fun c_2 => ?_)
      · have lb_c_2 : ((fI w0 0 35) : Int32).toInt ≤ (v_1 : Int32).toInt := q_le.mp c_2
        exact hret _ _ _ _ _ hP hD hS dX12_joins_63 ⟨hW_w0, hM_w0, ⟨hw_0, (JT_0 ev_1 (by have t17 := t_sub (In_of (hM_w0.2 0 32 (by decide) (by decide)).symm g0_0_32) (In_lit (n := 1) (by decide) (by decide) : In 1 1 1) (by decide); have z1 : (1 : Int32).toInt = 1 := (by decide); have f32 : (fI w0 0 32).toInt = (fI w 0 32).toInt := congrArg Int32.toInt (hM_w0.2 0 32 (by decide) (by decide)); omega) (In_of (hM_w0.2 0 32 (by decide) (by decide)) (In_of (hM_w0.2 0 32 (by decide) (by decide)).symm g0_0_32)) (In_of ev_1 (hW_w0.ap tM_19 _) : In 0 400 v_1) (by omega))⟩, hkc_0, hf7_0⟩
      · have lb_c_2 : ¬ ((fI w0 0 35) : Int32).toInt ≤ (v_1 : Int32).toInt := fun h => c_2 (q_le.mpr h)
        refine lv_aload_n hx hb dX12_joins_18 rfl (lv_at hl 0 rfl) ?_
        refine gt_X12 hx hb hts hown hK hP 0 (hW_w0.o tM_0) 34 (by decide) wd_1435 rfl (hW_w0.fr tM_0 rfl) dX12_joins_19 ?_
        refine lv_aload_n hx hb dX12_joins_22 rfl (lv_at hl 0 rfl) ?_
        refine gt_X12 hx hb hts hown hK hP 0 (hW_w0.o tM_0) 35 (by decide) wd_1436 rfl (hW_w0.fi tM_0 rfl) dX12_joins_23 ?_
        refine lv_iconst (v := 1) hx hb dX12_joins_26 (by decide) ?_
        refine lv_isub hx hb dX12_joins_27 ?_
        refine va_iald hx hb hK hP 20 0 (hW_w0.a tM_20) rfl (in_I ((In_sub (R_nle_l g0_0_35 (In_of ev_1 (hW_w0.ap tM_19 _) : In 0 400 v_1) c_2 (by decide) : In 1 399 (fI w0 0 35)) (In_lit (n := 1) (by decide) (by decide) : In 1 1 1) (by decide)) : In 0 398 ((fI w0 0 35) - 1)) (by decide)) dX12_joins_28 ?_
        refine lv_topi (fun v_3 ev_3 => ?_)
        refine kW_i ⟨rfl, rfl⟩ hP hD hS hA (rW_S (As := [.int v_3]) (rest := []) hx hb hml hown hts hK hE hP hD (k_X12_rank l D cI cJ cZ q w0 hW_w0 v_3 (In_of ev_3 (hW_w0.ap tM_20 _) : In 0 18 v_3) (In_of (hM_w0.2 0 1 (by decide) (by decide)) (In_of (hM_w0.2 0 1 (by decide) (by decide)).symm g0_0_1)) (In_of (hM_w0.2 0 8 (by decide) (by decide)) (In_of (hM_w0.2 0 8 (by decide) (by decide)).symm g0_0_8)) (In_of (hM_w0.2 0 32 (by decide) (by decide)) (In_of (hM_w0.2 0 32 (by decide) (by decide)).symm g0_0_32)) (In_w (R_nle_l g0_0_35 (In_of ev_1 (hW_w0.ap tM_19 _) : In 0 400 v_1) c_2 (by decide) : In 1 399 (fI w0 0 35)) (by decide) : In 1 400 (fI w0 0 35)) _) ⟨⟨rfl, rfl⟩, rfl, rfl⟩ sv_X12_370 ⟨(Nat.le_trans (by decide) hR.1), (Nat.le_trans (by decide) hR.2)⟩ rfl hl.1 rfl (Nat.le_of_ble_eq_true rfl) dX12_joins_29) (fun r_5 w_4 H locs hw_w_4 hP hD hS => ?_)
        obtain ⟨hW_w_4, hs_w_4, i_r_5, h_6⟩ := hw_w_4
        refine lv_iload_n hx hb dX12_joins_32 rfl (lv_at hl 1 rfl) ?_
        refine lv_icmp_lt (tgt := 63) hx hb dX12_joins_33 (by decide) (fun c_7 => ?_) (fun c_7 => ?_)
        · have lb_c_7 : (r_5 : Int32).toInt < (p1 : Int32).toInt := q_lt.mp c_7
          exact hret _ _ _ _ _ hP hD hS dX12_joins_63 ⟨hW_w_4, (hM_w0.tr hs_w_4 (by decide)), ⟨(PW_cg (hs_w_4.hA (by decide)) (hs_w_4.hA (by decide)) (hs_w_4.hA (by decide)) (hs_w_4.hA (by decide)) (hs_w_4.hA (by decide)) (hs_w_4.hA (by decide)) (hs_w_4.hA (by decide)) (hs_w_4.gI (by decide)) (hs_w_4.gI (by decide)) (hs_w_4.gI (by decide)) (hs_w_4.gI (by decide)) hw_0), (JT_cg (hs_w_4.hA (by decide)) (hs_w_4.hA (by decide)) (hs_w_4.gI (by decide)) (hs_w_4.gI (by decide)) (JT_1 ev_3 (by have t18 := t_sub (R_nle_l g0_0_35 (In_of ev_1 (hW_w0.ap tM_19 _) : In 0 400 v_1) c_2 (by decide) : In 1 399 (fI w0 0 35)) (In_lit (n := 1) (by decide) (by decide) : In 1 1 1) (by decide); have z1 : (1 : Int32).toInt = 1 := (by decide); omega) (In_w (R_nle_l g0_0_35 (In_of ev_1 (hW_w0.ap tM_19 _) : In 0 400 v_1) c_2 (by decide) : In 1 399 (fI w0 0 35)) (by decide) : In 1 400 (fI w0 0 35)) (by have q := h_6; omega)))⟩, (KC_tr hkc_0 (KC_cg (hs_w_4.hA (by decide)) (hs_w_4.hA (by decide)) (hs_w_4.gI (by decide)))), ((hs_w_4.gL (by decide)).trans hf7_0)⟩
        · have lb_c_7 : ¬ (r_5 : Int32).toInt < (p1 : Int32).toInt := fun h => c_7 (q_lt.mpr h)
          refine lv_aload_n hx hb dX12_joins_36 rfl (lv_at hl 0 rfl) ?_
          refine lv_dup hx hb dX12_joins_37 rfl ?_
          refine gt_X12 hx hb hts hown hK hP 0 (hW_w_4.o tM_0) 35 (by decide) wd_1436 rfl (hW_w_4.fi tM_0 rfl) dX12_joins_38 ?_
          refine tov (v := (fI w0 0 35)) (hs_w_4.gI (by decide)) ?_
          refine lv_iconst (v := 1) hx hb dX12_joins_41 (by decide) ?_
          refine lv_isub hx hb dX12_joins_42 ?_
          refine pt_X12 hx hb hts hown hK hP hD hS 0 (hW_w_4.o tM_0) 35 (by decide) wd_1436 rfl rfl (ty := .int) (v := .int ((fI w0 0 35) - 1)) (by decide +kernel) rfl rfl (hW_w_4.ll tM_0 (Nat.le_of_ble_eq_true rfl)) dX12_joins_43 (fun H locs hP hD hS => fr_w (hW_w_4.sI tM_0 rfl (In_w ((In_sub (R_nle_l g0_0_35 (In_of ev_1 (hW_w0.ap tM_19 _) : In 0 400 v_1) c_2 (by decide) : In 1 399 (fI w0 0 35)) (In_lit (n := 1) (by decide) (by decide) : In 1 1 1) (by decide)) : In 0 398 ((fI w0 0 35) - 1)) (by decide) : In 0 400 ((fI w0 0 35) - 1))) hP hD (fun w_8 ew_8 hW_w_8 hP hD => ?_))
          refine lv_aload_n hx hb dX12_joins_46 rfl (lv_at hl 0 rfl) ?_
          refine lv_aload_n hx hb dX12_joins_47 rfl (lv_at hl 0 rfl) ?_
          refine gt_X12 hx hb hts hown hK hP 0 (hW_w_8.o tM_0) 34 (by decide) wd_1435 rfl (hW_w_8.fr tM_0 rfl) dX12_joins_48 ?_
          refine lv_aload_n hx hb dX12_joins_51 rfl (lv_at hl 0 rfl) ?_
          refine gt_X12 hx hb hts hown hK hP 0 (hW_w_8.o tM_0) 35 (by decide) wd_1436 rfl (hW_w_8.fi tM_0 rfl) dX12_joins_52 ?_
          refine tov (v := ((fI w0 0 35) - 1)) (fI_eq (hW_w_4.lt tM_0) ew_8 (hW_w_4.ll tM_0 (Nat.le_of_ble_eq_true rfl))) ?_
          refine va_iald hx hb hK hP 20 0 (hW_w_8.a tM_20) rfl (in_I ((In_sub (R_nle_l g0_0_35 (In_of ev_1 (hW_w0.ap tM_19 _) : In 0 400 v_1) c_2 (by decide) : In 1 399 (fI w0 0 35)) (In_lit (n := 1) (by decide) (by decide) : In 1 1 1) (by decide)) : In 0 398 ((fI w0 0 35) - 1)) (by decide)) dX12_joins_55 ?_
          refine tov (v := v_3) ((congrFun ((aF_cg (st_ne ew_8 (by decide))).trans ((hs_w_4.hA (by decide)).trans (hM_w0.hA (by decide)))) _).trans ((congrFun (hM_w0.hA (by decide)) _).symm.trans ev_3.symm)) ?_
          refine lv_iconst (v := 0) hx hb dX12_joins_56 (by decide) ?_
          refine kW_v ⟨rfl, rfl⟩ hP hD hS hA (rW_V (As := [.int v_3, .int 0]) (rest := []) hx hb hml hown hts hK hE hP hD (k_X12_add l D cI cJ cZ q w_8 hW_w_8 v_3 0 (In_w (In_of ev_3 (hW_w0.ap tM_20 _) : In 0 18 v_3) (by decide) : In 0 23 v_3) (In_of ((fI_nej (hW_w_4.lt tM_0) ew_8 (by decide)).trans ((hs_w_4.gI (by decide)).trans (hM_w0.2 0 1 (by decide) (by decide)))) (In_of (hM_w0.2 0 1 (by decide) (by decide)).symm g0_0_1)) (In_of ((fI_nej (hW_w_4.lt tM_0) ew_8 (by decide)).trans ((hs_w_4.gI (by decide)).trans (hM_w0.2 0 32 (by decide) (by decide)))) (In_of (hM_w0.2 0 32 (by decide) (by decide)).symm g0_0_32)) (by rw [show aF w_8 14 = aF w0 14 from ((aF_cg (st_ne ew_8 (by decide))).trans (hs_w_4.hA (by decide))), show fI w_8 0 13 = fI w0 0 13 from ((fI_nej (hW_w_4.lt tM_0) ew_8 (by decide)).trans (hs_w_4.gI (by decide)))]; exact PW_cd hw_0 hTT (hW_w0.ap tM_14 _)) _) ⟨⟨rfl, rfl⟩, rfl, rfl⟩ sv_X12_374 ⟨(Nat.le_trans (by decide) hR.1), (Nat.le_trans (by decide) hR.2)⟩ 0 12 (hW_w_8.o tM_0) rfl rfl rfl hl.1 rfl (Nat.le_of_ble_eq_true rfl) dX12_joins_57) (fun w_9 H locs hw_w_9 hP hD hS => ?_)
          obtain ⟨hW_w_9, hs_w_9, h_11⟩ := hw_w_9
          refine lv_goto (tgt := 0) hx hb dX12_joins_60 (by decide) ?_
          exact ih0 w_9 _ _ ls ((by rw [show fI w_9 0 35 = ((fI w0 0 35) - 1) from ((hs_w_9.gI (by decide)).trans (fI_eq (hW_w_4.lt tM_0) ew_8 (hW_w_4.ll tM_0 (Nat.le_of_ble_eq_true rfl))))]; exact mu_sub hmu0 (R_nle_l g0_0_35 (In_of ev_1 (hW_w0.ap tM_19 _) : In 0 400 v_1) c_2 (by decide) : In 1 399 (fI w0 0 35)) (In_lit (n := 1) (by decide) (by decide) : In 1 1 1) (by decide))) hW_w_9 (((hM_w0.tr hs_w_4 (by decide)).sf (hW_w_4.lt tM_0) ew_8 (by decide)).tr hs_w_9 (by decide)) i_p1 (In_of ((hs_w_9.gI (by decide)).trans ((fI_nej (hW_w_4.lt tM_0) ew_8 (by decide)).trans ((hs_w_4.gI (by decide)).trans (hM_w0.2 0 1 (by decide) (by decide))))) (In_of (hM_w0.2 0 1 (by decide) (by decide)).symm g0_0_1)) (In_of ((hs_w_9.gI (by decide)).trans ((fI_nej (hW_w_4.lt tM_0) ew_8 (by decide)).trans ((hs_w_4.gI (by decide)).trans (hM_w0.2 0 8 (by decide) (by decide))))) (In_of (hM_w0.2 0 8 (by decide) (by decide)).symm g0_0_8)) (In_of ((hs_w_9.gI (by decide)).trans ((fI_nej (hW_w_4.lt tM_0) ew_8 (by decide)).trans ((hs_w_4.gI (by decide)).trans (hM_w0.2 0 32 (by decide) (by decide))))) (In_of (hM_w0.2 0 32 (by decide) (by decide)).symm g0_0_32)) (In_of ((hs_w_9.gI (by decide)).trans (fI_eq (hW_w_4.lt tM_0) ew_8 (hW_w_4.ll tM_0 (Nat.le_of_ble_eq_true rfl)))) (In_w ((In_sub (R_nle_l g0_0_35 (In_of ev_1 (hW_w0.ap tM_19 _) : In 0 400 v_1) c_2 (by decide) : In 1 399 (fI w0 0 35)) (In_lit (n := 1) (by decide) (by decide) : In 1 1 1) (by decide)) : In 0 398 ((fI w0 0 35) - 1)) (by decide) : In 0 399 ((fI w0 0 35) - 1))) (PW_pop hw_0 (hW_w0.fin tM_0 rfl : In 0 1 (fI w0 0 13)) (PW_cd hw_0 hTT (hW_w0.ap tM_14 _)) (AD_cg ((aF_cg (st_ne ew_8 (by decide))).trans (hs_w_4.hA (by decide))) ((aF_cg (st_ne ew_8 (by decide))).trans (hs_w_4.hA (by decide))) ((fI_nej (hW_w_4.lt tM_0) ew_8 (by decide)).trans (hs_w_4.gI (by decide))) h_11) (by unfold omN; have e0_35 : (fI w_9 0 35).toInt = (((fI w0 0 35) - 1) : Int32).toInt := congrArg Int32.toInt ((hs_w_9.gI (by decide)).trans (fI_eq (hW_w_4.lt tM_0) ew_8 (hW_w_4.ll tM_0 (Nat.le_of_ble_eq_true rfl)))); have i0_35 := ((In_sub (R_nle_l g0_0_35 (In_of ev_1 (hW_w0.ap tM_19 _) : In 0 400 v_1) c_2 (by decide) : In 1 399 (fI w0 0 35)) (In_lit (n := 1) (by decide) (by decide) : In 1 1 1) (by decide)) : In 0 398 ((fI w0 0 35) - 1)); unfold In at i0_35; have t18 := t_sub (R_nle_l g0_0_35 (In_of ev_1 (hW_w0.ap tM_19 _) : In 0 400 v_1) c_2 (by decide) : In 1 399 (fI w0 0 35)) (In_lit (n := 1) (by decide) (by decide) : In 1 1 1) (by decide); have z1 : (1 : Int32).toInt = 1 := (by decide); omega) (ev_3.trans (by unfold omN; rw [((hs_w_9.gI (by decide)).trans (fI_eq (hW_w_4.lt tM_0) ew_8 (hW_w_4.ll tM_0 (Nat.le_of_ble_eq_true rfl))))]; rfl)) (JT_b ev_1 (by have t17 := t_sub (In_of (hM_w0.2 0 32 (by decide) (by decide)).symm g0_0_32) (In_lit (n := 1) (by decide) (by decide) : In 1 1 1) (by decide); have z1 : (1 : Int32).toInt = 1 := (by decide); have f32 : (fI w0 0 32).toInt = (fI w 0 32).toInt := congrArg Int32.toInt (hM_w0.2 0 32 (by decide) (by decide)); omega) (In_of (hM_w0.2 0 32 (by decide) (by decide)) (In_of (hM_w0.2 0 32 (by decide) (by decide)).symm g0_0_32)) (In_w (R_nle_r g0_0_35 (In_of ev_1 (hW_w0.ap tM_19 _) : In 0 400 v_1) c_2 (by decide) : In 0 398 v_1) (by decide) : In 0 400 v_1) (by omega) (by unfold omN; have e0_35 : (fI w_9 0 35).toInt = (((fI w0 0 35) - 1) : Int32).toInt := congrArg Int32.toInt ((hs_w_9.gI (by decide)).trans (fI_eq (hW_w_4.lt tM_0) ew_8 (hW_w_4.ll tM_0 (Nat.le_of_ble_eq_true rfl)))); have i0_35 := ((In_sub (R_nle_l g0_0_35 (In_of ev_1 (hW_w0.ap tM_19 _) : In 0 400 v_1) c_2 (by decide) : In 1 399 (fI w0 0 35)) (In_lit (n := 1) (by decide) (by decide) : In 1 1 1) (by decide)) : In 0 398 ((fI w0 0 35) - 1)); unfold In at i0_35; have t18 := t_sub (R_nle_l g0_0_35 (In_of ev_1 (hW_w0.ap tM_19 _) : In 0 400 v_1) c_2 (by decide) : In 1 399 (fI w0 0 35)) (In_lit (n := 1) (by decide) (by decide) : In 1 1 1) (by decide); have z1 : (1 : Int32).toInt = 1 := (by decide); omega)) (by unfold dpN; have f32 : (fI w0 0 32).toInt = (fI w 0 32).toInt := congrArg Int32.toInt (hM_w0.2 0 32 (by decide) (by decide)); have q := (In_of (hM_w0.2 0 32 (by decide) (by decide)).symm g0_0_32); unfold In at q; omega) ((hs_w_9.hA (by decide)).trans ((aF_cg (st_ne ew_8 (by decide))).trans (hs_w_4.hA (by decide)))) ((hs_w_9.hA (by decide)).trans ((aF_cg (st_ne ew_8 (by decide))).trans (hs_w_4.hA (by decide)))) ((hs_w_9.hA (by decide)).trans ((aF_cg (st_ne ew_8 (by decide))).trans (hs_w_4.hA (by decide)))) ((hs_w_9.hA (by decide)).trans ((aF_cg (st_ne ew_8 (by decide))).trans (hs_w_4.hA (by decide)))) ((hs_w_9.hA (by decide)).trans ((aF_cg (st_ne ew_8 (by decide))).trans (hs_w_4.hA (by decide)))) ((hs_w_9.gI (by decide)).trans ((fI_nej (hW_w_4.lt tM_0) ew_8 (by decide)).trans (hs_w_4.gI (by decide)))) ((hs_w_9.gI (by decide)).trans ((fI_nej (hW_w_4.lt tM_0) ew_8 (by decide)).trans (hs_w_4.gI (by decide)))) ((hs_w_9.gI (by decide)).trans ((fI_nej (hW_w_4.lt tM_0) ew_8 (by decide)).trans (hs_w_4.gI (by decide))))) (KC_tr (KC_tr hkc_0 (KC_cg ((aF_cg (st_ne ew_8 (by decide))).trans (hs_w_4.hA (by decide))) ((aF_cg (st_ne ew_8 (by decide))).trans (hs_w_4.hA (by decide))) ((fI_nej (hW_w_4.lt tM_0) ew_8 (by decide)).trans (hs_w_4.gI (by decide))))) (KC_ad h_11 (by rw [show aF w_8 14 = aF w0 14 from ((aF_cg (st_ne ew_8 (by decide))).trans (hs_w_4.hA (by decide))), show fI w_8 0 13 = fI w0 0 13 from ((fI_nej (hW_w_4.lt tM_0) ew_8 (by decide)).trans (hs_w_4.gI (by decide)))]; exact PW_cd hw_0 hTT (hW_w0.ap tM_14 _) : In 0 1099 (aF w_8 14 (fI w_8 0 13).toNatClampNeg)) (hs_w_9.gI (by decide)))) ((hs_w_9.gL (by decide)).trans ((fL_nej (hW_w_4.lt tM_0) ew_8 (by decide)).trans ((hs_w_4.gL (by decide)).trans hf7_0))) hP hD hS (lv_sub hl [0, 1] rfl)
  refine lv_aload_n hx hb dX12_joins_0 rfl (lv_at hl 0 rfl) ?_
  refine gt_X12 hx hb hts hown hK hP 0 (hW_w.o tM_0) 35 (by decide) wd_1436 rfl (hW_w.fi tM_0 rfl) dX12_joins_1 ?_
  refine lv_aload_n hx hb dX12_joins_4 rfl (lv_at hl 0 rfl) ?_
  refine gt_X12 hx hb hts hown hK hP 0 (hW_w.o tM_0) 31 (by decide) wd_1432 rfl (hW_w.fr tM_0 rfl) dX12_joins_5 ?_
  refine lv_aload_n hx hb dX12_joins_8 rfl (lv_at hl 0 rfl) ?_
  refine gt_X12 hx hb hts hown hK hP 0 (hW_w.o tM_0) 32 (by decide) wd_1433 rfl (hW_w.fi tM_0 rfl) dX12_joins_9 ?_
  refine lv_iconst (v := 1) hx hb dX12_joins_12 (by decide) ?_
  refine lv_isub hx hb dX12_joins_13 ?_
  refine va_iald hx hb hK hP 19 0 (hW_w.a tM_19) rfl (in_I ((In_sub hf_0_32 (In_lit (n := 1) (by decide) (by decide) : In 1 1 1) (by decide)) : In 0 19 ((fI w 0 32) - 1)) (by decide)) dX12_joins_14 ?_
  refine lv_topi (fun v_12 ev_12 => ?_)
  refine lv_icmp_le (tgt := 63) hx hb dX12_joins_15 (by decide) (fun c_13 => ?_) (fun c_13 => ?_)
  · have lb_c_13 : ((fI w 0 35) : Int32).toInt ≤ (v_12 : Int32).toInt := q_le.mp c_13
    exact hret _ _ _ _ _ hP hD hS dX12_joins_63 ⟨hW_w, Sm.rf, ⟨hPW, (JT_0 ev_12 (by have t17 := t_sub hf_0_32 (In_lit (n := 1) (by decide) (by decide) : In 1 1 1) (by decide); have z1 : (1 : Int32).toInt = 1 := (by decide); omega) (In_of rfl hf_0_32) (In_of ev_12 (hW_w.ap tM_19 _) : In 0 400 v_12) (by omega))⟩, (KC_cg rfl rfl rfl), rfl⟩
  · have lb_c_13 : ¬ ((fI w 0 35) : Int32).toInt ≤ (v_12 : Int32).toInt := fun h => c_13 (q_le.mpr h)
    refine lv_aload_n hx hb dX12_joins_18 rfl (lv_at hl 0 rfl) ?_
    refine gt_X12 hx hb hts hown hK hP 0 (hW_w.o tM_0) 34 (by decide) wd_1435 rfl (hW_w.fr tM_0 rfl) dX12_joins_19 ?_
    refine lv_aload_n hx hb dX12_joins_22 rfl (lv_at hl 0 rfl) ?_
    refine gt_X12 hx hb hts hown hK hP 0 (hW_w.o tM_0) 35 (by decide) wd_1436 rfl (hW_w.fi tM_0 rfl) dX12_joins_23 ?_
    refine lv_iconst (v := 1) hx hb dX12_joins_26 (by decide) ?_
    refine lv_isub hx hb dX12_joins_27 ?_
    refine va_iald hx hb hK hP 20 0 (hW_w.a tM_20) rfl (in_I ((In_sub (R_nle_l (hW_w.fin tM_0 rfl : In 0 400 (fI w 0 35)) (In_of ev_12 (hW_w.ap tM_19 _) : In 0 400 v_12) c_13 (by decide) : In 1 400 (fI w 0 35)) (In_lit (n := 1) (by decide) (by decide) : In 1 1 1) (by decide)) : In 0 399 ((fI w 0 35) - 1)) (by decide)) dX12_joins_28 ?_
    refine lv_topi (fun v_14 ev_14 => ?_)
    refine kW_i ⟨rfl, rfl⟩ hP hD hS hA (rW_S (As := [.int v_14]) (rest := []) hx hb hml hown hts hK hE hP hD (k_X12_rank l D cI cJ cZ q w hW_w v_14 (In_of ev_14 (hW_w.ap tM_20 _) : In 0 18 v_14) hf_0_1 hf_0_8 hf_0_32 (R_nle_l (hW_w.fin tM_0 rfl : In 0 400 (fI w 0 35)) (In_of ev_12 (hW_w.ap tM_19 _) : In 0 400 v_12) c_13 (by decide) : In 1 400 (fI w 0 35)) _) ⟨⟨rfl, rfl⟩, rfl, rfl⟩ sv_X12_370 ⟨(Nat.le_trans (by decide) hR.1), (Nat.le_trans (by decide) hR.2)⟩ rfl hl.1 rfl (Nat.le_of_ble_eq_true rfl) dX12_joins_29) (fun r_16 w_15 H locs hw_w_15 hP hD hS => ?_)
    obtain ⟨hW_w_15, hs_w_15, i_r_16, h_17⟩ := hw_w_15
    refine lv_iload_n hx hb dX12_joins_32 rfl (lv_at hl 1 rfl) ?_
    refine lv_icmp_lt (tgt := 63) hx hb dX12_joins_33 (by decide) (fun c_18 => ?_) (fun c_18 => ?_)
    · have lb_c_18 : (r_16 : Int32).toInt < (p1 : Int32).toInt := q_lt.mp c_18
      exact hret _ _ _ _ _ hP hD hS dX12_joins_63 ⟨hW_w_15, (Sm.rf.tr hs_w_15 (by decide)), ⟨(PW_cg (hs_w_15.hA (by decide)) (hs_w_15.hA (by decide)) (hs_w_15.hA (by decide)) (hs_w_15.hA (by decide)) (hs_w_15.hA (by decide)) (hs_w_15.hA (by decide)) (hs_w_15.hA (by decide)) (hs_w_15.gI (by decide)) (hs_w_15.gI (by decide)) (hs_w_15.gI (by decide)) (hs_w_15.gI (by decide)) hPW), (JT_cg (hs_w_15.hA (by decide)) (hs_w_15.hA (by decide)) (hs_w_15.gI (by decide)) (hs_w_15.gI (by decide)) (JT_1 ev_14 (by have t17 := t_sub (R_nle_l (hW_w.fin tM_0 rfl : In 0 400 (fI w 0 35)) (In_of ev_12 (hW_w.ap tM_19 _) : In 0 400 v_12) c_13 (by decide) : In 1 400 (fI w 0 35)) (In_lit (n := 1) (by decide) (by decide) : In 1 1 1) (by decide); have z1 : (1 : Int32).toInt = 1 := (by decide); omega) (R_nle_l (hW_w.fin tM_0 rfl : In 0 400 (fI w 0 35)) (In_of ev_12 (hW_w.ap tM_19 _) : In 0 400 v_12) c_13 (by decide) : In 1 400 (fI w 0 35)) (by have q := h_17; omega)))⟩, (KC_cg (hs_w_15.hA (by decide)) (hs_w_15.hA (by decide)) (hs_w_15.gI (by decide))), (hs_w_15.gL (by decide))⟩
    · have lb_c_18 : ¬ (r_16 : Int32).toInt < (p1 : Int32).toInt := fun h => c_18 (q_lt.mpr h)
      refine lv_aload_n hx hb dX12_joins_36 rfl (lv_at hl 0 rfl) ?_
      refine lv_dup hx hb dX12_joins_37 rfl ?_
      refine gt_X12 hx hb hts hown hK hP 0 (hW_w_15.o tM_0) 35 (by decide) wd_1436 rfl (hW_w_15.fi tM_0 rfl) dX12_joins_38 ?_
      refine tov (v := (fI w 0 35)) (hs_w_15.gI (by decide)) ?_
      refine lv_iconst (v := 1) hx hb dX12_joins_41 (by decide) ?_
      refine lv_isub hx hb dX12_joins_42 ?_
      refine pt_X12 hx hb hts hown hK hP hD hS 0 (hW_w_15.o tM_0) 35 (by decide) wd_1436 rfl rfl (ty := .int) (v := .int ((fI w 0 35) - 1)) (by decide +kernel) rfl rfl (hW_w_15.ll tM_0 (Nat.le_of_ble_eq_true rfl)) dX12_joins_43 (fun H locs hP hD hS => fr_w (hW_w_15.sI tM_0 rfl (In_w ((In_sub (R_nle_l (hW_w.fin tM_0 rfl : In 0 400 (fI w 0 35)) (In_of ev_12 (hW_w.ap tM_19 _) : In 0 400 v_12) c_13 (by decide) : In 1 400 (fI w 0 35)) (In_lit (n := 1) (by decide) (by decide) : In 1 1 1) (by decide)) : In 0 399 ((fI w 0 35) - 1)) (by decide) : In 0 400 ((fI w 0 35) - 1))) hP hD (fun w_19 ew_19 hW_w_19 hP hD => ?_))
      refine lv_aload_n hx hb dX12_joins_46 rfl (lv_at hl 0 rfl) ?_
      refine lv_aload_n hx hb dX12_joins_47 rfl (lv_at hl 0 rfl) ?_
      refine gt_X12 hx hb hts hown hK hP 0 (hW_w_19.o tM_0) 34 (by decide) wd_1435 rfl (hW_w_19.fr tM_0 rfl) dX12_joins_48 ?_
      refine lv_aload_n hx hb dX12_joins_51 rfl (lv_at hl 0 rfl) ?_
      refine gt_X12 hx hb hts hown hK hP 0 (hW_w_19.o tM_0) 35 (by decide) wd_1436 rfl (hW_w_19.fi tM_0 rfl) dX12_joins_52 ?_
      refine tov (v := ((fI w 0 35) - 1)) (fI_eq (hW_w_15.lt tM_0) ew_19 (hW_w_15.ll tM_0 (Nat.le_of_ble_eq_true rfl))) ?_
      refine va_iald hx hb hK hP 20 0 (hW_w_19.a tM_20) rfl (in_I ((In_sub (R_nle_l (hW_w.fin tM_0 rfl : In 0 400 (fI w 0 35)) (In_of ev_12 (hW_w.ap tM_19 _) : In 0 400 v_12) c_13 (by decide) : In 1 400 (fI w 0 35)) (In_lit (n := 1) (by decide) (by decide) : In 1 1 1) (by decide)) : In 0 399 ((fI w 0 35) - 1)) (by decide)) dX12_joins_55 ?_
      refine tov (v := v_14) ((congrFun ((aF_cg (st_ne ew_19 (by decide))).trans (hs_w_15.hA (by decide))) _).trans ev_14.symm) ?_
      refine lv_iconst (v := 0) hx hb dX12_joins_56 (by decide) ?_
      refine kW_v ⟨rfl, rfl⟩ hP hD hS hA (rW_V (As := [.int v_14, .int 0]) (rest := []) hx hb hml hown hts hK hE hP hD (k_X12_add l D cI cJ cZ q w_19 hW_w_19 v_14 0 (In_w (In_of ev_14 (hW_w.ap tM_20 _) : In 0 18 v_14) (by decide) : In 0 23 v_14) (In_of ((fI_nej (hW_w_15.lt tM_0) ew_19 (by decide)).trans (hs_w_15.gI (by decide))) hf_0_1) (In_of ((fI_nej (hW_w_15.lt tM_0) ew_19 (by decide)).trans (hs_w_15.gI (by decide))) hf_0_32) (by rw [show aF w_19 14 = aF w 14 from ((aF_cg (st_ne ew_19 (by decide))).trans (hs_w_15.hA (by decide))), show fI w_19 0 13 = fI w 0 13 from ((fI_nej (hW_w_15.lt tM_0) ew_19 (by decide)).trans (hs_w_15.gI (by decide)))]; exact PW_cd hPW hTT (hW_w.ap tM_14 _)) _) ⟨⟨rfl, rfl⟩, rfl, rfl⟩ sv_X12_374 ⟨(Nat.le_trans (by decide) hR.1), (Nat.le_trans (by decide) hR.2)⟩ 0 12 (hW_w_19.o tM_0) rfl rfl rfl hl.1 rfl (Nat.le_of_ble_eq_true rfl) dX12_joins_57) (fun w_20 H locs hw_w_20 hP hD hS => ?_)
      obtain ⟨hW_w_20, hs_w_20, h_22⟩ := hw_w_20
      refine lv_goto (tgt := 0) hx hb dX12_joins_60 (by decide) ?_
      exact J0 _ w_20 _ _ ls (Nat.lt_succ_self _) hW_w_20 (((Sm.rf.tr hs_w_15 (by decide)).sf (hW_w_15.lt tM_0) ew_19 (by decide)).tr hs_w_20 (by decide)) i_p1 (In_of ((hs_w_20.gI (by decide)).trans ((fI_nej (hW_w_15.lt tM_0) ew_19 (by decide)).trans (hs_w_15.gI (by decide)))) hf_0_1) (In_of ((hs_w_20.gI (by decide)).trans ((fI_nej (hW_w_15.lt tM_0) ew_19 (by decide)).trans (hs_w_15.gI (by decide)))) hf_0_8) (In_of ((hs_w_20.gI (by decide)).trans ((fI_nej (hW_w_15.lt tM_0) ew_19 (by decide)).trans (hs_w_15.gI (by decide)))) hf_0_32) (In_of ((hs_w_20.gI (by decide)).trans (fI_eq (hW_w_15.lt tM_0) ew_19 (hW_w_15.ll tM_0 (Nat.le_of_ble_eq_true rfl)))) ((In_sub (R_nle_l (hW_w.fin tM_0 rfl : In 0 400 (fI w 0 35)) (In_of ev_12 (hW_w.ap tM_19 _) : In 0 400 v_12) c_13 (by decide) : In 1 400 (fI w 0 35)) (In_lit (n := 1) (by decide) (by decide) : In 1 1 1) (by decide)) : In 0 399 ((fI w 0 35) - 1))) (PW_pop hPW (hW_w.fin tM_0 rfl : In 0 1 (fI w 0 13)) (PW_cd hPW hTT (hW_w.ap tM_14 _)) (AD_cg ((aF_cg (st_ne ew_19 (by decide))).trans (hs_w_15.hA (by decide))) ((aF_cg (st_ne ew_19 (by decide))).trans (hs_w_15.hA (by decide))) ((fI_nej (hW_w_15.lt tM_0) ew_19 (by decide)).trans (hs_w_15.gI (by decide))) h_22) (by unfold omN; have e0_35 : (fI w_20 0 35).toInt = (((fI w 0 35) - 1) : Int32).toInt := congrArg Int32.toInt ((hs_w_20.gI (by decide)).trans (fI_eq (hW_w_15.lt tM_0) ew_19 (hW_w_15.ll tM_0 (Nat.le_of_ble_eq_true rfl)))); have i0_35 := ((In_sub (R_nle_l (hW_w.fin tM_0 rfl : In 0 400 (fI w 0 35)) (In_of ev_12 (hW_w.ap tM_19 _) : In 0 400 v_12) c_13 (by decide) : In 1 400 (fI w 0 35)) (In_lit (n := 1) (by decide) (by decide) : In 1 1 1) (by decide)) : In 0 399 ((fI w 0 35) - 1)); unfold In at i0_35; have t17 := t_sub (R_nle_l (hW_w.fin tM_0 rfl : In 0 400 (fI w 0 35)) (In_of ev_12 (hW_w.ap tM_19 _) : In 0 400 v_12) c_13 (by decide) : In 1 400 (fI w 0 35)) (In_lit (n := 1) (by decide) (by decide) : In 1 1 1) (by decide); have z1 : (1 : Int32).toInt = 1 := (by decide); omega) (ev_14.trans (by unfold omN; rw [((hs_w_20.gI (by decide)).trans (fI_eq (hW_w_15.lt tM_0) ew_19 (hW_w_15.ll tM_0 (Nat.le_of_ble_eq_true rfl))))]; rfl)) (JT_b ev_12 (by have t17 := t_sub hf_0_32 (In_lit (n := 1) (by decide) (by decide) : In 1 1 1) (by decide); have z1 : (1 : Int32).toInt = 1 := (by decide); omega) (In_of rfl hf_0_32) (In_w (R_nle_r (hW_w.fin tM_0 rfl : In 0 400 (fI w 0 35)) (In_of ev_12 (hW_w.ap tM_19 _) : In 0 400 v_12) c_13 (by decide) : In 0 399 v_12) (by decide) : In 0 400 v_12) (by omega) (by unfold omN; have e0_35 : (fI w_20 0 35).toInt = (((fI w 0 35) - 1) : Int32).toInt := congrArg Int32.toInt ((hs_w_20.gI (by decide)).trans (fI_eq (hW_w_15.lt tM_0) ew_19 (hW_w_15.ll tM_0 (Nat.le_of_ble_eq_true rfl)))); have i0_35 := ((In_sub (R_nle_l (hW_w.fin tM_0 rfl : In 0 400 (fI w 0 35)) (In_of ev_12 (hW_w.ap tM_19 _) : In 0 400 v_12) c_13 (by decide) : In 1 400 (fI w 0 35)) (In_lit (n := 1) (by decide) (by decide) : In 1 1 1) (by decide)) : In 0 399 ((fI w 0 35) - 1)); unfold In at i0_35; have t17 := t_sub (R_nle_l (hW_w.fin tM_0 rfl : In 0 400 (fI w 0 35)) (In_of ev_12 (hW_w.ap tM_19 _) : In 0 400 v_12) c_13 (by decide) : In 1 400 (fI w 0 35)) (In_lit (n := 1) (by decide) (by decide) : In 1 1 1) (by decide); have z1 : (1 : Int32).toInt = 1 := (by decide); omega)) (by unfold dpN; skip; have q := hf_0_32; unfold In at q; omega) ((hs_w_20.hA (by decide)).trans ((aF_cg (st_ne ew_19 (by decide))).trans (hs_w_15.hA (by decide)))) ((hs_w_20.hA (by decide)).trans ((aF_cg (st_ne ew_19 (by decide))).trans (hs_w_15.hA (by decide)))) ((hs_w_20.hA (by decide)).trans ((aF_cg (st_ne ew_19 (by decide))).trans (hs_w_15.hA (by decide)))) ((hs_w_20.hA (by decide)).trans ((aF_cg (st_ne ew_19 (by decide))).trans (hs_w_15.hA (by decide)))) ((hs_w_20.hA (by decide)).trans ((aF_cg (st_ne ew_19 (by decide))).trans (hs_w_15.hA (by decide)))) ((hs_w_20.gI (by decide)).trans ((fI_nej (hW_w_15.lt tM_0) ew_19 (by decide)).trans (hs_w_15.gI (by decide)))) ((hs_w_20.gI (by decide)).trans ((fI_nej (hW_w_15.lt tM_0) ew_19 (by decide)).trans (hs_w_15.gI (by decide)))) ((hs_w_20.gI (by decide)).trans ((fI_nej (hW_w_15.lt tM_0) ew_19 (by decide)).trans (hs_w_15.gI (by decide))))) (KC_tr (KC_cg ((aF_cg (st_ne ew_19 (by decide))).trans (hs_w_15.hA (by decide))) ((aF_cg (st_ne ew_19 (by decide))).trans (hs_w_15.hA (by decide))) ((fI_nej (hW_w_15.lt tM_0) ew_19 (by decide)).trans (hs_w_15.gI (by decide)))) (KC_ad h_22 (by rw [show aF w_19 14 = aF w 14 from ((aF_cg (st_ne ew_19 (by decide))).trans (hs_w_15.hA (by decide))), show fI w_19 0 13 = fI w 0 13 from ((fI_nej (hW_w_15.lt tM_0) ew_19 (by decide)).trans (hs_w_15.gI (by decide)))]; exact PW_cd hPW hTT (hW_w.ap tM_14 _) : In 0 1099 (aF w_19 14 (fI w_19 0 13).toNatClampNeg)) (hs_w_20.gI (by decide)))) ((hs_w_20.gL (by decide)).trans ((fL_nej (hW_w_15.lt tM_0) ew_19 (by decide)).trans (hs_w_15.gL (by decide)))) hP hD hS (lv_sub hl [0, 1] rfl)
set_option maxRecDepth 100000 in
set_option maxHeartbeats 8000000 in
theorem k_X12_waits (l : Launch) (D : va_G) (cI cJ cZ : ClassId) (q : Nat → Nat) (w : va_W) (hW_w : HT q (TM q cI cJ cZ) w) (p1 : Int32) (i_p1 : In 10 18 p1) (hf_0_1 : In 0 0 (fI w 0 1)) (hf_0_8 : In 0 0 (fI w 0 8)) (hf_0_32 : In 1 9 (fI w 0 32)) (hf_0_35 : In 0 399 (fI w 0 35)) : Con_v l yX12_waits cX12_waits 2 none ({ frames := 0, cells := 0, slots := 0, locals := 0 }) D cI cJ cZ eW [.ref (q 0), .int p1] w (fun (w1 : va_W) => HT q (TM q cI cJ cZ) w1 ∧ Sm [0, 20] [(0, 35)] w w1 ∧ In 1 400 (fI w1 0 35) ∧ (aF w1 20 = upd (aF w 20) (fI w 0 35).toNatClampNeg p1 ∧ (fI w1 0 35).toInt = (fI w 0 35).toInt + 1) ∧ (fL w1 0 7 = fL w 0 7)) := by
  refine eQ_v rfl (by decide) (Nat.le_of_ble_eq_true rfl) ⟨rfl, rfl⟩ ?_
  intro p e R s m args below meth c A Q hx hb hml hown hts hK hE hA hR hret hP hD hS ls hl
  have hown : s.vm.findClass RX12 = some m.cls := hown
  have hl : lv_has ls 2 [(0, .ref (q 0)), (1, .int p1)] := hl
  refine lv_aload_n hx hb dX12_waits_0 rfl (lv_at hl 0 rfl) ?_
  refine gt_X12 hx hb hts hown hK hP 0 (hW_w.o tM_0) 34 (by decide) wd_1435 rfl (hW_w.fr tM_0 rfl) dX12_waits_1 ?_
  refine lv_aload_n hx hb dX12_waits_4 rfl (lv_at hl 0 rfl) ?_
  refine gt_X12 hx hb hts hown hK hP 0 (hW_w.o tM_0) 35 (by decide) wd_1436 rfl (hW_w.fi tM_0 rfl) dX12_waits_5 ?_
  refine lv_iload_n hx hb dX12_waits_8 rfl (lv_at hl 1 rfl) ?_
  refine va_iast hx hb hK hP hD hS 20 0 (hW_w.a tM_20) rfl (in_I hf_0_35 (by decide)) dX12_waits_9 (fun H locs hP hD hS => fr_w (hW_w.uA tM_20 (In_w i_p1 (by decide) : In 0 18 p1)) hP hD (fun w_1 ew_1 hW_w_1 hP hD => ?_))
  refine lv_aload_n hx hb dX12_waits_10 rfl (lv_at hl 0 rfl) ?_
  refine lv_dup hx hb dX12_waits_11 rfl ?_
  refine gt_X12 hx hb hts hown hK hP 0 (hW_w_1.o tM_0) 35 (by decide) wd_1436 rfl (hW_w_1.fi tM_0 rfl) dX12_waits_12 ?_
  refine tov (v := (fI w 0 35)) (fI_cg (st_ne ew_1 (by decide))) ?_
  refine lv_iconst (v := 1) hx hb dX12_waits_15 (by decide) ?_
  refine lv_iadd hx hb dX12_waits_16 ?_
  refine pt_X12 hx hb hts hown hK hP hD hS 0 (hW_w_1.o tM_0) 35 (by decide) wd_1436 rfl rfl (ty := .int) (v := .int ((fI w 0 35) + 1)) (by decide +kernel) rfl rfl (hW_w_1.ll tM_0 (Nat.le_of_ble_eq_true rfl)) dX12_waits_17 (fun H locs hP hD hS => fr_w (hW_w_1.sI tM_0 rfl (In_w ((In_add hf_0_35 (In_lit (n := 1) (by decide) (by decide) : In 1 1 1) (by decide)) : In 1 400 ((fI w 0 35) + 1)) (by decide) : In 0 400 ((fI w 0 35) + 1))) hP hD (fun w_2 ew_2 hW_w_2 hP hD => ?_))
  exact hret _ _ _ _ _ hP hD hS dX12_waits_20 ⟨hW_w_2, ((Sm.rf.sa ew_1 (by decide)).sf (hW_w_1.lt tM_0) ew_2 (by decide)), (In_of (fI_eq (hW_w_1.lt tM_0) ew_2 (hW_w_1.ll tM_0 (Nat.le_of_ble_eq_true rfl))) ((In_add hf_0_35 (In_lit (n := 1) (by decide) (by decide) : In 1 1 1) (by decide)) : In 1 400 ((fI w 0 35) + 1))), ⟨(by rw [(aF_cg (st_ne ew_2 (by decide))), aF_eq (hW_w.lt tM_20) ew_1]), (by have e0_35 : (fI w_2 0 35).toInt = (((fI w 0 35) + 1) : Int32).toInt := congrArg Int32.toInt (fI_eq (hW_w_1.lt tM_0) ew_2 (hW_w_1.ll tM_0 (Nat.le_of_ble_eq_true rfl))); have i0_35 := ((In_add hf_0_35 (In_lit (n := 1) (by decide) (by decide) : In 1 1 1) (by decide)) : In 1 400 ((fI w 0 35) + 1)); unfold In at i0_35; have t17 := t_add hf_0_35 (In_lit (n := 1) (by decide) (by decide) : In 1 1 1) (by decide); have z1 : (1 : Int32).toInt = 1 := (by decide); omega)⟩, ((fL_nej (hW_w_1.lt tM_0) ew_2 (by decide)).trans (fL_cg (st_ne ew_1 (by decide))))⟩
set_option maxRecDepth 100000 in
set_option maxHeartbeats 8000000 in
theorem k_X12_pushes (l : Launch) (D : va_G) (cI cJ cZ : ClassId) (q : Nat → Nat) (w : va_W) (hW_w : HT q (TM q cI cJ cZ) w) (p1 : Int32) (i_p1 : In 0 5 p1) (hf_0_1 : In 0 0 (fI w 0 1)) (hf_0_32 : In 0 19 (fI w 0 32)) : Con_v l yX12_pushes cX12_pushes 2 none ({ frames := 0, cells := 0, slots := 0, locals := 0 }) D cI cJ cZ eW [.ref (q 0), .int p1] w (fun (w1 : va_W) => HT q (TM q cI cJ cZ) w1 ∧ Sm [0, 16, 17, 18, 19] [(0, 32)] w w1 ∧ In 1 20 (fI w1 0 32) ∧ (aF w1 16 = upd (aF w 16) (fI w 0 32).toNatClampNeg p1 ∧ aF w1 17 = upd (aF w 17) (fI w 0 32).toNatClampNeg 0 ∧ aF w1 18 = upd (aF w 18) (fI w 0 32).toNatClampNeg (vp_nar .boolean 1) ∧ aF w1 19 = upd (aF w 19) (fI w 0 32).toNatClampNeg (fI w 0 35) ∧ (fI w1 0 32).toInt = (fI w 0 32).toInt + 1) ∧ (fL w1 0 7 = fL w 0 7)) := by
  refine eQ_v rfl (by decide) (Nat.le_of_ble_eq_true rfl) ⟨rfl, rfl⟩ ?_
  intro p e R s m args below meth c A Q hx hb hml hown hts hK hE hA hR hret hP hD hS ls hl
  have hown : s.vm.findClass RX12 = some m.cls := hown
  have hl : lv_has ls 2 [(0, .ref (q 0)), (1, .int p1)] := hl
  refine lv_aload_n hx hb dX12_pushes_0 rfl (lv_at hl 0 rfl) ?_
  refine gt_X12 hx hb hts hown hK hP 0 (hW_w.o tM_0) 28 (by decide) wd_1429 rfl (hW_w.fr tM_0 rfl) dX12_pushes_1 ?_
  refine lv_aload_n hx hb dX12_pushes_4 rfl (lv_at hl 0 rfl) ?_
  refine gt_X12 hx hb hts hown hK hP 0 (hW_w.o tM_0) 32 (by decide) wd_1433 rfl (hW_w.fi tM_0 rfl) dX12_pushes_5 ?_
  refine lv_iload_n hx hb dX12_pushes_8 rfl (lv_at hl 1 rfl) ?_
  refine va_iast hx hb hK hP hD hS 16 0 (hW_w.a tM_16) rfl (in_I hf_0_32 (by decide)) dX12_pushes_9 (fun H locs hP hD hS => fr_w (hW_w.uA tM_16 i_p1) hP hD (fun w_1 ew_1 hW_w_1 hP hD => ?_))
  refine lv_aload_n hx hb dX12_pushes_10 rfl (lv_at hl 0 rfl) ?_
  refine gt_X12 hx hb hts hown hK hP 0 (hW_w_1.o tM_0) 29 (by decide) wd_1430 rfl (hW_w_1.fr tM_0 rfl) dX12_pushes_11 ?_
  refine lv_aload_n hx hb dX12_pushes_14 rfl (lv_at hl 0 rfl) ?_
  refine gt_X12 hx hb hts hown hK hP 0 (hW_w_1.o tM_0) 32 (by decide) wd_1433 rfl (hW_w_1.fi tM_0 rfl) dX12_pushes_15 ?_
  refine tov (v := (fI w 0 32)) (fI_cg (st_ne ew_1 (by decide))) ?_
  refine lv_iconst (v := 0) hx hb dX12_pushes_18 (by decide) ?_
  refine va_iast hx hb hK hP hD hS 17 0 (hW_w_1.a tM_17) rfl (in_I hf_0_32 (by decide)) dX12_pushes_19 (fun H locs hP hD hS => fr_w (hW_w_1.uA tM_17 (In_lit (n := 0) (by decide) (by decide) : In 0 2 0)) hP hD (fun w_2 ew_2 hW_w_2 hP hD => ?_))
  refine lv_aload_n hx hb dX12_pushes_20 rfl (lv_at hl 0 rfl) ?_
  refine gt_X12 hx hb hts hown hK hP 0 (hW_w_2.o tM_0) 30 (by decide) wd_1431 rfl (hW_w_2.fr tM_0 rfl) dX12_pushes_21 ?_
  refine lv_aload_n hx hb dX12_pushes_24 rfl (lv_at hl 0 rfl) ?_
  refine gt_X12 hx hb hts hown hK hP 0 (hW_w_2.o tM_0) 32 (by decide) wd_1433 rfl (hW_w_2.fi tM_0 rfl) dX12_pushes_25 ?_
  refine tov (v := (fI w 0 32)) ((fI_cg (st_ne ew_2 (by decide))).trans (fI_cg (st_ne ew_1 (by decide)))) ?_
  refine lv_iconst (v := 1) hx hb dX12_pushes_28 (by decide) ?_
  refine va_zast hx hb hK hP hD hS 18 2 (hW_w_2.a tM_18) rfl (in_I hf_0_32 (by decide)) dX12_pushes_29 (fun H locs hP hD hS => fr_w (hW_w_2.uA tM_18 (vnar_z _)) hP hD (fun w_3 ew_3 hW_w_3 hP hD => ?_))
  refine lv_aload_n hx hb dX12_pushes_30 rfl (lv_at hl 0 rfl) ?_
  refine gt_X12 hx hb hts hown hK hP 0 (hW_w_3.o tM_0) 31 (by decide) wd_1432 rfl (hW_w_3.fr tM_0 rfl) dX12_pushes_31 ?_
  refine lv_aload_n hx hb dX12_pushes_34 rfl (lv_at hl 0 rfl) ?_
  refine gt_X12 hx hb hts hown hK hP 0 (hW_w_3.o tM_0) 32 (by decide) wd_1433 rfl (hW_w_3.fi tM_0 rfl) dX12_pushes_35 ?_
  refine tov (v := (fI w 0 32)) ((fI_cg (st_ne ew_3 (by decide))).trans ((fI_cg (st_ne ew_2 (by decide))).trans (fI_cg (st_ne ew_1 (by decide))))) ?_
  refine lv_aload_n hx hb dX12_pushes_38 rfl (lv_at hl 0 rfl) ?_
  refine gt_X12 hx hb hts hown hK hP 0 (hW_w_3.o tM_0) 35 (by decide) wd_1436 rfl (hW_w_3.fi tM_0 rfl) dX12_pushes_39 ?_
  refine tov (v := (fI w 0 35)) ((fI_cg (st_ne ew_3 (by decide))).trans ((fI_cg (st_ne ew_2 (by decide))).trans (fI_cg (st_ne ew_1 (by decide))))) ?_
  refine va_iast hx hb hK hP hD hS 19 0 (hW_w_3.a tM_19) rfl (in_I hf_0_32 (by decide)) dX12_pushes_42 (fun H locs hP hD hS => fr_w (hW_w_3.uA tM_19 (hW_w.fin tM_0 rfl : In 0 400 (fI w 0 35))) hP hD (fun w_4 ew_4 hW_w_4 hP hD => ?_))
  refine lv_aload_n hx hb dX12_pushes_43 rfl (lv_at hl 0 rfl) ?_
  refine lv_dup hx hb dX12_pushes_44 rfl ?_
  refine gt_X12 hx hb hts hown hK hP 0 (hW_w_4.o tM_0) 32 (by decide) wd_1433 rfl (hW_w_4.fi tM_0 rfl) dX12_pushes_45 ?_
  refine tov (v := (fI w 0 32)) ((fI_cg (st_ne ew_4 (by decide))).trans ((fI_cg (st_ne ew_3 (by decide))).trans ((fI_cg (st_ne ew_2 (by decide))).trans (fI_cg (st_ne ew_1 (by decide)))))) ?_
  refine lv_iconst (v := 1) hx hb dX12_pushes_48 (by decide) ?_
  refine lv_iadd hx hb dX12_pushes_49 ?_
  refine pt_X12 hx hb hts hown hK hP hD hS 0 (hW_w_4.o tM_0) 32 (by decide) wd_1433 rfl rfl (ty := .int) (v := .int ((fI w 0 32) + 1)) (by decide +kernel) rfl rfl (hW_w_4.ll tM_0 (Nat.le_of_ble_eq_true rfl)) dX12_pushes_50 (fun H locs hP hD hS => fr_w (hW_w_4.sI tM_0 rfl (In_w ((In_add hf_0_32 (In_lit (n := 1) (by decide) (by decide) : In 1 1 1) (by decide)) : In 1 20 ((fI w 0 32) + 1)) (by decide) : In 0 20 ((fI w 0 32) + 1))) hP hD (fun w_5 ew_5 hW_w_5 hP hD => ?_))
  exact hret _ _ _ _ _ hP hD hS dX12_pushes_53 ⟨hW_w_5, (((((Sm.rf.sa ew_1 (by decide)).sa ew_2 (by decide)).sa ew_3 (by decide)).sa ew_4 (by decide)).sf (hW_w_4.lt tM_0) ew_5 (by decide)), (In_of (fI_eq (hW_w_4.lt tM_0) ew_5 (hW_w_4.ll tM_0 (Nat.le_of_ble_eq_true rfl))) ((In_add hf_0_32 (In_lit (n := 1) (by decide) (by decide) : In 1 1 1) (by decide)) : In 1 20 ((fI w 0 32) + 1))), ⟨(by rw [(aF_cg (st_ne ew_5 (by decide))), (aF_cg (st_ne ew_4 (by decide))), (aF_cg (st_ne ew_3 (by decide))), (aF_cg (st_ne ew_2 (by decide))), aF_eq (hW_w.lt tM_16) ew_1]), (by rw [(aF_cg (st_ne ew_5 (by decide))), (aF_cg (st_ne ew_4 (by decide))), (aF_cg (st_ne ew_3 (by decide))), aF_eq (hW_w_1.lt tM_17) ew_2, (aF_cg (st_ne ew_1 (by decide)))]), (by rw [(aF_cg (st_ne ew_5 (by decide))), (aF_cg (st_ne ew_4 (by decide))), aF_eq (hW_w_2.lt tM_18) ew_3, (aF_cg (st_ne ew_2 (by decide))), (aF_cg (st_ne ew_1 (by decide)))]), (by rw [(aF_cg (st_ne ew_5 (by decide))), aF_eq (hW_w_3.lt tM_19) ew_4, (aF_cg (st_ne ew_3 (by decide))), (aF_cg (st_ne ew_2 (by decide))), (aF_cg (st_ne ew_1 (by decide)))]), (by have e0_32 : (fI w_5 0 32).toInt = (((fI w 0 32) + 1) : Int32).toInt := congrArg Int32.toInt (fI_eq (hW_w_4.lt tM_0) ew_5 (hW_w_4.ll tM_0 (Nat.le_of_ble_eq_true rfl))); have i0_32 := ((In_add hf_0_32 (In_lit (n := 1) (by decide) (by decide) : In 1 1 1) (by decide)) : In 1 20 ((fI w 0 32) + 1)); unfold In at i0_32; have t17 := t_add hf_0_32 (In_lit (n := 1) (by decide) (by decide) : In 1 1 1) (by decide); have z1 : (1 : Int32).toInt = 1 := (by decide); omega)⟩, ((fL_nej (hW_w_4.lt tM_0) ew_5 (by decide)).trans ((fL_cg (st_ne ew_4 (by decide))).trans ((fL_cg (st_ne ew_3 (by decide))).trans ((fL_cg (st_ne ew_2 (by decide))).trans (fL_cg (st_ne ew_1 (by decide)))))))⟩
set_option maxRecDepth 100000 in
set_option maxHeartbeats 8000000 in
theorem k_X12_opens (l : Launch) (D : va_G) (cI cJ cZ : ClassId) (q : Nat → Nat) (w : va_W) (hW_w : HT q (TM q cI cJ cZ) w) (p1 : Int32) (i_p1 : In 3 5 p1) (hf_0_1 : In 0 0 (fI w 0 1)) (hf_0_8 : In 0 0 (fI w 0 8)) (hf_0_32 : In 1 9 (fI w 0 32)) (gA : Nat) (hPW : PW (fI w 0 4).toInt gA w 0) (hSI : SI w) (hz : ∀ j, j + 1 = dpN w → aF w 18 j = 0) (hs : ¬ fI w 0 3 = 0) : Con_v l yX12_opens cX12_opens 2 none ({ frames := 2, cells := 0, slots := 0, locals := 47 }) D cI cJ cZ eW [.ref (q 0), .int p1] w (fun (w1 : va_W) => HT q (TM q cI cJ cZ) w1 ∧ Sm [0, 16, 17, 18, 19] [(0, 3), (0, 4), (0, 5), (0, 6), (0, 7), (0, 8), (0, 9), (0, 32), (0, 33)] w w1 ∧ In 1 20 (fI w1 0 32) ∧ In 1 8 (fI w1 0 33) ∧ ((fI w 0 5).toInt ≤ (fI w1 0 5).toInt) ∧ ((fI w1 0 8 = 0 → PW (fI w1 0 4).toInt gA w1 0 ∧ SI w1 ∧ Pg w w1))) := by
  refine eQ_v rfl (by decide) (Nat.le_of_ble_eq_true rfl) ⟨rfl, rfl⟩ ?_
  intro p e R s m args below meth c A Q hx hb hml hown hts hK hE hA hR hret hP hD hS ls hl
  have hown : s.vm.findClass RX12 = some m.cls := hown
  have hl : lv_has ls 2 [(0, .ref (q 0)), (1, .int p1)] := hl
  refine lv_aload_n hx hb dX12_opens_0 rfl (lv_at hl 0 rfl) ?_
  refine gt_X12 hx hb hts hown hK hP 0 (hW_w.o tM_0) 33 (by decide) wd_1434 rfl (hW_w.fi tM_0 rfl) dX12_opens_1 ?_
  refine lv_bipush (v := 8) hx hb dX12_opens_4 (by decide) ?_
  refine lv_icmp_ne (tgt := 18) hx hb dX12_opens_6 (by decide) (fun c_1 => ?_) (fun c_1 => ?_)
  · refine lv_aload_n hx hb dX12_opens_18 rfl (lv_at hl 0 rfl) ?_
    refine gt_X12 hx hb hts hown hK hP 0 (hW_w.o tM_0) 8 (by decide) wd_1409 rfl (hW_w.fi tM_0 rfl) dX12_opens_19 ?_
    refine lv_if_le (tgt := 26) hx hb dX12_opens_22 (by decide) (fun c_2 => ?_) (fun c_2 => ?_)
    · refine lv_aload_n hx hb dX12_opens_26 rfl (lv_at hl 0 rfl) ?_
      refine lv_dup hx hb dX12_opens_27 rfl ?_
      refine gt_X12 hx hb hts hown hK hP 0 (hW_w.o tM_0) 33 (by decide) wd_1434 rfl (hW_w.fi tM_0 rfl) dX12_opens_28 ?_
      refine lv_iconst (v := 1) hx hb dX12_opens_31 (by decide) ?_
      refine lv_iadd hx hb dX12_opens_32 ?_
      refine pt_X12 hx hb hts hown hK hP hD hS 0 (hW_w.o tM_0) 33 (by decide) wd_1434 rfl rfl (ty := .int) (v := .int ((fI w 0 33) + 1)) (by decide +kernel) rfl rfl (hW_w.ll tM_0 (Nat.le_of_ble_eq_true rfl)) dX12_opens_33 (fun H locs hP hD hS => fr_w (hW_w.sI tM_0 rfl (In_w ((In_add (R_ne_l (hW_w.fin tM_0 rfl : In 0 8 (fI w 0 33)) (In_lit (n := 8) (by decide) (by decide) : In 8 8 8) c_1 (by decide) : In 0 7 (fI w 0 33)) (In_lit (n := 1) (by decide) (by decide) : In 1 1 1) (by decide)) : In 1 8 ((fI w 0 33) + 1)) (by decide) : In 0 8 ((fI w 0 33) + 1))) hP hD (fun w_3 ew_3 hW_w_3 hP hD => ?_))
      refine lv_aload_n hx hb dX12_opens_36 rfl (lv_at hl 0 rfl) ?_
      refine kW_v ⟨rfl, rfl⟩ hP hD hS hA (rW_V (As := []) (rest := []) hx hb hml hown hts hK hE hP hD (k_X12_looks l D cI cJ cZ q w_3 hW_w_3 (In_of (fI_nej (hW_w.lt tM_0) ew_3 (by decide)) hf_0_1) _) ⟨⟨rfl, rfl⟩, rfl, rfl⟩ sv_X12_312 ⟨(Nat.le_trans (by decide) hR.1), (Nat.le_trans (by decide) hR.2)⟩ 0 12 (hW_w_3.o tM_0) rfl rfl rfl hl.1 rfl (Nat.le_of_ble_eq_true rfl) dX12_opens_37) (fun w_4 H locs hw_w_4 hP hD hS => ?_)
      obtain ⟨hW_w_4, hs_w_4, h_6, h_7, h_8⟩ := hw_w_4
      have f_h_6 : 1 ≤ ((fI w 0 8) : Int32).toInt → 1 ≤ (fI w_4 0 8).toInt := ft_cg h_6 (fI_nej (hW_w.lt tM_0) ew_3 (by decide))
      refine lv_aload_n hx hb dX12_opens_40 rfl (lv_at hl 0 rfl) ?_
      refine lv_iload_n hx hb dX12_opens_41 rfl (lv_at hl 1 rfl) ?_
      refine kW_v ⟨rfl, rfl⟩ hP hD hS hA (rW_V (As := [.int p1]) (rest := []) hx hb hml hown hts hK hE hP hD (k_X12_pushes l D cI cJ cZ q w_4 hW_w_4 p1 (In_w i_p1 (by decide) : In 0 5 p1) (In_of ((hs_w_4.2 0 1 (by decide) (by decide)).trans (fI_nej (hW_w.lt tM_0) ew_3 (by decide))) hf_0_1) (In_of ((hs_w_4.2 0 32 (by decide) (by decide)).trans (fI_nej (hW_w.lt tM_0) ew_3 (by decide))) (In_w hf_0_32 (by decide) : In 0 19 (fI w 0 32))) _) ⟨⟨rfl, rfl⟩, rfl, rfl⟩ sv_X12_377 ⟨(Nat.le_trans (by decide) hR.1), (Nat.le_trans (by decide) hR.2)⟩ 0 12 (hW_w_4.o tM_0) rfl rfl rfl hl.1 rfl (Nat.le_of_ble_eq_true rfl) dX12_opens_42) (fun w_9 H locs hw_w_9 hP hD hS => ?_)
      obtain ⟨hW_w_9, hs_w_9, h_11, h_12, h_13⟩ := hw_w_9
      exact hret _ _ _ _ _ hP hD hS dX12_opens_45 ⟨hW_w_9, (((Sm.rf.sf (hW_w.lt tM_0) ew_3 (by decide)).tr hs_w_4 (by decide)).tr hs_w_9 (by decide)), h_11, (In_of ((hs_w_9.2 0 33 (by decide) (by decide)).trans ((hs_w_4.2 0 33 (by decide) (by decide)).trans (fI_eq (hW_w.lt tM_0) ew_3 (hW_w.ll tM_0 (Nat.le_of_ble_eq_true rfl))))) ((In_add (R_ne_l (hW_w.fin tM_0 rfl : In 0 8 (fI w 0 33)) (In_lit (n := 8) (by decide) (by decide) : In 8 8 8) c_1 (by decide) : In 0 7 (fI w 0 33)) (In_lit (n := 1) (by decide) (by decide) : In 1 1 1) (by decide)) : In 1 8 ((fI w 0 33) + 1))), (E_tr (E_tr (E_eq (fI_nej (hW_w.lt tM_0) ew_3 (by decide))) (E_pg h_7)) (E_eq (hs_w_9.2 0 5 (by decide) (by decide)))), (fun _ => ⟨(PW_mono (PW_new hPW (by have d := hf_0_32; unfold In at d; unfold dpN; omega) hz (by have e := h_12.1; rw [show aF w_4 16 = aF w 16 from ((hs_w_4.hA (by decide)).trans (aF_cg (st_ne ew_3 (by decide)))), show (fI w_4 0 32).toNatClampNeg = dpN w from congrArg Int32.toNatClampNeg ((hs_w_4.2 0 32 (by decide) (by decide)).trans (fI_nej (hW_w.lt tM_0) ew_3 (by decide)))] at e; exact e) (by have e := h_12.2.1; rw [show aF w_4 17 = aF w 17 from ((hs_w_4.hA (by decide)).trans (aF_cg (st_ne ew_3 (by decide)))), show (fI w_4 0 32).toNatClampNeg = dpN w from congrArg Int32.toNatClampNeg ((hs_w_4.2 0 32 (by decide) (by decide)).trans (fI_nej (hW_w.lt tM_0) ew_3 (by decide)))] at e; exact e) (by have e := h_12.2.2.1; rw [show aF w_4 18 = aF w 18 from ((hs_w_4.hA (by decide)).trans (aF_cg (st_ne ew_3 (by decide)))), show (fI w_4 0 32).toNatClampNeg = dpN w from congrArg Int32.toNatClampNeg ((hs_w_4.2 0 32 (by decide) (by decide)).trans (fI_nej (hW_w.lt tM_0) ew_3 (by decide)))] at e; exact e) (by have e := h_12.2.2.2.1; rw [show aF w_4 19 = aF w 19 from ((hs_w_4.hA (by decide)).trans (aF_cg (st_ne ew_3 (by decide)))), show (fI w_4 0 32).toNatClampNeg = dpN w from congrArg Int32.toNatClampNeg ((hs_w_4.2 0 32 (by decide) (by decide)).trans (fI_nej (hW_w.lt tM_0) ew_3 (by decide))), show fI w_4 0 35 = fI w 0 35 from ((hs_w_4.2 0 35 (by decide) (by decide)).trans (fI_nej (hW_w.lt tM_0) ew_3 (by decide)))] at e; exact e) ((hs_w_9.hA (by decide)).trans ((hs_w_4.hA (by decide)).trans (aF_cg (st_ne ew_3 (by decide))))) ((hs_w_9.hA (by decide)).trans ((hs_w_4.hA (by decide)).trans (aF_cg (st_ne ew_3 (by decide))))) ((hs_w_9.hA (by decide)).trans ((hs_w_4.hA (by decide)).trans (aF_cg (st_ne ew_3 (by decide))))) ((hs_w_9.2 0 13 (by decide) (by decide)).trans ((hs_w_4.2 0 13 (by decide) (by decide)).trans (fI_nej (hW_w.lt tM_0) ew_3 (by decide)))) (by have g := h_12.2.2.2.2; have e32 : (fI w_4 0 32).toInt = (fI w 0 32).toInt := congrArg Int32.toInt ((hs_w_4.2 0 32 (by decide) (by decide)).trans (fI_nej (hW_w.lt tM_0) ew_3 (by decide))); have d := hf_0_32; unfold In at d; unfold dpN; omega) (by have g := h_12.2.2.2.2; have e32 : (fI w_4 0 32).toInt = (fI w 0 32).toInt := congrArg Int32.toInt ((hs_w_4.2 0 32 (by decide) (by decide)).trans (fI_nej (hW_w.lt tM_0) ew_3 (by decide))); have d := hf_0_32; unfold In at d; have e33 : (fI w_9 0 33).toInt = (((fI w 0 33) + 1) : Int32).toInt := congrArg Int32.toInt ((hs_w_9.2 0 33 (by decide) (by decide)).trans ((hs_w_4.2 0 33 (by decide) (by decide)).trans (fI_eq (hW_w.lt tM_0) ew_3 (hW_w.ll tM_0 (Nat.le_of_ble_eq_true rfl))))); have t17 := t_add (R_ne_l (hW_w.fin tM_0 rfl : In 0 8 (fI w 0 33)) (In_lit (n := 8) (by decide) (by decide) : In 8 8 8) c_1 (by decide) : In 0 7 (fI w 0 33)) (In_lit (n := 1) (by decide) (by decide) : In 1 1 1) (by decide); have z1 : (1 : Int32).toInt = 1 := (by decide); have h5 := hPW.2.2.2.2.1; omega) ((hs_w_9.2 0 35 (by decide) (by decide)).trans ((hs_w_4.2 0 35 (by decide) (by decide)).trans (fI_nej (hW_w.lt tM_0) ew_3 (by decide))))) (TQ_0 hSI (E_eq (fI_nej (hW_w.lt tM_0) ew_3 (by decide))) h_7 (hs_w_9.2 0 4 (by decide) (by decide)))), (SI_cg (hs_w_9.2 0 3 (by decide) (by decide)) (hs_w_9.2 0 4 (by decide) (by decide)) (hs_w_9.2 0 5 (by decide) (by decide)) h_13 (SI_lk h_7 h_8)), (QG_ (E_eq (fI_nej (hW_w.lt tM_0) ew_3 (by decide))) h_7 (hs_w_9.2 0 3 (by decide) (by decide)) (hs_w_9.2 0 4 (by decide) (by decide)) (hs_w_9.2 0 5 (by decide) (by decide)))⟩)⟩
    · exact (In_no (R_nle_l hf_0_8 (In_lit (n := 0) (by decide) (by decide) : In 0 0 0) c_2 (by decide) : In 1 0 (fI w 0 8)) (by decide)).elim
  · refine lv_aload_n hx hb dX12_opens_9 rfl (lv_at hl 0 rfl) ?_
    refine lv_iconst (v := 5) hx hb dX12_opens_10 (by decide) ?_
    refine lv_aload_n hx hb dX12_opens_11 rfl (lv_at hl 0 rfl) ?_
    refine gt_X12 hx hb hts hown hK hP 0 (hW_w.o tM_0) 4 (by decide) wd_1405 rfl (hW_w.fi tM_0 rfl) dX12_opens_12 ?_
    refine kW_v ⟨rfl, rfl⟩ hP hD hS hA (rW_V (As := [.int 5, .int (fI w 0 4)]) (rest := []) hx hb hml hown hts hK hE hP hD (k_X12_blame l D cI cJ cZ q w hW_w 5 (fI w 0 4) (In_lit (n := 5) (by decide) (by decide) : In 1 5 5) (hW_w.fin tM_0 rfl : In 0 1000 (fI w 0 4)) hf_0_1 _) ⟨⟨rfl, rfl⟩, rfl, rfl⟩ sv_X12_308 ⟨(Nat.le_trans (by decide) hR.1), (Nat.le_trans (by decide) hR.2)⟩ 0 12 (hW_w.o tM_0) rfl rfl rfl hl.1 rfl (Nat.le_of_ble_eq_true rfl) dX12_opens_15) (fun w_14 H locs hw_w_14 hP hD hS => ?_)
    obtain ⟨hW_w_14, hs_w_14, h_16, h_17, h_18⟩ := hw_w_14
    have f_h_17 : 1 ≤ ((fI w 0 8) : Int32).toInt → 1 ≤ (fI w_14 0 8).toInt := h_17
    refine lv_aload_n hx hb dX12_opens_18 rfl (lv_at hl 0 rfl) ?_
    refine gt_X12 hx hb hts hown hK hP 0 (hW_w_14.o tM_0) 8 (by decide) wd_1409 rfl (hW_w_14.fi tM_0 rfl) dX12_opens_19 ?_
    refine lv_if_le (tgt := 26) hx hb dX12_opens_22 (by decide) (fun c_19 => ?_) (fun c_19 => ?_)
    · exact (In_no (R_le_l h_16 (In_lit (n := 0) (by decide) (by decide) : In 0 0 0) c_19 (by decide) : In 1 0 (fI w_14 0 8)) (by decide)).elim
    · exact hret _ _ _ _ _ hP hD hS dX12_opens_25 ⟨hW_w_14, (Sm.rf.tr hs_w_14 (by decide)), (In_of (hs_w_14.2 0 32 (by decide) (by decide)) (In_w hf_0_32 (by decide) : In 1 20 (fI w 0 32))), (In_of (hs_w_14.2 0 33 (by decide) (by decide)) (In_w (R_eq_l (hW_w.fin tM_0 rfl : In 0 8 (fI w 0 33)) (In_lit (n := 8) (by decide) (by decide) : In 8 8 8) c_1 (by decide) : In 8 8 (fI w 0 33)) (by decide) : In 1 8 (fI w 0 33))), (E_eq (hs_w_14.2 0 5 (by decide) (by decide))), (fun q => absurd q (In_n0 h_16 (by decide)))⟩
