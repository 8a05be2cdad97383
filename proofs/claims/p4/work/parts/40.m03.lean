set_option maxRecDepth 100000 in
set_option maxHeartbeats 8000000 in
theorem k_X12_must (l : Launch) (D : va_G) (cI cJ cZ : ClassId) (q : Nat → Nat) (w : va_W) (hW_w : HT q (TM q cI cJ cZ) w) (p1 : Int32) (i_p1 : In 59 59 p1) (hf_0_1 : In 0 0 (fI w 0 1)) (hf_0_8 : In 0 0 (fI w 0 8)) : Con_v l yX12_must cX12_must 2 none ({ frames := 2, cells := 0, slots := 0, locals := 47 }) D cI cJ cZ eW [.ref (q 0), .int p1] w (fun (w1 : va_W) => HT q (TM q cI cJ cZ) w1 ∧ Sm [0] [(0, 3), (0, 4), (0, 5), (0, 6), (0, 7), (0, 8), (0, 9)] w w1 ∧ (1 ≤ (fI w 0 8).toInt → 1 ≤ (fI w1 0 8).toInt) ∧ (Pc w w1)) := by
  refine eQ_v rfl (by decide) (Nat.le_of_ble_eq_true rfl) ⟨rfl, rfl⟩ ?_
  intro p e R s m args below meth c A Q hx hb hml hown hts hK hE hA hR hret hP hD hS ls hl
  have hown : s.vm.findClass RX12 = some m.cls := hown
  have hl : lv_has ls 2 [(0, .ref (q 0)), (1, .int p1)] := hl
  refine lv_aload_n hx hb dX12_must_0 rfl (lv_at hl 0 rfl) ?_
  refine lv_iload_n hx hb dX12_must_1 rfl (lv_at hl 1 rfl) ?_
  refine kW_i ⟨rfl, rfl⟩ hP hD hS hA (rW_V (As := [.int p1]) (rest := []) hx hb hml hown hts hK hE hP hD (k_X12_isSign l D cI cJ cZ q w hW_w p1 (In_w i_p1 (by decide) : In 40 93 p1) hf_0_1 _) ⟨⟨rfl, rfl⟩, rfl, rfl⟩ sv_X12_315 ⟨(Nat.le_trans (by decide) hR.1), (Nat.le_trans (by decide) hR.2)⟩ 0 12 (hW_w.o tM_0) rfl rfl rfl hl.1 rfl (Nat.le_of_ble_eq_true rfl) dX12_must_2) (fun r_2 w_1 H locs hw_w_1 hP hD hS => ?_)
  obtain ⟨hW_w_1, hs_w_1, i_r_2, h_3⟩ := hw_w_1
  refine lv_if_ne (tgt := 17) hx hb dX12_must_5 (by decide) (fun c_4 => ?_) (fun c_4 => ?_)
  · refine lv_aload_n hx hb dX12_must_17 rfl (lv_at hl 0 rfl) ?_
    refine gt_X12 hx hb hts hown hK hP 0 (hW_w_1.o tM_0) 8 (by decide) wd_1409 rfl (hW_w_1.fi tM_0 rfl) dX12_must_18 ?_
    refine tov (v := (fI w 0 8)) (hs_w_1.gI (by decide)) ?_
    refine lv_if_ne (tgt := 28) hx hb dX12_must_21 (by decide) (fun c_5 => ?_) (fun c_5 => ?_)
    · exact (In_no (R_ne_l hf_0_8 (In_lit (n := 0) (by decide) (by decide) : In 0 0 0) c_5 (by decide) : In 1 (-1) (fI w 0 8)) (by decide)).elim
    · refine lv_aload_n hx hb dX12_must_24 rfl (lv_at hl 0 rfl) ?_
      refine kW_v ⟨rfl, rfl⟩ hP hD hS hA (rW_V (As := []) (rest := []) hx hb hml hown hts hK hE hP hD (k_X12_looks l D cI cJ cZ q w_1 hW_w_1 (In_of (hs_w_1.gI (by decide)) hf_0_1) _) ⟨⟨rfl, rfl⟩, rfl, rfl⟩ sv_X12_312 ⟨(Nat.le_trans (by decide) hR.1), (Nat.le_trans (by decide) hR.2)⟩ 0 12 (hW_w_1.o tM_0) rfl rfl rfl hl.1 rfl (Nat.le_of_ble_eq_true rfl) dX12_must_25) (fun w_6 H locs hw_w_6 hP hD hS => ?_)
      obtain ⟨hW_w_6, hs_w_6, h_8, h_9, h_10⟩ := hw_w_6
      have f_h_8 : 1 ≤ ((fI w 0 8) : Int32).toInt → 1 ≤ (fI w_6 0 8).toInt := ft_cg h_8 (hs_w_1.gI (by decide))
      exact hret _ _ _ _ _ hP hD hS dX12_must_28 ⟨hW_w_6, ((Sm.rf.tr hs_w_1 (by decide)).tr hs_w_6 (by decide)), (by intro hh; have i0_8 := (hW_w_6.fin tM_0 rfl : In 0 5 (fI w_6 0 8)); unfold In at i0_8; omega), (Pc_tl (E_eq (hs_w_1.gI (by decide))) (Pc_of h_9))⟩
  · refine lv_aload_n hx hb dX12_must_8 rfl (lv_at hl 0 rfl) ?_
    refine lv_iconst (v := 1) hx hb dX12_must_9 (by decide) ?_
    refine lv_aload_n hx hb dX12_must_10 rfl (lv_at hl 0 rfl) ?_
    refine gt_X12 hx hb hts hown hK hP 0 (hW_w_1.o tM_0) 4 (by decide) wd_1405 rfl (hW_w_1.fi tM_0 rfl) dX12_must_11 ?_
    refine tov (v := (fI w 0 4)) (hs_w_1.gI (by decide)) ?_
    refine kW_v ⟨rfl, rfl⟩ hP hD hS hA (rW_V (As := [.int 1, .int (fI w 0 4)]) (rest := []) hx hb hml hown hts hK hE hP hD (k_X12_blame l D cI cJ cZ q w_1 hW_w_1 1 (fI w 0 4) (In_lit (n := 1) (by decide) (by decide) : In 1 5 1) (hW_w.fin tM_0 rfl : In 0 1000 (fI w 0 4)) (In_of (hs_w_1.gI (by decide)) hf_0_1) _) ⟨⟨rfl, rfl⟩, rfl, rfl⟩ sv_X12_308 ⟨(Nat.le_trans (by decide) hR.1), (Nat.le_trans (by decide) hR.2)⟩ 0 12 (hW_w_1.o tM_0) rfl rfl rfl hl.1 rfl (Nat.le_of_ble_eq_true rfl) dX12_must_14) (fun w_11 H locs hw_w_11 hP hD hS => ?_)
    obtain ⟨hW_w_11, hs_w_11, h_13, h_14, h_15⟩ := hw_w_11
    have f_h_14 : 1 ≤ ((fI w 0 8) : Int32).toInt → 1 ≤ (fI w_11 0 8).toInt := ft_cg h_14 (hs_w_1.gI (by decide))
    refine lv_aload_n hx hb dX12_must_17 rfl (lv_at hl 0 rfl) ?_
    refine gt_X12 hx hb hts hown hK hP 0 (hW_w_11.o tM_0) 8 (by decide) wd_1409 rfl (hW_w_11.fi tM_0 rfl) dX12_must_18 ?_
    refine lv_if_ne (tgt := 28) hx hb dX12_must_21 (by decide) (fun c_16 => ?_) (fun c_16 => ?_)
    · exact hret _ _ _ _ _ hP hD hS dX12_must_28 ⟨hW_w_11, ((Sm.rf.tr hs_w_1 (by decide)).tr hs_w_11 (by decide)), (by intro hh; have i0_8 := h_13; unfold In at i0_8; omega), (Pc_flt (E_eq ((hs_w_11.2 0 5 (by decide) (by decide)).trans (hs_w_1.gI (by decide)))) (by intro q; have e : (fI w_11 0 8).toInt = (0 : Int32).toInt := congrArg Int32.toInt q; have z : (0 : Int32).toInt = 0 := (by decide); have i0_8 := h_13; unfold In at i0_8; omega))⟩
    · exact (In_no (R_eq_l h_13 (In_lit (n := 0) (by decide) (by decide) : In 0 0 0) c_16 (by decide) : In 1 0 (fI w_11 0 8)) (by decide)).elim
set_option maxRecDepth 100000 in
set_option maxHeartbeats 8000000 in
theorem k_X12_isTest (l : Launch) (D : va_G) (cI cJ cZ : ClassId) (q : Nat → Nat) (w : va_W) (hW_w : HT q (TM q cI cJ cZ) w) (p0 : Int32) (i_p0 : In 0 5 p0) (hf_0_1 : In 0 0 (fI w 0 1)) (hf_0_8 : In 0 0 (fI w 0 8)) (hf_0_32 : In 1 9 (fI w 0 32)) : Con_i l yX12_isTest cX12_isTest 1 (some .boolean) ({ frames := 0, cells := 0, slots := 0, locals := 0 }) D cI cJ cZ eW [.int p0] w (fun (r : Int32) (w1 : va_W) => HT q (TM q cI cJ cZ) w1 ∧ Sm [] [] w w1 ∧ In 0 1 r ∧ (¬ r = 0 → In 1 4 p0)) := by
  refine eQ_z rfl (by decide) (Nat.le_of_ble_eq_true rfl) ⟨rfl, rfl⟩ ?_
  intro p e R s m args below meth c A Q hx hb hml hown hts hK hE hA hR hret hP hD hS ls hl
  have hown : s.vm.findClass RX12 = some m.cls := hown
  have hl : lv_has ls 1 [(0, .int p0)] := hl
  refine lv_iload_n hx hb dX12_isTest_0 rfl (lv_at hl 0 rfl) ?_
  refine lv_iconst (v := 1) hx hb dX12_isTest_1 (by decide) ?_
  refine lv_icmp_eq (tgt := 10) hx hb dX12_isTest_2 (by decide) (fun c_1 => ?_) (fun c_1 => ?_)
  · refine lv_iconst (v := 1) hx hb dX12_isTest_10 (by decide) ?_
    refine lv_goto (tgt := 15) hx hb dX12_isTest_11 (by decide) ?_
    exact hret _ _ _ _ _ _ hP hD hS dX12_isTest_15 (In_lit (n := 1) (by decide) (by decide) : In 0 1 1) ⟨hW_w, Sm.rf, (In_lit (n := 1) (by decide) (by decide) : In 0 1 1), (fun h => (In_w (R_eq_l i_p0 (In_lit (n := 1) (by decide) (by decide) : In 1 1 1) c_1 (by decide) : In 1 1 p0) (by decide) : In 1 4 p0))⟩
  · refine lv_iload_n hx hb dX12_isTest_5 rfl (lv_at hl 0 rfl) ?_
    refine lv_iconst (v := 4) hx hb dX12_isTest_6 (by decide) ?_
    refine lv_icmp_ne (tgt := 14) hx hb dX12_isTest_7 (by decide) (fun c_2 => ?_) (fun c_2 => ?_)
    · refine lv_iconst (v := 0) hx hb dX12_isTest_14 (by decide) ?_
      exact hret _ _ _ _ _ _ hP hD hS dX12_isTest_15 (In_lit (n := 0) (by decide) (by decide) : In 0 1 0) ⟨hW_w, Sm.rf, (In_lit (n := 0) (by decide) (by decide) : In 0 1 0), (fun h => absurd rfl h)⟩
    · refine lv_iconst (v := 1) hx hb dX12_isTest_10 (by decide) ?_
      refine lv_goto (tgt := 15) hx hb dX12_isTest_11 (by decide) ?_
      exact hret _ _ _ _ _ _ hP hD hS dX12_isTest_15 (In_lit (n := 1) (by decide) (by decide) : In 0 1 1) ⟨hW_w, Sm.rf, (In_lit (n := 1) (by decide) (by decide) : In 0 1 1), (fun h => (In_w (R_eq_l i_p0 (In_lit (n := 4) (by decide) (by decide) : In 4 4 4) c_2 (by decide) : In 4 4 p0) (by decide) : In 1 4 p0))⟩
set_option maxRecDepth 100000 in
set_option maxHeartbeats 8000000 in
theorem k_X12_isWhich (l : Launch) (D : va_G) (cI cJ cZ : ClassId) (q : Nat → Nat) (w : va_W) (hW_w : HT q (TM q cI cJ cZ) w) (p0 : Int32) (i_p0 : In 0 5 p0) (hf_0_1 : In 0 0 (fI w 0 1)) (hf_0_8 : In 0 0 (fI w 0 8)) (hf_0_32 : In 1 9 (fI w 0 32)) : Con_i l yX12_isWhich cX12_isWhich 1 (some .boolean) ({ frames := 0, cells := 0, slots := 0, locals := 0 }) D cI cJ cZ eW [.int p0] w (fun (r : Int32) (w1 : va_W) => HT q (TM q cI cJ cZ) w1 ∧ Sm [] [] w w1 ∧ In 0 1 r ∧ (r = 0 → In 0 4 p0) ∧ (¬ r = 0 → In 2 5 p0)) := by
  refine eQ_z rfl (by decide) (Nat.le_of_ble_eq_true rfl) ⟨rfl, rfl⟩ ?_
  intro p e R s m args below meth c A Q hx hb hml hown hts hK hE hA hR hret hP hD hS ls hl
  have hown : s.vm.findClass RX12 = some m.cls := hown
  have hl : lv_has ls 1 [(0, .int p0)] := hl
  refine lv_iload_n hx hb dX12_isWhich_0 rfl (lv_at hl 0 rfl) ?_
  refine lv_iconst (v := 2) hx hb dX12_isWhich_1 (by decide) ?_
  refine lv_icmp_eq (tgt := 10) hx hb dX12_isWhich_2 (by decide) (fun c_1 => ?_) (fun c_1 => ?_)
  · refine lv_iconst (v := 1) hx hb dX12_isWhich_10 (by decide) ?_
    refine lv_goto (tgt := 15) hx hb dX12_isWhich_11 (by decide) ?_
    exact hret _ _ _ _ _ _ hP hD hS dX12_isWhich_15 (In_lit (n := 1) (by decide) (by decide) : In 0 1 1) ⟨hW_w, Sm.rf, (In_lit (n := 1) (by decide) (by decide) : In 0 1 1), (fun h => absurd h (by decide)), (fun h => (In_w (R_eq_l i_p0 (In_lit (n := 2) (by decide) (by decide) : In 2 2 2) c_1 (by decide) : In 2 2 p0) (by decide) : In 2 5 p0))⟩
  · refine lv_iload_n hx hb dX12_isWhich_5 rfl (lv_at hl 0 rfl) ?_
    refine lv_iconst (v := 5) hx hb dX12_isWhich_6 (by decide) ?_
    refine lv_icmp_ne (tgt := 14) hx hb dX12_isWhich_7 (by decide) (fun c_2 => ?_) (fun c_2 => ?_)
    · refine lv_iconst (v := 0) hx hb dX12_isWhich_14 (by decide) ?_
      exact hret _ _ _ _ _ _ hP hD hS dX12_isWhich_15 (In_lit (n := 0) (by decide) (by decide) : In 0 1 0) ⟨hW_w, Sm.rf, (In_lit (n := 0) (by decide) (by decide) : In 0 1 0), (fun h => (R_ne_l i_p0 (In_lit (n := 5) (by decide) (by decide) : In 5 5 5) c_2 (by decide) : In 0 4 p0)), (fun h => absurd rfl h)⟩
    · refine lv_iconst (v := 1) hx hb dX12_isWhich_10 (by decide) ?_
      refine lv_goto (tgt := 15) hx hb dX12_isWhich_11 (by decide) ?_
      exact hret _ _ _ _ _ _ hP hD hS dX12_isWhich_15 (In_lit (n := 1) (by decide) (by decide) : In 0 1 1) ⟨hW_w, Sm.rf, (In_lit (n := 1) (by decide) (by decide) : In 0 1 1), (fun h => absurd h (by decide)), (fun h => (In_w (R_eq_l i_p0 (In_lit (n := 5) (by decide) (by decide) : In 5 5 5) c_2 (by decide) : In 5 5 p0) (by decide) : In 2 5 p0))⟩
set_option maxRecDepth 100000 in
set_option maxHeartbeats 8000000 in
theorem k_X12_fault (l : Launch) (D : va_G) (cI cJ cZ : ClassId) (q : Nat → Nat) (w : va_W) (hW_w : HT q (TM q cI cJ cZ) w) (p1 : Int32) : Con_i l yX12_fault cX12_fault 2 (some .int) ({ frames := 0, cells := 0, slots := 0, locals := 0 }) D cI cJ cZ eW [.ref (q 0), .int p1] w (fun (r : Int32) (w1 : va_W) => HT q (TM q cI cJ cZ) w1 ∧ Sm [] [] w w1) := by
  refine eQ_i rfl (by decide) (Nat.le_of_ble_eq_true rfl) ⟨rfl, rfl⟩ ?_
  intro p e R s m args below meth c A Q hx hb hml hown hts hK hE hA hR hret hP hD hS ls hl
  have hown : s.vm.findClass RX12 = some m.cls := hown
  have hl : lv_has ls 2 [(0, .ref (q 0)), (1, .int p1)] := hl
  refine lv_iload_n hx hb dX12_fault_0 rfl (lv_at hl 1 rfl) ?_
  refine lv_if_ne (tgt := 11) hx hb dX12_fault_1 (by decide) (fun c_1 => ?_) (fun c_1 => ?_)
  · refine lv_iload_n hx hb dX12_fault_11 rfl (lv_at hl 1 rfl) ?_
    refine lv_iconst (v := 1) hx hb dX12_fault_12 (by decide) ?_
    refine lv_icmp_ne (tgt := 23) hx hb dX12_fault_13 (by decide) (fun c_2 => ?_) (fun c_2 => ?_)
    · refine lv_iconst (v := (-1)) hx hb dX12_fault_23 (by decide) ?_
      exact hret _ _ _ _ _ _ hP hD hS dX12_fault_24 ⟨hW_w, Sm.rf⟩
    · refine lv_aload_n hx hb dX12_fault_16 rfl (lv_at hl 0 rfl) ?_
      refine gt_X12 hx hb hts hown hK hP 0 (hW_w.o tM_0) 11 (by decide) wd_1412 rfl (hW_w.fi tM_0 rfl) dX12_fault_17 ?_
      refine lv_goto (tgt := 24) hx hb dX12_fault_20 (by decide) ?_
      exact hret _ _ _ _ _ _ hP hD hS dX12_fault_24 ⟨hW_w, Sm.rf⟩
  · refine lv_aload_n hx hb dX12_fault_4 rfl (lv_at hl 0 rfl) ?_
    refine gt_X12 hx hb hts hown hK hP 0 (hW_w.o tM_0) 10 (by decide) wd_1411 rfl (hW_w.fi tM_0 rfl) dX12_fault_5 ?_
    refine lv_goto (tgt := 24) hx hb dX12_fault_8 (by decide) ?_
    exact hret _ _ _ _ _ _ hP hD hS dX12_fault_24 ⟨hW_w, Sm.rf⟩
set_option maxRecDepth 100000 in
set_option maxHeartbeats 8000000 in
theorem k_X12_letter (l : Launch) (D : va_G) (cI cJ cZ : ClassId) (q : Nat → Nat) (w : va_W) (hW_w : HT q (TM q cI cJ cZ) w) (p0 : Int64) (p1 : Int32) : Con_i l yX12_letter cX12_letter 6 (some .int) ({ frames := 0, cells := 0, slots := 0, locals := 0 }) D cI cJ cZ eW [.long p0, .int p1] w (fun (r : Int32) (w1 : va_W) => HT q (TM q cI cJ cZ) w1 ∧ Sm [] [] w w1 ∧ ((r = -1 ∨ p1.toInt ≤ 7))) := by
  refine eQ_i rfl (by decide) (Nat.le_of_ble_eq_true rfl) ⟨rfl, rfl⟩ ?_
  intro p e R s m args below meth c A Q hx hb hml hown hts hK hE hA hR hret hP hD hS ls hl
  have hown : s.vm.findClass RX12 = some m.cls := hown
  have hl : lv_has ls 6 [(0, .long p0), (2, .int p1)] := hl
  have J5 : ∀ (N : Nat) (x5_3 : Int32) (x5_4 : Int64) (w5 : va_W) (H : Heap) (locs : List Loc) (ls : Array Slot), (8 - x5_3.toInt).toNat < N → HT q (TM q cI cJ cZ) w5 → Sm [] [] w w5 → (In 0 8 x5_3) → ((x5_4 : Int64).toUInt64.toNat * 256 ^ (x5_3 : Int32).toInt.toNat < 18446744073709551616) → va_P D vwCl w5 H → va_D A w5 → va_S A s.heap H locs → lv_has ls 6 [(0, .long p0), (2, .int p1), (3, .int x5_3), (4, .long x5_4)] → W p l e R s m args below meth c H locs 0 0 Q (F0 m 5 ls []) := by
    intro N
    induction N with
    | zero => intro x5_3 x5_4 w5 H locs ls hmu; exact absurd hmu (Nat.not_lt_zero _)
    | succ N ih5 =>
      intro x5_3 x5_4 w5 H locs ls hmu5 hW_w5 hM_w5 i_x5_3 hx_5 hP hD hS hl
      refine lv_lload hx hb dX12_letter_5 (lv_at hl 3 rfl) ?_
      refine lv_lconst (v := 0) hx hb dX12_letter_7 (by decide) ?_
      refine W.lcmp hx hb dX12_letter_8 ?_
      refine lv_topi (fun v_1 ev_1 => ?_)
      refine lv_if_eq (tgt := 25) hx hb dX12_letter_9 (by decide) (fun c_2 => ?_) (fun c_2 => ?_)
      · refine lv_iload_n hx hb dX12_letter_25 rfl (lv_at hl 1 rfl) ?_
        refine lv_if_lt (tgt := 34) hx hb dX12_letter_26 (by decide) (fun c_3 => ?_) (fun c_3 => ?_)
        · refine lv_iconst (v := (-1)) hx hb dX12_letter_34 (by decide) ?_
          refine lv_goto (tgt := 53) hx hb dX12_letter_35 (by decide) ?_
          exact hret _ _ _ _ _ _ hP hD hS dX12_letter_53 ⟨hW_w5, hM_w5, (Or.inl rfl)⟩
        · refine lv_iload_n hx hb dX12_letter_29 rfl (lv_at hl 1 rfl) ?_
          refine lv_iload_n hx hb dX12_letter_30 rfl (lv_at hl 2 rfl) ?_
          refine lv_icmp_lt (tgt := 38) hx hb dX12_letter_31 (by decide) (fun c_4 => ?_) (fun c_4 => ?_)
          · have lb_c_4 : (p1 : Int32).toInt < (x5_3 : Int32).toInt := q_lt.mp c_4
            refine lv_lload_n hx hb dX12_letter_38 rfl (lv_at hl 0 rfl) ?_
            refine lv_bipush (v := 8) hx hb dX12_letter_39 (by decide) ?_
            refine lv_iload_n hx hb dX12_letter_41 rfl (lv_at hl 2 rfl) ?_
            refine lv_iconst (v := 1) hx hb dX12_letter_42 (by decide) ?_
            refine lv_isub hx hb dX12_letter_43 ?_
            refine lv_iload_n hx hb dX12_letter_44 rfl (lv_at hl 1 rfl) ?_
            refine lv_isub hx hb dX12_letter_45 ?_
            refine lv_imul hx hb dX12_letter_46 ?_
            refine lv_lushr hx hb dX12_letter_47 rfl ?_
            refine lv_topl (fun v_5 ev_5 => ?_)
            refine lv_ldc2 hx hb hown (hts _ wd_1848) dX12_letter_48 ?_
            refine lv_land hx hb dX12_letter_51 ?_
            refine lv_topl (fun v_6 ev_6 => ?_)
            refine lv_l2i hx hb dX12_letter_52 rfl ?_
            refine lv_topi (fun v_7 ev_7 => ?_)
            exact hret _ _ _ _ _ _ hP hD hS dX12_letter_53 ⟨hW_w5, hM_w5, (Or.inr (by have q := (In_w (R_lt_r (R_nlt_l (In_any p1) (In_lit (n := 0) (by decide) (by decide) : In 0 0 0) c_3 (by decide) : In 0 2147483647 p1) i_x5_3 c_4 (by decide) : In 1 8 x5_3) (by decide) : In 0 8 x5_3); unfold In at q; omega))⟩
          · have lb_c_4 : ¬ (p1 : Int32).toInt < (x5_3 : Int32).toInt := fun h => c_4 (q_lt.mpr h)
            refine lv_iconst (v := (-1)) hx hb dX12_letter_34 (by decide) ?_
            refine lv_goto (tgt := 53) hx hb dX12_letter_35 (by decide) ?_
            exact hret _ _ _ _ _ _ hP hD hS dX12_letter_53 ⟨hW_w5, hM_w5, (Or.inl rfl)⟩
      · refine lv_iinc (v := (x5_3 + 1)) (lv' := [(3, .int (x5_3 + 1)), (0, .long p0), (2, .int p1), (4, .long x5_4)]) hx hb dX12_letter_12 hl (k := 2) rfl (rfl) (by decide) rfl (fun ls hl => ?_)
        refine lv_lload hx hb dX12_letter_15 (lv_at hl 3 rfl) ?_
        refine lv_bipush (v := 8) hx hb dX12_letter_17 (by decide) ?_
        refine lv_lushr hx hb dX12_letter_19 rfl ?_
        refine lv_topl (fun v_8 ev_8 => ?_)
        refine lv_lstore (lv' := [(4, .long v_8), (3, .int (x5_3 + 1)), (0, .long p0), (2, .int p1)]) hx hb dX12_letter_20 hl (by decide) rfl (fun ls hl => ?_)
        refine lv_goto (tgt := 5) hx hb dX12_letter_22 (by decide) ?_
        exact ih5 (x5_3 + 1) v_8 w5 _ _ ls (mu_inc hmu5 (let_lt i_x5_3 ev_1 c_2 hx_5 : In 0 7 x5_3) (In_lit (n := 1) (by decide) (by decide) : In 1 1 1) (by decide)) hW_w5 hM_w5 (In_w ((In_add (y := 1) (let_lt i_x5_3 ev_1 c_2 hx_5 : In 0 7 x5_3) (In_lit (n := 1) (by decide) (by decide) : In 1 1 1) (by decide)) : In 1 8 (x5_3 + 1)) (by decide) : In 0 8 (x5_3 + 1)) (let_st (let_lt i_x5_3 ev_1 c_2 hx_5 : In 0 7 x5_3) ev_8 hx_5) hP hD hS (lv_sub hl [2, 3, 1, 0] rfl)
  refine lv_iconst (v := 0) hx hb dX12_letter_0 (by decide) ?_
  refine lv_istore_n (lv' := [(3, .int 0), (0, .long p0), (2, .int p1)]) hx hb dX12_letter_1 rfl hl (by decide) rfl (fun ls hl => ?_)
  refine lv_lload_n hx hb dX12_letter_2 rfl (lv_at hl 1 rfl) ?_
  refine lv_lstore (lv' := [(4, .long p0), (3, .int 0), (0, .long p0), (2, .int p1)]) hx hb dX12_letter_3 hl (by decide) rfl (fun ls hl => ?_)
  exact J5 _ 0 p0 w _ _ ls (Nat.lt_succ_self _) hW_w Sm.rf (In_lit (n := 0) (by decide) (by decide) : In 0 8 0) (let_0 _) hP hD hS (lv_sub hl [2, 3, 1, 0] rfl)
set_option maxRecDepth 100000 in
set_option maxHeartbeats 8000000 in
theorem k_X12_name (l : Launch) (D : va_G) (cI cJ cZ : ClassId) (q : Nat → Nat) (w : va_W) (hW_w : HT q (TM q cI cJ cZ) w) (p1 : Int32) (p2 : Int32) (p3 : Int32) (i_p1 : In 0 1 p1) : Con_i l yX12_name cX12_name 4 (some .int) ({ frames := 1, cells := 0, slots := 0, locals := 25 }) D cI cJ cZ eW [.ref (q 0), .int p1, .int p2, .int p3] w (fun (r : Int32) (w1 : va_W) => HT q (TM q cI cJ cZ) w1 ∧ Sm [] [] w w1) := by
  refine eQ_i rfl (by decide) (Nat.le_of_ble_eq_true rfl) ⟨rfl, rfl⟩ ?_
  intro p e R s m args below meth c A Q hx hb hml hown hts hK hE hA hR hret hP hD hS ls hl
  have hown : s.vm.findClass RX12 = some m.cls := hown
  have hl : lv_has ls 4 [(0, .ref (q 0)), (1, .int p1), (2, .int p2), (3, .int p3)] := hl
  refine lv_iload_n hx hb dX12_name_0 rfl (lv_at hl 2 rfl) ?_
  refine lv_if_lt (tgt := 33) hx hb dX12_name_1 (by decide) (fun c_1 => ?_) (fun c_1 => ?_)
  · refine lv_iconst (v := (-1)) hx hb dX12_name_33 (by decide) ?_
    exact hret _ _ _ _ _ _ hP hD hS dX12_name_34 ⟨hW_w, Sm.rf⟩
  · refine lv_iload_n hx hb dX12_name_4 rfl (lv_at hl 2 rfl) ?_
    refine lv_iload_n hx hb dX12_name_5 rfl (lv_at hl 1 rfl) ?_
    refine lv_if_eq (tgt := 21) hx hb dX12_name_6 (by decide) (fun c_2 => ?_) (fun c_2 => ?_)
    · refine lv_aload_n hx hb dX12_name_21 rfl (lv_at hl 0 rfl) ?_
      refine gt_X12 hx hb hts hown hK hP 0 (hW_w.o tM_0) 14 (by decide) wd_1415 rfl (hW_w.fr tM_0 rfl) dX12_name_22 ?_
      refine lv_aload_n hx hb dX12_name_25 rfl (lv_at hl 0 rfl) ?_
      refine gt_X12 hx hb hts hown hK hP 0 (hW_w.o tM_0) 12 (by decide) wd_1413 rfl (hW_w.fi tM_0 rfl) dX12_name_26 ?_
      refine va_iald hx hb hK hP 2 0 (hW_w.a tM_2) rfl (in_I (hW_w.fin tM_0 rfl : In 0 1 (fI w 0 12)) (by decide)) dX12_name_29 ?_
      refine lv_topi (fun v_3 ev_3 => ?_)
      refine lv_icmp_lt (tgt := 35) hx hb dX12_name_30 (by decide) (fun c_4 => ?_) (fun c_4 => ?_)
      · refine lv_iload_n hx hb dX12_name_35 rfl (lv_at hl 1 rfl) ?_
        refine lv_if_eq (tgt := 56) hx hb dX12_name_36 (by decide) (fun c_5 => ?_) (fun c_5 => ?_)
        · refine lv_aload_n hx hb dX12_name_56 rfl (lv_at hl 0 rfl) ?_
          refine gt_X12 hx hb hts hown hK hP 0 (hW_w.o tM_0) 18 (by decide) wd_1419 rfl (hW_w.fr tM_0 rfl) dX12_name_57 ?_
          refine lv_bipush (v := 10) hx hb dX12_name_60 (by decide) ?_
          refine lv_aload_n hx hb dX12_name_62 rfl (lv_at hl 0 rfl) ?_
          refine gt_X12 hx hb hts hown hK hP 0 (hW_w.o tM_0) 12 (by decide) wd_1413 rfl (hW_w.fi tM_0 rfl) dX12_name_63 ?_
          refine lv_imul hx hb dX12_name_66 ?_
          refine lv_iload_n hx hb dX12_name_67 rfl (lv_at hl 2 rfl) ?_
          refine lv_iadd hx hb dX12_name_68 ?_
          refine va_lald hx hb hK hP 6 1 (hW_w.al tM_6) rfl (in_I ((In_add ((In_mull (hW_w.fin tM_0 rfl : In 0 1 (fI w 0 12)) (n := 10) (by decide) (by decide)) : In 0 10 (10 * (fI w 0 12))) (R_lt_l (R_nlt_l (In_any p2) (In_lit (n := 0) (by decide) (by decide) : In 0 0 0) c_1 (by decide) : In 0 2147483647 p2) (In_of ev_3 (hW_w.ap tM_2 _) : In 0 10 v_3) c_4 (by decide) : In 0 9 p2) (by decide)) : In 0 19 ((10 * (fI w 0 12)) + p2)) (by decide)) dX12_name_69 ?_
          refine lv_topl (fun v_6 ev_6 => ?_)
          refine lv_iload_n hx hb dX12_name_70 rfl (lv_at hl 3 rfl) ?_
          refine kW_i ⟨rfl, rfl⟩ hP hD hS hA (rW_S (As := [.long v_6, .int p3]) (rest := []) hx hb hml hown hts hK hE hP hD (k_X12_letter l D cI cJ cZ q w hW_w v_6 p3 _) ⟨⟨rfl, rfl⟩, rfl, rfl⟩ sv_X12_447 ⟨(Nat.le_trans (by decide) hR.1), (Nat.le_trans (by decide) hR.2)⟩ rfl hl.1 rfl (Nat.le_of_ble_eq_true rfl) dX12_name_71) (fun r_8 w_7 H locs hw_w_7 hP hD hS => ?_)
          obtain ⟨hW_w_7, hs_w_7, h_9⟩ := hw_w_7
          exact hret _ _ _ _ _ _ hP hD hS dX12_name_74 ⟨hW_w_7, (Sm.rf.tr hs_w_7 (by decide))⟩
        · exact (In_no (R_ne_l (R_eq_l i_p1 (In_lit (n := 0) (by decide) (by decide) : In 0 0 0) c_2 (by decide) : In 0 0 p1) (In_lit (n := 0) (by decide) (by decide) : In 0 0 0) c_5 (by decide) : In 1 (-1) p1) (by decide)).elim
      · refine lv_iconst (v := (-1)) hx hb dX12_name_33 (by decide) ?_
        exact hret _ _ _ _ _ _ hP hD hS dX12_name_34 ⟨hW_w, Sm.rf⟩
    · refine lv_aload_n hx hb dX12_name_9 rfl (lv_at hl 0 rfl) ?_
      refine gt_X12 hx hb hts hown hK hP 0 (hW_w.o tM_0) 15 (by decide) wd_1416 rfl (hW_w.fr tM_0 rfl) dX12_name_10 ?_
      refine lv_aload_n hx hb dX12_name_13 rfl (lv_at hl 0 rfl) ?_
      refine gt_X12 hx hb hts hown hK hP 0 (hW_w.o tM_0) 12 (by decide) wd_1413 rfl (hW_w.fi tM_0 rfl) dX12_name_14 ?_
      refine va_iald hx hb hK hP 3 0 (hW_w.a tM_3) rfl (in_I (hW_w.fin tM_0 rfl : In 0 1 (fI w 0 12)) (by decide)) dX12_name_17 ?_
      refine lv_topi (fun v_10 ev_10 => ?_)
      refine lv_goto (tgt := 30) hx hb dX12_name_18 (by decide) ?_
      refine lv_icmp_lt (tgt := 35) hx hb dX12_name_30 (by decide) (fun c_11 => ?_) (fun c_11 => ?_)
      · refine lv_iload_n hx hb dX12_name_35 rfl (lv_at hl 1 rfl) ?_
        refine lv_if_eq (tgt := 56) hx hb dX12_name_36 (by decide) (fun c_12 => ?_) (fun c_12 => ?_)
        · exact (In_no (R_eq_l (R_ne_l i_p1 (In_lit (n := 0) (by decide) (by decide) : In 0 0 0) c_2 (by decide) : In 1 1 p1) (In_lit (n := 0) (by decide) (by decide) : In 0 0 0) c_12 (by decide) : In 1 0 p1) (by decide)).elim
        · refine lv_aload_n hx hb dX12_name_39 rfl (lv_at hl 0 rfl) ?_
          refine gt_X12 hx hb hts hown hK hP 0 (hW_w.o tM_0) 19 (by decide) wd_1420 rfl (hW_w.fr tM_0 rfl) dX12_name_40 ?_
          refine lv_bipush (v := 8) hx hb dX12_name_43 (by decide) ?_
          refine lv_aload_n hx hb dX12_name_45 rfl (lv_at hl 0 rfl) ?_
          refine gt_X12 hx hb hts hown hK hP 0 (hW_w.o tM_0) 12 (by decide) wd_1413 rfl (hW_w.fi tM_0 rfl) dX12_name_46 ?_
          refine lv_imul hx hb dX12_name_49 ?_
          refine lv_iload_n hx hb dX12_name_50 rfl (lv_at hl 2 rfl) ?_
          refine lv_iadd hx hb dX12_name_51 ?_
          refine va_lald hx hb hK hP 7 1 (hW_w.al tM_7) rfl (in_I ((In_add ((In_mull (hW_w.fin tM_0 rfl : In 0 1 (fI w 0 12)) (n := 8) (by decide) (by decide)) : In 0 8 (8 * (fI w 0 12))) (R_lt_l (R_nlt_l (In_any p2) (In_lit (n := 0) (by decide) (by decide) : In 0 0 0) c_1 (by decide) : In 0 2147483647 p2) (In_of ev_10 (hW_w.ap tM_3 _) : In 0 8 v_10) c_11 (by decide) : In 0 7 p2) (by decide)) : In 0 15 ((8 * (fI w 0 12)) + p2)) (by decide)) dX12_name_52 ?_
          refine lv_topl (fun v_13 ev_13 => ?_)
          refine lv_goto (tgt := 70) hx hb dX12_name_53 (by decide) ?_
          refine lv_iload_n hx hb dX12_name_70 rfl (lv_at hl 3 rfl) ?_
          refine kW_i ⟨rfl, rfl⟩ hP hD hS hA (rW_S (As := [.long v_13, .int p3]) (rest := []) hx hb hml hown hts hK hE hP hD (k_X12_letter l D cI cJ cZ q w hW_w v_13 p3 _) ⟨⟨rfl, rfl⟩, rfl, rfl⟩ sv_X12_447 ⟨(Nat.le_trans (by decide) hR.1), (Nat.le_trans (by decide) hR.2)⟩ rfl hl.1 rfl (Nat.le_of_ble_eq_true rfl) dX12_name_71) (fun r_15 w_14 H locs hw_w_14 hP hD hS => ?_)
          obtain ⟨hW_w_14, hs_w_14, h_16⟩ := hw_w_14
          exact hret _ _ _ _ _ _ hP hD hS dX12_name_74 ⟨hW_w_14, (Sm.rf.tr hs_w_14 (by decide))⟩
      · refine lv_iconst (v := (-1)) hx hb dX12_name_33 (by decide) ?_
        exact hret _ _ _ _ _ _ hP hD hS dX12_name_34 ⟨hW_w, Sm.rf⟩
set_option maxRecDepth 100000 in
set_option maxHeartbeats 8000000 in
theorem k_X12_isKind (l : Launch) (D : va_G) (cI cJ cZ : ClassId) (q : Nat → Nat) (w : va_W) (hW_w : HT q (TM q cI cJ cZ) w) (p1 : Int32) : Con_i l yX12_isKind cX12_isKind 2 (some .boolean) ({ frames := 0, cells := 0, slots := 0, locals := 0 }) D cI cJ cZ eW [.ref (q 0), .int p1] w (fun (r : Int32) (w1 : va_W) => HT q (TM q cI cJ cZ) w1 ∧ Sm [] [] w w1 ∧ In 0 1 r ∧ (¬ r = 0 → In 0 9 p1)) := by
  refine eQ_z rfl (by decide) (Nat.le_of_ble_eq_true rfl) ⟨rfl, rfl⟩ ?_
  intro p e R s m args below meth c A Q hx hb hml hown hts hK hE hA hR hret hP hD hS ls hl
  have hown : s.vm.findClass RX12 = some m.cls := hown
  have hl : lv_has ls 2 [(0, .ref (q 0)), (1, .int p1)] := hl
  refine lv_iload_n hx hb dX12_isKind_0 rfl (lv_at hl 1 rfl) ?_
  refine lv_if_lt (tgt := 21) hx hb dX12_isKind_1 (by decide) (fun c_1 => ?_) (fun c_1 => ?_)
  · refine lv_iconst (v := 0) hx hb dX12_isKind_21 (by decide) ?_
    exact hret _ _ _ _ _ _ hP hD hS dX12_isKind_22 (In_lit (n := 0) (by decide) (by decide) : In 0 1 0) ⟨hW_w, Sm.rf, (In_lit (n := 0) (by decide) (by decide) : In 0 1 0), (fun h => absurd rfl h)⟩
  · refine lv_iload_n hx hb dX12_isKind_4 rfl (lv_at hl 1 rfl) ?_
    refine lv_aload_n hx hb dX12_isKind_5 rfl (lv_at hl 0 rfl) ?_
    refine gt_X12 hx hb hts hown hK hP 0 (hW_w.o tM_0) 14 (by decide) wd_1415 rfl (hW_w.fr tM_0 rfl) dX12_isKind_6 ?_
    refine lv_aload_n hx hb dX12_isKind_9 rfl (lv_at hl 0 rfl) ?_
    refine gt_X12 hx hb hts hown hK hP 0 (hW_w.o tM_0) 12 (by decide) wd_1413 rfl (hW_w.fi tM_0 rfl) dX12_isKind_10 ?_
    refine va_iald hx hb hK hP 2 0 (hW_w.a tM_2) rfl (in_I (hW_w.fin tM_0 rfl : In 0 1 (fI w 0 12)) (by decide)) dX12_isKind_13 ?_
    refine lv_topi (fun v_2 ev_2 => ?_)
    refine lv_icmp_ge (tgt := 21) hx hb dX12_isKind_14 (by decide) (fun c_3 => ?_) (fun c_3 => ?_)
    · refine lv_iconst (v := 0) hx hb dX12_isKind_21 (by decide) ?_
      exact hret _ _ _ _ _ _ hP hD hS dX12_isKind_22 (In_lit (n := 0) (by decide) (by decide) : In 0 1 0) ⟨hW_w, Sm.rf, (In_lit (n := 0) (by decide) (by decide) : In 0 1 0), (fun h => absurd rfl h)⟩
    · refine lv_iconst (v := 1) hx hb dX12_isKind_17 (by decide) ?_
      refine lv_goto (tgt := 22) hx hb dX12_isKind_18 (by decide) ?_
      exact hret _ _ _ _ _ _ hP hD hS dX12_isKind_22 (In_lit (n := 1) (by decide) (by decide) : In 0 1 1) ⟨hW_w, Sm.rf, (In_lit (n := 1) (by decide) (by decide) : In 0 1 1), (fun h => (R_nle_r (In_of ev_2 (hW_w.ap tM_2 _) : In 0 10 v_2) (R_nlt_l (In_any p1) (In_lit (n := 0) (by decide) (by decide) : In 0 0 0) c_1 (by decide) : In 0 2147483647 p1) c_3 (by decide) : In 0 9 p1))⟩
set_option maxRecDepth 100000 in
set_option maxHeartbeats 8000000 in
theorem k_X12_marked (l : Launch) (D : va_G) (cI cJ cZ : ClassId) (q : Nat → Nat) (w : va_W) (hW_w : HT q (TM q cI cJ cZ) w) (p1 : Int32) (p2 : Int32) : Con_i l yX12_marked cX12_marked 3 (some .int) ({ frames := 1, cells := 0, slots := 0, locals := 21 }) D cI cJ cZ eW [.ref (q 0), .int p1, .int p2] w (fun (r : Int32) (w1 : va_W) => HT q (TM q cI cJ cZ) w1 ∧ Sm [] [] w w1 ∧ In (-1) 1 r) := by
  refine eQ_i rfl (by decide) (Nat.le_of_ble_eq_true rfl) ⟨rfl, rfl⟩ ?_
  intro p e R s m args below meth c A Q hx hb hml hown hts hK hE hA hR hret hP hD hS ls hl
  have hown : s.vm.findClass RX12 = some m.cls := hown
  have hl : lv_has ls 3 [(0, .ref (q 0)), (1, .int p1), (2, .int p2)] := hl
  refine lv_aload_n hx hb dX12_marked_0 rfl (lv_at hl 0 rfl) ?_
  refine lv_iload_n hx hb dX12_marked_1 rfl (lv_at hl 1 rfl) ?_
  refine kW_i ⟨rfl, rfl⟩ hP hD hS hA (rW_V (As := [.int p1]) (rest := []) hx hb hml hown hts hK hE hP hD (k_X12_isKind l D cI cJ cZ q w hW_w p1 _) ⟨⟨rfl, rfl⟩, rfl, rfl⟩ sv_X12_450 ⟨(Nat.le_trans (by decide) hR.1), (Nat.le_trans (by decide) hR.2)⟩ 0 12 (hW_w.o tM_0) rfl rfl rfl hl.1 rfl (Nat.le_of_ble_eq_true rfl) dX12_marked_2) (fun r_2 w_1 H locs hw_w_1 hP hD hS => ?_)
  obtain ⟨hW_w_1, hs_w_1, i_r_2, h_3⟩ := hw_w_1
  refine lv_if_eq (tgt := 25) hx hb dX12_marked_5 (by decide) (fun c_4 => ?_) (fun c_4 => ?_)
  · refine lv_iconst (v := (-1)) hx hb dX12_marked_25 (by decide) ?_
    refine lv_goto (tgt := 47) hx hb dX12_marked_26 (by decide) ?_
    exact hret _ _ _ _ _ _ hP hD hS dX12_marked_47 ⟨hW_w_1, (Sm.rf.tr hs_w_1 (by decide)), (In_lit (n := (-1)) (by decide) (by decide) : In (-1) 1 (-1))⟩
  · refine lv_iload_n hx hb dX12_marked_8 rfl (lv_at hl 2 rfl) ?_
    refine lv_if_lt (tgt := 25) hx hb dX12_marked_9 (by decide) (fun c_5 => ?_) (fun c_5 => ?_)
    · refine lv_iconst (v := (-1)) hx hb dX12_marked_25 (by decide) ?_
      refine lv_goto (tgt := 47) hx hb dX12_marked_26 (by decide) ?_
      exact hret _ _ _ _ _ _ hP hD hS dX12_marked_47 ⟨hW_w_1, (Sm.rf.tr hs_w_1 (by decide)), (In_lit (n := (-1)) (by decide) (by decide) : In (-1) 1 (-1))⟩
    · refine lv_iload_n hx hb dX12_marked_12 rfl (lv_at hl 2 rfl) ?_
      refine lv_aload_n hx hb dX12_marked_13 rfl (lv_at hl 0 rfl) ?_
      refine gt_X12 hx hb hts hown hK hP 0 (hW_w_1.o tM_0) 15 (by decide) wd_1416 rfl (hW_w_1.fr tM_0 rfl) dX12_marked_14 ?_
      refine lv_aload_n hx hb dX12_marked_17 rfl (lv_at hl 0 rfl) ?_
      refine gt_X12 hx hb hts hown hK hP 0 (hW_w_1.o tM_0) 12 (by decide) wd_1413 rfl (hW_w_1.fi tM_0 rfl) dX12_marked_18 ?_
      refine tov (v := (fI w 0 12)) (hs_w_1.gI (by decide)) ?_
      refine va_iald hx hb hK hP 3 0 (hW_w_1.a tM_3) rfl (in_I (hW_w.fin tM_0 rfl : In 0 1 (fI w 0 12)) (by decide)) dX12_marked_21 ?_
      refine lv_topi (fun v_6 ev_6 => ?_)
      refine lv_icmp_lt (tgt := 29) hx hb dX12_marked_22 (by decide) (fun c_7 => ?_) (fun c_7 => ?_)
      · refine lv_aload_n hx hb dX12_marked_29 rfl (lv_at hl 0 rfl) ?_
        refine gt_X12 hx hb hts hown hK hP 0 (hW_w_1.o tM_0) 23 (by decide) wd_1424 rfl (hW_w_1.fr tM_0 rfl) dX12_marked_30 ?_
        refine lv_bipush (v := 10) hx hb dX12_marked_33 (by decide) ?_
        refine lv_aload_n hx hb dX12_marked_35 rfl (lv_at hl 0 rfl) ?_
        refine gt_X12 hx hb hts hown hK hP 0 (hW_w_1.o tM_0) 12 (by decide) wd_1413 rfl (hW_w_1.fi tM_0 rfl) dX12_marked_36 ?_
        refine tov (v := (fI w 0 12)) (hs_w_1.gI (by decide)) ?_
        refine lv_imul hx hb dX12_marked_39 ?_
        refine lv_iload_n hx hb dX12_marked_40 rfl (lv_at hl 1 rfl) ?_
        refine lv_iadd hx hb dX12_marked_41 ?_
        refine va_iald hx hb hK hP 11 0 (hW_w_1.a tM_11) rfl (in_I ((In_add ((In_mull (hW_w.fin tM_0 rfl : In 0 1 (fI w 0 12)) (n := 10) (by decide) (by decide)) : In 0 10 (10 * (fI w 0 12))) (h_3 c_4) (by decide)) : In 0 19 ((10 * (fI w 0 12)) + p1)) (by decide)) dX12_marked_42 ?_
        refine lv_topi (fun v_8 ev_8 => ?_)
        refine lv_iload_n hx hb dX12_marked_43 rfl (lv_at hl 2 rfl) ?_
        refine lv_ishr hx hb dX12_marked_44 ?_
        refine lv_topi (fun v_9 ev_9 => ?_)
        refine lv_iconst (v := 1) hx hb dX12_marked_45 (by decide) ?_
        refine lv_iand hx hb dX12_marked_46 ?_
        exact hret _ _ _ _ _ _ hP hD hS dX12_marked_47 ⟨hW_w_1, (Sm.rf.tr hs_w_1 (by decide)), (In_w ((In_and (n := 1) (by decide) (by decide)) : In 0 1 (v_9 &&& 1)) (by decide) : In (-1) 1 (v_9 &&& 1))⟩
      · refine lv_iconst (v := (-1)) hx hb dX12_marked_25 (by decide) ?_
        refine lv_goto (tgt := 47) hx hb dX12_marked_26 (by decide) ?_
        exact hret _ _ _ _ _ _ hP hD hS dX12_marked_47 ⟨hW_w_1, (Sm.rf.tr hs_w_1 (by decide)), (In_lit (n := (-1)) (by decide) (by decide) : In (-1) 1 (-1))⟩
