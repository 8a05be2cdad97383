set_option maxRecDepth 100000 in
set_option maxHeartbeats 4000000 in
theorem c_X11_within (l : Launch) (D : va_G) (cI cJ cZ : ClassId) (p0 : Int32) (p1 : Int32) (p2 : Int32) : Con_i l yX11_within cX11_within 3 (some .boolean) ({ frames := 0, cells := 0, slots := 0, locals := 0 }) D cI cJ cZ eT [.int p0, .int p1, .int p2] [] (fun (r : Int32) (w : va_W) => w = [] ∧ r = (wi_ p0 p1 p2)) := by
  refine ent_i (by decide) (Nat.le_of_ble_eq_true rfl) ?_
  intro p e s m below meth c A hx hb hml hown hts hr hlk hnm hK hE hA hP hD hS ls hl
  have hown : s.vm.findClass RX11 = some m.cls := hown
  have hl : lv_has ls 3 [(0, .int p0), (1, .int p1), (2, .int p2)] := hl
  refine lv_iload_n hx hb dX11_within_0 rfl (lv_at hl 0 rfl) ?_
  refine lv_iload_n hx hb dX11_within_1 rfl (lv_at hl 1 rfl) ?_
  refine lv_icmp_lt (tgt := 14) hx hb dX11_within_2 (by decide) (fun c_1 => ?_) (fun c_1 => ?_)
  · refine lv_iconst (v := 0) hx hb dX11_within_14 (by decide) ?_
    exact fin_z hx hb hr hlk hK hP hD hS dX11_within_15 rfl (⟨rfl, wi_a c_1⟩)
  · refine lv_iload_n hx hb dX11_within_5 rfl (lv_at hl 0 rfl) ?_
    refine lv_iload_n hx hb dX11_within_6 rfl (lv_at hl 2 rfl) ?_
    refine lv_icmp_gt (tgt := 14) hx hb dX11_within_7 (by decide) (fun c_2 => ?_) (fun c_2 => ?_)
    · refine lv_iconst (v := 0) hx hb dX11_within_14 (by decide) ?_
      exact fin_z hx hb hr hlk hK hP hD hS dX11_within_15 rfl (⟨rfl, wi_b c_2⟩)
    · refine lv_iconst (v := 1) hx hb dX11_within_10 (by decide) ?_
      refine lv_goto (tgt := 15) hx hb dX11_within_11 (by decide) ?_
      exact fin_z hx hb hr hlk hK hP hD hS dX11_within_15 rfl (⟨rfl, wi_1 c_1 c_2⟩)
set_option maxRecDepth 100000 in
set_option maxHeartbeats 4000000 in
theorem c_X11_isDay (l : Launch) (D : va_G) (cI cJ cZ : ClassId) (p0 : Int32) : Con_i l yX11_isDay cX11_isDay 1 (some .boolean) ({ frames := 1, cells := 0, slots := 0, locals := 22 }) D cI cJ cZ eT [.int p0] [] (fun (r : Int32) (w : va_W) => w = [] ∧ r = (wi_ p0 1 24)) := by
  refine ent_i (by decide) (Nat.le_of_ble_eq_true rfl) ?_
  intro p e s m below meth c A hx hb hml hown hts hr hlk hnm hK hE hA hP hD hS ls hl
  have hown : s.vm.findClass RX11 = some m.cls := hown
  have hl : lv_has ls 1 [(0, .int p0)] := hl
  refine lv_iload_n hx hb dX11_isDay_0 rfl (lv_at hl 0 rfl) ?_
  refine lv_iconst (v := 1) hx hb dX11_isDay_1 (by decide) ?_
  refine lv_bipush (v := 24) hx hb dX11_isDay_2 (by decide) ?_
  refine cl_i (wr := []) (rn_S (As := [.int p0, .int 1, .int 24]) (rest := []) hx hb hml hown hts (c_X11_within l D cI cJ cZ p0 1 24 _) ⟨rfl, rfl⟩ sv_X11_168 ⟨(Nat.le_of_ble_eq_true rfl), (Nat.le_of_ble_eq_true rfl)⟩ ⟨(Nat.le_of_ble_eq_true rfl), (Nat.le_of_ble_eq_true rfl)⟩ (fun _ _ _ _ h => h) (fun _ _ _ => trivial) hK hP hD [] rfl rfl rfl hl.1 rfl (Nat.le_of_ble_eq_true rfl) dX11_isDay_4) hP hD hS hA [] [] rfl rfl rfl (by decide) (fun r_3 w_2 H locs hw_1 hP hD hS => ?_)
  obtain ⟨rfl, hr_4⟩ := hw_1
  have hP : va_P D vwCl [] H := hP
  have hD : va_D A [] := hD
  refine tov (v := (wi_ p0 1 24)) hr_4 ?_
  exact fin_z hx hb hr hlk hK hP hD hS dX11_isDay_7 (wi_nar _ _ _) (⟨rfl, rfl⟩)
set_option maxRecDepth 100000 in
set_option maxHeartbeats 4000000 in
theorem c_X12_is (l : Launch) (D : va_G) (cI cJ cZ : ClassId) (p0 : Int32) (p1 : Int32) (p2 : Int32) : Con_i l yX12_is cX12_is 3 (some .boolean) ({ frames := 0, cells := 0, slots := 0, locals := 0 }) D cI cJ cZ eT [.int p0, .int p1, .int p2] [] (fun (r : Int32) (w : va_W) => w = [] ∧ r = (wi_ p0 p1 p2)) := by
  refine ent_i (by decide) (Nat.le_of_ble_eq_true rfl) ?_
  intro p e s m below meth c A hx hb hml hown hts hr hlk hnm hK hE hA hP hD hS ls hl
  have hown : s.vm.findClass RX12 = some m.cls := hown
  have hl : lv_has ls 3 [(0, .int p0), (1, .int p1), (2, .int p2)] := hl
  refine lv_iload_n hx hb dX12_is_0 rfl (lv_at hl 0 rfl) ?_
  refine lv_iload_n hx hb dX12_is_1 rfl (lv_at hl 1 rfl) ?_
  refine lv_icmp_lt (tgt := 14) hx hb dX12_is_2 (by decide) (fun c_1 => ?_) (fun c_1 => ?_)
  · refine lv_iconst (v := 0) hx hb dX12_is_14 (by decide) ?_
    exact fin_z hx hb hr hlk hK hP hD hS dX12_is_15 rfl (⟨rfl, wi_a c_1⟩)
  · refine lv_iload_n hx hb dX12_is_5 rfl (lv_at hl 0 rfl) ?_
    refine lv_iload_n hx hb dX12_is_6 rfl (lv_at hl 2 rfl) ?_
    refine lv_icmp_gt (tgt := 14) hx hb dX12_is_7 (by decide) (fun c_2 => ?_) (fun c_2 => ?_)
    · refine lv_iconst (v := 0) hx hb dX12_is_14 (by decide) ?_
      exact fin_z hx hb hr hlk hK hP hD hS dX12_is_15 rfl (⟨rfl, wi_b c_2⟩)
    · refine lv_iconst (v := 1) hx hb dX12_is_10 (by decide) ?_
      refine lv_goto (tgt := 15) hx hb dX12_is_11 (by decide) ?_
      exact fin_z hx hb hr hlk hK hP hD hS dX12_is_15 rfl (⟨rfl, wi_1 c_1 c_2⟩)
set_option maxRecDepth 100000 in
set_option maxHeartbeats 4000000 in
theorem c_X10_put (l : Launch) (D : va_G) (cI cJ cZ : ClassId) (h0 q1 : Nat) (fs0 : List Value) (f1 : Nat → Int32) (p0 : Int32) (n : Nat) (hl_fs0 : fs0.length = 8) (hf_fs0_0 : fs0[0]? = some (.ref q1)) (hf_fs0_1 : fs0[1]? = some (.int (nI n))) (hn : n + 4 ≤ 1000) : Con_v l yX10_put cX10_put 3 none ({ frames := 0, cells := 0, slots := 0, locals := 0 }) D cI cJ cZ eT [.ref h0, .int p0] [(h0, .inr (10, fs0)), (q1, .inl (cI, 1000, .inl f1))] (fun w => ∃ (fs1 : List Value) (f2 : Nat → Int32), w = [(h0, .inr (10, fs1)), (q1, .inl (cI, 1000, .inl f2))] ∧ fs1.length = 8 ∧ fs1[0]? = some (.ref q1) ∧ fs1[1]? = some (.int (nI (n + 4)))) := by
  refine ent_v (by decide) (Nat.le_of_ble_eq_true rfl) ?_
  intro p e s m below meth c A hx hb hml hown hts hr hlk hnm hK hE hA hP hD hS ls hl
  have hown : s.vm.findClass RX10 = some m.cls := hown
  have hl : lv_has ls 3 [(0, .ref h0), (1, .int p0)] := hl
  refine lv_bipush (v := 24) hx hb dX10_put_0 (by decide) ?_
  refine lv_istore_n (lv' := [(2, .int 24), (0, .ref h0), (1, .int p0)]) hx hb dX10_put_2 rfl hl (by decide) rfl (fun ls hl => ?_)
  refine lv_iload_n hx hb dX10_put_3 rfl (lv_at hl 0 rfl) ?_
  refine lv_if_lt (tgt := 49) hx hb dX10_put_4 (by decide) (fun h => absurd h (by decide)) (fun _ => ?_)
  refine lv_aload_n hx hb dX10_put_7 rfl (lv_at hl 1 rfl) ?_
  refine gt_X10 hx hb hts hown hK hP 0 rfl 1 (by decide) wd_192 rfl hf_fs0_1 dX10_put_8 ?_
  refine lv_sipush (v := 1000) hx hb dX10_put_11 (by decide) ?_
  refine lv_icmp_ge (tgt := 43) hx hb dX10_put_14 (by decide) (fun h => absurd h (nI_ge (b := 1000) (by omega) (by decide))) (fun _ => ?_)
  refine lv_aload_n hx hb dX10_put_17 rfl (lv_at hl 1 rfl) ?_
  refine gt_X10 hx hb hts hown hK hP 0 rfl 0 (by decide) wd_190 rfl hf_fs0_0 dX10_put_18 ?_
  refine lv_aload_n hx hb dX10_put_21 rfl (lv_at hl 1 rfl) ?_
  refine gt_X10 hx hb hts hown hK hP 0 rfl 1 (by decide) wd_192 rfl hf_fs0_1 dX10_put_22 ?_
  refine lv_iload_n hx hb dX10_put_25 rfl (lv_at hl 2 rfl) ?_
  refine lv_iload_n hx hb dX10_put_26 rfl (lv_at hl 0 rfl) ?_
  obtain ⟨v_1, ev_1⟩ : ∃ z : Int32, (p0.toUInt32 >>> ((24 : Int32).toUInt32 &&& Int32.toUInt32 31)).toInt32 = z := ⟨_, rfl⟩
  refine lv_iushr (v := v_1) hx hb dX10_put_27 ev_1 ?_
  refine lv_sipush (v := 255) hx hb dX10_put_28 (by decide) ?_
  refine lv_iand hx hb dX10_put_31 ?_
  refine va_iast hx hb hK hP hD hS 1 0 rfl rfl (vp_in_nI (n := n) (by omega) (by decide)) dX10_put_32 (fun H locs hP hD hS => ?_)
  obtain ⟨f_2, ef_2⟩ : ∃ z, z = upd f1 ((nI n) : Int32).toNatClampNeg (v_1 &&& 255) := ⟨_, rfl⟩
  rw [← ef_2] at hP hD
  have ef_2 := n_up (a := n) (by omega) ef_2
  have hP : va_P D vwCl [(h0, .inr (10, fs0)), (q1, .inl (cI, 1000, .inl f_2))] H := hP
  have hD : va_D A [(h0, .inr (10, fs0)), (q1, .inl (cI, 1000, .inl f_2))] := hD
  refine lv_aload_n hx hb dX10_put_33 rfl (lv_at hl 1 rfl) ?_
  refine lv_dup hx hb dX10_put_34 rfl ?_
  refine gt_X10 hx hb hts hown hK hP 0 rfl 1 (by decide) wd_192 rfl hf_fs0_1 dX10_put_35 ?_
  refine lv_iconst (v := 1) hx hb dX10_put_38 (by decide) ?_
  refine lv_iadd hx hb dX10_put_39 ?_
  refine tov (v := (nI (n + 1))) (nI_add _ _) ?_
  refine pt_X10 hx hb hts hown hK hP hD hS 0 rfl 1 (by decide) wd_192 rfl rfl (ty := .int) (v := .int (nI (n + 1))) (by decide +kernel) rfl rfl (ln_lt hl_fs0 (by decide)) dX10_put_40 (fun H locs hP hD hS => ?_)
  have hP : va_P D vwCl [(h0, .inr (10, (fs0.set 1 (.int (nI (n + 1)))))), (q1, .inl (cI, 1000, .inl f_2))] H := hP
  have hD : va_D A [(h0, .inr (10, (fs0.set 1 (.int (nI (n + 1)))))), (q1, .inl (cI, 1000, .inl f_2))] := hD
  refine lv_iinc (v := 16) (lv' := [(2, .int 16), (0, .ref h0), (1, .int p0)]) hx hb dX10_put_43 hl (k := 0) rfl (by decide) (by decide) rfl (fun ls hl => ?_)
  refine lv_goto (tgt := 3) hx hb dX10_put_46 (by decide) ?_
  refine lv_iload_n hx hb dX10_put_3 rfl (lv_at hl 0 rfl) ?_
  refine lv_if_lt (tgt := 49) hx hb dX10_put_4 (by decide) (fun h => absurd h (by decide)) (fun _ => ?_)
  refine lv_aload_n hx hb dX10_put_7 rfl (lv_at hl 1 rfl) ?_
  refine gt_X10 hx hb hts hown hK hP 0 rfl 1 (by decide) wd_192 rfl (gs_eq (ln_lt hl_fs0 (by decide))) dX10_put_8 ?_
  refine lv_sipush (v := 1000) hx hb dX10_put_11 (by decide) ?_
  refine lv_icmp_ge (tgt := 43) hx hb dX10_put_14 (by decide) (fun h => absurd h (nI_ge (b := 1000) (by omega) (by decide))) (fun _ => ?_)
  refine lv_aload_n hx hb dX10_put_17 rfl (lv_at hl 1 rfl) ?_
  refine gt_X10 hx hb hts hown hK hP 0 rfl 0 (by decide) wd_190 rfl (gs_ne (by decide) hf_fs0_0) dX10_put_18 ?_
  refine lv_aload_n hx hb dX10_put_21 rfl (lv_at hl 1 rfl) ?_
  refine gt_X10 hx hb hts hown hK hP 0 rfl 1 (by decide) wd_192 rfl (gs_eq (ln_lt hl_fs0 (by decide))) dX10_put_22 ?_
  refine lv_iload_n hx hb dX10_put_25 rfl (lv_at hl 2 rfl) ?_
  refine lv_iload_n hx hb dX10_put_26 rfl (lv_at hl 0 rfl) ?_
  obtain ⟨v_3, ev_3⟩ : ∃ z : Int32, (p0.toUInt32 >>> ((16 : Int32).toUInt32 &&& Int32.toUInt32 31)).toInt32 = z := ⟨_, rfl⟩
  refine lv_iushr (v := v_3) hx hb dX10_put_27 ev_3 ?_
  refine lv_sipush (v := 255) hx hb dX10_put_28 (by decide) ?_
  refine lv_iand hx hb dX10_put_31 ?_
  refine va_iast hx hb hK hP hD hS 1 0 rfl rfl (vp_in_nI (n := (n + 1)) (by omega) (by decide)) dX10_put_32 (fun H locs hP hD hS => ?_)
  obtain ⟨f_4, ef_4⟩ : ∃ z, z = upd f_2 ((nI (n + 1)) : Int32).toNatClampNeg (v_3 &&& 255) := ⟨_, rfl⟩
  rw [← ef_4] at hP hD
  have ef_4 := n_up (a := (n + 1)) (by omega) ef_4
  have hP : va_P D vwCl [(h0, .inr (10, (fs0.set 1 (.int (nI (n + 1)))))), (q1, .inl (cI, 1000, .inl f_4))] H := hP
  have hD : va_D A [(h0, .inr (10, (fs0.set 1 (.int (nI (n + 1)))))), (q1, .inl (cI, 1000, .inl f_4))] := hD
  refine lv_aload_n hx hb dX10_put_33 rfl (lv_at hl 1 rfl) ?_
  refine lv_dup hx hb dX10_put_34 rfl ?_
  refine gt_X10 hx hb hts hown hK hP 0 rfl 1 (by decide) wd_192 rfl (gs_eq (ln_lt hl_fs0 (by decide))) dX10_put_35 ?_
  refine lv_iconst (v := 1) hx hb dX10_put_38 (by decide) ?_
  refine lv_iadd hx hb dX10_put_39 ?_
  refine tov (v := (nI ((n + 1) + 1))) (nI_add _ _) ?_
  refine pt_X10 hx hb hts hown hK hP hD hS 0 rfl 1 (by decide) wd_192 rfl rfl (ty := .int) (v := .int (nI ((n + 1) + 1))) (by decide +kernel) rfl rfl (ln_lt (ln_set hl_fs0) (by decide)) dX10_put_40 (fun H locs hP hD hS => ?_)
  have hP : va_P D vwCl [(h0, .inr (10, ((fs0.set 1 (.int (nI (n + 1)))).set 1 (.int (nI ((n + 1) + 1)))))), (q1, .inl (cI, 1000, .inl f_4))] H := hP
  have hD : va_D A [(h0, .inr (10, ((fs0.set 1 (.int (nI (n + 1)))).set 1 (.int (nI ((n + 1) + 1)))))), (q1, .inl (cI, 1000, .inl f_4))] := hD
  refine lv_iinc (v := 8) (lv' := [(2, .int 8), (0, .ref h0), (1, .int p0)]) hx hb dX10_put_43 hl (k := 0) rfl (by decide) (by decide) rfl (fun ls hl => ?_)
  refine lv_goto (tgt := 3) hx hb dX10_put_46 (by decide) ?_
  refine lv_iload_n hx hb dX10_put_3 rfl (lv_at hl 0 rfl) ?_
  refine lv_if_lt (tgt := 49) hx hb dX10_put_4 (by decide) (fun h => absurd h (by decide)) (fun _ => ?_)
  refine lv_aload_n hx hb dX10_put_7 rfl (lv_at hl 1 rfl) ?_
  refine gt_X10 hx hb hts hown hK hP 0 rfl 1 (by decide) wd_192 rfl (gs_eq (ln_lt (ln_set hl_fs0) (by decide))) dX10_put_8 ?_
  refine lv_sipush (v := 1000) hx hb dX10_put_11 (by decide) ?_
  refine lv_icmp_ge (tgt := 43) hx hb dX10_put_14 (by decide) (fun h => absurd h (nI_ge (b := 1000) (by omega) (by decide))) (fun _ => ?_)
  refine lv_aload_n hx hb dX10_put_17 rfl (lv_at hl 1 rfl) ?_
  refine gt_X10 hx hb hts hown hK hP 0 rfl 0 (by decide) wd_190 rfl (gs_ne (by decide) (gs_ne (by decide) hf_fs0_0)) dX10_put_18 ?_
  refine lv_aload_n hx hb dX10_put_21 rfl (lv_at hl 1 rfl) ?_
  refine gt_X10 hx hb hts hown hK hP 0 rfl 1 (by decide) wd_192 rfl (gs_eq (ln_lt (ln_set hl_fs0) (by decide))) dX10_put_22 ?_
  refine lv_iload_n hx hb dX10_put_25 rfl (lv_at hl 2 rfl) ?_
  refine lv_iload_n hx hb dX10_put_26 rfl (lv_at hl 0 rfl) ?_
  obtain ⟨v_5, ev_5⟩ : ∃ z : Int32, (p0.toUInt32 >>> ((8 : Int32).toUInt32 &&& Int32.toUInt32 31)).toInt32 = z := ⟨_, rfl⟩
  refine lv_iushr (v := v_5) hx hb dX10_put_27 ev_5 ?_
  refine lv_sipush (v := 255) hx hb dX10_put_28 (by decide) ?_
  refine lv_iand hx hb dX10_put_31 ?_
  refine va_iast hx hb hK hP hD hS 1 0 rfl rfl (vp_in_nI (n := ((n + 1) + 1)) (by omega) (by decide)) dX10_put_32 (fun H locs hP hD hS => ?_)
  obtain ⟨f_6, ef_6⟩ : ∃ z, z = upd f_4 ((nI ((n + 1) + 1)) : Int32).toNatClampNeg (v_5 &&& 255) := ⟨_, rfl⟩
  rw [← ef_6] at hP hD
  have ef_6 := n_up (a := ((n + 1) + 1)) (by omega) ef_6
  have hP : va_P D vwCl [(h0, .inr (10, ((fs0.set 1 (.int (nI (n + 1)))).set 1 (.int (nI ((n + 1) + 1)))))), (q1, .inl (cI, 1000, .inl f_6))] H := hP
  have hD : va_D A [(h0, .inr (10, ((fs0.set 1 (.int (nI (n + 1)))).set 1 (.int (nI ((n + 1) + 1)))))), (q1, .inl (cI, 1000, .inl f_6))] := hD
  refine lv_aload_n hx hb dX10_put_33 rfl (lv_at hl 1 rfl) ?_
  refine lv_dup hx hb dX10_put_34 rfl ?_
  refine gt_X10 hx hb hts hown hK hP 0 rfl 1 (by decide) wd_192 rfl (gs_eq (ln_lt (ln_set hl_fs0) (by decide))) dX10_put_35 ?_
  refine lv_iconst (v := 1) hx hb dX10_put_38 (by decide) ?_
  refine lv_iadd hx hb dX10_put_39 ?_
  refine tov (v := (nI (((n + 1) + 1) + 1))) (nI_add _ _) ?_
  refine pt_X10 hx hb hts hown hK hP hD hS 0 rfl 1 (by decide) wd_192 rfl rfl (ty := .int) (v := .int (nI (((n + 1) + 1) + 1))) (by decide +kernel) rfl rfl (ln_lt (ln_set (ln_set hl_fs0)) (by decide)) dX10_put_40 (fun H locs hP hD hS => ?_)
  have hP : va_P D vwCl [(h0, .inr (10, (((fs0.set 1 (.int (nI (n + 1)))).set 1 (.int (nI ((n + 1) + 1)))).set 1 (.int (nI (((n + 1) + 1) + 1)))))), (q1, .inl (cI, 1000, .inl f_6))] H := hP
  have hD : va_D A [(h0, .inr (10, (((fs0.set 1 (.int (nI (n + 1)))).set 1 (.int (nI ((n + 1) + 1)))).set 1 (.int (nI (((n + 1) + 1) + 1)))))), (q1, .inl (cI, 1000, .inl f_6))] := hD
  refine lv_iinc (v := 0) (lv' := [(2, .int 0), (0, .ref h0), (1, .int p0)]) hx hb dX10_put_43 hl (k := 0) rfl (by decide) (by decide) rfl (fun ls hl => ?_)
  refine lv_goto (tgt := 3) hx hb dX10_put_46 (by decide) ?_
  refine lv_iload_n hx hb dX10_put_3 rfl (lv_at hl 0 rfl) ?_
  refine lv_if_lt (tgt := 49) hx hb dX10_put_4 (by decide) (fun h => absurd h (by decide)) (fun _ => ?_)
  refine lv_aload_n hx hb dX10_put_7 rfl (lv_at hl 1 rfl) ?_
  refine gt_X10 hx hb hts hown hK hP 0 rfl 1 (by decide) wd_192 rfl (gs_eq (ln_lt (ln_set (ln_set hl_fs0)) (by decide))) dX10_put_8 ?_
  refine lv_sipush (v := 1000) hx hb dX10_put_11 (by decide) ?_
  refine lv_icmp_ge (tgt := 43) hx hb dX10_put_14 (by decide) (fun h => absurd h (nI_ge (b := 1000) (by omega) (by decide))) (fun _ => ?_)
  refine lv_aload_n hx hb dX10_put_17 rfl (lv_at hl 1 rfl) ?_
  refine gt_X10 hx hb hts hown hK hP 0 rfl 0 (by decide) wd_190 rfl (gs_ne (by decide) (gs_ne (by decide) (gs_ne (by decide) hf_fs0_0))) dX10_put_18 ?_
  refine lv_aload_n hx hb dX10_put_21 rfl (lv_at hl 1 rfl) ?_
  refine gt_X10 hx hb hts hown hK hP 0 rfl 1 (by decide) wd_192 rfl (gs_eq (ln_lt (ln_set (ln_set hl_fs0)) (by decide))) dX10_put_22 ?_
  refine lv_iload_n hx hb dX10_put_25 rfl (lv_at hl 2 rfl) ?_
  refine lv_iload_n hx hb dX10_put_26 rfl (lv_at hl 0 rfl) ?_
  obtain ⟨v_7, ev_7⟩ : ∃ z : Int32, (p0.toUInt32 >>> ((0 : Int32).toUInt32 &&& Int32.toUInt32 31)).toInt32 = z := ⟨_, rfl⟩
  refine lv_iushr (v := v_7) hx hb dX10_put_27 ev_7 ?_
  refine lv_sipush (v := 255) hx hb dX10_put_28 (by decide) ?_
  refine lv_iand hx hb dX10_put_31 ?_
  refine va_iast hx hb hK hP hD hS 1 0 rfl rfl (vp_in_nI (n := (((n + 1) + 1) + 1)) (by omega) (by decide)) dX10_put_32 (fun H locs hP hD hS => ?_)
  obtain ⟨f_8, ef_8⟩ : ∃ z, z = upd f_6 ((nI (((n + 1) + 1) + 1)) : Int32).toNatClampNeg (v_7 &&& 255) := ⟨_, rfl⟩
  rw [← ef_8] at hP hD
  have ef_8 := n_up (a := (((n + 1) + 1) + 1)) (by omega) ef_8
  have hP : va_P D vwCl [(h0, .inr (10, (((fs0.set 1 (.int (nI (n + 1)))).set 1 (.int (nI ((n + 1) + 1)))).set 1 (.int (nI (((n + 1) + 1) + 1)))))), (q1, .inl (cI, 1000, .inl f_8))] H := hP
  have hD : va_D A [(h0, .inr (10, (((fs0.set 1 (.int (nI (n + 1)))).set 1 (.int (nI ((n + 1) + 1)))).set 1 (.int (nI (((n + 1) + 1) + 1)))))), (q1, .inl (cI, 1000, .inl f_8))] := hD
  refine lv_aload_n hx hb dX10_put_33 rfl (lv_at hl 1 rfl) ?_
  refine lv_dup hx hb dX10_put_34 rfl ?_
  refine gt_X10 hx hb hts hown hK hP 0 rfl 1 (by decide) wd_192 rfl (gs_eq (ln_lt (ln_set (ln_set hl_fs0)) (by decide))) dX10_put_35 ?_
  refine lv_iconst (v := 1) hx hb dX10_put_38 (by decide) ?_
  refine lv_iadd hx hb dX10_put_39 ?_
  refine tov (v := (nI ((((n + 1) + 1) + 1) + 1))) (nI_add _ _) ?_
  refine pt_X10 hx hb hts hown hK hP hD hS 0 rfl 1 (by decide) wd_192 rfl rfl (ty := .int) (v := .int (nI ((((n + 1) + 1) + 1) + 1))) (by decide +kernel) rfl rfl (ln_lt (ln_set (ln_set (ln_set hl_fs0))) (by decide)) dX10_put_40 (fun H locs hP hD hS => ?_)
  have hP : va_P D vwCl [(h0, .inr (10, ((((fs0.set 1 (.int (nI (n + 1)))).set 1 (.int (nI ((n + 1) + 1)))).set 1 (.int (nI (((n + 1) + 1) + 1)))).set 1 (.int (nI ((((n + 1) + 1) + 1) + 1)))))), (q1, .inl (cI, 1000, .inl f_8))] H := hP
  have hD : va_D A [(h0, .inr (10, ((((fs0.set 1 (.int (nI (n + 1)))).set 1 (.int (nI ((n + 1) + 1)))).set 1 (.int (nI (((n + 1) + 1) + 1)))).set 1 (.int (nI ((((n + 1) + 1) + 1) + 1)))))), (q1, .inl (cI, 1000, .inl f_8))] := hD
  refine lv_iinc (v := (-8)) (lv' := [(2, .int (-8)), (0, .ref h0), (1, .int p0)]) hx hb dX10_put_43 hl (k := 0) rfl (by decide) (by decide) rfl (fun ls hl => ?_)
  refine lv_goto (tgt := 3) hx hb dX10_put_46 (by decide) ?_
  refine lv_iload_n hx hb dX10_put_3 rfl (lv_at hl 0 rfl) ?_
  refine lv_if_lt (tgt := 49) hx hb dX10_put_4 (by decide) (fun _ => ?_) (fun h => (h (by decide)).elim)
  exact fin_v hx hb hr hlk hK hP hD hS dX10_put_49 (⟨((((fs0.set 1 (.int (nI (n + 1)))).set 1 (.int (nI ((n + 1) + 1)))).set 1 (.int (nI (((n + 1) + 1) + 1)))).set 1 (.int (nI ((((n + 1) + 1) + 1) + 1)))), f_8, rfl, (ln_set (ln_set (ln_set (ln_set hl_fs0)))), (gs_ne (by decide) (gs_ne (by decide) (gs_ne (by decide) (gs_ne (by decide) hf_fs0_0)))), ((gs_eq (ln_lt (ln_set (ln_set (ln_set hl_fs0))) (by decide))))⟩)
set_option maxRecDepth 100000 in
set_option maxHeartbeats 4000000 in
theorem c_X12_put (l : Launch) (D : va_G) (cI cJ cZ : ClassId) (h0 q1 : Nat) (fs0 : List Value) (f1 : Nat → Int32) (p0 : Int32) (n : Nat) (hl_fs0 : fs0.length = 94) (hf_fs0_0 : fs0[0]? = some (.ref q1)) (hf_fs0_1 : fs0[1]? = some (.int (nI n))) (hn : n + 4 ≤ 1000) : Con_v l yX12_put cX12_put 3 none ({ frames := 0, cells := 0, slots := 0, locals := 0 }) D cI cJ cZ eT [.ref h0, .int p0] [(h0, .inr (12, fs0)), (q1, .inl (cI, 1000, .inl f1))] (fun w => ∃ (fs1 : List Value) (f2 : Nat → Int32), w = [(h0, .inr (12, fs1)), (q1, .inl (cI, 1000, .inl f2))] ∧ fs1.length = 94 ∧ fs1[0]? = some (.ref q1) ∧ fs1[1]? = some (.int (nI (n + 4)))) := by
  refine ent_v (by decide) (Nat.le_of_ble_eq_true rfl) ?_
  intro p e s m below meth c A hx hb hml hown hts hr hlk hnm hK hE hA hP hD hS ls hl
  have hown : s.vm.findClass RX12 = some m.cls := hown
  have hl : lv_has ls 3 [(0, .ref h0), (1, .int p0)] := hl
  refine lv_bipush (v := 24) hx hb dX12_put_0 (by decide) ?_
  refine lv_istore_n (lv' := [(2, .int 24), (0, .ref h0), (1, .int p0)]) hx hb dX12_put_2 rfl hl (by decide) rfl (fun ls hl => ?_)
  refine lv_iload_n hx hb dX12_put_3 rfl (lv_at hl 0 rfl) ?_
  refine lv_if_lt (tgt := 39) hx hb dX12_put_4 (by decide) (fun h => absurd h (by decide)) (fun _ => ?_)
  refine lv_aload_n hx hb dX12_put_7 rfl (lv_at hl 1 rfl) ?_
  refine gt_X12 hx hb hts hown hK hP 0 rfl 0 (by decide) wd_1401 rfl hf_fs0_0 dX12_put_8 ?_
  refine lv_aload_n hx hb dX12_put_11 rfl (lv_at hl 1 rfl) ?_
  refine gt_X12 hx hb hts hown hK hP 0 rfl 1 (by decide) wd_1402 rfl hf_fs0_1 dX12_put_12 ?_
  refine lv_iload_n hx hb dX12_put_15 rfl (lv_at hl 2 rfl) ?_
  refine lv_iload_n hx hb dX12_put_16 rfl (lv_at hl 0 rfl) ?_
  refine lv_ishr hx hb dX12_put_17 ?_
  refine lv_sipush (v := 255) hx hb dX12_put_18 (by decide) ?_
  refine lv_iand hx hb dX12_put_21 ?_
  refine va_iast hx hb hK hP hD hS 1 0 rfl rfl (vp_in_nI (n := n) (by omega) (by decide)) dX12_put_22 (fun H locs hP hD hS => ?_)
  obtain ⟨f_1, ef_1⟩ : ∃ z, z = upd f1 ((nI n) : Int32).toNatClampNeg ((p0 >>> (24 &&& 31)) &&& 255) := ⟨_, rfl⟩
  rw [← ef_1] at hP hD
  have ef_1 := n_up (a := n) (by omega) ef_1
  have hP : va_P D vwCl [(h0, .inr (12, fs0)), (q1, .inl (cI, 1000, .inl f_1))] H := hP
  have hD : va_D A [(h0, .inr (12, fs0)), (q1, .inl (cI, 1000, .inl f_1))] := hD
  refine lv_aload_n hx hb dX12_put_23 rfl (lv_at hl 1 rfl) ?_
  refine lv_dup hx hb dX12_put_24 rfl ?_
  refine gt_X12 hx hb hts hown hK hP 0 rfl 1 (by decide) wd_1402 rfl hf_fs0_1 dX12_put_25 ?_
  refine lv_iconst (v := 1) hx hb dX12_put_28 (by decide) ?_
  refine lv_iadd hx hb dX12_put_29 ?_
  refine tov (v := (nI (n + 1))) (nI_add _ _) ?_
  refine pt_X12 hx hb hts hown hK hP hD hS 0 rfl 1 (by decide) wd_1402 rfl rfl (ty := .int) (v := .int (nI (n + 1))) (by decide +kernel) rfl rfl (ln_lt hl_fs0 (by decide)) dX12_put_30 (fun H locs hP hD hS => ?_)
  have hP : va_P D vwCl [(h0, .inr (12, (fs0.set 1 (.int (nI (n + 1)))))), (q1, .inl (cI, 1000, .inl f_1))] H := hP
  have hD : va_D A [(h0, .inr (12, (fs0.set 1 (.int (nI (n + 1)))))), (q1, .inl (cI, 1000, .inl f_1))] := hD
  refine lv_iinc (v := 16) (lv' := [(2, .int 16), (0, .ref h0), (1, .int p0)]) hx hb dX12_put_33 hl (k := 0) rfl (by decide) (by decide) rfl (fun ls hl => ?_)
  refine lv_goto (tgt := 3) hx hb dX12_put_36 (by decide) ?_
  refine lv_iload_n hx hb dX12_put_3 rfl (lv_at hl 0 rfl) ?_
  refine lv_if_lt (tgt := 39) hx hb dX12_put_4 (by decide) (fun h => absurd h (by decide)) (fun _ => ?_)
  refine lv_aload_n hx hb dX12_put_7 rfl (lv_at hl 1 rfl) ?_
  refine gt_X12 hx hb hts hown hK hP 0 rfl 0 (by decide) wd_1401 rfl (gs_ne (by decide) hf_fs0_0) dX12_put_8 ?_
  refine lv_aload_n hx hb dX12_put_11 rfl (lv_at hl 1 rfl) ?_
  refine gt_X12 hx hb hts hown hK hP 0 rfl 1 (by decide) wd_1402 rfl (gs_eq (ln_lt hl_fs0 (by decide))) dX12_put_12 ?_
  refine lv_iload_n hx hb dX12_put_15 rfl (lv_at hl 2 rfl) ?_
  refine lv_iload_n hx hb dX12_put_16 rfl (lv_at hl 0 rfl) ?_
  refine lv_ishr hx hb dX12_put_17 ?_
  refine lv_sipush (v := 255) hx hb dX12_put_18 (by decide) ?_
  refine lv_iand hx hb dX12_put_21 ?_
  refine va_iast hx hb hK hP hD hS 1 0 rfl rfl (vp_in_nI (n := (n + 1)) (by omega) (by decide)) dX12_put_22 (fun H locs hP hD hS => ?_)
  obtain ⟨f_2, ef_2⟩ : ∃ z, z = upd f_1 ((nI (n + 1)) : Int32).toNatClampNeg ((p0 >>> (16 &&& 31)) &&& 255) := ⟨_, rfl⟩
  rw [← ef_2] at hP hD
  have ef_2 := n_up (a := (n + 1)) (by omega) ef_2
  have hP : va_P D vwCl [(h0, .inr (12, (fs0.set 1 (.int (nI (n + 1)))))), (q1, .inl (cI, 1000, .inl f_2))] H := hP
  have hD : va_D A [(h0, .inr (12, (fs0.set 1 (.int (nI (n + 1)))))), (q1, .inl (cI, 1000, .inl f_2))] := hD
  refine lv_aload_n hx hb dX12_put_23 rfl (lv_at hl 1 rfl) ?_
  refine lv_dup hx hb dX12_put_24 rfl ?_
  refine gt_X12 hx hb hts hown hK hP 0 rfl 1 (by decide) wd_1402 rfl (gs_eq (ln_lt hl_fs0 (by decide))) dX12_put_25 ?_
  refine lv_iconst (v := 1) hx hb dX12_put_28 (by decide) ?_
  refine lv_iadd hx hb dX12_put_29 ?_
  refine tov (v := (nI ((n + 1) + 1))) (nI_add _ _) ?_
  refine pt_X12 hx hb hts hown hK hP hD hS 0 rfl 1 (by decide) wd_1402 rfl rfl (ty := .int) (v := .int (nI ((n + 1) + 1))) (by decide +kernel) rfl rfl (ln_lt (ln_set hl_fs0) (by decide)) dX12_put_30 (fun H locs hP hD hS => ?_)
  have hP : va_P D vwCl [(h0, .inr (12, ((fs0.set 1 (.int (nI (n + 1)))).set 1 (.int (nI ((n + 1) + 1)))))), (q1, .inl (cI, 1000, .inl f_2))] H := hP
  have hD : va_D A [(h0, .inr (12, ((fs0.set 1 (.int (nI (n + 1)))).set 1 (.int (nI ((n + 1) + 1)))))), (q1, .inl (cI, 1000, .inl f_2))] := hD
  refine lv_iinc (v := 8) (lv' := [(2, .int 8), (0, .ref h0), (1, .int p0)]) hx hb dX12_put_33 hl (k := 0) rfl (by decide) (by decide) rfl (fun ls hl => ?_)
  refine lv_goto (tgt := 3) hx hb dX12_put_36 (by decide) ?_
  refine lv_iload_n hx hb dX12_put_3 rfl (lv_at hl 0 rfl) ?_
  refine lv_if_lt (tgt := 39) hx hb dX12_put_4 (by decide) (fun h => absurd h (by decide)) (fun _ => ?_)
  refine lv_aload_n hx hb dX12_put_7 rfl (lv_at hl 1 rfl) ?_
  refine gt_X12 hx hb hts hown hK hP 0 rfl 0 (by decide) wd_1401 rfl (gs_ne (by decide) (gs_ne (by decide) hf_fs0_0)) dX12_put_8 ?_
  refine lv_aload_n hx hb dX12_put_11 rfl (lv_at hl 1 rfl) ?_
  refine gt_X12 hx hb hts hown hK hP 0 rfl 1 (by decide) wd_1402 rfl (gs_eq (ln_lt (ln_set hl_fs0) (by decide))) dX12_put_12 ?_
  refine lv_iload_n hx hb dX12_put_15 rfl (lv_at hl 2 rfl) ?_
  refine lv_iload_n hx hb dX12_put_16 rfl (lv_at hl 0 rfl) ?_
  refine lv_ishr hx hb dX12_put_17 ?_
  refine lv_sipush (v := 255) hx hb dX12_put_18 (by decide) ?_
  refine lv_iand hx hb dX12_put_21 ?_
  refine va_iast hx hb hK hP hD hS 1 0 rfl rfl (vp_in_nI (n := ((n + 1) + 1)) (by omega) (by decide)) dX12_put_22 (fun H locs hP hD hS => ?_)
  obtain ⟨f_3, ef_3⟩ : ∃ z, z = upd f_2 ((nI ((n + 1) + 1)) : Int32).toNatClampNeg ((p0 >>> (8 &&& 31)) &&& 255) := ⟨_, rfl⟩
  rw [← ef_3] at hP hD
  have ef_3 := n_up (a := ((n + 1) + 1)) (by omega) ef_3
  have hP : va_P D vwCl [(h0, .inr (12, ((fs0.set 1 (.int (nI (n + 1)))).set 1 (.int (nI ((n + 1) + 1)))))), (q1, .inl (cI, 1000, .inl f_3))] H := hP
  have hD : va_D A [(h0, .inr (12, ((fs0.set 1 (.int (nI (n + 1)))).set 1 (.int (nI ((n + 1) + 1)))))), (q1, .inl (cI, 1000, .inl f_3))] := hD
  refine lv_aload_n hx hb dX12_put_23 rfl (lv_at hl 1 rfl) ?_
  refine lv_dup hx hb dX12_put_24 rfl ?_
  refine gt_X12 hx hb hts hown hK hP 0 rfl 1 (by decide) wd_1402 rfl (gs_eq (ln_lt (ln_set hl_fs0) (by decide))) dX12_put_25 ?_
  refine lv_iconst (v := 1) hx hb dX12_put_28 (by decide) ?_
  refine lv_iadd hx hb dX12_put_29 ?_
  refine tov (v := (nI (((n + 1) + 1) + 1))) (nI_add _ _) ?_
  refine pt_X12 hx hb hts hown hK hP hD hS 0 rfl 1 (by decide) wd_1402 rfl rfl (ty := .int) (v := .int (nI (((n + 1) + 1) + 1))) (by decide +kernel) rfl rfl (ln_lt (ln_set (ln_set hl_fs0)) (by decide)) dX12_put_30 (fun H locs hP hD hS => ?_)
  have hP : va_P D vwCl [(h0, .inr (12, (((fs0.set 1 (.int (nI (n + 1)))).set 1 (.int (nI ((n + 1) + 1)))).set 1 (.int (nI (((n + 1) + 1) + 1)))))), (q1, .inl (cI, 1000, .inl f_3))] H := hP
  have hD : va_D A [(h0, .inr (12, (((fs0.set 1 (.int (nI (n + 1)))).set 1 (.int (nI ((n + 1) + 1)))).set 1 (.int (nI (((n + 1) + 1) + 1)))))), (q1, .inl (cI, 1000, .inl f_3))] := hD
  refine lv_iinc (v := 0) (lv' := [(2, .int 0), (0, .ref h0), (1, .int p0)]) hx hb dX12_put_33 hl (k := 0) rfl (by decide) (by decide) rfl (fun ls hl => ?_)
  refine lv_goto (tgt := 3) hx hb dX12_put_36 (by decide) ?_
  refine lv_iload_n hx hb dX12_put_3 rfl (lv_at hl 0 rfl) ?_
  refine lv_if_lt (tgt := 39) hx hb dX12_put_4 (by decide) (fun h => absurd h (by decide)) (fun _ => ?_)
  refine lv_aload_n hx hb dX12_put_7 rfl (lv_at hl 1 rfl) ?_
  refine gt_X12 hx hb hts hown hK hP 0 rfl 0 (by decide) wd_1401 rfl (gs_ne (by decide) (gs_ne (by decide) (gs_ne (by decide) hf_fs0_0))) dX12_put_8 ?_
  refine lv_aload_n hx hb dX12_put_11 rfl (lv_at hl 1 rfl) ?_
  refine gt_X12 hx hb hts hown hK hP 0 rfl 1 (by decide) wd_1402 rfl (gs_eq (ln_lt (ln_set (ln_set hl_fs0)) (by decide))) dX12_put_12 ?_
  refine lv_iload_n hx hb dX12_put_15 rfl (lv_at hl 2 rfl) ?_
  refine lv_iload_n hx hb dX12_put_16 rfl (lv_at hl 0 rfl) ?_
  refine lv_ishr hx hb dX12_put_17 ?_
  refine lv_sipush (v := 255) hx hb dX12_put_18 (by decide) ?_
  refine lv_iand hx hb dX12_put_21 ?_
  refine va_iast hx hb hK hP hD hS 1 0 rfl rfl (vp_in_nI (n := (((n + 1) + 1) + 1)) (by omega) (by decide)) dX12_put_22 (fun H locs hP hD hS => ?_)
  obtain ⟨f_4, ef_4⟩ : ∃ z, z = upd f_3 ((nI (((n + 1) + 1) + 1)) : Int32).toNatClampNeg ((p0 >>> (0 &&& 31)) &&& 255) := ⟨_, rfl⟩
  rw [← ef_4] at hP hD
  have ef_4 := n_up (a := (((n + 1) + 1) + 1)) (by omega) ef_4
  have hP : va_P D vwCl [(h0, .inr (12, (((fs0.set 1 (.int (nI (n + 1)))).set 1 (.int (nI ((n + 1) + 1)))).set 1 (.int (nI (((n + 1) + 1) + 1)))))), (q1, .inl (cI, 1000, .inl f_4))] H := hP
  have hD : va_D A [(h0, .inr (12, (((fs0.set 1 (.int (nI (n + 1)))).set 1 (.int (nI ((n + 1) + 1)))).set 1 (.int (nI (((n + 1) + 1) + 1)))))), (q1, .inl (cI, 1000, .inl f_4))] := hD
  refine lv_aload_n hx hb dX12_put_23 rfl (lv_at hl 1 rfl) ?_
  refine lv_dup hx hb dX12_put_24 rfl ?_
  refine gt_X12 hx hb hts hown hK hP 0 rfl 1 (by decide) wd_1402 rfl (gs_eq (ln_lt (ln_set (ln_set hl_fs0)) (by decide))) dX12_put_25 ?_
  refine lv_iconst (v := 1) hx hb dX12_put_28 (by decide) ?_
  refine lv_iadd hx hb dX12_put_29 ?_
  refine tov (v := (nI ((((n + 1) + 1) + 1) + 1))) (nI_add _ _) ?_
  refine pt_X12 hx hb hts hown hK hP hD hS 0 rfl 1 (by decide) wd_1402 rfl rfl (ty := .int) (v := .int (nI ((((n + 1) + 1) + 1) + 1))) (by decide +kernel) rfl rfl (ln_lt (ln_set (ln_set (ln_set hl_fs0))) (by decide)) dX12_put_30 (fun H locs hP hD hS => ?_)
  have hP : va_P D vwCl [(h0, .inr (12, ((((fs0.set 1 (.int (nI (n + 1)))).set 1 (.int (nI ((n + 1) + 1)))).set 1 (.int (nI (((n + 1) + 1) + 1)))).set 1 (.int (nI ((((n + 1) + 1) + 1) + 1)))))), (q1, .inl (cI, 1000, .inl f_4))] H := hP
  have hD : va_D A [(h0, .inr (12, ((((fs0.set 1 (.int (nI (n + 1)))).set 1 (.int (nI ((n + 1) + 1)))).set 1 (.int (nI (((n + 1) + 1) + 1)))).set 1 (.int (nI ((((n + 1) + 1) + 1) + 1)))))), (q1, .inl (cI, 1000, .inl f_4))] := hD
  refine lv_iinc (v := (-8)) (lv' := [(2, .int (-8)), (0, .ref h0), (1, .int p0)]) hx hb dX12_put_33 hl (k := 0) rfl (by decide) (by decide) rfl (fun ls hl => ?_)
  refine lv_goto (tgt := 3) hx hb dX12_put_36 (by decide) ?_
  refine lv_iload_n hx hb dX12_put_3 rfl (lv_at hl 0 rfl) ?_
  refine lv_if_lt (tgt := 39) hx hb dX12_put_4 (by decide) (fun _ => ?_) (fun h => (h (by decide)).elim)
  exact fin_v hx hb hr hlk hK hP hD hS dX12_put_39 (⟨((((fs0.set 1 (.int (nI (n + 1)))).set 1 (.int (nI ((n + 1) + 1)))).set 1 (.int (nI (((n + 1) + 1) + 1)))).set 1 (.int (nI ((((n + 1) + 1) + 1) + 1)))), f_4, rfl, (ln_set (ln_set (ln_set (ln_set hl_fs0)))), (gs_ne (by decide) (gs_ne (by decide) (gs_ne (by decide) (gs_ne (by decide) hf_fs0_0)))), ((gs_eq (ln_lt (ln_set (ln_set (ln_set hl_fs0))) (by decide))))⟩)
