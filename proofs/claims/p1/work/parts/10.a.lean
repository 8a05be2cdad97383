set_option maxRecDepth 100000 in
set_option maxHeartbeats 4000000 in
theorem c_X11_within (l : Launch) (D : va_G) (cI cJ cZ : ClassId) (p0 : Int32) (p1 : Int32) (p2 : Int32) : Con_i l yX11_within cX11_within 3 (some .boolean) ({ frames := 0, cells := 0, slots := 0, locals := 0 }) D cI cJ cZ eT [.int p0, .int p1, .int p2] [] (fun (r : Int32) (w : va_W) => w = [] ∧ r = (wi_ p0 p1 p2)) := by
  refine ent_i (by decide) (Nat.le_of_ble_eq_true rfl) ?_
  intro p e s m below meth c A hx hb hml hown hts hr hlk hnm hK hE hA hP hD hS ls hl
  have hown : s.vm.findClass RX11 = some m.cls := hown
  have hl : lv_has ls 3 [(0, .int p0), (1, .int p1), (2, .int p2)] := hl
  refine lv_iload_n hx hb dX11_within_0 rfl (lv_at hl 0 rfl) ?_
  refine lv_iload_n hx hb dX11_within_1 rfl (lv_at hl 1 rfl) ?_
  refine lv_icmp_lt (tgt := 14) hx hb dX11_within_2 (by decide) (fun c_1 => ?_) (fun c_1 => ?_)
  · refine lv_iconst (v := 0) hx hb dX11_within_14 (by decide) ?_
    exact fin_z hx hb hr hlk hK hP hD hS dX11_within_15 rfl (⟨rfl, wi_a c_1⟩)
  · refine lv_iload_n hx hb dX11_within_5 rfl (lv_at hl 0 rfl) ?_
    refine lv_iload_n hx hb dX11_within_6 rfl (lv_at hl 2 rfl) ?_
    refine lv_icmp_gt (tgt := 14) hx hb dX11_within_7 (by decide) (fun c_2 => ?_) (fun c_2 => ?_)
    · refine lv_iconst (v := 0) hx hb dX11_within_14 (by decide) ?_
      exact fin_z hx hb hr hlk hK hP hD hS dX11_within_15 rfl (⟨rfl, wi_b c_2⟩)
    · refine lv_iconst (v := 1) hx hb dX11_within_10 (by decide) ?_
      refine lv_goto (tgt := 15) hx hb dX11_within_11 (by decide) ?_
      exact fin_z hx hb hr hlk hK hP hD hS dX11_within_15 rfl (⟨rfl, wi_1 c_1 c_2⟩)
set_option maxRecDepth 100000 in
set_option maxHeartbeats 4000000 in
theorem c_X11_isDay (l : Launch) (D : va_G) (cI cJ cZ : ClassId) (p0 : Int32) : Con_i l yX11_isDay cX11_isDay 1 (some .boolean) ({ frames := 1, cells := 0, slots := 0, locals := 22 }) D cI cJ cZ eT [.int p0] [] (fun (r : Int32) (w : va_W) => w = [] ∧ r = (wi_ p0 1 24)) := by
  refine ent_i (by decide) (Nat.le_of_ble_eq_true rfl) ?_
  intro p e s m below meth c A hx hb hml hown hts hr hlk hnm hK hE hA hP hD hS ls hl
  have hown : s.vm.findClass RX11 = some m.cls := hown
  have hl : lv_has ls 1 [(0, .int p0)] := hl
  refine lv_iload_n hx hb dX11_isDay_0 rfl (lv_at hl 0 rfl) ?_
  refine lv_iconst (v := 1) hx hb dX11_isDay_1 (by decide) ?_
  refine lv_bipush (v := 24) hx hb dX11_isDay_2 (by decide) ?_
  refine cl_i (wr := []) (rn_S (As := [.int p0, .int 1, .int 24]) (rest := []) hx hb hml hown hts (c_X11_within l D cI cJ cZ p0 1 24 _) ⟨rfl, rfl⟩ sv_X11_168 ⟨(Nat.le_of_ble_eq_true rfl), (Nat.le_of_ble_eq_true rfl)⟩ ⟨(Nat.le_of_ble_eq_true rfl), (Nat.le_of_ble_eq_true rfl)⟩ (fun _ _ _ _ h => h) (fun _ _ _ => trivial) hK hP hD [] rfl rfl rfl hl.1 rfl (Nat.le_of_ble_eq_true rfl) dX11_isDay_4) hP hD hS hA [] [] rfl rfl rfl (by decide) (fun r_3 w_2 H locs hw_1 hP hD hS => ?_)
  obtain ⟨rfl, hr_4⟩ := hw_1
  have hP : va_P D vwCl [] H := hP
  have hD : va_D A [] := hD
  refine tov (v := (wi_ p0 1 24)) hr_4 ?_
  exact fin_z hx hb hr hlk hK hP hD hS dX11_isDay_7 (wi_nar _ _ _) (⟨rfl, rfl⟩)
set_option maxRecDepth 100000 in
set_option maxHeartbeats 4000000 in
theorem c_X10_put_0 (l : Launch) (D : va_G) (cI cJ cZ : ClassId) (h0 q1 : Nat) (fs0 : List Value) (f1 : Nat → Int32) (p0 : Int32) (hl_fs0 : fs0.length = 8) (hf_fs0_0 : fs0[0]? = some (.ref q1)) (hf_fs0_1 : fs0[1]? = some (.int 0)) : Con_v l yX10_put cX10_put 3 none ({ frames := 0, cells := 0, slots := 0, locals := 0 }) D cI cJ cZ eT [.ref h0, .int p0] [(h0, .inr (10, fs0)), (q1, .inl (cI, 1000, .inl f1))] (fun w => ∃ (fs1 : List Value) (f2 : Nat → Int32), w = [(h0, .inr (10, fs1)), (q1, .inl (cI, 1000, .inl f2))] ∧ fs1.length = 8 ∧ fs1[0]? = some (.ref q1) ∧ fs1[1]? = some (.int 4)) := by
  refine ent_v (by decide) (Nat.le_of_ble_eq_true rfl) ?_
  intro p e s m below meth c A hx hb hml hown hts hr hlk hnm hK hE hA hP hD hS ls hl
  have hown : s.vm.findClass RX10 = some m.cls := hown
  have hl : lv_has ls 3 [(0, .ref h0), (1, .int p0)] := hl
  refine lv_bipush (v := 24) hx hb dX10_put_0 (by decide) ?_
  refine lv_istore_n (lv' := [(2, .int 24), (0, .ref h0), (1, .int p0)]) hx hb dX10_put_2 rfl hl (by decide) rfl (fun ls hl => ?_)
  refine lv_iload_n hx hb dX10_put_3 rfl (lv_at hl 0 rfl) ?_
  refine lv_if_lt (tgt := 49) hx hb dX10_put_4 (by decide) (fun h => absurd h (by decide)) (fun _ => ?_)
  refine lv_aload_n hx hb dX10_put_7 rfl (lv_at hl 1 rfl) ?_
  refine gt_X10 hx hb hts hown hK hP 0 rfl 1 (by decide) wd_192 rfl hf_fs0_1 dX10_put_8 ?_
  refine lv_sipush (v := 1000) hx hb dX10_put_11 (by decide) ?_
  refine lv_icmp_ge (tgt := 43) hx hb dX10_put_14 (by decide) (fun h => absurd h (by decide)) (fun _ => ?_)
  refine lv_aload_n hx hb dX10_put_17 rfl (lv_at hl 1 rfl) ?_
  refine gt_X10 hx hb hts hown hK hP 0 rfl 0 (by decide) wd_190 rfl hf_fs0_0 dX10_put_18 ?_
  refine lv_aload_n hx hb dX10_put_21 rfl (lv_at hl 1 rfl) ?_
  refine gt_X10 hx hb hts hown hK hP 0 rfl 1 (by decide) wd_192 rfl hf_fs0_1 dX10_put_22 ?_
  refine lv_iload_n hx hb dX10_put_25 rfl (lv_at hl 2 rfl) ?_
  refine lv_iload_n hx hb dX10_put_26 rfl (lv_at hl 0 rfl) ?_
  obtain ⟨v_1, ev_1⟩ : ∃ z : Int32, (p0.toUInt32 >>> ((24 : Int32).toUInt32 &&& Int32.toUInt32 31)).toInt32 = z := ⟨_, rfl⟩
  refine lv_iushr (v := v_1) hx hb dX10_put_27 ev_1 ?_
  refine lv_sipush (v := 255) hx hb dX10_put_28 (by decide) ?_
  refine lv_iand hx hb dX10_put_31 ?_
  refine va_iast hx hb hK hP hD hS 1 0 rfl rfl (vp_in_c (by decide)) dX10_put_32 (fun H locs hP hD hS => ?_)
  obtain ⟨f_2, ef_2⟩ : ∃ z, z = upd f1 (0 : Int32).toNatClampNeg (v_1 &&& 255) := ⟨_, rfl⟩
  rw [← ef_2] at hP hD
  have hP : va_P D vwCl [(h0, .inr (10, fs0)), (q1, .inl (cI, 1000, .inl f_2))] H := hP
  have hD : va_D A [(h0, .inr (10, fs0)), (q1, .inl (cI, 1000, .inl f_2))] := hD
  refine lv_aload_n hx hb dX10_put_33 rfl (lv_at hl 1 rfl) ?_
  refine lv_dup hx hb dX10_put_34 rfl ?_
  refine gt_X10 hx hb hts hown hK hP 0 rfl 1 (by decide) wd_192 rfl hf_fs0_1 dX10_put_35 ?_
  refine lv_iconst (v := 1) hx hb dX10_put_38 (by decide) ?_
  refine lv_iadd hx hb dX10_put_39 ?_
  refine tov (v := 1) (by decide) ?_
  refine pt_X10 hx hb hts hown hK hP hD hS 0 rfl 1 (by decide) wd_192 rfl rfl (ty := .int) (v := .int 1) (by decide +kernel) rfl rfl (ln_lt hl_fs0 (by decide)) dX10_put_40 (fun H locs hP hD hS => ?_)
  have hP : va_P D vwCl [(h0, .inr (10, (fs0.set 1 (.int 1)))), (q1, .inl (cI, 1000, .inl f_2))] H := hP
  have hD : va_D A [(h0, .inr (10, (fs0.set 1 (.int 1)))), (q1, .inl (cI, 1000, .inl f_2))] := hD
  refine lv_iinc (v := 16) (lv' := [(2, .int 16), (0, .ref h0), (1, .int p0)]) hx hb dX10_put_43 hl (k := 0) rfl (by decide) (by decide) rfl (fun ls hl => ?_)
  refine lv_goto (tgt := 3) hx hb dX10_put_46 (by decide) ?_
  refine lv_iload_n hx hb dX10_put_3 rfl (lv_at hl 0 rfl) ?_
  refine lv_if_lt (tgt := 49) hx hb dX10_put_4 (by decide) (fun h => absurd h (by decide)) (fun _ => ?_)
  refine lv_aload_n hx hb dX10_put_7 rfl (lv_at hl 1 rfl) ?_
  refine gt_X10 hx hb hts hown hK hP 0 rfl 1 (by decide) wd_192 rfl (gs_eq (ln_lt hl_fs0 (by decide))) dX10_put_8 ?_
  refine lv_sipush (v := 1000) hx hb dX10_put_11 (by decide) ?_
  refine lv_icmp_ge (tgt := 43) hx hb dX10_put_14 (by decide) (fun h => absurd h (by decide)) (fun _ => ?_)
  refine lv_aload_n hx hb dX10_put_17 rfl (lv_at hl 1 rfl) ?_
  refine gt_X10 hx hb hts hown hK hP 0 rfl 0 (by decide) wd_190 rfl (gs_ne (by decide) hf_fs0_0) dX10_put_18 ?_
  refine lv_aload_n hx hb dX10_put_21 rfl (lv_at hl 1 rfl) ?_
  refine gt_X10 hx hb hts hown hK hP 0 rfl 1 (by decide) wd_192 rfl (gs_eq (ln_lt hl_fs0 (by decide))) dX10_put_22 ?_
  refine lv_iload_n hx hb dX10_put_25 rfl (lv_at hl 2 rfl) ?_
  refine lv_iload_n hx hb dX10_put_26 rfl (lv_at hl 0 rfl) ?_
  obtain ⟨v_3, ev_3⟩ : ∃ z : Int32, (p0.toUInt32 >>> ((16 : Int32).toUInt32 &&& Int32.toUInt32 31)).toInt32 = z := ⟨_, rfl⟩
  refine lv_iushr (v := v_3) hx hb dX10_put_27 ev_3 ?_
  refine lv_sipush (v := 255) hx hb dX10_put_28 (by decide) ?_
  refine lv_iand hx hb dX10_put_31 ?_
  refine va_iast hx hb hK hP hD hS 1 0 rfl rfl (vp_in_c (by decide)) dX10_put_32 (fun H locs hP hD hS => ?_)
  obtain ⟨f_4, ef_4⟩ : ∃ z, z = upd f_2 (1 : Int32).toNatClampNeg (v_3 &&& 255) := ⟨_, rfl⟩
  rw [← ef_4] at hP hD
  have hP : va_P D vwCl [(h0, .inr (10, (fs0.set 1 (.int 1)))), (q1, .inl (cI, 1000, .inl f_4))] H := hP
  have hD : va_D A [(h0, .inr (10, (fs0.set 1 (.int 1)))), (q1, .inl (cI, 1000, .inl f_4))] := hD
  refine lv_aload_n hx hb dX10_put_33 rfl (lv_at hl 1 rfl) ?_
  refine lv_dup hx hb dX10_put_34 rfl ?_
  refine gt_X10 hx hb hts hown hK hP 0 rfl 1 (by decide) wd_192 rfl (gs_eq (ln_lt hl_fs0 (by decide))) dX10_put_35 ?_
  refine lv_iconst (v := 1) hx hb dX10_put_38 (by decide) ?_
  refine lv_iadd hx hb dX10_put_39 ?_
  refine tov (v := 2) (by decide) ?_
  refine pt_X10 hx hb hts hown hK hP hD hS 0 rfl 1 (by decide) wd_192 rfl rfl (ty := .int) (v := .int 2) (by decide +kernel) rfl rfl (ln_lt (ln_set hl_fs0) (by decide)) dX10_put_40 (fun H locs hP hD hS => ?_)
  have hP : va_P D vwCl [(h0, .inr (10, ((fs0.set 1 (.int 1)).set 1 (.int 2)))), (q1, .inl (cI, 1000, .inl f_4))] H := hP
  have hD : va_D A [(h0, .inr (10, ((fs0.set 1 (.int 1)).set 1 (.int 2)))), (q1, .inl (cI, 1000, .inl f_4))] := hD
  refine lv_iinc (v := 8) (lv' := [(2, .int 8), (0, .ref h0), (1, .int p0)]) hx hb dX10_put_43 hl (k := 0) rfl (by decide) (by decide) rfl (fun ls hl => ?_)
  refine lv_goto (tgt := 3) hx hb dX10_put_46 (by decide) ?_
  refine lv_iload_n hx hb dX10_put_3 rfl (lv_at hl 0 rfl) ?_
  refine lv_if_lt (tgt := 49) hx hb dX10_put_4 (by decide) (fun h => absurd h (by decide)) (fun _ => ?_)
  refine lv_aload_n hx hb dX10_put_7 rfl (lv_at hl 1 rfl) ?_
  refine gt_X10 hx hb hts hown hK hP 0 rfl 1 (by decide) wd_192 rfl (gs_eq (ln_lt (ln_set hl_fs0) (by decide))) dX10_put_8 ?_
  refine lv_sipush (v := 1000) hx hb dX10_put_11 (by decide) ?_
  refine lv_icmp_ge (tgt := 43) hx hb dX10_put_14 (by decide) (fun h => absurd h (by decide)) (fun _ => ?_)
  refine lv_aload_n hx hb dX10_put_17 rfl (lv_at hl 1 rfl) ?_
  refine gt_X10 hx hb hts hown hK hP 0 rfl 0 (by decide) wd_190 rfl (gs_ne (by decide) (gs_ne (by decide) hf_fs0_0)) dX10_put_18 ?_
  refine lv_aload_n hx hb dX10_put_21 rfl (lv_at hl 1 rfl) ?_
  refine gt_X10 hx hb hts hown hK hP 0 rfl 1 (by decide) wd_192 rfl (gs_eq (ln_lt (ln_set hl_fs0) (by decide))) dX10_put_22 ?_
  refine lv_iload_n hx hb dX10_put_25 rfl (lv_at hl 2 rfl) ?_
  refine lv_iload_n hx hb dX10_put_26 rfl (lv_at hl 0 rfl) ?_
  obtain ⟨v_5, ev_5⟩ : ∃ z : Int32, (p0.toUInt32 >>> ((8 : Int32).toUInt32 &&& Int32.toUInt32 31)).toInt32 = z := ⟨_, rfl⟩
  refine lv_iushr (v := v_5) hx hb dX10_put_27 ev_5 ?_
  refine lv_sipush (v := 255) hx hb dX10_put_28 (by decide) ?_
  refine lv_iand hx hb dX10_put_31 ?_
  refine va_iast hx hb hK hP hD hS 1 0 rfl rfl (vp_in_c (by decide)) dX10_put_32 (fun H locs hP hD hS => ?_)
  obtain ⟨f_6, ef_6⟩ : ∃ z, z = upd f_4 (2 : Int32).toNatClampNeg (v_5 &&& 255) := ⟨_, rfl⟩
  rw [← ef_6] at hP hD
  have hP : va_P D vwCl [(h0, .inr (10, ((fs0.set 1 (.int 1)).set 1 (.int 2)))), (q1, .inl (cI, 1000, .inl f_6))] H := hP
  have hD : va_D A [(h0, .inr (10, ((fs0.set 1 (.int 1)).set 1 (.int 2)))), (q1, .inl (cI, 1000, .inl f_6))] := hD
  refine lv_aload_n hx hb dX10_put_33 rfl (lv_at hl 1 rfl) ?_
  refine lv_dup hx hb dX10_put_34 rfl ?_
  refine gt_X10 hx hb hts hown hK hP 0 rfl 1 (by decide) wd_192 rfl (gs_eq (ln_lt (ln_set hl_fs0) (by decide))) dX10_put_35 ?_
  refine lv_iconst (v := 1) hx hb dX10_put_38 (by decide) ?_
  refine lv_iadd hx hb dX10_put_39 ?_
  refine tov (v := 3) (by decide) ?_
  refine pt_X10 hx hb hts hown hK hP hD hS 0 rfl 1 (by decide) wd_192 rfl rfl (ty := .int) (v := .int 3) (by decide +kernel) rfl rfl (ln_lt (ln_set (ln_set hl_fs0)) (by decide)) dX10_put_40 (fun H locs hP hD hS => ?_)
  have hP : va_P D vwCl [(h0, .inr (10, (((fs0.set 1 (.int 1)).set 1 (.int 2)).set 1 (.int 3)))), (q1, .inl (cI, 1000, .inl f_6))] H := hP
  have hD : va_D A [(h0, .inr (10, (((fs0.set 1 (.int 1)).set 1 (.int 2)).set 1 (.int 3)))), (q1, .inl (cI, 1000, .inl f_6))] := hD
  refine lv_iinc (v := 0) (lv' := [(2, .int 0), (0, .ref h0), (1, .int p0)]) hx hb dX10_put_43 hl (k := 0) rfl (by decide) (by decide) rfl (fun ls hl => ?_)
  refine lv_goto (tgt := 3) hx hb dX10_put_46 (by decide) ?_
  refine lv_iload_n hx hb dX10_put_3 rfl (lv_at hl 0 rfl) ?_
  refine lv_if_lt (tgt := 49) hx hb dX10_put_4 (by decide) (fun h => absurd h (by decide)) (fun _ => ?_)
  refine lv_aload_n hx hb dX10_put_7 rfl (lv_at hl 1 rfl) ?_
  refine gt_X10 hx hb hts hown hK hP 0 rfl 1 (by decide) wd_192 rfl (gs_eq (ln_lt (ln_set (ln_set hl_fs0)) (by decide))) dX10_put_8 ?_
  refine lv_sipush (v := 1000) hx hb dX10_put_11 (by decide) ?_
  refine lv_icmp_ge (tgt := 43) hx hb dX10_put_14 (by decide) (fun h => absurd h (by decide)) (fun _ => ?_)
  refine lv_aload_n hx hb dX10_put_17 rfl (lv_at hl 1 rfl) ?_
  refine gt_X10 hx hb hts hown hK hP 0 rfl 0 (by decide) wd_190 rfl (gs_ne (by decide) (gs_ne (by decide) (gs_ne (by decide) hf_fs0_0))) dX10_put_18 ?_
  refine lv_aload_n hx hb dX10_put_21 rfl (lv_at hl 1 rfl) ?_
  refine gt_X10 hx hb hts hown hK hP 0 rfl 1 (by decide) wd_192 rfl (gs_eq (ln_lt (ln_set (ln_set hl_fs0)) (by decide))) dX10_put_22 ?_
  refine lv_iload_n hx hb dX10_put_25 rfl (lv_at hl 2 rfl) ?_
  refine lv_iload_n hx hb dX10_put_26 rfl (lv_at hl 0 rfl) ?_
  obtain ⟨v_7, ev_7⟩ : ∃ z : Int32, (p0.toUInt32 >>> ((0 : Int32).toUInt32 &&& Int32.toUInt32 31)).toInt32 = z := ⟨_, rfl⟩
  refine lv_iushr (v := v_7) hx hb dX10_put_27 ev_7 ?_
  refine lv_sipush (v := 255) hx hb dX10_put_28 (by decide) ?_
  refine lv_iand hx hb dX10_put_31 ?_
  refine va_iast hx hb hK hP hD hS 1 0 rfl rfl (vp_in_c (by decide)) dX10_put_32 (fun H locs hP hD hS => ?_)
  obtain ⟨f_8, ef_8⟩ : ∃ z, z = upd f_6 (3 : Int32).toNatClampNeg (v_7 &&& 255) := ⟨_, rfl⟩
  rw [← ef_8] at hP hD
  have hP : va_P D vwCl [(h0, .inr (10, (((fs0.set 1 (.int 1)).set 1 (.int 2)).set 1 (.int 3)))), (q1, .inl (cI, 1000, .inl f_8))] H := hP
  have hD : va_D A [(h0, .inr (10, (((fs0.set 1 (.int 1)).set 1 (.int 2)).set 1 (.int 3)))), (q1, .inl (cI, 1000, .inl f_8))] := hD
  refine lv_aload_n hx hb dX10_put_33 rfl (lv_at hl 1 rfl) ?_
  refine lv_dup hx hb dX10_put_34 rfl ?_
  refine gt_X10 hx hb hts hown hK hP 0 rfl 1 (by decide) wd_192 rfl (gs_eq (ln_lt (ln_set (ln_set hl_fs0)) (by decide))) dX10_put_35 ?_
  refine lv_iconst (v := 1) hx hb dX10_put_38 (by decide) ?_
  refine lv_iadd hx hb dX10_put_39 ?_
  refine tov (v := 4) (by decide) ?_
  refine pt_X10 hx hb hts hown hK hP hD hS 0 rfl 1 (by decide) wd_192 rfl rfl (ty := .int) (v := .int 4) (by decide +kernel) rfl rfl (ln_lt (ln_set (ln_set (ln_set hl_fs0))) (by decide)) dX10_put_40 (fun H locs hP hD hS => ?_)
  have hP : va_P D vwCl [(h0, .inr (10, ((((fs0.set 1 (.int 1)).set 1 (.int 2)).set 1 (.int 3)).set 1 (.int 4)))), (q1, .inl (cI, 1000, .inl f_8))] H := hP
  have hD : va_D A [(h0, .inr (10, ((((fs0.set 1 (.int 1)).set 1 (.int 2)).set 1 (.int 3)).set 1 (.int 4)))), (q1, .inl (cI, 1000, .inl f_8))] := hD
  refine lv_iinc (v := (-8)) (lv' := [(2, .int (-8)), (0, .ref h0), (1, .int p0)]) hx hb dX10_put_43 hl (k := 0) rfl (by decide) (by decide) rfl (fun ls hl => ?_)
  refine lv_goto (tgt := 3) hx hb dX10_put_46 (by decide) ?_
  refine lv_iload_n hx hb dX10_put_3 rfl (lv_at hl 0 rfl) ?_
  refine lv_if_lt (tgt := 49) hx hb dX10_put_4 (by decide) (fun _ => ?_) (fun h => (h (by decide)).elim)
  exact fin_v hx hb hr hlk hK hP hD hS dX10_put_49 (⟨((((fs0.set 1 (.int 1)).set 1 (.int 2)).set 1 (.int 3)).set 1 (.int 4)), f_8, rfl, (ln_set (ln_set (ln_set (ln_set hl_fs0)))), (gs_ne (by decide) (gs_ne (by decide) (gs_ne (by decide) (gs_ne (by decide) hf_fs0_0)))), (gs_eq (ln_lt (ln_set (ln_set (ln_set hl_fs0))) (by decide)))⟩)
set_option maxRecDepth 100000 in
set_option maxHeartbeats 4000000 in
theorem c_X10_put_4 (l : Launch) (D : va_G) (cI cJ cZ : ClassId) (h0 q1 : Nat) (fs0 : List Value) (f1 : Nat → Int32) (p0 : Int32) (hl_fs0 : fs0.length = 8) (hf_fs0_0 : fs0[0]? = some (.ref q1)) (hf_fs0_1 : fs0[1]? = some (.int 4)) : Con_v l yX10_put cX10_put 3 none ({ frames := 0, cells := 0, slots := 0, locals := 0 }) D cI cJ cZ eT [.ref h0, .int p0] [(h0, .inr (10, fs0)), (q1, .inl (cI, 1000, .inl f1))] (fun w => ∃ (fs1 : List Value) (f2 : Nat → Int32), w = [(h0, .inr (10, fs1)), (q1, .inl (cI, 1000, .inl f2))] ∧ fs1.length = 8 ∧ fs1[0]? = some (.ref q1) ∧ fs1[1]? = some (.int 8)) := by
  refine ent_v (by decide) (Nat.le_of_ble_eq_true rfl) ?_
  intro p e s m below meth c A hx hb hml hown hts hr hlk hnm hK hE hA hP hD hS ls hl
  have hown : s.vm.findClass RX10 = some m.cls := hown
  have hl : lv_has ls 3 [(0, .ref h0), (1, .int p0)] := hl
  refine lv_bipush (v := 24) hx hb dX10_put_0 (by decide) ?_
  refine lv_istore_n (lv' := [(2, .int 24), (0, .ref h0), (1, .int p0)]) hx hb dX10_put_2 rfl hl (by decide) rfl (fun ls hl => ?_)
  refine lv_iload_n hx hb dX10_put_3 rfl (lv_at hl 0 rfl) ?_
  refine lv_if_lt (tgt := 49) hx hb dX10_put_4 (by decide) (fun h => absurd h (by decide)) (fun _ => ?_)
  refine lv_aload_n hx hb dX10_put_7 rfl (lv_at hl 1 rfl) ?_
  refine gt_X10 hx hb hts hown hK hP 0 rfl 1 (by decide) wd_192 rfl hf_fs0_1 dX10_put_8 ?_
  refine lv_sipush (v := 1000) hx hb dX10_put_11 (by decide) ?_
  refine lv_icmp_ge (tgt := 43) hx hb dX10_put_14 (by decide) (fun h => absurd h (by decide)) (fun _ => ?_)
  refine lv_aload_n hx hb dX10_put_17 rfl (lv_at hl 1 rfl) ?_
  refine gt_X10 hx hb hts hown hK hP 0 rfl 0 (by decide) wd_190 rfl hf_fs0_0 dX10_put_18 ?_
  refine lv_aload_n hx hb dX10_put_21 rfl (lv_at hl 1 rfl) ?_
  refine gt_X10 hx hb hts hown hK hP 0 rfl 1 (by decide) wd_192 rfl hf_fs0_1 dX10_put_22 ?_
  refine lv_iload_n hx hb dX10_put_25 rfl (lv_at hl 2 rfl) ?_
  refine lv_iload_n hx hb dX10_put_26 rfl (lv_at hl 0 rfl) ?_
  obtain ⟨v_1, ev_1⟩ : ∃ z : Int32, (p0.toUInt32 >>> ((24 : Int32).toUInt32 &&& Int32.toUInt32 31)).toInt32 = z := ⟨_, rfl⟩
  refine lv_iushr (v := v_1) hx hb dX10_put_27 ev_1 ?_
  refine lv_sipush (v := 255) hx hb dX10_put_28 (by decide) ?_
  refine lv_iand hx hb dX10_put_31 ?_
  refine va_iast hx hb hK hP hD hS 1 0 rfl rfl (vp_in_c (by decide)) dX10_put_32 (fun H locs hP hD hS => ?_)
  obtain ⟨f_2, ef_2⟩ : ∃ z, z = upd f1 (4 : Int32).toNatClampNeg (v_1 &&& 255) := ⟨_, rfl⟩
  rw [← ef_2] at hP hD
  have hP : va_P D vwCl [(h0, .inr (10, fs0)), (q1, .inl (cI, 1000, .inl f_2))] H := hP
  have hD : va_D A [(h0, .inr (10, fs0)), (q1, .inl (cI, 1000, .inl f_2))] := hD
  refine lv_aload_n hx hb dX10_put_33 rfl (lv_at hl 1 rfl) ?_
  refine lv_dup hx hb dX10_put_34 rfl ?_
  refine gt_X10 hx hb hts hown hK hP 0 rfl 1 (by decide) wd_192 rfl hf_fs0_1 dX10_put_35 ?_
  refine lv_iconst (v := 1) hx hb dX10_put_38 (by decide) ?_
  refine lv_iadd hx hb dX10_put_39 ?_
  refine tov (v := 5) (by decide) ?_
  refine pt_X10 hx hb hts hown hK hP hD hS 0 rfl 1 (by decide) wd_192 rfl rfl (ty := .int) (v := .int 5) (by decide +kernel) rfl rfl (ln_lt hl_fs0 (by decide)) dX10_put_40 (fun H locs hP hD hS => ?_)
  have hP : va_P D vwCl [(h0, .inr (10, (fs0.set 1 (.int 5)))), (q1, .inl (cI, 1000, .inl f_2))] H := hP
  have hD : va_D A [(h0, .inr (10, (fs0.set 1 (.int 5)))), (q1, .inl (cI, 1000, .inl f_2))] := hD
  refine lv_iinc (v := 16) (lv' := [(2, .int 16), (0, .ref h0), (1, .int p0)]) hx hb dX10_put_43 hl (k := 0) rfl (by decide) (by decide) rfl (fun ls hl => ?_)
  refine lv_goto (tgt := 3) hx hb dX10_put_46 (by decide) ?_
  refine lv_iload_n hx hb dX10_put_3 rfl (lv_at hl 0 rfl) ?_
  refine lv_if_lt (tgt := 49) hx hb dX10_put_4 (by decide) (fun h => absurd h (by decide)) (fun _ => ?_)
  refine lv_aload_n hx hb dX10_put_7 rfl (lv_at hl 1 rfl) ?_
  refine gt_X10 hx hb hts hown hK hP 0 rfl 1 (by decide) wd_192 rfl (gs_eq (ln_lt hl_fs0 (by decide))) dX10_put_8 ?_
  refine lv_sipush (v := 1000) hx hb dX10_put_11 (by decide) ?_
  refine lv_icmp_ge (tgt := 43) hx hb dX10_put_14 (by decide) (fun h => absurd h (by decide)) (fun _ => ?_)
  refine lv_aload_n hx hb dX10_put_17 rfl (lv_at hl 1 rfl) ?_
  refine gt_X10 hx hb hts hown hK hP 0 rfl 0 (by decide) wd_190 rfl (gs_ne (by decide) hf_fs0_0) dX10_put_18 ?_
  refine lv_aload_n hx hb dX10_put_21 rfl (lv_at hl 1 rfl) ?_
  refine gt_X10 hx hb hts hown hK hP 0 rfl 1 (by decide) wd_192 rfl (gs_eq (ln_lt hl_fs0 (by decide))) dX10_put_22 ?_
  refine lv_iload_n hx hb dX10_put_25 rfl (lv_at hl 2 rfl) ?_
  refine lv_iload_n hx hb dX10_put_26 rfl (lv_at hl 0 rfl) ?_
  obtain ⟨v_3, ev_3⟩ : ∃ z : Int32, (p0.toUInt32 >>> ((16 : Int32).toUInt32 &&& Int32.toUInt32 31)).toInt32 = z := ⟨_, rfl⟩
  refine lv_iushr (v := v_3) hx hb dX10_put_27 ev_3 ?_
  refine lv_sipush (v := 255) hx hb dX10_put_28 (by decide) ?_
  refine lv_iand hx hb dX10_put_31 ?_
  refine va_iast hx hb hK hP hD hS 1 0 rfl rfl (vp_in_c (by decide)) dX10_put_32 (fun H locs hP hD hS => ?_)
  obtain ⟨f_4, ef_4⟩ : ∃ z, z = upd f_2 (5 : Int32).toNatClampNeg (v_3 &&& 255) := ⟨_, rfl⟩
  rw [← ef_4] at hP hD
  have hP : va_P D vwCl [(h0, .inr (10, (fs0.set 1 (.int 5)))), (q1, .inl (cI, 1000, .inl f_4))] H := hP
  have hD : va_D A [(h0, .inr (10, (fs0.set 1 (.int 5)))), (q1, .inl (cI, 1000, .inl f_4))] := hD
  refine lv_aload_n hx hb dX10_put_33 rfl (lv_at hl 1 rfl) ?_
  refine lv_dup hx hb dX10_put_34 rfl ?_
  refine gt_X10 hx hb hts hown hK hP 0 rfl 1 (by decide) wd_192 rfl (gs_eq (ln_lt hl_fs0 (by decide))) dX10_put_35 ?_
  refine lv_iconst (v := 1) hx hb dX10_put_38 (by decide) ?_
  refine lv_iadd hx hb dX10_put_39 ?_
  refine tov (v := 6) (by decide) ?_
  refine pt_X10 hx hb hts hown hK hP hD hS 0 rfl 1 (by decide) wd_192 rfl rfl (ty := .int) (v := .int 6) (by decide +kernel) rfl rfl (ln_lt (ln_set hl_fs0) (by decide)) dX10_put_40 (fun H locs hP hD hS => ?_)
  have hP : va_P D vwCl [(h0, .inr (10, ((fs0.set 1 (.int 5)).set 1 (.int 6)))), (q1, .inl (cI, 1000, .inl f_4))] H := hP
  have hD : va_D A [(h0, .inr (10, ((fs0.set 1 (.int 5)).set 1 (.int 6)))), (q1, .inl (cI, 1000, .inl f_4))] := hD
  refine lv_iinc (v := 8) (lv' := [(2, .int 8), (0, .ref h0), (1, .int p0)]) hx hb dX10_put_43 hl (k := 0) rfl (by decide) (by decide) rfl (fun ls hl => ?_)
  refine lv_goto (tgt := 3) hx hb dX10_put_46 (by decide) ?_
  refine lv_iload_n hx hb dX10_put_3 rfl (lv_at hl 0 rfl) ?_
  refine lv_if_lt (tgt := 49) hx hb dX10_put_4 (by decide) (fun h => absurd h (by decide)) (fun _ => ?_)
  refine lv_aload_n hx hb dX10_put_7 rfl (lv_at hl 1 rfl) ?_
  refine gt_X10 hx hb hts hown hK hP 0 rfl 1 (by decide) wd_192 rfl (gs_eq (ln_lt (ln_set hl_fs0) (by decide))) dX10_put_8 ?_
  refine lv_sipush (v := 1000) hx hb dX10_put_11 (by decide) ?_
  refine lv_icmp_ge (tgt := 43) hx hb dX10_put_14 (by decide) (fun h => absurd h (by decide)) (fun _ => ?_)
  refine lv_aload_n hx hb dX10_put_17 rfl (lv_at hl 1 rfl) ?_
  refine gt_X10 hx hb hts hown hK hP 0 rfl 0 (by decide) wd_190 rfl (gs_ne (by decide) (gs_ne (by decide) hf_fs0_0)) dX10_put_18 ?_
  refine lv_aload_n hx hb dX10_put_21 rfl (lv_at hl 1 rfl) ?_
  refine gt_X10 hx hb hts hown hK hP 0 rfl 1 (by decide) wd_192 rfl (gs_eq (ln_lt (ln_set hl_fs0) (by decide))) dX10_put_22 ?_
  refine lv_iload_n hx hb dX10_put_25 rfl (lv_at hl 2 rfl) ?_
  refine lv_iload_n hx hb dX10_put_26 rfl (lv_at hl 0 rfl) ?_
  obtain ⟨v_5, ev_5⟩ : ∃ z : Int32, (p0.toUInt32 >>> ((8 : Int32).toUInt32 &&& Int32.toUInt32 31)).toInt32 = z := ⟨_, rfl⟩
  refine lv_iushr (v := v_5) hx hb dX10_put_27 ev_5 ?_
  refine lv_sipush (v := 255) hx hb dX10_put_28 (by decide) ?_
  refine lv_iand hx hb dX10_put_31 ?_
  refine va_iast hx hb hK hP hD hS 1 0 rfl rfl (vp_in_c (by decide)) dX10_put_32 (fun H locs hP hD hS => ?_)
  obtain ⟨f_6, ef_6⟩ : ∃ z, z = upd f_4 (6 : Int32).toNatClampNeg (v_5 &&& 255) := ⟨_, rfl⟩
  rw [← ef_6] at hP hD
  have hP : va_P D vwCl [(h0, .inr (10, ((fs0.set 1 (.int 5)).set 1 (.int 6)))), (q1, .inl (cI, 1000, .inl f_6))] H := hP
  have hD : va_D A [(h0, .inr (10, ((fs0.set 1 (.int 5)).set 1 (.int 6)))), (q1, .inl (cI, 1000, .inl f_6))] := hD
  refine lv_aload_n hx hb dX10_put_33 rfl (lv_at hl 1 rfl) ?_
  refine lv_dup hx hb dX10_put_34 rfl ?_
  refine gt_X10 hx hb hts hown hK hP 0 rfl 1 (by decide) wd_192 rfl (gs_eq (ln_lt (ln_set hl_fs0) (by decide))) dX10_put_35 ?_
  refine lv_iconst (v := 1) hx hb dX10_put_38 (by decide) ?_
  refine lv_iadd hx hb dX10_put_39 ?_
  refine tov (v := 7) (by decide) ?_
  refine pt_X10 hx hb hts hown hK hP hD hS 0 rfl 1 (by decide) wd_192 rfl rfl (ty := .int) (v := .int 7) (by decide +kernel) rfl rfl (ln_lt (ln_set (ln_set hl_fs0)) (by decide)) dX10_put_40 (fun H locs hP hD hS => ?_)
  have hP : va_P D vwCl [(h0, .inr (10, (((fs0.set 1 (.int 5)).set 1 (.int 6)).set 1 (.int 7)))), (q1, .inl (cI, 1000, .inl f_6))] H := hP
  have hD : va_D A [(h0, .inr (10, (((fs0.set 1 (.int 5)).set 1 (.int 6)).set 1 (.int 7)))), (q1, .inl (cI, 1000, .inl f_6))] := hD
  refine lv_iinc (v := 0) (lv' := [(2, .int 0), (0, .ref h0), (1, .int p0)]) hx hb dX10_put_43 hl (k := 0) rfl (by decide) (by decide) rfl (fun ls hl => ?_)
  refine lv_goto (tgt := 3) hx hb dX10_put_46 (by decide) ?_
  refine lv_iload_n hx hb dX10_put_3 rfl (lv_at hl 0 rfl) ?_
  refine lv_if_lt (tgt := 49) hx hb dX10_put_4 (by decide) (fun h => absurd h (by decide)) (fun _ => ?_)
  refine lv_aload_n hx hb dX10_put_7 rfl (lv_at hl 1 rfl) ?_
  refine gt_X10 hx hb hts hown hK hP 0 rfl 1 (by decide) wd_192 rfl (gs_eq (ln_lt (ln_set (ln_set hl_fs0)) (by decide))) dX10_put_8 ?_
  refine lv_sipush (v := 1000) hx hb dX10_put_11 (by decide) ?_
  refine lv_icmp_ge (tgt := 43) hx hb dX10_put_14 (by decide) (fun h => absurd h (by decide)) (fun _ => ?_)
  refine lv_aload_n hx hb dX10_put_17 rfl (lv_at hl 1 rfl) ?_
  refine gt_X10 hx hb hts hown hK hP 0 rfl 0 (by decide) wd_190 rfl (gs_ne (by decide) (gs_ne (by decide) (gs_ne (by decide) hf_fs0_0))) dX10_put_18 ?_
  refine lv_aload_n hx hb dX10_put_21 rfl (lv_at hl 1 rfl) ?_
  refine gt_X10 hx hb hts hown hK hP 0 rfl 1 (by decide) wd_192 rfl (gs_eq (ln_lt (ln_set (ln_set hl_fs0)) (by decide))) dX10_put_22 ?_
  refine lv_iload_n hx hb dX10_put_25 rfl (lv_at hl 2 rfl) ?_
  refine lv_iload_n hx hb dX10_put_26 rfl (lv_at hl 0 rfl) ?_
  obtain ⟨v_7, ev_7⟩ : ∃ z : Int32, (p0.toUInt32 >>> ((0 : Int32).toUInt32 &&& Int32.toUInt32 31)).toInt32 = z := ⟨_, rfl⟩
  refine lv_iushr (v := v_7) hx hb dX10_put_27 ev_7 ?_
  refine lv_sipush (v := 255) hx hb dX10_put_28 (by decide) ?_
  refine lv_iand hx hb dX10_put_31 ?_
  refine va_iast hx hb hK hP hD hS 1 0 rfl rfl (vp_in_c (by decide)) dX10_put_32 (fun H locs hP hD hS => ?_)
  obtain ⟨f_8, ef_8⟩ : ∃ z, z = upd f_6 (7 : Int32).toNatClampNeg (v_7 &&& 255) := ⟨_, rfl⟩
  rw [← ef_8] at hP hD
  have hP : va_P D vwCl [(h0, .inr (10, (((fs0.set 1 (.int 5)).set 1 (.int 6)).set 1 (.int 7)))), (q1, .inl (cI, 1000, .inl f_8))] H := hP
  have hD : va_D A [(h0, .inr (10, (((fs0.set 1 (.int 5)).set 1 (.int 6)).set 1 (.int 7)))), (q1, .inl (cI, 1000, .inl f_8))] := hD
  refine lv_aload_n hx hb dX10_put_33 rfl (lv_at hl 1 rfl) ?_
  refine lv_dup hx hb dX10_put_34 rfl ?_
  refine gt_X10 hx hb hts hown hK hP 0 rfl 1 (by decide) wd_192 rfl (gs_eq (ln_lt (ln_set (ln_set hl_fs0)) (by decide))) dX10_put_35 ?_
  refine lv_iconst (v := 1) hx hb dX10_put_38 (by decide) ?_
  refine lv_iadd hx hb dX10_put_39 ?_
  refine tov (v := 8) (by decide) ?_
  refine pt_X10 hx hb hts hown hK hP hD hS 0 rfl 1 (by decide) wd_192 rfl rfl (ty := .int) (v := .int 8) (by decide +kernel) rfl rfl (ln_lt (ln_set (ln_set (ln_set hl_fs0))) (by decide)) dX10_put_40 (fun H locs hP hD hS => ?_)
  have hP : va_P D vwCl [(h0, .inr (10, ((((fs0.set 1 (.int 5)).set 1 (.int 6)).set 1 (.int 7)).set 1 (.int 8)))), (q1, .inl (cI, 1000, .inl f_8))] H := hP
  have hD : va_D A [(h0, .inr (10, ((((fs0.set 1 (.int 5)).set 1 (.int 6)).set 1 (.int 7)).set 1 (.int 8)))), (q1, .inl (cI, 1000, .inl f_8))] := hD
  refine lv_iinc (v := (-8)) (lv' := [(2, .int (-8)), (0, .ref h0), (1, .int p0)]) hx hb dX10_put_43 hl (k := 0) rfl (by decide) (by decide) rfl (fun ls hl => ?_)
  refine lv_goto (tgt := 3) hx hb dX10_put_46 (by decide) ?_
  refine lv_iload_n hx hb dX10_put_3 rfl (lv_at hl 0 rfl) ?_
  refine lv_if_lt (tgt := 49) hx hb dX10_put_4 (by decide) (fun _ => ?_) (fun h => (h (by decide)).elim)
  exact fin_v hx hb hr hlk hK hP hD hS dX10_put_49 (⟨((((fs0.set 1 (.int 5)).set 1 (.int 6)).set 1 (.int 7)).set 1 (.int 8)), f_8, rfl, (ln_set (ln_set (ln_set (ln_set hl_fs0)))), (gs_ne (by decide) (gs_ne (by decide) (gs_ne (by decide) (gs_ne (by decide) hf_fs0_0)))), (gs_eq (ln_lt (ln_set (ln_set (ln_set hl_fs0))) (by decide)))⟩)
set_option maxRecDepth 100000 in
set_option maxHeartbeats 4000000 in
theorem c_X10_put_8 (l : Launch) (D : va_G) (cI cJ cZ : ClassId) (h0 q1 : Nat) (fs0 : List Value) (f1 : Nat → Int32) (p0 : Int32) (hl_fs0 : fs0.length = 8) (hf_fs0_0 : fs0[0]? = some (.ref q1)) (hf_fs0_1 : fs0[1]? = some (.int 8)) : Con_v l yX10_put cX10_put 3 none ({ frames := 0, cells := 0, slots := 0, locals := 0 }) D cI cJ cZ eT [.ref h0, .int p0] [(h0, .inr (10, fs0)), (q1, .inl (cI, 1000, .inl f1))] (fun w => ∃ (fs1 : List Value) (f2 : Nat → Int32), w = [(h0, .inr (10, fs1)), (q1, .inl (cI, 1000, .inl f2))] ∧ fs1.length = 8 ∧ fs1[0]? = some (.ref q1) ∧ fs1[1]? = some (.int 12)) := by
  refine ent_v (by decide) (Nat.le_of_ble_eq_true rfl) ?_
  intro p e s m below meth c A hx hb hml hown hts hr hlk hnm hK hE hA hP hD hS ls hl
  have hown : s.vm.findClass RX10 = some m.cls := hown
  have hl : lv_has ls 3 [(0, .ref h0), (1, .int p0)] := hl
  refine lv_bipush (v := 24) hx hb dX10_put_0 (by decide) ?_
  refine lv_istore_n (lv' := [(2, .int 24), (0, .ref h0), (1, .int p0)]) hx hb dX10_put_2 rfl hl (by decide) rfl (fun ls hl => ?_)
  refine lv_iload_n hx hb dX10_put_3 rfl (lv_at hl 0 rfl) ?_
  refine lv_if_lt (tgt := 49) hx hb dX10_put_4 (by decide) (fun h => absurd h (by decide)) (fun _ => ?_)
  refine lv_aload_n hx hb dX10_put_7 rfl (lv_at hl 1 rfl) ?_
  refine gt_X10 hx hb hts hown hK hP 0 rfl 1 (by decide) wd_192 rfl hf_fs0_1 dX10_put_8 ?_
  refine lv_sipush (v := 1000) hx hb dX10_put_11 (by decide) ?_
  refine lv_icmp_ge (tgt := 43) hx hb dX10_put_14 (by decide) (fun h => absurd h (by decide)) (fun _ => ?_)
  refine lv_aload_n hx hb dX10_put_17 rfl (lv_at hl 1 rfl) ?_
  refine gt_X10 hx hb hts hown hK hP 0 rfl 0 (by decide) wd_190 rfl hf_fs0_0 dX10_put_18 ?_
  refine lv_aload_n hx hb dX10_put_21 rfl (lv_at hl 1 rfl) ?_
  refine gt_X10 hx hb hts hown hK hP 0 rfl 1 (by decide) wd_192 rfl hf_fs0_1 dX10_put_22 ?_
  refine lv_iload_n hx hb dX10_put_25 rfl (lv_at hl 2 rfl) ?_
  refine lv_iload_n hx hb dX10_put_26 rfl (lv_at hl 0 rfl) ?_
  obtain ⟨v_1, ev_1⟩ : ∃ z : Int32, (p0.toUInt32 >>> ((24 : Int32).toUInt32 &&& Int32.toUInt32 31)).toInt32 = z := ⟨_, rfl⟩
  refine lv_iushr (v := v_1) hx hb dX10_put_27 ev_1 ?_
  refine lv_sipush (v := 255) hx hb dX10_put_28 (by decide) ?_
  refine lv_iand hx hb dX10_put_31 ?_
  refine va_iast hx hb hK hP hD hS 1 0 rfl rfl (vp_in_c (by decide)) dX10_put_32 (fun H locs hP hD hS => ?_)
  obtain ⟨f_2, ef_2⟩ : ∃ z, z = upd f1 (8 : Int32).toNatClampNeg (v_1 &&& 255) := ⟨_, rfl⟩
  rw [← ef_2] at hP hD
  have hP : va_P D vwCl [(h0, .inr (10, fs0)), (q1, .inl (cI, 1000, .inl f_2))] H := hP
  have hD : va_D A [(h0, .inr (10, fs0)), (q1, .inl (cI, 1000, .inl f_2))] := hD
  refine lv_aload_n hx hb dX10_put_33 rfl (lv_at hl 1 rfl) ?_
  refine lv_dup hx hb dX10_put_34 rfl ?_
  refine gt_X10 hx hb hts hown hK hP 0 rfl 1 (by decide) wd_192 rfl hf_fs0_1 dX10_put_35 ?_
  refine lv_iconst (v := 1) hx hb dX10_put_38 (by decide) ?_
  refine lv_iadd hx hb dX10_put_39 ?_
  refine tov (v := 9) (by decide) ?_
  refine pt_X10 hx hb hts hown hK hP hD hS 0 rfl 1 (by decide) wd_192 rfl rfl (ty := .int) (v := .int 9) (by decide +kernel) rfl rfl (ln_lt hl_fs0 (by decide)) dX10_put_40 (fun H locs hP hD hS => ?_)
  have hP : va_P D vwCl [(h0, .inr (10, (fs0.set 1 (.int 9)))), (q1, .inl (cI, 1000, .inl f_2))] H := hP
  have hD : va_D A [(h0, .inr (10, (fs0.set 1 (.int 9)))), (q1, .inl (cI, 1000, .inl f_2))] := hD
  refine lv_iinc (v := 16) (lv' := [(2, .int 16), (0, .ref h0), (1, .int p0)]) hx hb dX10_put_43 hl (k := 0) rfl (by decide) (by decide) rfl (fun ls hl => ?_)
  refine lv_goto (tgt := 3) hx hb dX10_put_46 (by decide) ?_
  refine lv_iload_n hx hb dX10_put_3 rfl (lv_at hl 0 rfl) ?_
  refine lv_if_lt (tgt := 49) hx hb dX10_put_4 (by decide) (fun h => absurd h (by decide)) (fun _ => ?_)
  refine lv_aload_n hx hb dX10_put_7 rfl (lv_at hl 1 rfl) ?_
  refine gt_X10 hx hb hts hown hK hP 0 rfl 1 (by decide) wd_192 rfl (gs_eq (ln_lt hl_fs0 (by decide))) dX10_put_8 ?_
  refine lv_sipush (v := 1000) hx hb dX10_put_11 (by decide) ?_
  refine lv_icmp_ge (tgt := 43) hx hb dX10_put_14 (by decide) (fun h => absurd h (by decide)) (fun _ => ?_)
  refine lv_aload_n hx hb dX10_put_17 rfl (lv_at hl 1 rfl) ?_
  refine gt_X10 hx hb hts hown hK hP 0 rfl 0 (by decide) wd_190 rfl (gs_ne (by decide) hf_fs0_0) dX10_put_18 ?_
  refine lv_aload_n hx hb dX10_put_21 rfl (lv_at hl 1 rfl) ?_
  refine gt_X10 hx hb hts hown hK hP 0 rfl 1 (by decide) wd_192 rfl (gs_eq (ln_lt hl_fs0 (by decide))) dX10_put_22 ?_
  refine lv_iload_n hx hb dX10_put_25 rfl (lv_at hl 2 rfl) ?_
  refine lv_iload_n hx hb dX10_put_26 rfl (lv_at hl 0 rfl) ?_
  obtain ⟨v_3, ev_3⟩ : ∃ z : Int32, (p0.toUInt32 >>> ((16 : Int32).toUInt32 &&& Int32.toUInt32 31)).toInt32 = z := ⟨_, rfl⟩
  refine lv_iushr (v := v_3) hx hb dX10_put_27 ev_3 ?_
  refine lv_sipush (v := 255) hx hb dX10_put_28 (by decide) ?_
  refine lv_iand hx hb dX10_put_31 ?_
  refine va_iast hx hb hK hP hD hS 1 0 rfl rfl (vp_in_c (by decide)) dX10_put_32 (fun H locs hP hD hS => ?_)
  obtain ⟨f_4, ef_4⟩ : ∃ z, z = upd f_2 (9 : Int32).toNatClampNeg (v_3 &&& 255) := ⟨_, rfl⟩
  rw [← ef_4] at hP hD
  have hP : va_P D vwCl [(h0, .inr (10, (fs0.set 1 (.int 9)))), (q1, .inl (cI, 1000, .inl f_4))] H := hP
  have hD : va_D A [(h0, .inr (10, (fs0.set 1 (.int 9)))), (q1, .inl (cI, 1000, .inl f_4))] := hD
  refine lv_aload_n hx hb dX10_put_33 rfl (lv_at hl 1 rfl) ?_
  refine lv_dup hx hb dX10_put_34 rfl ?_
  refine gt_X10 hx hb hts hown hK hP 0 rfl 1 (by decide) wd_192 rfl (gs_eq (ln_lt hl_fs0 (by decide))) dX10_put_35 ?_
  refine lv_iconst (v := 1) hx hb dX10_put_38 (by decide) ?_
  refine lv_iadd hx hb dX10_put_39 ?_
  refine tov (v := 10) (by decide) ?_
  refine pt_X10 hx hb hts hown hK hP hD hS 0 rfl 1 (by decide) wd_192 rfl rfl (ty := .int) (v := .int 10) (by decide +kernel) rfl rfl (ln_lt (ln_set hl_fs0) (by decide)) dX10_put_40 (fun H locs hP hD hS => ?_)
  have hP : va_P D vwCl [(h0, .inr (10, ((fs0.set 1 (.int 9)).set 1 (.int 10)))), (q1, .inl (cI, 1000, .inl f_4))] H := hP
  have hD : va_D A [(h0, .inr (10, ((fs0.set 1 (.int 9)).set 1 (.int 10)))), (q1, .inl (cI, 1000, .inl f_4))] := hD
  refine lv_iinc (v := 8) (lv' := [(2, .int 8), (0, .ref h0), (1, .int p0)]) hx hb dX10_put_43 hl (k := 0) rfl (by decide) (by decide) rfl (fun ls hl => ?_)
  refine lv_goto (tgt := 3) hx hb dX10_put_46 (by decide) ?_
  refine lv_iload_n hx hb dX10_put_3 rfl (lv_at hl 0 rfl) ?_
  refine lv_if_lt (tgt := 49) hx hb dX10_put_4 (by decide) (fun h => absurd h (by decide)) (fun _ => ?_)
  refine lv_aload_n hx hb dX10_put_7 rfl (lv_at hl 1 rfl) ?_
  refine gt_X10 hx hb hts hown hK hP 0 rfl 1 (by decide) wd_192 rfl (gs_eq (ln_lt (ln_set hl_fs0) (by decide))) dX10_put_8 ?_
  refine lv_sipush (v := 1000) hx hb dX10_put_11 (by decide) ?_
  refine lv_icmp_ge (tgt := 43) hx hb dX10_put_14 (by decide) (fun h => absurd h (by decide)) (fun _ => ?_)
  refine lv_aload_n hx hb dX10_put_17 rfl (lv_at hl 1 rfl) ?_
  refine gt_X10 hx hb hts hown hK hP 0 rfl 0 (by decide) wd_190 rfl (gs_ne (by decide) (gs_ne (by decide) hf_fs0_0)) dX10_put_18 ?_
  refine lv_aload_n hx hb dX10_put_21 rfl (lv_at hl 1 rfl) ?_
  refine gt_X10 hx hb hts hown hK hP 0 rfl 1 (by decide) wd_192 rfl (gs_eq (ln_lt (ln_set hl_fs0) (by decide))) dX10_put_22 ?_
  refine lv_iload_n hx hb dX10_put_25 rfl (lv_at hl 2 rfl) ?_
  refine lv_iload_n hx hb dX10_put_26 rfl (lv_at hl 0 rfl) ?_
  obtain ⟨v_5, ev_5⟩ : ∃ z : Int32, (p0.toUInt32 >>> ((8 : Int32).toUInt32 &&& Int32.toUInt32 31)).toInt32 = z := ⟨_, rfl⟩
  refine lv_iushr (v := v_5) hx hb dX10_put_27 ev_5 ?_
  refine lv_sipush (v := 255) hx hb dX10_put_28 (by decide) ?_
  refine lv_iand hx hb dX10_put_31 ?_
  refine va_iast hx hb hK hP hD hS 1 0 rfl rfl (vp_in_c (by decide)) dX10_put_32 (fun H locs hP hD hS => ?_)
  obtain ⟨f_6, ef_6⟩ : ∃ z, z = upd f_4 (10 : Int32).toNatClampNeg (v_5 &&& 255) := ⟨_, rfl⟩
  rw [← ef_6] at hP hD
  have hP : va_P D vwCl [(h0, .inr (10, ((fs0.set 1 (.int 9)).set 1 (.int 10)))), (q1, .inl (cI, 1000, .inl f_6))] H := hP
  have hD : va_D A [(h0, .inr (10, ((fs0.set 1 (.int 9)).set 1 (.int 10)))), (q1, .inl (cI, 1000, .inl f_6))] := hD
  refine lv_aload_n hx hb dX10_put_33 rfl (lv_at hl 1 rfl) ?_
  refine lv_dup hx hb dX10_put_34 rfl ?_
  refine gt_X10 hx hb hts hown hK hP 0 rfl 1 (by decide) wd_192 rfl (gs_eq (ln_lt (ln_set hl_fs0) (by decide))) dX10_put_35 ?_
  refine lv_iconst (v := 1) hx hb dX10_put_38 (by decide) ?_
  refine lv_iadd hx hb dX10_put_39 ?_
  refine tov (v := 11) (by decide) ?_
  refine pt_X10 hx hb hts hown hK hP hD hS 0 rfl 1 (by decide) wd_192 rfl rfl (ty := .int) (v := .int 11) (by decide +kernel) rfl rfl (ln_lt (ln_set (ln_set hl_fs0)) (by decide)) dX10_put_40 (fun H locs hP hD hS => ?_)
  have hP : va_P D vwCl [(h0, .inr (10, (((fs0.set 1 (.int 9)).set 1 (.int 10)).set 1 (.int 11)))), (q1, .inl (cI, 1000, .inl f_6))] H := hP
  have hD : va_D A [(h0, .inr (10, (((fs0.set 1 (.int 9)).set 1 (.int 10)).set 1 (.int 11)))), (q1, .inl (cI, 1000, .inl f_6))] := hD
  refine lv_iinc (v := 0) (lv' := [(2, .int 0), (0, .ref h0), (1, .int p0)]) hx hb dX10_put_43 hl (k := 0) rfl (by decide) (by decide) rfl (fun ls hl => ?_)
  refine lv_goto (tgt := 3) hx hb dX10_put_46 (by decide) ?_
  refine lv_iload_n hx hb dX10_put_3 rfl (lv_at hl 0 rfl) ?_
  refine lv_if_lt (tgt := 49) hx hb dX10_put_4 (by decide) (fun h => absurd h (by decide)) (fun _ => ?_)
  refine lv_aload_n hx hb dX10_put_7 rfl (lv_at hl 1 rfl) ?_
  refine gt_X10 hx hb hts hown hK hP 0 rfl 1 (by decide) wd_192 rfl (gs_eq (ln_lt (ln_set (ln_set hl_fs0)) (by decide))) dX10_put_8 ?_
  refine lv_sipush (v := 1000) hx hb dX10_put_11 (by decide) ?_
  refine lv_icmp_ge (tgt := 43) hx hb dX10_put_14 (by decide) (fun h => absurd h (by decide)) (fun _ => ?_)
  refine lv_aload_n hx hb dX10_put_17 rfl (lv_at hl 1 rfl) ?_
  refine gt_X10 hx hb hts hown hK hP 0 rfl 0 (by decide) wd_190 rfl (gs_ne (by decide) (gs_ne (by decide) (gs_ne (by decide) hf_fs0_0))) dX10_put_18 ?_
  refine lv_aload_n hx hb dX10_put_21 rfl (lv_at hl 1 rfl) ?_
  refine gt_X10 hx hb hts hown hK hP 0 rfl 1 (by decide) wd_192 rfl (gs_eq (ln_lt (ln_set (ln_set hl_fs0)) (by decide))) dX10_put_22 ?_
  refine lv_iload_n hx hb dX10_put_25 rfl (lv_at hl 2 rfl) ?_
  refine lv_iload_n hx hb dX10_put_26 rfl (lv_at hl 0 rfl) ?_
  obtain ⟨v_7, ev_7⟩ : ∃ z : Int32, (p0.toUInt32 >>> ((0 : Int32).toUInt32 &&& Int32.toUInt32 31)).toInt32 = z := ⟨_, rfl⟩
  refine lv_iushr (v := v_7) hx hb dX10_put_27 ev_7 ?_
  refine lv_sipush (v := 255) hx hb dX10_put_28 (by decide) ?_
  refine lv_iand hx hb dX10_put_31 ?_
  refine va_iast hx hb hK hP hD hS 1 0 rfl rfl (vp_in_c (by decide)) dX10_put_32 (fun H locs hP hD hS => ?_)
  obtain ⟨f_8, ef_8⟩ : ∃ z, z = upd f_6 (11 : Int32).toNatClampNeg (v_7 &&& 255) := ⟨_, rfl⟩
  rw [← ef_8] at hP hD
  have hP : va_P D vwCl [(h0, .inr (10, (((fs0.set 1 (.int 9)).set 1 (.int 10)).set 1 (.int 11)))), (q1, .inl (cI, 1000, .inl f_8))] H := hP
  have hD : va_D A [(h0, .inr (10, (((fs0.set 1 (.int 9)).set 1 (.int 10)).set 1 (.int 11)))), (q1, .inl (cI, 1000, .inl f_8))] := hD
  refine lv_aload_n hx hb dX10_put_33 rfl (lv_at hl 1 rfl) ?_
  refine lv_dup hx hb dX10_put_34 rfl ?_
  refine gt_X10 hx hb hts hown hK hP 0 rfl 1 (by decide) wd_192 rfl (gs_eq (ln_lt (ln_set (ln_set hl_fs0)) (by decide))) dX10_put_35 ?_
  refine lv_iconst (v := 1) hx hb dX10_put_38 (by decide) ?_
  refine lv_iadd hx hb dX10_put_39 ?_
  refine tov (v := 12) (by decide) ?_
  refine pt_X10 hx hb hts hown hK hP hD hS 0 rfl 1 (by decide) wd_192 rfl rfl (ty := .int) (v := .int 12) (by decide +kernel) rfl rfl (ln_lt (ln_set (ln_set (ln_set hl_fs0))) (by decide)) dX10_put_40 (fun H locs hP hD hS => ?_)
  have hP : va_P D vwCl [(h0, .inr (10, ((((fs0.set 1 (.int 9)).set 1 (.int 10)).set 1 (.int 11)).set 1 (.int 12)))), (q1, .inl (cI, 1000, .inl f_8))] H := hP
  have hD : va_D A [(h0, .inr (10, ((((fs0.set 1 (.int 9)).set 1 (.int 10)).set 1 (.int 11)).set 1 (.int 12)))), (q1, .inl (cI, 1000, .inl f_8))] := hD
  refine lv_iinc (v := (-8)) (lv' := [(2, .int (-8)), (0, .ref h0), (1, .int p0)]) hx hb dX10_put_43 hl (k := 0) rfl (by decide) (by decide) rfl (fun ls hl => ?_)
  refine lv_goto (tgt := 3) hx hb dX10_put_46 (by decide) ?_
  refine lv_iload_n hx hb dX10_put_3 rfl (lv_at hl 0 rfl) ?_
  refine lv_if_lt (tgt := 49) hx hb dX10_put_4 (by decide) (fun _ => ?_) (fun h => (h (by decide)).elim)
  exact fin_v hx hb hr hlk hK hP hD hS dX10_put_49 (⟨((((fs0.set 1 (.int 9)).set 1 (.int 10)).set 1 (.int 11)).set 1 (.int 12)), f_8, rfl, (ln_set (ln_set (ln_set (ln_set hl_fs0)))), (gs_ne (by decide) (gs_ne (by decide) (gs_ne (by decide) (gs_ne (by decide) hf_fs0_0)))), (gs_eq (ln_lt (ln_set (ln_set (ln_set hl_fs0))) (by decide)))⟩)
set_option maxRecDepth 100000 in
set_option maxHeartbeats 4000000 in
theorem c_X10_put_12 (l : Launch) (D : va_G) (cI cJ cZ : ClassId) (h0 q1 : Nat) (fs0 : List Value) (f1 : Nat → Int32) (p0 : Int32) (hl_fs0 : fs0.length = 8) (hf_fs0_0 : fs0[0]? = some (.ref q1)) (hf_fs0_1 : fs0[1]? = some (.int 12)) : Con_v l yX10_put cX10_put 3 none ({ frames := 0, cells := 0, slots := 0, locals := 0 }) D cI cJ cZ eT [.ref h0, .int p0] [(h0, .inr (10, fs0)), (q1, .inl (cI, 1000, .inl f1))] (fun w => ∃ (fs1 : List Value) (f2 : Nat → Int32), w = [(h0, .inr (10, fs1)), (q1, .inl (cI, 1000, .inl f2))] ∧ fs1.length = 8 ∧ fs1[0]? = some (.ref q1) ∧ fs1[1]? = some (.int 16)) := by
  refine ent_v (by decide) (Nat.le_of_ble_eq_true rfl) ?_
  intro p e s m below meth c A hx hb hml hown hts hr hlk hnm hK hE hA hP hD hS ls hl
  have hown : s.vm.findClass RX10 = some m.cls := hown
  have hl : lv_has ls 3 [(0, .ref h0), (1, .int p0)] := hl
  refine lv_bipush (v := 24) hx hb dX10_put_0 (by decide) ?_
  refine lv_istore_n (lv' := [(2, .int 24), (0, .ref h0), (1, .int p0)]) hx hb dX10_put_2 rfl hl (by decide) rfl (fun ls hl => ?_)
  refine lv_iload_n hx hb dX10_put_3 rfl (lv_at hl 0 rfl) ?_
  refine lv_if_lt (tgt := 49) hx hb dX10_put_4 (by decide) (fun h => absurd h (by decide)) (fun _ => ?_)
  refine lv_aload_n hx hb dX10_put_7 rfl (lv_at hl 1 rfl) ?_
  refine gt_X10 hx hb hts hown hK hP 0 rfl 1 (by decide) wd_192 rfl hf_fs0_1 dX10_put_8 ?_
  refine lv_sipush (v := 1000) hx hb dX10_put_11 (by decide) ?_
  refine lv_icmp_ge (tgt := 43) hx hb dX10_put_14 (by decide) (fun h => absurd h (by decide)) (fun _ => ?_)
  refine lv_aload_n hx hb dX10_put_17 rfl (lv_at hl 1 rfl) ?_
  refine gt_X10 hx hb hts hown hK hP 0 rfl 0 (by decide) wd_190 rfl hf_fs0_0 dX10_put_18 ?_
  refine lv_aload_n hx hb dX10_put_21 rfl (lv_at hl 1 rfl) ?_
  refine gt_X10 hx hb hts hown hK hP 0 rfl 1 (by decide) wd_192 rfl hf_fs0_1 dX10_put_22 ?_
  refine lv_iload_n hx hb dX10_put_25 rfl (lv_at hl 2 rfl) ?_
  refine lv_iload_n hx hb dX10_put_26 rfl (lv_at hl 0 rfl) ?_
  obtain ⟨v_1, ev_1⟩ : ∃ z : Int32, (p0.toUInt32 >>> ((24 : Int32).toUInt32 &&& Int32.toUInt32 31)).toInt32 = z := ⟨_, rfl⟩
  refine lv_iushr (v := v_1) hx hb dX10_put_27 ev_1 ?_
  refine lv_sipush (v := 255) hx hb dX10_put_28 (by decide) ?_
  refine lv_iand hx hb dX10_put_31 ?_
  refine va_iast hx hb hK hP hD hS 1 0 rfl rfl (vp_in_c (by decide)) dX10_put_32 (fun H locs hP hD hS => ?_)
  obtain ⟨f_2, ef_2⟩ : ∃ z, z = upd f1 (12 : Int32).toNatClampNeg (v_1 &&& 255) := ⟨_, rfl⟩
  rw [← ef_2] at hP hD
  have hP : va_P D vwCl [(h0, .inr (10, fs0)), (q1, .inl (cI, 1000, .inl f_2))] H := hP
  have hD : va_D A [(h0, .inr (10, fs0)), (q1, .inl (cI, 1000, .inl f_2))] := hD
  refine lv_aload_n hx hb dX10_put_33 rfl (lv_at hl 1 rfl) ?_
  refine lv_dup hx hb dX10_put_34 rfl ?_
  refine gt_X10 hx hb hts hown hK hP 0 rfl 1 (by decide) wd_192 rfl hf_fs0_1 dX10_put_35 ?_
  refine lv_iconst (v := 1) hx hb dX10_put_38 (by decide) ?_
  refine lv_iadd hx hb dX10_put_39 ?_
  refine tov (v := 13) (by decide) ?_
  refine pt_X10 hx hb hts hown hK hP hD hS 0 rfl 1 (by decide) wd_192 rfl rfl (ty := .int) (v := .int 13) (by decide +kernel) rfl rfl (ln_lt hl_fs0 (by decide)) dX10_put_40 (fun H locs hP hD hS => ?_)
  have hP : va_P D vwCl [(h0, .inr (10, (fs0.set 1 (.int 13)))), (q1, .inl (cI, 1000, .inl f_2))] H := hP
  have hD : va_D A [(h0, .inr (10, (fs0.set 1 (.int 13)))), (q1, .inl (cI, 1000, .inl f_2))] := hD
  refine lv_iinc (v := 16) (lv' := [(2, .int 16), (0, .ref h0), (1, .int p0)]) hx hb dX10_put_43 hl (k := 0) rfl (by decide) (by decide) rfl (fun ls hl => ?_)
  refine lv_goto (tgt := 3) hx hb dX10_put_46 (by decide) ?_
  refine lv_iload_n hx hb dX10_put_3 rfl (lv_at hl 0 rfl) ?_
  refine lv_if_lt (tgt := 49) hx hb dX10_put_4 (by decide) (fun h => absurd h (by decide)) (fun _ => ?_)
  refine lv_aload_n hx hb dX10_put_7 rfl (lv_at hl 1 rfl) ?_
  refine gt_X10 hx hb hts hown hK hP 0 rfl 1 (by decide) wd_192 rfl (gs_eq (ln_lt hl_fs0 (by decide))) dX10_put_8 ?_
  refine lv_sipush (v := 1000) hx hb dX10_put_11 (by decide) ?_
  refine lv_icmp_ge (tgt := 43) hx hb dX10_put_14 (by decide) (fun h => absurd h (by decide)) (fun _ => ?_)
  refine lv_aload_n hx hb dX10_put_17 rfl (lv_at hl 1 rfl) ?_
  refine gt_X10 hx hb hts hown hK hP 0 rfl 0 (by decide) wd_190 rfl (gs_ne (by decide) hf_fs0_0) dX10_put_18 ?_
  refine lv_aload_n hx hb dX10_put_21 rfl (lv_at hl 1 rfl) ?_
  refine gt_X10 hx hb hts hown hK hP 0 rfl 1 (by decide) wd_192 rfl (gs_eq (ln_lt hl_fs0 (by decide))) dX10_put_22 ?_
  refine lv_iload_n hx hb dX10_put_25 rfl (lv_at hl 2 rfl) ?_
  refine lv_iload_n hx hb dX10_put_26 rfl (lv_at hl 0 rfl) ?_
  obtain ⟨v_3, ev_3⟩ : ∃ z : Int32, (p0.toUInt32 >>> ((16 : Int32).toUInt32 &&& Int32.toUInt32 31)).toInt32 = z := ⟨_, rfl⟩
  refine lv_iushr (v := v_3) hx hb dX10_put_27 ev_3 ?_
  refine lv_sipush (v := 255) hx hb dX10_put_28 (by decide) ?_
  refine lv_iand hx hb dX10_put_31 ?_
  refine va_iast hx hb hK hP hD hS 1 0 rfl rfl (vp_in_c (by decide)) dX10_put_32 (fun H locs hP hD hS => ?_)
  obtain ⟨f_4, ef_4⟩ : ∃ z, z = upd f_2 (13 : Int32).toNatClampNeg (v_3 &&& 255) := ⟨_, rfl⟩
  rw [← ef_4] at hP hD
  have hP : va_P D vwCl [(h0, .inr (10, (fs0.set 1 (.int 13)))), (q1, .inl (cI, 1000, .inl f_4))] H := hP
  have hD : va_D A [(h0, .inr (10, (fs0.set 1 (.int 13)))), (q1, .inl (cI, 1000, .inl f_4))] := hD
  refine lv_aload_n hx hb dX10_put_33 rfl (lv_at hl 1 rfl) ?_
  refine lv_dup hx hb dX10_put_34 rfl ?_
  refine gt_X10 hx hb hts hown hK hP 0 rfl 1 (by decide) wd_192 rfl (gs_eq (ln_lt hl_fs0 (by decide))) dX10_put_35 ?_
  refine lv_iconst (v := 1) hx hb dX10_put_38 (by decide) ?_
  refine lv_iadd hx hb dX10_put_39 ?_
  refine tov (v := 14) (by decide) ?_
  refine pt_X10 hx hb hts hown hK hP hD hS 0 rfl 1 (by decide) wd_192 rfl rfl (ty := .int) (v := .int 14) (by decide +kernel) rfl rfl (ln_lt (ln_set hl_fs0) (by decide)) dX10_put_40 (fun H locs hP hD hS => ?_)
  have hP : va_P D vwCl [(h0, .inr (10, ((fs0.set 1 (.int 13)).set 1 (.int 14)))), (q1, .inl (cI, 1000, .inl f_4))] H := hP
  have hD : va_D A [(h0, .inr (10, ((fs0.set 1 (.int 13)).set 1 (.int 14)))), (q1, .inl (cI, 1000, .inl f_4))] := hD
  refine lv_iinc (v := 8) (lv' := [(2, .int 8), (0, .ref h0), (1, .int p0)]) hx hb dX10_put_43 hl (k := 0) rfl (by decide) (by decide) rfl (fun ls hl => ?_)
  refine lv_goto (tgt := 3) hx hb dX10_put_46 (by decide) ?_
  refine lv_iload_n hx hb dX10_put_3 rfl (lv_at hl 0 rfl) ?_
  refine lv_if_lt (tgt := 49) hx hb dX10_put_4 (by decide) (fun h => absurd h (by decide)) (fun _ => ?_)
  refine lv_aload_n hx hb dX10_put_7 rfl (lv_at hl 1 rfl) ?_
  refine gt_X10 hx hb hts hown hK hP 0 rfl 1 (by decide) wd_192 rfl (gs_eq (ln_lt (ln_set hl_fs0) (by decide))) dX10_put_8 ?_
  refine lv_sipush (v := 1000) hx hb dX10_put_11 (by decide) ?_
  refine lv_icmp_ge (tgt := 43) hx hb dX10_put_14 (by decide) (fun h => absurd h (by decide)) (fun _ => ?_)
  refine lv_aload_n hx hb dX10_put_17 rfl (lv_at hl 1 rfl) ?_
  refine gt_X10 hx hb hts hown hK hP 0 rfl 0 (by decide) wd_190 rfl (gs_ne (by decide) (gs_ne (by decide) hf_fs0_0)) dX10_put_18 ?_
  refine lv_aload_n hx hb dX10_put_21 rfl (lv_at hl 1 rfl) ?_
  refine gt_X10 hx hb hts hown hK hP 0 rfl 1 (by decide) wd_192 rfl (gs_eq (ln_lt (ln_set hl_fs0) (by decide))) dX10_put_22 ?_
  refine lv_iload_n hx hb dX10_put_25 rfl (lv_at hl 2 rfl) ?_
  refine lv_iload_n hx hb dX10_put_26 rfl (lv_at hl 0 rfl) ?_
  obtain ⟨v_5, ev_5⟩ : ∃ z : Int32, (p0.toUInt32 >>> ((8 : Int32).toUInt32 &&& Int32.toUInt32 31)).toInt32 = z := ⟨_, rfl⟩
  refine lv_iushr (v := v_5) hx hb dX10_put_27 ev_5 ?_
  refine lv_sipush (v := 255) hx hb dX10_put_28 (by decide) ?_
  refine lv_iand hx hb dX10_put_31 ?_
  refine va_iast hx hb hK hP hD hS 1 0 rfl rfl (vp_in_c (by decide)) dX10_put_32 (fun H locs hP hD hS => ?_)
  obtain ⟨f_6, ef_6⟩ : ∃ z, z = upd f_4 (14 : Int32).toNatClampNeg (v_5 &&& 255) := ⟨_, rfl⟩
  rw [← ef_6] at hP hD
  have hP : va_P D vwCl [(h0, .inr (10, ((fs0.set 1 (.int 13)).set 1 (.int 14)))), (q1, .inl (cI, 1000, .inl f_6))] H := hP
  have hD : va_D A [(h0, .inr (10, ((fs0.set 1 (.int 13)).set 1 (.int 14)))), (q1, .inl (cI, 1000, .inl f_6))] := hD
  refine lv_aload_n hx hb dX10_put_33 rfl (lv_at hl 1 rfl) ?_
  refine lv_dup hx hb dX10_put_34 rfl ?_
  refine gt_X10 hx hb hts hown hK hP 0 rfl 1 (by decide) wd_192 rfl (gs_eq (ln_lt (ln_set hl_fs0) (by decide))) dX10_put_35 ?_
  refine lv_iconst (v := 1) hx hb dX10_put_38 (by decide) ?_
  refine lv_iadd hx hb dX10_put_39 ?_
  refine tov (v := 15) (by decide) ?_
  refine pt_X10 hx hb hts hown hK hP hD hS 0 rfl 1 (by decide) wd_192 rfl rfl (ty := .int) (v := .int 15) (by decide +kernel) rfl rfl (ln_lt (ln_set (ln_set hl_fs0)) (by decide)) dX10_put_40 (fun H locs hP hD hS => ?_)
  have hP : va_P D vwCl [(h0, .inr (10, (((fs0.set 1 (.int 13)).set 1 (.int 14)).set 1 (.int 15)))), (q1, .inl (cI, 1000, .inl f_6))] H := hP
  have hD : va_D A [(h0, .inr (10, (((fs0.set 1 (.int 13)).set 1 (.int 14)).set 1 (.int 15)))), (q1, .inl (cI, 1000, .inl f_6))] := hD
  refine lv_iinc (v := 0) (lv' := [(2, .int 0), (0, .ref h0), (1, .int p0)]) hx hb dX10_put_43 hl (k := 0) rfl (by decide) (by decide) rfl (fun ls hl => ?_)
  refine lv_goto (tgt := 3) hx hb dX10_put_46 (by decide) ?_
  refine lv_iload_n hx hb dX10_put_3 rfl (lv_at hl 0 rfl) ?_
  refine lv_if_lt (tgt := 49) hx hb dX10_put_4 (by decide) (fun h => absurd h (by decide)) (fun _ => ?_)
  refine lv_aload_n hx hb dX10_put_7 rfl (lv_at hl 1 rfl) ?_
  refine gt_X10 hx hb hts hown hK hP 0 rfl 1 (by decide) wd_192 rfl (gs_eq (ln_lt (ln_set (ln_set hl_fs0)) (by decide))) dX10_put_8 ?_
  refine lv_sipush (v := 1000) hx hb dX10_put_11 (by decide) ?_
  refine lv_icmp_ge (tgt := 43) hx hb dX10_put_14 (by decide) (fun h => absurd h (by decide)) (fun _ => ?_)
  refine lv_aload_n hx hb dX10_put_17 rfl (lv_at hl 1 rfl) ?_
  refine gt_X10 hx hb hts hown hK hP 0 rfl 0 (by decide) wd_190 rfl (gs_ne (by decide) (gs_ne (by decide) (gs_ne (by decide) hf_fs0_0))) dX10_put_18 ?_
  refine lv_aload_n hx hb dX10_put_21 rfl (lv_at hl 1 rfl) ?_
  refine gt_X10 hx hb hts hown hK hP 0 rfl 1 (by decide) wd_192 rfl (gs_eq (ln_lt (ln_set (ln_set hl_fs0)) (by decide))) dX10_put_22 ?_
  refine lv_iload_n hx hb dX10_put_25 rfl (lv_at hl 2 rfl) ?_
  refine lv_iload_n hx hb dX10_put_26 rfl (lv_at hl 0 rfl) ?_
  obtain ⟨v_7, ev_7⟩ : ∃ z : Int32, (p0.toUInt32 >>> ((0 : Int32).toUInt32 &&& Int32.toUInt32 31)).toInt32 = z := ⟨_, rfl⟩
  refine lv_iushr (v := v_7) hx hb dX10_put_27 ev_7 ?_
  refine lv_sipush (v := 255) hx hb dX10_put_28 (by decide) ?_
  refine lv_iand hx hb dX10_put_31 ?_
  refine va_iast hx hb hK hP hD hS 1 0 rfl rfl (vp_in_c (by decide)) dX10_put_32 (fun H locs hP hD hS => ?_)
  obtain ⟨f_8, ef_8⟩ : ∃ z, z = upd f_6 (15 : Int32).toNatClampNeg (v_7 &&& 255) := ⟨_, rfl⟩
  rw [← ef_8] at hP hD
  have hP : va_P D vwCl [(h0, .inr (10, (((fs0.set 1 (.int 13)).set 1 (.int 14)).set 1 (.int 15)))), (q1, .inl (cI, 1000, .inl f_8))] H := hP
  have hD : va_D A [(h0, .inr (10, (((fs0.set 1 (.int 13)).set 1 (.int 14)).set 1 (.int 15)))), (q1, .inl (cI, 1000, .inl f_8))] := hD
  refine lv_aload_n hx hb dX10_put_33 rfl (lv_at hl 1 rfl) ?_
  refine lv_dup hx hb dX10_put_34 rfl ?_
  refine gt_X10 hx hb hts hown hK hP 0 rfl 1 (by decide) wd_192 rfl (gs_eq (ln_lt (ln_set (ln_set hl_fs0)) (by decide))) dX10_put_35 ?_
  refine lv_iconst (v := 1) hx hb dX10_put_38 (by decide) ?_
  refine lv_iadd hx hb dX10_put_39 ?_
  refine tov (v := 16) (by decide) ?_
  refine pt_X10 hx hb hts hown hK hP hD hS 0 rfl 1 (by decide) wd_192 rfl rfl (ty := .int) (v := .int 16) (by decide +kernel) rfl rfl (ln_lt (ln_set (ln_set (ln_set hl_fs0))) (by decide)) dX10_put_40 (fun H locs hP hD hS => ?_)
  have hP : va_P D vwCl [(h0, .inr (10, ((((fs0.set 1 (.int 13)).set 1 (.int 14)).set 1 (.int 15)).set 1 (.int 16)))), (q1, .inl (cI, 1000, .inl f_8))] H := hP
  have hD : va_D A [(h0, .inr (10, ((((fs0.set 1 (.int 13)).set 1 (.int 14)).set 1 (.int 15)).set 1 (.int 16)))), (q1, .inl (cI, 1000, .inl f_8))] := hD
  refine lv_iinc (v := (-8)) (lv' := [(2, .int (-8)), (0, .ref h0), (1, .int p0)]) hx hb dX10_put_43 hl (k := 0) rfl (by decide) (by decide) rfl (fun ls hl => ?_)
  refine lv_goto (tgt := 3) hx hb dX10_put_46 (by decide) ?_
  refine lv_iload_n hx hb dX10_put_3 rfl (lv_at hl 0 rfl) ?_
  refine lv_if_lt (tgt := 49) hx hb dX10_put_4 (by decide) (fun _ => ?_) (fun h => (h (by decide)).elim)
  exact fin_v hx hb hr hlk hK hP hD hS dX10_put_49 (⟨((((fs0.set 1 (.int 13)).set 1 (.int 14)).set 1 (.int 15)).set 1 (.int 16)), f_8, rfl, (ln_set (ln_set (ln_set (ln_set hl_fs0)))), (gs_ne (by decide) (gs_ne (by decide) (gs_ne (by decide) (gs_ne (by decide) hf_fs0_0)))), (gs_eq (ln_lt (ln_set (ln_set (ln_set hl_fs0))) (by decide)))⟩)
set_option maxRecDepth 100000 in
set_option maxHeartbeats 4000000 in
theorem c_X10_put_16 (l : Launch) (D : va_G) (cI cJ cZ : ClassId) (h0 q1 : Nat) (fs0 : List Value) (f1 : Nat → Int32) (p0 : Int32) (hl_fs0 : fs0.length = 8) (hf_fs0_0 : fs0[0]? = some (.ref q1)) (hf_fs0_1 : fs0[1]? = some (.int 16)) : Con_v l yX10_put cX10_put 3 none ({ frames := 0, cells := 0, slots := 0, locals := 0 }) D cI cJ cZ eT [.ref h0, .int p0] [(h0, .inr (10, fs0)), (q1, .inl (cI, 1000, .inl f1))] (fun w => ∃ (fs1 : List Value) (f2 : Nat → Int32), w = [(h0, .inr (10, fs1)), (q1, .inl (cI, 1000, .inl f2))] ∧ fs1.length = 8 ∧ fs1[0]? = some (.ref q1) ∧ fs1[1]? = some (.int 20)) := by
  refine ent_v (by decide) (Nat.le_of_ble_eq_true rfl) ?_
  intro p e s m below meth c A hx hb hml hown hts hr hlk hnm hK hE hA hP hD hS ls hl
  have hown : s.vm.findClass RX10 = some m.cls := hown
  have hl : lv_has ls 3 [(0, .ref h0), (1, .int p0)] := hl
  refine lv_bipush (v := 24) hx hb dX10_put_0 (by decide) ?_
  refine lv_istore_n (lv' := [(2, .int 24), (0, .ref h0), (1, .int p0)]) hx hb dX10_put_2 rfl hl (by decide) rfl (fun ls hl => ?_)
  refine lv_iload_n hx hb dX10_put_3 rfl (lv_at hl 0 rfl) ?_
  refine lv_if_lt (tgt := 49) hx hb dX10_put_4 (by decide) (fun h => absurd h (by decide)) (fun _ => ?_)
  refine lv_aload_n hx hb dX10_put_7 rfl (lv_at hl 1 rfl) ?_
  refine gt_X10 hx hb hts hown hK hP 0 rfl 1 (by decide) wd_192 rfl hf_fs0_1 dX10_put_8 ?_
  refine lv_sipush (v := 1000) hx hb dX10_put_11 (by decide) ?_
  refine lv_icmp_ge (tgt := 43) hx hb dX10_put_14 (by decide) (fun h => absurd h (by decide)) (fun _ => ?_)
  refine lv_aload_n hx hb dX10_put_17 rfl (lv_at hl 1 rfl) ?_
  refine gt_X10 hx hb hts hown hK hP 0 rfl 0 (by decide) wd_190 rfl hf_fs0_0 dX10_put_18 ?_
  refine lv_aload_n hx hb dX10_put_21 rfl (lv_at hl 1 rfl) ?_
  refine gt_X10 hx hb hts hown hK hP 0 rfl 1 (by decide) wd_192 rfl hf_fs0_1 dX10_put_22 ?_
  refine lv_iload_n hx hb dX10_put_25 rfl (lv_at hl 2 rfl) ?_
  refine lv_iload_n hx hb dX10_put_26 rfl (lv_at hl 0 rfl) ?_
  obtain ⟨v_1, ev_1⟩ : ∃ z : Int32, (p0.toUInt32 >>> ((24 : Int32).toUInt32 &&& Int32.toUInt32 31)).toInt32 = z := ⟨_, rfl⟩
  refine lv_iushr (v := v_1) hx hb dX10_put_27 ev_1 ?_
  refine lv_sipush (v := 255) hx hb dX10_put_28 (by decide) ?_
  refine lv_iand hx hb dX10_put_31 ?_
  refine va_iast hx hb hK hP hD hS 1 0 rfl rfl (vp_in_c (by decide)) dX10_put_32 (fun H locs hP hD hS => ?_)
  obtain ⟨f_2, ef_2⟩ : ∃ z, z = upd f1 (16 : Int32).toNatClampNeg (v_1 &&& 255) := ⟨_, rfl⟩
  rw [← ef_2] at hP hD
  have hP : va_P D vwCl [(h0, .inr (10, fs0)), (q1, .inl (cI, 1000, .inl f_2))] H := hP
  have hD : va_D A [(h0, .inr (10, fs0)), (q1, .inl (cI, 1000, .inl f_2))] := hD
  refine lv_aload_n hx hb dX10_put_33 rfl (lv_at hl 1 rfl) ?_
  refine lv_dup hx hb dX10_put_34 rfl ?_
  refine gt_X10 hx hb hts hown hK hP 0 rfl 1 (by decide) wd_192 rfl hf_fs0_1 dX10_put_35 ?_
  refine lv_iconst (v := 1) hx hb dX10_put_38 (by decide) ?_
  refine lv_iadd hx hb dX10_put_39 ?_
  refine tov (v := 17) (by decide) ?_
  refine pt_X10 hx hb hts hown hK hP hD hS 0 rfl 1 (by decide) wd_192 rfl rfl (ty := .int) (v := .int 17) (by decide +kernel) rfl rfl (ln_lt hl_fs0 (by decide)) dX10_put_40 (fun H locs hP hD hS => ?_)
  have hP : va_P D vwCl [(h0, .inr (10, (fs0.set 1 (.int 17)))), (q1, .inl (cI, 1000, .inl f_2))] H := hP
  have hD : va_D A [(h0, .inr (10, (fs0.set 1 (.int 17)))), (q1, .inl (cI, 1000, .inl f_2))] := hD
  refine lv_iinc (v := 16) (lv' := [(2, .int 16), (0, .ref h0), (1, .int p0)]) hx hb dX10_put_43 hl (k := 0) rfl (by decide) (by decide) rfl (fun ls hl => ?_)
  refine lv_goto (tgt := 3) hx hb dX10_put_46 (by decide) ?_
  refine lv_iload_n hx hb dX10_put_3 rfl (lv_at hl 0 rfl) ?_
  refine lv_if_lt (tgt := 49) hx hb dX10_put_4 (by decide) (fun h => absurd h (by decide)) (fun _ => ?_)
  refine lv_aload_n hx hb dX10_put_7 rfl (lv_at hl 1 rfl) ?_
  refine gt_X10 hx hb hts hown hK hP 0 rfl 1 (by decide) wd_192 rfl (gs_eq (ln_lt hl_fs0 (by decide))) dX10_put_8 ?_
  refine lv_sipush (v := 1000) hx hb dX10_put_11 (by decide) ?_
  refine lv_icmp_ge (tgt := 43) hx hb dX10_put_14 (by decide) (fun h => absurd h (by decide)) (fun _ => ?_)
  refine lv_aload_n hx hb dX10_put_17 rfl (lv_at hl 1 rfl) ?_
  refine gt_X10 hx hb hts hown hK hP 0 rfl 0 (by decide) wd_190 rfl (gs_ne (by decide) hf_fs0_0) dX10_put_18 ?_
  refine lv_aload_n hx hb dX10_put_21 rfl (lv_at hl 1 rfl) ?_
  refine gt_X10 hx hb hts hown hK hP 0 rfl 1 (by decide) wd_192 rfl (gs_eq (ln_lt hl_fs0 (by decide))) dX10_put_22 ?_
  refine lv_iload_n hx hb dX10_put_25 rfl (lv_at hl 2 rfl) ?_
  refine lv_iload_n hx hb dX10_put_26 rfl (lv_at hl 0 rfl) ?_
  obtain ⟨v_3, ev_3⟩ : ∃ z : Int32, (p0.toUInt32 >>> ((16 : Int32).toUInt32 &&& Int32.toUInt32 31)).toInt32 = z := ⟨_, rfl⟩
  refine lv_iushr (v := v_3) hx hb dX10_put_27 ev_3 ?_
  refine lv_sipush (v := 255) hx hb dX10_put_28 (by decide) ?_
  refine lv_iand hx hb dX10_put_31 ?_
  refine va_iast hx hb hK hP hD hS 1 0 rfl rfl (vp_in_c (by decide)) dX10_put_32 (fun H locs hP hD hS => ?_)
  obtain ⟨f_4, ef_4⟩ : ∃ z, z = upd f_2 (17 : Int32).toNatClampNeg (v_3 &&& 255) := ⟨_, rfl⟩
  rw [← ef_4] at hP hD
  have hP : va_P D vwCl [(h0, .inr (10, (fs0.set 1 (.int 17)))), (q1, .inl (cI, 1000, .inl f_4))] H := hP
  have hD : va_D A [(h0, .inr (10, (fs0.set 1 (.int 17)))), (q1, .inl (cI, 1000, .inl f_4))] := hD
  refine lv_aload_n hx hb dX10_put_33 rfl (lv_at hl 1 rfl) ?_
  refine lv_dup hx hb dX10_put_34 rfl ?_
  refine gt_X10 hx hb hts hown hK hP 0 rfl 1 (by decide) wd_192 rfl (gs_eq (ln_lt hl_fs0 (by decide))) dX10_put_35 ?_
  refine lv_iconst (v := 1) hx hb dX10_put_38 (by decide) ?_
  refine lv_iadd hx hb dX10_put_39 ?_
  refine tov (v := 18) (by decide) ?_
  refine pt_X10 hx hb hts hown hK hP hD hS 0 rfl 1 (by decide) wd_192 rfl rfl (ty := .int) (v := .int 18) (by decide +kernel) rfl rfl (ln_lt (ln_set hl_fs0) (by decide)) dX10_put_40 (fun H locs hP hD hS => ?_)
  have hP : va_P D vwCl [(h0, .inr (10, ((fs0.set 1 (.int 17)).set 1 (.int 18)))), (q1, .inl (cI, 1000, .inl f_4))] H := hP
  have hD : va_D A [(h0, .inr (10, ((fs0.set 1 (.int 17)).set 1 (.int 18)))), (q1, .inl (cI, 1000, .inl f_4))] := hD
  refine lv_iinc (v := 8) (lv' := [(2, .int 8), (0, .ref h0), (1, .int p0)]) hx hb dX10_put_43 hl (k := 0) rfl (by decide) (by decide) rfl (fun ls hl => ?_)
  refine lv_goto (tgt := 3) hx hb dX10_put_46 (by decide) ?_
  refine lv_iload_n hx hb dX10_put_3 rfl (lv_at hl 0 rfl) ?_
  refine lv_if_lt (tgt := 49) hx hb dX10_put_4 (by decide) (fun h => absurd h (by decide)) (fun _ => ?_)
  refine lv_aload_n hx hb dX10_put_7 rfl (lv_at hl 1 rfl) ?_
  refine gt_X10 hx hb hts hown hK hP 0 rfl 1 (by decide) wd_192 rfl (gs_eq (ln_lt (ln_set hl_fs0) (by decide))) dX10_put_8 ?_
  refine lv_sipush (v := 1000) hx hb dX10_put_11 (by decide) ?_
  refine lv_icmp_ge (tgt := 43) hx hb dX10_put_14 (by decide) (fun h => absurd h (by decide)) (fun _ => ?_)
  refine lv_aload_n hx hb dX10_put_17 rfl (lv_at hl 1 rfl) ?_
  refine gt_X10 hx hb hts hown hK hP 0 rfl 0 (by decide) wd_190 rfl (gs_ne (by decide) (gs_ne (by decide) hf_fs0_0)) dX10_put_18 ?_
  refine lv_aload_n hx hb dX10_put_21 rfl (lv_at hl 1 rfl) ?_
  refine gt_X10 hx hb hts hown hK hP 0 rfl 1 (by decide) wd_192 rfl (gs_eq (ln_lt (ln_set hl_fs0) (by decide))) dX10_put_22 ?_
  refine lv_iload_n hx hb dX10_put_25 rfl (lv_at hl 2 rfl) ?_
  refine lv_iload_n hx hb dX10_put_26 rfl (lv_at hl 0 rfl) ?_
  obtain ⟨v_5, ev_5⟩ : ∃ z : Int32, (p0.toUInt32 >>> ((8 : Int32).toUInt32 &&& Int32.toUInt32 31)).toInt32 = z := ⟨_, rfl⟩
  refine lv_iushr (v := v_5) hx hb dX10_put_27 ev_5 ?_
  refine lv_sipush (v := 255) hx hb dX10_put_28 (by decide) ?_
  refine lv_iand hx hb dX10_put_31 ?_
  refine va_iast hx hb hK hP hD hS 1 0 rfl rfl (vp_in_c (by decide)) dX10_put_32 (fun H locs hP hD hS => ?_)
  obtain ⟨f_6, ef_6⟩ : ∃ z, z = upd f_4 (18 : Int32).toNatClampNeg (v_5 &&& 255) := ⟨_, rfl⟩
  rw [← ef_6] at hP hD
  have hP : va_P D vwCl [(h0, .inr (10, ((fs0.set 1 (.int 17)).set 1 (.int 18)))), (q1, .inl (cI, 1000, .inl f_6))] H := hP
  have hD : va_D A [(h0, .inr (10, ((fs0.set 1 (.int 17)).set 1 (.int 18)))), (q1, .inl (cI, 1000, .inl f_6))] := hD
  refine lv_aload_n hx hb dX10_put_33 rfl (lv_at hl 1 rfl) ?_
  refine lv_dup hx hb dX10_put_34 rfl ?_
  refine gt_X10 hx hb hts hown hK hP 0 rfl 1 (by decide) wd_192 rfl (gs_eq (ln_lt (ln_set hl_fs0) (by decide))) dX10_put_35 ?_
  refine lv_iconst (v := 1) hx hb dX10_put_38 (by decide) ?_
  refine lv_iadd hx hb dX10_put_39 ?_
  refine tov (v := 19) (by decide) ?_
  refine pt_X10 hx hb hts hown hK hP hD hS 0 rfl 1 (by decide) wd_192 rfl rfl (ty := .int) (v := .int 19) (by decide +kernel) rfl rfl (ln_lt (ln_set (ln_set hl_fs0)) (by decide)) dX10_put_40 (fun H locs hP hD hS => ?_)
  have hP : va_P D vwCl [(h0, .inr (10, (((fs0.set 1 (.int 17)).set 1 (.int 18)).set 1 (.int 19)))), (q1, .inl (cI, 1000, .inl f_6))] H := hP
  have hD : va_D A [(h0, .inr (10, (((fs0.set 1 (.int 17)).set 1 (.int 18)).set 1 (.int 19)))), (q1, .inl (cI, 1000, .inl f_6))] := hD
  refine lv_iinc (v := 0) (lv' := [(2, .int 0), (0, .ref h0), (1, .int p0)]) hx hb dX10_put_43 hl (k := 0) rfl (by decide) (by decide) rfl (fun ls hl => ?_)
  refine lv_goto (tgt := 3) hx hb dX10_put_46 (by decide) ?_
  refine lv_iload_n hx hb dX10_put_3 rfl (lv_at hl 0 rfl) ?_
  refine lv_if_lt (tgt := 49) hx hb dX10_put_4 (by decide) (fun h => absurd h (by decide)) (fun _ => ?_)
  refine lv_aload_n hx hb dX10_put_7 rfl (lv_at hl 1 rfl) ?_
  refine gt_X10 hx hb hts hown hK hP 0 rfl 1 (by decide) wd_192 rfl (gs_eq (ln_lt (ln_set (ln_set hl_fs0)) (by decide))) dX10_put_8 ?_
  refine lv_sipush (v := 1000) hx hb dX10_put_11 (by decide) ?_
  refine lv_icmp_ge (tgt := 43) hx hb dX10_put_14 (by decide) (fun h => absurd h (by decide)) (fun _ => ?_)
  refine lv_aload_n hx hb dX10_put_17 rfl (lv_at hl 1 rfl) ?_
  refine gt_X10 hx hb hts hown hK hP 0 rfl 0 (by decide) wd_190 rfl (gs_ne (by decide) (gs_ne (by decide) (gs_ne (by decide) hf_fs0_0))) dX10_put_18 ?_
  refine lv_aload_n hx hb dX10_put_21 rfl (lv_at hl 1 rfl) ?_
  refine gt_X10 hx hb hts hown hK hP 0 rfl 1 (by decide) wd_192 rfl (gs_eq (ln_lt (ln_set (ln_set hl_fs0)) (by decide))) dX10_put_22 ?_
  refine lv_iload_n hx hb dX10_put_25 rfl (lv_at hl 2 rfl) ?_
  refine lv_iload_n hx hb dX10_put_26 rfl (lv_at hl 0 rfl) ?_
  obtain ⟨v_7, ev_7⟩ : ∃ z : Int32, (p0.toUInt32 >>> ((0 : Int32).toUInt32 &&& Int32.toUInt32 31)).toInt32 = z := ⟨_, rfl⟩
  refine lv_iushr (v := v_7) hx hb dX10_put_27 ev_7 ?_
  refine lv_sipush (v := 255) hx hb dX10_put_28 (by decide) ?_
  refine lv_iand hx hb dX10_put_31 ?_
  refine va_iast hx hb hK hP hD hS 1 0 rfl rfl (vp_in_c (by decide)) dX10_put_32 (fun H locs hP hD hS => ?_)
  obtain ⟨f_8, ef_8⟩ : ∃ z, z = upd f_6 (19 : Int32).toNatClampNeg (v_7 &&& 255) := ⟨_, rfl⟩
  rw [← ef_8] at hP hD
  have hP : va_P D vwCl [(h0, .inr (10, (((fs0.set 1 (.int 17)).set 1 (.int 18)).set 1 (.int 19)))), (q1, .inl (cI, 1000, .inl f_8))] H := hP
  have hD : va_D A [(h0, .inr (10, (((fs0.set 1 (.int 17)).set 1 (.int 18)).set 1 (.int 19)))), (q1, .inl (cI, 1000, .inl f_8))] := hD
  refine lv_aload_n hx hb dX10_put_33 rfl (lv_at hl 1 rfl) ?_
  refine lv_dup hx hb dX10_put_34 rfl ?_
  refine gt_X10 hx hb hts hown hK hP 0 rfl 1 (by decide) wd_192 rfl (gs_eq (ln_lt (ln_set (ln_set hl_fs0)) (by decide))) dX10_put_35 ?_
  refine lv_iconst (v := 1) hx hb dX10_put_38 (by decide) ?_
  refine lv_iadd hx hb dX10_put_39 ?_
  refine tov (v := 20) (by decide) ?_
  refine pt_X10 hx hb hts hown hK hP hD hS 0 rfl 1 (by decide) wd_192 rfl rfl (ty := .int) (v := .int 20) (by decide +kernel) rfl rfl (ln_lt (ln_set (ln_set (ln_set hl_fs0))) (by decide)) dX10_put_40 (fun H locs hP hD hS => ?_)
  have hP : va_P D vwCl [(h0, .inr (10, ((((fs0.set 1 (.int 17)).set 1 (.int 18)).set 1 (.int 19)).set 1 (.int 20)))), (q1, .inl (cI, 1000, .inl f_8))] H := hP
  have hD : va_D A [(h0, .inr (10, ((((fs0.set 1 (.int 17)).set 1 (.int 18)).set 1 (.int 19)).set 1 (.int 20)))), (q1, .inl (cI, 1000, .inl f_8))] := hD
  refine lv_iinc (v := (-8)) (lv' := [(2, .int (-8)), (0, .ref h0), (1, .int p0)]) hx hb dX10_put_43 hl (k := 0) rfl (by decide) (by decide) rfl (fun ls hl => ?_)
  refine lv_goto (tgt := 3) hx hb dX10_put_46 (by decide) ?_
  refine lv_iload_n hx hb dX10_put_3 rfl (lv_at hl 0 rfl) ?_
  refine lv_if_lt (tgt := 49) hx hb dX10_put_4 (by decide) (fun _ => ?_) (fun h => (h (by decide)).elim)
  exact fin_v hx hb hr hlk hK hP hD hS dX10_put_49 (⟨((((fs0.set 1 (.int 17)).set 1 (.int 18)).set 1 (.int 19)).set 1 (.int 20)), f_8, rfl, (ln_set (ln_set (ln_set (ln_set hl_fs0)))), (gs_ne (by decide) (gs_ne (by decide) (gs_ne (by decide) (gs_ne (by decide) hf_fs0_0)))), (gs_eq (ln_lt (ln_set (ln_set (ln_set hl_fs0))) (by decide)))⟩)
set_option maxRecDepth 100000 in
set_option maxHeartbeats 4000000 in
theorem c_X11_feed (l : Launch) (D : va_G) (cI cJ cZ : ClassId) (h0 q1 q2 : Nat) (fs0 fs1 : List Value) (f1 : Nat → Int32) (p0 : Int32) (p1 : Int32) (p2 : Int32) (p3 : Int32) (p4 : Int32) (hl_fs0 : fs0.length = 14) (hf_fs0_2 : fs0[2]? = some (.ref q1)) (hl_fs1 : fs1.length = 8) (hf_fs1_0 : fs1[0]? = some (.ref q2)) (hf_fs1_1 : fs1[1]? = some (.int 0)) : Con_i l yX11_feed cX11_feed 6 (some .int) ({ frames := 1, cells := 0, slots := 0, locals := 22 }) D cI cJ cZ eT [.ref h0, .int p0, .int p1, .int p2, .int p3, .int p4] [(h0, .inr (11, fs0)), (q1, .inr (10, fs1)), (q2, .inl (cI, 1000, .inl f1))] (fun r _ => r = 20) := by
  refine ent_i (by decide) (Nat.le_of_ble_eq_true rfl) ?_
  intro p e s m below meth c A hx hb hml hown hts hr hlk hnm hK hE hA hP hD hS ls hl
  have hown : s.vm.findClass RX11 = some m.cls := hown
  have hl : lv_has ls 6 [(0, .ref h0), (1, .int p0), (2, .int p1), (3, .int p2), (4, .int p3), (5, .int p4)] := hl
  refine lv_aload_n hx hb dX11_feed_0 rfl (lv_at hl 0 rfl) ?_
  refine gt_X11 hx hb hts hown hK hP 0 rfl 2 (by decide) wd_675 rfl hf_fs0_2 dX11_feed_1 ?_
  refine gt_X10 hx hb hts hown hK hP 1 rfl 1 (by decide) wd_191 rfl hf_fs1_1 dX11_feed_4 ?_
  refine lv_bipush (v := 20) hx hb dX11_feed_7 (by decide) ?_
  refine lv_iadd hx hb dX11_feed_9 ?_
  refine tov (v := 20) (by decide) ?_
  refine lv_sipush (v := 1000) hx hb dX11_feed_10 (by decide) ?_
  refine lv_icmp_le (tgt := 18) hx hb dX11_feed_13 (by decide) (fun _ => ?_) (fun h => (h (by decide)).elim)
  refine lv_aload_n hx hb dX11_feed_18 rfl (lv_at hl 0 rfl) ?_
  refine gt_X11 hx hb hts hown hK hP 0 rfl 2 (by decide) wd_675 rfl hf_fs0_2 dX11_feed_19 ?_
  refine lv_iload_n hx hb dX11_feed_22 rfl (lv_at hl 1 rfl) ?_
  refine cl_v (wr := [(h0, .inr (11, fs0))]) (rn_V (As := [.int p0]) (rest := []) hx hb hml hown hts (c_X10_put_0 l D cI cJ cZ q1 q2 fs1 f1 p0 hl_fs1 hf_fs1_0 hf_fs1_1 _) ⟨rfl, rfl⟩ sv_X11_106 ⟨(Nat.le_of_ble_eq_true rfl), (Nat.le_of_ble_eq_true rfl)⟩ ⟨(Nat.le_of_ble_eq_true rfl), (Nat.le_of_ble_eq_true rfl)⟩ (fun _ _ _ _ h => h) (fun _ _ _ => trivial) hK hP hD [1, 2] rfl rfl 0 10 rfl rfl rfl rfl hl.1 rfl (Nat.le_of_ble_eq_true rfl) dX11_feed_23) hP hD hS hA [1, 2] [0] rfl rfl rfl (by decide) (fun w_2 H locs hw_1 hP hD hS => ?_)
  obtain ⟨fs1_4, f2_5, rfl, h_6, h_7, h_8⟩ := hw_1
  have hP : va_P D vwCl [(h0, .inr (11, fs0)), (q1, .inr (10, fs1_4)), (q2, .inl (cI, 1000, .inl f2_5))] H := hP
  have hD : va_D A [(h0, .inr (11, fs0)), (q1, .inr (10, fs1_4)), (q2, .inl (cI, 1000, .inl f2_5))] := hD
  refine lv_aload_n hx hb dX11_feed_26 rfl (lv_at hl 0 rfl) ?_
  refine gt_X11 hx hb hts hown hK hP 0 rfl 2 (by decide) wd_675 rfl hf_fs0_2 dX11_feed_27 ?_
  refine lv_iload_n hx hb dX11_feed_30 rfl (lv_at hl 2 rfl) ?_
  refine cl_v (wr := [(h0, .inr (11, fs0))]) (rn_V (As := [.int p1]) (rest := []) hx hb hml hown hts (c_X10_put_4 l D cI cJ cZ q1 q2 fs1_4 f2_5 p1 h_6 h_7 h_8 _) ⟨rfl, rfl⟩ sv_X11_106 ⟨(Nat.le_of_ble_eq_true rfl), (Nat.le_of_ble_eq_true rfl)⟩ ⟨(Nat.le_of_ble_eq_true rfl), (Nat.le_of_ble_eq_true rfl)⟩ (fun _ _ _ _ h => h) (fun _ _ _ => trivial) hK hP hD [1, 2] rfl rfl 0 10 rfl rfl rfl rfl hl.1 rfl (Nat.le_of_ble_eq_true rfl) dX11_feed_31) hP hD hS hA [1, 2] [0] rfl rfl rfl (by decide) (fun w_10 H locs hw_9 hP hD hS => ?_)
  obtain ⟨fs1_12, f2_13, rfl, h_14, h_15, h_16⟩ := hw_9
  have hP : va_P D vwCl [(h0, .inr (11, fs0)), (q1, .inr (10, fs1_12)), (q2, .inl (cI, 1000, .inl f2_13))] H := hP
  have hD : va_D A [(h0, .inr (11, fs0)), (q1, .inr (10, fs1_12)), (q2, .inl (cI, 1000, .inl f2_13))] := hD
  refine lv_aload_n hx hb dX11_feed_34 rfl (lv_at hl 0 rfl) ?_
  refine gt_X11 hx hb hts hown hK hP 0 rfl 2 (by decide) wd_675 rfl hf_fs0_2 dX11_feed_35 ?_
  refine lv_iload_n hx hb dX11_feed_38 rfl (lv_at hl 3 rfl) ?_
  refine cl_v (wr := [(h0, .inr (11, fs0))]) (rn_V (As := [.int p2]) (rest := []) hx hb hml hown hts (c_X10_put_8 l D cI cJ cZ q1 q2 fs1_12 f2_13 p2 h_14 h_15 h_16 _) ⟨rfl, rfl⟩ sv_X11_106 ⟨(Nat.le_of_ble_eq_true rfl), (Nat.le_of_ble_eq_true rfl)⟩ ⟨(Nat.le_of_ble_eq_true rfl), (Nat.le_of_ble_eq_true rfl)⟩ (fun _ _ _ _ h => h) (fun _ _ _ => trivial) hK hP hD [1, 2] rfl rfl 0 10 rfl rfl rfl rfl hl.1 rfl (Nat.le_of_ble_eq_true rfl) dX11_feed_39) hP hD hS hA [1, 2] [0] rfl rfl rfl (by decide) (fun w_18 H locs hw_17 hP hD hS => ?_)
  obtain ⟨fs1_20, f2_21, rfl, h_22, h_23, h_24⟩ := hw_17
  have hP : va_P D vwCl [(h0, .inr (11, fs0)), (q1, .inr (10, fs1_20)), (q2, .inl (cI, 1000, .inl f2_21))] H := hP
  have hD : va_D A [(h0, .inr (11, fs0)), (q1, .inr (10, fs1_20)), (q2, .inl (cI, 1000, .inl f2_21))] := hD
  refine lv_aload_n hx hb dX11_feed_42 rfl (lv_at hl 0 rfl) ?_
  refine gt_X11 hx hb hts hown hK hP 0 rfl 2 (by decide) wd_675 rfl hf_fs0_2 dX11_feed_43 ?_
  refine lv_iload hx hb dX11_feed_46 (lv_at hl 4 rfl) ?_
  refine cl_v (wr := [(h0, .inr (11, fs0))]) (rn_V (As := [.int p3]) (rest := []) hx hb hml hown hts (c_X10_put_12 l D cI cJ cZ q1 q2 fs1_20 f2_21 p3 h_22 h_23 h_24 _) ⟨rfl, rfl⟩ sv_X11_106 ⟨(Nat.le_of_ble_eq_true rfl), (Nat.le_of_ble_eq_true rfl)⟩ ⟨(Nat.le_of_ble_eq_true rfl), (Nat.le_of_ble_eq_true rfl)⟩ (fun _ _ _ _ h => h) (fun _ _ _ => trivial) hK hP hD [1, 2] rfl rfl 0 10 rfl rfl rfl rfl hl.1 rfl (Nat.le_of_ble_eq_true rfl) dX11_feed_48) hP hD hS hA [1, 2] [0] rfl rfl rfl (by decide) (fun w_26 H locs hw_25 hP hD hS => ?_)
  obtain ⟨fs1_28, f2_29, rfl, h_30, h_31, h_32⟩ := hw_25
  have hP : va_P D vwCl [(h0, .inr (11, fs0)), (q1, .inr (10, fs1_28)), (q2, .inl (cI, 1000, .inl f2_29))] H := hP
  have hD : va_D A [(h0, .inr (11, fs0)), (q1, .inr (10, fs1_28)), (q2, .inl (cI, 1000, .inl f2_29))] := hD
  refine lv_aload_n hx hb dX11_feed_51 rfl (lv_at hl 0 rfl) ?_
  refine gt_X11 hx hb hts hown hK hP 0 rfl 2 (by decide) wd_675 rfl hf_fs0_2 dX11_feed_52 ?_
  refine lv_iload hx hb dX11_feed_55 (lv_at hl 5 rfl) ?_
  refine cl_v (wr := [(h0, .inr (11, fs0))]) (rn_V (As := [.int p4]) (rest := []) hx hb hml hown hts (c_X10_put_16 l D cI cJ cZ q1 q2 fs1_28 f2_29 p4 h_30 h_31 h_32 _) ⟨rfl, rfl⟩ sv_X11_106 ⟨(Nat.le_of_ble_eq_true rfl), (Nat.le_of_ble_eq_true rfl)⟩ ⟨(Nat.le_of_ble_eq_true rfl), (Nat.le_of_ble_eq_true rfl)⟩ (fun _ _ _ _ h => h) (fun _ _ _ => trivial) hK hP hD [1, 2] rfl rfl 0 10 rfl rfl rfl rfl hl.1 rfl (Nat.le_of_ble_eq_true rfl) dX11_feed_57) hP hD hS hA [1, 2] [0] rfl rfl rfl (by decide) (fun w_34 H locs hw_33 hP hD hS => ?_)
  obtain ⟨fs1_36, f2_37, rfl, h_38, h_39, h_40⟩ := hw_33
  have hP : va_P D vwCl [(h0, .inr (11, fs0)), (q1, .inr (10, fs1_36)), (q2, .inl (cI, 1000, .inl f2_37))] H := hP
  have hD : va_D A [(h0, .inr (11, fs0)), (q1, .inr (10, fs1_36)), (q2, .inl (cI, 1000, .inl f2_37))] := hD
  refine lv_aload_n hx hb dX11_feed_60 rfl (lv_at hl 0 rfl) ?_
  refine gt_X11 hx hb hts hown hK hP 0 rfl 2 (by decide) wd_675 rfl hf_fs0_2 dX11_feed_61 ?_
  refine gt_X10 hx hb hts hown hK hP 1 rfl 1 (by decide) wd_191 rfl h_40 dX11_feed_64 ?_
  exact fin_i hx hb hr hlk hK hP hD hS dX11_feed_67 (rfl)
