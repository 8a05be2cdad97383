set_option maxRecDepth 100000 in
set_option maxHeartbeats 4000000 in
theorem c_X12_is (l : Launch) (D : va_G) (cI cJ cZ : ClassId) (p0 : Int32) (p1 : Int32) (p2 : Int32) : Con_i l yX12_is cX12_is 3 (some .boolean) ({ frames := 0, cells := 0, slots := 0, locals := 0 }) D cI cJ cZ eT [.int p0, .int p1, .int p2] [] (fun (r : Int32) (w : va_W) => w = [] ∧ r = (wi_ p0 p1 p2)) := by
  refine ent_i (by decide) (Nat.le_of_ble_eq_true rfl) ?_
  intro p e s m below meth c A hx hb hml hown hts hr hlk hnm hK hE hA hP hD hS ls hl
  have hown : s.vm.findClass RX12 = some m.cls := hown
  have hl : lv_has ls 3 [(0, .int p0), (1, .int p1), (2, .int p2)] := hl
  refine lv_iload_n hx hb dX12_is_0 rfl (lv_at hl 0 rfl) ?_
  refine lv_iload_n hx hb dX12_is_1 rfl (lv_at hl 1 rfl) ?_
  refine lv_icmp_lt (tgt := 14) hx hb dX12_is_2 (by decide) (fun c_1 => ?_) (fun c_1 => ?_)
  · refine lv_iconst (v := 0) hx hb dX12_is_14 (by decide) ?_
    exact fin_z hx hb hr hlk hK hP hD hS dX12_is_15 rfl (⟨rfl, wi_a c_1⟩)
  · refine lv_iload_n hx hb dX12_is_5 rfl (lv_at hl 0 rfl) ?_
    refine lv_iload_n hx hb dX12_is_6 rfl (lv_at hl 2 rfl) ?_
    refine lv_icmp_gt (tgt := 14) hx hb dX12_is_7 (by decide) (fun c_2 => ?_) (fun c_2 => ?_)
    · refine lv_iconst (v := 0) hx hb dX12_is_14 (by decide) ?_
      exact fin_z hx hb hr hlk hK hP hD hS dX12_is_15 rfl (⟨rfl, wi_b c_2⟩)
    · refine lv_iconst (v := 1) hx hb dX12_is_10 (by decide) ?_
      refine lv_goto (tgt := 15) hx hb dX12_is_11 (by decide) ?_
      exact fin_z hx hb hr hlk hK hP hD hS dX12_is_15 rfl (⟨rfl, wi_1 c_1 c_2⟩)
set_option maxRecDepth 100000 in
set_option maxHeartbeats 4000000 in
theorem c_X12_put_0 (l : Launch) (D : va_G) (cI cJ cZ : ClassId) (h0 q1 : Nat) (fs0 : List Value) (f1 : Nat → Int32) (p0 : Int32) (hl_fs0 : fs0.length = 94) (hf_fs0_0 : fs0[0]? = some (.ref q1)) (hf_fs0_1 : fs0[1]? = some (.int 0)) : Con_v l yX12_put cX12_put 3 none ({ frames := 0, cells := 0, slots := 0, locals := 0 }) D cI cJ cZ eT [.ref h0, .int p0] [(h0, .inr (12, fs0)), (q1, .inl (cI, 1000, .inl f1))] (fun w => ∃ (fs1 : List Value) (f2 : Nat → Int32), w = [(h0, .inr (12, fs1)), (q1, .inl (cI, 1000, .inl f2))] ∧ fs1.length = 94 ∧ fs1[0]? = some (.ref q1) ∧ fs1[1]? = some (.int 4)) := by
  refine ent_v (by decide) (Nat.le_of_ble_eq_true rfl) ?_
  intro p e s m below meth c A hx hb hml hown hts hr hlk hnm hK hE hA hP hD hS ls hl
  have hown : s.vm.findClass RX12 = some m.cls := hown
  have hl : lv_has ls 3 [(0, .ref h0), (1, .int p0)] := hl
  refine lv_bipush (v := 24) hx hb dX12_put_0 (by decide) ?_
  refine lv_istore_n (lv' := [(2, .int 24), (0, .ref h0), (1, .int p0)]) hx hb dX12_put_2 rfl hl (by decide) rfl (fun ls hl => ?_)
  refine lv_iload_n hx hb dX12_put_3 rfl (lv_at hl 0 rfl) ?_
  refine lv_if_lt (tgt := 39) hx hb dX12_put_4 (by decide) (fun h => absurd h (by decide)) (fun _ => ?_)
  refine lv_aload_n hx hb dX12_put_7 rfl (lv_at hl 1 rfl) ?_
  refine gt_X12 hx hb hts hown hK hP 0 rfl 0 (by decide) wd_1401 rfl hf_fs0_0 dX12_put_8 ?_
  refine lv_aload_n hx hb dX12_put_11 rfl (lv_at hl 1 rfl) ?_
  refine gt_X12 hx hb hts hown hK hP 0 rfl 1 (by decide) wd_1402 rfl hf_fs0_1 dX12_put_12 ?_
  refine lv_iload_n hx hb dX12_put_15 rfl (lv_at hl 2 rfl) ?_
  refine lv_iload_n hx hb dX12_put_16 rfl (lv_at hl 0 rfl) ?_
  refine lv_ishr hx hb dX12_put_17 ?_
  refine lv_sipush (v := 255) hx hb dX12_put_18 (by decide) ?_
  refine lv_iand hx hb dX12_put_21 ?_
  refine va_iast hx hb hK hP hD hS 1 0 rfl rfl (vp_in_c (by decide)) dX12_put_22 (fun H locs hP hD hS => ?_)
  obtain ⟨f_1, ef_1⟩ : ∃ z, z = upd f1 (0 : Int32).toNatClampNeg ((p0 >>> (24 &&& 31)) &&& 255) := ⟨_, rfl⟩
  rw [← ef_1] at hP hD
  have hP : va_P D vwCl [(h0, .inr (12, fs0)), (q1, .inl (cI, 1000, .inl f_1))] H := hP
  have hD : va_D A [(h0, .inr (12, fs0)), (q1, .inl (cI, 1000, .inl f_1))] := hD
  refine lv_aload_n hx hb dX12_put_23 rfl (lv_at hl 1 rfl) ?_
  refine lv_dup hx hb dX12_put_24 rfl ?_
  refine gt_X12 hx hb hts hown hK hP 0 rfl 1 (by decide) wd_1402 rfl hf_fs0_1 dX12_put_25 ?_
  refine lv_iconst (v := 1) hx hb dX12_put_28 (by decide) ?_
  refine lv_iadd hx hb dX12_put_29 ?_
  refine tov (v := 1) (by decide) ?_
  refine pt_X12 hx hb hts hown hK hP hD hS 0 rfl 1 (by decide) wd_1402 rfl rfl (ty := .int) (v := .int 1) (by decide +kernel) rfl rfl (ln_lt hl_fs0 (by decide)) dX12_put_30 (fun H locs hP hD hS => ?_)
  have hP : va_P D vwCl [(h0, .inr (12, (fs0.set 1 (.int 1)))), (q1, .inl (cI, 1000, .inl f_1))] H := hP
  have hD : va_D A [(h0, .inr (12, (fs0.set 1 (.int 1)))), (q1, .inl (cI, 1000, .inl f_1))] := hD
  refine lv_iinc (v := 16) (lv' := [(2, .int 16), (0, .ref h0), (1, .int p0)]) hx hb dX12_put_33 hl (k := 0) rfl (by decide) (by decide) rfl (fun ls hl => ?_)
  refine lv_goto (tgt := 3) hx hb dX12_put_36 (by decide) ?_
  refine lv_iload_n hx hb dX12_put_3 rfl (lv_at hl 0 rfl) ?_
  refine lv_if_lt (tgt := 39) hx hb dX12_put_4 (by decide) (fun h => absurd h (by decide)) (fun _ => ?_)
  refine lv_aload_n hx hb dX12_put_7 rfl (lv_at hl 1 rfl) ?_
  refine gt_X12 hx hb hts hown hK hP 0 rfl 0 (by decide) wd_1401 rfl (gs_ne (by decide) hf_fs0_0) dX12_put_8 ?_
  refine lv_aload_n hx hb dX12_put_11 rfl (lv_at hl 1 rfl) ?_
  refine gt_X12 hx hb hts hown hK hP 0 rfl 1 (by decide) wd_1402 rfl (gs_eq (ln_lt hl_fs0 (by decide))) dX12_put_12 ?_
  refine lv_iload_n hx hb dX12_put_15 rfl (lv_at hl 2 rfl) ?_
  refine lv_iload_n hx hb dX12_put_16 rfl (lv_at hl 0 rfl) ?_
  refine lv_ishr hx hb dX12_put_17 ?_
  refine lv_sipush (v := 255) hx hb dX12_put_18 (by decide) ?_
  refine lv_iand hx hb dX12_put_21 ?_
  refine va_iast hx hb hK hP hD hS 1 0 rfl rfl (vp_in_c (by decide)) dX12_put_22 (fun H locs hP hD hS => ?_)
  obtain ⟨f_2, ef_2⟩ : ∃ z, z = upd f_1 (1 : Int32).toNatClampNeg ((p0 >>> (16 &&& 31)) &&& 255) := ⟨_, rfl⟩
  rw [← ef_2] at hP hD
  have hP : va_P D vwCl [(h0, .inr (12, (fs0.set 1 (.int 1)))), (q1, .inl (cI, 1000, .inl f_2))] H := hP
  have hD : va_D A [(h0, .inr (12, (fs0.set 1 (.int 1)))), (q1, .inl (cI, 1000, .inl f_2))] := hD
  refine lv_aload_n hx hb dX12_put_23 rfl (lv_at hl 1 rfl) ?_
  refine lv_dup hx hb dX12_put_24 rfl ?_
  refine gt_X12 hx hb hts hown hK hP 0 rfl 1 (by decide) wd_1402 rfl (gs_eq (ln_lt hl_fs0 (by decide))) dX12_put_25 ?_
  refine lv_iconst (v := 1) hx hb dX12_put_28 (by decide) ?_
  refine lv_iadd hx hb dX12_put_29 ?_
  refine tov (v := 2) (by decide) ?_
  refine pt_X12 hx hb hts hown hK hP hD hS 0 rfl 1 (by decide) wd_1402 rfl rfl (ty := .int) (v := .int 2) (by decide +kernel) rfl rfl (ln_lt (ln_set hl_fs0) (by decide)) dX12_put_30 (fun H locs hP hD hS => ?_)
  have hP : va_P D vwCl [(h0, .inr (12, ((fs0.set 1 (.int 1)).set 1 (.int 2)))), (q1, .inl (cI, 1000, .inl f_2))] H := hP
  have hD : va_D A [(h0, .inr (12, ((fs0.set 1 (.int 1)).set 1 (.int 2)))), (q1, .inl (cI, 1000, .inl f_2))] := hD
  refine lv_iinc (v := 8) (lv' := [(2, .int 8), (0, .ref h0), (1, .int p0)]) hx hb dX12_put_33 hl (k := 0) rfl (by decide) (by decide) rfl (fun ls hl => ?_)
  refine lv_goto (tgt := 3) hx hb dX12_put_36 (by decide) ?_
  refine lv_iload_n hx hb dX12_put_3 rfl (lv_at hl 0 rfl) ?_
  refine lv_if_lt (tgt := 39) hx hb dX12_put_4 (by decide) (fun h => absurd h (by decide)) (fun _ => ?_)
  refine lv_aload_n hx hb dX12_put_7 rfl (lv_at hl 1 rfl) ?_
  refine gt_X12 hx hb hts hown hK hP 0 rfl 0 (by decide) wd_1401 rfl (gs_ne (by decide) (gs_ne (by decide) hf_fs0_0)) dX12_put_8 ?_
  refine lv_aload_n hx hb dX12_put_11 rfl (lv_at hl 1 rfl) ?_
  refine gt_X12 hx hb hts hown hK hP 0 rfl 1 (by decide) wd_1402 rfl (gs_eq (ln_lt (ln_set hl_fs0) (by decide))) dX12_put_12 ?_
  refine lv_iload_n hx hb dX12_put_15 rfl (lv_at hl 2 rfl) ?_
  refine lv_iload_n hx hb dX12_put_16 rfl (lv_at hl 0 rfl) ?_
  refine lv_ishr hx hb dX12_put_17 ?_
  refine lv_sipush (v := 255) hx hb dX12_put_18 (by decide) ?_
  refine lv_iand hx hb dX12_put_21 ?_
  refine va_iast hx hb hK hP hD hS 1 0 rfl rfl (vp_in_c (by decide)) dX12_put_22 (fun H locs hP hD hS => ?_)
  obtain ⟨f_3, ef_3⟩ : ∃ z, z = upd f_2 (2 : Int32).toNatClampNeg ((p0 >>> (8 &&& 31)) &&& 255) := ⟨_, rfl⟩
  rw [← ef_3] at hP hD
  have hP : va_P D vwCl [(h0, .inr (12, ((fs0.set 1 (.int 1)).set 1 (.int 2)))), (q1, .inl (cI, 1000, .inl f_3))] H := hP
  have hD : va_D A [(h0, .inr (12, ((fs0.set 1 (.int 1)).set 1 (.int 2)))), (q1, .inl (cI, 1000, .inl f_3))] := hD
  refine lv_aload_n hx hb dX12_put_23 rfl (lv_at hl 1 rfl) ?_
  refine lv_dup hx hb dX12_put_24 rfl ?_
  refine gt_X12 hx hb hts hown hK hP 0 rfl 1 (by decide) wd_1402 rfl (gs_eq (ln_lt (ln_set hl_fs0) (by decide))) dX12_put_25 ?_
  refine lv_iconst (v := 1) hx hb dX12_put_28 (by decide) ?_
  refine lv_iadd hx hb dX12_put_29 ?_
  refine tov (v := 3) (by decide) ?_
  refine pt_X12 hx hb hts hown hK hP hD hS 0 rfl 1 (by decide) wd_1402 rfl rfl (ty := .int) (v := .int 3) (by decide +kernel) rfl rfl (ln_lt (ln_set (ln_set hl_fs0)) (by decide)) dX12_put_30 (fun H locs hP hD hS => ?_)
  have hP : va_P D vwCl [(h0, .inr (12, (((fs0.set 1 (.int 1)).set 1 (.int 2)).set 1 (.int 3)))), (q1, .inl (cI, 1000, .inl f_3))] H := hP
  have hD : va_D A [(h0, .inr (12, (((fs0.set 1 (.int 1)).set 1 (.int 2)).set 1 (.int 3)))), (q1, .inl (cI, 1000, .inl f_3))] := hD
  refine lv_iinc (v := 0) (lv' := [(2, .int 0), (0, .ref h0), (1, .int p0)]) hx hb dX12_put_33 hl (k := 0) rfl (by decide) (by decide) rfl (fun ls hl => ?_)
  refine lv_goto (tgt := 3) hx hb dX12_put_36 (by decide) ?_
  refine lv_iload_n hx hb dX12_put_3 rfl (lv_at hl 0 rfl) ?_
  refine lv_if_lt (tgt := 39) hx hb dX12_put_4 (by decide) (fun h => absurd h (by decide)) (fun _ => ?_)
  refine lv_aload_n hx hb dX12_put_7 rfl (lv_at hl 1 rfl) ?_
  refine gt_X12 hx hb hts hown hK hP 0 rfl 0 (by decide) wd_1401 rfl (gs_ne (by decide) (gs_ne (by decide) (gs_ne (by decide) hf_fs0_0))) dX12_put_8 ?_
  refine lv_aload_n hx hb dX12_put_11 rfl (lv_at hl 1 rfl) ?_
  refine gt_X12 hx hb hts hown hK hP 0 rfl 1 (by decide) wd_1402 rfl (gs_eq (ln_lt (ln_set (ln_set hl_fs0)) (by decide))) dX12_put_12 ?_
  refine lv_iload_n hx hb dX12_put_15 rfl (lv_at hl 2 rfl) ?_
  refine lv_iload_n hx hb dX12_put_16 rfl (lv_at hl 0 rfl) ?_
  refine lv_ishr hx hb dX12_put_17 ?_
  refine lv_sipush (v := 255) hx hb dX12_put_18 (by decide) ?_
  refine lv_iand hx hb dX12_put_21 ?_
  refine va_iast hx hb hK hP hD hS 1 0 rfl rfl (vp_in_c (by decide)) dX12_put_22 (fun H locs hP hD hS => ?_)
  obtain ⟨f_4, ef_4⟩ : ∃ z, z = upd f_3 (3 : Int32).toNatClampNeg ((p0 >>> (0 &&& 31)) &&& 255) := ⟨_, rfl⟩
  rw [← ef_4] at hP hD
  have hP : va_P D vwCl [(h0, .inr (12, (((fs0.set 1 (.int 1)).set 1 (.int 2)).set 1 (.int 3)))), (q1, .inl (cI, 1000, .inl f_4))] H := hP
  have hD : va_D A [(h0, .inr (12, (((fs0.set 1 (.int 1)).set 1 (.int 2)).set 1 (.int 3)))), (q1, .inl (cI, 1000, .inl f_4))] := hD
  refine lv_aload_n hx hb dX12_put_23 rfl (lv_at hl 1 rfl) ?_
  refine lv_dup hx hb dX12_put_24 rfl ?_
  refine gt_X12 hx hb hts hown hK hP 0 rfl 1 (by decide) wd_1402 rfl (gs_eq (ln_lt (ln_set (ln_set hl_fs0)) (by decide))) dX12_put_25 ?_
  refine lv_iconst (v := 1) hx hb dX12_put_28 (by decide) ?_
  refine lv_iadd hx hb dX12_put_29 ?_
  refine tov (v := 4) (by decide) ?_
  refine pt_X12 hx hb hts hown hK hP hD hS 0 rfl 1 (by decide) wd_1402 rfl rfl (ty := .int) (v := .int 4) (by decide +kernel) rfl rfl (ln_lt (ln_set (ln_set (ln_set hl_fs0))) (by decide)) dX12_put_30 (fun H locs hP hD hS => ?_)
  have hP : va_P D vwCl [(h0, .inr (12, ((((fs0.set 1 (.int 1)).set 1 (.int 2)).set 1 (.int 3)).set 1 (.int 4)))), (q1, .inl (cI, 1000, .inl f_4))] H := hP
  have hD : va_D A [(h0, .inr (12, ((((fs0.set 1 (.int 1)).set 1 (.int 2)).set 1 (.int 3)).set 1 (.int 4)))), (q1, .inl (cI, 1000, .inl f_4))] := hD
  refine lv_iinc (v := (-8)) (lv' := [(2, .int (-8)), (0, .ref h0), (1, .int p0)]) hx hb dX12_put_33 hl (k := 0) rfl (by decide) (by decide) rfl (fun ls hl => ?_)
  refine lv_goto (tgt := 3) hx hb dX12_put_36 (by decide) ?_
  refine lv_iload_n hx hb dX12_put_3 rfl (lv_at hl 0 rfl) ?_
  refine lv_if_lt (tgt := 39) hx hb dX12_put_4 (by decide) (fun _ => ?_) (fun h => (h (by decide)).elim)
  exact fin_v hx hb hr hlk hK hP hD hS dX12_put_39 (⟨((((fs0.set 1 (.int 1)).set 1 (.int 2)).set 1 (.int 3)).set 1 (.int 4)), f_4, rfl, (ln_set (ln_set (ln_set (ln_set hl_fs0)))), (gs_ne (by decide) (gs_ne (by decide) (gs_ne (by decide) (gs_ne (by decide) hf_fs0_0)))), (gs_eq (ln_lt (ln_set (ln_set (ln_set hl_fs0))) (by decide)))⟩)
set_option maxRecDepth 100000 in
set_option maxHeartbeats 4000000 in
theorem c_X12_put_4 (l : Launch) (D : va_G) (cI cJ cZ : ClassId) (h0 q1 : Nat) (fs0 : List Value) (f1 : Nat → Int32) (p0 : Int32) (hl_fs0 : fs0.length = 94) (hf_fs0_0 : fs0[0]? = some (.ref q1)) (hf_fs0_1 : fs0[1]? = some (.int 4)) : Con_v l yX12_put cX12_put 3 none ({ frames := 0, cells := 0, slots := 0, locals := 0 }) D cI cJ cZ eT [.ref h0, .int p0] [(h0, .inr (12, fs0)), (q1, .inl (cI, 1000, .inl f1))] (fun w => ∃ (fs1 : List Value) (f2 : Nat → Int32), w = [(h0, .inr (12, fs1)), (q1, .inl (cI, 1000, .inl f2))] ∧ fs1.length = 94 ∧ fs1[0]? = some (.ref q1) ∧ fs1[1]? = some (.int 8)) := by
  refine ent_v (by decide) (Nat.le_of_ble_eq_true rfl) ?_
  intro p e s m below meth c A hx hb hml hown hts hr hlk hnm hK hE hA hP hD hS ls hl
  have hown : s.vm.findClass RX12 = some m.cls := hown
  have hl : lv_has ls 3 [(0, .ref h0), (1, .int p0)] := hl
  refine lv_bipush (v := 24) hx hb dX12_put_0 (by decide) ?_
  refine lv_istore_n (lv' := [(2, .int 24), (0, .ref h0), (1, .int p0)]) hx hb dX12_put_2 rfl hl (by decide) rfl (fun ls hl => ?_)
  refine lv_iload_n hx hb dX12_put_3 rfl (lv_at hl 0 rfl) ?_
  refine lv_if_lt (tgt := 39) hx hb dX12_put_4 (by decide) (fun h => absurd h (by decide)) (fun _ => ?_)
  refine lv_aload_n hx hb dX12_put_7 rfl (lv_at hl 1 rfl) ?_
  refine gt_X12 hx hb hts hown hK hP 0 rfl 0 (by decide) wd_1401 rfl hf_fs0_0 dX12_put_8 ?_
  refine lv_aload_n hx hb dX12_put_11 rfl (lv_at hl 1 rfl) ?_
  refine gt_X12 hx hb hts hown hK hP 0 rfl 1 (by decide) wd_1402 rfl hf_fs0_1 dX12_put_12 ?_
  refine lv_iload_n hx hb dX12_put_15 rfl (lv_at hl 2 rfl) ?_
  refine lv_iload_n hx hb dX12_put_16 rfl (lv_at hl 0 rfl) ?_
  refine lv_ishr hx hb dX12_put_17 ?_
  refine lv_sipush (v := 255) hx hb dX12_put_18 (by decide) ?_
  refine lv_iand hx hb dX12_put_21 ?_
  refine va_iast hx hb hK hP hD hS 1 0 rfl rfl (vp_in_c (by decide)) dX12_put_22 (fun H locs hP hD hS => ?_)
  obtain ⟨f_1, ef_1⟩ : ∃ z, z = upd f1 (4 : Int32).toNatClampNeg ((p0 >>> (24 &&& 31)) &&& 255) := ⟨_, rfl⟩
  rw [← ef_1] at hP hD
  have hP : va_P D vwCl [(h0, .inr (12, fs0)), (q1, .inl (cI, 1000, .inl f_1))] H := hP
  have hD : va_D A [(h0, .inr (12, fs0)), (q1, .inl (cI, 1000, .inl f_1))] := hD
  refine lv_aload_n hx hb dX12_put_23 rfl (lv_at hl 1 rfl) ?_
  refine lv_dup hx hb dX12_put_24 rfl ?_
  refine gt_X12 hx hb hts hown hK hP 0 rfl 1 (by decide) wd_1402 rfl hf_fs0_1 dX12_put_25 ?_
  refine lv_iconst (v := 1) hx hb dX12_put_28 (by decide) ?_
  refine lv_iadd hx hb dX12_put_29 ?_
  refine tov (v := 5) (by decide) ?_
  refine pt_X12 hx hb hts hown hK hP hD hS 0 rfl 1 (by decide) wd_1402 rfl rfl (ty := .int) (v := .int 5) (by decide +kernel) rfl rfl (ln_lt hl_fs0 (by decide)) dX12_put_30 (fun H locs hP hD hS => ?_)
  have hP : va_P D vwCl [(h0, .inr (12, (fs0.set 1 (.int 5)))), (q1, .inl (cI, 1000, .inl f_1))] H := hP
  have hD : va_D A [(h0, .inr (12, (fs0.set 1 (.int 5)))), (q1, .inl (cI, 1000, .inl f_1))] := hD
  refine lv_iinc (v := 16) (lv' := [(2, .int 16), (0, .ref h0), (1, .int p0)]) hx hb dX12_put_33 hl (k := 0) rfl (by decide) (by decide) rfl (fun ls hl => ?_)
  refine lv_goto (tgt := 3) hx hb dX12_put_36 (by decide) ?_
  refine lv_iload_n hx hb dX12_put_3 rfl (lv_at hl 0 rfl) ?_
  refine lv_if_lt (tgt := 39) hx hb dX12_put_4 (by decide) (fun h => absurd h (by decide)) (fun _ => ?_)
  refine lv_aload_n hx hb dX12_put_7 rfl (lv_at hl 1 rfl) ?_
  refine gt_X12 hx hb hts hown hK hP 0 rfl 0 (by decide) wd_1401 rfl (gs_ne (by decide) hf_fs0_0) dX12_put_8 ?_
  refine lv_aload_n hx hb dX12_put_11 rfl (lv_at hl 1 rfl) ?_
  refine gt_X12 hx hb hts hown hK hP 0 rfl 1 (by decide) wd_1402 rfl (gs_eq (ln_lt hl_fs0 (by decide))) dX12_put_12 ?_
  refine lv_iload_n hx hb dX12_put_15 rfl (lv_at hl 2 rfl) ?_
  refine lv_iload_n hx hb dX12_put_16 rfl (lv_at hl 0 rfl) ?_
  refine lv_ishr hx hb dX12_put_17 ?_
  refine lv_sipush (v := 255) hx hb dX12_put_18 (by decide) ?_
  refine lv_iand hx hb dX12_put_21 ?_
  refine va_iast hx hb hK hP hD hS 1 0 rfl rfl (vp_in_c (by decide)) dX12_put_22 (fun H locs hP hD hS => ?_)
  obtain ⟨f_2, ef_2⟩ : ∃ z, z = upd f_1 (5 : Int32).toNatClampNeg ((p0 >>> (16 &&& 31)) &&& 255) := ⟨_, rfl⟩
  rw [← ef_2] at hP hD
  have hP : va_P D vwCl [(h0, .inr (12, (fs0.set 1 (.int 5)))), (q1, .inl (cI, 1000, .inl f_2))] H := hP
  have hD : va_D A [(h0, .inr (12, (fs0.set 1 (.int 5)))), (q1, .inl (cI, 1000, .inl f_2))] := hD
  refine lv_aload_n hx hb dX12_put_23 rfl (lv_at hl 1 rfl) ?_
  refine lv_dup hx hb dX12_put_24 rfl ?_
  refine gt_X12 hx hb hts hown hK hP 0 rfl 1 (by decide) wd_1402 rfl (gs_eq (ln_lt hl_fs0 (by decide))) dX12_put_25 ?_
  refine lv_iconst (v := 1) hx hb dX12_put_28 (by decide) ?_
  refine lv_iadd hx hb dX12_put_29 ?_
  refine tov (v := 6) (by decide) ?_
  refine pt_X12 hx hb hts hown hK hP hD hS 0 rfl 1 (by decide) wd_1402 rfl rfl (ty := .int) (v := .int 6) (by decide +kernel) rfl rfl (ln_lt (ln_set hl_fs0) (by decide)) dX12_put_30 (fun H locs hP hD hS => ?_)
  have hP : va_P D vwCl [(h0, .inr (12, ((fs0.set 1 (.int 5)).set 1 (.int 6)))), (q1, .inl (cI, 1000, .inl f_2))] H := hP
  have hD : va_D A [(h0, .inr (12, ((fs0.set 1 (.int 5)).set 1 (.int 6)))), (q1, .inl (cI, 1000, .inl f_2))] := hD
  refine lv_iinc (v := 8) (lv' := [(2, .int 8), (0, .ref h0), (1, .int p0)]) hx hb dX12_put_33 hl (k := 0) rfl (by decide) (by decide) rfl (fun ls hl => ?_)
  refine lv_goto (tgt := 3) hx hb dX12_put_36 (by decide) ?_
  refine lv_iload_n hx hb dX12_put_3 rfl (lv_at hl 0 rfl) ?_
  refine lv_if_lt (tgt := 39) hx hb dX12_put_4 (by decide) (fun h => absurd h (by decide)) (fun _ => ?_)
  refine lv_aload_n hx hb dX12_put_7 rfl (lv_at hl 1 rfl) ?_
  refine gt_X12 hx hb hts hown hK hP 0 rfl 0 (by decide) wd_1401 rfl (gs_ne (by decide) (gs_ne (by decide) hf_fs0_0)) dX12_put_8 ?_
  refine lv_aload_n hx hb dX12_put_11 rfl (lv_at hl 1 rfl) ?_
  refine gt_X12 hx hb hts hown hK hP 0 rfl 1 (by decide) wd_1402 rfl (gs_eq (ln_lt (ln_set hl_fs0) (by decide))) dX12_put_12 ?_
  refine lv_iload_n hx hb dX12_put_15 rfl (lv_at hl 2 rfl) ?_
  refine lv_iload_n hx hb dX12_put_16 rfl (lv_at hl 0 rfl) ?_
  refine lv_ishr hx hb dX12_put_17 ?_
  refine lv_sipush (v := 255) hx hb dX12_put_18 (by decide) ?_
  refine lv_iand hx hb dX12_put_21 ?_
  refine va_iast hx hb hK hP hD hS 1 0 rfl rfl (vp_in_c (by decide)) dX12_put_22 (fun H locs hP hD hS => ?_)
  obtain ⟨f_3, ef_3⟩ : ∃ z, z = upd f_2 (6 : Int32).toNatClampNeg ((p0 >>> (8 &&& 31)) &&& 255) := ⟨_, rfl⟩
  rw [← ef_3] at hP hD
  have hP : va_P D vwCl [(h0, .inr (12, ((fs0.set 1 (.int 5)).set 1 (.int 6)))), (q1, .inl (cI, 1000, .inl f_3))] H := hP
  have hD : va_D A [(h0, .inr (12, ((fs0.set 1 (.int 5)).set 1 (.int 6)))), (q1, .inl (cI, 1000, .inl f_3))] := hD
  refine lv_aload_n hx hb dX12_put_23 rfl (lv_at hl 1 rfl) ?_
  refine lv_dup hx hb dX12_put_24 rfl ?_
  refine gt_X12 hx hb hts hown hK hP 0 rfl 1 (by decide) wd_1402 rfl (gs_eq (ln_lt (ln_set hl_fs0) (by decide))) dX12_put_25 ?_
  refine lv_iconst (v := 1) hx hb dX12_put_28 (by decide) ?_
  refine lv_iadd hx hb dX12_put_29 ?_
  refine tov (v := 7) (by decide) ?_
  refine pt_X12 hx hb hts hown hK hP hD hS 0 rfl 1 (by decide) wd_1402 rfl rfl (ty := .int) (v := .int 7) (by decide +kernel) rfl rfl (ln_lt (ln_set (ln_set hl_fs0)) (by decide)) dX12_put_30 (fun H locs hP hD hS => ?_)
  have hP : va_P D vwCl [(h0, .inr (12, (((fs0.set 1 (.int 5)).set 1 (.int 6)).set 1 (.int 7)))), (q1, .inl (cI, 1000, .inl f_3))] H := hP
  have hD : va_D A [(h0, .inr (12, (((fs0.set 1 (.int 5)).set 1 (.int 6)).set 1 (.int 7)))), (q1, .inl (cI, 1000, .inl f_3))] := hD
  refine lv_iinc (v := 0) (lv' := [(2, .int 0), (0, .ref h0), (1, .int p0)]) hx hb dX12_put_33 hl (k := 0) rfl (by decide) (by decide) rfl (fun ls hl => ?_)
  refine lv_goto (tgt := 3) hx hb dX12_put_36 (by decide) ?_
  refine lv_iload_n hx hb dX12_put_3 rfl (lv_at hl 0 rfl) ?_
  refine lv_if_lt (tgt := 39) hx hb dX12_put_4 (by decide) (fun h => absurd h (by decide)) (fun _ => ?_)
  refine lv_aload_n hx hb dX12_put_7 rfl (lv_at hl 1 rfl) ?_
  refine gt_X12 hx hb hts hown hK hP 0 rfl 0 (by decide) wd_1401 rfl (gs_ne (by decide) (gs_ne (by decide) (gs_ne (by decide) hf_fs0_0))) dX12_put_8 ?_
  refine lv_aload_n hx hb dX12_put_11 rfl (lv_at hl 1 rfl) ?_
  refine gt_X12 hx hb hts hown hK hP 0 rfl 1 (by decide) wd_1402 rfl (gs_eq (ln_lt (ln_set (ln_set hl_fs0)) (by decide))) dX12_put_12 ?_
  refine lv_iload_n hx hb dX12_put_15 rfl (lv_at hl 2 rfl) ?_
  refine lv_iload_n hx hb dX12_put_16 rfl (lv_at hl 0 rfl) ?_
  refine lv_ishr hx hb dX12_put_17 ?_
  refine lv_sipush (v := 255) hx hb dX12_put_18 (by decide) ?_
  refine lv_iand hx hb dX12_put_21 ?_
  refine va_iast hx hb hK hP hD hS 1 0 rfl rfl (vp_in_c (by decide)) dX12_put_22 (fun H locs hP hD hS => ?_)
  obtain ⟨f_4, ef_4⟩ : ∃ z, z = upd f_3 (7 : Int32).toNatClampNeg ((p0 >>> (0 &&& 31)) &&& 255) := ⟨_, rfl⟩
  rw [← ef_4] at hP hD
  have hP : va_P D vwCl [(h0, .inr (12, (((fs0.set 1 (.int 5)).set 1 (.int 6)).set 1 (.int 7)))), (q1, .inl (cI, 1000, .inl f_4))] H := hP
  have hD : va_D A [(h0, .inr (12, (((fs0.set 1 (.int 5)).set 1 (.int 6)).set 1 (.int 7)))), (q1, .inl (cI, 1000, .inl f_4))] := hD
  refine lv_aload_n hx hb dX12_put_23 rfl (lv_at hl 1 rfl) ?_
  refine lv_dup hx hb dX12_put_24 rfl ?_
  refine gt_X12 hx hb hts hown hK hP 0 rfl 1 (by decide) wd_1402 rfl (gs_eq (ln_lt (ln_set (ln_set hl_fs0)) (by decide))) dX12_put_25 ?_
  refine lv_iconst (v := 1) hx hb dX12_put_28 (by decide) ?_
  refine lv_iadd hx hb dX12_put_29 ?_
  refine tov (v := 8) (by decide) ?_
  refine pt_X12 hx hb hts hown hK hP hD hS 0 rfl 1 (by decide) wd_1402 rfl rfl (ty := .int) (v := .int 8) (by decide +kernel) rfl rfl (ln_lt (ln_set (ln_set (ln_set hl_fs0))) (by decide)) dX12_put_30 (fun H locs hP hD hS => ?_)
  have hP : va_P D vwCl [(h0, .inr (12, ((((fs0.set 1 (.int 5)).set 1 (.int 6)).set 1 (.int 7)).set 1 (.int 8)))), (q1, .inl (cI, 1000, .inl f_4))] H := hP
  have hD : va_D A [(h0, .inr (12, ((((fs0.set 1 (.int 5)).set 1 (.int 6)).set 1 (.int 7)).set 1 (.int 8)))), (q1, .inl (cI, 1000, .inl f_4))] := hD
  refine lv_iinc (v := (-8)) (lv' := [(2, .int (-8)), (0, .ref h0), (1, .int p0)]) hx hb dX12_put_33 hl (k := 0) rfl (by decide) (by decide) rfl (fun ls hl => ?_)
  refine lv_goto (tgt := 3) hx hb dX12_put_36 (by decide) ?_
  refine lv_iload_n hx hb dX12_put_3 rfl (lv_at hl 0 rfl) ?_
  refine lv_if_lt (tgt := 39) hx hb dX12_put_4 (by decide) (fun _ => ?_) (fun h => (h (by decide)).elim)
  exact fin_v hx hb hr hlk hK hP hD hS dX12_put_39 (⟨((((fs0.set 1 (.int 5)).set 1 (.int 6)).set 1 (.int 7)).set 1 (.int 8)), f_4, rfl, (ln_set (ln_set (ln_set (ln_set hl_fs0)))), (gs_ne (by decide) (gs_ne (by decide) (gs_ne (by decide) (gs_ne (by decide) hf_fs0_0)))), (gs_eq (ln_lt (ln_set (ln_set (ln_set hl_fs0))) (by decide)))⟩)
set_option maxRecDepth 100000 in
set_option maxHeartbeats 4000000 in
theorem c_X12_put_8 (l : Launch) (D : va_G) (cI cJ cZ : ClassId) (h0 q1 : Nat) (fs0 : List Value) (f1 : Nat → Int32) (p0 : Int32) (hl_fs0 : fs0.length = 94) (hf_fs0_0 : fs0[0]? = some (.ref q1)) (hf_fs0_1 : fs0[1]? = some (.int 8)) : Con_v l yX12_put cX12_put 3 none ({ frames := 0, cells := 0, slots := 0, locals := 0 }) D cI cJ cZ eT [.ref h0, .int p0] [(h0, .inr (12, fs0)), (q1, .inl (cI, 1000, .inl f1))] (fun w => ∃ (fs1 : List Value) (f2 : Nat → Int32), w = [(h0, .inr (12, fs1)), (q1, .inl (cI, 1000, .inl f2))] ∧ fs1.length = 94 ∧ fs1[0]? = some (.ref q1) ∧ fs1[1]? = some (.int 12)) := by
  refine ent_v (by decide) (Nat.le_of_ble_eq_true rfl) ?_
  intro p e s m below meth c A hx hb hml hown hts hr hlk hnm hK hE hA hP hD hS ls hl
  have hown : s.vm.findClass RX12 = some m.cls := hown
  have hl : lv_has ls 3 [(0, .ref h0), (1, .int p0)] := hl
  refine lv_bipush (v := 24) hx hb dX12_put_0 (by decide) ?_
  refine lv_istore_n (lv' := [(2, .int 24), (0, .ref h0), (1, .int p0)]) hx hb dX12_put_2 rfl hl (by decide) rfl (fun ls hl => ?_)
  refine lv_iload_n hx hb dX12_put_3 rfl (lv_at hl 0 rfl) ?_
  refine lv_if_lt (tgt := 39) hx hb dX12_put_4 (by decide) (fun h => absurd h (by decide)) (fun _ => ?_)
  refine lv_aload_n hx hb dX12_put_7 rfl (lv_at hl 1 rfl) ?_
  refine gt_X12 hx hb hts hown hK hP 0 rfl 0 (by decide) wd_1401 rfl hf_fs0_0 dX12_put_8 ?_
  refine lv_aload_n hx hb dX12_put_11 rfl (lv_at hl 1 rfl) ?_
  refine gt_X12 hx hb hts hown hK hP 0 rfl 1 (by decide) wd_1402 rfl hf_fs0_1 dX12_put_12 ?_
  refine lv_iload_n hx hb dX12_put_15 rfl (lv_at hl 2 rfl) ?_
  refine lv_iload_n hx hb dX12_put_16 rfl (lv_at hl 0 rfl) ?_
  refine lv_ishr hx hb dX12_put_17 ?_
  refine lv_sipush (v := 255) hx hb dX12_put_18 (by decide) ?_
  refine lv_iand hx hb dX12_put_21 ?_
  refine va_iast hx hb hK hP hD hS 1 0 rfl rfl (vp_in_c (by decide)) dX12_put_22 (fun H locs hP hD hS => ?_)
  obtain ⟨f_1, ef_1⟩ : ∃ z, z = upd f1 (8 : Int32).toNatClampNeg ((p0 >>> (24 &&& 31)) &&& 255) := ⟨_, rfl⟩
  rw [← ef_1] at hP hD
  have hP : va_P D vwCl [(h0, .inr (12, fs0)), (q1, .inl (cI, 1000, .inl f_1))] H := hP
  have hD : va_D A [(h0, .inr (12, fs0)), (q1, .inl (cI, 1000, .inl f_1))] := hD
  refine lv_aload_n hx hb dX12_put_23 rfl (lv_at hl 1 rfl) ?_
  refine lv_dup hx hb dX12_put_24 rfl ?_
  refine gt_X12 hx hb hts hown hK hP 0 rfl 1 (by decide) wd_1402 rfl hf_fs0_1 dX12_put_25 ?_
  refine lv_iconst (v := 1) hx hb dX12_put_28 (by decide) ?_
  refine lv_iadd hx hb dX12_put_29 ?_
  refine tov (v := 9) (by decide) ?_
  refine pt_X12 hx hb hts hown hK hP hD hS 0 rfl 1 (by decide) wd_1402 rfl rfl (ty := .int) (v := .int 9) (by decide +kernel) rfl rfl (ln_lt hl_fs0 (by decide)) dX12_put_30 (fun H locs hP hD hS => ?_)
  have hP : va_P D vwCl [(h0, .inr (12, (fs0.set 1 (.int 9)))), (q1, .inl (cI, 1000, .inl f_1))] H := hP
  have hD : va_D A [(h0, .inr (12, (fs0.set 1 (.int 9)))), (q1, .inl (cI, 1000, .inl f_1))] := hD
  refine lv_iinc (v := 16) (lv' := [(2, .int 16), (0, .ref h0), (1, .int p0)]) hx hb dX12_put_33 hl (k := 0) rfl (by decide) (by decide) rfl (fun ls hl => ?_)
  refine lv_goto (tgt := 3) hx hb dX12_put_36 (by decide) ?_
  refine lv_iload_n hx hb dX12_put_3 rfl (lv_at hl 0 rfl) ?_
  refine lv_if_lt (tgt := 39) hx hb dX12_put_4 (by decide) (fun h => absurd h (by decide)) (fun _ => ?_)
  refine lv_aload_n hx hb dX12_put_7 rfl (lv_at hl 1 rfl) ?_
  refine gt_X12 hx hb hts hown hK hP 0 rfl 0 (by decide) wd_1401 rfl (gs_ne (by decide) hf_fs0_0) dX12_put_8 ?_
  refine lv_aload_n hx hb dX12_put_11 rfl (lv_at hl 1 rfl) ?_
  refine gt_X12 hx hb hts hown hK hP 0 rfl 1 (by decide) wd_1402 rfl (gs_eq (ln_lt hl_fs0 (by decide))) dX12_put_12 ?_
  refine lv_iload_n hx hb dX12_put_15 rfl (lv_at hl 2 rfl) ?_
  refine lv_iload_n hx hb dX12_put_16 rfl (lv_at hl 0 rfl) ?_
  refine lv_ishr hx hb dX12_put_17 ?_
  refine lv_sipush (v := 255) hx hb dX12_put_18 (by decide) ?_
  refine lv_iand hx hb dX12_put_21 ?_
  refine va_iast hx hb hK hP hD hS 1 0 rfl rfl (vp_in_c (by decide)) dX12_put_22 (fun H locs hP hD hS => ?_)
  obtain ⟨f_2, ef_2⟩ : ∃ z, z = upd f_1 (9 : Int32).toNatClampNeg ((p0 >>> (16 &&& 31)) &&& 255) := ⟨_, rfl⟩
  rw [← ef_2] at hP hD
  have hP : va_P D vwCl [(h0, .inr (12, (fs0.set 1 (.int 9)))), (q1, .inl (cI, 1000, .inl f_2))] H := hP
  have hD : va_D A [(h0, .inr (12, (fs0.set 1 (.int 9)))), (q1, .inl (cI, 1000, .inl f_2))] := hD
  refine lv_aload_n hx hb dX12_put_23 rfl (lv_at hl 1 rfl) ?_
  refine lv_dup hx hb dX12_put_24 rfl ?_
  refine gt_X12 hx hb hts hown hK hP 0 rfl 1 (by decide) wd_1402 rfl (gs_eq (ln_lt hl_fs0 (by decide))) dX12_put_25 ?_
  refine lv_iconst (v := 1) hx hb dX12_put_28 (by decide) ?_
  refine lv_iadd hx hb dX12_put_29 ?_
  refine tov (v := 10) (by decide) ?_
  refine pt_X12 hx hb hts hown hK hP hD hS 0 rfl 1 (by decide) wd_1402 rfl rfl (ty := .int) (v := .int 10) (by decide +kernel) rfl rfl (ln_lt (ln_set hl_fs0) (by decide)) dX12_put_30 (fun H locs hP hD hS => ?_)
  have hP : va_P D vwCl [(h0, .inr (12, ((fs0.set 1 (.int 9)).set 1 (.int 10)))), (q1, .inl (cI, 1000, .inl f_2))] H := hP
  have hD : va_D A [(h0, .inr (12, ((fs0.set 1 (.int 9)).set 1 (.int 10)))), (q1, .inl (cI, 1000, .inl f_2))] := hD
  refine lv_iinc (v := 8) (lv' := [(2, .int 8), (0, .ref h0), (1, .int p0)]) hx hb dX12_put_33 hl (k := 0) rfl (by decide) (by decide) rfl (fun ls hl => ?_)
  refine lv_goto (tgt := 3) hx hb dX12_put_36 (by decide) ?_
  refine lv_iload_n hx hb dX12_put_3 rfl (lv_at hl 0 rfl) ?_
  refine lv_if_lt (tgt := 39) hx hb dX12_put_4 (by decide) (fun h => absurd h (by decide)) (fun _ => ?_)
  refine lv_aload_n hx hb dX12_put_7 rfl (lv_at hl 1 rfl) ?_
  refine gt_X12 hx hb hts hown hK hP 0 rfl 0 (by decide) wd_1401 rfl (gs_ne (by decide) (gs_ne (by decide) hf_fs0_0)) dX12_put_8 ?_
  refine lv_aload_n hx hb dX12_put_11 rfl (lv_at hl 1 rfl) ?_
  refine gt_X12 hx hb hts hown hK hP 0 rfl 1 (by decide) wd_1402 rfl (gs_eq (ln_lt (ln_set hl_fs0) (by decide))) dX12_put_12 ?_
  refine lv_iload_n hx hb dX12_put_15 rfl (lv_at hl 2 rfl) ?_
  refine lv_iload_n hx hb dX12_put_16 rfl (lv_at hl 0 rfl) ?_
  refine lv_ishr hx hb dX12_put_17 ?_
  refine lv_sipush (v := 255) hx hb dX12_put_18 (by decide) ?_
  refine lv_iand hx hb dX12_put_21 ?_
  refine va_iast hx hb hK hP hD hS 1 0 rfl rfl (vp_in_c (by decide)) dX12_put_22 (fun H locs hP hD hS => ?_)
  obtain ⟨f_3, ef_3⟩ : ∃ z, z = upd f_2 (10 : Int32).toNatClampNeg ((p0 >>> (8 &&& 31)) &&& 255) := ⟨_, rfl⟩
  rw [← ef_3] at hP hD
  have hP : va_P D vwCl [(h0, .inr (12, ((fs0.set 1 (.int 9)).set 1 (.int 10)))), (q1, .inl (cI, 1000, .inl f_3))] H := hP
  have hD : va_D A [(h0, .inr (12, ((fs0.set 1 (.int 9)).set 1 (.int 10)))), (q1, .inl (cI, 1000, .inl f_3))] := hD
  refine lv_aload_n hx hb dX12_put_23 rfl (lv_at hl 1 rfl) ?_
  refine lv_dup hx hb dX12_put_24 rfl ?_
  refine gt_X12 hx hb hts hown hK hP 0 rfl 1 (by decide) wd_1402 rfl (gs_eq (ln_lt (ln_set hl_fs0) (by decide))) dX12_put_25 ?_
  refine lv_iconst (v := 1) hx hb dX12_put_28 (by decide) ?_
  refine lv_iadd hx hb dX12_put_29 ?_
  refine tov (v := 11) (by decide) ?_
  refine pt_X12 hx hb hts hown hK hP hD hS 0 rfl 1 (by decide) wd_1402 rfl rfl (ty := .int) (v := .int 11) (by decide +kernel) rfl rfl (ln_lt (ln_set (ln_set hl_fs0)) (by decide)) dX12_put_30 (fun H locs hP hD hS => ?_)
  have hP : va_P D vwCl [(h0, .inr (12, (((fs0.set 1 (.int 9)).set 1 (.int 10)).set 1 (.int 11)))), (q1, .inl (cI, 1000, .inl f_3))] H := hP
  have hD : va_D A [(h0, .inr (12, (((fs0.set 1 (.int 9)).set 1 (.int 10)).set 1 (.int 11)))), (q1, .inl (cI, 1000, .inl f_3))] := hD
  refine lv_iinc (v := 0) (lv' := [(2, .int 0), (0, .ref h0), (1, .int p0)]) hx hb dX12_put_33 hl (k := 0) rfl (by decide) (by decide) rfl (fun ls hl => ?_)
  refine lv_goto (tgt := 3) hx hb dX12_put_36 (by decide) ?_
  refine lv_iload_n hx hb dX12_put_3 rfl (lv_at hl 0 rfl) ?_
  refine lv_if_lt (tgt := 39) hx hb dX12_put_4 (by decide) (fun h => absurd h (by decide)) (fun _ => ?_)
  refine lv_aload_n hx hb dX12_put_7 rfl (lv_at hl 1 rfl) ?_
  refine gt_X12 hx hb hts hown hK hP 0 rfl 0 (by decide) wd_1401 rfl (gs_ne (by decide) (gs_ne (by decide) (gs_ne (by decide) hf_fs0_0))) dX12_put_8 ?_
  refine lv_aload_n hx hb dX12_put_11 rfl (lv_at hl 1 rfl) ?_
  refine gt_X12 hx hb hts hown hK hP 0 rfl 1 (by decide) wd_1402 rfl (gs_eq (ln_lt (ln_set (ln_set hl_fs0)) (by decide))) dX12_put_12 ?_
  refine lv_iload_n hx hb dX12_put_15 rfl (lv_at hl 2 rfl) ?_
  refine lv_iload_n hx hb dX12_put_16 rfl (lv_at hl 0 rfl) ?_
  refine lv_ishr hx hb dX12_put_17 ?_
  refine lv_sipush (v := 255) hx hb dX12_put_18 (by decide) ?_
  refine lv_iand hx hb dX12_put_21 ?_
  refine va_iast hx hb hK hP hD hS 1 0 rfl rfl (vp_in_c (by decide)) dX12_put_22 (fun H locs hP hD hS => ?_)
  obtain ⟨f_4, ef_4⟩ : ∃ z, z = upd f_3 (11 : Int32).toNatClampNeg ((p0 >>> (0 &&& 31)) &&& 255) := ⟨_, rfl⟩
  rw [← ef_4] at hP hD
  have hP : va_P D vwCl [(h0, .inr (12, (((fs0.set 1 (.int 9)).set 1 (.int 10)).set 1 (.int 11)))), (q1, .inl (cI, 1000, .inl f_4))] H := hP
  have hD : va_D A [(h0, .inr (12, (((fs0.set 1 (.int 9)).set 1 (.int 10)).set 1 (.int 11)))), (q1, .inl (cI, 1000, .inl f_4))] := hD
  refine lv_aload_n hx hb dX12_put_23 rfl (lv_at hl 1 rfl) ?_
  refine lv_dup hx hb dX12_put_24 rfl ?_
  refine gt_X12 hx hb hts hown hK hP 0 rfl 1 (by decide) wd_1402 rfl (gs_eq (ln_lt (ln_set (ln_set hl_fs0)) (by decide))) dX12_put_25 ?_
  refine lv_iconst (v := 1) hx hb dX12_put_28 (by decide) ?_
  refine lv_iadd hx hb dX12_put_29 ?_
  refine tov (v := 12) (by decide) ?_
  refine pt_X12 hx hb hts hown hK hP hD hS 0 rfl 1 (by decide) wd_1402 rfl rfl (ty := .int) (v := .int 12) (by decide +kernel) rfl rfl (ln_lt (ln_set (ln_set (ln_set hl_fs0))) (by decide)) dX12_put_30 (fun H locs hP hD hS => ?_)
  have hP : va_P D vwCl [(h0, .inr (12, ((((fs0.set 1 (.int 9)).set 1 (.int 10)).set 1 (.int 11)).set 1 (.int 12)))), (q1, .inl (cI, 1000, .inl f_4))] H := hP
  have hD : va_D A [(h0, .inr (12, ((((fs0.set 1 (.int 9)).set 1 (.int 10)).set 1 (.int 11)).set 1 (.int 12)))), (q1, .inl (cI, 1000, .inl f_4))] := hD
  refine lv_iinc (v := (-8)) (lv' := [(2, .int (-8)), (0, .ref h0), (1, .int p0)]) hx hb dX12_put_33 hl (k := 0) rfl (by decide) (by decide) rfl (fun ls hl => ?_)
  refine lv_goto (tgt := 3) hx hb dX12_put_36 (by decide) ?_
  refine lv_iload_n hx hb dX12_put_3 rfl (lv_at hl 0 rfl) ?_
  refine lv_if_lt (tgt := 39) hx hb dX12_put_4 (by decide) (fun _ => ?_) (fun h => (h (by decide)).elim)
  exact fin_v hx hb hr hlk hK hP hD hS dX12_put_39 (⟨((((fs0.set 1 (.int 9)).set 1 (.int 10)).set 1 (.int 11)).set 1 (.int 12)), f_4, rfl, (ln_set (ln_set (ln_set (ln_set hl_fs0)))), (gs_ne (by decide) (gs_ne (by decide) (gs_ne (by decide) (gs_ne (by decide) hf_fs0_0)))), (gs_eq (ln_lt (ln_set (ln_set (ln_set hl_fs0))) (by decide)))⟩)
set_option maxRecDepth 100000 in
set_option maxHeartbeats 4000000 in
theorem c_X12_put_12 (l : Launch) (D : va_G) (cI cJ cZ : ClassId) (h0 q1 : Nat) (fs0 : List Value) (f1 : Nat → Int32) (p0 : Int32) (hl_fs0 : fs0.length = 94) (hf_fs0_0 : fs0[0]? = some (.ref q1)) (hf_fs0_1 : fs0[1]? = some (.int 12)) : Con_v l yX12_put cX12_put 3 none ({ frames := 0, cells := 0, slots := 0, locals := 0 }) D cI cJ cZ eT [.ref h0, .int p0] [(h0, .inr (12, fs0)), (q1, .inl (cI, 1000, .inl f1))] (fun w => ∃ (fs1 : List Value) (f2 : Nat → Int32), w = [(h0, .inr (12, fs1)), (q1, .inl (cI, 1000, .inl f2))] ∧ fs1.length = 94 ∧ fs1[0]? = some (.ref q1) ∧ fs1[1]? = some (.int 16)) := by
  refine ent_v (by decide) (Nat.le_of_ble_eq_true rfl) ?_
  intro p e s m below meth c A hx hb hml hown hts hr hlk hnm hK hE hA hP hD hS ls hl
  have hown : s.vm.findClass RX12 = some m.cls := hown
  have hl : lv_has ls 3 [(0, .ref h0), (1, .int p0)] := hl
  refine lv_bipush (v := 24) hx hb dX12_put_0 (by decide) ?_
  refine lv_istore_n (lv' := [(2, .int 24), (0, .ref h0), (1, .int p0)]) hx hb dX12_put_2 rfl hl (by decide) rfl (fun ls hl => ?_)
  refine lv_iload_n hx hb dX12_put_3 rfl (lv_at hl 0 rfl) ?_
  refine lv_if_lt (tgt := 39) hx hb dX12_put_4 (by decide) (fun h => absurd h (by decide)) (fun _ => ?_)
  refine lv_aload_n hx hb dX12_put_7 rfl (lv_at hl 1 rfl) ?_
  refine gt_X12 hx hb hts hown hK hP 0 rfl 0 (by decide) wd_1401 rfl hf_fs0_0 dX12_put_8 ?_
  refine lv_aload_n hx hb dX12_put_11 rfl (lv_at hl 1 rfl) ?_
  refine gt_X12 hx hb hts hown hK hP 0 rfl 1 (by decide) wd_1402 rfl hf_fs0_1 dX12_put_12 ?_
  refine lv_iload_n hx hb dX12_put_15 rfl (lv_at hl 2 rfl) ?_
  refine lv_iload_n hx hb dX12_put_16 rfl (lv_at hl 0 rfl) ?_
  refine lv_ishr hx hb dX12_put_17 ?_
  refine lv_sipush (v := 255) hx hb dX12_put_18 (by decide) ?_
  refine lv_iand hx hb dX12_put_21 ?_
  refine va_iast hx hb hK hP hD hS 1 0 rfl rfl (vp_in_c (by decide)) dX12_put_22 (fun H locs hP hD hS => ?_)
  obtain ⟨f_1, ef_1⟩ : ∃ z, z = upd f1 (12 : Int32).toNatClampNeg ((p0 >>> (24 &&& 31)) &&& 255) := ⟨_, rfl⟩
  rw [← ef_1] at hP hD
  have hP : va_P D vwCl [(h0, .inr (12, fs0)), (q1, .inl (cI, 1000, .inl f_1))] H := hP
  have hD : va_D A [(h0, .inr (12, fs0)), (q1, .inl (cI, 1000, .inl f_1))] := hD
  refine lv_aload_n hx hb dX12_put_23 rfl (lv_at hl 1 rfl) ?_
  refine lv_dup hx hb dX12_put_24 rfl ?_
  refine gt_X12 hx hb hts hown hK hP 0 rfl 1 (by decide) wd_1402 rfl hf_fs0_1 dX12_put_25 ?_
  refine lv_iconst (v := 1) hx hb dX12_put_28 (by decide) ?_
  refine lv_iadd hx hb dX12_put_29 ?_
  refine tov (v := 13) (by decide) ?_
  refine pt_X12 hx hb hts hown hK hP hD hS 0 rfl 1 (by decide) wd_1402 rfl rfl (ty := .int) (v := .int 13) (by decide +kernel) rfl rfl (ln_lt hl_fs0 (by decide)) dX12_put_30 (fun H locs hP hD hS => ?_)
  have hP : va_P D vwCl [(h0, .inr (12, (fs0.set 1 (.int 13)))), (q1, .inl (cI, 1000, .inl f_1))] H := hP
  have hD : va_D A [(h0, .inr (12, (fs0.set 1 (.int 13)))), (q1, .inl (cI, 1000, .inl f_1))] := hD
  refine lv_iinc (v := 16) (lv' := [(2, .int 16), (0, .ref h0), (1, .int p0)]) hx hb dX12_put_33 hl (k := 0) rfl (by decide) (by decide) rfl (fun ls hl => ?_)
  refine lv_goto (tgt := 3) hx hb dX12_put_36 (by decide) ?_
  refine lv_iload_n hx hb dX12_put_3 rfl (lv_at hl 0 rfl) ?_
  refine lv_if_lt (tgt := 39) hx hb dX12_put_4 (by decide) (fun h => absurd h (by decide)) (fun _ => ?_)
  refine lv_aload_n hx hb dX12_put_7 rfl (lv_at hl 1 rfl) ?_
  refine gt_X12 hx hb hts hown hK hP 0 rfl 0 (by decide) wd_1401 rfl (gs_ne (by decide) hf_fs0_0) dX12_put_8 ?_
  refine lv_aload_n hx hb dX12_put_11 rfl (lv_at hl 1 rfl) ?_
  refine gt_X12 hx hb hts hown hK hP 0 rfl 1 (by decide) wd_1402 rfl (gs_eq (ln_lt hl_fs0 (by decide))) dX12_put_12 ?_
  refine lv_iload_n hx hb dX12_put_15 rfl (lv_at hl 2 rfl) ?_
  refine lv_iload_n hx hb dX12_put_16 rfl (lv_at hl 0 rfl) ?_
  refine lv_ishr hx hb dX12_put_17 ?_
  refine lv_sipush (v := 255) hx hb dX12_put_18 (by decide) ?_
  refine lv_iand hx hb dX12_put_21 ?_
  refine va_iast hx hb hK hP hD hS 1 0 rfl rfl (vp_in_c (by decide)) dX12_put_22 (fun H locs hP hD hS => ?_)
  obtain ⟨f_2, ef_2⟩ : ∃ z, z = upd f_1 (13 : Int32).toNatClampNeg ((p0 >>> (16 &&& 31)) &&& 255) := ⟨_, rfl⟩
  rw [← ef_2] at hP hD
  have hP : va_P D vwCl [(h0, .inr (12, (fs0.set 1 (.int 13)))), (q1, .inl (cI, 1000, .inl f_2))] H := hP
  have hD : va_D A [(h0, .inr (12, (fs0.set 1 (.int 13)))), (q1, .inl (cI, 1000, .inl f_2))] := hD
  refine lv_aload_n hx hb dX12_put_23 rfl (lv_at hl 1 rfl) ?_
  refine lv_dup hx hb dX12_put_24 rfl ?_
  refine gt_X12 hx hb hts hown hK hP 0 rfl 1 (by decide) wd_1402 rfl (gs_eq (ln_lt hl_fs0 (by decide))) dX12_put_25 ?_
  refine lv_iconst (v := 1) hx hb dX12_put_28 (by decide) ?_
  refine lv_iadd hx hb dX12_put_29 ?_
  refine tov (v := 14) (by decide) ?_
  refine pt_X12 hx hb hts hown hK hP hD hS 0 rfl 1 (by decide) wd_1402 rfl rfl (ty := .int) (v := .int 14) (by decide +kernel) rfl rfl (ln_lt (ln_set hl_fs0) (by decide)) dX12_put_30 (fun H locs hP hD hS => ?_)
  have hP : va_P D vwCl [(h0, .inr (12, ((fs0.set 1 (.int 13)).set 1 (.int 14)))), (q1, .inl (cI, 1000, .inl f_2))] H := hP
  have hD : va_D A [(h0, .inr (12, ((fs0.set 1 (.int 13)).set 1 (.int 14)))), (q1, .inl (cI, 1000, .inl f_2))] := hD
  refine lv_iinc (v := 8) (lv' := [(2, .int 8), (0, .ref h0), (1, .int p0)]) hx hb dX12_put_33 hl (k := 0) rfl (by decide) (by decide) rfl (fun ls hl => ?_)
  refine lv_goto (tgt := 3) hx hb dX12_put_36 (by decide) ?_
  refine lv_iload_n hx hb dX12_put_3 rfl (lv_at hl 0 rfl) ?_
  refine lv_if_lt (tgt := 39) hx hb dX12_put_4 (by decide) (fun h => absurd h (by decide)) (fun _ => ?_)
  refine lv_aload_n hx hb dX12_put_7 rfl (lv_at hl 1 rfl) ?_
  refine gt_X12 hx hb hts hown hK hP 0 rfl 0 (by decide) wd_1401 rfl (gs_ne (by decide) (gs_ne (by decide) hf_fs0_0)) dX12_put_8 ?_
  refine lv_aload_n hx hb dX12_put_11 rfl (lv_at hl 1 rfl) ?_
  refine gt_X12 hx hb hts hown hK hP 0 rfl 1 (by decide) wd_1402 rfl (gs_eq (ln_lt (ln_set hl_fs0) (by decide))) dX12_put_12 ?_
  refine lv_iload_n hx hb dX12_put_15 rfl (lv_at hl 2 rfl) ?_
  refine lv_iload_n hx hb dX12_put_16 rfl (lv_at hl 0 rfl) ?_
  refine lv_ishr hx hb dX12_put_17 ?_
  refine lv_sipush (v := 255) hx hb dX12_put_18 (by decide) ?_
  refine lv_iand hx hb dX12_put_21 ?_
  refine va_iast hx hb hK hP hD hS 1 0 rfl rfl (vp_in_c (by decide)) dX12_put_22 (fun H locs hP hD hS => ?_)
  obtain ⟨f_3, ef_3⟩ : ∃ z, z = upd f_2 (14 : Int32).toNatClampNeg ((p0 >>> (8 &&& 31)) &&& 255) := ⟨_, rfl⟩
  rw [← ef_3] at hP hD
  have hP : va_P D vwCl [(h0, .inr (12, ((fs0.set 1 (.int 13)).set 1 (.int 14)))), (q1, .inl (cI, 1000, .inl f_3))] H := hP
  have hD : va_D A [(h0, .inr (12, ((fs0.set 1 (.int 13)).set 1 (.int 14)))), (q1, .inl (cI, 1000, .inl f_3))] := hD
  refine lv_aload_n hx hb dX12_put_23 rfl (lv_at hl 1 rfl) ?_
  refine lv_dup hx hb dX12_put_24 rfl ?_
  refine gt_X12 hx hb hts hown hK hP 0 rfl 1 (by decide) wd_1402 rfl (gs_eq (ln_lt (ln_set hl_fs0) (by decide))) dX12_put_25 ?_
  refine lv_iconst (v := 1) hx hb dX12_put_28 (by decide) ?_
  refine lv_iadd hx hb dX12_put_29 ?_
  refine tov (v := 15) (by decide) ?_
  refine pt_X12 hx hb hts hown hK hP hD hS 0 rfl 1 (by decide) wd_1402 rfl rfl (ty := .int) (v := .int 15) (by decide +kernel) rfl rfl (ln_lt (ln_set (ln_set hl_fs0)) (by decide)) dX12_put_30 (fun H locs hP hD hS => ?_)
  have hP : va_P D vwCl [(h0, .inr (12, (((fs0.set 1 (.int 13)).set 1 (.int 14)).set 1 (.int 15)))), (q1, .inl (cI, 1000, .inl f_3))] H := hP
  have hD : va_D A [(h0, .inr (12, (((fs0.set 1 (.int 13)).set 1 (.int 14)).set 1 (.int 15)))), (q1, .inl (cI, 1000, .inl f_3))] := hD
  refine lv_iinc (v := 0) (lv' := [(2, .int 0), (0, .ref h0), (1, .int p0)]) hx hb dX12_put_33 hl (k := 0) rfl (by decide) (by decide) rfl (fun ls hl => ?_)
  refine lv_goto (tgt := 3) hx hb dX12_put_36 (by decide) ?_
  refine lv_iload_n hx hb dX12_put_3 rfl (lv_at hl 0 rfl) ?_
  refine lv_if_lt (tgt := 39) hx hb dX12_put_4 (by decide) (fun h => absurd h (by decide)) (fun _ => ?_)
  refine lv_aload_n hx hb dX12_put_7 rfl (lv_at hl 1 rfl) ?_
  refine gt_X12 hx hb hts hown hK hP 0 rfl 0 (by decide) wd_1401 rfl (gs_ne (by decide) (gs_ne (by decide) (gs_ne (by decide) hf_fs0_0))) dX12_put_8 ?_
  refine lv_aload_n hx hb dX12_put_11 rfl (lv_at hl 1 rfl) ?_
  refine gt_X12 hx hb hts hown hK hP 0 rfl 1 (by decide) wd_1402 rfl (gs_eq (ln_lt (ln_set (ln_set hl_fs0)) (by decide))) dX12_put_12 ?_
  refine lv_iload_n hx hb dX12_put_15 rfl (lv_at hl 2 rfl) ?_
  refine lv_iload_n hx hb dX12_put_16 rfl (lv_at hl 0 rfl) ?_
  refine lv_ishr hx hb dX12_put_17 ?_
  refine lv_sipush (v := 255) hx hb dX12_put_18 (by decide) ?_
  refine lv_iand hx hb dX12_put_21 ?_
  refine va_iast hx hb hK hP hD hS 1 0 rfl rfl (vp_in_c (by decide)) dX12_put_22 (fun H locs hP hD hS => ?_)
  obtain ⟨f_4, ef_4⟩ : ∃ z, z = upd f_3 (15 : Int32).toNatClampNeg ((p0 >>> (0 &&& 31)) &&& 255) := ⟨_, rfl⟩
  rw [← ef_4] at hP hD
  have hP : va_P D vwCl [(h0, .inr (12, (((fs0.set 1 (.int 13)).set 1 (.int 14)).set 1 (.int 15)))), (q1, .inl (cI, 1000, .inl f_4))] H := hP
  have hD : va_D A [(h0, .inr (12, (((fs0.set 1 (.int 13)).set 1 (.int 14)).set 1 (.int 15)))), (q1, .inl (cI, 1000, .inl f_4))] := hD
  refine lv_aload_n hx hb dX12_put_23 rfl (lv_at hl 1 rfl) ?_
  refine lv_dup hx hb dX12_put_24 rfl ?_
  refine gt_X12 hx hb hts hown hK hP 0 rfl 1 (by decide) wd_1402 rfl (gs_eq (ln_lt (ln_set (ln_set hl_fs0)) (by decide))) dX12_put_25 ?_
  refine lv_iconst (v := 1) hx hb dX12_put_28 (by decide) ?_
  refine lv_iadd hx hb dX12_put_29 ?_
  refine tov (v := 16) (by decide) ?_
  refine pt_X12 hx hb hts hown hK hP hD hS 0 rfl 1 (by decide) wd_1402 rfl rfl (ty := .int) (v := .int 16) (by decide +kernel) rfl rfl (ln_lt (ln_set (ln_set (ln_set hl_fs0))) (by decide)) dX12_put_30 (fun H locs hP hD hS => ?_)
  have hP : va_P D vwCl [(h0, .inr (12, ((((fs0.set 1 (.int 13)).set 1 (.int 14)).set 1 (.int 15)).set 1 (.int 16)))), (q1, .inl (cI, 1000, .inl f_4))] H := hP
  have hD : va_D A [(h0, .inr (12, ((((fs0.set 1 (.int 13)).set 1 (.int 14)).set 1 (.int 15)).set 1 (.int 16)))), (q1, .inl (cI, 1000, .inl f_4))] := hD
  refine lv_iinc (v := (-8)) (lv' := [(2, .int (-8)), (0, .ref h0), (1, .int p0)]) hx hb dX12_put_33 hl (k := 0) rfl (by decide) (by decide) rfl (fun ls hl => ?_)
  refine lv_goto (tgt := 3) hx hb dX12_put_36 (by decide) ?_
  refine lv_iload_n hx hb dX12_put_3 rfl (lv_at hl 0 rfl) ?_
  refine lv_if_lt (tgt := 39) hx hb dX12_put_4 (by decide) (fun _ => ?_) (fun h => (h (by decide)).elim)
  exact fin_v hx hb hr hlk hK hP hD hS dX12_put_39 (⟨((((fs0.set 1 (.int 13)).set 1 (.int 14)).set 1 (.int 15)).set 1 (.int 16)), f_4, rfl, (ln_set (ln_set (ln_set (ln_set hl_fs0)))), (gs_ne (by decide) (gs_ne (by decide) (gs_ne (by decide) (gs_ne (by decide) hf_fs0_0)))), (gs_eq (ln_lt (ln_set (ln_set (ln_set hl_fs0))) (by decide)))⟩)
set_option maxRecDepth 100000 in
set_option maxHeartbeats 4000000 in
theorem c_X12_put_16 (l : Launch) (D : va_G) (cI cJ cZ : ClassId) (h0 q1 : Nat) (fs0 : List Value) (f1 : Nat → Int32) (p0 : Int32) (hl_fs0 : fs0.length = 94) (hf_fs0_0 : fs0[0]? = some (.ref q1)) (hf_fs0_1 : fs0[1]? = some (.int 16)) : Con_v l yX12_put cX12_put 3 none ({ frames := 0, cells := 0, slots := 0, locals := 0 }) D cI cJ cZ eT [.ref h0, .int p0] [(h0, .inr (12, fs0)), (q1, .inl (cI, 1000, .inl f1))] (fun w => ∃ (fs1 : List Value) (f2 : Nat → Int32), w = [(h0, .inr (12, fs1)), (q1, .inl (cI, 1000, .inl f2))] ∧ fs1.length = 94 ∧ fs1[0]? = some (.ref q1) ∧ fs1[1]? = some (.int 20)) := by
  refine ent_v (by decide) (Nat.le_of_ble_eq_true rfl) ?_
  intro p e s m below meth c A hx hb hml hown hts hr hlk hnm hK hE hA hP hD hS ls hl
  have hown : s.vm.findClass RX12 = some m.cls := hown
  have hl : lv_has ls 3 [(0, .ref h0), (1, .int p0)] := hl
  refine lv_bipush (v := 24) hx hb dX12_put_0 (by decide) ?_
  refine lv_istore_n (lv' := [(2, .int 24), (0, .ref h0), (1, .int p0)]) hx hb dX12_put_2 rfl hl (by decide) rfl (fun ls hl => ?_)
  refine lv_iload_n hx hb dX12_put_3 rfl (lv_at hl 0 rfl) ?_
  refine lv_if_lt (tgt := 39) hx hb dX12_put_4 (by decide) (fun h => absurd h (by decide)) (fun _ => ?_)
  refine lv_aload_n hx hb dX12_put_7 rfl (lv_at hl 1 rfl) ?_
  refine gt_X12 hx hb hts hown hK hP 0 rfl 0 (by decide) wd_1401 rfl hf_fs0_0 dX12_put_8 ?_
  refine lv_aload_n hx hb dX12_put_11 rfl (lv_at hl 1 rfl) ?_
  refine gt_X12 hx hb hts hown hK hP 0 rfl 1 (by decide) wd_1402 rfl hf_fs0_1 dX12_put_12 ?_
  refine lv_iload_n hx hb dX12_put_15 rfl (lv_at hl 2 rfl) ?_
  refine lv_iload_n hx hb dX12_put_16 rfl (lv_at hl 0 rfl) ?_
  refine lv_ishr hx hb dX12_put_17 ?_
  refine lv_sipush (v := 255) hx hb dX12_put_18 (by decide) ?_
  refine lv_iand hx hb dX12_put_21 ?_
  refine va_iast hx hb hK hP hD hS 1 0 rfl rfl (vp_in_c (by decide)) dX12_put_22 (fun H locs hP hD hS => ?_)
  obtain ⟨f_1, ef_1⟩ : ∃ z, z = upd f1 (16 : Int32).toNatClampNeg ((p0 >>> (24 &&& 31)) &&& 255) := ⟨_, rfl⟩
  rw [← ef_1] at hP hD
  have hP : va_P D vwCl [(h0, .inr (12, fs0)), (q1, .inl (cI, 1000, .inl f_1))] H := hP
  have hD : va_D A [(h0, .inr (12, fs0)), (q1, .inl (cI, 1000, .inl f_1))] := hD
  refine lv_aload_n hx hb dX12_put_23 rfl (lv_at hl 1 rfl) ?_
  refine lv_dup hx hb dX12_put_24 rfl ?_
  refine gt_X12 hx hb hts hown hK hP 0 rfl 1 (by decide) wd_1402 rfl hf_fs0_1 dX12_put_25 ?_
  refine lv_iconst (v := 1) hx hb dX12_put_28 (by decide) ?_
  refine lv_iadd hx hb dX12_put_29 ?_
  refine tov (v := 17) (by decide) ?_
  refine pt_X12 hx hb hts hown hK hP hD hS 0 rfl 1 (by decide) wd_1402 rfl rfl (ty := .int) (v := .int 17) (by decide +kernel) rfl rfl (ln_lt hl_fs0 (by decide)) dX12_put_30 (fun H locs hP hD hS => ?_)
  have hP : va_P D vwCl [(h0, .inr (12, (fs0.set 1 (.int 17)))), (q1, .inl (cI, 1000, .inl f_1))] H := hP
  have hD : va_D A [(h0, .inr (12, (fs0.set 1 (.int 17)))), (q1, .inl (cI, 1000, .inl f_1))] := hD
  refine lv_iinc (v := 16) (lv' := [(2, .int 16), (0, .ref h0), (1, .int p0)]) hx hb dX12_put_33 hl (k := 0) rfl (by decide) (by decide) rfl (fun ls hl => ?_)
  refine lv_goto (tgt := 3) hx hb dX12_put_36 (by decide) ?_
  refine lv_iload_n hx hb dX12_put_3 rfl (lv_at hl 0 rfl) ?_
  refine lv_if_lt (tgt := 39) hx hb dX12_put_4 (by decide) (fun h => absurd h (by decide)) (fun _ => ?_)
  refine lv_aload_n hx hb dX12_put_7 rfl (lv_at hl 1 rfl) ?_
  refine gt_X12 hx hb hts hown hK hP 0 rfl 0 (by decide) wd_1401 rfl (gs_ne (by decide) hf_fs0_0) dX12_put_8 ?_
  refine lv_aload_n hx hb dX12_put_11 rfl (lv_at hl 1 rfl) ?_
  refine gt_X12 hx hb hts hown hK hP 0 rfl 1 (by decide) wd_1402 rfl (gs_eq (ln_lt hl_fs0 (by decide))) dX12_put_12 ?_
  refine lv_iload_n hx hb dX12_put_15 rfl (lv_at hl 2 rfl) ?_
  refine lv_iload_n hx hb dX12_put_16 rfl (lv_at hl 0 rfl) ?_
  refine lv_ishr hx hb dX12_put_17 ?_
  refine lv_sipush (v := 255) hx hb dX12_put_18 (by decide) ?_
  refine lv_iand hx hb dX12_put_21 ?_
  refine va_iast hx hb hK hP hD hS 1 0 rfl rfl (vp_in_c (by decide)) dX12_put_22 (fun H locs hP hD hS => ?_)
  obtain ⟨f_2, ef_2⟩ : ∃ z, z = upd f_1 (17 : Int32).toNatClampNeg ((p0 >>> (16 &&& 31)) &&& 255) := ⟨_, rfl⟩
  rw [← ef_2] at hP hD
  have hP : va_P D vwCl [(h0, .inr (12, (fs0.set 1 (.int 17)))), (q1, .inl (cI, 1000, .inl f_2))] H := hP
  have hD : va_D A [(h0, .inr (12, (fs0.set 1 (.int 17)))), (q1, .inl (cI, 1000, .inl f_2))] := hD
  refine lv_aload_n hx hb dX12_put_23 rfl (lv_at hl 1 rfl) ?_
  refine lv_dup hx hb dX12_put_24 rfl ?_
  refine gt_X12 hx hb hts hown hK hP 0 rfl 1 (by decide) wd_1402 rfl (gs_eq (ln_lt hl_fs0 (by decide))) dX12_put_25 ?_
  refine lv_iconst (v := 1) hx hb dX12_put_28 (by decide) ?_
  refine lv_iadd hx hb dX12_put_29 ?_
  refine tov (v := 18) (by decide) ?_
  refine pt_X12 hx hb hts hown hK hP hD hS 0 rfl 1 (by decide) wd_1402 rfl rfl (ty := .int) (v := .int 18) (by decide +kernel) rfl rfl (ln_lt (ln_set hl_fs0) (by decide)) dX12_put_30 (fun H locs hP hD hS => ?_)
  have hP : va_P D vwCl [(h0, .inr (12, ((fs0.set 1 (.int 17)).set 1 (.int 18)))), (q1, .inl (cI, 1000, .inl f_2))] H := hP
  have hD : va_D A [(h0, .inr (12, ((fs0.set 1 (.int 17)).set 1 (.int 18)))), (q1, .inl (cI, 1000, .inl f_2))] := hD
  refine lv_iinc (v := 8) (lv' := [(2, .int 8), (0, .ref h0), (1, .int p0)]) hx hb dX12_put_33 hl (k := 0) rfl (by decide) (by decide) rfl (fun ls hl => ?_)
  refine lv_goto (tgt := 3) hx hb dX12_put_36 (by decide) ?_
  refine lv_iload_n hx hb dX12_put_3 rfl (lv_at hl 0 rfl) ?_
  refine lv_if_lt (tgt := 39) hx hb dX12_put_4 (by decide) (fun h => absurd h (by decide)) (fun _ => ?_)
  refine lv_aload_n hx hb dX12_put_7 rfl (lv_at hl 1 rfl) ?_
  refine gt_X12 hx hb hts hown hK hP 0 rfl 0 (by decide) wd_1401 rfl (gs_ne (by decide) (gs_ne (by decide) hf_fs0_0)) dX12_put_8 ?_
  refine lv_aload_n hx hb dX12_put_11 rfl (lv_at hl 1 rfl) ?_
  refine gt_X12 hx hb hts hown hK hP 0 rfl 1 (by decide) wd_1402 rfl (gs_eq (ln_lt (ln_set hl_fs0) (by decide))) dX12_put_12 ?_
  refine lv_iload_n hx hb dX12_put_15 rfl (lv_at hl 2 rfl) ?_
  refine lv_iload_n hx hb dX12_put_16 rfl (lv_at hl 0 rfl) ?_
  refine lv_ishr hx hb dX12_put_17 ?_
  refine lv_sipush (v := 255) hx hb dX12_put_18 (by decide) ?_
  refine lv_iand hx hb dX12_put_21 ?_
  refine va_iast hx hb hK hP hD hS 1 0 rfl rfl (vp_in_c (by decide)) dX12_put_22 (fun H locs hP hD hS => ?_)
  obtain ⟨f_3, ef_3⟩ : ∃ z, z = upd f_2 (18 : Int32).toNatClampNeg ((p0 >>> (8 &&& 31)) &&& 255) := ⟨_, rfl⟩
  rw [← ef_3] at hP hD
  have hP : va_P D vwCl [(h0, .inr (12, ((fs0.set 1 (.int 17)).set 1 (.int 18)))), (q1, .inl (cI, 1000, .inl f_3))] H := hP
  have hD : va_D A [(h0, .inr (12, ((fs0.set 1 (.int 17)).set 1 (.int 18)))), (q1, .inl (cI, 1000, .inl f_3))] := hD
  refine lv_aload_n hx hb dX12_put_23 rfl (lv_at hl 1 rfl) ?_
  refine lv_dup hx hb dX12_put_24 rfl ?_
  refine gt_X12 hx hb hts hown hK hP 0 rfl 1 (by decide) wd_1402 rfl (gs_eq (ln_lt (ln_set hl_fs0) (by decide))) dX12_put_25 ?_
  refine lv_iconst (v := 1) hx hb dX12_put_28 (by decide) ?_
  refine lv_iadd hx hb dX12_put_29 ?_
  refine tov (v := 19) (by decide) ?_
  refine pt_X12 hx hb hts hown hK hP hD hS 0 rfl 1 (by decide) wd_1402 rfl rfl (ty := .int) (v := .int 19) (by decide +kernel) rfl rfl (ln_lt (ln_set (ln_set hl_fs0)) (by decide)) dX12_put_30 (fun H locs hP hD hS => ?_)
  have hP : va_P D vwCl [(h0, .inr (12, (((fs0.set 1 (.int 17)).set 1 (.int 18)).set 1 (.int 19)))), (q1, .inl (cI, 1000, .inl f_3))] H := hP
  have hD : va_D A [(h0, .inr (12, (((fs0.set 1 (.int 17)).set 1 (.int 18)).set 1 (.int 19)))), (q1, .inl (cI, 1000, .inl f_3))] := hD
  refine lv_iinc (v := 0) (lv' := [(2, .int 0), (0, .ref h0), (1, .int p0)]) hx hb dX12_put_33 hl (k := 0) rfl (by decide) (by decide) rfl (fun ls hl => ?_)
  refine lv_goto (tgt := 3) hx hb dX12_put_36 (by decide) ?_
  refine lv_iload_n hx hb dX12_put_3 rfl (lv_at hl 0 rfl) ?_
  refine lv_if_lt (tgt := 39) hx hb dX12_put_4 (by decide) (fun h => absurd h (by decide)) (fun _ => ?_)
  refine lv_aload_n hx hb dX12_put_7 rfl (lv_at hl 1 rfl) ?_
  refine gt_X12 hx hb hts hown hK hP 0 rfl 0 (by decide) wd_1401 rfl (gs_ne (by decide) (gs_ne (by decide) (gs_ne (by decide) hf_fs0_0))) dX12_put_8 ?_
  refine lv_aload_n hx hb dX12_put_11 rfl (lv_at hl 1 rfl) ?_
  refine gt_X12 hx hb hts hown hK hP 0 rfl 1 (by decide) wd_1402 rfl (gs_eq (ln_lt (ln_set (ln_set hl_fs0)) (by decide))) dX12_put_12 ?_
  refine lv_iload_n hx hb dX12_put_15 rfl (lv_at hl 2 rfl) ?_
  refine lv_iload_n hx hb dX12_put_16 rfl (lv_at hl 0 rfl) ?_
  refine lv_ishr hx hb dX12_put_17 ?_
  refine lv_sipush (v := 255) hx hb dX12_put_18 (by decide) ?_
  refine lv_iand hx hb dX12_put_21 ?_
  refine va_iast hx hb hK hP hD hS 1 0 rfl rfl (vp_in_c (by decide)) dX12_put_22 (fun H locs hP hD hS => ?_)
  obtain ⟨f_4, ef_4⟩ : ∃ z, z = upd f_3 (19 : Int32).toNatClampNeg ((p0 >>> (0 &&& 31)) &&& 255) := ⟨_, rfl⟩
  rw [← ef_4] at hP hD
  have hP : va_P D vwCl [(h0, .inr (12, (((fs0.set 1 (.int 17)).set 1 (.int 18)).set 1 (.int 19)))), (q1, .inl (cI, 1000, .inl f_4))] H := hP
  have hD : va_D A [(h0, .inr (12, (((fs0.set 1 (.int 17)).set 1 (.int 18)).set 1 (.int 19)))), (q1, .inl (cI, 1000, .inl f_4))] := hD
  refine lv_aload_n hx hb dX12_put_23 rfl (lv_at hl 1 rfl) ?_
  refine lv_dup hx hb dX12_put_24 rfl ?_
  refine gt_X12 hx hb hts hown hK hP 0 rfl 1 (by decide) wd_1402 rfl (gs_eq (ln_lt (ln_set (ln_set hl_fs0)) (by decide))) dX12_put_25 ?_
  refine lv_iconst (v := 1) hx hb dX12_put_28 (by decide) ?_
  refine lv_iadd hx hb dX12_put_29 ?_
  refine tov (v := 20) (by decide) ?_
  refine pt_X12 hx hb hts hown hK hP hD hS 0 rfl 1 (by decide) wd_1402 rfl rfl (ty := .int) (v := .int 20) (by decide +kernel) rfl rfl (ln_lt (ln_set (ln_set (ln_set hl_fs0))) (by decide)) dX12_put_30 (fun H locs hP hD hS => ?_)
  have hP : va_P D vwCl [(h0, .inr (12, ((((fs0.set 1 (.int 17)).set 1 (.int 18)).set 1 (.int 19)).set 1 (.int 20)))), (q1, .inl (cI, 1000, .inl f_4))] H := hP
  have hD : va_D A [(h0, .inr (12, ((((fs0.set 1 (.int 17)).set 1 (.int 18)).set 1 (.int 19)).set 1 (.int 20)))), (q1, .inl (cI, 1000, .inl f_4))] := hD
  refine lv_iinc (v := (-8)) (lv' := [(2, .int (-8)), (0, .ref h0), (1, .int p0)]) hx hb dX12_put_33 hl (k := 0) rfl (by decide) (by decide) rfl (fun ls hl => ?_)
  refine lv_goto (tgt := 3) hx hb dX12_put_36 (by decide) ?_
  refine lv_iload_n hx hb dX12_put_3 rfl (lv_at hl 0 rfl) ?_
  refine lv_if_lt (tgt := 39) hx hb dX12_put_4 (by decide) (fun _ => ?_) (fun h => (h (by decide)).elim)
  exact fin_v hx hb hr hlk hK hP hD hS dX12_put_39 (⟨((((fs0.set 1 (.int 17)).set 1 (.int 18)).set 1 (.int 19)).set 1 (.int 20)), f_4, rfl, (ln_set (ln_set (ln_set (ln_set hl_fs0)))), (gs_ne (by decide) (gs_ne (by decide) (gs_ne (by decide) (gs_ne (by decide) hf_fs0_0)))), (gs_eq (ln_lt (ln_set (ln_set (ln_set hl_fs0))) (by decide)))⟩)
set_option maxRecDepth 100000 in
set_option maxHeartbeats 4000000 in
theorem c_X12_feed (l : Launch) (D : va_G) (cI cJ cZ : ClassId) (h0 q1 : Nat) (fs0 : List Value) (f1 : Nat → Int32) (p0 : Int32) (p1 : Int32) (p2 : Int32) (p3 : Int32) (p4 : Int32) (hl_fs0 : fs0.length = 94) (hf_fs0_0 : fs0[0]? = some (.ref q1)) (hf_fs0_1 : fs0[1]? = some (.int 0)) : Con_i l yX12_feed cX12_feed 6 (some .int) ({ frames := 1, cells := 0, slots := 0, locals := 22 }) D cI cJ cZ eT [.ref h0, .int p0, .int p1, .int p2, .int p3, .int p4] [(h0, .inr (12, fs0)), (q1, .inl (cI, 1000, .inl f1))] (fun r _ => r = 20) := by
  refine ent_i (by decide) (Nat.le_of_ble_eq_true rfl) ?_
  intro p e s m below meth c A hx hb hml hown hts hr hlk hnm hK hE hA hP hD hS ls hl
  have hown : s.vm.findClass RX12 = some m.cls := hown
  have hl : lv_has ls 6 [(0, .ref h0), (1, .int p0), (2, .int p1), (3, .int p2), (4, .int p3), (5, .int p4)] := hl
  refine lv_aload_n hx hb dX12_feed_0 rfl (lv_at hl 0 rfl) ?_
  refine gt_X12 hx hb hts hown hK hP 0 rfl 1 (by decide) wd_1402 rfl hf_fs0_1 dX12_feed_1 ?_
  refine lv_bipush (v := 20) hx hb dX12_feed_4 (by decide) ?_
  refine lv_iadd hx hb dX12_feed_6 ?_
  refine tov (v := 20) (by decide) ?_
  refine lv_sipush (v := 1000) hx hb dX12_feed_7 (by decide) ?_
  refine lv_icmp_le (tgt := 15) hx hb dX12_feed_10 (by decide) (fun _ => ?_) (fun h => (h (by decide)).elim)
  refine lv_aload_n hx hb dX12_feed_15 rfl (lv_at hl 0 rfl) ?_
  refine lv_iload_n hx hb dX12_feed_16 rfl (lv_at hl 1 rfl) ?_
  refine cl_v (wr := []) (rn_V (As := [.int p0]) (rest := []) hx hb hml hown hts (c_X12_put_0 l D cI cJ cZ h0 q1 fs0 f1 p0 hl_fs0 hf_fs0_0 hf_fs0_1 _) ⟨rfl, rfl⟩ sv_X12_297 ⟨(Nat.le_of_ble_eq_true rfl), (Nat.le_of_ble_eq_true rfl)⟩ ⟨(Nat.le_of_ble_eq_true rfl), (Nat.le_of_ble_eq_true rfl)⟩ (fun _ _ _ _ h => h) (fun _ _ _ => trivial) hK hP hD [0, 1] rfl rfl 0 12 rfl rfl rfl rfl hl.1 rfl (Nat.le_of_ble_eq_true rfl) dX12_feed_17) hP hD hS hA [0, 1] [] rfl rfl rfl (by decide) (fun w_2 H locs hw_1 hP hD hS => ?_)
  obtain ⟨fs1_4, f2_5, rfl, h_6, h_7, h_8⟩ := hw_1
  have hP : va_P D vwCl [(h0, .inr (12, fs1_4)), (q1, .inl (cI, 1000, .inl f2_5))] H := hP
  have hD : va_D A [(h0, .inr (12, fs1_4)), (q1, .inl (cI, 1000, .inl f2_5))] := hD
  refine lv_aload_n hx hb dX12_feed_20 rfl (lv_at hl 0 rfl) ?_
  refine lv_iload_n hx hb dX12_feed_21 rfl (lv_at hl 2 rfl) ?_
  refine cl_v (wr := []) (rn_V (As := [.int p1]) (rest := []) hx hb hml hown hts (c_X12_put_4 l D cI cJ cZ h0 q1 fs1_4 f2_5 p1 h_6 h_7 h_8 _) ⟨rfl, rfl⟩ sv_X12_297 ⟨(Nat.le_of_ble_eq_true rfl), (Nat.le_of_ble_eq_true rfl)⟩ ⟨(Nat.le_of_ble_eq_true rfl), (Nat.le_of_ble_eq_true rfl)⟩ (fun _ _ _ _ h => h) (fun _ _ _ => trivial) hK hP hD [0, 1] rfl rfl 0 12 rfl rfl rfl rfl hl.1 rfl (Nat.le_of_ble_eq_true rfl) dX12_feed_22) hP hD hS hA [0, 1] [] rfl rfl rfl (by decide) (fun w_10 H locs hw_9 hP hD hS => ?_)
  obtain ⟨fs1_12, f2_13, rfl, h_14, h_15, h_16⟩ := hw_9
  have hP : va_P D vwCl [(h0, .inr (12, fs1_12)), (q1, .inl (cI, 1000, .inl f2_13))] H := hP
  have hD : va_D A [(h0, .inr (12, fs1_12)), (q1, .inl (cI, 1000, .inl f2_13))] := hD
  refine lv_aload_n hx hb dX12_feed_25 rfl (lv_at hl 0 rfl) ?_
  refine lv_iload_n hx hb dX12_feed_26 rfl (lv_at hl 3 rfl) ?_
  refine cl_v (wr := []) (rn_V (As := [.int p2]) (rest := []) hx hb hml hown hts (c_X12_put_8 l D cI cJ cZ h0 q1 fs1_12 f2_13 p2 h_14 h_15 h_16 _) ⟨rfl, rfl⟩ sv_X12_297 ⟨(Nat.le_of_ble_eq_true rfl), (Nat.le_of_ble_eq_true rfl)⟩ ⟨(Nat.le_of_ble_eq_true rfl), (Nat.le_of_ble_eq_true rfl)⟩ (fun _ _ _ _ h => h) (fun _ _ _ => trivial) hK hP hD [0, 1] rfl rfl 0 12 rfl rfl rfl rfl hl.1 rfl (Nat.le_of_ble_eq_true rfl) dX12_feed_27) hP hD hS hA [0, 1] [] rfl rfl rfl (by decide) (fun w_18 H locs hw_17 hP hD hS => ?_)
  obtain ⟨fs1_20, f2_21, rfl, h_22, h_23, h_24⟩ := hw_17
  have hP : va_P D vwCl [(h0, .inr (12, fs1_20)), (q1, .inl (cI, 1000, .inl f2_21))] H := hP
  have hD : va_D A [(h0, .inr (12, fs1_20)), (q1, .inl (cI, 1000, .inl f2_21))] := hD
  refine lv_aload_n hx hb dX12_feed_30 rfl (lv_at hl 0 rfl) ?_
  refine lv_iload hx hb dX12_feed_31 (lv_at hl 4 rfl) ?_
  refine cl_v (wr := []) (rn_V (As := [.int p3]) (rest := []) hx hb hml hown hts (c_X12_put_12 l D cI cJ cZ h0 q1 fs1_20 f2_21 p3 h_22 h_23 h_24 _) ⟨rfl, rfl⟩ sv_X12_297 ⟨(Nat.le_of_ble_eq_true rfl), (Nat.le_of_ble_eq_true rfl)⟩ ⟨(Nat.le_of_ble_eq_true rfl), (Nat.le_of_ble_eq_true rfl)⟩ (fun _ _ _ _ h => h) (fun _ _ _ => trivial) hK hP hD [0, 1] rfl rfl 0 12 rfl rfl rfl rfl hl.1 rfl (Nat.le_of_ble_eq_true rfl) dX12_feed_33) hP hD hS hA [0, 1] [] rfl rfl rfl (by decide) (fun w_26 H locs hw_25 hP hD hS => ?_)
  obtain ⟨fs1_28, f2_29, rfl, h_30, h_31, h_32⟩ := hw_25
  have hP : va_P D vwCl [(h0, .inr (12, fs1_28)), (q1, .inl (cI, 1000, .inl f2_29))] H := hP
  have hD : va_D A [(h0, .inr (12, fs1_28)), (q1, .inl (cI, 1000, .inl f2_29))] := hD
  refine lv_aload_n hx hb dX12_feed_36 rfl (lv_at hl 0 rfl) ?_
  refine lv_iload hx hb dX12_feed_37 (lv_at hl 5 rfl) ?_
  refine cl_v (wr := []) (rn_V (As := [.int p4]) (rest := []) hx hb hml hown hts (c_X12_put_16 l D cI cJ cZ h0 q1 fs1_28 f2_29 p4 h_30 h_31 h_32 _) ⟨rfl, rfl⟩ sv_X12_297 ⟨(Nat.le_of_ble_eq_true rfl), (Nat.le_of_ble_eq_true rfl)⟩ ⟨(Nat.le_of_ble_eq_true rfl), (Nat.le_of_ble_eq_true rfl)⟩ (fun _ _ _ _ h => h) (fun _ _ _ => trivial) hK hP hD [0, 1] rfl rfl 0 12 rfl rfl rfl rfl hl.1 rfl (Nat.le_of_ble_eq_true rfl) dX12_feed_39) hP hD hS hA [0, 1] [] rfl rfl rfl (by decide) (fun w_34 H locs hw_33 hP hD hS => ?_)
  obtain ⟨fs1_36, f2_37, rfl, h_38, h_39, h_40⟩ := hw_33
  have hP : va_P D vwCl [(h0, .inr (12, fs1_36)), (q1, .inl (cI, 1000, .inl f2_37))] H := hP
  have hD : va_D A [(h0, .inr (12, fs1_36)), (q1, .inl (cI, 1000, .inl f2_37))] := hD
  refine lv_aload_n hx hb dX12_feed_42 rfl (lv_at hl 0 rfl) ?_
  refine gt_X12 hx hb hts hown hK hP 0 rfl 1 (by decide) wd_1402 rfl h_40 dX12_feed_43 ?_
  exact fin_i hx hb hr hlk hK hP hD hS dX12_feed_46 (rfl)
set_option maxRecDepth 100000 in
set_option maxHeartbeats 4000000 in
theorem c_X12_end (l : Launch) (D : va_G) (cI cJ cZ : ClassId) (h0 : Nat) (fs0 : List Value) (p0 : Int32) (hl_fs0 : fs0.length = 94) (hf_fs0_1 : fs0[1]? = some (.int 0)) : Con_i l yX12_end cX12_end 2 (some .boolean) ({ frames := 0, cells := 0, slots := 0, locals := 0 }) D cI cJ cZ eT [.ref h0, .int p0] [(h0, .inr (12, fs0))] (fun r _ => r = (sp_end p0)) := by
  refine ent_i (by decide) (Nat.le_of_ble_eq_true rfl) ?_
  intro p e s m below meth c A hx hb hml hown hts hr hlk hnm hK hE hA hP hD hS ls hl
  have hown : s.vm.findClass RX12 = some m.cls := hown
  have hl : lv_has ls 2 [(0, .ref h0), (1, .int p0)] := hl
  refine lv_iload_n hx hb dX12_end_0 rfl (lv_at hl 1 rfl) ?_
  refine lv_if_lt (tgt := 12) hx hb dX12_end_1 (by decide) (fun c_1 => ?_) (fun c_1 => ?_)
  · refine lv_iconst (v := 0) hx hb dX12_end_12 (by decide) ?_
    exact fin_z hx hb hr hlk hK hP hD hS dX12_end_13 rfl (end_a c_1)
  · refine lv_iload_n hx hb dX12_end_4 rfl (lv_at hl 1 rfl) ?_
    refine lv_aload_n hx hb dX12_end_5 rfl (lv_at hl 0 rfl) ?_
    refine gt_X12 hx hb hts hown hK hP 0 rfl 1 (by decide) wd_1402 rfl hf_fs0_1 dX12_end_6 ?_
    refine lv_icmp_le (tgt := 14) hx hb dX12_end_9 (by decide) (fun c_2 => ?_) (fun c_2 => ?_)
    · refine lv_aload_n hx hb dX12_end_14 rfl (lv_at hl 0 rfl) ?_
      refine lv_iload_n hx hb dX12_end_15 rfl (lv_at hl 1 rfl) ?_
      refine pt_X12 hx hb hts hown hK hP hD hS 0 rfl 1 (by decide) wd_1402 rfl rfl (ty := .int) (v := .int p0) (by decide +kernel) rfl rfl (ln_lt hl_fs0 (by decide)) dX12_end_16 (fun H locs hP hD hS => ?_)
      have hP : va_P D vwCl [(h0, .inr (12, (fs0.set 1 (.int p0))))] H := hP
      have hD : va_D A [(h0, .inr (12, (fs0.set 1 (.int p0))))] := hD
      refine lv_iconst (v := 1) hx hb dX12_end_19 (by decide) ?_
      exact fin_z hx hb hr hlk hK hP hD hS dX12_end_20 rfl (end_1 c_1 c_2)
    · refine lv_iconst (v := 0) hx hb dX12_end_12 (by decide) ?_
      exact fin_z hx hb hr hlk hK hP hD hS dX12_end_13 rfl (end_b c_2)
set_option maxRecDepth 100000 in
set_option maxHeartbeats 4000000 in
theorem c_X12_looks (l : Launch) (D : va_G) (cI cJ cZ : ClassId) (h0 : Nat) (fs0 : List Value) (hl_fs0 : fs0.length = 94) (hf_fs0_2 : fs0[2]? = some (.int 0)) (hf_fs0_5 : fs0[5]? = some (.int 0)) : Con_v l yX12_looks cX12_looks 6 none ({ frames := 0, cells := 0, slots := 0, locals := 0 }) D cI cJ cZ eT [.ref h0] [(h0, .inr (12, fs0))] (fun w => w = [(h0, .inr (12, (((fs0.set 4 (.int 0)).set 5 (.int 0)).set 3 (.int 0))))]) := by
  refine ent_v (by decide) (Nat.le_of_ble_eq_true rfl) ?_
  intro p e s m below meth c A hx hb hml hown hts hr hlk hnm hK hE hA hP hD hS ls hl
  have hown : s.vm.findClass RX12 = some m.cls := hown
  have hl : lv_has ls 6 [(0, .ref h0)] := hl
  refine lv_aload_n hx hb dX12_looks_0 rfl (lv_at hl 0 rfl) ?_
  refine gt_X12 hx hb hts hown hK hP 0 rfl 5 (by decide) wd_1406 rfl hf_fs0_5 dX12_looks_1 ?_
  refine lv_istore_n (lv' := [(1, .int 0), (0, .ref h0)]) hx hb dX12_looks_4 rfl hl (by decide) rfl (fun ls hl => ?_)
  refine lv_iload_n hx hb dX12_looks_5 rfl (lv_at hl 0 rfl) ?_
  refine lv_aload_n hx hb dX12_looks_6 rfl (lv_at hl 1 rfl) ?_
  refine gt_X12 hx hb hts hown hK hP 0 rfl 2 (by decide) wd_1403 rfl hf_fs0_2 dX12_looks_7 ?_
  refine lv_icmp_ge (tgt := 41) hx hb dX12_looks_10 (by decide) (fun _ => ?_) (fun h => (h (by decide)).elim)
  refine lv_aload_n hx hb dX12_looks_41 rfl (lv_at hl 1 rfl) ?_
  refine lv_iload_n hx hb dX12_looks_42 rfl (lv_at hl 0 rfl) ?_
  refine pt_X12 hx hb hts hown hK hP hD hS 0 rfl 4 (by decide) wd_1405 rfl rfl (ty := .int) (v := .int 0) (by decide +kernel) rfl rfl (ln_lt hl_fs0 (by decide)) dX12_looks_43 (fun H locs hP hD hS => ?_)
  have hP : va_P D vwCl [(h0, .inr (12, (fs0.set 4 (.int 0))))] H := hP
  have hD : va_D A [(h0, .inr (12, (fs0.set 4 (.int 0))))] := hD
  refine lv_aload_n hx hb dX12_looks_46 rfl (lv_at hl 1 rfl) ?_
  refine lv_iload_n hx hb dX12_looks_47 rfl (lv_at hl 0 rfl) ?_
  refine pt_X12 hx hb hts hown hK hP hD hS 0 rfl 5 (by decide) wd_1406 rfl rfl (ty := .int) (v := .int 0) (by decide +kernel) rfl rfl (ln_lt (ln_set hl_fs0) (by decide)) dX12_looks_48 (fun H locs hP hD hS => ?_)
  have hP : va_P D vwCl [(h0, .inr (12, ((fs0.set 4 (.int 0)).set 5 (.int 0))))] H := hP
  have hD : va_D A [(h0, .inr (12, ((fs0.set 4 (.int 0)).set 5 (.int 0))))] := hD
  refine lv_aload_n hx hb dX12_looks_51 rfl (lv_at hl 1 rfl) ?_
  refine lv_iconst (v := 0) hx hb dX12_looks_52 (by decide) ?_
  refine pt_X12 hx hb hts hown hK hP hD hS 0 rfl 3 (by decide) wd_1404 rfl rfl (ty := .int) (v := .int 0) (by decide +kernel) rfl rfl (ln_lt (ln_set (ln_set hl_fs0)) (by decide)) dX12_looks_53 (fun H locs hP hD hS => ?_)
  have hP : va_P D vwCl [(h0, .inr (12, (((fs0.set 4 (.int 0)).set 5 (.int 0)).set 3 (.int 0))))] H := hP
  have hD : va_D A [(h0, .inr (12, (((fs0.set 4 (.int 0)).set 5 (.int 0)).set 3 (.int 0))))] := hD
  refine lv_iload_n hx hb dX12_looks_56 rfl (lv_at hl 0 rfl) ?_
  refine lv_aload_n hx hb dX12_looks_57 rfl (lv_at hl 1 rfl) ?_
  refine gt_X12 hx hb hts hown hK hP 0 rfl 2 (by decide) wd_1403 rfl (gs_ne (by decide) (gs_ne (by decide) (gs_ne (by decide) hf_fs0_2))) dX12_looks_58 ?_
  refine lv_icmp_lt (tgt := 65) hx hb dX12_looks_61 (by decide) (fun h => absurd h (by decide)) (fun _ => ?_)
  exact fin_v hx hb hr hlk hK hP hD hS dX12_looks_64 (rfl)
set_option maxRecDepth 100000 in
set_option maxHeartbeats 4000000 in
theorem c_X12_starts (l : Launch) (D : va_G) (cI cJ cZ : ClassId) (h0 : Nat) (fs0 : List Value) (hl_fs0 : fs0.length = 94) (hf_fs0_1 : fs0[1]? = some (.int 0)) : Con_v l yX12_starts cX12_starts 1 none ({ frames := 1, cells := 0, slots := 0, locals := 25 }) D cI cJ cZ eT [.ref h0] [(h0, .inr (12, fs0))] (fun w => w = [(h0, .inr (12, ((((((((fs0.set 2 (.int 0)).set 1 (.int 0)).set 5 (.int 0)).set 8 (.int 0)).set 9 (.int (-1))).set 4 (.int 0)).set 5 (.int 0)).set 3 (.int 0))))]) := by
  refine ent_v (by decide) (Nat.le_of_ble_eq_true rfl) ?_
  intro p e s m below meth c A hx hb hml hown hts hr hlk hnm hK hE hA hP hD hS ls hl
  have hown : s.vm.findClass RX12 = some m.cls := hown
  have hl : lv_has ls 1 [(0, .ref h0)] := hl
  refine lv_aload_n hx hb dX12_starts_0 rfl (lv_at hl 0 rfl) ?_
  refine lv_aload_n hx hb dX12_starts_1 rfl (lv_at hl 0 rfl) ?_
  refine gt_X12 hx hb hts hown hK hP 0 rfl 1 (by decide) wd_1402 rfl hf_fs0_1 dX12_starts_2 ?_
  refine pt_X12 hx hb hts hown hK hP hD hS 0 rfl 2 (by decide) wd_1403 rfl rfl (ty := .int) (v := .int 0) (by decide +kernel) rfl rfl (ln_lt hl_fs0 (by decide)) dX12_starts_5 (fun H locs hP hD hS => ?_)
  have hP : va_P D vwCl [(h0, .inr (12, (fs0.set 2 (.int 0))))] H := hP
  have hD : va_D A [(h0, .inr (12, (fs0.set 2 (.int 0))))] := hD
  refine lv_aload_n hx hb dX12_starts_8 rfl (lv_at hl 0 rfl) ?_
  refine lv_iconst (v := 0) hx hb dX12_starts_9 (by decide) ?_
  refine pt_X12 hx hb hts hown hK hP hD hS 0 rfl 1 (by decide) wd_1402 rfl rfl (ty := .int) (v := .int 0) (by decide +kernel) rfl rfl (ln_lt (ln_set hl_fs0) (by decide)) dX12_starts_10 (fun H locs hP hD hS => ?_)
  have hP : va_P D vwCl [(h0, .inr (12, ((fs0.set 2 (.int 0)).set 1 (.int 0))))] H := hP
  have hD : va_D A [(h0, .inr (12, ((fs0.set 2 (.int 0)).set 1 (.int 0))))] := hD
  refine lv_aload_n hx hb dX12_starts_13 rfl (lv_at hl 0 rfl) ?_
  refine lv_iconst (v := 0) hx hb dX12_starts_14 (by decide) ?_
  refine pt_X12 hx hb hts hown hK hP hD hS 0 rfl 5 (by decide) wd_1406 rfl rfl (ty := .int) (v := .int 0) (by decide +kernel) rfl rfl (ln_lt (ln_set (ln_set hl_fs0)) (by decide)) dX12_starts_15 (fun H locs hP hD hS => ?_)
  have hP : va_P D vwCl [(h0, .inr (12, (((fs0.set 2 (.int 0)).set 1 (.int 0)).set 5 (.int 0))))] H := hP
  have hD : va_D A [(h0, .inr (12, (((fs0.set 2 (.int 0)).set 1 (.int 0)).set 5 (.int 0))))] := hD
  refine lv_aload_n hx hb dX12_starts_18 rfl (lv_at hl 0 rfl) ?_
  refine lv_iconst (v := 0) hx hb dX12_starts_19 (by decide) ?_
  refine pt_X12 hx hb hts hown hK hP hD hS 0 rfl 8 (by decide) wd_1409 rfl rfl (ty := .int) (v := .int 0) (by decide +kernel) rfl rfl (ln_lt (ln_set (ln_set (ln_set hl_fs0))) (by decide)) dX12_starts_20 (fun H locs hP hD hS => ?_)
  have hP : va_P D vwCl [(h0, .inr (12, ((((fs0.set 2 (.int 0)).set 1 (.int 0)).set 5 (.int 0)).set 8 (.int 0))))] H := hP
  have hD : va_D A [(h0, .inr (12, ((((fs0.set 2 (.int 0)).set 1 (.int 0)).set 5 (.int 0)).set 8 (.int 0))))] := hD
  refine lv_aload_n hx hb dX12_starts_23 rfl (lv_at hl 0 rfl) ?_
  refine lv_iconst (v := (-1)) hx hb dX12_starts_24 (by decide) ?_
  refine pt_X12 hx hb hts hown hK hP hD hS 0 rfl 9 (by decide) wd_1410 rfl rfl (ty := .int) (v := .int (-1)) (by decide +kernel) rfl rfl (ln_lt (ln_set (ln_set (ln_set (ln_set hl_fs0)))) (by decide)) dX12_starts_25 (fun H locs hP hD hS => ?_)
  have hP : va_P D vwCl [(h0, .inr (12, (((((fs0.set 2 (.int 0)).set 1 (.int 0)).set 5 (.int 0)).set 8 (.int 0)).set 9 (.int (-1)))))] H := hP
  have hD : va_D A [(h0, .inr (12, (((((fs0.set 2 (.int 0)).set 1 (.int 0)).set 5 (.int 0)).set 8 (.int 0)).set 9 (.int (-1)))))] := hD
  refine lv_aload_n hx hb dX12_starts_28 rfl (lv_at hl 0 rfl) ?_
  refine cl_v (wr := []) (rn_V (As := []) (rest := []) hx hb hml hown hts (c_X12_looks l D cI cJ cZ h0 (((((fs0.set 2 (.int 0)).set 1 (.int 0)).set 5 (.int 0)).set 8 (.int 0)).set 9 (.int (-1))) (ln_set (ln_set (ln_set (ln_set (ln_set hl_fs0))))) (gs_ne (by decide) (gs_ne (by decide) (gs_ne (by decide) (gs_ne (by decide) (gs_eq (ln_lt hl_fs0 (by decide))))))) (gs_ne (by decide) (gs_ne (by decide) (gs_eq (ln_lt (ln_set (ln_set hl_fs0)) (by decide))))) _) ⟨rfl, rfl⟩ sv_X12_312 ⟨(Nat.le_of_ble_eq_true rfl), (Nat.le_of_ble_eq_true rfl)⟩ ⟨(Nat.le_of_ble_eq_true rfl), (Nat.le_of_ble_eq_true rfl)⟩ (fun _ _ _ _ h => h) (fun _ _ _ => trivial) hK hP hD [0] rfl rfl 0 12 rfl rfl rfl rfl hl.1 rfl (Nat.le_of_ble_eq_true rfl) dX12_starts_29) hP hD hS hA [0] [] rfl rfl rfl (by decide) (fun w_2 H locs hw_1 hP hD hS => ?_)
  subst hw_1
  have hP : va_P D vwCl [(h0, .inr (12, ((((((((fs0.set 2 (.int 0)).set 1 (.int 0)).set 5 (.int 0)).set 8 (.int 0)).set 9 (.int (-1))).set 4 (.int 0)).set 5 (.int 0)).set 3 (.int 0))))] H := hP
  have hD : va_D A [(h0, .inr (12, ((((((((fs0.set 2 (.int 0)).set 1 (.int 0)).set 5 (.int 0)).set 8 (.int 0)).set 9 (.int (-1))).set 4 (.int 0)).set 5 (.int 0)).set 3 (.int 0))))] := hD
  exact fin_v hx hb hr hlk hK hP hD hS dX12_starts_32 (rfl)
set_option maxRecDepth 100000 in
set_option maxHeartbeats 4000000 in
theorem c_X12_rules (l : Launch) (D : va_G) (cI cJ cZ : ClassId) (h0 q1 q2 q3 q4 q5 : Nat) (fs0 : List Value) (f1 : Nat → Int32) (f2 : Nat → Int32) (f3 : Nat → Int32) (f4 : Nat → Int32) (f5 : Nat → Int32) (hl_fs0 : fs0.length = 94) (hf_fs0_1 : fs0[1]? = some (.int 0)) (hf_fs0_12 : fs0[12]? = some (.int 0)) (hf_fs0_14 : fs0[14]? = some (.ref q1)) (hf_fs0_15 : fs0[15]? = some (.ref q2)) (hf_fs0_16 : fs0[16]? = some (.ref q3)) (hf_fs0_17 : fs0[17]? = some (.ref q4)) (hf_fs0_26 : fs0[26]? = some (.ref q5)) : Con_i l yX12_rules cX12_rules 2 (some .int) ({ frames := 2, cells := 0, slots := 0, locals := 45 }) D cI cJ cZ eT [.ref h0] [(h0, .inr (12, fs0)), (q1, .inl (cI, 2, .inl f1)), (q2, .inl (cI, 2, .inl f2)), (q3, .inl (cI, 2, .inl f3)), (q4, .inl (cI, 2, .inl f4)), (q5, .inl (cI, 2, .inl f5))] (fun r _ => r = 0) := by
  refine ent_i (by decide) (Nat.le_of_ble_eq_true rfl) ?_
  intro p e s m below meth c A hx hb hml hown hts hr hlk hnm hK hE hA hP hD hS ls hl
  have hown : s.vm.findClass RX12 = some m.cls := hown
  have hl : lv_has ls 2 [(0, .ref h0)] := hl
  refine lv_aload_n hx hb dX12_rules_0 rfl (lv_at hl 0 rfl) ?_
  refine lv_iconst (v := 1) hx hb dX12_rules_1 (by decide) ?_
  refine lv_aload_n hx hb dX12_rules_2 rfl (lv_at hl 0 rfl) ?_
  refine gt_X12 hx hb hts hown hK hP 0 rfl 12 (by decide) wd_1413 rfl hf_fs0_12 dX12_rules_3 ?_
  refine lv_isub hx hb dX12_rules_6 ?_
  refine tov (v := 1) (by decide) ?_
  refine pt_X12 hx hb hts hown hK hP hD hS 0 rfl 13 (by decide) wd_1414 rfl rfl (ty := .int) (v := .int 1) (by decide +kernel) rfl rfl (ln_lt hl_fs0 (by decide)) dX12_rules_7 (fun H locs hP hD hS => ?_)
  have hP : va_P D vwCl [(h0, .inr (12, (fs0.set 13 (.int 1)))), (q1, .inl (cI, 2, .inl f1)), (q2, .inl (cI, 2, .inl f2)), (q3, .inl (cI, 2, .inl f3)), (q4, .inl (cI, 2, .inl f4)), (q5, .inl (cI, 2, .inl f5))] H := hP
  have hD : va_D A [(h0, .inr (12, (fs0.set 13 (.int 1)))), (q1, .inl (cI, 2, .inl f1)), (q2, .inl (cI, 2, .inl f2)), (q3, .inl (cI, 2, .inl f3)), (q4, .inl (cI, 2, .inl f4)), (q5, .inl (cI, 2, .inl f5))] := hD
  refine lv_aload_n hx hb dX12_rules_10 rfl (lv_at hl 0 rfl) ?_
  refine gt_X12 hx hb hts hown hK hP 0 rfl 14 (by decide) wd_1415 rfl (gs_ne (by decide) hf_fs0_14) dX12_rules_11 ?_
  refine lv_aload_n hx hb dX12_rules_14 rfl (lv_at hl 0 rfl) ?_
  refine gt_X12 hx hb hts hown hK hP 0 rfl 13 (by decide) wd_1414 rfl (gs_eq (ln_lt hl_fs0 (by decide))) dX12_rules_15 ?_
  refine lv_iconst (v := 0) hx hb dX12_rules_18 (by decide) ?_
  refine va_iast hx hb hK hP hD hS 1 0 rfl rfl (vp_in_c (by decide)) dX12_rules_19 (fun H locs hP hD hS => ?_)
  obtain ⟨f_1, ef_1⟩ : ∃ z, z = upd f1 (1 : Int32).toNatClampNeg 0 := ⟨_, rfl⟩
  rw [← ef_1] at hP hD
  have hP : va_P D vwCl [(h0, .inr (12, (fs0.set 13 (.int 1)))), (q1, .inl (cI, 2, .inl f_1)), (q2, .inl (cI, 2, .inl f2)), (q3, .inl (cI, 2, .inl f3)), (q4, .inl (cI, 2, .inl f4)), (q5, .inl (cI, 2, .inl f5))] H := hP
  have hD : va_D A [(h0, .inr (12, (fs0.set 13 (.int 1)))), (q1, .inl (cI, 2, .inl f_1)), (q2, .inl (cI, 2, .inl f2)), (q3, .inl (cI, 2, .inl f3)), (q4, .inl (cI, 2, .inl f4)), (q5, .inl (cI, 2, .inl f5))] := hD
  refine lv_aload_n hx hb dX12_rules_20 rfl (lv_at hl 0 rfl) ?_
  refine gt_X12 hx hb hts hown hK hP 0 rfl 15 (by decide) wd_1416 rfl (gs_ne (by decide) hf_fs0_15) dX12_rules_21 ?_
  refine lv_aload_n hx hb dX12_rules_24 rfl (lv_at hl 0 rfl) ?_
  refine gt_X12 hx hb hts hown hK hP 0 rfl 13 (by decide) wd_1414 rfl (gs_eq (ln_lt hl_fs0 (by decide))) dX12_rules_25 ?_
  refine lv_iconst (v := 0) hx hb dX12_rules_28 (by decide) ?_
  refine va_iast hx hb hK hP hD hS 2 0 rfl rfl (vp_in_c (by decide)) dX12_rules_29 (fun H locs hP hD hS => ?_)
  obtain ⟨f_2, ef_2⟩ : ∃ z, z = upd f2 (1 : Int32).toNatClampNeg 0 := ⟨_, rfl⟩
  rw [← ef_2] at hP hD
  have hP : va_P D vwCl [(h0, .inr (12, (fs0.set 13 (.int 1)))), (q1, .inl (cI, 2, .inl f_1)), (q2, .inl (cI, 2, .inl f_2)), (q3, .inl (cI, 2, .inl f3)), (q4, .inl (cI, 2, .inl f4)), (q5, .inl (cI, 2, .inl f5))] H := hP
  have hD : va_D A [(h0, .inr (12, (fs0.set 13 (.int 1)))), (q1, .inl (cI, 2, .inl f_1)), (q2, .inl (cI, 2, .inl f_2)), (q3, .inl (cI, 2, .inl f3)), (q4, .inl (cI, 2, .inl f4)), (q5, .inl (cI, 2, .inl f5))] := hD
  refine lv_aload_n hx hb dX12_rules_30 rfl (lv_at hl 0 rfl) ?_
  refine gt_X12 hx hb hts hown hK hP 0 rfl 16 (by decide) wd_1417 rfl (gs_ne (by decide) hf_fs0_16) dX12_rules_31 ?_
  refine lv_aload_n hx hb dX12_rules_34 rfl (lv_at hl 0 rfl) ?_
  refine gt_X12 hx hb hts hown hK hP 0 rfl 13 (by decide) wd_1414 rfl (gs_eq (ln_lt hl_fs0 (by decide))) dX12_rules_35 ?_
  refine lv_iconst (v := 0) hx hb dX12_rules_38 (by decide) ?_
  refine va_iast hx hb hK hP hD hS 3 0 rfl rfl (vp_in_c (by decide)) dX12_rules_39 (fun H locs hP hD hS => ?_)
  obtain ⟨f_3, ef_3⟩ : ∃ z, z = upd f3 (1 : Int32).toNatClampNeg 0 := ⟨_, rfl⟩
  rw [← ef_3] at hP hD
  have hP : va_P D vwCl [(h0, .inr (12, (fs0.set 13 (.int 1)))), (q1, .inl (cI, 2, .inl f_1)), (q2, .inl (cI, 2, .inl f_2)), (q3, .inl (cI, 2, .inl f_3)), (q4, .inl (cI, 2, .inl f4)), (q5, .inl (cI, 2, .inl f5))] H := hP
  have hD : va_D A [(h0, .inr (12, (fs0.set 13 (.int 1)))), (q1, .inl (cI, 2, .inl f_1)), (q2, .inl (cI, 2, .inl f_2)), (q3, .inl (cI, 2, .inl f_3)), (q4, .inl (cI, 2, .inl f4)), (q5, .inl (cI, 2, .inl f5))] := hD
  refine lv_aload_n hx hb dX12_rules_40 rfl (lv_at hl 0 rfl) ?_
  refine gt_X12 hx hb hts hown hK hP 0 rfl 17 (by decide) wd_1418 rfl (gs_ne (by decide) hf_fs0_17) dX12_rules_41 ?_
  refine lv_aload_n hx hb dX12_rules_44 rfl (lv_at hl 0 rfl) ?_
  refine gt_X12 hx hb hts hown hK hP 0 rfl 13 (by decide) wd_1414 rfl (gs_eq (ln_lt hl_fs0 (by decide))) dX12_rules_45 ?_
  refine lv_sipush (v := 1000) hx hb dX12_rules_48 (by decide) ?_
  refine va_iast hx hb hK hP hD hS 4 0 rfl rfl (vp_in_c (by decide)) dX12_rules_51 (fun H locs hP hD hS => ?_)
  obtain ⟨f_4, ef_4⟩ : ∃ z, z = upd f4 (1 : Int32).toNatClampNeg 1000 := ⟨_, rfl⟩
  rw [← ef_4] at hP hD
  have hP : va_P D vwCl [(h0, .inr (12, (fs0.set 13 (.int 1)))), (q1, .inl (cI, 2, .inl f_1)), (q2, .inl (cI, 2, .inl f_2)), (q3, .inl (cI, 2, .inl f_3)), (q4, .inl (cI, 2, .inl f_4)), (q5, .inl (cI, 2, .inl f5))] H := hP
  have hD : va_D A [(h0, .inr (12, (fs0.set 13 (.int 1)))), (q1, .inl (cI, 2, .inl f_1)), (q2, .inl (cI, 2, .inl f_2)), (q3, .inl (cI, 2, .inl f_3)), (q4, .inl (cI, 2, .inl f_4)), (q5, .inl (cI, 2, .inl f5))] := hD
  refine lv_aload_n hx hb dX12_rules_52 rfl (lv_at hl 0 rfl) ?_
  refine gt_X12 hx hb hts hown hK hP 0 rfl 26 (by decide) wd_1427 rfl (gs_ne (by decide) hf_fs0_26) dX12_rules_53 ?_
  refine lv_aload_n hx hb dX12_rules_56 rfl (lv_at hl 0 rfl) ?_
  refine gt_X12 hx hb hts hown hK hP 0 rfl 13 (by decide) wd_1414 rfl (gs_eq (ln_lt hl_fs0 (by decide))) dX12_rules_57 ?_
  refine lv_iconst (v := 0) hx hb dX12_rules_60 (by decide) ?_
  refine va_iast hx hb hK hP hD hS 5 0 rfl rfl (vp_in_c (by decide)) dX12_rules_61 (fun H locs hP hD hS => ?_)
  obtain ⟨f_5, ef_5⟩ : ∃ z, z = upd f5 (1 : Int32).toNatClampNeg 0 := ⟨_, rfl⟩
  rw [← ef_5] at hP hD
  have hP : va_P D vwCl [(h0, .inr (12, (fs0.set 13 (.int 1)))), (q1, .inl (cI, 2, .inl f_1)), (q2, .inl (cI, 2, .inl f_2)), (q3, .inl (cI, 2, .inl f_3)), (q4, .inl (cI, 2, .inl f_4)), (q5, .inl (cI, 2, .inl f_5))] H := hP
  have hD : va_D A [(h0, .inr (12, (fs0.set 13 (.int 1)))), (q1, .inl (cI, 2, .inl f_1)), (q2, .inl (cI, 2, .inl f_2)), (q3, .inl (cI, 2, .inl f_3)), (q4, .inl (cI, 2, .inl f_4)), (q5, .inl (cI, 2, .inl f_5))] := hD
  refine lv_aload_n hx hb dX12_rules_62 rfl (lv_at hl 0 rfl) ?_
  refine cl_v (wr := [(q1, .inl (cI, 2, .inl f_1)), (q2, .inl (cI, 2, .inl f_2)), (q3, .inl (cI, 2, .inl f_3)), (q4, .inl (cI, 2, .inl f_4)), (q5, .inl (cI, 2, .inl f_5))]) (rn_V (As := []) (rest := []) hx hb hml hown hts (c_X12_starts l D cI cJ cZ h0 (fs0.set 13 (.int 1)) (ln_set hl_fs0) (gs_ne (by decide) hf_fs0_1) _) ⟨rfl, rfl⟩ sv_X12_439 ⟨(Nat.le_of_ble_eq_true rfl), (Nat.le_of_ble_eq_true rfl)⟩ ⟨(Nat.le_of_ble_eq_true rfl), (Nat.le_of_ble_eq_true rfl)⟩ (fun _ _ _ _ h => h) (fun _ _ _ => trivial) hK hP hD [0] rfl rfl 0 12 rfl rfl rfl rfl hl.1 rfl (Nat.le_of_ble_eq_true rfl) dX12_rules_63) hP hD hS hA [0] [1, 2, 3, 4, 5] rfl rfl rfl (by decide) (fun w_7 H locs hw_6 hP hD hS => ?_)
  subst hw_6
  have hP : va_P D vwCl [(q1, .inl (cI, 2, .inl f_1)), (q2, .inl (cI, 2, .inl f_2)), (q3, .inl (cI, 2, .inl f_3)), (q4, .inl (cI, 2, .inl f_4)), (q5, .inl (cI, 2, .inl f_5)), (h0, .inr (12, (((((((((fs0.set 13 (.int 1)).set 2 (.int 0)).set 1 (.int 0)).set 5 (.int 0)).set 8 (.int 0)).set 9 (.int (-1))).set 4 (.int 0)).set 5 (.int 0)).set 3 (.int 0))))] H := hP
  have hD : va_D A [(q1, .inl (cI, 2, .inl f_1)), (q2, .inl (cI, 2, .inl f_2)), (q3, .inl (cI, 2, .inl f_3)), (q4, .inl (cI, 2, .inl f_4)), (q5, .inl (cI, 2, .inl f_5)), (h0, .inr (12, (((((((((fs0.set 13 (.int 1)).set 2 (.int 0)).set 1 (.int 0)).set 5 (.int 0)).set 8 (.int 0)).set 9 (.int (-1))).set 4 (.int 0)).set 5 (.int 0)).set 3 (.int 0))))] := hD
  refine lv_iconst (v := 0) hx hb dX12_rules_66 (by decide) ?_
  refine lv_istore_n (lv' := [(1, .int 0), (0, .ref h0)]) hx hb dX12_rules_67 rfl hl (by decide) rfl (fun ls hl => ?_)
  refine lv_aload_n hx hb dX12_rules_68 rfl (lv_at hl 1 rfl) ?_
  refine gt_X12 hx hb hts hown hK hP 5 rfl 8 (by decide) wd_1409 rfl (gs_ne (by decide) (gs_ne (by decide) (gs_ne (by decide) (gs_ne (by decide) (gs_eq (ln_lt (ln_set (ln_set (ln_set (ln_set hl_fs0)))) (by decide))))))) dX12_rules_69 ?_
  refine lv_if_ne (tgt := 92) hx hb dX12_rules_72 (by decide) (fun h => (h (by decide)).elim) (fun _ => ?_)
  refine lv_aload_n hx hb dX12_rules_75 rfl (lv_at hl 1 rfl) ?_
  refine gt_X12 hx hb hts hown hK hP 5 rfl 3 (by decide) wd_1404 rfl (gs_eq (ln_lt (ln_set (ln_set (ln_set (ln_set (ln_set (ln_set (ln_set (ln_set hl_fs0)))))))) (by decide))) dX12_rules_76 ?_
  refine lv_if_eq (tgt := 92) hx hb dX12_rules_79 (by decide) (fun _ => ?_) (fun h => (h (by decide)).elim)
  refine lv_aload_n hx hb dX12_rules_92 rfl (lv_at hl 1 rfl) ?_
  refine lv_aload_n hx hb dX12_rules_93 rfl (lv_at hl 1 rfl) ?_
  refine gt_X12 hx hb hts hown hK hP 5 rfl 8 (by decide) wd_1409 rfl (gs_ne (by decide) (gs_ne (by decide) (gs_ne (by decide) (gs_ne (by decide) (gs_eq (ln_lt (ln_set (ln_set (ln_set (ln_set hl_fs0)))) (by decide))))))) dX12_rules_94 ?_
  refine pt_X12 hx hb hts hown hK hP hD hS 5 rfl 10 (by decide) wd_1411 rfl rfl (ty := .int) (v := .int 0) (by decide +kernel) rfl rfl (ln_lt (ln_set (ln_set (ln_set (ln_set (ln_set (ln_set (ln_set (ln_set (ln_set hl_fs0))))))))) (by decide)) dX12_rules_97 (fun H locs hP hD hS => ?_)
  have hP : va_P D vwCl [(q1, .inl (cI, 2, .inl f_1)), (q2, .inl (cI, 2, .inl f_2)), (q3, .inl (cI, 2, .inl f_3)), (q4, .inl (cI, 2, .inl f_4)), (q5, .inl (cI, 2, .inl f_5)), (h0, .inr (12, ((((((((((fs0.set 13 (.int 1)).set 2 (.int 0)).set 1 (.int 0)).set 5 (.int 0)).set 8 (.int 0)).set 9 (.int (-1))).set 4 (.int 0)).set 5 (.int 0)).set 3 (.int 0)).set 10 (.int 0))))] H := hP
  have hD : va_D A [(q1, .inl (cI, 2, .inl f_1)), (q2, .inl (cI, 2, .inl f_2)), (q3, .inl (cI, 2, .inl f_3)), (q4, .inl (cI, 2, .inl f_4)), (q5, .inl (cI, 2, .inl f_5)), (h0, .inr (12, ((((((((((fs0.set 13 (.int 1)).set 2 (.int 0)).set 1 (.int 0)).set 5 (.int 0)).set 8 (.int 0)).set 9 (.int (-1))).set 4 (.int 0)).set 5 (.int 0)).set 3 (.int 0)).set 10 (.int 0))))] := hD
  refine lv_aload_n hx hb dX12_rules_100 rfl (lv_at hl 1 rfl) ?_
  refine lv_aload_n hx hb dX12_rules_101 rfl (lv_at hl 1 rfl) ?_
  refine gt_X12 hx hb hts hown hK hP 5 rfl 9 (by decide) wd_1410 rfl (gs_ne (by decide) (gs_ne (by decide) (gs_ne (by decide) (gs_ne (by decide) (gs_eq (ln_lt (ln_set (ln_set (ln_set (ln_set (ln_set hl_fs0))))) (by decide))))))) dX12_rules_102 ?_
  refine pt_X12 hx hb hts hown hK hP hD hS 5 rfl 11 (by decide) wd_1412 rfl rfl (ty := .int) (v := .int (-1)) (by decide +kernel) rfl rfl (ln_lt (ln_set (ln_set (ln_set (ln_set (ln_set (ln_set (ln_set (ln_set (ln_set (ln_set hl_fs0)))))))))) (by decide)) dX12_rules_105 (fun H locs hP hD hS => ?_)
  have hP : va_P D vwCl [(q1, .inl (cI, 2, .inl f_1)), (q2, .inl (cI, 2, .inl f_2)), (q3, .inl (cI, 2, .inl f_3)), (q4, .inl (cI, 2, .inl f_4)), (q5, .inl (cI, 2, .inl f_5)), (h0, .inr (12, (((((((((((fs0.set 13 (.int 1)).set 2 (.int 0)).set 1 (.int 0)).set 5 (.int 0)).set 8 (.int 0)).set 9 (.int (-1))).set 4 (.int 0)).set 5 (.int 0)).set 3 (.int 0)).set 10 (.int 0)).set 11 (.int (-1)))))] H := hP
  have hD : va_D A [(q1, .inl (cI, 2, .inl f_1)), (q2, .inl (cI, 2, .inl f_2)), (q3, .inl (cI, 2, .inl f_3)), (q4, .inl (cI, 2, .inl f_4)), (q5, .inl (cI, 2, .inl f_5)), (h0, .inr (12, (((((((((((fs0.set 13 (.int 1)).set 2 (.int 0)).set 1 (.int 0)).set 5 (.int 0)).set 8 (.int 0)).set 9 (.int (-1))).set 4 (.int 0)).set 5 (.int 0)).set 3 (.int 0)).set 10 (.int 0)).set 11 (.int (-1)))))] := hD
  refine lv_aload_n hx hb dX12_rules_108 rfl (lv_at hl 1 rfl) ?_
  refine gt_X12 hx hb hts hown hK hP 5 rfl 8 (by decide) wd_1409 rfl (gs_ne (by decide) (gs_ne (by decide) (gs_ne (by decide) (gs_ne (by decide) (gs_ne (by decide) (gs_ne (by decide) (gs_eq (ln_lt (ln_set (ln_set (ln_set (ln_set hl_fs0)))) (by decide))))))))) dX12_rules_109 ?_
  refine lv_if_le (tgt := 117) hx hb dX12_rules_112 (by decide) (fun _ => ?_) (fun h => (h (by decide)).elim)
  refine lv_aload_n hx hb dX12_rules_117 rfl (lv_at hl 1 rfl) ?_
  refine lv_aload_n hx hb dX12_rules_118 rfl (lv_at hl 1 rfl) ?_
  refine gt_X12 hx hb hts hown hK hP 5 rfl 13 (by decide) wd_1414 rfl (gs_ne (by decide) (gs_ne (by decide) (gs_ne (by decide) (gs_ne (by decide) (gs_ne (by decide) (gs_ne (by decide) (gs_ne (by decide) (gs_ne (by decide) (gs_ne (by decide) (gs_ne (by decide) (gs_eq (ln_lt hl_fs0 (by decide))))))))))))) dX12_rules_119 ?_
  refine pt_X12 hx hb hts hown hK hP hD hS 5 rfl 12 (by decide) wd_1413 rfl rfl (ty := .int) (v := .int 1) (by decide +kernel) rfl rfl (ln_lt (ln_set (ln_set (ln_set (ln_set (ln_set (ln_set (ln_set (ln_set (ln_set (ln_set (ln_set hl_fs0))))))))))) (by decide)) dX12_rules_122 (fun H locs hP hD hS => ?_)
  have hP : va_P D vwCl [(q1, .inl (cI, 2, .inl f_1)), (q2, .inl (cI, 2, .inl f_2)), (q3, .inl (cI, 2, .inl f_3)), (q4, .inl (cI, 2, .inl f_4)), (q5, .inl (cI, 2, .inl f_5)), (h0, .inr (12, ((((((((((((fs0.set 13 (.int 1)).set 2 (.int 0)).set 1 (.int 0)).set 5 (.int 0)).set 8 (.int 0)).set 9 (.int (-1))).set 4 (.int 0)).set 5 (.int 0)).set 3 (.int 0)).set 10 (.int 0)).set 11 (.int (-1))).set 12 (.int 1))))] H := hP
  have hD : va_D A [(q1, .inl (cI, 2, .inl f_1)), (q2, .inl (cI, 2, .inl f_2)), (q3, .inl (cI, 2, .inl f_3)), (q4, .inl (cI, 2, .inl f_4)), (q5, .inl (cI, 2, .inl f_5)), (h0, .inr (12, ((((((((((((fs0.set 13 (.int 1)).set 2 (.int 0)).set 1 (.int 0)).set 5 (.int 0)).set 8 (.int 0)).set 9 (.int (-1))).set 4 (.int 0)).set 5 (.int 0)).set 3 (.int 0)).set 10 (.int 0)).set 11 (.int (-1))).set 12 (.int 1))))] := hD
  refine lv_aload_n hx hb dX12_rules_125 rfl (lv_at hl 1 rfl) ?_
  refine lv_iconst (v := 0) hx hb dX12_rules_126 (by decide) ?_
  refine pt_X12 hx hb hts hown hK hP hD hS 5 rfl 37 (by decide) wd_1438 rfl rfl (ty := .int) (v := .int 0) (by decide +kernel) rfl rfl (ln_lt (ln_set (ln_set (ln_set (ln_set (ln_set (ln_set (ln_set (ln_set (ln_set (ln_set (ln_set (ln_set hl_fs0)))))))))))) (by decide)) dX12_rules_127 (fun H locs hP hD hS => ?_)
  have hP : va_P D vwCl [(q1, .inl (cI, 2, .inl f_1)), (q2, .inl (cI, 2, .inl f_2)), (q3, .inl (cI, 2, .inl f_3)), (q4, .inl (cI, 2, .inl f_4)), (q5, .inl (cI, 2, .inl f_5)), (h0, .inr (12, (((((((((((((fs0.set 13 (.int 1)).set 2 (.int 0)).set 1 (.int 0)).set 5 (.int 0)).set 8 (.int 0)).set 9 (.int (-1))).set 4 (.int 0)).set 5 (.int 0)).set 3 (.int 0)).set 10 (.int 0)).set 11 (.int (-1))).set 12 (.int 1)).set 37 (.int 0))))] H := hP
  have hD : va_D A [(q1, .inl (cI, 2, .inl f_1)), (q2, .inl (cI, 2, .inl f_2)), (q3, .inl (cI, 2, .inl f_3)), (q4, .inl (cI, 2, .inl f_4)), (q5, .inl (cI, 2, .inl f_5)), (h0, .inr (12, (((((((((((((fs0.set 13 (.int 1)).set 2 (.int 0)).set 1 (.int 0)).set 5 (.int 0)).set 8 (.int 0)).set 9 (.int (-1))).set 4 (.int 0)).set 5 (.int 0)).set 3 (.int 0)).set 10 (.int 0)).set 11 (.int (-1))).set 12 (.int 1)).set 37 (.int 0))))] := hD
  refine lv_aload_n hx hb dX12_rules_130 rfl (lv_at hl 1 rfl) ?_
  refine lv_iconst (v := 0) hx hb dX12_rules_131 (by decide) ?_
  refine pt_X12 hx hb hts hown hK hP hD hS 5 rfl 38 (by decide) wd_1439 rfl rfl (ty := .int) (v := .int 0) (by decide +kernel) rfl rfl (ln_lt (ln_set (ln_set (ln_set (ln_set (ln_set (ln_set (ln_set (ln_set (ln_set (ln_set (ln_set (ln_set (ln_set hl_fs0))))))))))))) (by decide)) dX12_rules_132 (fun H locs hP hD hS => ?_)
  have hP : va_P D vwCl [(q1, .inl (cI, 2, .inl f_1)), (q2, .inl (cI, 2, .inl f_2)), (q3, .inl (cI, 2, .inl f_3)), (q4, .inl (cI, 2, .inl f_4)), (q5, .inl (cI, 2, .inl f_5)), (h0, .inr (12, ((((((((((((((fs0.set 13 (.int 1)).set 2 (.int 0)).set 1 (.int 0)).set 5 (.int 0)).set 8 (.int 0)).set 9 (.int (-1))).set 4 (.int 0)).set 5 (.int 0)).set 3 (.int 0)).set 10 (.int 0)).set 11 (.int (-1))).set 12 (.int 1)).set 37 (.int 0)).set 38 (.int 0))))] H := hP
  have hD : va_D A [(q1, .inl (cI, 2, .inl f_1)), (q2, .inl (cI, 2, .inl f_2)), (q3, .inl (cI, 2, .inl f_3)), (q4, .inl (cI, 2, .inl f_4)), (q5, .inl (cI, 2, .inl f_5)), (h0, .inr (12, ((((((((((((((fs0.set 13 (.int 1)).set 2 (.int 0)).set 1 (.int 0)).set 5 (.int 0)).set 8 (.int 0)).set 9 (.int (-1))).set 4 (.int 0)).set 5 (.int 0)).set 3 (.int 0)).set 10 (.int 0)).set 11 (.int (-1))).set 12 (.int 1)).set 37 (.int 0)).set 38 (.int 0))))] := hD
  refine lv_aload_n hx hb dX12_rules_135 rfl (lv_at hl 1 rfl) ?_
  refine lv_iconst (v := (-1)) hx hb dX12_rules_136 (by decide) ?_
  refine pt_X12 hx hb hts hown hK hP hD hS 5 rfl 39 (by decide) wd_1440 rfl rfl (ty := .int) (v := .int (-1)) (by decide +kernel) rfl rfl (ln_lt (ln_set (ln_set (ln_set (ln_set (ln_set (ln_set (ln_set (ln_set (ln_set (ln_set (ln_set (ln_set (ln_set (ln_set hl_fs0)))))))))))))) (by decide)) dX12_rules_137 (fun H locs hP hD hS => ?_)
  have hP : va_P D vwCl [(q1, .inl (cI, 2, .inl f_1)), (q2, .inl (cI, 2, .inl f_2)), (q3, .inl (cI, 2, .inl f_3)), (q4, .inl (cI, 2, .inl f_4)), (q5, .inl (cI, 2, .inl f_5)), (h0, .inr (12, (((((((((((((((fs0.set 13 (.int 1)).set 2 (.int 0)).set 1 (.int 0)).set 5 (.int 0)).set 8 (.int 0)).set 9 (.int (-1))).set 4 (.int 0)).set 5 (.int 0)).set 3 (.int 0)).set 10 (.int 0)).set 11 (.int (-1))).set 12 (.int 1)).set 37 (.int 0)).set 38 (.int 0)).set 39 (.int (-1)))))] H := hP
  have hD : va_D A [(q1, .inl (cI, 2, .inl f_1)), (q2, .inl (cI, 2, .inl f_2)), (q3, .inl (cI, 2, .inl f_3)), (q4, .inl (cI, 2, .inl f_4)), (q5, .inl (cI, 2, .inl f_5)), (h0, .inr (12, (((((((((((((((fs0.set 13 (.int 1)).set 2 (.int 0)).set 1 (.int 0)).set 5 (.int 0)).set 8 (.int 0)).set 9 (.int (-1))).set 4 (.int 0)).set 5 (.int 0)).set 3 (.int 0)).set 10 (.int 0)).set 11 (.int (-1))).set 12 (.int 1)).set 37 (.int 0)).set 38 (.int 0)).set 39 (.int (-1)))))] := hD
  refine lv_aload_n hx hb dX12_rules_140 rfl (lv_at hl 1 rfl) ?_
  refine lv_iconst (v := 0) hx hb dX12_rules_141 (by decide) ?_
  refine pt_X12 hx hb hts hown hK hP hD hS 5 rfl 68 (by decide) wd_1469 rfl rfl (ty := .boolean) (v := .int 0) (by decide +kernel) rfl rfl (ln_lt (ln_set (ln_set (ln_set (ln_set (ln_set (ln_set (ln_set (ln_set (ln_set (ln_set (ln_set (ln_set (ln_set (ln_set (ln_set hl_fs0))))))))))))))) (by decide)) dX12_rules_142 (fun H locs hP hD hS => ?_)
  have hP : va_P D vwCl [(q1, .inl (cI, 2, .inl f_1)), (q2, .inl (cI, 2, .inl f_2)), (q3, .inl (cI, 2, .inl f_3)), (q4, .inl (cI, 2, .inl f_4)), (q5, .inl (cI, 2, .inl f_5)), (h0, .inr (12, ((((((((((((((((fs0.set 13 (.int 1)).set 2 (.int 0)).set 1 (.int 0)).set 5 (.int 0)).set 8 (.int 0)).set 9 (.int (-1))).set 4 (.int 0)).set 5 (.int 0)).set 3 (.int 0)).set 10 (.int 0)).set 11 (.int (-1))).set 12 (.int 1)).set 37 (.int 0)).set 38 (.int 0)).set 39 (.int (-1))).set 68 (.int 0))))] H := hP
  have hD : va_D A [(q1, .inl (cI, 2, .inl f_1)), (q2, .inl (cI, 2, .inl f_2)), (q3, .inl (cI, 2, .inl f_3)), (q4, .inl (cI, 2, .inl f_4)), (q5, .inl (cI, 2, .inl f_5)), (h0, .inr (12, ((((((((((((((((fs0.set 13 (.int 1)).set 2 (.int 0)).set 1 (.int 0)).set 5 (.int 0)).set 8 (.int 0)).set 9 (.int (-1))).set 4 (.int 0)).set 5 (.int 0)).set 3 (.int 0)).set 10 (.int 0)).set 11 (.int (-1))).set 12 (.int 1)).set 37 (.int 0)).set 38 (.int 0)).set 39 (.int (-1))).set 68 (.int 0))))] := hD
  refine lv_iload_n hx hb dX12_rules_145 rfl (lv_at hl 0 rfl) ?_
  exact fin_i hx hb hr hlk hK hP hD hS dX12_rules_146 (rfl)
set_option maxRecDepth 100000 in
set_option maxHeartbeats 4000000 in
theorem c_X12_fault (l : Launch) (D : va_G) (cI cJ cZ : ClassId) (h0 : Nat) (fs0 : List Value) (p0 : Int32) (hl_fs0 : fs0.length = 94) (hf_fs0_10 : fs0[10]? = some (.int 0)) (hf_fs0_11 : fs0[11]? = some (.int (-1))) : Con_i l yX12_fault cX12_fault 2 (some .int) ({ frames := 0, cells := 0, slots := 0, locals := 0 }) D cI cJ cZ eT [.ref h0, .int p0] [(h0, .inr (12, fs0))] (fun r _ => r = (sp_fault p0)) := by
  refine ent_i (by decide) (Nat.le_of_ble_eq_true rfl) ?_
  intro p e s m below meth c A hx hb hml hown hts hr hlk hnm hK hE hA hP hD hS ls hl
  have hown : s.vm.findClass RX12 = some m.cls := hown
  have hl : lv_has ls 2 [(0, .ref h0), (1, .int p0)] := hl
  refine lv_iload_n hx hb dX12_fault_0 rfl (lv_at hl 1 rfl) ?_
  refine lv_if_ne (tgt := 11) hx hb dX12_fault_1 (by decide) (fun c_1 => ?_) (fun c_1 => ?_)
  · refine lv_iload_n hx hb dX12_fault_11 rfl (lv_at hl 1 rfl) ?_
    refine lv_iconst (v := 1) hx hb dX12_fault_12 (by decide) ?_
    refine lv_icmp_ne (tgt := 23) hx hb dX12_fault_13 (by decide) (fun c_2 => ?_) (fun c_2 => ?_)
    · refine lv_iconst (v := (-1)) hx hb dX12_fault_23 (by decide) ?_
      exact fin_i hx hb hr hlk hK hP hD hS dX12_fault_24 ((by unfold sp_fault; rw [if_neg c_1]))
    · refine lv_aload_n hx hb dX12_fault_16 rfl (lv_at hl 0 rfl) ?_
      refine gt_X12 hx hb hts hown hK hP 0 rfl 11 (by decide) wd_1412 rfl hf_fs0_11 dX12_fault_17 ?_
      refine lv_goto (tgt := 24) hx hb dX12_fault_20 (by decide) ?_
      exact fin_i hx hb hr hlk hK hP hD hS dX12_fault_24 ((by unfold sp_fault; rw [if_neg c_1]))
  · refine lv_aload_n hx hb dX12_fault_4 rfl (lv_at hl 0 rfl) ?_
    refine gt_X12 hx hb hts hown hK hP 0 rfl 10 (by decide) wd_1411 rfl hf_fs0_10 dX12_fault_5 ?_
    refine lv_goto (tgt := 24) hx hb dX12_fault_8 (by decide) ?_
    exact fin_i hx hb hr hlk hK hP hD hS dX12_fault_24 ((by unfold sp_fault; rw [if_pos c_1]))
set_option maxRecDepth 100000 in
set_option maxHeartbeats 4000000 in
theorem c_X12_isKind (l : Launch) (D : va_G) (cI cJ cZ : ClassId) (h0 q1 : Nat) (fs0 : List Value) (f1 : Nat → Int32) (p0 : Int32) (hl_fs0 : fs0.length = 94) (hf_fs0_12 : fs0[12]? = some (.int 0)) (hf_fs0_14 : fs0[14]? = some (.ref q1)) (ha_f1 : ∀ k, f1 k = 0) : Con_i l yX12_isKind cX12_isKind 2 (some .boolean) ({ frames := 0, cells := 0, slots := 0, locals := 0 }) D cI cJ cZ eT [.ref h0, .int p0] [(h0, .inr (12, fs0)), (q1, .inl (cI, 2, .inl f1))] (fun (r : Int32) (w : va_W) => w = [(h0, .inr (12, fs0)), (q1, .inl (cI, 2, .inl f1))] ∧ r = 0) := by
  refine ent_i (by decide) (Nat.le_of_ble_eq_true rfl) ?_
  intro p e s m below meth c A hx hb hml hown hts hr hlk hnm hK hE hA hP hD hS ls hl
  have hown : s.vm.findClass RX12 = some m.cls := hown
  have hl : lv_has ls 2 [(0, .ref h0), (1, .int p0)] := hl
  refine lv_iload_n hx hb dX12_isKind_0 rfl (lv_at hl 1 rfl) ?_
  refine lv_if_lt (tgt := 21) hx hb dX12_isKind_1 (by decide) (fun c_1 => ?_) (fun c_1 => ?_)
  · refine lv_iconst (v := 0) hx hb dX12_isKind_21 (by decide) ?_
    exact fin_z hx hb hr hlk hK hP hD hS dX12_isKind_22 rfl (⟨rfl, rfl⟩)
  · refine lv_iload_n hx hb dX12_isKind_4 rfl (lv_at hl 1 rfl) ?_
    refine lv_aload_n hx hb dX12_isKind_5 rfl (lv_at hl 0 rfl) ?_
    refine gt_X12 hx hb hts hown hK hP 0 rfl 14 (by decide) wd_1415 rfl hf_fs0_14 dX12_isKind_6 ?_
    refine lv_aload_n hx hb dX12_isKind_9 rfl (lv_at hl 0 rfl) ?_
    refine gt_X12 hx hb hts hown hK hP 0 rfl 12 (by decide) wd_1413 rfl hf_fs0_12 dX12_isKind_10 ?_
    refine va_iald hx hb hK hP 1 0 rfl rfl (vp_in_c (by decide)) dX12_isKind_13 ?_
    refine tov (v := 0) (ha_f1 _) ?_
    refine lv_icmp_ge (tgt := 21) hx hb dX12_isKind_14 (by decide) (fun _ => ?_) (fun h => (h ((by have k0 := c_1; rw [q_lt] at k0; have z0 : (0 : Int32).toInt = 0 := (by decide); rw [q_le]; omega))).elim)
    refine lv_iconst (v := 0) hx hb dX12_isKind_21 (by decide) ?_
    exact fin_z hx hb hr hlk hK hP hD hS dX12_isKind_22 rfl (⟨rfl, rfl⟩)
set_option maxRecDepth 100000 in
set_option maxHeartbeats 4000000 in
theorem c_X12_name (l : Launch) (D : va_G) (cI cJ cZ : ClassId) (h0 q1 q2 : Nat) (fs0 : List Value) (f1 : Nat → Int32) (f2 : Nat → Int32) (p0 : Int32) (p1 : Int32) (p2 : Int32) (hl_fs0 : fs0.length = 94) (hf_fs0_12 : fs0[12]? = some (.int 0)) (hf_fs0_14 : fs0[14]? = some (.ref q1)) (hf_fs0_15 : fs0[15]? = some (.ref q2)) (ha_f1 : ∀ k, f1 k = 0) (ha_f2 : ∀ k, f2 k = 0) : Con_i l yX12_name cX12_name 4 (some .int) ({ frames := 0, cells := 0, slots := 0, locals := 0 }) D cI cJ cZ eT [.ref h0, .int p0, .int p1, .int p2] [(h0, .inr (12, fs0)), (q1, .inl (cI, 2, .inl f1)), (q2, .inl (cI, 2, .inl f2))] (fun r _ => r = (-1)) := by
  refine ent_i (by decide) (Nat.le_of_ble_eq_true rfl) ?_
  intro p e s m below meth c A hx hb hml hown hts hr hlk hnm hK hE hA hP hD hS ls hl
  have hown : s.vm.findClass RX12 = some m.cls := hown
  have hl : lv_has ls 4 [(0, .ref h0), (1, .int p0), (2, .int p1), (3, .int p2)] := hl
  refine lv_iload_n hx hb dX12_name_0 rfl (lv_at hl 2 rfl) ?_
  refine lv_if_lt (tgt := 33) hx hb dX12_name_1 (by decide) (fun c_1 => ?_) (fun c_1 => ?_)
  · refine lv_iconst (v := (-1)) hx hb dX12_name_33 (by decide) ?_
    exact fin_i hx hb hr hlk hK hP hD hS dX12_name_34 (rfl)
  · refine lv_iload_n hx hb dX12_name_4 rfl (lv_at hl 2 rfl) ?_
    refine lv_iload_n hx hb dX12_name_5 rfl (lv_at hl 1 rfl) ?_
    refine lv_if_eq (tgt := 21) hx hb dX12_name_6 (by decide) (fun c_2 => ?_) (fun c_2 => ?_)
    · refine lv_aload_n hx hb dX12_name_21 rfl (lv_at hl 0 rfl) ?_
      refine gt_X12 hx hb hts hown hK hP 0 rfl 14 (by decide) wd_1415 rfl hf_fs0_14 dX12_name_22 ?_
      refine lv_aload_n hx hb dX12_name_25 rfl (lv_at hl 0 rfl) ?_
      refine gt_X12 hx hb hts hown hK hP 0 rfl 12 (by decide) wd_1413 rfl hf_fs0_12 dX12_name_26 ?_
      refine va_iald hx hb hK hP 1 0 rfl rfl (vp_in_c (by decide)) dX12_name_29 ?_
      refine tov (v := 0) (ha_f1 _) ?_
      refine lv_icmp_lt (tgt := 35) hx hb dX12_name_30 (by decide) (fun h => absurd h (c_1)) (fun _ => ?_)
      refine lv_iconst (v := (-1)) hx hb dX12_name_33 (by decide) ?_
      exact fin_i hx hb hr hlk hK hP hD hS dX12_name_34 (rfl)
    · refine lv_aload_n hx hb dX12_name_9 rfl (lv_at hl 0 rfl) ?_
      refine gt_X12 hx hb hts hown hK hP 0 rfl 15 (by decide) wd_1416 rfl hf_fs0_15 dX12_name_10 ?_
      refine lv_aload_n hx hb dX12_name_13 rfl (lv_at hl 0 rfl) ?_
      refine gt_X12 hx hb hts hown hK hP 0 rfl 12 (by decide) wd_1413 rfl hf_fs0_12 dX12_name_14 ?_
      refine va_iald hx hb hK hP 2 0 rfl rfl (vp_in_c (by decide)) dX12_name_17 ?_
      refine tov (v := 0) (ha_f2 _) ?_
      refine lv_goto (tgt := 30) hx hb dX12_name_18 (by decide) ?_
      refine lv_icmp_lt (tgt := 35) hx hb dX12_name_30 (by decide) (fun h => absurd h (c_1)) (fun _ => ?_)
      refine lv_iconst (v := (-1)) hx hb dX12_name_33 (by decide) ?_
      exact fin_i hx hb hr hlk hK hP hD hS dX12_name_34 (rfl)
set_option maxRecDepth 100000 in
set_option maxHeartbeats 4000000 in
theorem c_X12_marked (l : Launch) (D : va_G) (cI cJ cZ : ClassId) (h0 q1 : Nat) (fs0 : List Value) (f1 : Nat → Int32) (p0 : Int32) (p1 : Int32) (hl_fs0 : fs0.length = 94) (hf_fs0_12 : fs0[12]? = some (.int 0)) (hf_fs0_14 : fs0[14]? = some (.ref q1)) (ha_f1 : ∀ k, f1 k = 0) : Con_i l yX12_marked cX12_marked 3 (some .int) ({ frames := 1, cells := 0, slots := 0, locals := 21 }) D cI cJ cZ eT [.ref h0, .int p0, .int p1] [(h0, .inr (12, fs0)), (q1, .inl (cI, 2, .inl f1))] (fun r _ => r = (-1)) := by
  refine ent_i (by decide) (Nat.le_of_ble_eq_true rfl) ?_
  intro p e s m below meth c A hx hb hml hown hts hr hlk hnm hK hE hA hP hD hS ls hl
  have hown : s.vm.findClass RX12 = some m.cls := hown
  have hl : lv_has ls 3 [(0, .ref h0), (1, .int p0), (2, .int p1)] := hl
  refine lv_aload_n hx hb dX12_marked_0 rfl (lv_at hl 0 rfl) ?_
  refine lv_iload_n hx hb dX12_marked_1 rfl (lv_at hl 1 rfl) ?_
  refine cl_i (wr := []) (rn_V (As := [.int p0]) (rest := []) hx hb hml hown hts (c_X12_isKind l D cI cJ cZ h0 q1 fs0 f1 p0 hl_fs0 hf_fs0_12 hf_fs0_14 ha_f1 _) ⟨rfl, rfl⟩ sv_X12_450 ⟨(Nat.le_of_ble_eq_true rfl), (Nat.le_of_ble_eq_true rfl)⟩ ⟨(Nat.le_of_ble_eq_true rfl), (Nat.le_of_ble_eq_true rfl)⟩ (fun _ _ _ _ h => h) (fun _ _ _ => trivial) hK hP hD [0, 1] rfl rfl 0 12 rfl rfl rfl rfl hl.1 rfl (Nat.le_of_ble_eq_true rfl) dX12_marked_2) hP hD hS hA [0, 1] [] rfl rfl rfl (by decide) (fun r_3 w_2 H locs hw_1 hP hD hS => ?_)
  obtain ⟨rfl, hr_4⟩ := hw_1
  have hP : va_P D vwCl [(h0, .inr (12, fs0)), (q1, .inl (cI, 2, .inl f1))] H := hP
  have hD : va_D A [(h0, .inr (12, fs0)), (q1, .inl (cI, 2, .inl f1))] := hD
  refine tov (v := 0) hr_4 ?_
  refine lv_if_eq (tgt := 25) hx hb dX12_marked_5 (by decide) (fun _ => ?_) (fun h => (h (by decide)).elim)
  refine lv_iconst (v := (-1)) hx hb dX12_marked_25 (by decide) ?_
  refine lv_goto (tgt := 47) hx hb dX12_marked_26 (by decide) ?_
  exact fin_i hx hb hr hlk hK hP hD hS dX12_marked_47 (rfl)
set_option maxRecDepth 100000 in
set_option maxHeartbeats 4000000 in
theorem c_X12_gifts (l : Launch) (D : va_G) (cI cJ cZ : ClassId) (h0 q1 : Nat) (fs0 : List Value) (f1 : Nat → Int32) (p0 : Int32) (p1 : Int32) (p2 : Int32) (hl_fs0 : fs0.length = 94) (hf_fs0_12 : fs0[12]? = some (.int 0)) (hf_fs0_14 : fs0[14]? = some (.ref q1)) (ha_f1 : ∀ k, f1 k = 0) : Con_i l yX12_gifts cX12_gifts 4 (some .int) ({ frames := 1, cells := 0, slots := 0, locals := 21 }) D cI cJ cZ eT [.ref h0, .int p0, .int p1, .int p2] [(h0, .inr (12, fs0)), (q1, .inl (cI, 2, .inl f1))] (fun r _ => r = (-1)) := by
  refine ent_i (by decide) (Nat.le_of_ble_eq_true rfl) ?_
  intro p e s m below meth c A hx hb hml hown hts hr hlk hnm hK hE hA hP hD hS ls hl
  have hown : s.vm.findClass RX12 = some m.cls := hown
  have hl : lv_has ls 4 [(0, .ref h0), (1, .int p0), (2, .int p1), (3, .int p2)] := hl
  refine lv_aload_n hx hb dX12_gifts_0 rfl (lv_at hl 0 rfl) ?_
  refine lv_iload_n hx hb dX12_gifts_1 rfl (lv_at hl 1 rfl) ?_
  refine cl_i (wr := []) (rn_V (As := [.int p0]) (rest := []) hx hb hml hown hts (c_X12_isKind l D cI cJ cZ h0 q1 fs0 f1 p0 hl_fs0 hf_fs0_12 hf_fs0_14 ha_f1 _) ⟨rfl, rfl⟩ sv_X12_450 ⟨(Nat.le_of_ble_eq_true rfl), (Nat.le_of_ble_eq_true rfl)⟩ ⟨(Nat.le_of_ble_eq_true rfl), (Nat.le_of_ble_eq_true rfl)⟩ (fun _ _ _ _ h => h) (fun _ _ _ => trivial) hK hP hD [0, 1] rfl rfl 0 12 rfl rfl rfl rfl hl.1 rfl (Nat.le_of_ble_eq_true rfl) dX12_gifts_2) hP hD hS hA [0, 1] [] rfl rfl rfl (by decide) (fun r_3 w_2 H locs hw_1 hP hD hS => ?_)
  obtain ⟨rfl, hr_4⟩ := hw_1
  have hP : va_P D vwCl [(h0, .inr (12, fs0)), (q1, .inl (cI, 2, .inl f1))] H := hP
  have hD : va_D A [(h0, .inr (12, fs0)), (q1, .inl (cI, 2, .inl f1))] := hD
  refine tov (v := 0) hr_4 ?_
  refine lv_if_eq (tgt := 38) hx hb dX12_gifts_5 (by decide) (fun _ => ?_) (fun h => (h (by decide)).elim)
  refine lv_iconst (v := (-1)) hx hb dX12_gifts_38 (by decide) ?_
  refine lv_goto (tgt := 52) hx hb dX12_gifts_39 (by decide) ?_
  exact fin_i hx hb hr hlk hK hP hD hS dX12_gifts_52 (rfl)
set_option maxRecDepth 100000 in
set_option maxHeartbeats 4000000 in
theorem c_X12_call (l : Launch) (D : va_G) (cI cJ cZ : ClassId) (h0 q1 : Nat) (fs0 : List Value) (f1 : Nat → Int32) (p0 : Int32) (p1 : Int32) (hl_fs0 : fs0.length = 94) (hf_fs0_12 : fs0[12]? = some (.int 0)) (hf_fs0_14 : fs0[14]? = some (.ref q1)) (ha_f1 : ∀ k, f1 k = 0) : Con_i l yX12_call cX12_call 3 (some .int) ({ frames := 1, cells := 0, slots := 0, locals := 21 }) D cI cJ cZ eT [.ref h0, .int p0, .int p1] [(h0, .inr (12, fs0)), (q1, .inl (cI, 2, .inl f1))] (fun r _ => r = (-1)) := by
  refine ent_i (by decide) (Nat.le_of_ble_eq_true rfl) ?_
  intro p e s m below meth c A hx hb hml hown hts hr hlk hnm hK hE hA hP hD hS ls hl
  have hown : s.vm.findClass RX12 = some m.cls := hown
  have hl : lv_has ls 3 [(0, .ref h0), (1, .int p0), (2, .int p1)] := hl
  refine lv_aload_n hx hb dX12_call_0 rfl (lv_at hl 0 rfl) ?_
  refine lv_iload_n hx hb dX12_call_1 rfl (lv_at hl 1 rfl) ?_
  refine cl_i (wr := []) (rn_V (As := [.int p0]) (rest := []) hx hb hml hown hts (c_X12_isKind l D cI cJ cZ h0 q1 fs0 f1 p0 hl_fs0 hf_fs0_12 hf_fs0_14 ha_f1 _) ⟨rfl, rfl⟩ sv_X12_450 ⟨(Nat.le_of_ble_eq_true rfl), (Nat.le_of_ble_eq_true rfl)⟩ ⟨(Nat.le_of_ble_eq_true rfl), (Nat.le_of_ble_eq_true rfl)⟩ (fun _ _ _ _ h => h) (fun _ _ _ => trivial) hK hP hD [0, 1] rfl rfl 0 12 rfl rfl rfl rfl hl.1 rfl (Nat.le_of_ble_eq_true rfl) dX12_call_2) hP hD hS hA [0, 1] [] rfl rfl rfl (by decide) (fun r_3 w_2 H locs hw_1 hP hD hS => ?_)
  obtain ⟨rfl, hr_4⟩ := hw_1
  have hP : va_P D vwCl [(h0, .inr (12, fs0)), (q1, .inl (cI, 2, .inl f1))] H := hP
  have hD : va_D A [(h0, .inr (12, fs0)), (q1, .inl (cI, 2, .inl f1))] := hD
  refine tov (v := 0) hr_4 ?_
  refine lv_if_eq (tgt := 28) hx hb dX12_call_5 (by decide) (fun _ => ?_) (fun h => (h (by decide)).elim)
  refine lv_iconst (v := (-1)) hx hb dX12_call_28 (by decide) ?_
  refine lv_goto (tgt := 42) hx hb dX12_call_29 (by decide) ?_
  exact fin_i hx hb hr hlk hK hP hD hS dX12_call_42 (rfl)
set_option maxRecDepth 100000 in
set_option maxHeartbeats 4000000 in
theorem c_X12_annul (l : Launch) (D : va_G) (cI cJ cZ : ClassId) (h0 : Nat) (fs0 : List Value) (p0 : Int32) (hl_fs0 : fs0.length = 94) (hf_fs0_37 : fs0[37]? = some (.int 0)) : Con_i l yX12_annul cX12_annul 3 (some .int) ({ frames := 0, cells := 0, slots := 0, locals := 0 }) D cI cJ cZ eT [.ref h0, .int p0] [(h0, .inr (12, fs0))] (fun r _ => r = (-1)) := by
  refine ent_i (by decide) (Nat.le_of_ble_eq_true rfl) ?_
  intro p e s m below meth c A hx hb hml hown hts hr hlk hnm hK hE hA hP hD hS ls hl
  have hown : s.vm.findClass RX12 = some m.cls := hown
  have hl : lv_has ls 3 [(0, .ref h0), (1, .int p0)] := hl
  refine lv_iload_n hx hb dX12_annul_0 rfl (lv_at hl 1 rfl) ?_
  refine lv_iconst (v := 1) hx hb dX12_annul_1 (by decide) ?_
  refine lv_icmp_lt (tgt := 42) hx hb dX12_annul_2 (by decide) (fun c_1 => ?_) (fun c_1 => ?_)
  · refine lv_iconst (v := (-1)) hx hb dX12_annul_42 (by decide) ?_
    exact fin_i hx hb hr hlk hK hP hD hS dX12_annul_43 (rfl)
  · refine lv_iload_n hx hb dX12_annul_5 rfl (lv_at hl 1 rfl) ?_
    refine lv_aload_n hx hb dX12_annul_6 rfl (lv_at hl 0 rfl) ?_
    refine gt_X12 hx hb hts hown hK hP 0 rfl 37 (by decide) wd_1438 rfl hf_fs0_37 dX12_annul_7 ?_
    refine lv_icmp_gt (tgt := 42) hx hb dX12_annul_10 (by decide) (fun _ => ?_) (fun h => (h ((by have k0 := c_1; rw [q_lt] at k0; have z0 : (0 : Int32).toInt = 0 := (by decide); have z1 : (1 : Int32).toInt = 1 := (by decide); rw [q_lt]; omega))).elim)
    refine lv_iconst (v := (-1)) hx hb dX12_annul_42 (by decide) ?_
    exact fin_i hx hb hr hlk hK hP hD hS dX12_annul_43 (rfl)
set_option maxRecDepth 100000 in
set_option maxHeartbeats 4000000 in
theorem c_X12_as (l : Launch) (D : va_G) (cI cJ cZ : ClassId) (h0 : Nat) (fs0 : List Value) (p0 : Int32) (hl_fs0 : fs0.length = 94) (hf_fs0_37 : fs0[37]? = some (.int 0)) : Con_i l yX12_as cX12_as 2 (some .boolean) ({ frames := 1, cells := 0, slots := 0, locals := 22 }) D cI cJ cZ eT [.ref h0, .int p0] [(h0, .inr (12, fs0))] (fun r _ => r = (sp_as p0)) := by
  refine ent_i (by decide) (Nat.le_of_ble_eq_true rfl) ?_
  intro p e s m below meth c A hx hb hml hown hts hr hlk hnm hK hE hA hP hD hS ls hl
  have hown : s.vm.findClass RX12 = some m.cls := hown
  have hl : lv_has ls 2 [(0, .ref h0), (1, .int p0)] := hl
  refine lv_iload_n hx hb dX12_as_0 rfl (lv_at hl 1 rfl) ?_
  refine lv_iconst (v := (-1)) hx hb dX12_as_1 (by decide) ?_
  refine lv_aload_n hx hb dX12_as_2 rfl (lv_at hl 0 rfl) ?_
  refine gt_X12 hx hb hts hown hK hP 0 rfl 37 (by decide) wd_1438 rfl hf_fs0_37 dX12_as_3 ?_
  refine cl_i (wr := [(h0, .inr (12, fs0))]) (rn_S (As := [.int p0, .int (-1), .int 0]) (rest := []) hx hb hml hown hts (c_X12_is l D cI cJ cZ p0 (-1) 0 _) ⟨rfl, rfl⟩ sv_X12_322 ⟨(Nat.le_of_ble_eq_true rfl), (Nat.le_of_ble_eq_true rfl)⟩ ⟨(Nat.le_of_ble_eq_true rfl), (Nat.le_of_ble_eq_true rfl)⟩ (fun _ _ _ _ h => h) (fun _ _ _ => trivial) hK hP hD [] rfl rfl rfl hl.1 rfl (Nat.le_of_ble_eq_true rfl) dX12_as_6) hP hD hS hA [] [0] rfl rfl rfl (by decide) (fun r_3 w_2 H locs hw_1 hP hD hS => ?_)
  obtain ⟨rfl, hr_4⟩ := hw_1
  have hP : va_P D vwCl [(h0, .inr (12, fs0))] H := hP
  have hD : va_D A [(h0, .inr (12, fs0))] := hD
  refine tov (v := (wi_ p0 (-1) 0)) hr_4 ?_
  refine lv_if_ne (tgt := 14) hx hb dX12_as_9 (by decide) (fun c_5 => ?_) (fun c_5 => ?_)
  · refine lv_aload_n hx hb dX12_as_14 rfl (lv_at hl 0 rfl) ?_
    refine lv_iload_n hx hb dX12_as_15 rfl (lv_at hl 1 rfl) ?_
    refine pt_X12 hx hb hts hown hK hP hD hS 0 rfl 39 (by decide) wd_1440 rfl rfl (ty := .int) (v := .int p0) (by decide +kernel) rfl rfl (ln_lt hl_fs0 (by decide)) dX12_as_16 (fun H locs hP hD hS => ?_)
    have hP : va_P D vwCl [(h0, .inr (12, (fs0.set 39 (.int p0))))] H := hP
    have hD : va_D A [(h0, .inr (12, (fs0.set 39 (.int p0))))] := hD
    refine lv_iconst (v := 1) hx hb dX12_as_19 (by decide) ?_
    exact fin_z hx hb hr hlk hK hP hD hS dX12_as_20 rfl (wi_ne c_5)
  · refine lv_iconst (v := 0) hx hb dX12_as_12 (by decide) ?_
    exact fin_z hx hb hr hlk hK hP hD hS dX12_as_13 rfl ((c_5).symm)
set_option maxRecDepth 100000 in
set_option maxHeartbeats 4000000 in
theorem c_X12_tells (l : Launch) (D : va_G) (cI cJ cZ : ClassId) (h0 q1 q2 q3 : Nat) (fs0 : List Value) (f1 : Nat → Int32) (f2 : Nat → Int32) (f3 : Nat → Int32) (p0 : Int32) (p1 : Int32) (p2 : Int32) (p3 : Int32) (p4 : Int32) (p5 : Int32) (hl_fs0 : fs0.length = 94) (hf_fs0_37 : fs0[37]? = some (.int 0)) (hf_fs0_40 : fs0[40]? = some (.ref q1)) (hf_fs0_41 : fs0[41]? = some (.ref q2)) (hf_fs0_42 : fs0[42]? = some (.ref q3)) : Con_i l yX12_tells cX12_tells 7 (some .int) ({ frames := 0, cells := 0, slots := 0, locals := 0 }) D cI cJ cZ eT [.ref h0, .int p0, .int p1, .int p2, .int p3, .int p4, .int p5] [(h0, .inr (12, fs0)), (q1, .inl (cI, 201, .inl f1)), (q2, .inl (cI, 1005, .inl f2)), (q3, .inl (cI, 201, .inl f3))] (fun (r : Int32) (w : va_W) => ∃ (g1 : Nat → Int32) (g2 : Nat → Int32) (g3 : Nat → Int32), w = [(h0, .inr (12, (fs0.set 37 (.int 1)))), (q1, .inl (cI, 201, .inl g1)), (q2, .inl (cI, 1005, .inl g2)), (q3, .inl (cI, 201, .inl g3))] ∧ r = 1) := by
  refine ent_i (by decide) (Nat.le_of_ble_eq_true rfl) ?_
  intro p e s m below meth c A hx hb hml hown hts hr hlk hnm hK hE hA hP hD hS ls hl
  have hown : s.vm.findClass RX12 = some m.cls := hown
  have hl : lv_has ls 7 [(0, .ref h0), (1, .int p0), (2, .int p1), (3, .int p2), (4, .int p3), (5, .int p4), (6, .int p5)] := hl
  refine lv_aload_n hx hb dX12_tells_0 rfl (lv_at hl 0 rfl) ?_
  refine lv_dup hx hb dX12_tells_1 rfl ?_
  refine gt_X12 hx hb hts hown hK hP 0 rfl 37 (by decide) wd_1438 rfl hf_fs0_37 dX12_tells_2 ?_
  refine lv_iconst (v := 1) hx hb dX12_tells_5 (by decide) ?_
  refine lv_iadd hx hb dX12_tells_6 ?_
  refine tov (v := 1) (by decide) ?_
  refine pt_X12 hx hb hts hown hK hP hD hS 0 rfl 37 (by decide) wd_1438 rfl rfl (ty := .int) (v := .int 1) (by decide +kernel) rfl rfl (ln_lt hl_fs0 (by decide)) dX12_tells_7 (fun H locs hP hD hS => ?_)
  have hP : va_P D vwCl [(h0, .inr (12, (fs0.set 37 (.int 1)))), (q1, .inl (cI, 201, .inl f1)), (q2, .inl (cI, 1005, .inl f2)), (q3, .inl (cI, 201, .inl f3))] H := hP
  have hD : va_D A [(h0, .inr (12, (fs0.set 37 (.int 1)))), (q1, .inl (cI, 201, .inl f1)), (q2, .inl (cI, 1005, .inl f2)), (q3, .inl (cI, 201, .inl f3))] := hD
  refine lv_aload_n hx hb dX12_tells_10 rfl (lv_at hl 0 rfl) ?_
  refine gt_X12 hx hb hts hown hK hP 0 rfl 40 (by decide) wd_1441 rfl (gs_ne (by decide) hf_fs0_40) dX12_tells_11 ?_
  refine lv_aload_n hx hb dX12_tells_14 rfl (lv_at hl 0 rfl) ?_
  refine gt_X12 hx hb hts hown hK hP 0 rfl 37 (by decide) wd_1438 rfl (gs_eq (ln_lt hl_fs0 (by decide))) dX12_tells_15 ?_
  refine lv_iload_n hx hb dX12_tells_18 rfl (lv_at hl 1 rfl) ?_
  refine va_iast hx hb hK hP hD hS 1 0 rfl rfl (vp_in_c (by decide)) dX12_tells_19 (fun H locs hP hD hS => ?_)
  obtain ⟨f_1, ef_1⟩ : ∃ z, z = upd f1 (1 : Int32).toNatClampNeg p0 := ⟨_, rfl⟩
  rw [← ef_1] at hP hD
  have hP : va_P D vwCl [(h0, .inr (12, (fs0.set 37 (.int 1)))), (q1, .inl (cI, 201, .inl f_1)), (q2, .inl (cI, 1005, .inl f2)), (q3, .inl (cI, 201, .inl f3))] H := hP
  have hD : va_D A [(h0, .inr (12, (fs0.set 37 (.int 1)))), (q1, .inl (cI, 201, .inl f_1)), (q2, .inl (cI, 1005, .inl f2)), (q3, .inl (cI, 201, .inl f3))] := hD
  refine lv_aload_n hx hb dX12_tells_20 rfl (lv_at hl 0 rfl) ?_
  refine gt_X12 hx hb hts hown hK hP 0 rfl 42 (by decide) wd_1443 rfl (gs_ne (by decide) hf_fs0_42) dX12_tells_21 ?_
  refine lv_aload_n hx hb dX12_tells_24 rfl (lv_at hl 0 rfl) ?_
  refine gt_X12 hx hb hts hown hK hP 0 rfl 37 (by decide) wd_1438 rfl (gs_eq (ln_lt hl_fs0 (by decide))) dX12_tells_25 ?_
  refine lv_iconst (v := 0) hx hb dX12_tells_28 (by decide) ?_
  refine va_iast hx hb hK hP hD hS 3 0 rfl rfl (vp_in_c (by decide)) dX12_tells_29 (fun H locs hP hD hS => ?_)
  obtain ⟨f_2, ef_2⟩ : ∃ z, z = upd f3 (1 : Int32).toNatClampNeg 0 := ⟨_, rfl⟩
  rw [← ef_2] at hP hD
  have hP : va_P D vwCl [(h0, .inr (12, (fs0.set 37 (.int 1)))), (q1, .inl (cI, 201, .inl f_1)), (q2, .inl (cI, 1005, .inl f2)), (q3, .inl (cI, 201, .inl f_2))] H := hP
  have hD : va_D A [(h0, .inr (12, (fs0.set 37 (.int 1)))), (q1, .inl (cI, 201, .inl f_1)), (q2, .inl (cI, 1005, .inl f2)), (q3, .inl (cI, 201, .inl f_2))] := hD
  refine lv_aload_n hx hb dX12_tells_30 rfl (lv_at hl 0 rfl) ?_
  refine gt_X12 hx hb hts hown hK hP 0 rfl 41 (by decide) wd_1442 rfl (gs_ne (by decide) hf_fs0_41) dX12_tells_31 ?_
  refine lv_iconst (v := 5) hx hb dX12_tells_34 (by decide) ?_
  refine lv_aload_n hx hb dX12_tells_35 rfl (lv_at hl 0 rfl) ?_
  refine gt_X12 hx hb hts hown hK hP 0 rfl 37 (by decide) wd_1438 rfl (gs_eq (ln_lt hl_fs0 (by decide))) dX12_tells_36 ?_
  refine lv_imul hx hb dX12_tells_39 ?_
  refine tov (v := 5) (by decide) ?_
  refine lv_iload_n hx hb dX12_tells_40 rfl (lv_at hl 2 rfl) ?_
  refine va_iast hx hb hK hP hD hS 2 0 rfl rfl (vp_in_c (by decide)) dX12_tells_41 (fun H locs hP hD hS => ?_)
  obtain ⟨f_3, ef_3⟩ : ∃ z, z = upd f2 (5 : Int32).toNatClampNeg p1 := ⟨_, rfl⟩
  rw [← ef_3] at hP hD
  have hP : va_P D vwCl [(h0, .inr (12, (fs0.set 37 (.int 1)))), (q1, .inl (cI, 201, .inl f_1)), (q2, .inl (cI, 1005, .inl f_3)), (q3, .inl (cI, 201, .inl f_2))] H := hP
  have hD : va_D A [(h0, .inr (12, (fs0.set 37 (.int 1)))), (q1, .inl (cI, 201, .inl f_1)), (q2, .inl (cI, 1005, .inl f_3)), (q3, .inl (cI, 201, .inl f_2))] := hD
  refine lv_aload_n hx hb dX12_tells_42 rfl (lv_at hl 0 rfl) ?_
  refine gt_X12 hx hb hts hown hK hP 0 rfl 41 (by decide) wd_1442 rfl (gs_ne (by decide) hf_fs0_41) dX12_tells_43 ?_
  refine lv_iconst (v := 5) hx hb dX12_tells_46 (by decide) ?_
  refine lv_aload_n hx hb dX12_tells_47 rfl (lv_at hl 0 rfl) ?_
  refine gt_X12 hx hb hts hown hK hP 0 rfl 37 (by decide) wd_1438 rfl (gs_eq (ln_lt hl_fs0 (by decide))) dX12_tells_48 ?_
  refine lv_imul hx hb dX12_tells_51 ?_
  refine tov (v := 5) (by decide) ?_
  refine lv_iconst (v := 1) hx hb dX12_tells_52 (by decide) ?_
  refine lv_iadd hx hb dX12_tells_53 ?_
  refine tov (v := 6) (by decide) ?_
  refine lv_iload_n hx hb dX12_tells_54 rfl (lv_at hl 3 rfl) ?_
  refine va_iast hx hb hK hP hD hS 2 0 rfl rfl (vp_in_c (by decide)) dX12_tells_55 (fun H locs hP hD hS => ?_)
  obtain ⟨f_4, ef_4⟩ : ∃ z, z = upd f_3 (6 : Int32).toNatClampNeg p2 := ⟨_, rfl⟩
  rw [← ef_4] at hP hD
  have hP : va_P D vwCl [(h0, .inr (12, (fs0.set 37 (.int 1)))), (q1, .inl (cI, 201, .inl f_1)), (q2, .inl (cI, 1005, .inl f_4)), (q3, .inl (cI, 201, .inl f_2))] H := hP
  have hD : va_D A [(h0, .inr (12, (fs0.set 37 (.int 1)))), (q1, .inl (cI, 201, .inl f_1)), (q2, .inl (cI, 1005, .inl f_4)), (q3, .inl (cI, 201, .inl f_2))] := hD
  refine lv_aload_n hx hb dX12_tells_56 rfl (lv_at hl 0 rfl) ?_
  refine gt_X12 hx hb hts hown hK hP 0 rfl 41 (by decide) wd_1442 rfl (gs_ne (by decide) hf_fs0_41) dX12_tells_57 ?_
  refine lv_iconst (v := 5) hx hb dX12_tells_60 (by decide) ?_
  refine lv_aload_n hx hb dX12_tells_61 rfl (lv_at hl 0 rfl) ?_
  refine gt_X12 hx hb hts hown hK hP 0 rfl 37 (by decide) wd_1438 rfl (gs_eq (ln_lt hl_fs0 (by decide))) dX12_tells_62 ?_
  refine lv_imul hx hb dX12_tells_65 ?_
  refine tov (v := 5) (by decide) ?_
  refine lv_iconst (v := 2) hx hb dX12_tells_66 (by decide) ?_
  refine lv_iadd hx hb dX12_tells_67 ?_
  refine tov (v := 7) (by decide) ?_
  refine lv_iload hx hb dX12_tells_68 (lv_at hl 4 rfl) ?_
  refine va_iast hx hb hK hP hD hS 2 0 rfl rfl (vp_in_c (by decide)) dX12_tells_70 (fun H locs hP hD hS => ?_)
  obtain ⟨f_5, ef_5⟩ : ∃ z, z = upd f_4 (7 : Int32).toNatClampNeg p3 := ⟨_, rfl⟩
  rw [← ef_5] at hP hD
  have hP : va_P D vwCl [(h0, .inr (12, (fs0.set 37 (.int 1)))), (q1, .inl (cI, 201, .inl f_1)), (q2, .inl (cI, 1005, .inl f_5)), (q3, .inl (cI, 201, .inl f_2))] H := hP
  have hD : va_D A [(h0, .inr (12, (fs0.set 37 (.int 1)))), (q1, .inl (cI, 201, .inl f_1)), (q2, .inl (cI, 1005, .inl f_5)), (q3, .inl (cI, 201, .inl f_2))] := hD
  refine lv_aload_n hx hb dX12_tells_71 rfl (lv_at hl 0 rfl) ?_
  refine gt_X12 hx hb hts hown hK hP 0 rfl 41 (by decide) wd_1442 rfl (gs_ne (by decide) hf_fs0_41) dX12_tells_72 ?_
  refine lv_iconst (v := 5) hx hb dX12_tells_75 (by decide) ?_
  refine lv_aload_n hx hb dX12_tells_76 rfl (lv_at hl 0 rfl) ?_
  refine gt_X12 hx hb hts hown hK hP 0 rfl 37 (by decide) wd_1438 rfl (gs_eq (ln_lt hl_fs0 (by decide))) dX12_tells_77 ?_
  refine lv_imul hx hb dX12_tells_80 ?_
  refine tov (v := 5) (by decide) ?_
  refine lv_iconst (v := 3) hx hb dX12_tells_81 (by decide) ?_
  refine lv_iadd hx hb dX12_tells_82 ?_
  refine tov (v := 8) (by decide) ?_
  refine lv_iload hx hb dX12_tells_83 (lv_at hl 5 rfl) ?_
  refine va_iast hx hb hK hP hD hS 2 0 rfl rfl (vp_in_c (by decide)) dX12_tells_85 (fun H locs hP hD hS => ?_)
  obtain ⟨f_6, ef_6⟩ : ∃ z, z = upd f_5 (8 : Int32).toNatClampNeg p4 := ⟨_, rfl⟩
  rw [← ef_6] at hP hD
  have hP : va_P D vwCl [(h0, .inr (12, (fs0.set 37 (.int 1)))), (q1, .inl (cI, 201, .inl f_1)), (q2, .inl (cI, 1005, .inl f_6)), (q3, .inl (cI, 201, .inl f_2))] H := hP
  have hD : va_D A [(h0, .inr (12, (fs0.set 37 (.int 1)))), (q1, .inl (cI, 201, .inl f_1)), (q2, .inl (cI, 1005, .inl f_6)), (q3, .inl (cI, 201, .inl f_2))] := hD
  refine lv_aload_n hx hb dX12_tells_86 rfl (lv_at hl 0 rfl) ?_
  refine gt_X12 hx hb hts hown hK hP 0 rfl 41 (by decide) wd_1442 rfl (gs_ne (by decide) hf_fs0_41) dX12_tells_87 ?_
  refine lv_iconst (v := 5) hx hb dX12_tells_90 (by decide) ?_
  refine lv_aload_n hx hb dX12_tells_91 rfl (lv_at hl 0 rfl) ?_
  refine gt_X12 hx hb hts hown hK hP 0 rfl 37 (by decide) wd_1438 rfl (gs_eq (ln_lt hl_fs0 (by decide))) dX12_tells_92 ?_
  refine lv_imul hx hb dX12_tells_95 ?_
  refine tov (v := 5) (by decide) ?_
  refine lv_iconst (v := 4) hx hb dX12_tells_96 (by decide) ?_
  refine lv_iadd hx hb dX12_tells_97 ?_
  refine tov (v := 9) (by decide) ?_
  refine lv_iload hx hb dX12_tells_98 (lv_at hl 6 rfl) ?_
  refine va_iast hx hb hK hP hD hS 2 0 rfl rfl (vp_in_c (by decide)) dX12_tells_100 (fun H locs hP hD hS => ?_)
  obtain ⟨f_7, ef_7⟩ : ∃ z, z = upd f_6 (9 : Int32).toNatClampNeg p5 := ⟨_, rfl⟩
  rw [← ef_7] at hP hD
  have hP : va_P D vwCl [(h0, .inr (12, (fs0.set 37 (.int 1)))), (q1, .inl (cI, 201, .inl f_1)), (q2, .inl (cI, 1005, .inl f_7)), (q3, .inl (cI, 201, .inl f_2))] H := hP
  have hD : va_D A [(h0, .inr (12, (fs0.set 37 (.int 1)))), (q1, .inl (cI, 201, .inl f_1)), (q2, .inl (cI, 1005, .inl f_7)), (q3, .inl (cI, 201, .inl f_2))] := hD
  refine lv_aload_n hx hb dX12_tells_101 rfl (lv_at hl 0 rfl) ?_
  refine gt_X12 hx hb hts hown hK hP 0 rfl 37 (by decide) wd_1438 rfl (gs_eq (ln_lt hl_fs0 (by decide))) dX12_tells_102 ?_
  exact fin_i hx hb hr hlk hK hP hD hS dX12_tells_105 (⟨f_1, f_7, f_2, rfl, rfl⟩)
set_option maxRecDepth 100000 in
set_option maxHeartbeats 4000000 in
theorem c_X12_report (l : Launch) (D : va_G) (cI cJ cZ : ClassId) (h0 q1 q2 q3 q4 : Nat) (fs0 : List Value) (f1 : Nat → Int32) (f2 : Nat → Int32) (f3 : Nat → Int32) (f4 : Nat → Int64) (p0 : Int32) (p1 : Int32) (p2 : Int32) (p3 : Int32) (p4 : Int32) (hl_fs0 : fs0.length = 94) (hf_fs0_1 : fs0[1]? = some (.int 0)) (hf_fs0_37 : fs0[37]? = some (.int 0)) (hf_fs0_38 : fs0[38]? = some (.int 0)) (hf_fs0_43 : fs0[43]? = some (.ref q4)) (hf_fs0_40 : fs0[40]? = some (.ref q1)) (hf_fs0_41 : fs0[41]? = some (.ref q2)) (hf_fs0_42 : fs0[42]? = some (.ref q3)) : Con_i l yX12_report cX12_report 10 (some .int) ({ frames := 2, cells := 0, slots := 0, locals := 45 }) D cI cJ cZ eT [.ref h0, .int p0, .int p1, .int p2, .int p3, .int p4] [(h0, .inr (12, fs0)), (q1, .inl (cI, 201, .inl f1)), (q2, .inl (cI, 1005, .inl f2)), (q3, .inl (cI, 201, .inl f3)), (q4, .inl (cJ, 603, .inr (.inl f4)))] (fun r _ => r = (sp_rep p0 p1 p2 p3 p4)) := by
  refine ent_i (by decide) (Nat.le_of_ble_eq_true rfl) ?_
  intro p e s m below meth c A hx hb hml hown hts hr hlk hnm hK hE hA hP hD hS ls hl
  have hown : s.vm.findClass RX12 = some m.cls := hown
  have hl : lv_has ls 10 [(0, .ref h0), (1, .int p0), (2, .int p1), (3, .int p2), (4, .int p3), (5, .int p4)] := hl
  refine lv_aload_n hx hb dX12_report_0 rfl (lv_at hl 0 rfl) ?_
  refine cl_v (wr := [(q1, .inl (cI, 201, .inl f1)), (q2, .inl (cI, 1005, .inl f2)), (q3, .inl (cI, 201, .inl f3)), (q4, .inl (cJ, 603, .inr (.inl f4)))]) (rn_V (As := []) (rest := []) hx hb hml hown hts (c_X12_starts l D cI cJ cZ h0 fs0 hl_fs0 hf_fs0_1 _) ⟨rfl, rfl⟩ sv_X12_439 ⟨(Nat.le_of_ble_eq_true rfl), (Nat.le_of_ble_eq_true rfl)⟩ ⟨(Nat.le_of_ble_eq_true rfl), (Nat.le_of_ble_eq_true rfl)⟩ (fun _ _ _ _ h => h) (fun _ _ _ => trivial) hK hP hD [0] rfl rfl 0 12 rfl rfl rfl rfl hl.1 rfl (Nat.le_of_ble_eq_true rfl) dX12_report_1) hP hD hS hA [0] [1, 2, 3, 4] rfl rfl rfl (by decide) (fun w_2 H locs hw_1 hP hD hS => ?_)
  subst hw_1
  have hP : va_P D vwCl [(q1, .inl (cI, 201, .inl f1)), (q2, .inl (cI, 1005, .inl f2)), (q3, .inl (cI, 201, .inl f3)), (q4, .inl (cJ, 603, .inr (.inl f4))), (h0, .inr (12, ((((((((fs0.set 2 (.int 0)).set 1 (.int 0)).set 5 (.int 0)).set 8 (.int 0)).set 9 (.int (-1))).set 4 (.int 0)).set 5 (.int 0)).set 3 (.int 0))))] H := hP
  have hD : va_D A [(q1, .inl (cI, 201, .inl f1)), (q2, .inl (cI, 1005, .inl f2)), (q3, .inl (cI, 201, .inl f3)), (q4, .inl (cJ, 603, .inr (.inl f4))), (h0, .inr (12, ((((((((fs0.set 2 (.int 0)).set 1 (.int 0)).set 5 (.int 0)).set 8 (.int 0)).set 9 (.int (-1))).set 4 (.int 0)).set 5 (.int 0)).set 3 (.int 0))))] := hD
  refine lv_iconst (v := 0) hx hb dX12_report_4 (by decide) ?_
  refine lv_istore (lv' := [(6, .int 0), (0, .ref h0), (1, .int p0), (2, .int p1), (3, .int p2), (4, .int p3), (5, .int p4)]) hx hb dX12_report_5 hl (by decide) rfl (fun ls hl => ?_)
  refine lv_aload_n hx hb dX12_report_7 rfl (lv_at hl 1 rfl) ?_
  refine gt_X12 hx hb hts hown hK hP 4 rfl 8 (by decide) wd_1409 rfl (gs_ne (by decide) (gs_ne (by decide) (gs_ne (by decide) (gs_ne (by decide) (gs_eq (ln_lt (ln_set (ln_set (ln_set hl_fs0))) (by decide))))))) dX12_report_8 ?_
  refine lv_if_ne (tgt := 86) hx hb dX12_report_11 (by decide) (fun h => (h (by decide)).elim) (fun _ => ?_)
  refine lv_aload_n hx hb dX12_report_14 rfl (lv_at hl 1 rfl) ?_
  refine gt_X12 hx hb hts hown hK hP 4 rfl 3 (by decide) wd_1404 rfl (gs_eq (ln_lt (ln_set (ln_set (ln_set (ln_set (ln_set (ln_set (ln_set hl_fs0))))))) (by decide))) dX12_report_15 ?_
  refine lv_if_eq (tgt := 86) hx hb dX12_report_18 (by decide) (fun _ => ?_) (fun h => (h (by decide)).elim)
  refine lv_aload_n hx hb dX12_report_86 rfl (lv_at hl 1 rfl) ?_
  refine gt_X12 hx hb hts hown hK hP 4 rfl 8 (by decide) wd_1409 rfl (gs_ne (by decide) (gs_ne (by decide) (gs_ne (by decide) (gs_ne (by decide) (gs_eq (ln_lt (ln_set (ln_set (ln_set hl_fs0))) (by decide))))))) dX12_report_87 ?_
  refine lv_if_ne (tgt := 151) hx hb dX12_report_90 (by decide) (fun h => (h (by decide)).elim) (fun _ => ?_)
  refine lv_iload_n hx hb dX12_report_93 rfl (lv_at hl 2 rfl) ?_
  refine lv_iconst (v := 0) hx hb dX12_report_94 (by decide) ?_
  refine lv_sipush (v := 9999) hx hb dX12_report_95 (by decide) ?_
  refine cl_i (wr := [(q1, .inl (cI, 201, .inl f1)), (q2, .inl (cI, 1005, .inl f2)), (q3, .inl (cI, 201, .inl f3)), (q4, .inl (cJ, 603, .inr (.inl f4))), (h0, .inr (12, ((((((((fs0.set 2 (.int 0)).set 1 (.int 0)).set 5 (.int 0)).set 8 (.int 0)).set 9 (.int (-1))).set 4 (.int 0)).set 5 (.int 0)).set 3 (.int 0))))]) (rn_S (As := [.int p0, .int 0, .int 9999]) (rest := []) hx hb hml hown hts (c_X12_is l D cI cJ cZ p0 0 9999 _) ⟨rfl, rfl⟩ sv_X12_322 ⟨(Nat.le_of_ble_eq_true rfl), (Nat.le_of_ble_eq_true rfl)⟩ ⟨(Nat.le_of_ble_eq_true rfl), (Nat.le_of_ble_eq_true rfl)⟩ (fun _ _ _ _ h => h) (fun _ _ _ => trivial) hK hP hD [] rfl rfl rfl hl.1 rfl (Nat.le_of_ble_eq_true rfl) dX12_report_98) hP hD hS hA [] [0, 1, 2, 3, 4] rfl rfl rfl (by decide) (fun r_6 w_5 H locs hw_4 hP hD hS => ?_)
  obtain ⟨rfl, hr_7⟩ := hw_4
  have hP : va_P D vwCl [(q1, .inl (cI, 201, .inl f1)), (q2, .inl (cI, 1005, .inl f2)), (q3, .inl (cI, 201, .inl f3)), (q4, .inl (cJ, 603, .inr (.inl f4))), (h0, .inr (12, ((((((((fs0.set 2 (.int 0)).set 1 (.int 0)).set 5 (.int 0)).set 8 (.int 0)).set 9 (.int (-1))).set 4 (.int 0)).set 5 (.int 0)).set 3 (.int 0))))] H := hP
  have hD : va_D A [(q1, .inl (cI, 201, .inl f1)), (q2, .inl (cI, 1005, .inl f2)), (q3, .inl (cI, 201, .inl f3)), (q4, .inl (cJ, 603, .inr (.inl f4))), (h0, .inr (12, ((((((((fs0.set 2 (.int 0)).set 1 (.int 0)).set 5 (.int 0)).set 8 (.int 0)).set 9 (.int (-1))).set 4 (.int 0)).set 5 (.int 0)).set 3 (.int 0))))] := hD
  refine tov (v := (wi_ p0 0 9999)) hr_7 ?_
  refine lv_if_eq (tgt := 151) hx hb dX12_report_101 (by decide) (fun c_8 => ?_) (fun c_8 => ?_)
  · refine lv_iconst (v := 0) hx hb dX12_report_151 (by decide) ?_
    refine lv_istore (lv' := [(7, .int 0), (6, .int 0), (0, .ref h0), (1, .int p0), (2, .int p1), (3, .int p2), (4, .int p3), (5, .int p4)]) hx hb dX12_report_152 hl (by decide) rfl (fun ls hl => ?_)
    refine lv_iload hx hb dX12_report_154 (lv_at hl 0 rfl) ?_
    refine lv_if_eq (tgt := 178) hx hb dX12_report_156 (by decide) (fun _ => ?_) (fun h => (h (by decide)).elim)
    refine lv_iconst (v := (-1)) hx hb dX12_report_178 (by decide) ?_
    exact fin_i hx hb hr hlk hK hP hD hS dX12_report_179 ((by unfold sp_rep; rw [if_pos (Or.inl c_8)]))
  · refine lv_iload_n hx hb dX12_report_104 rfl (lv_at hl 3 rfl) ?_
    refine lv_iconst (v := 0) hx hb dX12_report_105 (by decide) ?_
    refine lv_bipush (v := 17) hx hb dX12_report_106 (by decide) ?_
    refine cl_i (wr := [(q1, .inl (cI, 201, .inl f1)), (q2, .inl (cI, 1005, .inl f2)), (q3, .inl (cI, 201, .inl f3)), (q4, .inl (cJ, 603, .inr (.inl f4))), (h0, .inr (12, ((((((((fs0.set 2 (.int 0)).set 1 (.int 0)).set 5 (.int 0)).set 8 (.int 0)).set 9 (.int (-1))).set 4 (.int 0)).set 5 (.int 0)).set 3 (.int 0))))]) (rn_S (As := [.int p1, .int 0, .int 17]) (rest := []) hx hb hml hown hts (c_X12_is l D cI cJ cZ p1 0 17 _) ⟨rfl, rfl⟩ sv_X12_322 ⟨(Nat.le_of_ble_eq_true rfl), (Nat.le_of_ble_eq_true rfl)⟩ ⟨(Nat.le_of_ble_eq_true rfl), (Nat.le_of_ble_eq_true rfl)⟩ (fun _ _ _ _ h => h) (fun _ _ _ => trivial) hK hP hD [] rfl rfl rfl hl.1 rfl (Nat.le_of_ble_eq_true rfl) dX12_report_108) hP hD hS hA [] [0, 1, 2, 3, 4] rfl rfl rfl (by decide) (fun r_11 w_10 H locs hw_9 hP hD hS => ?_)
    obtain ⟨rfl, hr_12⟩ := hw_9
    have hP : va_P D vwCl [(q1, .inl (cI, 201, .inl f1)), (q2, .inl (cI, 1005, .inl f2)), (q3, .inl (cI, 201, .inl f3)), (q4, .inl (cJ, 603, .inr (.inl f4))), (h0, .inr (12, ((((((((fs0.set 2 (.int 0)).set 1 (.int 0)).set 5 (.int 0)).set 8 (.int 0)).set 9 (.int (-1))).set 4 (.int 0)).set 5 (.int 0)).set 3 (.int 0))))] H := hP
    have hD : va_D A [(q1, .inl (cI, 201, .inl f1)), (q2, .inl (cI, 1005, .inl f2)), (q3, .inl (cI, 201, .inl f3)), (q4, .inl (cJ, 603, .inr (.inl f4))), (h0, .inr (12, ((((((((fs0.set 2 (.int 0)).set 1 (.int 0)).set 5 (.int 0)).set 8 (.int 0)).set 9 (.int (-1))).set 4 (.int 0)).set 5 (.int 0)).set 3 (.int 0))))] := hD
    refine tov (v := (wi_ p1 0 17)) hr_12 ?_
    refine lv_if_eq (tgt := 151) hx hb dX12_report_111 (by decide) (fun c_13 => ?_) (fun c_13 => ?_)
    · refine lv_iconst (v := 0) hx hb dX12_report_151 (by decide) ?_
      refine lv_istore (lv' := [(7, .int 0), (6, .int 0), (0, .ref h0), (1, .int p0), (2, .int p1), (3, .int p2), (4, .int p3), (5, .int p4)]) hx hb dX12_report_152 hl (by decide) rfl (fun ls hl => ?_)
      refine lv_iload hx hb dX12_report_154 (lv_at hl 0 rfl) ?_
      refine lv_if_eq (tgt := 178) hx hb dX12_report_156 (by decide) (fun _ => ?_) (fun h => (h (by decide)).elim)
      refine lv_iconst (v := (-1)) hx hb dX12_report_178 (by decide) ?_
      exact fin_i hx hb hr hlk hK hP hD hS dX12_report_179 ((by unfold sp_rep; rw [if_pos (Or.inr (Or.inl c_13))]))
    · refine lv_iload_n hx hb dX12_report_114 rfl (lv_at hl 4 rfl) ?_
      refine lv_iconst (v := 0) hx hb dX12_report_115 (by decide) ?_
      refine lv_bipush (v := 99) hx hb dX12_report_116 (by decide) ?_
      refine cl_i (wr := [(q1, .inl (cI, 201, .inl f1)), (q2, .inl (cI, 1005, .inl f2)), (q3, .inl (cI, 201, .inl f3)), (q4, .inl (cJ, 603, .inr (.inl f4))), (h0, .inr (12, ((((((((fs0.set 2 (.int 0)).set 1 (.int 0)).set 5 (.int 0)).set 8 (.int 0)).set 9 (.int (-1))).set 4 (.int 0)).set 5 (.int 0)).set 3 (.int 0))))]) (rn_S (As := [.int p2, .int 0, .int 99]) (rest := []) hx hb hml hown hts (c_X12_is l D cI cJ cZ p2 0 99 _) ⟨rfl, rfl⟩ sv_X12_322 ⟨(Nat.le_of_ble_eq_true rfl), (Nat.le_of_ble_eq_true rfl)⟩ ⟨(Nat.le_of_ble_eq_true rfl), (Nat.le_of_ble_eq_true rfl)⟩ (fun _ _ _ _ h => h) (fun _ _ _ => trivial) hK hP hD [] rfl rfl rfl hl.1 rfl (Nat.le_of_ble_eq_true rfl) dX12_report_118) hP hD hS hA [] [0, 1, 2, 3, 4] rfl rfl rfl (by decide) (fun r_16 w_15 H locs hw_14 hP hD hS => ?_)
      obtain ⟨rfl, hr_17⟩ := hw_14
      have hP : va_P D vwCl [(q1, .inl (cI, 201, .inl f1)), (q2, .inl (cI, 1005, .inl f2)), (q3, .inl (cI, 201, .inl f3)), (q4, .inl (cJ, 603, .inr (.inl f4))), (h0, .inr (12, ((((((((fs0.set 2 (.int 0)).set 1 (.int 0)).set 5 (.int 0)).set 8 (.int 0)).set 9 (.int (-1))).set 4 (.int 0)).set 5 (.int 0)).set 3 (.int 0))))] H := hP
      have hD : va_D A [(q1, .inl (cI, 201, .inl f1)), (q2, .inl (cI, 1005, .inl f2)), (q3, .inl (cI, 201, .inl f3)), (q4, .inl (cJ, 603, .inr (.inl f4))), (h0, .inr (12, ((((((((fs0.set 2 (.int 0)).set 1 (.int 0)).set 5 (.int 0)).set 8 (.int 0)).set 9 (.int (-1))).set 4 (.int 0)).set 5 (.int 0)).set 3 (.int 0))))] := hD
      refine tov (v := (wi_ p2 0 99)) hr_17 ?_
      refine lv_if_eq (tgt := 151) hx hb dX12_report_121 (by decide) (fun c_18 => ?_) (fun c_18 => ?_)
      · refine lv_iconst (v := 0) hx hb dX12_report_151 (by decide) ?_
        refine lv_istore (lv' := [(7, .int 0), (6, .int 0), (0, .ref h0), (1, .int p0), (2, .int p1), (3, .int p2), (4, .int p3), (5, .int p4)]) hx hb dX12_report_152 hl (by decide) rfl (fun ls hl => ?_)
        refine lv_iload hx hb dX12_report_154 (lv_at hl 0 rfl) ?_
        refine lv_if_eq (tgt := 178) hx hb dX12_report_156 (by decide) (fun _ => ?_) (fun h => (h (by decide)).elim)
        refine lv_iconst (v := (-1)) hx hb dX12_report_178 (by decide) ?_
        exact fin_i hx hb hr hlk hK hP hD hS dX12_report_179 ((by unfold sp_rep; rw [if_pos (Or.inr (Or.inr (Or.inl c_18)))]))
      · refine lv_iload hx hb dX12_report_124 (lv_at hl 5 rfl) ?_
        refine lv_iconst (v := 0) hx hb dX12_report_126 (by decide) ?_
        refine lv_sipush (v := 999) hx hb dX12_report_127 (by decide) ?_
        refine cl_i (wr := [(q1, .inl (cI, 201, .inl f1)), (q2, .inl (cI, 1005, .inl f2)), (q3, .inl (cI, 201, .inl f3)), (q4, .inl (cJ, 603, .inr (.inl f4))), (h0, .inr (12, ((((((((fs0.set 2 (.int 0)).set 1 (.int 0)).set 5 (.int 0)).set 8 (.int 0)).set 9 (.int (-1))).set 4 (.int 0)).set 5 (.int 0)).set 3 (.int 0))))]) (rn_S (As := [.int p3, .int 0, .int 999]) (rest := []) hx hb hml hown hts (c_X12_is l D cI cJ cZ p3 0 999 _) ⟨rfl, rfl⟩ sv_X12_322 ⟨(Nat.le_of_ble_eq_true rfl), (Nat.le_of_ble_eq_true rfl)⟩ ⟨(Nat.le_of_ble_eq_true rfl), (Nat.le_of_ble_eq_true rfl)⟩ (fun _ _ _ _ h => h) (fun _ _ _ => trivial) hK hP hD [] rfl rfl rfl hl.1 rfl (Nat.le_of_ble_eq_true rfl) dX12_report_130) hP hD hS hA [] [0, 1, 2, 3, 4] rfl rfl rfl (by decide) (fun r_21 w_20 H locs hw_19 hP hD hS => ?_)
        obtain ⟨rfl, hr_22⟩ := hw_19
        have hP : va_P D vwCl [(q1, .inl (cI, 201, .inl f1)), (q2, .inl (cI, 1005, .inl f2)), (q3, .inl (cI, 201, .inl f3)), (q4, .inl (cJ, 603, .inr (.inl f4))), (h0, .inr (12, ((((((((fs0.set 2 (.int 0)).set 1 (.int 0)).set 5 (.int 0)).set 8 (.int 0)).set 9 (.int (-1))).set 4 (.int 0)).set 5 (.int 0)).set 3 (.int 0))))] H := hP
        have hD : va_D A [(q1, .inl (cI, 201, .inl f1)), (q2, .inl (cI, 1005, .inl f2)), (q3, .inl (cI, 201, .inl f3)), (q4, .inl (cJ, 603, .inr (.inl f4))), (h0, .inr (12, ((((((((fs0.set 2 (.int 0)).set 1 (.int 0)).set 5 (.int 0)).set 8 (.int 0)).set 9 (.int (-1))).set 4 (.int 0)).set 5 (.int 0)).set 3 (.int 0))))] := hD
        refine tov (v := (wi_ p3 0 999)) hr_22 ?_
        refine lv_if_eq (tgt := 151) hx hb dX12_report_133 (by decide) (fun c_23 => ?_) (fun c_23 => ?_)
        · refine lv_iconst (v := 0) hx hb dX12_report_151 (by decide) ?_
          refine lv_istore (lv' := [(7, .int 0), (6, .int 0), (0, .ref h0), (1, .int p0), (2, .int p1), (3, .int p2), (4, .int p3), (5, .int p4)]) hx hb dX12_report_152 hl (by decide) rfl (fun ls hl => ?_)
          refine lv_iload hx hb dX12_report_154 (lv_at hl 0 rfl) ?_
          refine lv_if_eq (tgt := 178) hx hb dX12_report_156 (by decide) (fun _ => ?_) (fun h => (h (by decide)).elim)
          refine lv_iconst (v := (-1)) hx hb dX12_report_178 (by decide) ?_
          exact fin_i hx hb hr hlk hK hP hD hS dX12_report_179 ((by unfold sp_rep; rw [if_pos (Or.inr (Or.inr (Or.inr (Or.inl c_23))))]))
        · refine lv_iload hx hb dX12_report_136 (lv_at hl 6 rfl) ?_
          refine lv_iconst (v := 1) hx hb dX12_report_138 (by decide) ?_
          refine lv_bipush (v := 24) hx hb dX12_report_139 (by decide) ?_
          refine cl_i (wr := [(q1, .inl (cI, 201, .inl f1)), (q2, .inl (cI, 1005, .inl f2)), (q3, .inl (cI, 201, .inl f3)), (q4, .inl (cJ, 603, .inr (.inl f4))), (h0, .inr (12, ((((((((fs0.set 2 (.int 0)).set 1 (.int 0)).set 5 (.int 0)).set 8 (.int 0)).set 9 (.int (-1))).set 4 (.int 0)).set 5 (.int 0)).set 3 (.int 0))))]) (rn_S (As := [.int p4, .int 1, .int 24]) (rest := []) hx hb hml hown hts (c_X12_is l D cI cJ cZ p4 1 24 _) ⟨rfl, rfl⟩ sv_X12_322 ⟨(Nat.le_of_ble_eq_true rfl), (Nat.le_of_ble_eq_true rfl)⟩ ⟨(Nat.le_of_ble_eq_true rfl), (Nat.le_of_ble_eq_true rfl)⟩ (fun _ _ _ _ h => h) (fun _ _ _ => trivial) hK hP hD [] rfl rfl rfl hl.1 rfl (Nat.le_of_ble_eq_true rfl) dX12_report_141) hP hD hS hA [] [0, 1, 2, 3, 4] rfl rfl rfl (by decide) (fun r_26 w_25 H locs hw_24 hP hD hS => ?_)
          obtain ⟨rfl, hr_27⟩ := hw_24
          have hP : va_P D vwCl [(q1, .inl (cI, 201, .inl f1)), (q2, .inl (cI, 1005, .inl f2)), (q3, .inl (cI, 201, .inl f3)), (q4, .inl (cJ, 603, .inr (.inl f4))), (h0, .inr (12, ((((((((fs0.set 2 (.int 0)).set 1 (.int 0)).set 5 (.int 0)).set 8 (.int 0)).set 9 (.int (-1))).set 4 (.int 0)).set 5 (.int 0)).set 3 (.int 0))))] H := hP
          have hD : va_D A [(q1, .inl (cI, 201, .inl f1)), (q2, .inl (cI, 1005, .inl f2)), (q3, .inl (cI, 201, .inl f3)), (q4, .inl (cJ, 603, .inr (.inl f4))), (h0, .inr (12, ((((((((fs0.set 2 (.int 0)).set 1 (.int 0)).set 5 (.int 0)).set 8 (.int 0)).set 9 (.int (-1))).set 4 (.int 0)).set 5 (.int 0)).set 3 (.int 0))))] := hD
          refine tov (v := (wi_ p4 1 24)) hr_27 ?_
          refine lv_if_eq (tgt := 151) hx hb dX12_report_144 (by decide) (fun c_28 => ?_) (fun c_28 => ?_)
          · refine lv_iconst (v := 0) hx hb dX12_report_151 (by decide) ?_
            refine lv_istore (lv' := [(7, .int 0), (6, .int 0), (0, .ref h0), (1, .int p0), (2, .int p1), (3, .int p2), (4, .int p3), (5, .int p4)]) hx hb dX12_report_152 hl (by decide) rfl (fun ls hl => ?_)
            refine lv_iload hx hb dX12_report_154 (lv_at hl 0 rfl) ?_
            refine lv_if_eq (tgt := 178) hx hb dX12_report_156 (by decide) (fun _ => ?_) (fun h => (h (by decide)).elim)
            refine lv_iconst (v := (-1)) hx hb dX12_report_178 (by decide) ?_
            exact fin_i hx hb hr hlk hK hP hD hS dX12_report_179 ((by unfold sp_rep; rw [if_pos (Or.inr (Or.inr (Or.inr (Or.inr (c_28)))))]))
          · refine lv_iconst (v := 1) hx hb dX12_report_147 (by decide) ?_
            refine lv_goto (tgt := 152) hx hb dX12_report_148 (by decide) ?_
            refine lv_istore (lv' := [(7, .int 1), (6, .int 0), (0, .ref h0), (1, .int p0), (2, .int p1), (3, .int p2), (4, .int p3), (5, .int p4)]) hx hb dX12_report_152 hl (by decide) rfl (fun ls hl => ?_)
            refine lv_iload hx hb dX12_report_154 (lv_at hl 0 rfl) ?_
            refine lv_if_eq (tgt := 178) hx hb dX12_report_156 (by decide) (fun h => absurd h (by decide)) (fun _ => ?_)
            refine lv_aload_n hx hb dX12_report_159 rfl (lv_at hl 2 rfl) ?_
            refine gt_X12 hx hb hts hown hK hP 4 rfl 37 (by decide) wd_1438 rfl (gs_ne (by decide) (gs_ne (by decide) (gs_ne (by decide) (gs_ne (by decide) (gs_ne (by decide) (gs_ne (by decide) (gs_ne (by decide) (gs_ne (by decide) hf_fs0_37)))))))) dX12_report_160 ?_
            refine lv_sipush (v := 200) hx hb dX12_report_163 (by decide) ?_
            refine lv_icmp_eq (tgt := 178) hx hb dX12_report_166 (by decide) (fun h => absurd h (by decide)) (fun _ => ?_)
            refine lv_aload_n hx hb dX12_report_169 rfl (lv_at hl 2 rfl) ?_
            refine gt_X12 hx hb hts hown hK hP 4 rfl 38 (by decide) wd_1439 rfl (gs_ne (by decide) (gs_ne (by decide) (gs_ne (by decide) (gs_ne (by decide) (gs_ne (by decide) (gs_ne (by decide) (gs_ne (by decide) (gs_ne (by decide) hf_fs0_38)))))))) dX12_report_170 ?_
            refine lv_bipush (v := 80) hx hb dX12_report_173 (by decide) ?_
            refine lv_icmp_ne (tgt := 180) hx hb dX12_report_175 (by decide) (fun _ => ?_) (fun h => absurd h (by decide))
            refine lv_aload_n hx hb dX12_report_180 rfl (lv_at hl 2 rfl) ?_
            refine lv_dup hx hb dX12_report_181 rfl ?_
            refine gt_X12 hx hb hts hown hK hP 4 rfl 38 (by decide) wd_1439 rfl (gs_ne (by decide) (gs_ne (by decide) (gs_ne (by decide) (gs_ne (by decide) (gs_ne (by decide) (gs_ne (by decide) (gs_ne (by decide) (gs_ne (by decide) hf_fs0_38)))))))) dX12_report_182 ?_
            refine lv_iconst (v := 1) hx hb dX12_report_185 (by decide) ?_
            refine lv_iadd hx hb dX12_report_186 ?_
            refine tov (v := 1) (by decide) ?_
            refine pt_X12 hx hb hts hown hK hP hD hS 4 rfl 38 (by decide) wd_1439 rfl rfl (ty := .int) (v := .int 1) (by decide +kernel) rfl rfl (ln_lt (ln_set (ln_set (ln_set (ln_set (ln_set (ln_set (ln_set (ln_set hl_fs0)))))))) (by decide)) dX12_report_187 (fun H locs hP hD hS => ?_)
            have hP : va_P D vwCl [(q1, .inl (cI, 201, .inl f1)), (q2, .inl (cI, 1005, .inl f2)), (q3, .inl (cI, 201, .inl f3)), (q4, .inl (cJ, 603, .inr (.inl f4))), (h0, .inr (12, (((((((((fs0.set 2 (.int 0)).set 1 (.int 0)).set 5 (.int 0)).set 8 (.int 0)).set 9 (.int (-1))).set 4 (.int 0)).set 5 (.int 0)).set 3 (.int 0)).set 38 (.int 1))))] H := hP
            have hD : va_D A [(q1, .inl (cI, 201, .inl f1)), (q2, .inl (cI, 1005, .inl f2)), (q3, .inl (cI, 201, .inl f3)), (q4, .inl (cJ, 603, .inr (.inl f4))), (h0, .inr (12, (((((((((fs0.set 2 (.int 0)).set 1 (.int 0)).set 5 (.int 0)).set 8 (.int 0)).set 9 (.int (-1))).set 4 (.int 0)).set 5 (.int 0)).set 3 (.int 0)).set 38 (.int 1))))] := hD
            refine lv_aload_n hx hb dX12_report_190 rfl (lv_at hl 2 rfl) ?_
            refine lv_iconst (v := 0) hx hb dX12_report_191 (by decide) ?_
            refine lv_iload_n hx hb dX12_report_192 rfl (lv_at hl 3 rfl) ?_
            refine lv_iload_n hx hb dX12_report_193 rfl (lv_at hl 4 rfl) ?_
            refine lv_iload_n hx hb dX12_report_194 rfl (lv_at hl 5 rfl) ?_
            refine lv_iload hx hb dX12_report_195 (lv_at hl 6 rfl) ?_
            refine lv_iload hx hb dX12_report_197 (lv_at hl 7 rfl) ?_
            refine cl_i (wr := [(q4, .inl (cJ, 603, .inr (.inl f4)))]) (rn_V (As := [.int 0, .int p0, .int p1, .int p2, .int p3, .int p4]) (rest := []) hx hb hml hown hts (c_X12_tells l D cI cJ cZ h0 q1 q2 q3 (((((((((fs0.set 2 (.int 0)).set 1 (.int 0)).set 5 (.int 0)).set 8 (.int 0)).set 9 (.int (-1))).set 4 (.int 0)).set 5 (.int 0)).set 3 (.int 0)).set 38 (.int 1)) f1 f2 f3 0 p0 p1 p2 p3 p4 (ln_set (ln_set (ln_set (ln_set (ln_set (ln_set (ln_set (ln_set (ln_set hl_fs0))))))))) (gs_ne (by decide) (gs_ne (by decide) (gs_ne (by decide) (gs_ne (by decide) (gs_ne (by decide) (gs_ne (by decide) (gs_ne (by decide) (gs_ne (by decide) (gs_ne (by decide) hf_fs0_37))))))))) (gs_ne (by decide) (gs_ne (by decide) (gs_ne (by decide) (gs_ne (by decide) (gs_ne (by decide) (gs_ne (by decide) (gs_ne (by decide) (gs_ne (by decide) (gs_ne (by decide) hf_fs0_40))))))))) (gs_ne (by decide) (gs_ne (by decide) (gs_ne (by decide) (gs_ne (by decide) (gs_ne (by decide) (gs_ne (by decide) (gs_ne (by decide) (gs_ne (by decide) (gs_ne (by decide) hf_fs0_41))))))))) (gs_ne (by decide) (gs_ne (by decide) (gs_ne (by decide) (gs_ne (by decide) (gs_ne (by decide) (gs_ne (by decide) (gs_ne (by decide) (gs_ne (by decide) (gs_ne (by decide) hf_fs0_42))))))))) _) ⟨rfl, rfl⟩ sv_X12_453 ⟨(Nat.le_of_ble_eq_true rfl), (Nat.le_of_ble_eq_true rfl)⟩ ⟨(Nat.le_of_ble_eq_true rfl), (Nat.le_of_ble_eq_true rfl)⟩ (fun _ _ _ _ h => h) (fun _ _ _ => trivial) hK hP hD [4, 0, 1, 2] rfl rfl 0 12 rfl rfl rfl rfl hl.1 rfl (Nat.le_of_ble_eq_true rfl) dX12_report_199) hP hD hS hA [4, 0, 1, 2] [3] rfl rfl rfl (by decide) (fun r_31 w_30 H locs hw_29 hP hD hS => ?_)
            obtain ⟨g1_32, g2_33, g3_34, rfl, hr_35⟩ := hw_29
            have hP : va_P D vwCl [(q4, .inl (cJ, 603, .inr (.inl f4))), (h0, .inr (12, ((((((((((fs0.set 2 (.int 0)).set 1 (.int 0)).set 5 (.int 0)).set 8 (.int 0)).set 9 (.int (-1))).set 4 (.int 0)).set 5 (.int 0)).set 3 (.int 0)).set 38 (.int 1)).set 37 (.int 1)))), (q1, .inl (cI, 201, .inl g1_32)), (q2, .inl (cI, 1005, .inl g2_33)), (q3, .inl (cI, 201, .inl g3_34))] H := hP
            have hD : va_D A [(q4, .inl (cJ, 603, .inr (.inl f4))), (h0, .inr (12, ((((((((((fs0.set 2 (.int 0)).set 1 (.int 0)).set 5 (.int 0)).set 8 (.int 0)).set 9 (.int (-1))).set 4 (.int 0)).set 5 (.int 0)).set 3 (.int 0)).set 38 (.int 1)).set 37 (.int 1)))), (q1, .inl (cI, 201, .inl g1_32)), (q2, .inl (cI, 1005, .inl g2_33)), (q3, .inl (cI, 201, .inl g3_34))] := hD
            refine tov (v := 1) hr_35 ?_
            refine lv_istore (lv' := [(8, .int 1), (7, .int 1), (6, .int 0), (0, .ref h0), (1, .int p0), (2, .int p1), (3, .int p2), (4, .int p3), (5, .int p4)]) hx hb dX12_report_202 hl (by decide) rfl (fun ls hl => ?_)
            refine lv_iconst (v := 0) hx hb dX12_report_204 (by decide) ?_
            refine lv_istore (lv' := [(9, .int 0), (8, .int 1), (7, .int 1), (6, .int 0), (0, .ref h0), (1, .int p0), (2, .int p1), (3, .int p2), (4, .int p3), (5, .int p4)]) hx hb dX12_report_205 hl (by decide) rfl (fun ls hl => ?_)
            refine lv_iload hx hb dX12_report_207 (lv_at hl 0 rfl) ?_
            refine lv_iconst (v := 3) hx hb dX12_report_209 (by decide) ?_
            refine lv_icmp_ge (tgt := 249) hx hb dX12_report_210 (by decide) (fun h => absurd h (by decide)) (fun _ => ?_)
            refine lv_aload_n hx hb dX12_report_213 rfl (lv_at hl 4 rfl) ?_
            refine gt_X12 hx hb hts hown hK hP 1 rfl 43 (by decide) wd_1444 rfl (gs_ne (by decide) (gs_ne (by decide) (gs_ne (by decide) (gs_ne (by decide) (gs_ne (by decide) (gs_ne (by decide) (gs_ne (by decide) (gs_ne (by decide) (gs_ne (by decide) (gs_ne (by decide) hf_fs0_43)))))))))) dX12_report_214 ?_
            refine lv_iconst (v := 3) hx hb dX12_report_217 (by decide) ?_
            refine lv_iload hx hb dX12_report_218 (lv_at hl 1 rfl) ?_
            refine lv_imul hx hb dX12_report_220 ?_
            refine tov (v := 3) (by decide) ?_
            refine lv_iload hx hb dX12_report_221 (lv_at hl 0 rfl) ?_
            refine lv_iadd hx hb dX12_report_223 ?_
            refine tov (v := 3) (by decide) ?_
            refine lv_iload hx hb dX12_report_224 (lv_at hl 0 rfl) ?_
            refine lv_iload hx hb dX12_report_226 (lv_at hl 3 rfl) ?_
            refine lv_icmp_ge (tgt := 241) hx hb dX12_report_228 (by decide) (fun _ => ?_) (fun h => (h (by decide)).elim)
            refine lv_lconst (v := 0) hx hb dX12_report_241 (by decide) ?_
            refine va_last hx hb hK hP hD hS 0 1 rfl rfl (vp_in_c (by decide)) dX12_report_242 (fun H locs hP hD hS => ?_)
            obtain ⟨f_36, ef_36⟩ : ∃ z, z = vp_updL f4 (3 : Int32).toNatClampNeg 0 := ⟨_, rfl⟩
            rw [← ef_36] at hP hD
            have hP : va_P D vwCl [(q4, .inl (cJ, 603, .inr (.inl f_36))), (h0, .inr (12, ((((((((((fs0.set 2 (.int 0)).set 1 (.int 0)).set 5 (.int 0)).set 8 (.int 0)).set 9 (.int (-1))).set 4 (.int 0)).set 5 (.int 0)).set 3 (.int 0)).set 38 (.int 1)).set 37 (.int 1)))), (q1, .inl (cI, 201, .inl g1_32)), (q2, .inl (cI, 1005, .inl g2_33)), (q3, .inl (cI, 201, .inl g3_34))] H := hP
            have hD : va_D A [(q4, .inl (cJ, 603, .inr (.inl f_36))), (h0, .inr (12, ((((((((((fs0.set 2 (.int 0)).set 1 (.int 0)).set 5 (.int 0)).set 8 (.int 0)).set 9 (.int (-1))).set 4 (.int 0)).set 5 (.int 0)).set 3 (.int 0)).set 38 (.int 1)).set 37 (.int 1)))), (q1, .inl (cI, 201, .inl g1_32)), (q2, .inl (cI, 1005, .inl g2_33)), (q3, .inl (cI, 201, .inl g3_34))] := hD
            refine lv_iinc (v := 1) (lv' := [(9, .int 1), (8, .int 1), (7, .int 1), (6, .int 0), (0, .ref h0), (1, .int p0), (2, .int p1), (3, .int p2), (4, .int p3), (5, .int p4)]) hx hb dX12_report_243 hl (k := 0) rfl (by decide) (by decide) rfl (fun ls hl => ?_)
            refine lv_goto (tgt := 207) hx hb dX12_report_246 (by decide) ?_
            refine lv_iload hx hb dX12_report_207 (lv_at hl 0 rfl) ?_
            refine lv_iconst (v := 3) hx hb dX12_report_209 (by decide) ?_
            refine lv_icmp_ge (tgt := 249) hx hb dX12_report_210 (by decide) (fun h => absurd h (by decide)) (fun _ => ?_)
            refine lv_aload_n hx hb dX12_report_213 rfl (lv_at hl 4 rfl) ?_
            refine gt_X12 hx hb hts hown hK hP 1 rfl 43 (by decide) wd_1444 rfl (gs_ne (by decide) (gs_ne (by decide) (gs_ne (by decide) (gs_ne (by decide) (gs_ne (by decide) (gs_ne (by decide) (gs_ne (by decide) (gs_ne (by decide) (gs_ne (by decide) (gs_ne (by decide) hf_fs0_43)))))))))) dX12_report_214 ?_
            refine lv_iconst (v := 3) hx hb dX12_report_217 (by decide) ?_
            refine lv_iload hx hb dX12_report_218 (lv_at hl 1 rfl) ?_
            refine lv_imul hx hb dX12_report_220 ?_
            refine tov (v := 3) (by decide) ?_
            refine lv_iload hx hb dX12_report_221 (lv_at hl 0 rfl) ?_
            refine lv_iadd hx hb dX12_report_223 ?_
            refine tov (v := 4) (by decide) ?_
            refine lv_iload hx hb dX12_report_224 (lv_at hl 0 rfl) ?_
            refine lv_iload hx hb dX12_report_226 (lv_at hl 3 rfl) ?_
            refine lv_icmp_ge (tgt := 241) hx hb dX12_report_228 (by decide) (fun _ => ?_) (fun h => (h (by decide)).elim)
            refine lv_lconst (v := 0) hx hb dX12_report_241 (by decide) ?_
            refine va_last hx hb hK hP hD hS 0 1 rfl rfl (vp_in_c (by decide)) dX12_report_242 (fun H locs hP hD hS => ?_)
            obtain ⟨f_37, ef_37⟩ : ∃ z, z = vp_updL f_36 (4 : Int32).toNatClampNeg 0 := ⟨_, rfl⟩
            rw [← ef_37] at hP hD
            have hP : va_P D vwCl [(q4, .inl (cJ, 603, .inr (.inl f_37))), (h0, .inr (12, ((((((((((fs0.set 2 (.int 0)).set 1 (.int 0)).set 5 (.int 0)).set 8 (.int 0)).set 9 (.int (-1))).set 4 (.int 0)).set 5 (.int 0)).set 3 (.int 0)).set 38 (.int 1)).set 37 (.int 1)))), (q1, .inl (cI, 201, .inl g1_32)), (q2, .inl (cI, 1005, .inl g2_33)), (q3, .inl (cI, 201, .inl g3_34))] H := hP
            have hD : va_D A [(q4, .inl (cJ, 603, .inr (.inl f_37))), (h0, .inr (12, ((((((((((fs0.set 2 (.int 0)).set 1 (.int 0)).set 5 (.int 0)).set 8 (.int 0)).set 9 (.int (-1))).set 4 (.int 0)).set 5 (.int 0)).set 3 (.int 0)).set 38 (.int 1)).set 37 (.int 1)))), (q1, .inl (cI, 201, .inl g1_32)), (q2, .inl (cI, 1005, .inl g2_33)), (q3, .inl (cI, 201, .inl g3_34))] := hD
            refine lv_iinc (v := 2) (lv' := [(9, .int 2), (8, .int 1), (7, .int 1), (6, .int 0), (0, .ref h0), (1, .int p0), (2, .int p1), (3, .int p2), (4, .int p3), (5, .int p4)]) hx hb dX12_report_243 hl (k := 0) rfl (by decide) (by decide) rfl (fun ls hl => ?_)
            refine lv_goto (tgt := 207) hx hb dX12_report_246 (by decide) ?_
            refine lv_iload hx hb dX12_report_207 (lv_at hl 0 rfl) ?_
            refine lv_iconst (v := 3) hx hb dX12_report_209 (by decide) ?_
            refine lv_icmp_ge (tgt := 249) hx hb dX12_report_210 (by decide) (fun h => absurd h (by decide)) (fun _ => ?_)
            refine lv_aload_n hx hb dX12_report_213 rfl (lv_at hl 4 rfl) ?_
            refine gt_X12 hx hb hts hown hK hP 1 rfl 43 (by decide) wd_1444 rfl (gs_ne (by decide) (gs_ne (by decide) (gs_ne (by decide) (gs_ne (by decide) (gs_ne (by decide) (gs_ne (by decide) (gs_ne (by decide) (gs_ne (by decide) (gs_ne (by decide) (gs_ne (by decide) hf_fs0_43)))))))))) dX12_report_214 ?_
            refine lv_iconst (v := 3) hx hb dX12_report_217 (by decide) ?_
            refine lv_iload hx hb dX12_report_218 (lv_at hl 1 rfl) ?_
            refine lv_imul hx hb dX12_report_220 ?_
            refine tov (v := 3) (by decide) ?_
            refine lv_iload hx hb dX12_report_221 (lv_at hl 0 rfl) ?_
            refine lv_iadd hx hb dX12_report_223 ?_
            refine tov (v := 5) (by decide) ?_
            refine lv_iload hx hb dX12_report_224 (lv_at hl 0 rfl) ?_
            refine lv_iload hx hb dX12_report_226 (lv_at hl 3 rfl) ?_
            refine lv_icmp_ge (tgt := 241) hx hb dX12_report_228 (by decide) (fun _ => ?_) (fun h => (h (by decide)).elim)
            refine lv_lconst (v := 0) hx hb dX12_report_241 (by decide) ?_
            refine va_last hx hb hK hP hD hS 0 1 rfl rfl (vp_in_c (by decide)) dX12_report_242 (fun H locs hP hD hS => ?_)
            obtain ⟨f_38, ef_38⟩ : ∃ z, z = vp_updL f_37 (5 : Int32).toNatClampNeg 0 := ⟨_, rfl⟩
            rw [← ef_38] at hP hD
            have hP : va_P D vwCl [(q4, .inl (cJ, 603, .inr (.inl f_38))), (h0, .inr (12, ((((((((((fs0.set 2 (.int 0)).set 1 (.int 0)).set 5 (.int 0)).set 8 (.int 0)).set 9 (.int (-1))).set 4 (.int 0)).set 5 (.int 0)).set 3 (.int 0)).set 38 (.int 1)).set 37 (.int 1)))), (q1, .inl (cI, 201, .inl g1_32)), (q2, .inl (cI, 1005, .inl g2_33)), (q3, .inl (cI, 201, .inl g3_34))] H := hP
            have hD : va_D A [(q4, .inl (cJ, 603, .inr (.inl f_38))), (h0, .inr (12, ((((((((((fs0.set 2 (.int 0)).set 1 (.int 0)).set 5 (.int 0)).set 8 (.int 0)).set 9 (.int (-1))).set 4 (.int 0)).set 5 (.int 0)).set 3 (.int 0)).set 38 (.int 1)).set 37 (.int 1)))), (q1, .inl (cI, 201, .inl g1_32)), (q2, .inl (cI, 1005, .inl g2_33)), (q3, .inl (cI, 201, .inl g3_34))] := hD
            refine lv_iinc (v := 3) (lv' := [(9, .int 3), (8, .int 1), (7, .int 1), (6, .int 0), (0, .ref h0), (1, .int p0), (2, .int p1), (3, .int p2), (4, .int p3), (5, .int p4)]) hx hb dX12_report_243 hl (k := 0) rfl (by decide) (by decide) rfl (fun ls hl => ?_)
            refine lv_goto (tgt := 207) hx hb dX12_report_246 (by decide) ?_
            refine lv_iload hx hb dX12_report_207 (lv_at hl 0 rfl) ?_
            refine lv_iconst (v := 3) hx hb dX12_report_209 (by decide) ?_
            refine lv_icmp_ge (tgt := 249) hx hb dX12_report_210 (by decide) (fun _ => ?_) (fun h => (h (by decide)).elim)
            refine lv_iload hx hb dX12_report_249 (lv_at hl 1 rfl) ?_
            exact fin_i hx hb hr hlk hK hP hD hS dX12_report_251 ((by unfold sp_rep; rw [if_neg (fun q => q.elim c_8 (fun q => q.elim c_13 (fun q => q.elim c_18 (fun q => q.elim c_23 c_28))))]))
set_option maxRecDepth 100000 in
set_option maxHeartbeats 4000000 in
theorem c_X12_now (l : Launch) (D : va_G) (cI cJ cZ : ClassId) (h0 : Nat) (fs0 : List Value) (hl_fs0 : fs0.length = 94) (hf_fs0_39 : fs0[39]? = some (.int (-1))) (hf_fs0_37 : fs0[37]? = some (.int 0)) : Con_i l yX12_now cX12_now 1 (some .int) ({ frames := 0, cells := 0, slots := 0, locals := 0 }) D cI cJ cZ eT [.ref h0] [(h0, .inr (12, fs0))] (fun (r : Int32) (w : va_W) => w = [(h0, .inr (12, fs0))] ∧ r = 0) := by
  refine ent_i (by decide) (Nat.le_of_ble_eq_true rfl) ?_
  intro p e s m below meth c A hx hb hml hown hts hr hlk hnm hK hE hA hP hD hS ls hl
  have hown : s.vm.findClass RX12 = some m.cls := hown
  have hl : lv_has ls 1 [(0, .ref h0)] := hl
  refine lv_aload_n hx hb dX12_now_0 rfl (lv_at hl 0 rfl) ?_
  refine gt_X12 hx hb hts hown hK hP 0 rfl 39 (by decide) wd_1440 rfl hf_fs0_39 dX12_now_1 ?_
  refine lv_iconst (v := (-1)) hx hb dX12_now_4 (by decide) ?_
  refine lv_icmp_ne (tgt := 15) hx hb dX12_now_5 (by decide) (fun h => (h (by decide)).elim) (fun _ => ?_)
  refine lv_aload_n hx hb dX12_now_8 rfl (lv_at hl 0 rfl) ?_
  refine gt_X12 hx hb hts hown hK hP 0 rfl 37 (by decide) wd_1438 rfl hf_fs0_37 dX12_now_9 ?_
  refine lv_goto (tgt := 19) hx hb dX12_now_12 (by decide) ?_
  exact fin_i hx hb hr hlk hK hP hD hS dX12_now_19 (⟨rfl, rfl⟩)
set_option maxRecDepth 100000 in
set_option maxHeartbeats 4000000 in
theorem c_X12_knows (l : Launch) (D : va_G) (cI cJ cZ : ClassId) (h0 : Nat) (fs0 : List Value) (hl_fs0 : fs0.length = 94) (hf_fs0_37 : fs0[37]? = some (.int 0)) : Con_v l yX12_knows cX12_knows 4 none ({ frames := 0, cells := 0, slots := 0, locals := 0 }) D cI cJ cZ eT [.ref h0] [(h0, .inr (12, fs0))] (fun w => w = [(h0, .inr (12, (fs0.set 45 (.int 0))))]) := by
  refine ent_v (by decide) (Nat.le_of_ble_eq_true rfl) ?_
  intro p e s m below meth c A hx hb hml hown hts hr hlk hnm hK hE hA hP hD hS ls hl
  have hown : s.vm.findClass RX12 = some m.cls := hown
  have hl : lv_has ls 4 [(0, .ref h0)] := hl
  refine lv_aload_n hx hb dX12_knows_0 rfl (lv_at hl 0 rfl) ?_
  refine lv_iconst (v := 0) hx hb dX12_knows_1 (by decide) ?_
  refine pt_X12 hx hb hts hown hK hP hD hS 0 rfl 45 (by decide) wd_1446 rfl rfl (ty := .int) (v := .int 0) (by decide +kernel) rfl rfl (ln_lt hl_fs0 (by decide)) dX12_knows_2 (fun H locs hP hD hS => ?_)
  have hP : va_P D vwCl [(h0, .inr (12, (fs0.set 45 (.int 0))))] H := hP
  have hD : va_D A [(h0, .inr (12, (fs0.set 45 (.int 0))))] := hD
  refine lv_iconst (v := 1) hx hb dX12_knows_5 (by decide) ?_
  refine lv_istore_n (lv' := [(1, .int 1), (0, .ref h0)]) hx hb dX12_knows_6 rfl hl (by decide) rfl (fun ls hl => ?_)
  refine lv_iload_n hx hb dX12_knows_7 rfl (lv_at hl 0 rfl) ?_
  refine lv_aload_n hx hb dX12_knows_8 rfl (lv_at hl 1 rfl) ?_
  refine gt_X12 hx hb hts hown hK hP 0 rfl 37 (by decide) wd_1438 rfl (gs_ne (by decide) hf_fs0_37) dX12_knows_9 ?_
  refine lv_icmp_gt (tgt := 203) hx hb dX12_knows_12 (by decide) (fun _ => ?_) (fun h => (h (by decide)).elim)
  exact fin_v hx hb hr hlk hK hP hD hS dX12_knows_203 (rfl)
set_option maxRecDepth 100000 in
set_option maxHeartbeats 4000000 in
theorem c_X12_isChild (l : Launch) (D : va_G) (cI cJ cZ : ClassId) (h0 : Nat) (fs0 : List Value) (p0 : Int32) (hl_fs0 : fs0.length = 94) (hf_fs0_45 : fs0[45]? = some (.int 0)) : Con_i l yX12_isChild cX12_isChild 2 (some .boolean) ({ frames := 0, cells := 0, slots := 0, locals := 0 }) D cI cJ cZ eT [.ref h0, .int p0] [(h0, .inr (12, fs0))] (fun (r : Int32) (w : va_W) => w = [(h0, .inr (12, fs0))] ∧ r = 0) := by
  refine ent_i (by decide) (Nat.le_of_ble_eq_true rfl) ?_
  intro p e s m below meth c A hx hb hml hown hts hr hlk hnm hK hE hA hP hD hS ls hl
  have hown : s.vm.findClass RX12 = some m.cls := hown
  have hl : lv_has ls 2 [(0, .ref h0), (1, .int p0)] := hl
  refine lv_iload_n hx hb dX12_isChild_0 rfl (lv_at hl 1 rfl) ?_
  refine lv_if_lt (tgt := 16) hx hb dX12_isChild_1 (by decide) (fun c_1 => ?_) (fun c_1 => ?_)
  · refine lv_iconst (v := 0) hx hb dX12_isChild_16 (by decide) ?_
    exact fin_z hx hb hr hlk hK hP hD hS dX12_isChild_17 rfl (⟨rfl, rfl⟩)
  · refine lv_iload_n hx hb dX12_isChild_4 rfl (lv_at hl 1 rfl) ?_
    refine lv_aload_n hx hb dX12_isChild_5 rfl (lv_at hl 0 rfl) ?_
    refine gt_X12 hx hb hts hown hK hP 0 rfl 45 (by decide) wd_1446 rfl hf_fs0_45 dX12_isChild_6 ?_
    refine lv_icmp_ge (tgt := 16) hx hb dX12_isChild_9 (by decide) (fun _ => ?_) (fun h => (h ((by have k0 := c_1; rw [q_lt] at k0; have z0 : (0 : Int32).toInt = 0 := (by decide); rw [q_le]; omega))).elim)
    refine lv_iconst (v := 0) hx hb dX12_isChild_16 (by decide) ?_
    exact fin_z hx hb hr hlk hK hP hD hS dX12_isChild_17 rfl (⟨rfl, rfl⟩)
set_option maxRecDepth 100000 in
set_option maxHeartbeats 4000000 in
theorem c_X12_child (l : Launch) (D : va_G) (cI cJ cZ : ClassId) (h0 : Nat) (fs0 : List Value) (p0 : Int32) (hl_fs0 : fs0.length = 94) (hf_fs0_37 : fs0[37]? = some (.int 0)) : Con_i l yX12_child cX12_child 2 (some .int) ({ frames := 0, cells := 0, slots := 0, locals := 0 }) D cI cJ cZ eT [.ref h0, .int p0] [(h0, .inr (12, fs0))] (fun r _ => r = (-1)) := by
  refine ent_i (by decide) (Nat.le_of_ble_eq_true rfl) ?_
  intro p e s m below meth c A hx hb hml hown hts hr hlk hnm hK hE hA hP hD hS ls hl
  have hown : s.vm.findClass RX12 = some m.cls := hown
  have hl : lv_has ls 2 [(0, .ref h0), (1, .int p0)] := hl
  refine lv_iload_n hx hb dX12_child_0 rfl (lv_at hl 1 rfl) ?_
  refine lv_iconst (v := 1) hx hb dX12_child_1 (by decide) ?_
  refine lv_icmp_lt (tgt := 13) hx hb dX12_child_2 (by decide) (fun c_1 => ?_) (fun c_1 => ?_)
  · refine lv_iconst (v := (-1)) hx hb dX12_child_13 (by decide) ?_
    exact fin_i hx hb hr hlk hK hP hD hS dX12_child_14 (rfl)
  · refine lv_iload_n hx hb dX12_child_5 rfl (lv_at hl 1 rfl) ?_
    refine lv_aload_n hx hb dX12_child_6 rfl (lv_at hl 0 rfl) ?_
    refine gt_X12 hx hb hts hown hK hP 0 rfl 37 (by decide) wd_1438 rfl hf_fs0_37 dX12_child_7 ?_
    refine lv_icmp_le (tgt := 15) hx hb dX12_child_10 (by decide) (fun h => absurd h ((by have k0 := c_1; rw [q_lt] at k0; have z0 : (0 : Int32).toInt = 0 := (by decide); have z1 : (1 : Int32).toInt = 1 := (by decide); rw [q_le]; omega))) (fun _ => ?_)
    refine lv_iconst (v := (-1)) hx hb dX12_child_13 (by decide) ?_
    exact fin_i hx hb hr hlk hK hP hD hS dX12_child_14 (rfl)
set_option maxRecDepth 100000 in
set_option maxHeartbeats 4000000 in
theorem c_X12_doubt (l : Launch) (D : va_G) (cI cJ cZ : ClassId) (h0 : Nat) (fs0 : List Value) (hl_fs0 : fs0.length = 94) (hf_fs0_37 : fs0[37]? = some (.int 0)) : Con_i l yX12_doubt cX12_doubt 4 (some .int) ({ frames := 1, cells := 0, slots := 0, locals := 23 }) D cI cJ cZ eT [.ref h0] [(h0, .inr (12, fs0))] (fun (r : Int32) (w : va_W) => w = [(h0, .inr (12, (fs0.set 45 (.int 0))))] ∧ r = 0) := by
  refine ent_i (by decide) (Nat.le_of_ble_eq_true rfl) ?_
  intro p e s m below meth c A hx hb hml hown hts hr hlk hnm hK hE hA hP hD hS ls hl
  have hown : s.vm.findClass RX12 = some m.cls := hown
  have hl : lv_has ls 4 [(0, .ref h0)] := hl
  refine lv_aload_n hx hb dX12_doubt_0 rfl (lv_at hl 0 rfl) ?_
  refine cl_v (wr := []) (rn_V (As := []) (rest := []) hx hb hml hown hts (c_X12_knows l D cI cJ cZ h0 fs0 hl_fs0 hf_fs0_37 _) ⟨rfl, rfl⟩ sv_X12_471 ⟨(Nat.le_of_ble_eq_true rfl), (Nat.le_of_ble_eq_true rfl)⟩ ⟨(Nat.le_of_ble_eq_true rfl), (Nat.le_of_ble_eq_true rfl)⟩ (fun _ _ _ _ h => h) (fun _ _ _ => trivial) hK hP hD [0] rfl rfl 0 12 rfl rfl rfl rfl hl.1 rfl (Nat.le_of_ble_eq_true rfl) dX12_doubt_1) hP hD hS hA [0] [] rfl rfl rfl (by decide) (fun w_2 H locs hw_1 hP hD hS => ?_)
  subst hw_1
  have hP : va_P D vwCl [(h0, .inr (12, (fs0.set 45 (.int 0))))] H := hP
  have hD : va_D A [(h0, .inr (12, (fs0.set 45 (.int 0))))] := hD
  refine lv_iconst (v := 0) hx hb dX12_doubt_4 (by decide) ?_
  refine lv_istore_n (lv' := [(1, .int 0), (0, .ref h0)]) hx hb dX12_doubt_5 rfl hl (by decide) rfl (fun ls hl => ?_)
  refine lv_iconst (v := 0) hx hb dX12_doubt_6 (by decide) ?_
  refine lv_istore_n (lv' := [(2, .int 0), (1, .int 0), (0, .ref h0)]) hx hb dX12_doubt_7 rfl hl (by decide) rfl (fun ls hl => ?_)
  refine lv_iload_n hx hb dX12_doubt_8 rfl (lv_at hl 0 rfl) ?_
  refine lv_aload_n hx hb dX12_doubt_9 rfl (lv_at hl 2 rfl) ?_
  refine gt_X12 hx hb hts hown hK hP 0 rfl 45 (by decide) wd_1446 rfl (gs_eq (ln_lt hl_fs0 (by decide))) dX12_doubt_10 ?_
  refine lv_icmp_ge (tgt := 115) hx hb dX12_doubt_13 (by decide) (fun _ => ?_) (fun h => (h (by decide)).elim)
  refine lv_iload_n hx hb dX12_doubt_115 rfl (lv_at hl 1 rfl) ?_
  exact fin_i hx hb hr hlk hK hP hD hS dX12_doubt_116 (⟨rfl, rfl⟩)
set_option maxRecDepth 100000 in
set_option maxHeartbeats 4000000 in
theorem c_X12_all (l : Launch) (D : va_G) (cI cJ cZ : ClassId) (h0 q1 q2 q3 q4 : Nat) (fs0 : List Value) (f1 : Nat → Int32) (f2 : Nat → Int32) (f3 : Nat → Int32) (f4 : Nat → Int32) (p0 : Int32) (hl_fs0 : fs0.length = 94) (hf_fs0_12 : fs0[12]? = some (.int 0)) (hf_fs0_37 : fs0[37]? = some (.int 0)) (hf_fs0_39 : fs0[39]? = some (.int (-1))) (hf_fs0_14 : fs0[14]? = some (.ref q1)) (hf_fs0_15 : fs0[15]? = some (.ref q2)) (hf_fs0_16 : fs0[16]? = some (.ref q3)) (hf_fs0_17 : fs0[17]? = some (.ref q4)) (ha_f1 : ∀ k, f1 k = 0) (ha_f2 : ∀ k, f2 k = 0) (ha_f3 : ∀ k, f3 k = 0) (hev : f4 (0 : Int32).toNatClampNeg = 1000) : Con_i l yX12_all cX12_all 2 (some .int) ({ frames := 2, cells := 0, slots := 0, locals := 46 }) D cI cJ cZ eT [.ref h0, .int p0] [(h0, .inr (12, fs0)), (q1, .inl (cI, 2, .inl f1)), (q2, .inl (cI, 2, .inl f2)), (q3, .inl (cI, 2, .inl f3)), (q4, .inl (cI, 2, .inl f4))] (fun r _ => r = (sp_all p0)) := by
  refine ent_i (by decide) (Nat.le_of_ble_eq_true rfl) ?_
  intro p e s m below meth c A hx hb hml hown hts hr hlk hnm hK hE hA hP hD hS ls hl
  have hown : s.vm.findClass RX12 = some m.cls := hown
  have hl : lv_has ls 2 [(0, .ref h0), (1, .int p0)] := hl
  refine lv_iload_n hx hb dX12_all_0 rfl (lv_at hl 1 rfl) ?_
  by_cases c_1 : p0 = 0
  · have c_1t : (p0 : Int32).toInt = 0 := by rw [c_1]; rfl
    refine lv_tableIn (tgt := 48) hx hb dX12_all_1 (by rw [c_1t]; decide) (by rw [c_1t]; decide) (off := 47) (by rw [c_1t]; rfl) (by decide) ?_
    refine lv_aload_n hx hb dX12_all_48 rfl (lv_at hl 0 rfl) ?_
    refine gt_X12 hx hb hts hown hK hP 0 rfl 14 (by decide) wd_1415 rfl hf_fs0_14 dX12_all_49 ?_
    refine lv_aload_n hx hb dX12_all_52 rfl (lv_at hl 0 rfl) ?_
    refine gt_X12 hx hb hts hown hK hP 0 rfl 12 (by decide) wd_1413 rfl hf_fs0_12 dX12_all_53 ?_
    refine va_iald hx hb hK hP 1 0 rfl rfl (vp_in_c (by decide)) dX12_all_56 ?_
    refine tov (v := 0) (ha_f1 _) ?_
    exact fin_i hx hb hr hlk hK hP hD hS dX12_all_57 (all_in c_1 (by decide))
  by_cases c_2 : p0 = 1
  · have c_2t : (p0 : Int32).toInt = 1 := by rw [c_2]; rfl
    refine lv_tableIn (tgt := 58) hx hb dX12_all_1 (by rw [c_2t]; decide) (by rw [c_2t]; decide) (off := 57) (by rw [c_2t]; rfl) (by decide) ?_
    refine lv_aload_n hx hb dX12_all_58 rfl (lv_at hl 0 rfl) ?_
    refine gt_X12 hx hb hts hown hK hP 0 rfl 15 (by decide) wd_1416 rfl hf_fs0_15 dX12_all_59 ?_
    refine lv_aload_n hx hb dX12_all_62 rfl (lv_at hl 0 rfl) ?_
    refine gt_X12 hx hb hts hown hK hP 0 rfl 12 (by decide) wd_1413 rfl hf_fs0_12 dX12_all_63 ?_
    refine va_iald hx hb hK hP 2 0 rfl rfl (vp_in_c (by decide)) dX12_all_66 ?_
    refine tov (v := 0) (ha_f2 _) ?_
    exact fin_i hx hb hr hlk hK hP hD hS dX12_all_67 (all_in c_2 (by decide))
  by_cases c_3 : p0 = 2
  · have c_3t : (p0 : Int32).toInt = 2 := by rw [c_3]; rfl
    refine lv_tableIn (tgt := 68) hx hb dX12_all_1 (by rw [c_3t]; decide) (by rw [c_3t]; decide) (off := 67) (by rw [c_3t]; rfl) (by decide) ?_
    refine lv_aload_n hx hb dX12_all_68 rfl (lv_at hl 0 rfl) ?_
    refine gt_X12 hx hb hts hown hK hP 0 rfl 16 (by decide) wd_1417 rfl hf_fs0_16 dX12_all_69 ?_
    refine lv_aload_n hx hb dX12_all_72 rfl (lv_at hl 0 rfl) ?_
    refine gt_X12 hx hb hts hown hK hP 0 rfl 12 (by decide) wd_1413 rfl hf_fs0_12 dX12_all_73 ?_
    refine va_iald hx hb hK hP 3 0 rfl rfl (vp_in_c (by decide)) dX12_all_76 ?_
    refine tov (v := 0) (ha_f3 _) ?_
    exact fin_i hx hb hr hlk hK hP hD hS dX12_all_77 (all_in c_3 (by decide))
  by_cases c_4 : p0 = 3
  · have c_4t : (p0 : Int32).toInt = 3 := by rw [c_4]; rfl
    refine lv_tableIn (tgt := 78) hx hb dX12_all_1 (by rw [c_4t]; decide) (by rw [c_4t]; decide) (off := 77) (by rw [c_4t]; rfl) (by decide) ?_
    refine lv_aload_n hx hb dX12_all_78 rfl (lv_at hl 0 rfl) ?_
    refine gt_X12 hx hb hts hown hK hP 0 rfl 37 (by decide) wd_1438 rfl hf_fs0_37 dX12_all_79 ?_
    exact fin_i hx hb hr hlk hK hP hD hS dX12_all_82 (all_in c_4 (by decide))
  by_cases c_5 : p0 = 4
  · have c_5t : (p0 : Int32).toInt = 4 := by rw [c_5]; rfl
    refine lv_tableIn (tgt := 83) hx hb dX12_all_1 (by rw [c_5t]; decide) (by rw [c_5t]; decide) (off := 82) (by rw [c_5t]; rfl) (by decide) ?_
    refine lv_aload_n hx hb dX12_all_83 rfl (lv_at hl 0 rfl) ?_
    refine cl_i (wr := [(q1, .inl (cI, 2, .inl f1)), (q2, .inl (cI, 2, .inl f2)), (q3, .inl (cI, 2, .inl f3)), (q4, .inl (cI, 2, .inl f4))]) (rn_V (As := []) (rest := []) hx hb hml hown hts (c_X12_now l D cI cJ cZ h0 fs0 hl_fs0 hf_fs0_39 hf_fs0_37 _) ⟨rfl, rfl⟩ sv_X12_457 ⟨(Nat.le_of_ble_eq_true rfl), (Nat.le_of_ble_eq_true rfl)⟩ ⟨(Nat.le_of_ble_eq_true rfl), (Nat.le_of_ble_eq_true rfl)⟩ (fun _ _ _ _ h => h) (fun _ _ _ => trivial) hK hP hD [0] rfl rfl 0 12 rfl rfl rfl rfl hl.1 rfl (Nat.le_of_ble_eq_true rfl) dX12_all_84) hP hD hS hA [0] [1, 2, 3, 4] rfl rfl rfl (by decide) (fun r_8 w_7 H locs hw_6 hP hD hS => ?_)
    obtain ⟨rfl, hr_9⟩ := hw_6
    have hP : va_P D vwCl [(q1, .inl (cI, 2, .inl f1)), (q2, .inl (cI, 2, .inl f2)), (q3, .inl (cI, 2, .inl f3)), (q4, .inl (cI, 2, .inl f4)), (h0, .inr (12, fs0))] H := hP
    have hD : va_D A [(q1, .inl (cI, 2, .inl f1)), (q2, .inl (cI, 2, .inl f2)), (q3, .inl (cI, 2, .inl f3)), (q4, .inl (cI, 2, .inl f4)), (h0, .inr (12, fs0))] := hD
    refine tov (v := 0) hr_9 ?_
    exact fin_i hx hb hr hlk hK hP hD hS dX12_all_87 (all_in c_5 (by decide))
  by_cases c_10 : p0 = 5
  · have c_10t : (p0 : Int32).toInt = 5 := by rw [c_10]; rfl
    refine lv_tableIn (tgt := 88) hx hb dX12_all_1 (by rw [c_10t]; decide) (by rw [c_10t]; decide) (off := 87) (by rw [c_10t]; rfl) (by decide) ?_
    refine lv_aload_n hx hb dX12_all_88 rfl (lv_at hl 0 rfl) ?_
    refine cl_v (wr := [(q1, .inl (cI, 2, .inl f1)), (q2, .inl (cI, 2, .inl f2)), (q3, .inl (cI, 2, .inl f3)), (q4, .inl (cI, 2, .inl f4))]) (rn_V (As := []) (rest := []) hx hb hml hown hts (c_X12_knows l D cI cJ cZ h0 fs0 hl_fs0 hf_fs0_37 _) ⟨rfl, rfl⟩ sv_X12_471 ⟨(Nat.le_of_ble_eq_true rfl), (Nat.le_of_ble_eq_true rfl)⟩ ⟨(Nat.le_of_ble_eq_true rfl), (Nat.le_of_ble_eq_true rfl)⟩ (fun _ _ _ _ h => h) (fun _ _ _ => trivial) hK hP hD [0] rfl rfl 0 12 rfl rfl rfl rfl hl.1 rfl (Nat.le_of_ble_eq_true rfl) dX12_all_89) hP hD hS hA [0] [1, 2, 3, 4] rfl rfl rfl (by decide) (fun w_12 H locs hw_11 hP hD hS => ?_)
    subst hw_11
    have hP : va_P D vwCl [(q1, .inl (cI, 2, .inl f1)), (q2, .inl (cI, 2, .inl f2)), (q3, .inl (cI, 2, .inl f3)), (q4, .inl (cI, 2, .inl f4)), (h0, .inr (12, (fs0.set 45 (.int 0))))] H := hP
    have hD : va_D A [(q1, .inl (cI, 2, .inl f1)), (q2, .inl (cI, 2, .inl f2)), (q3, .inl (cI, 2, .inl f3)), (q4, .inl (cI, 2, .inl f4)), (h0, .inr (12, (fs0.set 45 (.int 0))))] := hD
    refine lv_aload_n hx hb dX12_all_92 rfl (lv_at hl 0 rfl) ?_
    refine gt_X12 hx hb hts hown hK hP 4 rfl 45 (by decide) wd_1446 rfl (gs_eq (ln_lt hl_fs0 (by decide))) dX12_all_93 ?_
    exact fin_i hx hb hr hlk hK hP hD hS dX12_all_96 (all_in c_10 (by decide))
  by_cases c_14 : p0 = 6
  · have c_14t : (p0 : Int32).toInt = 6 := by rw [c_14]; rfl
    refine lv_tableIn (tgt := 97) hx hb dX12_all_1 (by rw [c_14t]; decide) (by rw [c_14t]; decide) (off := 96) (by rw [c_14t]; rfl) (by decide) ?_
    refine lv_aload_n hx hb dX12_all_97 rfl (lv_at hl 0 rfl) ?_
    refine cl_i (wr := [(q1, .inl (cI, 2, .inl f1)), (q2, .inl (cI, 2, .inl f2)), (q3, .inl (cI, 2, .inl f3)), (q4, .inl (cI, 2, .inl f4))]) (rn_V (As := []) (rest := []) hx hb hml hown hts (c_X12_doubt l D cI cJ cZ h0 fs0 hl_fs0 hf_fs0_37 _) ⟨rfl, rfl⟩ sv_X12_509 ⟨(Nat.le_of_ble_eq_true rfl), (Nat.le_of_ble_eq_true rfl)⟩ ⟨(Nat.le_of_ble_eq_true rfl), (Nat.le_of_ble_eq_true rfl)⟩ (fun _ _ _ _ h => h) (fun _ _ _ => trivial) hK hP hD [0] rfl rfl 0 12 rfl rfl rfl rfl hl.1 rfl (Nat.le_of_ble_eq_true rfl) dX12_all_98) hP hD hS hA [0] [1, 2, 3, 4] rfl rfl rfl (by decide) (fun r_17 w_16 H locs hw_15 hP hD hS => ?_)
    obtain ⟨rfl, hr_18⟩ := hw_15
    have hP : va_P D vwCl [(q1, .inl (cI, 2, .inl f1)), (q2, .inl (cI, 2, .inl f2)), (q3, .inl (cI, 2, .inl f3)), (q4, .inl (cI, 2, .inl f4)), (h0, .inr (12, (fs0.set 45 (.int 0))))] H := hP
    have hD : va_D A [(q1, .inl (cI, 2, .inl f1)), (q2, .inl (cI, 2, .inl f2)), (q3, .inl (cI, 2, .inl f3)), (q4, .inl (cI, 2, .inl f4)), (h0, .inr (12, (fs0.set 45 (.int 0))))] := hD
    refine tov (v := 0) hr_18 ?_
    exact fin_i hx hb hr hlk hK hP hD hS dX12_all_101 (all_in c_14 (by decide))
  by_cases c_19 : p0 = 7
  · have c_19t : (p0 : Int32).toInt = 7 := by rw [c_19]; rfl
    refine lv_tableIn (tgt := 102) hx hb dX12_all_1 (by rw [c_19t]; decide) (by rw [c_19t]; decide) (off := 101) (by rw [c_19t]; rfl) (by decide) ?_
    refine lv_aload_n hx hb dX12_all_102 rfl (lv_at hl 0 rfl) ?_
    refine gt_X12 hx hb hts hown hK hP 0 rfl 17 (by decide) wd_1418 rfl hf_fs0_17 dX12_all_103 ?_
    refine lv_aload_n hx hb dX12_all_106 rfl (lv_at hl 0 rfl) ?_
    refine gt_X12 hx hb hts hown hK hP 0 rfl 12 (by decide) wd_1413 rfl hf_fs0_12 dX12_all_107 ?_
    refine va_iald hx hb hK hP 4 0 rfl rfl (vp_in_c (by decide)) dX12_all_110 ?_
    refine tov (v := 1000) (hev) ?_
    exact fin_i hx hb hr hlk hK hP hD hS dX12_all_111 (all_7 c_19)
  refine lv_tableOut (tgt := 112) hx hb dX12_all_1 (tb_out c_1 c_2 c_3 c_4 c_5 c_10 c_14 c_19) (by decide) ?_
  refine lv_iconst (v := (-1)) hx hb dX12_all_112 (by decide) ?_
  exact fin_i hx hb hr hlk hK hP hD hS dX12_all_113 (all_no c_1 c_2 c_3 c_4 c_5 c_10 c_14 c_19)
set_option maxRecDepth 100000 in
set_option maxHeartbeats 4000000 in
theorem c_X12_of (l : Launch) (D : va_G) (cI cJ cZ : ClassId) (h0 : Nat) (fs0 : List Value) (p0 : Int32) (p1 : Int32) (hl_fs0 : fs0.length = 94) (hf_fs0_37 : fs0[37]? = some (.int 0)) : Con_i l yX12_of cX12_of 3 (some .int) ({ frames := 1, cells := 0, slots := 0, locals := 23 }) D cI cJ cZ eT [.ref h0, .int p0, .int p1] [(h0, .inr (12, fs0))] (fun r _ => r = (-1)) := by
  refine ent_i (by decide) (Nat.le_of_ble_eq_true rfl) ?_
  intro p e s m below meth c A hx hb hml hown hts hr hlk hnm hK hE hA hP hD hS ls hl
  have hown : s.vm.findClass RX12 = some m.cls := hown
  have hl : lv_has ls 3 [(0, .ref h0), (1, .int p0), (2, .int p1)] := hl
  refine lv_aload_n hx hb dX12_of_0 rfl (lv_at hl 0 rfl) ?_
  refine cl_v (wr := []) (rn_V (As := []) (rest := []) hx hb hml hown hts (c_X12_knows l D cI cJ cZ h0 fs0 hl_fs0 hf_fs0_37 _) ⟨rfl, rfl⟩ sv_X12_471 ⟨(Nat.le_of_ble_eq_true rfl), (Nat.le_of_ble_eq_true rfl)⟩ ⟨(Nat.le_of_ble_eq_true rfl), (Nat.le_of_ble_eq_true rfl)⟩ (fun _ _ _ _ h => h) (fun _ _ _ => trivial) hK hP hD [0] rfl rfl 0 12 rfl rfl rfl rfl hl.1 rfl (Nat.le_of_ble_eq_true rfl) dX12_of_1) hP hD hS hA [0] [] rfl rfl rfl (by decide) (fun w_2 H locs hw_1 hP hD hS => ?_)
  subst hw_1
  have hP : va_P D vwCl [(h0, .inr (12, (fs0.set 45 (.int 0))))] H := hP
  have hD : va_D A [(h0, .inr (12, (fs0.set 45 (.int 0))))] := hD
  refine lv_aload_n hx hb dX12_of_4 rfl (lv_at hl 0 rfl) ?_
  refine lv_iload_n hx hb dX12_of_5 rfl (lv_at hl 1 rfl) ?_
  refine cl_i (wr := []) (rn_V (As := [.int p0]) (rest := []) hx hb hml hown hts (c_X12_isChild l D cI cJ cZ h0 (fs0.set 45 (.int 0)) p0 (ln_set hl_fs0) (gs_eq (ln_lt hl_fs0 (by decide))) _) ⟨rfl, rfl⟩ sv_X12_512 ⟨(Nat.le_of_ble_eq_true rfl), (Nat.le_of_ble_eq_true rfl)⟩ ⟨(Nat.le_of_ble_eq_true rfl), (Nat.le_of_ble_eq_true rfl)⟩ (fun _ _ _ _ h => h) (fun _ _ _ => trivial) hK hP hD [0] rfl rfl 0 12 rfl rfl rfl rfl hl.1 rfl (Nat.le_of_ble_eq_true rfl) dX12_of_6) hP hD hS hA [0] [] rfl rfl rfl (by decide) (fun r_6 w_5 H locs hw_4 hP hD hS => ?_)
  obtain ⟨rfl, hr_7⟩ := hw_4
  have hP : va_P D vwCl [(h0, .inr (12, (fs0.set 45 (.int 0))))] H := hP
  have hD : va_D A [(h0, .inr (12, (fs0.set 45 (.int 0))))] := hD
  refine tov (v := 0) hr_7 ?_
  refine lv_if_ne (tgt := 14) hx hb dX12_of_9 (by decide) (fun h => (h (by decide)).elim) (fun _ => ?_)
  refine lv_iconst (v := (-1)) hx hb dX12_of_12 (by decide) ?_
  exact fin_i hx hb hr hlk hK hP hD hS dX12_of_13 (rfl)
set_option maxRecDepth 100000 in
set_option maxHeartbeats 4000000 in
theorem c_X12_wish (l : Launch) (D : va_G) (cI cJ cZ : ClassId) (h0 : Nat) (fs0 : List Value) (p0 : Int32) (p1 : Int32) (p2 : Int32) (hl_fs0 : fs0.length = 94) (hf_fs0_37 : fs0[37]? = some (.int 0)) : Con_i l yX12_wish cX12_wish 4 (some .int) ({ frames := 1, cells := 0, slots := 0, locals := 23 }) D cI cJ cZ eT [.ref h0, .int p0, .int p1, .int p2] [(h0, .inr (12, fs0))] (fun r _ => r = (-1)) := by
  refine ent_i (by decide) (Nat.le_of_ble_eq_true rfl) ?_
  intro p e s m below meth c A hx hb hml hown hts hr hlk hnm hK hE hA hP hD hS ls hl
  have hown : s.vm.findClass RX12 = some m.cls := hown
  have hl : lv_has ls 4 [(0, .ref h0), (1, .int p0), (2, .int p1), (3, .int p2)] := hl
  refine lv_aload_n hx hb dX12_wish_0 rfl (lv_at hl 0 rfl) ?_
  refine cl_v (wr := []) (rn_V (As := []) (rest := []) hx hb hml hown hts (c_X12_knows l D cI cJ cZ h0 fs0 hl_fs0 hf_fs0_37 _) ⟨rfl, rfl⟩ sv_X12_471 ⟨(Nat.le_of_ble_eq_true rfl), (Nat.le_of_ble_eq_true rfl)⟩ ⟨(Nat.le_of_ble_eq_true rfl), (Nat.le_of_ble_eq_true rfl)⟩ (fun _ _ _ _ h => h) (fun _ _ _ => trivial) hK hP hD [0] rfl rfl 0 12 rfl rfl rfl rfl hl.1 rfl (Nat.le_of_ble_eq_true rfl) dX12_wish_1) hP hD hS hA [0] [] rfl rfl rfl (by decide) (fun w_2 H locs hw_1 hP hD hS => ?_)
  subst hw_1
  have hP : va_P D vwCl [(h0, .inr (12, (fs0.set 45 (.int 0))))] H := hP
  have hD : va_D A [(h0, .inr (12, (fs0.set 45 (.int 0))))] := hD
  refine lv_aload_n hx hb dX12_wish_4 rfl (lv_at hl 0 rfl) ?_
  refine lv_iload_n hx hb dX12_wish_5 rfl (lv_at hl 1 rfl) ?_
  refine cl_i (wr := []) (rn_V (As := [.int p0]) (rest := []) hx hb hml hown hts (c_X12_isChild l D cI cJ cZ h0 (fs0.set 45 (.int 0)) p0 (ln_set hl_fs0) (gs_eq (ln_lt hl_fs0 (by decide))) _) ⟨rfl, rfl⟩ sv_X12_512 ⟨(Nat.le_of_ble_eq_true rfl), (Nat.le_of_ble_eq_true rfl)⟩ ⟨(Nat.le_of_ble_eq_true rfl), (Nat.le_of_ble_eq_true rfl)⟩ (fun _ _ _ _ h => h) (fun _ _ _ => trivial) hK hP hD [0] rfl rfl 0 12 rfl rfl rfl rfl hl.1 rfl (Nat.le_of_ble_eq_true rfl) dX12_wish_6) hP hD hS hA [0] [] rfl rfl rfl (by decide) (fun r_6 w_5 H locs hw_4 hP hD hS => ?_)
  obtain ⟨rfl, hr_7⟩ := hw_4
  have hP : va_P D vwCl [(h0, .inr (12, (fs0.set 45 (.int 0))))] H := hP
  have hD : va_D A [(h0, .inr (12, (fs0.set 45 (.int 0))))] := hD
  refine tov (v := 0) hr_7 ?_
  refine lv_if_eq (tgt := 26) hx hb dX12_wish_9 (by decide) (fun _ => ?_) (fun h => (h (by decide)).elim)
  refine lv_iconst (v := (-1)) hx hb dX12_wish_26 (by decide) ?_
  refine lv_goto (tgt := 44) hx hb dX12_wish_27 (by decide) ?_
  exact fin_i hx hb hr hlk hK hP hD hS dX12_wish_44 (rfl)
set_option maxRecDepth 100000 in
set_option maxHeartbeats 4000000 in
theorem c_X12_may (l : Launch) (D : va_G) (cI cJ cZ : ClassId) (h0 : Nat) (fs0 : List Value) (p0 : Int32) (p1 : Int32) (hl_fs0 : fs0.length = 94) (hf_fs0_37 : fs0[37]? = some (.int 0)) : Con_i l yX12_may cX12_may 3 (some .int) ({ frames := 1, cells := 0, slots := 0, locals := 23 }) D cI cJ cZ eT [.ref h0, .int p0, .int p1] [(h0, .inr (12, fs0))] (fun r _ => r = (-1)) := by
  refine ent_i (by decide) (Nat.le_of_ble_eq_true rfl) ?_
  intro p e s m below meth c A hx hb hml hown hts hr hlk hnm hK hE hA hP hD hS ls hl
  have hown : s.vm.findClass RX12 = some m.cls := hown
  have hl : lv_has ls 3 [(0, .ref h0), (1, .int p0), (2, .int p1)] := hl
  refine lv_aload_n hx hb dX12_may_0 rfl (lv_at hl 0 rfl) ?_
  refine cl_v (wr := []) (rn_V (As := []) (rest := []) hx hb hml hown hts (c_X12_knows l D cI cJ cZ h0 fs0 hl_fs0 hf_fs0_37 _) ⟨rfl, rfl⟩ sv_X12_471 ⟨(Nat.le_of_ble_eq_true rfl), (Nat.le_of_ble_eq_true rfl)⟩ ⟨(Nat.le_of_ble_eq_true rfl), (Nat.le_of_ble_eq_true rfl)⟩ (fun _ _ _ _ h => h) (fun _ _ _ => trivial) hK hP hD [0] rfl rfl 0 12 rfl rfl rfl rfl hl.1 rfl (Nat.le_of_ble_eq_true rfl) dX12_may_1) hP hD hS hA [0] [] rfl rfl rfl (by decide) (fun w_2 H locs hw_1 hP hD hS => ?_)
  subst hw_1
  have hP : va_P D vwCl [(h0, .inr (12, (fs0.set 45 (.int 0))))] H := hP
  have hD : va_D A [(h0, .inr (12, (fs0.set 45 (.int 0))))] := hD
  refine lv_aload_n hx hb dX12_may_4 rfl (lv_at hl 0 rfl) ?_
  refine lv_iload_n hx hb dX12_may_5 rfl (lv_at hl 1 rfl) ?_
  refine cl_i (wr := []) (rn_V (As := [.int p0]) (rest := []) hx hb hml hown hts (c_X12_isChild l D cI cJ cZ h0 (fs0.set 45 (.int 0)) p0 (ln_set hl_fs0) (gs_eq (ln_lt hl_fs0 (by decide))) _) ⟨rfl, rfl⟩ sv_X12_512 ⟨(Nat.le_of_ble_eq_true rfl), (Nat.le_of_ble_eq_true rfl)⟩ ⟨(Nat.le_of_ble_eq_true rfl), (Nat.le_of_ble_eq_true rfl)⟩ (fun _ _ _ _ h => h) (fun _ _ _ => trivial) hK hP hD [0] rfl rfl 0 12 rfl rfl rfl rfl hl.1 rfl (Nat.le_of_ble_eq_true rfl) dX12_may_6) hP hD hS hA [0] [] rfl rfl rfl (by decide) (fun r_6 w_5 H locs hw_4 hP hD hS => ?_)
  obtain ⟨rfl, hr_7⟩ := hw_4
  have hP : va_P D vwCl [(h0, .inr (12, (fs0.set 45 (.int 0))))] H := hP
  have hD : va_D A [(h0, .inr (12, (fs0.set 45 (.int 0))))] := hD
  refine tov (v := 0) hr_7 ?_
  refine lv_if_eq (tgt := 20) hx hb dX12_may_9 (by decide) (fun _ => ?_) (fun h => (h (by decide)).elim)
  refine lv_iconst (v := (-1)) hx hb dX12_may_20 (by decide) ?_
  refine lv_goto (tgt := 38) hx hb dX12_may_21 (by decide) ?_
  exact fin_i hx hb hr hlk hK hP hD hS dX12_may_38 (rfl)
set_option maxRecDepth 100000 in
set_option maxHeartbeats 4000000 in
theorem c_X12_points (l : Launch) (D : va_G) (cI cJ cZ : ClassId) (h0 : Nat) (fs0 : List Value) (p0 : Int32) (p1 : Int32) (hl_fs0 : fs0.length = 94) (hf_fs0_37 : fs0[37]? = some (.int 0)) : Con_i l yX12_points cX12_points 3 (some .int) ({ frames := 1, cells := 0, slots := 0, locals := 23 }) D cI cJ cZ eT [.ref h0, .int p0, .int p1] [(h0, .inr (12, fs0))] (fun r _ => r = (-2000000000)) := by
  refine ent_i (by decide) (Nat.le_of_ble_eq_true rfl) ?_
  intro p e s m below meth c A hx hb hml hown hts hr hlk hnm hK hE hA hP hD hS ls hl
  have hown : s.vm.findClass RX12 = some m.cls := hown
  have hl : lv_has ls 3 [(0, .ref h0), (1, .int p0), (2, .int p1)] := hl
  refine lv_aload_n hx hb dX12_points_0 rfl (lv_at hl 0 rfl) ?_
  refine cl_v (wr := []) (rn_V (As := []) (rest := []) hx hb hml hown hts (c_X12_knows l D cI cJ cZ h0 fs0 hl_fs0 hf_fs0_37 _) ⟨rfl, rfl⟩ sv_X12_471 ⟨(Nat.le_of_ble_eq_true rfl), (Nat.le_of_ble_eq_true rfl)⟩ ⟨(Nat.le_of_ble_eq_true rfl), (Nat.le_of_ble_eq_true rfl)⟩ (fun _ _ _ _ h => h) (fun _ _ _ => trivial) hK hP hD [0] rfl rfl 0 12 rfl rfl rfl rfl hl.1 rfl (Nat.le_of_ble_eq_true rfl) dX12_points_1) hP hD hS hA [0] [] rfl rfl rfl (by decide) (fun w_2 H locs hw_1 hP hD hS => ?_)
  subst hw_1
  have hP : va_P D vwCl [(h0, .inr (12, (fs0.set 45 (.int 0))))] H := hP
  have hD : va_D A [(h0, .inr (12, (fs0.set 45 (.int 0))))] := hD
  refine lv_aload_n hx hb dX12_points_4 rfl (lv_at hl 0 rfl) ?_
  refine lv_iload_n hx hb dX12_points_5 rfl (lv_at hl 1 rfl) ?_
  refine cl_i (wr := []) (rn_V (As := [.int p0]) (rest := []) hx hb hml hown hts (c_X12_isChild l D cI cJ cZ h0 (fs0.set 45 (.int 0)) p0 (ln_set hl_fs0) (gs_eq (ln_lt hl_fs0 (by decide))) _) ⟨rfl, rfl⟩ sv_X12_512 ⟨(Nat.le_of_ble_eq_true rfl), (Nat.le_of_ble_eq_true rfl)⟩ ⟨(Nat.le_of_ble_eq_true rfl), (Nat.le_of_ble_eq_true rfl)⟩ (fun _ _ _ _ h => h) (fun _ _ _ => trivial) hK hP hD [0] rfl rfl 0 12 rfl rfl rfl rfl hl.1 rfl (Nat.le_of_ble_eq_true rfl) dX12_points_6) hP hD hS hA [0] [] rfl rfl rfl (by decide) (fun r_6 w_5 H locs hw_4 hP hD hS => ?_)
  obtain ⟨rfl, hr_7⟩ := hw_4
  have hP : va_P D vwCl [(h0, .inr (12, (fs0.set 45 (.int 0))))] H := hP
  have hD : va_D A [(h0, .inr (12, (fs0.set 45 (.int 0))))] := hD
  refine tov (v := 0) hr_7 ?_
  refine lv_if_eq (tgt := 20) hx hb dX12_points_9 (by decide) (fun _ => ?_) (fun h => (h (by decide)).elim)
  refine lv_ldcw hx hb hown (hts _ wd_1974) dX12_points_20 ?_
  refine lv_goto (tgt := 32) hx hb dX12_points_23 (by decide) ?_
  exact fin_i hx hb hr hlk hK hP hD hS dX12_points_32 (rfl)
set_option maxRecDepth 100000 in
set_option maxHeartbeats 4000000 in
theorem lp_finds {D : va_G} {cI cJ cZ : ClassId} {h0 q1 : Nat} {fs0 : List Value} (hl_fs0 : fs0.length = 94) (hf_fs0_63 : fs0[63]? = some (.ref q1)) {p : Program} {l : Launch} {e : Env} {R : Room} {s : State} {m : MethodId} {args : Array Value} {below : List Frame} {meth : Method} {c : Code} {cells slots : Nat} {Q : State → Prop} {A : Nat → Prop} (hx : p.tables.exec = Jvm.exec) (hb : c.code = cX12_finds) (hml : c.maxLocals = 5) (hown : s.vm.findClass RX12 = some m.cls) (hts : ∀ w ∈ BIG, w.before args s = true) (hK : va_K D vwCl (tyK cI cJ cZ) s) (hA : ∀ q, s.heap.size ≤ q → A q) {wr : va_W} (kk : ∀ (f1 : Nat → Int64) (H : Heap) (locs : List Loc) (ls : Array Slot), (∀ j, j < 290 → f1 j = 1152921504606846976) → va_P D vwCl ([(h0, .inr (12, fs0)), (q1, .inl (cJ, 290, .inr (.inl f1)))] ++ wr) H → va_D A ([(h0, .inr (12, fs0)), (q1, .inl (cJ, 290, .inr (.inl f1)))] ++ wr) → va_S A s.heap H locs → lv_has ls 5 [(0, .ref h0), (1, .int 0), (2, .int 1), (3, .int (nI 290))] → W p l e R s m args below meth c H locs cells slots Q (F0 m 24 ls [])) : ∀ (n k : Nat) (f1 : Nat → Int64) (H : Heap) (locs : List Loc) (ls : Array Slot), k + n = 290 → (∀ j, j < k → f1 j = 1152921504606846976) → va_P D vwCl ([(h0, .inr (12, fs0)), (q1, .inl (cJ, 290, .inr (.inl f1)))] ++ wr) H → va_D A ([(h0, .inr (12, fs0)), (q1, .inl (cJ, 290, .inr (.inl f1)))] ++ wr) → va_S A s.heap H locs → lv_has ls 5 [(0, .ref h0), (1, .int 0), (2, .int 1), (3, .int (nI k))] → W p l e R s m args below meth c H locs cells slots Q (F0 m 2 ls []) := by
  intro n
  induction n with
  | zero =>
    intro k f1 H locs ls hkn hi hP hD hS hl
    obtain rfl : k = 290 := by omega
    refine lv_iload_n hx hb dX12_finds_2 rfl (lv_at hl 3 rfl) ?_
    refine lv_sipush (v := 290) hx hb dX12_finds_3 (by decide) ?_
    refine lv_icmp_ge (tgt := 24) hx hb dX12_finds_6 (by decide) (fun _ => ?_) (fun h => (h (by decide)).elim)
    exact kk f1 H locs ls hi hP hD hS (lv_sub hl [0, 1, 2, 3] rfl)
  | succ n ih =>
    intro k f1 H locs ls hkn hi hP hD hS hl
    have hk : k < 290 := by omega
    refine lv_iload_n hx hb dX12_finds_2 rfl (lv_at hl 3 rfl) ?_
    refine lv_sipush (v := 290) hx hb dX12_finds_3 (by decide) ?_
    refine lv_icmp_ge (tgt := 24) hx hb dX12_finds_6 (by decide) (fun h => absurd h (nI_ge hk (by decide))) (fun _ => ?_)
    refine lv_aload_n hx hb dX12_finds_9 rfl (lv_at hl 0 rfl) ?_
    refine gt_X12 hx hb hts hown hK hP 0 rfl 63 (by decide) wd_1464 rfl hf_fs0_63 dX12_finds_10 ?_
    refine lv_iload_n hx hb dX12_finds_13 rfl (lv_at hl 3 rfl) ?_
    refine lv_ldc2 hx hb hown (hts _ wd_2000) dX12_finds_14 ?_
    refine va_last hx hb hK hP hD hS 1 1 rfl rfl (vp_in_nI hk (by decide)) dX12_finds_17 (fun H locs hP hD hS => ?_)
    obtain ⟨f_101, ef_101⟩ : ∃ z, z = vp_updL f1 ((nI k) : Int32).toNatClampNeg 1152921504606846976 := ⟨_, rfl⟩
    rw [← ef_101] at hP hD
    have hP : va_P D vwCl ([(h0, .inr (12, fs0)), (q1, .inl (cJ, 290, .inr (.inl f_101)))] ++ wr) H := hP
    have hD : va_D A ([(h0, .inr (12, fs0)), (q1, .inl (cJ, 290, .inr (.inl f_101)))] ++ wr) := hD
    refine lv_iinc (v := (nI (k + 1))) (lv' := [(3, .int (nI (k + 1))), (0, .ref h0), (1, .int 0), (2, .int 1)]) hx hb dX12_finds_18 hl (k := 3) rfl (nI_inc k) (by decide) rfl (fun ls hl => ?_)
    refine lv_goto (tgt := 2) hx hb dX12_finds_21 (by decide) ?_
    exact ih (k + 1) f_101 H locs ls (by omega) (inv_updL (by omega) hi ef_101) hP hD hS (lv_sub hl [1, 2, 3, 0] rfl)
set_option maxRecDepth 100000 in
set_option maxHeartbeats 4000000 in
theorem c_X12_finds (l : Launch) (D : va_G) (cI cJ cZ : ClassId) (h0 q1 : Nat) (fs0 : List Value) (f1 : Nat → Int64) (hl_fs0 : fs0.length = 94) (hf_fs0_63 : fs0[63]? = some (.ref q1)) (hf_fs0_62 : fs0[62]? = some (.int 0)) : Con_i l yX12_finds cX12_finds 5 (some .boolean) ({ frames := 0, cells := 0, slots := 0, locals := 0 }) D cI cJ cZ eT [.ref h0, .int 0, .int 1] [(h0, .inr (12, fs0)), (q1, .inl (cJ, 290, .inr (.inl f1)))] (fun (r : Int32) (w : va_W) => ∃ (g1 : Nat → Int64), w = [(h0, .inr (12, fs0)), (q1, .inl (cJ, 290, .inr (.inl g1)))] ∧ r = 0) := by
  refine ent_i (by decide) (Nat.le_of_ble_eq_true rfl) ?_
  intro p e s m below meth c A hx hb hml hown hts hr hlk hnm hK hE hA hP hD hS ls hl
  have hown : s.vm.findClass RX12 = some m.cls := hown
  have hl : lv_has ls 5 [(0, .ref h0), (1, .int 0), (2, .int 1)] := hl
  refine lv_iconst (v := 0) hx hb dX12_finds_0 (by decide) ?_
  refine lv_istore_n (lv' := [(3, .int 0), (0, .ref h0), (1, .int 0), (2, .int 1)]) hx hb dX12_finds_1 rfl hl (by decide) rfl (fun ls hl => ?_)
  refine lp_finds (wr := []) hl_fs0 hf_fs0_63 hx hb hml hown hts hK hA (fun f_1 H locs ls hi_2 hP hD hS hl => ?_) 290 0 f1 _ _ ls (by omega) (fun j h => absurd h (Nat.not_lt_zero j)) hP hD hS (lv_sub hl [1, 2, 3, 0] rfl)
  have hP : va_P D vwCl [(h0, .inr (12, fs0)), (q1, .inl (cJ, 290, .inr (.inl f_1)))] H := hP
  have hD : va_D A [(h0, .inr (12, fs0)), (q1, .inl (cJ, 290, .inr (.inl f_1)))] := hD
  refine lv_aload_n hx hb dX12_finds_24 rfl (lv_at hl 0 rfl) ?_
  refine gt_X12 hx hb hts hown hK hP 0 rfl 63 (by decide) wd_1464 rfl hf_fs0_63 dX12_finds_25 ?_
  refine lv_iload_n hx hb dX12_finds_28 rfl (lv_at hl 1 rfl) ?_
  refine lv_lconst (v := 0) hx hb dX12_finds_29 (by decide) ?_
  refine va_last hx hb hK hP hD hS 1 1 rfl rfl (vp_in_c (by decide)) dX12_finds_30 (fun H locs hP hD hS => ?_)
  obtain ⟨f_3, ef_3⟩ : ∃ z, z = vp_updL f_1 (0 : Int32).toNatClampNeg 0 := ⟨_, rfl⟩
  rw [← ef_3] at hP hD
  have hP : va_P D vwCl [(h0, .inr (12, fs0)), (q1, .inl (cJ, 290, .inr (.inl f_3)))] H := hP
  have hD : va_D A [(h0, .inr (12, fs0)), (q1, .inl (cJ, 290, .inr (.inl f_3)))] := hD
  refine lv_iconst (v := 1) hx hb dX12_finds_31 (by decide) ?_
  refine lv_istore_n (lv' := [(3, .int 1), (0, .ref h0), (1, .int 0), (2, .int 1)]) hx hb dX12_finds_32 rfl hl (by decide) rfl (fun ls hl => ?_)
  refine lv_iload_n hx hb dX12_finds_33 rfl (lv_at hl 0 rfl) ?_
  refine lv_if_eq (tgt := 176) hx hb dX12_finds_34 (by decide) (fun h => absurd h (by decide)) (fun _ => ?_)
  refine lv_iconst (v := 0) hx hb dX12_finds_37 (by decide) ?_
  refine lv_istore_n (lv' := [(3, .int 0), (0, .ref h0), (1, .int 0), (2, .int 1)]) hx hb dX12_finds_38 rfl hl (by decide) rfl (fun ls hl => ?_)
  refine lv_iconst (v := 0) hx hb dX12_finds_39 (by decide) ?_
  refine lv_istore (lv' := [(4, .int 0), (3, .int 0), (0, .ref h0), (1, .int 0), (2, .int 1)]) hx hb dX12_finds_40 hl (by decide) rfl (fun ls hl => ?_)
  refine lv_iload hx hb dX12_finds_42 (lv_at hl 0 rfl) ?_
  refine lv_aload_n hx hb dX12_finds_44 rfl (lv_at hl 2 rfl) ?_
  refine gt_X12 hx hb hts hown hK hP 0 rfl 62 (by decide) wd_1463 rfl hf_fs0_62 dX12_finds_45 ?_
  refine lv_icmp_ge (tgt := 173) hx hb dX12_finds_48 (by decide) (fun _ => ?_) (fun h => (h (by decide)).elim)
  refine lv_goto (tgt := 33) hx hb dX12_finds_173 (by decide) ?_
  refine lv_iload_n hx hb dX12_finds_33 rfl (lv_at hl 1 rfl) ?_
  refine lv_if_eq (tgt := 176) hx hb dX12_finds_34 (by decide) (fun _ => ?_) (fun h => (h (by decide)).elim)
  refine lv_aload_n hx hb dX12_finds_176 rfl (lv_at hl 2 rfl) ?_
  refine gt_X12 hx hb hts hown hK hP 0 rfl 63 (by decide) wd_1464 rfl hf_fs0_63 dX12_finds_177 ?_
  refine lv_iload_n hx hb dX12_finds_180 rfl (lv_at hl 4 rfl) ?_
  refine va_lald hx hb hK hP 1 1 rfl rfl (vp_in_c (by decide)) dX12_finds_181 ?_
  refine tol (v := 1152921504606846976) (by rw [ef_3]; exact (pk_uLn (by decide)).trans (hi_2 _ (by decide))) ?_
  refine lv_ldc2 hx hb hown (hts _ wd_2000) dX12_finds_182 ?_
  refine W.lcmp hx hb dX12_finds_185 ?_
  refine tov (v := 0) (by decide) ?_
  refine lv_if_ge (tgt := 193) hx hb dX12_finds_186 (by decide) (fun _ => ?_) (fun h => (h (by decide)).elim)
  refine lv_iconst (v := 0) hx hb dX12_finds_193 (by decide) ?_
  exact fin_z hx hb hr hlk hK hP hD hS dX12_finds_194 rfl (⟨f_3, rfl, rfl⟩)
set_option maxRecDepth 100000 in
set_option maxHeartbeats 4000000 in
theorem lp_settles {D : va_G} {cI cJ cZ : ClassId} {h0 q1 q2 : Nat} {fs0 : List Value} {f2 : Nat → Int32} (hl_fs0 : fs0.length = 94) (hf_fs0_66 : fs0[66]? = some (.ref q1)) (hf_fs0_65 : fs0[65]? = some (.ref q2)) (hpr : ∀ j, j < 400 → f2 j = -1) {p : Program} {l : Launch} {e : Env} {R : Room} {s : State} {m : MethodId} {args : Array Value} {below : List Frame} {meth : Method} {c : Code} {cells slots : Nat} {Q : State → Prop} {A : Nat → Prop} (hx : p.tables.exec = Jvm.exec) (hb : c.code = cX12_settles) (hml : c.maxLocals = 3) (hown : s.vm.findClass RX12 = some m.cls) (hts : ∀ w ∈ BIG, w.before args s = true) (hK : va_K D vwCl (tyK cI cJ cZ) s) (hA : ∀ q, s.heap.size ≤ q → A q) {wr : va_W} (kk : ∀ (f1 : Nat → Int32) (H : Heap) (locs : List Loc) (ls : Array Slot), va_P D vwCl ([(h0, .inr (12, fs0)), (q1, .inl (cZ, 400, .inl f1)), (q2, .inl (cI, 400, .inl f2))] ++ wr) H → va_D A ([(h0, .inr (12, fs0)), (q1, .inl (cZ, 400, .inl f1)), (q2, .inl (cI, 400, .inl f2))] ++ wr) → va_S A s.heap H locs → lv_has ls 3 [(0, .ref h0), (1, .int (nI 400))] → W p l e R s m args below meth c H locs cells slots Q (F0 m 179 ls [])) : ∀ (n k : Nat) (f1 : Nat → Int32) (H : Heap) (locs : List Loc) (ls : Array Slot), k + n = 400 → va_P D vwCl ([(h0, .inr (12, fs0)), (q1, .inl (cZ, 400, .inl f1)), (q2, .inl (cI, 400, .inl f2))] ++ wr) H → va_D A ([(h0, .inr (12, fs0)), (q1, .inl (cZ, 400, .inl f1)), (q2, .inl (cI, 400, .inl f2))] ++ wr) → va_S A s.heap H locs → lv_has ls 3 [(0, .ref h0), (1, .int (nI k))] → W p l e R s m args below meth c H locs cells slots Q (F0 m 20 ls []) := by
  intro n
  induction n with
  | zero =>
    intro k f1 H locs ls hkn hP hD hS hl
    obtain rfl : k = 400 := by omega
    refine lv_iload_n hx hb dX12_settles_20 rfl (lv_at hl 1 rfl) ?_
    refine lv_sipush (v := 400) hx hb dX12_settles_21 (by decide) ?_
    refine lv_icmp_ge (tgt := 179) hx hb dX12_settles_24 (by decide) (fun _ => ?_) (fun h => (h (by decide)).elim)
    exact kk f1 H locs ls hP hD hS (lv_sub hl [0, 1] rfl)
  | succ n ih =>
    intro k f1 H locs ls hkn hP hD hS hl
    have hk : k < 400 := by omega
    refine lv_iload_n hx hb dX12_settles_20 rfl (lv_at hl 1 rfl) ?_
    refine lv_sipush (v := 400) hx hb dX12_settles_21 (by decide) ?_
    refine lv_icmp_ge (tgt := 179) hx hb dX12_settles_24 (by decide) (fun h => absurd h (nI_ge hk (by decide))) (fun _ => ?_)
    refine lv_aload_n hx hb dX12_settles_27 rfl (lv_at hl 0 rfl) ?_
    refine gt_X12 hx hb hts hown hK hP 0 rfl 66 (by decide) wd_1467 rfl hf_fs0_66 dX12_settles_28 ?_
    refine lv_iload_n hx hb dX12_settles_31 rfl (lv_at hl 1 rfl) ?_
    refine lv_iconst (v := 0) hx hb dX12_settles_32 (by decide) ?_
    refine va_zast hx hb hK hP hD hS 1 2 rfl rfl (vp_in_nI hk (by decide)) dX12_settles_33 (fun H locs hP hD hS => ?_)
    obtain ⟨f_101, ef_101⟩ : ∃ z, z = upd f1 ((nI k) : Int32).toNatClampNeg (vp_nar .boolean 0) := ⟨_, rfl⟩
    rw [← ef_101] at hP hD
    have hP : va_P D vwCl ([(h0, .inr (12, fs0)), (q1, .inl (cZ, 400, .inl f_101)), (q2, .inl (cI, 400, .inl f2))] ++ wr) H := hP
    have hD : va_D A ([(h0, .inr (12, fs0)), (q1, .inl (cZ, 400, .inl f_101)), (q2, .inl (cI, 400, .inl f2))] ++ wr) := hD
    refine lv_aload_n hx hb dX12_settles_34 rfl (lv_at hl 0 rfl) ?_
    refine gt_X12 hx hb hts hown hK hP 0 rfl 65 (by decide) wd_1466 rfl hf_fs0_65 dX12_settles_35 ?_
    refine lv_iload_n hx hb dX12_settles_38 rfl (lv_at hl 1 rfl) ?_
    refine va_iald hx hb hK hP 2 0 rfl rfl (vp_in_nI hk (by decide)) dX12_settles_39 ?_
    refine tov (v := (-1)) (by rw [nI_clamp (by omega)]; exact hpr k hk) ?_
    refine lv_istore_n (lv' := [(2, .int (-1)), (0, .ref h0), (1, .int (nI k))]) hx hb dX12_settles_40 rfl hl (by decide) rfl (fun ls hl => ?_)
    refine lv_iload_n hx hb dX12_settles_41 rfl (lv_at hl 0 rfl) ?_
    refine lv_if_ge (tgt := 48) hx hb dX12_settles_42 (by decide) (fun h => absurd h (by decide)) (fun _ => ?_)
    refine lv_goto (tgt := 173) hx hb dX12_settles_45 (by decide) ?_
    refine lv_iinc (v := (nI (k + 1))) (lv' := [(1, .int (nI (k + 1))), (2, .int (-1)), (0, .ref h0)]) hx hb dX12_settles_173 hl (k := 2) rfl (nI_inc k) (by decide) rfl (fun ls hl => ?_)
    refine lv_goto (tgt := 20) hx hb dX12_settles_176 (by decide) ?_
    exact ih (k + 1) f_101 H locs ls (by omega) hP hD hS (lv_sub hl [2, 0] rfl)
set_option maxRecDepth 100000 in
set_option maxHeartbeats 4000000 in
theorem c_X12_settles (l : Launch) (D : va_G) (cI cJ cZ : ClassId) (h0 q1 q2 q3 : Nat) (fs0 : List Value) (f1 : Nat → Int32) (f2 : Nat → Int32) (f3 : Nat → Int64) (hl_fs0 : fs0.length = 94) (hf_fs0_66 : fs0[66]? = some (.ref q1)) (hf_fs0_65 : fs0[65]? = some (.ref q2)) (hf_fs0_63 : fs0[63]? = some (.ref q3)) (hf_fs0_62 : fs0[62]? = some (.int 0)) (hpr : ∀ j, j < 400 → f2 j = -1) : Con_v l yX12_settles cX12_settles 3 none ({ frames := 1, cells := 0, slots := 0, locals := 24 }) D cI cJ cZ eT [.ref h0] [(h0, .inr (12, fs0)), (q1, .inl (cZ, 400, .inl f1)), (q2, .inl (cI, 400, .inl f2)), (q3, .inl (cJ, 290, .inr (.inl f3)))] (fun w => ∃ (g1 : Nat → Int32) (g3 : Nat → Int64), w = [(h0, .inr (12, fs0)), (q1, .inl (cZ, 400, .inl g1)), (q2, .inl (cI, 400, .inl f2)), (q3, .inl (cJ, 290, .inr (.inl g3)))]) := by
  refine ent_v (by decide) (Nat.le_of_ble_eq_true rfl) ?_
  intro p e s m below meth c A hx hb hml hown hts hr hlk hnm hK hE hA hP hD hS ls hl
  have hown : s.vm.findClass RX12 = some m.cls := hown
  have hl : lv_has ls 3 [(0, .ref h0)] := hl
  refine lv_aload_n hx hb dX12_settles_0 rfl (lv_at hl 0 rfl) ?_
  refine lv_iconst (v := 0) hx hb dX12_settles_1 (by decide) ?_
  refine lv_iconst (v := 1) hx hb dX12_settles_2 (by decide) ?_
  refine cl_i (wr := [(q1, .inl (cZ, 400, .inl f1)), (q2, .inl (cI, 400, .inl f2))]) (rn_V (As := [.int 0, .int 1]) (rest := []) hx hb hml hown hts (c_X12_finds l D cI cJ cZ h0 q3 fs0 f3 hl_fs0 hf_fs0_63 hf_fs0_62 _) ⟨rfl, rfl⟩ sv_X12_527 ⟨(Nat.le_of_ble_eq_true rfl), (Nat.le_of_ble_eq_true rfl)⟩ ⟨(Nat.le_of_ble_eq_true rfl), (Nat.le_of_ble_eq_true rfl)⟩ (fun _ _ _ _ h => h) (fun _ _ _ => trivial) hK hP hD [0, 3] rfl rfl 0 12 rfl rfl rfl rfl hl.1 rfl (Nat.le_of_ble_eq_true rfl) dX12_settles_3) hP hD hS hA [0, 3] [1, 2] rfl rfl rfl (by decide) (fun r_3 w_2 H locs hw_1 hP hD hS => ?_)
  obtain ⟨g1_4, rfl, hr_5⟩ := hw_1
  have hP : va_P D vwCl [(q1, .inl (cZ, 400, .inl f1)), (q2, .inl (cI, 400, .inl f2)), (h0, .inr (12, fs0)), (q3, .inl (cJ, 290, .inr (.inl g1_4)))] H := hP
  have hD : va_D A [(q1, .inl (cZ, 400, .inl f1)), (q2, .inl (cI, 400, .inl f2)), (h0, .inr (12, fs0)), (q3, .inl (cJ, 290, .inr (.inl g1_4)))] := hD
  refine tov (v := 0) hr_5 ?_
  refine lv_if_eq (tgt := 18) hx hb dX12_settles_6 (by decide) (fun _ => ?_) (fun h => (h (by decide)).elim)
  refine lv_iconst (v := 0) hx hb dX12_settles_18 (by decide) ?_
  refine lv_istore_n (lv' := [(1, .int 0), (0, .ref h0)]) hx hb dX12_settles_19 rfl hl (by decide) rfl (fun ls hl => ?_)
  have hP : va_P D vwCl [(h0, .inr (12, fs0)), (q1, .inl (cZ, 400, .inl f1)), (q2, .inl (cI, 400, .inl f2)), (q3, .inl (cJ, 290, .inr (.inl g1_4)))] H := hP.sub [2, 0, 1, 3] rfl
  have hD : va_D A [(h0, .inr (12, fs0)), (q1, .inl (cZ, 400, .inl f1)), (q2, .inl (cI, 400, .inl f2)), (q3, .inl (cJ, 290, .inr (.inl g1_4)))] := hD.sub [2, 0, 1, 3] (by decide) rfl
  refine lp_settles (wr := [(q3, .inl (cJ, 290, .inr (.inl g1_4)))]) hl_fs0 hf_fs0_66 hf_fs0_65 (hpr) hx hb hml hown hts hK hA (fun f_6 H locs ls  hP hD hS hl => ?_) 400 0 f1 _ _ ls (by omega) hP hD hS (lv_sub hl [1, 0] rfl)
  have hP : va_P D vwCl [(h0, .inr (12, fs0)), (q1, .inl (cZ, 400, .inl f_6)), (q2, .inl (cI, 400, .inl f2)), (q3, .inl (cJ, 290, .inr (.inl g1_4)))] H := hP
  have hD : va_D A [(h0, .inr (12, fs0)), (q1, .inl (cZ, 400, .inl f_6)), (q2, .inl (cI, 400, .inl f2)), (q3, .inl (cJ, 290, .inr (.inl g1_4)))] := hD
  exact fin_v hx hb hr hlk hK hP hD hS dX12_settles_179 (⟨f_6, g1_4, rfl⟩)
set_option maxRecDepth 100000 in
set_option maxHeartbeats 4000000 in
theorem lp_arrives {D : va_G} {cI cJ cZ : ClassId} {h0 q1 : Nat} {fs0 : List Value} (hl_fs0 : fs0.length = 94) (hf_fs0_67 : fs0[67]? = some (.ref q1)) {p : Program} {l : Launch} {e : Env} {R : Room} {s : State} {m : MethodId} {args : Array Value} {below : List Frame} {meth : Method} {c : Code} {cells slots : Nat} {Q : State → Prop} {A : Nat → Prop} (hx : p.tables.exec = Jvm.exec) (hb : c.code = cX12_arrives) (hml : c.maxLocals = 2) (hown : s.vm.findClass RX12 = some m.cls) (hts : ∀ w ∈ BIG, w.before args s = true) (hK : va_K D vwCl (tyK cI cJ cZ) s) (hA : ∀ q, s.heap.size ≤ q → A q) {wr : va_W} (kk : ∀ (f1 : Nat → Int32) (H : Heap) (locs : List Loc) (ls : Array Slot), va_P D vwCl ([(h0, .inr (12, fs0)), (q1, .inl (cI, 250, .inl f1))] ++ wr) H → va_D A ([(h0, .inr (12, fs0)), (q1, .inl (cI, 250, .inl f1))] ++ wr) → va_S A s.heap H locs → lv_has ls 2 [(0, .ref h0), (1, .int (nI 250))] → W p l e R s m args below meth c H locs cells slots Q (F0 m 22 ls [])) : ∀ (n k : Nat) (f1 : Nat → Int32) (H : Heap) (locs : List Loc) (ls : Array Slot), k + n = 250 → va_P D vwCl ([(h0, .inr (12, fs0)), (q1, .inl (cI, 250, .inl f1))] ++ wr) H → va_D A ([(h0, .inr (12, fs0)), (q1, .inl (cI, 250, .inl f1))] ++ wr) → va_S A s.heap H locs → lv_has ls 2 [(0, .ref h0), (1, .int (nI k))] → W p l e R s m args below meth c H locs cells slots Q (F0 m 2 ls []) := by
  intro n
  induction n with
  | zero =>
    intro k f1 H locs ls hkn hP hD hS hl
    obtain rfl : k = 250 := by omega
    refine lv_iload_n hx hb dX12_arrives_2 rfl (lv_at hl 1 rfl) ?_
    refine lv_sipush (v := 250) hx hb dX12_arrives_3 (by decide) ?_
    refine lv_icmp_ge (tgt := 22) hx hb dX12_arrives_6 (by decide) (fun _ => ?_) (fun h => (h (by decide)).elim)
    exact kk f1 H locs ls hP hD hS (lv_sub hl [0, 1] rfl)
  | succ n ih =>
    intro k f1 H locs ls hkn hP hD hS hl
    have hk : k < 250 := by omega
    refine lv_iload_n hx hb dX12_arrives_2 rfl (lv_at hl 1 rfl) ?_
    refine lv_sipush (v := 250) hx hb dX12_arrives_3 (by decide) ?_
    refine lv_icmp_ge (tgt := 22) hx hb dX12_arrives_6 (by decide) (fun h => absurd h (nI_ge hk (by decide))) (fun _ => ?_)
    refine lv_aload_n hx hb dX12_arrives_9 rfl (lv_at hl 0 rfl) ?_
    refine gt_X12 hx hb hts hown hK hP 0 rfl 67 (by decide) wd_1468 rfl hf_fs0_67 dX12_arrives_10 ?_
    refine lv_iload_n hx hb dX12_arrives_13 rfl (lv_at hl 1 rfl) ?_
    refine lv_iconst (v := 0) hx hb dX12_arrives_14 (by decide) ?_
    refine va_iast hx hb hK hP hD hS 1 0 rfl rfl (vp_in_nI hk (by decide)) dX12_arrives_15 (fun H locs hP hD hS => ?_)
    obtain ⟨f_101, ef_101⟩ : ∃ z, z = upd f1 ((nI k) : Int32).toNatClampNeg 0 := ⟨_, rfl⟩
    rw [← ef_101] at hP hD
    have hP : va_P D vwCl ([(h0, .inr (12, fs0)), (q1, .inl (cI, 250, .inl f_101))] ++ wr) H := hP
    have hD : va_D A ([(h0, .inr (12, fs0)), (q1, .inl (cI, 250, .inl f_101))] ++ wr) := hD
    refine lv_iinc (v := (nI (k + 1))) (lv' := [(1, .int (nI (k + 1))), (0, .ref h0)]) hx hb dX12_arrives_16 hl (k := 1) rfl (nI_inc k) (by decide) rfl (fun ls hl => ?_)
    refine lv_goto (tgt := 2) hx hb dX12_arrives_19 (by decide) ?_
    exact ih (k + 1) f_101 H locs ls (by omega) hP hD hS (lv_sub hl [1, 0] rfl)
set_option maxRecDepth 100000 in
set_option maxHeartbeats 4000000 in
theorem c_X12_arrives (l : Launch) (D : va_G) (cI cJ cZ : ClassId) (h0 q1 : Nat) (fs0 : List Value) (f1 : Nat → Int32) (hl_fs0 : fs0.length = 94) (hf_fs0_67 : fs0[67]? = some (.ref q1)) (hf_fs0_37 : fs0[37]? = some (.int 0)) : Con_v l yX12_arrives cX12_arrives 2 none ({ frames := 0, cells := 0, slots := 0, locals := 0 }) D cI cJ cZ eT [.ref h0] [(h0, .inr (12, fs0)), (q1, .inl (cI, 250, .inl f1))] (fun w => ∃ (g1 : Nat → Int32), w = [(h0, .inr (12, fs0)), (q1, .inl (cI, 250, .inl g1))]) := by
  refine ent_v (by decide) (Nat.le_of_ble_eq_true rfl) ?_
  intro p e s m below meth c A hx hb hml hown hts hr hlk hnm hK hE hA hP hD hS ls hl
  have hown : s.vm.findClass RX12 = some m.cls := hown
  have hl : lv_has ls 2 [(0, .ref h0)] := hl
  refine lv_iconst (v := 0) hx hb dX12_arrives_0 (by decide) ?_
  refine lv_istore_n (lv' := [(1, .int 0), (0, .ref h0)]) hx hb dX12_arrives_1 rfl hl (by decide) rfl (fun ls hl => ?_)
  refine lp_arrives (wr := []) hl_fs0 hf_fs0_67 hx hb hml hown hts hK hA (fun f_1 H locs ls  hP hD hS hl => ?_) 250 0 f1 _ _ ls (by omega) hP hD hS (lv_sub hl [1, 0] rfl)
  have hP : va_P D vwCl [(h0, .inr (12, fs0)), (q1, .inl (cI, 250, .inl f_1))] H := hP
  have hD : va_D A [(h0, .inr (12, fs0)), (q1, .inl (cI, 250, .inl f_1))] := hD
  refine lv_iconst (v := 1) hx hb dX12_arrives_22 (by decide) ?_
  refine lv_istore_n (lv' := [(1, .int 1), (0, .ref h0)]) hx hb dX12_arrives_23 rfl hl (by decide) rfl (fun ls hl => ?_)
  refine lv_iload_n hx hb dX12_arrives_24 rfl (lv_at hl 0 rfl) ?_
  refine lv_aload_n hx hb dX12_arrives_25 rfl (lv_at hl 1 rfl) ?_
  refine gt_X12 hx hb hts hown hK hP 0 rfl 37 (by decide) wd_1438 rfl hf_fs0_37 dX12_arrives_26 ?_
  refine lv_icmp_gt (tgt := 96) hx hb dX12_arrives_29 (by decide) (fun _ => ?_) (fun h => (h (by decide)).elim)
  exact fin_v hx hb hr hlk hK hP hD hS dX12_arrives_96 (⟨f_1, rfl⟩)
set_option maxRecDepth 100000 in
set_option maxHeartbeats 4000000 in
theorem lp_give {D : va_G} {cI cJ cZ : ClassId} {h0 q1 : Nat} {fs0 : List Value} (hl_fs0 : fs0.length = 94) (hf_fs0_65 : fs0[65]? = some (.ref q1)) {p : Program} {l : Launch} {e : Env} {R : Room} {s : State} {m : MethodId} {args : Array Value} {below : List Frame} {meth : Method} {c : Code} {cells slots : Nat} {Q : State → Prop} {A : Nat → Prop} (hx : p.tables.exec = Jvm.exec) (hb : c.code = cX12_give) (hml : c.maxLocals = 3) (hown : s.vm.findClass RX12 = some m.cls) (hts : ∀ w ∈ BIG, w.before args s = true) (hK : va_K D vwCl (tyK cI cJ cZ) s) (hA : ∀ q, s.heap.size ≤ q → A q) {wr : va_W} (kk : ∀ (f1 : Nat → Int32) (H : Heap) (locs : List Loc) (ls : Array Slot), (∀ j, j < 400 → f1 j = -1) → va_P D vwCl ([(h0, .inr (12, fs0)), (q1, .inl (cI, 400, .inl f1))] ++ wr) H → va_D A ([(h0, .inr (12, fs0)), (q1, .inl (cI, 400, .inl f1))] ++ wr) → va_S A s.heap H locs → lv_has ls 3 [(0, .ref h0), (1, .int (nI 400))] → W p l e R s m args below meth c H locs cells slots Q (F0 m 141 ls [])) : ∀ (n k : Nat) (f1 : Nat → Int32) (H : Heap) (locs : List Loc) (ls : Array Slot), k + n = 400 → (∀ j, j < k → f1 j = -1) → va_P D vwCl ([(h0, .inr (12, fs0)), (q1, .inl (cI, 400, .inl f1))] ++ wr) H → va_D A ([(h0, .inr (12, fs0)), (q1, .inl (cI, 400, .inl f1))] ++ wr) → va_S A s.heap H locs → lv_has ls 3 [(0, .ref h0), (1, .int (nI k))] → W p l e R s m args below meth c H locs cells slots Q (F0 m 121 ls []) := by
  intro n
  induction n with
  | zero =>
    intro k f1 H locs ls hkn hi hP hD hS hl
    obtain rfl : k = 400 := by omega
    refine lv_iload_n hx hb dX12_give_121 rfl (lv_at hl 1 rfl) ?_
    refine lv_sipush (v := 400) hx hb dX12_give_122 (by decide) ?_
    refine lv_icmp_ge (tgt := 141) hx hb dX12_give_125 (by decide) (fun _ => ?_) (fun h => (h (by decide)).elim)
    exact kk f1 H locs ls hi hP hD hS (lv_sub hl [0, 1] rfl)
  | succ n ih =>
    intro k f1 H locs ls hkn hi hP hD hS hl
    have hk : k < 400 := by omega
    refine lv_iload_n hx hb dX12_give_121 rfl (lv_at hl 1 rfl) ?_
    refine lv_sipush (v := 400) hx hb dX12_give_122 (by decide) ?_
    refine lv_icmp_ge (tgt := 141) hx hb dX12_give_125 (by decide) (fun h => absurd h (nI_ge hk (by decide))) (fun _ => ?_)
    refine lv_aload_n hx hb dX12_give_128 rfl (lv_at hl 0 rfl) ?_
    refine gt_X12 hx hb hts hown hK hP 0 rfl 65 (by decide) wd_1466 rfl hf_fs0_65 dX12_give_129 ?_
    refine lv_iload_n hx hb dX12_give_132 rfl (lv_at hl 1 rfl) ?_
    refine lv_iconst (v := (-1)) hx hb dX12_give_133 (by decide) ?_
    refine va_iast hx hb hK hP hD hS 1 0 rfl rfl (vp_in_nI hk (by decide)) dX12_give_134 (fun H locs hP hD hS => ?_)
    obtain ⟨f_101, ef_101⟩ : ∃ z, z = upd f1 ((nI k) : Int32).toNatClampNeg (-1) := ⟨_, rfl⟩
    rw [← ef_101] at hP hD
    have hP : va_P D vwCl ([(h0, .inr (12, fs0)), (q1, .inl (cI, 400, .inl f_101))] ++ wr) H := hP
    have hD : va_D A ([(h0, .inr (12, fs0)), (q1, .inl (cI, 400, .inl f_101))] ++ wr) := hD
    refine lv_iinc (v := (nI (k + 1))) (lv' := [(1, .int (nI (k + 1))), (0, .ref h0)]) hx hb dX12_give_135 hl (k := 1) rfl (nI_inc k) (by decide) rfl (fun ls hl => ?_)
    refine lv_goto (tgt := 121) hx hb dX12_give_138 (by decide) ?_
    exact ih (k + 1) f_101 H locs ls (by omega) (inv_upd (by omega) hi ef_101) hP hD hS (lv_sub hl [1, 0] rfl)
set_option maxRecDepth 100000 in
set_option maxHeartbeats 4000000 in
theorem c_X12_give (l : Launch) (D : va_G) (cI cJ cZ : ClassId) (h0 q2 q3 q4 q5 q6 : Nat) (fs0 : List Value) (f2 : Nat → Int32) (f3 : Nat → Int32) (f4 : Nat → Int32) (f5 : Nat → Int32) (f6 : Nat → Int64) (hl_fs0 : fs0.length = 94) (hf_fs0_12 : fs0[12]? = some (.int 0)) (hf_fs0_37 : fs0[37]? = some (.int 0)) (hf_fs0_67 : fs0[67]? = some (.ref q2)) (hf_fs0_14 : fs0[14]? = some (.ref q3)) (hf_fs0_65 : fs0[65]? = some (.ref q4)) (hf_fs0_66 : fs0[66]? = some (.ref q5)) (hf_fs0_63 : fs0[63]? = some (.ref q6)) (ha_f3 : ∀ k, f3 k = 0) : Con_i l yX12_give cX12_give 3 (some .int) ({ frames := 2, cells := 0, slots := 0, locals := 46 }) D cI cJ cZ eT [.ref h0] [(h0, .inr (12, fs0)), (q2, .inl (cI, 250, .inl f2)), (q3, .inl (cI, 2, .inl f3)), (q4, .inl (cI, 400, .inl f4)), (q5, .inl (cZ, 400, .inl f5)), (q6, .inl (cJ, 290, .inr (.inl f6)))] (fun r _ => r = 0) := by
  refine ent_i (by decide) (Nat.le_of_ble_eq_true rfl) ?_
  intro p e s m below meth c A hx hb hml hown hts hr hlk hnm hK hE hA hP hD hS ls hl
  have hown : s.vm.findClass RX12 = some m.cls := hown
  have hl : lv_has ls 3 [(0, .ref h0)] := hl
  refine lv_aload_n hx hb dX12_give_0 rfl (lv_at hl 0 rfl) ?_
  refine cl_v (wr := [(q2, .inl (cI, 250, .inl f2)), (q3, .inl (cI, 2, .inl f3)), (q4, .inl (cI, 400, .inl f4)), (q5, .inl (cZ, 400, .inl f5)), (q6, .inl (cJ, 290, .inr (.inl f6)))]) (rn_V (As := []) (rest := []) hx hb hml hown hts (c_X12_knows l D cI cJ cZ h0 fs0 hl_fs0 hf_fs0_37 _) ⟨rfl, rfl⟩ sv_X12_471 ⟨(Nat.le_of_ble_eq_true rfl), (Nat.le_of_ble_eq_true rfl)⟩ ⟨(Nat.le_of_ble_eq_true rfl), (Nat.le_of_ble_eq_true rfl)⟩ (fun _ _ _ _ h => h) (fun _ _ _ => trivial) hK hP hD [0] rfl rfl 0 12 rfl rfl rfl rfl hl.1 rfl (Nat.le_of_ble_eq_true rfl) dX12_give_1) hP hD hS hA [0] [1, 2, 3, 4, 5] rfl rfl rfl (by decide) (fun w_2 H locs hw_1 hP hD hS => ?_)
  subst hw_1
  have hP : va_P D vwCl [(q2, .inl (cI, 250, .inl f2)), (q3, .inl (cI, 2, .inl f3)), (q4, .inl (cI, 400, .inl f4)), (q5, .inl (cZ, 400, .inl f5)), (q6, .inl (cJ, 290, .inr (.inl f6))), (h0, .inr (12, (fs0.set 45 (.int 0))))] H := hP
  have hD : va_D A [(q2, .inl (cI, 250, .inl f2)), (q3, .inl (cI, 2, .inl f3)), (q4, .inl (cI, 400, .inl f4)), (q5, .inl (cZ, 400, .inl f5)), (q6, .inl (cJ, 290, .inr (.inl f6))), (h0, .inr (12, (fs0.set 45 (.int 0))))] := hD
  refine lv_aload_n hx hb dX12_give_4 rfl (lv_at hl 0 rfl) ?_
  refine cl_v (wr := [(q3, .inl (cI, 2, .inl f3)), (q4, .inl (cI, 400, .inl f4)), (q5, .inl (cZ, 400, .inl f5)), (q6, .inl (cJ, 290, .inr (.inl f6)))]) (rn_V (As := []) (rest := []) hx hb hml hown hts (c_X12_arrives l D cI cJ cZ h0 q2 (fs0.set 45 (.int 0)) f2 (ln_set hl_fs0) (gs_ne (by decide) hf_fs0_67) (gs_ne (by decide) hf_fs0_37) _) ⟨rfl, rfl⟩ sv_X12_533 ⟨(Nat.le_of_ble_eq_true rfl), (Nat.le_of_ble_eq_true rfl)⟩ ⟨(Nat.le_of_ble_eq_true rfl), (Nat.le_of_ble_eq_true rfl)⟩ (fun _ _ _ _ h => h) (fun _ _ _ => trivial) hK hP hD [5, 0] rfl rfl 0 12 rfl rfl rfl rfl hl.1 rfl (Nat.le_of_ble_eq_true rfl) dX12_give_5) hP hD hS hA [5, 0] [1, 2, 3, 4] rfl rfl rfl (by decide) (fun w_5 H locs hw_4 hP hD hS => ?_)
  obtain ⟨g1_7, rfl⟩ := hw_4
  have hP : va_P D vwCl [(q3, .inl (cI, 2, .inl f3)), (q4, .inl (cI, 400, .inl f4)), (q5, .inl (cZ, 400, .inl f5)), (q6, .inl (cJ, 290, .inr (.inl f6))), (h0, .inr (12, (fs0.set 45 (.int 0)))), (q2, .inl (cI, 250, .inl g1_7))] H := hP
  have hD : va_D A [(q3, .inl (cI, 2, .inl f3)), (q4, .inl (cI, 400, .inl f4)), (q5, .inl (cZ, 400, .inl f5)), (q6, .inl (cJ, 290, .inr (.inl f6))), (h0, .inr (12, (fs0.set 45 (.int 0)))), (q2, .inl (cI, 250, .inl g1_7))] := hD
  refine lv_aload_n hx hb dX12_give_8 rfl (lv_at hl 0 rfl) ?_
  refine lv_iconst (v := 0) hx hb dX12_give_9 (by decide) ?_
  refine pt_X12 hx hb hts hown hK hP hD hS 4 rfl 62 (by decide) wd_1463 rfl rfl (ty := .int) (v := .int 0) (by decide +kernel) rfl rfl (ln_lt (ln_set hl_fs0) (by decide)) dX12_give_10 (fun H locs hP hD hS => ?_)
  have hP : va_P D vwCl [(q3, .inl (cI, 2, .inl f3)), (q4, .inl (cI, 400, .inl f4)), (q5, .inl (cZ, 400, .inl f5)), (q6, .inl (cJ, 290, .inr (.inl f6))), (h0, .inr (12, ((fs0.set 45 (.int 0)).set 62 (.int 0)))), (q2, .inl (cI, 250, .inl g1_7))] H := hP
  have hD : va_D A [(q3, .inl (cI, 2, .inl f3)), (q4, .inl (cI, 400, .inl f4)), (q5, .inl (cZ, 400, .inl f5)), (q6, .inl (cJ, 290, .inr (.inl f6))), (h0, .inr (12, ((fs0.set 45 (.int 0)).set 62 (.int 0)))), (q2, .inl (cI, 250, .inl g1_7))] := hD
  refine lv_iconst (v := 0) hx hb dX12_give_13 (by decide) ?_
  refine lv_istore_n (lv' := [(1, .int 0), (0, .ref h0)]) hx hb dX12_give_14 rfl hl (by decide) rfl (fun ls hl => ?_)
  refine lv_iload_n hx hb dX12_give_15 rfl (lv_at hl 0 rfl) ?_
  refine lv_aload_n hx hb dX12_give_16 rfl (lv_at hl 1 rfl) ?_
  refine gt_X12 hx hb hts hown hK hP 4 rfl 14 (by decide) wd_1415 rfl (gs_ne (by decide) (gs_ne (by decide) hf_fs0_14)) dX12_give_17 ?_
  refine lv_aload_n hx hb dX12_give_20 rfl (lv_at hl 1 rfl) ?_
  refine gt_X12 hx hb hts hown hK hP 4 rfl 12 (by decide) wd_1413 rfl (gs_ne (by decide) (gs_ne (by decide) hf_fs0_12)) dX12_give_21 ?_
  refine va_iald hx hb hK hP 0 0 rfl rfl (vp_in_c (by decide)) dX12_give_24 ?_
  refine tov (v := 0) (ha_f3 _) ?_
  refine lv_icmp_ge (tgt := 119) hx hb dX12_give_25 (by decide) (fun _ => ?_) (fun h => (h (by decide)).elim)
  refine lv_iconst (v := 0) hx hb dX12_give_119 (by decide) ?_
  refine lv_istore_n (lv' := [(1, .int 0), (0, .ref h0)]) hx hb dX12_give_120 rfl hl (by decide) rfl (fun ls hl => ?_)
  have hP : va_P D vwCl [(h0, .inr (12, ((fs0.set 45 (.int 0)).set 62 (.int 0)))), (q4, .inl (cI, 400, .inl f4)), (q3, .inl (cI, 2, .inl f3)), (q5, .inl (cZ, 400, .inl f5)), (q6, .inl (cJ, 290, .inr (.inl f6))), (q2, .inl (cI, 250, .inl g1_7))] H := hP.sub [4, 1, 0, 2, 3, 5] rfl
  have hD : va_D A [(h0, .inr (12, ((fs0.set 45 (.int 0)).set 62 (.int 0)))), (q4, .inl (cI, 400, .inl f4)), (q3, .inl (cI, 2, .inl f3)), (q5, .inl (cZ, 400, .inl f5)), (q6, .inl (cJ, 290, .inr (.inl f6))), (q2, .inl (cI, 250, .inl g1_7))] := hD.sub [4, 1, 0, 2, 3, 5] (by decide) rfl
  refine lp_give (wr := [(q3, .inl (cI, 2, .inl f3)), (q5, .inl (cZ, 400, .inl f5)), (q6, .inl (cJ, 290, .inr (.inl f6))), (q2, .inl (cI, 250, .inl g1_7))]) (ln_set (ln_set hl_fs0)) (gs_ne (by decide) (gs_ne (by decide) hf_fs0_65)) hx hb hml hown hts hK hA (fun f_8 H locs ls hi_9 hP hD hS hl => ?_) 400 0 f4 _ _ ls (by omega) (fun j h => absurd h (Nat.not_lt_zero j)) hP hD hS (lv_sub hl [1, 0] rfl)
  have hP : va_P D vwCl [(h0, .inr (12, ((fs0.set 45 (.int 0)).set 62 (.int 0)))), (q4, .inl (cI, 400, .inl f_8)), (q3, .inl (cI, 2, .inl f3)), (q5, .inl (cZ, 400, .inl f5)), (q6, .inl (cJ, 290, .inr (.inl f6))), (q2, .inl (cI, 250, .inl g1_7))] H := hP
  have hD : va_D A [(h0, .inr (12, ((fs0.set 45 (.int 0)).set 62 (.int 0)))), (q4, .inl (cI, 400, .inl f_8)), (q3, .inl (cI, 2, .inl f3)), (q5, .inl (cZ, 400, .inl f5)), (q6, .inl (cJ, 290, .inr (.inl f6))), (q2, .inl (cI, 250, .inl g1_7))] := hD
  refine lv_aload_n hx hb dX12_give_141 rfl (lv_at hl 0 rfl) ?_
  refine lv_aload_n hx hb dX12_give_142 rfl (lv_at hl 0 rfl) ?_
  refine gt_X12 hx hb hts hown hK hP 0 rfl 45 (by decide) wd_1446 rfl (gs_ne (by decide) (gs_eq (ln_lt hl_fs0 (by decide)))) dX12_give_143 ?_
  refine pt_X12 hx hb hts hown hK hP hD hS 0 rfl 69 (by decide) wd_1470 rfl rfl (ty := .int) (v := .int 0) (by decide +kernel) rfl rfl (ln_lt (ln_set (ln_set hl_fs0)) (by decide)) dX12_give_146 (fun H locs hP hD hS => ?_)
  have hP : va_P D vwCl [(h0, .inr (12, (((fs0.set 45 (.int 0)).set 62 (.int 0)).set 69 (.int 0)))), (q4, .inl (cI, 400, .inl f_8)), (q3, .inl (cI, 2, .inl f3)), (q5, .inl (cZ, 400, .inl f5)), (q6, .inl (cJ, 290, .inr (.inl f6))), (q2, .inl (cI, 250, .inl g1_7))] H := hP
  have hD : va_D A [(h0, .inr (12, (((fs0.set 45 (.int 0)).set 62 (.int 0)).set 69 (.int 0)))), (q4, .inl (cI, 400, .inl f_8)), (q3, .inl (cI, 2, .inl f3)), (q5, .inl (cZ, 400, .inl f5)), (q6, .inl (cJ, 290, .inr (.inl f6))), (q2, .inl (cI, 250, .inl g1_7))] := hD
  refine lv_iconst (v := 0) hx hb dX12_give_149 (by decide) ?_
  refine lv_istore_n (lv' := [(1, .int 0), (0, .ref h0)]) hx hb dX12_give_150 rfl hl (by decide) rfl (fun ls hl => ?_)
  refine lv_iload_n hx hb dX12_give_151 rfl (lv_at hl 0 rfl) ?_
  refine lv_aload_n hx hb dX12_give_152 rfl (lv_at hl 1 rfl) ?_
  refine gt_X12 hx hb hts hown hK hP 0 rfl 45 (by decide) wd_1446 rfl (gs_ne (by decide) (gs_ne (by decide) (gs_eq (ln_lt hl_fs0 (by decide))))) dX12_give_153 ?_
  refine lv_icmp_ge (tgt := 324) hx hb dX12_give_156 (by decide) (fun _ => ?_) (fun h => (h (by decide)).elim)
  refine lv_aload_n hx hb dX12_give_324 rfl (lv_at hl 1 rfl) ?_
  refine cl_v (wr := [(q3, .inl (cI, 2, .inl f3)), (q2, .inl (cI, 250, .inl g1_7))]) (rn_V (As := []) (rest := []) hx hb hml hown hts (c_X12_settles l D cI cJ cZ h0 q5 q4 q6 (((fs0.set 45 (.int 0)).set 62 (.int 0)).set 69 (.int 0)) f5 f_8 f6 (ln_set (ln_set (ln_set hl_fs0))) (gs_ne (by decide) (gs_ne (by decide) (gs_ne (by decide) hf_fs0_66))) (gs_ne (by decide) (gs_ne (by decide) (gs_ne (by decide) hf_fs0_65))) (gs_ne (by decide) (gs_ne (by decide) (gs_ne (by decide) hf_fs0_63))) (gs_ne (by decide) (gs_eq (ln_lt (ln_set hl_fs0) (by decide)))) (hi_9) _) ⟨rfl, rfl⟩ sv_X12_541 ⟨(Nat.le_of_ble_eq_true rfl), (Nat.le_of_ble_eq_true rfl)⟩ ⟨(Nat.le_of_ble_eq_true rfl), (Nat.le_of_ble_eq_true rfl)⟩ (fun _ _ _ _ h => h) (fun _ _ _ => trivial) hK hP hD [0, 3, 1, 4] rfl rfl 0 12 rfl rfl rfl rfl hl.1 rfl (Nat.le_of_ble_eq_true rfl) dX12_give_325) hP hD hS hA [0, 3, 1, 4] [2, 5] rfl rfl rfl (by decide) (fun w_11 H locs hw_10 hP hD hS => ?_)
  obtain ⟨g1_13, g3_14, rfl⟩ := hw_10
  have hP : va_P D vwCl [(q3, .inl (cI, 2, .inl f3)), (q2, .inl (cI, 250, .inl g1_7)), (h0, .inr (12, (((fs0.set 45 (.int 0)).set 62 (.int 0)).set 69 (.int 0)))), (q5, .inl (cZ, 400, .inl g1_13)), (q4, .inl (cI, 400, .inl f_8)), (q6, .inl (cJ, 290, .inr (.inl g3_14)))] H := hP
  have hD : va_D A [(q3, .inl (cI, 2, .inl f3)), (q2, .inl (cI, 250, .inl g1_7)), (h0, .inr (12, (((fs0.set 45 (.int 0)).set 62 (.int 0)).set 69 (.int 0)))), (q5, .inl (cZ, 400, .inl g1_13)), (q4, .inl (cI, 400, .inl f_8)), (q6, .inl (cJ, 290, .inr (.inl g3_14)))] := hD
  refine lv_aload_n hx hb dX12_give_328 rfl (lv_at hl 1 rfl) ?_
  refine lv_iconst (v := 0) hx hb dX12_give_329 (by decide) ?_
  refine pt_X12 hx hb hts hown hK hP hD hS 2 rfl 78 (by decide) wd_1479 rfl rfl (ty := .int) (v := .int 0) (by decide +kernel) rfl rfl (ln_lt (ln_set (ln_set (ln_set hl_fs0))) (by decide)) dX12_give_330 (fun H locs hP hD hS => ?_)
  have hP : va_P D vwCl [(q3, .inl (cI, 2, .inl f3)), (q2, .inl (cI, 250, .inl g1_7)), (h0, .inr (12, ((((fs0.set 45 (.int 0)).set 62 (.int 0)).set 69 (.int 0)).set 78 (.int 0)))), (q5, .inl (cZ, 400, .inl g1_13)), (q4, .inl (cI, 400, .inl f_8)), (q6, .inl (cJ, 290, .inr (.inl g3_14)))] H := hP
  have hD : va_D A [(q3, .inl (cI, 2, .inl f3)), (q2, .inl (cI, 250, .inl g1_7)), (h0, .inr (12, ((((fs0.set 45 (.int 0)).set 62 (.int 0)).set 69 (.int 0)).set 78 (.int 0)))), (q5, .inl (cZ, 400, .inl g1_13)), (q4, .inl (cI, 400, .inl f_8)), (q6, .inl (cJ, 290, .inr (.inl g3_14)))] := hD
  refine lv_aload_n hx hb dX12_give_333 rfl (lv_at hl 1 rfl) ?_
  refine lv_iconst (v := 0) hx hb dX12_give_334 (by decide) ?_
  refine pt_X12 hx hb hts hown hK hP hD hS 2 rfl 79 (by decide) wd_1480 rfl rfl (ty := .int) (v := .int 0) (by decide +kernel) rfl rfl (ln_lt (ln_set (ln_set (ln_set (ln_set hl_fs0)))) (by decide)) dX12_give_335 (fun H locs hP hD hS => ?_)
  have hP : va_P D vwCl [(q3, .inl (cI, 2, .inl f3)), (q2, .inl (cI, 250, .inl g1_7)), (h0, .inr (12, (((((fs0.set 45 (.int 0)).set 62 (.int 0)).set 69 (.int 0)).set 78 (.int 0)).set 79 (.int 0)))), (q5, .inl (cZ, 400, .inl g1_13)), (q4, .inl (cI, 400, .inl f_8)), (q6, .inl (cJ, 290, .inr (.inl g3_14)))] H := hP
  have hD : va_D A [(q3, .inl (cI, 2, .inl f3)), (q2, .inl (cI, 250, .inl g1_7)), (h0, .inr (12, (((((fs0.set 45 (.int 0)).set 62 (.int 0)).set 69 (.int 0)).set 78 (.int 0)).set 79 (.int 0)))), (q5, .inl (cZ, 400, .inl g1_13)), (q4, .inl (cI, 400, .inl f_8)), (q6, .inl (cJ, 290, .inr (.inl g3_14)))] := hD
  refine lv_iconst (v := 0) hx hb dX12_give_338 (by decide) ?_
  refine lv_istore_n (lv' := [(1, .int 0), (0, .ref h0)]) hx hb dX12_give_339 rfl hl (by decide) rfl (fun ls hl => ?_)
  refine lv_iload_n hx hb dX12_give_340 rfl (lv_at hl 0 rfl) ?_
  refine lv_aload_n hx hb dX12_give_341 rfl (lv_at hl 1 rfl) ?_
  refine gt_X12 hx hb hts hown hK hP 2 rfl 14 (by decide) wd_1415 rfl (gs_ne (by decide) (gs_ne (by decide) (gs_ne (by decide) (gs_ne (by decide) (gs_ne (by decide) hf_fs0_14))))) dX12_give_342 ?_
  refine lv_aload_n hx hb dX12_give_345 rfl (lv_at hl 1 rfl) ?_
  refine gt_X12 hx hb hts hown hK hP 2 rfl 12 (by decide) wd_1413 rfl (gs_ne (by decide) (gs_ne (by decide) (gs_ne (by decide) (gs_ne (by decide) (gs_ne (by decide) hf_fs0_12))))) dX12_give_346 ?_
  refine va_iald hx hb hK hP 0 0 rfl rfl (vp_in_c (by decide)) dX12_give_349 ?_
  refine tov (v := 0) (ha_f3 _) ?_
  refine lv_icmp_ge (tgt := 400) hx hb dX12_give_350 (by decide) (fun _ => ?_) (fun h => (h (by decide)).elim)
  refine lv_iconst (v := 0) hx hb dX12_give_400 (by decide) ?_
  refine lv_istore_n (lv' := [(1, .int 0), (0, .ref h0)]) hx hb dX12_give_401 rfl hl (by decide) rfl (fun ls hl => ?_)
  refine lv_iload_n hx hb dX12_give_402 rfl (lv_at hl 0 rfl) ?_
  refine lv_aload_n hx hb dX12_give_403 rfl (lv_at hl 1 rfl) ?_
  refine gt_X12 hx hb hts hown hK hP 2 rfl 45 (by decide) wd_1446 rfl (gs_ne (by decide) (gs_ne (by decide) (gs_ne (by decide) (gs_ne (by decide) (gs_eq (ln_lt hl_fs0 (by decide))))))) dX12_give_404 ?_
  refine lv_icmp_ge (tgt := 520) hx hb dX12_give_407 (by decide) (fun _ => ?_) (fun h => (h (by decide)).elim)
  refine lv_aload_n hx hb dX12_give_520 rfl (lv_at hl 1 rfl) ?_
  refine lv_iconst (v := 1) hx hb dX12_give_521 (by decide) ?_
  refine pt_X12 hx hb hts hown hK hP hD hS 2 rfl 68 (by decide) wd_1469 rfl rfl (ty := .boolean) (v := .int 1) (by decide +kernel) rfl rfl (ln_lt (ln_set (ln_set (ln_set (ln_set (ln_set hl_fs0))))) (by decide)) dX12_give_522 (fun H locs hP hD hS => ?_)
  have hP : va_P D vwCl [(q3, .inl (cI, 2, .inl f3)), (q2, .inl (cI, 250, .inl g1_7)), (h0, .inr (12, ((((((fs0.set 45 (.int 0)).set 62 (.int 0)).set 69 (.int 0)).set 78 (.int 0)).set 79 (.int 0)).set 68 (.int 1)))), (q5, .inl (cZ, 400, .inl g1_13)), (q4, .inl (cI, 400, .inl f_8)), (q6, .inl (cJ, 290, .inr (.inl g3_14)))] H := hP
  have hD : va_D A [(q3, .inl (cI, 2, .inl f3)), (q2, .inl (cI, 250, .inl g1_7)), (h0, .inr (12, ((((((fs0.set 45 (.int 0)).set 62 (.int 0)).set 69 (.int 0)).set 78 (.int 0)).set 79 (.int 0)).set 68 (.int 1)))), (q5, .inl (cZ, 400, .inl g1_13)), (q4, .inl (cI, 400, .inl f_8)), (q6, .inl (cJ, 290, .inr (.inl g3_14)))] := hD
  refine lv_aload_n hx hb dX12_give_525 rfl (lv_at hl 1 rfl) ?_
  refine lv_iconst (v := 0) hx hb dX12_give_526 (by decide) ?_
  refine pt_X12 hx hb hts hown hK hP hD hS 2 rfl 80 (by decide) wd_1481 rfl rfl (ty := .boolean) (v := .int 0) (by decide +kernel) rfl rfl (ln_lt (ln_set (ln_set (ln_set (ln_set (ln_set (ln_set hl_fs0)))))) (by decide)) dX12_give_527 (fun H locs hP hD hS => ?_)
  have hP : va_P D vwCl [(q3, .inl (cI, 2, .inl f3)), (q2, .inl (cI, 250, .inl g1_7)), (h0, .inr (12, (((((((fs0.set 45 (.int 0)).set 62 (.int 0)).set 69 (.int 0)).set 78 (.int 0)).set 79 (.int 0)).set 68 (.int 1)).set 80 (.int 0)))), (q5, .inl (cZ, 400, .inl g1_13)), (q4, .inl (cI, 400, .inl f_8)), (q6, .inl (cJ, 290, .inr (.inl g3_14)))] H := hP
  have hD : va_D A [(q3, .inl (cI, 2, .inl f3)), (q2, .inl (cI, 250, .inl g1_7)), (h0, .inr (12, (((((((fs0.set 45 (.int 0)).set 62 (.int 0)).set 69 (.int 0)).set 78 (.int 0)).set 79 (.int 0)).set 68 (.int 1)).set 80 (.int 0)))), (q5, .inl (cZ, 400, .inl g1_13)), (q4, .inl (cI, 400, .inl f_8)), (q6, .inl (cJ, 290, .inr (.inl g3_14)))] := hD
  refine lv_aload_n hx hb dX12_give_530 rfl (lv_at hl 1 rfl) ?_
  refine gt_X12 hx hb hts hown hK hP 2 rfl 78 (by decide) wd_1479 rfl (gs_ne (by decide) (gs_ne (by decide) (gs_ne (by decide) (gs_eq (ln_lt (ln_set (ln_set (ln_set hl_fs0))) (by decide)))))) dX12_give_531 ?_
  exact fin_i hx hb hr hlk hK hP hD hS dX12_give_534 (rfl)
set_option maxRecDepth 100000 in
set_option maxHeartbeats 4000000 in
theorem lp_blind {D : va_G} {cI cJ cZ : ClassId} {h0 q1 : Nat} {fs0 : List Value} {p0 : Int32} (hl_fs0 : fs0.length = 94) (hf_fs0_65 : fs0[65]? = some (.ref q1)) {p : Program} {l : Launch} {e : Env} {R : Room} {s : State} {m : MethodId} {args : Array Value} {below : List Frame} {meth : Method} {c : Code} {cells slots : Nat} {Q : State → Prop} {A : Nat → Prop} (hx : p.tables.exec = Jvm.exec) (hb : c.code = cX12_blindDay) (hml : c.maxLocals = 6) (hown : s.vm.findClass RX12 = some m.cls) (hts : ∀ w ∈ BIG, w.before args s = true) (hK : va_K D vwCl (tyK cI cJ cZ) s) (hA : ∀ q, s.heap.size ≤ q → A q) {wr : va_W} (kk : ∀ (f1 : Nat → Int32) (H : Heap) (locs : List Loc) (ls : Array Slot), (∀ j, j < 400 → f1 j = -1) → va_P D vwCl ([(h0, .inr (12, fs0)), (q1, .inl (cI, 400, .inl f1))] ++ wr) H → va_D A ([(h0, .inr (12, fs0)), (q1, .inl (cI, 400, .inl f1))] ++ wr) → va_S A s.heap H locs → lv_has ls 6 [(0, .ref h0), (1, .int p0), (2, .int (nI 400))] → W p l e R s m args below meth c H locs cells slots Q (F0 m 27 ls [])) : ∀ (n k : Nat) (f1 : Nat → Int32) (H : Heap) (locs : List Loc) (ls : Array Slot), k + n = 400 → (∀ j, j < k → f1 j = -1) → va_P D vwCl ([(h0, .inr (12, fs0)), (q1, .inl (cI, 400, .inl f1))] ++ wr) H → va_D A ([(h0, .inr (12, fs0)), (q1, .inl (cI, 400, .inl f1))] ++ wr) → va_S A s.heap H locs → lv_has ls 6 [(0, .ref h0), (1, .int p0), (2, .int (nI k))] → W p l e R s m args below meth c H locs cells slots Q (F0 m 7 ls []) := by
  intro n
  induction n with
  | zero =>
    intro k f1 H locs ls hkn hi hP hD hS hl
    obtain rfl : k = 400 := by omega
    refine lv_iload_n hx hb dX12_blindDay_7 rfl (lv_at hl 2 rfl) ?_
    refine lv_sipush (v := 400) hx hb dX12_blindDay_8 (by decide) ?_
    refine lv_icmp_ge (tgt := 27) hx hb dX12_blindDay_11 (by decide) (fun _ => ?_) (fun h => (h (by decide)).elim)
    exact kk f1 H locs ls hi hP hD hS (lv_sub hl [0, 1, 2] rfl)
  | succ n ih =>
    intro k f1 H locs ls hkn hi hP hD hS hl
    have hk : k < 400 := by omega
    refine lv_iload_n hx hb dX12_blindDay_7 rfl (lv_at hl 2 rfl) ?_
    refine lv_sipush (v := 400) hx hb dX12_blindDay_8 (by decide) ?_
    refine lv_icmp_ge (tgt := 27) hx hb dX12_blindDay_11 (by decide) (fun h => absurd h (nI_ge hk (by decide))) (fun _ => ?_)
    refine lv_aload_n hx hb dX12_blindDay_14 rfl (lv_at hl 0 rfl) ?_
    refine gt_X12 hx hb hts hown hK hP 0 rfl 65 (by decide) wd_1466 rfl hf_fs0_65 dX12_blindDay_15 ?_
    refine lv_iload_n hx hb dX12_blindDay_18 rfl (lv_at hl 2 rfl) ?_
    refine lv_iconst (v := (-1)) hx hb dX12_blindDay_19 (by decide) ?_
    refine va_iast hx hb hK hP hD hS 1 0 rfl rfl (vp_in_nI hk (by decide)) dX12_blindDay_20 (fun H locs hP hD hS => ?_)
    obtain ⟨f_101, ef_101⟩ : ∃ z, z = upd f1 ((nI k) : Int32).toNatClampNeg (-1) := ⟨_, rfl⟩
    rw [← ef_101] at hP hD
    have hP : va_P D vwCl ([(h0, .inr (12, fs0)), (q1, .inl (cI, 400, .inl f_101))] ++ wr) H := hP
    have hD : va_D A ([(h0, .inr (12, fs0)), (q1, .inl (cI, 400, .inl f_101))] ++ wr) := hD
    refine lv_iinc (v := (nI (k + 1))) (lv' := [(2, .int (nI (k + 1))), (0, .ref h0), (1, .int p0)]) hx hb dX12_blindDay_21 hl (k := 2) rfl (nI_inc k) (by decide) rfl (fun ls hl => ?_)
    refine lv_goto (tgt := 7) hx hb dX12_blindDay_24 (by decide) ?_
    exact ih (k + 1) f_101 H locs ls (by omega) (inv_upd (by omega) hi ef_101) hP hD hS (lv_sub hl [1, 2, 0] rfl)
set_option maxRecDepth 100000 in
set_option maxHeartbeats 4000000 in
theorem c_X12_blindDay (l : Launch) (D : va_G) (cI cJ cZ : ClassId) (h0 q3 q4 q5 q6 : Nat) (fs0 : List Value) (f3 : Nat → Int32) (f4 : Nat → Int32) (f5 : Nat → Int32) (f6 : Nat → Int64) (p0 : Int32) (hl_fs0 : fs0.length = 94) (hf_fs0_12 : fs0[12]? = some (.int 0)) (hf_fs0_45 : fs0[45]? = some (.int 0)) (hf_fs0_14 : fs0[14]? = some (.ref q3)) (hf_fs0_65 : fs0[65]? = some (.ref q4)) (hf_fs0_66 : fs0[66]? = some (.ref q5)) (hf_fs0_63 : fs0[63]? = some (.ref q6)) (ha_f3 : ∀ k, f3 k = 0) : Con_i l yX12_blindDay cX12_blindDay 6 (some .int) ({ frames := 2, cells := 0, slots := 0, locals := 46 }) D cI cJ cZ eT [.ref h0, .int p0] [(h0, .inr (12, fs0)), (q3, .inl (cI, 2, .inl f3)), (q4, .inl (cI, 400, .inl f4)), (q5, .inl (cZ, 400, .inl f5)), (q6, .inl (cJ, 290, .inr (.inl f6)))] (fun (r : Int32) (w : va_W) => ∃ (g4 : Nat → Int32) (g5 : Nat → Int32) (g6 : Nat → Int64), w = [(h0, .inr (12, (fs0.set 62 (.int 0)))), (q3, .inl (cI, 2, .inl f3)), (q4, .inl (cI, 400, .inl g4)), (q5, .inl (cZ, 400, .inl g5)), (q6, .inl (cJ, 290, .inr (.inl g6)))] ∧ r = 0) := by
  refine ent_i (by decide) (Nat.le_of_ble_eq_true rfl) ?_
  intro p e s m below meth c A hx hb hml hown hts hr hlk hnm hK hE hA hP hD hS ls hl
  have hown : s.vm.findClass RX12 = some m.cls := hown
  have hl : lv_has ls 6 [(0, .ref h0), (1, .int p0)] := hl
  refine lv_aload_n hx hb dX12_blindDay_0 rfl (lv_at hl 0 rfl) ?_
  refine lv_iconst (v := 0) hx hb dX12_blindDay_1 (by decide) ?_
  refine pt_X12 hx hb hts hown hK hP hD hS 0 rfl 62 (by decide) wd_1463 rfl rfl (ty := .int) (v := .int 0) (by decide +kernel) rfl rfl (ln_lt hl_fs0 (by decide)) dX12_blindDay_2 (fun H locs hP hD hS => ?_)
  have hP : va_P D vwCl [(h0, .inr (12, (fs0.set 62 (.int 0)))), (q3, .inl (cI, 2, .inl f3)), (q4, .inl (cI, 400, .inl f4)), (q5, .inl (cZ, 400, .inl f5)), (q6, .inl (cJ, 290, .inr (.inl f6)))] H := hP
  have hD : va_D A [(h0, .inr (12, (fs0.set 62 (.int 0)))), (q3, .inl (cI, 2, .inl f3)), (q4, .inl (cI, 400, .inl f4)), (q5, .inl (cZ, 400, .inl f5)), (q6, .inl (cJ, 290, .inr (.inl f6)))] := hD
  refine lv_iconst (v := 0) hx hb dX12_blindDay_5 (by decide) ?_
  refine lv_istore_n (lv' := [(2, .int 0), (0, .ref h0), (1, .int p0)]) hx hb dX12_blindDay_6 rfl hl (by decide) rfl (fun ls hl => ?_)
  have hP : va_P D vwCl [(h0, .inr (12, (fs0.set 62 (.int 0)))), (q4, .inl (cI, 400, .inl f4)), (q3, .inl (cI, 2, .inl f3)), (q5, .inl (cZ, 400, .inl f5)), (q6, .inl (cJ, 290, .inr (.inl f6)))] H := hP.sub [0, 2, 1, 3, 4] rfl
  have hD : va_D A [(h0, .inr (12, (fs0.set 62 (.int 0)))), (q4, .inl (cI, 400, .inl f4)), (q3, .inl (cI, 2, .inl f3)), (q5, .inl (cZ, 400, .inl f5)), (q6, .inl (cJ, 290, .inr (.inl f6)))] := hD.sub [0, 2, 1, 3, 4] (by decide) rfl
  refine lp_blind (wr := [(q3, .inl (cI, 2, .inl f3)), (q5, .inl (cZ, 400, .inl f5)), (q6, .inl (cJ, 290, .inr (.inl f6)))]) (ln_set hl_fs0) (gs_ne (by decide) hf_fs0_65) hx hb hml hown hts hK hA (fun f_1 H locs ls hi_2 hP hD hS hl => ?_) 400 0 f4 _ _ ls (by omega) (fun j h => absurd h (Nat.not_lt_zero j)) hP hD hS (lv_sub hl [1, 2, 0] rfl)
  have hP : va_P D vwCl [(h0, .inr (12, (fs0.set 62 (.int 0)))), (q4, .inl (cI, 400, .inl f_1)), (q3, .inl (cI, 2, .inl f3)), (q5, .inl (cZ, 400, .inl f5)), (q6, .inl (cJ, 290, .inr (.inl f6)))] H := hP
  have hD : va_D A [(h0, .inr (12, (fs0.set 62 (.int 0)))), (q4, .inl (cI, 400, .inl f_1)), (q3, .inl (cI, 2, .inl f3)), (q5, .inl (cZ, 400, .inl f5)), (q6, .inl (cJ, 290, .inr (.inl f6)))] := hD
  refine lv_iconst (v := 0) hx hb dX12_blindDay_27 (by decide) ?_
  refine lv_istore_n (lv' := [(2, .int 0), (0, .ref h0), (1, .int p0)]) hx hb dX12_blindDay_28 rfl hl (by decide) rfl (fun ls hl => ?_)
  refine lv_iload_n hx hb dX12_blindDay_29 rfl (lv_at hl 0 rfl) ?_
  refine lv_aload_n hx hb dX12_blindDay_30 rfl (lv_at hl 1 rfl) ?_
  refine gt_X12 hx hb hts hown hK hP 0 rfl 14 (by decide) wd_1415 rfl (gs_ne (by decide) hf_fs0_14) dX12_blindDay_31 ?_
  refine lv_aload_n hx hb dX12_blindDay_34 rfl (lv_at hl 1 rfl) ?_
  refine gt_X12 hx hb hts hown hK hP 0 rfl 12 (by decide) wd_1413 rfl (gs_ne (by decide) hf_fs0_12) dX12_blindDay_35 ?_
  refine va_iald hx hb hK hP 2 0 rfl rfl (vp_in_c (by decide)) dX12_blindDay_38 ?_
  refine tov (v := 0) (ha_f3 _) ?_
  refine lv_icmp_ge (tgt := 84) hx hb dX12_blindDay_39 (by decide) (fun _ => ?_) (fun h => (h (by decide)).elim)
  refine lv_iconst (v := 0) hx hb dX12_blindDay_84 (by decide) ?_
  refine lv_istore_n (lv' := [(2, .int 0), (0, .ref h0), (1, .int p0)]) hx hb dX12_blindDay_85 rfl hl (by decide) rfl (fun ls hl => ?_)
  refine lv_iload_n hx hb dX12_blindDay_86 rfl (lv_at hl 0 rfl) ?_
  refine lv_aload_n hx hb dX12_blindDay_87 rfl (lv_at hl 1 rfl) ?_
  refine gt_X12 hx hb hts hown hK hP 0 rfl 45 (by decide) wd_1446 rfl (gs_ne (by decide) hf_fs0_45) dX12_blindDay_88 ?_
  refine lv_icmp_ge (tgt := 192) hx hb dX12_blindDay_91 (by decide) (fun _ => ?_) (fun h => (h (by decide)).elim)
  refine lv_aload_n hx hb dX12_blindDay_192 rfl (lv_at hl 1 rfl) ?_
  refine cl_v (wr := [(q3, .inl (cI, 2, .inl f3))]) (rn_V (As := []) (rest := []) hx hb hml hown hts (c_X12_settles l D cI cJ cZ h0 q5 q4 q6 (fs0.set 62 (.int 0)) f5 f_1 f6 (ln_set hl_fs0) (gs_ne (by decide) hf_fs0_66) (gs_ne (by decide) hf_fs0_65) (gs_ne (by decide) hf_fs0_63) (gs_eq (ln_lt hl_fs0 (by decide))) (hi_2) _) ⟨rfl, rfl⟩ sv_X12_541 ⟨(Nat.le_of_ble_eq_true rfl), (Nat.le_of_ble_eq_true rfl)⟩ ⟨(Nat.le_of_ble_eq_true rfl), (Nat.le_of_ble_eq_true rfl)⟩ (fun _ _ _ _ h => h) (fun _ _ _ => trivial) hK hP hD [0, 3, 1, 4] rfl rfl 0 12 rfl rfl rfl rfl hl.1 rfl (Nat.le_of_ble_eq_true rfl) dX12_blindDay_193) hP hD hS hA [0, 3, 1, 4] [2] rfl rfl rfl (by decide) (fun w_4 H locs hw_3 hP hD hS => ?_)
  obtain ⟨g1_6, g3_7, rfl⟩ := hw_3
  have hP : va_P D vwCl [(q3, .inl (cI, 2, .inl f3)), (h0, .inr (12, (fs0.set 62 (.int 0)))), (q5, .inl (cZ, 400, .inl g1_6)), (q4, .inl (cI, 400, .inl f_1)), (q6, .inl (cJ, 290, .inr (.inl g3_7)))] H := hP
  have hD : va_D A [(q3, .inl (cI, 2, .inl f3)), (h0, .inr (12, (fs0.set 62 (.int 0)))), (q5, .inl (cZ, 400, .inl g1_6)), (q4, .inl (cI, 400, .inl f_1)), (q6, .inl (cJ, 290, .inr (.inl g3_7)))] := hD
  refine lv_iconst (v := 0) hx hb dX12_blindDay_196 (by decide) ?_
  refine lv_istore_n (lv' := [(2, .int 0), (0, .ref h0), (1, .int p0)]) hx hb dX12_blindDay_197 rfl hl (by decide) rfl (fun ls hl => ?_)
  refine lv_iconst (v := 0) hx hb dX12_blindDay_198 (by decide) ?_
  refine lv_istore_n (lv' := [(3, .int 0), (2, .int 0), (0, .ref h0), (1, .int p0)]) hx hb dX12_blindDay_199 rfl hl (by decide) rfl (fun ls hl => ?_)
  refine lv_iload_n hx hb dX12_blindDay_200 rfl (lv_at hl 0 rfl) ?_
  refine lv_aload_n hx hb dX12_blindDay_201 rfl (lv_at hl 2 rfl) ?_
  refine gt_X12 hx hb hts hown hK hP 1 rfl 45 (by decide) wd_1446 rfl (gs_ne (by decide) hf_fs0_45) dX12_blindDay_202 ?_
  refine lv_icmp_ge (tgt := 290) hx hb dX12_blindDay_205 (by decide) (fun _ => ?_) (fun h => (h (by decide)).elim)
  refine lv_iload_n hx hb dX12_blindDay_290 rfl (lv_at hl 1 rfl) ?_
  have hP : va_P D vwCl [(h0, .inr (12, (fs0.set 62 (.int 0)))), (q3, .inl (cI, 2, .inl f3)), (q4, .inl (cI, 400, .inl f_1)), (q5, .inl (cZ, 400, .inl g1_6)), (q6, .inl (cJ, 290, .inr (.inl g3_7)))] H := hP.sub [1, 0, 3, 2, 4] rfl
  have hD : va_D A [(h0, .inr (12, (fs0.set 62 (.int 0)))), (q3, .inl (cI, 2, .inl f3)), (q4, .inl (cI, 400, .inl f_1)), (q5, .inl (cZ, 400, .inl g1_6)), (q6, .inl (cJ, 290, .inr (.inl g3_7)))] := hD.sub [1, 0, 3, 2, 4] (by decide) rfl
  exact fin_i hx hb hr hlk hK hP hD hS dX12_blindDay_291 (⟨f_1, g1_6, g3_7, rfl, rfl⟩)
set_option maxRecDepth 100000 in
set_option maxHeartbeats 16000000 in
theorem c_X12_blind (l : Launch) (D : va_G) (cI cJ cZ : ClassId) (h0 q2 q3 q4 q5 q6 q7 : Nat) (fs0 : List Value) (f2 : Nat → Int32) (f3 : Nat → Int32) (f4 : Nat → Int32) (f5 : Nat → Int32) (f6 : Nat → Int64) (f7 : Nat → Int32) (hl_fs0 : fs0.length = 94) (hf_fs0_82 : fs0[82]? = some (.ref q7)) (hf_fs0_12 : fs0[12]? = some (.int 0)) (hf_fs0_37 : fs0[37]? = some (.int 0)) (hf_fs0_67 : fs0[67]? = some (.ref q2)) (hf_fs0_14 : fs0[14]? = some (.ref q3)) (hf_fs0_65 : fs0[65]? = some (.ref q4)) (hf_fs0_66 : fs0[66]? = some (.ref q5)) (hf_fs0_63 : fs0[63]? = some (.ref q6)) (ha_f3 : ∀ k, f3 k = 0) : Con_i l yX12_blind cX12_blind 3 (some .int) ({ frames := 3, cells := 0, slots := 0, locals := 71 }) D cI cJ cZ eT [.ref h0] [(h0, .inr (12, fs0)), (q2, .inl (cI, 250, .inl f2)), (q3, .inl (cI, 2, .inl f3)), (q4, .inl (cI, 400, .inl f4)), (q5, .inl (cZ, 400, .inl f5)), (q6, .inl (cJ, 290, .inr (.inl f6))), (q7, .inl (cI, 10, .inl f7))] (fun r _ => r = 0) := by
  refine ent_i (by decide) (Nat.le_of_ble_eq_true rfl) ?_
  intro p e s m below meth c A hx hb hml hown hts hr hlk hnm hK hE hA hP hD hS ls hl
  have hown : s.vm.findClass RX12 = some m.cls := hown
  have hl : lv_has ls 3 [(0, .ref h0)] := hl
  refine lv_aload_n hx hb dX12_blind_0 rfl (lv_at hl 0 rfl) ?_
  refine cl_v (wr := [(q2, .inl (cI, 250, .inl f2)), (q3, .inl (cI, 2, .inl f3)), (q4, .inl (cI, 400, .inl f4)), (q5, .inl (cZ, 400, .inl f5)), (q6, .inl (cJ, 290, .inr (.inl f6))), (q7, .inl (cI, 10, .inl f7))]) (rn_V (As := []) (rest := []) hx hb hml hown hts (c_X12_knows l D cI cJ cZ h0 fs0 hl_fs0 hf_fs0_37 _) ⟨rfl, rfl⟩ sv_X12_471 ⟨(Nat.le_of_ble_eq_true rfl), (Nat.le_of_ble_eq_true rfl)⟩ ⟨(Nat.le_of_ble_eq_true rfl), (Nat.le_of_ble_eq_true rfl)⟩ (fun _ _ _ _ h => h) (fun _ _ _ => trivial) hK hP hD [0] rfl rfl 0 12 rfl rfl rfl rfl hl.1 rfl (Nat.le_of_ble_eq_true rfl) dX12_blind_1) hP hD hS hA [0] [1, 2, 3, 4, 5, 6] rfl rfl rfl (by decide) (fun w_2 H locs hw_1 hP hD hS => ?_)
  subst hw_1
  have hP : va_P D vwCl [(q2, .inl (cI, 250, .inl f2)), (q3, .inl (cI, 2, .inl f3)), (q4, .inl (cI, 400, .inl f4)), (q5, .inl (cZ, 400, .inl f5)), (q6, .inl (cJ, 290, .inr (.inl f6))), (q7, .inl (cI, 10, .inl f7)), (h0, .inr (12, (fs0.set 45 (.int 0))))] H := hP
  have hD : va_D A [(q2, .inl (cI, 250, .inl f2)), (q3, .inl (cI, 2, .inl f3)), (q4, .inl (cI, 400, .inl f4)), (q5, .inl (cZ, 400, .inl f5)), (q6, .inl (cJ, 290, .inr (.inl f6))), (q7, .inl (cI, 10, .inl f7)), (h0, .inr (12, (fs0.set 45 (.int 0))))] := hD
  refine lv_aload_n hx hb dX12_blind_4 rfl (lv_at hl 0 rfl) ?_
  refine cl_v (wr := [(q3, .inl (cI, 2, .inl f3)), (q4, .inl (cI, 400, .inl f4)), (q5, .inl (cZ, 400, .inl f5)), (q6, .inl (cJ, 290, .inr (.inl f6))), (q7, .inl (cI, 10, .inl f7))]) (rn_V (As := []) (rest := []) hx hb hml hown hts (c_X12_arrives l D cI cJ cZ h0 q2 (fs0.set 45 (.int 0)) f2 (ln_set hl_fs0) (gs_ne (by decide) hf_fs0_67) (gs_ne (by decide) hf_fs0_37) _) ⟨rfl, rfl⟩ sv_X12_533 ⟨(Nat.le_of_ble_eq_true rfl), (Nat.le_of_ble_eq_true rfl)⟩ ⟨(Nat.le_of_ble_eq_true rfl), (Nat.le_of_ble_eq_true rfl)⟩ (fun _ _ _ _ h => h) (fun _ _ _ => trivial) hK hP hD [6, 0] rfl rfl 0 12 rfl rfl rfl rfl hl.1 rfl (Nat.le_of_ble_eq_true rfl) dX12_blind_5) hP hD hS hA [6, 0] [1, 2, 3, 4, 5] rfl rfl rfl (by decide) (fun w_5 H locs hw_4 hP hD hS => ?_)
  obtain ⟨g1_7, rfl⟩ := hw_4
  have hP : va_P D vwCl [(q3, .inl (cI, 2, .inl f3)), (q4, .inl (cI, 400, .inl f4)), (q5, .inl (cZ, 400, .inl f5)), (q6, .inl (cJ, 290, .inr (.inl f6))), (q7, .inl (cI, 10, .inl f7)), (h0, .inr (12, (fs0.set 45 (.int 0)))), (q2, .inl (cI, 250, .inl g1_7))] H := hP
  have hD : va_D A [(q3, .inl (cI, 2, .inl f3)), (q4, .inl (cI, 400, .inl f4)), (q5, .inl (cZ, 400, .inl f5)), (q6, .inl (cJ, 290, .inr (.inl f6))), (q7, .inl (cI, 10, .inl f7)), (h0, .inr (12, (fs0.set 45 (.int 0)))), (q2, .inl (cI, 250, .inl g1_7))] := hD
  refine lv_iconst (v := 0) hx hb dX12_blind_8 (by decide) ?_
  refine lv_istore_n (lv' := [(1, .int 0), (0, .ref h0)]) hx hb dX12_blind_9 rfl hl (by decide) rfl (fun ls hl => ?_)
  refine lv_iconst (v := 0) hx hb dX12_blind_10 (by decide) ?_
  refine lv_istore_n (lv' := [(2, .int 0), (1, .int 0), (0, .ref h0)]) hx hb dX12_blind_11 rfl hl (by decide) rfl (fun ls hl => ?_)
  refine lv_iload_n hx hb dX12_blind_12 rfl (lv_at hl 0 rfl) ?_
  refine lv_bipush (v := 10) hx hb dX12_blind_13 (by decide) ?_
  refine lv_icmp_ge (tgt := 31) hx hb dX12_blind_15 (by decide) (fun h => absurd h (by decide)) (fun _ => ?_)
  refine lv_aload_n hx hb dX12_blind_18 rfl (lv_at hl 2 rfl) ?_
  refine gt_X12 hx hb hts hown hK hP 5 rfl 82 (by decide) wd_1483 rfl (gs_ne (by decide) hf_fs0_82) dX12_blind_19 ?_
  refine lv_iload_n hx hb dX12_blind_22 rfl (lv_at hl 0 rfl) ?_
  refine lv_iconst (v := 0) hx hb dX12_blind_23 (by decide) ?_
  refine va_iast hx hb hK hP hD hS 4 0 rfl rfl (vp_in_c (by decide)) dX12_blind_24 (fun H locs hP hD hS => ?_)
  obtain ⟨f_8, ef_8⟩ : ∃ z, z = upd f7 (0 : Int32).toNatClampNeg 0 := ⟨_, rfl⟩
  rw [← ef_8] at hP hD
  have hP : va_P D vwCl [(q3, .inl (cI, 2, .inl f3)), (q4, .inl (cI, 400, .inl f4)), (q5, .inl (cZ, 400, .inl f5)), (q6, .inl (cJ, 290, .inr (.inl f6))), (q7, .inl (cI, 10, .inl f_8)), (h0, .inr (12, (fs0.set 45 (.int 0)))), (q2, .inl (cI, 250, .inl g1_7))] H := hP
  have hD : va_D A [(q3, .inl (cI, 2, .inl f3)), (q4, .inl (cI, 400, .inl f4)), (q5, .inl (cZ, 400, .inl f5)), (q6, .inl (cJ, 290, .inr (.inl f6))), (q7, .inl (cI, 10, .inl f_8)), (h0, .inr (12, (fs0.set 45 (.int 0)))), (q2, .inl (cI, 250, .inl g1_7))] := hD
  refine lv_iinc (v := 1) (lv' := [(2, .int 1), (1, .int 0), (0, .ref h0)]) hx hb dX12_blind_25 hl (k := 0) rfl (by decide) (by decide) rfl (fun ls hl => ?_)
  refine lv_goto (tgt := 12) hx hb dX12_blind_28 (by decide) ?_
  refine lv_iload_n hx hb dX12_blind_12 rfl (lv_at hl 0 rfl) ?_
  refine lv_bipush (v := 10) hx hb dX12_blind_13 (by decide) ?_
  refine lv_icmp_ge (tgt := 31) hx hb dX12_blind_15 (by decide) (fun h => absurd h (by decide)) (fun _ => ?_)
  refine lv_aload_n hx hb dX12_blind_18 rfl (lv_at hl 2 rfl) ?_
  refine gt_X12 hx hb hts hown hK hP 5 rfl 82 (by decide) wd_1483 rfl (gs_ne (by decide) hf_fs0_82) dX12_blind_19 ?_
  refine lv_iload_n hx hb dX12_blind_22 rfl (lv_at hl 0 rfl) ?_
  refine lv_iconst (v := 0) hx hb dX12_blind_23 (by decide) ?_
  refine va_iast hx hb hK hP hD hS 4 0 rfl rfl (vp_in_c (by decide)) dX12_blind_24 (fun H locs hP hD hS => ?_)
  obtain ⟨f_9, ef_9⟩ : ∃ z, z = upd f_8 (1 : Int32).toNatClampNeg 0 := ⟨_, rfl⟩
  rw [← ef_9] at hP hD
  have hP : va_P D vwCl [(q3, .inl (cI, 2, .inl f3)), (q4, .inl (cI, 400, .inl f4)), (q5, .inl (cZ, 400, .inl f5)), (q6, .inl (cJ, 290, .inr (.inl f6))), (q7, .inl (cI, 10, .inl f_9)), (h0, .inr (12, (fs0.set 45 (.int 0)))), (q2, .inl (cI, 250, .inl g1_7))] H := hP
  have hD : va_D A [(q3, .inl (cI, 2, .inl f3)), (q4, .inl (cI, 400, .inl f4)), (q5, .inl (cZ, 400, .inl f5)), (q6, .inl (cJ, 290, .inr (.inl f6))), (q7, .inl (cI, 10, .inl f_9)), (h0, .inr (12, (fs0.set 45 (.int 0)))), (q2, .inl (cI, 250, .inl g1_7))] := hD
  refine lv_iinc (v := 2) (lv' := [(2, .int 2), (1, .int 0), (0, .ref h0)]) hx hb dX12_blind_25 hl (k := 0) rfl (by decide) (by decide) rfl (fun ls hl => ?_)
  refine lv_goto (tgt := 12) hx hb dX12_blind_28 (by decide) ?_
  refine lv_iload_n hx hb dX12_blind_12 rfl (lv_at hl 0 rfl) ?_
  refine lv_bipush (v := 10) hx hb dX12_blind_13 (by decide) ?_
  refine lv_icmp_ge (tgt := 31) hx hb dX12_blind_15 (by decide) (fun h => absurd h (by decide)) (fun _ => ?_)
  refine lv_aload_n hx hb dX12_blind_18 rfl (lv_at hl 2 rfl) ?_
  refine gt_X12 hx hb hts hown hK hP 5 rfl 82 (by decide) wd_1483 rfl (gs_ne (by decide) hf_fs0_82) dX12_blind_19 ?_
  refine lv_iload_n hx hb dX12_blind_22 rfl (lv_at hl 0 rfl) ?_
  refine lv_iconst (v := 0) hx hb dX12_blind_23 (by decide) ?_
  refine va_iast hx hb hK hP hD hS 4 0 rfl rfl (vp_in_c (by decide)) dX12_blind_24 (fun H locs hP hD hS => ?_)
  obtain ⟨f_10, ef_10⟩ : ∃ z, z = upd f_9 (2 : Int32).toNatClampNeg 0 := ⟨_, rfl⟩
  rw [← ef_10] at hP hD
  have hP : va_P D vwCl [(q3, .inl (cI, 2, .inl f3)), (q4, .inl (cI, 400, .inl f4)), (q5, .inl (cZ, 400, .inl f5)), (q6, .inl (cJ, 290, .inr (.inl f6))), (q7, .inl (cI, 10, .inl f_10)), (h0, .inr (12, (fs0.set 45 (.int 0)))), (q2, .inl (cI, 250, .inl g1_7))] H := hP
  have hD : va_D A [(q3, .inl (cI, 2, .inl f3)), (q4, .inl (cI, 400, .inl f4)), (q5, .inl (cZ, 400, .inl f5)), (q6, .inl (cJ, 290, .inr (.inl f6))), (q7, .inl (cI, 10, .inl f_10)), (h0, .inr (12, (fs0.set 45 (.int 0)))), (q2, .inl (cI, 250, .inl g1_7))] := hD
  refine lv_iinc (v := 3) (lv' := [(2, .int 3), (1, .int 0), (0, .ref h0)]) hx hb dX12_blind_25 hl (k := 0) rfl (by decide) (by decide) rfl (fun ls hl => ?_)
  refine lv_goto (tgt := 12) hx hb dX12_blind_28 (by decide) ?_
  refine lv_iload_n hx hb dX12_blind_12 rfl (lv_at hl 0 rfl) ?_
  refine lv_bipush (v := 10) hx hb dX12_blind_13 (by decide) ?_
  refine lv_icmp_ge (tgt := 31) hx hb dX12_blind_15 (by decide) (fun h => absurd h (by decide)) (fun _ => ?_)
  refine lv_aload_n hx hb dX12_blind_18 rfl (lv_at hl 2 rfl) ?_
  refine gt_X12 hx hb hts hown hK hP 5 rfl 82 (by decide) wd_1483 rfl (gs_ne (by decide) hf_fs0_82) dX12_blind_19 ?_
  refine lv_iload_n hx hb dX12_blind_22 rfl (lv_at hl 0 rfl) ?_
  refine lv_iconst (v := 0) hx hb dX12_blind_23 (by decide) ?_
  refine va_iast hx hb hK hP hD hS 4 0 rfl rfl (vp_in_c (by decide)) dX12_blind_24 (fun H locs hP hD hS => ?_)
  obtain ⟨f_11, ef_11⟩ : ∃ z, z = upd f_10 (3 : Int32).toNatClampNeg 0 := ⟨_, rfl⟩
  rw [← ef_11] at hP hD
  have hP : va_P D vwCl [(q3, .inl (cI, 2, .inl f3)), (q4, .inl (cI, 400, .inl f4)), (q5, .inl (cZ, 400, .inl f5)), (q6, .inl (cJ, 290, .inr (.inl f6))), (q7, .inl (cI, 10, .inl f_11)), (h0, .inr (12, (fs0.set 45 (.int 0)))), (q2, .inl (cI, 250, .inl g1_7))] H := hP
  have hD : va_D A [(q3, .inl (cI, 2, .inl f3)), (q4, .inl (cI, 400, .inl f4)), (q5, .inl (cZ, 400, .inl f5)), (q6, .inl (cJ, 290, .inr (.inl f6))), (q7, .inl (cI, 10, .inl f_11)), (h0, .inr (12, (fs0.set 45 (.int 0)))), (q2, .inl (cI, 250, .inl g1_7))] := hD
  refine lv_iinc (v := 4) (lv' := [(2, .int 4), (1, .int 0), (0, .ref h0)]) hx hb dX12_blind_25 hl (k := 0) rfl (by decide) (by decide) rfl (fun ls hl => ?_)
  refine lv_goto (tgt := 12) hx hb dX12_blind_28 (by decide) ?_
  refine lv_iload_n hx hb dX12_blind_12 rfl (lv_at hl 0 rfl) ?_
  refine lv_bipush (v := 10) hx hb dX12_blind_13 (by decide) ?_
  refine lv_icmp_ge (tgt := 31) hx hb dX12_blind_15 (by decide) (fun h => absurd h (by decide)) (fun _ => ?_)
  refine lv_aload_n hx hb dX12_blind_18 rfl (lv_at hl 2 rfl) ?_
  refine gt_X12 hx hb hts hown hK hP 5 rfl 82 (by decide) wd_1483 rfl (gs_ne (by decide) hf_fs0_82) dX12_blind_19 ?_
  refine lv_iload_n hx hb dX12_blind_22 rfl (lv_at hl 0 rfl) ?_
  refine lv_iconst (v := 0) hx hb dX12_blind_23 (by decide) ?_
  refine va_iast hx hb hK hP hD hS 4 0 rfl rfl (vp_in_c (by decide)) dX12_blind_24 (fun H locs hP hD hS => ?_)
  obtain ⟨f_12, ef_12⟩ : ∃ z, z = upd f_11 (4 : Int32).toNatClampNeg 0 := ⟨_, rfl⟩
  rw [← ef_12] at hP hD
  have hP : va_P D vwCl [(q3, .inl (cI, 2, .inl f3)), (q4, .inl (cI, 400, .inl f4)), (q5, .inl (cZ, 400, .inl f5)), (q6, .inl (cJ, 290, .inr (.inl f6))), (q7, .inl (cI, 10, .inl f_12)), (h0, .inr (12, (fs0.set 45 (.int 0)))), (q2, .inl (cI, 250, .inl g1_7))] H := hP
  have hD : va_D A [(q3, .inl (cI, 2, .inl f3)), (q4, .inl (cI, 400, .inl f4)), (q5, .inl (cZ, 400, .inl f5)), (q6, .inl (cJ, 290, .inr (.inl f6))), (q7, .inl (cI, 10, .inl f_12)), (h0, .inr (12, (fs0.set 45 (.int 0)))), (q2, .inl (cI, 250, .inl g1_7))] := hD
  refine lv_iinc (v := 5) (lv' := [(2, .int 5), (1, .int 0), (0, .ref h0)]) hx hb dX12_blind_25 hl (k := 0) rfl (by decide) (by decide) rfl (fun ls hl => ?_)
  refine lv_goto (tgt := 12) hx hb dX12_blind_28 (by decide) ?_
  refine lv_iload_n hx hb dX12_blind_12 rfl (lv_at hl 0 rfl) ?_
  refine lv_bipush (v := 10) hx hb dX12_blind_13 (by decide) ?_
  refine lv_icmp_ge (tgt := 31) hx hb dX12_blind_15 (by decide) (fun h => absurd h (by decide)) (fun _ => ?_)
  refine lv_aload_n hx hb dX12_blind_18 rfl (lv_at hl 2 rfl) ?_
  refine gt_X12 hx hb hts hown hK hP 5 rfl 82 (by decide) wd_1483 rfl (gs_ne (by decide) hf_fs0_82) dX12_blind_19 ?_
  refine lv_iload_n hx hb dX12_blind_22 rfl (lv_at hl 0 rfl) ?_
  refine lv_iconst (v := 0) hx hb dX12_blind_23 (by decide) ?_
  refine va_iast hx hb hK hP hD hS 4 0 rfl rfl (vp_in_c (by decide)) dX12_blind_24 (fun H locs hP hD hS => ?_)
  obtain ⟨f_13, ef_13⟩ : ∃ z, z = upd f_12 (5 : Int32).toNatClampNeg 0 := ⟨_, rfl⟩
  rw [← ef_13] at hP hD
  have hP : va_P D vwCl [(q3, .inl (cI, 2, .inl f3)), (q4, .inl (cI, 400, .inl f4)), (q5, .inl (cZ, 400, .inl f5)), (q6, .inl (cJ, 290, .inr (.inl f6))), (q7, .inl (cI, 10, .inl f_13)), (h0, .inr (12, (fs0.set 45 (.int 0)))), (q2, .inl (cI, 250, .inl g1_7))] H := hP
  have hD : va_D A [(q3, .inl (cI, 2, .inl f3)), (q4, .inl (cI, 400, .inl f4)), (q5, .inl (cZ, 400, .inl f5)), (q6, .inl (cJ, 290, .inr (.inl f6))), (q7, .inl (cI, 10, .inl f_13)), (h0, .inr (12, (fs0.set 45 (.int 0)))), (q2, .inl (cI, 250, .inl g1_7))] := hD
  refine lv_iinc (v := 6) (lv' := [(2, .int 6), (1, .int 0), (0, .ref h0)]) hx hb dX12_blind_25 hl (k := 0) rfl (by decide) (by decide) rfl (fun ls hl => ?_)
  refine lv_goto (tgt := 12) hx hb dX12_blind_28 (by decide) ?_
  refine lv_iload_n hx hb dX12_blind_12 rfl (lv_at hl 0 rfl) ?_
  refine lv_bipush (v := 10) hx hb dX12_blind_13 (by decide) ?_
  refine lv_icmp_ge (tgt := 31) hx hb dX12_blind_15 (by decide) (fun h => absurd h (by decide)) (fun _ => ?_)
  refine lv_aload_n hx hb dX12_blind_18 rfl (lv_at hl 2 rfl) ?_
  refine gt_X12 hx hb hts hown hK hP 5 rfl 82 (by decide) wd_1483 rfl (gs_ne (by decide) hf_fs0_82) dX12_blind_19 ?_
  refine lv_iload_n hx hb dX12_blind_22 rfl (lv_at hl 0 rfl) ?_
  refine lv_iconst (v := 0) hx hb dX12_blind_23 (by decide) ?_
  refine va_iast hx hb hK hP hD hS 4 0 rfl rfl (vp_in_c (by decide)) dX12_blind_24 (fun H locs hP hD hS => ?_)
  obtain ⟨f_14, ef_14⟩ : ∃ z, z = upd f_13 (6 : Int32).toNatClampNeg 0 := ⟨_, rfl⟩
  rw [← ef_14] at hP hD
  have hP : va_P D vwCl [(q3, .inl (cI, 2, .inl f3)), (q4, .inl (cI, 400, .inl f4)), (q5, .inl (cZ, 400, .inl f5)), (q6, .inl (cJ, 290, .inr (.inl f6))), (q7, .inl (cI, 10, .inl f_14)), (h0, .inr (12, (fs0.set 45 (.int 0)))), (q2, .inl (cI, 250, .inl g1_7))] H := hP
  have hD : va_D A [(q3, .inl (cI, 2, .inl f3)), (q4, .inl (cI, 400, .inl f4)), (q5, .inl (cZ, 400, .inl f5)), (q6, .inl (cJ, 290, .inr (.inl f6))), (q7, .inl (cI, 10, .inl f_14)), (h0, .inr (12, (fs0.set 45 (.int 0)))), (q2, .inl (cI, 250, .inl g1_7))] := hD
  refine lv_iinc (v := 7) (lv' := [(2, .int 7), (1, .int 0), (0, .ref h0)]) hx hb dX12_blind_25 hl (k := 0) rfl (by decide) (by decide) rfl (fun ls hl => ?_)
  refine lv_goto (tgt := 12) hx hb dX12_blind_28 (by decide) ?_
  refine lv_iload_n hx hb dX12_blind_12 rfl (lv_at hl 0 rfl) ?_
  refine lv_bipush (v := 10) hx hb dX12_blind_13 (by decide) ?_
  refine lv_icmp_ge (tgt := 31) hx hb dX12_blind_15 (by decide) (fun h => absurd h (by decide)) (fun _ => ?_)
  refine lv_aload_n hx hb dX12_blind_18 rfl (lv_at hl 2 rfl) ?_
  refine gt_X12 hx hb hts hown hK hP 5 rfl 82 (by decide) wd_1483 rfl (gs_ne (by decide) hf_fs0_82) dX12_blind_19 ?_
  refine lv_iload_n hx hb dX12_blind_22 rfl (lv_at hl 0 rfl) ?_
  refine lv_iconst (v := 0) hx hb dX12_blind_23 (by decide) ?_
  refine va_iast hx hb hK hP hD hS 4 0 rfl rfl (vp_in_c (by decide)) dX12_blind_24 (fun H locs hP hD hS => ?_)
  obtain ⟨f_15, ef_15⟩ : ∃ z, z = upd f_14 (7 : Int32).toNatClampNeg 0 := ⟨_, rfl⟩
  rw [← ef_15] at hP hD
  have hP : va_P D vwCl [(q3, .inl (cI, 2, .inl f3)), (q4, .inl (cI, 400, .inl f4)), (q5, .inl (cZ, 400, .inl f5)), (q6, .inl (cJ, 290, .inr (.inl f6))), (q7, .inl (cI, 10, .inl f_15)), (h0, .inr (12, (fs0.set 45 (.int 0)))), (q2, .inl (cI, 250, .inl g1_7))] H := hP
  have hD : va_D A [(q3, .inl (cI, 2, .inl f3)), (q4, .inl (cI, 400, .inl f4)), (q5, .inl (cZ, 400, .inl f5)), (q6, .inl (cJ, 290, .inr (.inl f6))), (q7, .inl (cI, 10, .inl f_15)), (h0, .inr (12, (fs0.set 45 (.int 0)))), (q2, .inl (cI, 250, .inl g1_7))] := hD
  refine lv_iinc (v := 8) (lv' := [(2, .int 8), (1, .int 0), (0, .ref h0)]) hx hb dX12_blind_25 hl (k := 0) rfl (by decide) (by decide) rfl (fun ls hl => ?_)
  refine lv_goto (tgt := 12) hx hb dX12_blind_28 (by decide) ?_
  refine lv_iload_n hx hb dX12_blind_12 rfl (lv_at hl 0 rfl) ?_
  refine lv_bipush (v := 10) hx hb dX12_blind_13 (by decide) ?_
  refine lv_icmp_ge (tgt := 31) hx hb dX12_blind_15 (by decide) (fun h => absurd h (by decide)) (fun _ => ?_)
  refine lv_aload_n hx hb dX12_blind_18 rfl (lv_at hl 2 rfl) ?_
  refine gt_X12 hx hb hts hown hK hP 5 rfl 82 (by decide) wd_1483 rfl (gs_ne (by decide) hf_fs0_82) dX12_blind_19 ?_
  refine lv_iload_n hx hb dX12_blind_22 rfl (lv_at hl 0 rfl) ?_
  refine lv_iconst (v := 0) hx hb dX12_blind_23 (by decide) ?_
  refine va_iast hx hb hK hP hD hS 4 0 rfl rfl (vp_in_c (by decide)) dX12_blind_24 (fun H locs hP hD hS => ?_)
  obtain ⟨f_16, ef_16⟩ : ∃ z, z = upd f_15 (8 : Int32).toNatClampNeg 0 := ⟨_, rfl⟩
  rw [← ef_16] at hP hD
  have hP : va_P D vwCl [(q3, .inl (cI, 2, .inl f3)), (q4, .inl (cI, 400, .inl f4)), (q5, .inl (cZ, 400, .inl f5)), (q6, .inl (cJ, 290, .inr (.inl f6))), (q7, .inl (cI, 10, .inl f_16)), (h0, .inr (12, (fs0.set 45 (.int 0)))), (q2, .inl (cI, 250, .inl g1_7))] H := hP
  have hD : va_D A [(q3, .inl (cI, 2, .inl f3)), (q4, .inl (cI, 400, .inl f4)), (q5, .inl (cZ, 400, .inl f5)), (q6, .inl (cJ, 290, .inr (.inl f6))), (q7, .inl (cI, 10, .inl f_16)), (h0, .inr (12, (fs0.set 45 (.int 0)))), (q2, .inl (cI, 250, .inl g1_7))] := hD
  refine lv_iinc (v := 9) (lv' := [(2, .int 9), (1, .int 0), (0, .ref h0)]) hx hb dX12_blind_25 hl (k := 0) rfl (by decide) (by decide) rfl (fun ls hl => ?_)
  refine lv_goto (tgt := 12) hx hb dX12_blind_28 (by decide) ?_
  refine lv_iload_n hx hb dX12_blind_12 rfl (lv_at hl 0 rfl) ?_
  refine lv_bipush (v := 10) hx hb dX12_blind_13 (by decide) ?_
  refine lv_icmp_ge (tgt := 31) hx hb dX12_blind_15 (by decide) (fun h => absurd h (by decide)) (fun _ => ?_)
  refine lv_aload_n hx hb dX12_blind_18 rfl (lv_at hl 2 rfl) ?_
  refine gt_X12 hx hb hts hown hK hP 5 rfl 82 (by decide) wd_1483 rfl (gs_ne (by decide) hf_fs0_82) dX12_blind_19 ?_
  refine lv_iload_n hx hb dX12_blind_22 rfl (lv_at hl 0 rfl) ?_
  refine lv_iconst (v := 0) hx hb dX12_blind_23 (by decide) ?_
  refine va_iast hx hb hK hP hD hS 4 0 rfl rfl (vp_in_c (by decide)) dX12_blind_24 (fun H locs hP hD hS => ?_)
  obtain ⟨f_17, ef_17⟩ : ∃ z, z = upd f_16 (9 : Int32).toNatClampNeg 0 := ⟨_, rfl⟩
  rw [← ef_17] at hP hD
  have hP : va_P D vwCl [(q3, .inl (cI, 2, .inl f3)), (q4, .inl (cI, 400, .inl f4)), (q5, .inl (cZ, 400, .inl f5)), (q6, .inl (cJ, 290, .inr (.inl f6))), (q7, .inl (cI, 10, .inl f_17)), (h0, .inr (12, (fs0.set 45 (.int 0)))), (q2, .inl (cI, 250, .inl g1_7))] H := hP
  have hD : va_D A [(q3, .inl (cI, 2, .inl f3)), (q4, .inl (cI, 400, .inl f4)), (q5, .inl (cZ, 400, .inl f5)), (q6, .inl (cJ, 290, .inr (.inl f6))), (q7, .inl (cI, 10, .inl f_17)), (h0, .inr (12, (fs0.set 45 (.int 0)))), (q2, .inl (cI, 250, .inl g1_7))] := hD
  refine lv_iinc (v := 10) (lv' := [(2, .int 10), (1, .int 0), (0, .ref h0)]) hx hb dX12_blind_25 hl (k := 0) rfl (by decide) (by decide) rfl (fun ls hl => ?_)
  refine lv_goto (tgt := 12) hx hb dX12_blind_28 (by decide) ?_
  refine lv_iload_n hx hb dX12_blind_12 rfl (lv_at hl 0 rfl) ?_
  refine lv_bipush (v := 10) hx hb dX12_blind_13 (by decide) ?_
  refine lv_icmp_ge (tgt := 31) hx hb dX12_blind_15 (by decide) (fun _ => ?_) (fun h => (h (by decide)).elim)
  refine lv_iconst (v := 1) hx hb dX12_blind_31 (by decide) ?_
  refine lv_istore_n (lv' := [(2, .int 1), (1, .int 0), (0, .ref h0)]) hx hb dX12_blind_32 rfl hl (by decide) rfl (fun ls hl => ?_)
  refine lv_iload_n hx hb dX12_blind_33 rfl (lv_at hl 0 rfl) ?_
  refine lv_bipush (v := 24) hx hb dX12_blind_34 (by decide) ?_
  refine lv_icmp_gt (tgt := 53) hx hb dX12_blind_36 (by decide) (fun h => absurd h (by decide)) (fun _ => ?_)
  refine lv_iload_n hx hb dX12_blind_39 rfl (lv_at hl 1 rfl) ?_
  refine lv_aload_n hx hb dX12_blind_40 rfl (lv_at hl 2 rfl) ?_
  refine lv_iload_n hx hb dX12_blind_41 rfl (lv_at hl 0 rfl) ?_
  refine cl_i (wr := [(q7, .inl (cI, 10, .inl f_17)), (q2, .inl (cI, 250, .inl g1_7))]) (rn_V (As := [.int 1]) (rest := [.int 0]) hx hb hml hown hts (c_X12_blindDay l D cI cJ cZ h0 q3 q4 q5 q6 (fs0.set 45 (.int 0)) f3 f4 f5 f6 1 (ln_set hl_fs0) (gs_ne (by decide) hf_fs0_12) (gs_eq (ln_lt hl_fs0 (by decide))) (gs_ne (by decide) hf_fs0_14) (gs_ne (by decide) hf_fs0_65) (gs_ne (by decide) hf_fs0_66) (gs_ne (by decide) hf_fs0_63) ha_f3 _) ⟨rfl, rfl⟩ sv_X12_550 ⟨(Nat.le_of_ble_eq_true rfl), (Nat.le_of_ble_eq_true rfl)⟩ ⟨(Nat.le_of_ble_eq_true rfl), (Nat.le_of_ble_eq_true rfl)⟩ (fun _ _ _ _ h => h) (fun _ _ _ => trivial) hK hP hD [5, 0, 1, 2, 3] rfl rfl 0 12 rfl rfl rfl rfl hl.1 rfl (Nat.le_of_ble_eq_true rfl) dX12_blind_42) hP hD hS hA [5, 0, 1, 2, 3] [4, 6] rfl rfl rfl (by decide) (fun r_20 w_19 H locs hw_18 hP hD hS => ?_)
  obtain ⟨g4_21, g5_22, g6_23, rfl, hr_24⟩ := hw_18
  have hP : va_P D vwCl [(q7, .inl (cI, 10, .inl f_17)), (q2, .inl (cI, 250, .inl g1_7)), (h0, .inr (12, ((fs0.set 45 (.int 0)).set 62 (.int 0)))), (q3, .inl (cI, 2, .inl f3)), (q4, .inl (cI, 400, .inl g4_21)), (q5, .inl (cZ, 400, .inl g5_22)), (q6, .inl (cJ, 290, .inr (.inl g6_23)))] H := hP
  have hD : va_D A [(q7, .inl (cI, 10, .inl f_17)), (q2, .inl (cI, 250, .inl g1_7)), (h0, .inr (12, ((fs0.set 45 (.int 0)).set 62 (.int 0)))), (q3, .inl (cI, 2, .inl f3)), (q4, .inl (cI, 400, .inl g4_21)), (q5, .inl (cZ, 400, .inl g5_22)), (q6, .inl (cJ, 290, .inr (.inl g6_23)))] := hD
  refine tov (v := 0) hr_24 ?_
  refine lv_iadd hx hb dX12_blind_45 ?_
  refine tov (v := 0) (by decide) ?_
  refine lv_istore_n (lv' := [(1, .int 0), (2, .int 1), (0, .ref h0)]) hx hb dX12_blind_46 rfl hl (by decide) rfl (fun ls hl => ?_)
  refine lv_iinc (v := 2) (lv' := [(2, .int 2), (1, .int 0), (0, .ref h0)]) hx hb dX12_blind_47 hl (k := 1) rfl (by decide) (by decide) rfl (fun ls hl => ?_)
  refine lv_goto (tgt := 33) hx hb dX12_blind_50 (by decide) ?_
  refine lv_iload_n hx hb dX12_blind_33 rfl (lv_at hl 0 rfl) ?_
  refine lv_bipush (v := 24) hx hb dX12_blind_34 (by decide) ?_
  refine lv_icmp_gt (tgt := 53) hx hb dX12_blind_36 (by decide) (fun h => absurd h (by decide)) (fun _ => ?_)
  refine lv_iload_n hx hb dX12_blind_39 rfl (lv_at hl 1 rfl) ?_
  refine lv_aload_n hx hb dX12_blind_40 rfl (lv_at hl 2 rfl) ?_
  refine lv_iload_n hx hb dX12_blind_41 rfl (lv_at hl 0 rfl) ?_
  refine cl_i (wr := [(q7, .inl (cI, 10, .inl f_17)), (q2, .inl (cI, 250, .inl g1_7))]) (rn_V (As := [.int 2]) (rest := [.int 0]) hx hb hml hown hts (c_X12_blindDay l D cI cJ cZ h0 q3 q4 q5 q6 ((fs0.set 45 (.int 0)).set 62 (.int 0)) f3 g4_21 g5_22 g6_23 2 (ln_set (ln_set hl_fs0)) (gs_ne (by decide) (gs_ne (by decide) hf_fs0_12)) (gs_ne (by decide) (gs_eq (ln_lt hl_fs0 (by decide)))) (gs_ne (by decide) (gs_ne (by decide) hf_fs0_14)) (gs_ne (by decide) (gs_ne (by decide) hf_fs0_65)) (gs_ne (by decide) (gs_ne (by decide) hf_fs0_66)) (gs_ne (by decide) (gs_ne (by decide) hf_fs0_63)) ha_f3 _) ⟨rfl, rfl⟩ sv_X12_550 ⟨(Nat.le_of_ble_eq_true rfl), (Nat.le_of_ble_eq_true rfl)⟩ ⟨(Nat.le_of_ble_eq_true rfl), (Nat.le_of_ble_eq_true rfl)⟩ (fun _ _ _ _ h => h) (fun _ _ _ => trivial) hK hP hD [2, 3, 4, 5, 6] rfl rfl 0 12 rfl rfl rfl rfl hl.1 rfl (Nat.le_of_ble_eq_true rfl) dX12_blind_42) hP hD hS hA [2, 3, 4, 5, 6] [0, 1] rfl rfl rfl (by decide) (fun r_27 w_26 H locs hw_25 hP hD hS => ?_)
  obtain ⟨g4_28, g5_29, g6_30, rfl, hr_31⟩ := hw_25
  have hP : va_P D vwCl [(q7, .inl (cI, 10, .inl f_17)), (q2, .inl (cI, 250, .inl g1_7)), (h0, .inr (12, (((fs0.set 45 (.int 0)).set 62 (.int 0)).set 62 (.int 0)))), (q3, .inl (cI, 2, .inl f3)), (q4, .inl (cI, 400, .inl g4_28)), (q5, .inl (cZ, 400, .inl g5_29)), (q6, .inl (cJ, 290, .inr (.inl g6_30)))] H := hP
  have hD : va_D A [(q7, .inl (cI, 10, .inl f_17)), (q2, .inl (cI, 250, .inl g1_7)), (h0, .inr (12, (((fs0.set 45 (.int 0)).set 62 (.int 0)).set 62 (.int 0)))), (q3, .inl (cI, 2, .inl f3)), (q4, .inl (cI, 400, .inl g4_28)), (q5, .inl (cZ, 400, .inl g5_29)), (q6, .inl (cJ, 290, .inr (.inl g6_30)))] := hD
  refine tov (v := 0) hr_31 ?_
  refine lv_iadd hx hb dX12_blind_45 ?_
  refine tov (v := 0) (by decide) ?_
  refine lv_istore_n (lv' := [(1, .int 0), (2, .int 2), (0, .ref h0)]) hx hb dX12_blind_46 rfl hl (by decide) rfl (fun ls hl => ?_)
  refine lv_iinc (v := 3) (lv' := [(2, .int 3), (1, .int 0), (0, .ref h0)]) hx hb dX12_blind_47 hl (k := 1) rfl (by decide) (by decide) rfl (fun ls hl => ?_)
  refine lv_goto (tgt := 33) hx hb dX12_blind_50 (by decide) ?_
  refine lv_iload_n hx hb dX12_blind_33 rfl (lv_at hl 0 rfl) ?_
  refine lv_bipush (v := 24) hx hb dX12_blind_34 (by decide) ?_
  refine lv_icmp_gt (tgt := 53) hx hb dX12_blind_36 (by decide) (fun h => absurd h (by decide)) (fun _ => ?_)
  refine lv_iload_n hx hb dX12_blind_39 rfl (lv_at hl 1 rfl) ?_
  refine lv_aload_n hx hb dX12_blind_40 rfl (lv_at hl 2 rfl) ?_
  refine lv_iload_n hx hb dX12_blind_41 rfl (lv_at hl 0 rfl) ?_
  refine cl_i (wr := [(q7, .inl (cI, 10, .inl f_17)), (q2, .inl (cI, 250, .inl g1_7))]) (rn_V (As := [.int 3]) (rest := [.int 0]) hx hb hml hown hts (c_X12_blindDay l D cI cJ cZ h0 q3 q4 q5 q6 (((fs0.set 45 (.int 0)).set 62 (.int 0)).set 62 (.int 0)) f3 g4_28 g5_29 g6_30 3 (ln_set (ln_set (ln_set hl_fs0))) (gs_ne (by decide) (gs_ne (by decide) (gs_ne (by decide) hf_fs0_12))) (gs_ne (by decide) (gs_ne (by decide) (gs_eq (ln_lt hl_fs0 (by decide))))) (gs_ne (by decide) (gs_ne (by decide) (gs_ne (by decide) hf_fs0_14))) (gs_ne (by decide) (gs_ne (by decide) (gs_ne (by decide) hf_fs0_65))) (gs_ne (by decide) (gs_ne (by decide) (gs_ne (by decide) hf_fs0_66))) (gs_ne (by decide) (gs_ne (by decide) (gs_ne (by decide) hf_fs0_63))) ha_f3 _) ⟨rfl, rfl⟩ sv_X12_550 ⟨(Nat.le_of_ble_eq_true rfl), (Nat.le_of_ble_eq_true rfl)⟩ ⟨(Nat.le_of_ble_eq_true rfl), (Nat.le_of_ble_eq_true rfl)⟩ (fun _ _ _ _ h => h) (fun _ _ _ => trivial) hK hP hD [2, 3, 4, 5, 6] rfl rfl 0 12 rfl rfl rfl rfl hl.1 rfl (Nat.le_of_ble_eq_true rfl) dX12_blind_42) hP hD hS hA [2, 3, 4, 5, 6] [0, 1] rfl rfl rfl (by decide) (fun r_34 w_33 H locs hw_32 hP hD hS => ?_)
  obtain ⟨g4_35, g5_36, g6_37, rfl, hr_38⟩ := hw_32
  have hP : va_P D vwCl [(q7, .inl (cI, 10, .inl f_17)), (q2, .inl (cI, 250, .inl g1_7)), (h0, .inr (12, ((((fs0.set 45 (.int 0)).set 62 (.int 0)).set 62 (.int 0)).set 62 (.int 0)))), (q3, .inl (cI, 2, .inl f3)), (q4, .inl (cI, 400, .inl g4_35)), (q5, .inl (cZ, 400, .inl g5_36)), (q6, .inl (cJ, 290, .inr (.inl g6_37)))] H := hP
  have hD : va_D A [(q7, .inl (cI, 10, .inl f_17)), (q2, .inl (cI, 250, .inl g1_7)), (h0, .inr (12, ((((fs0.set 45 (.int 0)).set 62 (.int 0)).set 62 (.int 0)).set 62 (.int 0)))), (q3, .inl (cI, 2, .inl f3)), (q4, .inl (cI, 400, .inl g4_35)), (q5, .inl (cZ, 400, .inl g5_36)), (q6, .inl (cJ, 290, .inr (.inl g6_37)))] := hD
  refine tov (v := 0) hr_38 ?_
  refine lv_iadd hx hb dX12_blind_45 ?_
  refine tov (v := 0) (by decide) ?_
  refine lv_istore_n (lv' := [(1, .int 0), (2, .int 3), (0, .ref h0)]) hx hb dX12_blind_46 rfl hl (by decide) rfl (fun ls hl => ?_)
  refine lv_iinc (v := 4) (lv' := [(2, .int 4), (1, .int 0), (0, .ref h0)]) hx hb dX12_blind_47 hl (k := 1) rfl (by decide) (by decide) rfl (fun ls hl => ?_)
  refine lv_goto (tgt := 33) hx hb dX12_blind_50 (by decide) ?_
  refine lv_iload_n hx hb dX12_blind_33 rfl (lv_at hl 0 rfl) ?_
  refine lv_bipush (v := 24) hx hb dX12_blind_34 (by decide) ?_
  refine lv_icmp_gt (tgt := 53) hx hb dX12_blind_36 (by decide) (fun h => absurd h (by decide)) (fun _ => ?_)
  refine lv_iload_n hx hb dX12_blind_39 rfl (lv_at hl 1 rfl) ?_
  refine lv_aload_n hx hb dX12_blind_40 rfl (lv_at hl 2 rfl) ?_
  refine lv_iload_n hx hb dX12_blind_41 rfl (lv_at hl 0 rfl) ?_
  refine cl_i (wr := [(q7, .inl (cI, 10, .inl f_17)), (q2, .inl (cI, 250, .inl g1_7))]) (rn_V (As := [.int 4]) (rest := [.int 0]) hx hb hml hown hts (c_X12_blindDay l D cI cJ cZ h0 q3 q4 q5 q6 ((((fs0.set 45 (.int 0)).set 62 (.int 0)).set 62 (.int 0)).set 62 (.int 0)) f3 g4_35 g5_36 g6_37 4 (ln_set (ln_set (ln_set (ln_set hl_fs0)))) (gs_ne (by decide) (gs_ne (by decide) (gs_ne (by decide) (gs_ne (by decide) hf_fs0_12)))) (gs_ne (by decide) (gs_ne (by decide) (gs_ne (by decide) (gs_eq (ln_lt hl_fs0 (by decide)))))) (gs_ne (by decide) (gs_ne (by decide) (gs_ne (by decide) (gs_ne (by decide) hf_fs0_14)))) (gs_ne (by decide) (gs_ne (by decide) (gs_ne (by decide) (gs_ne (by decide) hf_fs0_65)))) (gs_ne (by decide) (gs_ne (by decide) (gs_ne (by decide) (gs_ne (by decide) hf_fs0_66)))) (gs_ne (by decide) (gs_ne (by decide) (gs_ne (by decide) (gs_ne (by decide) hf_fs0_63)))) ha_f3 _) ⟨rfl, rfl⟩ sv_X12_550 ⟨(Nat.le_of_ble_eq_true rfl), (Nat.le_of_ble_eq_true rfl)⟩ ⟨(Nat.le_of_ble_eq_true rfl), (Nat.le_of_ble_eq_true rfl)⟩ (fun _ _ _ _ h => h) (fun _ _ _ => trivial) hK hP hD [2, 3, 4, 5, 6] rfl rfl 0 12 rfl rfl rfl rfl hl.1 rfl (Nat.le_of_ble_eq_true rfl) dX12_blind_42) hP hD hS hA [2, 3, 4, 5, 6] [0, 1] rfl rfl rfl (by decide) (fun r_41 w_40 H locs hw_39 hP hD hS => ?_)
  obtain ⟨g4_42, g5_43, g6_44, rfl, hr_45⟩ := hw_39
  have hP : va_P D vwCl [(q7, .inl (cI, 10, .inl f_17)), (q2, .inl (cI, 250, .inl g1_7)), (h0, .inr (12, (((((fs0.set 45 (.int 0)).set 62 (.int 0)).set 62 (.int 0)).set 62 (.int 0)).set 62 (.int 0)))), (q3, .inl (cI, 2, .inl f3)), (q4, .inl (cI, 400, .inl g4_42)), (q5, .inl (cZ, 400, .inl g5_43)), (q6, .inl (cJ, 290, .inr (.inl g6_44)))] H := hP
  have hD : va_D A [(q7, .inl (cI, 10, .inl f_17)), (q2, .inl (cI, 250, .inl g1_7)), (h0, .inr (12, (((((fs0.set 45 (.int 0)).set 62 (.int 0)).set 62 (.int 0)).set 62 (.int 0)).set 62 (.int 0)))), (q3, .inl (cI, 2, .inl f3)), (q4, .inl (cI, 400, .inl g4_42)), (q5, .inl (cZ, 400, .inl g5_43)), (q6, .inl (cJ, 290, .inr (.inl g6_44)))] := hD
  refine tov (v := 0) hr_45 ?_
  refine lv_iadd hx hb dX12_blind_45 ?_
  refine tov (v := 0) (by decide) ?_
  refine lv_istore_n (lv' := [(1, .int 0), (2, .int 4), (0, .ref h0)]) hx hb dX12_blind_46 rfl hl (by decide) rfl (fun ls hl => ?_)
  refine lv_iinc (v := 5) (lv' := [(2, .int 5), (1, .int 0), (0, .ref h0)]) hx hb dX12_blind_47 hl (k := 1) rfl (by decide) (by decide) rfl (fun ls hl => ?_)
  refine lv_goto (tgt := 33) hx hb dX12_blind_50 (by decide) ?_
  refine lv_iload_n hx hb dX12_blind_33 rfl (lv_at hl 0 rfl) ?_
  refine lv_bipush (v := 24) hx hb dX12_blind_34 (by decide) ?_
  refine lv_icmp_gt (tgt := 53) hx hb dX12_blind_36 (by decide) (fun h => absurd h (by decide)) (fun _ => ?_)
  refine lv_iload_n hx hb dX12_blind_39 rfl (lv_at hl 1 rfl) ?_
  refine lv_aload_n hx hb dX12_blind_40 rfl (lv_at hl 2 rfl) ?_
  refine lv_iload_n hx hb dX12_blind_41 rfl (lv_at hl 0 rfl) ?_
  refine cl_i (wr := [(q7, .inl (cI, 10, .inl f_17)), (q2, .inl (cI, 250, .inl g1_7))]) (rn_V (As := [.int 5]) (rest := [.int 0]) hx hb hml hown hts (c_X12_blindDay l D cI cJ cZ h0 q3 q4 q5 q6 (((((fs0.set 45 (.int 0)).set 62 (.int 0)).set 62 (.int 0)).set 62 (.int 0)).set 62 (.int 0)) f3 g4_42 g5_43 g6_44 5 (ln_set (ln_set (ln_set (ln_set (ln_set hl_fs0))))) (gs_ne (by decide) (gs_ne (by decide) (gs_ne (by decide) (gs_ne (by decide) (gs_ne (by decide) hf_fs0_12))))) (gs_ne (by decide) (gs_ne (by decide) (gs_ne (by decide) (gs_ne (by decide) (gs_eq (ln_lt hl_fs0 (by decide))))))) (gs_ne (by decide) (gs_ne (by decide) (gs_ne (by decide) (gs_ne (by decide) (gs_ne (by decide) hf_fs0_14))))) (gs_ne (by decide) (gs_ne (by decide) (gs_ne (by decide) (gs_ne (by decide) (gs_ne (by decide) hf_fs0_65))))) (gs_ne (by decide) (gs_ne (by decide) (gs_ne (by decide) (gs_ne (by decide) (gs_ne (by decide) hf_fs0_66))))) (gs_ne (by decide) (gs_ne (by decide) (gs_ne (by decide) (gs_ne (by decide) (gs_ne (by decide) hf_fs0_63))))) ha_f3 _) ⟨rfl, rfl⟩ sv_X12_550 ⟨(Nat.le_of_ble_eq_true rfl), (Nat.le_of_ble_eq_true rfl)⟩ ⟨(Nat.le_of_ble_eq_true rfl), (Nat.le_of_ble_eq_true rfl)⟩ (fun _ _ _ _ h => h) (fun _ _ _ => trivial) hK hP hD [2, 3, 4, 5, 6] rfl rfl 0 12 rfl rfl rfl rfl hl.1 rfl (Nat.le_of_ble_eq_true rfl) dX12_blind_42) hP hD hS hA [2, 3, 4, 5, 6] [0, 1] rfl rfl rfl (by decide) (fun r_48 w_47 H locs hw_46 hP hD hS => ?_)
  obtain ⟨g4_49, g5_50, g6_51, rfl, hr_52⟩ := hw_46
  have hP : va_P D vwCl [(q7, .inl (cI, 10, .inl f_17)), (q2, .inl (cI, 250, .inl g1_7)), (h0, .inr (12, ((((((fs0.set 45 (.int 0)).set 62 (.int 0)).set 62 (.int 0)).set 62 (.int 0)).set 62 (.int 0)).set 62 (.int 0)))), (q3, .inl (cI, 2, .inl f3)), (q4, .inl (cI, 400, .inl g4_49)), (q5, .inl (cZ, 400, .inl g5_50)), (q6, .inl (cJ, 290, .inr (.inl g6_51)))] H := hP
  have hD : va_D A [(q7, .inl (cI, 10, .inl f_17)), (q2, .inl (cI, 250, .inl g1_7)), (h0, .inr (12, ((((((fs0.set 45 (.int 0)).set 62 (.int 0)).set 62 (.int 0)).set 62 (.int 0)).set 62 (.int 0)).set 62 (.int 0)))), (q3, .inl (cI, 2, .inl f3)), (q4, .inl (cI, 400, .inl g4_49)), (q5, .inl (cZ, 400, .inl g5_50)), (q6, .inl (cJ, 290, .inr (.inl g6_51)))] := hD
  refine tov (v := 0) hr_52 ?_
  refine lv_iadd hx hb dX12_blind_45 ?_
  refine tov (v := 0) (by decide) ?_
  refine lv_istore_n (lv' := [(1, .int 0), (2, .int 5), (0, .ref h0)]) hx hb dX12_blind_46 rfl hl (by decide) rfl (fun ls hl => ?_)
  refine lv_iinc (v := 6) (lv' := [(2, .int 6), (1, .int 0), (0, .ref h0)]) hx hb dX12_blind_47 hl (k := 1) rfl (by decide) (by decide) rfl (fun ls hl => ?_)
  refine lv_goto (tgt := 33) hx hb dX12_blind_50 (by decide) ?_
  refine lv_iload_n hx hb dX12_blind_33 rfl (lv_at hl 0 rfl) ?_
  refine lv_bipush (v := 24) hx hb dX12_blind_34 (by decide) ?_
  refine lv_icmp_gt (tgt := 53) hx hb dX12_blind_36 (by decide) (fun h => absurd h (by decide)) (fun _ => ?_)
  refine lv_iload_n hx hb dX12_blind_39 rfl (lv_at hl 1 rfl) ?_
  refine lv_aload_n hx hb dX12_blind_40 rfl (lv_at hl 2 rfl) ?_
  refine lv_iload_n hx hb dX12_blind_41 rfl (lv_at hl 0 rfl) ?_
  refine cl_i (wr := [(q7, .inl (cI, 10, .inl f_17)), (q2, .inl (cI, 250, .inl g1_7))]) (rn_V (As := [.int 6]) (rest := [.int 0]) hx hb hml hown hts (c_X12_blindDay l D cI cJ cZ h0 q3 q4 q5 q6 ((((((fs0.set 45 (.int 0)).set 62 (.int 0)).set 62 (.int 0)).set 62 (.int 0)).set 62 (.int 0)).set 62 (.int 0)) f3 g4_49 g5_50 g6_51 6 (ln_set (ln_set (ln_set (ln_set (ln_set (ln_set hl_fs0)))))) (gs_ne (by decide) (gs_ne (by decide) (gs_ne (by decide) (gs_ne (by decide) (gs_ne (by decide) (gs_ne (by decide) hf_fs0_12)))))) (gs_ne (by decide) (gs_ne (by decide) (gs_ne (by decide) (gs_ne (by decide) (gs_ne (by decide) (gs_eq (ln_lt hl_fs0 (by decide)))))))) (gs_ne (by decide) (gs_ne (by decide) (gs_ne (by decide) (gs_ne (by decide) (gs_ne (by decide) (gs_ne (by decide) hf_fs0_14)))))) (gs_ne (by decide) (gs_ne (by decide) (gs_ne (by decide) (gs_ne (by decide) (gs_ne (by decide) (gs_ne (by decide) hf_fs0_65)))))) (gs_ne (by decide) (gs_ne (by decide) (gs_ne (by decide) (gs_ne (by decide) (gs_ne (by decide) (gs_ne (by decide) hf_fs0_66)))))) (gs_ne (by decide) (gs_ne (by decide) (gs_ne (by decide) (gs_ne (by decide) (gs_ne (by decide) (gs_ne (by decide) hf_fs0_63)))))) ha_f3 _) ⟨rfl, rfl⟩ sv_X12_550 ⟨(Nat.le_of_ble_eq_true rfl), (Nat.le_of_ble_eq_true rfl)⟩ ⟨(Nat.le_of_ble_eq_true rfl), (Nat.le_of_ble_eq_true rfl)⟩ (fun _ _ _ _ h => h) (fun _ _ _ => trivial) hK hP hD [2, 3, 4, 5, 6] rfl rfl 0 12 rfl rfl rfl rfl hl.1 rfl (Nat.le_of_ble_eq_true rfl) dX12_blind_42) hP hD hS hA [2, 3, 4, 5, 6] [0, 1] rfl rfl rfl (by decide) (fun r_55 w_54 H locs hw_53 hP hD hS => ?_)
  obtain ⟨g4_56, g5_57, g6_58, rfl, hr_59⟩ := hw_53
  have hP : va_P D vwCl [(q7, .inl (cI, 10, .inl f_17)), (q2, .inl (cI, 250, .inl g1_7)), (h0, .inr (12, (((((((fs0.set 45 (.int 0)).set 62 (.int 0)).set 62 (.int 0)).set 62 (.int 0)).set 62 (.int 0)).set 62 (.int 0)).set 62 (.int 0)))), (q3, .inl (cI, 2, .inl f3)), (q4, .inl (cI, 400, .inl g4_56)), (q5, .inl (cZ, 400, .inl g5_57)), (q6, .inl (cJ, 290, .inr (.inl g6_58)))] H := hP
  have hD : va_D A [(q7, .inl (cI, 10, .inl f_17)), (q2, .inl (cI, 250, .inl g1_7)), (h0, .inr (12, (((((((fs0.set 45 (.int 0)).set 62 (.int 0)).set 62 (.int 0)).set 62 (.int 0)).set 62 (.int 0)).set 62 (.int 0)).set 62 (.int 0)))), (q3, .inl (cI, 2, .inl f3)), (q4, .inl (cI, 400, .inl g4_56)), (q5, .inl (cZ, 400, .inl g5_57)), (q6, .inl (cJ, 290, .inr (.inl g6_58)))] := hD
  refine tov (v := 0) hr_59 ?_
  refine lv_iadd hx hb dX12_blind_45 ?_
  refine tov (v := 0) (by decide) ?_
  refine lv_istore_n (lv' := [(1, .int 0), (2, .int 6), (0, .ref h0)]) hx hb dX12_blind_46 rfl hl (by decide) rfl (fun ls hl => ?_)
  refine lv_iinc (v := 7) (lv' := [(2, .int 7), (1, .int 0), (0, .ref h0)]) hx hb dX12_blind_47 hl (k := 1) rfl (by decide) (by decide) rfl (fun ls hl => ?_)
  refine lv_goto (tgt := 33) hx hb dX12_blind_50 (by decide) ?_
  refine lv_iload_n hx hb dX12_blind_33 rfl (lv_at hl 0 rfl) ?_
  refine lv_bipush (v := 24) hx hb dX12_blind_34 (by decide) ?_
  refine lv_icmp_gt (tgt := 53) hx hb dX12_blind_36 (by decide) (fun h => absurd h (by decide)) (fun _ => ?_)
  refine lv_iload_n hx hb dX12_blind_39 rfl (lv_at hl 1 rfl) ?_
  refine lv_aload_n hx hb dX12_blind_40 rfl (lv_at hl 2 rfl) ?_
  refine lv_iload_n hx hb dX12_blind_41 rfl (lv_at hl 0 rfl) ?_
  refine cl_i (wr := [(q7, .inl (cI, 10, .inl f_17)), (q2, .inl (cI, 250, .inl g1_7))]) (rn_V (As := [.int 7]) (rest := [.int 0]) hx hb hml hown hts (c_X12_blindDay l D cI cJ cZ h0 q3 q4 q5 q6 (((((((fs0.set 45 (.int 0)).set 62 (.int 0)).set 62 (.int 0)).set 62 (.int 0)).set 62 (.int 0)).set 62 (.int 0)).set 62 (.int 0)) f3 g4_56 g5_57 g6_58 7 (ln_set (ln_set (ln_set (ln_set (ln_set (ln_set (ln_set hl_fs0))))))) (gs_ne (by decide) (gs_ne (by decide) (gs_ne (by decide) (gs_ne (by decide) (gs_ne (by decide) (gs_ne (by decide) (gs_ne (by decide) hf_fs0_12))))))) (gs_ne (by decide) (gs_ne (by decide) (gs_ne (by decide) (gs_ne (by decide) (gs_ne (by decide) (gs_ne (by decide) (gs_eq (ln_lt hl_fs0 (by decide))))))))) (gs_ne (by decide) (gs_ne (by decide) (gs_ne (by decide) (gs_ne (by decide) (gs_ne (by decide) (gs_ne (by decide) (gs_ne (by decide) hf_fs0_14))))))) (gs_ne (by decide) (gs_ne (by decide) (gs_ne (by decide) (gs_ne (by decide) (gs_ne (by decide) (gs_ne (by decide) (gs_ne (by decide) hf_fs0_65))))))) (gs_ne (by decide) (gs_ne (by decide) (gs_ne (by decide) (gs_ne (by decide) (gs_ne (by decide) (gs_ne (by decide) (gs_ne (by decide) hf_fs0_66))))))) (gs_ne (by decide) (gs_ne (by decide) (gs_ne (by decide) (gs_ne (by decide) (gs_ne (by decide) (gs_ne (by decide) (gs_ne (by decide) hf_fs0_63))))))) ha_f3 _) ⟨rfl, rfl⟩ sv_X12_550 ⟨(Nat.le_of_ble_eq_true rfl), (Nat.le_of_ble_eq_true rfl)⟩ ⟨(Nat.le_of_ble_eq_true rfl), (Nat.le_of_ble_eq_true rfl)⟩ (fun _ _ _ _ h => h) (fun _ _ _ => trivial) hK hP hD [2, 3, 4, 5, 6] rfl rfl 0 12 rfl rfl rfl rfl hl.1 rfl (Nat.le_of_ble_eq_true rfl) dX12_blind_42) hP hD hS hA [2, 3, 4, 5, 6] [0, 1] rfl rfl rfl (by decide) (fun r_62 w_61 H locs hw_60 hP hD hS => ?_)
  obtain ⟨g4_63, g5_64, g6_65, rfl, hr_66⟩ := hw_60
  have hP : va_P D vwCl [(q7, .inl (cI, 10, .inl f_17)), (q2, .inl (cI, 250, .inl g1_7)), (h0, .inr (12, ((((((((fs0.set 45 (.int 0)).set 62 (.int 0)).set 62 (.int 0)).set 62 (.int 0)).set 62 (.int 0)).set 62 (.int 0)).set 62 (.int 0)).set 62 (.int 0)))), (q3, .inl (cI, 2, .inl f3)), (q4, .inl (cI, 400, .inl g4_63)), (q5, .inl (cZ, 400, .inl g5_64)), (q6, .inl (cJ, 290, .inr (.inl g6_65)))] H := hP
  have hD : va_D A [(q7, .inl (cI, 10, .inl f_17)), (q2, .inl (cI, 250, .inl g1_7)), (h0, .inr (12, ((((((((fs0.set 45 (.int 0)).set 62 (.int 0)).set 62 (.int 0)).set 62 (.int 0)).set 62 (.int 0)).set 62 (.int 0)).set 62 (.int 0)).set 62 (.int 0)))), (q3, .inl (cI, 2, .inl f3)), (q4, .inl (cI, 400, .inl g4_63)), (q5, .inl (cZ, 400, .inl g5_64)), (q6, .inl (cJ, 290, .inr (.inl g6_65)))] := hD
  refine tov (v := 0) hr_66 ?_
  refine lv_iadd hx hb dX12_blind_45 ?_
  refine tov (v := 0) (by decide) ?_
  refine lv_istore_n (lv' := [(1, .int 0), (2, .int 7), (0, .ref h0)]) hx hb dX12_blind_46 rfl hl (by decide) rfl (fun ls hl => ?_)
  refine lv_iinc (v := 8) (lv' := [(2, .int 8), (1, .int 0), (0, .ref h0)]) hx hb dX12_blind_47 hl (k := 1) rfl (by decide) (by decide) rfl (fun ls hl => ?_)
  refine lv_goto (tgt := 33) hx hb dX12_blind_50 (by decide) ?_
  refine lv_iload_n hx hb dX12_blind_33 rfl (lv_at hl 0 rfl) ?_
  refine lv_bipush (v := 24) hx hb dX12_blind_34 (by decide) ?_
  refine lv_icmp_gt (tgt := 53) hx hb dX12_blind_36 (by decide) (fun h => absurd h (by decide)) (fun _ => ?_)
  refine lv_iload_n hx hb dX12_blind_39 rfl (lv_at hl 1 rfl) ?_
  refine lv_aload_n hx hb dX12_blind_40 rfl (lv_at hl 2 rfl) ?_
  refine lv_iload_n hx hb dX12_blind_41 rfl (lv_at hl 0 rfl) ?_
  refine cl_i (wr := [(q7, .inl (cI, 10, .inl f_17)), (q2, .inl (cI, 250, .inl g1_7))]) (rn_V (As := [.int 8]) (rest := [.int 0]) hx hb hml hown hts (c_X12_blindDay l D cI cJ cZ h0 q3 q4 q5 q6 ((((((((fs0.set 45 (.int 0)).set 62 (.int 0)).set 62 (.int 0)).set 62 (.int 0)).set 62 (.int 0)).set 62 (.int 0)).set 62 (.int 0)).set 62 (.int 0)) f3 g4_63 g5_64 g6_65 8 (ln_set (ln_set (ln_set (ln_set (ln_set (ln_set (ln_set (ln_set hl_fs0)))))))) (gs_ne (by decide) (gs_ne (by decide) (gs_ne (by decide) (gs_ne (by decide) (gs_ne (by decide) (gs_ne (by decide) (gs_ne (by decide) (gs_ne (by decide) hf_fs0_12)))))))) (gs_ne (by decide) (gs_ne (by decide) (gs_ne (by decide) (gs_ne (by decide) (gs_ne (by decide) (gs_ne (by decide) (gs_ne (by decide) (gs_eq (ln_lt hl_fs0 (by decide)))))))))) (gs_ne (by decide) (gs_ne (by decide) (gs_ne (by decide) (gs_ne (by decide) (gs_ne (by decide) (gs_ne (by decide) (gs_ne (by decide) (gs_ne (by decide) hf_fs0_14)))))))) (gs_ne (by decide) (gs_ne (by decide) (gs_ne (by decide) (gs_ne (by decide) (gs_ne (by decide) (gs_ne (by decide) (gs_ne (by decide) (gs_ne (by decide) hf_fs0_65)))))))) (gs_ne (by decide) (gs_ne (by decide) (gs_ne (by decide) (gs_ne (by decide) (gs_ne (by decide) (gs_ne (by decide) (gs_ne (by decide) (gs_ne (by decide) hf_fs0_66)))))))) (gs_ne (by decide) (gs_ne (by decide) (gs_ne (by decide) (gs_ne (by decide) (gs_ne (by decide) (gs_ne (by decide) (gs_ne (by decide) (gs_ne (by decide) hf_fs0_63)))))))) ha_f3 _) ⟨rfl, rfl⟩ sv_X12_550 ⟨(Nat.le_of_ble_eq_true rfl), (Nat.le_of_ble_eq_true rfl)⟩ ⟨(Nat.le_of_ble_eq_true rfl), (Nat.le_of_ble_eq_true rfl)⟩ (fun _ _ _ _ h => h) (fun _ _ _ => trivial) hK hP hD [2, 3, 4, 5, 6] rfl rfl 0 12 rfl rfl rfl rfl hl.1 rfl (Nat.le_of_ble_eq_true rfl) dX12_blind_42) hP hD hS hA [2, 3, 4, 5, 6] [0, 1] rfl rfl rfl (by decide) (fun r_69 w_68 H locs hw_67 hP hD hS => ?_)
  obtain ⟨g4_70, g5_71, g6_72, rfl, hr_73⟩ := hw_67
  have hP : va_P D vwCl [(q7, .inl (cI, 10, .inl f_17)), (q2, .inl (cI, 250, .inl g1_7)), (h0, .inr (12, (((((((((fs0.set 45 (.int 0)).set 62 (.int 0)).set 62 (.int 0)).set 62 (.int 0)).set 62 (.int 0)).set 62 (.int 0)).set 62 (.int 0)).set 62 (.int 0)).set 62 (.int 0)))), (q3, .inl (cI, 2, .inl f3)), (q4, .inl (cI, 400, .inl g4_70)), (q5, .inl (cZ, 400, .inl g5_71)), (q6, .inl (cJ, 290, .inr (.inl g6_72)))] H := hP
  have hD : va_D A [(q7, .inl (cI, 10, .inl f_17)), (q2, .inl (cI, 250, .inl g1_7)), (h0, .inr (12, (((((((((fs0.set 45 (.int 0)).set 62 (.int 0)).set 62 (.int 0)).set 62 (.int 0)).set 62 (.int 0)).set 62 (.int 0)).set 62 (.int 0)).set 62 (.int 0)).set 62 (.int 0)))), (q3, .inl (cI, 2, .inl f3)), (q4, .inl (cI, 400, .inl g4_70)), (q5, .inl (cZ, 400, .inl g5_71)), (q6, .inl (cJ, 290, .inr (.inl g6_72)))] := hD
  refine tov (v := 0) hr_73 ?_
  refine lv_iadd hx hb dX12_blind_45 ?_
  refine tov (v := 0) (by decide) ?_
  refine lv_istore_n (lv' := [(1, .int 0), (2, .int 8), (0, .ref h0)]) hx hb dX12_blind_46 rfl hl (by decide) rfl (fun ls hl => ?_)
  refine lv_iinc (v := 9) (lv' := [(2, .int 9), (1, .int 0), (0, .ref h0)]) hx hb dX12_blind_47 hl (k := 1) rfl (by decide) (by decide) rfl (fun ls hl => ?_)
  refine lv_goto (tgt := 33) hx hb dX12_blind_50 (by decide) ?_
  refine lv_iload_n hx hb dX12_blind_33 rfl (lv_at hl 0 rfl) ?_
  refine lv_bipush (v := 24) hx hb dX12_blind_34 (by decide) ?_
  refine lv_icmp_gt (tgt := 53) hx hb dX12_blind_36 (by decide) (fun h => absurd h (by decide)) (fun _ => ?_)
  refine lv_iload_n hx hb dX12_blind_39 rfl (lv_at hl 1 rfl) ?_
  refine lv_aload_n hx hb dX12_blind_40 rfl (lv_at hl 2 rfl) ?_
  refine lv_iload_n hx hb dX12_blind_41 rfl (lv_at hl 0 rfl) ?_
  refine cl_i (wr := [(q7, .inl (cI, 10, .inl f_17)), (q2, .inl (cI, 250, .inl g1_7))]) (rn_V (As := [.int 9]) (rest := [.int 0]) hx hb hml hown hts (c_X12_blindDay l D cI cJ cZ h0 q3 q4 q5 q6 (((((((((fs0.set 45 (.int 0)).set 62 (.int 0)).set 62 (.int 0)).set 62 (.int 0)).set 62 (.int 0)).set 62 (.int 0)).set 62 (.int 0)).set 62 (.int 0)).set 62 (.int 0)) f3 g4_70 g5_71 g6_72 9 (ln_set (ln_set (ln_set (ln_set (ln_set (ln_set (ln_set (ln_set (ln_set hl_fs0))))))))) (gs_ne (by decide) (gs_ne (by decide) (gs_ne (by decide) (gs_ne (by decide) (gs_ne (by decide) (gs_ne (by decide) (gs_ne (by decide) (gs_ne (by decide) (gs_ne (by decide) hf_fs0_12))))))))) (gs_ne (by decide) (gs_ne (by decide) (gs_ne (by decide) (gs_ne (by decide) (gs_ne (by decide) (gs_ne (by decide) (gs_ne (by decide) (gs_ne (by decide) (gs_eq (ln_lt hl_fs0 (by decide))))))))))) (gs_ne (by decide) (gs_ne (by decide) (gs_ne (by decide) (gs_ne (by decide) (gs_ne (by decide) (gs_ne (by decide) (gs_ne (by decide) (gs_ne (by decide) (gs_ne (by decide) hf_fs0_14))))))))) (gs_ne (by decide) (gs_ne (by decide) (gs_ne (by decide) (gs_ne (by decide) (gs_ne (by decide) (gs_ne (by decide) (gs_ne (by decide) (gs_ne (by decide) (gs_ne (by decide) hf_fs0_65))))))))) (gs_ne (by decide) (gs_ne (by decide) (gs_ne (by decide) (gs_ne (by decide) (gs_ne (by decide) (gs_ne (by decide) (gs_ne (by decide) (gs_ne (by decide) (gs_ne (by decide) hf_fs0_66))))))))) (gs_ne (by decide) (gs_ne (by decide) (gs_ne (by decide) (gs_ne (by decide) (gs_ne (by decide) (gs_ne (by decide) (gs_ne (by decide) (gs_ne (by decide) (gs_ne (by decide) hf_fs0_63))))))))) ha_f3 _) ⟨rfl, rfl⟩ sv_X12_550 ⟨(Nat.le_of_ble_eq_true rfl), (Nat.le_of_ble_eq_true rfl)⟩ ⟨(Nat.le_of_ble_eq_true rfl), (Nat.le_of_ble_eq_true rfl)⟩ (fun _ _ _ _ h => h) (fun _ _ _ => trivial) hK hP hD [2, 3, 4, 5, 6] rfl rfl 0 12 rfl rfl rfl rfl hl.1 rfl (Nat.le_of_ble_eq_true rfl) dX12_blind_42) hP hD hS hA [2, 3, 4, 5, 6] [0, 1] rfl rfl rfl (by decide) (fun r_76 w_75 H locs hw_74 hP hD hS => ?_)
  obtain ⟨g4_77, g5_78, g6_79, rfl, hr_80⟩ := hw_74
  have hP : va_P D vwCl [(q7, .inl (cI, 10, .inl f_17)), (q2, .inl (cI, 250, .inl g1_7)), (h0, .inr (12, ((((((((((fs0.set 45 (.int 0)).set 62 (.int 0)).set 62 (.int 0)).set 62 (.int 0)).set 62 (.int 0)).set 62 (.int 0)).set 62 (.int 0)).set 62 (.int 0)).set 62 (.int 0)).set 62 (.int 0)))), (q3, .inl (cI, 2, .inl f3)), (q4, .inl (cI, 400, .inl g4_77)), (q5, .inl (cZ, 400, .inl g5_78)), (q6, .inl (cJ, 290, .inr (.inl g6_79)))] H := hP
  have hD : va_D A [(q7, .inl (cI, 10, .inl f_17)), (q2, .inl (cI, 250, .inl g1_7)), (h0, .inr (12, ((((((((((fs0.set 45 (.int 0)).set 62 (.int 0)).set 62 (.int 0)).set 62 (.int 0)).set 62 (.int 0)).set 62 (.int 0)).set 62 (.int 0)).set 62 (.int 0)).set 62 (.int 0)).set 62 (.int 0)))), (q3, .inl (cI, 2, .inl f3)), (q4, .inl (cI, 400, .inl g4_77)), (q5, .inl (cZ, 400, .inl g5_78)), (q6, .inl (cJ, 290, .inr (.inl g6_79)))] := hD
  refine tov (v := 0) hr_80 ?_
  refine lv_iadd hx hb dX12_blind_45 ?_
  refine tov (v := 0) (by decide) ?_
  refine lv_istore_n (lv' := [(1, .int 0), (2, .int 9), (0, .ref h0)]) hx hb dX12_blind_46 rfl hl (by decide) rfl (fun ls hl => ?_)
  refine lv_iinc (v := 10) (lv' := [(2, .int 10), (1, .int 0), (0, .ref h0)]) hx hb dX12_blind_47 hl (k := 1) rfl (by decide) (by decide) rfl (fun ls hl => ?_)
  refine lv_goto (tgt := 33) hx hb dX12_blind_50 (by decide) ?_
  refine lv_iload_n hx hb dX12_blind_33 rfl (lv_at hl 0 rfl) ?_
  refine lv_bipush (v := 24) hx hb dX12_blind_34 (by decide) ?_
  refine lv_icmp_gt (tgt := 53) hx hb dX12_blind_36 (by decide) (fun h => absurd h (by decide)) (fun _ => ?_)
  refine lv_iload_n hx hb dX12_blind_39 rfl (lv_at hl 1 rfl) ?_
  refine lv_aload_n hx hb dX12_blind_40 rfl (lv_at hl 2 rfl) ?_
  refine lv_iload_n hx hb dX12_blind_41 rfl (lv_at hl 0 rfl) ?_
  refine cl_i (wr := [(q7, .inl (cI, 10, .inl f_17)), (q2, .inl (cI, 250, .inl g1_7))]) (rn_V (As := [.int 10]) (rest := [.int 0]) hx hb hml hown hts (c_X12_blindDay l D cI cJ cZ h0 q3 q4 q5 q6 ((((((((((fs0.set 45 (.int 0)).set 62 (.int 0)).set 62 (.int 0)).set 62 (.int 0)).set 62 (.int 0)).set 62 (.int 0)).set 62 (.int 0)).set 62 (.int 0)).set 62 (.int 0)).set 62 (.int 0)) f3 g4_77 g5_78 g6_79 10 (ln_set (ln_set (ln_set (ln_set (ln_set (ln_set (ln_set (ln_set (ln_set (ln_set hl_fs0)))))))))) (gs_ne (by decide) (gs_ne (by decide) (gs_ne (by decide) (gs_ne (by decide) (gs_ne (by decide) (gs_ne (by decide) (gs_ne (by decide) (gs_ne (by decide) (gs_ne (by decide) (gs_ne (by decide) hf_fs0_12)))))))))) (gs_ne (by decide) (gs_ne (by decide) (gs_ne (by decide) (gs_ne (by decide) (gs_ne (by decide) (gs_ne (by decide) (gs_ne (by decide) (gs_ne (by decide) (gs_ne (by decide) (gs_eq (ln_lt hl_fs0 (by decide)))))))))))) (gs_ne (by decide) (gs_ne (by decide) (gs_ne (by decide) (gs_ne (by decide) (gs_ne (by decide) (gs_ne (by decide) (gs_ne (by decide) (gs_ne (by decide) (gs_ne (by decide) (gs_ne (by decide) hf_fs0_14)))))))))) (gs_ne (by decide) (gs_ne (by decide) (gs_ne (by decide) (gs_ne (by decide) (gs_ne (by decide) (gs_ne (by decide) (gs_ne (by decide) (gs_ne (by decide) (gs_ne (by decide) (gs_ne (by decide) hf_fs0_65)))))))))) (gs_ne (by decide) (gs_ne (by decide) (gs_ne (by decide) (gs_ne (by decide) (gs_ne (by decide) (gs_ne (by decide) (gs_ne (by decide) (gs_ne (by decide) (gs_ne (by decide) (gs_ne (by decide) hf_fs0_66)))))))))) (gs_ne (by decide) (gs_ne (by decide) (gs_ne (by decide) (gs_ne (by decide) (gs_ne (by decide) (gs_ne (by decide) (gs_ne (by decide) (gs_ne (by decide) (gs_ne (by decide) (gs_ne (by decide) hf_fs0_63)))))))))) ha_f3 _) ⟨rfl, rfl⟩ sv_X12_550 ⟨(Nat.le_of_ble_eq_true rfl), (Nat.le_of_ble_eq_true rfl)⟩ ⟨(Nat.le_of_ble_eq_true rfl), (Nat.le_of_ble_eq_true rfl)⟩ (fun _ _ _ _ h => h) (fun _ _ _ => trivial) hK hP hD [2, 3, 4, 5, 6] rfl rfl 0 12 rfl rfl rfl rfl hl.1 rfl (Nat.le_of_ble_eq_true rfl) dX12_blind_42) hP hD hS hA [2, 3, 4, 5, 6] [0, 1] rfl rfl rfl (by decide) (fun r_83 w_82 H locs hw_81 hP hD hS => ?_)
  obtain ⟨g4_84, g5_85, g6_86, rfl, hr_87⟩ := hw_81
  have hP : va_P D vwCl [(q7, .inl (cI, 10, .inl f_17)), (q2, .inl (cI, 250, .inl g1_7)), (h0, .inr (12, (((((((((((fs0.set 45 (.int 0)).set 62 (.int 0)).set 62 (.int 0)).set 62 (.int 0)).set 62 (.int 0)).set 62 (.int 0)).set 62 (.int 0)).set 62 (.int 0)).set 62 (.int 0)).set 62 (.int 0)).set 62 (.int 0)))), (q3, .inl (cI, 2, .inl f3)), (q4, .inl (cI, 400, .inl g4_84)), (q5, .inl (cZ, 400, .inl g5_85)), (q6, .inl (cJ, 290, .inr (.inl g6_86)))] H := hP
  have hD : va_D A [(q7, .inl (cI, 10, .inl f_17)), (q2, .inl (cI, 250, .inl g1_7)), (h0, .inr (12, (((((((((((fs0.set 45 (.int 0)).set 62 (.int 0)).set 62 (.int 0)).set 62 (.int 0)).set 62 (.int 0)).set 62 (.int 0)).set 62 (.int 0)).set 62 (.int 0)).set 62 (.int 0)).set 62 (.int 0)).set 62 (.int 0)))), (q3, .inl (cI, 2, .inl f3)), (q4, .inl (cI, 400, .inl g4_84)), (q5, .inl (cZ, 400, .inl g5_85)), (q6, .inl (cJ, 290, .inr (.inl g6_86)))] := hD
  refine tov (v := 0) hr_87 ?_
  refine lv_iadd hx hb dX12_blind_45 ?_
  refine tov (v := 0) (by decide) ?_
  refine lv_istore_n (lv' := [(1, .int 0), (2, .int 10), (0, .ref h0)]) hx hb dX12_blind_46 rfl hl (by decide) rfl (fun ls hl => ?_)
  refine lv_iinc (v := 11) (lv' := [(2, .int 11), (1, .int 0), (0, .ref h0)]) hx hb dX12_blind_47 hl (k := 1) rfl (by decide) (by decide) rfl (fun ls hl => ?_)
  refine lv_goto (tgt := 33) hx hb dX12_blind_50 (by decide) ?_
  refine lv_iload_n hx hb dX12_blind_33 rfl (lv_at hl 0 rfl) ?_
  refine lv_bipush (v := 24) hx hb dX12_blind_34 (by decide) ?_
  refine lv_icmp_gt (tgt := 53) hx hb dX12_blind_36 (by decide) (fun h => absurd h (by decide)) (fun _ => ?_)
  refine lv_iload_n hx hb dX12_blind_39 rfl (lv_at hl 1 rfl) ?_
  refine lv_aload_n hx hb dX12_blind_40 rfl (lv_at hl 2 rfl) ?_
  refine lv_iload_n hx hb dX12_blind_41 rfl (lv_at hl 0 rfl) ?_
  refine cl_i (wr := [(q7, .inl (cI, 10, .inl f_17)), (q2, .inl (cI, 250, .inl g1_7))]) (rn_V (As := [.int 11]) (rest := [.int 0]) hx hb hml hown hts (c_X12_blindDay l D cI cJ cZ h0 q3 q4 q5 q6 (((((((((((fs0.set 45 (.int 0)).set 62 (.int 0)).set 62 (.int 0)).set 62 (.int 0)).set 62 (.int 0)).set 62 (.int 0)).set 62 (.int 0)).set 62 (.int 0)).set 62 (.int 0)).set 62 (.int 0)).set 62 (.int 0)) f3 g4_84 g5_85 g6_86 11 (ln_set (ln_set (ln_set (ln_set (ln_set (ln_set (ln_set (ln_set (ln_set (ln_set (ln_set hl_fs0))))))))))) (gs_ne (by decide) (gs_ne (by decide) (gs_ne (by decide) (gs_ne (by decide) (gs_ne (by decide) (gs_ne (by decide) (gs_ne (by decide) (gs_ne (by decide) (gs_ne (by decide) (gs_ne (by decide) (gs_ne (by decide) hf_fs0_12))))))))))) (gs_ne (by decide) (gs_ne (by decide) (gs_ne (by decide) (gs_ne (by decide) (gs_ne (by decide) (gs_ne (by decide) (gs_ne (by decide) (gs_ne (by decide) (gs_ne (by decide) (gs_ne (by decide) (gs_eq (ln_lt hl_fs0 (by decide))))))))))))) (gs_ne (by decide) (gs_ne (by decide) (gs_ne (by decide) (gs_ne (by decide) (gs_ne (by decide) (gs_ne (by decide) (gs_ne (by decide) (gs_ne (by decide) (gs_ne (by decide) (gs_ne (by decide) (gs_ne (by decide) hf_fs0_14))))))))))) (gs_ne (by decide) (gs_ne (by decide) (gs_ne (by decide) (gs_ne (by decide) (gs_ne (by decide) (gs_ne (by decide) (gs_ne (by decide) (gs_ne (by decide) (gs_ne (by decide) (gs_ne (by decide) (gs_ne (by decide) hf_fs0_65))))))))))) (gs_ne (by decide) (gs_ne (by decide) (gs_ne (by decide) (gs_ne (by decide) (gs_ne (by decide) (gs_ne (by decide) (gs_ne (by decide) (gs_ne (by decide) (gs_ne (by decide) (gs_ne (by decide) (gs_ne (by decide) hf_fs0_66))))))))))) (gs_ne (by decide) (gs_ne (by decide) (gs_ne (by decide) (gs_ne (by decide) (gs_ne (by decide) (gs_ne (by decide) (gs_ne (by decide) (gs_ne (by decide) (gs_ne (by decide) (gs_ne (by decide) (gs_ne (by decide) hf_fs0_63))))))))))) ha_f3 _) ⟨rfl, rfl⟩ sv_X12_550 ⟨(Nat.le_of_ble_eq_true rfl), (Nat.le_of_ble_eq_true rfl)⟩ ⟨(Nat.le_of_ble_eq_true rfl), (Nat.le_of_ble_eq_true rfl)⟩ (fun _ _ _ _ h => h) (fun _ _ _ => trivial) hK hP hD [2, 3, 4, 5, 6] rfl rfl 0 12 rfl rfl rfl rfl hl.1 rfl (Nat.le_of_ble_eq_true rfl) dX12_blind_42) hP hD hS hA [2, 3, 4, 5, 6] [0, 1] rfl rfl rfl (by decide) (fun r_90 w_89 H locs hw_88 hP hD hS => ?_)
  obtain ⟨g4_91, g5_92, g6_93, rfl, hr_94⟩ := hw_88
  have hP : va_P D vwCl [(q7, .inl (cI, 10, .inl f_17)), (q2, .inl (cI, 250, .inl g1_7)), (h0, .inr (12, ((((((((((((fs0.set 45 (.int 0)).set 62 (.int 0)).set 62 (.int 0)).set 62 (.int 0)).set 62 (.int 0)).set 62 (.int 0)).set 62 (.int 0)).set 62 (.int 0)).set 62 (.int 0)).set 62 (.int 0)).set 62 (.int 0)).set 62 (.int 0)))), (q3, .inl (cI, 2, .inl f3)), (q4, .inl (cI, 400, .inl g4_91)), (q5, .inl (cZ, 400, .inl g5_92)), (q6, .inl (cJ, 290, .inr (.inl g6_93)))] H := hP
  have hD : va_D A [(q7, .inl (cI, 10, .inl f_17)), (q2, .inl (cI, 250, .inl g1_7)), (h0, .inr (12, ((((((((((((fs0.set 45 (.int 0)).set 62 (.int 0)).set 62 (.int 0)).set 62 (.int 0)).set 62 (.int 0)).set 62 (.int 0)).set 62 (.int 0)).set 62 (.int 0)).set 62 (.int 0)).set 62 (.int 0)).set 62 (.int 0)).set 62 (.int 0)))), (q3, .inl (cI, 2, .inl f3)), (q4, .inl (cI, 400, .inl g4_91)), (q5, .inl (cZ, 400, .inl g5_92)), (q6, .inl (cJ, 290, .inr (.inl g6_93)))] := hD
  refine tov (v := 0) hr_94 ?_
  refine lv_iadd hx hb dX12_blind_45 ?_
  refine tov (v := 0) (by decide) ?_
  refine lv_istore_n (lv' := [(1, .int 0), (2, .int 11), (0, .ref h0)]) hx hb dX12_blind_46 rfl hl (by decide) rfl (fun ls hl => ?_)
  refine lv_iinc (v := 12) (lv' := [(2, .int 12), (1, .int 0), (0, .ref h0)]) hx hb dX12_blind_47 hl (k := 1) rfl (by decide) (by decide) rfl (fun ls hl => ?_)
  refine lv_goto (tgt := 33) hx hb dX12_blind_50 (by decide) ?_
  refine lv_iload_n hx hb dX12_blind_33 rfl (lv_at hl 0 rfl) ?_
  refine lv_bipush (v := 24) hx hb dX12_blind_34 (by decide) ?_
  refine lv_icmp_gt (tgt := 53) hx hb dX12_blind_36 (by decide) (fun h => absurd h (by decide)) (fun _ => ?_)
  refine lv_iload_n hx hb dX12_blind_39 rfl (lv_at hl 1 rfl) ?_
  refine lv_aload_n hx hb dX12_blind_40 rfl (lv_at hl 2 rfl) ?_
  refine lv_iload_n hx hb dX12_blind_41 rfl (lv_at hl 0 rfl) ?_
  refine cl_i (wr := [(q7, .inl (cI, 10, .inl f_17)), (q2, .inl (cI, 250, .inl g1_7))]) (rn_V (As := [.int 12]) (rest := [.int 0]) hx hb hml hown hts (c_X12_blindDay l D cI cJ cZ h0 q3 q4 q5 q6 ((((((((((((fs0.set 45 (.int 0)).set 62 (.int 0)).set 62 (.int 0)).set 62 (.int 0)).set 62 (.int 0)).set 62 (.int 0)).set 62 (.int 0)).set 62 (.int 0)).set 62 (.int 0)).set 62 (.int 0)).set 62 (.int 0)).set 62 (.int 0)) f3 g4_91 g5_92 g6_93 12 (ln_set (ln_set (ln_set (ln_set (ln_set (ln_set (ln_set (ln_set (ln_set (ln_set (ln_set (ln_set hl_fs0)))))))))))) (gs_ne (by decide) (gs_ne (by decide) (gs_ne (by decide) (gs_ne (by decide) (gs_ne (by decide) (gs_ne (by decide) (gs_ne (by decide) (gs_ne (by decide) (gs_ne (by decide) (gs_ne (by decide) (gs_ne (by decide) (gs_ne (by decide) hf_fs0_12)))))))))))) (gs_ne (by decide) (gs_ne (by decide) (gs_ne (by decide) (gs_ne (by decide) (gs_ne (by decide) (gs_ne (by decide) (gs_ne (by decide) (gs_ne (by decide) (gs_ne (by decide) (gs_ne (by decide) (gs_ne (by decide) (gs_eq (ln_lt hl_fs0 (by decide)))))))))))))) (gs_ne (by decide) (gs_ne (by decide) (gs_ne (by decide) (gs_ne (by decide) (gs_ne (by decide) (gs_ne (by decide) (gs_ne (by decide) (gs_ne (by decide) (gs_ne (by decide) (gs_ne (by decide) (gs_ne (by decide) (gs_ne (by decide) hf_fs0_14)))))))))))) (gs_ne (by decide) (gs_ne (by decide) (gs_ne (by decide) (gs_ne (by decide) (gs_ne (by decide) (gs_ne (by decide) (gs_ne (by decide) (gs_ne (by decide) (gs_ne (by decide) (gs_ne (by decide) (gs_ne (by decide) (gs_ne (by decide) hf_fs0_65)))))))))))) (gs_ne (by decide) (gs_ne (by decide) (gs_ne (by decide) (gs_ne (by decide) (gs_ne (by decide) (gs_ne (by decide) (gs_ne (by decide) (gs_ne (by decide) (gs_ne (by decide) (gs_ne (by decide) (gs_ne (by decide) (gs_ne (by decide) hf_fs0_66)))))))))))) (gs_ne (by decide) (gs_ne (by decide) (gs_ne (by decide) (gs_ne (by decide) (gs_ne (by decide) (gs_ne (by decide) (gs_ne (by decide) (gs_ne (by decide) (gs_ne (by decide) (gs_ne (by decide) (gs_ne (by decide) (gs_ne (by decide) hf_fs0_63)))))))))))) ha_f3 _) ⟨rfl, rfl⟩ sv_X12_550 ⟨(Nat.le_of_ble_eq_true rfl), (Nat.le_of_ble_eq_true rfl)⟩ ⟨(Nat.le_of_ble_eq_true rfl), (Nat.le_of_ble_eq_true rfl)⟩ (fun _ _ _ _ h => h) (fun _ _ _ => trivial) hK hP hD [2, 3, 4, 5, 6] rfl rfl 0 12 rfl rfl rfl rfl hl.1 rfl (Nat.le_of_ble_eq_true rfl) dX12_blind_42) hP hD hS hA [2, 3, 4, 5, 6] [0, 1] rfl rfl rfl (by decide) (fun r_97 w_96 H locs hw_95 hP hD hS => ?_)
  obtain ⟨g4_98, g5_99, g6_100, rfl, hr_101⟩ := hw_95
  have hP : va_P D vwCl [(q7, .inl (cI, 10, .inl f_17)), (q2, .inl (cI, 250, .inl g1_7)), (h0, .inr (12, (((((((((((((fs0.set 45 (.int 0)).set 62 (.int 0)).set 62 (.int 0)).set 62 (.int 0)).set 62 (.int 0)).set 62 (.int 0)).set 62 (.int 0)).set 62 (.int 0)).set 62 (.int 0)).set 62 (.int 0)).set 62 (.int 0)).set 62 (.int 0)).set 62 (.int 0)))), (q3, .inl (cI, 2, .inl f3)), (q4, .inl (cI, 400, .inl g4_98)), (q5, .inl (cZ, 400, .inl g5_99)), (q6, .inl (cJ, 290, .inr (.inl g6_100)))] H := hP
  have hD : va_D A [(q7, .inl (cI, 10, .inl f_17)), (q2, .inl (cI, 250, .inl g1_7)), (h0, .inr (12, (((((((((((((fs0.set 45 (.int 0)).set 62 (.int 0)).set 62 (.int 0)).set 62 (.int 0)).set 62 (.int 0)).set 62 (.int 0)).set 62 (.int 0)).set 62 (.int 0)).set 62 (.int 0)).set 62 (.int 0)).set 62 (.int 0)).set 62 (.int 0)).set 62 (.int 0)))), (q3, .inl (cI, 2, .inl f3)), (q4, .inl (cI, 400, .inl g4_98)), (q5, .inl (cZ, 400, .inl g5_99)), (q6, .inl (cJ, 290, .inr (.inl g6_100)))] := hD
  refine tov (v := 0) hr_101 ?_
  refine lv_iadd hx hb dX12_blind_45 ?_
  refine tov (v := 0) (by decide) ?_
  refine lv_istore_n (lv' := [(1, .int 0), (2, .int 12), (0, .ref h0)]) hx hb dX12_blind_46 rfl hl (by decide) rfl (fun ls hl => ?_)
  refine lv_iinc (v := 13) (lv' := [(2, .int 13), (1, .int 0), (0, .ref h0)]) hx hb dX12_blind_47 hl (k := 1) rfl (by decide) (by decide) rfl (fun ls hl => ?_)
  refine lv_goto (tgt := 33) hx hb dX12_blind_50 (by decide) ?_
  refine lv_iload_n hx hb dX12_blind_33 rfl (lv_at hl 0 rfl) ?_
  refine lv_bipush (v := 24) hx hb dX12_blind_34 (by decide) ?_
  refine lv_icmp_gt (tgt := 53) hx hb dX12_blind_36 (by decide) (fun h => absurd h (by decide)) (fun _ => ?_)
  refine lv_iload_n hx hb dX12_blind_39 rfl (lv_at hl 1 rfl) ?_
  refine lv_aload_n hx hb dX12_blind_40 rfl (lv_at hl 2 rfl) ?_
  refine lv_iload_n hx hb dX12_blind_41 rfl (lv_at hl 0 rfl) ?_
  refine cl_i (wr := [(q7, .inl (cI, 10, .inl f_17)), (q2, .inl (cI, 250, .inl g1_7))]) (rn_V (As := [.int 13]) (rest := [.int 0]) hx hb hml hown hts (c_X12_blindDay l D cI cJ cZ h0 q3 q4 q5 q6 (((((((((((((fs0.set 45 (.int 0)).set 62 (.int 0)).set 62 (.int 0)).set 62 (.int 0)).set 62 (.int 0)).set 62 (.int 0)).set 62 (.int 0)).set 62 (.int 0)).set 62 (.int 0)).set 62 (.int 0)).set 62 (.int 0)).set 62 (.int 0)).set 62 (.int 0)) f3 g4_98 g5_99 g6_100 13 (ln_set (ln_set (ln_set (ln_set (ln_set (ln_set (ln_set (ln_set (ln_set (ln_set (ln_set (ln_set (ln_set hl_fs0))))))))))))) (gs_ne (by decide) (gs_ne (by decide) (gs_ne (by decide) (gs_ne (by decide) (gs_ne (by decide) (gs_ne (by decide) (gs_ne (by decide) (gs_ne (by decide) (gs_ne (by decide) (gs_ne (by decide) (gs_ne (by decide) (gs_ne (by decide) (gs_ne (by decide) hf_fs0_12))))))))))))) (gs_ne (by decide) (gs_ne (by decide) (gs_ne (by decide) (gs_ne (by decide) (gs_ne (by decide) (gs_ne (by decide) (gs_ne (by decide) (gs_ne (by decide) (gs_ne (by decide) (gs_ne (by decide) (gs_ne (by decide) (gs_ne (by decide) (gs_eq (ln_lt hl_fs0 (by decide))))))))))))))) (gs_ne (by decide) (gs_ne (by decide) (gs_ne (by decide) (gs_ne (by decide) (gs_ne (by decide) (gs_ne (by decide) (gs_ne (by decide) (gs_ne (by decide) (gs_ne (by decide) (gs_ne (by decide) (gs_ne (by decide) (gs_ne (by decide) (gs_ne (by decide) hf_fs0_14))))))))))))) (gs_ne (by decide) (gs_ne (by decide) (gs_ne (by decide) (gs_ne (by decide) (gs_ne (by decide) (gs_ne (by decide) (gs_ne (by decide) (gs_ne (by decide) (gs_ne (by decide) (gs_ne (by decide) (gs_ne (by decide) (gs_ne (by decide) (gs_ne (by decide) hf_fs0_65))))))))))))) (gs_ne (by decide) (gs_ne (by decide) (gs_ne (by decide) (gs_ne (by decide) (gs_ne (by decide) (gs_ne (by decide) (gs_ne (by decide) (gs_ne (by decide) (gs_ne (by decide) (gs_ne (by decide) (gs_ne (by decide) (gs_ne (by decide) (gs_ne (by decide) hf_fs0_66))))))))))))) (gs_ne (by decide) (gs_ne (by decide) (gs_ne (by decide) (gs_ne (by decide) (gs_ne (by decide) (gs_ne (by decide) (gs_ne (by decide) (gs_ne (by decide) (gs_ne (by decide) (gs_ne (by decide) (gs_ne (by decide) (gs_ne (by decide) (gs_ne (by decide) hf_fs0_63))))))))))))) ha_f3 _) ⟨rfl, rfl⟩ sv_X12_550 ⟨(Nat.le_of_ble_eq_true rfl), (Nat.le_of_ble_eq_true rfl)⟩ ⟨(Nat.le_of_ble_eq_true rfl), (Nat.le_of_ble_eq_true rfl)⟩ (fun _ _ _ _ h => h) (fun _ _ _ => trivial) hK hP hD [2, 3, 4, 5, 6] rfl rfl 0 12 rfl rfl rfl rfl hl.1 rfl (Nat.le_of_ble_eq_true rfl) dX12_blind_42) hP hD hS hA [2, 3, 4, 5, 6] [0, 1] rfl rfl rfl (by decide) (fun r_104 w_103 H locs hw_102 hP hD hS => ?_)
  obtain ⟨g4_105, g5_106, g6_107, rfl, hr_108⟩ := hw_102
  have hP : va_P D vwCl [(q7, .inl (cI, 10, .inl f_17)), (q2, .inl (cI, 250, .inl g1_7)), (h0, .inr (12, ((((((((((((((fs0.set 45 (.int 0)).set 62 (.int 0)).set 62 (.int 0)).set 62 (.int 0)).set 62 (.int 0)).set 62 (.int 0)).set 62 (.int 0)).set 62 (.int 0)).set 62 (.int 0)).set 62 (.int 0)).set 62 (.int 0)).set 62 (.int 0)).set 62 (.int 0)).set 62 (.int 0)))), (q3, .inl (cI, 2, .inl f3)), (q4, .inl (cI, 400, .inl g4_105)), (q5, .inl (cZ, 400, .inl g5_106)), (q6, .inl (cJ, 290, .inr (.inl g6_107)))] H := hP
  have hD : va_D A [(q7, .inl (cI, 10, .inl f_17)), (q2, .inl (cI, 250, .inl g1_7)), (h0, .inr (12, ((((((((((((((fs0.set 45 (.int 0)).set 62 (.int 0)).set 62 (.int 0)).set 62 (.int 0)).set 62 (.int 0)).set 62 (.int 0)).set 62 (.int 0)).set 62 (.int 0)).set 62 (.int 0)).set 62 (.int 0)).set 62 (.int 0)).set 62 (.int 0)).set 62 (.int 0)).set 62 (.int 0)))), (q3, .inl (cI, 2, .inl f3)), (q4, .inl (cI, 400, .inl g4_105)), (q5, .inl (cZ, 400, .inl g5_106)), (q6, .inl (cJ, 290, .inr (.inl g6_107)))] := hD
  refine tov (v := 0) hr_108 ?_
  refine lv_iadd hx hb dX12_blind_45 ?_
  refine tov (v := 0) (by decide) ?_
  refine lv_istore_n (lv' := [(1, .int 0), (2, .int 13), (0, .ref h0)]) hx hb dX12_blind_46 rfl hl (by decide) rfl (fun ls hl => ?_)
  refine lv_iinc (v := 14) (lv' := [(2, .int 14), (1, .int 0), (0, .ref h0)]) hx hb dX12_blind_47 hl (k := 1) rfl (by decide) (by decide) rfl (fun ls hl => ?_)
  refine lv_goto (tgt := 33) hx hb dX12_blind_50 (by decide) ?_
  refine lv_iload_n hx hb dX12_blind_33 rfl (lv_at hl 0 rfl) ?_
  refine lv_bipush (v := 24) hx hb dX12_blind_34 (by decide) ?_
  refine lv_icmp_gt (tgt := 53) hx hb dX12_blind_36 (by decide) (fun h => absurd h (by decide)) (fun _ => ?_)
  refine lv_iload_n hx hb dX12_blind_39 rfl (lv_at hl 1 rfl) ?_
  refine lv_aload_n hx hb dX12_blind_40 rfl (lv_at hl 2 rfl) ?_
  refine lv_iload_n hx hb dX12_blind_41 rfl (lv_at hl 0 rfl) ?_
  refine cl_i (wr := [(q7, .inl (cI, 10, .inl f_17)), (q2, .inl (cI, 250, .inl g1_7))]) (rn_V (As := [.int 14]) (rest := [.int 0]) hx hb hml hown hts (c_X12_blindDay l D cI cJ cZ h0 q3 q4 q5 q6 ((((((((((((((fs0.set 45 (.int 0)).set 62 (.int 0)).set 62 (.int 0)).set 62 (.int 0)).set 62 (.int 0)).set 62 (.int 0)).set 62 (.int 0)).set 62 (.int 0)).set 62 (.int 0)).set 62 (.int 0)).set 62 (.int 0)).set 62 (.int 0)).set 62 (.int 0)).set 62 (.int 0)) f3 g4_105 g5_106 g6_107 14 (ln_set (ln_set (ln_set (ln_set (ln_set (ln_set (ln_set (ln_set (ln_set (ln_set (ln_set (ln_set (ln_set (ln_set hl_fs0)))))))))))))) (gs_ne (by decide) (gs_ne (by decide) (gs_ne (by decide) (gs_ne (by decide) (gs_ne (by decide) (gs_ne (by decide) (gs_ne (by decide) (gs_ne (by decide) (gs_ne (by decide) (gs_ne (by decide) (gs_ne (by decide) (gs_ne (by decide) (gs_ne (by decide) (gs_ne (by decide) hf_fs0_12)))))))))))))) (gs_ne (by decide) (gs_ne (by decide) (gs_ne (by decide) (gs_ne (by decide) (gs_ne (by decide) (gs_ne (by decide) (gs_ne (by decide) (gs_ne (by decide) (gs_ne (by decide) (gs_ne (by decide) (gs_ne (by decide) (gs_ne (by decide) (gs_ne (by decide) (gs_eq (ln_lt hl_fs0 (by decide)))))))))))))))) (gs_ne (by decide) (gs_ne (by decide) (gs_ne (by decide) (gs_ne (by decide) (gs_ne (by decide) (gs_ne (by decide) (gs_ne (by decide) (gs_ne (by decide) (gs_ne (by decide) (gs_ne (by decide) (gs_ne (by decide) (gs_ne (by decide) (gs_ne (by decide) (gs_ne (by decide) hf_fs0_14)))))))))))))) (gs_ne (by decide) (gs_ne (by decide) (gs_ne (by decide) (gs_ne (by decide) (gs_ne (by decide) (gs_ne (by decide) (gs_ne (by decide) (gs_ne (by decide) (gs_ne (by decide) (gs_ne (by decide) (gs_ne (by decide) (gs_ne (by decide) (gs_ne (by decide) (gs_ne (by decide) hf_fs0_65)))))))))))))) (gs_ne (by decide) (gs_ne (by decide) (gs_ne (by decide) (gs_ne (by decide) (gs_ne (by decide) (gs_ne (by decide) (gs_ne (by decide) (gs_ne (by decide) (gs_ne (by decide) (gs_ne (by decide) (gs_ne (by decide) (gs_ne (by decide) (gs_ne (by decide) (gs_ne (by decide) hf_fs0_66)))))))))))))) (gs_ne (by decide) (gs_ne (by decide) (gs_ne (by decide) (gs_ne (by decide) (gs_ne (by decide) (gs_ne (by decide) (gs_ne (by decide) (gs_ne (by decide) (gs_ne (by decide) (gs_ne (by decide) (gs_ne (by decide) (gs_ne (by decide) (gs_ne (by decide) (gs_ne (by decide) hf_fs0_63)))))))))))))) ha_f3 _) ⟨rfl, rfl⟩ sv_X12_550 ⟨(Nat.le_of_ble_eq_true rfl), (Nat.le_of_ble_eq_true rfl)⟩ ⟨(Nat.le_of_ble_eq_true rfl), (Nat.le_of_ble_eq_true rfl)⟩ (fun _ _ _ _ h => h) (fun _ _ _ => trivial) hK hP hD [2, 3, 4, 5, 6] rfl rfl 0 12 rfl rfl rfl rfl hl.1 rfl (Nat.le_of_ble_eq_true rfl) dX12_blind_42) hP hD hS hA [2, 3, 4, 5, 6] [0, 1] rfl rfl rfl (by decide) (fun r_111 w_110 H locs hw_109 hP hD hS => ?_)
  obtain ⟨g4_112, g5_113, g6_114, rfl, hr_115⟩ := hw_109
  have hP : va_P D vwCl [(q7, .inl (cI, 10, .inl f_17)), (q2, .inl (cI, 250, .inl g1_7)), (h0, .inr (12, (((((((((((((((fs0.set 45 (.int 0)).set 62 (.int 0)).set 62 (.int 0)).set 62 (.int 0)).set 62 (.int 0)).set 62 (.int 0)).set 62 (.int 0)).set 62 (.int 0)).set 62 (.int 0)).set 62 (.int 0)).set 62 (.int 0)).set 62 (.int 0)).set 62 (.int 0)).set 62 (.int 0)).set 62 (.int 0)))), (q3, .inl (cI, 2, .inl f3)), (q4, .inl (cI, 400, .inl g4_112)), (q5, .inl (cZ, 400, .inl g5_113)), (q6, .inl (cJ, 290, .inr (.inl g6_114)))] H := hP
  have hD : va_D A [(q7, .inl (cI, 10, .inl f_17)), (q2, .inl (cI, 250, .inl g1_7)), (h0, .inr (12, (((((((((((((((fs0.set 45 (.int 0)).set 62 (.int 0)).set 62 (.int 0)).set 62 (.int 0)).set 62 (.int 0)).set 62 (.int 0)).set 62 (.int 0)).set 62 (.int 0)).set 62 (.int 0)).set 62 (.int 0)).set 62 (.int 0)).set 62 (.int 0)).set 62 (.int 0)).set 62 (.int 0)).set 62 (.int 0)))), (q3, .inl (cI, 2, .inl f3)), (q4, .inl (cI, 400, .inl g4_112)), (q5, .inl (cZ, 400, .inl g5_113)), (q6, .inl (cJ, 290, .inr (.inl g6_114)))] := hD
  refine tov (v := 0) hr_115 ?_
  refine lv_iadd hx hb dX12_blind_45 ?_
  refine tov (v := 0) (by decide) ?_
  refine lv_istore_n (lv' := [(1, .int 0), (2, .int 14), (0, .ref h0)]) hx hb dX12_blind_46 rfl hl (by decide) rfl (fun ls hl => ?_)
  refine lv_iinc (v := 15) (lv' := [(2, .int 15), (1, .int 0), (0, .ref h0)]) hx hb dX12_blind_47 hl (k := 1) rfl (by decide) (by decide) rfl (fun ls hl => ?_)
  refine lv_goto (tgt := 33) hx hb dX12_blind_50 (by decide) ?_
  refine lv_iload_n hx hb dX12_blind_33 rfl (lv_at hl 0 rfl) ?_
  refine lv_bipush (v := 24) hx hb dX12_blind_34 (by decide) ?_
  refine lv_icmp_gt (tgt := 53) hx hb dX12_blind_36 (by decide) (fun h => absurd h (by decide)) (fun _ => ?_)
  refine lv_iload_n hx hb dX12_blind_39 rfl (lv_at hl 1 rfl) ?_
  refine lv_aload_n hx hb dX12_blind_40 rfl (lv_at hl 2 rfl) ?_
  refine lv_iload_n hx hb dX12_blind_41 rfl (lv_at hl 0 rfl) ?_
  refine cl_i (wr := [(q7, .inl (cI, 10, .inl f_17)), (q2, .inl (cI, 250, .inl g1_7))]) (rn_V (As := [.int 15]) (rest := [.int 0]) hx hb hml hown hts (c_X12_blindDay l D cI cJ cZ h0 q3 q4 q5 q6 (((((((((((((((fs0.set 45 (.int 0)).set 62 (.int 0)).set 62 (.int 0)).set 62 (.int 0)).set 62 (.int 0)).set 62 (.int 0)).set 62 (.int 0)).set 62 (.int 0)).set 62 (.int 0)).set 62 (.int 0)).set 62 (.int 0)).set 62 (.int 0)).set 62 (.int 0)).set 62 (.int 0)).set 62 (.int 0)) f3 g4_112 g5_113 g6_114 15 (ln_set (ln_set (ln_set (ln_set (ln_set (ln_set (ln_set (ln_set (ln_set (ln_set (ln_set (ln_set (ln_set (ln_set (ln_set hl_fs0))))))))))))))) (gs_ne (by decide) (gs_ne (by decide) (gs_ne (by decide) (gs_ne (by decide) (gs_ne (by decide) (gs_ne (by decide) (gs_ne (by decide) (gs_ne (by decide) (gs_ne (by decide) (gs_ne (by decide) (gs_ne (by decide) (gs_ne (by decide) (gs_ne (by decide) (gs_ne (by decide) (gs_ne (by decide) hf_fs0_12))))))))))))))) (gs_ne (by decide) (gs_ne (by decide) (gs_ne (by decide) (gs_ne (by decide) (gs_ne (by decide) (gs_ne (by decide) (gs_ne (by decide) (gs_ne (by decide) (gs_ne (by decide) (gs_ne (by decide) (gs_ne (by decide) (gs_ne (by decide) (gs_ne (by decide) (gs_ne (by decide) (gs_eq (ln_lt hl_fs0 (by decide))))))))))))))))) (gs_ne (by decide) (gs_ne (by decide) (gs_ne (by decide) (gs_ne (by decide) (gs_ne (by decide) (gs_ne (by decide) (gs_ne (by decide) (gs_ne (by decide) (gs_ne (by decide) (gs_ne (by decide) (gs_ne (by decide) (gs_ne (by decide) (gs_ne (by decide) (gs_ne (by decide) (gs_ne (by decide) hf_fs0_14))))))))))))))) (gs_ne (by decide) (gs_ne (by decide) (gs_ne (by decide) (gs_ne (by decide) (gs_ne (by decide) (gs_ne (by decide) (gs_ne (by decide) (gs_ne (by decide) (gs_ne (by decide) (gs_ne (by decide) (gs_ne (by decide) (gs_ne (by decide) (gs_ne (by decide) (gs_ne (by decide) (gs_ne (by decide) hf_fs0_65))))))))))))))) (gs_ne (by decide) (gs_ne (by decide) (gs_ne (by decide) (gs_ne (by decide) (gs_ne (by decide) (gs_ne (by decide) (gs_ne (by decide) (gs_ne (by decide) (gs_ne (by decide) (gs_ne (by decide) (gs_ne (by decide) (gs_ne (by decide) (gs_ne (by decide) (gs_ne (by decide) (gs_ne (by decide) hf_fs0_66))))))))))))))) (gs_ne (by decide) (gs_ne (by decide) (gs_ne (by decide) (gs_ne (by decide) (gs_ne (by decide) (gs_ne (by decide) (gs_ne (by decide) (gs_ne (by decide) (gs_ne (by decide) (gs_ne (by decide) (gs_ne (by decide) (gs_ne (by decide) (gs_ne (by decide) (gs_ne (by decide) (gs_ne (by decide) hf_fs0_63))))))))))))))) ha_f3 _) ⟨rfl, rfl⟩ sv_X12_550 ⟨(Nat.le_of_ble_eq_true rfl), (Nat.le_of_ble_eq_true rfl)⟩ ⟨(Nat.le_of_ble_eq_true rfl), (Nat.le_of_ble_eq_true rfl)⟩ (fun _ _ _ _ h => h) (fun _ _ _ => trivial) hK hP hD [2, 3, 4, 5, 6] rfl rfl 0 12 rfl rfl rfl rfl hl.1 rfl (Nat.le_of_ble_eq_true rfl) dX12_blind_42) hP hD hS hA [2, 3, 4, 5, 6] [0, 1] rfl rfl rfl (by decide) (fun r_118 w_117 H locs hw_116 hP hD hS => ?_)
  obtain ⟨g4_119, g5_120, g6_121, rfl, hr_122⟩ := hw_116
  have hP : va_P D vwCl [(q7, .inl (cI, 10, .inl f_17)), (q2, .inl (cI, 250, .inl g1_7)), (h0, .inr (12, ((((((((((((((((fs0.set 45 (.int 0)).set 62 (.int 0)).set 62 (.int 0)).set 62 (.int 0)).set 62 (.int 0)).set 62 (.int 0)).set 62 (.int 0)).set 62 (.int 0)).set 62 (.int 0)).set 62 (.int 0)).set 62 (.int 0)).set 62 (.int 0)).set 62 (.int 0)).set 62 (.int 0)).set 62 (.int 0)).set 62 (.int 0)))), (q3, .inl (cI, 2, .inl f3)), (q4, .inl (cI, 400, .inl g4_119)), (q5, .inl (cZ, 400, .inl g5_120)), (q6, .inl (cJ, 290, .inr (.inl g6_121)))] H := hP
  have hD : va_D A [(q7, .inl (cI, 10, .inl f_17)), (q2, .inl (cI, 250, .inl g1_7)), (h0, .inr (12, ((((((((((((((((fs0.set 45 (.int 0)).set 62 (.int 0)).set 62 (.int 0)).set 62 (.int 0)).set 62 (.int 0)).set 62 (.int 0)).set 62 (.int 0)).set 62 (.int 0)).set 62 (.int 0)).set 62 (.int 0)).set 62 (.int 0)).set 62 (.int 0)).set 62 (.int 0)).set 62 (.int 0)).set 62 (.int 0)).set 62 (.int 0)))), (q3, .inl (cI, 2, .inl f3)), (q4, .inl (cI, 400, .inl g4_119)), (q5, .inl (cZ, 400, .inl g5_120)), (q6, .inl (cJ, 290, .inr (.inl g6_121)))] := hD
  refine tov (v := 0) hr_122 ?_
  refine lv_iadd hx hb dX12_blind_45 ?_
  refine tov (v := 0) (by decide) ?_
  refine lv_istore_n (lv' := [(1, .int 0), (2, .int 15), (0, .ref h0)]) hx hb dX12_blind_46 rfl hl (by decide) rfl (fun ls hl => ?_)
  refine lv_iinc (v := 16) (lv' := [(2, .int 16), (1, .int 0), (0, .ref h0)]) hx hb dX12_blind_47 hl (k := 1) rfl (by decide) (by decide) rfl (fun ls hl => ?_)
  refine lv_goto (tgt := 33) hx hb dX12_blind_50 (by decide) ?_
  refine lv_iload_n hx hb dX12_blind_33 rfl (lv_at hl 0 rfl) ?_
  refine lv_bipush (v := 24) hx hb dX12_blind_34 (by decide) ?_
  refine lv_icmp_gt (tgt := 53) hx hb dX12_blind_36 (by decide) (fun h => absurd h (by decide)) (fun _ => ?_)
  refine lv_iload_n hx hb dX12_blind_39 rfl (lv_at hl 1 rfl) ?_
  refine lv_aload_n hx hb dX12_blind_40 rfl (lv_at hl 2 rfl) ?_
  refine lv_iload_n hx hb dX12_blind_41 rfl (lv_at hl 0 rfl) ?_
  refine cl_i (wr := [(q7, .inl (cI, 10, .inl f_17)), (q2, .inl (cI, 250, .inl g1_7))]) (rn_V (As := [.int 16]) (rest := [.int 0]) hx hb hml hown hts (c_X12_blindDay l D cI cJ cZ h0 q3 q4 q5 q6 ((((((((((((((((fs0.set 45 (.int 0)).set 62 (.int 0)).set 62 (.int 0)).set 62 (.int 0)).set 62 (.int 0)).set 62 (.int 0)).set 62 (.int 0)).set 62 (.int 0)).set 62 (.int 0)).set 62 (.int 0)).set 62 (.int 0)).set 62 (.int 0)).set 62 (.int 0)).set 62 (.int 0)).set 62 (.int 0)).set 62 (.int 0)) f3 g4_119 g5_120 g6_121 16 (ln_set (ln_set (ln_set (ln_set (ln_set (ln_set (ln_set (ln_set (ln_set (ln_set (ln_set (ln_set (ln_set (ln_set (ln_set (ln_set hl_fs0)))))))))))))))) (gs_ne (by decide) (gs_ne (by decide) (gs_ne (by decide) (gs_ne (by decide) (gs_ne (by decide) (gs_ne (by decide) (gs_ne (by decide) (gs_ne (by decide) (gs_ne (by decide) (gs_ne (by decide) (gs_ne (by decide) (gs_ne (by decide) (gs_ne (by decide) (gs_ne (by decide) (gs_ne (by decide) (gs_ne (by decide) hf_fs0_12)))))))))))))))) (gs_ne (by decide) (gs_ne (by decide) (gs_ne (by decide) (gs_ne (by decide) (gs_ne (by decide) (gs_ne (by decide) (gs_ne (by decide) (gs_ne (by decide) (gs_ne (by decide) (gs_ne (by decide) (gs_ne (by decide) (gs_ne (by decide) (gs_ne (by decide) (gs_ne (by decide) (gs_ne (by decide) (gs_eq (ln_lt hl_fs0 (by decide)))))))))))))))))) (gs_ne (by decide) (gs_ne (by decide) (gs_ne (by decide) (gs_ne (by decide) (gs_ne (by decide) (gs_ne (by decide) (gs_ne (by decide) (gs_ne (by decide) (gs_ne (by decide) (gs_ne (by decide) (gs_ne (by decide) (gs_ne (by decide) (gs_ne (by decide) (gs_ne (by decide) (gs_ne (by decide) (gs_ne (by decide) hf_fs0_14)))))))))))))))) (gs_ne (by decide) (gs_ne (by decide) (gs_ne (by decide) (gs_ne (by decide) (gs_ne (by decide) (gs_ne (by decide) (gs_ne (by decide) (gs_ne (by decide) (gs_ne (by decide) (gs_ne (by decide) (gs_ne (by decide) (gs_ne (by decide) (gs_ne (by decide) (gs_ne (by decide) (gs_ne (by decide) (gs_ne (by decide) hf_fs0_65)))))))))))))))) (gs_ne (by decide) (gs_ne (by decide) (gs_ne (by decide) (gs_ne (by decide) (gs_ne (by decide) (gs_ne (by decide) (gs_ne (by decide) (gs_ne (by decide) (gs_ne (by decide) (gs_ne (by decide) (gs_ne (by decide) (gs_ne (by decide) (gs_ne (by decide) (gs_ne (by decide) (gs_ne (by decide) (gs_ne (by decide) hf_fs0_66)))))))))))))))) (gs_ne (by decide) (gs_ne (by decide) (gs_ne (by decide) (gs_ne (by decide) (gs_ne (by decide) (gs_ne (by decide) (gs_ne (by decide) (gs_ne (by decide) (gs_ne (by decide) (gs_ne (by decide) (gs_ne (by decide) (gs_ne (by decide) (gs_ne (by decide) (gs_ne (by decide) (gs_ne (by decide) (gs_ne (by decide) hf_fs0_63)))))))))))))))) ha_f3 _) ⟨rfl, rfl⟩ sv_X12_550 ⟨(Nat.le_of_ble_eq_true rfl), (Nat.le_of_ble_eq_true rfl)⟩ ⟨(Nat.le_of_ble_eq_true rfl), (Nat.le_of_ble_eq_true rfl)⟩ (fun _ _ _ _ h => h) (fun _ _ _ => trivial) hK hP hD [2, 3, 4, 5, 6] rfl rfl 0 12 rfl rfl rfl rfl hl.1 rfl (Nat.le_of_ble_eq_true rfl) dX12_blind_42) hP hD hS hA [2, 3, 4, 5, 6] [0, 1] rfl rfl rfl (by decide) (fun r_125 w_124 H locs hw_123 hP hD hS => ?_)
  obtain ⟨g4_126, g5_127, g6_128, rfl, hr_129⟩ := hw_123
  have hP : va_P D vwCl [(q7, .inl (cI, 10, .inl f_17)), (q2, .inl (cI, 250, .inl g1_7)), (h0, .inr (12, (((((((((((((((((fs0.set 45 (.int 0)).set 62 (.int 0)).set 62 (.int 0)).set 62 (.int 0)).set 62 (.int 0)).set 62 (.int 0)).set 62 (.int 0)).set 62 (.int 0)).set 62 (.int 0)).set 62 (.int 0)).set 62 (.int 0)).set 62 (.int 0)).set 62 (.int 0)).set 62 (.int 0)).set 62 (.int 0)).set 62 (.int 0)).set 62 (.int 0)))), (q3, .inl (cI, 2, .inl f3)), (q4, .inl (cI, 400, .inl g4_126)), (q5, .inl (cZ, 400, .inl g5_127)), (q6, .inl (cJ, 290, .inr (.inl g6_128)))] H := hP
  have hD : va_D A [(q7, .inl (cI, 10, .inl f_17)), (q2, .inl (cI, 250, .inl g1_7)), (h0, .inr (12, (((((((((((((((((fs0.set 45 (.int 0)).set 62 (.int 0)).set 62 (.int 0)).set 62 (.int 0)).set 62 (.int 0)).set 62 (.int 0)).set 62 (.int 0)).set 62 (.int 0)).set 62 (.int 0)).set 62 (.int 0)).set 62 (.int 0)).set 62 (.int 0)).set 62 (.int 0)).set 62 (.int 0)).set 62 (.int 0)).set 62 (.int 0)).set 62 (.int 0)))), (q3, .inl (cI, 2, .inl f3)), (q4, .inl (cI, 400, .inl g4_126)), (q5, .inl (cZ, 400, .inl g5_127)), (q6, .inl (cJ, 290, .inr (.inl g6_128)))] := hD
  refine tov (v := 0) hr_129 ?_
  refine lv_iadd hx hb dX12_blind_45 ?_
  refine tov (v := 0) (by decide) ?_
  refine lv_istore_n (lv' := [(1, .int 0), (2, .int 16), (0, .ref h0)]) hx hb dX12_blind_46 rfl hl (by decide) rfl (fun ls hl => ?_)
  refine lv_iinc (v := 17) (lv' := [(2, .int 17), (1, .int 0), (0, .ref h0)]) hx hb dX12_blind_47 hl (k := 1) rfl (by decide) (by decide) rfl (fun ls hl => ?_)
  refine lv_goto (tgt := 33) hx hb dX12_blind_50 (by decide) ?_
  refine lv_iload_n hx hb dX12_blind_33 rfl (lv_at hl 0 rfl) ?_
  refine lv_bipush (v := 24) hx hb dX12_blind_34 (by decide) ?_
  refine lv_icmp_gt (tgt := 53) hx hb dX12_blind_36 (by decide) (fun h => absurd h (by decide)) (fun _ => ?_)
  refine lv_iload_n hx hb dX12_blind_39 rfl (lv_at hl 1 rfl) ?_
  refine lv_aload_n hx hb dX12_blind_40 rfl (lv_at hl 2 rfl) ?_
  refine lv_iload_n hx hb dX12_blind_41 rfl (lv_at hl 0 rfl) ?_
  refine cl_i (wr := [(q7, .inl (cI, 10, .inl f_17)), (q2, .inl (cI, 250, .inl g1_7))]) (rn_V (As := [.int 17]) (rest := [.int 0]) hx hb hml hown hts (c_X12_blindDay l D cI cJ cZ h0 q3 q4 q5 q6 (((((((((((((((((fs0.set 45 (.int 0)).set 62 (.int 0)).set 62 (.int 0)).set 62 (.int 0)).set 62 (.int 0)).set 62 (.int 0)).set 62 (.int 0)).set 62 (.int 0)).set 62 (.int 0)).set 62 (.int 0)).set 62 (.int 0)).set 62 (.int 0)).set 62 (.int 0)).set 62 (.int 0)).set 62 (.int 0)).set 62 (.int 0)).set 62 (.int 0)) f3 g4_126 g5_127 g6_128 17 (ln_set (ln_set (ln_set (ln_set (ln_set (ln_set (ln_set (ln_set (ln_set (ln_set (ln_set (ln_set (ln_set (ln_set (ln_set (ln_set (ln_set hl_fs0))))))))))))))))) (gs_ne (by decide) (gs_ne (by decide) (gs_ne (by decide) (gs_ne (by decide) (gs_ne (by decide) (gs_ne (by decide) (gs_ne (by decide) (gs_ne (by decide) (gs_ne (by decide) (gs_ne (by decide) (gs_ne (by decide) (gs_ne (by decide) (gs_ne (by decide) (gs_ne (by decide) (gs_ne (by decide) (gs_ne (by decide) (gs_ne (by decide) hf_fs0_12))))))))))))))))) (gs_ne (by decide) (gs_ne (by decide) (gs_ne (by decide) (gs_ne (by decide) (gs_ne (by decide) (gs_ne (by decide) (gs_ne (by decide) (gs_ne (by decide) (gs_ne (by decide) (gs_ne (by decide) (gs_ne (by decide) (gs_ne (by decide) (gs_ne (by decide) (gs_ne (by decide) (gs_ne (by decide) (gs_ne (by decide) (gs_eq (ln_lt hl_fs0 (by decide))))))))))))))))))) (gs_ne (by decide) (gs_ne (by decide) (gs_ne (by decide) (gs_ne (by decide) (gs_ne (by decide) (gs_ne (by decide) (gs_ne (by decide) (gs_ne (by decide) (gs_ne (by decide) (gs_ne (by decide) (gs_ne (by decide) (gs_ne (by decide) (gs_ne (by decide) (gs_ne (by decide) (gs_ne (by decide) (gs_ne (by decide) (gs_ne (by decide) hf_fs0_14))))))))))))))))) (gs_ne (by decide) (gs_ne (by decide) (gs_ne (by decide) (gs_ne (by decide) (gs_ne (by decide) (gs_ne (by decide) (gs_ne (by decide) (gs_ne (by decide) (gs_ne (by decide) (gs_ne (by decide) (gs_ne (by decide) (gs_ne (by decide) (gs_ne (by decide) (gs_ne (by decide) (gs_ne (by decide) (gs_ne (by decide) (gs_ne (by decide) hf_fs0_65))))))))))))))))) (gs_ne (by decide) (gs_ne (by decide) (gs_ne (by decide) (gs_ne (by decide) (gs_ne (by decide) (gs_ne (by decide) (gs_ne (by decide) (gs_ne (by decide) (gs_ne (by decide) (gs_ne (by decide) (gs_ne (by decide) (gs_ne (by decide) (gs_ne (by decide) (gs_ne (by decide) (gs_ne (by decide) (gs_ne (by decide) (gs_ne (by decide) hf_fs0_66))))))))))))))))) (gs_ne (by decide) (gs_ne (by decide) (gs_ne (by decide) (gs_ne (by decide) (gs_ne (by decide) (gs_ne (by decide) (gs_ne (by decide) (gs_ne (by decide) (gs_ne (by decide) (gs_ne (by decide) (gs_ne (by decide) (gs_ne (by decide) (gs_ne (by decide) (gs_ne (by decide) (gs_ne (by decide) (gs_ne (by decide) (gs_ne (by decide) hf_fs0_63))))))))))))))))) ha_f3 _) ⟨rfl, rfl⟩ sv_X12_550 ⟨(Nat.le_of_ble_eq_true rfl), (Nat.le_of_ble_eq_true rfl)⟩ ⟨(Nat.le_of_ble_eq_true rfl), (Nat.le_of_ble_eq_true rfl)⟩ (fun _ _ _ _ h => h) (fun _ _ _ => trivial) hK hP hD [2, 3, 4, 5, 6] rfl rfl 0 12 rfl rfl rfl rfl hl.1 rfl (Nat.le_of_ble_eq_true rfl) dX12_blind_42) hP hD hS hA [2, 3, 4, 5, 6] [0, 1] rfl rfl rfl (by decide) (fun r_132 w_131 H locs hw_130 hP hD hS => ?_)
  obtain ⟨g4_133, g5_134, g6_135, rfl, hr_136⟩ := hw_130
  have hP : va_P D vwCl [(q7, .inl (cI, 10, .inl f_17)), (q2, .inl (cI, 250, .inl g1_7)), (h0, .inr (12, ((((((((((((((((((fs0.set 45 (.int 0)).set 62 (.int 0)).set 62 (.int 0)).set 62 (.int 0)).set 62 (.int 0)).set 62 (.int 0)).set 62 (.int 0)).set 62 (.int 0)).set 62 (.int 0)).set 62 (.int 0)).set 62 (.int 0)).set 62 (.int 0)).set 62 (.int 0)).set 62 (.int 0)).set 62 (.int 0)).set 62 (.int 0)).set 62 (.int 0)).set 62 (.int 0)))), (q3, .inl (cI, 2, .inl f3)), (q4, .inl (cI, 400, .inl g4_133)), (q5, .inl (cZ, 400, .inl g5_134)), (q6, .inl (cJ, 290, .inr (.inl g6_135)))] H := hP
  have hD : va_D A [(q7, .inl (cI, 10, .inl f_17)), (q2, .inl (cI, 250, .inl g1_7)), (h0, .inr (12, ((((((((((((((((((fs0.set 45 (.int 0)).set 62 (.int 0)).set 62 (.int 0)).set 62 (.int 0)).set 62 (.int 0)).set 62 (.int 0)).set 62 (.int 0)).set 62 (.int 0)).set 62 (.int 0)).set 62 (.int 0)).set 62 (.int 0)).set 62 (.int 0)).set 62 (.int 0)).set 62 (.int 0)).set 62 (.int 0)).set 62 (.int 0)).set 62 (.int 0)).set 62 (.int 0)))), (q3, .inl (cI, 2, .inl f3)), (q4, .inl (cI, 400, .inl g4_133)), (q5, .inl (cZ, 400, .inl g5_134)), (q6, .inl (cJ, 290, .inr (.inl g6_135)))] := hD
  refine tov (v := 0) hr_136 ?_
  refine lv_iadd hx hb dX12_blind_45 ?_
  refine tov (v := 0) (by decide) ?_
  refine lv_istore_n (lv' := [(1, .int 0), (2, .int 17), (0, .ref h0)]) hx hb dX12_blind_46 rfl hl (by decide) rfl (fun ls hl => ?_)
  refine lv_iinc (v := 18) (lv' := [(2, .int 18), (1, .int 0), (0, .ref h0)]) hx hb dX12_blind_47 hl (k := 1) rfl (by decide) (by decide) rfl (fun ls hl => ?_)
  refine lv_goto (tgt := 33) hx hb dX12_blind_50 (by decide) ?_
  refine lv_iload_n hx hb dX12_blind_33 rfl (lv_at hl 0 rfl) ?_
  refine lv_bipush (v := 24) hx hb dX12_blind_34 (by decide) ?_
  refine lv_icmp_gt (tgt := 53) hx hb dX12_blind_36 (by decide) (fun h => absurd h (by decide)) (fun _ => ?_)
  refine lv_iload_n hx hb dX12_blind_39 rfl (lv_at hl 1 rfl) ?_
  refine lv_aload_n hx hb dX12_blind_40 rfl (lv_at hl 2 rfl) ?_
  refine lv_iload_n hx hb dX12_blind_41 rfl (lv_at hl 0 rfl) ?_
  refine cl_i (wr := [(q7, .inl (cI, 10, .inl f_17)), (q2, .inl (cI, 250, .inl g1_7))]) (rn_V (As := [.int 18]) (rest := [.int 0]) hx hb hml hown hts (c_X12_blindDay l D cI cJ cZ h0 q3 q4 q5 q6 ((((((((((((((((((fs0.set 45 (.int 0)).set 62 (.int 0)).set 62 (.int 0)).set 62 (.int 0)).set 62 (.int 0)).set 62 (.int 0)).set 62 (.int 0)).set 62 (.int 0)).set 62 (.int 0)).set 62 (.int 0)).set 62 (.int 0)).set 62 (.int 0)).set 62 (.int 0)).set 62 (.int 0)).set 62 (.int 0)).set 62 (.int 0)).set 62 (.int 0)).set 62 (.int 0)) f3 g4_133 g5_134 g6_135 18 (ln_set (ln_set (ln_set (ln_set (ln_set (ln_set (ln_set (ln_set (ln_set (ln_set (ln_set (ln_set (ln_set (ln_set (ln_set (ln_set (ln_set (ln_set hl_fs0)))))))))))))))))) (gs_ne (by decide) (gs_ne (by decide) (gs_ne (by decide) (gs_ne (by decide) (gs_ne (by decide) (gs_ne (by decide) (gs_ne (by decide) (gs_ne (by decide) (gs_ne (by decide) (gs_ne (by decide) (gs_ne (by decide) (gs_ne (by decide) (gs_ne (by decide) (gs_ne (by decide) (gs_ne (by decide) (gs_ne (by decide) (gs_ne (by decide) (gs_ne (by decide) hf_fs0_12)))))))))))))))))) (gs_ne (by decide) (gs_ne (by decide) (gs_ne (by decide) (gs_ne (by decide) (gs_ne (by decide) (gs_ne (by decide) (gs_ne (by decide) (gs_ne (by decide) (gs_ne (by decide) (gs_ne (by decide) (gs_ne (by decide) (gs_ne (by decide) (gs_ne (by decide) (gs_ne (by decide) (gs_ne (by decide) (gs_ne (by decide) (gs_ne (by decide) (gs_eq (ln_lt hl_fs0 (by decide)))))))))))))))))))) (gs_ne (by decide) (gs_ne (by decide) (gs_ne (by decide) (gs_ne (by decide) (gs_ne (by decide) (gs_ne (by decide) (gs_ne (by decide) (gs_ne (by decide) (gs_ne (by decide) (gs_ne (by decide) (gs_ne (by decide) (gs_ne (by decide) (gs_ne (by decide) (gs_ne (by decide) (gs_ne (by decide) (gs_ne (by decide) (gs_ne (by decide) (gs_ne (by decide) hf_fs0_14)))))))))))))))))) (gs_ne (by decide) (gs_ne (by decide) (gs_ne (by decide) (gs_ne (by decide) (gs_ne (by decide) (gs_ne (by decide) (gs_ne (by decide) (gs_ne (by decide) (gs_ne (by decide) (gs_ne (by decide) (gs_ne (by decide) (gs_ne (by decide) (gs_ne (by decide) (gs_ne (by decide) (gs_ne (by decide) (gs_ne (by decide) (gs_ne (by decide) (gs_ne (by decide) hf_fs0_65)))))))))))))))))) (gs_ne (by decide) (gs_ne (by decide) (gs_ne (by decide) (gs_ne (by decide) (gs_ne (by decide) (gs_ne (by decide) (gs_ne (by decide) (gs_ne (by decide) (gs_ne (by decide) (gs_ne (by decide) (gs_ne (by decide) (gs_ne (by decide) (gs_ne (by decide) (gs_ne (by decide) (gs_ne (by decide) (gs_ne (by decide) (gs_ne (by decide) (gs_ne (by decide) hf_fs0_66)))))))))))))))))) (gs_ne (by decide) (gs_ne (by decide) (gs_ne (by decide) (gs_ne (by decide) (gs_ne (by decide) (gs_ne (by decide) (gs_ne (by decide) (gs_ne (by decide) (gs_ne (by decide) (gs_ne (by decide) (gs_ne (by decide) (gs_ne (by decide) (gs_ne (by decide) (gs_ne (by decide) (gs_ne (by decide) (gs_ne (by decide) (gs_ne (by decide) (gs_ne (by decide) hf_fs0_63)))))))))))))))))) ha_f3 _) ⟨rfl, rfl⟩ sv_X12_550 ⟨(Nat.le_of_ble_eq_true rfl), (Nat.le_of_ble_eq_true rfl)⟩ ⟨(Nat.le_of_ble_eq_true rfl), (Nat.le_of_ble_eq_true rfl)⟩ (fun _ _ _ _ h => h) (fun _ _ _ => trivial) hK hP hD [2, 3, 4, 5, 6] rfl rfl 0 12 rfl rfl rfl rfl hl.1 rfl (Nat.le_of_ble_eq_true rfl) dX12_blind_42) hP hD hS hA [2, 3, 4, 5, 6] [0, 1] rfl rfl rfl (by decide) (fun r_139 w_138 H locs hw_137 hP hD hS => ?_)
  obtain ⟨g4_140, g5_141, g6_142, rfl, hr_143⟩ := hw_137
  have hP : va_P D vwCl [(q7, .inl (cI, 10, .inl f_17)), (q2, .inl (cI, 250, .inl g1_7)), (h0, .inr (12, (((((((((((((((((((fs0.set 45 (.int 0)).set 62 (.int 0)).set 62 (.int 0)).set 62 (.int 0)).set 62 (.int 0)).set 62 (.int 0)).set 62 (.int 0)).set 62 (.int 0)).set 62 (.int 0)).set 62 (.int 0)).set 62 (.int 0)).set 62 (.int 0)).set 62 (.int 0)).set 62 (.int 0)).set 62 (.int 0)).set 62 (.int 0)).set 62 (.int 0)).set 62 (.int 0)).set 62 (.int 0)))), (q3, .inl (cI, 2, .inl f3)), (q4, .inl (cI, 400, .inl g4_140)), (q5, .inl (cZ, 400, .inl g5_141)), (q6, .inl (cJ, 290, .inr (.inl g6_142)))] H := hP
  have hD : va_D A [(q7, .inl (cI, 10, .inl f_17)), (q2, .inl (cI, 250, .inl g1_7)), (h0, .inr (12, (((((((((((((((((((fs0.set 45 (.int 0)).set 62 (.int 0)).set 62 (.int 0)).set 62 (.int 0)).set 62 (.int 0)).set 62 (.int 0)).set 62 (.int 0)).set 62 (.int 0)).set 62 (.int 0)).set 62 (.int 0)).set 62 (.int 0)).set 62 (.int 0)).set 62 (.int 0)).set 62 (.int 0)).set 62 (.int 0)).set 62 (.int 0)).set 62 (.int 0)).set 62 (.int 0)).set 62 (.int 0)))), (q3, .inl (cI, 2, .inl f3)), (q4, .inl (cI, 400, .inl g4_140)), (q5, .inl (cZ, 400, .inl g5_141)), (q6, .inl (cJ, 290, .inr (.inl g6_142)))] := hD
  refine tov (v := 0) hr_143 ?_
  refine lv_iadd hx hb dX12_blind_45 ?_
  refine tov (v := 0) (by decide) ?_
  refine lv_istore_n (lv' := [(1, .int 0), (2, .int 18), (0, .ref h0)]) hx hb dX12_blind_46 rfl hl (by decide) rfl (fun ls hl => ?_)
  refine lv_iinc (v := 19) (lv' := [(2, .int 19), (1, .int 0), (0, .ref h0)]) hx hb dX12_blind_47 hl (k := 1) rfl (by decide) (by decide) rfl (fun ls hl => ?_)
  refine lv_goto (tgt := 33) hx hb dX12_blind_50 (by decide) ?_
  refine lv_iload_n hx hb dX12_blind_33 rfl (lv_at hl 0 rfl) ?_
  refine lv_bipush (v := 24) hx hb dX12_blind_34 (by decide) ?_
  refine lv_icmp_gt (tgt := 53) hx hb dX12_blind_36 (by decide) (fun h => absurd h (by decide)) (fun _ => ?_)
  refine lv_iload_n hx hb dX12_blind_39 rfl (lv_at hl 1 rfl) ?_
  refine lv_aload_n hx hb dX12_blind_40 rfl (lv_at hl 2 rfl) ?_
  refine lv_iload_n hx hb dX12_blind_41 rfl (lv_at hl 0 rfl) ?_
  refine cl_i (wr := [(q7, .inl (cI, 10, .inl f_17)), (q2, .inl (cI, 250, .inl g1_7))]) (rn_V (As := [.int 19]) (rest := [.int 0]) hx hb hml hown hts (c_X12_blindDay l D cI cJ cZ h0 q3 q4 q5 q6 (((((((((((((((((((fs0.set 45 (.int 0)).set 62 (.int 0)).set 62 (.int 0)).set 62 (.int 0)).set 62 (.int 0)).set 62 (.int 0)).set 62 (.int 0)).set 62 (.int 0)).set 62 (.int 0)).set 62 (.int 0)).set 62 (.int 0)).set 62 (.int 0)).set 62 (.int 0)).set 62 (.int 0)).set 62 (.int 0)).set 62 (.int 0)).set 62 (.int 0)).set 62 (.int 0)).set 62 (.int 0)) f3 g4_140 g5_141 g6_142 19 (ln_set (ln_set (ln_set (ln_set (ln_set (ln_set (ln_set (ln_set (ln_set (ln_set (ln_set (ln_set (ln_set (ln_set (ln_set (ln_set (ln_set (ln_set (ln_set hl_fs0))))))))))))))))))) (gs_ne (by decide) (gs_ne (by decide) (gs_ne (by decide) (gs_ne (by decide) (gs_ne (by decide) (gs_ne (by decide) (gs_ne (by decide) (gs_ne (by decide) (gs_ne (by decide) (gs_ne (by decide) (gs_ne (by decide) (gs_ne (by decide) (gs_ne (by decide) (gs_ne (by decide) (gs_ne (by decide) (gs_ne (by decide) (gs_ne (by decide) (gs_ne (by decide) (gs_ne (by decide) hf_fs0_12))))))))))))))))))) (gs_ne (by decide) (gs_ne (by decide) (gs_ne (by decide) (gs_ne (by decide) (gs_ne (by decide) (gs_ne (by decide) (gs_ne (by decide) (gs_ne (by decide) (gs_ne (by decide) (gs_ne (by decide) (gs_ne (by decide) (gs_ne (by decide) (gs_ne (by decide) (gs_ne (by decide) (gs_ne (by decide) (gs_ne (by decide) (gs_ne (by decide) (gs_ne (by decide) (gs_eq (ln_lt hl_fs0 (by decide))))))))))))))))))))) (gs_ne (by decide) (gs_ne (by decide) (gs_ne (by decide) (gs_ne (by decide) (gs_ne (by decide) (gs_ne (by decide) (gs_ne (by decide) (gs_ne (by decide) (gs_ne (by decide) (gs_ne (by decide) (gs_ne (by decide) (gs_ne (by decide) (gs_ne (by decide) (gs_ne (by decide) (gs_ne (by decide) (gs_ne (by decide) (gs_ne (by decide) (gs_ne (by decide) (gs_ne (by decide) hf_fs0_14))))))))))))))))))) (gs_ne (by decide) (gs_ne (by decide) (gs_ne (by decide) (gs_ne (by decide) (gs_ne (by decide) (gs_ne (by decide) (gs_ne (by decide) (gs_ne (by decide) (gs_ne (by decide) (gs_ne (by decide) (gs_ne (by decide) (gs_ne (by decide) (gs_ne (by decide) (gs_ne (by decide) (gs_ne (by decide) (gs_ne (by decide) (gs_ne (by decide) (gs_ne (by decide) (gs_ne (by decide) hf_fs0_65))))))))))))))))))) (gs_ne (by decide) (gs_ne (by decide) (gs_ne (by decide) (gs_ne (by decide) (gs_ne (by decide) (gs_ne (by decide) (gs_ne (by decide) (gs_ne (by decide) (gs_ne (by decide) (gs_ne (by decide) (gs_ne (by decide) (gs_ne (by decide) (gs_ne (by decide) (gs_ne (by decide) (gs_ne (by decide) (gs_ne (by decide) (gs_ne (by decide) (gs_ne (by decide) (gs_ne (by decide) hf_fs0_66))))))))))))))))))) (gs_ne (by decide) (gs_ne (by decide) (gs_ne (by decide) (gs_ne (by decide) (gs_ne (by decide) (gs_ne (by decide) (gs_ne (by decide) (gs_ne (by decide) (gs_ne (by decide) (gs_ne (by decide) (gs_ne (by decide) (gs_ne (by decide) (gs_ne (by decide) (gs_ne (by decide) (gs_ne (by decide) (gs_ne (by decide) (gs_ne (by decide) (gs_ne (by decide) (gs_ne (by decide) hf_fs0_63))))))))))))))))))) ha_f3 _) ⟨rfl, rfl⟩ sv_X12_550 ⟨(Nat.le_of_ble_eq_true rfl), (Nat.le_of_ble_eq_true rfl)⟩ ⟨(Nat.le_of_ble_eq_true rfl), (Nat.le_of_ble_eq_true rfl)⟩ (fun _ _ _ _ h => h) (fun _ _ _ => trivial) hK hP hD [2, 3, 4, 5, 6] rfl rfl 0 12 rfl rfl rfl rfl hl.1 rfl (Nat.le_of_ble_eq_true rfl) dX12_blind_42) hP hD hS hA [2, 3, 4, 5, 6] [0, 1] rfl rfl rfl (by decide) (fun r_146 w_145 H locs hw_144 hP hD hS => ?_)
  obtain ⟨g4_147, g5_148, g6_149, rfl, hr_150⟩ := hw_144
  have hP : va_P D vwCl [(q7, .inl (cI, 10, .inl f_17)), (q2, .inl (cI, 250, .inl g1_7)), (h0, .inr (12, ((((((((((((((((((((fs0.set 45 (.int 0)).set 62 (.int 0)).set 62 (.int 0)).set 62 (.int 0)).set 62 (.int 0)).set 62 (.int 0)).set 62 (.int 0)).set 62 (.int 0)).set 62 (.int 0)).set 62 (.int 0)).set 62 (.int 0)).set 62 (.int 0)).set 62 (.int 0)).set 62 (.int 0)).set 62 (.int 0)).set 62 (.int 0)).set 62 (.int 0)).set 62 (.int 0)).set 62 (.int 0)).set 62 (.int 0)))), (q3, .inl (cI, 2, .inl f3)), (q4, .inl (cI, 400, .inl g4_147)), (q5, .inl (cZ, 400, .inl g5_148)), (q6, .inl (cJ, 290, .inr (.inl g6_149)))] H := hP
  have hD : va_D A [(q7, .inl (cI, 10, .inl f_17)), (q2, .inl (cI, 250, .inl g1_7)), (h0, .inr (12, ((((((((((((((((((((fs0.set 45 (.int 0)).set 62 (.int 0)).set 62 (.int 0)).set 62 (.int 0)).set 62 (.int 0)).set 62 (.int 0)).set 62 (.int 0)).set 62 (.int 0)).set 62 (.int 0)).set 62 (.int 0)).set 62 (.int 0)).set 62 (.int 0)).set 62 (.int 0)).set 62 (.int 0)).set 62 (.int 0)).set 62 (.int 0)).set 62 (.int 0)).set 62 (.int 0)).set 62 (.int 0)).set 62 (.int 0)))), (q3, .inl (cI, 2, .inl f3)), (q4, .inl (cI, 400, .inl g4_147)), (q5, .inl (cZ, 400, .inl g5_148)), (q6, .inl (cJ, 290, .inr (.inl g6_149)))] := hD
  refine tov (v := 0) hr_150 ?_
  refine lv_iadd hx hb dX12_blind_45 ?_
  refine tov (v := 0) (by decide) ?_
  refine lv_istore_n (lv' := [(1, .int 0), (2, .int 19), (0, .ref h0)]) hx hb dX12_blind_46 rfl hl (by decide) rfl (fun ls hl => ?_)
  refine lv_iinc (v := 20) (lv' := [(2, .int 20), (1, .int 0), (0, .ref h0)]) hx hb dX12_blind_47 hl (k := 1) rfl (by decide) (by decide) rfl (fun ls hl => ?_)
  refine lv_goto (tgt := 33) hx hb dX12_blind_50 (by decide) ?_
  refine lv_iload_n hx hb dX12_blind_33 rfl (lv_at hl 0 rfl) ?_
  refine lv_bipush (v := 24) hx hb dX12_blind_34 (by decide) ?_
  refine lv_icmp_gt (tgt := 53) hx hb dX12_blind_36 (by decide) (fun h => absurd h (by decide)) (fun _ => ?_)
  refine lv_iload_n hx hb dX12_blind_39 rfl (lv_at hl 1 rfl) ?_
  refine lv_aload_n hx hb dX12_blind_40 rfl (lv_at hl 2 rfl) ?_
  refine lv_iload_n hx hb dX12_blind_41 rfl (lv_at hl 0 rfl) ?_
  refine cl_i (wr := [(q7, .inl (cI, 10, .inl f_17)), (q2, .inl (cI, 250, .inl g1_7))]) (rn_V (As := [.int 20]) (rest := [.int 0]) hx hb hml hown hts (c_X12_blindDay l D cI cJ cZ h0 q3 q4 q5 q6 ((((((((((((((((((((fs0.set 45 (.int 0)).set 62 (.int 0)).set 62 (.int 0)).set 62 (.int 0)).set 62 (.int 0)).set 62 (.int 0)).set 62 (.int 0)).set 62 (.int 0)).set 62 (.int 0)).set 62 (.int 0)).set 62 (.int 0)).set 62 (.int 0)).set 62 (.int 0)).set 62 (.int 0)).set 62 (.int 0)).set 62 (.int 0)).set 62 (.int 0)).set 62 (.int 0)).set 62 (.int 0)).set 62 (.int 0)) f3 g4_147 g5_148 g6_149 20 (ln_set (ln_set (ln_set (ln_set (ln_set (ln_set (ln_set (ln_set (ln_set (ln_set (ln_set (ln_set (ln_set (ln_set (ln_set (ln_set (ln_set (ln_set (ln_set (ln_set hl_fs0)))))))))))))))))))) (gs_ne (by decide) (gs_ne (by decide) (gs_ne (by decide) (gs_ne (by decide) (gs_ne (by decide) (gs_ne (by decide) (gs_ne (by decide) (gs_ne (by decide) (gs_ne (by decide) (gs_ne (by decide) (gs_ne (by decide) (gs_ne (by decide) (gs_ne (by decide) (gs_ne (by decide) (gs_ne (by decide) (gs_ne (by decide) (gs_ne (by decide) (gs_ne (by decide) (gs_ne (by decide) (gs_ne (by decide) hf_fs0_12)))))))))))))))))))) (gs_ne (by decide) (gs_ne (by decide) (gs_ne (by decide) (gs_ne (by decide) (gs_ne (by decide) (gs_ne (by decide) (gs_ne (by decide) (gs_ne (by decide) (gs_ne (by decide) (gs_ne (by decide) (gs_ne (by decide) (gs_ne (by decide) (gs_ne (by decide) (gs_ne (by decide) (gs_ne (by decide) (gs_ne (by decide) (gs_ne (by decide) (gs_ne (by decide) (gs_ne (by decide) (gs_eq (ln_lt hl_fs0 (by decide)))))))))))))))))))))) (gs_ne (by decide) (gs_ne (by decide) (gs_ne (by decide) (gs_ne (by decide) (gs_ne (by decide) (gs_ne (by decide) (gs_ne (by decide) (gs_ne (by decide) (gs_ne (by decide) (gs_ne (by decide) (gs_ne (by decide) (gs_ne (by decide) (gs_ne (by decide) (gs_ne (by decide) (gs_ne (by decide) (gs_ne (by decide) (gs_ne (by decide) (gs_ne (by decide) (gs_ne (by decide) (gs_ne (by decide) hf_fs0_14)))))))))))))))))))) (gs_ne (by decide) (gs_ne (by decide) (gs_ne (by decide) (gs_ne (by decide) (gs_ne (by decide) (gs_ne (by decide) (gs_ne (by decide) (gs_ne (by decide) (gs_ne (by decide) (gs_ne (by decide) (gs_ne (by decide) (gs_ne (by decide) (gs_ne (by decide) (gs_ne (by decide) (gs_ne (by decide) (gs_ne (by decide) (gs_ne (by decide) (gs_ne (by decide) (gs_ne (by decide) (gs_ne (by decide) hf_fs0_65)))))))))))))))))))) (gs_ne (by decide) (gs_ne (by decide) (gs_ne (by decide) (gs_ne (by decide) (gs_ne (by decide) (gs_ne (by decide) (gs_ne (by decide) (gs_ne (by decide) (gs_ne (by decide) (gs_ne (by decide) (gs_ne (by decide) (gs_ne (by decide) (gs_ne (by decide) (gs_ne (by decide) (gs_ne (by decide) (gs_ne (by decide) (gs_ne (by decide) (gs_ne (by decide) (gs_ne (by decide) (gs_ne (by decide) hf_fs0_66)))))))))))))))))))) (gs_ne (by decide) (gs_ne (by decide) (gs_ne (by decide) (gs_ne (by decide) (gs_ne (by decide) (gs_ne (by decide) (gs_ne (by decide) (gs_ne (by decide) (gs_ne (by decide) (gs_ne (by decide) (gs_ne (by decide) (gs_ne (by decide) (gs_ne (by decide) (gs_ne (by decide) (gs_ne (by decide) (gs_ne (by decide) (gs_ne (by decide) (gs_ne (by decide) (gs_ne (by decide) (gs_ne (by decide) hf_fs0_63)))))))))))))))))))) ha_f3 _) ⟨rfl, rfl⟩ sv_X12_550 ⟨(Nat.le_of_ble_eq_true rfl), (Nat.le_of_ble_eq_true rfl)⟩ ⟨(Nat.le_of_ble_eq_true rfl), (Nat.le_of_ble_eq_true rfl)⟩ (fun _ _ _ _ h => h) (fun _ _ _ => trivial) hK hP hD [2, 3, 4, 5, 6] rfl rfl 0 12 rfl rfl rfl rfl hl.1 rfl (Nat.le_of_ble_eq_true rfl) dX12_blind_42) hP hD hS hA [2, 3, 4, 5, 6] [0, 1] rfl rfl rfl (by decide) (fun r_153 w_152 H locs hw_151 hP hD hS => ?_)
  obtain ⟨g4_154, g5_155, g6_156, rfl, hr_157⟩ := hw_151
  have hP : va_P D vwCl [(q7, .inl (cI, 10, .inl f_17)), (q2, .inl (cI, 250, .inl g1_7)), (h0, .inr (12, (((((((((((((((((((((fs0.set 45 (.int 0)).set 62 (.int 0)).set 62 (.int 0)).set 62 (.int 0)).set 62 (.int 0)).set 62 (.int 0)).set 62 (.int 0)).set 62 (.int 0)).set 62 (.int 0)).set 62 (.int 0)).set 62 (.int 0)).set 62 (.int 0)).set 62 (.int 0)).set 62 (.int 0)).set 62 (.int 0)).set 62 (.int 0)).set 62 (.int 0)).set 62 (.int 0)).set 62 (.int 0)).set 62 (.int 0)).set 62 (.int 0)))), (q3, .inl (cI, 2, .inl f3)), (q4, .inl (cI, 400, .inl g4_154)), (q5, .inl (cZ, 400, .inl g5_155)), (q6, .inl (cJ, 290, .inr (.inl g6_156)))] H := hP
  have hD : va_D A [(q7, .inl (cI, 10, .inl f_17)), (q2, .inl (cI, 250, .inl g1_7)), (h0, .inr (12, (((((((((((((((((((((fs0.set 45 (.int 0)).set 62 (.int 0)).set 62 (.int 0)).set 62 (.int 0)).set 62 (.int 0)).set 62 (.int 0)).set 62 (.int 0)).set 62 (.int 0)).set 62 (.int 0)).set 62 (.int 0)).set 62 (.int 0)).set 62 (.int 0)).set 62 (.int 0)).set 62 (.int 0)).set 62 (.int 0)).set 62 (.int 0)).set 62 (.int 0)).set 62 (.int 0)).set 62 (.int 0)).set 62 (.int 0)).set 62 (.int 0)))), (q3, .inl (cI, 2, .inl f3)), (q4, .inl (cI, 400, .inl g4_154)), (q5, .inl (cZ, 400, .inl g5_155)), (q6, .inl (cJ, 290, .inr (.inl g6_156)))] := hD
  refine tov (v := 0) hr_157 ?_
  refine lv_iadd hx hb dX12_blind_45 ?_
  refine tov (v := 0) (by decide) ?_
  refine lv_istore_n (lv' := [(1, .int 0), (2, .int 20), (0, .ref h0)]) hx hb dX12_blind_46 rfl hl (by decide) rfl (fun ls hl => ?_)
  refine lv_iinc (v := 21) (lv' := [(2, .int 21), (1, .int 0), (0, .ref h0)]) hx hb dX12_blind_47 hl (k := 1) rfl (by decide) (by decide) rfl (fun ls hl => ?_)
  refine lv_goto (tgt := 33) hx hb dX12_blind_50 (by decide) ?_
  refine lv_iload_n hx hb dX12_blind_33 rfl (lv_at hl 0 rfl) ?_
  refine lv_bipush (v := 24) hx hb dX12_blind_34 (by decide) ?_
  refine lv_icmp_gt (tgt := 53) hx hb dX12_blind_36 (by decide) (fun h => absurd h (by decide)) (fun _ => ?_)
  refine lv_iload_n hx hb dX12_blind_39 rfl (lv_at hl 1 rfl) ?_
  refine lv_aload_n hx hb dX12_blind_40 rfl (lv_at hl 2 rfl) ?_
  refine lv_iload_n hx hb dX12_blind_41 rfl (lv_at hl 0 rfl) ?_
  refine cl_i (wr := [(q7, .inl (cI, 10, .inl f_17)), (q2, .inl (cI, 250, .inl g1_7))]) (rn_V (As := [.int 21]) (rest := [.int 0]) hx hb hml hown hts (c_X12_blindDay l D cI cJ cZ h0 q3 q4 q5 q6 (((((((((((((((((((((fs0.set 45 (.int 0)).set 62 (.int 0)).set 62 (.int 0)).set 62 (.int 0)).set 62 (.int 0)).set 62 (.int 0)).set 62 (.int 0)).set 62 (.int 0)).set 62 (.int 0)).set 62 (.int 0)).set 62 (.int 0)).set 62 (.int 0)).set 62 (.int 0)).set 62 (.int 0)).set 62 (.int 0)).set 62 (.int 0)).set 62 (.int 0)).set 62 (.int 0)).set 62 (.int 0)).set 62 (.int 0)).set 62 (.int 0)) f3 g4_154 g5_155 g6_156 21 (ln_set (ln_set (ln_set (ln_set (ln_set (ln_set (ln_set (ln_set (ln_set (ln_set (ln_set (ln_set (ln_set (ln_set (ln_set (ln_set (ln_set (ln_set (ln_set (ln_set (ln_set hl_fs0))))))))))))))))))))) (gs_ne (by decide) (gs_ne (by decide) (gs_ne (by decide) (gs_ne (by decide) (gs_ne (by decide) (gs_ne (by decide) (gs_ne (by decide) (gs_ne (by decide) (gs_ne (by decide) (gs_ne (by decide) (gs_ne (by decide) (gs_ne (by decide) (gs_ne (by decide) (gs_ne (by decide) (gs_ne (by decide) (gs_ne (by decide) (gs_ne (by decide) (gs_ne (by decide) (gs_ne (by decide) (gs_ne (by decide) (gs_ne (by decide) hf_fs0_12))))))))))))))))))))) (gs_ne (by decide) (gs_ne (by decide) (gs_ne (by decide) (gs_ne (by decide) (gs_ne (by decide) (gs_ne (by decide) (gs_ne (by decide) (gs_ne (by decide) (gs_ne (by decide) (gs_ne (by decide) (gs_ne (by decide) (gs_ne (by decide) (gs_ne (by decide) (gs_ne (by decide) (gs_ne (by decide) (gs_ne (by decide) (gs_ne (by decide) (gs_ne (by decide) (gs_ne (by decide) (gs_ne (by decide) (gs_eq (ln_lt hl_fs0 (by decide))))))))))))))))))))))) (gs_ne (by decide) (gs_ne (by decide) (gs_ne (by decide) (gs_ne (by decide) (gs_ne (by decide) (gs_ne (by decide) (gs_ne (by decide) (gs_ne (by decide) (gs_ne (by decide) (gs_ne (by decide) (gs_ne (by decide) (gs_ne (by decide) (gs_ne (by decide) (gs_ne (by decide) (gs_ne (by decide) (gs_ne (by decide) (gs_ne (by decide) (gs_ne (by decide) (gs_ne (by decide) (gs_ne (by decide) (gs_ne (by decide) hf_fs0_14))))))))))))))))))))) (gs_ne (by decide) (gs_ne (by decide) (gs_ne (by decide) (gs_ne (by decide) (gs_ne (by decide) (gs_ne (by decide) (gs_ne (by decide) (gs_ne (by decide) (gs_ne (by decide) (gs_ne (by decide) (gs_ne (by decide) (gs_ne (by decide) (gs_ne (by decide) (gs_ne (by decide) (gs_ne (by decide) (gs_ne (by decide) (gs_ne (by decide) (gs_ne (by decide) (gs_ne (by decide) (gs_ne (by decide) (gs_ne (by decide) hf_fs0_65))))))))))))))))))))) (gs_ne (by decide) (gs_ne (by decide) (gs_ne (by decide) (gs_ne (by decide) (gs_ne (by decide) (gs_ne (by decide) (gs_ne (by decide) (gs_ne (by decide) (gs_ne (by decide) (gs_ne (by decide) (gs_ne (by decide) (gs_ne (by decide) (gs_ne (by decide) (gs_ne (by decide) (gs_ne (by decide) (gs_ne (by decide) (gs_ne (by decide) (gs_ne (by decide) (gs_ne (by decide) (gs_ne (by decide) (gs_ne (by decide) hf_fs0_66))))))))))))))))))))) (gs_ne (by decide) (gs_ne (by decide) (gs_ne (by decide) (gs_ne (by decide) (gs_ne (by decide) (gs_ne (by decide) (gs_ne (by decide) (gs_ne (by decide) (gs_ne (by decide) (gs_ne (by decide) (gs_ne (by decide) (gs_ne (by decide) (gs_ne (by decide) (gs_ne (by decide) (gs_ne (by decide) (gs_ne (by decide) (gs_ne (by decide) (gs_ne (by decide) (gs_ne (by decide) (gs_ne (by decide) (gs_ne (by decide) hf_fs0_63))))))))))))))))))))) ha_f3 _) ⟨rfl, rfl⟩ sv_X12_550 ⟨(Nat.le_of_ble_eq_true rfl), (Nat.le_of_ble_eq_true rfl)⟩ ⟨(Nat.le_of_ble_eq_true rfl), (Nat.le_of_ble_eq_true rfl)⟩ (fun _ _ _ _ h => h) (fun _ _ _ => trivial) hK hP hD [2, 3, 4, 5, 6] rfl rfl 0 12 rfl rfl rfl rfl hl.1 rfl (Nat.le_of_ble_eq_true rfl) dX12_blind_42) hP hD hS hA [2, 3, 4, 5, 6] [0, 1] rfl rfl rfl (by decide) (fun r_160 w_159 H locs hw_158 hP hD hS => ?_)
  obtain ⟨g4_161, g5_162, g6_163, rfl, hr_164⟩ := hw_158
  have hP : va_P D vwCl [(q7, .inl (cI, 10, .inl f_17)), (q2, .inl (cI, 250, .inl g1_7)), (h0, .inr (12, ((((((((((((((((((((((fs0.set 45 (.int 0)).set 62 (.int 0)).set 62 (.int 0)).set 62 (.int 0)).set 62 (.int 0)).set 62 (.int 0)).set 62 (.int 0)).set 62 (.int 0)).set 62 (.int 0)).set 62 (.int 0)).set 62 (.int 0)).set 62 (.int 0)).set 62 (.int 0)).set 62 (.int 0)).set 62 (.int 0)).set 62 (.int 0)).set 62 (.int 0)).set 62 (.int 0)).set 62 (.int 0)).set 62 (.int 0)).set 62 (.int 0)).set 62 (.int 0)))), (q3, .inl (cI, 2, .inl f3)), (q4, .inl (cI, 400, .inl g4_161)), (q5, .inl (cZ, 400, .inl g5_162)), (q6, .inl (cJ, 290, .inr (.inl g6_163)))] H := hP
  have hD : va_D A [(q7, .inl (cI, 10, .inl f_17)), (q2, .inl (cI, 250, .inl g1_7)), (h0, .inr (12, ((((((((((((((((((((((fs0.set 45 (.int 0)).set 62 (.int 0)).set 62 (.int 0)).set 62 (.int 0)).set 62 (.int 0)).set 62 (.int 0)).set 62 (.int 0)).set 62 (.int 0)).set 62 (.int 0)).set 62 (.int 0)).set 62 (.int 0)).set 62 (.int 0)).set 62 (.int 0)).set 62 (.int 0)).set 62 (.int 0)).set 62 (.int 0)).set 62 (.int 0)).set 62 (.int 0)).set 62 (.int 0)).set 62 (.int 0)).set 62 (.int 0)).set 62 (.int 0)))), (q3, .inl (cI, 2, .inl f3)), (q4, .inl (cI, 400, .inl g4_161)), (q5, .inl (cZ, 400, .inl g5_162)), (q6, .inl (cJ, 290, .inr (.inl g6_163)))] := hD
  refine tov (v := 0) hr_164 ?_
  refine lv_iadd hx hb dX12_blind_45 ?_
  refine tov (v := 0) (by decide) ?_
  refine lv_istore_n (lv' := [(1, .int 0), (2, .int 21), (0, .ref h0)]) hx hb dX12_blind_46 rfl hl (by decide) rfl (fun ls hl => ?_)
  refine lv_iinc (v := 22) (lv' := [(2, .int 22), (1, .int 0), (0, .ref h0)]) hx hb dX12_blind_47 hl (k := 1) rfl (by decide) (by decide) rfl (fun ls hl => ?_)
  refine lv_goto (tgt := 33) hx hb dX12_blind_50 (by decide) ?_
  refine lv_iload_n hx hb dX12_blind_33 rfl (lv_at hl 0 rfl) ?_
  refine lv_bipush (v := 24) hx hb dX12_blind_34 (by decide) ?_
  refine lv_icmp_gt (tgt := 53) hx hb dX12_blind_36 (by decide) (fun h => absurd h (by decide)) (fun _ => ?_)
  refine lv_iload_n hx hb dX12_blind_39 rfl (lv_at hl 1 rfl) ?_
  refine lv_aload_n hx hb dX12_blind_40 rfl (lv_at hl 2 rfl) ?_
  refine lv_iload_n hx hb dX12_blind_41 rfl (lv_at hl 0 rfl) ?_
  refine cl_i (wr := [(q7, .inl (cI, 10, .inl f_17)), (q2, .inl (cI, 250, .inl g1_7))]) (rn_V (As := [.int 22]) (rest := [.int 0]) hx hb hml hown hts (c_X12_blindDay l D cI cJ cZ h0 q3 q4 q5 q6 ((((((((((((((((((((((fs0.set 45 (.int 0)).set 62 (.int 0)).set 62 (.int 0)).set 62 (.int 0)).set 62 (.int 0)).set 62 (.int 0)).set 62 (.int 0)).set 62 (.int 0)).set 62 (.int 0)).set 62 (.int 0)).set 62 (.int 0)).set 62 (.int 0)).set 62 (.int 0)).set 62 (.int 0)).set 62 (.int 0)).set 62 (.int 0)).set 62 (.int 0)).set 62 (.int 0)).set 62 (.int 0)).set 62 (.int 0)).set 62 (.int 0)).set 62 (.int 0)) f3 g4_161 g5_162 g6_163 22 (ln_set (ln_set (ln_set (ln_set (ln_set (ln_set (ln_set (ln_set (ln_set (ln_set (ln_set (ln_set (ln_set (ln_set (ln_set (ln_set (ln_set (ln_set (ln_set (ln_set (ln_set (ln_set hl_fs0)))))))))))))))))))))) (gs_ne (by decide) (gs_ne (by decide) (gs_ne (by decide) (gs_ne (by decide) (gs_ne (by decide) (gs_ne (by decide) (gs_ne (by decide) (gs_ne (by decide) (gs_ne (by decide) (gs_ne (by decide) (gs_ne (by decide) (gs_ne (by decide) (gs_ne (by decide) (gs_ne (by decide) (gs_ne (by decide) (gs_ne (by decide) (gs_ne (by decide) (gs_ne (by decide) (gs_ne (by decide) (gs_ne (by decide) (gs_ne (by decide) (gs_ne (by decide) hf_fs0_12)))))))))))))))))))))) (gs_ne (by decide) (gs_ne (by decide) (gs_ne (by decide) (gs_ne (by decide) (gs_ne (by decide) (gs_ne (by decide) (gs_ne (by decide) (gs_ne (by decide) (gs_ne (by decide) (gs_ne (by decide) (gs_ne (by decide) (gs_ne (by decide) (gs_ne (by decide) (gs_ne (by decide) (gs_ne (by decide) (gs_ne (by decide) (gs_ne (by decide) (gs_ne (by decide) (gs_ne (by decide) (gs_ne (by decide) (gs_ne (by decide) (gs_eq (ln_lt hl_fs0 (by decide)))))))))))))))))))))))) (gs_ne (by decide) (gs_ne (by decide) (gs_ne (by decide) (gs_ne (by decide) (gs_ne (by decide) (gs_ne (by decide) (gs_ne (by decide) (gs_ne (by decide) (gs_ne (by decide) (gs_ne (by decide) (gs_ne (by decide) (gs_ne (by decide) (gs_ne (by decide) (gs_ne (by decide) (gs_ne (by decide) (gs_ne (by decide) (gs_ne (by decide) (gs_ne (by decide) (gs_ne (by decide) (gs_ne (by decide) (gs_ne (by decide) (gs_ne (by decide) hf_fs0_14)))))))))))))))))))))) (gs_ne (by decide) (gs_ne (by decide) (gs_ne (by decide) (gs_ne (by decide) (gs_ne (by decide) (gs_ne (by decide) (gs_ne (by decide) (gs_ne (by decide) (gs_ne (by decide) (gs_ne (by decide) (gs_ne (by decide) (gs_ne (by decide) (gs_ne (by decide) (gs_ne (by decide) (gs_ne (by decide) (gs_ne (by decide) (gs_ne (by decide) (gs_ne (by decide) (gs_ne (by decide) (gs_ne (by decide) (gs_ne (by decide) (gs_ne (by decide) hf_fs0_65)))))))))))))))))))))) (gs_ne (by decide) (gs_ne (by decide) (gs_ne (by decide) (gs_ne (by decide) (gs_ne (by decide) (gs_ne (by decide) (gs_ne (by decide) (gs_ne (by decide) (gs_ne (by decide) (gs_ne (by decide) (gs_ne (by decide) (gs_ne (by decide) (gs_ne (by decide) (gs_ne (by decide) (gs_ne (by decide) (gs_ne (by decide) (gs_ne (by decide) (gs_ne (by decide) (gs_ne (by decide) (gs_ne (by decide) (gs_ne (by decide) (gs_ne (by decide) hf_fs0_66)))))))))))))))))))))) (gs_ne (by decide) (gs_ne (by decide) (gs_ne (by decide) (gs_ne (by decide) (gs_ne (by decide) (gs_ne (by decide) (gs_ne (by decide) (gs_ne (by decide) (gs_ne (by decide) (gs_ne (by decide) (gs_ne (by decide) (gs_ne (by decide) (gs_ne (by decide) (gs_ne (by decide) (gs_ne (by decide) (gs_ne (by decide) (gs_ne (by decide) (gs_ne (by decide) (gs_ne (by decide) (gs_ne (by decide) (gs_ne (by decide) (gs_ne (by decide) hf_fs0_63)))))))))))))))))))))) ha_f3 _) ⟨rfl, rfl⟩ sv_X12_550 ⟨(Nat.le_of_ble_eq_true rfl), (Nat.le_of_ble_eq_true rfl)⟩ ⟨(Nat.le_of_ble_eq_true rfl), (Nat.le_of_ble_eq_true rfl)⟩ (fun _ _ _ _ h => h) (fun _ _ _ => trivial) hK hP hD [2, 3, 4, 5, 6] rfl rfl 0 12 rfl rfl rfl rfl hl.1 rfl (Nat.le_of_ble_eq_true rfl) dX12_blind_42) hP hD hS hA [2, 3, 4, 5, 6] [0, 1] rfl rfl rfl (by decide) (fun r_167 w_166 H locs hw_165 hP hD hS => ?_)
  obtain ⟨g4_168, g5_169, g6_170, rfl, hr_171⟩ := hw_165
  have hP : va_P D vwCl [(q7, .inl (cI, 10, .inl f_17)), (q2, .inl (cI, 250, .inl g1_7)), (h0, .inr (12, (((((((((((((((((((((((fs0.set 45 (.int 0)).set 62 (.int 0)).set 62 (.int 0)).set 62 (.int 0)).set 62 (.int 0)).set 62 (.int 0)).set 62 (.int 0)).set 62 (.int 0)).set 62 (.int 0)).set 62 (.int 0)).set 62 (.int 0)).set 62 (.int 0)).set 62 (.int 0)).set 62 (.int 0)).set 62 (.int 0)).set 62 (.int 0)).set 62 (.int 0)).set 62 (.int 0)).set 62 (.int 0)).set 62 (.int 0)).set 62 (.int 0)).set 62 (.int 0)).set 62 (.int 0)))), (q3, .inl (cI, 2, .inl f3)), (q4, .inl (cI, 400, .inl g4_168)), (q5, .inl (cZ, 400, .inl g5_169)), (q6, .inl (cJ, 290, .inr (.inl g6_170)))] H := hP
  have hD : va_D A [(q7, .inl (cI, 10, .inl f_17)), (q2, .inl (cI, 250, .inl g1_7)), (h0, .inr (12, (((((((((((((((((((((((fs0.set 45 (.int 0)).set 62 (.int 0)).set 62 (.int 0)).set 62 (.int 0)).set 62 (.int 0)).set 62 (.int 0)).set 62 (.int 0)).set 62 (.int 0)).set 62 (.int 0)).set 62 (.int 0)).set 62 (.int 0)).set 62 (.int 0)).set 62 (.int 0)).set 62 (.int 0)).set 62 (.int 0)).set 62 (.int 0)).set 62 (.int 0)).set 62 (.int 0)).set 62 (.int 0)).set 62 (.int 0)).set 62 (.int 0)).set 62 (.int 0)).set 62 (.int 0)))), (q3, .inl (cI, 2, .inl f3)), (q4, .inl (cI, 400, .inl g4_168)), (q5, .inl (cZ, 400, .inl g5_169)), (q6, .inl (cJ, 290, .inr (.inl g6_170)))] := hD
  refine tov (v := 0) hr_171 ?_
  refine lv_iadd hx hb dX12_blind_45 ?_
  refine tov (v := 0) (by decide) ?_
  refine lv_istore_n (lv' := [(1, .int 0), (2, .int 22), (0, .ref h0)]) hx hb dX12_blind_46 rfl hl (by decide) rfl (fun ls hl => ?_)
  refine lv_iinc (v := 23) (lv' := [(2, .int 23), (1, .int 0), (0, .ref h0)]) hx hb dX12_blind_47 hl (k := 1) rfl (by decide) (by decide) rfl (fun ls hl => ?_)
  refine lv_goto (tgt := 33) hx hb dX12_blind_50 (by decide) ?_
  refine lv_iload_n hx hb dX12_blind_33 rfl (lv_at hl 0 rfl) ?_
  refine lv_bipush (v := 24) hx hb dX12_blind_34 (by decide) ?_
  refine lv_icmp_gt (tgt := 53) hx hb dX12_blind_36 (by decide) (fun h => absurd h (by decide)) (fun _ => ?_)
  refine lv_iload_n hx hb dX12_blind_39 rfl (lv_at hl 1 rfl) ?_
  refine lv_aload_n hx hb dX12_blind_40 rfl (lv_at hl 2 rfl) ?_
  refine lv_iload_n hx hb dX12_blind_41 rfl (lv_at hl 0 rfl) ?_
  refine cl_i (wr := [(q7, .inl (cI, 10, .inl f_17)), (q2, .inl (cI, 250, .inl g1_7))]) (rn_V (As := [.int 23]) (rest := [.int 0]) hx hb hml hown hts (c_X12_blindDay l D cI cJ cZ h0 q3 q4 q5 q6 (((((((((((((((((((((((fs0.set 45 (.int 0)).set 62 (.int 0)).set 62 (.int 0)).set 62 (.int 0)).set 62 (.int 0)).set 62 (.int 0)).set 62 (.int 0)).set 62 (.int 0)).set 62 (.int 0)).set 62 (.int 0)).set 62 (.int 0)).set 62 (.int 0)).set 62 (.int 0)).set 62 (.int 0)).set 62 (.int 0)).set 62 (.int 0)).set 62 (.int 0)).set 62 (.int 0)).set 62 (.int 0)).set 62 (.int 0)).set 62 (.int 0)).set 62 (.int 0)).set 62 (.int 0)) f3 g4_168 g5_169 g6_170 23 (ln_set (ln_set (ln_set (ln_set (ln_set (ln_set (ln_set (ln_set (ln_set (ln_set (ln_set (ln_set (ln_set (ln_set (ln_set (ln_set (ln_set (ln_set (ln_set (ln_set (ln_set (ln_set (ln_set hl_fs0))))))))))))))))))))))) (gs_ne (by decide) (gs_ne (by decide) (gs_ne (by decide) (gs_ne (by decide) (gs_ne (by decide) (gs_ne (by decide) (gs_ne (by decide) (gs_ne (by decide) (gs_ne (by decide) (gs_ne (by decide) (gs_ne (by decide) (gs_ne (by decide) (gs_ne (by decide) (gs_ne (by decide) (gs_ne (by decide) (gs_ne (by decide) (gs_ne (by decide) (gs_ne (by decide) (gs_ne (by decide) (gs_ne (by decide) (gs_ne (by decide) (gs_ne (by decide) (gs_ne (by decide) hf_fs0_12))))))))))))))))))))))) (gs_ne (by decide) (gs_ne (by decide) (gs_ne (by decide) (gs_ne (by decide) (gs_ne (by decide) (gs_ne (by decide) (gs_ne (by decide) (gs_ne (by decide) (gs_ne (by decide) (gs_ne (by decide) (gs_ne (by decide) (gs_ne (by decide) (gs_ne (by decide) (gs_ne (by decide) (gs_ne (by decide) (gs_ne (by decide) (gs_ne (by decide) (gs_ne (by decide) (gs_ne (by decide) (gs_ne (by decide) (gs_ne (by decide) (gs_ne (by decide) (gs_eq (ln_lt hl_fs0 (by decide))))))))))))))))))))))))) (gs_ne (by decide) (gs_ne (by decide) (gs_ne (by decide) (gs_ne (by decide) (gs_ne (by decide) (gs_ne (by decide) (gs_ne (by decide) (gs_ne (by decide) (gs_ne (by decide) (gs_ne (by decide) (gs_ne (by decide) (gs_ne (by decide) (gs_ne (by decide) (gs_ne (by decide) (gs_ne (by decide) (gs_ne (by decide) (gs_ne (by decide) (gs_ne (by decide) (gs_ne (by decide) (gs_ne (by decide) (gs_ne (by decide) (gs_ne (by decide) (gs_ne (by decide) hf_fs0_14))))))))))))))))))))))) (gs_ne (by decide) (gs_ne (by decide) (gs_ne (by decide) (gs_ne (by decide) (gs_ne (by decide) (gs_ne (by decide) (gs_ne (by decide) (gs_ne (by decide) (gs_ne (by decide) (gs_ne (by decide) (gs_ne (by decide) (gs_ne (by decide) (gs_ne (by decide) (gs_ne (by decide) (gs_ne (by decide) (gs_ne (by decide) (gs_ne (by decide) (gs_ne (by decide) (gs_ne (by decide) (gs_ne (by decide) (gs_ne (by decide) (gs_ne (by decide) (gs_ne (by decide) hf_fs0_65))))))))))))))))))))))) (gs_ne (by decide) (gs_ne (by decide) (gs_ne (by decide) (gs_ne (by decide) (gs_ne (by decide) (gs_ne (by decide) (gs_ne (by decide) (gs_ne (by decide) (gs_ne (by decide) (gs_ne (by decide) (gs_ne (by decide) (gs_ne (by decide) (gs_ne (by decide) (gs_ne (by decide) (gs_ne (by decide) (gs_ne (by decide) (gs_ne (by decide) (gs_ne (by decide) (gs_ne (by decide) (gs_ne (by decide) (gs_ne (by decide) (gs_ne (by decide) (gs_ne (by decide) hf_fs0_66))))))))))))))))))))))) (gs_ne (by decide) (gs_ne (by decide) (gs_ne (by decide) (gs_ne (by decide) (gs_ne (by decide) (gs_ne (by decide) (gs_ne (by decide) (gs_ne (by decide) (gs_ne (by decide) (gs_ne (by decide) (gs_ne (by decide) (gs_ne (by decide) (gs_ne (by decide) (gs_ne (by decide) (gs_ne (by decide) (gs_ne (by decide) (gs_ne (by decide) (gs_ne (by decide) (gs_ne (by decide) (gs_ne (by decide) (gs_ne (by decide) (gs_ne (by decide) (gs_ne (by decide) hf_fs0_63))))))))))))))))))))))) ha_f3 _) ⟨rfl, rfl⟩ sv_X12_550 ⟨(Nat.le_of_ble_eq_true rfl), (Nat.le_of_ble_eq_true rfl)⟩ ⟨(Nat.le_of_ble_eq_true rfl), (Nat.le_of_ble_eq_true rfl)⟩ (fun _ _ _ _ h => h) (fun _ _ _ => trivial) hK hP hD [2, 3, 4, 5, 6] rfl rfl 0 12 rfl rfl rfl rfl hl.1 rfl (Nat.le_of_ble_eq_true rfl) dX12_blind_42) hP hD hS hA [2, 3, 4, 5, 6] [0, 1] rfl rfl rfl (by decide) (fun r_174 w_173 H locs hw_172 hP hD hS => ?_)
  obtain ⟨g4_175, g5_176, g6_177, rfl, hr_178⟩ := hw_172
  have hP : va_P D vwCl [(q7, .inl (cI, 10, .inl f_17)), (q2, .inl (cI, 250, .inl g1_7)), (h0, .inr (12, ((((((((((((((((((((((((fs0.set 45 (.int 0)).set 62 (.int 0)).set 62 (.int 0)).set 62 (.int 0)).set 62 (.int 0)).set 62 (.int 0)).set 62 (.int 0)).set 62 (.int 0)).set 62 (.int 0)).set 62 (.int 0)).set 62 (.int 0)).set 62 (.int 0)).set 62 (.int 0)).set 62 (.int 0)).set 62 (.int 0)).set 62 (.int 0)).set 62 (.int 0)).set 62 (.int 0)).set 62 (.int 0)).set 62 (.int 0)).set 62 (.int 0)).set 62 (.int 0)).set 62 (.int 0)).set 62 (.int 0)))), (q3, .inl (cI, 2, .inl f3)), (q4, .inl (cI, 400, .inl g4_175)), (q5, .inl (cZ, 400, .inl g5_176)), (q6, .inl (cJ, 290, .inr (.inl g6_177)))] H := hP
  have hD : va_D A [(q7, .inl (cI, 10, .inl f_17)), (q2, .inl (cI, 250, .inl g1_7)), (h0, .inr (12, ((((((((((((((((((((((((fs0.set 45 (.int 0)).set 62 (.int 0)).set 62 (.int 0)).set 62 (.int 0)).set 62 (.int 0)).set 62 (.int 0)).set 62 (.int 0)).set 62 (.int 0)).set 62 (.int 0)).set 62 (.int 0)).set 62 (.int 0)).set 62 (.int 0)).set 62 (.int 0)).set 62 (.int 0)).set 62 (.int 0)).set 62 (.int 0)).set 62 (.int 0)).set 62 (.int 0)).set 62 (.int 0)).set 62 (.int 0)).set 62 (.int 0)).set 62 (.int 0)).set 62 (.int 0)).set 62 (.int 0)))), (q3, .inl (cI, 2, .inl f3)), (q4, .inl (cI, 400, .inl g4_175)), (q5, .inl (cZ, 400, .inl g5_176)), (q6, .inl (cJ, 290, .inr (.inl g6_177)))] := hD
  refine tov (v := 0) hr_178 ?_
  refine lv_iadd hx hb dX12_blind_45 ?_
  refine tov (v := 0) (by decide) ?_
  refine lv_istore_n (lv' := [(1, .int 0), (2, .int 23), (0, .ref h0)]) hx hb dX12_blind_46 rfl hl (by decide) rfl (fun ls hl => ?_)
  refine lv_iinc (v := 24) (lv' := [(2, .int 24), (1, .int 0), (0, .ref h0)]) hx hb dX12_blind_47 hl (k := 1) rfl (by decide) (by decide) rfl (fun ls hl => ?_)
  refine lv_goto (tgt := 33) hx hb dX12_blind_50 (by decide) ?_
  refine lv_iload_n hx hb dX12_blind_33 rfl (lv_at hl 0 rfl) ?_
  refine lv_bipush (v := 24) hx hb dX12_blind_34 (by decide) ?_
  refine lv_icmp_gt (tgt := 53) hx hb dX12_blind_36 (by decide) (fun h => absurd h (by decide)) (fun _ => ?_)
  refine lv_iload_n hx hb dX12_blind_39 rfl (lv_at hl 1 rfl) ?_
  refine lv_aload_n hx hb dX12_blind_40 rfl (lv_at hl 2 rfl) ?_
  refine lv_iload_n hx hb dX12_blind_41 rfl (lv_at hl 0 rfl) ?_
  refine cl_i (wr := [(q7, .inl (cI, 10, .inl f_17)), (q2, .inl (cI, 250, .inl g1_7))]) (rn_V (As := [.int 24]) (rest := [.int 0]) hx hb hml hown hts (c_X12_blindDay l D cI cJ cZ h0 q3 q4 q5 q6 ((((((((((((((((((((((((fs0.set 45 (.int 0)).set 62 (.int 0)).set 62 (.int 0)).set 62 (.int 0)).set 62 (.int 0)).set 62 (.int 0)).set 62 (.int 0)).set 62 (.int 0)).set 62 (.int 0)).set 62 (.int 0)).set 62 (.int 0)).set 62 (.int 0)).set 62 (.int 0)).set 62 (.int 0)).set 62 (.int 0)).set 62 (.int 0)).set 62 (.int 0)).set 62 (.int 0)).set 62 (.int 0)).set 62 (.int 0)).set 62 (.int 0)).set 62 (.int 0)).set 62 (.int 0)).set 62 (.int 0)) f3 g4_175 g5_176 g6_177 24 (ln_set (ln_set (ln_set (ln_set (ln_set (ln_set (ln_set (ln_set (ln_set (ln_set (ln_set (ln_set (ln_set (ln_set (ln_set (ln_set (ln_set (ln_set (ln_set (ln_set (ln_set (ln_set (ln_set (ln_set hl_fs0)))))))))))))))))))))))) (gs_ne (by decide) (gs_ne (by decide) (gs_ne (by decide) (gs_ne (by decide) (gs_ne (by decide) (gs_ne (by decide) (gs_ne (by decide) (gs_ne (by decide) (gs_ne (by decide) (gs_ne (by decide) (gs_ne (by decide) (gs_ne (by decide) (gs_ne (by decide) (gs_ne (by decide) (gs_ne (by decide) (gs_ne (by decide) (gs_ne (by decide) (gs_ne (by decide) (gs_ne (by decide) (gs_ne (by decide) (gs_ne (by decide) (gs_ne (by decide) (gs_ne (by decide) (gs_ne (by decide) hf_fs0_12)))))))))))))))))))))))) (gs_ne (by decide) (gs_ne (by decide) (gs_ne (by decide) (gs_ne (by decide) (gs_ne (by decide) (gs_ne (by decide) (gs_ne (by decide) (gs_ne (by decide) (gs_ne (by decide) (gs_ne (by decide) (gs_ne (by decide) (gs_ne (by decide) (gs_ne (by decide) (gs_ne (by decide) (gs_ne (by decide) (gs_ne (by decide) (gs_ne (by decide) (gs_ne (by decide) (gs_ne (by decide) (gs_ne (by decide) (gs_ne (by decide) (gs_ne (by decide) (gs_ne (by decide) (gs_eq (ln_lt hl_fs0 (by decide)))))))))))))))))))))))))) (gs_ne (by decide) (gs_ne (by decide) (gs_ne (by decide) (gs_ne (by decide) (gs_ne (by decide) (gs_ne (by decide) (gs_ne (by decide) (gs_ne (by decide) (gs_ne (by decide) (gs_ne (by decide) (gs_ne (by decide) (gs_ne (by decide) (gs_ne (by decide) (gs_ne (by decide) (gs_ne (by decide) (gs_ne (by decide) (gs_ne (by decide) (gs_ne (by decide) (gs_ne (by decide) (gs_ne (by decide) (gs_ne (by decide) (gs_ne (by decide) (gs_ne (by decide) (gs_ne (by decide) hf_fs0_14)))))))))))))))))))))))) (gs_ne (by decide) (gs_ne (by decide) (gs_ne (by decide) (gs_ne (by decide) (gs_ne (by decide) (gs_ne (by decide) (gs_ne (by decide) (gs_ne (by decide) (gs_ne (by decide) (gs_ne (by decide) (gs_ne (by decide) (gs_ne (by decide) (gs_ne (by decide) (gs_ne (by decide) (gs_ne (by decide) (gs_ne (by decide) (gs_ne (by decide) (gs_ne (by decide) (gs_ne (by decide) (gs_ne (by decide) (gs_ne (by decide) (gs_ne (by decide) (gs_ne (by decide) (gs_ne (by decide) hf_fs0_65)))))))))))))))))))))))) (gs_ne (by decide) (gs_ne (by decide) (gs_ne (by decide) (gs_ne (by decide) (gs_ne (by decide) (gs_ne (by decide) (gs_ne (by decide) (gs_ne (by decide) (gs_ne (by decide) (gs_ne (by decide) (gs_ne (by decide) (gs_ne (by decide) (gs_ne (by decide) (gs_ne (by decide) (gs_ne (by decide) (gs_ne (by decide) (gs_ne (by decide) (gs_ne (by decide) (gs_ne (by decide) (gs_ne (by decide) (gs_ne (by decide) (gs_ne (by decide) (gs_ne (by decide) (gs_ne (by decide) hf_fs0_66)))))))))))))))))))))))) (gs_ne (by decide) (gs_ne (by decide) (gs_ne (by decide) (gs_ne (by decide) (gs_ne (by decide) (gs_ne (by decide) (gs_ne (by decide) (gs_ne (by decide) (gs_ne (by decide) (gs_ne (by decide) (gs_ne (by decide) (gs_ne (by decide) (gs_ne (by decide) (gs_ne (by decide) (gs_ne (by decide) (gs_ne (by decide) (gs_ne (by decide) (gs_ne (by decide) (gs_ne (by decide) (gs_ne (by decide) (gs_ne (by decide) (gs_ne (by decide) (gs_ne (by decide) (gs_ne (by decide) hf_fs0_63)))))))))))))))))))))))) ha_f3 _) ⟨rfl, rfl⟩ sv_X12_550 ⟨(Nat.le_of_ble_eq_true rfl), (Nat.le_of_ble_eq_true rfl)⟩ ⟨(Nat.le_of_ble_eq_true rfl), (Nat.le_of_ble_eq_true rfl)⟩ (fun _ _ _ _ h => h) (fun _ _ _ => trivial) hK hP hD [2, 3, 4, 5, 6] rfl rfl 0 12 rfl rfl rfl rfl hl.1 rfl (Nat.le_of_ble_eq_true rfl) dX12_blind_42) hP hD hS hA [2, 3, 4, 5, 6] [0, 1] rfl rfl rfl (by decide) (fun r_181 w_180 H locs hw_179 hP hD hS => ?_)
  obtain ⟨g4_182, g5_183, g6_184, rfl, hr_185⟩ := hw_179
  have hP : va_P D vwCl [(q7, .inl (cI, 10, .inl f_17)), (q2, .inl (cI, 250, .inl g1_7)), (h0, .inr (12, (((((((((((((((((((((((((fs0.set 45 (.int 0)).set 62 (.int 0)).set 62 (.int 0)).set 62 (.int 0)).set 62 (.int 0)).set 62 (.int 0)).set 62 (.int 0)).set 62 (.int 0)).set 62 (.int 0)).set 62 (.int 0)).set 62 (.int 0)).set 62 (.int 0)).set 62 (.int 0)).set 62 (.int 0)).set 62 (.int 0)).set 62 (.int 0)).set 62 (.int 0)).set 62 (.int 0)).set 62 (.int 0)).set 62 (.int 0)).set 62 (.int 0)).set 62 (.int 0)).set 62 (.int 0)).set 62 (.int 0)).set 62 (.int 0)))), (q3, .inl (cI, 2, .inl f3)), (q4, .inl (cI, 400, .inl g4_182)), (q5, .inl (cZ, 400, .inl g5_183)), (q6, .inl (cJ, 290, .inr (.inl g6_184)))] H := hP
  have hD : va_D A [(q7, .inl (cI, 10, .inl f_17)), (q2, .inl (cI, 250, .inl g1_7)), (h0, .inr (12, (((((((((((((((((((((((((fs0.set 45 (.int 0)).set 62 (.int 0)).set 62 (.int 0)).set 62 (.int 0)).set 62 (.int 0)).set 62 (.int 0)).set 62 (.int 0)).set 62 (.int 0)).set 62 (.int 0)).set 62 (.int 0)).set 62 (.int 0)).set 62 (.int 0)).set 62 (.int 0)).set 62 (.int 0)).set 62 (.int 0)).set 62 (.int 0)).set 62 (.int 0)).set 62 (.int 0)).set 62 (.int 0)).set 62 (.int 0)).set 62 (.int 0)).set 62 (.int 0)).set 62 (.int 0)).set 62 (.int 0)).set 62 (.int 0)))), (q3, .inl (cI, 2, .inl f3)), (q4, .inl (cI, 400, .inl g4_182)), (q5, .inl (cZ, 400, .inl g5_183)), (q6, .inl (cJ, 290, .inr (.inl g6_184)))] := hD
  refine tov (v := 0) hr_185 ?_
  refine lv_iadd hx hb dX12_blind_45 ?_
  refine tov (v := 0) (by decide) ?_
  refine lv_istore_n (lv' := [(1, .int 0), (2, .int 24), (0, .ref h0)]) hx hb dX12_blind_46 rfl hl (by decide) rfl (fun ls hl => ?_)
  refine lv_iinc (v := 25) (lv' := [(2, .int 25), (1, .int 0), (0, .ref h0)]) hx hb dX12_blind_47 hl (k := 1) rfl (by decide) (by decide) rfl (fun ls hl => ?_)
  refine lv_goto (tgt := 33) hx hb dX12_blind_50 (by decide) ?_
  refine lv_iload_n hx hb dX12_blind_33 rfl (lv_at hl 0 rfl) ?_
  refine lv_bipush (v := 24) hx hb dX12_blind_34 (by decide) ?_
  refine lv_icmp_gt (tgt := 53) hx hb dX12_blind_36 (by decide) (fun _ => ?_) (fun h => (h (by decide)).elim)
  refine lv_iload_n hx hb dX12_blind_53 rfl (lv_at hl 1 rfl) ?_
  exact fin_i hx hb hr hlk hK hP hD hS dX12_blind_54 (rfl)
set_option maxRecDepth 100000 in
set_option maxHeartbeats 4000000 in
theorem c_X12_was (l : Launch) (D : va_G) (cI cJ cZ : ClassId) (h0 : Nat) (fs0 : List Value) (p0 : Int32) (hl_fs0 : fs0.length = 94) (hf_fs0_68 : fs0[68]? = some (.int 0)) : Con_i l yX12_was cX12_was 2 (some .boolean) ({ frames := 0, cells := 0, slots := 0, locals := 0 }) D cI cJ cZ eT [.ref h0, .int p0] [(h0, .inr (12, fs0))] (fun (r : Int32) (w : va_W) => w = [(h0, .inr (12, fs0))] ∧ r = 0) := by
  refine ent_i (by decide) (Nat.le_of_ble_eq_true rfl) ?_
  intro p e s m below meth c A hx hb hml hown hts hr hlk hnm hK hE hA hP hD hS ls hl
  have hown : s.vm.findClass RX12 = some m.cls := hown
  have hl : lv_has ls 2 [(0, .ref h0), (1, .int p0)] := hl
  refine lv_aload_n hx hb dX12_was_0 rfl (lv_at hl 0 rfl) ?_
  refine gt_X12 hx hb hts hown hK hP 0 rfl 68 (by decide) wd_1469 rfl hf_fs0_68 dX12_was_1 ?_
  refine lv_if_eq (tgt := 23) hx hb dX12_was_4 (by decide) (fun _ => ?_) (fun h => (h (by decide)).elim)
  refine lv_iconst (v := 0) hx hb dX12_was_23 (by decide) ?_
  exact fin_z hx hb hr hlk hK hP hD hS dX12_was_24 rfl (⟨rfl, rfl⟩)
set_option maxRecDepth 100000 in
set_option maxHeartbeats 4000000 in
theorem c_X12_given (l : Launch) (D : va_G) (cI cJ cZ : ClassId) (h0 : Nat) (fs0 : List Value) (p0 : Int32) (hl_fs0 : fs0.length = 94) (hf_fs0_68 : fs0[68]? = some (.int 0)) : Con_i l yX12_given cX12_given 4 (some .int) ({ frames := 0, cells := 0, slots := 0, locals := 0 }) D cI cJ cZ eT [.ref h0, .int p0] [(h0, .inr (12, fs0))] (fun r _ => r = (-1)) := by
  refine ent_i (by decide) (Nat.le_of_ble_eq_true rfl) ?_
  intro p e s m below meth c A hx hb hml hown hts hr hlk hnm hK hE hA hP hD hS ls hl
  have hown : s.vm.findClass RX12 = some m.cls := hown
  have hl : lv_has ls 4 [(0, .ref h0), (1, .int p0)] := hl
  refine lv_aload_n hx hb dX12_given_0 rfl (lv_at hl 0 rfl) ?_
  refine gt_X12 hx hb hts hown hK hP 0 rfl 68 (by decide) wd_1469 rfl hf_fs0_68 dX12_given_1 ?_
  refine lv_if_ne (tgt := 9) hx hb dX12_given_4 (by decide) (fun h => (h (by decide)).elim) (fun _ => ?_)
  refine lv_iconst (v := (-1)) hx hb dX12_given_7 (by decide) ?_
  exact fin_i hx hb hr hlk hK hP hD hS dX12_given_8 (rfl)
set_option maxRecDepth 100000 in
set_option maxHeartbeats 4000000 in
theorem c_X12_gets (l : Launch) (D : va_G) (cI cJ cZ : ClassId) (h0 : Nat) (fs0 : List Value) (p0 : Int32) (hl_fs0 : fs0.length = 94) (hf_fs0_68 : fs0[68]? = some (.int 0)) : Con_i l yX12_gets cX12_gets 2 (some .int) ({ frames := 1, cells := 0, slots := 0, locals := 21 }) D cI cJ cZ eT [.ref h0, .int p0] [(h0, .inr (12, fs0))] (fun r _ => r = (-1)) := by
  refine ent_i (by decide) (Nat.le_of_ble_eq_true rfl) ?_
  intro p e s m below meth c A hx hb hml hown hts hr hlk hnm hK hE hA hP hD hS ls hl
  have hown : s.vm.findClass RX12 = some m.cls := hown
  have hl : lv_has ls 2 [(0, .ref h0), (1, .int p0)] := hl
  refine lv_aload_n hx hb dX12_gets_0 rfl (lv_at hl 0 rfl) ?_
  refine lv_iload_n hx hb dX12_gets_1 rfl (lv_at hl 1 rfl) ?_
  refine cl_i (wr := []) (rn_V (As := [.int p0]) (rest := []) hx hb hml hown hts (c_X12_was l D cI cJ cZ h0 fs0 p0 hl_fs0 hf_fs0_68 _) ⟨rfl, rfl⟩ sv_X12_547 ⟨(Nat.le_of_ble_eq_true rfl), (Nat.le_of_ble_eq_true rfl)⟩ ⟨(Nat.le_of_ble_eq_true rfl), (Nat.le_of_ble_eq_true rfl)⟩ (fun _ _ _ _ h => h) (fun _ _ _ => trivial) hK hP hD [0] rfl rfl 0 12 rfl rfl rfl rfl hl.1 rfl (Nat.le_of_ble_eq_true rfl) dX12_gets_2) hP hD hS hA [0] [] rfl rfl rfl (by decide) (fun r_3 w_2 H locs hw_1 hP hD hS => ?_)
  obtain ⟨rfl, hr_4⟩ := hw_1
  have hP : va_P D vwCl [(h0, .inr (12, fs0))] H := hP
  have hD : va_D A [(h0, .inr (12, fs0))] := hD
  refine tov (v := 0) hr_4 ?_
  refine lv_if_eq (tgt := 17) hx hb dX12_gets_5 (by decide) (fun _ => ?_) (fun h => (h (by decide)).elim)
  refine lv_iconst (v := (-1)) hx hb dX12_gets_17 (by decide) ?_
  exact fin_i hx hb hr hlk hK hP hD hS dX12_gets_18 (rfl)
set_option maxRecDepth 100000 in
set_option maxHeartbeats 4000000 in
theorem c_X12_left (l : Launch) (D : va_G) (cI cJ cZ : ClassId) (h0 : Nat) (fs0 : List Value) (p0 : Int32) (hl_fs0 : fs0.length = 94) (hf_fs0_68 : fs0[68]? = some (.int 0)) : Con_i l yX12_left cX12_left 2 (some .int) ({ frames := 0, cells := 0, slots := 0, locals := 0 }) D cI cJ cZ eT [.ref h0, .int p0] [(h0, .inr (12, fs0))] (fun r _ => r = (-1)) := by
  refine ent_i (by decide) (Nat.le_of_ble_eq_true rfl) ?_
  intro p e s m below meth c A hx hb hml hown hts hr hlk hnm hK hE hA hP hD hS ls hl
  have hown : s.vm.findClass RX12 = some m.cls := hown
  have hl : lv_has ls 2 [(0, .ref h0), (1, .int p0)] := hl
  refine lv_aload_n hx hb dX12_left_0 rfl (lv_at hl 0 rfl) ?_
  refine gt_X12 hx hb hts hown hK hP 0 rfl 68 (by decide) wd_1469 rfl hf_fs0_68 dX12_left_1 ?_
  refine lv_if_eq (tgt := 15) hx hb dX12_left_4 (by decide) (fun _ => ?_) (fun h => (h (by decide)).elim)
  refine lv_iconst (v := (-1)) hx hb dX12_left_15 (by decide) ?_
  refine lv_goto (tgt := 25) hx hb dX12_left_16 (by decide) ?_
  exact fin_i hx hb hr hlk hK hP hD hS dX12_left_25 (rfl)
set_option maxRecDepth 100000 in
set_option maxHeartbeats 4000000 in
theorem c_X12_lacks (l : Launch) (D : va_G) (cI cJ cZ : ClassId) (h0 : Nat) (fs0 : List Value) (p0 : Int32) (p1 : Int32) (hl_fs0 : fs0.length = 94) (hf_fs0_68 : fs0[68]? = some (.int 0)) : Con_i l yX12_lacks cX12_lacks 5 (some .int) ({ frames := 0, cells := 0, slots := 0, locals := 0 }) D cI cJ cZ eT [.ref h0, .int p0, .int p1] [(h0, .inr (12, fs0))] (fun r _ => r = (-1)) := by
  refine ent_i (by decide) (Nat.le_of_ble_eq_true rfl) ?_
  intro p e s m below meth c A hx hb hml hown hts hr hlk hnm hK hE hA hP hD hS ls hl
  have hown : s.vm.findClass RX12 = some m.cls := hown
  have hl : lv_has ls 5 [(0, .ref h0), (1, .int p0), (2, .int p1)] := hl
  refine lv_aload_n hx hb dX12_lacks_0 rfl (lv_at hl 0 rfl) ?_
  refine gt_X12 hx hb hts hown hK hP 0 rfl 68 (by decide) wd_1469 rfl hf_fs0_68 dX12_lacks_1 ?_
  refine lv_if_ne (tgt := 9) hx hb dX12_lacks_4 (by decide) (fun h => (h (by decide)).elim) (fun _ => ?_)
  refine lv_iconst (v := (-1)) hx hb dX12_lacks_7 (by decide) ?_
  exact fin_i hx hb hr hlk hK hP hD hS dX12_lacks_8 (rfl)
set_option maxRecDepth 100000 in
set_option maxHeartbeats 4000000 in
theorem c_X12_price (l : Launch) (D : va_G) (cI cJ cZ : ClassId) (h0 : Nat) (fs0 : List Value) (p0 : Int32) (hl_fs0 : fs0.length = 94) (hf_fs0_68 : fs0[68]? = some (.int 0)) : Con_i l yX12_price cX12_price 2 (some .int) ({ frames := 1, cells := 0, slots := 0, locals := 21 }) D cI cJ cZ eT [.ref h0, .int p0] [(h0, .inr (12, fs0))] (fun r _ => r = (-1)) := by
  refine ent_i (by decide) (Nat.le_of_ble_eq_true rfl) ?_
  intro p e s m below meth c A hx hb hml hown hts hr hlk hnm hK hE hA hP hD hS ls hl
  have hown : s.vm.findClass RX12 = some m.cls := hown
  have hl : lv_has ls 2 [(0, .ref h0), (1, .int p0)] := hl
  refine lv_aload_n hx hb dX12_price_0 rfl (lv_at hl 0 rfl) ?_
  refine lv_iload_n hx hb dX12_price_1 rfl (lv_at hl 1 rfl) ?_
  refine cl_i (wr := []) (rn_V (As := [.int p0]) (rest := []) hx hb hml hown hts (c_X12_was l D cI cJ cZ h0 fs0 p0 hl_fs0 hf_fs0_68 _) ⟨rfl, rfl⟩ sv_X12_547 ⟨(Nat.le_of_ble_eq_true rfl), (Nat.le_of_ble_eq_true rfl)⟩ ⟨(Nat.le_of_ble_eq_true rfl), (Nat.le_of_ble_eq_true rfl)⟩ (fun _ _ _ _ h => h) (fun _ _ _ => trivial) hK hP hD [0] rfl rfl 0 12 rfl rfl rfl rfl hl.1 rfl (Nat.le_of_ble_eq_true rfl) dX12_price_2) hP hD hS hA [0] [] rfl rfl rfl (by decide) (fun r_3 w_2 H locs hw_1 hP hD hS => ?_)
  obtain ⟨rfl, hr_4⟩ := hw_1
  have hP : va_P D vwCl [(h0, .inr (12, fs0))] H := hP
  have hD : va_D A [(h0, .inr (12, fs0))] := hD
  refine tov (v := 0) hr_4 ?_
  refine lv_if_eq (tgt := 16) hx hb dX12_price_5 (by decide) (fun _ => ?_) (fun h => (h (by decide)).elim)
  refine lv_iconst (v := (-1)) hx hb dX12_price_16 (by decide) ?_
  exact fin_i hx hb hr hlk hK hP hD hS dX12_price_17 (rfl)
set_option maxRecDepth 100000 in
set_option maxHeartbeats 4000000 in
theorem c_X12_spend (l : Launch) (D : va_G) (cI cJ cZ : ClassId) (h0 : Nat) (fs0 : List Value) (p0 : Int32) (hl_fs0 : fs0.length = 94) (hf_fs0_68 : fs0[68]? = some (.int 0)) : Con_i l yX12_spend cX12_spend 6 (some .int) ({ frames := 0, cells := 0, slots := 0, locals := 0 }) D cI cJ cZ eT [.ref h0, .int p0] [(h0, .inr (12, fs0))] (fun r _ => r = (-1)) := by
  refine ent_i (by decide) (Nat.le_of_ble_eq_true rfl) ?_
  intro p e s m below meth c A hx hb hml hown hts hr hlk hnm hK hE hA hP hD hS ls hl
  have hown : s.vm.findClass RX12 = some m.cls := hown
  have hl : lv_has ls 6 [(0, .ref h0), (1, .int p0)] := hl
  refine lv_aload_n hx hb dX12_spend_0 rfl (lv_at hl 0 rfl) ?_
  refine gt_X12 hx hb hts hown hK hP 0 rfl 68 (by decide) wd_1469 rfl hf_fs0_68 dX12_spend_1 ?_
  refine lv_if_eq (tgt := 25) hx hb dX12_spend_4 (by decide) (fun _ => ?_) (fun h => (h (by decide)).elim)
  refine lv_iconst (v := (-1)) hx hb dX12_spend_25 (by decide) ?_
  exact fin_i hx hb hr hlk hK hP hD hS dX12_spend_26 (rfl)
set_option maxRecDepth 100000 in
set_option maxHeartbeats 4000000 in
theorem c_X12_spent (l : Launch) (D : va_G) (cI cJ cZ : ClassId) (h0 : Nat) (fs0 : List Value) (hl_fs0 : fs0.length = 94) (hf_fs0_68 : fs0[68]? = some (.int 0)) : Con_i l yX12_spent cX12_spent 1 (some .int) ({ frames := 0, cells := 0, slots := 0, locals := 0 }) D cI cJ cZ eT [.ref h0] [(h0, .inr (12, fs0))] (fun r _ => r = (-1)) := by
  refine ent_i (by decide) (Nat.le_of_ble_eq_true rfl) ?_
  intro p e s m below meth c A hx hb hml hown hts hr hlk hnm hK hE hA hP hD hS ls hl
  have hown : s.vm.findClass RX12 = some m.cls := hown
  have hl : lv_has ls 1 [(0, .ref h0)] := hl
  refine lv_aload_n hx hb dX12_spent_0 rfl (lv_at hl 0 rfl) ?_
  refine gt_X12 hx hb hts hown hK hP 0 rfl 68 (by decide) wd_1469 rfl hf_fs0_68 dX12_spent_1 ?_
  refine lv_if_eq (tgt := 21) hx hb dX12_spent_4 (by decide) (fun _ => ?_) (fun h => (h (by decide)).elim)
  refine lv_iconst (v := (-1)) hx hb dX12_spent_21 (by decide) ?_
  exact fin_i hx hb hr hlk hK hP hD hS dX12_spent_22 (rfl)
set_option maxRecDepth 100000 in
set_option maxHeartbeats 4000000 in
theorem c_X12_right (l : Launch) (D : va_G) (cI cJ cZ : ClassId) (h0 : Nat) (fs0 : List Value) (hl_fs0 : fs0.length = 94) (hf_fs0_68 : fs0[68]? = some (.int 0)) : Con_i l yX12_right cX12_right 3 (some .int) ({ frames := 0, cells := 0, slots := 0, locals := 0 }) D cI cJ cZ eT [.ref h0] [(h0, .inr (12, fs0))] (fun r _ => r = (-1)) := by
  refine ent_i (by decide) (Nat.le_of_ble_eq_true rfl) ?_
  intro p e s m below meth c A hx hb hml hown hts hr hlk hnm hK hE hA hP hD hS ls hl
  have hown : s.vm.findClass RX12 = some m.cls := hown
  have hl : lv_has ls 3 [(0, .ref h0)] := hl
  refine lv_aload_n hx hb dX12_right_0 rfl (lv_at hl 0 rfl) ?_
  refine gt_X12 hx hb hts hown hK hP 0 rfl 68 (by decide) wd_1469 rfl hf_fs0_68 dX12_right_1 ?_
  refine lv_if_ne (tgt := 9) hx hb dX12_right_4 (by decide) (fun h => (h (by decide)).elim) (fun _ => ?_)
  refine lv_iconst (v := (-1)) hx hb dX12_right_7 (by decide) ?_
  exact fin_i hx hb hr hlk hK hP hD hS dX12_right_8 (rfl)
set_option maxRecDepth 100000 in
set_option maxHeartbeats 4000000 in
theorem c_X12_walks (l : Launch) (D : va_G) (cI cJ cZ : ClassId) (h0 : Nat) (fs0 : List Value) (p0 : Int32) (hl_fs0 : fs0.length = 94) (hf_fs0_68 : fs0[68]? = some (.int 0)) : Con_i l yX12_walks cX12_walks 4 (some .int) ({ frames := 0, cells := 0, slots := 0, locals := 0 }) D cI cJ cZ eT [.ref h0, .int p0] [(h0, .inr (12, fs0))] (fun r _ => r = (-1)) := by
  refine ent_i (by decide) (Nat.le_of_ble_eq_true rfl) ?_
  intro p e s m below meth c A hx hb hml hown hts hr hlk hnm hK hE hA hP hD hS ls hl
  have hown : s.vm.findClass RX12 = some m.cls := hown
  have hl : lv_has ls 4 [(0, .ref h0), (1, .int p0)] := hl
  refine lv_aload_n hx hb dX12_walks_0 rfl (lv_at hl 0 rfl) ?_
  refine gt_X12 hx hb hts hown hK hP 0 rfl 68 (by decide) wd_1469 rfl hf_fs0_68 dX12_walks_1 ?_
  refine lv_if_eq (tgt := 17) hx hb dX12_walks_4 (by decide) (fun _ => ?_) (fun h => (h (by decide)).elim)
  refine lv_iconst (v := (-1)) hx hb dX12_walks_17 (by decide) ?_
  exact fin_i hx hb hr hlk hK hP hD hS dX12_walks_18 (rfl)
set_option maxRecDepth 100000 in
set_option maxHeartbeats 4000000 in
theorem c_X12_bag (l : Launch) (D : va_G) (cI cJ cZ : ClassId) (h0 : Nat) (fs0 : List Value) (p0 : Int32) (hl_fs0 : fs0.length = 94) (hf_fs0_68 : fs0[68]? = some (.int 0)) : Con_i l yX12_bag cX12_bag 2 (some .int) ({ frames := 0, cells := 0, slots := 0, locals := 0 }) D cI cJ cZ eT [.ref h0, .int p0] [(h0, .inr (12, fs0))] (fun r _ => r = (-1)) := by
  refine ent_i (by decide) (Nat.le_of_ble_eq_true rfl) ?_
  intro p e s m below meth c A hx hb hml hown hts hr hlk hnm hK hE hA hP hD hS ls hl
  have hown : s.vm.findClass RX12 = some m.cls := hown
  have hl : lv_has ls 2 [(0, .ref h0), (1, .int p0)] := hl
  refine lv_aload_n hx hb dX12_bag_0 rfl (lv_at hl 0 rfl) ?_
  refine gt_X12 hx hb hts hown hK hP 0 rfl 68 (by decide) wd_1469 rfl hf_fs0_68 dX12_bag_1 ?_
  refine lv_if_ne (tgt := 9) hx hb dX12_bag_4 (by decide) (fun h => (h (by decide)).elim) (fun _ => ?_)
  refine lv_iconst (v := (-1)) hx hb dX12_bag_7 (by decide) ?_
  exact fin_i hx hb hr hlk hK hP hD hS dX12_bag_8 (rfl)
set_option maxRecDepth 100000 in
set_option maxHeartbeats 4000000 in
theorem c_X12_queue (l : Launch) (D : va_G) (cI cJ cZ : ClassId) (h0 : Nat) (fs0 : List Value) (p0 : Int32) (p1 : Int32) (p2 : Int32) (hl_fs0 : fs0.length = 94) (hf_fs0_68 : fs0[68]? = some (.int 0)) : Con_i l yX12_queue cX12_queue 10 (some .int) ({ frames := 0, cells := 0, slots := 0, locals := 0 }) D cI cJ cZ eT [.ref h0, .int p0, .int p1, .int p2] [(h0, .inr (12, fs0))] (fun r _ => r = (-1)) := by
  refine ent_i (by decide) (Nat.le_of_ble_eq_true rfl) ?_
  intro p e s m below meth c A hx hb hml hown hts hr hlk hnm hK hE hA hP hD hS ls hl
  have hown : s.vm.findClass RX12 = some m.cls := hown
  have hl : lv_has ls 10 [(0, .ref h0), (1, .int p0), (2, .int p1), (3, .int p2)] := hl
  refine lv_aload_n hx hb dX12_queue_0 rfl (lv_at hl 0 rfl) ?_
  refine gt_X12 hx hb hts hown hK hP 0 rfl 68 (by decide) wd_1469 rfl hf_fs0_68 dX12_queue_1 ?_
  refine lv_if_eq (tgt := 36) hx hb dX12_queue_4 (by decide) (fun _ => ?_) (fun h => (h (by decide)).elim)
  refine lv_iconst (v := (-1)) hx hb dX12_queue_36 (by decide) ?_
  exact fin_i hx hb hr hlk hK hP hD hS dX12_queue_37 (rfl)
set_option maxRecDepth 100000 in
set_option maxHeartbeats 4000000 in
theorem c_X12_label (l : Launch) (D : va_G) (cI cJ cZ : ClassId) (h0 : Nat) (fs0 : List Value) (p0 : Int32) (hl_fs0 : fs0.length = 94) (hf_fs0_68 : fs0[68]? = some (.int 0)) : Con_i l yX12_label cX12_label 6 (some .int) ({ frames := 1, cells := 0, slots := 0, locals := 21 }) D cI cJ cZ eT [.ref h0, .int p0] [(h0, .inr (12, fs0))] (fun r _ => r = (-1)) := by
  refine ent_i (by decide) (Nat.le_of_ble_eq_true rfl) ?_
  intro p e s m below meth c A hx hb hml hown hts hr hlk hnm hK hE hA hP hD hS ls hl
  have hown : s.vm.findClass RX12 = some m.cls := hown
  have hl : lv_has ls 6 [(0, .ref h0), (1, .int p0)] := hl
  refine lv_aload_n hx hb dX12_label_0 rfl (lv_at hl 0 rfl) ?_
  refine lv_iload_n hx hb dX12_label_1 rfl (lv_at hl 1 rfl) ?_
  refine cl_i (wr := []) (rn_V (As := [.int p0]) (rest := []) hx hb hml hown hts (c_X12_was l D cI cJ cZ h0 fs0 p0 hl_fs0 hf_fs0_68 _) ⟨rfl, rfl⟩ sv_X12_547 ⟨(Nat.le_of_ble_eq_true rfl), (Nat.le_of_ble_eq_true rfl)⟩ ⟨(Nat.le_of_ble_eq_true rfl), (Nat.le_of_ble_eq_true rfl)⟩ (fun _ _ _ _ h => h) (fun _ _ _ => trivial) hK hP hD [0] rfl rfl 0 12 rfl rfl rfl rfl hl.1 rfl (Nat.le_of_ble_eq_true rfl) dX12_label_2) hP hD hS hA [0] [] rfl rfl rfl (by decide) (fun r_3 w_2 H locs hw_1 hP hD hS => ?_)
  obtain ⟨rfl, hr_4⟩ := hw_1
  have hP : va_P D vwCl [(h0, .inr (12, fs0))] H := hP
  have hD : va_D A [(h0, .inr (12, fs0))] := hD
  refine tov (v := 0) hr_4 ?_
  refine lv_if_eq (tgt := 17) hx hb dX12_label_5 (by decide) (fun _ => ?_) (fun h => (h (by decide)).elim)
  refine lv_iconst (v := (-1)) hx hb dX12_label_17 (by decide) ?_
  exact fin_i hx hb hr hlk hK hP hD hS dX12_label_18 (rfl)
set_option maxRecDepth 100000 in
set_option maxHeartbeats 4000000 in
theorem c_X12_at (l : Launch) (D : va_G) (cI cJ cZ : ClassId) (h0 : Nat) (fs0 : List Value) (p0 : Int32) (hl_fs0 : fs0.length = 94) (hf_fs0_93 : fs0[93]? = some (.int 0)) : Con_i l yX12_at cX12_at 2 (some .int) ({ frames := 0, cells := 0, slots := 0, locals := 0 }) D cI cJ cZ eT [.ref h0, .int p0] [(h0, .inr (12, fs0))] (fun r _ => r = (-1)) := by
  refine ent_i (by decide) (Nat.le_of_ble_eq_true rfl) ?_
  intro p e s m below meth c A hx hb hml hown hts hr hlk hnm hK hE hA hP hD hS ls hl
  have hown : s.vm.findClass RX12 = some m.cls := hown
  have hl : lv_has ls 2 [(0, .ref h0), (1, .int p0)] := hl
  refine lv_iload_n hx hb dX12_at_0 rfl (lv_at hl 1 rfl) ?_
  refine lv_if_lt (tgt := 12) hx hb dX12_at_1 (by decide) (fun c_1 => ?_) (fun c_1 => ?_)
  · refine lv_iconst (v := (-1)) hx hb dX12_at_12 (by decide) ?_
    refine lv_goto (tgt := 22) hx hb dX12_at_13 (by decide) ?_
    exact fin_i hx hb hr hlk hK hP hD hS dX12_at_22 (rfl)
  · refine lv_iload_n hx hb dX12_at_4 rfl (lv_at hl 1 rfl) ?_
    refine lv_aload_n hx hb dX12_at_5 rfl (lv_at hl 0 rfl) ?_
    refine gt_X12 hx hb hts hown hK hP 0 rfl 93 (by decide) wd_1494 rfl hf_fs0_93 dX12_at_6 ?_
    refine lv_icmp_lt (tgt := 16) hx hb dX12_at_9 (by decide) (fun h => absurd h (c_1)) (fun _ => ?_)
    refine lv_iconst (v := (-1)) hx hb dX12_at_12 (by decide) ?_
    refine lv_goto (tgt := 22) hx hb dX12_at_13 (by decide) ?_
    exact fin_i hx hb hr hlk hK hP hD hS dX12_at_22 (rfl)
