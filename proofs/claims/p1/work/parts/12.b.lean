set_option maxRecDepth 100000 in
set_option maxHeartbeats 4000000 in
theorem c_X1_empty (l : Launch) (D : va_G) (cI cJ cZ : ClassId) (h0 : Nat) (fs0 : List Value) (hl_fs0 : fs0.length = 20) : Con_v l yX1_empty cX1_empty 1 none ({ frames := 0, cells := 0, slots := 0, locals := 0 }) D cI cJ cZ eT [.ref h0] [(h0, .inr (1, fs0))] (fun w => ∃ (fs1 : List Value), w = [(h0, .inr (1, fs1))] ∧ fs1.length = 20 ∧ fs1[0]? = some (.int 0) ∧ fs1[8]? = some (.int 0)) := by
  refine ent_v (by decide) (Nat.le_of_ble_eq_true rfl) ?_
  intro p e s m below meth c A hx hb hml hown hts hr hlk hnm hK hE hA hP hD hS ls hl
  have hown : s.vm.findClass RX1 = some m.cls := hown
  have hl : lv_has ls 1 [(0, .ref h0)] := hl
  refine lv_aload_n hx hb dX1_empty_0 rfl (lv_at hl 0 rfl) ?_
  refine lv_iconst (v := 0) hx hb dX1_empty_1 (by decide) ?_
  refine pt_X1 hx hb hts hown hK hP hD hS 0 rfl 0 (by decide) wd_35 rfl rfl (ty := .int) (v := .int 0) (by decide +kernel) rfl rfl (ln_lt hl_fs0 (by decide)) dX1_empty_2 (fun H locs hP hD hS => ?_)
  have hP : va_P D vwCl [(h0, .inr (1, (fs0.set 0 (.int 0))))] H := hP
  have hD : va_D A [(h0, .inr (1, (fs0.set 0 (.int 0))))] := hD
  refine lv_aload_n hx hb dX1_empty_5 rfl (lv_at hl 0 rfl) ?_
  refine lv_iconst (v := 0) hx hb dX1_empty_6 (by decide) ?_
  refine pt_X1 hx hb hts hown hK hP hD hS 0 rfl 5 (by decide) wd_54 rfl rfl (ty := .int) (v := .int 0) (by decide +kernel) rfl rfl (ln_lt (ln_set hl_fs0) (by decide)) dX1_empty_7 (fun H locs hP hD hS => ?_)
  have hP : va_P D vwCl [(h0, .inr (1, ((fs0.set 0 (.int 0)).set 5 (.int 0))))] H := hP
  have hD : va_D A [(h0, .inr (1, ((fs0.set 0 (.int 0)).set 5 (.int 0))))] := hD
  refine lv_aload_n hx hb dX1_empty_10 rfl (lv_at hl 0 rfl) ?_
  refine lv_iconst (v := 0) hx hb dX1_empty_11 (by decide) ?_
  refine pt_X1 hx hb hts hown hK hP hD hS 0 rfl 8 (by decide) wd_63 rfl rfl (ty := .int) (v := .int 0) (by decide +kernel) rfl rfl (ln_lt (ln_set (ln_set hl_fs0)) (by decide)) dX1_empty_12 (fun H locs hP hD hS => ?_)
  have hP : va_P D vwCl [(h0, .inr (1, (((fs0.set 0 (.int 0)).set 5 (.int 0)).set 8 (.int 0))))] H := hP
  have hD : va_D A [(h0, .inr (1, (((fs0.set 0 (.int 0)).set 5 (.int 0)).set 8 (.int 0))))] := hD
  refine lv_aload_n hx hb dX1_empty_15 rfl (lv_at hl 0 rfl) ?_
  refine lv_sipush (v := 1000) hx hb dX1_empty_16 (by decide) ?_
  refine pt_X1 hx hb hts hown hK hP hD hS 0 rfl 9 (by decide) wd_67 rfl rfl (ty := .int) (v := .int 1000) (by decide +kernel) rfl rfl (ln_lt (ln_set (ln_set (ln_set hl_fs0))) (by decide)) dX1_empty_19 (fun H locs hP hD hS => ?_)
  have hP : va_P D vwCl [(h0, .inr (1, ((((fs0.set 0 (.int 0)).set 5 (.int 0)).set 8 (.int 0)).set 9 (.int 1000))))] H := hP
  have hD : va_D A [(h0, .inr (1, ((((fs0.set 0 (.int 0)).set 5 (.int 0)).set 8 (.int 0)).set 9 (.int 1000))))] := hD
  refine lv_aload_n hx hb dX1_empty_22 rfl (lv_at hl 0 rfl) ?_
  refine lv_iconst (v := 0) hx hb dX1_empty_23 (by decide) ?_
  refine pt_X1 hx hb hts hown hK hP hD hS 0 rfl 17 (by decide) wd_86 rfl rfl (ty := .int) (v := .int 0) (by decide +kernel) rfl rfl (ln_lt (ln_set (ln_set (ln_set (ln_set hl_fs0)))) (by decide)) dX1_empty_24 (fun H locs hP hD hS => ?_)
  have hP : va_P D vwCl [(h0, .inr (1, (((((fs0.set 0 (.int 0)).set 5 (.int 0)).set 8 (.int 0)).set 9 (.int 1000)).set 17 (.int 0))))] H := hP
  have hD : va_D A [(h0, .inr (1, (((((fs0.set 0 (.int 0)).set 5 (.int 0)).set 8 (.int 0)).set 9 (.int 1000)).set 17 (.int 0))))] := hD
  refine lv_aload_n hx hb dX1_empty_27 rfl (lv_at hl 0 rfl) ?_
  refine lv_iconst (v := 0) hx hb dX1_empty_28 (by decide) ?_
  refine pt_X1 hx hb hts hown hK hP hD hS 0 rfl 19 (by decide) wd_90 rfl rfl (ty := .int) (v := .int 0) (by decide +kernel) rfl rfl (ln_lt (ln_set (ln_set (ln_set (ln_set (ln_set hl_fs0))))) (by decide)) dX1_empty_29 (fun H locs hP hD hS => ?_)
  have hP : va_P D vwCl [(h0, .inr (1, ((((((fs0.set 0 (.int 0)).set 5 (.int 0)).set 8 (.int 0)).set 9 (.int 1000)).set 17 (.int 0)).set 19 (.int 0))))] H := hP
  have hD : va_D A [(h0, .inr (1, ((((((fs0.set 0 (.int 0)).set 5 (.int 0)).set 8 (.int 0)).set 9 (.int 1000)).set 17 (.int 0)).set 19 (.int 0))))] := hD
  exact fin_v hx hb hr hlk hK hP hD hS dX1_empty_32 (⟨((((((fs0.set 0 (.int 0)).set 5 (.int 0)).set 8 (.int 0)).set 9 (.int 1000)).set 17 (.int 0)).set 19 (.int 0)), rfl, (ln_set (ln_set (ln_set (ln_set (ln_set (ln_set hl_fs0)))))), (gs_ne (by decide) (gs_ne (by decide) (gs_ne (by decide) (gs_ne (by decide) (gs_ne (by decide) (gs_eq (ln_lt hl_fs0 (by decide)))))))), (gs_ne (by decide) (gs_ne (by decide) (gs_ne (by decide) (gs_eq (ln_lt (ln_set (ln_set hl_fs0)) (by decide))))))⟩)
set_option maxRecDepth 100000 in
set_option maxHeartbeats 4000000 in
theorem c_X10_step (l : Launch) (D : va_G) (cI cJ cZ : ClassId) (h0 : Nat) (fs0 : List Value) (hl_fs0 : fs0.length = 8) (hf_fs0_1 : fs0[1]? = some (.int 0)) (hf_fs0_3 : fs0[3]? = some (.int 0)) (hf_fs0_4 : fs0[4]? = some (.int 256)) : Con_v l yX10_step cX10_step 5 none ({ frames := 1, cells := 0, slots := 0, locals := 21 }) D cI cJ cZ eT [.ref h0] [(h0, .inr (10, fs0))] (fun w => ∃ (fs1 : List Value), w = [(h0, .inr (10, fs1))] ∧ fs1.length = 8 ∧ fs1[1]? = some (.int 0) ∧ fs1[4]? = some (.int 256)) := by
  refine ent_v (by decide) (Nat.le_of_ble_eq_true rfl) ?_
  intro p e s m below meth c A hx hb hml hown hts hr hlk hnm hK hE hA hP hD hS ls hl
  have hown : s.vm.findClass RX10 = some m.cls := hown
  have hl : lv_has ls 5 [(0, .ref h0)] := hl
  refine lv_aload_n hx hb dX10_step_0 rfl (lv_at hl 0 rfl) ?_
  refine gt_X10 hx hb hts hown hK hP 0 rfl 4 (by decide) wd_196 rfl hf_fs0_4 dX10_step_1 ?_
  refine lv_sipush (v := 258) hx hb dX10_step_4 (by decide) ?_
  refine lv_icmp_lt (tgt := 14) hx hb dX10_step_7 (by decide) (fun _ => ?_) (fun h => (h (by decide)).elim)
  refine lv_iconst (v := 0) hx hb dX10_step_14 (by decide) ?_
  refine lv_istore_n (lv' := [(1, .int 0), (0, .ref h0)]) hx hb dX10_step_15 rfl hl (by decide) rfl (fun ls hl => ?_)
  refine lv_aload_n hx hb dX10_step_16 rfl (lv_at hl 1 rfl) ?_
  refine gt_X10 hx hb hts hown hK hP 0 rfl 3 (by decide) wd_194 rfl hf_fs0_3 dX10_step_17 ?_
  refine lv_istore_n (lv' := [(2, .int 0), (1, .int 0), (0, .ref h0)]) hx hb dX10_step_20 rfl hl (by decide) rfl (fun ls hl => ?_)
  refine lv_aload_n hx hb dX10_step_21 rfl (lv_at hl 2 rfl) ?_
  refine gt_X10 hx hb hts hown hK hP 0 rfl 3 (by decide) wd_194 rfl hf_fs0_3 dX10_step_22 ?_
  refine lv_aload_n hx hb dX10_step_25 rfl (lv_at hl 2 rfl) ?_
  refine gt_X10 hx hb hts hown hK hP 0 rfl 1 (by decide) wd_192 rfl hf_fs0_1 dX10_step_26 ?_
  refine lv_icmp_ge (tgt := 73) hx hb dX10_step_29 (by decide) (fun _ => ?_) (fun h => (h (by decide)).elim)
  refine lv_aload_n hx hb dX10_step_73 rfl (lv_at hl 2 rfl) ?_
  refine lv_aload_n hx hb dX10_step_74 rfl (lv_at hl 2 rfl) ?_
  refine gt_X10 hx hb hts hown hK hP 0 rfl 3 (by decide) wd_194 rfl hf_fs0_3 dX10_step_75 ?_
  refine pt_X10 hx hb hts hown hK hP hD hS 0 rfl 5 (by decide) wd_198 rfl rfl (ty := .int) (v := .int 0) (by decide +kernel) rfl rfl (ln_lt hl_fs0 (by decide)) dX10_step_78 (fun H locs hP hD hS => ?_)
  have hP : va_P D vwCl [(h0, .inr (10, (fs0.set 5 (.int 0))))] H := hP
  have hD : va_D A [(h0, .inr (10, (fs0.set 5 (.int 0))))] := hD
  refine lv_aload_n hx hb dX10_step_81 rfl (lv_at hl 2 rfl) ?_
  refine lv_aload_n hx hb dX10_step_82 rfl (lv_at hl 2 rfl) ?_
  refine gt_X10 hx hb hts hown hK hP 0 rfl 3 (by decide) wd_194 rfl (gs_ne (by decide) hf_fs0_3) dX10_step_83 ?_
  refine lv_aload_n hx hb dX10_step_86 rfl (lv_at hl 2 rfl) ?_
  refine gt_X10 hx hb hts hown hK hP 0 rfl 1 (by decide) wd_192 rfl (gs_ne (by decide) hf_fs0_1) dX10_step_87 ?_
  refine lv_icmp_ge (tgt := 105) hx hb dX10_step_90 (by decide) (fun _ => ?_) (fun h => (h (by decide)).elim)
  refine lv_sipush (v := 256) hx hb dX10_step_105 (by decide) ?_
  refine pt_X10 hx hb hts hown hK hP hD hS 0 rfl 4 (by decide) wd_196 rfl rfl (ty := .int) (v := .int 256) (by decide +kernel) rfl rfl (ln_lt (ln_set hl_fs0) (by decide)) dX10_step_108 (fun H locs hP hD hS => ?_)
  have hP : va_P D vwCl [(h0, .inr (10, ((fs0.set 5 (.int 0)).set 4 (.int 256))))] H := hP
  have hD : va_D A [(h0, .inr (10, ((fs0.set 5 (.int 0)).set 4 (.int 256))))] := hD
  refine lv_aload_n hx hb dX10_step_111 rfl (lv_at hl 2 rfl) ?_
  refine gt_X10 hx hb hts hown hK hP 0 rfl 4 (by decide) wd_196 rfl (gs_eq (ln_lt (ln_set hl_fs0) (by decide))) dX10_step_112 ?_
  refine lv_bipush (v := 97) hx hb dX10_step_115 (by decide) ?_
  refine lv_icmp_lt (tgt := 133) hx hb dX10_step_117 (by decide) (fun h => absurd h (by decide)) (fun _ => ?_)
  refine lv_aload_n hx hb dX10_step_120 rfl (lv_at hl 2 rfl) ?_
  refine gt_X10 hx hb hts hown hK hP 0 rfl 4 (by decide) wd_196 rfl (gs_eq (ln_lt (ln_set hl_fs0) (by decide))) dX10_step_121 ?_
  refine lv_bipush (v := 122) hx hb dX10_step_124 (by decide) ?_
  refine lv_icmp_gt (tgt := 133) hx hb dX10_step_126 (by decide) (fun _ => ?_) (fun h => (h (by decide)).elim)
  refine lv_iconst (v := 0) hx hb dX10_step_133 (by decide) ?_
  refine lv_istore_n (lv' := [(3, .int 0), (2, .int 0), (1, .int 0), (0, .ref h0)]) hx hb dX10_step_134 rfl hl (by decide) rfl (fun ls hl => ?_)
  refine lv_aload_n hx hb dX10_step_135 rfl (lv_at hl 3 rfl) ?_
  refine gt_X10 hx hb hts hown hK hP 0 rfl 4 (by decide) wd_196 rfl (gs_eq (ln_lt (ln_set hl_fs0) (by decide))) dX10_step_136 ?_
  refine lv_bipush (v := 48) hx hb dX10_step_139 (by decide) ?_
  refine lv_icmp_lt (tgt := 157) hx hb dX10_step_141 (by decide) (fun h => absurd h (by decide)) (fun _ => ?_)
  refine lv_aload_n hx hb dX10_step_144 rfl (lv_at hl 3 rfl) ?_
  refine gt_X10 hx hb hts hown hK hP 0 rfl 4 (by decide) wd_196 rfl (gs_eq (ln_lt (ln_set hl_fs0) (by decide))) dX10_step_145 ?_
  refine lv_bipush (v := 57) hx hb dX10_step_148 (by decide) ?_
  refine lv_icmp_gt (tgt := 157) hx hb dX10_step_150 (by decide) (fun _ => ?_) (fun h => (h (by decide)).elim)
  refine lv_iconst (v := 0) hx hb dX10_step_157 (by decide) ?_
  refine lv_istore (lv' := [(4, .int 0), (3, .int 0), (2, .int 0), (1, .int 0), (0, .ref h0)]) hx hb dX10_step_158 hl (by decide) rfl (fun ls hl => ?_)
  refine lv_iload_n hx hb dX10_step_160 rfl (lv_at hl 1 rfl) ?_
  refine lv_if_eq (tgt := 171) hx hb dX10_step_161 (by decide) (fun _ => ?_) (fun h => (h (by decide)).elim)
  refine lv_iload hx hb dX10_step_171 (lv_at hl 0 rfl) ?_
  refine lv_if_eq (tgt := 183) hx hb dX10_step_173 (by decide) (fun _ => ?_) (fun h => (h (by decide)).elim)
  refine lv_aload_n hx hb dX10_step_183 rfl (lv_at hl 4 rfl) ?_
  refine lv_aload_n hx hb dX10_step_184 rfl (lv_at hl 4 rfl) ?_
  refine gt_X10 hx hb hts hown hK hP 0 rfl 3 (by decide) wd_194 rfl (gs_ne (by decide) (gs_ne (by decide) hf_fs0_3)) dX10_step_185 ?_
  refine lv_iconst (v := 1) hx hb dX10_step_188 (by decide) ?_
  refine lv_iadd hx hb dX10_step_189 ?_
  refine tov (v := 1) (by decide) ?_
  refine lv_aload_n hx hb dX10_step_190 rfl (lv_at hl 4 rfl) ?_
  refine gt_X10 hx hb hts hown hK hP 0 rfl 1 (by decide) wd_192 rfl (gs_ne (by decide) (gs_ne (by decide) hf_fs0_1)) dX10_step_191 ?_
  refine va_mmin hx hb (by rw [hml]; exact hl.1.symm) hown (hts _ wd_756) (hts _ wd_757) (hts _ wd_18) (hts _ wd_758) (Nat.le_of_ble_eq_true rfl) (Nat.le_of_ble_eq_true rfl) (Nat.zero_le _) (Nat.zero_le _) dX10_step_194 ?_
  refine tov (v := 0) (by decide) ?_
  refine pt_X10 hx hb hts hown hK hP hD hS 0 rfl 3 (by decide) wd_194 rfl rfl (ty := .int) (v := .int 0) (by decide +kernel) rfl rfl (ln_lt (ln_set (ln_set hl_fs0)) (by decide)) dX10_step_197 (fun H locs hP hD hS => ?_)
  have hP : va_P D vwCl [(h0, .inr (10, (((fs0.set 5 (.int 0)).set 4 (.int 256)).set 3 (.int 0))))] H := hP
  have hD : va_D A [(h0, .inr (10, (((fs0.set 5 (.int 0)).set 4 (.int 256)).set 3 (.int 0))))] := hD
  refine lv_iload_n hx hb dX10_step_200 rfl (lv_at hl 3 rfl) ?_
  refine lv_if_eq (tgt := 228) hx hb dX10_step_201 (by decide) (fun _ => ?_) (fun h => (h (by decide)).elim)
  exact fin_v hx hb hr hlk hK hP hD hS dX10_step_228 (⟨(((fs0.set 5 (.int 0)).set 4 (.int 256)).set 3 (.int 0)), rfl, (ln_set (ln_set (ln_set hl_fs0))), (gs_ne (by decide) (gs_ne (by decide) (gs_ne (by decide) hf_fs0_1))), (gs_ne (by decide) (gs_eq (ln_lt (ln_set hl_fs0) (by decide))))⟩)
set_option maxRecDepth 100000 in
set_option maxHeartbeats 4000000 in
theorem c_X10_rewind (l : Launch) (D : va_G) (cI cJ cZ : ClassId) (h0 : Nat) (fs0 : List Value) (hl_fs0 : fs0.length = 8) (hf_fs0_1 : fs0[1]? = some (.int 0)) : Con_v l yX10_rewind cX10_rewind 1 none ({ frames := 2, cells := 0, slots := 0, locals := 45 }) D cI cJ cZ eT [.ref h0] [(h0, .inr (10, fs0))] (fun w => ∃ (fs1 : List Value), w = [(h0, .inr (10, fs1))] ∧ fs1.length = 8 ∧ fs1[1]? = some (.int 0) ∧ fs1[4]? = some (.int 256)) := by
  refine ent_v (by decide) (Nat.le_of_ble_eq_true rfl) ?_
  intro p e s m below meth c A hx hb hml hown hts hr hlk hnm hK hE hA hP hD hS ls hl
  have hown : s.vm.findClass RX10 = some m.cls := hown
  have hl : lv_has ls 1 [(0, .ref h0)] := hl
  refine lv_aload_n hx hb dX10_rewind_0 rfl (lv_at hl 0 rfl) ?_
  refine lv_iconst (v := 0) hx hb dX10_rewind_1 (by decide) ?_
  refine pt_X10 hx hb hts hown hK hP hD hS 0 rfl 3 (by decide) wd_194 rfl rfl (ty := .int) (v := .int 0) (by decide +kernel) rfl rfl (ln_lt hl_fs0 (by decide)) dX10_rewind_2 (fun H locs hP hD hS => ?_)
  have hP : va_P D vwCl [(h0, .inr (10, (fs0.set 3 (.int 0))))] H := hP
  have hD : va_D A [(h0, .inr (10, (fs0.set 3 (.int 0))))] := hD
  refine lv_aload_n hx hb dX10_rewind_5 rfl (lv_at hl 0 rfl) ?_
  refine lv_sipush (v := 256) hx hb dX10_rewind_6 (by decide) ?_
  refine pt_X10 hx hb hts hown hK hP hD hS 0 rfl 4 (by decide) wd_196 rfl rfl (ty := .int) (v := .int 256) (by decide +kernel) rfl rfl (ln_lt (ln_set hl_fs0) (by decide)) dX10_rewind_9 (fun H locs hP hD hS => ?_)
  have hP : va_P D vwCl [(h0, .inr (10, ((fs0.set 3 (.int 0)).set 4 (.int 256))))] H := hP
  have hD : va_D A [(h0, .inr (10, ((fs0.set 3 (.int 0)).set 4 (.int 256))))] := hD
  refine lv_aload_n hx hb dX10_rewind_12 rfl (lv_at hl 0 rfl) ?_
  refine cl_v (wr := []) (rn_V (As := []) (rest := []) hx hb hml hown hts (c_X10_step l D cI cJ cZ h0 ((fs0.set 3 (.int 0)).set 4 (.int 256)) (ln_set (ln_set hl_fs0)) (gs_ne (by decide) (gs_ne (by decide) hf_fs0_1)) (gs_ne (by decide) (gs_eq (ln_lt hl_fs0 (by decide)))) (gs_eq (ln_lt (ln_set hl_fs0) (by decide))) _) ⟨rfl, rfl⟩ sv_X10_40 ⟨(Nat.le_of_ble_eq_true rfl), (Nat.le_of_ble_eq_true rfl)⟩ ⟨(Nat.le_of_ble_eq_true rfl), (Nat.le_of_ble_eq_true rfl)⟩ (fun _ _ _ _ h => h) (fun _ _ _ => trivial) hK hP hD [0] rfl rfl 0 10 rfl rfl rfl rfl hl.1 rfl (Nat.le_of_ble_eq_true rfl) dX10_rewind_13) hP hD hS hA [0] [] rfl rfl rfl (by decide) (fun w_2 H locs hw_1 hP hD hS => ?_)
  obtain ⟨fs1_4, rfl, h_5, h_6, h_7⟩ := hw_1
  have hP : va_P D vwCl [(h0, .inr (10, fs1_4))] H := hP
  have hD : va_D A [(h0, .inr (10, fs1_4))] := hD
  exact fin_v hx hb hr hlk hK hP hD hS dX10_rewind_16 (⟨fs1_4, rfl, h_5, h_6, h_7⟩)
set_option maxRecDepth 100000 in
set_option maxHeartbeats 4000000 in
theorem c_X10_readWishes (l : Launch) (D : va_G) (cI cJ cZ : ClassId) (h0 q9 : Nat) (fs0 : List Value) (hl_fs0 : fs0.length = 8) (hf_fs0_1 : fs0[1]? = some (.int 0)) : Con_i l yX10_readWishes cX10_readWishes 3 (some .int) ({ frames := 3, cells := 0, slots := 0, locals := 65 }) D cI cJ cZ eT [.ref h0, .ref q9] [(h0, .inr (10, fs0))] (fun (r : Int32) (w : va_W) => ∃ (fs1 : List Value), w = [(h0, .inr (10, fs1))] ∧ fs1.length = 8 ∧ fs1[1]? = some (.int 0) ∧ r = 0) := by
  refine ent_i (by decide) (Nat.le_of_ble_eq_true rfl) ?_
  intro p e s m below meth c A hx hb hml hown hts hr hlk hnm hK hE hA hP hD hS ls hl
  have hown : s.vm.findClass RX10 = some m.cls := hown
  have hl : lv_has ls 3 [(0, .ref h0), (1, .ref q9)] := hl
  refine lv_aload_n hx hb dX10_readWishes_0 rfl (lv_at hl 0 rfl) ?_
  refine cl_v (wr := []) (rn_V (As := []) (rest := []) hx hb hml hown hts (c_X10_rewind l D cI cJ cZ h0 fs0 hl_fs0 hf_fs0_1 _) ⟨rfl, rfl⟩ sv_X10_65 ⟨(Nat.le_of_ble_eq_true rfl), (Nat.le_of_ble_eq_true rfl)⟩ ⟨(Nat.le_of_ble_eq_true rfl), (Nat.le_of_ble_eq_true rfl)⟩ (fun _ _ _ _ h => h) (fun _ _ _ => trivial) hK hP hD [0] rfl rfl 0 10 rfl rfl rfl rfl hl.1 rfl (Nat.le_of_ble_eq_true rfl) dX10_readWishes_1) hP hD hS hA [0] [] rfl rfl rfl (by decide) (fun w_2 H locs hw_1 hP hD hS => ?_)
  obtain ⟨fs1_4, rfl, h_5, h_6, h_7⟩ := hw_1
  have hP : va_P D vwCl [(h0, .inr (10, fs1_4))] H := hP
  have hD : va_D A [(h0, .inr (10, fs1_4))] := hD
  refine lv_iconst (v := 0) hx hb dX10_readWishes_4 (by decide) ?_
  refine lv_istore_n (lv' := [(2, .int 0), (0, .ref h0), (1, .ref q9)]) hx hb dX10_readWishes_5 rfl hl (by decide) rfl (fun ls hl => ?_)
  refine lv_iload_n hx hb dX10_readWishes_6 rfl (lv_at hl 0 rfl) ?_
  refine lv_iconst (v := 3) hx hb dX10_readWishes_7 (by decide) ?_
  refine lv_icmp_ge (tgt := 54) hx hb dX10_readWishes_8 (by decide) (fun h => absurd h (by decide)) (fun _ => ?_)
  refine lv_aload_n hx hb dX10_readWishes_11 rfl (lv_at hl 1 rfl) ?_
  refine gt_X10 hx hb hts hown hK hP 0 rfl 4 (by decide) wd_196 rfl h_7 dX10_readWishes_12 ?_
  refine lv_sipush (v := 258) hx hb dX10_readWishes_15 (by decide) ?_
  refine lv_icmp_eq (tgt := 37) hx hb dX10_readWishes_18 (by decide) (fun h => absurd h (by decide)) (fun _ => ?_)
  refine lv_aload_n hx hb dX10_readWishes_21 rfl (lv_at hl 1 rfl) ?_
  refine gt_X10 hx hb hts hown hK hP 0 rfl 4 (by decide) wd_196 rfl h_7 dX10_readWishes_22 ?_
  refine lv_sipush (v := 256) hx hb dX10_readWishes_25 (by decide) ?_
  refine lv_icmp_ne (tgt := 35) hx hb dX10_readWishes_28 (by decide) (fun h => (h (by decide)).elim) (fun _ => ?_)
  refine lv_iload_n hx hb dX10_readWishes_31 rfl (lv_at hl 0 rfl) ?_
  refine lv_goto (tgt := 36) hx hb dX10_readWishes_32 (by decide) ?_
  exact fin_i hx hb hr hlk hK hP hD hS dX10_readWishes_36 (⟨fs1_4, rfl, h_5, h_6, rfl⟩)
set_option maxRecDepth 100000 in
set_option maxHeartbeats 4000000 in
theorem c_X8_readsAll (l : Launch) (D : va_G) (cI cJ cZ : ClassId) (h0 q1 q2 : Nat) (fs0 fs1 fs2 : List Value) (hl_fs0 : fs0.length = 5) (hf_fs0_0 : fs0[0]? = some (.ref q1)) (hl_fs1 : fs1.length = 8) (hf_fs1_1 : fs1[1]? = some (.int 0)) (hl_fs2 : fs2.length = 20) : Con_i l yX8_readsAll cX8_readsAll 4 (some .boolean) ({ frames := 3, cells := 0, slots := 0, locals := 65 }) D cI cJ cZ eT [.ref h0, .ref q2] [(h0, .inr (8, fs0)), (q1, .inr (10, fs1)), (q2, .inr (1, fs2))] (fun (r : Int32) (w : va_W) => ∃ (fs3 : List Value) (fs4 : List Value) (fs5 : List Value), w = [(h0, .inr (8, fs3)), (q1, .inr (10, fs4)), (q2, .inr (1, fs5))] ∧ fs3.length = 5 ∧ fs4.length = 8 ∧ fs5.length = 20 ∧ fs5[0]? = some (.int 0) ∧ fs5[8]? = some (.int 0) ∧ r = 1) := by
  refine ent_i (by decide) (Nat.le_of_ble_eq_true rfl) ?_
  intro p e s m below meth c A hx hb hml hown hts hr hlk hnm hK hE hA hP hD hS ls hl
  have hown : s.vm.findClass RX8 = some m.cls := hown
  have hl : lv_has ls 4 [(0, .ref h0), (1, .ref q2)] := hl
  refine lv_aload_n hx hb dX8_readsAll_0 rfl (lv_at hl 0 rfl) ?_
  refine lv_aload_n hx hb dX8_readsAll_1 rfl (lv_at hl 1 rfl) ?_
  refine pt_X8 hx hb hts hown hK hP hD hS 0 rfl 1 (by decide) wd_228 rfl rfl (ty := .object "WinterToys$Book") (v := .ref q2) (by decide +kernel) rfl rfl (ln_lt hl_fs0 (by decide)) dX8_readsAll_2 (fun H locs hP hD hS => ?_)
  have hP : va_P D vwCl [(h0, .inr (8, (fs0.set 1 (.ref q2)))), (q1, .inr (10, fs1)), (q2, .inr (1, fs2))] H := hP
  have hD : va_D A [(h0, .inr (8, (fs0.set 1 (.ref q2)))), (q1, .inr (10, fs1)), (q2, .inr (1, fs2))] := hD
  refine lv_aload_n hx hb dX8_readsAll_5 rfl (lv_at hl 0 rfl) ?_
  refine lv_iconst (v := 0) hx hb dX8_readsAll_6 (by decide) ?_
  refine pt_X8 hx hb hts hown hK hP hD hS 0 rfl 2 (by decide) wd_229 rfl rfl (ty := .int) (v := .int 0) (by decide +kernel) rfl rfl (ln_lt (ln_set hl_fs0) (by decide)) dX8_readsAll_7 (fun H locs hP hD hS => ?_)
  have hP : va_P D vwCl [(h0, .inr (8, ((fs0.set 1 (.ref q2)).set 2 (.int 0)))), (q1, .inr (10, fs1)), (q2, .inr (1, fs2))] H := hP
  have hD : va_D A [(h0, .inr (8, ((fs0.set 1 (.ref q2)).set 2 (.int 0)))), (q1, .inr (10, fs1)), (q2, .inr (1, fs2))] := hD
  refine lv_aload_n hx hb dX8_readsAll_10 rfl (lv_at hl 0 rfl) ?_
  refine lv_iconst (v := (-1)) hx hb dX8_readsAll_11 (by decide) ?_
  refine pt_X8 hx hb hts hown hK hP hD hS 0 rfl 3 (by decide) wd_231 rfl rfl (ty := .int) (v := .int (-1)) (by decide +kernel) rfl rfl (ln_lt (ln_set (ln_set hl_fs0)) (by decide)) dX8_readsAll_12 (fun H locs hP hD hS => ?_)
  have hP : va_P D vwCl [(h0, .inr (8, (((fs0.set 1 (.ref q2)).set 2 (.int 0)).set 3 (.int (-1))))), (q1, .inr (10, fs1)), (q2, .inr (1, fs2))] H := hP
  have hD : va_D A [(h0, .inr (8, (((fs0.set 1 (.ref q2)).set 2 (.int 0)).set 3 (.int (-1))))), (q1, .inr (10, fs1)), (q2, .inr (1, fs2))] := hD
  refine lv_aload_n hx hb dX8_readsAll_15 rfl (lv_at hl 0 rfl) ?_
  refine lv_iconst (v := 0) hx hb dX8_readsAll_16 (by decide) ?_
  refine pt_X8 hx hb hts hown hK hP hD hS 0 rfl 4 (by decide) wd_233 rfl rfl (ty := .int) (v := .int 0) (by decide +kernel) rfl rfl (ln_lt (ln_set (ln_set (ln_set hl_fs0))) (by decide)) dX8_readsAll_17 (fun H locs hP hD hS => ?_)
  have hP : va_P D vwCl [(h0, .inr (8, ((((fs0.set 1 (.ref q2)).set 2 (.int 0)).set 3 (.int (-1))).set 4 (.int 0)))), (q1, .inr (10, fs1)), (q2, .inr (1, fs2))] H := hP
  have hD : va_D A [(h0, .inr (8, ((((fs0.set 1 (.ref q2)).set 2 (.int 0)).set 3 (.int (-1))).set 4 (.int 0)))), (q1, .inr (10, fs1)), (q2, .inr (1, fs2))] := hD
  refine lv_aload_n hx hb dX8_readsAll_20 rfl (lv_at hl 0 rfl) ?_
  refine gt_X8 hx hb hts hown hK hP 0 rfl 1 (by decide) wd_228 rfl (gs_ne (by decide) (gs_ne (by decide) (gs_ne (by decide) (gs_eq (ln_lt hl_fs0 (by decide)))))) dX8_readsAll_21 ?_
  refine cl_v (wr := [(h0, .inr (8, ((((fs0.set 1 (.ref q2)).set 2 (.int 0)).set 3 (.int (-1))).set 4 (.int 0)))), (q1, .inr (10, fs1))]) (rn_V (As := []) (rest := []) hx hb hml hown hts (c_X1_empty l D cI cJ cZ q2 fs2 hl_fs2 _) ⟨rfl, rfl⟩ sv_X8_29 ⟨(Nat.le_of_ble_eq_true rfl), (Nat.le_of_ble_eq_true rfl)⟩ ⟨(Nat.le_of_ble_eq_true rfl), (Nat.le_of_ble_eq_true rfl)⟩ (fun _ _ _ _ h => h) (fun _ _ _ => trivial) hK hP hD [2] rfl rfl 0 1 rfl rfl rfl rfl hl.1 rfl (Nat.le_of_ble_eq_true rfl) dX8_readsAll_24) hP hD hS hA [2] [0, 1] rfl rfl rfl (by decide) (fun w_2 H locs hw_1 hP hD hS => ?_)
  obtain ⟨fs1_4, rfl, h_5, h_6, h_7⟩ := hw_1
  have hP : va_P D vwCl [(h0, .inr (8, ((((fs0.set 1 (.ref q2)).set 2 (.int 0)).set 3 (.int (-1))).set 4 (.int 0)))), (q1, .inr (10, fs1)), (q2, .inr (1, fs1_4))] H := hP
  have hD : va_D A [(h0, .inr (8, ((((fs0.set 1 (.ref q2)).set 2 (.int 0)).set 3 (.int (-1))).set 4 (.int 0)))), (q1, .inr (10, fs1)), (q2, .inr (1, fs1_4))] := hD
  refine lv_aload_n hx hb dX8_readsAll_27 rfl (lv_at hl 0 rfl) ?_
  refine gt_X8 hx hb hts hown hK hP 0 rfl 0 (by decide) wd_227 rfl (gs_ne (by decide) (gs_ne (by decide) (gs_ne (by decide) (gs_ne (by decide) hf_fs0_0)))) dX8_readsAll_28 ?_
  refine cl_v (wr := [(h0, .inr (8, ((((fs0.set 1 (.ref q2)).set 2 (.int 0)).set 3 (.int (-1))).set 4 (.int 0)))), (q2, .inr (1, fs1_4))]) (rn_V (As := []) (rest := []) hx hb hml hown hts (c_X10_rewind l D cI cJ cZ q1 fs1 hl_fs1 hf_fs1_1 _) ⟨rfl, rfl⟩ sv_X8_34 ⟨(Nat.le_of_ble_eq_true rfl), (Nat.le_of_ble_eq_true rfl)⟩ ⟨(Nat.le_of_ble_eq_true rfl), (Nat.le_of_ble_eq_true rfl)⟩ (fun _ _ _ _ h => h) (fun _ _ _ => trivial) hK hP hD [1] rfl rfl 0 10 rfl rfl rfl rfl hl.1 rfl (Nat.le_of_ble_eq_true rfl) dX8_readsAll_31) hP hD hS hA [1] [0, 2] rfl rfl rfl (by decide) (fun w_9 H locs hw_8 hP hD hS => ?_)
  obtain ⟨fs1_11, rfl, h_12, h_13, h_14⟩ := hw_8
  have hP : va_P D vwCl [(h0, .inr (8, ((((fs0.set 1 (.ref q2)).set 2 (.int 0)).set 3 (.int (-1))).set 4 (.int 0)))), (q2, .inr (1, fs1_4)), (q1, .inr (10, fs1_11))] H := hP
  have hD : va_D A [(h0, .inr (8, ((((fs0.set 1 (.ref q2)).set 2 (.int 0)).set 3 (.int (-1))).set 4 (.int 0)))), (q2, .inr (1, fs1_4)), (q1, .inr (10, fs1_11))] := hD
  refine lv_iconst (v := 0) hx hb dX8_readsAll_34 (by decide) ?_
  refine lv_istore_n (lv' := [(2, .int 0), (0, .ref h0), (1, .ref q2)]) hx hb dX8_readsAll_35 rfl hl (by decide) rfl (fun ls hl => ?_)
  refine lv_iload_n hx hb dX8_readsAll_36 rfl (lv_at hl 0 rfl) ?_
  refine lv_sipush (v := 1000) hx hb dX8_readsAll_37 (by decide) ?_
  refine lv_icmp_gt (tgt := 126) hx hb dX8_readsAll_40 (by decide) (fun h => absurd h (by decide)) (fun _ => ?_)
  refine lv_aload_n hx hb dX8_readsAll_43 rfl (lv_at hl 1 rfl) ?_
  refine gt_X8 hx hb hts hown hK hP 0 rfl 0 (by decide) wd_227 rfl (gs_ne (by decide) (gs_ne (by decide) (gs_ne (by decide) (gs_ne (by decide) hf_fs0_0)))) dX8_readsAll_44 ?_
  refine gt_X10 hx hb hts hown hK hP 2 rfl 4 (by decide) wd_195 rfl h_14 dX8_readsAll_47 ?_
  refine lv_sipush (v := 256) hx hb dX8_readsAll_50 (by decide) ?_
  refine lv_icmp_eq (tgt := 126) hx hb dX8_readsAll_53 (by decide) (fun _ => ?_) (fun h => (h (by decide)).elim)
  refine lv_iconst (v := 1) hx hb dX8_readsAll_126 (by decide) ?_
  have hP : va_P D vwCl [(h0, .inr (8, ((((fs0.set 1 (.ref q2)).set 2 (.int 0)).set 3 (.int (-1))).set 4 (.int 0)))), (q1, .inr (10, fs1_11)), (q2, .inr (1, fs1_4))] H := hP.sub [0, 2, 1] rfl
  have hD : va_D A [(h0, .inr (8, ((((fs0.set 1 (.ref q2)).set 2 (.int 0)).set 3 (.int (-1))).set 4 (.int 0)))), (q1, .inr (10, fs1_11)), (q2, .inr (1, fs1_4))] := hD.sub [0, 2, 1] (by decide) rfl
  exact fin_z hx hb hr hlk hK hP hD hS dX8_readsAll_127 rfl (⟨((((fs0.set 1 (.ref q2)).set 2 (.int 0)).set 3 (.int (-1))).set 4 (.int 0)), fs1_11, fs1_4, rfl, (ln_set (ln_set (ln_set (ln_set hl_fs0)))), h_12, h_5, h_6, h_7, rfl⟩)
set_option maxRecDepth 100000 in
set_option maxHeartbeats 4000000 in
theorem c_X5_chooseKinds (l : Launch) (D : va_G) (cI cJ cZ : ClassId) (h0 q1 : Nat) (fs0 fs1 : List Value) (hl_fs0 : fs0.length = 7) (hl_fs1 : fs1.length = 20) (hf_fs1_0 : fs1[0]? = some (.int 0)) (hf_fs1_8 : fs1[8]? = some (.int 0)) : Con_v l yX5_chooseKinds cX5_chooseKinds 4 none ({ frames := 0, cells := 0, slots := 0, locals := 0 }) D cI cJ cZ eT [.ref h0, .ref q1] [(h0, .inr (5, fs0)), (q1, .inr (1, fs1))] (fun w => w = [(h0, .inr (5, fs0)), (q1, .inr (1, fs1))]) := by
  refine ent_v (by decide) (Nat.le_of_ble_eq_true rfl) ?_
  intro p e s m below meth c A hx hb hml hown hts hr hlk hnm hK hE hA hP hD hS ls hl
  have hown : s.vm.findClass RX5 = some m.cls := hown
  have hl : lv_has ls 4 [(0, .ref h0), (1, .ref q1)] := hl
  refine lv_iconst (v := 1) hx hb dX5_chooseKinds_0 (by decide) ?_
  refine lv_aload_n hx hb dX5_chooseKinds_1 rfl (lv_at hl 1 rfl) ?_
  refine gt_X1 hx hb hts hown hK hP 1 rfl 0 (by decide) wd_36 rfl hf_fs1_0 dX5_chooseKinds_2 ?_
  refine lv_ishl hx hb dX5_chooseKinds_5 ?_
  refine tov (v := 1) (by decide) ?_
  refine lv_iconst (v := 1) hx hb dX5_chooseKinds_6 (by decide) ?_
  refine lv_isub hx hb dX5_chooseKinds_7 ?_
  refine tov (v := 0) (by decide) ?_
  refine lv_istore_n (lv' := [(2, .int 0), (0, .ref h0), (1, .ref q1)]) hx hb dX5_chooseKinds_8 rfl hl (by decide) rfl (fun ls hl => ?_)
  refine lv_iconst (v := 0) hx hb dX5_chooseKinds_9 (by decide) ?_
  refine lv_istore_n (lv' := [(3, .int 0), (2, .int 0), (0, .ref h0), (1, .ref q1)]) hx hb dX5_chooseKinds_10 rfl hl (by decide) rfl (fun ls hl => ?_)
  refine lv_iload_n hx hb dX5_chooseKinds_11 rfl (lv_at hl 0 rfl) ?_
  refine lv_aload_n hx hb dX5_chooseKinds_12 rfl (lv_at hl 3 rfl) ?_
  refine gt_X1 hx hb hts hown hK hP 1 rfl 8 (by decide) wd_64 rfl hf_fs1_8 dX5_chooseKinds_13 ?_
  refine lv_icmp_ge (tgt := 49) hx hb dX5_chooseKinds_16 (by decide) (fun _ => ?_) (fun h => (h (by decide)).elim)
  exact fin_v hx hb hr hlk hK hP hD hS dX5_chooseKinds_49 (rfl)
set_option maxRecDepth 100000 in
set_option maxHeartbeats 4000000 in
theorem c_X7_empty (l : Launch) (D : va_G) (cI cJ cZ : ClassId) (h0 : Nat) (fs0 : List Value) (hl_fs0 : fs0.length = 8) : Con_v l yX7_empty cX7_empty 1 none ({ frames := 0, cells := 0, slots := 0, locals := 0 }) D cI cJ cZ eT [.ref h0] [(h0, .inr (7, fs0))] (fun w => ∃ (fs1 : List Value), w = [(h0, .inr (7, fs1))] ∧ fs1.length = 8) := by
  refine ent_v (by decide) (Nat.le_of_ble_eq_true rfl) ?_
  intro p e s m below meth c A hx hb hml hown hts hr hlk hnm hK hE hA hP hD hS ls hl
  have hown : s.vm.findClass RX7 = some m.cls := hown
  have hl : lv_has ls 1 [(0, .ref h0)] := hl
  refine lv_aload_n hx hb dX7_empty_0 rfl (lv_at hl 0 rfl) ?_
  refine lv_iconst (v := 0) hx hb dX7_empty_1 (by decide) ?_
  refine pt_X7 hx hb hts hown hK hP hD hS 0 rfl 0 (by decide) wd_251 rfl rfl (ty := .int) (v := .int 0) (by decide +kernel) rfl rfl (ln_lt hl_fs0 (by decide)) dX7_empty_2 (fun H locs hP hD hS => ?_)
  have hP : va_P D vwCl [(h0, .inr (7, (fs0.set 0 (.int 0))))] H := hP
  have hD : va_D A [(h0, .inr (7, (fs0.set 0 (.int 0))))] := hD
  refine lv_aload_n hx hb dX7_empty_5 rfl (lv_at hl 0 rfl) ?_
  refine lv_iconst (v := 0) hx hb dX7_empty_6 (by decide) ?_
  refine pt_X7 hx hb hts hown hK hP hD hS 0 rfl 1 (by decide) wd_253 rfl rfl (ty := .int) (v := .int 0) (by decide +kernel) rfl rfl (ln_lt (ln_set hl_fs0) (by decide)) dX7_empty_7 (fun H locs hP hD hS => ?_)
  have hP : va_P D vwCl [(h0, .inr (7, ((fs0.set 0 (.int 0)).set 1 (.int 0))))] H := hP
  have hD : va_D A [(h0, .inr (7, ((fs0.set 0 (.int 0)).set 1 (.int 0))))] := hD
  exact fin_v hx hb hr hlk hK hP hD hS dX7_empty_10 (⟨((fs0.set 0 (.int 0)).set 1 (.int 0)), rfl, (ln_set (ln_set hl_fs0))⟩)
set_option maxRecDepth 100000 in
set_option maxHeartbeats 4000000 in
theorem c_X6_forget (l : Launch) (D : va_G) (cI cJ cZ : ClassId) (h0 : Nat) (fs0 : List Value) (hl_fs0 : fs0.length = 16) : Con_v l yX6_forget cX6_forget 1 none ({ frames := 0, cells := 0, slots := 0, locals := 0 }) D cI cJ cZ eT [.ref h0] [(h0, .inr (6, fs0))] (fun w => ∃ (fs1 : List Value), w = [(h0, .inr (6, fs1))] ∧ fs1.length = 16) := by
  refine ent_v (by decide) (Nat.le_of_ble_eq_true rfl) ?_
  intro p e s m below meth c A hx hb hml hown hts hr hlk hnm hK hE hA hP hD hS ls hl
  have hown : s.vm.findClass RX6 = some m.cls := hown
  have hl : lv_has ls 1 [(0, .ref h0)] := hl
  refine lv_aload_n hx hb dX6_forget_0 rfl (lv_at hl 0 rfl) ?_
  refine lv_iconst (v := (-1)) hx hb dX6_forget_1 (by decide) ?_
  refine pt_X6 hx hb hts hown hK hP hD hS 0 rfl 0 (by decide) wd_290 rfl rfl (ty := .int) (v := .int (-1)) (by decide +kernel) rfl rfl (ln_lt hl_fs0 (by decide)) dX6_forget_2 (fun H locs hP hD hS => ?_)
  have hP : va_P D vwCl [(h0, .inr (6, (fs0.set 0 (.int (-1)))))] H := hP
  have hD : va_D A [(h0, .inr (6, (fs0.set 0 (.int (-1)))))] := hD
  exact fin_v hx hb hr hlk hK hP hD hS dX6_forget_5 (⟨(fs0.set 0 (.int (-1))), rfl, (ln_set hl_fs0)⟩)
set_option maxRecDepth 100000 in
set_option maxHeartbeats 4000000 in
theorem c_X11_rules (l : Launch) (D : va_G) (cI cJ cZ : ClassId) (h0 q1 q2 q3 q5 q6 q7 q8 q4 : Nat) (fs0 fs1 fs2 fs3 fs5 fs6 fs7 fs8 : List Value) (hl_fs0 : fs0.length = 14) (hf_fs0_3 : fs0[3]? = some (.ref q1)) (hf_fs0_1 : fs0[1]? = some (.ref q2)) (hf_fs0_2 : fs0[2]? = some (.ref q3)) (hf_fs0_0 : fs0[0]? = some (.ref q4)) (hf_fs0_6 : fs0[6]? = some (.ref q5)) (hf_fs0_4 : fs0[4]? = some (.ref q6)) (hf_fs0_5 : fs0[5]? = some (.ref q7)) (hf_fs0_10 : fs0[10]? = some (.ref q8)) (hl_fs1 : fs1.length = 5) (hf_fs1_0 : fs1[0]? = some (.ref q3)) (hl_fs2 : fs2.length = 20) (hl_fs3 : fs3.length = 8) (hf_fs3_1 : fs3[1]? = some (.int 0)) (hl_fs5 : fs5.length = 7) (hl_fs6 : fs6.length = 8) (hl_fs7 : fs7.length = 16) (hl_fs8 : fs8.length = 17) : Con_i l yX11_rules cX11_rules 3 (some .int) ({ frames := 4, cells := 0, slots := 0, locals := 88 }) D cI cJ cZ eT [.ref h0] [(h0, .inr (11, fs0)), (q1, .inr (8, fs1)), (q2, .inr (1, fs2)), (q3, .inr (10, fs3)), (q5, .inr (5, fs5)), (q6, .inr (7, fs6)), (q7, .inr (6, fs7)), (q8, .inr (4, fs8))] (fun r _ => r = 0) := by
  refine ent_i (by decide) (Nat.le_of_ble_eq_true rfl) ?_
  intro p e s m below meth c A hx hb hml hown hts hr hlk hnm hK hE hA hP hD hS ls hl
  have hown : s.vm.findClass RX11 = some m.cls := hown
  have hl : lv_has ls 3 [(0, .ref h0)] := hl
  refine lv_aload_n hx hb dX11_rules_0 rfl (lv_at hl 0 rfl) ?_
  refine gt_X11 hx hb hts hown hK hP 0 rfl 3 (by decide) wd_676 rfl hf_fs0_3 dX11_rules_1 ?_
  refine lv_aload_n hx hb dX11_rules_4 rfl (lv_at hl 0 rfl) ?_
  refine gt_X11 hx hb hts hown hK hP 0 rfl 1 (by decide) wd_674 rfl hf_fs0_1 dX11_rules_5 ?_
  refine cl_i (wr := [(h0, .inr (11, fs0)), (q5, .inr (5, fs5)), (q6, .inr (7, fs6)), (q7, .inr (6, fs7)), (q8, .inr (4, fs8))]) (rn_V (As := [.ref q2]) (rest := []) hx hb hml hown hts (c_X8_readsAll l D cI cJ cZ q1 q3 q2 fs1 fs3 fs2 hl_fs1 hf_fs1_0 hl_fs3 hf_fs3_1 hl_fs2 _) ⟨rfl, rfl⟩ sv_X11_110 ⟨(Nat.le_of_ble_eq_true rfl), (Nat.le_of_ble_eq_true rfl)⟩ ⟨(Nat.le_of_ble_eq_true rfl), (Nat.le_of_ble_eq_true rfl)⟩ (fun _ _ _ _ h => h) (fun _ _ _ => trivial) hK hP hD [1, 3, 2] rfl rfl 0 8 rfl rfl rfl rfl hl.1 rfl (Nat.le_of_ble_eq_true rfl) dX11_rules_8) hP hD hS hA [1, 3, 2] [0, 4, 5, 6, 7] rfl rfl rfl (by decide) (fun r_3 w_2 H locs hw_1 hP hD hS => ?_)
  obtain ⟨fs3_4, fs4_5, fs5_6, rfl, h_7, h_8, h_9, h_10, h_11, hr_12⟩ := hw_1
  have hP : va_P D vwCl [(h0, .inr (11, fs0)), (q5, .inr (5, fs5)), (q6, .inr (7, fs6)), (q7, .inr (6, fs7)), (q8, .inr (4, fs8)), (q1, .inr (8, fs3_4)), (q3, .inr (10, fs4_5)), (q2, .inr (1, fs5_6))] H := hP
  have hD : va_D A [(h0, .inr (11, fs0)), (q5, .inr (5, fs5)), (q6, .inr (7, fs6)), (q7, .inr (6, fs7)), (q8, .inr (4, fs8)), (q1, .inr (8, fs3_4)), (q3, .inr (10, fs4_5)), (q2, .inr (1, fs5_6))] := hD
  refine tov (v := 1) hr_12 ?_
  refine lv_istore_n (lv' := [(1, .int 1), (0, .ref h0)]) hx hb dX11_rules_11 rfl hl (by decide) rfl (fun ls hl => ?_)
  refine lv_aload_n hx hb dX11_rules_12 rfl (lv_at hl 1 rfl) ?_
  refine gt_X11 hx hb hts hown hK hP 0 rfl 2 (by decide) wd_675 rfl hf_fs0_2 dX11_rules_13 ?_
  refine lv_iconst (v := 0) hx hb dX11_rules_16 (by decide) ?_
  refine pt_X10 hx hb hts hown hK hP hD hS 6 rfl 1 (by decide) wd_191 rfl rfl (ty := .int) (v := .int 0) (by decide +kernel) rfl rfl (ln_lt h_8 (by decide)) dX11_rules_17 (fun H locs hP hD hS => ?_)
  have hP : va_P D vwCl [(h0, .inr (11, fs0)), (q5, .inr (5, fs5)), (q6, .inr (7, fs6)), (q7, .inr (6, fs7)), (q8, .inr (4, fs8)), (q1, .inr (8, fs3_4)), (q3, .inr (10, (fs4_5.set 1 (.int 0)))), (q2, .inr (1, fs5_6))] H := hP
  have hD : va_D A [(h0, .inr (11, fs0)), (q5, .inr (5, fs5)), (q6, .inr (7, fs6)), (q7, .inr (6, fs7)), (q8, .inr (4, fs8)), (q1, .inr (8, fs3_4)), (q3, .inr (10, (fs4_5.set 1 (.int 0)))), (q2, .inr (1, fs5_6))] := hD
  refine lv_iload_n hx hb dX11_rules_20 rfl (lv_at hl 0 rfl) ?_
  refine lv_if_ne (tgt := 26) hx hb dX11_rules_21 (by decide) (fun _ => ?_) (fun h => absurd h (by decide))
  refine lv_aload_n hx hb dX11_rules_26 rfl (lv_at hl 1 rfl) ?_
  refine gt_X11 hx hb hts hown hK hP 0 rfl 0 (by decide) wd_673 rfl hf_fs0_0 dX11_rules_27 ?_
  refine lv_astore_n (lv' := [(2, .ref q4), (1, .int 1), (0, .ref h0)]) hx hb dX11_rules_30 rfl hl (by decide) rfl (fun ls hl => ?_)
  refine lv_aload_n hx hb dX11_rules_31 rfl (lv_at hl 2 rfl) ?_
  refine lv_aload_n hx hb dX11_rules_32 rfl (lv_at hl 2 rfl) ?_
  refine gt_X11 hx hb hts hown hK hP 0 rfl 1 (by decide) wd_674 rfl hf_fs0_1 dX11_rules_33 ?_
  refine pt_X11 hx hb hts hown hK hP hD hS 0 rfl 0 (by decide) wd_673 rfl rfl (ty := .object "WinterToys$Book") (v := .ref q2) (by decide +kernel) rfl rfl (ln_lt hl_fs0 (by decide)) dX11_rules_36 (fun H locs hP hD hS => ?_)
  have hP : va_P D vwCl [(h0, .inr (11, (fs0.set 0 (.ref q2)))), (q5, .inr (5, fs5)), (q6, .inr (7, fs6)), (q7, .inr (6, fs7)), (q8, .inr (4, fs8)), (q1, .inr (8, fs3_4)), (q3, .inr (10, (fs4_5.set 1 (.int 0)))), (q2, .inr (1, fs5_6))] H := hP
  have hD : va_D A [(h0, .inr (11, (fs0.set 0 (.ref q2)))), (q5, .inr (5, fs5)), (q6, .inr (7, fs6)), (q7, .inr (6, fs7)), (q8, .inr (4, fs8)), (q1, .inr (8, fs3_4)), (q3, .inr (10, (fs4_5.set 1 (.int 0)))), (q2, .inr (1, fs5_6))] := hD
  refine lv_aload_n hx hb dX11_rules_39 rfl (lv_at hl 2 rfl) ?_
  refine lv_aload_n hx hb dX11_rules_40 rfl (lv_at hl 0 rfl) ?_
  refine pt_X11 hx hb hts hown hK hP hD hS 0 rfl 1 (by decide) wd_674 rfl rfl (ty := .object "WinterToys$Book") (v := .ref q4) (by decide +kernel) rfl rfl (ln_lt (ln_set hl_fs0) (by decide)) dX11_rules_41 (fun H locs hP hD hS => ?_)
  have hP : va_P D vwCl [(h0, .inr (11, ((fs0.set 0 (.ref q2)).set 1 (.ref q4)))), (q5, .inr (5, fs5)), (q6, .inr (7, fs6)), (q7, .inr (6, fs7)), (q8, .inr (4, fs8)), (q1, .inr (8, fs3_4)), (q3, .inr (10, (fs4_5.set 1 (.int 0)))), (q2, .inr (1, fs5_6))] H := hP
  have hD : va_D A [(h0, .inr (11, ((fs0.set 0 (.ref q2)).set 1 (.ref q4)))), (q5, .inr (5, fs5)), (q6, .inr (7, fs6)), (q7, .inr (6, fs7)), (q8, .inr (4, fs8)), (q1, .inr (8, fs3_4)), (q3, .inr (10, (fs4_5.set 1 (.int 0)))), (q2, .inr (1, fs5_6))] := hD
  refine lv_aload_n hx hb dX11_rules_44 rfl (lv_at hl 2 rfl) ?_
  refine gt_X11 hx hb hts hown hK hP 0 rfl 6 (by decide) wd_679 rfl (gs_ne (by decide) (gs_ne (by decide) hf_fs0_6)) dX11_rules_45 ?_
  refine lv_aload_n hx hb dX11_rules_48 rfl (lv_at hl 2 rfl) ?_
  refine gt_X11 hx hb hts hown hK hP 0 rfl 0 (by decide) wd_673 rfl (gs_ne (by decide) (gs_eq (ln_lt hl_fs0 (by decide)))) dX11_rules_49 ?_
  refine cl_v (wr := [(h0, .inr (11, ((fs0.set 0 (.ref q2)).set 1 (.ref q4)))), (q6, .inr (7, fs6)), (q7, .inr (6, fs7)), (q8, .inr (4, fs8)), (q1, .inr (8, fs3_4)), (q3, .inr (10, (fs4_5.set 1 (.int 0))))]) (rn_V (As := [.ref q2]) (rest := []) hx hb hml hown hts (c_X5_chooseKinds l D cI cJ cZ q5 q2 fs5 fs5_6 hl_fs5 h_9 h_10 h_11 _) ⟨rfl, rfl⟩ sv_X11_114 ⟨(Nat.le_of_ble_eq_true rfl), (Nat.le_of_ble_eq_true rfl)⟩ ⟨(Nat.le_of_ble_eq_true rfl), (Nat.le_of_ble_eq_true rfl)⟩ (fun _ _ _ _ h => h) (fun _ _ _ => trivial) hK hP hD [1, 7] rfl rfl 0 5 rfl rfl rfl rfl hl.1 rfl (Nat.le_of_ble_eq_true rfl) dX11_rules_52) hP hD hS hA [1, 7] [0, 2, 3, 4, 5, 6] rfl rfl rfl (by decide) (fun w_14 H locs hw_13 hP hD hS => ?_)
  subst hw_13
  have hP : va_P D vwCl [(h0, .inr (11, ((fs0.set 0 (.ref q2)).set 1 (.ref q4)))), (q6, .inr (7, fs6)), (q7, .inr (6, fs7)), (q8, .inr (4, fs8)), (q1, .inr (8, fs3_4)), (q3, .inr (10, (fs4_5.set 1 (.int 0)))), (q5, .inr (5, fs5)), (q2, .inr (1, fs5_6))] H := hP
  have hD : va_D A [(h0, .inr (11, ((fs0.set 0 (.ref q2)).set 1 (.ref q4)))), (q6, .inr (7, fs6)), (q7, .inr (6, fs7)), (q8, .inr (4, fs8)), (q1, .inr (8, fs3_4)), (q3, .inr (10, (fs4_5.set 1 (.int 0)))), (q5, .inr (5, fs5)), (q2, .inr (1, fs5_6))] := hD
  refine lv_aload_n hx hb dX11_rules_55 rfl (lv_at hl 2 rfl) ?_
  refine gt_X11 hx hb hts hown hK hP 0 rfl 4 (by decide) wd_677 rfl (gs_ne (by decide) (gs_ne (by decide) hf_fs0_4)) dX11_rules_56 ?_
  refine cl_v (wr := [(h0, .inr (11, ((fs0.set 0 (.ref q2)).set 1 (.ref q4)))), (q7, .inr (6, fs7)), (q8, .inr (4, fs8)), (q1, .inr (8, fs3_4)), (q3, .inr (10, (fs4_5.set 1 (.int 0)))), (q5, .inr (5, fs5)), (q2, .inr (1, fs5_6))]) (rn_V (As := []) (rest := []) hx hb hml hown hts (c_X7_empty l D cI cJ cZ q6 fs6 hl_fs6 _) ⟨rfl, rfl⟩ sv_X11_118 ⟨(Nat.le_of_ble_eq_true rfl), (Nat.le_of_ble_eq_true rfl)⟩ ⟨(Nat.le_of_ble_eq_true rfl), (Nat.le_of_ble_eq_true rfl)⟩ (fun _ _ _ _ h => h) (fun _ _ _ => trivial) hK hP hD [1] rfl rfl 0 7 rfl rfl rfl rfl hl.1 rfl (Nat.le_of_ble_eq_true rfl) dX11_rules_59) hP hD hS hA [1] [0, 2, 3, 4, 5, 6, 7] rfl rfl rfl (by decide) (fun w_17 H locs hw_16 hP hD hS => ?_)
  obtain ⟨fs1_19, rfl, h_20⟩ := hw_16
  have hP : va_P D vwCl [(h0, .inr (11, ((fs0.set 0 (.ref q2)).set 1 (.ref q4)))), (q7, .inr (6, fs7)), (q8, .inr (4, fs8)), (q1, .inr (8, fs3_4)), (q3, .inr (10, (fs4_5.set 1 (.int 0)))), (q5, .inr (5, fs5)), (q2, .inr (1, fs5_6)), (q6, .inr (7, fs1_19))] H := hP
  have hD : va_D A [(h0, .inr (11, ((fs0.set 0 (.ref q2)).set 1 (.ref q4)))), (q7, .inr (6, fs7)), (q8, .inr (4, fs8)), (q1, .inr (8, fs3_4)), (q3, .inr (10, (fs4_5.set 1 (.int 0)))), (q5, .inr (5, fs5)), (q2, .inr (1, fs5_6)), (q6, .inr (7, fs1_19))] := hD
  refine lv_aload_n hx hb dX11_rules_62 rfl (lv_at hl 2 rfl) ?_
  refine lv_iconst (v := (-1)) hx hb dX11_rules_63 (by decide) ?_
  refine pt_X11 hx hb hts hown hK hP hD hS 0 rfl 12 (by decide) wd_685 rfl rfl (ty := .int) (v := .int (-1)) (by decide +kernel) rfl rfl (ln_lt (ln_set (ln_set hl_fs0)) (by decide)) dX11_rules_64 (fun H locs hP hD hS => ?_)
  have hP : va_P D vwCl [(h0, .inr (11, (((fs0.set 0 (.ref q2)).set 1 (.ref q4)).set 12 (.int (-1))))), (q7, .inr (6, fs7)), (q8, .inr (4, fs8)), (q1, .inr (8, fs3_4)), (q3, .inr (10, (fs4_5.set 1 (.int 0)))), (q5, .inr (5, fs5)), (q2, .inr (1, fs5_6)), (q6, .inr (7, fs1_19))] H := hP
  have hD : va_D A [(h0, .inr (11, (((fs0.set 0 (.ref q2)).set 1 (.ref q4)).set 12 (.int (-1))))), (q7, .inr (6, fs7)), (q8, .inr (4, fs8)), (q1, .inr (8, fs3_4)), (q3, .inr (10, (fs4_5.set 1 (.int 0)))), (q5, .inr (5, fs5)), (q2, .inr (1, fs5_6)), (q6, .inr (7, fs1_19))] := hD
  refine lv_aload_n hx hb dX11_rules_67 rfl (lv_at hl 2 rfl) ?_
  refine gt_X11 hx hb hts hown hK hP 0 rfl 5 (by decide) wd_678 rfl (gs_ne (by decide) (gs_ne (by decide) (gs_ne (by decide) hf_fs0_5))) dX11_rules_68 ?_
  refine cl_v (wr := [(h0, .inr (11, (((fs0.set 0 (.ref q2)).set 1 (.ref q4)).set 12 (.int (-1))))), (q8, .inr (4, fs8)), (q1, .inr (8, fs3_4)), (q3, .inr (10, (fs4_5.set 1 (.int 0)))), (q5, .inr (5, fs5)), (q2, .inr (1, fs5_6)), (q6, .inr (7, fs1_19))]) (rn_V (As := []) (rest := []) hx hb hml hown hts (c_X6_forget l D cI cJ cZ q7 fs7 hl_fs7 _) ⟨rfl, rfl⟩ sv_X11_121 ⟨(Nat.le_of_ble_eq_true rfl), (Nat.le_of_ble_eq_true rfl)⟩ ⟨(Nat.le_of_ble_eq_true rfl), (Nat.le_of_ble_eq_true rfl)⟩ (fun _ _ _ _ h => h) (fun _ _ _ => trivial) hK hP hD [1] rfl rfl 0 6 rfl rfl rfl rfl hl.1 rfl (Nat.le_of_ble_eq_true rfl) dX11_rules_71) hP hD hS hA [1] [0, 2, 3, 4, 5, 6, 7] rfl rfl rfl (by decide) (fun w_22 H locs hw_21 hP hD hS => ?_)
  obtain ⟨fs1_24, rfl, h_25⟩ := hw_21
  have hP : va_P D vwCl [(h0, .inr (11, (((fs0.set 0 (.ref q2)).set 1 (.ref q4)).set 12 (.int (-1))))), (q8, .inr (4, fs8)), (q1, .inr (8, fs3_4)), (q3, .inr (10, (fs4_5.set 1 (.int 0)))), (q5, .inr (5, fs5)), (q2, .inr (1, fs5_6)), (q6, .inr (7, fs1_19)), (q7, .inr (6, fs1_24))] H := hP
  have hD : va_D A [(h0, .inr (11, (((fs0.set 0 (.ref q2)).set 1 (.ref q4)).set 12 (.int (-1))))), (q8, .inr (4, fs8)), (q1, .inr (8, fs3_4)), (q3, .inr (10, (fs4_5.set 1 (.int 0)))), (q5, .inr (5, fs5)), (q2, .inr (1, fs5_6)), (q6, .inr (7, fs1_19)), (q7, .inr (6, fs1_24))] := hD
  refine lv_aload_n hx hb dX11_rules_74 rfl (lv_at hl 2 rfl) ?_
  refine gt_X11 hx hb hts hown hK hP 0 rfl 10 (by decide) wd_683 rfl (gs_ne (by decide) (gs_ne (by decide) (gs_ne (by decide) hf_fs0_10))) dX11_rules_75 ?_
  refine lv_iconst (v := 0) hx hb dX11_rules_78 (by decide) ?_
  refine pt_X4 hx hb hts hown hK hP hD hS 1 rfl 0 (by decide) wd_567 rfl rfl (ty := .boolean) (v := .int 0) (by decide +kernel) rfl rfl (ln_lt hl_fs8 (by decide)) dX11_rules_79 (fun H locs hP hD hS => ?_)
  have hP : va_P D vwCl [(h0, .inr (11, (((fs0.set 0 (.ref q2)).set 1 (.ref q4)).set 12 (.int (-1))))), (q8, .inr (4, (fs8.set 0 (.int 0)))), (q1, .inr (8, fs3_4)), (q3, .inr (10, (fs4_5.set 1 (.int 0)))), (q5, .inr (5, fs5)), (q2, .inr (1, fs5_6)), (q6, .inr (7, fs1_19)), (q7, .inr (6, fs1_24))] H := hP
  have hD : va_D A [(h0, .inr (11, (((fs0.set 0 (.ref q2)).set 1 (.ref q4)).set 12 (.int (-1))))), (q8, .inr (4, (fs8.set 0 (.int 0)))), (q1, .inr (8, fs3_4)), (q3, .inr (10, (fs4_5.set 1 (.int 0)))), (q5, .inr (5, fs5)), (q2, .inr (1, fs5_6)), (q6, .inr (7, fs1_19)), (q7, .inr (6, fs1_24))] := hD
  refine lv_aload_n hx hb dX11_rules_82 rfl (lv_at hl 2 rfl) ?_
  refine gt_X11 hx hb hts hown hK hP 0 rfl 0 (by decide) wd_673 rfl (gs_ne (by decide) (gs_ne (by decide) (gs_eq (ln_lt hl_fs0 (by decide))))) dX11_rules_83 ?_
  refine gt_X1 hx hb hts hown hK hP 5 rfl 0 (by decide) wd_39 rfl h_10 dX11_rules_86 ?_
  refine lv_aload_n hx hb dX11_rules_89 rfl (lv_at hl 2 rfl) ?_
  refine gt_X11 hx hb hts hown hK hP 0 rfl 0 (by decide) wd_673 rfl (gs_ne (by decide) (gs_ne (by decide) (gs_eq (ln_lt hl_fs0 (by decide))))) dX11_rules_90 ?_
  refine gt_X1 hx hb hts hown hK hP 5 rfl 8 (by decide) wd_65 rfl h_11 dX11_rules_93 ?_
  refine lv_iadd hx hb dX11_rules_96 ?_
  refine tov (v := 0) (by decide) ?_
  exact fin_i hx hb hr hlk hK hP hD hS dX11_rules_97 (rfl)
set_option maxRecDepth 100000 in
set_option maxHeartbeats 4000000 in
theorem c_X11_fault (l : Launch) (D : va_G) (cI cJ cZ : ClassId) (h0 q1 : Nat) (fs0 fs1 : List Value) (p0 : Int32) (hl_fs0 : fs0.length = 14) (hf_fs0_3 : fs0[3]? = some (.ref q1)) (hl_fs1 : fs1.length = 5) (hf_fs1_2 : fs1[2]? = some (.int 0)) (hf_fs1_3 : fs1[3]? = some (.int (-1))) : Con_i l yX11_fault cX11_fault 2 (some .int) ({ frames := 0, cells := 0, slots := 0, locals := 0 }) D cI cJ cZ eT [.ref h0, .int p0] [(h0, .inr (11, fs0)), (q1, .inr (8, fs1))] (fun r _ => r = (sp_fault p0)) := by
  refine ent_i (by decide) (Nat.le_of_ble_eq_true rfl) ?_
  intro p e s m below meth c A hx hb hml hown hts hr hlk hnm hK hE hA hP hD hS ls hl
  have hown : s.vm.findClass RX11 = some m.cls := hown
  have hl : lv_has ls 2 [(0, .ref h0), (1, .int p0)] := hl
  refine lv_iload_n hx hb dX11_fault_0 rfl (lv_at hl 1 rfl) ?_
  refine lv_if_ne (tgt := 12) hx hb dX11_fault_1 (by decide) (fun c_1 => ?_) (fun c_1 => ?_)
  · refine lv_iload_n hx hb dX11_fault_12 rfl (lv_at hl 1 rfl) ?_
    refine lv_iconst (v := 1) hx hb dX11_fault_13 (by decide) ?_
    refine lv_icmp_ne (tgt := 27) hx hb dX11_fault_14 (by decide) (fun c_2 => ?_) (fun c_2 => ?_)
    · refine lv_iconst (v := (-1)) hx hb dX11_fault_27 (by decide) ?_
      exact fin_i hx hb hr hlk hK hP hD hS dX11_fault_28 ((by unfold sp_fault; rw [if_neg c_1]))
    · refine lv_aload_n hx hb dX11_fault_17 rfl (lv_at hl 0 rfl) ?_
      refine gt_X11 hx hb hts hown hK hP 0 rfl 3 (by decide) wd_676 rfl hf_fs0_3 dX11_fault_18 ?_
      refine gt_X8 hx hb hts hown hK hP 1 rfl 3 (by decide) wd_232 rfl hf_fs1_3 dX11_fault_21 ?_
      refine lv_goto (tgt := 28) hx hb dX11_fault_24 (by decide) ?_
      exact fin_i hx hb hr hlk hK hP hD hS dX11_fault_28 ((by unfold sp_fault; rw [if_neg c_1]))
  · refine lv_aload_n hx hb dX11_fault_4 rfl (lv_at hl 0 rfl) ?_
    refine gt_X11 hx hb hts hown hK hP 0 rfl 3 (by decide) wd_676 rfl hf_fs0_3 dX11_fault_5 ?_
    refine gt_X8 hx hb hts hown hK hP 1 rfl 2 (by decide) wd_230 rfl hf_fs1_2 dX11_fault_8 ?_
    exact fin_i hx hb hr hlk hK hP hD hS dX11_fault_11 ((by unfold sp_fault; rw [if_pos c_1]))
set_option maxRecDepth 100000 in
set_option maxHeartbeats 4000000 in
theorem c_X11_name (l : Launch) (D : va_G) (cI cJ cZ : ClassId) (h0 q1 : Nat) (fs0 fs1 : List Value) (p0 : Int32) (p1 : Int32) (p2 : Int32) (hl_fs0 : fs0.length = 14) (hf_fs0_0 : fs0[0]? = some (.ref q1)) (hl_fs1 : fs1.length = 20) (hf_fs1_0 : fs1[0]? = some (.int 0)) (hf_fs1_5 : fs1[5]? = some (.int 0)) : Con_i l yX11_name cX11_name 4 (some .int) ({ frames := 0, cells := 0, slots := 0, locals := 0 }) D cI cJ cZ eT [.ref h0, .int p0, .int p1, .int p2] [(h0, .inr (11, fs0)), (q1, .inr (1, fs1))] (fun r _ => r = (-1)) := by
  refine ent_i (by decide) (Nat.le_of_ble_eq_true rfl) ?_
  intro p e s m below meth c A hx hb hml hown hts hr hlk hnm hK hE hA hP hD hS ls hl
  have hown : s.vm.findClass RX11 = some m.cls := hown
  have hl : lv_has ls 4 [(0, .ref h0), (1, .int p0), (2, .int p1), (3, .int p2)] := hl
  refine lv_iload_n hx hb dX11_name_0 rfl (lv_at hl 2 rfl) ?_
  refine lv_if_lt (tgt := 29) hx hb dX11_name_1 (by decide) (fun c_1 => ?_) (fun c_1 => ?_)
  · refine lv_iconst (v := (-1)) hx hb dX11_name_29 (by decide) ?_
    exact fin_i hx hb hr hlk hK hP hD hS dX11_name_30 (rfl)
  · refine lv_iload_n hx hb dX11_name_4 rfl (lv_at hl 2 rfl) ?_
    refine lv_iload_n hx hb dX11_name_5 rfl (lv_at hl 1 rfl) ?_
    refine lv_if_eq (tgt := 19) hx hb dX11_name_6 (by decide) (fun c_2 => ?_) (fun c_2 => ?_)
    · refine lv_aload_n hx hb dX11_name_19 rfl (lv_at hl 0 rfl) ?_
      refine gt_X11 hx hb hts hown hK hP 0 rfl 0 (by decide) wd_673 rfl hf_fs0_0 dX11_name_20 ?_
      refine gt_X1 hx hb hts hown hK hP 1 rfl 0 (by decide) wd_39 rfl hf_fs1_0 dX11_name_23 ?_
      refine lv_icmp_lt (tgt := 31) hx hb dX11_name_26 (by decide) (fun h => absurd h (c_1)) (fun _ => ?_)
      refine lv_iconst (v := (-1)) hx hb dX11_name_29 (by decide) ?_
      exact fin_i hx hb hr hlk hK hP hD hS dX11_name_30 (rfl)
    · refine lv_aload_n hx hb dX11_name_9 rfl (lv_at hl 0 rfl) ?_
      refine gt_X11 hx hb hts hown hK hP 0 rfl 0 (by decide) wd_673 rfl hf_fs0_0 dX11_name_10 ?_
      refine gt_X1 hx hb hts hown hK hP 1 rfl 5 (by decide) wd_55 rfl hf_fs1_5 dX11_name_13 ?_
      refine lv_goto (tgt := 26) hx hb dX11_name_16 (by decide) ?_
      refine lv_icmp_lt (tgt := 31) hx hb dX11_name_26 (by decide) (fun h => absurd h (c_1)) (fun _ => ?_)
      refine lv_iconst (v := (-1)) hx hb dX11_name_29 (by decide) ?_
      exact fin_i hx hb hr hlk hK hP hD hS dX11_name_30 (rfl)
set_option maxRecDepth 100000 in
set_option maxHeartbeats 4000000 in
theorem c_X11_isKind (l : Launch) (D : va_G) (cI cJ cZ : ClassId) (h0 q1 : Nat) (fs0 fs1 : List Value) (p0 : Int32) (hl_fs0 : fs0.length = 14) (hf_fs0_0 : fs0[0]? = some (.ref q1)) (hl_fs1 : fs1.length = 20) (hf_fs1_0 : fs1[0]? = some (.int 0)) : Con_i l yX11_isKind cX11_isKind 2 (some .boolean) ({ frames := 0, cells := 0, slots := 0, locals := 0 }) D cI cJ cZ eT [.ref h0, .int p0] [(h0, .inr (11, fs0)), (q1, .inr (1, fs1))] (fun (r : Int32) (w : va_W) => w = [(h0, .inr (11, fs0)), (q1, .inr (1, fs1))] ∧ r = 0) := by
  refine ent_i (by decide) (Nat.le_of_ble_eq_true rfl) ?_
  intro p e s m below meth c A hx hb hml hown hts hr hlk hnm hK hE hA hP hD hS ls hl
  have hown : s.vm.findClass RX11 = some m.cls := hown
  have hl : lv_has ls 2 [(0, .ref h0), (1, .int p0)] := hl
  refine lv_iload_n hx hb dX11_isKind_0 rfl (lv_at hl 1 rfl) ?_
  refine lv_if_lt (tgt := 19) hx hb dX11_isKind_1 (by decide) (fun c_1 => ?_) (fun c_1 => ?_)
  · refine lv_iconst (v := 0) hx hb dX11_isKind_19 (by decide) ?_
    exact fin_z hx hb hr hlk hK hP hD hS dX11_isKind_20 rfl (⟨rfl, rfl⟩)
  · refine lv_iload_n hx hb dX11_isKind_4 rfl (lv_at hl 1 rfl) ?_
    refine lv_aload_n hx hb dX11_isKind_5 rfl (lv_at hl 0 rfl) ?_
    refine gt_X11 hx hb hts hown hK hP 0 rfl 0 (by decide) wd_673 rfl hf_fs0_0 dX11_isKind_6 ?_
    refine gt_X1 hx hb hts hown hK hP 1 rfl 0 (by decide) wd_39 rfl hf_fs1_0 dX11_isKind_9 ?_
    refine lv_icmp_ge (tgt := 19) hx hb dX11_isKind_12 (by decide) (fun _ => ?_) (fun h => (h ((by have k0 := c_1; rw [q_lt] at k0; have z0 : (0 : Int32).toInt = 0 := (by decide); rw [q_le]; omega))).elim)
    refine lv_iconst (v := 0) hx hb dX11_isKind_19 (by decide) ?_
    exact fin_z hx hb hr hlk hK hP hD hS dX11_isKind_20 rfl (⟨rfl, rfl⟩)
set_option maxRecDepth 100000 in
set_option maxHeartbeats 4000000 in
theorem c_X11_marked (l : Launch) (D : va_G) (cI cJ cZ : ClassId) (h0 q1 : Nat) (fs0 fs1 : List Value) (p0 : Int32) (p1 : Int32) (hl_fs0 : fs0.length = 14) (hf_fs0_0 : fs0[0]? = some (.ref q1)) (hl_fs1 : fs1.length = 20) (hf_fs1_0 : fs1[0]? = some (.int 0)) : Con_i l yX11_marked cX11_marked 3 (some .int) ({ frames := 1, cells := 0, slots := 0, locals := 21 }) D cI cJ cZ eT [.ref h0, .int p0, .int p1] [(h0, .inr (11, fs0)), (q1, .inr (1, fs1))] (fun r _ => r = (-1)) := by
  refine ent_i (by decide) (Nat.le_of_ble_eq_true rfl) ?_
  intro p e s m below meth c A hx hb hml hown hts hr hlk hnm hK hE hA hP hD hS ls hl
  have hown : s.vm.findClass RX11 = some m.cls := hown
  have hl : lv_has ls 3 [(0, .ref h0), (1, .int p0), (2, .int p1)] := hl
  refine lv_aload_n hx hb dX11_marked_0 rfl (lv_at hl 0 rfl) ?_
  refine lv_iload_n hx hb dX11_marked_1 rfl (lv_at hl 1 rfl) ?_
  refine cl_i (wr := []) (rn_V (As := [.int p0]) (rest := []) hx hb hml hown hts (c_X11_isKind l D cI cJ cZ h0 q1 fs0 fs1 p0 hl_fs0 hf_fs0_0 hl_fs1 hf_fs1_0 _) ⟨rfl, rfl⟩ sv_X11_154 ⟨(Nat.le_of_ble_eq_true rfl), (Nat.le_of_ble_eq_true rfl)⟩ ⟨(Nat.le_of_ble_eq_true rfl), (Nat.le_of_ble_eq_true rfl)⟩ (fun _ _ _ _ h => h) (fun _ _ _ => trivial) hK hP hD [0, 1] rfl rfl 0 11 rfl rfl rfl rfl hl.1 rfl (Nat.le_of_ble_eq_true rfl) dX11_marked_2) hP hD hS hA [0, 1] [] rfl rfl rfl (by decide) (fun r_3 w_2 H locs hw_1 hP hD hS => ?_)
  obtain ⟨rfl, hr_4⟩ := hw_1
  have hP : va_P D vwCl [(h0, .inr (11, fs0)), (q1, .inr (1, fs1))] H := hP
  have hD : va_D A [(h0, .inr (11, fs0)), (q1, .inr (1, fs1))] := hD
  refine tov (v := 0) hr_4 ?_
  refine lv_if_eq (tgt := 23) hx hb dX11_marked_5 (by decide) (fun _ => ?_) (fun h => (h (by decide)).elim)
  refine lv_iconst (v := (-1)) hx hb dX11_marked_23 (by decide) ?_
  exact fin_i hx hb hr hlk hK hP hD hS dX11_marked_24 (rfl)
set_option maxRecDepth 100000 in
set_option maxHeartbeats 4000000 in
theorem c_X11_gifts (l : Launch) (D : va_G) (cI cJ cZ : ClassId) (h0 q1 : Nat) (fs0 fs1 : List Value) (p0 : Int32) (p1 : Int32) (p2 : Int32) (hl_fs0 : fs0.length = 14) (hf_fs0_0 : fs0[0]? = some (.ref q1)) (hl_fs1 : fs1.length = 20) (hf_fs1_0 : fs1[0]? = some (.int 0)) : Con_i l yX11_gifts cX11_gifts 4 (some .int) ({ frames := 1, cells := 0, slots := 0, locals := 21 }) D cI cJ cZ eT [.ref h0, .int p0, .int p1, .int p2] [(h0, .inr (11, fs0)), (q1, .inr (1, fs1))] (fun r _ => r = (-1)) := by
  refine ent_i (by decide) (Nat.le_of_ble_eq_true rfl) ?_
  intro p e s m below meth c A hx hb hml hown hts hr hlk hnm hK hE hA hP hD hS ls hl
  have hown : s.vm.findClass RX11 = some m.cls := hown
  have hl : lv_has ls 4 [(0, .ref h0), (1, .int p0), (2, .int p1), (3, .int p2)] := hl
  refine lv_aload_n hx hb dX11_gifts_0 rfl (lv_at hl 0 rfl) ?_
  refine lv_iload_n hx hb dX11_gifts_1 rfl (lv_at hl 1 rfl) ?_
  refine cl_i (wr := []) (rn_V (As := [.int p0]) (rest := []) hx hb hml hown hts (c_X11_isKind l D cI cJ cZ h0 q1 fs0 fs1 p0 hl_fs0 hf_fs0_0 hl_fs1 hf_fs1_0 _) ⟨rfl, rfl⟩ sv_X11_154 ⟨(Nat.le_of_ble_eq_true rfl), (Nat.le_of_ble_eq_true rfl)⟩ ⟨(Nat.le_of_ble_eq_true rfl), (Nat.le_of_ble_eq_true rfl)⟩ (fun _ _ _ _ h => h) (fun _ _ _ => trivial) hK hP hD [0, 1] rfl rfl 0 11 rfl rfl rfl rfl hl.1 rfl (Nat.le_of_ble_eq_true rfl) dX11_gifts_2) hP hD hS hA [0, 1] [] rfl rfl rfl (by decide) (fun r_3 w_2 H locs hw_1 hP hD hS => ?_)
  obtain ⟨rfl, hr_4⟩ := hw_1
  have hP : va_P D vwCl [(h0, .inr (11, fs0)), (q1, .inr (1, fs1))] H := hP
  have hD : va_D A [(h0, .inr (11, fs0)), (q1, .inr (1, fs1))] := hD
  refine tov (v := 0) hr_4 ?_
  refine lv_if_eq (tgt := 35) hx hb dX11_gifts_5 (by decide) (fun _ => ?_) (fun h => (h (by decide)).elim)
  refine lv_iconst (v := (-1)) hx hb dX11_gifts_35 (by decide) ?_
  exact fin_i hx hb hr hlk hK hP hD hS dX11_gifts_36 (rfl)
set_option maxRecDepth 100000 in
set_option maxHeartbeats 4000000 in
theorem c_X11_call (l : Launch) (D : va_G) (cI cJ cZ : ClassId) (h0 q1 : Nat) (fs0 fs1 : List Value) (p0 : Int32) (p1 : Int32) (hl_fs0 : fs0.length = 14) (hf_fs0_0 : fs0[0]? = some (.ref q1)) (hl_fs1 : fs1.length = 20) (hf_fs1_0 : fs1[0]? = some (.int 0)) : Con_i l yX11_call cX11_call 3 (some .int) ({ frames := 1, cells := 0, slots := 0, locals := 21 }) D cI cJ cZ eT [.ref h0, .int p0, .int p1] [(h0, .inr (11, fs0)), (q1, .inr (1, fs1))] (fun r _ => r = (-1)) := by
  refine ent_i (by decide) (Nat.le_of_ble_eq_true rfl) ?_
  intro p e s m below meth c A hx hb hml hown hts hr hlk hnm hK hE hA hP hD hS ls hl
  have hown : s.vm.findClass RX11 = some m.cls := hown
  have hl : lv_has ls 3 [(0, .ref h0), (1, .int p0), (2, .int p1)] := hl
  refine lv_aload_n hx hb dX11_call_0 rfl (lv_at hl 0 rfl) ?_
  refine lv_iload_n hx hb dX11_call_1 rfl (lv_at hl 1 rfl) ?_
  refine cl_i (wr := []) (rn_V (As := [.int p0]) (rest := []) hx hb hml hown hts (c_X11_isKind l D cI cJ cZ h0 q1 fs0 fs1 p0 hl_fs0 hf_fs0_0 hl_fs1 hf_fs1_0 _) ⟨rfl, rfl⟩ sv_X11_154 ⟨(Nat.le_of_ble_eq_true rfl), (Nat.le_of_ble_eq_true rfl)⟩ ⟨(Nat.le_of_ble_eq_true rfl), (Nat.le_of_ble_eq_true rfl)⟩ (fun _ _ _ _ h => h) (fun _ _ _ => trivial) hK hP hD [0, 1] rfl rfl 0 11 rfl rfl rfl rfl hl.1 rfl (Nat.le_of_ble_eq_true rfl) dX11_call_2) hP hD hS hA [0, 1] [] rfl rfl rfl (by decide) (fun r_3 w_2 H locs hw_1 hP hD hS => ?_)
  obtain ⟨rfl, hr_4⟩ := hw_1
  have hP : va_P D vwCl [(h0, .inr (11, fs0)), (q1, .inr (1, fs1))] H := hP
  have hD : va_D A [(h0, .inr (11, fs0)), (q1, .inr (1, fs1))] := hD
  refine tov (v := 0) hr_4 ?_
  refine lv_if_eq (tgt := 25) hx hb dX11_call_5 (by decide) (fun _ => ?_) (fun h => (h (by decide)).elim)
  refine lv_iconst (v := (-1)) hx hb dX11_call_25 (by decide) ?_
  exact fin_i hx hb hr hlk hK hP hD hS dX11_call_26 (rfl)
set_option maxRecDepth 100000 in
set_option maxHeartbeats 4000000 in
theorem c_X11_annul (l : Launch) (D : va_G) (cI cJ cZ : ClassId) (h0 q1 : Nat) (fs0 fs1 : List Value) (p0 : Int32) (hl_fs0 : fs0.length = 14) (hf_fs0_4 : fs0[4]? = some (.ref q1)) (hl_fs1 : fs1.length = 8) (hf_fs1_0 : fs1[0]? = some (.int 0)) : Con_i l yX11_annul cX11_annul 2 (some .int) ({ frames := 0, cells := 0, slots := 0, locals := 0 }) D cI cJ cZ eT [.ref h0, .int p0] [(h0, .inr (11, fs0)), (q1, .inr (7, fs1))] (fun r _ => r = (-1)) := by
  refine ent_i (by decide) (Nat.le_of_ble_eq_true rfl) ?_
  intro p e s m below meth c A hx hb hml hown hts hr hlk hnm hK hE hA hP hD hS ls hl
  have hown : s.vm.findClass RX11 = some m.cls := hown
  have hl : lv_has ls 2 [(0, .ref h0), (1, .int p0)] := hl
  refine lv_iload_n hx hb dX11_annul_0 rfl (lv_at hl 1 rfl) ?_
  refine lv_iconst (v := 1) hx hb dX11_annul_1 (by decide) ?_
  refine lv_icmp_lt (tgt := 26) hx hb dX11_annul_2 (by decide) (fun c_1 => ?_) (fun c_1 => ?_)
  · refine lv_iconst (v := (-1)) hx hb dX11_annul_26 (by decide) ?_
    exact fin_i hx hb hr hlk hK hP hD hS dX11_annul_27 (rfl)
  · refine lv_iload_n hx hb dX11_annul_5 rfl (lv_at hl 1 rfl) ?_
    refine lv_aload_n hx hb dX11_annul_6 rfl (lv_at hl 0 rfl) ?_
    refine gt_X11 hx hb hts hown hK hP 0 rfl 4 (by decide) wd_677 rfl hf_fs0_4 dX11_annul_7 ?_
    refine gt_X7 hx hb hts hown hK hP 1 rfl 0 (by decide) wd_252 rfl hf_fs1_0 dX11_annul_10 ?_
    refine lv_icmp_gt (tgt := 26) hx hb dX11_annul_13 (by decide) (fun _ => ?_) (fun h => (h ((by have k0 := c_1; rw [q_lt] at k0; have z0 : (0 : Int32).toInt = 0 := (by decide); have z1 : (1 : Int32).toInt = 1 := (by decide); rw [q_lt]; omega))).elim)
    refine lv_iconst (v := (-1)) hx hb dX11_annul_26 (by decide) ?_
    exact fin_i hx hb hr hlk hK hP hD hS dX11_annul_27 (rfl)
set_option maxRecDepth 100000 in
set_option maxHeartbeats 4000000 in
theorem c_X11_as (l : Launch) (D : va_G) (cI cJ cZ : ClassId) (h0 q1 : Nat) (fs0 fs1 : List Value) (p0 : Int32) (hl_fs0 : fs0.length = 14) (hf_fs0_4 : fs0[4]? = some (.ref q1)) (hl_fs1 : fs1.length = 8) (hf_fs1_0 : fs1[0]? = some (.int 0)) : Con_i l yX11_as cX11_as 2 (some .boolean) ({ frames := 0, cells := 0, slots := 0, locals := 0 }) D cI cJ cZ eT [.ref h0, .int p0] [(h0, .inr (11, fs0)), (q1, .inr (7, fs1))] (fun r _ => r = (sp_as p0)) := by
  refine ent_i (by decide) (Nat.le_of_ble_eq_true rfl) ?_
  intro p e s m below meth c A hx hb hml hown hts hr hlk hnm hK hE hA hP hD hS ls hl
  have hown : s.vm.findClass RX11 = some m.cls := hown
  have hl : lv_has ls 2 [(0, .ref h0), (1, .int p0)] := hl
  refine lv_iload_n hx hb dX11_as_0 rfl (lv_at hl 1 rfl) ?_
  refine lv_iconst (v := (-1)) hx hb dX11_as_1 (by decide) ?_
  refine lv_icmp_lt (tgt := 16) hx hb dX11_as_2 (by decide) (fun c_1 => ?_) (fun c_1 => ?_)
  · refine lv_iconst (v := 0) hx hb dX11_as_16 (by decide) ?_
    exact fin_z hx hb hr hlk hK hP hD hS dX11_as_17 rfl (as_a c_1)
  · refine lv_iload_n hx hb dX11_as_5 rfl (lv_at hl 1 rfl) ?_
    refine lv_aload_n hx hb dX11_as_6 rfl (lv_at hl 0 rfl) ?_
    refine gt_X11 hx hb hts hown hK hP 0 rfl 4 (by decide) wd_677 rfl hf_fs0_4 dX11_as_7 ?_
    refine gt_X7 hx hb hts hown hK hP 1 rfl 0 (by decide) wd_252 rfl hf_fs1_0 dX11_as_10 ?_
    refine lv_icmp_le (tgt := 18) hx hb dX11_as_13 (by decide) (fun c_2 => ?_) (fun c_2 => ?_)
    · refine lv_aload_n hx hb dX11_as_18 rfl (lv_at hl 0 rfl) ?_
      refine lv_iload_n hx hb dX11_as_19 rfl (lv_at hl 1 rfl) ?_
      refine pt_X11 hx hb hts hown hK hP hD hS 0 rfl 12 (by decide) wd_685 rfl rfl (ty := .int) (v := .int p0) (by decide +kernel) rfl rfl (ln_lt hl_fs0 (by decide)) dX11_as_20 (fun H locs hP hD hS => ?_)
      have hP : va_P D vwCl [(h0, .inr (11, (fs0.set 12 (.int p0)))), (q1, .inr (7, fs1))] H := hP
      have hD : va_D A [(h0, .inr (11, (fs0.set 12 (.int p0)))), (q1, .inr (7, fs1))] := hD
      refine lv_iconst (v := 1) hx hb dX11_as_23 (by decide) ?_
      exact fin_z hx hb hr hlk hK hP hD hS dX11_as_24 rfl (as_1 c_1 c_2)
    · refine lv_iconst (v := 0) hx hb dX11_as_16 (by decide) ?_
      exact fin_z hx hb hr hlk hK hP hD hS dX11_as_17 rfl (as_b c_2)
set_option maxRecDepth 100000 in
set_option maxHeartbeats 4000000 in
theorem c_X11_end (l : Launch) (D : va_G) (cI cJ cZ : ClassId) (h0 q1 : Nat) (fs0 fs1 : List Value) (p0 : Int32) (hl_fs0 : fs0.length = 14) (hf_fs0_2 : fs0[2]? = some (.ref q1)) (hl_fs1 : fs1.length = 8) (hf_fs1_1 : fs1[1]? = some (.int 0)) : Con_i l yX11_end cX11_end 2 (some .boolean) ({ frames := 0, cells := 0, slots := 0, locals := 0 }) D cI cJ cZ eT [.ref h0, .int p0] [(h0, .inr (11, fs0)), (q1, .inr (10, fs1))] (fun r _ => r = (sp_end p0)) := by
  refine ent_i (by decide) (Nat.le_of_ble_eq_true rfl) ?_
  intro p e s m below meth c A hx hb hml hown hts hr hlk hnm hK hE hA hP hD hS ls hl
  have hown : s.vm.findClass RX11 = some m.cls := hown
  have hl : lv_has ls 2 [(0, .ref h0), (1, .int p0)] := hl
  refine lv_iload_n hx hb dX11_end_0 rfl (lv_at hl 1 rfl) ?_
  refine lv_if_lt (tgt := 15) hx hb dX11_end_1 (by decide) (fun c_1 => ?_) (fun c_1 => ?_)
  · refine lv_iconst (v := 0) hx hb dX11_end_15 (by decide) ?_
    exact fin_z hx hb hr hlk hK hP hD hS dX11_end_16 rfl (end_a c_1)
  · refine lv_iload_n hx hb dX11_end_4 rfl (lv_at hl 1 rfl) ?_
    refine lv_aload_n hx hb dX11_end_5 rfl (lv_at hl 0 rfl) ?_
    refine gt_X11 hx hb hts hown hK hP 0 rfl 2 (by decide) wd_675 rfl hf_fs0_2 dX11_end_6 ?_
    refine gt_X10 hx hb hts hown hK hP 1 rfl 1 (by decide) wd_191 rfl hf_fs1_1 dX11_end_9 ?_
    refine lv_icmp_le (tgt := 17) hx hb dX11_end_12 (by decide) (fun c_2 => ?_) (fun c_2 => ?_)
    · refine lv_aload_n hx hb dX11_end_17 rfl (lv_at hl 0 rfl) ?_
      refine gt_X11 hx hb hts hown hK hP 0 rfl 2 (by decide) wd_675 rfl hf_fs0_2 dX11_end_18 ?_
      refine lv_iload_n hx hb dX11_end_21 rfl (lv_at hl 1 rfl) ?_
      refine pt_X10 hx hb hts hown hK hP hD hS 1 rfl 1 (by decide) wd_191 rfl rfl (ty := .int) (v := .int p0) (by decide +kernel) rfl rfl (ln_lt hl_fs1 (by decide)) dX11_end_22 (fun H locs hP hD hS => ?_)
      have hP : va_P D vwCl [(h0, .inr (11, fs0)), (q1, .inr (10, (fs1.set 1 (.int p0))))] H := hP
      have hD : va_D A [(h0, .inr (11, fs0)), (q1, .inr (10, (fs1.set 1 (.int p0))))] := hD
      refine lv_iconst (v := 1) hx hb dX11_end_25 (by decide) ?_
      exact fin_z hx hb hr hlk hK hP hD hS dX11_end_26 rfl (end_1 c_1 c_2)
    · refine lv_iconst (v := 0) hx hb dX11_end_15 (by decide) ?_
      exact fin_z hx hb hr hlk hK hP hD hS dX11_end_16 rfl (end_b c_2)
set_option maxRecDepth 100000 in
set_option maxHeartbeats 4000000 in
theorem c_X7_isFull (l : Launch) (D : va_G) (cI cJ cZ : ClassId) (h0 : Nat) (fs0 : List Value) (hl_fs0 : fs0.length = 8) (hf_fs0_0 : fs0[0]? = some (.int 0)) : Con_i l yX7_isFull cX7_isFull 1 (some .boolean) ({ frames := 0, cells := 0, slots := 0, locals := 0 }) D cI cJ cZ eT [.ref h0] [(h0, .inr (7, fs0))] (fun (r : Int32) (w : va_W) => w = [(h0, .inr (7, fs0))] ∧ r = 0) := by
  refine ent_i (by decide) (Nat.le_of_ble_eq_true rfl) ?_
  intro p e s m below meth c A hx hb hml hown hts hr hlk hnm hK hE hA hP hD hS ls hl
  have hown : s.vm.findClass RX7 = some m.cls := hown
  have hl : lv_has ls 1 [(0, .ref h0)] := hl
  refine lv_aload_n hx hb dX7_isFull_0 rfl (lv_at hl 0 rfl) ?_
  refine gt_X7 hx hb hts hown hK hP 0 rfl 0 (by decide) wd_251 rfl hf_fs0_0 dX7_isFull_1 ?_
  refine lv_sipush (v := 200) hx hb dX7_isFull_4 (by decide) ?_
  refine lv_icmp_lt (tgt := 14) hx hb dX7_isFull_7 (by decide) (fun _ => ?_) (fun h => (h (by decide)).elim)
  refine lv_iconst (v := 0) hx hb dX7_isFull_14 (by decide) ?_
  exact fin_z hx hb hr hlk hK hP hD hS dX7_isFull_15 rfl (⟨rfl, rfl⟩)
set_option maxRecDepth 100000 in
set_option maxHeartbeats 4000000 in
theorem c_X7_add (l : Launch) (D : va_G) (cI cJ cZ : ClassId) (h0 q1 q2 q3 q4 : Nat) (fs0 : List Value) (f1 : Nat → Int32) (f2 : Nat → Int32) (f3 : Nat → Int32) (f4 : Nat → Int32) (p0 : Int32) (p1 : Int32) (p2 : Int32) (p3 : Int32) (hl_fs0 : fs0.length = 8) (hf_fs0_0 : fs0[0]? = some (.int 0)) (hf_fs0_1 : fs0[1]? = some (.int 0)) (hf_fs0_2 : fs0[2]? = some (.ref q1)) (hf_fs0_3 : fs0[3]? = some (.ref q2)) (hf_fs0_5 : fs0[5]? = some (.ref q3)) (hf_fs0_6 : fs0[6]? = some (.ref q4)) : Con_i l yX7_add cX7_add 5 (some .int) ({ frames := 0, cells := 0, slots := 0, locals := 0 }) D cI cJ cZ eT [.ref h0, .int p0, .int p1, .int p2, .int p3] [(h0, .inr (7, fs0)), (q1, .inl (cI, 201, .inl f1)), (q2, .inl (cI, 1005, .inl f2)), (q3, .inl (cI, 201, .inl f3)), (q4, .inl (cI, 201, .inl f4))] (fun (r : Int32) (w : va_W) => ∃ (fs1 : List Value) (g1 : Nat → Int32) (g2 : Nat → Int32) (g3 : Nat → Int32) (g4 : Nat → Int32), w = [(h0, .inr (7, fs1)), (q1, .inl (cI, 201, .inl g1)), (q2, .inl (cI, 1005, .inl g2)), (q3, .inl (cI, 201, .inl g3)), (q4, .inl (cI, 201, .inl g4))] ∧ fs1.length = 8 ∧ fs1[0]? = some (.int 1) ∧ fs1[1]? = some (.int 0) ∧ fs1[2]? = some (.ref q1) ∧ fs1[3]? = some (.ref q2) ∧ fs1[5]? = some (.ref q3) ∧ fs1[6]? = some (.ref q4) ∧ r = 1) := by
  refine ent_i (by decide) (Nat.le_of_ble_eq_true rfl) ?_
  intro p e s m below meth c A hx hb hml hown hts hr hlk hnm hK hE hA hP hD hS ls hl
  have hown : s.vm.findClass RX7 = some m.cls := hown
  have hl : lv_has ls 5 [(0, .ref h0), (1, .int p0), (2, .int p1), (3, .int p2), (4, .int p3)] := hl
  refine lv_aload_n hx hb dX7_add_0 rfl (lv_at hl 0 rfl) ?_
  refine lv_dup hx hb dX7_add_1 rfl ?_
  refine gt_X7 hx hb hts hown hK hP 0 rfl 0 (by decide) wd_251 rfl hf_fs0_0 dX7_add_2 ?_
  refine lv_iconst (v := 1) hx hb dX7_add_5 (by decide) ?_
  refine lv_iadd hx hb dX7_add_6 ?_
  refine tov (v := 1) (by decide) ?_
  refine pt_X7 hx hb hts hown hK hP hD hS 0 rfl 0 (by decide) wd_251 rfl rfl (ty := .int) (v := .int 1) (by decide +kernel) rfl rfl (ln_lt hl_fs0 (by decide)) dX7_add_7 (fun H locs hP hD hS => ?_)
  have hP : va_P D vwCl [(h0, .inr (7, (fs0.set 0 (.int 1)))), (q1, .inl (cI, 201, .inl f1)), (q2, .inl (cI, 1005, .inl f2)), (q3, .inl (cI, 201, .inl f3)), (q4, .inl (cI, 201, .inl f4))] H := hP
  have hD : va_D A [(h0, .inr (7, (fs0.set 0 (.int 1)))), (q1, .inl (cI, 201, .inl f1)), (q2, .inl (cI, 1005, .inl f2)), (q3, .inl (cI, 201, .inl f3)), (q4, .inl (cI, 201, .inl f4))] := hD
  refine lv_aload_n hx hb dX7_add_10 rfl (lv_at hl 0 rfl) ?_
  refine gt_X7 hx hb hts hown hK hP 0 rfl 2 (by decide) wd_255 rfl (gs_ne (by decide) hf_fs0_2) dX7_add_11 ?_
  refine lv_aload_n hx hb dX7_add_14 rfl (lv_at hl 0 rfl) ?_
  refine gt_X7 hx hb hts hown hK hP 0 rfl 0 (by decide) wd_251 rfl (gs_eq (ln_lt hl_fs0 (by decide))) dX7_add_15 ?_
  refine lv_iload_n hx hb dX7_add_18 rfl (lv_at hl 1 rfl) ?_
  refine va_iast hx hb hK hP hD hS 1 0 rfl rfl (vp_in_c (by decide)) dX7_add_19 (fun H locs hP hD hS => ?_)
  obtain ⟨f_1, ef_1⟩ : ∃ z, z = upd f1 (1 : Int32).toNatClampNeg p0 := ⟨_, rfl⟩
  rw [← ef_1] at hP hD
  have hP : va_P D vwCl [(h0, .inr (7, (fs0.set 0 (.int 1)))), (q1, .inl (cI, 201, .inl f_1)), (q2, .inl (cI, 1005, .inl f2)), (q3, .inl (cI, 201, .inl f3)), (q4, .inl (cI, 201, .inl f4))] H := hP
  have hD : va_D A [(h0, .inr (7, (fs0.set 0 (.int 1)))), (q1, .inl (cI, 201, .inl f_1)), (q2, .inl (cI, 1005, .inl f2)), (q3, .inl (cI, 201, .inl f3)), (q4, .inl (cI, 201, .inl f4))] := hD
  refine lv_aload_n hx hb dX7_add_20 rfl (lv_at hl 0 rfl) ?_
  refine gt_X7 hx hb hts hown hK hP 0 rfl 6 (by decide) wd_263 rfl (gs_ne (by decide) hf_fs0_6) dX7_add_21 ?_
  refine lv_aload_n hx hb dX7_add_24 rfl (lv_at hl 0 rfl) ?_
  refine gt_X7 hx hb hts hown hK hP 0 rfl 0 (by decide) wd_251 rfl (gs_eq (ln_lt hl_fs0 (by decide))) dX7_add_25 ?_
  refine lv_iconst (v := 0) hx hb dX7_add_28 (by decide) ?_
  refine va_iast hx hb hK hP hD hS 4 0 rfl rfl (vp_in_c (by decide)) dX7_add_29 (fun H locs hP hD hS => ?_)
  obtain ⟨f_2, ef_2⟩ : ∃ z, z = upd f4 (1 : Int32).toNatClampNeg 0 := ⟨_, rfl⟩
  rw [← ef_2] at hP hD
  have hP : va_P D vwCl [(h0, .inr (7, (fs0.set 0 (.int 1)))), (q1, .inl (cI, 201, .inl f_1)), (q2, .inl (cI, 1005, .inl f2)), (q3, .inl (cI, 201, .inl f3)), (q4, .inl (cI, 201, .inl f_2))] H := hP
  have hD : va_D A [(h0, .inr (7, (fs0.set 0 (.int 1)))), (q1, .inl (cI, 201, .inl f_1)), (q2, .inl (cI, 1005, .inl f2)), (q3, .inl (cI, 201, .inl f3)), (q4, .inl (cI, 201, .inl f_2))] := hD
  refine lv_aload_n hx hb dX7_add_30 rfl (lv_at hl 0 rfl) ?_
  refine gt_X7 hx hb hts hown hK hP 0 rfl 5 (by decide) wd_261 rfl (gs_ne (by decide) hf_fs0_5) dX7_add_31 ?_
  refine lv_aload_n hx hb dX7_add_34 rfl (lv_at hl 0 rfl) ?_
  refine gt_X7 hx hb hts hown hK hP 0 rfl 0 (by decide) wd_251 rfl (gs_eq (ln_lt hl_fs0 (by decide))) dX7_add_35 ?_
  refine lv_iconst (v := 0) hx hb dX7_add_38 (by decide) ?_
  refine va_iast hx hb hK hP hD hS 3 0 rfl rfl (vp_in_c (by decide)) dX7_add_39 (fun H locs hP hD hS => ?_)
  obtain ⟨f_3, ef_3⟩ : ∃ z, z = upd f3 (1 : Int32).toNatClampNeg 0 := ⟨_, rfl⟩
  rw [← ef_3] at hP hD
  have hP : va_P D vwCl [(h0, .inr (7, (fs0.set 0 (.int 1)))), (q1, .inl (cI, 201, .inl f_1)), (q2, .inl (cI, 1005, .inl f2)), (q3, .inl (cI, 201, .inl f_3)), (q4, .inl (cI, 201, .inl f_2))] H := hP
  have hD : va_D A [(h0, .inr (7, (fs0.set 0 (.int 1)))), (q1, .inl (cI, 201, .inl f_1)), (q2, .inl (cI, 1005, .inl f2)), (q3, .inl (cI, 201, .inl f_3)), (q4, .inl (cI, 201, .inl f_2))] := hD
  refine lv_aload_n hx hb dX7_add_40 rfl (lv_at hl 0 rfl) ?_
  refine gt_X7 hx hb hts hown hK hP 0 rfl 3 (by decide) wd_258 rfl (gs_ne (by decide) hf_fs0_3) dX7_add_41 ?_
  refine lv_aload_n hx hb dX7_add_44 rfl (lv_at hl 0 rfl) ?_
  refine gt_X7 hx hb hts hown hK hP 0 rfl 0 (by decide) wd_251 rfl (gs_eq (ln_lt hl_fs0 (by decide))) dX7_add_45 ?_
  refine lv_iconst (v := 5) hx hb dX7_add_48 (by decide) ?_
  refine lv_imul hx hb dX7_add_49 ?_
  refine tov (v := 5) (by decide) ?_
  refine lv_iload_n hx hb dX7_add_50 rfl (lv_at hl 2 rfl) ?_
  refine va_iast hx hb hK hP hD hS 2 0 rfl rfl (vp_in_c (by decide)) dX7_add_51 (fun H locs hP hD hS => ?_)
  obtain ⟨f_4, ef_4⟩ : ∃ z, z = upd f2 (5 : Int32).toNatClampNeg p1 := ⟨_, rfl⟩
  rw [← ef_4] at hP hD
  have hP : va_P D vwCl [(h0, .inr (7, (fs0.set 0 (.int 1)))), (q1, .inl (cI, 201, .inl f_1)), (q2, .inl (cI, 1005, .inl f_4)), (q3, .inl (cI, 201, .inl f_3)), (q4, .inl (cI, 201, .inl f_2))] H := hP
  have hD : va_D A [(h0, .inr (7, (fs0.set 0 (.int 1)))), (q1, .inl (cI, 201, .inl f_1)), (q2, .inl (cI, 1005, .inl f_4)), (q3, .inl (cI, 201, .inl f_3)), (q4, .inl (cI, 201, .inl f_2))] := hD
  refine lv_aload_n hx hb dX7_add_52 rfl (lv_at hl 0 rfl) ?_
  refine gt_X7 hx hb hts hown hK hP 0 rfl 3 (by decide) wd_258 rfl (gs_ne (by decide) hf_fs0_3) dX7_add_53 ?_
  refine lv_aload_n hx hb dX7_add_56 rfl (lv_at hl 0 rfl) ?_
  refine gt_X7 hx hb hts hown hK hP 0 rfl 0 (by decide) wd_251 rfl (gs_eq (ln_lt hl_fs0 (by decide))) dX7_add_57 ?_
  refine lv_iconst (v := 5) hx hb dX7_add_60 (by decide) ?_
  refine lv_imul hx hb dX7_add_61 ?_
  refine tov (v := 5) (by decide) ?_
  refine lv_iconst (v := 1) hx hb dX7_add_62 (by decide) ?_
  refine lv_iadd hx hb dX7_add_63 ?_
  refine tov (v := 6) (by decide) ?_
  refine lv_iload_n hx hb dX7_add_64 rfl (lv_at hl 3 rfl) ?_
  refine va_iast hx hb hK hP hD hS 2 0 rfl rfl (vp_in_c (by decide)) dX7_add_65 (fun H locs hP hD hS => ?_)
  obtain ⟨f_5, ef_5⟩ : ∃ z, z = upd f_4 (6 : Int32).toNatClampNeg p2 := ⟨_, rfl⟩
  rw [← ef_5] at hP hD
  have hP : va_P D vwCl [(h0, .inr (7, (fs0.set 0 (.int 1)))), (q1, .inl (cI, 201, .inl f_1)), (q2, .inl (cI, 1005, .inl f_5)), (q3, .inl (cI, 201, .inl f_3)), (q4, .inl (cI, 201, .inl f_2))] H := hP
  have hD : va_D A [(h0, .inr (7, (fs0.set 0 (.int 1)))), (q1, .inl (cI, 201, .inl f_1)), (q2, .inl (cI, 1005, .inl f_5)), (q3, .inl (cI, 201, .inl f_3)), (q4, .inl (cI, 201, .inl f_2))] := hD
  refine lv_aload_n hx hb dX7_add_66 rfl (lv_at hl 0 rfl) ?_
  refine gt_X7 hx hb hts hown hK hP 0 rfl 3 (by decide) wd_258 rfl (gs_ne (by decide) hf_fs0_3) dX7_add_67 ?_
  refine lv_aload_n hx hb dX7_add_70 rfl (lv_at hl 0 rfl) ?_
  refine gt_X7 hx hb hts hown hK hP 0 rfl 0 (by decide) wd_251 rfl (gs_eq (ln_lt hl_fs0 (by decide))) dX7_add_71 ?_
  refine lv_iconst (v := 5) hx hb dX7_add_74 (by decide) ?_
  refine lv_imul hx hb dX7_add_75 ?_
  refine tov (v := 5) (by decide) ?_
  refine lv_iconst (v := 2) hx hb dX7_add_76 (by decide) ?_
  refine lv_iadd hx hb dX7_add_77 ?_
  refine tov (v := 7) (by decide) ?_
  refine lv_iload hx hb dX7_add_78 (lv_at hl 4 rfl) ?_
  refine va_iast hx hb hK hP hD hS 2 0 rfl rfl (vp_in_c (by decide)) dX7_add_80 (fun H locs hP hD hS => ?_)
  obtain ⟨f_6, ef_6⟩ : ∃ z, z = upd f_5 (7 : Int32).toNatClampNeg p3 := ⟨_, rfl⟩
  rw [← ef_6] at hP hD
  have hP : va_P D vwCl [(h0, .inr (7, (fs0.set 0 (.int 1)))), (q1, .inl (cI, 201, .inl f_1)), (q2, .inl (cI, 1005, .inl f_6)), (q3, .inl (cI, 201, .inl f_3)), (q4, .inl (cI, 201, .inl f_2))] H := hP
  have hD : va_D A [(h0, .inr (7, (fs0.set 0 (.int 1)))), (q1, .inl (cI, 201, .inl f_1)), (q2, .inl (cI, 1005, .inl f_6)), (q3, .inl (cI, 201, .inl f_3)), (q4, .inl (cI, 201, .inl f_2))] := hD
  refine lv_aload_n hx hb dX7_add_81 rfl (lv_at hl 0 rfl) ?_
  refine gt_X7 hx hb hts hown hK hP 0 rfl 0 (by decide) wd_251 rfl (gs_eq (ln_lt hl_fs0 (by decide))) dX7_add_82 ?_
  exact fin_i hx hb hr hlk hK hP hD hS dX7_add_85 (⟨(fs0.set 0 (.int 1)), f_1, f_6, f_3, f_2, rfl, (ln_set hl_fs0), (gs_eq (ln_lt hl_fs0 (by decide))), (gs_ne (by decide) hf_fs0_1), (gs_ne (by decide) hf_fs0_2), (gs_ne (by decide) hf_fs0_3), (gs_ne (by decide) hf_fs0_5), (gs_ne (by decide) hf_fs0_6), rfl⟩)
set_option maxRecDepth 100000 in
set_option maxHeartbeats 4000000 in
theorem c_X7_addReport (l : Launch) (D : va_G) (cI cJ cZ : ClassId) (h0 q1 q2 q3 q4 : Nat) (fs0 : List Value) (f1 : Nat → Int32) (f2 : Nat → Int32) (f3 : Nat → Int32) (f4 : Nat → Int32) (p0 : Int32) (p1 : Int32) (p2 : Int32) (p3 : Int32) (p4 : Int32) (hl_fs0 : fs0.length = 8) (hf_fs0_0 : fs0[0]? = some (.int 0)) (hf_fs0_1 : fs0[1]? = some (.int 0)) (hf_fs0_2 : fs0[2]? = some (.ref q1)) (hf_fs0_3 : fs0[3]? = some (.ref q2)) (hf_fs0_5 : fs0[5]? = some (.ref q3)) (hf_fs0_6 : fs0[6]? = some (.ref q4)) : Con_i l yX7_addReport cX7_addReport 9 (some .int) ({ frames := 1, cells := 0, slots := 0, locals := 24 }) D cI cJ cZ eT [.ref h0, .int p0, .int p1, .int p2, .int p3, .int p4, .int 0] [(h0, .inr (7, fs0)), (q1, .inl (cI, 201, .inl f1)), (q2, .inl (cI, 1005, .inl f2)), (q3, .inl (cI, 201, .inl f3)), (q4, .inl (cI, 201, .inl f4))] (fun (r : Int32) (w : va_W) => ∃ (fs1 : List Value) (g1 : Nat → Int32) (g2 : Nat → Int32) (g3 : Nat → Int32) (g4 : Nat → Int32), w = [(h0, .inr (7, fs1)), (q1, .inl (cI, 201, .inl g1)), (q2, .inl (cI, 1005, .inl g2)), (q3, .inl (cI, 201, .inl g3)), (q4, .inl (cI, 201, .inl g4))] ∧ fs1.length = 8 ∧ r = 1) := by
  refine ent_i (by decide) (Nat.le_of_ble_eq_true rfl) ?_
  intro p e s m below meth c A hx hb hml hown hts hr hlk hnm hK hE hA hP hD hS ls hl
  have hown : s.vm.findClass RX7 = some m.cls := hown
  have hl : lv_has ls 9 [(0, .ref h0), (1, .int p0), (2, .int p1), (3, .int p2), (4, .int p3), (5, .int p4), (6, .int 0)] := hl
  refine lv_aload_n hx hb dX7_addReport_0 rfl (lv_at hl 0 rfl) ?_
  refine lv_iconst (v := 1) hx hb dX7_addReport_1 (by decide) ?_
  refine lv_iload_n hx hb dX7_addReport_2 rfl (lv_at hl 1 rfl) ?_
  refine lv_iload_n hx hb dX7_addReport_3 rfl (lv_at hl 2 rfl) ?_
  refine lv_iload_n hx hb dX7_addReport_4 rfl (lv_at hl 3 rfl) ?_
  refine cl_i (wr := []) (rn_V (As := [.int 1, .int p0, .int p1, .int p2]) (rest := []) hx hb hml hown hts (c_X7_add l D cI cJ cZ h0 q1 q2 q3 q4 fs0 f1 f2 f3 f4 1 p0 p1 p2 hl_fs0 hf_fs0_0 hf_fs0_1 hf_fs0_2 hf_fs0_3 hf_fs0_5 hf_fs0_6 _) ⟨rfl, rfl⟩ sv_X7_38 ⟨(Nat.le_of_ble_eq_true rfl), (Nat.le_of_ble_eq_true rfl)⟩ ⟨(Nat.le_of_ble_eq_true rfl), (Nat.le_of_ble_eq_true rfl)⟩ (fun _ _ _ _ h => h) (fun _ _ _ => trivial) hK hP hD [0, 1, 2, 3, 4] rfl rfl 0 7 rfl rfl rfl rfl hl.1 rfl (Nat.le_of_ble_eq_true rfl) dX7_addReport_5) hP hD hS hA [0, 1, 2, 3, 4] [] rfl rfl rfl (by decide) (fun r_3 w_2 H locs hw_1 hP hD hS => ?_)
  obtain ⟨fs1_4, g1_5, g2_6, g3_7, g4_8, rfl, h_9, h_10, h_11, h_12, h_13, h_14, h_15, hr_16⟩ := hw_1
  have hP : va_P D vwCl [(h0, .inr (7, fs1_4)), (q1, .inl (cI, 201, .inl g1_5)), (q2, .inl (cI, 1005, .inl g2_6)), (q3, .inl (cI, 201, .inl g3_7)), (q4, .inl (cI, 201, .inl g4_8))] H := hP
  have hD : va_D A [(h0, .inr (7, fs1_4)), (q1, .inl (cI, 201, .inl g1_5)), (q2, .inl (cI, 1005, .inl g2_6)), (q3, .inl (cI, 201, .inl g3_7)), (q4, .inl (cI, 201, .inl g4_8))] := hD
  refine tov (v := 1) hr_16 ?_
  refine lv_istore (lv' := [(7, .int 1), (0, .ref h0), (1, .int p0), (2, .int p1), (3, .int p2), (4, .int p3), (5, .int p4), (6, .int 0)]) hx hb dX7_addReport_8 hl (by decide) rfl (fun ls hl => ?_)
  refine lv_aload_n hx hb dX7_addReport_10 rfl (lv_at hl 1 rfl) ?_
  refine gt_X7 hx hb hts hown hK hP 0 rfl 3 (by decide) wd_258 rfl h_13 dX7_addReport_11 ?_
  refine lv_iload hx hb dX7_addReport_14 (lv_at hl 0 rfl) ?_
  refine lv_iconst (v := 5) hx hb dX7_addReport_16 (by decide) ?_
  refine lv_imul hx hb dX7_addReport_17 ?_
  refine tov (v := 5) (by decide) ?_
  refine lv_iconst (v := 3) hx hb dX7_addReport_18 (by decide) ?_
  refine lv_iadd hx hb dX7_addReport_19 ?_
  refine tov (v := 8) (by decide) ?_
  refine lv_iload hx hb dX7_addReport_20 (lv_at hl 5 rfl) ?_
  refine va_iast hx hb hK hP hD hS 2 0 rfl rfl (vp_in_c (by decide)) dX7_addReport_22 (fun H locs hP hD hS => ?_)
  obtain ⟨f_17, ef_17⟩ : ∃ z, z = upd g2_6 (8 : Int32).toNatClampNeg p3 := ⟨_, rfl⟩
  rw [← ef_17] at hP hD
  have hP : va_P D vwCl [(h0, .inr (7, fs1_4)), (q1, .inl (cI, 201, .inl g1_5)), (q2, .inl (cI, 1005, .inl f_17)), (q3, .inl (cI, 201, .inl g3_7)), (q4, .inl (cI, 201, .inl g4_8))] H := hP
  have hD : va_D A [(h0, .inr (7, fs1_4)), (q1, .inl (cI, 201, .inl g1_5)), (q2, .inl (cI, 1005, .inl f_17)), (q3, .inl (cI, 201, .inl g3_7)), (q4, .inl (cI, 201, .inl g4_8))] := hD
  refine lv_aload_n hx hb dX7_addReport_23 rfl (lv_at hl 1 rfl) ?_
  refine gt_X7 hx hb hts hown hK hP 0 rfl 3 (by decide) wd_258 rfl h_13 dX7_addReport_24 ?_
  refine lv_iload hx hb dX7_addReport_27 (lv_at hl 0 rfl) ?_
  refine lv_iconst (v := 5) hx hb dX7_addReport_29 (by decide) ?_
  refine lv_imul hx hb dX7_addReport_30 ?_
  refine tov (v := 5) (by decide) ?_
  refine lv_iconst (v := 4) hx hb dX7_addReport_31 (by decide) ?_
  refine lv_iadd hx hb dX7_addReport_32 ?_
  refine tov (v := 9) (by decide) ?_
  refine lv_iload hx hb dX7_addReport_33 (lv_at hl 6 rfl) ?_
  refine va_iast hx hb hK hP hD hS 2 0 rfl rfl (vp_in_c (by decide)) dX7_addReport_35 (fun H locs hP hD hS => ?_)
  obtain ⟨f_18, ef_18⟩ : ∃ z, z = upd f_17 (9 : Int32).toNatClampNeg p4 := ⟨_, rfl⟩
  rw [← ef_18] at hP hD
  have hP : va_P D vwCl [(h0, .inr (7, fs1_4)), (q1, .inl (cI, 201, .inl g1_5)), (q2, .inl (cI, 1005, .inl f_18)), (q3, .inl (cI, 201, .inl g3_7)), (q4, .inl (cI, 201, .inl g4_8))] H := hP
  have hD : va_D A [(h0, .inr (7, fs1_4)), (q1, .inl (cI, 201, .inl g1_5)), (q2, .inl (cI, 1005, .inl f_18)), (q3, .inl (cI, 201, .inl g3_7)), (q4, .inl (cI, 201, .inl g4_8))] := hD
  refine lv_aload_n hx hb dX7_addReport_36 rfl (lv_at hl 1 rfl) ?_
  refine gt_X7 hx hb hts hown hK hP 0 rfl 5 (by decide) wd_261 rfl h_14 dX7_addReport_37 ?_
  refine lv_iload hx hb dX7_addReport_40 (lv_at hl 0 rfl) ?_
  refine lv_iload hx hb dX7_addReport_42 (lv_at hl 7 rfl) ?_
  refine va_iast hx hb hK hP hD hS 3 0 rfl rfl (vp_in_c (by decide)) dX7_addReport_44 (fun H locs hP hD hS => ?_)
  obtain ⟨f_19, ef_19⟩ : ∃ z, z = upd g3_7 (1 : Int32).toNatClampNeg 0 := ⟨_, rfl⟩
  rw [← ef_19] at hP hD
  have hP : va_P D vwCl [(h0, .inr (7, fs1_4)), (q1, .inl (cI, 201, .inl g1_5)), (q2, .inl (cI, 1005, .inl f_18)), (q3, .inl (cI, 201, .inl f_19)), (q4, .inl (cI, 201, .inl g4_8))] H := hP
  have hD : va_D A [(h0, .inr (7, fs1_4)), (q1, .inl (cI, 201, .inl g1_5)), (q2, .inl (cI, 1005, .inl f_18)), (q3, .inl (cI, 201, .inl f_19)), (q4, .inl (cI, 201, .inl g4_8))] := hD
  refine lv_iconst (v := 0) hx hb dX7_addReport_45 (by decide) ?_
  refine lv_istore (lv' := [(8, .int 0), (7, .int 1), (0, .ref h0), (1, .int p0), (2, .int p1), (3, .int p2), (4, .int p3), (5, .int p4), (6, .int 0)]) hx hb dX7_addReport_46 hl (by decide) rfl (fun ls hl => ?_)
  refine lv_iload hx hb dX7_addReport_48 (lv_at hl 0 rfl) ?_
  refine lv_iload hx hb dX7_addReport_50 (lv_at hl 8 rfl) ?_
  refine lv_icmp_ge (tgt := 86) hx hb dX7_addReport_52 (by decide) (fun _ => ?_) (fun h => (h (by decide)).elim)
  refine lv_aload_n hx hb dX7_addReport_86 rfl (lv_at hl 2 rfl) ?_
  refine lv_dup hx hb dX7_addReport_87 rfl ?_
  refine gt_X7 hx hb hts hown hK hP 0 rfl 1 (by decide) wd_253 rfl h_11 dX7_addReport_88 ?_
  refine lv_iconst (v := 1) hx hb dX7_addReport_91 (by decide) ?_
  refine lv_iadd hx hb dX7_addReport_92 ?_
  refine tov (v := 1) (by decide) ?_
  refine pt_X7 hx hb hts hown hK hP hD hS 0 rfl 1 (by decide) wd_253 rfl rfl (ty := .int) (v := .int 1) (by decide +kernel) rfl rfl (ln_lt h_9 (by decide)) dX7_addReport_93 (fun H locs hP hD hS => ?_)
  have hP : va_P D vwCl [(h0, .inr (7, (fs1_4.set 1 (.int 1)))), (q1, .inl (cI, 201, .inl g1_5)), (q2, .inl (cI, 1005, .inl f_18)), (q3, .inl (cI, 201, .inl f_19)), (q4, .inl (cI, 201, .inl g4_8))] H := hP
  have hD : va_D A [(h0, .inr (7, (fs1_4.set 1 (.int 1)))), (q1, .inl (cI, 201, .inl g1_5)), (q2, .inl (cI, 1005, .inl f_18)), (q3, .inl (cI, 201, .inl f_19)), (q4, .inl (cI, 201, .inl g4_8))] := hD
  refine lv_iload hx hb dX7_addReport_96 (lv_at hl 1 rfl) ?_
  exact fin_i hx hb hr hlk hK hP hD hS dX7_addReport_98 (⟨(fs1_4.set 1 (.int 1)), g1_5, f_18, f_19, g4_8, rfl, (ln_set h_9), rfl⟩)
set_option maxRecDepth 100000 in
set_option maxHeartbeats 4000000 in
theorem c_X11_report (l : Launch) (D : va_G) (cI cJ cZ : ClassId) (h0 q8 q9 q1 q2 q3 q4 q7 : Nat) (fs0 fs8 fs9 : List Value) (f1 : Nat → Int32) (f2 : Nat → Int32) (f3 : Nat → Int32) (f4 : Nat → Int32) (p0 : Int32) (p1 : Int32) (p2 : Int32) (p3 : Int32) (p4 : Int32) (hl_fs0 : fs0.length = 14) (hf_fs0_2 : fs0[2]? = some (.ref q8)) (hf_fs0_4 : fs0[4]? = some (.ref q9)) (hl_fs8 : fs8.length = 8) (hf_fs8_1 : fs8[1]? = some (.int 0)) (hl_fs9 : fs9.length = 8) (hf_fs9_0 : fs9[0]? = some (.int 0)) (hf_fs9_1 : fs9[1]? = some (.int 0)) (hf_fs9_7 : fs9[7]? = some (.ref q7)) (hf_fs9_2 : fs9[2]? = some (.ref q1)) (hf_fs9_3 : fs9[3]? = some (.ref q2)) (hf_fs9_5 : fs9[5]? = some (.ref q3)) (hf_fs9_6 : fs9[6]? = some (.ref q4)) : Con_i l yX11_report cX11_report 8 (some .int) ({ frames := 4, cells := 0, slots := 0, locals := 87 }) D cI cJ cZ eT [.ref h0, .int p0, .int p1, .int p2, .int p3, .int p4] [(h0, .inr (11, fs0)), (q8, .inr (10, fs8)), (q9, .inr (7, fs9)), (q1, .inl (cI, 201, .inl f1)), (q2, .inl (cI, 1005, .inl f2)), (q3, .inl (cI, 201, .inl f3)), (q4, .inl (cI, 201, .inl f4))] (fun r _ => r = (sp_rep p0 p1 p2 p3 p4)) := by
  refine ent_i (by decide) (Nat.le_of_ble_eq_true rfl) ?_
  intro p e s m below meth c A hx hb hml hown hts hr hlk hnm hK hE hA hP hD hS ls hl
  have hown : s.vm.findClass RX11 = some m.cls := hown
  have hl : lv_has ls 8 [(0, .ref h0), (1, .int p0), (2, .int p1), (3, .int p2), (4, .int p3), (5, .int p4)] := hl
  refine lv_aload_n hx hb dX11_report_0 rfl (lv_at hl 0 rfl) ?_
  refine gt_X11 hx hb hts hown hK hP 0 rfl 2 (by decide) wd_675 rfl hf_fs0_2 dX11_report_1 ?_
  refine lv_aload_n hx hb dX11_report_4 rfl (lv_at hl 0 rfl) ?_
  refine gt_X11 hx hb hts hown hK hP 0 rfl 4 (by decide) wd_677 rfl hf_fs0_4 dX11_report_5 ?_
  refine gt_X7 hx hb hts hown hK hP 2 rfl 7 (by decide) wd_266 rfl hf_fs9_7 dX11_report_8 ?_
  refine cl_i (wr := [(h0, .inr (11, fs0)), (q9, .inr (7, fs9)), (q1, .inl (cI, 201, .inl f1)), (q2, .inl (cI, 1005, .inl f2)), (q3, .inl (cI, 201, .inl f3)), (q4, .inl (cI, 201, .inl f4))]) (rn_V (As := [.ref q7]) (rest := []) hx hb hml hown hts (c_X10_readWishes l D cI cJ cZ q8 q7 fs8 hl_fs8 hf_fs8_1 _) ⟨rfl, rfl⟩ sv_X11_164 ⟨(Nat.le_of_ble_eq_true rfl), (Nat.le_of_ble_eq_true rfl)⟩ ⟨(Nat.le_of_ble_eq_true rfl), (Nat.le_of_ble_eq_true rfl)⟩ (fun _ _ _ _ h => h) (fun _ _ _ => trivial) hK hP hD [1] rfl rfl 0 10 rfl rfl rfl rfl hl.1 rfl (Nat.le_of_ble_eq_true rfl) dX11_report_11) hP hD hS hA [1] [0, 2, 3, 4, 5, 6] rfl rfl rfl (by decide) (fun r_3 w_2 H locs hw_1 hP hD hS => ?_)
  obtain ⟨fs1_4, rfl, h_5, h_6, hr_7⟩ := hw_1
  have hP : va_P D vwCl [(h0, .inr (11, fs0)), (q9, .inr (7, fs9)), (q1, .inl (cI, 201, .inl f1)), (q2, .inl (cI, 1005, .inl f2)), (q3, .inl (cI, 201, .inl f3)), (q4, .inl (cI, 201, .inl f4)), (q8, .inr (10, fs1_4))] H := hP
  have hD : va_D A [(h0, .inr (11, fs0)), (q9, .inr (7, fs9)), (q1, .inl (cI, 201, .inl f1)), (q2, .inl (cI, 1005, .inl f2)), (q3, .inl (cI, 201, .inl f3)), (q4, .inl (cI, 201, .inl f4)), (q8, .inr (10, fs1_4))] := hD
  refine tov (v := 0) hr_7 ?_
  refine lv_istore (lv' := [(6, .int 0), (0, .ref h0), (1, .int p0), (2, .int p1), (3, .int p2), (4, .int p3), (5, .int p4)]) hx hb dX11_report_14 hl (by decide) rfl (fun ls hl => ?_)
  refine lv_aload_n hx hb dX11_report_16 rfl (lv_at hl 1 rfl) ?_
  refine gt_X11 hx hb hts hown hK hP 0 rfl 2 (by decide) wd_675 rfl hf_fs0_2 dX11_report_17 ?_
  refine lv_iconst (v := 0) hx hb dX11_report_20 (by decide) ?_
  refine pt_X10 hx hb hts hown hK hP hD hS 6 rfl 1 (by decide) wd_191 rfl rfl (ty := .int) (v := .int 0) (by decide +kernel) rfl rfl (ln_lt h_5 (by decide)) dX11_report_21 (fun H locs hP hD hS => ?_)
  have hP : va_P D vwCl [(h0, .inr (11, fs0)), (q9, .inr (7, fs9)), (q1, .inl (cI, 201, .inl f1)), (q2, .inl (cI, 1005, .inl f2)), (q3, .inl (cI, 201, .inl f3)), (q4, .inl (cI, 201, .inl f4)), (q8, .inr (10, (fs1_4.set 1 (.int 0))))] H := hP
  have hD : va_D A [(h0, .inr (11, fs0)), (q9, .inr (7, fs9)), (q1, .inl (cI, 201, .inl f1)), (q2, .inl (cI, 1005, .inl f2)), (q3, .inl (cI, 201, .inl f3)), (q4, .inl (cI, 201, .inl f4)), (q8, .inr (10, (fs1_4.set 1 (.int 0))))] := hD
  refine lv_iload hx hb dX11_report_24 (lv_at hl 0 rfl) ?_
  refine lv_iconst (v := (-1)) hx hb dX11_report_26 (by decide) ?_
  refine lv_icmp_eq (tgt := 85) hx hb dX11_report_27 (by decide) (fun h => absurd h (by decide)) (fun _ => ?_)
  refine lv_iload_n hx hb dX11_report_30 rfl (lv_at hl 2 rfl) ?_
  refine lv_iconst (v := 0) hx hb dX11_report_31 (by decide) ?_
  refine lv_sipush (v := 9999) hx hb dX11_report_32 (by decide) ?_
  refine cl_i (wr := [(h0, .inr (11, fs0)), (q9, .inr (7, fs9)), (q1, .inl (cI, 201, .inl f1)), (q2, .inl (cI, 1005, .inl f2)), (q3, .inl (cI, 201, .inl f3)), (q4, .inl (cI, 201, .inl f4)), (q8, .inr (10, (fs1_4.set 1 (.int 0))))]) (rn_S (As := [.int p0, .int 0, .int 9999]) (rest := []) hx hb hml hown hts (c_X11_within l D cI cJ cZ p0 0 9999 _) ⟨rfl, rfl⟩ sv_X11_168 ⟨(Nat.le_of_ble_eq_true rfl), (Nat.le_of_ble_eq_true rfl)⟩ ⟨(Nat.le_of_ble_eq_true rfl), (Nat.le_of_ble_eq_true rfl)⟩ (fun _ _ _ _ h => h) (fun _ _ _ => trivial) hK hP hD [] rfl rfl rfl hl.1 rfl (Nat.le_of_ble_eq_true rfl) dX11_report_35) hP hD hS hA [] [0, 1, 2, 3, 4, 5, 6] rfl rfl rfl (by decide) (fun r_10 w_9 H locs hw_8 hP hD hS => ?_)
  obtain ⟨rfl, hr_11⟩ := hw_8
  have hP : va_P D vwCl [(h0, .inr (11, fs0)), (q9, .inr (7, fs9)), (q1, .inl (cI, 201, .inl f1)), (q2, .inl (cI, 1005, .inl f2)), (q3, .inl (cI, 201, .inl f3)), (q4, .inl (cI, 201, .inl f4)), (q8, .inr (10, (fs1_4.set 1 (.int 0))))] H := hP
  have hD : va_D A [(h0, .inr (11, fs0)), (q9, .inr (7, fs9)), (q1, .inl (cI, 201, .inl f1)), (q2, .inl (cI, 1005, .inl f2)), (q3, .inl (cI, 201, .inl f3)), (q4, .inl (cI, 201, .inl f4)), (q8, .inr (10, (fs1_4.set 1 (.int 0))))] := hD
  refine tov (v := (wi_ p0 0 9999)) hr_11 ?_
  refine lv_if_eq (tgt := 85) hx hb dX11_report_38 (by decide) (fun c_12 => ?_) (fun c_12 => ?_)
  · refine lv_iconst (v := 0) hx hb dX11_report_85 (by decide) ?_
    refine lv_istore (lv' := [(7, .int 0), (6, .int 0), (0, .ref h0), (1, .int p0), (2, .int p1), (3, .int p2), (4, .int p3), (5, .int p4)]) hx hb dX11_report_86 hl (by decide) rfl (fun ls hl => ?_)
    refine lv_iload hx hb dX11_report_88 (lv_at hl 0 rfl) ?_
    refine lv_if_eq (tgt := 115) hx hb dX11_report_90 (by decide) (fun _ => ?_) (fun h => (h (by decide)).elim)
    refine lv_iconst (v := (-1)) hx hb dX11_report_115 (by decide) ?_
    exact fin_i hx hb hr hlk hK hP hD hS dX11_report_116 ((by unfold sp_rep; rw [if_pos (Or.inl c_12)]))
  · refine lv_iload_n hx hb dX11_report_41 rfl (lv_at hl 3 rfl) ?_
    refine lv_iconst (v := 0) hx hb dX11_report_42 (by decide) ?_
    refine lv_bipush (v := 17) hx hb dX11_report_43 (by decide) ?_
    refine cl_i (wr := [(h0, .inr (11, fs0)), (q9, .inr (7, fs9)), (q1, .inl (cI, 201, .inl f1)), (q2, .inl (cI, 1005, .inl f2)), (q3, .inl (cI, 201, .inl f3)), (q4, .inl (cI, 201, .inl f4)), (q8, .inr (10, (fs1_4.set 1 (.int 0))))]) (rn_S (As := [.int p1, .int 0, .int 17]) (rest := []) hx hb hml hown hts (c_X11_within l D cI cJ cZ p1 0 17 _) ⟨rfl, rfl⟩ sv_X11_168 ⟨(Nat.le_of_ble_eq_true rfl), (Nat.le_of_ble_eq_true rfl)⟩ ⟨(Nat.le_of_ble_eq_true rfl), (Nat.le_of_ble_eq_true rfl)⟩ (fun _ _ _ _ h => h) (fun _ _ _ => trivial) hK hP hD [] rfl rfl rfl hl.1 rfl (Nat.le_of_ble_eq_true rfl) dX11_report_45) hP hD hS hA [] [0, 1, 2, 3, 4, 5, 6] rfl rfl rfl (by decide) (fun r_15 w_14 H locs hw_13 hP hD hS => ?_)
    obtain ⟨rfl, hr_16⟩ := hw_13
    have hP : va_P D vwCl [(h0, .inr (11, fs0)), (q9, .inr (7, fs9)), (q1, .inl (cI, 201, .inl f1)), (q2, .inl (cI, 1005, .inl f2)), (q3, .inl (cI, 201, .inl f3)), (q4, .inl (cI, 201, .inl f4)), (q8, .inr (10, (fs1_4.set 1 (.int 0))))] H := hP
    have hD : va_D A [(h0, .inr (11, fs0)), (q9, .inr (7, fs9)), (q1, .inl (cI, 201, .inl f1)), (q2, .inl (cI, 1005, .inl f2)), (q3, .inl (cI, 201, .inl f3)), (q4, .inl (cI, 201, .inl f4)), (q8, .inr (10, (fs1_4.set 1 (.int 0))))] := hD
    refine tov (v := (wi_ p1 0 17)) hr_16 ?_
    refine lv_if_eq (tgt := 85) hx hb dX11_report_48 (by decide) (fun c_17 => ?_) (fun c_17 => ?_)
    · refine lv_iconst (v := 0) hx hb dX11_report_85 (by decide) ?_
      refine lv_istore (lv' := [(7, .int 0), (6, .int 0), (0, .ref h0), (1, .int p0), (2, .int p1), (3, .int p2), (4, .int p3), (5, .int p4)]) hx hb dX11_report_86 hl (by decide) rfl (fun ls hl => ?_)
      refine lv_iload hx hb dX11_report_88 (lv_at hl 0 rfl) ?_
      refine lv_if_eq (tgt := 115) hx hb dX11_report_90 (by decide) (fun _ => ?_) (fun h => (h (by decide)).elim)
      refine lv_iconst (v := (-1)) hx hb dX11_report_115 (by decide) ?_
      exact fin_i hx hb hr hlk hK hP hD hS dX11_report_116 ((by unfold sp_rep; rw [if_pos (Or.inr (Or.inl c_17))]))
    · refine lv_iload_n hx hb dX11_report_51 rfl (lv_at hl 4 rfl) ?_
      refine lv_iconst (v := 0) hx hb dX11_report_52 (by decide) ?_
      refine lv_bipush (v := 99) hx hb dX11_report_53 (by decide) ?_
      refine cl_i (wr := [(h0, .inr (11, fs0)), (q9, .inr (7, fs9)), (q1, .inl (cI, 201, .inl f1)), (q2, .inl (cI, 1005, .inl f2)), (q3, .inl (cI, 201, .inl f3)), (q4, .inl (cI, 201, .inl f4)), (q8, .inr (10, (fs1_4.set 1 (.int 0))))]) (rn_S (As := [.int p2, .int 0, .int 99]) (rest := []) hx hb hml hown hts (c_X11_within l D cI cJ cZ p2 0 99 _) ⟨rfl, rfl⟩ sv_X11_168 ⟨(Nat.le_of_ble_eq_true rfl), (Nat.le_of_ble_eq_true rfl)⟩ ⟨(Nat.le_of_ble_eq_true rfl), (Nat.le_of_ble_eq_true rfl)⟩ (fun _ _ _ _ h => h) (fun _ _ _ => trivial) hK hP hD [] rfl rfl rfl hl.1 rfl (Nat.le_of_ble_eq_true rfl) dX11_report_55) hP hD hS hA [] [0, 1, 2, 3, 4, 5, 6] rfl rfl rfl (by decide) (fun r_20 w_19 H locs hw_18 hP hD hS => ?_)
      obtain ⟨rfl, hr_21⟩ := hw_18
      have hP : va_P D vwCl [(h0, .inr (11, fs0)), (q9, .inr (7, fs9)), (q1, .inl (cI, 201, .inl f1)), (q2, .inl (cI, 1005, .inl f2)), (q3, .inl (cI, 201, .inl f3)), (q4, .inl (cI, 201, .inl f4)), (q8, .inr (10, (fs1_4.set 1 (.int 0))))] H := hP
      have hD : va_D A [(h0, .inr (11, fs0)), (q9, .inr (7, fs9)), (q1, .inl (cI, 201, .inl f1)), (q2, .inl (cI, 1005, .inl f2)), (q3, .inl (cI, 201, .inl f3)), (q4, .inl (cI, 201, .inl f4)), (q8, .inr (10, (fs1_4.set 1 (.int 0))))] := hD
      refine tov (v := (wi_ p2 0 99)) hr_21 ?_
      refine lv_if_eq (tgt := 85) hx hb dX11_report_58 (by decide) (fun c_22 => ?_) (fun c_22 => ?_)
      · refine lv_iconst (v := 0) hx hb dX11_report_85 (by decide) ?_
        refine lv_istore (lv' := [(7, .int 0), (6, .int 0), (0, .ref h0), (1, .int p0), (2, .int p1), (3, .int p2), (4, .int p3), (5, .int p4)]) hx hb dX11_report_86 hl (by decide) rfl (fun ls hl => ?_)
        refine lv_iload hx hb dX11_report_88 (lv_at hl 0 rfl) ?_
        refine lv_if_eq (tgt := 115) hx hb dX11_report_90 (by decide) (fun _ => ?_) (fun h => (h (by decide)).elim)
        refine lv_iconst (v := (-1)) hx hb dX11_report_115 (by decide) ?_
        exact fin_i hx hb hr hlk hK hP hD hS dX11_report_116 ((by unfold sp_rep; rw [if_pos (Or.inr (Or.inr (Or.inl c_22)))]))
      · refine lv_iload hx hb dX11_report_61 (lv_at hl 5 rfl) ?_
        refine lv_iconst (v := 0) hx hb dX11_report_63 (by decide) ?_
        refine lv_sipush (v := 999) hx hb dX11_report_64 (by decide) ?_
        refine cl_i (wr := [(h0, .inr (11, fs0)), (q9, .inr (7, fs9)), (q1, .inl (cI, 201, .inl f1)), (q2, .inl (cI, 1005, .inl f2)), (q3, .inl (cI, 201, .inl f3)), (q4, .inl (cI, 201, .inl f4)), (q8, .inr (10, (fs1_4.set 1 (.int 0))))]) (rn_S (As := [.int p3, .int 0, .int 999]) (rest := []) hx hb hml hown hts (c_X11_within l D cI cJ cZ p3 0 999 _) ⟨rfl, rfl⟩ sv_X11_168 ⟨(Nat.le_of_ble_eq_true rfl), (Nat.le_of_ble_eq_true rfl)⟩ ⟨(Nat.le_of_ble_eq_true rfl), (Nat.le_of_ble_eq_true rfl)⟩ (fun _ _ _ _ h => h) (fun _ _ _ => trivial) hK hP hD [] rfl rfl rfl hl.1 rfl (Nat.le_of_ble_eq_true rfl) dX11_report_67) hP hD hS hA [] [0, 1, 2, 3, 4, 5, 6] rfl rfl rfl (by decide) (fun r_25 w_24 H locs hw_23 hP hD hS => ?_)
        obtain ⟨rfl, hr_26⟩ := hw_23
        have hP : va_P D vwCl [(h0, .inr (11, fs0)), (q9, .inr (7, fs9)), (q1, .inl (cI, 201, .inl f1)), (q2, .inl (cI, 1005, .inl f2)), (q3, .inl (cI, 201, .inl f3)), (q4, .inl (cI, 201, .inl f4)), (q8, .inr (10, (fs1_4.set 1 (.int 0))))] H := hP
        have hD : va_D A [(h0, .inr (11, fs0)), (q9, .inr (7, fs9)), (q1, .inl (cI, 201, .inl f1)), (q2, .inl (cI, 1005, .inl f2)), (q3, .inl (cI, 201, .inl f3)), (q4, .inl (cI, 201, .inl f4)), (q8, .inr (10, (fs1_4.set 1 (.int 0))))] := hD
        refine tov (v := (wi_ p3 0 999)) hr_26 ?_
        refine lv_if_eq (tgt := 85) hx hb dX11_report_70 (by decide) (fun c_27 => ?_) (fun c_27 => ?_)
        · refine lv_iconst (v := 0) hx hb dX11_report_85 (by decide) ?_
          refine lv_istore (lv' := [(7, .int 0), (6, .int 0), (0, .ref h0), (1, .int p0), (2, .int p1), (3, .int p2), (4, .int p3), (5, .int p4)]) hx hb dX11_report_86 hl (by decide) rfl (fun ls hl => ?_)
          refine lv_iload hx hb dX11_report_88 (lv_at hl 0 rfl) ?_
          refine lv_if_eq (tgt := 115) hx hb dX11_report_90 (by decide) (fun _ => ?_) (fun h => (h (by decide)).elim)
          refine lv_iconst (v := (-1)) hx hb dX11_report_115 (by decide) ?_
          exact fin_i hx hb hr hlk hK hP hD hS dX11_report_116 ((by unfold sp_rep; rw [if_pos (Or.inr (Or.inr (Or.inr (Or.inl c_27))))]))
        · refine lv_iload hx hb dX11_report_73 (lv_at hl 6 rfl) ?_
          refine cl_i (wr := [(h0, .inr (11, fs0)), (q9, .inr (7, fs9)), (q1, .inl (cI, 201, .inl f1)), (q2, .inl (cI, 1005, .inl f2)), (q3, .inl (cI, 201, .inl f3)), (q4, .inl (cI, 201, .inl f4)), (q8, .inr (10, (fs1_4.set 1 (.int 0))))]) (rn_S (As := [.int p4]) (rest := []) hx hb hml hown hts (c_X11_isDay l D cI cJ cZ p4 _) ⟨rfl, rfl⟩ sv_X11_172 ⟨(Nat.le_of_ble_eq_true rfl), (Nat.le_of_ble_eq_true rfl)⟩ ⟨(Nat.le_of_ble_eq_true rfl), (Nat.le_of_ble_eq_true rfl)⟩ (fun _ _ _ _ h => h) (fun _ _ _ => trivial) hK hP hD [] rfl rfl rfl hl.1 rfl (Nat.le_of_ble_eq_true rfl) dX11_report_75) hP hD hS hA [] [0, 1, 2, 3, 4, 5, 6] rfl rfl rfl (by decide) (fun r_30 w_29 H locs hw_28 hP hD hS => ?_)
          obtain ⟨rfl, hr_31⟩ := hw_28
          have hP : va_P D vwCl [(h0, .inr (11, fs0)), (q9, .inr (7, fs9)), (q1, .inl (cI, 201, .inl f1)), (q2, .inl (cI, 1005, .inl f2)), (q3, .inl (cI, 201, .inl f3)), (q4, .inl (cI, 201, .inl f4)), (q8, .inr (10, (fs1_4.set 1 (.int 0))))] H := hP
          have hD : va_D A [(h0, .inr (11, fs0)), (q9, .inr (7, fs9)), (q1, .inl (cI, 201, .inl f1)), (q2, .inl (cI, 1005, .inl f2)), (q3, .inl (cI, 201, .inl f3)), (q4, .inl (cI, 201, .inl f4)), (q8, .inr (10, (fs1_4.set 1 (.int 0))))] := hD
          refine tov (v := (wi_ p4 1 24)) hr_31 ?_
          refine lv_if_eq (tgt := 85) hx hb dX11_report_78 (by decide) (fun c_32 => ?_) (fun c_32 => ?_)
          · refine lv_iconst (v := 0) hx hb dX11_report_85 (by decide) ?_
            refine lv_istore (lv' := [(7, .int 0), (6, .int 0), (0, .ref h0), (1, .int p0), (2, .int p1), (3, .int p2), (4, .int p3), (5, .int p4)]) hx hb dX11_report_86 hl (by decide) rfl (fun ls hl => ?_)
            refine lv_iload hx hb dX11_report_88 (lv_at hl 0 rfl) ?_
            refine lv_if_eq (tgt := 115) hx hb dX11_report_90 (by decide) (fun _ => ?_) (fun h => (h (by decide)).elim)
            refine lv_iconst (v := (-1)) hx hb dX11_report_115 (by decide) ?_
            exact fin_i hx hb hr hlk hK hP hD hS dX11_report_116 ((by unfold sp_rep; rw [if_pos (Or.inr (Or.inr (Or.inr (Or.inr (c_32)))))]))
          · refine lv_iconst (v := 1) hx hb dX11_report_81 (by decide) ?_
            refine lv_goto (tgt := 86) hx hb dX11_report_82 (by decide) ?_
            refine lv_istore (lv' := [(7, .int 1), (6, .int 0), (0, .ref h0), (1, .int p0), (2, .int p1), (3, .int p2), (4, .int p3), (5, .int p4)]) hx hb dX11_report_86 hl (by decide) rfl (fun ls hl => ?_)
            refine lv_iload hx hb dX11_report_88 (lv_at hl 0 rfl) ?_
            refine lv_if_eq (tgt := 115) hx hb dX11_report_90 (by decide) (fun h => absurd h (by decide)) (fun _ => ?_)
            refine lv_aload_n hx hb dX11_report_93 rfl (lv_at hl 2 rfl) ?_
            refine gt_X11 hx hb hts hown hK hP 0 rfl 4 (by decide) wd_677 rfl hf_fs0_4 dX11_report_94 ?_
            refine gt_X7 hx hb hts hown hK hP 1 rfl 1 (by decide) wd_254 rfl hf_fs9_1 dX11_report_97 ?_
            refine lv_bipush (v := 80) hx hb dX11_report_100 (by decide) ?_
            refine lv_icmp_ge (tgt := 115) hx hb dX11_report_102 (by decide) (fun h => absurd h (by decide)) (fun _ => ?_)
            refine lv_aload_n hx hb dX11_report_105 rfl (lv_at hl 2 rfl) ?_
            refine gt_X11 hx hb hts hown hK hP 0 rfl 4 (by decide) wd_677 rfl hf_fs0_4 dX11_report_106 ?_
            refine cl_i (wr := [(h0, .inr (11, fs0)), (q1, .inl (cI, 201, .inl f1)), (q2, .inl (cI, 1005, .inl f2)), (q3, .inl (cI, 201, .inl f3)), (q4, .inl (cI, 201, .inl f4)), (q8, .inr (10, (fs1_4.set 1 (.int 0))))]) (rn_V (As := []) (rest := []) hx hb hml hown hts (c_X7_isFull l D cI cJ cZ q9 fs9 hl_fs9 hf_fs9_0 _) ⟨rfl, rfl⟩ sv_X11_178 ⟨(Nat.le_of_ble_eq_true rfl), (Nat.le_of_ble_eq_true rfl)⟩ ⟨(Nat.le_of_ble_eq_true rfl), (Nat.le_of_ble_eq_true rfl)⟩ (fun _ _ _ _ h => h) (fun _ _ _ => trivial) hK hP hD [1] rfl rfl 0 7 rfl rfl rfl rfl hl.1 rfl (Nat.le_of_ble_eq_true rfl) dX11_report_109) hP hD hS hA [1] [0, 2, 3, 4, 5, 6] rfl rfl rfl (by decide) (fun r_35 w_34 H locs hw_33 hP hD hS => ?_)
            obtain ⟨rfl, hr_36⟩ := hw_33
            have hP : va_P D vwCl [(h0, .inr (11, fs0)), (q1, .inl (cI, 201, .inl f1)), (q2, .inl (cI, 1005, .inl f2)), (q3, .inl (cI, 201, .inl f3)), (q4, .inl (cI, 201, .inl f4)), (q8, .inr (10, (fs1_4.set 1 (.int 0)))), (q9, .inr (7, fs9))] H := hP
            have hD : va_D A [(h0, .inr (11, fs0)), (q1, .inl (cI, 201, .inl f1)), (q2, .inl (cI, 1005, .inl f2)), (q3, .inl (cI, 201, .inl f3)), (q4, .inl (cI, 201, .inl f4)), (q8, .inr (10, (fs1_4.set 1 (.int 0)))), (q9, .inr (7, fs9))] := hD
            refine tov (v := 0) hr_36 ?_
            refine lv_if_eq (tgt := 117) hx hb dX11_report_112 (by decide) (fun _ => ?_) (fun h => (h (by decide)).elim)
            refine lv_aload_n hx hb dX11_report_117 rfl (lv_at hl 2 rfl) ?_
            refine gt_X11 hx hb hts hown hK hP 0 rfl 4 (by decide) wd_677 rfl hf_fs0_4 dX11_report_118 ?_
            refine lv_iload_n hx hb dX11_report_121 rfl (lv_at hl 3 rfl) ?_
            refine lv_iload_n hx hb dX11_report_122 rfl (lv_at hl 4 rfl) ?_
            refine lv_iload_n hx hb dX11_report_123 rfl (lv_at hl 5 rfl) ?_
            refine lv_iload hx hb dX11_report_124 (lv_at hl 6 rfl) ?_
            refine lv_iload hx hb dX11_report_126 (lv_at hl 7 rfl) ?_
            refine lv_iload hx hb dX11_report_128 (lv_at hl 1 rfl) ?_
            refine cl_i (wr := [(h0, .inr (11, fs0)), (q8, .inr (10, (fs1_4.set 1 (.int 0))))]) (rn_V (As := [.int p0, .int p1, .int p2, .int p3, .int p4, .int 0]) (rest := []) hx hb hml hown hts (c_X7_addReport l D cI cJ cZ q9 q1 q2 q3 q4 fs9 f1 f2 f3 f4 p0 p1 p2 p3 p4 hl_fs9 hf_fs9_0 hf_fs9_1 hf_fs9_2 hf_fs9_3 hf_fs9_5 hf_fs9_6 _) ⟨rfl, rfl⟩ sv_X11_182 ⟨(Nat.le_of_ble_eq_true rfl), (Nat.le_of_ble_eq_true rfl)⟩ ⟨(Nat.le_of_ble_eq_true rfl), (Nat.le_of_ble_eq_true rfl)⟩ (fun _ _ _ _ h => h) (fun _ _ _ => trivial) hK hP hD [6, 1, 2, 3, 4] rfl rfl 0 7 rfl rfl rfl rfl hl.1 rfl (Nat.le_of_ble_eq_true rfl) dX11_report_130) hP hD hS hA [6, 1, 2, 3, 4] [0, 5] rfl rfl rfl (by decide) (fun r_39 w_38 H locs hw_37 hP hD hS => ?_)
            obtain ⟨fs1_40, g1_41, g2_42, g3_43, g4_44, rfl, h_45, hr_46⟩ := hw_37
            have hP : va_P D vwCl [(h0, .inr (11, fs0)), (q8, .inr (10, (fs1_4.set 1 (.int 0)))), (q9, .inr (7, fs1_40)), (q1, .inl (cI, 201, .inl g1_41)), (q2, .inl (cI, 1005, .inl g2_42)), (q3, .inl (cI, 201, .inl g3_43)), (q4, .inl (cI, 201, .inl g4_44))] H := hP
            have hD : va_D A [(h0, .inr (11, fs0)), (q8, .inr (10, (fs1_4.set 1 (.int 0)))), (q9, .inr (7, fs1_40)), (q1, .inl (cI, 201, .inl g1_41)), (q2, .inl (cI, 1005, .inl g2_42)), (q3, .inl (cI, 201, .inl g3_43)), (q4, .inl (cI, 201, .inl g4_44))] := hD
            refine tov (v := 1) hr_46 ?_
            exact fin_i hx hb hr hlk hK hP hD hS dX11_report_133 ((by unfold sp_rep; rw [if_neg (fun q => q.elim c_12 (fun q => q.elim c_17 (fun q => q.elim c_22 (fun q => q.elim c_27 c_32))))]))
