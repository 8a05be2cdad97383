set_option maxRecDepth 100000 in
set_option maxHeartbeats 4000000 in
theorem c_X6_look (l : Launch) (D : va_G) (cI cJ cZ : ClassId) (h0 q1 q2 q9 : Nat) (fs0 : List Value) (f1 : Nat → Int32) (f2 : Nat → Int32) (hl_fs0 : fs0.length = 16) (hf_fs0_0 : fs0[0]? = some (.int (-1))) (hf_fs0_1 : fs0[1]? = some (.int 0)) (hf_fs0_14 : fs0[14]? = some (.ref q1)) (hf_fs0_15 : fs0[15]? = some (.ref q2)) : Con_v l yX6_look cX6_look 4 none ({ frames := 1, cells := 0, slots := 0, locals := 23 }) D cI cJ cZ eT [.ref h0, .ref q9, .int 0] [(h0, .inr (6, fs0)), (q1, .inl (cI, 250, .inl f1)), (q2, .inl (cI, 10, .inl f2))] (fun w => ∃ (fs1 : List Value) (g1 : Nat → Int32) (g2 : Nat → Int32), w = [(h0, .inr (6, fs1)), (q1, .inl (cI, 250, .inl g1)), (q2, .inl (cI, 10, .inl g2))] ∧ fs1.length = 16 ∧ fs1[2]? = some (.int 0)) := by
  refine ent_v (by decide) (Nat.le_of_ble_eq_true rfl) ?_
  intro p e s m below meth c A hx hb hml hown hts hr hlk hnm hK hE hA hP hD hS ls hl
  have hown : s.vm.findClass RX6 = some m.cls := hown
  have hl : lv_has ls 4 [(0, .ref h0), (1, .ref q9), (2, .int 0)] := hl
  refine lv_aload_n hx hb dX6_look_0 rfl (lv_at hl 0 rfl) ?_
  refine gt_X6 hx hb hts hown hK hP 0 rfl 0 (by decide) wd_290 rfl hf_fs0_0 dX6_look_1 ?_
  refine lv_iload_n hx hb dX6_look_4 rfl (lv_at hl 2 rfl) ?_
  refine lv_icmp_ne (tgt := 9) hx hb dX6_look_5 (by decide) (fun _ => ?_) (fun h => absurd h (by decide))
  refine lv_aload_n hx hb dX6_look_9 rfl (lv_at hl 0 rfl) ?_
  refine lv_iload_n hx hb dX6_look_10 rfl (lv_at hl 2 rfl) ?_
  refine pt_X6 hx hb hts hown hK hP hD hS 0 rfl 0 (by decide) wd_290 rfl rfl (ty := .int) (v := .int 0) (by decide +kernel) rfl rfl (ln_lt hl_fs0 (by decide)) dX6_look_11 (fun H locs hP hD hS => ?_)
  have hP : va_P D vwCl [(h0, .inr (6, (fs0.set 0 (.int 0)))), (q1, .inl (cI, 250, .inl f1)), (q2, .inl (cI, 10, .inl f2))] H := hP
  have hD : va_D A [(h0, .inr (6, (fs0.set 0 (.int 0)))), (q1, .inl (cI, 250, .inl f1)), (q2, .inl (cI, 10, .inl f2))] := hD
  refine lv_aload_n hx hb dX6_look_14 rfl (lv_at hl 0 rfl) ?_
  refine lv_dup hx hb dX6_look_15 rfl ?_
  refine gt_X6 hx hb hts hown hK hP 0 rfl 1 (by decide) wd_292 rfl (gs_ne (by decide) hf_fs0_1) dX6_look_16 ?_
  refine lv_iconst (v := 1) hx hb dX6_look_19 (by decide) ?_
  refine lv_iadd hx hb dX6_look_20 ?_
  refine tov (v := 1) (by decide) ?_
  refine pt_X6 hx hb hts hown hK hP hD hS 0 rfl 1 (by decide) wd_292 rfl rfl (ty := .int) (v := .int 1) (by decide +kernel) rfl rfl (ln_lt (ln_set hl_fs0) (by decide)) dX6_look_21 (fun H locs hP hD hS => ?_)
  have hP : va_P D vwCl [(h0, .inr (6, ((fs0.set 0 (.int 0)).set 1 (.int 1)))), (q1, .inl (cI, 250, .inl f1)), (q2, .inl (cI, 10, .inl f2))] H := hP
  have hD : va_D A [(h0, .inr (6, ((fs0.set 0 (.int 0)).set 1 (.int 1)))), (q1, .inl (cI, 250, .inl f1)), (q2, .inl (cI, 10, .inl f2))] := hD
  refine lv_aload_n hx hb dX6_look_24 rfl (lv_at hl 0 rfl) ?_
  refine lv_iconst (v := 0) hx hb dX6_look_25 (by decide) ?_
  refine pt_X6 hx hb hts hown hK hP hD hS 0 rfl 2 (by decide) wd_295 rfl rfl (ty := .int) (v := .int 0) (by decide +kernel) rfl rfl (ln_lt (ln_set (ln_set hl_fs0)) (by decide)) dX6_look_26 (fun H locs hP hD hS => ?_)
  have hP : va_P D vwCl [(h0, .inr (6, (((fs0.set 0 (.int 0)).set 1 (.int 1)).set 2 (.int 0)))), (q1, .inl (cI, 250, .inl f1)), (q2, .inl (cI, 10, .inl f2))] H := hP
  have hD : va_D A [(h0, .inr (6, (((fs0.set 0 (.int 0)).set 1 (.int 1)).set 2 (.int 0)))), (q1, .inl (cI, 250, .inl f1)), (q2, .inl (cI, 10, .inl f2))] := hD
  refine lv_aload_n hx hb dX6_look_29 rfl (lv_at hl 0 rfl) ?_
  refine gt_X6 hx hb hts hown hK hP 0 rfl 14 (by decide) wd_321 rfl (gs_ne (by decide) (gs_ne (by decide) (gs_ne (by decide) hf_fs0_14))) dX6_look_30 ?_
  refine lv_iconst (v := 0) hx hb dX6_look_33 (by decide) ?_
  refine cl_v (wr := [(h0, .inr (6, (((fs0.set 0 (.int 0)).set 1 (.int 1)).set 2 (.int 0)))), (q2, .inl (cI, 10, .inl f2))]) (rn_S (As := [.ref q1, .int 0]) (rest := []) hx hb hml hown hts (c_fill_250 l D cI cJ cZ q1 f1 0 _) ⟨rfl, rfl⟩ sv_X6_62 ⟨(Nat.le_of_ble_eq_true rfl), (Nat.le_of_ble_eq_true rfl)⟩ ⟨(Nat.le_of_ble_eq_true rfl), (Nat.le_of_ble_eq_true rfl)⟩ (fun _ _ _ _ h => h) (fun _ _ _ => trivial) hK hP hD [1] rfl rfl rfl hl.1 rfl (Nat.le_of_ble_eq_true rfl) dX6_look_34) hP hD hS hA [1] [0, 2] rfl rfl rfl (by decide) (fun w_2 H locs hw_1 hP hD hS => ?_)
  obtain ⟨f2_4, rfl⟩ := hw_1
  have hP : va_P D vwCl [(h0, .inr (6, (((fs0.set 0 (.int 0)).set 1 (.int 1)).set 2 (.int 0)))), (q2, .inl (cI, 10, .inl f2)), (q1, .inl (cI, 250, .inl f2_4))] H := hP
  have hD : va_D A [(h0, .inr (6, (((fs0.set 0 (.int 0)).set 1 (.int 1)).set 2 (.int 0)))), (q2, .inl (cI, 10, .inl f2)), (q1, .inl (cI, 250, .inl f2_4))] := hD
  refine lv_aload_n hx hb dX6_look_37 rfl (lv_at hl 0 rfl) ?_
  refine gt_X6 hx hb hts hown hK hP 0 rfl 15 (by decide) wd_322 rfl (gs_ne (by decide) (gs_ne (by decide) (gs_ne (by decide) hf_fs0_15))) dX6_look_38 ?_
  refine lv_bipush (v := 25) hx hb dX6_look_41 (by decide) ?_
  refine cl_v (wr := [(h0, .inr (6, (((fs0.set 0 (.int 0)).set 1 (.int 1)).set 2 (.int 0)))), (q1, .inl (cI, 250, .inl f2_4))]) (rn_S (As := [.ref q2, .int 25]) (rest := []) hx hb hml hown hts (c_fill_10 l D cI cJ cZ q2 f2 25 _) ⟨rfl, rfl⟩ sv_X6_62 ⟨(Nat.le_of_ble_eq_true rfl), (Nat.le_of_ble_eq_true rfl)⟩ ⟨(Nat.le_of_ble_eq_true rfl), (Nat.le_of_ble_eq_true rfl)⟩ (fun _ _ _ _ h => h) (fun _ _ _ => trivial) hK hP hD [1] rfl rfl rfl hl.1 rfl (Nat.le_of_ble_eq_true rfl) dX6_look_43) hP hD hS hA [1] [0, 2] rfl rfl rfl (by decide) (fun w_6 H locs hw_5 hP hD hS => ?_)
  obtain ⟨f2_8, rfl⟩ := hw_5
  have hP : va_P D vwCl [(h0, .inr (6, (((fs0.set 0 (.int 0)).set 1 (.int 1)).set 2 (.int 0)))), (q1, .inl (cI, 250, .inl f2_4)), (q2, .inl (cI, 10, .inl f2_8))] H := hP
  have hD : va_D A [(h0, .inr (6, (((fs0.set 0 (.int 0)).set 1 (.int 1)).set 2 (.int 0)))), (q1, .inl (cI, 250, .inl f2_4)), (q2, .inl (cI, 10, .inl f2_8))] := hD
  refine lv_iconst (v := 1) hx hb dX6_look_46 (by decide) ?_
  refine lv_istore_n (lv' := [(3, .int 1), (0, .ref h0), (1, .ref q9), (2, .int 0)]) hx hb dX6_look_47 rfl hl (by decide) rfl (fun ls hl => ?_)
  refine lv_iload_n hx hb dX6_look_48 rfl (lv_at hl 0 rfl) ?_
  refine lv_iload_n hx hb dX6_look_49 rfl (lv_at hl 3 rfl) ?_
  refine lv_icmp_gt (tgt := 81) hx hb dX6_look_50 (by decide) (fun _ => ?_) (fun h => (h (by decide)).elim)
  exact fin_v hx hb hr hlk hK hP hD hS dX6_look_81 (⟨(((fs0.set 0 (.int 0)).set 1 (.int 1)).set 2 (.int 0)), f2_4, f2_8, rfl, (ln_set (ln_set (ln_set hl_fs0))), (gs_eq (ln_lt (ln_set (ln_set hl_fs0)) (by decide)))⟩)
set_option maxRecDepth 100000 in
set_option maxHeartbeats 4000000 in
theorem c_X6_doubts (l : Launch) (D : va_G) (cI cJ cZ : ClassId) (h0 : Nat) (fs0 : List Value) (hl_fs0 : fs0.length = 16) (hf_fs0_2 : fs0[2]? = some (.int 0)) : Con_i l yX6_doubts cX6_doubts 4 (some .int) ({ frames := 0, cells := 0, slots := 0, locals := 0 }) D cI cJ cZ eT [.ref h0] [(h0, .inr (6, fs0))] (fun (r : Int32) (w : va_W) => w = [(h0, .inr (6, fs0))] ∧ r = 0) := by
  refine ent_i (by decide) (Nat.le_of_ble_eq_true rfl) ?_
  intro p e s m below meth c A hx hb hml hown hts hr hlk hnm hK hE hA hP hD hS ls hl
  have hown : s.vm.findClass RX6 = some m.cls := hown
  have hl : lv_has ls 4 [(0, .ref h0)] := hl
  refine lv_iconst (v := 0) hx hb dX6_doubts_0 (by decide) ?_
  refine lv_istore_n (lv' := [(1, .int 0), (0, .ref h0)]) hx hb dX6_doubts_1 rfl hl (by decide) rfl (fun ls hl => ?_)
  refine lv_iconst (v := 0) hx hb dX6_doubts_2 (by decide) ?_
  refine lv_istore_n (lv' := [(2, .int 0), (1, .int 0), (0, .ref h0)]) hx hb dX6_doubts_3 rfl hl (by decide) rfl (fun ls hl => ?_)
  refine lv_iload_n hx hb dX6_doubts_4 rfl (lv_at hl 0 rfl) ?_
  refine lv_aload_n hx hb dX6_doubts_5 rfl (lv_at hl 2 rfl) ?_
  refine gt_X6 hx hb hts hown hK hP 0 rfl 2 (by decide) wd_295 rfl hf_fs0_2 dX6_doubts_6 ?_
  refine lv_icmp_ge (tgt := 61) hx hb dX6_doubts_9 (by decide) (fun _ => ?_) (fun h => (h (by decide)).elim)
  refine lv_iload_n hx hb dX6_doubts_61 rfl (lv_at hl 1 rfl) ?_
  exact fin_i hx hb hr hlk hK hP hD hS dX6_doubts_62 (⟨rfl, rfl⟩)
set_option maxRecDepth 100000 in
set_option maxHeartbeats 4000000 in
theorem c_X6_addCome (l : Launch) (D : va_G) (cI cJ cZ : ClassId) (h0 q1 : Nat) (fs0 : List Value) (p0 : Int32) (hl_fs0 : fs0.length = 16) : Con_v l yX6_addCome cX6_addCome 5 none ({ frames := 0, cells := 0, slots := 0, locals := 0 }) D cI cJ cZ eT [.ref h0, .ref q1, .int p0, .int 0] [(h0, .inr (6, fs0))] (fun w => w = [(h0, .inr (6, fs0))]) := by
  refine ent_v (by decide) (Nat.le_of_ble_eq_true rfl) ?_
  intro p e s m below meth c A hx hb hml hown hts hr hlk hnm hK hE hA hP hD hS ls hl
  have hown : s.vm.findClass RX6 = some m.cls := hown
  have hl : lv_has ls 5 [(0, .ref h0), (1, .ref q1), (2, .int p0), (3, .int 0)] := hl
  refine lv_iconst (v := 0) hx hb dX6_addCome_0 (by decide) ?_
  refine lv_istore (lv' := [(4, .int 0), (0, .ref h0), (1, .ref q1), (2, .int p0), (3, .int 0)]) hx hb dX6_addCome_1 hl (by decide) rfl (fun ls hl => ?_)
  refine lv_iload hx hb dX6_addCome_3 (lv_at hl 0 rfl) ?_
  refine lv_iload_n hx hb dX6_addCome_5 rfl (lv_at hl 4 rfl) ?_
  refine lv_icmp_ge (tgt := 34) hx hb dX6_addCome_6 (by decide) (fun _ => ?_) (fun h => (h (by decide)).elim)
  exact fin_v hx hb hr hlk hK hP hD hS dX6_addCome_34 (rfl)
set_option maxRecDepth 100000 in
set_option maxHeartbeats 4000000 in
theorem c_X11_actNow (l : Launch) (D : va_G) (cI cJ cZ : ClassId) (h0 q9 : Nat) (fs0 fs9 : List Value) (hl_fs0 : fs0.length = 14) (hf_fs0_12 : fs0[12]? = some (.int (-1))) (hf_fs0_4 : fs0[4]? = some (.ref q9)) (hl_fs9 : fs9.length = 8) (hf_fs9_0 : fs9[0]? = some (.int 0)) : Con_i l yX11_actNow cX11_actNow 1 (some .int) ({ frames := 0, cells := 0, slots := 0, locals := 0 }) D cI cJ cZ eT [.ref h0] [(h0, .inr (11, fs0)), (q9, .inr (7, fs9))] (fun (r : Int32) (w : va_W) => w = [(h0, .inr (11, fs0)), (q9, .inr (7, fs9))] ∧ r = 0) := by
  refine ent_i (by decide) (Nat.le_of_ble_eq_true rfl) ?_
  intro p e s m below meth c A hx hb hml hown hts hr hlk hnm hK hE hA hP hD hS ls hl
  have hown : s.vm.findClass RX11 = some m.cls := hown
  have hl : lv_has ls 1 [(0, .ref h0)] := hl
  refine lv_aload_n hx hb dX11_actNow_0 rfl (lv_at hl 0 rfl) ?_
  refine gt_X11 hx hb hts hown hK hP 0 rfl 12 (by decide) wd_685 rfl hf_fs0_12 dX11_actNow_1 ?_
  refine lv_iconst (v := (-1)) hx hb dX11_actNow_4 (by decide) ?_
  refine lv_icmp_ne (tgt := 18) hx hb dX11_actNow_5 (by decide) (fun h => (h (by decide)).elim) (fun _ => ?_)
  refine lv_aload_n hx hb dX11_actNow_8 rfl (lv_at hl 0 rfl) ?_
  refine gt_X11 hx hb hts hown hK hP 0 rfl 4 (by decide) wd_677 rfl hf_fs0_4 dX11_actNow_9 ?_
  refine gt_X7 hx hb hts hown hK hP 1 rfl 0 (by decide) wd_252 rfl hf_fs9_0 dX11_actNow_12 ?_
  refine lv_goto (tgt := 22) hx hb dX11_actNow_15 (by decide) ?_
  exact fin_i hx hb hr hlk hK hP hD hS dX11_actNow_22 (⟨rfl, rfl⟩)
set_option maxRecDepth 100000 in
set_option maxHeartbeats 4000000 in
theorem c_X11_look (l : Launch) (D : va_G) (cI cJ cZ : ClassId) (h0 q8 q9 q1 q2 : Nat) (fs0 fs8 fs9 : List Value) (f1 : Nat → Int32) (f2 : Nat → Int32) (hl_fs0 : fs0.length = 14) (hf_fs0_5 : fs0[5]? = some (.ref q8)) (hf_fs0_4 : fs0[4]? = some (.ref q9)) (hf_fs0_12 : fs0[12]? = some (.int (-1))) (hl_fs8 : fs8.length = 16) (hf_fs8_0 : fs8[0]? = some (.int (-1))) (hf_fs8_1 : fs8[1]? = some (.int 0)) (hf_fs8_14 : fs8[14]? = some (.ref q1)) (hf_fs8_15 : fs8[15]? = some (.ref q2)) (hl_fs9 : fs9.length = 8) (hf_fs9_0 : fs9[0]? = some (.int 0)) : Con_v l yX11_look cX11_look 1 none ({ frames := 2, cells := 0, slots := 0, locals := 46 }) D cI cJ cZ eT [.ref h0] [(h0, .inr (11, fs0)), (q8, .inr (6, fs8)), (q9, .inr (7, fs9)), (q1, .inl (cI, 250, .inl f1)), (q2, .inl (cI, 10, .inl f2))] (fun w => ∃ (fs7 : List Value) (g1 : Nat → Int32) (g2 : Nat → Int32), w = [(h0, .inr (11, fs0)), (q8, .inr (6, fs7)), (q9, .inr (7, fs9)), (q1, .inl (cI, 250, .inl g1)), (q2, .inl (cI, 10, .inl g2))] ∧ fs7.length = 16 ∧ fs7[2]? = some (.int 0)) := by
  refine ent_v (by decide) (Nat.le_of_ble_eq_true rfl) ?_
  intro p e s m below meth c A hx hb hml hown hts hr hlk hnm hK hE hA hP hD hS ls hl
  have hown : s.vm.findClass RX11 = some m.cls := hown
  have hl : lv_has ls 1 [(0, .ref h0)] := hl
  refine lv_aload_n hx hb dX11_look_0 rfl (lv_at hl 0 rfl) ?_
  refine gt_X11 hx hb hts hown hK hP 0 rfl 5 (by decide) wd_678 rfl hf_fs0_5 dX11_look_1 ?_
  refine lv_aload_n hx hb dX11_look_4 rfl (lv_at hl 0 rfl) ?_
  refine gt_X11 hx hb hts hown hK hP 0 rfl 4 (by decide) wd_677 rfl hf_fs0_4 dX11_look_5 ?_
  refine lv_aload_n hx hb dX11_look_8 rfl (lv_at hl 0 rfl) ?_
  refine cl_i (wr := [(q8, .inr (6, fs8)), (q1, .inl (cI, 250, .inl f1)), (q2, .inl (cI, 10, .inl f2))]) (rn_V (As := []) (rest := [.ref q9, .ref q8]) hx hb hml hown hts (c_X11_actNow l D cI cJ cZ h0 q9 fs0 fs9 hl_fs0 hf_fs0_12 hf_fs0_4 hl_fs9 hf_fs9_0 _) ⟨rfl, rfl⟩ sv_X11_203 ⟨(Nat.le_of_ble_eq_true rfl), (Nat.le_of_ble_eq_true rfl)⟩ ⟨(Nat.le_of_ble_eq_true rfl), (Nat.le_of_ble_eq_true rfl)⟩ (fun _ _ _ _ h => h) (fun _ _ _ => trivial) hK hP hD [0, 2] rfl rfl 0 11 rfl rfl rfl rfl hl.1 rfl (Nat.le_of_ble_eq_true rfl) dX11_look_9) hP hD hS hA [0, 2] [1, 3, 4] rfl rfl rfl (by decide) (fun r_3 w_2 H locs hw_1 hP hD hS => ?_)
  obtain ⟨rfl, hr_4⟩ := hw_1
  have hP : va_P D vwCl [(q8, .inr (6, fs8)), (q1, .inl (cI, 250, .inl f1)), (q2, .inl (cI, 10, .inl f2)), (h0, .inr (11, fs0)), (q9, .inr (7, fs9))] H := hP
  have hD : va_D A [(q8, .inr (6, fs8)), (q1, .inl (cI, 250, .inl f1)), (q2, .inl (cI, 10, .inl f2)), (h0, .inr (11, fs0)), (q9, .inr (7, fs9))] := hD
  refine tov (v := 0) hr_4 ?_
  refine cl_v (wr := [(h0, .inr (11, fs0)), (q9, .inr (7, fs9))]) (rn_V (As := [.ref q9, .int 0]) (rest := []) hx hb hml hown hts (c_X6_look l D cI cJ cZ q8 q1 q2 q9 fs8 f1 f2 hl_fs8 hf_fs8_0 hf_fs8_1 hf_fs8_14 hf_fs8_15 _) ⟨rfl, rfl⟩ sv_X11_347 ⟨(Nat.le_of_ble_eq_true rfl), (Nat.le_of_ble_eq_true rfl)⟩ ⟨(Nat.le_of_ble_eq_true rfl), (Nat.le_of_ble_eq_true rfl)⟩ (fun _ _ _ _ h => h) (fun _ _ _ => trivial) hK hP hD [0, 1, 2] rfl rfl 0 6 rfl rfl rfl rfl hl.1 rfl (Nat.le_of_ble_eq_true rfl) dX11_look_12) hP hD hS hA [0, 1, 2] [3, 4] rfl rfl rfl (by decide) (fun w_6 H locs hw_5 hP hD hS => ?_)
  obtain ⟨fs1_8, g1_9, g2_10, rfl, h_11, h_12⟩ := hw_5
  have hP : va_P D vwCl [(h0, .inr (11, fs0)), (q9, .inr (7, fs9)), (q8, .inr (6, fs1_8)), (q1, .inl (cI, 250, .inl g1_9)), (q2, .inl (cI, 10, .inl g2_10))] H := hP
  have hD : va_D A [(h0, .inr (11, fs0)), (q9, .inr (7, fs9)), (q8, .inr (6, fs1_8)), (q1, .inl (cI, 250, .inl g1_9)), (q2, .inl (cI, 10, .inl g2_10))] := hD
  have hP : va_P D vwCl [(h0, .inr (11, fs0)), (q8, .inr (6, fs1_8)), (q9, .inr (7, fs9)), (q1, .inl (cI, 250, .inl g1_9)), (q2, .inl (cI, 10, .inl g2_10))] H := hP.sub [0, 2, 1, 3, 4] rfl
  have hD : va_D A [(h0, .inr (11, fs0)), (q8, .inr (6, fs1_8)), (q9, .inr (7, fs9)), (q1, .inl (cI, 250, .inl g1_9)), (q2, .inl (cI, 10, .inl g2_10))] := hD.sub [0, 2, 1, 3, 4] (by decide) rfl
  exact fin_v hx hb hr hlk hK hP hD hS dX11_look_15 (⟨fs1_8, g1_9, g2_10, rfl, h_11, h_12⟩)
set_option maxRecDepth 100000 in
set_option maxHeartbeats 4000000 in
theorem c_X11_isChild (l : Launch) (D : va_G) (cI cJ cZ : ClassId) (h0 q8 q9 q1 q2 : Nat) (fs0 fs8 fs9 : List Value) (f1 : Nat → Int32) (f2 : Nat → Int32) (p0 : Int32) (hl_fs0 : fs0.length = 14) (hf_fs0_5 : fs0[5]? = some (.ref q8)) (hf_fs0_4 : fs0[4]? = some (.ref q9)) (hf_fs0_12 : fs0[12]? = some (.int (-1))) (hl_fs8 : fs8.length = 16) (hf_fs8_0 : fs8[0]? = some (.int (-1))) (hf_fs8_1 : fs8[1]? = some (.int 0)) (hf_fs8_14 : fs8[14]? = some (.ref q1)) (hf_fs8_15 : fs8[15]? = some (.ref q2)) (hl_fs9 : fs9.length = 8) (hf_fs9_0 : fs9[0]? = some (.int 0)) : Con_i l yX11_isChild cX11_isChild 2 (some .boolean) ({ frames := 3, cells := 0, slots := 0, locals := 66 }) D cI cJ cZ eT [.ref h0, .int p0] [(h0, .inr (11, fs0)), (q8, .inr (6, fs8)), (q9, .inr (7, fs9)), (q1, .inl (cI, 250, .inl f1)), (q2, .inl (cI, 10, .inl f2))] (fun (r : Int32) (w : va_W) => ∃ (fs7 : List Value) (g1 : Nat → Int32) (g2 : Nat → Int32), w = [(h0, .inr (11, fs0)), (q8, .inr (6, fs7)), (q9, .inr (7, fs9)), (q1, .inl (cI, 250, .inl g1)), (q2, .inl (cI, 10, .inl g2))] ∧ fs7.length = 16 ∧ fs7[2]? = some (.int 0) ∧ r = 0) := by
  refine ent_i (by decide) (Nat.le_of_ble_eq_true rfl) ?_
  intro p e s m below meth c A hx hb hml hown hts hr hlk hnm hK hE hA hP hD hS ls hl
  have hown : s.vm.findClass RX11 = some m.cls := hown
  have hl : lv_has ls 2 [(0, .ref h0), (1, .int p0)] := hl
  refine lv_aload_n hx hb dX11_isChild_0 rfl (lv_at hl 0 rfl) ?_
  refine cl_v (wr := []) (rn_V (As := []) (rest := []) hx hb hml hown hts (c_X11_look l D cI cJ cZ h0 q8 q9 q1 q2 fs0 fs8 fs9 f1 f2 hl_fs0 hf_fs0_5 hf_fs0_4 hf_fs0_12 hl_fs8 hf_fs8_0 hf_fs8_1 hf_fs8_14 hf_fs8_15 hl_fs9 hf_fs9_0 _) ⟨rfl, rfl⟩ sv_X11_207 ⟨(Nat.le_of_ble_eq_true rfl), (Nat.le_of_ble_eq_true rfl)⟩ ⟨(Nat.le_of_ble_eq_true rfl), (Nat.le_of_ble_eq_true rfl)⟩ (fun _ _ _ _ h => h) (fun _ _ _ => trivial) hK hP hD [0, 1, 2, 3, 4] rfl rfl 0 11 rfl rfl rfl rfl hl.1 rfl (Nat.le_of_ble_eq_true rfl) dX11_isChild_1) hP hD hS hA [0, 1, 2, 3, 4] [] rfl rfl rfl (by decide) (fun w_2 H locs hw_1 hP hD hS => ?_)
  obtain ⟨fs7_4, g1_5, g2_6, rfl, h_7, h_8⟩ := hw_1
  have hP : va_P D vwCl [(h0, .inr (11, fs0)), (q8, .inr (6, fs7_4)), (q9, .inr (7, fs9)), (q1, .inl (cI, 250, .inl g1_5)), (q2, .inl (cI, 10, .inl g2_6))] H := hP
  have hD : va_D A [(h0, .inr (11, fs0)), (q8, .inr (6, fs7_4)), (q9, .inr (7, fs9)), (q1, .inl (cI, 250, .inl g1_5)), (q2, .inl (cI, 10, .inl g2_6))] := hD
  refine lv_iload_n hx hb dX11_isChild_4 rfl (lv_at hl 1 rfl) ?_
  refine lv_if_lt (tgt := 23) hx hb dX11_isChild_5 (by decide) (fun c_9 => ?_) (fun c_9 => ?_)
  · refine lv_iconst (v := 0) hx hb dX11_isChild_23 (by decide) ?_
    exact fin_z hx hb hr hlk hK hP hD hS dX11_isChild_24 rfl (⟨fs7_4, g1_5, g2_6, rfl, h_7, h_8, rfl⟩)
  · refine lv_iload_n hx hb dX11_isChild_8 rfl (lv_at hl 1 rfl) ?_
    refine lv_aload_n hx hb dX11_isChild_9 rfl (lv_at hl 0 rfl) ?_
    refine gt_X11 hx hb hts hown hK hP 0 rfl 5 (by decide) wd_678 rfl hf_fs0_5 dX11_isChild_10 ?_
    refine gt_X6 hx hb hts hown hK hP 1 rfl 2 (by decide) wd_296 rfl h_8 dX11_isChild_13 ?_
    refine lv_icmp_ge (tgt := 23) hx hb dX11_isChild_16 (by decide) (fun _ => ?_) (fun h => (h ((by have k0 := c_9; rw [q_lt] at k0; have z0 : (0 : Int32).toInt = 0 := (by decide); rw [q_le]; omega))).elim)
    refine lv_iconst (v := 0) hx hb dX11_isChild_23 (by decide) ?_
    exact fin_z hx hb hr hlk hK hP hD hS dX11_isChild_24 rfl (⟨fs7_4, g1_5, g2_6, rfl, h_7, h_8, rfl⟩)
set_option maxRecDepth 100000 in
set_option maxHeartbeats 4000000 in
theorem c_X11_all (l : Launch) (D : va_G) (cI cJ cZ : ClassId) (h0 q7 q8 q9 q1 q2 : Nat) (fs0 fs6 fs8 fs9 : List Value) (f1 : Nat → Int32) (f2 : Nat → Int32) (p0 : Int32) (hl_fs0 : fs0.length = 14) (hf_fs0_0 : fs0[0]? = some (.ref q7)) (hf_fs0_5 : fs0[5]? = some (.ref q8)) (hf_fs0_4 : fs0[4]? = some (.ref q9)) (hf_fs0_12 : fs0[12]? = some (.int (-1))) (hl_fs6 : fs6.length = 20) (hf_fs6_0 : fs6[0]? = some (.int 0)) (hf_fs6_5 : fs6[5]? = some (.int 0)) (hf_fs6_8 : fs6[8]? = some (.int 0)) (hf_fs6_9 : fs6[9]? = some (.int 1000)) (hl_fs8 : fs8.length = 16) (hf_fs8_0 : fs8[0]? = some (.int (-1))) (hf_fs8_1 : fs8[1]? = some (.int 0)) (hf_fs8_14 : fs8[14]? = some (.ref q1)) (hf_fs8_15 : fs8[15]? = some (.ref q2)) (hl_fs9 : fs9.length = 8) (hf_fs9_0 : fs9[0]? = some (.int 0)) : Con_i l yX11_all cX11_all 2 (some .int) ({ frames := 3, cells := 0, slots := 0, locals := 66 }) D cI cJ cZ eT [.ref h0, .int p0] [(h0, .inr (11, fs0)), (q7, .inr (1, fs6)), (q8, .inr (6, fs8)), (q9, .inr (7, fs9)), (q1, .inl (cI, 250, .inl f1)), (q2, .inl (cI, 10, .inl f2))] (fun r _ => r = (sp_all p0)) := by
  refine ent_i (by decide) (Nat.le_of_ble_eq_true rfl) ?_
  intro p e s m below meth c A hx hb hml hown hts hr hlk hnm hK hE hA hP hD hS ls hl
  have hown : s.vm.findClass RX11 = some m.cls := hown
  have hl : lv_has ls 2 [(0, .ref h0), (1, .int p0)] := hl
  refine lv_iload_n hx hb dX11_all_0 rfl (lv_at hl 1 rfl) ?_
  by_cases c_1 : p0 = 0
  · have c_1t : (p0 : Int32).toInt = 0 := by rw [c_1]; rfl
    refine lv_tableIn (tgt := 48) hx hb dX11_all_1 (by rw [c_1t]; decide) (by rw [c_1t]; decide) (off := 47) (by rw [c_1t]; rfl) (by decide) ?_
    refine lv_aload_n hx hb dX11_all_48 rfl (lv_at hl 0 rfl) ?_
    refine gt_X11 hx hb hts hown hK hP 0 rfl 0 (by decide) wd_673 rfl hf_fs0_0 dX11_all_49 ?_
    refine gt_X1 hx hb hts hown hK hP 1 rfl 0 (by decide) wd_39 rfl hf_fs6_0 dX11_all_52 ?_
    exact fin_i hx hb hr hlk hK hP hD hS dX11_all_55 (all_in c_1 (by decide))
  by_cases c_2 : p0 = 1
  · have c_2t : (p0 : Int32).toInt = 1 := by rw [c_2]; rfl
    refine lv_tableIn (tgt := 56) hx hb dX11_all_1 (by rw [c_2t]; decide) (by rw [c_2t]; decide) (off := 55) (by rw [c_2t]; rfl) (by decide) ?_
    refine lv_aload_n hx hb dX11_all_56 rfl (lv_at hl 0 rfl) ?_
    refine gt_X11 hx hb hts hown hK hP 0 rfl 0 (by decide) wd_673 rfl hf_fs0_0 dX11_all_57 ?_
    refine gt_X1 hx hb hts hown hK hP 1 rfl 5 (by decide) wd_55 rfl hf_fs6_5 dX11_all_60 ?_
    exact fin_i hx hb hr hlk hK hP hD hS dX11_all_63 (all_in c_2 (by decide))
  by_cases c_3 : p0 = 2
  · have c_3t : (p0 : Int32).toInt = 2 := by rw [c_3]; rfl
    refine lv_tableIn (tgt := 64) hx hb dX11_all_1 (by rw [c_3t]; decide) (by rw [c_3t]; decide) (off := 63) (by rw [c_3t]; rfl) (by decide) ?_
    refine lv_aload_n hx hb dX11_all_64 rfl (lv_at hl 0 rfl) ?_
    refine gt_X11 hx hb hts hown hK hP 0 rfl 0 (by decide) wd_673 rfl hf_fs0_0 dX11_all_65 ?_
    refine gt_X1 hx hb hts hown hK hP 1 rfl 8 (by decide) wd_65 rfl hf_fs6_8 dX11_all_68 ?_
    exact fin_i hx hb hr hlk hK hP hD hS dX11_all_71 (all_in c_3 (by decide))
  by_cases c_4 : p0 = 3
  · have c_4t : (p0 : Int32).toInt = 3 := by rw [c_4]; rfl
    refine lv_tableIn (tgt := 72) hx hb dX11_all_1 (by rw [c_4t]; decide) (by rw [c_4t]; decide) (off := 71) (by rw [c_4t]; rfl) (by decide) ?_
    refine lv_aload_n hx hb dX11_all_72 rfl (lv_at hl 0 rfl) ?_
    refine gt_X11 hx hb hts hown hK hP 0 rfl 4 (by decide) wd_677 rfl hf_fs0_4 dX11_all_73 ?_
    refine gt_X7 hx hb hts hown hK hP 3 rfl 0 (by decide) wd_252 rfl hf_fs9_0 dX11_all_76 ?_
    exact fin_i hx hb hr hlk hK hP hD hS dX11_all_79 (all_in c_4 (by decide))
  by_cases c_5 : p0 = 4
  · have c_5t : (p0 : Int32).toInt = 4 := by rw [c_5]; rfl
    refine lv_tableIn (tgt := 80) hx hb dX11_all_1 (by rw [c_5t]; decide) (by rw [c_5t]; decide) (off := 79) (by rw [c_5t]; rfl) (by decide) ?_
    refine lv_aload_n hx hb dX11_all_80 rfl (lv_at hl 0 rfl) ?_
    refine cl_i (wr := [(q7, .inr (1, fs6)), (q8, .inr (6, fs8)), (q1, .inl (cI, 250, .inl f1)), (q2, .inl (cI, 10, .inl f2))]) (rn_V (As := []) (rest := []) hx hb hml hown hts (c_X11_actNow l D cI cJ cZ h0 q9 fs0 fs9 hl_fs0 hf_fs0_12 hf_fs0_4 hl_fs9 hf_fs9_0 _) ⟨rfl, rfl⟩ sv_X11_203 ⟨(Nat.le_of_ble_eq_true rfl), (Nat.le_of_ble_eq_true rfl)⟩ ⟨(Nat.le_of_ble_eq_true rfl), (Nat.le_of_ble_eq_true rfl)⟩ (fun _ _ _ _ h => h) (fun _ _ _ => trivial) hK hP hD [0, 3] rfl rfl 0 11 rfl rfl rfl rfl hl.1 rfl (Nat.le_of_ble_eq_true rfl) dX11_all_81) hP hD hS hA [0, 3] [1, 2, 4, 5] rfl rfl rfl (by decide) (fun r_8 w_7 H locs hw_6 hP hD hS => ?_)
    obtain ⟨rfl, hr_9⟩ := hw_6
    have hP : va_P D vwCl [(q7, .inr (1, fs6)), (q8, .inr (6, fs8)), (q1, .inl (cI, 250, .inl f1)), (q2, .inl (cI, 10, .inl f2)), (h0, .inr (11, fs0)), (q9, .inr (7, fs9))] H := hP
    have hD : va_D A [(q7, .inr (1, fs6)), (q8, .inr (6, fs8)), (q1, .inl (cI, 250, .inl f1)), (q2, .inl (cI, 10, .inl f2)), (h0, .inr (11, fs0)), (q9, .inr (7, fs9))] := hD
    refine tov (v := 0) hr_9 ?_
    exact fin_i hx hb hr hlk hK hP hD hS dX11_all_84 (all_in c_5 (by decide))
  by_cases c_10 : p0 = 5
  · have c_10t : (p0 : Int32).toInt = 5 := by rw [c_10]; rfl
    refine lv_tableIn (tgt := 85) hx hb dX11_all_1 (by rw [c_10t]; decide) (by rw [c_10t]; decide) (off := 84) (by rw [c_10t]; rfl) (by decide) ?_
    refine lv_aload_n hx hb dX11_all_85 rfl (lv_at hl 0 rfl) ?_
    refine cl_v (wr := [(q7, .inr (1, fs6))]) (rn_V (As := []) (rest := []) hx hb hml hown hts (c_X11_look l D cI cJ cZ h0 q8 q9 q1 q2 fs0 fs8 fs9 f1 f2 hl_fs0 hf_fs0_5 hf_fs0_4 hf_fs0_12 hl_fs8 hf_fs8_0 hf_fs8_1 hf_fs8_14 hf_fs8_15 hl_fs9 hf_fs9_0 _) ⟨rfl, rfl⟩ sv_X11_207 ⟨(Nat.le_of_ble_eq_true rfl), (Nat.le_of_ble_eq_true rfl)⟩ ⟨(Nat.le_of_ble_eq_true rfl), (Nat.le_of_ble_eq_true rfl)⟩ (fun _ _ _ _ h => h) (fun _ _ _ => trivial) hK hP hD [0, 2, 3, 4, 5] rfl rfl 0 11 rfl rfl rfl rfl hl.1 rfl (Nat.le_of_ble_eq_true rfl) dX11_all_86) hP hD hS hA [0, 2, 3, 4, 5] [1] rfl rfl rfl (by decide) (fun w_12 H locs hw_11 hP hD hS => ?_)
    obtain ⟨fs7_14, g1_15, g2_16, rfl, h_17, h_18⟩ := hw_11
    have hP : va_P D vwCl [(q7, .inr (1, fs6)), (h0, .inr (11, fs0)), (q8, .inr (6, fs7_14)), (q9, .inr (7, fs9)), (q1, .inl (cI, 250, .inl g1_15)), (q2, .inl (cI, 10, .inl g2_16))] H := hP
    have hD : va_D A [(q7, .inr (1, fs6)), (h0, .inr (11, fs0)), (q8, .inr (6, fs7_14)), (q9, .inr (7, fs9)), (q1, .inl (cI, 250, .inl g1_15)), (q2, .inl (cI, 10, .inl g2_16))] := hD
    refine lv_aload_n hx hb dX11_all_89 rfl (lv_at hl 0 rfl) ?_
    refine gt_X11 hx hb hts hown hK hP 1 rfl 5 (by decide) wd_678 rfl hf_fs0_5 dX11_all_90 ?_
    refine gt_X6 hx hb hts hown hK hP 2 rfl 2 (by decide) wd_296 rfl h_18 dX11_all_93 ?_
    exact fin_i hx hb hr hlk hK hP hD hS dX11_all_96 (all_in c_10 (by decide))
  by_cases c_19 : p0 = 6
  · have c_19t : (p0 : Int32).toInt = 6 := by rw [c_19]; rfl
    refine lv_tableIn (tgt := 97) hx hb dX11_all_1 (by rw [c_19t]; decide) (by rw [c_19t]; decide) (off := 96) (by rw [c_19t]; rfl) (by decide) ?_
    refine lv_aload_n hx hb dX11_all_97 rfl (lv_at hl 0 rfl) ?_
    refine cl_v (wr := [(q7, .inr (1, fs6))]) (rn_V (As := []) (rest := []) hx hb hml hown hts (c_X11_look l D cI cJ cZ h0 q8 q9 q1 q2 fs0 fs8 fs9 f1 f2 hl_fs0 hf_fs0_5 hf_fs0_4 hf_fs0_12 hl_fs8 hf_fs8_0 hf_fs8_1 hf_fs8_14 hf_fs8_15 hl_fs9 hf_fs9_0 _) ⟨rfl, rfl⟩ sv_X11_207 ⟨(Nat.le_of_ble_eq_true rfl), (Nat.le_of_ble_eq_true rfl)⟩ ⟨(Nat.le_of_ble_eq_true rfl), (Nat.le_of_ble_eq_true rfl)⟩ (fun _ _ _ _ h => h) (fun _ _ _ => trivial) hK hP hD [0, 2, 3, 4, 5] rfl rfl 0 11 rfl rfl rfl rfl hl.1 rfl (Nat.le_of_ble_eq_true rfl) dX11_all_98) hP hD hS hA [0, 2, 3, 4, 5] [1] rfl rfl rfl (by decide) (fun w_21 H locs hw_20 hP hD hS => ?_)
    obtain ⟨fs7_23, g1_24, g2_25, rfl, h_26, h_27⟩ := hw_20
    have hP : va_P D vwCl [(q7, .inr (1, fs6)), (h0, .inr (11, fs0)), (q8, .inr (6, fs7_23)), (q9, .inr (7, fs9)), (q1, .inl (cI, 250, .inl g1_24)), (q2, .inl (cI, 10, .inl g2_25))] H := hP
    have hD : va_D A [(q7, .inr (1, fs6)), (h0, .inr (11, fs0)), (q8, .inr (6, fs7_23)), (q9, .inr (7, fs9)), (q1, .inl (cI, 250, .inl g1_24)), (q2, .inl (cI, 10, .inl g2_25))] := hD
    refine lv_aload_n hx hb dX11_all_101 rfl (lv_at hl 0 rfl) ?_
    refine gt_X11 hx hb hts hown hK hP 1 rfl 5 (by decide) wd_678 rfl hf_fs0_5 dX11_all_102 ?_
    refine cl_i (wr := [(q7, .inr (1, fs6)), (h0, .inr (11, fs0)), (q9, .inr (7, fs9)), (q1, .inl (cI, 250, .inl g1_24)), (q2, .inl (cI, 10, .inl g2_25))]) (rn_V (As := []) (rest := []) hx hb hml hown hts (c_X6_doubts l D cI cJ cZ q8 fs7_23 h_26 h_27 _) ⟨rfl, rfl⟩ sv_X11_213 ⟨(Nat.le_of_ble_eq_true rfl), (Nat.le_of_ble_eq_true rfl)⟩ ⟨(Nat.le_of_ble_eq_true rfl), (Nat.le_of_ble_eq_true rfl)⟩ (fun _ _ _ _ h => h) (fun _ _ _ => trivial) hK hP hD [2] rfl rfl 0 6 rfl rfl rfl rfl hl.1 rfl (Nat.le_of_ble_eq_true rfl) dX11_all_105) hP hD hS hA [2] [0, 1, 3, 4, 5] rfl rfl rfl (by decide) (fun r_30 w_29 H locs hw_28 hP hD hS => ?_)
    obtain ⟨rfl, hr_31⟩ := hw_28
    have hP : va_P D vwCl [(q7, .inr (1, fs6)), (h0, .inr (11, fs0)), (q9, .inr (7, fs9)), (q1, .inl (cI, 250, .inl g1_24)), (q2, .inl (cI, 10, .inl g2_25)), (q8, .inr (6, fs7_23))] H := hP
    have hD : va_D A [(q7, .inr (1, fs6)), (h0, .inr (11, fs0)), (q9, .inr (7, fs9)), (q1, .inl (cI, 250, .inl g1_24)), (q2, .inl (cI, 10, .inl g2_25)), (q8, .inr (6, fs7_23))] := hD
    refine tov (v := 0) hr_31 ?_
    exact fin_i hx hb hr hlk hK hP hD hS dX11_all_108 (all_in c_19 (by decide))
  by_cases c_32 : p0 = 7
  · have c_32t : (p0 : Int32).toInt = 7 := by rw [c_32]; rfl
    refine lv_tableIn (tgt := 109) hx hb dX11_all_1 (by rw [c_32t]; decide) (by rw [c_32t]; decide) (off := 108) (by rw [c_32t]; rfl) (by decide) ?_
    refine lv_aload_n hx hb dX11_all_109 rfl (lv_at hl 0 rfl) ?_
    refine gt_X11 hx hb hts hown hK hP 0 rfl 0 (by decide) wd_673 rfl hf_fs0_0 dX11_all_110 ?_
    refine gt_X1 hx hb hts hown hK hP 1 rfl 9 (by decide) wd_70 rfl hf_fs6_9 dX11_all_113 ?_
    exact fin_i hx hb hr hlk hK hP hD hS dX11_all_116 (all_7 c_32)
  refine lv_tableOut (tgt := 117) hx hb dX11_all_1 (tb_out c_1 c_2 c_3 c_4 c_5 c_10 c_19 c_32) (by decide) ?_
  refine lv_iconst (v := (-1)) hx hb dX11_all_117 (by decide) ?_
  exact fin_i hx hb hr hlk hK hP hD hS dX11_all_118 (all_no c_1 c_2 c_3 c_4 c_5 c_10 c_19 c_32)
set_option maxRecDepth 100000 in
set_option maxHeartbeats 4000000 in
theorem c_X11_child (l : Launch) (D : va_G) (cI cJ cZ : ClassId) (h0 q8 q9 q1 q2 : Nat) (fs0 fs8 fs9 : List Value) (f1 : Nat → Int32) (f2 : Nat → Int32) (p0 : Int32) (hl_fs0 : fs0.length = 14) (hf_fs0_5 : fs0[5]? = some (.ref q8)) (hf_fs0_4 : fs0[4]? = some (.ref q9)) (hf_fs0_12 : fs0[12]? = some (.int (-1))) (hl_fs8 : fs8.length = 16) (hf_fs8_0 : fs8[0]? = some (.int (-1))) (hf_fs8_1 : fs8[1]? = some (.int 0)) (hf_fs8_14 : fs8[14]? = some (.ref q1)) (hf_fs8_15 : fs8[15]? = some (.ref q2)) (hl_fs9 : fs9.length = 8) (hf_fs9_0 : fs9[0]? = some (.int 0)) : Con_i l yX11_child cX11_child 2 (some .int) ({ frames := 1, cells := 0, slots := 0, locals := 20 }) D cI cJ cZ eT [.ref h0, .int p0] [(h0, .inr (11, fs0)), (q8, .inr (6, fs8)), (q9, .inr (7, fs9)), (q1, .inl (cI, 250, .inl f1)), (q2, .inl (cI, 10, .inl f2))] (fun r _ => r = (-1)) := by
  refine ent_i (by decide) (Nat.le_of_ble_eq_true rfl) ?_
  intro p e s m below meth c A hx hb hml hown hts hr hlk hnm hK hE hA hP hD hS ls hl
  have hown : s.vm.findClass RX11 = some m.cls := hown
  have hl : lv_has ls 2 [(0, .ref h0), (1, .int p0)] := hl
  refine lv_iload_n hx hb dX11_child_0 rfl (lv_at hl 1 rfl) ?_
  refine lv_iconst (v := 1) hx hb dX11_child_1 (by decide) ?_
  refine lv_icmp_lt (tgt := 13) hx hb dX11_child_2 (by decide) (fun c_1 => ?_) (fun c_1 => ?_)
  · refine lv_iconst (v := (-1)) hx hb dX11_child_13 (by decide) ?_
    exact fin_i hx hb hr hlk hK hP hD hS dX11_child_14 (rfl)
  · refine lv_iload_n hx hb dX11_child_5 rfl (lv_at hl 1 rfl) ?_
    refine lv_aload_n hx hb dX11_child_6 rfl (lv_at hl 0 rfl) ?_
    refine cl_i (wr := [(q8, .inr (6, fs8)), (q1, .inl (cI, 250, .inl f1)), (q2, .inl (cI, 10, .inl f2))]) (rn_V (As := []) (rest := [.int p0]) hx hb hml hown hts (c_X11_actNow l D cI cJ cZ h0 q9 fs0 fs9 hl_fs0 hf_fs0_12 hf_fs0_4 hl_fs9 hf_fs9_0 _) ⟨rfl, rfl⟩ sv_X11_203 ⟨(Nat.le_of_ble_eq_true rfl), (Nat.le_of_ble_eq_true rfl)⟩ ⟨(Nat.le_of_ble_eq_true rfl), (Nat.le_of_ble_eq_true rfl)⟩ (fun _ _ _ _ h => h) (fun _ _ _ => trivial) hK hP hD [0, 2] rfl rfl 0 11 rfl rfl rfl rfl hl.1 rfl (Nat.le_of_ble_eq_true rfl) dX11_child_7) hP hD hS hA [0, 2] [1, 3, 4] rfl rfl rfl (by decide) (fun r_4 w_3 H locs hw_2 hP hD hS => ?_)
    obtain ⟨rfl, hr_5⟩ := hw_2
    have hP : va_P D vwCl [(q8, .inr (6, fs8)), (q1, .inl (cI, 250, .inl f1)), (q2, .inl (cI, 10, .inl f2)), (h0, .inr (11, fs0)), (q9, .inr (7, fs9))] H := hP
    have hD : va_D A [(q8, .inr (6, fs8)), (q1, .inl (cI, 250, .inl f1)), (q2, .inl (cI, 10, .inl f2)), (h0, .inr (11, fs0)), (q9, .inr (7, fs9))] := hD
    refine tov (v := 0) hr_5 ?_
    refine lv_icmp_le (tgt := 15) hx hb dX11_child_10 (by decide) (fun h => absurd h ((by have k0 := c_1; rw [q_lt] at k0; have z0 : (0 : Int32).toInt = 0 := (by decide); have z1 : (1 : Int32).toInt = 1 := (by decide); rw [q_le]; omega))) (fun _ => ?_)
    refine lv_iconst (v := (-1)) hx hb dX11_child_13 (by decide) ?_
    exact fin_i hx hb hr hlk hK hP hD hS dX11_child_14 (rfl)
set_option maxRecDepth 100000 in
set_option maxHeartbeats 4000000 in
theorem c_X11_of (l : Launch) (D : va_G) (cI cJ cZ : ClassId) (h0 q8 q9 q1 q2 : Nat) (fs0 fs8 fs9 : List Value) (f1 : Nat → Int32) (f2 : Nat → Int32) (p0 : Int32) (p1 : Int32) (hl_fs0 : fs0.length = 14) (hf_fs0_5 : fs0[5]? = some (.ref q8)) (hf_fs0_4 : fs0[4]? = some (.ref q9)) (hf_fs0_12 : fs0[12]? = some (.int (-1))) (hl_fs8 : fs8.length = 16) (hf_fs8_0 : fs8[0]? = some (.int (-1))) (hf_fs8_1 : fs8[1]? = some (.int 0)) (hf_fs8_14 : fs8[14]? = some (.ref q1)) (hf_fs8_15 : fs8[15]? = some (.ref q2)) (hl_fs9 : fs9.length = 8) (hf_fs9_0 : fs9[0]? = some (.int 0)) : Con_i l yX11_of cX11_of 3 (some .int) ({ frames := 4, cells := 0, slots := 0, locals := 87 }) D cI cJ cZ eT [.ref h0, .int p0, .int p1] [(h0, .inr (11, fs0)), (q8, .inr (6, fs8)), (q9, .inr (7, fs9)), (q1, .inl (cI, 250, .inl f1)), (q2, .inl (cI, 10, .inl f2))] (fun r _ => r = (-1)) := by
  refine ent_i (by decide) (Nat.le_of_ble_eq_true rfl) ?_
  intro p e s m below meth c A hx hb hml hown hts hr hlk hnm hK hE hA hP hD hS ls hl
  have hown : s.vm.findClass RX11 = some m.cls := hown
  have hl : lv_has ls 3 [(0, .ref h0), (1, .int p0), (2, .int p1)] := hl
  refine lv_aload_n hx hb dX11_of_0 rfl (lv_at hl 0 rfl) ?_
  refine lv_iload_n hx hb dX11_of_1 rfl (lv_at hl 1 rfl) ?_
  refine cl_i (wr := []) (rn_V (As := [.int p0]) (rest := []) hx hb hml hown hts (c_X11_isChild l D cI cJ cZ h0 q8 q9 q1 q2 fs0 fs8 fs9 f1 f2 p0 hl_fs0 hf_fs0_5 hf_fs0_4 hf_fs0_12 hl_fs8 hf_fs8_0 hf_fs8_1 hf_fs8_14 hf_fs8_15 hl_fs9 hf_fs9_0 _) ⟨rfl, rfl⟩ sv_X11_222 ⟨(Nat.le_of_ble_eq_true rfl), (Nat.le_of_ble_eq_true rfl)⟩ ⟨(Nat.le_of_ble_eq_true rfl), (Nat.le_of_ble_eq_true rfl)⟩ (fun _ _ _ _ h => h) (fun _ _ _ => trivial) hK hP hD [0, 1, 2, 3, 4] rfl rfl 0 11 rfl rfl rfl rfl hl.1 rfl (Nat.le_of_ble_eq_true rfl) dX11_of_2) hP hD hS hA [0, 1, 2, 3, 4] [] rfl rfl rfl (by decide) (fun r_3 w_2 H locs hw_1 hP hD hS => ?_)
  obtain ⟨fs7_4, g1_5, g2_6, rfl, h_7, h_8, hr_9⟩ := hw_1
  have hP : va_P D vwCl [(h0, .inr (11, fs0)), (q8, .inr (6, fs7_4)), (q9, .inr (7, fs9)), (q1, .inl (cI, 250, .inl g1_5)), (q2, .inl (cI, 10, .inl g2_6))] H := hP
  have hD : va_D A [(h0, .inr (11, fs0)), (q8, .inr (6, fs7_4)), (q9, .inr (7, fs9)), (q1, .inl (cI, 250, .inl g1_5)), (q2, .inl (cI, 10, .inl g2_6))] := hD
  refine tov (v := 0) hr_9 ?_
  refine lv_if_ne (tgt := 10) hx hb dX11_of_5 (by decide) (fun h => (h (by decide)).elim) (fun _ => ?_)
  refine lv_iconst (v := (-1)) hx hb dX11_of_8 (by decide) ?_
  exact fin_i hx hb hr hlk hK hP hD hS dX11_of_9 (rfl)
set_option maxRecDepth 100000 in
set_option maxHeartbeats 4000000 in
theorem c_X11_wish (l : Launch) (D : va_G) (cI cJ cZ : ClassId) (h0 q8 q9 q1 q2 : Nat) (fs0 fs8 fs9 : List Value) (f1 : Nat → Int32) (f2 : Nat → Int32) (p0 : Int32) (p1 : Int32) (p2 : Int32) (hl_fs0 : fs0.length = 14) (hf_fs0_5 : fs0[5]? = some (.ref q8)) (hf_fs0_4 : fs0[4]? = some (.ref q9)) (hf_fs0_12 : fs0[12]? = some (.int (-1))) (hl_fs8 : fs8.length = 16) (hf_fs8_0 : fs8[0]? = some (.int (-1))) (hf_fs8_1 : fs8[1]? = some (.int 0)) (hf_fs8_14 : fs8[14]? = some (.ref q1)) (hf_fs8_15 : fs8[15]? = some (.ref q2)) (hl_fs9 : fs9.length = 8) (hf_fs9_0 : fs9[0]? = some (.int 0)) : Con_i l yX11_wish cX11_wish 4 (some .int) ({ frames := 4, cells := 0, slots := 0, locals := 87 }) D cI cJ cZ eT [.ref h0, .int p0, .int p1, .int p2] [(h0, .inr (11, fs0)), (q8, .inr (6, fs8)), (q9, .inr (7, fs9)), (q1, .inl (cI, 250, .inl f1)), (q2, .inl (cI, 10, .inl f2))] (fun r _ => r = (-1)) := by
  refine ent_i (by decide) (Nat.le_of_ble_eq_true rfl) ?_
  intro p e s m below meth c A hx hb hml hown hts hr hlk hnm hK hE hA hP hD hS ls hl
  have hown : s.vm.findClass RX11 = some m.cls := hown
  have hl : lv_has ls 4 [(0, .ref h0), (1, .int p0), (2, .int p1), (3, .int p2)] := hl
  refine lv_aload_n hx hb dX11_wish_0 rfl (lv_at hl 0 rfl) ?_
  refine lv_iload_n hx hb dX11_wish_1 rfl (lv_at hl 1 rfl) ?_
  refine cl_i (wr := []) (rn_V (As := [.int p0]) (rest := []) hx hb hml hown hts (c_X11_isChild l D cI cJ cZ h0 q8 q9 q1 q2 fs0 fs8 fs9 f1 f2 p0 hl_fs0 hf_fs0_5 hf_fs0_4 hf_fs0_12 hl_fs8 hf_fs8_0 hf_fs8_1 hf_fs8_14 hf_fs8_15 hl_fs9 hf_fs9_0 _) ⟨rfl, rfl⟩ sv_X11_222 ⟨(Nat.le_of_ble_eq_true rfl), (Nat.le_of_ble_eq_true rfl)⟩ ⟨(Nat.le_of_ble_eq_true rfl), (Nat.le_of_ble_eq_true rfl)⟩ (fun _ _ _ _ h => h) (fun _ _ _ => trivial) hK hP hD [0, 1, 2, 3, 4] rfl rfl 0 11 rfl rfl rfl rfl hl.1 rfl (Nat.le_of_ble_eq_true rfl) dX11_wish_2) hP hD hS hA [0, 1, 2, 3, 4] [] rfl rfl rfl (by decide) (fun r_3 w_2 H locs hw_1 hP hD hS => ?_)
  obtain ⟨fs7_4, g1_5, g2_6, rfl, h_7, h_8, hr_9⟩ := hw_1
  have hP : va_P D vwCl [(h0, .inr (11, fs0)), (q8, .inr (6, fs7_4)), (q9, .inr (7, fs9)), (q1, .inl (cI, 250, .inl g1_5)), (q2, .inl (cI, 10, .inl g2_6))] H := hP
  have hD : va_D A [(h0, .inr (11, fs0)), (q8, .inr (6, fs7_4)), (q9, .inr (7, fs9)), (q1, .inl (cI, 250, .inl g1_5)), (q2, .inl (cI, 10, .inl g2_6))] := hD
  refine tov (v := 0) hr_9 ?_
  refine lv_if_eq (tgt := 25) hx hb dX11_wish_5 (by decide) (fun _ => ?_) (fun h => (h (by decide)).elim)
  refine lv_iconst (v := (-1)) hx hb dX11_wish_25 (by decide) ?_
  exact fin_i hx hb hr hlk hK hP hD hS dX11_wish_26 (rfl)
set_option maxRecDepth 100000 in
set_option maxHeartbeats 4000000 in
theorem c_X11_may (l : Launch) (D : va_G) (cI cJ cZ : ClassId) (h0 q8 q9 q1 q2 : Nat) (fs0 fs8 fs9 : List Value) (f1 : Nat → Int32) (f2 : Nat → Int32) (p0 : Int32) (p1 : Int32) (hl_fs0 : fs0.length = 14) (hf_fs0_5 : fs0[5]? = some (.ref q8)) (hf_fs0_4 : fs0[4]? = some (.ref q9)) (hf_fs0_12 : fs0[12]? = some (.int (-1))) (hl_fs8 : fs8.length = 16) (hf_fs8_0 : fs8[0]? = some (.int (-1))) (hf_fs8_1 : fs8[1]? = some (.int 0)) (hf_fs8_14 : fs8[14]? = some (.ref q1)) (hf_fs8_15 : fs8[15]? = some (.ref q2)) (hl_fs9 : fs9.length = 8) (hf_fs9_0 : fs9[0]? = some (.int 0)) : Con_i l yX11_may cX11_may 3 (some .int) ({ frames := 4, cells := 0, slots := 0, locals := 87 }) D cI cJ cZ eT [.ref h0, .int p0, .int p1] [(h0, .inr (11, fs0)), (q8, .inr (6, fs8)), (q9, .inr (7, fs9)), (q1, .inl (cI, 250, .inl f1)), (q2, .inl (cI, 10, .inl f2))] (fun r _ => r = (-1)) := by
  refine ent_i (by decide) (Nat.le_of_ble_eq_true rfl) ?_
  intro p e s m below meth c A hx hb hml hown hts hr hlk hnm hK hE hA hP hD hS ls hl
  have hown : s.vm.findClass RX11 = some m.cls := hown
  have hl : lv_has ls 3 [(0, .ref h0), (1, .int p0), (2, .int p1)] := hl
  refine lv_aload_n hx hb dX11_may_0 rfl (lv_at hl 0 rfl) ?_
  refine lv_iload_n hx hb dX11_may_1 rfl (lv_at hl 1 rfl) ?_
  refine cl_i (wr := []) (rn_V (As := [.int p0]) (rest := []) hx hb hml hown hts (c_X11_isChild l D cI cJ cZ h0 q8 q9 q1 q2 fs0 fs8 fs9 f1 f2 p0 hl_fs0 hf_fs0_5 hf_fs0_4 hf_fs0_12 hl_fs8 hf_fs8_0 hf_fs8_1 hf_fs8_14 hf_fs8_15 hl_fs9 hf_fs9_0 _) ⟨rfl, rfl⟩ sv_X11_222 ⟨(Nat.le_of_ble_eq_true rfl), (Nat.le_of_ble_eq_true rfl)⟩ ⟨(Nat.le_of_ble_eq_true rfl), (Nat.le_of_ble_eq_true rfl)⟩ (fun _ _ _ _ h => h) (fun _ _ _ => trivial) hK hP hD [0, 1, 2, 3, 4] rfl rfl 0 11 rfl rfl rfl rfl hl.1 rfl (Nat.le_of_ble_eq_true rfl) dX11_may_2) hP hD hS hA [0, 1, 2, 3, 4] [] rfl rfl rfl (by decide) (fun r_3 w_2 H locs hw_1 hP hD hS => ?_)
  obtain ⟨fs7_4, g1_5, g2_6, rfl, h_7, h_8, hr_9⟩ := hw_1
  have hP : va_P D vwCl [(h0, .inr (11, fs0)), (q8, .inr (6, fs7_4)), (q9, .inr (7, fs9)), (q1, .inl (cI, 250, .inl g1_5)), (q2, .inl (cI, 10, .inl g2_6))] H := hP
  have hD : va_D A [(h0, .inr (11, fs0)), (q8, .inr (6, fs7_4)), (q9, .inr (7, fs9)), (q1, .inl (cI, 250, .inl g1_5)), (q2, .inl (cI, 10, .inl g2_6))] := hD
  refine tov (v := 0) hr_9 ?_
  refine lv_if_eq (tgt := 16) hx hb dX11_may_5 (by decide) (fun _ => ?_) (fun h => (h (by decide)).elim)
  refine lv_iconst (v := (-1)) hx hb dX11_may_16 (by decide) ?_
  exact fin_i hx hb hr hlk hK hP hD hS dX11_may_17 (rfl)
set_option maxRecDepth 100000 in
set_option maxHeartbeats 4000000 in
theorem c_X11_points (l : Launch) (D : va_G) (cI cJ cZ : ClassId) (h0 q8 q9 q1 q2 : Nat) (fs0 fs8 fs9 : List Value) (f1 : Nat → Int32) (f2 : Nat → Int32) (p0 : Int32) (p1 : Int32) (hl_fs0 : fs0.length = 14) (hf_fs0_5 : fs0[5]? = some (.ref q8)) (hf_fs0_4 : fs0[4]? = some (.ref q9)) (hf_fs0_12 : fs0[12]? = some (.int (-1))) (hl_fs8 : fs8.length = 16) (hf_fs8_0 : fs8[0]? = some (.int (-1))) (hf_fs8_1 : fs8[1]? = some (.int 0)) (hf_fs8_14 : fs8[14]? = some (.ref q1)) (hf_fs8_15 : fs8[15]? = some (.ref q2)) (hl_fs9 : fs9.length = 8) (hf_fs9_0 : fs9[0]? = some (.int 0)) : Con_i l yX11_points cX11_points 3 (some .int) ({ frames := 4, cells := 0, slots := 0, locals := 87 }) D cI cJ cZ eT [.ref h0, .int p0, .int p1] [(h0, .inr (11, fs0)), (q8, .inr (6, fs8)), (q9, .inr (7, fs9)), (q1, .inl (cI, 250, .inl f1)), (q2, .inl (cI, 10, .inl f2))] (fun r _ => r = (-2000000000)) := by
  refine ent_i (by decide) (Nat.le_of_ble_eq_true rfl) ?_
  intro p e s m below meth c A hx hb hml hown hts hr hlk hnm hK hE hA hP hD hS ls hl
  have hown : s.vm.findClass RX11 = some m.cls := hown
  have hl : lv_has ls 3 [(0, .ref h0), (1, .int p0), (2, .int p1)] := hl
  refine lv_aload_n hx hb dX11_points_0 rfl (lv_at hl 0 rfl) ?_
  refine lv_iload_n hx hb dX11_points_1 rfl (lv_at hl 1 rfl) ?_
  refine cl_i (wr := []) (rn_V (As := [.int p0]) (rest := []) hx hb hml hown hts (c_X11_isChild l D cI cJ cZ h0 q8 q9 q1 q2 fs0 fs8 fs9 f1 f2 p0 hl_fs0 hf_fs0_5 hf_fs0_4 hf_fs0_12 hl_fs8 hf_fs8_0 hf_fs8_1 hf_fs8_14 hf_fs8_15 hl_fs9 hf_fs9_0 _) ⟨rfl, rfl⟩ sv_X11_222 ⟨(Nat.le_of_ble_eq_true rfl), (Nat.le_of_ble_eq_true rfl)⟩ ⟨(Nat.le_of_ble_eq_true rfl), (Nat.le_of_ble_eq_true rfl)⟩ (fun _ _ _ _ h => h) (fun _ _ _ => trivial) hK hP hD [0, 1, 2, 3, 4] rfl rfl 0 11 rfl rfl rfl rfl hl.1 rfl (Nat.le_of_ble_eq_true rfl) dX11_points_2) hP hD hS hA [0, 1, 2, 3, 4] [] rfl rfl rfl (by decide) (fun r_3 w_2 H locs hw_1 hP hD hS => ?_)
  obtain ⟨fs7_4, g1_5, g2_6, rfl, h_7, h_8, hr_9⟩ := hw_1
  have hP : va_P D vwCl [(h0, .inr (11, fs0)), (q8, .inr (6, fs7_4)), (q9, .inr (7, fs9)), (q1, .inl (cI, 250, .inl g1_5)), (q2, .inl (cI, 10, .inl g2_6))] H := hP
  have hD : va_D A [(h0, .inr (11, fs0)), (q8, .inr (6, fs7_4)), (q9, .inr (7, fs9)), (q1, .inl (cI, 250, .inl g1_5)), (q2, .inl (cI, 10, .inl g2_6))] := hD
  refine tov (v := 0) hr_9 ?_
  refine lv_if_eq (tgt := 16) hx hb dX11_points_5 (by decide) (fun _ => ?_) (fun h => (h (by decide)).elim)
  refine lv_ldc hx hb hown (hts _ wd_1065) dX11_points_16 ?_
  exact fin_i hx hb hr hlk hK hP hD hS dX11_points_18 (rfl)
set_option maxRecDepth 100000 in
set_option maxHeartbeats 4000000 in
theorem c_X3_clear (l : Launch) (D : va_G) (cI cJ cZ : ClassId) (h0 q3 q4 : Nat) (fs0 : List Value) (f3 : Nat → Int32) (f4 : Nat → Int32) (hl_fs0 : fs0.length = 12) (hf_fs0_4 : fs0[4]? = some (.ref q3)) (hf_fs0_5 : fs0[5]? = some (.ref q4)) : Con_v l yX3_clear cX3_clear 2 none ({ frames := 1, cells := 0, slots := 0, locals := 23 }) D cI cJ cZ eT [.ref h0, .int 0] [(h0, .inr (3, fs0)), (q3, .inl (cI, 25, .inl f3)), (q4, .inl (cI, 40, .inl f4))] (fun w => ∃ (fs1 : List Value) (g3 : Nat → Int32) (g4 : Nat → Int32), w = [(h0, .inr (3, fs1)), (q3, .inl (cI, 25, .inl g3)), (q4, .inl (cI, 40, .inl g4))] ∧ fs1.length = 12 ∧ fs1[1]? = some (.int 0) ∧ fs1[4]? = some (.ref q3) ∧ fs1[5]? = some (.ref q4)) := by
  refine ent_v (by decide) (Nat.le_of_ble_eq_true rfl) ?_
  intro p e s m below meth c A hx hb hml hown hts hr hlk hnm hK hE hA hP hD hS ls hl
  have hown : s.vm.findClass RX3 = some m.cls := hown
  have hl : lv_has ls 2 [(0, .ref h0), (1, .int 0)] := hl
  refine lv_aload_n hx hb dX3_clear_0 rfl (lv_at hl 0 rfl) ?_
  refine lv_iload_n hx hb dX3_clear_1 rfl (lv_at hl 1 rfl) ?_
  refine pt_X3 hx hb hts hown hK hP hD hS 0 rfl 0 (by decide) wd_400 rfl rfl (ty := .int) (v := .int 0) (by decide +kernel) rfl rfl (ln_lt hl_fs0 (by decide)) dX3_clear_2 (fun H locs hP hD hS => ?_)
  have hP : va_P D vwCl [(h0, .inr (3, (fs0.set 0 (.int 0)))), (q3, .inl (cI, 25, .inl f3)), (q4, .inl (cI, 40, .inl f4))] H := hP
  have hD : va_D A [(h0, .inr (3, (fs0.set 0 (.int 0)))), (q3, .inl (cI, 25, .inl f3)), (q4, .inl (cI, 40, .inl f4))] := hD
  refine lv_aload_n hx hb dX3_clear_5 rfl (lv_at hl 0 rfl) ?_
  refine lv_iconst (v := 0) hx hb dX3_clear_6 (by decide) ?_
  refine pt_X3 hx hb hts hown hK hP hD hS 0 rfl 1 (by decide) wd_404 rfl rfl (ty := .int) (v := .int 0) (by decide +kernel) rfl rfl (ln_lt (ln_set hl_fs0) (by decide)) dX3_clear_7 (fun H locs hP hD hS => ?_)
  have hP : va_P D vwCl [(h0, .inr (3, ((fs0.set 0 (.int 0)).set 1 (.int 0)))), (q3, .inl (cI, 25, .inl f3)), (q4, .inl (cI, 40, .inl f4))] H := hP
  have hD : va_D A [(h0, .inr (3, ((fs0.set 0 (.int 0)).set 1 (.int 0)))), (q3, .inl (cI, 25, .inl f3)), (q4, .inl (cI, 40, .inl f4))] := hD
  refine lv_aload_n hx hb dX3_clear_10 rfl (lv_at hl 0 rfl) ?_
  refine lv_iconst (v := 0) hx hb dX3_clear_11 (by decide) ?_
  refine pt_X3 hx hb hts hown hK hP hD hS 0 rfl 2 (by decide) wd_407 rfl rfl (ty := .int) (v := .int 0) (by decide +kernel) rfl rfl (ln_lt (ln_set (ln_set hl_fs0)) (by decide)) dX3_clear_12 (fun H locs hP hD hS => ?_)
  have hP : va_P D vwCl [(h0, .inr (3, (((fs0.set 0 (.int 0)).set 1 (.int 0)).set 2 (.int 0)))), (q3, .inl (cI, 25, .inl f3)), (q4, .inl (cI, 40, .inl f4))] H := hP
  have hD : va_D A [(h0, .inr (3, (((fs0.set 0 (.int 0)).set 1 (.int 0)).set 2 (.int 0)))), (q3, .inl (cI, 25, .inl f3)), (q4, .inl (cI, 40, .inl f4))] := hD
  refine lv_aload_n hx hb dX3_clear_15 rfl (lv_at hl 0 rfl) ?_
  refine gt_X3 hx hb hts hown hK hP 0 rfl 4 (by decide) wd_413 rfl (gs_ne (by decide) (gs_ne (by decide) (gs_ne (by decide) hf_fs0_4))) dX3_clear_16 ?_
  refine lv_iconst (v := 0) hx hb dX3_clear_19 (by decide) ?_
  refine lv_iconst (v := 0) hx hb dX3_clear_20 (by decide) ?_
  refine va_iast hx hb hK hP hD hS 1 0 rfl rfl (vp_in_c (by decide)) dX3_clear_21 (fun H locs hP hD hS => ?_)
  obtain ⟨f_1, ef_1⟩ : ∃ z, z = upd f3 (0 : Int32).toNatClampNeg 0 := ⟨_, rfl⟩
  rw [← ef_1] at hP hD
  have hP : va_P D vwCl [(h0, .inr (3, (((fs0.set 0 (.int 0)).set 1 (.int 0)).set 2 (.int 0)))), (q3, .inl (cI, 25, .inl f_1)), (q4, .inl (cI, 40, .inl f4))] H := hP
  have hD : va_D A [(h0, .inr (3, (((fs0.set 0 (.int 0)).set 1 (.int 0)).set 2 (.int 0)))), (q3, .inl (cI, 25, .inl f_1)), (q4, .inl (cI, 40, .inl f4))] := hD
  refine lv_aload_n hx hb dX3_clear_22 rfl (lv_at hl 0 rfl) ?_
  refine gt_X3 hx hb hts hown hK hP 0 rfl 5 (by decide) wd_416 rfl (gs_ne (by decide) (gs_ne (by decide) (gs_ne (by decide) hf_fs0_5))) dX3_clear_23 ?_
  refine lv_iconst (v := (-1)) hx hb dX3_clear_26 (by decide) ?_
  refine cl_v (wr := [(h0, .inr (3, (((fs0.set 0 (.int 0)).set 1 (.int 0)).set 2 (.int 0)))), (q3, .inl (cI, 25, .inl f_1))]) (rn_S (As := [.ref q4, .int (-1)]) (rest := []) hx hb hml hown hts (c_fill_40 l D cI cJ cZ q4 f4 (-1) _) ⟨rfl, rfl⟩ sv_X3_49 ⟨(Nat.le_of_ble_eq_true rfl), (Nat.le_of_ble_eq_true rfl)⟩ ⟨(Nat.le_of_ble_eq_true rfl), (Nat.le_of_ble_eq_true rfl)⟩ (fun _ _ _ _ h => h) (fun _ _ _ => trivial) hK hP hD [2] rfl rfl rfl hl.1 rfl (Nat.le_of_ble_eq_true rfl) dX3_clear_27) hP hD hS hA [2] [0, 1] rfl rfl rfl (by decide) (fun w_3 H locs hw_2 hP hD hS => ?_)
  obtain ⟨f2_5, rfl⟩ := hw_2
  have hP : va_P D vwCl [(h0, .inr (3, (((fs0.set 0 (.int 0)).set 1 (.int 0)).set 2 (.int 0)))), (q3, .inl (cI, 25, .inl f_1)), (q4, .inl (cI, 40, .inl f2_5))] H := hP
  have hD : va_D A [(h0, .inr (3, (((fs0.set 0 (.int 0)).set 1 (.int 0)).set 2 (.int 0)))), (q3, .inl (cI, 25, .inl f_1)), (q4, .inl (cI, 40, .inl f2_5))] := hD
  exact fin_v hx hb hr hlk hK hP hD hS dX3_clear_30 (⟨(((fs0.set 0 (.int 0)).set 1 (.int 0)).set 2 (.int 0)), f_1, f2_5, rfl, (ln_set (ln_set (ln_set hl_fs0))), (gs_ne (by decide) (gs_eq (ln_lt (ln_set hl_fs0) (by decide)))), (gs_ne (by decide) (gs_ne (by decide) (gs_ne (by decide) hf_fs0_4))), (gs_ne (by decide) (gs_ne (by decide) (gs_ne (by decide) hf_fs0_5)))⟩)
set_option maxRecDepth 100000 in
set_option maxHeartbeats 4000000 in
theorem c_X3_addDay (l : Launch) (D : va_G) (cI cJ cZ : ClassId) (h0 q1 q2 q5 : Nat) (fs0 fs1 : List Value) (p0 : Int32) (hl_fs0 : fs0.length = 12) (hf_fs0_1 : fs0[1]? = some (.int 0)) (hl_fs1 : fs1.length = 16) (hf_fs1_2 : fs1[2]? = some (.int 0)) : Con_v l yX3_addDay cX3_addDay 7 none ({ frames := 0, cells := 0, slots := 0, locals := 0 }) D cI cJ cZ eT [.ref h0, .ref q1, .ref q2, .int p0, .ref q5] [(h0, .inr (3, fs0)), (q1, .inr (6, fs1))] (fun w => w = [(h0, .inr (3, fs0)), (q1, .inr (6, fs1))]) := by
  refine ent_v (by decide) (Nat.le_of_ble_eq_true rfl) ?_
  intro p e s m below meth c A hx hb hml hown hts hr hlk hnm hK hE hA hP hD hS ls hl
  have hown : s.vm.findClass RX3 = some m.cls := hown
  have hl : lv_has ls 7 [(0, .ref h0), (1, .ref q1), (2, .ref q2), (3, .int p0), (4, .ref q5)] := hl
  refine lv_aload_n hx hb dX3_addDay_0 rfl (lv_at hl 0 rfl) ?_
  refine gt_X3 hx hb hts hown hK hP 0 rfl 1 (by decide) wd_404 rfl hf_fs0_1 dX3_addDay_1 ?_
  refine lv_istore (lv' := [(5, .int 0), (0, .ref h0), (1, .ref q1), (2, .ref q2), (3, .int p0), (4, .ref q5)]) hx hb dX3_addDay_4 hl (by decide) rfl (fun ls hl => ?_)
  refine lv_iconst (v := 0) hx hb dX3_addDay_6 (by decide) ?_
  refine lv_istore (lv' := [(6, .int 0), (5, .int 0), (0, .ref h0), (1, .ref q1), (2, .ref q2), (3, .int p0), (4, .ref q5)]) hx hb dX3_addDay_7 hl (by decide) rfl (fun ls hl => ?_)
  refine lv_iload hx hb dX3_addDay_9 (lv_at hl 0 rfl) ?_
  refine lv_aload_n hx hb dX3_addDay_11 rfl (lv_at hl 3 rfl) ?_
  refine gt_X6 hx hb hts hown hK hP 1 rfl 2 (by decide) wd_294 rfl hf_fs1_2 dX3_addDay_12 ?_
  refine lv_icmp_ge (tgt := 52) hx hb dX3_addDay_15 (by decide) (fun _ => ?_) (fun h => (h (by decide)).elim)
  refine lv_aload_n hx hb dX3_addDay_52 rfl (lv_at hl 2 rfl) ?_
  refine gt_X3 hx hb hts hown hK hP 0 rfl 1 (by decide) wd_404 rfl hf_fs0_1 dX3_addDay_53 ?_
  refine lv_iload hx hb dX3_addDay_56 (lv_at hl 1 rfl) ?_
  refine lv_icmp_le (tgt := 131) hx hb dX3_addDay_58 (by decide) (fun _ => ?_) (fun h => (h (by decide)).elim)
  exact fin_v hx hb hr hlk hK hP hD hS dX3_addDay_131 (rfl)
set_option maxRecDepth 100000 in
set_option maxHeartbeats 4000000 in
theorem c_X9_deal (l : Launch) (D : va_G) (cI cJ cZ : ClassId) (h0 q1 : Nat) (fs0 fs1 : List Value) (hl_fs0 : fs0.length = 16) (hf_fs0_0 : fs0[0]? = some (.ref q1)) (hl_fs1 : fs1.length = 12) (hf_fs1_1 : fs1[1]? = some (.int 0)) : Con_v l yX9_deal cX9_deal 2 none ({ frames := 0, cells := 0, slots := 0, locals := 0 }) D cI cJ cZ eT [.ref h0] [(h0, .inr (9, fs0)), (q1, .inr (3, fs1))] (fun w => w = [(h0, .inr (9, fs0)), (q1, .inr (3, fs1))]) := by
  refine ent_v (by decide) (Nat.le_of_ble_eq_true rfl) ?_
  intro p e s m below meth c A hx hb hml hown hts hr hlk hnm hK hE hA hP hD hS ls hl
  have hown : s.vm.findClass RX9 = some m.cls := hown
  have hl : lv_has ls 2 [(0, .ref h0)] := hl
  refine lv_aload_n hx hb dX9_deal_0 rfl (lv_at hl 0 rfl) ?_
  refine gt_X9 hx hb hts hown hK hP 0 rfl 0 (by decide) wd_511 rfl hf_fs0_0 dX9_deal_1 ?_
  refine gt_X3 hx hb hts hown hK hP 1 rfl 1 (by decide) wd_403 rfl hf_fs1_1 dX9_deal_4 ?_
  refine lv_if_ne (tgt := 11) hx hb dX9_deal_7 (by decide) (fun h => (h (by decide)).elim) (fun _ => ?_)
  exact fin_v hx hb hr hlk hK hP hD hS dX9_deal_10 (rfl)
set_option maxRecDepth 100000 in
set_option maxHeartbeats 4000000 in
theorem c_X4_keep (l : Launch) (D : va_G) (cI cJ cZ : ClassId) (h0 q1 q2 q3 q6 q7 q8 : Nat) (fs0 fs1 : List Value) (f2 : Nat → Int32) (f3 : Nat → Int32) (hl_fs0 : fs0.length = 17) (hf_fs0_9 : fs0[9]? = some (.ref q3)) (hl_fs1 : fs1.length = 16) (hf_fs1_2 : fs1[2]? = some (.int 0)) : Con_i l yX4_keep cX4_keep 9 (some .int) ({ frames := 0, cells := 0, slots := 0, locals := 0 }) D cI cJ cZ eT [.ref h0, .ref q6, .ref q1, .ref q7, .ref q8, .ref q2] [(h0, .inr (4, fs0)), (q1, .inr (6, fs1)), (q2, .inl (cI, 10, .inl f2)), (q3, .inl (cI, 10, .inl f3))] (fun (r : Int32) (w : va_W) => ∃ (fs2 : List Value) (g3 : Nat → Int32), w = [(h0, .inr (4, fs2)), (q1, .inr (6, fs1)), (q2, .inl (cI, 10, .inl f2)), (q3, .inl (cI, 10, .inl g3))] ∧ fs2.length = 17 ∧ r = 0) := by
  refine ent_i (by decide) (Nat.le_of_ble_eq_true rfl) ?_
  intro p e s m below meth c A hx hb hml hown hts hr hlk hnm hK hE hA hP hD hS ls hl
  have hown : s.vm.findClass RX4 = some m.cls := hown
  have hl : lv_has ls 9 [(0, .ref h0), (1, .ref q6), (2, .ref q1), (3, .ref q7), (4, .ref q8), (5, .ref q2)] := hl
  refine lv_aload_n hx hb dX4_keep_0 rfl (lv_at hl 0 rfl) ?_
  refine lv_iconst (v := 1) hx hb dX4_keep_1 (by decide) ?_
  refine pt_X4 hx hb hts hown hK hP hD hS 0 rfl 0 (by decide) wd_566 rfl rfl (ty := .boolean) (v := .int 1) (by decide +kernel) rfl rfl (ln_lt hl_fs0 (by decide)) dX4_keep_2 (fun H locs hP hD hS => ?_)
  have hP : va_P D vwCl [(h0, .inr (4, (fs0.set 0 (.int 1)))), (q1, .inr (6, fs1)), (q2, .inl (cI, 10, .inl f2)), (q3, .inl (cI, 10, .inl f3))] H := hP
  have hD : va_D A [(h0, .inr (4, (fs0.set 0 (.int 1)))), (q1, .inr (6, fs1)), (q2, .inl (cI, 10, .inl f2)), (q3, .inl (cI, 10, .inl f3))] := hD
  refine lv_aload_n hx hb dX4_keep_5 rfl (lv_at hl 0 rfl) ?_
  refine lv_iconst (v := (-1)) hx hb dX4_keep_6 (by decide) ?_
  refine pt_X4 hx hb hts hown hK hP hD hS 0 rfl 11 (by decide) wd_584 rfl rfl (ty := .int) (v := .int (-1)) (by decide +kernel) rfl rfl (ln_lt (ln_set hl_fs0) (by decide)) dX4_keep_7 (fun H locs hP hD hS => ?_)
  have hP : va_P D vwCl [(h0, .inr (4, ((fs0.set 0 (.int 1)).set 11 (.int (-1))))), (q1, .inr (6, fs1)), (q2, .inl (cI, 10, .inl f2)), (q3, .inl (cI, 10, .inl f3))] H := hP
  have hD : va_D A [(h0, .inr (4, ((fs0.set 0 (.int 1)).set 11 (.int (-1))))), (q1, .inr (6, fs1)), (q2, .inl (cI, 10, .inl f2)), (q3, .inl (cI, 10, .inl f3))] := hD
  refine lv_aload_n hx hb dX4_keep_10 rfl (lv_at hl 0 rfl) ?_
  refine lv_aload_n hx hb dX4_keep_11 rfl (lv_at hl 2 rfl) ?_
  refine gt_X6 hx hb hts hown hK hP 1 rfl 2 (by decide) wd_293 rfl hf_fs1_2 dX4_keep_12 ?_
  refine pt_X4 hx hb hts hown hK hP hD hS 0 rfl 1 (by decide) wd_569 rfl rfl (ty := .int) (v := .int 0) (by decide +kernel) rfl rfl (ln_lt (ln_set (ln_set hl_fs0)) (by decide)) dX4_keep_15 (fun H locs hP hD hS => ?_)
  have hP : va_P D vwCl [(h0, .inr (4, (((fs0.set 0 (.int 1)).set 11 (.int (-1))).set 1 (.int 0)))), (q1, .inr (6, fs1)), (q2, .inl (cI, 10, .inl f2)), (q3, .inl (cI, 10, .inl f3))] H := hP
  have hD : va_D A [(h0, .inr (4, (((fs0.set 0 (.int 1)).set 11 (.int (-1))).set 1 (.int 0)))), (q1, .inr (6, fs1)), (q2, .inl (cI, 10, .inl f2)), (q3, .inl (cI, 10, .inl f3))] := hD
  refine lv_aload_n hx hb dX4_keep_18 rfl (lv_at hl 0 rfl) ?_
  refine lv_iconst (v := 0) hx hb dX4_keep_19 (by decide) ?_
  refine pt_X4 hx hb hts hown hK hP hD hS 0 rfl 10 (by decide) wd_583 rfl rfl (ty := .int) (v := .int 0) (by decide +kernel) rfl rfl (ln_lt (ln_set (ln_set (ln_set hl_fs0))) (by decide)) dX4_keep_20 (fun H locs hP hD hS => ?_)
  have hP : va_P D vwCl [(h0, .inr (4, ((((fs0.set 0 (.int 1)).set 11 (.int (-1))).set 1 (.int 0)).set 10 (.int 0)))), (q1, .inr (6, fs1)), (q2, .inl (cI, 10, .inl f2)), (q3, .inl (cI, 10, .inl f3))] H := hP
  have hD : va_D A [(h0, .inr (4, ((((fs0.set 0 (.int 1)).set 11 (.int (-1))).set 1 (.int 0)).set 10 (.int 0)))), (q1, .inr (6, fs1)), (q2, .inl (cI, 10, .inl f2)), (q3, .inl (cI, 10, .inl f3))] := hD
  refine lv_iconst (v := 0) hx hb dX4_keep_23 (by decide) ?_
  refine lv_istore (lv' := [(6, .int 0), (0, .ref h0), (1, .ref q6), (2, .ref q1), (3, .ref q7), (4, .ref q8), (5, .ref q2)]) hx hb dX4_keep_24 hl (by decide) rfl (fun ls hl => ?_)
  refine lv_iload hx hb dX4_keep_26 (lv_at hl 0 rfl) ?_
  refine lv_bipush (v := 10) hx hb dX4_keep_28 (by decide) ?_
  refine lv_icmp_ge (tgt := 51) hx hb dX4_keep_30 (by decide) (fun h => absurd h (by decide)) (fun _ => ?_)
  refine lv_aload_n hx hb dX4_keep_33 rfl (lv_at hl 1 rfl) ?_
  refine gt_X4 hx hb hts hown hK hP 0 rfl 9 (by decide) wd_581 rfl (gs_ne (by decide) (gs_ne (by decide) (gs_ne (by decide) (gs_ne (by decide) hf_fs0_9)))) dX4_keep_34 ?_
  refine lv_iload hx hb dX4_keep_37 (lv_at hl 0 rfl) ?_
  refine lv_aload hx hb dX4_keep_39 (lv_at hl 6 rfl) ?_
  refine lv_iload hx hb dX4_keep_41 (lv_at hl 0 rfl) ?_
  refine va_iald hx hb hK hP 2 0 rfl rfl (vp_in_c (by decide)) dX4_keep_43 ?_
  refine lv_topi (fun v_1 ev_1 => ?_)
  refine va_iast hx hb hK hP hD hS 3 0 rfl rfl (vp_in_c (by decide)) dX4_keep_44 (fun H locs hP hD hS => ?_)
  obtain ⟨f_2, ef_2⟩ : ∃ z, z = upd f3 (0 : Int32).toNatClampNeg v_1 := ⟨_, rfl⟩
  rw [← ef_2] at hP hD
  have hP : va_P D vwCl [(h0, .inr (4, ((((fs0.set 0 (.int 1)).set 11 (.int (-1))).set 1 (.int 0)).set 10 (.int 0)))), (q1, .inr (6, fs1)), (q2, .inl (cI, 10, .inl f2)), (q3, .inl (cI, 10, .inl f_2))] H := hP
  have hD : va_D A [(h0, .inr (4, ((((fs0.set 0 (.int 1)).set 11 (.int (-1))).set 1 (.int 0)).set 10 (.int 0)))), (q1, .inr (6, fs1)), (q2, .inl (cI, 10, .inl f2)), (q3, .inl (cI, 10, .inl f_2))] := hD
  refine lv_iinc (v := 1) (lv' := [(6, .int 1), (0, .ref h0), (1, .ref q6), (2, .ref q1), (3, .ref q7), (4, .ref q8), (5, .ref q2)]) hx hb dX4_keep_45 hl (k := 0) rfl (by decide) (by decide) rfl (fun ls hl => ?_)
  refine lv_goto (tgt := 26) hx hb dX4_keep_48 (by decide) ?_
  refine lv_iload hx hb dX4_keep_26 (lv_at hl 0 rfl) ?_
  refine lv_bipush (v := 10) hx hb dX4_keep_28 (by decide) ?_
  refine lv_icmp_ge (tgt := 51) hx hb dX4_keep_30 (by decide) (fun h => absurd h (by decide)) (fun _ => ?_)
  refine lv_aload_n hx hb dX4_keep_33 rfl (lv_at hl 1 rfl) ?_
  refine gt_X4 hx hb hts hown hK hP 0 rfl 9 (by decide) wd_581 rfl (gs_ne (by decide) (gs_ne (by decide) (gs_ne (by decide) (gs_ne (by decide) hf_fs0_9)))) dX4_keep_34 ?_
  refine lv_iload hx hb dX4_keep_37 (lv_at hl 0 rfl) ?_
  refine lv_aload hx hb dX4_keep_39 (lv_at hl 6 rfl) ?_
  refine lv_iload hx hb dX4_keep_41 (lv_at hl 0 rfl) ?_
  refine va_iald hx hb hK hP 2 0 rfl rfl (vp_in_c (by decide)) dX4_keep_43 ?_
  refine lv_topi (fun v_3 ev_3 => ?_)
  refine va_iast hx hb hK hP hD hS 3 0 rfl rfl (vp_in_c (by decide)) dX4_keep_44 (fun H locs hP hD hS => ?_)
  obtain ⟨f_4, ef_4⟩ : ∃ z, z = upd f_2 (1 : Int32).toNatClampNeg v_3 := ⟨_, rfl⟩
  rw [← ef_4] at hP hD
  have hP : va_P D vwCl [(h0, .inr (4, ((((fs0.set 0 (.int 1)).set 11 (.int (-1))).set 1 (.int 0)).set 10 (.int 0)))), (q1, .inr (6, fs1)), (q2, .inl (cI, 10, .inl f2)), (q3, .inl (cI, 10, .inl f_4))] H := hP
  have hD : va_D A [(h0, .inr (4, ((((fs0.set 0 (.int 1)).set 11 (.int (-1))).set 1 (.int 0)).set 10 (.int 0)))), (q1, .inr (6, fs1)), (q2, .inl (cI, 10, .inl f2)), (q3, .inl (cI, 10, .inl f_4))] := hD
  refine lv_iinc (v := 2) (lv' := [(6, .int 2), (0, .ref h0), (1, .ref q6), (2, .ref q1), (3, .ref q7), (4, .ref q8), (5, .ref q2)]) hx hb dX4_keep_45 hl (k := 0) rfl (by decide) (by decide) rfl (fun ls hl => ?_)
  refine lv_goto (tgt := 26) hx hb dX4_keep_48 (by decide) ?_
  refine lv_iload hx hb dX4_keep_26 (lv_at hl 0 rfl) ?_
  refine lv_bipush (v := 10) hx hb dX4_keep_28 (by decide) ?_
  refine lv_icmp_ge (tgt := 51) hx hb dX4_keep_30 (by decide) (fun h => absurd h (by decide)) (fun _ => ?_)
  refine lv_aload_n hx hb dX4_keep_33 rfl (lv_at hl 1 rfl) ?_
  refine gt_X4 hx hb hts hown hK hP 0 rfl 9 (by decide) wd_581 rfl (gs_ne (by decide) (gs_ne (by decide) (gs_ne (by decide) (gs_ne (by decide) hf_fs0_9)))) dX4_keep_34 ?_
  refine lv_iload hx hb dX4_keep_37 (lv_at hl 0 rfl) ?_
  refine lv_aload hx hb dX4_keep_39 (lv_at hl 6 rfl) ?_
  refine lv_iload hx hb dX4_keep_41 (lv_at hl 0 rfl) ?_
  refine va_iald hx hb hK hP 2 0 rfl rfl (vp_in_c (by decide)) dX4_keep_43 ?_
  refine lv_topi (fun v_5 ev_5 => ?_)
  refine va_iast hx hb hK hP hD hS 3 0 rfl rfl (vp_in_c (by decide)) dX4_keep_44 (fun H locs hP hD hS => ?_)
  obtain ⟨f_6, ef_6⟩ : ∃ z, z = upd f_4 (2 : Int32).toNatClampNeg v_5 := ⟨_, rfl⟩
  rw [← ef_6] at hP hD
  have hP : va_P D vwCl [(h0, .inr (4, ((((fs0.set 0 (.int 1)).set 11 (.int (-1))).set 1 (.int 0)).set 10 (.int 0)))), (q1, .inr (6, fs1)), (q2, .inl (cI, 10, .inl f2)), (q3, .inl (cI, 10, .inl f_6))] H := hP
  have hD : va_D A [(h0, .inr (4, ((((fs0.set 0 (.int 1)).set 11 (.int (-1))).set 1 (.int 0)).set 10 (.int 0)))), (q1, .inr (6, fs1)), (q2, .inl (cI, 10, .inl f2)), (q3, .inl (cI, 10, .inl f_6))] := hD
  refine lv_iinc (v := 3) (lv' := [(6, .int 3), (0, .ref h0), (1, .ref q6), (2, .ref q1), (3, .ref q7), (4, .ref q8), (5, .ref q2)]) hx hb dX4_keep_45 hl (k := 0) rfl (by decide) (by decide) rfl (fun ls hl => ?_)
  refine lv_goto (tgt := 26) hx hb dX4_keep_48 (by decide) ?_
  refine lv_iload hx hb dX4_keep_26 (lv_at hl 0 rfl) ?_
  refine lv_bipush (v := 10) hx hb dX4_keep_28 (by decide) ?_
  refine lv_icmp_ge (tgt := 51) hx hb dX4_keep_30 (by decide) (fun h => absurd h (by decide)) (fun _ => ?_)
  refine lv_aload_n hx hb dX4_keep_33 rfl (lv_at hl 1 rfl) ?_
  refine gt_X4 hx hb hts hown hK hP 0 rfl 9 (by decide) wd_581 rfl (gs_ne (by decide) (gs_ne (by decide) (gs_ne (by decide) (gs_ne (by decide) hf_fs0_9)))) dX4_keep_34 ?_
  refine lv_iload hx hb dX4_keep_37 (lv_at hl 0 rfl) ?_
  refine lv_aload hx hb dX4_keep_39 (lv_at hl 6 rfl) ?_
  refine lv_iload hx hb dX4_keep_41 (lv_at hl 0 rfl) ?_
  refine va_iald hx hb hK hP 2 0 rfl rfl (vp_in_c (by decide)) dX4_keep_43 ?_
  refine lv_topi (fun v_7 ev_7 => ?_)
  refine va_iast hx hb hK hP hD hS 3 0 rfl rfl (vp_in_c (by decide)) dX4_keep_44 (fun H locs hP hD hS => ?_)
  obtain ⟨f_8, ef_8⟩ : ∃ z, z = upd f_6 (3 : Int32).toNatClampNeg v_7 := ⟨_, rfl⟩
  rw [← ef_8] at hP hD
  have hP : va_P D vwCl [(h0, .inr (4, ((((fs0.set 0 (.int 1)).set 11 (.int (-1))).set 1 (.int 0)).set 10 (.int 0)))), (q1, .inr (6, fs1)), (q2, .inl (cI, 10, .inl f2)), (q3, .inl (cI, 10, .inl f_8))] H := hP
  have hD : va_D A [(h0, .inr (4, ((((fs0.set 0 (.int 1)).set 11 (.int (-1))).set 1 (.int 0)).set 10 (.int 0)))), (q1, .inr (6, fs1)), (q2, .inl (cI, 10, .inl f2)), (q3, .inl (cI, 10, .inl f_8))] := hD
  refine lv_iinc (v := 4) (lv' := [(6, .int 4), (0, .ref h0), (1, .ref q6), (2, .ref q1), (3, .ref q7), (4, .ref q8), (5, .ref q2)]) hx hb dX4_keep_45 hl (k := 0) rfl (by decide) (by decide) rfl (fun ls hl => ?_)
  refine lv_goto (tgt := 26) hx hb dX4_keep_48 (by decide) ?_
  refine lv_iload hx hb dX4_keep_26 (lv_at hl 0 rfl) ?_
  refine lv_bipush (v := 10) hx hb dX4_keep_28 (by decide) ?_
  refine lv_icmp_ge (tgt := 51) hx hb dX4_keep_30 (by decide) (fun h => absurd h (by decide)) (fun _ => ?_)
  refine lv_aload_n hx hb dX4_keep_33 rfl (lv_at hl 1 rfl) ?_
  refine gt_X4 hx hb hts hown hK hP 0 rfl 9 (by decide) wd_581 rfl (gs_ne (by decide) (gs_ne (by decide) (gs_ne (by decide) (gs_ne (by decide) hf_fs0_9)))) dX4_keep_34 ?_
  refine lv_iload hx hb dX4_keep_37 (lv_at hl 0 rfl) ?_
  refine lv_aload hx hb dX4_keep_39 (lv_at hl 6 rfl) ?_
  refine lv_iload hx hb dX4_keep_41 (lv_at hl 0 rfl) ?_
  refine va_iald hx hb hK hP 2 0 rfl rfl (vp_in_c (by decide)) dX4_keep_43 ?_
  refine lv_topi (fun v_9 ev_9 => ?_)
  refine va_iast hx hb hK hP hD hS 3 0 rfl rfl (vp_in_c (by decide)) dX4_keep_44 (fun H locs hP hD hS => ?_)
  obtain ⟨f_10, ef_10⟩ : ∃ z, z = upd f_8 (4 : Int32).toNatClampNeg v_9 := ⟨_, rfl⟩
  rw [← ef_10] at hP hD
  have hP : va_P D vwCl [(h0, .inr (4, ((((fs0.set 0 (.int 1)).set 11 (.int (-1))).set 1 (.int 0)).set 10 (.int 0)))), (q1, .inr (6, fs1)), (q2, .inl (cI, 10, .inl f2)), (q3, .inl (cI, 10, .inl f_10))] H := hP
  have hD : va_D A [(h0, .inr (4, ((((fs0.set 0 (.int 1)).set 11 (.int (-1))).set 1 (.int 0)).set 10 (.int 0)))), (q1, .inr (6, fs1)), (q2, .inl (cI, 10, .inl f2)), (q3, .inl (cI, 10, .inl f_10))] := hD
  refine lv_iinc (v := 5) (lv' := [(6, .int 5), (0, .ref h0), (1, .ref q6), (2, .ref q1), (3, .ref q7), (4, .ref q8), (5, .ref q2)]) hx hb dX4_keep_45 hl (k := 0) rfl (by decide) (by decide) rfl (fun ls hl => ?_)
  refine lv_goto (tgt := 26) hx hb dX4_keep_48 (by decide) ?_
  refine lv_iload hx hb dX4_keep_26 (lv_at hl 0 rfl) ?_
  refine lv_bipush (v := 10) hx hb dX4_keep_28 (by decide) ?_
  refine lv_icmp_ge (tgt := 51) hx hb dX4_keep_30 (by decide) (fun h => absurd h (by decide)) (fun _ => ?_)
  refine lv_aload_n hx hb dX4_keep_33 rfl (lv_at hl 1 rfl) ?_
  refine gt_X4 hx hb hts hown hK hP 0 rfl 9 (by decide) wd_581 rfl (gs_ne (by decide) (gs_ne (by decide) (gs_ne (by decide) (gs_ne (by decide) hf_fs0_9)))) dX4_keep_34 ?_
  refine lv_iload hx hb dX4_keep_37 (lv_at hl 0 rfl) ?_
  refine lv_aload hx hb dX4_keep_39 (lv_at hl 6 rfl) ?_
  refine lv_iload hx hb dX4_keep_41 (lv_at hl 0 rfl) ?_
  refine va_iald hx hb hK hP 2 0 rfl rfl (vp_in_c (by decide)) dX4_keep_43 ?_
  refine lv_topi (fun v_11 ev_11 => ?_)
  refine va_iast hx hb hK hP hD hS 3 0 rfl rfl (vp_in_c (by decide)) dX4_keep_44 (fun H locs hP hD hS => ?_)
  obtain ⟨f_12, ef_12⟩ : ∃ z, z = upd f_10 (5 : Int32).toNatClampNeg v_11 := ⟨_, rfl⟩
  rw [← ef_12] at hP hD
  have hP : va_P D vwCl [(h0, .inr (4, ((((fs0.set 0 (.int 1)).set 11 (.int (-1))).set 1 (.int 0)).set 10 (.int 0)))), (q1, .inr (6, fs1)), (q2, .inl (cI, 10, .inl f2)), (q3, .inl (cI, 10, .inl f_12))] H := hP
  have hD : va_D A [(h0, .inr (4, ((((fs0.set 0 (.int 1)).set 11 (.int (-1))).set 1 (.int 0)).set 10 (.int 0)))), (q1, .inr (6, fs1)), (q2, .inl (cI, 10, .inl f2)), (q3, .inl (cI, 10, .inl f_12))] := hD
  refine lv_iinc (v := 6) (lv' := [(6, .int 6), (0, .ref h0), (1, .ref q6), (2, .ref q1), (3, .ref q7), (4, .ref q8), (5, .ref q2)]) hx hb dX4_keep_45 hl (k := 0) rfl (by decide) (by decide) rfl (fun ls hl => ?_)
  refine lv_goto (tgt := 26) hx hb dX4_keep_48 (by decide) ?_
  refine lv_iload hx hb dX4_keep_26 (lv_at hl 0 rfl) ?_
  refine lv_bipush (v := 10) hx hb dX4_keep_28 (by decide) ?_
  refine lv_icmp_ge (tgt := 51) hx hb dX4_keep_30 (by decide) (fun h => absurd h (by decide)) (fun _ => ?_)
  refine lv_aload_n hx hb dX4_keep_33 rfl (lv_at hl 1 rfl) ?_
  refine gt_X4 hx hb hts hown hK hP 0 rfl 9 (by decide) wd_581 rfl (gs_ne (by decide) (gs_ne (by decide) (gs_ne (by decide) (gs_ne (by decide) hf_fs0_9)))) dX4_keep_34 ?_
  refine lv_iload hx hb dX4_keep_37 (lv_at hl 0 rfl) ?_
  refine lv_aload hx hb dX4_keep_39 (lv_at hl 6 rfl) ?_
  refine lv_iload hx hb dX4_keep_41 (lv_at hl 0 rfl) ?_
  refine va_iald hx hb hK hP 2 0 rfl rfl (vp_in_c (by decide)) dX4_keep_43 ?_
  refine lv_topi (fun v_13 ev_13 => ?_)
  refine va_iast hx hb hK hP hD hS 3 0 rfl rfl (vp_in_c (by decide)) dX4_keep_44 (fun H locs hP hD hS => ?_)
  obtain ⟨f_14, ef_14⟩ : ∃ z, z = upd f_12 (6 : Int32).toNatClampNeg v_13 := ⟨_, rfl⟩
  rw [← ef_14] at hP hD
  have hP : va_P D vwCl [(h0, .inr (4, ((((fs0.set 0 (.int 1)).set 11 (.int (-1))).set 1 (.int 0)).set 10 (.int 0)))), (q1, .inr (6, fs1)), (q2, .inl (cI, 10, .inl f2)), (q3, .inl (cI, 10, .inl f_14))] H := hP
  have hD : va_D A [(h0, .inr (4, ((((fs0.set 0 (.int 1)).set 11 (.int (-1))).set 1 (.int 0)).set 10 (.int 0)))), (q1, .inr (6, fs1)), (q2, .inl (cI, 10, .inl f2)), (q3, .inl (cI, 10, .inl f_14))] := hD
  refine lv_iinc (v := 7) (lv' := [(6, .int 7), (0, .ref h0), (1, .ref q6), (2, .ref q1), (3, .ref q7), (4, .ref q8), (5, .ref q2)]) hx hb dX4_keep_45 hl (k := 0) rfl (by decide) (by decide) rfl (fun ls hl => ?_)
  refine lv_goto (tgt := 26) hx hb dX4_keep_48 (by decide) ?_
  refine lv_iload hx hb dX4_keep_26 (lv_at hl 0 rfl) ?_
  refine lv_bipush (v := 10) hx hb dX4_keep_28 (by decide) ?_
  refine lv_icmp_ge (tgt := 51) hx hb dX4_keep_30 (by decide) (fun h => absurd h (by decide)) (fun _ => ?_)
  refine lv_aload_n hx hb dX4_keep_33 rfl (lv_at hl 1 rfl) ?_
  refine gt_X4 hx hb hts hown hK hP 0 rfl 9 (by decide) wd_581 rfl (gs_ne (by decide) (gs_ne (by decide) (gs_ne (by decide) (gs_ne (by decide) hf_fs0_9)))) dX4_keep_34 ?_
  refine lv_iload hx hb dX4_keep_37 (lv_at hl 0 rfl) ?_
  refine lv_aload hx hb dX4_keep_39 (lv_at hl 6 rfl) ?_
  refine lv_iload hx hb dX4_keep_41 (lv_at hl 0 rfl) ?_
  refine va_iald hx hb hK hP 2 0 rfl rfl (vp_in_c (by decide)) dX4_keep_43 ?_
  refine lv_topi (fun v_15 ev_15 => ?_)
  refine va_iast hx hb hK hP hD hS 3 0 rfl rfl (vp_in_c (by decide)) dX4_keep_44 (fun H locs hP hD hS => ?_)
  obtain ⟨f_16, ef_16⟩ : ∃ z, z = upd f_14 (7 : Int32).toNatClampNeg v_15 := ⟨_, rfl⟩
  rw [← ef_16] at hP hD
  have hP : va_P D vwCl [(h0, .inr (4, ((((fs0.set 0 (.int 1)).set 11 (.int (-1))).set 1 (.int 0)).set 10 (.int 0)))), (q1, .inr (6, fs1)), (q2, .inl (cI, 10, .inl f2)), (q3, .inl (cI, 10, .inl f_16))] H := hP
  have hD : va_D A [(h0, .inr (4, ((((fs0.set 0 (.int 1)).set 11 (.int (-1))).set 1 (.int 0)).set 10 (.int 0)))), (q1, .inr (6, fs1)), (q2, .inl (cI, 10, .inl f2)), (q3, .inl (cI, 10, .inl f_16))] := hD
  refine lv_iinc (v := 8) (lv' := [(6, .int 8), (0, .ref h0), (1, .ref q6), (2, .ref q1), (3, .ref q7), (4, .ref q8), (5, .ref q2)]) hx hb dX4_keep_45 hl (k := 0) rfl (by decide) (by decide) rfl (fun ls hl => ?_)
  refine lv_goto (tgt := 26) hx hb dX4_keep_48 (by decide) ?_
  refine lv_iload hx hb dX4_keep_26 (lv_at hl 0 rfl) ?_
  refine lv_bipush (v := 10) hx hb dX4_keep_28 (by decide) ?_
  refine lv_icmp_ge (tgt := 51) hx hb dX4_keep_30 (by decide) (fun h => absurd h (by decide)) (fun _ => ?_)
  refine lv_aload_n hx hb dX4_keep_33 rfl (lv_at hl 1 rfl) ?_
  refine gt_X4 hx hb hts hown hK hP 0 rfl 9 (by decide) wd_581 rfl (gs_ne (by decide) (gs_ne (by decide) (gs_ne (by decide) (gs_ne (by decide) hf_fs0_9)))) dX4_keep_34 ?_
  refine lv_iload hx hb dX4_keep_37 (lv_at hl 0 rfl) ?_
  refine lv_aload hx hb dX4_keep_39 (lv_at hl 6 rfl) ?_
  refine lv_iload hx hb dX4_keep_41 (lv_at hl 0 rfl) ?_
  refine va_iald hx hb hK hP 2 0 rfl rfl (vp_in_c (by decide)) dX4_keep_43 ?_
  refine lv_topi (fun v_17 ev_17 => ?_)
  refine va_iast hx hb hK hP hD hS 3 0 rfl rfl (vp_in_c (by decide)) dX4_keep_44 (fun H locs hP hD hS => ?_)
  obtain ⟨f_18, ef_18⟩ : ∃ z, z = upd f_16 (8 : Int32).toNatClampNeg v_17 := ⟨_, rfl⟩
  rw [← ef_18] at hP hD
  have hP : va_P D vwCl [(h0, .inr (4, ((((fs0.set 0 (.int 1)).set 11 (.int (-1))).set 1 (.int 0)).set 10 (.int 0)))), (q1, .inr (6, fs1)), (q2, .inl (cI, 10, .inl f2)), (q3, .inl (cI, 10, .inl f_18))] H := hP
  have hD : va_D A [(h0, .inr (4, ((((fs0.set 0 (.int 1)).set 11 (.int (-1))).set 1 (.int 0)).set 10 (.int 0)))), (q1, .inr (6, fs1)), (q2, .inl (cI, 10, .inl f2)), (q3, .inl (cI, 10, .inl f_18))] := hD
  refine lv_iinc (v := 9) (lv' := [(6, .int 9), (0, .ref h0), (1, .ref q6), (2, .ref q1), (3, .ref q7), (4, .ref q8), (5, .ref q2)]) hx hb dX4_keep_45 hl (k := 0) rfl (by decide) (by decide) rfl (fun ls hl => ?_)
  refine lv_goto (tgt := 26) hx hb dX4_keep_48 (by decide) ?_
  refine lv_iload hx hb dX4_keep_26 (lv_at hl 0 rfl) ?_
  refine lv_bipush (v := 10) hx hb dX4_keep_28 (by decide) ?_
  refine lv_icmp_ge (tgt := 51) hx hb dX4_keep_30 (by decide) (fun h => absurd h (by decide)) (fun _ => ?_)
  refine lv_aload_n hx hb dX4_keep_33 rfl (lv_at hl 1 rfl) ?_
  refine gt_X4 hx hb hts hown hK hP 0 rfl 9 (by decide) wd_581 rfl (gs_ne (by decide) (gs_ne (by decide) (gs_ne (by decide) (gs_ne (by decide) hf_fs0_9)))) dX4_keep_34 ?_
  refine lv_iload hx hb dX4_keep_37 (lv_at hl 0 rfl) ?_
  refine lv_aload hx hb dX4_keep_39 (lv_at hl 6 rfl) ?_
  refine lv_iload hx hb dX4_keep_41 (lv_at hl 0 rfl) ?_
  refine va_iald hx hb hK hP 2 0 rfl rfl (vp_in_c (by decide)) dX4_keep_43 ?_
  refine lv_topi (fun v_19 ev_19 => ?_)
  refine va_iast hx hb hK hP hD hS 3 0 rfl rfl (vp_in_c (by decide)) dX4_keep_44 (fun H locs hP hD hS => ?_)
  obtain ⟨f_20, ef_20⟩ : ∃ z, z = upd f_18 (9 : Int32).toNatClampNeg v_19 := ⟨_, rfl⟩
  rw [← ef_20] at hP hD
  have hP : va_P D vwCl [(h0, .inr (4, ((((fs0.set 0 (.int 1)).set 11 (.int (-1))).set 1 (.int 0)).set 10 (.int 0)))), (q1, .inr (6, fs1)), (q2, .inl (cI, 10, .inl f2)), (q3, .inl (cI, 10, .inl f_20))] H := hP
  have hD : va_D A [(h0, .inr (4, ((((fs0.set 0 (.int 1)).set 11 (.int (-1))).set 1 (.int 0)).set 10 (.int 0)))), (q1, .inr (6, fs1)), (q2, .inl (cI, 10, .inl f2)), (q3, .inl (cI, 10, .inl f_20))] := hD
  refine lv_iinc (v := 10) (lv' := [(6, .int 10), (0, .ref h0), (1, .ref q6), (2, .ref q1), (3, .ref q7), (4, .ref q8), (5, .ref q2)]) hx hb dX4_keep_45 hl (k := 0) rfl (by decide) (by decide) rfl (fun ls hl => ?_)
  refine lv_goto (tgt := 26) hx hb dX4_keep_48 (by decide) ?_
  refine lv_iload hx hb dX4_keep_26 (lv_at hl 0 rfl) ?_
  refine lv_bipush (v := 10) hx hb dX4_keep_28 (by decide) ?_
  refine lv_icmp_ge (tgt := 51) hx hb dX4_keep_30 (by decide) (fun _ => ?_) (fun h => (h (by decide)).elim)
  refine lv_iconst (v := 0) hx hb dX4_keep_51 (by decide) ?_
  refine lv_istore (lv' := [(6, .int 0), (0, .ref h0), (1, .ref q6), (2, .ref q1), (3, .ref q7), (4, .ref q8), (5, .ref q2)]) hx hb dX4_keep_52 hl (by decide) rfl (fun ls hl => ?_)
  refine lv_iconst (v := 0) hx hb dX4_keep_54 (by decide) ?_
  refine lv_istore (lv' := [(7, .int 0), (6, .int 0), (0, .ref h0), (1, .ref q6), (2, .ref q1), (3, .ref q7), (4, .ref q8), (5, .ref q2)]) hx hb dX4_keep_55 hl (by decide) rfl (fun ls hl => ?_)
  refine lv_iload hx hb dX4_keep_57 (lv_at hl 0 rfl) ?_
  refine lv_aload_n hx hb dX4_keep_59 rfl (lv_at hl 2 rfl) ?_
  refine gt_X4 hx hb hts hown hK hP 0 rfl 1 (by decide) wd_569 rfl (gs_ne (by decide) (gs_eq (ln_lt (ln_set (ln_set hl_fs0)) (by decide)))) dX4_keep_60 ?_
  refine lv_icmp_ge (tgt := 214) hx hb dX4_keep_63 (by decide) (fun _ => ?_) (fun h => (h (by decide)).elim)
  refine lv_iload hx hb dX4_keep_214 (lv_at hl 1 rfl) ?_
  exact fin_i hx hb hr hlk hK hP hD hS dX4_keep_216 (⟨((((fs0.set 0 (.int 1)).set 11 (.int (-1))).set 1 (.int 0)).set 10 (.int 0)), f_20, rfl, (ln_set (ln_set (ln_set (ln_set hl_fs0)))), rfl⟩)
set_option maxRecDepth 100000 in
set_option maxHeartbeats 4000000 in
theorem c_X4_isChild (l : Launch) (D : va_G) (cI cJ cZ : ClassId) (h0 : Nat) (fs0 : List Value) (p0 : Int32) (hl_fs0 : fs0.length = 17) (hf_fs0_0 : fs0[0]? = some (.int 0)) : Con_i l yX4_isChild cX4_isChild 2 (some .boolean) ({ frames := 0, cells := 0, slots := 0, locals := 0 }) D cI cJ cZ eT [.ref h0, .int p0] [(h0, .inr (4, fs0))] (fun (r : Int32) (w : va_W) => w = [(h0, .inr (4, fs0))] ∧ r = 0) := by
  refine ent_i (by decide) (Nat.le_of_ble_eq_true rfl) ?_
  intro p e s m below meth c A hx hb hml hown hts hr hlk hnm hK hE hA hP hD hS ls hl
  have hown : s.vm.findClass RX4 = some m.cls := hown
  have hl : lv_has ls 2 [(0, .ref h0), (1, .int p0)] := hl
  refine lv_aload_n hx hb dX4_isChild_0 rfl (lv_at hl 0 rfl) ?_
  refine gt_X4 hx hb hts hown hK hP 0 rfl 0 (by decide) wd_566 rfl hf_fs0_0 dX4_isChild_1 ?_
  refine lv_if_eq (tgt := 23) hx hb dX4_isChild_4 (by decide) (fun _ => ?_) (fun h => (h (by decide)).elim)
  refine lv_iconst (v := 0) hx hb dX4_isChild_23 (by decide) ?_
  exact fin_z hx hb hr hlk hK hP hD hS dX4_isChild_24 rfl (⟨rfl, rfl⟩)
set_option maxRecDepth 100000 in
set_option maxHeartbeats 4000000 in
theorem c_X11_weighAll (l : Launch) (D : va_G) (cI cJ cZ : ClassId) (h0 q8 q9 q1 q2 : Nat) (fs0 fs8 fs9 : List Value) (f1 : Nat → Int32) (f2 : Nat → Int32) (hl_fs0 : fs0.length = 14) (hf_fs0_5 : fs0[5]? = some (.ref q8)) (hf_fs0_4 : fs0[4]? = some (.ref q9)) (hf_fs0_12 : fs0[12]? = some (.int (-1))) (hl_fs8 : fs8.length = 16) (hf_fs8_0 : fs8[0]? = some (.int (-1))) (hf_fs8_1 : fs8[1]? = some (.int 0)) (hf_fs8_14 : fs8[14]? = some (.ref q1)) (hf_fs8_15 : fs8[15]? = some (.ref q2)) (hl_fs9 : fs9.length = 8) (hf_fs9_0 : fs9[0]? = some (.int 0)) : Con_v l yX11_weighAll cX11_weighAll 2 none ({ frames := 3, cells := 0, slots := 0, locals := 66 }) D cI cJ cZ eT [.ref h0] [(h0, .inr (11, fs0)), (q8, .inr (6, fs8)), (q9, .inr (7, fs9)), (q1, .inl (cI, 250, .inl f1)), (q2, .inl (cI, 10, .inl f2))] (fun w => ∃ (fs7 : List Value) (g1 : Nat → Int32) (g2 : Nat → Int32), w = [(h0, .inr (11, fs0)), (q8, .inr (6, fs7)), (q9, .inr (7, fs9)), (q1, .inl (cI, 250, .inl g1)), (q2, .inl (cI, 10, .inl g2))] ∧ fs7.length = 16 ∧ fs7[2]? = some (.int 0)) := by
  refine ent_v (by decide) (Nat.le_of_ble_eq_true rfl) ?_
  intro p e s m below meth c A hx hb hml hown hts hr hlk hnm hK hE hA hP hD hS ls hl
  have hown : s.vm.findClass RX11 = some m.cls := hown
  have hl : lv_has ls 2 [(0, .ref h0)] := hl
  refine lv_aload_n hx hb dX11_weighAll_0 rfl (lv_at hl 0 rfl) ?_
  refine cl_v (wr := []) (rn_V (As := []) (rest := []) hx hb hml hown hts (c_X11_look l D cI cJ cZ h0 q8 q9 q1 q2 fs0 fs8 fs9 f1 f2 hl_fs0 hf_fs0_5 hf_fs0_4 hf_fs0_12 hl_fs8 hf_fs8_0 hf_fs8_1 hf_fs8_14 hf_fs8_15 hl_fs9 hf_fs9_0 _) ⟨rfl, rfl⟩ sv_X11_207 ⟨(Nat.le_of_ble_eq_true rfl), (Nat.le_of_ble_eq_true rfl)⟩ ⟨(Nat.le_of_ble_eq_true rfl), (Nat.le_of_ble_eq_true rfl)⟩ (fun _ _ _ _ h => h) (fun _ _ _ => trivial) hK hP hD [0, 1, 2, 3, 4] rfl rfl 0 11 rfl rfl rfl rfl hl.1 rfl (Nat.le_of_ble_eq_true rfl) dX11_weighAll_1) hP hD hS hA [0, 1, 2, 3, 4] [] rfl rfl rfl (by decide) (fun w_2 H locs hw_1 hP hD hS => ?_)
  obtain ⟨fs7_4, g1_5, g2_6, rfl, h_7, h_8⟩ := hw_1
  have hP : va_P D vwCl [(h0, .inr (11, fs0)), (q8, .inr (6, fs7_4)), (q9, .inr (7, fs9)), (q1, .inl (cI, 250, .inl g1_5)), (q2, .inl (cI, 10, .inl g2_6))] H := hP
  have hD : va_D A [(h0, .inr (11, fs0)), (q8, .inr (6, fs7_4)), (q9, .inr (7, fs9)), (q1, .inl (cI, 250, .inl g1_5)), (q2, .inl (cI, 10, .inl g2_6))] := hD
  refine lv_iconst (v := 0) hx hb dX11_weighAll_4 (by decide) ?_
  refine lv_istore_n (lv' := [(1, .int 0), (0, .ref h0)]) hx hb dX11_weighAll_5 rfl hl (by decide) rfl (fun ls hl => ?_)
  refine lv_iload_n hx hb dX11_weighAll_6 rfl (lv_at hl 0 rfl) ?_
  refine lv_aload_n hx hb dX11_weighAll_7 rfl (lv_at hl 1 rfl) ?_
  refine gt_X11 hx hb hts hown hK hP 0 rfl 5 (by decide) wd_678 rfl hf_fs0_5 dX11_weighAll_8 ?_
  refine gt_X6 hx hb hts hown hK hP 1 rfl 2 (by decide) wd_296 rfl h_8 dX11_weighAll_11 ?_
  refine lv_icmp_ge (tgt := 39) hx hb dX11_weighAll_14 (by decide) (fun _ => ?_) (fun h => (h (by decide)).elim)
  exact fin_v hx hb hr hlk hK hP hD hS dX11_weighAll_39 (⟨fs7_4, g1_5, g2_6, rfl, h_7, h_8⟩)
set_option maxRecDepth 100000 in
set_option maxHeartbeats 16000000 in
theorem c_X11_give (l : Launch) (D : va_G) (cI cJ cZ : ClassId) (h0 q11 q8 q9 q1 q2 q13 q3 q4 q14 q15 q16 q17 q12 : Nat) (fs0 fs11 fs8 fs9 fs13 fs14 fs15 : List Value) (f1 : Nat → Int32) (f2 : Nat → Int32) (f3 : Nat → Int32) (f4 : Nat → Int32) (f16 : Nat → Int32) (f17 : Nat → Int32) (hl_fs0 : fs0.length = 14) (hf_fs0_0 : fs0[0]? = some (.ref q11)) (hf_fs0_6 : fs0[6]? = some (.ref q12)) (hf_fs0_7 : fs0[7]? = some (.ref q13)) (hf_fs0_9 : fs0[9]? = some (.ref q14)) (hf_fs0_10 : fs0[10]? = some (.ref q15)) (hf_fs0_13 : fs0[13]? = some (.ref q16)) (hf_fs0_5 : fs0[5]? = some (.ref q8)) (hf_fs0_4 : fs0[4]? = some (.ref q9)) (hf_fs0_12 : fs0[12]? = some (.int (-1))) (hl_fs11 : fs11.length = 20) (hf_fs11_0 : fs11[0]? = some (.int 0)) (hl_fs8 : fs8.length = 16) (hf_fs8_0 : fs8[0]? = some (.int (-1))) (hf_fs8_1 : fs8[1]? = some (.int 0)) (hf_fs8_14 : fs8[14]? = some (.ref q1)) (hf_fs8_15 : fs8[15]? = some (.ref q2)) (hl_fs9 : fs9.length = 8) (hf_fs9_0 : fs9[0]? = some (.int 0)) (hl_fs13 : fs13.length = 12) (hf_fs13_4 : fs13[4]? = some (.ref q3)) (hf_fs13_5 : fs13[5]? = some (.ref q4)) (hl_fs14 : fs14.length = 16) (hf_fs14_0 : fs14[0]? = some (.ref q13)) (hl_fs15 : fs15.length = 17) (hf_fs15_9 : fs15[9]? = some (.ref q17)) : Con_i l yX11_give cX11_give 2 (some .int) ({ frames := 4, cells := 0, slots := 0, locals := 87 }) D cI cJ cZ eT [.ref h0] [(h0, .inr (11, fs0)), (q11, .inr (1, fs11)), (q8, .inr (6, fs8)), (q9, .inr (7, fs9)), (q1, .inl (cI, 250, .inl f1)), (q2, .inl (cI, 10, .inl f2)), (q13, .inr (3, fs13)), (q3, .inl (cI, 25, .inl f3)), (q4, .inl (cI, 40, .inl f4)), (q14, .inr (9, fs14)), (q15, .inr (4, fs15)), (q16, .inl (cI, 10, .inl f16)), (q17, .inl (cI, 10, .inl f17))] (fun r _ => r = 0) := by
  refine ent_i (by decide) (Nat.le_of_ble_eq_true rfl) ?_
  intro p e s m below meth c A hx hb hml hown hts hr hlk hnm hK hE hA hP hD hS ls hl
  have hown : s.vm.findClass RX11 = some m.cls := hown
  have hl : lv_has ls 2 [(0, .ref h0)] := hl
  refine lv_aload_n hx hb dX11_give_0 rfl (lv_at hl 0 rfl) ?_
  refine cl_v (wr := [(q11, .inr (1, fs11)), (q13, .inr (3, fs13)), (q3, .inl (cI, 25, .inl f3)), (q4, .inl (cI, 40, .inl f4)), (q14, .inr (9, fs14)), (q15, .inr (4, fs15)), (q16, .inl (cI, 10, .inl f16)), (q17, .inl (cI, 10, .inl f17))]) (rn_V (As := []) (rest := []) hx hb hml hown hts (c_X11_weighAll l D cI cJ cZ h0 q8 q9 q1 q2 fs0 fs8 fs9 f1 f2 hl_fs0 hf_fs0_5 hf_fs0_4 hf_fs0_12 hl_fs8 hf_fs8_0 hf_fs8_1 hf_fs8_14 hf_fs8_15 hl_fs9 hf_fs9_0 _) ⟨rfl, rfl⟩ sv_X11_249 ⟨(Nat.le_of_ble_eq_true rfl), (Nat.le_of_ble_eq_true rfl)⟩ ⟨(Nat.le_of_ble_eq_true rfl), (Nat.le_of_ble_eq_true rfl)⟩ (fun _ _ _ _ h => h) (fun _ _ _ => trivial) hK hP hD [0, 2, 3, 4, 5] rfl rfl 0 11 rfl rfl rfl rfl hl.1 rfl (Nat.le_of_ble_eq_true rfl) dX11_give_1) hP hD hS hA [0, 2, 3, 4, 5] [1, 6, 7, 8, 9, 10, 11, 12] rfl rfl rfl (by decide) (fun w_2 H locs hw_1 hP hD hS => ?_)
  obtain ⟨fs7_4, g1_5, g2_6, rfl, h_7, h_8⟩ := hw_1
  have hP : va_P D vwCl [(q11, .inr (1, fs11)), (q13, .inr (3, fs13)), (q3, .inl (cI, 25, .inl f3)), (q4, .inl (cI, 40, .inl f4)), (q14, .inr (9, fs14)), (q15, .inr (4, fs15)), (q16, .inl (cI, 10, .inl f16)), (q17, .inl (cI, 10, .inl f17)), (h0, .inr (11, fs0)), (q8, .inr (6, fs7_4)), (q9, .inr (7, fs9)), (q1, .inl (cI, 250, .inl g1_5)), (q2, .inl (cI, 10, .inl g2_6))] H := hP
  have hD : va_D A [(q11, .inr (1, fs11)), (q13, .inr (3, fs13)), (q3, .inl (cI, 25, .inl f3)), (q4, .inl (cI, 40, .inl f4)), (q14, .inr (9, fs14)), (q15, .inr (4, fs15)), (q16, .inl (cI, 10, .inl f16)), (q17, .inl (cI, 10, .inl f17)), (h0, .inr (11, fs0)), (q8, .inr (6, fs7_4)), (q9, .inr (7, fs9)), (q1, .inl (cI, 250, .inl g1_5)), (q2, .inl (cI, 10, .inl g2_6))] := hD
  refine lv_aload_n hx hb dX11_give_4 rfl (lv_at hl 0 rfl) ?_
  refine gt_X11 hx hb hts hown hK hP 8 rfl 7 (by decide) wd_680 rfl hf_fs0_7 dX11_give_5 ?_
  refine lv_aload_n hx hb dX11_give_8 rfl (lv_at hl 0 rfl) ?_
  refine gt_X11 hx hb hts hown hK hP 8 rfl 0 (by decide) wd_673 rfl hf_fs0_0 dX11_give_9 ?_
  refine gt_X1 hx hb hts hown hK hP 0 rfl 0 (by decide) wd_39 rfl hf_fs11_0 dX11_give_12 ?_
  refine cl_v (wr := [(q11, .inr (1, fs11)), (q14, .inr (9, fs14)), (q15, .inr (4, fs15)), (q16, .inl (cI, 10, .inl f16)), (q17, .inl (cI, 10, .inl f17)), (h0, .inr (11, fs0)), (q8, .inr (6, fs7_4)), (q9, .inr (7, fs9)), (q1, .inl (cI, 250, .inl g1_5)), (q2, .inl (cI, 10, .inl g2_6))]) (rn_V (As := [.int 0]) (rest := []) hx hb hml hown hts (c_X3_clear l D cI cJ cZ q13 q3 q4 fs13 f3 f4 hl_fs13 hf_fs13_4 hf_fs13_5 _) ⟨rfl, rfl⟩ sv_X11_252 ⟨(Nat.le_of_ble_eq_true rfl), (Nat.le_of_ble_eq_true rfl)⟩ ⟨(Nat.le_of_ble_eq_true rfl), (Nat.le_of_ble_eq_true rfl)⟩ (fun _ _ _ _ h => h) (fun _ _ _ => trivial) hK hP hD [1, 2, 3] rfl rfl 0 3 rfl rfl rfl rfl hl.1 rfl (Nat.le_of_ble_eq_true rfl) dX11_give_15) hP hD hS hA [1, 2, 3] [0, 4, 5, 6, 7, 8, 9, 10, 11, 12] rfl rfl rfl (by decide) (fun w_10 H locs hw_9 hP hD hS => ?_)
  obtain ⟨fs1_12, g3_13, g4_14, rfl, h_15, h_16, h_17, h_18⟩ := hw_9
  have hP : va_P D vwCl [(q11, .inr (1, fs11)), (q14, .inr (9, fs14)), (q15, .inr (4, fs15)), (q16, .inl (cI, 10, .inl f16)), (q17, .inl (cI, 10, .inl f17)), (h0, .inr (11, fs0)), (q8, .inr (6, fs7_4)), (q9, .inr (7, fs9)), (q1, .inl (cI, 250, .inl g1_5)), (q2, .inl (cI, 10, .inl g2_6)), (q13, .inr (3, fs1_12)), (q3, .inl (cI, 25, .inl g3_13)), (q4, .inl (cI, 40, .inl g4_14))] H := hP
  have hD : va_D A [(q11, .inr (1, fs11)), (q14, .inr (9, fs14)), (q15, .inr (4, fs15)), (q16, .inl (cI, 10, .inl f16)), (q17, .inl (cI, 10, .inl f17)), (h0, .inr (11, fs0)), (q8, .inr (6, fs7_4)), (q9, .inr (7, fs9)), (q1, .inl (cI, 250, .inl g1_5)), (q2, .inl (cI, 10, .inl g2_6)), (q13, .inr (3, fs1_12)), (q3, .inl (cI, 25, .inl g3_13)), (q4, .inl (cI, 40, .inl g4_14))] := hD
  refine lv_aload_n hx hb dX11_give_18 rfl (lv_at hl 0 rfl) ?_
  refine gt_X11 hx hb hts hown hK hP 5 rfl 13 (by decide) wd_686 rfl hf_fs0_13 dX11_give_19 ?_
  refine lv_iconst (v := 0) hx hb dX11_give_22 (by decide) ?_
  refine cl_v (wr := [(q11, .inr (1, fs11)), (q14, .inr (9, fs14)), (q15, .inr (4, fs15)), (q17, .inl (cI, 10, .inl f17)), (h0, .inr (11, fs0)), (q8, .inr (6, fs7_4)), (q9, .inr (7, fs9)), (q1, .inl (cI, 250, .inl g1_5)), (q2, .inl (cI, 10, .inl g2_6)), (q13, .inr (3, fs1_12)), (q3, .inl (cI, 25, .inl g3_13)), (q4, .inl (cI, 40, .inl g4_14))]) (rn_S (As := [.ref q16, .int 0]) (rest := []) hx hb hml hown hts (c_fill_10 l D cI cJ cZ q16 f16 0 _) ⟨rfl, rfl⟩ sv_X11_255 ⟨(Nat.le_of_ble_eq_true rfl), (Nat.le_of_ble_eq_true rfl)⟩ ⟨(Nat.le_of_ble_eq_true rfl), (Nat.le_of_ble_eq_true rfl)⟩ (fun _ _ _ _ h => h) (fun _ _ _ => trivial) hK hP hD [3] rfl rfl rfl hl.1 rfl (Nat.le_of_ble_eq_true rfl) dX11_give_23) hP hD hS hA [3] [0, 1, 2, 4, 5, 6, 7, 8, 9, 10, 11, 12] rfl rfl rfl (by decide) (fun w_20 H locs hw_19 hP hD hS => ?_)
  obtain ⟨f2_22, rfl⟩ := hw_19
  have hP : va_P D vwCl [(q11, .inr (1, fs11)), (q14, .inr (9, fs14)), (q15, .inr (4, fs15)), (q17, .inl (cI, 10, .inl f17)), (h0, .inr (11, fs0)), (q8, .inr (6, fs7_4)), (q9, .inr (7, fs9)), (q1, .inl (cI, 250, .inl g1_5)), (q2, .inl (cI, 10, .inl g2_6)), (q13, .inr (3, fs1_12)), (q3, .inl (cI, 25, .inl g3_13)), (q4, .inl (cI, 40, .inl g4_14)), (q16, .inl (cI, 10, .inl f2_22))] H := hP
  have hD : va_D A [(q11, .inr (1, fs11)), (q14, .inr (9, fs14)), (q15, .inr (4, fs15)), (q17, .inl (cI, 10, .inl f17)), (h0, .inr (11, fs0)), (q8, .inr (6, fs7_4)), (q9, .inr (7, fs9)), (q1, .inl (cI, 250, .inl g1_5)), (q2, .inl (cI, 10, .inl g2_6)), (q13, .inr (3, fs1_12)), (q3, .inl (cI, 25, .inl g3_13)), (q4, .inl (cI, 40, .inl g4_14)), (q16, .inl (cI, 10, .inl f2_22))] := hD
  refine lv_iconst (v := 1) hx hb dX11_give_26 (by decide) ?_
  refine lv_istore_n (lv' := [(1, .int 1), (0, .ref h0)]) hx hb dX11_give_27 rfl hl (by decide) rfl (fun ls hl => ?_)
  refine lv_iload_n hx hb dX11_give_28 rfl (lv_at hl 0 rfl) ?_
  refine lv_bipush (v := 24) hx hb dX11_give_29 (by decide) ?_
  refine lv_icmp_gt (tgt := 79) hx hb dX11_give_31 (by decide) (fun h => absurd h (by decide)) (fun _ => ?_)
  refine lv_aload_n hx hb dX11_give_34 rfl (lv_at hl 1 rfl) ?_
  refine gt_X11 hx hb hts hown hK hP 4 rfl 5 (by decide) wd_678 rfl hf_fs0_5 dX11_give_35 ?_
  refine lv_aload_n hx hb dX11_give_38 rfl (lv_at hl 1 rfl) ?_
  refine gt_X11 hx hb hts hown hK hP 4 rfl 13 (by decide) wd_686 rfl hf_fs0_13 dX11_give_39 ?_
  refine lv_iload_n hx hb dX11_give_42 rfl (lv_at hl 0 rfl) ?_
  refine lv_aload_n hx hb dX11_give_43 rfl (lv_at hl 1 rfl) ?_
  refine gt_X11 hx hb hts hown hK hP 4 rfl 0 (by decide) wd_673 rfl hf_fs0_0 dX11_give_44 ?_
  refine gt_X1 hx hb hts hown hK hP 0 rfl 0 (by decide) wd_39 rfl hf_fs11_0 dX11_give_47 ?_
  refine cl_v (wr := [(q11, .inr (1, fs11)), (q14, .inr (9, fs14)), (q15, .inr (4, fs15)), (q17, .inl (cI, 10, .inl f17)), (h0, .inr (11, fs0)), (q9, .inr (7, fs9)), (q1, .inl (cI, 250, .inl g1_5)), (q2, .inl (cI, 10, .inl g2_6)), (q13, .inr (3, fs1_12)), (q3, .inl (cI, 25, .inl g3_13)), (q4, .inl (cI, 40, .inl g4_14)), (q16, .inl (cI, 10, .inl f2_22))]) (rn_V (As := [.ref q16, .int 1, .int 0]) (rest := []) hx hb hml hown hts (c_X6_addCome l D cI cJ cZ q8 q16 fs7_4 1 h_7 _) ⟨rfl, rfl⟩ sv_X11_261 ⟨(Nat.le_of_ble_eq_true rfl), (Nat.le_of_ble_eq_true rfl)⟩ ⟨(Nat.le_of_ble_eq_true rfl), (Nat.le_of_ble_eq_true rfl)⟩ (fun _ _ _ _ h => h) (fun _ _ _ => trivial) hK hP hD [5] rfl rfl 0 6 rfl rfl rfl rfl hl.1 rfl (Nat.le_of_ble_eq_true rfl) dX11_give_50) hP hD hS hA [5] [0, 1, 2, 3, 4, 6, 7, 8, 9, 10, 11, 12] rfl rfl rfl (by decide) (fun w_24 H locs hw_23 hP hD hS => ?_)
  subst hw_23
  have hP : va_P D vwCl [(q11, .inr (1, fs11)), (q14, .inr (9, fs14)), (q15, .inr (4, fs15)), (q17, .inl (cI, 10, .inl f17)), (h0, .inr (11, fs0)), (q9, .inr (7, fs9)), (q1, .inl (cI, 250, .inl g1_5)), (q2, .inl (cI, 10, .inl g2_6)), (q13, .inr (3, fs1_12)), (q3, .inl (cI, 25, .inl g3_13)), (q4, .inl (cI, 40, .inl g4_14)), (q16, .inl (cI, 10, .inl f2_22)), (q8, .inr (6, fs7_4))] H := hP
  have hD : va_D A [(q11, .inr (1, fs11)), (q14, .inr (9, fs14)), (q15, .inr (4, fs15)), (q17, .inl (cI, 10, .inl f17)), (h0, .inr (11, fs0)), (q9, .inr (7, fs9)), (q1, .inl (cI, 250, .inl g1_5)), (q2, .inl (cI, 10, .inl g2_6)), (q13, .inr (3, fs1_12)), (q3, .inl (cI, 25, .inl g3_13)), (q4, .inl (cI, 40, .inl g4_14)), (q16, .inl (cI, 10, .inl f2_22)), (q8, .inr (6, fs7_4))] := hD
  refine lv_aload_n hx hb dX11_give_53 rfl (lv_at hl 1 rfl) ?_
  refine gt_X11 hx hb hts hown hK hP 4 rfl 7 (by decide) wd_680 rfl hf_fs0_7 dX11_give_54 ?_
  refine lv_aload_n hx hb dX11_give_57 rfl (lv_at hl 1 rfl) ?_
  refine gt_X11 hx hb hts hown hK hP 4 rfl 5 (by decide) wd_678 rfl hf_fs0_5 dX11_give_58 ?_
  refine lv_aload_n hx hb dX11_give_61 rfl (lv_at hl 1 rfl) ?_
  refine gt_X11 hx hb hts hown hK hP 4 rfl 6 (by decide) wd_679 rfl hf_fs0_6 dX11_give_62 ?_
  refine lv_iload_n hx hb dX11_give_65 rfl (lv_at hl 0 rfl) ?_
  refine lv_aload_n hx hb dX11_give_66 rfl (lv_at hl 1 rfl) ?_
  refine gt_X11 hx hb hts hown hK hP 4 rfl 13 (by decide) wd_686 rfl hf_fs0_13 dX11_give_67 ?_
  refine cl_v (wr := [(q11, .inr (1, fs11)), (q14, .inr (9, fs14)), (q15, .inr (4, fs15)), (q17, .inl (cI, 10, .inl f17)), (h0, .inr (11, fs0)), (q9, .inr (7, fs9)), (q1, .inl (cI, 250, .inl g1_5)), (q2, .inl (cI, 10, .inl g2_6)), (q3, .inl (cI, 25, .inl g3_13)), (q4, .inl (cI, 40, .inl g4_14)), (q16, .inl (cI, 10, .inl f2_22))]) (rn_V (As := [.ref q8, .ref q12, .int 1, .ref q16]) (rest := []) hx hb hml hown hts (c_X3_addDay l D cI cJ cZ q13 q8 q12 q16 fs1_12 fs7_4 1 h_15 h_16 h_7 h_8 _) ⟨rfl, rfl⟩ sv_X11_265 ⟨(Nat.le_of_ble_eq_true rfl), (Nat.le_of_ble_eq_true rfl)⟩ ⟨(Nat.le_of_ble_eq_true rfl), (Nat.le_of_ble_eq_true rfl)⟩ (fun _ _ _ _ h => h) (fun _ _ _ => trivial) hK hP hD [8, 12] rfl rfl 0 3 rfl rfl rfl rfl hl.1 rfl (Nat.le_of_ble_eq_true rfl) dX11_give_70) hP hD hS hA [8, 12] [0, 1, 2, 3, 4, 5, 6, 7, 9, 10, 11] rfl rfl rfl (by decide) (fun w_27 H locs hw_26 hP hD hS => ?_)
  subst hw_26
  have hP : va_P D vwCl [(q11, .inr (1, fs11)), (q14, .inr (9, fs14)), (q15, .inr (4, fs15)), (q17, .inl (cI, 10, .inl f17)), (h0, .inr (11, fs0)), (q9, .inr (7, fs9)), (q1, .inl (cI, 250, .inl g1_5)), (q2, .inl (cI, 10, .inl g2_6)), (q3, .inl (cI, 25, .inl g3_13)), (q4, .inl (cI, 40, .inl g4_14)), (q16, .inl (cI, 10, .inl f2_22)), (q13, .inr (3, fs1_12)), (q8, .inr (6, fs7_4))] H := hP
  have hD : va_D A [(q11, .inr (1, fs11)), (q14, .inr (9, fs14)), (q15, .inr (4, fs15)), (q17, .inl (cI, 10, .inl f17)), (h0, .inr (11, fs0)), (q9, .inr (7, fs9)), (q1, .inl (cI, 250, .inl g1_5)), (q2, .inl (cI, 10, .inl g2_6)), (q3, .inl (cI, 25, .inl g3_13)), (q4, .inl (cI, 40, .inl g4_14)), (q16, .inl (cI, 10, .inl f2_22)), (q13, .inr (3, fs1_12)), (q8, .inr (6, fs7_4))] := hD
  refine lv_iinc (v := 2) (lv' := [(1, .int 2), (0, .ref h0)]) hx hb dX11_give_73 hl (k := 0) rfl (by decide) (by decide) rfl (fun ls hl => ?_)
  refine lv_goto (tgt := 28) hx hb dX11_give_76 (by decide) ?_
  refine lv_iload_n hx hb dX11_give_28 rfl (lv_at hl 0 rfl) ?_
  refine lv_bipush (v := 24) hx hb dX11_give_29 (by decide) ?_
  refine lv_icmp_gt (tgt := 79) hx hb dX11_give_31 (by decide) (fun h => absurd h (by decide)) (fun _ => ?_)
  refine lv_aload_n hx hb dX11_give_34 rfl (lv_at hl 1 rfl) ?_
  refine gt_X11 hx hb hts hown hK hP 4 rfl 5 (by decide) wd_678 rfl hf_fs0_5 dX11_give_35 ?_
  refine lv_aload_n hx hb dX11_give_38 rfl (lv_at hl 1 rfl) ?_
  refine gt_X11 hx hb hts hown hK hP 4 rfl 13 (by decide) wd_686 rfl hf_fs0_13 dX11_give_39 ?_
  refine lv_iload_n hx hb dX11_give_42 rfl (lv_at hl 0 rfl) ?_
  refine lv_aload_n hx hb dX11_give_43 rfl (lv_at hl 1 rfl) ?_
  refine gt_X11 hx hb hts hown hK hP 4 rfl 0 (by decide) wd_673 rfl hf_fs0_0 dX11_give_44 ?_
  refine gt_X1 hx hb hts hown hK hP 0 rfl 0 (by decide) wd_39 rfl hf_fs11_0 dX11_give_47 ?_
  refine cl_v (wr := [(q11, .inr (1, fs11)), (q14, .inr (9, fs14)), (q15, .inr (4, fs15)), (q17, .inl (cI, 10, .inl f17)), (h0, .inr (11, fs0)), (q9, .inr (7, fs9)), (q1, .inl (cI, 250, .inl g1_5)), (q2, .inl (cI, 10, .inl g2_6)), (q3, .inl (cI, 25, .inl g3_13)), (q4, .inl (cI, 40, .inl g4_14)), (q16, .inl (cI, 10, .inl f2_22)), (q13, .inr (3, fs1_12))]) (rn_V (As := [.ref q16, .int 2, .int 0]) (rest := []) hx hb hml hown hts (c_X6_addCome l D cI cJ cZ q8 q16 fs7_4 2 h_7 _) ⟨rfl, rfl⟩ sv_X11_261 ⟨(Nat.le_of_ble_eq_true rfl), (Nat.le_of_ble_eq_true rfl)⟩ ⟨(Nat.le_of_ble_eq_true rfl), (Nat.le_of_ble_eq_true rfl)⟩ (fun _ _ _ _ h => h) (fun _ _ _ => trivial) hK hP hD [12] rfl rfl 0 6 rfl rfl rfl rfl hl.1 rfl (Nat.le_of_ble_eq_true rfl) dX11_give_50) hP hD hS hA [12] [0, 1, 2, 3, 4, 5, 6, 7, 8, 9, 10, 11] rfl rfl rfl (by decide) (fun w_30 H locs hw_29 hP hD hS => ?_)
  subst hw_29
  have hP : va_P D vwCl [(q11, .inr (1, fs11)), (q14, .inr (9, fs14)), (q15, .inr (4, fs15)), (q17, .inl (cI, 10, .inl f17)), (h0, .inr (11, fs0)), (q9, .inr (7, fs9)), (q1, .inl (cI, 250, .inl g1_5)), (q2, .inl (cI, 10, .inl g2_6)), (q3, .inl (cI, 25, .inl g3_13)), (q4, .inl (cI, 40, .inl g4_14)), (q16, .inl (cI, 10, .inl f2_22)), (q13, .inr (3, fs1_12)), (q8, .inr (6, fs7_4))] H := hP
  have hD : va_D A [(q11, .inr (1, fs11)), (q14, .inr (9, fs14)), (q15, .inr (4, fs15)), (q17, .inl (cI, 10, .inl f17)), (h0, .inr (11, fs0)), (q9, .inr (7, fs9)), (q1, .inl (cI, 250, .inl g1_5)), (q2, .inl (cI, 10, .inl g2_6)), (q3, .inl (cI, 25, .inl g3_13)), (q4, .inl (cI, 40, .inl g4_14)), (q16, .inl (cI, 10, .inl f2_22)), (q13, .inr (3, fs1_12)), (q8, .inr (6, fs7_4))] := hD
  refine lv_aload_n hx hb dX11_give_53 rfl (lv_at hl 1 rfl) ?_
  refine gt_X11 hx hb hts hown hK hP 4 rfl 7 (by decide) wd_680 rfl hf_fs0_7 dX11_give_54 ?_
  refine lv_aload_n hx hb dX11_give_57 rfl (lv_at hl 1 rfl) ?_
  refine gt_X11 hx hb hts hown hK hP 4 rfl 5 (by decide) wd_678 rfl hf_fs0_5 dX11_give_58 ?_
  refine lv_aload_n hx hb dX11_give_61 rfl (lv_at hl 1 rfl) ?_
  refine gt_X11 hx hb hts hown hK hP 4 rfl 6 (by decide) wd_679 rfl hf_fs0_6 dX11_give_62 ?_
  refine lv_iload_n hx hb dX11_give_65 rfl (lv_at hl 0 rfl) ?_
  refine lv_aload_n hx hb dX11_give_66 rfl (lv_at hl 1 rfl) ?_
  refine gt_X11 hx hb hts hown hK hP 4 rfl 13 (by decide) wd_686 rfl hf_fs0_13 dX11_give_67 ?_
  refine cl_v (wr := [(q11, .inr (1, fs11)), (q14, .inr (9, fs14)), (q15, .inr (4, fs15)), (q17, .inl (cI, 10, .inl f17)), (h0, .inr (11, fs0)), (q9, .inr (7, fs9)), (q1, .inl (cI, 250, .inl g1_5)), (q2, .inl (cI, 10, .inl g2_6)), (q3, .inl (cI, 25, .inl g3_13)), (q4, .inl (cI, 40, .inl g4_14)), (q16, .inl (cI, 10, .inl f2_22))]) (rn_V (As := [.ref q8, .ref q12, .int 2, .ref q16]) (rest := []) hx hb hml hown hts (c_X3_addDay l D cI cJ cZ q13 q8 q12 q16 fs1_12 fs7_4 2 h_15 h_16 h_7 h_8 _) ⟨rfl, rfl⟩ sv_X11_265 ⟨(Nat.le_of_ble_eq_true rfl), (Nat.le_of_ble_eq_true rfl)⟩ ⟨(Nat.le_of_ble_eq_true rfl), (Nat.le_of_ble_eq_true rfl)⟩ (fun _ _ _ _ h => h) (fun _ _ _ => trivial) hK hP hD [11, 12] rfl rfl 0 3 rfl rfl rfl rfl hl.1 rfl (Nat.le_of_ble_eq_true rfl) dX11_give_70) hP hD hS hA [11, 12] [0, 1, 2, 3, 4, 5, 6, 7, 8, 9, 10] rfl rfl rfl (by decide) (fun w_33 H locs hw_32 hP hD hS => ?_)
  subst hw_32
  have hP : va_P D vwCl [(q11, .inr (1, fs11)), (q14, .inr (9, fs14)), (q15, .inr (4, fs15)), (q17, .inl (cI, 10, .inl f17)), (h0, .inr (11, fs0)), (q9, .inr (7, fs9)), (q1, .inl (cI, 250, .inl g1_5)), (q2, .inl (cI, 10, .inl g2_6)), (q3, .inl (cI, 25, .inl g3_13)), (q4, .inl (cI, 40, .inl g4_14)), (q16, .inl (cI, 10, .inl f2_22)), (q13, .inr (3, fs1_12)), (q8, .inr (6, fs7_4))] H := hP
  have hD : va_D A [(q11, .inr (1, fs11)), (q14, .inr (9, fs14)), (q15, .inr (4, fs15)), (q17, .inl (cI, 10, .inl f17)), (h0, .inr (11, fs0)), (q9, .inr (7, fs9)), (q1, .inl (cI, 250, .inl g1_5)), (q2, .inl (cI, 10, .inl g2_6)), (q3, .inl (cI, 25, .inl g3_13)), (q4, .inl (cI, 40, .inl g4_14)), (q16, .inl (cI, 10, .inl f2_22)), (q13, .inr (3, fs1_12)), (q8, .inr (6, fs7_4))] := hD
  refine lv_iinc (v := 3) (lv' := [(1, .int 3), (0, .ref h0)]) hx hb dX11_give_73 hl (k := 0) rfl (by decide) (by decide) rfl (fun ls hl => ?_)
  refine lv_goto (tgt := 28) hx hb dX11_give_76 (by decide) ?_
  refine lv_iload_n hx hb dX11_give_28 rfl (lv_at hl 0 rfl) ?_
  refine lv_bipush (v := 24) hx hb dX11_give_29 (by decide) ?_
  refine lv_icmp_gt (tgt := 79) hx hb dX11_give_31 (by decide) (fun h => absurd h (by decide)) (fun _ => ?_)
  refine lv_aload_n hx hb dX11_give_34 rfl (lv_at hl 1 rfl) ?_
  refine gt_X11 hx hb hts hown hK hP 4 rfl 5 (by decide) wd_678 rfl hf_fs0_5 dX11_give_35 ?_
  refine lv_aload_n hx hb dX11_give_38 rfl (lv_at hl 1 rfl) ?_
  refine gt_X11 hx hb hts hown hK hP 4 rfl 13 (by decide) wd_686 rfl hf_fs0_13 dX11_give_39 ?_
  refine lv_iload_n hx hb dX11_give_42 rfl (lv_at hl 0 rfl) ?_
  refine lv_aload_n hx hb dX11_give_43 rfl (lv_at hl 1 rfl) ?_
  refine gt_X11 hx hb hts hown hK hP 4 rfl 0 (by decide) wd_673 rfl hf_fs0_0 dX11_give_44 ?_
  refine gt_X1 hx hb hts hown hK hP 0 rfl 0 (by decide) wd_39 rfl hf_fs11_0 dX11_give_47 ?_
  refine cl_v (wr := [(q11, .inr (1, fs11)), (q14, .inr (9, fs14)), (q15, .inr (4, fs15)), (q17, .inl (cI, 10, .inl f17)), (h0, .inr (11, fs0)), (q9, .inr (7, fs9)), (q1, .inl (cI, 250, .inl g1_5)), (q2, .inl (cI, 10, .inl g2_6)), (q3, .inl (cI, 25, .inl g3_13)), (q4, .inl (cI, 40, .inl g4_14)), (q16, .inl (cI, 10, .inl f2_22)), (q13, .inr (3, fs1_12))]) (rn_V (As := [.ref q16, .int 3, .int 0]) (rest := []) hx hb hml hown hts (c_X6_addCome l D cI cJ cZ q8 q16 fs7_4 3 h_7 _) ⟨rfl, rfl⟩ sv_X11_261 ⟨(Nat.le_of_ble_eq_true rfl), (Nat.le_of_ble_eq_true rfl)⟩ ⟨(Nat.le_of_ble_eq_true rfl), (Nat.le_of_ble_eq_true rfl)⟩ (fun _ _ _ _ h => h) (fun _ _ _ => trivial) hK hP hD [12] rfl rfl 0 6 rfl rfl rfl rfl hl.1 rfl (Nat.le_of_ble_eq_true rfl) dX11_give_50) hP hD hS hA [12] [0, 1, 2, 3, 4, 5, 6, 7, 8, 9, 10, 11] rfl rfl rfl (by decide) (fun w_36 H locs hw_35 hP hD hS => ?_)
  subst hw_35
  have hP : va_P D vwCl [(q11, .inr (1, fs11)), (q14, .inr (9, fs14)), (q15, .inr (4, fs15)), (q17, .inl (cI, 10, .inl f17)), (h0, .inr (11, fs0)), (q9, .inr (7, fs9)), (q1, .inl (cI, 250, .inl g1_5)), (q2, .inl (cI, 10, .inl g2_6)), (q3, .inl (cI, 25, .inl g3_13)), (q4, .inl (cI, 40, .inl g4_14)), (q16, .inl (cI, 10, .inl f2_22)), (q13, .inr (3, fs1_12)), (q8, .inr (6, fs7_4))] H := hP
  have hD : va_D A [(q11, .inr (1, fs11)), (q14, .inr (9, fs14)), (q15, .inr (4, fs15)), (q17, .inl (cI, 10, .inl f17)), (h0, .inr (11, fs0)), (q9, .inr (7, fs9)), (q1, .inl (cI, 250, .inl g1_5)), (q2, .inl (cI, 10, .inl g2_6)), (q3, .inl (cI, 25, .inl g3_13)), (q4, .inl (cI, 40, .inl g4_14)), (q16, .inl (cI, 10, .inl f2_22)), (q13, .inr (3, fs1_12)), (q8, .inr (6, fs7_4))] := hD
  refine lv_aload_n hx hb dX11_give_53 rfl (lv_at hl 1 rfl) ?_
  refine gt_X11 hx hb hts hown hK hP 4 rfl 7 (by decide) wd_680 rfl hf_fs0_7 dX11_give_54 ?_
  refine lv_aload_n hx hb dX11_give_57 rfl (lv_at hl 1 rfl) ?_
  refine gt_X11 hx hb hts hown hK hP 4 rfl 5 (by decide) wd_678 rfl hf_fs0_5 dX11_give_58 ?_
  refine lv_aload_n hx hb dX11_give_61 rfl (lv_at hl 1 rfl) ?_
  refine gt_X11 hx hb hts hown hK hP 4 rfl 6 (by decide) wd_679 rfl hf_fs0_6 dX11_give_62 ?_
  refine lv_iload_n hx hb dX11_give_65 rfl (lv_at hl 0 rfl) ?_
  refine lv_aload_n hx hb dX11_give_66 rfl (lv_at hl 1 rfl) ?_
  refine gt_X11 hx hb hts hown hK hP 4 rfl 13 (by decide) wd_686 rfl hf_fs0_13 dX11_give_67 ?_
  refine cl_v (wr := [(q11, .inr (1, fs11)), (q14, .inr (9, fs14)), (q15, .inr (4, fs15)), (q17, .inl (cI, 10, .inl f17)), (h0, .inr (11, fs0)), (q9, .inr (7, fs9)), (q1, .inl (cI, 250, .inl g1_5)), (q2, .inl (cI, 10, .inl g2_6)), (q3, .inl (cI, 25, .inl g3_13)), (q4, .inl (cI, 40, .inl g4_14)), (q16, .inl (cI, 10, .inl f2_22))]) (rn_V (As := [.ref q8, .ref q12, .int 3, .ref q16]) (rest := []) hx hb hml hown hts (c_X3_addDay l D cI cJ cZ q13 q8 q12 q16 fs1_12 fs7_4 3 h_15 h_16 h_7 h_8 _) ⟨rfl, rfl⟩ sv_X11_265 ⟨(Nat.le_of_ble_eq_true rfl), (Nat.le_of_ble_eq_true rfl)⟩ ⟨(Nat.le_of_ble_eq_true rfl), (Nat.le_of_ble_eq_true rfl)⟩ (fun _ _ _ _ h => h) (fun _ _ _ => trivial) hK hP hD [11, 12] rfl rfl 0 3 rfl rfl rfl rfl hl.1 rfl (Nat.le_of_ble_eq_true rfl) dX11_give_70) hP hD hS hA [11, 12] [0, 1, 2, 3, 4, 5, 6, 7, 8, 9, 10] rfl rfl rfl (by decide) (fun w_39 H locs hw_38 hP hD hS => ?_)
  subst hw_38
  have hP : va_P D vwCl [(q11, .inr (1, fs11)), (q14, .inr (9, fs14)), (q15, .inr (4, fs15)), (q17, .inl (cI, 10, .inl f17)), (h0, .inr (11, fs0)), (q9, .inr (7, fs9)), (q1, .inl (cI, 250, .inl g1_5)), (q2, .inl (cI, 10, .inl g2_6)), (q3, .inl (cI, 25, .inl g3_13)), (q4, .inl (cI, 40, .inl g4_14)), (q16, .inl (cI, 10, .inl f2_22)), (q13, .inr (3, fs1_12)), (q8, .inr (6, fs7_4))] H := hP
  have hD : va_D A [(q11, .inr (1, fs11)), (q14, .inr (9, fs14)), (q15, .inr (4, fs15)), (q17, .inl (cI, 10, .inl f17)), (h0, .inr (11, fs0)), (q9, .inr (7, fs9)), (q1, .inl (cI, 250, .inl g1_5)), (q2, .inl (cI, 10, .inl g2_6)), (q3, .inl (cI, 25, .inl g3_13)), (q4, .inl (cI, 40, .inl g4_14)), (q16, .inl (cI, 10, .inl f2_22)), (q13, .inr (3, fs1_12)), (q8, .inr (6, fs7_4))] := hD
  refine lv_iinc (v := 4) (lv' := [(1, .int 4), (0, .ref h0)]) hx hb dX11_give_73 hl (k := 0) rfl (by decide) (by decide) rfl (fun ls hl => ?_)
  refine lv_goto (tgt := 28) hx hb dX11_give_76 (by decide) ?_
  refine lv_iload_n hx hb dX11_give_28 rfl (lv_at hl 0 rfl) ?_
  refine lv_bipush (v := 24) hx hb dX11_give_29 (by decide) ?_
  refine lv_icmp_gt (tgt := 79) hx hb dX11_give_31 (by decide) (fun h => absurd h (by decide)) (fun _ => ?_)
  refine lv_aload_n hx hb dX11_give_34 rfl (lv_at hl 1 rfl) ?_
  refine gt_X11 hx hb hts hown hK hP 4 rfl 5 (by decide) wd_678 rfl hf_fs0_5 dX11_give_35 ?_
  refine lv_aload_n hx hb dX11_give_38 rfl (lv_at hl 1 rfl) ?_
  refine gt_X11 hx hb hts hown hK hP 4 rfl 13 (by decide) wd_686 rfl hf_fs0_13 dX11_give_39 ?_
  refine lv_iload_n hx hb dX11_give_42 rfl (lv_at hl 0 rfl) ?_
  refine lv_aload_n hx hb dX11_give_43 rfl (lv_at hl 1 rfl) ?_
  refine gt_X11 hx hb hts hown hK hP 4 rfl 0 (by decide) wd_673 rfl hf_fs0_0 dX11_give_44 ?_
  refine gt_X1 hx hb hts hown hK hP 0 rfl 0 (by decide) wd_39 rfl hf_fs11_0 dX11_give_47 ?_
  refine cl_v (wr := [(q11, .inr (1, fs11)), (q14, .inr (9, fs14)), (q15, .inr (4, fs15)), (q17, .inl (cI, 10, .inl f17)), (h0, .inr (11, fs0)), (q9, .inr (7, fs9)), (q1, .inl (cI, 250, .inl g1_5)), (q2, .inl (cI, 10, .inl g2_6)), (q3, .inl (cI, 25, .inl g3_13)), (q4, .inl (cI, 40, .inl g4_14)), (q16, .inl (cI, 10, .inl f2_22)), (q13, .inr (3, fs1_12))]) (rn_V (As := [.ref q16, .int 4, .int 0]) (rest := []) hx hb hml hown hts (c_X6_addCome l D cI cJ cZ q8 q16 fs7_4 4 h_7 _) ⟨rfl, rfl⟩ sv_X11_261 ⟨(Nat.le_of_ble_eq_true rfl), (Nat.le_of_ble_eq_true rfl)⟩ ⟨(Nat.le_of_ble_eq_true rfl), (Nat.le_of_ble_eq_true rfl)⟩ (fun _ _ _ _ h => h) (fun _ _ _ => trivial) hK hP hD [12] rfl rfl 0 6 rfl rfl rfl rfl hl.1 rfl (Nat.le_of_ble_eq_true rfl) dX11_give_50) hP hD hS hA [12] [0, 1, 2, 3, 4, 5, 6, 7, 8, 9, 10, 11] rfl rfl rfl (by decide) (fun w_42 H locs hw_41 hP hD hS => ?_)
  subst hw_41
  have hP : va_P D vwCl [(q11, .inr (1, fs11)), (q14, .inr (9, fs14)), (q15, .inr (4, fs15)), (q17, .inl (cI, 10, .inl f17)), (h0, .inr (11, fs0)), (q9, .inr (7, fs9)), (q1, .inl (cI, 250, .inl g1_5)), (q2, .inl (cI, 10, .inl g2_6)), (q3, .inl (cI, 25, .inl g3_13)), (q4, .inl (cI, 40, .inl g4_14)), (q16, .inl (cI, 10, .inl f2_22)), (q13, .inr (3, fs1_12)), (q8, .inr (6, fs7_4))] H := hP
  have hD : va_D A [(q11, .inr (1, fs11)), (q14, .inr (9, fs14)), (q15, .inr (4, fs15)), (q17, .inl (cI, 10, .inl f17)), (h0, .inr (11, fs0)), (q9, .inr (7, fs9)), (q1, .inl (cI, 250, .inl g1_5)), (q2, .inl (cI, 10, .inl g2_6)), (q3, .inl (cI, 25, .inl g3_13)), (q4, .inl (cI, 40, .inl g4_14)), (q16, .inl (cI, 10, .inl f2_22)), (q13, .inr (3, fs1_12)), (q8, .inr (6, fs7_4))] := hD
  refine lv_aload_n hx hb dX11_give_53 rfl (lv_at hl 1 rfl) ?_
  refine gt_X11 hx hb hts hown hK hP 4 rfl 7 (by decide) wd_680 rfl hf_fs0_7 dX11_give_54 ?_
  refine lv_aload_n hx hb dX11_give_57 rfl (lv_at hl 1 rfl) ?_
  refine gt_X11 hx hb hts hown hK hP 4 rfl 5 (by decide) wd_678 rfl hf_fs0_5 dX11_give_58 ?_
  refine lv_aload_n hx hb dX11_give_61 rfl (lv_at hl 1 rfl) ?_
  refine gt_X11 hx hb hts hown hK hP 4 rfl 6 (by decide) wd_679 rfl hf_fs0_6 dX11_give_62 ?_
  refine lv_iload_n hx hb dX11_give_65 rfl (lv_at hl 0 rfl) ?_
  refine lv_aload_n hx hb dX11_give_66 rfl (lv_at hl 1 rfl) ?_
  refine gt_X11 hx hb hts hown hK hP 4 rfl 13 (by decide) wd_686 rfl hf_fs0_13 dX11_give_67 ?_
  refine cl_v (wr := [(q11, .inr (1, fs11)), (q14, .inr (9, fs14)), (q15, .inr (4, fs15)), (q17, .inl (cI, 10, .inl f17)), (h0, .inr (11, fs0)), (q9, .inr (7, fs9)), (q1, .inl (cI, 250, .inl g1_5)), (q2, .inl (cI, 10, .inl g2_6)), (q3, .inl (cI, 25, .inl g3_13)), (q4, .inl (cI, 40, .inl g4_14)), (q16, .inl (cI, 10, .inl f2_22))]) (rn_V (As := [.ref q8, .ref q12, .int 4, .ref q16]) (rest := []) hx hb hml hown hts (c_X3_addDay l D cI cJ cZ q13 q8 q12 q16 fs1_12 fs7_4 4 h_15 h_16 h_7 h_8 _) ⟨rfl, rfl⟩ sv_X11_265 ⟨(Nat.le_of_ble_eq_true rfl), (Nat.le_of_ble_eq_true rfl)⟩ ⟨(Nat.le_of_ble_eq_true rfl), (Nat.le_of_ble_eq_true rfl)⟩ (fun _ _ _ _ h => h) (fun _ _ _ => trivial) hK hP hD [11, 12] rfl rfl 0 3 rfl rfl rfl rfl hl.1 rfl (Nat.le_of_ble_eq_true rfl) dX11_give_70) hP hD hS hA [11, 12] [0, 1, 2, 3, 4, 5, 6, 7, 8, 9, 10] rfl rfl rfl (by decide) (fun w_45 H locs hw_44 hP hD hS => ?_)
  subst hw_44
  have hP : va_P D vwCl [(q11, .inr (1, fs11)), (q14, .inr (9, fs14)), (q15, .inr (4, fs15)), (q17, .inl (cI, 10, .inl f17)), (h0, .inr (11, fs0)), (q9, .inr (7, fs9)), (q1, .inl (cI, 250, .inl g1_5)), (q2, .inl (cI, 10, .inl g2_6)), (q3, .inl (cI, 25, .inl g3_13)), (q4, .inl (cI, 40, .inl g4_14)), (q16, .inl (cI, 10, .inl f2_22)), (q13, .inr (3, fs1_12)), (q8, .inr (6, fs7_4))] H := hP
  have hD : va_D A [(q11, .inr (1, fs11)), (q14, .inr (9, fs14)), (q15, .inr (4, fs15)), (q17, .inl (cI, 10, .inl f17)), (h0, .inr (11, fs0)), (q9, .inr (7, fs9)), (q1, .inl (cI, 250, .inl g1_5)), (q2, .inl (cI, 10, .inl g2_6)), (q3, .inl (cI, 25, .inl g3_13)), (q4, .inl (cI, 40, .inl g4_14)), (q16, .inl (cI, 10, .inl f2_22)), (q13, .inr (3, fs1_12)), (q8, .inr (6, fs7_4))] := hD
  refine lv_iinc (v := 5) (lv' := [(1, .int 5), (0, .ref h0)]) hx hb dX11_give_73 hl (k := 0) rfl (by decide) (by decide) rfl (fun ls hl => ?_)
  refine lv_goto (tgt := 28) hx hb dX11_give_76 (by decide) ?_
  refine lv_iload_n hx hb dX11_give_28 rfl (lv_at hl 0 rfl) ?_
  refine lv_bipush (v := 24) hx hb dX11_give_29 (by decide) ?_
  refine lv_icmp_gt (tgt := 79) hx hb dX11_give_31 (by decide) (fun h => absurd h (by decide)) (fun _ => ?_)
  refine lv_aload_n hx hb dX11_give_34 rfl (lv_at hl 1 rfl) ?_
  refine gt_X11 hx hb hts hown hK hP 4 rfl 5 (by decide) wd_678 rfl hf_fs0_5 dX11_give_35 ?_
  refine lv_aload_n hx hb dX11_give_38 rfl (lv_at hl 1 rfl) ?_
  refine gt_X11 hx hb hts hown hK hP 4 rfl 13 (by decide) wd_686 rfl hf_fs0_13 dX11_give_39 ?_
  refine lv_iload_n hx hb dX11_give_42 rfl (lv_at hl 0 rfl) ?_
  refine lv_aload_n hx hb dX11_give_43 rfl (lv_at hl 1 rfl) ?_
  refine gt_X11 hx hb hts hown hK hP 4 rfl 0 (by decide) wd_673 rfl hf_fs0_0 dX11_give_44 ?_
  refine gt_X1 hx hb hts hown hK hP 0 rfl 0 (by decide) wd_39 rfl hf_fs11_0 dX11_give_47 ?_
  refine cl_v (wr := [(q11, .inr (1, fs11)), (q14, .inr (9, fs14)), (q15, .inr (4, fs15)), (q17, .inl (cI, 10, .inl f17)), (h0, .inr (11, fs0)), (q9, .inr (7, fs9)), (q1, .inl (cI, 250, .inl g1_5)), (q2, .inl (cI, 10, .inl g2_6)), (q3, .inl (cI, 25, .inl g3_13)), (q4, .inl (cI, 40, .inl g4_14)), (q16, .inl (cI, 10, .inl f2_22)), (q13, .inr (3, fs1_12))]) (rn_V (As := [.ref q16, .int 5, .int 0]) (rest := []) hx hb hml hown hts (c_X6_addCome l D cI cJ cZ q8 q16 fs7_4 5 h_7 _) ⟨rfl, rfl⟩ sv_X11_261 ⟨(Nat.le_of_ble_eq_true rfl), (Nat.le_of_ble_eq_true rfl)⟩ ⟨(Nat.le_of_ble_eq_true rfl), (Nat.le_of_ble_eq_true rfl)⟩ (fun _ _ _ _ h => h) (fun _ _ _ => trivial) hK hP hD [12] rfl rfl 0 6 rfl rfl rfl rfl hl.1 rfl (Nat.le_of_ble_eq_true rfl) dX11_give_50) hP hD hS hA [12] [0, 1, 2, 3, 4, 5, 6, 7, 8, 9, 10, 11] rfl rfl rfl (by decide) (fun w_48 H locs hw_47 hP hD hS => ?_)
  subst hw_47
  have hP : va_P D vwCl [(q11, .inr (1, fs11)), (q14, .inr (9, fs14)), (q15, .inr (4, fs15)), (q17, .inl (cI, 10, .inl f17)), (h0, .inr (11, fs0)), (q9, .inr (7, fs9)), (q1, .inl (cI, 250, .inl g1_5)), (q2, .inl (cI, 10, .inl g2_6)), (q3, .inl (cI, 25, .inl g3_13)), (q4, .inl (cI, 40, .inl g4_14)), (q16, .inl (cI, 10, .inl f2_22)), (q13, .inr (3, fs1_12)), (q8, .inr (6, fs7_4))] H := hP
  have hD : va_D A [(q11, .inr (1, fs11)), (q14, .inr (9, fs14)), (q15, .inr (4, fs15)), (q17, .inl (cI, 10, .inl f17)), (h0, .inr (11, fs0)), (q9, .inr (7, fs9)), (q1, .inl (cI, 250, .inl g1_5)), (q2, .inl (cI, 10, .inl g2_6)), (q3, .inl (cI, 25, .inl g3_13)), (q4, .inl (cI, 40, .inl g4_14)), (q16, .inl (cI, 10, .inl f2_22)), (q13, .inr (3, fs1_12)), (q8, .inr (6, fs7_4))] := hD
  refine lv_aload_n hx hb dX11_give_53 rfl (lv_at hl 1 rfl) ?_
  refine gt_X11 hx hb hts hown hK hP 4 rfl 7 (by decide) wd_680 rfl hf_fs0_7 dX11_give_54 ?_
  refine lv_aload_n hx hb dX11_give_57 rfl (lv_at hl 1 rfl) ?_
  refine gt_X11 hx hb hts hown hK hP 4 rfl 5 (by decide) wd_678 rfl hf_fs0_5 dX11_give_58 ?_
  refine lv_aload_n hx hb dX11_give_61 rfl (lv_at hl 1 rfl) ?_
  refine gt_X11 hx hb hts hown hK hP 4 rfl 6 (by decide) wd_679 rfl hf_fs0_6 dX11_give_62 ?_
  refine lv_iload_n hx hb dX11_give_65 rfl (lv_at hl 0 rfl) ?_
  refine lv_aload_n hx hb dX11_give_66 rfl (lv_at hl 1 rfl) ?_
  refine gt_X11 hx hb hts hown hK hP 4 rfl 13 (by decide) wd_686 rfl hf_fs0_13 dX11_give_67 ?_
  refine cl_v (wr := [(q11, .inr (1, fs11)), (q14, .inr (9, fs14)), (q15, .inr (4, fs15)), (q17, .inl (cI, 10, .inl f17)), (h0, .inr (11, fs0)), (q9, .inr (7, fs9)), (q1, .inl (cI, 250, .inl g1_5)), (q2, .inl (cI, 10, .inl g2_6)), (q3, .inl (cI, 25, .inl g3_13)), (q4, .inl (cI, 40, .inl g4_14)), (q16, .inl (cI, 10, .inl f2_22))]) (rn_V (As := [.ref q8, .ref q12, .int 5, .ref q16]) (rest := []) hx hb hml hown hts (c_X3_addDay l D cI cJ cZ q13 q8 q12 q16 fs1_12 fs7_4 5 h_15 h_16 h_7 h_8 _) ⟨rfl, rfl⟩ sv_X11_265 ⟨(Nat.le_of_ble_eq_true rfl), (Nat.le_of_ble_eq_true rfl)⟩ ⟨(Nat.le_of_ble_eq_true rfl), (Nat.le_of_ble_eq_true rfl)⟩ (fun _ _ _ _ h => h) (fun _ _ _ => trivial) hK hP hD [11, 12] rfl rfl 0 3 rfl rfl rfl rfl hl.1 rfl (Nat.le_of_ble_eq_true rfl) dX11_give_70) hP hD hS hA [11, 12] [0, 1, 2, 3, 4, 5, 6, 7, 8, 9, 10] rfl rfl rfl (by decide) (fun w_51 H locs hw_50 hP hD hS => ?_)
  subst hw_50
  have hP : va_P D vwCl [(q11, .inr (1, fs11)), (q14, .inr (9, fs14)), (q15, .inr (4, fs15)), (q17, .inl (cI, 10, .inl f17)), (h0, .inr (11, fs0)), (q9, .inr (7, fs9)), (q1, .inl (cI, 250, .inl g1_5)), (q2, .inl (cI, 10, .inl g2_6)), (q3, .inl (cI, 25, .inl g3_13)), (q4, .inl (cI, 40, .inl g4_14)), (q16, .inl (cI, 10, .inl f2_22)), (q13, .inr (3, fs1_12)), (q8, .inr (6, fs7_4))] H := hP
  have hD : va_D A [(q11, .inr (1, fs11)), (q14, .inr (9, fs14)), (q15, .inr (4, fs15)), (q17, .inl (cI, 10, .inl f17)), (h0, .inr (11, fs0)), (q9, .inr (7, fs9)), (q1, .inl (cI, 250, .inl g1_5)), (q2, .inl (cI, 10, .inl g2_6)), (q3, .inl (cI, 25, .inl g3_13)), (q4, .inl (cI, 40, .inl g4_14)), (q16, .inl (cI, 10, .inl f2_22)), (q13, .inr (3, fs1_12)), (q8, .inr (6, fs7_4))] := hD
  refine lv_iinc (v := 6) (lv' := [(1, .int 6), (0, .ref h0)]) hx hb dX11_give_73 hl (k := 0) rfl (by decide) (by decide) rfl (fun ls hl => ?_)
  refine lv_goto (tgt := 28) hx hb dX11_give_76 (by decide) ?_
  refine lv_iload_n hx hb dX11_give_28 rfl (lv_at hl 0 rfl) ?_
  refine lv_bipush (v := 24) hx hb dX11_give_29 (by decide) ?_
  refine lv_icmp_gt (tgt := 79) hx hb dX11_give_31 (by decide) (fun h => absurd h (by decide)) (fun _ => ?_)
  refine lv_aload_n hx hb dX11_give_34 rfl (lv_at hl 1 rfl) ?_
  refine gt_X11 hx hb hts hown hK hP 4 rfl 5 (by decide) wd_678 rfl hf_fs0_5 dX11_give_35 ?_
  refine lv_aload_n hx hb dX11_give_38 rfl (lv_at hl 1 rfl) ?_
  refine gt_X11 hx hb hts hown hK hP 4 rfl 13 (by decide) wd_686 rfl hf_fs0_13 dX11_give_39 ?_
  refine lv_iload_n hx hb dX11_give_42 rfl (lv_at hl 0 rfl) ?_
  refine lv_aload_n hx hb dX11_give_43 rfl (lv_at hl 1 rfl) ?_
  refine gt_X11 hx hb hts hown hK hP 4 rfl 0 (by decide) wd_673 rfl hf_fs0_0 dX11_give_44 ?_
  refine gt_X1 hx hb hts hown hK hP 0 rfl 0 (by decide) wd_39 rfl hf_fs11_0 dX11_give_47 ?_
  refine cl_v (wr := [(q11, .inr (1, fs11)), (q14, .inr (9, fs14)), (q15, .inr (4, fs15)), (q17, .inl (cI, 10, .inl f17)), (h0, .inr (11, fs0)), (q9, .inr (7, fs9)), (q1, .inl (cI, 250, .inl g1_5)), (q2, .inl (cI, 10, .inl g2_6)), (q3, .inl (cI, 25, .inl g3_13)), (q4, .inl (cI, 40, .inl g4_14)), (q16, .inl (cI, 10, .inl f2_22)), (q13, .inr (3, fs1_12))]) (rn_V (As := [.ref q16, .int 6, .int 0]) (rest := []) hx hb hml hown hts (c_X6_addCome l D cI cJ cZ q8 q16 fs7_4 6 h_7 _) ⟨rfl, rfl⟩ sv_X11_261 ⟨(Nat.le_of_ble_eq_true rfl), (Nat.le_of_ble_eq_true rfl)⟩ ⟨(Nat.le_of_ble_eq_true rfl), (Nat.le_of_ble_eq_true rfl)⟩ (fun _ _ _ _ h => h) (fun _ _ _ => trivial) hK hP hD [12] rfl rfl 0 6 rfl rfl rfl rfl hl.1 rfl (Nat.le_of_ble_eq_true rfl) dX11_give_50) hP hD hS hA [12] [0, 1, 2, 3, 4, 5, 6, 7, 8, 9, 10, 11] rfl rfl rfl (by decide) (fun w_54 H locs hw_53 hP hD hS => ?_)
  subst hw_53
  have hP : va_P D vwCl [(q11, .inr (1, fs11)), (q14, .inr (9, fs14)), (q15, .inr (4, fs15)), (q17, .inl (cI, 10, .inl f17)), (h0, .inr (11, fs0)), (q9, .inr (7, fs9)), (q1, .inl (cI, 250, .inl g1_5)), (q2, .inl (cI, 10, .inl g2_6)), (q3, .inl (cI, 25, .inl g3_13)), (q4, .inl (cI, 40, .inl g4_14)), (q16, .inl (cI, 10, .inl f2_22)), (q13, .inr (3, fs1_12)), (q8, .inr (6, fs7_4))] H := hP
  have hD : va_D A [(q11, .inr (1, fs11)), (q14, .inr (9, fs14)), (q15, .inr (4, fs15)), (q17, .inl (cI, 10, .inl f17)), (h0, .inr (11, fs0)), (q9, .inr (7, fs9)), (q1, .inl (cI, 250, .inl g1_5)), (q2, .inl (cI, 10, .inl g2_6)), (q3, .inl (cI, 25, .inl g3_13)), (q4, .inl (cI, 40, .inl g4_14)), (q16, .inl (cI, 10, .inl f2_22)), (q13, .inr (3, fs1_12)), (q8, .inr (6, fs7_4))] := hD
  refine lv_aload_n hx hb dX11_give_53 rfl (lv_at hl 1 rfl) ?_
  refine gt_X11 hx hb hts hown hK hP 4 rfl 7 (by decide) wd_680 rfl hf_fs0_7 dX11_give_54 ?_
  refine lv_aload_n hx hb dX11_give_57 rfl (lv_at hl 1 rfl) ?_
  refine gt_X11 hx hb hts hown hK hP 4 rfl 5 (by decide) wd_678 rfl hf_fs0_5 dX11_give_58 ?_
  refine lv_aload_n hx hb dX11_give_61 rfl (lv_at hl 1 rfl) ?_
  refine gt_X11 hx hb hts hown hK hP 4 rfl 6 (by decide) wd_679 rfl hf_fs0_6 dX11_give_62 ?_
  refine lv_iload_n hx hb dX11_give_65 rfl (lv_at hl 0 rfl) ?_
  refine lv_aload_n hx hb dX11_give_66 rfl (lv_at hl 1 rfl) ?_
  refine gt_X11 hx hb hts hown hK hP 4 rfl 13 (by decide) wd_686 rfl hf_fs0_13 dX11_give_67 ?_
  refine cl_v (wr := [(q11, .inr (1, fs11)), (q14, .inr (9, fs14)), (q15, .inr (4, fs15)), (q17, .inl (cI, 10, .inl f17)), (h0, .inr (11, fs0)), (q9, .inr (7, fs9)), (q1, .inl (cI, 250, .inl g1_5)), (q2, .inl (cI, 10, .inl g2_6)), (q3, .inl (cI, 25, .inl g3_13)), (q4, .inl (cI, 40, .inl g4_14)), (q16, .inl (cI, 10, .inl f2_22))]) (rn_V (As := [.ref q8, .ref q12, .int 6, .ref q16]) (rest := []) hx hb hml hown hts (c_X3_addDay l D cI cJ cZ q13 q8 q12 q16 fs1_12 fs7_4 6 h_15 h_16 h_7 h_8 _) ⟨rfl, rfl⟩ sv_X11_265 ⟨(Nat.le_of_ble_eq_true rfl), (Nat.le_of_ble_eq_true rfl)⟩ ⟨(Nat.le_of_ble_eq_true rfl), (Nat.le_of_ble_eq_true rfl)⟩ (fun _ _ _ _ h => h) (fun _ _ _ => trivial) hK hP hD [11, 12] rfl rfl 0 3 rfl rfl rfl rfl hl.1 rfl (Nat.le_of_ble_eq_true rfl) dX11_give_70) hP hD hS hA [11, 12] [0, 1, 2, 3, 4, 5, 6, 7, 8, 9, 10] rfl rfl rfl (by decide) (fun w_57 H locs hw_56 hP hD hS => ?_)
  subst hw_56
  have hP : va_P D vwCl [(q11, .inr (1, fs11)), (q14, .inr (9, fs14)), (q15, .inr (4, fs15)), (q17, .inl (cI, 10, .inl f17)), (h0, .inr (11, fs0)), (q9, .inr (7, fs9)), (q1, .inl (cI, 250, .inl g1_5)), (q2, .inl (cI, 10, .inl g2_6)), (q3, .inl (cI, 25, .inl g3_13)), (q4, .inl (cI, 40, .inl g4_14)), (q16, .inl (cI, 10, .inl f2_22)), (q13, .inr (3, fs1_12)), (q8, .inr (6, fs7_4))] H := hP
  have hD : va_D A [(q11, .inr (1, fs11)), (q14, .inr (9, fs14)), (q15, .inr (4, fs15)), (q17, .inl (cI, 10, .inl f17)), (h0, .inr (11, fs0)), (q9, .inr (7, fs9)), (q1, .inl (cI, 250, .inl g1_5)), (q2, .inl (cI, 10, .inl g2_6)), (q3, .inl (cI, 25, .inl g3_13)), (q4, .inl (cI, 40, .inl g4_14)), (q16, .inl (cI, 10, .inl f2_22)), (q13, .inr (3, fs1_12)), (q8, .inr (6, fs7_4))] := hD
  refine lv_iinc (v := 7) (lv' := [(1, .int 7), (0, .ref h0)]) hx hb dX11_give_73 hl (k := 0) rfl (by decide) (by decide) rfl (fun ls hl => ?_)
  refine lv_goto (tgt := 28) hx hb dX11_give_76 (by decide) ?_
  refine lv_iload_n hx hb dX11_give_28 rfl (lv_at hl 0 rfl) ?_
  refine lv_bipush (v := 24) hx hb dX11_give_29 (by decide) ?_
  refine lv_icmp_gt (tgt := 79) hx hb dX11_give_31 (by decide) (fun h => absurd h (by decide)) (fun _ => ?_)
  refine lv_aload_n hx hb dX11_give_34 rfl (lv_at hl 1 rfl) ?_
  refine gt_X11 hx hb hts hown hK hP 4 rfl 5 (by decide) wd_678 rfl hf_fs0_5 dX11_give_35 ?_
  refine lv_aload_n hx hb dX11_give_38 rfl (lv_at hl 1 rfl) ?_
  refine gt_X11 hx hb hts hown hK hP 4 rfl 13 (by decide) wd_686 rfl hf_fs0_13 dX11_give_39 ?_
  refine lv_iload_n hx hb dX11_give_42 rfl (lv_at hl 0 rfl) ?_
  refine lv_aload_n hx hb dX11_give_43 rfl (lv_at hl 1 rfl) ?_
  refine gt_X11 hx hb hts hown hK hP 4 rfl 0 (by decide) wd_673 rfl hf_fs0_0 dX11_give_44 ?_
  refine gt_X1 hx hb hts hown hK hP 0 rfl 0 (by decide) wd_39 rfl hf_fs11_0 dX11_give_47 ?_
  refine cl_v (wr := [(q11, .inr (1, fs11)), (q14, .inr (9, fs14)), (q15, .inr (4, fs15)), (q17, .inl (cI, 10, .inl f17)), (h0, .inr (11, fs0)), (q9, .inr (7, fs9)), (q1, .inl (cI, 250, .inl g1_5)), (q2, .inl (cI, 10, .inl g2_6)), (q3, .inl (cI, 25, .inl g3_13)), (q4, .inl (cI, 40, .inl g4_14)), (q16, .inl (cI, 10, .inl f2_22)), (q13, .inr (3, fs1_12))]) (rn_V (As := [.ref q16, .int 7, .int 0]) (rest := []) hx hb hml hown hts (c_X6_addCome l D cI cJ cZ q8 q16 fs7_4 7 h_7 _) ⟨rfl, rfl⟩ sv_X11_261 ⟨(Nat.le_of_ble_eq_true rfl), (Nat.le_of_ble_eq_true rfl)⟩ ⟨(Nat.le_of_ble_eq_true rfl), (Nat.le_of_ble_eq_true rfl)⟩ (fun _ _ _ _ h => h) (fun _ _ _ => trivial) hK hP hD [12] rfl rfl 0 6 rfl rfl rfl rfl hl.1 rfl (Nat.le_of_ble_eq_true rfl) dX11_give_50) hP hD hS hA [12] [0, 1, 2, 3, 4, 5, 6, 7, 8, 9, 10, 11] rfl rfl rfl (by decide) (fun w_60 H locs hw_59 hP hD hS => ?_)
  subst hw_59
  have hP : va_P D vwCl [(q11, .inr (1, fs11)), (q14, .inr (9, fs14)), (q15, .inr (4, fs15)), (q17, .inl (cI, 10, .inl f17)), (h0, .inr (11, fs0)), (q9, .inr (7, fs9)), (q1, .inl (cI, 250, .inl g1_5)), (q2, .inl (cI, 10, .inl g2_6)), (q3, .inl (cI, 25, .inl g3_13)), (q4, .inl (cI, 40, .inl g4_14)), (q16, .inl (cI, 10, .inl f2_22)), (q13, .inr (3, fs1_12)), (q8, .inr (6, fs7_4))] H := hP
  have hD : va_D A [(q11, .inr (1, fs11)), (q14, .inr (9, fs14)), (q15, .inr (4, fs15)), (q17, .inl (cI, 10, .inl f17)), (h0, .inr (11, fs0)), (q9, .inr (7, fs9)), (q1, .inl (cI, 250, .inl g1_5)), (q2, .inl (cI, 10, .inl g2_6)), (q3, .inl (cI, 25, .inl g3_13)), (q4, .inl (cI, 40, .inl g4_14)), (q16, .inl (cI, 10, .inl f2_22)), (q13, .inr (3, fs1_12)), (q8, .inr (6, fs7_4))] := hD
  refine lv_aload_n hx hb dX11_give_53 rfl (lv_at hl 1 rfl) ?_
  refine gt_X11 hx hb hts hown hK hP 4 rfl 7 (by decide) wd_680 rfl hf_fs0_7 dX11_give_54 ?_
  refine lv_aload_n hx hb dX11_give_57 rfl (lv_at hl 1 rfl) ?_
  refine gt_X11 hx hb hts hown hK hP 4 rfl 5 (by decide) wd_678 rfl hf_fs0_5 dX11_give_58 ?_
  refine lv_aload_n hx hb dX11_give_61 rfl (lv_at hl 1 rfl) ?_
  refine gt_X11 hx hb hts hown hK hP 4 rfl 6 (by decide) wd_679 rfl hf_fs0_6 dX11_give_62 ?_
  refine lv_iload_n hx hb dX11_give_65 rfl (lv_at hl 0 rfl) ?_
  refine lv_aload_n hx hb dX11_give_66 rfl (lv_at hl 1 rfl) ?_
  refine gt_X11 hx hb hts hown hK hP 4 rfl 13 (by decide) wd_686 rfl hf_fs0_13 dX11_give_67 ?_
  refine cl_v (wr := [(q11, .inr (1, fs11)), (q14, .inr (9, fs14)), (q15, .inr (4, fs15)), (q17, .inl (cI, 10, .inl f17)), (h0, .inr (11, fs0)), (q9, .inr (7, fs9)), (q1, .inl (cI, 250, .inl g1_5)), (q2, .inl (cI, 10, .inl g2_6)), (q3, .inl (cI, 25, .inl g3_13)), (q4, .inl (cI, 40, .inl g4_14)), (q16, .inl (cI, 10, .inl f2_22))]) (rn_V (As := [.ref q8, .ref q12, .int 7, .ref q16]) (rest := []) hx hb hml hown hts (c_X3_addDay l D cI cJ cZ q13 q8 q12 q16 fs1_12 fs7_4 7 h_15 h_16 h_7 h_8 _) ⟨rfl, rfl⟩ sv_X11_265 ⟨(Nat.le_of_ble_eq_true rfl), (Nat.le_of_ble_eq_true rfl)⟩ ⟨(Nat.le_of_ble_eq_true rfl), (Nat.le_of_ble_eq_true rfl)⟩ (fun _ _ _ _ h => h) (fun _ _ _ => trivial) hK hP hD [11, 12] rfl rfl 0 3 rfl rfl rfl rfl hl.1 rfl (Nat.le_of_ble_eq_true rfl) dX11_give_70) hP hD hS hA [11, 12] [0, 1, 2, 3, 4, 5, 6, 7, 8, 9, 10] rfl rfl rfl (by decide) (fun w_63 H locs hw_62 hP hD hS => ?_)
  subst hw_62
  have hP : va_P D vwCl [(q11, .inr (1, fs11)), (q14, .inr (9, fs14)), (q15, .inr (4, fs15)), (q17, .inl (cI, 10, .inl f17)), (h0, .inr (11, fs0)), (q9, .inr (7, fs9)), (q1, .inl (cI, 250, .inl g1_5)), (q2, .inl (cI, 10, .inl g2_6)), (q3, .inl (cI, 25, .inl g3_13)), (q4, .inl (cI, 40, .inl g4_14)), (q16, .inl (cI, 10, .inl f2_22)), (q13, .inr (3, fs1_12)), (q8, .inr (6, fs7_4))] H := hP
  have hD : va_D A [(q11, .inr (1, fs11)), (q14, .inr (9, fs14)), (q15, .inr (4, fs15)), (q17, .inl (cI, 10, .inl f17)), (h0, .inr (11, fs0)), (q9, .inr (7, fs9)), (q1, .inl (cI, 250, .inl g1_5)), (q2, .inl (cI, 10, .inl g2_6)), (q3, .inl (cI, 25, .inl g3_13)), (q4, .inl (cI, 40, .inl g4_14)), (q16, .inl (cI, 10, .inl f2_22)), (q13, .inr (3, fs1_12)), (q8, .inr (6, fs7_4))] := hD
  refine lv_iinc (v := 8) (lv' := [(1, .int 8), (0, .ref h0)]) hx hb dX11_give_73 hl (k := 0) rfl (by decide) (by decide) rfl (fun ls hl => ?_)
  refine lv_goto (tgt := 28) hx hb dX11_give_76 (by decide) ?_
  refine lv_iload_n hx hb dX11_give_28 rfl (lv_at hl 0 rfl) ?_
  refine lv_bipush (v := 24) hx hb dX11_give_29 (by decide) ?_
  refine lv_icmp_gt (tgt := 79) hx hb dX11_give_31 (by decide) (fun h => absurd h (by decide)) (fun _ => ?_)
  refine lv_aload_n hx hb dX11_give_34 rfl (lv_at hl 1 rfl) ?_
  refine gt_X11 hx hb hts hown hK hP 4 rfl 5 (by decide) wd_678 rfl hf_fs0_5 dX11_give_35 ?_
  refine lv_aload_n hx hb dX11_give_38 rfl (lv_at hl 1 rfl) ?_
  refine gt_X11 hx hb hts hown hK hP 4 rfl 13 (by decide) wd_686 rfl hf_fs0_13 dX11_give_39 ?_
  refine lv_iload_n hx hb dX11_give_42 rfl (lv_at hl 0 rfl) ?_
  refine lv_aload_n hx hb dX11_give_43 rfl (lv_at hl 1 rfl) ?_
  refine gt_X11 hx hb hts hown hK hP 4 rfl 0 (by decide) wd_673 rfl hf_fs0_0 dX11_give_44 ?_
  refine gt_X1 hx hb hts hown hK hP 0 rfl 0 (by decide) wd_39 rfl hf_fs11_0 dX11_give_47 ?_
  refine cl_v (wr := [(q11, .inr (1, fs11)), (q14, .inr (9, fs14)), (q15, .inr (4, fs15)), (q17, .inl (cI, 10, .inl f17)), (h0, .inr (11, fs0)), (q9, .inr (7, fs9)), (q1, .inl (cI, 250, .inl g1_5)), (q2, .inl (cI, 10, .inl g2_6)), (q3, .inl (cI, 25, .inl g3_13)), (q4, .inl (cI, 40, .inl g4_14)), (q16, .inl (cI, 10, .inl f2_22)), (q13, .inr (3, fs1_12))]) (rn_V (As := [.ref q16, .int 8, .int 0]) (rest := []) hx hb hml hown hts (c_X6_addCome l D cI cJ cZ q8 q16 fs7_4 8 h_7 _) ⟨rfl, rfl⟩ sv_X11_261 ⟨(Nat.le_of_ble_eq_true rfl), (Nat.le_of_ble_eq_true rfl)⟩ ⟨(Nat.le_of_ble_eq_true rfl), (Nat.le_of_ble_eq_true rfl)⟩ (fun _ _ _ _ h => h) (fun _ _ _ => trivial) hK hP hD [12] rfl rfl 0 6 rfl rfl rfl rfl hl.1 rfl (Nat.le_of_ble_eq_true rfl) dX11_give_50) hP hD hS hA [12] [0, 1, 2, 3, 4, 5, 6, 7, 8, 9, 10, 11] rfl rfl rfl (by decide) (fun w_66 H locs hw_65 hP hD hS => ?_)
  subst hw_65
  have hP : va_P D vwCl [(q11, .inr (1, fs11)), (q14, .inr (9, fs14)), (q15, .inr (4, fs15)), (q17, .inl (cI, 10, .inl f17)), (h0, .inr (11, fs0)), (q9, .inr (7, fs9)), (q1, .inl (cI, 250, .inl g1_5)), (q2, .inl (cI, 10, .inl g2_6)), (q3, .inl (cI, 25, .inl g3_13)), (q4, .inl (cI, 40, .inl g4_14)), (q16, .inl (cI, 10, .inl f2_22)), (q13, .inr (3, fs1_12)), (q8, .inr (6, fs7_4))] H := hP
  have hD : va_D A [(q11, .inr (1, fs11)), (q14, .inr (9, fs14)), (q15, .inr (4, fs15)), (q17, .inl (cI, 10, .inl f17)), (h0, .inr (11, fs0)), (q9, .inr (7, fs9)), (q1, .inl (cI, 250, .inl g1_5)), (q2, .inl (cI, 10, .inl g2_6)), (q3, .inl (cI, 25, .inl g3_13)), (q4, .inl (cI, 40, .inl g4_14)), (q16, .inl (cI, 10, .inl f2_22)), (q13, .inr (3, fs1_12)), (q8, .inr (6, fs7_4))] := hD
  refine lv_aload_n hx hb dX11_give_53 rfl (lv_at hl 1 rfl) ?_
  refine gt_X11 hx hb hts hown hK hP 4 rfl 7 (by decide) wd_680 rfl hf_fs0_7 dX11_give_54 ?_
  refine lv_aload_n hx hb dX11_give_57 rfl (lv_at hl 1 rfl) ?_
  refine gt_X11 hx hb hts hown hK hP 4 rfl 5 (by decide) wd_678 rfl hf_fs0_5 dX11_give_58 ?_
  refine lv_aload_n hx hb dX11_give_61 rfl (lv_at hl 1 rfl) ?_
  refine gt_X11 hx hb hts hown hK hP 4 rfl 6 (by decide) wd_679 rfl hf_fs0_6 dX11_give_62 ?_
  refine lv_iload_n hx hb dX11_give_65 rfl (lv_at hl 0 rfl) ?_
  refine lv_aload_n hx hb dX11_give_66 rfl (lv_at hl 1 rfl) ?_
  refine gt_X11 hx hb hts hown hK hP 4 rfl 13 (by decide) wd_686 rfl hf_fs0_13 dX11_give_67 ?_
  refine cl_v (wr := [(q11, .inr (1, fs11)), (q14, .inr (9, fs14)), (q15, .inr (4, fs15)), (q17, .inl (cI, 10, .inl f17)), (h0, .inr (11, fs0)), (q9, .inr (7, fs9)), (q1, .inl (cI, 250, .inl g1_5)), (q2, .inl (cI, 10, .inl g2_6)), (q3, .inl (cI, 25, .inl g3_13)), (q4, .inl (cI, 40, .inl g4_14)), (q16, .inl (cI, 10, .inl f2_22))]) (rn_V (As := [.ref q8, .ref q12, .int 8, .ref q16]) (rest := []) hx hb hml hown hts (c_X3_addDay l D cI cJ cZ q13 q8 q12 q16 fs1_12 fs7_4 8 h_15 h_16 h_7 h_8 _) ⟨rfl, rfl⟩ sv_X11_265 ⟨(Nat.le_of_ble_eq_true rfl), (Nat.le_of_ble_eq_true rfl)⟩ ⟨(Nat.le_of_ble_eq_true rfl), (Nat.le_of_ble_eq_true rfl)⟩ (fun _ _ _ _ h => h) (fun _ _ _ => trivial) hK hP hD [11, 12] rfl rfl 0 3 rfl rfl rfl rfl hl.1 rfl (Nat.le_of_ble_eq_true rfl) dX11_give_70) hP hD hS hA [11, 12] [0, 1, 2, 3, 4, 5, 6, 7, 8, 9, 10] rfl rfl rfl (by decide) (fun w_69 H locs hw_68 hP hD hS => ?_)
  subst hw_68
  have hP : va_P D vwCl [(q11, .inr (1, fs11)), (q14, .inr (9, fs14)), (q15, .inr (4, fs15)), (q17, .inl (cI, 10, .inl f17)), (h0, .inr (11, fs0)), (q9, .inr (7, fs9)), (q1, .inl (cI, 250, .inl g1_5)), (q2, .inl (cI, 10, .inl g2_6)), (q3, .inl (cI, 25, .inl g3_13)), (q4, .inl (cI, 40, .inl g4_14)), (q16, .inl (cI, 10, .inl f2_22)), (q13, .inr (3, fs1_12)), (q8, .inr (6, fs7_4))] H := hP
  have hD : va_D A [(q11, .inr (1, fs11)), (q14, .inr (9, fs14)), (q15, .inr (4, fs15)), (q17, .inl (cI, 10, .inl f17)), (h0, .inr (11, fs0)), (q9, .inr (7, fs9)), (q1, .inl (cI, 250, .inl g1_5)), (q2, .inl (cI, 10, .inl g2_6)), (q3, .inl (cI, 25, .inl g3_13)), (q4, .inl (cI, 40, .inl g4_14)), (q16, .inl (cI, 10, .inl f2_22)), (q13, .inr (3, fs1_12)), (q8, .inr (6, fs7_4))] := hD
  refine lv_iinc (v := 9) (lv' := [(1, .int 9), (0, .ref h0)]) hx hb dX11_give_73 hl (k := 0) rfl (by decide) (by decide) rfl (fun ls hl => ?_)
  refine lv_goto (tgt := 28) hx hb dX11_give_76 (by decide) ?_
  refine lv_iload_n hx hb dX11_give_28 rfl (lv_at hl 0 rfl) ?_
  refine lv_bipush (v := 24) hx hb dX11_give_29 (by decide) ?_
  refine lv_icmp_gt (tgt := 79) hx hb dX11_give_31 (by decide) (fun h => absurd h (by decide)) (fun _ => ?_)
  refine lv_aload_n hx hb dX11_give_34 rfl (lv_at hl 1 rfl) ?_
  refine gt_X11 hx hb hts hown hK hP 4 rfl 5 (by decide) wd_678 rfl hf_fs0_5 dX11_give_35 ?_
  refine lv_aload_n hx hb dX11_give_38 rfl (lv_at hl 1 rfl) ?_
  refine gt_X11 hx hb hts hown hK hP 4 rfl 13 (by decide) wd_686 rfl hf_fs0_13 dX11_give_39 ?_
  refine lv_iload_n hx hb dX11_give_42 rfl (lv_at hl 0 rfl) ?_
  refine lv_aload_n hx hb dX11_give_43 rfl (lv_at hl 1 rfl) ?_
  refine gt_X11 hx hb hts hown hK hP 4 rfl 0 (by decide) wd_673 rfl hf_fs0_0 dX11_give_44 ?_
  refine gt_X1 hx hb hts hown hK hP 0 rfl 0 (by decide) wd_39 rfl hf_fs11_0 dX11_give_47 ?_
  refine cl_v (wr := [(q11, .inr (1, fs11)), (q14, .inr (9, fs14)), (q15, .inr (4, fs15)), (q17, .inl (cI, 10, .inl f17)), (h0, .inr (11, fs0)), (q9, .inr (7, fs9)), (q1, .inl (cI, 250, .inl g1_5)), (q2, .inl (cI, 10, .inl g2_6)), (q3, .inl (cI, 25, .inl g3_13)), (q4, .inl (cI, 40, .inl g4_14)), (q16, .inl (cI, 10, .inl f2_22)), (q13, .inr (3, fs1_12))]) (rn_V (As := [.ref q16, .int 9, .int 0]) (rest := []) hx hb hml hown hts (c_X6_addCome l D cI cJ cZ q8 q16 fs7_4 9 h_7 _) ⟨rfl, rfl⟩ sv_X11_261 ⟨(Nat.le_of_ble_eq_true rfl), (Nat.le_of_ble_eq_true rfl)⟩ ⟨(Nat.le_of_ble_eq_true rfl), (Nat.le_of_ble_eq_true rfl)⟩ (fun _ _ _ _ h => h) (fun _ _ _ => trivial) hK hP hD [12] rfl rfl 0 6 rfl rfl rfl rfl hl.1 rfl (Nat.le_of_ble_eq_true rfl) dX11_give_50) hP hD hS hA [12] [0, 1, 2, 3, 4, 5, 6, 7, 8, 9, 10, 11] rfl rfl rfl (by decide) (fun w_72 H locs hw_71 hP hD hS => ?_)
  subst hw_71
  have hP : va_P D vwCl [(q11, .inr (1, fs11)), (q14, .inr (9, fs14)), (q15, .inr (4, fs15)), (q17, .inl (cI, 10, .inl f17)), (h0, .inr (11, fs0)), (q9, .inr (7, fs9)), (q1, .inl (cI, 250, .inl g1_5)), (q2, .inl (cI, 10, .inl g2_6)), (q3, .inl (cI, 25, .inl g3_13)), (q4, .inl (cI, 40, .inl g4_14)), (q16, .inl (cI, 10, .inl f2_22)), (q13, .inr (3, fs1_12)), (q8, .inr (6, fs7_4))] H := hP
  have hD : va_D A [(q11, .inr (1, fs11)), (q14, .inr (9, fs14)), (q15, .inr (4, fs15)), (q17, .inl (cI, 10, .inl f17)), (h0, .inr (11, fs0)), (q9, .inr (7, fs9)), (q1, .inl (cI, 250, .inl g1_5)), (q2, .inl (cI, 10, .inl g2_6)), (q3, .inl (cI, 25, .inl g3_13)), (q4, .inl (cI, 40, .inl g4_14)), (q16, .inl (cI, 10, .inl f2_22)), (q13, .inr (3, fs1_12)), (q8, .inr (6, fs7_4))] := hD
  refine lv_aload_n hx hb dX11_give_53 rfl (lv_at hl 1 rfl) ?_
  refine gt_X11 hx hb hts hown hK hP 4 rfl 7 (by decide) wd_680 rfl hf_fs0_7 dX11_give_54 ?_
  refine lv_aload_n hx hb dX11_give_57 rfl (lv_at hl 1 rfl) ?_
  refine gt_X11 hx hb hts hown hK hP 4 rfl 5 (by decide) wd_678 rfl hf_fs0_5 dX11_give_58 ?_
  refine lv_aload_n hx hb dX11_give_61 rfl (lv_at hl 1 rfl) ?_
  refine gt_X11 hx hb hts hown hK hP 4 rfl 6 (by decide) wd_679 rfl hf_fs0_6 dX11_give_62 ?_
  refine lv_iload_n hx hb dX11_give_65 rfl (lv_at hl 0 rfl) ?_
  refine lv_aload_n hx hb dX11_give_66 rfl (lv_at hl 1 rfl) ?_
  refine gt_X11 hx hb hts hown hK hP 4 rfl 13 (by decide) wd_686 rfl hf_fs0_13 dX11_give_67 ?_
  refine cl_v (wr := [(q11, .inr (1, fs11)), (q14, .inr (9, fs14)), (q15, .inr (4, fs15)), (q17, .inl (cI, 10, .inl f17)), (h0, .inr (11, fs0)), (q9, .inr (7, fs9)), (q1, .inl (cI, 250, .inl g1_5)), (q2, .inl (cI, 10, .inl g2_6)), (q3, .inl (cI, 25, .inl g3_13)), (q4, .inl (cI, 40, .inl g4_14)), (q16, .inl (cI, 10, .inl f2_22))]) (rn_V (As := [.ref q8, .ref q12, .int 9, .ref q16]) (rest := []) hx hb hml hown hts (c_X3_addDay l D cI cJ cZ q13 q8 q12 q16 fs1_12 fs7_4 9 h_15 h_16 h_7 h_8 _) ⟨rfl, rfl⟩ sv_X11_265 ⟨(Nat.le_of_ble_eq_true rfl), (Nat.le_of_ble_eq_true rfl)⟩ ⟨(Nat.le_of_ble_eq_true rfl), (Nat.le_of_ble_eq_true rfl)⟩ (fun _ _ _ _ h => h) (fun _ _ _ => trivial) hK hP hD [11, 12] rfl rfl 0 3 rfl rfl rfl rfl hl.1 rfl (Nat.le_of_ble_eq_true rfl) dX11_give_70) hP hD hS hA [11, 12] [0, 1, 2, 3, 4, 5, 6, 7, 8, 9, 10] rfl rfl rfl (by decide) (fun w_75 H locs hw_74 hP hD hS => ?_)
  subst hw_74
  have hP : va_P D vwCl [(q11, .inr (1, fs11)), (q14, .inr (9, fs14)), (q15, .inr (4, fs15)), (q17, .inl (cI, 10, .inl f17)), (h0, .inr (11, fs0)), (q9, .inr (7, fs9)), (q1, .inl (cI, 250, .inl g1_5)), (q2, .inl (cI, 10, .inl g2_6)), (q3, .inl (cI, 25, .inl g3_13)), (q4, .inl (cI, 40, .inl g4_14)), (q16, .inl (cI, 10, .inl f2_22)), (q13, .inr (3, fs1_12)), (q8, .inr (6, fs7_4))] H := hP
  have hD : va_D A [(q11, .inr (1, fs11)), (q14, .inr (9, fs14)), (q15, .inr (4, fs15)), (q17, .inl (cI, 10, .inl f17)), (h0, .inr (11, fs0)), (q9, .inr (7, fs9)), (q1, .inl (cI, 250, .inl g1_5)), (q2, .inl (cI, 10, .inl g2_6)), (q3, .inl (cI, 25, .inl g3_13)), (q4, .inl (cI, 40, .inl g4_14)), (q16, .inl (cI, 10, .inl f2_22)), (q13, .inr (3, fs1_12)), (q8, .inr (6, fs7_4))] := hD
  refine lv_iinc (v := 10) (lv' := [(1, .int 10), (0, .ref h0)]) hx hb dX11_give_73 hl (k := 0) rfl (by decide) (by decide) rfl (fun ls hl => ?_)
  refine lv_goto (tgt := 28) hx hb dX11_give_76 (by decide) ?_
  refine lv_iload_n hx hb dX11_give_28 rfl (lv_at hl 0 rfl) ?_
  refine lv_bipush (v := 24) hx hb dX11_give_29 (by decide) ?_
  refine lv_icmp_gt (tgt := 79) hx hb dX11_give_31 (by decide) (fun h => absurd h (by decide)) (fun _ => ?_)
  refine lv_aload_n hx hb dX11_give_34 rfl (lv_at hl 1 rfl) ?_
  refine gt_X11 hx hb hts hown hK hP 4 rfl 5 (by decide) wd_678 rfl hf_fs0_5 dX11_give_35 ?_
  refine lv_aload_n hx hb dX11_give_38 rfl (lv_at hl 1 rfl) ?_
  refine gt_X11 hx hb hts hown hK hP 4 rfl 13 (by decide) wd_686 rfl hf_fs0_13 dX11_give_39 ?_
  refine lv_iload_n hx hb dX11_give_42 rfl (lv_at hl 0 rfl) ?_
  refine lv_aload_n hx hb dX11_give_43 rfl (lv_at hl 1 rfl) ?_
  refine gt_X11 hx hb hts hown hK hP 4 rfl 0 (by decide) wd_673 rfl hf_fs0_0 dX11_give_44 ?_
  refine gt_X1 hx hb hts hown hK hP 0 rfl 0 (by decide) wd_39 rfl hf_fs11_0 dX11_give_47 ?_
  refine cl_v (wr := [(q11, .inr (1, fs11)), (q14, .inr (9, fs14)), (q15, .inr (4, fs15)), (q17, .inl (cI, 10, .inl f17)), (h0, .inr (11, fs0)), (q9, .inr (7, fs9)), (q1, .inl (cI, 250, .inl g1_5)), (q2, .inl (cI, 10, .inl g2_6)), (q3, .inl (cI, 25, .inl g3_13)), (q4, .inl (cI, 40, .inl g4_14)), (q16, .inl (cI, 10, .inl f2_22)), (q13, .inr (3, fs1_12))]) (rn_V (As := [.ref q16, .int 10, .int 0]) (rest := []) hx hb hml hown hts (c_X6_addCome l D cI cJ cZ q8 q16 fs7_4 10 h_7 _) ⟨rfl, rfl⟩ sv_X11_261 ⟨(Nat.le_of_ble_eq_true rfl), (Nat.le_of_ble_eq_true rfl)⟩ ⟨(Nat.le_of_ble_eq_true rfl), (Nat.le_of_ble_eq_true rfl)⟩ (fun _ _ _ _ h => h) (fun _ _ _ => trivial) hK hP hD [12] rfl rfl 0 6 rfl rfl rfl rfl hl.1 rfl (Nat.le_of_ble_eq_true rfl) dX11_give_50) hP hD hS hA [12] [0, 1, 2, 3, 4, 5, 6, 7, 8, 9, 10, 11] rfl rfl rfl (by decide) (fun w_78 H locs hw_77 hP hD hS => ?_)
  subst hw_77
  have hP : va_P D vwCl [(q11, .inr (1, fs11)), (q14, .inr (9, fs14)), (q15, .inr (4, fs15)), (q17, .inl (cI, 10, .inl f17)), (h0, .inr (11, fs0)), (q9, .inr (7, fs9)), (q1, .inl (cI, 250, .inl g1_5)), (q2, .inl (cI, 10, .inl g2_6)), (q3, .inl (cI, 25, .inl g3_13)), (q4, .inl (cI, 40, .inl g4_14)), (q16, .inl (cI, 10, .inl f2_22)), (q13, .inr (3, fs1_12)), (q8, .inr (6, fs7_4))] H := hP
  have hD : va_D A [(q11, .inr (1, fs11)), (q14, .inr (9, fs14)), (q15, .inr (4, fs15)), (q17, .inl (cI, 10, .inl f17)), (h0, .inr (11, fs0)), (q9, .inr (7, fs9)), (q1, .inl (cI, 250, .inl g1_5)), (q2, .inl (cI, 10, .inl g2_6)), (q3, .inl (cI, 25, .inl g3_13)), (q4, .inl (cI, 40, .inl g4_14)), (q16, .inl (cI, 10, .inl f2_22)), (q13, .inr (3, fs1_12)), (q8, .inr (6, fs7_4))] := hD
  refine lv_aload_n hx hb dX11_give_53 rfl (lv_at hl 1 rfl) ?_
  refine gt_X11 hx hb hts hown hK hP 4 rfl 7 (by decide) wd_680 rfl hf_fs0_7 dX11_give_54 ?_
  refine lv_aload_n hx hb dX11_give_57 rfl (lv_at hl 1 rfl) ?_
  refine gt_X11 hx hb hts hown hK hP 4 rfl 5 (by decide) wd_678 rfl hf_fs0_5 dX11_give_58 ?_
  refine lv_aload_n hx hb dX11_give_61 rfl (lv_at hl 1 rfl) ?_
  refine gt_X11 hx hb hts hown hK hP 4 rfl 6 (by decide) wd_679 rfl hf_fs0_6 dX11_give_62 ?_
  refine lv_iload_n hx hb dX11_give_65 rfl (lv_at hl 0 rfl) ?_
  refine lv_aload_n hx hb dX11_give_66 rfl (lv_at hl 1 rfl) ?_
  refine gt_X11 hx hb hts hown hK hP 4 rfl 13 (by decide) wd_686 rfl hf_fs0_13 dX11_give_67 ?_
  refine cl_v (wr := [(q11, .inr (1, fs11)), (q14, .inr (9, fs14)), (q15, .inr (4, fs15)), (q17, .inl (cI, 10, .inl f17)), (h0, .inr (11, fs0)), (q9, .inr (7, fs9)), (q1, .inl (cI, 250, .inl g1_5)), (q2, .inl (cI, 10, .inl g2_6)), (q3, .inl (cI, 25, .inl g3_13)), (q4, .inl (cI, 40, .inl g4_14)), (q16, .inl (cI, 10, .inl f2_22))]) (rn_V (As := [.ref q8, .ref q12, .int 10, .ref q16]) (rest := []) hx hb hml hown hts (c_X3_addDay l D cI cJ cZ q13 q8 q12 q16 fs1_12 fs7_4 10 h_15 h_16 h_7 h_8 _) ⟨rfl, rfl⟩ sv_X11_265 ⟨(Nat.le_of_ble_eq_true rfl), (Nat.le_of_ble_eq_true rfl)⟩ ⟨(Nat.le_of_ble_eq_true rfl), (Nat.le_of_ble_eq_true rfl)⟩ (fun _ _ _ _ h => h) (fun _ _ _ => trivial) hK hP hD [11, 12] rfl rfl 0 3 rfl rfl rfl rfl hl.1 rfl (Nat.le_of_ble_eq_true rfl) dX11_give_70) hP hD hS hA [11, 12] [0, 1, 2, 3, 4, 5, 6, 7, 8, 9, 10] rfl rfl rfl (by decide) (fun w_81 H locs hw_80 hP hD hS => ?_)
  subst hw_80
  have hP : va_P D vwCl [(q11, .inr (1, fs11)), (q14, .inr (9, fs14)), (q15, .inr (4, fs15)), (q17, .inl (cI, 10, .inl f17)), (h0, .inr (11, fs0)), (q9, .inr (7, fs9)), (q1, .inl (cI, 250, .inl g1_5)), (q2, .inl (cI, 10, .inl g2_6)), (q3, .inl (cI, 25, .inl g3_13)), (q4, .inl (cI, 40, .inl g4_14)), (q16, .inl (cI, 10, .inl f2_22)), (q13, .inr (3, fs1_12)), (q8, .inr (6, fs7_4))] H := hP
  have hD : va_D A [(q11, .inr (1, fs11)), (q14, .inr (9, fs14)), (q15, .inr (4, fs15)), (q17, .inl (cI, 10, .inl f17)), (h0, .inr (11, fs0)), (q9, .inr (7, fs9)), (q1, .inl (cI, 250, .inl g1_5)), (q2, .inl (cI, 10, .inl g2_6)), (q3, .inl (cI, 25, .inl g3_13)), (q4, .inl (cI, 40, .inl g4_14)), (q16, .inl (cI, 10, .inl f2_22)), (q13, .inr (3, fs1_12)), (q8, .inr (6, fs7_4))] := hD
  refine lv_iinc (v := 11) (lv' := [(1, .int 11), (0, .ref h0)]) hx hb dX11_give_73 hl (k := 0) rfl (by decide) (by decide) rfl (fun ls hl => ?_)
  refine lv_goto (tgt := 28) hx hb dX11_give_76 (by decide) ?_
  refine lv_iload_n hx hb dX11_give_28 rfl (lv_at hl 0 rfl) ?_
  refine lv_bipush (v := 24) hx hb dX11_give_29 (by decide) ?_
  refine lv_icmp_gt (tgt := 79) hx hb dX11_give_31 (by decide) (fun h => absurd h (by decide)) (fun _ => ?_)
  refine lv_aload_n hx hb dX11_give_34 rfl (lv_at hl 1 rfl) ?_
  refine gt_X11 hx hb hts hown hK hP 4 rfl 5 (by decide) wd_678 rfl hf_fs0_5 dX11_give_35 ?_
  refine lv_aload_n hx hb dX11_give_38 rfl (lv_at hl 1 rfl) ?_
  refine gt_X11 hx hb hts hown hK hP 4 rfl 13 (by decide) wd_686 rfl hf_fs0_13 dX11_give_39 ?_
  refine lv_iload_n hx hb dX11_give_42 rfl (lv_at hl 0 rfl) ?_
  refine lv_aload_n hx hb dX11_give_43 rfl (lv_at hl 1 rfl) ?_
  refine gt_X11 hx hb hts hown hK hP 4 rfl 0 (by decide) wd_673 rfl hf_fs0_0 dX11_give_44 ?_
  refine gt_X1 hx hb hts hown hK hP 0 rfl 0 (by decide) wd_39 rfl hf_fs11_0 dX11_give_47 ?_
  refine cl_v (wr := [(q11, .inr (1, fs11)), (q14, .inr (9, fs14)), (q15, .inr (4, fs15)), (q17, .inl (cI, 10, .inl f17)), (h0, .inr (11, fs0)), (q9, .inr (7, fs9)), (q1, .inl (cI, 250, .inl g1_5)), (q2, .inl (cI, 10, .inl g2_6)), (q3, .inl (cI, 25, .inl g3_13)), (q4, .inl (cI, 40, .inl g4_14)), (q16, .inl (cI, 10, .inl f2_22)), (q13, .inr (3, fs1_12))]) (rn_V (As := [.ref q16, .int 11, .int 0]) (rest := []) hx hb hml hown hts (c_X6_addCome l D cI cJ cZ q8 q16 fs7_4 11 h_7 _) ⟨rfl, rfl⟩ sv_X11_261 ⟨(Nat.le_of_ble_eq_true rfl), (Nat.le_of_ble_eq_true rfl)⟩ ⟨(Nat.le_of_ble_eq_true rfl), (Nat.le_of_ble_eq_true rfl)⟩ (fun _ _ _ _ h => h) (fun _ _ _ => trivial) hK hP hD [12] rfl rfl 0 6 rfl rfl rfl rfl hl.1 rfl (Nat.le_of_ble_eq_true rfl) dX11_give_50) hP hD hS hA [12] [0, 1, 2, 3, 4, 5, 6, 7, 8, 9, 10, 11] rfl rfl rfl (by decide) (fun w_84 H locs hw_83 hP hD hS => ?_)
  subst hw_83
  have hP : va_P D vwCl [(q11, .inr (1, fs11)), (q14, .inr (9, fs14)), (q15, .inr (4, fs15)), (q17, .inl (cI, 10, .inl f17)), (h0, .inr (11, fs0)), (q9, .inr (7, fs9)), (q1, .inl (cI, 250, .inl g1_5)), (q2, .inl (cI, 10, .inl g2_6)), (q3, .inl (cI, 25, .inl g3_13)), (q4, .inl (cI, 40, .inl g4_14)), (q16, .inl (cI, 10, .inl f2_22)), (q13, .inr (3, fs1_12)), (q8, .inr (6, fs7_4))] H := hP
  have hD : va_D A [(q11, .inr (1, fs11)), (q14, .inr (9, fs14)), (q15, .inr (4, fs15)), (q17, .inl (cI, 10, .inl f17)), (h0, .inr (11, fs0)), (q9, .inr (7, fs9)), (q1, .inl (cI, 250, .inl g1_5)), (q2, .inl (cI, 10, .inl g2_6)), (q3, .inl (cI, 25, .inl g3_13)), (q4, .inl (cI, 40, .inl g4_14)), (q16, .inl (cI, 10, .inl f2_22)), (q13, .inr (3, fs1_12)), (q8, .inr (6, fs7_4))] := hD
  refine lv_aload_n hx hb dX11_give_53 rfl (lv_at hl 1 rfl) ?_
  refine gt_X11 hx hb hts hown hK hP 4 rfl 7 (by decide) wd_680 rfl hf_fs0_7 dX11_give_54 ?_
  refine lv_aload_n hx hb dX11_give_57 rfl (lv_at hl 1 rfl) ?_
  refine gt_X11 hx hb hts hown hK hP 4 rfl 5 (by decide) wd_678 rfl hf_fs0_5 dX11_give_58 ?_
  refine lv_aload_n hx hb dX11_give_61 rfl (lv_at hl 1 rfl) ?_
  refine gt_X11 hx hb hts hown hK hP 4 rfl 6 (by decide) wd_679 rfl hf_fs0_6 dX11_give_62 ?_
  refine lv_iload_n hx hb dX11_give_65 rfl (lv_at hl 0 rfl) ?_
  refine lv_aload_n hx hb dX11_give_66 rfl (lv_at hl 1 rfl) ?_
  refine gt_X11 hx hb hts hown hK hP 4 rfl 13 (by decide) wd_686 rfl hf_fs0_13 dX11_give_67 ?_
  refine cl_v (wr := [(q11, .inr (1, fs11)), (q14, .inr (9, fs14)), (q15, .inr (4, fs15)), (q17, .inl (cI, 10, .inl f17)), (h0, .inr (11, fs0)), (q9, .inr (7, fs9)), (q1, .inl (cI, 250, .inl g1_5)), (q2, .inl (cI, 10, .inl g2_6)), (q3, .inl (cI, 25, .inl g3_13)), (q4, .inl (cI, 40, .inl g4_14)), (q16, .inl (cI, 10, .inl f2_22))]) (rn_V (As := [.ref q8, .ref q12, .int 11, .ref q16]) (rest := []) hx hb hml hown hts (c_X3_addDay l D cI cJ cZ q13 q8 q12 q16 fs1_12 fs7_4 11 h_15 h_16 h_7 h_8 _) ⟨rfl, rfl⟩ sv_X11_265 ⟨(Nat.le_of_ble_eq_true rfl), (Nat.le_of_ble_eq_true rfl)⟩ ⟨(Nat.le_of_ble_eq_true rfl), (Nat.le_of_ble_eq_true rfl)⟩ (fun _ _ _ _ h => h) (fun _ _ _ => trivial) hK hP hD [11, 12] rfl rfl 0 3 rfl rfl rfl rfl hl.1 rfl (Nat.le_of_ble_eq_true rfl) dX11_give_70) hP hD hS hA [11, 12] [0, 1, 2, 3, 4, 5, 6, 7, 8, 9, 10] rfl rfl rfl (by decide) (fun w_87 H locs hw_86 hP hD hS => ?_)
  subst hw_86
  have hP : va_P D vwCl [(q11, .inr (1, fs11)), (q14, .inr (9, fs14)), (q15, .inr (4, fs15)), (q17, .inl (cI, 10, .inl f17)), (h0, .inr (11, fs0)), (q9, .inr (7, fs9)), (q1, .inl (cI, 250, .inl g1_5)), (q2, .inl (cI, 10, .inl g2_6)), (q3, .inl (cI, 25, .inl g3_13)), (q4, .inl (cI, 40, .inl g4_14)), (q16, .inl (cI, 10, .inl f2_22)), (q13, .inr (3, fs1_12)), (q8, .inr (6, fs7_4))] H := hP
  have hD : va_D A [(q11, .inr (1, fs11)), (q14, .inr (9, fs14)), (q15, .inr (4, fs15)), (q17, .inl (cI, 10, .inl f17)), (h0, .inr (11, fs0)), (q9, .inr (7, fs9)), (q1, .inl (cI, 250, .inl g1_5)), (q2, .inl (cI, 10, .inl g2_6)), (q3, .inl (cI, 25, .inl g3_13)), (q4, .inl (cI, 40, .inl g4_14)), (q16, .inl (cI, 10, .inl f2_22)), (q13, .inr (3, fs1_12)), (q8, .inr (6, fs7_4))] := hD
  refine lv_iinc (v := 12) (lv' := [(1, .int 12), (0, .ref h0)]) hx hb dX11_give_73 hl (k := 0) rfl (by decide) (by decide) rfl (fun ls hl => ?_)
  refine lv_goto (tgt := 28) hx hb dX11_give_76 (by decide) ?_
  refine lv_iload_n hx hb dX11_give_28 rfl (lv_at hl 0 rfl) ?_
  refine lv_bipush (v := 24) hx hb dX11_give_29 (by decide) ?_
  refine lv_icmp_gt (tgt := 79) hx hb dX11_give_31 (by decide) (fun h => absurd h (by decide)) (fun _ => ?_)
  refine lv_aload_n hx hb dX11_give_34 rfl (lv_at hl 1 rfl) ?_
  refine gt_X11 hx hb hts hown hK hP 4 rfl 5 (by decide) wd_678 rfl hf_fs0_5 dX11_give_35 ?_
  refine lv_aload_n hx hb dX11_give_38 rfl (lv_at hl 1 rfl) ?_
  refine gt_X11 hx hb hts hown hK hP 4 rfl 13 (by decide) wd_686 rfl hf_fs0_13 dX11_give_39 ?_
  refine lv_iload_n hx hb dX11_give_42 rfl (lv_at hl 0 rfl) ?_
  refine lv_aload_n hx hb dX11_give_43 rfl (lv_at hl 1 rfl) ?_
  refine gt_X11 hx hb hts hown hK hP 4 rfl 0 (by decide) wd_673 rfl hf_fs0_0 dX11_give_44 ?_
  refine gt_X1 hx hb hts hown hK hP 0 rfl 0 (by decide) wd_39 rfl hf_fs11_0 dX11_give_47 ?_
  refine cl_v (wr := [(q11, .inr (1, fs11)), (q14, .inr (9, fs14)), (q15, .inr (4, fs15)), (q17, .inl (cI, 10, .inl f17)), (h0, .inr (11, fs0)), (q9, .inr (7, fs9)), (q1, .inl (cI, 250, .inl g1_5)), (q2, .inl (cI, 10, .inl g2_6)), (q3, .inl (cI, 25, .inl g3_13)), (q4, .inl (cI, 40, .inl g4_14)), (q16, .inl (cI, 10, .inl f2_22)), (q13, .inr (3, fs1_12))]) (rn_V (As := [.ref q16, .int 12, .int 0]) (rest := []) hx hb hml hown hts (c_X6_addCome l D cI cJ cZ q8 q16 fs7_4 12 h_7 _) ⟨rfl, rfl⟩ sv_X11_261 ⟨(Nat.le_of_ble_eq_true rfl), (Nat.le_of_ble_eq_true rfl)⟩ ⟨(Nat.le_of_ble_eq_true rfl), (Nat.le_of_ble_eq_true rfl)⟩ (fun _ _ _ _ h => h) (fun _ _ _ => trivial) hK hP hD [12] rfl rfl 0 6 rfl rfl rfl rfl hl.1 rfl (Nat.le_of_ble_eq_true rfl) dX11_give_50) hP hD hS hA [12] [0, 1, 2, 3, 4, 5, 6, 7, 8, 9, 10, 11] rfl rfl rfl (by decide) (fun w_90 H locs hw_89 hP hD hS => ?_)
  subst hw_89
  have hP : va_P D vwCl [(q11, .inr (1, fs11)), (q14, .inr (9, fs14)), (q15, .inr (4, fs15)), (q17, .inl (cI, 10, .inl f17)), (h0, .inr (11, fs0)), (q9, .inr (7, fs9)), (q1, .inl (cI, 250, .inl g1_5)), (q2, .inl (cI, 10, .inl g2_6)), (q3, .inl (cI, 25, .inl g3_13)), (q4, .inl (cI, 40, .inl g4_14)), (q16, .inl (cI, 10, .inl f2_22)), (q13, .inr (3, fs1_12)), (q8, .inr (6, fs7_4))] H := hP
  have hD : va_D A [(q11, .inr (1, fs11)), (q14, .inr (9, fs14)), (q15, .inr (4, fs15)), (q17, .inl (cI, 10, .inl f17)), (h0, .inr (11, fs0)), (q9, .inr (7, fs9)), (q1, .inl (cI, 250, .inl g1_5)), (q2, .inl (cI, 10, .inl g2_6)), (q3, .inl (cI, 25, .inl g3_13)), (q4, .inl (cI, 40, .inl g4_14)), (q16, .inl (cI, 10, .inl f2_22)), (q13, .inr (3, fs1_12)), (q8, .inr (6, fs7_4))] := hD
  refine lv_aload_n hx hb dX11_give_53 rfl (lv_at hl 1 rfl) ?_
  refine gt_X11 hx hb hts hown hK hP 4 rfl 7 (by decide) wd_680 rfl hf_fs0_7 dX11_give_54 ?_
  refine lv_aload_n hx hb dX11_give_57 rfl (lv_at hl 1 rfl) ?_
  refine gt_X11 hx hb hts hown hK hP 4 rfl 5 (by decide) wd_678 rfl hf_fs0_5 dX11_give_58 ?_
  refine lv_aload_n hx hb dX11_give_61 rfl (lv_at hl 1 rfl) ?_
  refine gt_X11 hx hb hts hown hK hP 4 rfl 6 (by decide) wd_679 rfl hf_fs0_6 dX11_give_62 ?_
  refine lv_iload_n hx hb dX11_give_65 rfl (lv_at hl 0 rfl) ?_
  refine lv_aload_n hx hb dX11_give_66 rfl (lv_at hl 1 rfl) ?_
  refine gt_X11 hx hb hts hown hK hP 4 rfl 13 (by decide) wd_686 rfl hf_fs0_13 dX11_give_67 ?_
  refine cl_v (wr := [(q11, .inr (1, fs11)), (q14, .inr (9, fs14)), (q15, .inr (4, fs15)), (q17, .inl (cI, 10, .inl f17)), (h0, .inr (11, fs0)), (q9, .inr (7, fs9)), (q1, .inl (cI, 250, .inl g1_5)), (q2, .inl (cI, 10, .inl g2_6)), (q3, .inl (cI, 25, .inl g3_13)), (q4, .inl (cI, 40, .inl g4_14)), (q16, .inl (cI, 10, .inl f2_22))]) (rn_V (As := [.ref q8, .ref q12, .int 12, .ref q16]) (rest := []) hx hb hml hown hts (c_X3_addDay l D cI cJ cZ q13 q8 q12 q16 fs1_12 fs7_4 12 h_15 h_16 h_7 h_8 _) ⟨rfl, rfl⟩ sv_X11_265 ⟨(Nat.le_of_ble_eq_true rfl), (Nat.le_of_ble_eq_true rfl)⟩ ⟨(Nat.le_of_ble_eq_true rfl), (Nat.le_of_ble_eq_true rfl)⟩ (fun _ _ _ _ h => h) (fun _ _ _ => trivial) hK hP hD [11, 12] rfl rfl 0 3 rfl rfl rfl rfl hl.1 rfl (Nat.le_of_ble_eq_true rfl) dX11_give_70) hP hD hS hA [11, 12] [0, 1, 2, 3, 4, 5, 6, 7, 8, 9, 10] rfl rfl rfl (by decide) (fun w_93 H locs hw_92 hP hD hS => ?_)
  subst hw_92
  have hP : va_P D vwCl [(q11, .inr (1, fs11)), (q14, .inr (9, fs14)), (q15, .inr (4, fs15)), (q17, .inl (cI, 10, .inl f17)), (h0, .inr (11, fs0)), (q9, .inr (7, fs9)), (q1, .inl (cI, 250, .inl g1_5)), (q2, .inl (cI, 10, .inl g2_6)), (q3, .inl (cI, 25, .inl g3_13)), (q4, .inl (cI, 40, .inl g4_14)), (q16, .inl (cI, 10, .inl f2_22)), (q13, .inr (3, fs1_12)), (q8, .inr (6, fs7_4))] H := hP
  have hD : va_D A [(q11, .inr (1, fs11)), (q14, .inr (9, fs14)), (q15, .inr (4, fs15)), (q17, .inl (cI, 10, .inl f17)), (h0, .inr (11, fs0)), (q9, .inr (7, fs9)), (q1, .inl (cI, 250, .inl g1_5)), (q2, .inl (cI, 10, .inl g2_6)), (q3, .inl (cI, 25, .inl g3_13)), (q4, .inl (cI, 40, .inl g4_14)), (q16, .inl (cI, 10, .inl f2_22)), (q13, .inr (3, fs1_12)), (q8, .inr (6, fs7_4))] := hD
  refine lv_iinc (v := 13) (lv' := [(1, .int 13), (0, .ref h0)]) hx hb dX11_give_73 hl (k := 0) rfl (by decide) (by decide) rfl (fun ls hl => ?_)
  refine lv_goto (tgt := 28) hx hb dX11_give_76 (by decide) ?_
  refine lv_iload_n hx hb dX11_give_28 rfl (lv_at hl 0 rfl) ?_
  refine lv_bipush (v := 24) hx hb dX11_give_29 (by decide) ?_
  refine lv_icmp_gt (tgt := 79) hx hb dX11_give_31 (by decide) (fun h => absurd h (by decide)) (fun _ => ?_)
  refine lv_aload_n hx hb dX11_give_34 rfl (lv_at hl 1 rfl) ?_
  refine gt_X11 hx hb hts hown hK hP 4 rfl 5 (by decide) wd_678 rfl hf_fs0_5 dX11_give_35 ?_
  refine lv_aload_n hx hb dX11_give_38 rfl (lv_at hl 1 rfl) ?_
  refine gt_X11 hx hb hts hown hK hP 4 rfl 13 (by decide) wd_686 rfl hf_fs0_13 dX11_give_39 ?_
  refine lv_iload_n hx hb dX11_give_42 rfl (lv_at hl 0 rfl) ?_
  refine lv_aload_n hx hb dX11_give_43 rfl (lv_at hl 1 rfl) ?_
  refine gt_X11 hx hb hts hown hK hP 4 rfl 0 (by decide) wd_673 rfl hf_fs0_0 dX11_give_44 ?_
  refine gt_X1 hx hb hts hown hK hP 0 rfl 0 (by decide) wd_39 rfl hf_fs11_0 dX11_give_47 ?_
  refine cl_v (wr := [(q11, .inr (1, fs11)), (q14, .inr (9, fs14)), (q15, .inr (4, fs15)), (q17, .inl (cI, 10, .inl f17)), (h0, .inr (11, fs0)), (q9, .inr (7, fs9)), (q1, .inl (cI, 250, .inl g1_5)), (q2, .inl (cI, 10, .inl g2_6)), (q3, .inl (cI, 25, .inl g3_13)), (q4, .inl (cI, 40, .inl g4_14)), (q16, .inl (cI, 10, .inl f2_22)), (q13, .inr (3, fs1_12))]) (rn_V (As := [.ref q16, .int 13, .int 0]) (rest := []) hx hb hml hown hts (c_X6_addCome l D cI cJ cZ q8 q16 fs7_4 13 h_7 _) ⟨rfl, rfl⟩ sv_X11_261 ⟨(Nat.le_of_ble_eq_true rfl), (Nat.le_of_ble_eq_true rfl)⟩ ⟨(Nat.le_of_ble_eq_true rfl), (Nat.le_of_ble_eq_true rfl)⟩ (fun _ _ _ _ h => h) (fun _ _ _ => trivial) hK hP hD [12] rfl rfl 0 6 rfl rfl rfl rfl hl.1 rfl (Nat.le_of_ble_eq_true rfl) dX11_give_50) hP hD hS hA [12] [0, 1, 2, 3, 4, 5, 6, 7, 8, 9, 10, 11] rfl rfl rfl (by decide) (fun w_96 H locs hw_95 hP hD hS => ?_)
  subst hw_95
  have hP : va_P D vwCl [(q11, .inr (1, fs11)), (q14, .inr (9, fs14)), (q15, .inr (4, fs15)), (q17, .inl (cI, 10, .inl f17)), (h0, .inr (11, fs0)), (q9, .inr (7, fs9)), (q1, .inl (cI, 250, .inl g1_5)), (q2, .inl (cI, 10, .inl g2_6)), (q3, .inl (cI, 25, .inl g3_13)), (q4, .inl (cI, 40, .inl g4_14)), (q16, .inl (cI, 10, .inl f2_22)), (q13, .inr (3, fs1_12)), (q8, .inr (6, fs7_4))] H := hP
  have hD : va_D A [(q11, .inr (1, fs11)), (q14, .inr (9, fs14)), (q15, .inr (4, fs15)), (q17, .inl (cI, 10, .inl f17)), (h0, .inr (11, fs0)), (q9, .inr (7, fs9)), (q1, .inl (cI, 250, .inl g1_5)), (q2, .inl (cI, 10, .inl g2_6)), (q3, .inl (cI, 25, .inl g3_13)), (q4, .inl (cI, 40, .inl g4_14)), (q16, .inl (cI, 10, .inl f2_22)), (q13, .inr (3, fs1_12)), (q8, .inr (6, fs7_4))] := hD
  refine lv_aload_n hx hb dX11_give_53 rfl (lv_at hl 1 rfl) ?_
  refine gt_X11 hx hb hts hown hK hP 4 rfl 7 (by decide) wd_680 rfl hf_fs0_7 dX11_give_54 ?_
  refine lv_aload_n hx hb dX11_give_57 rfl (lv_at hl 1 rfl) ?_
  refine gt_X11 hx hb hts hown hK hP 4 rfl 5 (by decide) wd_678 rfl hf_fs0_5 dX11_give_58 ?_
  refine lv_aload_n hx hb dX11_give_61 rfl (lv_at hl 1 rfl) ?_
  refine gt_X11 hx hb hts hown hK hP 4 rfl 6 (by decide) wd_679 rfl hf_fs0_6 dX11_give_62 ?_
  refine lv_iload_n hx hb dX11_give_65 rfl (lv_at hl 0 rfl) ?_
  refine lv_aload_n hx hb dX11_give_66 rfl (lv_at hl 1 rfl) ?_
  refine gt_X11 hx hb hts hown hK hP 4 rfl 13 (by decide) wd_686 rfl hf_fs0_13 dX11_give_67 ?_
  refine cl_v (wr := [(q11, .inr (1, fs11)), (q14, .inr (9, fs14)), (q15, .inr (4, fs15)), (q17, .inl (cI, 10, .inl f17)), (h0, .inr (11, fs0)), (q9, .inr (7, fs9)), (q1, .inl (cI, 250, .inl g1_5)), (q2, .inl (cI, 10, .inl g2_6)), (q3, .inl (cI, 25, .inl g3_13)), (q4, .inl (cI, 40, .inl g4_14)), (q16, .inl (cI, 10, .inl f2_22))]) (rn_V (As := [.ref q8, .ref q12, .int 13, .ref q16]) (rest := []) hx hb hml hown hts (c_X3_addDay l D cI cJ cZ q13 q8 q12 q16 fs1_12 fs7_4 13 h_15 h_16 h_7 h_8 _) ⟨rfl, rfl⟩ sv_X11_265 ⟨(Nat.le_of_ble_eq_true rfl), (Nat.le_of_ble_eq_true rfl)⟩ ⟨(Nat.le_of_ble_eq_true rfl), (Nat.le_of_ble_eq_true rfl)⟩ (fun _ _ _ _ h => h) (fun _ _ _ => trivial) hK hP hD [11, 12] rfl rfl 0 3 rfl rfl rfl rfl hl.1 rfl (Nat.le_of_ble_eq_true rfl) dX11_give_70) hP hD hS hA [11, 12] [0, 1, 2, 3, 4, 5, 6, 7, 8, 9, 10] rfl rfl rfl (by decide) (fun w_99 H locs hw_98 hP hD hS => ?_)
  subst hw_98
  have hP : va_P D vwCl [(q11, .inr (1, fs11)), (q14, .inr (9, fs14)), (q15, .inr (4, fs15)), (q17, .inl (cI, 10, .inl f17)), (h0, .inr (11, fs0)), (q9, .inr (7, fs9)), (q1, .inl (cI, 250, .inl g1_5)), (q2, .inl (cI, 10, .inl g2_6)), (q3, .inl (cI, 25, .inl g3_13)), (q4, .inl (cI, 40, .inl g4_14)), (q16, .inl (cI, 10, .inl f2_22)), (q13, .inr (3, fs1_12)), (q8, .inr (6, fs7_4))] H := hP
  have hD : va_D A [(q11, .inr (1, fs11)), (q14, .inr (9, fs14)), (q15, .inr (4, fs15)), (q17, .inl (cI, 10, .inl f17)), (h0, .inr (11, fs0)), (q9, .inr (7, fs9)), (q1, .inl (cI, 250, .inl g1_5)), (q2, .inl (cI, 10, .inl g2_6)), (q3, .inl (cI, 25, .inl g3_13)), (q4, .inl (cI, 40, .inl g4_14)), (q16, .inl (cI, 10, .inl f2_22)), (q13, .inr (3, fs1_12)), (q8, .inr (6, fs7_4))] := hD
  refine lv_iinc (v := 14) (lv' := [(1, .int 14), (0, .ref h0)]) hx hb dX11_give_73 hl (k := 0) rfl (by decide) (by decide) rfl (fun ls hl => ?_)
  refine lv_goto (tgt := 28) hx hb dX11_give_76 (by decide) ?_
  refine lv_iload_n hx hb dX11_give_28 rfl (lv_at hl 0 rfl) ?_
  refine lv_bipush (v := 24) hx hb dX11_give_29 (by decide) ?_
  refine lv_icmp_gt (tgt := 79) hx hb dX11_give_31 (by decide) (fun h => absurd h (by decide)) (fun _ => ?_)
  refine lv_aload_n hx hb dX11_give_34 rfl (lv_at hl 1 rfl) ?_
  refine gt_X11 hx hb hts hown hK hP 4 rfl 5 (by decide) wd_678 rfl hf_fs0_5 dX11_give_35 ?_
  refine lv_aload_n hx hb dX11_give_38 rfl (lv_at hl 1 rfl) ?_
  refine gt_X11 hx hb hts hown hK hP 4 rfl 13 (by decide) wd_686 rfl hf_fs0_13 dX11_give_39 ?_
  refine lv_iload_n hx hb dX11_give_42 rfl (lv_at hl 0 rfl) ?_
  refine lv_aload_n hx hb dX11_give_43 rfl (lv_at hl 1 rfl) ?_
  refine gt_X11 hx hb hts hown hK hP 4 rfl 0 (by decide) wd_673 rfl hf_fs0_0 dX11_give_44 ?_
  refine gt_X1 hx hb hts hown hK hP 0 rfl 0 (by decide) wd_39 rfl hf_fs11_0 dX11_give_47 ?_
  refine cl_v (wr := [(q11, .inr (1, fs11)), (q14, .inr (9, fs14)), (q15, .inr (4, fs15)), (q17, .inl (cI, 10, .inl f17)), (h0, .inr (11, fs0)), (q9, .inr (7, fs9)), (q1, .inl (cI, 250, .inl g1_5)), (q2, .inl (cI, 10, .inl g2_6)), (q3, .inl (cI, 25, .inl g3_13)), (q4, .inl (cI, 40, .inl g4_14)), (q16, .inl (cI, 10, .inl f2_22)), (q13, .inr (3, fs1_12))]) (rn_V (As := [.ref q16, .int 14, .int 0]) (rest := []) hx hb hml hown hts (c_X6_addCome l D cI cJ cZ q8 q16 fs7_4 14 h_7 _) ⟨rfl, rfl⟩ sv_X11_261 ⟨(Nat.le_of_ble_eq_true rfl), (Nat.le_of_ble_eq_true rfl)⟩ ⟨(Nat.le_of_ble_eq_true rfl), (Nat.le_of_ble_eq_true rfl)⟩ (fun _ _ _ _ h => h) (fun _ _ _ => trivial) hK hP hD [12] rfl rfl 0 6 rfl rfl rfl rfl hl.1 rfl (Nat.le_of_ble_eq_true rfl) dX11_give_50) hP hD hS hA [12] [0, 1, 2, 3, 4, 5, 6, 7, 8, 9, 10, 11] rfl rfl rfl (by decide) (fun w_102 H locs hw_101 hP hD hS => ?_)
  subst hw_101
  have hP : va_P D vwCl [(q11, .inr (1, fs11)), (q14, .inr (9, fs14)), (q15, .inr (4, fs15)), (q17, .inl (cI, 10, .inl f17)), (h0, .inr (11, fs0)), (q9, .inr (7, fs9)), (q1, .inl (cI, 250, .inl g1_5)), (q2, .inl (cI, 10, .inl g2_6)), (q3, .inl (cI, 25, .inl g3_13)), (q4, .inl (cI, 40, .inl g4_14)), (q16, .inl (cI, 10, .inl f2_22)), (q13, .inr (3, fs1_12)), (q8, .inr (6, fs7_4))] H := hP
  have hD : va_D A [(q11, .inr (1, fs11)), (q14, .inr (9, fs14)), (q15, .inr (4, fs15)), (q17, .inl (cI, 10, .inl f17)), (h0, .inr (11, fs0)), (q9, .inr (7, fs9)), (q1, .inl (cI, 250, .inl g1_5)), (q2, .inl (cI, 10, .inl g2_6)), (q3, .inl (cI, 25, .inl g3_13)), (q4, .inl (cI, 40, .inl g4_14)), (q16, .inl (cI, 10, .inl f2_22)), (q13, .inr (3, fs1_12)), (q8, .inr (6, fs7_4))] := hD
  refine lv_aload_n hx hb dX11_give_53 rfl (lv_at hl 1 rfl) ?_
  refine gt_X11 hx hb hts hown hK hP 4 rfl 7 (by decide) wd_680 rfl hf_fs0_7 dX11_give_54 ?_
  refine lv_aload_n hx hb dX11_give_57 rfl (lv_at hl 1 rfl) ?_
  refine gt_X11 hx hb hts hown hK hP 4 rfl 5 (by decide) wd_678 rfl hf_fs0_5 dX11_give_58 ?_
  refine lv_aload_n hx hb dX11_give_61 rfl (lv_at hl 1 rfl) ?_
  refine gt_X11 hx hb hts hown hK hP 4 rfl 6 (by decide) wd_679 rfl hf_fs0_6 dX11_give_62 ?_
  refine lv_iload_n hx hb dX11_give_65 rfl (lv_at hl 0 rfl) ?_
  refine lv_aload_n hx hb dX11_give_66 rfl (lv_at hl 1 rfl) ?_
  refine gt_X11 hx hb hts hown hK hP 4 rfl 13 (by decide) wd_686 rfl hf_fs0_13 dX11_give_67 ?_
  refine cl_v (wr := [(q11, .inr (1, fs11)), (q14, .inr (9, fs14)), (q15, .inr (4, fs15)), (q17, .inl (cI, 10, .inl f17)), (h0, .inr (11, fs0)), (q9, .inr (7, fs9)), (q1, .inl (cI, 250, .inl g1_5)), (q2, .inl (cI, 10, .inl g2_6)), (q3, .inl (cI, 25, .inl g3_13)), (q4, .inl (cI, 40, .inl g4_14)), (q16, .inl (cI, 10, .inl f2_22))]) (rn_V (As := [.ref q8, .ref q12, .int 14, .ref q16]) (rest := []) hx hb hml hown hts (c_X3_addDay l D cI cJ cZ q13 q8 q12 q16 fs1_12 fs7_4 14 h_15 h_16 h_7 h_8 _) ⟨rfl, rfl⟩ sv_X11_265 ⟨(Nat.le_of_ble_eq_true rfl), (Nat.le_of_ble_eq_true rfl)⟩ ⟨(Nat.le_of_ble_eq_true rfl), (Nat.le_of_ble_eq_true rfl)⟩ (fun _ _ _ _ h => h) (fun _ _ _ => trivial) hK hP hD [11, 12] rfl rfl 0 3 rfl rfl rfl rfl hl.1 rfl (Nat.le_of_ble_eq_true rfl) dX11_give_70) hP hD hS hA [11, 12] [0, 1, 2, 3, 4, 5, 6, 7, 8, 9, 10] rfl rfl rfl (by decide) (fun w_105 H locs hw_104 hP hD hS => ?_)
  subst hw_104
  have hP : va_P D vwCl [(q11, .inr (1, fs11)), (q14, .inr (9, fs14)), (q15, .inr (4, fs15)), (q17, .inl (cI, 10, .inl f17)), (h0, .inr (11, fs0)), (q9, .inr (7, fs9)), (q1, .inl (cI, 250, .inl g1_5)), (q2, .inl (cI, 10, .inl g2_6)), (q3, .inl (cI, 25, .inl g3_13)), (q4, .inl (cI, 40, .inl g4_14)), (q16, .inl (cI, 10, .inl f2_22)), (q13, .inr (3, fs1_12)), (q8, .inr (6, fs7_4))] H := hP
  have hD : va_D A [(q11, .inr (1, fs11)), (q14, .inr (9, fs14)), (q15, .inr (4, fs15)), (q17, .inl (cI, 10, .inl f17)), (h0, .inr (11, fs0)), (q9, .inr (7, fs9)), (q1, .inl (cI, 250, .inl g1_5)), (q2, .inl (cI, 10, .inl g2_6)), (q3, .inl (cI, 25, .inl g3_13)), (q4, .inl (cI, 40, .inl g4_14)), (q16, .inl (cI, 10, .inl f2_22)), (q13, .inr (3, fs1_12)), (q8, .inr (6, fs7_4))] := hD
  refine lv_iinc (v := 15) (lv' := [(1, .int 15), (0, .ref h0)]) hx hb dX11_give_73 hl (k := 0) rfl (by decide) (by decide) rfl (fun ls hl => ?_)
  refine lv_goto (tgt := 28) hx hb dX11_give_76 (by decide) ?_
  refine lv_iload_n hx hb dX11_give_28 rfl (lv_at hl 0 rfl) ?_
  refine lv_bipush (v := 24) hx hb dX11_give_29 (by decide) ?_
  refine lv_icmp_gt (tgt := 79) hx hb dX11_give_31 (by decide) (fun h => absurd h (by decide)) (fun _ => ?_)
  refine lv_aload_n hx hb dX11_give_34 rfl (lv_at hl 1 rfl) ?_
  refine gt_X11 hx hb hts hown hK hP 4 rfl 5 (by decide) wd_678 rfl hf_fs0_5 dX11_give_35 ?_
  refine lv_aload_n hx hb dX11_give_38 rfl (lv_at hl 1 rfl) ?_
  refine gt_X11 hx hb hts hown hK hP 4 rfl 13 (by decide) wd_686 rfl hf_fs0_13 dX11_give_39 ?_
  refine lv_iload_n hx hb dX11_give_42 rfl (lv_at hl 0 rfl) ?_
  refine lv_aload_n hx hb dX11_give_43 rfl (lv_at hl 1 rfl) ?_
  refine gt_X11 hx hb hts hown hK hP 4 rfl 0 (by decide) wd_673 rfl hf_fs0_0 dX11_give_44 ?_
  refine gt_X1 hx hb hts hown hK hP 0 rfl 0 (by decide) wd_39 rfl hf_fs11_0 dX11_give_47 ?_
  refine cl_v (wr := [(q11, .inr (1, fs11)), (q14, .inr (9, fs14)), (q15, .inr (4, fs15)), (q17, .inl (cI, 10, .inl f17)), (h0, .inr (11, fs0)), (q9, .inr (7, fs9)), (q1, .inl (cI, 250, .inl g1_5)), (q2, .inl (cI, 10, .inl g2_6)), (q3, .inl (cI, 25, .inl g3_13)), (q4, .inl (cI, 40, .inl g4_14)), (q16, .inl (cI, 10, .inl f2_22)), (q13, .inr (3, fs1_12))]) (rn_V (As := [.ref q16, .int 15, .int 0]) (rest := []) hx hb hml hown hts (c_X6_addCome l D cI cJ cZ q8 q16 fs7_4 15 h_7 _) ⟨rfl, rfl⟩ sv_X11_261 ⟨(Nat.le_of_ble_eq_true rfl), (Nat.le_of_ble_eq_true rfl)⟩ ⟨(Nat.le_of_ble_eq_true rfl), (Nat.le_of_ble_eq_true rfl)⟩ (fun _ _ _ _ h => h) (fun _ _ _ => trivial) hK hP hD [12] rfl rfl 0 6 rfl rfl rfl rfl hl.1 rfl (Nat.le_of_ble_eq_true rfl) dX11_give_50) hP hD hS hA [12] [0, 1, 2, 3, 4, 5, 6, 7, 8, 9, 10, 11] rfl rfl rfl (by decide) (fun w_108 H locs hw_107 hP hD hS => ?_)
  subst hw_107
  have hP : va_P D vwCl [(q11, .inr (1, fs11)), (q14, .inr (9, fs14)), (q15, .inr (4, fs15)), (q17, .inl (cI, 10, .inl f17)), (h0, .inr (11, fs0)), (q9, .inr (7, fs9)), (q1, .inl (cI, 250, .inl g1_5)), (q2, .inl (cI, 10, .inl g2_6)), (q3, .inl (cI, 25, .inl g3_13)), (q4, .inl (cI, 40, .inl g4_14)), (q16, .inl (cI, 10, .inl f2_22)), (q13, .inr (3, fs1_12)), (q8, .inr (6, fs7_4))] H := hP
  have hD : va_D A [(q11, .inr (1, fs11)), (q14, .inr (9, fs14)), (q15, .inr (4, fs15)), (q17, .inl (cI, 10, .inl f17)), (h0, .inr (11, fs0)), (q9, .inr (7, fs9)), (q1, .inl (cI, 250, .inl g1_5)), (q2, .inl (cI, 10, .inl g2_6)), (q3, .inl (cI, 25, .inl g3_13)), (q4, .inl (cI, 40, .inl g4_14)), (q16, .inl (cI, 10, .inl f2_22)), (q13, .inr (3, fs1_12)), (q8, .inr (6, fs7_4))] := hD
  refine lv_aload_n hx hb dX11_give_53 rfl (lv_at hl 1 rfl) ?_
  refine gt_X11 hx hb hts hown hK hP 4 rfl 7 (by decide) wd_680 rfl hf_fs0_7 dX11_give_54 ?_
  refine lv_aload_n hx hb dX11_give_57 rfl (lv_at hl 1 rfl) ?_
  refine gt_X11 hx hb hts hown hK hP 4 rfl 5 (by decide) wd_678 rfl hf_fs0_5 dX11_give_58 ?_
  refine lv_aload_n hx hb dX11_give_61 rfl (lv_at hl 1 rfl) ?_
  refine gt_X11 hx hb hts hown hK hP 4 rfl 6 (by decide) wd_679 rfl hf_fs0_6 dX11_give_62 ?_
  refine lv_iload_n hx hb dX11_give_65 rfl (lv_at hl 0 rfl) ?_
  refine lv_aload_n hx hb dX11_give_66 rfl (lv_at hl 1 rfl) ?_
  refine gt_X11 hx hb hts hown hK hP 4 rfl 13 (by decide) wd_686 rfl hf_fs0_13 dX11_give_67 ?_
  refine cl_v (wr := [(q11, .inr (1, fs11)), (q14, .inr (9, fs14)), (q15, .inr (4, fs15)), (q17, .inl (cI, 10, .inl f17)), (h0, .inr (11, fs0)), (q9, .inr (7, fs9)), (q1, .inl (cI, 250, .inl g1_5)), (q2, .inl (cI, 10, .inl g2_6)), (q3, .inl (cI, 25, .inl g3_13)), (q4, .inl (cI, 40, .inl g4_14)), (q16, .inl (cI, 10, .inl f2_22))]) (rn_V (As := [.ref q8, .ref q12, .int 15, .ref q16]) (rest := []) hx hb hml hown hts (c_X3_addDay l D cI cJ cZ q13 q8 q12 q16 fs1_12 fs7_4 15 h_15 h_16 h_7 h_8 _) ⟨rfl, rfl⟩ sv_X11_265 ⟨(Nat.le_of_ble_eq_true rfl), (Nat.le_of_ble_eq_true rfl)⟩ ⟨(Nat.le_of_ble_eq_true rfl), (Nat.le_of_ble_eq_true rfl)⟩ (fun _ _ _ _ h => h) (fun _ _ _ => trivial) hK hP hD [11, 12] rfl rfl 0 3 rfl rfl rfl rfl hl.1 rfl (Nat.le_of_ble_eq_true rfl) dX11_give_70) hP hD hS hA [11, 12] [0, 1, 2, 3, 4, 5, 6, 7, 8, 9, 10] rfl rfl rfl (by decide) (fun w_111 H locs hw_110 hP hD hS => ?_)
  subst hw_110
  have hP : va_P D vwCl [(q11, .inr (1, fs11)), (q14, .inr (9, fs14)), (q15, .inr (4, fs15)), (q17, .inl (cI, 10, .inl f17)), (h0, .inr (11, fs0)), (q9, .inr (7, fs9)), (q1, .inl (cI, 250, .inl g1_5)), (q2, .inl (cI, 10, .inl g2_6)), (q3, .inl (cI, 25, .inl g3_13)), (q4, .inl (cI, 40, .inl g4_14)), (q16, .inl (cI, 10, .inl f2_22)), (q13, .inr (3, fs1_12)), (q8, .inr (6, fs7_4))] H := hP
  have hD : va_D A [(q11, .inr (1, fs11)), (q14, .inr (9, fs14)), (q15, .inr (4, fs15)), (q17, .inl (cI, 10, .inl f17)), (h0, .inr (11, fs0)), (q9, .inr (7, fs9)), (q1, .inl (cI, 250, .inl g1_5)), (q2, .inl (cI, 10, .inl g2_6)), (q3, .inl (cI, 25, .inl g3_13)), (q4, .inl (cI, 40, .inl g4_14)), (q16, .inl (cI, 10, .inl f2_22)), (q13, .inr (3, fs1_12)), (q8, .inr (6, fs7_4))] := hD
  refine lv_iinc (v := 16) (lv' := [(1, .int 16), (0, .ref h0)]) hx hb dX11_give_73 hl (k := 0) rfl (by decide) (by decide) rfl (fun ls hl => ?_)
  refine lv_goto (tgt := 28) hx hb dX11_give_76 (by decide) ?_
  refine lv_iload_n hx hb dX11_give_28 rfl (lv_at hl 0 rfl) ?_
  refine lv_bipush (v := 24) hx hb dX11_give_29 (by decide) ?_
  refine lv_icmp_gt (tgt := 79) hx hb dX11_give_31 (by decide) (fun h => absurd h (by decide)) (fun _ => ?_)
  refine lv_aload_n hx hb dX11_give_34 rfl (lv_at hl 1 rfl) ?_
  refine gt_X11 hx hb hts hown hK hP 4 rfl 5 (by decide) wd_678 rfl hf_fs0_5 dX11_give_35 ?_
  refine lv_aload_n hx hb dX11_give_38 rfl (lv_at hl 1 rfl) ?_
  refine gt_X11 hx hb hts hown hK hP 4 rfl 13 (by decide) wd_686 rfl hf_fs0_13 dX11_give_39 ?_
  refine lv_iload_n hx hb dX11_give_42 rfl (lv_at hl 0 rfl) ?_
  refine lv_aload_n hx hb dX11_give_43 rfl (lv_at hl 1 rfl) ?_
  refine gt_X11 hx hb hts hown hK hP 4 rfl 0 (by decide) wd_673 rfl hf_fs0_0 dX11_give_44 ?_
  refine gt_X1 hx hb hts hown hK hP 0 rfl 0 (by decide) wd_39 rfl hf_fs11_0 dX11_give_47 ?_
  refine cl_v (wr := [(q11, .inr (1, fs11)), (q14, .inr (9, fs14)), (q15, .inr (4, fs15)), (q17, .inl (cI, 10, .inl f17)), (h0, .inr (11, fs0)), (q9, .inr (7, fs9)), (q1, .inl (cI, 250, .inl g1_5)), (q2, .inl (cI, 10, .inl g2_6)), (q3, .inl (cI, 25, .inl g3_13)), (q4, .inl (cI, 40, .inl g4_14)), (q16, .inl (cI, 10, .inl f2_22)), (q13, .inr (3, fs1_12))]) (rn_V (As := [.ref q16, .int 16, .int 0]) (rest := []) hx hb hml hown hts (c_X6_addCome l D cI cJ cZ q8 q16 fs7_4 16 h_7 _) ⟨rfl, rfl⟩ sv_X11_261 ⟨(Nat.le_of_ble_eq_true rfl), (Nat.le_of_ble_eq_true rfl)⟩ ⟨(Nat.le_of_ble_eq_true rfl), (Nat.le_of_ble_eq_true rfl)⟩ (fun _ _ _ _ h => h) (fun _ _ _ => trivial) hK hP hD [12] rfl rfl 0 6 rfl rfl rfl rfl hl.1 rfl (Nat.le_of_ble_eq_true rfl) dX11_give_50) hP hD hS hA [12] [0, 1, 2, 3, 4, 5, 6, 7, 8, 9, 10, 11] rfl rfl rfl (by decide) (fun w_114 H locs hw_113 hP hD hS => ?_)
  subst hw_113
  have hP : va_P D vwCl [(q11, .inr (1, fs11)), (q14, .inr (9, fs14)), (q15, .inr (4, fs15)), (q17, .inl (cI, 10, .inl f17)), (h0, .inr (11, fs0)), (q9, .inr (7, fs9)), (q1, .inl (cI, 250, .inl g1_5)), (q2, .inl (cI, 10, .inl g2_6)), (q3, .inl (cI, 25, .inl g3_13)), (q4, .inl (cI, 40, .inl g4_14)), (q16, .inl (cI, 10, .inl f2_22)), (q13, .inr (3, fs1_12)), (q8, .inr (6, fs7_4))] H := hP
  have hD : va_D A [(q11, .inr (1, fs11)), (q14, .inr (9, fs14)), (q15, .inr (4, fs15)), (q17, .inl (cI, 10, .inl f17)), (h0, .inr (11, fs0)), (q9, .inr (7, fs9)), (q1, .inl (cI, 250, .inl g1_5)), (q2, .inl (cI, 10, .inl g2_6)), (q3, .inl (cI, 25, .inl g3_13)), (q4, .inl (cI, 40, .inl g4_14)), (q16, .inl (cI, 10, .inl f2_22)), (q13, .inr (3, fs1_12)), (q8, .inr (6, fs7_4))] := hD
  refine lv_aload_n hx hb dX11_give_53 rfl (lv_at hl 1 rfl) ?_
  refine gt_X11 hx hb hts hown hK hP 4 rfl 7 (by decide) wd_680 rfl hf_fs0_7 dX11_give_54 ?_
  refine lv_aload_n hx hb dX11_give_57 rfl (lv_at hl 1 rfl) ?_
  refine gt_X11 hx hb hts hown hK hP 4 rfl 5 (by decide) wd_678 rfl hf_fs0_5 dX11_give_58 ?_
  refine lv_aload_n hx hb dX11_give_61 rfl (lv_at hl 1 rfl) ?_
  refine gt_X11 hx hb hts hown hK hP 4 rfl 6 (by decide) wd_679 rfl hf_fs0_6 dX11_give_62 ?_
  refine lv_iload_n hx hb dX11_give_65 rfl (lv_at hl 0 rfl) ?_
  refine lv_aload_n hx hb dX11_give_66 rfl (lv_at hl 1 rfl) ?_
  refine gt_X11 hx hb hts hown hK hP 4 rfl 13 (by decide) wd_686 rfl hf_fs0_13 dX11_give_67 ?_
  refine cl_v (wr := [(q11, .inr (1, fs11)), (q14, .inr (9, fs14)), (q15, .inr (4, fs15)), (q17, .inl (cI, 10, .inl f17)), (h0, .inr (11, fs0)), (q9, .inr (7, fs9)), (q1, .inl (cI, 250, .inl g1_5)), (q2, .inl (cI, 10, .inl g2_6)), (q3, .inl (cI, 25, .inl g3_13)), (q4, .inl (cI, 40, .inl g4_14)), (q16, .inl (cI, 10, .inl f2_22))]) (rn_V (As := [.ref q8, .ref q12, .int 16, .ref q16]) (rest := []) hx hb hml hown hts (c_X3_addDay l D cI cJ cZ q13 q8 q12 q16 fs1_12 fs7_4 16 h_15 h_16 h_7 h_8 _) ⟨rfl, rfl⟩ sv_X11_265 ⟨(Nat.le_of_ble_eq_true rfl), (Nat.le_of_ble_eq_true rfl)⟩ ⟨(Nat.le_of_ble_eq_true rfl), (Nat.le_of_ble_eq_true rfl)⟩ (fun _ _ _ _ h => h) (fun _ _ _ => trivial) hK hP hD [11, 12] rfl rfl 0 3 rfl rfl rfl rfl hl.1 rfl (Nat.le_of_ble_eq_true rfl) dX11_give_70) hP hD hS hA [11, 12] [0, 1, 2, 3, 4, 5, 6, 7, 8, 9, 10] rfl rfl rfl (by decide) (fun w_117 H locs hw_116 hP hD hS => ?_)
  subst hw_116
  have hP : va_P D vwCl [(q11, .inr (1, fs11)), (q14, .inr (9, fs14)), (q15, .inr (4, fs15)), (q17, .inl (cI, 10, .inl f17)), (h0, .inr (11, fs0)), (q9, .inr (7, fs9)), (q1, .inl (cI, 250, .inl g1_5)), (q2, .inl (cI, 10, .inl g2_6)), (q3, .inl (cI, 25, .inl g3_13)), (q4, .inl (cI, 40, .inl g4_14)), (q16, .inl (cI, 10, .inl f2_22)), (q13, .inr (3, fs1_12)), (q8, .inr (6, fs7_4))] H := hP
  have hD : va_D A [(q11, .inr (1, fs11)), (q14, .inr (9, fs14)), (q15, .inr (4, fs15)), (q17, .inl (cI, 10, .inl f17)), (h0, .inr (11, fs0)), (q9, .inr (7, fs9)), (q1, .inl (cI, 250, .inl g1_5)), (q2, .inl (cI, 10, .inl g2_6)), (q3, .inl (cI, 25, .inl g3_13)), (q4, .inl (cI, 40, .inl g4_14)), (q16, .inl (cI, 10, .inl f2_22)), (q13, .inr (3, fs1_12)), (q8, .inr (6, fs7_4))] := hD
  refine lv_iinc (v := 17) (lv' := [(1, .int 17), (0, .ref h0)]) hx hb dX11_give_73 hl (k := 0) rfl (by decide) (by decide) rfl (fun ls hl => ?_)
  refine lv_goto (tgt := 28) hx hb dX11_give_76 (by decide) ?_
  refine lv_iload_n hx hb dX11_give_28 rfl (lv_at hl 0 rfl) ?_
  refine lv_bipush (v := 24) hx hb dX11_give_29 (by decide) ?_
  refine lv_icmp_gt (tgt := 79) hx hb dX11_give_31 (by decide) (fun h => absurd h (by decide)) (fun _ => ?_)
  refine lv_aload_n hx hb dX11_give_34 rfl (lv_at hl 1 rfl) ?_
  refine gt_X11 hx hb hts hown hK hP 4 rfl 5 (by decide) wd_678 rfl hf_fs0_5 dX11_give_35 ?_
  refine lv_aload_n hx hb dX11_give_38 rfl (lv_at hl 1 rfl) ?_
  refine gt_X11 hx hb hts hown hK hP 4 rfl 13 (by decide) wd_686 rfl hf_fs0_13 dX11_give_39 ?_
  refine lv_iload_n hx hb dX11_give_42 rfl (lv_at hl 0 rfl) ?_
  refine lv_aload_n hx hb dX11_give_43 rfl (lv_at hl 1 rfl) ?_
  refine gt_X11 hx hb hts hown hK hP 4 rfl 0 (by decide) wd_673 rfl hf_fs0_0 dX11_give_44 ?_
  refine gt_X1 hx hb hts hown hK hP 0 rfl 0 (by decide) wd_39 rfl hf_fs11_0 dX11_give_47 ?_
  refine cl_v (wr := [(q11, .inr (1, fs11)), (q14, .inr (9, fs14)), (q15, .inr (4, fs15)), (q17, .inl (cI, 10, .inl f17)), (h0, .inr (11, fs0)), (q9, .inr (7, fs9)), (q1, .inl (cI, 250, .inl g1_5)), (q2, .inl (cI, 10, .inl g2_6)), (q3, .inl (cI, 25, .inl g3_13)), (q4, .inl (cI, 40, .inl g4_14)), (q16, .inl (cI, 10, .inl f2_22)), (q13, .inr (3, fs1_12))]) (rn_V (As := [.ref q16, .int 17, .int 0]) (rest := []) hx hb hml hown hts (c_X6_addCome l D cI cJ cZ q8 q16 fs7_4 17 h_7 _) ⟨rfl, rfl⟩ sv_X11_261 ⟨(Nat.le_of_ble_eq_true rfl), (Nat.le_of_ble_eq_true rfl)⟩ ⟨(Nat.le_of_ble_eq_true rfl), (Nat.le_of_ble_eq_true rfl)⟩ (fun _ _ _ _ h => h) (fun _ _ _ => trivial) hK hP hD [12] rfl rfl 0 6 rfl rfl rfl rfl hl.1 rfl (Nat.le_of_ble_eq_true rfl) dX11_give_50) hP hD hS hA [12] [0, 1, 2, 3, 4, 5, 6, 7, 8, 9, 10, 11] rfl rfl rfl (by decide) (fun w_120 H locs hw_119 hP hD hS => ?_)
  subst hw_119
  have hP : va_P D vwCl [(q11, .inr (1, fs11)), (q14, .inr (9, fs14)), (q15, .inr (4, fs15)), (q17, .inl (cI, 10, .inl f17)), (h0, .inr (11, fs0)), (q9, .inr (7, fs9)), (q1, .inl (cI, 250, .inl g1_5)), (q2, .inl (cI, 10, .inl g2_6)), (q3, .inl (cI, 25, .inl g3_13)), (q4, .inl (cI, 40, .inl g4_14)), (q16, .inl (cI, 10, .inl f2_22)), (q13, .inr (3, fs1_12)), (q8, .inr (6, fs7_4))] H := hP
  have hD : va_D A [(q11, .inr (1, fs11)), (q14, .inr (9, fs14)), (q15, .inr (4, fs15)), (q17, .inl (cI, 10, .inl f17)), (h0, .inr (11, fs0)), (q9, .inr (7, fs9)), (q1, .inl (cI, 250, .inl g1_5)), (q2, .inl (cI, 10, .inl g2_6)), (q3, .inl (cI, 25, .inl g3_13)), (q4, .inl (cI, 40, .inl g4_14)), (q16, .inl (cI, 10, .inl f2_22)), (q13, .inr (3, fs1_12)), (q8, .inr (6, fs7_4))] := hD
  refine lv_aload_n hx hb dX11_give_53 rfl (lv_at hl 1 rfl) ?_
  refine gt_X11 hx hb hts hown hK hP 4 rfl 7 (by decide) wd_680 rfl hf_fs0_7 dX11_give_54 ?_
  refine lv_aload_n hx hb dX11_give_57 rfl (lv_at hl 1 rfl) ?_
  refine gt_X11 hx hb hts hown hK hP 4 rfl 5 (by decide) wd_678 rfl hf_fs0_5 dX11_give_58 ?_
  refine lv_aload_n hx hb dX11_give_61 rfl (lv_at hl 1 rfl) ?_
  refine gt_X11 hx hb hts hown hK hP 4 rfl 6 (by decide) wd_679 rfl hf_fs0_6 dX11_give_62 ?_
  refine lv_iload_n hx hb dX11_give_65 rfl (lv_at hl 0 rfl) ?_
  refine lv_aload_n hx hb dX11_give_66 rfl (lv_at hl 1 rfl) ?_
  refine gt_X11 hx hb hts hown hK hP 4 rfl 13 (by decide) wd_686 rfl hf_fs0_13 dX11_give_67 ?_
  refine cl_v (wr := [(q11, .inr (1, fs11)), (q14, .inr (9, fs14)), (q15, .inr (4, fs15)), (q17, .inl (cI, 10, .inl f17)), (h0, .inr (11, fs0)), (q9, .inr (7, fs9)), (q1, .inl (cI, 250, .inl g1_5)), (q2, .inl (cI, 10, .inl g2_6)), (q3, .inl (cI, 25, .inl g3_13)), (q4, .inl (cI, 40, .inl g4_14)), (q16, .inl (cI, 10, .inl f2_22))]) (rn_V (As := [.ref q8, .ref q12, .int 17, .ref q16]) (rest := []) hx hb hml hown hts (c_X3_addDay l D cI cJ cZ q13 q8 q12 q16 fs1_12 fs7_4 17 h_15 h_16 h_7 h_8 _) ⟨rfl, rfl⟩ sv_X11_265 ⟨(Nat.le_of_ble_eq_true rfl), (Nat.le_of_ble_eq_true rfl)⟩ ⟨(Nat.le_of_ble_eq_true rfl), (Nat.le_of_ble_eq_true rfl)⟩ (fun _ _ _ _ h => h) (fun _ _ _ => trivial) hK hP hD [11, 12] rfl rfl 0 3 rfl rfl rfl rfl hl.1 rfl (Nat.le_of_ble_eq_true rfl) dX11_give_70) hP hD hS hA [11, 12] [0, 1, 2, 3, 4, 5, 6, 7, 8, 9, 10] rfl rfl rfl (by decide) (fun w_123 H locs hw_122 hP hD hS => ?_)
  subst hw_122
  have hP : va_P D vwCl [(q11, .inr (1, fs11)), (q14, .inr (9, fs14)), (q15, .inr (4, fs15)), (q17, .inl (cI, 10, .inl f17)), (h0, .inr (11, fs0)), (q9, .inr (7, fs9)), (q1, .inl (cI, 250, .inl g1_5)), (q2, .inl (cI, 10, .inl g2_6)), (q3, .inl (cI, 25, .inl g3_13)), (q4, .inl (cI, 40, .inl g4_14)), (q16, .inl (cI, 10, .inl f2_22)), (q13, .inr (3, fs1_12)), (q8, .inr (6, fs7_4))] H := hP
  have hD : va_D A [(q11, .inr (1, fs11)), (q14, .inr (9, fs14)), (q15, .inr (4, fs15)), (q17, .inl (cI, 10, .inl f17)), (h0, .inr (11, fs0)), (q9, .inr (7, fs9)), (q1, .inl (cI, 250, .inl g1_5)), (q2, .inl (cI, 10, .inl g2_6)), (q3, .inl (cI, 25, .inl g3_13)), (q4, .inl (cI, 40, .inl g4_14)), (q16, .inl (cI, 10, .inl f2_22)), (q13, .inr (3, fs1_12)), (q8, .inr (6, fs7_4))] := hD
  refine lv_iinc (v := 18) (lv' := [(1, .int 18), (0, .ref h0)]) hx hb dX11_give_73 hl (k := 0) rfl (by decide) (by decide) rfl (fun ls hl => ?_)
  refine lv_goto (tgt := 28) hx hb dX11_give_76 (by decide) ?_
  refine lv_iload_n hx hb dX11_give_28 rfl (lv_at hl 0 rfl) ?_
  refine lv_bipush (v := 24) hx hb dX11_give_29 (by decide) ?_
  refine lv_icmp_gt (tgt := 79) hx hb dX11_give_31 (by decide) (fun h => absurd h (by decide)) (fun _ => ?_)
  refine lv_aload_n hx hb dX11_give_34 rfl (lv_at hl 1 rfl) ?_
  refine gt_X11 hx hb hts hown hK hP 4 rfl 5 (by decide) wd_678 rfl hf_fs0_5 dX11_give_35 ?_
  refine lv_aload_n hx hb dX11_give_38 rfl (lv_at hl 1 rfl) ?_
  refine gt_X11 hx hb hts hown hK hP 4 rfl 13 (by decide) wd_686 rfl hf_fs0_13 dX11_give_39 ?_
  refine lv_iload_n hx hb dX11_give_42 rfl (lv_at hl 0 rfl) ?_
  refine lv_aload_n hx hb dX11_give_43 rfl (lv_at hl 1 rfl) ?_
  refine gt_X11 hx hb hts hown hK hP 4 rfl 0 (by decide) wd_673 rfl hf_fs0_0 dX11_give_44 ?_
  refine gt_X1 hx hb hts hown hK hP 0 rfl 0 (by decide) wd_39 rfl hf_fs11_0 dX11_give_47 ?_
  refine cl_v (wr := [(q11, .inr (1, fs11)), (q14, .inr (9, fs14)), (q15, .inr (4, fs15)), (q17, .inl (cI, 10, .inl f17)), (h0, .inr (11, fs0)), (q9, .inr (7, fs9)), (q1, .inl (cI, 250, .inl g1_5)), (q2, .inl (cI, 10, .inl g2_6)), (q3, .inl (cI, 25, .inl g3_13)), (q4, .inl (cI, 40, .inl g4_14)), (q16, .inl (cI, 10, .inl f2_22)), (q13, .inr (3, fs1_12))]) (rn_V (As := [.ref q16, .int 18, .int 0]) (rest := []) hx hb hml hown hts (c_X6_addCome l D cI cJ cZ q8 q16 fs7_4 18 h_7 _) ⟨rfl, rfl⟩ sv_X11_261 ⟨(Nat.le_of_ble_eq_true rfl), (Nat.le_of_ble_eq_true rfl)⟩ ⟨(Nat.le_of_ble_eq_true rfl), (Nat.le_of_ble_eq_true rfl)⟩ (fun _ _ _ _ h => h) (fun _ _ _ => trivial) hK hP hD [12] rfl rfl 0 6 rfl rfl rfl rfl hl.1 rfl (Nat.le_of_ble_eq_true rfl) dX11_give_50) hP hD hS hA [12] [0, 1, 2, 3, 4, 5, 6, 7, 8, 9, 10, 11] rfl rfl rfl (by decide) (fun w_126 H locs hw_125 hP hD hS => ?_)
  subst hw_125
  have hP : va_P D vwCl [(q11, .inr (1, fs11)), (q14, .inr (9, fs14)), (q15, .inr (4, fs15)), (q17, .inl (cI, 10, .inl f17)), (h0, .inr (11, fs0)), (q9, .inr (7, fs9)), (q1, .inl (cI, 250, .inl g1_5)), (q2, .inl (cI, 10, .inl g2_6)), (q3, .inl (cI, 25, .inl g3_13)), (q4, .inl (cI, 40, .inl g4_14)), (q16, .inl (cI, 10, .inl f2_22)), (q13, .inr (3, fs1_12)), (q8, .inr (6, fs7_4))] H := hP
  have hD : va_D A [(q11, .inr (1, fs11)), (q14, .inr (9, fs14)), (q15, .inr (4, fs15)), (q17, .inl (cI, 10, .inl f17)), (h0, .inr (11, fs0)), (q9, .inr (7, fs9)), (q1, .inl (cI, 250, .inl g1_5)), (q2, .inl (cI, 10, .inl g2_6)), (q3, .inl (cI, 25, .inl g3_13)), (q4, .inl (cI, 40, .inl g4_14)), (q16, .inl (cI, 10, .inl f2_22)), (q13, .inr (3, fs1_12)), (q8, .inr (6, fs7_4))] := hD
  refine lv_aload_n hx hb dX11_give_53 rfl (lv_at hl 1 rfl) ?_
  refine gt_X11 hx hb hts hown hK hP 4 rfl 7 (by decide) wd_680 rfl hf_fs0_7 dX11_give_54 ?_
  refine lv_aload_n hx hb dX11_give_57 rfl (lv_at hl 1 rfl) ?_
  refine gt_X11 hx hb hts hown hK hP 4 rfl 5 (by decide) wd_678 rfl hf_fs0_5 dX11_give_58 ?_
  refine lv_aload_n hx hb dX11_give_61 rfl (lv_at hl 1 rfl) ?_
  refine gt_X11 hx hb hts hown hK hP 4 rfl 6 (by decide) wd_679 rfl hf_fs0_6 dX11_give_62 ?_
  refine lv_iload_n hx hb dX11_give_65 rfl (lv_at hl 0 rfl) ?_
  refine lv_aload_n hx hb dX11_give_66 rfl (lv_at hl 1 rfl) ?_
  refine gt_X11 hx hb hts hown hK hP 4 rfl 13 (by decide) wd_686 rfl hf_fs0_13 dX11_give_67 ?_
  refine cl_v (wr := [(q11, .inr (1, fs11)), (q14, .inr (9, fs14)), (q15, .inr (4, fs15)), (q17, .inl (cI, 10, .inl f17)), (h0, .inr (11, fs0)), (q9, .inr (7, fs9)), (q1, .inl (cI, 250, .inl g1_5)), (q2, .inl (cI, 10, .inl g2_6)), (q3, .inl (cI, 25, .inl g3_13)), (q4, .inl (cI, 40, .inl g4_14)), (q16, .inl (cI, 10, .inl f2_22))]) (rn_V (As := [.ref q8, .ref q12, .int 18, .ref q16]) (rest := []) hx hb hml hown hts (c_X3_addDay l D cI cJ cZ q13 q8 q12 q16 fs1_12 fs7_4 18 h_15 h_16 h_7 h_8 _) ⟨rfl, rfl⟩ sv_X11_265 ⟨(Nat.le_of_ble_eq_true rfl), (Nat.le_of_ble_eq_true rfl)⟩ ⟨(Nat.le_of_ble_eq_true rfl), (Nat.le_of_ble_eq_true rfl)⟩ (fun _ _ _ _ h => h) (fun _ _ _ => trivial) hK hP hD [11, 12] rfl rfl 0 3 rfl rfl rfl rfl hl.1 rfl (Nat.le_of_ble_eq_true rfl) dX11_give_70) hP hD hS hA [11, 12] [0, 1, 2, 3, 4, 5, 6, 7, 8, 9, 10] rfl rfl rfl (by decide) (fun w_129 H locs hw_128 hP hD hS => ?_)
  subst hw_128
  have hP : va_P D vwCl [(q11, .inr (1, fs11)), (q14, .inr (9, fs14)), (q15, .inr (4, fs15)), (q17, .inl (cI, 10, .inl f17)), (h0, .inr (11, fs0)), (q9, .inr (7, fs9)), (q1, .inl (cI, 250, .inl g1_5)), (q2, .inl (cI, 10, .inl g2_6)), (q3, .inl (cI, 25, .inl g3_13)), (q4, .inl (cI, 40, .inl g4_14)), (q16, .inl (cI, 10, .inl f2_22)), (q13, .inr (3, fs1_12)), (q8, .inr (6, fs7_4))] H := hP
  have hD : va_D A [(q11, .inr (1, fs11)), (q14, .inr (9, fs14)), (q15, .inr (4, fs15)), (q17, .inl (cI, 10, .inl f17)), (h0, .inr (11, fs0)), (q9, .inr (7, fs9)), (q1, .inl (cI, 250, .inl g1_5)), (q2, .inl (cI, 10, .inl g2_6)), (q3, .inl (cI, 25, .inl g3_13)), (q4, .inl (cI, 40, .inl g4_14)), (q16, .inl (cI, 10, .inl f2_22)), (q13, .inr (3, fs1_12)), (q8, .inr (6, fs7_4))] := hD
  refine lv_iinc (v := 19) (lv' := [(1, .int 19), (0, .ref h0)]) hx hb dX11_give_73 hl (k := 0) rfl (by decide) (by decide) rfl (fun ls hl => ?_)
  refine lv_goto (tgt := 28) hx hb dX11_give_76 (by decide) ?_
  refine lv_iload_n hx hb dX11_give_28 rfl (lv_at hl 0 rfl) ?_
  refine lv_bipush (v := 24) hx hb dX11_give_29 (by decide) ?_
  refine lv_icmp_gt (tgt := 79) hx hb dX11_give_31 (by decide) (fun h => absurd h (by decide)) (fun _ => ?_)
  refine lv_aload_n hx hb dX11_give_34 rfl (lv_at hl 1 rfl) ?_
  refine gt_X11 hx hb hts hown hK hP 4 rfl 5 (by decide) wd_678 rfl hf_fs0_5 dX11_give_35 ?_
  refine lv_aload_n hx hb dX11_give_38 rfl (lv_at hl 1 rfl) ?_
  refine gt_X11 hx hb hts hown hK hP 4 rfl 13 (by decide) wd_686 rfl hf_fs0_13 dX11_give_39 ?_
  refine lv_iload_n hx hb dX11_give_42 rfl (lv_at hl 0 rfl) ?_
  refine lv_aload_n hx hb dX11_give_43 rfl (lv_at hl 1 rfl) ?_
  refine gt_X11 hx hb hts hown hK hP 4 rfl 0 (by decide) wd_673 rfl hf_fs0_0 dX11_give_44 ?_
  refine gt_X1 hx hb hts hown hK hP 0 rfl 0 (by decide) wd_39 rfl hf_fs11_0 dX11_give_47 ?_
  refine cl_v (wr := [(q11, .inr (1, fs11)), (q14, .inr (9, fs14)), (q15, .inr (4, fs15)), (q17, .inl (cI, 10, .inl f17)), (h0, .inr (11, fs0)), (q9, .inr (7, fs9)), (q1, .inl (cI, 250, .inl g1_5)), (q2, .inl (cI, 10, .inl g2_6)), (q3, .inl (cI, 25, .inl g3_13)), (q4, .inl (cI, 40, .inl g4_14)), (q16, .inl (cI, 10, .inl f2_22)), (q13, .inr (3, fs1_12))]) (rn_V (As := [.ref q16, .int 19, .int 0]) (rest := []) hx hb hml hown hts (c_X6_addCome l D cI cJ cZ q8 q16 fs7_4 19 h_7 _) ⟨rfl, rfl⟩ sv_X11_261 ⟨(Nat.le_of_ble_eq_true rfl), (Nat.le_of_ble_eq_true rfl)⟩ ⟨(Nat.le_of_ble_eq_true rfl), (Nat.le_of_ble_eq_true rfl)⟩ (fun _ _ _ _ h => h) (fun _ _ _ => trivial) hK hP hD [12] rfl rfl 0 6 rfl rfl rfl rfl hl.1 rfl (Nat.le_of_ble_eq_true rfl) dX11_give_50) hP hD hS hA [12] [0, 1, 2, 3, 4, 5, 6, 7, 8, 9, 10, 11] rfl rfl rfl (by decide) (fun w_132 H locs hw_131 hP hD hS => ?_)
  subst hw_131
  have hP : va_P D vwCl [(q11, .inr (1, fs11)), (q14, .inr (9, fs14)), (q15, .inr (4, fs15)), (q17, .inl (cI, 10, .inl f17)), (h0, .inr (11, fs0)), (q9, .inr (7, fs9)), (q1, .inl (cI, 250, .inl g1_5)), (q2, .inl (cI, 10, .inl g2_6)), (q3, .inl (cI, 25, .inl g3_13)), (q4, .inl (cI, 40, .inl g4_14)), (q16, .inl (cI, 10, .inl f2_22)), (q13, .inr (3, fs1_12)), (q8, .inr (6, fs7_4))] H := hP
  have hD : va_D A [(q11, .inr (1, fs11)), (q14, .inr (9, fs14)), (q15, .inr (4, fs15)), (q17, .inl (cI, 10, .inl f17)), (h0, .inr (11, fs0)), (q9, .inr (7, fs9)), (q1, .inl (cI, 250, .inl g1_5)), (q2, .inl (cI, 10, .inl g2_6)), (q3, .inl (cI, 25, .inl g3_13)), (q4, .inl (cI, 40, .inl g4_14)), (q16, .inl (cI, 10, .inl f2_22)), (q13, .inr (3, fs1_12)), (q8, .inr (6, fs7_4))] := hD
  refine lv_aload_n hx hb dX11_give_53 rfl (lv_at hl 1 rfl) ?_
  refine gt_X11 hx hb hts hown hK hP 4 rfl 7 (by decide) wd_680 rfl hf_fs0_7 dX11_give_54 ?_
  refine lv_aload_n hx hb dX11_give_57 rfl (lv_at hl 1 rfl) ?_
  refine gt_X11 hx hb hts hown hK hP 4 rfl 5 (by decide) wd_678 rfl hf_fs0_5 dX11_give_58 ?_
  refine lv_aload_n hx hb dX11_give_61 rfl (lv_at hl 1 rfl) ?_
  refine gt_X11 hx hb hts hown hK hP 4 rfl 6 (by decide) wd_679 rfl hf_fs0_6 dX11_give_62 ?_
  refine lv_iload_n hx hb dX11_give_65 rfl (lv_at hl 0 rfl) ?_
  refine lv_aload_n hx hb dX11_give_66 rfl (lv_at hl 1 rfl) ?_
  refine gt_X11 hx hb hts hown hK hP 4 rfl 13 (by decide) wd_686 rfl hf_fs0_13 dX11_give_67 ?_
  refine cl_v (wr := [(q11, .inr (1, fs11)), (q14, .inr (9, fs14)), (q15, .inr (4, fs15)), (q17, .inl (cI, 10, .inl f17)), (h0, .inr (11, fs0)), (q9, .inr (7, fs9)), (q1, .inl (cI, 250, .inl g1_5)), (q2, .inl (cI, 10, .inl g2_6)), (q3, .inl (cI, 25, .inl g3_13)), (q4, .inl (cI, 40, .inl g4_14)), (q16, .inl (cI, 10, .inl f2_22))]) (rn_V (As := [.ref q8, .ref q12, .int 19, .ref q16]) (rest := []) hx hb hml hown hts (c_X3_addDay l D cI cJ cZ q13 q8 q12 q16 fs1_12 fs7_4 19 h_15 h_16 h_7 h_8 _) ⟨rfl, rfl⟩ sv_X11_265 ⟨(Nat.le_of_ble_eq_true rfl), (Nat.le_of_ble_eq_true rfl)⟩ ⟨(Nat.le_of_ble_eq_true rfl), (Nat.le_of_ble_eq_true rfl)⟩ (fun _ _ _ _ h => h) (fun _ _ _ => trivial) hK hP hD [11, 12] rfl rfl 0 3 rfl rfl rfl rfl hl.1 rfl (Nat.le_of_ble_eq_true rfl) dX11_give_70) hP hD hS hA [11, 12] [0, 1, 2, 3, 4, 5, 6, 7, 8, 9, 10] rfl rfl rfl (by decide) (fun w_135 H locs hw_134 hP hD hS => ?_)
  subst hw_134
  have hP : va_P D vwCl [(q11, .inr (1, fs11)), (q14, .inr (9, fs14)), (q15, .inr (4, fs15)), (q17, .inl (cI, 10, .inl f17)), (h0, .inr (11, fs0)), (q9, .inr (7, fs9)), (q1, .inl (cI, 250, .inl g1_5)), (q2, .inl (cI, 10, .inl g2_6)), (q3, .inl (cI, 25, .inl g3_13)), (q4, .inl (cI, 40, .inl g4_14)), (q16, .inl (cI, 10, .inl f2_22)), (q13, .inr (3, fs1_12)), (q8, .inr (6, fs7_4))] H := hP
  have hD : va_D A [(q11, .inr (1, fs11)), (q14, .inr (9, fs14)), (q15, .inr (4, fs15)), (q17, .inl (cI, 10, .inl f17)), (h0, .inr (11, fs0)), (q9, .inr (7, fs9)), (q1, .inl (cI, 250, .inl g1_5)), (q2, .inl (cI, 10, .inl g2_6)), (q3, .inl (cI, 25, .inl g3_13)), (q4, .inl (cI, 40, .inl g4_14)), (q16, .inl (cI, 10, .inl f2_22)), (q13, .inr (3, fs1_12)), (q8, .inr (6, fs7_4))] := hD
  refine lv_iinc (v := 20) (lv' := [(1, .int 20), (0, .ref h0)]) hx hb dX11_give_73 hl (k := 0) rfl (by decide) (by decide) rfl (fun ls hl => ?_)
  refine lv_goto (tgt := 28) hx hb dX11_give_76 (by decide) ?_
  refine lv_iload_n hx hb dX11_give_28 rfl (lv_at hl 0 rfl) ?_
  refine lv_bipush (v := 24) hx hb dX11_give_29 (by decide) ?_
  refine lv_icmp_gt (tgt := 79) hx hb dX11_give_31 (by decide) (fun h => absurd h (by decide)) (fun _ => ?_)
  refine lv_aload_n hx hb dX11_give_34 rfl (lv_at hl 1 rfl) ?_
  refine gt_X11 hx hb hts hown hK hP 4 rfl 5 (by decide) wd_678 rfl hf_fs0_5 dX11_give_35 ?_
  refine lv_aload_n hx hb dX11_give_38 rfl (lv_at hl 1 rfl) ?_
  refine gt_X11 hx hb hts hown hK hP 4 rfl 13 (by decide) wd_686 rfl hf_fs0_13 dX11_give_39 ?_
  refine lv_iload_n hx hb dX11_give_42 rfl (lv_at hl 0 rfl) ?_
  refine lv_aload_n hx hb dX11_give_43 rfl (lv_at hl 1 rfl) ?_
  refine gt_X11 hx hb hts hown hK hP 4 rfl 0 (by decide) wd_673 rfl hf_fs0_0 dX11_give_44 ?_
  refine gt_X1 hx hb hts hown hK hP 0 rfl 0 (by decide) wd_39 rfl hf_fs11_0 dX11_give_47 ?_
  refine cl_v (wr := [(q11, .inr (1, fs11)), (q14, .inr (9, fs14)), (q15, .inr (4, fs15)), (q17, .inl (cI, 10, .inl f17)), (h0, .inr (11, fs0)), (q9, .inr (7, fs9)), (q1, .inl (cI, 250, .inl g1_5)), (q2, .inl (cI, 10, .inl g2_6)), (q3, .inl (cI, 25, .inl g3_13)), (q4, .inl (cI, 40, .inl g4_14)), (q16, .inl (cI, 10, .inl f2_22)), (q13, .inr (3, fs1_12))]) (rn_V (As := [.ref q16, .int 20, .int 0]) (rest := []) hx hb hml hown hts (c_X6_addCome l D cI cJ cZ q8 q16 fs7_4 20 h_7 _) ⟨rfl, rfl⟩ sv_X11_261 ⟨(Nat.le_of_ble_eq_true rfl), (Nat.le_of_ble_eq_true rfl)⟩ ⟨(Nat.le_of_ble_eq_true rfl), (Nat.le_of_ble_eq_true rfl)⟩ (fun _ _ _ _ h => h) (fun _ _ _ => trivial) hK hP hD [12] rfl rfl 0 6 rfl rfl rfl rfl hl.1 rfl (Nat.le_of_ble_eq_true rfl) dX11_give_50) hP hD hS hA [12] [0, 1, 2, 3, 4, 5, 6, 7, 8, 9, 10, 11] rfl rfl rfl (by decide) (fun w_138 H locs hw_137 hP hD hS => ?_)
  subst hw_137
  have hP : va_P D vwCl [(q11, .inr (1, fs11)), (q14, .inr (9, fs14)), (q15, .inr (4, fs15)), (q17, .inl (cI, 10, .inl f17)), (h0, .inr (11, fs0)), (q9, .inr (7, fs9)), (q1, .inl (cI, 250, .inl g1_5)), (q2, .inl (cI, 10, .inl g2_6)), (q3, .inl (cI, 25, .inl g3_13)), (q4, .inl (cI, 40, .inl g4_14)), (q16, .inl (cI, 10, .inl f2_22)), (q13, .inr (3, fs1_12)), (q8, .inr (6, fs7_4))] H := hP
  have hD : va_D A [(q11, .inr (1, fs11)), (q14, .inr (9, fs14)), (q15, .inr (4, fs15)), (q17, .inl (cI, 10, .inl f17)), (h0, .inr (11, fs0)), (q9, .inr (7, fs9)), (q1, .inl (cI, 250, .inl g1_5)), (q2, .inl (cI, 10, .inl g2_6)), (q3, .inl (cI, 25, .inl g3_13)), (q4, .inl (cI, 40, .inl g4_14)), (q16, .inl (cI, 10, .inl f2_22)), (q13, .inr (3, fs1_12)), (q8, .inr (6, fs7_4))] := hD
  refine lv_aload_n hx hb dX11_give_53 rfl (lv_at hl 1 rfl) ?_
  refine gt_X11 hx hb hts hown hK hP 4 rfl 7 (by decide) wd_680 rfl hf_fs0_7 dX11_give_54 ?_
  refine lv_aload_n hx hb dX11_give_57 rfl (lv_at hl 1 rfl) ?_
  refine gt_X11 hx hb hts hown hK hP 4 rfl 5 (by decide) wd_678 rfl hf_fs0_5 dX11_give_58 ?_
  refine lv_aload_n hx hb dX11_give_61 rfl (lv_at hl 1 rfl) ?_
  refine gt_X11 hx hb hts hown hK hP 4 rfl 6 (by decide) wd_679 rfl hf_fs0_6 dX11_give_62 ?_
  refine lv_iload_n hx hb dX11_give_65 rfl (lv_at hl 0 rfl) ?_
  refine lv_aload_n hx hb dX11_give_66 rfl (lv_at hl 1 rfl) ?_
  refine gt_X11 hx hb hts hown hK hP 4 rfl 13 (by decide) wd_686 rfl hf_fs0_13 dX11_give_67 ?_
  refine cl_v (wr := [(q11, .inr (1, fs11)), (q14, .inr (9, fs14)), (q15, .inr (4, fs15)), (q17, .inl (cI, 10, .inl f17)), (h0, .inr (11, fs0)), (q9, .inr (7, fs9)), (q1, .inl (cI, 250, .inl g1_5)), (q2, .inl (cI, 10, .inl g2_6)), (q3, .inl (cI, 25, .inl g3_13)), (q4, .inl (cI, 40, .inl g4_14)), (q16, .inl (cI, 10, .inl f2_22))]) (rn_V (As := [.ref q8, .ref q12, .int 20, .ref q16]) (rest := []) hx hb hml hown hts (c_X3_addDay l D cI cJ cZ q13 q8 q12 q16 fs1_12 fs7_4 20 h_15 h_16 h_7 h_8 _) ⟨rfl, rfl⟩ sv_X11_265 ⟨(Nat.le_of_ble_eq_true rfl), (Nat.le_of_ble_eq_true rfl)⟩ ⟨(Nat.le_of_ble_eq_true rfl), (Nat.le_of_ble_eq_true rfl)⟩ (fun _ _ _ _ h => h) (fun _ _ _ => trivial) hK hP hD [11, 12] rfl rfl 0 3 rfl rfl rfl rfl hl.1 rfl (Nat.le_of_ble_eq_true rfl) dX11_give_70) hP hD hS hA [11, 12] [0, 1, 2, 3, 4, 5, 6, 7, 8, 9, 10] rfl rfl rfl (by decide) (fun w_141 H locs hw_140 hP hD hS => ?_)
  subst hw_140
  have hP : va_P D vwCl [(q11, .inr (1, fs11)), (q14, .inr (9, fs14)), (q15, .inr (4, fs15)), (q17, .inl (cI, 10, .inl f17)), (h0, .inr (11, fs0)), (q9, .inr (7, fs9)), (q1, .inl (cI, 250, .inl g1_5)), (q2, .inl (cI, 10, .inl g2_6)), (q3, .inl (cI, 25, .inl g3_13)), (q4, .inl (cI, 40, .inl g4_14)), (q16, .inl (cI, 10, .inl f2_22)), (q13, .inr (3, fs1_12)), (q8, .inr (6, fs7_4))] H := hP
  have hD : va_D A [(q11, .inr (1, fs11)), (q14, .inr (9, fs14)), (q15, .inr (4, fs15)), (q17, .inl (cI, 10, .inl f17)), (h0, .inr (11, fs0)), (q9, .inr (7, fs9)), (q1, .inl (cI, 250, .inl g1_5)), (q2, .inl (cI, 10, .inl g2_6)), (q3, .inl (cI, 25, .inl g3_13)), (q4, .inl (cI, 40, .inl g4_14)), (q16, .inl (cI, 10, .inl f2_22)), (q13, .inr (3, fs1_12)), (q8, .inr (6, fs7_4))] := hD
  refine lv_iinc (v := 21) (lv' := [(1, .int 21), (0, .ref h0)]) hx hb dX11_give_73 hl (k := 0) rfl (by decide) (by decide) rfl (fun ls hl => ?_)
  refine lv_goto (tgt := 28) hx hb dX11_give_76 (by decide) ?_
  refine lv_iload_n hx hb dX11_give_28 rfl (lv_at hl 0 rfl) ?_
  refine lv_bipush (v := 24) hx hb dX11_give_29 (by decide) ?_
  refine lv_icmp_gt (tgt := 79) hx hb dX11_give_31 (by decide) (fun h => absurd h (by decide)) (fun _ => ?_)
  refine lv_aload_n hx hb dX11_give_34 rfl (lv_at hl 1 rfl) ?_
  refine gt_X11 hx hb hts hown hK hP 4 rfl 5 (by decide) wd_678 rfl hf_fs0_5 dX11_give_35 ?_
  refine lv_aload_n hx hb dX11_give_38 rfl (lv_at hl 1 rfl) ?_
  refine gt_X11 hx hb hts hown hK hP 4 rfl 13 (by decide) wd_686 rfl hf_fs0_13 dX11_give_39 ?_
  refine lv_iload_n hx hb dX11_give_42 rfl (lv_at hl 0 rfl) ?_
  refine lv_aload_n hx hb dX11_give_43 rfl (lv_at hl 1 rfl) ?_
  refine gt_X11 hx hb hts hown hK hP 4 rfl 0 (by decide) wd_673 rfl hf_fs0_0 dX11_give_44 ?_
  refine gt_X1 hx hb hts hown hK hP 0 rfl 0 (by decide) wd_39 rfl hf_fs11_0 dX11_give_47 ?_
  refine cl_v (wr := [(q11, .inr (1, fs11)), (q14, .inr (9, fs14)), (q15, .inr (4, fs15)), (q17, .inl (cI, 10, .inl f17)), (h0, .inr (11, fs0)), (q9, .inr (7, fs9)), (q1, .inl (cI, 250, .inl g1_5)), (q2, .inl (cI, 10, .inl g2_6)), (q3, .inl (cI, 25, .inl g3_13)), (q4, .inl (cI, 40, .inl g4_14)), (q16, .inl (cI, 10, .inl f2_22)), (q13, .inr (3, fs1_12))]) (rn_V (As := [.ref q16, .int 21, .int 0]) (rest := []) hx hb hml hown hts (c_X6_addCome l D cI cJ cZ q8 q16 fs7_4 21 h_7 _) ⟨rfl, rfl⟩ sv_X11_261 ⟨(Nat.le_of_ble_eq_true rfl), (Nat.le_of_ble_eq_true rfl)⟩ ⟨(Nat.le_of_ble_eq_true rfl), (Nat.le_of_ble_eq_true rfl)⟩ (fun _ _ _ _ h => h) (fun _ _ _ => trivial) hK hP hD [12] rfl rfl 0 6 rfl rfl rfl rfl hl.1 rfl (Nat.le_of_ble_eq_true rfl) dX11_give_50) hP hD hS hA [12] [0, 1, 2, 3, 4, 5, 6, 7, 8, 9, 10, 11] rfl rfl rfl (by decide) (fun w_144 H locs hw_143 hP hD hS => ?_)
  subst hw_143
  have hP : va_P D vwCl [(q11, .inr (1, fs11)), (q14, .inr (9, fs14)), (q15, .inr (4, fs15)), (q17, .inl (cI, 10, .inl f17)), (h0, .inr (11, fs0)), (q9, .inr (7, fs9)), (q1, .inl (cI, 250, .inl g1_5)), (q2, .inl (cI, 10, .inl g2_6)), (q3, .inl (cI, 25, .inl g3_13)), (q4, .inl (cI, 40, .inl g4_14)), (q16, .inl (cI, 10, .inl f2_22)), (q13, .inr (3, fs1_12)), (q8, .inr (6, fs7_4))] H := hP
  have hD : va_D A [(q11, .inr (1, fs11)), (q14, .inr (9, fs14)), (q15, .inr (4, fs15)), (q17, .inl (cI, 10, .inl f17)), (h0, .inr (11, fs0)), (q9, .inr (7, fs9)), (q1, .inl (cI, 250, .inl g1_5)), (q2, .inl (cI, 10, .inl g2_6)), (q3, .inl (cI, 25, .inl g3_13)), (q4, .inl (cI, 40, .inl g4_14)), (q16, .inl (cI, 10, .inl f2_22)), (q13, .inr (3, fs1_12)), (q8, .inr (6, fs7_4))] := hD
  refine lv_aload_n hx hb dX11_give_53 rfl (lv_at hl 1 rfl) ?_
  refine gt_X11 hx hb hts hown hK hP 4 rfl 7 (by decide) wd_680 rfl hf_fs0_7 dX11_give_54 ?_
  refine lv_aload_n hx hb dX11_give_57 rfl (lv_at hl 1 rfl) ?_
  refine gt_X11 hx hb hts hown hK hP 4 rfl 5 (by decide) wd_678 rfl hf_fs0_5 dX11_give_58 ?_
  refine lv_aload_n hx hb dX11_give_61 rfl (lv_at hl 1 rfl) ?_
  refine gt_X11 hx hb hts hown hK hP 4 rfl 6 (by decide) wd_679 rfl hf_fs0_6 dX11_give_62 ?_
  refine lv_iload_n hx hb dX11_give_65 rfl (lv_at hl 0 rfl) ?_
  refine lv_aload_n hx hb dX11_give_66 rfl (lv_at hl 1 rfl) ?_
  refine gt_X11 hx hb hts hown hK hP 4 rfl 13 (by decide) wd_686 rfl hf_fs0_13 dX11_give_67 ?_
  refine cl_v (wr := [(q11, .inr (1, fs11)), (q14, .inr (9, fs14)), (q15, .inr (4, fs15)), (q17, .inl (cI, 10, .inl f17)), (h0, .inr (11, fs0)), (q9, .inr (7, fs9)), (q1, .inl (cI, 250, .inl g1_5)), (q2, .inl (cI, 10, .inl g2_6)), (q3, .inl (cI, 25, .inl g3_13)), (q4, .inl (cI, 40, .inl g4_14)), (q16, .inl (cI, 10, .inl f2_22))]) (rn_V (As := [.ref q8, .ref q12, .int 21, .ref q16]) (rest := []) hx hb hml hown hts (c_X3_addDay l D cI cJ cZ q13 q8 q12 q16 fs1_12 fs7_4 21 h_15 h_16 h_7 h_8 _) ⟨rfl, rfl⟩ sv_X11_265 ⟨(Nat.le_of_ble_eq_true rfl), (Nat.le_of_ble_eq_true rfl)⟩ ⟨(Nat.le_of_ble_eq_true rfl), (Nat.le_of_ble_eq_true rfl)⟩ (fun _ _ _ _ h => h) (fun _ _ _ => trivial) hK hP hD [11, 12] rfl rfl 0 3 rfl rfl rfl rfl hl.1 rfl (Nat.le_of_ble_eq_true rfl) dX11_give_70) hP hD hS hA [11, 12] [0, 1, 2, 3, 4, 5, 6, 7, 8, 9, 10] rfl rfl rfl (by decide) (fun w_147 H locs hw_146 hP hD hS => ?_)
  subst hw_146
  have hP : va_P D vwCl [(q11, .inr (1, fs11)), (q14, .inr (9, fs14)), (q15, .inr (4, fs15)), (q17, .inl (cI, 10, .inl f17)), (h0, .inr (11, fs0)), (q9, .inr (7, fs9)), (q1, .inl (cI, 250, .inl g1_5)), (q2, .inl (cI, 10, .inl g2_6)), (q3, .inl (cI, 25, .inl g3_13)), (q4, .inl (cI, 40, .inl g4_14)), (q16, .inl (cI, 10, .inl f2_22)), (q13, .inr (3, fs1_12)), (q8, .inr (6, fs7_4))] H := hP
  have hD : va_D A [(q11, .inr (1, fs11)), (q14, .inr (9, fs14)), (q15, .inr (4, fs15)), (q17, .inl (cI, 10, .inl f17)), (h0, .inr (11, fs0)), (q9, .inr (7, fs9)), (q1, .inl (cI, 250, .inl g1_5)), (q2, .inl (cI, 10, .inl g2_6)), (q3, .inl (cI, 25, .inl g3_13)), (q4, .inl (cI, 40, .inl g4_14)), (q16, .inl (cI, 10, .inl f2_22)), (q13, .inr (3, fs1_12)), (q8, .inr (6, fs7_4))] := hD
  refine lv_iinc (v := 22) (lv' := [(1, .int 22), (0, .ref h0)]) hx hb dX11_give_73 hl (k := 0) rfl (by decide) (by decide) rfl (fun ls hl => ?_)
  refine lv_goto (tgt := 28) hx hb dX11_give_76 (by decide) ?_
  refine lv_iload_n hx hb dX11_give_28 rfl (lv_at hl 0 rfl) ?_
  refine lv_bipush (v := 24) hx hb dX11_give_29 (by decide) ?_
  refine lv_icmp_gt (tgt := 79) hx hb dX11_give_31 (by decide) (fun h => absurd h (by decide)) (fun _ => ?_)
  refine lv_aload_n hx hb dX11_give_34 rfl (lv_at hl 1 rfl) ?_
  refine gt_X11 hx hb hts hown hK hP 4 rfl 5 (by decide) wd_678 rfl hf_fs0_5 dX11_give_35 ?_
  refine lv_aload_n hx hb dX11_give_38 rfl (lv_at hl 1 rfl) ?_
  refine gt_X11 hx hb hts hown hK hP 4 rfl 13 (by decide) wd_686 rfl hf_fs0_13 dX11_give_39 ?_
  refine lv_iload_n hx hb dX11_give_42 rfl (lv_at hl 0 rfl) ?_
  refine lv_aload_n hx hb dX11_give_43 rfl (lv_at hl 1 rfl) ?_
  refine gt_X11 hx hb hts hown hK hP 4 rfl 0 (by decide) wd_673 rfl hf_fs0_0 dX11_give_44 ?_
  refine gt_X1 hx hb hts hown hK hP 0 rfl 0 (by decide) wd_39 rfl hf_fs11_0 dX11_give_47 ?_
  refine cl_v (wr := [(q11, .inr (1, fs11)), (q14, .inr (9, fs14)), (q15, .inr (4, fs15)), (q17, .inl (cI, 10, .inl f17)), (h0, .inr (11, fs0)), (q9, .inr (7, fs9)), (q1, .inl (cI, 250, .inl g1_5)), (q2, .inl (cI, 10, .inl g2_6)), (q3, .inl (cI, 25, .inl g3_13)), (q4, .inl (cI, 40, .inl g4_14)), (q16, .inl (cI, 10, .inl f2_22)), (q13, .inr (3, fs1_12))]) (rn_V (As := [.ref q16, .int 22, .int 0]) (rest := []) hx hb hml hown hts (c_X6_addCome l D cI cJ cZ q8 q16 fs7_4 22 h_7 _) ⟨rfl, rfl⟩ sv_X11_261 ⟨(Nat.le_of_ble_eq_true rfl), (Nat.le_of_ble_eq_true rfl)⟩ ⟨(Nat.le_of_ble_eq_true rfl), (Nat.le_of_ble_eq_true rfl)⟩ (fun _ _ _ _ h => h) (fun _ _ _ => trivial) hK hP hD [12] rfl rfl 0 6 rfl rfl rfl rfl hl.1 rfl (Nat.le_of_ble_eq_true rfl) dX11_give_50) hP hD hS hA [12] [0, 1, 2, 3, 4, 5, 6, 7, 8, 9, 10, 11] rfl rfl rfl (by decide) (fun w_150 H locs hw_149 hP hD hS => ?_)
  subst hw_149
  have hP : va_P D vwCl [(q11, .inr (1, fs11)), (q14, .inr (9, fs14)), (q15, .inr (4, fs15)), (q17, .inl (cI, 10, .inl f17)), (h0, .inr (11, fs0)), (q9, .inr (7, fs9)), (q1, .inl (cI, 250, .inl g1_5)), (q2, .inl (cI, 10, .inl g2_6)), (q3, .inl (cI, 25, .inl g3_13)), (q4, .inl (cI, 40, .inl g4_14)), (q16, .inl (cI, 10, .inl f2_22)), (q13, .inr (3, fs1_12)), (q8, .inr (6, fs7_4))] H := hP
  have hD : va_D A [(q11, .inr (1, fs11)), (q14, .inr (9, fs14)), (q15, .inr (4, fs15)), (q17, .inl (cI, 10, .inl f17)), (h0, .inr (11, fs0)), (q9, .inr (7, fs9)), (q1, .inl (cI, 250, .inl g1_5)), (q2, .inl (cI, 10, .inl g2_6)), (q3, .inl (cI, 25, .inl g3_13)), (q4, .inl (cI, 40, .inl g4_14)), (q16, .inl (cI, 10, .inl f2_22)), (q13, .inr (3, fs1_12)), (q8, .inr (6, fs7_4))] := hD
  refine lv_aload_n hx hb dX11_give_53 rfl (lv_at hl 1 rfl) ?_
  refine gt_X11 hx hb hts hown hK hP 4 rfl 7 (by decide) wd_680 rfl hf_fs0_7 dX11_give_54 ?_
  refine lv_aload_n hx hb dX11_give_57 rfl (lv_at hl 1 rfl) ?_
  refine gt_X11 hx hb hts hown hK hP 4 rfl 5 (by decide) wd_678 rfl hf_fs0_5 dX11_give_58 ?_
  refine lv_aload_n hx hb dX11_give_61 rfl (lv_at hl 1 rfl) ?_
  refine gt_X11 hx hb hts hown hK hP 4 rfl 6 (by decide) wd_679 rfl hf_fs0_6 dX11_give_62 ?_
  refine lv_iload_n hx hb dX11_give_65 rfl (lv_at hl 0 rfl) ?_
  refine lv_aload_n hx hb dX11_give_66 rfl (lv_at hl 1 rfl) ?_
  refine gt_X11 hx hb hts hown hK hP 4 rfl 13 (by decide) wd_686 rfl hf_fs0_13 dX11_give_67 ?_
  refine cl_v (wr := [(q11, .inr (1, fs11)), (q14, .inr (9, fs14)), (q15, .inr (4, fs15)), (q17, .inl (cI, 10, .inl f17)), (h0, .inr (11, fs0)), (q9, .inr (7, fs9)), (q1, .inl (cI, 250, .inl g1_5)), (q2, .inl (cI, 10, .inl g2_6)), (q3, .inl (cI, 25, .inl g3_13)), (q4, .inl (cI, 40, .inl g4_14)), (q16, .inl (cI, 10, .inl f2_22))]) (rn_V (As := [.ref q8, .ref q12, .int 22, .ref q16]) (rest := []) hx hb hml hown hts (c_X3_addDay l D cI cJ cZ q13 q8 q12 q16 fs1_12 fs7_4 22 h_15 h_16 h_7 h_8 _) ⟨rfl, rfl⟩ sv_X11_265 ⟨(Nat.le_of_ble_eq_true rfl), (Nat.le_of_ble_eq_true rfl)⟩ ⟨(Nat.le_of_ble_eq_true rfl), (Nat.le_of_ble_eq_true rfl)⟩ (fun _ _ _ _ h => h) (fun _ _ _ => trivial) hK hP hD [11, 12] rfl rfl 0 3 rfl rfl rfl rfl hl.1 rfl (Nat.le_of_ble_eq_true rfl) dX11_give_70) hP hD hS hA [11, 12] [0, 1, 2, 3, 4, 5, 6, 7, 8, 9, 10] rfl rfl rfl (by decide) (fun w_153 H locs hw_152 hP hD hS => ?_)
  subst hw_152
  have hP : va_P D vwCl [(q11, .inr (1, fs11)), (q14, .inr (9, fs14)), (q15, .inr (4, fs15)), (q17, .inl (cI, 10, .inl f17)), (h0, .inr (11, fs0)), (q9, .inr (7, fs9)), (q1, .inl (cI, 250, .inl g1_5)), (q2, .inl (cI, 10, .inl g2_6)), (q3, .inl (cI, 25, .inl g3_13)), (q4, .inl (cI, 40, .inl g4_14)), (q16, .inl (cI, 10, .inl f2_22)), (q13, .inr (3, fs1_12)), (q8, .inr (6, fs7_4))] H := hP
  have hD : va_D A [(q11, .inr (1, fs11)), (q14, .inr (9, fs14)), (q15, .inr (4, fs15)), (q17, .inl (cI, 10, .inl f17)), (h0, .inr (11, fs0)), (q9, .inr (7, fs9)), (q1, .inl (cI, 250, .inl g1_5)), (q2, .inl (cI, 10, .inl g2_6)), (q3, .inl (cI, 25, .inl g3_13)), (q4, .inl (cI, 40, .inl g4_14)), (q16, .inl (cI, 10, .inl f2_22)), (q13, .inr (3, fs1_12)), (q8, .inr (6, fs7_4))] := hD
  refine lv_iinc (v := 23) (lv' := [(1, .int 23), (0, .ref h0)]) hx hb dX11_give_73 hl (k := 0) rfl (by decide) (by decide) rfl (fun ls hl => ?_)
  refine lv_goto (tgt := 28) hx hb dX11_give_76 (by decide) ?_
  refine lv_iload_n hx hb dX11_give_28 rfl (lv_at hl 0 rfl) ?_
  refine lv_bipush (v := 24) hx hb dX11_give_29 (by decide) ?_
  refine lv_icmp_gt (tgt := 79) hx hb dX11_give_31 (by decide) (fun h => absurd h (by decide)) (fun _ => ?_)
  refine lv_aload_n hx hb dX11_give_34 rfl (lv_at hl 1 rfl) ?_
  refine gt_X11 hx hb hts hown hK hP 4 rfl 5 (by decide) wd_678 rfl hf_fs0_5 dX11_give_35 ?_
  refine lv_aload_n hx hb dX11_give_38 rfl (lv_at hl 1 rfl) ?_
  refine gt_X11 hx hb hts hown hK hP 4 rfl 13 (by decide) wd_686 rfl hf_fs0_13 dX11_give_39 ?_
  refine lv_iload_n hx hb dX11_give_42 rfl (lv_at hl 0 rfl) ?_
  refine lv_aload_n hx hb dX11_give_43 rfl (lv_at hl 1 rfl) ?_
  refine gt_X11 hx hb hts hown hK hP 4 rfl 0 (by decide) wd_673 rfl hf_fs0_0 dX11_give_44 ?_
  refine gt_X1 hx hb hts hown hK hP 0 rfl 0 (by decide) wd_39 rfl hf_fs11_0 dX11_give_47 ?_
  refine cl_v (wr := [(q11, .inr (1, fs11)), (q14, .inr (9, fs14)), (q15, .inr (4, fs15)), (q17, .inl (cI, 10, .inl f17)), (h0, .inr (11, fs0)), (q9, .inr (7, fs9)), (q1, .inl (cI, 250, .inl g1_5)), (q2, .inl (cI, 10, .inl g2_6)), (q3, .inl (cI, 25, .inl g3_13)), (q4, .inl (cI, 40, .inl g4_14)), (q16, .inl (cI, 10, .inl f2_22)), (q13, .inr (3, fs1_12))]) (rn_V (As := [.ref q16, .int 23, .int 0]) (rest := []) hx hb hml hown hts (c_X6_addCome l D cI cJ cZ q8 q16 fs7_4 23 h_7 _) ⟨rfl, rfl⟩ sv_X11_261 ⟨(Nat.le_of_ble_eq_true rfl), (Nat.le_of_ble_eq_true rfl)⟩ ⟨(Nat.le_of_ble_eq_true rfl), (Nat.le_of_ble_eq_true rfl)⟩ (fun _ _ _ _ h => h) (fun _ _ _ => trivial) hK hP hD [12] rfl rfl 0 6 rfl rfl rfl rfl hl.1 rfl (Nat.le_of_ble_eq_true rfl) dX11_give_50) hP hD hS hA [12] [0, 1, 2, 3, 4, 5, 6, 7, 8, 9, 10, 11] rfl rfl rfl (by decide) (fun w_156 H locs hw_155 hP hD hS => ?_)
  subst hw_155
  have hP : va_P D vwCl [(q11, .inr (1, fs11)), (q14, .inr (9, fs14)), (q15, .inr (4, fs15)), (q17, .inl (cI, 10, .inl f17)), (h0, .inr (11, fs0)), (q9, .inr (7, fs9)), (q1, .inl (cI, 250, .inl g1_5)), (q2, .inl (cI, 10, .inl g2_6)), (q3, .inl (cI, 25, .inl g3_13)), (q4, .inl (cI, 40, .inl g4_14)), (q16, .inl (cI, 10, .inl f2_22)), (q13, .inr (3, fs1_12)), (q8, .inr (6, fs7_4))] H := hP
  have hD : va_D A [(q11, .inr (1, fs11)), (q14, .inr (9, fs14)), (q15, .inr (4, fs15)), (q17, .inl (cI, 10, .inl f17)), (h0, .inr (11, fs0)), (q9, .inr (7, fs9)), (q1, .inl (cI, 250, .inl g1_5)), (q2, .inl (cI, 10, .inl g2_6)), (q3, .inl (cI, 25, .inl g3_13)), (q4, .inl (cI, 40, .inl g4_14)), (q16, .inl (cI, 10, .inl f2_22)), (q13, .inr (3, fs1_12)), (q8, .inr (6, fs7_4))] := hD
  refine lv_aload_n hx hb dX11_give_53 rfl (lv_at hl 1 rfl) ?_
  refine gt_X11 hx hb hts hown hK hP 4 rfl 7 (by decide) wd_680 rfl hf_fs0_7 dX11_give_54 ?_
  refine lv_aload_n hx hb dX11_give_57 rfl (lv_at hl 1 rfl) ?_
  refine gt_X11 hx hb hts hown hK hP 4 rfl 5 (by decide) wd_678 rfl hf_fs0_5 dX11_give_58 ?_
  refine lv_aload_n hx hb dX11_give_61 rfl (lv_at hl 1 rfl) ?_
  refine gt_X11 hx hb hts hown hK hP 4 rfl 6 (by decide) wd_679 rfl hf_fs0_6 dX11_give_62 ?_
  refine lv_iload_n hx hb dX11_give_65 rfl (lv_at hl 0 rfl) ?_
  refine lv_aload_n hx hb dX11_give_66 rfl (lv_at hl 1 rfl) ?_
  refine gt_X11 hx hb hts hown hK hP 4 rfl 13 (by decide) wd_686 rfl hf_fs0_13 dX11_give_67 ?_
  refine cl_v (wr := [(q11, .inr (1, fs11)), (q14, .inr (9, fs14)), (q15, .inr (4, fs15)), (q17, .inl (cI, 10, .inl f17)), (h0, .inr (11, fs0)), (q9, .inr (7, fs9)), (q1, .inl (cI, 250, .inl g1_5)), (q2, .inl (cI, 10, .inl g2_6)), (q3, .inl (cI, 25, .inl g3_13)), (q4, .inl (cI, 40, .inl g4_14)), (q16, .inl (cI, 10, .inl f2_22))]) (rn_V (As := [.ref q8, .ref q12, .int 23, .ref q16]) (rest := []) hx hb hml hown hts (c_X3_addDay l D cI cJ cZ q13 q8 q12 q16 fs1_12 fs7_4 23 h_15 h_16 h_7 h_8 _) ⟨rfl, rfl⟩ sv_X11_265 ⟨(Nat.le_of_ble_eq_true rfl), (Nat.le_of_ble_eq_true rfl)⟩ ⟨(Nat.le_of_ble_eq_true rfl), (Nat.le_of_ble_eq_true rfl)⟩ (fun _ _ _ _ h => h) (fun _ _ _ => trivial) hK hP hD [11, 12] rfl rfl 0 3 rfl rfl rfl rfl hl.1 rfl (Nat.le_of_ble_eq_true rfl) dX11_give_70) hP hD hS hA [11, 12] [0, 1, 2, 3, 4, 5, 6, 7, 8, 9, 10] rfl rfl rfl (by decide) (fun w_159 H locs hw_158 hP hD hS => ?_)
  subst hw_158
  have hP : va_P D vwCl [(q11, .inr (1, fs11)), (q14, .inr (9, fs14)), (q15, .inr (4, fs15)), (q17, .inl (cI, 10, .inl f17)), (h0, .inr (11, fs0)), (q9, .inr (7, fs9)), (q1, .inl (cI, 250, .inl g1_5)), (q2, .inl (cI, 10, .inl g2_6)), (q3, .inl (cI, 25, .inl g3_13)), (q4, .inl (cI, 40, .inl g4_14)), (q16, .inl (cI, 10, .inl f2_22)), (q13, .inr (3, fs1_12)), (q8, .inr (6, fs7_4))] H := hP
  have hD : va_D A [(q11, .inr (1, fs11)), (q14, .inr (9, fs14)), (q15, .inr (4, fs15)), (q17, .inl (cI, 10, .inl f17)), (h0, .inr (11, fs0)), (q9, .inr (7, fs9)), (q1, .inl (cI, 250, .inl g1_5)), (q2, .inl (cI, 10, .inl g2_6)), (q3, .inl (cI, 25, .inl g3_13)), (q4, .inl (cI, 40, .inl g4_14)), (q16, .inl (cI, 10, .inl f2_22)), (q13, .inr (3, fs1_12)), (q8, .inr (6, fs7_4))] := hD
  refine lv_iinc (v := 24) (lv' := [(1, .int 24), (0, .ref h0)]) hx hb dX11_give_73 hl (k := 0) rfl (by decide) (by decide) rfl (fun ls hl => ?_)
  refine lv_goto (tgt := 28) hx hb dX11_give_76 (by decide) ?_
  refine lv_iload_n hx hb dX11_give_28 rfl (lv_at hl 0 rfl) ?_
  refine lv_bipush (v := 24) hx hb dX11_give_29 (by decide) ?_
  refine lv_icmp_gt (tgt := 79) hx hb dX11_give_31 (by decide) (fun h => absurd h (by decide)) (fun _ => ?_)
  refine lv_aload_n hx hb dX11_give_34 rfl (lv_at hl 1 rfl) ?_
  refine gt_X11 hx hb hts hown hK hP 4 rfl 5 (by decide) wd_678 rfl hf_fs0_5 dX11_give_35 ?_
  refine lv_aload_n hx hb dX11_give_38 rfl (lv_at hl 1 rfl) ?_
  refine gt_X11 hx hb hts hown hK hP 4 rfl 13 (by decide) wd_686 rfl hf_fs0_13 dX11_give_39 ?_
  refine lv_iload_n hx hb dX11_give_42 rfl (lv_at hl 0 rfl) ?_
  refine lv_aload_n hx hb dX11_give_43 rfl (lv_at hl 1 rfl) ?_
  refine gt_X11 hx hb hts hown hK hP 4 rfl 0 (by decide) wd_673 rfl hf_fs0_0 dX11_give_44 ?_
  refine gt_X1 hx hb hts hown hK hP 0 rfl 0 (by decide) wd_39 rfl hf_fs11_0 dX11_give_47 ?_
  refine cl_v (wr := [(q11, .inr (1, fs11)), (q14, .inr (9, fs14)), (q15, .inr (4, fs15)), (q17, .inl (cI, 10, .inl f17)), (h0, .inr (11, fs0)), (q9, .inr (7, fs9)), (q1, .inl (cI, 250, .inl g1_5)), (q2, .inl (cI, 10, .inl g2_6)), (q3, .inl (cI, 25, .inl g3_13)), (q4, .inl (cI, 40, .inl g4_14)), (q16, .inl (cI, 10, .inl f2_22)), (q13, .inr (3, fs1_12))]) (rn_V (As := [.ref q16, .int 24, .int 0]) (rest := []) hx hb hml hown hts (c_X6_addCome l D cI cJ cZ q8 q16 fs7_4 24 h_7 _) ⟨rfl, rfl⟩ sv_X11_261 ⟨(Nat.le_of_ble_eq_true rfl), (Nat.le_of_ble_eq_true rfl)⟩ ⟨(Nat.le_of_ble_eq_true rfl), (Nat.le_of_ble_eq_true rfl)⟩ (fun _ _ _ _ h => h) (fun _ _ _ => trivial) hK hP hD [12] rfl rfl 0 6 rfl rfl rfl rfl hl.1 rfl (Nat.le_of_ble_eq_true rfl) dX11_give_50) hP hD hS hA [12] [0, 1, 2, 3, 4, 5, 6, 7, 8, 9, 10, 11] rfl rfl rfl (by decide) (fun w_162 H locs hw_161 hP hD hS => ?_)
  subst hw_161
  have hP : va_P D vwCl [(q11, .inr (1, fs11)), (q14, .inr (9, fs14)), (q15, .inr (4, fs15)), (q17, .inl (cI, 10, .inl f17)), (h0, .inr (11, fs0)), (q9, .inr (7, fs9)), (q1, .inl (cI, 250, .inl g1_5)), (q2, .inl (cI, 10, .inl g2_6)), (q3, .inl (cI, 25, .inl g3_13)), (q4, .inl (cI, 40, .inl g4_14)), (q16, .inl (cI, 10, .inl f2_22)), (q13, .inr (3, fs1_12)), (q8, .inr (6, fs7_4))] H := hP
  have hD : va_D A [(q11, .inr (1, fs11)), (q14, .inr (9, fs14)), (q15, .inr (4, fs15)), (q17, .inl (cI, 10, .inl f17)), (h0, .inr (11, fs0)), (q9, .inr (7, fs9)), (q1, .inl (cI, 250, .inl g1_5)), (q2, .inl (cI, 10, .inl g2_6)), (q3, .inl (cI, 25, .inl g3_13)), (q4, .inl (cI, 40, .inl g4_14)), (q16, .inl (cI, 10, .inl f2_22)), (q13, .inr (3, fs1_12)), (q8, .inr (6, fs7_4))] := hD
  refine lv_aload_n hx hb dX11_give_53 rfl (lv_at hl 1 rfl) ?_
  refine gt_X11 hx hb hts hown hK hP 4 rfl 7 (by decide) wd_680 rfl hf_fs0_7 dX11_give_54 ?_
  refine lv_aload_n hx hb dX11_give_57 rfl (lv_at hl 1 rfl) ?_
  refine gt_X11 hx hb hts hown hK hP 4 rfl 5 (by decide) wd_678 rfl hf_fs0_5 dX11_give_58 ?_
  refine lv_aload_n hx hb dX11_give_61 rfl (lv_at hl 1 rfl) ?_
  refine gt_X11 hx hb hts hown hK hP 4 rfl 6 (by decide) wd_679 rfl hf_fs0_6 dX11_give_62 ?_
  refine lv_iload_n hx hb dX11_give_65 rfl (lv_at hl 0 rfl) ?_
  refine lv_aload_n hx hb dX11_give_66 rfl (lv_at hl 1 rfl) ?_
  refine gt_X11 hx hb hts hown hK hP 4 rfl 13 (by decide) wd_686 rfl hf_fs0_13 dX11_give_67 ?_
  refine cl_v (wr := [(q11, .inr (1, fs11)), (q14, .inr (9, fs14)), (q15, .inr (4, fs15)), (q17, .inl (cI, 10, .inl f17)), (h0, .inr (11, fs0)), (q9, .inr (7, fs9)), (q1, .inl (cI, 250, .inl g1_5)), (q2, .inl (cI, 10, .inl g2_6)), (q3, .inl (cI, 25, .inl g3_13)), (q4, .inl (cI, 40, .inl g4_14)), (q16, .inl (cI, 10, .inl f2_22))]) (rn_V (As := [.ref q8, .ref q12, .int 24, .ref q16]) (rest := []) hx hb hml hown hts (c_X3_addDay l D cI cJ cZ q13 q8 q12 q16 fs1_12 fs7_4 24 h_15 h_16 h_7 h_8 _) ⟨rfl, rfl⟩ sv_X11_265 ⟨(Nat.le_of_ble_eq_true rfl), (Nat.le_of_ble_eq_true rfl)⟩ ⟨(Nat.le_of_ble_eq_true rfl), (Nat.le_of_ble_eq_true rfl)⟩ (fun _ _ _ _ h => h) (fun _ _ _ => trivial) hK hP hD [11, 12] rfl rfl 0 3 rfl rfl rfl rfl hl.1 rfl (Nat.le_of_ble_eq_true rfl) dX11_give_70) hP hD hS hA [11, 12] [0, 1, 2, 3, 4, 5, 6, 7, 8, 9, 10] rfl rfl rfl (by decide) (fun w_165 H locs hw_164 hP hD hS => ?_)
  subst hw_164
  have hP : va_P D vwCl [(q11, .inr (1, fs11)), (q14, .inr (9, fs14)), (q15, .inr (4, fs15)), (q17, .inl (cI, 10, .inl f17)), (h0, .inr (11, fs0)), (q9, .inr (7, fs9)), (q1, .inl (cI, 250, .inl g1_5)), (q2, .inl (cI, 10, .inl g2_6)), (q3, .inl (cI, 25, .inl g3_13)), (q4, .inl (cI, 40, .inl g4_14)), (q16, .inl (cI, 10, .inl f2_22)), (q13, .inr (3, fs1_12)), (q8, .inr (6, fs7_4))] H := hP
  have hD : va_D A [(q11, .inr (1, fs11)), (q14, .inr (9, fs14)), (q15, .inr (4, fs15)), (q17, .inl (cI, 10, .inl f17)), (h0, .inr (11, fs0)), (q9, .inr (7, fs9)), (q1, .inl (cI, 250, .inl g1_5)), (q2, .inl (cI, 10, .inl g2_6)), (q3, .inl (cI, 25, .inl g3_13)), (q4, .inl (cI, 40, .inl g4_14)), (q16, .inl (cI, 10, .inl f2_22)), (q13, .inr (3, fs1_12)), (q8, .inr (6, fs7_4))] := hD
  refine lv_iinc (v := 25) (lv' := [(1, .int 25), (0, .ref h0)]) hx hb dX11_give_73 hl (k := 0) rfl (by decide) (by decide) rfl (fun ls hl => ?_)
  refine lv_goto (tgt := 28) hx hb dX11_give_76 (by decide) ?_
  refine lv_iload_n hx hb dX11_give_28 rfl (lv_at hl 0 rfl) ?_
  refine lv_bipush (v := 24) hx hb dX11_give_29 (by decide) ?_
  refine lv_icmp_gt (tgt := 79) hx hb dX11_give_31 (by decide) (fun _ => ?_) (fun h => (h (by decide)).elim)
  refine lv_aload_n hx hb dX11_give_79 rfl (lv_at hl 1 rfl) ?_
  refine gt_X11 hx hb hts hown hK hP 4 rfl 9 (by decide) wd_682 rfl hf_fs0_9 dX11_give_80 ?_
  refine cl_v (wr := [(q11, .inr (1, fs11)), (q15, .inr (4, fs15)), (q17, .inl (cI, 10, .inl f17)), (h0, .inr (11, fs0)), (q9, .inr (7, fs9)), (q1, .inl (cI, 250, .inl g1_5)), (q2, .inl (cI, 10, .inl g2_6)), (q3, .inl (cI, 25, .inl g3_13)), (q4, .inl (cI, 40, .inl g4_14)), (q16, .inl (cI, 10, .inl f2_22)), (q8, .inr (6, fs7_4))]) (rn_V (As := []) (rest := []) hx hb hml hown hts (c_X9_deal l D cI cJ cZ q14 q13 fs14 fs1_12 hl_fs14 hf_fs14_0 h_15 h_16 _) ⟨rfl, rfl⟩ sv_X11_269 ⟨(Nat.le_of_ble_eq_true rfl), (Nat.le_of_ble_eq_true rfl)⟩ ⟨(Nat.le_of_ble_eq_true rfl), (Nat.le_of_ble_eq_true rfl)⟩ (fun _ _ _ _ h => h) (fun _ _ _ => trivial) hK hP hD [1, 11] rfl rfl 0 9 rfl rfl rfl rfl hl.1 rfl (Nat.le_of_ble_eq_true rfl) dX11_give_83) hP hD hS hA [1, 11] [0, 2, 3, 4, 5, 6, 7, 8, 9, 10, 12] rfl rfl rfl (by decide) (fun w_168 H locs hw_167 hP hD hS => ?_)
  subst hw_167
  have hP : va_P D vwCl [(q11, .inr (1, fs11)), (q15, .inr (4, fs15)), (q17, .inl (cI, 10, .inl f17)), (h0, .inr (11, fs0)), (q9, .inr (7, fs9)), (q1, .inl (cI, 250, .inl g1_5)), (q2, .inl (cI, 10, .inl g2_6)), (q3, .inl (cI, 25, .inl g3_13)), (q4, .inl (cI, 40, .inl g4_14)), (q16, .inl (cI, 10, .inl f2_22)), (q8, .inr (6, fs7_4)), (q14, .inr (9, fs14)), (q13, .inr (3, fs1_12))] H := hP
  have hD : va_D A [(q11, .inr (1, fs11)), (q15, .inr (4, fs15)), (q17, .inl (cI, 10, .inl f17)), (h0, .inr (11, fs0)), (q9, .inr (7, fs9)), (q1, .inl (cI, 250, .inl g1_5)), (q2, .inl (cI, 10, .inl g2_6)), (q3, .inl (cI, 25, .inl g3_13)), (q4, .inl (cI, 40, .inl g4_14)), (q16, .inl (cI, 10, .inl f2_22)), (q8, .inr (6, fs7_4)), (q14, .inr (9, fs14)), (q13, .inr (3, fs1_12))] := hD
  refine lv_aload_n hx hb dX11_give_86 rfl (lv_at hl 1 rfl) ?_
  refine gt_X11 hx hb hts hown hK hP 3 rfl 10 (by decide) wd_683 rfl hf_fs0_10 dX11_give_87 ?_
  refine lv_aload_n hx hb dX11_give_90 rfl (lv_at hl 1 rfl) ?_
  refine gt_X11 hx hb hts hown hK hP 3 rfl 0 (by decide) wd_673 rfl hf_fs0_0 dX11_give_91 ?_
  refine lv_aload_n hx hb dX11_give_94 rfl (lv_at hl 1 rfl) ?_
  refine gt_X11 hx hb hts hown hK hP 3 rfl 5 (by decide) wd_678 rfl hf_fs0_5 dX11_give_95 ?_
  refine lv_aload_n hx hb dX11_give_98 rfl (lv_at hl 1 rfl) ?_
  refine gt_X11 hx hb hts hown hK hP 3 rfl 6 (by decide) wd_679 rfl hf_fs0_6 dX11_give_99 ?_
  refine lv_aload_n hx hb dX11_give_102 rfl (lv_at hl 1 rfl) ?_
  refine gt_X11 hx hb hts hown hK hP 3 rfl 7 (by decide) wd_680 rfl hf_fs0_7 dX11_give_103 ?_
  refine lv_aload_n hx hb dX11_give_106 rfl (lv_at hl 1 rfl) ?_
  refine gt_X11 hx hb hts hown hK hP 3 rfl 13 (by decide) wd_686 rfl hf_fs0_13 dX11_give_107 ?_
  refine cl_i (wr := [(q11, .inr (1, fs11)), (h0, .inr (11, fs0)), (q9, .inr (7, fs9)), (q1, .inl (cI, 250, .inl g1_5)), (q2, .inl (cI, 10, .inl g2_6)), (q3, .inl (cI, 25, .inl g3_13)), (q4, .inl (cI, 40, .inl g4_14)), (q14, .inr (9, fs14)), (q13, .inr (3, fs1_12))]) (rn_V (As := [.ref q11, .ref q8, .ref q12, .ref q13, .ref q16]) (rest := []) hx hb hml hown hts (c_X4_keep l D cI cJ cZ q15 q8 q16 q17 q11 q12 q13 fs15 fs7_4 f2_22 f17 hl_fs15 hf_fs15_9 h_7 h_8 _) ⟨rfl, rfl⟩ sv_X11_272 ⟨(Nat.le_of_ble_eq_true rfl), (Nat.le_of_ble_eq_true rfl)⟩ ⟨(Nat.le_of_ble_eq_true rfl), (Nat.le_of_ble_eq_true rfl)⟩ (fun _ _ _ _ h => h) (fun _ _ _ => trivial) hK hP hD [1, 10, 9, 2] rfl rfl 0 4 rfl rfl rfl rfl hl.1 rfl (Nat.le_of_ble_eq_true rfl) dX11_give_110) hP hD hS hA [1, 10, 9, 2] [0, 3, 4, 5, 6, 7, 8, 11, 12] rfl rfl rfl (by decide) (fun r_172 w_171 H locs hw_170 hP hD hS => ?_)
  obtain ⟨fs2_173, g3_174, rfl, h_175, hr_176⟩ := hw_170
  have hP : va_P D vwCl [(q11, .inr (1, fs11)), (h0, .inr (11, fs0)), (q9, .inr (7, fs9)), (q1, .inl (cI, 250, .inl g1_5)), (q2, .inl (cI, 10, .inl g2_6)), (q3, .inl (cI, 25, .inl g3_13)), (q4, .inl (cI, 40, .inl g4_14)), (q14, .inr (9, fs14)), (q13, .inr (3, fs1_12)), (q15, .inr (4, fs2_173)), (q8, .inr (6, fs7_4)), (q16, .inl (cI, 10, .inl f2_22)), (q17, .inl (cI, 10, .inl g3_174))] H := hP
  have hD : va_D A [(q11, .inr (1, fs11)), (h0, .inr (11, fs0)), (q9, .inr (7, fs9)), (q1, .inl (cI, 250, .inl g1_5)), (q2, .inl (cI, 10, .inl g2_6)), (q3, .inl (cI, 25, .inl g3_13)), (q4, .inl (cI, 40, .inl g4_14)), (q14, .inr (9, fs14)), (q13, .inr (3, fs1_12)), (q15, .inr (4, fs2_173)), (q8, .inr (6, fs7_4)), (q16, .inl (cI, 10, .inl f2_22)), (q17, .inl (cI, 10, .inl g3_174))] := hD
  refine tov (v := 0) hr_176 ?_
  exact fin_i hx hb hr hlk hK hP hD hS dX11_give_113 (rfl)
set_option maxRecDepth 100000 in
set_option maxHeartbeats 16000000 in
theorem c_X11_blind (l : Launch) (D : va_G) (cI cJ cZ : ClassId) (h0 q11 q8 q9 q1 q2 q13 q3 q4 q16 q12 : Nat) (fs0 fs11 fs8 fs9 fs13 : List Value) (f1 : Nat → Int32) (f2 : Nat → Int32) (f3 : Nat → Int32) (f4 : Nat → Int32) (f16 : Nat → Int32) (hl_fs0 : fs0.length = 14) (hf_fs0_0 : fs0[0]? = some (.ref q11)) (hf_fs0_6 : fs0[6]? = some (.ref q12)) (hf_fs0_7 : fs0[7]? = some (.ref q13)) (hf_fs0_13 : fs0[13]? = some (.ref q16)) (hf_fs0_5 : fs0[5]? = some (.ref q8)) (hf_fs0_4 : fs0[4]? = some (.ref q9)) (hf_fs0_12 : fs0[12]? = some (.int (-1))) (hl_fs11 : fs11.length = 20) (hf_fs11_0 : fs11[0]? = some (.int 0)) (hl_fs8 : fs8.length = 16) (hf_fs8_0 : fs8[0]? = some (.int (-1))) (hf_fs8_1 : fs8[1]? = some (.int 0)) (hf_fs8_14 : fs8[14]? = some (.ref q1)) (hf_fs8_15 : fs8[15]? = some (.ref q2)) (hl_fs9 : fs9.length = 8) (hf_fs9_0 : fs9[0]? = some (.int 0)) (hl_fs13 : fs13.length = 12) (hf_fs13_4 : fs13[4]? = some (.ref q3)) (hf_fs13_5 : fs13[5]? = some (.ref q4)) : Con_i l yX11_blind cX11_blind 3 (some .int) ({ frames := 4, cells := 0, slots := 0, locals := 87 }) D cI cJ cZ eT [.ref h0] [(h0, .inr (11, fs0)), (q11, .inr (1, fs11)), (q8, .inr (6, fs8)), (q9, .inr (7, fs9)), (q1, .inl (cI, 250, .inl f1)), (q2, .inl (cI, 10, .inl f2)), (q13, .inr (3, fs13)), (q3, .inl (cI, 25, .inl f3)), (q4, .inl (cI, 40, .inl f4)), (q16, .inl (cI, 10, .inl f16))] (fun r _ => r = 0) := by
  refine ent_i (by decide) (Nat.le_of_ble_eq_true rfl) ?_
  intro p e s m below meth c A hx hb hml hown hts hr hlk hnm hK hE hA hP hD hS ls hl
  have hown : s.vm.findClass RX11 = some m.cls := hown
  have hl : lv_has ls 3 [(0, .ref h0)] := hl
  refine lv_aload_n hx hb dX11_blind_0 rfl (lv_at hl 0 rfl) ?_
  refine cl_v (wr := [(q11, .inr (1, fs11)), (q13, .inr (3, fs13)), (q3, .inl (cI, 25, .inl f3)), (q4, .inl (cI, 40, .inl f4)), (q16, .inl (cI, 10, .inl f16))]) (rn_V (As := []) (rest := []) hx hb hml hown hts (c_X11_weighAll l D cI cJ cZ h0 q8 q9 q1 q2 fs0 fs8 fs9 f1 f2 hl_fs0 hf_fs0_5 hf_fs0_4 hf_fs0_12 hl_fs8 hf_fs8_0 hf_fs8_1 hf_fs8_14 hf_fs8_15 hl_fs9 hf_fs9_0 _) ⟨rfl, rfl⟩ sv_X11_249 ⟨(Nat.le_of_ble_eq_true rfl), (Nat.le_of_ble_eq_true rfl)⟩ ⟨(Nat.le_of_ble_eq_true rfl), (Nat.le_of_ble_eq_true rfl)⟩ (fun _ _ _ _ h => h) (fun _ _ _ => trivial) hK hP hD [0, 2, 3, 4, 5] rfl rfl 0 11 rfl rfl rfl rfl hl.1 rfl (Nat.le_of_ble_eq_true rfl) dX11_blind_1) hP hD hS hA [0, 2, 3, 4, 5] [1, 6, 7, 8, 9] rfl rfl rfl (by decide) (fun w_2 H locs hw_1 hP hD hS => ?_)
  obtain ⟨fs7_4, g1_5, g2_6, rfl, h_7, h_8⟩ := hw_1
  have hP : va_P D vwCl [(q11, .inr (1, fs11)), (q13, .inr (3, fs13)), (q3, .inl (cI, 25, .inl f3)), (q4, .inl (cI, 40, .inl f4)), (q16, .inl (cI, 10, .inl f16)), (h0, .inr (11, fs0)), (q8, .inr (6, fs7_4)), (q9, .inr (7, fs9)), (q1, .inl (cI, 250, .inl g1_5)), (q2, .inl (cI, 10, .inl g2_6))] H := hP
  have hD : va_D A [(q11, .inr (1, fs11)), (q13, .inr (3, fs13)), (q3, .inl (cI, 25, .inl f3)), (q4, .inl (cI, 40, .inl f4)), (q16, .inl (cI, 10, .inl f16)), (h0, .inr (11, fs0)), (q8, .inr (6, fs7_4)), (q9, .inr (7, fs9)), (q1, .inl (cI, 250, .inl g1_5)), (q2, .inl (cI, 10, .inl g2_6))] := hD
  refine lv_aload_n hx hb dX11_blind_4 rfl (lv_at hl 0 rfl) ?_
  refine gt_X11 hx hb hts hown hK hP 5 rfl 13 (by decide) wd_686 rfl hf_fs0_13 dX11_blind_5 ?_
  refine lv_iconst (v := 0) hx hb dX11_blind_8 (by decide) ?_
  refine cl_v (wr := [(q11, .inr (1, fs11)), (q13, .inr (3, fs13)), (q3, .inl (cI, 25, .inl f3)), (q4, .inl (cI, 40, .inl f4)), (h0, .inr (11, fs0)), (q8, .inr (6, fs7_4)), (q9, .inr (7, fs9)), (q1, .inl (cI, 250, .inl g1_5)), (q2, .inl (cI, 10, .inl g2_6))]) (rn_S (As := [.ref q16, .int 0]) (rest := []) hx hb hml hown hts (c_fill_10 l D cI cJ cZ q16 f16 0 _) ⟨rfl, rfl⟩ sv_X11_255 ⟨(Nat.le_of_ble_eq_true rfl), (Nat.le_of_ble_eq_true rfl)⟩ ⟨(Nat.le_of_ble_eq_true rfl), (Nat.le_of_ble_eq_true rfl)⟩ (fun _ _ _ _ h => h) (fun _ _ _ => trivial) hK hP hD [4] rfl rfl rfl hl.1 rfl (Nat.le_of_ble_eq_true rfl) dX11_blind_9) hP hD hS hA [4] [0, 1, 2, 3, 5, 6, 7, 8, 9] rfl rfl rfl (by decide) (fun w_10 H locs hw_9 hP hD hS => ?_)
  obtain ⟨f2_12, rfl⟩ := hw_9
  have hP : va_P D vwCl [(q11, .inr (1, fs11)), (q13, .inr (3, fs13)), (q3, .inl (cI, 25, .inl f3)), (q4, .inl (cI, 40, .inl f4)), (h0, .inr (11, fs0)), (q8, .inr (6, fs7_4)), (q9, .inr (7, fs9)), (q1, .inl (cI, 250, .inl g1_5)), (q2, .inl (cI, 10, .inl g2_6)), (q16, .inl (cI, 10, .inl f2_12))] H := hP
  have hD : va_D A [(q11, .inr (1, fs11)), (q13, .inr (3, fs13)), (q3, .inl (cI, 25, .inl f3)), (q4, .inl (cI, 40, .inl f4)), (h0, .inr (11, fs0)), (q8, .inr (6, fs7_4)), (q9, .inr (7, fs9)), (q1, .inl (cI, 250, .inl g1_5)), (q2, .inl (cI, 10, .inl g2_6)), (q16, .inl (cI, 10, .inl f2_12))] := hD
  refine lv_iconst (v := 0) hx hb dX11_blind_12 (by decide) ?_
  refine lv_istore_n (lv' := [(1, .int 0), (0, .ref h0)]) hx hb dX11_blind_13 rfl hl (by decide) rfl (fun ls hl => ?_)
  refine lv_iconst (v := 1) hx hb dX11_blind_14 (by decide) ?_
  refine lv_istore_n (lv' := [(2, .int 1), (1, .int 0), (0, .ref h0)]) hx hb dX11_blind_15 rfl hl (by decide) rfl (fun ls hl => ?_)
  refine lv_iload_n hx hb dX11_blind_16 rfl (lv_at hl 0 rfl) ?_
  refine lv_bipush (v := 24) hx hb dX11_blind_17 (by decide) ?_
  refine lv_icmp_gt (tgt := 112) hx hb dX11_blind_19 (by decide) (fun h => absurd h (by decide)) (fun _ => ?_)
  refine lv_aload_n hx hb dX11_blind_22 rfl (lv_at hl 2 rfl) ?_
  refine gt_X11 hx hb hts hown hK hP 4 rfl 5 (by decide) wd_678 rfl hf_fs0_5 dX11_blind_23 ?_
  refine lv_aload_n hx hb dX11_blind_26 rfl (lv_at hl 2 rfl) ?_
  refine gt_X11 hx hb hts hown hK hP 4 rfl 13 (by decide) wd_686 rfl hf_fs0_13 dX11_blind_27 ?_
  refine lv_iload_n hx hb dX11_blind_30 rfl (lv_at hl 0 rfl) ?_
  refine lv_aload_n hx hb dX11_blind_31 rfl (lv_at hl 2 rfl) ?_
  refine gt_X11 hx hb hts hown hK hP 4 rfl 0 (by decide) wd_673 rfl hf_fs0_0 dX11_blind_32 ?_
  refine gt_X1 hx hb hts hown hK hP 0 rfl 0 (by decide) wd_39 rfl hf_fs11_0 dX11_blind_35 ?_
  refine cl_v (wr := [(q11, .inr (1, fs11)), (q13, .inr (3, fs13)), (q3, .inl (cI, 25, .inl f3)), (q4, .inl (cI, 40, .inl f4)), (h0, .inr (11, fs0)), (q9, .inr (7, fs9)), (q1, .inl (cI, 250, .inl g1_5)), (q2, .inl (cI, 10, .inl g2_6)), (q16, .inl (cI, 10, .inl f2_12))]) (rn_V (As := [.ref q16, .int 1, .int 0]) (rest := []) hx hb hml hown hts (c_X6_addCome l D cI cJ cZ q8 q16 fs7_4 1 h_7 _) ⟨rfl, rfl⟩ sv_X11_261 ⟨(Nat.le_of_ble_eq_true rfl), (Nat.le_of_ble_eq_true rfl)⟩ ⟨(Nat.le_of_ble_eq_true rfl), (Nat.le_of_ble_eq_true rfl)⟩ (fun _ _ _ _ h => h) (fun _ _ _ => trivial) hK hP hD [5] rfl rfl 0 6 rfl rfl rfl rfl hl.1 rfl (Nat.le_of_ble_eq_true rfl) dX11_blind_38) hP hD hS hA [5] [0, 1, 2, 3, 4, 6, 7, 8, 9] rfl rfl rfl (by decide) (fun w_14 H locs hw_13 hP hD hS => ?_)
  subst hw_13
  have hP : va_P D vwCl [(q11, .inr (1, fs11)), (q13, .inr (3, fs13)), (q3, .inl (cI, 25, .inl f3)), (q4, .inl (cI, 40, .inl f4)), (h0, .inr (11, fs0)), (q9, .inr (7, fs9)), (q1, .inl (cI, 250, .inl g1_5)), (q2, .inl (cI, 10, .inl g2_6)), (q16, .inl (cI, 10, .inl f2_12)), (q8, .inr (6, fs7_4))] H := hP
  have hD : va_D A [(q11, .inr (1, fs11)), (q13, .inr (3, fs13)), (q3, .inl (cI, 25, .inl f3)), (q4, .inl (cI, 40, .inl f4)), (h0, .inr (11, fs0)), (q9, .inr (7, fs9)), (q1, .inl (cI, 250, .inl g1_5)), (q2, .inl (cI, 10, .inl g2_6)), (q16, .inl (cI, 10, .inl f2_12)), (q8, .inr (6, fs7_4))] := hD
  refine lv_aload_n hx hb dX11_blind_41 rfl (lv_at hl 2 rfl) ?_
  refine gt_X11 hx hb hts hown hK hP 4 rfl 7 (by decide) wd_680 rfl hf_fs0_7 dX11_blind_42 ?_
  refine lv_aload_n hx hb dX11_blind_45 rfl (lv_at hl 2 rfl) ?_
  refine gt_X11 hx hb hts hown hK hP 4 rfl 0 (by decide) wd_673 rfl hf_fs0_0 dX11_blind_46 ?_
  refine gt_X1 hx hb hts hown hK hP 0 rfl 0 (by decide) wd_39 rfl hf_fs11_0 dX11_blind_49 ?_
  refine cl_v (wr := [(q11, .inr (1, fs11)), (h0, .inr (11, fs0)), (q9, .inr (7, fs9)), (q1, .inl (cI, 250, .inl g1_5)), (q2, .inl (cI, 10, .inl g2_6)), (q16, .inl (cI, 10, .inl f2_12)), (q8, .inr (6, fs7_4))]) (rn_V (As := [.int 0]) (rest := []) hx hb hml hown hts (c_X3_clear l D cI cJ cZ q13 q3 q4 fs13 f3 f4 hl_fs13 hf_fs13_4 hf_fs13_5 _) ⟨rfl, rfl⟩ sv_X11_252 ⟨(Nat.le_of_ble_eq_true rfl), (Nat.le_of_ble_eq_true rfl)⟩ ⟨(Nat.le_of_ble_eq_true rfl), (Nat.le_of_ble_eq_true rfl)⟩ (fun _ _ _ _ h => h) (fun _ _ _ => trivial) hK hP hD [1, 2, 3] rfl rfl 0 3 rfl rfl rfl rfl hl.1 rfl (Nat.le_of_ble_eq_true rfl) dX11_blind_52) hP hD hS hA [1, 2, 3] [0, 4, 5, 6, 7, 8, 9] rfl rfl rfl (by decide) (fun w_17 H locs hw_16 hP hD hS => ?_)
  obtain ⟨fs1_19, g3_20, g4_21, rfl, h_22, h_23, h_24, h_25⟩ := hw_16
  have hP : va_P D vwCl [(q11, .inr (1, fs11)), (h0, .inr (11, fs0)), (q9, .inr (7, fs9)), (q1, .inl (cI, 250, .inl g1_5)), (q2, .inl (cI, 10, .inl g2_6)), (q16, .inl (cI, 10, .inl f2_12)), (q8, .inr (6, fs7_4)), (q13, .inr (3, fs1_19)), (q3, .inl (cI, 25, .inl g3_20)), (q4, .inl (cI, 40, .inl g4_21))] H := hP
  have hD : va_D A [(q11, .inr (1, fs11)), (h0, .inr (11, fs0)), (q9, .inr (7, fs9)), (q1, .inl (cI, 250, .inl g1_5)), (q2, .inl (cI, 10, .inl g2_6)), (q16, .inl (cI, 10, .inl f2_12)), (q8, .inr (6, fs7_4)), (q13, .inr (3, fs1_19)), (q3, .inl (cI, 25, .inl g3_20)), (q4, .inl (cI, 40, .inl g4_21))] := hD
  refine lv_aload_n hx hb dX11_blind_55 rfl (lv_at hl 2 rfl) ?_
  refine gt_X11 hx hb hts hown hK hP 1 rfl 7 (by decide) wd_680 rfl hf_fs0_7 dX11_blind_56 ?_
  refine lv_aload_n hx hb dX11_blind_59 rfl (lv_at hl 2 rfl) ?_
  refine gt_X11 hx hb hts hown hK hP 1 rfl 5 (by decide) wd_678 rfl hf_fs0_5 dX11_blind_60 ?_
  refine lv_aload_n hx hb dX11_blind_63 rfl (lv_at hl 2 rfl) ?_
  refine gt_X11 hx hb hts hown hK hP 1 rfl 6 (by decide) wd_679 rfl hf_fs0_6 dX11_blind_64 ?_
  refine lv_iload_n hx hb dX11_blind_67 rfl (lv_at hl 0 rfl) ?_
  refine lv_aload_n hx hb dX11_blind_68 rfl (lv_at hl 2 rfl) ?_
  refine gt_X11 hx hb hts hown hK hP 1 rfl 13 (by decide) wd_686 rfl hf_fs0_13 dX11_blind_69 ?_
  refine cl_v (wr := [(q11, .inr (1, fs11)), (h0, .inr (11, fs0)), (q9, .inr (7, fs9)), (q1, .inl (cI, 250, .inl g1_5)), (q2, .inl (cI, 10, .inl g2_6)), (q16, .inl (cI, 10, .inl f2_12)), (q3, .inl (cI, 25, .inl g3_20)), (q4, .inl (cI, 40, .inl g4_21))]) (rn_V (As := [.ref q8, .ref q12, .int 1, .ref q16]) (rest := []) hx hb hml hown hts (c_X3_addDay l D cI cJ cZ q13 q8 q12 q16 fs1_19 fs7_4 1 h_22 h_23 h_7 h_8 _) ⟨rfl, rfl⟩ sv_X11_265 ⟨(Nat.le_of_ble_eq_true rfl), (Nat.le_of_ble_eq_true rfl)⟩ ⟨(Nat.le_of_ble_eq_true rfl), (Nat.le_of_ble_eq_true rfl)⟩ (fun _ _ _ _ h => h) (fun _ _ _ => trivial) hK hP hD [7, 6] rfl rfl 0 3 rfl rfl rfl rfl hl.1 rfl (Nat.le_of_ble_eq_true rfl) dX11_blind_72) hP hD hS hA [7, 6] [0, 1, 2, 3, 4, 5, 8, 9] rfl rfl rfl (by decide) (fun w_27 H locs hw_26 hP hD hS => ?_)
  subst hw_26
  have hP : va_P D vwCl [(q11, .inr (1, fs11)), (h0, .inr (11, fs0)), (q9, .inr (7, fs9)), (q1, .inl (cI, 250, .inl g1_5)), (q2, .inl (cI, 10, .inl g2_6)), (q16, .inl (cI, 10, .inl f2_12)), (q3, .inl (cI, 25, .inl g3_20)), (q4, .inl (cI, 40, .inl g4_21)), (q13, .inr (3, fs1_19)), (q8, .inr (6, fs7_4))] H := hP
  have hD : va_D A [(q11, .inr (1, fs11)), (h0, .inr (11, fs0)), (q9, .inr (7, fs9)), (q1, .inl (cI, 250, .inl g1_5)), (q2, .inl (cI, 10, .inl g2_6)), (q16, .inl (cI, 10, .inl f2_12)), (q3, .inl (cI, 25, .inl g3_20)), (q4, .inl (cI, 40, .inl g4_21)), (q13, .inr (3, fs1_19)), (q8, .inr (6, fs7_4))] := hD
  refine lv_aload_n hx hb dX11_blind_75 rfl (lv_at hl 2 rfl) ?_
  refine gt_X11 hx hb hts hown hK hP 1 rfl 7 (by decide) wd_680 rfl hf_fs0_7 dX11_blind_76 ?_
  refine gt_X3 hx hb hts hown hK hP 8 rfl 1 (by decide) wd_406 rfl h_23 dX11_blind_79 ?_
  refine lv_if_le (tgt := 106) hx hb dX11_blind_82 (by decide) (fun _ => ?_) (fun h => (h (by decide)).elim)
  refine lv_iinc (v := 2) (lv' := [(2, .int 2), (1, .int 0), (0, .ref h0)]) hx hb dX11_blind_106 hl (k := 0) rfl (by decide) (by decide) rfl (fun ls hl => ?_)
  refine lv_goto (tgt := 16) hx hb dX11_blind_109 (by decide) ?_
  refine lv_iload_n hx hb dX11_blind_16 rfl (lv_at hl 0 rfl) ?_
  refine lv_bipush (v := 24) hx hb dX11_blind_17 (by decide) ?_
  refine lv_icmp_gt (tgt := 112) hx hb dX11_blind_19 (by decide) (fun h => absurd h (by decide)) (fun _ => ?_)
  refine lv_aload_n hx hb dX11_blind_22 rfl (lv_at hl 2 rfl) ?_
  refine gt_X11 hx hb hts hown hK hP 1 rfl 5 (by decide) wd_678 rfl hf_fs0_5 dX11_blind_23 ?_
  refine lv_aload_n hx hb dX11_blind_26 rfl (lv_at hl 2 rfl) ?_
  refine gt_X11 hx hb hts hown hK hP 1 rfl 13 (by decide) wd_686 rfl hf_fs0_13 dX11_blind_27 ?_
  refine lv_iload_n hx hb dX11_blind_30 rfl (lv_at hl 0 rfl) ?_
  refine lv_aload_n hx hb dX11_blind_31 rfl (lv_at hl 2 rfl) ?_
  refine gt_X11 hx hb hts hown hK hP 1 rfl 0 (by decide) wd_673 rfl hf_fs0_0 dX11_blind_32 ?_
  refine gt_X1 hx hb hts hown hK hP 0 rfl 0 (by decide) wd_39 rfl hf_fs11_0 dX11_blind_35 ?_
  refine cl_v (wr := [(q11, .inr (1, fs11)), (h0, .inr (11, fs0)), (q9, .inr (7, fs9)), (q1, .inl (cI, 250, .inl g1_5)), (q2, .inl (cI, 10, .inl g2_6)), (q16, .inl (cI, 10, .inl f2_12)), (q3, .inl (cI, 25, .inl g3_20)), (q4, .inl (cI, 40, .inl g4_21)), (q13, .inr (3, fs1_19))]) (rn_V (As := [.ref q16, .int 2, .int 0]) (rest := []) hx hb hml hown hts (c_X6_addCome l D cI cJ cZ q8 q16 fs7_4 2 h_7 _) ⟨rfl, rfl⟩ sv_X11_261 ⟨(Nat.le_of_ble_eq_true rfl), (Nat.le_of_ble_eq_true rfl)⟩ ⟨(Nat.le_of_ble_eq_true rfl), (Nat.le_of_ble_eq_true rfl)⟩ (fun _ _ _ _ h => h) (fun _ _ _ => trivial) hK hP hD [9] rfl rfl 0 6 rfl rfl rfl rfl hl.1 rfl (Nat.le_of_ble_eq_true rfl) dX11_blind_38) hP hD hS hA [9] [0, 1, 2, 3, 4, 5, 6, 7, 8] rfl rfl rfl (by decide) (fun w_30 H locs hw_29 hP hD hS => ?_)
  subst hw_29
  have hP : va_P D vwCl [(q11, .inr (1, fs11)), (h0, .inr (11, fs0)), (q9, .inr (7, fs9)), (q1, .inl (cI, 250, .inl g1_5)), (q2, .inl (cI, 10, .inl g2_6)), (q16, .inl (cI, 10, .inl f2_12)), (q3, .inl (cI, 25, .inl g3_20)), (q4, .inl (cI, 40, .inl g4_21)), (q13, .inr (3, fs1_19)), (q8, .inr (6, fs7_4))] H := hP
  have hD : va_D A [(q11, .inr (1, fs11)), (h0, .inr (11, fs0)), (q9, .inr (7, fs9)), (q1, .inl (cI, 250, .inl g1_5)), (q2, .inl (cI, 10, .inl g2_6)), (q16, .inl (cI, 10, .inl f2_12)), (q3, .inl (cI, 25, .inl g3_20)), (q4, .inl (cI, 40, .inl g4_21)), (q13, .inr (3, fs1_19)), (q8, .inr (6, fs7_4))] := hD
  refine lv_aload_n hx hb dX11_blind_41 rfl (lv_at hl 2 rfl) ?_
  refine gt_X11 hx hb hts hown hK hP 1 rfl 7 (by decide) wd_680 rfl hf_fs0_7 dX11_blind_42 ?_
  refine lv_aload_n hx hb dX11_blind_45 rfl (lv_at hl 2 rfl) ?_
  refine gt_X11 hx hb hts hown hK hP 1 rfl 0 (by decide) wd_673 rfl hf_fs0_0 dX11_blind_46 ?_
  refine gt_X1 hx hb hts hown hK hP 0 rfl 0 (by decide) wd_39 rfl hf_fs11_0 dX11_blind_49 ?_
  refine cl_v (wr := [(q11, .inr (1, fs11)), (h0, .inr (11, fs0)), (q9, .inr (7, fs9)), (q1, .inl (cI, 250, .inl g1_5)), (q2, .inl (cI, 10, .inl g2_6)), (q16, .inl (cI, 10, .inl f2_12)), (q8, .inr (6, fs7_4))]) (rn_V (As := [.int 0]) (rest := []) hx hb hml hown hts (c_X3_clear l D cI cJ cZ q13 q3 q4 fs1_19 g3_20 g4_21 h_22 h_24 h_25 _) ⟨rfl, rfl⟩ sv_X11_252 ⟨(Nat.le_of_ble_eq_true rfl), (Nat.le_of_ble_eq_true rfl)⟩ ⟨(Nat.le_of_ble_eq_true rfl), (Nat.le_of_ble_eq_true rfl)⟩ (fun _ _ _ _ h => h) (fun _ _ _ => trivial) hK hP hD [8, 6, 7] rfl rfl 0 3 rfl rfl rfl rfl hl.1 rfl (Nat.le_of_ble_eq_true rfl) dX11_blind_52) hP hD hS hA [8, 6, 7] [0, 1, 2, 3, 4, 5, 9] rfl rfl rfl (by decide) (fun w_33 H locs hw_32 hP hD hS => ?_)
  obtain ⟨fs1_35, g3_36, g4_37, rfl, h_38, h_39, h_40, h_41⟩ := hw_32
  have hP : va_P D vwCl [(q11, .inr (1, fs11)), (h0, .inr (11, fs0)), (q9, .inr (7, fs9)), (q1, .inl (cI, 250, .inl g1_5)), (q2, .inl (cI, 10, .inl g2_6)), (q16, .inl (cI, 10, .inl f2_12)), (q8, .inr (6, fs7_4)), (q13, .inr (3, fs1_35)), (q3, .inl (cI, 25, .inl g3_36)), (q4, .inl (cI, 40, .inl g4_37))] H := hP
  have hD : va_D A [(q11, .inr (1, fs11)), (h0, .inr (11, fs0)), (q9, .inr (7, fs9)), (q1, .inl (cI, 250, .inl g1_5)), (q2, .inl (cI, 10, .inl g2_6)), (q16, .inl (cI, 10, .inl f2_12)), (q8, .inr (6, fs7_4)), (q13, .inr (3, fs1_35)), (q3, .inl (cI, 25, .inl g3_36)), (q4, .inl (cI, 40, .inl g4_37))] := hD
  refine lv_aload_n hx hb dX11_blind_55 rfl (lv_at hl 2 rfl) ?_
  refine gt_X11 hx hb hts hown hK hP 1 rfl 7 (by decide) wd_680 rfl hf_fs0_7 dX11_blind_56 ?_
  refine lv_aload_n hx hb dX11_blind_59 rfl (lv_at hl 2 rfl) ?_
  refine gt_X11 hx hb hts hown hK hP 1 rfl 5 (by decide) wd_678 rfl hf_fs0_5 dX11_blind_60 ?_
  refine lv_aload_n hx hb dX11_blind_63 rfl (lv_at hl 2 rfl) ?_
  refine gt_X11 hx hb hts hown hK hP 1 rfl 6 (by decide) wd_679 rfl hf_fs0_6 dX11_blind_64 ?_
  refine lv_iload_n hx hb dX11_blind_67 rfl (lv_at hl 0 rfl) ?_
  refine lv_aload_n hx hb dX11_blind_68 rfl (lv_at hl 2 rfl) ?_
  refine gt_X11 hx hb hts hown hK hP 1 rfl 13 (by decide) wd_686 rfl hf_fs0_13 dX11_blind_69 ?_
  refine cl_v (wr := [(q11, .inr (1, fs11)), (h0, .inr (11, fs0)), (q9, .inr (7, fs9)), (q1, .inl (cI, 250, .inl g1_5)), (q2, .inl (cI, 10, .inl g2_6)), (q16, .inl (cI, 10, .inl f2_12)), (q3, .inl (cI, 25, .inl g3_36)), (q4, .inl (cI, 40, .inl g4_37))]) (rn_V (As := [.ref q8, .ref q12, .int 2, .ref q16]) (rest := []) hx hb hml hown hts (c_X3_addDay l D cI cJ cZ q13 q8 q12 q16 fs1_35 fs7_4 2 h_38 h_39 h_7 h_8 _) ⟨rfl, rfl⟩ sv_X11_265 ⟨(Nat.le_of_ble_eq_true rfl), (Nat.le_of_ble_eq_true rfl)⟩ ⟨(Nat.le_of_ble_eq_true rfl), (Nat.le_of_ble_eq_true rfl)⟩ (fun _ _ _ _ h => h) (fun _ _ _ => trivial) hK hP hD [7, 6] rfl rfl 0 3 rfl rfl rfl rfl hl.1 rfl (Nat.le_of_ble_eq_true rfl) dX11_blind_72) hP hD hS hA [7, 6] [0, 1, 2, 3, 4, 5, 8, 9] rfl rfl rfl (by decide) (fun w_43 H locs hw_42 hP hD hS => ?_)
  subst hw_42
  have hP : va_P D vwCl [(q11, .inr (1, fs11)), (h0, .inr (11, fs0)), (q9, .inr (7, fs9)), (q1, .inl (cI, 250, .inl g1_5)), (q2, .inl (cI, 10, .inl g2_6)), (q16, .inl (cI, 10, .inl f2_12)), (q3, .inl (cI, 25, .inl g3_36)), (q4, .inl (cI, 40, .inl g4_37)), (q13, .inr (3, fs1_35)), (q8, .inr (6, fs7_4))] H := hP
  have hD : va_D A [(q11, .inr (1, fs11)), (h0, .inr (11, fs0)), (q9, .inr (7, fs9)), (q1, .inl (cI, 250, .inl g1_5)), (q2, .inl (cI, 10, .inl g2_6)), (q16, .inl (cI, 10, .inl f2_12)), (q3, .inl (cI, 25, .inl g3_36)), (q4, .inl (cI, 40, .inl g4_37)), (q13, .inr (3, fs1_35)), (q8, .inr (6, fs7_4))] := hD
  refine lv_aload_n hx hb dX11_blind_75 rfl (lv_at hl 2 rfl) ?_
  refine gt_X11 hx hb hts hown hK hP 1 rfl 7 (by decide) wd_680 rfl hf_fs0_7 dX11_blind_76 ?_
  refine gt_X3 hx hb hts hown hK hP 8 rfl 1 (by decide) wd_406 rfl h_39 dX11_blind_79 ?_
  refine lv_if_le (tgt := 106) hx hb dX11_blind_82 (by decide) (fun _ => ?_) (fun h => (h (by decide)).elim)
  refine lv_iinc (v := 3) (lv' := [(2, .int 3), (1, .int 0), (0, .ref h0)]) hx hb dX11_blind_106 hl (k := 0) rfl (by decide) (by decide) rfl (fun ls hl => ?_)
  refine lv_goto (tgt := 16) hx hb dX11_blind_109 (by decide) ?_
  refine lv_iload_n hx hb dX11_blind_16 rfl (lv_at hl 0 rfl) ?_
  refine lv_bipush (v := 24) hx hb dX11_blind_17 (by decide) ?_
  refine lv_icmp_gt (tgt := 112) hx hb dX11_blind_19 (by decide) (fun h => absurd h (by decide)) (fun _ => ?_)
  refine lv_aload_n hx hb dX11_blind_22 rfl (lv_at hl 2 rfl) ?_
  refine gt_X11 hx hb hts hown hK hP 1 rfl 5 (by decide) wd_678 rfl hf_fs0_5 dX11_blind_23 ?_
  refine lv_aload_n hx hb dX11_blind_26 rfl (lv_at hl 2 rfl) ?_
  refine gt_X11 hx hb hts hown hK hP 1 rfl 13 (by decide) wd_686 rfl hf_fs0_13 dX11_blind_27 ?_
  refine lv_iload_n hx hb dX11_blind_30 rfl (lv_at hl 0 rfl) ?_
  refine lv_aload_n hx hb dX11_blind_31 rfl (lv_at hl 2 rfl) ?_
  refine gt_X11 hx hb hts hown hK hP 1 rfl 0 (by decide) wd_673 rfl hf_fs0_0 dX11_blind_32 ?_
  refine gt_X1 hx hb hts hown hK hP 0 rfl 0 (by decide) wd_39 rfl hf_fs11_0 dX11_blind_35 ?_
  refine cl_v (wr := [(q11, .inr (1, fs11)), (h0, .inr (11, fs0)), (q9, .inr (7, fs9)), (q1, .inl (cI, 250, .inl g1_5)), (q2, .inl (cI, 10, .inl g2_6)), (q16, .inl (cI, 10, .inl f2_12)), (q3, .inl (cI, 25, .inl g3_36)), (q4, .inl (cI, 40, .inl g4_37)), (q13, .inr (3, fs1_35))]) (rn_V (As := [.ref q16, .int 3, .int 0]) (rest := []) hx hb hml hown hts (c_X6_addCome l D cI cJ cZ q8 q16 fs7_4 3 h_7 _) ⟨rfl, rfl⟩ sv_X11_261 ⟨(Nat.le_of_ble_eq_true rfl), (Nat.le_of_ble_eq_true rfl)⟩ ⟨(Nat.le_of_ble_eq_true rfl), (Nat.le_of_ble_eq_true rfl)⟩ (fun _ _ _ _ h => h) (fun _ _ _ => trivial) hK hP hD [9] rfl rfl 0 6 rfl rfl rfl rfl hl.1 rfl (Nat.le_of_ble_eq_true rfl) dX11_blind_38) hP hD hS hA [9] [0, 1, 2, 3, 4, 5, 6, 7, 8] rfl rfl rfl (by decide) (fun w_46 H locs hw_45 hP hD hS => ?_)
  subst hw_45
  have hP : va_P D vwCl [(q11, .inr (1, fs11)), (h0, .inr (11, fs0)), (q9, .inr (7, fs9)), (q1, .inl (cI, 250, .inl g1_5)), (q2, .inl (cI, 10, .inl g2_6)), (q16, .inl (cI, 10, .inl f2_12)), (q3, .inl (cI, 25, .inl g3_36)), (q4, .inl (cI, 40, .inl g4_37)), (q13, .inr (3, fs1_35)), (q8, .inr (6, fs7_4))] H := hP
  have hD : va_D A [(q11, .inr (1, fs11)), (h0, .inr (11, fs0)), (q9, .inr (7, fs9)), (q1, .inl (cI, 250, .inl g1_5)), (q2, .inl (cI, 10, .inl g2_6)), (q16, .inl (cI, 10, .inl f2_12)), (q3, .inl (cI, 25, .inl g3_36)), (q4, .inl (cI, 40, .inl g4_37)), (q13, .inr (3, fs1_35)), (q8, .inr (6, fs7_4))] := hD
  refine lv_aload_n hx hb dX11_blind_41 rfl (lv_at hl 2 rfl) ?_
  refine gt_X11 hx hb hts hown hK hP 1 rfl 7 (by decide) wd_680 rfl hf_fs0_7 dX11_blind_42 ?_
  refine lv_aload_n hx hb dX11_blind_45 rfl (lv_at hl 2 rfl) ?_
  refine gt_X11 hx hb hts hown hK hP 1 rfl 0 (by decide) wd_673 rfl hf_fs0_0 dX11_blind_46 ?_
  refine gt_X1 hx hb hts hown hK hP 0 rfl 0 (by decide) wd_39 rfl hf_fs11_0 dX11_blind_49 ?_
  refine cl_v (wr := [(q11, .inr (1, fs11)), (h0, .inr (11, fs0)), (q9, .inr (7, fs9)), (q1, .inl (cI, 250, .inl g1_5)), (q2, .inl (cI, 10, .inl g2_6)), (q16, .inl (cI, 10, .inl f2_12)), (q8, .inr (6, fs7_4))]) (rn_V (As := [.int 0]) (rest := []) hx hb hml hown hts (c_X3_clear l D cI cJ cZ q13 q3 q4 fs1_35 g3_36 g4_37 h_38 h_40 h_41 _) ⟨rfl, rfl⟩ sv_X11_252 ⟨(Nat.le_of_ble_eq_true rfl), (Nat.le_of_ble_eq_true rfl)⟩ ⟨(Nat.le_of_ble_eq_true rfl), (Nat.le_of_ble_eq_true rfl)⟩ (fun _ _ _ _ h => h) (fun _ _ _ => trivial) hK hP hD [8, 6, 7] rfl rfl 0 3 rfl rfl rfl rfl hl.1 rfl (Nat.le_of_ble_eq_true rfl) dX11_blind_52) hP hD hS hA [8, 6, 7] [0, 1, 2, 3, 4, 5, 9] rfl rfl rfl (by decide) (fun w_49 H locs hw_48 hP hD hS => ?_)
  obtain ⟨fs1_51, g3_52, g4_53, rfl, h_54, h_55, h_56, h_57⟩ := hw_48
  have hP : va_P D vwCl [(q11, .inr (1, fs11)), (h0, .inr (11, fs0)), (q9, .inr (7, fs9)), (q1, .inl (cI, 250, .inl g1_5)), (q2, .inl (cI, 10, .inl g2_6)), (q16, .inl (cI, 10, .inl f2_12)), (q8, .inr (6, fs7_4)), (q13, .inr (3, fs1_51)), (q3, .inl (cI, 25, .inl g3_52)), (q4, .inl (cI, 40, .inl g4_53))] H := hP
  have hD : va_D A [(q11, .inr (1, fs11)), (h0, .inr (11, fs0)), (q9, .inr (7, fs9)), (q1, .inl (cI, 250, .inl g1_5)), (q2, .inl (cI, 10, .inl g2_6)), (q16, .inl (cI, 10, .inl f2_12)), (q8, .inr (6, fs7_4)), (q13, .inr (3, fs1_51)), (q3, .inl (cI, 25, .inl g3_52)), (q4, .inl (cI, 40, .inl g4_53))] := hD
  refine lv_aload_n hx hb dX11_blind_55 rfl (lv_at hl 2 rfl) ?_
  refine gt_X11 hx hb hts hown hK hP 1 rfl 7 (by decide) wd_680 rfl hf_fs0_7 dX11_blind_56 ?_
  refine lv_aload_n hx hb dX11_blind_59 rfl (lv_at hl 2 rfl) ?_
  refine gt_X11 hx hb hts hown hK hP 1 rfl 5 (by decide) wd_678 rfl hf_fs0_5 dX11_blind_60 ?_
  refine lv_aload_n hx hb dX11_blind_63 rfl (lv_at hl 2 rfl) ?_
  refine gt_X11 hx hb hts hown hK hP 1 rfl 6 (by decide) wd_679 rfl hf_fs0_6 dX11_blind_64 ?_
  refine lv_iload_n hx hb dX11_blind_67 rfl (lv_at hl 0 rfl) ?_
  refine lv_aload_n hx hb dX11_blind_68 rfl (lv_at hl 2 rfl) ?_
  refine gt_X11 hx hb hts hown hK hP 1 rfl 13 (by decide) wd_686 rfl hf_fs0_13 dX11_blind_69 ?_
  refine cl_v (wr := [(q11, .inr (1, fs11)), (h0, .inr (11, fs0)), (q9, .inr (7, fs9)), (q1, .inl (cI, 250, .inl g1_5)), (q2, .inl (cI, 10, .inl g2_6)), (q16, .inl (cI, 10, .inl f2_12)), (q3, .inl (cI, 25, .inl g3_52)), (q4, .inl (cI, 40, .inl g4_53))]) (rn_V (As := [.ref q8, .ref q12, .int 3, .ref q16]) (rest := []) hx hb hml hown hts (c_X3_addDay l D cI cJ cZ q13 q8 q12 q16 fs1_51 fs7_4 3 h_54 h_55 h_7 h_8 _) ⟨rfl, rfl⟩ sv_X11_265 ⟨(Nat.le_of_ble_eq_true rfl), (Nat.le_of_ble_eq_true rfl)⟩ ⟨(Nat.le_of_ble_eq_true rfl), (Nat.le_of_ble_eq_true rfl)⟩ (fun _ _ _ _ h => h) (fun _ _ _ => trivial) hK hP hD [7, 6] rfl rfl 0 3 rfl rfl rfl rfl hl.1 rfl (Nat.le_of_ble_eq_true rfl) dX11_blind_72) hP hD hS hA [7, 6] [0, 1, 2, 3, 4, 5, 8, 9] rfl rfl rfl (by decide) (fun w_59 H locs hw_58 hP hD hS => ?_)
  subst hw_58
  have hP : va_P D vwCl [(q11, .inr (1, fs11)), (h0, .inr (11, fs0)), (q9, .inr (7, fs9)), (q1, .inl (cI, 250, .inl g1_5)), (q2, .inl (cI, 10, .inl g2_6)), (q16, .inl (cI, 10, .inl f2_12)), (q3, .inl (cI, 25, .inl g3_52)), (q4, .inl (cI, 40, .inl g4_53)), (q13, .inr (3, fs1_51)), (q8, .inr (6, fs7_4))] H := hP
  have hD : va_D A [(q11, .inr (1, fs11)), (h0, .inr (11, fs0)), (q9, .inr (7, fs9)), (q1, .inl (cI, 250, .inl g1_5)), (q2, .inl (cI, 10, .inl g2_6)), (q16, .inl (cI, 10, .inl f2_12)), (q3, .inl (cI, 25, .inl g3_52)), (q4, .inl (cI, 40, .inl g4_53)), (q13, .inr (3, fs1_51)), (q8, .inr (6, fs7_4))] := hD
  refine lv_aload_n hx hb dX11_blind_75 rfl (lv_at hl 2 rfl) ?_
  refine gt_X11 hx hb hts hown hK hP 1 rfl 7 (by decide) wd_680 rfl hf_fs0_7 dX11_blind_76 ?_
  refine gt_X3 hx hb hts hown hK hP 8 rfl 1 (by decide) wd_406 rfl h_55 dX11_blind_79 ?_
  refine lv_if_le (tgt := 106) hx hb dX11_blind_82 (by decide) (fun _ => ?_) (fun h => (h (by decide)).elim)
  refine lv_iinc (v := 4) (lv' := [(2, .int 4), (1, .int 0), (0, .ref h0)]) hx hb dX11_blind_106 hl (k := 0) rfl (by decide) (by decide) rfl (fun ls hl => ?_)
  refine lv_goto (tgt := 16) hx hb dX11_blind_109 (by decide) ?_
  refine lv_iload_n hx hb dX11_blind_16 rfl (lv_at hl 0 rfl) ?_
  refine lv_bipush (v := 24) hx hb dX11_blind_17 (by decide) ?_
  refine lv_icmp_gt (tgt := 112) hx hb dX11_blind_19 (by decide) (fun h => absurd h (by decide)) (fun _ => ?_)
  refine lv_aload_n hx hb dX11_blind_22 rfl (lv_at hl 2 rfl) ?_
  refine gt_X11 hx hb hts hown hK hP 1 rfl 5 (by decide) wd_678 rfl hf_fs0_5 dX11_blind_23 ?_
  refine lv_aload_n hx hb dX11_blind_26 rfl (lv_at hl 2 rfl) ?_
  refine gt_X11 hx hb hts hown hK hP 1 rfl 13 (by decide) wd_686 rfl hf_fs0_13 dX11_blind_27 ?_
  refine lv_iload_n hx hb dX11_blind_30 rfl (lv_at hl 0 rfl) ?_
  refine lv_aload_n hx hb dX11_blind_31 rfl (lv_at hl 2 rfl) ?_
  refine gt_X11 hx hb hts hown hK hP 1 rfl 0 (by decide) wd_673 rfl hf_fs0_0 dX11_blind_32 ?_
  refine gt_X1 hx hb hts hown hK hP 0 rfl 0 (by decide) wd_39 rfl hf_fs11_0 dX11_blind_35 ?_
  refine cl_v (wr := [(q11, .inr (1, fs11)), (h0, .inr (11, fs0)), (q9, .inr (7, fs9)), (q1, .inl (cI, 250, .inl g1_5)), (q2, .inl (cI, 10, .inl g2_6)), (q16, .inl (cI, 10, .inl f2_12)), (q3, .inl (cI, 25, .inl g3_52)), (q4, .inl (cI, 40, .inl g4_53)), (q13, .inr (3, fs1_51))]) (rn_V (As := [.ref q16, .int 4, .int 0]) (rest := []) hx hb hml hown hts (c_X6_addCome l D cI cJ cZ q8 q16 fs7_4 4 h_7 _) ⟨rfl, rfl⟩ sv_X11_261 ⟨(Nat.le_of_ble_eq_true rfl), (Nat.le_of_ble_eq_true rfl)⟩ ⟨(Nat.le_of_ble_eq_true rfl), (Nat.le_of_ble_eq_true rfl)⟩ (fun _ _ _ _ h => h) (fun _ _ _ => trivial) hK hP hD [9] rfl rfl 0 6 rfl rfl rfl rfl hl.1 rfl (Nat.le_of_ble_eq_true rfl) dX11_blind_38) hP hD hS hA [9] [0, 1, 2, 3, 4, 5, 6, 7, 8] rfl rfl rfl (by decide) (fun w_62 H locs hw_61 hP hD hS => ?_)
  subst hw_61
  have hP : va_P D vwCl [(q11, .inr (1, fs11)), (h0, .inr (11, fs0)), (q9, .inr (7, fs9)), (q1, .inl (cI, 250, .inl g1_5)), (q2, .inl (cI, 10, .inl g2_6)), (q16, .inl (cI, 10, .inl f2_12)), (q3, .inl (cI, 25, .inl g3_52)), (q4, .inl (cI, 40, .inl g4_53)), (q13, .inr (3, fs1_51)), (q8, .inr (6, fs7_4))] H := hP
  have hD : va_D A [(q11, .inr (1, fs11)), (h0, .inr (11, fs0)), (q9, .inr (7, fs9)), (q1, .inl (cI, 250, .inl g1_5)), (q2, .inl (cI, 10, .inl g2_6)), (q16, .inl (cI, 10, .inl f2_12)), (q3, .inl (cI, 25, .inl g3_52)), (q4, .inl (cI, 40, .inl g4_53)), (q13, .inr (3, fs1_51)), (q8, .inr (6, fs7_4))] := hD
  refine lv_aload_n hx hb dX11_blind_41 rfl (lv_at hl 2 rfl) ?_
  refine gt_X11 hx hb hts hown hK hP 1 rfl 7 (by decide) wd_680 rfl hf_fs0_7 dX11_blind_42 ?_
  refine lv_aload_n hx hb dX11_blind_45 rfl (lv_at hl 2 rfl) ?_
  refine gt_X11 hx hb hts hown hK hP 1 rfl 0 (by decide) wd_673 rfl hf_fs0_0 dX11_blind_46 ?_
  refine gt_X1 hx hb hts hown hK hP 0 rfl 0 (by decide) wd_39 rfl hf_fs11_0 dX11_blind_49 ?_
  refine cl_v (wr := [(q11, .inr (1, fs11)), (h0, .inr (11, fs0)), (q9, .inr (7, fs9)), (q1, .inl (cI, 250, .inl g1_5)), (q2, .inl (cI, 10, .inl g2_6)), (q16, .inl (cI, 10, .inl f2_12)), (q8, .inr (6, fs7_4))]) (rn_V (As := [.int 0]) (rest := []) hx hb hml hown hts (c_X3_clear l D cI cJ cZ q13 q3 q4 fs1_51 g3_52 g4_53 h_54 h_56 h_57 _) ⟨rfl, rfl⟩ sv_X11_252 ⟨(Nat.le_of_ble_eq_true rfl), (Nat.le_of_ble_eq_true rfl)⟩ ⟨(Nat.le_of_ble_eq_true rfl), (Nat.le_of_ble_eq_true rfl)⟩ (fun _ _ _ _ h => h) (fun _ _ _ => trivial) hK hP hD [8, 6, 7] rfl rfl 0 3 rfl rfl rfl rfl hl.1 rfl (Nat.le_of_ble_eq_true rfl) dX11_blind_52) hP hD hS hA [8, 6, 7] [0, 1, 2, 3, 4, 5, 9] rfl rfl rfl (by decide) (fun w_65 H locs hw_64 hP hD hS => ?_)
  obtain ⟨fs1_67, g3_68, g4_69, rfl, h_70, h_71, h_72, h_73⟩ := hw_64
  have hP : va_P D vwCl [(q11, .inr (1, fs11)), (h0, .inr (11, fs0)), (q9, .inr (7, fs9)), (q1, .inl (cI, 250, .inl g1_5)), (q2, .inl (cI, 10, .inl g2_6)), (q16, .inl (cI, 10, .inl f2_12)), (q8, .inr (6, fs7_4)), (q13, .inr (3, fs1_67)), (q3, .inl (cI, 25, .inl g3_68)), (q4, .inl (cI, 40, .inl g4_69))] H := hP
  have hD : va_D A [(q11, .inr (1, fs11)), (h0, .inr (11, fs0)), (q9, .inr (7, fs9)), (q1, .inl (cI, 250, .inl g1_5)), (q2, .inl (cI, 10, .inl g2_6)), (q16, .inl (cI, 10, .inl f2_12)), (q8, .inr (6, fs7_4)), (q13, .inr (3, fs1_67)), (q3, .inl (cI, 25, .inl g3_68)), (q4, .inl (cI, 40, .inl g4_69))] := hD
  refine lv_aload_n hx hb dX11_blind_55 rfl (lv_at hl 2 rfl) ?_
  refine gt_X11 hx hb hts hown hK hP 1 rfl 7 (by decide) wd_680 rfl hf_fs0_7 dX11_blind_56 ?_
  refine lv_aload_n hx hb dX11_blind_59 rfl (lv_at hl 2 rfl) ?_
  refine gt_X11 hx hb hts hown hK hP 1 rfl 5 (by decide) wd_678 rfl hf_fs0_5 dX11_blind_60 ?_
  refine lv_aload_n hx hb dX11_blind_63 rfl (lv_at hl 2 rfl) ?_
  refine gt_X11 hx hb hts hown hK hP 1 rfl 6 (by decide) wd_679 rfl hf_fs0_6 dX11_blind_64 ?_
  refine lv_iload_n hx hb dX11_blind_67 rfl (lv_at hl 0 rfl) ?_
  refine lv_aload_n hx hb dX11_blind_68 rfl (lv_at hl 2 rfl) ?_
  refine gt_X11 hx hb hts hown hK hP 1 rfl 13 (by decide) wd_686 rfl hf_fs0_13 dX11_blind_69 ?_
  refine cl_v (wr := [(q11, .inr (1, fs11)), (h0, .inr (11, fs0)), (q9, .inr (7, fs9)), (q1, .inl (cI, 250, .inl g1_5)), (q2, .inl (cI, 10, .inl g2_6)), (q16, .inl (cI, 10, .inl f2_12)), (q3, .inl (cI, 25, .inl g3_68)), (q4, .inl (cI, 40, .inl g4_69))]) (rn_V (As := [.ref q8, .ref q12, .int 4, .ref q16]) (rest := []) hx hb hml hown hts (c_X3_addDay l D cI cJ cZ q13 q8 q12 q16 fs1_67 fs7_4 4 h_70 h_71 h_7 h_8 _) ⟨rfl, rfl⟩ sv_X11_265 ⟨(Nat.le_of_ble_eq_true rfl), (Nat.le_of_ble_eq_true rfl)⟩ ⟨(Nat.le_of_ble_eq_true rfl), (Nat.le_of_ble_eq_true rfl)⟩ (fun _ _ _ _ h => h) (fun _ _ _ => trivial) hK hP hD [7, 6] rfl rfl 0 3 rfl rfl rfl rfl hl.1 rfl (Nat.le_of_ble_eq_true rfl) dX11_blind_72) hP hD hS hA [7, 6] [0, 1, 2, 3, 4, 5, 8, 9] rfl rfl rfl (by decide) (fun w_75 H locs hw_74 hP hD hS => ?_)
  subst hw_74
  have hP : va_P D vwCl [(q11, .inr (1, fs11)), (h0, .inr (11, fs0)), (q9, .inr (7, fs9)), (q1, .inl (cI, 250, .inl g1_5)), (q2, .inl (cI, 10, .inl g2_6)), (q16, .inl (cI, 10, .inl f2_12)), (q3, .inl (cI, 25, .inl g3_68)), (q4, .inl (cI, 40, .inl g4_69)), (q13, .inr (3, fs1_67)), (q8, .inr (6, fs7_4))] H := hP
  have hD : va_D A [(q11, .inr (1, fs11)), (h0, .inr (11, fs0)), (q9, .inr (7, fs9)), (q1, .inl (cI, 250, .inl g1_5)), (q2, .inl (cI, 10, .inl g2_6)), (q16, .inl (cI, 10, .inl f2_12)), (q3, .inl (cI, 25, .inl g3_68)), (q4, .inl (cI, 40, .inl g4_69)), (q13, .inr (3, fs1_67)), (q8, .inr (6, fs7_4))] := hD
  refine lv_aload_n hx hb dX11_blind_75 rfl (lv_at hl 2 rfl) ?_
  refine gt_X11 hx hb hts hown hK hP 1 rfl 7 (by decide) wd_680 rfl hf_fs0_7 dX11_blind_76 ?_
  refine gt_X3 hx hb hts hown hK hP 8 rfl 1 (by decide) wd_406 rfl h_71 dX11_blind_79 ?_
  refine lv_if_le (tgt := 106) hx hb dX11_blind_82 (by decide) (fun _ => ?_) (fun h => (h (by decide)).elim)
  refine lv_iinc (v := 5) (lv' := [(2, .int 5), (1, .int 0), (0, .ref h0)]) hx hb dX11_blind_106 hl (k := 0) rfl (by decide) (by decide) rfl (fun ls hl => ?_)
  refine lv_goto (tgt := 16) hx hb dX11_blind_109 (by decide) ?_
  refine lv_iload_n hx hb dX11_blind_16 rfl (lv_at hl 0 rfl) ?_
  refine lv_bipush (v := 24) hx hb dX11_blind_17 (by decide) ?_
  refine lv_icmp_gt (tgt := 112) hx hb dX11_blind_19 (by decide) (fun h => absurd h (by decide)) (fun _ => ?_)
  refine lv_aload_n hx hb dX11_blind_22 rfl (lv_at hl 2 rfl) ?_
  refine gt_X11 hx hb hts hown hK hP 1 rfl 5 (by decide) wd_678 rfl hf_fs0_5 dX11_blind_23 ?_
  refine lv_aload_n hx hb dX11_blind_26 rfl (lv_at hl 2 rfl) ?_
  refine gt_X11 hx hb hts hown hK hP 1 rfl 13 (by decide) wd_686 rfl hf_fs0_13 dX11_blind_27 ?_
  refine lv_iload_n hx hb dX11_blind_30 rfl (lv_at hl 0 rfl) ?_
  refine lv_aload_n hx hb dX11_blind_31 rfl (lv_at hl 2 rfl) ?_
  refine gt_X11 hx hb hts hown hK hP 1 rfl 0 (by decide) wd_673 rfl hf_fs0_0 dX11_blind_32 ?_
  refine gt_X1 hx hb hts hown hK hP 0 rfl 0 (by decide) wd_39 rfl hf_fs11_0 dX11_blind_35 ?_
  refine cl_v (wr := [(q11, .inr (1, fs11)), (h0, .inr (11, fs0)), (q9, .inr (7, fs9)), (q1, .inl (cI, 250, .inl g1_5)), (q2, .inl (cI, 10, .inl g2_6)), (q16, .inl (cI, 10, .inl f2_12)), (q3, .inl (cI, 25, .inl g3_68)), (q4, .inl (cI, 40, .inl g4_69)), (q13, .inr (3, fs1_67))]) (rn_V (As := [.ref q16, .int 5, .int 0]) (rest := []) hx hb hml hown hts (c_X6_addCome l D cI cJ cZ q8 q16 fs7_4 5 h_7 _) ⟨rfl, rfl⟩ sv_X11_261 ⟨(Nat.le_of_ble_eq_true rfl), (Nat.le_of_ble_eq_true rfl)⟩ ⟨(Nat.le_of_ble_eq_true rfl), (Nat.le_of_ble_eq_true rfl)⟩ (fun _ _ _ _ h => h) (fun _ _ _ => trivial) hK hP hD [9] rfl rfl 0 6 rfl rfl rfl rfl hl.1 rfl (Nat.le_of_ble_eq_true rfl) dX11_blind_38) hP hD hS hA [9] [0, 1, 2, 3, 4, 5, 6, 7, 8] rfl rfl rfl (by decide) (fun w_78 H locs hw_77 hP hD hS => ?_)
  subst hw_77
  have hP : va_P D vwCl [(q11, .inr (1, fs11)), (h0, .inr (11, fs0)), (q9, .inr (7, fs9)), (q1, .inl (cI, 250, .inl g1_5)), (q2, .inl (cI, 10, .inl g2_6)), (q16, .inl (cI, 10, .inl f2_12)), (q3, .inl (cI, 25, .inl g3_68)), (q4, .inl (cI, 40, .inl g4_69)), (q13, .inr (3, fs1_67)), (q8, .inr (6, fs7_4))] H := hP
  have hD : va_D A [(q11, .inr (1, fs11)), (h0, .inr (11, fs0)), (q9, .inr (7, fs9)), (q1, .inl (cI, 250, .inl g1_5)), (q2, .inl (cI, 10, .inl g2_6)), (q16, .inl (cI, 10, .inl f2_12)), (q3, .inl (cI, 25, .inl g3_68)), (q4, .inl (cI, 40, .inl g4_69)), (q13, .inr (3, fs1_67)), (q8, .inr (6, fs7_4))] := hD
  refine lv_aload_n hx hb dX11_blind_41 rfl (lv_at hl 2 rfl) ?_
  refine gt_X11 hx hb hts hown hK hP 1 rfl 7 (by decide) wd_680 rfl hf_fs0_7 dX11_blind_42 ?_
  refine lv_aload_n hx hb dX11_blind_45 rfl (lv_at hl 2 rfl) ?_
  refine gt_X11 hx hb hts hown hK hP 1 rfl 0 (by decide) wd_673 rfl hf_fs0_0 dX11_blind_46 ?_
  refine gt_X1 hx hb hts hown hK hP 0 rfl 0 (by decide) wd_39 rfl hf_fs11_0 dX11_blind_49 ?_
  refine cl_v (wr := [(q11, .inr (1, fs11)), (h0, .inr (11, fs0)), (q9, .inr (7, fs9)), (q1, .inl (cI, 250, .inl g1_5)), (q2, .inl (cI, 10, .inl g2_6)), (q16, .inl (cI, 10, .inl f2_12)), (q8, .inr (6, fs7_4))]) (rn_V (As := [.int 0]) (rest := []) hx hb hml hown hts (c_X3_clear l D cI cJ cZ q13 q3 q4 fs1_67 g3_68 g4_69 h_70 h_72 h_73 _) ⟨rfl, rfl⟩ sv_X11_252 ⟨(Nat.le_of_ble_eq_true rfl), (Nat.le_of_ble_eq_true rfl)⟩ ⟨(Nat.le_of_ble_eq_true rfl), (Nat.le_of_ble_eq_true rfl)⟩ (fun _ _ _ _ h => h) (fun _ _ _ => trivial) hK hP hD [8, 6, 7] rfl rfl 0 3 rfl rfl rfl rfl hl.1 rfl (Nat.le_of_ble_eq_true rfl) dX11_blind_52) hP hD hS hA [8, 6, 7] [0, 1, 2, 3, 4, 5, 9] rfl rfl rfl (by decide) (fun w_81 H locs hw_80 hP hD hS => ?_)
  obtain ⟨fs1_83, g3_84, g4_85, rfl, h_86, h_87, h_88, h_89⟩ := hw_80
  have hP : va_P D vwCl [(q11, .inr (1, fs11)), (h0, .inr (11, fs0)), (q9, .inr (7, fs9)), (q1, .inl (cI, 250, .inl g1_5)), (q2, .inl (cI, 10, .inl g2_6)), (q16, .inl (cI, 10, .inl f2_12)), (q8, .inr (6, fs7_4)), (q13, .inr (3, fs1_83)), (q3, .inl (cI, 25, .inl g3_84)), (q4, .inl (cI, 40, .inl g4_85))] H := hP
  have hD : va_D A [(q11, .inr (1, fs11)), (h0, .inr (11, fs0)), (q9, .inr (7, fs9)), (q1, .inl (cI, 250, .inl g1_5)), (q2, .inl (cI, 10, .inl g2_6)), (q16, .inl (cI, 10, .inl f2_12)), (q8, .inr (6, fs7_4)), (q13, .inr (3, fs1_83)), (q3, .inl (cI, 25, .inl g3_84)), (q4, .inl (cI, 40, .inl g4_85))] := hD
  refine lv_aload_n hx hb dX11_blind_55 rfl (lv_at hl 2 rfl) ?_
  refine gt_X11 hx hb hts hown hK hP 1 rfl 7 (by decide) wd_680 rfl hf_fs0_7 dX11_blind_56 ?_
  refine lv_aload_n hx hb dX11_blind_59 rfl (lv_at hl 2 rfl) ?_
  refine gt_X11 hx hb hts hown hK hP 1 rfl 5 (by decide) wd_678 rfl hf_fs0_5 dX11_blind_60 ?_
  refine lv_aload_n hx hb dX11_blind_63 rfl (lv_at hl 2 rfl) ?_
  refine gt_X11 hx hb hts hown hK hP 1 rfl 6 (by decide) wd_679 rfl hf_fs0_6 dX11_blind_64 ?_
  refine lv_iload_n hx hb dX11_blind_67 rfl (lv_at hl 0 rfl) ?_
  refine lv_aload_n hx hb dX11_blind_68 rfl (lv_at hl 2 rfl) ?_
  refine gt_X11 hx hb hts hown hK hP 1 rfl 13 (by decide) wd_686 rfl hf_fs0_13 dX11_blind_69 ?_
  refine cl_v (wr := [(q11, .inr (1, fs11)), (h0, .inr (11, fs0)), (q9, .inr (7, fs9)), (q1, .inl (cI, 250, .inl g1_5)), (q2, .inl (cI, 10, .inl g2_6)), (q16, .inl (cI, 10, .inl f2_12)), (q3, .inl (cI, 25, .inl g3_84)), (q4, .inl (cI, 40, .inl g4_85))]) (rn_V (As := [.ref q8, .ref q12, .int 5, .ref q16]) (rest := []) hx hb hml hown hts (c_X3_addDay l D cI cJ cZ q13 q8 q12 q16 fs1_83 fs7_4 5 h_86 h_87 h_7 h_8 _) ⟨rfl, rfl⟩ sv_X11_265 ⟨(Nat.le_of_ble_eq_true rfl), (Nat.le_of_ble_eq_true rfl)⟩ ⟨(Nat.le_of_ble_eq_true rfl), (Nat.le_of_ble_eq_true rfl)⟩ (fun _ _ _ _ h => h) (fun _ _ _ => trivial) hK hP hD [7, 6] rfl rfl 0 3 rfl rfl rfl rfl hl.1 rfl (Nat.le_of_ble_eq_true rfl) dX11_blind_72) hP hD hS hA [7, 6] [0, 1, 2, 3, 4, 5, 8, 9] rfl rfl rfl (by decide) (fun w_91 H locs hw_90 hP hD hS => ?_)
  subst hw_90
  have hP : va_P D vwCl [(q11, .inr (1, fs11)), (h0, .inr (11, fs0)), (q9, .inr (7, fs9)), (q1, .inl (cI, 250, .inl g1_5)), (q2, .inl (cI, 10, .inl g2_6)), (q16, .inl (cI, 10, .inl f2_12)), (q3, .inl (cI, 25, .inl g3_84)), (q4, .inl (cI, 40, .inl g4_85)), (q13, .inr (3, fs1_83)), (q8, .inr (6, fs7_4))] H := hP
  have hD : va_D A [(q11, .inr (1, fs11)), (h0, .inr (11, fs0)), (q9, .inr (7, fs9)), (q1, .inl (cI, 250, .inl g1_5)), (q2, .inl (cI, 10, .inl g2_6)), (q16, .inl (cI, 10, .inl f2_12)), (q3, .inl (cI, 25, .inl g3_84)), (q4, .inl (cI, 40, .inl g4_85)), (q13, .inr (3, fs1_83)), (q8, .inr (6, fs7_4))] := hD
  refine lv_aload_n hx hb dX11_blind_75 rfl (lv_at hl 2 rfl) ?_
  refine gt_X11 hx hb hts hown hK hP 1 rfl 7 (by decide) wd_680 rfl hf_fs0_7 dX11_blind_76 ?_
  refine gt_X3 hx hb hts hown hK hP 8 rfl 1 (by decide) wd_406 rfl h_87 dX11_blind_79 ?_
  refine lv_if_le (tgt := 106) hx hb dX11_blind_82 (by decide) (fun _ => ?_) (fun h => (h (by decide)).elim)
  refine lv_iinc (v := 6) (lv' := [(2, .int 6), (1, .int 0), (0, .ref h0)]) hx hb dX11_blind_106 hl (k := 0) rfl (by decide) (by decide) rfl (fun ls hl => ?_)
  refine lv_goto (tgt := 16) hx hb dX11_blind_109 (by decide) ?_
  refine lv_iload_n hx hb dX11_blind_16 rfl (lv_at hl 0 rfl) ?_
  refine lv_bipush (v := 24) hx hb dX11_blind_17 (by decide) ?_
  refine lv_icmp_gt (tgt := 112) hx hb dX11_blind_19 (by decide) (fun h => absurd h (by decide)) (fun _ => ?_)
  refine lv_aload_n hx hb dX11_blind_22 rfl (lv_at hl 2 rfl) ?_
  refine gt_X11 hx hb hts hown hK hP 1 rfl 5 (by decide) wd_678 rfl hf_fs0_5 dX11_blind_23 ?_
  refine lv_aload_n hx hb dX11_blind_26 rfl (lv_at hl 2 rfl) ?_
  refine gt_X11 hx hb hts hown hK hP 1 rfl 13 (by decide) wd_686 rfl hf_fs0_13 dX11_blind_27 ?_
  refine lv_iload_n hx hb dX11_blind_30 rfl (lv_at hl 0 rfl) ?_
  refine lv_aload_n hx hb dX11_blind_31 rfl (lv_at hl 2 rfl) ?_
  refine gt_X11 hx hb hts hown hK hP 1 rfl 0 (by decide) wd_673 rfl hf_fs0_0 dX11_blind_32 ?_
  refine gt_X1 hx hb hts hown hK hP 0 rfl 0 (by decide) wd_39 rfl hf_fs11_0 dX11_blind_35 ?_
  refine cl_v (wr := [(q11, .inr (1, fs11)), (h0, .inr (11, fs0)), (q9, .inr (7, fs9)), (q1, .inl (cI, 250, .inl g1_5)), (q2, .inl (cI, 10, .inl g2_6)), (q16, .inl (cI, 10, .inl f2_12)), (q3, .inl (cI, 25, .inl g3_84)), (q4, .inl (cI, 40, .inl g4_85)), (q13, .inr (3, fs1_83))]) (rn_V (As := [.ref q16, .int 6, .int 0]) (rest := []) hx hb hml hown hts (c_X6_addCome l D cI cJ cZ q8 q16 fs7_4 6 h_7 _) ⟨rfl, rfl⟩ sv_X11_261 ⟨(Nat.le_of_ble_eq_true rfl), (Nat.le_of_ble_eq_true rfl)⟩ ⟨(Nat.le_of_ble_eq_true rfl), (Nat.le_of_ble_eq_true rfl)⟩ (fun _ _ _ _ h => h) (fun _ _ _ => trivial) hK hP hD [9] rfl rfl 0 6 rfl rfl rfl rfl hl.1 rfl (Nat.le_of_ble_eq_true rfl) dX11_blind_38) hP hD hS hA [9] [0, 1, 2, 3, 4, 5, 6, 7, 8] rfl rfl rfl (by decide) (fun w_94 H locs hw_93 hP hD hS => ?_)
  subst hw_93
  have hP : va_P D vwCl [(q11, .inr (1, fs11)), (h0, .inr (11, fs0)), (q9, .inr (7, fs9)), (q1, .inl (cI, 250, .inl g1_5)), (q2, .inl (cI, 10, .inl g2_6)), (q16, .inl (cI, 10, .inl f2_12)), (q3, .inl (cI, 25, .inl g3_84)), (q4, .inl (cI, 40, .inl g4_85)), (q13, .inr (3, fs1_83)), (q8, .inr (6, fs7_4))] H := hP
  have hD : va_D A [(q11, .inr (1, fs11)), (h0, .inr (11, fs0)), (q9, .inr (7, fs9)), (q1, .inl (cI, 250, .inl g1_5)), (q2, .inl (cI, 10, .inl g2_6)), (q16, .inl (cI, 10, .inl f2_12)), (q3, .inl (cI, 25, .inl g3_84)), (q4, .inl (cI, 40, .inl g4_85)), (q13, .inr (3, fs1_83)), (q8, .inr (6, fs7_4))] := hD
  refine lv_aload_n hx hb dX11_blind_41 rfl (lv_at hl 2 rfl) ?_
  refine gt_X11 hx hb hts hown hK hP 1 rfl 7 (by decide) wd_680 rfl hf_fs0_7 dX11_blind_42 ?_
  refine lv_aload_n hx hb dX11_blind_45 rfl (lv_at hl 2 rfl) ?_
  refine gt_X11 hx hb hts hown hK hP 1 rfl 0 (by decide) wd_673 rfl hf_fs0_0 dX11_blind_46 ?_
  refine gt_X1 hx hb hts hown hK hP 0 rfl 0 (by decide) wd_39 rfl hf_fs11_0 dX11_blind_49 ?_
  refine cl_v (wr := [(q11, .inr (1, fs11)), (h0, .inr (11, fs0)), (q9, .inr (7, fs9)), (q1, .inl (cI, 250, .inl g1_5)), (q2, .inl (cI, 10, .inl g2_6)), (q16, .inl (cI, 10, .inl f2_12)), (q8, .inr (6, fs7_4))]) (rn_V (As := [.int 0]) (rest := []) hx hb hml hown hts (c_X3_clear l D cI cJ cZ q13 q3 q4 fs1_83 g3_84 g4_85 h_86 h_88 h_89 _) ⟨rfl, rfl⟩ sv_X11_252 ⟨(Nat.le_of_ble_eq_true rfl), (Nat.le_of_ble_eq_true rfl)⟩ ⟨(Nat.le_of_ble_eq_true rfl), (Nat.le_of_ble_eq_true rfl)⟩ (fun _ _ _ _ h => h) (fun _ _ _ => trivial) hK hP hD [8, 6, 7] rfl rfl 0 3 rfl rfl rfl rfl hl.1 rfl (Nat.le_of_ble_eq_true rfl) dX11_blind_52) hP hD hS hA [8, 6, 7] [0, 1, 2, 3, 4, 5, 9] rfl rfl rfl (by decide) (fun w_97 H locs hw_96 hP hD hS => ?_)
  obtain ⟨fs1_99, g3_100, g4_101, rfl, h_102, h_103, h_104, h_105⟩ := hw_96
  have hP : va_P D vwCl [(q11, .inr (1, fs11)), (h0, .inr (11, fs0)), (q9, .inr (7, fs9)), (q1, .inl (cI, 250, .inl g1_5)), (q2, .inl (cI, 10, .inl g2_6)), (q16, .inl (cI, 10, .inl f2_12)), (q8, .inr (6, fs7_4)), (q13, .inr (3, fs1_99)), (q3, .inl (cI, 25, .inl g3_100)), (q4, .inl (cI, 40, .inl g4_101))] H := hP
  have hD : va_D A [(q11, .inr (1, fs11)), (h0, .inr (11, fs0)), (q9, .inr (7, fs9)), (q1, .inl (cI, 250, .inl g1_5)), (q2, .inl (cI, 10, .inl g2_6)), (q16, .inl (cI, 10, .inl f2_12)), (q8, .inr (6, fs7_4)), (q13, .inr (3, fs1_99)), (q3, .inl (cI, 25, .inl g3_100)), (q4, .inl (cI, 40, .inl g4_101))] := hD
  refine lv_aload_n hx hb dX11_blind_55 rfl (lv_at hl 2 rfl) ?_
  refine gt_X11 hx hb hts hown hK hP 1 rfl 7 (by decide) wd_680 rfl hf_fs0_7 dX11_blind_56 ?_
  refine lv_aload_n hx hb dX11_blind_59 rfl (lv_at hl 2 rfl) ?_
  refine gt_X11 hx hb hts hown hK hP 1 rfl 5 (by decide) wd_678 rfl hf_fs0_5 dX11_blind_60 ?_
  refine lv_aload_n hx hb dX11_blind_63 rfl (lv_at hl 2 rfl) ?_
  refine gt_X11 hx hb hts hown hK hP 1 rfl 6 (by decide) wd_679 rfl hf_fs0_6 dX11_blind_64 ?_
  refine lv_iload_n hx hb dX11_blind_67 rfl (lv_at hl 0 rfl) ?_
  refine lv_aload_n hx hb dX11_blind_68 rfl (lv_at hl 2 rfl) ?_
  refine gt_X11 hx hb hts hown hK hP 1 rfl 13 (by decide) wd_686 rfl hf_fs0_13 dX11_blind_69 ?_
  refine cl_v (wr := [(q11, .inr (1, fs11)), (h0, .inr (11, fs0)), (q9, .inr (7, fs9)), (q1, .inl (cI, 250, .inl g1_5)), (q2, .inl (cI, 10, .inl g2_6)), (q16, .inl (cI, 10, .inl f2_12)), (q3, .inl (cI, 25, .inl g3_100)), (q4, .inl (cI, 40, .inl g4_101))]) (rn_V (As := [.ref q8, .ref q12, .int 6, .ref q16]) (rest := []) hx hb hml hown hts (c_X3_addDay l D cI cJ cZ q13 q8 q12 q16 fs1_99 fs7_4 6 h_102 h_103 h_7 h_8 _) ⟨rfl, rfl⟩ sv_X11_265 ⟨(Nat.le_of_ble_eq_true rfl), (Nat.le_of_ble_eq_true rfl)⟩ ⟨(Nat.le_of_ble_eq_true rfl), (Nat.le_of_ble_eq_true rfl)⟩ (fun _ _ _ _ h => h) (fun _ _ _ => trivial) hK hP hD [7, 6] rfl rfl 0 3 rfl rfl rfl rfl hl.1 rfl (Nat.le_of_ble_eq_true rfl) dX11_blind_72) hP hD hS hA [7, 6] [0, 1, 2, 3, 4, 5, 8, 9] rfl rfl rfl (by decide) (fun w_107 H locs hw_106 hP hD hS => ?_)
  subst hw_106
  have hP : va_P D vwCl [(q11, .inr (1, fs11)), (h0, .inr (11, fs0)), (q9, .inr (7, fs9)), (q1, .inl (cI, 250, .inl g1_5)), (q2, .inl (cI, 10, .inl g2_6)), (q16, .inl (cI, 10, .inl f2_12)), (q3, .inl (cI, 25, .inl g3_100)), (q4, .inl (cI, 40, .inl g4_101)), (q13, .inr (3, fs1_99)), (q8, .inr (6, fs7_4))] H := hP
  have hD : va_D A [(q11, .inr (1, fs11)), (h0, .inr (11, fs0)), (q9, .inr (7, fs9)), (q1, .inl (cI, 250, .inl g1_5)), (q2, .inl (cI, 10, .inl g2_6)), (q16, .inl (cI, 10, .inl f2_12)), (q3, .inl (cI, 25, .inl g3_100)), (q4, .inl (cI, 40, .inl g4_101)), (q13, .inr (3, fs1_99)), (q8, .inr (6, fs7_4))] := hD
  refine lv_aload_n hx hb dX11_blind_75 rfl (lv_at hl 2 rfl) ?_
  refine gt_X11 hx hb hts hown hK hP 1 rfl 7 (by decide) wd_680 rfl hf_fs0_7 dX11_blind_76 ?_
  refine gt_X3 hx hb hts hown hK hP 8 rfl 1 (by decide) wd_406 rfl h_103 dX11_blind_79 ?_
  refine lv_if_le (tgt := 106) hx hb dX11_blind_82 (by decide) (fun _ => ?_) (fun h => (h (by decide)).elim)
  refine lv_iinc (v := 7) (lv' := [(2, .int 7), (1, .int 0), (0, .ref h0)]) hx hb dX11_blind_106 hl (k := 0) rfl (by decide) (by decide) rfl (fun ls hl => ?_)
  refine lv_goto (tgt := 16) hx hb dX11_blind_109 (by decide) ?_
  refine lv_iload_n hx hb dX11_blind_16 rfl (lv_at hl 0 rfl) ?_
  refine lv_bipush (v := 24) hx hb dX11_blind_17 (by decide) ?_
  refine lv_icmp_gt (tgt := 112) hx hb dX11_blind_19 (by decide) (fun h => absurd h (by decide)) (fun _ => ?_)
  refine lv_aload_n hx hb dX11_blind_22 rfl (lv_at hl 2 rfl) ?_
  refine gt_X11 hx hb hts hown hK hP 1 rfl 5 (by decide) wd_678 rfl hf_fs0_5 dX11_blind_23 ?_
  refine lv_aload_n hx hb dX11_blind_26 rfl (lv_at hl 2 rfl) ?_
  refine gt_X11 hx hb hts hown hK hP 1 rfl 13 (by decide) wd_686 rfl hf_fs0_13 dX11_blind_27 ?_
  refine lv_iload_n hx hb dX11_blind_30 rfl (lv_at hl 0 rfl) ?_
  refine lv_aload_n hx hb dX11_blind_31 rfl (lv_at hl 2 rfl) ?_
  refine gt_X11 hx hb hts hown hK hP 1 rfl 0 (by decide) wd_673 rfl hf_fs0_0 dX11_blind_32 ?_
  refine gt_X1 hx hb hts hown hK hP 0 rfl 0 (by decide) wd_39 rfl hf_fs11_0 dX11_blind_35 ?_
  refine cl_v (wr := [(q11, .inr (1, fs11)), (h0, .inr (11, fs0)), (q9, .inr (7, fs9)), (q1, .inl (cI, 250, .inl g1_5)), (q2, .inl (cI, 10, .inl g2_6)), (q16, .inl (cI, 10, .inl f2_12)), (q3, .inl (cI, 25, .inl g3_100)), (q4, .inl (cI, 40, .inl g4_101)), (q13, .inr (3, fs1_99))]) (rn_V (As := [.ref q16, .int 7, .int 0]) (rest := []) hx hb hml hown hts (c_X6_addCome l D cI cJ cZ q8 q16 fs7_4 7 h_7 _) ⟨rfl, rfl⟩ sv_X11_261 ⟨(Nat.le_of_ble_eq_true rfl), (Nat.le_of_ble_eq_true rfl)⟩ ⟨(Nat.le_of_ble_eq_true rfl), (Nat.le_of_ble_eq_true rfl)⟩ (fun _ _ _ _ h => h) (fun _ _ _ => trivial) hK hP hD [9] rfl rfl 0 6 rfl rfl rfl rfl hl.1 rfl (Nat.le_of_ble_eq_true rfl) dX11_blind_38) hP hD hS hA [9] [0, 1, 2, 3, 4, 5, 6, 7, 8] rfl rfl rfl (by decide) (fun w_110 H locs hw_109 hP hD hS => ?_)
  subst hw_109
  have hP : va_P D vwCl [(q11, .inr (1, fs11)), (h0, .inr (11, fs0)), (q9, .inr (7, fs9)), (q1, .inl (cI, 250, .inl g1_5)), (q2, .inl (cI, 10, .inl g2_6)), (q16, .inl (cI, 10, .inl f2_12)), (q3, .inl (cI, 25, .inl g3_100)), (q4, .inl (cI, 40, .inl g4_101)), (q13, .inr (3, fs1_99)), (q8, .inr (6, fs7_4))] H := hP
  have hD : va_D A [(q11, .inr (1, fs11)), (h0, .inr (11, fs0)), (q9, .inr (7, fs9)), (q1, .inl (cI, 250, .inl g1_5)), (q2, .inl (cI, 10, .inl g2_6)), (q16, .inl (cI, 10, .inl f2_12)), (q3, .inl (cI, 25, .inl g3_100)), (q4, .inl (cI, 40, .inl g4_101)), (q13, .inr (3, fs1_99)), (q8, .inr (6, fs7_4))] := hD
  refine lv_aload_n hx hb dX11_blind_41 rfl (lv_at hl 2 rfl) ?_
  refine gt_X11 hx hb hts hown hK hP 1 rfl 7 (by decide) wd_680 rfl hf_fs0_7 dX11_blind_42 ?_
  refine lv_aload_n hx hb dX11_blind_45 rfl (lv_at hl 2 rfl) ?_
  refine gt_X11 hx hb hts hown hK hP 1 rfl 0 (by decide) wd_673 rfl hf_fs0_0 dX11_blind_46 ?_
  refine gt_X1 hx hb hts hown hK hP 0 rfl 0 (by decide) wd_39 rfl hf_fs11_0 dX11_blind_49 ?_
  refine cl_v (wr := [(q11, .inr (1, fs11)), (h0, .inr (11, fs0)), (q9, .inr (7, fs9)), (q1, .inl (cI, 250, .inl g1_5)), (q2, .inl (cI, 10, .inl g2_6)), (q16, .inl (cI, 10, .inl f2_12)), (q8, .inr (6, fs7_4))]) (rn_V (As := [.int 0]) (rest := []) hx hb hml hown hts (c_X3_clear l D cI cJ cZ q13 q3 q4 fs1_99 g3_100 g4_101 h_102 h_104 h_105 _) ⟨rfl, rfl⟩ sv_X11_252 ⟨(Nat.le_of_ble_eq_true rfl), (Nat.le_of_ble_eq_true rfl)⟩ ⟨(Nat.le_of_ble_eq_true rfl), (Nat.le_of_ble_eq_true rfl)⟩ (fun _ _ _ _ h => h) (fun _ _ _ => trivial) hK hP hD [8, 6, 7] rfl rfl 0 3 rfl rfl rfl rfl hl.1 rfl (Nat.le_of_ble_eq_true rfl) dX11_blind_52) hP hD hS hA [8, 6, 7] [0, 1, 2, 3, 4, 5, 9] rfl rfl rfl (by decide) (fun w_113 H locs hw_112 hP hD hS => ?_)
  obtain ⟨fs1_115, g3_116, g4_117, rfl, h_118, h_119, h_120, h_121⟩ := hw_112
  have hP : va_P D vwCl [(q11, .inr (1, fs11)), (h0, .inr (11, fs0)), (q9, .inr (7, fs9)), (q1, .inl (cI, 250, .inl g1_5)), (q2, .inl (cI, 10, .inl g2_6)), (q16, .inl (cI, 10, .inl f2_12)), (q8, .inr (6, fs7_4)), (q13, .inr (3, fs1_115)), (q3, .inl (cI, 25, .inl g3_116)), (q4, .inl (cI, 40, .inl g4_117))] H := hP
  have hD : va_D A [(q11, .inr (1, fs11)), (h0, .inr (11, fs0)), (q9, .inr (7, fs9)), (q1, .inl (cI, 250, .inl g1_5)), (q2, .inl (cI, 10, .inl g2_6)), (q16, .inl (cI, 10, .inl f2_12)), (q8, .inr (6, fs7_4)), (q13, .inr (3, fs1_115)), (q3, .inl (cI, 25, .inl g3_116)), (q4, .inl (cI, 40, .inl g4_117))] := hD
  refine lv_aload_n hx hb dX11_blind_55 rfl (lv_at hl 2 rfl) ?_
  refine gt_X11 hx hb hts hown hK hP 1 rfl 7 (by decide) wd_680 rfl hf_fs0_7 dX11_blind_56 ?_
  refine lv_aload_n hx hb dX11_blind_59 rfl (lv_at hl 2 rfl) ?_
  refine gt_X11 hx hb hts hown hK hP 1 rfl 5 (by decide) wd_678 rfl hf_fs0_5 dX11_blind_60 ?_
  refine lv_aload_n hx hb dX11_blind_63 rfl (lv_at hl 2 rfl) ?_
  refine gt_X11 hx hb hts hown hK hP 1 rfl 6 (by decide) wd_679 rfl hf_fs0_6 dX11_blind_64 ?_
  refine lv_iload_n hx hb dX11_blind_67 rfl (lv_at hl 0 rfl) ?_
  refine lv_aload_n hx hb dX11_blind_68 rfl (lv_at hl 2 rfl) ?_
  refine gt_X11 hx hb hts hown hK hP 1 rfl 13 (by decide) wd_686 rfl hf_fs0_13 dX11_blind_69 ?_
  refine cl_v (wr := [(q11, .inr (1, fs11)), (h0, .inr (11, fs0)), (q9, .inr (7, fs9)), (q1, .inl (cI, 250, .inl g1_5)), (q2, .inl (cI, 10, .inl g2_6)), (q16, .inl (cI, 10, .inl f2_12)), (q3, .inl (cI, 25, .inl g3_116)), (q4, .inl (cI, 40, .inl g4_117))]) (rn_V (As := [.ref q8, .ref q12, .int 7, .ref q16]) (rest := []) hx hb hml hown hts (c_X3_addDay l D cI cJ cZ q13 q8 q12 q16 fs1_115 fs7_4 7 h_118 h_119 h_7 h_8 _) ⟨rfl, rfl⟩ sv_X11_265 ⟨(Nat.le_of_ble_eq_true rfl), (Nat.le_of_ble_eq_true rfl)⟩ ⟨(Nat.le_of_ble_eq_true rfl), (Nat.le_of_ble_eq_true rfl)⟩ (fun _ _ _ _ h => h) (fun _ _ _ => trivial) hK hP hD [7, 6] rfl rfl 0 3 rfl rfl rfl rfl hl.1 rfl (Nat.le_of_ble_eq_true rfl) dX11_blind_72) hP hD hS hA [7, 6] [0, 1, 2, 3, 4, 5, 8, 9] rfl rfl rfl (by decide) (fun w_123 H locs hw_122 hP hD hS => ?_)
  subst hw_122
  have hP : va_P D vwCl [(q11, .inr (1, fs11)), (h0, .inr (11, fs0)), (q9, .inr (7, fs9)), (q1, .inl (cI, 250, .inl g1_5)), (q2, .inl (cI, 10, .inl g2_6)), (q16, .inl (cI, 10, .inl f2_12)), (q3, .inl (cI, 25, .inl g3_116)), (q4, .inl (cI, 40, .inl g4_117)), (q13, .inr (3, fs1_115)), (q8, .inr (6, fs7_4))] H := hP
  have hD : va_D A [(q11, .inr (1, fs11)), (h0, .inr (11, fs0)), (q9, .inr (7, fs9)), (q1, .inl (cI, 250, .inl g1_5)), (q2, .inl (cI, 10, .inl g2_6)), (q16, .inl (cI, 10, .inl f2_12)), (q3, .inl (cI, 25, .inl g3_116)), (q4, .inl (cI, 40, .inl g4_117)), (q13, .inr (3, fs1_115)), (q8, .inr (6, fs7_4))] := hD
  refine lv_aload_n hx hb dX11_blind_75 rfl (lv_at hl 2 rfl) ?_
  refine gt_X11 hx hb hts hown hK hP 1 rfl 7 (by decide) wd_680 rfl hf_fs0_7 dX11_blind_76 ?_
  refine gt_X3 hx hb hts hown hK hP 8 rfl 1 (by decide) wd_406 rfl h_119 dX11_blind_79 ?_
  refine lv_if_le (tgt := 106) hx hb dX11_blind_82 (by decide) (fun _ => ?_) (fun h => (h (by decide)).elim)
  refine lv_iinc (v := 8) (lv' := [(2, .int 8), (1, .int 0), (0, .ref h0)]) hx hb dX11_blind_106 hl (k := 0) rfl (by decide) (by decide) rfl (fun ls hl => ?_)
  refine lv_goto (tgt := 16) hx hb dX11_blind_109 (by decide) ?_
  refine lv_iload_n hx hb dX11_blind_16 rfl (lv_at hl 0 rfl) ?_
  refine lv_bipush (v := 24) hx hb dX11_blind_17 (by decide) ?_
  refine lv_icmp_gt (tgt := 112) hx hb dX11_blind_19 (by decide) (fun h => absurd h (by decide)) (fun _ => ?_)
  refine lv_aload_n hx hb dX11_blind_22 rfl (lv_at hl 2 rfl) ?_
  refine gt_X11 hx hb hts hown hK hP 1 rfl 5 (by decide) wd_678 rfl hf_fs0_5 dX11_blind_23 ?_
  refine lv_aload_n hx hb dX11_blind_26 rfl (lv_at hl 2 rfl) ?_
  refine gt_X11 hx hb hts hown hK hP 1 rfl 13 (by decide) wd_686 rfl hf_fs0_13 dX11_blind_27 ?_
  refine lv_iload_n hx hb dX11_blind_30 rfl (lv_at hl 0 rfl) ?_
  refine lv_aload_n hx hb dX11_blind_31 rfl (lv_at hl 2 rfl) ?_
  refine gt_X11 hx hb hts hown hK hP 1 rfl 0 (by decide) wd_673 rfl hf_fs0_0 dX11_blind_32 ?_
  refine gt_X1 hx hb hts hown hK hP 0 rfl 0 (by decide) wd_39 rfl hf_fs11_0 dX11_blind_35 ?_
  refine cl_v (wr := [(q11, .inr (1, fs11)), (h0, .inr (11, fs0)), (q9, .inr (7, fs9)), (q1, .inl (cI, 250, .inl g1_5)), (q2, .inl (cI, 10, .inl g2_6)), (q16, .inl (cI, 10, .inl f2_12)), (q3, .inl (cI, 25, .inl g3_116)), (q4, .inl (cI, 40, .inl g4_117)), (q13, .inr (3, fs1_115))]) (rn_V (As := [.ref q16, .int 8, .int 0]) (rest := []) hx hb hml hown hts (c_X6_addCome l D cI cJ cZ q8 q16 fs7_4 8 h_7 _) ⟨rfl, rfl⟩ sv_X11_261 ⟨(Nat.le_of_ble_eq_true rfl), (Nat.le_of_ble_eq_true rfl)⟩ ⟨(Nat.le_of_ble_eq_true rfl), (Nat.le_of_ble_eq_true rfl)⟩ (fun _ _ _ _ h => h) (fun _ _ _ => trivial) hK hP hD [9] rfl rfl 0 6 rfl rfl rfl rfl hl.1 rfl (Nat.le_of_ble_eq_true rfl) dX11_blind_38) hP hD hS hA [9] [0, 1, 2, 3, 4, 5, 6, 7, 8] rfl rfl rfl (by decide) (fun w_126 H locs hw_125 hP hD hS => ?_)
  subst hw_125
  have hP : va_P D vwCl [(q11, .inr (1, fs11)), (h0, .inr (11, fs0)), (q9, .inr (7, fs9)), (q1, .inl (cI, 250, .inl g1_5)), (q2, .inl (cI, 10, .inl g2_6)), (q16, .inl (cI, 10, .inl f2_12)), (q3, .inl (cI, 25, .inl g3_116)), (q4, .inl (cI, 40, .inl g4_117)), (q13, .inr (3, fs1_115)), (q8, .inr (6, fs7_4))] H := hP
  have hD : va_D A [(q11, .inr (1, fs11)), (h0, .inr (11, fs0)), (q9, .inr (7, fs9)), (q1, .inl (cI, 250, .inl g1_5)), (q2, .inl (cI, 10, .inl g2_6)), (q16, .inl (cI, 10, .inl f2_12)), (q3, .inl (cI, 25, .inl g3_116)), (q4, .inl (cI, 40, .inl g4_117)), (q13, .inr (3, fs1_115)), (q8, .inr (6, fs7_4))] := hD
  refine lv_aload_n hx hb dX11_blind_41 rfl (lv_at hl 2 rfl) ?_
  refine gt_X11 hx hb hts hown hK hP 1 rfl 7 (by decide) wd_680 rfl hf_fs0_7 dX11_blind_42 ?_
  refine lv_aload_n hx hb dX11_blind_45 rfl (lv_at hl 2 rfl) ?_
  refine gt_X11 hx hb hts hown hK hP 1 rfl 0 (by decide) wd_673 rfl hf_fs0_0 dX11_blind_46 ?_
  refine gt_X1 hx hb hts hown hK hP 0 rfl 0 (by decide) wd_39 rfl hf_fs11_0 dX11_blind_49 ?_
  refine cl_v (wr := [(q11, .inr (1, fs11)), (h0, .inr (11, fs0)), (q9, .inr (7, fs9)), (q1, .inl (cI, 250, .inl g1_5)), (q2, .inl (cI, 10, .inl g2_6)), (q16, .inl (cI, 10, .inl f2_12)), (q8, .inr (6, fs7_4))]) (rn_V (As := [.int 0]) (rest := []) hx hb hml hown hts (c_X3_clear l D cI cJ cZ q13 q3 q4 fs1_115 g3_116 g4_117 h_118 h_120 h_121 _) ⟨rfl, rfl⟩ sv_X11_252 ⟨(Nat.le_of_ble_eq_true rfl), (Nat.le_of_ble_eq_true rfl)⟩ ⟨(Nat.le_of_ble_eq_true rfl), (Nat.le_of_ble_eq_true rfl)⟩ (fun _ _ _ _ h => h) (fun _ _ _ => trivial) hK hP hD [8, 6, 7] rfl rfl 0 3 rfl rfl rfl rfl hl.1 rfl (Nat.le_of_ble_eq_true rfl) dX11_blind_52) hP hD hS hA [8, 6, 7] [0, 1, 2, 3, 4, 5, 9] rfl rfl rfl (by decide) (fun w_129 H locs hw_128 hP hD hS => ?_)
  obtain ⟨fs1_131, g3_132, g4_133, rfl, h_134, h_135, h_136, h_137⟩ := hw_128
  have hP : va_P D vwCl [(q11, .inr (1, fs11)), (h0, .inr (11, fs0)), (q9, .inr (7, fs9)), (q1, .inl (cI, 250, .inl g1_5)), (q2, .inl (cI, 10, .inl g2_6)), (q16, .inl (cI, 10, .inl f2_12)), (q8, .inr (6, fs7_4)), (q13, .inr (3, fs1_131)), (q3, .inl (cI, 25, .inl g3_132)), (q4, .inl (cI, 40, .inl g4_133))] H := hP
  have hD : va_D A [(q11, .inr (1, fs11)), (h0, .inr (11, fs0)), (q9, .inr (7, fs9)), (q1, .inl (cI, 250, .inl g1_5)), (q2, .inl (cI, 10, .inl g2_6)), (q16, .inl (cI, 10, .inl f2_12)), (q8, .inr (6, fs7_4)), (q13, .inr (3, fs1_131)), (q3, .inl (cI, 25, .inl g3_132)), (q4, .inl (cI, 40, .inl g4_133))] := hD
  refine lv_aload_n hx hb dX11_blind_55 rfl (lv_at hl 2 rfl) ?_
  refine gt_X11 hx hb hts hown hK hP 1 rfl 7 (by decide) wd_680 rfl hf_fs0_7 dX11_blind_56 ?_
  refine lv_aload_n hx hb dX11_blind_59 rfl (lv_at hl 2 rfl) ?_
  refine gt_X11 hx hb hts hown hK hP 1 rfl 5 (by decide) wd_678 rfl hf_fs0_5 dX11_blind_60 ?_
  refine lv_aload_n hx hb dX11_blind_63 rfl (lv_at hl 2 rfl) ?_
  refine gt_X11 hx hb hts hown hK hP 1 rfl 6 (by decide) wd_679 rfl hf_fs0_6 dX11_blind_64 ?_
  refine lv_iload_n hx hb dX11_blind_67 rfl (lv_at hl 0 rfl) ?_
  refine lv_aload_n hx hb dX11_blind_68 rfl (lv_at hl 2 rfl) ?_
  refine gt_X11 hx hb hts hown hK hP 1 rfl 13 (by decide) wd_686 rfl hf_fs0_13 dX11_blind_69 ?_
  refine cl_v (wr := [(q11, .inr (1, fs11)), (h0, .inr (11, fs0)), (q9, .inr (7, fs9)), (q1, .inl (cI, 250, .inl g1_5)), (q2, .inl (cI, 10, .inl g2_6)), (q16, .inl (cI, 10, .inl f2_12)), (q3, .inl (cI, 25, .inl g3_132)), (q4, .inl (cI, 40, .inl g4_133))]) (rn_V (As := [.ref q8, .ref q12, .int 8, .ref q16]) (rest := []) hx hb hml hown hts (c_X3_addDay l D cI cJ cZ q13 q8 q12 q16 fs1_131 fs7_4 8 h_134 h_135 h_7 h_8 _) ⟨rfl, rfl⟩ sv_X11_265 ⟨(Nat.le_of_ble_eq_true rfl), (Nat.le_of_ble_eq_true rfl)⟩ ⟨(Nat.le_of_ble_eq_true rfl), (Nat.le_of_ble_eq_true rfl)⟩ (fun _ _ _ _ h => h) (fun _ _ _ => trivial) hK hP hD [7, 6] rfl rfl 0 3 rfl rfl rfl rfl hl.1 rfl (Nat.le_of_ble_eq_true rfl) dX11_blind_72) hP hD hS hA [7, 6] [0, 1, 2, 3, 4, 5, 8, 9] rfl rfl rfl (by decide) (fun w_139 H locs hw_138 hP hD hS => ?_)
  subst hw_138
  have hP : va_P D vwCl [(q11, .inr (1, fs11)), (h0, .inr (11, fs0)), (q9, .inr (7, fs9)), (q1, .inl (cI, 250, .inl g1_5)), (q2, .inl (cI, 10, .inl g2_6)), (q16, .inl (cI, 10, .inl f2_12)), (q3, .inl (cI, 25, .inl g3_132)), (q4, .inl (cI, 40, .inl g4_133)), (q13, .inr (3, fs1_131)), (q8, .inr (6, fs7_4))] H := hP
  have hD : va_D A [(q11, .inr (1, fs11)), (h0, .inr (11, fs0)), (q9, .inr (7, fs9)), (q1, .inl (cI, 250, .inl g1_5)), (q2, .inl (cI, 10, .inl g2_6)), (q16, .inl (cI, 10, .inl f2_12)), (q3, .inl (cI, 25, .inl g3_132)), (q4, .inl (cI, 40, .inl g4_133)), (q13, .inr (3, fs1_131)), (q8, .inr (6, fs7_4))] := hD
  refine lv_aload_n hx hb dX11_blind_75 rfl (lv_at hl 2 rfl) ?_
  refine gt_X11 hx hb hts hown hK hP 1 rfl 7 (by decide) wd_680 rfl hf_fs0_7 dX11_blind_76 ?_
  refine gt_X3 hx hb hts hown hK hP 8 rfl 1 (by decide) wd_406 rfl h_135 dX11_blind_79 ?_
  refine lv_if_le (tgt := 106) hx hb dX11_blind_82 (by decide) (fun _ => ?_) (fun h => (h (by decide)).elim)
  refine lv_iinc (v := 9) (lv' := [(2, .int 9), (1, .int 0), (0, .ref h0)]) hx hb dX11_blind_106 hl (k := 0) rfl (by decide) (by decide) rfl (fun ls hl => ?_)
  refine lv_goto (tgt := 16) hx hb dX11_blind_109 (by decide) ?_
  refine lv_iload_n hx hb dX11_blind_16 rfl (lv_at hl 0 rfl) ?_
  refine lv_bipush (v := 24) hx hb dX11_blind_17 (by decide) ?_
  refine lv_icmp_gt (tgt := 112) hx hb dX11_blind_19 (by decide) (fun h => absurd h (by decide)) (fun _ => ?_)
  refine lv_aload_n hx hb dX11_blind_22 rfl (lv_at hl 2 rfl) ?_
  refine gt_X11 hx hb hts hown hK hP 1 rfl 5 (by decide) wd_678 rfl hf_fs0_5 dX11_blind_23 ?_
  refine lv_aload_n hx hb dX11_blind_26 rfl (lv_at hl 2 rfl) ?_
  refine gt_X11 hx hb hts hown hK hP 1 rfl 13 (by decide) wd_686 rfl hf_fs0_13 dX11_blind_27 ?_
  refine lv_iload_n hx hb dX11_blind_30 rfl (lv_at hl 0 rfl) ?_
  refine lv_aload_n hx hb dX11_blind_31 rfl (lv_at hl 2 rfl) ?_
  refine gt_X11 hx hb hts hown hK hP 1 rfl 0 (by decide) wd_673 rfl hf_fs0_0 dX11_blind_32 ?_
  refine gt_X1 hx hb hts hown hK hP 0 rfl 0 (by decide) wd_39 rfl hf_fs11_0 dX11_blind_35 ?_
  refine cl_v (wr := [(q11, .inr (1, fs11)), (h0, .inr (11, fs0)), (q9, .inr (7, fs9)), (q1, .inl (cI, 250, .inl g1_5)), (q2, .inl (cI, 10, .inl g2_6)), (q16, .inl (cI, 10, .inl f2_12)), (q3, .inl (cI, 25, .inl g3_132)), (q4, .inl (cI, 40, .inl g4_133)), (q13, .inr (3, fs1_131))]) (rn_V (As := [.ref q16, .int 9, .int 0]) (rest := []) hx hb hml hown hts (c_X6_addCome l D cI cJ cZ q8 q16 fs7_4 9 h_7 _) ⟨rfl, rfl⟩ sv_X11_261 ⟨(Nat.le_of_ble_eq_true rfl), (Nat.le_of_ble_eq_true rfl)⟩ ⟨(Nat.le_of_ble_eq_true rfl), (Nat.le_of_ble_eq_true rfl)⟩ (fun _ _ _ _ h => h) (fun _ _ _ => trivial) hK hP hD [9] rfl rfl 0 6 rfl rfl rfl rfl hl.1 rfl (Nat.le_of_ble_eq_true rfl) dX11_blind_38) hP hD hS hA [9] [0, 1, 2, 3, 4, 5, 6, 7, 8] rfl rfl rfl (by decide) (fun w_142 H locs hw_141 hP hD hS => ?_)
  subst hw_141
  have hP : va_P D vwCl [(q11, .inr (1, fs11)), (h0, .inr (11, fs0)), (q9, .inr (7, fs9)), (q1, .inl (cI, 250, .inl g1_5)), (q2, .inl (cI, 10, .inl g2_6)), (q16, .inl (cI, 10, .inl f2_12)), (q3, .inl (cI, 25, .inl g3_132)), (q4, .inl (cI, 40, .inl g4_133)), (q13, .inr (3, fs1_131)), (q8, .inr (6, fs7_4))] H := hP
  have hD : va_D A [(q11, .inr (1, fs11)), (h0, .inr (11, fs0)), (q9, .inr (7, fs9)), (q1, .inl (cI, 250, .inl g1_5)), (q2, .inl (cI, 10, .inl g2_6)), (q16, .inl (cI, 10, .inl f2_12)), (q3, .inl (cI, 25, .inl g3_132)), (q4, .inl (cI, 40, .inl g4_133)), (q13, .inr (3, fs1_131)), (q8, .inr (6, fs7_4))] := hD
  refine lv_aload_n hx hb dX11_blind_41 rfl (lv_at hl 2 rfl) ?_
  refine gt_X11 hx hb hts hown hK hP 1 rfl 7 (by decide) wd_680 rfl hf_fs0_7 dX11_blind_42 ?_
  refine lv_aload_n hx hb dX11_blind_45 rfl (lv_at hl 2 rfl) ?_
  refine gt_X11 hx hb hts hown hK hP 1 rfl 0 (by decide) wd_673 rfl hf_fs0_0 dX11_blind_46 ?_
  refine gt_X1 hx hb hts hown hK hP 0 rfl 0 (by decide) wd_39 rfl hf_fs11_0 dX11_blind_49 ?_
  refine cl_v (wr := [(q11, .inr (1, fs11)), (h0, .inr (11, fs0)), (q9, .inr (7, fs9)), (q1, .inl (cI, 250, .inl g1_5)), (q2, .inl (cI, 10, .inl g2_6)), (q16, .inl (cI, 10, .inl f2_12)), (q8, .inr (6, fs7_4))]) (rn_V (As := [.int 0]) (rest := []) hx hb hml hown hts (c_X3_clear l D cI cJ cZ q13 q3 q4 fs1_131 g3_132 g4_133 h_134 h_136 h_137 _) ⟨rfl, rfl⟩ sv_X11_252 ⟨(Nat.le_of_ble_eq_true rfl), (Nat.le_of_ble_eq_true rfl)⟩ ⟨(Nat.le_of_ble_eq_true rfl), (Nat.le_of_ble_eq_true rfl)⟩ (fun _ _ _ _ h => h) (fun _ _ _ => trivial) hK hP hD [8, 6, 7] rfl rfl 0 3 rfl rfl rfl rfl hl.1 rfl (Nat.le_of_ble_eq_true rfl) dX11_blind_52) hP hD hS hA [8, 6, 7] [0, 1, 2, 3, 4, 5, 9] rfl rfl rfl (by decide) (fun w_145 H locs hw_144 hP hD hS => ?_)
  obtain ⟨fs1_147, g3_148, g4_149, rfl, h_150, h_151, h_152, h_153⟩ := hw_144
  have hP : va_P D vwCl [(q11, .inr (1, fs11)), (h0, .inr (11, fs0)), (q9, .inr (7, fs9)), (q1, .inl (cI, 250, .inl g1_5)), (q2, .inl (cI, 10, .inl g2_6)), (q16, .inl (cI, 10, .inl f2_12)), (q8, .inr (6, fs7_4)), (q13, .inr (3, fs1_147)), (q3, .inl (cI, 25, .inl g3_148)), (q4, .inl (cI, 40, .inl g4_149))] H := hP
  have hD : va_D A [(q11, .inr (1, fs11)), (h0, .inr (11, fs0)), (q9, .inr (7, fs9)), (q1, .inl (cI, 250, .inl g1_5)), (q2, .inl (cI, 10, .inl g2_6)), (q16, .inl (cI, 10, .inl f2_12)), (q8, .inr (6, fs7_4)), (q13, .inr (3, fs1_147)), (q3, .inl (cI, 25, .inl g3_148)), (q4, .inl (cI, 40, .inl g4_149))] := hD
  refine lv_aload_n hx hb dX11_blind_55 rfl (lv_at hl 2 rfl) ?_
  refine gt_X11 hx hb hts hown hK hP 1 rfl 7 (by decide) wd_680 rfl hf_fs0_7 dX11_blind_56 ?_
  refine lv_aload_n hx hb dX11_blind_59 rfl (lv_at hl 2 rfl) ?_
  refine gt_X11 hx hb hts hown hK hP 1 rfl 5 (by decide) wd_678 rfl hf_fs0_5 dX11_blind_60 ?_
  refine lv_aload_n hx hb dX11_blind_63 rfl (lv_at hl 2 rfl) ?_
  refine gt_X11 hx hb hts hown hK hP 1 rfl 6 (by decide) wd_679 rfl hf_fs0_6 dX11_blind_64 ?_
  refine lv_iload_n hx hb dX11_blind_67 rfl (lv_at hl 0 rfl) ?_
  refine lv_aload_n hx hb dX11_blind_68 rfl (lv_at hl 2 rfl) ?_
  refine gt_X11 hx hb hts hown hK hP 1 rfl 13 (by decide) wd_686 rfl hf_fs0_13 dX11_blind_69 ?_
  refine cl_v (wr := [(q11, .inr (1, fs11)), (h0, .inr (11, fs0)), (q9, .inr (7, fs9)), (q1, .inl (cI, 250, .inl g1_5)), (q2, .inl (cI, 10, .inl g2_6)), (q16, .inl (cI, 10, .inl f2_12)), (q3, .inl (cI, 25, .inl g3_148)), (q4, .inl (cI, 40, .inl g4_149))]) (rn_V (As := [.ref q8, .ref q12, .int 9, .ref q16]) (rest := []) hx hb hml hown hts (c_X3_addDay l D cI cJ cZ q13 q8 q12 q16 fs1_147 fs7_4 9 h_150 h_151 h_7 h_8 _) ⟨rfl, rfl⟩ sv_X11_265 ⟨(Nat.le_of_ble_eq_true rfl), (Nat.le_of_ble_eq_true rfl)⟩ ⟨(Nat.le_of_ble_eq_true rfl), (Nat.le_of_ble_eq_true rfl)⟩ (fun _ _ _ _ h => h) (fun _ _ _ => trivial) hK hP hD [7, 6] rfl rfl 0 3 rfl rfl rfl rfl hl.1 rfl (Nat.le_of_ble_eq_true rfl) dX11_blind_72) hP hD hS hA [7, 6] [0, 1, 2, 3, 4, 5, 8, 9] rfl rfl rfl (by decide) (fun w_155 H locs hw_154 hP hD hS => ?_)
  subst hw_154
  have hP : va_P D vwCl [(q11, .inr (1, fs11)), (h0, .inr (11, fs0)), (q9, .inr (7, fs9)), (q1, .inl (cI, 250, .inl g1_5)), (q2, .inl (cI, 10, .inl g2_6)), (q16, .inl (cI, 10, .inl f2_12)), (q3, .inl (cI, 25, .inl g3_148)), (q4, .inl (cI, 40, .inl g4_149)), (q13, .inr (3, fs1_147)), (q8, .inr (6, fs7_4))] H := hP
  have hD : va_D A [(q11, .inr (1, fs11)), (h0, .inr (11, fs0)), (q9, .inr (7, fs9)), (q1, .inl (cI, 250, .inl g1_5)), (q2, .inl (cI, 10, .inl g2_6)), (q16, .inl (cI, 10, .inl f2_12)), (q3, .inl (cI, 25, .inl g3_148)), (q4, .inl (cI, 40, .inl g4_149)), (q13, .inr (3, fs1_147)), (q8, .inr (6, fs7_4))] := hD
  refine lv_aload_n hx hb dX11_blind_75 rfl (lv_at hl 2 rfl) ?_
  refine gt_X11 hx hb hts hown hK hP 1 rfl 7 (by decide) wd_680 rfl hf_fs0_7 dX11_blind_76 ?_
  refine gt_X3 hx hb hts hown hK hP 8 rfl 1 (by decide) wd_406 rfl h_151 dX11_blind_79 ?_
  refine lv_if_le (tgt := 106) hx hb dX11_blind_82 (by decide) (fun _ => ?_) (fun h => (h (by decide)).elim)
  refine lv_iinc (v := 10) (lv' := [(2, .int 10), (1, .int 0), (0, .ref h0)]) hx hb dX11_blind_106 hl (k := 0) rfl (by decide) (by decide) rfl (fun ls hl => ?_)
  refine lv_goto (tgt := 16) hx hb dX11_blind_109 (by decide) ?_
  refine lv_iload_n hx hb dX11_blind_16 rfl (lv_at hl 0 rfl) ?_
  refine lv_bipush (v := 24) hx hb dX11_blind_17 (by decide) ?_
  refine lv_icmp_gt (tgt := 112) hx hb dX11_blind_19 (by decide) (fun h => absurd h (by decide)) (fun _ => ?_)
  refine lv_aload_n hx hb dX11_blind_22 rfl (lv_at hl 2 rfl) ?_
  refine gt_X11 hx hb hts hown hK hP 1 rfl 5 (by decide) wd_678 rfl hf_fs0_5 dX11_blind_23 ?_
  refine lv_aload_n hx hb dX11_blind_26 rfl (lv_at hl 2 rfl) ?_
  refine gt_X11 hx hb hts hown hK hP 1 rfl 13 (by decide) wd_686 rfl hf_fs0_13 dX11_blind_27 ?_
  refine lv_iload_n hx hb dX11_blind_30 rfl (lv_at hl 0 rfl) ?_
  refine lv_aload_n hx hb dX11_blind_31 rfl (lv_at hl 2 rfl) ?_
  refine gt_X11 hx hb hts hown hK hP 1 rfl 0 (by decide) wd_673 rfl hf_fs0_0 dX11_blind_32 ?_
  refine gt_X1 hx hb hts hown hK hP 0 rfl 0 (by decide) wd_39 rfl hf_fs11_0 dX11_blind_35 ?_
  refine cl_v (wr := [(q11, .inr (1, fs11)), (h0, .inr (11, fs0)), (q9, .inr (7, fs9)), (q1, .inl (cI, 250, .inl g1_5)), (q2, .inl (cI, 10, .inl g2_6)), (q16, .inl (cI, 10, .inl f2_12)), (q3, .inl (cI, 25, .inl g3_148)), (q4, .inl (cI, 40, .inl g4_149)), (q13, .inr (3, fs1_147))]) (rn_V (As := [.ref q16, .int 10, .int 0]) (rest := []) hx hb hml hown hts (c_X6_addCome l D cI cJ cZ q8 q16 fs7_4 10 h_7 _) ⟨rfl, rfl⟩ sv_X11_261 ⟨(Nat.le_of_ble_eq_true rfl), (Nat.le_of_ble_eq_true rfl)⟩ ⟨(Nat.le_of_ble_eq_true rfl), (Nat.le_of_ble_eq_true rfl)⟩ (fun _ _ _ _ h => h) (fun _ _ _ => trivial) hK hP hD [9] rfl rfl 0 6 rfl rfl rfl rfl hl.1 rfl (Nat.le_of_ble_eq_true rfl) dX11_blind_38) hP hD hS hA [9] [0, 1, 2, 3, 4, 5, 6, 7, 8] rfl rfl rfl (by decide) (fun w_158 H locs hw_157 hP hD hS => ?_)
  subst hw_157
  have hP : va_P D vwCl [(q11, .inr (1, fs11)), (h0, .inr (11, fs0)), (q9, .inr (7, fs9)), (q1, .inl (cI, 250, .inl g1_5)), (q2, .inl (cI, 10, .inl g2_6)), (q16, .inl (cI, 10, .inl f2_12)), (q3, .inl (cI, 25, .inl g3_148)), (q4, .inl (cI, 40, .inl g4_149)), (q13, .inr (3, fs1_147)), (q8, .inr (6, fs7_4))] H := hP
  have hD : va_D A [(q11, .inr (1, fs11)), (h0, .inr (11, fs0)), (q9, .inr (7, fs9)), (q1, .inl (cI, 250, .inl g1_5)), (q2, .inl (cI, 10, .inl g2_6)), (q16, .inl (cI, 10, .inl f2_12)), (q3, .inl (cI, 25, .inl g3_148)), (q4, .inl (cI, 40, .inl g4_149)), (q13, .inr (3, fs1_147)), (q8, .inr (6, fs7_4))] := hD
  refine lv_aload_n hx hb dX11_blind_41 rfl (lv_at hl 2 rfl) ?_
  refine gt_X11 hx hb hts hown hK hP 1 rfl 7 (by decide) wd_680 rfl hf_fs0_7 dX11_blind_42 ?_
  refine lv_aload_n hx hb dX11_blind_45 rfl (lv_at hl 2 rfl) ?_
  refine gt_X11 hx hb hts hown hK hP 1 rfl 0 (by decide) wd_673 rfl hf_fs0_0 dX11_blind_46 ?_
  refine gt_X1 hx hb hts hown hK hP 0 rfl 0 (by decide) wd_39 rfl hf_fs11_0 dX11_blind_49 ?_
  refine cl_v (wr := [(q11, .inr (1, fs11)), (h0, .inr (11, fs0)), (q9, .inr (7, fs9)), (q1, .inl (cI, 250, .inl g1_5)), (q2, .inl (cI, 10, .inl g2_6)), (q16, .inl (cI, 10, .inl f2_12)), (q8, .inr (6, fs7_4))]) (rn_V (As := [.int 0]) (rest := []) hx hb hml hown hts (c_X3_clear l D cI cJ cZ q13 q3 q4 fs1_147 g3_148 g4_149 h_150 h_152 h_153 _) ⟨rfl, rfl⟩ sv_X11_252 ⟨(Nat.le_of_ble_eq_true rfl), (Nat.le_of_ble_eq_true rfl)⟩ ⟨(Nat.le_of_ble_eq_true rfl), (Nat.le_of_ble_eq_true rfl)⟩ (fun _ _ _ _ h => h) (fun _ _ _ => trivial) hK hP hD [8, 6, 7] rfl rfl 0 3 rfl rfl rfl rfl hl.1 rfl (Nat.le_of_ble_eq_true rfl) dX11_blind_52) hP hD hS hA [8, 6, 7] [0, 1, 2, 3, 4, 5, 9] rfl rfl rfl (by decide) (fun w_161 H locs hw_160 hP hD hS => ?_)
  obtain ⟨fs1_163, g3_164, g4_165, rfl, h_166, h_167, h_168, h_169⟩ := hw_160
  have hP : va_P D vwCl [(q11, .inr (1, fs11)), (h0, .inr (11, fs0)), (q9, .inr (7, fs9)), (q1, .inl (cI, 250, .inl g1_5)), (q2, .inl (cI, 10, .inl g2_6)), (q16, .inl (cI, 10, .inl f2_12)), (q8, .inr (6, fs7_4)), (q13, .inr (3, fs1_163)), (q3, .inl (cI, 25, .inl g3_164)), (q4, .inl (cI, 40, .inl g4_165))] H := hP
  have hD : va_D A [(q11, .inr (1, fs11)), (h0, .inr (11, fs0)), (q9, .inr (7, fs9)), (q1, .inl (cI, 250, .inl g1_5)), (q2, .inl (cI, 10, .inl g2_6)), (q16, .inl (cI, 10, .inl f2_12)), (q8, .inr (6, fs7_4)), (q13, .inr (3, fs1_163)), (q3, .inl (cI, 25, .inl g3_164)), (q4, .inl (cI, 40, .inl g4_165))] := hD
  refine lv_aload_n hx hb dX11_blind_55 rfl (lv_at hl 2 rfl) ?_
  refine gt_X11 hx hb hts hown hK hP 1 rfl 7 (by decide) wd_680 rfl hf_fs0_7 dX11_blind_56 ?_
  refine lv_aload_n hx hb dX11_blind_59 rfl (lv_at hl 2 rfl) ?_
  refine gt_X11 hx hb hts hown hK hP 1 rfl 5 (by decide) wd_678 rfl hf_fs0_5 dX11_blind_60 ?_
  refine lv_aload_n hx hb dX11_blind_63 rfl (lv_at hl 2 rfl) ?_
  refine gt_X11 hx hb hts hown hK hP 1 rfl 6 (by decide) wd_679 rfl hf_fs0_6 dX11_blind_64 ?_
  refine lv_iload_n hx hb dX11_blind_67 rfl (lv_at hl 0 rfl) ?_
  refine lv_aload_n hx hb dX11_blind_68 rfl (lv_at hl 2 rfl) ?_
  refine gt_X11 hx hb hts hown hK hP 1 rfl 13 (by decide) wd_686 rfl hf_fs0_13 dX11_blind_69 ?_
  refine cl_v (wr := [(q11, .inr (1, fs11)), (h0, .inr (11, fs0)), (q9, .inr (7, fs9)), (q1, .inl (cI, 250, .inl g1_5)), (q2, .inl (cI, 10, .inl g2_6)), (q16, .inl (cI, 10, .inl f2_12)), (q3, .inl (cI, 25, .inl g3_164)), (q4, .inl (cI, 40, .inl g4_165))]) (rn_V (As := [.ref q8, .ref q12, .int 10, .ref q16]) (rest := []) hx hb hml hown hts (c_X3_addDay l D cI cJ cZ q13 q8 q12 q16 fs1_163 fs7_4 10 h_166 h_167 h_7 h_8 _) ⟨rfl, rfl⟩ sv_X11_265 ⟨(Nat.le_of_ble_eq_true rfl), (Nat.le_of_ble_eq_true rfl)⟩ ⟨(Nat.le_of_ble_eq_true rfl), (Nat.le_of_ble_eq_true rfl)⟩ (fun _ _ _ _ h => h) (fun _ _ _ => trivial) hK hP hD [7, 6] rfl rfl 0 3 rfl rfl rfl rfl hl.1 rfl (Nat.le_of_ble_eq_true rfl) dX11_blind_72) hP hD hS hA [7, 6] [0, 1, 2, 3, 4, 5, 8, 9] rfl rfl rfl (by decide) (fun w_171 H locs hw_170 hP hD hS => ?_)
  subst hw_170
  have hP : va_P D vwCl [(q11, .inr (1, fs11)), (h0, .inr (11, fs0)), (q9, .inr (7, fs9)), (q1, .inl (cI, 250, .inl g1_5)), (q2, .inl (cI, 10, .inl g2_6)), (q16, .inl (cI, 10, .inl f2_12)), (q3, .inl (cI, 25, .inl g3_164)), (q4, .inl (cI, 40, .inl g4_165)), (q13, .inr (3, fs1_163)), (q8, .inr (6, fs7_4))] H := hP
  have hD : va_D A [(q11, .inr (1, fs11)), (h0, .inr (11, fs0)), (q9, .inr (7, fs9)), (q1, .inl (cI, 250, .inl g1_5)), (q2, .inl (cI, 10, .inl g2_6)), (q16, .inl (cI, 10, .inl f2_12)), (q3, .inl (cI, 25, .inl g3_164)), (q4, .inl (cI, 40, .inl g4_165)), (q13, .inr (3, fs1_163)), (q8, .inr (6, fs7_4))] := hD
  refine lv_aload_n hx hb dX11_blind_75 rfl (lv_at hl 2 rfl) ?_
  refine gt_X11 hx hb hts hown hK hP 1 rfl 7 (by decide) wd_680 rfl hf_fs0_7 dX11_blind_76 ?_
  refine gt_X3 hx hb hts hown hK hP 8 rfl 1 (by decide) wd_406 rfl h_167 dX11_blind_79 ?_
  refine lv_if_le (tgt := 106) hx hb dX11_blind_82 (by decide) (fun _ => ?_) (fun h => (h (by decide)).elim)
  refine lv_iinc (v := 11) (lv' := [(2, .int 11), (1, .int 0), (0, .ref h0)]) hx hb dX11_blind_106 hl (k := 0) rfl (by decide) (by decide) rfl (fun ls hl => ?_)
  refine lv_goto (tgt := 16) hx hb dX11_blind_109 (by decide) ?_
  refine lv_iload_n hx hb dX11_blind_16 rfl (lv_at hl 0 rfl) ?_
  refine lv_bipush (v := 24) hx hb dX11_blind_17 (by decide) ?_
  refine lv_icmp_gt (tgt := 112) hx hb dX11_blind_19 (by decide) (fun h => absurd h (by decide)) (fun _ => ?_)
  refine lv_aload_n hx hb dX11_blind_22 rfl (lv_at hl 2 rfl) ?_
  refine gt_X11 hx hb hts hown hK hP 1 rfl 5 (by decide) wd_678 rfl hf_fs0_5 dX11_blind_23 ?_
  refine lv_aload_n hx hb dX11_blind_26 rfl (lv_at hl 2 rfl) ?_
  refine gt_X11 hx hb hts hown hK hP 1 rfl 13 (by decide) wd_686 rfl hf_fs0_13 dX11_blind_27 ?_
  refine lv_iload_n hx hb dX11_blind_30 rfl (lv_at hl 0 rfl) ?_
  refine lv_aload_n hx hb dX11_blind_31 rfl (lv_at hl 2 rfl) ?_
  refine gt_X11 hx hb hts hown hK hP 1 rfl 0 (by decide) wd_673 rfl hf_fs0_0 dX11_blind_32 ?_
  refine gt_X1 hx hb hts hown hK hP 0 rfl 0 (by decide) wd_39 rfl hf_fs11_0 dX11_blind_35 ?_
  refine cl_v (wr := [(q11, .inr (1, fs11)), (h0, .inr (11, fs0)), (q9, .inr (7, fs9)), (q1, .inl (cI, 250, .inl g1_5)), (q2, .inl (cI, 10, .inl g2_6)), (q16, .inl (cI, 10, .inl f2_12)), (q3, .inl (cI, 25, .inl g3_164)), (q4, .inl (cI, 40, .inl g4_165)), (q13, .inr (3, fs1_163))]) (rn_V (As := [.ref q16, .int 11, .int 0]) (rest := []) hx hb hml hown hts (c_X6_addCome l D cI cJ cZ q8 q16 fs7_4 11 h_7 _) ⟨rfl, rfl⟩ sv_X11_261 ⟨(Nat.le_of_ble_eq_true rfl), (Nat.le_of_ble_eq_true rfl)⟩ ⟨(Nat.le_of_ble_eq_true rfl), (Nat.le_of_ble_eq_true rfl)⟩ (fun _ _ _ _ h => h) (fun _ _ _ => trivial) hK hP hD [9] rfl rfl 0 6 rfl rfl rfl rfl hl.1 rfl (Nat.le_of_ble_eq_true rfl) dX11_blind_38) hP hD hS hA [9] [0, 1, 2, 3, 4, 5, 6, 7, 8] rfl rfl rfl (by decide) (fun w_174 H locs hw_173 hP hD hS => ?_)
  subst hw_173
  have hP : va_P D vwCl [(q11, .inr (1, fs11)), (h0, .inr (11, fs0)), (q9, .inr (7, fs9)), (q1, .inl (cI, 250, .inl g1_5)), (q2, .inl (cI, 10, .inl g2_6)), (q16, .inl (cI, 10, .inl f2_12)), (q3, .inl (cI, 25, .inl g3_164)), (q4, .inl (cI, 40, .inl g4_165)), (q13, .inr (3, fs1_163)), (q8, .inr (6, fs7_4))] H := hP
  have hD : va_D A [(q11, .inr (1, fs11)), (h0, .inr (11, fs0)), (q9, .inr (7, fs9)), (q1, .inl (cI, 250, .inl g1_5)), (q2, .inl (cI, 10, .inl g2_6)), (q16, .inl (cI, 10, .inl f2_12)), (q3, .inl (cI, 25, .inl g3_164)), (q4, .inl (cI, 40, .inl g4_165)), (q13, .inr (3, fs1_163)), (q8, .inr (6, fs7_4))] := hD
  refine lv_aload_n hx hb dX11_blind_41 rfl (lv_at hl 2 rfl) ?_
  refine gt_X11 hx hb hts hown hK hP 1 rfl 7 (by decide) wd_680 rfl hf_fs0_7 dX11_blind_42 ?_
  refine lv_aload_n hx hb dX11_blind_45 rfl (lv_at hl 2 rfl) ?_
  refine gt_X11 hx hb hts hown hK hP 1 rfl 0 (by decide) wd_673 rfl hf_fs0_0 dX11_blind_46 ?_
  refine gt_X1 hx hb hts hown hK hP 0 rfl 0 (by decide) wd_39 rfl hf_fs11_0 dX11_blind_49 ?_
  refine cl_v (wr := [(q11, .inr (1, fs11)), (h0, .inr (11, fs0)), (q9, .inr (7, fs9)), (q1, .inl (cI, 250, .inl g1_5)), (q2, .inl (cI, 10, .inl g2_6)), (q16, .inl (cI, 10, .inl f2_12)), (q8, .inr (6, fs7_4))]) (rn_V (As := [.int 0]) (rest := []) hx hb hml hown hts (c_X3_clear l D cI cJ cZ q13 q3 q4 fs1_163 g3_164 g4_165 h_166 h_168 h_169 _) ⟨rfl, rfl⟩ sv_X11_252 ⟨(Nat.le_of_ble_eq_true rfl), (Nat.le_of_ble_eq_true rfl)⟩ ⟨(Nat.le_of_ble_eq_true rfl), (Nat.le_of_ble_eq_true rfl)⟩ (fun _ _ _ _ h => h) (fun _ _ _ => trivial) hK hP hD [8, 6, 7] rfl rfl 0 3 rfl rfl rfl rfl hl.1 rfl (Nat.le_of_ble_eq_true rfl) dX11_blind_52) hP hD hS hA [8, 6, 7] [0, 1, 2, 3, 4, 5, 9] rfl rfl rfl (by decide) (fun w_177 H locs hw_176 hP hD hS => ?_)
  obtain ⟨fs1_179, g3_180, g4_181, rfl, h_182, h_183, h_184, h_185⟩ := hw_176
  have hP : va_P D vwCl [(q11, .inr (1, fs11)), (h0, .inr (11, fs0)), (q9, .inr (7, fs9)), (q1, .inl (cI, 250, .inl g1_5)), (q2, .inl (cI, 10, .inl g2_6)), (q16, .inl (cI, 10, .inl f2_12)), (q8, .inr (6, fs7_4)), (q13, .inr (3, fs1_179)), (q3, .inl (cI, 25, .inl g3_180)), (q4, .inl (cI, 40, .inl g4_181))] H := hP
  have hD : va_D A [(q11, .inr (1, fs11)), (h0, .inr (11, fs0)), (q9, .inr (7, fs9)), (q1, .inl (cI, 250, .inl g1_5)), (q2, .inl (cI, 10, .inl g2_6)), (q16, .inl (cI, 10, .inl f2_12)), (q8, .inr (6, fs7_4)), (q13, .inr (3, fs1_179)), (q3, .inl (cI, 25, .inl g3_180)), (q4, .inl (cI, 40, .inl g4_181))] := hD
  refine lv_aload_n hx hb dX11_blind_55 rfl (lv_at hl 2 rfl) ?_
  refine gt_X11 hx hb hts hown hK hP 1 rfl 7 (by decide) wd_680 rfl hf_fs0_7 dX11_blind_56 ?_
  refine lv_aload_n hx hb dX11_blind_59 rfl (lv_at hl 2 rfl) ?_
  refine gt_X11 hx hb hts hown hK hP 1 rfl 5 (by decide) wd_678 rfl hf_fs0_5 dX11_blind_60 ?_
  refine lv_aload_n hx hb dX11_blind_63 rfl (lv_at hl 2 rfl) ?_
  refine gt_X11 hx hb hts hown hK hP 1 rfl 6 (by decide) wd_679 rfl hf_fs0_6 dX11_blind_64 ?_
  refine lv_iload_n hx hb dX11_blind_67 rfl (lv_at hl 0 rfl) ?_
  refine lv_aload_n hx hb dX11_blind_68 rfl (lv_at hl 2 rfl) ?_
  refine gt_X11 hx hb hts hown hK hP 1 rfl 13 (by decide) wd_686 rfl hf_fs0_13 dX11_blind_69 ?_
  refine cl_v (wr := [(q11, .inr (1, fs11)), (h0, .inr (11, fs0)), (q9, .inr (7, fs9)), (q1, .inl (cI, 250, .inl g1_5)), (q2, .inl (cI, 10, .inl g2_6)), (q16, .inl (cI, 10, .inl f2_12)), (q3, .inl (cI, 25, .inl g3_180)), (q4, .inl (cI, 40, .inl g4_181))]) (rn_V (As := [.ref q8, .ref q12, .int 11, .ref q16]) (rest := []) hx hb hml hown hts (c_X3_addDay l D cI cJ cZ q13 q8 q12 q16 fs1_179 fs7_4 11 h_182 h_183 h_7 h_8 _) ⟨rfl, rfl⟩ sv_X11_265 ⟨(Nat.le_of_ble_eq_true rfl), (Nat.le_of_ble_eq_true rfl)⟩ ⟨(Nat.le_of_ble_eq_true rfl), (Nat.le_of_ble_eq_true rfl)⟩ (fun _ _ _ _ h => h) (fun _ _ _ => trivial) hK hP hD [7, 6] rfl rfl 0 3 rfl rfl rfl rfl hl.1 rfl (Nat.le_of_ble_eq_true rfl) dX11_blind_72) hP hD hS hA [7, 6] [0, 1, 2, 3, 4, 5, 8, 9] rfl rfl rfl (by decide) (fun w_187 H locs hw_186 hP hD hS => ?_)
  subst hw_186
  have hP : va_P D vwCl [(q11, .inr (1, fs11)), (h0, .inr (11, fs0)), (q9, .inr (7, fs9)), (q1, .inl (cI, 250, .inl g1_5)), (q2, .inl (cI, 10, .inl g2_6)), (q16, .inl (cI, 10, .inl f2_12)), (q3, .inl (cI, 25, .inl g3_180)), (q4, .inl (cI, 40, .inl g4_181)), (q13, .inr (3, fs1_179)), (q8, .inr (6, fs7_4))] H := hP
  have hD : va_D A [(q11, .inr (1, fs11)), (h0, .inr (11, fs0)), (q9, .inr (7, fs9)), (q1, .inl (cI, 250, .inl g1_5)), (q2, .inl (cI, 10, .inl g2_6)), (q16, .inl (cI, 10, .inl f2_12)), (q3, .inl (cI, 25, .inl g3_180)), (q4, .inl (cI, 40, .inl g4_181)), (q13, .inr (3, fs1_179)), (q8, .inr (6, fs7_4))] := hD
  refine lv_aload_n hx hb dX11_blind_75 rfl (lv_at hl 2 rfl) ?_
  refine gt_X11 hx hb hts hown hK hP 1 rfl 7 (by decide) wd_680 rfl hf_fs0_7 dX11_blind_76 ?_
  refine gt_X3 hx hb hts hown hK hP 8 rfl 1 (by decide) wd_406 rfl h_183 dX11_blind_79 ?_
  refine lv_if_le (tgt := 106) hx hb dX11_blind_82 (by decide) (fun _ => ?_) (fun h => (h (by decide)).elim)
  refine lv_iinc (v := 12) (lv' := [(2, .int 12), (1, .int 0), (0, .ref h0)]) hx hb dX11_blind_106 hl (k := 0) rfl (by decide) (by decide) rfl (fun ls hl => ?_)
  refine lv_goto (tgt := 16) hx hb dX11_blind_109 (by decide) ?_
  refine lv_iload_n hx hb dX11_blind_16 rfl (lv_at hl 0 rfl) ?_
  refine lv_bipush (v := 24) hx hb dX11_blind_17 (by decide) ?_
  refine lv_icmp_gt (tgt := 112) hx hb dX11_blind_19 (by decide) (fun h => absurd h (by decide)) (fun _ => ?_)
  refine lv_aload_n hx hb dX11_blind_22 rfl (lv_at hl 2 rfl) ?_
  refine gt_X11 hx hb hts hown hK hP 1 rfl 5 (by decide) wd_678 rfl hf_fs0_5 dX11_blind_23 ?_
  refine lv_aload_n hx hb dX11_blind_26 rfl (lv_at hl 2 rfl) ?_
  refine gt_X11 hx hb hts hown hK hP 1 rfl 13 (by decide) wd_686 rfl hf_fs0_13 dX11_blind_27 ?_
  refine lv_iload_n hx hb dX11_blind_30 rfl (lv_at hl 0 rfl) ?_
  refine lv_aload_n hx hb dX11_blind_31 rfl (lv_at hl 2 rfl) ?_
  refine gt_X11 hx hb hts hown hK hP 1 rfl 0 (by decide) wd_673 rfl hf_fs0_0 dX11_blind_32 ?_
  refine gt_X1 hx hb hts hown hK hP 0 rfl 0 (by decide) wd_39 rfl hf_fs11_0 dX11_blind_35 ?_
  refine cl_v (wr := [(q11, .inr (1, fs11)), (h0, .inr (11, fs0)), (q9, .inr (7, fs9)), (q1, .inl (cI, 250, .inl g1_5)), (q2, .inl (cI, 10, .inl g2_6)), (q16, .inl (cI, 10, .inl f2_12)), (q3, .inl (cI, 25, .inl g3_180)), (q4, .inl (cI, 40, .inl g4_181)), (q13, .inr (3, fs1_179))]) (rn_V (As := [.ref q16, .int 12, .int 0]) (rest := []) hx hb hml hown hts (c_X6_addCome l D cI cJ cZ q8 q16 fs7_4 12 h_7 _) ⟨rfl, rfl⟩ sv_X11_261 ⟨(Nat.le_of_ble_eq_true rfl), (Nat.le_of_ble_eq_true rfl)⟩ ⟨(Nat.le_of_ble_eq_true rfl), (Nat.le_of_ble_eq_true rfl)⟩ (fun _ _ _ _ h => h) (fun _ _ _ => trivial) hK hP hD [9] rfl rfl 0 6 rfl rfl rfl rfl hl.1 rfl (Nat.le_of_ble_eq_true rfl) dX11_blind_38) hP hD hS hA [9] [0, 1, 2, 3, 4, 5, 6, 7, 8] rfl rfl rfl (by decide) (fun w_190 H locs hw_189 hP hD hS => ?_)
  subst hw_189
  have hP : va_P D vwCl [(q11, .inr (1, fs11)), (h0, .inr (11, fs0)), (q9, .inr (7, fs9)), (q1, .inl (cI, 250, .inl g1_5)), (q2, .inl (cI, 10, .inl g2_6)), (q16, .inl (cI, 10, .inl f2_12)), (q3, .inl (cI, 25, .inl g3_180)), (q4, .inl (cI, 40, .inl g4_181)), (q13, .inr (3, fs1_179)), (q8, .inr (6, fs7_4))] H := hP
  have hD : va_D A [(q11, .inr (1, fs11)), (h0, .inr (11, fs0)), (q9, .inr (7, fs9)), (q1, .inl (cI, 250, .inl g1_5)), (q2, .inl (cI, 10, .inl g2_6)), (q16, .inl (cI, 10, .inl f2_12)), (q3, .inl (cI, 25, .inl g3_180)), (q4, .inl (cI, 40, .inl g4_181)), (q13, .inr (3, fs1_179)), (q8, .inr (6, fs7_4))] := hD
  refine lv_aload_n hx hb dX11_blind_41 rfl (lv_at hl 2 rfl) ?_
  refine gt_X11 hx hb hts hown hK hP 1 rfl 7 (by decide) wd_680 rfl hf_fs0_7 dX11_blind_42 ?_
  refine lv_aload_n hx hb dX11_blind_45 rfl (lv_at hl 2 rfl) ?_
  refine gt_X11 hx hb hts hown hK hP 1 rfl 0 (by decide) wd_673 rfl hf_fs0_0 dX11_blind_46 ?_
  refine gt_X1 hx hb hts hown hK hP 0 rfl 0 (by decide) wd_39 rfl hf_fs11_0 dX11_blind_49 ?_
  refine cl_v (wr := [(q11, .inr (1, fs11)), (h0, .inr (11, fs0)), (q9, .inr (7, fs9)), (q1, .inl (cI, 250, .inl g1_5)), (q2, .inl (cI, 10, .inl g2_6)), (q16, .inl (cI, 10, .inl f2_12)), (q8, .inr (6, fs7_4))]) (rn_V (As := [.int 0]) (rest := []) hx hb hml hown hts (c_X3_clear l D cI cJ cZ q13 q3 q4 fs1_179 g3_180 g4_181 h_182 h_184 h_185 _) ⟨rfl, rfl⟩ sv_X11_252 ⟨(Nat.le_of_ble_eq_true rfl), (Nat.le_of_ble_eq_true rfl)⟩ ⟨(Nat.le_of_ble_eq_true rfl), (Nat.le_of_ble_eq_true rfl)⟩ (fun _ _ _ _ h => h) (fun _ _ _ => trivial) hK hP hD [8, 6, 7] rfl rfl 0 3 rfl rfl rfl rfl hl.1 rfl (Nat.le_of_ble_eq_true rfl) dX11_blind_52) hP hD hS hA [8, 6, 7] [0, 1, 2, 3, 4, 5, 9] rfl rfl rfl (by decide) (fun w_193 H locs hw_192 hP hD hS => ?_)
  obtain ⟨fs1_195, g3_196, g4_197, rfl, h_198, h_199, h_200, h_201⟩ := hw_192
  have hP : va_P D vwCl [(q11, .inr (1, fs11)), (h0, .inr (11, fs0)), (q9, .inr (7, fs9)), (q1, .inl (cI, 250, .inl g1_5)), (q2, .inl (cI, 10, .inl g2_6)), (q16, .inl (cI, 10, .inl f2_12)), (q8, .inr (6, fs7_4)), (q13, .inr (3, fs1_195)), (q3, .inl (cI, 25, .inl g3_196)), (q4, .inl (cI, 40, .inl g4_197))] H := hP
  have hD : va_D A [(q11, .inr (1, fs11)), (h0, .inr (11, fs0)), (q9, .inr (7, fs9)), (q1, .inl (cI, 250, .inl g1_5)), (q2, .inl (cI, 10, .inl g2_6)), (q16, .inl (cI, 10, .inl f2_12)), (q8, .inr (6, fs7_4)), (q13, .inr (3, fs1_195)), (q3, .inl (cI, 25, .inl g3_196)), (q4, .inl (cI, 40, .inl g4_197))] := hD
  refine lv_aload_n hx hb dX11_blind_55 rfl (lv_at hl 2 rfl) ?_
  refine gt_X11 hx hb hts hown hK hP 1 rfl 7 (by decide) wd_680 rfl hf_fs0_7 dX11_blind_56 ?_
  refine lv_aload_n hx hb dX11_blind_59 rfl (lv_at hl 2 rfl) ?_
  refine gt_X11 hx hb hts hown hK hP 1 rfl 5 (by decide) wd_678 rfl hf_fs0_5 dX11_blind_60 ?_
  refine lv_aload_n hx hb dX11_blind_63 rfl (lv_at hl 2 rfl) ?_
  refine gt_X11 hx hb hts hown hK hP 1 rfl 6 (by decide) wd_679 rfl hf_fs0_6 dX11_blind_64 ?_
  refine lv_iload_n hx hb dX11_blind_67 rfl (lv_at hl 0 rfl) ?_
  refine lv_aload_n hx hb dX11_blind_68 rfl (lv_at hl 2 rfl) ?_
  refine gt_X11 hx hb hts hown hK hP 1 rfl 13 (by decide) wd_686 rfl hf_fs0_13 dX11_blind_69 ?_
  refine cl_v (wr := [(q11, .inr (1, fs11)), (h0, .inr (11, fs0)), (q9, .inr (7, fs9)), (q1, .inl (cI, 250, .inl g1_5)), (q2, .inl (cI, 10, .inl g2_6)), (q16, .inl (cI, 10, .inl f2_12)), (q3, .inl (cI, 25, .inl g3_196)), (q4, .inl (cI, 40, .inl g4_197))]) (rn_V (As := [.ref q8, .ref q12, .int 12, .ref q16]) (rest := []) hx hb hml hown hts (c_X3_addDay l D cI cJ cZ q13 q8 q12 q16 fs1_195 fs7_4 12 h_198 h_199 h_7 h_8 _) ⟨rfl, rfl⟩ sv_X11_265 ⟨(Nat.le_of_ble_eq_true rfl), (Nat.le_of_ble_eq_true rfl)⟩ ⟨(Nat.le_of_ble_eq_true rfl), (Nat.le_of_ble_eq_true rfl)⟩ (fun _ _ _ _ h => h) (fun _ _ _ => trivial) hK hP hD [7, 6] rfl rfl 0 3 rfl rfl rfl rfl hl.1 rfl (Nat.le_of_ble_eq_true rfl) dX11_blind_72) hP hD hS hA [7, 6] [0, 1, 2, 3, 4, 5, 8, 9] rfl rfl rfl (by decide) (fun w_203 H locs hw_202 hP hD hS => ?_)
  subst hw_202
  have hP : va_P D vwCl [(q11, .inr (1, fs11)), (h0, .inr (11, fs0)), (q9, .inr (7, fs9)), (q1, .inl (cI, 250, .inl g1_5)), (q2, .inl (cI, 10, .inl g2_6)), (q16, .inl (cI, 10, .inl f2_12)), (q3, .inl (cI, 25, .inl g3_196)), (q4, .inl (cI, 40, .inl g4_197)), (q13, .inr (3, fs1_195)), (q8, .inr (6, fs7_4))] H := hP
  have hD : va_D A [(q11, .inr (1, fs11)), (h0, .inr (11, fs0)), (q9, .inr (7, fs9)), (q1, .inl (cI, 250, .inl g1_5)), (q2, .inl (cI, 10, .inl g2_6)), (q16, .inl (cI, 10, .inl f2_12)), (q3, .inl (cI, 25, .inl g3_196)), (q4, .inl (cI, 40, .inl g4_197)), (q13, .inr (3, fs1_195)), (q8, .inr (6, fs7_4))] := hD
  refine lv_aload_n hx hb dX11_blind_75 rfl (lv_at hl 2 rfl) ?_
  refine gt_X11 hx hb hts hown hK hP 1 rfl 7 (by decide) wd_680 rfl hf_fs0_7 dX11_blind_76 ?_
  refine gt_X3 hx hb hts hown hK hP 8 rfl 1 (by decide) wd_406 rfl h_199 dX11_blind_79 ?_
  refine lv_if_le (tgt := 106) hx hb dX11_blind_82 (by decide) (fun _ => ?_) (fun h => (h (by decide)).elim)
  refine lv_iinc (v := 13) (lv' := [(2, .int 13), (1, .int 0), (0, .ref h0)]) hx hb dX11_blind_106 hl (k := 0) rfl (by decide) (by decide) rfl (fun ls hl => ?_)
  refine lv_goto (tgt := 16) hx hb dX11_blind_109 (by decide) ?_
  refine lv_iload_n hx hb dX11_blind_16 rfl (lv_at hl 0 rfl) ?_
  refine lv_bipush (v := 24) hx hb dX11_blind_17 (by decide) ?_
  refine lv_icmp_gt (tgt := 112) hx hb dX11_blind_19 (by decide) (fun h => absurd h (by decide)) (fun _ => ?_)
  refine lv_aload_n hx hb dX11_blind_22 rfl (lv_at hl 2 rfl) ?_
  refine gt_X11 hx hb hts hown hK hP 1 rfl 5 (by decide) wd_678 rfl hf_fs0_5 dX11_blind_23 ?_
  refine lv_aload_n hx hb dX11_blind_26 rfl (lv_at hl 2 rfl) ?_
  refine gt_X11 hx hb hts hown hK hP 1 rfl 13 (by decide) wd_686 rfl hf_fs0_13 dX11_blind_27 ?_
  refine lv_iload_n hx hb dX11_blind_30 rfl (lv_at hl 0 rfl) ?_
  refine lv_aload_n hx hb dX11_blind_31 rfl (lv_at hl 2 rfl) ?_
  refine gt_X11 hx hb hts hown hK hP 1 rfl 0 (by decide) wd_673 rfl hf_fs0_0 dX11_blind_32 ?_
  refine gt_X1 hx hb hts hown hK hP 0 rfl 0 (by decide) wd_39 rfl hf_fs11_0 dX11_blind_35 ?_
  refine cl_v (wr := [(q11, .inr (1, fs11)), (h0, .inr (11, fs0)), (q9, .inr (7, fs9)), (q1, .inl (cI, 250, .inl g1_5)), (q2, .inl (cI, 10, .inl g2_6)), (q16, .inl (cI, 10, .inl f2_12)), (q3, .inl (cI, 25, .inl g3_196)), (q4, .inl (cI, 40, .inl g4_197)), (q13, .inr (3, fs1_195))]) (rn_V (As := [.ref q16, .int 13, .int 0]) (rest := []) hx hb hml hown hts (c_X6_addCome l D cI cJ cZ q8 q16 fs7_4 13 h_7 _) ⟨rfl, rfl⟩ sv_X11_261 ⟨(Nat.le_of_ble_eq_true rfl), (Nat.le_of_ble_eq_true rfl)⟩ ⟨(Nat.le_of_ble_eq_true rfl), (Nat.le_of_ble_eq_true rfl)⟩ (fun _ _ _ _ h => h) (fun _ _ _ => trivial) hK hP hD [9] rfl rfl 0 6 rfl rfl rfl rfl hl.1 rfl (Nat.le_of_ble_eq_true rfl) dX11_blind_38) hP hD hS hA [9] [0, 1, 2, 3, 4, 5, 6, 7, 8] rfl rfl rfl (by decide) (fun w_206 H locs hw_205 hP hD hS => ?_)
  subst hw_205
  have hP : va_P D vwCl [(q11, .inr (1, fs11)), (h0, .inr (11, fs0)), (q9, .inr (7, fs9)), (q1, .inl (cI, 250, .inl g1_5)), (q2, .inl (cI, 10, .inl g2_6)), (q16, .inl (cI, 10, .inl f2_12)), (q3, .inl (cI, 25, .inl g3_196)), (q4, .inl (cI, 40, .inl g4_197)), (q13, .inr (3, fs1_195)), (q8, .inr (6, fs7_4))] H := hP
  have hD : va_D A [(q11, .inr (1, fs11)), (h0, .inr (11, fs0)), (q9, .inr (7, fs9)), (q1, .inl (cI, 250, .inl g1_5)), (q2, .inl (cI, 10, .inl g2_6)), (q16, .inl (cI, 10, .inl f2_12)), (q3, .inl (cI, 25, .inl g3_196)), (q4, .inl (cI, 40, .inl g4_197)), (q13, .inr (3, fs1_195)), (q8, .inr (6, fs7_4))] := hD
  refine lv_aload_n hx hb dX11_blind_41 rfl (lv_at hl 2 rfl) ?_
  refine gt_X11 hx hb hts hown hK hP 1 rfl 7 (by decide) wd_680 rfl hf_fs0_7 dX11_blind_42 ?_
  refine lv_aload_n hx hb dX11_blind_45 rfl (lv_at hl 2 rfl) ?_
  refine gt_X11 hx hb hts hown hK hP 1 rfl 0 (by decide) wd_673 rfl hf_fs0_0 dX11_blind_46 ?_
  refine gt_X1 hx hb hts hown hK hP 0 rfl 0 (by decide) wd_39 rfl hf_fs11_0 dX11_blind_49 ?_
  refine cl_v (wr := [(q11, .inr (1, fs11)), (h0, .inr (11, fs0)), (q9, .inr (7, fs9)), (q1, .inl (cI, 250, .inl g1_5)), (q2, .inl (cI, 10, .inl g2_6)), (q16, .inl (cI, 10, .inl f2_12)), (q8, .inr (6, fs7_4))]) (rn_V (As := [.int 0]) (rest := []) hx hb hml hown hts (c_X3_clear l D cI cJ cZ q13 q3 q4 fs1_195 g3_196 g4_197 h_198 h_200 h_201 _) ⟨rfl, rfl⟩ sv_X11_252 ⟨(Nat.le_of_ble_eq_true rfl), (Nat.le_of_ble_eq_true rfl)⟩ ⟨(Nat.le_of_ble_eq_true rfl), (Nat.le_of_ble_eq_true rfl)⟩ (fun _ _ _ _ h => h) (fun _ _ _ => trivial) hK hP hD [8, 6, 7] rfl rfl 0 3 rfl rfl rfl rfl hl.1 rfl (Nat.le_of_ble_eq_true rfl) dX11_blind_52) hP hD hS hA [8, 6, 7] [0, 1, 2, 3, 4, 5, 9] rfl rfl rfl (by decide) (fun w_209 H locs hw_208 hP hD hS => ?_)
  obtain ⟨fs1_211, g3_212, g4_213, rfl, h_214, h_215, h_216, h_217⟩ := hw_208
  have hP : va_P D vwCl [(q11, .inr (1, fs11)), (h0, .inr (11, fs0)), (q9, .inr (7, fs9)), (q1, .inl (cI, 250, .inl g1_5)), (q2, .inl (cI, 10, .inl g2_6)), (q16, .inl (cI, 10, .inl f2_12)), (q8, .inr (6, fs7_4)), (q13, .inr (3, fs1_211)), (q3, .inl (cI, 25, .inl g3_212)), (q4, .inl (cI, 40, .inl g4_213))] H := hP
  have hD : va_D A [(q11, .inr (1, fs11)), (h0, .inr (11, fs0)), (q9, .inr (7, fs9)), (q1, .inl (cI, 250, .inl g1_5)), (q2, .inl (cI, 10, .inl g2_6)), (q16, .inl (cI, 10, .inl f2_12)), (q8, .inr (6, fs7_4)), (q13, .inr (3, fs1_211)), (q3, .inl (cI, 25, .inl g3_212)), (q4, .inl (cI, 40, .inl g4_213))] := hD
  refine lv_aload_n hx hb dX11_blind_55 rfl (lv_at hl 2 rfl) ?_
  refine gt_X11 hx hb hts hown hK hP 1 rfl 7 (by decide) wd_680 rfl hf_fs0_7 dX11_blind_56 ?_
  refine lv_aload_n hx hb dX11_blind_59 rfl (lv_at hl 2 rfl) ?_
  refine gt_X11 hx hb hts hown hK hP 1 rfl 5 (by decide) wd_678 rfl hf_fs0_5 dX11_blind_60 ?_
  refine lv_aload_n hx hb dX11_blind_63 rfl (lv_at hl 2 rfl) ?_
  refine gt_X11 hx hb hts hown hK hP 1 rfl 6 (by decide) wd_679 rfl hf_fs0_6 dX11_blind_64 ?_
  refine lv_iload_n hx hb dX11_blind_67 rfl (lv_at hl 0 rfl) ?_
  refine lv_aload_n hx hb dX11_blind_68 rfl (lv_at hl 2 rfl) ?_
  refine gt_X11 hx hb hts hown hK hP 1 rfl 13 (by decide) wd_686 rfl hf_fs0_13 dX11_blind_69 ?_
  refine cl_v (wr := [(q11, .inr (1, fs11)), (h0, .inr (11, fs0)), (q9, .inr (7, fs9)), (q1, .inl (cI, 250, .inl g1_5)), (q2, .inl (cI, 10, .inl g2_6)), (q16, .inl (cI, 10, .inl f2_12)), (q3, .inl (cI, 25, .inl g3_212)), (q4, .inl (cI, 40, .inl g4_213))]) (rn_V (As := [.ref q8, .ref q12, .int 13, .ref q16]) (rest := []) hx hb hml hown hts (c_X3_addDay l D cI cJ cZ q13 q8 q12 q16 fs1_211 fs7_4 13 h_214 h_215 h_7 h_8 _) ⟨rfl, rfl⟩ sv_X11_265 ⟨(Nat.le_of_ble_eq_true rfl), (Nat.le_of_ble_eq_true rfl)⟩ ⟨(Nat.le_of_ble_eq_true rfl), (Nat.le_of_ble_eq_true rfl)⟩ (fun _ _ _ _ h => h) (fun _ _ _ => trivial) hK hP hD [7, 6] rfl rfl 0 3 rfl rfl rfl rfl hl.1 rfl (Nat.le_of_ble_eq_true rfl) dX11_blind_72) hP hD hS hA [7, 6] [0, 1, 2, 3, 4, 5, 8, 9] rfl rfl rfl (by decide) (fun w_219 H locs hw_218 hP hD hS => ?_)
  subst hw_218
  have hP : va_P D vwCl [(q11, .inr (1, fs11)), (h0, .inr (11, fs0)), (q9, .inr (7, fs9)), (q1, .inl (cI, 250, .inl g1_5)), (q2, .inl (cI, 10, .inl g2_6)), (q16, .inl (cI, 10, .inl f2_12)), (q3, .inl (cI, 25, .inl g3_212)), (q4, .inl (cI, 40, .inl g4_213)), (q13, .inr (3, fs1_211)), (q8, .inr (6, fs7_4))] H := hP
  have hD : va_D A [(q11, .inr (1, fs11)), (h0, .inr (11, fs0)), (q9, .inr (7, fs9)), (q1, .inl (cI, 250, .inl g1_5)), (q2, .inl (cI, 10, .inl g2_6)), (q16, .inl (cI, 10, .inl f2_12)), (q3, .inl (cI, 25, .inl g3_212)), (q4, .inl (cI, 40, .inl g4_213)), (q13, .inr (3, fs1_211)), (q8, .inr (6, fs7_4))] := hD
  refine lv_aload_n hx hb dX11_blind_75 rfl (lv_at hl 2 rfl) ?_
  refine gt_X11 hx hb hts hown hK hP 1 rfl 7 (by decide) wd_680 rfl hf_fs0_7 dX11_blind_76 ?_
  refine gt_X3 hx hb hts hown hK hP 8 rfl 1 (by decide) wd_406 rfl h_215 dX11_blind_79 ?_
  refine lv_if_le (tgt := 106) hx hb dX11_blind_82 (by decide) (fun _ => ?_) (fun h => (h (by decide)).elim)
  refine lv_iinc (v := 14) (lv' := [(2, .int 14), (1, .int 0), (0, .ref h0)]) hx hb dX11_blind_106 hl (k := 0) rfl (by decide) (by decide) rfl (fun ls hl => ?_)
  refine lv_goto (tgt := 16) hx hb dX11_blind_109 (by decide) ?_
  refine lv_iload_n hx hb dX11_blind_16 rfl (lv_at hl 0 rfl) ?_
  refine lv_bipush (v := 24) hx hb dX11_blind_17 (by decide) ?_
  refine lv_icmp_gt (tgt := 112) hx hb dX11_blind_19 (by decide) (fun h => absurd h (by decide)) (fun _ => ?_)
  refine lv_aload_n hx hb dX11_blind_22 rfl (lv_at hl 2 rfl) ?_
  refine gt_X11 hx hb hts hown hK hP 1 rfl 5 (by decide) wd_678 rfl hf_fs0_5 dX11_blind_23 ?_
  refine lv_aload_n hx hb dX11_blind_26 rfl (lv_at hl 2 rfl) ?_
  refine gt_X11 hx hb hts hown hK hP 1 rfl 13 (by decide) wd_686 rfl hf_fs0_13 dX11_blind_27 ?_
  refine lv_iload_n hx hb dX11_blind_30 rfl (lv_at hl 0 rfl) ?_
  refine lv_aload_n hx hb dX11_blind_31 rfl (lv_at hl 2 rfl) ?_
  refine gt_X11 hx hb hts hown hK hP 1 rfl 0 (by decide) wd_673 rfl hf_fs0_0 dX11_blind_32 ?_
  refine gt_X1 hx hb hts hown hK hP 0 rfl 0 (by decide) wd_39 rfl hf_fs11_0 dX11_blind_35 ?_
  refine cl_v (wr := [(q11, .inr (1, fs11)), (h0, .inr (11, fs0)), (q9, .inr (7, fs9)), (q1, .inl (cI, 250, .inl g1_5)), (q2, .inl (cI, 10, .inl g2_6)), (q16, .inl (cI, 10, .inl f2_12)), (q3, .inl (cI, 25, .inl g3_212)), (q4, .inl (cI, 40, .inl g4_213)), (q13, .inr (3, fs1_211))]) (rn_V (As := [.ref q16, .int 14, .int 0]) (rest := []) hx hb hml hown hts (c_X6_addCome l D cI cJ cZ q8 q16 fs7_4 14 h_7 _) ⟨rfl, rfl⟩ sv_X11_261 ⟨(Nat.le_of_ble_eq_true rfl), (Nat.le_of_ble_eq_true rfl)⟩ ⟨(Nat.le_of_ble_eq_true rfl), (Nat.le_of_ble_eq_true rfl)⟩ (fun _ _ _ _ h => h) (fun _ _ _ => trivial) hK hP hD [9] rfl rfl 0 6 rfl rfl rfl rfl hl.1 rfl (Nat.le_of_ble_eq_true rfl) dX11_blind_38) hP hD hS hA [9] [0, 1, 2, 3, 4, 5, 6, 7, 8] rfl rfl rfl (by decide) (fun w_222 H locs hw_221 hP hD hS => ?_)
  subst hw_221
  have hP : va_P D vwCl [(q11, .inr (1, fs11)), (h0, .inr (11, fs0)), (q9, .inr (7, fs9)), (q1, .inl (cI, 250, .inl g1_5)), (q2, .inl (cI, 10, .inl g2_6)), (q16, .inl (cI, 10, .inl f2_12)), (q3, .inl (cI, 25, .inl g3_212)), (q4, .inl (cI, 40, .inl g4_213)), (q13, .inr (3, fs1_211)), (q8, .inr (6, fs7_4))] H := hP
  have hD : va_D A [(q11, .inr (1, fs11)), (h0, .inr (11, fs0)), (q9, .inr (7, fs9)), (q1, .inl (cI, 250, .inl g1_5)), (q2, .inl (cI, 10, .inl g2_6)), (q16, .inl (cI, 10, .inl f2_12)), (q3, .inl (cI, 25, .inl g3_212)), (q4, .inl (cI, 40, .inl g4_213)), (q13, .inr (3, fs1_211)), (q8, .inr (6, fs7_4))] := hD
  refine lv_aload_n hx hb dX11_blind_41 rfl (lv_at hl 2 rfl) ?_
  refine gt_X11 hx hb hts hown hK hP 1 rfl 7 (by decide) wd_680 rfl hf_fs0_7 dX11_blind_42 ?_
  refine lv_aload_n hx hb dX11_blind_45 rfl (lv_at hl 2 rfl) ?_
  refine gt_X11 hx hb hts hown hK hP 1 rfl 0 (by decide) wd_673 rfl hf_fs0_0 dX11_blind_46 ?_
  refine gt_X1 hx hb hts hown hK hP 0 rfl 0 (by decide) wd_39 rfl hf_fs11_0 dX11_blind_49 ?_
  refine cl_v (wr := [(q11, .inr (1, fs11)), (h0, .inr (11, fs0)), (q9, .inr (7, fs9)), (q1, .inl (cI, 250, .inl g1_5)), (q2, .inl (cI, 10, .inl g2_6)), (q16, .inl (cI, 10, .inl f2_12)), (q8, .inr (6, fs7_4))]) (rn_V (As := [.int 0]) (rest := []) hx hb hml hown hts (c_X3_clear l D cI cJ cZ q13 q3 q4 fs1_211 g3_212 g4_213 h_214 h_216 h_217 _) ⟨rfl, rfl⟩ sv_X11_252 ⟨(Nat.le_of_ble_eq_true rfl), (Nat.le_of_ble_eq_true rfl)⟩ ⟨(Nat.le_of_ble_eq_true rfl), (Nat.le_of_ble_eq_true rfl)⟩ (fun _ _ _ _ h => h) (fun _ _ _ => trivial) hK hP hD [8, 6, 7] rfl rfl 0 3 rfl rfl rfl rfl hl.1 rfl (Nat.le_of_ble_eq_true rfl) dX11_blind_52) hP hD hS hA [8, 6, 7] [0, 1, 2, 3, 4, 5, 9] rfl rfl rfl (by decide) (fun w_225 H locs hw_224 hP hD hS => ?_)
  obtain ⟨fs1_227, g3_228, g4_229, rfl, h_230, h_231, h_232, h_233⟩ := hw_224
  have hP : va_P D vwCl [(q11, .inr (1, fs11)), (h0, .inr (11, fs0)), (q9, .inr (7, fs9)), (q1, .inl (cI, 250, .inl g1_5)), (q2, .inl (cI, 10, .inl g2_6)), (q16, .inl (cI, 10, .inl f2_12)), (q8, .inr (6, fs7_4)), (q13, .inr (3, fs1_227)), (q3, .inl (cI, 25, .inl g3_228)), (q4, .inl (cI, 40, .inl g4_229))] H := hP
  have hD : va_D A [(q11, .inr (1, fs11)), (h0, .inr (11, fs0)), (q9, .inr (7, fs9)), (q1, .inl (cI, 250, .inl g1_5)), (q2, .inl (cI, 10, .inl g2_6)), (q16, .inl (cI, 10, .inl f2_12)), (q8, .inr (6, fs7_4)), (q13, .inr (3, fs1_227)), (q3, .inl (cI, 25, .inl g3_228)), (q4, .inl (cI, 40, .inl g4_229))] := hD
  refine lv_aload_n hx hb dX11_blind_55 rfl (lv_at hl 2 rfl) ?_
  refine gt_X11 hx hb hts hown hK hP 1 rfl 7 (by decide) wd_680 rfl hf_fs0_7 dX11_blind_56 ?_
  refine lv_aload_n hx hb dX11_blind_59 rfl (lv_at hl 2 rfl) ?_
  refine gt_X11 hx hb hts hown hK hP 1 rfl 5 (by decide) wd_678 rfl hf_fs0_5 dX11_blind_60 ?_
  refine lv_aload_n hx hb dX11_blind_63 rfl (lv_at hl 2 rfl) ?_
  refine gt_X11 hx hb hts hown hK hP 1 rfl 6 (by decide) wd_679 rfl hf_fs0_6 dX11_blind_64 ?_
  refine lv_iload_n hx hb dX11_blind_67 rfl (lv_at hl 0 rfl) ?_
  refine lv_aload_n hx hb dX11_blind_68 rfl (lv_at hl 2 rfl) ?_
  refine gt_X11 hx hb hts hown hK hP 1 rfl 13 (by decide) wd_686 rfl hf_fs0_13 dX11_blind_69 ?_
  refine cl_v (wr := [(q11, .inr (1, fs11)), (h0, .inr (11, fs0)), (q9, .inr (7, fs9)), (q1, .inl (cI, 250, .inl g1_5)), (q2, .inl (cI, 10, .inl g2_6)), (q16, .inl (cI, 10, .inl f2_12)), (q3, .inl (cI, 25, .inl g3_228)), (q4, .inl (cI, 40, .inl g4_229))]) (rn_V (As := [.ref q8, .ref q12, .int 14, .ref q16]) (rest := []) hx hb hml hown hts (c_X3_addDay l D cI cJ cZ q13 q8 q12 q16 fs1_227 fs7_4 14 h_230 h_231 h_7 h_8 _) ⟨rfl, rfl⟩ sv_X11_265 ⟨(Nat.le_of_ble_eq_true rfl), (Nat.le_of_ble_eq_true rfl)⟩ ⟨(Nat.le_of_ble_eq_true rfl), (Nat.le_of_ble_eq_true rfl)⟩ (fun _ _ _ _ h => h) (fun _ _ _ => trivial) hK hP hD [7, 6] rfl rfl 0 3 rfl rfl rfl rfl hl.1 rfl (Nat.le_of_ble_eq_true rfl) dX11_blind_72) hP hD hS hA [7, 6] [0, 1, 2, 3, 4, 5, 8, 9] rfl rfl rfl (by decide) (fun w_235 H locs hw_234 hP hD hS => ?_)
  subst hw_234
  have hP : va_P D vwCl [(q11, .inr (1, fs11)), (h0, .inr (11, fs0)), (q9, .inr (7, fs9)), (q1, .inl (cI, 250, .inl g1_5)), (q2, .inl (cI, 10, .inl g2_6)), (q16, .inl (cI, 10, .inl f2_12)), (q3, .inl (cI, 25, .inl g3_228)), (q4, .inl (cI, 40, .inl g4_229)), (q13, .inr (3, fs1_227)), (q8, .inr (6, fs7_4))] H := hP
  have hD : va_D A [(q11, .inr (1, fs11)), (h0, .inr (11, fs0)), (q9, .inr (7, fs9)), (q1, .inl (cI, 250, .inl g1_5)), (q2, .inl (cI, 10, .inl g2_6)), (q16, .inl (cI, 10, .inl f2_12)), (q3, .inl (cI, 25, .inl g3_228)), (q4, .inl (cI, 40, .inl g4_229)), (q13, .inr (3, fs1_227)), (q8, .inr (6, fs7_4))] := hD
  refine lv_aload_n hx hb dX11_blind_75 rfl (lv_at hl 2 rfl) ?_
  refine gt_X11 hx hb hts hown hK hP 1 rfl 7 (by decide) wd_680 rfl hf_fs0_7 dX11_blind_76 ?_
  refine gt_X3 hx hb hts hown hK hP 8 rfl 1 (by decide) wd_406 rfl h_231 dX11_blind_79 ?_
  refine lv_if_le (tgt := 106) hx hb dX11_blind_82 (by decide) (fun _ => ?_) (fun h => (h (by decide)).elim)
  refine lv_iinc (v := 15) (lv' := [(2, .int 15), (1, .int 0), (0, .ref h0)]) hx hb dX11_blind_106 hl (k := 0) rfl (by decide) (by decide) rfl (fun ls hl => ?_)
  refine lv_goto (tgt := 16) hx hb dX11_blind_109 (by decide) ?_
  refine lv_iload_n hx hb dX11_blind_16 rfl (lv_at hl 0 rfl) ?_
  refine lv_bipush (v := 24) hx hb dX11_blind_17 (by decide) ?_
  refine lv_icmp_gt (tgt := 112) hx hb dX11_blind_19 (by decide) (fun h => absurd h (by decide)) (fun _ => ?_)
  refine lv_aload_n hx hb dX11_blind_22 rfl (lv_at hl 2 rfl) ?_
  refine gt_X11 hx hb hts hown hK hP 1 rfl 5 (by decide) wd_678 rfl hf_fs0_5 dX11_blind_23 ?_
  refine lv_aload_n hx hb dX11_blind_26 rfl (lv_at hl 2 rfl) ?_
  refine gt_X11 hx hb hts hown hK hP 1 rfl 13 (by decide) wd_686 rfl hf_fs0_13 dX11_blind_27 ?_
  refine lv_iload_n hx hb dX11_blind_30 rfl (lv_at hl 0 rfl) ?_
  refine lv_aload_n hx hb dX11_blind_31 rfl (lv_at hl 2 rfl) ?_
  refine gt_X11 hx hb hts hown hK hP 1 rfl 0 (by decide) wd_673 rfl hf_fs0_0 dX11_blind_32 ?_
  refine gt_X1 hx hb hts hown hK hP 0 rfl 0 (by decide) wd_39 rfl hf_fs11_0 dX11_blind_35 ?_
  refine cl_v (wr := [(q11, .inr (1, fs11)), (h0, .inr (11, fs0)), (q9, .inr (7, fs9)), (q1, .inl (cI, 250, .inl g1_5)), (q2, .inl (cI, 10, .inl g2_6)), (q16, .inl (cI, 10, .inl f2_12)), (q3, .inl (cI, 25, .inl g3_228)), (q4, .inl (cI, 40, .inl g4_229)), (q13, .inr (3, fs1_227))]) (rn_V (As := [.ref q16, .int 15, .int 0]) (rest := []) hx hb hml hown hts (c_X6_addCome l D cI cJ cZ q8 q16 fs7_4 15 h_7 _) ⟨rfl, rfl⟩ sv_X11_261 ⟨(Nat.le_of_ble_eq_true rfl), (Nat.le_of_ble_eq_true rfl)⟩ ⟨(Nat.le_of_ble_eq_true rfl), (Nat.le_of_ble_eq_true rfl)⟩ (fun _ _ _ _ h => h) (fun _ _ _ => trivial) hK hP hD [9] rfl rfl 0 6 rfl rfl rfl rfl hl.1 rfl (Nat.le_of_ble_eq_true rfl) dX11_blind_38) hP hD hS hA [9] [0, 1, 2, 3, 4, 5, 6, 7, 8] rfl rfl rfl (by decide) (fun w_238 H locs hw_237 hP hD hS => ?_)
  subst hw_237
  have hP : va_P D vwCl [(q11, .inr (1, fs11)), (h0, .inr (11, fs0)), (q9, .inr (7, fs9)), (q1, .inl (cI, 250, .inl g1_5)), (q2, .inl (cI, 10, .inl g2_6)), (q16, .inl (cI, 10, .inl f2_12)), (q3, .inl (cI, 25, .inl g3_228)), (q4, .inl (cI, 40, .inl g4_229)), (q13, .inr (3, fs1_227)), (q8, .inr (6, fs7_4))] H := hP
  have hD : va_D A [(q11, .inr (1, fs11)), (h0, .inr (11, fs0)), (q9, .inr (7, fs9)), (q1, .inl (cI, 250, .inl g1_5)), (q2, .inl (cI, 10, .inl g2_6)), (q16, .inl (cI, 10, .inl f2_12)), (q3, .inl (cI, 25, .inl g3_228)), (q4, .inl (cI, 40, .inl g4_229)), (q13, .inr (3, fs1_227)), (q8, .inr (6, fs7_4))] := hD
  refine lv_aload_n hx hb dX11_blind_41 rfl (lv_at hl 2 rfl) ?_
  refine gt_X11 hx hb hts hown hK hP 1 rfl 7 (by decide) wd_680 rfl hf_fs0_7 dX11_blind_42 ?_
  refine lv_aload_n hx hb dX11_blind_45 rfl (lv_at hl 2 rfl) ?_
  refine gt_X11 hx hb hts hown hK hP 1 rfl 0 (by decide) wd_673 rfl hf_fs0_0 dX11_blind_46 ?_
  refine gt_X1 hx hb hts hown hK hP 0 rfl 0 (by decide) wd_39 rfl hf_fs11_0 dX11_blind_49 ?_
  refine cl_v (wr := [(q11, .inr (1, fs11)), (h0, .inr (11, fs0)), (q9, .inr (7, fs9)), (q1, .inl (cI, 250, .inl g1_5)), (q2, .inl (cI, 10, .inl g2_6)), (q16, .inl (cI, 10, .inl f2_12)), (q8, .inr (6, fs7_4))]) (rn_V (As := [.int 0]) (rest := []) hx hb hml hown hts (c_X3_clear l D cI cJ cZ q13 q3 q4 fs1_227 g3_228 g4_229 h_230 h_232 h_233 _) ⟨rfl, rfl⟩ sv_X11_252 ⟨(Nat.le_of_ble_eq_true rfl), (Nat.le_of_ble_eq_true rfl)⟩ ⟨(Nat.le_of_ble_eq_true rfl), (Nat.le_of_ble_eq_true rfl)⟩ (fun _ _ _ _ h => h) (fun _ _ _ => trivial) hK hP hD [8, 6, 7] rfl rfl 0 3 rfl rfl rfl rfl hl.1 rfl (Nat.le_of_ble_eq_true rfl) dX11_blind_52) hP hD hS hA [8, 6, 7] [0, 1, 2, 3, 4, 5, 9] rfl rfl rfl (by decide) (fun w_241 H locs hw_240 hP hD hS => ?_)
  obtain ⟨fs1_243, g3_244, g4_245, rfl, h_246, h_247, h_248, h_249⟩ := hw_240
  have hP : va_P D vwCl [(q11, .inr (1, fs11)), (h0, .inr (11, fs0)), (q9, .inr (7, fs9)), (q1, .inl (cI, 250, .inl g1_5)), (q2, .inl (cI, 10, .inl g2_6)), (q16, .inl (cI, 10, .inl f2_12)), (q8, .inr (6, fs7_4)), (q13, .inr (3, fs1_243)), (q3, .inl (cI, 25, .inl g3_244)), (q4, .inl (cI, 40, .inl g4_245))] H := hP
  have hD : va_D A [(q11, .inr (1, fs11)), (h0, .inr (11, fs0)), (q9, .inr (7, fs9)), (q1, .inl (cI, 250, .inl g1_5)), (q2, .inl (cI, 10, .inl g2_6)), (q16, .inl (cI, 10, .inl f2_12)), (q8, .inr (6, fs7_4)), (q13, .inr (3, fs1_243)), (q3, .inl (cI, 25, .inl g3_244)), (q4, .inl (cI, 40, .inl g4_245))] := hD
  refine lv_aload_n hx hb dX11_blind_55 rfl (lv_at hl 2 rfl) ?_
  refine gt_X11 hx hb hts hown hK hP 1 rfl 7 (by decide) wd_680 rfl hf_fs0_7 dX11_blind_56 ?_
  refine lv_aload_n hx hb dX11_blind_59 rfl (lv_at hl 2 rfl) ?_
  refine gt_X11 hx hb hts hown hK hP 1 rfl 5 (by decide) wd_678 rfl hf_fs0_5 dX11_blind_60 ?_
  refine lv_aload_n hx hb dX11_blind_63 rfl (lv_at hl 2 rfl) ?_
  refine gt_X11 hx hb hts hown hK hP 1 rfl 6 (by decide) wd_679 rfl hf_fs0_6 dX11_blind_64 ?_
  refine lv_iload_n hx hb dX11_blind_67 rfl (lv_at hl 0 rfl) ?_
  refine lv_aload_n hx hb dX11_blind_68 rfl (lv_at hl 2 rfl) ?_
  refine gt_X11 hx hb hts hown hK hP 1 rfl 13 (by decide) wd_686 rfl hf_fs0_13 dX11_blind_69 ?_
  refine cl_v (wr := [(q11, .inr (1, fs11)), (h0, .inr (11, fs0)), (q9, .inr (7, fs9)), (q1, .inl (cI, 250, .inl g1_5)), (q2, .inl (cI, 10, .inl g2_6)), (q16, .inl (cI, 10, .inl f2_12)), (q3, .inl (cI, 25, .inl g3_244)), (q4, .inl (cI, 40, .inl g4_245))]) (rn_V (As := [.ref q8, .ref q12, .int 15, .ref q16]) (rest := []) hx hb hml hown hts (c_X3_addDay l D cI cJ cZ q13 q8 q12 q16 fs1_243 fs7_4 15 h_246 h_247 h_7 h_8 _) ⟨rfl, rfl⟩ sv_X11_265 ⟨(Nat.le_of_ble_eq_true rfl), (Nat.le_of_ble_eq_true rfl)⟩ ⟨(Nat.le_of_ble_eq_true rfl), (Nat.le_of_ble_eq_true rfl)⟩ (fun _ _ _ _ h => h) (fun _ _ _ => trivial) hK hP hD [7, 6] rfl rfl 0 3 rfl rfl rfl rfl hl.1 rfl (Nat.le_of_ble_eq_true rfl) dX11_blind_72) hP hD hS hA [7, 6] [0, 1, 2, 3, 4, 5, 8, 9] rfl rfl rfl (by decide) (fun w_251 H locs hw_250 hP hD hS => ?_)
  subst hw_250
  have hP : va_P D vwCl [(q11, .inr (1, fs11)), (h0, .inr (11, fs0)), (q9, .inr (7, fs9)), (q1, .inl (cI, 250, .inl g1_5)), (q2, .inl (cI, 10, .inl g2_6)), (q16, .inl (cI, 10, .inl f2_12)), (q3, .inl (cI, 25, .inl g3_244)), (q4, .inl (cI, 40, .inl g4_245)), (q13, .inr (3, fs1_243)), (q8, .inr (6, fs7_4))] H := hP
  have hD : va_D A [(q11, .inr (1, fs11)), (h0, .inr (11, fs0)), (q9, .inr (7, fs9)), (q1, .inl (cI, 250, .inl g1_5)), (q2, .inl (cI, 10, .inl g2_6)), (q16, .inl (cI, 10, .inl f2_12)), (q3, .inl (cI, 25, .inl g3_244)), (q4, .inl (cI, 40, .inl g4_245)), (q13, .inr (3, fs1_243)), (q8, .inr (6, fs7_4))] := hD
  refine lv_aload_n hx hb dX11_blind_75 rfl (lv_at hl 2 rfl) ?_
  refine gt_X11 hx hb hts hown hK hP 1 rfl 7 (by decide) wd_680 rfl hf_fs0_7 dX11_blind_76 ?_
  refine gt_X3 hx hb hts hown hK hP 8 rfl 1 (by decide) wd_406 rfl h_247 dX11_blind_79 ?_
  refine lv_if_le (tgt := 106) hx hb dX11_blind_82 (by decide) (fun _ => ?_) (fun h => (h (by decide)).elim)
  refine lv_iinc (v := 16) (lv' := [(2, .int 16), (1, .int 0), (0, .ref h0)]) hx hb dX11_blind_106 hl (k := 0) rfl (by decide) (by decide) rfl (fun ls hl => ?_)
  refine lv_goto (tgt := 16) hx hb dX11_blind_109 (by decide) ?_
  refine lv_iload_n hx hb dX11_blind_16 rfl (lv_at hl 0 rfl) ?_
  refine lv_bipush (v := 24) hx hb dX11_blind_17 (by decide) ?_
  refine lv_icmp_gt (tgt := 112) hx hb dX11_blind_19 (by decide) (fun h => absurd h (by decide)) (fun _ => ?_)
  refine lv_aload_n hx hb dX11_blind_22 rfl (lv_at hl 2 rfl) ?_
  refine gt_X11 hx hb hts hown hK hP 1 rfl 5 (by decide) wd_678 rfl hf_fs0_5 dX11_blind_23 ?_
  refine lv_aload_n hx hb dX11_blind_26 rfl (lv_at hl 2 rfl) ?_
  refine gt_X11 hx hb hts hown hK hP 1 rfl 13 (by decide) wd_686 rfl hf_fs0_13 dX11_blind_27 ?_
  refine lv_iload_n hx hb dX11_blind_30 rfl (lv_at hl 0 rfl) ?_
  refine lv_aload_n hx hb dX11_blind_31 rfl (lv_at hl 2 rfl) ?_
  refine gt_X11 hx hb hts hown hK hP 1 rfl 0 (by decide) wd_673 rfl hf_fs0_0 dX11_blind_32 ?_
  refine gt_X1 hx hb hts hown hK hP 0 rfl 0 (by decide) wd_39 rfl hf_fs11_0 dX11_blind_35 ?_
  refine cl_v (wr := [(q11, .inr (1, fs11)), (h0, .inr (11, fs0)), (q9, .inr (7, fs9)), (q1, .inl (cI, 250, .inl g1_5)), (q2, .inl (cI, 10, .inl g2_6)), (q16, .inl (cI, 10, .inl f2_12)), (q3, .inl (cI, 25, .inl g3_244)), (q4, .inl (cI, 40, .inl g4_245)), (q13, .inr (3, fs1_243))]) (rn_V (As := [.ref q16, .int 16, .int 0]) (rest := []) hx hb hml hown hts (c_X6_addCome l D cI cJ cZ q8 q16 fs7_4 16 h_7 _) ⟨rfl, rfl⟩ sv_X11_261 ⟨(Nat.le_of_ble_eq_true rfl), (Nat.le_of_ble_eq_true rfl)⟩ ⟨(Nat.le_of_ble_eq_true rfl), (Nat.le_of_ble_eq_true rfl)⟩ (fun _ _ _ _ h => h) (fun _ _ _ => trivial) hK hP hD [9] rfl rfl 0 6 rfl rfl rfl rfl hl.1 rfl (Nat.le_of_ble_eq_true rfl) dX11_blind_38) hP hD hS hA [9] [0, 1, 2, 3, 4, 5, 6, 7, 8] rfl rfl rfl (by decide) (fun w_254 H locs hw_253 hP hD hS => ?_)
  subst hw_253
  have hP : va_P D vwCl [(q11, .inr (1, fs11)), (h0, .inr (11, fs0)), (q9, .inr (7, fs9)), (q1, .inl (cI, 250, .inl g1_5)), (q2, .inl (cI, 10, .inl g2_6)), (q16, .inl (cI, 10, .inl f2_12)), (q3, .inl (cI, 25, .inl g3_244)), (q4, .inl (cI, 40, .inl g4_245)), (q13, .inr (3, fs1_243)), (q8, .inr (6, fs7_4))] H := hP
  have hD : va_D A [(q11, .inr (1, fs11)), (h0, .inr (11, fs0)), (q9, .inr (7, fs9)), (q1, .inl (cI, 250, .inl g1_5)), (q2, .inl (cI, 10, .inl g2_6)), (q16, .inl (cI, 10, .inl f2_12)), (q3, .inl (cI, 25, .inl g3_244)), (q4, .inl (cI, 40, .inl g4_245)), (q13, .inr (3, fs1_243)), (q8, .inr (6, fs7_4))] := hD
  refine lv_aload_n hx hb dX11_blind_41 rfl (lv_at hl 2 rfl) ?_
  refine gt_X11 hx hb hts hown hK hP 1 rfl 7 (by decide) wd_680 rfl hf_fs0_7 dX11_blind_42 ?_
  refine lv_aload_n hx hb dX11_blind_45 rfl (lv_at hl 2 rfl) ?_
  refine gt_X11 hx hb hts hown hK hP 1 rfl 0 (by decide) wd_673 rfl hf_fs0_0 dX11_blind_46 ?_
  refine gt_X1 hx hb hts hown hK hP 0 rfl 0 (by decide) wd_39 rfl hf_fs11_0 dX11_blind_49 ?_
  refine cl_v (wr := [(q11, .inr (1, fs11)), (h0, .inr (11, fs0)), (q9, .inr (7, fs9)), (q1, .inl (cI, 250, .inl g1_5)), (q2, .inl (cI, 10, .inl g2_6)), (q16, .inl (cI, 10, .inl f2_12)), (q8, .inr (6, fs7_4))]) (rn_V (As := [.int 0]) (rest := []) hx hb hml hown hts (c_X3_clear l D cI cJ cZ q13 q3 q4 fs1_243 g3_244 g4_245 h_246 h_248 h_249 _) ⟨rfl, rfl⟩ sv_X11_252 ⟨(Nat.le_of_ble_eq_true rfl), (Nat.le_of_ble_eq_true rfl)⟩ ⟨(Nat.le_of_ble_eq_true rfl), (Nat.le_of_ble_eq_true rfl)⟩ (fun _ _ _ _ h => h) (fun _ _ _ => trivial) hK hP hD [8, 6, 7] rfl rfl 0 3 rfl rfl rfl rfl hl.1 rfl (Nat.le_of_ble_eq_true rfl) dX11_blind_52) hP hD hS hA [8, 6, 7] [0, 1, 2, 3, 4, 5, 9] rfl rfl rfl (by decide) (fun w_257 H locs hw_256 hP hD hS => ?_)
  obtain ⟨fs1_259, g3_260, g4_261, rfl, h_262, h_263, h_264, h_265⟩ := hw_256
  have hP : va_P D vwCl [(q11, .inr (1, fs11)), (h0, .inr (11, fs0)), (q9, .inr (7, fs9)), (q1, .inl (cI, 250, .inl g1_5)), (q2, .inl (cI, 10, .inl g2_6)), (q16, .inl (cI, 10, .inl f2_12)), (q8, .inr (6, fs7_4)), (q13, .inr (3, fs1_259)), (q3, .inl (cI, 25, .inl g3_260)), (q4, .inl (cI, 40, .inl g4_261))] H := hP
  have hD : va_D A [(q11, .inr (1, fs11)), (h0, .inr (11, fs0)), (q9, .inr (7, fs9)), (q1, .inl (cI, 250, .inl g1_5)), (q2, .inl (cI, 10, .inl g2_6)), (q16, .inl (cI, 10, .inl f2_12)), (q8, .inr (6, fs7_4)), (q13, .inr (3, fs1_259)), (q3, .inl (cI, 25, .inl g3_260)), (q4, .inl (cI, 40, .inl g4_261))] := hD
  refine lv_aload_n hx hb dX11_blind_55 rfl (lv_at hl 2 rfl) ?_
  refine gt_X11 hx hb hts hown hK hP 1 rfl 7 (by decide) wd_680 rfl hf_fs0_7 dX11_blind_56 ?_
  refine lv_aload_n hx hb dX11_blind_59 rfl (lv_at hl 2 rfl) ?_
  refine gt_X11 hx hb hts hown hK hP 1 rfl 5 (by decide) wd_678 rfl hf_fs0_5 dX11_blind_60 ?_
  refine lv_aload_n hx hb dX11_blind_63 rfl (lv_at hl 2 rfl) ?_
  refine gt_X11 hx hb hts hown hK hP 1 rfl 6 (by decide) wd_679 rfl hf_fs0_6 dX11_blind_64 ?_
  refine lv_iload_n hx hb dX11_blind_67 rfl (lv_at hl 0 rfl) ?_
  refine lv_aload_n hx hb dX11_blind_68 rfl (lv_at hl 2 rfl) ?_
  refine gt_X11 hx hb hts hown hK hP 1 rfl 13 (by decide) wd_686 rfl hf_fs0_13 dX11_blind_69 ?_
  refine cl_v (wr := [(q11, .inr (1, fs11)), (h0, .inr (11, fs0)), (q9, .inr (7, fs9)), (q1, .inl (cI, 250, .inl g1_5)), (q2, .inl (cI, 10, .inl g2_6)), (q16, .inl (cI, 10, .inl f2_12)), (q3, .inl (cI, 25, .inl g3_260)), (q4, .inl (cI, 40, .inl g4_261))]) (rn_V (As := [.ref q8, .ref q12, .int 16, .ref q16]) (rest := []) hx hb hml hown hts (c_X3_addDay l D cI cJ cZ q13 q8 q12 q16 fs1_259 fs7_4 16 h_262 h_263 h_7 h_8 _) ⟨rfl, rfl⟩ sv_X11_265 ⟨(Nat.le_of_ble_eq_true rfl), (Nat.le_of_ble_eq_true rfl)⟩ ⟨(Nat.le_of_ble_eq_true rfl), (Nat.le_of_ble_eq_true rfl)⟩ (fun _ _ _ _ h => h) (fun _ _ _ => trivial) hK hP hD [7, 6] rfl rfl 0 3 rfl rfl rfl rfl hl.1 rfl (Nat.le_of_ble_eq_true rfl) dX11_blind_72) hP hD hS hA [7, 6] [0, 1, 2, 3, 4, 5, 8, 9] rfl rfl rfl (by decide) (fun w_267 H locs hw_266 hP hD hS => ?_)
  subst hw_266
  have hP : va_P D vwCl [(q11, .inr (1, fs11)), (h0, .inr (11, fs0)), (q9, .inr (7, fs9)), (q1, .inl (cI, 250, .inl g1_5)), (q2, .inl (cI, 10, .inl g2_6)), (q16, .inl (cI, 10, .inl f2_12)), (q3, .inl (cI, 25, .inl g3_260)), (q4, .inl (cI, 40, .inl g4_261)), (q13, .inr (3, fs1_259)), (q8, .inr (6, fs7_4))] H := hP
  have hD : va_D A [(q11, .inr (1, fs11)), (h0, .inr (11, fs0)), (q9, .inr (7, fs9)), (q1, .inl (cI, 250, .inl g1_5)), (q2, .inl (cI, 10, .inl g2_6)), (q16, .inl (cI, 10, .inl f2_12)), (q3, .inl (cI, 25, .inl g3_260)), (q4, .inl (cI, 40, .inl g4_261)), (q13, .inr (3, fs1_259)), (q8, .inr (6, fs7_4))] := hD
  refine lv_aload_n hx hb dX11_blind_75 rfl (lv_at hl 2 rfl) ?_
  refine gt_X11 hx hb hts hown hK hP 1 rfl 7 (by decide) wd_680 rfl hf_fs0_7 dX11_blind_76 ?_
  refine gt_X3 hx hb hts hown hK hP 8 rfl 1 (by decide) wd_406 rfl h_263 dX11_blind_79 ?_
  refine lv_if_le (tgt := 106) hx hb dX11_blind_82 (by decide) (fun _ => ?_) (fun h => (h (by decide)).elim)
  refine lv_iinc (v := 17) (lv' := [(2, .int 17), (1, .int 0), (0, .ref h0)]) hx hb dX11_blind_106 hl (k := 0) rfl (by decide) (by decide) rfl (fun ls hl => ?_)
  refine lv_goto (tgt := 16) hx hb dX11_blind_109 (by decide) ?_
  refine lv_iload_n hx hb dX11_blind_16 rfl (lv_at hl 0 rfl) ?_
  refine lv_bipush (v := 24) hx hb dX11_blind_17 (by decide) ?_
  refine lv_icmp_gt (tgt := 112) hx hb dX11_blind_19 (by decide) (fun h => absurd h (by decide)) (fun _ => ?_)
  refine lv_aload_n hx hb dX11_blind_22 rfl (lv_at hl 2 rfl) ?_
  refine gt_X11 hx hb hts hown hK hP 1 rfl 5 (by decide) wd_678 rfl hf_fs0_5 dX11_blind_23 ?_
  refine lv_aload_n hx hb dX11_blind_26 rfl (lv_at hl 2 rfl) ?_
  refine gt_X11 hx hb hts hown hK hP 1 rfl 13 (by decide) wd_686 rfl hf_fs0_13 dX11_blind_27 ?_
  refine lv_iload_n hx hb dX11_blind_30 rfl (lv_at hl 0 rfl) ?_
  refine lv_aload_n hx hb dX11_blind_31 rfl (lv_at hl 2 rfl) ?_
  refine gt_X11 hx hb hts hown hK hP 1 rfl 0 (by decide) wd_673 rfl hf_fs0_0 dX11_blind_32 ?_
  refine gt_X1 hx hb hts hown hK hP 0 rfl 0 (by decide) wd_39 rfl hf_fs11_0 dX11_blind_35 ?_
  refine cl_v (wr := [(q11, .inr (1, fs11)), (h0, .inr (11, fs0)), (q9, .inr (7, fs9)), (q1, .inl (cI, 250, .inl g1_5)), (q2, .inl (cI, 10, .inl g2_6)), (q16, .inl (cI, 10, .inl f2_12)), (q3, .inl (cI, 25, .inl g3_260)), (q4, .inl (cI, 40, .inl g4_261)), (q13, .inr (3, fs1_259))]) (rn_V (As := [.ref q16, .int 17, .int 0]) (rest := []) hx hb hml hown hts (c_X6_addCome l D cI cJ cZ q8 q16 fs7_4 17 h_7 _) ⟨rfl, rfl⟩ sv_X11_261 ⟨(Nat.le_of_ble_eq_true rfl), (Nat.le_of_ble_eq_true rfl)⟩ ⟨(Nat.le_of_ble_eq_true rfl), (Nat.le_of_ble_eq_true rfl)⟩ (fun _ _ _ _ h => h) (fun _ _ _ => trivial) hK hP hD [9] rfl rfl 0 6 rfl rfl rfl rfl hl.1 rfl (Nat.le_of_ble_eq_true rfl) dX11_blind_38) hP hD hS hA [9] [0, 1, 2, 3, 4, 5, 6, 7, 8] rfl rfl rfl (by decide) (fun w_270 H locs hw_269 hP hD hS => ?_)
  subst hw_269
  have hP : va_P D vwCl [(q11, .inr (1, fs11)), (h0, .inr (11, fs0)), (q9, .inr (7, fs9)), (q1, .inl (cI, 250, .inl g1_5)), (q2, .inl (cI, 10, .inl g2_6)), (q16, .inl (cI, 10, .inl f2_12)), (q3, .inl (cI, 25, .inl g3_260)), (q4, .inl (cI, 40, .inl g4_261)), (q13, .inr (3, fs1_259)), (q8, .inr (6, fs7_4))] H := hP
  have hD : va_D A [(q11, .inr (1, fs11)), (h0, .inr (11, fs0)), (q9, .inr (7, fs9)), (q1, .inl (cI, 250, .inl g1_5)), (q2, .inl (cI, 10, .inl g2_6)), (q16, .inl (cI, 10, .inl f2_12)), (q3, .inl (cI, 25, .inl g3_260)), (q4, .inl (cI, 40, .inl g4_261)), (q13, .inr (3, fs1_259)), (q8, .inr (6, fs7_4))] := hD
  refine lv_aload_n hx hb dX11_blind_41 rfl (lv_at hl 2 rfl) ?_
  refine gt_X11 hx hb hts hown hK hP 1 rfl 7 (by decide) wd_680 rfl hf_fs0_7 dX11_blind_42 ?_
  refine lv_aload_n hx hb dX11_blind_45 rfl (lv_at hl 2 rfl) ?_
  refine gt_X11 hx hb hts hown hK hP 1 rfl 0 (by decide) wd_673 rfl hf_fs0_0 dX11_blind_46 ?_
  refine gt_X1 hx hb hts hown hK hP 0 rfl 0 (by decide) wd_39 rfl hf_fs11_0 dX11_blind_49 ?_
  refine cl_v (wr := [(q11, .inr (1, fs11)), (h0, .inr (11, fs0)), (q9, .inr (7, fs9)), (q1, .inl (cI, 250, .inl g1_5)), (q2, .inl (cI, 10, .inl g2_6)), (q16, .inl (cI, 10, .inl f2_12)), (q8, .inr (6, fs7_4))]) (rn_V (As := [.int 0]) (rest := []) hx hb hml hown hts (c_X3_clear l D cI cJ cZ q13 q3 q4 fs1_259 g3_260 g4_261 h_262 h_264 h_265 _) ⟨rfl, rfl⟩ sv_X11_252 ⟨(Nat.le_of_ble_eq_true rfl), (Nat.le_of_ble_eq_true rfl)⟩ ⟨(Nat.le_of_ble_eq_true rfl), (Nat.le_of_ble_eq_true rfl)⟩ (fun _ _ _ _ h => h) (fun _ _ _ => trivial) hK hP hD [8, 6, 7] rfl rfl 0 3 rfl rfl rfl rfl hl.1 rfl (Nat.le_of_ble_eq_true rfl) dX11_blind_52) hP hD hS hA [8, 6, 7] [0, 1, 2, 3, 4, 5, 9] rfl rfl rfl (by decide) (fun w_273 H locs hw_272 hP hD hS => ?_)
  obtain ⟨fs1_275, g3_276, g4_277, rfl, h_278, h_279, h_280, h_281⟩ := hw_272
  have hP : va_P D vwCl [(q11, .inr (1, fs11)), (h0, .inr (11, fs0)), (q9, .inr (7, fs9)), (q1, .inl (cI, 250, .inl g1_5)), (q2, .inl (cI, 10, .inl g2_6)), (q16, .inl (cI, 10, .inl f2_12)), (q8, .inr (6, fs7_4)), (q13, .inr (3, fs1_275)), (q3, .inl (cI, 25, .inl g3_276)), (q4, .inl (cI, 40, .inl g4_277))] H := hP
  have hD : va_D A [(q11, .inr (1, fs11)), (h0, .inr (11, fs0)), (q9, .inr (7, fs9)), (q1, .inl (cI, 250, .inl g1_5)), (q2, .inl (cI, 10, .inl g2_6)), (q16, .inl (cI, 10, .inl f2_12)), (q8, .inr (6, fs7_4)), (q13, .inr (3, fs1_275)), (q3, .inl (cI, 25, .inl g3_276)), (q4, .inl (cI, 40, .inl g4_277))] := hD
  refine lv_aload_n hx hb dX11_blind_55 rfl (lv_at hl 2 rfl) ?_
  refine gt_X11 hx hb hts hown hK hP 1 rfl 7 (by decide) wd_680 rfl hf_fs0_7 dX11_blind_56 ?_
  refine lv_aload_n hx hb dX11_blind_59 rfl (lv_at hl 2 rfl) ?_
  refine gt_X11 hx hb hts hown hK hP 1 rfl 5 (by decide) wd_678 rfl hf_fs0_5 dX11_blind_60 ?_
  refine lv_aload_n hx hb dX11_blind_63 rfl (lv_at hl 2 rfl) ?_
  refine gt_X11 hx hb hts hown hK hP 1 rfl 6 (by decide) wd_679 rfl hf_fs0_6 dX11_blind_64 ?_
  refine lv_iload_n hx hb dX11_blind_67 rfl (lv_at hl 0 rfl) ?_
  refine lv_aload_n hx hb dX11_blind_68 rfl (lv_at hl 2 rfl) ?_
  refine gt_X11 hx hb hts hown hK hP 1 rfl 13 (by decide) wd_686 rfl hf_fs0_13 dX11_blind_69 ?_
  refine cl_v (wr := [(q11, .inr (1, fs11)), (h0, .inr (11, fs0)), (q9, .inr (7, fs9)), (q1, .inl (cI, 250, .inl g1_5)), (q2, .inl (cI, 10, .inl g2_6)), (q16, .inl (cI, 10, .inl f2_12)), (q3, .inl (cI, 25, .inl g3_276)), (q4, .inl (cI, 40, .inl g4_277))]) (rn_V (As := [.ref q8, .ref q12, .int 17, .ref q16]) (rest := []) hx hb hml hown hts (c_X3_addDay l D cI cJ cZ q13 q8 q12 q16 fs1_275 fs7_4 17 h_278 h_279 h_7 h_8 _) ⟨rfl, rfl⟩ sv_X11_265 ⟨(Nat.le_of_ble_eq_true rfl), (Nat.le_of_ble_eq_true rfl)⟩ ⟨(Nat.le_of_ble_eq_true rfl), (Nat.le_of_ble_eq_true rfl)⟩ (fun _ _ _ _ h => h) (fun _ _ _ => trivial) hK hP hD [7, 6] rfl rfl 0 3 rfl rfl rfl rfl hl.1 rfl (Nat.le_of_ble_eq_true rfl) dX11_blind_72) hP hD hS hA [7, 6] [0, 1, 2, 3, 4, 5, 8, 9] rfl rfl rfl (by decide) (fun w_283 H locs hw_282 hP hD hS => ?_)
  subst hw_282
  have hP : va_P D vwCl [(q11, .inr (1, fs11)), (h0, .inr (11, fs0)), (q9, .inr (7, fs9)), (q1, .inl (cI, 250, .inl g1_5)), (q2, .inl (cI, 10, .inl g2_6)), (q16, .inl (cI, 10, .inl f2_12)), (q3, .inl (cI, 25, .inl g3_276)), (q4, .inl (cI, 40, .inl g4_277)), (q13, .inr (3, fs1_275)), (q8, .inr (6, fs7_4))] H := hP
  have hD : va_D A [(q11, .inr (1, fs11)), (h0, .inr (11, fs0)), (q9, .inr (7, fs9)), (q1, .inl (cI, 250, .inl g1_5)), (q2, .inl (cI, 10, .inl g2_6)), (q16, .inl (cI, 10, .inl f2_12)), (q3, .inl (cI, 25, .inl g3_276)), (q4, .inl (cI, 40, .inl g4_277)), (q13, .inr (3, fs1_275)), (q8, .inr (6, fs7_4))] := hD
  refine lv_aload_n hx hb dX11_blind_75 rfl (lv_at hl 2 rfl) ?_
  refine gt_X11 hx hb hts hown hK hP 1 rfl 7 (by decide) wd_680 rfl hf_fs0_7 dX11_blind_76 ?_
  refine gt_X3 hx hb hts hown hK hP 8 rfl 1 (by decide) wd_406 rfl h_279 dX11_blind_79 ?_
  refine lv_if_le (tgt := 106) hx hb dX11_blind_82 (by decide) (fun _ => ?_) (fun h => (h (by decide)).elim)
  refine lv_iinc (v := 18) (lv' := [(2, .int 18), (1, .int 0), (0, .ref h0)]) hx hb dX11_blind_106 hl (k := 0) rfl (by decide) (by decide) rfl (fun ls hl => ?_)
  refine lv_goto (tgt := 16) hx hb dX11_blind_109 (by decide) ?_
  refine lv_iload_n hx hb dX11_blind_16 rfl (lv_at hl 0 rfl) ?_
  refine lv_bipush (v := 24) hx hb dX11_blind_17 (by decide) ?_
  refine lv_icmp_gt (tgt := 112) hx hb dX11_blind_19 (by decide) (fun h => absurd h (by decide)) (fun _ => ?_)
  refine lv_aload_n hx hb dX11_blind_22 rfl (lv_at hl 2 rfl) ?_
  refine gt_X11 hx hb hts hown hK hP 1 rfl 5 (by decide) wd_678 rfl hf_fs0_5 dX11_blind_23 ?_
  refine lv_aload_n hx hb dX11_blind_26 rfl (lv_at hl 2 rfl) ?_
  refine gt_X11 hx hb hts hown hK hP 1 rfl 13 (by decide) wd_686 rfl hf_fs0_13 dX11_blind_27 ?_
  refine lv_iload_n hx hb dX11_blind_30 rfl (lv_at hl 0 rfl) ?_
  refine lv_aload_n hx hb dX11_blind_31 rfl (lv_at hl 2 rfl) ?_
  refine gt_X11 hx hb hts hown hK hP 1 rfl 0 (by decide) wd_673 rfl hf_fs0_0 dX11_blind_32 ?_
  refine gt_X1 hx hb hts hown hK hP 0 rfl 0 (by decide) wd_39 rfl hf_fs11_0 dX11_blind_35 ?_
  refine cl_v (wr := [(q11, .inr (1, fs11)), (h0, .inr (11, fs0)), (q9, .inr (7, fs9)), (q1, .inl (cI, 250, .inl g1_5)), (q2, .inl (cI, 10, .inl g2_6)), (q16, .inl (cI, 10, .inl f2_12)), (q3, .inl (cI, 25, .inl g3_276)), (q4, .inl (cI, 40, .inl g4_277)), (q13, .inr (3, fs1_275))]) (rn_V (As := [.ref q16, .int 18, .int 0]) (rest := []) hx hb hml hown hts (c_X6_addCome l D cI cJ cZ q8 q16 fs7_4 18 h_7 _) ⟨rfl, rfl⟩ sv_X11_261 ⟨(Nat.le_of_ble_eq_true rfl), (Nat.le_of_ble_eq_true rfl)⟩ ⟨(Nat.le_of_ble_eq_true rfl), (Nat.le_of_ble_eq_true rfl)⟩ (fun _ _ _ _ h => h) (fun _ _ _ => trivial) hK hP hD [9] rfl rfl 0 6 rfl rfl rfl rfl hl.1 rfl (Nat.le_of_ble_eq_true rfl) dX11_blind_38) hP hD hS hA [9] [0, 1, 2, 3, 4, 5, 6, 7, 8] rfl rfl rfl (by decide) (fun w_286 H locs hw_285 hP hD hS => ?_)
  subst hw_285
  have hP : va_P D vwCl [(q11, .inr (1, fs11)), (h0, .inr (11, fs0)), (q9, .inr (7, fs9)), (q1, .inl (cI, 250, .inl g1_5)), (q2, .inl (cI, 10, .inl g2_6)), (q16, .inl (cI, 10, .inl f2_12)), (q3, .inl (cI, 25, .inl g3_276)), (q4, .inl (cI, 40, .inl g4_277)), (q13, .inr (3, fs1_275)), (q8, .inr (6, fs7_4))] H := hP
  have hD : va_D A [(q11, .inr (1, fs11)), (h0, .inr (11, fs0)), (q9, .inr (7, fs9)), (q1, .inl (cI, 250, .inl g1_5)), (q2, .inl (cI, 10, .inl g2_6)), (q16, .inl (cI, 10, .inl f2_12)), (q3, .inl (cI, 25, .inl g3_276)), (q4, .inl (cI, 40, .inl g4_277)), (q13, .inr (3, fs1_275)), (q8, .inr (6, fs7_4))] := hD
  refine lv_aload_n hx hb dX11_blind_41 rfl (lv_at hl 2 rfl) ?_
  refine gt_X11 hx hb hts hown hK hP 1 rfl 7 (by decide) wd_680 rfl hf_fs0_7 dX11_blind_42 ?_
  refine lv_aload_n hx hb dX11_blind_45 rfl (lv_at hl 2 rfl) ?_
  refine gt_X11 hx hb hts hown hK hP 1 rfl 0 (by decide) wd_673 rfl hf_fs0_0 dX11_blind_46 ?_
  refine gt_X1 hx hb hts hown hK hP 0 rfl 0 (by decide) wd_39 rfl hf_fs11_0 dX11_blind_49 ?_
  refine cl_v (wr := [(q11, .inr (1, fs11)), (h0, .inr (11, fs0)), (q9, .inr (7, fs9)), (q1, .inl (cI, 250, .inl g1_5)), (q2, .inl (cI, 10, .inl g2_6)), (q16, .inl (cI, 10, .inl f2_12)), (q8, .inr (6, fs7_4))]) (rn_V (As := [.int 0]) (rest := []) hx hb hml hown hts (c_X3_clear l D cI cJ cZ q13 q3 q4 fs1_275 g3_276 g4_277 h_278 h_280 h_281 _) ⟨rfl, rfl⟩ sv_X11_252 ⟨(Nat.le_of_ble_eq_true rfl), (Nat.le_of_ble_eq_true rfl)⟩ ⟨(Nat.le_of_ble_eq_true rfl), (Nat.le_of_ble_eq_true rfl)⟩ (fun _ _ _ _ h => h) (fun _ _ _ => trivial) hK hP hD [8, 6, 7] rfl rfl 0 3 rfl rfl rfl rfl hl.1 rfl (Nat.le_of_ble_eq_true rfl) dX11_blind_52) hP hD hS hA [8, 6, 7] [0, 1, 2, 3, 4, 5, 9] rfl rfl rfl (by decide) (fun w_289 H locs hw_288 hP hD hS => ?_)
  obtain ⟨fs1_291, g3_292, g4_293, rfl, h_294, h_295, h_296, h_297⟩ := hw_288
  have hP : va_P D vwCl [(q11, .inr (1, fs11)), (h0, .inr (11, fs0)), (q9, .inr (7, fs9)), (q1, .inl (cI, 250, .inl g1_5)), (q2, .inl (cI, 10, .inl g2_6)), (q16, .inl (cI, 10, .inl f2_12)), (q8, .inr (6, fs7_4)), (q13, .inr (3, fs1_291)), (q3, .inl (cI, 25, .inl g3_292)), (q4, .inl (cI, 40, .inl g4_293))] H := hP
  have hD : va_D A [(q11, .inr (1, fs11)), (h0, .inr (11, fs0)), (q9, .inr (7, fs9)), (q1, .inl (cI, 250, .inl g1_5)), (q2, .inl (cI, 10, .inl g2_6)), (q16, .inl (cI, 10, .inl f2_12)), (q8, .inr (6, fs7_4)), (q13, .inr (3, fs1_291)), (q3, .inl (cI, 25, .inl g3_292)), (q4, .inl (cI, 40, .inl g4_293))] := hD
  refine lv_aload_n hx hb dX11_blind_55 rfl (lv_at hl 2 rfl) ?_
  refine gt_X11 hx hb hts hown hK hP 1 rfl 7 (by decide) wd_680 rfl hf_fs0_7 dX11_blind_56 ?_
  refine lv_aload_n hx hb dX11_blind_59 rfl (lv_at hl 2 rfl) ?_
  refine gt_X11 hx hb hts hown hK hP 1 rfl 5 (by decide) wd_678 rfl hf_fs0_5 dX11_blind_60 ?_
  refine lv_aload_n hx hb dX11_blind_63 rfl (lv_at hl 2 rfl) ?_
  refine gt_X11 hx hb hts hown hK hP 1 rfl 6 (by decide) wd_679 rfl hf_fs0_6 dX11_blind_64 ?_
  refine lv_iload_n hx hb dX11_blind_67 rfl (lv_at hl 0 rfl) ?_
  refine lv_aload_n hx hb dX11_blind_68 rfl (lv_at hl 2 rfl) ?_
  refine gt_X11 hx hb hts hown hK hP 1 rfl 13 (by decide) wd_686 rfl hf_fs0_13 dX11_blind_69 ?_
  refine cl_v (wr := [(q11, .inr (1, fs11)), (h0, .inr (11, fs0)), (q9, .inr (7, fs9)), (q1, .inl (cI, 250, .inl g1_5)), (q2, .inl (cI, 10, .inl g2_6)), (q16, .inl (cI, 10, .inl f2_12)), (q3, .inl (cI, 25, .inl g3_292)), (q4, .inl (cI, 40, .inl g4_293))]) (rn_V (As := [.ref q8, .ref q12, .int 18, .ref q16]) (rest := []) hx hb hml hown hts (c_X3_addDay l D cI cJ cZ q13 q8 q12 q16 fs1_291 fs7_4 18 h_294 h_295 h_7 h_8 _) ⟨rfl, rfl⟩ sv_X11_265 ⟨(Nat.le_of_ble_eq_true rfl), (Nat.le_of_ble_eq_true rfl)⟩ ⟨(Nat.le_of_ble_eq_true rfl), (Nat.le_of_ble_eq_true rfl)⟩ (fun _ _ _ _ h => h) (fun _ _ _ => trivial) hK hP hD [7, 6] rfl rfl 0 3 rfl rfl rfl rfl hl.1 rfl (Nat.le_of_ble_eq_true rfl) dX11_blind_72) hP hD hS hA [7, 6] [0, 1, 2, 3, 4, 5, 8, 9] rfl rfl rfl (by decide) (fun w_299 H locs hw_298 hP hD hS => ?_)
  subst hw_298
  have hP : va_P D vwCl [(q11, .inr (1, fs11)), (h0, .inr (11, fs0)), (q9, .inr (7, fs9)), (q1, .inl (cI, 250, .inl g1_5)), (q2, .inl (cI, 10, .inl g2_6)), (q16, .inl (cI, 10, .inl f2_12)), (q3, .inl (cI, 25, .inl g3_292)), (q4, .inl (cI, 40, .inl g4_293)), (q13, .inr (3, fs1_291)), (q8, .inr (6, fs7_4))] H := hP
  have hD : va_D A [(q11, .inr (1, fs11)), (h0, .inr (11, fs0)), (q9, .inr (7, fs9)), (q1, .inl (cI, 250, .inl g1_5)), (q2, .inl (cI, 10, .inl g2_6)), (q16, .inl (cI, 10, .inl f2_12)), (q3, .inl (cI, 25, .inl g3_292)), (q4, .inl (cI, 40, .inl g4_293)), (q13, .inr (3, fs1_291)), (q8, .inr (6, fs7_4))] := hD
  refine lv_aload_n hx hb dX11_blind_75 rfl (lv_at hl 2 rfl) ?_
  refine gt_X11 hx hb hts hown hK hP 1 rfl 7 (by decide) wd_680 rfl hf_fs0_7 dX11_blind_76 ?_
  refine gt_X3 hx hb hts hown hK hP 8 rfl 1 (by decide) wd_406 rfl h_295 dX11_blind_79 ?_
  refine lv_if_le (tgt := 106) hx hb dX11_blind_82 (by decide) (fun _ => ?_) (fun h => (h (by decide)).elim)
  refine lv_iinc (v := 19) (lv' := [(2, .int 19), (1, .int 0), (0, .ref h0)]) hx hb dX11_blind_106 hl (k := 0) rfl (by decide) (by decide) rfl (fun ls hl => ?_)
  refine lv_goto (tgt := 16) hx hb dX11_blind_109 (by decide) ?_
  refine lv_iload_n hx hb dX11_blind_16 rfl (lv_at hl 0 rfl) ?_
  refine lv_bipush (v := 24) hx hb dX11_blind_17 (by decide) ?_
  refine lv_icmp_gt (tgt := 112) hx hb dX11_blind_19 (by decide) (fun h => absurd h (by decide)) (fun _ => ?_)
  refine lv_aload_n hx hb dX11_blind_22 rfl (lv_at hl 2 rfl) ?_
  refine gt_X11 hx hb hts hown hK hP 1 rfl 5 (by decide) wd_678 rfl hf_fs0_5 dX11_blind_23 ?_
  refine lv_aload_n hx hb dX11_blind_26 rfl (lv_at hl 2 rfl) ?_
  refine gt_X11 hx hb hts hown hK hP 1 rfl 13 (by decide) wd_686 rfl hf_fs0_13 dX11_blind_27 ?_
  refine lv_iload_n hx hb dX11_blind_30 rfl (lv_at hl 0 rfl) ?_
  refine lv_aload_n hx hb dX11_blind_31 rfl (lv_at hl 2 rfl) ?_
  refine gt_X11 hx hb hts hown hK hP 1 rfl 0 (by decide) wd_673 rfl hf_fs0_0 dX11_blind_32 ?_
  refine gt_X1 hx hb hts hown hK hP 0 rfl 0 (by decide) wd_39 rfl hf_fs11_0 dX11_blind_35 ?_
  refine cl_v (wr := [(q11, .inr (1, fs11)), (h0, .inr (11, fs0)), (q9, .inr (7, fs9)), (q1, .inl (cI, 250, .inl g1_5)), (q2, .inl (cI, 10, .inl g2_6)), (q16, .inl (cI, 10, .inl f2_12)), (q3, .inl (cI, 25, .inl g3_292)), (q4, .inl (cI, 40, .inl g4_293)), (q13, .inr (3, fs1_291))]) (rn_V (As := [.ref q16, .int 19, .int 0]) (rest := []) hx hb hml hown hts (c_X6_addCome l D cI cJ cZ q8 q16 fs7_4 19 h_7 _) ⟨rfl, rfl⟩ sv_X11_261 ⟨(Nat.le_of_ble_eq_true rfl), (Nat.le_of_ble_eq_true rfl)⟩ ⟨(Nat.le_of_ble_eq_true rfl), (Nat.le_of_ble_eq_true rfl)⟩ (fun _ _ _ _ h => h) (fun _ _ _ => trivial) hK hP hD [9] rfl rfl 0 6 rfl rfl rfl rfl hl.1 rfl (Nat.le_of_ble_eq_true rfl) dX11_blind_38) hP hD hS hA [9] [0, 1, 2, 3, 4, 5, 6, 7, 8] rfl rfl rfl (by decide) (fun w_302 H locs hw_301 hP hD hS => ?_)
  subst hw_301
  have hP : va_P D vwCl [(q11, .inr (1, fs11)), (h0, .inr (11, fs0)), (q9, .inr (7, fs9)), (q1, .inl (cI, 250, .inl g1_5)), (q2, .inl (cI, 10, .inl g2_6)), (q16, .inl (cI, 10, .inl f2_12)), (q3, .inl (cI, 25, .inl g3_292)), (q4, .inl (cI, 40, .inl g4_293)), (q13, .inr (3, fs1_291)), (q8, .inr (6, fs7_4))] H := hP
  have hD : va_D A [(q11, .inr (1, fs11)), (h0, .inr (11, fs0)), (q9, .inr (7, fs9)), (q1, .inl (cI, 250, .inl g1_5)), (q2, .inl (cI, 10, .inl g2_6)), (q16, .inl (cI, 10, .inl f2_12)), (q3, .inl (cI, 25, .inl g3_292)), (q4, .inl (cI, 40, .inl g4_293)), (q13, .inr (3, fs1_291)), (q8, .inr (6, fs7_4))] := hD
  refine lv_aload_n hx hb dX11_blind_41 rfl (lv_at hl 2 rfl) ?_
  refine gt_X11 hx hb hts hown hK hP 1 rfl 7 (by decide) wd_680 rfl hf_fs0_7 dX11_blind_42 ?_
  refine lv_aload_n hx hb dX11_blind_45 rfl (lv_at hl 2 rfl) ?_
  refine gt_X11 hx hb hts hown hK hP 1 rfl 0 (by decide) wd_673 rfl hf_fs0_0 dX11_blind_46 ?_
  refine gt_X1 hx hb hts hown hK hP 0 rfl 0 (by decide) wd_39 rfl hf_fs11_0 dX11_blind_49 ?_
  refine cl_v (wr := [(q11, .inr (1, fs11)), (h0, .inr (11, fs0)), (q9, .inr (7, fs9)), (q1, .inl (cI, 250, .inl g1_5)), (q2, .inl (cI, 10, .inl g2_6)), (q16, .inl (cI, 10, .inl f2_12)), (q8, .inr (6, fs7_4))]) (rn_V (As := [.int 0]) (rest := []) hx hb hml hown hts (c_X3_clear l D cI cJ cZ q13 q3 q4 fs1_291 g3_292 g4_293 h_294 h_296 h_297 _) ⟨rfl, rfl⟩ sv_X11_252 ⟨(Nat.le_of_ble_eq_true rfl), (Nat.le_of_ble_eq_true rfl)⟩ ⟨(Nat.le_of_ble_eq_true rfl), (Nat.le_of_ble_eq_true rfl)⟩ (fun _ _ _ _ h => h) (fun _ _ _ => trivial) hK hP hD [8, 6, 7] rfl rfl 0 3 rfl rfl rfl rfl hl.1 rfl (Nat.le_of_ble_eq_true rfl) dX11_blind_52) hP hD hS hA [8, 6, 7] [0, 1, 2, 3, 4, 5, 9] rfl rfl rfl (by decide) (fun w_305 H locs hw_304 hP hD hS => ?_)
  obtain ⟨fs1_307, g3_308, g4_309, rfl, h_310, h_311, h_312, h_313⟩ := hw_304
  have hP : va_P D vwCl [(q11, .inr (1, fs11)), (h0, .inr (11, fs0)), (q9, .inr (7, fs9)), (q1, .inl (cI, 250, .inl g1_5)), (q2, .inl (cI, 10, .inl g2_6)), (q16, .inl (cI, 10, .inl f2_12)), (q8, .inr (6, fs7_4)), (q13, .inr (3, fs1_307)), (q3, .inl (cI, 25, .inl g3_308)), (q4, .inl (cI, 40, .inl g4_309))] H := hP
  have hD : va_D A [(q11, .inr (1, fs11)), (h0, .inr (11, fs0)), (q9, .inr (7, fs9)), (q1, .inl (cI, 250, .inl g1_5)), (q2, .inl (cI, 10, .inl g2_6)), (q16, .inl (cI, 10, .inl f2_12)), (q8, .inr (6, fs7_4)), (q13, .inr (3, fs1_307)), (q3, .inl (cI, 25, .inl g3_308)), (q4, .inl (cI, 40, .inl g4_309))] := hD
  refine lv_aload_n hx hb dX11_blind_55 rfl (lv_at hl 2 rfl) ?_
  refine gt_X11 hx hb hts hown hK hP 1 rfl 7 (by decide) wd_680 rfl hf_fs0_7 dX11_blind_56 ?_
  refine lv_aload_n hx hb dX11_blind_59 rfl (lv_at hl 2 rfl) ?_
  refine gt_X11 hx hb hts hown hK hP 1 rfl 5 (by decide) wd_678 rfl hf_fs0_5 dX11_blind_60 ?_
  refine lv_aload_n hx hb dX11_blind_63 rfl (lv_at hl 2 rfl) ?_
  refine gt_X11 hx hb hts hown hK hP 1 rfl 6 (by decide) wd_679 rfl hf_fs0_6 dX11_blind_64 ?_
  refine lv_iload_n hx hb dX11_blind_67 rfl (lv_at hl 0 rfl) ?_
  refine lv_aload_n hx hb dX11_blind_68 rfl (lv_at hl 2 rfl) ?_
  refine gt_X11 hx hb hts hown hK hP 1 rfl 13 (by decide) wd_686 rfl hf_fs0_13 dX11_blind_69 ?_
  refine cl_v (wr := [(q11, .inr (1, fs11)), (h0, .inr (11, fs0)), (q9, .inr (7, fs9)), (q1, .inl (cI, 250, .inl g1_5)), (q2, .inl (cI, 10, .inl g2_6)), (q16, .inl (cI, 10, .inl f2_12)), (q3, .inl (cI, 25, .inl g3_308)), (q4, .inl (cI, 40, .inl g4_309))]) (rn_V (As := [.ref q8, .ref q12, .int 19, .ref q16]) (rest := []) hx hb hml hown hts (c_X3_addDay l D cI cJ cZ q13 q8 q12 q16 fs1_307 fs7_4 19 h_310 h_311 h_7 h_8 _) ⟨rfl, rfl⟩ sv_X11_265 ⟨(Nat.le_of_ble_eq_true rfl), (Nat.le_of_ble_eq_true rfl)⟩ ⟨(Nat.le_of_ble_eq_true rfl), (Nat.le_of_ble_eq_true rfl)⟩ (fun _ _ _ _ h => h) (fun _ _ _ => trivial) hK hP hD [7, 6] rfl rfl 0 3 rfl rfl rfl rfl hl.1 rfl (Nat.le_of_ble_eq_true rfl) dX11_blind_72) hP hD hS hA [7, 6] [0, 1, 2, 3, 4, 5, 8, 9] rfl rfl rfl (by decide) (fun w_315 H locs hw_314 hP hD hS => ?_)
  subst hw_314
  have hP : va_P D vwCl [(q11, .inr (1, fs11)), (h0, .inr (11, fs0)), (q9, .inr (7, fs9)), (q1, .inl (cI, 250, .inl g1_5)), (q2, .inl (cI, 10, .inl g2_6)), (q16, .inl (cI, 10, .inl f2_12)), (q3, .inl (cI, 25, .inl g3_308)), (q4, .inl (cI, 40, .inl g4_309)), (q13, .inr (3, fs1_307)), (q8, .inr (6, fs7_4))] H := hP
  have hD : va_D A [(q11, .inr (1, fs11)), (h0, .inr (11, fs0)), (q9, .inr (7, fs9)), (q1, .inl (cI, 250, .inl g1_5)), (q2, .inl (cI, 10, .inl g2_6)), (q16, .inl (cI, 10, .inl f2_12)), (q3, .inl (cI, 25, .inl g3_308)), (q4, .inl (cI, 40, .inl g4_309)), (q13, .inr (3, fs1_307)), (q8, .inr (6, fs7_4))] := hD
  refine lv_aload_n hx hb dX11_blind_75 rfl (lv_at hl 2 rfl) ?_
  refine gt_X11 hx hb hts hown hK hP 1 rfl 7 (by decide) wd_680 rfl hf_fs0_7 dX11_blind_76 ?_
  refine gt_X3 hx hb hts hown hK hP 8 rfl 1 (by decide) wd_406 rfl h_311 dX11_blind_79 ?_
  refine lv_if_le (tgt := 106) hx hb dX11_blind_82 (by decide) (fun _ => ?_) (fun h => (h (by decide)).elim)
  refine lv_iinc (v := 20) (lv' := [(2, .int 20), (1, .int 0), (0, .ref h0)]) hx hb dX11_blind_106 hl (k := 0) rfl (by decide) (by decide) rfl (fun ls hl => ?_)
  refine lv_goto (tgt := 16) hx hb dX11_blind_109 (by decide) ?_
  refine lv_iload_n hx hb dX11_blind_16 rfl (lv_at hl 0 rfl) ?_
  refine lv_bipush (v := 24) hx hb dX11_blind_17 (by decide) ?_
  refine lv_icmp_gt (tgt := 112) hx hb dX11_blind_19 (by decide) (fun h => absurd h (by decide)) (fun _ => ?_)
  refine lv_aload_n hx hb dX11_blind_22 rfl (lv_at hl 2 rfl) ?_
  refine gt_X11 hx hb hts hown hK hP 1 rfl 5 (by decide) wd_678 rfl hf_fs0_5 dX11_blind_23 ?_
  refine lv_aload_n hx hb dX11_blind_26 rfl (lv_at hl 2 rfl) ?_
  refine gt_X11 hx hb hts hown hK hP 1 rfl 13 (by decide) wd_686 rfl hf_fs0_13 dX11_blind_27 ?_
  refine lv_iload_n hx hb dX11_blind_30 rfl (lv_at hl 0 rfl) ?_
  refine lv_aload_n hx hb dX11_blind_31 rfl (lv_at hl 2 rfl) ?_
  refine gt_X11 hx hb hts hown hK hP 1 rfl 0 (by decide) wd_673 rfl hf_fs0_0 dX11_blind_32 ?_
  refine gt_X1 hx hb hts hown hK hP 0 rfl 0 (by decide) wd_39 rfl hf_fs11_0 dX11_blind_35 ?_
  refine cl_v (wr := [(q11, .inr (1, fs11)), (h0, .inr (11, fs0)), (q9, .inr (7, fs9)), (q1, .inl (cI, 250, .inl g1_5)), (q2, .inl (cI, 10, .inl g2_6)), (q16, .inl (cI, 10, .inl f2_12)), (q3, .inl (cI, 25, .inl g3_308)), (q4, .inl (cI, 40, .inl g4_309)), (q13, .inr (3, fs1_307))]) (rn_V (As := [.ref q16, .int 20, .int 0]) (rest := []) hx hb hml hown hts (c_X6_addCome l D cI cJ cZ q8 q16 fs7_4 20 h_7 _) ⟨rfl, rfl⟩ sv_X11_261 ⟨(Nat.le_of_ble_eq_true rfl), (Nat.le_of_ble_eq_true rfl)⟩ ⟨(Nat.le_of_ble_eq_true rfl), (Nat.le_of_ble_eq_true rfl)⟩ (fun _ _ _ _ h => h) (fun _ _ _ => trivial) hK hP hD [9] rfl rfl 0 6 rfl rfl rfl rfl hl.1 rfl (Nat.le_of_ble_eq_true rfl) dX11_blind_38) hP hD hS hA [9] [0, 1, 2, 3, 4, 5, 6, 7, 8] rfl rfl rfl (by decide) (fun w_318 H locs hw_317 hP hD hS => ?_)
  subst hw_317
  have hP : va_P D vwCl [(q11, .inr (1, fs11)), (h0, .inr (11, fs0)), (q9, .inr (7, fs9)), (q1, .inl (cI, 250, .inl g1_5)), (q2, .inl (cI, 10, .inl g2_6)), (q16, .inl (cI, 10, .inl f2_12)), (q3, .inl (cI, 25, .inl g3_308)), (q4, .inl (cI, 40, .inl g4_309)), (q13, .inr (3, fs1_307)), (q8, .inr (6, fs7_4))] H := hP
  have hD : va_D A [(q11, .inr (1, fs11)), (h0, .inr (11, fs0)), (q9, .inr (7, fs9)), (q1, .inl (cI, 250, .inl g1_5)), (q2, .inl (cI, 10, .inl g2_6)), (q16, .inl (cI, 10, .inl f2_12)), (q3, .inl (cI, 25, .inl g3_308)), (q4, .inl (cI, 40, .inl g4_309)), (q13, .inr (3, fs1_307)), (q8, .inr (6, fs7_4))] := hD
  refine lv_aload_n hx hb dX11_blind_41 rfl (lv_at hl 2 rfl) ?_
  refine gt_X11 hx hb hts hown hK hP 1 rfl 7 (by decide) wd_680 rfl hf_fs0_7 dX11_blind_42 ?_
  refine lv_aload_n hx hb dX11_blind_45 rfl (lv_at hl 2 rfl) ?_
  refine gt_X11 hx hb hts hown hK hP 1 rfl 0 (by decide) wd_673 rfl hf_fs0_0 dX11_blind_46 ?_
  refine gt_X1 hx hb hts hown hK hP 0 rfl 0 (by decide) wd_39 rfl hf_fs11_0 dX11_blind_49 ?_
  refine cl_v (wr := [(q11, .inr (1, fs11)), (h0, .inr (11, fs0)), (q9, .inr (7, fs9)), (q1, .inl (cI, 250, .inl g1_5)), (q2, .inl (cI, 10, .inl g2_6)), (q16, .inl (cI, 10, .inl f2_12)), (q8, .inr (6, fs7_4))]) (rn_V (As := [.int 0]) (rest := []) hx hb hml hown hts (c_X3_clear l D cI cJ cZ q13 q3 q4 fs1_307 g3_308 g4_309 h_310 h_312 h_313 _) ⟨rfl, rfl⟩ sv_X11_252 ⟨(Nat.le_of_ble_eq_true rfl), (Nat.le_of_ble_eq_true rfl)⟩ ⟨(Nat.le_of_ble_eq_true rfl), (Nat.le_of_ble_eq_true rfl)⟩ (fun _ _ _ _ h => h) (fun _ _ _ => trivial) hK hP hD [8, 6, 7] rfl rfl 0 3 rfl rfl rfl rfl hl.1 rfl (Nat.le_of_ble_eq_true rfl) dX11_blind_52) hP hD hS hA [8, 6, 7] [0, 1, 2, 3, 4, 5, 9] rfl rfl rfl (by decide) (fun w_321 H locs hw_320 hP hD hS => ?_)
  obtain ⟨fs1_323, g3_324, g4_325, rfl, h_326, h_327, h_328, h_329⟩ := hw_320
  have hP : va_P D vwCl [(q11, .inr (1, fs11)), (h0, .inr (11, fs0)), (q9, .inr (7, fs9)), (q1, .inl (cI, 250, .inl g1_5)), (q2, .inl (cI, 10, .inl g2_6)), (q16, .inl (cI, 10, .inl f2_12)), (q8, .inr (6, fs7_4)), (q13, .inr (3, fs1_323)), (q3, .inl (cI, 25, .inl g3_324)), (q4, .inl (cI, 40, .inl g4_325))] H := hP
  have hD : va_D A [(q11, .inr (1, fs11)), (h0, .inr (11, fs0)), (q9, .inr (7, fs9)), (q1, .inl (cI, 250, .inl g1_5)), (q2, .inl (cI, 10, .inl g2_6)), (q16, .inl (cI, 10, .inl f2_12)), (q8, .inr (6, fs7_4)), (q13, .inr (3, fs1_323)), (q3, .inl (cI, 25, .inl g3_324)), (q4, .inl (cI, 40, .inl g4_325))] := hD
  refine lv_aload_n hx hb dX11_blind_55 rfl (lv_at hl 2 rfl) ?_
  refine gt_X11 hx hb hts hown hK hP 1 rfl 7 (by decide) wd_680 rfl hf_fs0_7 dX11_blind_56 ?_
  refine lv_aload_n hx hb dX11_blind_59 rfl (lv_at hl 2 rfl) ?_
  refine gt_X11 hx hb hts hown hK hP 1 rfl 5 (by decide) wd_678 rfl hf_fs0_5 dX11_blind_60 ?_
  refine lv_aload_n hx hb dX11_blind_63 rfl (lv_at hl 2 rfl) ?_
  refine gt_X11 hx hb hts hown hK hP 1 rfl 6 (by decide) wd_679 rfl hf_fs0_6 dX11_blind_64 ?_
  refine lv_iload_n hx hb dX11_blind_67 rfl (lv_at hl 0 rfl) ?_
  refine lv_aload_n hx hb dX11_blind_68 rfl (lv_at hl 2 rfl) ?_
  refine gt_X11 hx hb hts hown hK hP 1 rfl 13 (by decide) wd_686 rfl hf_fs0_13 dX11_blind_69 ?_
  refine cl_v (wr := [(q11, .inr (1, fs11)), (h0, .inr (11, fs0)), (q9, .inr (7, fs9)), (q1, .inl (cI, 250, .inl g1_5)), (q2, .inl (cI, 10, .inl g2_6)), (q16, .inl (cI, 10, .inl f2_12)), (q3, .inl (cI, 25, .inl g3_324)), (q4, .inl (cI, 40, .inl g4_325))]) (rn_V (As := [.ref q8, .ref q12, .int 20, .ref q16]) (rest := []) hx hb hml hown hts (c_X3_addDay l D cI cJ cZ q13 q8 q12 q16 fs1_323 fs7_4 20 h_326 h_327 h_7 h_8 _) ⟨rfl, rfl⟩ sv_X11_265 ⟨(Nat.le_of_ble_eq_true rfl), (Nat.le_of_ble_eq_true rfl)⟩ ⟨(Nat.le_of_ble_eq_true rfl), (Nat.le_of_ble_eq_true rfl)⟩ (fun _ _ _ _ h => h) (fun _ _ _ => trivial) hK hP hD [7, 6] rfl rfl 0 3 rfl rfl rfl rfl hl.1 rfl (Nat.le_of_ble_eq_true rfl) dX11_blind_72) hP hD hS hA [7, 6] [0, 1, 2, 3, 4, 5, 8, 9] rfl rfl rfl (by decide) (fun w_331 H locs hw_330 hP hD hS => ?_)
  subst hw_330
  have hP : va_P D vwCl [(q11, .inr (1, fs11)), (h0, .inr (11, fs0)), (q9, .inr (7, fs9)), (q1, .inl (cI, 250, .inl g1_5)), (q2, .inl (cI, 10, .inl g2_6)), (q16, .inl (cI, 10, .inl f2_12)), (q3, .inl (cI, 25, .inl g3_324)), (q4, .inl (cI, 40, .inl g4_325)), (q13, .inr (3, fs1_323)), (q8, .inr (6, fs7_4))] H := hP
  have hD : va_D A [(q11, .inr (1, fs11)), (h0, .inr (11, fs0)), (q9, .inr (7, fs9)), (q1, .inl (cI, 250, .inl g1_5)), (q2, .inl (cI, 10, .inl g2_6)), (q16, .inl (cI, 10, .inl f2_12)), (q3, .inl (cI, 25, .inl g3_324)), (q4, .inl (cI, 40, .inl g4_325)), (q13, .inr (3, fs1_323)), (q8, .inr (6, fs7_4))] := hD
  refine lv_aload_n hx hb dX11_blind_75 rfl (lv_at hl 2 rfl) ?_
  refine gt_X11 hx hb hts hown hK hP 1 rfl 7 (by decide) wd_680 rfl hf_fs0_7 dX11_blind_76 ?_
  refine gt_X3 hx hb hts hown hK hP 8 rfl 1 (by decide) wd_406 rfl h_327 dX11_blind_79 ?_
  refine lv_if_le (tgt := 106) hx hb dX11_blind_82 (by decide) (fun _ => ?_) (fun h => (h (by decide)).elim)
  refine lv_iinc (v := 21) (lv' := [(2, .int 21), (1, .int 0), (0, .ref h0)]) hx hb dX11_blind_106 hl (k := 0) rfl (by decide) (by decide) rfl (fun ls hl => ?_)
  refine lv_goto (tgt := 16) hx hb dX11_blind_109 (by decide) ?_
  refine lv_iload_n hx hb dX11_blind_16 rfl (lv_at hl 0 rfl) ?_
  refine lv_bipush (v := 24) hx hb dX11_blind_17 (by decide) ?_
  refine lv_icmp_gt (tgt := 112) hx hb dX11_blind_19 (by decide) (fun h => absurd h (by decide)) (fun _ => ?_)
  refine lv_aload_n hx hb dX11_blind_22 rfl (lv_at hl 2 rfl) ?_
  refine gt_X11 hx hb hts hown hK hP 1 rfl 5 (by decide) wd_678 rfl hf_fs0_5 dX11_blind_23 ?_
  refine lv_aload_n hx hb dX11_blind_26 rfl (lv_at hl 2 rfl) ?_
  refine gt_X11 hx hb hts hown hK hP 1 rfl 13 (by decide) wd_686 rfl hf_fs0_13 dX11_blind_27 ?_
  refine lv_iload_n hx hb dX11_blind_30 rfl (lv_at hl 0 rfl) ?_
  refine lv_aload_n hx hb dX11_blind_31 rfl (lv_at hl 2 rfl) ?_
  refine gt_X11 hx hb hts hown hK hP 1 rfl 0 (by decide) wd_673 rfl hf_fs0_0 dX11_blind_32 ?_
  refine gt_X1 hx hb hts hown hK hP 0 rfl 0 (by decide) wd_39 rfl hf_fs11_0 dX11_blind_35 ?_
  refine cl_v (wr := [(q11, .inr (1, fs11)), (h0, .inr (11, fs0)), (q9, .inr (7, fs9)), (q1, .inl (cI, 250, .inl g1_5)), (q2, .inl (cI, 10, .inl g2_6)), (q16, .inl (cI, 10, .inl f2_12)), (q3, .inl (cI, 25, .inl g3_324)), (q4, .inl (cI, 40, .inl g4_325)), (q13, .inr (3, fs1_323))]) (rn_V (As := [.ref q16, .int 21, .int 0]) (rest := []) hx hb hml hown hts (c_X6_addCome l D cI cJ cZ q8 q16 fs7_4 21 h_7 _) ⟨rfl, rfl⟩ sv_X11_261 ⟨(Nat.le_of_ble_eq_true rfl), (Nat.le_of_ble_eq_true rfl)⟩ ⟨(Nat.le_of_ble_eq_true rfl), (Nat.le_of_ble_eq_true rfl)⟩ (fun _ _ _ _ h => h) (fun _ _ _ => trivial) hK hP hD [9] rfl rfl 0 6 rfl rfl rfl rfl hl.1 rfl (Nat.le_of_ble_eq_true rfl) dX11_blind_38) hP hD hS hA [9] [0, 1, 2, 3, 4, 5, 6, 7, 8] rfl rfl rfl (by decide) (fun w_334 H locs hw_333 hP hD hS => ?_)
  subst hw_333
  have hP : va_P D vwCl [(q11, .inr (1, fs11)), (h0, .inr (11, fs0)), (q9, .inr (7, fs9)), (q1, .inl (cI, 250, .inl g1_5)), (q2, .inl (cI, 10, .inl g2_6)), (q16, .inl (cI, 10, .inl f2_12)), (q3, .inl (cI, 25, .inl g3_324)), (q4, .inl (cI, 40, .inl g4_325)), (q13, .inr (3, fs1_323)), (q8, .inr (6, fs7_4))] H := hP
  have hD : va_D A [(q11, .inr (1, fs11)), (h0, .inr (11, fs0)), (q9, .inr (7, fs9)), (q1, .inl (cI, 250, .inl g1_5)), (q2, .inl (cI, 10, .inl g2_6)), (q16, .inl (cI, 10, .inl f2_12)), (q3, .inl (cI, 25, .inl g3_324)), (q4, .inl (cI, 40, .inl g4_325)), (q13, .inr (3, fs1_323)), (q8, .inr (6, fs7_4))] := hD
  refine lv_aload_n hx hb dX11_blind_41 rfl (lv_at hl 2 rfl) ?_
  refine gt_X11 hx hb hts hown hK hP 1 rfl 7 (by decide) wd_680 rfl hf_fs0_7 dX11_blind_42 ?_
  refine lv_aload_n hx hb dX11_blind_45 rfl (lv_at hl 2 rfl) ?_
  refine gt_X11 hx hb hts hown hK hP 1 rfl 0 (by decide) wd_673 rfl hf_fs0_0 dX11_blind_46 ?_
  refine gt_X1 hx hb hts hown hK hP 0 rfl 0 (by decide) wd_39 rfl hf_fs11_0 dX11_blind_49 ?_
  refine cl_v (wr := [(q11, .inr (1, fs11)), (h0, .inr (11, fs0)), (q9, .inr (7, fs9)), (q1, .inl (cI, 250, .inl g1_5)), (q2, .inl (cI, 10, .inl g2_6)), (q16, .inl (cI, 10, .inl f2_12)), (q8, .inr (6, fs7_4))]) (rn_V (As := [.int 0]) (rest := []) hx hb hml hown hts (c_X3_clear l D cI cJ cZ q13 q3 q4 fs1_323 g3_324 g4_325 h_326 h_328 h_329 _) ⟨rfl, rfl⟩ sv_X11_252 ⟨(Nat.le_of_ble_eq_true rfl), (Nat.le_of_ble_eq_true rfl)⟩ ⟨(Nat.le_of_ble_eq_true rfl), (Nat.le_of_ble_eq_true rfl)⟩ (fun _ _ _ _ h => h) (fun _ _ _ => trivial) hK hP hD [8, 6, 7] rfl rfl 0 3 rfl rfl rfl rfl hl.1 rfl (Nat.le_of_ble_eq_true rfl) dX11_blind_52) hP hD hS hA [8, 6, 7] [0, 1, 2, 3, 4, 5, 9] rfl rfl rfl (by decide) (fun w_337 H locs hw_336 hP hD hS => ?_)
  obtain ⟨fs1_339, g3_340, g4_341, rfl, h_342, h_343, h_344, h_345⟩ := hw_336
  have hP : va_P D vwCl [(q11, .inr (1, fs11)), (h0, .inr (11, fs0)), (q9, .inr (7, fs9)), (q1, .inl (cI, 250, .inl g1_5)), (q2, .inl (cI, 10, .inl g2_6)), (q16, .inl (cI, 10, .inl f2_12)), (q8, .inr (6, fs7_4)), (q13, .inr (3, fs1_339)), (q3, .inl (cI, 25, .inl g3_340)), (q4, .inl (cI, 40, .inl g4_341))] H := hP
  have hD : va_D A [(q11, .inr (1, fs11)), (h0, .inr (11, fs0)), (q9, .inr (7, fs9)), (q1, .inl (cI, 250, .inl g1_5)), (q2, .inl (cI, 10, .inl g2_6)), (q16, .inl (cI, 10, .inl f2_12)), (q8, .inr (6, fs7_4)), (q13, .inr (3, fs1_339)), (q3, .inl (cI, 25, .inl g3_340)), (q4, .inl (cI, 40, .inl g4_341))] := hD
  refine lv_aload_n hx hb dX11_blind_55 rfl (lv_at hl 2 rfl) ?_
  refine gt_X11 hx hb hts hown hK hP 1 rfl 7 (by decide) wd_680 rfl hf_fs0_7 dX11_blind_56 ?_
  refine lv_aload_n hx hb dX11_blind_59 rfl (lv_at hl 2 rfl) ?_
  refine gt_X11 hx hb hts hown hK hP 1 rfl 5 (by decide) wd_678 rfl hf_fs0_5 dX11_blind_60 ?_
  refine lv_aload_n hx hb dX11_blind_63 rfl (lv_at hl 2 rfl) ?_
  refine gt_X11 hx hb hts hown hK hP 1 rfl 6 (by decide) wd_679 rfl hf_fs0_6 dX11_blind_64 ?_
  refine lv_iload_n hx hb dX11_blind_67 rfl (lv_at hl 0 rfl) ?_
  refine lv_aload_n hx hb dX11_blind_68 rfl (lv_at hl 2 rfl) ?_
  refine gt_X11 hx hb hts hown hK hP 1 rfl 13 (by decide) wd_686 rfl hf_fs0_13 dX11_blind_69 ?_
  refine cl_v (wr := [(q11, .inr (1, fs11)), (h0, .inr (11, fs0)), (q9, .inr (7, fs9)), (q1, .inl (cI, 250, .inl g1_5)), (q2, .inl (cI, 10, .inl g2_6)), (q16, .inl (cI, 10, .inl f2_12)), (q3, .inl (cI, 25, .inl g3_340)), (q4, .inl (cI, 40, .inl g4_341))]) (rn_V (As := [.ref q8, .ref q12, .int 21, .ref q16]) (rest := []) hx hb hml hown hts (c_X3_addDay l D cI cJ cZ q13 q8 q12 q16 fs1_339 fs7_4 21 h_342 h_343 h_7 h_8 _) ⟨rfl, rfl⟩ sv_X11_265 ⟨(Nat.le_of_ble_eq_true rfl), (Nat.le_of_ble_eq_true rfl)⟩ ⟨(Nat.le_of_ble_eq_true rfl), (Nat.le_of_ble_eq_true rfl)⟩ (fun _ _ _ _ h => h) (fun _ _ _ => trivial) hK hP hD [7, 6] rfl rfl 0 3 rfl rfl rfl rfl hl.1 rfl (Nat.le_of_ble_eq_true rfl) dX11_blind_72) hP hD hS hA [7, 6] [0, 1, 2, 3, 4, 5, 8, 9] rfl rfl rfl (by decide) (fun w_347 H locs hw_346 hP hD hS => ?_)
  subst hw_346
  have hP : va_P D vwCl [(q11, .inr (1, fs11)), (h0, .inr (11, fs0)), (q9, .inr (7, fs9)), (q1, .inl (cI, 250, .inl g1_5)), (q2, .inl (cI, 10, .inl g2_6)), (q16, .inl (cI, 10, .inl f2_12)), (q3, .inl (cI, 25, .inl g3_340)), (q4, .inl (cI, 40, .inl g4_341)), (q13, .inr (3, fs1_339)), (q8, .inr (6, fs7_4))] H := hP
  have hD : va_D A [(q11, .inr (1, fs11)), (h0, .inr (11, fs0)), (q9, .inr (7, fs9)), (q1, .inl (cI, 250, .inl g1_5)), (q2, .inl (cI, 10, .inl g2_6)), (q16, .inl (cI, 10, .inl f2_12)), (q3, .inl (cI, 25, .inl g3_340)), (q4, .inl (cI, 40, .inl g4_341)), (q13, .inr (3, fs1_339)), (q8, .inr (6, fs7_4))] := hD
  refine lv_aload_n hx hb dX11_blind_75 rfl (lv_at hl 2 rfl) ?_
  refine gt_X11 hx hb hts hown hK hP 1 rfl 7 (by decide) wd_680 rfl hf_fs0_7 dX11_blind_76 ?_
  refine gt_X3 hx hb hts hown hK hP 8 rfl 1 (by decide) wd_406 rfl h_343 dX11_blind_79 ?_
  refine lv_if_le (tgt := 106) hx hb dX11_blind_82 (by decide) (fun _ => ?_) (fun h => (h (by decide)).elim)
  refine lv_iinc (v := 22) (lv' := [(2, .int 22), (1, .int 0), (0, .ref h0)]) hx hb dX11_blind_106 hl (k := 0) rfl (by decide) (by decide) rfl (fun ls hl => ?_)
  refine lv_goto (tgt := 16) hx hb dX11_blind_109 (by decide) ?_
  refine lv_iload_n hx hb dX11_blind_16 rfl (lv_at hl 0 rfl) ?_
  refine lv_bipush (v := 24) hx hb dX11_blind_17 (by decide) ?_
  refine lv_icmp_gt (tgt := 112) hx hb dX11_blind_19 (by decide) (fun h => absurd h (by decide)) (fun _ => ?_)
  refine lv_aload_n hx hb dX11_blind_22 rfl (lv_at hl 2 rfl) ?_
  refine gt_X11 hx hb hts hown hK hP 1 rfl 5 (by decide) wd_678 rfl hf_fs0_5 dX11_blind_23 ?_
  refine lv_aload_n hx hb dX11_blind_26 rfl (lv_at hl 2 rfl) ?_
  refine gt_X11 hx hb hts hown hK hP 1 rfl 13 (by decide) wd_686 rfl hf_fs0_13 dX11_blind_27 ?_
  refine lv_iload_n hx hb dX11_blind_30 rfl (lv_at hl 0 rfl) ?_
  refine lv_aload_n hx hb dX11_blind_31 rfl (lv_at hl 2 rfl) ?_
  refine gt_X11 hx hb hts hown hK hP 1 rfl 0 (by decide) wd_673 rfl hf_fs0_0 dX11_blind_32 ?_
  refine gt_X1 hx hb hts hown hK hP 0 rfl 0 (by decide) wd_39 rfl hf_fs11_0 dX11_blind_35 ?_
  refine cl_v (wr := [(q11, .inr (1, fs11)), (h0, .inr (11, fs0)), (q9, .inr (7, fs9)), (q1, .inl (cI, 250, .inl g1_5)), (q2, .inl (cI, 10, .inl g2_6)), (q16, .inl (cI, 10, .inl f2_12)), (q3, .inl (cI, 25, .inl g3_340)), (q4, .inl (cI, 40, .inl g4_341)), (q13, .inr (3, fs1_339))]) (rn_V (As := [.ref q16, .int 22, .int 0]) (rest := []) hx hb hml hown hts (c_X6_addCome l D cI cJ cZ q8 q16 fs7_4 22 h_7 _) ⟨rfl, rfl⟩ sv_X11_261 ⟨(Nat.le_of_ble_eq_true rfl), (Nat.le_of_ble_eq_true rfl)⟩ ⟨(Nat.le_of_ble_eq_true rfl), (Nat.le_of_ble_eq_true rfl)⟩ (fun _ _ _ _ h => h) (fun _ _ _ => trivial) hK hP hD [9] rfl rfl 0 6 rfl rfl rfl rfl hl.1 rfl (Nat.le_of_ble_eq_true rfl) dX11_blind_38) hP hD hS hA [9] [0, 1, 2, 3, 4, 5, 6, 7, 8] rfl rfl rfl (by decide) (fun w_350 H locs hw_349 hP hD hS => ?_)
  subst hw_349
  have hP : va_P D vwCl [(q11, .inr (1, fs11)), (h0, .inr (11, fs0)), (q9, .inr (7, fs9)), (q1, .inl (cI, 250, .inl g1_5)), (q2, .inl (cI, 10, .inl g2_6)), (q16, .inl (cI, 10, .inl f2_12)), (q3, .inl (cI, 25, .inl g3_340)), (q4, .inl (cI, 40, .inl g4_341)), (q13, .inr (3, fs1_339)), (q8, .inr (6, fs7_4))] H := hP
  have hD : va_D A [(q11, .inr (1, fs11)), (h0, .inr (11, fs0)), (q9, .inr (7, fs9)), (q1, .inl (cI, 250, .inl g1_5)), (q2, .inl (cI, 10, .inl g2_6)), (q16, .inl (cI, 10, .inl f2_12)), (q3, .inl (cI, 25, .inl g3_340)), (q4, .inl (cI, 40, .inl g4_341)), (q13, .inr (3, fs1_339)), (q8, .inr (6, fs7_4))] := hD
  refine lv_aload_n hx hb dX11_blind_41 rfl (lv_at hl 2 rfl) ?_
  refine gt_X11 hx hb hts hown hK hP 1 rfl 7 (by decide) wd_680 rfl hf_fs0_7 dX11_blind_42 ?_
  refine lv_aload_n hx hb dX11_blind_45 rfl (lv_at hl 2 rfl) ?_
  refine gt_X11 hx hb hts hown hK hP 1 rfl 0 (by decide) wd_673 rfl hf_fs0_0 dX11_blind_46 ?_
  refine gt_X1 hx hb hts hown hK hP 0 rfl 0 (by decide) wd_39 rfl hf_fs11_0 dX11_blind_49 ?_
  refine cl_v (wr := [(q11, .inr (1, fs11)), (h0, .inr (11, fs0)), (q9, .inr (7, fs9)), (q1, .inl (cI, 250, .inl g1_5)), (q2, .inl (cI, 10, .inl g2_6)), (q16, .inl (cI, 10, .inl f2_12)), (q8, .inr (6, fs7_4))]) (rn_V (As := [.int 0]) (rest := []) hx hb hml hown hts (c_X3_clear l D cI cJ cZ q13 q3 q4 fs1_339 g3_340 g4_341 h_342 h_344 h_345 _) ⟨rfl, rfl⟩ sv_X11_252 ⟨(Nat.le_of_ble_eq_true rfl), (Nat.le_of_ble_eq_true rfl)⟩ ⟨(Nat.le_of_ble_eq_true rfl), (Nat.le_of_ble_eq_true rfl)⟩ (fun _ _ _ _ h => h) (fun _ _ _ => trivial) hK hP hD [8, 6, 7] rfl rfl 0 3 rfl rfl rfl rfl hl.1 rfl (Nat.le_of_ble_eq_true rfl) dX11_blind_52) hP hD hS hA [8, 6, 7] [0, 1, 2, 3, 4, 5, 9] rfl rfl rfl (by decide) (fun w_353 H locs hw_352 hP hD hS => ?_)
  obtain ⟨fs1_355, g3_356, g4_357, rfl, h_358, h_359, h_360, h_361⟩ := hw_352
  have hP : va_P D vwCl [(q11, .inr (1, fs11)), (h0, .inr (11, fs0)), (q9, .inr (7, fs9)), (q1, .inl (cI, 250, .inl g1_5)), (q2, .inl (cI, 10, .inl g2_6)), (q16, .inl (cI, 10, .inl f2_12)), (q8, .inr (6, fs7_4)), (q13, .inr (3, fs1_355)), (q3, .inl (cI, 25, .inl g3_356)), (q4, .inl (cI, 40, .inl g4_357))] H := hP
  have hD : va_D A [(q11, .inr (1, fs11)), (h0, .inr (11, fs0)), (q9, .inr (7, fs9)), (q1, .inl (cI, 250, .inl g1_5)), (q2, .inl (cI, 10, .inl g2_6)), (q16, .inl (cI, 10, .inl f2_12)), (q8, .inr (6, fs7_4)), (q13, .inr (3, fs1_355)), (q3, .inl (cI, 25, .inl g3_356)), (q4, .inl (cI, 40, .inl g4_357))] := hD
  refine lv_aload_n hx hb dX11_blind_55 rfl (lv_at hl 2 rfl) ?_
  refine gt_X11 hx hb hts hown hK hP 1 rfl 7 (by decide) wd_680 rfl hf_fs0_7 dX11_blind_56 ?_
  refine lv_aload_n hx hb dX11_blind_59 rfl (lv_at hl 2 rfl) ?_
  refine gt_X11 hx hb hts hown hK hP 1 rfl 5 (by decide) wd_678 rfl hf_fs0_5 dX11_blind_60 ?_
  refine lv_aload_n hx hb dX11_blind_63 rfl (lv_at hl 2 rfl) ?_
  refine gt_X11 hx hb hts hown hK hP 1 rfl 6 (by decide) wd_679 rfl hf_fs0_6 dX11_blind_64 ?_
  refine lv_iload_n hx hb dX11_blind_67 rfl (lv_at hl 0 rfl) ?_
  refine lv_aload_n hx hb dX11_blind_68 rfl (lv_at hl 2 rfl) ?_
  refine gt_X11 hx hb hts hown hK hP 1 rfl 13 (by decide) wd_686 rfl hf_fs0_13 dX11_blind_69 ?_
  refine cl_v (wr := [(q11, .inr (1, fs11)), (h0, .inr (11, fs0)), (q9, .inr (7, fs9)), (q1, .inl (cI, 250, .inl g1_5)), (q2, .inl (cI, 10, .inl g2_6)), (q16, .inl (cI, 10, .inl f2_12)), (q3, .inl (cI, 25, .inl g3_356)), (q4, .inl (cI, 40, .inl g4_357))]) (rn_V (As := [.ref q8, .ref q12, .int 22, .ref q16]) (rest := []) hx hb hml hown hts (c_X3_addDay l D cI cJ cZ q13 q8 q12 q16 fs1_355 fs7_4 22 h_358 h_359 h_7 h_8 _) ⟨rfl, rfl⟩ sv_X11_265 ⟨(Nat.le_of_ble_eq_true rfl), (Nat.le_of_ble_eq_true rfl)⟩ ⟨(Nat.le_of_ble_eq_true rfl), (Nat.le_of_ble_eq_true rfl)⟩ (fun _ _ _ _ h => h) (fun _ _ _ => trivial) hK hP hD [7, 6] rfl rfl 0 3 rfl rfl rfl rfl hl.1 rfl (Nat.le_of_ble_eq_true rfl) dX11_blind_72) hP hD hS hA [7, 6] [0, 1, 2, 3, 4, 5, 8, 9] rfl rfl rfl (by decide) (fun w_363 H locs hw_362 hP hD hS => ?_)
  subst hw_362
  have hP : va_P D vwCl [(q11, .inr (1, fs11)), (h0, .inr (11, fs0)), (q9, .inr (7, fs9)), (q1, .inl (cI, 250, .inl g1_5)), (q2, .inl (cI, 10, .inl g2_6)), (q16, .inl (cI, 10, .inl f2_12)), (q3, .inl (cI, 25, .inl g3_356)), (q4, .inl (cI, 40, .inl g4_357)), (q13, .inr (3, fs1_355)), (q8, .inr (6, fs7_4))] H := hP
  have hD : va_D A [(q11, .inr (1, fs11)), (h0, .inr (11, fs0)), (q9, .inr (7, fs9)), (q1, .inl (cI, 250, .inl g1_5)), (q2, .inl (cI, 10, .inl g2_6)), (q16, .inl (cI, 10, .inl f2_12)), (q3, .inl (cI, 25, .inl g3_356)), (q4, .inl (cI, 40, .inl g4_357)), (q13, .inr (3, fs1_355)), (q8, .inr (6, fs7_4))] := hD
  refine lv_aload_n hx hb dX11_blind_75 rfl (lv_at hl 2 rfl) ?_
  refine gt_X11 hx hb hts hown hK hP 1 rfl 7 (by decide) wd_680 rfl hf_fs0_7 dX11_blind_76 ?_
  refine gt_X3 hx hb hts hown hK hP 8 rfl 1 (by decide) wd_406 rfl h_359 dX11_blind_79 ?_
  refine lv_if_le (tgt := 106) hx hb dX11_blind_82 (by decide) (fun _ => ?_) (fun h => (h (by decide)).elim)
  refine lv_iinc (v := 23) (lv' := [(2, .int 23), (1, .int 0), (0, .ref h0)]) hx hb dX11_blind_106 hl (k := 0) rfl (by decide) (by decide) rfl (fun ls hl => ?_)
  refine lv_goto (tgt := 16) hx hb dX11_blind_109 (by decide) ?_
  refine lv_iload_n hx hb dX11_blind_16 rfl (lv_at hl 0 rfl) ?_
  refine lv_bipush (v := 24) hx hb dX11_blind_17 (by decide) ?_
  refine lv_icmp_gt (tgt := 112) hx hb dX11_blind_19 (by decide) (fun h => absurd h (by decide)) (fun _ => ?_)
  refine lv_aload_n hx hb dX11_blind_22 rfl (lv_at hl 2 rfl) ?_
  refine gt_X11 hx hb hts hown hK hP 1 rfl 5 (by decide) wd_678 rfl hf_fs0_5 dX11_blind_23 ?_
  refine lv_aload_n hx hb dX11_blind_26 rfl (lv_at hl 2 rfl) ?_
  refine gt_X11 hx hb hts hown hK hP 1 rfl 13 (by decide) wd_686 rfl hf_fs0_13 dX11_blind_27 ?_
  refine lv_iload_n hx hb dX11_blind_30 rfl (lv_at hl 0 rfl) ?_
  refine lv_aload_n hx hb dX11_blind_31 rfl (lv_at hl 2 rfl) ?_
  refine gt_X11 hx hb hts hown hK hP 1 rfl 0 (by decide) wd_673 rfl hf_fs0_0 dX11_blind_32 ?_
  refine gt_X1 hx hb hts hown hK hP 0 rfl 0 (by decide) wd_39 rfl hf_fs11_0 dX11_blind_35 ?_
  refine cl_v (wr := [(q11, .inr (1, fs11)), (h0, .inr (11, fs0)), (q9, .inr (7, fs9)), (q1, .inl (cI, 250, .inl g1_5)), (q2, .inl (cI, 10, .inl g2_6)), (q16, .inl (cI, 10, .inl f2_12)), (q3, .inl (cI, 25, .inl g3_356)), (q4, .inl (cI, 40, .inl g4_357)), (q13, .inr (3, fs1_355))]) (rn_V (As := [.ref q16, .int 23, .int 0]) (rest := []) hx hb hml hown hts (c_X6_addCome l D cI cJ cZ q8 q16 fs7_4 23 h_7 _) ⟨rfl, rfl⟩ sv_X11_261 ⟨(Nat.le_of_ble_eq_true rfl), (Nat.le_of_ble_eq_true rfl)⟩ ⟨(Nat.le_of_ble_eq_true rfl), (Nat.le_of_ble_eq_true rfl)⟩ (fun _ _ _ _ h => h) (fun _ _ _ => trivial) hK hP hD [9] rfl rfl 0 6 rfl rfl rfl rfl hl.1 rfl (Nat.le_of_ble_eq_true rfl) dX11_blind_38) hP hD hS hA [9] [0, 1, 2, 3, 4, 5, 6, 7, 8] rfl rfl rfl (by decide) (fun w_366 H locs hw_365 hP hD hS => ?_)
  subst hw_365
  have hP : va_P D vwCl [(q11, .inr (1, fs11)), (h0, .inr (11, fs0)), (q9, .inr (7, fs9)), (q1, .inl (cI, 250, .inl g1_5)), (q2, .inl (cI, 10, .inl g2_6)), (q16, .inl (cI, 10, .inl f2_12)), (q3, .inl (cI, 25, .inl g3_356)), (q4, .inl (cI, 40, .inl g4_357)), (q13, .inr (3, fs1_355)), (q8, .inr (6, fs7_4))] H := hP
  have hD : va_D A [(q11, .inr (1, fs11)), (h0, .inr (11, fs0)), (q9, .inr (7, fs9)), (q1, .inl (cI, 250, .inl g1_5)), (q2, .inl (cI, 10, .inl g2_6)), (q16, .inl (cI, 10, .inl f2_12)), (q3, .inl (cI, 25, .inl g3_356)), (q4, .inl (cI, 40, .inl g4_357)), (q13, .inr (3, fs1_355)), (q8, .inr (6, fs7_4))] := hD
  refine lv_aload_n hx hb dX11_blind_41 rfl (lv_at hl 2 rfl) ?_
  refine gt_X11 hx hb hts hown hK hP 1 rfl 7 (by decide) wd_680 rfl hf_fs0_7 dX11_blind_42 ?_
  refine lv_aload_n hx hb dX11_blind_45 rfl (lv_at hl 2 rfl) ?_
  refine gt_X11 hx hb hts hown hK hP 1 rfl 0 (by decide) wd_673 rfl hf_fs0_0 dX11_blind_46 ?_
  refine gt_X1 hx hb hts hown hK hP 0 rfl 0 (by decide) wd_39 rfl hf_fs11_0 dX11_blind_49 ?_
  refine cl_v (wr := [(q11, .inr (1, fs11)), (h0, .inr (11, fs0)), (q9, .inr (7, fs9)), (q1, .inl (cI, 250, .inl g1_5)), (q2, .inl (cI, 10, .inl g2_6)), (q16, .inl (cI, 10, .inl f2_12)), (q8, .inr (6, fs7_4))]) (rn_V (As := [.int 0]) (rest := []) hx hb hml hown hts (c_X3_clear l D cI cJ cZ q13 q3 q4 fs1_355 g3_356 g4_357 h_358 h_360 h_361 _) ⟨rfl, rfl⟩ sv_X11_252 ⟨(Nat.le_of_ble_eq_true rfl), (Nat.le_of_ble_eq_true rfl)⟩ ⟨(Nat.le_of_ble_eq_true rfl), (Nat.le_of_ble_eq_true rfl)⟩ (fun _ _ _ _ h => h) (fun _ _ _ => trivial) hK hP hD [8, 6, 7] rfl rfl 0 3 rfl rfl rfl rfl hl.1 rfl (Nat.le_of_ble_eq_true rfl) dX11_blind_52) hP hD hS hA [8, 6, 7] [0, 1, 2, 3, 4, 5, 9] rfl rfl rfl (by decide) (fun w_369 H locs hw_368 hP hD hS => ?_)
  obtain ⟨fs1_371, g3_372, g4_373, rfl, h_374, h_375, h_376, h_377⟩ := hw_368
  have hP : va_P D vwCl [(q11, .inr (1, fs11)), (h0, .inr (11, fs0)), (q9, .inr (7, fs9)), (q1, .inl (cI, 250, .inl g1_5)), (q2, .inl (cI, 10, .inl g2_6)), (q16, .inl (cI, 10, .inl f2_12)), (q8, .inr (6, fs7_4)), (q13, .inr (3, fs1_371)), (q3, .inl (cI, 25, .inl g3_372)), (q4, .inl (cI, 40, .inl g4_373))] H := hP
  have hD : va_D A [(q11, .inr (1, fs11)), (h0, .inr (11, fs0)), (q9, .inr (7, fs9)), (q1, .inl (cI, 250, .inl g1_5)), (q2, .inl (cI, 10, .inl g2_6)), (q16, .inl (cI, 10, .inl f2_12)), (q8, .inr (6, fs7_4)), (q13, .inr (3, fs1_371)), (q3, .inl (cI, 25, .inl g3_372)), (q4, .inl (cI, 40, .inl g4_373))] := hD
  refine lv_aload_n hx hb dX11_blind_55 rfl (lv_at hl 2 rfl) ?_
  refine gt_X11 hx hb hts hown hK hP 1 rfl 7 (by decide) wd_680 rfl hf_fs0_7 dX11_blind_56 ?_
  refine lv_aload_n hx hb dX11_blind_59 rfl (lv_at hl 2 rfl) ?_
  refine gt_X11 hx hb hts hown hK hP 1 rfl 5 (by decide) wd_678 rfl hf_fs0_5 dX11_blind_60 ?_
  refine lv_aload_n hx hb dX11_blind_63 rfl (lv_at hl 2 rfl) ?_
  refine gt_X11 hx hb hts hown hK hP 1 rfl 6 (by decide) wd_679 rfl hf_fs0_6 dX11_blind_64 ?_
  refine lv_iload_n hx hb dX11_blind_67 rfl (lv_at hl 0 rfl) ?_
  refine lv_aload_n hx hb dX11_blind_68 rfl (lv_at hl 2 rfl) ?_
  refine gt_X11 hx hb hts hown hK hP 1 rfl 13 (by decide) wd_686 rfl hf_fs0_13 dX11_blind_69 ?_
  refine cl_v (wr := [(q11, .inr (1, fs11)), (h0, .inr (11, fs0)), (q9, .inr (7, fs9)), (q1, .inl (cI, 250, .inl g1_5)), (q2, .inl (cI, 10, .inl g2_6)), (q16, .inl (cI, 10, .inl f2_12)), (q3, .inl (cI, 25, .inl g3_372)), (q4, .inl (cI, 40, .inl g4_373))]) (rn_V (As := [.ref q8, .ref q12, .int 23, .ref q16]) (rest := []) hx hb hml hown hts (c_X3_addDay l D cI cJ cZ q13 q8 q12 q16 fs1_371 fs7_4 23 h_374 h_375 h_7 h_8 _) ⟨rfl, rfl⟩ sv_X11_265 ⟨(Nat.le_of_ble_eq_true rfl), (Nat.le_of_ble_eq_true rfl)⟩ ⟨(Nat.le_of_ble_eq_true rfl), (Nat.le_of_ble_eq_true rfl)⟩ (fun _ _ _ _ h => h) (fun _ _ _ => trivial) hK hP hD [7, 6] rfl rfl 0 3 rfl rfl rfl rfl hl.1 rfl (Nat.le_of_ble_eq_true rfl) dX11_blind_72) hP hD hS hA [7, 6] [0, 1, 2, 3, 4, 5, 8, 9] rfl rfl rfl (by decide) (fun w_379 H locs hw_378 hP hD hS => ?_)
  subst hw_378
  have hP : va_P D vwCl [(q11, .inr (1, fs11)), (h0, .inr (11, fs0)), (q9, .inr (7, fs9)), (q1, .inl (cI, 250, .inl g1_5)), (q2, .inl (cI, 10, .inl g2_6)), (q16, .inl (cI, 10, .inl f2_12)), (q3, .inl (cI, 25, .inl g3_372)), (q4, .inl (cI, 40, .inl g4_373)), (q13, .inr (3, fs1_371)), (q8, .inr (6, fs7_4))] H := hP
  have hD : va_D A [(q11, .inr (1, fs11)), (h0, .inr (11, fs0)), (q9, .inr (7, fs9)), (q1, .inl (cI, 250, .inl g1_5)), (q2, .inl (cI, 10, .inl g2_6)), (q16, .inl (cI, 10, .inl f2_12)), (q3, .inl (cI, 25, .inl g3_372)), (q4, .inl (cI, 40, .inl g4_373)), (q13, .inr (3, fs1_371)), (q8, .inr (6, fs7_4))] := hD
  refine lv_aload_n hx hb dX11_blind_75 rfl (lv_at hl 2 rfl) ?_
  refine gt_X11 hx hb hts hown hK hP 1 rfl 7 (by decide) wd_680 rfl hf_fs0_7 dX11_blind_76 ?_
  refine gt_X3 hx hb hts hown hK hP 8 rfl 1 (by decide) wd_406 rfl h_375 dX11_blind_79 ?_
  refine lv_if_le (tgt := 106) hx hb dX11_blind_82 (by decide) (fun _ => ?_) (fun h => (h (by decide)).elim)
  refine lv_iinc (v := 24) (lv' := [(2, .int 24), (1, .int 0), (0, .ref h0)]) hx hb dX11_blind_106 hl (k := 0) rfl (by decide) (by decide) rfl (fun ls hl => ?_)
  refine lv_goto (tgt := 16) hx hb dX11_blind_109 (by decide) ?_
  refine lv_iload_n hx hb dX11_blind_16 rfl (lv_at hl 0 rfl) ?_
  refine lv_bipush (v := 24) hx hb dX11_blind_17 (by decide) ?_
  refine lv_icmp_gt (tgt := 112) hx hb dX11_blind_19 (by decide) (fun h => absurd h (by decide)) (fun _ => ?_)
  refine lv_aload_n hx hb dX11_blind_22 rfl (lv_at hl 2 rfl) ?_
  refine gt_X11 hx hb hts hown hK hP 1 rfl 5 (by decide) wd_678 rfl hf_fs0_5 dX11_blind_23 ?_
  refine lv_aload_n hx hb dX11_blind_26 rfl (lv_at hl 2 rfl) ?_
  refine gt_X11 hx hb hts hown hK hP 1 rfl 13 (by decide) wd_686 rfl hf_fs0_13 dX11_blind_27 ?_
  refine lv_iload_n hx hb dX11_blind_30 rfl (lv_at hl 0 rfl) ?_
  refine lv_aload_n hx hb dX11_blind_31 rfl (lv_at hl 2 rfl) ?_
  refine gt_X11 hx hb hts hown hK hP 1 rfl 0 (by decide) wd_673 rfl hf_fs0_0 dX11_blind_32 ?_
  refine gt_X1 hx hb hts hown hK hP 0 rfl 0 (by decide) wd_39 rfl hf_fs11_0 dX11_blind_35 ?_
  refine cl_v (wr := [(q11, .inr (1, fs11)), (h0, .inr (11, fs0)), (q9, .inr (7, fs9)), (q1, .inl (cI, 250, .inl g1_5)), (q2, .inl (cI, 10, .inl g2_6)), (q16, .inl (cI, 10, .inl f2_12)), (q3, .inl (cI, 25, .inl g3_372)), (q4, .inl (cI, 40, .inl g4_373)), (q13, .inr (3, fs1_371))]) (rn_V (As := [.ref q16, .int 24, .int 0]) (rest := []) hx hb hml hown hts (c_X6_addCome l D cI cJ cZ q8 q16 fs7_4 24 h_7 _) ⟨rfl, rfl⟩ sv_X11_261 ⟨(Nat.le_of_ble_eq_true rfl), (Nat.le_of_ble_eq_true rfl)⟩ ⟨(Nat.le_of_ble_eq_true rfl), (Nat.le_of_ble_eq_true rfl)⟩ (fun _ _ _ _ h => h) (fun _ _ _ => trivial) hK hP hD [9] rfl rfl 0 6 rfl rfl rfl rfl hl.1 rfl (Nat.le_of_ble_eq_true rfl) dX11_blind_38) hP hD hS hA [9] [0, 1, 2, 3, 4, 5, 6, 7, 8] rfl rfl rfl (by decide) (fun w_382 H locs hw_381 hP hD hS => ?_)
  subst hw_381
  have hP : va_P D vwCl [(q11, .inr (1, fs11)), (h0, .inr (11, fs0)), (q9, .inr (7, fs9)), (q1, .inl (cI, 250, .inl g1_5)), (q2, .inl (cI, 10, .inl g2_6)), (q16, .inl (cI, 10, .inl f2_12)), (q3, .inl (cI, 25, .inl g3_372)), (q4, .inl (cI, 40, .inl g4_373)), (q13, .inr (3, fs1_371)), (q8, .inr (6, fs7_4))] H := hP
  have hD : va_D A [(q11, .inr (1, fs11)), (h0, .inr (11, fs0)), (q9, .inr (7, fs9)), (q1, .inl (cI, 250, .inl g1_5)), (q2, .inl (cI, 10, .inl g2_6)), (q16, .inl (cI, 10, .inl f2_12)), (q3, .inl (cI, 25, .inl g3_372)), (q4, .inl (cI, 40, .inl g4_373)), (q13, .inr (3, fs1_371)), (q8, .inr (6, fs7_4))] := hD
  refine lv_aload_n hx hb dX11_blind_41 rfl (lv_at hl 2 rfl) ?_
  refine gt_X11 hx hb hts hown hK hP 1 rfl 7 (by decide) wd_680 rfl hf_fs0_7 dX11_blind_42 ?_
  refine lv_aload_n hx hb dX11_blind_45 rfl (lv_at hl 2 rfl) ?_
  refine gt_X11 hx hb hts hown hK hP 1 rfl 0 (by decide) wd_673 rfl hf_fs0_0 dX11_blind_46 ?_
  refine gt_X1 hx hb hts hown hK hP 0 rfl 0 (by decide) wd_39 rfl hf_fs11_0 dX11_blind_49 ?_
  refine cl_v (wr := [(q11, .inr (1, fs11)), (h0, .inr (11, fs0)), (q9, .inr (7, fs9)), (q1, .inl (cI, 250, .inl g1_5)), (q2, .inl (cI, 10, .inl g2_6)), (q16, .inl (cI, 10, .inl f2_12)), (q8, .inr (6, fs7_4))]) (rn_V (As := [.int 0]) (rest := []) hx hb hml hown hts (c_X3_clear l D cI cJ cZ q13 q3 q4 fs1_371 g3_372 g4_373 h_374 h_376 h_377 _) ⟨rfl, rfl⟩ sv_X11_252 ⟨(Nat.le_of_ble_eq_true rfl), (Nat.le_of_ble_eq_true rfl)⟩ ⟨(Nat.le_of_ble_eq_true rfl), (Nat.le_of_ble_eq_true rfl)⟩ (fun _ _ _ _ h => h) (fun _ _ _ => trivial) hK hP hD [8, 6, 7] rfl rfl 0 3 rfl rfl rfl rfl hl.1 rfl (Nat.le_of_ble_eq_true rfl) dX11_blind_52) hP hD hS hA [8, 6, 7] [0, 1, 2, 3, 4, 5, 9] rfl rfl rfl (by decide) (fun w_385 H locs hw_384 hP hD hS => ?_)
  obtain ⟨fs1_387, g3_388, g4_389, rfl, h_390, h_391, h_392, h_393⟩ := hw_384
  have hP : va_P D vwCl [(q11, .inr (1, fs11)), (h0, .inr (11, fs0)), (q9, .inr (7, fs9)), (q1, .inl (cI, 250, .inl g1_5)), (q2, .inl (cI, 10, .inl g2_6)), (q16, .inl (cI, 10, .inl f2_12)), (q8, .inr (6, fs7_4)), (q13, .inr (3, fs1_387)), (q3, .inl (cI, 25, .inl g3_388)), (q4, .inl (cI, 40, .inl g4_389))] H := hP
  have hD : va_D A [(q11, .inr (1, fs11)), (h0, .inr (11, fs0)), (q9, .inr (7, fs9)), (q1, .inl (cI, 250, .inl g1_5)), (q2, .inl (cI, 10, .inl g2_6)), (q16, .inl (cI, 10, .inl f2_12)), (q8, .inr (6, fs7_4)), (q13, .inr (3, fs1_387)), (q3, .inl (cI, 25, .inl g3_388)), (q4, .inl (cI, 40, .inl g4_389))] := hD
  refine lv_aload_n hx hb dX11_blind_55 rfl (lv_at hl 2 rfl) ?_
  refine gt_X11 hx hb hts hown hK hP 1 rfl 7 (by decide) wd_680 rfl hf_fs0_7 dX11_blind_56 ?_
  refine lv_aload_n hx hb dX11_blind_59 rfl (lv_at hl 2 rfl) ?_
  refine gt_X11 hx hb hts hown hK hP 1 rfl 5 (by decide) wd_678 rfl hf_fs0_5 dX11_blind_60 ?_
  refine lv_aload_n hx hb dX11_blind_63 rfl (lv_at hl 2 rfl) ?_
  refine gt_X11 hx hb hts hown hK hP 1 rfl 6 (by decide) wd_679 rfl hf_fs0_6 dX11_blind_64 ?_
  refine lv_iload_n hx hb dX11_blind_67 rfl (lv_at hl 0 rfl) ?_
  refine lv_aload_n hx hb dX11_blind_68 rfl (lv_at hl 2 rfl) ?_
  refine gt_X11 hx hb hts hown hK hP 1 rfl 13 (by decide) wd_686 rfl hf_fs0_13 dX11_blind_69 ?_
  refine cl_v (wr := [(q11, .inr (1, fs11)), (h0, .inr (11, fs0)), (q9, .inr (7, fs9)), (q1, .inl (cI, 250, .inl g1_5)), (q2, .inl (cI, 10, .inl g2_6)), (q16, .inl (cI, 10, .inl f2_12)), (q3, .inl (cI, 25, .inl g3_388)), (q4, .inl (cI, 40, .inl g4_389))]) (rn_V (As := [.ref q8, .ref q12, .int 24, .ref q16]) (rest := []) hx hb hml hown hts (c_X3_addDay l D cI cJ cZ q13 q8 q12 q16 fs1_387 fs7_4 24 h_390 h_391 h_7 h_8 _) ⟨rfl, rfl⟩ sv_X11_265 ⟨(Nat.le_of_ble_eq_true rfl), (Nat.le_of_ble_eq_true rfl)⟩ ⟨(Nat.le_of_ble_eq_true rfl), (Nat.le_of_ble_eq_true rfl)⟩ (fun _ _ _ _ h => h) (fun _ _ _ => trivial) hK hP hD [7, 6] rfl rfl 0 3 rfl rfl rfl rfl hl.1 rfl (Nat.le_of_ble_eq_true rfl) dX11_blind_72) hP hD hS hA [7, 6] [0, 1, 2, 3, 4, 5, 8, 9] rfl rfl rfl (by decide) (fun w_395 H locs hw_394 hP hD hS => ?_)
  subst hw_394
  have hP : va_P D vwCl [(q11, .inr (1, fs11)), (h0, .inr (11, fs0)), (q9, .inr (7, fs9)), (q1, .inl (cI, 250, .inl g1_5)), (q2, .inl (cI, 10, .inl g2_6)), (q16, .inl (cI, 10, .inl f2_12)), (q3, .inl (cI, 25, .inl g3_388)), (q4, .inl (cI, 40, .inl g4_389)), (q13, .inr (3, fs1_387)), (q8, .inr (6, fs7_4))] H := hP
  have hD : va_D A [(q11, .inr (1, fs11)), (h0, .inr (11, fs0)), (q9, .inr (7, fs9)), (q1, .inl (cI, 250, .inl g1_5)), (q2, .inl (cI, 10, .inl g2_6)), (q16, .inl (cI, 10, .inl f2_12)), (q3, .inl (cI, 25, .inl g3_388)), (q4, .inl (cI, 40, .inl g4_389)), (q13, .inr (3, fs1_387)), (q8, .inr (6, fs7_4))] := hD
  refine lv_aload_n hx hb dX11_blind_75 rfl (lv_at hl 2 rfl) ?_
  refine gt_X11 hx hb hts hown hK hP 1 rfl 7 (by decide) wd_680 rfl hf_fs0_7 dX11_blind_76 ?_
  refine gt_X3 hx hb hts hown hK hP 8 rfl 1 (by decide) wd_406 rfl h_391 dX11_blind_79 ?_
  refine lv_if_le (tgt := 106) hx hb dX11_blind_82 (by decide) (fun _ => ?_) (fun h => (h (by decide)).elim)
  refine lv_iinc (v := 25) (lv' := [(2, .int 25), (1, .int 0), (0, .ref h0)]) hx hb dX11_blind_106 hl (k := 0) rfl (by decide) (by decide) rfl (fun ls hl => ?_)
  refine lv_goto (tgt := 16) hx hb dX11_blind_109 (by decide) ?_
  refine lv_iload_n hx hb dX11_blind_16 rfl (lv_at hl 0 rfl) ?_
  refine lv_bipush (v := 24) hx hb dX11_blind_17 (by decide) ?_
  refine lv_icmp_gt (tgt := 112) hx hb dX11_blind_19 (by decide) (fun _ => ?_) (fun h => (h (by decide)).elim)
  refine lv_iload_n hx hb dX11_blind_112 rfl (lv_at hl 1 rfl) ?_
  exact fin_i hx hb hr hlk hK hP hD hS dX11_blind_113 (rfl)
set_option maxRecDepth 100000 in
set_option maxHeartbeats 4000000 in
theorem c_X11_given (l : Launch) (D : va_G) (cI cJ cZ : ClassId) (h0 q1 : Nat) (fs0 fs1 : List Value) (p0 : Int32) (hl_fs0 : fs0.length = 14) (hf_fs0_10 : fs0[10]? = some (.ref q1)) (hl_fs1 : fs1.length = 17) (hf_fs1_0 : fs1[0]? = some (.int 0)) : Con_i l yX11_given cX11_given 2 (some .int) ({ frames := 0, cells := 0, slots := 0, locals := 0 }) D cI cJ cZ eT [.ref h0, .int p0] [(h0, .inr (11, fs0)), (q1, .inr (4, fs1))] (fun r _ => r = (-1)) := by
  refine ent_i (by decide) (Nat.le_of_ble_eq_true rfl) ?_
  intro p e s m below meth c A hx hb hml hown hts hr hlk hnm hK hE hA hP hD hS ls hl
  have hown : s.vm.findClass RX11 = some m.cls := hown
  have hl : lv_has ls 2 [(0, .ref h0), (1, .int p0)] := hl
  refine lv_aload_n hx hb dX11_given_0 rfl (lv_at hl 0 rfl) ?_
  refine gt_X11 hx hb hts hown hK hP 0 rfl 10 (by decide) wd_683 rfl hf_fs0_10 dX11_given_1 ?_
  refine gt_X4 hx hb hts hown hK hP 1 rfl 0 (by decide) wd_567 rfl hf_fs1_0 dX11_given_4 ?_
  refine lv_if_eq (tgt := 21) hx hb dX11_given_7 (by decide) (fun _ => ?_) (fun h => (h (by decide)).elim)
  refine lv_iconst (v := (-1)) hx hb dX11_given_21 (by decide) ?_
  exact fin_i hx hb hr hlk hK hP hD hS dX11_given_22 (rfl)
set_option maxRecDepth 100000 in
set_option maxHeartbeats 4000000 in
theorem c_X11_gets (l : Launch) (D : va_G) (cI cJ cZ : ClassId) (h0 q1 : Nat) (fs0 fs1 : List Value) (p0 : Int32) (hl_fs0 : fs0.length = 14) (hf_fs0_10 : fs0[10]? = some (.ref q1)) (hl_fs1 : fs1.length = 17) (hf_fs1_0 : fs1[0]? = some (.int 0)) : Con_i l yX11_gets cX11_gets 2 (some .int) ({ frames := 1, cells := 0, slots := 0, locals := 21 }) D cI cJ cZ eT [.ref h0, .int p0] [(h0, .inr (11, fs0)), (q1, .inr (4, fs1))] (fun r _ => r = (-1)) := by
  refine ent_i (by decide) (Nat.le_of_ble_eq_true rfl) ?_
  intro p e s m below meth c A hx hb hml hown hts hr hlk hnm hK hE hA hP hD hS ls hl
  have hown : s.vm.findClass RX11 = some m.cls := hown
  have hl : lv_has ls 2 [(0, .ref h0), (1, .int p0)] := hl
  refine lv_aload_n hx hb dX11_gets_0 rfl (lv_at hl 0 rfl) ?_
  refine gt_X11 hx hb hts hown hK hP 0 rfl 10 (by decide) wd_683 rfl hf_fs0_10 dX11_gets_1 ?_
  refine lv_iload_n hx hb dX11_gets_4 rfl (lv_at hl 1 rfl) ?_
  refine cl_i (wr := [(h0, .inr (11, fs0))]) (rn_V (As := [.int p0]) (rest := []) hx hb hml hown hts (c_X4_isChild l D cI cJ cZ q1 fs1 p0 hl_fs1 hf_fs1_0 _) ⟨rfl, rfl⟩ sv_X11_279 ⟨(Nat.le_of_ble_eq_true rfl), (Nat.le_of_ble_eq_true rfl)⟩ ⟨(Nat.le_of_ble_eq_true rfl), (Nat.le_of_ble_eq_true rfl)⟩ (fun _ _ _ _ h => h) (fun _ _ _ => trivial) hK hP hD [1] rfl rfl 0 4 rfl rfl rfl rfl hl.1 rfl (Nat.le_of_ble_eq_true rfl) dX11_gets_5) hP hD hS hA [1] [0] rfl rfl rfl (by decide) (fun r_3 w_2 H locs hw_1 hP hD hS => ?_)
  obtain ⟨rfl, hr_4⟩ := hw_1
  have hP : va_P D vwCl [(h0, .inr (11, fs0)), (q1, .inr (4, fs1))] H := hP
  have hD : va_D A [(h0, .inr (11, fs0)), (q1, .inr (4, fs1))] := hD
  refine tov (v := 0) hr_4 ?_
  refine lv_if_eq (tgt := 23) hx hb dX11_gets_8 (by decide) (fun _ => ?_) (fun h => (h (by decide)).elim)
  refine lv_iconst (v := (-1)) hx hb dX11_gets_23 (by decide) ?_
  exact fin_i hx hb hr hlk hK hP hD hS dX11_gets_24 (rfl)
set_option maxRecDepth 100000 in
set_option maxHeartbeats 4000000 in
theorem c_X11_left (l : Launch) (D : va_G) (cI cJ cZ : ClassId) (h0 q1 : Nat) (fs0 fs1 : List Value) (p0 : Int32) (hl_fs0 : fs0.length = 14) (hf_fs0_10 : fs0[10]? = some (.ref q1)) (hl_fs1 : fs1.length = 17) (hf_fs1_0 : fs1[0]? = some (.int 0)) : Con_i l yX11_left cX11_left 2 (some .int) ({ frames := 0, cells := 0, slots := 0, locals := 0 }) D cI cJ cZ eT [.ref h0, .int p0] [(h0, .inr (11, fs0)), (q1, .inr (4, fs1))] (fun r _ => r = (-1)) := by
  refine ent_i (by decide) (Nat.le_of_ble_eq_true rfl) ?_
  intro p e s m below meth c A hx hb hml hown hts hr hlk hnm hK hE hA hP hD hS ls hl
  have hown : s.vm.findClass RX11 = some m.cls := hown
  have hl : lv_has ls 2 [(0, .ref h0), (1, .int p0)] := hl
  refine lv_aload_n hx hb dX11_left_0 rfl (lv_at hl 0 rfl) ?_
  refine gt_X11 hx hb hts hown hK hP 0 rfl 10 (by decide) wd_683 rfl hf_fs0_10 dX11_left_1 ?_
  refine gt_X4 hx hb hts hown hK hP 1 rfl 0 (by decide) wd_567 rfl hf_fs1_0 dX11_left_4 ?_
  refine lv_if_eq (tgt := 30) hx hb dX11_left_7 (by decide) (fun _ => ?_) (fun h => (h (by decide)).elim)
  refine lv_iconst (v := (-1)) hx hb dX11_left_30 (by decide) ?_
  exact fin_i hx hb hr hlk hK hP hD hS dX11_left_31 (rfl)
set_option maxRecDepth 100000 in
set_option maxHeartbeats 4000000 in
theorem c_X11_lacks (l : Launch) (D : va_G) (cI cJ cZ : ClassId) (h0 q1 : Nat) (fs0 fs1 : List Value) (p0 : Int32) (p1 : Int32) (hl_fs0 : fs0.length = 14) (hf_fs0_10 : fs0[10]? = some (.ref q1)) (hl_fs1 : fs1.length = 17) (hf_fs1_0 : fs1[0]? = some (.int 0)) : Con_i l yX11_lacks cX11_lacks 3 (some .int) ({ frames := 0, cells := 0, slots := 0, locals := 0 }) D cI cJ cZ eT [.ref h0, .int p0, .int p1] [(h0, .inr (11, fs0)), (q1, .inr (4, fs1))] (fun r _ => r = (-1)) := by
  refine ent_i (by decide) (Nat.le_of_ble_eq_true rfl) ?_
  intro p e s m below meth c A hx hb hml hown hts hr hlk hnm hK hE hA hP hD hS ls hl
  have hown : s.vm.findClass RX11 = some m.cls := hown
  have hl : lv_has ls 3 [(0, .ref h0), (1, .int p0), (2, .int p1)] := hl
  refine lv_aload_n hx hb dX11_lacks_0 rfl (lv_at hl 0 rfl) ?_
  refine gt_X11 hx hb hts hown hK hP 0 rfl 10 (by decide) wd_683 rfl hf_fs0_10 dX11_lacks_1 ?_
  refine gt_X4 hx hb hts hown hK hP 1 rfl 0 (by decide) wd_567 rfl hf_fs1_0 dX11_lacks_4 ?_
  refine lv_if_eq (tgt := 22) hx hb dX11_lacks_7 (by decide) (fun _ => ?_) (fun h => (h (by decide)).elim)
  refine lv_iconst (v := (-1)) hx hb dX11_lacks_22 (by decide) ?_
  exact fin_i hx hb hr hlk hK hP hD hS dX11_lacks_23 (rfl)
set_option maxRecDepth 100000 in
set_option maxHeartbeats 4000000 in
theorem c_X11_price (l : Launch) (D : va_G) (cI cJ cZ : ClassId) (h0 q1 : Nat) (fs0 fs1 : List Value) (p0 : Int32) (hl_fs0 : fs0.length = 14) (hf_fs0_10 : fs0[10]? = some (.ref q1)) (hl_fs1 : fs1.length = 17) (hf_fs1_0 : fs1[0]? = some (.int 0)) : Con_i l yX11_price cX11_price 2 (some .int) ({ frames := 1, cells := 0, slots := 0, locals := 21 }) D cI cJ cZ eT [.ref h0, .int p0] [(h0, .inr (11, fs0)), (q1, .inr (4, fs1))] (fun r _ => r = (-1)) := by
  refine ent_i (by decide) (Nat.le_of_ble_eq_true rfl) ?_
  intro p e s m below meth c A hx hb hml hown hts hr hlk hnm hK hE hA hP hD hS ls hl
  have hown : s.vm.findClass RX11 = some m.cls := hown
  have hl : lv_has ls 2 [(0, .ref h0), (1, .int p0)] := hl
  refine lv_aload_n hx hb dX11_price_0 rfl (lv_at hl 0 rfl) ?_
  refine gt_X11 hx hb hts hown hK hP 0 rfl 10 (by decide) wd_683 rfl hf_fs0_10 dX11_price_1 ?_
  refine lv_iload_n hx hb dX11_price_4 rfl (lv_at hl 1 rfl) ?_
  refine cl_i (wr := [(h0, .inr (11, fs0))]) (rn_V (As := [.int p0]) (rest := []) hx hb hml hown hts (c_X4_isChild l D cI cJ cZ q1 fs1 p0 hl_fs1 hf_fs1_0 _) ⟨rfl, rfl⟩ sv_X11_279 ⟨(Nat.le_of_ble_eq_true rfl), (Nat.le_of_ble_eq_true rfl)⟩ ⟨(Nat.le_of_ble_eq_true rfl), (Nat.le_of_ble_eq_true rfl)⟩ (fun _ _ _ _ h => h) (fun _ _ _ => trivial) hK hP hD [1] rfl rfl 0 4 rfl rfl rfl rfl hl.1 rfl (Nat.le_of_ble_eq_true rfl) dX11_price_5) hP hD hS hA [1] [0] rfl rfl rfl (by decide) (fun r_3 w_2 H locs hw_1 hP hD hS => ?_)
  obtain ⟨rfl, hr_4⟩ := hw_1
  have hP : va_P D vwCl [(h0, .inr (11, fs0)), (q1, .inr (4, fs1))] H := hP
  have hD : va_D A [(h0, .inr (11, fs0)), (q1, .inr (4, fs1))] := hD
  refine tov (v := 0) hr_4 ?_
  refine lv_if_eq (tgt := 26) hx hb dX11_price_8 (by decide) (fun _ => ?_) (fun h => (h (by decide)).elim)
  refine lv_iconst (v := (-1)) hx hb dX11_price_26 (by decide) ?_
  exact fin_i hx hb hr hlk hK hP hD hS dX11_price_27 (rfl)
set_option maxRecDepth 100000 in
set_option maxHeartbeats 4000000 in
theorem c_X11_spend (l : Launch) (D : va_G) (cI cJ cZ : ClassId) (h0 q1 : Nat) (fs0 fs1 : List Value) (p0 : Int32) (hl_fs0 : fs0.length = 14) (hf_fs0_10 : fs0[10]? = some (.ref q1)) (hl_fs1 : fs1.length = 17) (hf_fs1_0 : fs1[0]? = some (.int 0)) : Con_i l yX11_spend cX11_spend 2 (some .int) ({ frames := 0, cells := 0, slots := 0, locals := 0 }) D cI cJ cZ eT [.ref h0, .int p0] [(h0, .inr (11, fs0)), (q1, .inr (4, fs1))] (fun r _ => r = (-1)) := by
  refine ent_i (by decide) (Nat.le_of_ble_eq_true rfl) ?_
  intro p e s m below meth c A hx hb hml hown hts hr hlk hnm hK hE hA hP hD hS ls hl
  have hown : s.vm.findClass RX11 = some m.cls := hown
  have hl : lv_has ls 2 [(0, .ref h0), (1, .int p0)] := hl
  refine lv_aload_n hx hb dX11_spend_0 rfl (lv_at hl 0 rfl) ?_
  refine gt_X11 hx hb hts hown hK hP 0 rfl 10 (by decide) wd_683 rfl hf_fs0_10 dX11_spend_1 ?_
  refine gt_X4 hx hb hts hown hK hP 1 rfl 0 (by decide) wd_567 rfl hf_fs1_0 dX11_spend_4 ?_
  refine lv_if_eq (tgt := 32) hx hb dX11_spend_7 (by decide) (fun _ => ?_) (fun h => (h (by decide)).elim)
  refine lv_iconst (v := (-1)) hx hb dX11_spend_32 (by decide) ?_
  exact fin_i hx hb hr hlk hK hP hD hS dX11_spend_33 (rfl)
set_option maxRecDepth 100000 in
set_option maxHeartbeats 4000000 in
theorem c_X11_spent (l : Launch) (D : va_G) (cI cJ cZ : ClassId) (h0 q1 : Nat) (fs0 fs1 : List Value) (hl_fs0 : fs0.length = 14) (hf_fs0_10 : fs0[10]? = some (.ref q1)) (hl_fs1 : fs1.length = 17) (hf_fs1_0 : fs1[0]? = some (.int 0)) : Con_i l yX11_spent cX11_spent 1 (some .int) ({ frames := 0, cells := 0, slots := 0, locals := 0 }) D cI cJ cZ eT [.ref h0] [(h0, .inr (11, fs0)), (q1, .inr (4, fs1))] (fun r _ => r = (-1)) := by
  refine ent_i (by decide) (Nat.le_of_ble_eq_true rfl) ?_
  intro p e s m below meth c A hx hb hml hown hts hr hlk hnm hK hE hA hP hD hS ls hl
  have hown : s.vm.findClass RX11 = some m.cls := hown
  have hl : lv_has ls 1 [(0, .ref h0)] := hl
  refine lv_aload_n hx hb dX11_spent_0 rfl (lv_at hl 0 rfl) ?_
  refine gt_X11 hx hb hts hown hK hP 0 rfl 10 (by decide) wd_683 rfl hf_fs0_10 dX11_spent_1 ?_
  refine gt_X4 hx hb hts hown hK hP 1 rfl 0 (by decide) wd_567 rfl hf_fs1_0 dX11_spent_4 ?_
  refine lv_if_eq (tgt := 20) hx hb dX11_spent_7 (by decide) (fun _ => ?_) (fun h => (h (by decide)).elim)
  refine lv_iconst (v := (-1)) hx hb dX11_spent_20 (by decide) ?_
  exact fin_i hx hb hr hlk hK hP hD hS dX11_spent_21 (rfl)
set_option maxRecDepth 100000 in
set_option maxHeartbeats 4000000 in
theorem c_X11_right (l : Launch) (D : va_G) (cI cJ cZ : ClassId) (h0 q1 : Nat) (fs0 fs1 : List Value) (hl_fs0 : fs0.length = 14) (hf_fs0_10 : fs0[10]? = some (.ref q1)) (hl_fs1 : fs1.length = 17) (hf_fs1_0 : fs1[0]? = some (.int 0)) : Con_i l yX11_right cX11_right 1 (some .int) ({ frames := 0, cells := 0, slots := 0, locals := 0 }) D cI cJ cZ eT [.ref h0] [(h0, .inr (11, fs0)), (q1, .inr (4, fs1))] (fun r _ => r = (-1)) := by
  refine ent_i (by decide) (Nat.le_of_ble_eq_true rfl) ?_
  intro p e s m below meth c A hx hb hml hown hts hr hlk hnm hK hE hA hP hD hS ls hl
  have hown : s.vm.findClass RX11 = some m.cls := hown
  have hl : lv_has ls 1 [(0, .ref h0)] := hl
  refine lv_aload_n hx hb dX11_right_0 rfl (lv_at hl 0 rfl) ?_
  refine gt_X11 hx hb hts hown hK hP 0 rfl 10 (by decide) wd_683 rfl hf_fs0_10 dX11_right_1 ?_
  refine gt_X4 hx hb hts hown hK hP 1 rfl 0 (by decide) wd_567 rfl hf_fs1_0 dX11_right_4 ?_
  refine lv_if_eq (tgt := 24) hx hb dX11_right_7 (by decide) (fun _ => ?_) (fun h => (h (by decide)).elim)
  refine lv_iconst (v := (-1)) hx hb dX11_right_24 (by decide) ?_
  exact fin_i hx hb hr hlk hK hP hD hS dX11_right_25 (rfl)
set_option maxRecDepth 100000 in
set_option maxHeartbeats 4000000 in
theorem c_X11_walks (l : Launch) (D : va_G) (cI cJ cZ : ClassId) (h0 q1 : Nat) (fs0 fs1 : List Value) (p0 : Int32) (hl_fs0 : fs0.length = 14) (hf_fs0_10 : fs0[10]? = some (.ref q1)) (hl_fs1 : fs1.length = 17) (hf_fs1_0 : fs1[0]? = some (.int 0)) : Con_i l yX11_walks cX11_walks 2 (some .int) ({ frames := 0, cells := 0, slots := 0, locals := 0 }) D cI cJ cZ eT [.ref h0, .int p0] [(h0, .inr (11, fs0)), (q1, .inr (4, fs1))] (fun r _ => r = (-1)) := by
  refine ent_i (by decide) (Nat.le_of_ble_eq_true rfl) ?_
  intro p e s m below meth c A hx hb hml hown hts hr hlk hnm hK hE hA hP hD hS ls hl
  have hown : s.vm.findClass RX11 = some m.cls := hown
  have hl : lv_has ls 2 [(0, .ref h0), (1, .int p0)] := hl
  refine lv_aload_n hx hb dX11_walks_0 rfl (lv_at hl 0 rfl) ?_
  refine gt_X11 hx hb hts hown hK hP 0 rfl 10 (by decide) wd_683 rfl hf_fs0_10 dX11_walks_1 ?_
  refine gt_X4 hx hb hts hown hK hP 1 rfl 0 (by decide) wd_567 rfl hf_fs1_0 dX11_walks_4 ?_
  refine lv_if_eq (tgt := 20) hx hb dX11_walks_7 (by decide) (fun _ => ?_) (fun h => (h (by decide)).elim)
  refine lv_iconst (v := (-1)) hx hb dX11_walks_20 (by decide) ?_
  exact fin_i hx hb hr hlk hK hP hD hS dX11_walks_21 (rfl)
set_option maxRecDepth 100000 in
set_option maxHeartbeats 4000000 in
theorem c_X11_bag (l : Launch) (D : va_G) (cI cJ cZ : ClassId) (h0 q1 : Nat) (fs0 fs1 : List Value) (p0 : Int32) (hl_fs0 : fs0.length = 14) (hf_fs0_10 : fs0[10]? = some (.ref q1)) (hl_fs1 : fs1.length = 17) (hf_fs1_0 : fs1[0]? = some (.int 0)) : Con_i l yX11_bag cX11_bag 2 (some .int) ({ frames := 0, cells := 0, slots := 0, locals := 0 }) D cI cJ cZ eT [.ref h0, .int p0] [(h0, .inr (11, fs0)), (q1, .inr (4, fs1))] (fun r _ => r = (-1)) := by
  refine ent_i (by decide) (Nat.le_of_ble_eq_true rfl) ?_
  intro p e s m below meth c A hx hb hml hown hts hr hlk hnm hK hE hA hP hD hS ls hl
  have hown : s.vm.findClass RX11 = some m.cls := hown
  have hl : lv_has ls 2 [(0, .ref h0), (1, .int p0)] := hl
  refine lv_aload_n hx hb dX11_bag_0 rfl (lv_at hl 0 rfl) ?_
  refine gt_X11 hx hb hts hown hK hP 0 rfl 10 (by decide) wd_683 rfl hf_fs0_10 dX11_bag_1 ?_
  refine gt_X4 hx hb hts hown hK hP 1 rfl 0 (by decide) wd_567 rfl hf_fs1_0 dX11_bag_4 ?_
  refine lv_if_eq (tgt := 14) hx hb dX11_bag_7 (by decide) (fun _ => ?_) (fun h => (h (by decide)).elim)
  refine lv_iconst (v := (-1)) hx hb dX11_bag_14 (by decide) ?_
  exact fin_i hx hb hr hlk hK hP hD hS dX11_bag_15 (rfl)
set_option maxRecDepth 100000 in
set_option maxHeartbeats 4000000 in
theorem c_X11_queue (l : Launch) (D : va_G) (cI cJ cZ : ClassId) (h0 q1 : Nat) (fs0 fs1 : List Value) (p0 : Int32) (p1 : Int32) (p2 : Int32) (hl_fs0 : fs0.length = 14) (hf_fs0_10 : fs0[10]? = some (.ref q1)) (hl_fs1 : fs1.length = 17) (hf_fs1_0 : fs1[0]? = some (.int 0)) : Con_i l yX11_queue cX11_queue 4 (some .int) ({ frames := 0, cells := 0, slots := 0, locals := 0 }) D cI cJ cZ eT [.ref h0, .int p0, .int p1, .int p2] [(h0, .inr (11, fs0)), (q1, .inr (4, fs1))] (fun r _ => r = (-1)) := by
  refine ent_i (by decide) (Nat.le_of_ble_eq_true rfl) ?_
  intro p e s m below meth c A hx hb hml hown hts hr hlk hnm hK hE hA hP hD hS ls hl
  have hown : s.vm.findClass RX11 = some m.cls := hown
  have hl : lv_has ls 4 [(0, .ref h0), (1, .int p0), (2, .int p1), (3, .int p2)] := hl
  refine lv_aload_n hx hb dX11_queue_0 rfl (lv_at hl 0 rfl) ?_
  refine gt_X11 hx hb hts hown hK hP 0 rfl 10 (by decide) wd_683 rfl hf_fs0_10 dX11_queue_1 ?_
  refine gt_X4 hx hb hts hown hK hP 1 rfl 0 (by decide) wd_567 rfl hf_fs1_0 dX11_queue_4 ?_
  refine lv_if_eq (tgt := 36) hx hb dX11_queue_7 (by decide) (fun _ => ?_) (fun h => (h (by decide)).elim)
  refine lv_iconst (v := (-1)) hx hb dX11_queue_36 (by decide) ?_
  exact fin_i hx hb hr hlk hK hP hD hS dX11_queue_37 (rfl)
set_option maxRecDepth 100000 in
set_option maxHeartbeats 4000000 in
theorem c_X11_label (l : Launch) (D : va_G) (cI cJ cZ : ClassId) (h0 q1 : Nat) (fs0 fs1 : List Value) (p0 : Int32) (hl_fs0 : fs0.length = 14) (hf_fs0_10 : fs0[10]? = some (.ref q1)) (hl_fs1 : fs1.length = 17) (hf_fs1_0 : fs1[0]? = some (.int 0)) : Con_i l yX11_label cX11_label 2 (some .int) ({ frames := 1, cells := 0, slots := 0, locals := 21 }) D cI cJ cZ eT [.ref h0, .int p0] [(h0, .inr (11, fs0)), (q1, .inr (4, fs1))] (fun r _ => r = (-1)) := by
  refine ent_i (by decide) (Nat.le_of_ble_eq_true rfl) ?_
  intro p e s m below meth c A hx hb hml hown hts hr hlk hnm hK hE hA hP hD hS ls hl
  have hown : s.vm.findClass RX11 = some m.cls := hown
  have hl : lv_has ls 2 [(0, .ref h0), (1, .int p0)] := hl
  refine lv_aload_n hx hb dX11_label_0 rfl (lv_at hl 0 rfl) ?_
  refine gt_X11 hx hb hts hown hK hP 0 rfl 10 (by decide) wd_683 rfl hf_fs0_10 dX11_label_1 ?_
  refine lv_iload_n hx hb dX11_label_4 rfl (lv_at hl 1 rfl) ?_
  refine cl_i (wr := [(h0, .inr (11, fs0))]) (rn_V (As := [.int p0]) (rest := []) hx hb hml hown hts (c_X4_isChild l D cI cJ cZ q1 fs1 p0 hl_fs1 hf_fs1_0 _) ⟨rfl, rfl⟩ sv_X11_279 ⟨(Nat.le_of_ble_eq_true rfl), (Nat.le_of_ble_eq_true rfl)⟩ ⟨(Nat.le_of_ble_eq_true rfl), (Nat.le_of_ble_eq_true rfl)⟩ (fun _ _ _ _ h => h) (fun _ _ _ => trivial) hK hP hD [1] rfl rfl 0 4 rfl rfl rfl rfl hl.1 rfl (Nat.le_of_ble_eq_true rfl) dX11_label_5) hP hD hS hA [1] [0] rfl rfl rfl (by decide) (fun r_3 w_2 H locs hw_1 hP hD hS => ?_)
  obtain ⟨rfl, hr_4⟩ := hw_1
  have hP : va_P D vwCl [(h0, .inr (11, fs0)), (q1, .inr (4, fs1))] H := hP
  have hD : va_D A [(h0, .inr (11, fs0)), (q1, .inr (4, fs1))] := hD
  refine tov (v := 0) hr_4 ?_
  refine lv_if_eq (tgt := 23) hx hb dX11_label_8 (by decide) (fun _ => ?_) (fun h => (h (by decide)).elim)
  refine lv_iconst (v := (-1)) hx hb dX11_label_23 (by decide) ?_
  exact fin_i hx hb hr hlk hK hP hD hS dX11_label_24 (rfl)
set_option maxRecDepth 100000 in
set_option maxHeartbeats 4000000 in
theorem c_X11_at (l : Launch) (D : va_G) (cI cJ cZ : ClassId) (h0 q1 : Nat) (fs0 fs1 : List Value) (p0 : Int32) (hl_fs0 : fs0.length = 14) (hf_fs0_11 : fs0[11]? = some (.ref q1)) (hl_fs1 : fs1.length = 11) (hf_fs1_10 : fs1[10]? = some (.int 0)) : Con_i l yX11_at cX11_at 2 (some .int) ({ frames := 0, cells := 0, slots := 0, locals := 0 }) D cI cJ cZ eT [.ref h0, .int p0] [(h0, .inr (11, fs0)), (q1, .inr (0, fs1))] (fun r _ => r = (-1)) := by
  refine ent_i (by decide) (Nat.le_of_ble_eq_true rfl) ?_
  intro p e s m below meth c A hx hb hml hown hts hr hlk hnm hK hE hA hP hD hS ls hl
  have hown : s.vm.findClass RX11 = some m.cls := hown
  have hl : lv_has ls 2 [(0, .ref h0), (1, .int p0)] := hl
  refine lv_iload_n hx hb dX11_at_0 rfl (lv_at hl 1 rfl) ?_
  refine lv_if_lt (tgt := 27) hx hb dX11_at_1 (by decide) (fun c_1 => ?_) (fun c_1 => ?_)
  · refine lv_iconst (v := (-1)) hx hb dX11_at_27 (by decide) ?_
    exact fin_i hx hb hr hlk hK hP hD hS dX11_at_28 (rfl)
  · refine lv_iload_n hx hb dX11_at_4 rfl (lv_at hl 1 rfl) ?_
    refine lv_aload_n hx hb dX11_at_5 rfl (lv_at hl 0 rfl) ?_
    refine gt_X11 hx hb hts hown hK hP 0 rfl 11 (by decide) wd_684 rfl hf_fs0_11 dX11_at_6 ?_
    refine gt_X0 hx hb hts hown hK hP 1 rfl 10 (by decide) wd_649 rfl hf_fs1_10 dX11_at_9 ?_
    refine lv_icmp_ge (tgt := 27) hx hb dX11_at_12 (by decide) (fun _ => ?_) (fun h => (h ((by have k0 := c_1; rw [q_lt] at k0; have z0 : (0 : Int32).toInt = 0 := (by decide); rw [q_le]; omega))).elim)
    refine lv_iconst (v := (-1)) hx hb dX11_at_27 (by decide) ?_
    exact fin_i hx hb hr hlk hK hP hD hS dX11_at_28 (rfl)
