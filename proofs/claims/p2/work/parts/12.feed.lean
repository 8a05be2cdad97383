set_option maxRecDepth 100000 in
set_option maxHeartbeats 4000000 in
theorem c_X11_feed (l : Launch) (D : va_G) (cI cJ cZ : ClassId) (h0 q1 q2 : Nat) (fs0 fs1 : List Value) (f1 : Nat → Int32) (p0 : Int32) (p1 : Int32) (p2 : Int32) (p3 : Int32) (p4 : Int32) (n : Nat) (hl_fs0 : fs0.length = 14) (hf_fs0_2 : fs0[2]? = some (.ref q1)) (hl_fs1 : fs1.length = 8) (hf_fs1_0 : fs1[0]? = some (.ref q2)) (hf_fs1_1 : fs1[1]? = some (.int (nI n))) (hn0 : n ≤ 1000) : Con_i l yX11_feed cX11_feed 6 (some .int) ({ frames := 1, cells := 0, slots := 0, locals := 22 }) D cI cJ cZ eT [.ref h0, .int p0, .int p1, .int p2, .int p3, .int p4] [(h0, .inr (11, fs0)), (q1, .inr (10, fs1)), (q2, .inl (cI, 1000, .inl f1))] (fun (r : Int32) (w : va_W) => ∃ (fs2 : List Value) (g1 : Nat → Int32), w = [(h0, .inr (11, fs0)), (q1, .inr (10, fs2)), (q2, .inl (cI, 1000, .inl g1))] ∧ fs2.length = 8 ∧ fs2[0]? = some (.ref q2) ∧ fs2[1]? = some (.int (nI (nf_ n))) ∧ r = (sp_feed n)) := by
  refine ent_i (by decide) (Nat.le_of_ble_eq_true rfl) ?_
  intro p e s m below meth c A hx hb hml hown hts hr hlk hnm hK hE hA hP hD hS ls hl
  have hown : s.vm.findClass RX11 = some m.cls := hown
  have hl : lv_has ls 6 [(0, .ref h0), (1, .int p0), (2, .int p1), (3, .int p2), (4, .int p3), (5, .int p4)] := hl
  refine lv_aload_n hx hb dX11_feed_0 rfl (lv_at hl 0 rfl) ?_
  refine gt_X11 hx hb hts hown hK hP 0 rfl 2 (by decide) wd_675 rfl hf_fs0_2 dX11_feed_1 ?_
  refine gt_X10 hx hb hts hown hK hP 1 rfl 1 (by decide) wd_191 rfl hf_fs1_1 dX11_feed_4 ?_
  refine lv_bipush (v := 20) hx hb dX11_feed_7 (by decide) ?_
  refine lv_iadd hx hb dX11_feed_9 ?_
  refine tov (v := (nI (n + 20))) (nI_add _ _) ?_
  refine lv_sipush (v := 1000) hx hb dX11_feed_10 (by decide) ?_
  refine lv_icmp_le (tgt := 18) hx hb dX11_feed_13 (by decide) (fun c_1 => ?_) (fun c_1 => ?_)
  · have c_1n := n_le (a := (n + 20)) (b := 1000) c_1 (by omega) (by omega)
    refine lv_aload_n hx hb dX11_feed_18 rfl (lv_at hl 0 rfl) ?_
    refine gt_X11 hx hb hts hown hK hP 0 rfl 2 (by decide) wd_675 rfl hf_fs0_2 dX11_feed_19 ?_
    refine lv_iload_n hx hb dX11_feed_22 rfl (lv_at hl 1 rfl) ?_
    refine cl_v (wr := [(h0, .inr (11, fs0))]) (rn_V (As := [.int p0]) (rest := []) hx hb hml hown hts (c_X10_put l D cI cJ cZ q1 q2 fs1 f1 p0 n hl_fs1 hf_fs1_0 hf_fs1_1 (by omega) _) ⟨rfl, rfl⟩ sv_X11_106 ⟨(Nat.le_of_ble_eq_true rfl), (Nat.le_of_ble_eq_true rfl)⟩ ⟨(Nat.le_of_ble_eq_true rfl), (Nat.le_of_ble_eq_true rfl)⟩ (fun _ _ _ _ h => h) (fun _ _ _ => trivial) hK hP hD [1, 2] rfl rfl 0 10 rfl rfl rfl rfl hl.1 rfl (Nat.le_of_ble_eq_true rfl) dX11_feed_23) hP hD hS hA [1, 2] [0] rfl rfl rfl (by decide) (fun w_3 H locs hw_2 hP hD hS => ?_)
    obtain ⟨fs1_5, f2_6, rfl, h_7, h_8, h_9⟩ := hw_2
    have hP : va_P D vwCl [(h0, .inr (11, fs0)), (q1, .inr (10, fs1_5)), (q2, .inl (cI, 1000, .inl f2_6))] H := hP
    have hD : va_D A [(h0, .inr (11, fs0)), (q1, .inr (10, fs1_5)), (q2, .inl (cI, 1000, .inl f2_6))] := hD
    refine lv_aload_n hx hb dX11_feed_26 rfl (lv_at hl 0 rfl) ?_
    refine gt_X11 hx hb hts hown hK hP 0 rfl 2 (by decide) wd_675 rfl hf_fs0_2 dX11_feed_27 ?_
    refine lv_iload_n hx hb dX11_feed_30 rfl (lv_at hl 2 rfl) ?_
    refine cl_v (wr := [(h0, .inr (11, fs0))]) (rn_V (As := [.int p1]) (rest := []) hx hb hml hown hts (c_X10_put l D cI cJ cZ q1 q2 fs1_5 f2_6 p1 (n + 4) h_7 h_8 h_9 (by omega) _) ⟨rfl, rfl⟩ sv_X11_106 ⟨(Nat.le_of_ble_eq_true rfl), (Nat.le_of_ble_eq_true rfl)⟩ ⟨(Nat.le_of_ble_eq_true rfl), (Nat.le_of_ble_eq_true rfl)⟩ (fun _ _ _ _ h => h) (fun _ _ _ => trivial) hK hP hD [1, 2] rfl rfl 0 10 rfl rfl rfl rfl hl.1 rfl (Nat.le_of_ble_eq_true rfl) dX11_feed_31) hP hD hS hA [1, 2] [0] rfl rfl rfl (by decide) (fun w_11 H locs hw_10 hP hD hS => ?_)
    obtain ⟨fs1_13, f2_14, rfl, h_15, h_16, h_17⟩ := hw_10
    have hP : va_P D vwCl [(h0, .inr (11, fs0)), (q1, .inr (10, fs1_13)), (q2, .inl (cI, 1000, .inl f2_14))] H := hP
    have hD : va_D A [(h0, .inr (11, fs0)), (q1, .inr (10, fs1_13)), (q2, .inl (cI, 1000, .inl f2_14))] := hD
    refine lv_aload_n hx hb dX11_feed_34 rfl (lv_at hl 0 rfl) ?_
    refine gt_X11 hx hb hts hown hK hP 0 rfl 2 (by decide) wd_675 rfl hf_fs0_2 dX11_feed_35 ?_
    refine lv_iload_n hx hb dX11_feed_38 rfl (lv_at hl 3 rfl) ?_
    refine cl_v (wr := [(h0, .inr (11, fs0))]) (rn_V (As := [.int p2]) (rest := []) hx hb hml hown hts (c_X10_put l D cI cJ cZ q1 q2 fs1_13 f2_14 p2 ((n + 4) + 4) h_15 h_16 h_17 (by omega) _) ⟨rfl, rfl⟩ sv_X11_106 ⟨(Nat.le_of_ble_eq_true rfl), (Nat.le_of_ble_eq_true rfl)⟩ ⟨(Nat.le_of_ble_eq_true rfl), (Nat.le_of_ble_eq_true rfl)⟩ (fun _ _ _ _ h => h) (fun _ _ _ => trivial) hK hP hD [1, 2] rfl rfl 0 10 rfl rfl rfl rfl hl.1 rfl (Nat.le_of_ble_eq_true rfl) dX11_feed_39) hP hD hS hA [1, 2] [0] rfl rfl rfl (by decide) (fun w_19 H locs hw_18 hP hD hS => ?_)
    obtain ⟨fs1_21, f2_22, rfl, h_23, h_24, h_25⟩ := hw_18
    have hP : va_P D vwCl [(h0, .inr (11, fs0)), (q1, .inr (10, fs1_21)), (q2, .inl (cI, 1000, .inl f2_22))] H := hP
    have hD : va_D A [(h0, .inr (11, fs0)), (q1, .inr (10, fs1_21)), (q2, .inl (cI, 1000, .inl f2_22))] := hD
    refine lv_aload_n hx hb dX11_feed_42 rfl (lv_at hl 0 rfl) ?_
    refine gt_X11 hx hb hts hown hK hP 0 rfl 2 (by decide) wd_675 rfl hf_fs0_2 dX11_feed_43 ?_
    refine lv_iload hx hb dX11_feed_46 (lv_at hl 4 rfl) ?_
    refine cl_v (wr := [(h0, .inr (11, fs0))]) (rn_V (As := [.int p3]) (rest := []) hx hb hml hown hts (c_X10_put l D cI cJ cZ q1 q2 fs1_21 f2_22 p3 (((n + 4) + 4) + 4) h_23 h_24 h_25 (by omega) _) ⟨rfl, rfl⟩ sv_X11_106 ⟨(Nat.le_of_ble_eq_true rfl), (Nat.le_of_ble_eq_true rfl)⟩ ⟨(Nat.le_of_ble_eq_true rfl), (Nat.le_of_ble_eq_true rfl)⟩ (fun _ _ _ _ h => h) (fun _ _ _ => trivial) hK hP hD [1, 2] rfl rfl 0 10 rfl rfl rfl rfl hl.1 rfl (Nat.le_of_ble_eq_true rfl) dX11_feed_48) hP hD hS hA [1, 2] [0] rfl rfl rfl (by decide) (fun w_27 H locs hw_26 hP hD hS => ?_)
    obtain ⟨fs1_29, f2_30, rfl, h_31, h_32, h_33⟩ := hw_26
    have hP : va_P D vwCl [(h0, .inr (11, fs0)), (q1, .inr (10, fs1_29)), (q2, .inl (cI, 1000, .inl f2_30))] H := hP
    have hD : va_D A [(h0, .inr (11, fs0)), (q1, .inr (10, fs1_29)), (q2, .inl (cI, 1000, .inl f2_30))] := hD
    refine lv_aload_n hx hb dX11_feed_51 rfl (lv_at hl 0 rfl) ?_
    refine gt_X11 hx hb hts hown hK hP 0 rfl 2 (by decide) wd_675 rfl hf_fs0_2 dX11_feed_52 ?_
    refine lv_iload hx hb dX11_feed_55 (lv_at hl 5 rfl) ?_
    refine cl_v (wr := [(h0, .inr (11, fs0))]) (rn_V (As := [.int p4]) (rest := []) hx hb hml hown hts (c_X10_put l D cI cJ cZ q1 q2 fs1_29 f2_30 p4 ((((n + 4) + 4) + 4) + 4) h_31 h_32 h_33 (by omega) _) ⟨rfl, rfl⟩ sv_X11_106 ⟨(Nat.le_of_ble_eq_true rfl), (Nat.le_of_ble_eq_true rfl)⟩ ⟨(Nat.le_of_ble_eq_true rfl), (Nat.le_of_ble_eq_true rfl)⟩ (fun _ _ _ _ h => h) (fun _ _ _ => trivial) hK hP hD [1, 2] rfl rfl 0 10 rfl rfl rfl rfl hl.1 rfl (Nat.le_of_ble_eq_true rfl) dX11_feed_57) hP hD hS hA [1, 2] [0] rfl rfl rfl (by decide) (fun w_35 H locs hw_34 hP hD hS => ?_)
    obtain ⟨fs1_37, f2_38, rfl, h_39, h_40, h_41⟩ := hw_34
    have hP : va_P D vwCl [(h0, .inr (11, fs0)), (q1, .inr (10, fs1_37)), (q2, .inl (cI, 1000, .inl f2_38))] H := hP
    have hD : va_D A [(h0, .inr (11, fs0)), (q1, .inr (10, fs1_37)), (q2, .inl (cI, 1000, .inl f2_38))] := hD
    refine lv_aload_n hx hb dX11_feed_60 rfl (lv_at hl 0 rfl) ?_
    refine gt_X11 hx hb hts hown hK hP 0 rfl 2 (by decide) wd_675 rfl hf_fs0_2 dX11_feed_61 ?_
    refine gt_X10 hx hb hts hown hK hP 1 rfl 1 (by decide) wd_191 rfl h_41 dX11_feed_64 ?_
    exact fin_i hx hb hr hlk hK hP hD hS dX11_feed_67 (⟨fs1_37, f2_38, rfl, h_39, h_40, (by rw [nf_yes (by omega)]; exact h_41), sp_feed_yes (by omega)⟩)
  · have c_1n := n_nle (a := (n + 20)) (b := 1000) c_1 (by omega) (by omega)
    refine lv_iconst (v := (-1)) hx hb dX11_feed_16 (by decide) ?_
    exact fin_i hx hb hr hlk hK hP hD hS dX11_feed_17 (⟨fs1, f1, rfl, hl_fs1, hf_fs1_0, (by rw [nf_no (by omega)]; exact hf_fs1_1), sp_feed_no (by omega)⟩)
set_option maxRecDepth 100000 in
set_option maxHeartbeats 4000000 in
theorem c_X12_feed (l : Launch) (D : va_G) (cI cJ cZ : ClassId) (h0 q2 : Nat) (fs0 : List Value) (f1 : Nat → Int32) (p0 : Int32) (p1 : Int32) (p2 : Int32) (p3 : Int32) (p4 : Int32) (n : Nat) (hl_fs0 : fs0.length = 94) (hf_fs0_0 : fs0[0]? = some (.ref q2)) (hf_fs0_1 : fs0[1]? = some (.int (nI n))) (hn0 : n ≤ 1000) : Con_i l yX12_feed cX12_feed 6 (some .int) ({ frames := 1, cells := 0, slots := 0, locals := 22 }) D cI cJ cZ eT [.ref h0, .int p0, .int p1, .int p2, .int p3, .int p4] [(h0, .inr (12, fs0)), (q2, .inl (cI, 1000, .inl f1))] (fun (r : Int32) (w : va_W) => ∃ (fs2 : List Value) (g1 : Nat → Int32), w = [(h0, .inr (12, fs2)), (q2, .inl (cI, 1000, .inl g1))] ∧ fs2.length = 94 ∧ fs2[0]? = some (.ref q2) ∧ fs2[1]? = some (.int (nI (nf_ n))) ∧ r = (sp_feed n)) := by
  refine ent_i (by decide) (Nat.le_of_ble_eq_true rfl) ?_
  intro p e s m below meth c A hx hb hml hown hts hr hlk hnm hK hE hA hP hD hS ls hl
  have hown : s.vm.findClass RX12 = some m.cls := hown
  have hl : lv_has ls 6 [(0, .ref h0), (1, .int p0), (2, .int p1), (3, .int p2), (4, .int p3), (5, .int p4)] := hl
  refine lv_aload_n hx hb dX12_feed_0 rfl (lv_at hl 0 rfl) ?_
  refine gt_X12 hx hb hts hown hK hP 0 rfl 1 (by decide) wd_1402 rfl hf_fs0_1 dX12_feed_1 ?_
  refine lv_bipush (v := 20) hx hb dX12_feed_4 (by decide) ?_
  refine lv_iadd hx hb dX12_feed_6 ?_
  refine tov (v := (nI (n + 20))) (nI_add _ _) ?_
  refine lv_sipush (v := 1000) hx hb dX12_feed_7 (by decide) ?_
  refine lv_icmp_le (tgt := 15) hx hb dX12_feed_10 (by decide) (fun c_1 => ?_) (fun c_1 => ?_)
  · have c_1n := n_le (a := (n + 20)) (b := 1000) c_1 (by omega) (by omega)
    refine lv_aload_n hx hb dX12_feed_15 rfl (lv_at hl 0 rfl) ?_
    refine lv_iload_n hx hb dX12_feed_16 rfl (lv_at hl 1 rfl) ?_
    refine cl_v (wr := []) (rn_V (As := [.int p0]) (rest := []) hx hb hml hown hts (c_X12_put l D cI cJ cZ h0 q2 fs0 f1 p0 n hl_fs0 hf_fs0_0 hf_fs0_1 (by omega) _) ⟨rfl, rfl⟩ sv_X12_297 ⟨(Nat.le_of_ble_eq_true rfl), (Nat.le_of_ble_eq_true rfl)⟩ ⟨(Nat.le_of_ble_eq_true rfl), (Nat.le_of_ble_eq_true rfl)⟩ (fun _ _ _ _ h => h) (fun _ _ _ => trivial) hK hP hD [0, 1] rfl rfl 0 12 rfl rfl rfl rfl hl.1 rfl (Nat.le_of_ble_eq_true rfl) dX12_feed_17) hP hD hS hA [0, 1] [] rfl rfl rfl (by decide) (fun w_3 H locs hw_2 hP hD hS => ?_)
    obtain ⟨fs1_5, f2_6, rfl, h_7, h_8, h_9⟩ := hw_2
    have hP : va_P D vwCl [(h0, .inr (12, fs1_5)), (q2, .inl (cI, 1000, .inl f2_6))] H := hP
    have hD : va_D A [(h0, .inr (12, fs1_5)), (q2, .inl (cI, 1000, .inl f2_6))] := hD
    refine lv_aload_n hx hb dX12_feed_20 rfl (lv_at hl 0 rfl) ?_
    refine lv_iload_n hx hb dX12_feed_21 rfl (lv_at hl 2 rfl) ?_
    refine cl_v (wr := []) (rn_V (As := [.int p1]) (rest := []) hx hb hml hown hts (c_X12_put l D cI cJ cZ h0 q2 fs1_5 f2_6 p1 (n + 4) h_7 h_8 h_9 (by omega) _) ⟨rfl, rfl⟩ sv_X12_297 ⟨(Nat.le_of_ble_eq_true rfl), (Nat.le_of_ble_eq_true rfl)⟩ ⟨(Nat.le_of_ble_eq_true rfl), (Nat.le_of_ble_eq_true rfl)⟩ (fun _ _ _ _ h => h) (fun _ _ _ => trivial) hK hP hD [0, 1] rfl rfl 0 12 rfl rfl rfl rfl hl.1 rfl (Nat.le_of_ble_eq_true rfl) dX12_feed_22) hP hD hS hA [0, 1] [] rfl rfl rfl (by decide) (fun w_11 H locs hw_10 hP hD hS => ?_)
    obtain ⟨fs1_13, f2_14, rfl, h_15, h_16, h_17⟩ := hw_10
    have hP : va_P D vwCl [(h0, .inr (12, fs1_13)), (q2, .inl (cI, 1000, .inl f2_14))] H := hP
    have hD : va_D A [(h0, .inr (12, fs1_13)), (q2, .inl (cI, 1000, .inl f2_14))] := hD
    refine lv_aload_n hx hb dX12_feed_25 rfl (lv_at hl 0 rfl) ?_
    refine lv_iload_n hx hb dX12_feed_26 rfl (lv_at hl 3 rfl) ?_
    refine cl_v (wr := []) (rn_V (As := [.int p2]) (rest := []) hx hb hml hown hts (c_X12_put l D cI cJ cZ h0 q2 fs1_13 f2_14 p2 ((n + 4) + 4) h_15 h_16 h_17 (by omega) _) ⟨rfl, rfl⟩ sv_X12_297 ⟨(Nat.le_of_ble_eq_true rfl), (Nat.le_of_ble_eq_true rfl)⟩ ⟨(Nat.le_of_ble_eq_true rfl), (Nat.le_of_ble_eq_true rfl)⟩ (fun _ _ _ _ h => h) (fun _ _ _ => trivial) hK hP hD [0, 1] rfl rfl 0 12 rfl rfl rfl rfl hl.1 rfl (Nat.le_of_ble_eq_true rfl) dX12_feed_27) hP hD hS hA [0, 1] [] rfl rfl rfl (by decide) (fun w_19 H locs hw_18 hP hD hS => ?_)
    obtain ⟨fs1_21, f2_22, rfl, h_23, h_24, h_25⟩ := hw_18
    have hP : va_P D vwCl [(h0, .inr (12, fs1_21)), (q2, .inl (cI, 1000, .inl f2_22))] H := hP
    have hD : va_D A [(h0, .inr (12, fs1_21)), (q2, .inl (cI, 1000, .inl f2_22))] := hD
    refine lv_aload_n hx hb dX12_feed_30 rfl (lv_at hl 0 rfl) ?_
    refine lv_iload hx hb dX12_feed_31 (lv_at hl 4 rfl) ?_
    refine cl_v (wr := []) (rn_V (As := [.int p3]) (rest := []) hx hb hml hown hts (c_X12_put l D cI cJ cZ h0 q2 fs1_21 f2_22 p3 (((n + 4) + 4) + 4) h_23 h_24 h_25 (by omega) _) ⟨rfl, rfl⟩ sv_X12_297 ⟨(Nat.le_of_ble_eq_true rfl), (Nat.le_of_ble_eq_true rfl)⟩ ⟨(Nat.le_of_ble_eq_true rfl), (Nat.le_of_ble_eq_true rfl)⟩ (fun _ _ _ _ h => h) (fun _ _ _ => trivial) hK hP hD [0, 1] rfl rfl 0 12 rfl rfl rfl rfl hl.1 rfl (Nat.le_of_ble_eq_true rfl) dX12_feed_33) hP hD hS hA [0, 1] [] rfl rfl rfl (by decide) (fun w_27 H locs hw_26 hP hD hS => ?_)
    obtain ⟨fs1_29, f2_30, rfl, h_31, h_32, h_33⟩ := hw_26
    have hP : va_P D vwCl [(h0, .inr (12, fs1_29)), (q2, .inl (cI, 1000, .inl f2_30))] H := hP
    have hD : va_D A [(h0, .inr (12, fs1_29)), (q2, .inl (cI, 1000, .inl f2_30))] := hD
    refine lv_aload_n hx hb dX12_feed_36 rfl (lv_at hl 0 rfl) ?_
    refine lv_iload hx hb dX12_feed_37 (lv_at hl 5 rfl) ?_
    refine cl_v (wr := []) (rn_V (As := [.int p4]) (rest := []) hx hb hml hown hts (c_X12_put l D cI cJ cZ h0 q2 fs1_29 f2_30 p4 ((((n + 4) + 4) + 4) + 4) h_31 h_32 h_33 (by omega) _) ⟨rfl, rfl⟩ sv_X12_297 ⟨(Nat.le_of_ble_eq_true rfl), (Nat.le_of_ble_eq_true rfl)⟩ ⟨(Nat.le_of_ble_eq_true rfl), (Nat.le_of_ble_eq_true rfl)⟩ (fun _ _ _ _ h => h) (fun _ _ _ => trivial) hK hP hD [0, 1] rfl rfl 0 12 rfl rfl rfl rfl hl.1 rfl (Nat.le_of_ble_eq_true rfl) dX12_feed_39) hP hD hS hA [0, 1] [] rfl rfl rfl (by decide) (fun w_35 H locs hw_34 hP hD hS => ?_)
    obtain ⟨fs1_37, f2_38, rfl, h_39, h_40, h_41⟩ := hw_34
    have hP : va_P D vwCl [(h0, .inr (12, fs1_37)), (q2, .inl (cI, 1000, .inl f2_38))] H := hP
    have hD : va_D A [(h0, .inr (12, fs1_37)), (q2, .inl (cI, 1000, .inl f2_38))] := hD
    refine lv_aload_n hx hb dX12_feed_42 rfl (lv_at hl 0 rfl) ?_
    refine gt_X12 hx hb hts hown hK hP 0 rfl 1 (by decide) wd_1402 rfl h_41 dX12_feed_43 ?_
    exact fin_i hx hb hr hlk hK hP hD hS dX12_feed_46 (⟨fs1_37, f2_38, rfl, h_39, h_40, (by rw [nf_yes (by omega)]; exact h_41), sp_feed_yes (by omega)⟩)
  · have c_1n := n_nle (a := (n + 20)) (b := 1000) c_1 (by omega) (by omega)
    refine lv_iconst (v := (-1)) hx hb dX12_feed_13 (by decide) ?_
    exact fin_i hx hb hr hlk hK hP hD hS dX12_feed_14 (⟨fs0, f1, rfl, hl_fs0, hf_fs0_0, (by rw [nf_no (by omega)]; exact hf_fs0_1), sp_feed_no (by omega)⟩)
