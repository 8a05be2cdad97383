set_option maxRecDepth 100000 in
set_option maxHeartbeats 8000000 in
theorem k_X10_put (l : Launch) (D : va_G) (cI cJ cZ : ClassId) (q : Nat → Nat) (bb bs bp : Nat) (w : va_W) (hW_w : HT q (TX q cI cJ cZ bb bs bp) w) (p1 : Int32) : Con_v l yX10_put cX10_put 3 none ({ frames := 0, cells := 0, slots := 0, locals := 0 }) D cI cJ cZ eW [.ref (q 31), .int p1] w (fun (w1 : va_W) => HT q (TX q cI cJ cZ bb bs bp) w1 ∧ Sm [31, 32] [(31, 1)] w w1 ∧ ((fI w 31 1).toInt ≤ 996 → (fI w1 31 1).toInt = (fI w 31 1).toInt + 4)) := by
  refine eQ_v rfl (by decide) (Nat.le_of_ble_eq_true rfl) ⟨rfl, rfl⟩ ?_
  intro p e R s m args below meth c A Q hx hb hml hown hts hK hE hA hR hret hP hD hS ls hl
  have hown : s.vm.findClass RX10 = some m.cls := hown
  have hl : lv_has ls 3 [(0, .ref (q 31)), (1, .int p1)] := hl
  have J3 : ∀ (N : Nat) (x3_2 : Int32) (w3 : va_W) (H : Heap) (locs : List Loc) (ls : Array Slot), (x3_2.toInt - (-8)).toNat < N → HT q (TX q cI cJ cZ bb bs bp) w3 → Sm [31, 32] [(31, 1)] w w3 → (In (-8) 24 x3_2) → ((fI w 31 1).toInt ≤ 996 → 8 * (fI w3 31 1).toInt + (x3_2 : Int32).toInt = 8 * (fI w 31 1).toInt + 24 ∧ 0 ≤ (x3_2 : Int32).toInt + 8) → va_P D vwCl w3 H → va_D A w3 → va_S A s.heap H locs → lv_has ls 3 [(0, .ref (q 31)), (1, .int p1), (2, .int x3_2)] → W p l e R s m args below meth c H locs 0 0 Q (F0 m 3 ls []) := by
    intro N
    induction N with
    | zero => intro x3_2 w3 H locs ls hmu; exact absurd hmu (Nat.not_lt_zero _)
    | succ N ih3 =>
      intro x3_2 w3 H locs ls hmu3 hW_w3 hM_w3 i_x3_2 hp_3 hP hD hS hl
      have J43 : ∀ (w43 : va_W) (H : Heap) (locs : List Loc) (ls : Array Slot), HT q (TX q cI cJ cZ bb bs bp) w43 → Sm [31, 32] [(31, 1)] w w43 → (In 0 24 x3_2) → (In 1 1000 (fI w43 31 1)) → ((fI w 31 1).toInt ≤ 996 → 8 * (fI w43 31 1).toInt + (x3_2 : Int32).toInt = 8 * (fI w 31 1).toInt + 32 ∧ 0 ≤ (x3_2 : Int32).toInt + 8) → va_P D vwCl w43 H → va_D A w43 → va_S A s.heap H locs → lv_has ls 3 [(0, .ref (q 31)), (1, .int p1), (2, .int x3_2)] → W p l e R s m args below meth c H locs 0 0 Q (F0 m 43 ls []) := by
        intro w43 H locs ls hW_w43 hM_w43 i_x43_2 g43_31_1 hp_43 hP hD hS hl
        refine lv_iinc (v := (x3_2 + (-8))) (lv' := [(2, .int (x3_2 + (-8))), (0, .ref (q 31)), (1, .int p1)]) hx hb dX10_put_43 hl (k := 2) rfl (rfl) (by decide) rfl (fun ls hl => ?_)
        refine lv_goto (tgt := 3) hx hb dX10_put_46 (by decide) ?_
        exact ih3 (x3_2 + (-8)) w43 _ _ ls (mu_dec (n := 8) hmu3 i_x43_2 (by decide) (by decide)) hW_w43 hM_w43 (In_w ((In_dec (y := (-8)) (n := 8) i_x43_2 (by decide) (by decide)) : In (-8) 16 (x3_2 + (-8))) (by decide) : In (-8) 24 (x3_2 + (-8))) (fun h => put_st i_x43_2 (by decide) (by decide) (hp_43 h).1) hP hD hS (lv_sub hl [1, 2, 0] rfl)
      refine lv_iload_n hx hb dX10_put_3 rfl (lv_at hl 2 rfl) ?_
      refine lv_if_lt (tgt := 49) hx hb dX10_put_4 (by decide) (fun c_1 => ?_) (fun c_1 => ?_)
      · have lb_c_1 : (x3_2 : Int32).toInt < (0 : Int32).toInt := q_lt.mp c_1
        have lq_c_1 : (0 : Int32).toInt = 0 := by decide
        exact hret _ _ _ _ _ hP hD hS dX10_put_49 ⟨hW_w3, hM_w3, (fun h => by have q := hp_3 h; omega)⟩
      · have lb_c_1 : ¬ (x3_2 : Int32).toInt < (0 : Int32).toInt := fun h => c_1 (q_lt.mpr h)
        have lq_c_1 : (0 : Int32).toInt = 0 := by decide
        refine lv_aload_n hx hb dX10_put_7 rfl (lv_at hl 0 rfl) ?_
        refine gt_X10 hx hb hts hown hK hP 31 (hW_w3.o tX_31) 1 (by decide) wd_192 rfl (hW_w3.fi tX_31 rfl) dX10_put_8 ?_
        refine lv_sipush (v := 1000) hx hb dX10_put_11 (by decide) ?_
        refine lv_icmp_ge (tgt := 43) hx hb dX10_put_14 (by decide) (fun c_2 => ?_) (fun c_2 => ?_)
        · have lb_c_2 : (1000 : Int32).toInt ≤ ((fI w3 31 1) : Int32).toInt := q_le.mp c_2
          have lq_c_2 : (1000 : Int32).toInt = 1000 := by decide
          exact J43 w3 _ _ ls hW_w3 hM_w3 (R_nlt_l i_x3_2 (In_lit (n := 0) (by decide) (by decide) : In 0 0 0) c_1 (by decide) : In 0 24 x3_2) (In_w (R_le_r (In_lit (n := 1000) (by decide) (by decide) : In 1000 1000 1000) (hW_w3.fin tX_31 rfl : In 0 1000 (fI w3 31 1)) c_2 (by decide) : In 1000 1000 (fI w3 31 1)) (by decide) : In 1 1000 (fI w3 31 1)) (fun h => (by have q := hp_3 h; have g := (R_nlt_l i_x3_2 (In_lit (n := 0) (by decide) (by decide) : In 0 0 0) c_1 (by decide) : In 0 24 x3_2); unfold In at g; have i31_1 := (R_le_r (In_lit (n := 1000) (by decide) (by decide) : In 1000 1000 1000) (hW_w3.fin tX_31 rfl : In 0 1000 (fI w3 31 1)) c_2 (by decide) : In 1000 1000 (fI w3 31 1)); unfold In at i31_1; omega)) hP hD hS (lv_sub hl [0, 1, 2] rfl)
        · have lb_c_2 : ¬ (1000 : Int32).toInt ≤ ((fI w3 31 1) : Int32).toInt := fun h => c_2 (q_le.mpr h)
          have lq_c_2 : (1000 : Int32).toInt = 1000 := by decide
          refine lv_aload_n hx hb dX10_put_17 rfl (lv_at hl 0 rfl) ?_
          refine gt_X10 hx hb hts hown hK hP 31 (hW_w3.o tX_31) 0 (by decide) wd_190 rfl (hW_w3.fr tX_31 rfl) dX10_put_18 ?_
          refine lv_aload_n hx hb dX10_put_21 rfl (lv_at hl 0 rfl) ?_
          refine gt_X10 hx hb hts hown hK hP 31 (hW_w3.o tX_31) 1 (by decide) wd_192 rfl (hW_w3.fi tX_31 rfl) dX10_put_22 ?_
          refine lv_iload_n hx hb dX10_put_25 rfl (lv_at hl 1 rfl) ?_
          refine lv_iload_n hx hb dX10_put_26 rfl (lv_at hl 2 rfl) ?_
          refine lv_iushr hx hb dX10_put_27 rfl ?_
          refine lv_topi (fun v_3 ev_3 => ?_)
          refine lv_sipush (v := 255) hx hb dX10_put_28 (by decide) ?_
          refine lv_iand hx hb dX10_put_31 ?_
          refine va_iast hx hb hK hP hD hS 32 0 (hW_w3.a tX_32) rfl (in_I (R_nle_r (In_lit (n := 1000) (by decide) (by decide) : In 1000 1000 1000) (hW_w3.fin tX_31 rfl : In 0 1000 (fI w3 31 1)) c_2 (by decide) : In 0 999 (fI w3 31 1)) (by decide)) dX10_put_32 (fun H locs hP hD hS => fr_w (hW_w3.uA tX_32 ((In_and (n := 255) (by decide) (by decide)) : In 0 255 (v_3 &&& 255))) hP hD (fun w_4 ew_4 hW_w_4 hP hD => ?_))
          refine lv_aload_n hx hb dX10_put_33 rfl (lv_at hl 0 rfl) ?_
          refine lv_dup hx hb dX10_put_34 rfl ?_
          refine gt_X10 hx hb hts hown hK hP 31 (hW_w_4.o tX_31) 1 (by decide) wd_192 rfl (hW_w_4.fi tX_31 rfl) dX10_put_35 ?_
          refine tov (v := (fI w3 31 1)) (fI_cg (st_ne ew_4 (by decide))) ?_
          refine lv_iconst (v := 1) hx hb dX10_put_38 (by decide) ?_
          refine lv_iadd hx hb dX10_put_39 ?_
          refine pt_X10 hx hb hts hown hK hP hD hS 31 (hW_w_4.o tX_31) 1 (by decide) wd_192 rfl rfl (ty := .int) (v := .int ((fI w3 31 1) + 1)) (by decide +kernel) rfl rfl (hW_w_4.ll tX_31 (Nat.le_of_ble_eq_true rfl)) dX10_put_40 (fun H locs hP hD hS => fr_w (hW_w_4.sI tX_31 rfl (In_w ((In_add (R_nle_r (In_lit (n := 1000) (by decide) (by decide) : In 1000 1000 1000) (hW_w3.fin tX_31 rfl : In 0 1000 (fI w3 31 1)) c_2 (by decide) : In 0 999 (fI w3 31 1)) (In_lit (n := 1) (by decide) (by decide) : In 1 1 1) (by decide)) : In 1 1000 ((fI w3 31 1) + 1)) (by decide) : In 0 1000 ((fI w3 31 1) + 1))) hP hD (fun w_5 ew_5 hW_w_5 hP hD => ?_))
          exact J43 w_5 _ _ ls hW_w_5 ((hM_w3.sa ew_4 (by decide)).sf (hW_w_4.lt tX_31) ew_5 (by decide)) (R_nlt_l i_x3_2 (In_lit (n := 0) (by decide) (by decide) : In 0 0 0) c_1 (by decide) : In 0 24 x3_2) (In_of (fI_eq (hW_w_4.lt tX_31) ew_5 (hW_w_4.ll tX_31 (Nat.le_of_ble_eq_true rfl))) ((In_add (R_nle_r (In_lit (n := 1000) (by decide) (by decide) : In 1000 1000 1000) (hW_w3.fin tX_31 rfl : In 0 1000 (fI w3 31 1)) c_2 (by decide) : In 0 999 (fI w3 31 1)) (In_lit (n := 1) (by decide) (by decide) : In 1 1 1) (by decide)) : In 1 1000 ((fI w3 31 1) + 1))) (fun h => (by have q := hp_3 h; have g := (R_nlt_l i_x3_2 (In_lit (n := 0) (by decide) (by decide) : In 0 0 0) c_1 (by decide) : In 0 24 x3_2); unfold In at g; have e31_1 : (fI w_5 31 1).toInt = (((fI w3 31 1) + 1) : Int32).toInt := congrArg Int32.toInt (fI_eq (hW_w_4.lt tX_31) ew_5 (hW_w_4.ll tX_31 (Nat.le_of_ble_eq_true rfl))); have i31_1 := ((In_add (R_nle_r (In_lit (n := 1000) (by decide) (by decide) : In 1000 1000 1000) (hW_w3.fin tX_31 rfl : In 0 1000 (fI w3 31 1)) c_2 (by decide) : In 0 999 (fI w3 31 1)) (In_lit (n := 1) (by decide) (by decide) : In 1 1 1) (by decide)) : In 1 1000 ((fI w3 31 1) + 1)); unfold In at i31_1; have t18 := t_add (R_nle_r (In_lit (n := 1000) (by decide) (by decide) : In 1000 1000 1000) (hW_w3.fin tX_31 rfl : In 0 1000 (fI w3 31 1)) c_2 (by decide) : In 0 999 (fI w3 31 1)) (In_lit (n := 1) (by decide) (by decide) : In 1 1 1) (by decide); have z1 : (1 : Int32).toInt = 1 := (by decide); omega)) hP hD hS (lv_sub hl [0, 1, 2] rfl)
  refine lv_bipush (v := 24) hx hb dX10_put_0 (by decide) ?_
  refine lv_istore_n (lv' := [(2, .int 24), (0, .ref (q 31)), (1, .int p1)]) hx hb dX10_put_2 rfl hl (by decide) rfl (fun ls hl => ?_)
  exact J3 _ 24 w _ _ ls (Nat.lt_succ_self _) hW_w Sm.rf (In_lit (n := 24) (by decide) (by decide) : In (-8) 24 24) (fun h => ⟨(by have i31_1 := (hW_w.fin tX_31 rfl : In 0 1000 (fI w 31 1)); unfold In at i31_1; have z24 : (24 : Int32).toInt = 24 := (by decide); omega), (by have z24 : (24 : Int32).toInt = 24 := (by decide); omega)⟩) hP hD hS (lv_sub hl [1, 2, 0] rfl)
set_option maxRecDepth 100000 in
set_option maxHeartbeats 8000000 in
theorem k_X11_feed (l : Launch) (D : va_G) (cI cJ cZ : ClassId) (q : Nat → Nat) (bp : Nat) (w : va_W) (hW_w : HT q (TX q cI cJ cZ 1 16 bp) w) (p1 : Int32) (p2 : Int32) (p3 : Int32) (p4 : Int32) (p5 : Int32) : Con_i l yX11_feed cX11_feed 6 (some .int) ({ frames := 1, cells := 0, slots := 0, locals := 22 }) D cI cJ cZ eW [.ref (q 0), .int p1, .int p2, .int p3, .int p4, .int p5] w (fun (r : Int32) (w1 : va_W) => HT q (TX q cI cJ cZ 1 16 bp) w1 ∧ Sm [31, 32] [(31, 1)] w w1 ∧ In (-1) 1000 r ∧ (((fI w 31 1).toInt + 20 ≤ 1000 → r.toInt = (fI w 31 1).toInt + 20 ∧ (fI w1 31 1).toInt = (fI w 31 1).toInt + 20) ∧ (¬ (fI w 31 1).toInt + 20 ≤ 1000 → r = -1 ∧ fI w1 31 1 = fI w 31 1))) := by
  refine eQ_i rfl (by decide) (Nat.le_of_ble_eq_true rfl) ⟨rfl, rfl⟩ ?_
  intro p e R s m args below meth c A Q hx hb hml hown hts hK hE hA hR hret hP hD hS ls hl
  have hown : s.vm.findClass RX11 = some m.cls := hown
  have hl : lv_has ls 6 [(0, .ref (q 0)), (1, .int p1), (2, .int p2), (3, .int p3), (4, .int p4), (5, .int p5)] := hl
  refine lv_aload_n hx hb dX11_feed_0 rfl (lv_at hl 0 rfl) ?_
  refine gt_X11 hx hb hts hown hK hP 0 (hW_w.o tX_0) 2 (by decide) wd_675 rfl (hW_w.fr tX_0 rfl) dX11_feed_1 ?_
  refine gt_X10 hx hb hts hown hK hP 31 (hW_w.o tX_31) 1 (by decide) wd_191 rfl (hW_w.fi tX_31 rfl) dX11_feed_4 ?_
  refine lv_bipush (v := 20) hx hb dX11_feed_7 (by decide) ?_
  refine lv_iadd hx hb dX11_feed_9 ?_
  refine lv_sipush (v := 1000) hx hb dX11_feed_10 (by decide) ?_
  refine lv_icmp_le (tgt := 18) hx hb dX11_feed_13 (by decide) (fun c_1 => ?_) (fun c_1 => ?_)
  · have lb_c_1 : (((fI w 31 1) + 20) : Int32).toInt ≤ (1000 : Int32).toInt := q_le.mp c_1
    have lq_c_1 : (1000 : Int32).toInt = 1000 := by decide
    refine lv_aload_n hx hb dX11_feed_18 rfl (lv_at hl 0 rfl) ?_
    refine gt_X11 hx hb hts hown hK hP 0 (hW_w.o tX_0) 2 (by decide) wd_675 rfl (hW_w.fr tX_0 rfl) dX11_feed_19 ?_
    refine lv_iload_n hx hb dX11_feed_22 rfl (lv_at hl 1 rfl) ?_
    refine kW_v ⟨rfl, rfl⟩ hP hD hS hA (rW_V (As := [.int p1]) (rest := []) hx hb hml hown hts hK hE hP hD (k_X10_put l D cI cJ cZ q 1 16 bp w hW_w p1 _) ⟨⟨rfl, rfl⟩, rfl, rfl⟩ sv_X11_106 ⟨(Nat.le_trans (by decide) hR.1), (Nat.le_trans (by decide) hR.2)⟩ 31 10 (hW_w.o tX_31) rfl rfl rfl hl.1 rfl (Nat.le_of_ble_eq_true rfl) dX11_feed_23) (fun w_2 H locs hw_w_2 hP hD hS => ?_)
    obtain ⟨hW_w_2, hs_w_2, h_4⟩ := hw_w_2
    have n_h_4 : ((fI w 31 1) : Int32).toInt ≤ 996 → (fI w_2 31 1).toInt = ((fI w 31 1) : Int32).toInt + 4 := (by intro hh; have q := h_4 (by omega); omega)
    refine lv_aload_n hx hb dX11_feed_26 rfl (lv_at hl 0 rfl) ?_
    refine gt_X11 hx hb hts hown hK hP 0 (hW_w_2.o tX_0) 2 (by decide) wd_675 rfl (hW_w_2.fr tX_0 rfl) dX11_feed_27 ?_
    refine lv_iload_n hx hb dX11_feed_30 rfl (lv_at hl 2 rfl) ?_
    refine kW_v ⟨rfl, rfl⟩ hP hD hS hA (rW_V (As := [.int p2]) (rest := []) hx hb hml hown hts hK hE hP hD (k_X10_put l D cI cJ cZ q 1 16 bp w_2 hW_w_2 p2 _) ⟨⟨rfl, rfl⟩, rfl, rfl⟩ sv_X11_106 ⟨(Nat.le_trans (by decide) hR.1), (Nat.le_trans (by decide) hR.2)⟩ 31 10 (hW_w_2.o tX_31) rfl rfl rfl hl.1 rfl (Nat.le_of_ble_eq_true rfl) dX11_feed_31) (fun w_5 H locs hw_w_5 hP hD hS => ?_)
    obtain ⟨hW_w_5, hs_w_5, h_7⟩ := hw_w_5
    have n_h_7 : ((fI w_2 31 1) : Int32).toInt ≤ 996 → (fI w_5 31 1).toInt = ((fI w_2 31 1) : Int32).toInt + 4 := (by intro hh; have q := h_7 (by omega); omega)
    refine lv_aload_n hx hb dX11_feed_34 rfl (lv_at hl 0 rfl) ?_
    refine gt_X11 hx hb hts hown hK hP 0 (hW_w_5.o tX_0) 2 (by decide) wd_675 rfl (hW_w_5.fr tX_0 rfl) dX11_feed_35 ?_
    refine lv_iload_n hx hb dX11_feed_38 rfl (lv_at hl 3 rfl) ?_
    refine kW_v ⟨rfl, rfl⟩ hP hD hS hA (rW_V (As := [.int p3]) (rest := []) hx hb hml hown hts hK hE hP hD (k_X10_put l D cI cJ cZ q 1 16 bp w_5 hW_w_5 p3 _) ⟨⟨rfl, rfl⟩, rfl, rfl⟩ sv_X11_106 ⟨(Nat.le_trans (by decide) hR.1), (Nat.le_trans (by decide) hR.2)⟩ 31 10 (hW_w_5.o tX_31) rfl rfl rfl hl.1 rfl (Nat.le_of_ble_eq_true rfl) dX11_feed_39) (fun w_8 H locs hw_w_8 hP hD hS => ?_)
    obtain ⟨hW_w_8, hs_w_8, h_10⟩ := hw_w_8
    have n_h_10 : ((fI w_5 31 1) : Int32).toInt ≤ 996 → (fI w_8 31 1).toInt = ((fI w_5 31 1) : Int32).toInt + 4 := (by intro hh; have q := h_10 (by omega); omega)
    refine lv_aload_n hx hb dX11_feed_42 rfl (lv_at hl 0 rfl) ?_
    refine gt_X11 hx hb hts hown hK hP 0 (hW_w_8.o tX_0) 2 (by decide) wd_675 rfl (hW_w_8.fr tX_0 rfl) dX11_feed_43 ?_
    refine lv_iload hx hb dX11_feed_46 (lv_at hl 4 rfl) ?_
    refine kW_v ⟨rfl, rfl⟩ hP hD hS hA (rW_V (As := [.int p4]) (rest := []) hx hb hml hown hts hK hE hP hD (k_X10_put l D cI cJ cZ q 1 16 bp w_8 hW_w_8 p4 _) ⟨⟨rfl, rfl⟩, rfl, rfl⟩ sv_X11_106 ⟨(Nat.le_trans (by decide) hR.1), (Nat.le_trans (by decide) hR.2)⟩ 31 10 (hW_w_8.o tX_31) rfl rfl rfl hl.1 rfl (Nat.le_of_ble_eq_true rfl) dX11_feed_48) (fun w_11 H locs hw_w_11 hP hD hS => ?_)
    obtain ⟨hW_w_11, hs_w_11, h_13⟩ := hw_w_11
    have n_h_13 : ((fI w_8 31 1) : Int32).toInt ≤ 996 → (fI w_11 31 1).toInt = ((fI w_8 31 1) : Int32).toInt + 4 := (by intro hh; have q := h_13 (by omega); omega)
    refine lv_aload_n hx hb dX11_feed_51 rfl (lv_at hl 0 rfl) ?_
    refine gt_X11 hx hb hts hown hK hP 0 (hW_w_11.o tX_0) 2 (by decide) wd_675 rfl (hW_w_11.fr tX_0 rfl) dX11_feed_52 ?_
    refine lv_iload hx hb dX11_feed_55 (lv_at hl 5 rfl) ?_
    refine kW_v ⟨rfl, rfl⟩ hP hD hS hA (rW_V (As := [.int p5]) (rest := []) hx hb hml hown hts hK hE hP hD (k_X10_put l D cI cJ cZ q 1 16 bp w_11 hW_w_11 p5 _) ⟨⟨rfl, rfl⟩, rfl, rfl⟩ sv_X11_106 ⟨(Nat.le_trans (by decide) hR.1), (Nat.le_trans (by decide) hR.2)⟩ 31 10 (hW_w_11.o tX_31) rfl rfl rfl hl.1 rfl (Nat.le_of_ble_eq_true rfl) dX11_feed_57) (fun w_14 H locs hw_w_14 hP hD hS => ?_)
    obtain ⟨hW_w_14, hs_w_14, h_16⟩ := hw_w_14
    have n_h_16 : ((fI w_11 31 1) : Int32).toInt ≤ 996 → (fI w_14 31 1).toInt = ((fI w_11 31 1) : Int32).toInt + 4 := (by intro hh; have q := h_16 (by omega); omega)
    refine lv_aload_n hx hb dX11_feed_60 rfl (lv_at hl 0 rfl) ?_
    refine gt_X11 hx hb hts hown hK hP 0 (hW_w_14.o tX_0) 2 (by decide) wd_675 rfl (hW_w_14.fr tX_0 rfl) dX11_feed_61 ?_
    refine gt_X10 hx hb hts hown hK hP 31 (hW_w_14.o tX_31) 1 (by decide) wd_191 rfl (hW_w_14.fi tX_31 rfl) dX11_feed_64 ?_
    exact hret _ _ _ _ _ _ hP hD hS dX11_feed_67 ⟨hW_w_14, (((((Sm.rf.tr hs_w_2 (by decide)).tr hs_w_5 (by decide)).tr hs_w_8 (by decide)).tr hs_w_11 (by decide)).tr hs_w_14 (by decide)), (In_w (hW_w_14.fin tX_31 rfl : In 0 1000 (fI w_14 31 1)) (by decide) : In (-1) 1000 (fI w_14 31 1)), ⟨(fun h => ⟨(by omega), (by have i31_1 := (hW_w_14.fin tX_31 rfl : In 0 1000 (fI w_14 31 1)); unfold In at i31_1; omega)⟩), (fun h => absurd (by have t := t_add (hW_w.fin tX_31 rfl : In 0 1000 (fI w 31 1)) (In_lit (n := 20) (by decide) (by decide) : In 20 20 20) (by decide); have z : (20 : Int32).toInt = 20 := (by decide); have zm : (1000 : Int32).toInt = 1000 := (by decide); omega) h)⟩⟩
  · have lb_c_1 : ¬ (((fI w 31 1) + 20) : Int32).toInt ≤ (1000 : Int32).toInt := fun h => c_1 (q_le.mpr h)
    have lq_c_1 : (1000 : Int32).toInt = 1000 := by decide
    refine lv_iconst (v := (-1)) hx hb dX11_feed_16 (by decide) ?_
    exact hret _ _ _ _ _ _ hP hD hS dX11_feed_17 ⟨hW_w, Sm.rf, (In_lit (n := (-1)) (by decide) (by decide) : In (-1) 1000 (-1)), ⟨(fun h => absurd h (by have t := t_add (hW_w.fin tX_31 rfl : In 0 1000 (fI w 31 1)) (In_lit (n := 20) (by decide) (by decide) : In 20 20 20) (by decide); have z : (20 : Int32).toInt = 20 := (by decide); have zm : (1000 : Int32).toInt = 1000 := (by decide); omega)), (fun _ => ⟨rfl, rfl⟩)⟩⟩
set_option maxRecDepth 100000 in
set_option maxHeartbeats 8000000 in
theorem k_X11_end (l : Launch) (D : va_G) (cI cJ cZ : ClassId) (q : Nat → Nat) (bp : Nat) (w : va_W) (hW_w : HT q (TX q cI cJ cZ 1 16 bp) w) (p1 : Int32) : Con_i l yX11_end cX11_end 2 (some .boolean) ({ frames := 0, cells := 0, slots := 0, locals := 0 }) D cI cJ cZ eW [.ref (q 0), .int p1] w (fun (r : Int32) (w1 : va_W) => HT q (TX q cI cJ cZ 1 16 bp) w1 ∧ Sm [31] [(31, 1)] w w1 ∧ In 0 1 r ∧ (¬ r = 0 → In 0 1000 p1) ∧ ((0 ≤ p1.toInt ∧ p1.toInt ≤ (fI w 31 1).toInt → r = 1 ∧ fI w1 31 1 = p1) ∧ (¬ (0 ≤ p1.toInt ∧ p1.toInt ≤ (fI w 31 1).toInt) → r = 0 ∧ fI w1 31 1 = fI w 31 1))) := by
  refine eQ_z rfl (by decide) (Nat.le_of_ble_eq_true rfl) ⟨rfl, rfl⟩ ?_
  intro p e R s m args below meth c A Q hx hb hml hown hts hK hE hA hR hret hP hD hS ls hl
  have hown : s.vm.findClass RX11 = some m.cls := hown
  have hl : lv_has ls 2 [(0, .ref (q 0)), (1, .int p1)] := hl
  refine lv_iload_n hx hb dX11_end_0 rfl (lv_at hl 1 rfl) ?_
  refine lv_if_lt (tgt := 15) hx hb dX11_end_1 (by decide) (fun c_1 => ?_) (fun c_1 => ?_)
  · have lb_c_1 : (p1 : Int32).toInt < (0 : Int32).toInt := q_lt.mp c_1
    have lq_c_1 : (0 : Int32).toInt = 0 := by decide
    refine lv_iconst (v := 0) hx hb dX11_end_15 (by decide) ?_
    exact hret _ _ _ _ _ _ hP hD hS dX11_end_16 (In_lit (n := 0) (by decide) (by decide) : In 0 1 0) ⟨hW_w, Sm.rf, (In_lit (n := 0) (by decide) (by decide) : In 0 1 0), (fun h => absurd rfl h), ⟨(fun h => absurd h (by have z : (0 : Int32).toInt = 0 := (by decide); omega)), (fun _ => ⟨rfl, rfl⟩)⟩⟩
  · have lb_c_1 : ¬ (p1 : Int32).toInt < (0 : Int32).toInt := fun h => c_1 (q_lt.mpr h)
    have lq_c_1 : (0 : Int32).toInt = 0 := by decide
    refine lv_iload_n hx hb dX11_end_4 rfl (lv_at hl 1 rfl) ?_
    refine lv_aload_n hx hb dX11_end_5 rfl (lv_at hl 0 rfl) ?_
    refine gt_X11 hx hb hts hown hK hP 0 (hW_w.o tX_0) 2 (by decide) wd_675 rfl (hW_w.fr tX_0 rfl) dX11_end_6 ?_
    refine gt_X10 hx hb hts hown hK hP 31 (hW_w.o tX_31) 1 (by decide) wd_191 rfl (hW_w.fi tX_31 rfl) dX11_end_9 ?_
    refine lv_icmp_le (tgt := 17) hx hb dX11_end_12 (by decide) (fun c_2 => ?_) (fun c_2 => ?_)
    · have lb_c_2 : (p1 : Int32).toInt ≤ ((fI w 31 1) : Int32).toInt := q_le.mp c_2
      refine lv_aload_n hx hb dX11_end_17 rfl (lv_at hl 0 rfl) ?_
      refine gt_X11 hx hb hts hown hK hP 0 (hW_w.o tX_0) 2 (by decide) wd_675 rfl (hW_w.fr tX_0 rfl) dX11_end_18 ?_
      refine lv_iload_n hx hb dX11_end_21 rfl (lv_at hl 1 rfl) ?_
      refine pt_X10 hx hb hts hown hK hP hD hS 31 (hW_w.o tX_31) 1 (by decide) wd_191 rfl rfl (ty := .int) (v := .int p1) (by decide +kernel) rfl rfl (hW_w.ll tX_31 (Nat.le_of_ble_eq_true rfl)) dX11_end_22 (fun H locs hP hD hS => fr_w (hW_w.sI tX_31 rfl (R_le_l (R_nlt_l (In_any _) (In_lit (n := 0) (by decide) (by decide) : In 0 0 0) c_1 (by decide) : In 0 2147483647 p1) (hW_w.fin tX_31 rfl : In 0 1000 (fI w 31 1)) c_2 (by decide) : In 0 1000 p1)) hP hD (fun w_3 ew_3 hW_w_3 hP hD => ?_))
      refine lv_iconst (v := 1) hx hb dX11_end_25 (by decide) ?_
      exact hret _ _ _ _ _ _ hP hD hS dX11_end_26 (In_lit (n := 1) (by decide) (by decide) : In 0 1 1) ⟨hW_w_3, (Sm.rf.sf (hW_w.lt tX_31) ew_3 (by decide)), (In_lit (n := 1) (by decide) (by decide) : In 0 1 1), (fun h => (R_le_l (R_nlt_l (In_any _) (In_lit (n := 0) (by decide) (by decide) : In 0 0 0) c_1 (by decide) : In 0 2147483647 p1) (hW_w.fin tX_31 rfl : In 0 1000 (fI w 31 1)) c_2 (by decide) : In 0 1000 p1)), ⟨(fun _ => ⟨rfl, (fI_eq (hW_w.lt tX_31) ew_3 (hW_w.ll tX_31 (Nat.le_of_ble_eq_true rfl)))⟩), (fun h => absurd (by have z : (0 : Int32).toInt = 0 := (by decide); omega) h)⟩⟩
    · have lb_c_2 : ¬ (p1 : Int32).toInt ≤ ((fI w 31 1) : Int32).toInt := fun h => c_2 (q_le.mpr h)
      refine lv_iconst (v := 0) hx hb dX11_end_15 (by decide) ?_
      exact hret _ _ _ _ _ _ hP hD hS dX11_end_16 (In_lit (n := 0) (by decide) (by decide) : In 0 1 0) ⟨hW_w, Sm.rf, (In_lit (n := 0) (by decide) (by decide) : In 0 1 0), (fun h => absurd rfl h), ⟨(fun h => absurd h (by have z : (0 : Int32).toInt = 0 := (by decide); omega)), (fun _ => ⟨rfl, rfl⟩)⟩⟩
set_option maxRecDepth 100000 in
set_option maxHeartbeats 8000000 in
theorem k_X5_bounded (l : Launch) (D : va_G) (cI cJ cZ : ClassId) (q : Nat → Nat) (bb bs bp : Nat) (w : va_W) (hW_w : HT q (TX q cI cJ cZ bb bs bp) w) (p0 : Int64) : Con_i l yX5_bounded cX5_bounded 2 (some .int) ({ frames := 1, cells := 0, slots := 0, locals := 23 }) D cI cJ cZ eW [.long p0] w (fun (r : Int32) (w1 : va_W) => HT q (TX q cI cJ cZ bb bs bp) w1 ∧ Sm [] [] w w1) := by
  refine eQ_i rfl (by decide) (Nat.le_of_ble_eq_true rfl) ⟨rfl, rfl⟩ ?_
  intro p e R s m args below meth c A Q hx hb hml hown hts hK hE hA hR hret hP hD hS ls hl
  have hown : s.vm.findClass RX5 = some m.cls := hown
  have hl : lv_has ls 2 [(0, .long p0)] := hl
  refine lv_ldc2 hx hb hown (hts _ wd_877) dX5_bounded_0 ?_
  refine lv_ldc2 hx hb hown (hts _ wd_878) dX5_bounded_3 ?_
  refine lv_lload_n hx hb dX5_bounded_6 rfl (lv_at hl 0 rfl) ?_
  refine va_mmin_long hx hb (by rw [hml]; exact hl.1.symm) hown (hts _ wd_879) (hts _ wd_880) (hts _ wd_18) (hts _ wd_881) (Nat.le_trans (by decide) hR.1) (Nat.le_trans (Nat.le_of_ble_eq_true rfl) hR.2) (Nat.zero_le _) (Nat.zero_le _) dX5_bounded_7 ?_
  refine lv_topl (fun v_1 ev_1 => ?_)
  refine va_mmax_long hx hb (by rw [hml]; exact hl.1.symm) hown (hts _ wd_882) (hts _ wd_883) (hts _ wd_18) (hts _ wd_884) (Nat.le_trans (by decide) hR.1) (Nat.le_trans (Nat.le_of_ble_eq_true rfl) hR.2) (Nat.zero_le _) (Nat.zero_le _) dX5_bounded_10 ?_
  refine lv_topl (fun v_2 ev_2 => ?_)
  refine lv_l2i hx hb dX5_bounded_13 rfl ?_
  refine lv_topi (fun v_3 ev_3 => ?_)
  exact hret _ _ _ _ _ _ hP hD hS dX5_bounded_14 ⟨hW_w, Sm.rf⟩
set_option maxRecDepth 100000 in
set_option maxHeartbeats 8000000 in
theorem k_X5_joined (l : Launch) (D : va_G) (cI cJ cZ : ClassId) (q : Nat → Nat) (bb bs bp : Nat) (w : va_W) (hW_w : HT q (TX q cI cJ cZ bb bs bp) w) (p0 : Int32) (p1 : Int32) (p2 : Int32) (i_p0 : In 8 15 p0) : Con_i l yX5_joined cX5_joined 3 (some .int) ({ frames := 2, cells := 0, slots := 0, locals := 44 }) D cI cJ cZ eW [.int p0, .int p1, .int p2] w (fun (r : Int32) (w1 : va_W) => HT q (TX q cI cJ cZ bb bs bp) w1 ∧ Sm [] [] w w1) := by
  refine eQ_i rfl (by decide) (Nat.le_of_ble_eq_true rfl) ⟨rfl, rfl⟩ ?_
  intro p e R s m args below meth c A Q hx hb hml hown hts hK hE hA hR hret hP hD hS ls hl
  have hown : s.vm.findClass RX5 = some m.cls := hown
  have hl : lv_has ls 3 [(0, .int p0), (1, .int p1), (2, .int p2)] := hl
  refine lv_iload_n hx hb dX5_joined_0 rfl (lv_at hl 0 rfl) ?_
  by_cases c_1 : p0 = 8
  · have c_1t : (p0 : Int32).toInt = 8 := by rw [c_1]; rfl
    refine lv_tableIn (tgt := 44) hx hb dX5_joined_1 (by rw [c_1t]; decide) (by rw [c_1t]; decide) (off := 43) (by rw [c_1t]; rfl) (by decide) ?_
    refine lv_iload_n hx hb dX5_joined_44 rfl (lv_at hl 1 rfl) ?_
    refine lv_iload_n hx hb dX5_joined_45 rfl (lv_at hl 2 rfl) ?_
    refine lv_iand hx hb dX5_joined_46 ?_
    refine lv_topi (fun v_2 ev_2 => ?_)
    exact hret _ _ _ _ _ _ hP hD hS dX5_joined_47 ⟨hW_w, Sm.rf⟩
  by_cases c_3 : p0 = 9
  · have c_3t : (p0 : Int32).toInt = 9 := by rw [c_3]; rfl
    refine lv_tableIn (tgt := 48) hx hb dX5_joined_1 (by rw [c_3t]; decide) (by rw [c_3t]; decide) (off := 47) (by rw [c_3t]; rfl) (by decide) ?_
    refine lv_iload_n hx hb dX5_joined_48 rfl (lv_at hl 1 rfl) ?_
    refine lv_iload_n hx hb dX5_joined_49 rfl (lv_at hl 2 rfl) ?_
    refine lv_ior hx hb dX5_joined_50 ?_
    refine lv_topi (fun v_4 ev_4 => ?_)
    exact hret _ _ _ _ _ _ hP hD hS dX5_joined_51 ⟨hW_w, Sm.rf⟩
  by_cases c_5 : p0 = 10
  · have c_5t : (p0 : Int32).toInt = 10 := by rw [c_5]; rfl
    refine lv_tableIn (tgt := 52) hx hb dX5_joined_1 (by rw [c_5t]; decide) (by rw [c_5t]; decide) (off := 51) (by rw [c_5t]; rfl) (by decide) ?_
    refine lv_iload_n hx hb dX5_joined_52 rfl (lv_at hl 1 rfl) ?_
    refine lv_iload_n hx hb dX5_joined_53 rfl (lv_at hl 2 rfl) ?_
    refine lv_icmp_ge (tgt := 61) hx hb dX5_joined_54 (by decide) (fun c_6 => ?_) (fun c_6 => ?_)
    · refine lv_iconst (v := 0) hx hb dX5_joined_61 (by decide) ?_
      exact hret _ _ _ _ _ _ hP hD hS dX5_joined_62 ⟨hW_w, Sm.rf⟩
    · refine lv_iconst (v := 1) hx hb dX5_joined_57 (by decide) ?_
      refine lv_goto (tgt := 62) hx hb dX5_joined_58 (by decide) ?_
      exact hret _ _ _ _ _ _ hP hD hS dX5_joined_62 ⟨hW_w, Sm.rf⟩
  by_cases c_7 : p0 = 11
  · have c_7t : (p0 : Int32).toInt = 11 := by rw [c_7]; rfl
    refine lv_tableIn (tgt := 63) hx hb dX5_joined_1 (by rw [c_7t]; decide) (by rw [c_7t]; decide) (off := 62) (by rw [c_7t]; rfl) (by decide) ?_
    refine lv_iload_n hx hb dX5_joined_63 rfl (lv_at hl 1 rfl) ?_
    refine lv_iload_n hx hb dX5_joined_64 rfl (lv_at hl 2 rfl) ?_
    refine lv_icmp_le (tgt := 72) hx hb dX5_joined_65 (by decide) (fun c_8 => ?_) (fun c_8 => ?_)
    · refine lv_iconst (v := 0) hx hb dX5_joined_72 (by decide) ?_
      exact hret _ _ _ _ _ _ hP hD hS dX5_joined_73 ⟨hW_w, Sm.rf⟩
    · refine lv_iconst (v := 1) hx hb dX5_joined_68 (by decide) ?_
      refine lv_goto (tgt := 73) hx hb dX5_joined_69 (by decide) ?_
      exact hret _ _ _ _ _ _ hP hD hS dX5_joined_73 ⟨hW_w, Sm.rf⟩
  by_cases c_9 : p0 = 12
  · have c_9t : (p0 : Int32).toInt = 12 := by rw [c_9]; rfl
    refine lv_tableIn (tgt := 74) hx hb dX5_joined_1 (by rw [c_9t]; decide) (by rw [c_9t]; decide) (off := 73) (by rw [c_9t]; rfl) (by decide) ?_
    refine lv_iload_n hx hb dX5_joined_74 rfl (lv_at hl 1 rfl) ?_
    refine lv_iload_n hx hb dX5_joined_75 rfl (lv_at hl 2 rfl) ?_
    refine lv_icmp_ne (tgt := 83) hx hb dX5_joined_76 (by decide) (fun c_10 => ?_) (fun c_10 => ?_)
    · refine lv_iconst (v := 0) hx hb dX5_joined_83 (by decide) ?_
      exact hret _ _ _ _ _ _ hP hD hS dX5_joined_84 ⟨hW_w, Sm.rf⟩
    · refine lv_iconst (v := 1) hx hb dX5_joined_79 (by decide) ?_
      refine lv_goto (tgt := 84) hx hb dX5_joined_80 (by decide) ?_
      exact hret _ _ _ _ _ _ hP hD hS dX5_joined_84 ⟨hW_w, Sm.rf⟩
  by_cases c_11 : p0 = 13
  · have c_11t : (p0 : Int32).toInt = 13 := by rw [c_11]; rfl
    refine lv_tableIn (tgt := 85) hx hb dX5_joined_1 (by rw [c_11t]; decide) (by rw [c_11t]; decide) (off := 84) (by rw [c_11t]; rfl) (by decide) ?_
    refine lv_iload_n hx hb dX5_joined_85 rfl (lv_at hl 1 rfl) ?_
    refine lv_iload_n hx hb dX5_joined_86 rfl (lv_at hl 2 rfl) ?_
    refine lv_iadd hx hb dX5_joined_87 ?_
    refine lv_topi (fun v_12 ev_12 => ?_)
    refine lv_i2l hx hb dX5_joined_88 rfl ?_
    refine lv_topl (fun v_13 ev_13 => ?_)
    refine kW_i ⟨rfl, rfl⟩ hP hD hS hA (rW_S (As := [.long v_13]) (rest := []) hx hb hml hown hts hK hE hP hD (k_X5_bounded l D cI cJ cZ q bb bs bp w hW_w v_13 _) ⟨⟨rfl, rfl⟩, rfl, rfl⟩ sv_X5_135 ⟨(Nat.le_trans (by decide) hR.1), (Nat.le_trans (by decide) hR.2)⟩ rfl hl.1 rfl (Nat.le_of_ble_eq_true rfl) dX5_joined_89) (fun r_15 w_14 H locs hw_w_14 hP hD hS => ?_)
    obtain ⟨hW_w_14, hs_w_14⟩ := hw_w_14
    exact hret _ _ _ _ _ _ hP hD hS dX5_joined_92 ⟨hW_w_14, (Sm.rf.tr hs_w_14 (by decide))⟩
  by_cases c_16 : p0 = 14
  · have c_16t : (p0 : Int32).toInt = 14 := by rw [c_16]; rfl
    refine lv_tableIn (tgt := 93) hx hb dX5_joined_1 (by rw [c_16t]; decide) (by rw [c_16t]; decide) (off := 92) (by rw [c_16t]; rfl) (by decide) ?_
    refine lv_iload_n hx hb dX5_joined_93 rfl (lv_at hl 1 rfl) ?_
    refine lv_iload_n hx hb dX5_joined_94 rfl (lv_at hl 2 rfl) ?_
    refine lv_isub hx hb dX5_joined_95 ?_
    refine lv_topi (fun v_17 ev_17 => ?_)
    refine lv_i2l hx hb dX5_joined_96 rfl ?_
    refine lv_topl (fun v_18 ev_18 => ?_)
    refine kW_i ⟨rfl, rfl⟩ hP hD hS hA (rW_S (As := [.long v_18]) (rest := []) hx hb hml hown hts hK hE hP hD (k_X5_bounded l D cI cJ cZ q bb bs bp w hW_w v_18 _) ⟨⟨rfl, rfl⟩, rfl, rfl⟩ sv_X5_135 ⟨(Nat.le_trans (by decide) hR.1), (Nat.le_trans (by decide) hR.2)⟩ rfl hl.1 rfl (Nat.le_of_ble_eq_true rfl) dX5_joined_97) (fun r_20 w_19 H locs hw_w_19 hP hD hS => ?_)
    obtain ⟨hW_w_19, hs_w_19⟩ := hw_w_19
    exact hret _ _ _ _ _ _ hP hD hS dX5_joined_100 ⟨hW_w_19, (Sm.rf.tr hs_w_19 (by decide))⟩
  refine lv_tableOut (tgt := 101) hx hb dX5_joined_1 (by have h0 := lv_neT c_1 (a := 8) (by decide); have h1 := lv_neT c_3 (a := 9) (by decide); have h2 := lv_neT c_5 (a := 10) (by decide); have h3 := lv_neT c_7 (a := 11) (by decide); have h4 := lv_neT c_9 (a := 12) (by decide); have h5 := lv_neT c_11 (a := 13) (by decide); have h6 := lv_neT c_16 (a := 14) (by decide); omega) (by decide) ?_
  refine lv_iload_n hx hb dX5_joined_101 rfl (lv_at hl 1 rfl) ?_
  refine lv_i2l hx hb dX5_joined_102 rfl ?_
  refine lv_topl (fun v_21 ev_21 => ?_)
  refine lv_iload_n hx hb dX5_joined_103 rfl (lv_at hl 2 rfl) ?_
  refine lv_i2l hx hb dX5_joined_104 rfl ?_
  refine lv_topl (fun v_22 ev_22 => ?_)
  refine lv_lmul hx hb dX5_joined_105 ?_
  refine lv_topl (fun v_23 ev_23 => ?_)
  refine kW_i ⟨rfl, rfl⟩ hP hD hS hA (rW_S (As := [.long v_23]) (rest := []) hx hb hml hown hts hK hE hP hD (k_X5_bounded l D cI cJ cZ q bb bs bp w hW_w v_23 _) ⟨⟨rfl, rfl⟩, rfl, rfl⟩ sv_X5_135 ⟨(Nat.le_trans (by decide) hR.1), (Nat.le_trans (by decide) hR.2)⟩ rfl hl.1 rfl (Nat.le_of_ble_eq_true rfl) dX5_joined_106) (fun r_25 w_24 H locs hw_w_24 hP hD hS => ?_)
  obtain ⟨hW_w_24, hs_w_24⟩ := hw_w_24
  exact hret _ _ _ _ _ _ hP hD hS dX5_joined_109 ⟨hW_w_24, (Sm.rf.tr hs_w_24 (by decide))⟩
set_option maxRecDepth 100000 in
set_option maxHeartbeats 8000000 in
theorem k_X5_leaf_16 (l : Launch) (D : va_G) (cI cJ cZ : ClassId) (q : Nat → Nat) (bb bs bp : Nat) (w : va_W) (hW_w : HT q (TX q cI cJ cZ bb bs bp) w) (p2 : Int32) (p3 : Int32) (p4 : Int32) (i_p2 : In 0 6 p2) (hf_16_8 : In 1 24 (fI w 16 8)) (hok : okl p2 p3) : Con_i l yX5_leaf cX5_leaf 5 (some .int) ({ frames := 0, cells := 0, slots := 0, locals := 0 }) D cI cJ cZ eW [.ref (q 56), .ref (q 16), .int p2, .int p3, .int p4] w (fun (r : Int32) (w1 : va_W) => HT q (TX q cI cJ cZ bb bs bp) w1 ∧ Sm [] [] w w1) := by
  refine eQ_i rfl (by decide) (Nat.le_of_ble_eq_true rfl) ⟨rfl, rfl⟩ ?_
  intro p e R s m args below meth c A Q hx hb hml hown hts hK hE hA hR hret hP hD hS ls hl
  have hown : s.vm.findClass RX5 = some m.cls := hown
  have hl : lv_has ls 5 [(0, .ref (q 56)), (1, .ref (q 16)), (2, .int p2), (3, .int p3), (4, .int p4)] := hl
  refine lv_iload_n hx hb dX5_leaf_0 rfl (lv_at hl 2 rfl) ?_
  by_cases c_1 : p2 = 2
  · have c_1t : (p2 : Int32).toInt = 2 := by rw [c_1]; rfl
    refine lv_tableIn (tgt := 36) hx hb dX5_leaf_1 (by rw [c_1t]; decide) (by rw [c_1t]; decide) (off := 35) (by rw [c_1t]; rfl) (by decide) ?_
    refine lv_aload_n hx hb dX5_leaf_36 rfl (lv_at hl 0 rfl) ?_
    refine gt_X5 hx hb hts hown hK hP 56 (hW_w.o tX_56) 4 (by decide) wd_376 rfl (hW_w.fr tX_56 rfl) dX5_leaf_37 ?_
    refine lv_iload_n hx hb dX5_leaf_40 rfl (lv_at hl 3 rfl) ?_
    refine va_iald hx hb hK hP 61 0 (hW_w.a tX_61) rfl (in_I (hok.1 c_1) (by decide)) dX5_leaf_41 ?_
    refine lv_topi (fun v_2 ev_2 => ?_)
    exact hret _ _ _ _ _ _ hP hD hS dX5_leaf_42 ⟨hW_w, Sm.rf⟩
  by_cases c_3 : p2 = 3
  · have c_3t : (p2 : Int32).toInt = 3 := by rw [c_3]; rfl
    refine lv_tableIn (tgt := 43) hx hb dX5_leaf_1 (by rw [c_3t]; decide) (by rw [c_3t]; decide) (off := 42) (by rw [c_3t]; rfl) (by decide) ?_
    refine lv_iload hx hb dX5_leaf_43 (lv_at hl 4 rfl) ?_
    exact hret _ _ _ _ _ _ hP hD hS dX5_leaf_45 ⟨hW_w, Sm.rf⟩
  by_cases c_4 : p2 = 4
  · have c_4t : (p2 : Int32).toInt = 4 := by rw [c_4]; rfl
    refine lv_tableIn (tgt := 46) hx hb dX5_leaf_1 (by rw [c_4t]; decide) (by rw [c_4t]; decide) (off := 45) (by rw [c_4t]; rfl) (by decide) ?_
    refine lv_aload_n hx hb dX5_leaf_46 rfl (lv_at hl 0 rfl) ?_
    refine gt_X5 hx hb hts hown hK hP 56 (hW_w.o tX_56) 5 (by decide) wd_377 rfl (hW_w.fr tX_56 rfl) dX5_leaf_47 ?_
    refine lv_iload_n hx hb dX5_leaf_50 rfl (lv_at hl 3 rfl) ?_
    refine va_iald hx hb hK hP 62 0 (hW_w.a tX_62) rfl (in_I (hok.2.1 c_4) (by decide)) dX5_leaf_51 ?_
    refine lv_topi (fun v_5 ev_5 => ?_)
    exact hret _ _ _ _ _ _ hP hD hS dX5_leaf_52 ⟨hW_w, Sm.rf⟩
  by_cases c_6 : p2 = 5
  · have c_6t : (p2 : Int32).toInt = 5 := by rw [c_6]; rfl
    refine lv_tableIn (tgt := 53) hx hb dX5_leaf_1 (by rw [c_6t]; decide) (by rw [c_6t]; decide) (off := 52) (by rw [c_6t]; rfl) (by decide) ?_
    refine lv_iconst (v := 1) hx hb dX5_leaf_53 (by decide) ?_
    refine lv_iload_n hx hb dX5_leaf_54 rfl (lv_at hl 3 rfl) ?_
    refine lv_ishl hx hb dX5_leaf_55 ?_
    refine lv_topi (fun v_7 ev_7 => ?_)
    exact hret _ _ _ _ _ _ hP hD hS dX5_leaf_56 ⟨hW_w, Sm.rf⟩
  by_cases c_8 : p2 = 6
  · have c_8t : (p2 : Int32).toInt = 6 := by rw [c_8]; rfl
    refine lv_tableIn (tgt := 57) hx hb dX5_leaf_1 (by rw [c_8t]; decide) (by rw [c_8t]; decide) (off := 56) (by rw [c_8t]; rfl) (by decide) ?_
    refine lv_aload_n hx hb dX5_leaf_57 rfl (lv_at hl 1 rfl) ?_
    refine gt_X1 hx hb hts hown hK hP 16 (hW_w.o tX_16) 7 (by decide) wd_61 rfl (hW_w.fr tX_16 rfl) dX5_leaf_58 ?_
    refine lv_iload_n hx hb dX5_leaf_61 rfl (lv_at hl 3 rfl) ?_
    refine va_iald hx hb hK hP 22 0 (hW_w.a tX_22) rfl (in_I (hok.2.2 c_8) (by decide)) dX5_leaf_62 ?_
    refine lv_topi (fun v_9 ev_9 => ?_)
    exact hret _ _ _ _ _ _ hP hD hS dX5_leaf_63 ⟨hW_w, Sm.rf⟩
  refine lv_tableOut (tgt := 64) hx hb dX5_leaf_1 (by have h0 := lv_neT c_1 (a := 2) (by decide); have h1 := lv_neT c_3 (a := 3) (by decide); have h2 := lv_neT c_4 (a := 4) (by decide); have h3 := lv_neT c_6 (a := 5) (by decide); have h4 := lv_neT c_8 (a := 6) (by decide); omega) (by decide) ?_
  refine lv_iload_n hx hb dX5_leaf_64 rfl (lv_at hl 3 rfl) ?_
  exact hret _ _ _ _ _ _ hP hD hS dX5_leaf_65 ⟨hW_w, Sm.rf⟩
set_option maxRecDepth 100000 in
set_option maxHeartbeats 8000000 in
theorem k_X5_value_16 (l : Launch) (D : va_G) (cI cJ cZ : ClassId) (q : Nat → Nat) (bb bs bp : Nat) (w : va_W) (hW_w : HT q (TX q cI cJ cZ bb bs bp) w) (p2 : Int32) (p3 : Int32) (p4 : Int32) (i_p2 : In 0 1000 p2) (i_p3 : In 0 1000 p3) (hf_16_8 : In 1 24 (fI w 16 8)) : Con_i l yX5_value cX5_value 8 (some .int) ({ frames := 3, cells := 0, slots := 0, locals := 66 }) D cI cJ cZ eW [.ref (q 56), .ref (q 16), .int p2, .int p3, .int p4] w (fun (r : Int32) (w1 : va_W) => HT q (TX q cI cJ cZ bb bs bp) w1 ∧ Sm [63] [] w w1) := by
  refine eQ_i rfl (by decide) (Nat.le_of_ble_eq_true rfl) ⟨rfl, rfl⟩ ?_
  intro p e R s m args below meth c A Q hx hb hml hown hts hK hE hA hR hret hP hD hS ls hl
  have hown : s.vm.findClass RX5 = some m.cls := hown
  have hl : lv_has ls 8 [(0, .ref (q 56)), (1, .ref (q 16)), (2, .int p2), (3, .int p3), (4, .int p4)] := hl
  have J6 : ∀ (N : Nat) (x6_5 : Int32) (x6_6 : Int32) (w6 : va_W) (H : Heap) (locs : List Loc) (ls : Array Slot), (1000 - x6_6.toInt).toNat < N → HT q (TX q cI cJ cZ bb bs bp) w6 → Sm [63] [] w w6 → (In 0 1000 p2) → (In 0 1000 p3) → (In 0 64 x6_5) → (In 0 1000 x6_6) → (In 1 24 (fI w6 16 8)) → va_P D vwCl w6 H → va_D A w6 → va_S A s.heap H locs → lv_has ls 8 [(0, .ref (q 56)), (1, .ref (q 16)), (2, .int p2), (3, .int p3), (4, .int p4), (5, .int x6_5), (6, .int x6_6)] → W p l e R s m args below meth c H locs 0 0 Q (F0 m 6 ls []) := by
    intro N
    induction N with
    | zero => intro x6_5 x6_6 w6 H locs ls hmu; exact absurd hmu (Nat.not_lt_zero _)
    | succ N ih6 =>
      intro x6_5 x6_6 w6 H locs ls hmu6 hW_w6 hM_w6 i_x6_2 i_x6_3 i_x6_5 i_x6_6 g6_16_8 hP hD hS hl
      have J137 : ∀ (x137_5 : Int32) (x137_7 : Int32) (w137 : va_W) (H : Heap) (locs : List Loc) (ls : Array Slot), HT q (TX q cI cJ cZ bb bs bp) w137 → Sm [63] [] w w137 → (In 0 1000 p2) → (In 1 1000 p3) → (In 0 64 x137_5) → (In 0 999 x6_6) → (In 0 15 x137_7) → (In 1 24 (fI w137 16 8)) → va_P D vwCl w137 H → va_D A w137 → va_S A s.heap H locs → lv_has ls 8 [(0, .ref (q 56)), (1, .ref (q 16)), (2, .int p2), (3, .int p3), (4, .int p4), (5, .int x137_5), (6, .int x6_6), (7, .int x137_7)] → W p l e R s m args below meth c H locs 0 0 Q (F0 m 137 ls []) := by
        intro x137_5 x137_7 w137 H locs ls hW_w137 hM_w137 i_x137_2 i_x137_3 i_x137_5 i_x137_6 i_x137_7 g137_16_8 hP hD hS hl
        refine lv_iinc (v := (x6_6 + 1)) (lv' := [(6, .int (x6_6 + 1)), (0, .ref (q 56)), (1, .ref (q 16)), (2, .int p2), (3, .int p3), (4, .int p4), (5, .int x137_5), (7, .int x137_7)]) hx hb dX5_value_137 hl (k := 6) rfl (rfl) (by decide) rfl (fun ls hl => ?_)
        refine lv_goto (tgt := 6) hx hb dX5_value_140 (by decide) ?_
        exact ih6 x137_5 (x6_6 + 1) w137 _ _ ls (mu_inc hmu6 i_x137_6 (In_lit (n := 1) (by decide) (by decide) : In 1 1 1) (by decide)) hW_w137 hM_w137 i_p2 (In_w i_x137_3 (by decide) : In 0 1000 p3) i_x137_5 (In_w ((In_add (y := 1) i_x137_6 (In_lit (n := 1) (by decide) (by decide) : In 1 1 1) (by decide)) : In 1 1000 (x6_6 + 1)) (by decide) : In 0 1000 (x6_6 + 1)) (In_of (hM_w137.gI (by decide)) (In_of (hM_w137.gI (by decide)).symm g137_16_8)) hP hD hS (lv_sub hl [1, 2, 3, 4, 5, 6, 0] rfl)
      refine lv_iload hx hb dX5_value_6 (lv_at hl 6 rfl) ?_
      refine lv_iload_n hx hb dX5_value_8 rfl (lv_at hl 3 rfl) ?_
      refine lv_icmp_ge (tgt := 143) hx hb dX5_value_9 (by decide) (fun c_1 => ?_) (fun c_1 => ?_)
      · refine lv_iload hx hb dX5_value_143 (lv_at hl 5 rfl) ?_
        refine lv_if_le (tgt := 157) hx hb dX5_value_145 (by decide) (fun c_2 => ?_) (fun c_2 => ?_)
        · refine lv_iconst (v := 0) hx hb dX5_value_157 (by decide) ?_
          exact hret _ _ _ _ _ _ hP hD hS dX5_value_158 ⟨hW_w6, hM_w6⟩
        · refine lv_aload_n hx hb dX5_value_148 rfl (lv_at hl 0 rfl) ?_
          refine gt_X5 hx hb hts hown hK hP 56 (hW_w6.o tX_56) 6 (by decide) wd_378 rfl (hW_w6.fr tX_56 rfl) dX5_value_149 ?_
          refine lv_iconst (v := 0) hx hb dX5_value_152 (by decide) ?_
          refine va_iald hx hb hK hP 63 0 (hW_w6.a tX_63) rfl (in_I (In_lit (n := 0) (by decide) (by decide) : In 0 0 0) (by decide)) dX5_value_153 ?_
          refine lv_topi (fun v_3 ev_3 => ?_)
          refine lv_goto (tgt := 158) hx hb dX5_value_154 (by decide) ?_
          exact hret _ _ _ _ _ _ hP hD hS dX5_value_158 ⟨hW_w6, hM_w6⟩
      · refine lv_aload_n hx hb dX5_value_12 rfl (lv_at hl 1 rfl) ?_
        refine gt_X1 hx hb hts hown hK hP 16 (hW_w6.o tX_16) 16 (by decide) wd_85 rfl (hW_w6.fr tX_16 rfl) dX5_value_13 ?_
        refine lv_iload hx hb dX5_value_16 (lv_at hl 6 rfl) ?_
        refine va_iald hx hb hK hP 29 0 (hW_w6.a tX_29) rfl (in_I (R_nle_r i_p3 i_x6_6 c_1 (by decide) : In 0 999 x6_6) (by decide)) dX5_value_18 ?_
        refine lv_topi (fun v_4 ev_4 => ?_)
        refine lv_bipush (v := 15) hx hb dX5_value_19 (by decide) ?_
        refine lv_iand hx hb dX5_value_21 ?_
        refine lv_istore (lv' := [(7, .int (v_4 &&& 15)), (0, .ref (q 56)), (1, .ref (q 16)), (2, .int p2), (3, .int p3), (4, .int p4), (5, .int x6_5), (6, .int x6_6)]) hx hb dX5_value_22 hl (by decide) rfl (fun ls hl => ?_)
        refine lv_iload hx hb dX5_value_24 (lv_at hl 0 rfl) ?_
        refine lv_bipush (v := 7) hx hb dX5_value_26 (by decide) ?_
        refine lv_icmp_ge (tgt := 69) hx hb dX5_value_28 (by decide) (fun c_5 => ?_) (fun c_5 => ?_)
        · refine lv_iload hx hb dX5_value_69 (lv_at hl 0 rfl) ?_
          refine lv_bipush (v := 7) hx hb dX5_value_71 (by decide) ?_
          refine lv_icmp_ne (tgt := 98) hx hb dX5_value_73 (by decide) (fun c_6 => ?_) (fun c_6 => ?_)
          · refine lv_iload hx hb dX5_value_98 (lv_at hl 6 rfl) ?_
            refine lv_iconst (v := 1) hx hb dX5_value_100 (by decide) ?_
            refine lv_icmp_le (tgt := 137) hx hb dX5_value_101 (by decide) (fun c_7 => ?_) (fun c_7 => ?_)
            · exact J137 x6_5 (v_4 &&& 15) w6 _ _ ls hW_w6 hM_w6 i_p2 (R_nle_l i_p3 i_x6_6 c_1 (by decide) : In 1 1000 p3) (In_w (R_le_l i_x6_5 (In_lit (n := 1) (by decide) (by decide) : In 1 1 1) c_7 (by decide) : In 0 1 x6_5) (by decide) : In 0 64 x6_5) (R_nle_r i_p3 i_x6_6 c_1 (by decide) : In 0 999 x6_6) (In_w (R_ne_l (R_le_r (In_lit (n := 7) (by decide) (by decide) : In 7 7 7) ((In_and (n := 15) (by decide) (by decide)) : In 0 15 (v_4 &&& 15)) c_5 (by decide) : In 7 15 (v_4 &&& 15)) (In_lit (n := 7) (by decide) (by decide) : In 7 7 7) c_6 (by decide) : In 8 15 (v_4 &&& 15)) (by decide) : In 0 15 (v_4 &&& 15)) (In_of (hM_w6.gI (by decide)) (In_of (hM_w6.gI (by decide)).symm g6_16_8)) hP hD hS (lv_sub hl [1, 2, 3, 4, 5, 6, 7, 0] rfl)
            · refine lv_iinc (v := (x6_5 + (-1))) (lv' := [(5, .int (x6_5 + (-1))), (7, .int (v_4 &&& 15)), (0, .ref (q 56)), (1, .ref (q 16)), (2, .int p2), (3, .int p3), (4, .int p4), (6, .int x6_6)]) hx hb dX5_value_104 hl (k := 6) rfl (rfl) (by decide) rfl (fun ls hl => ?_)
              refine lv_aload_n hx hb dX5_value_107 rfl (lv_at hl 2 rfl) ?_
              refine gt_X5 hx hb hts hown hK hP 56 (hW_w6.o tX_56) 6 (by decide) wd_378 rfl (hW_w6.fr tX_56 rfl) dX5_value_108 ?_
              refine lv_iload hx hb dX5_value_111 (lv_at hl 0 rfl) ?_
              refine lv_iconst (v := 1) hx hb dX5_value_113 (by decide) ?_
              refine lv_isub hx hb dX5_value_114 ?_
              refine lv_iload hx hb dX5_value_115 (lv_at hl 1 rfl) ?_
              refine lv_aload_n hx hb dX5_value_117 rfl (lv_at hl 2 rfl) ?_
              refine gt_X5 hx hb hts hown hK hP 56 (hW_w6.o tX_56) 6 (by decide) wd_378 rfl (hW_w6.fr tX_56 rfl) dX5_value_118 ?_
              refine lv_iload hx hb dX5_value_121 (lv_at hl 0 rfl) ?_
              refine lv_iconst (v := 1) hx hb dX5_value_123 (by decide) ?_
              refine lv_isub hx hb dX5_value_124 ?_
              refine va_iald hx hb hK hP 63 0 (hW_w6.a tX_63) rfl (in_I ((In_sub ((In_dec (y := (-1)) (n := 1) (R_nle_l i_x6_5 (In_lit (n := 1) (by decide) (by decide) : In 1 1 1) c_7 (by decide) : In 2 64 x6_5) (by decide) (by decide)) : In 1 63 (x6_5 + (-1))) (In_lit (n := 1) (by decide) (by decide) : In 1 1 1) (by decide)) : In 0 62 ((x6_5 + (-1)) - 1)) (by decide)) dX5_value_125 ?_
              refine lv_topi (fun v_8 ev_8 => ?_)
              refine lv_aload_n hx hb dX5_value_126 rfl (lv_at hl 2 rfl) ?_
              refine gt_X5 hx hb hts hown hK hP 56 (hW_w6.o tX_56) 6 (by decide) wd_378 rfl (hW_w6.fr tX_56 rfl) dX5_value_127 ?_
              refine lv_iload hx hb dX5_value_130 (lv_at hl 0 rfl) ?_
              refine va_iald hx hb hK hP 63 0 (hW_w6.a tX_63) rfl (in_I ((In_dec (y := (-1)) (n := 1) (R_nle_l i_x6_5 (In_lit (n := 1) (by decide) (by decide) : In 1 1 1) c_7 (by decide) : In 2 64 x6_5) (by decide) (by decide)) : In 1 63 (x6_5 + (-1))) (by decide)) dX5_value_132 ?_
              refine lv_topi (fun v_9 ev_9 => ?_)
              refine kW_i ⟨rfl, rfl⟩ hP hD hS hA (rW_S (As := [.int (v_4 &&& 15), .int v_8, .int v_9]) (rest := [.int ((x6_5 + (-1)) - 1), .ref (q 63)]) hx hb hml hown hts hK hE hP hD (k_X5_joined l D cI cJ cZ q bb bs bp w6 hW_w6 (v_4 &&& 15) v_8 v_9 (R_ne_l (R_le_r (In_lit (n := 7) (by decide) (by decide) : In 7 7 7) ((In_and (n := 15) (by decide) (by decide)) : In 0 15 (v_4 &&& 15)) c_5 (by decide) : In 7 15 (v_4 &&& 15)) (In_lit (n := 7) (by decide) (by decide) : In 7 7 7) c_6 (by decide) : In 8 15 (v_4 &&& 15)) _) ⟨⟨rfl, rfl⟩, rfl, rfl⟩ sv_X5_128 ⟨(Nat.le_trans (by decide) hR.1), (Nat.le_trans (by decide) hR.2)⟩ rfl hl.1 rfl (Nat.le_of_ble_eq_true rfl) dX5_value_133) (fun r_11 w_10 H locs hw_w_10 hP hD hS => ?_)
              obtain ⟨hW_w_10, hs_w_10⟩ := hw_w_10
              refine va_iast hx hb hK hP hD hS 63 0 (hW_w_10.a tX_63) rfl (in_I ((In_sub ((In_dec (y := (-1)) (n := 1) (R_nle_l i_x6_5 (In_lit (n := 1) (by decide) (by decide) : In 1 1 1) c_7 (by decide) : In 2 64 x6_5) (by decide) (by decide)) : In 1 63 (x6_5 + (-1))) (In_lit (n := 1) (by decide) (by decide) : In 1 1 1) (by decide)) : In 0 62 ((x6_5 + (-1)) - 1)) (by decide)) dX5_value_136 (fun H locs hP hD hS => fr_w (hW_w_10.uA tX_63 (In_any _)) hP hD (fun w_12 ew_12 hW_w_12 hP hD => ?_))
              exact J137 (x6_5 + (-1)) (v_4 &&& 15) w_12 _ _ ls hW_w_12 ((hM_w6.tr hs_w_10 (by decide)).sa ew_12 (by decide)) i_p2 (R_nle_l i_p3 i_x6_6 c_1 (by decide) : In 1 1000 p3) (In_w ((In_dec (y := (-1)) (n := 1) (R_nle_l i_x6_5 (In_lit (n := 1) (by decide) (by decide) : In 1 1 1) c_7 (by decide) : In 2 64 x6_5) (by decide) (by decide)) : In 1 63 (x6_5 + (-1))) (by decide) : In 0 64 (x6_5 + (-1))) (R_nle_r i_p3 i_x6_6 c_1 (by decide) : In 0 999 x6_6) (In_w (R_ne_l (R_le_r (In_lit (n := 7) (by decide) (by decide) : In 7 7 7) ((In_and (n := 15) (by decide) (by decide)) : In 0 15 (v_4 &&& 15)) c_5 (by decide) : In 7 15 (v_4 &&& 15)) (In_lit (n := 7) (by decide) (by decide) : In 7 7 7) c_6 (by decide) : In 8 15 (v_4 &&& 15)) (by decide) : In 0 15 (v_4 &&& 15)) (In_of ((fI_cg (st_ne ew_12 (by decide))).trans ((hs_w_10.gI (by decide)).trans (hM_w6.gI (by decide)))) (In_of (hM_w6.gI (by decide)).symm g6_16_8)) hP hD hS (lv_sub hl [2, 3, 4, 5, 6, 0, 7, 1] rfl)
          · refine lv_iload hx hb dX5_value_76 (lv_at hl 6 rfl) ?_
            refine lv_if_le (tgt := 137) hx hb dX5_value_78 (by decide) (fun c_13 => ?_) (fun c_13 => ?_)
            · exact J137 x6_5 (v_4 &&& 15) w6 _ _ ls hW_w6 hM_w6 i_p2 (R_nle_l i_p3 i_x6_6 c_1 (by decide) : In 1 1000 p3) (In_w (R_le_l i_x6_5 (In_lit (n := 0) (by decide) (by decide) : In 0 0 0) c_13 (by decide) : In 0 0 x6_5) (by decide) : In 0 64 x6_5) (R_nle_r i_p3 i_x6_6 c_1 (by decide) : In 0 999 x6_6) (In_w (R_eq_l (R_le_r (In_lit (n := 7) (by decide) (by decide) : In 7 7 7) ((In_and (n := 15) (by decide) (by decide)) : In 0 15 (v_4 &&& 15)) c_5 (by decide) : In 7 15 (v_4 &&& 15)) (In_lit (n := 7) (by decide) (by decide) : In 7 7 7) c_6 (by decide) : In 7 7 (v_4 &&& 15)) (by decide) : In 0 15 (v_4 &&& 15)) (In_of (hM_w6.gI (by decide)) (In_of (hM_w6.gI (by decide)).symm g6_16_8)) hP hD hS (lv_sub hl [1, 2, 3, 4, 5, 6, 7, 0] rfl)
            · refine lv_aload_n hx hb dX5_value_81 rfl (lv_at hl 1 rfl) ?_
              refine gt_X5 hx hb hts hown hK hP 56 (hW_w6.o tX_56) 6 (by decide) wd_378 rfl (hW_w6.fr tX_56 rfl) dX5_value_82 ?_
              refine lv_iload hx hb dX5_value_85 (lv_at hl 6 rfl) ?_
              refine lv_iconst (v := 1) hx hb dX5_value_87 (by decide) ?_
              refine lv_isub hx hb dX5_value_88 ?_
              refine lv_dup2_11 hx hb dX5_value_89 rfl rfl ?_
              refine va_iald hx hb hK hP 63 0 (hW_w6.a tX_63) rfl (in_I ((In_sub (R_nle_l i_x6_5 (In_lit (n := 0) (by decide) (by decide) : In 0 0 0) c_13 (by decide) : In 1 64 x6_5) (In_lit (n := 1) (by decide) (by decide) : In 1 1 1) (by decide)) : In 0 63 (x6_5 - 1)) (by decide)) dX5_value_90 ?_
              refine lv_topi (fun v_14 ev_14 => ?_)
              refine lv_iload hx hb dX5_value_91 (lv_at hl 5 rfl) ?_
              refine lv_ixor hx hb dX5_value_93 ?_
              refine lv_topi (fun v_15 ev_15 => ?_)
              refine va_iast hx hb hK hP hD hS 63 0 (hW_w6.a tX_63) rfl (in_I ((In_sub (R_nle_l i_x6_5 (In_lit (n := 0) (by decide) (by decide) : In 0 0 0) c_13 (by decide) : In 1 64 x6_5) (In_lit (n := 1) (by decide) (by decide) : In 1 1 1) (by decide)) : In 0 63 (x6_5 - 1)) (by decide)) dX5_value_94 (fun H locs hP hD hS => fr_w (hW_w6.uA tX_63 (In_any _)) hP hD (fun w_16 ew_16 hW_w_16 hP hD => ?_))
              refine lv_goto (tgt := 137) hx hb dX5_value_95 (by decide) ?_
              exact J137 x6_5 (v_4 &&& 15) w_16 _ _ ls hW_w_16 (hM_w6.sa ew_16 (by decide)) i_p2 (R_nle_l i_p3 i_x6_6 c_1 (by decide) : In 1 1000 p3) (In_w (R_nle_l i_x6_5 (In_lit (n := 0) (by decide) (by decide) : In 0 0 0) c_13 (by decide) : In 1 64 x6_5) (by decide) : In 0 64 x6_5) (R_nle_r i_p3 i_x6_6 c_1 (by decide) : In 0 999 x6_6) (In_w (R_eq_l (R_le_r (In_lit (n := 7) (by decide) (by decide) : In 7 7 7) ((In_and (n := 15) (by decide) (by decide)) : In 0 15 (v_4 &&& 15)) c_5 (by decide) : In 7 15 (v_4 &&& 15)) (In_lit (n := 7) (by decide) (by decide) : In 7 7 7) c_6 (by decide) : In 7 7 (v_4 &&& 15)) (by decide) : In 0 15 (v_4 &&& 15)) (In_of ((fI_cg (st_ne ew_16 (by decide))).trans (hM_w6.gI (by decide))) (In_of (hM_w6.gI (by decide)).symm g6_16_8)) hP hD hS (lv_sub hl [1, 2, 3, 4, 5, 6, 7, 0] rfl)
        · refine lv_iload hx hb dX5_value_31 (lv_at hl 6 rfl) ?_
          refine lv_bipush (v := 64) hx hb dX5_value_33 (by decide) ?_
          refine lv_icmp_ge (tgt := 137) hx hb dX5_value_35 (by decide) (fun c_17 => ?_) (fun c_17 => ?_)
          · exact J137 x6_5 (v_4 &&& 15) w6 _ _ ls hW_w6 hM_w6 i_p2 (R_nle_l i_p3 i_x6_6 c_1 (by decide) : In 1 1000 p3) (In_w (R_le_r (In_lit (n := 64) (by decide) (by decide) : In 64 64 64) i_x6_5 c_17 (by decide) : In 64 64 x6_5) (by decide) : In 0 64 x6_5) (R_nle_r i_p3 i_x6_6 c_1 (by decide) : In 0 999 x6_6) (In_w (R_nle_r (In_lit (n := 7) (by decide) (by decide) : In 7 7 7) ((In_and (n := 15) (by decide) (by decide)) : In 0 15 (v_4 &&& 15)) c_5 (by decide) : In 0 6 (v_4 &&& 15)) (by decide) : In 0 15 (v_4 &&& 15)) (In_of (hM_w6.gI (by decide)) (In_of (hM_w6.gI (by decide)).symm g6_16_8)) hP hD hS (lv_sub hl [1, 2, 3, 4, 5, 6, 7, 0] rfl)
          · refine lv_aload_n hx hb dX5_value_38 rfl (lv_at hl 1 rfl) ?_
            refine gt_X5 hx hb hts hown hK hP 56 (hW_w6.o tX_56) 6 (by decide) wd_378 rfl (hW_w6.fr tX_56 rfl) dX5_value_39 ?_
            refine lv_iload hx hb dX5_value_42 (lv_at hl 6 rfl) ?_
            refine lv_aload_n hx hb dX5_value_44 rfl (lv_at hl 1 rfl) ?_
            refine lv_aload_n hx hb dX5_value_45 rfl (lv_at hl 2 rfl) ?_
            refine lv_iload hx hb dX5_value_46 (lv_at hl 0 rfl) ?_
            refine lv_aload_n hx hb dX5_value_48 rfl (lv_at hl 2 rfl) ?_
            refine gt_X1 hx hb hts hown hK hP 16 (hW_w6.o tX_16) 16 (by decide) wd_85 rfl (hW_w6.fr tX_16 rfl) dX5_value_49 ?_
            refine lv_iload hx hb dX5_value_52 (lv_at hl 7 rfl) ?_
            refine va_iald hx hb hK hP 29 0 (hW_w6.a tX_29) rfl (in_I (R_nle_r i_p3 i_x6_6 c_1 (by decide) : In 0 999 x6_6) (by decide)) dX5_value_54 ?_
            refine tov (v := v_4) ((congrFun (hM_w6.hA (by decide)) _).trans ((congrFun (hM_w6.hA (by decide)) _).symm.trans ev_4.symm)) ?_
            refine lv_iconst (v := 4) hx hb dX5_value_55 (by decide) ?_
            refine lv_ishr hx hb dX5_value_56 ?_
            refine lv_topi (fun v_18 ev_18 => ?_)
            refine lv_iload hx hb dX5_value_57 (lv_at hl 5 rfl) ?_
            refine kW_i ⟨rfl, rfl⟩ hP hD hS hA (rW_V (As := [.ref (q 16), .int (v_4 &&& 15), .int v_18, .int p4]) (rest := [.int x6_5, .ref (q 63)]) hx hb hml hown hts hK hE hP hD (k_X5_leaf_16 l D cI cJ cZ q bb bs bp w6 hW_w6 (v_4 &&& 15) v_18 p4 (R_nle_r (In_lit (n := 7) (by decide) (by decide) : In 7 7 7) ((In_and (n := 15) (by decide) (by decide)) : In 0 15 (v_4 &&& 15)) c_5 (by decide) : In 0 6 (v_4 &&& 15)) (In_of (hM_w6.gI (by decide)) (In_of (hM_w6.gI (by decide)).symm g6_16_8)) (okc_lf ev_18 ev_4 (hW_w6.ap tX_29 _)) _) ⟨⟨rfl, rfl⟩, rfl, rfl⟩ sv_X5_125 ⟨(Nat.le_trans (by decide) hR.1), (Nat.le_trans (by decide) hR.2)⟩ 56 5 (hW_w6.o tX_56) rfl rfl rfl hl.1 rfl (Nat.le_of_ble_eq_true rfl) dX5_value_59) (fun r_20 w_19 H locs hw_w_19 hP hD hS => ?_)
            obtain ⟨hW_w_19, hs_w_19⟩ := hw_w_19
            refine va_iast hx hb hK hP hD hS 63 0 (hW_w_19.a tX_63) rfl (in_I (R_nle_r (In_lit (n := 64) (by decide) (by decide) : In 64 64 64) i_x6_5 c_17 (by decide) : In 0 63 x6_5) (by decide)) dX5_value_62 (fun H locs hP hD hS => fr_w (hW_w_19.uA tX_63 (In_any _)) hP hD (fun w_21 ew_21 hW_w_21 hP hD => ?_))
            refine lv_iinc (v := (x6_5 + 1)) (lv' := [(5, .int (x6_5 + 1)), (7, .int (v_4 &&& 15)), (0, .ref (q 56)), (1, .ref (q 16)), (2, .int p2), (3, .int p3), (4, .int p4), (6, .int x6_6)]) hx hb dX5_value_63 hl (k := 6) rfl (rfl) (by decide) rfl (fun ls hl => ?_)
            refine lv_goto (tgt := 137) hx hb dX5_value_66 (by decide) ?_
            exact J137 (x6_5 + 1) (v_4 &&& 15) w_21 _ _ ls hW_w_21 ((hM_w6.tr hs_w_19 (by decide)).sa ew_21 (by decide)) i_p2 (R_nle_l i_p3 i_x6_6 c_1 (by decide) : In 1 1000 p3) (In_w ((In_add (y := 1) (R_nle_r (In_lit (n := 64) (by decide) (by decide) : In 64 64 64) i_x6_5 c_17 (by decide) : In 0 63 x6_5) (In_lit (n := 1) (by decide) (by decide) : In 1 1 1) (by decide)) : In 1 64 (x6_5 + 1)) (by decide) : In 0 64 (x6_5 + 1)) (R_nle_r i_p3 i_x6_6 c_1 (by decide) : In 0 999 x6_6) (In_w (R_nle_r (In_lit (n := 7) (by decide) (by decide) : In 7 7 7) ((In_and (n := 15) (by decide) (by decide)) : In 0 15 (v_4 &&& 15)) c_5 (by decide) : In 0 6 (v_4 &&& 15)) (by decide) : In 0 15 (v_4 &&& 15)) (In_of ((fI_cg (st_ne ew_21 (by decide))).trans ((hs_w_19.gI (by decide)).trans (hM_w6.gI (by decide)))) (In_of (hM_w6.gI (by decide)).symm g6_16_8)) hP hD hS (lv_sub hl [2, 3, 4, 5, 6, 0, 7, 1] rfl)
  refine lv_iconst (v := 0) hx hb dX5_value_0 (by decide) ?_
  refine lv_istore (lv' := [(5, .int 0), (0, .ref (q 56)), (1, .ref (q 16)), (2, .int p2), (3, .int p3), (4, .int p4)]) hx hb dX5_value_1 hl (by decide) rfl (fun ls hl => ?_)
  refine lv_iload_n hx hb dX5_value_3 rfl (lv_at hl 3 rfl) ?_
  refine lv_istore (lv' := [(6, .int p2), (5, .int 0), (0, .ref (q 56)), (1, .ref (q 16)), (2, .int p2), (3, .int p3), (4, .int p4)]) hx hb dX5_value_4 hl (by decide) rfl (fun ls hl => ?_)
  exact J6 _ 0 p2 w _ _ ls (Nat.lt_succ_self _) hW_w Sm.rf i_p2 i_p3 (In_lit (n := 0) (by decide) (by decide) : In 0 64 0) i_p2 hf_16_8 hP hD hS (lv_sub hl [2, 3, 4, 5, 6, 1, 0] rfl)
set_option maxRecDepth 100000 in
set_option maxHeartbeats 8000000 in
theorem k_X5_chooseKinds_16 (l : Launch) (D : va_G) (cI cJ cZ : ClassId) (q : Nat → Nat) (bb bs bp : Nat) (w : va_W) (hW_w : HT q (TX q cI cJ cZ bb bs bp) w) : Con_v l yX5_chooseKinds cX5_chooseKinds 4 none ({ frames := 4, cells := 0, slots := 0, locals := 93 }) D cI cJ cZ eW [.ref (q 56), .ref (q 16)] w (fun (w1 : va_W) => HT q (TX q cI cJ cZ bb bs bp) w1 ∧ Sm [28, 63] [] w w1) := by
  refine eQ_v rfl (by decide) (Nat.le_of_ble_eq_true rfl) ⟨rfl, rfl⟩ ?_
  intro p e R s m args below meth c A Q hx hb hml hown hts hK hE hA hR hret hP hD hS ls hl
  have hown : s.vm.findClass RX5 = some m.cls := hown
  have hl : lv_has ls 4 [(0, .ref (q 56)), (1, .ref (q 16))] := hl
  have J11 : ∀ (N : Nat) (x11_2 : Int32) (x11_3 : Int32) (w11 : va_W) (H : Heap) (locs : List Loc) (ls : Array Slot), (24 - x11_3.toInt).toNat < N → HT q (TX q cI cJ cZ bb bs bp) w11 → Sm [28, 63] [] w w11 → (In 0 24 x11_3) → va_P D vwCl w11 H → va_D A w11 → va_S A s.heap H locs → lv_has ls 4 [(0, .ref (q 56)), (1, .ref (q 16)), (2, .int x11_2), (3, .int x11_3)] → W p l e R s m args below meth c H locs 0 0 Q (F0 m 11 ls []) := by
    intro N
    induction N with
    | zero => intro x11_2 x11_3 w11 H locs ls hmu; exact absurd hmu (Nat.not_lt_zero _)
    | succ N ih11 =>
      intro x11_2 x11_3 w11 H locs ls hmu11 hW_w11 hM_w11 i_x11_3 hP hD hS hl
      refine lv_iload_n hx hb dX5_chooseKinds_11 rfl (lv_at hl 3 rfl) ?_
      refine lv_aload_n hx hb dX5_chooseKinds_12 rfl (lv_at hl 1 rfl) ?_
      refine gt_X1 hx hb hts hown hK hP 16 (hW_w11.o tX_16) 8 (by decide) wd_64 rfl (hW_w11.fi tX_16 rfl) dX5_chooseKinds_13 ?_
      refine tov (v := (fI w 16 8)) (hM_w11.gI (by decide)) ?_
      refine lv_icmp_ge (tgt := 49) hx hb dX5_chooseKinds_16 (by decide) (fun c_1 => ?_) (fun c_1 => ?_)
      · exact hret _ _ _ _ _ hP hD hS dX5_chooseKinds_49 ⟨hW_w11, hM_w11⟩
      · refine lv_aload_n hx hb dX5_chooseKinds_19 rfl (lv_at hl 1 rfl) ?_
        refine gt_X1 hx hb hts hown hK hP 16 (hW_w11.o tX_16) 15 (by decide) wd_83 rfl (hW_w11.fr tX_16 rfl) dX5_chooseKinds_20 ?_
        refine lv_iload_n hx hb dX5_chooseKinds_23 rfl (lv_at hl 3 rfl) ?_
        refine lv_aload_n hx hb dX5_chooseKinds_24 rfl (lv_at hl 0 rfl) ?_
        refine lv_aload_n hx hb dX5_chooseKinds_25 rfl (lv_at hl 1 rfl) ?_
        refine lv_aload_n hx hb dX5_chooseKinds_26 rfl (lv_at hl 1 rfl) ?_
        refine gt_X1 hx hb hts hown hK hP 16 (hW_w11.o tX_16) 12 (by decide) wd_77 rfl (hW_w11.fr tX_16 rfl) dX5_chooseKinds_27 ?_
        refine lv_iload_n hx hb dX5_chooseKinds_30 rfl (lv_at hl 3 rfl) ?_
        refine va_iald hx hb hK hP 25 0 (hW_w11.a tX_25) rfl (in_I (R_nle_r (hW_w.fin tX_16 rfl : In 0 24 (fI w 16 8)) i_x11_3 c_1 (by decide) : In 0 23 x11_3) (by decide)) dX5_chooseKinds_31 ?_
        refine lv_topi (fun v_2 ev_2 => ?_)
        refine lv_aload_n hx hb dX5_chooseKinds_32 rfl (lv_at hl 1 rfl) ?_
        refine gt_X1 hx hb hts hown hK hP 16 (hW_w11.o tX_16) 13 (by decide) wd_79 rfl (hW_w11.fr tX_16 rfl) dX5_chooseKinds_33 ?_
        refine lv_iload_n hx hb dX5_chooseKinds_36 rfl (lv_at hl 3 rfl) ?_
        refine va_iald hx hb hK hP 26 0 (hW_w11.a tX_26) rfl (in_I (R_nle_r (hW_w.fin tX_16 rfl : In 0 24 (fI w 16 8)) i_x11_3 c_1 (by decide) : In 0 23 x11_3) (by decide)) dX5_chooseKinds_37 ?_
        refine lv_topi (fun v_3 ev_3 => ?_)
        refine lv_iload_n hx hb dX5_chooseKinds_38 rfl (lv_at hl 2 rfl) ?_
        refine kW_i ⟨rfl, rfl⟩ hP hD hS hA (rW_V (As := [.ref (q 16), .int v_2, .int v_3, .int x11_2]) (rest := [.int x11_3, .ref (q 28)]) hx hb hml hown hts hK hE hP hD (k_X5_value_16 l D cI cJ cZ q bb bs bp w11 hW_w11 v_2 v_3 x11_2 (In_of ev_2 (hW_w11.ap tX_25 _) : In 0 1000 v_2) (In_of ev_3 (hW_w11.ap tX_26 _) : In 0 1000 v_3) (In_of (hM_w11.gI (by decide)) (R_nle_l (hW_w.fin tX_16 rfl : In 0 24 (fI w 16 8)) i_x11_3 c_1 (by decide) : In 1 24 (fI w 16 8))) _) ⟨⟨rfl, rfl⟩, rfl, rfl⟩ sv_X5_51 ⟨(Nat.le_trans (by decide) hR.1), (Nat.le_trans (by decide) hR.2)⟩ 56 5 (hW_w11.o tX_56) rfl rfl rfl hl.1 rfl (Nat.le_of_ble_eq_true rfl) dX5_chooseKinds_39) (fun r_5 w_4 H locs hw_w_4 hP hD hS => ?_)
        obtain ⟨hW_w_4, hs_w_4⟩ := hw_w_4
        refine va_iast hx hb hK hP hD hS 28 0 (hW_w_4.a tX_28) rfl (in_I (R_nle_r (hW_w.fin tX_16 rfl : In 0 24 (fI w 16 8)) i_x11_3 c_1 (by decide) : In 0 23 x11_3) (by decide)) dX5_chooseKinds_42 (fun H locs hP hD hS => fr_w (hW_w_4.uA tX_28 (In_any _)) hP hD (fun w_6 ew_6 hW_w_6 hP hD => ?_))
        refine lv_iinc (v := (x11_3 + 1)) (lv' := [(3, .int (x11_3 + 1)), (0, .ref (q 56)), (1, .ref (q 16)), (2, .int x11_2)]) hx hb dX5_chooseKinds_43 hl (k := 3) rfl (rfl) (by decide) rfl (fun ls hl => ?_)
        refine lv_goto (tgt := 11) hx hb dX5_chooseKinds_46 (by decide) ?_
        exact ih11 x11_2 (x11_3 + 1) w_6 _ _ ls (mu_inc hmu11 (R_nle_r (hW_w.fin tX_16 rfl : In 0 24 (fI w 16 8)) i_x11_3 c_1 (by decide) : In 0 23 x11_3) (In_lit (n := 1) (by decide) (by decide) : In 1 1 1) (by decide)) hW_w_6 ((hM_w11.tr hs_w_4 (by decide)).sa ew_6 (by decide)) (In_w ((In_add (y := 1) (R_nle_r (hW_w.fin tX_16 rfl : In 0 24 (fI w 16 8)) i_x11_3 c_1 (by decide) : In 0 23 x11_3) (In_lit (n := 1) (by decide) (by decide) : In 1 1 1) (by decide)) : In 1 24 (x11_3 + 1)) (by decide) : In 0 24 (x11_3 + 1)) hP hD hS (lv_sub hl [1, 2, 3, 0] rfl)
  refine lv_iconst (v := 1) hx hb dX5_chooseKinds_0 (by decide) ?_
  refine lv_aload_n hx hb dX5_chooseKinds_1 rfl (lv_at hl 1 rfl) ?_
  refine gt_X1 hx hb hts hown hK hP 16 (hW_w.o tX_16) 0 (by decide) wd_36 rfl (hW_w.fi tX_16 rfl) dX5_chooseKinds_2 ?_
  refine lv_ishl hx hb dX5_chooseKinds_5 ?_
  refine lv_topi (fun v_7 ev_7 => ?_)
  refine lv_iconst (v := 1) hx hb dX5_chooseKinds_6 (by decide) ?_
  refine lv_isub hx hb dX5_chooseKinds_7 ?_
  refine lv_istore_n (lv' := [(2, .int (v_7 - 1)), (0, .ref (q 56)), (1, .ref (q 16))]) hx hb dX5_chooseKinds_8 rfl hl (by decide) rfl (fun ls hl => ?_)
  refine lv_iconst (v := 0) hx hb dX5_chooseKinds_9 (by decide) ?_
  refine lv_istore_n (lv' := [(3, .int 0), (2, .int (v_7 - 1)), (0, .ref (q 56)), (1, .ref (q 16))]) hx hb dX5_chooseKinds_10 rfl hl (by decide) rfl (fun ls hl => ?_)
  exact J11 _ (v_7 - 1) 0 w _ _ ls (Nat.lt_succ_self _) hW_w Sm.rf (In_lit (n := 0) (by decide) (by decide) : In 0 24 0) hP hD hS (lv_sub hl [2, 3, 1, 0] rfl)
set_option maxRecDepth 100000 in
set_option maxHeartbeats 8000000 in
theorem k_X6_forget (l : Launch) (D : va_G) (cI cJ cZ : ClassId) (q : Nat → Nat) (bb bs bp : Nat) (w : va_W) (hW_w : HT q (TX q cI cJ cZ bb bs bp) w) (hf_34_4 : In 0 0 (fI w 34 4)) (hf_35_0 : In 0 0 (fI w 35 0)) : Con_v l yX6_forget cX6_forget 1 none ({ frames := 0, cells := 0, slots := 0, locals := 0 }) D cI cJ cZ eW [.ref (q 42)] w (fun (w1 : va_W) => HT q (TX q cI cJ cZ bb bs bp) w1 ∧ Sm [42] [(42, 0)] w w1) := by
  refine eQ_v rfl (by decide) (Nat.le_of_ble_eq_true rfl) ⟨rfl, rfl⟩ ?_
  intro p e R s m args below meth c A Q hx hb hml hown hts hK hE hA hR hret hP hD hS ls hl
  have hown : s.vm.findClass RX6 = some m.cls := hown
  have hl : lv_has ls 1 [(0, .ref (q 42))] := hl
  refine lv_aload_n hx hb dX6_forget_0 rfl (lv_at hl 0 rfl) ?_
  refine lv_iconst (v := (-1)) hx hb dX6_forget_1 (by decide) ?_
  refine pt_X6 hx hb hts hown hK hP hD hS 42 (hW_w.o tX_42) 0 (by decide) wd_290 rfl rfl (ty := .int) (v := .int (-1)) (by decide +kernel) rfl rfl (hW_w.ll tX_42 (Nat.le_of_ble_eq_true rfl)) dX6_forget_2 (fun H locs hP hD hS => fr_w (hW_w.sI tX_42 rfl (In_lit (n := (-1)) (by decide) (by decide) : In (-1) 200 (-1))) hP hD (fun w_1 ew_1 hW_w_1 hP hD => ?_))
  exact hret _ _ _ _ _ hP hD hS dX6_forget_5 ⟨hW_w_1, (Sm.rf.sf (hW_w.lt tX_42) ew_1 (by decide))⟩
set_option maxRecDepth 100000 in
set_option maxHeartbeats 8000000 in
theorem k_X7_empty (l : Launch) (D : va_G) (cI cJ cZ : ClassId) (q : Nat → Nat) (bb bs bp : Nat) (w : va_W) (hW_w : HT q (TX q cI cJ cZ bb bs bp) w) : Con_v l yX7_empty cX7_empty 1 none ({ frames := 0, cells := 0, slots := 0, locals := 0 }) D cI cJ cZ eW [.ref (q 35)] w (fun (w1 : va_W) => HT q (TX q cI cJ cZ bb bs bp) w1 ∧ Sm [35] [(35, 0), (35, 1)] w w1 ∧ In 0 0 (fI w1 35 0)) := by
  refine eQ_v rfl (by decide) (Nat.le_of_ble_eq_true rfl) ⟨rfl, rfl⟩ ?_
  intro p e R s m args below meth c A Q hx hb hml hown hts hK hE hA hR hret hP hD hS ls hl
  have hown : s.vm.findClass RX7 = some m.cls := hown
  have hl : lv_has ls 1 [(0, .ref (q 35))] := hl
  refine lv_aload_n hx hb dX7_empty_0 rfl (lv_at hl 0 rfl) ?_
  refine lv_iconst (v := 0) hx hb dX7_empty_1 (by decide) ?_
  refine pt_X7 hx hb hts hown hK hP hD hS 35 (hW_w.o tX_35) 0 (by decide) wd_251 rfl rfl (ty := .int) (v := .int 0) (by decide +kernel) rfl rfl (hW_w.ll tX_35 (Nat.le_of_ble_eq_true rfl)) dX7_empty_2 (fun H locs hP hD hS => fr_w (hW_w.sI tX_35 rfl (In_lit (n := 0) (by decide) (by decide) : In 0 200 0)) hP hD (fun w_1 ew_1 hW_w_1 hP hD => ?_))
  refine lv_aload_n hx hb dX7_empty_5 rfl (lv_at hl 0 rfl) ?_
  refine lv_iconst (v := 0) hx hb dX7_empty_6 (by decide) ?_
  refine pt_X7 hx hb hts hown hK hP hD hS 35 (hW_w_1.o tX_35) 1 (by decide) wd_253 rfl rfl (ty := .int) (v := .int 0) (by decide +kernel) rfl rfl (hW_w_1.ll tX_35 (Nat.le_of_ble_eq_true rfl)) dX7_empty_7 (fun H locs hP hD hS => fr_w (hW_w_1.sI tX_35 rfl (In_lit (n := 0) (by decide) (by decide) : In (-2147483648) 2147483647 0)) hP hD (fun w_2 ew_2 hW_w_2 hP hD => ?_))
  exact hret _ _ _ _ _ hP hD hS dX7_empty_10 ⟨hW_w_2, ((Sm.rf.sf (hW_w.lt tX_35) ew_1 (by decide)).sf (hW_w_1.lt tX_35) ew_2 (by decide)), (In_of ((fI_nej (hW_w_1.lt tX_35) ew_2 (by decide)).trans (fI_eq (hW_w.lt tX_35) ew_1 (hW_w.ll tX_35 (Nat.le_of_ble_eq_true rfl)))) (In_lit (n := 0) (by decide) (by decide) : In 0 0 0))⟩
set_option maxRecDepth 100000 in
set_option maxHeartbeats 8000000 in
theorem k_X10_readNumber (l : Launch) (D : va_G) (cI cJ cZ : ClassId) (q : Nat → Nat) (bb bs bp : Nat) (w : va_W) (hW_w : HT q (TX q cI cJ cZ bb bs bp) w) : Con_v l yX10_readNumber cX10_readNumber 1 none ({ frames := 0, cells := 0, slots := 0, locals := 0 }) D cI cJ cZ eW [.ref (q 31)] w (fun (w1 : va_W) => HT q (TX q cI cJ cZ bb bs bp) w1 ∧ Sm [31] [(31, 3), (31, 4), (31, 5), (31, 7)] w w1) := by
  refine eQ_v rfl (by decide) (Nat.le_of_ble_eq_true rfl) ⟨rfl, rfl⟩ ?_
  intro p e R s m args below meth c A Q hx hb hml hown hts hK hE hA hR hret hP hD hS ls hl
  have hown : s.vm.findClass RX10 = some m.cls := hown
  have hl : lv_has ls 1 [(0, .ref (q 31))] := hl
  have J5 : ∀ (N : Nat) (w5 : va_W) (H : Heap) (locs : List Loc) (ls : Array Slot), (1000 - (fI w5 31 3).toInt).toNat < N → HT q (TX q cI cJ cZ bb bs bp) w5 → Sm [31] [(31, 3), (31, 4), (31, 5), (31, 7)] w w5 → va_P D vwCl w5 H → va_D A w5 → va_S A s.heap H locs → lv_has ls 1 [(0, .ref (q 31))] → W p l e R s m args below meth c H locs 0 0 Q (F0 m 5 ls []) := by
    intro N
    induction N with
    | zero => intro w5 H locs ls hmu; exact absurd hmu (Nat.not_lt_zero _)
    | succ N ih5 =>
      intro w5 H locs ls hmu5 hW_w5 hM_w5  hP hD hS hl
      refine lv_aload_n hx hb dX10_readNumber_5 rfl (lv_at hl 0 rfl) ?_
      refine gt_X10 hx hb hts hown hK hP 31 (hW_w5.o tX_31) 3 (by decide) wd_194 rfl (hW_w5.fi tX_31 rfl) dX10_readNumber_6 ?_
      refine lv_aload_n hx hb dX10_readNumber_9 rfl (lv_at hl 0 rfl) ?_
      refine gt_X10 hx hb hts hown hK hP 31 (hW_w5.o tX_31) 1 (by decide) wd_192 rfl (hW_w5.fi tX_31 rfl) dX10_readNumber_10 ?_
      refine tov (v := (fI w 31 1)) (hM_w5.2 31 1 (by decide) (by decide)) ?_
      refine lv_icmp_ge (tgt := 110) hx hb dX10_readNumber_13 (by decide) (fun c_1 => ?_) (fun c_1 => ?_)
      · refine lv_aload_n hx hb dX10_readNumber_110 rfl (lv_at hl 0 rfl) ?_
        refine lv_sipush (v := 259) hx hb dX10_readNumber_111 (by decide) ?_
        refine pt_X10 hx hb hts hown hK hP hD hS 31 (hW_w5.o tX_31) 4 (by decide) wd_196 rfl rfl (ty := .int) (v := .int 259) (by decide +kernel) rfl rfl (hW_w5.ll tX_31 (Nat.le_of_ble_eq_true rfl)) dX10_readNumber_114 (fun H locs hP hD hS => fr_w (hW_w5.sI tX_31 rfl (In_lit (n := 259) (by decide) (by decide) : In (-2147483648) 2147483647 259)) hP hD (fun w_2 ew_2 hW_w_2 hP hD => ?_))
        exact hret _ _ _ _ _ hP hD hS dX10_readNumber_117 ⟨hW_w_2, (hM_w5.sf (hW_w5.lt tX_31) ew_2 (by decide))⟩
      · refine lv_aload_n hx hb dX10_readNumber_16 rfl (lv_at hl 0 rfl) ?_
        refine gt_X10 hx hb hts hown hK hP 31 (hW_w5.o tX_31) 0 (by decide) wd_190 rfl (hW_w5.fr tX_31 rfl) dX10_readNumber_17 ?_
        refine lv_aload_n hx hb dX10_readNumber_20 rfl (lv_at hl 0 rfl) ?_
        refine gt_X10 hx hb hts hown hK hP 31 (hW_w5.o tX_31) 3 (by decide) wd_194 rfl (hW_w5.fi tX_31 rfl) dX10_readNumber_21 ?_
        refine va_iald hx hb hK hP 32 0 (hW_w5.a tX_32) rfl (in_I (R_nle_r (hW_w.fin tX_31 rfl : In 0 1000 (fI w 31 1)) (hW_w5.fin tX_31 rfl : In 0 1000 (fI w5 31 3)) c_1 (by decide) : In 0 999 (fI w5 31 3)) (by decide)) dX10_readNumber_24 ?_
        refine lv_topi (fun v_3 ev_3 => ?_)
        refine lv_bipush (v := 48) hx hb dX10_readNumber_25 (by decide) ?_
        refine lv_icmp_lt (tgt := 110) hx hb dX10_readNumber_27 (by decide) (fun c_4 => ?_) (fun c_4 => ?_)
        · refine lv_aload_n hx hb dX10_readNumber_110 rfl (lv_at hl 0 rfl) ?_
          refine lv_sipush (v := 259) hx hb dX10_readNumber_111 (by decide) ?_
          refine pt_X10 hx hb hts hown hK hP hD hS 31 (hW_w5.o tX_31) 4 (by decide) wd_196 rfl rfl (ty := .int) (v := .int 259) (by decide +kernel) rfl rfl (hW_w5.ll tX_31 (Nat.le_of_ble_eq_true rfl)) dX10_readNumber_114 (fun H locs hP hD hS => fr_w (hW_w5.sI tX_31 rfl (In_lit (n := 259) (by decide) (by decide) : In (-2147483648) 2147483647 259)) hP hD (fun w_5 ew_5 hW_w_5 hP hD => ?_))
          exact hret _ _ _ _ _ hP hD hS dX10_readNumber_117 ⟨hW_w_5, (hM_w5.sf (hW_w5.lt tX_31) ew_5 (by decide))⟩
        · refine lv_aload_n hx hb dX10_readNumber_30 rfl (lv_at hl 0 rfl) ?_
          refine gt_X10 hx hb hts hown hK hP 31 (hW_w5.o tX_31) 0 (by decide) wd_190 rfl (hW_w5.fr tX_31 rfl) dX10_readNumber_31 ?_
          refine lv_aload_n hx hb dX10_readNumber_34 rfl (lv_at hl 0 rfl) ?_
          refine gt_X10 hx hb hts hown hK hP 31 (hW_w5.o tX_31) 3 (by decide) wd_194 rfl (hW_w5.fi tX_31 rfl) dX10_readNumber_35 ?_
          refine va_iald hx hb hK hP 32 0 (hW_w5.a tX_32) rfl (in_I (R_nle_r (hW_w.fin tX_31 rfl : In 0 1000 (fI w 31 1)) (hW_w5.fin tX_31 rfl : In 0 1000 (fI w5 31 3)) c_1 (by decide) : In 0 999 (fI w5 31 3)) (by decide)) dX10_readNumber_38 ?_
          refine tov (v := v_3) ((congrFun (hM_w5.hA (by decide)) _).trans ((congrFun (hM_w5.hA (by decide)) _).symm.trans ev_3.symm)) ?_
          refine lv_bipush (v := 57) hx hb dX10_readNumber_39 (by decide) ?_
          refine lv_icmp_gt (tgt := 110) hx hb dX10_readNumber_41 (by decide) (fun c_6 => ?_) (fun c_6 => ?_)
          · refine lv_aload_n hx hb dX10_readNumber_110 rfl (lv_at hl 0 rfl) ?_
            refine lv_sipush (v := 259) hx hb dX10_readNumber_111 (by decide) ?_
            refine pt_X10 hx hb hts hown hK hP hD hS 31 (hW_w5.o tX_31) 4 (by decide) wd_196 rfl rfl (ty := .int) (v := .int 259) (by decide +kernel) rfl rfl (hW_w5.ll tX_31 (Nat.le_of_ble_eq_true rfl)) dX10_readNumber_114 (fun H locs hP hD hS => fr_w (hW_w5.sI tX_31 rfl (In_lit (n := 259) (by decide) (by decide) : In (-2147483648) 2147483647 259)) hP hD (fun w_7 ew_7 hW_w_7 hP hD => ?_))
            exact hret _ _ _ _ _ hP hD hS dX10_readNumber_117 ⟨hW_w_7, (hM_w5.sf (hW_w5.lt tX_31) ew_7 (by decide))⟩
          · refine lv_aload_n hx hb dX10_readNumber_44 rfl (lv_at hl 0 rfl) ?_
            refine gt_X10 hx hb hts hown hK hP 31 (hW_w5.o tX_31) 3 (by decide) wd_194 rfl (hW_w5.fi tX_31 rfl) dX10_readNumber_45 ?_
            refine lv_aload_n hx hb dX10_readNumber_48 rfl (lv_at hl 0 rfl) ?_
            refine gt_X10 hx hb hts hown hK hP 31 (hW_w5.o tX_31) 5 (by decide) wd_198 rfl (hW_w5.fi tX_31 rfl) dX10_readNumber_49 ?_
            refine lv_isub hx hb dX10_readNumber_52 ?_
            refine lv_topi (fun v_8 ev_8 => ?_)
            refine lv_iconst (v := 5) hx hb dX10_readNumber_53 (by decide) ?_
            refine lv_icmp_ne (tgt := 73) hx hb dX10_readNumber_54 (by decide) (fun c_9 => ?_) (fun c_9 => ?_)
            · refine lv_aload_n hx hb dX10_readNumber_73 rfl (lv_at hl 0 rfl) ?_
              refine lv_aload_n hx hb dX10_readNumber_74 rfl (lv_at hl 0 rfl) ?_
              refine gt_X10 hx hb hts hown hK hP 31 (hW_w5.o tX_31) 7 (by decide) wd_201 rfl (hW_w5.fi tX_31 rfl) dX10_readNumber_75 ?_
              refine lv_bipush (v := 10) hx hb dX10_readNumber_78 (by decide) ?_
              refine lv_imul hx hb dX10_readNumber_80 ?_
              refine lv_topi (fun v_10 ev_10 => ?_)
              refine lv_aload_n hx hb dX10_readNumber_81 rfl (lv_at hl 0 rfl) ?_
              refine gt_X10 hx hb hts hown hK hP 31 (hW_w5.o tX_31) 0 (by decide) wd_190 rfl (hW_w5.fr tX_31 rfl) dX10_readNumber_82 ?_
              refine lv_aload_n hx hb dX10_readNumber_85 rfl (lv_at hl 0 rfl) ?_
              refine gt_X10 hx hb hts hown hK hP 31 (hW_w5.o tX_31) 3 (by decide) wd_194 rfl (hW_w5.fi tX_31 rfl) dX10_readNumber_86 ?_
              refine va_iald hx hb hK hP 32 0 (hW_w5.a tX_32) rfl (in_I (R_nle_r (hW_w.fin tX_31 rfl : In 0 1000 (fI w 31 1)) (hW_w5.fin tX_31 rfl : In 0 1000 (fI w5 31 3)) c_1 (by decide) : In 0 999 (fI w5 31 3)) (by decide)) dX10_readNumber_89 ?_
              refine tov (v := v_3) ((congrFun (hM_w5.hA (by decide)) _).trans ((congrFun (hM_w5.hA (by decide)) _).symm.trans ev_3.symm)) ?_
              refine lv_iadd hx hb dX10_readNumber_90 ?_
              refine lv_topi (fun v_11 ev_11 => ?_)
              refine lv_bipush (v := 48) hx hb dX10_readNumber_91 (by decide) ?_
              refine lv_isub hx hb dX10_readNumber_93 ?_
              refine pt_X10 hx hb hts hown hK hP hD hS 31 (hW_w5.o tX_31) 7 (by decide) wd_201 rfl rfl (ty := .int) (v := .int (v_11 - 48)) (by decide +kernel) rfl rfl (hW_w5.ll tX_31 (Nat.le_of_ble_eq_true rfl)) dX10_readNumber_94 (fun H locs hP hD hS => fr_w (hW_w5.sI tX_31 rfl (In_any _)) hP hD (fun w_12 ew_12 hW_w_12 hP hD => ?_))
              refine lv_aload_n hx hb dX10_readNumber_97 rfl (lv_at hl 0 rfl) ?_
              refine lv_dup hx hb dX10_readNumber_98 rfl ?_
              refine gt_X10 hx hb hts hown hK hP 31 (hW_w_12.o tX_31) 3 (by decide) wd_194 rfl (hW_w_12.fi tX_31 rfl) dX10_readNumber_99 ?_
              refine tov (v := (fI w5 31 3)) (fI_nej (hW_w5.lt tX_31) ew_12 (by decide)) ?_
              refine lv_iconst (v := 1) hx hb dX10_readNumber_102 (by decide) ?_
              refine lv_iadd hx hb dX10_readNumber_103 ?_
              refine pt_X10 hx hb hts hown hK hP hD hS 31 (hW_w_12.o tX_31) 3 (by decide) wd_194 rfl rfl (ty := .int) (v := .int ((fI w5 31 3) + 1)) (by decide +kernel) rfl rfl (hW_w_12.ll tX_31 (Nat.le_of_ble_eq_true rfl)) dX10_readNumber_104 (fun H locs hP hD hS => fr_w (hW_w_12.sI tX_31 rfl (In_w ((In_add (R_nle_r (hW_w.fin tX_31 rfl : In 0 1000 (fI w 31 1)) (hW_w5.fin tX_31 rfl : In 0 1000 (fI w5 31 3)) c_1 (by decide) : In 0 999 (fI w5 31 3)) (In_lit (n := 1) (by decide) (by decide) : In 1 1 1) (by decide)) : In 1 1000 ((fI w5 31 3) + 1)) (by decide) : In 0 1000 ((fI w5 31 3) + 1))) hP hD (fun w_13 ew_13 hW_w_13 hP hD => ?_))
              refine lv_goto (tgt := 5) hx hb dX10_readNumber_107 (by decide) ?_
              exact ih5 w_13 _ _ ls ((by rw [show fI w_13 31 3 = ((fI w5 31 3) + 1) from (fI_eq (hW_w_12.lt tX_31) ew_13 (hW_w_12.ll tX_31 (Nat.le_of_ble_eq_true rfl)))]; exact mu_inc hmu5 (R_nle_r (hW_w.fin tX_31 rfl : In 0 1000 (fI w 31 1)) (hW_w5.fin tX_31 rfl : In 0 1000 (fI w5 31 3)) c_1 (by decide) : In 0 999 (fI w5 31 3)) (In_lit (n := 1) (by decide) (by decide) : In 1 1 1) (by decide))) hW_w_13 ((hM_w5.sf (hW_w5.lt tX_31) ew_12 (by decide)).sf (hW_w_12.lt tX_31) ew_13 (by decide))  hP hD hS (lv_sub hl [0] rfl)
            · refine lv_aload_n hx hb dX10_readNumber_57 rfl (lv_at hl 0 rfl) ?_
              refine lv_aload_n hx hb dX10_readNumber_58 rfl (lv_at hl 0 rfl) ?_
              refine gt_X10 hx hb hts hown hK hP 31 (hW_w5.o tX_31) 3 (by decide) wd_194 rfl (hW_w5.fi tX_31 rfl) dX10_readNumber_59 ?_
              refine pt_X10 hx hb hts hown hK hP hD hS 31 (hW_w5.o tX_31) 5 (by decide) wd_198 rfl rfl (ty := .int) (v := .int (fI w5 31 3)) (by decide +kernel) rfl rfl (hW_w5.ll tX_31 (Nat.le_of_ble_eq_true rfl)) dX10_readNumber_62 (fun H locs hP hD hS => fr_w (hW_w5.sI tX_31 rfl (In_w (R_nle_r (hW_w.fin tX_31 rfl : In 0 1000 (fI w 31 1)) (hW_w5.fin tX_31 rfl : In 0 1000 (fI w5 31 3)) c_1 (by decide) : In 0 999 (fI w5 31 3)) (by decide) : In (-2147483648) 2147483647 (fI w5 31 3))) hP hD (fun w_14 ew_14 hW_w_14 hP hD => ?_))
              refine lv_aload_n hx hb dX10_readNumber_65 rfl (lv_at hl 0 rfl) ?_
              refine lv_sipush (v := 257) hx hb dX10_readNumber_66 (by decide) ?_
              refine pt_X10 hx hb hts hown hK hP hD hS 31 (hW_w_14.o tX_31) 4 (by decide) wd_196 rfl rfl (ty := .int) (v := .int 257) (by decide +kernel) rfl rfl (hW_w_14.ll tX_31 (Nat.le_of_ble_eq_true rfl)) dX10_readNumber_69 (fun H locs hP hD hS => fr_w (hW_w_14.sI tX_31 rfl (In_lit (n := 257) (by decide) (by decide) : In (-2147483648) 2147483647 257)) hP hD (fun w_15 ew_15 hW_w_15 hP hD => ?_))
              exact hret _ _ _ _ _ hP hD hS dX10_readNumber_72 ⟨hW_w_15, ((hM_w5.sf (hW_w5.lt tX_31) ew_14 (by decide)).sf (hW_w_14.lt tX_31) ew_15 (by decide))⟩
  refine lv_aload_n hx hb dX10_readNumber_0 rfl (lv_at hl 0 rfl) ?_
  refine lv_iconst (v := 0) hx hb dX10_readNumber_1 (by decide) ?_
  refine pt_X10 hx hb hts hown hK hP hD hS 31 (hW_w.o tX_31) 7 (by decide) wd_201 rfl rfl (ty := .int) (v := .int 0) (by decide +kernel) rfl rfl (hW_w.ll tX_31 (Nat.le_of_ble_eq_true rfl)) dX10_readNumber_2 (fun H locs hP hD hS => fr_w (hW_w.sI tX_31 rfl (In_lit (n := 0) (by decide) (by decide) : In (-2147483648) 2147483647 0)) hP hD (fun w_16 ew_16 hW_w_16 hP hD => ?_))
  exact J5 _ w_16 _ _ ls (Nat.lt_succ_self _) hW_w_16 (Sm.rf.sf (hW_w.lt tX_31) ew_16 (by decide))  hP hD hS (lv_sub hl [0] rfl)
set_option maxRecDepth 100000 in
set_option maxHeartbeats 8000000 in
theorem k_X10_readWord (l : Launch) (D : va_G) (cI cJ cZ : ClassId) (q : Nat → Nat) (bb bs bp : Nat) (w : va_W) (hW_w : HT q (TX q cI cJ cZ bb bs bp) w) : Con_v l yX10_readWord cX10_readWord 2 none ({ frames := 0, cells := 0, slots := 0, locals := 0 }) D cI cJ cZ eW [.ref (q 31)] w (fun (w1 : va_W) => HT q (TX q cI cJ cZ bb bs bp) w1 ∧ Sm [31] [(31, 3), (31, 4), (31, 5), (31, 6)] w w1) := by
  refine eQ_v rfl (by decide) (Nat.le_of_ble_eq_true rfl) ⟨rfl, rfl⟩ ?_
  intro p e R s m args below meth c A Q hx hb hml hown hts hK hE hA hR hret hP hD hS ls hl
  have hown : s.vm.findClass RX10 = some m.cls := hown
  have hl : lv_has ls 2 [(0, .ref (q 31))] := hl
  have J127 : ∀ (N : Nat) (x127_1 : Int32) (w127 : va_W) (H : Heap) (locs : List Loc) (ls : Array Slot), (22 - x127_1.toInt).toNat < N → HT q (TX q cI cJ cZ bb bs bp) w127 → Sm [31] [(31, 3), (31, 4), (31, 5), (31, 6)] w w127 → (In 0 22 x127_1) → (fI w127 31 4 = 258) → va_P D vwCl w127 H → va_D A w127 → va_S A s.heap H locs → lv_has ls 2 [(0, .ref (q 31)), (1, .int x127_1)] → W p l e R s m args below meth c H locs 0 0 Q (F0 m 127 ls []) := by
    intro N
    induction N with
    | zero => intro x127_1 w127 H locs ls hmu; exact absurd hmu (Nat.not_lt_zero _)
    | succ N ih127 =>
      intro x127_1 w127 H locs ls hmu127 hW_w127 hM_w127 i_x127_1 g127_31_4e hP hD hS hl
      refine lv_iload_n hx hb dX10_readWord_127 rfl (lv_at hl 1 rfl) ?_
      refine lv_bipush (v := 22) hx hb dX10_readWord_128 (by decide) ?_
      refine lv_icmp_ge (tgt := 165) hx hb dX10_readWord_130 (by decide) (fun c_1 => ?_) (fun c_1 => ?_)
      · exact hret _ _ _ _ _ hP hD hS dX10_readWord_165 ⟨hW_w127, hM_w127⟩
      · refine lv_aload_n hx hb dX10_readWord_133 rfl (lv_at hl 0 rfl) ?_
        refine gt_X10 hx hb hts hown hK hP 31 (hW_w127.o tX_31) 2 (by decide) wd_193 rfl (hW_w127.fr tX_31 rfl) dX10_readWord_134 ?_
        refine lv_iload_n hx hb dX10_readWord_137 rfl (lv_at hl 1 rfl) ?_
        refine va_lald hx hb hK hP 33 1 (hW_w127.al tX_33) rfl (in_I (R_nle_r (In_lit (n := 22) (by decide) (by decide) : In 22 22 22) i_x127_1 c_1 (by decide) : In 0 21 x127_1) (by decide)) dX10_readWord_138 ?_
        refine lv_topl (fun v_2 ev_2 => ?_)
        refine lv_aload_n hx hb dX10_readWord_139 rfl (lv_at hl 0 rfl) ?_
        refine gt_X10 hx hb hts hown hK hP 31 (hW_w127.o tX_31) 6 (by decide) wd_199 rfl (hW_w127.fl tX_31 rfl) dX10_readWord_140 ?_
        refine W.lcmp hx hb dX10_readWord_143 ?_
        refine lv_topi (fun v_3 ev_3 => ?_)
        refine lv_if_ne (tgt := 159) hx hb dX10_readWord_144 (by decide) (fun c_4 => ?_) (fun c_4 => ?_)
        · refine lv_iinc (v := (x127_1 + 1)) (lv' := [(1, .int (x127_1 + 1)), (0, .ref (q 31))]) hx hb dX10_readWord_159 hl (k := 1) rfl (rfl) (by decide) rfl (fun ls hl => ?_)
          refine lv_goto (tgt := 127) hx hb dX10_readWord_162 (by decide) ?_
          exact ih127 (x127_1 + 1) w127 _ _ ls (mu_inc hmu127 (R_nle_r (In_lit (n := 22) (by decide) (by decide) : In 22 22 22) i_x127_1 c_1 (by decide) : In 0 21 x127_1) (In_lit (n := 1) (by decide) (by decide) : In 1 1 1) (by decide)) hW_w127 hM_w127 (In_w ((In_add (y := 1) (R_nle_r (In_lit (n := 22) (by decide) (by decide) : In 22 22 22) i_x127_1 c_1 (by decide) : In 0 21 x127_1) (In_lit (n := 1) (by decide) (by decide) : In 1 1 1) (by decide)) : In 1 22 (x127_1 + 1)) (by decide) : In 0 22 (x127_1 + 1)) g127_31_4e hP hD hS (lv_sub hl [1, 0] rfl)
        · refine lv_aload_n hx hb dX10_readWord_147 rfl (lv_at hl 0 rfl) ?_
          refine lv_sipush (v := 260) hx hb dX10_readWord_148 (by decide) ?_
          refine lv_iload_n hx hb dX10_readWord_151 rfl (lv_at hl 1 rfl) ?_
          refine lv_iadd hx hb dX10_readWord_152 ?_
          refine lv_iconst (v := 1) hx hb dX10_readWord_153 (by decide) ?_
          refine lv_iadd hx hb dX10_readWord_154 ?_
          refine pt_X10 hx hb hts hown hK hP hD hS 31 (hW_w127.o tX_31) 4 (by decide) wd_196 rfl rfl (ty := .int) (v := .int ((260 + x127_1) + 1)) (by decide +kernel) rfl rfl (hW_w127.ll tX_31 (Nat.le_of_ble_eq_true rfl)) dX10_readWord_155 (fun H locs hP hD hS => fr_w (hW_w127.sI tX_31 rfl (In_w ((In_add ((In_add (In_lit (n := 260) (by decide) (by decide) : In 260 260 260) (R_nle_r (In_lit (n := 22) (by decide) (by decide) : In 22 22 22) i_x127_1 c_1 (by decide) : In 0 21 x127_1) (by decide)) : In 260 281 (260 + x127_1)) (In_lit (n := 1) (by decide) (by decide) : In 1 1 1) (by decide)) : In 261 282 ((260 + x127_1) + 1)) (by decide) : In (-2147483648) 2147483647 ((260 + x127_1) + 1))) hP hD (fun w_5 ew_5 hW_w_5 hP hD => ?_))
          exact hret _ _ _ _ _ hP hD hS dX10_readWord_158 ⟨hW_w_5, (hM_w127.sf (hW_w127.lt tX_31) ew_5 (by decide))⟩
  have J118 : ∀ (w118 : va_W) (H : Heap) (locs : List Loc) (ls : Array Slot), HT q (TX q cI cJ cZ bb bs bp) w118 → Sm [31] [(31, 3), (31, 4), (31, 5), (31, 6)] w w118 → va_P D vwCl w118 H → va_D A w118 → va_S A s.heap H locs → lv_has ls 2 [(0, .ref (q 31))] → W p l e R s m args below meth c H locs 0 0 Q (F0 m 118 ls []) := by
    intro w118 H locs ls hW_w118 hM_w118  hP hD hS hl
    refine lv_aload_n hx hb dX10_readWord_118 rfl (lv_at hl 0 rfl) ?_
    refine lv_sipush (v := 258) hx hb dX10_readWord_119 (by decide) ?_
    refine pt_X10 hx hb hts hown hK hP hD hS 31 (hW_w118.o tX_31) 4 (by decide) wd_196 rfl rfl (ty := .int) (v := .int 258) (by decide +kernel) rfl rfl (hW_w118.ll tX_31 (Nat.le_of_ble_eq_true rfl)) dX10_readWord_122 (fun H locs hP hD hS => fr_w (hW_w118.sI tX_31 rfl (In_lit (n := 258) (by decide) (by decide) : In (-2147483648) 2147483647 258)) hP hD (fun w_6 ew_6 hW_w_6 hP hD => ?_))
    refine lv_iconst (v := 0) hx hb dX10_readWord_125 (by decide) ?_
    refine lv_istore_n (lv' := [(1, .int 0), (0, .ref (q 31))]) hx hb dX10_readWord_126 rfl hl (by decide) rfl (fun ls hl => ?_)
    exact J127 _ 0 w_6 _ _ ls (Nat.lt_succ_self _) hW_w_6 (hM_w118.sf (hW_w118.lt tX_31) ew_6 (by decide)) (In_lit (n := 0) (by decide) (by decide) : In 0 22 0) (fI_eq (hW_w118.lt tX_31) ew_6 (hW_w118.ll tX_31 (Nat.le_of_ble_eq_true rfl))) hP hD hS (lv_sub hl [1, 0] rfl)
  have J5 : ∀ (N : Nat) (w5 : va_W) (H : Heap) (locs : List Loc) (ls : Array Slot), (1000 - (fI w5 31 3).toInt).toNat < N → HT q (TX q cI cJ cZ bb bs bp) w5 → Sm [31] [(31, 3), (31, 4), (31, 5), (31, 6)] w w5 → va_P D vwCl w5 H → va_D A w5 → va_S A s.heap H locs → lv_has ls 2 [(0, .ref (q 31))] → W p l e R s m args below meth c H locs 0 0 Q (F0 m 5 ls []) := by
    intro N
    induction N with
    | zero => intro w5 H locs ls hmu; exact absurd hmu (Nat.not_lt_zero _)
    | succ N ih5 =>
      intro w5 H locs ls hmu5 hW_w5 hM_w5  hP hD hS hl
      refine lv_aload_n hx hb dX10_readWord_5 rfl (lv_at hl 0 rfl) ?_
      refine gt_X10 hx hb hts hown hK hP 31 (hW_w5.o tX_31) 3 (by decide) wd_194 rfl (hW_w5.fi tX_31 rfl) dX10_readWord_6 ?_
      refine lv_aload_n hx hb dX10_readWord_9 rfl (lv_at hl 0 rfl) ?_
      refine gt_X10 hx hb hts hown hK hP 31 (hW_w5.o tX_31) 1 (by decide) wd_192 rfl (hW_w5.fi tX_31 rfl) dX10_readWord_10 ?_
      refine tov (v := (fI w 31 1)) (hM_w5.2 31 1 (by decide) (by decide)) ?_
      refine lv_icmp_ge (tgt := 118) hx hb dX10_readWord_13 (by decide) (fun c_7 => ?_) (fun c_7 => ?_)
      · exact J118 w5 _ _ ls hW_w5 hM_w5  hP hD hS (lv_sub hl [0] rfl)
      · refine lv_aload_n hx hb dX10_readWord_16 rfl (lv_at hl 0 rfl) ?_
        refine gt_X10 hx hb hts hown hK hP 31 (hW_w5.o tX_31) 0 (by decide) wd_190 rfl (hW_w5.fr tX_31 rfl) dX10_readWord_17 ?_
        refine lv_aload_n hx hb dX10_readWord_20 rfl (lv_at hl 0 rfl) ?_
        refine gt_X10 hx hb hts hown hK hP 31 (hW_w5.o tX_31) 3 (by decide) wd_194 rfl (hW_w5.fi tX_31 rfl) dX10_readWord_21 ?_
        refine va_iald hx hb hK hP 32 0 (hW_w5.a tX_32) rfl (in_I (R_nle_r (hW_w.fin tX_31 rfl : In 0 1000 (fI w 31 1)) (hW_w5.fin tX_31 rfl : In 0 1000 (fI w5 31 3)) c_7 (by decide) : In 0 999 (fI w5 31 3)) (by decide)) dX10_readWord_24 ?_
        refine lv_topi (fun v_8 ev_8 => ?_)
        refine lv_bipush (v := 97) hx hb dX10_readWord_25 (by decide) ?_
        refine lv_icmp_lt (tgt := 118) hx hb dX10_readWord_27 (by decide) (fun c_9 => ?_) (fun c_9 => ?_)
        · exact J118 w5 _ _ ls hW_w5 hM_w5  hP hD hS (lv_sub hl [0] rfl)
        · refine lv_aload_n hx hb dX10_readWord_30 rfl (lv_at hl 0 rfl) ?_
          refine gt_X10 hx hb hts hown hK hP 31 (hW_w5.o tX_31) 0 (by decide) wd_190 rfl (hW_w5.fr tX_31 rfl) dX10_readWord_31 ?_
          refine lv_aload_n hx hb dX10_readWord_34 rfl (lv_at hl 0 rfl) ?_
          refine gt_X10 hx hb hts hown hK hP 31 (hW_w5.o tX_31) 3 (by decide) wd_194 rfl (hW_w5.fi tX_31 rfl) dX10_readWord_35 ?_
          refine va_iald hx hb hK hP 32 0 (hW_w5.a tX_32) rfl (in_I (R_nle_r (hW_w.fin tX_31 rfl : In 0 1000 (fI w 31 1)) (hW_w5.fin tX_31 rfl : In 0 1000 (fI w5 31 3)) c_7 (by decide) : In 0 999 (fI w5 31 3)) (by decide)) dX10_readWord_38 ?_
          refine tov (v := v_8) ((congrFun (hM_w5.hA (by decide)) _).trans ((congrFun (hM_w5.hA (by decide)) _).symm.trans ev_8.symm)) ?_
          refine lv_bipush (v := 122) hx hb dX10_readWord_39 (by decide) ?_
          refine lv_icmp_gt (tgt := 118) hx hb dX10_readWord_41 (by decide) (fun c_10 => ?_) (fun c_10 => ?_)
          · exact J118 w5 _ _ ls hW_w5 hM_w5  hP hD hS (lv_sub hl [0] rfl)
          · refine lv_aload_n hx hb dX10_readWord_44 rfl (lv_at hl 0 rfl) ?_
            refine gt_X10 hx hb hts hown hK hP 31 (hW_w5.o tX_31) 3 (by decide) wd_194 rfl (hW_w5.fi tX_31 rfl) dX10_readWord_45 ?_
            refine lv_aload_n hx hb dX10_readWord_48 rfl (lv_at hl 0 rfl) ?_
            refine gt_X10 hx hb hts hown hK hP 31 (hW_w5.o tX_31) 5 (by decide) wd_198 rfl (hW_w5.fi tX_31 rfl) dX10_readWord_49 ?_
            refine lv_isub hx hb dX10_readWord_52 ?_
            refine lv_topi (fun v_11 ev_11 => ?_)
            refine lv_istore_n (lv' := [(1, .int v_11), (0, .ref (q 31))]) hx hb dX10_readWord_53 rfl hl (by decide) rfl (fun ls hl => ?_)
            refine lv_iload_n hx hb dX10_readWord_54 rfl (lv_at hl 0 rfl) ?_
            refine lv_bipush (v := 8) hx hb dX10_readWord_55 (by decide) ?_
            refine lv_icmp_ne (tgt := 76) hx hb dX10_readWord_57 (by decide) (fun c_12 => ?_) (fun c_12 => ?_)
            · refine lv_aload_n hx hb dX10_readWord_76 rfl (lv_at hl 1 rfl) ?_
              refine lv_dup hx hb dX10_readWord_77 rfl ?_
              refine gt_X10 hx hb hts hown hK hP 31 (hW_w5.o tX_31) 6 (by decide) wd_199 rfl (hW_w5.fl tX_31 rfl) dX10_readWord_78 ?_
              refine lv_aload_n hx hb dX10_readWord_81 rfl (lv_at hl 1 rfl) ?_
              refine gt_X10 hx hb hts hown hK hP 31 (hW_w5.o tX_31) 0 (by decide) wd_190 rfl (hW_w5.fr tX_31 rfl) dX10_readWord_82 ?_
              refine lv_aload_n hx hb dX10_readWord_85 rfl (lv_at hl 1 rfl) ?_
              refine gt_X10 hx hb hts hown hK hP 31 (hW_w5.o tX_31) 3 (by decide) wd_194 rfl (hW_w5.fi tX_31 rfl) dX10_readWord_86 ?_
              refine va_iald hx hb hK hP 32 0 (hW_w5.a tX_32) rfl (in_I (R_nle_r (hW_w.fin tX_31 rfl : In 0 1000 (fI w 31 1)) (hW_w5.fin tX_31 rfl : In 0 1000 (fI w5 31 3)) c_7 (by decide) : In 0 999 (fI w5 31 3)) (by decide)) dX10_readWord_89 ?_
              refine tov (v := v_8) ((congrFun (hM_w5.hA (by decide)) _).trans ((congrFun (hM_w5.hA (by decide)) _).symm.trans ev_8.symm)) ?_
              refine lv_bipush (v := 96) hx hb dX10_readWord_90 (by decide) ?_
              refine lv_isub hx hb dX10_readWord_92 ?_
              refine lv_i2l hx hb dX10_readWord_93 rfl ?_
              refine lv_topl (fun v_13 ev_13 => ?_)
              refine lv_bipush (v := 35) hx hb dX10_readWord_94 (by decide) ?_
              refine lv_iconst (v := 5) hx hb dX10_readWord_96 (by decide) ?_
              refine lv_iload_n hx hb dX10_readWord_97 rfl (lv_at hl 0 rfl) ?_
              refine lv_imul hx hb dX10_readWord_98 ?_
              refine lv_topi (fun v_14 ev_14 => ?_)
              refine lv_isub hx hb dX10_readWord_99 ?_
              refine lv_lshl hx hb dX10_readWord_100 rfl ?_
              refine lv_topl (fun v_15 ev_15 => ?_)
              refine lv_lor hx hb dX10_readWord_101 ?_
              refine lv_topl (fun v_16 ev_16 => ?_)
              refine pt_X10 hx hb hts hown hK hP hD hS 31 (hW_w5.o tX_31) 6 (by decide) wd_199 rfl rfl (ty := .long) (v := .long v_16) (by decide +kernel) rfl rfl (hW_w5.ll tX_31 (Nat.le_of_ble_eq_true rfl)) dX10_readWord_102 (fun H locs hP hD hS => fr_w (hW_w5.sL tX_31 rfl) hP hD (fun w_17 ew_17 hW_w_17 hP hD => ?_))
              refine lv_aload_n hx hb dX10_readWord_105 rfl (lv_at hl 1 rfl) ?_
              refine lv_dup hx hb dX10_readWord_106 rfl ?_
              refine gt_X10 hx hb hts hown hK hP 31 (hW_w_17.o tX_31) 3 (by decide) wd_194 rfl (hW_w_17.fi tX_31 rfl) dX10_readWord_107 ?_
              refine tov (v := (fI w5 31 3)) (fI_nej (hW_w5.lt tX_31) ew_17 (by decide)) ?_
              refine lv_iconst (v := 1) hx hb dX10_readWord_110 (by decide) ?_
              refine lv_iadd hx hb dX10_readWord_111 ?_
              refine pt_X10 hx hb hts hown hK hP hD hS 31 (hW_w_17.o tX_31) 3 (by decide) wd_194 rfl rfl (ty := .int) (v := .int ((fI w5 31 3) + 1)) (by decide +kernel) rfl rfl (hW_w_17.ll tX_31 (Nat.le_of_ble_eq_true rfl)) dX10_readWord_112 (fun H locs hP hD hS => fr_w (hW_w_17.sI tX_31 rfl (In_w ((In_add (R_nle_r (hW_w.fin tX_31 rfl : In 0 1000 (fI w 31 1)) (hW_w5.fin tX_31 rfl : In 0 1000 (fI w5 31 3)) c_7 (by decide) : In 0 999 (fI w5 31 3)) (In_lit (n := 1) (by decide) (by decide) : In 1 1 1) (by decide)) : In 1 1000 ((fI w5 31 3) + 1)) (by decide) : In 0 1000 ((fI w5 31 3) + 1))) hP hD (fun w_18 ew_18 hW_w_18 hP hD => ?_))
              refine lv_goto (tgt := 5) hx hb dX10_readWord_115 (by decide) ?_
              exact ih5 w_18 _ _ ls ((by rw [show fI w_18 31 3 = ((fI w5 31 3) + 1) from (fI_eq (hW_w_17.lt tX_31) ew_18 (hW_w_17.ll tX_31 (Nat.le_of_ble_eq_true rfl)))]; exact mu_inc hmu5 (R_nle_r (hW_w.fin tX_31 rfl : In 0 1000 (fI w 31 1)) (hW_w5.fin tX_31 rfl : In 0 1000 (fI w5 31 3)) c_7 (by decide) : In 0 999 (fI w5 31 3)) (In_lit (n := 1) (by decide) (by decide) : In 1 1 1) (by decide))) hW_w_18 ((hM_w5.sf (hW_w5.lt tX_31) ew_17 (by decide)).sf (hW_w_17.lt tX_31) ew_18 (by decide))  hP hD hS (lv_sub hl [1] rfl)
            · refine lv_aload_n hx hb dX10_readWord_60 rfl (lv_at hl 1 rfl) ?_
              refine lv_aload_n hx hb dX10_readWord_61 rfl (lv_at hl 1 rfl) ?_
              refine gt_X10 hx hb hts hown hK hP 31 (hW_w5.o tX_31) 3 (by decide) wd_194 rfl (hW_w5.fi tX_31 rfl) dX10_readWord_62 ?_
              refine pt_X10 hx hb hts hown hK hP hD hS 31 (hW_w5.o tX_31) 5 (by decide) wd_198 rfl rfl (ty := .int) (v := .int (fI w5 31 3)) (by decide +kernel) rfl rfl (hW_w5.ll tX_31 (Nat.le_of_ble_eq_true rfl)) dX10_readWord_65 (fun H locs hP hD hS => fr_w (hW_w5.sI tX_31 rfl (In_w (R_nle_r (hW_w.fin tX_31 rfl : In 0 1000 (fI w 31 1)) (hW_w5.fin tX_31 rfl : In 0 1000 (fI w5 31 3)) c_7 (by decide) : In 0 999 (fI w5 31 3)) (by decide) : In (-2147483648) 2147483647 (fI w5 31 3))) hP hD (fun w_19 ew_19 hW_w_19 hP hD => ?_))
              refine lv_aload_n hx hb dX10_readWord_68 rfl (lv_at hl 1 rfl) ?_
              refine lv_sipush (v := 257) hx hb dX10_readWord_69 (by decide) ?_
              refine pt_X10 hx hb hts hown hK hP hD hS 31 (hW_w_19.o tX_31) 4 (by decide) wd_196 rfl rfl (ty := .int) (v := .int 257) (by decide +kernel) rfl rfl (hW_w_19.ll tX_31 (Nat.le_of_ble_eq_true rfl)) dX10_readWord_72 (fun H locs hP hD hS => fr_w (hW_w_19.sI tX_31 rfl (In_lit (n := 257) (by decide) (by decide) : In (-2147483648) 2147483647 257)) hP hD (fun w_20 ew_20 hW_w_20 hP hD => ?_))
              exact hret _ _ _ _ _ hP hD hS dX10_readWord_75 ⟨hW_w_20, ((hM_w5.sf (hW_w5.lt tX_31) ew_19 (by decide)).sf (hW_w_19.lt tX_31) ew_20 (by decide))⟩
  refine lv_aload_n hx hb dX10_readWord_0 rfl (lv_at hl 0 rfl) ?_
  refine lv_lconst (v := 0) hx hb dX10_readWord_1 (by decide) ?_
  refine pt_X10 hx hb hts hown hK hP hD hS 31 (hW_w.o tX_31) 6 (by decide) wd_199 rfl rfl (ty := .long) (v := .long 0) (by decide +kernel) rfl rfl (hW_w.ll tX_31 (Nat.le_of_ble_eq_true rfl)) dX10_readWord_2 (fun H locs hP hD hS => fr_w (hW_w.sL tX_31 rfl) hP hD (fun w_21 ew_21 hW_w_21 hP hD => ?_))
  exact J5 _ w_21 _ _ ls (Nat.lt_succ_self _) hW_w_21 (Sm.rf.sf (hW_w.lt tX_31) ew_21 (by decide))  hP hD hS (lv_sub hl [0] rfl)
