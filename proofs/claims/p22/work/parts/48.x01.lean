set_option maxRecDepth 100000 in
set_option maxHeartbeats 8000000 in
theorem e_X10_put (l : Launch) (D : va_G) (cI cJ cZ : ClassId) (q : Nat → Nat) (bb bs bp : Nat) (w : va_W) (hW_w : HT q (TX q cI cJ cZ bb bs bp) w) (p1 : Int32) : Con_v l yX10_put cX10_put 3 none ({ frames := 0, cells := 0, slots := 0, locals := 0 }) D cI cJ cZ eW [.ref (q 31), .int p1] w (fun (w1 : va_W) => HT q (TX q cI cJ cZ bb bs bp) w1 ∧ Sm [31, 32] [(31, 1)] w w1 ∧ ((fI w 31 1).toInt ≤ 996 → (fI w1 31 1).toInt = (fI w 31 1).toInt + 4) ∧ M_X10_put (vw w) p1.toInt 0 (vw w1)) := by
  refine eQ_v rfl (by decide) (Nat.le_of_ble_eq_true rfl) ⟨rfl, rfl⟩ ?_
  intro p e R s m args below meth c A Q hx hb hml hown hts hK hE hA hR hret hP hD hS ls hl
  have hown : s.vm.findClass RX10 = some m.cls := hown
  have hl : lv_has ls 3 [(0, .ref (q 31)), (1, .int p1)] := hl
  have J3 : ∀ (N : Nat) (x3_2 : Int32) (w3 : va_W) (H : Heap) (locs : List Loc) (ls : Array Slot), (x3_2.toInt - (-8)).toNat < N → HT q (TX q cI cJ cZ bb bs bp) w3 → Sm [31, 32] [(31, 1)] w w3 → (In (-8) 24 x3_2) → ((fI w 31 1).toInt ≤ 996 → 8 * (fI w3 31 1).toInt + (x3_2 : Int32).toInt = 8 * (fI w 31 1).toInt + 24 ∧ 0 ≤ (x3_2 : Int32).toInt + 8) → (∀ (n : Nat) (r : Int) (t : PS), It_X10_put n 3 p1.toInt x3_2.toInt (vw w3) r t → M_X10_put (vw w) p1.toInt r t) → va_P D vwCl w3 H → va_D A w3 → va_S A s.heap H locs → lv_has ls 3 [(0, .ref (q 31)), (1, .int p1), (2, .int x3_2)] → W p l e R s m args below meth c H locs 0 0 Q (F0 m 3 ls []) := by
    intro N
    induction N with
    | zero => intro x3_2 w3 H locs ls hmu; exact absurd hmu (Nat.not_lt_zero _)
    | succ N ih3 =>
      intro x3_2 w3 H locs ls hmu3 hW_w3 hM_w3 i_x3_2 hp_3 hmi_3 hP hD hS hl
      have J43 : ∀ (w43 : va_W) (H : Heap) (locs : List Loc) (ls : Array Slot), HT q (TX q cI cJ cZ bb bs bp) w43 → Sm [31, 32] [(31, 1)] w w43 → (In 0 24 x3_2) → (In 1 1000 (fI w43 31 1)) → ((fI w 31 1).toInt ≤ 996 → 8 * (fI w43 31 1).toInt + (x3_2 : Int32).toInt = 8 * (fI w 31 1).toInt + 32 ∧ 0 ≤ (x3_2 : Int32).toInt + 8) → (∀ (n : Nat) (r : Int) (t : PS), It_X10_put n 43 p1.toInt x3_2.toInt (vw w43) r t → M_X10_put (vw w) p1.toInt r t) → va_P D vwCl w43 H → va_D A w43 → va_S A s.heap H locs → lv_has ls 3 [(0, .ref (q 31)), (1, .int p1), (2, .int x3_2)] → W p l e R s m args below meth c H locs 0 0 Q (F0 m 43 ls []) := by
        intro w43 H locs ls hW_w43 hM_w43 i_x43_2 g43_31_1 hp_43 hmi_43 hP hD hS hl
        refine lv_iinc (v := (x3_2 + (-8))) (lv' := [(2, .int (x3_2 + (-8))), (0, .ref (q 31)), (1, .int p1)]) hx hb dX10_put_43 hl (k := 2) rfl (rfl) (by decide) rfl (fun ls hl => ?_)
        refine lv_goto (tgt := 3) hx hb dX10_put_46 (by decide) ?_
        exact ih3 (x3_2 + (-8)) w43 _ _ ls (mu_dec (n := 8) hmu3 i_x43_2 (by decide) (by decide)) hW_w43 hM_w43 (In_w ((In_dec (y := (-8)) (n := 8) i_x43_2 (by decide) (by decide)) : In (-8) 16 (x3_2 + (-8))) (by decide) : In (-8) 24 (x3_2 + (-8))) (fun h => put_st i_x43_2 (by decide) (by decide) (hp_43 h).1) (fun n r t hk => (hmi_43 (n + 1) r t (rl_X10_put_43 (n := n) (And.intro (tyX hW_w43) (And.intro i_x43_2 (cgK_2 hk (rfl : (p1 : Int32).toInt = _) (z_add (t_add i_x43_2 (In_lit (n := (-8)) (by decide) (by decide) : In (-8) (-8) (-8)) (by decide)) (rfl : (x3_2 : Int32).toInt = _) (show ((-8) : Int32).toInt = (-8) from by decide)))))))) hP hD hS (lv_sub hl [1, 2, 0] rfl)
      refine lv_iload_n hx hb dX10_put_3 rfl (lv_at hl 2 rfl) ?_
      refine lv_if_lt (tgt := 49) hx hb dX10_put_4 (by decide) (fun c_1 => ?_) (fun c_1 => ?_)
      · have lb_c_1 : (x3_2 : Int32).toInt < (0 : Int32).toInt := q_lt.mp c_1
        have lq_c_1 : (0 : Int32).toInt = 0 := by decide
        exact hret _ _ _ _ _ hP hD hS dX10_put_49 ⟨hW_w3, hM_w3, (fun h => by have q := hp_3 h; omega), (hmi_3 (0 + 1) _ _ (rl_X10_put_3 (n := 0) (And.intro (tyX hW_w3) (And.intro i_x3_2 (Or.inl (And.intro (z_lt c_1 (rfl : (x3_2 : Int32).toInt = _) (show (0 : Int32).toInt = 0 from by decide)) (And.intro rfl rfl)))))))⟩
      · have lb_c_1 : ¬ (x3_2 : Int32).toInt < (0 : Int32).toInt := fun h => c_1 (q_lt.mpr h)
        have lq_c_1 : (0 : Int32).toInt = 0 := by decide
        refine lv_aload_n hx hb dX10_put_7 rfl (lv_at hl 0 rfl) ?_
        refine gt_X10 hx hb hts hown hK hP 31 (hW_w3.o tX_31) 1 (by decide) wd_192 rfl (hW_w3.fi tX_31 rfl) dX10_put_8 ?_
        refine lv_sipush (v := 1000) hx hb dX10_put_11 (by decide) ?_
        refine lv_icmp_ge (tgt := 43) hx hb dX10_put_14 (by decide) (fun c_2 => ?_) (fun c_2 => ?_)
        · have lb_c_2 : (1000 : Int32).toInt ≤ ((fI w3 31 1) : Int32).toInt := q_le.mp c_2
          have lq_c_2 : (1000 : Int32).toInt = 1000 := by decide
          exact J43 w3 _ _ ls hW_w3 hM_w3 (R_nlt_l i_x3_2 (In_lit (n := 0) (by decide) (by decide) : In 0 0 0) c_1 (by decide) : In 0 24 x3_2) (In_w (R_le_r (In_lit (n := 1000) (by decide) (by decide) : In 1000 1000 1000) (hW_w3.fin tX_31 rfl : In 0 1000 (fI w3 31 1)) c_2 (by decide) : In 1000 1000 (fI w3 31 1)) (by decide) : In 1 1000 (fI w3 31 1)) (fun h => (by have q := hp_3 h; have g := (R_nlt_l i_x3_2 (In_lit (n := 0) (by decide) (by decide) : In 0 0 0) c_1 (by decide) : In 0 24 x3_2); unfold In at g; have i31_1 := (R_le_r (In_lit (n := 1000) (by decide) (by decide) : In 1000 1000 1000) (hW_w3.fin tX_31 rfl : In 0 1000 (fI w3 31 1)) c_2 (by decide) : In 1000 1000 (fI w3 31 1)); unfold In at i31_1; omega)) (fun n r t hk => (hmi_3 (n + 1) r t (rl_X10_put_3 (n := n) (And.intro (tyX hW_w3) (And.intro i_x3_2 (Or.inr (And.intro (z_nlt c_1 (rfl : (x3_2 : Int32).toInt = _) (show (0 : Int32).toInt = 0 from by decide)) (Or.inl (And.intro (z_le c_2 (show (1000 : Int32).toInt = 1000 from by decide) (hW_w3.vi tX_31 rfl)) (cgK_2 hk (rfl : (p1 : Int32).toInt = _) (rfl : (x3_2 : Int32).toInt = _))))))))))) hP hD hS (lv_sub hl [0, 1, 2] rfl)
        · have lb_c_2 : ¬ (1000 : Int32).toInt ≤ ((fI w3 31 1) : Int32).toInt := fun h => c_2 (q_le.mpr h)
          have lq_c_2 : (1000 : Int32).toInt = 1000 := by decide
          refine lv_aload_n hx hb dX10_put_17 rfl (lv_at hl 0 rfl) ?_
          refine gt_X10 hx hb hts hown hK hP 31 (hW_w3.o tX_31) 0 (by decide) wd_190 rfl (hW_w3.fr tX_31 rfl) dX10_put_18 ?_
          refine lv_aload_n hx hb dX10_put_21 rfl (lv_at hl 0 rfl) ?_
          refine gt_X10 hx hb hts hown hK hP 31 (hW_w3.o tX_31) 1 (by decide) wd_192 rfl (hW_w3.fi tX_31 rfl) dX10_put_22 ?_
          refine lv_iload_n hx hb dX10_put_25 rfl (lv_at hl 1 rfl) ?_
          refine lv_iload_n hx hb dX10_put_26 rfl (lv_at hl 2 rfl) ?_
          refine lv_iushr hx hb dX10_put_27 rfl ?_
          refine lv_topi (fun v_3 ev_3 => ?_)
          refine lv_sipush (v := 255) hx hb dX10_put_28 (by decide) ?_
          refine lv_iand hx hb dX10_put_31 ?_
          refine va_iast hx hb hK hP hD hS 32 0 (hW_w3.a tX_32) rfl (in_I (R_nle_r (In_lit (n := 1000) (by decide) (by decide) : In 1000 1000 1000) (hW_w3.fin tX_31 rfl : In 0 1000 (fI w3 31 1)) c_2 (by decide) : In 0 999 (fI w3 31 1)) (by decide)) dX10_put_32 (fun H locs hP hD hS => fr_w (hW_w3.uA tX_32 ((In_and (n := 255) (by decide) (by decide)) : In 0 255 (v_3 &&& 255))) hP hD (fun w_4 ew_4 hW_w_4 hP hD => ?_))
          have hv_w_4 := vw_uA hW_w3 tX_32 ew_4 (z_ix (hW_w3.vi tX_31 rfl)) (z_and (z_of ev_3 (z_usr (rfl : (p1 : Int32).toInt = _) (rfl : (x3_2 : Int32).toInt = _))) (show (255 : Int32).toInt = 255 from by decide))
          refine lv_aload_n hx hb dX10_put_33 rfl (lv_at hl 0 rfl) ?_
          refine lv_dup hx hb dX10_put_34 rfl ?_
          refine gt_X10 hx hb hts hown hK hP 31 (hW_w_4.o tX_31) 1 (by decide) wd_192 rfl (hW_w_4.fi tX_31 rfl) dX10_put_35 ?_
          refine tov (v := (fI w3 31 1)) (fI_cg (st_ne ew_4 (by decide))) ?_
          refine lv_iconst (v := 1) hx hb dX10_put_38 (by decide) ?_
          refine lv_iadd hx hb dX10_put_39 ?_
          refine pt_X10 hx hb hts hown hK hP hD hS 31 (hW_w_4.o tX_31) 1 (by decide) wd_192 rfl rfl (ty := .int) (v := .int ((fI w3 31 1) + 1)) (by decide +kernel) rfl rfl (hW_w_4.ll tX_31 (Nat.le_of_ble_eq_true rfl)) dX10_put_40 (fun H locs hP hD hS => fr_w (hW_w_4.sI tX_31 rfl (In_w ((In_add (R_nle_r (In_lit (n := 1000) (by decide) (by decide) : In 1000 1000 1000) (hW_w3.fin tX_31 rfl : In 0 1000 (fI w3 31 1)) c_2 (by decide) : In 0 999 (fI w3 31 1)) (In_lit (n := 1) (by decide) (by decide) : In 1 1 1) (by decide)) : In 1 1000 ((fI w3 31 1) + 1)) (by decide) : In 0 1000 ((fI w3 31 1) + 1))) hP hD (fun w_5 ew_5 hW_w_5 hP hD => ?_))
          have hv_w_5 := vw_sI (j := 1) hW_w_4 tX_31 rfl ew_5 (z_add (t_add (R_nle_r (In_lit (n := 1000) (by decide) (by decide) : In 1000 1000 1000) (hW_w3.fin tX_31 rfl : In 0 1000 (fI w3 31 1)) c_2 (by decide) : In 0 999 (fI w3 31 1)) (In_lit (n := 1) (by decide) (by decide) : In 1 1 1) (by decide)) (hW_w3.vi tX_31 rfl) (show (1 : Int32).toInt = 1 from by decide))
          exact J43 w_5 _ _ ls hW_w_5 ((hM_w3.sa ew_4 (by decide)).sf (hW_w_4.lt tX_31) ew_5 (by decide)) (R_nlt_l i_x3_2 (In_lit (n := 0) (by decide) (by decide) : In 0 0 0) c_1 (by decide) : In 0 24 x3_2) (In_of (fI_eq (hW_w_4.lt tX_31) ew_5 (hW_w_4.ll tX_31 (Nat.le_of_ble_eq_true rfl))) ((In_add (R_nle_r (In_lit (n := 1000) (by decide) (by decide) : In 1000 1000 1000) (hW_w3.fin tX_31 rfl : In 0 1000 (fI w3 31 1)) c_2 (by decide) : In 0 999 (fI w3 31 1)) (In_lit (n := 1) (by decide) (by decide) : In 1 1 1) (by decide)) : In 1 1000 ((fI w3 31 1) + 1))) (fun h => (by have q := hp_3 h; have g := (R_nlt_l i_x3_2 (In_lit (n := 0) (by decide) (by decide) : In 0 0 0) c_1 (by decide) : In 0 24 x3_2); unfold In at g; have e31_1 : (fI w_5 31 1).toInt = (((fI w3 31 1) + 1) : Int32).toInt := congrArg Int32.toInt (fI_eq (hW_w_4.lt tX_31) ew_5 (hW_w_4.ll tX_31 (Nat.le_of_ble_eq_true rfl))); have i31_1 := ((In_add (R_nle_r (In_lit (n := 1000) (by decide) (by decide) : In 1000 1000 1000) (hW_w3.fin tX_31 rfl : In 0 1000 (fI w3 31 1)) c_2 (by decide) : In 0 999 (fI w3 31 1)) (In_lit (n := 1) (by decide) (by decide) : In 1 1 1) (by decide)) : In 1 1000 ((fI w3 31 1) + 1)); unfold In at i31_1; have t18 := t_add (R_nle_r (In_lit (n := 1000) (by decide) (by decide) : In 1000 1000 1000) (hW_w3.fin tX_31 rfl : In 0 1000 (fI w3 31 1)) c_2 (by decide) : In 0 999 (fI w3 31 1)) (In_lit (n := 1) (by decide) (by decide) : In 1 1 1) (by decide); have z1 : (1 : Int32).toInt = 1 := (by decide); omega)) (fun n r t hk => (hmi_3 (n + 1) r t (rl_X10_put_3 (n := n) (And.intro (tyX hW_w3) (And.intro i_x3_2 (Or.inr (And.intro (z_nlt c_1 (rfl : (x3_2 : Int32).toInt = _) (show (0 : Int32).toInt = 0 from by decide)) (Or.inr (And.intro (z_nle c_2 (show (1000 : Int32).toInt = 1000 from by decide) (hW_w3.vi tX_31 rfl)) (Exists.intro (vw w_4) (And.intro hv_w_4 (Exists.intro (vw w_5) (And.intro hv_w_5 (cgK_2 hk (rfl : (p1 : Int32).toInt = _) (rfl : (x3_2 : Int32).toInt = _))))))))))))))) hP hD hS (lv_sub hl [0, 1, 2] rfl)
  refine lv_bipush (v := 24) hx hb dX10_put_0 (by decide) ?_
  refine lv_istore_n (lv' := [(2, .int 24), (0, .ref (q 31)), (1, .int p1)]) hx hb dX10_put_2 rfl hl (by decide) rfl (fun ls hl => ?_)
  exact J3 _ 24 w _ _ ls (Nat.lt_succ_self _) hW_w Sm.rf (In_lit (n := 24) (by decide) (by decide) : In (-8) 24 24) (fun h => ⟨(by have i31_1 := (hW_w.fin tX_31 rfl : In 0 1000 (fI w 31 1)); unfold In at i31_1; have z24 : (24 : Int32).toInt = 24 := (by decide); omega), (by have z24 : (24 : Int32).toInt = 24 := (by decide); omega)⟩) (fun n r t hk => (mk_X10_put (n := n) (And.intro (tyX hW_w) (cgK_2 hk (rfl : (p1 : Int32).toInt = _) (show (24 : Int32).toInt = 24 from by decide))))) hP hD hS (lv_sub hl [1, 2, 0] rfl)
set_option maxRecDepth 100000 in
set_option maxHeartbeats 8000000 in
theorem e_X11_feed (l : Launch) (D : va_G) (cI cJ cZ : ClassId) (q : Nat → Nat) (bp : Nat) (w : va_W) (hW_w : HT q (TX q cI cJ cZ 1 16 bp) w) (p1 : Int32) (p2 : Int32) (p3 : Int32) (p4 : Int32) (p5 : Int32) : Con_i l yX11_feed cX11_feed 6 (some .int) ({ frames := 1, cells := 0, slots := 0, locals := 22 }) D cI cJ cZ eW [.ref (q 0), .int p1, .int p2, .int p3, .int p4, .int p5] w (fun (r : Int32) (w1 : va_W) => HT q (TX q cI cJ cZ 1 16 bp) w1 ∧ Sm [31, 32] [(31, 1)] w w1 ∧ In (-1) 1000 r ∧ (((fI w 31 1).toInt + 20 ≤ 1000 → r.toInt = (fI w 31 1).toInt + 20 ∧ (fI w1 31 1).toInt = (fI w 31 1).toInt + 20) ∧ (¬ (fI w 31 1).toInt + 20 ≤ 1000 → r = -1 ∧ fI w1 31 1 = fI w 31 1)) ∧ M_X11_feed (vw w) p1.toInt p2.toInt p3.toInt p4.toInt p5.toInt r.toInt (vw w1)) := by
  refine eQ_i rfl (by decide) (Nat.le_of_ble_eq_true rfl) ⟨rfl, rfl⟩ ?_
  intro p e R s m args below meth c A Q hx hb hml hown hts hK hE hA hR hret hP hD hS ls hl
  have hown : s.vm.findClass RX11 = some m.cls := hown
  have hl : lv_has ls 6 [(0, .ref (q 0)), (1, .int p1), (2, .int p2), (3, .int p3), (4, .int p4), (5, .int p5)] := hl
  refine lv_aload_n hx hb dX11_feed_0 rfl (lv_at hl 0 rfl) ?_
  refine gt_X11 hx hb hts hown hK hP 0 (hW_w.o tX_0) 2 (by decide) wd_675 rfl (hW_w.fr tX_0 rfl) dX11_feed_1 ?_
  refine gt_X10 hx hb hts hown hK hP 31 (hW_w.o tX_31) 1 (by decide) wd_191 rfl (hW_w.fi tX_31 rfl) dX11_feed_4 ?_
  refine lv_bipush (v := 20) hx hb dX11_feed_7 (by decide) ?_
  refine lv_iadd hx hb dX11_feed_9 ?_
  refine lv_sipush (v := 1000) hx hb dX11_feed_10 (by decide) ?_
  refine lv_icmp_le (tgt := 18) hx hb dX11_feed_13 (by decide) (fun c_1 => ?_) (fun c_1 => ?_)
  · have lb_c_1 : (((fI w 31 1) + 20) : Int32).toInt ≤ (1000 : Int32).toInt := q_le.mp c_1
    have lq_c_1 : (1000 : Int32).toInt = 1000 := by decide
    refine lv_aload_n hx hb dX11_feed_18 rfl (lv_at hl 0 rfl) ?_
    refine gt_X11 hx hb hts hown hK hP 0 (hW_w.o tX_0) 2 (by decide) wd_675 rfl (hW_w.fr tX_0 rfl) dX11_feed_19 ?_
    refine lv_iload_n hx hb dX11_feed_22 rfl (lv_at hl 1 rfl) ?_
    refine kW_v ⟨rfl, rfl⟩ hP hD hS hA (rW_V (As := [.int p1]) (rest := []) hx hb hml hown hts hK hE hP hD (e_X10_put l D cI cJ cZ q 1 16 bp w hW_w p1 _) ⟨⟨rfl, rfl⟩, rfl, rfl⟩ sv_X11_106 ⟨(Nat.le_trans (by decide) hR.1), (Nat.le_trans (by decide) hR.2)⟩ 31 10 (hW_w.o tX_31) rfl rfl rfl hl.1 rfl (Nat.le_of_ble_eq_true rfl) dX11_feed_23) (fun w_2 H locs hw_w_2 hP hD hS => ?_)
    obtain ⟨hW_w_2, hs_w_2, h_4, hm_5⟩ := hw_w_2
    have n_h_4 : ((fI w 31 1) : Int32).toInt ≤ 996 → (fI w_2 31 1).toInt = ((fI w 31 1) : Int32).toInt + 4 := (by intro hh; have q := h_4 (by omega); omega)
    refine lv_aload_n hx hb dX11_feed_26 rfl (lv_at hl 0 rfl) ?_
    refine gt_X11 hx hb hts hown hK hP 0 (hW_w_2.o tX_0) 2 (by decide) wd_675 rfl (hW_w_2.fr tX_0 rfl) dX11_feed_27 ?_
    refine lv_iload_n hx hb dX11_feed_30 rfl (lv_at hl 2 rfl) ?_
    refine kW_v ⟨rfl, rfl⟩ hP hD hS hA (rW_V (As := [.int p2]) (rest := []) hx hb hml hown hts hK hE hP hD (e_X10_put l D cI cJ cZ q 1 16 bp w_2 hW_w_2 p2 _) ⟨⟨rfl, rfl⟩, rfl, rfl⟩ sv_X11_106 ⟨(Nat.le_trans (by decide) hR.1), (Nat.le_trans (by decide) hR.2)⟩ 31 10 (hW_w_2.o tX_31) rfl rfl rfl hl.1 rfl (Nat.le_of_ble_eq_true rfl) dX11_feed_31) (fun w_6 H locs hw_w_6 hP hD hS => ?_)
    obtain ⟨hW_w_6, hs_w_6, h_8, hm_9⟩ := hw_w_6
    have n_h_8 : ((fI w_2 31 1) : Int32).toInt ≤ 996 → (fI w_6 31 1).toInt = ((fI w_2 31 1) : Int32).toInt + 4 := (by intro hh; have q := h_8 (by omega); omega)
    refine lv_aload_n hx hb dX11_feed_34 rfl (lv_at hl 0 rfl) ?_
    refine gt_X11 hx hb hts hown hK hP 0 (hW_w_6.o tX_0) 2 (by decide) wd_675 rfl (hW_w_6.fr tX_0 rfl) dX11_feed_35 ?_
    refine lv_iload_n hx hb dX11_feed_38 rfl (lv_at hl 3 rfl) ?_
    refine kW_v ⟨rfl, rfl⟩ hP hD hS hA (rW_V (As := [.int p3]) (rest := []) hx hb hml hown hts hK hE hP hD (e_X10_put l D cI cJ cZ q 1 16 bp w_6 hW_w_6 p3 _) ⟨⟨rfl, rfl⟩, rfl, rfl⟩ sv_X11_106 ⟨(Nat.le_trans (by decide) hR.1), (Nat.le_trans (by decide) hR.2)⟩ 31 10 (hW_w_6.o tX_31) rfl rfl rfl hl.1 rfl (Nat.le_of_ble_eq_true rfl) dX11_feed_39) (fun w_10 H locs hw_w_10 hP hD hS => ?_)
    obtain ⟨hW_w_10, hs_w_10, h_12, hm_13⟩ := hw_w_10
    have n_h_12 : ((fI w_6 31 1) : Int32).toInt ≤ 996 → (fI w_10 31 1).toInt = ((fI w_6 31 1) : Int32).toInt + 4 := (by intro hh; have q := h_12 (by omega); omega)
    refine lv_aload_n hx hb dX11_feed_42 rfl (lv_at hl 0 rfl) ?_
    refine gt_X11 hx hb hts hown hK hP 0 (hW_w_10.o tX_0) 2 (by decide) wd_675 rfl (hW_w_10.fr tX_0 rfl) dX11_feed_43 ?_
    refine lv_iload hx hb dX11_feed_46 (lv_at hl 4 rfl) ?_
    refine kW_v ⟨rfl, rfl⟩ hP hD hS hA (rW_V (As := [.int p4]) (rest := []) hx hb hml hown hts hK hE hP hD (e_X10_put l D cI cJ cZ q 1 16 bp w_10 hW_w_10 p4 _) ⟨⟨rfl, rfl⟩, rfl, rfl⟩ sv_X11_106 ⟨(Nat.le_trans (by decide) hR.1), (Nat.le_trans (by decide) hR.2)⟩ 31 10 (hW_w_10.o tX_31) rfl rfl rfl hl.1 rfl (Nat.le_of_ble_eq_true rfl) dX11_feed_48) (fun w_14 H locs hw_w_14 hP hD hS => ?_)
    obtain ⟨hW_w_14, hs_w_14, h_16, hm_17⟩ := hw_w_14
    have n_h_16 : ((fI w_10 31 1) : Int32).toInt ≤ 996 → (fI w_14 31 1).toInt = ((fI w_10 31 1) : Int32).toInt + 4 := (by intro hh; have q := h_16 (by omega); omega)
    refine lv_aload_n hx hb dX11_feed_51 rfl (lv_at hl 0 rfl) ?_
    refine gt_X11 hx hb hts hown hK hP 0 (hW_w_14.o tX_0) 2 (by decide) wd_675 rfl (hW_w_14.fr tX_0 rfl) dX11_feed_52 ?_
    refine lv_iload hx hb dX11_feed_55 (lv_at hl 5 rfl) ?_
    refine kW_v ⟨rfl, rfl⟩ hP hD hS hA (rW_V (As := [.int p5]) (rest := []) hx hb hml hown hts hK hE hP hD (e_X10_put l D cI cJ cZ q 1 16 bp w_14 hW_w_14 p5 _) ⟨⟨rfl, rfl⟩, rfl, rfl⟩ sv_X11_106 ⟨(Nat.le_trans (by decide) hR.1), (Nat.le_trans (by decide) hR.2)⟩ 31 10 (hW_w_14.o tX_31) rfl rfl rfl hl.1 rfl (Nat.le_of_ble_eq_true rfl) dX11_feed_57) (fun w_18 H locs hw_w_18 hP hD hS => ?_)
    obtain ⟨hW_w_18, hs_w_18, h_20, hm_21⟩ := hw_w_18
    have n_h_20 : ((fI w_14 31 1) : Int32).toInt ≤ 996 → (fI w_18 31 1).toInt = ((fI w_14 31 1) : Int32).toInt + 4 := (by intro hh; have q := h_20 (by omega); omega)
    refine lv_aload_n hx hb dX11_feed_60 rfl (lv_at hl 0 rfl) ?_
    refine gt_X11 hx hb hts hown hK hP 0 (hW_w_18.o tX_0) 2 (by decide) wd_675 rfl (hW_w_18.fr tX_0 rfl) dX11_feed_61 ?_
    refine gt_X10 hx hb hts hown hK hP 31 (hW_w_18.o tX_31) 1 (by decide) wd_191 rfl (hW_w_18.fi tX_31 rfl) dX11_feed_64 ?_
    exact hret _ _ _ _ _ _ hP hD hS dX11_feed_67 ⟨hW_w_18, (((((Sm.rf.tr hs_w_2 (by decide)).tr hs_w_6 (by decide)).tr hs_w_10 (by decide)).tr hs_w_14 (by decide)).tr hs_w_18 (by decide)), (In_w (hW_w_18.fin tX_31 rfl : In 0 1000 (fI w_18 31 1)) (by decide) : In (-1) 1000 (fI w_18 31 1)), ⟨(fun h => ⟨(by omega), (by have i31_1 := (hW_w_18.fin tX_31 rfl : In 0 1000 (fI w_18 31 1)); unfold In at i31_1; omega)⟩), (fun h => absurd (by have t := t_add (hW_w.fin tX_31 rfl : In 0 1000 (fI w 31 1)) (In_lit (n := 20) (by decide) (by decide) : In 20 20 20) (by decide); have z : (20 : Int32).toInt = 20 := (by decide); have zm : (1000 : Int32).toInt = 1000 := (by decide); omega) h)⟩, (mk_X11_feed (And.intro (tyX hW_w) (Or.inl (And.intro (z_le c_1 (z_add (t_add (hW_w.fin tX_31 rfl : In 0 1000 (fI w 31 1)) (In_lit (n := 20) (by decide) (by decide) : In 20 20 20) (by decide)) (hW_w.vi tX_31 rfl) (show (20 : Int32).toInt = 20 from by decide)) (show (1000 : Int32).toInt = 1000 from by decide)) (Exists.intro (vw w_2) (And.intro (cgM_1 hm_5 (rfl : (p1 : Int32).toInt = _)) (And.intro (hs_w_2.Fr hW_w hW_w_2 intsX_ok intsX_ok) (And.intro (tyX hW_w_2) (Exists.intro (vw w_6) (And.intro (cgM_1 hm_9 (rfl : (p2 : Int32).toInt = _)) (And.intro (hs_w_6.Fr hW_w_2 hW_w_6 intsX_ok intsX_ok) (And.intro (tyX hW_w_6) (Exists.intro (vw w_10) (And.intro (cgM_1 hm_13 (rfl : (p3 : Int32).toInt = _)) (And.intro (hs_w_10.Fr hW_w_6 hW_w_10 intsX_ok intsX_ok) (And.intro (tyX hW_w_10) (Exists.intro (vw w_14) (And.intro (cgM_1 hm_17 (rfl : (p4 : Int32).toInt = _)) (And.intro (hs_w_14.Fr hW_w_10 hW_w_14 intsX_ok intsX_ok) (And.intro (tyX hW_w_14) (Exists.intro (vw w_18) (And.intro (cgM_1 hm_21 (rfl : (p5 : Int32).toInt = _)) (And.intro (hs_w_18.Fr hW_w_14 hW_w_18 intsX_ok intsX_ok) (And.intro (tyX hW_w_18) (And.intro (hW_w_18.vi tX_31 rfl) rfl)))))))))))))))))))))))))⟩
  · have lb_c_1 : ¬ (((fI w 31 1) + 20) : Int32).toInt ≤ (1000 : Int32).toInt := fun h => c_1 (q_le.mpr h)
    have lq_c_1 : (1000 : Int32).toInt = 1000 := by decide
    refine lv_iconst (v := (-1)) hx hb dX11_feed_16 (by decide) ?_
    exact hret _ _ _ _ _ _ hP hD hS dX11_feed_17 ⟨hW_w, Sm.rf, (In_lit (n := (-1)) (by decide) (by decide) : In (-1) 1000 (-1)), ⟨(fun h => absurd h (by have t := t_add (hW_w.fin tX_31 rfl : In 0 1000 (fI w 31 1)) (In_lit (n := 20) (by decide) (by decide) : In 20 20 20) (by decide); have z : (20 : Int32).toInt = 20 := (by decide); have zm : (1000 : Int32).toInt = 1000 := (by decide); omega)), (fun _ => ⟨rfl, rfl⟩)⟩, (mk_X11_feed (And.intro (tyX hW_w) (Or.inr (And.intro (z_nle c_1 (z_add (t_add (hW_w.fin tX_31 rfl : In 0 1000 (fI w 31 1)) (In_lit (n := 20) (by decide) (by decide) : In 20 20 20) (by decide)) (hW_w.vi tX_31 rfl) (show (20 : Int32).toInt = 20 from by decide)) (show (1000 : Int32).toInt = 1000 from by decide)) (And.intro (show ((-1) : Int32).toInt = (-1) from by decide) rfl)))))⟩
set_option maxRecDepth 100000 in
set_option maxHeartbeats 8000000 in
theorem e_X11_end (l : Launch) (D : va_G) (cI cJ cZ : ClassId) (q : Nat → Nat) (bp : Nat) (w : va_W) (hW_w : HT q (TX q cI cJ cZ 1 16 bp) w) (p1 : Int32) : Con_i l yX11_end cX11_end 2 (some .boolean) ({ frames := 0, cells := 0, slots := 0, locals := 0 }) D cI cJ cZ eW [.ref (q 0), .int p1] w (fun (r : Int32) (w1 : va_W) => HT q (TX q cI cJ cZ 1 16 bp) w1 ∧ Sm [31] [(31, 1)] w w1 ∧ In 0 1 r ∧ (¬ r = 0 → In 0 1000 p1) ∧ ((0 ≤ p1.toInt ∧ p1.toInt ≤ (fI w 31 1).toInt → r = 1 ∧ fI w1 31 1 = p1) ∧ (¬ (0 ≤ p1.toInt ∧ p1.toInt ≤ (fI w 31 1).toInt) → r = 0 ∧ fI w1 31 1 = fI w 31 1)) ∧ M_X11_end (vw w) p1.toInt r.toInt (vw w1)) := by
  refine eQ_z rfl (by decide) (Nat.le_of_ble_eq_true rfl) ⟨rfl, rfl⟩ ?_
  intro p e R s m args below meth c A Q hx hb hml hown hts hK hE hA hR hret hP hD hS ls hl
  have hown : s.vm.findClass RX11 = some m.cls := hown
  have hl : lv_has ls 2 [(0, .ref (q 0)), (1, .int p1)] := hl
  refine lv_iload_n hx hb dX11_end_0 rfl (lv_at hl 1 rfl) ?_
  refine lv_if_lt (tgt := 15) hx hb dX11_end_1 (by decide) (fun c_1 => ?_) (fun c_1 => ?_)
  · have lb_c_1 : (p1 : Int32).toInt < (0 : Int32).toInt := q_lt.mp c_1
    have lq_c_1 : (0 : Int32).toInt = 0 := by decide
    refine lv_iconst (v := 0) hx hb dX11_end_15 (by decide) ?_
    exact hret _ _ _ _ _ _ hP hD hS dX11_end_16 (In_lit (n := 0) (by decide) (by decide) : In 0 1 0) ⟨hW_w, Sm.rf, (In_lit (n := 0) (by decide) (by decide) : In 0 1 0), (fun h => absurd rfl h), ⟨(fun h => absurd h (by have z : (0 : Int32).toInt = 0 := (by decide); omega)), (fun _ => ⟨rfl, rfl⟩)⟩, (mk_X11_end (And.intro (tyX hW_w) (Or.inl (And.intro (z_lt c_1 (rfl : (p1 : Int32).toInt = _) (show (0 : Int32).toInt = 0 from by decide)) (And.intro (show (0 : Int32).toInt = 0 from by decide) rfl)))))⟩
  · have lb_c_1 : ¬ (p1 : Int32).toInt < (0 : Int32).toInt := fun h => c_1 (q_lt.mpr h)
    have lq_c_1 : (0 : Int32).toInt = 0 := by decide
    refine lv_iload_n hx hb dX11_end_4 rfl (lv_at hl 1 rfl) ?_
    refine lv_aload_n hx hb dX11_end_5 rfl (lv_at hl 0 rfl) ?_
    refine gt_X11 hx hb hts hown hK hP 0 (hW_w.o tX_0) 2 (by decide) wd_675 rfl (hW_w.fr tX_0 rfl) dX11_end_6 ?_
    refine gt_X10 hx hb hts hown hK hP 31 (hW_w.o tX_31) 1 (by decide) wd_191 rfl (hW_w.fi tX_31 rfl) dX11_end_9 ?_
    refine lv_icmp_le (tgt := 17) hx hb dX11_end_12 (by decide) (fun c_2 => ?_) (fun c_2 => ?_)
    · have lb_c_2 : (p1 : Int32).toInt ≤ ((fI w 31 1) : Int32).toInt := q_le.mp c_2
      refine lv_aload_n hx hb dX11_end_17 rfl (lv_at hl 0 rfl) ?_
      refine gt_X11 hx hb hts hown hK hP 0 (hW_w.o tX_0) 2 (by decide) wd_675 rfl (hW_w.fr tX_0 rfl) dX11_end_18 ?_
      refine lv_iload_n hx hb dX11_end_21 rfl (lv_at hl 1 rfl) ?_
      refine pt_X10 hx hb hts hown hK hP hD hS 31 (hW_w.o tX_31) 1 (by decide) wd_191 rfl rfl (ty := .int) (v := .int p1) (by decide +kernel) rfl rfl (hW_w.ll tX_31 (Nat.le_of_ble_eq_true rfl)) dX11_end_22 (fun H locs hP hD hS => fr_w (hW_w.sI tX_31 rfl (R_le_l (R_nlt_l (In_any p1) (In_lit (n := 0) (by decide) (by decide) : In 0 0 0) c_1 (by decide) : In 0 2147483647 p1) (hW_w.fin tX_31 rfl : In 0 1000 (fI w 31 1)) c_2 (by decide) : In 0 1000 p1)) hP hD (fun w_3 ew_3 hW_w_3 hP hD => ?_))
      have hv_w_3 := vw_sI (j := 1) hW_w tX_31 rfl ew_3 (rfl : (p1 : Int32).toInt = _)
      refine lv_iconst (v := 1) hx hb dX11_end_25 (by decide) ?_
      exact hret _ _ _ _ _ _ hP hD hS dX11_end_26 (In_lit (n := 1) (by decide) (by decide) : In 0 1 1) ⟨hW_w_3, (Sm.rf.sf (hW_w.lt tX_31) ew_3 (by decide)), (In_lit (n := 1) (by decide) (by decide) : In 0 1 1), (fun h => (R_le_l (R_nlt_l (In_any p1) (In_lit (n := 0) (by decide) (by decide) : In 0 0 0) c_1 (by decide) : In 0 2147483647 p1) (hW_w.fin tX_31 rfl : In 0 1000 (fI w 31 1)) c_2 (by decide) : In 0 1000 p1)), ⟨(fun _ => ⟨rfl, (fI_eq (hW_w.lt tX_31) ew_3 (hW_w.ll tX_31 (Nat.le_of_ble_eq_true rfl)))⟩), (fun h => absurd (by have z : (0 : Int32).toInt = 0 := (by decide); omega) h)⟩, (mk_X11_end (And.intro (tyX hW_w) (Or.inr (And.intro (z_nlt c_1 (rfl : (p1 : Int32).toInt = _) (show (0 : Int32).toInt = 0 from by decide)) (Or.inl (And.intro (z_le c_2 (rfl : (p1 : Int32).toInt = _) (hW_w.vi tX_31 rfl)) (Exists.intro (vw w_3) (And.intro hv_w_3 (And.intro (show (1 : Int32).toInt = 1 from by decide) rfl)))))))))⟩
    · have lb_c_2 : ¬ (p1 : Int32).toInt ≤ ((fI w 31 1) : Int32).toInt := fun h => c_2 (q_le.mpr h)
      refine lv_iconst (v := 0) hx hb dX11_end_15 (by decide) ?_
      exact hret _ _ _ _ _ _ hP hD hS dX11_end_16 (In_lit (n := 0) (by decide) (by decide) : In 0 1 0) ⟨hW_w, Sm.rf, (In_lit (n := 0) (by decide) (by decide) : In 0 1 0), (fun h => absurd rfl h), ⟨(fun h => absurd h (by have z : (0 : Int32).toInt = 0 := (by decide); omega)), (fun _ => ⟨rfl, rfl⟩)⟩, (mk_X11_end (And.intro (tyX hW_w) (Or.inr (And.intro (z_nlt c_1 (rfl : (p1 : Int32).toInt = _) (show (0 : Int32).toInt = 0 from by decide)) (Or.inr (And.intro (z_nle c_2 (rfl : (p1 : Int32).toInt = _) (hW_w.vi tX_31 rfl)) (And.intro (show (0 : Int32).toInt = 0 from by decide) rfl)))))))⟩
set_option maxRecDepth 100000 in
set_option maxHeartbeats 8000000 in
theorem e_X5_bounded (l : Launch) (D : va_G) (cI cJ cZ : ClassId) (q : Nat → Nat) (bb bs bp : Nat) (w : va_W) (hW_w : HT q (TX q cI cJ cZ bb bs bp) w) (p0 : Int64) : Con_i l yX5_bounded cX5_bounded 2 (some .int) ({ frames := 1, cells := 0, slots := 0, locals := 23 }) D cI cJ cZ eW [.long p0] w (fun (r : Int32) (w1 : va_W) => HT q (TX q cI cJ cZ bb bs bp) w1 ∧ Sm [] [] w w1 ∧ M_X5_bounded (vw w) p0.toInt r.toInt (vw w1)) := by
  refine eQ_i rfl (by decide) (Nat.le_of_ble_eq_true rfl) ⟨rfl, rfl⟩ ?_
  intro p e R s m args below meth c A Q hx hb hml hown hts hK hE hA hR hret hP hD hS ls hl
  have hown : s.vm.findClass RX5 = some m.cls := hown
  have hl : lv_has ls 2 [(0, .long p0)] := hl
  refine lv_ldc2 hx hb hown (hts _ wd_877) dX5_bounded_0 ?_
  refine lv_ldc2 hx hb hown (hts _ wd_878) dX5_bounded_3 ?_
  refine lv_lload_n hx hb dX5_bounded_6 rfl (lv_at hl 0 rfl) ?_
  refine va_mmin_long hx hb (by rw [hml]; exact hl.1.symm) hown (hts _ wd_879) (hts _ wd_880) (hts _ wd_18) (hts _ wd_881) (Nat.le_trans (by decide) hR.1) (Nat.le_trans (Nat.le_of_ble_eq_true rfl) hR.2) (Nat.zero_le _) (Nat.zero_le _) dX5_bounded_7 ?_
  refine lv_topl (fun v_1 ev_1 => ?_)
  refine va_mmax_long hx hb (by rw [hml]; exact hl.1.symm) hown (hts _ wd_882) (hts _ wd_883) (hts _ wd_18) (hts _ wd_884) (Nat.le_trans (by decide) hR.1) (Nat.le_trans (Nat.le_of_ble_eq_true rfl) hR.2) (Nat.zero_le _) (Nat.zero_le _) dX5_bounded_10 ?_
  refine lv_topl (fun v_2 ev_2 => ?_)
  refine lv_l2i hx hb dX5_bounded_13 rfl ?_
  refine lv_topi (fun v_3 ev_3 => ?_)
  exact hret _ _ _ _ _ _ hP hD hS dX5_bounded_14 ⟨hW_w, Sm.rf, (mk_X5_bounded (And.intro (tyX hW_w) (And.intro (z_of ev_3 (z_l2i (z_ofl ev_2 (z_lmax (show ((-1000000) : Int64).toInt = (-1000000) from by decide) (z_ofl ev_1 (z_lmin (show (1000000 : Int64).toInt = 1000000 from by decide) (rfl : (p0 : Int64).toInt = _))))))) rfl)))⟩
set_option maxRecDepth 100000 in
set_option maxHeartbeats 8000000 in
theorem e_X5_joined (l : Launch) (D : va_G) (cI cJ cZ : ClassId) (q : Nat → Nat) (bb bs bp : Nat) (w : va_W) (hW_w : HT q (TX q cI cJ cZ bb bs bp) w) (p0 : Int32) (p1 : Int32) (p2 : Int32) (i_p0 : In 8 15 p0) : Con_i l yX5_joined cX5_joined 3 (some .int) ({ frames := 2, cells := 0, slots := 0, locals := 44 }) D cI cJ cZ eW [.int p0, .int p1, .int p2] w (fun (r : Int32) (w1 : va_W) => HT q (TX q cI cJ cZ bb bs bp) w1 ∧ Sm [] [] w w1 ∧ M_X5_joined (vw w) p0.toInt p1.toInt p2.toInt r.toInt (vw w1)) := by
  refine eQ_i rfl (by decide) (Nat.le_of_ble_eq_true rfl) ⟨rfl, rfl⟩ ?_
  intro p e R s m args below meth c A Q hx hb hml hown hts hK hE hA hR hret hP hD hS ls hl
  have hown : s.vm.findClass RX5 = some m.cls := hown
  have hl : lv_has ls 3 [(0, .int p0), (1, .int p1), (2, .int p2)] := hl
  refine lv_iload_n hx hb dX5_joined_0 rfl (lv_at hl 0 rfl) ?_
  by_cases c_1 : p0 = 8
  · have c_1t : (p0 : Int32).toInt = 8 := by rw [c_1]; rfl
    refine lv_tableIn (tgt := 44) hx hb dX5_joined_1 (by rw [c_1t]; decide) (by rw [c_1t]; decide) (off := 43) (by rw [c_1t]; rfl) (by decide) ?_
    refine lv_iload_n hx hb dX5_joined_44 rfl (lv_at hl 1 rfl) ?_
    refine lv_iload_n hx hb dX5_joined_45 rfl (lv_at hl 2 rfl) ?_
    refine lv_iand hx hb dX5_joined_46 ?_
    refine lv_topi (fun v_2 ev_2 => ?_)
    exact hret _ _ _ _ _ _ hP hD hS dX5_joined_47 ⟨hW_w, Sm.rf, (mk_X5_joined (And.intro (tyX hW_w) (And.intro i_p0 (Or.inl (And.intro (z_eq c_1 (rfl : (p0 : Int32).toInt = _) (show (8 : Int32).toInt = 8 from by decide)) (And.intro (z_of ev_2 (z_and (rfl : (p1 : Int32).toInt = _) (rfl : (p2 : Int32).toInt = _))) rfl))))))⟩
  by_cases c_3 : p0 = 9
  · have c_3t : (p0 : Int32).toInt = 9 := by rw [c_3]; rfl
    refine lv_tableIn (tgt := 48) hx hb dX5_joined_1 (by rw [c_3t]; decide) (by rw [c_3t]; decide) (off := 47) (by rw [c_3t]; rfl) (by decide) ?_
    refine lv_iload_n hx hb dX5_joined_48 rfl (lv_at hl 1 rfl) ?_
    refine lv_iload_n hx hb dX5_joined_49 rfl (lv_at hl 2 rfl) ?_
    refine lv_ior hx hb dX5_joined_50 ?_
    refine lv_topi (fun v_4 ev_4 => ?_)
    exact hret _ _ _ _ _ _ hP hD hS dX5_joined_51 ⟨hW_w, Sm.rf, (mk_X5_joined (And.intro (tyX hW_w) (And.intro i_p0 (Or.inr (And.intro (z_neq c_1 (rfl : (p0 : Int32).toInt = _) (show (8 : Int32).toInt = 8 from by decide)) (Or.inl (And.intro (z_eq c_3 (rfl : (p0 : Int32).toInt = _) (show (9 : Int32).toInt = 9 from by decide)) (And.intro (z_of ev_4 (z_or (rfl : (p1 : Int32).toInt = _) (rfl : (p2 : Int32).toInt = _))) rfl))))))))⟩
  by_cases c_5 : p0 = 10
  · have c_5t : (p0 : Int32).toInt = 10 := by rw [c_5]; rfl
    refine lv_tableIn (tgt := 52) hx hb dX5_joined_1 (by rw [c_5t]; decide) (by rw [c_5t]; decide) (off := 51) (by rw [c_5t]; rfl) (by decide) ?_
    refine lv_iload_n hx hb dX5_joined_52 rfl (lv_at hl 1 rfl) ?_
    refine lv_iload_n hx hb dX5_joined_53 rfl (lv_at hl 2 rfl) ?_
    refine lv_icmp_ge (tgt := 61) hx hb dX5_joined_54 (by decide) (fun c_6 => ?_) (fun c_6 => ?_)
    · refine lv_iconst (v := 0) hx hb dX5_joined_61 (by decide) ?_
      exact hret _ _ _ _ _ _ hP hD hS dX5_joined_62 ⟨hW_w, Sm.rf, (mk_X5_joined (And.intro (tyX hW_w) (And.intro i_p0 (Or.inr (And.intro (z_neq c_1 (rfl : (p0 : Int32).toInt = _) (show (8 : Int32).toInt = 8 from by decide)) (Or.inr (And.intro (z_neq c_3 (rfl : (p0 : Int32).toInt = _) (show (9 : Int32).toInt = 9 from by decide)) (Or.inl (And.intro (z_eq c_5 (rfl : (p0 : Int32).toInt = _) (show (10 : Int32).toInt = 10 from by decide)) (Or.inl (And.intro (z_le c_6 (rfl : (p2 : Int32).toInt = _) (rfl : (p1 : Int32).toInt = _)) (And.intro (show (0 : Int32).toInt = 0 from by decide) rfl))))))))))))⟩
    · refine lv_iconst (v := 1) hx hb dX5_joined_57 (by decide) ?_
      refine lv_goto (tgt := 62) hx hb dX5_joined_58 (by decide) ?_
      exact hret _ _ _ _ _ _ hP hD hS dX5_joined_62 ⟨hW_w, Sm.rf, (mk_X5_joined (And.intro (tyX hW_w) (And.intro i_p0 (Or.inr (And.intro (z_neq c_1 (rfl : (p0 : Int32).toInt = _) (show (8 : Int32).toInt = 8 from by decide)) (Or.inr (And.intro (z_neq c_3 (rfl : (p0 : Int32).toInt = _) (show (9 : Int32).toInt = 9 from by decide)) (Or.inl (And.intro (z_eq c_5 (rfl : (p0 : Int32).toInt = _) (show (10 : Int32).toInt = 10 from by decide)) (Or.inr (And.intro (z_nle c_6 (rfl : (p2 : Int32).toInt = _) (rfl : (p1 : Int32).toInt = _)) (And.intro (show (1 : Int32).toInt = 1 from by decide) rfl))))))))))))⟩
  by_cases c_7 : p0 = 11
  · have c_7t : (p0 : Int32).toInt = 11 := by rw [c_7]; rfl
    refine lv_tableIn (tgt := 63) hx hb dX5_joined_1 (by rw [c_7t]; decide) (by rw [c_7t]; decide) (off := 62) (by rw [c_7t]; rfl) (by decide) ?_
    refine lv_iload_n hx hb dX5_joined_63 rfl (lv_at hl 1 rfl) ?_
    refine lv_iload_n hx hb dX5_joined_64 rfl (lv_at hl 2 rfl) ?_
    refine lv_icmp_le (tgt := 72) hx hb dX5_joined_65 (by decide) (fun c_8 => ?_) (fun c_8 => ?_)
    · refine lv_iconst (v := 0) hx hb dX5_joined_72 (by decide) ?_
      exact hret _ _ _ _ _ _ hP hD hS dX5_joined_73 ⟨hW_w, Sm.rf, (mk_X5_joined (And.intro (tyX hW_w) (And.intro i_p0 (Or.inr (And.intro (z_neq c_1 (rfl : (p0 : Int32).toInt = _) (show (8 : Int32).toInt = 8 from by decide)) (Or.inr (And.intro (z_neq c_3 (rfl : (p0 : Int32).toInt = _) (show (9 : Int32).toInt = 9 from by decide)) (Or.inr (And.intro (z_neq c_5 (rfl : (p0 : Int32).toInt = _) (show (10 : Int32).toInt = 10 from by decide)) (Or.inl (And.intro (z_eq c_7 (rfl : (p0 : Int32).toInt = _) (show (11 : Int32).toInt = 11 from by decide)) (Or.inl (And.intro (z_le c_8 (rfl : (p1 : Int32).toInt = _) (rfl : (p2 : Int32).toInt = _)) (And.intro (show (0 : Int32).toInt = 0 from by decide) rfl))))))))))))))⟩
    · refine lv_iconst (v := 1) hx hb dX5_joined_68 (by decide) ?_
      refine lv_goto (tgt := 73) hx hb dX5_joined_69 (by decide) ?_
      exact hret _ _ _ _ _ _ hP hD hS dX5_joined_73 ⟨hW_w, Sm.rf, (mk_X5_joined (And.intro (tyX hW_w) (And.intro i_p0 (Or.inr (And.intro (z_neq c_1 (rfl : (p0 : Int32).toInt = _) (show (8 : Int32).toInt = 8 from by decide)) (Or.inr (And.intro (z_neq c_3 (rfl : (p0 : Int32).toInt = _) (show (9 : Int32).toInt = 9 from by decide)) (Or.inr (And.intro (z_neq c_5 (rfl : (p0 : Int32).toInt = _) (show (10 : Int32).toInt = 10 from by decide)) (Or.inl (And.intro (z_eq c_7 (rfl : (p0 : Int32).toInt = _) (show (11 : Int32).toInt = 11 from by decide)) (Or.inr (And.intro (z_nle c_8 (rfl : (p1 : Int32).toInt = _) (rfl : (p2 : Int32).toInt = _)) (And.intro (show (1 : Int32).toInt = 1 from by decide) rfl))))))))))))))⟩
  by_cases c_9 : p0 = 12
  · have c_9t : (p0 : Int32).toInt = 12 := by rw [c_9]; rfl
    refine lv_tableIn (tgt := 74) hx hb dX5_joined_1 (by rw [c_9t]; decide) (by rw [c_9t]; decide) (off := 73) (by rw [c_9t]; rfl) (by decide) ?_
    refine lv_iload_n hx hb dX5_joined_74 rfl (lv_at hl 1 rfl) ?_
    refine lv_iload_n hx hb dX5_joined_75 rfl (lv_at hl 2 rfl) ?_
    refine lv_icmp_ne (tgt := 83) hx hb dX5_joined_76 (by decide) (fun c_10 => ?_) (fun c_10 => ?_)
    · refine lv_iconst (v := 0) hx hb dX5_joined_83 (by decide) ?_
      exact hret _ _ _ _ _ _ hP hD hS dX5_joined_84 ⟨hW_w, Sm.rf, (mk_X5_joined (And.intro (tyX hW_w) (And.intro i_p0 (Or.inr (And.intro (z_neq c_1 (rfl : (p0 : Int32).toInt = _) (show (8 : Int32).toInt = 8 from by decide)) (Or.inr (And.intro (z_neq c_3 (rfl : (p0 : Int32).toInt = _) (show (9 : Int32).toInt = 9 from by decide)) (Or.inr (And.intro (z_neq c_5 (rfl : (p0 : Int32).toInt = _) (show (10 : Int32).toInt = 10 from by decide)) (Or.inr (And.intro (z_neq c_7 (rfl : (p0 : Int32).toInt = _) (show (11 : Int32).toInt = 11 from by decide)) (Or.inl (And.intro (z_eq c_9 (rfl : (p0 : Int32).toInt = _) (show (12 : Int32).toInt = 12 from by decide)) (Or.inr (And.intro (z_neq c_10 (rfl : (p1 : Int32).toInt = _) (rfl : (p2 : Int32).toInt = _)) (And.intro (show (0 : Int32).toInt = 0 from by decide) rfl))))))))))))))))⟩
    · refine lv_iconst (v := 1) hx hb dX5_joined_79 (by decide) ?_
      refine lv_goto (tgt := 84) hx hb dX5_joined_80 (by decide) ?_
      exact hret _ _ _ _ _ _ hP hD hS dX5_joined_84 ⟨hW_w, Sm.rf, (mk_X5_joined (And.intro (tyX hW_w) (And.intro i_p0 (Or.inr (And.intro (z_neq c_1 (rfl : (p0 : Int32).toInt = _) (show (8 : Int32).toInt = 8 from by decide)) (Or.inr (And.intro (z_neq c_3 (rfl : (p0 : Int32).toInt = _) (show (9 : Int32).toInt = 9 from by decide)) (Or.inr (And.intro (z_neq c_5 (rfl : (p0 : Int32).toInt = _) (show (10 : Int32).toInt = 10 from by decide)) (Or.inr (And.intro (z_neq c_7 (rfl : (p0 : Int32).toInt = _) (show (11 : Int32).toInt = 11 from by decide)) (Or.inl (And.intro (z_eq c_9 (rfl : (p0 : Int32).toInt = _) (show (12 : Int32).toInt = 12 from by decide)) (Or.inl (And.intro (z_eq c_10 (rfl : (p1 : Int32).toInt = _) (rfl : (p2 : Int32).toInt = _)) (And.intro (show (1 : Int32).toInt = 1 from by decide) rfl))))))))))))))))⟩
  by_cases c_11 : p0 = 13
  · have c_11t : (p0 : Int32).toInt = 13 := by rw [c_11]; rfl
    refine lv_tableIn (tgt := 85) hx hb dX5_joined_1 (by rw [c_11t]; decide) (by rw [c_11t]; decide) (off := 84) (by rw [c_11t]; rfl) (by decide) ?_
    refine lv_iload_n hx hb dX5_joined_85 rfl (lv_at hl 1 rfl) ?_
    refine lv_iload_n hx hb dX5_joined_86 rfl (lv_at hl 2 rfl) ?_
    refine lv_iadd hx hb dX5_joined_87 ?_
    refine lv_topi (fun v_12 ev_12 => ?_)
    refine lv_i2l hx hb dX5_joined_88 rfl ?_
    refine lv_topl (fun v_13 ev_13 => ?_)
    refine kW_i ⟨rfl, rfl⟩ hP hD hS hA (rW_S (As := [.long v_13]) (rest := []) hx hb hml hown hts hK hE hP hD (e_X5_bounded l D cI cJ cZ q bb bs bp w hW_w v_13 _) ⟨⟨rfl, rfl⟩, rfl, rfl⟩ sv_X5_135 ⟨(Nat.le_trans (by decide) hR.1), (Nat.le_trans (by decide) hR.2)⟩ rfl hl.1 rfl (Nat.le_of_ble_eq_true rfl) dX5_joined_89) (fun r_15 w_14 H locs hw_w_14 hP hD hS => ?_)
    obtain ⟨hW_w_14, hs_w_14, hm_16⟩ := hw_w_14
    exact hret _ _ _ _ _ _ hP hD hS dX5_joined_92 ⟨hW_w_14, (Sm.rf.tr hs_w_14 (by decide)), (mk_X5_joined (And.intro (tyX hW_w) (And.intro i_p0 (Or.inr (And.intro (z_neq c_1 (rfl : (p0 : Int32).toInt = _) (show (8 : Int32).toInt = 8 from by decide)) (Or.inr (And.intro (z_neq c_3 (rfl : (p0 : Int32).toInt = _) (show (9 : Int32).toInt = 9 from by decide)) (Or.inr (And.intro (z_neq c_5 (rfl : (p0 : Int32).toInt = _) (show (10 : Int32).toInt = 10 from by decide)) (Or.inr (And.intro (z_neq c_7 (rfl : (p0 : Int32).toInt = _) (show (11 : Int32).toInt = 11 from by decide)) (Or.inr (And.intro (z_neq c_9 (rfl : (p0 : Int32).toInt = _) (show (12 : Int32).toInt = 12 from by decide)) (Or.inl (And.intro (z_eq c_11 (rfl : (p0 : Int32).toInt = _) (show (13 : Int32).toInt = 13 from by decide)) (Exists.intro r_15.toInt (Exists.intro (vw w_14) (And.intro (cgM_1 hm_16 (z_ofl ev_13 (z_i2l (z_of ev_12 (z_addw (rfl : (p1 : Int32).toInt = _) (rfl : (p2 : Int32).toInt = _)))))) (And.intro (hs_w_14.Fr hW_w hW_w_14 intsX_ok intsX_ok) (And.intro (tyX hW_w_14) (And.intro (rfl : (r_15 : Int32).toInt = _) rfl)))))))))))))))))))))⟩
  by_cases c_17 : p0 = 14
  · have c_17t : (p0 : Int32).toInt = 14 := by rw [c_17]; rfl
    refine lv_tableIn (tgt := 93) hx hb dX5_joined_1 (by rw [c_17t]; decide) (by rw [c_17t]; decide) (off := 92) (by rw [c_17t]; rfl) (by decide) ?_
    refine lv_iload_n hx hb dX5_joined_93 rfl (lv_at hl 1 rfl) ?_
    refine lv_iload_n hx hb dX5_joined_94 rfl (lv_at hl 2 rfl) ?_
    refine lv_isub hx hb dX5_joined_95 ?_
    refine lv_topi (fun v_18 ev_18 => ?_)
    refine lv_i2l hx hb dX5_joined_96 rfl ?_
    refine lv_topl (fun v_19 ev_19 => ?_)
    refine kW_i ⟨rfl, rfl⟩ hP hD hS hA (rW_S (As := [.long v_19]) (rest := []) hx hb hml hown hts hK hE hP hD (e_X5_bounded l D cI cJ cZ q bb bs bp w hW_w v_19 _) ⟨⟨rfl, rfl⟩, rfl, rfl⟩ sv_X5_135 ⟨(Nat.le_trans (by decide) hR.1), (Nat.le_trans (by decide) hR.2)⟩ rfl hl.1 rfl (Nat.le_of_ble_eq_true rfl) dX5_joined_97) (fun r_21 w_20 H locs hw_w_20 hP hD hS => ?_)
    obtain ⟨hW_w_20, hs_w_20, hm_22⟩ := hw_w_20
    exact hret _ _ _ _ _ _ hP hD hS dX5_joined_100 ⟨hW_w_20, (Sm.rf.tr hs_w_20 (by decide)), (mk_X5_joined (And.intro (tyX hW_w) (And.intro i_p0 (Or.inr (And.intro (z_neq c_1 (rfl : (p0 : Int32).toInt = _) (show (8 : Int32).toInt = 8 from by decide)) (Or.inr (And.intro (z_neq c_3 (rfl : (p0 : Int32).toInt = _) (show (9 : Int32).toInt = 9 from by decide)) (Or.inr (And.intro (z_neq c_5 (rfl : (p0 : Int32).toInt = _) (show (10 : Int32).toInt = 10 from by decide)) (Or.inr (And.intro (z_neq c_7 (rfl : (p0 : Int32).toInt = _) (show (11 : Int32).toInt = 11 from by decide)) (Or.inr (And.intro (z_neq c_9 (rfl : (p0 : Int32).toInt = _) (show (12 : Int32).toInt = 12 from by decide)) (Or.inr (And.intro (z_neq c_11 (rfl : (p0 : Int32).toInt = _) (show (13 : Int32).toInt = 13 from by decide)) (Or.inl (And.intro (z_eq c_17 (rfl : (p0 : Int32).toInt = _) (show (14 : Int32).toInt = 14 from by decide)) (Exists.intro r_21.toInt (Exists.intro (vw w_20) (And.intro (cgM_1 hm_22 (z_ofl ev_19 (z_i2l (z_of ev_18 (z_subw (rfl : (p1 : Int32).toInt = _) (rfl : (p2 : Int32).toInt = _)))))) (And.intro (hs_w_20.Fr hW_w hW_w_20 intsX_ok intsX_ok) (And.intro (tyX hW_w_20) (And.intro (rfl : (r_21 : Int32).toInt = _) rfl)))))))))))))))))))))))⟩
  refine lv_tableOut (tgt := 101) hx hb dX5_joined_1 (by have h0 := lv_neT c_1 (a := 8) (by decide); have h1 := lv_neT c_3 (a := 9) (by decide); have h2 := lv_neT c_5 (a := 10) (by decide); have h3 := lv_neT c_7 (a := 11) (by decide); have h4 := lv_neT c_9 (a := 12) (by decide); have h5 := lv_neT c_11 (a := 13) (by decide); have h6 := lv_neT c_17 (a := 14) (by decide); omega) (by decide) ?_
  refine lv_iload_n hx hb dX5_joined_101 rfl (lv_at hl 1 rfl) ?_
  refine lv_i2l hx hb dX5_joined_102 rfl ?_
  refine lv_topl (fun v_23 ev_23 => ?_)
  refine lv_iload_n hx hb dX5_joined_103 rfl (lv_at hl 2 rfl) ?_
  refine lv_i2l hx hb dX5_joined_104 rfl ?_
  refine lv_topl (fun v_24 ev_24 => ?_)
  refine lv_lmul hx hb dX5_joined_105 ?_
  refine lv_topl (fun v_25 ev_25 => ?_)
  refine kW_i ⟨rfl, rfl⟩ hP hD hS hA (rW_S (As := [.long v_25]) (rest := []) hx hb hml hown hts hK hE hP hD (e_X5_bounded l D cI cJ cZ q bb bs bp w hW_w v_25 _) ⟨⟨rfl, rfl⟩, rfl, rfl⟩ sv_X5_135 ⟨(Nat.le_trans (by decide) hR.1), (Nat.le_trans (by decide) hR.2)⟩ rfl hl.1 rfl (Nat.le_of_ble_eq_true rfl) dX5_joined_106) (fun r_27 w_26 H locs hw_w_26 hP hD hS => ?_)
  obtain ⟨hW_w_26, hs_w_26, hm_28⟩ := hw_w_26
  exact hret _ _ _ _ _ _ hP hD hS dX5_joined_109 ⟨hW_w_26, (Sm.rf.tr hs_w_26 (by decide)), (mk_X5_joined (And.intro (tyX hW_w) (And.intro i_p0 (Or.inr (And.intro (z_neq c_1 (rfl : (p0 : Int32).toInt = _) (show (8 : Int32).toInt = 8 from by decide)) (Or.inr (And.intro (z_neq c_3 (rfl : (p0 : Int32).toInt = _) (show (9 : Int32).toInt = 9 from by decide)) (Or.inr (And.intro (z_neq c_5 (rfl : (p0 : Int32).toInt = _) (show (10 : Int32).toInt = 10 from by decide)) (Or.inr (And.intro (z_neq c_7 (rfl : (p0 : Int32).toInt = _) (show (11 : Int32).toInt = 11 from by decide)) (Or.inr (And.intro (z_neq c_9 (rfl : (p0 : Int32).toInt = _) (show (12 : Int32).toInt = 12 from by decide)) (Or.inr (And.intro (z_neq c_11 (rfl : (p0 : Int32).toInt = _) (show (13 : Int32).toInt = 13 from by decide)) (Or.inr (And.intro (z_neq c_17 (rfl : (p0 : Int32).toInt = _) (show (14 : Int32).toInt = 14 from by decide)) (Exists.intro r_27.toInt (Exists.intro (vw w_26) (And.intro (cgM_1 hm_28 (z_ofl ev_25 (z_lmul (z_ofl ev_23 (z_i2l (rfl : (p1 : Int32).toInt = _))) (z_ofl ev_24 (z_i2l (rfl : (p2 : Int32).toInt = _)))))) (And.intro (hs_w_26.Fr hW_w hW_w_26 intsX_ok intsX_ok) (And.intro (tyX hW_w_26) (And.intro (rfl : (r_27 : Int32).toInt = _) rfl)))))))))))))))))))))))⟩
set_option maxRecDepth 100000 in
set_option maxHeartbeats 8000000 in
theorem e_X5_leaf_16 (l : Launch) (D : va_G) (cI cJ cZ : ClassId) (q : Nat → Nat) (bb bs bp : Nat) (w : va_W) (hW_w : HT q (TX q cI cJ cZ bb bs bp) w) (p2 : Int32) (p3 : Int32) (p4 : Int32) (i_p2 : In 0 6 p2) (hf_16_8 : In 1 24 (fI w 16 8)) (hok : okl p2 p3) : Con_i l yX5_leaf cX5_leaf 5 (some .int) ({ frames := 0, cells := 0, slots := 0, locals := 0 }) D cI cJ cZ eW [.ref (q 56), .ref (q 16), .int p2, .int p3, .int p4] w (fun (r : Int32) (w1 : va_W) => HT q (TX q cI cJ cZ bb bs bp) w1 ∧ Sm [] [] w w1 ∧ M_X5_leaf_16 (vw w) p2.toInt p3.toInt p4.toInt r.toInt (vw w1)) := by
  refine eQ_i rfl (by decide) (Nat.le_of_ble_eq_true rfl) ⟨rfl, rfl⟩ ?_
  intro p e R s m args below meth c A Q hx hb hml hown hts hK hE hA hR hret hP hD hS ls hl
  have hown : s.vm.findClass RX5 = some m.cls := hown
  have hl : lv_has ls 5 [(0, .ref (q 56)), (1, .ref (q 16)), (2, .int p2), (3, .int p3), (4, .int p4)] := hl
  refine lv_iload_n hx hb dX5_leaf_0 rfl (lv_at hl 2 rfl) ?_
  by_cases c_1 : p2 = 2
  · have c_1t : (p2 : Int32).toInt = 2 := by rw [c_1]; rfl
    refine lv_tableIn (tgt := 36) hx hb dX5_leaf_1 (by rw [c_1t]; decide) (by rw [c_1t]; decide) (off := 35) (by rw [c_1t]; rfl) (by decide) ?_
    refine lv_aload_n hx hb dX5_leaf_36 rfl (lv_at hl 0 rfl) ?_
    refine gt_X5 hx hb hts hown hK hP 56 (hW_w.o tX_56) 4 (by decide) wd_376 rfl (hW_w.fr tX_56 rfl) dX5_leaf_37 ?_
    refine lv_iload_n hx hb dX5_leaf_40 rfl (lv_at hl 3 rfl) ?_
    refine va_iald hx hb hK hP 61 0 (hW_w.a tX_61) rfl (in_I (hok.1 c_1) (by decide)) dX5_leaf_41 ?_
    refine lv_topi (fun v_2 ev_2 => ?_)
    exact hret _ _ _ _ _ _ hP hD hS dX5_leaf_42 ⟨hW_w, Sm.rf, (mk_X5_leaf_16 (And.intro (tyX hW_w) (And.intro i_p2 (Or.inl (And.intro (z_eq c_1 (rfl : (p2 : Int32).toInt = _) (show (2 : Int32).toInt = 2 from by decide)) (And.intro (z_of ev_2 ((hW_w.va tX_61 _).trans (congrArg (vw w 61) (z_ix (rfl : (p3 : Int32).toInt = _))))) rfl))))))⟩
  by_cases c_3 : p2 = 3
  · have c_3t : (p2 : Int32).toInt = 3 := by rw [c_3]; rfl
    refine lv_tableIn (tgt := 43) hx hb dX5_leaf_1 (by rw [c_3t]; decide) (by rw [c_3t]; decide) (off := 42) (by rw [c_3t]; rfl) (by decide) ?_
    refine lv_iload hx hb dX5_leaf_43 (lv_at hl 4 rfl) ?_
    exact hret _ _ _ _ _ _ hP hD hS dX5_leaf_45 ⟨hW_w, Sm.rf, (mk_X5_leaf_16 (And.intro (tyX hW_w) (And.intro i_p2 (Or.inr (And.intro (z_neq c_1 (rfl : (p2 : Int32).toInt = _) (show (2 : Int32).toInt = 2 from by decide)) (Or.inl (And.intro (z_eq c_3 (rfl : (p2 : Int32).toInt = _) (show (3 : Int32).toInt = 3 from by decide)) (And.intro (rfl : (p4 : Int32).toInt = _) rfl))))))))⟩
  by_cases c_4 : p2 = 4
  · have c_4t : (p2 : Int32).toInt = 4 := by rw [c_4]; rfl
    refine lv_tableIn (tgt := 46) hx hb dX5_leaf_1 (by rw [c_4t]; decide) (by rw [c_4t]; decide) (off := 45) (by rw [c_4t]; rfl) (by decide) ?_
    refine lv_aload_n hx hb dX5_leaf_46 rfl (lv_at hl 0 rfl) ?_
    refine gt_X5 hx hb hts hown hK hP 56 (hW_w.o tX_56) 5 (by decide) wd_377 rfl (hW_w.fr tX_56 rfl) dX5_leaf_47 ?_
    refine lv_iload_n hx hb dX5_leaf_50 rfl (lv_at hl 3 rfl) ?_
    refine va_iald hx hb hK hP 62 0 (hW_w.a tX_62) rfl (in_I (hok.2.1 c_4) (by decide)) dX5_leaf_51 ?_
    refine lv_topi (fun v_5 ev_5 => ?_)
    exact hret _ _ _ _ _ _ hP hD hS dX5_leaf_52 ⟨hW_w, Sm.rf, (mk_X5_leaf_16 (And.intro (tyX hW_w) (And.intro i_p2 (Or.inr (And.intro (z_neq c_1 (rfl : (p2 : Int32).toInt = _) (show (2 : Int32).toInt = 2 from by decide)) (Or.inr (And.intro (z_neq c_3 (rfl : (p2 : Int32).toInt = _) (show (3 : Int32).toInt = 3 from by decide)) (Or.inl (And.intro (z_eq c_4 (rfl : (p2 : Int32).toInt = _) (show (4 : Int32).toInt = 4 from by decide)) (And.intro (z_of ev_5 ((hW_w.va tX_62 _).trans (congrArg (vw w 62) (z_ix (rfl : (p3 : Int32).toInt = _))))) rfl))))))))))⟩
  by_cases c_6 : p2 = 5
  · have c_6t : (p2 : Int32).toInt = 5 := by rw [c_6]; rfl
    refine lv_tableIn (tgt := 53) hx hb dX5_leaf_1 (by rw [c_6t]; decide) (by rw [c_6t]; decide) (off := 52) (by rw [c_6t]; rfl) (by decide) ?_
    refine lv_iconst (v := 1) hx hb dX5_leaf_53 (by decide) ?_
    refine lv_iload_n hx hb dX5_leaf_54 rfl (lv_at hl 3 rfl) ?_
    refine lv_ishl hx hb dX5_leaf_55 ?_
    refine lv_topi (fun v_7 ev_7 => ?_)
    exact hret _ _ _ _ _ _ hP hD hS dX5_leaf_56 ⟨hW_w, Sm.rf, (mk_X5_leaf_16 (And.intro (tyX hW_w) (And.intro i_p2 (Or.inr (And.intro (z_neq c_1 (rfl : (p2 : Int32).toInt = _) (show (2 : Int32).toInt = 2 from by decide)) (Or.inr (And.intro (z_neq c_3 (rfl : (p2 : Int32).toInt = _) (show (3 : Int32).toInt = 3 from by decide)) (Or.inr (And.intro (z_neq c_4 (rfl : (p2 : Int32).toInt = _) (show (4 : Int32).toInt = 4 from by decide)) (Or.inl (And.intro (z_eq c_6 (rfl : (p2 : Int32).toInt = _) (show (5 : Int32).toInt = 5 from by decide)) (And.intro (z_of ev_7 (z_shl (show (1 : Int32).toInt = 1 from by decide) (rfl : (p3 : Int32).toInt = _))) rfl))))))))))))⟩
  by_cases c_8 : p2 = 6
  · have c_8t : (p2 : Int32).toInt = 6 := by rw [c_8]; rfl
    refine lv_tableIn (tgt := 57) hx hb dX5_leaf_1 (by rw [c_8t]; decide) (by rw [c_8t]; decide) (off := 56) (by rw [c_8t]; rfl) (by decide) ?_
    refine lv_aload_n hx hb dX5_leaf_57 rfl (lv_at hl 1 rfl) ?_
    refine gt_X1 hx hb hts hown hK hP 16 (hW_w.o tX_16) 7 (by decide) wd_61 rfl (hW_w.fr tX_16 rfl) dX5_leaf_58 ?_
    refine lv_iload_n hx hb dX5_leaf_61 rfl (lv_at hl 3 rfl) ?_
    refine va_iald hx hb hK hP 22 0 (hW_w.a tX_22) rfl (in_I (hok.2.2 c_8) (by decide)) dX5_leaf_62 ?_
    refine lv_topi (fun v_9 ev_9 => ?_)
    exact hret _ _ _ _ _ _ hP hD hS dX5_leaf_63 ⟨hW_w, Sm.rf, (mk_X5_leaf_16 (And.intro (tyX hW_w) (And.intro i_p2 (Or.inr (And.intro (z_neq c_1 (rfl : (p2 : Int32).toInt = _) (show (2 : Int32).toInt = 2 from by decide)) (Or.inr (And.intro (z_neq c_3 (rfl : (p2 : Int32).toInt = _) (show (3 : Int32).toInt = 3 from by decide)) (Or.inr (And.intro (z_neq c_4 (rfl : (p2 : Int32).toInt = _) (show (4 : Int32).toInt = 4 from by decide)) (Or.inr (And.intro (z_neq c_6 (rfl : (p2 : Int32).toInt = _) (show (5 : Int32).toInt = 5 from by decide)) (Or.inl (And.intro (z_eq c_8 (rfl : (p2 : Int32).toInt = _) (show (6 : Int32).toInt = 6 from by decide)) (And.intro (z_of ev_9 ((hW_w.va tX_22 _).trans (congrArg (vw w 22) (z_ix (rfl : (p3 : Int32).toInt = _))))) rfl))))))))))))))⟩
  refine lv_tableOut (tgt := 64) hx hb dX5_leaf_1 (by have h0 := lv_neT c_1 (a := 2) (by decide); have h1 := lv_neT c_3 (a := 3) (by decide); have h2 := lv_neT c_4 (a := 4) (by decide); have h3 := lv_neT c_6 (a := 5) (by decide); have h4 := lv_neT c_8 (a := 6) (by decide); omega) (by decide) ?_
  refine lv_iload_n hx hb dX5_leaf_64 rfl (lv_at hl 3 rfl) ?_
  exact hret _ _ _ _ _ _ hP hD hS dX5_leaf_65 ⟨hW_w, Sm.rf, (mk_X5_leaf_16 (And.intro (tyX hW_w) (And.intro i_p2 (Or.inr (And.intro (z_neq c_1 (rfl : (p2 : Int32).toInt = _) (show (2 : Int32).toInt = 2 from by decide)) (Or.inr (And.intro (z_neq c_3 (rfl : (p2 : Int32).toInt = _) (show (3 : Int32).toInt = 3 from by decide)) (Or.inr (And.intro (z_neq c_4 (rfl : (p2 : Int32).toInt = _) (show (4 : Int32).toInt = 4 from by decide)) (Or.inr (And.intro (z_neq c_6 (rfl : (p2 : Int32).toInt = _) (show (5 : Int32).toInt = 5 from by decide)) (Or.inr (And.intro (z_neq c_8 (rfl : (p2 : Int32).toInt = _) (show (6 : Int32).toInt = 6 from by decide)) (And.intro (rfl : (p3 : Int32).toInt = _) rfl))))))))))))))⟩
set_option maxRecDepth 100000 in
set_option maxHeartbeats 8000000 in
theorem e_X5_value_16 (l : Launch) (D : va_G) (cI cJ cZ : ClassId) (q : Nat → Nat) (bb bs bp : Nat) (w : va_W) (hW_w : HT q (TX q cI cJ cZ bb bs bp) w) (p2 : Int32) (p3 : Int32) (p4 : Int32) (i_p2 : In 0 1000 p2) (i_p3 : In 0 1000 p3) (hf_16_8 : In 1 24 (fI w 16 8)) : Con_i l yX5_value cX5_value 8 (some .int) ({ frames := 3, cells := 0, slots := 0, locals := 66 }) D cI cJ cZ eW [.ref (q 56), .ref (q 16), .int p2, .int p3, .int p4] w (fun (r : Int32) (w1 : va_W) => HT q (TX q cI cJ cZ bb bs bp) w1 ∧ Sm [63] [] w w1 ∧ M_X5_value_16 (vw w) p2.toInt p3.toInt p4.toInt r.toInt (vw w1)) := by
  refine eQ_i rfl (by decide) (Nat.le_of_ble_eq_true rfl) ⟨rfl, rfl⟩ ?_
  intro p e R s m args below meth c A Q hx hb hml hown hts hK hE hA hR hret hP hD hS ls hl
  have hown : s.vm.findClass RX5 = some m.cls := hown
  have hl : lv_has ls 8 [(0, .ref (q 56)), (1, .ref (q 16)), (2, .int p2), (3, .int p3), (4, .int p4)] := hl
  have J6 : ∀ (N : Nat) (x6_5 : Int32) (x6_6 : Int32) (w6 : va_W) (H : Heap) (locs : List Loc) (ls : Array Slot), (1000 - x6_6.toInt).toNat < N → HT q (TX q cI cJ cZ bb bs bp) w6 → Sm [63] [] w w6 → (In 0 1000 p2) → (In 0 1000 p3) → (In 0 64 x6_5) → (In 0 1000 x6_6) → (In 1 24 (fI w6 16 8)) → (∀ (n : Nat) (r : Int) (t : PS), It_X5_value_16 n 6 p2.toInt p3.toInt p4.toInt x6_5.toInt x6_6.toInt 0 (vw w6) r t → M_X5_value_16 (vw w) p2.toInt p3.toInt p4.toInt r t) → va_P D vwCl w6 H → va_D A w6 → va_S A s.heap H locs → lv_has ls 8 [(0, .ref (q 56)), (1, .ref (q 16)), (2, .int p2), (3, .int p3), (4, .int p4), (5, .int x6_5), (6, .int x6_6)] → W p l e R s m args below meth c H locs 0 0 Q (F0 m 6 ls []) := by
    intro N
    induction N with
    | zero => intro x6_5 x6_6 w6 H locs ls hmu; exact absurd hmu (Nat.not_lt_zero _)
    | succ N ih6 =>
      intro x6_5 x6_6 w6 H locs ls hmu6 hW_w6 hM_w6 i_x6_2 i_x6_3 i_x6_5 i_x6_6 g6_16_8 hmi_6 hP hD hS hl
      have J137 : ∀ (x137_5 : Int32) (x137_7 : Int32) (w137 : va_W) (H : Heap) (locs : List Loc) (ls : Array Slot), HT q (TX q cI cJ cZ bb bs bp) w137 → Sm [63] [] w w137 → (In 0 1000 p2) → (In 1 1000 p3) → (In 0 64 x137_5) → (In 0 999 x6_6) → (In 0 15 x137_7) → (In 1 24 (fI w137 16 8)) → (∀ (n : Nat) (r : Int) (t : PS), It_X5_value_16 n 137 p2.toInt p3.toInt p4.toInt x137_5.toInt x6_6.toInt x137_7.toInt (vw w137) r t → M_X5_value_16 (vw w) p2.toInt p3.toInt p4.toInt r t) → va_P D vwCl w137 H → va_D A w137 → va_S A s.heap H locs → lv_has ls 8 [(0, .ref (q 56)), (1, .ref (q 16)), (2, .int p2), (3, .int p3), (4, .int p4), (5, .int x137_5), (6, .int x6_6), (7, .int x137_7)] → W p l e R s m args below meth c H locs 0 0 Q (F0 m 137 ls []) := by
        intro x137_5 x137_7 w137 H locs ls hW_w137 hM_w137 i_x137_2 i_x137_3 i_x137_5 i_x137_6 i_x137_7 g137_16_8 hmi_137 hP hD hS hl
        refine lv_iinc (v := (x6_6 + 1)) (lv' := [(6, .int (x6_6 + 1)), (0, .ref (q 56)), (1, .ref (q 16)), (2, .int p2), (3, .int p3), (4, .int p4), (5, .int x137_5), (7, .int x137_7)]) hx hb dX5_value_137 hl (k := 6) rfl (rfl) (by decide) rfl (fun ls hl => ?_)
        refine lv_goto (tgt := 6) hx hb dX5_value_140 (by decide) ?_
        exact ih6 x137_5 (x6_6 + 1) w137 _ _ ls (mu_inc hmu6 i_x137_6 (In_lit (n := 1) (by decide) (by decide) : In 1 1 1) (by decide)) hW_w137 hM_w137 i_p2 (In_w i_x137_3 (by decide) : In 0 1000 p3) i_x137_5 (In_w ((In_add (y := 1) i_x137_6 (In_lit (n := 1) (by decide) (by decide) : In 1 1 1) (by decide)) : In 1 1000 (x6_6 + 1)) (by decide) : In 0 1000 (x6_6 + 1)) (In_of (hM_w137.gI (by decide)) (In_of (hM_w137.gI (by decide)).symm g137_16_8)) (fun n r t hk => (hmi_137 (n + 1) r t (rl_X5_value_16_137 (n := n) (And.intro (tyX hW_w137) (And.intro i_x137_2 (And.intro i_x137_3 (And.intro i_x137_5 (And.intro i_x137_6 (And.intro i_x137_7 (cgK_6 hk (rfl : (p2 : Int32).toInt = _) (rfl : (p3 : Int32).toInt = _) (rfl : (p4 : Int32).toInt = _) (rfl : (x137_5 : Int32).toInt = _) (z_add (t_add i_x137_6 (In_lit (n := 1) (by decide) (by decide) : In 1 1 1) (by decide)) (rfl : (x6_6 : Int32).toInt = _) (show (1 : Int32).toInt = 1 from by decide)) rfl)))))))))) hP hD hS (lv_sub hl [1, 2, 3, 4, 5, 6, 0] rfl)
      refine lv_iload hx hb dX5_value_6 (lv_at hl 6 rfl) ?_
      refine lv_iload_n hx hb dX5_value_8 rfl (lv_at hl 3 rfl) ?_
      refine lv_icmp_ge (tgt := 143) hx hb dX5_value_9 (by decide) (fun c_1 => ?_) (fun c_1 => ?_)
      · refine lv_iload hx hb dX5_value_143 (lv_at hl 5 rfl) ?_
        refine lv_if_le (tgt := 157) hx hb dX5_value_145 (by decide) (fun c_2 => ?_) (fun c_2 => ?_)
        · refine lv_iconst (v := 0) hx hb dX5_value_157 (by decide) ?_
          exact hret _ _ _ _ _ _ hP hD hS dX5_value_158 ⟨hW_w6, hM_w6, (hmi_6 (0 + 1) _ _ (rl_X5_value_16_6 (n := 0) (And.intro (tyX hW_w6) (And.intro i_x6_2 (And.intro i_x6_3 (And.intro i_x6_5 (And.intro i_x6_6 (Or.inl (And.intro (z_le c_1 (rfl : (p3 : Int32).toInt = _) (rfl : (x6_6 : Int32).toInt = _)) (Or.inl (And.intro (z_le c_2 (rfl : (x6_5 : Int32).toInt = _) (show (0 : Int32).toInt = 0 from by decide)) (And.intro (show (0 : Int32).toInt = 0 from by decide) rfl))))))))))))⟩
        · refine lv_aload_n hx hb dX5_value_148 rfl (lv_at hl 0 rfl) ?_
          refine gt_X5 hx hb hts hown hK hP 56 (hW_w6.o tX_56) 6 (by decide) wd_378 rfl (hW_w6.fr tX_56 rfl) dX5_value_149 ?_
          refine lv_iconst (v := 0) hx hb dX5_value_152 (by decide) ?_
          refine va_iald hx hb hK hP 63 0 (hW_w6.a tX_63) rfl (in_I (In_lit (n := 0) (by decide) (by decide) : In 0 0 0) (by decide)) dX5_value_153 ?_
          refine lv_topi (fun v_3 ev_3 => ?_)
          refine lv_goto (tgt := 158) hx hb dX5_value_154 (by decide) ?_
          exact hret _ _ _ _ _ _ hP hD hS dX5_value_158 ⟨hW_w6, hM_w6, (hmi_6 (0 + 1) _ _ (rl_X5_value_16_6 (n := 0) (And.intro (tyX hW_w6) (And.intro i_x6_2 (And.intro i_x6_3 (And.intro i_x6_5 (And.intro i_x6_6 (Or.inl (And.intro (z_le c_1 (rfl : (p3 : Int32).toInt = _) (rfl : (x6_6 : Int32).toInt = _)) (Or.inr (And.intro (z_nle c_2 (rfl : (x6_5 : Int32).toInt = _) (show (0 : Int32).toInt = 0 from by decide)) (And.intro (z_of ev_3 ((hW_w6.va tX_63 _).trans (congrArg (vw w6 63) (show (0 : Int32).toNatClampNeg = 0 from by decide)))) rfl))))))))))))⟩
      · refine lv_aload_n hx hb dX5_value_12 rfl (lv_at hl 1 rfl) ?_
        refine gt_X1 hx hb hts hown hK hP 16 (hW_w6.o tX_16) 16 (by decide) wd_85 rfl (hW_w6.fr tX_16 rfl) dX5_value_13 ?_
        refine lv_iload hx hb dX5_value_16 (lv_at hl 6 rfl) ?_
        refine va_iald hx hb hK hP 29 0 (hW_w6.a tX_29) rfl (in_I (R_nle_r i_p3 i_x6_6 c_1 (by decide) : In 0 999 x6_6) (by decide)) dX5_value_18 ?_
        refine lv_topi (fun v_4 ev_4 => ?_)
        refine lv_bipush (v := 15) hx hb dX5_value_19 (by decide) ?_
        refine lv_iand hx hb dX5_value_21 ?_
        refine lv_istore (lv' := [(7, .int (v_4 &&& 15)), (0, .ref (q 56)), (1, .ref (q 16)), (2, .int p2), (3, .int p3), (4, .int p4), (5, .int x6_5), (6, .int x6_6)]) hx hb dX5_value_22 hl (by decide) rfl (fun ls hl => ?_)
        refine lv_iload hx hb dX5_value_24 (lv_at hl 0 rfl) ?_
        refine lv_bipush (v := 7) hx hb dX5_value_26 (by decide) ?_
        refine lv_icmp_ge (tgt := 69) hx hb dX5_value_28 (by decide) (fun c_5 => ?_) (fun c_5 => ?_)
        · refine lv_iload hx hb dX5_value_69 (lv_at hl 0 rfl) ?_
          refine lv_bipush (v := 7) hx hb dX5_value_71 (by decide) ?_
          refine lv_icmp_ne (tgt := 98) hx hb dX5_value_73 (by decide) (fun c_6 => ?_) (fun c_6 => ?_)
          · refine lv_iload hx hb dX5_value_98 (lv_at hl 6 rfl) ?_
            refine lv_iconst (v := 1) hx hb dX5_value_100 (by decide) ?_
            refine lv_icmp_le (tgt := 137) hx hb dX5_value_101 (by decide) (fun c_7 => ?_) (fun c_7 => ?_)
            · exact J137 x6_5 (v_4 &&& 15) w6 _ _ ls hW_w6 hM_w6 i_p2 (R_nle_l i_p3 i_x6_6 c_1 (by decide) : In 1 1000 p3) (In_w (R_le_l i_x6_5 (In_lit (n := 1) (by decide) (by decide) : In 1 1 1) c_7 (by decide) : In 0 1 x6_5) (by decide) : In 0 64 x6_5) (R_nle_r i_p3 i_x6_6 c_1 (by decide) : In 0 999 x6_6) (In_w (R_ne_l (R_le_r (In_lit (n := 7) (by decide) (by decide) : In 7 7 7) ((In_and (n := 15) (by decide) (by decide)) : In 0 15 (v_4 &&& 15)) c_5 (by decide) : In 7 15 (v_4 &&& 15)) (In_lit (n := 7) (by decide) (by decide) : In 7 7 7) c_6 (by decide) : In 8 15 (v_4 &&& 15)) (by decide) : In 0 15 (v_4 &&& 15)) (In_of (hM_w6.gI (by decide)) (In_of (hM_w6.gI (by decide)).symm g6_16_8)) (fun n r t hk => (hmi_6 (n + 1) r t (rl_X5_value_16_6 (n := n) (And.intro (tyX hW_w6) (And.intro i_x6_2 (And.intro i_x6_3 (And.intro i_x6_5 (And.intro i_x6_6 (Or.inr (And.intro (z_nle c_1 (rfl : (p3 : Int32).toInt = _) (rfl : (x6_6 : Int32).toInt = _)) (Or.inl (And.intro (z_le c_5 (show (7 : Int32).toInt = 7 from by decide) (z_and (z_of ev_4 ((hW_w6.va tX_29 _).trans (congrArg (vw w6 29) (z_ix (rfl : (x6_6 : Int32).toInt = _))))) (show (15 : Int32).toInt = 15 from by decide))) (Or.inr (And.intro (z_neq c_6 (z_and (z_of ev_4 ((hW_w6.va tX_29 _).trans (congrArg (vw w6 29) (z_ix (rfl : (x6_6 : Int32).toInt = _))))) (show (15 : Int32).toInt = 15 from by decide)) (show (7 : Int32).toInt = 7 from by decide)) (Or.inl (And.intro (z_le c_7 (rfl : (x6_5 : Int32).toInt = _) (show (1 : Int32).toInt = 1 from by decide)) (cgK_6 hk (rfl : (p2 : Int32).toInt = _) (rfl : (p3 : Int32).toInt = _) (rfl : (p4 : Int32).toInt = _) (rfl : (x6_5 : Int32).toInt = _) (rfl : (x6_6 : Int32).toInt = _) (z_and (z_of ev_4 ((hW_w6.va tX_29 _).trans (congrArg (vw w6 29) (z_ix (rfl : (x6_6 : Int32).toInt = _))))) (show (15 : Int32).toInt = 15 from by decide))))))))))))))))))) hP hD hS (lv_sub hl [1, 2, 3, 4, 5, 6, 7, 0] rfl)
            · refine lv_iinc (v := (x6_5 + (-1))) (lv' := [(5, .int (x6_5 + (-1))), (7, .int (v_4 &&& 15)), (0, .ref (q 56)), (1, .ref (q 16)), (2, .int p2), (3, .int p3), (4, .int p4), (6, .int x6_6)]) hx hb dX5_value_104 hl (k := 6) rfl (rfl) (by decide) rfl (fun ls hl => ?_)
              refine lv_aload_n hx hb dX5_value_107 rfl (lv_at hl 2 rfl) ?_
              refine gt_X5 hx hb hts hown hK hP 56 (hW_w6.o tX_56) 6 (by decide) wd_378 rfl (hW_w6.fr tX_56 rfl) dX5_value_108 ?_
              refine lv_iload hx hb dX5_value_111 (lv_at hl 0 rfl) ?_
              refine lv_iconst (v := 1) hx hb dX5_value_113 (by decide) ?_
              refine lv_isub hx hb dX5_value_114 ?_
              refine lv_iload hx hb dX5_value_115 (lv_at hl 1 rfl) ?_
              refine lv_aload_n hx hb dX5_value_117 rfl (lv_at hl 2 rfl) ?_
              refine gt_X5 hx hb hts hown hK hP 56 (hW_w6.o tX_56) 6 (by decide) wd_378 rfl (hW_w6.fr tX_56 rfl) dX5_value_118 ?_
              refine lv_iload hx hb dX5_value_121 (lv_at hl 0 rfl) ?_
              refine lv_iconst (v := 1) hx hb dX5_value_123 (by decide) ?_
              refine lv_isub hx hb dX5_value_124 ?_
              refine va_iald hx hb hK hP 63 0 (hW_w6.a tX_63) rfl (in_I ((In_sub ((In_dec (y := (-1)) (n := 1) (R_nle_l i_x6_5 (In_lit (n := 1) (by decide) (by decide) : In 1 1 1) c_7 (by decide) : In 2 64 x6_5) (by decide) (by decide)) : In 1 63 (x6_5 + (-1))) (In_lit (n := 1) (by decide) (by decide) : In 1 1 1) (by decide)) : In 0 62 ((x6_5 + (-1)) - 1)) (by decide)) dX5_value_125 ?_
              refine lv_topi (fun v_8 ev_8 => ?_)
              refine lv_aload_n hx hb dX5_value_126 rfl (lv_at hl 2 rfl) ?_
              refine gt_X5 hx hb hts hown hK hP 56 (hW_w6.o tX_56) 6 (by decide) wd_378 rfl (hW_w6.fr tX_56 rfl) dX5_value_127 ?_
              refine lv_iload hx hb dX5_value_130 (lv_at hl 0 rfl) ?_
              refine va_iald hx hb hK hP 63 0 (hW_w6.a tX_63) rfl (in_I ((In_dec (y := (-1)) (n := 1) (R_nle_l i_x6_5 (In_lit (n := 1) (by decide) (by decide) : In 1 1 1) c_7 (by decide) : In 2 64 x6_5) (by decide) (by decide)) : In 1 63 (x6_5 + (-1))) (by decide)) dX5_value_132 ?_
              refine lv_topi (fun v_9 ev_9 => ?_)
              refine kW_i ⟨rfl, rfl⟩ hP hD hS hA (rW_S (As := [.int (v_4 &&& 15), .int v_8, .int v_9]) (rest := [.int ((x6_5 + (-1)) - 1), .ref (q 63)]) hx hb hml hown hts hK hE hP hD (e_X5_joined l D cI cJ cZ q bb bs bp w6 hW_w6 (v_4 &&& 15) v_8 v_9 (R_ne_l (R_le_r (In_lit (n := 7) (by decide) (by decide) : In 7 7 7) ((In_and (n := 15) (by decide) (by decide)) : In 0 15 (v_4 &&& 15)) c_5 (by decide) : In 7 15 (v_4 &&& 15)) (In_lit (n := 7) (by decide) (by decide) : In 7 7 7) c_6 (by decide) : In 8 15 (v_4 &&& 15)) _) ⟨⟨rfl, rfl⟩, rfl, rfl⟩ sv_X5_128 ⟨(Nat.le_trans (by decide) hR.1), (Nat.le_trans (by decide) hR.2)⟩ rfl hl.1 rfl (Nat.le_of_ble_eq_true rfl) dX5_value_133) (fun r_11 w_10 H locs hw_w_10 hP hD hS => ?_)
              obtain ⟨hW_w_10, hs_w_10, hm_12⟩ := hw_w_10
              refine va_iast hx hb hK hP hD hS 63 0 (hW_w_10.a tX_63) rfl (in_I ((In_sub ((In_dec (y := (-1)) (n := 1) (R_nle_l i_x6_5 (In_lit (n := 1) (by decide) (by decide) : In 1 1 1) c_7 (by decide) : In 2 64 x6_5) (by decide) (by decide)) : In 1 63 (x6_5 + (-1))) (In_lit (n := 1) (by decide) (by decide) : In 1 1 1) (by decide)) : In 0 62 ((x6_5 + (-1)) - 1)) (by decide)) dX5_value_136 (fun H locs hP hD hS => fr_w (hW_w_10.uA tX_63 (In_any r_11)) hP hD (fun w_13 ew_13 hW_w_13 hP hD => ?_))
              have hv_w_13 := vw_uA hW_w_10 tX_63 ew_13 (z_ix (z_sub (t_sub ((In_dec (y := (-1)) (n := 1) (R_nle_l i_x6_5 (In_lit (n := 1) (by decide) (by decide) : In 1 1 1) c_7 (by decide) : In 2 64 x6_5) (by decide) (by decide)) : In 1 63 (x6_5 + (-1))) (In_lit (n := 1) (by decide) (by decide) : In 1 1 1) (by decide)) (z_add (t_add (R_nle_l i_x6_5 (In_lit (n := 1) (by decide) (by decide) : In 1 1 1) c_7 (by decide) : In 2 64 x6_5) (In_lit (n := (-1)) (by decide) (by decide) : In (-1) (-1) (-1)) (by decide)) (rfl : (x6_5 : Int32).toInt = _) (show ((-1) : Int32).toInt = (-1) from by decide)) (show (1 : Int32).toInt = 1 from by decide))) (rfl : (r_11 : Int32).toInt = _)
              exact J137 (x6_5 + (-1)) (v_4 &&& 15) w_13 _ _ ls hW_w_13 ((hM_w6.tr hs_w_10 (by decide)).sa ew_13 (by decide)) i_p2 (R_nle_l i_p3 i_x6_6 c_1 (by decide) : In 1 1000 p3) (In_w ((In_dec (y := (-1)) (n := 1) (R_nle_l i_x6_5 (In_lit (n := 1) (by decide) (by decide) : In 1 1 1) c_7 (by decide) : In 2 64 x6_5) (by decide) (by decide)) : In 1 63 (x6_5 + (-1))) (by decide) : In 0 64 (x6_5 + (-1))) (R_nle_r i_p3 i_x6_6 c_1 (by decide) : In 0 999 x6_6) (In_w (R_ne_l (R_le_r (In_lit (n := 7) (by decide) (by decide) : In 7 7 7) ((In_and (n := 15) (by decide) (by decide)) : In 0 15 (v_4 &&& 15)) c_5 (by decide) : In 7 15 (v_4 &&& 15)) (In_lit (n := 7) (by decide) (by decide) : In 7 7 7) c_6 (by decide) : In 8 15 (v_4 &&& 15)) (by decide) : In 0 15 (v_4 &&& 15)) (In_of ((fI_cg (st_ne ew_13 (by decide))).trans ((hs_w_10.gI (by decide)).trans (hM_w6.gI (by decide)))) (In_of (hM_w6.gI (by decide)).symm g6_16_8)) (fun n r t hk => (hmi_6 (n + 1) r t (rl_X5_value_16_6 (n := n) (And.intro (tyX hW_w6) (And.intro i_x6_2 (And.intro i_x6_3 (And.intro i_x6_5 (And.intro i_x6_6 (Or.inr (And.intro (z_nle c_1 (rfl : (p3 : Int32).toInt = _) (rfl : (x6_6 : Int32).toInt = _)) (Or.inl (And.intro (z_le c_5 (show (7 : Int32).toInt = 7 from by decide) (z_and (z_of ev_4 ((hW_w6.va tX_29 _).trans (congrArg (vw w6 29) (z_ix (rfl : (x6_6 : Int32).toInt = _))))) (show (15 : Int32).toInt = 15 from by decide))) (Or.inr (And.intro (z_neq c_6 (z_and (z_of ev_4 ((hW_w6.va tX_29 _).trans (congrArg (vw w6 29) (z_ix (rfl : (x6_6 : Int32).toInt = _))))) (show (15 : Int32).toInt = 15 from by decide)) (show (7 : Int32).toInt = 7 from by decide)) (Or.inr (And.intro (z_nle c_7 (rfl : (x6_5 : Int32).toInt = _) (show (1 : Int32).toInt = 1 from by decide)) (Exists.intro r_11.toInt (Exists.intro (vw w_10) (And.intro (cgM_3 hm_12 (z_and (z_of ev_4 ((hW_w6.va tX_29 _).trans (congrArg (vw w6 29) (z_ix (rfl : (x6_6 : Int32).toInt = _))))) (show (15 : Int32).toInt = 15 from by decide)) (z_of ev_8 ((hW_w6.va tX_63 _).trans (congrArg (vw w6 63) (z_ix (z_sub (t_sub ((In_dec (y := (-1)) (n := 1) (R_nle_l i_x6_5 (In_lit (n := 1) (by decide) (by decide) : In 1 1 1) c_7 (by decide) : In 2 64 x6_5) (by decide) (by decide)) : In 1 63 (x6_5 + (-1))) (In_lit (n := 1) (by decide) (by decide) : In 1 1 1) (by decide)) (z_add (t_add (R_nle_l i_x6_5 (In_lit (n := 1) (by decide) (by decide) : In 1 1 1) c_7 (by decide) : In 2 64 x6_5) (In_lit (n := (-1)) (by decide) (by decide) : In (-1) (-1) (-1)) (by decide)) (rfl : (x6_5 : Int32).toInt = _) (show ((-1) : Int32).toInt = (-1) from by decide)) (show (1 : Int32).toInt = 1 from by decide)))))) (z_of ev_9 ((hW_w6.va tX_63 _).trans (congrArg (vw w6 63) (z_ix (z_add (t_add (R_nle_l i_x6_5 (In_lit (n := 1) (by decide) (by decide) : In 1 1 1) c_7 (by decide) : In 2 64 x6_5) (In_lit (n := (-1)) (by decide) (by decide) : In (-1) (-1) (-1)) (by decide)) (rfl : (x6_5 : Int32).toInt = _) (show ((-1) : Int32).toInt = (-1) from by decide))))))) (And.intro (hs_w_10.Fr hW_w6 hW_w_10 intsX_ok intsX_ok) (And.intro (tyX hW_w_10) (Exists.intro (vw w_13) (And.intro hv_w_13 (cgK_6 hk (rfl : (p2 : Int32).toInt = _) (rfl : (p3 : Int32).toInt = _) (rfl : (p4 : Int32).toInt = _) (z_add (t_add (R_nle_l i_x6_5 (In_lit (n := 1) (by decide) (by decide) : In 1 1 1) c_7 (by decide) : In 2 64 x6_5) (In_lit (n := (-1)) (by decide) (by decide) : In (-1) (-1) (-1)) (by decide)) (rfl : (x6_5 : Int32).toInt = _) (show ((-1) : Int32).toInt = (-1) from by decide)) (rfl : (x6_6 : Int32).toInt = _) (z_and (z_of ev_4 ((hW_w6.va tX_29 _).trans (congrArg (vw w6 29) (z_ix (rfl : (x6_6 : Int32).toInt = _))))) (show (15 : Int32).toInt = 15 from by decide)))))))))))))))))))))))))) hP hD hS (lv_sub hl [2, 3, 4, 5, 6, 0, 7, 1] rfl)
          · refine lv_iload hx hb dX5_value_76 (lv_at hl 6 rfl) ?_
            refine lv_if_le (tgt := 137) hx hb dX5_value_78 (by decide) (fun c_14 => ?_) (fun c_14 => ?_)
            · exact J137 x6_5 (v_4 &&& 15) w6 _ _ ls hW_w6 hM_w6 i_p2 (R_nle_l i_p3 i_x6_6 c_1 (by decide) : In 1 1000 p3) (In_w (R_le_l i_x6_5 (In_lit (n := 0) (by decide) (by decide) : In 0 0 0) c_14 (by decide) : In 0 0 x6_5) (by decide) : In 0 64 x6_5) (R_nle_r i_p3 i_x6_6 c_1 (by decide) : In 0 999 x6_6) (In_w (R_eq_l (R_le_r (In_lit (n := 7) (by decide) (by decide) : In 7 7 7) ((In_and (n := 15) (by decide) (by decide)) : In 0 15 (v_4 &&& 15)) c_5 (by decide) : In 7 15 (v_4 &&& 15)) (In_lit (n := 7) (by decide) (by decide) : In 7 7 7) c_6 (by decide) : In 7 7 (v_4 &&& 15)) (by decide) : In 0 15 (v_4 &&& 15)) (In_of (hM_w6.gI (by decide)) (In_of (hM_w6.gI (by decide)).symm g6_16_8)) (fun n r t hk => (hmi_6 (n + 1) r t (rl_X5_value_16_6 (n := n) (And.intro (tyX hW_w6) (And.intro i_x6_2 (And.intro i_x6_3 (And.intro i_x6_5 (And.intro i_x6_6 (Or.inr (And.intro (z_nle c_1 (rfl : (p3 : Int32).toInt = _) (rfl : (x6_6 : Int32).toInt = _)) (Or.inl (And.intro (z_le c_5 (show (7 : Int32).toInt = 7 from by decide) (z_and (z_of ev_4 ((hW_w6.va tX_29 _).trans (congrArg (vw w6 29) (z_ix (rfl : (x6_6 : Int32).toInt = _))))) (show (15 : Int32).toInt = 15 from by decide))) (Or.inl (And.intro (z_eq c_6 (z_and (z_of ev_4 ((hW_w6.va tX_29 _).trans (congrArg (vw w6 29) (z_ix (rfl : (x6_6 : Int32).toInt = _))))) (show (15 : Int32).toInt = 15 from by decide)) (show (7 : Int32).toInt = 7 from by decide)) (Or.inl (And.intro (z_le c_14 (rfl : (x6_5 : Int32).toInt = _) (show (0 : Int32).toInt = 0 from by decide)) (cgK_6 hk (rfl : (p2 : Int32).toInt = _) (rfl : (p3 : Int32).toInt = _) (rfl : (p4 : Int32).toInt = _) (rfl : (x6_5 : Int32).toInt = _) (rfl : (x6_6 : Int32).toInt = _) (z_and (z_of ev_4 ((hW_w6.va tX_29 _).trans (congrArg (vw w6 29) (z_ix (rfl : (x6_6 : Int32).toInt = _))))) (show (15 : Int32).toInt = 15 from by decide))))))))))))))))))) hP hD hS (lv_sub hl [1, 2, 3, 4, 5, 6, 7, 0] rfl)
            · refine lv_aload_n hx hb dX5_value_81 rfl (lv_at hl 1 rfl) ?_
              refine gt_X5 hx hb hts hown hK hP 56 (hW_w6.o tX_56) 6 (by decide) wd_378 rfl (hW_w6.fr tX_56 rfl) dX5_value_82 ?_
              refine lv_iload hx hb dX5_value_85 (lv_at hl 6 rfl) ?_
              refine lv_iconst (v := 1) hx hb dX5_value_87 (by decide) ?_
              refine lv_isub hx hb dX5_value_88 ?_
              refine lv_dup2_11 hx hb dX5_value_89 rfl rfl ?_
              refine va_iald hx hb hK hP 63 0 (hW_w6.a tX_63) rfl (in_I ((In_sub (R_nle_l i_x6_5 (In_lit (n := 0) (by decide) (by decide) : In 0 0 0) c_14 (by decide) : In 1 64 x6_5) (In_lit (n := 1) (by decide) (by decide) : In 1 1 1) (by decide)) : In 0 63 (x6_5 - 1)) (by decide)) dX5_value_90 ?_
              refine lv_topi (fun v_15 ev_15 => ?_)
              refine lv_iload hx hb dX5_value_91 (lv_at hl 5 rfl) ?_
              refine lv_ixor hx hb dX5_value_93 ?_
              refine lv_topi (fun v_16 ev_16 => ?_)
              refine va_iast hx hb hK hP hD hS 63 0 (hW_w6.a tX_63) rfl (in_I ((In_sub (R_nle_l i_x6_5 (In_lit (n := 0) (by decide) (by decide) : In 0 0 0) c_14 (by decide) : In 1 64 x6_5) (In_lit (n := 1) (by decide) (by decide) : In 1 1 1) (by decide)) : In 0 63 (x6_5 - 1)) (by decide)) dX5_value_94 (fun H locs hP hD hS => fr_w (hW_w6.uA tX_63 (In_any v_16)) hP hD (fun w_17 ew_17 hW_w_17 hP hD => ?_))
              have hv_w_17 := vw_uA hW_w6 tX_63 ew_17 (z_ix (z_sub (t_sub (R_nle_l i_x6_5 (In_lit (n := 0) (by decide) (by decide) : In 0 0 0) c_14 (by decide) : In 1 64 x6_5) (In_lit (n := 1) (by decide) (by decide) : In 1 1 1) (by decide)) (rfl : (x6_5 : Int32).toInt = _) (show (1 : Int32).toInt = 1 from by decide))) (z_of ev_16 (z_xor (z_of ev_15 ((hW_w6.va tX_63 _).trans (congrArg (vw w6 63) (z_ix (z_sub (t_sub (R_nle_l i_x6_5 (In_lit (n := 0) (by decide) (by decide) : In 0 0 0) c_14 (by decide) : In 1 64 x6_5) (In_lit (n := 1) (by decide) (by decide) : In 1 1 1) (by decide)) (rfl : (x6_5 : Int32).toInt = _) (show (1 : Int32).toInt = 1 from by decide)))))) (rfl : (p4 : Int32).toInt = _)))
              refine lv_goto (tgt := 137) hx hb dX5_value_95 (by decide) ?_
              exact J137 x6_5 (v_4 &&& 15) w_17 _ _ ls hW_w_17 (hM_w6.sa ew_17 (by decide)) i_p2 (R_nle_l i_p3 i_x6_6 c_1 (by decide) : In 1 1000 p3) (In_w (R_nle_l i_x6_5 (In_lit (n := 0) (by decide) (by decide) : In 0 0 0) c_14 (by decide) : In 1 64 x6_5) (by decide) : In 0 64 x6_5) (R_nle_r i_p3 i_x6_6 c_1 (by decide) : In 0 999 x6_6) (In_w (R_eq_l (R_le_r (In_lit (n := 7) (by decide) (by decide) : In 7 7 7) ((In_and (n := 15) (by decide) (by decide)) : In 0 15 (v_4 &&& 15)) c_5 (by decide) : In 7 15 (v_4 &&& 15)) (In_lit (n := 7) (by decide) (by decide) : In 7 7 7) c_6 (by decide) : In 7 7 (v_4 &&& 15)) (by decide) : In 0 15 (v_4 &&& 15)) (In_of ((fI_cg (st_ne ew_17 (by decide))).trans (hM_w6.gI (by decide))) (In_of (hM_w6.gI (by decide)).symm g6_16_8)) (fun n r t hk => (hmi_6 (n + 1) r t (rl_X5_value_16_6 (n := n) (And.intro (tyX hW_w6) (And.intro i_x6_2 (And.intro i_x6_3 (And.intro i_x6_5 (And.intro i_x6_6 (Or.inr (And.intro (z_nle c_1 (rfl : (p3 : Int32).toInt = _) (rfl : (x6_6 : Int32).toInt = _)) (Or.inl (And.intro (z_le c_5 (show (7 : Int32).toInt = 7 from by decide) (z_and (z_of ev_4 ((hW_w6.va tX_29 _).trans (congrArg (vw w6 29) (z_ix (rfl : (x6_6 : Int32).toInt = _))))) (show (15 : Int32).toInt = 15 from by decide))) (Or.inl (And.intro (z_eq c_6 (z_and (z_of ev_4 ((hW_w6.va tX_29 _).trans (congrArg (vw w6 29) (z_ix (rfl : (x6_6 : Int32).toInt = _))))) (show (15 : Int32).toInt = 15 from by decide)) (show (7 : Int32).toInt = 7 from by decide)) (Or.inr (And.intro (z_nle c_14 (rfl : (x6_5 : Int32).toInt = _) (show (0 : Int32).toInt = 0 from by decide)) (Exists.intro (vw w_17) (And.intro hv_w_17 (cgK_6 hk (rfl : (p2 : Int32).toInt = _) (rfl : (p3 : Int32).toInt = _) (rfl : (p4 : Int32).toInt = _) (rfl : (x6_5 : Int32).toInt = _) (rfl : (x6_6 : Int32).toInt = _) (z_and (z_of ev_4 ((hW_w6.va tX_29 _).trans (congrArg (vw w6 29) (z_ix (rfl : (x6_6 : Int32).toInt = _))))) (show (15 : Int32).toInt = 15 from by decide))))))))))))))))))))) hP hD hS (lv_sub hl [1, 2, 3, 4, 5, 6, 7, 0] rfl)
        · refine lv_iload hx hb dX5_value_31 (lv_at hl 6 rfl) ?_
          refine lv_bipush (v := 64) hx hb dX5_value_33 (by decide) ?_
          refine lv_icmp_ge (tgt := 137) hx hb dX5_value_35 (by decide) (fun c_18 => ?_) (fun c_18 => ?_)
          · exact J137 x6_5 (v_4 &&& 15) w6 _ _ ls hW_w6 hM_w6 i_p2 (R_nle_l i_p3 i_x6_6 c_1 (by decide) : In 1 1000 p3) (In_w (R_le_r (In_lit (n := 64) (by decide) (by decide) : In 64 64 64) i_x6_5 c_18 (by decide) : In 64 64 x6_5) (by decide) : In 0 64 x6_5) (R_nle_r i_p3 i_x6_6 c_1 (by decide) : In 0 999 x6_6) (In_w (R_nle_r (In_lit (n := 7) (by decide) (by decide) : In 7 7 7) ((In_and (n := 15) (by decide) (by decide)) : In 0 15 (v_4 &&& 15)) c_5 (by decide) : In 0 6 (v_4 &&& 15)) (by decide) : In 0 15 (v_4 &&& 15)) (In_of (hM_w6.gI (by decide)) (In_of (hM_w6.gI (by decide)).symm g6_16_8)) (fun n r t hk => (hmi_6 (n + 1) r t (rl_X5_value_16_6 (n := n) (And.intro (tyX hW_w6) (And.intro i_x6_2 (And.intro i_x6_3 (And.intro i_x6_5 (And.intro i_x6_6 (Or.inr (And.intro (z_nle c_1 (rfl : (p3 : Int32).toInt = _) (rfl : (x6_6 : Int32).toInt = _)) (Or.inr (And.intro (z_nle c_5 (show (7 : Int32).toInt = 7 from by decide) (z_and (z_of ev_4 ((hW_w6.va tX_29 _).trans (congrArg (vw w6 29) (z_ix (rfl : (x6_6 : Int32).toInt = _))))) (show (15 : Int32).toInt = 15 from by decide))) (Or.inl (And.intro (z_le c_18 (show (64 : Int32).toInt = 64 from by decide) (rfl : (x6_5 : Int32).toInt = _)) (cgK_6 hk (rfl : (p2 : Int32).toInt = _) (rfl : (p3 : Int32).toInt = _) (rfl : (p4 : Int32).toInt = _) (rfl : (x6_5 : Int32).toInt = _) (rfl : (x6_6 : Int32).toInt = _) (z_and (z_of ev_4 ((hW_w6.va tX_29 _).trans (congrArg (vw w6 29) (z_ix (rfl : (x6_6 : Int32).toInt = _))))) (show (15 : Int32).toInt = 15 from by decide))))))))))))))))) hP hD hS (lv_sub hl [1, 2, 3, 4, 5, 6, 7, 0] rfl)
          · refine lv_aload_n hx hb dX5_value_38 rfl (lv_at hl 1 rfl) ?_
            refine gt_X5 hx hb hts hown hK hP 56 (hW_w6.o tX_56) 6 (by decide) wd_378 rfl (hW_w6.fr tX_56 rfl) dX5_value_39 ?_
            refine lv_iload hx hb dX5_value_42 (lv_at hl 6 rfl) ?_
            refine lv_aload_n hx hb dX5_value_44 rfl (lv_at hl 1 rfl) ?_
            refine lv_aload_n hx hb dX5_value_45 rfl (lv_at hl 2 rfl) ?_
            refine lv_iload hx hb dX5_value_46 (lv_at hl 0 rfl) ?_
            refine lv_aload_n hx hb dX5_value_48 rfl (lv_at hl 2 rfl) ?_
            refine gt_X1 hx hb hts hown hK hP 16 (hW_w6.o tX_16) 16 (by decide) wd_85 rfl (hW_w6.fr tX_16 rfl) dX5_value_49 ?_
            refine lv_iload hx hb dX5_value_52 (lv_at hl 7 rfl) ?_
            refine va_iald hx hb hK hP 29 0 (hW_w6.a tX_29) rfl (in_I (R_nle_r i_p3 i_x6_6 c_1 (by decide) : In 0 999 x6_6) (by decide)) dX5_value_54 ?_
            refine tov (v := v_4) ((congrFun (hM_w6.hA (by decide)) _).trans ((congrFun (hM_w6.hA (by decide)) _).symm.trans ev_4.symm)) ?_
            refine lv_iconst (v := 4) hx hb dX5_value_55 (by decide) ?_
            refine lv_ishr hx hb dX5_value_56 ?_
            refine lv_topi (fun v_19 ev_19 => ?_)
            refine lv_iload hx hb dX5_value_57 (lv_at hl 5 rfl) ?_
            refine kW_i ⟨rfl, rfl⟩ hP hD hS hA (rW_V (As := [.ref (q 16), .int (v_4 &&& 15), .int v_19, .int p4]) (rest := [.int x6_5, .ref (q 63)]) hx hb hml hown hts hK hE hP hD (e_X5_leaf_16 l D cI cJ cZ q bb bs bp w6 hW_w6 (v_4 &&& 15) v_19 p4 (R_nle_r (In_lit (n := 7) (by decide) (by decide) : In 7 7 7) ((In_and (n := 15) (by decide) (by decide)) : In 0 15 (v_4 &&& 15)) c_5 (by decide) : In 0 6 (v_4 &&& 15)) (In_of (hM_w6.gI (by decide)) (In_of (hM_w6.gI (by decide)).symm g6_16_8)) (okc_lf ev_19 ev_4 (hW_w6.ap tX_29 _)) _) ⟨⟨rfl, rfl⟩, rfl, rfl⟩ sv_X5_125 ⟨(Nat.le_trans (by decide) hR.1), (Nat.le_trans (by decide) hR.2)⟩ 56 5 (hW_w6.o tX_56) rfl rfl rfl hl.1 rfl (Nat.le_of_ble_eq_true rfl) dX5_value_59) (fun r_21 w_20 H locs hw_w_20 hP hD hS => ?_)
            obtain ⟨hW_w_20, hs_w_20, hm_22⟩ := hw_w_20
            refine va_iast hx hb hK hP hD hS 63 0 (hW_w_20.a tX_63) rfl (in_I (R_nle_r (In_lit (n := 64) (by decide) (by decide) : In 64 64 64) i_x6_5 c_18 (by decide) : In 0 63 x6_5) (by decide)) dX5_value_62 (fun H locs hP hD hS => fr_w (hW_w_20.uA tX_63 (In_any r_21)) hP hD (fun w_23 ew_23 hW_w_23 hP hD => ?_))
            have hv_w_23 := vw_uA hW_w_20 tX_63 ew_23 (z_ix (rfl : (x6_5 : Int32).toInt = _)) (rfl : (r_21 : Int32).toInt = _)
            refine lv_iinc (v := (x6_5 + 1)) (lv' := [(5, .int (x6_5 + 1)), (7, .int (v_4 &&& 15)), (0, .ref (q 56)), (1, .ref (q 16)), (2, .int p2), (3, .int p3), (4, .int p4), (6, .int x6_6)]) hx hb dX5_value_63 hl (k := 6) rfl (rfl) (by decide) rfl (fun ls hl => ?_)
            refine lv_goto (tgt := 137) hx hb dX5_value_66 (by decide) ?_
            exact J137 (x6_5 + 1) (v_4 &&& 15) w_23 _ _ ls hW_w_23 ((hM_w6.tr hs_w_20 (by decide)).sa ew_23 (by decide)) i_p2 (R_nle_l i_p3 i_x6_6 c_1 (by decide) : In 1 1000 p3) (In_w ((In_add (y := 1) (R_nle_r (In_lit (n := 64) (by decide) (by decide) : In 64 64 64) i_x6_5 c_18 (by decide) : In 0 63 x6_5) (In_lit (n := 1) (by decide) (by decide) : In 1 1 1) (by decide)) : In 1 64 (x6_5 + 1)) (by decide) : In 0 64 (x6_5 + 1)) (R_nle_r i_p3 i_x6_6 c_1 (by decide) : In 0 999 x6_6) (In_w (R_nle_r (In_lit (n := 7) (by decide) (by decide) : In 7 7 7) ((In_and (n := 15) (by decide) (by decide)) : In 0 15 (v_4 &&& 15)) c_5 (by decide) : In 0 6 (v_4 &&& 15)) (by decide) : In 0 15 (v_4 &&& 15)) (In_of ((fI_cg (st_ne ew_23 (by decide))).trans ((hs_w_20.gI (by decide)).trans (hM_w6.gI (by decide)))) (In_of (hM_w6.gI (by decide)).symm g6_16_8)) (fun n r t hk => (hmi_6 (n + 1) r t (rl_X5_value_16_6 (n := n) (And.intro (tyX hW_w6) (And.intro i_x6_2 (And.intro i_x6_3 (And.intro i_x6_5 (And.intro i_x6_6 (Or.inr (And.intro (z_nle c_1 (rfl : (p3 : Int32).toInt = _) (rfl : (x6_6 : Int32).toInt = _)) (Or.inr (And.intro (z_nle c_5 (show (7 : Int32).toInt = 7 from by decide) (z_and (z_of ev_4 ((hW_w6.va tX_29 _).trans (congrArg (vw w6 29) (z_ix (rfl : (x6_6 : Int32).toInt = _))))) (show (15 : Int32).toInt = 15 from by decide))) (Or.inr (And.intro (z_nle c_18 (show (64 : Int32).toInt = 64 from by decide) (rfl : (x6_5 : Int32).toInt = _)) (Exists.intro r_21.toInt (Exists.intro (vw w_20) (And.intro (cgM_3 hm_22 (z_and (z_of ev_4 ((hW_w6.va tX_29 _).trans (congrArg (vw w6 29) (z_ix (rfl : (x6_6 : Int32).toInt = _))))) (show (15 : Int32).toInt = 15 from by decide)) (z_of ev_19 (z_shr (z_of ev_4 ((hW_w6.va tX_29 _).trans (congrArg (vw w6 29) (z_ix (rfl : (x6_6 : Int32).toInt = _))))) (show (4 : Int32).toInt = 4 from by decide))) (rfl : (p4 : Int32).toInt = _)) (And.intro (hs_w_20.Fr hW_w6 hW_w_20 intsX_ok intsX_ok) (And.intro (tyX hW_w_20) (Exists.intro (vw w_23) (And.intro hv_w_23 (cgK_6 hk (rfl : (p2 : Int32).toInt = _) (rfl : (p3 : Int32).toInt = _) (rfl : (p4 : Int32).toInt = _) (z_add (t_add (R_nle_r (In_lit (n := 64) (by decide) (by decide) : In 64 64 64) i_x6_5 c_18 (by decide) : In 0 63 x6_5) (In_lit (n := 1) (by decide) (by decide) : In 1 1 1) (by decide)) (rfl : (x6_5 : Int32).toInt = _) (show (1 : Int32).toInt = 1 from by decide)) (rfl : (x6_6 : Int32).toInt = _) (z_and (z_of ev_4 ((hW_w6.va tX_29 _).trans (congrArg (vw w6 29) (z_ix (rfl : (x6_6 : Int32).toInt = _))))) (show (15 : Int32).toInt = 15 from by decide)))))))))))))))))))))))) hP hD hS (lv_sub hl [2, 3, 4, 5, 6, 0, 7, 1] rfl)
  refine lv_iconst (v := 0) hx hb dX5_value_0 (by decide) ?_
  refine lv_istore (lv' := [(5, .int 0), (0, .ref (q 56)), (1, .ref (q 16)), (2, .int p2), (3, .int p3), (4, .int p4)]) hx hb dX5_value_1 hl (by decide) rfl (fun ls hl => ?_)
  refine lv_iload_n hx hb dX5_value_3 rfl (lv_at hl 3 rfl) ?_
  refine lv_istore (lv' := [(6, .int p2), (5, .int 0), (0, .ref (q 56)), (1, .ref (q 16)), (2, .int p2), (3, .int p3), (4, .int p4)]) hx hb dX5_value_4 hl (by decide) rfl (fun ls hl => ?_)
  exact J6 _ 0 p2 w _ _ ls (Nat.lt_succ_self _) hW_w Sm.rf i_p2 i_p3 (In_lit (n := 0) (by decide) (by decide) : In 0 64 0) i_p2 hf_16_8 (fun n r t hk => (mk_X5_value_16 (n := n) (And.intro (tyX hW_w) (And.intro i_p2 (And.intro i_p3 (cgK_6 hk (rfl : (p2 : Int32).toInt = _) (rfl : (p3 : Int32).toInt = _) (rfl : (p4 : Int32).toInt = _) (show (0 : Int32).toInt = 0 from by decide) (rfl : (p2 : Int32).toInt = _) rfl)))))) hP hD hS (lv_sub hl [2, 3, 4, 5, 6, 1, 0] rfl)
set_option maxRecDepth 100000 in
set_option maxHeartbeats 8000000 in
theorem e_X5_chooseKinds_16 (l : Launch) (D : va_G) (cI cJ cZ : ClassId) (q : Nat → Nat) (bb bs bp : Nat) (w : va_W) (hW_w : HT q (TX q cI cJ cZ bb bs bp) w) : Con_v l yX5_chooseKinds cX5_chooseKinds 4 none ({ frames := 4, cells := 0, slots := 0, locals := 93 }) D cI cJ cZ eW [.ref (q 56), .ref (q 16)] w (fun (w1 : va_W) => HT q (TX q cI cJ cZ bb bs bp) w1 ∧ Sm [28, 63] [] w w1 ∧ M_X5_chooseKinds_16 (vw w) 0 (vw w1)) := by
  refine eQ_v rfl (by decide) (Nat.le_of_ble_eq_true rfl) ⟨rfl, rfl⟩ ?_
  intro p e R s m args below meth c A Q hx hb hml hown hts hK hE hA hR hret hP hD hS ls hl
  have hown : s.vm.findClass RX5 = some m.cls := hown
  have hl : lv_has ls 4 [(0, .ref (q 56)), (1, .ref (q 16))] := hl
  have J11 : ∀ (N : Nat) (x11_2 : Int32) (x11_3 : Int32) (w11 : va_W) (H : Heap) (locs : List Loc) (ls : Array Slot), (24 - x11_3.toInt).toNat < N → HT q (TX q cI cJ cZ bb bs bp) w11 → Sm [28, 63] [] w w11 → (In 0 24 x11_3) → (∀ (n : Nat) (r : Int) (t : PS), It_X5_chooseKinds_16 n x11_2.toInt x11_3.toInt (vw w11) r t → M_X5_chooseKinds_16 (vw w) r t) → va_P D vwCl w11 H → va_D A w11 → va_S A s.heap H locs → lv_has ls 4 [(0, .ref (q 56)), (1, .ref (q 16)), (2, .int x11_2), (3, .int x11_3)] → W p l e R s m args below meth c H locs 0 0 Q (F0 m 11 ls []) := by
    intro N
    induction N with
    | zero => intro x11_2 x11_3 w11 H locs ls hmu; exact absurd hmu (Nat.not_lt_zero _)
    | succ N ih11 =>
      intro x11_2 x11_3 w11 H locs ls hmu11 hW_w11 hM_w11 i_x11_3 hmi_11 hP hD hS hl
      refine lv_iload_n hx hb dX5_chooseKinds_11 rfl (lv_at hl 3 rfl) ?_
      refine lv_aload_n hx hb dX5_chooseKinds_12 rfl (lv_at hl 1 rfl) ?_
      refine gt_X1 hx hb hts hown hK hP 16 (hW_w11.o tX_16) 8 (by decide) wd_64 rfl (hW_w11.fi tX_16 rfl) dX5_chooseKinds_13 ?_
      refine tov (v := (fI w 16 8)) (hM_w11.gI (by decide)) ?_
      refine lv_icmp_ge (tgt := 49) hx hb dX5_chooseKinds_16 (by decide) (fun c_1 => ?_) (fun c_1 => ?_)
      · exact hret _ _ _ _ _ hP hD hS dX5_chooseKinds_49 ⟨hW_w11, hM_w11, (hmi_11 (0 + 1) _ _ (rl_X5_chooseKinds_16_11 (n := 0) (And.intro (tyX hW_w11) (And.intro i_x11_3 (Or.inl (And.intro (z_le c_1 (z_of (hM_w11.gI (by decide)).symm (hW_w11.vi tX_16 rfl)) (rfl : (x11_3 : Int32).toInt = _)) (And.intro rfl rfl)))))))⟩
      · refine lv_aload_n hx hb dX5_chooseKinds_19 rfl (lv_at hl 1 rfl) ?_
        refine gt_X1 hx hb hts hown hK hP 16 (hW_w11.o tX_16) 15 (by decide) wd_83 rfl (hW_w11.fr tX_16 rfl) dX5_chooseKinds_20 ?_
        refine lv_iload_n hx hb dX5_chooseKinds_23 rfl (lv_at hl 3 rfl) ?_
        refine lv_aload_n hx hb dX5_chooseKinds_24 rfl (lv_at hl 0 rfl) ?_
        refine lv_aload_n hx hb dX5_chooseKinds_25 rfl (lv_at hl 1 rfl) ?_
        refine lv_aload_n hx hb dX5_chooseKinds_26 rfl (lv_at hl 1 rfl) ?_
        refine gt_X1 hx hb hts hown hK hP 16 (hW_w11.o tX_16) 12 (by decide) wd_77 rfl (hW_w11.fr tX_16 rfl) dX5_chooseKinds_27 ?_
        refine lv_iload_n hx hb dX5_chooseKinds_30 rfl (lv_at hl 3 rfl) ?_
        refine va_iald hx hb hK hP 25 0 (hW_w11.a tX_25) rfl (in_I (R_nle_r (hW_w.fin tX_16 rfl : In 0 24 (fI w 16 8)) i_x11_3 c_1 (by decide) : In 0 23 x11_3) (by decide)) dX5_chooseKinds_31 ?_
        refine lv_topi (fun v_2 ev_2 => ?_)
        refine lv_aload_n hx hb dX5_chooseKinds_32 rfl (lv_at hl 1 rfl) ?_
        refine gt_X1 hx hb hts hown hK hP 16 (hW_w11.o tX_16) 13 (by decide) wd_79 rfl (hW_w11.fr tX_16 rfl) dX5_chooseKinds_33 ?_
        refine lv_iload_n hx hb dX5_chooseKinds_36 rfl (lv_at hl 3 rfl) ?_
        refine va_iald hx hb hK hP 26 0 (hW_w11.a tX_26) rfl (in_I (R_nle_r (hW_w.fin tX_16 rfl : In 0 24 (fI w 16 8)) i_x11_3 c_1 (by decide) : In 0 23 x11_3) (by decide)) dX5_chooseKinds_37 ?_
        refine lv_topi (fun v_3 ev_3 => ?_)
        refine lv_iload_n hx hb dX5_chooseKinds_38 rfl (lv_at hl 2 rfl) ?_
        refine kW_i ⟨rfl, rfl⟩ hP hD hS hA (rW_V (As := [.ref (q 16), .int v_2, .int v_3, .int x11_2]) (rest := [.int x11_3, .ref (q 28)]) hx hb hml hown hts hK hE hP hD (e_X5_value_16 l D cI cJ cZ q bb bs bp w11 hW_w11 v_2 v_3 x11_2 (In_of ev_2 (hW_w11.ap tX_25 _) : In 0 1000 v_2) (In_of ev_3 (hW_w11.ap tX_26 _) : In 0 1000 v_3) (In_of (hM_w11.gI (by decide)) (R_nle_l (hW_w.fin tX_16 rfl : In 0 24 (fI w 16 8)) i_x11_3 c_1 (by decide) : In 1 24 (fI w 16 8))) _) ⟨⟨rfl, rfl⟩, rfl, rfl⟩ sv_X5_51 ⟨(Nat.le_trans (by decide) hR.1), (Nat.le_trans (by decide) hR.2)⟩ 56 5 (hW_w11.o tX_56) rfl rfl rfl hl.1 rfl (Nat.le_of_ble_eq_true rfl) dX5_chooseKinds_39) (fun r_5 w_4 H locs hw_w_4 hP hD hS => ?_)
        obtain ⟨hW_w_4, hs_w_4, hm_6⟩ := hw_w_4
        refine va_iast hx hb hK hP hD hS 28 0 (hW_w_4.a tX_28) rfl (in_I (R_nle_r (hW_w.fin tX_16 rfl : In 0 24 (fI w 16 8)) i_x11_3 c_1 (by decide) : In 0 23 x11_3) (by decide)) dX5_chooseKinds_42 (fun H locs hP hD hS => fr_w (hW_w_4.uA tX_28 (In_any r_5)) hP hD (fun w_7 ew_7 hW_w_7 hP hD => ?_))
        have hv_w_7 := vw_uA hW_w_4 tX_28 ew_7 (z_ix (rfl : (x11_3 : Int32).toInt = _)) (rfl : (r_5 : Int32).toInt = _)
        refine lv_iinc (v := (x11_3 + 1)) (lv' := [(3, .int (x11_3 + 1)), (0, .ref (q 56)), (1, .ref (q 16)), (2, .int x11_2)]) hx hb dX5_chooseKinds_43 hl (k := 3) rfl (rfl) (by decide) rfl (fun ls hl => ?_)
        refine lv_goto (tgt := 11) hx hb dX5_chooseKinds_46 (by decide) ?_
        exact ih11 x11_2 (x11_3 + 1) w_7 _ _ ls (mu_inc hmu11 (R_nle_r (hW_w.fin tX_16 rfl : In 0 24 (fI w 16 8)) i_x11_3 c_1 (by decide) : In 0 23 x11_3) (In_lit (n := 1) (by decide) (by decide) : In 1 1 1) (by decide)) hW_w_7 ((hM_w11.tr hs_w_4 (by decide)).sa ew_7 (by decide)) (In_w ((In_add (y := 1) (R_nle_r (hW_w.fin tX_16 rfl : In 0 24 (fI w 16 8)) i_x11_3 c_1 (by decide) : In 0 23 x11_3) (In_lit (n := 1) (by decide) (by decide) : In 1 1 1) (by decide)) : In 1 24 (x11_3 + 1)) (by decide) : In 0 24 (x11_3 + 1)) (fun n r t hk => (hmi_11 (n + 1) r t (rl_X5_chooseKinds_16_11 (n := n) (And.intro (tyX hW_w11) (And.intro i_x11_3 (Or.inr (And.intro (z_nle c_1 (z_of (hM_w11.gI (by decide)).symm (hW_w11.vi tX_16 rfl)) (rfl : (x11_3 : Int32).toInt = _)) (Exists.intro r_5.toInt (Exists.intro (vw w_4) (And.intro (cgM_3 hm_6 (z_of ev_2 ((hW_w11.va tX_25 _).trans (congrArg (vw w11 25) (z_ix (rfl : (x11_3 : Int32).toInt = _))))) (z_of ev_3 ((hW_w11.va tX_26 _).trans (congrArg (vw w11 26) (z_ix (rfl : (x11_3 : Int32).toInt = _))))) (rfl : (x11_2 : Int32).toInt = _)) (And.intro (hs_w_4.Fr hW_w11 hW_w_4 intsX_ok intsX_ok) (And.intro (tyX hW_w_4) (Exists.intro (vw w_7) (And.intro hv_w_7 (cgK_2 hk (rfl : (x11_2 : Int32).toInt = _) (z_add (t_add (R_nle_r (hW_w.fin tX_16 rfl : In 0 24 (fI w 16 8)) i_x11_3 c_1 (by decide) : In 0 23 x11_3) (In_lit (n := 1) (by decide) (by decide) : In 1 1 1) (by decide)) (rfl : (x11_3 : Int32).toInt = _) (show (1 : Int32).toInt = 1 from by decide))))))))))))))))) hP hD hS (lv_sub hl [1, 2, 3, 0] rfl)
  refine lv_iconst (v := 1) hx hb dX5_chooseKinds_0 (by decide) ?_
  refine lv_aload_n hx hb dX5_chooseKinds_1 rfl (lv_at hl 1 rfl) ?_
  refine gt_X1 hx hb hts hown hK hP 16 (hW_w.o tX_16) 0 (by decide) wd_36 rfl (hW_w.fi tX_16 rfl) dX5_chooseKinds_2 ?_
  refine lv_ishl hx hb dX5_chooseKinds_5 ?_
  refine lv_topi (fun v_8 ev_8 => ?_)
  refine lv_iconst (v := 1) hx hb dX5_chooseKinds_6 (by decide) ?_
  refine lv_isub hx hb dX5_chooseKinds_7 ?_
  refine lv_istore_n (lv' := [(2, .int (v_8 - 1)), (0, .ref (q 56)), (1, .ref (q 16))]) hx hb dX5_chooseKinds_8 rfl hl (by decide) rfl (fun ls hl => ?_)
  refine lv_iconst (v := 0) hx hb dX5_chooseKinds_9 (by decide) ?_
  refine lv_istore_n (lv' := [(3, .int 0), (2, .int (v_8 - 1)), (0, .ref (q 56)), (1, .ref (q 16))]) hx hb dX5_chooseKinds_10 rfl hl (by decide) rfl (fun ls hl => ?_)
  exact J11 _ (v_8 - 1) 0 w _ _ ls (Nat.lt_succ_self _) hW_w Sm.rf (In_lit (n := 0) (by decide) (by decide) : In 0 24 0) (fun n r t hk => (mk_X5_chooseKinds_16 (n := n) (And.intro (tyX hW_w) (cgK_2 hk (z_subw (z_of ev_8 (z_shl (show (1 : Int32).toInt = 1 from by decide) (hW_w.vi tX_16 rfl))) (show (1 : Int32).toInt = 1 from by decide)) (show (0 : Int32).toInt = 0 from by decide))))) hP hD hS (lv_sub hl [2, 3, 1, 0] rfl)
set_option maxRecDepth 100000 in
set_option maxHeartbeats 8000000 in
theorem e_X6_forget (l : Launch) (D : va_G) (cI cJ cZ : ClassId) (q : Nat → Nat) (bb bs bp : Nat) (w : va_W) (hW_w : HT q (TX q cI cJ cZ bb bs bp) w) (hf_34_4 : In 0 0 (fI w 34 4)) (hf_35_0 : In 0 0 (fI w 35 0)) : Con_v l yX6_forget cX6_forget 1 none ({ frames := 0, cells := 0, slots := 0, locals := 0 }) D cI cJ cZ eW [.ref (q 42)] w (fun (w1 : va_W) => HT q (TX q cI cJ cZ bb bs bp) w1 ∧ Sm [42] [(42, 0)] w w1 ∧ M_X6_forget (vw w) 0 (vw w1)) := by
  refine eQ_v rfl (by decide) (Nat.le_of_ble_eq_true rfl) ⟨rfl, rfl⟩ ?_
  intro p e R s m args below meth c A Q hx hb hml hown hts hK hE hA hR hret hP hD hS ls hl
  have hown : s.vm.findClass RX6 = some m.cls := hown
  have hl : lv_has ls 1 [(0, .ref (q 42))] := hl
  refine lv_aload_n hx hb dX6_forget_0 rfl (lv_at hl 0 rfl) ?_
  refine lv_iconst (v := (-1)) hx hb dX6_forget_1 (by decide) ?_
  refine pt_X6 hx hb hts hown hK hP hD hS 42 (hW_w.o tX_42) 0 (by decide) wd_290 rfl rfl (ty := .int) (v := .int (-1)) (by decide +kernel) rfl rfl (hW_w.ll tX_42 (Nat.le_of_ble_eq_true rfl)) dX6_forget_2 (fun H locs hP hD hS => fr_w (hW_w.sI tX_42 rfl (In_lit (n := (-1)) (by decide) (by decide) : In (-1) 200 (-1))) hP hD (fun w_1 ew_1 hW_w_1 hP hD => ?_))
  have hv_w_1 := vw_sI (j := 0) hW_w tX_42 rfl ew_1 (show ((-1) : Int32).toInt = (-1) from by decide)
  exact hret _ _ _ _ _ hP hD hS dX6_forget_5 ⟨hW_w_1, (Sm.rf.sf (hW_w.lt tX_42) ew_1 (by decide)), (mk_X6_forget (And.intro (tyX hW_w) (Exists.intro (vw w_1) (And.intro hv_w_1 (And.intro rfl rfl)))))⟩
set_option maxRecDepth 100000 in
set_option maxHeartbeats 8000000 in
theorem e_X7_empty (l : Launch) (D : va_G) (cI cJ cZ : ClassId) (q : Nat → Nat) (bb bs bp : Nat) (w : va_W) (hW_w : HT q (TX q cI cJ cZ bb bs bp) w) : Con_v l yX7_empty cX7_empty 1 none ({ frames := 0, cells := 0, slots := 0, locals := 0 }) D cI cJ cZ eW [.ref (q 35)] w (fun (w1 : va_W) => HT q (TX q cI cJ cZ bb bs bp) w1 ∧ Sm [35] [(35, 0), (35, 1)] w w1 ∧ In 0 0 (fI w1 35 0) ∧ M_X7_empty (vw w) 0 (vw w1)) := by
  refine eQ_v rfl (by decide) (Nat.le_of_ble_eq_true rfl) ⟨rfl, rfl⟩ ?_
  intro p e R s m args below meth c A Q hx hb hml hown hts hK hE hA hR hret hP hD hS ls hl
  have hown : s.vm.findClass RX7 = some m.cls := hown
  have hl : lv_has ls 1 [(0, .ref (q 35))] := hl
  refine lv_aload_n hx hb dX7_empty_0 rfl (lv_at hl 0 rfl) ?_
  refine lv_iconst (v := 0) hx hb dX7_empty_1 (by decide) ?_
  refine pt_X7 hx hb hts hown hK hP hD hS 35 (hW_w.o tX_35) 0 (by decide) wd_251 rfl rfl (ty := .int) (v := .int 0) (by decide +kernel) rfl rfl (hW_w.ll tX_35 (Nat.le_of_ble_eq_true rfl)) dX7_empty_2 (fun H locs hP hD hS => fr_w (hW_w.sI tX_35 rfl (In_lit (n := 0) (by decide) (by decide) : In 0 200 0)) hP hD (fun w_1 ew_1 hW_w_1 hP hD => ?_))
  have hv_w_1 := vw_sI (j := 0) hW_w tX_35 rfl ew_1 (show (0 : Int32).toInt = 0 from by decide)
  refine lv_aload_n hx hb dX7_empty_5 rfl (lv_at hl 0 rfl) ?_
  refine lv_iconst (v := 0) hx hb dX7_empty_6 (by decide) ?_
  refine pt_X7 hx hb hts hown hK hP hD hS 35 (hW_w_1.o tX_35) 1 (by decide) wd_253 rfl rfl (ty := .int) (v := .int 0) (by decide +kernel) rfl rfl (hW_w_1.ll tX_35 (Nat.le_of_ble_eq_true rfl)) dX7_empty_7 (fun H locs hP hD hS => fr_w (hW_w_1.sI tX_35 rfl (In_lit (n := 0) (by decide) (by decide) : In (-2147483648) 2147483647 0)) hP hD (fun w_2 ew_2 hW_w_2 hP hD => ?_))
  have hv_w_2 := vw_sI (j := 1) hW_w_1 tX_35 rfl ew_2 (show (0 : Int32).toInt = 0 from by decide)
  exact hret _ _ _ _ _ hP hD hS dX7_empty_10 ⟨hW_w_2, ((Sm.rf.sf (hW_w.lt tX_35) ew_1 (by decide)).sf (hW_w_1.lt tX_35) ew_2 (by decide)), (In_of ((fI_nej (hW_w_1.lt tX_35) ew_2 (by decide)).trans (fI_eq (hW_w.lt tX_35) ew_1 (hW_w.ll tX_35 (Nat.le_of_ble_eq_true rfl)))) (In_lit (n := 0) (by decide) (by decide) : In 0 0 0)), (mk_X7_empty (And.intro (tyX hW_w) (Exists.intro (vw w_1) (And.intro hv_w_1 (Exists.intro (vw w_2) (And.intro hv_w_2 (And.intro rfl rfl)))))))⟩
set_option maxRecDepth 100000 in
set_option maxHeartbeats 8000000 in
theorem e_X10_readNumber (l : Launch) (D : va_G) (cI cJ cZ : ClassId) (q : Nat → Nat) (bb bs bp : Nat) (w : va_W) (hW_w : HT q (TX q cI cJ cZ bb bs bp) w) : Con_v l yX10_readNumber cX10_readNumber 1 none ({ frames := 0, cells := 0, slots := 0, locals := 0 }) D cI cJ cZ eW [.ref (q 31)] w (fun (w1 : va_W) => HT q (TX q cI cJ cZ bb bs bp) w1 ∧ Sm [31] [(31, 3), (31, 4), (31, 5), (31, 7)] w w1 ∧ M_X10_readNumber (vw w) 0 (vw w1)) := by
  refine eQ_v rfl (by decide) (Nat.le_of_ble_eq_true rfl) ⟨rfl, rfl⟩ ?_
  intro p e R s m args below meth c A Q hx hb hml hown hts hK hE hA hR hret hP hD hS ls hl
  have hown : s.vm.findClass RX10 = some m.cls := hown
  have hl : lv_has ls 1 [(0, .ref (q 31))] := hl
  have J5 : ∀ (N : Nat) (w5 : va_W) (H : Heap) (locs : List Loc) (ls : Array Slot), (1000 - (fI w5 31 3).toInt).toNat < N → HT q (TX q cI cJ cZ bb bs bp) w5 → Sm [31] [(31, 3), (31, 4), (31, 5), (31, 7)] w w5 → (∀ (n : Nat) (r : Int) (t : PS), It_X10_readNumber n (vw w5) r t → M_X10_readNumber (vw w) r t) → va_P D vwCl w5 H → va_D A w5 → va_S A s.heap H locs → lv_has ls 1 [(0, .ref (q 31))] → W p l e R s m args below meth c H locs 0 0 Q (F0 m 5 ls []) := by
    intro N
    induction N with
    | zero => intro w5 H locs ls hmu; exact absurd hmu (Nat.not_lt_zero _)
    | succ N ih5 =>
      intro w5 H locs ls hmu5 hW_w5 hM_w5 hmi_5 hP hD hS hl
      refine lv_aload_n hx hb dX10_readNumber_5 rfl (lv_at hl 0 rfl) ?_
      refine gt_X10 hx hb hts hown hK hP 31 (hW_w5.o tX_31) 3 (by decide) wd_194 rfl (hW_w5.fi tX_31 rfl) dX10_readNumber_6 ?_
      refine lv_aload_n hx hb dX10_readNumber_9 rfl (lv_at hl 0 rfl) ?_
      refine gt_X10 hx hb hts hown hK hP 31 (hW_w5.o tX_31) 1 (by decide) wd_192 rfl (hW_w5.fi tX_31 rfl) dX10_readNumber_10 ?_
      refine tov (v := (fI w 31 1)) (hM_w5.2 31 1 (by decide) (by decide)) ?_
      refine lv_icmp_ge (tgt := 110) hx hb dX10_readNumber_13 (by decide) (fun c_1 => ?_) (fun c_1 => ?_)
      · refine lv_aload_n hx hb dX10_readNumber_110 rfl (lv_at hl 0 rfl) ?_
        refine lv_sipush (v := 259) hx hb dX10_readNumber_111 (by decide) ?_
        refine pt_X10 hx hb hts hown hK hP hD hS 31 (hW_w5.o tX_31) 4 (by decide) wd_196 rfl rfl (ty := .int) (v := .int 259) (by decide +kernel) rfl rfl (hW_w5.ll tX_31 (Nat.le_of_ble_eq_true rfl)) dX10_readNumber_114 (fun H locs hP hD hS => fr_w (hW_w5.sI tX_31 rfl (In_lit (n := 259) (by decide) (by decide) : In (-2147483648) 2147483647 259)) hP hD (fun w_2 ew_2 hW_w_2 hP hD => ?_))
        have hv_w_2 := vw_sI (j := 4) hW_w5 tX_31 rfl ew_2 (show (259 : Int32).toInt = 259 from by decide)
        exact hret _ _ _ _ _ hP hD hS dX10_readNumber_117 ⟨hW_w_2, (hM_w5.sf (hW_w5.lt tX_31) ew_2 (by decide)), (hmi_5 (0 + 1) _ _ (rl_X10_readNumber_5 (n := 0) (And.intro (tyX hW_w5) (Or.inl (And.intro (z_le c_1 (z_of (hM_w5.2 31 1 (by decide) (by decide)).symm (hW_w5.vi tX_31 rfl)) (hW_w5.vi tX_31 rfl)) (Exists.intro (vw w_2) (And.intro hv_w_2 (And.intro rfl rfl))))))))⟩
      · refine lv_aload_n hx hb dX10_readNumber_16 rfl (lv_at hl 0 rfl) ?_
        refine gt_X10 hx hb hts hown hK hP 31 (hW_w5.o tX_31) 0 (by decide) wd_190 rfl (hW_w5.fr tX_31 rfl) dX10_readNumber_17 ?_
        refine lv_aload_n hx hb dX10_readNumber_20 rfl (lv_at hl 0 rfl) ?_
        refine gt_X10 hx hb hts hown hK hP 31 (hW_w5.o tX_31) 3 (by decide) wd_194 rfl (hW_w5.fi tX_31 rfl) dX10_readNumber_21 ?_
        refine va_iald hx hb hK hP 32 0 (hW_w5.a tX_32) rfl (in_I (R_nle_r (hW_w.fin tX_31 rfl : In 0 1000 (fI w 31 1)) (hW_w5.fin tX_31 rfl : In 0 1000 (fI w5 31 3)) c_1 (by decide) : In 0 999 (fI w5 31 3)) (by decide)) dX10_readNumber_24 ?_
        refine lv_topi (fun v_3 ev_3 => ?_)
        refine lv_bipush (v := 48) hx hb dX10_readNumber_25 (by decide) ?_
        refine lv_icmp_lt (tgt := 110) hx hb dX10_readNumber_27 (by decide) (fun c_4 => ?_) (fun c_4 => ?_)
        · refine lv_aload_n hx hb dX10_readNumber_110 rfl (lv_at hl 0 rfl) ?_
          refine lv_sipush (v := 259) hx hb dX10_readNumber_111 (by decide) ?_
          refine pt_X10 hx hb hts hown hK hP hD hS 31 (hW_w5.o tX_31) 4 (by decide) wd_196 rfl rfl (ty := .int) (v := .int 259) (by decide +kernel) rfl rfl (hW_w5.ll tX_31 (Nat.le_of_ble_eq_true rfl)) dX10_readNumber_114 (fun H locs hP hD hS => fr_w (hW_w5.sI tX_31 rfl (In_lit (n := 259) (by decide) (by decide) : In (-2147483648) 2147483647 259)) hP hD (fun w_5 ew_5 hW_w_5 hP hD => ?_))
          have hv_w_5 := vw_sI (j := 4) hW_w5 tX_31 rfl ew_5 (show (259 : Int32).toInt = 259 from by decide)
          exact hret _ _ _ _ _ hP hD hS dX10_readNumber_117 ⟨hW_w_5, (hM_w5.sf (hW_w5.lt tX_31) ew_5 (by decide)), (hmi_5 (0 + 1) _ _ (rl_X10_readNumber_5 (n := 0) (And.intro (tyX hW_w5) (Or.inr (And.intro (z_nle c_1 (z_of (hM_w5.2 31 1 (by decide) (by decide)).symm (hW_w5.vi tX_31 rfl)) (hW_w5.vi tX_31 rfl)) (Or.inl (And.intro (z_lt c_4 (z_of ev_3 ((hW_w5.va tX_32 _).trans (congrArg (vw w5 32) (z_ix (hW_w5.vi tX_31 rfl))))) (show (48 : Int32).toInt = 48 from by decide)) (Exists.intro (vw w_5) (And.intro hv_w_5 (And.intro rfl rfl))))))))))⟩
        · refine lv_aload_n hx hb dX10_readNumber_30 rfl (lv_at hl 0 rfl) ?_
          refine gt_X10 hx hb hts hown hK hP 31 (hW_w5.o tX_31) 0 (by decide) wd_190 rfl (hW_w5.fr tX_31 rfl) dX10_readNumber_31 ?_
          refine lv_aload_n hx hb dX10_readNumber_34 rfl (lv_at hl 0 rfl) ?_
          refine gt_X10 hx hb hts hown hK hP 31 (hW_w5.o tX_31) 3 (by decide) wd_194 rfl (hW_w5.fi tX_31 rfl) dX10_readNumber_35 ?_
          refine va_iald hx hb hK hP 32 0 (hW_w5.a tX_32) rfl (in_I (R_nle_r (hW_w.fin tX_31 rfl : In 0 1000 (fI w 31 1)) (hW_w5.fin tX_31 rfl : In 0 1000 (fI w5 31 3)) c_1 (by decide) : In 0 999 (fI w5 31 3)) (by decide)) dX10_readNumber_38 ?_
          refine tov (v := v_3) ((congrFun (hM_w5.hA (by decide)) _).trans ((congrFun (hM_w5.hA (by decide)) _).symm.trans ev_3.symm)) ?_
          refine lv_bipush (v := 57) hx hb dX10_readNumber_39 (by decide) ?_
          refine lv_icmp_gt (tgt := 110) hx hb dX10_readNumber_41 (by decide) (fun c_6 => ?_) (fun c_6 => ?_)
          · refine lv_aload_n hx hb dX10_readNumber_110 rfl (lv_at hl 0 rfl) ?_
            refine lv_sipush (v := 259) hx hb dX10_readNumber_111 (by decide) ?_
            refine pt_X10 hx hb hts hown hK hP hD hS 31 (hW_w5.o tX_31) 4 (by decide) wd_196 rfl rfl (ty := .int) (v := .int 259) (by decide +kernel) rfl rfl (hW_w5.ll tX_31 (Nat.le_of_ble_eq_true rfl)) dX10_readNumber_114 (fun H locs hP hD hS => fr_w (hW_w5.sI tX_31 rfl (In_lit (n := 259) (by decide) (by decide) : In (-2147483648) 2147483647 259)) hP hD (fun w_7 ew_7 hW_w_7 hP hD => ?_))
            have hv_w_7 := vw_sI (j := 4) hW_w5 tX_31 rfl ew_7 (show (259 : Int32).toInt = 259 from by decide)
            exact hret _ _ _ _ _ hP hD hS dX10_readNumber_117 ⟨hW_w_7, (hM_w5.sf (hW_w5.lt tX_31) ew_7 (by decide)), (hmi_5 (0 + 1) _ _ (rl_X10_readNumber_5 (n := 0) (And.intro (tyX hW_w5) (Or.inr (And.intro (z_nle c_1 (z_of (hM_w5.2 31 1 (by decide) (by decide)).symm (hW_w5.vi tX_31 rfl)) (hW_w5.vi tX_31 rfl)) (Or.inr (And.intro (z_nlt c_4 (z_of ev_3 ((hW_w5.va tX_32 _).trans (congrArg (vw w5 32) (z_ix (hW_w5.vi tX_31 rfl))))) (show (48 : Int32).toInt = 48 from by decide)) (Or.inl (And.intro (z_lt c_6 (show (57 : Int32).toInt = 57 from by decide) (z_of ev_3 ((hW_w5.va tX_32 _).trans (congrArg (vw w5 32) (z_ix (hW_w5.vi tX_31 rfl)))))) (Exists.intro (vw w_7) (And.intro hv_w_7 (And.intro rfl rfl))))))))))))⟩
          · refine lv_aload_n hx hb dX10_readNumber_44 rfl (lv_at hl 0 rfl) ?_
            refine gt_X10 hx hb hts hown hK hP 31 (hW_w5.o tX_31) 3 (by decide) wd_194 rfl (hW_w5.fi tX_31 rfl) dX10_readNumber_45 ?_
            refine lv_aload_n hx hb dX10_readNumber_48 rfl (lv_at hl 0 rfl) ?_
            refine gt_X10 hx hb hts hown hK hP 31 (hW_w5.o tX_31) 5 (by decide) wd_198 rfl (hW_w5.fi tX_31 rfl) dX10_readNumber_49 ?_
            refine lv_isub hx hb dX10_readNumber_52 ?_
            refine lv_topi (fun v_8 ev_8 => ?_)
            refine lv_iconst (v := 5) hx hb dX10_readNumber_53 (by decide) ?_
            refine lv_icmp_ne (tgt := 73) hx hb dX10_readNumber_54 (by decide) (fun c_9 => ?_) (fun c_9 => ?_)
            · refine lv_aload_n hx hb dX10_readNumber_73 rfl (lv_at hl 0 rfl) ?_
              refine lv_aload_n hx hb dX10_readNumber_74 rfl (lv_at hl 0 rfl) ?_
              refine gt_X10 hx hb hts hown hK hP 31 (hW_w5.o tX_31) 7 (by decide) wd_201 rfl (hW_w5.fi tX_31 rfl) dX10_readNumber_75 ?_
              refine lv_bipush (v := 10) hx hb dX10_readNumber_78 (by decide) ?_
              refine lv_imul hx hb dX10_readNumber_80 ?_
              refine lv_topi (fun v_10 ev_10 => ?_)
              refine lv_aload_n hx hb dX10_readNumber_81 rfl (lv_at hl 0 rfl) ?_
              refine gt_X10 hx hb hts hown hK hP 31 (hW_w5.o tX_31) 0 (by decide) wd_190 rfl (hW_w5.fr tX_31 rfl) dX10_readNumber_82 ?_
              refine lv_aload_n hx hb dX10_readNumber_85 rfl (lv_at hl 0 rfl) ?_
              refine gt_X10 hx hb hts hown hK hP 31 (hW_w5.o tX_31) 3 (by decide) wd_194 rfl (hW_w5.fi tX_31 rfl) dX10_readNumber_86 ?_
              refine va_iald hx hb hK hP 32 0 (hW_w5.a tX_32) rfl (in_I (R_nle_r (hW_w.fin tX_31 rfl : In 0 1000 (fI w 31 1)) (hW_w5.fin tX_31 rfl : In 0 1000 (fI w5 31 3)) c_1 (by decide) : In 0 999 (fI w5 31 3)) (by decide)) dX10_readNumber_89 ?_
              refine tov (v := v_3) ((congrFun (hM_w5.hA (by decide)) _).trans ((congrFun (hM_w5.hA (by decide)) _).symm.trans ev_3.symm)) ?_
              refine lv_iadd hx hb dX10_readNumber_90 ?_
              refine lv_topi (fun v_11 ev_11 => ?_)
              refine lv_bipush (v := 48) hx hb dX10_readNumber_91 (by decide) ?_
              refine lv_isub hx hb dX10_readNumber_93 ?_
              refine pt_X10 hx hb hts hown hK hP hD hS 31 (hW_w5.o tX_31) 7 (by decide) wd_201 rfl rfl (ty := .int) (v := .int (v_11 - 48)) (by decide +kernel) rfl rfl (hW_w5.ll tX_31 (Nat.le_of_ble_eq_true rfl)) dX10_readNumber_94 (fun H locs hP hD hS => fr_w (hW_w5.sI tX_31 rfl (In_any (v_11 - 48))) hP hD (fun w_12 ew_12 hW_w_12 hP hD => ?_))
              have hv_w_12 := vw_sI (j := 7) hW_w5 tX_31 rfl ew_12 (z_subw (z_of ev_11 (z_addw (z_of ev_10 (z_mulw (hW_w5.vi tX_31 rfl) (show (10 : Int32).toInt = 10 from by decide))) (z_of ev_3 ((hW_w5.va tX_32 _).trans (congrArg (vw w5 32) (z_ix (hW_w5.vi tX_31 rfl))))))) (show (48 : Int32).toInt = 48 from by decide))
              refine lv_aload_n hx hb dX10_readNumber_97 rfl (lv_at hl 0 rfl) ?_
              refine lv_dup hx hb dX10_readNumber_98 rfl ?_
              refine gt_X10 hx hb hts hown hK hP 31 (hW_w_12.o tX_31) 3 (by decide) wd_194 rfl (hW_w_12.fi tX_31 rfl) dX10_readNumber_99 ?_
              refine tov (v := (fI w5 31 3)) (fI_nej (hW_w5.lt tX_31) ew_12 (by decide)) ?_
              refine lv_iconst (v := 1) hx hb dX10_readNumber_102 (by decide) ?_
              refine lv_iadd hx hb dX10_readNumber_103 ?_
              refine pt_X10 hx hb hts hown hK hP hD hS 31 (hW_w_12.o tX_31) 3 (by decide) wd_194 rfl rfl (ty := .int) (v := .int ((fI w5 31 3) + 1)) (by decide +kernel) rfl rfl (hW_w_12.ll tX_31 (Nat.le_of_ble_eq_true rfl)) dX10_readNumber_104 (fun H locs hP hD hS => fr_w (hW_w_12.sI tX_31 rfl (In_w ((In_add (R_nle_r (hW_w.fin tX_31 rfl : In 0 1000 (fI w 31 1)) (hW_w5.fin tX_31 rfl : In 0 1000 (fI w5 31 3)) c_1 (by decide) : In 0 999 (fI w5 31 3)) (In_lit (n := 1) (by decide) (by decide) : In 1 1 1) (by decide)) : In 1 1000 ((fI w5 31 3) + 1)) (by decide) : In 0 1000 ((fI w5 31 3) + 1))) hP hD (fun w_13 ew_13 hW_w_13 hP hD => ?_))
              have hv_w_13 := vw_sI (j := 3) hW_w_12 tX_31 rfl ew_13 (z_add (t_add (R_nle_r (hW_w.fin tX_31 rfl : In 0 1000 (fI w 31 1)) (hW_w5.fin tX_31 rfl : In 0 1000 (fI w5 31 3)) c_1 (by decide) : In 0 999 (fI w5 31 3)) (In_lit (n := 1) (by decide) (by decide) : In 1 1 1) (by decide)) (hW_w5.vi tX_31 rfl) (show (1 : Int32).toInt = 1 from by decide))
              refine lv_goto (tgt := 5) hx hb dX10_readNumber_107 (by decide) ?_
              exact ih5 w_13 _ _ ls ((by rw [show fI w_13 31 3 = ((fI w5 31 3) + 1) from (fI_eq (hW_w_12.lt tX_31) ew_13 (hW_w_12.ll tX_31 (Nat.le_of_ble_eq_true rfl)))]; exact mu_inc hmu5 (R_nle_r (hW_w.fin tX_31 rfl : In 0 1000 (fI w 31 1)) (hW_w5.fin tX_31 rfl : In 0 1000 (fI w5 31 3)) c_1 (by decide) : In 0 999 (fI w5 31 3)) (In_lit (n := 1) (by decide) (by decide) : In 1 1 1) (by decide))) hW_w_13 ((hM_w5.sf (hW_w5.lt tX_31) ew_12 (by decide)).sf (hW_w_12.lt tX_31) ew_13 (by decide)) (fun n r t hk => (hmi_5 (n + 1) r t (rl_X10_readNumber_5 (n := n) (And.intro (tyX hW_w5) (Or.inr (And.intro (z_nle c_1 (z_of (hM_w5.2 31 1 (by decide) (by decide)).symm (hW_w5.vi tX_31 rfl)) (hW_w5.vi tX_31 rfl)) (Or.inr (And.intro (z_nlt c_4 (z_of ev_3 ((hW_w5.va tX_32 _).trans (congrArg (vw w5 32) (z_ix (hW_w5.vi tX_31 rfl))))) (show (48 : Int32).toInt = 48 from by decide)) (Or.inr (And.intro (z_nlt c_6 (show (57 : Int32).toInt = 57 from by decide) (z_of ev_3 ((hW_w5.va tX_32 _).trans (congrArg (vw w5 32) (z_ix (hW_w5.vi tX_31 rfl)))))) (Or.inr (And.intro (z_neq c_9 (z_of ev_8 (z_subw (hW_w5.vi tX_31 rfl) (hW_w5.vi tX_31 rfl))) (show (5 : Int32).toInt = 5 from by decide)) (Exists.intro (vw w_12) (And.intro hv_w_12 (Exists.intro (vw w_13) (And.intro hv_w_13 (cgK_0 hk))))))))))))))))) hP hD hS (lv_sub hl [0] rfl)
            · refine lv_aload_n hx hb dX10_readNumber_57 rfl (lv_at hl 0 rfl) ?_
              refine lv_aload_n hx hb dX10_readNumber_58 rfl (lv_at hl 0 rfl) ?_
              refine gt_X10 hx hb hts hown hK hP 31 (hW_w5.o tX_31) 3 (by decide) wd_194 rfl (hW_w5.fi tX_31 rfl) dX10_readNumber_59 ?_
              refine pt_X10 hx hb hts hown hK hP hD hS 31 (hW_w5.o tX_31) 5 (by decide) wd_198 rfl rfl (ty := .int) (v := .int (fI w5 31 3)) (by decide +kernel) rfl rfl (hW_w5.ll tX_31 (Nat.le_of_ble_eq_true rfl)) dX10_readNumber_62 (fun H locs hP hD hS => fr_w (hW_w5.sI tX_31 rfl (In_w (R_nle_r (hW_w.fin tX_31 rfl : In 0 1000 (fI w 31 1)) (hW_w5.fin tX_31 rfl : In 0 1000 (fI w5 31 3)) c_1 (by decide) : In 0 999 (fI w5 31 3)) (by decide) : In (-2147483648) 2147483647 (fI w5 31 3))) hP hD (fun w_14 ew_14 hW_w_14 hP hD => ?_))
              have hv_w_14 := vw_sI (j := 5) hW_w5 tX_31 rfl ew_14 (hW_w5.vi tX_31 rfl)
              refine lv_aload_n hx hb dX10_readNumber_65 rfl (lv_at hl 0 rfl) ?_
              refine lv_sipush (v := 257) hx hb dX10_readNumber_66 (by decide) ?_
              refine pt_X10 hx hb hts hown hK hP hD hS 31 (hW_w_14.o tX_31) 4 (by decide) wd_196 rfl rfl (ty := .int) (v := .int 257) (by decide +kernel) rfl rfl (hW_w_14.ll tX_31 (Nat.le_of_ble_eq_true rfl)) dX10_readNumber_69 (fun H locs hP hD hS => fr_w (hW_w_14.sI tX_31 rfl (In_lit (n := 257) (by decide) (by decide) : In (-2147483648) 2147483647 257)) hP hD (fun w_15 ew_15 hW_w_15 hP hD => ?_))
              have hv_w_15 := vw_sI (j := 4) hW_w_14 tX_31 rfl ew_15 (show (257 : Int32).toInt = 257 from by decide)
              exact hret _ _ _ _ _ hP hD hS dX10_readNumber_72 ⟨hW_w_15, ((hM_w5.sf (hW_w5.lt tX_31) ew_14 (by decide)).sf (hW_w_14.lt tX_31) ew_15 (by decide)), (hmi_5 (0 + 1) _ _ (rl_X10_readNumber_5 (n := 0) (And.intro (tyX hW_w5) (Or.inr (And.intro (z_nle c_1 (z_of (hM_w5.2 31 1 (by decide) (by decide)).symm (hW_w5.vi tX_31 rfl)) (hW_w5.vi tX_31 rfl)) (Or.inr (And.intro (z_nlt c_4 (z_of ev_3 ((hW_w5.va tX_32 _).trans (congrArg (vw w5 32) (z_ix (hW_w5.vi tX_31 rfl))))) (show (48 : Int32).toInt = 48 from by decide)) (Or.inr (And.intro (z_nlt c_6 (show (57 : Int32).toInt = 57 from by decide) (z_of ev_3 ((hW_w5.va tX_32 _).trans (congrArg (vw w5 32) (z_ix (hW_w5.vi tX_31 rfl)))))) (Or.inl (And.intro (z_eq c_9 (z_of ev_8 (z_subw (hW_w5.vi tX_31 rfl) (hW_w5.vi tX_31 rfl))) (show (5 : Int32).toInt = 5 from by decide)) (Exists.intro (vw w_14) (And.intro hv_w_14 (Exists.intro (vw w_15) (And.intro hv_w_15 (And.intro rfl rfl))))))))))))))))⟩
  refine lv_aload_n hx hb dX10_readNumber_0 rfl (lv_at hl 0 rfl) ?_
  refine lv_iconst (v := 0) hx hb dX10_readNumber_1 (by decide) ?_
  refine pt_X10 hx hb hts hown hK hP hD hS 31 (hW_w.o tX_31) 7 (by decide) wd_201 rfl rfl (ty := .int) (v := .int 0) (by decide +kernel) rfl rfl (hW_w.ll tX_31 (Nat.le_of_ble_eq_true rfl)) dX10_readNumber_2 (fun H locs hP hD hS => fr_w (hW_w.sI tX_31 rfl (In_lit (n := 0) (by decide) (by decide) : In (-2147483648) 2147483647 0)) hP hD (fun w_16 ew_16 hW_w_16 hP hD => ?_))
  have hv_w_16 := vw_sI (j := 7) hW_w tX_31 rfl ew_16 (show (0 : Int32).toInt = 0 from by decide)
  exact J5 _ w_16 _ _ ls (Nat.lt_succ_self _) hW_w_16 (Sm.rf.sf (hW_w.lt tX_31) ew_16 (by decide)) (fun n r t hk => (mk_X10_readNumber (n := n) (And.intro (tyX hW_w) (Exists.intro (vw w_16) (And.intro hv_w_16 (cgK_0 hk)))))) hP hD hS (lv_sub hl [0] rfl)
