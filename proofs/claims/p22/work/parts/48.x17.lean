set_option maxRecDepth 100000 in
set_option maxHeartbeats 8000000 in
theorem e_X4_countRight_1 (l : Launch) (D : va_G) (cI cJ cZ : ClassId) (q : Nat → Nat) (bb bs bp : Nat) (w : va_W) (hW_w : HT q (TX q cI cJ cZ bb bs bp) w) : Con_i l yX4_countRight cX4_countRight 4 (some .int) ({ frames := 3, cells := 0, slots := 0, locals := 70 }) D cI cJ cZ eW [.ref (q 88), .ref (q 1)] w (fun (r : Int32) (w1 : va_W) => HT q (TX q cI cJ cZ bb bs bp) w1 ∧ Sm [] [] w w1 ∧ M_X4_countRight_1 (vw w) r.toInt (vw w1)) := by
  refine eQ_i rfl (by decide) (Nat.le_of_ble_eq_true rfl) ⟨rfl, rfl⟩ ?_
  intro p e R s m args below meth c A Q hx hb hml hown hts hK hE hA hR hret hP hD hS ls hl
  have hown : s.vm.findClass RX4 = some m.cls := hown
  have hl : lv_has ls 4 [(0, .ref (q 88)), (1, .ref (q 1))] := hl
  have J4 : ∀ (N : Nat) (x4_2 : Int32) (x4_3 : Int32) (w4 : va_W) (H : Heap) (locs : List Loc) (ls : Array Slot), (40 - x4_3.toInt).toNat < N → HT q (TX q cI cJ cZ bb bs bp) w4 → Sm [] [] w w4 → (In 0 40 x4_3) → (∀ (n : Nat) (r : Int) (t : PS), It_X4_countRight_1 n 4 x4_2.toInt x4_3.toInt 0 0 (vw w4) r t → M_X4_countRight_1 (vw w) r t) → va_P D vwCl w4 H → va_D A w4 → va_S A s.heap H locs → lv_has ls 4 [(0, .ref (q 88)), (1, .ref (q 1)), (2, .int x4_2), (3, .int x4_3)] → W p l e R s m args below meth c H locs 0 0 Q (F0 m 4 ls []) := by
    intro N
    induction N with
    | zero => intro x4_2 x4_3 w4 H locs ls hmu; exact absurd hmu (Nat.not_lt_zero _)
    | succ N ih4 =>
      intro x4_2 x4_3 w4 H locs ls hmu4 hW_w4 hM_w4 i_x4_3 hmi_4 hP hD hS hl
      have J27 : ∀ (y27_0 : Int32) (w27 : va_W) (H : Heap) (locs : List Loc) (ls : Array Slot), HT q (TX q cI cJ cZ bb bs bp) w27 → Sm [] [] w w27 → (In 0 39 x4_3) → (In 0 1 y27_0) → (In 1 40 (fI w27 88 1)) → (∀ (n : Nat) (r : Int) (t : PS), It_X4_countRight_1 n 27 x4_2.toInt x4_3.toInt y27_0.toInt x4_2.toInt (vw w27) r t → M_X4_countRight_1 (vw w) r t) → va_P D vwCl w27 H → va_D A w27 → va_S A s.heap H locs → lv_has ls 4 [(0, .ref (q 88)), (1, .ref (q 1)), (2, .int x4_2), (3, .int x4_3)] → W p l e R s m args below meth c H locs 0 0 Q (F0 m 27 ls [.int y27_0, .int x4_2]) := by
        intro y27_0 w27 H locs ls hW_w27 hM_w27 i_x27_3 i_y27_0 g27_88_1 hmi_27 hP hD hS hl
        refine lv_iadd hx hb dX4_countRight_27 ?_
        refine lv_topi (fun v_1 ev_1 => ?_)
        refine lv_istore_n (lv' := [(2, .int v_1), (0, .ref (q 88)), (1, .ref (q 1)), (3, .int x4_3)]) hx hb dX4_countRight_28 rfl hl (by decide) rfl (fun ls hl => ?_)
        refine lv_iinc (v := (x4_3 + 1)) (lv' := [(3, .int (x4_3 + 1)), (2, .int v_1), (0, .ref (q 88)), (1, .ref (q 1))]) hx hb dX4_countRight_29 hl (k := 3) rfl (rfl) (by decide) rfl (fun ls hl => ?_)
        refine lv_goto (tgt := 4) hx hb dX4_countRight_32 (by decide) ?_
        exact ih4 v_1 (x4_3 + 1) w27 _ _ ls (mu_inc hmu4 i_x27_3 (In_lit (n := 1) (by decide) (by decide) : In 1 1 1) (by decide)) hW_w27 hM_w27 (In_w ((In_add (y := 1) i_x27_3 (In_lit (n := 1) (by decide) (by decide) : In 1 1 1) (by decide)) : In 1 40 (x4_3 + 1)) (by decide) : In 0 40 (x4_3 + 1)) (fun n r t hk => (hmi_27 (n + 1) r t (rl_X4_countRight_1_27 (n := n) (And.intro (tyX hW_w27) (And.intro i_x27_3 (And.intro i_y27_0 (cgK_4 hk (z_of ev_1 (z_addw (rfl : (x4_2 : Int32).toInt = _) (rfl : (y27_0 : Int32).toInt = _))) (z_add (t_add i_x27_3 (In_lit (n := 1) (by decide) (by decide) : In 1 1 1) (by decide)) (rfl : (x4_3 : Int32).toInt = _) (show (1 : Int32).toInt = 1 from by decide)) rfl rfl))))))) hP hD hS (lv_sub hl [2, 3, 1, 0] rfl)
      refine lv_iload_n hx hb dX4_countRight_4 rfl (lv_at hl 3 rfl) ?_
      refine lv_aload_n hx hb dX4_countRight_5 rfl (lv_at hl 0 rfl) ?_
      refine gt_X4 hx hb hts hown hK hP 88 (hW_w4.o tX_88) 1 (by decide) wd_569 rfl (hW_w4.fi tX_88 rfl) dX4_countRight_6 ?_
      refine tov (v := (fI w 88 1)) (hM_w4.gI (by decide)) ?_
      refine lv_icmp_ge (tgt := 35) hx hb dX4_countRight_9 (by decide) (fun c_2 => ?_) (fun c_2 => ?_)
      · refine lv_iload_n hx hb dX4_countRight_35 rfl (lv_at hl 2 rfl) ?_
        exact hret _ _ _ _ _ _ hP hD hS dX4_countRight_36 ⟨hW_w4, hM_w4, (hmi_4 (0 + 1) _ _ (rl_X4_countRight_1_4 (n := 0) (And.intro (tyX hW_w4) (And.intro i_x4_3 (Or.inl (And.intro (z_le c_2 (z_of (hM_w4.gI (by decide)).symm (hW_w4.vi tX_88 rfl)) (rfl : (x4_3 : Int32).toInt = _)) (And.intro (rfl : (x4_2 : Int32).toInt = _) rfl)))))))⟩
      · refine lv_iload_n hx hb dX4_countRight_12 rfl (lv_at hl 2 rfl) ?_
        refine lv_aload_n hx hb dX4_countRight_13 rfl (lv_at hl 0 rfl) ?_
        refine lv_iload_n hx hb dX4_countRight_14 rfl (lv_at hl 3 rfl) ?_
        refine lv_aload_n hx hb dX4_countRight_15 rfl (lv_at hl 1 rfl) ?_
        refine kW_i ⟨rfl, rfl⟩ hP hD hS hA (rW_V (As := [.int x4_3, .ref (q 1)]) (rest := [.int x4_2]) hx hb hml hown hts hK hE hP hD (e_X4_isRight_1 l D cI cJ cZ q bb bs bp w4 hW_w4 x4_3 (R_nle_r (hW_w.fin tX_88 rfl : In 0 40 (fI w 88 1)) i_x4_3 c_2 (by decide) : In 0 39 x4_3) _) ⟨⟨rfl, rfl⟩, rfl, rfl⟩ sv_X4_123 ⟨(Nat.le_trans (by decide) hR.1), (Nat.le_trans (by decide) hR.2)⟩ 88 4 (hW_w4.o tX_88) rfl rfl rfl hl.1 rfl (Nat.le_of_ble_eq_true rfl) dX4_countRight_16) (fun r_4 w_3 H locs hw_w_3 hP hD hS => ?_)
        obtain ⟨hW_w_3, hs_w_3, i_r_4, hm_5⟩ := hw_w_3
        refine lv_if_eq (tgt := 26) hx hb dX4_countRight_19 (by decide) (fun c_6 => ?_) (fun c_6 => ?_)
        · refine lv_iconst (v := 0) hx hb dX4_countRight_26 (by decide) ?_
          exact J27 0 w_3 _ _ ls hW_w_3 (hM_w4.tr hs_w_3 (by decide)) (R_nle_r (hW_w.fin tX_88 rfl : In 0 40 (fI w 88 1)) i_x4_3 c_2 (by decide) : In 0 39 x4_3) (In_lit (n := 0) (by decide) (by decide) : In 0 1 0) (In_of ((hs_w_3.gI (by decide)).trans (hM_w4.gI (by decide))) (R_nle_l (hW_w.fin tX_88 rfl : In 0 40 (fI w 88 1)) i_x4_3 c_2 (by decide) : In 1 40 (fI w 88 1))) (fun n r t hk => (hmi_4 (n + 1) r t (rl_X4_countRight_1_4 (n := n) (And.intro (tyX hW_w4) (And.intro i_x4_3 (Or.inr (And.intro (z_nle c_2 (z_of (hM_w4.gI (by decide)).symm (hW_w4.vi tX_88 rfl)) (rfl : (x4_3 : Int32).toInt = _)) (Exists.intro r_4.toInt (Exists.intro (vw w_3) (And.intro (cgM_1 hm_5 (rfl : (x4_3 : Int32).toInt = _)) (And.intro (hs_w_3.Fr hW_w4 hW_w_3 intsX_ok intsX_ok) (And.intro (tyX hW_w_3) (And.intro i_r_4 (Or.inl (And.intro (z_eq c_6 (rfl : (r_4 : Int32).toInt = _) (show (0 : Int32).toInt = 0 from by decide)) (cgK_4 hk (rfl : (x4_2 : Int32).toInt = _) (rfl : (x4_3 : Int32).toInt = _) (show (0 : Int32).toInt = 0 from by decide) (rfl : (x4_2 : Int32).toInt = _))))))))))))))))) hP hD hS (lv_sub hl [0, 1, 2, 3] rfl)
        · refine lv_iconst (v := 1) hx hb dX4_countRight_22 (by decide) ?_
          refine lv_goto (tgt := 27) hx hb dX4_countRight_23 (by decide) ?_
          exact J27 1 w_3 _ _ ls hW_w_3 (hM_w4.tr hs_w_3 (by decide)) (R_nle_r (hW_w.fin tX_88 rfl : In 0 40 (fI w 88 1)) i_x4_3 c_2 (by decide) : In 0 39 x4_3) (In_lit (n := 1) (by decide) (by decide) : In 0 1 1) (In_of ((hs_w_3.gI (by decide)).trans (hM_w4.gI (by decide))) (R_nle_l (hW_w.fin tX_88 rfl : In 0 40 (fI w 88 1)) i_x4_3 c_2 (by decide) : In 1 40 (fI w 88 1))) (fun n r t hk => (hmi_4 (n + 1) r t (rl_X4_countRight_1_4 (n := n) (And.intro (tyX hW_w4) (And.intro i_x4_3 (Or.inr (And.intro (z_nle c_2 (z_of (hM_w4.gI (by decide)).symm (hW_w4.vi tX_88 rfl)) (rfl : (x4_3 : Int32).toInt = _)) (Exists.intro r_4.toInt (Exists.intro (vw w_3) (And.intro (cgM_1 hm_5 (rfl : (x4_3 : Int32).toInt = _)) (And.intro (hs_w_3.Fr hW_w4 hW_w_3 intsX_ok intsX_ok) (And.intro (tyX hW_w_3) (And.intro i_r_4 (Or.inr (And.intro (z_neq c_6 (rfl : (r_4 : Int32).toInt = _) (show (0 : Int32).toInt = 0 from by decide)) (cgK_4 hk (rfl : (x4_2 : Int32).toInt = _) (rfl : (x4_3 : Int32).toInt = _) (show (1 : Int32).toInt = 1 from by decide) (rfl : (x4_2 : Int32).toInt = _))))))))))))))))) hP hD hS (lv_sub hl [0, 1, 2, 3] rfl)
  refine lv_iconst (v := 0) hx hb dX4_countRight_0 (by decide) ?_
  refine lv_istore_n (lv' := [(2, .int 0), (0, .ref (q 88)), (1, .ref (q 1))]) hx hb dX4_countRight_1 rfl hl (by decide) rfl (fun ls hl => ?_)
  refine lv_iconst (v := 0) hx hb dX4_countRight_2 (by decide) ?_
  refine lv_istore_n (lv' := [(3, .int 0), (2, .int 0), (0, .ref (q 88)), (1, .ref (q 1))]) hx hb dX4_countRight_3 rfl hl (by decide) rfl (fun ls hl => ?_)
  exact J4 _ 0 0 w _ _ ls (Nat.lt_succ_self _) hW_w Sm.rf (In_lit (n := 0) (by decide) (by decide) : In 0 40 0) (fun n r t hk => (mk_X4_countRight_1 (n := n) (And.intro (tyX hW_w) (cgK_4 hk (show (0 : Int32).toInt = 0 from by decide) (show (0 : Int32).toInt = 0 from by decide) rfl rfl)))) hP hD hS (lv_sub hl [2, 3, 1, 0] rfl)
set_option maxRecDepth 100000 in
set_option maxHeartbeats 8000000 in
theorem e_X11_right (l : Launch) (D : va_G) (cI cJ cZ : ClassId) (q : Nat → Nat) (bp : Nat) (w : va_W) (hW_w : HT q (TX q cI cJ cZ 1 16 bp) w) : Con_i l yX11_right cX11_right 1 (some .int) ({ frames := 4, cells := 0, slots := 0, locals := 93 }) D cI cJ cZ eW [.ref (q 0)] w (fun (r : Int32) (w1 : va_W) => HT q (TX q cI cJ cZ 1 16 bp) w1 ∧ Sm [] [] w w1 ∧ M_X11_right (vw w) r.toInt (vw w1)) := by
  refine eQ_i rfl (by decide) (Nat.le_of_ble_eq_true rfl) ⟨rfl, rfl⟩ ?_
  intro p e R s m args below meth c A Q hx hb hml hown hts hK hE hA hR hret hP hD hS ls hl
  have hown : s.vm.findClass RX11 = some m.cls := hown
  have hl : lv_has ls 1 [(0, .ref (q 0))] := hl
  refine lv_aload_n hx hb dX11_right_0 rfl (lv_at hl 0 rfl) ?_
  refine gt_X11 hx hb hts hown hK hP 0 (hW_w.o tX_0) 10 (by decide) wd_683 rfl (hW_w.fr tX_0 rfl) dX11_right_1 ?_
  refine gt_X4 hx hb hts hown hK hP 88 (hW_w.o tX_88) 0 (by decide) wd_567 rfl (hW_w.fi tX_88 rfl) dX11_right_4 ?_
  refine lv_if_eq (tgt := 24) hx hb dX11_right_7 (by decide) (fun c_1 => ?_) (fun c_1 => ?_)
  · refine lv_iconst (v := (-1)) hx hb dX11_right_24 (by decide) ?_
    exact hret _ _ _ _ _ _ hP hD hS dX11_right_25 ⟨hW_w, Sm.rf, (mk_X11_right (And.intro (tyX hW_w) (Or.inl (And.intro (z_eq c_1 (hW_w.vi tX_88 rfl) (show (0 : Int32).toInt = 0 from by decide)) (And.intro (show ((-1) : Int32).toInt = (-1) from by decide) rfl)))))⟩
  · refine lv_aload_n hx hb dX11_right_10 rfl (lv_at hl 0 rfl) ?_
    refine gt_X11 hx hb hts hown hK hP 0 (hW_w.o tX_0) 10 (by decide) wd_683 rfl (hW_w.fr tX_0 rfl) dX11_right_11 ?_
    refine lv_aload_n hx hb dX11_right_14 rfl (lv_at hl 0 rfl) ?_
    refine gt_X11 hx hb hts hown hK hP 0 (hW_w.o tX_0) 0 (by decide) wd_673 rfl (hW_w.fr tX_0 rfl) dX11_right_15 ?_
    refine kW_i ⟨rfl, rfl⟩ hP hD hS hA (rW_V (As := [.ref (q 1)]) (rest := []) hx hb hml hown hts hK hE hP hD (e_X4_countRight_1 l D cI cJ cZ q 1 16 bp w hW_w  _) ⟨⟨rfl, rfl⟩, rfl, rfl⟩ sv_X11_307 ⟨(Nat.le_trans (by decide) hR.1), (Nat.le_trans (by decide) hR.2)⟩ 88 4 (hW_w.o tX_88) rfl rfl rfl hl.1 rfl (Nat.le_of_ble_eq_true rfl) dX11_right_18) (fun r_3 w_2 H locs hw_w_2 hP hD hS => ?_)
    obtain ⟨hW_w_2, hs_w_2, hm_4⟩ := hw_w_2
    refine lv_goto (tgt := 25) hx hb dX11_right_21 (by decide) ?_
    exact hret _ _ _ _ _ _ hP hD hS dX11_right_25 ⟨hW_w_2, (Sm.rf.tr hs_w_2 (by decide)), (mk_X11_right (And.intro (tyX hW_w) (Or.inr (And.intro (z_neq c_1 (hW_w.vi tX_88 rfl) (show (0 : Int32).toInt = 0 from by decide)) (Exists.intro r_3.toInt (Exists.intro (vw w_2) (And.intro hm_4 (And.intro (hs_w_2.Fr hW_w hW_w_2 intsX_ok intsX_ok) (And.intro (tyX hW_w_2) (And.intro (rfl : (r_3 : Int32).toInt = _) rfl))))))))))⟩
set_option maxRecDepth 100000 in
set_option maxHeartbeats 8000000 in
theorem e_X0_farOf_1 (l : Launch) (D : va_G) (cI cJ cZ : ClassId) (q : Nat → Nat) (bb bs bp : Nat) (w : va_W) (hW_w : HT q (TX q cI cJ cZ bb bs bp) w) (p0 : Int32) : Con_i l yX0_farOf cX0_farOf 4 (some .int) ({ frames := 1, cells := 0, slots := 0, locals := 23 }) D cI cJ cZ eW [.int p0, .ref (q 1)] w (fun (r : Int32) (w1 : va_W) => HT q (TX q cI cJ cZ bb bs bp) w1 ∧ Sm [] [] w w1 ∧ In 0 2147483647 r ∧ M_X0_farOf_1 (vw w) p0.toInt r.toInt (vw w1)) := by
  refine eQ_i rfl (by decide) (Nat.le_of_ble_eq_true rfl) ⟨rfl, rfl⟩ ?_
  intro p e R s m args below meth c A Q hx hb hml hown hts hK hE hA hR hret hP hD hS ls hl
  have hown : s.vm.findClass RX0 = some m.cls := hown
  have hl : lv_has ls 4 [(0, .int p0), (1, .ref (q 1))] := hl
  have J4 : ∀ (N : Nat) (x4_2 : Int32) (x4_3 : Int32) (w4 : va_W) (H : Heap) (locs : List Loc) (ls : Array Slot), (10 - x4_3.toInt).toNat < N → HT q (TX q cI cJ cZ bb bs bp) w4 → Sm [] [] w w4 → (In 0 2147483647 x4_2) → (In 0 10 x4_3) → (∀ (n : Nat) (r : Int) (t : PS), It_X0_farOf_1 n 4 p0.toInt x4_2.toInt x4_3.toInt (vw w4) r t → M_X0_farOf_1 (vw w) p0.toInt r t) → va_P D vwCl w4 H → va_D A w4 → va_S A s.heap H locs → lv_has ls 4 [(0, .int p0), (1, .ref (q 1)), (2, .int x4_2), (3, .int x4_3)] → W p l e R s m args below meth c H locs 0 0 Q (F0 m 4 ls []) := by
    intro N
    induction N with
    | zero => intro x4_2 x4_3 w4 H locs ls hmu; exact absurd hmu (Nat.not_lt_zero _)
    | succ N ih4 =>
      intro x4_2 x4_3 w4 H locs ls hmu4 hW_w4 hM_w4 i_x4_2 i_x4_3 hmi_4 hP hD hS hl
      have J31 : ∀ (x31_2 : Int32) (w31 : va_W) (H : Heap) (locs : List Loc) (ls : Array Slot), HT q (TX q cI cJ cZ bb bs bp) w31 → Sm [] [] w w31 → (In 0 2147483647 x31_2) → (In 0 9 x4_3) → (In 1 10 (fI w31 1 0)) → (∀ (n : Nat) (r : Int) (t : PS), It_X0_farOf_1 n 31 p0.toInt x31_2.toInt x4_3.toInt (vw w31) r t → M_X0_farOf_1 (vw w) p0.toInt r t) → va_P D vwCl w31 H → va_D A w31 → va_S A s.heap H locs → lv_has ls 4 [(0, .int p0), (1, .ref (q 1)), (2, .int x31_2), (3, .int x4_3)] → W p l e R s m args below meth c H locs 0 0 Q (F0 m 31 ls []) := by
        intro x31_2 w31 H locs ls hW_w31 hM_w31 i_x31_2 i_x31_3 g31_1_0 hmi_31 hP hD hS hl
        refine lv_iinc (v := (x4_3 + 1)) (lv' := [(3, .int (x4_3 + 1)), (0, .int p0), (1, .ref (q 1)), (2, .int x31_2)]) hx hb dX0_farOf_31 hl (k := 3) rfl (rfl) (by decide) rfl (fun ls hl => ?_)
        refine lv_goto (tgt := 4) hx hb dX0_farOf_34 (by decide) ?_
        exact ih4 x31_2 (x4_3 + 1) w31 _ _ ls (mu_inc hmu4 i_x31_3 (In_lit (n := 1) (by decide) (by decide) : In 1 1 1) (by decide)) hW_w31 hM_w31 i_x31_2 (In_w ((In_add (y := 1) i_x31_3 (In_lit (n := 1) (by decide) (by decide) : In 1 1 1) (by decide)) : In 1 10 (x4_3 + 1)) (by decide) : In 0 10 (x4_3 + 1)) (fun n r t hk => (hmi_31 (n + 1) r t (rl_X0_farOf_1_31 (n := n) (And.intro (tyX hW_w31) (And.intro i_x31_2 (And.intro i_x31_3 (cgK_3 hk (rfl : (p0 : Int32).toInt = _) (rfl : (x31_2 : Int32).toInt = _) (z_add (t_add i_x31_3 (In_lit (n := 1) (by decide) (by decide) : In 1 1 1) (by decide)) (rfl : (x4_3 : Int32).toInt = _) (show (1 : Int32).toInt = 1 from by decide))))))))) hP hD hS (lv_sub hl [1, 2, 3, 0] rfl)
      refine lv_iload_n hx hb dX0_farOf_4 rfl (lv_at hl 3 rfl) ?_
      refine lv_aload_n hx hb dX0_farOf_5 rfl (lv_at hl 1 rfl) ?_
      refine gt_X1 hx hb hts hown hK hP 1 (hW_w4.o tX_1) 0 (by decide) wd_38 rfl (hW_w4.fi tX_1 rfl) dX0_farOf_6 ?_
      refine tov (v := (fI w 1 0)) (hM_w4.gI (by decide)) ?_
      refine lv_icmp_ge (tgt := 37) hx hb dX0_farOf_9 (by decide) (fun c_1 => ?_) (fun c_1 => ?_)
      · refine lv_iload_n hx hb dX0_farOf_37 rfl (lv_at hl 2 rfl) ?_
        exact hret _ _ _ _ _ _ hP hD hS dX0_farOf_38 ⟨hW_w4, hM_w4, i_x4_2, (hmi_4 (0 + 1) _ _ (rl_X0_farOf_1_4 (n := 0) (And.intro (tyX hW_w4) (And.intro i_x4_2 (And.intro i_x4_3 (Or.inl (And.intro (z_le c_1 (z_of (hM_w4.gI (by decide)).symm (hW_w4.vi tX_1 rfl)) (rfl : (x4_3 : Int32).toInt = _)) (And.intro (rfl : (x4_2 : Int32).toInt = _) rfl))))))))⟩
      · refine lv_iload_n hx hb dX0_farOf_12 rfl (lv_at hl 0 rfl) ?_
        refine lv_iload_n hx hb dX0_farOf_13 rfl (lv_at hl 3 rfl) ?_
        refine lv_ishr hx hb dX0_farOf_14 ?_
        refine lv_topi (fun v_2 ev_2 => ?_)
        refine lv_iconst (v := 1) hx hb dX0_farOf_15 (by decide) ?_
        refine lv_iand hx hb dX0_farOf_16 ?_
        refine lv_if_eq (tgt := 31) hx hb dX0_farOf_17 (by decide) (fun c_3 => ?_) (fun c_3 => ?_)
        · exact J31 x4_2 w4 _ _ ls hW_w4 hM_w4 i_x4_2 (R_nle_r (hW_w.fin tX_1 rfl : In 0 10 (fI w 1 0)) i_x4_3 c_1 (by decide) : In 0 9 x4_3) (In_of (hM_w4.gI (by decide)) (R_nle_l (hW_w.fin tX_1 rfl : In 0 10 (fI w 1 0)) i_x4_3 c_1 (by decide) : In 1 10 (fI w 1 0))) (fun n r t hk => (hmi_4 (n + 1) r t (rl_X0_farOf_1_4 (n := n) (And.intro (tyX hW_w4) (And.intro i_x4_2 (And.intro i_x4_3 (Or.inr (And.intro (z_nle c_1 (z_of (hM_w4.gI (by decide)).symm (hW_w4.vi tX_1 rfl)) (rfl : (x4_3 : Int32).toInt = _)) (Or.inl (And.intro (z_eq c_3 (z_and (z_of ev_2 (z_shr (rfl : (p0 : Int32).toInt = _) (rfl : (x4_3 : Int32).toInt = _))) (show (1 : Int32).toInt = 1 from by decide)) (show (0 : Int32).toInt = 0 from by decide)) (cgK_3 hk (rfl : (p0 : Int32).toInt = _) (rfl : (x4_2 : Int32).toInt = _) (rfl : (x4_3 : Int32).toInt = _)))))))))))) hP hD hS (lv_sub hl [0, 1, 2, 3] rfl)
        · refine lv_iload_n hx hb dX0_farOf_20 rfl (lv_at hl 2 rfl) ?_
          refine lv_aload_n hx hb dX0_farOf_21 rfl (lv_at hl 1 rfl) ?_
          refine gt_X1 hx hb hts hown hK hP 1 (hW_w4.o tX_1) 4 (by decide) wd_52 rfl (hW_w4.fr tX_1 rfl) dX0_farOf_22 ?_
          refine lv_iload_n hx hb dX0_farOf_25 rfl (lv_at hl 3 rfl) ?_
          refine va_iald hx hb hK hP 5 0 (hW_w4.a tX_5) rfl (in_I (R_nle_r (hW_w.fin tX_1 rfl : In 0 10 (fI w 1 0)) i_x4_3 c_1 (by decide) : In 0 9 x4_3) (by decide)) dX0_farOf_26 ?_
          refine lv_topi (fun v_4 ev_4 => ?_)
          refine va_mmax hx hb (by rw [hml]; exact hl.1.symm) hown (hts _ wd_1344) (hts _ wd_999) (hts _ wd_18) (hts _ wd_1000) (Nat.le_trans (by decide) hR.1) (Nat.le_trans (Nat.le_of_ble_eq_true rfl) hR.2) (Nat.zero_le _) (Nat.zero_le _) dX0_farOf_27 ?_
          refine lv_topi (fun v_5 ev_5 => ?_)
          refine lv_istore_n (lv' := [(2, .int v_5), (0, .int p0), (1, .ref (q 1)), (3, .int x4_3)]) hx hb dX0_farOf_30 rfl hl (by decide) rfl (fun ls hl => ?_)
          exact J31 v_5 w4 _ _ ls hW_w4 hM_w4 (In_of ev_5 (In_max i_x4_2 (In_any v_4) (by decide)) : In 0 2147483647 v_5) (R_nle_r (hW_w.fin tX_1 rfl : In 0 10 (fI w 1 0)) i_x4_3 c_1 (by decide) : In 0 9 x4_3) (In_of (hM_w4.gI (by decide)) (R_nle_l (hW_w.fin tX_1 rfl : In 0 10 (fI w 1 0)) i_x4_3 c_1 (by decide) : In 1 10 (fI w 1 0))) (fun n r t hk => (hmi_4 (n + 1) r t (rl_X0_farOf_1_4 (n := n) (And.intro (tyX hW_w4) (And.intro i_x4_2 (And.intro i_x4_3 (Or.inr (And.intro (z_nle c_1 (z_of (hM_w4.gI (by decide)).symm (hW_w4.vi tX_1 rfl)) (rfl : (x4_3 : Int32).toInt = _)) (Or.inr (And.intro (z_neq c_3 (z_and (z_of ev_2 (z_shr (rfl : (p0 : Int32).toInt = _) (rfl : (x4_3 : Int32).toInt = _))) (show (1 : Int32).toInt = 1 from by decide)) (show (0 : Int32).toInt = 0 from by decide)) (cgK_3 hk (rfl : (p0 : Int32).toInt = _) (z_of ev_5 (z_max (rfl : (x4_2 : Int32).toInt = _) (z_of ev_4 ((hW_w4.va tX_5 _).trans (congrArg (vw w4 5) (z_ix (rfl : (x4_3 : Int32).toInt = _))))))) (rfl : (x4_3 : Int32).toInt = _)))))))))))) hP hD hS (lv_sub hl [1, 2, 0, 3] rfl)
  refine lv_iconst (v := 0) hx hb dX0_farOf_0 (by decide) ?_
  refine lv_istore_n (lv' := [(2, .int 0), (0, .int p0), (1, .ref (q 1))]) hx hb dX0_farOf_1 rfl hl (by decide) rfl (fun ls hl => ?_)
  refine lv_iconst (v := 0) hx hb dX0_farOf_2 (by decide) ?_
  refine lv_istore_n (lv' := [(3, .int 0), (2, .int 0), (0, .int p0), (1, .ref (q 1))]) hx hb dX0_farOf_3 rfl hl (by decide) rfl (fun ls hl => ?_)
  exact J4 _ 0 0 w _ _ ls (Nat.lt_succ_self _) hW_w Sm.rf (In_lit (n := 0) (by decide) (by decide) : In 0 2147483647 0) (In_lit (n := 0) (by decide) (by decide) : In 0 10 0) (fun n r t hk => (mk_X0_farOf_1 (n := n) (And.intro (tyX hW_w) (cgK_3 hk (rfl : (p0 : Int32).toInt = _) (show (0 : Int32).toInt = 0 from by decide) (show (0 : Int32).toInt = 0 from by decide))))) hP hD hS (lv_sub hl [2, 3, 1, 0] rfl)
set_option maxRecDepth 100000 in
set_option maxHeartbeats 8000000 in
theorem e_X0_insert (l : Launch) (D : va_G) (cI cJ cZ : ClassId) (q : Nat → Nat) (bb bs bp : Nat) (w : va_W) (hW_w : HT q (TX q cI cJ cZ bb bs bp) w) (p1 : Int32) (p2 : Int32) (i_p1 : In 0 39 p1) (i_p2 : In 0 2147483647 p2) (hf_102_0 : In 0 39 (fI w 102 0)) : Con_v l yX0_insert cX0_insert 4 none ({ frames := 0, cells := 0, slots := 0, locals := 0 }) D cI cJ cZ eW [.ref (q 102), .int p1, .int p2] w (fun (w1 : va_W) => HT q (TX q cI cJ cZ bb bs bp) w1 ∧ Sm [102, 103, 104] [(102, 0)] w w1 ∧ In 1 40 (fI w1 102 0) ∧ ((fI w1 102 0).toInt ≤ (fI w 102 0).toInt + 1) ∧ M_X0_insert (vw w) p1.toInt p2.toInt 0 (vw w1)) := by
  refine eQ_v rfl (by decide) (Nat.le_of_ble_eq_true rfl) ⟨rfl, rfl⟩ ?_
  intro p e R s m args below meth c A Q hx hb hml hown hts hK hE hA hR hret hP hD hS ls hl
  have hown : s.vm.findClass RX0 = some m.cls := hown
  have hl : lv_has ls 4 [(0, .ref (q 102)), (1, .int p1), (2, .int p2)] := hl
  have J55 : ∀ (x55_3 : Int32) (w55 : va_W) (H : Heap) (locs : List Loc) (ls : Array Slot), HT q (TX q cI cJ cZ bb bs bp) w55 → Sm [102, 103, 104] [(102, 0)] w w55 → (In 0 39 p1) → (In 0 2147483647 p2) → (In 0 39 x55_3) → (fI w55 102 0 = (fI w 102 0)) → (In 0 39 (fI w 102 0)) → (∀ (n : Nat) (r : Int) (t : PS), It_X0_insert n 55 p1.toInt p2.toInt x55_3.toInt (vw w55) r t → M_X0_insert (vw w) p1.toInt p2.toInt r t) → va_P D vwCl w55 H → va_D A w55 → va_S A s.heap H locs → lv_has ls 4 [(0, .ref (q 102)), (1, .int p1), (2, .int p2), (3, .int x55_3)] → W p l e R s m args below meth c H locs 0 0 Q (F0 m 55 ls []) := by
    intro x55_3 w55 H locs ls hW_w55 hM_w55 i_x55_1 i_x55_2 i_x55_3 g55_102_0e g55_102_0 hmi_55 hP hD hS hl
    refine lv_aload_n hx hb dX0_insert_55 rfl (lv_at hl 0 rfl) ?_
    refine gt_X0 hx hb hts hown hK hP 102 (hW_w55.o tX_102) 2 (by decide) wd_636 rfl (hW_w55.fr tX_102 rfl) dX0_insert_56 ?_
    refine lv_iload_n hx hb dX0_insert_59 rfl (lv_at hl 3 rfl) ?_
    refine lv_iload_n hx hb dX0_insert_60 rfl (lv_at hl 2 rfl) ?_
    refine va_iast hx hb hK hP hD hS 104 0 (hW_w55.a tX_104) rfl (in_I i_x55_3 (by decide)) dX0_insert_61 (fun H locs hP hD hS => fr_w (hW_w55.uA tX_104 (In_w i_p2 (by decide) : In (-2147483648) 2147483647 p2)) hP hD (fun w_1 ew_1 hW_w_1 hP hD => ?_))
    have hv_w_1 := vw_uA hW_w55 tX_104 ew_1 (z_ix (rfl : (x55_3 : Int32).toInt = _)) (rfl : (p2 : Int32).toInt = _)
    refine lv_aload_n hx hb dX0_insert_62 rfl (lv_at hl 0 rfl) ?_
    refine gt_X0 hx hb hts hown hK hP 102 (hW_w_1.o tX_102) 1 (by decide) wd_634 rfl (hW_w_1.fr tX_102 rfl) dX0_insert_63 ?_
    refine lv_iload_n hx hb dX0_insert_66 rfl (lv_at hl 3 rfl) ?_
    refine lv_iload_n hx hb dX0_insert_67 rfl (lv_at hl 1 rfl) ?_
    refine va_iast hx hb hK hP hD hS 103 0 (hW_w_1.a tX_103) rfl (in_I i_x55_3 (by decide)) dX0_insert_68 (fun H locs hP hD hS => fr_w (hW_w_1.uA tX_103 i_p1) hP hD (fun w_2 ew_2 hW_w_2 hP hD => ?_))
    have hv_w_2 := vw_uA hW_w_1 tX_103 ew_2 (z_ix (rfl : (x55_3 : Int32).toInt = _)) (rfl : (p1 : Int32).toInt = _)
    refine lv_aload_n hx hb dX0_insert_69 rfl (lv_at hl 0 rfl) ?_
    refine lv_dup hx hb dX0_insert_70 rfl ?_
    refine gt_X0 hx hb hts hown hK hP 102 (hW_w_2.o tX_102) 0 (by decide) wd_632 rfl (hW_w_2.fi tX_102 rfl) dX0_insert_71 ?_
    refine tov (v := (fI w 102 0)) ((fI_cg (st_ne ew_2 (by decide))).trans ((fI_cg (st_ne ew_1 (by decide))).trans g55_102_0e)) ?_
    refine lv_iconst (v := 1) hx hb dX0_insert_74 (by decide) ?_
    refine lv_iadd hx hb dX0_insert_75 ?_
    refine pt_X0 hx hb hts hown hK hP hD hS 102 (hW_w_2.o tX_102) 0 (by decide) wd_632 rfl rfl (ty := .int) (v := .int ((fI w 102 0) + 1)) (by decide +kernel) rfl rfl (hW_w_2.ll tX_102 (Nat.le_of_ble_eq_true rfl)) dX0_insert_76 (fun H locs hP hD hS => fr_w (hW_w_2.sI tX_102 rfl (In_w ((In_add hf_102_0 (In_lit (n := 1) (by decide) (by decide) : In 1 1 1) (by decide)) : In 1 40 ((fI w 102 0) + 1)) (by decide) : In 0 40 ((fI w 102 0) + 1))) hP hD (fun w_3 ew_3 hW_w_3 hP hD => ?_))
    have hv_w_3 := vw_sI (j := 0) hW_w_2 tX_102 rfl ew_3 (z_add (t_add hf_102_0 (In_lit (n := 1) (by decide) (by decide) : In 1 1 1) (by decide)) (z_of (((fI_cg (st_ne ew_2 (by decide))).trans ((fI_cg (st_ne ew_1 (by decide))).trans g55_102_0e)).symm.trans ((fI_cg (st_ne ew_2 (by decide))).trans (fI_cg (st_ne ew_1 (by decide))))) (hW_w55.vi tX_102 rfl)) (show (1 : Int32).toInt = 1 from by decide))
    exact hret _ _ _ _ _ hP hD hS dX0_insert_79 ⟨hW_w_3, (((hM_w55.sa ew_1 (by decide)).sa ew_2 (by decide)).sf (hW_w_2.lt tX_102) ew_3 (by decide)), (In_of (fI_eq (hW_w_2.lt tX_102) ew_3 (hW_w_2.ll tX_102 (Nat.le_of_ble_eq_true rfl))) ((In_add hf_102_0 (In_lit (n := 1) (by decide) (by decide) : In 1 1 1) (by decide)) : In 1 40 ((fI w 102 0) + 1))), (by have e102_0 : (fI w_3 102 0).toInt = (((fI w 102 0) + 1) : Int32).toInt := congrArg Int32.toInt (fI_eq (hW_w_2.lt tX_102) ew_3 (hW_w_2.ll tX_102 (Nat.le_of_ble_eq_true rfl))); have i102_0 := ((In_add hf_102_0 (In_lit (n := 1) (by decide) (by decide) : In 1 1 1) (by decide)) : In 1 40 ((fI w 102 0) + 1)); unfold In at i102_0; have t18 := t_add hf_102_0 (In_lit (n := 1) (by decide) (by decide) : In 1 1 1) (by decide); have z1 : (1 : Int32).toInt = 1 := (by decide); omega), (hmi_55 (0 + 1) _ _ (rl_X0_insert_55 (n := 0) (And.intro (tyX hW_w55) (And.intro i_x55_1 (And.intro i_x55_2 (And.intro i_x55_3 (Exists.intro (vw w_1) (And.intro hv_w_1 (Exists.intro (vw w_2) (And.intro hv_w_2 (Exists.intro (vw w_3) (And.intro hv_w_3 (And.intro rfl rfl)))))))))))))⟩
  have J5 : ∀ (N : Nat) (x5_3 : Int32) (w5 : va_W) (H : Heap) (locs : List Loc) (ls : Array Slot), (x5_3.toInt - 0).toNat < N → HT q (TX q cI cJ cZ bb bs bp) w5 → Sm [102, 103, 104] [(102, 0)] w w5 → (In 0 39 p1) → (In 0 2147483647 p2) → (In 0 39 x5_3) → (fI w5 102 0 = (fI w 102 0)) → (In 0 39 (fI w 102 0)) → (∀ (n : Nat) (r : Int) (t : PS), It_X0_insert n 5 p1.toInt p2.toInt x5_3.toInt (vw w5) r t → M_X0_insert (vw w) p1.toInt p2.toInt r t) → va_P D vwCl w5 H → va_D A w5 → va_S A s.heap H locs → lv_has ls 4 [(0, .ref (q 102)), (1, .int p1), (2, .int p2), (3, .int x5_3)] → W p l e R s m args below meth c H locs 0 0 Q (F0 m 5 ls []) := by
    intro N
    induction N with
    | zero => intro x5_3 w5 H locs ls hmu; exact absurd hmu (Nat.not_lt_zero _)
    | succ N ih5 =>
      intro x5_3 w5 H locs ls hmu5 hW_w5 hM_w5 i_x5_1 i_x5_2 i_x5_3 g5_102_0e g5_102_0 hmi_5 hP hD hS hl
      refine lv_iload_n hx hb dX0_insert_5 rfl (lv_at hl 3 rfl) ?_
      refine lv_if_le (tgt := 55) hx hb dX0_insert_6 (by decide) (fun c_4 => ?_) (fun c_4 => ?_)
      · exact J55 x5_3 w5 _ _ ls hW_w5 hM_w5 i_p1 i_p2 (In_w (R_le_l i_x5_3 (In_lit (n := 0) (by decide) (by decide) : In 0 0 0) c_4 (by decide) : In 0 0 x5_3) (by decide) : In 0 39 x5_3) g5_102_0e hf_102_0 (fun n r t hk => (hmi_5 (n + 1) r t (rl_X0_insert_5 (n := n) (And.intro (tyX hW_w5) (And.intro i_x5_1 (And.intro i_x5_2 (And.intro i_x5_3 (Or.inl (And.intro (z_le c_4 (rfl : (x5_3 : Int32).toInt = _) (show (0 : Int32).toInt = 0 from by decide)) (cgK_3 hk (rfl : (p1 : Int32).toInt = _) (rfl : (p2 : Int32).toInt = _) (rfl : (x5_3 : Int32).toInt = _))))))))))) hP hD hS (lv_sub hl [0, 1, 2, 3] rfl)
      · refine lv_aload_n hx hb dX0_insert_9 rfl (lv_at hl 0 rfl) ?_
        refine gt_X0 hx hb hts hown hK hP 102 (hW_w5.o tX_102) 2 (by decide) wd_636 rfl (hW_w5.fr tX_102 rfl) dX0_insert_10 ?_
        refine lv_iload_n hx hb dX0_insert_13 rfl (lv_at hl 3 rfl) ?_
        refine lv_iconst (v := 1) hx hb dX0_insert_14 (by decide) ?_
        refine lv_isub hx hb dX0_insert_15 ?_
        refine va_iald hx hb hK hP 104 0 (hW_w5.a tX_104) rfl (in_I ((In_sub (R_nle_l i_x5_3 (In_lit (n := 0) (by decide) (by decide) : In 0 0 0) c_4 (by decide) : In 1 39 x5_3) (In_lit (n := 1) (by decide) (by decide) : In 1 1 1) (by decide)) : In 0 38 (x5_3 - 1)) (by decide)) dX0_insert_16 ?_
        refine lv_topi (fun v_5 ev_5 => ?_)
        refine lv_iload_n hx hb dX0_insert_17 rfl (lv_at hl 2 rfl) ?_
        refine lv_icmp_ge (tgt := 55) hx hb dX0_insert_18 (by decide) (fun c_6 => ?_) (fun c_6 => ?_)
        · exact J55 x5_3 w5 _ _ ls hW_w5 hM_w5 i_p1 i_p2 (In_w (R_nle_l i_x5_3 (In_lit (n := 0) (by decide) (by decide) : In 0 0 0) c_4 (by decide) : In 1 39 x5_3) (by decide) : In 0 39 x5_3) g5_102_0e hf_102_0 (fun n r t hk => (hmi_5 (n + 1) r t (rl_X0_insert_5 (n := n) (And.intro (tyX hW_w5) (And.intro i_x5_1 (And.intro i_x5_2 (And.intro i_x5_3 (Or.inr (And.intro (z_nle c_4 (rfl : (x5_3 : Int32).toInt = _) (show (0 : Int32).toInt = 0 from by decide)) (Or.inl (And.intro (z_le c_6 (rfl : (p2 : Int32).toInt = _) (z_of ev_5 ((hW_w5.va tX_104 _).trans (congrArg (vw w5 104) (z_ix (z_sub (t_sub (R_nle_l i_x5_3 (In_lit (n := 0) (by decide) (by decide) : In 0 0 0) c_4 (by decide) : In 1 39 x5_3) (In_lit (n := 1) (by decide) (by decide) : In 1 1 1) (by decide)) (rfl : (x5_3 : Int32).toInt = _) (show (1 : Int32).toInt = 1 from by decide))))))) (cgK_3 hk (rfl : (p1 : Int32).toInt = _) (rfl : (p2 : Int32).toInt = _) (rfl : (x5_3 : Int32).toInt = _))))))))))))) hP hD hS (lv_sub hl [0, 1, 2, 3] rfl)
        · refine lv_aload_n hx hb dX0_insert_21 rfl (lv_at hl 0 rfl) ?_
          refine gt_X0 hx hb hts hown hK hP 102 (hW_w5.o tX_102) 2 (by decide) wd_636 rfl (hW_w5.fr tX_102 rfl) dX0_insert_22 ?_
          refine lv_iload_n hx hb dX0_insert_25 rfl (lv_at hl 3 rfl) ?_
          refine lv_aload_n hx hb dX0_insert_26 rfl (lv_at hl 0 rfl) ?_
          refine gt_X0 hx hb hts hown hK hP 102 (hW_w5.o tX_102) 2 (by decide) wd_636 rfl (hW_w5.fr tX_102 rfl) dX0_insert_27 ?_
          refine lv_iload_n hx hb dX0_insert_30 rfl (lv_at hl 3 rfl) ?_
          refine lv_iconst (v := 1) hx hb dX0_insert_31 (by decide) ?_
          refine lv_isub hx hb dX0_insert_32 ?_
          refine va_iald hx hb hK hP 104 0 (hW_w5.a tX_104) rfl (in_I ((In_sub (R_nle_l i_x5_3 (In_lit (n := 0) (by decide) (by decide) : In 0 0 0) c_4 (by decide) : In 1 39 x5_3) (In_lit (n := 1) (by decide) (by decide) : In 1 1 1) (by decide)) : In 0 38 (x5_3 - 1)) (by decide)) dX0_insert_33 ?_
          refine tov (v := v_5) ev_5.symm ?_
          refine va_iast hx hb hK hP hD hS 104 0 (hW_w5.a tX_104) rfl (in_I (R_nle_l i_x5_3 (In_lit (n := 0) (by decide) (by decide) : In 0 0 0) c_4 (by decide) : In 1 39 x5_3) (by decide)) dX0_insert_34 (fun H locs hP hD hS => fr_w (hW_w5.uA tX_104 (In_w (R_nle_r i_p2 (In_any v_5) c_6 (by decide) : In (-2147483648) 2147483646 v_5) (by decide) : In (-2147483648) 2147483647 v_5)) hP hD (fun w_7 ew_7 hW_w_7 hP hD => ?_))
          have hv_w_7 := vw_uA hW_w5 tX_104 ew_7 (z_ix (rfl : (x5_3 : Int32).toInt = _)) (z_of ev_5 ((hW_w5.va tX_104 _).trans (congrArg (vw w5 104) (z_ix (z_sub (t_sub (R_nle_l i_x5_3 (In_lit (n := 0) (by decide) (by decide) : In 0 0 0) c_4 (by decide) : In 1 39 x5_3) (In_lit (n := 1) (by decide) (by decide) : In 1 1 1) (by decide)) (rfl : (x5_3 : Int32).toInt = _) (show (1 : Int32).toInt = 1 from by decide))))))
          refine lv_aload_n hx hb dX0_insert_35 rfl (lv_at hl 0 rfl) ?_
          refine gt_X0 hx hb hts hown hK hP 102 (hW_w_7.o tX_102) 1 (by decide) wd_634 rfl (hW_w_7.fr tX_102 rfl) dX0_insert_36 ?_
          refine lv_iload_n hx hb dX0_insert_39 rfl (lv_at hl 3 rfl) ?_
          refine lv_aload_n hx hb dX0_insert_40 rfl (lv_at hl 0 rfl) ?_
          refine gt_X0 hx hb hts hown hK hP 102 (hW_w_7.o tX_102) 1 (by decide) wd_634 rfl (hW_w_7.fr tX_102 rfl) dX0_insert_41 ?_
          refine lv_iload_n hx hb dX0_insert_44 rfl (lv_at hl 3 rfl) ?_
          refine lv_iconst (v := 1) hx hb dX0_insert_45 (by decide) ?_
          refine lv_isub hx hb dX0_insert_46 ?_
          refine va_iald hx hb hK hP 103 0 (hW_w_7.a tX_103) rfl (in_I ((In_sub (R_nle_l i_x5_3 (In_lit (n := 0) (by decide) (by decide) : In 0 0 0) c_4 (by decide) : In 1 39 x5_3) (In_lit (n := 1) (by decide) (by decide) : In 1 1 1) (by decide)) : In 0 38 (x5_3 - 1)) (by decide)) dX0_insert_47 ?_
          refine lv_topi (fun v_8 ev_8 => ?_)
          refine va_iast hx hb hK hP hD hS 103 0 (hW_w_7.a tX_103) rfl (in_I (R_nle_l i_x5_3 (In_lit (n := 0) (by decide) (by decide) : In 0 0 0) c_4 (by decide) : In 1 39 x5_3) (by decide)) dX0_insert_48 (fun H locs hP hD hS => fr_w (hW_w_7.uA tX_103 (In_of ev_8 (hW_w_7.ap tX_103 _) : In 0 39 v_8)) hP hD (fun w_9 ew_9 hW_w_9 hP hD => ?_))
          have hv_w_9 := vw_uA hW_w_7 tX_103 ew_9 (z_ix (rfl : (x5_3 : Int32).toInt = _)) (z_of (ev_8.trans (congrFun (aF_cg (st_ne ew_7 (by decide))) _)) ((hW_w5.va tX_103 _).trans (congrArg (vw w5 103) (z_ix (z_sub (t_sub (R_nle_l i_x5_3 (In_lit (n := 0) (by decide) (by decide) : In 0 0 0) c_4 (by decide) : In 1 39 x5_3) (In_lit (n := 1) (by decide) (by decide) : In 1 1 1) (by decide)) (rfl : (x5_3 : Int32).toInt = _) (show (1 : Int32).toInt = 1 from by decide))))))
          refine lv_iinc (v := (x5_3 + (-1))) (lv' := [(3, .int (x5_3 + (-1))), (0, .ref (q 102)), (1, .int p1), (2, .int p2)]) hx hb dX0_insert_49 hl (k := 3) rfl (rfl) (by decide) rfl (fun ls hl => ?_)
          refine lv_goto (tgt := 5) hx hb dX0_insert_52 (by decide) ?_
          exact ih5 (x5_3 + (-1)) w_9 _ _ ls (mu_dec (n := 1) hmu5 (R_nle_l i_x5_3 (In_lit (n := 0) (by decide) (by decide) : In 0 0 0) c_4 (by decide) : In 1 39 x5_3) (by decide) (by decide)) hW_w_9 ((hM_w5.sa ew_7 (by decide)).sa ew_9 (by decide)) i_p1 i_p2 (In_w ((In_dec (y := (-1)) (n := 1) (R_nle_l i_x5_3 (In_lit (n := 0) (by decide) (by decide) : In 0 0 0) c_4 (by decide) : In 1 39 x5_3) (by decide) (by decide)) : In 0 38 (x5_3 + (-1))) (by decide) : In 0 39 (x5_3 + (-1))) ((fI_cg (st_ne ew_9 (by decide))).trans ((fI_cg (st_ne ew_7 (by decide))).trans g5_102_0e)) hf_102_0 (fun n r t hk => (hmi_5 (n + 1) r t (rl_X0_insert_5 (n := n) (And.intro (tyX hW_w5) (And.intro i_x5_1 (And.intro i_x5_2 (And.intro i_x5_3 (Or.inr (And.intro (z_nle c_4 (rfl : (x5_3 : Int32).toInt = _) (show (0 : Int32).toInt = 0 from by decide)) (Or.inr (And.intro (z_nle c_6 (rfl : (p2 : Int32).toInt = _) (z_of ev_5 ((hW_w5.va tX_104 _).trans (congrArg (vw w5 104) (z_ix (z_sub (t_sub (R_nle_l i_x5_3 (In_lit (n := 0) (by decide) (by decide) : In 0 0 0) c_4 (by decide) : In 1 39 x5_3) (In_lit (n := 1) (by decide) (by decide) : In 1 1 1) (by decide)) (rfl : (x5_3 : Int32).toInt = _) (show (1 : Int32).toInt = 1 from by decide))))))) (Exists.intro (vw w_7) (And.intro hv_w_7 (Exists.intro (vw w_9) (And.intro hv_w_9 (cgK_3 hk (rfl : (p1 : Int32).toInt = _) (rfl : (p2 : Int32).toInt = _) (z_add (t_add (R_nle_l i_x5_3 (In_lit (n := 0) (by decide) (by decide) : In 0 0 0) c_4 (by decide) : In 1 39 x5_3) (In_lit (n := (-1)) (by decide) (by decide) : In (-1) (-1) (-1)) (by decide)) (rfl : (x5_3 : Int32).toInt = _) (show ((-1) : Int32).toInt = (-1) from by decide)))))))))))))))))) hP hD hS (lv_sub hl [1, 2, 3, 0] rfl)
  refine lv_aload_n hx hb dX0_insert_0 rfl (lv_at hl 0 rfl) ?_
  refine gt_X0 hx hb hts hown hK hP 102 (hW_w.o tX_102) 0 (by decide) wd_632 rfl (hW_w.fi tX_102 rfl) dX0_insert_1 ?_
  refine lv_istore_n (lv' := [(3, .int (fI w 102 0)), (0, .ref (q 102)), (1, .int p1), (2, .int p2)]) hx hb dX0_insert_4 rfl hl (by decide) rfl (fun ls hl => ?_)
  exact J5 _ (fI w 102 0) w _ _ ls (Nat.lt_succ_self _) hW_w Sm.rf i_p1 i_p2 hf_102_0 rfl hf_102_0 (fun n r t hk => (mk_X0_insert (n := n) (And.intro (tyX hW_w) (And.intro i_p1 (And.intro i_p2 (cgK_3 hk (rfl : (p1 : Int32).toInt = _) (rfl : (p2 : Int32).toInt = _) (hW_w.vi tX_102 rfl))))))) hP hD hS (lv_sub hl [1, 2, 3, 0] rfl)
set_option maxRecDepth 100000 in
set_option maxHeartbeats 8000000 in
theorem e_X0_sort_88_1 (l : Launch) (D : va_G) (cI cJ cZ : ClassId) (q : Nat → Nat) (bb bs bp : Nat) (w : va_W) (hW_w : HT q (TX q cI cJ cZ bb bs bp) w) : Con_v l yX0_sort cX0_sort 4 none ({ frames := 2, cells := 0, slots := 0, locals := 46 }) D cI cJ cZ eW [.ref (q 102), .ref (q 88), .ref (q 1)] w (fun (w1 : va_W) => HT q (TX q cI cJ cZ bb bs bp) w1 ∧ Sm [102, 103, 104] [(102, 0)] w w1 ∧ M_X0_sort_88_1 (vw w) 0 (vw w1)) := by
  refine eQ_v rfl (by decide) (Nat.le_of_ble_eq_true rfl) ⟨rfl, rfl⟩ ?_
  intro p e R s m args below meth c A Q hx hb hml hown hts hK hE hA hR hret hP hD hS ls hl
  have hown : s.vm.findClass RX0 = some m.cls := hown
  have hl : lv_has ls 4 [(0, .ref (q 102)), (1, .ref (q 88)), (2, .ref (q 1))] := hl
  have J7 : ∀ (N : Nat) (x7_3 : Int32) (w7 : va_W) (H : Heap) (locs : List Loc) (ls : Array Slot), (40 - x7_3.toInt).toNat < N → HT q (TX q cI cJ cZ bb bs bp) w7 → Sm [102, 103, 104] [(102, 0)] w w7 → (In 0 40 x7_3) → ((fI w7 102 0).toInt ≤ (x7_3 : Int32).toInt) → (∀ (n : Nat) (r : Int) (t : PS), It_X0_sort_88_1 n 7 x7_3.toInt (vw w7) r t → M_X0_sort_88_1 (vw w) r t) → va_P D vwCl w7 H → va_D A w7 → va_S A s.heap H locs → lv_has ls 4 [(0, .ref (q 102)), (1, .ref (q 88)), (2, .ref (q 1)), (3, .int x7_3)] → W p l e R s m args below meth c H locs 0 0 Q (F0 m 7 ls []) := by
    intro N
    induction N with
    | zero => intro x7_3 w7 H locs ls hmu; exact absurd hmu (Nat.not_lt_zero _)
    | succ N ih7 =>
      intro x7_3 w7 H locs ls hmu7 hW_w7 hM_w7 i_x7_3 hc_7 hmi_7 hP hD hS hl
      have J39 : ∀ (w39 : va_W) (H : Heap) (locs : List Loc) (ls : Array Slot), HT q (TX q cI cJ cZ bb bs bp) w39 → Sm [102, 103, 104] [(102, 0)] w w39 → (In 0 39 x7_3) → (In 1 40 (fI w39 88 1)) → ((fI w39 102 0).toInt ≤ (x7_3 : Int32).toInt + 1) → (∀ (n : Nat) (r : Int) (t : PS), It_X0_sort_88_1 n 39 x7_3.toInt (vw w39) r t → M_X0_sort_88_1 (vw w) r t) → va_P D vwCl w39 H → va_D A w39 → va_S A s.heap H locs → lv_has ls 4 [(0, .ref (q 102)), (1, .ref (q 88)), (2, .ref (q 1)), (3, .int x7_3)] → W p l e R s m args below meth c H locs 0 0 Q (F0 m 39 ls []) := by
        intro w39 H locs ls hW_w39 hM_w39 i_x39_3 g39_88_1 hc_39 hmi_39 hP hD hS hl
        refine lv_iinc (v := (x7_3 + 1)) (lv' := [(3, .int (x7_3 + 1)), (0, .ref (q 102)), (1, .ref (q 88)), (2, .ref (q 1))]) hx hb dX0_sort_39 hl (k := 3) rfl (rfl) (by decide) rfl (fun ls hl => ?_)
        refine lv_goto (tgt := 7) hx hb dX0_sort_42 (by decide) ?_
        exact ih7 (x7_3 + 1) w39 _ _ ls (mu_inc hmu7 i_x39_3 (In_lit (n := 1) (by decide) (by decide) : In 1 1 1) (by decide)) hW_w39 hM_w39 (In_w ((In_add (y := 1) i_x39_3 (In_lit (n := 1) (by decide) (by decide) : In 1 1 1) (by decide)) : In 1 40 (x7_3 + 1)) (by decide) : In 0 40 (x7_3 + 1)) (by have i102_0 := (hW_w39.fin tX_102 rfl : In 0 40 (fI w39 102 0)); unfold In at i102_0; have t10 := t_add i_x39_3 (In_lit (n := 1) (by decide) (by decide) : In 1 1 1) (by decide); have z1 : (1 : Int32).toInt = 1 := (by decide); omega) (fun n r t hk => (hmi_39 (n + 1) r t (rl_X0_sort_88_1_39 (n := n) (And.intro (tyX hW_w39) (And.intro i_x39_3 (cgK_1 hk (z_add (t_add i_x39_3 (In_lit (n := 1) (by decide) (by decide) : In 1 1 1) (by decide)) (rfl : (x7_3 : Int32).toInt = _) (show (1 : Int32).toInt = 1 from by decide)))))))) hP hD hS (lv_sub hl [1, 2, 3, 0] rfl)
      refine lv_iload_n hx hb dX0_sort_7 rfl (lv_at hl 3 rfl) ?_
      refine lv_aload_n hx hb dX0_sort_8 rfl (lv_at hl 1 rfl) ?_
      refine gt_X4 hx hb hts hown hK hP 88 (hW_w7.o tX_88) 1 (by decide) wd_568 rfl (hW_w7.fi tX_88 rfl) dX0_sort_9 ?_
      refine tov (v := (fI w 88 1)) (hM_w7.gI (by decide)) ?_
      refine lv_icmp_ge (tgt := 45) hx hb dX0_sort_12 (by decide) (fun c_1 => ?_) (fun c_1 => ?_)
      · exact hret _ _ _ _ _ hP hD hS dX0_sort_45 ⟨hW_w7, hM_w7, (hmi_7 (0 + 1) _ _ (rl_X0_sort_88_1_7 (n := 0) (And.intro (tyX hW_w7) (And.intro i_x7_3 (Or.inl (And.intro (z_le c_1 (z_of (hM_w7.gI (by decide)).symm (hW_w7.vi tX_88 rfl)) (rfl : (x7_3 : Int32).toInt = _)) (And.intro rfl rfl)))))))⟩
      · refine lv_aload_n hx hb dX0_sort_15 rfl (lv_at hl 1 rfl) ?_
        refine gt_X4 hx hb hts hown hK hP 88 (hW_w7.o tX_88) 8 (by decide) wd_579 rfl (hW_w7.fr tX_88 rfl) dX0_sort_16 ?_
        refine lv_iload_n hx hb dX0_sort_19 rfl (lv_at hl 3 rfl) ?_
        refine va_iald hx hb hK hP 95 0 (hW_w7.a tX_95) rfl (in_I (R_nle_r (hW_w.fin tX_88 rfl : In 0 40 (fI w 88 1)) i_x7_3 c_1 (by decide) : In 0 39 x7_3) (by decide)) dX0_sort_20 ?_
        refine lv_topi (fun v_2 ev_2 => ?_)
        refine lv_if_eq (tgt := 39) hx hb dX0_sort_21 (by decide) (fun c_3 => ?_) (fun c_3 => ?_)
        · exact J39 w7 _ _ ls hW_w7 hM_w7 (R_nle_r (hW_w.fin tX_88 rfl : In 0 40 (fI w 88 1)) i_x7_3 c_1 (by decide) : In 0 39 x7_3) (In_of (hM_w7.gI (by decide)) (R_nle_l (hW_w.fin tX_88 rfl : In 0 40 (fI w 88 1)) i_x7_3 c_1 (by decide) : In 1 40 (fI w 88 1))) (by have i102_0 := (hW_w7.fin tX_102 rfl : In 0 40 (fI w7 102 0)); unfold In at i102_0; omega) (fun n r t hk => (hmi_7 (n + 1) r t (rl_X0_sort_88_1_7 (n := n) (And.intro (tyX hW_w7) (And.intro i_x7_3 (Or.inr (And.intro (z_nle c_1 (z_of (hM_w7.gI (by decide)).symm (hW_w7.vi tX_88 rfl)) (rfl : (x7_3 : Int32).toInt = _)) (Or.inl (And.intro (z_eq c_3 (z_of ev_2 ((hW_w7.va tX_95 _).trans (congrArg (vw w7 95) (z_ix (rfl : (x7_3 : Int32).toInt = _))))) (show (0 : Int32).toInt = 0 from by decide)) (cgK_1 hk (rfl : (x7_3 : Int32).toInt = _))))))))))) hP hD hS (lv_sub hl [0, 1, 2, 3] rfl)
        · refine lv_aload_n hx hb dX0_sort_24 rfl (lv_at hl 0 rfl) ?_
          refine lv_iload_n hx hb dX0_sort_25 rfl (lv_at hl 3 rfl) ?_
          refine lv_aload_n hx hb dX0_sort_26 rfl (lv_at hl 1 rfl) ?_
          refine gt_X4 hx hb hts hown hK hP 88 (hW_w7.o tX_88) 8 (by decide) wd_579 rfl (hW_w7.fr tX_88 rfl) dX0_sort_27 ?_
          refine lv_iload_n hx hb dX0_sort_30 rfl (lv_at hl 3 rfl) ?_
          refine va_iald hx hb hK hP 95 0 (hW_w7.a tX_95) rfl (in_I (R_nle_r (hW_w.fin tX_88 rfl : In 0 40 (fI w 88 1)) i_x7_3 c_1 (by decide) : In 0 39 x7_3) (by decide)) dX0_sort_31 ?_
          refine tov (v := v_2) ((congrFun (hM_w7.hA (by decide)) _).trans ((congrFun (hM_w7.hA (by decide)) _).symm.trans ev_2.symm)) ?_
          refine lv_aload_n hx hb dX0_sort_32 rfl (lv_at hl 2 rfl) ?_
          refine kW_i ⟨rfl, rfl⟩ hP hD hS hA (rW_S (As := [.int v_2, .ref (q 1)]) (rest := [.int x7_3, .ref (q 102)]) hx hb hml hown hts hK hE hP hD (e_X0_farOf_1 l D cI cJ cZ q bb bs bp w7 hW_w7 v_2 _) ⟨⟨rfl, rfl⟩, rfl, rfl⟩ sv_X0_40 ⟨(Nat.le_trans (by decide) hR.1), (Nat.le_trans (by decide) hR.2)⟩ rfl hl.1 rfl (Nat.le_of_ble_eq_true rfl) dX0_sort_33) (fun r_5 w_4 H locs hw_w_4 hP hD hS => ?_)
          obtain ⟨hW_w_4, hs_w_4, i_r_5, hm_6⟩ := hw_w_4
          refine kW_v ⟨rfl, rfl⟩ hP hD hS hA (rW_V (As := [.int x7_3, .int r_5]) (rest := []) hx hb hml hown hts hK hE hP hD (e_X0_insert l D cI cJ cZ q bb bs bp w_4 hW_w_4 x7_3 r_5 (R_nle_r (hW_w.fin tX_88 rfl : In 0 40 (fI w 88 1)) i_x7_3 c_1 (by decide) : In 0 39 x7_3) i_r_5 (In_of (hs_w_4.gI (by decide)) (by have q0 := (hW_w7.fin tX_102 rfl : In 0 40 (fI w7 102 0)); have q1 := (R_nle_r (hW_w.fin tX_88 rfl : In 0 40 (fI w 88 1)) i_x7_3 c_1 (by decide) : In 0 39 x7_3); unfold In at q0 q1 ⊢; omega : In 0 39 (fI w7 102 0))) _) ⟨⟨rfl, rfl⟩, rfl, rfl⟩ sv_X0_44 ⟨(Nat.le_trans (by decide) hR.1), (Nat.le_trans (by decide) hR.2)⟩ 102 0 (hW_w_4.o tX_102) rfl rfl rfl hl.1 rfl (Nat.le_of_ble_eq_true rfl) dX0_sort_36) (fun w_7 H locs hw_w_7 hP hD hS => ?_)
          obtain ⟨hW_w_7, hs_w_7, h_9, h_10, hm_11⟩ := hw_w_7
          have n_h_10 : (fI w_7 102 0).toInt ≤ ((fI w7 102 0) : Int32).toInt + 1 := (by have ee : (fI w_4 102 0).toInt = ((fI w7 102 0) : Int32).toInt := congrArg Int32.toInt (hs_w_4.gI (by decide)); omega)
          exact J39 w_7 _ _ ls hW_w_7 ((hM_w7.tr hs_w_4 (by decide)).tr hs_w_7 (by decide)) (R_nle_r (hW_w.fin tX_88 rfl : In 0 40 (fI w 88 1)) i_x7_3 c_1 (by decide) : In 0 39 x7_3) (In_of ((hs_w_7.gI (by decide)).trans ((hs_w_4.gI (by decide)).trans (hM_w7.gI (by decide)))) (R_nle_l (hW_w.fin tX_88 rfl : In 0 40 (fI w 88 1)) i_x7_3 c_1 (by decide) : In 1 40 (fI w 88 1))) (by have i102_0 := h_9; unfold In at i102_0; omega) (fun n r t hk => (hmi_7 (n + 1) r t (rl_X0_sort_88_1_7 (n := n) (And.intro (tyX hW_w7) (And.intro i_x7_3 (Or.inr (And.intro (z_nle c_1 (z_of (hM_w7.gI (by decide)).symm (hW_w7.vi tX_88 rfl)) (rfl : (x7_3 : Int32).toInt = _)) (Or.inr (And.intro (z_neq c_3 (z_of ev_2 ((hW_w7.va tX_95 _).trans (congrArg (vw w7 95) (z_ix (rfl : (x7_3 : Int32).toInt = _))))) (show (0 : Int32).toInt = 0 from by decide)) (Exists.intro r_5.toInt (Exists.intro (vw w_4) (And.intro (cgM_1 hm_6 (z_of ev_2 ((hW_w7.va tX_95 _).trans (congrArg (vw w7 95) (z_ix (rfl : (x7_3 : Int32).toInt = _)))))) (And.intro (hs_w_4.Fr hW_w7 hW_w_4 intsX_ok intsX_ok) (And.intro (tyX hW_w_4) (And.intro i_r_5 (Exists.intro (vw w_7) (And.intro (cgM_2 hm_11 (rfl : (x7_3 : Int32).toInt = _) (rfl : (r_5 : Int32).toInt = _)) (And.intro (hs_w_7.Fr hW_w_4 hW_w_7 intsX_ok intsX_ok) (And.intro (tyX hW_w_7) (cgK_1 hk (rfl : (x7_3 : Int32).toInt = _))))))))))))))))))))) hP hD hS (lv_sub hl [0, 1, 2, 3] rfl)
  refine lv_aload_n hx hb dX0_sort_0 rfl (lv_at hl 0 rfl) ?_
  refine lv_iconst (v := 0) hx hb dX0_sort_1 (by decide) ?_
  refine pt_X0 hx hb hts hown hK hP hD hS 102 (hW_w.o tX_102) 0 (by decide) wd_632 rfl rfl (ty := .int) (v := .int 0) (by decide +kernel) rfl rfl (hW_w.ll tX_102 (Nat.le_of_ble_eq_true rfl)) dX0_sort_2 (fun H locs hP hD hS => fr_w (hW_w.sI tX_102 rfl (In_lit (n := 0) (by decide) (by decide) : In 0 40 0)) hP hD (fun w_12 ew_12 hW_w_12 hP hD => ?_))
  have hv_w_12 := vw_sI (j := 0) hW_w tX_102 rfl ew_12 (show (0 : Int32).toInt = 0 from by decide)
  refine lv_iconst (v := 0) hx hb dX0_sort_5 (by decide) ?_
  refine lv_istore_n (lv' := [(3, .int 0), (0, .ref (q 102)), (1, .ref (q 88)), (2, .ref (q 1))]) hx hb dX0_sort_6 rfl hl (by decide) rfl (fun ls hl => ?_)
  exact J7 _ 0 w_12 _ _ ls (Nat.lt_succ_self _) hW_w_12 (Sm.rf.sf (hW_w.lt tX_102) ew_12 (by decide)) (In_lit (n := 0) (by decide) (by decide) : In 0 40 0) (by have e102_0 : (fI w_12 102 0).toInt = (0 : Int32).toInt := congrArg Int32.toInt (fI_eq (hW_w.lt tX_102) ew_12 (hW_w.ll tX_102 (Nat.le_of_ble_eq_true rfl))); have z0 : (0 : Int32).toInt = 0 := (by decide); have z0 : (0 : Int32).toInt = 0 := (by decide); omega) (fun n r t hk => (mk_X0_sort_88_1 (n := n) (And.intro (tyX hW_w) (Exists.intro (vw w_12) (And.intro hv_w_12 (cgK_1 hk (show (0 : Int32).toInt = 0 from by decide))))))) hP hD hS (lv_sub hl [1, 2, 3, 0] rfl)
set_option maxRecDepth 100000 in
set_option maxHeartbeats 8000000 in
theorem e_X0_steps (l : Launch) (D : va_G) (cI cJ cZ : ClassId) (q : Nat → Nat) (bb bs bp : Nat) (w : va_W) (hW_w : HT q (TX q cI cJ cZ bb bs bp) w) (p1 : Int32) (i_p1 : In 1 40 p1) : Con_i l yX0_steps cX0_steps 5 (some .int) ({ frames := 1, cells := 0, slots := 0, locals := 23 }) D cI cJ cZ eW [.ref (q 102), .int p1] w (fun (r : Int32) (w1 : va_W) => HT q (TX q cI cJ cZ bb bs bp) w1 ∧ Sm [] [] w w1 ∧ M_X0_steps (vw w) p1.toInt r.toInt (vw w1)) := by
  refine eQ_i rfl (by decide) (Nat.le_of_ble_eq_true rfl) ⟨rfl, rfl⟩ ?_
  intro p e R s m args below meth c A Q hx hb hml hown hts hK hE hA hR hret hP hD hS ls hl
  have hown : s.vm.findClass RX0 = some m.cls := hown
  have hl : lv_has ls 5 [(0, .ref (q 102)), (1, .int p1)] := hl
  have J11 : ∀ (N : Nat) (x11_2 : Int32) (x11_3 : Int32) (x11_4 : Int32) (w11 : va_W) (H : Heap) (locs : List Loc) (ls : Array Slot), (79 - x11_4.toInt).toNat < N → HT q (TX q cI cJ cZ bb bs bp) w11 → Sm [] [] w w11 → (In 1 40 p1) → (In 1 40 x11_2) → (In 0 79 x11_4) → (∀ (n : Nat) (r : Int) (t : PS), It_X0_steps n p1.toInt x11_2.toInt x11_3.toInt x11_4.toInt (vw w11) r t → M_X0_steps (vw w) p1.toInt r t) → va_P D vwCl w11 H → va_D A w11 → va_S A s.heap H locs → lv_has ls 5 [(0, .ref (q 102)), (1, .int p1), (2, .int x11_2), (3, .int x11_3), (4, .int x11_4)] → W p l e R s m args below meth c H locs 0 0 Q (F0 m 11 ls []) := by
    intro N
    induction N with
    | zero => intro x11_2 x11_3 x11_4 w11 H locs ls hmu; exact absurd hmu (Nat.not_lt_zero _)
    | succ N ih11 =>
      intro x11_2 x11_3 x11_4 w11 H locs ls hmu11 hW_w11 hM_w11 i_x11_1 i_x11_2 i_x11_4 hmi_11 hP hD hS hl
      refine lv_iload hx hb dX0_steps_11 (lv_at hl 4 rfl) ?_
      refine lv_aload_n hx hb dX0_steps_13 rfl (lv_at hl 0 rfl) ?_
      refine gt_X0 hx hb hts hown hK hP 102 (hW_w11.o tX_102) 0 (by decide) wd_632 rfl (hW_w11.fi tX_102 rfl) dX0_steps_14 ?_
      refine tov (v := (fI w 102 0)) (hM_w11.gI (by decide)) ?_
      refine lv_icmp_ge (tgt := 41) hx hb dX0_steps_17 (by decide) (fun c_1 => ?_) (fun c_1 => ?_)
      · refine lv_iload_n hx hb dX0_steps_41 rfl (lv_at hl 3 rfl) ?_
        exact hret _ _ _ _ _ _ hP hD hS dX0_steps_42 ⟨hW_w11, hM_w11, (hmi_11 (0 + 1) _ _ (rl_X0_steps_11 (n := 0) (And.intro (tyX hW_w11) (And.intro i_x11_1 (And.intro i_x11_2 (And.intro i_x11_4 (Or.inl (And.intro (z_le c_1 (z_of (hM_w11.gI (by decide)).symm (hW_w11.vi tX_102 rfl)) (rfl : (x11_4 : Int32).toInt = _)) (And.intro (rfl : (x11_3 : Int32).toInt = _) rfl)))))))))⟩
      · refine lv_iload_n hx hb dX0_steps_20 rfl (lv_at hl 3 rfl) ?_
        refine lv_iconst (v := 2) hx hb dX0_steps_21 (by decide) ?_
        refine lv_aload_n hx hb dX0_steps_22 rfl (lv_at hl 0 rfl) ?_
        refine gt_X0 hx hb hts hown hK hP 102 (hW_w11.o tX_102) 2 (by decide) wd_636 rfl (hW_w11.fr tX_102 rfl) dX0_steps_23 ?_
        refine lv_iload hx hb dX0_steps_26 (lv_at hl 4 rfl) ?_
        refine va_iald hx hb hK hP 104 0 (hW_w11.a tX_104) rfl (in_I (R_nle_r (hW_w.fin tX_102 rfl : In 0 40 (fI w 102 0)) i_x11_4 c_1 (by decide) : In 0 39 x11_4) (by decide)) dX0_steps_28 ?_
        refine lv_topi (fun v_2 ev_2 => ?_)
        refine lv_imul hx hb dX0_steps_29 ?_
        refine lv_topi (fun v_3 ev_3 => ?_)
        refine lv_iadd hx hb dX0_steps_30 ?_
        refine lv_topi (fun v_4 ev_4 => ?_)
        refine lv_istore_n (lv' := [(3, .int v_4), (0, .ref (q 102)), (1, .int p1), (2, .int x11_2), (4, .int x11_4)]) hx hb dX0_steps_31 rfl hl (by decide) rfl (fun ls hl => ?_)
        refine lv_iload hx hb dX0_steps_32 (lv_at hl 4 rfl) ?_
        refine lv_iload_n hx hb dX0_steps_34 rfl (lv_at hl 3 rfl) ?_
        refine lv_iadd hx hb dX0_steps_35 ?_
        refine lv_istore (lv' := [(4, .int (x11_4 + x11_2)), (3, .int v_4), (0, .ref (q 102)), (1, .int p1), (2, .int x11_2)]) hx hb dX0_steps_36 hl (by decide) rfl (fun ls hl => ?_)
        refine lv_goto (tgt := 11) hx hb dX0_steps_38 (by decide) ?_
        exact ih11 x11_2 v_4 (x11_4 + x11_2) w11 _ _ ls (mu_inc hmu11 (R_nle_r (hW_w.fin tX_102 rfl : In 0 40 (fI w 102 0)) i_x11_4 c_1 (by decide) : In 0 39 x11_4) i_x11_2 (by decide)) hW_w11 hM_w11 i_p1 i_x11_2 (In_w ((In_add (R_nle_r (hW_w.fin tX_102 rfl : In 0 40 (fI w 102 0)) i_x11_4 c_1 (by decide) : In 0 39 x11_4) i_x11_2 (by decide)) : In 1 79 (x11_4 + x11_2)) (by decide) : In 0 79 (x11_4 + x11_2)) (fun n r t hk => (hmi_11 (n + 1) r t (rl_X0_steps_11 (n := n) (And.intro (tyX hW_w11) (And.intro i_x11_1 (And.intro i_x11_2 (And.intro i_x11_4 (Or.inr (And.intro (z_nle c_1 (z_of (hM_w11.gI (by decide)).symm (hW_w11.vi tX_102 rfl)) (rfl : (x11_4 : Int32).toInt = _)) (cgK_4 hk (rfl : (p1 : Int32).toInt = _) (rfl : (x11_2 : Int32).toInt = _) (z_of ev_4 (z_addw (rfl : (x11_3 : Int32).toInt = _) (z_of ev_3 (z_mulw (show (2 : Int32).toInt = 2 from by decide) (z_of ev_2 ((hW_w11.va tX_104 _).trans (congrArg (vw w11 104) (z_ix (rfl : (x11_4 : Int32).toInt = _))))))))) (z_add (t_add (R_nle_r (hW_w.fin tX_102 rfl : In 0 40 (fI w 102 0)) i_x11_4 c_1 (by decide) : In 0 39 x11_4) i_x11_2 (by decide)) (rfl : (x11_4 : Int32).toInt = _) (rfl : (x11_2 : Int32).toInt = _)))))))))))) hP hD hS (lv_sub hl [2, 3, 4, 1, 0] rfl)
  refine lv_iconst (v := 1) hx hb dX0_steps_0 (by decide) ?_
  refine lv_iload_n hx hb dX0_steps_1 rfl (lv_at hl 1 rfl) ?_
  refine va_mmax hx hb (by rw [hml]; exact hl.1.symm) hown (hts _ wd_1344) (hts _ wd_999) (hts _ wd_18) (hts _ wd_1000) (Nat.le_trans (by decide) hR.1) (Nat.le_trans (Nat.le_of_ble_eq_true rfl) hR.2) (Nat.zero_le _) (Nat.zero_le _) dX0_steps_2 ?_
  refine lv_topi (fun v_5 ev_5 => ?_)
  refine lv_istore_n (lv' := [(2, .int v_5), (0, .ref (q 102)), (1, .int p1)]) hx hb dX0_steps_5 rfl hl (by decide) rfl (fun ls hl => ?_)
  refine lv_iconst (v := 0) hx hb dX0_steps_6 (by decide) ?_
  refine lv_istore_n (lv' := [(3, .int 0), (2, .int v_5), (0, .ref (q 102)), (1, .int p1)]) hx hb dX0_steps_7 rfl hl (by decide) rfl (fun ls hl => ?_)
  refine lv_iconst (v := 0) hx hb dX0_steps_8 (by decide) ?_
  refine lv_istore (lv' := [(4, .int 0), (3, .int 0), (2, .int v_5), (0, .ref (q 102)), (1, .int p1)]) hx hb dX0_steps_9 hl (by decide) rfl (fun ls hl => ?_)
  exact J11 _ v_5 0 0 w _ _ ls (Nat.lt_succ_self _) hW_w Sm.rf i_p1 (In_of ev_5 (In_max (In_lit (n := 1) (by decide) (by decide) : In 1 1 1) i_p1 (by decide)) : In 1 40 v_5) (In_lit (n := 0) (by decide) (by decide) : In 0 79 0) (fun n r t hk => (mk_X0_steps (n := n) (And.intro (tyX hW_w) (And.intro i_p1 (cgK_4 hk (rfl : (p1 : Int32).toInt = _) (z_of ev_5 (z_max (show (1 : Int32).toInt = 1 from by decide) (rfl : (p1 : Int32).toInt = _))) (show (0 : Int32).toInt = 0 from by decide) (show (0 : Int32).toInt = 0 from by decide)))))) hP hD hS (lv_sub hl [3, 4, 2, 1, 0] rfl)
set_option maxRecDepth 100000 in
set_option maxHeartbeats 8000000 in
theorem e_X11_walks (l : Launch) (D : va_G) (cI cJ cZ : ClassId) (q : Nat → Nat) (bp : Nat) (w : va_W) (hW_w : HT q (TX q cI cJ cZ 1 16 bp) w) (p1 : Int32) : Con_i l yX11_walks cX11_walks 2 (some .int) ({ frames := 3, cells := 0, slots := 0, locals := 69 }) D cI cJ cZ eW [.ref (q 0), .int p1] w (fun (r : Int32) (w1 : va_W) => HT q (TX q cI cJ cZ 1 16 bp) w1 ∧ Sm [102, 103, 104] [(102, 0)] w w1 ∧ M_X11_walks (vw w) p1.toInt r.toInt (vw w1)) := by
  refine eQ_i rfl (by decide) (Nat.le_of_ble_eq_true rfl) ⟨rfl, rfl⟩ ?_
  intro p e R s m args below meth c A Q hx hb hml hown hts hK hE hA hR hret hP hD hS ls hl
  have hown : s.vm.findClass RX11 = some m.cls := hown
  have hl : lv_has ls 2 [(0, .ref (q 0)), (1, .int p1)] := hl
  refine lv_aload_n hx hb dX11_walks_0 rfl (lv_at hl 0 rfl) ?_
  refine gt_X11 hx hb hts hown hK hP 0 (hW_w.o tX_0) 10 (by decide) wd_683 rfl (hW_w.fr tX_0 rfl) dX11_walks_1 ?_
  refine gt_X4 hx hb hts hown hK hP 88 (hW_w.o tX_88) 0 (by decide) wd_567 rfl (hW_w.fi tX_88 rfl) dX11_walks_4 ?_
  refine lv_if_eq (tgt := 20) hx hb dX11_walks_7 (by decide) (fun c_1 => ?_) (fun c_1 => ?_)
  · refine lv_iconst (v := (-1)) hx hb dX11_walks_20 (by decide) ?_
    exact hret _ _ _ _ _ _ hP hD hS dX11_walks_21 ⟨hW_w, Sm.rf, (mk_X11_walks (And.intro (tyX hW_w) (Or.inl (And.intro (z_eq c_1 (hW_w.vi tX_88 rfl) (show (0 : Int32).toInt = 0 from by decide)) (And.intro (show ((-1) : Int32).toInt = (-1) from by decide) rfl)))))⟩
  · refine lv_iload_n hx hb dX11_walks_10 rfl (lv_at hl 1 rfl) ?_
    refine lv_iconst (v := 1) hx hb dX11_walks_11 (by decide) ?_
    refine lv_bipush (v := 40) hx hb dX11_walks_12 (by decide) ?_
    refine kW_i ⟨rfl, rfl⟩ hP hD hS hA (rW_S (As := [.int p1, .int 1, .int 40]) (rest := []) hx hb hml hown hts hK hE hP hD (e_X11_within l D cI cJ cZ q 1 16 bp w hW_w p1 1 40 (In_lit (n := 1) (by decide) (by decide) : In 0 278 1) (In_lit (n := 40) (by decide) (by decide) : In 2 100000 40) _) ⟨⟨rfl, rfl⟩, rfl, rfl⟩ sv_X11_168 ⟨(Nat.le_trans (by decide) hR.1), (Nat.le_trans (by decide) hR.2)⟩ rfl hl.1 rfl (Nat.le_of_ble_eq_true rfl) dX11_walks_14) (fun r_3 w_2 H locs hw_w_2 hP hD hS => ?_)
    obtain ⟨hW_w_2, hs_w_2, i_r_3, h_4, h_5, hm_6⟩ := hw_w_2
    refine lv_if_ne (tgt := 22) hx hb dX11_walks_17 (by decide) (fun c_7 => ?_) (fun c_7 => ?_)
    · refine lv_aload_n hx hb dX11_walks_22 rfl (lv_at hl 0 rfl) ?_
      refine gt_X11 hx hb hts hown hK hP 0 (hW_w_2.o tX_0) 11 (by decide) wd_684 rfl (hW_w_2.fr tX_0 rfl) dX11_walks_23 ?_
      refine lv_aload_n hx hb dX11_walks_26 rfl (lv_at hl 0 rfl) ?_
      refine gt_X11 hx hb hts hown hK hP 0 (hW_w_2.o tX_0) 10 (by decide) wd_683 rfl (hW_w_2.fr tX_0 rfl) dX11_walks_27 ?_
      refine lv_aload_n hx hb dX11_walks_30 rfl (lv_at hl 0 rfl) ?_
      refine gt_X11 hx hb hts hown hK hP 0 (hW_w_2.o tX_0) 0 (by decide) wd_673 rfl (hW_w_2.fr tX_0 rfl) dX11_walks_31 ?_
      refine kW_v ⟨rfl, rfl⟩ hP hD hS hA (rW_V (As := [.ref (q 88), .ref (q 1)]) (rest := []) hx hb hml hown hts hK hE hP hD (e_X0_sort_88_1 l D cI cJ cZ q 1 16 bp w_2 hW_w_2  _) ⟨⟨rfl, rfl⟩, rfl, rfl⟩ sv_X11_311 ⟨(Nat.le_trans (by decide) hR.1), (Nat.le_trans (by decide) hR.2)⟩ 102 0 (hW_w_2.o tX_102) rfl rfl rfl hl.1 rfl (Nat.le_of_ble_eq_true rfl) dX11_walks_34) (fun w_8 H locs hw_w_8 hP hD hS => ?_)
      obtain ⟨hW_w_8, hs_w_8, hm_10⟩ := hw_w_8
      refine lv_aload_n hx hb dX11_walks_37 rfl (lv_at hl 0 rfl) ?_
      refine gt_X11 hx hb hts hown hK hP 0 (hW_w_8.o tX_0) 11 (by decide) wd_684 rfl (hW_w_8.fr tX_0 rfl) dX11_walks_38 ?_
      refine lv_iload_n hx hb dX11_walks_41 rfl (lv_at hl 1 rfl) ?_
      refine kW_i ⟨rfl, rfl⟩ hP hD hS hA (rW_V (As := [.int p1]) (rest := []) hx hb hml hown hts hK hE hP hD (e_X0_steps l D cI cJ cZ q 1 16 bp w_8 hW_w_8 p1 (by have q0 := h_5 c_7; have q1 := (In_lit (n := 1) (by decide) (by decide) : In 1 1 1); have q2 := (In_lit (n := 40) (by decide) (by decide) : In 40 40 40); have q3 := (h_4 c_7); unfold In at q1 q2 q3 ⊢; omega : In 1 40 p1) _) ⟨⟨rfl, rfl⟩, rfl, rfl⟩ sv_X11_315 ⟨(Nat.le_trans (by decide) hR.1), (Nat.le_trans (by decide) hR.2)⟩ 102 0 (hW_w_8.o tX_102) rfl rfl rfl hl.1 rfl (Nat.le_of_ble_eq_true rfl) dX11_walks_42) (fun r_12 w_11 H locs hw_w_11 hP hD hS => ?_)
      obtain ⟨hW_w_11, hs_w_11, hm_13⟩ := hw_w_11
      exact hret _ _ _ _ _ _ hP hD hS dX11_walks_45 ⟨hW_w_11, (((Sm.rf.tr hs_w_2 (by decide)).tr hs_w_8 (by decide)).tr hs_w_11 (by decide)), (mk_X11_walks (And.intro (tyX hW_w) (Or.inr (And.intro (z_neq c_1 (hW_w.vi tX_88 rfl) (show (0 : Int32).toInt = 0 from by decide)) (Exists.intro r_3.toInt (Exists.intro (vw w_2) (And.intro (cgM_3 hm_6 (rfl : (p1 : Int32).toInt = _) (show (1 : Int32).toInt = 1 from by decide) (show (40 : Int32).toInt = 40 from by decide)) (And.intro (hs_w_2.Fr hW_w hW_w_2 intsX_ok intsX_ok) (And.intro (tyX hW_w_2) (And.intro i_r_3 (Or.inr (And.intro (z_neq c_7 (rfl : (r_3 : Int32).toInt = _) (show (0 : Int32).toInt = 0 from by decide)) (Exists.intro (vw w_8) (And.intro hm_10 (And.intro (hs_w_8.Fr hW_w_2 hW_w_8 intsX_ok intsX_ok) (And.intro (tyX hW_w_8) (Exists.intro r_12.toInt (Exists.intro (vw w_11) (And.intro (cgM_1 hm_13 (rfl : (p1 : Int32).toInt = _)) (And.intro (hs_w_11.Fr hW_w_8 hW_w_11 intsX_ok intsX_ok) (And.intro (tyX hW_w_11) (And.intro (rfl : (r_12 : Int32).toInt = _) rfl))))))))))))))))))))))⟩
    · refine lv_iconst (v := (-1)) hx hb dX11_walks_20 (by decide) ?_
      exact hret _ _ _ _ _ _ hP hD hS dX11_walks_21 ⟨hW_w_2, (Sm.rf.tr hs_w_2 (by decide)), (mk_X11_walks (And.intro (tyX hW_w) (Or.inr (And.intro (z_neq c_1 (hW_w.vi tX_88 rfl) (show (0 : Int32).toInt = 0 from by decide)) (Exists.intro r_3.toInt (Exists.intro (vw w_2) (And.intro (cgM_3 hm_6 (rfl : (p1 : Int32).toInt = _) (show (1 : Int32).toInt = 1 from by decide) (show (40 : Int32).toInt = 40 from by decide)) (And.intro (hs_w_2.Fr hW_w hW_w_2 intsX_ok intsX_ok) (And.intro (tyX hW_w_2) (And.intro i_r_3 (Or.inl (And.intro (z_eq c_7 (rfl : (r_3 : Int32).toInt = _) (show (0 : Int32).toInt = 0 from by decide)) (And.intro (show ((-1) : Int32).toInt = (-1) from by decide) rfl)))))))))))))⟩
set_option maxRecDepth 100000 in
set_option maxHeartbeats 8000000 in
theorem e_X11_bag (l : Launch) (D : va_G) (cI cJ cZ : ClassId) (q : Nat → Nat) (bp : Nat) (w : va_W) (hW_w : HT q (TX q cI cJ cZ 1 16 bp) w) (p1 : Int32) : Con_i l yX11_bag cX11_bag 2 (some .int) ({ frames := 3, cells := 0, slots := 0, locals := 69 }) D cI cJ cZ eW [.ref (q 0), .int p1] w (fun (r : Int32) (w1 : va_W) => HT q (TX q cI cJ cZ 1 16 bp) w1 ∧ Sm [102, 103, 104] [(102, 0)] w w1 ∧ In (-1) 39 r ∧ M_X11_bag (vw w) p1.toInt r.toInt (vw w1)) := by
  refine eQ_i rfl (by decide) (Nat.le_of_ble_eq_true rfl) ⟨rfl, rfl⟩ ?_
  intro p e R s m args below meth c A Q hx hb hml hown hts hK hE hA hR hret hP hD hS ls hl
  have hown : s.vm.findClass RX11 = some m.cls := hown
  have hl : lv_has ls 2 [(0, .ref (q 0)), (1, .int p1)] := hl
  refine lv_aload_n hx hb dX11_bag_0 rfl (lv_at hl 0 rfl) ?_
  refine gt_X11 hx hb hts hown hK hP 0 (hW_w.o tX_0) 10 (by decide) wd_683 rfl (hW_w.fr tX_0 rfl) dX11_bag_1 ?_
  refine gt_X4 hx hb hts hown hK hP 88 (hW_w.o tX_88) 0 (by decide) wd_567 rfl (hW_w.fi tX_88 rfl) dX11_bag_4 ?_
  refine lv_if_eq (tgt := 14) hx hb dX11_bag_7 (by decide) (fun c_1 => ?_) (fun c_1 => ?_)
  · refine lv_iconst (v := (-1)) hx hb dX11_bag_14 (by decide) ?_
    exact hret _ _ _ _ _ _ hP hD hS dX11_bag_15 ⟨hW_w, Sm.rf, (In_lit (n := (-1)) (by decide) (by decide) : In (-1) 39 (-1)), (mk_X11_bag (And.intro (tyX hW_w) (Or.inl (And.intro (z_eq c_1 (hW_w.vi tX_88 rfl) (show (0 : Int32).toInt = 0 from by decide)) (And.intro (show ((-1) : Int32).toInt = (-1) from by decide) rfl)))))⟩
  · refine lv_iload_n hx hb dX11_bag_10 rfl (lv_at hl 1 rfl) ?_
    refine lv_if_ge (tgt := 16) hx hb dX11_bag_11 (by decide) (fun c_2 => ?_) (fun c_2 => ?_)
    · refine lv_aload_n hx hb dX11_bag_16 rfl (lv_at hl 0 rfl) ?_
      refine gt_X11 hx hb hts hown hK hP 0 (hW_w.o tX_0) 11 (by decide) wd_684 rfl (hW_w.fr tX_0 rfl) dX11_bag_17 ?_
      refine lv_aload_n hx hb dX11_bag_20 rfl (lv_at hl 0 rfl) ?_
      refine gt_X11 hx hb hts hown hK hP 0 (hW_w.o tX_0) 10 (by decide) wd_683 rfl (hW_w.fr tX_0 rfl) dX11_bag_21 ?_
      refine lv_aload_n hx hb dX11_bag_24 rfl (lv_at hl 0 rfl) ?_
      refine gt_X11 hx hb hts hown hK hP 0 (hW_w.o tX_0) 0 (by decide) wd_673 rfl (hW_w.fr tX_0 rfl) dX11_bag_25 ?_
      refine kW_v ⟨rfl, rfl⟩ hP hD hS hA (rW_V (As := [.ref (q 88), .ref (q 1)]) (rest := []) hx hb hml hown hts hK hE hP hD (e_X0_sort_88_1 l D cI cJ cZ q 1 16 bp w hW_w  _) ⟨⟨rfl, rfl⟩, rfl, rfl⟩ sv_X11_311 ⟨(Nat.le_trans (by decide) hR.1), (Nat.le_trans (by decide) hR.2)⟩ 102 0 (hW_w.o tX_102) rfl rfl rfl hl.1 rfl (Nat.le_of_ble_eq_true rfl) dX11_bag_28) (fun w_3 H locs hw_w_3 hP hD hS => ?_)
      obtain ⟨hW_w_3, hs_w_3, hm_5⟩ := hw_w_3
      refine lv_iload_n hx hb dX11_bag_31 rfl (lv_at hl 1 rfl) ?_
      refine lv_aload_n hx hb dX11_bag_32 rfl (lv_at hl 0 rfl) ?_
      refine gt_X11 hx hb hts hown hK hP 0 (hW_w_3.o tX_0) 11 (by decide) wd_684 rfl (hW_w_3.fr tX_0 rfl) dX11_bag_33 ?_
      refine gt_X0 hx hb hts hown hK hP 102 (hW_w_3.o tX_102) 0 (by decide) wd_633 rfl (hW_w_3.fi tX_102 rfl) dX11_bag_36 ?_
      refine lv_icmp_ge (tgt := 54) hx hb dX11_bag_39 (by decide) (fun c_6 => ?_) (fun c_6 => ?_)
      · refine lv_iconst (v := (-1)) hx hb dX11_bag_54 (by decide) ?_
        exact hret _ _ _ _ _ _ hP hD hS dX11_bag_55 ⟨hW_w_3, (Sm.rf.tr hs_w_3 (by decide)), (In_lit (n := (-1)) (by decide) (by decide) : In (-1) 39 (-1)), (mk_X11_bag (And.intro (tyX hW_w) (Or.inr (And.intro (z_neq c_1 (hW_w.vi tX_88 rfl) (show (0 : Int32).toInt = 0 from by decide)) (Or.inl (And.intro (z_le c_2 (show (0 : Int32).toInt = 0 from by decide) (rfl : (p1 : Int32).toInt = _)) (Exists.intro (vw w_3) (And.intro hm_5 (And.intro (hs_w_3.Fr hW_w hW_w_3 intsX_ok intsX_ok) (And.intro (tyX hW_w_3) (Or.inl (And.intro (z_le c_6 (hW_w_3.vi tX_102 rfl) (rfl : (p1 : Int32).toInt = _)) (And.intro (show ((-1) : Int32).toInt = (-1) from by decide) rfl)))))))))))))⟩
      · refine lv_aload_n hx hb dX11_bag_42 rfl (lv_at hl 0 rfl) ?_
        refine gt_X11 hx hb hts hown hK hP 0 (hW_w_3.o tX_0) 11 (by decide) wd_684 rfl (hW_w_3.fr tX_0 rfl) dX11_bag_43 ?_
        refine gt_X0 hx hb hts hown hK hP 102 (hW_w_3.o tX_102) 1 (by decide) wd_635 rfl (hW_w_3.fr tX_102 rfl) dX11_bag_46 ?_
        refine lv_iload_n hx hb dX11_bag_49 rfl (lv_at hl 1 rfl) ?_
        refine va_iald hx hb hK hP 103 0 (hW_w_3.a tX_103) rfl (in_I (R_nle_r (hW_w_3.fin tX_102 rfl : In 0 40 (fI w_3 102 0)) (R_le_r (In_lit (n := 0) (by decide) (by decide) : In 0 0 0) (In_any p1) c_2 (by decide) : In 0 2147483647 p1) c_6 (by decide) : In 0 39 p1) (by decide)) dX11_bag_50 ?_
        refine lv_topi (fun v_7 ev_7 => ?_)
        refine lv_goto (tgt := 55) hx hb dX11_bag_51 (by decide) ?_
        exact hret _ _ _ _ _ _ hP hD hS dX11_bag_55 ⟨hW_w_3, (Sm.rf.tr hs_w_3 (by decide)), (In_w (In_of ev_7 (hW_w_3.ap tX_103 _) : In 0 39 v_7) (by decide) : In (-1) 39 v_7), (mk_X11_bag (And.intro (tyX hW_w) (Or.inr (And.intro (z_neq c_1 (hW_w.vi tX_88 rfl) (show (0 : Int32).toInt = 0 from by decide)) (Or.inl (And.intro (z_le c_2 (show (0 : Int32).toInt = 0 from by decide) (rfl : (p1 : Int32).toInt = _)) (Exists.intro (vw w_3) (And.intro hm_5 (And.intro (hs_w_3.Fr hW_w hW_w_3 intsX_ok intsX_ok) (And.intro (tyX hW_w_3) (Or.inr (And.intro (z_nle c_6 (hW_w_3.vi tX_102 rfl) (rfl : (p1 : Int32).toInt = _)) (And.intro (z_of ev_7 ((hW_w_3.va tX_103 _).trans (congrArg (vw w_3 103) (z_ix (rfl : (p1 : Int32).toInt = _))))) rfl)))))))))))))⟩
    · refine lv_iconst (v := (-1)) hx hb dX11_bag_14 (by decide) ?_
      exact hret _ _ _ _ _ _ hP hD hS dX11_bag_15 ⟨hW_w, Sm.rf, (In_lit (n := (-1)) (by decide) (by decide) : In (-1) 39 (-1)), (mk_X11_bag (And.intro (tyX hW_w) (Or.inr (And.intro (z_neq c_1 (hW_w.vi tX_88 rfl) (show (0 : Int32).toInt = 0 from by decide)) (Or.inr (And.intro (z_nle c_2 (show (0 : Int32).toInt = 0 from by decide) (rfl : (p1 : Int32).toInt = _)) (And.intro (show ((-1) : Int32).toInt = (-1) from by decide) rfl)))))))⟩
set_option maxRecDepth 100000 in
set_option maxHeartbeats 8000000 in
theorem e_X0_addToHouse_88 (l : Launch) (D : va_G) (cI cJ cZ : ClassId) (q : Nat → Nat) (bb bs bp : Nat) (w : va_W) (hW_w : HT q (TX q cI cJ cZ bb bs bp) w) (p2 : Int32) (i_p2 : In 0 39 p2) (hf_102_3 : In 0 39 (fI w 102 3)) : Con_v l yX0_addToHouse cX0_addToHouse 5 none ({ frames := 0, cells := 0, slots := 0, locals := 0 }) D cI cJ cZ eW [.ref (q 102), .ref (q 88), .int p2] w (fun (w1 : va_W) => HT q (TX q cI cJ cZ bb bs bp) w1 ∧ Sm [102, 105, 106] [(102, 3)] w w1 ∧ In 1 40 (fI w1 102 3) ∧ ((fI w1 102 3).toInt ≤ (fI w 102 3).toInt + 1) ∧ M_X0_addToHouse_88 (vw w) p2.toInt 0 (vw w1)) := by
  refine eQ_v rfl (by decide) (Nat.le_of_ble_eq_true rfl) ⟨rfl, rfl⟩ ?_
  intro p e R s m args below meth c A Q hx hb hml hown hts hK hE hA hR hret hP hD hS ls hl
  have hown : s.vm.findClass RX0 = some m.cls := hown
  have hl : lv_has ls 5 [(0, .ref (q 102)), (1, .ref (q 88)), (2, .int p2)] := hl
  have J57 : ∀ (x57_3 : Int32) (x57_4 : Int32) (w57 : va_W) (H : Heap) (locs : List Loc) (ls : Array Slot), HT q (TX q cI cJ cZ bb bs bp) w57 → Sm [102, 105, 106] [(102, 3)] w w57 → (In 0 39 p2) → (In 0 39 x57_4) → (fI w57 102 3 = (fI w 102 3)) → (In 0 39 (fI w 102 3)) → (∀ (n : Nat) (r : Int) (t : PS), It_X0_addToHouse_88 n 57 p2.toInt x57_3.toInt x57_4.toInt (vw w57) r t → M_X0_addToHouse_88 (vw w) p2.toInt r t) → va_P D vwCl w57 H → va_D A w57 → va_S A s.heap H locs → lv_has ls 5 [(0, .ref (q 102)), (1, .ref (q 88)), (2, .int p2), (3, .int x57_3), (4, .int x57_4)] → W p l e R s m args below meth c H locs 0 0 Q (F0 m 57 ls []) := by
    intro x57_3 x57_4 w57 H locs ls hW_w57 hM_w57 i_x57_2 i_x57_4 g57_102_3e g57_102_3 hmi_57 hP hD hS hl
    refine lv_aload_n hx hb dX0_addToHouse_57 rfl (lv_at hl 0 rfl) ?_
    refine gt_X0 hx hb hts hown hK hP 102 (hW_w57.o tX_102) 4 (by decide) wd_639 rfl (hW_w57.fr tX_102 rfl) dX0_addToHouse_58 ?_
    refine lv_aload_n hx hb dX0_addToHouse_61 rfl (lv_at hl 0 rfl) ?_
    refine gt_X0 hx hb hts hown hK hP 102 (hW_w57.o tX_102) 3 (by decide) wd_637 rfl (hW_w57.fi tX_102 rfl) dX0_addToHouse_62 ?_
    refine tov (v := (fI w 102 3)) g57_102_3e ?_
    refine lv_iload_n hx hb dX0_addToHouse_65 rfl (lv_at hl 2 rfl) ?_
    refine va_iast hx hb hK hP hD hS 105 0 (hW_w57.a tX_105) rfl (in_I hf_102_3 (by decide)) dX0_addToHouse_66 (fun H locs hP hD hS => fr_w (hW_w57.uA tX_105 i_p2) hP hD (fun w_1 ew_1 hW_w_1 hP hD => ?_))
    have hv_w_1 := vw_uA hW_w57 tX_105 ew_1 (z_ix (z_of g57_102_3e.symm (hW_w57.vi tX_102 rfl))) (rfl : (p2 : Int32).toInt = _)
    refine lv_aload_n hx hb dX0_addToHouse_67 rfl (lv_at hl 0 rfl) ?_
    refine gt_X0 hx hb hts hown hK hP 102 (hW_w_1.o tX_102) 5 (by decide) wd_640 rfl (hW_w_1.fr tX_102 rfl) dX0_addToHouse_68 ?_
    refine lv_aload_n hx hb dX0_addToHouse_71 rfl (lv_at hl 0 rfl) ?_
    refine gt_X0 hx hb hts hown hK hP 102 (hW_w_1.o tX_102) 3 (by decide) wd_637 rfl (hW_w_1.fi tX_102 rfl) dX0_addToHouse_72 ?_
    refine tov (v := (fI w 102 3)) ((fI_cg (st_ne ew_1 (by decide))).trans g57_102_3e) ?_
    refine lv_iconst (v := 3) hx hb dX0_addToHouse_75 (by decide) ?_
    refine va_iast hx hb hK hP hD hS 106 0 (hW_w_1.a tX_106) rfl (in_I hf_102_3 (by decide)) dX0_addToHouse_76 (fun H locs hP hD hS => fr_w (hW_w_1.uA tX_106 (In_lit (n := 3) (by decide) (by decide) : In (-2147483648) 2147483647 3)) hP hD (fun w_2 ew_2 hW_w_2 hP hD => ?_))
    have hv_w_2 := vw_uA hW_w_1 tX_106 ew_2 (z_ix (z_of (((fI_cg (st_ne ew_1 (by decide))).trans g57_102_3e).symm.trans (fI_cg (st_ne ew_1 (by decide)))) (hW_w57.vi tX_102 rfl))) (show (3 : Int32).toInt = 3 from by decide)
    refine lv_aload_n hx hb dX0_addToHouse_77 rfl (lv_at hl 0 rfl) ?_
    refine lv_dup hx hb dX0_addToHouse_78 rfl ?_
    refine gt_X0 hx hb hts hown hK hP 102 (hW_w_2.o tX_102) 3 (by decide) wd_637 rfl (hW_w_2.fi tX_102 rfl) dX0_addToHouse_79 ?_
    refine tov (v := (fI w 102 3)) ((fI_cg (st_ne ew_2 (by decide))).trans ((fI_cg (st_ne ew_1 (by decide))).trans g57_102_3e)) ?_
    refine lv_iconst (v := 1) hx hb dX0_addToHouse_82 (by decide) ?_
    refine lv_iadd hx hb dX0_addToHouse_83 ?_
    refine pt_X0 hx hb hts hown hK hP hD hS 102 (hW_w_2.o tX_102) 3 (by decide) wd_637 rfl rfl (ty := .int) (v := .int ((fI w 102 3) + 1)) (by decide +kernel) rfl rfl (hW_w_2.ll tX_102 (Nat.le_of_ble_eq_true rfl)) dX0_addToHouse_84 (fun H locs hP hD hS => fr_w (hW_w_2.sI tX_102 rfl (In_w ((In_add hf_102_3 (In_lit (n := 1) (by decide) (by decide) : In 1 1 1) (by decide)) : In 1 40 ((fI w 102 3) + 1)) (by decide) : In 0 40 ((fI w 102 3) + 1))) hP hD (fun w_3 ew_3 hW_w_3 hP hD => ?_))
    have hv_w_3 := vw_sI (j := 3) hW_w_2 tX_102 rfl ew_3 (z_add (t_add hf_102_3 (In_lit (n := 1) (by decide) (by decide) : In 1 1 1) (by decide)) (z_of (((fI_cg (st_ne ew_2 (by decide))).trans ((fI_cg (st_ne ew_1 (by decide))).trans g57_102_3e)).symm.trans ((fI_cg (st_ne ew_2 (by decide))).trans (fI_cg (st_ne ew_1 (by decide))))) (hW_w57.vi tX_102 rfl)) (show (1 : Int32).toInt = 1 from by decide))
    exact hret _ _ _ _ _ hP hD hS dX0_addToHouse_87 ⟨hW_w_3, (((hM_w57.sa ew_1 (by decide)).sa ew_2 (by decide)).sf (hW_w_2.lt tX_102) ew_3 (by decide)), (In_of (fI_eq (hW_w_2.lt tX_102) ew_3 (hW_w_2.ll tX_102 (Nat.le_of_ble_eq_true rfl))) ((In_add hf_102_3 (In_lit (n := 1) (by decide) (by decide) : In 1 1 1) (by decide)) : In 1 40 ((fI w 102 3) + 1))), (by have e102_3 : (fI w_3 102 3).toInt = (((fI w 102 3) + 1) : Int32).toInt := congrArg Int32.toInt (fI_eq (hW_w_2.lt tX_102) ew_3 (hW_w_2.ll tX_102 (Nat.le_of_ble_eq_true rfl))); have i102_3 := ((In_add hf_102_3 (In_lit (n := 1) (by decide) (by decide) : In 1 1 1) (by decide)) : In 1 40 ((fI w 102 3) + 1)); unfold In at i102_3; have t18 := t_add hf_102_3 (In_lit (n := 1) (by decide) (by decide) : In 1 1 1) (by decide); have z1 : (1 : Int32).toInt = 1 := (by decide); omega), (hmi_57 (0 + 1) _ _ (rl_X0_addToHouse_88_57 (n := 0) (And.intro (tyX hW_w57) (And.intro i_x57_2 (And.intro i_x57_4 (Exists.intro (vw w_1) (And.intro hv_w_1 (Exists.intro (vw w_2) (And.intro hv_w_2 (Exists.intro (vw w_3) (And.intro hv_w_3 (And.intro rfl rfl))))))))))))⟩
  have J10 : ∀ (N : Nat) (x10_3 : Int32) (x10_4 : Int32) (w10 : va_W) (H : Heap) (locs : List Loc) (ls : Array Slot), (39 - x10_4.toInt).toNat < N → HT q (TX q cI cJ cZ bb bs bp) w10 → Sm [102, 105, 106] [(102, 3)] w w10 → (In 0 39 p2) → (In 0 39 x10_4) → (fI w10 102 3 = (fI w 102 3)) → (In 0 39 (fI w 102 3)) → (∀ (n : Nat) (r : Int) (t : PS), It_X0_addToHouse_88 n 10 p2.toInt x10_3.toInt x10_4.toInt (vw w10) r t → M_X0_addToHouse_88 (vw w) p2.toInt r t) → va_P D vwCl w10 H → va_D A w10 → va_S A s.heap H locs → lv_has ls 5 [(0, .ref (q 102)), (1, .ref (q 88)), (2, .int p2), (3, .int x10_3), (4, .int x10_4)] → W p l e R s m args below meth c H locs 0 0 Q (F0 m 10 ls []) := by
    intro N
    induction N with
    | zero => intro x10_3 x10_4 w10 H locs ls hmu; exact absurd hmu (Nat.not_lt_zero _)
    | succ N ih10 =>
      intro x10_3 x10_4 w10 H locs ls hmu10 hW_w10 hM_w10 i_x10_2 i_x10_4 g10_102_3e g10_102_3 hmi_10 hP hD hS hl
      refine lv_iload hx hb dX0_addToHouse_10 (lv_at hl 4 rfl) ?_
      refine lv_aload_n hx hb dX0_addToHouse_12 rfl (lv_at hl 0 rfl) ?_
      refine gt_X0 hx hb hts hown hK hP 102 (hW_w10.o tX_102) 3 (by decide) wd_637 rfl (hW_w10.fi tX_102 rfl) dX0_addToHouse_13 ?_
      refine tov (v := (fI w 102 3)) g10_102_3e ?_
      refine lv_icmp_ge (tgt := 57) hx hb dX0_addToHouse_16 (by decide) (fun c_4 => ?_) (fun c_4 => ?_)
      · exact J57 x10_3 x10_4 w10 _ _ ls hW_w10 hM_w10 i_p2 i_x10_4 g10_102_3e hf_102_3 (fun n r t hk => (hmi_10 (n + 1) r t (rl_X0_addToHouse_88_10 (n := n) (And.intro (tyX hW_w10) (And.intro i_x10_2 (And.intro i_x10_4 (Or.inl (And.intro (z_le c_4 (z_of g10_102_3e.symm (hW_w10.vi tX_102 rfl)) (rfl : (x10_4 : Int32).toInt = _)) (cgK_3 hk (rfl : (p2 : Int32).toInt = _) (rfl : (x10_3 : Int32).toInt = _) (rfl : (x10_4 : Int32).toInt = _)))))))))) hP hD hS (lv_sub hl [0, 1, 2, 3, 4] rfl)
      · refine lv_iload_n hx hb dX0_addToHouse_19 rfl (lv_at hl 3 rfl) ?_
        refine lv_if_eq (tgt := 57) hx hb dX0_addToHouse_20 (by decide) (fun c_5 => ?_) (fun c_5 => ?_)
        · exact J57 x10_3 x10_4 w10 _ _ ls hW_w10 hM_w10 i_p2 (In_w (R_nle_r hf_102_3 i_x10_4 c_4 (by decide) : In 0 38 x10_4) (by decide) : In 0 39 x10_4) g10_102_3e (In_w (R_nle_l hf_102_3 i_x10_4 c_4 (by decide) : In 1 39 (fI w 102 3)) (by decide) : In 0 39 (fI w 102 3)) (fun n r t hk => (hmi_10 (n + 1) r t (rl_X0_addToHouse_88_10 (n := n) (And.intro (tyX hW_w10) (And.intro i_x10_2 (And.intro i_x10_4 (Or.inr (And.intro (z_nle c_4 (z_of g10_102_3e.symm (hW_w10.vi tX_102 rfl)) (rfl : (x10_4 : Int32).toInt = _)) (Or.inl (And.intro (z_eq c_5 (rfl : (x10_3 : Int32).toInt = _) (show (0 : Int32).toInt = 0 from by decide)) (cgK_3 hk (rfl : (p2 : Int32).toInt = _) (rfl : (x10_3 : Int32).toInt = _) (rfl : (x10_4 : Int32).toInt = _)))))))))))) hP hD hS (lv_sub hl [0, 1, 2, 3, 4] rfl)
        · refine lv_aload_n hx hb dX0_addToHouse_23 rfl (lv_at hl 1 rfl) ?_
          refine gt_X4 hx hb hts hown hK hP 88 (hW_w10.o tX_88) 3 (by decide) wd_572 rfl (hW_w10.fr tX_88 rfl) dX0_addToHouse_24 ?_
          refine lv_aload_n hx hb dX0_addToHouse_27 rfl (lv_at hl 0 rfl) ?_
          refine gt_X0 hx hb hts hown hK hP 102 (hW_w10.o tX_102) 4 (by decide) wd_639 rfl (hW_w10.fr tX_102 rfl) dX0_addToHouse_28 ?_
          refine lv_iload hx hb dX0_addToHouse_31 (lv_at hl 4 rfl) ?_
          refine va_iald hx hb hK hP 105 0 (hW_w10.a tX_105) rfl (in_I (R_nle_r hf_102_3 i_x10_4 c_4 (by decide) : In 0 38 x10_4) (by decide)) dX0_addToHouse_33 ?_
          refine lv_topi (fun v_6 ev_6 => ?_)
          refine va_iald hx hb hK hP 90 0 (hW_w10.a tX_90) rfl (in_I (In_of ev_6 (hW_w10.ap tX_105 _) : In 0 39 v_6) (by decide)) dX0_addToHouse_34 ?_
          refine lv_topi (fun v_7 ev_7 => ?_)
          refine lv_iload_n hx hb dX0_addToHouse_35 rfl (lv_at hl 3 rfl) ?_
          refine lv_icmp_ne (tgt := 51) hx hb dX0_addToHouse_36 (by decide) (fun c_8 => ?_) (fun c_8 => ?_)
          · refine lv_iinc (v := (x10_4 + 1)) (lv' := [(4, .int (x10_4 + 1)), (0, .ref (q 102)), (1, .ref (q 88)), (2, .int p2), (3, .int x10_3)]) hx hb dX0_addToHouse_51 hl (k := 4) rfl (rfl) (by decide) rfl (fun ls hl => ?_)
            refine lv_goto (tgt := 10) hx hb dX0_addToHouse_54 (by decide) ?_
            exact ih10 x10_3 (x10_4 + 1) w10 _ _ ls (mu_inc hmu10 (R_nle_r hf_102_3 i_x10_4 c_4 (by decide) : In 0 38 x10_4) (In_lit (n := 1) (by decide) (by decide) : In 1 1 1) (by decide)) hW_w10 hM_w10 i_p2 (In_w ((In_add (y := 1) (R_nle_r hf_102_3 i_x10_4 c_4 (by decide) : In 0 38 x10_4) (In_lit (n := 1) (by decide) (by decide) : In 1 1 1) (by decide)) : In 1 39 (x10_4 + 1)) (by decide) : In 0 39 (x10_4 + 1)) g10_102_3e (In_w (R_nle_l hf_102_3 i_x10_4 c_4 (by decide) : In 1 39 (fI w 102 3)) (by decide) : In 0 39 (fI w 102 3)) (fun n r t hk => (hmi_10 (n + 1) r t (rl_X0_addToHouse_88_10 (n := n) (And.intro (tyX hW_w10) (And.intro i_x10_2 (And.intro i_x10_4 (Or.inr (And.intro (z_nle c_4 (z_of g10_102_3e.symm (hW_w10.vi tX_102 rfl)) (rfl : (x10_4 : Int32).toInt = _)) (Or.inr (And.intro (z_neq c_5 (rfl : (x10_3 : Int32).toInt = _) (show (0 : Int32).toInt = 0 from by decide)) (Or.inr (And.intro (z_neq c_8 (z_of ev_7 ((hW_w10.va tX_90 _).trans (congrArg (vw w10 90) (z_ix (z_of ev_6 ((hW_w10.va tX_105 _).trans (congrArg (vw w10 105) (z_ix (rfl : (x10_4 : Int32).toInt = _))))))))) (rfl : (x10_3 : Int32).toInt = _)) (cgK_3 hk (rfl : (p2 : Int32).toInt = _) (rfl : (x10_3 : Int32).toInt = _) (z_add (t_add (R_nle_r hf_102_3 i_x10_4 c_4 (by decide) : In 0 38 x10_4) (In_lit (n := 1) (by decide) (by decide) : In 1 1 1) (by decide)) (rfl : (x10_4 : Int32).toInt = _) (show (1 : Int32).toInt = 1 from by decide))))))))))))))) hP hD hS (lv_sub hl [1, 2, 3, 4, 0] rfl)
          · refine lv_aload_n hx hb dX0_addToHouse_39 rfl (lv_at hl 0 rfl) ?_
            refine gt_X0 hx hb hts hown hK hP 102 (hW_w10.o tX_102) 5 (by decide) wd_640 rfl (hW_w10.fr tX_102 rfl) dX0_addToHouse_40 ?_
            refine lv_iload hx hb dX0_addToHouse_43 (lv_at hl 4 rfl) ?_
            refine lv_dup2_11 hx hb dX0_addToHouse_45 rfl rfl ?_
            refine va_iald hx hb hK hP 106 0 (hW_w10.a tX_106) rfl (in_I (R_nle_r hf_102_3 i_x10_4 c_4 (by decide) : In 0 38 x10_4) (by decide)) dX0_addToHouse_46 ?_
            refine lv_topi (fun v_9 ev_9 => ?_)
            refine lv_iconst (v := 1) hx hb dX0_addToHouse_47 (by decide) ?_
            refine lv_iadd hx hb dX0_addToHouse_48 ?_
            refine va_iast hx hb hK hP hD hS 106 0 (hW_w10.a tX_106) rfl (in_I (R_nle_r hf_102_3 i_x10_4 c_4 (by decide) : In 0 38 x10_4) (by decide)) dX0_addToHouse_49 (fun H locs hP hD hS => fr_w (hW_w10.uA tX_106 (In_any (v_9 + 1))) hP hD (fun w_10 ew_10 hW_w_10 hP hD => ?_))
            have hv_w_10 := vw_uA hW_w10 tX_106 ew_10 (z_ix (rfl : (x10_4 : Int32).toInt = _)) (z_addw (z_of ev_9 ((hW_w10.va tX_106 _).trans (congrArg (vw w10 106) (z_ix (rfl : (x10_4 : Int32).toInt = _))))) (show (1 : Int32).toInt = 1 from by decide))
            exact hret _ _ _ _ _ hP hD hS dX0_addToHouse_50 ⟨hW_w_10, (hM_w10.sa ew_10 (by decide)), (In_of ((fI_cg (st_ne ew_10 (by decide))).trans g10_102_3e) (In_w (R_nle_l hf_102_3 i_x10_4 c_4 (by decide) : In 1 39 (fI w 102 3)) (by decide) : In 1 40 (fI w 102 3))), (by have e102_3 : (fI w_10 102 3).toInt = ((fI w 102 3) : Int32).toInt := congrArg Int32.toInt ((fI_cg (st_ne ew_10 (by decide))).trans g10_102_3e); have i102_3 := (R_nle_l hf_102_3 i_x10_4 c_4 (by decide) : In 1 39 (fI w 102 3)); unfold In at i102_3; omega), (hmi_10 (0 + 1) _ _ (rl_X0_addToHouse_88_10 (n := 0) (And.intro (tyX hW_w10) (And.intro i_x10_2 (And.intro i_x10_4 (Or.inr (And.intro (z_nle c_4 (z_of g10_102_3e.symm (hW_w10.vi tX_102 rfl)) (rfl : (x10_4 : Int32).toInt = _)) (Or.inr (And.intro (z_neq c_5 (rfl : (x10_3 : Int32).toInt = _) (show (0 : Int32).toInt = 0 from by decide)) (Or.inl (And.intro (z_eq c_8 (z_of ev_7 ((hW_w10.va tX_90 _).trans (congrArg (vw w10 90) (z_ix (z_of ev_6 ((hW_w10.va tX_105 _).trans (congrArg (vw w10 105) (z_ix (rfl : (x10_4 : Int32).toInt = _))))))))) (rfl : (x10_3 : Int32).toInt = _)) (Exists.intro (vw w_10) (And.intro hv_w_10 (And.intro rfl rfl))))))))))))))⟩
  refine lv_aload_n hx hb dX0_addToHouse_0 rfl (lv_at hl 1 rfl) ?_
  refine gt_X4 hx hb hts hown hK hP 88 (hW_w.o tX_88) 3 (by decide) wd_572 rfl (hW_w.fr tX_88 rfl) dX0_addToHouse_1 ?_
  refine lv_iload_n hx hb dX0_addToHouse_4 rfl (lv_at hl 2 rfl) ?_
  refine va_iald hx hb hK hP 90 0 (hW_w.a tX_90) rfl (in_I i_p2 (by decide)) dX0_addToHouse_5 ?_
  refine lv_topi (fun v_11 ev_11 => ?_)
  refine lv_istore_n (lv' := [(3, .int v_11), (0, .ref (q 102)), (1, .ref (q 88)), (2, .int p2)]) hx hb dX0_addToHouse_6 rfl hl (by decide) rfl (fun ls hl => ?_)
  refine lv_iconst (v := 0) hx hb dX0_addToHouse_7 (by decide) ?_
  refine lv_istore (lv' := [(4, .int 0), (3, .int v_11), (0, .ref (q 102)), (1, .ref (q 88)), (2, .int p2)]) hx hb dX0_addToHouse_8 hl (by decide) rfl (fun ls hl => ?_)
  exact J10 _ v_11 0 w _ _ ls (Nat.lt_succ_self _) hW_w Sm.rf i_p2 (In_lit (n := 0) (by decide) (by decide) : In 0 39 0) rfl hf_102_3 (fun n r t hk => (mk_X0_addToHouse_88 (n := n) (And.intro (tyX hW_w) (And.intro i_p2 (cgK_3 hk (rfl : (p2 : Int32).toInt = _) (z_of ev_11 ((hW_w.va tX_90 _).trans (congrArg (vw w 90) (z_ix (rfl : (p2 : Int32).toInt = _))))) (show (0 : Int32).toInt = 0 from by decide)))))) hP hD hS (lv_sub hl [2, 3, 4, 1, 0] rfl)
set_option maxRecDepth 100000 in
set_option maxHeartbeats 8000000 in
theorem e_X0_formLine_88 (l : Launch) (D : va_G) (cI cJ cZ : ClassId) (q : Nat → Nat) (bb bs bp : Nat) (w : va_W) (hW_w : HT q (TX q cI cJ cZ bb bs bp) w) (p2 : Int32) (i_p2 : In 1 24 p2) : Con_v l yX0_formLine cX0_formLine 4 none ({ frames := 1, cells := 0, slots := 0, locals := 24 }) D cI cJ cZ eW [.ref (q 102), .ref (q 88), .int p2] w (fun (w1 : va_W) => HT q (TX q cI cJ cZ bb bs bp) w1 ∧ Sm [102, 105, 106] [(102, 3)] w w1 ∧ M_X0_formLine_88 (vw w) p2.toInt 0 (vw w1)) := by
  refine eQ_v rfl (by decide) (Nat.le_of_ble_eq_true rfl) ⟨rfl, rfl⟩ ?_
  intro p e R s m args below meth c A Q hx hb hml hown hts hK hE hA hR hret hP hD hS ls hl
  have hown : s.vm.findClass RX0 = some m.cls := hown
  have hl : lv_has ls 4 [(0, .ref (q 102)), (1, .ref (q 88)), (2, .int p2)] := hl
  have J7 : ∀ (N : Nat) (x7_3 : Int32) (w7 : va_W) (H : Heap) (locs : List Loc) (ls : Array Slot), (40 - x7_3.toInt).toNat < N → HT q (TX q cI cJ cZ bb bs bp) w7 → Sm [102, 105, 106] [(102, 3)] w w7 → (In 1 24 p2) → (In 0 40 x7_3) → ((fI w7 102 3).toInt ≤ (x7_3 : Int32).toInt) → (∀ (n : Nat) (r : Int) (t : PS), It_X0_formLine_88 n 7 p2.toInt x7_3.toInt (vw w7) r t → M_X0_formLine_88 (vw w) p2.toInt r t) → va_P D vwCl w7 H → va_D A w7 → va_S A s.heap H locs → lv_has ls 4 [(0, .ref (q 102)), (1, .ref (q 88)), (2, .int p2), (3, .int x7_3)] → W p l e R s m args below meth c H locs 0 0 Q (F0 m 7 ls []) := by
    intro N
    induction N with
    | zero => intro x7_3 w7 H locs ls hmu; exact absurd hmu (Nat.not_lt_zero _)
    | succ N ih7 =>
      intro x7_3 w7 H locs ls hmu7 hW_w7 hM_w7 i_x7_2 i_x7_3 hc_7 hmi_7 hP hD hS hl
      have J40 : ∀ (w40 : va_W) (H : Heap) (locs : List Loc) (ls : Array Slot), HT q (TX q cI cJ cZ bb bs bp) w40 → Sm [102, 105, 106] [(102, 3)] w w40 → (In 1 24 p2) → (In 0 39 x7_3) → (In 1 40 (fI w40 88 1)) → ((fI w40 102 3).toInt ≤ (x7_3 : Int32).toInt + 1) → (∀ (n : Nat) (r : Int) (t : PS), It_X0_formLine_88 n 40 p2.toInt x7_3.toInt (vw w40) r t → M_X0_formLine_88 (vw w) p2.toInt r t) → va_P D vwCl w40 H → va_D A w40 → va_S A s.heap H locs → lv_has ls 4 [(0, .ref (q 102)), (1, .ref (q 88)), (2, .int p2), (3, .int x7_3)] → W p l e R s m args below meth c H locs 0 0 Q (F0 m 40 ls []) := by
        intro w40 H locs ls hW_w40 hM_w40 i_x40_2 i_x40_3 g40_88_1 hc_40 hmi_40 hP hD hS hl
        refine lv_iinc (v := (x7_3 + 1)) (lv' := [(3, .int (x7_3 + 1)), (0, .ref (q 102)), (1, .ref (q 88)), (2, .int p2)]) hx hb dX0_formLine_40 hl (k := 3) rfl (rfl) (by decide) rfl (fun ls hl => ?_)
        refine lv_goto (tgt := 7) hx hb dX0_formLine_43 (by decide) ?_
        exact ih7 (x7_3 + 1) w40 _ _ ls (mu_inc hmu7 i_x40_3 (In_lit (n := 1) (by decide) (by decide) : In 1 1 1) (by decide)) hW_w40 hM_w40 i_p2 (In_w ((In_add (y := 1) i_x40_3 (In_lit (n := 1) (by decide) (by decide) : In 1 1 1) (by decide)) : In 1 40 (x7_3 + 1)) (by decide) : In 0 40 (x7_3 + 1)) (by have i102_3 := (hW_w40.fin tX_102 rfl : In 0 40 (fI w40 102 3)); unfold In at i102_3; have t10 := t_add i_x40_3 (In_lit (n := 1) (by decide) (by decide) : In 1 1 1) (by decide); have z1 : (1 : Int32).toInt = 1 := (by decide); omega) (fun n r t hk => (hmi_40 (n + 1) r t (rl_X0_formLine_88_40 (n := n) (And.intro (tyX hW_w40) (And.intro i_x40_2 (And.intro i_x40_3 (cgK_2 hk (rfl : (p2 : Int32).toInt = _) (z_add (t_add i_x40_3 (In_lit (n := 1) (by decide) (by decide) : In 1 1 1) (by decide)) (rfl : (x7_3 : Int32).toInt = _) (show (1 : Int32).toInt = 1 from by decide))))))))) hP hD hS (lv_sub hl [1, 2, 3, 0] rfl)
      refine lv_iload_n hx hb dX0_formLine_7 rfl (lv_at hl 3 rfl) ?_
      refine lv_aload_n hx hb dX0_formLine_8 rfl (lv_at hl 1 rfl) ?_
      refine gt_X4 hx hb hts hown hK hP 88 (hW_w7.o tX_88) 1 (by decide) wd_568 rfl (hW_w7.fi tX_88 rfl) dX0_formLine_9 ?_
      refine tov (v := (fI w 88 1)) (hM_w7.gI (by decide)) ?_
      refine lv_icmp_ge (tgt := 46) hx hb dX0_formLine_12 (by decide) (fun c_1 => ?_) (fun c_1 => ?_)
      · exact hret _ _ _ _ _ hP hD hS dX0_formLine_46 ⟨hW_w7, hM_w7, (hmi_7 (0 + 1) _ _ (rl_X0_formLine_88_7 (n := 0) (And.intro (tyX hW_w7) (And.intro i_x7_2 (And.intro i_x7_3 (Or.inl (And.intro (z_le c_1 (z_of (hM_w7.gI (by decide)).symm (hW_w7.vi tX_88 rfl)) (rfl : (x7_3 : Int32).toInt = _)) (And.intro rfl rfl))))))))⟩
      · refine lv_aload_n hx hb dX0_formLine_15 rfl (lv_at hl 1 rfl) ?_
        refine gt_X4 hx hb hts hown hK hP 88 (hW_w7.o tX_88) 4 (by decide) wd_574 rfl (hW_w7.fr tX_88 rfl) dX0_formLine_16 ?_
        refine lv_iload_n hx hb dX0_formLine_19 rfl (lv_at hl 3 rfl) ?_
        refine va_iald hx hb hK hP 91 0 (hW_w7.a tX_91) rfl (in_I (R_nle_r (hW_w.fin tX_88 rfl : In 0 40 (fI w 88 1)) i_x7_3 c_1 (by decide) : In 0 39 x7_3) (by decide)) dX0_formLine_20 ?_
        refine lv_topi (fun v_2 ev_2 => ?_)
        refine lv_iload_n hx hb dX0_formLine_21 rfl (lv_at hl 2 rfl) ?_
        refine lv_icmp_ne (tgt := 40) hx hb dX0_formLine_22 (by decide) (fun c_3 => ?_) (fun c_3 => ?_)
        · exact J40 w7 _ _ ls hW_w7 hM_w7 i_p2 (R_nle_r (hW_w.fin tX_88 rfl : In 0 40 (fI w 88 1)) i_x7_3 c_1 (by decide) : In 0 39 x7_3) (In_of (hM_w7.gI (by decide)) (R_nle_l (hW_w.fin tX_88 rfl : In 0 40 (fI w 88 1)) i_x7_3 c_1 (by decide) : In 1 40 (fI w 88 1))) (by have i102_3 := (hW_w7.fin tX_102 rfl : In 0 40 (fI w7 102 3)); unfold In at i102_3; omega) (fun n r t hk => (hmi_7 (n + 1) r t (rl_X0_formLine_88_7 (n := n) (And.intro (tyX hW_w7) (And.intro i_x7_2 (And.intro i_x7_3 (Or.inr (And.intro (z_nle c_1 (z_of (hM_w7.gI (by decide)).symm (hW_w7.vi tX_88 rfl)) (rfl : (x7_3 : Int32).toInt = _)) (Or.inr (And.intro (z_neq c_3 (z_of ev_2 ((hW_w7.va tX_91 _).trans (congrArg (vw w7 91) (z_ix (rfl : (x7_3 : Int32).toInt = _))))) (rfl : (p2 : Int32).toInt = _)) (cgK_2 hk (rfl : (p2 : Int32).toInt = _) (rfl : (x7_3 : Int32).toInt = _)))))))))))) hP hD hS (lv_sub hl [0, 1, 2, 3] rfl)
        · refine lv_aload_n hx hb dX0_formLine_25 rfl (lv_at hl 1 rfl) ?_
          refine gt_X4 hx hb hts hown hK hP 88 (hW_w7.o tX_88) 8 (by decide) wd_579 rfl (hW_w7.fr tX_88 rfl) dX0_formLine_26 ?_
          refine lv_iload_n hx hb dX0_formLine_29 rfl (lv_at hl 3 rfl) ?_
          refine va_iald hx hb hK hP 95 0 (hW_w7.a tX_95) rfl (in_I (R_nle_r (hW_w.fin tX_88 rfl : In 0 40 (fI w 88 1)) i_x7_3 c_1 (by decide) : In 0 39 x7_3) (by decide)) dX0_formLine_30 ?_
          refine lv_topi (fun v_4 ev_4 => ?_)
          refine lv_if_eq (tgt := 40) hx hb dX0_formLine_31 (by decide) (fun c_5 => ?_) (fun c_5 => ?_)
          · exact J40 w7 _ _ ls hW_w7 hM_w7 i_p2 (R_nle_r (hW_w.fin tX_88 rfl : In 0 40 (fI w 88 1)) i_x7_3 c_1 (by decide) : In 0 39 x7_3) (In_of (hM_w7.gI (by decide)) (R_nle_l (hW_w.fin tX_88 rfl : In 0 40 (fI w 88 1)) i_x7_3 c_1 (by decide) : In 1 40 (fI w 88 1))) (by have i102_3 := (hW_w7.fin tX_102 rfl : In 0 40 (fI w7 102 3)); unfold In at i102_3; omega) (fun n r t hk => (hmi_7 (n + 1) r t (rl_X0_formLine_88_7 (n := n) (And.intro (tyX hW_w7) (And.intro i_x7_2 (And.intro i_x7_3 (Or.inr (And.intro (z_nle c_1 (z_of (hM_w7.gI (by decide)).symm (hW_w7.vi tX_88 rfl)) (rfl : (x7_3 : Int32).toInt = _)) (Or.inl (And.intro (z_eq c_3 (z_of ev_2 ((hW_w7.va tX_91 _).trans (congrArg (vw w7 91) (z_ix (rfl : (x7_3 : Int32).toInt = _))))) (rfl : (p2 : Int32).toInt = _)) (Or.inl (And.intro (z_eq c_5 (z_of ev_4 ((hW_w7.va tX_95 _).trans (congrArg (vw w7 95) (z_ix (rfl : (x7_3 : Int32).toInt = _))))) (show (0 : Int32).toInt = 0 from by decide)) (cgK_2 hk (rfl : (p2 : Int32).toInt = _) (rfl : (x7_3 : Int32).toInt = _)))))))))))))) hP hD hS (lv_sub hl [0, 1, 2, 3] rfl)
          · refine lv_aload_n hx hb dX0_formLine_34 rfl (lv_at hl 0 rfl) ?_
            refine lv_aload_n hx hb dX0_formLine_35 rfl (lv_at hl 1 rfl) ?_
            refine lv_iload_n hx hb dX0_formLine_36 rfl (lv_at hl 3 rfl) ?_
            refine kW_v ⟨rfl, rfl⟩ hP hD hS hA (rW_V (As := [.ref (q 88), .int x7_3]) (rest := []) hx hb hml hown hts hK hE hP hD (e_X0_addToHouse_88 l D cI cJ cZ q bb bs bp w7 hW_w7 x7_3 (R_nle_r (hW_w.fin tX_88 rfl : In 0 40 (fI w 88 1)) i_x7_3 c_1 (by decide) : In 0 39 x7_3) (by have q0 := (hW_w7.fin tX_102 rfl : In 0 40 (fI w7 102 3)); have q1 := (R_nle_r (hW_w.fin tX_88 rfl : In 0 40 (fI w 88 1)) i_x7_3 c_1 (by decide) : In 0 39 x7_3); unfold In at q0 q1 ⊢; omega : In 0 39 (fI w7 102 3)) _) ⟨⟨rfl, rfl⟩, rfl, rfl⟩ sv_X0_68 ⟨(Nat.le_trans (by decide) hR.1), (Nat.le_trans (by decide) hR.2)⟩ 102 0 (hW_w7.o tX_102) rfl rfl rfl hl.1 rfl (Nat.le_of_ble_eq_true rfl) dX0_formLine_37) (fun w_6 H locs hw_w_6 hP hD hS => ?_)
            obtain ⟨hW_w_6, hs_w_6, h_8, h_9, hm_10⟩ := hw_w_6
            have n_h_9 : (fI w_6 102 3).toInt ≤ ((fI w7 102 3) : Int32).toInt + 1 := (by omega)
            exact J40 w_6 _ _ ls hW_w_6 (hM_w7.tr hs_w_6 (by decide)) i_p2 (R_nle_r (hW_w.fin tX_88 rfl : In 0 40 (fI w 88 1)) i_x7_3 c_1 (by decide) : In 0 39 x7_3) (In_of ((hs_w_6.gI (by decide)).trans (hM_w7.gI (by decide))) (R_nle_l (hW_w.fin tX_88 rfl : In 0 40 (fI w 88 1)) i_x7_3 c_1 (by decide) : In 1 40 (fI w 88 1))) (by have i102_3 := h_8; unfold In at i102_3; omega) (fun n r t hk => (hmi_7 (n + 1) r t (rl_X0_formLine_88_7 (n := n) (And.intro (tyX hW_w7) (And.intro i_x7_2 (And.intro i_x7_3 (Or.inr (And.intro (z_nle c_1 (z_of (hM_w7.gI (by decide)).symm (hW_w7.vi tX_88 rfl)) (rfl : (x7_3 : Int32).toInt = _)) (Or.inl (And.intro (z_eq c_3 (z_of ev_2 ((hW_w7.va tX_91 _).trans (congrArg (vw w7 91) (z_ix (rfl : (x7_3 : Int32).toInt = _))))) (rfl : (p2 : Int32).toInt = _)) (Or.inr (And.intro (z_neq c_5 (z_of ev_4 ((hW_w7.va tX_95 _).trans (congrArg (vw w7 95) (z_ix (rfl : (x7_3 : Int32).toInt = _))))) (show (0 : Int32).toInt = 0 from by decide)) (Exists.intro (vw w_6) (And.intro (cgM_1 hm_10 (rfl : (x7_3 : Int32).toInt = _)) (And.intro (hs_w_6.Fr hW_w7 hW_w_6 intsX_ok intsX_ok) (And.intro (tyX hW_w_6) (cgK_2 hk (rfl : (p2 : Int32).toInt = _) (rfl : (x7_3 : Int32).toInt = _)))))))))))))))))) hP hD hS (lv_sub hl [0, 1, 2, 3] rfl)
  refine lv_aload_n hx hb dX0_formLine_0 rfl (lv_at hl 0 rfl) ?_
  refine lv_iconst (v := 0) hx hb dX0_formLine_1 (by decide) ?_
  refine pt_X0 hx hb hts hown hK hP hD hS 102 (hW_w.o tX_102) 3 (by decide) wd_637 rfl rfl (ty := .int) (v := .int 0) (by decide +kernel) rfl rfl (hW_w.ll tX_102 (Nat.le_of_ble_eq_true rfl)) dX0_formLine_2 (fun H locs hP hD hS => fr_w (hW_w.sI tX_102 rfl (In_lit (n := 0) (by decide) (by decide) : In 0 40 0)) hP hD (fun w_11 ew_11 hW_w_11 hP hD => ?_))
  have hv_w_11 := vw_sI (j := 3) hW_w tX_102 rfl ew_11 (show (0 : Int32).toInt = 0 from by decide)
  refine lv_iconst (v := 0) hx hb dX0_formLine_5 (by decide) ?_
  refine lv_istore_n (lv' := [(3, .int 0), (0, .ref (q 102)), (1, .ref (q 88)), (2, .int p2)]) hx hb dX0_formLine_6 rfl hl (by decide) rfl (fun ls hl => ?_)
  exact J7 _ 0 w_11 _ _ ls (Nat.lt_succ_self _) hW_w_11 (Sm.rf.sf (hW_w.lt tX_102) ew_11 (by decide)) i_p2 (In_lit (n := 0) (by decide) (by decide) : In 0 40 0) (by have e102_3 : (fI w_11 102 3).toInt = (0 : Int32).toInt := congrArg Int32.toInt (fI_eq (hW_w.lt tX_102) ew_11 (hW_w.ll tX_102 (Nat.le_of_ble_eq_true rfl))); have z0 : (0 : Int32).toInt = 0 := (by decide); have z0 : (0 : Int32).toInt = 0 := (by decide); omega) (fun n r t hk => (mk_X0_formLine_88 (n := n) (And.intro (tyX hW_w) (And.intro i_p2 (Exists.intro (vw w_11) (And.intro hv_w_11 (cgK_2 hk (rfl : (p2 : Int32).toInt = _) (show (0 : Int32).toInt = 0 from by decide)))))))) hP hD hS (lv_sub hl [1, 2, 3, 0] rfl)
set_option maxRecDepth 100000 in
set_option maxHeartbeats 8000000 in
theorem e_J7_fill_53178_107 (l : Launch) (D : va_G) (cI cJ cZ : ClassId) (q : Nat → Nat) (bb bs bp : Nat) (w : va_W) (hW_w : HT q (TX q cI cJ cZ bb bs bp) w) (p1 : Int32) (i_p1 : In 0 0 p1) : Con_v l yJ7_fill_53178 cJ7_fill_53178 4 none ({ frames := 0, cells := 0, slots := 0, locals := 0 }) D cI cJ cZ eW [.ref (q 107), .int p1] w (fun (w1 : va_W) => HT q (TX q cI cJ cZ bb bs bp) w1 ∧ Sm [107] [] w w1 ∧ ((∀ i : Nat, i < 9 → aF w1 107 i = p1)) ∧ M_J7_fill_53178_107 (vw w) p1.toInt 0 (vw w1)) := by
  refine eQ_v rfl (by decide) (Nat.le_of_ble_eq_true rfl) ⟨rfl, rfl⟩ ?_
  intro p e R s m args below meth c A Q hx hb hml hown hts hK hE hA hR hret hP hD hS ls hl
  have hown : s.vm.findClass RJ7 = some m.cls := hown
  have hl : lv_has ls 4 [(0, .ref (q 107)), (1, .int p1)] := hl
  have J5 : ∀ (N : Nat) (x5_2 : Int32) (x5_3 : Int32) (w5 : va_W) (H : Heap) (locs : List Loc) (ls : Array Slot), (9 - x5_2.toInt).toNat < N → HT q (TX q cI cJ cZ bb bs bp) w5 → Sm [107] [] w w5 → (In 0 0 p1) → (In 0 9 x5_2) → (In 9 9 x5_3) → (∀ i : Nat, i < (x5_2 : Int32).toInt.toNat → aF w5 107 i = p1) → (∀ (n : Nat) (r : Int) (t : PS), It_J7_fill_53178_107 n p1.toInt x5_2.toInt x5_3.toInt (vw w5) r t → M_J7_fill_53178_107 (vw w) p1.toInt r t) → va_P D vwCl w5 H → va_D A w5 → va_S A s.heap H locs → lv_has ls 4 [(0, .ref (q 107)), (1, .int p1), (2, .int x5_2), (3, .int x5_3)] → W p l e R s m args below meth c H locs 0 0 Q (F0 m 5 ls []) := by
    intro N
    induction N with
    | zero => intro x5_2 x5_3 w5 H locs ls hmu; exact absurd hmu (Nat.not_lt_zero _)
    | succ N ih5 =>
      intro x5_2 x5_3 w5 H locs ls hmu5 hW_w5 hM_w5 i_x5_1 i_x5_2 i_x5_3 hj_5 hmi_5 hP hD hS hl
      refine lv_iload_n hx hb dJ7_fill_53178_5 rfl (lv_at hl 2 rfl) ?_
      refine lv_iload_n hx hb dJ7_fill_53178_6 rfl (lv_at hl 3 rfl) ?_
      refine lv_icmp_ge (tgt := 20) hx hb dJ7_fill_53178_7 (by decide) (fun c_1 => ?_) (fun c_1 => ?_)
      · have lb_c_1 : (x5_3 : Int32).toInt ≤ (x5_2 : Int32).toInt := q_le.mp c_1
        exact hret _ _ _ _ _ hP hD hS dJ7_fill_53178_20 ⟨hW_w5, hM_w5, (fun i hi => hj_5 i (by have q := i_x5_3; unfold In at q; omega)), (hmi_5 (0 + 1) _ _ (rl_J7_fill_53178_107_5 (n := 0) (And.intro (tyX hW_w5) (And.intro i_x5_1 (And.intro i_x5_2 (And.intro i_x5_3 (Or.inl (And.intro (z_le c_1 (rfl : (x5_3 : Int32).toInt = _) (rfl : (x5_2 : Int32).toInt = _)) (And.intro rfl rfl)))))))))⟩
      · have lb_c_1 : ¬ (x5_3 : Int32).toInt ≤ (x5_2 : Int32).toInt := fun h => c_1 (q_le.mpr h)
        refine lv_aload_n hx hb dJ7_fill_53178_10 rfl (lv_at hl 0 rfl) ?_
        refine lv_iload_n hx hb dJ7_fill_53178_11 rfl (lv_at hl 2 rfl) ?_
        refine lv_iload_n hx hb dJ7_fill_53178_12 rfl (lv_at hl 1 rfl) ?_
        refine va_iast hx hb hK hP hD hS 107 0 (hW_w5.a tX_107) rfl (in_I (R_nle_r i_x5_3 i_x5_2 c_1 (by decide) : In 0 8 x5_2) (by decide)) dJ7_fill_53178_13 (fun H locs hP hD hS => fr_w (hW_w5.uA tX_107 (In_w i_p1 (by decide) : In (-2147483648) 2147483647 p1)) hP hD (fun w_2 ew_2 hW_w_2 hP hD => ?_))
        have hv_w_2 := vw_uA hW_w5 tX_107 ew_2 (z_ix (rfl : (x5_2 : Int32).toInt = _)) (rfl : (p1 : Int32).toInt = _)
        refine lv_iinc (v := (x5_2 + 1)) (lv' := [(2, .int (x5_2 + 1)), (0, .ref (q 107)), (1, .int p1), (3, .int x5_3)]) hx hb dJ7_fill_53178_14 hl (k := 2) rfl (rfl) (by decide) rfl (fun ls hl => ?_)
        refine lv_goto (tgt := 5) hx hb dJ7_fill_53178_17 (by decide) ?_
        exact ih5 (x5_2 + 1) x5_3 w_2 _ _ ls (mu_inc hmu5 (R_nle_r i_x5_3 i_x5_2 c_1 (by decide) : In 0 8 x5_2) (In_lit (n := 1) (by decide) (by decide) : In 1 1 1) (by decide)) hW_w_2 (hM_w5.sa ew_2 (by decide)) i_p1 (In_w ((In_add (y := 1) (R_nle_r i_x5_3 i_x5_2 c_1 (by decide) : In 0 8 x5_2) (In_lit (n := 1) (by decide) (by decide) : In 1 1 1) (by decide)) : In 1 9 (x5_2 + 1)) (by decide) : In 0 9 (x5_2 + 1)) i_x5_3 (fill_si (R_nle_r i_x5_3 i_x5_2 c_1 (by decide) : In 0 8 x5_2) hj_5 (aF_eq (hW_w5.lt tX_107) ew_2)) (fun n r t hk => (hmi_5 (n + 1) r t (rl_J7_fill_53178_107_5 (n := n) (And.intro (tyX hW_w5) (And.intro i_x5_1 (And.intro i_x5_2 (And.intro i_x5_3 (Or.inr (And.intro (z_nle c_1 (rfl : (x5_3 : Int32).toInt = _) (rfl : (x5_2 : Int32).toInt = _)) (Exists.intro (vw w_2) (And.intro hv_w_2 (cgK_3 hk (rfl : (p1 : Int32).toInt = _) (z_add (t_add (R_nle_r i_x5_3 i_x5_2 c_1 (by decide) : In 0 8 x5_2) (In_lit (n := 1) (by decide) (by decide) : In 1 1 1) (by decide)) (rfl : (x5_2 : Int32).toInt = _) (show (1 : Int32).toInt = 1 from by decide)) (rfl : (x5_3 : Int32).toInt = _))))))))))))) hP hD hS (lv_sub hl [1, 2, 0, 3] rfl)
  refine lv_iconst (v := 0) hx hb dJ7_fill_53178_0 (by decide) ?_
  refine lv_istore_n (lv' := [(2, .int 0), (0, .ref (q 107)), (1, .int p1)]) hx hb dJ7_fill_53178_1 rfl hl (by decide) rfl (fun ls hl => ?_)
  refine lv_aload_n hx hb dJ7_fill_53178_2 rfl (lv_at hl 1 rfl) ?_
  refine va_alen hx hb hK hP 107 0 (hW_w.a tX_107) rfl (v := 9) (by show Int32.ofNat 9 = 9; decide) dJ7_fill_53178_3 ?_
  refine lv_istore_n (lv' := [(3, .int 9), (2, .int 0), (0, .ref (q 107)), (1, .int p1)]) hx hb dJ7_fill_53178_4 rfl hl (by decide) rfl (fun ls hl => ?_)
  exact J5 _ 0 9 w _ _ ls (Nat.lt_succ_self _) hW_w Sm.rf i_p1 (In_lit (n := 0) (by decide) (by decide) : In 0 9 0) (In_lit (n := 9) (by decide) (by decide) : In 9 9 9) (fun i h => absurd h (by have z : (0 : Int32).toInt = 0 := (by decide); omega)) (fun n r t hk => (mk_J7_fill_53178_107 (n := n) (And.intro (tyX hW_w) (And.intro i_p1 (cgK_3 hk (rfl : (p1 : Int32).toInt = _) (show (0 : Int32).toInt = 0 from by decide) (show (9 : Int32).toInt = 9 from by decide)))))) hP hD hS (lv_sub hl [2, 3, 1, 0] rfl)
set_option maxRecDepth 100000 in
set_option maxHeartbeats 8000000 in
theorem e_X0_serve (l : Launch) (D : va_G) (cI cJ cZ : ClassId) (q : Nat → Nat) (bb bs bp : Nat) (w : va_W) (hW_w : HT q (TX q cI cJ cZ bb bs bp) w) (p1 : Int32) (p2 : Int32) (i_p1 : In 1 9 p1) (i_p2 : In 3 63 p2) (hf_102_3 : In 1 40 (fI w 102 3)) : Con_v l yX0_serve cX0_serve 5 none ({ frames := 1, cells := 0, slots := 0, locals := 23 }) D cI cJ cZ eW [.ref (q 102), .int p1, .int p2] w (fun (w1 : va_W) => HT q (TX q cI cJ cZ bb bs bp) w1 ∧ Sm [102, 107] [(102, 7), (102, 8)] w w1 ∧ M_X0_serve (vw w) p1.toInt p2.toInt 0 (vw w1)) := by
  refine eQ_v rfl (by decide) (Nat.le_of_ble_eq_true rfl) ⟨rfl, rfl⟩ ?_
  intro p e R s m args below meth c A Q hx hb hml hown hts hK hE hA hR hret hP hD hS ls hl
  have hown : s.vm.findClass RX0 = some m.cls := hown
  have hl : lv_has ls 5 [(0, .ref (q 102)), (1, .int p1), (2, .int p2)] := hl
  have J43 : ∀ (x43_3 : Int32) (x43_4 : Int32) (w43 : va_W) (H : Heap) (locs : List Loc) (ls : Array Slot), HT q (TX q cI cJ cZ bb bs bp) w43 → Sm [102, 107] [(102, 7), (102, 8)] w w43 → (In 1 9 p1) → (In 3 63 p2) → (In 0 8 x43_3) → (In 1 9 x43_4) → (In 1 40 (fI w43 102 3)) → (∀ (n : Nat) (r : Int) (t : PS), It_X0_serve n 43 p1.toInt p2.toInt x43_3.toInt x43_4.toInt (vw w43) r t → M_X0_serve (vw w) p1.toInt p2.toInt r t) → va_P D vwCl w43 H → va_D A w43 → va_S A s.heap H locs → lv_has ls 5 [(0, .ref (q 102)), (1, .int p1), (2, .int p2), (3, .int x43_3), (4, .int x43_4)] → W p l e R s m args below meth c H locs 0 0 Q (F0 m 43 ls []) := by
    intro x43_3 x43_4 w43 H locs ls hW_w43 hM_w43 i_x43_1 i_x43_2 i_x43_3 i_x43_4 g43_102_3 hmi_43 hP hD hS hl
    refine lv_aload_n hx hb dX0_serve_43 rfl (lv_at hl 0 rfl) ?_
    refine lv_dup hx hb dX0_serve_44 rfl ?_
    refine gt_X0 hx hb hts hown hK hP 102 (hW_w43.o tX_102) 7 (by decide) wd_642 rfl (hW_w43.fi tX_102 rfl) dX0_serve_45 ?_
    refine lv_aload_n hx hb dX0_serve_48 rfl (lv_at hl 0 rfl) ?_
    refine gt_X0 hx hb hts hown hK hP 102 (hW_w43.o tX_102) 6 (by decide) wd_641 rfl (hW_w43.fr tX_102 rfl) dX0_serve_49 ?_
    refine lv_iload_n hx hb dX0_serve_52 rfl (lv_at hl 3 rfl) ?_
    refine va_iald hx hb hK hP 107 0 (hW_w43.a tX_107) rfl (in_I i_x43_3 (by decide)) dX0_serve_53 ?_
    refine lv_topi (fun v_1 ev_1 => ?_)
    refine lv_iadd hx hb dX0_serve_54 ?_
    refine lv_topi (fun v_2 ev_2 => ?_)
    refine pt_X0 hx hb hts hown hK hP hD hS 102 (hW_w43.o tX_102) 7 (by decide) wd_642 rfl rfl (ty := .int) (v := .int v_2) (by decide +kernel) rfl rfl (hW_w43.ll tX_102 (Nat.le_of_ble_eq_true rfl)) dX0_serve_55 (fun H locs hP hD hS => fr_w (hW_w43.sI tX_102 rfl (In_any v_2)) hP hD (fun w_3 ew_3 hW_w_3 hP hD => ?_))
    have hv_w_3 := vw_sI (j := 7) hW_w43 tX_102 rfl ew_3 (z_of ev_2 (z_addw (hW_w43.vi tX_102 rfl) (z_of ev_1 ((hW_w43.va tX_107 _).trans (congrArg (vw w43 107) (z_ix (rfl : (x43_3 : Int32).toInt = _)))))))
    refine lv_aload_n hx hb dX0_serve_58 rfl (lv_at hl 0 rfl) ?_
    refine gt_X0 hx hb hts hown hK hP 102 (hW_w_3.o tX_102) 6 (by decide) wd_641 rfl (hW_w_3.fr tX_102 rfl) dX0_serve_59 ?_
    refine lv_iload_n hx hb dX0_serve_62 rfl (lv_at hl 3 rfl) ?_
    refine lv_dup2_11 hx hb dX0_serve_63 rfl rfl ?_
    refine va_iald hx hb hK hP 107 0 (hW_w_3.a tX_107) rfl (in_I i_x43_3 (by decide)) dX0_serve_64 ?_
    refine tov (v := v_1) ((congrFun (aF_cg (st_ne ew_3 (by decide))) _).trans ev_1.symm) ?_
    refine lv_iload_n hx hb dX0_serve_65 rfl (lv_at hl 2 rfl) ?_
    refine lv_iadd hx hb dX0_serve_66 ?_
    refine lv_topi (fun v_4 ev_4 => ?_)
    refine va_iast hx hb hK hP hD hS 107 0 (hW_w_3.a tX_107) rfl (in_I i_x43_3 (by decide)) dX0_serve_67 (fun H locs hP hD hS => fr_w (hW_w_3.uA tX_107 (In_any v_4)) hP hD (fun w_5 ew_5 hW_w_5 hP hD => ?_))
    have hv_w_5 := vw_uA hW_w_3 tX_107 ew_5 (z_ix (rfl : (x43_3 : Int32).toInt = _)) (z_of ev_4 (z_addw (z_of ev_1 ((hW_w43.va tX_107 _).trans (congrArg (vw w43 107) (z_ix (rfl : (x43_3 : Int32).toInt = _))))) (rfl : (p2 : Int32).toInt = _)))
    refine lv_aload_n hx hb dX0_serve_68 rfl (lv_at hl 0 rfl) ?_
    refine lv_aload_n hx hb dX0_serve_69 rfl (lv_at hl 0 rfl) ?_
    refine gt_X0 hx hb hts hown hK hP 102 (hW_w_5.o tX_102) 8 (by decide) wd_644 rfl (hW_w_5.fi tX_102 rfl) dX0_serve_70 ?_
    refine tov (v := (fI w43 102 8)) ((fI_cg (st_ne ew_5 (by decide))).trans (fI_nej (hW_w43.lt tX_102) ew_3 (by decide))) ?_
    refine lv_aload_n hx hb dX0_serve_73 rfl (lv_at hl 0 rfl) ?_
    refine gt_X0 hx hb hts hown hK hP 102 (hW_w_5.o tX_102) 6 (by decide) wd_641 rfl (hW_w_5.fr tX_102 rfl) dX0_serve_74 ?_
    refine lv_iload_n hx hb dX0_serve_77 rfl (lv_at hl 3 rfl) ?_
    refine va_iald hx hb hK hP 107 0 (hW_w_5.a tX_107) rfl (in_I i_x43_3 (by decide)) dX0_serve_78 ?_
    refine tov (v := v_4) (upd_at (aF_eq (hW_w_3.lt tX_107) ew_5)) ?_
    refine va_mmax hx hb (by rw [hml]; exact hl.1.symm) hown (hts _ wd_1344) (hts _ wd_999) (hts _ wd_18) (hts _ wd_1000) (Nat.le_trans (by decide) hR.1) (Nat.le_trans (Nat.le_of_ble_eq_true rfl) hR.2) (Nat.zero_le _) (Nat.zero_le _) dX0_serve_79 ?_
    refine lv_topi (fun v_6 ev_6 => ?_)
    refine pt_X0 hx hb hts hown hK hP hD hS 102 (hW_w_5.o tX_102) 8 (by decide) wd_644 rfl rfl (ty := .int) (v := .int v_6) (by decide +kernel) rfl rfl (hW_w_5.ll tX_102 (Nat.le_of_ble_eq_true rfl)) dX0_serve_82 (fun H locs hP hD hS => fr_w (hW_w_5.sI tX_102 rfl (In_any v_6)) hP hD (fun w_7 ew_7 hW_w_7 hP hD => ?_))
    have hv_w_7 := vw_sI (j := 8) hW_w_5 tX_102 rfl ew_7 (z_of ev_6 (z_max (hW_w43.vi tX_102 rfl) (z_of ev_4 (z_addw (z_of ev_1 ((hW_w43.va tX_107 _).trans (congrArg (vw w43 107) (z_ix (rfl : (x43_3 : Int32).toInt = _))))) (rfl : (p2 : Int32).toInt = _)))))
    exact hret _ _ _ _ _ hP hD hS dX0_serve_85 ⟨hW_w_7, (((hM_w43.sf (hW_w43.lt tX_102) ew_3 (by decide)).sa ew_5 (by decide)).sf (hW_w_5.lt tX_102) ew_7 (by decide)), (hmi_43 (0 + 1) _ _ (rl_X0_serve_43 (n := 0) (And.intro (tyX hW_w43) (And.intro i_x43_1 (And.intro i_x43_2 (And.intro i_x43_3 (And.intro i_x43_4 (Exists.intro (vw w_3) (And.intro hv_w_3 (Exists.intro (vw w_5) (And.intro hv_w_5 (Exists.intro (vw w_7) (And.intro hv_w_7 (And.intro rfl rfl))))))))))))))⟩
  have J5 : ∀ (N : Nat) (x5_3 : Int32) (x5_4 : Int32) (w5 : va_W) (H : Heap) (locs : List Loc) (ls : Array Slot), (9 - x5_4.toInt).toNat < N → HT q (TX q cI cJ cZ bb bs bp) w5 → Sm [102, 107] [(102, 7), (102, 8)] w w5 → (In 1 9 p1) → (In 3 63 p2) → (In 0 8 x5_3) → (In 1 9 x5_4) → (In 1 40 (fI w5 102 3)) → (∀ (n : Nat) (r : Int) (t : PS), It_X0_serve n 5 p1.toInt p2.toInt x5_3.toInt x5_4.toInt (vw w5) r t → M_X0_serve (vw w) p1.toInt p2.toInt r t) → va_P D vwCl w5 H → va_D A w5 → va_S A s.heap H locs → lv_has ls 5 [(0, .ref (q 102)), (1, .int p1), (2, .int p2), (3, .int x5_3), (4, .int x5_4)] → W p l e R s m args below meth c H locs 0 0 Q (F0 m 5 ls []) := by
    intro N
    induction N with
    | zero => intro x5_3 x5_4 w5 H locs ls hmu; exact absurd hmu (Nat.not_lt_zero _)
    | succ N ih5 =>
      intro x5_3 x5_4 w5 H locs ls hmu5 hW_w5 hM_w5 i_x5_1 i_x5_2 i_x5_3 i_x5_4 g5_102_3 hmi_5 hP hD hS hl
      have J37 : ∀ (x37_3 : Int32) (w37 : va_W) (H : Heap) (locs : List Loc) (ls : Array Slot), HT q (TX q cI cJ cZ bb bs bp) w37 → Sm [102, 107] [(102, 7), (102, 8)] w w37 → (In 2 9 p1) → (In 3 63 p2) → (In 0 8 x37_3) → (In 1 8 x5_4) → (In 1 40 (fI w37 102 3)) → (∀ (n : Nat) (r : Int) (t : PS), It_X0_serve n 37 p1.toInt p2.toInt x37_3.toInt x5_4.toInt (vw w37) r t → M_X0_serve (vw w) p1.toInt p2.toInt r t) → va_P D vwCl w37 H → va_D A w37 → va_S A s.heap H locs → lv_has ls 5 [(0, .ref (q 102)), (1, .int p1), (2, .int p2), (3, .int x37_3), (4, .int x5_4)] → W p l e R s m args below meth c H locs 0 0 Q (F0 m 37 ls []) := by
        intro x37_3 w37 H locs ls hW_w37 hM_w37 i_x37_1 i_x37_2 i_x37_3 i_x37_4 g37_102_3 hmi_37 hP hD hS hl
        refine lv_iinc (v := (x5_4 + 1)) (lv' := [(4, .int (x5_4 + 1)), (0, .ref (q 102)), (1, .int p1), (2, .int p2), (3, .int x37_3)]) hx hb dX0_serve_37 hl (k := 4) rfl (rfl) (by decide) rfl (fun ls hl => ?_)
        refine lv_goto (tgt := 5) hx hb dX0_serve_40 (by decide) ?_
        exact ih5 x37_3 (x5_4 + 1) w37 _ _ ls (mu_inc hmu5 i_x37_4 (In_lit (n := 1) (by decide) (by decide) : In 1 1 1) (by decide)) hW_w37 hM_w37 (In_w i_x37_1 (by decide) : In 1 9 p1) i_p2 i_x37_3 (In_w ((In_add (y := 1) i_x37_4 (In_lit (n := 1) (by decide) (by decide) : In 1 1 1) (by decide)) : In 2 9 (x5_4 + 1)) (by decide) : In 1 9 (x5_4 + 1)) (In_of (hM_w37.2 102 3 (by decide) (by decide)) (In_of (hM_w37.2 102 3 (by decide) (by decide)).symm g37_102_3)) (fun n r t hk => (hmi_37 (n + 1) r t (rl_X0_serve_37 (n := n) (And.intro (tyX hW_w37) (And.intro i_x37_1 (And.intro i_x37_2 (And.intro i_x37_3 (And.intro i_x37_4 (cgK_4 hk (rfl : (p1 : Int32).toInt = _) (rfl : (p2 : Int32).toInt = _) (rfl : (x37_3 : Int32).toInt = _) (z_add (t_add i_x37_4 (In_lit (n := 1) (by decide) (by decide) : In 1 1 1) (by decide)) (rfl : (x5_4 : Int32).toInt = _) (show (1 : Int32).toInt = 1 from by decide))))))))))) hP hD hS (lv_sub hl [1, 2, 3, 4, 0] rfl)
      refine lv_iload hx hb dX0_serve_5 (lv_at hl 4 rfl) ?_
      refine lv_iload_n hx hb dX0_serve_7 rfl (lv_at hl 1 rfl) ?_
      refine lv_icmp_ge (tgt := 43) hx hb dX0_serve_8 (by decide) (fun c_8 => ?_) (fun c_8 => ?_)
      · exact J43 x5_3 x5_4 w5 _ _ ls hW_w5 hM_w5 i_p1 i_p2 i_x5_3 i_x5_4 (In_of (hM_w5.2 102 3 (by decide) (by decide)) (In_of (hM_w5.2 102 3 (by decide) (by decide)).symm g5_102_3)) (fun n r t hk => (hmi_5 (n + 1) r t (rl_X0_serve_5 (n := n) (And.intro (tyX hW_w5) (And.intro i_x5_1 (And.intro i_x5_2 (And.intro i_x5_3 (And.intro i_x5_4 (Or.inl (And.intro (z_le c_8 (rfl : (p1 : Int32).toInt = _) (rfl : (x5_4 : Int32).toInt = _)) (cgK_4 hk (rfl : (p1 : Int32).toInt = _) (rfl : (p2 : Int32).toInt = _) (rfl : (x5_3 : Int32).toInt = _) (rfl : (x5_4 : Int32).toInt = _)))))))))))) hP hD hS (lv_sub hl [0, 1, 2, 3, 4] rfl)
      · refine lv_iload hx hb dX0_serve_11 (lv_at hl 4 rfl) ?_
        refine lv_bipush (v := 9) hx hb dX0_serve_13 (by decide) ?_
        refine lv_icmp_ge (tgt := 43) hx hb dX0_serve_15 (by decide) (fun c_9 => ?_) (fun c_9 => ?_)
        · exact (In_no (R_le_l (In_lit (n := 9) (by decide) (by decide) : In 9 9 9) (R_nle_r i_p1 i_x5_4 c_8 (by decide) : In 1 8 x5_4) c_9 (by decide) : In 9 8 9) (by decide)).elim
        · refine lv_aload_n hx hb dX0_serve_18 rfl (lv_at hl 0 rfl) ?_
          refine gt_X0 hx hb hts hown hK hP 102 (hW_w5.o tX_102) 6 (by decide) wd_641 rfl (hW_w5.fr tX_102 rfl) dX0_serve_19 ?_
          refine lv_iload hx hb dX0_serve_22 (lv_at hl 4 rfl) ?_
          refine va_iald hx hb hK hP 107 0 (hW_w5.a tX_107) rfl (in_I (R_nle_r i_p1 i_x5_4 c_8 (by decide) : In 1 8 x5_4) (by decide)) dX0_serve_24 ?_
          refine lv_topi (fun v_10 ev_10 => ?_)
          refine lv_aload_n hx hb dX0_serve_25 rfl (lv_at hl 0 rfl) ?_
          refine gt_X0 hx hb hts hown hK hP 102 (hW_w5.o tX_102) 6 (by decide) wd_641 rfl (hW_w5.fr tX_102 rfl) dX0_serve_26 ?_
          refine lv_iload_n hx hb dX0_serve_29 rfl (lv_at hl 3 rfl) ?_
          refine va_iald hx hb hK hP 107 0 (hW_w5.a tX_107) rfl (in_I i_x5_3 (by decide)) dX0_serve_30 ?_
          refine lv_topi (fun v_11 ev_11 => ?_)
          refine lv_icmp_ge (tgt := 37) hx hb dX0_serve_31 (by decide) (fun c_12 => ?_) (fun c_12 => ?_)
          · exact J37 x5_3 w5 _ _ ls hW_w5 hM_w5 (R_nle_l i_p1 i_x5_4 c_8 (by decide) : In 2 9 p1) i_p2 i_x5_3 (R_nle_r i_p1 i_x5_4 c_8 (by decide) : In 1 8 x5_4) (In_of (hM_w5.2 102 3 (by decide) (by decide)) (In_of (hM_w5.2 102 3 (by decide) (by decide)).symm g5_102_3)) (fun n r t hk => (hmi_5 (n + 1) r t (rl_X0_serve_5 (n := n) (And.intro (tyX hW_w5) (And.intro i_x5_1 (And.intro i_x5_2 (And.intro i_x5_3 (And.intro i_x5_4 (Or.inr (And.intro (z_nle c_8 (rfl : (p1 : Int32).toInt = _) (rfl : (x5_4 : Int32).toInt = _)) (And.intro (z_nle c_9 (show (9 : Int32).toInt = 9 from by decide) (rfl : (x5_4 : Int32).toInt = _)) (Or.inl (And.intro (z_le c_12 (z_of ev_11 ((hW_w5.va tX_107 _).trans (congrArg (vw w5 107) (z_ix (rfl : (x5_3 : Int32).toInt = _))))) (z_of ev_10 ((hW_w5.va tX_107 _).trans (congrArg (vw w5 107) (z_ix (rfl : (x5_4 : Int32).toInt = _)))))) (cgK_4 hk (rfl : (p1 : Int32).toInt = _) (rfl : (p2 : Int32).toInt = _) (rfl : (x5_3 : Int32).toInt = _) (rfl : (x5_4 : Int32).toInt = _))))))))))))))) hP hD hS (lv_sub hl [0, 1, 2, 3, 4] rfl)
          · refine lv_iload hx hb dX0_serve_34 (lv_at hl 4 rfl) ?_
            refine lv_istore_n (lv' := [(3, .int x5_4), (0, .ref (q 102)), (1, .int p1), (2, .int p2), (4, .int x5_4)]) hx hb dX0_serve_36 rfl hl (by decide) rfl (fun ls hl => ?_)
            exact J37 x5_4 w5 _ _ ls hW_w5 hM_w5 (R_nle_l i_p1 i_x5_4 c_8 (by decide) : In 2 9 p1) i_p2 (In_w (R_nle_r i_p1 i_x5_4 c_8 (by decide) : In 1 8 x5_4) (by decide) : In 0 8 x5_4) (R_nle_r i_p1 i_x5_4 c_8 (by decide) : In 1 8 x5_4) (In_of (hM_w5.2 102 3 (by decide) (by decide)) (In_of (hM_w5.2 102 3 (by decide) (by decide)).symm g5_102_3)) (fun n r t hk => (hmi_5 (n + 1) r t (rl_X0_serve_5 (n := n) (And.intro (tyX hW_w5) (And.intro i_x5_1 (And.intro i_x5_2 (And.intro i_x5_3 (And.intro i_x5_4 (Or.inr (And.intro (z_nle c_8 (rfl : (p1 : Int32).toInt = _) (rfl : (x5_4 : Int32).toInt = _)) (And.intro (z_nle c_9 (show (9 : Int32).toInt = 9 from by decide) (rfl : (x5_4 : Int32).toInt = _)) (Or.inr (And.intro (z_nle c_12 (z_of ev_11 ((hW_w5.va tX_107 _).trans (congrArg (vw w5 107) (z_ix (rfl : (x5_3 : Int32).toInt = _))))) (z_of ev_10 ((hW_w5.va tX_107 _).trans (congrArg (vw w5 107) (z_ix (rfl : (x5_4 : Int32).toInt = _)))))) (cgK_4 hk (rfl : (p1 : Int32).toInt = _) (rfl : (p2 : Int32).toInt = _) (rfl : (x5_4 : Int32).toInt = _) (rfl : (x5_4 : Int32).toInt = _))))))))))))))) hP hD hS (lv_sub hl [1, 2, 3, 0, 4] rfl)
  refine lv_iconst (v := 0) hx hb dX0_serve_0 (by decide) ?_
  refine lv_istore_n (lv' := [(3, .int 0), (0, .ref (q 102)), (1, .int p1), (2, .int p2)]) hx hb dX0_serve_1 rfl hl (by decide) rfl (fun ls hl => ?_)
  refine lv_iconst (v := 1) hx hb dX0_serve_2 (by decide) ?_
  refine lv_istore (lv' := [(4, .int 1), (3, .int 0), (0, .ref (q 102)), (1, .int p1), (2, .int p2)]) hx hb dX0_serve_3 hl (by decide) rfl (fun ls hl => ?_)
  exact J5 _ 0 1 w _ _ ls (Nat.lt_succ_self _) hW_w Sm.rf i_p1 i_p2 (In_lit (n := 0) (by decide) (by decide) : In 0 8 0) (In_lit (n := 1) (by decide) (by decide) : In 1 9 1) hf_102_3 (fun n r t hk => (mk_X0_serve (n := n) (And.intro (tyX hW_w) (And.intro i_p1 (And.intro i_p2 (cgK_4 hk (rfl : (p1 : Int32).toInt = _) (rfl : (p2 : Int32).toInt = _) (show (0 : Int32).toInt = 0 from by decide) (show (1 : Int32).toInt = 1 from by decide))))))) hP hD hS (lv_sub hl [2, 3, 4, 1, 0] rfl)
set_option maxRecDepth 100000 in
set_option maxHeartbeats 8000000 in
theorem e_X0_serveLine (l : Launch) (D : va_G) (cI cJ cZ : ClassId) (q : Nat → Nat) (bb bs bp : Nat) (w : va_W) (hW_w : HT q (TX q cI cJ cZ bb bs bp) w) (p1 : Int32) (i_p1 : In 1 9 p1) : Con_v l yX0_serveLine cX0_serveLine 4 none ({ frames := 2, cells := 0, slots := 0, locals := 47 }) D cI cJ cZ eW [.ref (q 102), .int p1] w (fun (w1 : va_W) => HT q (TX q cI cJ cZ bb bs bp) w1 ∧ Sm [102, 107] [(102, 7), (102, 8)] w w1 ∧ M_X0_serveLine (vw w) p1.toInt 0 (vw w1)) := by
  refine eQ_v rfl (by decide) (Nat.le_of_ble_eq_true rfl) ⟨rfl, rfl⟩ ?_
  intro p e R s m args below meth c A Q hx hb hml hown hts hK hE hA hR hret hP hD hS ls hl
  have hown : s.vm.findClass RX0 = some m.cls := hown
  have hl : lv_has ls 4 [(0, .ref (q 102)), (1, .int p1)] := hl
  have J20 : ∀ (N : Nat) (x20_2 : Int32) (w20 : va_W) (H : Heap) (locs : List Loc) (ls : Array Slot), (64 - x20_2.toInt).toNat < N → HT q (TX q cI cJ cZ bb bs bp) w20 → Sm [102, 107] [(102, 7), (102, 8)] w w20 → (In 1 9 p1) → (In 3 64 x20_2) → (∀ (n : Nat) (r : Int) (t : PS), It_X0_serveLine n 20 p1.toInt x20_2.toInt 0 (vw w20) r t → M_X0_serveLine (vw w) p1.toInt r t) → va_P D vwCl w20 H → va_D A w20 → va_S A s.heap H locs → lv_has ls 4 [(0, .ref (q 102)), (1, .int p1), (2, .int x20_2)] → W p l e R s m args below meth c H locs 0 0 Q (F0 m 20 ls []) := by
    intro N
    induction N with
    | zero => intro x20_2 w20 H locs ls hmu; exact absurd hmu (Nat.not_lt_zero _)
    | succ N ih20 =>
      intro x20_2 w20 H locs ls hmu20 hW_w20 hM_w20 i_x20_1 i_x20_2 hmi_20 hP hD hS hl
      have J28 : ∀ (N : Nat) (x28_3 : Int32) (w28 : va_W) (H : Heap) (locs : List Loc) (ls : Array Slot), (40 - x28_3.toInt).toNat < N → HT q (TX q cI cJ cZ bb bs bp) w28 → Sm [102, 107] [(102, 7), (102, 8)] w w28 → (In 1 9 p1) → (In 3 63 x20_2) → (In 0 40 x28_3) → (∀ (n : Nat) (r : Int) (t : PS), It_X0_serveLine n 28 p1.toInt x20_2.toInt x28_3.toInt (vw w28) r t → M_X0_serveLine (vw w) p1.toInt r t) → va_P D vwCl w28 H → va_D A w28 → va_S A s.heap H locs → lv_has ls 4 [(0, .ref (q 102)), (1, .int p1), (2, .int x20_2), (3, .int x28_3)] → W p l e R s m args below meth c H locs 0 0 Q (F0 m 28 ls []) := by
        intro N
        induction N with
        | zero => intro x28_3 w28 H locs ls hmu; exact absurd hmu (Nat.not_lt_zero _)
        | succ N ih28 =>
          intro x28_3 w28 H locs ls hmu28 hW_w28 hM_w28 i_x28_1 i_x28_2 i_x28_3 hmi_28 hP hD hS hl
          have J52 : ∀ (w52 : va_W) (H : Heap) (locs : List Loc) (ls : Array Slot), HT q (TX q cI cJ cZ bb bs bp) w52 → Sm [102, 107] [(102, 7), (102, 8)] w w52 → (In 1 9 p1) → (In 3 63 x20_2) → (In 0 39 x28_3) → (In 1 40 (fI w52 102 3)) → (∀ (n : Nat) (r : Int) (t : PS), It_X0_serveLine n 52 p1.toInt x20_2.toInt x28_3.toInt (vw w52) r t → M_X0_serveLine (vw w) p1.toInt r t) → va_P D vwCl w52 H → va_D A w52 → va_S A s.heap H locs → lv_has ls 4 [(0, .ref (q 102)), (1, .int p1), (2, .int x20_2), (3, .int x28_3)] → W p l e R s m args below meth c H locs 0 0 Q (F0 m 52 ls []) := by
            intro w52 H locs ls hW_w52 hM_w52 i_x52_1 i_x52_2 i_x52_3 g52_102_3 hmi_52 hP hD hS hl
            refine lv_iinc (v := (x28_3 + 1)) (lv' := [(3, .int (x28_3 + 1)), (0, .ref (q 102)), (1, .int p1), (2, .int x20_2)]) hx hb dX0_serveLine_52 hl (k := 3) rfl (rfl) (by decide) rfl (fun ls hl => ?_)
            refine lv_goto (tgt := 28) hx hb dX0_serveLine_55 (by decide) ?_
            exact ih28 (x28_3 + 1) w52 _ _ ls (mu_inc hmu28 i_x52_3 (In_lit (n := 1) (by decide) (by decide) : In 1 1 1) (by decide)) hW_w52 hM_w52 i_p1 i_x28_2 (In_w ((In_add (y := 1) i_x52_3 (In_lit (n := 1) (by decide) (by decide) : In 1 1 1) (by decide)) : In 1 40 (x28_3 + 1)) (by decide) : In 0 40 (x28_3 + 1)) (fun n r t hk => (hmi_52 (n + 1) r t (rl_X0_serveLine_52 (n := n) (And.intro (tyX hW_w52) (And.intro i_x52_1 (And.intro i_x52_2 (And.intro i_x52_3 (cgK_3 hk (rfl : (p1 : Int32).toInt = _) (rfl : (x20_2 : Int32).toInt = _) (z_add (t_add i_x52_3 (In_lit (n := 1) (by decide) (by decide) : In 1 1 1) (by decide)) (rfl : (x28_3 : Int32).toInt = _) (show (1 : Int32).toInt = 1 from by decide)))))))))) hP hD hS (lv_sub hl [1, 2, 3, 0] rfl)
          refine lv_iload_n hx hb dX0_serveLine_28 rfl (lv_at hl 3 rfl) ?_
          refine lv_aload_n hx hb dX0_serveLine_29 rfl (lv_at hl 0 rfl) ?_
          refine gt_X0 hx hb hts hown hK hP 102 (hW_w28.o tX_102) 3 (by decide) wd_637 rfl (hW_w28.fi tX_102 rfl) dX0_serveLine_30 ?_
          refine tov (v := (fI w 102 3)) (hM_w28.2 102 3 (by decide) (by decide)) ?_
          refine lv_icmp_ge (tgt := 58) hx hb dX0_serveLine_33 (by decide) (fun c_1 => ?_) (fun c_1 => ?_)
          · refine lv_iinc (v := (x20_2 + 1)) (lv' := [(2, .int (x20_2 + 1)), (0, .ref (q 102)), (1, .int p1), (3, .int x28_3)]) hx hb dX0_serveLine_58 hl (k := 2) rfl (rfl) (by decide) rfl (fun ls hl => ?_)
            refine lv_goto (tgt := 20) hx hb dX0_serveLine_61 (by decide) ?_
            exact ih20 (x20_2 + 1) w28 _ _ ls (mu_inc hmu20 i_x28_2 (In_lit (n := 1) (by decide) (by decide) : In 1 1 1) (by decide)) hW_w28 hM_w28 i_p1 (In_w ((In_add (y := 1) i_x28_2 (In_lit (n := 1) (by decide) (by decide) : In 1 1 1) (by decide)) : In 4 64 (x20_2 + 1)) (by decide) : In 3 64 (x20_2 + 1)) (fun n r t hk => (hmi_28 (n + 1) r t (rl_X0_serveLine_28 (n := n) (And.intro (tyX hW_w28) (And.intro i_x28_1 (And.intro i_x28_2 (And.intro i_x28_3 (Or.inl (And.intro (z_le c_1 (z_of (hM_w28.2 102 3 (by decide) (by decide)).symm (hW_w28.vi tX_102 rfl)) (rfl : (x28_3 : Int32).toInt = _)) (cgK_3 hk (rfl : (p1 : Int32).toInt = _) (z_add (t_add i_x28_2 (In_lit (n := 1) (by decide) (by decide) : In 1 1 1) (by decide)) (rfl : (x20_2 : Int32).toInt = _) (show (1 : Int32).toInt = 1 from by decide)) rfl)))))))))) hP hD hS (lv_sub hl [1, 2, 0] rfl)
          · refine lv_aload_n hx hb dX0_serveLine_36 rfl (lv_at hl 0 rfl) ?_
            refine gt_X0 hx hb hts hown hK hP 102 (hW_w28.o tX_102) 5 (by decide) wd_640 rfl (hW_w28.fr tX_102 rfl) dX0_serveLine_37 ?_
            refine lv_iload_n hx hb dX0_serveLine_40 rfl (lv_at hl 3 rfl) ?_
            refine va_iald hx hb hK hP 106 0 (hW_w28.a tX_106) rfl (in_I (R_nle_r (hW_w.fin tX_102 rfl : In 0 40 (fI w 102 3)) i_x28_3 c_1 (by decide) : In 0 39 x28_3) (by decide)) dX0_serveLine_41 ?_
            refine lv_topi (fun v_2 ev_2 => ?_)
            refine lv_iload_n hx hb dX0_serveLine_42 rfl (lv_at hl 2 rfl) ?_
            refine lv_icmp_ne (tgt := 52) hx hb dX0_serveLine_43 (by decide) (fun c_3 => ?_) (fun c_3 => ?_)
            · exact J52 w28 _ _ ls hW_w28 hM_w28 i_p1 i_x28_2 (R_nle_r (hW_w.fin tX_102 rfl : In 0 40 (fI w 102 3)) i_x28_3 c_1 (by decide) : In 0 39 x28_3) (In_of (hM_w28.2 102 3 (by decide) (by decide)) (R_nle_l (hW_w.fin tX_102 rfl : In 0 40 (fI w 102 3)) i_x28_3 c_1 (by decide) : In 1 40 (fI w 102 3))) (fun n r t hk => (hmi_28 (n + 1) r t (rl_X0_serveLine_28 (n := n) (And.intro (tyX hW_w28) (And.intro i_x28_1 (And.intro i_x28_2 (And.intro i_x28_3 (Or.inr (And.intro (z_nle c_1 (z_of (hM_w28.2 102 3 (by decide) (by decide)).symm (hW_w28.vi tX_102 rfl)) (rfl : (x28_3 : Int32).toInt = _)) (Or.inr (And.intro (z_neq c_3 (z_of ev_2 ((hW_w28.va tX_106 _).trans (congrArg (vw w28 106) (z_ix (rfl : (x28_3 : Int32).toInt = _))))) (rfl : (x20_2 : Int32).toInt = _)) (cgK_3 hk (rfl : (p1 : Int32).toInt = _) (rfl : (x20_2 : Int32).toInt = _) (rfl : (x28_3 : Int32).toInt = _))))))))))))) hP hD hS (lv_sub hl [0, 1, 2, 3] rfl)
            · refine lv_aload_n hx hb dX0_serveLine_46 rfl (lv_at hl 0 rfl) ?_
              refine lv_iload_n hx hb dX0_serveLine_47 rfl (lv_at hl 1 rfl) ?_
              refine lv_iload_n hx hb dX0_serveLine_48 rfl (lv_at hl 2 rfl) ?_
              refine kW_v ⟨rfl, rfl⟩ hP hD hS hA (rW_V (As := [.int p1, .int x20_2]) (rest := []) hx hb hml hown hts hK hE hP hD (e_X0_serve l D cI cJ cZ q bb bs bp w28 hW_w28 p1 x20_2 i_p1 i_x28_2 (In_of (hM_w28.2 102 3 (by decide) (by decide)) (R_nle_l (hW_w.fin tX_102 rfl : In 0 40 (fI w 102 3)) i_x28_3 c_1 (by decide) : In 1 40 (fI w 102 3))) _) ⟨⟨rfl, rfl⟩, rfl, rfl⟩ sv_X0_87 ⟨(Nat.le_trans (by decide) hR.1), (Nat.le_trans (by decide) hR.2)⟩ 102 0 (hW_w28.o tX_102) rfl rfl rfl hl.1 rfl (Nat.le_of_ble_eq_true rfl) dX0_serveLine_49) (fun w_4 H locs hw_w_4 hP hD hS => ?_)
              obtain ⟨hW_w_4, hs_w_4, hm_6⟩ := hw_w_4
              exact J52 w_4 _ _ ls hW_w_4 (hM_w28.tr hs_w_4 (by decide)) i_p1 i_x28_2 (R_nle_r (hW_w.fin tX_102 rfl : In 0 40 (fI w 102 3)) i_x28_3 c_1 (by decide) : In 0 39 x28_3) (In_of ((hs_w_4.2 102 3 (by decide) (by decide)).trans (hM_w28.2 102 3 (by decide) (by decide))) (R_nle_l (hW_w.fin tX_102 rfl : In 0 40 (fI w 102 3)) i_x28_3 c_1 (by decide) : In 1 40 (fI w 102 3))) (fun n r t hk => (hmi_28 (n + 1) r t (rl_X0_serveLine_28 (n := n) (And.intro (tyX hW_w28) (And.intro i_x28_1 (And.intro i_x28_2 (And.intro i_x28_3 (Or.inr (And.intro (z_nle c_1 (z_of (hM_w28.2 102 3 (by decide) (by decide)).symm (hW_w28.vi tX_102 rfl)) (rfl : (x28_3 : Int32).toInt = _)) (Or.inl (And.intro (z_eq c_3 (z_of ev_2 ((hW_w28.va tX_106 _).trans (congrArg (vw w28 106) (z_ix (rfl : (x28_3 : Int32).toInt = _))))) (rfl : (x20_2 : Int32).toInt = _)) (Exists.intro (vw w_4) (And.intro (cgM_2 hm_6 (rfl : (p1 : Int32).toInt = _) (rfl : (x20_2 : Int32).toInt = _)) (And.intro (hs_w_4.Fr hW_w28 hW_w_4 intsX_ok intsX_ok) (And.intro (tyX hW_w_4) (cgK_3 hk (rfl : (p1 : Int32).toInt = _) (rfl : (x20_2 : Int32).toInt = _) (rfl : (x28_3 : Int32).toInt = _))))))))))))))))) hP hD hS (lv_sub hl [0, 1, 2, 3] rfl)
      refine lv_iload_n hx hb dX0_serveLine_20 rfl (lv_at hl 2 rfl) ?_
      refine lv_bipush (v := 42) hx hb dX0_serveLine_21 (by decide) ?_
      refine lv_icmp_gt (tgt := 64) hx hb dX0_serveLine_23 (by decide) (fun c_7 => ?_) (fun c_7 => ?_)
      · exact hret _ _ _ _ _ hP hD hS dX0_serveLine_64 ⟨hW_w20, hM_w20, (hmi_20 (0 + 1) _ _ (rl_X0_serveLine_20 (n := 0) (And.intro (tyX hW_w20) (And.intro i_x20_1 (And.intro i_x20_2 (Or.inl (And.intro (z_lt c_7 (show (42 : Int32).toInt = 42 from by decide) (rfl : (x20_2 : Int32).toInt = _)) (And.intro rfl rfl))))))))⟩
      · refine lv_iconst (v := 0) hx hb dX0_serveLine_26 (by decide) ?_
        refine lv_istore_n (lv' := [(3, .int 0), (0, .ref (q 102)), (1, .int p1), (2, .int x20_2)]) hx hb dX0_serveLine_27 rfl hl (by decide) rfl (fun ls hl => ?_)
        exact J28 _ 0 w20 _ _ ls (Nat.lt_succ_self _) hW_w20 hM_w20 i_p1 (In_w (R_nlt_r (In_lit (n := 42) (by decide) (by decide) : In 42 42 42) i_x20_2 c_7 (by decide) : In 3 42 x20_2) (by decide) : In 3 63 x20_2) (In_lit (n := 0) (by decide) (by decide) : In 0 40 0) (fun n r t hk => (hmi_20 (n + 1) r t (rl_X0_serveLine_20 (n := n) (And.intro (tyX hW_w20) (And.intro i_x20_1 (And.intro i_x20_2 (Or.inr (And.intro (z_nlt c_7 (show (42 : Int32).toInt = 42 from by decide) (rfl : (x20_2 : Int32).toInt = _)) (cgK_3 hk (rfl : (p1 : Int32).toInt = _) (rfl : (x20_2 : Int32).toInt = _) (show (0 : Int32).toInt = 0 from by decide)))))))))) hP hD hS (lv_sub hl [1, 2, 3, 0] rfl)
  refine lv_aload_n hx hb dX0_serveLine_0 rfl (lv_at hl 0 rfl) ?_
  refine gt_X0 hx hb hts hown hK hP 102 (hW_w.o tX_102) 6 (by decide) wd_641 rfl (hW_w.fr tX_102 rfl) dX0_serveLine_1 ?_
  refine lv_iconst (v := 0) hx hb dX0_serveLine_4 (by decide) ?_
  refine kW_v ⟨rfl, rfl⟩ hP hD hS hA (rW_S (As := [.ref (q 107), .int 0]) (rest := []) hx hb hml hown hts hK hE hP hD (e_J7_fill_53178_107 l D cI cJ cZ q bb bs bp w hW_w 0 (In_lit (n := 0) (by decide) (by decide) : In 0 0 0) _) ⟨⟨rfl, rfl⟩, rfl, rfl⟩ sv_X0_75 ⟨(Nat.le_trans (by decide) hR.1), (Nat.le_trans (by decide) hR.2)⟩ rfl hl.1 rfl (Nat.le_of_ble_eq_true rfl) dX0_serveLine_5) (fun w_8 H locs hw_w_8 hP hD hS => ?_)
  obtain ⟨hW_w_8, hs_w_8, h_10, hm_11⟩ := hw_w_8
  refine lv_aload_n hx hb dX0_serveLine_8 rfl (lv_at hl 0 rfl) ?_
  refine lv_iconst (v := 0) hx hb dX0_serveLine_9 (by decide) ?_
  refine pt_X0 hx hb hts hown hK hP hD hS 102 (hW_w_8.o tX_102) 7 (by decide) wd_642 rfl rfl (ty := .int) (v := .int 0) (by decide +kernel) rfl rfl (hW_w_8.ll tX_102 (Nat.le_of_ble_eq_true rfl)) dX0_serveLine_10 (fun H locs hP hD hS => fr_w (hW_w_8.sI tX_102 rfl (In_lit (n := 0) (by decide) (by decide) : In (-2147483648) 2147483647 0)) hP hD (fun w_12 ew_12 hW_w_12 hP hD => ?_))
  have hv_w_12 := vw_sI (j := 7) hW_w_8 tX_102 rfl ew_12 (show (0 : Int32).toInt = 0 from by decide)
  refine lv_aload_n hx hb dX0_serveLine_13 rfl (lv_at hl 0 rfl) ?_
  refine lv_iconst (v := 0) hx hb dX0_serveLine_14 (by decide) ?_
  refine pt_X0 hx hb hts hown hK hP hD hS 102 (hW_w_12.o tX_102) 8 (by decide) wd_644 rfl rfl (ty := .int) (v := .int 0) (by decide +kernel) rfl rfl (hW_w_12.ll tX_102 (Nat.le_of_ble_eq_true rfl)) dX0_serveLine_15 (fun H locs hP hD hS => fr_w (hW_w_12.sI tX_102 rfl (In_lit (n := 0) (by decide) (by decide) : In (-2147483648) 2147483647 0)) hP hD (fun w_13 ew_13 hW_w_13 hP hD => ?_))
  have hv_w_13 := vw_sI (j := 8) hW_w_12 tX_102 rfl ew_13 (show (0 : Int32).toInt = 0 from by decide)
  refine lv_iconst (v := 3) hx hb dX0_serveLine_18 (by decide) ?_
  refine lv_istore_n (lv' := [(2, .int 3), (0, .ref (q 102)), (1, .int p1)]) hx hb dX0_serveLine_19 rfl hl (by decide) rfl (fun ls hl => ?_)
  exact J20 _ 3 w_13 _ _ ls (Nat.lt_succ_self _) hW_w_13 (((Sm.rf.tr hs_w_8 (by decide)).sf (hW_w_8.lt tX_102) ew_12 (by decide)).sf (hW_w_12.lt tX_102) ew_13 (by decide)) i_p1 (In_lit (n := 3) (by decide) (by decide) : In 3 64 3) (fun n r t hk => (mk_X0_serveLine (n := n) (And.intro (tyX hW_w) (And.intro i_p1 (Exists.intro (vw w_8) (And.intro (cgM_1 hm_11 (show (0 : Int32).toInt = 0 from by decide)) (And.intro (hs_w_8.Fr hW_w hW_w_8 intsX_ok intsX_ok) (And.intro (tyX hW_w_8) (Exists.intro (vw w_12) (And.intro hv_w_12 (Exists.intro (vw w_13) (And.intro hv_w_13 (cgK_3 hk (rfl : (p1 : Int32).toInt = _) (show (3 : Int32).toInt = 3 from by decide) rfl))))))))))))) hP hD hS (lv_sub hl [1, 2, 0] rfl)
