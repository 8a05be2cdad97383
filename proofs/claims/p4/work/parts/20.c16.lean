set_option maxRecDepth 100000 in
set_option maxHeartbeats 8000000 in
theorem k_X0_write_1 (l : Launch) (D : va_G) (cI cJ cZ : ClassId) (q : Nat → Nat) (bb bs bp : Nat) (w : va_W) (hW_w : HT q (TX q cI cJ cZ bb bs bp) w) (p1 : Int32) : Con_i l yX0_write cX0_write 5 (some .int) ({ frames := 1, cells := 0, slots := 0, locals := 23 }) D cI cJ cZ eW [.ref (q 102), .int p1, .ref (q 1)] w (fun (r : Int32) (w1 : va_W) => HT q (TX q cI cJ cZ bb bs bp) w1 ∧ Sm [102, 108] [(102, 10)] w w1 ∧ In 1 100 r ∧ In 1 100 (fI w1 102 10)) := by
  refine eQ_i rfl (by decide) (Nat.le_of_ble_eq_true rfl) ⟨rfl, rfl⟩ ?_
  intro p e R s m args below meth c A Q hx hb hml hown hts hK hE hA hR hret hP hD hS ls hl
  have hown : s.vm.findClass RX0 = some m.cls := hown
  have hl : lv_has ls 5 [(0, .ref (q 102)), (1, .int p1), (2, .ref (q 1))] := hl
  have J7 : ∀ (N : Nat) (x7_3 : Int32) (w7 : va_W) (H : Heap) (locs : List Loc) (ls : Array Slot), (10 - x7_3.toInt).toNat < N → HT q (TX q cI cJ cZ bb bs bp) w7 → Sm [102, 108] [(102, 10)] w w7 → (In 0 10 x7_3) → va_P D vwCl w7 H → va_D A w7 → va_S A s.heap H locs → lv_has ls 5 [(0, .ref (q 102)), (1, .int p1), (2, .ref (q 1)), (3, .int x7_3)] → W p l e R s m args below meth c H locs 0 0 Q (F0 m 7 ls []) := by
    intro N
    induction N with
    | zero => intro x7_3 w7 H locs ls hmu; exact absurd hmu (Nat.not_lt_zero _)
    | succ N ih7 =>
      intro x7_3 w7 H locs ls hmu7 hW_w7 hM_w7 i_x7_3 hP hD hS hl
      have J88 : ∀ (w88 : va_W) (H : Heap) (locs : List Loc) (ls : Array Slot), HT q (TX q cI cJ cZ bb bs bp) w88 → Sm [102, 108] [(102, 10)] w w88 → (In 0 9 x7_3) → (In 1 10 (fI w88 1 0)) → va_P D vwCl w88 H → va_D A w88 → va_S A s.heap H locs → lv_has ls 5 [(0, .ref (q 102)), (1, .int p1), (2, .ref (q 1)), (3, .int x7_3)] → W p l e R s m args below meth c H locs 0 0 Q (F0 m 88 ls []) := by
        intro w88 H locs ls hW_w88 hM_w88 i_x88_3 g88_1_0 hP hD hS hl
        refine lv_iinc (v := (x7_3 + 1)) (lv' := [(3, .int (x7_3 + 1)), (0, .ref (q 102)), (1, .int p1), (2, .ref (q 1))]) hx hb dX0_write_88 hl (k := 3) rfl (rfl) (by decide) rfl (fun ls hl => ?_)
        refine lv_goto (tgt := 7) hx hb dX0_write_91 (by decide) ?_
        exact ih7 (x7_3 + 1) w88 _ _ ls (mu_inc hmu7 i_x88_3 (In_lit (n := 1) (by decide) (by decide) : In 1 1 1) (by decide)) hW_w88 hM_w88 (In_w ((In_add (y := 1) i_x88_3 (In_lit (n := 1) (by decide) (by decide) : In 1 1 1) (by decide)) : In 1 10 (x7_3 + 1)) (by decide) : In 0 10 (x7_3 + 1)) hP hD hS (lv_sub hl [1, 2, 3, 0] rfl)
      have J45 : ∀ (N : Nat) (x45_4 : Int32) (w45 : va_W) (H : Heap) (locs : List Loc) (ls : Array Slot), (8 - x45_4.toInt).toNat < N → HT q (TX q cI cJ cZ bb bs bp) w45 → Sm [102, 108] [(102, 10)] w w45 → (In 0 9 x7_3) → (In 0 8 x45_4) → (In 1 10 (fI w45 1 0)) → va_P D vwCl w45 H → va_D A w45 → va_S A s.heap H locs → lv_has ls 5 [(0, .ref (q 102)), (1, .int p1), (2, .ref (q 1)), (3, .int x7_3), (4, .int x45_4)] → W p l e R s m args below meth c H locs 0 0 Q (F0 m 45 ls []) := by
        intro N
        induction N with
        | zero => intro x45_4 w45 H locs ls hmu; exact absurd hmu (Nat.not_lt_zero _)
        | succ N ih45 =>
          intro x45_4 w45 H locs ls hmu45 hW_w45 hM_w45 i_x45_3 i_x45_4 g45_1_0 hP hD hS hl
          refine lv_iload hx hb dX0_write_45 (lv_at hl 4 rfl) ?_
          refine lv_bipush (v := 8) hx hb dX0_write_47 (by decide) ?_
          refine lv_icmp_ge (tgt := 88) hx hb dX0_write_49 (by decide) (fun c_1 => ?_) (fun c_1 => ?_)
          · exact J88 w45 _ _ ls hW_w45 hM_w45 i_x45_3 (In_of (hM_w45.gI (by decide)) (In_of (hM_w45.gI (by decide)).symm g45_1_0)) hP hD hS (lv_sub hl [0, 1, 2, 3] rfl)
          · refine lv_aload_n hx hb dX0_write_52 rfl (lv_at hl 2 rfl) ?_
            refine gt_X1 hx hb hts hown hK hP 1 (hW_w45.o tX_1) 1 (by decide) wd_44 rfl (hW_w45.fr tX_1 rfl) dX0_write_53 ?_
            refine lv_iload_n hx hb dX0_write_56 rfl (lv_at hl 3 rfl) ?_
            refine va_lald hx hb hK hP 2 1 (hW_w45.al tX_2) rfl (in_I i_x45_3 (by decide)) dX0_write_57 ?_
            refine lv_topl (fun v_2 ev_2 => ?_)
            refine lv_iload hx hb dX0_write_58 (lv_at hl 4 rfl) ?_
            refine kW_i ⟨rfl, rfl⟩ hP hD hS hA (rW_N (As := [.long v_2, .int x45_4]) (rest := []) hx hb hml hown hts hK hE hP hD (k_X11_letterOf l D cI cJ cZ q bb bs bp w45 hW_w45 v_2 x45_4 _) ⟨⟨rfl, rfl⟩, rfl, rfl⟩ hE.2 ⟨⟨wd_902, wd_1, wd_903⟩, sv_X11_150.2⟩ ⟨(Nat.le_trans (by decide) hR.1), (Nat.le_trans (by decide) hR.2)⟩ rfl hl.1 rfl (Nat.le_of_ble_eq_true rfl) dX0_write_60) (fun r_4 w_3 H locs hw_w_3 hP hD hS => ?_)
            obtain ⟨hW_w_3, hs_w_3, i_r_4⟩ := hw_w_3
            refine lv_iconst (v := (-1)) hx hb dX0_write_63 (by decide) ?_
            refine lv_icmp_eq (tgt := 88) hx hb dX0_write_64 (by decide) (fun c_5 => ?_) (fun c_5 => ?_)
            · exact J88 w_3 _ _ ls hW_w_3 (hM_w45.tr hs_w_3 (by decide)) i_x45_3 (In_of ((hs_w_3.gI (by decide)).trans (hM_w45.gI (by decide))) (In_of (hM_w45.gI (by decide)).symm g45_1_0)) hP hD hS (lv_sub hl [0, 1, 2, 3] rfl)
            · refine lv_aload_n hx hb dX0_write_67 rfl (lv_at hl 0 rfl) ?_
              refine lv_aload_n hx hb dX0_write_68 rfl (lv_at hl 2 rfl) ?_
              refine gt_X1 hx hb hts hown hK hP 1 (hW_w_3.o tX_1) 1 (by decide) wd_44 rfl (hW_w_3.fr tX_1 rfl) dX0_write_69 ?_
              refine lv_iload_n hx hb dX0_write_72 rfl (lv_at hl 3 rfl) ?_
              refine va_lald hx hb hK hP 2 1 (hW_w_3.al tX_2) rfl (in_I i_x45_3 (by decide)) dX0_write_73 ?_
              refine tol (v := v_2) ((congrFun ((hs_w_3.hL (by decide)).trans (hM_w45.hL (by decide))) _).trans ((congrFun (hM_w45.hL (by decide)) _).symm.trans ev_2.symm)) ?_
              refine lv_iload hx hb dX0_write_74 (lv_at hl 4 rfl) ?_
              refine kW_i ⟨rfl, rfl⟩ hP hD hS hA (rW_N (As := [.long v_2, .int x45_4]) (rest := [.ref (q 102)]) hx hb hml hown hts hK hE hP hD (k_X11_letterOf l D cI cJ cZ q bb bs bp w_3 hW_w_3 v_2 x45_4 _) ⟨⟨rfl, rfl⟩, rfl, rfl⟩ hE.2 ⟨⟨wd_902, wd_1, wd_903⟩, sv_X11_150.2⟩ ⟨(Nat.le_trans (by decide) hR.1), (Nat.le_trans (by decide) hR.2)⟩ rfl hl.1 rfl (Nat.le_of_ble_eq_true rfl) dX0_write_76) (fun r_7 w_6 H locs hw_w_6 hP hD hS => ?_)
              obtain ⟨hW_w_6, hs_w_6, i_r_7⟩ := hw_w_6
              refine kW_v ⟨rfl, rfl⟩ hP hD hS hA (rW_V (As := [.int r_7]) (rest := []) hx hb hml hown hts hK hE hP hD (k_X0_put l D cI cJ cZ q bb bs bp w_6 hW_w_6 r_7 i_r_7 _) ⟨⟨rfl, rfl⟩, rfl, rfl⟩ sv_X0_93 ⟨(Nat.le_trans (by decide) hR.1), (Nat.le_trans (by decide) hR.2)⟩ 102 0 (hW_w_6.o tX_102) rfl rfl rfl hl.1 rfl (Nat.le_of_ble_eq_true rfl) dX0_write_79) (fun w_8 H locs hw_w_8 hP hD hS => ?_)
              obtain ⟨hW_w_8, hs_w_8, h_10⟩ := hw_w_8
              refine lv_iinc (v := (x45_4 + 1)) (lv' := [(4, .int (x45_4 + 1)), (0, .ref (q 102)), (1, .int p1), (2, .ref (q 1)), (3, .int x7_3)]) hx hb dX0_write_82 hl (k := 4) rfl (rfl) (by decide) rfl (fun ls hl => ?_)
              refine lv_goto (tgt := 45) hx hb dX0_write_85 (by decide) ?_
              exact ih45 (x45_4 + 1) w_8 _ _ ls (mu_inc hmu45 (R_nle_r (In_lit (n := 8) (by decide) (by decide) : In 8 8 8) i_x45_4 c_1 (by decide) : In 0 7 x45_4) (In_lit (n := 1) (by decide) (by decide) : In 1 1 1) (by decide)) hW_w_8 (((hM_w45.tr hs_w_3 (by decide)).tr hs_w_6 (by decide)).tr hs_w_8 (by decide)) i_x45_3 (In_w ((In_add (y := 1) (R_nle_r (In_lit (n := 8) (by decide) (by decide) : In 8 8 8) i_x45_4 c_1 (by decide) : In 0 7 x45_4) (In_lit (n := 1) (by decide) (by decide) : In 1 1 1) (by decide)) : In 1 8 (x45_4 + 1)) (by decide) : In 0 8 (x45_4 + 1)) (In_of ((hs_w_8.gI (by decide)).trans ((hs_w_6.gI (by decide)).trans ((hs_w_3.gI (by decide)).trans (hM_w45.gI (by decide))))) (In_of (hM_w45.gI (by decide)).symm g45_1_0)) hP hD hS (lv_sub hl [1, 2, 3, 4, 0] rfl)
      have J42 : ∀ (w42 : va_W) (H : Heap) (locs : List Loc) (ls : Array Slot), HT q (TX q cI cJ cZ bb bs bp) w42 → Sm [102, 108] [(102, 10)] w w42 → (In 0 9 x7_3) → (In 1 10 (fI w42 1 0)) → va_P D vwCl w42 H → va_D A w42 → va_S A s.heap H locs → lv_has ls 5 [(0, .ref (q 102)), (1, .int p1), (2, .ref (q 1)), (3, .int x7_3)] → W p l e R s m args below meth c H locs 0 0 Q (F0 m 42 ls []) := by
        intro w42 H locs ls hW_w42 hM_w42 i_x42_3 g42_1_0 hP hD hS hl
        refine lv_iconst (v := 0) hx hb dX0_write_42 (by decide) ?_
        refine lv_istore (lv' := [(4, .int 0), (0, .ref (q 102)), (1, .int p1), (2, .ref (q 1)), (3, .int x7_3)]) hx hb dX0_write_43 hl (by decide) rfl (fun ls hl => ?_)
        exact J45 _ 0 w42 _ _ ls (Nat.lt_succ_self _) hW_w42 hM_w42 i_x42_3 (In_lit (n := 0) (by decide) (by decide) : In 0 8 0) (In_of (hM_w42.gI (by decide)) (In_of (hM_w42.gI (by decide)).symm g42_1_0)) hP hD hS (lv_sub hl [1, 2, 3, 4, 0] rfl)
      refine lv_iload_n hx hb dX0_write_7 rfl (lv_at hl 3 rfl) ?_
      refine lv_aload_n hx hb dX0_write_8 rfl (lv_at hl 2 rfl) ?_
      refine gt_X1 hx hb hts hown hK hP 1 (hW_w7.o tX_1) 0 (by decide) wd_38 rfl (hW_w7.fi tX_1 rfl) dX0_write_9 ?_
      refine tov (v := (fI w 1 0)) (hM_w7.gI (by decide)) ?_
      refine lv_icmp_ge (tgt := 94) hx hb dX0_write_12 (by decide) (fun c_11 => ?_) (fun c_11 => ?_)
      · refine lv_aload_n hx hb dX0_write_94 rfl (lv_at hl 0 rfl) ?_
        refine lv_bipush (v := 46) hx hb dX0_write_95 (by decide) ?_
        refine kW_v ⟨rfl, rfl⟩ hP hD hS hA (rW_V (As := [.int 46]) (rest := []) hx hb hml hown hts hK hE hP hD (k_X0_put l D cI cJ cZ q bb bs bp w7 hW_w7 46 (In_lit (n := 46) (by decide) (by decide) : In (-1) 127 46) _) ⟨⟨rfl, rfl⟩, rfl, rfl⟩ sv_X0_93 ⟨(Nat.le_trans (by decide) hR.1), (Nat.le_trans (by decide) hR.2)⟩ 102 0 (hW_w7.o tX_102) rfl rfl rfl hl.1 rfl (Nat.le_of_ble_eq_true rfl) dX0_write_97) (fun w_12 H locs hw_w_12 hP hD hS => ?_)
        obtain ⟨hW_w_12, hs_w_12, h_14⟩ := hw_w_12
        refine lv_aload_n hx hb dX0_write_100 rfl (lv_at hl 0 rfl) ?_
        refine gt_X0 hx hb hts hown hK hP 102 (hW_w_12.o tX_102) 10 (by decide) wd_648 rfl (hW_w_12.fi tX_102 rfl) dX0_write_101 ?_
        exact hret _ _ _ _ _ _ hP hD hS dX0_write_104 ⟨hW_w_12, (hM_w7.tr hs_w_12 (by decide)), h_14, h_14⟩
      · refine lv_iload_n hx hb dX0_write_15 rfl (lv_at hl 1 rfl) ?_
        refine lv_iload_n hx hb dX0_write_16 rfl (lv_at hl 3 rfl) ?_
        refine lv_ishr hx hb dX0_write_17 ?_
        refine lv_topi (fun v_15 ev_15 => ?_)
        refine lv_iconst (v := 1) hx hb dX0_write_18 (by decide) ?_
        refine lv_iand hx hb dX0_write_19 ?_
        refine lv_if_eq (tgt := 88) hx hb dX0_write_20 (by decide) (fun c_16 => ?_) (fun c_16 => ?_)
        · exact J88 w7 _ _ ls hW_w7 hM_w7 (R_nle_r (hW_w.fin tX_1 rfl : In 0 10 (fI w 1 0)) i_x7_3 c_11 (by decide) : In 0 9 x7_3) (In_of (hM_w7.gI (by decide)) (R_nle_l (hW_w.fin tX_1 rfl : In 0 10 (fI w 1 0)) i_x7_3 c_11 (by decide) : In 1 10 (fI w 1 0))) hP hD hS (lv_sub hl [0, 1, 2, 3] rfl)
        · refine lv_aload_n hx hb dX0_write_23 rfl (lv_at hl 0 rfl) ?_
          refine gt_X0 hx hb hts hown hK hP 102 (hW_w7.o tX_102) 10 (by decide) wd_648 rfl (hW_w7.fi tX_102 rfl) dX0_write_24 ?_
          refine lv_if_le (tgt := 42) hx hb dX0_write_27 (by decide) (fun c_17 => ?_) (fun c_17 => ?_)
          · exact J42 w7 _ _ ls hW_w7 hM_w7 (R_nle_r (hW_w.fin tX_1 rfl : In 0 10 (fI w 1 0)) i_x7_3 c_11 (by decide) : In 0 9 x7_3) (In_of (hM_w7.gI (by decide)) (R_nle_l (hW_w.fin tX_1 rfl : In 0 10 (fI w 1 0)) i_x7_3 c_11 (by decide) : In 1 10 (fI w 1 0))) hP hD hS (lv_sub hl [0, 1, 2, 3] rfl)
          · refine lv_aload_n hx hb dX0_write_30 rfl (lv_at hl 0 rfl) ?_
            refine lv_bipush (v := 44) hx hb dX0_write_31 (by decide) ?_
            refine kW_v ⟨rfl, rfl⟩ hP hD hS hA (rW_V (As := [.int 44]) (rest := []) hx hb hml hown hts hK hE hP hD (k_X0_put l D cI cJ cZ q bb bs bp w7 hW_w7 44 (In_lit (n := 44) (by decide) (by decide) : In (-1) 127 44) _) ⟨⟨rfl, rfl⟩, rfl, rfl⟩ sv_X0_93 ⟨(Nat.le_trans (by decide) hR.1), (Nat.le_trans (by decide) hR.2)⟩ 102 0 (hW_w7.o tX_102) rfl rfl rfl hl.1 rfl (Nat.le_of_ble_eq_true rfl) dX0_write_33) (fun w_18 H locs hw_w_18 hP hD hS => ?_)
            obtain ⟨hW_w_18, hs_w_18, h_20⟩ := hw_w_18
            refine lv_aload_n hx hb dX0_write_36 rfl (lv_at hl 0 rfl) ?_
            refine lv_bipush (v := 32) hx hb dX0_write_37 (by decide) ?_
            refine kW_v ⟨rfl, rfl⟩ hP hD hS hA (rW_V (As := [.int 32]) (rest := []) hx hb hml hown hts hK hE hP hD (k_X0_put l D cI cJ cZ q bb bs bp w_18 hW_w_18 32 (In_lit (n := 32) (by decide) (by decide) : In (-1) 127 32) _) ⟨⟨rfl, rfl⟩, rfl, rfl⟩ sv_X0_93 ⟨(Nat.le_trans (by decide) hR.1), (Nat.le_trans (by decide) hR.2)⟩ 102 0 (hW_w_18.o tX_102) rfl rfl rfl hl.1 rfl (Nat.le_of_ble_eq_true rfl) dX0_write_39) (fun w_21 H locs hw_w_21 hP hD hS => ?_)
            obtain ⟨hW_w_21, hs_w_21, h_23⟩ := hw_w_21
            exact J42 w_21 _ _ ls hW_w_21 ((hM_w7.tr hs_w_18 (by decide)).tr hs_w_21 (by decide)) (R_nle_r (hW_w.fin tX_1 rfl : In 0 10 (fI w 1 0)) i_x7_3 c_11 (by decide) : In 0 9 x7_3) (In_of ((hs_w_21.gI (by decide)).trans ((hs_w_18.gI (by decide)).trans (hM_w7.gI (by decide)))) (R_nle_l (hW_w.fin tX_1 rfl : In 0 10 (fI w 1 0)) i_x7_3 c_11 (by decide) : In 1 10 (fI w 1 0))) hP hD hS (lv_sub hl [0, 1, 2, 3] rfl)
  refine lv_aload_n hx hb dX0_write_0 rfl (lv_at hl 0 rfl) ?_
  refine lv_iconst (v := 0) hx hb dX0_write_1 (by decide) ?_
  refine pt_X0 hx hb hts hown hK hP hD hS 102 (hW_w.o tX_102) 10 (by decide) wd_648 rfl rfl (ty := .int) (v := .int 0) (by decide +kernel) rfl rfl (hW_w.ll tX_102 (Nat.le_of_ble_eq_true rfl)) dX0_write_2 (fun H locs hP hD hS => fr_w (hW_w.sI tX_102 rfl (In_lit (n := 0) (by decide) (by decide) : In 0 100 0)) hP hD (fun w_24 ew_24 hW_w_24 hP hD => ?_))
  refine lv_iconst (v := 0) hx hb dX0_write_5 (by decide) ?_
  refine lv_istore_n (lv' := [(3, .int 0), (0, .ref (q 102)), (1, .int p1), (2, .ref (q 1))]) hx hb dX0_write_6 rfl hl (by decide) rfl (fun ls hl => ?_)
  exact J7 _ 0 w_24 _ _ ls (Nat.lt_succ_self _) hW_w_24 (Sm.rf.sf (hW_w.lt tX_102) ew_24 (by decide)) (In_lit (n := 0) (by decide) (by decide) : In 0 10 0) hP hD hS (lv_sub hl [1, 2, 3, 0] rfl)
set_option maxRecDepth 100000 in
set_option maxHeartbeats 8000000 in
theorem k_X11_label (l : Launch) (D : va_G) (cI cJ cZ : ClassId) (q : Nat → Nat) (bp : Nat) (w : va_W) (hW_w : HT q (TX q cI cJ cZ 1 16 bp) w) (p1 : Int32) : Con_i l yX11_label cX11_label 2 (some .int) ({ frames := 2, cells := 0, slots := 0, locals := 47 }) D cI cJ cZ eW [.ref (q 0), .int p1] w (fun (r : Int32) (w1 : va_W) => HT q (TX q cI cJ cZ 1 16 bp) w1 ∧ Sm [102, 108] [(102, 10)] w w1 ∧ In (-1) 100 r) := by
  refine eQ_i rfl (by decide) (Nat.le_of_ble_eq_true rfl) ⟨rfl, rfl⟩ ?_
  intro p e R s m args below meth c A Q hx hb hml hown hts hK hE hA hR hret hP hD hS ls hl
  have hown : s.vm.findClass RX11 = some m.cls := hown
  have hl : lv_has ls 2 [(0, .ref (q 0)), (1, .int p1)] := hl
  refine lv_aload_n hx hb dX11_label_0 rfl (lv_at hl 0 rfl) ?_
  refine gt_X11 hx hb hts hown hK hP 0 (hW_w.o tX_0) 10 (by decide) wd_683 rfl (hW_w.fr tX_0 rfl) dX11_label_1 ?_
  refine lv_iload_n hx hb dX11_label_4 rfl (lv_at hl 1 rfl) ?_
  refine kW_i ⟨rfl, rfl⟩ hP hD hS hA (rW_V (As := [.int p1]) (rest := []) hx hb hml hown hts hK hE hP hD (k_X4_isChild l D cI cJ cZ q 1 16 bp w hW_w p1 _) ⟨⟨rfl, rfl⟩, rfl, rfl⟩ sv_X11_279 ⟨(Nat.le_trans (by decide) hR.1), (Nat.le_trans (by decide) hR.2)⟩ 88 4 (hW_w.o tX_88) rfl rfl rfl hl.1 rfl (Nat.le_of_ble_eq_true rfl) dX11_label_5) (fun r_2 w_1 H locs hw_w_1 hP hD hS => ?_)
  obtain ⟨hW_w_1, hs_w_1, i_r_2, h_3⟩ := hw_w_1
  refine lv_if_eq (tgt := 23) hx hb dX11_label_8 (by decide) (fun c_4 => ?_) (fun c_4 => ?_)
  · refine lv_iconst (v := (-1)) hx hb dX11_label_23 (by decide) ?_
    exact hret _ _ _ _ _ _ hP hD hS dX11_label_24 ⟨hW_w_1, (Sm.rf.tr hs_w_1 (by decide)), (In_lit (n := (-1)) (by decide) (by decide) : In (-1) 100 (-1))⟩
  · refine lv_aload_n hx hb dX11_label_11 rfl (lv_at hl 0 rfl) ?_
    refine gt_X11 hx hb hts hown hK hP 0 (hW_w_1.o tX_0) 10 (by decide) wd_683 rfl (hW_w_1.fr tX_0 rfl) dX11_label_12 ?_
    refine gt_X4 hx hb hts hown hK hP 88 (hW_w_1.o tX_88) 8 (by decide) wd_580 rfl (hW_w_1.fr tX_88 rfl) dX11_label_15 ?_
    refine lv_iload_n hx hb dX11_label_18 rfl (lv_at hl 1 rfl) ?_
    refine va_iald hx hb hK hP 95 0 (hW_w_1.a tX_95) rfl (in_I (h_3 c_4) (by decide)) dX11_label_19 ?_
    refine lv_topi (fun v_5 ev_5 => ?_)
    refine lv_if_ne (tgt := 25) hx hb dX11_label_20 (by decide) (fun c_6 => ?_) (fun c_6 => ?_)
    · refine lv_aload_n hx hb dX11_label_25 rfl (lv_at hl 0 rfl) ?_
      refine gt_X11 hx hb hts hown hK hP 0 (hW_w_1.o tX_0) 11 (by decide) wd_684 rfl (hW_w_1.fr tX_0 rfl) dX11_label_26 ?_
      refine lv_aload_n hx hb dX11_label_29 rfl (lv_at hl 0 rfl) ?_
      refine gt_X11 hx hb hts hown hK hP 0 (hW_w_1.o tX_0) 10 (by decide) wd_683 rfl (hW_w_1.fr tX_0 rfl) dX11_label_30 ?_
      refine gt_X4 hx hb hts hown hK hP 88 (hW_w_1.o tX_88) 8 (by decide) wd_580 rfl (hW_w_1.fr tX_88 rfl) dX11_label_33 ?_
      refine lv_iload_n hx hb dX11_label_36 rfl (lv_at hl 1 rfl) ?_
      refine va_iald hx hb hK hP 95 0 (hW_w_1.a tX_95) rfl (in_I (h_3 c_4) (by decide)) dX11_label_37 ?_
      refine tov (v := v_5) ((congrFun (hs_w_1.hA (by decide)) _).trans ((congrFun (hs_w_1.hA (by decide)) _).symm.trans ev_5.symm)) ?_
      refine lv_aload_n hx hb dX11_label_38 rfl (lv_at hl 0 rfl) ?_
      refine gt_X11 hx hb hts hown hK hP 0 (hW_w_1.o tX_0) 0 (by decide) wd_673 rfl (hW_w_1.fr tX_0 rfl) dX11_label_39 ?_
      refine kW_i ⟨rfl, rfl⟩ hP hD hS hA (rW_V (As := [.int v_5, .ref (q 1)]) (rest := []) hx hb hml hown hts hK hE hP hD (k_X0_write_1 l D cI cJ cZ q 1 16 bp w_1 hW_w_1 v_5 _) ⟨⟨rfl, rfl⟩, rfl, rfl⟩ sv_X11_338 ⟨(Nat.le_trans (by decide) hR.1), (Nat.le_trans (by decide) hR.2)⟩ 102 0 (hW_w_1.o tX_102) rfl rfl rfl hl.1 rfl (Nat.le_of_ble_eq_true rfl) dX11_label_42) (fun r_8 w_7 H locs hw_w_7 hP hD hS => ?_)
      obtain ⟨hW_w_7, hs_w_7, i_r_8, h_9⟩ := hw_w_7
      exact hret _ _ _ _ _ _ hP hD hS dX11_label_45 ⟨hW_w_7, ((Sm.rf.tr hs_w_1 (by decide)).tr hs_w_7 (by decide)), (In_w i_r_8 (by decide) : In (-1) 100 r_8)⟩
    · refine lv_iconst (v := (-1)) hx hb dX11_label_23 (by decide) ?_
      exact hret _ _ _ _ _ _ hP hD hS dX11_label_24 ⟨hW_w_1, (Sm.rf.tr hs_w_1 (by decide)), (In_lit (n := (-1)) (by decide) (by decide) : In (-1) 100 (-1))⟩
set_option maxRecDepth 100000 in
set_option maxHeartbeats 8000000 in
theorem k_X11_at (l : Launch) (D : va_G) (cI cJ cZ : ClassId) (q : Nat → Nat) (bp : Nat) (w : va_W) (hW_w : HT q (TX q cI cJ cZ 1 16 bp) w) (p1 : Int32) : Con_i l yX11_at cX11_at 2 (some .int) ({ frames := 0, cells := 0, slots := 0, locals := 0 }) D cI cJ cZ eW [.ref (q 0), .int p1] w (fun (r : Int32) (w1 : va_W) => HT q (TX q cI cJ cZ 1 16 bp) w1 ∧ Sm [] [] w w1) := by
  refine eQ_i rfl (by decide) (Nat.le_of_ble_eq_true rfl) ⟨rfl, rfl⟩ ?_
  intro p e R s m args below meth c A Q hx hb hml hown hts hK hE hA hR hret hP hD hS ls hl
  have hown : s.vm.findClass RX11 = some m.cls := hown
  have hl : lv_has ls 2 [(0, .ref (q 0)), (1, .int p1)] := hl
  refine lv_iload_n hx hb dX11_at_0 rfl (lv_at hl 1 rfl) ?_
  refine lv_if_lt (tgt := 27) hx hb dX11_at_1 (by decide) (fun c_1 => ?_) (fun c_1 => ?_)
  · refine lv_iconst (v := (-1)) hx hb dX11_at_27 (by decide) ?_
    exact hret _ _ _ _ _ _ hP hD hS dX11_at_28 ⟨hW_w, Sm.rf⟩
  · refine lv_iload_n hx hb dX11_at_4 rfl (lv_at hl 1 rfl) ?_
    refine lv_aload_n hx hb dX11_at_5 rfl (lv_at hl 0 rfl) ?_
    refine gt_X11 hx hb hts hown hK hP 0 (hW_w.o tX_0) 11 (by decide) wd_684 rfl (hW_w.fr tX_0 rfl) dX11_at_6 ?_
    refine gt_X0 hx hb hts hown hK hP 102 (hW_w.o tX_102) 10 (by decide) wd_649 rfl (hW_w.fi tX_102 rfl) dX11_at_9 ?_
    refine lv_icmp_ge (tgt := 27) hx hb dX11_at_12 (by decide) (fun c_2 => ?_) (fun c_2 => ?_)
    · refine lv_iconst (v := (-1)) hx hb dX11_at_27 (by decide) ?_
      exact hret _ _ _ _ _ _ hP hD hS dX11_at_28 ⟨hW_w, Sm.rf⟩
    · refine lv_aload_n hx hb dX11_at_15 rfl (lv_at hl 0 rfl) ?_
      refine gt_X11 hx hb hts hown hK hP 0 (hW_w.o tX_0) 11 (by decide) wd_684 rfl (hW_w.fr tX_0 rfl) dX11_at_16 ?_
      refine gt_X0 hx hb hts hown hK hP 102 (hW_w.o tX_102) 9 (by decide) wd_647 rfl (hW_w.fr tX_102 rfl) dX11_at_19 ?_
      refine lv_iload_n hx hb dX11_at_22 rfl (lv_at hl 1 rfl) ?_
      refine va_iald hx hb hK hP 108 0 (hW_w.a tX_108) rfl (in_I (R_nle_r (hW_w.fin tX_102 rfl : In 0 100 (fI w 102 10)) (R_nlt_l (In_any _) (In_lit (n := 0) (by decide) (by decide) : In 0 0 0) c_1 (by decide) : In 0 2147483647 p1) c_2 (by decide) : In 0 99 p1) (by decide)) dX11_at_23 ?_
      refine lv_topi (fun v_3 ev_3 => ?_)
      refine lv_goto (tgt := 28) hx hb dX11_at_24 (by decide) ?_
      exact hret _ _ _ _ _ _ hP hD hS dX11_at_28 ⟨hW_w, Sm.rf⟩
