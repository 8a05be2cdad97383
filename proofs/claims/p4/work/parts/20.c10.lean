set_option maxRecDepth 100000 in
set_option maxHeartbeats 8000000 in
theorem k_X2_settle (l : Launch) (D : va_G) (cI cJ cZ : ClassId) (q : Nat → Nat) (bb bs bp : Nat) (w : va_W) (hW_w : HT q (TX q cI cJ cZ bb bs bp) w) (p1 : Int32) (p2 : Int32) (p3 : Int32) (p4 : Int64) (i_p1 : In (-2) 39 p1) (i_p2 : In 0 9 p2) (i_p3 : In 0 23 p3) (hf_64_0 : In 1 10 (fI w 64 0)) (hf_64_1 : In 1 40 (fI w 64 1)) (hf_64_2 : In 1 24 (fI w 64 2)) : Con_v l yX2_settle cX2_settle 9 none ({ frames := 1, cells := 0, slots := 0, locals := 22 }) D cI cJ cZ eW [.ref (q 74), .int p1, .int p2, .int p3, .long p4] w (fun (w1 : va_W) => HT q (TX q cI cJ cZ bb bs bp) w1 ∧ Sm [74, 75, 76, 77, 78, 79, 80] [(74, 10)] w w1 ∧ ((∀ f, FI f w → FL w → ((aL w 75 p1.toNatClampNeg).toInt < FARz ∧ p4.toInt < FARz ∧ 0 ≤ p1.toInt ∧ p3.toInt < (fI w 64 2).toInt) → FI f w1 ∧ Mo w w1))) := by
  refine eQ_v rfl (by decide) (Nat.le_of_ble_eq_true rfl) ⟨rfl, rfl⟩ ?_
  intro p e R s m args below meth c A Q hx hb hml hown hts hK hE hA hR hret hP hD hS ls hl
  have hown : s.vm.findClass RX2 = some m.cls := hown
  have hl : lv_has ls 9 [(0, .ref (q 74)), (1, .int p1), (2, .int p2), (3, .int p3), (4, .long p4)] := hl
  have F_w : ∀ f, FI f w → FL w → ((aL w 75 p1.toNatClampNeg).toInt < FARz ∧ p4.toInt < FARz ∧ 0 ≤ p1.toInt ∧ p3.toInt < (fI w 64 2).toInt) → FI f w ∧ Mo w w := fun f h1 h2 h3 => ⟨h1, Mo.rf⟩
  have J36 : ∀ (N : Nat) (x36_6 : Int32) (w36 : va_W) (H : Heap) (locs : List Loc) (ls : Array Slot), (40 - x36_6.toInt).toNat < N → HT q (TX q cI cJ cZ bb bs bp) w36 → Sm [74, 75, 76, 77, 78, 79, 80] [(74, 10)] w w36 → (In (-2) 39 p1) → (In 0 9 p2) → (In 0 23 p3) → (In 0 40 x36_6) → (In 1 10 (fI w36 64 0)) → (In 1 40 (fI w36 64 1)) → (In 1 24 (fI w36 64 2)) → (∀ f, FI f w → FL w → ((aL w 75 p1.toNatClampNeg).toInt < FARz ∧ p4.toInt < FARz ∧ 0 ≤ p1.toInt ∧ p3.toInt < (fI w 64 2).toInt) → FI f w36 ∧ Mo w w36) → (aL w36 77 ((p2 * 24) + p3).toNatClampNeg = p4) → ((aF w 66 p3.toNatClampNeg).toInt ≤ (x36_6 : Int32).toInt) → va_P D vwCl w36 H → va_D A w36 → va_S A s.heap H locs → lv_has ls 9 [(0, .ref (q 74)), (1, .int p1), (2, .int p2), (3, .int p3), (4, .long p4), (6, .int x36_6)] → W p l e R s m args below meth c H locs 0 0 Q (F0 m 36 ls []) := by
    intro N
    induction N with
    | zero => intro x36_6 w36 H locs ls hmu; exact absurd hmu (Nat.not_lt_zero _)
    | succ N ih36 =>
      intro x36_6 w36 H locs ls hmu36 hW_w36 hM_w36 i_x36_1 i_x36_2 i_x36_3 i_x36_6 g36_64_0 g36_64_1 g36_64_2 hF_36 hk_36 hm_36 hP hD hS hl
      have J121 : ∀ (w121 : va_W) (H : Heap) (locs : List Loc) (ls : Array Slot), HT q (TX q cI cJ cZ bb bs bp) w121 → Sm [74, 75, 76, 77, 78, 79, 80] [(74, 10)] w w121 → (In (-2) 39 p1) → (In 0 9 p2) → (In 0 23 p3) → (In 0 39 x36_6) → (In 1 10 (fI w121 64 0)) → (In 1 40 (fI w121 64 1)) → (In 1 24 (fI w121 64 2)) → (∀ f, FI f w → FL w → ((aL w 75 p1.toNatClampNeg).toInt < FARz ∧ p4.toInt < FARz ∧ 0 ≤ p1.toInt ∧ p3.toInt < (fI w 64 2).toInt) → FI f w121 ∧ Mo w w121) → (aL w121 77 ((p2 * 24) + p3).toNatClampNeg = p4) → ((aF w 66 p3.toNatClampNeg).toInt ≤ (x36_6 : Int32).toInt) → va_P D vwCl w121 H → va_D A w121 → va_S A s.heap H locs → lv_has ls 9 [(0, .ref (q 74)), (1, .int p1), (2, .int p2), (3, .int p3), (4, .long p4), (6, .int x36_6)] → W p l e R s m args below meth c H locs 0 0 Q (F0 m 121 ls []) := by
        intro w121 H locs ls hW_w121 hM_w121 i_x121_1 i_x121_2 i_x121_3 i_x121_6 g121_64_0 g121_64_1 g121_64_2 hF_121 hk_121 hm_121 hP hD hS hl
        refine lv_iinc (v := (x36_6 + 1)) (lv' := [(6, .int (x36_6 + 1)), (0, .ref (q 74)), (1, .int p1), (2, .int p2), (3, .int p3), (4, .long p4)]) hx hb dX2_settle_121 hl (k := 5) rfl (rfl) (by decide) rfl (fun ls hl => ?_)
        refine lv_goto (tgt := 36) hx hb dX2_settle_124 (by decide) ?_
        exact ih36 (x36_6 + 1) w121 _ _ ls (mu_inc hmu36 i_x121_6 (In_lit (n := 1) (by decide) (by decide) : In 1 1 1) (by decide)) hW_w121 hM_w121 i_p1 i_p2 i_p3 (In_w ((In_add (y := 1) i_x121_6 (In_lit (n := 1) (by decide) (by decide) : In 1 1 1) (by decide)) : In 1 40 (x36_6 + 1)) (by decide) : In 0 40 (x36_6 + 1)) (In_of (hM_w121.gI (by decide)) (In_of (hM_w121.gI (by decide)).symm g121_64_0)) (In_of (hM_w121.gI (by decide)) (In_of (hM_w121.gI (by decide)).symm g121_64_1)) (In_of (hM_w121.gI (by decide)) (In_of (hM_w121.gI (by decide)).symm g121_64_2)) (fun f h1 h2 h3 => (hF_121 f h1 h2 h3)) hk_121 (by have t11 := t_add i_x121_6 (In_lit (n := 1) (by decide) (by decide) : In 1 1 1) (by decide); have z1 : (1 : Int32).toInt = 1 := (by decide); omega) hP hD hS (lv_sub hl [1, 2, 3, 4, 5, 0] rfl)
      refine lv_iload hx hb dX2_settle_36 (lv_at hl 5 rfl) ?_
      refine lv_aload_n hx hb dX2_settle_38 rfl (lv_at hl 0 rfl) ?_
      refine gt_X2 hx hb hts hown hK hP 74 (hW_w36.o tX_74) 0 (by decide) wd_467 rfl (hW_w36.fr tX_74 rfl) dX2_settle_39 ?_
      refine gt_X3 hx hb hts hown hK hP 64 (hW_w36.o tX_64) 4 (by decide) wd_414 rfl (hW_w36.fr tX_64 rfl) dX2_settle_42 ?_
      refine lv_iload_n hx hb dX2_settle_45 rfl (lv_at hl 3 rfl) ?_
      refine lv_iconst (v := 1) hx hb dX2_settle_46 (by decide) ?_
      refine lv_iadd hx hb dX2_settle_47 ?_
      refine va_iald hx hb hK hP 66 0 (hW_w36.a tX_66) rfl (in_I ((In_add i_p3 (In_lit (n := 1) (by decide) (by decide) : In 1 1 1) (by decide)) : In 1 24 (p3 + 1)) (by decide)) dX2_settle_48 ?_
      refine lv_topi (fun v_1 ev_1 => ?_)
      refine lv_icmp_ge (tgt := 127) hx hb dX2_settle_49 (by decide) (fun c_2 => ?_) (fun c_2 => ?_)
      · have lb_c_2 : (v_1 : Int32).toInt ≤ (x36_6 : Int32).toInt := q_le.mp c_2
        exact hret _ _ _ _ _ hP hD hS dX2_settle_127 ⟨hW_w36, hM_w36, (fun f h1 h2 h3 => (hF_36 f h1 h2 h3))⟩
      · have lb_c_2 : ¬ (v_1 : Int32).toInt ≤ (x36_6 : Int32).toInt := fun h => c_2 (q_le.mpr h)
        refine lv_aload_n hx hb dX2_settle_52 rfl (lv_at hl 0 rfl) ?_
        refine gt_X2 hx hb hts hown hK hP 74 (hW_w36.o tX_74) 0 (by decide) wd_467 rfl (hW_w36.fr tX_74 rfl) dX2_settle_53 ?_
        refine gt_X3 hx hb hts hown hK hP 64 (hW_w36.o tX_64) 8 (by decide) wd_428 rfl (hW_w36.fr tX_64 rfl) dX2_settle_56 ?_
        refine lv_iload hx hb dX2_settle_59 (lv_at hl 5 rfl) ?_
        refine va_iald hx hb hK hP 70 0 (hW_w36.a tX_70) rfl (in_I (R_nle_r (In_of ev_1 (hW_w36.ap tX_66 _) : In 0 40 v_1) i_x36_6 c_2 (by decide) : In 0 39 x36_6) (by decide)) dX2_settle_61 ?_
        refine lv_topi (fun v_3 ev_3 => ?_)
        refine lv_iload_n hx hb dX2_settle_62 rfl (lv_at hl 2 rfl) ?_
        refine lv_ishr hx hb dX2_settle_63 ?_
        refine lv_topi (fun v_4 ev_4 => ?_)
        refine lv_iconst (v := 1) hx hb dX2_settle_64 (by decide) ?_
        refine lv_iand hx hb dX2_settle_65 ?_
        refine lv_if_eq (tgt := 121) hx hb dX2_settle_66 (by decide) (fun c_5 => ?_) (fun c_5 => ?_)
        · exact J121 w36 _ _ ls hW_w36 hM_w36 i_p1 i_p2 i_p3 (R_nle_r (In_of ev_1 (hW_w36.ap tX_66 _) : In 0 40 v_1) i_x36_6 c_2 (by decide) : In 0 39 x36_6) (In_of (hM_w36.gI (by decide)) (In_of (hM_w36.gI (by decide)).symm g36_64_0)) (In_of (hM_w36.gI (by decide)) (In_of (hM_w36.gI (by decide)).symm g36_64_1)) (In_of (hM_w36.gI (by decide)) (In_of (hM_w36.gI (by decide)).symm g36_64_2)) (fun f h1 h2 h3 => (hF_36 f h1 h2 h3)) hk_36 (by omega) hP hD hS (lv_sub hl [0, 1, 2, 3, 4, 5] rfl)
        · refine lv_lload hx hb dX2_settle_69 (lv_at hl 4 rfl) ?_
          refine lv_aload_n hx hb dX2_settle_71 rfl (lv_at hl 0 rfl) ?_
          refine gt_X2 hx hb hts hown hK hP 74 (hW_w36.o tX_74) 0 (by decide) wd_467 rfl (hW_w36.fr tX_74 rfl) dX2_settle_72 ?_
          refine lv_iload hx hb dX2_settle_75 (lv_at hl 5 rfl) ?_
          refine lv_iload_n hx hb dX2_settle_77 rfl (lv_at hl 2 rfl) ?_
          refine kW_i ⟨rfl, rfl⟩ hP hD hS hA (rW_V (As := [.int x36_6, .int p2]) (rest := [.long p4]) hx hb hml hown hts hK hE hP hD (k_X3_pointsOf l D cI cJ cZ q bb bs bp w36 hW_w36 x36_6 p2 (R_nle_r (In_of ev_1 (hW_w36.ap tX_66 _) : In 0 40 v_1) i_x36_6 c_2 (by decide) : In 0 39 x36_6) i_p2 (In_of (hM_w36.gI (by decide)) (In_of (hM_w36.gI (by decide)).symm g36_64_0)) (In_of (hM_w36.gI (by decide)) (In_of (hM_w36.gI (by decide)).symm g36_64_1)) (In_of (hM_w36.gI (by decide)) (In_of (hM_w36.gI (by decide)).symm g36_64_2)) _) ⟨⟨rfl, rfl⟩, rfl, rfl⟩ sv_X2_111 ⟨(Nat.le_trans (by decide) hR.1), (Nat.le_trans (by decide) hR.2)⟩ 64 3 (hW_w36.o tX_64) rfl rfl rfl hl.1 rfl (Nat.le_of_ble_eq_true rfl) dX2_settle_78) (fun r_7 w_6 H locs hw_w_6 hP hD hS => ?_)
          obtain ⟨hW_w_6, hs_w_6⟩ := hw_w_6
          refine lv_i2l hx hb dX2_settle_81 rfl ?_
          refine lv_topl (fun v_8 ev_8 => ?_)
          refine lv_ladd hx hb dX2_settle_82 ?_
          refine lv_topl (fun v_9 ev_9 => ?_)
          refine lv_lstore (lv' := [(7, .long v_9), (0, .ref (q 74)), (1, .int p1), (2, .int p2), (3, .int p3), (4, .long p4), (6, .int x36_6)]) hx hb dX2_settle_83 hl (by decide) rfl (fun ls hl => ?_)
          refine lv_lload hx hb dX2_settle_85 (lv_at hl 0 rfl) ?_
          refine lv_aload_n hx hb dX2_settle_87 rfl (lv_at hl 1 rfl) ?_
          refine gt_X2 hx hb hts hown hK hP 74 (hW_w_6.o tX_74) 1 (by decide) wd_468 rfl (hW_w_6.fr tX_74 rfl) dX2_settle_88 ?_
          refine lv_iload hx hb dX2_settle_91 (lv_at hl 6 rfl) ?_
          refine va_lald hx hb hK hP 75 1 (hW_w_6.al tX_75) rfl (in_I (R_nle_r (In_of ev_1 (hW_w36.ap tX_66 _) : In 0 40 v_1) i_x36_6 c_2 (by decide) : In 0 39 x36_6) (by decide)) dX2_settle_93 ?_
          refine lv_topl (fun v_10 ev_10 => ?_)
          refine W.lcmp hx hb dX2_settle_94 ?_
          refine lv_topi (fun v_11 ev_11 => ?_)
          refine lv_if_ge (tgt := 121) hx hb dX2_settle_95 (by decide) (fun c_12 => ?_) (fun c_12 => ?_)
          · have ll_c_12 := lc_all ev_11
            have li_c_12 : (0 : Int32).toInt ≤ (v_11 : Int32).toInt := q_le.mp c_12
            have lz_c_12 : (0 : Int32).toInt = 0 := by decide
            exact J121 w_6 _ _ ls hW_w_6 (hM_w36.tr hs_w_6 (by decide)) i_p1 i_p2 i_p3 (R_nle_r (In_of ev_1 (hW_w36.ap tX_66 _) : In 0 40 v_1) i_x36_6 c_2 (by decide) : In 0 39 x36_6) (In_of ((hs_w_6.gI (by decide)).trans (hM_w36.gI (by decide))) (In_of (hM_w36.gI (by decide)).symm g36_64_0)) (In_of ((hs_w_6.gI (by decide)).trans (hM_w36.gI (by decide))) (In_of (hM_w36.gI (by decide)).symm g36_64_1)) (In_of ((hs_w_6.gI (by decide)).trans (hM_w36.gI (by decide))) (In_of (hM_w36.gI (by decide)).symm g36_64_2)) (fun f h1 h2 h3 => (⟨(FI_cg (hs_w_6.hL (by decide)) (hs_w_6.hL (by decide)) (hs_w_6.hA (by decide)) (hs_w_6.hA (by decide)) (hs_w_6.hA (by decide)) (hs_w_6.hA (by decide)) (hs_w_6.gI (by decide)) (hs_w_6.gI (by decide)) (hs_w_6.gI (by decide)) (hF_36 f h1 h2 h3).1), (hF_36 f h1 h2 h3).2.cg (hs_w_6.hL (by decide))⟩ : FI f w_6 ∧ Mo w w_6)) ((congrFun (hs_w_6.hL (by decide)) _).trans hk_36) (by omega) hP hD hS (lv_sub hl [1, 2, 3, 4, 5, 6] rfl)
          · have ll_c_12 := lc_all ev_11
            have li_c_12 : ¬ (0 : Int32).toInt ≤ (v_11 : Int32).toInt := fun h => c_12 (q_le.mpr h)
            have lz_c_12 : (0 : Int32).toInt = 0 := by decide
            refine lv_aload_n hx hb dX2_settle_98 rfl (lv_at hl 1 rfl) ?_
            refine gt_X2 hx hb hts hown hK hP 74 (hW_w_6.o tX_74) 1 (by decide) wd_468 rfl (hW_w_6.fr tX_74 rfl) dX2_settle_99 ?_
            refine lv_iload hx hb dX2_settle_102 (lv_at hl 6 rfl) ?_
            refine lv_lload hx hb dX2_settle_104 (lv_at hl 0 rfl) ?_
            refine va_last hx hb hK hP hD hS 75 1 (hW_w_6.al tX_75) rfl (in_I (R_nle_r (In_of ev_1 (hW_w36.ap tX_66 _) : In 0 40 v_1) i_x36_6 c_2 (by decide) : In 0 39 x36_6) (by decide)) dX2_settle_106 (fun H locs hP hD hS => fr_w (hW_w_6.uL tX_75) hP hD (fun w_13 ew_13 hW_w_13 hP hD => ?_))
            refine lv_aload_n hx hb dX2_settle_107 rfl (lv_at hl 1 rfl) ?_
            refine gt_X2 hx hb hts hown hK hP 74 (hW_w_13.o tX_74) 2 (by decide) wd_470 rfl (hW_w_13.fr tX_74 rfl) dX2_settle_108 ?_
            refine lv_iload hx hb dX2_settle_111 (lv_at hl 6 rfl) ?_
            refine lv_iload_n hx hb dX2_settle_113 rfl (lv_at hl 3 rfl) ?_
            refine va_iast hx hb hK hP hD hS 76 0 (hW_w_13.a tX_76) rfl (in_I (R_nle_r (In_of ev_1 (hW_w36.ap tX_66 _) : In 0 40 v_1) i_x36_6 c_2 (by decide) : In 0 39 x36_6) (by decide)) dX2_settle_114 (fun H locs hP hD hS => fr_w (hW_w_13.uA tX_76 i_p2) hP hD (fun w_14 ew_14 hW_w_14 hP hD => ?_))
            have SL_w_14 : FL w → p3.toInt < (fI w 64 2).toInt → (aF w 65 x36_6.toNatClampNeg).toNatClampNeg = p3.toNatClampNeg ∧ x36_6.toInt < (fI w 64 1).toInt := fun hf hs => FL_slot hf i_p3 hs (R_nle_r (In_of ev_1 (hW_w36.ap tX_66 _) : In 0 40 v_1) i_x36_6 c_2 (by decide) : In 0 39 x36_6) rfl ((congrFun (hM_w36.hA (by decide)) _).symm.trans ev_1.symm).symm hm_36 (by omega) rfl
            have RC_w_14 : ∀ f, FI f w → FL w → ((aL w 75 p1.toNatClampNeg).toInt < FARz ∧ p4.toInt < FARz ∧ 0 ≤ p1.toInt ∧ p3.toInt < (fI w 64 2).toInt) → (aL w_14 75 x36_6.toNatClampNeg).toInt < FARz := fun f h1 h2 h3 => by have a := (⟨(FI_cg (hs_w_6.hL (by decide)) (hs_w_6.hL (by decide)) (hs_w_6.hA (by decide)) (hs_w_6.hA (by decide)) (hs_w_6.hA (by decide)) (hs_w_6.hA (by decide)) (hs_w_6.gI (by decide)) (hs_w_6.gI (by decide)) (hs_w_6.gI (by decide)) (hF_36 f h1 h2 h3).1), (hF_36 f h1 h2 h3).2.cg (hs_w_6.hL (by decide))⟩ : FI f w_6 ∧ Mo w w_6); have s0 : (v_9 : Int64).toInt < FARz := (by have d := a.1.2.2.1 x36_6.toNatClampNeg (by have q := nat_of (n := 39) (R_nle_r (In_of ev_1 (hW_w36.ap tX_66 _) : In 0 40 v_1) i_x36_6 c_2 (by decide) : In 0 39 x36_6); omega); have e : (v_10 : Int64).toInt = (aL w_6 75 x36_6.toNatClampNeg).toInt := congrArg Int64.toInt ev_10; omega); rw [show aL w_14 75 x36_6.toNatClampNeg = v_9 from (congrFun (aL_cg (st_ne ew_14 (by decide))) _).trans (updL_at (by rw [aL_eq (hW_w_6.lt tX_75) ew_13]))]; exact s0
            have F_w_14 : ∀ f, FI f w → FL w → ((aL w 75 p1.toNatClampNeg).toInt < FARz ∧ p4.toInt < FARz ∧ 0 ≤ p1.toInt ∧ p3.toInt < (fI w 64 2).toInt) → FI f w_14 ∧ Mo w w_14 := fun f h1 h2 h3 => by have a := (⟨(FI_cg (hs_w_6.hL (by decide)) (hs_w_6.hL (by decide)) (hs_w_6.hA (by decide)) (hs_w_6.hA (by decide)) (hs_w_6.hA (by decide)) (hs_w_6.hA (by decide)) (hs_w_6.gI (by decide)) (hs_w_6.gI (by decide)) (hs_w_6.gI (by decide)) (hF_36 f h1 h2 h3).1), (hF_36 f h1 h2 h3).2.cg (hs_w_6.hL (by decide))⟩ : FI f w_6 ∧ Mo w w_6); have b := FI_row (n := x36_6.toNatClampNeg) (k := p2) (t := v_9) (by have g := SL_w_14 h2 h3.2.2.2; have k := ((congrFun (hs_w_6.hL (by decide)) _).trans hk_36); have e := (ix24 i_p2 i_p3); rw [show aF w_6 65 = aF w 65 from ((hs_w_6.hA (by decide)).trans (hM_w36.hA (by decide))), g.1, ← e.1, k]; exact h3.2.1) (by rw [(aL_cg (st_ne ew_14 (by decide))), aL_eq (hW_w_6.lt tX_75) ew_13]) ((aL_cg (st_ne ew_14 (by decide))).trans (aL_cg (st_ne ew_13 (by decide)))) ((aF_cg (st_ne ew_14 (by decide))).trans (aF_cg (st_ne ew_13 (by decide)))) (by rw [aF_eq (hW_w_13.lt tX_76) ew_14, (aF_cg (st_ne ew_13 (by decide)))]) ((aF_cg (st_ne ew_14 (by decide))).trans (aF_cg (st_ne ew_13 (by decide)))) ((aF_cg (st_ne ew_14 (by decide))).trans (aF_cg (st_ne ew_13 (by decide)))) ((fI_cg (st_ne ew_14 (by decide))).trans (fI_cg (st_ne ew_13 (by decide)))) ((fI_cg (st_ne ew_14 (by decide))).trans (fI_cg (st_ne ew_13 (by decide)))) ((fI_cg (st_ne ew_14 (by decide))).trans (fI_cg (st_ne ew_13 (by decide)))) (by have d := a.1.2.2.1 x36_6.toNatClampNeg (by have q := nat_of (n := 39) (R_nle_r (In_of ev_1 (hW_w36.ap tX_66 _) : In 0 40 v_1) i_x36_6 c_2 (by decide) : In 0 39 x36_6); omega); have e : (v_10 : Int64).toInt = (aL w_6 75 x36_6.toNatClampNeg).toInt := congrArg Int64.toInt ev_10; omega) a.1; exact ⟨b.1, a.2.tr b.2⟩
            refine lv_aload_n hx hb dX2_settle_115 rfl (lv_at hl 1 rfl) ?_
            refine lv_iload hx hb dX2_settle_116 (lv_at hl 6 rfl) ?_
            refine kW_v ⟨rfl, rfl⟩ hP hD hS hA (rW_V (As := [.int x36_6]) (rest := []) hx hb hml hown hts hK hE hP hD (k_X2_enqueue l D cI cJ cZ q bb bs bp w_14 hW_w_14 x36_6 (R_nle_r (In_of ev_1 (hW_w36.ap tX_66 _) : In 0 40 v_1) i_x36_6 c_2 (by decide) : In 0 39 x36_6) (In_of ((fI_cg (st_ne ew_14 (by decide))).trans ((fI_cg (st_ne ew_13 (by decide))).trans ((hs_w_6.gI (by decide)).trans (hM_w36.gI (by decide))))) (In_of (hM_w36.gI (by decide)).symm g36_64_1)) (In_of ((fI_cg (st_ne ew_14 (by decide))).trans ((fI_cg (st_ne ew_13 (by decide))).trans ((hs_w_6.gI (by decide)).trans (hM_w36.gI (by decide))))) (In_of (hM_w36.gI (by decide)).symm g36_64_2)) _) ⟨⟨rfl, rfl⟩, rfl, rfl⟩ sv_X2_59 ⟨(Nat.le_trans (by decide) hR.1), (Nat.le_trans (by decide) hR.2)⟩ 74 2 (hW_w_14.o tX_74) rfl rfl rfl hl.1 rfl (Nat.le_of_ble_eq_true rfl) dX2_settle_118) (fun w_15 H locs hw_w_15 hP hD hS => ?_)
            obtain ⟨hW_w_15, hs_w_15, h_17⟩ := hw_w_15
            have F_w_15 : ∀ f, FI f w → FL w → ((aL w 75 p1.toNatClampNeg).toInt < FARz ∧ p4.toInt < FARz ∧ 0 ≤ p1.toInt ∧ p3.toInt < (fI w 64 2).toInt) → FI f w_15 ∧ Mo w w_15 := fun f h1 h2 h3 => by have a := (F_w_14 f h1 h2 h3); have b := h_17 f a.1 (FL_cg ((fI_cg (st_ne ew_14 (by decide))).trans ((fI_cg (st_ne ew_13 (by decide))).trans ((hs_w_6.gI (by decide)).trans (hM_w36.gI (by decide))))) ((fI_cg (st_ne ew_14 (by decide))).trans ((fI_cg (st_ne ew_13 (by decide))).trans ((hs_w_6.gI (by decide)).trans (hM_w36.gI (by decide))))) ((aF_cg (st_ne ew_14 (by decide))).trans ((aF_cg (st_ne ew_13 (by decide))).trans ((hs_w_6.hA (by decide)).trans (hM_w36.hA (by decide))))) ((aF_cg (st_ne ew_14 (by decide))).trans ((aF_cg (st_ne ew_13 (by decide))).trans ((hs_w_6.hA (by decide)).trans (hM_w36.hA (by decide))))) ((aF_cg (st_ne ew_14 (by decide))).trans ((aF_cg (st_ne ew_13 (by decide))).trans ((hs_w_6.hA (by decide)).trans (hM_w36.hA (by decide))))) h2) ⟨RC_w_14 f h1 h2 h3, (by have g := (SL_w_14 h2 h3.2.2.2).2; have e : (fI w_14 64 1).toInt = (fI w 64 1).toInt := congrArg Int32.toInt ((fI_cg (st_ne ew_14 (by decide))).trans ((fI_cg (st_ne ew_13 (by decide))).trans ((hs_w_6.gI (by decide)).trans (hM_w36.gI (by decide))))); omega)⟩; exact ⟨b.1, a.2.tr b.2⟩
            exact J121 w_15 _ _ ls hW_w_15 ((((hM_w36.tr hs_w_6 (by decide)).sa ew_13 (by decide)).sa ew_14 (by decide)).tr hs_w_15 (by decide)) i_p1 i_p2 i_p3 (R_nle_r (In_of ev_1 (hW_w36.ap tX_66 _) : In 0 40 v_1) i_x36_6 c_2 (by decide) : In 0 39 x36_6) (In_of ((hs_w_15.gI (by decide)).trans ((fI_cg (st_ne ew_14 (by decide))).trans ((fI_cg (st_ne ew_13 (by decide))).trans ((hs_w_6.gI (by decide)).trans (hM_w36.gI (by decide)))))) (In_of (hM_w36.gI (by decide)).symm g36_64_0)) (In_of ((hs_w_15.gI (by decide)).trans ((fI_cg (st_ne ew_14 (by decide))).trans ((fI_cg (st_ne ew_13 (by decide))).trans ((hs_w_6.gI (by decide)).trans (hM_w36.gI (by decide)))))) (In_of (hM_w36.gI (by decide)).symm g36_64_1)) (In_of ((hs_w_15.gI (by decide)).trans ((fI_cg (st_ne ew_14 (by decide))).trans ((fI_cg (st_ne ew_13 (by decide))).trans ((hs_w_6.gI (by decide)).trans (hM_w36.gI (by decide)))))) (In_of (hM_w36.gI (by decide)).symm g36_64_2)) (fun f h1 h2 h3 => (F_w_15 f h1 h2 h3)) ((congrFun ((hs_w_15.hL (by decide)).trans ((aL_cg (st_ne ew_14 (by decide))).trans ((aL_cg (st_ne ew_13 (by decide))).trans (hs_w_6.hL (by decide))))) _).trans hk_36) (by omega) hP hD hS (lv_sub hl [1, 2, 3, 4, 5, 6] rfl)
  refine lv_aload_n hx hb dX2_settle_0 rfl (lv_at hl 0 rfl) ?_
  refine gt_X2 hx hb hts hown hK hP 74 (hW_w.o tX_74) 3 (by decide) wd_471 rfl (hW_w.fr tX_74 rfl) dX2_settle_1 ?_
  refine lv_iload_n hx hb dX2_settle_4 rfl (lv_at hl 2 rfl) ?_
  refine lv_bipush (v := 24) hx hb dX2_settle_5 (by decide) ?_
  refine lv_imul hx hb dX2_settle_7 ?_
  refine lv_iload_n hx hb dX2_settle_8 rfl (lv_at hl 3 rfl) ?_
  refine lv_iadd hx hb dX2_settle_9 ?_
  refine lv_lload hx hb dX2_settle_10 (lv_at hl 4 rfl) ?_
  refine va_last hx hb hK hP hD hS 77 1 (hW_w.al tX_77) rfl (in_I ((In_add ((In_mulr i_p2 (n := 24) (by decide) (by decide)) : In 0 216 (p2 * 24)) i_p3 (by decide)) : In 0 239 ((p2 * 24) + p3)) (by decide)) dX2_settle_12 (fun H locs hP hD hS => fr_w (hW_w.uL tX_77) hP hD (fun w_18 ew_18 hW_w_18 hP hD => ?_))
  refine lv_aload_n hx hb dX2_settle_13 rfl (lv_at hl 0 rfl) ?_
  refine gt_X2 hx hb hts hown hK hP 74 (hW_w_18.o tX_74) 4 (by decide) wd_473 rfl (hW_w_18.fr tX_74 rfl) dX2_settle_14 ?_
  refine lv_iload_n hx hb dX2_settle_17 rfl (lv_at hl 2 rfl) ?_
  refine lv_bipush (v := 24) hx hb dX2_settle_18 (by decide) ?_
  refine lv_imul hx hb dX2_settle_20 ?_
  refine lv_iload_n hx hb dX2_settle_21 rfl (lv_at hl 3 rfl) ?_
  refine lv_iadd hx hb dX2_settle_22 ?_
  refine lv_iload_n hx hb dX2_settle_23 rfl (lv_at hl 1 rfl) ?_
  refine va_iast hx hb hK hP hD hS 78 0 (hW_w_18.a tX_78) rfl (in_I ((In_add ((In_mulr i_p2 (n := 24) (by decide) (by decide)) : In 0 216 (p2 * 24)) i_p3 (by decide)) : In 0 239 ((p2 * 24) + p3)) (by decide)) dX2_settle_24 (fun H locs hP hD hS => fr_w (hW_w_18.uA tX_78 i_p1) hP hD (fun w_19 ew_19 hW_w_19 hP hD => ?_))
  have F_w_19 : ∀ f, FI f w → FL w → ((aL w 75 p1.toNatClampNeg).toInt < FARz ∧ p4.toInt < FARz ∧ 0 ≤ p1.toInt ∧ p3.toInt < (fI w 64 2).toInt) → FI f w_19 ∧ Mo w w_19 := fun f h1 h2 h3 => ⟨FI_key (ix24 i_p2 i_p3).2 ((aL_cg (st_ne ew_19 (by decide))).trans (aL_cg (st_ne ew_18 (by decide)))) (by rw [(aL_cg (st_ne ew_19 (by decide))), aL_eq (hW_w.lt tX_77) ew_18]) (by rw [aF_eq (hW_w_18.lt tX_78) ew_19, (aF_cg (st_ne ew_18 (by decide)))]) ((aF_cg (st_ne ew_19 (by decide))).trans (aF_cg (st_ne ew_18 (by decide)))) ((aF_cg (st_ne ew_19 (by decide))).trans (aF_cg (st_ne ew_18 (by decide)))) ((aF_cg (st_ne ew_19 (by decide))).trans (aF_cg (st_ne ew_18 (by decide)))) ((fI_cg (st_ne ew_19 (by decide))).trans (fI_cg (st_ne ew_18 (by decide)))) ((fI_cg (st_ne ew_19 (by decide))).trans (fI_cg (st_ne ew_18 (by decide)))) ((fI_cg (st_ne ew_19 (by decide))).trans (fI_cg (st_ne ew_18 (by decide)))) h3.2.2.1 h3.1 h3.2.1 h1, Mo.rf.cg ((aL_cg (st_ne ew_19 (by decide))).trans (aL_cg (st_ne ew_18 (by decide))))⟩
  have K_w_19 : aL w_19 77 ((p2 * 24) + p3).toNatClampNeg = p4 := updL_at (by rw [(aL_cg (st_ne ew_19 (by decide))), aL_eq (hW_w.lt tX_77) ew_18])
  refine lv_aload_n hx hb dX2_settle_25 rfl (lv_at hl 0 rfl) ?_
  refine gt_X2 hx hb hts hown hK hP 74 (hW_w_19.o tX_74) 0 (by decide) wd_467 rfl (hW_w_19.fr tX_74 rfl) dX2_settle_26 ?_
  refine gt_X3 hx hb hts hown hK hP 64 (hW_w_19.o tX_64) 4 (by decide) wd_414 rfl (hW_w_19.fr tX_64 rfl) dX2_settle_29 ?_
  refine lv_iload_n hx hb dX2_settle_32 rfl (lv_at hl 3 rfl) ?_
  refine va_iald hx hb hK hP 66 0 (hW_w_19.a tX_66) rfl (in_I i_p3 (by decide)) dX2_settle_33 ?_
  refine lv_topi (fun v_20 ev_20 => ?_)
  refine lv_istore (lv' := [(6, .int v_20), (0, .ref (q 74)), (1, .int p1), (2, .int p2), (3, .int p3), (4, .long p4)]) hx hb dX2_settle_34 hl (by decide) rfl (fun ls hl => ?_)
  exact J36 _ v_20 w_19 _ _ ls (Nat.lt_succ_self _) hW_w_19 ((Sm.rf.sa ew_18 (by decide)).sa ew_19 (by decide)) i_p1 i_p2 i_p3 (In_of ev_20 (hW_w_19.ap tX_66 _) : In 0 40 v_20) (In_of ((fI_cg (st_ne ew_19 (by decide))).trans (fI_cg (st_ne ew_18 (by decide)))) hf_64_0) (In_of ((fI_cg (st_ne ew_19 (by decide))).trans (fI_cg (st_ne ew_18 (by decide)))) hf_64_1) (In_of ((fI_cg (st_ne ew_19 (by decide))).trans (fI_cg (st_ne ew_18 (by decide)))) hf_64_2) (fun f h1 h2 h3 => (F_w_19 f h1 h2 h3)) K_w_19 (by have q := congrArg Int32.toInt (ev_20.trans (congrFun ((aF_cg (st_ne ew_19 (by decide))).trans (aF_cg (st_ne ew_18 (by decide)))) _)); omega) hP hD hS (lv_sub hl [1, 2, 3, 4, 5, 0] rfl)
set_option maxRecDepth 100000 in
set_option maxHeartbeats 8000000 in
theorem k_X2_want (l : Launch) (D : va_G) (cI cJ cZ : ClassId) (q : Nat → Nat) (bb bs bp : Nat) (w : va_W) (hW_w : HT q (TX q cI cJ cZ bb bs bp) w) (p1 : Int32) (p2 : Int32) (p3 : Int32) (p4 : Int64) (i_p1 : In (-2) 39 p1) (i_p2 : In 0 9 p2) (i_p3 : In 0 23 p3) (hf_64_0 : In 1 10 (fI w 64 0)) (hf_64_1 : In 1 40 (fI w 64 1)) (hf_64_2 : In 1 24 (fI w 64 2)) : Con_v l yX2_want cX2_want 8 none ({ frames := 2, cells := 0, slots := 0, locals := 50 }) D cI cJ cZ eW [.ref (q 74), .int p1, .int p2, .int p3, .long p4] w (fun (w1 : va_W) => HT q (TX q cI cJ cZ bb bs bp) w1 ∧ Sm [74, 75, 76, 77, 78, 79, 80] [(74, 10)] w w1 ∧ ((∀ f, FI f w → FL w → ((aL w 75 p1.toNatClampNeg).toInt < FARz ∧ 0 ≤ p1.toInt ∧ p3.toInt < (fI w 64 2).toInt) → FI f w1 ∧ Mo w w1))) := by
  refine eQ_v rfl (by decide) (Nat.le_of_ble_eq_true rfl) ⟨rfl, rfl⟩ ?_
  intro p e R s m args below meth c A Q hx hb hml hown hts hK hE hA hR hret hP hD hS ls hl
  have hown : s.vm.findClass RX2 = some m.cls := hown
  have hl : lv_has ls 8 [(0, .ref (q 74)), (1, .int p1), (2, .int p2), (3, .int p3), (4, .long p4)] := hl
  have F_w : ∀ f, FI f w → FL w → ((aL w 75 p1.toNatClampNeg).toInt < FARz ∧ 0 ≤ p1.toInt ∧ p3.toInt < (fI w 64 2).toInt) → FI f w ∧ Mo w w := fun f h1 h2 h3 => ⟨h1, Mo.rf⟩
  have J51 : ∀ (N : Nat) (x51_7 : Int32) (w51 : va_W) (H : Heap) (locs : List Loc) (ls : Array Slot), (24 - x51_7.toInt).toNat < N → HT q (TX q cI cJ cZ bb bs bp) w51 → Sm [74, 75, 76, 77, 78, 79, 80] [(74, 10)] w w51 → (In (-2) 39 p1) → (In 0 9 p2) → (In 0 23 p3) → (In 0 216 (p2 * 24)) → (In 1 24 x51_7) → (In 1 10 (fI w51 64 0)) → (In 1 40 (fI w51 64 1)) → (In 1 24 (fI w51 64 2)) → (∀ f, FI f w → FL w → ((aL w 75 p1.toNatClampNeg).toInt < FARz ∧ 0 ≤ p1.toInt ∧ p3.toInt < (fI w 64 2).toInt) → FI f w51 ∧ Mo w w51) → va_P D vwCl w51 H → va_D A w51 → va_S A s.heap H locs → lv_has ls 8 [(0, .ref (q 74)), (1, .int p1), (2, .int p2), (3, .int p3), (4, .long p4), (6, .int (p2 * 24)), (7, .int x51_7)] → W p l e R s m args below meth c H locs 0 0 Q (F0 m 51 ls []) := by
    intro N
    induction N with
    | zero => intro x51_7 w51 H locs ls hmu; exact absurd hmu (Nat.not_lt_zero _)
    | succ N ih51 =>
      intro x51_7 w51 H locs ls hmu51 hW_w51 hM_w51 i_x51_1 i_x51_2 i_x51_3 i_x51_6 i_x51_7 g51_64_0 g51_64_1 g51_64_2 hF_51 hP hD hS hl
      refine lv_iload hx hb dX2_want_51 (lv_at hl 6 rfl) ?_
      refine lv_aload_n hx hb dX2_want_53 rfl (lv_at hl 0 rfl) ?_
      refine gt_X2 hx hb hts hown hK hP 74 (hW_w51.o tX_74) 0 (by decide) wd_467 rfl (hW_w51.fr tX_74 rfl) dX2_want_54 ?_
      refine gt_X3 hx hb hts hown hK hP 64 (hW_w51.o tX_64) 2 (by decide) wd_408 rfl (hW_w51.fi tX_64 rfl) dX2_want_57 ?_
      refine tov (v := (fI w 64 2)) (hM_w51.gI (by decide)) ?_
      refine lv_icmp_ge (tgt := 113) hx hb dX2_want_60 (by decide) (fun c_1 => ?_) (fun c_1 => ?_)
      · have lb_c_1 : ((fI w 64 2) : Int32).toInt ≤ (x51_7 : Int32).toInt := q_le.mp c_1
        exact hret _ _ _ _ _ hP hD hS dX2_want_113 ⟨hW_w51, hM_w51, (fun f h1 h2 h3 => (hF_51 f h1 h2 h3))⟩
      · have lb_c_1 : ¬ ((fI w 64 2) : Int32).toInt ≤ (x51_7 : Int32).toInt := fun h => c_1 (q_le.mpr h)
        refine lv_aload_n hx hb dX2_want_63 rfl (lv_at hl 0 rfl) ?_
        refine gt_X2 hx hb hts hown hK hP 74 (hW_w51.o tX_74) 0 (by decide) wd_467 rfl (hW_w51.fr tX_74 rfl) dX2_want_64 ?_
        refine gt_X3 hx hb hts hown hK hP 64 (hW_w51.o tX_64) 11 (by decide) wd_434 rfl (hW_w51.fr tX_64 rfl) dX2_want_67 ?_
        refine lv_iload hx hb dX2_want_70 (lv_at hl 5 rfl) ?_
        refine lv_iload hx hb dX2_want_72 (lv_at hl 6 rfl) ?_
        refine lv_iadd hx hb dX2_want_74 ?_
        refine lv_iconst (v := 1) hx hb dX2_want_75 (by decide) ?_
        refine lv_isub hx hb dX2_want_76 ?_
        refine va_iald hx hb hK hP 73 0 (hW_w51.a tX_73) rfl (in_I ((In_sub ((In_add i_x51_6 (R_nle_r (In_of (hM_w51.gI (by decide)).symm g51_64_2) i_x51_7 c_1 (by decide) : In 1 23 x51_7) (by decide)) : In 1 239 ((p2 * 24) + x51_7)) (In_lit (n := 1) (by decide) (by decide) : In 1 1 1) (by decide)) : In 0 238 (((p2 * 24) + x51_7) - 1)) (by decide)) dX2_want_77 ?_
        refine lv_topi (fun v_2 ev_2 => ?_)
        refine lv_if_le (tgt := 113) hx hb dX2_want_78 (by decide) (fun c_3 => ?_) (fun c_3 => ?_)
        · exact hret _ _ _ _ _ hP hD hS dX2_want_113 ⟨hW_w51, hM_w51, (fun f h1 h2 h3 => (hF_51 f h1 h2 h3))⟩
        · refine lv_aload_n hx hb dX2_want_81 rfl (lv_at hl 0 rfl) ?_
          refine gt_X2 hx hb hts hown hK hP 74 (hW_w51.o tX_74) 3 (by decide) wd_471 rfl (hW_w51.fr tX_74 rfl) dX2_want_82 ?_
          refine lv_iload hx hb dX2_want_85 (lv_at hl 5 rfl) ?_
          refine lv_iload hx hb dX2_want_87 (lv_at hl 6 rfl) ?_
          refine lv_iadd hx hb dX2_want_89 ?_
          refine va_lald hx hb hK hP 77 1 (hW_w51.al tX_77) rfl (in_I ((In_add i_x51_6 (R_nle_r (In_of (hM_w51.gI (by decide)).symm g51_64_2) i_x51_7 c_1 (by decide) : In 1 23 x51_7) (by decide)) : In 1 239 ((p2 * 24) + x51_7)) (by decide)) dX2_want_90 ?_
          refine lv_topl (fun v_4 ev_4 => ?_)
          refine lv_lload hx hb dX2_want_91 (lv_at hl 4 rfl) ?_
          refine W.lcmp hx hb dX2_want_93 ?_
          refine lv_topi (fun v_5 ev_5 => ?_)
          refine lv_if_le (tgt := 113) hx hb dX2_want_94 (by decide) (fun c_6 => ?_) (fun c_6 => ?_)
          · have ll_c_6 := lc_all ev_5
            have li_c_6 : (v_5 : Int32).toInt ≤ (0 : Int32).toInt := q_le.mp c_6
            have lz_c_6 : (0 : Int32).toInt = 0 := by decide
            exact hret _ _ _ _ _ hP hD hS dX2_want_113 ⟨hW_w51, hM_w51, (fun f h1 h2 h3 => (hF_51 f h1 h2 h3))⟩
          · have ll_c_6 := lc_all ev_5
            have li_c_6 : ¬ (v_5 : Int32).toInt ≤ (0 : Int32).toInt := fun h => c_6 (q_le.mpr h)
            have lz_c_6 : (0 : Int32).toInt = 0 := by decide
            refine lv_aload_n hx hb dX2_want_97 rfl (lv_at hl 0 rfl) ?_
            refine lv_iload_n hx hb dX2_want_98 rfl (lv_at hl 1 rfl) ?_
            refine lv_iload_n hx hb dX2_want_99 rfl (lv_at hl 2 rfl) ?_
            refine lv_iload hx hb dX2_want_100 (lv_at hl 6 rfl) ?_
            refine lv_lload hx hb dX2_want_102 (lv_at hl 4 rfl) ?_
            refine kW_v ⟨rfl, rfl⟩ hP hD hS hA (rW_V (As := [.int p1, .int p2, .int x51_7, .long p4]) (rest := []) hx hb hml hown hts hK hE hP hD (k_X2_settle l D cI cJ cZ q bb bs bp w51 hW_w51 p1 p2 x51_7 p4 i_p1 i_p2 (In_w (R_nle_r (In_of (hM_w51.gI (by decide)).symm g51_64_2) i_x51_7 c_1 (by decide) : In 1 23 x51_7) (by decide) : In 0 23 x51_7) (In_of (hM_w51.gI (by decide)) (In_of (hM_w51.gI (by decide)).symm g51_64_0)) (In_of (hM_w51.gI (by decide)) (In_of (hM_w51.gI (by decide)).symm g51_64_1)) (In_of (hM_w51.gI (by decide)) (In_w (R_nle_l (In_of (hM_w51.gI (by decide)).symm g51_64_2) i_x51_7 c_1 (by decide) : In 2 24 (fI w 64 2)) (by decide) : In 1 24 (fI w 64 2))) _) ⟨⟨rfl, rfl⟩, rfl, rfl⟩ sv_X2_119 ⟨(Nat.le_trans (by decide) hR.1), (Nat.le_trans (by decide) hR.2)⟩ 74 2 (hW_w51.o tX_74) rfl rfl rfl hl.1 rfl (Nat.le_of_ble_eq_true rfl) dX2_want_104) (fun w_7 H locs hw_w_7 hP hD hS => ?_)
            obtain ⟨hW_w_7, hs_w_7, h_9⟩ := hw_w_7
            have F_w_7 : ∀ f, FI f w → FL w → ((aL w 75 p1.toNatClampNeg).toInt < FARz ∧ 0 ≤ p1.toInt ∧ p3.toInt < (fI w 64 2).toInt) → FI f w_7 ∧ Mo w w_7 := fun f h1 h2 h3 => by have a := (hF_51 f h1 h2 h3); have b := h_9 f a.1 (FL_cg (hM_w51.gI (by decide)) (hM_w51.gI (by decide)) (hM_w51.hA (by decide)) (hM_w51.hA (by decide)) (hM_w51.hA (by decide)) h2) ⟨a.2 _ h3.1, (by have d := a.1.2.2.2.1 ((p2 * 24) + x51_7).toNatClampNeg (by have q := nat_of (n := 239) (In_w ((In_add i_x51_6 (R_nle_r (In_of (hM_w51.gI (by decide)).symm g51_64_2) i_x51_7 c_1 (by decide) : In 1 23 x51_7) (by decide)) : In 1 239 ((p2 * 24) + x51_7)) (by decide) : In 0 239 ((p2 * 24) + x51_7)); omega); have e : (v_4 : Int64).toInt = (aL w51 77 ((p2 * 24) + x51_7).toNatClampNeg).toInt := congrArg Int64.toInt ev_4; omega), h3.2.1, (by have e : (fI w51 64 2).toInt = (fI w 64 2).toInt := congrArg Int32.toInt (hM_w51.gI (by decide)); have g := h3.2.2; omega)⟩; exact ⟨b.1, a.2.tr b.2⟩
            refine lv_iinc (v := (x51_7 + 1)) (lv' := [(7, .int (x51_7 + 1)), (0, .ref (q 74)), (1, .int p1), (2, .int p2), (3, .int p3), (4, .long p4), (6, .int (p2 * 24))]) hx hb dX2_want_107 hl (k := 6) rfl (rfl) (by decide) rfl (fun ls hl => ?_)
            refine lv_goto (tgt := 51) hx hb dX2_want_110 (by decide) ?_
            exact ih51 (x51_7 + 1) w_7 _ _ ls (mu_inc hmu51 (R_nle_r (In_of (hM_w51.gI (by decide)).symm g51_64_2) i_x51_7 c_1 (by decide) : In 1 23 x51_7) (In_lit (n := 1) (by decide) (by decide) : In 1 1 1) (by decide)) hW_w_7 (hM_w51.tr hs_w_7 (by decide)) i_p1 i_p2 i_p3 i_x51_6 (In_w ((In_add (y := 1) (R_nle_r (In_of (hM_w51.gI (by decide)).symm g51_64_2) i_x51_7 c_1 (by decide) : In 1 23 x51_7) (In_lit (n := 1) (by decide) (by decide) : In 1 1 1) (by decide)) : In 2 24 (x51_7 + 1)) (by decide) : In 1 24 (x51_7 + 1)) (In_of ((hs_w_7.gI (by decide)).trans (hM_w51.gI (by decide))) (In_of (hM_w51.gI (by decide)).symm g51_64_0)) (In_of ((hs_w_7.gI (by decide)).trans (hM_w51.gI (by decide))) (In_of (hM_w51.gI (by decide)).symm g51_64_1)) (In_of ((hs_w_7.gI (by decide)).trans (hM_w51.gI (by decide))) (In_w (R_nle_l (In_of (hM_w51.gI (by decide)).symm g51_64_2) i_x51_7 c_1 (by decide) : In 2 24 (fI w 64 2)) (by decide) : In 1 24 (fI w 64 2))) (fun f h1 h2 h3 => (F_w_7 f h1 h2 h3)) hP hD hS (lv_sub hl [1, 2, 3, 4, 5, 6, 0] rfl)
  have J46 : ∀ (x46_7 : Int32) (w46 : va_W) (H : Heap) (locs : List Loc) (ls : Array Slot), HT q (TX q cI cJ cZ bb bs bp) w46 → Sm [74, 75, 76, 77, 78, 79, 80] [(74, 10)] w w46 → (In (-2) 39 p1) → (In 0 9 p2) → (In 0 23 p3) → (In 0 216 (p2 * 24)) → (In (-1) 23 x46_7) → (In 1 10 (fI w46 64 0)) → (In 1 40 (fI w46 64 1)) → (In 1 24 (fI w46 64 2)) → (∀ f, FI f w → FL w → ((aL w 75 p1.toNatClampNeg).toInt < FARz ∧ 0 ≤ p1.toInt ∧ p3.toInt < (fI w 64 2).toInt) → FI f w46 ∧ Mo w w46) → va_P D vwCl w46 H → va_D A w46 → va_S A s.heap H locs → lv_has ls 8 [(0, .ref (q 74)), (1, .int p1), (2, .int p2), (3, .int p3), (4, .long p4), (6, .int (p2 * 24)), (7, .int x46_7)] → W p l e R s m args below meth c H locs 0 0 Q (F0 m 46 ls []) := by
    intro x46_7 w46 H locs ls hW_w46 hM_w46 i_x46_1 i_x46_2 i_x46_3 i_x46_6 i_x46_7 g46_64_0 g46_64_1 g46_64_2 hF_46 hP hD hS hl
    refine lv_iload_n hx hb dX2_want_46 rfl (lv_at hl 3 rfl) ?_
    refine lv_iconst (v := 1) hx hb dX2_want_47 (by decide) ?_
    refine lv_iadd hx hb dX2_want_48 ?_
    refine lv_istore (lv' := [(7, .int (p3 + 1)), (0, .ref (q 74)), (1, .int p1), (2, .int p2), (3, .int p3), (4, .long p4), (6, .int (p2 * 24))]) hx hb dX2_want_49 hl (by decide) rfl (fun ls hl => ?_)
    exact J51 _ (p3 + 1) w46 _ _ ls (Nat.lt_succ_self _) hW_w46 hM_w46 i_p1 i_p2 i_p3 i_x46_6 ((In_add i_p3 (In_lit (n := 1) (by decide) (by decide) : In 1 1 1) (by decide)) : In 1 24 (p3 + 1)) (In_of (hM_w46.gI (by decide)) (In_of (hM_w46.gI (by decide)).symm g46_64_0)) (In_of (hM_w46.gI (by decide)) (In_of (hM_w46.gI (by decide)).symm g46_64_1)) (In_of (hM_w46.gI (by decide)) (In_of (hM_w46.gI (by decide)).symm g46_64_2)) (fun f h1 h2 h3 => (hF_46 f h1 h2 h3)) hP hD hS (lv_sub hl [1, 2, 3, 4, 5, 6, 0] rfl)
  have J9 : ∀ (N : Nat) (x9_7 : Int32) (w9 : va_W) (H : Heap) (locs : List Loc) (ls : Array Slot), (x9_7.toInt - (-1)).toNat < N → HT q (TX q cI cJ cZ bb bs bp) w9 → Sm [74, 75, 76, 77, 78, 79, 80] [(74, 10)] w w9 → (In (-2) 39 p1) → (In 0 9 p2) → (In 0 23 p3) → (In 0 216 (p2 * 24)) → (In (-1) 23 x9_7) → (In 1 10 (fI w9 64 0)) → (In 1 40 (fI w9 64 1)) → (In 1 24 (fI w9 64 2)) → (∀ f, FI f w → FL w → ((aL w 75 p1.toNatClampNeg).toInt < FARz ∧ 0 ≤ p1.toInt ∧ p3.toInt < (fI w 64 2).toInt) → FI f w9 ∧ Mo w w9) → ((x9_7 : Int32).toInt ≤ p3.toInt) → va_P D vwCl w9 H → va_D A w9 → va_S A s.heap H locs → lv_has ls 8 [(0, .ref (q 74)), (1, .int p1), (2, .int p2), (3, .int p3), (4, .long p4), (6, .int (p2 * 24)), (7, .int x9_7)] → W p l e R s m args below meth c H locs 0 0 Q (F0 m 9 ls []) := by
    intro N
    induction N with
    | zero => intro x9_7 w9 H locs ls hmu; exact absurd hmu (Nat.not_lt_zero _)
    | succ N ih9 =>
      intro x9_7 w9 H locs ls hmu9 hW_w9 hM_w9 i_x9_1 i_x9_2 i_x9_3 i_x9_6 i_x9_7 g9_64_0 g9_64_1 g9_64_2 hF_9 hv_9 hP hD hS hl
      refine lv_iload hx hb dX2_want_9 (lv_at hl 6 rfl) ?_
      refine lv_if_lt (tgt := 46) hx hb dX2_want_11 (by decide) (fun c_10 => ?_) (fun c_10 => ?_)
      · exact J46 x9_7 w9 _ _ ls hW_w9 hM_w9 i_p1 i_p2 i_p3 i_x9_6 (In_w (R_lt_l i_x9_7 (In_lit (n := 0) (by decide) (by decide) : In 0 0 0) c_10 (by decide) : In (-1) (-1) x9_7) (by decide) : In (-1) 23 x9_7) (In_of (hM_w9.gI (by decide)) (In_of (hM_w9.gI (by decide)).symm g9_64_0)) (In_of (hM_w9.gI (by decide)) (In_of (hM_w9.gI (by decide)).symm g9_64_1)) (In_of (hM_w9.gI (by decide)) (In_of (hM_w9.gI (by decide)).symm g9_64_2)) (fun f h1 h2 h3 => (hF_9 f h1 h2 h3)) hP hD hS (lv_sub hl [0, 1, 2, 3, 4, 5, 6] rfl)
      · refine lv_aload_n hx hb dX2_want_14 rfl (lv_at hl 0 rfl) ?_
        refine gt_X2 hx hb hts hown hK hP 74 (hW_w9.o tX_74) 3 (by decide) wd_471 rfl (hW_w9.fr tX_74 rfl) dX2_want_15 ?_
        refine lv_iload hx hb dX2_want_18 (lv_at hl 5 rfl) ?_
        refine lv_iload hx hb dX2_want_20 (lv_at hl 6 rfl) ?_
        refine lv_iadd hx hb dX2_want_22 ?_
        refine va_lald hx hb hK hP 77 1 (hW_w9.al tX_77) rfl (in_I ((In_add i_x9_6 (R_nlt_l i_x9_7 (In_lit (n := 0) (by decide) (by decide) : In 0 0 0) c_10 (by decide) : In 0 23 x9_7) (by decide)) : In 0 239 ((p2 * 24) + x9_7)) (by decide)) dX2_want_23 ?_
        refine lv_topl (fun v_11 ev_11 => ?_)
        refine lv_lload hx hb dX2_want_24 (lv_at hl 4 rfl) ?_
        refine W.lcmp hx hb dX2_want_26 ?_
        refine lv_topi (fun v_12 ev_12 => ?_)
        refine lv_if_le (tgt := 46) hx hb dX2_want_27 (by decide) (fun c_13 => ?_) (fun c_13 => ?_)
        · have ll_c_13 := lc_all ev_12
          have li_c_13 : (v_12 : Int32).toInt ≤ (0 : Int32).toInt := q_le.mp c_13
          have lz_c_13 : (0 : Int32).toInt = 0 := by decide
          exact J46 x9_7 w9 _ _ ls hW_w9 hM_w9 i_p1 i_p2 i_p3 i_x9_6 (In_w (R_nlt_l i_x9_7 (In_lit (n := 0) (by decide) (by decide) : In 0 0 0) c_10 (by decide) : In 0 23 x9_7) (by decide) : In (-1) 23 x9_7) (In_of (hM_w9.gI (by decide)) (In_of (hM_w9.gI (by decide)).symm g9_64_0)) (In_of (hM_w9.gI (by decide)) (In_of (hM_w9.gI (by decide)).symm g9_64_1)) (In_of (hM_w9.gI (by decide)) (In_of (hM_w9.gI (by decide)).symm g9_64_2)) (fun f h1 h2 h3 => (hF_9 f h1 h2 h3)) hP hD hS (lv_sub hl [0, 1, 2, 3, 4, 5, 6] rfl)
        · have ll_c_13 := lc_all ev_12
          have li_c_13 : ¬ (v_12 : Int32).toInt ≤ (0 : Int32).toInt := fun h => c_13 (q_le.mpr h)
          have lz_c_13 : (0 : Int32).toInt = 0 := by decide
          refine lv_aload_n hx hb dX2_want_30 rfl (lv_at hl 0 rfl) ?_
          refine lv_iload_n hx hb dX2_want_31 rfl (lv_at hl 1 rfl) ?_
          refine lv_iload_n hx hb dX2_want_32 rfl (lv_at hl 2 rfl) ?_
          refine lv_iload hx hb dX2_want_33 (lv_at hl 6 rfl) ?_
          refine lv_lload hx hb dX2_want_35 (lv_at hl 4 rfl) ?_
          refine kW_v ⟨rfl, rfl⟩ hP hD hS hA (rW_V (As := [.int p1, .int p2, .int x9_7, .long p4]) (rest := []) hx hb hml hown hts hK hE hP hD (k_X2_settle l D cI cJ cZ q bb bs bp w9 hW_w9 p1 p2 x9_7 p4 i_p1 i_p2 (R_nlt_l i_x9_7 (In_lit (n := 0) (by decide) (by decide) : In 0 0 0) c_10 (by decide) : In 0 23 x9_7) (In_of (hM_w9.gI (by decide)) (In_of (hM_w9.gI (by decide)).symm g9_64_0)) (In_of (hM_w9.gI (by decide)) (In_of (hM_w9.gI (by decide)).symm g9_64_1)) (In_of (hM_w9.gI (by decide)) (In_of (hM_w9.gI (by decide)).symm g9_64_2)) _) ⟨⟨rfl, rfl⟩, rfl, rfl⟩ sv_X2_119 ⟨(Nat.le_trans (by decide) hR.1), (Nat.le_trans (by decide) hR.2)⟩ 74 2 (hW_w9.o tX_74) rfl rfl rfl hl.1 rfl (Nat.le_of_ble_eq_true rfl) dX2_want_37) (fun w_14 H locs hw_w_14 hP hD hS => ?_)
          obtain ⟨hW_w_14, hs_w_14, h_16⟩ := hw_w_14
          have F_w_14 : ∀ f, FI f w → FL w → ((aL w 75 p1.toNatClampNeg).toInt < FARz ∧ 0 ≤ p1.toInt ∧ p3.toInt < (fI w 64 2).toInt) → FI f w_14 ∧ Mo w w_14 := fun f h1 h2 h3 => by have a := (hF_9 f h1 h2 h3); have b := h_16 f a.1 (FL_cg (hM_w9.gI (by decide)) (hM_w9.gI (by decide)) (hM_w9.hA (by decide)) (hM_w9.hA (by decide)) (hM_w9.hA (by decide)) h2) ⟨a.2 _ h3.1, (by have d := a.1.2.2.2.1 ((p2 * 24) + x9_7).toNatClampNeg (by have q := nat_of (n := 239) ((In_add i_x9_6 (R_nlt_l i_x9_7 (In_lit (n := 0) (by decide) (by decide) : In 0 0 0) c_10 (by decide) : In 0 23 x9_7) (by decide)) : In 0 239 ((p2 * 24) + x9_7)); omega); have e : (v_11 : Int64).toInt = (aL w9 77 ((p2 * 24) + x9_7).toNatClampNeg).toInt := congrArg Int64.toInt ev_11; omega), h3.2.1, (by have e : (fI w9 64 2).toInt = (fI w 64 2).toInt := congrArg Int32.toInt (hM_w9.gI (by decide)); have g := h3.2.2; omega)⟩; exact ⟨b.1, a.2.tr b.2⟩
          refine lv_iinc (v := (x9_7 + (-1))) (lv' := [(7, .int (x9_7 + (-1))), (0, .ref (q 74)), (1, .int p1), (2, .int p2), (3, .int p3), (4, .long p4), (6, .int (p2 * 24))]) hx hb dX2_want_40 hl (k := 6) rfl (rfl) (by decide) rfl (fun ls hl => ?_)
          refine lv_goto (tgt := 9) hx hb dX2_want_43 (by decide) ?_
          exact ih9 (x9_7 + (-1)) w_14 _ _ ls (mu_dec (n := 1) hmu9 (R_nlt_l i_x9_7 (In_lit (n := 0) (by decide) (by decide) : In 0 0 0) c_10 (by decide) : In 0 23 x9_7) (by decide) (by decide)) hW_w_14 (hM_w9.tr hs_w_14 (by decide)) i_p1 i_p2 i_p3 i_x9_6 (In_w ((In_dec (y := (-1)) (n := 1) (R_nlt_l i_x9_7 (In_lit (n := 0) (by decide) (by decide) : In 0 0 0) c_10 (by decide) : In 0 23 x9_7) (by decide) (by decide)) : In (-1) 22 (x9_7 + (-1))) (by decide) : In (-1) 23 (x9_7 + (-1))) (In_of ((hs_w_14.gI (by decide)).trans (hM_w9.gI (by decide))) (In_of (hM_w9.gI (by decide)).symm g9_64_0)) (In_of ((hs_w_14.gI (by decide)).trans (hM_w9.gI (by decide))) (In_of (hM_w9.gI (by decide)).symm g9_64_1)) (In_of ((hs_w_14.gI (by decide)).trans (hM_w9.gI (by decide))) (In_of (hM_w9.gI (by decide)).symm g9_64_2)) (fun f h1 h2 h3 => (F_w_14 f h1 h2 h3)) (le_dec (n := 1) (R_nlt_l i_x9_7 (In_lit (n := 0) (by decide) (by decide) : In 0 0 0) c_10 (by decide) : In 0 23 x9_7) (by decide) (by decide) hv_9) hP hD hS (lv_sub hl [1, 2, 3, 4, 5, 6, 0] rfl)
  refine lv_iload_n hx hb dX2_want_0 rfl (lv_at hl 2 rfl) ?_
  refine lv_bipush (v := 24) hx hb dX2_want_1 (by decide) ?_
  refine lv_imul hx hb dX2_want_3 ?_
  refine lv_istore (lv' := [(6, .int (p2 * 24)), (0, .ref (q 74)), (1, .int p1), (2, .int p2), (3, .int p3), (4, .long p4)]) hx hb dX2_want_4 hl (by decide) rfl (fun ls hl => ?_)
  refine lv_iload_n hx hb dX2_want_6 rfl (lv_at hl 4 rfl) ?_
  refine lv_istore (lv' := [(7, .int p3), (6, .int (p2 * 24)), (0, .ref (q 74)), (1, .int p1), (2, .int p2), (3, .int p3), (4, .long p4)]) hx hb dX2_want_7 hl (by decide) rfl (fun ls hl => ?_)
  exact J9 _ p3 w _ _ ls (Nat.lt_succ_self _) hW_w Sm.rf i_p1 i_p2 i_p3 ((In_mulr i_p2 (n := 24) (by decide) (by decide)) : In 0 216 (p2 * 24)) (In_w i_p3 (by decide) : In (-1) 23 p3) hf_64_0 hf_64_1 hf_64_2 (fun f h1 h2 h3 => (F_w f h1 h2 h3)) (Int.le_refl _) hP hD hS (lv_sub hl [2, 3, 4, 5, 6, 1, 0] rfl)
set_option maxRecDepth 100000 in
set_option maxHeartbeats 8000000 in
theorem k_X2_runQueue (l : Launch) (D : va_G) (cI cJ cZ : ClassId) (q : Nat → Nat) (bb bs bp : Nat) (w : va_W) (hW_w : HT q (TX q cI cJ cZ bb bs bp) w) (hf_64_1 : In 1 40 (fI w 64 1)) (hf_64_2 : In 1 24 (fI w 64 2)) : Con_v l yX2_runQueue cX2_runQueue 5 none ({ frames := 3, cells := 0, slots := 0, locals := 77 }) D cI cJ cZ eW [.ref (q 74)] w (fun (w1 : va_W) => HT q (TX q cI cJ cZ bb bs bp) w1 ∧ Sm [74, 75, 76, 77, 78, 79, 80] [(74, 9), (74, 10)] w w1 ∧ ((∀ f, FI f w → FL w → (True) → FI f w1 ∧ Mo w w1))) := by
  refine eQ_v rfl (by decide) (Nat.le_of_ble_eq_true rfl) ⟨rfl, rfl⟩ ?_
  intro p e R s m args below meth c A Q hx hb hml hown hts hK hE hA hR hret hP hD hS ls hl
  have hown : s.vm.findClass RX2 = some m.cls := hown
  have hl : lv_has ls 5 [(0, .ref (q 74))] := hl
  have F_w : ∀ f, FI f w → FL w → (True) → FI f w ∧ Mo w w := fun f h1 h2 h3 => ⟨h1, Mo.rf⟩
  have J2 : ∀ (N : Nat) (x2_1 : Int32) (w2 : va_W) (H : Heap) (locs : List Loc) (ls : Array Slot), (1000001 - x2_1.toInt).toNat < N → HT q (TX q cI cJ cZ bb bs bp) w2 → Sm [74, 75, 76, 77, 78, 79, 80] [(74, 9), (74, 10)] w w2 → (In 0 1000001 x2_1) → (In 1 40 (fI w2 64 1)) → (In 1 24 (fI w2 64 2)) → (∀ f, FI f w → FL w → (True) → FI f w2 ∧ Mo w w2) → va_P D vwCl w2 H → va_D A w2 → va_S A s.heap H locs → lv_has ls 5 [(0, .ref (q 74)), (1, .int x2_1)] → W p l e R s m args below meth c H locs 0 0 Q (F0 m 2 ls []) := by
    intro N
    induction N with
    | zero => intro x2_1 w2 H locs ls hmu; exact absurd hmu (Nat.not_lt_zero _)
    | succ N ih2 =>
      intro x2_1 w2 H locs ls hmu2 hW_w2 hM_w2 i_x2_1 g2_64_1 g2_64_2 hF_2 hP hD hS hl
      have J74 : ∀ (N : Nat) (x74_2 : Int32) (x74_3 : Int32) (x74_4 : Int32) (w74 : va_W) (H : Heap) (locs : List Loc) (ls : Array Slot), (10 - x74_4.toInt).toNat < N → HT q (TX q cI cJ cZ bb bs bp) w74 → Sm [74, 75, 76, 77, 78, 79, 80] [(74, 9), (74, 10)] w w74 → (In 0 1000000 x2_1) → (In 0 39 x74_2) → (In 0 10 x74_4) → (In 1 40 (fI w74 64 1)) → (In 1 24 (fI w74 64 2)) → (fI w74 74 9 = ((fI w2 74 9) + 1)) → (∀ f, FI f w → FL w → (True) → FI f w74 ∧ Mo w w74) → (∀ f, FI f w → FL w → (True) → (aL w74 75 x74_2.toNatClampNeg).toInt < FARz ∧ (x74_2 : Int32).toInt < (fI w74 64 1).toInt) → va_P D vwCl w74 H → va_D A w74 → va_S A s.heap H locs → lv_has ls 5 [(0, .ref (q 74)), (1, .int x2_1), (2, .int x74_2), (3, .int x74_3), (4, .int x74_4)] → W p l e R s m args below meth c H locs 0 0 Q (F0 m 74 ls []) := by
        intro N
        induction N with
        | zero => intro x74_2 x74_3 x74_4 w74 H locs ls hmu; exact absurd hmu (Nat.not_lt_zero _)
        | succ N ih74 =>
          intro x74_2 x74_3 x74_4 w74 H locs ls hmu74 hW_w74 hM_w74 i_x74_1 i_x74_2 i_x74_4 g74_64_1 g74_64_2 g74_74_9e hF_74 hq_74 hP hD hS hl
          have J129 : ∀ (w129 : va_W) (H : Heap) (locs : List Loc) (ls : Array Slot), HT q (TX q cI cJ cZ bb bs bp) w129 → Sm [74, 75, 76, 77, 78, 79, 80] [(74, 9), (74, 10)] w w129 → (In 0 1000000 x2_1) → (In 0 39 x74_2) → (In 0 9 x74_4) → (In 1 10 (fI w129 64 0)) → (In 1 40 (fI w129 64 1)) → (In 1 24 (fI w129 64 2)) → (fI w129 74 9 = ((fI w2 74 9) + 1)) → (∀ f, FI f w → FL w → (True) → FI f w129 ∧ Mo w w129) → (∀ f, FI f w → FL w → (True) → (aL w129 75 x74_2.toNatClampNeg).toInt < FARz ∧ (x74_2 : Int32).toInt < (fI w129 64 1).toInt) → va_P D vwCl w129 H → va_D A w129 → va_S A s.heap H locs → lv_has ls 5 [(0, .ref (q 74)), (1, .int x2_1), (2, .int x74_2), (3, .int x74_3), (4, .int x74_4)] → W p l e R s m args below meth c H locs 0 0 Q (F0 m 129 ls []) := by
            intro w129 H locs ls hW_w129 hM_w129 i_x129_1 i_x129_2 i_x129_4 g129_64_0 g129_64_1 g129_64_2 g129_74_9e hF_129 hq_129 hP hD hS hl
            refine lv_iinc (v := (x74_4 + 1)) (lv' := [(4, .int (x74_4 + 1)), (0, .ref (q 74)), (1, .int x2_1), (2, .int x74_2), (3, .int x74_3)]) hx hb dX2_runQueue_129 hl (k := 4) rfl (rfl) (by decide) rfl (fun ls hl => ?_)
            refine lv_goto (tgt := 74) hx hb dX2_runQueue_132 (by decide) ?_
            exact ih74 x74_2 x74_3 (x74_4 + 1) w129 _ _ ls (mu_inc hmu74 i_x129_4 (In_lit (n := 1) (by decide) (by decide) : In 1 1 1) (by decide)) hW_w129 hM_w129 i_x74_1 i_x74_2 (In_w ((In_add (y := 1) i_x129_4 (In_lit (n := 1) (by decide) (by decide) : In 1 1 1) (by decide)) : In 1 10 (x74_4 + 1)) (by decide) : In 0 10 (x74_4 + 1)) (In_of (hM_w129.gI (by decide)) (In_of (hM_w129.gI (by decide)).symm g129_64_1)) (In_of (hM_w129.gI (by decide)) (In_of (hM_w129.gI (by decide)).symm g129_64_2)) g129_74_9e (fun f h1 h2 h3 => (hF_129 f h1 h2 h3)) (fun f h1 h2 h3 => (hq_129 f h1 h2 h3)) hP hD hS (lv_sub hl [1, 2, 3, 4, 0] rfl)
          refine lv_iload hx hb dX2_runQueue_74 (lv_at hl 4 rfl) ?_
          refine lv_aload_n hx hb dX2_runQueue_76 rfl (lv_at hl 0 rfl) ?_
          refine gt_X2 hx hb hts hown hK hP 74 (hW_w74.o tX_74) 0 (by decide) wd_467 rfl (hW_w74.fr tX_74 rfl) dX2_runQueue_77 ?_
          refine gt_X3 hx hb hts hown hK hP 64 (hW_w74.o tX_64) 0 (by decide) wd_402 rfl (hW_w74.fi tX_64 rfl) dX2_runQueue_80 ?_
          refine tov (v := (fI w 64 0)) (hM_w74.gI (by decide)) ?_
          refine lv_icmp_ge (tgt := 135) hx hb dX2_runQueue_83 (by decide) (fun c_1 => ?_) (fun c_1 => ?_)
          · refine lv_iinc (v := (x2_1 + 1)) (lv' := [(1, .int (x2_1 + 1)), (0, .ref (q 74)), (2, .int x74_2), (3, .int x74_3), (4, .int x74_4)]) hx hb dX2_runQueue_135 hl (k := 1) rfl (rfl) (by decide) rfl (fun ls hl => ?_)
            refine lv_goto (tgt := 2) hx hb dX2_runQueue_138 (by decide) ?_
            exact ih2 (x2_1 + 1) w74 _ _ ls (mu_inc hmu2 i_x74_1 (In_lit (n := 1) (by decide) (by decide) : In 1 1 1) (by decide)) hW_w74 hM_w74 (In_w ((In_add (y := 1) i_x74_1 (In_lit (n := 1) (by decide) (by decide) : In 1 1 1) (by decide)) : In 1 1000001 (x2_1 + 1)) (by decide) : In 0 1000001 (x2_1 + 1)) (In_of (hM_w74.gI (by decide)) (In_of (hM_w74.gI (by decide)).symm g74_64_1)) (In_of (hM_w74.gI (by decide)) (In_of (hM_w74.gI (by decide)).symm g74_64_2)) (fun f h1 h2 h3 => (hF_74 f h1 h2 h3)) hP hD hS (lv_sub hl [1, 0] rfl)
          · refine lv_iload_n hx hb dX2_runQueue_86 rfl (lv_at hl 3 rfl) ?_
            refine lv_iload hx hb dX2_runQueue_87 (lv_at hl 4 rfl) ?_
            refine lv_ishr hx hb dX2_runQueue_89 ?_
            refine lv_topi (fun v_2 ev_2 => ?_)
            refine lv_iconst (v := 1) hx hb dX2_runQueue_90 (by decide) ?_
            refine lv_iand hx hb dX2_runQueue_91 ?_
            refine lv_if_eq (tgt := 129) hx hb dX2_runQueue_92 (by decide) (fun c_3 => ?_) (fun c_3 => ?_)
            · exact J129 w74 _ _ ls hW_w74 hM_w74 i_x74_1 i_x74_2 (R_nle_r (hW_w.fin tX_64 rfl : In 0 10 (fI w 64 0)) i_x74_4 c_1 (by decide) : In 0 9 x74_4) (In_of (hM_w74.gI (by decide)) (R_nle_l (hW_w.fin tX_64 rfl : In 0 10 (fI w 64 0)) i_x74_4 c_1 (by decide) : In 1 10 (fI w 64 0))) (In_of (hM_w74.gI (by decide)) (In_of (hM_w74.gI (by decide)).symm g74_64_1)) (In_of (hM_w74.gI (by decide)) (In_of (hM_w74.gI (by decide)).symm g74_64_2)) g74_74_9e (fun f h1 h2 h3 => (hF_74 f h1 h2 h3)) (fun f h1 h2 h3 => (hq_74 f h1 h2 h3)) hP hD hS (lv_sub hl [0, 1, 2, 3, 4] rfl)
            · refine lv_aload_n hx hb dX2_runQueue_95 rfl (lv_at hl 0 rfl) ?_
              refine lv_iload_n hx hb dX2_runQueue_96 rfl (lv_at hl 2 rfl) ?_
              refine lv_iload hx hb dX2_runQueue_97 (lv_at hl 4 rfl) ?_
              refine lv_aload_n hx hb dX2_runQueue_99 rfl (lv_at hl 0 rfl) ?_
              refine gt_X2 hx hb hts hown hK hP 74 (hW_w74.o tX_74) 0 (by decide) wd_467 rfl (hW_w74.fr tX_74 rfl) dX2_runQueue_100 ?_
              refine gt_X3 hx hb hts hown hK hP 64 (hW_w74.o tX_64) 3 (by decide) wd_412 rfl (hW_w74.fr tX_64 rfl) dX2_runQueue_103 ?_
              refine lv_iload_n hx hb dX2_runQueue_106 rfl (lv_at hl 2 rfl) ?_
              refine va_iald hx hb hK hP 65 0 (hW_w74.a tX_65) rfl (in_I i_x74_2 (by decide)) dX2_runQueue_107 ?_
              refine lv_topi (fun v_4 ev_4 => ?_)
              refine lv_aload_n hx hb dX2_runQueue_108 rfl (lv_at hl 0 rfl) ?_
              refine gt_X2 hx hb hts hown hK hP 74 (hW_w74.o tX_74) 1 (by decide) wd_468 rfl (hW_w74.fr tX_74 rfl) dX2_runQueue_109 ?_
              refine lv_iload_n hx hb dX2_runQueue_112 rfl (lv_at hl 2 rfl) ?_
              refine va_lald hx hb hK hP 75 1 (hW_w74.al tX_75) rfl (in_I i_x74_2 (by decide)) dX2_runQueue_113 ?_
              refine lv_topl (fun v_5 ev_5 => ?_)
              refine lv_aload_n hx hb dX2_runQueue_114 rfl (lv_at hl 0 rfl) ?_
              refine gt_X2 hx hb hts hown hK hP 74 (hW_w74.o tX_74) 0 (by decide) wd_467 rfl (hW_w74.fr tX_74 rfl) dX2_runQueue_115 ?_
              refine lv_iload_n hx hb dX2_runQueue_118 rfl (lv_at hl 2 rfl) ?_
              refine lv_iload hx hb dX2_runQueue_119 (lv_at hl 4 rfl) ?_
              refine kW_i ⟨rfl, rfl⟩ hP hD hS hA (rW_V (As := [.int x74_2, .int x74_4]) (rest := [.long v_5, .int v_4, .int x74_4, .int x74_2, .ref (q 74)]) hx hb hml hown hts hK hE hP hD (k_X3_pointsOf l D cI cJ cZ q bb bs bp w74 hW_w74 x74_2 x74_4 i_x74_2 (R_nle_r (hW_w.fin tX_64 rfl : In 0 10 (fI w 64 0)) i_x74_4 c_1 (by decide) : In 0 9 x74_4) (In_of (hM_w74.gI (by decide)) (R_nle_l (hW_w.fin tX_64 rfl : In 0 10 (fI w 64 0)) i_x74_4 c_1 (by decide) : In 1 10 (fI w 64 0))) (In_of (hM_w74.gI (by decide)) (In_of (hM_w74.gI (by decide)).symm g74_64_1)) (In_of (hM_w74.gI (by decide)) (In_of (hM_w74.gI (by decide)).symm g74_64_2)) _) ⟨⟨rfl, rfl⟩, rfl, rfl⟩ sv_X2_111 ⟨(Nat.le_trans (by decide) hR.1), (Nat.le_trans (by decide) hR.2)⟩ 64 3 (hW_w74.o tX_64) rfl rfl rfl hl.1 rfl (Nat.le_of_ble_eq_true rfl) dX2_runQueue_121) (fun r_7 w_6 H locs hw_w_6 hP hD hS => ?_)
              obtain ⟨hW_w_6, hs_w_6⟩ := hw_w_6
              refine lv_i2l hx hb dX2_runQueue_124 rfl ?_
              refine lv_topl (fun v_8 ev_8 => ?_)
              refine lv_lsub hx hb dX2_runQueue_125 ?_
              refine lv_topl (fun v_9 ev_9 => ?_)
              refine kW_v ⟨rfl, rfl⟩ hP hD hS hA (rW_V (As := [.int x74_2, .int x74_4, .int v_4, .long v_9]) (rest := []) hx hb hml hown hts hK hE hP hD (k_X2_want l D cI cJ cZ q bb bs bp w_6 hW_w_6 x74_2 x74_4 v_4 v_9 (In_w i_x74_2 (by decide) : In (-2) 39 x74_2) (R_nle_r (hW_w.fin tX_64 rfl : In 0 10 (fI w 64 0)) i_x74_4 c_1 (by decide) : In 0 9 x74_4) (In_of ev_4 (hW_w74.ap tX_65 _) : In 0 23 v_4) (In_of ((hs_w_6.gI (by decide)).trans (hM_w74.gI (by decide))) (R_nle_l (hW_w.fin tX_64 rfl : In 0 10 (fI w 64 0)) i_x74_4 c_1 (by decide) : In 1 10 (fI w 64 0))) (In_of ((hs_w_6.gI (by decide)).trans (hM_w74.gI (by decide))) (In_of (hM_w74.gI (by decide)).symm g74_64_1)) (In_of ((hs_w_6.gI (by decide)).trans (hM_w74.gI (by decide))) (In_of (hM_w74.gI (by decide)).symm g74_64_2)) _) ⟨⟨rfl, rfl⟩, rfl, rfl⟩ sv_X2_115 ⟨(Nat.le_trans (by decide) hR.1), (Nat.le_trans (by decide) hR.2)⟩ 74 2 (hW_w_6.o tX_74) rfl rfl rfl hl.1 rfl (Nat.le_of_ble_eq_true rfl) dX2_runQueue_126) (fun w_10 H locs hw_w_10 hP hD hS => ?_)
              obtain ⟨hW_w_10, hs_w_10, h_12⟩ := hw_w_10
              have RQ_w_10 : ∀ f, FI f w → FL w → (True) → (aL w_10 75 x74_2.toNatClampNeg).toInt < FARz ∧ (x74_2 : Int32).toInt < (fI w_10 64 1).toInt := fun f h1 h2 h3 => by have a := (⟨(FI_cg (hs_w_6.hL (by decide)) (hs_w_6.hL (by decide)) (hs_w_6.hA (by decide)) (hs_w_6.hA (by decide)) (hs_w_6.hA (by decide)) (hs_w_6.hA (by decide)) (hs_w_6.gI (by decide)) (hs_w_6.gI (by decide)) (hs_w_6.gI (by decide)) (hF_74 f h1 h2 h3).1), (hF_74 f h1 h2 h3).2.cg (hs_w_6.hL (by decide))⟩ : FI f w_6 ∧ Mo w w_6); have b := h_12 f a.1 (FL_cg ((hs_w_6.gI (by decide)).trans (hM_w74.gI (by decide))) ((hs_w_6.gI (by decide)).trans (hM_w74.gI (by decide))) ((hs_w_6.hA (by decide)).trans (hM_w74.hA (by decide))) ((hs_w_6.hA (by decide)).trans (hM_w74.hA (by decide))) ((hs_w_6.hA (by decide)).trans (hM_w74.hA (by decide))) h2) ⟨(by have g := (hq_74 f h1 h2 h3); rw [show aL w_6 75 = aL w74 75 from (hs_w_6.hL (by decide)), show fI w_6 64 1 = fI w74 64 1 from (hs_w_6.gI (by decide))]; exact g : (aL w_6 75 x74_2.toNatClampNeg).toInt < FARz ∧ (x74_2 : Int32).toInt < (fI w_6 64 1).toInt).1, (by have q := i_x74_2; unfold In at q; omega), (by have g := h2.2.1 x74_2.toNatClampNeg (by have g := (by have g := (hq_74 f h1 h2 h3); rw [show aL w_6 75 = aL w74 75 from (hs_w_6.hL (by decide)), show fI w_6 64 1 = fI w74 64 1 from (hs_w_6.gI (by decide))]; exact g : (aL w_6 75 x74_2.toNatClampNeg).toInt < FARz ∧ (x74_2 : Int32).toInt < (fI w_6 64 1).toInt).2; have q := i_x74_2; have e : (fI w_6 64 1).toInt = (fI w 64 1).toInt := congrArg Int32.toInt ((hs_w_6.gI (by decide)).trans (hM_w74.gI (by decide))); have e2 : x74_2.toNatClampNeg = x74_2.toInt.toNat := rfl; unfold In at q; omega); have e : (v_4 : Int32).toInt = (aF w 65 x74_2.toNatClampNeg).toInt := congrArg Int32.toInt (ev_4.trans (congrFun (hM_w74.hA (by decide)) _)); have e3 : (fI w_6 64 2).toInt = (fI w 64 2).toInt := congrArg Int32.toInt ((hs_w_6.gI (by decide)).trans (hM_w74.gI (by decide))); omega)⟩; have g := (by have g := (hq_74 f h1 h2 h3); rw [show aL w_6 75 = aL w74 75 from (hs_w_6.hL (by decide)), show fI w_6 64 1 = fI w74 64 1 from (hs_w_6.gI (by decide))]; exact g : (aL w_6 75 x74_2.toNatClampNeg).toInt < FARz ∧ (x74_2 : Int32).toInt < (fI w_6 64 1).toInt); exact ⟨b.2 _ g.1, by rw [show fI w_10 64 1 = fI w_6 64 1 from (hs_w_10.gI (by decide))]; exact g.2⟩
              have F_w_10 : ∀ f, FI f w → FL w → (True) → FI f w_10 ∧ Mo w w_10 := fun f h1 h2 h3 => by have a := (⟨(FI_cg (hs_w_6.hL (by decide)) (hs_w_6.hL (by decide)) (hs_w_6.hA (by decide)) (hs_w_6.hA (by decide)) (hs_w_6.hA (by decide)) (hs_w_6.hA (by decide)) (hs_w_6.gI (by decide)) (hs_w_6.gI (by decide)) (hs_w_6.gI (by decide)) (hF_74 f h1 h2 h3).1), (hF_74 f h1 h2 h3).2.cg (hs_w_6.hL (by decide))⟩ : FI f w_6 ∧ Mo w w_6); have b := h_12 f a.1 (FL_cg ((hs_w_6.gI (by decide)).trans (hM_w74.gI (by decide))) ((hs_w_6.gI (by decide)).trans (hM_w74.gI (by decide))) ((hs_w_6.hA (by decide)).trans (hM_w74.hA (by decide))) ((hs_w_6.hA (by decide)).trans (hM_w74.hA (by decide))) ((hs_w_6.hA (by decide)).trans (hM_w74.hA (by decide))) h2) ⟨(by have g := (hq_74 f h1 h2 h3); rw [show aL w_6 75 = aL w74 75 from (hs_w_6.hL (by decide)), show fI w_6 64 1 = fI w74 64 1 from (hs_w_6.gI (by decide))]; exact g : (aL w_6 75 x74_2.toNatClampNeg).toInt < FARz ∧ (x74_2 : Int32).toInt < (fI w_6 64 1).toInt).1, (by have q := i_x74_2; unfold In at q; omega), (by have g := h2.2.1 x74_2.toNatClampNeg (by have g := (by have g := (hq_74 f h1 h2 h3); rw [show aL w_6 75 = aL w74 75 from (hs_w_6.hL (by decide)), show fI w_6 64 1 = fI w74 64 1 from (hs_w_6.gI (by decide))]; exact g : (aL w_6 75 x74_2.toNatClampNeg).toInt < FARz ∧ (x74_2 : Int32).toInt < (fI w_6 64 1).toInt).2; have q := i_x74_2; have e : (fI w_6 64 1).toInt = (fI w 64 1).toInt := congrArg Int32.toInt ((hs_w_6.gI (by decide)).trans (hM_w74.gI (by decide))); have e2 : x74_2.toNatClampNeg = x74_2.toInt.toNat := rfl; unfold In at q; omega); have e : (v_4 : Int32).toInt = (aF w 65 x74_2.toNatClampNeg).toInt := congrArg Int32.toInt (ev_4.trans (congrFun (hM_w74.hA (by decide)) _)); have e3 : (fI w_6 64 2).toInt = (fI w 64 2).toInt := congrArg Int32.toInt ((hs_w_6.gI (by decide)).trans (hM_w74.gI (by decide))); omega)⟩; exact ⟨b.1, a.2.tr b.2⟩
              exact J129 w_10 _ _ ls hW_w_10 ((hM_w74.tr hs_w_6 (by decide)).tr hs_w_10 (by decide)) i_x74_1 i_x74_2 (R_nle_r (hW_w.fin tX_64 rfl : In 0 10 (fI w 64 0)) i_x74_4 c_1 (by decide) : In 0 9 x74_4) (In_of ((hs_w_10.gI (by decide)).trans ((hs_w_6.gI (by decide)).trans (hM_w74.gI (by decide)))) (R_nle_l (hW_w.fin tX_64 rfl : In 0 10 (fI w 64 0)) i_x74_4 c_1 (by decide) : In 1 10 (fI w 64 0))) (In_of ((hs_w_10.gI (by decide)).trans ((hs_w_6.gI (by decide)).trans (hM_w74.gI (by decide)))) (In_of (hM_w74.gI (by decide)).symm g74_64_1)) (In_of ((hs_w_10.gI (by decide)).trans ((hs_w_6.gI (by decide)).trans (hM_w74.gI (by decide)))) (In_of (hM_w74.gI (by decide)).symm g74_64_2)) ((hs_w_10.2 74 9 (by decide) (by decide)).trans ((hs_w_6.gI (by decide)).trans g74_74_9e)) (fun f h1 h2 h3 => (F_w_10 f h1 h2 h3)) (fun f h1 h2 h3 => (RQ_w_10 f h1 h2 h3)) hP hD hS (lv_sub hl [0, 1, 2, 3, 4] rfl)
      refine lv_iload_n hx hb dX2_runQueue_2 rfl (lv_at hl 1 rfl) ?_
      refine lv_ldc hx hb hown (hts _ wd_1121) dX2_runQueue_3 ?_
      refine lv_icmp_ge (tgt := 141) hx hb dX2_runQueue_5 (by decide) (fun c_13 => ?_) (fun c_13 => ?_)
      · exact hret _ _ _ _ _ hP hD hS dX2_runQueue_141 ⟨hW_w2, hM_w2, (fun f h1 h2 h3 => (hF_2 f h1 h2 h3))⟩
      · refine lv_aload_n hx hb dX2_runQueue_8 rfl (lv_at hl 0 rfl) ?_
        refine gt_X2 hx hb hts hown hK hP 74 (hW_w2.o tX_74) 9 (by decide) wd_480 rfl (hW_w2.fi tX_74 rfl) dX2_runQueue_9 ?_
        refine lv_aload_n hx hb dX2_runQueue_12 rfl (lv_at hl 0 rfl) ?_
        refine gt_X2 hx hb hts hown hK hP 74 (hW_w2.o tX_74) 10 (by decide) wd_481 rfl (hW_w2.fi tX_74 rfl) dX2_runQueue_13 ?_
        refine lv_icmp_eq (tgt := 141) hx hb dX2_runQueue_16 (by decide) (fun c_14 => ?_) (fun c_14 => ?_)
        · exact hret _ _ _ _ _ hP hD hS dX2_runQueue_141 ⟨hW_w2, hM_w2, (fun f h1 h2 h3 => (hF_2 f h1 h2 h3))⟩
        · refine lv_aload_n hx hb dX2_runQueue_19 rfl (lv_at hl 0 rfl) ?_
          refine gt_X2 hx hb hts hown hK hP 74 (hW_w2.o tX_74) 7 (by decide) wd_478 rfl (hW_w2.fr tX_74 rfl) dX2_runQueue_20 ?_
          refine lv_aload_n hx hb dX2_runQueue_23 rfl (lv_at hl 0 rfl) ?_
          refine gt_X2 hx hb hts hown hK hP 74 (hW_w2.o tX_74) 9 (by decide) wd_480 rfl (hW_w2.fi tX_74 rfl) dX2_runQueue_24 ?_
          refine lv_bipush (v := 63) hx hb dX2_runQueue_27 (by decide) ?_
          refine lv_iand hx hb dX2_runQueue_29 ?_
          refine va_iald hx hb hK hP 79 0 (hW_w2.a tX_79) rfl (in_I ((In_and (n := 63) (by decide) (by decide)) : In 0 63 ((fI w2 74 9) &&& 63)) (by decide)) dX2_runQueue_30 ?_
          refine lv_topi (fun v_15 ev_15 => ?_)
          refine lv_istore_n (lv' := [(2, .int v_15), (0, .ref (q 74)), (1, .int x2_1)]) hx hb dX2_runQueue_31 rfl hl (by decide) rfl (fun ls hl => ?_)
          refine lv_aload_n hx hb dX2_runQueue_32 rfl (lv_at hl 1 rfl) ?_
          refine lv_dup hx hb dX2_runQueue_33 rfl ?_
          refine gt_X2 hx hb hts hown hK hP 74 (hW_w2.o tX_74) 9 (by decide) wd_480 rfl (hW_w2.fi tX_74 rfl) dX2_runQueue_34 ?_
          refine lv_iconst (v := 1) hx hb dX2_runQueue_37 (by decide) ?_
          refine lv_iadd hx hb dX2_runQueue_38 ?_
          refine pt_X2 hx hb hts hown hK hP hD hS 74 (hW_w2.o tX_74) 9 (by decide) wd_480 rfl rfl (ty := .int) (v := .int ((fI w2 74 9) + 1)) (by decide +kernel) rfl rfl (hW_w2.ll tX_74 (Nat.le_of_ble_eq_true rfl)) dX2_runQueue_39 (fun H locs hP hD hS => fr_w (hW_w2.sI tX_74 rfl (In_any _)) hP hD (fun w_16 ew_16 hW_w_16 hP hD => ?_))
          have RQ_w_16 : ∀ f, FI f w → FL w → (True) → (aL w_16 75 v_15.toNatClampNeg).toInt < FARz ∧ (v_15 : Int32).toInt < (fI w_16 64 1).toInt := fun f h1 h2 h3 => by have a := (hF_2 f h1 h2 h3); have b := (FI_head (w := w2) (aL_cg (st_ne ew_16 (by decide))) (aL_cg (st_ne ew_16 (by decide))) (aF_cg (st_ne ew_16 (by decide))) (aF_cg (st_ne ew_16 (by decide))) (aF_cg (st_ne ew_16 (by decide))) (aF_cg (st_ne ew_16 (by decide))) (fI_nej (hW_w2.lt tX_74) ew_16 (by decide)) (fI_eq (hW_w2.lt tX_74) ew_16 (hW_w2.ll tX_74 (Nat.le_of_ble_eq_true rfl))) (fI_cg (st_ne ew_16 (by decide))) c_14 a.1).2; have er : v_15 = aF w2 79 ((fI w2 74 9) &&& 63).toNatClampNeg := ev_15; rw [← er] at b; rw [show aL w_16 75 = aL w2 75 from (aL_cg (st_ne ew_16 (by decide))), show fI w_16 64 1 = fI w2 64 1 from (fI_cg (st_ne ew_16 (by decide)))]; exact b
          have F_w_16 : ∀ f, FI f w → FL w → (True) → FI f w_16 ∧ Mo w w_16 := fun f h1 h2 h3 => by have a := (hF_2 f h1 h2 h3); have b := FI_head (w := w2) (aL_cg (st_ne ew_16 (by decide))) (aL_cg (st_ne ew_16 (by decide))) (aF_cg (st_ne ew_16 (by decide))) (aF_cg (st_ne ew_16 (by decide))) (aF_cg (st_ne ew_16 (by decide))) (aF_cg (st_ne ew_16 (by decide))) (fI_nej (hW_w2.lt tX_74) ew_16 (by decide)) (fI_eq (hW_w2.lt tX_74) ew_16 (hW_w2.ll tX_74 (Nat.le_of_ble_eq_true rfl))) (fI_cg (st_ne ew_16 (by decide))) c_14 a.1; exact ⟨b.1, a.2.cg (aL_cg (st_ne ew_16 (by decide)))⟩
          refine lv_aload_n hx hb dX2_runQueue_42 rfl (lv_at hl 1 rfl) ?_
          refine gt_X2 hx hb hts hown hK hP 74 (hW_w_16.o tX_74) 8 (by decide) wd_479 rfl (hW_w_16.fr tX_74 rfl) dX2_runQueue_43 ?_
          refine lv_iload_n hx hb dX2_runQueue_46 rfl (lv_at hl 0 rfl) ?_
          refine lv_iconst (v := 0) hx hb dX2_runQueue_47 (by decide) ?_
          refine va_iast hx hb hK hP hD hS 80 0 (hW_w_16.a tX_80) rfl (in_I (In_of ev_15 (hW_w2.ap tX_79 _) : In 0 39 v_15) (by decide)) dX2_runQueue_48 (fun H locs hP hD hS => fr_w (hW_w_16.uA tX_80 (In_lit (n := 0) (by decide) (by decide) : In (-2147483648) 2147483647 0)) hP hD (fun w_17 ew_17 hW_w_17 hP hD => ?_))
          refine lv_aload_n hx hb dX2_runQueue_49 rfl (lv_at hl 1 rfl) ?_
          refine gt_X2 hx hb hts hown hK hP 74 (hW_w_17.o tX_74) 0 (by decide) wd_467 rfl (hW_w_17.fr tX_74 rfl) dX2_runQueue_50 ?_
          refine gt_X3 hx hb hts hown hK hP 64 (hW_w_17.o tX_64) 7 (by decide) wd_424 rfl (hW_w_17.fr tX_64 rfl) dX2_runQueue_53 ?_
          refine lv_iload_n hx hb dX2_runQueue_56 rfl (lv_at hl 0 rfl) ?_
          refine va_iald hx hb hK hP 69 0 (hW_w_17.a tX_69) rfl (in_I (In_of ev_15 (hW_w2.ap tX_79 _) : In 0 39 v_15) (by decide)) dX2_runQueue_57 ?_
          refine lv_topi (fun v_18 ev_18 => ?_)
          refine lv_aload_n hx hb dX2_runQueue_58 rfl (lv_at hl 1 rfl) ?_
          refine gt_X2 hx hb hts hown hK hP 74 (hW_w_17.o tX_74) 0 (by decide) wd_467 rfl (hW_w_17.fr tX_74 rfl) dX2_runQueue_59 ?_
          refine gt_X3 hx hb hts hown hK hP 64 (hW_w_17.o tX_64) 8 (by decide) wd_428 rfl (hW_w_17.fr tX_64 rfl) dX2_runQueue_62 ?_
          refine lv_iload_n hx hb dX2_runQueue_65 rfl (lv_at hl 0 rfl) ?_
          refine va_iald hx hb hK hP 70 0 (hW_w_17.a tX_70) rfl (in_I (In_of ev_15 (hW_w2.ap tX_79 _) : In 0 39 v_15) (by decide)) dX2_runQueue_66 ?_
          refine lv_topi (fun v_19 ev_19 => ?_)
          refine lv_iconst (v := (-1)) hx hb dX2_runQueue_67 (by decide) ?_
          refine lv_ixor hx hb dX2_runQueue_68 ?_
          refine lv_topi (fun v_20 ev_20 => ?_)
          refine lv_iand hx hb dX2_runQueue_69 ?_
          refine lv_topi (fun v_21 ev_21 => ?_)
          refine lv_istore_n (lv' := [(3, .int v_21), (2, .int v_15), (0, .ref (q 74)), (1, .int x2_1)]) hx hb dX2_runQueue_70 rfl hl (by decide) rfl (fun ls hl => ?_)
          refine lv_iconst (v := 0) hx hb dX2_runQueue_71 (by decide) ?_
          refine lv_istore (lv' := [(4, .int 0), (3, .int v_21), (2, .int v_15), (0, .ref (q 74)), (1, .int x2_1)]) hx hb dX2_runQueue_72 hl (by decide) rfl (fun ls hl => ?_)
          exact J74 _ v_15 v_21 0 w_17 _ _ ls (Nat.lt_succ_self _) hW_w_17 ((hM_w2.sf (hW_w2.lt tX_74) ew_16 (by decide)).sa ew_17 (by decide)) (In_w (R_nle_r (In_lit (n := 1000000) (by decide) (by decide) : In 1000000 1000000 1000000) i_x2_1 c_13 (by decide) : In 0 999999 x2_1) (by decide) : In 0 1000000 x2_1) (In_of ev_15 (hW_w2.ap tX_79 _) : In 0 39 v_15) (In_lit (n := 0) (by decide) (by decide) : In 0 10 0) (In_of ((fI_cg (st_ne ew_17 (by decide))).trans ((fI_cg (st_ne ew_16 (by decide))).trans (hM_w2.gI (by decide)))) (In_of (hM_w2.gI (by decide)).symm g2_64_1)) (In_of ((fI_cg (st_ne ew_17 (by decide))).trans ((fI_cg (st_ne ew_16 (by decide))).trans (hM_w2.gI (by decide)))) (In_of (hM_w2.gI (by decide)).symm g2_64_2)) ((fI_cg (st_ne ew_17 (by decide))).trans (fI_eq (hW_w2.lt tX_74) ew_16 (hW_w2.ll tX_74 (Nat.le_of_ble_eq_true rfl)))) (fun f h1 h2 h3 => (⟨(FI_cg (aL_cg (st_ne ew_17 (by decide))) (aL_cg (st_ne ew_17 (by decide))) (aF_cg (st_ne ew_17 (by decide))) (aF_cg (st_ne ew_17 (by decide))) (aF_cg (st_ne ew_17 (by decide))) (aF_cg (st_ne ew_17 (by decide))) (fI_cg (st_ne ew_17 (by decide))) (fI_cg (st_ne ew_17 (by decide))) (fI_cg (st_ne ew_17 (by decide))) (F_w_16 f h1 h2 h3).1), (F_w_16 f h1 h2 h3).2.cg (aL_cg (st_ne ew_17 (by decide)))⟩ : FI f w_17 ∧ Mo w w_17)) (fun f h1 h2 h3 => (by have g := (RQ_w_16 f h1 h2 h3); rw [show aL w_17 75 = aL w_16 75 from (aL_cg (st_ne ew_17 (by decide))), show fI w_17 64 1 = fI w_16 64 1 from (fI_cg (st_ne ew_17 (by decide)))]; exact g : (aL w_17 75 v_15.toNatClampNeg).toInt < FARz ∧ (v_15 : Int32).toInt < (fI w_17 64 1).toInt)) hP hD hS (lv_sub hl [3, 4, 2, 1, 0] rfl)
  refine lv_iconst (v := 0) hx hb dX2_runQueue_0 (by decide) ?_
  refine lv_istore_n (lv' := [(1, .int 0), (0, .ref (q 74))]) hx hb dX2_runQueue_1 rfl hl (by decide) rfl (fun ls hl => ?_)
  exact J2 _ 0 w _ _ ls (Nat.lt_succ_self _) hW_w Sm.rf (In_lit (n := 0) (by decide) (by decide) : In 0 1000001 0) hf_64_1 hf_64_2 (fun f h1 h2 h3 => (F_w f h1 h2 h3)) hP hD hS (lv_sub hl [1, 0] rfl)
set_option maxRecDepth 100000 in
set_option maxHeartbeats 8000000 in
theorem k_J7_fill_53178_80 (l : Launch) (D : va_G) (cI cJ cZ : ClassId) (q : Nat → Nat) (bb bs bp : Nat) (w : va_W) (hW_w : HT q (TX q cI cJ cZ bb bs bp) w) (p1 : Int32) (i_p1 : In 0 0 p1) (hf_64_1 : In 1 40 (fI w 64 1)) (hf_64_2 : In 1 24 (fI w 64 2)) : Con_v l yJ7_fill_53178 cJ7_fill_53178 4 none ({ frames := 0, cells := 0, slots := 0, locals := 0 }) D cI cJ cZ eW [.ref (q 80), .int p1] w (fun (w1 : va_W) => HT q (TX q cI cJ cZ bb bs bp) w1 ∧ Sm [80] [] w w1 ∧ ((∀ i : Nat, i < 40 → aF w1 80 i = p1))) := by
  refine eQ_v rfl (by decide) (Nat.le_of_ble_eq_true rfl) ⟨rfl, rfl⟩ ?_
  intro p e R s m args below meth c A Q hx hb hml hown hts hK hE hA hR hret hP hD hS ls hl
  have hown : s.vm.findClass RJ7 = some m.cls := hown
  have hl : lv_has ls 4 [(0, .ref (q 80)), (1, .int p1)] := hl
  have J5 : ∀ (N : Nat) (x5_2 : Int32) (x5_3 : Int32) (w5 : va_W) (H : Heap) (locs : List Loc) (ls : Array Slot), (40 - x5_2.toInt).toNat < N → HT q (TX q cI cJ cZ bb bs bp) w5 → Sm [80] [] w w5 → (In 0 0 p1) → (In 0 40 x5_2) → (In 40 40 x5_3) → (In 1 40 (fI w5 64 1)) → (In 1 24 (fI w5 64 2)) → (∀ i : Nat, i < (x5_2 : Int32).toInt.toNat → aF w5 80 i = p1) → va_P D vwCl w5 H → va_D A w5 → va_S A s.heap H locs → lv_has ls 4 [(0, .ref (q 80)), (1, .int p1), (2, .int x5_2), (3, .int x5_3)] → W p l e R s m args below meth c H locs 0 0 Q (F0 m 5 ls []) := by
    intro N
    induction N with
    | zero => intro x5_2 x5_3 w5 H locs ls hmu; exact absurd hmu (Nat.not_lt_zero _)
    | succ N ih5 =>
      intro x5_2 x5_3 w5 H locs ls hmu5 hW_w5 hM_w5 i_x5_1 i_x5_2 i_x5_3 g5_64_1 g5_64_2 hj_5 hP hD hS hl
      refine lv_iload_n hx hb dJ7_fill_53178_5 rfl (lv_at hl 2 rfl) ?_
      refine lv_iload_n hx hb dJ7_fill_53178_6 rfl (lv_at hl 3 rfl) ?_
      refine lv_icmp_ge (tgt := 20) hx hb dJ7_fill_53178_7 (by decide) (fun c_1 => ?_) (fun c_1 => ?_)
      · have lb_c_1 : (x5_3 : Int32).toInt ≤ (x5_2 : Int32).toInt := q_le.mp c_1
        exact hret _ _ _ _ _ hP hD hS dJ7_fill_53178_20 ⟨hW_w5, hM_w5, (fun i hi => hj_5 i (by have q := i_x5_3; unfold In at q; omega))⟩
      · have lb_c_1 : ¬ (x5_3 : Int32).toInt ≤ (x5_2 : Int32).toInt := fun h => c_1 (q_le.mpr h)
        refine lv_aload_n hx hb dJ7_fill_53178_10 rfl (lv_at hl 0 rfl) ?_
        refine lv_iload_n hx hb dJ7_fill_53178_11 rfl (lv_at hl 2 rfl) ?_
        refine lv_iload_n hx hb dJ7_fill_53178_12 rfl (lv_at hl 1 rfl) ?_
        refine va_iast hx hb hK hP hD hS 80 0 (hW_w5.a tX_80) rfl (in_I (R_nle_r i_x5_3 i_x5_2 c_1 (by decide) : In 0 39 x5_2) (by decide)) dJ7_fill_53178_13 (fun H locs hP hD hS => fr_w (hW_w5.uA tX_80 (In_w i_p1 (by decide) : In (-2147483648) 2147483647 p1)) hP hD (fun w_2 ew_2 hW_w_2 hP hD => ?_))
        refine lv_iinc (v := (x5_2 + 1)) (lv' := [(2, .int (x5_2 + 1)), (0, .ref (q 80)), (1, .int p1), (3, .int x5_3)]) hx hb dJ7_fill_53178_14 hl (k := 2) rfl (rfl) (by decide) rfl (fun ls hl => ?_)
        refine lv_goto (tgt := 5) hx hb dJ7_fill_53178_17 (by decide) ?_
        exact ih5 (x5_2 + 1) x5_3 w_2 _ _ ls (mu_inc hmu5 (R_nle_r i_x5_3 i_x5_2 c_1 (by decide) : In 0 39 x5_2) (In_lit (n := 1) (by decide) (by decide) : In 1 1 1) (by decide)) hW_w_2 (hM_w5.sa ew_2 (by decide)) i_p1 (In_w ((In_add (y := 1) (R_nle_r i_x5_3 i_x5_2 c_1 (by decide) : In 0 39 x5_2) (In_lit (n := 1) (by decide) (by decide) : In 1 1 1) (by decide)) : In 1 40 (x5_2 + 1)) (by decide) : In 0 40 (x5_2 + 1)) i_x5_3 (In_of ((fI_cg (st_ne ew_2 (by decide))).trans (hM_w5.gI (by decide))) (In_of (hM_w5.gI (by decide)).symm g5_64_1)) (In_of ((fI_cg (st_ne ew_2 (by decide))).trans (hM_w5.gI (by decide))) (In_of (hM_w5.gI (by decide)).symm g5_64_2)) (fill_si (R_nle_r i_x5_3 i_x5_2 c_1 (by decide) : In 0 39 x5_2) hj_5 (aF_eq (hW_w5.lt tX_80) ew_2)) hP hD hS (lv_sub hl [1, 2, 0, 3] rfl)
  refine lv_iconst (v := 0) hx hb dJ7_fill_53178_0 (by decide) ?_
  refine lv_istore_n (lv' := [(2, .int 0), (0, .ref (q 80)), (1, .int p1)]) hx hb dJ7_fill_53178_1 rfl hl (by decide) rfl (fun ls hl => ?_)
  refine lv_aload_n hx hb dJ7_fill_53178_2 rfl (lv_at hl 1 rfl) ?_
  refine va_alen hx hb hK hP 80 0 (hW_w.a tX_80) rfl (v := 40) (by show Int32.ofNat 40 = 40; decide) dJ7_fill_53178_3 ?_
  refine lv_istore_n (lv' := [(3, .int 40), (2, .int 0), (0, .ref (q 80)), (1, .int p1)]) hx hb dJ7_fill_53178_4 rfl hl (by decide) rfl (fun ls hl => ?_)
  exact J5 _ 0 40 w _ _ ls (Nat.lt_succ_self _) hW_w Sm.rf i_p1 (In_lit (n := 0) (by decide) (by decide) : In 0 40 0) (In_lit (n := 40) (by decide) (by decide) : In 40 40 40) hf_64_1 hf_64_2 (fun i h => absurd h (by have z : (0 : Int32).toInt = 0 := (by decide); omega)) hP hD hS (lv_sub hl [2, 3, 1, 0] rfl)
set_option maxRecDepth 100000 in
set_option maxHeartbeats 8000000 in
theorem k_X2_startQueue (l : Launch) (D : va_G) (cI cJ cZ : ClassId) (q : Nat → Nat) (bb bs bp : Nat) (w : va_W) (hW_w : HT q (TX q cI cJ cZ bb bs bp) w) (hf_64_1 : In 1 40 (fI w 64 1)) (hf_64_2 : In 1 24 (fI w 64 2)) : Con_v l yX2_startQueue cX2_startQueue 1 none ({ frames := 1, cells := 0, slots := 0, locals := 23 }) D cI cJ cZ eW [.ref (q 74)] w (fun (w1 : va_W) => HT q (TX q cI cJ cZ bb bs bp) w1 ∧ Sm [74, 80] [(74, 9), (74, 10)] w w1 ∧ ((fI w1 74 9 = 0 ∧ fI w1 74 10 = 0))) := by
  refine eQ_v rfl (by decide) (Nat.le_of_ble_eq_true rfl) ⟨rfl, rfl⟩ ?_
  intro p e R s m args below meth c A Q hx hb hml hown hts hK hE hA hR hret hP hD hS ls hl
  have hown : s.vm.findClass RX2 = some m.cls := hown
  have hl : lv_has ls 1 [(0, .ref (q 74))] := hl
  refine lv_aload_n hx hb dX2_startQueue_0 rfl (lv_at hl 0 rfl) ?_
  refine lv_iconst (v := 0) hx hb dX2_startQueue_1 (by decide) ?_
  refine pt_X2 hx hb hts hown hK hP hD hS 74 (hW_w.o tX_74) 9 (by decide) wd_480 rfl rfl (ty := .int) (v := .int 0) (by decide +kernel) rfl rfl (hW_w.ll tX_74 (Nat.le_of_ble_eq_true rfl)) dX2_startQueue_2 (fun H locs hP hD hS => fr_w (hW_w.sI tX_74 rfl (In_lit (n := 0) (by decide) (by decide) : In (-2147483648) 2147483647 0)) hP hD (fun w_1 ew_1 hW_w_1 hP hD => ?_))
  refine lv_aload_n hx hb dX2_startQueue_5 rfl (lv_at hl 0 rfl) ?_
  refine lv_iconst (v := 0) hx hb dX2_startQueue_6 (by decide) ?_
  refine pt_X2 hx hb hts hown hK hP hD hS 74 (hW_w_1.o tX_74) 10 (by decide) wd_481 rfl rfl (ty := .int) (v := .int 0) (by decide +kernel) rfl rfl (hW_w_1.ll tX_74 (Nat.le_of_ble_eq_true rfl)) dX2_startQueue_7 (fun H locs hP hD hS => fr_w (hW_w_1.sI tX_74 rfl (In_lit (n := 0) (by decide) (by decide) : In (-2147483648) 2147483647 0)) hP hD (fun w_2 ew_2 hW_w_2 hP hD => ?_))
  refine lv_aload_n hx hb dX2_startQueue_10 rfl (lv_at hl 0 rfl) ?_
  refine gt_X2 hx hb hts hown hK hP 74 (hW_w_2.o tX_74) 8 (by decide) wd_479 rfl (hW_w_2.fr tX_74 rfl) dX2_startQueue_11 ?_
  refine lv_iconst (v := 0) hx hb dX2_startQueue_14 (by decide) ?_
  refine kW_v ⟨rfl, rfl⟩ hP hD hS hA (rW_S (As := [.ref (q 80), .int 0]) (rest := []) hx hb hml hown hts hK hE hP hD (k_J7_fill_53178_80 l D cI cJ cZ q bb bs bp w_2 hW_w_2 0 (In_lit (n := 0) (by decide) (by decide) : In 0 0 0) (In_of ((fI_cg (st_ne ew_2 (by decide))).trans (fI_cg (st_ne ew_1 (by decide)))) hf_64_1) (In_of ((fI_cg (st_ne ew_2 (by decide))).trans (fI_cg (st_ne ew_1 (by decide)))) hf_64_2) _) ⟨⟨rfl, rfl⟩, rfl, rfl⟩ sv_X2_102 ⟨(Nat.le_trans (by decide) hR.1), (Nat.le_trans (by decide) hR.2)⟩ rfl hl.1 rfl (Nat.le_of_ble_eq_true rfl) dX2_startQueue_15) (fun w_3 H locs hw_w_3 hP hD hS => ?_)
  obtain ⟨hW_w_3, hs_w_3, h_5⟩ := hw_w_3
  exact hret _ _ _ _ _ hP hD hS dX2_startQueue_18 ⟨hW_w_3, (((Sm.rf.sf (hW_w.lt tX_74) ew_1 (by decide)).sf (hW_w_1.lt tX_74) ew_2 (by decide)).tr hs_w_3 (by decide)), ⟨((hs_w_3.gI (by decide)).trans ((fI_nej (hW_w_1.lt tX_74) ew_2 (by decide)).trans (fI_eq (hW_w.lt tX_74) ew_1 (hW_w.ll tX_74 (Nat.le_of_ble_eq_true rfl))))), ((hs_w_3.gI (by decide)).trans (fI_eq (hW_w_1.lt tX_74) ew_2 (hW_w_1.ll tX_74 (Nat.le_of_ble_eq_true rfl))))⟩⟩
set_option maxRecDepth 100000 in
set_option maxHeartbeats 8000000 in
theorem k_X2_serves (l : Launch) (D : va_G) (cI cJ cZ : ClassId) (q : Nat → Nat) (bb bs bp : Nat) (w : va_W) (hW_w : HT q (TX q cI cJ cZ bb bs bp) w) (p1 : Int32) (i_p1 : In 0 39 p1) (hf_64_1 : In 1 40 (fI w 64 1)) (hf_64_2 : In 1 24 (fI w 64 2)) (hFL : FL w) (hrow : p1.toInt < (fI w 64 1).toInt) : Con_i l yX2_serves cX2_serves 4 (some .boolean) ({ frames := 4, cells := 0, slots := 0, locals := 101 }) D cI cJ cZ eW [.ref (q 74), .int p1] w (fun (r : Int32) (w1 : va_W) => HT q (TX q cI cJ cZ bb bs bp) w1 ∧ Sm [70, 71, 73, 74, 75, 76, 77, 78, 79, 80] [(74, 9), (74, 10)] w w1 ∧ In 0 1 r) := by
  refine eQ_z rfl (by decide) (Nat.le_of_ble_eq_true rfl) ⟨rfl, rfl⟩ ?_
  intro p e R s m args below meth c A Q hx hb hml hown hts hK hE hA hR hret hP hD hS ls hl
  have hown : s.vm.findClass RX2 = some m.cls := hown
  have hl : lv_has ls 4 [(0, .ref (q 74)), (1, .int p1)] := hl
  have J103 : ∀ (x103_2 : Int32) (x103_3 : Int32) (w103 : va_W) (H : Heap) (locs : List Loc) (ls : Array Slot), HT q (TX q cI cJ cZ bb bs bp) w103 → Sm [70, 71, 73, 74, 75, 76, 77, 78, 79, 80] [(74, 9), (74, 10)] w w103 → (In 0 39 p1) → (In (-1) (-1) x103_2) → (In (-1) 39 x103_3) → (In 1 40 (fI w103 64 1)) → (In 1 24 (fI w103 64 2)) → va_P D vwCl w103 H → va_D A w103 → va_S A s.heap H locs → lv_has ls 4 [(0, .ref (q 74)), (1, .int p1), (2, .int x103_2), (3, .int x103_3)] → W p l e R s m args below meth c H locs 0 0 Q (F0 m 103 ls []) := by
    intro x103_2 x103_3 w103 H locs ls hW_w103 hM_w103 i_x103_1 i_x103_2 i_x103_3 g103_64_1 g103_64_2 hP hD hS hl
    refine lv_iload_n hx hb dX2_serves_103 rfl (lv_at hl 3 rfl) ?_
    refine lv_iconst (v := (-1)) hx hb dX2_serves_104 (by decide) ?_
    refine lv_icmp_eq (tgt := 112) hx hb dX2_serves_105 (by decide) (fun c_1 => ?_) (fun c_1 => ?_)
    · refine lv_iconst (v := 0) hx hb dX2_serves_112 (by decide) ?_
      exact hret _ _ _ _ _ _ hP hD hS dX2_serves_113 (In_lit (n := 0) (by decide) (by decide) : In 0 1 0) ⟨hW_w103, hM_w103, (In_lit (n := 0) (by decide) (by decide) : In 0 1 0)⟩
    · refine lv_iconst (v := 1) hx hb dX2_serves_108 (by decide) ?_
      refine lv_goto (tgt := 113) hx hb dX2_serves_109 (by decide) ?_
      exact hret _ _ _ _ _ _ hP hD hS dX2_serves_113 (In_lit (n := 1) (by decide) (by decide) : In 0 1 1) ⟨hW_w103, hM_w103, (In_lit (n := 1) (by decide) (by decide) : In 0 1 1)⟩
  refine lv_aload_n hx hb dX2_serves_0 rfl (lv_at hl 0 rfl) ?_
  refine gt_X2 hx hb hts hown hK hP 74 (hW_w.o tX_74) 1 (by decide) wd_468 rfl (hW_w.fr tX_74 rfl) dX2_serves_1 ?_
  refine lv_ldc2 hx hb hown (hts _ wd_1104) dX2_serves_4 ?_
  refine kW_v ⟨rfl, rfl⟩ hP hD hS hA (rW_S (As := [.ref (q 75), .long 1152921504606846976]) (rest := []) hx hb hml hown hts hK hE hP hD (k_J7_fill_d0a16_75 l D cI cJ cZ q bb bs bp w hW_w 1152921504606846976 hf_64_1 hf_64_2 _) ⟨⟨rfl, rfl⟩, rfl, rfl⟩ sv_X2_50 ⟨(Nat.le_trans (by decide) hR.1), (Nat.le_trans (by decide) hR.2)⟩ rfl hl.1 rfl (Nat.le_of_ble_eq_true rfl) dX2_serves_7) (fun w_2 H locs hw_w_2 hP hD hS => ?_)
  obtain ⟨hW_w_2, hs_w_2, h_4⟩ := hw_w_2
  refine lv_aload_n hx hb dX2_serves_10 rfl (lv_at hl 0 rfl) ?_
  refine gt_X2 hx hb hts hown hK hP 74 (hW_w_2.o tX_74) 3 (by decide) wd_471 rfl (hW_w_2.fr tX_74 rfl) dX2_serves_11 ?_
  refine lv_ldc2 hx hb hown (hts _ wd_1104) dX2_serves_14 ?_
  refine kW_v ⟨rfl, rfl⟩ hP hD hS hA (rW_S (As := [.ref (q 77), .long 1152921504606846976]) (rest := []) hx hb hml hown hts hK hE hP hD (k_J7_fill_d0a16_77 l D cI cJ cZ q bb bs bp w_2 hW_w_2 1152921504606846976 (In_of (hs_w_2.gI (by decide)) hf_64_1) (In_of (hs_w_2.gI (by decide)) hf_64_2) _) ⟨⟨rfl, rfl⟩, rfl, rfl⟩ sv_X2_50 ⟨(Nat.le_trans (by decide) hR.1), (Nat.le_trans (by decide) hR.2)⟩ rfl hl.1 rfl (Nat.le_of_ble_eq_true rfl) dX2_serves_17) (fun w_5 H locs hw_w_5 hP hD hS => ?_)
  obtain ⟨hW_w_5, hs_w_5, h_7⟩ := hw_w_5
  refine lv_aload_n hx hb dX2_serves_20 rfl (lv_at hl 0 rfl) ?_
  refine kW_v ⟨rfl, rfl⟩ hP hD hS hA (rW_V (As := []) (rest := []) hx hb hml hown hts hK hE hP hD (k_X2_startQueue l D cI cJ cZ q bb bs bp w_5 hW_w_5 (In_of ((hs_w_5.gI (by decide)).trans (hs_w_2.gI (by decide))) hf_64_1) (In_of ((hs_w_5.gI (by decide)).trans (hs_w_2.gI (by decide))) hf_64_2) _) ⟨⟨rfl, rfl⟩, rfl, rfl⟩ sv_X2_56 ⟨(Nat.le_trans (by decide) hR.1), (Nat.le_trans (by decide) hR.2)⟩ 74 2 (hW_w_5.o tX_74) rfl rfl rfl hl.1 rfl (Nat.le_of_ble_eq_true rfl) dX2_serves_21) (fun w_8 H locs hw_w_8 hP hD hS => ?_)
  obtain ⟨hW_w_8, hs_w_8, h_10⟩ := hw_w_8
  refine lv_aload_n hx hb dX2_serves_24 rfl (lv_at hl 0 rfl) ?_
  refine gt_X2 hx hb hts hown hK hP 74 (hW_w_8.o tX_74) 1 (by decide) wd_468 rfl (hW_w_8.fr tX_74 rfl) dX2_serves_25 ?_
  refine lv_iload_n hx hb dX2_serves_28 rfl (lv_at hl 1 rfl) ?_
  refine lv_lconst (v := 0) hx hb dX2_serves_29 (by decide) ?_
  refine va_last hx hb hK hP hD hS 75 1 (hW_w_8.al tX_75) rfl (in_I i_p1 (by decide)) dX2_serves_30 (fun H locs hP hD hS => fr_w (hW_w_8.uL tX_75) hP hD (fun w_11 ew_11 hW_w_11 hP hD => ?_))
  have RS_w_11 : (aL w_11 75 p1.toNatClampNeg).toInt < FARz := (FI_new (w := w_8) (f := p1) (fun r hr => by rw [show aL w_8 75 = aL w_2 75 from ((hs_w_8.hL (by decide)).trans (hs_w_5.hL (by decide))), h_4 r hr]; decide) (fun r hr => by rw [show aL w_8 77 = aL w_5 77 from (hs_w_8.hL (by decide)), h_7 r hr]; decide) h_10.1 h_10.2 (aL_eq (hW_w_8.lt tX_75) ew_11) (aL_cg (st_ne ew_11 (by decide))) (fI_cg (st_ne ew_11 (by decide))) (fI_cg (st_ne ew_11 (by decide)))).2
  have F_w_11 : FI p1 w_11 ∧ True := ⟨(FI_new (w := w_8) (f := p1) (fun r hr => by rw [show aL w_8 75 = aL w_2 75 from ((hs_w_8.hL (by decide)).trans (hs_w_5.hL (by decide))), h_4 r hr]; decide) (fun r hr => by rw [show aL w_8 77 = aL w_5 77 from (hs_w_8.hL (by decide)), h_7 r hr]; decide) h_10.1 h_10.2 (aL_eq (hW_w_8.lt tX_75) ew_11) (aL_cg (st_ne ew_11 (by decide))) (fI_cg (st_ne ew_11 (by decide))) (fI_cg (st_ne ew_11 (by decide)))).1, trivial⟩
  refine lv_aload_n hx hb dX2_serves_31 rfl (lv_at hl 0 rfl) ?_
  refine lv_iload_n hx hb dX2_serves_32 rfl (lv_at hl 1 rfl) ?_
  refine kW_v ⟨rfl, rfl⟩ hP hD hS hA (rW_V (As := [.int p1]) (rest := []) hx hb hml hown hts hK hE hP hD (k_X2_enqueue l D cI cJ cZ q bb bs bp w_11 hW_w_11 p1 i_p1 (In_of ((fI_cg (st_ne ew_11 (by decide))).trans ((hs_w_8.gI (by decide)).trans ((hs_w_5.gI (by decide)).trans (hs_w_2.gI (by decide))))) hf_64_1) (In_of ((fI_cg (st_ne ew_11 (by decide))).trans ((hs_w_8.gI (by decide)).trans ((hs_w_5.gI (by decide)).trans (hs_w_2.gI (by decide))))) hf_64_2) _) ⟨⟨rfl, rfl⟩, rfl, rfl⟩ sv_X2_59 ⟨(Nat.le_trans (by decide) hR.1), (Nat.le_trans (by decide) hR.2)⟩ 74 2 (hW_w_11.o tX_74) rfl rfl rfl hl.1 rfl (Nat.le_of_ble_eq_true rfl) dX2_serves_33) (fun w_12 H locs hw_w_12 hP hD hS => ?_)
  obtain ⟨hW_w_12, hs_w_12, h_14⟩ := hw_w_12
  have F_w_12 : FI p1 w_12 ∧ True := by have a := (F_w_11); have b := h_14 p1 a.1 (FL_cg ((fI_cg (st_ne ew_11 (by decide))).trans ((hs_w_8.gI (by decide)).trans ((hs_w_5.gI (by decide)).trans (hs_w_2.gI (by decide))))) ((fI_cg (st_ne ew_11 (by decide))).trans ((hs_w_8.gI (by decide)).trans ((hs_w_5.gI (by decide)).trans (hs_w_2.gI (by decide))))) ((aF_cg (st_ne ew_11 (by decide))).trans ((hs_w_8.hA (by decide)).trans ((hs_w_5.hA (by decide)).trans (hs_w_2.hA (by decide))))) ((aF_cg (st_ne ew_11 (by decide))).trans ((hs_w_8.hA (by decide)).trans ((hs_w_5.hA (by decide)).trans (hs_w_2.hA (by decide))))) ((aF_cg (st_ne ew_11 (by decide))).trans ((hs_w_8.hA (by decide)).trans ((hs_w_5.hA (by decide)).trans (hs_w_2.hA (by decide))))) hFL) ⟨RS_w_11, (by have e : (fI w_11 64 1).toInt = (fI w 64 1).toInt := congrArg Int32.toInt ((fI_cg (st_ne ew_11 (by decide))).trans ((hs_w_8.gI (by decide)).trans ((hs_w_5.gI (by decide)).trans (hs_w_2.gI (by decide))))); omega)⟩; exact ⟨b.1, trivial⟩
  refine lv_aload_n hx hb dX2_serves_36 rfl (lv_at hl 0 rfl) ?_
  refine kW_v ⟨rfl, rfl⟩ hP hD hS hA (rW_V (As := []) (rest := []) hx hb hml hown hts hK hE hP hD (k_X2_runQueue l D cI cJ cZ q bb bs bp w_12 hW_w_12 (In_of ((hs_w_12.gI (by decide)).trans ((fI_cg (st_ne ew_11 (by decide))).trans ((hs_w_8.gI (by decide)).trans ((hs_w_5.gI (by decide)).trans (hs_w_2.gI (by decide)))))) hf_64_1) (In_of ((hs_w_12.gI (by decide)).trans ((fI_cg (st_ne ew_11 (by decide))).trans ((hs_w_8.gI (by decide)).trans ((hs_w_5.gI (by decide)).trans (hs_w_2.gI (by decide)))))) hf_64_2) _) ⟨⟨rfl, rfl⟩, rfl, rfl⟩ sv_X2_63 ⟨(Nat.le_trans (by decide) hR.1), (Nat.le_trans (by decide) hR.2)⟩ 74 2 (hW_w_12.o tX_74) rfl rfl rfl hl.1 rfl (Nat.le_of_ble_eq_true rfl) dX2_serves_37) (fun w_15 H locs hw_w_15 hP hD hS => ?_)
  obtain ⟨hW_w_15, hs_w_15, h_17⟩ := hw_w_15
  have F_w_15 : FI p1 w_15 ∧ True := by have a := (F_w_12); have b := h_17 p1 a.1 (FL_cg ((hs_w_12.gI (by decide)).trans ((fI_cg (st_ne ew_11 (by decide))).trans ((hs_w_8.gI (by decide)).trans ((hs_w_5.gI (by decide)).trans (hs_w_2.gI (by decide)))))) ((hs_w_12.gI (by decide)).trans ((fI_cg (st_ne ew_11 (by decide))).trans ((hs_w_8.gI (by decide)).trans ((hs_w_5.gI (by decide)).trans (hs_w_2.gI (by decide)))))) ((hs_w_12.hA (by decide)).trans ((aF_cg (st_ne ew_11 (by decide))).trans ((hs_w_8.hA (by decide)).trans ((hs_w_5.hA (by decide)).trans (hs_w_2.hA (by decide)))))) ((hs_w_12.hA (by decide)).trans ((aF_cg (st_ne ew_11 (by decide))).trans ((hs_w_8.hA (by decide)).trans ((hs_w_5.hA (by decide)).trans (hs_w_2.hA (by decide)))))) ((hs_w_12.hA (by decide)).trans ((aF_cg (st_ne ew_11 (by decide))).trans ((hs_w_8.hA (by decide)).trans ((hs_w_5.hA (by decide)).trans (hs_w_2.hA (by decide)))))) hFL) trivial; exact ⟨b.1, trivial⟩
  refine lv_aload_n hx hb dX2_serves_40 rfl (lv_at hl 0 rfl) ?_
  refine kW_i ⟨rfl, rfl⟩ hP hD hS hA (rW_V (As := []) (rest := []) hx hb hml hown hts hK hE hP hD (k_X2_cheapestLeft l D cI cJ cZ q bb bs bp w_15 hW_w_15 (In_of ((hs_w_15.gI (by decide)).trans ((hs_w_12.gI (by decide)).trans ((fI_cg (st_ne ew_11 (by decide))).trans ((hs_w_8.gI (by decide)).trans ((hs_w_5.gI (by decide)).trans (hs_w_2.gI (by decide))))))) hf_64_1) (In_of ((hs_w_15.gI (by decide)).trans ((hs_w_12.gI (by decide)).trans ((fI_cg (st_ne ew_11 (by decide))).trans ((hs_w_8.gI (by decide)).trans ((hs_w_5.gI (by decide)).trans (hs_w_2.gI (by decide))))))) hf_64_2) _) ⟨⟨rfl, rfl⟩, rfl, rfl⟩ sv_X2_66 ⟨(Nat.le_trans (by decide) hR.1), (Nat.le_trans (by decide) hR.2)⟩ 74 2 (hW_w_15.o tX_74) rfl rfl rfl hl.1 rfl (Nat.le_of_ble_eq_true rfl) dX2_serves_41) (fun r_19 w_18 H locs hw_w_18 hP hD hS => ?_)
  obtain ⟨hW_w_18, hs_w_18, i_r_19, h_20⟩ := hw_w_18
  refine lv_istore_n (lv' := [(2, .int r_19), (0, .ref (q 74)), (1, .int p1)]) hx hb dX2_serves_44 rfl hl (by decide) rfl (fun ls hl => ?_)
  refine lv_iload_n hx hb dX2_serves_45 rfl (lv_at hl 0 rfl) ?_
  refine lv_iconst (v := (-1)) hx hb dX2_serves_46 (by decide) ?_
  refine lv_icmp_eq (tgt := 87) hx hb dX2_serves_47 (by decide) (fun c_21 => ?_) (fun c_21 => ?_)
  · refine lv_aload_n hx hb dX2_serves_87 rfl (lv_at hl 1 rfl) ?_
    refine kW_i ⟨rfl, rfl⟩ hP hD hS hA (rW_V (As := []) (rest := []) hx hb hml hown hts hK hE hP hD (k_X2_cheapestLoser l D cI cJ cZ q bb bs bp w_18 hW_w_18 (In_of ((hs_w_18.gI (by decide)).trans ((hs_w_15.gI (by decide)).trans ((hs_w_12.gI (by decide)).trans ((fI_cg (st_ne ew_11 (by decide))).trans ((hs_w_8.gI (by decide)).trans ((hs_w_5.gI (by decide)).trans (hs_w_2.gI (by decide)))))))) hf_64_1) (In_of ((hs_w_18.gI (by decide)).trans ((hs_w_15.gI (by decide)).trans ((hs_w_12.gI (by decide)).trans ((fI_cg (st_ne ew_11 (by decide))).trans ((hs_w_8.gI (by decide)).trans ((hs_w_5.gI (by decide)).trans (hs_w_2.gI (by decide)))))))) hf_64_2) _) ⟨⟨rfl, rfl⟩, rfl, rfl⟩ sv_X2_80 ⟨(Nat.le_trans (by decide) hR.1), (Nat.le_trans (by decide) hR.2)⟩ 74 2 (hW_w_18.o tX_74) rfl rfl rfl hl.1 rfl (Nat.le_of_ble_eq_true rfl) dX2_serves_88) (fun r_23 w_22 H locs hw_w_22 hP hD hS => ?_)
    obtain ⟨hW_w_22, hs_w_22, i_r_23, h_24⟩ := hw_w_22
    refine lv_istore_n (lv' := [(3, .int r_23), (2, .int r_19), (0, .ref (q 74)), (1, .int p1)]) hx hb dX2_serves_91 rfl hl (by decide) rfl (fun ls hl => ?_)
    refine lv_iload_n hx hb dX2_serves_92 rfl (lv_at hl 0 rfl) ?_
    refine lv_iconst (v := (-1)) hx hb dX2_serves_93 (by decide) ?_
    refine lv_icmp_eq (tgt := 103) hx hb dX2_serves_94 (by decide) (fun c_25 => ?_) (fun c_25 => ?_)
    · exact J103 r_19 r_23 w_22 _ _ ls hW_w_22 ((((((((Sm.rf.tr hs_w_2 (by decide)).tr hs_w_5 (by decide)).tr hs_w_8 (by decide)).sa ew_11 (by decide)).tr hs_w_12 (by decide)).tr hs_w_15 (by decide)).tr hs_w_18 (by decide)).tr hs_w_22 (by decide)) i_p1 (R_eq_l i_r_19 (In_lit (n := (-1)) (by decide) (by decide) : In (-1) (-1) (-1)) c_21 (by decide) : In (-1) (-1) r_19) (In_w (R_eq_l i_r_23 (In_lit (n := (-1)) (by decide) (by decide) : In (-1) (-1) (-1)) c_25 (by decide) : In (-1) (-1) r_23) (by decide) : In (-1) 39 r_23) (In_of ((hs_w_22.gI (by decide)).trans ((hs_w_18.gI (by decide)).trans ((hs_w_15.gI (by decide)).trans ((hs_w_12.gI (by decide)).trans ((fI_cg (st_ne ew_11 (by decide))).trans ((hs_w_8.gI (by decide)).trans ((hs_w_5.gI (by decide)).trans (hs_w_2.gI (by decide))))))))) hf_64_1) (In_of ((hs_w_22.gI (by decide)).trans ((hs_w_18.gI (by decide)).trans ((hs_w_15.gI (by decide)).trans ((hs_w_12.gI (by decide)).trans ((fI_cg (st_ne ew_11 (by decide))).trans ((hs_w_8.gI (by decide)).trans ((hs_w_5.gI (by decide)).trans (hs_w_2.gI (by decide))))))))) hf_64_2) hP hD hS (lv_sub hl [2, 3, 1, 0] rfl)
    · refine lv_aload_n hx hb dX2_serves_97 rfl (lv_at hl 2 rfl) ?_
      refine lv_iload_n hx hb dX2_serves_98 rfl (lv_at hl 3 rfl) ?_
      refine lv_iload_n hx hb dX2_serves_99 rfl (lv_at hl 0 rfl) ?_
      refine kW_v ⟨rfl, rfl⟩ hP hD hS hA (rW_V (As := [.int p1, .int r_23]) (rest := []) hx hb hml hown hts hK hE hP hD (k_X2_change l D cI cJ cZ q bb bs bp w_22 hW_w_22 p1 r_23 i_p1 (R_ne_l i_r_23 (In_lit (n := (-1)) (by decide) (by decide) : In (-1) (-1) (-1)) c_25 (by decide) : In 0 39 r_23) (In_of ((hs_w_22.gI (by decide)).trans ((hs_w_18.gI (by decide)).trans ((hs_w_15.gI (by decide)).trans ((hs_w_12.gI (by decide)).trans ((fI_cg (st_ne ew_11 (by decide))).trans ((hs_w_8.gI (by decide)).trans ((hs_w_5.gI (by decide)).trans (hs_w_2.gI (by decide))))))))) hf_64_1) (In_of ((hs_w_22.gI (by decide)).trans ((hs_w_18.gI (by decide)).trans ((hs_w_15.gI (by decide)).trans ((hs_w_12.gI (by decide)).trans ((fI_cg (st_ne ew_11 (by decide))).trans ((hs_w_8.gI (by decide)).trans ((hs_w_5.gI (by decide)).trans (hs_w_2.gI (by decide))))))))) hf_64_2) ((⟨(FI_cg ((hs_w_22.hL (by decide)).trans (hs_w_18.hL (by decide))) ((hs_w_22.hL (by decide)).trans (hs_w_18.hL (by decide))) ((hs_w_22.hA (by decide)).trans (hs_w_18.hA (by decide))) ((hs_w_22.hA (by decide)).trans (hs_w_18.hA (by decide))) ((hs_w_22.hA (by decide)).trans (hs_w_18.hA (by decide))) ((hs_w_22.hA (by decide)).trans (hs_w_18.hA (by decide))) ((hs_w_22.gI (by decide)).trans (hs_w_18.gI (by decide))) ((hs_w_22.gI (by decide)).trans (hs_w_18.gI (by decide))) ((hs_w_22.gI (by decide)).trans (hs_w_18.gI (by decide))) (F_w_15).1), trivial⟩ : FI p1 w_22 ∧ True).1) ((by have q := h_24.resolve_left c_25; have e : aL w_22 75 r_23.toNatClampNeg = aL w_18 75 r_23.toNatClampNeg := congrFun (hs_w_22.hL (by decide)) _; have hz : (0 : Int) < FARz := (by decide); rw [e]; omega)) _) ⟨⟨rfl, rfl⟩, rfl, rfl⟩ sv_X2_77 ⟨(Nat.le_trans (by decide) hR.1), (Nat.le_trans (by decide) hR.2)⟩ 74 2 (hW_w_22.o tX_74) rfl rfl rfl hl.1 rfl (Nat.le_of_ble_eq_true rfl) dX2_serves_100) (fun w_26 H locs hw_w_26 hP hD hS => ?_)
      obtain ⟨hW_w_26, hs_w_26⟩ := hw_w_26
      exact J103 r_19 r_23 w_26 _ _ ls hW_w_26 (((((((((Sm.rf.tr hs_w_2 (by decide)).tr hs_w_5 (by decide)).tr hs_w_8 (by decide)).sa ew_11 (by decide)).tr hs_w_12 (by decide)).tr hs_w_15 (by decide)).tr hs_w_18 (by decide)).tr hs_w_22 (by decide)).tr hs_w_26 (by decide)) i_p1 (R_eq_l i_r_19 (In_lit (n := (-1)) (by decide) (by decide) : In (-1) (-1) (-1)) c_21 (by decide) : In (-1) (-1) r_19) (In_w (R_ne_l i_r_23 (In_lit (n := (-1)) (by decide) (by decide) : In (-1) (-1) (-1)) c_25 (by decide) : In 0 39 r_23) (by decide) : In (-1) 39 r_23) (In_of ((hs_w_26.gI (by decide)).trans ((hs_w_22.gI (by decide)).trans ((hs_w_18.gI (by decide)).trans ((hs_w_15.gI (by decide)).trans ((hs_w_12.gI (by decide)).trans ((fI_cg (st_ne ew_11 (by decide))).trans ((hs_w_8.gI (by decide)).trans ((hs_w_5.gI (by decide)).trans (hs_w_2.gI (by decide)))))))))) hf_64_1) (In_of ((hs_w_26.gI (by decide)).trans ((hs_w_22.gI (by decide)).trans ((hs_w_18.gI (by decide)).trans ((hs_w_15.gI (by decide)).trans ((hs_w_12.gI (by decide)).trans ((fI_cg (st_ne ew_11 (by decide))).trans ((hs_w_8.gI (by decide)).trans ((hs_w_5.gI (by decide)).trans (hs_w_2.gI (by decide)))))))))) hf_64_2) hP hD hS (lv_sub hl [2, 3, 1, 0] rfl)
  · refine lv_aload_n hx hb dX2_serves_50 rfl (lv_at hl 1 rfl) ?_
    refine gt_X2 hx hb hts hown hK hP 74 (hW_w_18.o tX_74) 4 (by decide) wd_473 rfl (hW_w_18.fr tX_74 rfl) dX2_serves_51 ?_
    refine lv_iload_n hx hb dX2_serves_54 rfl (lv_at hl 0 rfl) ?_
    refine lv_bipush (v := 24) hx hb dX2_serves_55 (by decide) ?_
    refine lv_imul hx hb dX2_serves_57 ?_
    refine lv_aload_n hx hb dX2_serves_58 rfl (lv_at hl 1 rfl) ?_
    refine gt_X2 hx hb hts hown hK hP 74 (hW_w_18.o tX_74) 0 (by decide) wd_467 rfl (hW_w_18.fr tX_74 rfl) dX2_serves_59 ?_
    refine gt_X3 hx hb hts hown hK hP 64 (hW_w_18.o tX_64) 2 (by decide) wd_408 rfl (hW_w_18.fi tX_64 rfl) dX2_serves_62 ?_
    refine tov (v := (fI w 64 2)) ((hs_w_18.gI (by decide)).trans ((hs_w_15.gI (by decide)).trans ((hs_w_12.gI (by decide)).trans ((fI_cg (st_ne ew_11 (by decide))).trans ((hs_w_8.gI (by decide)).trans ((hs_w_5.gI (by decide)).trans (hs_w_2.gI (by decide)))))))) ?_
    refine lv_iadd hx hb dX2_serves_65 ?_
    refine lv_iconst (v := 1) hx hb dX2_serves_66 (by decide) ?_
    refine lv_isub hx hb dX2_serves_67 ?_
    refine va_iald hx hb hK hP 78 0 (hW_w_18.a tX_78) rfl (in_I ((In_sub ((In_add ((In_mulr (R_ne_l i_r_19 (In_lit (n := (-1)) (by decide) (by decide) : In (-1) (-1) (-1)) c_21 (by decide) : In 0 9 r_19) (n := 24) (by decide) (by decide)) : In 0 216 (r_19 * 24)) hf_64_2 (by decide)) : In 1 240 ((r_19 * 24) + (fI w 64 2))) (In_lit (n := 1) (by decide) (by decide) : In 1 1 1) (by decide)) : In 0 239 (((r_19 * 24) + (fI w 64 2)) - 1)) (by decide)) dX2_serves_68 ?_
    refine lv_topi (fun v_28 ev_28 => ?_)
    have TK_v_28 := FI_take (i := (((r_19 * 24) + (fI w 64 2)) - 1)) (t := v_28) (⟨(FI_cg (hs_w_18.hL (by decide)) (hs_w_18.hL (by decide)) (hs_w_18.hA (by decide)) (hs_w_18.hA (by decide)) (hs_w_18.hA (by decide)) (hs_w_18.hA (by decide)) (hs_w_18.gI (by decide)) (hs_w_18.gI (by decide)) (hs_w_18.gI (by decide)) (F_w_15).1), trivial⟩ : FI p1 w_18 ∧ True).1 ((In_sub ((In_add ((In_mulr (R_ne_l i_r_19 (In_lit (n := (-1)) (by decide) (by decide) : In (-1) (-1) (-1)) c_21 (by decide) : In 0 9 r_19) (n := 24) (by decide) (by decide)) : In 0 216 (r_19 * 24)) hf_64_2 (by decide)) : In 1 240 ((r_19 * 24) + (fI w 64 2))) (In_lit (n := 1) (by decide) (by decide) : In 1 1 1) (by decide)) : In 0 239 (((r_19 * 24) + (fI w 64 2)) - 1)) (by have q := h_20.resolve_left c_21; rw [show fI w_15 64 2 = fI w 64 2 from ((hs_w_15.gI (by decide)).trans ((hs_w_12.gI (by decide)).trans ((fI_cg (st_ne ew_11 (by decide))).trans ((hs_w_8.gI (by decide)).trans ((hs_w_5.gI (by decide)).trans (hs_w_2.gI (by decide)))))))] at q; have e : aL w_18 77 (((r_19 * 24) + (fI w 64 2)) - 1).toNatClampNeg = aL w_15 77 (((r_19 * 24) + (fI w 64 2)) - 1).toNatClampNeg := congrFun (hs_w_18.hL (by decide)) _; rw [e]; exact q) ev_28 (In_of ev_28 (hW_w_18.ap tX_78 _) : In (-2) 39 v_28)
    refine lv_istore_n (lv' := [(3, .int v_28), (2, .int r_19), (0, .ref (q 74)), (1, .int p1)]) hx hb dX2_serves_69 rfl hl (by decide) rfl (fun ls hl => ?_)
    refine lv_aload_n hx hb dX2_serves_70 rfl (lv_at hl 2 rfl) ?_
    refine gt_X2 hx hb hts hown hK hP 74 (hW_w_18.o tX_74) 0 (by decide) wd_467 rfl (hW_w_18.fr tX_74 rfl) dX2_serves_71 ?_
    refine lv_iload_n hx hb dX2_serves_74 rfl (lv_at hl 0 rfl) ?_
    refine lv_iload_n hx hb dX2_serves_75 rfl (lv_at hl 1 rfl) ?_
    refine kW_v ⟨rfl, rfl⟩ hP hD hS hA (rW_V (As := [.int v_28, .int r_19]) (rest := []) hx hb hml hown hts hK hE hP hD (k_X3_take l D cI cJ cZ q bb bs bp w_18 hW_w_18 v_28 r_19 TK_v_28.1 (R_ne_l i_r_19 (In_lit (n := (-1)) (by decide) (by decide) : In (-1) (-1) (-1)) c_21 (by decide) : In 0 9 r_19) (In_of ((hs_w_18.gI (by decide)).trans ((hs_w_15.gI (by decide)).trans ((hs_w_12.gI (by decide)).trans ((fI_cg (st_ne ew_11 (by decide))).trans ((hs_w_8.gI (by decide)).trans ((hs_w_5.gI (by decide)).trans (hs_w_2.gI (by decide)))))))) hf_64_1) (In_of ((hs_w_18.gI (by decide)).trans ((hs_w_15.gI (by decide)).trans ((hs_w_12.gI (by decide)).trans ((fI_cg (st_ne ew_11 (by decide))).trans ((hs_w_8.gI (by decide)).trans ((hs_w_5.gI (by decide)).trans (hs_w_2.gI (by decide)))))))) hf_64_2) _) ⟨⟨rfl, rfl⟩, rfl, rfl⟩ sv_X2_73 ⟨(Nat.le_trans (by decide) hR.1), (Nat.le_trans (by decide) hR.2)⟩ 64 3 (hW_w_18.o tX_64) rfl rfl rfl hl.1 rfl (Nat.le_of_ble_eq_true rfl) dX2_serves_76) (fun w_29 H locs hw_w_29 hP hD hS => ?_)
    obtain ⟨hW_w_29, hs_w_29⟩ := hw_w_29
    refine lv_aload_n hx hb dX2_serves_79 rfl (lv_at hl 2 rfl) ?_
    refine lv_iload_n hx hb dX2_serves_80 rfl (lv_at hl 3 rfl) ?_
    refine lv_iload_n hx hb dX2_serves_81 rfl (lv_at hl 0 rfl) ?_
    refine kW_v ⟨rfl, rfl⟩ hP hD hS hA (rW_V (As := [.int p1, .int v_28]) (rest := []) hx hb hml hown hts hK hE hP hD (k_X2_change l D cI cJ cZ q bb bs bp w_29 hW_w_29 p1 v_28 i_p1 TK_v_28.1 (In_of ((hs_w_29.gI (by decide)).trans ((hs_w_18.gI (by decide)).trans ((hs_w_15.gI (by decide)).trans ((hs_w_12.gI (by decide)).trans ((fI_cg (st_ne ew_11 (by decide))).trans ((hs_w_8.gI (by decide)).trans ((hs_w_5.gI (by decide)).trans (hs_w_2.gI (by decide))))))))) hf_64_1) (In_of ((hs_w_29.gI (by decide)).trans ((hs_w_18.gI (by decide)).trans ((hs_w_15.gI (by decide)).trans ((hs_w_12.gI (by decide)).trans ((fI_cg (st_ne ew_11 (by decide))).trans ((hs_w_8.gI (by decide)).trans ((hs_w_5.gI (by decide)).trans (hs_w_2.gI (by decide))))))))) hf_64_2) ((⟨(FI_cg ((hs_w_29.hL (by decide)).trans (hs_w_18.hL (by decide))) ((hs_w_29.hL (by decide)).trans (hs_w_18.hL (by decide))) ((hs_w_29.hA (by decide)).trans (hs_w_18.hA (by decide))) ((hs_w_29.hA (by decide)).trans (hs_w_18.hA (by decide))) ((hs_w_29.hA (by decide)).trans (hs_w_18.hA (by decide))) ((hs_w_29.hA (by decide)).trans (hs_w_18.hA (by decide))) ((hs_w_29.gI (by decide)).trans (hs_w_18.gI (by decide))) ((hs_w_29.gI (by decide)).trans (hs_w_18.gI (by decide))) ((hs_w_29.gI (by decide)).trans (hs_w_18.gI (by decide))) (F_w_15).1), trivial⟩ : FI p1 w_29 ∧ True).1) ((by rw [show aL w_29 75 = aL w_18 75 from (hs_w_29.hL (by decide))]; exact TK_v_28.2)) _) ⟨⟨rfl, rfl⟩, rfl, rfl⟩ sv_X2_77 ⟨(Nat.le_trans (by decide) hR.1), (Nat.le_trans (by decide) hR.2)⟩ 74 2 (hW_w_29.o tX_74) rfl rfl rfl hl.1 rfl (Nat.le_of_ble_eq_true rfl) dX2_serves_82) (fun w_31 H locs hw_w_31 hP hD hS => ?_)
    obtain ⟨hW_w_31, hs_w_31⟩ := hw_w_31
    refine lv_iconst (v := 1) hx hb dX2_serves_85 (by decide) ?_
    exact hret _ _ _ _ _ _ hP hD hS dX2_serves_86 (In_lit (n := 1) (by decide) (by decide) : In 0 1 1) ⟨hW_w_31, (((((((((Sm.rf.tr hs_w_2 (by decide)).tr hs_w_5 (by decide)).tr hs_w_8 (by decide)).sa ew_11 (by decide)).tr hs_w_12 (by decide)).tr hs_w_15 (by decide)).tr hs_w_18 (by decide)).tr hs_w_29 (by decide)).tr hs_w_31 (by decide)), (In_lit (n := 1) (by decide) (by decide) : In 0 1 1)⟩
set_option maxRecDepth 100000 in
set_option maxHeartbeats 8000000 in
theorem k_X2_fill (l : Launch) (D : va_G) (cI cJ cZ : ClassId) (q : Nat → Nat) (bb bs bp : Nat) (w : va_W) (hW_w : HT q (TX q cI cJ cZ bb bs bp) w) (hf_64_1 : In 1 40 (fI w 64 1)) (hf_64_2 : In 1 24 (fI w 64 2)) (hFL : FL w) : Con_v l yX2_fill cX2_fill 4 none ({ frames := 5, cells := 0, slots := 0, locals := 124 }) D cI cJ cZ eW [.ref (q 74)] w (fun (w1 : va_W) => HT q (TX q cI cJ cZ bb bs bp) w1 ∧ Sm [70, 71, 73, 74, 75, 76, 77, 78, 79, 80] [(74, 9), (74, 10)] w w1) := by
  refine eQ_v rfl (by decide) (Nat.le_of_ble_eq_true rfl) ⟨rfl, rfl⟩ ?_
  intro p e R s m args below meth c A Q hx hb hml hown hts hK hE hA hR hret hP hD hS ls hl
  have hown : s.vm.findClass RX2 = some m.cls := hown
  have hl : lv_has ls 4 [(0, .ref (q 74))] := hl
  have J2 : ∀ (N : Nat) (x2_1 : Int32) (w2 : va_W) (H : Heap) (locs : List Loc) (ls : Array Slot), (40 - x2_1.toInt).toNat < N → HT q (TX q cI cJ cZ bb bs bp) w2 → Sm [70, 71, 73, 74, 75, 76, 77, 78, 79, 80] [(74, 9), (74, 10)] w w2 → (In 0 40 x2_1) → (In 1 40 (fI w2 64 1)) → (In 1 24 (fI w2 64 2)) → va_P D vwCl w2 H → va_D A w2 → va_S A s.heap H locs → lv_has ls 4 [(0, .ref (q 74)), (1, .int x2_1)] → W p l e R s m args below meth c H locs 0 0 Q (F0 m 2 ls []) := by
    intro N
    induction N with
    | zero => intro x2_1 w2 H locs ls hmu; exact absurd hmu (Nat.not_lt_zero _)
    | succ N ih2 =>
      intro x2_1 w2 H locs ls hmu2 hW_w2 hM_w2 i_x2_1 g2_64_1 g2_64_2 hP hD hS hl
      have J46 : ∀ (x46_2 : Int32) (x46_3 : Int32) (w46 : va_W) (H : Heap) (locs : List Loc) (ls : Array Slot), HT q (TX q cI cJ cZ bb bs bp) w46 → Sm [70, 71, 73, 74, 75, 76, 77, 78, 79, 80] [(74, 9), (74, 10)] w w46 → (In 0 39 x2_1) → (In 0 1 x46_2) → (In 0 2147483647 x46_3) → (In 1 40 (fI w46 64 1)) → (In 1 24 (fI w46 64 2)) → ((x2_1 : Int32).toInt < (fI w 64 1).toInt) → va_P D vwCl w46 H → va_D A w46 → va_S A s.heap H locs → lv_has ls 4 [(0, .ref (q 74)), (1, .int x2_1), (2, .int x46_2), (3, .int x46_3)] → W p l e R s m args below meth c H locs 0 0 Q (F0 m 46 ls []) := by
        intro x46_2 x46_3 w46 H locs ls hW_w46 hM_w46 i_x46_1 i_x46_2 i_x46_3 g46_64_1 g46_64_2 hw_46 hP hD hS hl
        refine lv_iinc (v := (x2_1 + 1)) (lv' := [(1, .int (x2_1 + 1)), (0, .ref (q 74)), (2, .int x46_2), (3, .int x46_3)]) hx hb dX2_fill_46 hl (k := 1) rfl (rfl) (by decide) rfl (fun ls hl => ?_)
        refine lv_goto (tgt := 2) hx hb dX2_fill_49 (by decide) ?_
        exact ih2 (x2_1 + 1) w46 _ _ ls (mu_inc hmu2 i_x46_1 (In_lit (n := 1) (by decide) (by decide) : In 1 1 1) (by decide)) hW_w46 hM_w46 (In_w ((In_add (y := 1) i_x46_1 (In_lit (n := 1) (by decide) (by decide) : In 1 1 1) (by decide)) : In 1 40 (x2_1 + 1)) (by decide) : In 0 40 (x2_1 + 1)) (In_of (hM_w46.gI (by decide)) (In_of (hM_w46.gI (by decide)).symm g46_64_1)) (In_of (hM_w46.gI (by decide)) (In_of (hM_w46.gI (by decide)).symm g46_64_2)) hP hD hS (lv_sub hl [1, 0] rfl)
      have J17 : ∀ (N : Nat) (x17_2 : Int32) (x17_3 : Int32) (w17 : va_W) (H : Heap) (locs : List Loc) (ls : Array Slot), (2147483647 - x17_3.toInt).toNat < N → HT q (TX q cI cJ cZ bb bs bp) w17 → Sm [70, 71, 73, 74, 75, 76, 77, 78, 79, 80] [(74, 9), (74, 10)] w w17 → (In 0 39 x2_1) → (In 0 1 x17_2) → (In 0 2147483647 x17_3) → (In 1 40 (fI w17 64 1)) → (In 1 24 (fI w17 64 2)) → ((x2_1 : Int32).toInt < (fI w 64 1).toInt) → va_P D vwCl w17 H → va_D A w17 → va_S A s.heap H locs → lv_has ls 4 [(0, .ref (q 74)), (1, .int x2_1), (2, .int x17_2), (3, .int x17_3)] → W p l e R s m args below meth c H locs 0 0 Q (F0 m 17 ls []) := by
        intro N
        induction N with
        | zero => intro x17_2 x17_3 w17 H locs ls hmu; exact absurd hmu (Nat.not_lt_zero _)
        | succ N ih17 =>
          intro x17_2 x17_3 w17 H locs ls hmu17 hW_w17 hM_w17 i_x17_1 i_x17_2 i_x17_3 g17_64_1 g17_64_2 hw_17 hP hD hS hl
          refine lv_iload_n hx hb dX2_fill_17 rfl (lv_at hl 3 rfl) ?_
          refine lv_aload_n hx hb dX2_fill_18 rfl (lv_at hl 0 rfl) ?_
          refine gt_X2 hx hb hts hown hK hP 74 (hW_w17.o tX_74) 0 (by decide) wd_467 rfl (hW_w17.fr tX_74 rfl) dX2_fill_19 ?_
          refine gt_X3 hx hb hts hown hK hP 64 (hW_w17.o tX_64) 6 (by decide) wd_420 rfl (hW_w17.fr tX_64 rfl) dX2_fill_22 ?_
          refine lv_iload_n hx hb dX2_fill_25 rfl (lv_at hl 1 rfl) ?_
          refine va_iald hx hb hK hP 68 0 (hW_w17.a tX_68) rfl (in_I i_x17_1 (by decide)) dX2_fill_26 ?_
          refine lv_topi (fun v_1 ev_1 => ?_)
          refine lv_icmp_ge (tgt := 46) hx hb dX2_fill_27 (by decide) (fun c_2 => ?_) (fun c_2 => ?_)
          · have lb_c_2 : (v_1 : Int32).toInt ≤ (x17_3 : Int32).toInt := q_le.mp c_2
            exact J46 x17_2 x17_3 w17 _ _ ls hW_w17 hM_w17 i_x17_1 i_x17_2 i_x17_3 (In_of (hM_w17.gI (by decide)) (In_of (hM_w17.gI (by decide)).symm g17_64_1)) (In_of (hM_w17.gI (by decide)) (In_of (hM_w17.gI (by decide)).symm g17_64_2)) (by omega) hP hD hS (lv_sub hl [0, 1, 2, 3] rfl)
          · have lb_c_2 : ¬ (v_1 : Int32).toInt ≤ (x17_3 : Int32).toInt := fun h => c_2 (q_le.mpr h)
            refine lv_iload_n hx hb dX2_fill_30 rfl (lv_at hl 2 rfl) ?_
            refine lv_if_eq (tgt := 46) hx hb dX2_fill_31 (by decide) (fun c_3 => ?_) (fun c_3 => ?_)
            · exact J46 x17_2 x17_3 w17 _ _ ls hW_w17 hM_w17 i_x17_1 (In_w (R_eq_l i_x17_2 (In_lit (n := 0) (by decide) (by decide) : In 0 0 0) c_3 (by decide) : In 0 0 x17_2) (by decide) : In 0 1 x17_2) (In_w (R_nle_r (In_any _) i_x17_3 c_2 (by decide) : In 0 2147483646 x17_3) (by decide) : In 0 2147483647 x17_3) (In_of (hM_w17.gI (by decide)) (In_of (hM_w17.gI (by decide)).symm g17_64_1)) (In_of (hM_w17.gI (by decide)) (In_of (hM_w17.gI (by decide)).symm g17_64_2)) (by omega) hP hD hS (lv_sub hl [0, 1, 2, 3] rfl)
            · refine lv_aload_n hx hb dX2_fill_34 rfl (lv_at hl 0 rfl) ?_
              refine lv_iload_n hx hb dX2_fill_35 rfl (lv_at hl 1 rfl) ?_
              refine kW_i ⟨rfl, rfl⟩ hP hD hS hA (rW_V (As := [.int x2_1]) (rest := []) hx hb hml hown hts hK hE hP hD (k_X2_serves l D cI cJ cZ q bb bs bp w17 hW_w17 x2_1 i_x17_1 (In_of (hM_w17.gI (by decide)) (In_of (hM_w17.gI (by decide)).symm g17_64_1)) (In_of (hM_w17.gI (by decide)) (In_of (hM_w17.gI (by decide)).symm g17_64_2)) (FL_cg (hM_w17.gI (by decide)) (hM_w17.gI (by decide)) (hM_w17.hA (by decide)) (hM_w17.hA (by decide)) (hM_w17.hA (by decide)) hFL) (by have e : (fI w17 64 1).toInt = (fI w 64 1).toInt := congrArg Int32.toInt (hM_w17.gI (by decide)); omega) _) ⟨⟨rfl, rfl⟩, rfl, rfl⟩ sv_X2_44 ⟨(Nat.le_trans (by decide) hR.1), (Nat.le_trans (by decide) hR.2)⟩ 74 2 (hW_w17.o tX_74) rfl rfl rfl hl.1 rfl (Nat.le_of_ble_eq_true rfl) dX2_fill_36) (fun r_5 w_4 H locs hw_w_4 hP hD hS => ?_)
              obtain ⟨hW_w_4, hs_w_4, i_r_5⟩ := hw_w_4
              refine lv_istore_n (lv' := [(2, .int r_5), (0, .ref (q 74)), (1, .int x2_1), (3, .int x17_3)]) hx hb dX2_fill_39 rfl hl (by decide) rfl (fun ls hl => ?_)
              refine lv_iinc (v := (x17_3 + 1)) (lv' := [(3, .int (x17_3 + 1)), (2, .int r_5), (0, .ref (q 74)), (1, .int x2_1)]) hx hb dX2_fill_40 hl (k := 3) rfl (rfl) (by decide) rfl (fun ls hl => ?_)
              refine lv_goto (tgt := 17) hx hb dX2_fill_43 (by decide) ?_
              exact ih17 r_5 (x17_3 + 1) w_4 _ _ ls (mu_inc hmu17 (R_nle_r (In_any _) i_x17_3 c_2 (by decide) : In 0 2147483646 x17_3) (In_lit (n := 1) (by decide) (by decide) : In 1 1 1) (by decide)) hW_w_4 (hM_w17.tr hs_w_4 (by decide)) i_x17_1 i_r_5 (In_w ((In_add (y := 1) (R_nle_r (In_any _) i_x17_3 c_2 (by decide) : In 0 2147483646 x17_3) (In_lit (n := 1) (by decide) (by decide) : In 1 1 1) (by decide)) : In 1 2147483647 (x17_3 + 1)) (by decide) : In 0 2147483647 (x17_3 + 1)) (In_of ((hs_w_4.gI (by decide)).trans (hM_w17.gI (by decide))) (In_of (hM_w17.gI (by decide)).symm g17_64_1)) (In_of ((hs_w_4.gI (by decide)).trans (hM_w17.gI (by decide))) (In_of (hM_w17.gI (by decide)).symm g17_64_2)) (by omega) hP hD hS (lv_sub hl [2, 3, 1, 0] rfl)
      refine lv_iload_n hx hb dX2_fill_2 rfl (lv_at hl 1 rfl) ?_
      refine lv_aload_n hx hb dX2_fill_3 rfl (lv_at hl 0 rfl) ?_
      refine gt_X2 hx hb hts hown hK hP 74 (hW_w2.o tX_74) 0 (by decide) wd_467 rfl (hW_w2.fr tX_74 rfl) dX2_fill_4 ?_
      refine gt_X3 hx hb hts hown hK hP 64 (hW_w2.o tX_64) 1 (by decide) wd_405 rfl (hW_w2.fi tX_64 rfl) dX2_fill_7 ?_
      refine tov (v := (fI w 64 1)) (hM_w2.gI (by decide)) ?_
      refine lv_icmp_ge (tgt := 52) hx hb dX2_fill_10 (by decide) (fun c_6 => ?_) (fun c_6 => ?_)
      · have lb_c_6 : ((fI w 64 1) : Int32).toInt ≤ (x2_1 : Int32).toInt := q_le.mp c_6
        exact hret _ _ _ _ _ hP hD hS dX2_fill_52 ⟨hW_w2, hM_w2⟩
      · have lb_c_6 : ¬ ((fI w 64 1) : Int32).toInt ≤ (x2_1 : Int32).toInt := fun h => c_6 (q_le.mpr h)
        refine lv_iconst (v := 1) hx hb dX2_fill_13 (by decide) ?_
        refine lv_istore_n (lv' := [(2, .int 1), (0, .ref (q 74)), (1, .int x2_1)]) hx hb dX2_fill_14 rfl hl (by decide) rfl (fun ls hl => ?_)
        refine lv_iconst (v := 0) hx hb dX2_fill_15 (by decide) ?_
        refine lv_istore_n (lv' := [(3, .int 0), (2, .int 1), (0, .ref (q 74)), (1, .int x2_1)]) hx hb dX2_fill_16 rfl hl (by decide) rfl (fun ls hl => ?_)
        exact J17 _ 1 0 w2 _ _ ls (Nat.lt_succ_self _) hW_w2 hM_w2 (R_nle_r (In_of (hM_w2.gI (by decide)).symm g2_64_1) i_x2_1 c_6 (by decide) : In 0 39 x2_1) (In_lit (n := 1) (by decide) (by decide) : In 0 1 1) (In_lit (n := 0) (by decide) (by decide) : In 0 2147483647 0) (In_of (hM_w2.gI (by decide)) (In_of (hM_w2.gI (by decide)).symm g2_64_1)) (In_of (hM_w2.gI (by decide)) (In_of (hM_w2.gI (by decide)).symm g2_64_2)) (by omega) hP hD hS (lv_sub hl [2, 3, 1, 0] rfl)
  refine lv_iconst (v := 0) hx hb dX2_fill_0 (by decide) ?_
  refine lv_istore_n (lv' := [(1, .int 0), (0, .ref (q 74))]) hx hb dX2_fill_1 rfl hl (by decide) rfl (fun ls hl => ?_)
  exact J2 _ 0 w _ _ ls (Nat.lt_succ_self _) hW_w Sm.rf (In_lit (n := 0) (by decide) (by decide) : In 0 40 0) hf_64_1 hf_64_2 hP hD hS (lv_sub hl [1, 0] rfl)
set_option maxRecDepth 100000 in
set_option maxHeartbeats 8000000 in
theorem k_X2_levelDue (l : Launch) (D : va_G) (cI cJ cZ : ClassId) (q : Nat → Nat) (bb bs bp : Nat) (w : va_W) (hW_w : HT q (TX q cI cJ cZ bb bs bp) w) (hf_64_1 : In 1 40 (fI w 64 1)) (hf_64_2 : In 1 24 (fI w 64 2)) : Con_v l yX2_levelDue cX2_levelDue 2 none ({ frames := 1, cells := 0, slots := 0, locals := 23 }) D cI cJ cZ eW [.ref (q 74)] w (fun (w1 : va_W) => HT q (TX q cI cJ cZ bb bs bp) w1 ∧ Sm [74, 75, 79, 80] [(74, 5), (74, 10)] w w1) := by
  refine eQ_v rfl (by decide) (Nat.le_of_ble_eq_true rfl) ⟨rfl, rfl⟩ ?_
  intro p e R s m args below meth c A Q hx hb hml hown hts hK hE hA hR hret hP hD hS ls hl
  have hown : s.vm.findClass RX2 = some m.cls := hown
  have hl : lv_has ls 2 [(0, .ref (q 74))] := hl
  have J50 : ∀ (N : Nat) (x50_1 : Int32) (w50 : va_W) (H : Heap) (locs : List Loc) (ls : Array Slot), (40 - x50_1.toInt).toNat < N → HT q (TX q cI cJ cZ bb bs bp) w50 → Sm [74, 75, 79, 80] [(74, 5), (74, 10)] w w50 → (In 0 40 x50_1) → (In 1 40 (fI w50 64 1)) → (In 1 24 (fI w50 64 2)) → va_P D vwCl w50 H → va_D A w50 → va_S A s.heap H locs → lv_has ls 2 [(0, .ref (q 74)), (1, .int x50_1)] → W p l e R s m args below meth c H locs 0 0 Q (F0 m 50 ls []) := by
    intro N
    induction N with
    | zero => intro x50_1 w50 H locs ls hmu; exact absurd hmu (Nat.not_lt_zero _)
    | succ N ih50 =>
      intro x50_1 w50 H locs ls hmu50 hW_w50 hM_w50 i_x50_1 g50_64_1 g50_64_2 hP hD hS hl
      have J111 : ∀ (w111 : va_W) (H : Heap) (locs : List Loc) (ls : Array Slot), HT q (TX q cI cJ cZ bb bs bp) w111 → Sm [74, 75, 79, 80] [(74, 5), (74, 10)] w w111 → (In 0 39 x50_1) → (In 1 40 (fI w111 64 1)) → (In 1 24 (fI w111 64 2)) → va_P D vwCl w111 H → va_D A w111 → va_S A s.heap H locs → lv_has ls 2 [(0, .ref (q 74)), (1, .int x50_1)] → W p l e R s m args below meth c H locs 0 0 Q (F0 m 111 ls []) := by
        intro w111 H locs ls hW_w111 hM_w111 i_x111_1 g111_64_1 g111_64_2 hP hD hS hl
        refine lv_iinc (v := (x50_1 + 1)) (lv' := [(1, .int (x50_1 + 1)), (0, .ref (q 74))]) hx hb dX2_levelDue_111 hl (k := 1) rfl (rfl) (by decide) rfl (fun ls hl => ?_)
        refine lv_goto (tgt := 50) hx hb dX2_levelDue_114 (by decide) ?_
        exact ih50 (x50_1 + 1) w111 _ _ ls (mu_inc hmu50 i_x111_1 (In_lit (n := 1) (by decide) (by decide) : In 1 1 1) (by decide)) hW_w111 hM_w111 (In_w ((In_add (y := 1) i_x111_1 (In_lit (n := 1) (by decide) (by decide) : In 1 1 1) (by decide)) : In 1 40 (x50_1 + 1)) (by decide) : In 0 40 (x50_1 + 1)) (In_of (hM_w111.gI (by decide)) (In_of (hM_w111.gI (by decide)).symm g111_64_1)) (In_of (hM_w111.gI (by decide)) (In_of (hM_w111.gI (by decide)).symm g111_64_2)) hP hD hS (lv_sub hl [1, 0] rfl)
      refine lv_iload_n hx hb dX2_levelDue_50 rfl (lv_at hl 1 rfl) ?_
      refine lv_aload_n hx hb dX2_levelDue_51 rfl (lv_at hl 0 rfl) ?_
      refine gt_X2 hx hb hts hown hK hP 74 (hW_w50.o tX_74) 0 (by decide) wd_467 rfl (hW_w50.fr tX_74 rfl) dX2_levelDue_52 ?_
      refine gt_X3 hx hb hts hown hK hP 64 (hW_w50.o tX_64) 1 (by decide) wd_405 rfl (hW_w50.fi tX_64 rfl) dX2_levelDue_55 ?_
      refine tov (v := (fI w 64 1)) (hM_w50.gI (by decide)) ?_
      refine lv_icmp_ge (tgt := 117) hx hb dX2_levelDue_58 (by decide) (fun c_1 => ?_) (fun c_1 => ?_)
      · exact hret _ _ _ _ _ hP hD hS dX2_levelDue_117 ⟨hW_w50, hM_w50⟩
      · refine lv_aload_n hx hb dX2_levelDue_61 rfl (lv_at hl 0 rfl) ?_
        refine gt_X2 hx hb hts hown hK hP 74 (hW_w50.o tX_74) 0 (by decide) wd_467 rfl (hW_w50.fr tX_74 rfl) dX2_levelDue_62 ?_
        refine gt_X3 hx hb hts hown hK hP 64 (hW_w50.o tX_64) 9 (by decide) wd_431 rfl (hW_w50.fr tX_64 rfl) dX2_levelDue_65 ?_
        refine lv_iload_n hx hb dX2_levelDue_68 rfl (lv_at hl 1 rfl) ?_
        refine va_iald hx hb hK hP 71 0 (hW_w50.a tX_71) rfl (in_I (R_nle_r (In_of (hM_w50.gI (by decide)).symm g50_64_1) i_x50_1 c_1 (by decide) : In 0 39 x50_1) (by decide)) dX2_levelDue_69 ?_
        refine lv_topi (fun v_2 ev_2 => ?_)
        refine lv_aload_n hx hb dX2_levelDue_70 rfl (lv_at hl 0 rfl) ?_
        refine gt_X2 hx hb hts hown hK hP 74 (hW_w50.o tX_74) 0 (by decide) wd_467 rfl (hW_w50.fr tX_74 rfl) dX2_levelDue_71 ?_
        refine gt_X3 hx hb hts hown hK hP 64 (hW_w50.o tX_64) 6 (by decide) wd_420 rfl (hW_w50.fr tX_64 rfl) dX2_levelDue_74 ?_
        refine lv_iload_n hx hb dX2_levelDue_77 rfl (lv_at hl 1 rfl) ?_
        refine va_iald hx hb hK hP 68 0 (hW_w50.a tX_68) rfl (in_I (R_nle_r (In_of (hM_w50.gI (by decide)).symm g50_64_1) i_x50_1 c_1 (by decide) : In 0 39 x50_1) (by decide)) dX2_levelDue_78 ?_
        refine lv_topi (fun v_3 ev_3 => ?_)
        refine lv_icmp_ge (tgt := 111) hx hb dX2_levelDue_79 (by decide) (fun c_4 => ?_) (fun c_4 => ?_)
        · exact J111 w50 _ _ ls hW_w50 hM_w50 (R_nle_r (In_of (hM_w50.gI (by decide)).symm g50_64_1) i_x50_1 c_1 (by decide) : In 0 39 x50_1) (In_of (hM_w50.gI (by decide)) (In_of (hM_w50.gI (by decide)).symm g50_64_1)) (In_of (hM_w50.gI (by decide)) (In_of (hM_w50.gI (by decide)).symm g50_64_2)) hP hD hS (lv_sub hl [0, 1] rfl)
        · refine lv_aload_n hx hb dX2_levelDue_82 rfl (lv_at hl 0 rfl) ?_
          refine gt_X2 hx hb hts hown hK hP 74 (hW_w50.o tX_74) 1 (by decide) wd_468 rfl (hW_w50.fr tX_74 rfl) dX2_levelDue_83 ?_
          refine lv_iload_n hx hb dX2_levelDue_86 rfl (lv_at hl 1 rfl) ?_
          refine va_lald hx hb hK hP 75 1 (hW_w50.al tX_75) rfl (in_I (R_nle_r (In_of (hM_w50.gI (by decide)).symm g50_64_1) i_x50_1 c_1 (by decide) : In 0 39 x50_1) (by decide)) dX2_levelDue_87 ?_
          refine lv_topl (fun v_5 ev_5 => ?_)
          refine lv_aload_n hx hb dX2_levelDue_88 rfl (lv_at hl 0 rfl) ?_
          refine gt_X2 hx hb hts hown hK hP 74 (hW_w50.o tX_74) 5 (by decide) wd_474 rfl (hW_w50.fl tX_74 rfl) dX2_levelDue_89 ?_
          refine W.lcmp hx hb dX2_levelDue_92 ?_
          refine lv_topi (fun v_6 ev_6 => ?_)
          refine lv_if_le (tgt := 111) hx hb dX2_levelDue_93 (by decide) (fun c_7 => ?_) (fun c_7 => ?_)
          · exact J111 w50 _ _ ls hW_w50 hM_w50 (R_nle_r (In_of (hM_w50.gI (by decide)).symm g50_64_1) i_x50_1 c_1 (by decide) : In 0 39 x50_1) (In_of (hM_w50.gI (by decide)) (In_of (hM_w50.gI (by decide)).symm g50_64_1)) (In_of (hM_w50.gI (by decide)) (In_of (hM_w50.gI (by decide)).symm g50_64_2)) hP hD hS (lv_sub hl [0, 1] rfl)
          · refine lv_aload_n hx hb dX2_levelDue_96 rfl (lv_at hl 0 rfl) ?_
            refine gt_X2 hx hb hts hown hK hP 74 (hW_w50.o tX_74) 1 (by decide) wd_468 rfl (hW_w50.fr tX_74 rfl) dX2_levelDue_97 ?_
            refine lv_iload_n hx hb dX2_levelDue_100 rfl (lv_at hl 1 rfl) ?_
            refine lv_aload_n hx hb dX2_levelDue_101 rfl (lv_at hl 0 rfl) ?_
            refine gt_X2 hx hb hts hown hK hP 74 (hW_w50.o tX_74) 5 (by decide) wd_474 rfl (hW_w50.fl tX_74 rfl) dX2_levelDue_102 ?_
            refine va_last hx hb hK hP hD hS 75 1 (hW_w50.al tX_75) rfl (in_I (R_nle_r (In_of (hM_w50.gI (by decide)).symm g50_64_1) i_x50_1 c_1 (by decide) : In 0 39 x50_1) (by decide)) dX2_levelDue_105 (fun H locs hP hD hS => fr_w (hW_w50.uL tX_75) hP hD (fun w_8 ew_8 hW_w_8 hP hD => ?_))
            refine lv_aload_n hx hb dX2_levelDue_106 rfl (lv_at hl 0 rfl) ?_
            refine lv_iload_n hx hb dX2_levelDue_107 rfl (lv_at hl 1 rfl) ?_
            refine kW_v ⟨rfl, rfl⟩ hP hD hS hA (rW_V (As := [.int x50_1]) (rest := []) hx hb hml hown hts hK hE hP hD (k_X2_enqueue l D cI cJ cZ q bb bs bp w_8 hW_w_8 x50_1 (R_nle_r (In_of (hM_w50.gI (by decide)).symm g50_64_1) i_x50_1 c_1 (by decide) : In 0 39 x50_1) (In_of ((fI_cg (st_ne ew_8 (by decide))).trans (hM_w50.gI (by decide))) (In_of (hM_w50.gI (by decide)).symm g50_64_1)) (In_of ((fI_cg (st_ne ew_8 (by decide))).trans (hM_w50.gI (by decide))) (In_of (hM_w50.gI (by decide)).symm g50_64_2)) _) ⟨⟨rfl, rfl⟩, rfl, rfl⟩ sv_X2_59 ⟨(Nat.le_trans (by decide) hR.1), (Nat.le_trans (by decide) hR.2)⟩ 74 2 (hW_w_8.o tX_74) rfl rfl rfl hl.1 rfl (Nat.le_of_ble_eq_true rfl) dX2_levelDue_108) (fun w_9 H locs hw_w_9 hP hD hS => ?_)
            obtain ⟨hW_w_9, hs_w_9, h_11⟩ := hw_w_9
            exact J111 w_9 _ _ ls hW_w_9 ((hM_w50.sa ew_8 (by decide)).tr hs_w_9 (by decide)) (R_nle_r (In_of (hM_w50.gI (by decide)).symm g50_64_1) i_x50_1 c_1 (by decide) : In 0 39 x50_1) (In_of ((hs_w_9.gI (by decide)).trans ((fI_cg (st_ne ew_8 (by decide))).trans (hM_w50.gI (by decide)))) (In_of (hM_w50.gI (by decide)).symm g50_64_1)) (In_of ((hs_w_9.gI (by decide)).trans ((fI_cg (st_ne ew_8 (by decide))).trans (hM_w50.gI (by decide)))) (In_of (hM_w50.gI (by decide)).symm g50_64_2)) hP hD hS (lv_sub hl [0, 1] rfl)
  have J2 : ∀ (N : Nat) (x2_1 : Int32) (w2 : va_W) (H : Heap) (locs : List Loc) (ls : Array Slot), (40 - x2_1.toInt).toNat < N → HT q (TX q cI cJ cZ bb bs bp) w2 → Sm [74, 75, 79, 80] [(74, 5), (74, 10)] w w2 → (In 0 40 x2_1) → (In 1 40 (fI w2 64 1)) → (In 1 24 (fI w2 64 2)) → va_P D vwCl w2 H → va_D A w2 → va_S A s.heap H locs → lv_has ls 2 [(0, .ref (q 74)), (1, .int x2_1)] → W p l e R s m args below meth c H locs 0 0 Q (F0 m 2 ls []) := by
    intro N
    induction N with
    | zero => intro x2_1 w2 H locs ls hmu; exact absurd hmu (Nat.not_lt_zero _)
    | succ N ih2 =>
      intro x2_1 w2 H locs ls hmu2 hW_w2 hM_w2 i_x2_1 g2_64_1 g2_64_2 hP hD hS hl
      have J42 : ∀ (w42 : va_W) (H : Heap) (locs : List Loc) (ls : Array Slot), HT q (TX q cI cJ cZ bb bs bp) w42 → Sm [74, 75, 79, 80] [(74, 5), (74, 10)] w w42 → (In 0 39 x2_1) → (In 1 40 (fI w42 64 1)) → (In 1 24 (fI w42 64 2)) → va_P D vwCl w42 H → va_D A w42 → va_S A s.heap H locs → lv_has ls 2 [(0, .ref (q 74)), (1, .int x2_1)] → W p l e R s m args below meth c H locs 0 0 Q (F0 m 42 ls []) := by
        intro w42 H locs ls hW_w42 hM_w42 i_x42_1 g42_64_1 g42_64_2 hP hD hS hl
        refine lv_iinc (v := (x2_1 + 1)) (lv' := [(1, .int (x2_1 + 1)), (0, .ref (q 74))]) hx hb dX2_levelDue_42 hl (k := 1) rfl (rfl) (by decide) rfl (fun ls hl => ?_)
        refine lv_goto (tgt := 2) hx hb dX2_levelDue_45 (by decide) ?_
        exact ih2 (x2_1 + 1) w42 _ _ ls (mu_inc hmu2 i_x42_1 (In_lit (n := 1) (by decide) (by decide) : In 1 1 1) (by decide)) hW_w42 hM_w42 (In_w ((In_add (y := 1) i_x42_1 (In_lit (n := 1) (by decide) (by decide) : In 1 1 1) (by decide)) : In 1 40 (x2_1 + 1)) (by decide) : In 0 40 (x2_1 + 1)) (In_of (hM_w42.gI (by decide)) (In_of (hM_w42.gI (by decide)).symm g42_64_1)) (In_of (hM_w42.gI (by decide)) (In_of (hM_w42.gI (by decide)).symm g42_64_2)) hP hD hS (lv_sub hl [1, 0] rfl)
      refine lv_iload_n hx hb dX2_levelDue_2 rfl (lv_at hl 1 rfl) ?_
      refine lv_aload_n hx hb dX2_levelDue_3 rfl (lv_at hl 0 rfl) ?_
      refine gt_X2 hx hb hts hown hK hP 74 (hW_w2.o tX_74) 0 (by decide) wd_467 rfl (hW_w2.fr tX_74 rfl) dX2_levelDue_4 ?_
      refine gt_X3 hx hb hts hown hK hP 64 (hW_w2.o tX_64) 1 (by decide) wd_405 rfl (hW_w2.fi tX_64 rfl) dX2_levelDue_7 ?_
      refine tov (v := (fI w 64 1)) (hM_w2.gI (by decide)) ?_
      refine lv_icmp_ge (tgt := 48) hx hb dX2_levelDue_10 (by decide) (fun c_12 => ?_) (fun c_12 => ?_)
      · refine lv_iconst (v := 0) hx hb dX2_levelDue_48 (by decide) ?_
        refine lv_istore_n (lv' := [(1, .int 0), (0, .ref (q 74))]) hx hb dX2_levelDue_49 rfl hl (by decide) rfl (fun ls hl => ?_)
        exact J50 _ 0 w2 _ _ ls (Nat.lt_succ_self _) hW_w2 hM_w2 (In_lit (n := 0) (by decide) (by decide) : In 0 40 0) (In_of (hM_w2.gI (by decide)) (In_of (hM_w2.gI (by decide)).symm g2_64_1)) (In_of (hM_w2.gI (by decide)) (In_of (hM_w2.gI (by decide)).symm g2_64_2)) hP hD hS (lv_sub hl [1, 0] rfl)
      · refine lv_aload_n hx hb dX2_levelDue_13 rfl (lv_at hl 0 rfl) ?_
        refine gt_X2 hx hb hts hown hK hP 74 (hW_w2.o tX_74) 0 (by decide) wd_467 rfl (hW_w2.fr tX_74 rfl) dX2_levelDue_14 ?_
        refine gt_X3 hx hb hts hown hK hP 64 (hW_w2.o tX_64) 9 (by decide) wd_431 rfl (hW_w2.fr tX_64 rfl) dX2_levelDue_17 ?_
        refine lv_iload_n hx hb dX2_levelDue_20 rfl (lv_at hl 1 rfl) ?_
        refine va_iald hx hb hK hP 71 0 (hW_w2.a tX_71) rfl (in_I (R_nle_r (In_of (hM_w2.gI (by decide)).symm g2_64_1) i_x2_1 c_12 (by decide) : In 0 39 x2_1) (by decide)) dX2_levelDue_21 ?_
        refine lv_topi (fun v_13 ev_13 => ?_)
        refine lv_if_le (tgt := 42) hx hb dX2_levelDue_22 (by decide) (fun c_14 => ?_) (fun c_14 => ?_)
        · exact J42 w2 _ _ ls hW_w2 hM_w2 (R_nle_r (In_of (hM_w2.gI (by decide)).symm g2_64_1) i_x2_1 c_12 (by decide) : In 0 39 x2_1) (In_of (hM_w2.gI (by decide)) (In_of (hM_w2.gI (by decide)).symm g2_64_1)) (In_of (hM_w2.gI (by decide)) (In_of (hM_w2.gI (by decide)).symm g2_64_2)) hP hD hS (lv_sub hl [0, 1] rfl)
        · refine lv_aload_n hx hb dX2_levelDue_25 rfl (lv_at hl 0 rfl) ?_
          refine lv_aload_n hx hb dX2_levelDue_26 rfl (lv_at hl 0 rfl) ?_
          refine gt_X2 hx hb hts hown hK hP 74 (hW_w2.o tX_74) 5 (by decide) wd_474 rfl (hW_w2.fl tX_74 rfl) dX2_levelDue_27 ?_
          refine lv_aload_n hx hb dX2_levelDue_30 rfl (lv_at hl 0 rfl) ?_
          refine gt_X2 hx hb hts hown hK hP 74 (hW_w2.o tX_74) 1 (by decide) wd_468 rfl (hW_w2.fr tX_74 rfl) dX2_levelDue_31 ?_
          refine lv_iload_n hx hb dX2_levelDue_34 rfl (lv_at hl 1 rfl) ?_
          refine va_lald hx hb hK hP 75 1 (hW_w2.al tX_75) rfl (in_I (R_nle_r (In_of (hM_w2.gI (by decide)).symm g2_64_1) i_x2_1 c_12 (by decide) : In 0 39 x2_1) (by decide)) dX2_levelDue_35 ?_
          refine lv_topl (fun v_15 ev_15 => ?_)
          refine va_mmin_long hx hb (by rw [hml]; exact hl.1.symm) hown (hts _ wd_1158) (hts _ wd_880) (hts _ wd_18) (hts _ wd_881) (Nat.le_trans (by decide) hR.1) (Nat.le_trans (Nat.le_of_ble_eq_true rfl) hR.2) (Nat.zero_le _) (Nat.zero_le _) dX2_levelDue_36 ?_
          refine lv_topl (fun v_16 ev_16 => ?_)
          refine pt_X2 hx hb hts hown hK hP hD hS 74 (hW_w2.o tX_74) 5 (by decide) wd_474 rfl rfl (ty := .long) (v := .long v_16) (by decide +kernel) rfl rfl (hW_w2.ll tX_74 (Nat.le_of_ble_eq_true rfl)) dX2_levelDue_39 (fun H locs hP hD hS => fr_w (hW_w2.sL tX_74 rfl) hP hD (fun w_17 ew_17 hW_w_17 hP hD => ?_))
          exact J42 w_17 _ _ ls hW_w_17 (hM_w2.sf (hW_w2.lt tX_74) ew_17 (by decide)) (R_nle_r (In_of (hM_w2.gI (by decide)).symm g2_64_1) i_x2_1 c_12 (by decide) : In 0 39 x2_1) (In_of ((fI_cg (st_ne ew_17 (by decide))).trans (hM_w2.gI (by decide))) (In_of (hM_w2.gI (by decide)).symm g2_64_1)) (In_of ((fI_cg (st_ne ew_17 (by decide))).trans (hM_w2.gI (by decide))) (In_of (hM_w2.gI (by decide)).symm g2_64_2)) hP hD hS (lv_sub hl [0, 1] rfl)
  refine lv_iconst (v := 0) hx hb dX2_levelDue_0 (by decide) ?_
  refine lv_istore_n (lv' := [(1, .int 0), (0, .ref (q 74))]) hx hb dX2_levelDue_1 rfl hl (by decide) rfl (fun ls hl => ?_)
  exact J2 _ 0 w _ _ ls (Nat.lt_succ_self _) hW_w Sm.rf (In_lit (n := 0) (by decide) (by decide) : In 0 40 0) hf_64_1 hf_64_2 hP hD hS (lv_sub hl [1, 0] rfl)
