set_option maxRecDepth 100000 in
set_option maxHeartbeats 8000000 in
theorem k_X12_finds (l : Launch) (D : va_G) (cI cJ cZ : ClassId) (q : Nat → Nat) (w : va_W) (hW_w : HT q (TM q cI cJ cZ) w) (p1 : Int32) (p2 : Int32) (i_p1 : In 0 289 p1) (i_p2 : In 0 289 p2) (gp : Nat → Int) (hFE : FEx w gp) : Con_i l yX12_finds cX12_finds 5 (some .boolean) ({ frames := 0, cells := 0, slots := 0, locals := 0 }) D cI cJ cZ eW [.ref (q 0), .int p1, .int p2] w (fun (r : Int32) (w1 : va_W) => HT q (TM q cI cJ cZ) w1 ∧ Sm [42, 43] [] w w1 ∧ In 0 1 r ∧ (BSx w w1 gp p1.toInt.toNat) ∧ (∀ l, l < lnM w → NRx w w1 l) ∧ (¬ r = 0 → ¬ faM w1 p2.toInt.toNat = 1152921504606846976)) := by
  refine eQ_z rfl (by decide) (Nat.le_of_ble_eq_true rfl) ⟨rfl, rfl⟩ ?_
  intro p e R s m args below meth c A Q hx hb hml hown hts hK hE hA hR hret hP hD hS ls hl
  have hown : s.vm.findClass RX12 = some m.cls := hown
  have hl : lv_has ls 5 [(0, .ref (q 0)), (1, .int p1), (2, .int p2)] := hl
  have J33 : ∀ (N : Nat) (x33_3 : Int32) (w33 : va_W) (H : Heap) (locs : List Loc) (ls : Array Slot), (2 * sM (faM w33) gp p1.toInt.toNat 290 + x33_3.toInt.toNat) < N → HT q (TM q cI cJ cZ) w33 → Sm [42, 43] [] w w33 → (In 0 289 p1) → (In 0 289 p2) → (In 0 1 x33_3) → (BSx w w33 gp p1.toInt.toNat) → ((x33_3 : Int32) = 0 → ∀ l, l < lnM w → NRx w w33 l) → va_P D vwCl w33 H → va_D A w33 → va_S A s.heap H locs → lv_has ls 5 [(0, .ref (q 0)), (1, .int p1), (2, .int p2), (3, .int x33_3)] → W p l e R s m args below meth c H locs 0 0 Q (F0 m 33 ls []) := by
    intro N
    induction N with
    | zero => intro x33_3 w33 H locs ls hmu; exact absurd hmu (Nat.not_lt_zero _)
    | succ N ih33 =>
      intro x33_3 w33 H locs ls hmu33 hW_w33 hM_w33 i_x33_1 i_x33_2 i_x33_3 hbs_33 hnr_33 hP hD hS hl
      have J42 : ∀ (N : Nat) (x42_3 : Int32) (x42_4 : Int32) (w42 : va_W) (H : Heap) (locs : List Loc) (ls : Array Slot), (2200 - x42_4.toInt).toNat < N → HT q (TM q cI cJ cZ) w42 → Sm [42, 43] [] w w42 → (In 0 289 p1) → (In 0 289 p2) → (In 0 1 x42_3) → (In 0 2200 x42_4) → (In 1 1 x33_3) → (BSx w w42 gp p1.toInt.toNat) → ((x42_3 : Int32) = 0 → ∀ l : Nat, (l : Int) < (x42_4 : Int32).toInt → NRx w w42 l) → (sM (faM w42) gp p1.toInt.toNat 290 + (if (x42_3 : Int32) = 0 then 0 else 1) ≤ sM (faM w33) gp p1.toInt.toNat 290) → va_P D vwCl w42 H → va_D A w42 → va_S A s.heap H locs → lv_has ls 5 [(0, .ref (q 0)), (1, .int p1), (2, .int p2), (3, .int x42_3), (4, .int x42_4)] → W p l e R s m args below meth c H locs 0 0 Q (F0 m 42 ls []) := by
        intro N
        induction N with
        | zero => intro x42_3 x42_4 w42 H locs ls hmu; exact absurd hmu (Nat.not_lt_zero _)
        | succ N ih42 =>
          intro x42_3 x42_4 w42 H locs ls hmu42 hW_w42 hM_w42 i_x42_1 i_x42_2 i_x42_3 i_x42_4 hx3_42 hbs_42 hn2_42 hmo_42 hP hD hS hl
          refine lv_iload hx hb dX12_finds_42 (lv_at hl 4 rfl) ?_
          refine lv_aload_n hx hb dX12_finds_44 rfl (lv_at hl 0 rfl) ?_
          refine gt_X12 hx hb hts hown hK hP 0 (hW_w42.o tM_0) 62 (by decide) wd_1463 rfl (hW_w42.fi tM_0 rfl) dX12_finds_45 ?_
          refine tov (v := (fI w 0 62)) (hM_w42.gI (by decide)) ?_
          refine lv_icmp_ge (tgt := 173) hx hb dX12_finds_48 (by decide) (fun c_1 => ?_) (fun c_1 => ?_)
          · have lb_c_1 : ((fI w 0 62) : Int32).toInt ≤ (x42_4 : Int32).toInt := q_le.mp c_1
            refine lv_goto (tgt := 33) hx hb dX12_finds_173 (by decide) ?_
            exact ih33 x42_3 w42 _ _ ls (FD_mu hmu33 hmo_42 hx3_42 i_x42_3) hW_w42 hM_w42 i_p1 i_p2 i_x42_3 hbs_42 (fun q l h => hn2_42 q l (by have y : l < (fI w 0 62).toInt.toNat := h; have z := lb_c_1; omega)) hP hD hS (lv_sub hl [0, 1, 2, 3] rfl)
          · have lb_c_1 : ¬ ((fI w 0 62) : Int32).toInt ≤ (x42_4 : Int32).toInt := fun h => c_1 (q_le.mpr h)
            refine lv_aload_n hx hb dX12_finds_51 rfl (lv_at hl 0 rfl) ?_
            refine gt_X12 hx hb hts hown hK hP 0 (hW_w42.o tM_0) 60 (by decide) wd_1461 rfl (hW_w42.fr tM_0 rfl) dX12_finds_52 ?_
            refine lv_iload hx hb dX12_finds_55 (lv_at hl 4 rfl) ?_
            refine va_iald hx hb hK hP 40 0 (hW_w42.a tM_40) rfl (in_I (R_nle_r (hW_w.fin tM_0 rfl : In 0 2200 (fI w 0 62)) i_x42_4 c_1 (by decide) : In 0 2199 x42_4) (by decide)) dX12_finds_57 ?_
            refine lv_topi (fun v_2 ev_2 => ?_)
            refine lv_if_eq (tgt := 167) hx hb dX12_finds_58 (by decide) (fun c_3 => ?_) (fun c_3 => ?_)
            · refine lv_iinc (v := (x42_4 + 1)) (lv' := [(4, .int (x42_4 + 1)), (0, .ref (q 0)), (1, .int p1), (2, .int p2), (3, .int x42_3)]) hx hb dX12_finds_167 hl (k := 4) rfl (rfl) (by decide) rfl (fun ls hl => ?_)
              refine lv_goto (tgt := 42) hx hb dX12_finds_170 (by decide) ?_
              exact ih42 x42_3 (x42_4 + 1) w42 _ _ ls (mu_inc hmu42 (R_nle_r (hW_w.fin tM_0 rfl : In 0 2200 (fI w 0 62)) i_x42_4 c_1 (by decide) : In 0 2199 x42_4) (In_lit (n := 1) (by decide) (by decide) : In 1 1 1) (by decide)) hW_w42 hM_w42 i_p1 i_p2 i_x42_3 (In_w ((In_add (y := 1) (R_nle_r (hW_w.fin tM_0 rfl : In 0 2200 (fI w 0 62)) i_x42_4 c_1 (by decide) : In 0 2199 x42_4) (In_lit (n := 1) (by decide) (by decide) : In 1 1 1) (by decide)) : In 1 2200 (x42_4 + 1)) (by decide) : In 0 2200 (x42_4 + 1)) hx3_42 hbs_42 (fun q => NR_nx (R_nle_r (hW_w.fin tM_0 rfl : In 0 2200 (fI w 0 62)) i_x42_4 c_1 (by decide) : In 0 2199 x42_4) (by decide) (hn2_42 q) (NR_a (ev_2.trans (congrFun (hM_w42.hA (by decide)) _)) c_3)) hmo_42 hP hD hS (lv_sub hl [1, 2, 3, 4, 0] rfl)
            · refine lv_aload_n hx hb dX12_finds_61 rfl (lv_at hl 0 rfl) ?_
              refine gt_X12 hx hb hts hown hK hP 0 (hW_w42.o tM_0) 63 (by decide) wd_1464 rfl (hW_w42.fr tM_0 rfl) dX12_finds_62 ?_
              refine lv_aload_n hx hb dX12_finds_65 rfl (lv_at hl 0 rfl) ?_
              refine gt_X12 hx hb hts hown hK hP 0 (hW_w42.o tM_0) 58 (by decide) wd_1459 rfl (hW_w42.fr tM_0 rfl) dX12_finds_66 ?_
              refine lv_iload hx hb dX12_finds_69 (lv_at hl 4 rfl) ?_
              refine va_iald hx hb hK hP 38 0 (hW_w42.a tM_38) rfl (in_I (R_nle_r (hW_w.fin tM_0 rfl : In 0 2200 (fI w 0 62)) i_x42_4 c_1 (by decide) : In 0 2199 x42_4) (by decide)) dX12_finds_71 ?_
              refine lv_topi (fun v_4 ev_4 => ?_)
              refine va_lald hx hb hK hP 42 1 (hW_w42.al tM_42) rfl (in_I (In_of ev_4 (hW_w42.ap tM_38 _) : In 0 289 v_4) (by decide)) dX12_finds_72 ?_
              refine lv_topl (fun v_5 ev_5 => ?_)
              refine lv_ldc2 hx hb hown (hts _ wd_2000) dX12_finds_73 ?_
              refine W.lcmp hx hb dX12_finds_76 ?_
              refine lv_topi (fun v_6 ev_6 => ?_)
              refine lv_if_eq (tgt := 167) hx hb dX12_finds_77 (by decide) (fun c_7 => ?_) (fun c_7 => ?_)
              · refine lv_iinc (v := (x42_4 + 1)) (lv' := [(4, .int (x42_4 + 1)), (0, .ref (q 0)), (1, .int p1), (2, .int p2), (3, .int x42_3)]) hx hb dX12_finds_167 hl (k := 4) rfl (rfl) (by decide) rfl (fun ls hl => ?_)
                refine lv_goto (tgt := 42) hx hb dX12_finds_170 (by decide) ?_
                exact ih42 x42_3 (x42_4 + 1) w42 _ _ ls (mu_inc hmu42 (R_nle_r (hW_w.fin tM_0 rfl : In 0 2200 (fI w 0 62)) i_x42_4 c_1 (by decide) : In 0 2199 x42_4) (In_lit (n := 1) (by decide) (by decide) : In 1 1 1) (by decide)) hW_w42 hM_w42 i_p1 i_p2 i_x42_3 (In_w ((In_add (y := 1) (R_nle_r (hW_w.fin tM_0 rfl : In 0 2200 (fI w 0 62)) i_x42_4 c_1 (by decide) : In 0 2199 x42_4) (In_lit (n := 1) (by decide) (by decide) : In 1 1 1) (by decide)) : In 1 2200 (x42_4 + 1)) (by decide) : In 0 2200 (x42_4 + 1)) hx3_42 hbs_42 (fun q => NR_nx (R_nle_r (hW_w.fin tM_0 rfl : In 0 2200 (fI w 0 62)) i_x42_4 c_1 (by decide) : In 0 2199 x42_4) (by decide) (hn2_42 q) (NR_b (ev_4.trans (congrFun (hM_w42.hA (by decide)) _)) ev_5 (lc_eq ev_6 c_7))) hmo_42 hP hD hS (lv_sub hl [1, 2, 3, 4, 0] rfl)
              · refine lv_aload_n hx hb dX12_finds_80 rfl (lv_at hl 0 rfl) ?_
                refine gt_X12 hx hb hts hown hK hP 0 (hW_w42.o tM_0) 63 (by decide) wd_1464 rfl (hW_w42.fr tM_0 rfl) dX12_finds_81 ?_
                refine lv_aload_n hx hb dX12_finds_84 rfl (lv_at hl 0 rfl) ?_
                refine gt_X12 hx hb hts hown hK hP 0 (hW_w42.o tM_0) 58 (by decide) wd_1459 rfl (hW_w42.fr tM_0 rfl) dX12_finds_85 ?_
                refine lv_iload hx hb dX12_finds_88 (lv_at hl 4 rfl) ?_
                refine va_iald hx hb hK hP 38 0 (hW_w42.a tM_38) rfl (in_I (R_nle_r (hW_w.fin tM_0 rfl : In 0 2200 (fI w 0 62)) i_x42_4 c_1 (by decide) : In 0 2199 x42_4) (by decide)) dX12_finds_90 ?_
                refine tov (v := v_4) ((congrFun (hM_w42.hA (by decide)) _).trans ((congrFun (hM_w42.hA (by decide)) _).symm.trans ev_4.symm)) ?_
                refine va_lald hx hb hK hP 42 1 (hW_w42.al tM_42) rfl (in_I (In_of ev_4 (hW_w42.ap tM_38 _) : In 0 289 v_4) (by decide)) dX12_finds_91 ?_
                refine tol (v := v_5) ev_5.symm ?_
                refine lv_aload_n hx hb dX12_finds_92 rfl (lv_at hl 0 rfl) ?_
                refine gt_X12 hx hb hts hown hK hP 0 (hW_w42.o tM_0) 61 (by decide) wd_1462 rfl (hW_w42.fr tM_0 rfl) dX12_finds_93 ?_
                refine lv_iload hx hb dX12_finds_96 (lv_at hl 4 rfl) ?_
                refine va_lald hx hb hK hP 41 1 (hW_w42.al tM_41) rfl (in_I (R_nle_r (hW_w.fin tM_0 rfl : In 0 2200 (fI w 0 62)) i_x42_4 c_1 (by decide) : In 0 2199 x42_4) (by decide)) dX12_finds_98 ?_
                refine lv_topl (fun v_8 ev_8 => ?_)
                refine lv_ladd hx hb dX12_finds_99 ?_
                refine lv_topl (fun v_9 ev_9 => ?_)
                refine lv_aload_n hx hb dX12_finds_100 rfl (lv_at hl 0 rfl) ?_
                refine gt_X12 hx hb hts hown hK hP 0 (hW_w42.o tM_0) 63 (by decide) wd_1464 rfl (hW_w42.fr tM_0 rfl) dX12_finds_101 ?_
                refine lv_aload_n hx hb dX12_finds_104 rfl (lv_at hl 0 rfl) ?_
                refine gt_X12 hx hb hts hown hK hP 0 (hW_w42.o tM_0) 59 (by decide) wd_1460 rfl (hW_w42.fr tM_0 rfl) dX12_finds_105 ?_
                refine lv_iload hx hb dX12_finds_108 (lv_at hl 4 rfl) ?_
                refine va_iald hx hb hK hP 39 0 (hW_w42.a tM_39) rfl (in_I (R_nle_r (hW_w.fin tM_0 rfl : In 0 2200 (fI w 0 62)) i_x42_4 c_1 (by decide) : In 0 2199 x42_4) (by decide)) dX12_finds_110 ?_
                refine lv_topi (fun v_10 ev_10 => ?_)
                refine va_lald hx hb hK hP 42 1 (hW_w42.al tM_42) rfl (in_I (In_of ev_10 (hW_w42.ap tM_39 _) : In 0 289 v_10) (by decide)) dX12_finds_111 ?_
                refine lv_topl (fun v_11 ev_11 => ?_)
                refine W.lcmp hx hb dX12_finds_112 ?_
                refine lv_topi (fun v_12 ev_12 => ?_)
                refine lv_if_lt (tgt := 119) hx hb dX12_finds_113 (by decide) (fun c_13 => ?_) (fun c_13 => ?_)
                · refine lv_aload_n hx hb dX12_finds_119 rfl (lv_at hl 0 rfl) ?_
                  refine gt_X12 hx hb hts hown hK hP 0 (hW_w42.o tM_0) 63 (by decide) wd_1464 rfl (hW_w42.fr tM_0 rfl) dX12_finds_120 ?_
                  refine lv_aload_n hx hb dX12_finds_123 rfl (lv_at hl 0 rfl) ?_
                  refine gt_X12 hx hb hts hown hK hP 0 (hW_w42.o tM_0) 59 (by decide) wd_1460 rfl (hW_w42.fr tM_0 rfl) dX12_finds_124 ?_
                  refine lv_iload hx hb dX12_finds_127 (lv_at hl 4 rfl) ?_
                  refine va_iald hx hb hK hP 39 0 (hW_w42.a tM_39) rfl (in_I (R_nle_r (hW_w.fin tM_0 rfl : In 0 2200 (fI w 0 62)) i_x42_4 c_1 (by decide) : In 0 2199 x42_4) (by decide)) dX12_finds_129 ?_
                  refine tov (v := v_10) ((congrFun (hM_w42.hA (by decide)) _).trans ((congrFun (hM_w42.hA (by decide)) _).symm.trans ev_10.symm)) ?_
                  refine lv_aload_n hx hb dX12_finds_130 rfl (lv_at hl 0 rfl) ?_
                  refine gt_X12 hx hb hts hown hK hP 0 (hW_w42.o tM_0) 63 (by decide) wd_1464 rfl (hW_w42.fr tM_0 rfl) dX12_finds_131 ?_
                  refine lv_aload_n hx hb dX12_finds_134 rfl (lv_at hl 0 rfl) ?_
                  refine gt_X12 hx hb hts hown hK hP 0 (hW_w42.o tM_0) 58 (by decide) wd_1459 rfl (hW_w42.fr tM_0 rfl) dX12_finds_135 ?_
                  refine lv_iload hx hb dX12_finds_138 (lv_at hl 4 rfl) ?_
                  refine va_iald hx hb hK hP 38 0 (hW_w42.a tM_38) rfl (in_I (R_nle_r (hW_w.fin tM_0 rfl : In 0 2200 (fI w 0 62)) i_x42_4 c_1 (by decide) : In 0 2199 x42_4) (by decide)) dX12_finds_140 ?_
                  refine tov (v := v_4) ((congrFun (hM_w42.hA (by decide)) _).trans ((congrFun (hM_w42.hA (by decide)) _).symm.trans ev_4.symm)) ?_
                  refine va_lald hx hb hK hP 42 1 (hW_w42.al tM_42) rfl (in_I (In_of ev_4 (hW_w42.ap tM_38 _) : In 0 289 v_4) (by decide)) dX12_finds_141 ?_
                  refine tol (v := v_5) ev_5.symm ?_
                  refine lv_aload_n hx hb dX12_finds_142 rfl (lv_at hl 0 rfl) ?_
                  refine gt_X12 hx hb hts hown hK hP 0 (hW_w42.o tM_0) 61 (by decide) wd_1462 rfl (hW_w42.fr tM_0 rfl) dX12_finds_143 ?_
                  refine lv_iload hx hb dX12_finds_146 (lv_at hl 4 rfl) ?_
                  refine va_lald hx hb hK hP 41 1 (hW_w42.al tM_41) rfl (in_I (R_nle_r (hW_w.fin tM_0 rfl : In 0 2200 (fI w 0 62)) i_x42_4 c_1 (by decide) : In 0 2199 x42_4) (by decide)) dX12_finds_148 ?_
                  refine tol (v := v_8) ((congrFun (hM_w42.hL (by decide)) _).trans ((congrFun (hM_w42.hL (by decide)) _).symm.trans ev_8.symm)) ?_
                  refine lv_ladd hx hb dX12_finds_149 ?_
                  refine lv_topl (fun v_14 ev_14 => ?_)
                  refine va_last hx hb hK hP hD hS 42 1 (hW_w42.al tM_42) rfl (in_I (In_of ev_10 (hW_w42.ap tM_39 _) : In 0 289 v_10) (by decide)) dX12_finds_150 (fun H locs hP hD hS => fr_w (hW_w42.uL tM_42) hP hD (fun w_15 ew_15 hW_w_15 hP hD => ?_))
                  refine lv_aload_n hx hb dX12_finds_151 rfl (lv_at hl 0 rfl) ?_
                  refine gt_X12 hx hb hts hown hK hP 0 (hW_w_15.o tM_0) 64 (by decide) wd_1465 rfl (hW_w_15.fr tM_0 rfl) dX12_finds_152 ?_
                  refine lv_aload_n hx hb dX12_finds_155 rfl (lv_at hl 0 rfl) ?_
                  refine gt_X12 hx hb hts hown hK hP 0 (hW_w_15.o tM_0) 59 (by decide) wd_1460 rfl (hW_w_15.fr tM_0 rfl) dX12_finds_156 ?_
                  refine lv_iload hx hb dX12_finds_159 (lv_at hl 4 rfl) ?_
                  refine va_iald hx hb hK hP 39 0 (hW_w_15.a tM_39) rfl (in_I (R_nle_r (hW_w.fin tM_0 rfl : In 0 2200 (fI w 0 62)) i_x42_4 c_1 (by decide) : In 0 2199 x42_4) (by decide)) dX12_finds_161 ?_
                  refine tov (v := v_10) ((congrFun ((aF_cg (st_ne ew_15 (by decide))).trans (hM_w42.hA (by decide))) _).trans ((congrFun (hM_w42.hA (by decide)) _).symm.trans ev_10.symm)) ?_
                  refine lv_iload hx hb dX12_finds_162 (lv_at hl 4 rfl) ?_
                  refine va_iast hx hb hK hP hD hS 43 0 (hW_w_15.a tM_43) rfl (in_I (In_of ev_10 (hW_w42.ap tM_39 _) : In 0 289 v_10) (by decide)) dX12_finds_164 (fun H locs hP hD hS => fr_w (hW_w_15.uA tM_43 (R_nle_r (hW_w.fin tM_0 rfl : In 0 2200 (fI w 0 62)) i_x42_4 c_1 (by decide) : In 0 2199 x42_4)) hP hD (fun w_16 ew_16 hW_w_16 hP hD => ?_))
                  refine lv_iconst (v := 1) hx hb dX12_finds_165 (by decide) ?_
                  refine lv_istore_n (lv' := [(3, .int 1), (0, .ref (q 0)), (1, .int p1), (2, .int p2), (4, .int x42_4)]) hx hb dX12_finds_166 rfl hl (by decide) rfl (fun ls hl => ?_)
                  refine lv_iinc (v := (x42_4 + 1)) (lv' := [(4, .int (x42_4 + 1)), (3, .int 1), (0, .ref (q 0)), (1, .int p1), (2, .int p2)]) hx hb dX12_finds_167 hl (k := 4) rfl (rfl) (by decide) rfl (fun ls hl => ?_)
                  refine lv_goto (tgt := 42) hx hb dX12_finds_170 (by decide) ?_
                  exact ih42 1 (x42_4 + 1) w_16 _ _ ls (mu_inc hmu42 (R_nle_r (hW_w.fin tM_0 rfl : In 0 2200 (fI w 0 62)) i_x42_4 c_1 (by decide) : In 0 2199 x42_4) (In_lit (n := 1) (by decide) (by decide) : In 1 1 1) (by decide)) hW_w_16 ((hM_w42.sa ew_15 (by decide)).sa ew_16 (by decide)) i_p1 i_p2 (In_lit (n := 1) (by decide) (by decide) : In 0 1 1) (In_w ((In_add (y := 1) (R_nle_r (hW_w.fin tM_0 rfl : In 0 2200 (fI w 0 62)) i_x42_4 c_1 (by decide) : In 0 2199 x42_4) (In_lit (n := 1) (by decide) (by decide) : In 1 1 1) (by decide)) : In 1 2200 (x42_4 + 1)) (by decide) : In 0 2200 (x42_4 + 1)) hx3_42 (FD_st (W := w42) (W2 := w_16) (l := x42_4.toNatClampNeg) (x := x42_4) hFE (by have y := i_p1; unfold In at y; omega) hbs_42 (by show x42_4.toInt.toNat < (fI w 0 62).toInt.toNat; have y := (R_nle_r (hW_w.fin tM_0 rfl : In 0 2200 (fI w 0 62)) i_x42_4 c_1 (by decide) : In 0 2199 x42_4); unfold In at y; omega) rfl (fun j => (hW_w.ap tM_38 j : In 0 289 _)) (fun j => (hW_w.ap tM_39 j : In 0 289 _)) (fun q => c_3 ((ev_2.trans (congrFun (hM_w42.hA (by decide)) _)).trans q)) (ev_4.trans (congrFun (hM_w42.hA (by decide)) _)) ev_5 (ev_8.trans (congrFun (hM_w42.hL (by decide)) _)) (fun q => c_7 (lcz ev_6 q)) ev_9 (ev_10.trans (congrFun (hM_w42.hA (by decide)) _)) ev_11 ev_12 c_13 ev_14 (by rw [(aL_cg (st_ne ew_16 (by decide))), aL_eq (hW_w42.lt tM_42) ew_15]) (by rw [aF_eq (hW_w_15.lt tM_43) ew_16, (aF_cg (st_ne ew_15 (by decide)))])).1 (fun q => absurd q (by decide)) (by rw [if_neg (show ¬ (1 : Int32) = 0 by decide)]; have y := (FD_st (W := w42) (W2 := w_16) (l := x42_4.toNatClampNeg) (x := x42_4) hFE (by have y := i_p1; unfold In at y; omega) hbs_42 (by show x42_4.toInt.toNat < (fI w 0 62).toInt.toNat; have y := (R_nle_r (hW_w.fin tM_0 rfl : In 0 2200 (fI w 0 62)) i_x42_4 c_1 (by decide) : In 0 2199 x42_4); unfold In at y; omega) rfl (fun j => (hW_w.ap tM_38 j : In 0 289 _)) (fun j => (hW_w.ap tM_39 j : In 0 289 _)) (fun q => c_3 ((ev_2.trans (congrFun (hM_w42.hA (by decide)) _)).trans q)) (ev_4.trans (congrFun (hM_w42.hA (by decide)) _)) ev_5 (ev_8.trans (congrFun (hM_w42.hL (by decide)) _)) (fun q => c_7 (lcz ev_6 q)) ev_9 (ev_10.trans (congrFun (hM_w42.hA (by decide)) _)) ev_11 ev_12 c_13 ev_14 (by rw [(aL_cg (st_ne ew_16 (by decide))), aL_eq (hW_w42.lt tM_42) ew_15]) (by rw [aF_eq (hW_w_15.lt tM_43) ew_16, (aF_cg (st_ne ew_15 (by decide)))])).2; have z := hmo_42; omega) hP hD hS (lv_sub hl [2, 3, 4, 1, 0] rfl)
                · refine lv_goto (tgt := 167) hx hb dX12_finds_116 (by decide) ?_
                  refine lv_iinc (v := (x42_4 + 1)) (lv' := [(4, .int (x42_4 + 1)), (0, .ref (q 0)), (1, .int p1), (2, .int p2), (3, .int x42_3)]) hx hb dX12_finds_167 hl (k := 4) rfl (rfl) (by decide) rfl (fun ls hl => ?_)
                  refine lv_goto (tgt := 42) hx hb dX12_finds_170 (by decide) ?_
                  exact ih42 x42_3 (x42_4 + 1) w42 _ _ ls (mu_inc hmu42 (R_nle_r (hW_w.fin tM_0 rfl : In 0 2200 (fI w 0 62)) i_x42_4 c_1 (by decide) : In 0 2199 x42_4) (In_lit (n := 1) (by decide) (by decide) : In 1 1 1) (by decide)) hW_w42 hM_w42 i_p1 i_p2 i_x42_3 (In_w ((In_add (y := 1) (R_nle_r (hW_w.fin tM_0 rfl : In 0 2200 (fI w 0 62)) i_x42_4 c_1 (by decide) : In 0 2199 x42_4) (In_lit (n := 1) (by decide) (by decide) : In 1 1 1) (by decide)) : In 1 2200 (x42_4 + 1)) (by decide) : In 0 2200 (x42_4 + 1)) hx3_42 hbs_42 (fun q => NR_nx (R_nle_r (hW_w.fin tM_0 rfl : In 0 2200 (fI w 0 62)) i_x42_4 c_1 (by decide) : In 0 2199 x42_4) (by decide) (hn2_42 q) (NR_c (l := x42_4.toNatClampNeg) hFE (by have y := i_p1; unfold In at y; omega) hbs_42 (by show x42_4.toInt.toNat < (fI w 0 62).toInt.toNat; have y := (R_nle_r (hW_w.fin tM_0 rfl : In 0 2200 (fI w 0 62)) i_x42_4 c_1 (by decide) : In 0 2199 x42_4); unfold In at y; omega) (In_of ev_4 (hW_w42.ap tM_38 _) : In 0 289 v_4) (ev_4.trans (congrFun (hM_w42.hA (by decide)) _)) ev_5 (ev_8.trans (congrFun (hM_w42.hL (by decide)) _)) (fun q => c_7 (lcz ev_6 q)) ev_9 (ev_10.trans (congrFun (hM_w42.hA (by decide)) _)) ev_11 ev_12 c_13)) hmo_42 hP hD hS (lv_sub hl [1, 2, 3, 4, 0] rfl)
      refine lv_iload_n hx hb dX12_finds_33 rfl (lv_at hl 3 rfl) ?_
      refine lv_if_eq (tgt := 176) hx hb dX12_finds_34 (by decide) (fun c_17 => ?_) (fun c_17 => ?_)
      · refine lv_aload_n hx hb dX12_finds_176 rfl (lv_at hl 0 rfl) ?_
        refine gt_X12 hx hb hts hown hK hP 0 (hW_w33.o tM_0) 63 (by decide) wd_1464 rfl (hW_w33.fr tM_0 rfl) dX12_finds_177 ?_
        refine lv_iload_n hx hb dX12_finds_180 rfl (lv_at hl 2 rfl) ?_
        refine va_lald hx hb hK hP 42 1 (hW_w33.al tM_42) rfl (in_I i_p2 (by decide)) dX12_finds_181 ?_
        refine lv_topl (fun v_18 ev_18 => ?_)
        refine lv_ldc2 hx hb hown (hts _ wd_2000) dX12_finds_182 ?_
        refine W.lcmp hx hb dX12_finds_185 ?_
        refine lv_topi (fun v_19 ev_19 => ?_)
        refine lv_if_ge (tgt := 193) hx hb dX12_finds_186 (by decide) (fun c_20 => ?_) (fun c_20 => ?_)
        · refine lv_iconst (v := 0) hx hb dX12_finds_193 (by decide) ?_
          exact hret _ _ _ _ _ _ hP hD hS dX12_finds_194 (In_lit (n := 0) (by decide) (by decide) : In 0 1 0) ⟨hW_w33, hM_w33, (In_lit (n := 0) (by decide) (by decide) : In 0 1 0), hbs_33, (hnr_33 c_17), (fun h => absurd rfl h)⟩
        · refine lv_iconst (v := 1) hx hb dX12_finds_189 (by decide) ?_
          refine lv_goto (tgt := 194) hx hb dX12_finds_190 (by decide) ?_
          exact hret _ _ _ _ _ _ hP hD hS dX12_finds_194 (In_lit (n := 1) (by decide) (by decide) : In 0 1 1) ⟨hW_w33, hM_w33, (In_lit (n := 1) (by decide) (by decide) : In 0 1 1), hbs_33, (hnr_33 c_17), (fun _ => FD_r ev_18 ev_19 c_20)⟩
      · refine lv_iconst (v := 0) hx hb dX12_finds_37 (by decide) ?_
        refine lv_istore_n (lv' := [(3, .int 0), (0, .ref (q 0)), (1, .int p1), (2, .int p2)]) hx hb dX12_finds_38 rfl hl (by decide) rfl (fun ls hl => ?_)
        refine lv_iconst (v := 0) hx hb dX12_finds_39 (by decide) ?_
        refine lv_istore (lv' := [(4, .int 0), (3, .int 0), (0, .ref (q 0)), (1, .int p1), (2, .int p2)]) hx hb dX12_finds_40 hl (by decide) rfl (fun ls hl => ?_)
        exact J42 _ 0 0 w33 _ _ ls (Nat.lt_succ_self _) hW_w33 hM_w33 i_p1 i_p2 (In_lit (n := 0) (by decide) (by decide) : In 0 1 0) (In_lit (n := 0) (by decide) (by decide) : In 0 2200 0) (R_ne_l i_x33_3 (In_lit (n := 0) (by decide) (by decide) : In 0 0 0) c_17 (by decide) : In 1 1 x33_3) hbs_33 (fun _ l h => absurd h (by rw [show (0 : Int32).toInt = 0 from by decide]; omega)) (by rw [if_pos rfl]; exact Nat.le_refl _) hP hD hS (lv_sub hl [2, 3, 4, 1, 0] rfl)
  have J2 : ∀ (N : Nat) (x2_3 : Int32) (w2 : va_W) (H : Heap) (locs : List Loc) (ls : Array Slot), (290 - x2_3.toInt).toNat < N → HT q (TM q cI cJ cZ) w2 → Sm [42, 43] [] w w2 → (In 0 289 p1) → (In 0 289 p2) → (In 0 290 x2_3) → (∀ i : Nat, i < (x2_3 : Int32).toInt.toNat → aL w2 42 i = 1152921504606846976) → va_P D vwCl w2 H → va_D A w2 → va_S A s.heap H locs → lv_has ls 5 [(0, .ref (q 0)), (1, .int p1), (2, .int p2), (3, .int x2_3)] → W p l e R s m args below meth c H locs 0 0 Q (F0 m 2 ls []) := by
    intro N
    induction N with
    | zero => intro x2_3 w2 H locs ls hmu; exact absurd hmu (Nat.not_lt_zero _)
    | succ N ih2 =>
      intro x2_3 w2 H locs ls hmu2 hW_w2 hM_w2 i_x2_1 i_x2_2 i_x2_3 hfl_2 hP hD hS hl
      refine lv_iload_n hx hb dX12_finds_2 rfl (lv_at hl 3 rfl) ?_
      refine lv_sipush (v := 290) hx hb dX12_finds_3 (by decide) ?_
      refine lv_icmp_ge (tgt := 24) hx hb dX12_finds_6 (by decide) (fun c_21 => ?_) (fun c_21 => ?_)
      · have lb_c_21 : (290 : Int32).toInt ≤ (x2_3 : Int32).toInt := q_le.mp c_21
        have lq_c_21 : (290 : Int32).toInt = 290 := by decide
        refine lv_aload_n hx hb dX12_finds_24 rfl (lv_at hl 0 rfl) ?_
        refine gt_X12 hx hb hts hown hK hP 0 (hW_w2.o tM_0) 63 (by decide) wd_1464 rfl (hW_w2.fr tM_0 rfl) dX12_finds_25 ?_
        refine lv_iload_n hx hb dX12_finds_28 rfl (lv_at hl 1 rfl) ?_
        refine lv_lconst (v := 0) hx hb dX12_finds_29 (by decide) ?_
        refine va_last hx hb hK hP hD hS 42 1 (hW_w2.al tM_42) rfl (in_I i_p1 (by decide)) dX12_finds_30 (fun H locs hP hD hS => fr_w (hW_w2.uL tM_42) hP hD (fun w_22 ew_22 hW_w_22 hP hD => ?_))
        refine lv_iconst (v := 1) hx hb dX12_finds_31 (by decide) ?_
        refine lv_istore_n (lv' := [(3, .int 1), (0, .ref (q 0)), (1, .int p1), (2, .int p2)]) hx hb dX12_finds_32 rfl hl (by decide) rfl (fun ls hl => ?_)
        exact J33 _ 1 w_22 _ _ ls (Nat.lt_succ_self _) hW_w_22 (hM_w2.sa ew_22 (by decide)) i_p1 i_p2 (In_lit (n := 1) (by decide) (by decide) : In 0 1 1) (FD_0 (W0 := w2) (y := x2_3) (by have z := lq_c_21; omega) hfl_2 i_p1 (aL_eq (hW_w2.lt tM_42) ew_22)) (fun q => absurd q (by decide)) hP hD hS (lv_sub hl [1, 2, 3, 0] rfl)
      · have lb_c_21 : ¬ (290 : Int32).toInt ≤ (x2_3 : Int32).toInt := fun h => c_21 (q_le.mpr h)
        have lq_c_21 : (290 : Int32).toInt = 290 := by decide
        refine lv_aload_n hx hb dX12_finds_9 rfl (lv_at hl 0 rfl) ?_
        refine gt_X12 hx hb hts hown hK hP 0 (hW_w2.o tM_0) 63 (by decide) wd_1464 rfl (hW_w2.fr tM_0 rfl) dX12_finds_10 ?_
        refine lv_iload_n hx hb dX12_finds_13 rfl (lv_at hl 3 rfl) ?_
        refine lv_ldc2 hx hb hown (hts _ wd_2000) dX12_finds_14 ?_
        refine va_last hx hb hK hP hD hS 42 1 (hW_w2.al tM_42) rfl (in_I (R_nle_r (In_lit (n := 290) (by decide) (by decide) : In 290 290 290) i_x2_3 c_21 (by decide) : In 0 289 x2_3) (by decide)) dX12_finds_17 (fun H locs hP hD hS => fr_w (hW_w2.uL tM_42) hP hD (fun w_23 ew_23 hW_w_23 hP hD => ?_))
        refine lv_iinc (v := (x2_3 + 1)) (lv' := [(3, .int (x2_3 + 1)), (0, .ref (q 0)), (1, .int p1), (2, .int p2)]) hx hb dX12_finds_18 hl (k := 3) rfl (rfl) (by decide) rfl (fun ls hl => ?_)
        refine lv_goto (tgt := 2) hx hb dX12_finds_21 (by decide) ?_
        exact ih2 (x2_3 + 1) w_23 _ _ ls (mu_inc hmu2 (R_nle_r (In_lit (n := 290) (by decide) (by decide) : In 290 290 290) i_x2_3 c_21 (by decide) : In 0 289 x2_3) (In_lit (n := 1) (by decide) (by decide) : In 1 1 1) (by decide)) hW_w_23 (hM_w2.sa ew_23 (by decide)) i_p1 i_p2 (In_w ((In_add (y := 1) (R_nle_r (In_lit (n := 290) (by decide) (by decide) : In 290 290 290) i_x2_3 c_21 (by decide) : In 0 289 x2_3) (In_lit (n := 1) (by decide) (by decide) : In 1 1 1) (by decide)) : In 1 290 (x2_3 + 1)) (by decide) : In 0 290 (x2_3 + 1)) (fill_st (R_nle_r (In_lit (n := 290) (by decide) (by decide) : In 290 290 290) i_x2_3 c_21 (by decide) : In 0 289 x2_3) hfl_2 (aL_eq (hW_w2.lt tM_42) ew_23)) hP hD hS (lv_sub hl [1, 2, 3, 0] rfl)
  refine lv_iconst (v := 0) hx hb dX12_finds_0 (by decide) ?_
  refine lv_istore_n (lv' := [(3, .int 0), (0, .ref (q 0)), (1, .int p1), (2, .int p2)]) hx hb dX12_finds_1 rfl hl (by decide) rfl (fun ls hl => ?_)
  exact J2 _ 0 w _ _ ls (Nat.lt_succ_self _) hW_w Sm.rf i_p1 i_p2 (In_lit (n := 0) (by decide) (by decide) : In 0 290 0) (fun i h => absurd h (by rw [show (0 : Int32).toInt = 0 from by decide]; omega)) hP hD hS (lv_sub hl [1, 2, 3, 0] rfl)
set_option maxRecDepth 100000 in
set_option maxHeartbeats 8000000 in
theorem k_X12_goes (l : Launch) (D : va_G) (cI cJ cZ : ClassId) (q : Nat → Nat) (w : va_W) (hW_w : HT q (TM q cI cJ cZ) w) (p1 : Int32) (p2 : Int32) (i_p1 : In 0 289 p1) (i_p2 : In 0 289 p2) (gt : Nat → Nat) (gP : Nat → Prop) (hG : GHx gt gP w p1.toInt.toNat p2.toInt.toNat) : Con_v l yX12_goes cX12_goes 4 none ({ frames := 0, cells := 0, slots := 0, locals := 0 }) D cI cJ cZ eW [.ref (q 0), .int p1, .int p2] w (fun (w1 : va_W) => HT q (TM q cI cJ cZ) w1 ∧ Sm [40] [] w w1 ∧ (G1x gP w w1 p1.toInt.toNat) ∧ (G2x gt w w1 p2.toInt.toNat p1.toInt.toNat)) := by
  refine eQ_v rfl (by decide) (Nat.le_of_ble_eq_true rfl) ⟨rfl, rfl⟩ ?_
  intro p e R s m args below meth c A Q hx hb hml hown hts hK hE hA hR hret hP hD hS ls hl
  have hown : s.vm.findClass RX12 = some m.cls := hown
  have hl : lv_has ls 4 [(0, .ref (q 0)), (1, .int p1), (2, .int p2)] := hl
  have J2 : ∀ (N : Nat) (x2_3 : Int32) (w2 : va_W) (H : Heap) (locs : List Loc) (ls : Array Slot), (gt x2_3.toInt.toNat) < N → HT q (TM q cI cJ cZ) w2 → Sm [40] [] w w2 → (In 0 289 p1) → (In 0 289 p2) → (In 0 289 x2_3) → (gP (x2_3 : Int32).toInt.toNat) → (G1x gP w w2 p1.toInt.toNat) → (G2x gt w w2 p2.toInt.toNat (x2_3 : Int32).toInt.toNat) → va_P D vwCl w2 H → va_D A w2 → va_S A s.heap H locs → lv_has ls 4 [(0, .ref (q 0)), (1, .int p1), (2, .int p2), (3, .int x2_3)] → W p l e R s m args below meth c H locs 0 0 Q (F0 m 2 ls []) := by
    intro N
    induction N with
    | zero => intro x2_3 w2 H locs ls hmu; exact absurd hmu (Nat.not_lt_zero _)
    | succ N ih2 =>
      intro x2_3 w2 H locs ls hmu2 hW_w2 hM_w2 i_x2_1 i_x2_2 i_x2_3 hp_2 hg1_2 hg2_2 hP hD hS hl
      refine lv_iload_n hx hb dX12_goes_2 rfl (lv_at hl 3 rfl) ?_
      refine lv_iload_n hx hb dX12_goes_3 rfl (lv_at hl 1 rfl) ?_
      refine lv_icmp_eq (tgt := 54) hx hb dX12_goes_4 (by decide) (fun c_1 => ?_) (fun c_1 => ?_)
      · exact hret _ _ _ _ _ hP hD hS dX12_goes_54 ⟨hW_w2, hM_w2, hg1_2, (by have q := hg2_2; rw [show x2_3 = p1 from c_1] at q; exact q)⟩
      · refine lv_aload_n hx hb dX12_goes_7 rfl (lv_at hl 0 rfl) ?_
        refine gt_X12 hx hb hts hown hK hP 0 (hW_w2.o tM_0) 60 (by decide) wd_1461 rfl (hW_w2.fr tM_0 rfl) dX12_goes_8 ?_
        refine lv_aload_n hx hb dX12_goes_11 rfl (lv_at hl 0 rfl) ?_
        refine gt_X12 hx hb hts hown hK hP 0 (hW_w2.o tM_0) 64 (by decide) wd_1465 rfl (hW_w2.fr tM_0 rfl) dX12_goes_12 ?_
        refine lv_iload_n hx hb dX12_goes_15 rfl (lv_at hl 3 rfl) ?_
        refine va_iald hx hb hK hP 43 0 (hW_w2.a tM_43) rfl (in_I i_x2_3 (by decide)) dX12_goes_16 ?_
        refine lv_topi (fun v_2 ev_2 => ?_)
        refine lv_dup2_11 hx hb dX12_goes_17 rfl rfl ?_
        refine va_iald hx hb hK hP 40 0 (hW_w2.a tM_40) rfl (in_I (In_of ev_2 (hW_w2.ap tM_43 _) : In 0 2199 v_2) (by decide)) dX12_goes_18 ?_
        refine lv_topi (fun v_3 ev_3 => ?_)
        refine lv_iconst (v := 1) hx hb dX12_goes_19 (by decide) ?_
        refine lv_isub hx hb dX12_goes_20 ?_
        refine va_iast hx hb hK hP hD hS 40 0 (hW_w2.a tM_40) rfl (in_I (In_of ev_2 (hW_w2.ap tM_43 _) : In 0 2199 v_2) (by decide)) dX12_goes_21 (fun H locs hP hD hS => fr_w (hW_w2.uA tM_40 (In_any (v_3 - 1))) hP hD (fun w_4 ew_4 hW_w_4 hP hD => ?_))
        refine lv_aload_n hx hb dX12_goes_22 rfl (lv_at hl 0 rfl) ?_
        refine gt_X12 hx hb hts hown hK hP 0 (hW_w_4.o tM_0) 60 (by decide) wd_1461 rfl (hW_w_4.fr tM_0 rfl) dX12_goes_23 ?_
        refine lv_aload_n hx hb dX12_goes_26 rfl (lv_at hl 0 rfl) ?_
        refine gt_X12 hx hb hts hown hK hP 0 (hW_w_4.o tM_0) 64 (by decide) wd_1465 rfl (hW_w_4.fr tM_0 rfl) dX12_goes_27 ?_
        refine lv_iload_n hx hb dX12_goes_30 rfl (lv_at hl 3 rfl) ?_
        refine va_iald hx hb hK hP 43 0 (hW_w_4.a tM_43) rfl (in_I i_x2_3 (by decide)) dX12_goes_31 ?_
        refine tov (v := v_2) ((congrFun ((aF_cg (st_ne ew_4 (by decide))).trans (hM_w2.hA (by decide))) _).trans ((congrFun (hM_w2.hA (by decide)) _).symm.trans ev_2.symm)) ?_
        refine lv_iconst (v := 1) hx hb dX12_goes_32 (by decide) ?_
        refine lv_ixor hx hb dX12_goes_33 ?_
        refine lv_topi (fun v_5 ev_5 => ?_)
        refine lv_dup2_11 hx hb dX12_goes_34 rfl rfl ?_
        refine va_iald hx hb hK hP 40 0 (hW_w_4.a tM_40) rfl (in_I (xr_v (In_of ev_2 (hW_w2.ap tM_43 _) : In 0 2199 v_2) ev_5).2 (by decide)) dX12_goes_35 ?_
        refine lv_topi (fun v_6 ev_6 => ?_)
        refine lv_iconst (v := 1) hx hb dX12_goes_36 (by decide) ?_
        refine lv_iadd hx hb dX12_goes_37 ?_
        refine va_iast hx hb hK hP hD hS 40 0 (hW_w_4.a tM_40) rfl (in_I (xr_v (In_of ev_2 (hW_w2.ap tM_43 _) : In 0 2199 v_2) ev_5).2 (by decide)) dX12_goes_38 (fun H locs hP hD hS => fr_w (hW_w_4.uA tM_40 (In_any (v_6 + 1))) hP hD (fun w_7 ew_7 hW_w_7 hP hD => ?_))
        refine lv_aload_n hx hb dX12_goes_39 rfl (lv_at hl 0 rfl) ?_
        refine gt_X12 hx hb hts hown hK hP 0 (hW_w_7.o tM_0) 58 (by decide) wd_1459 rfl (hW_w_7.fr tM_0 rfl) dX12_goes_40 ?_
        refine lv_aload_n hx hb dX12_goes_43 rfl (lv_at hl 0 rfl) ?_
        refine gt_X12 hx hb hts hown hK hP 0 (hW_w_7.o tM_0) 64 (by decide) wd_1465 rfl (hW_w_7.fr tM_0 rfl) dX12_goes_44 ?_
        refine lv_iload_n hx hb dX12_goes_47 rfl (lv_at hl 3 rfl) ?_
        refine va_iald hx hb hK hP 43 0 (hW_w_7.a tM_43) rfl (in_I i_x2_3 (by decide)) dX12_goes_48 ?_
        refine tov (v := v_2) ((congrFun ((aF_cg (st_ne ew_7 (by decide))).trans ((aF_cg (st_ne ew_4 (by decide))).trans (hM_w2.hA (by decide)))) _).trans ((congrFun (hM_w2.hA (by decide)) _).symm.trans ev_2.symm)) ?_
        refine va_iald hx hb hK hP 38 0 (hW_w_7.a tM_38) rfl (in_I (In_of ev_2 (hW_w2.ap tM_43 _) : In 0 2199 v_2) (by decide)) dX12_goes_49 ?_
        refine lv_topi (fun v_8 ev_8 => ?_)
        refine lv_istore_n (lv' := [(3, .int v_8), (0, .ref (q 0)), (1, .int p1), (2, .int p2)]) hx hb dX12_goes_50 rfl hl (by decide) rfl (fun ls hl => ?_)
        refine lv_goto (tgt := 2) hx hb dX12_goes_51 (by decide) ?_
        exact ih2 v_8 w_7 _ _ ls (Nat.lt_of_lt_of_le (GO_st (W := w2) (W2 := w_7) (x := x2_3) (v1 := (v_3 - 1)) (v2 := (v_6 + 1)) hG i_x2_3 hp_2 hg1_2 hg2_2 (nat_ne i_x2_3 i_p1 c_1) (ev_2.trans (congrFun (hM_w2.hA (by decide)) _)) (In_of ev_2 (hW_w2.ap tM_43 _) : In 0 2199 v_2) ev_5 (congrArg (fun z => z - 1) ev_3) (by rw [aF_eq (hW_w_4.lt tM_40) ew_7, aF_eq (hW_w2.lt tM_40) ew_4]) (ev_8.trans (congrFun ((aF_cg (st_ne ew_7 (by decide))).trans ((aF_cg (st_ne ew_4 (by decide))).trans (hM_w2.hA (by decide)))) _))).2.2.2 (Nat.le_of_lt_succ hmu2)) hW_w_7 ((hM_w2.sa ew_4 (by decide)).sa ew_7 (by decide)) i_p1 i_p2 (In_of ev_8 (hW_w_7.ap tM_38 _) : In 0 289 v_8) (GO_st (W := w2) (W2 := w_7) (x := x2_3) (v1 := (v_3 - 1)) (v2 := (v_6 + 1)) hG i_x2_3 hp_2 hg1_2 hg2_2 (nat_ne i_x2_3 i_p1 c_1) (ev_2.trans (congrFun (hM_w2.hA (by decide)) _)) (In_of ev_2 (hW_w2.ap tM_43 _) : In 0 2199 v_2) ev_5 (congrArg (fun z => z - 1) ev_3) (by rw [aF_eq (hW_w_4.lt tM_40) ew_7, aF_eq (hW_w2.lt tM_40) ew_4]) (ev_8.trans (congrFun ((aF_cg (st_ne ew_7 (by decide))).trans ((aF_cg (st_ne ew_4 (by decide))).trans (hM_w2.hA (by decide)))) _))).1 (GO_st (W := w2) (W2 := w_7) (x := x2_3) (v1 := (v_3 - 1)) (v2 := (v_6 + 1)) hG i_x2_3 hp_2 hg1_2 hg2_2 (nat_ne i_x2_3 i_p1 c_1) (ev_2.trans (congrFun (hM_w2.hA (by decide)) _)) (In_of ev_2 (hW_w2.ap tM_43 _) : In 0 2199 v_2) ev_5 (congrArg (fun z => z - 1) ev_3) (by rw [aF_eq (hW_w_4.lt tM_40) ew_7, aF_eq (hW_w2.lt tM_40) ew_4]) (ev_8.trans (congrFun ((aF_cg (st_ne ew_7 (by decide))).trans ((aF_cg (st_ne ew_4 (by decide))).trans (hM_w2.hA (by decide)))) _))).2.1 (GO_st (W := w2) (W2 := w_7) (x := x2_3) (v1 := (v_3 - 1)) (v2 := (v_6 + 1)) hG i_x2_3 hp_2 hg1_2 hg2_2 (nat_ne i_x2_3 i_p1 c_1) (ev_2.trans (congrFun (hM_w2.hA (by decide)) _)) (In_of ev_2 (hW_w2.ap tM_43 _) : In 0 2199 v_2) ev_5 (congrArg (fun z => z - 1) ev_3) (by rw [aF_eq (hW_w_4.lt tM_40) ew_7, aF_eq (hW_w2.lt tM_40) ew_4]) (ev_8.trans (congrFun ((aF_cg (st_ne ew_7 (by decide))).trans ((aF_cg (st_ne ew_4 (by decide))).trans (hM_w2.hA (by decide)))) _))).2.2.1 hP hD hS (lv_sub hl [1, 2, 3, 0] rfl)
  refine lv_iload_n hx hb dX12_goes_0 rfl (lv_at hl 2 rfl) ?_
  refine lv_istore_n (lv' := [(3, .int p2), (0, .ref (q 0)), (1, .int p1), (2, .int p2)]) hx hb dX12_goes_1 rfl hl (by decide) rfl (fun ls hl => ?_)
  exact J2 _ p2 w _ _ ls (Nat.lt_succ_self _) hW_w Sm.rf i_p1 i_p2 i_p2 hG.1 (fun l r => Or.inl r) (Or.inl ⟨rfl, rfl⟩) hP hD hS (lv_sub hl [1, 2, 3, 0] rfl)
set_option maxRecDepth 100000 in
set_option maxHeartbeats 8000000 in
theorem k_X12_settles (l : Launch) (D : va_G) (cI cJ cZ : ClassId) (q : Nat → Nat) (w : va_W) (hW_w : HT q (TM q cI cJ cZ) w) (hNW : NWx w) (hPR : PRx w) (hFP : FPx w) (hO1 : O1x w) : Con_v l yX12_settles cX12_settles 3 none ({ frames := 1, cells := 0, slots := 0, locals := 24 }) D cI cJ cZ eW [.ref (q 0)] w (fun (w1 : va_W) => HT q (TM q cI cJ cZ) w1 ∧ Sm [40, 42, 43, 45] [] w w1) := by
  refine eQ_v rfl (by decide) (Nat.le_of_ble_eq_true rfl) ⟨rfl, rfl⟩ ?_
  intro p e R s m args below meth c A Q hx hb hml hown hts hK hE hA hR hret hP hD hS ls hl
  have hown : s.vm.findClass RX12 = some m.cls := hown
  have hl : lv_has ls 3 [(0, .ref (q 0))] := hl
  have J20 : ∀ (N : Nat) (x20_1 : Int32) (w20 : va_W) (H : Heap) (locs : List Loc) (ls : Array Slot), (400 - x20_1.toInt).toNat < N → HT q (TM q cI cJ cZ) w20 → Sm [40, 42, 43, 45] [] w w20 → (In 0 400 x20_1) → (NWx w20) → (PRx w20) → (FPx w20) → va_P D vwCl w20 H → va_D A w20 → va_S A s.heap H locs → lv_has ls 3 [(0, .ref (q 0)), (1, .int x20_1)] → W p l e R s m args below meth c H locs 0 0 Q (F0 m 20 ls []) := by
    intro N
    induction N with
    | zero => intro x20_1 w20 H locs ls hmu; exact absurd hmu (Nat.not_lt_zero _)
    | succ N ih20 =>
      intro x20_1 w20 H locs ls hmu20 hW_w20 hM_w20 i_x20_1 hnw_20 hpr_20 hfp_20 hP hD hS hl
      have J137 : ∀ (x137_2 : Int32) (w137 : va_W) (H : Heap) (locs : List Loc) (ls : Array Slot), HT q (TM q cI cJ cZ) w137 → Sm [40, 42, 43, 45] [] w w137 → (In 0 399 x20_1) → (In 0 2198 x137_2) → (NWx w137) → (PRx w137) → (FQx w137 (x137_2 : Int32).toInt.toNat) → va_P D vwCl w137 H → va_D A w137 → va_S A s.heap H locs → lv_has ls 3 [(0, .ref (q 0)), (1, .int x20_1), (2, .int x137_2)] → W p l e R s m args below meth c H locs 0 0 Q (F0 m 137 ls []) := by
        intro x137_2 w137 H locs ls hW_w137 hM_w137 i_x137_1 i_x137_2 hnw_137 hpr_137 hfq_137 hP hD hS hl
        refine lv_aload_n hx hb dX12_settles_137 rfl (lv_at hl 0 rfl) ?_
        refine gt_X12 hx hb hts hown hK hP 0 (hW_w137.o tM_0) 66 (by decide) wd_1467 rfl (hW_w137.fr tM_0 rfl) dX12_settles_138 ?_
        refine lv_iload_n hx hb dX12_settles_141 rfl (lv_at hl 1 rfl) ?_
        refine lv_aload_n hx hb dX12_settles_142 rfl (lv_at hl 0 rfl) ?_
        refine gt_X12 hx hb hts hown hK hP 0 (hW_w137.o tM_0) 60 (by decide) wd_1461 rfl (hW_w137.fr tM_0 rfl) dX12_settles_143 ?_
        refine lv_iload_n hx hb dX12_settles_146 rfl (lv_at hl 2 rfl) ?_
        refine va_iald hx hb hK hP 40 0 (hW_w137.a tM_40) rfl (in_I i_x137_2 (by decide)) dX12_settles_147 ?_
        refine lv_topi (fun v_1 ev_1 => ?_)
        refine lv_if_ne (tgt := 155) hx hb dX12_settles_148 (by decide) (fun c_2 => ?_) (fun c_2 => ?_)
        · refine lv_iconst (v := 0) hx hb dX12_settles_155 (by decide) ?_
          refine va_zast hx hb hK hP hD hS 45 2 (hW_w137.a tM_45) rfl (in_I i_x137_1 (by decide)) dX12_settles_156 (fun H locs hP hD hS => fr_w (hW_w137.uA tM_45 (vnar_z _)) hP hD (fun w_3 ew_3 hW_w_3 hP hD => ?_))
          refine lv_aload_n hx hb dX12_settles_157 rfl (lv_at hl 0 rfl) ?_
          refine gt_X12 hx hb hts hown hK hP 0 (hW_w_3.o tM_0) 60 (by decide) wd_1461 rfl (hW_w_3.fr tM_0 rfl) dX12_settles_158 ?_
          refine lv_iload_n hx hb dX12_settles_161 rfl (lv_at hl 2 rfl) ?_
          refine lv_iconst (v := 0) hx hb dX12_settles_162 (by decide) ?_
          refine va_iast hx hb hK hP hD hS 40 0 (hW_w_3.a tM_40) rfl (in_I i_x137_2 (by decide)) dX12_settles_163 (fun H locs hP hD hS => fr_w (hW_w_3.uA tM_40 (In_lit (n := 0) (by decide) (by decide) : In (-2147483648) 2147483647 0)) hP hD (fun w_4 ew_4 hW_w_4 hP hD => ?_))
          refine lv_aload_n hx hb dX12_settles_164 rfl (lv_at hl 0 rfl) ?_
          refine gt_X12 hx hb hts hown hK hP 0 (hW_w_4.o tM_0) 60 (by decide) wd_1461 rfl (hW_w_4.fr tM_0 rfl) dX12_settles_165 ?_
          refine lv_iload_n hx hb dX12_settles_168 rfl (lv_at hl 2 rfl) ?_
          refine lv_iconst (v := 1) hx hb dX12_settles_169 (by decide) ?_
          refine lv_iadd hx hb dX12_settles_170 ?_
          refine lv_iconst (v := 0) hx hb dX12_settles_171 (by decide) ?_
          refine va_iast hx hb hK hP hD hS 40 0 (hW_w_4.a tM_40) rfl (in_I ((In_add i_x137_2 (In_lit (n := 1) (by decide) (by decide) : In 1 1 1) (by decide)) : In 1 2199 (x137_2 + 1)) (by decide)) dX12_settles_172 (fun H locs hP hD hS => fr_w (hW_w_4.uA tM_40 (In_lit (n := 0) (by decide) (by decide) : In (-2147483648) 2147483647 0)) hP hD (fun w_5 ew_5 hW_w_5 hP hD => ?_))
          refine lv_iinc (v := (x20_1 + 1)) (lv' := [(1, .int (x20_1 + 1)), (0, .ref (q 0)), (2, .int x137_2)]) hx hb dX12_settles_173 hl (k := 1) rfl (rfl) (by decide) rfl (fun ls hl => ?_)
          refine lv_goto (tgt := 20) hx hb dX12_settles_176 (by decide) ?_
          exact ih20 (x20_1 + 1) w_5 _ _ ls (mu_inc hmu20 i_x137_1 (In_lit (n := 1) (by decide) (by decide) : In 1 1 1) (by decide)) hW_w_5 (((hM_w137.sa ew_3 (by decide)).sa ew_4 (by decide)).sa ew_5 (by decide)) (In_w ((In_add (y := 1) i_x137_1 (In_lit (n := 1) (by decide) (by decide) : In 1 1 1) (by decide)) : In 1 400 (x20_1 + 1)) (by decide) : In 0 400 (x20_1 + 1)) (NWx_cg ((aF_cg (st_ne ew_5 (by decide))).trans ((aF_cg (st_ne ew_4 (by decide))).trans (aF_cg (st_ne ew_3 (by decide))))) ((aF_cg (st_ne ew_5 (by decide))).trans ((aF_cg (st_ne ew_4 (by decide))).trans (aF_cg (st_ne ew_3 (by decide))))) ((aL_cg (st_ne ew_5 (by decide))).trans ((aL_cg (st_ne ew_4 (by decide))).trans (aL_cg (st_ne ew_3 (by decide))))) ((fI_cg (st_ne ew_5 (by decide))).trans ((fI_cg (st_ne ew_4 (by decide))).trans (fI_cg (st_ne ew_3 (by decide))))) hnw_137) (PRx_cg ((aF_cg (st_ne ew_5 (by decide))).trans ((aF_cg (st_ne ew_4 (by decide))).trans (aF_cg (st_ne ew_3 (by decide))))) ((fI_cg (st_ne ew_5 (by decide))).trans ((fI_cg (st_ne ew_4 (by decide))).trans (fI_cg (st_ne ew_3 (by decide))))) hpr_137) (FP_of (j := (x137_2 : Int32).toInt.toNat) ((aF_cg (st_ne ew_5 (by decide))).trans ((aF_cg (st_ne ew_4 (by decide))).trans (aF_cg (st_ne ew_3 (by decide))))) ((aF_cg (st_ne ew_5 (by decide))).trans ((aF_cg (st_ne ew_4 (by decide))).trans (aF_cg (st_ne ew_3 (by decide))))) ((aL_cg (st_ne ew_5 (by decide))).trans ((aL_cg (st_ne ew_4 (by decide))).trans (aL_cg (st_ne ew_3 (by decide))))) ((fI_cg (st_ne ew_5 (by decide))).trans ((fI_cg (st_ne ew_4 (by decide))).trans (fI_cg (st_ne ew_3 (by decide))))) hfq_137 (fun l n0 n1 => (congrFun (show aF w_5 40 = upd (upd (aF w137 40) x137_2.toNatClampNeg 0) (x137_2 + 1).toNatClampNeg 0 from (by rw [aF_eq (hW_w_4.lt tM_40) ew_5, aF_eq (hW_w_3.lt tM_40) ew_4, (aF_cg (st_ne ew_3 (by decide)))])) l).trans (upd2_ne (f := aF w137 40) (u := 0) (v := 0) i_x137_2 (by decide) rfl l n0 n1)) ((congrFun (show aF w_5 40 = upd (upd (aF w137 40) x137_2.toNatClampNeg 0) (x137_2 + 1).toNatClampNeg 0 from (by rw [aF_eq (hW_w_4.lt tM_40) ew_5, aF_eq (hW_w_3.lt tM_40) ew_4, (aF_cg (st_ne ew_3 (by decide)))])) _).trans (upd2_at (f := aF w137 40) (u := 0) (v := 0) i_x137_2 (by decide) rfl).1) ((congrFun (show aF w_5 40 = upd (upd (aF w137 40) x137_2.toNatClampNeg 0) (x137_2 + 1).toNatClampNeg 0 from (by rw [aF_eq (hW_w_4.lt tM_40) ew_5, aF_eq (hW_w_3.lt tM_40) ew_4, (aF_cg (st_ne ew_3 (by decide)))])) _).trans (upd2_at (f := aF w137 40) (u := 0) (v := 0) i_x137_2 (by decide) rfl).2)) hP hD hS (lv_sub hl [1, 0] rfl)
        · refine lv_iconst (v := 1) hx hb dX12_settles_151 (by decide) ?_
          refine lv_goto (tgt := 156) hx hb dX12_settles_152 (by decide) ?_
          refine va_zast hx hb hK hP hD hS 45 2 (hW_w137.a tM_45) rfl (in_I i_x137_1 (by decide)) dX12_settles_156 (fun H locs hP hD hS => fr_w (hW_w137.uA tM_45 (vnar_z _)) hP hD (fun w_6 ew_6 hW_w_6 hP hD => ?_))
          refine lv_aload_n hx hb dX12_settles_157 rfl (lv_at hl 0 rfl) ?_
          refine gt_X12 hx hb hts hown hK hP 0 (hW_w_6.o tM_0) 60 (by decide) wd_1461 rfl (hW_w_6.fr tM_0 rfl) dX12_settles_158 ?_
          refine lv_iload_n hx hb dX12_settles_161 rfl (lv_at hl 2 rfl) ?_
          refine lv_iconst (v := 0) hx hb dX12_settles_162 (by decide) ?_
          refine va_iast hx hb hK hP hD hS 40 0 (hW_w_6.a tM_40) rfl (in_I i_x137_2 (by decide)) dX12_settles_163 (fun H locs hP hD hS => fr_w (hW_w_6.uA tM_40 (In_lit (n := 0) (by decide) (by decide) : In (-2147483648) 2147483647 0)) hP hD (fun w_7 ew_7 hW_w_7 hP hD => ?_))
          refine lv_aload_n hx hb dX12_settles_164 rfl (lv_at hl 0 rfl) ?_
          refine gt_X12 hx hb hts hown hK hP 0 (hW_w_7.o tM_0) 60 (by decide) wd_1461 rfl (hW_w_7.fr tM_0 rfl) dX12_settles_165 ?_
          refine lv_iload_n hx hb dX12_settles_168 rfl (lv_at hl 2 rfl) ?_
          refine lv_iconst (v := 1) hx hb dX12_settles_169 (by decide) ?_
          refine lv_iadd hx hb dX12_settles_170 ?_
          refine lv_iconst (v := 0) hx hb dX12_settles_171 (by decide) ?_
          refine va_iast hx hb hK hP hD hS 40 0 (hW_w_7.a tM_40) rfl (in_I ((In_add i_x137_2 (In_lit (n := 1) (by decide) (by decide) : In 1 1 1) (by decide)) : In 1 2199 (x137_2 + 1)) (by decide)) dX12_settles_172 (fun H locs hP hD hS => fr_w (hW_w_7.uA tM_40 (In_lit (n := 0) (by decide) (by decide) : In (-2147483648) 2147483647 0)) hP hD (fun w_8 ew_8 hW_w_8 hP hD => ?_))
          refine lv_iinc (v := (x20_1 + 1)) (lv' := [(1, .int (x20_1 + 1)), (0, .ref (q 0)), (2, .int x137_2)]) hx hb dX12_settles_173 hl (k := 1) rfl (rfl) (by decide) rfl (fun ls hl => ?_)
          refine lv_goto (tgt := 20) hx hb dX12_settles_176 (by decide) ?_
          exact ih20 (x20_1 + 1) w_8 _ _ ls (mu_inc hmu20 i_x137_1 (In_lit (n := 1) (by decide) (by decide) : In 1 1 1) (by decide)) hW_w_8 (((hM_w137.sa ew_6 (by decide)).sa ew_7 (by decide)).sa ew_8 (by decide)) (In_w ((In_add (y := 1) i_x137_1 (In_lit (n := 1) (by decide) (by decide) : In 1 1 1) (by decide)) : In 1 400 (x20_1 + 1)) (by decide) : In 0 400 (x20_1 + 1)) (NWx_cg ((aF_cg (st_ne ew_8 (by decide))).trans ((aF_cg (st_ne ew_7 (by decide))).trans (aF_cg (st_ne ew_6 (by decide))))) ((aF_cg (st_ne ew_8 (by decide))).trans ((aF_cg (st_ne ew_7 (by decide))).trans (aF_cg (st_ne ew_6 (by decide))))) ((aL_cg (st_ne ew_8 (by decide))).trans ((aL_cg (st_ne ew_7 (by decide))).trans (aL_cg (st_ne ew_6 (by decide))))) ((fI_cg (st_ne ew_8 (by decide))).trans ((fI_cg (st_ne ew_7 (by decide))).trans (fI_cg (st_ne ew_6 (by decide))))) hnw_137) (PRx_cg ((aF_cg (st_ne ew_8 (by decide))).trans ((aF_cg (st_ne ew_7 (by decide))).trans (aF_cg (st_ne ew_6 (by decide))))) ((fI_cg (st_ne ew_8 (by decide))).trans ((fI_cg (st_ne ew_7 (by decide))).trans (fI_cg (st_ne ew_6 (by decide))))) hpr_137) (FP_of (j := (x137_2 : Int32).toInt.toNat) ((aF_cg (st_ne ew_8 (by decide))).trans ((aF_cg (st_ne ew_7 (by decide))).trans (aF_cg (st_ne ew_6 (by decide))))) ((aF_cg (st_ne ew_8 (by decide))).trans ((aF_cg (st_ne ew_7 (by decide))).trans (aF_cg (st_ne ew_6 (by decide))))) ((aL_cg (st_ne ew_8 (by decide))).trans ((aL_cg (st_ne ew_7 (by decide))).trans (aL_cg (st_ne ew_6 (by decide))))) ((fI_cg (st_ne ew_8 (by decide))).trans ((fI_cg (st_ne ew_7 (by decide))).trans (fI_cg (st_ne ew_6 (by decide))))) hfq_137 (fun l n0 n1 => (congrFun (show aF w_8 40 = upd (upd (aF w137 40) x137_2.toNatClampNeg 0) (x137_2 + 1).toNatClampNeg 0 from (by rw [aF_eq (hW_w_7.lt tM_40) ew_8, aF_eq (hW_w_6.lt tM_40) ew_7, (aF_cg (st_ne ew_6 (by decide)))])) l).trans (upd2_ne (f := aF w137 40) (u := 0) (v := 0) i_x137_2 (by decide) rfl l n0 n1)) ((congrFun (show aF w_8 40 = upd (upd (aF w137 40) x137_2.toNatClampNeg 0) (x137_2 + 1).toNatClampNeg 0 from (by rw [aF_eq (hW_w_7.lt tM_40) ew_8, aF_eq (hW_w_6.lt tM_40) ew_7, (aF_cg (st_ne ew_6 (by decide)))])) _).trans (upd2_at (f := aF w137 40) (u := 0) (v := 0) i_x137_2 (by decide) rfl).1) ((congrFun (show aF w_8 40 = upd (upd (aF w137 40) x137_2.toNatClampNeg 0) (x137_2 + 1).toNatClampNeg 0 from (by rw [aF_eq (hW_w_7.lt tM_40) ew_8, aF_eq (hW_w_6.lt tM_40) ew_7, (aF_cg (st_ne ew_6 (by decide)))])) _).trans (upd2_at (f := aF w137 40) (u := 0) (v := 0) i_x137_2 (by decide) rfl).2)) hP hD hS (lv_sub hl [1, 0] rfl)
      refine lv_iload_n hx hb dX12_settles_20 rfl (lv_at hl 1 rfl) ?_
      refine lv_sipush (v := 400) hx hb dX12_settles_21 (by decide) ?_
      refine lv_icmp_ge (tgt := 179) hx hb dX12_settles_24 (by decide) (fun c_9 => ?_) (fun c_9 => ?_)
      · exact hret _ _ _ _ _ hP hD hS dX12_settles_179 ⟨hW_w20, hM_w20⟩
      · refine lv_aload_n hx hb dX12_settles_27 rfl (lv_at hl 0 rfl) ?_
        refine gt_X12 hx hb hts hown hK hP 0 (hW_w20.o tM_0) 66 (by decide) wd_1467 rfl (hW_w20.fr tM_0 rfl) dX12_settles_28 ?_
        refine lv_iload_n hx hb dX12_settles_31 rfl (lv_at hl 1 rfl) ?_
        refine lv_iconst (v := 0) hx hb dX12_settles_32 (by decide) ?_
        refine va_zast hx hb hK hP hD hS 45 2 (hW_w20.a tM_45) rfl (in_I (R_nle_r (In_lit (n := 400) (by decide) (by decide) : In 400 400 400) i_x20_1 c_9 (by decide) : In 0 399 x20_1) (by decide)) dX12_settles_33 (fun H locs hP hD hS => fr_w (hW_w20.uA tM_45 (vnar_z _)) hP hD (fun w_10 ew_10 hW_w_10 hP hD => ?_))
        refine lv_aload_n hx hb dX12_settles_34 rfl (lv_at hl 0 rfl) ?_
        refine gt_X12 hx hb hts hown hK hP 0 (hW_w_10.o tM_0) 65 (by decide) wd_1466 rfl (hW_w_10.fr tM_0 rfl) dX12_settles_35 ?_
        refine lv_iload_n hx hb dX12_settles_38 rfl (lv_at hl 1 rfl) ?_
        refine va_iald hx hb hK hP 44 0 (hW_w_10.a tM_44) rfl (in_I (R_nle_r (In_lit (n := 400) (by decide) (by decide) : In 400 400 400) i_x20_1 c_9 (by decide) : In 0 399 x20_1) (by decide)) dX12_settles_39 ?_
        refine lv_topi (fun v_11 ev_11 => ?_)
        refine lv_istore_n (lv' := [(2, .int v_11), (0, .ref (q 0)), (1, .int x20_1)]) hx hb dX12_settles_40 rfl hl (by decide) rfl (fun ls hl => ?_)
        refine lv_iload_n hx hb dX12_settles_41 rfl (lv_at hl 0 rfl) ?_
        refine lv_if_ge (tgt := 48) hx hb dX12_settles_42 (by decide) (fun c_12 => ?_) (fun c_12 => ?_)
        · refine lv_aload_n hx hb dX12_settles_48 rfl (lv_at hl 1 rfl) ?_
          refine gt_X12 hx hb hts hown hK hP 0 (hW_w_10.o tM_0) 60 (by decide) wd_1461 rfl (hW_w_10.fr tM_0 rfl) dX12_settles_49 ?_
          refine lv_iload_n hx hb dX12_settles_52 rfl (lv_at hl 0 rfl) ?_
          refine va_iald hx hb hK hP 40 0 (hW_w_10.a tM_40) rfl (in_I (R_le_r (In_lit (n := 0) (by decide) (by decide) : In 0 0 0) (In_of ev_11 (hW_w_10.ap tM_44 _) : In (-1) 2198 v_11) c_12 (by decide) : In 0 2198 v_11) (by decide)) dX12_settles_53 ?_
          refine lv_topi (fun v_13 ev_13 => ?_)
          refine lv_if_le (tgt := 137) hx hb dX12_settles_54 (by decide) (fun c_14 => ?_) (fun c_14 => ?_)
          · exact J137 v_11 w_10 _ _ ls hW_w_10 (hM_w20.sa ew_10 (by decide)) (R_nle_r (In_lit (n := 400) (by decide) (by decide) : In 400 400 400) i_x20_1 c_9 (by decide) : In 0 399 x20_1) (R_le_r (In_lit (n := 0) (by decide) (by decide) : In 0 0 0) (In_of ev_11 (hW_w_10.ap tM_44 _) : In (-1) 2198 v_11) c_12 (by decide) : In 0 2198 v_11) (NWx_cg (aF_cg (st_ne ew_10 (by decide))) (aF_cg (st_ne ew_10 (by decide))) (aL_cg (st_ne ew_10 (by decide))) (fI_cg (st_ne ew_10 (by decide))) hnw_20) (PRx_cg (aF_cg (st_ne ew_10 (by decide))) (fI_cg (st_ne ew_10 (by decide))) hpr_20) (FQ_of (W := w_10) (Wf := w_10) (j := (v_11 : Int32).toInt.toNat) rfl rfl rfl rfl (FPx_cg (aF_cg (st_ne ew_10 (by decide))) (aF_cg (st_ne ew_10 (by decide))) (aF_cg (st_ne ew_10 (by decide))) (aL_cg (st_ne ew_10 (by decide))) (fI_cg (st_ne ew_10 (by decide))) hfp_20) (fun l _ _ => congrFun (rfl : aF w_10 40 = aF w_10 40) l)) hP hD hS (lv_sub hl [1, 2, 0] rfl)
          · have hfp_5 : FPx w_10 := (FPx_cg (aF_cg (st_ne ew_10 (by decide))) (aF_cg (st_ne ew_10 (by decide))) (aF_cg (st_ne ew_10 (by decide))) (aL_cg (st_ne ew_10 (by decide))) (fI_cg (st_ne ew_10 (by decide))) hfp_20)
            have hnw_5 : NWx w_10 := (NWx_cg (aF_cg (st_ne ew_10 (by decide))) (aF_cg (st_ne ew_10 (by decide))) (aL_cg (st_ne ew_10 (by decide))) (fI_cg (st_ne ew_10 (by decide))) hnw_20)
            obtain ⟨gq_5, hq1_5, hq2_5⟩ := hfp_5
            refine lv_aload_n hx hb dX12_settles_57 rfl (lv_at hl 1 rfl) ?_
            refine lv_aload_n hx hb dX12_settles_58 rfl (lv_at hl 1 rfl) ?_
            refine gt_X12 hx hb hts hown hK hP 0 (hW_w_10.o tM_0) 59 (by decide) wd_1460 rfl (hW_w_10.fr tM_0 rfl) dX12_settles_59 ?_
            refine lv_iload_n hx hb dX12_settles_62 rfl (lv_at hl 0 rfl) ?_
            refine va_iald hx hb hK hP 39 0 (hW_w_10.a tM_39) rfl (in_I (R_le_r (In_lit (n := 0) (by decide) (by decide) : In 0 0 0) (In_of ev_11 (hW_w_10.ap tM_44 _) : In (-1) 2198 v_11) c_12 (by decide) : In 0 2198 v_11) (by decide)) dX12_settles_63 ?_
            refine lv_topi (fun v_15 ev_15 => ?_)
            refine lv_aload_n hx hb dX12_settles_64 rfl (lv_at hl 1 rfl) ?_
            refine gt_X12 hx hb hts hown hK hP 0 (hW_w_10.o tM_0) 58 (by decide) wd_1459 rfl (hW_w_10.fr tM_0 rfl) dX12_settles_65 ?_
            refine lv_iload_n hx hb dX12_settles_68 rfl (lv_at hl 0 rfl) ?_
            refine va_iald hx hb hK hP 38 0 (hW_w_10.a tM_38) rfl (in_I (R_le_r (In_lit (n := 0) (by decide) (by decide) : In 0 0 0) (In_of ev_11 (hW_w_10.ap tM_44 _) : In (-1) 2198 v_11) c_12 (by decide) : In 0 2198 v_11) (by decide)) dX12_settles_69 ?_
            refine lv_topi (fun v_16 ev_16 => ?_)
            refine kW_i ⟨rfl, rfl⟩ hP hD hS hA (rW_V (As := [.int v_15, .int v_16]) (rest := []) hx hb hml hown hts hK hE hP hD (k_X12_finds l D cI cJ cZ q w_10 hW_w_10 v_15 v_16 (In_of ev_15 (hW_w_10.ap tM_39 _) : In 0 289 v_15) (In_of ev_16 (hW_w_10.ap tM_38 _) : In 0 289 v_16) (gq_5) ((FEx_of (NWx_cg (aF_cg (st_ne ew_10 (by decide))) (aF_cg (st_ne ew_10 (by decide))) (aL_cg (st_ne ew_10 (by decide))) (fI_cg (st_ne ew_10 (by decide))) hnw_20) hq1_5 hq2_5)) _) ⟨⟨rfl, rfl⟩, rfl, rfl⟩ sv_X12_527 ⟨(Nat.le_trans (by decide) hR.1), (Nat.le_trans (by decide) hR.2)⟩ 0 12 (hW_w_10.o tM_0) rfl rfl rfl hl.1 rfl (Nat.le_of_ble_eq_true rfl) dX12_settles_70) (fun r_18 w_17 H locs hw_w_17 hP hD hS => ?_)
            obtain ⟨hW_w_17, hs_w_17, i_r_18, h_19, h_20, h_21⟩ := hw_w_17
            refine lv_if_eq (tgt := 137) hx hb dX12_settles_73 (by decide) (fun c_22 => ?_) (fun c_22 => ?_)
            · exact J137 v_11 w_17 _ _ ls hW_w_17 ((hM_w20.sa ew_10 (by decide)).tr hs_w_17 (by decide)) (R_nle_r (In_lit (n := 400) (by decide) (by decide) : In 400 400 400) i_x20_1 c_9 (by decide) : In 0 399 x20_1) (R_le_r (In_lit (n := 0) (by decide) (by decide) : In 0 0 0) (In_of ev_11 (hW_w_10.ap tM_44 _) : In (-1) 2198 v_11) c_12 (by decide) : In 0 2198 v_11) (NWx_cg ((hs_w_17.hA (by decide)).trans (aF_cg (st_ne ew_10 (by decide)))) ((hs_w_17.hA (by decide)).trans (aF_cg (st_ne ew_10 (by decide)))) ((hs_w_17.hL (by decide)).trans (aL_cg (st_ne ew_10 (by decide)))) ((hs_w_17.gI (by decide)).trans (fI_cg (st_ne ew_10 (by decide)))) hnw_20) (PRx_cg ((hs_w_17.hA (by decide)).trans (aF_cg (st_ne ew_10 (by decide)))) ((hs_w_17.gI (by decide)).trans (fI_cg (st_ne ew_10 (by decide)))) hpr_20) (FQ_of (W := w_10) (Wf := w_10) (j := (v_11 : Int32).toInt.toNat) (hs_w_17.hA (by decide)) (hs_w_17.hA (by decide)) (hs_w_17.hL (by decide)) (hs_w_17.gI (by decide)) ⟨gq_5, hq1_5, hq2_5⟩ (fun l _ _ => congrFun (hs_w_17.hA (by decide)) l)) hP hD hS (lv_sub hl [1, 2, 0] rfl)
            · obtain ⟨t_99, c_99, hb_99⟩ := h_19
              have hr_99 := h_21 c_22
              refine lv_aload_n hx hb dX12_settles_76 rfl (lv_at hl 1 rfl) ?_
              refine gt_X12 hx hb hts hown hK hP 0 (hW_w_17.o tM_0) 63 (by decide) wd_1464 rfl (hW_w_17.fr tM_0 rfl) dX12_settles_77 ?_
              refine lv_aload_n hx hb dX12_settles_80 rfl (lv_at hl 1 rfl) ?_
              refine gt_X12 hx hb hts hown hK hP 0 (hW_w_17.o tM_0) 58 (by decide) wd_1459 rfl (hW_w_17.fr tM_0 rfl) dX12_settles_81 ?_
              refine lv_iload_n hx hb dX12_settles_84 rfl (lv_at hl 0 rfl) ?_
              refine va_iald hx hb hK hP 38 0 (hW_w_17.a tM_38) rfl (in_I (R_le_r (In_lit (n := 0) (by decide) (by decide) : In 0 0 0) (In_of ev_11 (hW_w_10.ap tM_44 _) : In (-1) 2198 v_11) c_12 (by decide) : In 0 2198 v_11) (by decide)) dX12_settles_85 ?_
              refine tov (v := v_16) ((congrFun ((hs_w_17.hA (by decide)).trans ((aF_cg (st_ne ew_10 (by decide))).trans (hM_w20.hA (by decide)))) _).trans ((congrFun ((aF_cg (st_ne ew_10 (by decide))).trans (hM_w20.hA (by decide))) _).symm.trans ev_16.symm)) ?_
              refine va_lald hx hb hK hP 42 1 (hW_w_17.al tM_42) rfl (in_I (In_of ev_16 (hW_w_10.ap tM_38 _) : In 0 289 v_16) (by decide)) dX12_settles_86 ?_
              refine lv_topl (fun v_23 ev_23 => ?_)
              refine lv_aload_n hx hb dX12_settles_87 rfl (lv_at hl 1 rfl) ?_
              refine gt_X12 hx hb hts hown hK hP 0 (hW_w_17.o tM_0) 61 (by decide) wd_1462 rfl (hW_w_17.fr tM_0 rfl) dX12_settles_88 ?_
              refine lv_iload_n hx hb dX12_settles_91 rfl (lv_at hl 0 rfl) ?_
              refine va_lald hx hb hK hP 41 1 (hW_w_17.al tM_41) rfl (in_I (R_le_r (In_lit (n := 0) (by decide) (by decide) : In 0 0 0) (In_of ev_11 (hW_w_10.ap tM_44 _) : In (-1) 2198 v_11) c_12 (by decide) : In 0 2198 v_11) (by decide)) dX12_settles_92 ?_
              refine lv_topl (fun v_24 ev_24 => ?_)
              refine lv_ladd hx hb dX12_settles_93 ?_
              refine lv_topl (fun v_25 ev_25 => ?_)
              refine lv_lconst (v := 0) hx hb dX12_settles_94 (by decide) ?_
              refine W.lcmp hx hb dX12_settles_95 ?_
              refine lv_topi (fun v_26 ev_26 => ?_)
              refine lv_if_ne (tgt := 137) hx hb dX12_settles_96 (by decide) (fun c_27 => ?_) (fun c_27 => ?_)
              · exact J137 v_11 w_17 _ _ ls hW_w_17 ((hM_w20.sa ew_10 (by decide)).tr hs_w_17 (by decide)) (R_nle_r (In_lit (n := 400) (by decide) (by decide) : In 400 400 400) i_x20_1 c_9 (by decide) : In 0 399 x20_1) (R_le_r (In_lit (n := 0) (by decide) (by decide) : In 0 0 0) (In_of ev_11 (hW_w_10.ap tM_44 _) : In (-1) 2198 v_11) c_12 (by decide) : In 0 2198 v_11) (NWx_cg ((hs_w_17.hA (by decide)).trans (aF_cg (st_ne ew_10 (by decide)))) ((hs_w_17.hA (by decide)).trans (aF_cg (st_ne ew_10 (by decide)))) ((hs_w_17.hL (by decide)).trans (aL_cg (st_ne ew_10 (by decide)))) ((hs_w_17.gI (by decide)).trans (fI_cg (st_ne ew_10 (by decide)))) hnw_20) (PRx_cg ((hs_w_17.hA (by decide)).trans (aF_cg (st_ne ew_10 (by decide)))) ((hs_w_17.gI (by decide)).trans (fI_cg (st_ne ew_10 (by decide)))) hpr_20) (FQ_of (W := w_10) (Wf := w_10) (j := (v_11 : Int32).toInt.toNat) (hs_w_17.hA (by decide)) (hs_w_17.hA (by decide)) (hs_w_17.hL (by decide)) (hs_w_17.gI (by decide)) ⟨gq_5, hq1_5, hq2_5⟩ (fun l _ _ => congrFun (hs_w_17.hA (by decide)) l)) hP hD hS (lv_sub hl [1, 2, 0] rfl)
              · refine lv_aload_n hx hb dX12_settles_99 rfl (lv_at hl 1 rfl) ?_
                refine lv_aload_n hx hb dX12_settles_100 rfl (lv_at hl 1 rfl) ?_
                refine gt_X12 hx hb hts hown hK hP 0 (hW_w_17.o tM_0) 59 (by decide) wd_1460 rfl (hW_w_17.fr tM_0 rfl) dX12_settles_101 ?_
                refine lv_iload_n hx hb dX12_settles_104 rfl (lv_at hl 0 rfl) ?_
                refine va_iald hx hb hK hP 39 0 (hW_w_17.a tM_39) rfl (in_I (R_le_r (In_lit (n := 0) (by decide) (by decide) : In 0 0 0) (In_of ev_11 (hW_w_10.ap tM_44 _) : In (-1) 2198 v_11) c_12 (by decide) : In 0 2198 v_11) (by decide)) dX12_settles_105 ?_
                refine tov (v := v_15) ((congrFun ((hs_w_17.hA (by decide)).trans ((aF_cg (st_ne ew_10 (by decide))).trans (hM_w20.hA (by decide)))) _).trans ((congrFun ((aF_cg (st_ne ew_10 (by decide))).trans (hM_w20.hA (by decide))) _).symm.trans ev_15.symm)) ?_
                refine lv_aload_n hx hb dX12_settles_106 rfl (lv_at hl 1 rfl) ?_
                refine gt_X12 hx hb hts hown hK hP 0 (hW_w_17.o tM_0) 58 (by decide) wd_1459 rfl (hW_w_17.fr tM_0 rfl) dX12_settles_107 ?_
                refine lv_iload_n hx hb dX12_settles_110 rfl (lv_at hl 0 rfl) ?_
                refine va_iald hx hb hK hP 38 0 (hW_w_17.a tM_38) rfl (in_I (R_le_r (In_lit (n := 0) (by decide) (by decide) : In 0 0 0) (In_of ev_11 (hW_w_10.ap tM_44 _) : In (-1) 2198 v_11) c_12 (by decide) : In 0 2198 v_11) (by decide)) dX12_settles_111 ?_
                refine tov (v := v_16) ((congrFun ((hs_w_17.hA (by decide)).trans ((aF_cg (st_ne ew_10 (by decide))).trans (hM_w20.hA (by decide)))) _).trans ((congrFun ((aF_cg (st_ne ew_10 (by decide))).trans (hM_w20.hA (by decide))) _).symm.trans ev_16.symm)) ?_
                refine kW_v ⟨rfl, rfl⟩ hP hD hS hA (rW_V (As := [.int v_15, .int v_16]) (rest := []) hx hb hml hown hts hK hE hP hD (k_X12_goes l D cI cJ cZ q w_17 hW_w_17 v_15 v_16 (In_of ev_15 (hW_w_10.ap tM_39 _) : In 0 289 v_15) (In_of ev_16 (hW_w_10.ap tM_38 _) : In 0 289 v_16) (t_99) (gPx w_17 gq_5 (v_15 : Int32).toInt.toNat (v_16 : Int32).toInt.toNat) ((GH_of (W := w_10) hnw_5 hq1_5 (fun j => (hW_w_10.ap tM_38 j : In 0 289 _)) hb_99 h_20 (by have y := (In_of ev_16 (hW_w_10.ap tM_38 _) : In 0 289 v_16); unfold In at y; omega) hr_99 (hs_w_17.hA (by decide)) (hs_w_17.hA (by decide)))) _) ⟨⟨rfl, rfl⟩, rfl, rfl⟩ sv_X12_530 ⟨(Nat.le_trans (by decide) hR.1), (Nat.le_trans (by decide) hR.2)⟩ 0 12 (hW_w_17.o tM_0) rfl rfl rfl hl.1 rfl (Nat.le_of_ble_eq_true rfl) dX12_settles_112) (fun w_28 H locs hw_w_28 hP hD hS => ?_)
                obtain ⟨hW_w_28, hs_w_28, h_30, h_31⟩ := hw_w_28
                refine lv_aload_n hx hb dX12_settles_115 rfl (lv_at hl 1 rfl) ?_
                refine gt_X12 hx hb hts hown hK hP 0 (hW_w_28.o tM_0) 60 (by decide) wd_1461 rfl (hW_w_28.fr tM_0 rfl) dX12_settles_116 ?_
                refine lv_iload_n hx hb dX12_settles_119 rfl (lv_at hl 0 rfl) ?_
                refine lv_dup2_11 hx hb dX12_settles_120 rfl rfl ?_
                refine va_iald hx hb hK hP 40 0 (hW_w_28.a tM_40) rfl (in_I (R_le_r (In_lit (n := 0) (by decide) (by decide) : In 0 0 0) (In_of ev_11 (hW_w_10.ap tM_44 _) : In (-1) 2198 v_11) c_12 (by decide) : In 0 2198 v_11) (by decide)) dX12_settles_121 ?_
                refine lv_topi (fun v_32 ev_32 => ?_)
                refine lv_iconst (v := 1) hx hb dX12_settles_122 (by decide) ?_
                refine lv_isub hx hb dX12_settles_123 ?_
                refine va_iast hx hb hK hP hD hS 40 0 (hW_w_28.a tM_40) rfl (in_I (R_le_r (In_lit (n := 0) (by decide) (by decide) : In 0 0 0) (In_of ev_11 (hW_w_10.ap tM_44 _) : In (-1) 2198 v_11) c_12 (by decide) : In 0 2198 v_11) (by decide)) dX12_settles_124 (fun H locs hP hD hS => fr_w (hW_w_28.uA tM_40 (In_any (v_32 - 1))) hP hD (fun w_33 ew_33 hW_w_33 hP hD => ?_))
                refine lv_aload_n hx hb dX12_settles_125 rfl (lv_at hl 1 rfl) ?_
                refine gt_X12 hx hb hts hown hK hP 0 (hW_w_33.o tM_0) 60 (by decide) wd_1461 rfl (hW_w_33.fr tM_0 rfl) dX12_settles_126 ?_
                refine lv_iload_n hx hb dX12_settles_129 rfl (lv_at hl 0 rfl) ?_
                refine lv_iconst (v := 1) hx hb dX12_settles_130 (by decide) ?_
                refine lv_iadd hx hb dX12_settles_131 ?_
                refine lv_dup2_11 hx hb dX12_settles_132 rfl rfl ?_
                refine va_iald hx hb hK hP 40 0 (hW_w_33.a tM_40) rfl (in_I ((In_add (R_le_r (In_lit (n := 0) (by decide) (by decide) : In 0 0 0) (In_of ev_11 (hW_w_10.ap tM_44 _) : In (-1) 2198 v_11) c_12 (by decide) : In 0 2198 v_11) (In_lit (n := 1) (by decide) (by decide) : In 1 1 1) (by decide)) : In 1 2199 (v_11 + 1)) (by decide)) dX12_settles_133 ?_
                refine lv_topi (fun v_34 ev_34 => ?_)
                refine lv_iconst (v := 1) hx hb dX12_settles_134 (by decide) ?_
                refine lv_iadd hx hb dX12_settles_135 ?_
                refine va_iast hx hb hK hP hD hS 40 0 (hW_w_33.a tM_40) rfl (in_I ((In_add (R_le_r (In_lit (n := 0) (by decide) (by decide) : In 0 0 0) (In_of ev_11 (hW_w_10.ap tM_44 _) : In (-1) 2198 v_11) c_12 (by decide) : In 0 2198 v_11) (In_lit (n := 1) (by decide) (by decide) : In 1 1 1) (by decide)) : In 1 2199 (v_11 + 1)) (by decide)) dX12_settles_136 (fun H locs hP hD hS => fr_w (hW_w_33.uA tM_40 (In_any (v_34 + 1))) hP hD (fun w_35 ew_35 hW_w_35 hP hD => ?_))
                exact J137 v_11 w_35 _ _ ls hW_w_35 (((((hM_w20.sa ew_10 (by decide)).tr hs_w_17 (by decide)).tr hs_w_28 (by decide)).sa ew_33 (by decide)).sa ew_35 (by decide)) (R_nle_r (In_lit (n := 400) (by decide) (by decide) : In 400 400 400) i_x20_1 c_9 (by decide) : In 0 399 x20_1) (R_le_r (In_lit (n := 0) (by decide) (by decide) : In 0 0 0) (In_of ev_11 (hW_w_10.ap tM_44 _) : In (-1) 2198 v_11) c_12 (by decide) : In 0 2198 v_11) (NWx_cg ((aF_cg (st_ne ew_35 (by decide))).trans ((aF_cg (st_ne ew_33 (by decide))).trans ((hs_w_28.hA (by decide)).trans ((hs_w_17.hA (by decide)).trans (aF_cg (st_ne ew_10 (by decide))))))) ((aF_cg (st_ne ew_35 (by decide))).trans ((aF_cg (st_ne ew_33 (by decide))).trans ((hs_w_28.hA (by decide)).trans ((hs_w_17.hA (by decide)).trans (aF_cg (st_ne ew_10 (by decide))))))) ((aL_cg (st_ne ew_35 (by decide))).trans ((aL_cg (st_ne ew_33 (by decide))).trans ((hs_w_28.hL (by decide)).trans ((hs_w_17.hL (by decide)).trans (aL_cg (st_ne ew_10 (by decide))))))) ((fI_cg (st_ne ew_35 (by decide))).trans ((fI_cg (st_ne ew_33 (by decide))).trans ((hs_w_28.gI (by decide)).trans ((hs_w_17.gI (by decide)).trans (fI_cg (st_ne ew_10 (by decide))))))) hnw_20) (PRx_cg ((aF_cg (st_ne ew_35 (by decide))).trans ((aF_cg (st_ne ew_33 (by decide))).trans ((hs_w_28.hA (by decide)).trans ((hs_w_17.hA (by decide)).trans (aF_cg (st_ne ew_10 (by decide))))))) ((fI_cg (st_ne ew_35 (by decide))).trans ((fI_cg (st_ne ew_33 (by decide))).trans ((hs_w_28.gI (by decide)).trans ((hs_w_17.gI (by decide)).trans (fI_cg (st_ne ew_10 (by decide))))))) hpr_20) (FQ_of (W := w_10) (Wf := w_28) (j := (v_11 : Int32).toInt.toNat) ((aF_cg (st_ne ew_35 (by decide))).trans ((aF_cg (st_ne ew_33 (by decide))).trans ((hs_w_28.hA (by decide)).trans (hs_w_17.hA (by decide))))) ((aF_cg (st_ne ew_35 (by decide))).trans ((aF_cg (st_ne ew_33 (by decide))).trans ((hs_w_28.hA (by decide)).trans (hs_w_17.hA (by decide))))) ((aL_cg (st_ne ew_35 (by decide))).trans ((aL_cg (st_ne ew_33 (by decide))).trans ((hs_w_28.hL (by decide)).trans (hs_w_17.hL (by decide))))) ((fI_cg (st_ne ew_35 (by decide))).trans ((fI_cg (st_ne ew_33 (by decide))).trans ((hs_w_28.gI (by decide)).trans (hs_w_17.gI (by decide))))) (ST_2 (W := w_10) (Wf := w_17) (Wg := w_28) (l := v_11.toNatClampNeg) hnw_5 hq1_5 hq2_5 (fun j => (hW_w_10.ap tM_38 j : In 0 289 _)) (fun j => (hW_w_10.ap tM_39 j : In 0 289 _)) (by have q := hb_99; rw [(show (v_15 : Int32).toInt.toNat = toM w_10 v_11.toNatClampNeg from congrArg (fun z => z.toInt.toNat) ev_15)] at q; exact q) h_20 (by show (v_11 : Int32).toInt.toNat < lnM w_10; exact (by have y := (PRx_cg (aF_cg (st_ne ew_10 (by decide))) (fI_cg (st_ne ew_10 (by decide))) hpr_20) (x20_1.toNatClampNeg) (by have z := (R_nle_r (In_lit (n := 400) (by decide) (by decide) : In 400 400 400) i_x20_1 c_9 (by decide) : In 0 399 x20_1); show x20_1.toInt.toNat < 400; unfold In at z; omega); rw [← show v_11 = aF w_10 44 x20_1.toNatClampNeg from ev_11] at y; exact y (by have z := (R_le_r (In_lit (n := 0) (by decide) (by decide) : In 0 0 0) (In_of ev_11 (hW_w_10.ap tM_44 _) : In (-1) 2198 v_11) c_12 (by decide) : In 0 2198 v_11); unfold In at z; omega))) (fun q => absurd (ev_13.trans q) (fun y => by have k := (R_nle_l (In_any v_13) (In_lit (n := 0) (by decide) (by decide) : In 0 0 0) c_14 (by decide) : In 1 2147483647 v_13); rw [y] at k; exact absurd k (by unfold In; decide))) (by have q := hr_99; rw [(show (v_16 : Int32).toInt.toNat = frM w_10 v_11.toNatClampNeg from congrArg (fun z => z.toInt.toNat) ev_16)] at q; exact q) (SZ (W := w_10) (Wf := w_17) (l := v_11.toNatClampNeg) (FEx_of hnw_5 hq1_5 hq2_5) ⟨t_99, c_99, hb_99⟩ (by have y := (In_of ev_15 (hW_w_10.ap tM_39 _) : In 0 289 v_15); unfold In at y; omega) (by show (v_11 : Int32).toInt.toNat < lnM w_10; exact (by have y := (PRx_cg (aF_cg (st_ne ew_10 (by decide))) (fI_cg (st_ne ew_10 (by decide))) hpr_20) (x20_1.toNatClampNeg) (by have z := (R_nle_r (In_lit (n := 400) (by decide) (by decide) : In 400 400 400) i_x20_1 c_9 (by decide) : In 0 399 x20_1); show x20_1.toInt.toNat < 400; unfold In at z; omega); rw [← show v_11 = aF w_10 44 x20_1.toNatClampNeg from ev_11] at y; exact y (by have z := (R_le_r (In_lit (n := 0) (by decide) (by decide) : In 0 0 0) (In_of ev_11 (hW_w_10.ap tM_44 _) : In (-1) 2198 v_11) c_12 (by decide) : In 0 2198 v_11); unfold In at z; omega))) (In_of ev_16 (hW_w_10.ap tM_38 _) : In 0 289 v_16) ev_16 ev_23 (ev_24.trans (congrFun (hs_w_17.hL (by decide)) _)) hr_99 ev_25 (lc_eq ev_26 c_27)) (hs_w_17.hA (by decide)) (by have q := h_30; rw [(show (v_15 : Int32).toInt.toNat = toM w_10 v_11.toNatClampNeg from congrArg (fun z => z.toInt.toNat) ev_15), (show (v_16 : Int32).toInt.toNat = frM w_10 v_11.toNatClampNeg from congrArg (fun z => z.toInt.toNat) ev_16)] at q; exact q)) (fun l n0 n1 => (congrFun (show aF w_35 40 = upd (upd (aF w_28 40) v_11.toNatClampNeg (v_32 - 1)) (v_11 + 1).toNatClampNeg (v_34 + 1) from (by rw [aF_eq (hW_w_33.lt tM_40) ew_35, aF_eq (hW_w_28.lt tM_40) ew_33])) l).trans (upd2_ne (R_le_r (In_lit (n := 0) (by decide) (by decide) : In 0 0 0) (In_of ev_11 (hW_w_10.ap tM_44 _) : In (-1) 2198 v_11) c_12 (by decide) : In 0 2198 v_11) (by decide) rfl l n0 n1))) hP hD hS (lv_sub hl [1, 2, 0] rfl)
        · refine lv_goto (tgt := 173) hx hb dX12_settles_45 (by decide) ?_
          refine lv_iinc (v := (x20_1 + 1)) (lv' := [(1, .int (x20_1 + 1)), (2, .int v_11), (0, .ref (q 0))]) hx hb dX12_settles_173 hl (k := 2) rfl (rfl) (by decide) rfl (fun ls hl => ?_)
          refine lv_goto (tgt := 20) hx hb dX12_settles_176 (by decide) ?_
          exact ih20 (x20_1 + 1) w_10 _ _ ls (mu_inc hmu20 (R_nle_r (In_lit (n := 400) (by decide) (by decide) : In 400 400 400) i_x20_1 c_9 (by decide) : In 0 399 x20_1) (In_lit (n := 1) (by decide) (by decide) : In 1 1 1) (by decide)) hW_w_10 (hM_w20.sa ew_10 (by decide)) (In_w ((In_add (y := 1) (R_nle_r (In_lit (n := 400) (by decide) (by decide) : In 400 400 400) i_x20_1 c_9 (by decide) : In 0 399 x20_1) (In_lit (n := 1) (by decide) (by decide) : In 1 1 1) (by decide)) : In 1 400 (x20_1 + 1)) (by decide) : In 0 400 (x20_1 + 1)) (NWx_cg (aF_cg (st_ne ew_10 (by decide))) (aF_cg (st_ne ew_10 (by decide))) (aL_cg (st_ne ew_10 (by decide))) (fI_cg (st_ne ew_10 (by decide))) hnw_20) (PRx_cg (aF_cg (st_ne ew_10 (by decide))) (fI_cg (st_ne ew_10 (by decide))) hpr_20) (FPx_cg (aF_cg (st_ne ew_10 (by decide))) (aF_cg (st_ne ew_10 (by decide))) (aF_cg (st_ne ew_10 (by decide))) (aL_cg (st_ne ew_10 (by decide))) (fI_cg (st_ne ew_10 (by decide))) hfp_20) hP hD hS (lv_sub hl [2, 0] rfl)
  have J0 : ∀ (N : Nat) (w0 : va_W) (H : Heap) (locs : List Loc) (ls : Array Slot), (s1M w0 (lnM w0)) < N → HT q (TM q cI cJ cZ) w0 → Sm [40, 42, 43, 45] [] w w0 → (NWx w0) → (PRx w0) → (FPx w0) → (O1x w0) → va_P D vwCl w0 H → va_D A w0 → va_S A s.heap H locs → lv_has ls 3 [(0, .ref (q 0))] → W p l e R s m args below meth c H locs 0 0 Q (F0 m 0 ls []) := by
    intro N
    induction N with
    | zero => intro w0 H locs ls hmu; exact absurd hmu (Nat.not_lt_zero _)
    | succ N ih0 =>
      intro w0 H locs ls hmu0 hW_w0 hM_w0 hnw_0 hpr_0 hfp_0 ho1_0 hP hD hS hl
      obtain ⟨gq_0, hq1_0, hq2_0⟩ := id hfp_0
      refine lv_aload_n hx hb dX12_settles_0 rfl (lv_at hl 0 rfl) ?_
      refine lv_iconst (v := 0) hx hb dX12_settles_1 (by decide) ?_
      refine lv_iconst (v := 1) hx hb dX12_settles_2 (by decide) ?_
      refine kW_i ⟨rfl, rfl⟩ hP hD hS hA (rW_V (As := [.int 0, .int 1]) (rest := []) hx hb hml hown hts hK hE hP hD (k_X12_finds l D cI cJ cZ q w0 hW_w0 0 1 (In_lit (n := 0) (by decide) (by decide) : In 0 289 0) (In_lit (n := 1) (by decide) (by decide) : In 0 289 1) (gq_0) ((FEx_of hnw_0 hq1_0 hq2_0)) _) ⟨⟨rfl, rfl⟩, rfl, rfl⟩ sv_X12_527 ⟨(Nat.le_trans (by decide) hR.1), (Nat.le_trans (by decide) hR.2)⟩ 0 12 (hW_w0.o tM_0) rfl rfl rfl hl.1 rfl (Nat.le_of_ble_eq_true rfl) dX12_settles_3) (fun r_37 w_36 H locs hw_w_36 hP hD hS => ?_)
      obtain ⟨hW_w_36, hs_w_36, i_r_37, h_38, h_39, h_40⟩ := hw_w_36
      refine lv_if_eq (tgt := 18) hx hb dX12_settles_6 (by decide) (fun c_41 => ?_) (fun c_41 => ?_)
      · refine lv_iconst (v := 0) hx hb dX12_settles_18 (by decide) ?_
        refine lv_istore_n (lv' := [(1, .int 0), (0, .ref (q 0))]) hx hb dX12_settles_19 rfl hl (by decide) rfl (fun ls hl => ?_)
        exact J20 _ 0 w_36 _ _ ls (Nat.lt_succ_self _) hW_w_36 (hM_w0.tr hs_w_36 (by decide)) (In_lit (n := 0) (by decide) (by decide) : In 0 400 0) (NWx_cg (hs_w_36.hA (by decide)) (hs_w_36.hA (by decide)) (hs_w_36.hL (by decide)) (hs_w_36.gI (by decide)) hnw_0) (PRx_cg (hs_w_36.hA (by decide)) (hs_w_36.gI (by decide)) hpr_0) (FPx_cg (hs_w_36.hA (by decide)) (hs_w_36.hA (by decide)) (hs_w_36.hA (by decide)) (hs_w_36.hL (by decide)) (hs_w_36.gI (by decide)) hfp_0) hP hD hS (lv_sub hl [1, 0] rfl)
      · obtain ⟨t_9, c_9, hb_9⟩ := h_38
        have hr_9 := h_40 c_41
        refine lv_aload_n hx hb dX12_settles_9 rfl (lv_at hl 0 rfl) ?_
        refine lv_iconst (v := 0) hx hb dX12_settles_10 (by decide) ?_
        refine lv_iconst (v := 1) hx hb dX12_settles_11 (by decide) ?_
        refine kW_v ⟨rfl, rfl⟩ hP hD hS hA (rW_V (As := [.int 0, .int 1]) (rest := []) hx hb hml hown hts hK hE hP hD (k_X12_goes l D cI cJ cZ q w_36 hW_w_36 0 1 (In_lit (n := 0) (by decide) (by decide) : In 0 289 0) (In_lit (n := 1) (by decide) (by decide) : In 0 289 1) (t_9) (gPx w_36 gq_0 0 1) ((GH_of (W := w0) hnw_0 hq1_0 (fun j => (hW_w0.ap tM_38 j : In 0 289 _)) hb_9 h_39 (by decide) hr_9 (hs_w_36.hA (by decide)) (hs_w_36.hA (by decide)))) _) ⟨⟨rfl, rfl⟩, rfl, rfl⟩ sv_X12_530 ⟨(Nat.le_trans (by decide) hR.1), (Nat.le_trans (by decide) hR.2)⟩ 0 12 (hW_w_36.o tM_0) rfl rfl rfl hl.1 rfl (Nat.le_of_ble_eq_true rfl) dX12_settles_12) (fun w_42 H locs hw_w_42 hP hD hS => ?_)
        obtain ⟨hW_w_42, hs_w_42, h_44, h_45⟩ := hw_w_42
        refine lv_goto (tgt := 0) hx hb dX12_settles_15 (by decide) ?_
        exact ih0 w_42 _ _ ls (Nat.lt_of_lt_of_le (ST_1 (W := w0) (Wf := w_36) (Wg := w_42) hnw_0 hq1_0 hq2_0 ho1_0 (fun j => (hW_w0.ap tM_38 j : In 0 289 _)) hb_9 h_39 hr_9 (hs_w_36.hA (by decide)) (hs_w_36.hA (by decide)) h_44 h_45 ((hs_w_42.hA (by decide)).trans (hs_w_36.hA (by decide))) ((hs_w_42.hA (by decide)).trans (hs_w_36.hA (by decide))) ((hs_w_42.hL (by decide)).trans (hs_w_36.hL (by decide))) ((hs_w_42.gI (by decide)).trans (hs_w_36.gI (by decide)))).2.2 (Nat.le_of_lt_succ hmu0)) hW_w_42 ((hM_w0.tr hs_w_36 (by decide)).tr hs_w_42 (by decide)) (NWx_cg ((hs_w_42.hA (by decide)).trans (hs_w_36.hA (by decide))) ((hs_w_42.hA (by decide)).trans (hs_w_36.hA (by decide))) ((hs_w_42.hL (by decide)).trans (hs_w_36.hL (by decide))) ((hs_w_42.gI (by decide)).trans (hs_w_36.gI (by decide))) hnw_0) (PRx_cg ((hs_w_42.hA (by decide)).trans (hs_w_36.hA (by decide))) ((hs_w_42.gI (by decide)).trans (hs_w_36.gI (by decide))) hpr_0) (ST_1 (W := w0) (Wf := w_36) (Wg := w_42) hnw_0 hq1_0 hq2_0 ho1_0 (fun j => (hW_w0.ap tM_38 j : In 0 289 _)) hb_9 h_39 hr_9 (hs_w_36.hA (by decide)) (hs_w_36.hA (by decide)) h_44 h_45 ((hs_w_42.hA (by decide)).trans (hs_w_36.hA (by decide))) ((hs_w_42.hA (by decide)).trans (hs_w_36.hA (by decide))) ((hs_w_42.hL (by decide)).trans (hs_w_36.hL (by decide))) ((hs_w_42.gI (by decide)).trans (hs_w_36.gI (by decide)))).1 (ST_1 (W := w0) (Wf := w_36) (Wg := w_42) hnw_0 hq1_0 hq2_0 ho1_0 (fun j => (hW_w0.ap tM_38 j : In 0 289 _)) hb_9 h_39 hr_9 (hs_w_36.hA (by decide)) (hs_w_36.hA (by decide)) h_44 h_45 ((hs_w_42.hA (by decide)).trans (hs_w_36.hA (by decide))) ((hs_w_42.hA (by decide)).trans (hs_w_36.hA (by decide))) ((hs_w_42.hL (by decide)).trans (hs_w_36.hL (by decide))) ((hs_w_42.gI (by decide)).trans (hs_w_36.gI (by decide)))).2.1 hP hD hS (lv_sub hl [0] rfl)
  obtain ⟨gq_0, hq1_0, hq2_0⟩ := id hFP
  refine lv_aload_n hx hb dX12_settles_0 rfl (lv_at hl 0 rfl) ?_
  refine lv_iconst (v := 0) hx hb dX12_settles_1 (by decide) ?_
  refine lv_iconst (v := 1) hx hb dX12_settles_2 (by decide) ?_
  refine kW_i ⟨rfl, rfl⟩ hP hD hS hA (rW_V (As := [.int 0, .int 1]) (rest := []) hx hb hml hown hts hK hE hP hD (k_X12_finds l D cI cJ cZ q w hW_w 0 1 (In_lit (n := 0) (by decide) (by decide) : In 0 289 0) (In_lit (n := 1) (by decide) (by decide) : In 0 289 1) (gq_0) ((FEx_of hNW hq1_0 hq2_0)) _) ⟨⟨rfl, rfl⟩, rfl, rfl⟩ sv_X12_527 ⟨(Nat.le_trans (by decide) hR.1), (Nat.le_trans (by decide) hR.2)⟩ 0 12 (hW_w.o tM_0) rfl rfl rfl hl.1 rfl (Nat.le_of_ble_eq_true rfl) dX12_settles_3) (fun r_47 w_46 H locs hw_w_46 hP hD hS => ?_)
  obtain ⟨hW_w_46, hs_w_46, i_r_47, h_48, h_49, h_50⟩ := hw_w_46
  refine lv_if_eq (tgt := 18) hx hb dX12_settles_6 (by decide) (fun c_51 => ?_) (fun c_51 => ?_)
  · refine lv_iconst (v := 0) hx hb dX12_settles_18 (by decide) ?_
    refine lv_istore_n (lv' := [(1, .int 0), (0, .ref (q 0))]) hx hb dX12_settles_19 rfl hl (by decide) rfl (fun ls hl => ?_)
    exact J20 _ 0 w_46 _ _ ls (Nat.lt_succ_self _) hW_w_46 (Sm.rf.tr hs_w_46 (by decide)) (In_lit (n := 0) (by decide) (by decide) : In 0 400 0) (NWx_cg (hs_w_46.hA (by decide)) (hs_w_46.hA (by decide)) (hs_w_46.hL (by decide)) (hs_w_46.gI (by decide)) hNW) (PRx_cg (hs_w_46.hA (by decide)) (hs_w_46.gI (by decide)) hPR) (FPx_cg (hs_w_46.hA (by decide)) (hs_w_46.hA (by decide)) (hs_w_46.hA (by decide)) (hs_w_46.hL (by decide)) (hs_w_46.gI (by decide)) hFP) hP hD hS (lv_sub hl [1, 0] rfl)
  · obtain ⟨t_9, c_9, hb_9⟩ := h_48
    have hr_9 := h_50 c_51
    refine lv_aload_n hx hb dX12_settles_9 rfl (lv_at hl 0 rfl) ?_
    refine lv_iconst (v := 0) hx hb dX12_settles_10 (by decide) ?_
    refine lv_iconst (v := 1) hx hb dX12_settles_11 (by decide) ?_
    refine kW_v ⟨rfl, rfl⟩ hP hD hS hA (rW_V (As := [.int 0, .int 1]) (rest := []) hx hb hml hown hts hK hE hP hD (k_X12_goes l D cI cJ cZ q w_46 hW_w_46 0 1 (In_lit (n := 0) (by decide) (by decide) : In 0 289 0) (In_lit (n := 1) (by decide) (by decide) : In 0 289 1) (t_9) (gPx w_46 gq_0 0 1) ((GH_of (W := w) hNW hq1_0 (fun j => (hW_w.ap tM_38 j : In 0 289 _)) hb_9 h_49 (by decide) hr_9 (hs_w_46.hA (by decide)) (hs_w_46.hA (by decide)))) _) ⟨⟨rfl, rfl⟩, rfl, rfl⟩ sv_X12_530 ⟨(Nat.le_trans (by decide) hR.1), (Nat.le_trans (by decide) hR.2)⟩ 0 12 (hW_w_46.o tM_0) rfl rfl rfl hl.1 rfl (Nat.le_of_ble_eq_true rfl) dX12_settles_12) (fun w_52 H locs hw_w_52 hP hD hS => ?_)
    obtain ⟨hW_w_52, hs_w_52, h_54, h_55⟩ := hw_w_52
    refine lv_goto (tgt := 0) hx hb dX12_settles_15 (by decide) ?_
    exact J0 _ w_52 _ _ ls (Nat.lt_succ_self _) hW_w_52 ((Sm.rf.tr hs_w_46 (by decide)).tr hs_w_52 (by decide)) (NWx_cg ((hs_w_52.hA (by decide)).trans (hs_w_46.hA (by decide))) ((hs_w_52.hA (by decide)).trans (hs_w_46.hA (by decide))) ((hs_w_52.hL (by decide)).trans (hs_w_46.hL (by decide))) ((hs_w_52.gI (by decide)).trans (hs_w_46.gI (by decide))) hNW) (PRx_cg ((hs_w_52.hA (by decide)).trans (hs_w_46.hA (by decide))) ((hs_w_52.gI (by decide)).trans (hs_w_46.gI (by decide))) hPR) (ST_1 (W := w) (Wf := w_46) (Wg := w_52) hNW hq1_0 hq2_0 hO1 (fun j => (hW_w.ap tM_38 j : In 0 289 _)) hb_9 h_49 hr_9 (hs_w_46.hA (by decide)) (hs_w_46.hA (by decide)) h_54 h_55 ((hs_w_52.hA (by decide)).trans (hs_w_46.hA (by decide))) ((hs_w_52.hA (by decide)).trans (hs_w_46.hA (by decide))) ((hs_w_52.hL (by decide)).trans (hs_w_46.hL (by decide))) ((hs_w_52.gI (by decide)).trans (hs_w_46.gI (by decide)))).1 (ST_1 (W := w) (Wf := w_46) (Wg := w_52) hNW hq1_0 hq2_0 hO1 (fun j => (hW_w.ap tM_38 j : In 0 289 _)) hb_9 h_49 hr_9 (hs_w_46.hA (by decide)) (hs_w_46.hA (by decide)) h_54 h_55 ((hs_w_52.hA (by decide)).trans (hs_w_46.hA (by decide))) ((hs_w_52.hA (by decide)).trans (hs_w_46.hA (by decide))) ((hs_w_52.hL (by decide)).trans (hs_w_46.hL (by decide))) ((hs_w_52.gI (by decide)).trans (hs_w_46.gI (by decide)))).2.1 hP hD hS (lv_sub hl [0] rfl)
