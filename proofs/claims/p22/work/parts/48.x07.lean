set_option maxRecDepth 100000 in
set_option maxHeartbeats 8000000 in
theorem e_X7_detailOf (l : Launch) (D : va_G) (cI cJ cZ : ClassId) (q : Nat → Nat) (bb bs bp : Nat) (w : va_W) (hW_w : HT q (TX q cI cJ cZ bb bs bp) w) (p1 : Int32) (p2 : Int32) (i_p1 : In 1 200 p1) (i_p2 : In 0 4 p2) : Con_i l yX7_detailOf cX7_detailOf 3 (some .int) ({ frames := 0, cells := 0, slots := 0, locals := 0 }) D cI cJ cZ eW [.ref (q 35), .int p1, .int p2] w (fun (r : Int32) (w1 : va_W) => HT q (TX q cI cJ cZ bb bs bp) w1 ∧ Sm [] [] w w1 ∧ (r = aF w 37 (p1 * 5 + p2).toNatClampNeg) ∧ M_X7_detailOf (vw w) p1.toInt p2.toInt r.toInt (vw w1)) := by
  refine eQ_i rfl (by decide) (Nat.le_of_ble_eq_true rfl) ⟨rfl, rfl⟩ ?_
  intro p e R s m args below meth c A Q hx hb hml hown hts hK hE hA hR hret hP hD hS ls hl
  have hown : s.vm.findClass RX7 = some m.cls := hown
  have hl : lv_has ls 3 [(0, .ref (q 35)), (1, .int p1), (2, .int p2)] := hl
  refine lv_aload_n hx hb dX7_detailOf_0 rfl (lv_at hl 0 rfl) ?_
  refine gt_X7 hx hb hts hown hK hP 35 (hW_w.o tX_35) 3 (by decide) wd_258 rfl (hW_w.fr tX_35 rfl) dX7_detailOf_1 ?_
  refine lv_iload_n hx hb dX7_detailOf_4 rfl (lv_at hl 1 rfl) ?_
  refine lv_iconst (v := 5) hx hb dX7_detailOf_5 (by decide) ?_
  refine lv_imul hx hb dX7_detailOf_6 ?_
  refine lv_iload_n hx hb dX7_detailOf_7 rfl (lv_at hl 2 rfl) ?_
  refine lv_iadd hx hb dX7_detailOf_8 ?_
  refine va_iald hx hb hK hP 37 0 (hW_w.a tX_37) rfl (in_I ((In_add ((In_mulr i_p1 (n := 5) (by decide) (by decide)) : In 5 1000 (p1 * 5)) i_p2 (by decide)) : In 5 1004 ((p1 * 5) + p2)) (by decide)) dX7_detailOf_9 ?_
  refine lv_topi (fun v_1 ev_1 => ?_)
  exact hret _ _ _ _ _ _ hP hD hS dX7_detailOf_10 ⟨hW_w, Sm.rf, ev_1, (mk_X7_detailOf (And.intro (tyX hW_w) (And.intro i_p1 (And.intro i_p2 (And.intro (z_of ev_1 ((hW_w.va tX_37 _).trans (congrArg (vw w 37) (z_ix (z_add (t_add ((In_mulr i_p1 (n := 5) (by decide) (by decide)) : In 5 1000 (p1 * 5)) i_p2 (by decide)) (z_mul i_p1 (rfl : (p1 : Int32).toInt = _) (show (5 : Int32).toInt = 5 from by decide) (by decide)) (rfl : (p2 : Int32).toInt = _)))))) rfl)))))⟩
set_option maxRecDepth 100000 in
set_option maxHeartbeats 8000000 in
theorem e_X6_learnReport_35 (l : Launch) (D : va_G) (cI cJ cZ : ClassId) (q : Nat → Nat) (bb bs bp : Nat) (w : va_W) (hW_w : HT q (TX q cI cJ cZ bb bs bp) w) (p2 : Int32) (p3 : Int32) (i_p2 : In 1 200 p2) : Con_v l yX6_learnReport cX6_learnReport 7 none ({ frames := 2, cells := 0, slots := 0, locals := 47 }) D cI cJ cZ eW [.ref (q 42), .ref (q 35), .int p2, .int p3] w (fun (w1 : va_W) => HT q (TX q cI cJ cZ bb bs bp) w1 ∧ Sm [42, 43, 44, 45, 46, 47, 48, 49, 50, 51, 52, 53] [(42, 2)] w w1 ∧ M_X6_learnReport_35 (vw w) p2.toInt p3.toInt 0 (vw w1)) := by
  refine eQ_v rfl (by decide) (Nat.le_of_ble_eq_true rfl) ⟨rfl, rfl⟩ ?_
  intro p e R s m args below meth c A Q hx hb hml hown hts hK hE hA hR hret hP hD hS ls hl
  have hown : s.vm.findClass RX6 = some m.cls := hown
  have hl : lv_has ls 7 [(0, .ref (q 42)), (1, .ref (q 35)), (2, .int p2), (3, .int p3)] := hl
  have J197 : ∀ (N : Nat) (x197_4 : Int32) (x197_5 : Int32) (x197_6 : Int32) (w197 : va_W) (H : Heap) (locs : List Loc) (ls : Array Slot), (3 - x197_6.toInt).toNat < N → HT q (TX q cI cJ cZ bb bs bp) w197 → Sm [42, 43, 44, 45, 46, 47, 48, 49, 50, 51, 52, 53] [(42, 2)] w w197 → (In 1 200 p2) → (In 0 39 x197_4) → (In 0 3 x197_6) → (∀ (n : Nat) (r : Int) (t : PS), It_X6_learnReport_35 n 197 p2.toInt p3.toInt x197_4.toInt x197_5.toInt x197_6.toInt (vw w197) r t → M_X6_learnReport_35 (vw w) p2.toInt p3.toInt r t) → va_P D vwCl w197 H → va_D A w197 → va_S A s.heap H locs → lv_has ls 7 [(0, .ref (q 42)), (1, .ref (q 35)), (2, .int p2), (3, .int p3), (4, .int x197_4), (5, .int x197_5), (6, .int x197_6)] → W p l e R s m args below meth c H locs 0 0 Q (F0 m 197 ls []) := by
    intro N
    induction N with
    | zero => intro x197_4 x197_5 x197_6 w197 H locs ls hmu; exact absurd hmu (Nat.not_lt_zero _)
    | succ N ih197 =>
      intro x197_4 x197_5 x197_6 w197 H locs ls hmu197 hW_w197 hM_w197 i_x197_2 i_x197_4 i_x197_6 hmi_197 hP hD hS hl
      refine lv_iload hx hb dX6_learnReport_197 (lv_at hl 6 rfl) ?_
      refine lv_aload_n hx hb dX6_learnReport_199 rfl (lv_at hl 1 rfl) ?_
      refine gt_X7 hx hb hts hown hK hP 35 (hW_w197.o tX_35) 5 (by decide) wd_262 rfl (hW_w197.fr tX_35 rfl) dX6_learnReport_200 ?_
      refine lv_iload_n hx hb dX6_learnReport_203 rfl (lv_at hl 2 rfl) ?_
      refine va_iald hx hb hK hP 39 0 (hW_w197.a tX_39) rfl (in_I i_p2 (by decide)) dX6_learnReport_204 ?_
      refine lv_topi (fun v_1 ev_1 => ?_)
      refine lv_icmp_ge (tgt := 231) hx hb dX6_learnReport_205 (by decide) (fun c_2 => ?_) (fun c_2 => ?_)
      · exact hret _ _ _ _ _ hP hD hS dX6_learnReport_231 ⟨hW_w197, hM_w197, (hmi_197 (0 + 1) _ _ (rl_X6_learnReport_35_197 (n := 0) (And.intro (tyX hW_w197) (And.intro i_x197_2 (And.intro i_x197_4 (And.intro i_x197_6 (Or.inl (And.intro (z_le c_2 (z_of ev_1 ((hW_w197.va tX_39 _).trans (congrArg (vw w197 39) (z_ix (rfl : (p2 : Int32).toInt = _))))) (rfl : (x197_6 : Int32).toInt = _)) (And.intro rfl rfl)))))))))⟩
      · refine lv_aload_n hx hb dX6_learnReport_208 rfl (lv_at hl 0 rfl) ?_
        refine lv_iload hx hb dX6_learnReport_209 (lv_at hl 4 rfl) ?_
        refine lv_aload_n hx hb dX6_learnReport_211 rfl (lv_at hl 1 rfl) ?_
        refine gt_X7 hx hb hts hown hK hP 35 (hW_w197.o tX_35) 4 (by decide) wd_260 rfl (hW_w197.fr tX_35 rfl) dX6_learnReport_212 ?_
        refine lv_iload_n hx hb dX6_learnReport_215 rfl (lv_at hl 2 rfl) ?_
        refine lv_iconst (v := 3) hx hb dX6_learnReport_216 (by decide) ?_
        refine lv_imul hx hb dX6_learnReport_217 ?_
        refine lv_iload hx hb dX6_learnReport_218 (lv_at hl 6 rfl) ?_
        refine lv_iadd hx hb dX6_learnReport_220 ?_
        refine va_lald hx hb hK hP 38 1 (hW_w197.al tX_38) rfl (in_I ((In_add ((In_mulr i_p2 (n := 3) (by decide) (by decide)) : In 3 600 (p2 * 3)) (R_nle_r (In_of ev_1 (hW_w197.ap tX_39 _) : In (-1) 3 v_1) i_x197_6 c_2 (by decide) : In 0 2 x197_6) (by decide)) : In 3 602 ((p2 * 3) + x197_6)) (by decide)) dX6_learnReport_221 ?_
        refine lv_topl (fun v_3 ev_3 => ?_)
        refine kW_v ⟨rfl, rfl⟩ hP hD hS hA (rW_V (As := [.int x197_4, .long v_3]) (rest := []) hx hb hml hown hts hK hE hP hD (e_X6_learnWish l D cI cJ cZ q bb bs bp w197 hW_w197 x197_4 v_3 i_x197_4 _) ⟨⟨rfl, rfl⟩, rfl, rfl⟩ sv_X6_103 ⟨(Nat.le_trans (by decide) hR.1), (Nat.le_trans (by decide) hR.2)⟩ 42 6 (hW_w197.o tX_42) rfl rfl rfl hl.1 rfl (Nat.le_of_ble_eq_true rfl) dX6_learnReport_222) (fun w_4 H locs hw_w_4 hP hD hS => ?_)
        obtain ⟨hW_w_4, hs_w_4, hm_6⟩ := hw_w_4
        refine lv_iinc (v := (x197_6 + 1)) (lv' := [(6, .int (x197_6 + 1)), (0, .ref (q 42)), (1, .ref (q 35)), (2, .int p2), (3, .int p3), (4, .int x197_4), (5, .int x197_5)]) hx hb dX6_learnReport_225 hl (k := 6) rfl (rfl) (by decide) rfl (fun ls hl => ?_)
        refine lv_goto (tgt := 197) hx hb dX6_learnReport_228 (by decide) ?_
        exact ih197 x197_4 x197_5 (x197_6 + 1) w_4 _ _ ls (mu_inc hmu197 (R_nle_r (In_of ev_1 (hW_w197.ap tX_39 _) : In (-1) 3 v_1) i_x197_6 c_2 (by decide) : In 0 2 x197_6) (In_lit (n := 1) (by decide) (by decide) : In 1 1 1) (by decide)) hW_w_4 (hM_w197.tr hs_w_4 (by decide)) i_p2 i_x197_4 (In_w ((In_add (y := 1) (R_nle_r (In_of ev_1 (hW_w197.ap tX_39 _) : In (-1) 3 v_1) i_x197_6 c_2 (by decide) : In 0 2 x197_6) (In_lit (n := 1) (by decide) (by decide) : In 1 1 1) (by decide)) : In 1 3 (x197_6 + 1)) (by decide) : In 0 3 (x197_6 + 1)) (fun n r t hk => (hmi_197 (n + 1) r t (rl_X6_learnReport_35_197 (n := n) (And.intro (tyX hW_w197) (And.intro i_x197_2 (And.intro i_x197_4 (And.intro i_x197_6 (Or.inr (And.intro (z_nle c_2 (z_of ev_1 ((hW_w197.va tX_39 _).trans (congrArg (vw w197 39) (z_ix (rfl : (p2 : Int32).toInt = _))))) (rfl : (x197_6 : Int32).toInt = _)) (Exists.intro (vw w_4) (And.intro (cgM_2 hm_6 (rfl : (x197_4 : Int32).toInt = _) (z_ofl ev_3 ((hW_w197.vb tX_38 _).trans (congrArg (vw w197 38) (z_ix (z_add (t_add ((In_mulr i_p2 (n := 3) (by decide) (by decide)) : In 3 600 (p2 * 3)) (R_nle_r (In_of ev_1 (hW_w197.ap tX_39 _) : In (-1) 3 v_1) i_x197_6 c_2 (by decide) : In 0 2 x197_6) (by decide)) (z_mul i_p2 (rfl : (p2 : Int32).toInt = _) (show (3 : Int32).toInt = 3 from by decide) (by decide)) (rfl : (x197_6 : Int32).toInt = _))))))) (And.intro (hs_w_4.Fr hW_w197 hW_w_4 intsX_ok intsX_ok) (And.intro (tyX hW_w_4) (cgK_5 hk (rfl : (p2 : Int32).toInt = _) (rfl : (p3 : Int32).toInt = _) (rfl : (x197_4 : Int32).toInt = _) (rfl : (x197_5 : Int32).toInt = _) (z_add (t_add (R_nle_r (In_of ev_1 (hW_w197.ap tX_39 _) : In (-1) 3 v_1) i_x197_6 c_2 (by decide) : In 0 2 x197_6) (In_lit (n := 1) (by decide) (by decide) : In 1 1 1) (by decide)) (rfl : (x197_6 : Int32).toInt = _) (show (1 : Int32).toInt = 1 from by decide)))))))))))))))) hP hD hS (lv_sub hl [1, 2, 3, 4, 5, 6, 0] rfl)
  have J89 : ∀ (x89_4 : Int32) (x89_5 : Int32) (w89 : va_W) (H : Heap) (locs : List Loc) (ls : Array Slot), HT q (TX q cI cJ cZ bb bs bp) w89 → Sm [42, 43, 44, 45, 46, 47, 48, 49, 50, 51, 52, 53] [(42, 2)] w w89 → (In 1 200 p2) → (In 0 39 x89_4) → (∀ (n : Nat) (r : Int) (t : PS), It_X6_learnReport_35 n 89 p2.toInt p3.toInt x89_4.toInt x89_5.toInt 0 (vw w89) r t → M_X6_learnReport_35 (vw w) p2.toInt p3.toInt r t) → va_P D vwCl w89 H → va_D A w89 → va_S A s.heap H locs → lv_has ls 7 [(0, .ref (q 42)), (1, .ref (q 35)), (2, .int p2), (3, .int p3), (4, .int x89_4), (5, .int x89_5)] → W p l e R s m args below meth c H locs 0 0 Q (F0 m 89 ls []) := by
    intro x89_4 x89_5 w89 H locs ls hW_w89 hM_w89 i_x89_2 i_x89_4 hmi_89 hP hD hS hl
    refine lv_aload_n hx hb dX6_learnReport_89 rfl (lv_at hl 0 rfl) ?_
    refine gt_X6 hx hb hts hown hK hP 42 (hW_w89.o tX_42) 13 (by decide) wd_319 rfl (hW_w89.fr tX_42 rfl) dX6_learnReport_90 ?_
    refine lv_iload_n hx hb dX6_learnReport_93 rfl (lv_at hl 2 rfl) ?_
    refine lv_iload hx hb dX6_learnReport_94 (lv_at hl 4 rfl) ?_
    refine va_iast hx hb hK hP hD hS 53 0 (hW_w89.a tX_53) rfl (in_I i_p2 (by decide)) dX6_learnReport_96 (fun H locs hP hD hS => fr_w (hW_w89.uA tX_53 (In_w i_x89_4 (by decide) : In (-1) 39 x89_4)) hP hD (fun w_7 ew_7 hW_w_7 hP hD => ?_))
    have hv_w_7 := vw_uA hW_w89 tX_53 ew_7 (z_ix (rfl : (p2 : Int32).toInt = _)) (rfl : (x89_4 : Int32).toInt = _)
    refine lv_aload_n hx hb dX6_learnReport_97 rfl (lv_at hl 0 rfl) ?_
    refine gt_X6 hx hb hts hown hK hP 42 (hW_w_7.o tX_42) 4 (by decide) wd_298 rfl (hW_w_7.fr tX_42 rfl) dX6_learnReport_98 ?_
    refine lv_iload hx hb dX6_learnReport_101 (lv_at hl 4 rfl) ?_
    refine lv_iload hx hb dX6_learnReport_103 (lv_at hl 5 rfl) ?_
    refine va_iast hx hb hK hP hD hS 44 0 (hW_w_7.a tX_44) rfl (in_I i_x89_4 (by decide)) dX6_learnReport_105 (fun H locs hP hD hS => fr_w (hW_w_7.uA tX_44 (In_any x89_5)) hP hD (fun w_8 ew_8 hW_w_8 hP hD => ?_))
    have hv_w_8 := vw_uA hW_w_7 tX_44 ew_8 (z_ix (rfl : (x89_4 : Int32).toInt = _)) (rfl : (x89_5 : Int32).toInt = _)
    refine lv_aload_n hx hb dX6_learnReport_106 rfl (lv_at hl 0 rfl) ?_
    refine gt_X6 hx hb hts hown hK hP 42 (hW_w_8.o tX_42) 5 (by decide) wd_301 rfl (hW_w_8.fr tX_42 rfl) dX6_learnReport_107 ?_
    refine lv_iload hx hb dX6_learnReport_110 (lv_at hl 4 rfl) ?_
    refine lv_aload_n hx hb dX6_learnReport_112 rfl (lv_at hl 0 rfl) ?_
    refine gt_X6 hx hb hts hown hK hP 42 (hW_w_8.o tX_42) 5 (by decide) wd_301 rfl (hW_w_8.fr tX_42 rfl) dX6_learnReport_113 ?_
    refine lv_iload hx hb dX6_learnReport_116 (lv_at hl 4 rfl) ?_
    refine va_iald hx hb hK hP 45 0 (hW_w_8.a tX_45) rfl (in_I i_x89_4 (by decide)) dX6_learnReport_118 ?_
    refine lv_topi (fun v_9 ev_9 => ?_)
    refine lv_iload hx hb dX6_learnReport_119 (lv_at hl 5 rfl) ?_
    refine va_mmin hx hb (by rw [hml]; exact hl.1.symm) hown (hts _ wd_997) (hts _ wd_757) (hts _ wd_18) (hts _ wd_758) (Nat.le_trans (by decide) hR.1) (Nat.le_trans (Nat.le_of_ble_eq_true rfl) hR.2) (Nat.zero_le _) (Nat.zero_le _) dX6_learnReport_121 ?_
    refine lv_topi (fun v_10 ev_10 => ?_)
    refine va_iast hx hb hK hP hD hS 45 0 (hW_w_8.a tX_45) rfl (in_I i_x89_4 (by decide)) dX6_learnReport_124 (fun H locs hP hD hS => fr_w (hW_w_8.uA tX_45 (In_any v_10)) hP hD (fun w_11 ew_11 hW_w_11 hP hD => ?_))
    have hv_w_11 := vw_uA hW_w_8 tX_45 ew_11 (z_ix (rfl : (x89_4 : Int32).toInt = _)) (z_of ev_10 (z_min (z_of (ev_9.trans (congrFun ((aF_cg (st_ne ew_8 (by decide))).trans (aF_cg (st_ne ew_7 (by decide)))) _)) ((hW_w89.va tX_45 _).trans (congrArg (vw w89 45) (z_ix (rfl : (x89_4 : Int32).toInt = _))))) (rfl : (x89_5 : Int32).toInt = _)))
    refine lv_aload_n hx hb dX6_learnReport_125 rfl (lv_at hl 0 rfl) ?_
    refine gt_X6 hx hb hts hown hK hP 42 (hW_w_11.o tX_42) 6 (by decide) wd_303 rfl (hW_w_11.fr tX_42 rfl) dX6_learnReport_126 ?_
    refine lv_iload hx hb dX6_learnReport_129 (lv_at hl 4 rfl) ?_
    refine lv_aload_n hx hb dX6_learnReport_131 rfl (lv_at hl 0 rfl) ?_
    refine gt_X6 hx hb hts hown hK hP 42 (hW_w_11.o tX_42) 6 (by decide) wd_303 rfl (hW_w_11.fr tX_42 rfl) dX6_learnReport_132 ?_
    refine lv_iload hx hb dX6_learnReport_135 (lv_at hl 4 rfl) ?_
    refine va_iald hx hb hK hP 46 0 (hW_w_11.a tX_46) rfl (in_I i_x89_4 (by decide)) dX6_learnReport_137 ?_
    refine lv_topi (fun v_12 ev_12 => ?_)
    refine lv_iload hx hb dX6_learnReport_138 (lv_at hl 5 rfl) ?_
    refine va_mmax hx hb (by rw [hml]; exact hl.1.symm) hown (hts _ wd_998) (hts _ wd_999) (hts _ wd_18) (hts _ wd_1000) (Nat.le_trans (by decide) hR.1) (Nat.le_trans (Nat.le_of_ble_eq_true rfl) hR.2) (Nat.zero_le _) (Nat.zero_le _) dX6_learnReport_140 ?_
    refine lv_topi (fun v_13 ev_13 => ?_)
    refine va_iast hx hb hK hP hD hS 46 0 (hW_w_11.a tX_46) rfl (in_I i_x89_4 (by decide)) dX6_learnReport_143 (fun H locs hP hD hS => fr_w (hW_w_11.uA tX_46 (In_any v_13)) hP hD (fun w_14 ew_14 hW_w_14 hP hD => ?_))
    have hv_w_14 := vw_uA hW_w_11 tX_46 ew_14 (z_ix (rfl : (x89_4 : Int32).toInt = _)) (z_of ev_13 (z_max (z_of (ev_12.trans (congrFun (((aF_cg (st_ne ew_11 (by decide))).trans (aF_cg (st_ne ew_8 (by decide)))).trans (aF_cg (st_ne ew_7 (by decide)))) _)) ((hW_w89.va tX_46 _).trans (congrArg (vw w89 46) (z_ix (rfl : (x89_4 : Int32).toInt = _))))) (rfl : (x89_5 : Int32).toInt = _)))
    refine lv_aload_n hx hb dX6_learnReport_144 rfl (lv_at hl 0 rfl) ?_
    refine gt_X6 hx hb hts hown hK hP 42 (hW_w_14.o tX_42) 7 (by decide) wd_305 rfl (hW_w_14.fr tX_42 rfl) dX6_learnReport_145 ?_
    refine lv_iload hx hb dX6_learnReport_148 (lv_at hl 4 rfl) ?_
    refine lv_aload_n hx hb dX6_learnReport_150 rfl (lv_at hl 1 rfl) ?_
    refine lv_iload_n hx hb dX6_learnReport_151 rfl (lv_at hl 2 rfl) ?_
    refine lv_iconst (v := 2) hx hb dX6_learnReport_152 (by decide) ?_
    refine kW_i ⟨rfl, rfl⟩ hP hD hS hA (rW_V (As := [.int p2, .int 2]) (rest := [.int x89_4, .ref (q 47)]) hx hb hml hown hts hK hE hP hD (e_X7_detailOf l D cI cJ cZ q bb bs bp w_14 hW_w_14 p2 2 i_p2 (In_lit (n := 2) (by decide) (by decide) : In 0 4 2) _) ⟨⟨rfl, rfl⟩, rfl, rfl⟩ sv_X6_78 ⟨(Nat.le_trans (by decide) hR.1), (Nat.le_trans (by decide) hR.2)⟩ 35 7 (hW_w_14.o tX_35) rfl rfl rfl hl.1 rfl (Nat.le_of_ble_eq_true rfl) dX6_learnReport_153) (fun r_16 w_15 H locs hw_w_15 hP hD hS => ?_)
    obtain ⟨hW_w_15, hs_w_15, h_17, hm_18⟩ := hw_w_15
    refine va_iast hx hb hK hP hD hS 47 0 (hW_w_15.a tX_47) rfl (in_I i_x89_4 (by decide)) dX6_learnReport_156 (fun H locs hP hD hS => fr_w (hW_w_15.uA tX_47 (In_any r_16)) hP hD (fun w_19 ew_19 hW_w_19 hP hD => ?_))
    have hv_w_19 := vw_uA hW_w_15 tX_47 ew_19 (z_ix (rfl : (x89_4 : Int32).toInt = _)) (rfl : (r_16 : Int32).toInt = _)
    refine lv_aload_n hx hb dX6_learnReport_157 rfl (lv_at hl 0 rfl) ?_
    refine gt_X6 hx hb hts hown hK hP 42 (hW_w_19.o tX_42) 8 (by decide) wd_307 rfl (hW_w_19.fr tX_42 rfl) dX6_learnReport_158 ?_
    refine lv_iload hx hb dX6_learnReport_161 (lv_at hl 4 rfl) ?_
    refine lv_aload_n hx hb dX6_learnReport_163 rfl (lv_at hl 1 rfl) ?_
    refine lv_iload_n hx hb dX6_learnReport_164 rfl (lv_at hl 2 rfl) ?_
    refine lv_iconst (v := 3) hx hb dX6_learnReport_165 (by decide) ?_
    refine kW_i ⟨rfl, rfl⟩ hP hD hS hA (rW_V (As := [.int p2, .int 3]) (rest := [.int x89_4, .ref (q 48)]) hx hb hml hown hts hK hE hP hD (e_X7_detailOf l D cI cJ cZ q bb bs bp w_19 hW_w_19 p2 3 i_p2 (In_lit (n := 3) (by decide) (by decide) : In 0 4 3) _) ⟨⟨rfl, rfl⟩, rfl, rfl⟩ sv_X6_78 ⟨(Nat.le_trans (by decide) hR.1), (Nat.le_trans (by decide) hR.2)⟩ 35 7 (hW_w_19.o tX_35) rfl rfl rfl hl.1 rfl (Nat.le_of_ble_eq_true rfl) dX6_learnReport_166) (fun r_21 w_20 H locs hw_w_20 hP hD hS => ?_)
    obtain ⟨hW_w_20, hs_w_20, h_22, hm_23⟩ := hw_w_20
    refine va_iast hx hb hK hP hD hS 48 0 (hW_w_20.a tX_48) rfl (in_I i_x89_4 (by decide)) dX6_learnReport_169 (fun H locs hP hD hS => fr_w (hW_w_20.uA tX_48 (In_any r_21)) hP hD (fun w_24 ew_24 hW_w_24 hP hD => ?_))
    have hv_w_24 := vw_uA hW_w_20 tX_48 ew_24 (z_ix (rfl : (x89_4 : Int32).toInt = _)) (rfl : (r_21 : Int32).toInt = _)
    refine lv_aload_n hx hb dX6_learnReport_170 rfl (lv_at hl 0 rfl) ?_
    refine gt_X6 hx hb hts hown hK hP 42 (hW_w_24.o tX_42) 9 (by decide) wd_309 rfl (hW_w_24.fr tX_42 rfl) dX6_learnReport_171 ?_
    refine lv_iload hx hb dX6_learnReport_174 (lv_at hl 4 rfl) ?_
    refine lv_aload_n hx hb dX6_learnReport_176 rfl (lv_at hl 1 rfl) ?_
    refine lv_iload_n hx hb dX6_learnReport_177 rfl (lv_at hl 2 rfl) ?_
    refine lv_iconst (v := 4) hx hb dX6_learnReport_178 (by decide) ?_
    refine kW_i ⟨rfl, rfl⟩ hP hD hS hA (rW_V (As := [.int p2, .int 4]) (rest := [.int x89_4, .ref (q 49)]) hx hb hml hown hts hK hE hP hD (e_X7_detailOf l D cI cJ cZ q bb bs bp w_24 hW_w_24 p2 4 i_p2 (In_lit (n := 4) (by decide) (by decide) : In 0 4 4) _) ⟨⟨rfl, rfl⟩, rfl, rfl⟩ sv_X6_78 ⟨(Nat.le_trans (by decide) hR.1), (Nat.le_trans (by decide) hR.2)⟩ 35 7 (hW_w_24.o tX_35) rfl rfl rfl hl.1 rfl (Nat.le_of_ble_eq_true rfl) dX6_learnReport_179) (fun r_26 w_25 H locs hw_w_25 hP hD hS => ?_)
    obtain ⟨hW_w_25, hs_w_25, h_27, hm_28⟩ := hw_w_25
    refine va_iast hx hb hK hP hD hS 49 0 (hW_w_25.a tX_49) rfl (in_I i_x89_4 (by decide)) dX6_learnReport_182 (fun H locs hP hD hS => fr_w (hW_w_25.uA tX_49 (In_any r_26)) hP hD (fun w_29 ew_29 hW_w_29 hP hD => ?_))
    have hv_w_29 := vw_uA hW_w_25 tX_49 ew_29 (z_ix (rfl : (x89_4 : Int32).toInt = _)) (rfl : (r_26 : Int32).toInt = _)
    refine lv_aload_n hx hb dX6_learnReport_183 rfl (lv_at hl 0 rfl) ?_
    refine gt_X6 hx hb hts hown hK hP 42 (hW_w_29.o tX_42) 10 (by decide) wd_313 rfl (hW_w_29.fr tX_42 rfl) dX6_learnReport_184 ?_
    refine lv_iload hx hb dX6_learnReport_187 (lv_at hl 4 rfl) ?_
    refine lv_dup2_11 hx hb dX6_learnReport_189 rfl rfl ?_
    refine va_iald hx hb hK hP 50 0 (hW_w_29.a tX_50) rfl (in_I i_x89_4 (by decide)) dX6_learnReport_190 ?_
    refine lv_topi (fun v_30 ev_30 => ?_)
    refine lv_iconst (v := 1) hx hb dX6_learnReport_191 (by decide) ?_
    refine lv_iadd hx hb dX6_learnReport_192 ?_
    refine va_iast hx hb hK hP hD hS 50 0 (hW_w_29.a tX_50) rfl (in_I i_x89_4 (by decide)) dX6_learnReport_193 (fun H locs hP hD hS => fr_w (hW_w_29.uA tX_50 (In_any (v_30 + 1))) hP hD (fun w_31 ew_31 hW_w_31 hP hD => ?_))
    have hv_w_31 := vw_uA hW_w_29 tX_50 ew_31 (z_ix (rfl : (x89_4 : Int32).toInt = _)) (z_addw (z_of (ev_30.trans (congrFun ((((((((((aF_cg (st_ne ew_29 (by decide))).trans (hs_w_25.hA (by decide))).trans (aF_cg (st_ne ew_24 (by decide)))).trans (hs_w_20.hA (by decide))).trans (aF_cg (st_ne ew_19 (by decide)))).trans (hs_w_15.hA (by decide))).trans (aF_cg (st_ne ew_14 (by decide)))).trans (aF_cg (st_ne ew_11 (by decide)))).trans (aF_cg (st_ne ew_8 (by decide)))).trans (aF_cg (st_ne ew_7 (by decide)))) _)) ((hW_w89.va tX_50 _).trans (congrArg (vw w89 50) (z_ix (rfl : (x89_4 : Int32).toInt = _))))) (show (1 : Int32).toInt = 1 from by decide))
    refine lv_iconst (v := 0) hx hb dX6_learnReport_194 (by decide) ?_
    refine lv_istore (lv' := [(6, .int 0), (0, .ref (q 42)), (1, .ref (q 35)), (2, .int p2), (3, .int p3), (4, .int x89_4), (5, .int x89_5)]) hx hb dX6_learnReport_195 hl (by decide) rfl (fun ls hl => ?_)
    exact J197 _ x89_4 x89_5 0 w_31 _ _ ls (Nat.lt_succ_self _) hW_w_31 (((((((((((hM_w89.sa ew_7 (by decide)).sa ew_8 (by decide)).sa ew_11 (by decide)).sa ew_14 (by decide)).tr hs_w_15 (by decide)).sa ew_19 (by decide)).tr hs_w_20 (by decide)).sa ew_24 (by decide)).tr hs_w_25 (by decide)).sa ew_29 (by decide)).sa ew_31 (by decide)) i_p2 i_x89_4 (In_lit (n := 0) (by decide) (by decide) : In 0 3 0) (fun n r t hk => (hmi_89 (n + 1) r t (rl_X6_learnReport_35_89 (n := n) (And.intro (tyX hW_w89) (And.intro i_x89_2 (And.intro i_x89_4 (Exists.intro (vw w_7) (And.intro hv_w_7 (Exists.intro (vw w_8) (And.intro hv_w_8 (Exists.intro (vw w_11) (And.intro hv_w_11 (Exists.intro (vw w_14) (And.intro hv_w_14 (Exists.intro r_16.toInt (Exists.intro (vw w_15) (And.intro (cgM_2 hm_18 (rfl : (p2 : Int32).toInt = _) (show (2 : Int32).toInt = 2 from by decide)) (And.intro (hs_w_15.Fr hW_w_14 hW_w_15 intsX_ok intsX_ok) (And.intro (tyX hW_w_15) (Exists.intro (vw w_19) (And.intro hv_w_19 (Exists.intro r_21.toInt (Exists.intro (vw w_20) (And.intro (cgM_2 hm_23 (rfl : (p2 : Int32).toInt = _) (show (3 : Int32).toInt = 3 from by decide)) (And.intro (hs_w_20.Fr hW_w_19 hW_w_20 intsX_ok intsX_ok) (And.intro (tyX hW_w_20) (Exists.intro (vw w_24) (And.intro hv_w_24 (Exists.intro r_26.toInt (Exists.intro (vw w_25) (And.intro (cgM_2 hm_28 (rfl : (p2 : Int32).toInt = _) (show (4 : Int32).toInt = 4 from by decide)) (And.intro (hs_w_25.Fr hW_w_24 hW_w_25 intsX_ok intsX_ok) (And.intro (tyX hW_w_25) (Exists.intro (vw w_29) (And.intro hv_w_29 (Exists.intro (vw w_31) (And.intro hv_w_31 (cgK_5 hk (rfl : (p2 : Int32).toInt = _) (rfl : (p3 : Int32).toInt = _) (rfl : (x89_4 : Int32).toInt = _) (rfl : (x89_5 : Int32).toInt = _) (show (0 : Int32).toInt = 0 from by decide))))))))))))))))))))))))))))))))))))))) hP hD hS (lv_sub hl [1, 2, 3, 4, 5, 6, 0] rfl)
  refine lv_aload_n hx hb dX6_learnReport_0 rfl (lv_at hl 0 rfl) ?_
  refine lv_iload_n hx hb dX6_learnReport_1 rfl (lv_at hl 3 rfl) ?_
  refine kW_i ⟨rfl, rfl⟩ hP hD hS hA (rW_V (As := [.int p3]) (rest := []) hx hb hml hown hts hK hE hP hD (e_X6_find l D cI cJ cZ q bb bs bp w hW_w p3 _) ⟨⟨rfl, rfl⟩, rfl, rfl⟩ sv_X6_94 ⟨(Nat.le_trans (by decide) hR.1), (Nat.le_trans (by decide) hR.2)⟩ 42 6 (hW_w.o tX_42) rfl rfl rfl hl.1 rfl (Nat.le_of_ble_eq_true rfl) dX6_learnReport_2) (fun r_33 w_32 H locs hw_w_32 hP hD hS => ?_)
  obtain ⟨hW_w_32, hs_w_32, i_r_33, hm_34⟩ := hw_w_32
  refine lv_istore (lv' := [(4, .int r_33), (0, .ref (q 42)), (1, .ref (q 35)), (2, .int p2), (3, .int p3)]) hx hb dX6_learnReport_5 hl (by decide) rfl (fun ls hl => ?_)
  refine lv_aload_n hx hb dX6_learnReport_7 rfl (lv_at hl 2 rfl) ?_
  refine lv_iload_n hx hb dX6_learnReport_8 rfl (lv_at hl 3 rfl) ?_
  refine lv_iconst (v := 1) hx hb dX6_learnReport_9 (by decide) ?_
  refine kW_i ⟨rfl, rfl⟩ hP hD hS hA (rW_V (As := [.int p2, .int 1]) (rest := []) hx hb hml hown hts hK hE hP hD (e_X7_detailOf l D cI cJ cZ q bb bs bp w_32 hW_w_32 p2 1 i_p2 (In_lit (n := 1) (by decide) (by decide) : In 0 4 1) _) ⟨⟨rfl, rfl⟩, rfl, rfl⟩ sv_X6_78 ⟨(Nat.le_trans (by decide) hR.1), (Nat.le_trans (by decide) hR.2)⟩ 35 7 (hW_w_32.o tX_35) rfl rfl rfl hl.1 rfl (Nat.le_of_ble_eq_true rfl) dX6_learnReport_10) (fun r_36 w_35 H locs hw_w_35 hP hD hS => ?_)
  obtain ⟨hW_w_35, hs_w_35, h_37, hm_38⟩ := hw_w_35
  refine lv_istore (lv' := [(5, .int r_36), (4, .int r_33), (0, .ref (q 42)), (1, .ref (q 35)), (2, .int p2), (3, .int p3)]) hx hb dX6_learnReport_13 hl (by decide) rfl (fun ls hl => ?_)
  refine lv_iload hx hb dX6_learnReport_15 (lv_at hl 1 rfl) ?_
  refine lv_iconst (v := (-1)) hx hb dX6_learnReport_17 (by decide) ?_
  refine lv_icmp_ne (tgt := 89) hx hb dX6_learnReport_18 (by decide) (fun c_39 => ?_) (fun c_39 => ?_)
  · exact J89 r_33 r_36 w_35 _ _ ls hW_w_35 ((Sm.rf.tr hs_w_32 (by decide)).tr hs_w_35 (by decide)) i_p2 (R_ne_l i_r_33 (In_lit (n := (-1)) (by decide) (by decide) : In (-1) (-1) (-1)) c_39 (by decide) : In 0 39 r_33) (fun n r t hk => (mk_X6_learnReport_35 (n := n) (And.intro (tyX hW_w) (And.intro i_p2 (Exists.intro r_33.toInt (Exists.intro (vw w_32) (And.intro (cgM_1 hm_34 (rfl : (p3 : Int32).toInt = _)) (And.intro (hs_w_32.Fr hW_w hW_w_32 intsX_ok intsX_ok) (And.intro (tyX hW_w_32) (And.intro i_r_33 (Exists.intro r_36.toInt (Exists.intro (vw w_35) (And.intro (cgM_2 hm_38 (rfl : (p2 : Int32).toInt = _) (show (1 : Int32).toInt = 1 from by decide)) (And.intro (hs_w_35.Fr hW_w_32 hW_w_35 intsX_ok intsX_ok) (And.intro (tyX hW_w_35) (Or.inr (And.intro (z_neq c_39 (rfl : (r_33 : Int32).toInt = _) (show ((-1) : Int32).toInt = (-1) from by decide)) (cgK_5 hk (rfl : (p2 : Int32).toInt = _) (rfl : (p3 : Int32).toInt = _) (rfl : (r_33 : Int32).toInt = _) (rfl : (r_36 : Int32).toInt = _) rfl)))))))))))))))))) hP hD hS (lv_sub hl [2, 3, 4, 5, 1, 0] rfl)
  · refine lv_aload_n hx hb dX6_learnReport_21 rfl (lv_at hl 2 rfl) ?_
    refine gt_X6 hx hb hts hown hK hP 42 (hW_w_35.o tX_42) 2 (by decide) wd_295 rfl (hW_w_35.fi tX_42 rfl) dX6_learnReport_22 ?_
    refine tov (v := (fI w 42 2)) ((hs_w_35.gI (by decide)).trans (hs_w_32.gI (by decide))) ?_
    refine lv_bipush (v := 40) hx hb dX6_learnReport_25 (by decide) ?_
    refine lv_icmp_lt (tgt := 31) hx hb dX6_learnReport_27 (by decide) (fun c_40 => ?_) (fun c_40 => ?_)
    · refine lv_aload_n hx hb dX6_learnReport_31 rfl (lv_at hl 2 rfl) ?_
      refine gt_X6 hx hb hts hown hK hP 42 (hW_w_35.o tX_42) 2 (by decide) wd_295 rfl (hW_w_35.fi tX_42 rfl) dX6_learnReport_32 ?_
      refine tov (v := (fI w 42 2)) ((hs_w_35.gI (by decide)).trans (hs_w_32.gI (by decide))) ?_
      refine lv_istore (lv' := [(4, .int (fI w 42 2)), (5, .int r_36), (0, .ref (q 42)), (1, .ref (q 35)), (2, .int p2), (3, .int p3)]) hx hb dX6_learnReport_35 hl (by decide) rfl (fun ls hl => ?_)
      refine lv_aload_n hx hb dX6_learnReport_37 rfl (lv_at hl 2 rfl) ?_
      refine lv_dup hx hb dX6_learnReport_38 rfl ?_
      refine gt_X6 hx hb hts hown hK hP 42 (hW_w_35.o tX_42) 2 (by decide) wd_295 rfl (hW_w_35.fi tX_42 rfl) dX6_learnReport_39 ?_
      refine tov (v := (fI w 42 2)) ((hs_w_35.gI (by decide)).trans (hs_w_32.gI (by decide))) ?_
      refine lv_iconst (v := 1) hx hb dX6_learnReport_42 (by decide) ?_
      refine lv_iadd hx hb dX6_learnReport_43 ?_
      refine pt_X6 hx hb hts hown hK hP hD hS 42 (hW_w_35.o tX_42) 2 (by decide) wd_295 rfl rfl (ty := .int) (v := .int ((fI w 42 2) + 1)) (by decide +kernel) rfl rfl (hW_w_35.ll tX_42 (Nat.le_of_ble_eq_true rfl)) dX6_learnReport_44 (fun H locs hP hD hS => fr_w (hW_w_35.sI tX_42 rfl (In_w ((In_add (R_lt_l (hW_w.fin tX_42 rfl : In 0 40 (fI w 42 2)) (In_lit (n := 40) (by decide) (by decide) : In 40 40 40) c_40 (by decide) : In 0 39 (fI w 42 2)) (In_lit (n := 1) (by decide) (by decide) : In 1 1 1) (by decide)) : In 1 40 ((fI w 42 2) + 1)) (by decide) : In 0 40 ((fI w 42 2) + 1))) hP hD (fun w_41 ew_41 hW_w_41 hP hD => ?_))
      have hv_w_41 := vw_sI (j := 2) hW_w_35 tX_42 rfl ew_41 (z_add (t_add (R_lt_l (hW_w.fin tX_42 rfl : In 0 40 (fI w 42 2)) (In_lit (n := 40) (by decide) (by decide) : In 40 40 40) c_40 (by decide) : In 0 39 (fI w 42 2)) (In_lit (n := 1) (by decide) (by decide) : In 1 1 1) (by decide)) (hW_w.vi tX_42 rfl) (show (1 : Int32).toInt = 1 from by decide))
      refine lv_aload_n hx hb dX6_learnReport_47 rfl (lv_at hl 2 rfl) ?_
      refine gt_X6 hx hb hts hown hK hP 42 (hW_w_41.o tX_42) 3 (by decide) wd_297 rfl (hW_w_41.fr tX_42 rfl) dX6_learnReport_48 ?_
      refine lv_iload hx hb dX6_learnReport_51 (lv_at hl 0 rfl) ?_
      refine lv_iload_n hx hb dX6_learnReport_53 rfl (lv_at hl 5 rfl) ?_
      refine va_iast hx hb hK hP hD hS 43 0 (hW_w_41.a tX_43) rfl (in_I (R_lt_l (hW_w.fin tX_42 rfl : In 0 40 (fI w 42 2)) (In_lit (n := 40) (by decide) (by decide) : In 40 40 40) c_40 (by decide) : In 0 39 (fI w 42 2)) (by decide)) dX6_learnReport_54 (fun H locs hP hD hS => fr_w (hW_w_41.uA tX_43 (In_any p3)) hP hD (fun w_42 ew_42 hW_w_42 hP hD => ?_))
      have hv_w_42 := vw_uA hW_w_41 tX_43 ew_42 (z_ix (hW_w.vi tX_42 rfl)) (rfl : (p3 : Int32).toInt = _)
      refine lv_aload_n hx hb dX6_learnReport_55 rfl (lv_at hl 2 rfl) ?_
      refine gt_X6 hx hb hts hown hK hP 42 (hW_w_42.o tX_42) 5 (by decide) wd_301 rfl (hW_w_42.fr tX_42 rfl) dX6_learnReport_56 ?_
      refine lv_iload hx hb dX6_learnReport_59 (lv_at hl 0 rfl) ?_
      refine lv_iload hx hb dX6_learnReport_61 (lv_at hl 1 rfl) ?_
      refine va_iast hx hb hK hP hD hS 45 0 (hW_w_42.a tX_45) rfl (in_I (R_lt_l (hW_w.fin tX_42 rfl : In 0 40 (fI w 42 2)) (In_lit (n := 40) (by decide) (by decide) : In 40 40 40) c_40 (by decide) : In 0 39 (fI w 42 2)) (by decide)) dX6_learnReport_63 (fun H locs hP hD hS => fr_w (hW_w_42.uA tX_45 (In_any r_36)) hP hD (fun w_43 ew_43 hW_w_43 hP hD => ?_))
      have hv_w_43 := vw_uA hW_w_42 tX_45 ew_43 (z_ix (hW_w.vi tX_42 rfl)) (rfl : (r_36 : Int32).toInt = _)
      refine lv_aload_n hx hb dX6_learnReport_64 rfl (lv_at hl 2 rfl) ?_
      refine gt_X6 hx hb hts hown hK hP 42 (hW_w_43.o tX_42) 6 (by decide) wd_303 rfl (hW_w_43.fr tX_42 rfl) dX6_learnReport_65 ?_
      refine lv_iload hx hb dX6_learnReport_68 (lv_at hl 0 rfl) ?_
      refine lv_iload hx hb dX6_learnReport_70 (lv_at hl 1 rfl) ?_
      refine va_iast hx hb hK hP hD hS 46 0 (hW_w_43.a tX_46) rfl (in_I (R_lt_l (hW_w.fin tX_42 rfl : In 0 40 (fI w 42 2)) (In_lit (n := 40) (by decide) (by decide) : In 40 40 40) c_40 (by decide) : In 0 39 (fI w 42 2)) (by decide)) dX6_learnReport_72 (fun H locs hP hD hS => fr_w (hW_w_43.uA tX_46 (In_any r_36)) hP hD (fun w_44 ew_44 hW_w_44 hP hD => ?_))
      have hv_w_44 := vw_uA hW_w_43 tX_46 ew_44 (z_ix (hW_w.vi tX_42 rfl)) (rfl : (r_36 : Int32).toInt = _)
      refine lv_aload_n hx hb dX6_learnReport_73 rfl (lv_at hl 2 rfl) ?_
      refine gt_X6 hx hb hts hown hK hP 42 (hW_w_44.o tX_42) 10 (by decide) wd_313 rfl (hW_w_44.fr tX_42 rfl) dX6_learnReport_74 ?_
      refine lv_iload hx hb dX6_learnReport_77 (lv_at hl 0 rfl) ?_
      refine lv_iconst (v := 0) hx hb dX6_learnReport_79 (by decide) ?_
      refine va_iast hx hb hK hP hD hS 50 0 (hW_w_44.a tX_50) rfl (in_I (R_lt_l (hW_w.fin tX_42 rfl : In 0 40 (fI w 42 2)) (In_lit (n := 40) (by decide) (by decide) : In 40 40 40) c_40 (by decide) : In 0 39 (fI w 42 2)) (by decide)) dX6_learnReport_80 (fun H locs hP hD hS => fr_w (hW_w_44.uA tX_50 (In_lit (n := 0) (by decide) (by decide) : In (-2147483648) 2147483647 0)) hP hD (fun w_45 ew_45 hW_w_45 hP hD => ?_))
      have hv_w_45 := vw_uA hW_w_44 tX_50 ew_45 (z_ix (hW_w.vi tX_42 rfl)) (show (0 : Int32).toInt = 0 from by decide)
      refine lv_aload_n hx hb dX6_learnReport_81 rfl (lv_at hl 2 rfl) ?_
      refine gt_X6 hx hb hts hown hK hP 42 (hW_w_45.o tX_42) 11 (by decide) wd_314 rfl (hW_w_45.fr tX_42 rfl) dX6_learnReport_82 ?_
      refine lv_iload hx hb dX6_learnReport_85 (lv_at hl 0 rfl) ?_
      refine lv_iconst (v := 0) hx hb dX6_learnReport_87 (by decide) ?_
      refine va_iast hx hb hK hP hD hS 51 0 (hW_w_45.a tX_51) rfl (in_I (R_lt_l (hW_w.fin tX_42 rfl : In 0 40 (fI w 42 2)) (In_lit (n := 40) (by decide) (by decide) : In 40 40 40) c_40 (by decide) : In 0 39 (fI w 42 2)) (by decide)) dX6_learnReport_88 (fun H locs hP hD hS => fr_w (hW_w_45.uA tX_51 (In_lit (n := 0) (by decide) (by decide) : In 0 4 0)) hP hD (fun w_46 ew_46 hW_w_46 hP hD => ?_))
      have hv_w_46 := vw_uA hW_w_45 tX_51 ew_46 (z_ix (hW_w.vi tX_42 rfl)) (show (0 : Int32).toInt = 0 from by decide)
      exact J89 (fI w 42 2) r_36 w_46 _ _ ls hW_w_46 ((((((((Sm.rf.tr hs_w_32 (by decide)).tr hs_w_35 (by decide)).sf (hW_w_35.lt tX_42) ew_41 (by decide)).sa ew_42 (by decide)).sa ew_43 (by decide)).sa ew_44 (by decide)).sa ew_45 (by decide)).sa ew_46 (by decide)) i_p2 (R_lt_l (hW_w.fin tX_42 rfl : In 0 40 (fI w 42 2)) (In_lit (n := 40) (by decide) (by decide) : In 40 40 40) c_40 (by decide) : In 0 39 (fI w 42 2)) (fun n r t hk => (mk_X6_learnReport_35 (n := n) (And.intro (tyX hW_w) (And.intro i_p2 (Exists.intro r_33.toInt (Exists.intro (vw w_32) (And.intro (cgM_1 hm_34 (rfl : (p3 : Int32).toInt = _)) (And.intro (hs_w_32.Fr hW_w hW_w_32 intsX_ok intsX_ok) (And.intro (tyX hW_w_32) (And.intro i_r_33 (Exists.intro r_36.toInt (Exists.intro (vw w_35) (And.intro (cgM_2 hm_38 (rfl : (p2 : Int32).toInt = _) (show (1 : Int32).toInt = 1 from by decide)) (And.intro (hs_w_35.Fr hW_w_32 hW_w_35 intsX_ok intsX_ok) (And.intro (tyX hW_w_35) (Or.inl (And.intro (z_eq c_39 (rfl : (r_33 : Int32).toInt = _) (show ((-1) : Int32).toInt = (-1) from by decide)) (Or.inl (And.intro (z_lt c_40 (hW_w.vi tX_42 rfl) (show (40 : Int32).toInt = 40 from by decide)) (Exists.intro (vw w_41) (And.intro hv_w_41 (Exists.intro (vw w_42) (And.intro hv_w_42 (Exists.intro (vw w_43) (And.intro hv_w_43 (Exists.intro (vw w_44) (And.intro hv_w_44 (Exists.intro (vw w_45) (And.intro hv_w_45 (Exists.intro (vw w_46) (And.intro hv_w_46 (cgK_5 hk (rfl : (p2 : Int32).toInt = _) (rfl : (p3 : Int32).toInt = _) (hW_w.vi tX_42 rfl) (rfl : (r_36 : Int32).toInt = _) rfl)))))))))))))))))))))))))))))))) hP hD hS (lv_sub hl [2, 3, 4, 5, 0, 1] rfl)
    · exact hret _ _ _ _ _ hP hD hS dX6_learnReport_30 ⟨hW_w_35, ((Sm.rf.tr hs_w_32 (by decide)).tr hs_w_35 (by decide)), (mk_X6_learnReport_35 (n := 0) (And.intro (tyX hW_w) (And.intro i_p2 (Exists.intro r_33.toInt (Exists.intro (vw w_32) (And.intro (cgM_1 hm_34 (rfl : (p3 : Int32).toInt = _)) (And.intro (hs_w_32.Fr hW_w hW_w_32 intsX_ok intsX_ok) (And.intro (tyX hW_w_32) (And.intro i_r_33 (Exists.intro r_36.toInt (Exists.intro (vw w_35) (And.intro (cgM_2 hm_38 (rfl : (p2 : Int32).toInt = _) (show (1 : Int32).toInt = 1 from by decide)) (And.intro (hs_w_35.Fr hW_w_32 hW_w_35 intsX_ok intsX_ok) (And.intro (tyX hW_w_35) (Or.inl (And.intro (z_eq c_39 (rfl : (r_33 : Int32).toInt = _) (show ((-1) : Int32).toInt = (-1) from by decide)) (Or.inr (And.intro (z_nlt c_40 (hW_w.vi tX_42 rfl) (show (40 : Int32).toInt = 40 from by decide)) (And.intro rfl rfl)))))))))))))))))))⟩
set_option maxRecDepth 100000 in
set_option maxHeartbeats 8000000 in
theorem e_X6_learn_35 (l : Launch) (D : va_G) (cI cJ cZ : ClassId) (q : Nat → Nat) (bb bs bp : Nat) (w : va_W) (hW_w : HT q (TX q cI cJ cZ bb bs bp) w) (p2 : Int32) (i_p2 : In 1 200 p2) (hLD : LD w) : Con_v l yX6_learn cX6_learn 5 none ({ frames := 3, cells := 0, slots := 0, locals := 73 }) D cI cJ cZ eW [.ref (q 42), .ref (q 35), .int p2] w (fun (w1 : va_W) => HT q (TX q cI cJ cZ bb bs bp) w1 ∧ Sm [42, 43, 44, 45, 46, 47, 48, 49, 50, 51, 52, 53, 54, 55] [(42, 2)] w w1 ∧ M_X6_learn_35 (vw w) p2.toInt 0 (vw w1)) := by
  refine eQ_v rfl (by decide) (Nat.le_of_ble_eq_true rfl) ⟨rfl, rfl⟩ ?_
  intro p e R s m args below meth c A Q hx hb hml hown hts hK hE hA hR hret hP hD hS ls hl
  have hown : s.vm.findClass RX6 = some m.cls := hown
  have hl : lv_has ls 5 [(0, .ref (q 42)), (1, .ref (q 35)), (2, .int p2)] := hl
  refine lv_aload_n hx hb dX6_learn_0 rfl (lv_at hl 1 rfl) ?_
  refine lv_iload_n hx hb dX6_learn_1 rfl (lv_at hl 2 rfl) ?_
  refine lv_iconst (v := 0) hx hb dX6_learn_2 (by decide) ?_
  refine kW_i ⟨rfl, rfl⟩ hP hD hS hA (rW_V (As := [.int p2, .int 0]) (rest := []) hx hb hml hown hts hK hE hP hD (e_X7_detailOf l D cI cJ cZ q bb bs bp w hW_w p2 0 i_p2 (In_lit (n := 0) (by decide) (by decide) : In 0 4 0) _) ⟨⟨rfl, rfl⟩, rfl, rfl⟩ sv_X6_78 ⟨(Nat.le_trans (by decide) hR.1), (Nat.le_trans (by decide) hR.2)⟩ 35 7 (hW_w.o tX_35) rfl rfl rfl hl.1 rfl (Nat.le_of_ble_eq_true rfl) dX6_learn_3) (fun r_2 w_1 H locs hw_w_1 hP hD hS => ?_)
  obtain ⟨hW_w_1, hs_w_1, h_3, hm_4⟩ := hw_w_1
  refine lv_istore_n (lv' := [(3, .int r_2), (0, .ref (q 42)), (1, .ref (q 35)), (2, .int p2)]) hx hb dX6_learn_6 rfl hl (by decide) rfl (fun ls hl => ?_)
  refine lv_aload_n hx hb dX6_learn_7 rfl (lv_at hl 2 rfl) ?_
  refine lv_iload_n hx hb dX6_learn_8 rfl (lv_at hl 3 rfl) ?_
  refine lv_iconst (v := 1) hx hb dX6_learn_9 (by decide) ?_
  refine kW_i ⟨rfl, rfl⟩ hP hD hS hA (rW_V (As := [.int p2, .int 1]) (rest := []) hx hb hml hown hts hK hE hP hD (e_X7_detailOf l D cI cJ cZ q bb bs bp w_1 hW_w_1 p2 1 i_p2 (In_lit (n := 1) (by decide) (by decide) : In 0 4 1) _) ⟨⟨rfl, rfl⟩, rfl, rfl⟩ sv_X6_78 ⟨(Nat.le_trans (by decide) hR.1), (Nat.le_trans (by decide) hR.2)⟩ 35 7 (hW_w_1.o tX_35) rfl rfl rfl hl.1 rfl (Nat.le_of_ble_eq_true rfl) dX6_learn_10) (fun r_6 w_5 H locs hw_w_5 hP hD hS => ?_)
  obtain ⟨hW_w_5, hs_w_5, h_7, hm_8⟩ := hw_w_5
  refine lv_istore (lv' := [(4, .int r_6), (3, .int r_2), (0, .ref (q 42)), (1, .ref (q 35)), (2, .int p2)]) hx hb dX6_learn_13 hl (by decide) rfl (fun ls hl => ?_)
  refine lv_aload_n hx hb dX6_learn_15 rfl (lv_at hl 3 rfl) ?_
  refine gt_X7 hx hb hts hown hK hP 35 (hW_w_5.o tX_35) 2 (by decide) wd_256 rfl (hW_w_5.fr tX_35 rfl) dX6_learn_16 ?_
  refine lv_iload_n hx hb dX6_learn_19 rfl (lv_at hl 4 rfl) ?_
  refine va_iald hx hb hK hP 36 0 (hW_w_5.a tX_36) rfl (in_I i_p2 (by decide)) dX6_learn_20 ?_
  refine lv_topi (fun v_9 ev_9 => ?_)
  by_cases c_10 : v_9 = 1
  · have c_10t : (v_9 : Int32).toInt = 1 := by rw [c_10]; rfl
    refine lv_tableIn (tgt := 48) hx hb dX6_learn_21 (by rw [c_10t]; decide) (by rw [c_10t]; decide) (off := 27) (by rw [c_10t]; rfl) (by decide) ?_
    refine lv_aload_n hx hb dX6_learn_48 rfl (lv_at hl 2 rfl) ?_
    refine lv_aload_n hx hb dX6_learn_49 rfl (lv_at hl 3 rfl) ?_
    refine lv_iload_n hx hb dX6_learn_50 rfl (lv_at hl 4 rfl) ?_
    refine lv_iload_n hx hb dX6_learn_51 rfl (lv_at hl 1 rfl) ?_
    refine kW_v ⟨rfl, rfl⟩ hP hD hS hA (rW_V (As := [.ref (q 35), .int p2, .int r_2]) (rest := []) hx hb hml hown hts hK hE hP hD (e_X6_learnReport_35 l D cI cJ cZ q bb bs bp w_5 hW_w_5 p2 r_2 i_p2 _) ⟨⟨rfl, rfl⟩, rfl, rfl⟩ sv_X6_85 ⟨(Nat.le_trans (by decide) hR.1), (Nat.le_trans (by decide) hR.2)⟩ 42 6 (hW_w_5.o tX_42) rfl rfl rfl hl.1 rfl (Nat.le_of_ble_eq_true rfl) dX6_learn_52) (fun w_11 H locs hw_w_11 hP hD hS => ?_)
    obtain ⟨hW_w_11, hs_w_11, hm_13⟩ := hw_w_11
    refine lv_goto (tgt := 102) hx hb dX6_learn_55 (by decide) ?_
    exact hret _ _ _ _ _ hP hD hS dX6_learn_102 ⟨hW_w_11, (((Sm.rf.tr hs_w_1 (by decide)).tr hs_w_5 (by decide)).tr hs_w_11 (by decide)), (mk_X6_learn_35 (And.intro (tyX hW_w) (And.intro i_p2 (Exists.intro r_2.toInt (Exists.intro (vw w_1) (And.intro (cgM_2 hm_4 (rfl : (p2 : Int32).toInt = _) (show (0 : Int32).toInt = 0 from by decide)) (And.intro (hs_w_1.Fr hW_w hW_w_1 intsX_ok intsX_ok) (And.intro (tyX hW_w_1) (Exists.intro r_6.toInt (Exists.intro (vw w_5) (And.intro (cgM_2 hm_8 (rfl : (p2 : Int32).toInt = _) (show (1 : Int32).toInt = 1 from by decide)) (And.intro (hs_w_5.Fr hW_w_1 hW_w_5 intsX_ok intsX_ok) (And.intro (tyX hW_w_5) (Or.inl (And.intro (z_eq c_10 (z_of (ev_9.trans (congrFun ((hs_w_5.hA (by decide)).trans (hs_w_1.hA (by decide))) _)) ((hW_w.va tX_36 _).trans (congrArg (vw w 36) (z_ix (rfl : (p2 : Int32).toInt = _))))) (show (1 : Int32).toInt = 1 from by decide)) (Exists.intro (vw w_11) (And.intro (cgM_2 hm_13 (rfl : (p2 : Int32).toInt = _) (rfl : (r_2 : Int32).toInt = _)) (And.intro (hs_w_11.Fr hW_w_5 hW_w_11 intsX_ok intsX_ok) (And.intro (tyX hW_w_11) (And.intro rfl rfl))))))))))))))))))))⟩
  by_cases c_14 : v_9 = 2
  · have c_14t : (v_9 : Int32).toInt = 2 := by rw [c_14]; rfl
    refine lv_tableIn (tgt := 58) hx hb dX6_learn_21 (by rw [c_14t]; decide) (by rw [c_14t]; decide) (off := 37) (by rw [c_14t]; rfl) (by decide) ?_
    refine lv_aload_n hx hb dX6_learn_58 rfl (lv_at hl 2 rfl) ?_
    refine gt_X6 hx hb hts hown hK hP 42 (hW_w_5.o tX_42) 14 (by decide) wd_321 rfl (hW_w_5.fr tX_42 rfl) dX6_learn_59 ?_
    refine lv_iload_n hx hb dX6_learn_62 rfl (lv_at hl 1 rfl) ?_
    refine lv_bipush (v := 25) hx hb dX6_learn_63 (by decide) ?_
    refine lv_imul hx hb dX6_learn_65 ?_
    refine lv_iload hx hb dX6_learn_66 (lv_at hl 0 rfl) ?_
    refine lv_iadd hx hb dX6_learn_68 ?_
    refine lv_dup2_11 hx hb dX6_learn_69 rfl rfl ?_
    refine va_iald hx hb hK hP 54 0 (hW_w_5.a tX_54) rfl (in_I ((In_add ((In_mulr (In_of h_3 ((hLD p2 i_p2).1 ((congrFun ((hs_w_5.hA (by decide)).trans (hs_w_1.hA (by decide))) _).symm.trans (ev_9.symm.trans c_14))).1 : In 0 9 r_2) (n := 25) (by decide) (by decide)) : In 0 225 (r_2 * 25)) (In_of (h_7.trans (congrFun (hs_w_1.hA (by decide)) _)) ((hLD p2 i_p2).1 ((congrFun ((hs_w_5.hA (by decide)).trans (hs_w_1.hA (by decide))) _).symm.trans (ev_9.symm.trans c_14))).2 : In 0 24 r_6) (by decide)) : In 0 249 ((r_2 * 25) + r_6)) (by decide)) dX6_learn_70 ?_
    refine lv_topi (fun v_15 ev_15 => ?_)
    refine lv_aload_n hx hb dX6_learn_71 rfl (lv_at hl 3 rfl) ?_
    refine lv_iload_n hx hb dX6_learn_72 rfl (lv_at hl 4 rfl) ?_
    refine lv_iconst (v := 2) hx hb dX6_learn_73 (by decide) ?_
    refine kW_i ⟨rfl, rfl⟩ hP hD hS hA (rW_V (As := [.int p2, .int 2]) (rest := [.int v_15, .int ((r_2 * 25) + r_6), .ref (q 54)]) hx hb hml hown hts hK hE hP hD (e_X7_detailOf l D cI cJ cZ q bb bs bp w_5 hW_w_5 p2 2 i_p2 (In_lit (n := 2) (by decide) (by decide) : In 0 4 2) _) ⟨⟨rfl, rfl⟩, rfl, rfl⟩ sv_X6_78 ⟨(Nat.le_trans (by decide) hR.1), (Nat.le_trans (by decide) hR.2)⟩ 35 7 (hW_w_5.o tX_35) rfl rfl rfl hl.1 rfl (Nat.le_of_ble_eq_true rfl) dX6_learn_74) (fun r_17 w_16 H locs hw_w_16 hP hD hS => ?_)
    obtain ⟨hW_w_16, hs_w_16, h_18, hm_19⟩ := hw_w_16
    refine lv_iadd hx hb dX6_learn_77 ?_
    refine lv_topi (fun v_20 ev_20 => ?_)
    refine va_iast hx hb hK hP hD hS 54 0 (hW_w_16.a tX_54) rfl (in_I ((In_add ((In_mulr (In_of h_3 ((hLD p2 i_p2).1 ((congrFun ((hs_w_5.hA (by decide)).trans (hs_w_1.hA (by decide))) _).symm.trans (ev_9.symm.trans c_14))).1 : In 0 9 r_2) (n := 25) (by decide) (by decide)) : In 0 225 (r_2 * 25)) (In_of (h_7.trans (congrFun (hs_w_1.hA (by decide)) _)) ((hLD p2 i_p2).1 ((congrFun ((hs_w_5.hA (by decide)).trans (hs_w_1.hA (by decide))) _).symm.trans (ev_9.symm.trans c_14))).2 : In 0 24 r_6) (by decide)) : In 0 249 ((r_2 * 25) + r_6)) (by decide)) dX6_learn_78 (fun H locs hP hD hS => fr_w (hW_w_16.uA tX_54 (In_any v_20)) hP hD (fun w_21 ew_21 hW_w_21 hP hD => ?_))
    have hv_w_21 := vw_uA hW_w_16 tX_54 ew_21 (z_ix (z_add (t_add ((In_mulr (In_of h_3 ((hLD p2 i_p2).1 ((congrFun ((hs_w_5.hA (by decide)).trans (hs_w_1.hA (by decide))) _).symm.trans (ev_9.symm.trans c_14))).1 : In 0 9 r_2) (n := 25) (by decide) (by decide)) : In 0 225 (r_2 * 25)) (In_of (h_7.trans (congrFun (hs_w_1.hA (by decide)) _)) ((hLD p2 i_p2).1 ((congrFun ((hs_w_5.hA (by decide)).trans (hs_w_1.hA (by decide))) _).symm.trans (ev_9.symm.trans c_14))).2 : In 0 24 r_6) (by decide)) (z_mul (In_of h_3 ((hLD p2 i_p2).1 ((congrFun ((hs_w_5.hA (by decide)).trans (hs_w_1.hA (by decide))) _).symm.trans (ev_9.symm.trans c_14))).1 : In 0 9 r_2) (rfl : (r_2 : Int32).toInt = _) (show (25 : Int32).toInt = 25 from by decide) (by decide)) (rfl : (r_6 : Int32).toInt = _))) (z_of ev_20 (z_addw (z_of (ev_15.trans (congrFun ((hs_w_5.hA (by decide)).trans (hs_w_1.hA (by decide))) _)) ((hW_w.va tX_54 _).trans (congrArg (vw w 54) (z_ix (z_add (t_add ((In_mulr (In_of h_3 ((hLD p2 i_p2).1 ((congrFun ((hs_w_5.hA (by decide)).trans (hs_w_1.hA (by decide))) _).symm.trans (ev_9.symm.trans c_14))).1 : In 0 9 r_2) (n := 25) (by decide) (by decide)) : In 0 225 (r_2 * 25)) (In_of (h_7.trans (congrFun (hs_w_1.hA (by decide)) _)) ((hLD p2 i_p2).1 ((congrFun ((hs_w_5.hA (by decide)).trans (hs_w_1.hA (by decide))) _).symm.trans (ev_9.symm.trans c_14))).2 : In 0 24 r_6) (by decide)) (z_mul (In_of h_3 ((hLD p2 i_p2).1 ((congrFun ((hs_w_5.hA (by decide)).trans (hs_w_1.hA (by decide))) _).symm.trans (ev_9.symm.trans c_14))).1 : In 0 9 r_2) (rfl : (r_2 : Int32).toInt = _) (show (25 : Int32).toInt = 25 from by decide) (by decide)) (rfl : (r_6 : Int32).toInt = _)))))) (rfl : (r_17 : Int32).toInt = _)))
    refine lv_goto (tgt := 102) hx hb dX6_learn_79 (by decide) ?_
    exact hret _ _ _ _ _ hP hD hS dX6_learn_102 ⟨hW_w_21, ((((Sm.rf.tr hs_w_1 (by decide)).tr hs_w_5 (by decide)).tr hs_w_16 (by decide)).sa ew_21 (by decide)), (mk_X6_learn_35 (And.intro (tyX hW_w) (And.intro i_p2 (Exists.intro r_2.toInt (Exists.intro (vw w_1) (And.intro (cgM_2 hm_4 (rfl : (p2 : Int32).toInt = _) (show (0 : Int32).toInt = 0 from by decide)) (And.intro (hs_w_1.Fr hW_w hW_w_1 intsX_ok intsX_ok) (And.intro (tyX hW_w_1) (Exists.intro r_6.toInt (Exists.intro (vw w_5) (And.intro (cgM_2 hm_8 (rfl : (p2 : Int32).toInt = _) (show (1 : Int32).toInt = 1 from by decide)) (And.intro (hs_w_5.Fr hW_w_1 hW_w_5 intsX_ok intsX_ok) (And.intro (tyX hW_w_5) (Or.inr (And.intro (z_neq c_10 (z_of (ev_9.trans (congrFun ((hs_w_5.hA (by decide)).trans (hs_w_1.hA (by decide))) _)) ((hW_w.va tX_36 _).trans (congrArg (vw w 36) (z_ix (rfl : (p2 : Int32).toInt = _))))) (show (1 : Int32).toInt = 1 from by decide)) (Or.inl (And.intro (z_eq c_14 (z_of (ev_9.trans (congrFun ((hs_w_5.hA (by decide)).trans (hs_w_1.hA (by decide))) _)) ((hW_w.va tX_36 _).trans (congrArg (vw w 36) (z_ix (rfl : (p2 : Int32).toInt = _))))) (show (2 : Int32).toInt = 2 from by decide)) (Exists.intro r_17.toInt (Exists.intro (vw w_16) (And.intro (cgM_2 hm_19 (rfl : (p2 : Int32).toInt = _) (show (2 : Int32).toInt = 2 from by decide)) (And.intro (hs_w_16.Fr hW_w_5 hW_w_16 intsX_ok intsX_ok) (And.intro (tyX hW_w_16) (Exists.intro (vw w_21) (And.intro hv_w_21 (And.intro rfl rfl)))))))))))))))))))))))))⟩
  by_cases c_22 : v_9 = 3
  · have c_22t : (v_9 : Int32).toInt = 3 := by rw [c_22]; rfl
    refine lv_tableIn (tgt := 82) hx hb dX6_learn_21 (by rw [c_22t]; decide) (by rw [c_22t]; decide) (off := 61) (by rw [c_22t]; rfl) (by decide) ?_
    refine lv_aload_n hx hb dX6_learn_82 rfl (lv_at hl 2 rfl) ?_
    refine gt_X6 hx hb hts hown hK hP 42 (hW_w_5.o tX_42) 15 (by decide) wd_322 rfl (hW_w_5.fr tX_42 rfl) dX6_learn_83 ?_
    refine lv_iload_n hx hb dX6_learn_86 rfl (lv_at hl 1 rfl) ?_
    refine lv_aload_n hx hb dX6_learn_87 rfl (lv_at hl 2 rfl) ?_
    refine gt_X6 hx hb hts hown hK hP 42 (hW_w_5.o tX_42) 15 (by decide) wd_322 rfl (hW_w_5.fr tX_42 rfl) dX6_learn_88 ?_
    refine lv_iload_n hx hb dX6_learn_91 rfl (lv_at hl 1 rfl) ?_
    refine va_iald hx hb hK hP 55 0 (hW_w_5.a tX_55) rfl (in_I (In_of h_3 ((hLD p2 i_p2).2 ((congrFun ((hs_w_5.hA (by decide)).trans (hs_w_1.hA (by decide))) _).symm.trans (ev_9.symm.trans c_22))) : In 0 9 r_2) (by decide)) dX6_learn_92 ?_
    refine lv_topi (fun v_23 ev_23 => ?_)
    refine lv_iload hx hb dX6_learn_93 (lv_at hl 0 rfl) ?_
    refine va_mmin hx hb (by rw [hml]; exact hl.1.symm) hown (hts _ wd_997) (hts _ wd_757) (hts _ wd_18) (hts _ wd_758) (Nat.le_trans (by decide) hR.1) (Nat.le_trans (Nat.le_of_ble_eq_true rfl) hR.2) (Nat.zero_le _) (Nat.zero_le _) dX6_learn_95 ?_
    refine lv_topi (fun v_24 ev_24 => ?_)
    refine va_iast hx hb hK hP hD hS 55 0 (hW_w_5.a tX_55) rfl (in_I (In_of h_3 ((hLD p2 i_p2).2 ((congrFun ((hs_w_5.hA (by decide)).trans (hs_w_1.hA (by decide))) _).symm.trans (ev_9.symm.trans c_22))) : In 0 9 r_2) (by decide)) dX6_learn_98 (fun H locs hP hD hS => fr_w (hW_w_5.uA tX_55 (In_any v_24)) hP hD (fun w_25 ew_25 hW_w_25 hP hD => ?_))
    have hv_w_25 := vw_uA hW_w_5 tX_55 ew_25 (z_ix (rfl : (r_2 : Int32).toInt = _)) (z_of ev_24 (z_min (z_of (ev_23.trans (congrFun ((hs_w_5.hA (by decide)).trans (hs_w_1.hA (by decide))) _)) ((hW_w.va tX_55 _).trans (congrArg (vw w 55) (z_ix (rfl : (r_2 : Int32).toInt = _))))) (rfl : (r_6 : Int32).toInt = _)))
    refine lv_goto (tgt := 102) hx hb dX6_learn_99 (by decide) ?_
    exact hret _ _ _ _ _ hP hD hS dX6_learn_102 ⟨hW_w_25, (((Sm.rf.tr hs_w_1 (by decide)).tr hs_w_5 (by decide)).sa ew_25 (by decide)), (mk_X6_learn_35 (And.intro (tyX hW_w) (And.intro i_p2 (Exists.intro r_2.toInt (Exists.intro (vw w_1) (And.intro (cgM_2 hm_4 (rfl : (p2 : Int32).toInt = _) (show (0 : Int32).toInt = 0 from by decide)) (And.intro (hs_w_1.Fr hW_w hW_w_1 intsX_ok intsX_ok) (And.intro (tyX hW_w_1) (Exists.intro r_6.toInt (Exists.intro (vw w_5) (And.intro (cgM_2 hm_8 (rfl : (p2 : Int32).toInt = _) (show (1 : Int32).toInt = 1 from by decide)) (And.intro (hs_w_5.Fr hW_w_1 hW_w_5 intsX_ok intsX_ok) (And.intro (tyX hW_w_5) (Or.inr (And.intro (z_neq c_10 (z_of (ev_9.trans (congrFun ((hs_w_5.hA (by decide)).trans (hs_w_1.hA (by decide))) _)) ((hW_w.va tX_36 _).trans (congrArg (vw w 36) (z_ix (rfl : (p2 : Int32).toInt = _))))) (show (1 : Int32).toInt = 1 from by decide)) (Or.inr (And.intro (z_neq c_14 (z_of (ev_9.trans (congrFun ((hs_w_5.hA (by decide)).trans (hs_w_1.hA (by decide))) _)) ((hW_w.va tX_36 _).trans (congrArg (vw w 36) (z_ix (rfl : (p2 : Int32).toInt = _))))) (show (2 : Int32).toInt = 2 from by decide)) (Or.inl (And.intro (z_eq c_22 (z_of (ev_9.trans (congrFun ((hs_w_5.hA (by decide)).trans (hs_w_1.hA (by decide))) _)) ((hW_w.va tX_36 _).trans (congrArg (vw w 36) (z_ix (rfl : (p2 : Int32).toInt = _))))) (show (3 : Int32).toInt = 3 from by decide)) (Exists.intro (vw w_25) (And.intro hv_w_25 (And.intro rfl rfl))))))))))))))))))))))⟩
  refine lv_tableOut (tgt := 102) hx hb dX6_learn_21 (by have h0 := lv_neT c_10 (a := 1) (by decide); have h1 := lv_neT c_14 (a := 2) (by decide); have h2 := lv_neT c_22 (a := 3) (by decide); omega) (by decide) ?_
  exact hret _ _ _ _ _ hP hD hS dX6_learn_102 ⟨hW_w_5, ((Sm.rf.tr hs_w_1 (by decide)).tr hs_w_5 (by decide)), (mk_X6_learn_35 (And.intro (tyX hW_w) (And.intro i_p2 (Exists.intro r_2.toInt (Exists.intro (vw w_1) (And.intro (cgM_2 hm_4 (rfl : (p2 : Int32).toInt = _) (show (0 : Int32).toInt = 0 from by decide)) (And.intro (hs_w_1.Fr hW_w hW_w_1 intsX_ok intsX_ok) (And.intro (tyX hW_w_1) (Exists.intro r_6.toInt (Exists.intro (vw w_5) (And.intro (cgM_2 hm_8 (rfl : (p2 : Int32).toInt = _) (show (1 : Int32).toInt = 1 from by decide)) (And.intro (hs_w_5.Fr hW_w_1 hW_w_5 intsX_ok intsX_ok) (And.intro (tyX hW_w_5) (Or.inr (And.intro (z_neq c_10 (z_of (ev_9.trans (congrFun ((hs_w_5.hA (by decide)).trans (hs_w_1.hA (by decide))) _)) ((hW_w.va tX_36 _).trans (congrArg (vw w 36) (z_ix (rfl : (p2 : Int32).toInt = _))))) (show (1 : Int32).toInt = 1 from by decide)) (Or.inr (And.intro (z_neq c_14 (z_of (ev_9.trans (congrFun ((hs_w_5.hA (by decide)).trans (hs_w_1.hA (by decide))) _)) ((hW_w.va tX_36 _).trans (congrArg (vw w 36) (z_ix (rfl : (p2 : Int32).toInt = _))))) (show (2 : Int32).toInt = 2 from by decide)) (Or.inr (And.intro (z_neq c_22 (z_of (ev_9.trans (congrFun ((hs_w_5.hA (by decide)).trans (hs_w_1.hA (by decide))) _)) ((hW_w.va tX_36 _).trans (congrArg (vw w 36) (z_ix (rfl : (p2 : Int32).toInt = _))))) (show (3 : Int32).toInt = 3 from by decide)) (And.intro rfl rfl))))))))))))))))))))⟩
set_option maxRecDepth 100000 in
set_option maxHeartbeats 8000000 in
theorem e_X7_isKnown (l : Launch) (D : va_G) (cI cJ cZ : ClassId) (q : Nat → Nat) (bb bs bp : Nat) (w : va_W) (hW_w : HT q (TX q cI cJ cZ bb bs bp) w) (p1 : Int32) (p2 : Int32) (i_p1 : In 1 200 p1) (i_p2 : In 1 200 p2) : Con_i l yX7_isKnown cX7_isKnown 3 (some .boolean) ({ frames := 0, cells := 0, slots := 0, locals := 0 }) D cI cJ cZ eW [.ref (q 35), .int p1, .int p2] w (fun (r : Int32) (w1 : va_W) => HT q (TX q cI cJ cZ bb bs bp) w1 ∧ Sm [] [] w w1 ∧ In 0 1 r ∧ M_X7_isKnown (vw w) p1.toInt p2.toInt r.toInt (vw w1)) := by
  refine eQ_z rfl (by decide) (Nat.le_of_ble_eq_true rfl) ⟨rfl, rfl⟩ ?_
  intro p e R s m args below meth c A Q hx hb hml hown hts hK hE hA hR hret hP hD hS ls hl
  have hown : s.vm.findClass RX7 = some m.cls := hown
  have hl : lv_has ls 3 [(0, .ref (q 35)), (1, .int p1), (2, .int p2)] := hl
  refine lv_iload_n hx hb dX7_isKnown_0 rfl (lv_at hl 1 rfl) ?_
  refine lv_iload_n hx hb dX7_isKnown_1 rfl (lv_at hl 2 rfl) ?_
  refine lv_icmp_gt (tgt := 28) hx hb dX7_isKnown_2 (by decide) (fun c_1 => ?_) (fun c_1 => ?_)
  · refine lv_iconst (v := 0) hx hb dX7_isKnown_28 (by decide) ?_
    exact hret _ _ _ _ _ _ hP hD hS dX7_isKnown_29 (In_lit (n := 0) (by decide) (by decide) : In 0 1 0) ⟨hW_w, Sm.rf, (In_lit (n := 0) (by decide) (by decide) : In 0 1 0), (mk_X7_isKnown (And.intro (tyX hW_w) (And.intro i_p1 (And.intro i_p2 (Or.inl (And.intro (z_lt c_1 (rfl : (p2 : Int32).toInt = _) (rfl : (p1 : Int32).toInt = _)) (And.intro (show (0 : Int32).toInt = 0 from by decide) rfl)))))))⟩
  · refine lv_aload_n hx hb dX7_isKnown_5 rfl (lv_at hl 0 rfl) ?_
    refine gt_X7 hx hb hts hown hK hP 35 (hW_w.o tX_35) 6 (by decide) wd_263 rfl (hW_w.fr tX_35 rfl) dX7_isKnown_6 ?_
    refine lv_iload_n hx hb dX7_isKnown_9 rfl (lv_at hl 1 rfl) ?_
    refine va_iald hx hb hK hP 40 0 (hW_w.a tX_40) rfl (in_I i_p1 (by decide)) dX7_isKnown_10 ?_
    refine lv_topi (fun v_2 ev_2 => ?_)
    refine lv_if_eq (tgt := 24) hx hb dX7_isKnown_11 (by decide) (fun c_3 => ?_) (fun c_3 => ?_)
    · refine lv_iconst (v := 1) hx hb dX7_isKnown_24 (by decide) ?_
      refine lv_goto (tgt := 29) hx hb dX7_isKnown_25 (by decide) ?_
      exact hret _ _ _ _ _ _ hP hD hS dX7_isKnown_29 (In_lit (n := 1) (by decide) (by decide) : In 0 1 1) ⟨hW_w, Sm.rf, (In_lit (n := 1) (by decide) (by decide) : In 0 1 1), (mk_X7_isKnown (And.intro (tyX hW_w) (And.intro i_p1 (And.intro i_p2 (Or.inr (And.intro (z_nlt c_1 (rfl : (p2 : Int32).toInt = _) (rfl : (p1 : Int32).toInt = _)) (Or.inl (And.intro (z_eq c_3 (z_of ev_2 ((hW_w.va tX_40 _).trans (congrArg (vw w 40) (z_ix (rfl : (p1 : Int32).toInt = _))))) (show (0 : Int32).toInt = 0 from by decide)) (And.intro (show (1 : Int32).toInt = 1 from by decide) rfl)))))))))⟩
    · refine lv_aload_n hx hb dX7_isKnown_14 rfl (lv_at hl 0 rfl) ?_
      refine gt_X7 hx hb hts hown hK hP 35 (hW_w.o tX_35) 6 (by decide) wd_263 rfl (hW_w.fr tX_35 rfl) dX7_isKnown_15 ?_
      refine lv_iload_n hx hb dX7_isKnown_18 rfl (lv_at hl 1 rfl) ?_
      refine va_iald hx hb hK hP 40 0 (hW_w.a tX_40) rfl (in_I i_p1 (by decide)) dX7_isKnown_19 ?_
      refine tov (v := v_2) ev_2.symm ?_
      refine lv_iload_n hx hb dX7_isKnown_20 rfl (lv_at hl 2 rfl) ?_
      refine lv_icmp_le (tgt := 28) hx hb dX7_isKnown_21 (by decide) (fun c_4 => ?_) (fun c_4 => ?_)
      · refine lv_iconst (v := 0) hx hb dX7_isKnown_28 (by decide) ?_
        exact hret _ _ _ _ _ _ hP hD hS dX7_isKnown_29 (In_lit (n := 0) (by decide) (by decide) : In 0 1 0) ⟨hW_w, Sm.rf, (In_lit (n := 0) (by decide) (by decide) : In 0 1 0), (mk_X7_isKnown (And.intro (tyX hW_w) (And.intro i_p1 (And.intro i_p2 (Or.inr (And.intro (z_nlt c_1 (rfl : (p2 : Int32).toInt = _) (rfl : (p1 : Int32).toInt = _)) (Or.inr (And.intro (z_neq c_3 (z_of ev_2 ((hW_w.va tX_40 _).trans (congrArg (vw w 40) (z_ix (rfl : (p1 : Int32).toInt = _))))) (show (0 : Int32).toInt = 0 from by decide)) (Or.inl (And.intro (z_le c_4 (z_of ev_2 ((hW_w.va tX_40 _).trans (congrArg (vw w 40) (z_ix (rfl : (p1 : Int32).toInt = _))))) (rfl : (p2 : Int32).toInt = _)) (And.intro (show (0 : Int32).toInt = 0 from by decide) rfl)))))))))))⟩
      · refine lv_iconst (v := 1) hx hb dX7_isKnown_24 (by decide) ?_
        refine lv_goto (tgt := 29) hx hb dX7_isKnown_25 (by decide) ?_
        exact hret _ _ _ _ _ _ hP hD hS dX7_isKnown_29 (In_lit (n := 1) (by decide) (by decide) : In 0 1 1) ⟨hW_w, Sm.rf, (In_lit (n := 1) (by decide) (by decide) : In 0 1 1), (mk_X7_isKnown (And.intro (tyX hW_w) (And.intro i_p1 (And.intro i_p2 (Or.inr (And.intro (z_nlt c_1 (rfl : (p2 : Int32).toInt = _) (rfl : (p1 : Int32).toInt = _)) (Or.inr (And.intro (z_neq c_3 (z_of ev_2 ((hW_w.va tX_40 _).trans (congrArg (vw w 40) (z_ix (rfl : (p1 : Int32).toInt = _))))) (show (0 : Int32).toInt = 0 from by decide)) (Or.inr (And.intro (z_nle c_4 (z_of ev_2 ((hW_w.va tX_40 _).trans (congrArg (vw w 40) (z_ix (rfl : (p1 : Int32).toInt = _))))) (rfl : (p2 : Int32).toInt = _)) (And.intro (show (1 : Int32).toInt = 1 from by decide) rfl)))))))))))⟩
set_option maxRecDepth 100000 in
set_option maxHeartbeats 8000000 in
theorem e_X6_look_35 (l : Launch) (D : va_G) (cI cJ cZ : ClassId) (q : Nat → Nat) (bb bs bp : Nat) (w : va_W) (hW_w : HT q (TX q cI cJ cZ bb bs bp) w) (p2 : Int32) (i_p2 : In 0 200 p2) (hLD : LD w) : Con_v l yX6_look cX6_look 4 none ({ frames := 4, cells := 0, slots := 0, locals := 97 }) D cI cJ cZ eW [.ref (q 42), .ref (q 35), .int p2] w (fun (w1 : va_W) => HT q (TX q cI cJ cZ bb bs bp) w1 ∧ Sm [42, 43, 44, 45, 46, 47, 48, 49, 50, 51, 52, 53, 54, 55] [(42, 0), (42, 1), (42, 2)] w w1 ∧ M_X6_look_35 (vw w) p2.toInt 0 (vw w1)) := by
  refine eQ_v rfl (by decide) (Nat.le_of_ble_eq_true rfl) ⟨rfl, rfl⟩ ?_
  intro p e R s m args below meth c A Q hx hb hml hown hts hK hE hA hR hret hP hD hS ls hl
  have hown : s.vm.findClass RX6 = some m.cls := hown
  have hl : lv_has ls 4 [(0, .ref (q 42)), (1, .ref (q 35)), (2, .int p2)] := hl
  have J48 : ∀ (N : Nat) (x48_3 : Int32) (w48 : va_W) (H : Heap) (locs : List Loc) (ls : Array Slot), (201 - x48_3.toInt).toNat < N → HT q (TX q cI cJ cZ bb bs bp) w48 → Sm [42, 43, 44, 45, 46, 47, 48, 49, 50, 51, 52, 53, 54, 55] [(42, 0), (42, 1), (42, 2)] w w48 → (In 0 200 p2) → (In 1 201 x48_3) → (fI w48 42 0 = p2) → (In 0 200 p2) → (fI w48 42 1 = ((fI w 42 1) + 1)) → (∀ (n : Nat) (r : Int) (t : PS), It_X6_look_35 n 48 p2.toInt x48_3.toInt (vw w48) r t → M_X6_look_35 (vw w) p2.toInt r t) → va_P D vwCl w48 H → va_D A w48 → va_S A s.heap H locs → lv_has ls 4 [(0, .ref (q 42)), (1, .ref (q 35)), (2, .int p2), (3, .int x48_3)] → W p l e R s m args below meth c H locs 0 0 Q (F0 m 48 ls []) := by
    intro N
    induction N with
    | zero => intro x48_3 w48 H locs ls hmu; exact absurd hmu (Nat.not_lt_zero _)
    | succ N ih48 =>
      intro x48_3 w48 H locs ls hmu48 hW_w48 hM_w48 i_x48_2 i_x48_3 g48_42_0e g48_42_0 g48_42_1e hmi_48 hP hD hS hl
      have J75 : ∀ (w75 : va_W) (H : Heap) (locs : List Loc) (ls : Array Slot), HT q (TX q cI cJ cZ bb bs bp) w75 → Sm [42, 43, 44, 45, 46, 47, 48, 49, 50, 51, 52, 53, 54, 55] [(42, 0), (42, 1), (42, 2)] w w75 → (In 1 200 p2) → (In 1 200 x48_3) → (fI w75 42 0 = p2) → (In 1 200 p2) → (fI w75 42 1 = ((fI w 42 1) + 1)) → (∀ (n : Nat) (r : Int) (t : PS), It_X6_look_35 n 75 p2.toInt x48_3.toInt (vw w75) r t → M_X6_look_35 (vw w) p2.toInt r t) → va_P D vwCl w75 H → va_D A w75 → va_S A s.heap H locs → lv_has ls 4 [(0, .ref (q 42)), (1, .ref (q 35)), (2, .int p2), (3, .int x48_3)] → W p l e R s m args below meth c H locs 0 0 Q (F0 m 75 ls []) := by
        intro w75 H locs ls hW_w75 hM_w75 i_x75_2 i_x75_3 g75_42_0e g75_42_0 g75_42_1e hmi_75 hP hD hS hl
        refine lv_iinc (v := (x48_3 + 1)) (lv' := [(3, .int (x48_3 + 1)), (0, .ref (q 42)), (1, .ref (q 35)), (2, .int p2)]) hx hb dX6_look_75 hl (k := 3) rfl (rfl) (by decide) rfl (fun ls hl => ?_)
        refine lv_goto (tgt := 48) hx hb dX6_look_78 (by decide) ?_
        exact ih48 (x48_3 + 1) w75 _ _ ls (mu_inc hmu48 i_x75_3 (In_lit (n := 1) (by decide) (by decide) : In 1 1 1) (by decide)) hW_w75 hM_w75 (In_w i_x75_2 (by decide) : In 0 200 p2) (In_w ((In_add (y := 1) i_x75_3 (In_lit (n := 1) (by decide) (by decide) : In 1 1 1) (by decide)) : In 2 201 (x48_3 + 1)) (by decide) : In 1 201 (x48_3 + 1)) g75_42_0e (In_w i_x75_2 (by decide) : In 0 200 p2) g75_42_1e (fun n r t hk => (hmi_75 (n + 1) r t (rl_X6_look_35_75 (n := n) (And.intro (tyX hW_w75) (And.intro i_x75_2 (And.intro i_x75_3 (cgK_2 hk (rfl : (p2 : Int32).toInt = _) (z_add (t_add i_x75_3 (In_lit (n := 1) (by decide) (by decide) : In 1 1 1) (by decide)) (rfl : (x48_3 : Int32).toInt = _) (show (1 : Int32).toInt = 1 from by decide))))))))) hP hD hS (lv_sub hl [1, 2, 3, 0] rfl)
      refine lv_iload_n hx hb dX6_look_48 rfl (lv_at hl 3 rfl) ?_
      refine lv_iload_n hx hb dX6_look_49 rfl (lv_at hl 2 rfl) ?_
      refine lv_icmp_gt (tgt := 81) hx hb dX6_look_50 (by decide) (fun c_1 => ?_) (fun c_1 => ?_)
      · exact hret _ _ _ _ _ hP hD hS dX6_look_81 ⟨hW_w48, hM_w48, (hmi_48 (0 + 1) _ _ (rl_X6_look_35_48 (n := 0) (And.intro (tyX hW_w48) (And.intro i_x48_2 (And.intro i_x48_3 (Or.inl (And.intro (z_lt c_1 (rfl : (p2 : Int32).toInt = _) (rfl : (x48_3 : Int32).toInt = _)) (And.intro rfl rfl))))))))⟩
      · refine lv_aload_n hx hb dX6_look_53 rfl (lv_at hl 0 rfl) ?_
        refine gt_X6 hx hb hts hown hK hP 42 (hW_w48.o tX_42) 13 (by decide) wd_319 rfl (hW_w48.fr tX_42 rfl) dX6_look_54 ?_
        refine lv_iload_n hx hb dX6_look_57 rfl (lv_at hl 3 rfl) ?_
        refine lv_iconst (v := (-1)) hx hb dX6_look_58 (by decide) ?_
        refine va_iast hx hb hK hP hD hS 53 0 (hW_w48.a tX_53) rfl (in_I (R_nlt_r i_p2 i_x48_3 c_1 (by decide) : In 1 200 x48_3) (by decide)) dX6_look_59 (fun H locs hP hD hS => fr_w (hW_w48.uA tX_53 (In_lit (n := (-1)) (by decide) (by decide) : In (-1) 39 (-1))) hP hD (fun w_2 ew_2 hW_w_2 hP hD => ?_))
        have hv_w_2 := vw_uA hW_w48 tX_53 ew_2 (z_ix (rfl : (x48_3 : Int32).toInt = _)) (show ((-1) : Int32).toInt = (-1) from by decide)
        refine lv_aload_n hx hb dX6_look_60 rfl (lv_at hl 1 rfl) ?_
        refine lv_iload_n hx hb dX6_look_61 rfl (lv_at hl 3 rfl) ?_
        refine lv_iload_n hx hb dX6_look_62 rfl (lv_at hl 2 rfl) ?_
        refine kW_i ⟨rfl, rfl⟩ hP hD hS hA (rW_V (As := [.int x48_3, .int p2]) (rest := []) hx hb hml hown hts hK hE hP hD (e_X7_isKnown l D cI cJ cZ q bb bs bp w_2 hW_w_2 x48_3 p2 (R_nlt_r i_p2 i_x48_3 c_1 (by decide) : In 1 200 x48_3) (R_nlt_l i_p2 i_x48_3 c_1 (by decide) : In 1 200 p2) _) ⟨⟨rfl, rfl⟩, rfl, rfl⟩ sv_X6_68 ⟨(Nat.le_trans (by decide) hR.1), (Nat.le_trans (by decide) hR.2)⟩ 35 7 (hW_w_2.o tX_35) rfl rfl rfl hl.1 rfl (Nat.le_of_ble_eq_true rfl) dX6_look_63) (fun r_4 w_3 H locs hw_w_3 hP hD hS => ?_)
        obtain ⟨hW_w_3, hs_w_3, i_r_4, hm_5⟩ := hw_w_3
        refine lv_if_eq (tgt := 75) hx hb dX6_look_66 (by decide) (fun c_6 => ?_) (fun c_6 => ?_)
        · exact J75 w_3 _ _ ls hW_w_3 ((hM_w48.sa ew_2 (by decide)).tr hs_w_3 (by decide)) (R_nlt_l i_p2 i_x48_3 c_1 (by decide) : In 1 200 p2) (R_nlt_r i_p2 i_x48_3 c_1 (by decide) : In 1 200 x48_3) ((hs_w_3.gI (by decide)).trans ((fI_cg (st_ne ew_2 (by decide))).trans g48_42_0e)) (R_nlt_l i_p2 i_x48_3 c_1 (by decide) : In 1 200 p2) ((hs_w_3.gI (by decide)).trans ((fI_cg (st_ne ew_2 (by decide))).trans g48_42_1e)) (fun n r t hk => (hmi_48 (n + 1) r t (rl_X6_look_35_48 (n := n) (And.intro (tyX hW_w48) (And.intro i_x48_2 (And.intro i_x48_3 (Or.inr (And.intro (z_nlt c_1 (rfl : (p2 : Int32).toInt = _) (rfl : (x48_3 : Int32).toInt = _)) (Exists.intro (vw w_2) (And.intro hv_w_2 (Exists.intro r_4.toInt (Exists.intro (vw w_3) (And.intro (cgM_2 hm_5 (rfl : (x48_3 : Int32).toInt = _) (rfl : (p2 : Int32).toInt = _)) (And.intro (hs_w_3.Fr hW_w_2 hW_w_3 intsX_ok intsX_ok) (And.intro (tyX hW_w_3) (And.intro i_r_4 (Or.inl (And.intro (z_eq c_6 (rfl : (r_4 : Int32).toInt = _) (show (0 : Int32).toInt = 0 from by decide)) (cgK_2 hk (rfl : (p2 : Int32).toInt = _) (rfl : (x48_3 : Int32).toInt = _)))))))))))))))))))) hP hD hS (lv_sub hl [0, 1, 2, 3] rfl)
        · refine lv_aload_n hx hb dX6_look_69 rfl (lv_at hl 0 rfl) ?_
          refine lv_aload_n hx hb dX6_look_70 rfl (lv_at hl 1 rfl) ?_
          refine lv_iload_n hx hb dX6_look_71 rfl (lv_at hl 3 rfl) ?_
          refine kW_v ⟨rfl, rfl⟩ hP hD hS hA (rW_V (As := [.ref (q 35), .int x48_3]) (rest := []) hx hb hml hown hts hK hE hP hD (e_X6_learn_35 l D cI cJ cZ q bb bs bp w_3 hW_w_3 x48_3 (R_nlt_r i_p2 i_x48_3 c_1 (by decide) : In 1 200 x48_3) (LD_cg ((hs_w_3.hA (by decide)).trans ((aF_cg (st_ne ew_2 (by decide))).trans (hM_w48.hA (by decide)))) ((hs_w_3.hA (by decide)).trans ((aF_cg (st_ne ew_2 (by decide))).trans (hM_w48.hA (by decide)))) hLD) _) ⟨⟨rfl, rfl⟩, rfl, rfl⟩ sv_X6_74 ⟨(Nat.le_trans (by decide) hR.1), (Nat.le_trans (by decide) hR.2)⟩ 42 6 (hW_w_3.o tX_42) rfl rfl rfl hl.1 rfl (Nat.le_of_ble_eq_true rfl) dX6_look_72) (fun w_7 H locs hw_w_7 hP hD hS => ?_)
          obtain ⟨hW_w_7, hs_w_7, hm_9⟩ := hw_w_7
          exact J75 w_7 _ _ ls hW_w_7 (((hM_w48.sa ew_2 (by decide)).tr hs_w_3 (by decide)).tr hs_w_7 (by decide)) (R_nlt_l i_p2 i_x48_3 c_1 (by decide) : In 1 200 p2) (R_nlt_r i_p2 i_x48_3 c_1 (by decide) : In 1 200 x48_3) ((hs_w_7.2 42 0 (by decide) (by decide)).trans ((hs_w_3.gI (by decide)).trans ((fI_cg (st_ne ew_2 (by decide))).trans g48_42_0e))) (R_nlt_l i_p2 i_x48_3 c_1 (by decide) : In 1 200 p2) ((hs_w_7.2 42 1 (by decide) (by decide)).trans ((hs_w_3.gI (by decide)).trans ((fI_cg (st_ne ew_2 (by decide))).trans g48_42_1e))) (fun n r t hk => (hmi_48 (n + 1) r t (rl_X6_look_35_48 (n := n) (And.intro (tyX hW_w48) (And.intro i_x48_2 (And.intro i_x48_3 (Or.inr (And.intro (z_nlt c_1 (rfl : (p2 : Int32).toInt = _) (rfl : (x48_3 : Int32).toInt = _)) (Exists.intro (vw w_2) (And.intro hv_w_2 (Exists.intro r_4.toInt (Exists.intro (vw w_3) (And.intro (cgM_2 hm_5 (rfl : (x48_3 : Int32).toInt = _) (rfl : (p2 : Int32).toInt = _)) (And.intro (hs_w_3.Fr hW_w_2 hW_w_3 intsX_ok intsX_ok) (And.intro (tyX hW_w_3) (And.intro i_r_4 (Or.inr (And.intro (z_neq c_6 (rfl : (r_4 : Int32).toInt = _) (show (0 : Int32).toInt = 0 from by decide)) (Exists.intro (vw w_7) (And.intro (cgM_1 hm_9 (rfl : (x48_3 : Int32).toInt = _)) (And.intro (hs_w_7.Fr hW_w_3 hW_w_7 intsX_ok intsX_ok) (And.intro (tyX hW_w_7) (cgK_2 hk (rfl : (p2 : Int32).toInt = _) (rfl : (x48_3 : Int32).toInt = _)))))))))))))))))))))))) hP hD hS (lv_sub hl [0, 1, 2, 3] rfl)
  refine lv_aload_n hx hb dX6_look_0 rfl (lv_at hl 0 rfl) ?_
  refine gt_X6 hx hb hts hown hK hP 42 (hW_w.o tX_42) 0 (by decide) wd_290 rfl (hW_w.fi tX_42 rfl) dX6_look_1 ?_
  refine lv_iload_n hx hb dX6_look_4 rfl (lv_at hl 2 rfl) ?_
  refine lv_icmp_ne (tgt := 9) hx hb dX6_look_5 (by decide) (fun c_10 => ?_) (fun c_10 => ?_)
  · refine lv_aload_n hx hb dX6_look_9 rfl (lv_at hl 0 rfl) ?_
    refine lv_iload_n hx hb dX6_look_10 rfl (lv_at hl 2 rfl) ?_
    refine pt_X6 hx hb hts hown hK hP hD hS 42 (hW_w.o tX_42) 0 (by decide) wd_290 rfl rfl (ty := .int) (v := .int p2) (by decide +kernel) rfl rfl (hW_w.ll tX_42 (Nat.le_of_ble_eq_true rfl)) dX6_look_11 (fun H locs hP hD hS => fr_w (hW_w.sI tX_42 rfl (In_w i_p2 (by decide) : In (-1) 200 p2)) hP hD (fun w_11 ew_11 hW_w_11 hP hD => ?_))
    have hv_w_11 := vw_sI (j := 0) hW_w tX_42 rfl ew_11 (rfl : (p2 : Int32).toInt = _)
    refine lv_aload_n hx hb dX6_look_14 rfl (lv_at hl 0 rfl) ?_
    refine lv_dup hx hb dX6_look_15 rfl ?_
    refine gt_X6 hx hb hts hown hK hP 42 (hW_w_11.o tX_42) 1 (by decide) wd_292 rfl (hW_w_11.fi tX_42 rfl) dX6_look_16 ?_
    refine tov (v := (fI w 42 1)) (fI_nej (hW_w.lt tX_42) ew_11 (by decide)) ?_
    refine lv_iconst (v := 1) hx hb dX6_look_19 (by decide) ?_
    refine lv_iadd hx hb dX6_look_20 ?_
    refine pt_X6 hx hb hts hown hK hP hD hS 42 (hW_w_11.o tX_42) 1 (by decide) wd_292 rfl rfl (ty := .int) (v := .int ((fI w 42 1) + 1)) (by decide +kernel) rfl rfl (hW_w_11.ll tX_42 (Nat.le_of_ble_eq_true rfl)) dX6_look_21 (fun H locs hP hD hS => fr_w (hW_w_11.sI tX_42 rfl (In_any ((fI w 42 1) + 1))) hP hD (fun w_12 ew_12 hW_w_12 hP hD => ?_))
    have hv_w_12 := vw_sI (j := 1) hW_w_11 tX_42 rfl ew_12 (z_addw (hW_w.vi tX_42 rfl) (show (1 : Int32).toInt = 1 from by decide))
    refine lv_aload_n hx hb dX6_look_24 rfl (lv_at hl 0 rfl) ?_
    refine lv_iconst (v := 0) hx hb dX6_look_25 (by decide) ?_
    refine pt_X6 hx hb hts hown hK hP hD hS 42 (hW_w_12.o tX_42) 2 (by decide) wd_295 rfl rfl (ty := .int) (v := .int 0) (by decide +kernel) rfl rfl (hW_w_12.ll tX_42 (Nat.le_of_ble_eq_true rfl)) dX6_look_26 (fun H locs hP hD hS => fr_w (hW_w_12.sI tX_42 rfl (In_lit (n := 0) (by decide) (by decide) : In 0 40 0)) hP hD (fun w_13 ew_13 hW_w_13 hP hD => ?_))
    have hv_w_13 := vw_sI (j := 2) hW_w_12 tX_42 rfl ew_13 (show (0 : Int32).toInt = 0 from by decide)
    refine lv_aload_n hx hb dX6_look_29 rfl (lv_at hl 0 rfl) ?_
    refine gt_X6 hx hb hts hown hK hP 42 (hW_w_13.o tX_42) 14 (by decide) wd_321 rfl (hW_w_13.fr tX_42 rfl) dX6_look_30 ?_
    refine lv_iconst (v := 0) hx hb dX6_look_33 (by decide) ?_
    refine kW_v ⟨rfl, rfl⟩ hP hD hS hA (rW_S (As := [.ref (q 54), .int 0]) (rest := []) hx hb hml hown hts hK hE hP hD (e_J7_fill_53178_54 l D cI cJ cZ q bb bs bp w_13 hW_w_13 0 (In_lit (n := 0) (by decide) (by decide) : In 0 0 0) (In_of (fI_eq (hW_w_12.lt tX_42) ew_13 (hW_w_12.ll tX_42 (Nat.le_of_ble_eq_true rfl))) (In_lit (n := 0) (by decide) (by decide) : In 0 0 0)) _) ⟨⟨rfl, rfl⟩, rfl, rfl⟩ sv_X6_62 ⟨(Nat.le_trans (by decide) hR.1), (Nat.le_trans (by decide) hR.2)⟩ rfl hl.1 rfl (Nat.le_of_ble_eq_true rfl) dX6_look_34) (fun w_14 H locs hw_w_14 hP hD hS => ?_)
    obtain ⟨hW_w_14, hs_w_14, h_16, hm_17⟩ := hw_w_14
    refine lv_aload_n hx hb dX6_look_37 rfl (lv_at hl 0 rfl) ?_
    refine gt_X6 hx hb hts hown hK hP 42 (hW_w_14.o tX_42) 15 (by decide) wd_322 rfl (hW_w_14.fr tX_42 rfl) dX6_look_38 ?_
    refine lv_bipush (v := 25) hx hb dX6_look_41 (by decide) ?_
    refine kW_v ⟨rfl, rfl⟩ hP hD hS hA (rW_S (As := [.ref (q 55), .int 25]) (rest := []) hx hb hml hown hts hK hE hP hD (e_J7_fill_53178_55 l D cI cJ cZ q bb bs bp w_14 hW_w_14 25 (In_lit (n := 25) (by decide) (by decide) : In 25 25 25) (In_of ((hs_w_14.gI (by decide)).trans (fI_eq (hW_w_12.lt tX_42) ew_13 (hW_w_12.ll tX_42 (Nat.le_of_ble_eq_true rfl)))) (In_lit (n := 0) (by decide) (by decide) : In 0 0 0)) _) ⟨⟨rfl, rfl⟩, rfl, rfl⟩ sv_X6_62 ⟨(Nat.le_trans (by decide) hR.1), (Nat.le_trans (by decide) hR.2)⟩ rfl hl.1 rfl (Nat.le_of_ble_eq_true rfl) dX6_look_43) (fun w_18 H locs hw_w_18 hP hD hS => ?_)
    obtain ⟨hW_w_18, hs_w_18, h_20, hm_21⟩ := hw_w_18
    refine lv_iconst (v := 1) hx hb dX6_look_46 (by decide) ?_
    refine lv_istore_n (lv' := [(3, .int 1), (0, .ref (q 42)), (1, .ref (q 35)), (2, .int p2)]) hx hb dX6_look_47 rfl hl (by decide) rfl (fun ls hl => ?_)
    exact J48 _ 1 w_18 _ _ ls (Nat.lt_succ_self _) hW_w_18 (((((Sm.rf.sf (hW_w.lt tX_42) ew_11 (by decide)).sf (hW_w_11.lt tX_42) ew_12 (by decide)).sf (hW_w_12.lt tX_42) ew_13 (by decide)).tr hs_w_14 (by decide)).tr hs_w_18 (by decide)) i_p2 (In_lit (n := 1) (by decide) (by decide) : In 1 201 1) ((hs_w_18.gI (by decide)).trans ((hs_w_14.gI (by decide)).trans ((fI_nej (hW_w_12.lt tX_42) ew_13 (by decide)).trans ((fI_nej (hW_w_11.lt tX_42) ew_12 (by decide)).trans (fI_eq (hW_w.lt tX_42) ew_11 (hW_w.ll tX_42 (Nat.le_of_ble_eq_true rfl))))))) i_p2 ((hs_w_18.gI (by decide)).trans ((hs_w_14.gI (by decide)).trans ((fI_nej (hW_w_12.lt tX_42) ew_13 (by decide)).trans (fI_eq (hW_w_11.lt tX_42) ew_12 (hW_w_11.ll tX_42 (Nat.le_of_ble_eq_true rfl)))))) (fun n r t hk => (mk_X6_look_35 (n := n) (And.intro (tyX hW_w) (And.intro i_p2 (Or.inr (And.intro (z_neq c_10 (hW_w.vi tX_42 rfl) (rfl : (p2 : Int32).toInt = _)) (Exists.intro (vw w_11) (And.intro hv_w_11 (Exists.intro (vw w_12) (And.intro hv_w_12 (Exists.intro (vw w_13) (And.intro hv_w_13 (Exists.intro (vw w_14) (And.intro (cgM_1 hm_17 (show (0 : Int32).toInt = 0 from by decide)) (And.intro (hs_w_14.Fr hW_w_13 hW_w_14 intsX_ok intsX_ok) (And.intro (tyX hW_w_14) (Exists.intro (vw w_18) (And.intro (cgM_1 hm_21 (show (25 : Int32).toInt = 25 from by decide)) (And.intro (hs_w_18.Fr hW_w_14 hW_w_18 intsX_ok intsX_ok) (And.intro (tyX hW_w_18) (cgK_2 hk (rfl : (p2 : Int32).toInt = _) (show (1 : Int32).toInt = 1 from by decide)))))))))))))))))))))) hP hD hS (lv_sub hl [1, 2, 3, 0] rfl)
  · exact hret _ _ _ _ _ hP hD hS dX6_look_8 ⟨hW_w, Sm.rf, (mk_X6_look_35 (n := 0) (And.intro (tyX hW_w) (And.intro i_p2 (Or.inl (And.intro (z_eq c_10 (hW_w.vi tX_42 rfl) (rfl : (p2 : Int32).toInt = _)) (And.intro rfl rfl))))))⟩
set_option maxRecDepth 100000 in
set_option maxHeartbeats 8000000 in
theorem e_X11_look (l : Launch) (D : va_G) (cI cJ cZ : ClassId) (q : Nat → Nat) (bp : Nat) (w : va_W) (hW_w : HT q (TX q cI cJ cZ 1 16 bp) w) (hLD : LD w) : Con_v l yX11_look cX11_look 1 none ({ frames := 5, cells := 0, slots := 0, locals := 120 }) D cI cJ cZ eW [.ref (q 0)] w (fun (w1 : va_W) => HT q (TX q cI cJ cZ 1 16 bp) w1 ∧ Sm [42, 43, 44, 45, 46, 47, 48, 49, 50, 51, 52, 53, 54, 55] [(42, 0), (42, 1), (42, 2)] w w1 ∧ M_X11_look (vw w) 0 (vw w1)) := by
  refine eQ_v rfl (by decide) (Nat.le_of_ble_eq_true rfl) ⟨rfl, rfl⟩ ?_
  intro p e R s m args below meth c A Q hx hb hml hown hts hK hE hA hR hret hP hD hS ls hl
  have hown : s.vm.findClass RX11 = some m.cls := hown
  have hl : lv_has ls 1 [(0, .ref (q 0))] := hl
  refine lv_aload_n hx hb dX11_look_0 rfl (lv_at hl 0 rfl) ?_
  refine gt_X11 hx hb hts hown hK hP 0 (hW_w.o tX_0) 5 (by decide) wd_678 rfl (hW_w.fr tX_0 rfl) dX11_look_1 ?_
  refine lv_aload_n hx hb dX11_look_4 rfl (lv_at hl 0 rfl) ?_
  refine gt_X11 hx hb hts hown hK hP 0 (hW_w.o tX_0) 4 (by decide) wd_677 rfl (hW_w.fr tX_0 rfl) dX11_look_5 ?_
  refine lv_aload_n hx hb dX11_look_8 rfl (lv_at hl 0 rfl) ?_
  refine kW_i ⟨rfl, rfl⟩ hP hD hS hA (rW_V (As := []) (rest := [.ref (q 35), .ref (q 42)]) hx hb hml hown hts hK hE hP hD (e_X11_actNow l D cI cJ cZ q bp w hW_w  _) ⟨⟨rfl, rfl⟩, rfl, rfl⟩ sv_X11_203 ⟨(Nat.le_trans (by decide) hR.1), (Nat.le_trans (by decide) hR.2)⟩ 0 11 (hW_w.o tX_0) rfl rfl rfl hl.1 rfl (Nat.le_of_ble_eq_true rfl) dX11_look_9) (fun r_2 w_1 H locs hw_w_1 hP hD hS => ?_)
  obtain ⟨hW_w_1, hs_w_1, i_r_2, hm_3⟩ := hw_w_1
  refine kW_v ⟨rfl, rfl⟩ hP hD hS hA (rW_V (As := [.ref (q 35), .int r_2]) (rest := []) hx hb hml hown hts hK hE hP hD (e_X6_look_35 l D cI cJ cZ q 1 16 bp w_1 hW_w_1 r_2 i_r_2 (LD_cg (hs_w_1.hA (by decide)) (hs_w_1.hA (by decide)) hLD) _) ⟨⟨rfl, rfl⟩, rfl, rfl⟩ sv_X11_347 ⟨(Nat.le_trans (by decide) hR.1), (Nat.le_trans (by decide) hR.2)⟩ 42 6 (hW_w_1.o tX_42) rfl rfl rfl hl.1 rfl (Nat.le_of_ble_eq_true rfl) dX11_look_12) (fun w_4 H locs hw_w_4 hP hD hS => ?_)
  obtain ⟨hW_w_4, hs_w_4, hm_6⟩ := hw_w_4
  exact hret _ _ _ _ _ hP hD hS dX11_look_15 ⟨hW_w_4, ((Sm.rf.tr hs_w_1 (by decide)).tr hs_w_4 (by decide)), (mk_X11_look (And.intro (tyX hW_w) (Exists.intro r_2.toInt (Exists.intro (vw w_1) (And.intro hm_3 (And.intro (hs_w_1.Fr hW_w hW_w_1 intsX_ok intsX_ok) (And.intro (tyX hW_w_1) (And.intro i_r_2 (Exists.intro (vw w_4) (And.intro (cgM_1 hm_6 (rfl : (r_2 : Int32).toInt = _)) (And.intro (hs_w_4.Fr hW_w_1 hW_w_4 intsX_ok intsX_ok) (And.intro (tyX hW_w_4) (And.intro rfl rfl)))))))))))))⟩
set_option maxRecDepth 100000 in
set_option maxHeartbeats 8000000 in
theorem e_X6_areAlike (l : Launch) (D : va_G) (cI cJ cZ : ClassId) (q : Nat → Nat) (bb bs bp : Nat) (w : va_W) (hW_w : HT q (TX q cI cJ cZ bb bs bp) w) (p1 : Int32) (p2 : Int32) (i_p1 : In 1 39 p1) (i_p2 : In 0 39 p2) (hf_42_2 : In 1 40 (fI w 42 2)) : Con_i l yX6_areAlike cX6_areAlike 3 (some .boolean) ({ frames := 0, cells := 0, slots := 0, locals := 0 }) D cI cJ cZ eW [.ref (q 42), .int p1, .int p2] w (fun (r : Int32) (w1 : va_W) => HT q (TX q cI cJ cZ bb bs bp) w1 ∧ Sm [] [] w w1 ∧ In 0 1 r ∧ M_X6_areAlike (vw w) p1.toInt p2.toInt r.toInt (vw w1)) := by
  refine eQ_z rfl (by decide) (Nat.le_of_ble_eq_true rfl) ⟨rfl, rfl⟩ ?_
  intro p e R s m args below meth c A Q hx hb hml hown hts hK hE hA hR hret hP hD hS ls hl
  have hown : s.vm.findClass RX6 = some m.cls := hown
  have hl : lv_has ls 3 [(0, .ref (q 42)), (1, .int p1), (2, .int p2)] := hl
  refine lv_aload_n hx hb dX6_areAlike_0 rfl (lv_at hl 0 rfl) ?_
  refine gt_X6 hx hb hts hown hK hP 42 (hW_w.o tX_42) 8 (by decide) wd_307 rfl (hW_w.fr tX_42 rfl) dX6_areAlike_1 ?_
  refine lv_iload_n hx hb dX6_areAlike_4 rfl (lv_at hl 1 rfl) ?_
  refine va_iald hx hb hK hP 48 0 (hW_w.a tX_48) rfl (in_I i_p1 (by decide)) dX6_areAlike_5 ?_
  refine lv_topi (fun v_1 ev_1 => ?_)
  refine lv_if_eq (tgt := 58) hx hb dX6_areAlike_6 (by decide) (fun c_2 => ?_) (fun c_2 => ?_)
  · refine lv_iconst (v := 0) hx hb dX6_areAlike_58 (by decide) ?_
    exact hret _ _ _ _ _ _ hP hD hS dX6_areAlike_59 (In_lit (n := 0) (by decide) (by decide) : In 0 1 0) ⟨hW_w, Sm.rf, (In_lit (n := 0) (by decide) (by decide) : In 0 1 0), (mk_X6_areAlike (And.intro (tyX hW_w) (And.intro i_p1 (And.intro i_p2 (Or.inl (And.intro (z_eq c_2 (z_of ev_1 ((hW_w.va tX_48 _).trans (congrArg (vw w 48) (z_ix (rfl : (p1 : Int32).toInt = _))))) (show (0 : Int32).toInt = 0 from by decide)) (And.intro (show (0 : Int32).toInt = 0 from by decide) rfl)))))))⟩
  · refine lv_aload_n hx hb dX6_areAlike_9 rfl (lv_at hl 0 rfl) ?_
    refine gt_X6 hx hb hts hown hK hP 42 (hW_w.o tX_42) 8 (by decide) wd_307 rfl (hW_w.fr tX_42 rfl) dX6_areAlike_10 ?_
    refine lv_iload_n hx hb dX6_areAlike_13 rfl (lv_at hl 1 rfl) ?_
    refine va_iald hx hb hK hP 48 0 (hW_w.a tX_48) rfl (in_I i_p1 (by decide)) dX6_areAlike_14 ?_
    refine tov (v := v_1) ev_1.symm ?_
    refine lv_aload_n hx hb dX6_areAlike_15 rfl (lv_at hl 0 rfl) ?_
    refine gt_X6 hx hb hts hown hK hP 42 (hW_w.o tX_42) 8 (by decide) wd_307 rfl (hW_w.fr tX_42 rfl) dX6_areAlike_16 ?_
    refine lv_iload_n hx hb dX6_areAlike_19 rfl (lv_at hl 2 rfl) ?_
    refine va_iald hx hb hK hP 48 0 (hW_w.a tX_48) rfl (in_I i_p2 (by decide)) dX6_areAlike_20 ?_
    refine lv_topi (fun v_3 ev_3 => ?_)
    refine lv_icmp_ne (tgt := 58) hx hb dX6_areAlike_21 (by decide) (fun c_4 => ?_) (fun c_4 => ?_)
    · refine lv_iconst (v := 0) hx hb dX6_areAlike_58 (by decide) ?_
      exact hret _ _ _ _ _ _ hP hD hS dX6_areAlike_59 (In_lit (n := 0) (by decide) (by decide) : In 0 1 0) ⟨hW_w, Sm.rf, (In_lit (n := 0) (by decide) (by decide) : In 0 1 0), (mk_X6_areAlike (And.intro (tyX hW_w) (And.intro i_p1 (And.intro i_p2 (Or.inr (And.intro (z_neq c_2 (z_of ev_1 ((hW_w.va tX_48 _).trans (congrArg (vw w 48) (z_ix (rfl : (p1 : Int32).toInt = _))))) (show (0 : Int32).toInt = 0 from by decide)) (Or.inr (And.intro (z_neq c_4 (z_of ev_1 ((hW_w.va tX_48 _).trans (congrArg (vw w 48) (z_ix (rfl : (p1 : Int32).toInt = _))))) (z_of ev_3 ((hW_w.va tX_48 _).trans (congrArg (vw w 48) (z_ix (rfl : (p2 : Int32).toInt = _)))))) (And.intro (show (0 : Int32).toInt = 0 from by decide) rfl)))))))))⟩
    · refine lv_aload_n hx hb dX6_areAlike_24 rfl (lv_at hl 0 rfl) ?_
      refine gt_X6 hx hb hts hown hK hP 42 (hW_w.o tX_42) 7 (by decide) wd_305 rfl (hW_w.fr tX_42 rfl) dX6_areAlike_25 ?_
      refine lv_iload_n hx hb dX6_areAlike_28 rfl (lv_at hl 1 rfl) ?_
      refine va_iald hx hb hK hP 47 0 (hW_w.a tX_47) rfl (in_I i_p1 (by decide)) dX6_areAlike_29 ?_
      refine lv_topi (fun v_5 ev_5 => ?_)
      refine lv_aload_n hx hb dX6_areAlike_30 rfl (lv_at hl 0 rfl) ?_
      refine gt_X6 hx hb hts hown hK hP 42 (hW_w.o tX_42) 7 (by decide) wd_305 rfl (hW_w.fr tX_42 rfl) dX6_areAlike_31 ?_
      refine lv_iload_n hx hb dX6_areAlike_34 rfl (lv_at hl 2 rfl) ?_
      refine va_iald hx hb hK hP 47 0 (hW_w.a tX_47) rfl (in_I i_p2 (by decide)) dX6_areAlike_35 ?_
      refine lv_topi (fun v_6 ev_6 => ?_)
      refine lv_icmp_ne (tgt := 58) hx hb dX6_areAlike_36 (by decide) (fun c_7 => ?_) (fun c_7 => ?_)
      · refine lv_iconst (v := 0) hx hb dX6_areAlike_58 (by decide) ?_
        exact hret _ _ _ _ _ _ hP hD hS dX6_areAlike_59 (In_lit (n := 0) (by decide) (by decide) : In 0 1 0) ⟨hW_w, Sm.rf, (In_lit (n := 0) (by decide) (by decide) : In 0 1 0), (mk_X6_areAlike (And.intro (tyX hW_w) (And.intro i_p1 (And.intro i_p2 (Or.inr (And.intro (z_neq c_2 (z_of ev_1 ((hW_w.va tX_48 _).trans (congrArg (vw w 48) (z_ix (rfl : (p1 : Int32).toInt = _))))) (show (0 : Int32).toInt = 0 from by decide)) (Or.inl (And.intro (z_eq c_4 (z_of ev_1 ((hW_w.va tX_48 _).trans (congrArg (vw w 48) (z_ix (rfl : (p1 : Int32).toInt = _))))) (z_of ev_3 ((hW_w.va tX_48 _).trans (congrArg (vw w 48) (z_ix (rfl : (p2 : Int32).toInt = _)))))) (Or.inr (And.intro (z_neq c_7 (z_of ev_5 ((hW_w.va tX_47 _).trans (congrArg (vw w 47) (z_ix (rfl : (p1 : Int32).toInt = _))))) (z_of ev_6 ((hW_w.va tX_47 _).trans (congrArg (vw w 47) (z_ix (rfl : (p2 : Int32).toInt = _)))))) (And.intro (show (0 : Int32).toInt = 0 from by decide) rfl)))))))))))⟩
      · refine lv_aload_n hx hb dX6_areAlike_39 rfl (lv_at hl 0 rfl) ?_
        refine gt_X6 hx hb hts hown hK hP 42 (hW_w.o tX_42) 4 (by decide) wd_298 rfl (hW_w.fr tX_42 rfl) dX6_areAlike_40 ?_
        refine lv_iload_n hx hb dX6_areAlike_43 rfl (lv_at hl 1 rfl) ?_
        refine va_iald hx hb hK hP 44 0 (hW_w.a tX_44) rfl (in_I i_p1 (by decide)) dX6_areAlike_44 ?_
        refine lv_topi (fun v_8 ev_8 => ?_)
        refine lv_aload_n hx hb dX6_areAlike_45 rfl (lv_at hl 0 rfl) ?_
        refine gt_X6 hx hb hts hown hK hP 42 (hW_w.o tX_42) 4 (by decide) wd_298 rfl (hW_w.fr tX_42 rfl) dX6_areAlike_46 ?_
        refine lv_iload_n hx hb dX6_areAlike_49 rfl (lv_at hl 2 rfl) ?_
        refine va_iald hx hb hK hP 44 0 (hW_w.a tX_44) rfl (in_I i_p2 (by decide)) dX6_areAlike_50 ?_
        refine lv_topi (fun v_9 ev_9 => ?_)
        refine lv_icmp_ne (tgt := 58) hx hb dX6_areAlike_51 (by decide) (fun c_10 => ?_) (fun c_10 => ?_)
        · refine lv_iconst (v := 0) hx hb dX6_areAlike_58 (by decide) ?_
          exact hret _ _ _ _ _ _ hP hD hS dX6_areAlike_59 (In_lit (n := 0) (by decide) (by decide) : In 0 1 0) ⟨hW_w, Sm.rf, (In_lit (n := 0) (by decide) (by decide) : In 0 1 0), (mk_X6_areAlike (And.intro (tyX hW_w) (And.intro i_p1 (And.intro i_p2 (Or.inr (And.intro (z_neq c_2 (z_of ev_1 ((hW_w.va tX_48 _).trans (congrArg (vw w 48) (z_ix (rfl : (p1 : Int32).toInt = _))))) (show (0 : Int32).toInt = 0 from by decide)) (Or.inl (And.intro (z_eq c_4 (z_of ev_1 ((hW_w.va tX_48 _).trans (congrArg (vw w 48) (z_ix (rfl : (p1 : Int32).toInt = _))))) (z_of ev_3 ((hW_w.va tX_48 _).trans (congrArg (vw w 48) (z_ix (rfl : (p2 : Int32).toInt = _)))))) (Or.inl (And.intro (z_eq c_7 (z_of ev_5 ((hW_w.va tX_47 _).trans (congrArg (vw w 47) (z_ix (rfl : (p1 : Int32).toInt = _))))) (z_of ev_6 ((hW_w.va tX_47 _).trans (congrArg (vw w 47) (z_ix (rfl : (p2 : Int32).toInt = _)))))) (Or.inr (And.intro (z_neq c_10 (z_of ev_8 ((hW_w.va tX_44 _).trans (congrArg (vw w 44) (z_ix (rfl : (p1 : Int32).toInt = _))))) (z_of ev_9 ((hW_w.va tX_44 _).trans (congrArg (vw w 44) (z_ix (rfl : (p2 : Int32).toInt = _)))))) (And.intro (show (0 : Int32).toInt = 0 from by decide) rfl)))))))))))))⟩
        · refine lv_iconst (v := 1) hx hb dX6_areAlike_54 (by decide) ?_
          refine lv_goto (tgt := 59) hx hb dX6_areAlike_55 (by decide) ?_
          exact hret _ _ _ _ _ _ hP hD hS dX6_areAlike_59 (In_lit (n := 1) (by decide) (by decide) : In 0 1 1) ⟨hW_w, Sm.rf, (In_lit (n := 1) (by decide) (by decide) : In 0 1 1), (mk_X6_areAlike (And.intro (tyX hW_w) (And.intro i_p1 (And.intro i_p2 (Or.inr (And.intro (z_neq c_2 (z_of ev_1 ((hW_w.va tX_48 _).trans (congrArg (vw w 48) (z_ix (rfl : (p1 : Int32).toInt = _))))) (show (0 : Int32).toInt = 0 from by decide)) (Or.inl (And.intro (z_eq c_4 (z_of ev_1 ((hW_w.va tX_48 _).trans (congrArg (vw w 48) (z_ix (rfl : (p1 : Int32).toInt = _))))) (z_of ev_3 ((hW_w.va tX_48 _).trans (congrArg (vw w 48) (z_ix (rfl : (p2 : Int32).toInt = _)))))) (Or.inl (And.intro (z_eq c_7 (z_of ev_5 ((hW_w.va tX_47 _).trans (congrArg (vw w 47) (z_ix (rfl : (p1 : Int32).toInt = _))))) (z_of ev_6 ((hW_w.va tX_47 _).trans (congrArg (vw w 47) (z_ix (rfl : (p2 : Int32).toInt = _)))))) (Or.inl (And.intro (z_eq c_10 (z_of ev_8 ((hW_w.va tX_44 _).trans (congrArg (vw w 44) (z_ix (rfl : (p1 : Int32).toInt = _))))) (z_of ev_9 ((hW_w.va tX_44 _).trans (congrArg (vw w 44) (z_ix (rfl : (p2 : Int32).toInt = _)))))) (And.intro (show (1 : Int32).toInt = 1 from by decide) rfl)))))))))))))⟩
set_option maxRecDepth 100000 in
set_option maxHeartbeats 8000000 in
theorem e_X6_doubts (l : Launch) (D : va_G) (cI cJ cZ : ClassId) (q : Nat → Nat) (bb bs bp : Nat) (w : va_W) (hW_w : HT q (TX q cI cJ cZ bb bs bp) w) : Con_i l yX6_doubts cX6_doubts 4 (some .int) ({ frames := 1, cells := 0, slots := 0, locals := 22 }) D cI cJ cZ eW [.ref (q 42)] w (fun (r : Int32) (w1 : va_W) => HT q (TX q cI cJ cZ bb bs bp) w1 ∧ Sm [] [] w w1 ∧ M_X6_doubts (vw w) r.toInt (vw w1)) := by
  refine eQ_i rfl (by decide) (Nat.le_of_ble_eq_true rfl) ⟨rfl, rfl⟩ ?_
  intro p e R s m args below meth c A Q hx hb hml hown hts hK hE hA hR hret hP hD hS ls hl
  have hown : s.vm.findClass RX6 = some m.cls := hown
  have hl : lv_has ls 4 [(0, .ref (q 42))] := hl
  have J4 : ∀ (N : Nat) (x4_1 : Int32) (x4_2 : Int32) (w4 : va_W) (H : Heap) (locs : List Loc) (ls : Array Slot), (40 - x4_2.toInt).toNat < N → HT q (TX q cI cJ cZ bb bs bp) w4 → Sm [] [] w w4 → (In 0 40 x4_2) → (∀ (n : Nat) (r : Int) (t : PS), It_X6_doubts n 4 x4_1.toInt x4_2.toInt 0 (vw w4) r t → M_X6_doubts (vw w) r t) → va_P D vwCl w4 H → va_D A w4 → va_S A s.heap H locs → lv_has ls 4 [(0, .ref (q 42)), (1, .int x4_1), (2, .int x4_2)] → W p l e R s m args below meth c H locs 0 0 Q (F0 m 4 ls []) := by
    intro N
    induction N with
    | zero => intro x4_1 x4_2 w4 H locs ls hmu; exact absurd hmu (Nat.not_lt_zero _)
    | succ N ih4 =>
      intro x4_1 x4_2 w4 H locs ls hmu4 hW_w4 hM_w4 i_x4_2 hmi_4 hP hD hS hl
      have J14 : ∀ (N : Nat) (x14_1 : Int32) (x14_3 : Int32) (w14 : va_W) (H : Heap) (locs : List Loc) (ls : Array Slot), (39 - x14_3.toInt).toNat < N → HT q (TX q cI cJ cZ bb bs bp) w14 → Sm [] [] w w14 → (In 0 39 x4_2) → (In 0 39 x14_3) → (In 1 40 (fI w14 42 2)) → (∀ (n : Nat) (r : Int) (t : PS), It_X6_doubts n 14 x14_1.toInt x4_2.toInt x14_3.toInt (vw w14) r t → M_X6_doubts (vw w) r t) → va_P D vwCl w14 H → va_D A w14 → va_S A s.heap H locs → lv_has ls 4 [(0, .ref (q 42)), (1, .int x14_1), (2, .int x4_2), (3, .int x14_3)] → W p l e R s m args below meth c H locs 0 0 Q (F0 m 14 ls []) := by
        intro N
        induction N with
        | zero => intro x14_1 x14_3 w14 H locs ls hmu; exact absurd hmu (Nat.not_lt_zero _)
        | succ N ih14 =>
          intro x14_1 x14_3 w14 H locs ls hmu14 hW_w14 hM_w14 i_x14_2 i_x14_3 g14_42_2 hmi_14 hP hD hS hl
          have J49 : ∀ (x49_1 : Int32) (w49 : va_W) (H : Heap) (locs : List Loc) (ls : Array Slot), HT q (TX q cI cJ cZ bb bs bp) w49 → Sm [] [] w w49 → (In 1 39 x4_2) → (In 0 38 x14_3) → (In 1 40 (fI w49 42 2)) → (∀ (n : Nat) (r : Int) (t : PS), It_X6_doubts n 49 x49_1.toInt x4_2.toInt x14_3.toInt (vw w49) r t → M_X6_doubts (vw w) r t) → va_P D vwCl w49 H → va_D A w49 → va_S A s.heap H locs → lv_has ls 4 [(0, .ref (q 42)), (1, .int x49_1), (2, .int x4_2), (3, .int x14_3)] → W p l e R s m args below meth c H locs 0 0 Q (F0 m 49 ls []) := by
            intro x49_1 w49 H locs ls hW_w49 hM_w49 i_x49_2 i_x49_3 g49_42_2 hmi_49 hP hD hS hl
            refine lv_iinc (v := (x14_3 + 1)) (lv' := [(3, .int (x14_3 + 1)), (0, .ref (q 42)), (1, .int x49_1), (2, .int x4_2)]) hx hb dX6_doubts_49 hl (k := 3) rfl (rfl) (by decide) rfl (fun ls hl => ?_)
            refine lv_goto (tgt := 14) hx hb dX6_doubts_52 (by decide) ?_
            exact ih14 x49_1 (x14_3 + 1) w49 _ _ ls (mu_inc hmu14 i_x49_3 (In_lit (n := 1) (by decide) (by decide) : In 1 1 1) (by decide)) hW_w49 hM_w49 (In_w i_x49_2 (by decide) : In 0 39 x4_2) (In_w ((In_add (y := 1) i_x49_3 (In_lit (n := 1) (by decide) (by decide) : In 1 1 1) (by decide)) : In 1 39 (x14_3 + 1)) (by decide) : In 0 39 (x14_3 + 1)) (In_of (hM_w49.gI (by decide)) (In_of (hM_w49.gI (by decide)).symm g49_42_2)) (fun n r t hk => (hmi_49 (n + 1) r t (rl_X6_doubts_49 (n := n) (And.intro (tyX hW_w49) (And.intro i_x49_2 (And.intro i_x49_3 (cgK_3 hk (rfl : (x49_1 : Int32).toInt = _) (rfl : (x4_2 : Int32).toInt = _) (z_add (t_add i_x49_3 (In_lit (n := 1) (by decide) (by decide) : In 1 1 1) (by decide)) (rfl : (x14_3 : Int32).toInt = _) (show (1 : Int32).toInt = 1 from by decide))))))))) hP hD hS (lv_sub hl [1, 2, 3, 0] rfl)
          have J37 : ∀ (w37 : va_W) (H : Heap) (locs : List Loc) (ls : Array Slot), HT q (TX q cI cJ cZ bb bs bp) w37 → Sm [] [] w w37 → (In 1 39 x4_2) → (In 0 38 x14_3) → (In 1 40 (fI w37 42 2)) → (∀ (n : Nat) (r : Int) (t : PS), It_X6_doubts n 37 x14_1.toInt x4_2.toInt x14_3.toInt (vw w37) r t → M_X6_doubts (vw w) r t) → va_P D vwCl w37 H → va_D A w37 → va_S A s.heap H locs → lv_has ls 4 [(0, .ref (q 42)), (1, .int x14_1), (2, .int x4_2), (3, .int x14_3)] → W p l e R s m args below meth c H locs 0 0 Q (F0 m 37 ls []) := by
            intro w37 H locs ls hW_w37 hM_w37 i_x37_2 i_x37_3 g37_42_2 hmi_37 hP hD hS hl
            refine lv_aload_n hx hb dX6_doubts_37 rfl (lv_at hl 0 rfl) ?_
            refine lv_iload_n hx hb dX6_doubts_38 rfl (lv_at hl 2 rfl) ?_
            refine lv_iload_n hx hb dX6_doubts_39 rfl (lv_at hl 3 rfl) ?_
            refine kW_i ⟨rfl, rfl⟩ hP hD hS hA (rW_V (As := [.int x4_2, .int x14_3]) (rest := []) hx hb hml hown hts hK hE hP hD (e_X6_areAlike l D cI cJ cZ q bb bs bp w37 hW_w37 x4_2 x14_3 i_x37_2 (In_w i_x37_3 (by decide) : In 0 39 x14_3) (In_of (hM_w37.gI (by decide)) (In_of (hM_w37.gI (by decide)).symm g37_42_2)) _) ⟨⟨rfl, rfl⟩, rfl, rfl⟩ sv_X6_111 ⟨(Nat.le_trans (by decide) hR.1), (Nat.le_trans (by decide) hR.2)⟩ 42 6 (hW_w37.o tX_42) rfl rfl rfl hl.1 rfl (Nat.le_of_ble_eq_true rfl) dX6_doubts_40) (fun r_2 w_1 H locs hw_w_1 hP hD hS => ?_)
            obtain ⟨hW_w_1, hs_w_1, i_r_2, hm_3⟩ := hw_w_1
            refine lv_if_eq (tgt := 49) hx hb dX6_doubts_43 (by decide) (fun c_4 => ?_) (fun c_4 => ?_)
            · exact J49 x14_1 w_1 _ _ ls hW_w_1 (hM_w37.tr hs_w_1 (by decide)) i_x37_2 i_x37_3 (In_of ((hs_w_1.gI (by decide)).trans (hM_w37.gI (by decide))) (In_of (hM_w37.gI (by decide)).symm g37_42_2)) (fun n r t hk => (hmi_37 (n + 1) r t (rl_X6_doubts_37 (n := n) (And.intro (tyX hW_w37) (And.intro i_x37_2 (And.intro i_x37_3 (Exists.intro r_2.toInt (Exists.intro (vw w_1) (And.intro (cgM_2 hm_3 (rfl : (x4_2 : Int32).toInt = _) (rfl : (x14_3 : Int32).toInt = _)) (And.intro (hs_w_1.Fr hW_w37 hW_w_1 intsX_ok intsX_ok) (And.intro (tyX hW_w_1) (And.intro i_r_2 (Or.inl (And.intro (z_eq c_4 (rfl : (r_2 : Int32).toInt = _) (show (0 : Int32).toInt = 0 from by decide)) (cgK_3 hk (rfl : (x14_1 : Int32).toInt = _) (rfl : (x4_2 : Int32).toInt = _) (rfl : (x14_3 : Int32).toInt = _)))))))))))))))) hP hD hS (lv_sub hl [0, 1, 2, 3] rfl)
            · refine lv_iinc (v := (x14_1 + 1)) (lv' := [(1, .int (x14_1 + 1)), (0, .ref (q 42)), (2, .int x4_2), (3, .int x14_3)]) hx hb dX6_doubts_46 hl (k := 1) rfl (rfl) (by decide) rfl (fun ls hl => ?_)
              exact J49 (x14_1 + 1) w_1 _ _ ls hW_w_1 (hM_w37.tr hs_w_1 (by decide)) i_x37_2 i_x37_3 (In_of ((hs_w_1.gI (by decide)).trans (hM_w37.gI (by decide))) (In_of (hM_w37.gI (by decide)).symm g37_42_2)) (fun n r t hk => (hmi_37 (n + 1) r t (rl_X6_doubts_37 (n := n) (And.intro (tyX hW_w37) (And.intro i_x37_2 (And.intro i_x37_3 (Exists.intro r_2.toInt (Exists.intro (vw w_1) (And.intro (cgM_2 hm_3 (rfl : (x4_2 : Int32).toInt = _) (rfl : (x14_3 : Int32).toInt = _)) (And.intro (hs_w_1.Fr hW_w37 hW_w_1 intsX_ok intsX_ok) (And.intro (tyX hW_w_1) (And.intro i_r_2 (Or.inr (And.intro (z_neq c_4 (rfl : (r_2 : Int32).toInt = _) (show (0 : Int32).toInt = 0 from by decide)) (cgK_3 hk (z_addw (rfl : (x14_1 : Int32).toInt = _) (show (1 : Int32).toInt = 1 from by decide)) (rfl : (x4_2 : Int32).toInt = _) (rfl : (x14_3 : Int32).toInt = _)))))))))))))))) hP hD hS (lv_sub hl [1, 0, 2, 3] rfl)
          refine lv_iload_n hx hb dX6_doubts_14 rfl (lv_at hl 3 rfl) ?_
          refine lv_iload_n hx hb dX6_doubts_15 rfl (lv_at hl 2 rfl) ?_
          refine lv_icmp_ge (tgt := 55) hx hb dX6_doubts_16 (by decide) (fun c_5 => ?_) (fun c_5 => ?_)
          · refine lv_iinc (v := (x4_2 + 1)) (lv' := [(2, .int (x4_2 + 1)), (0, .ref (q 42)), (1, .int x14_1), (3, .int x14_3)]) hx hb dX6_doubts_55 hl (k := 2) rfl (rfl) (by decide) rfl (fun ls hl => ?_)
            refine lv_goto (tgt := 4) hx hb dX6_doubts_58 (by decide) ?_
            exact ih4 x14_1 (x4_2 + 1) w14 _ _ ls (mu_inc hmu4 i_x14_2 (In_lit (n := 1) (by decide) (by decide) : In 1 1 1) (by decide)) hW_w14 hM_w14 (In_w ((In_add (y := 1) i_x14_2 (In_lit (n := 1) (by decide) (by decide) : In 1 1 1) (by decide)) : In 1 40 (x4_2 + 1)) (by decide) : In 0 40 (x4_2 + 1)) (fun n r t hk => (hmi_14 (n + 1) r t (rl_X6_doubts_14 (n := n) (And.intro (tyX hW_w14) (And.intro i_x14_2 (And.intro i_x14_3 (Or.inl (And.intro (z_le c_5 (rfl : (x4_2 : Int32).toInt = _) (rfl : (x14_3 : Int32).toInt = _)) (cgK_3 hk (rfl : (x14_1 : Int32).toInt = _) (z_add (t_add i_x14_2 (In_lit (n := 1) (by decide) (by decide) : In 1 1 1) (by decide)) (rfl : (x4_2 : Int32).toInt = _) (show (1 : Int32).toInt = 1 from by decide)) rfl))))))))) hP hD hS (lv_sub hl [1, 2, 0] rfl)
          · refine lv_aload_n hx hb dX6_doubts_19 rfl (lv_at hl 0 rfl) ?_
            refine gt_X6 hx hb hts hown hK hP 42 (hW_w14.o tX_42) 3 (by decide) wd_297 rfl (hW_w14.fr tX_42 rfl) dX6_doubts_20 ?_
            refine lv_iload_n hx hb dX6_doubts_23 rfl (lv_at hl 2 rfl) ?_
            refine va_iald hx hb hK hP 43 0 (hW_w14.a tX_43) rfl (in_I (R_nle_l i_x14_2 i_x14_3 c_5 (by decide) : In 1 39 x4_2) (by decide)) dX6_doubts_24 ?_
            refine lv_topi (fun v_6 ev_6 => ?_)
            refine lv_if_eq (tgt := 37) hx hb dX6_doubts_25 (by decide) (fun c_7 => ?_) (fun c_7 => ?_)
            · exact J37 w14 _ _ ls hW_w14 hM_w14 (R_nle_l i_x14_2 i_x14_3 c_5 (by decide) : In 1 39 x4_2) (R_nle_r i_x14_2 i_x14_3 c_5 (by decide) : In 0 38 x14_3) (In_of (hM_w14.gI (by decide)) (In_of (hM_w14.gI (by decide)).symm g14_42_2)) (fun n r t hk => (hmi_14 (n + 1) r t (rl_X6_doubts_14 (n := n) (And.intro (tyX hW_w14) (And.intro i_x14_2 (And.intro i_x14_3 (Or.inr (And.intro (z_nle c_5 (rfl : (x4_2 : Int32).toInt = _) (rfl : (x14_3 : Int32).toInt = _)) (Or.inl (And.intro (z_eq c_7 (z_of ev_6 ((hW_w14.va tX_43 _).trans (congrArg (vw w14 43) (z_ix (rfl : (x4_2 : Int32).toInt = _))))) (show (0 : Int32).toInt = 0 from by decide)) (cgK_3 hk (rfl : (x14_1 : Int32).toInt = _) (rfl : (x4_2 : Int32).toInt = _) (rfl : (x14_3 : Int32).toInt = _)))))))))))) hP hD hS (lv_sub hl [0, 1, 2, 3] rfl)
            · refine lv_aload_n hx hb dX6_doubts_28 rfl (lv_at hl 0 rfl) ?_
              refine gt_X6 hx hb hts hown hK hP 42 (hW_w14.o tX_42) 3 (by decide) wd_297 rfl (hW_w14.fr tX_42 rfl) dX6_doubts_29 ?_
              refine lv_iload_n hx hb dX6_doubts_32 rfl (lv_at hl 3 rfl) ?_
              refine va_iald hx hb hK hP 43 0 (hW_w14.a tX_43) rfl (in_I (R_nle_r i_x14_2 i_x14_3 c_5 (by decide) : In 0 38 x14_3) (by decide)) dX6_doubts_33 ?_
              refine lv_topi (fun v_8 ev_8 => ?_)
              refine lv_if_ne (tgt := 49) hx hb dX6_doubts_34 (by decide) (fun c_9 => ?_) (fun c_9 => ?_)
              · exact J49 x14_1 w14 _ _ ls hW_w14 hM_w14 (R_nle_l i_x14_2 i_x14_3 c_5 (by decide) : In 1 39 x4_2) (R_nle_r i_x14_2 i_x14_3 c_5 (by decide) : In 0 38 x14_3) (In_of (hM_w14.gI (by decide)) (In_of (hM_w14.gI (by decide)).symm g14_42_2)) (fun n r t hk => (hmi_14 (n + 1) r t (rl_X6_doubts_14 (n := n) (And.intro (tyX hW_w14) (And.intro i_x14_2 (And.intro i_x14_3 (Or.inr (And.intro (z_nle c_5 (rfl : (x4_2 : Int32).toInt = _) (rfl : (x14_3 : Int32).toInt = _)) (Or.inr (And.intro (z_neq c_7 (z_of ev_6 ((hW_w14.va tX_43 _).trans (congrArg (vw w14 43) (z_ix (rfl : (x4_2 : Int32).toInt = _))))) (show (0 : Int32).toInt = 0 from by decide)) (Or.inr (And.intro (z_neq c_9 (z_of ev_8 ((hW_w14.va tX_43 _).trans (congrArg (vw w14 43) (z_ix (rfl : (x14_3 : Int32).toInt = _))))) (show (0 : Int32).toInt = 0 from by decide)) (cgK_3 hk (rfl : (x14_1 : Int32).toInt = _) (rfl : (x4_2 : Int32).toInt = _) (rfl : (x14_3 : Int32).toInt = _)))))))))))))) hP hD hS (lv_sub hl [0, 1, 2, 3] rfl)
              · exact J37 w14 _ _ ls hW_w14 hM_w14 (R_nle_l i_x14_2 i_x14_3 c_5 (by decide) : In 1 39 x4_2) (R_nle_r i_x14_2 i_x14_3 c_5 (by decide) : In 0 38 x14_3) (In_of (hM_w14.gI (by decide)) (In_of (hM_w14.gI (by decide)).symm g14_42_2)) (fun n r t hk => (hmi_14 (n + 1) r t (rl_X6_doubts_14 (n := n) (And.intro (tyX hW_w14) (And.intro i_x14_2 (And.intro i_x14_3 (Or.inr (And.intro (z_nle c_5 (rfl : (x4_2 : Int32).toInt = _) (rfl : (x14_3 : Int32).toInt = _)) (Or.inr (And.intro (z_neq c_7 (z_of ev_6 ((hW_w14.va tX_43 _).trans (congrArg (vw w14 43) (z_ix (rfl : (x4_2 : Int32).toInt = _))))) (show (0 : Int32).toInt = 0 from by decide)) (Or.inl (And.intro (z_eq c_9 (z_of ev_8 ((hW_w14.va tX_43 _).trans (congrArg (vw w14 43) (z_ix (rfl : (x14_3 : Int32).toInt = _))))) (show (0 : Int32).toInt = 0 from by decide)) (cgK_3 hk (rfl : (x14_1 : Int32).toInt = _) (rfl : (x4_2 : Int32).toInt = _) (rfl : (x14_3 : Int32).toInt = _)))))))))))))) hP hD hS (lv_sub hl [0, 1, 2, 3] rfl)
      refine lv_iload_n hx hb dX6_doubts_4 rfl (lv_at hl 2 rfl) ?_
      refine lv_aload_n hx hb dX6_doubts_5 rfl (lv_at hl 0 rfl) ?_
      refine gt_X6 hx hb hts hown hK hP 42 (hW_w4.o tX_42) 2 (by decide) wd_295 rfl (hW_w4.fi tX_42 rfl) dX6_doubts_6 ?_
      refine tov (v := (fI w 42 2)) (hM_w4.gI (by decide)) ?_
      refine lv_icmp_ge (tgt := 61) hx hb dX6_doubts_9 (by decide) (fun c_10 => ?_) (fun c_10 => ?_)
      · refine lv_iload_n hx hb dX6_doubts_61 rfl (lv_at hl 1 rfl) ?_
        exact hret _ _ _ _ _ _ hP hD hS dX6_doubts_62 ⟨hW_w4, hM_w4, (hmi_4 (0 + 1) _ _ (rl_X6_doubts_4 (n := 0) (And.intro (tyX hW_w4) (And.intro i_x4_2 (Or.inl (And.intro (z_le c_10 (z_of (hM_w4.gI (by decide)).symm (hW_w4.vi tX_42 rfl)) (rfl : (x4_2 : Int32).toInt = _)) (And.intro (rfl : (x4_1 : Int32).toInt = _) rfl)))))))⟩
      · refine lv_iconst (v := 0) hx hb dX6_doubts_12 (by decide) ?_
        refine lv_istore_n (lv' := [(3, .int 0), (0, .ref (q 42)), (1, .int x4_1), (2, .int x4_2)]) hx hb dX6_doubts_13 rfl hl (by decide) rfl (fun ls hl => ?_)
        exact J14 _ x4_1 0 w4 _ _ ls (Nat.lt_succ_self _) hW_w4 hM_w4 (R_nle_r (hW_w.fin tX_42 rfl : In 0 40 (fI w 42 2)) i_x4_2 c_10 (by decide) : In 0 39 x4_2) (In_lit (n := 0) (by decide) (by decide) : In 0 39 0) (In_of (hM_w4.gI (by decide)) (R_nle_l (hW_w.fin tX_42 rfl : In 0 40 (fI w 42 2)) i_x4_2 c_10 (by decide) : In 1 40 (fI w 42 2))) (fun n r t hk => (hmi_4 (n + 1) r t (rl_X6_doubts_4 (n := n) (And.intro (tyX hW_w4) (And.intro i_x4_2 (Or.inr (And.intro (z_nle c_10 (z_of (hM_w4.gI (by decide)).symm (hW_w4.vi tX_42 rfl)) (rfl : (x4_2 : Int32).toInt = _)) (cgK_3 hk (rfl : (x4_1 : Int32).toInt = _) (rfl : (x4_2 : Int32).toInt = _) (show (0 : Int32).toInt = 0 from by decide))))))))) hP hD hS (lv_sub hl [1, 2, 3, 0] rfl)
  refine lv_iconst (v := 0) hx hb dX6_doubts_0 (by decide) ?_
  refine lv_istore_n (lv' := [(1, .int 0), (0, .ref (q 42))]) hx hb dX6_doubts_1 rfl hl (by decide) rfl (fun ls hl => ?_)
  refine lv_iconst (v := 0) hx hb dX6_doubts_2 (by decide) ?_
  refine lv_istore_n (lv' := [(2, .int 0), (1, .int 0), (0, .ref (q 42))]) hx hb dX6_doubts_3 rfl hl (by decide) rfl (fun ls hl => ?_)
  exact J4 _ 0 0 w _ _ ls (Nat.lt_succ_self _) hW_w Sm.rf (In_lit (n := 0) (by decide) (by decide) : In 0 40 0) (fun n r t hk => (mk_X6_doubts (n := n) (And.intro (tyX hW_w) (cgK_3 hk (show (0 : Int32).toInt = 0 from by decide) (show (0 : Int32).toInt = 0 from by decide) rfl)))) hP hD hS (lv_sub hl [2, 1, 0] rfl)
set_option maxRecDepth 100000 in
set_option maxHeartbeats 8000000 in
theorem e_X11_all (l : Launch) (D : va_G) (cI cJ cZ : ClassId) (q : Nat → Nat) (bp : Nat) (w : va_W) (hW_w : HT q (TX q cI cJ cZ 1 16 bp) w) (p1 : Int32) (hLD : LD w) : Con_i l yX11_all cX11_all 2 (some .int) ({ frames := 6, cells := 0, slots := 0, locals := 140 }) D cI cJ cZ eW [.ref (q 0), .int p1] w (fun (r : Int32) (w1 : va_W) => HT q (TX q cI cJ cZ 1 16 bp) w1 ∧ Sm [42, 43, 44, 45, 46, 47, 48, 49, 50, 51, 52, 53, 54, 55] [(42, 0), (42, 1), (42, 2)] w w1 ∧ M_X11_all (vw w) p1.toInt r.toInt (vw w1)) := by
  refine eQ_i rfl (by decide) (Nat.le_of_ble_eq_true rfl) ⟨rfl, rfl⟩ ?_
  intro p e R s m args below meth c A Q hx hb hml hown hts hK hE hA hR hret hP hD hS ls hl
  have hown : s.vm.findClass RX11 = some m.cls := hown
  have hl : lv_has ls 2 [(0, .ref (q 0)), (1, .int p1)] := hl
  refine lv_iload_n hx hb dX11_all_0 rfl (lv_at hl 1 rfl) ?_
  by_cases c_1 : p1 = 0
  · have c_1t : (p1 : Int32).toInt = 0 := by rw [c_1]; rfl
    refine lv_tableIn (tgt := 48) hx hb dX11_all_1 (by rw [c_1t]; decide) (by rw [c_1t]; decide) (off := 47) (by rw [c_1t]; rfl) (by decide) ?_
    refine lv_aload_n hx hb dX11_all_48 rfl (lv_at hl 0 rfl) ?_
    refine gt_X11 hx hb hts hown hK hP 0 (hW_w.o tX_0) 0 (by decide) wd_673 rfl (hW_w.fr tX_0 rfl) dX11_all_49 ?_
    refine gt_X1 hx hb hts hown hK hP 1 (hW_w.o tX_1) 0 (by decide) wd_39 rfl (hW_w.fi tX_1 rfl) dX11_all_52 ?_
    exact hret _ _ _ _ _ _ hP hD hS dX11_all_55 ⟨hW_w, Sm.rf, (mk_X11_all (And.intro (tyX hW_w) (Or.inl (And.intro (z_eq c_1 (rfl : (p1 : Int32).toInt = _) (show (0 : Int32).toInt = 0 from by decide)) (And.intro (hW_w.vi tX_1 rfl) rfl)))))⟩
  by_cases c_2 : p1 = 1
  · have c_2t : (p1 : Int32).toInt = 1 := by rw [c_2]; rfl
    refine lv_tableIn (tgt := 56) hx hb dX11_all_1 (by rw [c_2t]; decide) (by rw [c_2t]; decide) (off := 55) (by rw [c_2t]; rfl) (by decide) ?_
    refine lv_aload_n hx hb dX11_all_56 rfl (lv_at hl 0 rfl) ?_
    refine gt_X11 hx hb hts hown hK hP 0 (hW_w.o tX_0) 0 (by decide) wd_673 rfl (hW_w.fr tX_0 rfl) dX11_all_57 ?_
    refine gt_X1 hx hb hts hown hK hP 1 (hW_w.o tX_1) 5 (by decide) wd_55 rfl (hW_w.fi tX_1 rfl) dX11_all_60 ?_
    exact hret _ _ _ _ _ _ hP hD hS dX11_all_63 ⟨hW_w, Sm.rf, (mk_X11_all (And.intro (tyX hW_w) (Or.inr (And.intro (z_neq c_1 (rfl : (p1 : Int32).toInt = _) (show (0 : Int32).toInt = 0 from by decide)) (Or.inl (And.intro (z_eq c_2 (rfl : (p1 : Int32).toInt = _) (show (1 : Int32).toInt = 1 from by decide)) (And.intro (hW_w.vi tX_1 rfl) rfl)))))))⟩
  by_cases c_3 : p1 = 2
  · have c_3t : (p1 : Int32).toInt = 2 := by rw [c_3]; rfl
    refine lv_tableIn (tgt := 64) hx hb dX11_all_1 (by rw [c_3t]; decide) (by rw [c_3t]; decide) (off := 63) (by rw [c_3t]; rfl) (by decide) ?_
    refine lv_aload_n hx hb dX11_all_64 rfl (lv_at hl 0 rfl) ?_
    refine gt_X11 hx hb hts hown hK hP 0 (hW_w.o tX_0) 0 (by decide) wd_673 rfl (hW_w.fr tX_0 rfl) dX11_all_65 ?_
    refine gt_X1 hx hb hts hown hK hP 1 (hW_w.o tX_1) 8 (by decide) wd_65 rfl (hW_w.fi tX_1 rfl) dX11_all_68 ?_
    exact hret _ _ _ _ _ _ hP hD hS dX11_all_71 ⟨hW_w, Sm.rf, (mk_X11_all (And.intro (tyX hW_w) (Or.inr (And.intro (z_neq c_1 (rfl : (p1 : Int32).toInt = _) (show (0 : Int32).toInt = 0 from by decide)) (Or.inr (And.intro (z_neq c_2 (rfl : (p1 : Int32).toInt = _) (show (1 : Int32).toInt = 1 from by decide)) (Or.inl (And.intro (z_eq c_3 (rfl : (p1 : Int32).toInt = _) (show (2 : Int32).toInt = 2 from by decide)) (And.intro (hW_w.vi tX_1 rfl) rfl)))))))))⟩
  by_cases c_4 : p1 = 3
  · have c_4t : (p1 : Int32).toInt = 3 := by rw [c_4]; rfl
    refine lv_tableIn (tgt := 72) hx hb dX11_all_1 (by rw [c_4t]; decide) (by rw [c_4t]; decide) (off := 71) (by rw [c_4t]; rfl) (by decide) ?_
    refine lv_aload_n hx hb dX11_all_72 rfl (lv_at hl 0 rfl) ?_
    refine gt_X11 hx hb hts hown hK hP 0 (hW_w.o tX_0) 4 (by decide) wd_677 rfl (hW_w.fr tX_0 rfl) dX11_all_73 ?_
    refine gt_X7 hx hb hts hown hK hP 35 (hW_w.o tX_35) 0 (by decide) wd_252 rfl (hW_w.fi tX_35 rfl) dX11_all_76 ?_
    exact hret _ _ _ _ _ _ hP hD hS dX11_all_79 ⟨hW_w, Sm.rf, (mk_X11_all (And.intro (tyX hW_w) (Or.inr (And.intro (z_neq c_1 (rfl : (p1 : Int32).toInt = _) (show (0 : Int32).toInt = 0 from by decide)) (Or.inr (And.intro (z_neq c_2 (rfl : (p1 : Int32).toInt = _) (show (1 : Int32).toInt = 1 from by decide)) (Or.inr (And.intro (z_neq c_3 (rfl : (p1 : Int32).toInt = _) (show (2 : Int32).toInt = 2 from by decide)) (Or.inl (And.intro (z_eq c_4 (rfl : (p1 : Int32).toInt = _) (show (3 : Int32).toInt = 3 from by decide)) (And.intro (hW_w.vi tX_35 rfl) rfl)))))))))))⟩
  by_cases c_5 : p1 = 4
  · have c_5t : (p1 : Int32).toInt = 4 := by rw [c_5]; rfl
    refine lv_tableIn (tgt := 80) hx hb dX11_all_1 (by rw [c_5t]; decide) (by rw [c_5t]; decide) (off := 79) (by rw [c_5t]; rfl) (by decide) ?_
    refine lv_aload_n hx hb dX11_all_80 rfl (lv_at hl 0 rfl) ?_
    refine kW_i ⟨rfl, rfl⟩ hP hD hS hA (rW_V (As := []) (rest := []) hx hb hml hown hts hK hE hP hD (e_X11_actNow l D cI cJ cZ q bp w hW_w  _) ⟨⟨rfl, rfl⟩, rfl, rfl⟩ sv_X11_203 ⟨(Nat.le_trans (by decide) hR.1), (Nat.le_trans (by decide) hR.2)⟩ 0 11 (hW_w.o tX_0) rfl rfl rfl hl.1 rfl (Nat.le_of_ble_eq_true rfl) dX11_all_81) (fun r_7 w_6 H locs hw_w_6 hP hD hS => ?_)
    obtain ⟨hW_w_6, hs_w_6, i_r_7, hm_8⟩ := hw_w_6
    exact hret _ _ _ _ _ _ hP hD hS dX11_all_84 ⟨hW_w_6, (Sm.rf.tr hs_w_6 (by decide)), (mk_X11_all (And.intro (tyX hW_w) (Or.inr (And.intro (z_neq c_1 (rfl : (p1 : Int32).toInt = _) (show (0 : Int32).toInt = 0 from by decide)) (Or.inr (And.intro (z_neq c_2 (rfl : (p1 : Int32).toInt = _) (show (1 : Int32).toInt = 1 from by decide)) (Or.inr (And.intro (z_neq c_3 (rfl : (p1 : Int32).toInt = _) (show (2 : Int32).toInt = 2 from by decide)) (Or.inr (And.intro (z_neq c_4 (rfl : (p1 : Int32).toInt = _) (show (3 : Int32).toInt = 3 from by decide)) (Or.inl (And.intro (z_eq c_5 (rfl : (p1 : Int32).toInt = _) (show (4 : Int32).toInt = 4 from by decide)) (Exists.intro r_7.toInt (Exists.intro (vw w_6) (And.intro hm_8 (And.intro (hs_w_6.Fr hW_w hW_w_6 intsX_ok intsX_ok) (And.intro (tyX hW_w_6) (And.intro i_r_7 (And.intro (rfl : (r_7 : Int32).toInt = _) rfl)))))))))))))))))))⟩
  by_cases c_9 : p1 = 5
  · have c_9t : (p1 : Int32).toInt = 5 := by rw [c_9]; rfl
    refine lv_tableIn (tgt := 85) hx hb dX11_all_1 (by rw [c_9t]; decide) (by rw [c_9t]; decide) (off := 84) (by rw [c_9t]; rfl) (by decide) ?_
    refine lv_aload_n hx hb dX11_all_85 rfl (lv_at hl 0 rfl) ?_
    refine kW_v ⟨rfl, rfl⟩ hP hD hS hA (rW_V (As := []) (rest := []) hx hb hml hown hts hK hE hP hD (e_X11_look l D cI cJ cZ q bp w hW_w (LD_cg rfl rfl hLD) _) ⟨⟨rfl, rfl⟩, rfl, rfl⟩ sv_X11_207 ⟨(Nat.le_trans (by decide) hR.1), (Nat.le_trans (by decide) hR.2)⟩ 0 11 (hW_w.o tX_0) rfl rfl rfl hl.1 rfl (Nat.le_of_ble_eq_true rfl) dX11_all_86) (fun w_10 H locs hw_w_10 hP hD hS => ?_)
    obtain ⟨hW_w_10, hs_w_10, hm_12⟩ := hw_w_10
    refine lv_aload_n hx hb dX11_all_89 rfl (lv_at hl 0 rfl) ?_
    refine gt_X11 hx hb hts hown hK hP 0 (hW_w_10.o tX_0) 5 (by decide) wd_678 rfl (hW_w_10.fr tX_0 rfl) dX11_all_90 ?_
    refine gt_X6 hx hb hts hown hK hP 42 (hW_w_10.o tX_42) 2 (by decide) wd_296 rfl (hW_w_10.fi tX_42 rfl) dX11_all_93 ?_
    exact hret _ _ _ _ _ _ hP hD hS dX11_all_96 ⟨hW_w_10, (Sm.rf.tr hs_w_10 (by decide)), (mk_X11_all (And.intro (tyX hW_w) (Or.inr (And.intro (z_neq c_1 (rfl : (p1 : Int32).toInt = _) (show (0 : Int32).toInt = 0 from by decide)) (Or.inr (And.intro (z_neq c_2 (rfl : (p1 : Int32).toInt = _) (show (1 : Int32).toInt = 1 from by decide)) (Or.inr (And.intro (z_neq c_3 (rfl : (p1 : Int32).toInt = _) (show (2 : Int32).toInt = 2 from by decide)) (Or.inr (And.intro (z_neq c_4 (rfl : (p1 : Int32).toInt = _) (show (3 : Int32).toInt = 3 from by decide)) (Or.inr (And.intro (z_neq c_5 (rfl : (p1 : Int32).toInt = _) (show (4 : Int32).toInt = 4 from by decide)) (Or.inl (And.intro (z_eq c_9 (rfl : (p1 : Int32).toInt = _) (show (5 : Int32).toInt = 5 from by decide)) (Exists.intro (vw w_10) (And.intro hm_12 (And.intro (hs_w_10.Fr hW_w hW_w_10 intsX_ok intsX_ok) (And.intro (tyX hW_w_10) (And.intro (hW_w_10.vi tX_42 rfl) rfl)))))))))))))))))))⟩
  by_cases c_13 : p1 = 6
  · have c_13t : (p1 : Int32).toInt = 6 := by rw [c_13]; rfl
    refine lv_tableIn (tgt := 97) hx hb dX11_all_1 (by rw [c_13t]; decide) (by rw [c_13t]; decide) (off := 96) (by rw [c_13t]; rfl) (by decide) ?_
    refine lv_aload_n hx hb dX11_all_97 rfl (lv_at hl 0 rfl) ?_
    refine kW_v ⟨rfl, rfl⟩ hP hD hS hA (rW_V (As := []) (rest := []) hx hb hml hown hts hK hE hP hD (e_X11_look l D cI cJ cZ q bp w hW_w (LD_cg rfl rfl hLD) _) ⟨⟨rfl, rfl⟩, rfl, rfl⟩ sv_X11_207 ⟨(Nat.le_trans (by decide) hR.1), (Nat.le_trans (by decide) hR.2)⟩ 0 11 (hW_w.o tX_0) rfl rfl rfl hl.1 rfl (Nat.le_of_ble_eq_true rfl) dX11_all_98) (fun w_14 H locs hw_w_14 hP hD hS => ?_)
    obtain ⟨hW_w_14, hs_w_14, hm_16⟩ := hw_w_14
    refine lv_aload_n hx hb dX11_all_101 rfl (lv_at hl 0 rfl) ?_
    refine gt_X11 hx hb hts hown hK hP 0 (hW_w_14.o tX_0) 5 (by decide) wd_678 rfl (hW_w_14.fr tX_0 rfl) dX11_all_102 ?_
    refine kW_i ⟨rfl, rfl⟩ hP hD hS hA (rW_V (As := []) (rest := []) hx hb hml hown hts hK hE hP hD (e_X6_doubts l D cI cJ cZ q 1 16 bp w_14 hW_w_14  _) ⟨⟨rfl, rfl⟩, rfl, rfl⟩ sv_X11_213 ⟨(Nat.le_trans (by decide) hR.1), (Nat.le_trans (by decide) hR.2)⟩ 42 6 (hW_w_14.o tX_42) rfl rfl rfl hl.1 rfl (Nat.le_of_ble_eq_true rfl) dX11_all_105) (fun r_18 w_17 H locs hw_w_17 hP hD hS => ?_)
    obtain ⟨hW_w_17, hs_w_17, hm_19⟩ := hw_w_17
    exact hret _ _ _ _ _ _ hP hD hS dX11_all_108 ⟨hW_w_17, ((Sm.rf.tr hs_w_14 (by decide)).tr hs_w_17 (by decide)), (mk_X11_all (And.intro (tyX hW_w) (Or.inr (And.intro (z_neq c_1 (rfl : (p1 : Int32).toInt = _) (show (0 : Int32).toInt = 0 from by decide)) (Or.inr (And.intro (z_neq c_2 (rfl : (p1 : Int32).toInt = _) (show (1 : Int32).toInt = 1 from by decide)) (Or.inr (And.intro (z_neq c_3 (rfl : (p1 : Int32).toInt = _) (show (2 : Int32).toInt = 2 from by decide)) (Or.inr (And.intro (z_neq c_4 (rfl : (p1 : Int32).toInt = _) (show (3 : Int32).toInt = 3 from by decide)) (Or.inr (And.intro (z_neq c_5 (rfl : (p1 : Int32).toInt = _) (show (4 : Int32).toInt = 4 from by decide)) (Or.inr (And.intro (z_neq c_9 (rfl : (p1 : Int32).toInt = _) (show (5 : Int32).toInt = 5 from by decide)) (Or.inl (And.intro (z_eq c_13 (rfl : (p1 : Int32).toInt = _) (show (6 : Int32).toInt = 6 from by decide)) (Exists.intro (vw w_14) (And.intro hm_16 (And.intro (hs_w_14.Fr hW_w hW_w_14 intsX_ok intsX_ok) (And.intro (tyX hW_w_14) (Exists.intro r_18.toInt (Exists.intro (vw w_17) (And.intro hm_19 (And.intro (hs_w_17.Fr hW_w_14 hW_w_17 intsX_ok intsX_ok) (And.intro (tyX hW_w_17) (And.intro (rfl : (r_18 : Int32).toInt = _) rfl))))))))))))))))))))))))))⟩
  by_cases c_20 : p1 = 7
  · have c_20t : (p1 : Int32).toInt = 7 := by rw [c_20]; rfl
    refine lv_tableIn (tgt := 109) hx hb dX11_all_1 (by rw [c_20t]; decide) (by rw [c_20t]; decide) (off := 108) (by rw [c_20t]; rfl) (by decide) ?_
    refine lv_aload_n hx hb dX11_all_109 rfl (lv_at hl 0 rfl) ?_
    refine gt_X11 hx hb hts hown hK hP 0 (hW_w.o tX_0) 0 (by decide) wd_673 rfl (hW_w.fr tX_0 rfl) dX11_all_110 ?_
    refine gt_X1 hx hb hts hown hK hP 1 (hW_w.o tX_1) 9 (by decide) wd_70 rfl (hW_w.fi tX_1 rfl) dX11_all_113 ?_
    exact hret _ _ _ _ _ _ hP hD hS dX11_all_116 ⟨hW_w, Sm.rf, (mk_X11_all (And.intro (tyX hW_w) (Or.inr (And.intro (z_neq c_1 (rfl : (p1 : Int32).toInt = _) (show (0 : Int32).toInt = 0 from by decide)) (Or.inr (And.intro (z_neq c_2 (rfl : (p1 : Int32).toInt = _) (show (1 : Int32).toInt = 1 from by decide)) (Or.inr (And.intro (z_neq c_3 (rfl : (p1 : Int32).toInt = _) (show (2 : Int32).toInt = 2 from by decide)) (Or.inr (And.intro (z_neq c_4 (rfl : (p1 : Int32).toInt = _) (show (3 : Int32).toInt = 3 from by decide)) (Or.inr (And.intro (z_neq c_5 (rfl : (p1 : Int32).toInt = _) (show (4 : Int32).toInt = 4 from by decide)) (Or.inr (And.intro (z_neq c_9 (rfl : (p1 : Int32).toInt = _) (show (5 : Int32).toInt = 5 from by decide)) (Or.inr (And.intro (z_neq c_13 (rfl : (p1 : Int32).toInt = _) (show (6 : Int32).toInt = 6 from by decide)) (Or.inl (And.intro (z_eq c_20 (rfl : (p1 : Int32).toInt = _) (show (7 : Int32).toInt = 7 from by decide)) (And.intro (hW_w.vi tX_1 rfl) rfl)))))))))))))))))))⟩
  refine lv_tableOut (tgt := 117) hx hb dX11_all_1 (by have h0 := lv_neT c_1 (a := 0) (by decide); have h1 := lv_neT c_2 (a := 1) (by decide); have h2 := lv_neT c_3 (a := 2) (by decide); have h3 := lv_neT c_4 (a := 3) (by decide); have h4 := lv_neT c_5 (a := 4) (by decide); have h5 := lv_neT c_9 (a := 5) (by decide); have h6 := lv_neT c_13 (a := 6) (by decide); have h7 := lv_neT c_20 (a := 7) (by decide); omega) (by decide) ?_
  refine lv_iconst (v := (-1)) hx hb dX11_all_117 (by decide) ?_
  exact hret _ _ _ _ _ _ hP hD hS dX11_all_118 ⟨hW_w, Sm.rf, (mk_X11_all (And.intro (tyX hW_w) (Or.inr (And.intro (z_neq c_1 (rfl : (p1 : Int32).toInt = _) (show (0 : Int32).toInt = 0 from by decide)) (Or.inr (And.intro (z_neq c_2 (rfl : (p1 : Int32).toInt = _) (show (1 : Int32).toInt = 1 from by decide)) (Or.inr (And.intro (z_neq c_3 (rfl : (p1 : Int32).toInt = _) (show (2 : Int32).toInt = 2 from by decide)) (Or.inr (And.intro (z_neq c_4 (rfl : (p1 : Int32).toInt = _) (show (3 : Int32).toInt = 3 from by decide)) (Or.inr (And.intro (z_neq c_5 (rfl : (p1 : Int32).toInt = _) (show (4 : Int32).toInt = 4 from by decide)) (Or.inr (And.intro (z_neq c_9 (rfl : (p1 : Int32).toInt = _) (show (5 : Int32).toInt = 5 from by decide)) (Or.inr (And.intro (z_neq c_13 (rfl : (p1 : Int32).toInt = _) (show (6 : Int32).toInt = 6 from by decide)) (Or.inr (And.intro (z_neq c_20 (rfl : (p1 : Int32).toInt = _) (show (7 : Int32).toInt = 7 from by decide)) (And.intro (show ((-1) : Int32).toInt = (-1) from by decide) rfl)))))))))))))))))))⟩
set_option maxRecDepth 100000 in
set_option maxHeartbeats 8000000 in
theorem e_X11_child (l : Launch) (D : va_G) (cI cJ cZ : ClassId) (q : Nat → Nat) (bp : Nat) (w : va_W) (hW_w : HT q (TX q cI cJ cZ 1 16 bp) w) (p1 : Int32) (hLD : LD w) : Con_i l yX11_child cX11_child 2 (some .int) ({ frames := 6, cells := 0, slots := 0, locals := 140 }) D cI cJ cZ eW [.ref (q 0), .int p1] w (fun (r : Int32) (w1 : va_W) => HT q (TX q cI cJ cZ 1 16 bp) w1 ∧ Sm [42, 43, 44, 45, 46, 47, 48, 49, 50, 51, 52, 53, 54, 55] [(42, 0), (42, 1), (42, 2)] w w1 ∧ In (-1) 39 r ∧ M_X11_child (vw w) p1.toInt r.toInt (vw w1)) := by
  refine eQ_i rfl (by decide) (Nat.le_of_ble_eq_true rfl) ⟨rfl, rfl⟩ ?_
  intro p e R s m args below meth c A Q hx hb hml hown hts hK hE hA hR hret hP hD hS ls hl
  have hown : s.vm.findClass RX11 = some m.cls := hown
  have hl : lv_has ls 2 [(0, .ref (q 0)), (1, .int p1)] := hl
  refine lv_iload_n hx hb dX11_child_0 rfl (lv_at hl 1 rfl) ?_
  refine lv_iconst (v := 1) hx hb dX11_child_1 (by decide) ?_
  refine lv_icmp_lt (tgt := 13) hx hb dX11_child_2 (by decide) (fun c_1 => ?_) (fun c_1 => ?_)
  · refine lv_iconst (v := (-1)) hx hb dX11_child_13 (by decide) ?_
    exact hret _ _ _ _ _ _ hP hD hS dX11_child_14 ⟨hW_w, Sm.rf, (In_lit (n := (-1)) (by decide) (by decide) : In (-1) 39 (-1)), (mk_X11_child (And.intro (tyX hW_w) (Or.inl (And.intro (z_lt c_1 (rfl : (p1 : Int32).toInt = _) (show (1 : Int32).toInt = 1 from by decide)) (And.intro (show ((-1) : Int32).toInt = (-1) from by decide) rfl)))))⟩
  · refine lv_iload_n hx hb dX11_child_5 rfl (lv_at hl 1 rfl) ?_
    refine lv_aload_n hx hb dX11_child_6 rfl (lv_at hl 0 rfl) ?_
    refine kW_i ⟨rfl, rfl⟩ hP hD hS hA (rW_V (As := []) (rest := [.int p1]) hx hb hml hown hts hK hE hP hD (e_X11_actNow l D cI cJ cZ q bp w hW_w  _) ⟨⟨rfl, rfl⟩, rfl, rfl⟩ sv_X11_203 ⟨(Nat.le_trans (by decide) hR.1), (Nat.le_trans (by decide) hR.2)⟩ 0 11 (hW_w.o tX_0) rfl rfl rfl hl.1 rfl (Nat.le_of_ble_eq_true rfl) dX11_child_7) (fun r_3 w_2 H locs hw_w_2 hP hD hS => ?_)
    obtain ⟨hW_w_2, hs_w_2, i_r_3, hm_4⟩ := hw_w_2
    refine lv_icmp_le (tgt := 15) hx hb dX11_child_10 (by decide) (fun c_5 => ?_) (fun c_5 => ?_)
    · refine lv_aload_n hx hb dX11_child_15 rfl (lv_at hl 0 rfl) ?_
      refine kW_v ⟨rfl, rfl⟩ hP hD hS hA (rW_V (As := []) (rest := []) hx hb hml hown hts hK hE hP hD (e_X11_look l D cI cJ cZ q bp w_2 hW_w_2 (LD_cg (hs_w_2.hA (by decide)) (hs_w_2.hA (by decide)) hLD) _) ⟨⟨rfl, rfl⟩, rfl, rfl⟩ sv_X11_207 ⟨(Nat.le_trans (by decide) hR.1), (Nat.le_trans (by decide) hR.2)⟩ 0 11 (hW_w_2.o tX_0) rfl rfl rfl hl.1 rfl (Nat.le_of_ble_eq_true rfl) dX11_child_16) (fun w_6 H locs hw_w_6 hP hD hS => ?_)
      obtain ⟨hW_w_6, hs_w_6, hm_8⟩ := hw_w_6
      refine lv_aload_n hx hb dX11_child_19 rfl (lv_at hl 0 rfl) ?_
      refine gt_X11 hx hb hts hown hK hP 0 (hW_w_6.o tX_0) 5 (by decide) wd_678 rfl (hW_w_6.fr tX_0 rfl) dX11_child_20 ?_
      refine gt_X6 hx hb hts hown hK hP 42 (hW_w_6.o tX_42) 13 (by decide) wd_320 rfl (hW_w_6.fr tX_42 rfl) dX11_child_23 ?_
      refine lv_iload_n hx hb dX11_child_26 rfl (lv_at hl 1 rfl) ?_
      refine va_iald hx hb hK hP 53 0 (hW_w_6.a tX_53) rfl (in_I (R_le_l (R_nlt_l (In_any p1) (In_lit (n := 1) (by decide) (by decide) : In 1 1 1) c_1 (by decide) : In 1 2147483647 p1) i_r_3 c_5 (by decide) : In 1 200 p1) (by decide)) dX11_child_27 ?_
      refine lv_topi (fun v_9 ev_9 => ?_)
      exact hret _ _ _ _ _ _ hP hD hS dX11_child_28 ⟨hW_w_6, ((Sm.rf.tr hs_w_2 (by decide)).tr hs_w_6 (by decide)), (In_of ev_9 (hW_w_6.ap tX_53 _) : In (-1) 39 v_9), (mk_X11_child (And.intro (tyX hW_w) (Or.inr (And.intro (z_nlt c_1 (rfl : (p1 : Int32).toInt = _) (show (1 : Int32).toInt = 1 from by decide)) (Exists.intro r_3.toInt (Exists.intro (vw w_2) (And.intro hm_4 (And.intro (hs_w_2.Fr hW_w hW_w_2 intsX_ok intsX_ok) (And.intro (tyX hW_w_2) (And.intro i_r_3 (Or.inl (And.intro (z_le c_5 (rfl : (p1 : Int32).toInt = _) (rfl : (r_3 : Int32).toInt = _)) (Exists.intro (vw w_6) (And.intro hm_8 (And.intro (hs_w_6.Fr hW_w_2 hW_w_6 intsX_ok intsX_ok) (And.intro (tyX hW_w_6) (And.intro (z_of ev_9 ((hW_w_6.va tX_53 _).trans (congrArg (vw w_6 53) (z_ix (rfl : (p1 : Int32).toInt = _))))) rfl)))))))))))))))))⟩
    · refine lv_iconst (v := (-1)) hx hb dX11_child_13 (by decide) ?_
      exact hret _ _ _ _ _ _ hP hD hS dX11_child_14 ⟨hW_w_2, (Sm.rf.tr hs_w_2 (by decide)), (In_lit (n := (-1)) (by decide) (by decide) : In (-1) 39 (-1)), (mk_X11_child (And.intro (tyX hW_w) (Or.inr (And.intro (z_nlt c_1 (rfl : (p1 : Int32).toInt = _) (show (1 : Int32).toInt = 1 from by decide)) (Exists.intro r_3.toInt (Exists.intro (vw w_2) (And.intro hm_4 (And.intro (hs_w_2.Fr hW_w hW_w_2 intsX_ok intsX_ok) (And.intro (tyX hW_w_2) (And.intro i_r_3 (Or.inr (And.intro (z_nle c_5 (rfl : (p1 : Int32).toInt = _) (rfl : (r_3 : Int32).toInt = _)) (And.intro (show ((-1) : Int32).toInt = (-1) from by decide) rfl)))))))))))))⟩
set_option maxRecDepth 100000 in
set_option maxHeartbeats 8000000 in
theorem e_X11_isChild (l : Launch) (D : va_G) (cI cJ cZ : ClassId) (q : Nat → Nat) (bp : Nat) (w : va_W) (hW_w : HT q (TX q cI cJ cZ 1 16 bp) w) (p1 : Int32) (hLD : LD w) : Con_i l yX11_isChild cX11_isChild 2 (some .boolean) ({ frames := 6, cells := 0, slots := 0, locals := 140 }) D cI cJ cZ eW [.ref (q 0), .int p1] w (fun (r : Int32) (w1 : va_W) => HT q (TX q cI cJ cZ 1 16 bp) w1 ∧ Sm [42, 43, 44, 45, 46, 47, 48, 49, 50, 51, 52, 53, 54, 55] [(42, 0), (42, 1), (42, 2)] w w1 ∧ In 0 1 r ∧ (¬ r = 0 → In 1 40 (fI w1 42 2) ∧ In 0 39 p1) ∧ M_X11_isChild (vw w) p1.toInt r.toInt (vw w1)) := by
  refine eQ_z rfl (by decide) (Nat.le_of_ble_eq_true rfl) ⟨rfl, rfl⟩ ?_
  intro p e R s m args below meth c A Q hx hb hml hown hts hK hE hA hR hret hP hD hS ls hl
  have hown : s.vm.findClass RX11 = some m.cls := hown
  have hl : lv_has ls 2 [(0, .ref (q 0)), (1, .int p1)] := hl
  refine lv_aload_n hx hb dX11_isChild_0 rfl (lv_at hl 0 rfl) ?_
  refine kW_v ⟨rfl, rfl⟩ hP hD hS hA (rW_V (As := []) (rest := []) hx hb hml hown hts hK hE hP hD (e_X11_look l D cI cJ cZ q bp w hW_w (LD_cg rfl rfl hLD) _) ⟨⟨rfl, rfl⟩, rfl, rfl⟩ sv_X11_207 ⟨(Nat.le_trans (by decide) hR.1), (Nat.le_trans (by decide) hR.2)⟩ 0 11 (hW_w.o tX_0) rfl rfl rfl hl.1 rfl (Nat.le_of_ble_eq_true rfl) dX11_isChild_1) (fun w_1 H locs hw_w_1 hP hD hS => ?_)
  obtain ⟨hW_w_1, hs_w_1, hm_3⟩ := hw_w_1
  refine lv_iload_n hx hb dX11_isChild_4 rfl (lv_at hl 1 rfl) ?_
  refine lv_if_lt (tgt := 23) hx hb dX11_isChild_5 (by decide) (fun c_4 => ?_) (fun c_4 => ?_)
  · refine lv_iconst (v := 0) hx hb dX11_isChild_23 (by decide) ?_
    exact hret _ _ _ _ _ _ hP hD hS dX11_isChild_24 (In_lit (n := 0) (by decide) (by decide) : In 0 1 0) ⟨hW_w_1, (Sm.rf.tr hs_w_1 (by decide)), (In_lit (n := 0) (by decide) (by decide) : In 0 1 0), (fun h => absurd rfl h), (mk_X11_isChild (And.intro (tyX hW_w) (Exists.intro (vw w_1) (And.intro hm_3 (And.intro (hs_w_1.Fr hW_w hW_w_1 intsX_ok intsX_ok) (And.intro (tyX hW_w_1) (Or.inl (And.intro (z_lt c_4 (rfl : (p1 : Int32).toInt = _) (show (0 : Int32).toInt = 0 from by decide)) (And.intro (show (0 : Int32).toInt = 0 from by decide) rfl)))))))))⟩
  · refine lv_iload_n hx hb dX11_isChild_8 rfl (lv_at hl 1 rfl) ?_
    refine lv_aload_n hx hb dX11_isChild_9 rfl (lv_at hl 0 rfl) ?_
    refine gt_X11 hx hb hts hown hK hP 0 (hW_w_1.o tX_0) 5 (by decide) wd_678 rfl (hW_w_1.fr tX_0 rfl) dX11_isChild_10 ?_
    refine gt_X6 hx hb hts hown hK hP 42 (hW_w_1.o tX_42) 2 (by decide) wd_296 rfl (hW_w_1.fi tX_42 rfl) dX11_isChild_13 ?_
    refine lv_icmp_ge (tgt := 23) hx hb dX11_isChild_16 (by decide) (fun c_5 => ?_) (fun c_5 => ?_)
    · refine lv_iconst (v := 0) hx hb dX11_isChild_23 (by decide) ?_
      exact hret _ _ _ _ _ _ hP hD hS dX11_isChild_24 (In_lit (n := 0) (by decide) (by decide) : In 0 1 0) ⟨hW_w_1, (Sm.rf.tr hs_w_1 (by decide)), (In_lit (n := 0) (by decide) (by decide) : In 0 1 0), (fun h => absurd rfl h), (mk_X11_isChild (And.intro (tyX hW_w) (Exists.intro (vw w_1) (And.intro hm_3 (And.intro (hs_w_1.Fr hW_w hW_w_1 intsX_ok intsX_ok) (And.intro (tyX hW_w_1) (Or.inr (And.intro (z_nlt c_4 (rfl : (p1 : Int32).toInt = _) (show (0 : Int32).toInt = 0 from by decide)) (Or.inl (And.intro (z_le c_5 (hW_w_1.vi tX_42 rfl) (rfl : (p1 : Int32).toInt = _)) (And.intro (show (0 : Int32).toInt = 0 from by decide) rfl)))))))))))⟩
    · refine lv_iconst (v := 1) hx hb dX11_isChild_19 (by decide) ?_
      refine lv_goto (tgt := 24) hx hb dX11_isChild_20 (by decide) ?_
      exact hret _ _ _ _ _ _ hP hD hS dX11_isChild_24 (In_lit (n := 1) (by decide) (by decide) : In 0 1 1) ⟨hW_w_1, (Sm.rf.tr hs_w_1 (by decide)), (In_lit (n := 1) (by decide) (by decide) : In 0 1 1), (fun h => ⟨(R_nle_l (hW_w_1.fin tX_42 rfl : In 0 40 (fI w_1 42 2)) (R_nlt_l (In_any p1) (In_lit (n := 0) (by decide) (by decide) : In 0 0 0) c_4 (by decide) : In 0 2147483647 p1) c_5 (by decide) : In 1 40 (fI w_1 42 2)), (R_nle_r (hW_w_1.fin tX_42 rfl : In 0 40 (fI w_1 42 2)) (R_nlt_l (In_any p1) (In_lit (n := 0) (by decide) (by decide) : In 0 0 0) c_4 (by decide) : In 0 2147483647 p1) c_5 (by decide) : In 0 39 p1)⟩), (mk_X11_isChild (And.intro (tyX hW_w) (Exists.intro (vw w_1) (And.intro hm_3 (And.intro (hs_w_1.Fr hW_w hW_w_1 intsX_ok intsX_ok) (And.intro (tyX hW_w_1) (Or.inr (And.intro (z_nlt c_4 (rfl : (p1 : Int32).toInt = _) (show (0 : Int32).toInt = 0 from by decide)) (Or.inr (And.intro (z_nle c_5 (hW_w_1.vi tX_42 rfl) (rfl : (p1 : Int32).toInt = _)) (And.intro (show (1 : Int32).toInt = 1 from by decide) rfl)))))))))))⟩
