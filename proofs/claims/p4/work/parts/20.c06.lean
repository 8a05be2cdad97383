set_option maxRecDepth 100000 in
set_option maxHeartbeats 8000000 in
theorem k_X6_learnReport_35 (l : Launch) (D : va_G) (cI cJ cZ : ClassId) (q : Nat → Nat) (bb bs bp : Nat) (w : va_W) (hW_w : HT q (TX q cI cJ cZ bb bs bp) w) (p2 : Int32) (p3 : Int32) (i_p2 : In 1 200 p2) : Con_v l yX6_learnReport cX6_learnReport 7 none ({ frames := 2, cells := 0, slots := 0, locals := 47 }) D cI cJ cZ eW [.ref (q 42), .ref (q 35), .int p2, .int p3] w (fun (w1 : va_W) => HT q (TX q cI cJ cZ bb bs bp) w1 ∧ Sm [42, 43, 44, 45, 46, 47, 48, 49, 50, 51, 52, 53] [(42, 2)] w w1) := by
  refine eQ_v rfl (by decide) (Nat.le_of_ble_eq_true rfl) ⟨rfl, rfl⟩ ?_
  intro p e R s m args below meth c A Q hx hb hml hown hts hK hE hA hR hret hP hD hS ls hl
  have hown : s.vm.findClass RX6 = some m.cls := hown
  have hl : lv_has ls 7 [(0, .ref (q 42)), (1, .ref (q 35)), (2, .int p2), (3, .int p3)] := hl
  have J197 : ∀ (N : Nat) (x197_4 : Int32) (x197_5 : Int32) (x197_6 : Int32) (w197 : va_W) (H : Heap) (locs : List Loc) (ls : Array Slot), (3 - x197_6.toInt).toNat < N → HT q (TX q cI cJ cZ bb bs bp) w197 → Sm [42, 43, 44, 45, 46, 47, 48, 49, 50, 51, 52, 53] [(42, 2)] w w197 → (In 1 200 p2) → (In 0 39 x197_4) → (In 0 3 x197_6) → va_P D vwCl w197 H → va_D A w197 → va_S A s.heap H locs → lv_has ls 7 [(0, .ref (q 42)), (1, .ref (q 35)), (2, .int p2), (3, .int p3), (4, .int x197_4), (5, .int x197_5), (6, .int x197_6)] → W p l e R s m args below meth c H locs 0 0 Q (F0 m 197 ls []) := by
    intro N
    induction N with
    | zero => intro x197_4 x197_5 x197_6 w197 H locs ls hmu; exact absurd hmu (Nat.not_lt_zero _)
    | succ N ih197 =>
      intro x197_4 x197_5 x197_6 w197 H locs ls hmu197 hW_w197 hM_w197 i_x197_2 i_x197_4 i_x197_6 hP hD hS hl
      refine lv_iload hx hb dX6_learnReport_197 (lv_at hl 6 rfl) ?_
      refine lv_aload_n hx hb dX6_learnReport_199 rfl (lv_at hl 1 rfl) ?_
      refine gt_X7 hx hb hts hown hK hP 35 (hW_w197.o tX_35) 5 (by decide) wd_262 rfl (hW_w197.fr tX_35 rfl) dX6_learnReport_200 ?_
      refine lv_iload_n hx hb dX6_learnReport_203 rfl (lv_at hl 2 rfl) ?_
      refine va_iald hx hb hK hP 39 0 (hW_w197.a tX_39) rfl (in_I i_p2 (by decide)) dX6_learnReport_204 ?_
      refine lv_topi (fun v_1 ev_1 => ?_)
      refine lv_icmp_ge (tgt := 231) hx hb dX6_learnReport_205 (by decide) (fun c_2 => ?_) (fun c_2 => ?_)
      · exact hret _ _ _ _ _ hP hD hS dX6_learnReport_231 ⟨hW_w197, hM_w197⟩
      · refine lv_aload_n hx hb dX6_learnReport_208 rfl (lv_at hl 0 rfl) ?_
        refine lv_iload hx hb dX6_learnReport_209 (lv_at hl 4 rfl) ?_
        refine lv_aload_n hx hb dX6_learnReport_211 rfl (lv_at hl 1 rfl) ?_
        refine gt_X7 hx hb hts hown hK hP 35 (hW_w197.o tX_35) 4 (by decide) wd_260 rfl (hW_w197.fr tX_35 rfl) dX6_learnReport_212 ?_
        refine lv_iload_n hx hb dX6_learnReport_215 rfl (lv_at hl 2 rfl) ?_
        refine lv_iconst (v := 3) hx hb dX6_learnReport_216 (by decide) ?_
        refine lv_imul hx hb dX6_learnReport_217 ?_
        refine lv_iload hx hb dX6_learnReport_218 (lv_at hl 6 rfl) ?_
        refine lv_iadd hx hb dX6_learnReport_220 ?_
        refine va_lald hx hb hK hP 38 1 (hW_w197.al tX_38) rfl (in_I ((In_add ((In_mulr i_p2 (n := 3) (by decide) (by decide)) : In 3 600 (p2 * 3)) (R_nle_r (In_of ev_1 (hW_w197.ap tX_39 _) : In (-1) 3 v_1) i_x197_6 c_2 (by decide) : In 0 2 x197_6) (by decide)) : In 3 602 ((p2 * 3) + x197_6)) (by decide)) dX6_learnReport_221 ?_
        refine lv_topl (fun v_3 ev_3 => ?_)
        refine kW_v ⟨rfl, rfl⟩ hP hD hS hA (rW_V (As := [.int x197_4, .long v_3]) (rest := []) hx hb hml hown hts hK hE hP hD (k_X6_learnWish l D cI cJ cZ q bb bs bp w197 hW_w197 x197_4 v_3 i_x197_4 _) ⟨⟨rfl, rfl⟩, rfl, rfl⟩ sv_X6_103 ⟨(Nat.le_trans (by decide) hR.1), (Nat.le_trans (by decide) hR.2)⟩ 42 6 (hW_w197.o tX_42) rfl rfl rfl hl.1 rfl (Nat.le_of_ble_eq_true rfl) dX6_learnReport_222) (fun w_4 H locs hw_w_4 hP hD hS => ?_)
        obtain ⟨hW_w_4, hs_w_4⟩ := hw_w_4
        refine lv_iinc (v := (x197_6 + 1)) (lv' := [(6, .int (x197_6 + 1)), (0, .ref (q 42)), (1, .ref (q 35)), (2, .int p2), (3, .int p3), (4, .int x197_4), (5, .int x197_5)]) hx hb dX6_learnReport_225 hl (k := 6) rfl (rfl) (by decide) rfl (fun ls hl => ?_)
        refine lv_goto (tgt := 197) hx hb dX6_learnReport_228 (by decide) ?_
        exact ih197 x197_4 x197_5 (x197_6 + 1) w_4 _ _ ls (mu_inc hmu197 (R_nle_r (In_of ev_1 (hW_w197.ap tX_39 _) : In (-1) 3 v_1) i_x197_6 c_2 (by decide) : In 0 2 x197_6) (In_lit (n := 1) (by decide) (by decide) : In 1 1 1) (by decide)) hW_w_4 (hM_w197.tr hs_w_4 (by decide)) i_p2 i_x197_4 (In_w ((In_add (y := 1) (R_nle_r (In_of ev_1 (hW_w197.ap tX_39 _) : In (-1) 3 v_1) i_x197_6 c_2 (by decide) : In 0 2 x197_6) (In_lit (n := 1) (by decide) (by decide) : In 1 1 1) (by decide)) : In 1 3 (x197_6 + 1)) (by decide) : In 0 3 (x197_6 + 1)) hP hD hS (lv_sub hl [1, 2, 3, 4, 5, 6, 0] rfl)
  have J89 : ∀ (x89_4 : Int32) (x89_5 : Int32) (w89 : va_W) (H : Heap) (locs : List Loc) (ls : Array Slot), HT q (TX q cI cJ cZ bb bs bp) w89 → Sm [42, 43, 44, 45, 46, 47, 48, 49, 50, 51, 52, 53] [(42, 2)] w w89 → (In 1 200 p2) → (In 0 39 x89_4) → va_P D vwCl w89 H → va_D A w89 → va_S A s.heap H locs → lv_has ls 7 [(0, .ref (q 42)), (1, .ref (q 35)), (2, .int p2), (3, .int p3), (4, .int x89_4), (5, .int x89_5)] → W p l e R s m args below meth c H locs 0 0 Q (F0 m 89 ls []) := by
    intro x89_4 x89_5 w89 H locs ls hW_w89 hM_w89 i_x89_2 i_x89_4 hP hD hS hl
    refine lv_aload_n hx hb dX6_learnReport_89 rfl (lv_at hl 0 rfl) ?_
    refine gt_X6 hx hb hts hown hK hP 42 (hW_w89.o tX_42) 13 (by decide) wd_319 rfl (hW_w89.fr tX_42 rfl) dX6_learnReport_90 ?_
    refine lv_iload_n hx hb dX6_learnReport_93 rfl (lv_at hl 2 rfl) ?_
    refine lv_iload hx hb dX6_learnReport_94 (lv_at hl 4 rfl) ?_
    refine va_iast hx hb hK hP hD hS 53 0 (hW_w89.a tX_53) rfl (in_I i_p2 (by decide)) dX6_learnReport_96 (fun H locs hP hD hS => fr_w (hW_w89.uA tX_53 (In_w i_x89_4 (by decide) : In (-1) 39 x89_4)) hP hD (fun w_6 ew_6 hW_w_6 hP hD => ?_))
    refine lv_aload_n hx hb dX6_learnReport_97 rfl (lv_at hl 0 rfl) ?_
    refine gt_X6 hx hb hts hown hK hP 42 (hW_w_6.o tX_42) 4 (by decide) wd_298 rfl (hW_w_6.fr tX_42 rfl) dX6_learnReport_98 ?_
    refine lv_iload hx hb dX6_learnReport_101 (lv_at hl 4 rfl) ?_
    refine lv_iload hx hb dX6_learnReport_103 (lv_at hl 5 rfl) ?_
    refine va_iast hx hb hK hP hD hS 44 0 (hW_w_6.a tX_44) rfl (in_I i_x89_4 (by decide)) dX6_learnReport_105 (fun H locs hP hD hS => fr_w (hW_w_6.uA tX_44 (In_any _)) hP hD (fun w_7 ew_7 hW_w_7 hP hD => ?_))
    refine lv_aload_n hx hb dX6_learnReport_106 rfl (lv_at hl 0 rfl) ?_
    refine gt_X6 hx hb hts hown hK hP 42 (hW_w_7.o tX_42) 5 (by decide) wd_301 rfl (hW_w_7.fr tX_42 rfl) dX6_learnReport_107 ?_
    refine lv_iload hx hb dX6_learnReport_110 (lv_at hl 4 rfl) ?_
    refine lv_aload_n hx hb dX6_learnReport_112 rfl (lv_at hl 0 rfl) ?_
    refine gt_X6 hx hb hts hown hK hP 42 (hW_w_7.o tX_42) 5 (by decide) wd_301 rfl (hW_w_7.fr tX_42 rfl) dX6_learnReport_113 ?_
    refine lv_iload hx hb dX6_learnReport_116 (lv_at hl 4 rfl) ?_
    refine va_iald hx hb hK hP 45 0 (hW_w_7.a tX_45) rfl (in_I i_x89_4 (by decide)) dX6_learnReport_118 ?_
    refine lv_topi (fun v_8 ev_8 => ?_)
    refine lv_iload hx hb dX6_learnReport_119 (lv_at hl 5 rfl) ?_
    refine va_mmin hx hb (by rw [hml]; exact hl.1.symm) hown (hts _ wd_997) (hts _ wd_757) (hts _ wd_18) (hts _ wd_758) (Nat.le_trans (by decide) hR.1) (Nat.le_trans (Nat.le_of_ble_eq_true rfl) hR.2) (Nat.zero_le _) (Nat.zero_le _) dX6_learnReport_121 ?_
    refine lv_topi (fun v_9 ev_9 => ?_)
    refine va_iast hx hb hK hP hD hS 45 0 (hW_w_7.a tX_45) rfl (in_I i_x89_4 (by decide)) dX6_learnReport_124 (fun H locs hP hD hS => fr_w (hW_w_7.uA tX_45 (In_any _)) hP hD (fun w_10 ew_10 hW_w_10 hP hD => ?_))
    refine lv_aload_n hx hb dX6_learnReport_125 rfl (lv_at hl 0 rfl) ?_
    refine gt_X6 hx hb hts hown hK hP 42 (hW_w_10.o tX_42) 6 (by decide) wd_303 rfl (hW_w_10.fr tX_42 rfl) dX6_learnReport_126 ?_
    refine lv_iload hx hb dX6_learnReport_129 (lv_at hl 4 rfl) ?_
    refine lv_aload_n hx hb dX6_learnReport_131 rfl (lv_at hl 0 rfl) ?_
    refine gt_X6 hx hb hts hown hK hP 42 (hW_w_10.o tX_42) 6 (by decide) wd_303 rfl (hW_w_10.fr tX_42 rfl) dX6_learnReport_132 ?_
    refine lv_iload hx hb dX6_learnReport_135 (lv_at hl 4 rfl) ?_
    refine va_iald hx hb hK hP 46 0 (hW_w_10.a tX_46) rfl (in_I i_x89_4 (by decide)) dX6_learnReport_137 ?_
    refine lv_topi (fun v_11 ev_11 => ?_)
    refine lv_iload hx hb dX6_learnReport_138 (lv_at hl 5 rfl) ?_
    refine va_mmax hx hb (by rw [hml]; exact hl.1.symm) hown (hts _ wd_998) (hts _ wd_999) (hts _ wd_18) (hts _ wd_1000) (Nat.le_trans (by decide) hR.1) (Nat.le_trans (Nat.le_of_ble_eq_true rfl) hR.2) (Nat.zero_le _) (Nat.zero_le _) dX6_learnReport_140 ?_
    refine lv_topi (fun v_12 ev_12 => ?_)
    refine va_iast hx hb hK hP hD hS 46 0 (hW_w_10.a tX_46) rfl (in_I i_x89_4 (by decide)) dX6_learnReport_143 (fun H locs hP hD hS => fr_w (hW_w_10.uA tX_46 (In_any _)) hP hD (fun w_13 ew_13 hW_w_13 hP hD => ?_))
    refine lv_aload_n hx hb dX6_learnReport_144 rfl (lv_at hl 0 rfl) ?_
    refine gt_X6 hx hb hts hown hK hP 42 (hW_w_13.o tX_42) 7 (by decide) wd_305 rfl (hW_w_13.fr tX_42 rfl) dX6_learnReport_145 ?_
    refine lv_iload hx hb dX6_learnReport_148 (lv_at hl 4 rfl) ?_
    refine lv_aload_n hx hb dX6_learnReport_150 rfl (lv_at hl 1 rfl) ?_
    refine lv_iload_n hx hb dX6_learnReport_151 rfl (lv_at hl 2 rfl) ?_
    refine lv_iconst (v := 2) hx hb dX6_learnReport_152 (by decide) ?_
    refine kW_i ⟨rfl, rfl⟩ hP hD hS hA (rW_V (As := [.int p2, .int 2]) (rest := [.int x89_4, .ref (q 47)]) hx hb hml hown hts hK hE hP hD (k_X7_detailOf l D cI cJ cZ q bb bs bp w_13 hW_w_13 p2 2 i_p2 (In_lit (n := 2) (by decide) (by decide) : In 0 4 2) _) ⟨⟨rfl, rfl⟩, rfl, rfl⟩ sv_X6_78 ⟨(Nat.le_trans (by decide) hR.1), (Nat.le_trans (by decide) hR.2)⟩ 35 7 (hW_w_13.o tX_35) rfl rfl rfl hl.1 rfl (Nat.le_of_ble_eq_true rfl) dX6_learnReport_153) (fun r_15 w_14 H locs hw_w_14 hP hD hS => ?_)
    obtain ⟨hW_w_14, hs_w_14, h_16⟩ := hw_w_14
    refine va_iast hx hb hK hP hD hS 47 0 (hW_w_14.a tX_47) rfl (in_I i_x89_4 (by decide)) dX6_learnReport_156 (fun H locs hP hD hS => fr_w (hW_w_14.uA tX_47 (In_any _)) hP hD (fun w_17 ew_17 hW_w_17 hP hD => ?_))
    refine lv_aload_n hx hb dX6_learnReport_157 rfl (lv_at hl 0 rfl) ?_
    refine gt_X6 hx hb hts hown hK hP 42 (hW_w_17.o tX_42) 8 (by decide) wd_307 rfl (hW_w_17.fr tX_42 rfl) dX6_learnReport_158 ?_
    refine lv_iload hx hb dX6_learnReport_161 (lv_at hl 4 rfl) ?_
    refine lv_aload_n hx hb dX6_learnReport_163 rfl (lv_at hl 1 rfl) ?_
    refine lv_iload_n hx hb dX6_learnReport_164 rfl (lv_at hl 2 rfl) ?_
    refine lv_iconst (v := 3) hx hb dX6_learnReport_165 (by decide) ?_
    refine kW_i ⟨rfl, rfl⟩ hP hD hS hA (rW_V (As := [.int p2, .int 3]) (rest := [.int x89_4, .ref (q 48)]) hx hb hml hown hts hK hE hP hD (k_X7_detailOf l D cI cJ cZ q bb bs bp w_17 hW_w_17 p2 3 i_p2 (In_lit (n := 3) (by decide) (by decide) : In 0 4 3) _) ⟨⟨rfl, rfl⟩, rfl, rfl⟩ sv_X6_78 ⟨(Nat.le_trans (by decide) hR.1), (Nat.le_trans (by decide) hR.2)⟩ 35 7 (hW_w_17.o tX_35) rfl rfl rfl hl.1 rfl (Nat.le_of_ble_eq_true rfl) dX6_learnReport_166) (fun r_19 w_18 H locs hw_w_18 hP hD hS => ?_)
    obtain ⟨hW_w_18, hs_w_18, h_20⟩ := hw_w_18
    refine va_iast hx hb hK hP hD hS 48 0 (hW_w_18.a tX_48) rfl (in_I i_x89_4 (by decide)) dX6_learnReport_169 (fun H locs hP hD hS => fr_w (hW_w_18.uA tX_48 (In_any _)) hP hD (fun w_21 ew_21 hW_w_21 hP hD => ?_))
    refine lv_aload_n hx hb dX6_learnReport_170 rfl (lv_at hl 0 rfl) ?_
    refine gt_X6 hx hb hts hown hK hP 42 (hW_w_21.o tX_42) 9 (by decide) wd_309 rfl (hW_w_21.fr tX_42 rfl) dX6_learnReport_171 ?_
    refine lv_iload hx hb dX6_learnReport_174 (lv_at hl 4 rfl) ?_
    refine lv_aload_n hx hb dX6_learnReport_176 rfl (lv_at hl 1 rfl) ?_
    refine lv_iload_n hx hb dX6_learnReport_177 rfl (lv_at hl 2 rfl) ?_
    refine lv_iconst (v := 4) hx hb dX6_learnReport_178 (by decide) ?_
    refine kW_i ⟨rfl, rfl⟩ hP hD hS hA (rW_V (As := [.int p2, .int 4]) (rest := [.int x89_4, .ref (q 49)]) hx hb hml hown hts hK hE hP hD (k_X7_detailOf l D cI cJ cZ q bb bs bp w_21 hW_w_21 p2 4 i_p2 (In_lit (n := 4) (by decide) (by decide) : In 0 4 4) _) ⟨⟨rfl, rfl⟩, rfl, rfl⟩ sv_X6_78 ⟨(Nat.le_trans (by decide) hR.1), (Nat.le_trans (by decide) hR.2)⟩ 35 7 (hW_w_21.o tX_35) rfl rfl rfl hl.1 rfl (Nat.le_of_ble_eq_true rfl) dX6_learnReport_179) (fun r_23 w_22 H locs hw_w_22 hP hD hS => ?_)
    obtain ⟨hW_w_22, hs_w_22, h_24⟩ := hw_w_22
    refine va_iast hx hb hK hP hD hS 49 0 (hW_w_22.a tX_49) rfl (in_I i_x89_4 (by decide)) dX6_learnReport_182 (fun H locs hP hD hS => fr_w (hW_w_22.uA tX_49 (In_any _)) hP hD (fun w_25 ew_25 hW_w_25 hP hD => ?_))
    refine lv_aload_n hx hb dX6_learnReport_183 rfl (lv_at hl 0 rfl) ?_
    refine gt_X6 hx hb hts hown hK hP 42 (hW_w_25.o tX_42) 10 (by decide) wd_313 rfl (hW_w_25.fr tX_42 rfl) dX6_learnReport_184 ?_
    refine lv_iload hx hb dX6_learnReport_187 (lv_at hl 4 rfl) ?_
    refine lv_dup2_11 hx hb dX6_learnReport_189 rfl rfl ?_
    refine va_iald hx hb hK hP 50 0 (hW_w_25.a tX_50) rfl (in_I i_x89_4 (by decide)) dX6_learnReport_190 ?_
    refine lv_topi (fun v_26 ev_26 => ?_)
    refine lv_iconst (v := 1) hx hb dX6_learnReport_191 (by decide) ?_
    refine lv_iadd hx hb dX6_learnReport_192 ?_
    refine va_iast hx hb hK hP hD hS 50 0 (hW_w_25.a tX_50) rfl (in_I i_x89_4 (by decide)) dX6_learnReport_193 (fun H locs hP hD hS => fr_w (hW_w_25.uA tX_50 (In_any _)) hP hD (fun w_27 ew_27 hW_w_27 hP hD => ?_))
    refine lv_iconst (v := 0) hx hb dX6_learnReport_194 (by decide) ?_
    refine lv_istore (lv' := [(6, .int 0), (0, .ref (q 42)), (1, .ref (q 35)), (2, .int p2), (3, .int p3), (4, .int x89_4), (5, .int x89_5)]) hx hb dX6_learnReport_195 hl (by decide) rfl (fun ls hl => ?_)
    exact J197 _ x89_4 x89_5 0 w_27 _ _ ls (Nat.lt_succ_self _) hW_w_27 (((((((((((hM_w89.sa ew_6 (by decide)).sa ew_7 (by decide)).sa ew_10 (by decide)).sa ew_13 (by decide)).tr hs_w_14 (by decide)).sa ew_17 (by decide)).tr hs_w_18 (by decide)).sa ew_21 (by decide)).tr hs_w_22 (by decide)).sa ew_25 (by decide)).sa ew_27 (by decide)) i_p2 i_x89_4 (In_lit (n := 0) (by decide) (by decide) : In 0 3 0) hP hD hS (lv_sub hl [1, 2, 3, 4, 5, 6, 0] rfl)
  refine lv_aload_n hx hb dX6_learnReport_0 rfl (lv_at hl 0 rfl) ?_
  refine lv_iload_n hx hb dX6_learnReport_1 rfl (lv_at hl 3 rfl) ?_
  refine kW_i ⟨rfl, rfl⟩ hP hD hS hA (rW_V (As := [.int p3]) (rest := []) hx hb hml hown hts hK hE hP hD (k_X6_find l D cI cJ cZ q bb bs bp w hW_w p3 _) ⟨⟨rfl, rfl⟩, rfl, rfl⟩ sv_X6_94 ⟨(Nat.le_trans (by decide) hR.1), (Nat.le_trans (by decide) hR.2)⟩ 42 6 (hW_w.o tX_42) rfl rfl rfl hl.1 rfl (Nat.le_of_ble_eq_true rfl) dX6_learnReport_2) (fun r_29 w_28 H locs hw_w_28 hP hD hS => ?_)
  obtain ⟨hW_w_28, hs_w_28, i_r_29⟩ := hw_w_28
  refine lv_istore (lv' := [(4, .int r_29), (0, .ref (q 42)), (1, .ref (q 35)), (2, .int p2), (3, .int p3)]) hx hb dX6_learnReport_5 hl (by decide) rfl (fun ls hl => ?_)
  refine lv_aload_n hx hb dX6_learnReport_7 rfl (lv_at hl 2 rfl) ?_
  refine lv_iload_n hx hb dX6_learnReport_8 rfl (lv_at hl 3 rfl) ?_
  refine lv_iconst (v := 1) hx hb dX6_learnReport_9 (by decide) ?_
  refine kW_i ⟨rfl, rfl⟩ hP hD hS hA (rW_V (As := [.int p2, .int 1]) (rest := []) hx hb hml hown hts hK hE hP hD (k_X7_detailOf l D cI cJ cZ q bb bs bp w_28 hW_w_28 p2 1 i_p2 (In_lit (n := 1) (by decide) (by decide) : In 0 4 1) _) ⟨⟨rfl, rfl⟩, rfl, rfl⟩ sv_X6_78 ⟨(Nat.le_trans (by decide) hR.1), (Nat.le_trans (by decide) hR.2)⟩ 35 7 (hW_w_28.o tX_35) rfl rfl rfl hl.1 rfl (Nat.le_of_ble_eq_true rfl) dX6_learnReport_10) (fun r_31 w_30 H locs hw_w_30 hP hD hS => ?_)
  obtain ⟨hW_w_30, hs_w_30, h_32⟩ := hw_w_30
  refine lv_istore (lv' := [(5, .int r_31), (4, .int r_29), (0, .ref (q 42)), (1, .ref (q 35)), (2, .int p2), (3, .int p3)]) hx hb dX6_learnReport_13 hl (by decide) rfl (fun ls hl => ?_)
  refine lv_iload hx hb dX6_learnReport_15 (lv_at hl 1 rfl) ?_
  refine lv_iconst (v := (-1)) hx hb dX6_learnReport_17 (by decide) ?_
  refine lv_icmp_ne (tgt := 89) hx hb dX6_learnReport_18 (by decide) (fun c_33 => ?_) (fun c_33 => ?_)
  · exact J89 r_29 r_31 w_30 _ _ ls hW_w_30 ((Sm.rf.tr hs_w_28 (by decide)).tr hs_w_30 (by decide)) i_p2 (R_ne_l i_r_29 (In_lit (n := (-1)) (by decide) (by decide) : In (-1) (-1) (-1)) c_33 (by decide) : In 0 39 r_29) hP hD hS (lv_sub hl [2, 3, 4, 5, 1, 0] rfl)
  · refine lv_aload_n hx hb dX6_learnReport_21 rfl (lv_at hl 2 rfl) ?_
    refine gt_X6 hx hb hts hown hK hP 42 (hW_w_30.o tX_42) 2 (by decide) wd_295 rfl (hW_w_30.fi tX_42 rfl) dX6_learnReport_22 ?_
    refine tov (v := (fI w 42 2)) ((hs_w_30.gI (by decide)).trans (hs_w_28.gI (by decide))) ?_
    refine lv_bipush (v := 40) hx hb dX6_learnReport_25 (by decide) ?_
    refine lv_icmp_lt (tgt := 31) hx hb dX6_learnReport_27 (by decide) (fun c_34 => ?_) (fun c_34 => ?_)
    · refine lv_aload_n hx hb dX6_learnReport_31 rfl (lv_at hl 2 rfl) ?_
      refine gt_X6 hx hb hts hown hK hP 42 (hW_w_30.o tX_42) 2 (by decide) wd_295 rfl (hW_w_30.fi tX_42 rfl) dX6_learnReport_32 ?_
      refine tov (v := (fI w 42 2)) ((hs_w_30.gI (by decide)).trans (hs_w_28.gI (by decide))) ?_
      refine lv_istore (lv' := [(4, .int (fI w 42 2)), (5, .int r_31), (0, .ref (q 42)), (1, .ref (q 35)), (2, .int p2), (3, .int p3)]) hx hb dX6_learnReport_35 hl (by decide) rfl (fun ls hl => ?_)
      refine lv_aload_n hx hb dX6_learnReport_37 rfl (lv_at hl 2 rfl) ?_
      refine lv_dup hx hb dX6_learnReport_38 rfl ?_
      refine gt_X6 hx hb hts hown hK hP 42 (hW_w_30.o tX_42) 2 (by decide) wd_295 rfl (hW_w_30.fi tX_42 rfl) dX6_learnReport_39 ?_
      refine tov (v := (fI w 42 2)) ((hs_w_30.gI (by decide)).trans (hs_w_28.gI (by decide))) ?_
      refine lv_iconst (v := 1) hx hb dX6_learnReport_42 (by decide) ?_
      refine lv_iadd hx hb dX6_learnReport_43 ?_
      refine pt_X6 hx hb hts hown hK hP hD hS 42 (hW_w_30.o tX_42) 2 (by decide) wd_295 rfl rfl (ty := .int) (v := .int ((fI w 42 2) + 1)) (by decide +kernel) rfl rfl (hW_w_30.ll tX_42 (Nat.le_of_ble_eq_true rfl)) dX6_learnReport_44 (fun H locs hP hD hS => fr_w (hW_w_30.sI tX_42 rfl (In_w ((In_add (R_lt_l (hW_w.fin tX_42 rfl : In 0 40 (fI w 42 2)) (In_lit (n := 40) (by decide) (by decide) : In 40 40 40) c_34 (by decide) : In 0 39 (fI w 42 2)) (In_lit (n := 1) (by decide) (by decide) : In 1 1 1) (by decide)) : In 1 40 ((fI w 42 2) + 1)) (by decide) : In 0 40 ((fI w 42 2) + 1))) hP hD (fun w_35 ew_35 hW_w_35 hP hD => ?_))
      refine lv_aload_n hx hb dX6_learnReport_47 rfl (lv_at hl 2 rfl) ?_
      refine gt_X6 hx hb hts hown hK hP 42 (hW_w_35.o tX_42) 3 (by decide) wd_297 rfl (hW_w_35.fr tX_42 rfl) dX6_learnReport_48 ?_
      refine lv_iload hx hb dX6_learnReport_51 (lv_at hl 0 rfl) ?_
      refine lv_iload_n hx hb dX6_learnReport_53 rfl (lv_at hl 5 rfl) ?_
      refine va_iast hx hb hK hP hD hS 43 0 (hW_w_35.a tX_43) rfl (in_I (R_lt_l (hW_w.fin tX_42 rfl : In 0 40 (fI w 42 2)) (In_lit (n := 40) (by decide) (by decide) : In 40 40 40) c_34 (by decide) : In 0 39 (fI w 42 2)) (by decide)) dX6_learnReport_54 (fun H locs hP hD hS => fr_w (hW_w_35.uA tX_43 (In_any _)) hP hD (fun w_36 ew_36 hW_w_36 hP hD => ?_))
      refine lv_aload_n hx hb dX6_learnReport_55 rfl (lv_at hl 2 rfl) ?_
      refine gt_X6 hx hb hts hown hK hP 42 (hW_w_36.o tX_42) 5 (by decide) wd_301 rfl (hW_w_36.fr tX_42 rfl) dX6_learnReport_56 ?_
      refine lv_iload hx hb dX6_learnReport_59 (lv_at hl 0 rfl) ?_
      refine lv_iload hx hb dX6_learnReport_61 (lv_at hl 1 rfl) ?_
      refine va_iast hx hb hK hP hD hS 45 0 (hW_w_36.a tX_45) rfl (in_I (R_lt_l (hW_w.fin tX_42 rfl : In 0 40 (fI w 42 2)) (In_lit (n := 40) (by decide) (by decide) : In 40 40 40) c_34 (by decide) : In 0 39 (fI w 42 2)) (by decide)) dX6_learnReport_63 (fun H locs hP hD hS => fr_w (hW_w_36.uA tX_45 (In_any _)) hP hD (fun w_37 ew_37 hW_w_37 hP hD => ?_))
      refine lv_aload_n hx hb dX6_learnReport_64 rfl (lv_at hl 2 rfl) ?_
      refine gt_X6 hx hb hts hown hK hP 42 (hW_w_37.o tX_42) 6 (by decide) wd_303 rfl (hW_w_37.fr tX_42 rfl) dX6_learnReport_65 ?_
      refine lv_iload hx hb dX6_learnReport_68 (lv_at hl 0 rfl) ?_
      refine lv_iload hx hb dX6_learnReport_70 (lv_at hl 1 rfl) ?_
      refine va_iast hx hb hK hP hD hS 46 0 (hW_w_37.a tX_46) rfl (in_I (R_lt_l (hW_w.fin tX_42 rfl : In 0 40 (fI w 42 2)) (In_lit (n := 40) (by decide) (by decide) : In 40 40 40) c_34 (by decide) : In 0 39 (fI w 42 2)) (by decide)) dX6_learnReport_72 (fun H locs hP hD hS => fr_w (hW_w_37.uA tX_46 (In_any _)) hP hD (fun w_38 ew_38 hW_w_38 hP hD => ?_))
      refine lv_aload_n hx hb dX6_learnReport_73 rfl (lv_at hl 2 rfl) ?_
      refine gt_X6 hx hb hts hown hK hP 42 (hW_w_38.o tX_42) 10 (by decide) wd_313 rfl (hW_w_38.fr tX_42 rfl) dX6_learnReport_74 ?_
      refine lv_iload hx hb dX6_learnReport_77 (lv_at hl 0 rfl) ?_
      refine lv_iconst (v := 0) hx hb dX6_learnReport_79 (by decide) ?_
      refine va_iast hx hb hK hP hD hS 50 0 (hW_w_38.a tX_50) rfl (in_I (R_lt_l (hW_w.fin tX_42 rfl : In 0 40 (fI w 42 2)) (In_lit (n := 40) (by decide) (by decide) : In 40 40 40) c_34 (by decide) : In 0 39 (fI w 42 2)) (by decide)) dX6_learnReport_80 (fun H locs hP hD hS => fr_w (hW_w_38.uA tX_50 (In_lit (n := 0) (by decide) (by decide) : In (-2147483648) 2147483647 0)) hP hD (fun w_39 ew_39 hW_w_39 hP hD => ?_))
      refine lv_aload_n hx hb dX6_learnReport_81 rfl (lv_at hl 2 rfl) ?_
      refine gt_X6 hx hb hts hown hK hP 42 (hW_w_39.o tX_42) 11 (by decide) wd_314 rfl (hW_w_39.fr tX_42 rfl) dX6_learnReport_82 ?_
      refine lv_iload hx hb dX6_learnReport_85 (lv_at hl 0 rfl) ?_
      refine lv_iconst (v := 0) hx hb dX6_learnReport_87 (by decide) ?_
      refine va_iast hx hb hK hP hD hS 51 0 (hW_w_39.a tX_51) rfl (in_I (R_lt_l (hW_w.fin tX_42 rfl : In 0 40 (fI w 42 2)) (In_lit (n := 40) (by decide) (by decide) : In 40 40 40) c_34 (by decide) : In 0 39 (fI w 42 2)) (by decide)) dX6_learnReport_88 (fun H locs hP hD hS => fr_w (hW_w_39.uA tX_51 (In_lit (n := 0) (by decide) (by decide) : In 0 4 0)) hP hD (fun w_40 ew_40 hW_w_40 hP hD => ?_))
      exact J89 (fI w 42 2) r_31 w_40 _ _ ls hW_w_40 ((((((((Sm.rf.tr hs_w_28 (by decide)).tr hs_w_30 (by decide)).sf (hW_w_30.lt tX_42) ew_35 (by decide)).sa ew_36 (by decide)).sa ew_37 (by decide)).sa ew_38 (by decide)).sa ew_39 (by decide)).sa ew_40 (by decide)) i_p2 (R_lt_l (hW_w.fin tX_42 rfl : In 0 40 (fI w 42 2)) (In_lit (n := 40) (by decide) (by decide) : In 40 40 40) c_34 (by decide) : In 0 39 (fI w 42 2)) hP hD hS (lv_sub hl [2, 3, 4, 5, 0, 1] rfl)
    · exact hret _ _ _ _ _ hP hD hS dX6_learnReport_30 ⟨hW_w_30, ((Sm.rf.tr hs_w_28 (by decide)).tr hs_w_30 (by decide))⟩
set_option maxRecDepth 100000 in
set_option maxHeartbeats 8000000 in
theorem k_X6_learn_35 (l : Launch) (D : va_G) (cI cJ cZ : ClassId) (q : Nat → Nat) (bb bs bp : Nat) (w : va_W) (hW_w : HT q (TX q cI cJ cZ bb bs bp) w) (p2 : Int32) (i_p2 : In 1 200 p2) (hLD : LD w) : Con_v l yX6_learn cX6_learn 5 none ({ frames := 3, cells := 0, slots := 0, locals := 73 }) D cI cJ cZ eW [.ref (q 42), .ref (q 35), .int p2] w (fun (w1 : va_W) => HT q (TX q cI cJ cZ bb bs bp) w1 ∧ Sm [42, 43, 44, 45, 46, 47, 48, 49, 50, 51, 52, 53, 54, 55] [(42, 2)] w w1) := by
  refine eQ_v rfl (by decide) (Nat.le_of_ble_eq_true rfl) ⟨rfl, rfl⟩ ?_
  intro p e R s m args below meth c A Q hx hb hml hown hts hK hE hA hR hret hP hD hS ls hl
  have hown : s.vm.findClass RX6 = some m.cls := hown
  have hl : lv_has ls 5 [(0, .ref (q 42)), (1, .ref (q 35)), (2, .int p2)] := hl
  refine lv_aload_n hx hb dX6_learn_0 rfl (lv_at hl 1 rfl) ?_
  refine lv_iload_n hx hb dX6_learn_1 rfl (lv_at hl 2 rfl) ?_
  refine lv_iconst (v := 0) hx hb dX6_learn_2 (by decide) ?_
  refine kW_i ⟨rfl, rfl⟩ hP hD hS hA (rW_V (As := [.int p2, .int 0]) (rest := []) hx hb hml hown hts hK hE hP hD (k_X7_detailOf l D cI cJ cZ q bb bs bp w hW_w p2 0 i_p2 (In_lit (n := 0) (by decide) (by decide) : In 0 4 0) _) ⟨⟨rfl, rfl⟩, rfl, rfl⟩ sv_X6_78 ⟨(Nat.le_trans (by decide) hR.1), (Nat.le_trans (by decide) hR.2)⟩ 35 7 (hW_w.o tX_35) rfl rfl rfl hl.1 rfl (Nat.le_of_ble_eq_true rfl) dX6_learn_3) (fun r_2 w_1 H locs hw_w_1 hP hD hS => ?_)
  obtain ⟨hW_w_1, hs_w_1, h_3⟩ := hw_w_1
  refine lv_istore_n (lv' := [(3, .int r_2), (0, .ref (q 42)), (1, .ref (q 35)), (2, .int p2)]) hx hb dX6_learn_6 rfl hl (by decide) rfl (fun ls hl => ?_)
  refine lv_aload_n hx hb dX6_learn_7 rfl (lv_at hl 2 rfl) ?_
  refine lv_iload_n hx hb dX6_learn_8 rfl (lv_at hl 3 rfl) ?_
  refine lv_iconst (v := 1) hx hb dX6_learn_9 (by decide) ?_
  refine kW_i ⟨rfl, rfl⟩ hP hD hS hA (rW_V (As := [.int p2, .int 1]) (rest := []) hx hb hml hown hts hK hE hP hD (k_X7_detailOf l D cI cJ cZ q bb bs bp w_1 hW_w_1 p2 1 i_p2 (In_lit (n := 1) (by decide) (by decide) : In 0 4 1) _) ⟨⟨rfl, rfl⟩, rfl, rfl⟩ sv_X6_78 ⟨(Nat.le_trans (by decide) hR.1), (Nat.le_trans (by decide) hR.2)⟩ 35 7 (hW_w_1.o tX_35) rfl rfl rfl hl.1 rfl (Nat.le_of_ble_eq_true rfl) dX6_learn_10) (fun r_5 w_4 H locs hw_w_4 hP hD hS => ?_)
  obtain ⟨hW_w_4, hs_w_4, h_6⟩ := hw_w_4
  refine lv_istore (lv' := [(4, .int r_5), (3, .int r_2), (0, .ref (q 42)), (1, .ref (q 35)), (2, .int p2)]) hx hb dX6_learn_13 hl (by decide) rfl (fun ls hl => ?_)
  refine lv_aload_n hx hb dX6_learn_15 rfl (lv_at hl 3 rfl) ?_
  refine gt_X7 hx hb hts hown hK hP 35 (hW_w_4.o tX_35) 2 (by decide) wd_256 rfl (hW_w_4.fr tX_35 rfl) dX6_learn_16 ?_
  refine lv_iload_n hx hb dX6_learn_19 rfl (lv_at hl 4 rfl) ?_
  refine va_iald hx hb hK hP 36 0 (hW_w_4.a tX_36) rfl (in_I i_p2 (by decide)) dX6_learn_20 ?_
  refine lv_topi (fun v_7 ev_7 => ?_)
  by_cases c_8 : v_7 = 1
  · have c_8t : (v_7 : Int32).toInt = 1 := by rw [c_8]; rfl
    refine lv_tableIn (tgt := 48) hx hb dX6_learn_21 (by rw [c_8t]; decide) (by rw [c_8t]; decide) (off := 27) (by rw [c_8t]; rfl) (by decide) ?_
    refine lv_aload_n hx hb dX6_learn_48 rfl (lv_at hl 2 rfl) ?_
    refine lv_aload_n hx hb dX6_learn_49 rfl (lv_at hl 3 rfl) ?_
    refine lv_iload_n hx hb dX6_learn_50 rfl (lv_at hl 4 rfl) ?_
    refine lv_iload_n hx hb dX6_learn_51 rfl (lv_at hl 1 rfl) ?_
    refine kW_v ⟨rfl, rfl⟩ hP hD hS hA (rW_V (As := [.ref (q 35), .int p2, .int r_2]) (rest := []) hx hb hml hown hts hK hE hP hD (k_X6_learnReport_35 l D cI cJ cZ q bb bs bp w_4 hW_w_4 p2 r_2 i_p2 _) ⟨⟨rfl, rfl⟩, rfl, rfl⟩ sv_X6_85 ⟨(Nat.le_trans (by decide) hR.1), (Nat.le_trans (by decide) hR.2)⟩ 42 6 (hW_w_4.o tX_42) rfl rfl rfl hl.1 rfl (Nat.le_of_ble_eq_true rfl) dX6_learn_52) (fun w_9 H locs hw_w_9 hP hD hS => ?_)
    obtain ⟨hW_w_9, hs_w_9⟩ := hw_w_9
    refine lv_goto (tgt := 102) hx hb dX6_learn_55 (by decide) ?_
    exact hret _ _ _ _ _ hP hD hS dX6_learn_102 ⟨hW_w_9, (((Sm.rf.tr hs_w_1 (by decide)).tr hs_w_4 (by decide)).tr hs_w_9 (by decide))⟩
  by_cases c_11 : v_7 = 2
  · have c_11t : (v_7 : Int32).toInt = 2 := by rw [c_11]; rfl
    refine lv_tableIn (tgt := 58) hx hb dX6_learn_21 (by rw [c_11t]; decide) (by rw [c_11t]; decide) (off := 37) (by rw [c_11t]; rfl) (by decide) ?_
    refine lv_aload_n hx hb dX6_learn_58 rfl (lv_at hl 2 rfl) ?_
    refine gt_X6 hx hb hts hown hK hP 42 (hW_w_4.o tX_42) 14 (by decide) wd_321 rfl (hW_w_4.fr tX_42 rfl) dX6_learn_59 ?_
    refine lv_iload_n hx hb dX6_learn_62 rfl (lv_at hl 1 rfl) ?_
    refine lv_bipush (v := 25) hx hb dX6_learn_63 (by decide) ?_
    refine lv_imul hx hb dX6_learn_65 ?_
    refine lv_iload hx hb dX6_learn_66 (lv_at hl 0 rfl) ?_
    refine lv_iadd hx hb dX6_learn_68 ?_
    refine lv_dup2_11 hx hb dX6_learn_69 rfl rfl ?_
    refine va_iald hx hb hK hP 54 0 (hW_w_4.a tX_54) rfl (in_I ((In_add ((In_mulr (In_of h_3 ((hLD p2 i_p2).1 ((congrFun ((hs_w_4.hA (by decide)).trans (hs_w_1.hA (by decide))) _).symm.trans (ev_7.symm.trans c_11))).1 : In 0 9 r_2) (n := 25) (by decide) (by decide)) : In 0 225 (r_2 * 25)) (In_of (h_6.trans (congrFun (hs_w_1.hA (by decide)) _)) ((hLD p2 i_p2).1 ((congrFun ((hs_w_4.hA (by decide)).trans (hs_w_1.hA (by decide))) _).symm.trans (ev_7.symm.trans c_11))).2 : In 0 24 r_5) (by decide)) : In 0 249 ((r_2 * 25) + r_5)) (by decide)) dX6_learn_70 ?_
    refine lv_topi (fun v_12 ev_12 => ?_)
    refine lv_aload_n hx hb dX6_learn_71 rfl (lv_at hl 3 rfl) ?_
    refine lv_iload_n hx hb dX6_learn_72 rfl (lv_at hl 4 rfl) ?_
    refine lv_iconst (v := 2) hx hb dX6_learn_73 (by decide) ?_
    refine kW_i ⟨rfl, rfl⟩ hP hD hS hA (rW_V (As := [.int p2, .int 2]) (rest := [.int v_12, .int ((r_2 * 25) + r_5), .ref (q 54)]) hx hb hml hown hts hK hE hP hD (k_X7_detailOf l D cI cJ cZ q bb bs bp w_4 hW_w_4 p2 2 i_p2 (In_lit (n := 2) (by decide) (by decide) : In 0 4 2) _) ⟨⟨rfl, rfl⟩, rfl, rfl⟩ sv_X6_78 ⟨(Nat.le_trans (by decide) hR.1), (Nat.le_trans (by decide) hR.2)⟩ 35 7 (hW_w_4.o tX_35) rfl rfl rfl hl.1 rfl (Nat.le_of_ble_eq_true rfl) dX6_learn_74) (fun r_14 w_13 H locs hw_w_13 hP hD hS => ?_)
    obtain ⟨hW_w_13, hs_w_13, h_15⟩ := hw_w_13
    refine lv_iadd hx hb dX6_learn_77 ?_
    refine lv_topi (fun v_16 ev_16 => ?_)
    refine va_iast hx hb hK hP hD hS 54 0 (hW_w_13.a tX_54) rfl (in_I ((In_add ((In_mulr (In_of h_3 ((hLD p2 i_p2).1 ((congrFun ((hs_w_4.hA (by decide)).trans (hs_w_1.hA (by decide))) _).symm.trans (ev_7.symm.trans c_11))).1 : In 0 9 r_2) (n := 25) (by decide) (by decide)) : In 0 225 (r_2 * 25)) (In_of (h_6.trans (congrFun (hs_w_1.hA (by decide)) _)) ((hLD p2 i_p2).1 ((congrFun ((hs_w_4.hA (by decide)).trans (hs_w_1.hA (by decide))) _).symm.trans (ev_7.symm.trans c_11))).2 : In 0 24 r_5) (by decide)) : In 0 249 ((r_2 * 25) + r_5)) (by decide)) dX6_learn_78 (fun H locs hP hD hS => fr_w (hW_w_13.uA tX_54 (In_any _)) hP hD (fun w_17 ew_17 hW_w_17 hP hD => ?_))
    refine lv_goto (tgt := 102) hx hb dX6_learn_79 (by decide) ?_
    exact hret _ _ _ _ _ hP hD hS dX6_learn_102 ⟨hW_w_17, ((((Sm.rf.tr hs_w_1 (by decide)).tr hs_w_4 (by decide)).tr hs_w_13 (by decide)).sa ew_17 (by decide))⟩
  by_cases c_18 : v_7 = 3
  · have c_18t : (v_7 : Int32).toInt = 3 := by rw [c_18]; rfl
    refine lv_tableIn (tgt := 82) hx hb dX6_learn_21 (by rw [c_18t]; decide) (by rw [c_18t]; decide) (off := 61) (by rw [c_18t]; rfl) (by decide) ?_
    refine lv_aload_n hx hb dX6_learn_82 rfl (lv_at hl 2 rfl) ?_
    refine gt_X6 hx hb hts hown hK hP 42 (hW_w_4.o tX_42) 15 (by decide) wd_322 rfl (hW_w_4.fr tX_42 rfl) dX6_learn_83 ?_
    refine lv_iload_n hx hb dX6_learn_86 rfl (lv_at hl 1 rfl) ?_
    refine lv_aload_n hx hb dX6_learn_87 rfl (lv_at hl 2 rfl) ?_
    refine gt_X6 hx hb hts hown hK hP 42 (hW_w_4.o tX_42) 15 (by decide) wd_322 rfl (hW_w_4.fr tX_42 rfl) dX6_learn_88 ?_
    refine lv_iload_n hx hb dX6_learn_91 rfl (lv_at hl 1 rfl) ?_
    refine va_iald hx hb hK hP 55 0 (hW_w_4.a tX_55) rfl (in_I (In_of h_3 ((hLD p2 i_p2).2 ((congrFun ((hs_w_4.hA (by decide)).trans (hs_w_1.hA (by decide))) _).symm.trans (ev_7.symm.trans c_18))) : In 0 9 r_2) (by decide)) dX6_learn_92 ?_
    refine lv_topi (fun v_19 ev_19 => ?_)
    refine lv_iload hx hb dX6_learn_93 (lv_at hl 0 rfl) ?_
    refine va_mmin hx hb (by rw [hml]; exact hl.1.symm) hown (hts _ wd_997) (hts _ wd_757) (hts _ wd_18) (hts _ wd_758) (Nat.le_trans (by decide) hR.1) (Nat.le_trans (Nat.le_of_ble_eq_true rfl) hR.2) (Nat.zero_le _) (Nat.zero_le _) dX6_learn_95 ?_
    refine lv_topi (fun v_20 ev_20 => ?_)
    refine va_iast hx hb hK hP hD hS 55 0 (hW_w_4.a tX_55) rfl (in_I (In_of h_3 ((hLD p2 i_p2).2 ((congrFun ((hs_w_4.hA (by decide)).trans (hs_w_1.hA (by decide))) _).symm.trans (ev_7.symm.trans c_18))) : In 0 9 r_2) (by decide)) dX6_learn_98 (fun H locs hP hD hS => fr_w (hW_w_4.uA tX_55 (In_any _)) hP hD (fun w_21 ew_21 hW_w_21 hP hD => ?_))
    refine lv_goto (tgt := 102) hx hb dX6_learn_99 (by decide) ?_
    exact hret _ _ _ _ _ hP hD hS dX6_learn_102 ⟨hW_w_21, (((Sm.rf.tr hs_w_1 (by decide)).tr hs_w_4 (by decide)).sa ew_21 (by decide))⟩
  refine lv_tableOut (tgt := 102) hx hb dX6_learn_21 (by have h0 := lv_neT c_8 (a := 1) (by decide); have h1 := lv_neT c_11 (a := 2) (by decide); have h2 := lv_neT c_18 (a := 3) (by decide); omega) (by decide) ?_
  exact hret _ _ _ _ _ hP hD hS dX6_learn_102 ⟨hW_w_4, ((Sm.rf.tr hs_w_1 (by decide)).tr hs_w_4 (by decide))⟩
set_option maxRecDepth 100000 in
set_option maxHeartbeats 8000000 in
theorem k_X7_isKnown (l : Launch) (D : va_G) (cI cJ cZ : ClassId) (q : Nat → Nat) (bb bs bp : Nat) (w : va_W) (hW_w : HT q (TX q cI cJ cZ bb bs bp) w) (p1 : Int32) (p2 : Int32) (i_p1 : In 1 200 p1) (i_p2 : In 1 200 p2) : Con_i l yX7_isKnown cX7_isKnown 3 (some .boolean) ({ frames := 0, cells := 0, slots := 0, locals := 0 }) D cI cJ cZ eW [.ref (q 35), .int p1, .int p2] w (fun (r : Int32) (w1 : va_W) => HT q (TX q cI cJ cZ bb bs bp) w1 ∧ Sm [] [] w w1 ∧ In 0 1 r) := by
  refine eQ_z rfl (by decide) (Nat.le_of_ble_eq_true rfl) ⟨rfl, rfl⟩ ?_
  intro p e R s m args below meth c A Q hx hb hml hown hts hK hE hA hR hret hP hD hS ls hl
  have hown : s.vm.findClass RX7 = some m.cls := hown
  have hl : lv_has ls 3 [(0, .ref (q 35)), (1, .int p1), (2, .int p2)] := hl
  refine lv_iload_n hx hb dX7_isKnown_0 rfl (lv_at hl 1 rfl) ?_
  refine lv_iload_n hx hb dX7_isKnown_1 rfl (lv_at hl 2 rfl) ?_
  refine lv_icmp_gt (tgt := 28) hx hb dX7_isKnown_2 (by decide) (fun c_1 => ?_) (fun c_1 => ?_)
  · refine lv_iconst (v := 0) hx hb dX7_isKnown_28 (by decide) ?_
    exact hret _ _ _ _ _ _ hP hD hS dX7_isKnown_29 (In_lit (n := 0) (by decide) (by decide) : In 0 1 0) ⟨hW_w, Sm.rf, (In_lit (n := 0) (by decide) (by decide) : In 0 1 0)⟩
  · refine lv_aload_n hx hb dX7_isKnown_5 rfl (lv_at hl 0 rfl) ?_
    refine gt_X7 hx hb hts hown hK hP 35 (hW_w.o tX_35) 6 (by decide) wd_263 rfl (hW_w.fr tX_35 rfl) dX7_isKnown_6 ?_
    refine lv_iload_n hx hb dX7_isKnown_9 rfl (lv_at hl 1 rfl) ?_
    refine va_iald hx hb hK hP 40 0 (hW_w.a tX_40) rfl (in_I i_p1 (by decide)) dX7_isKnown_10 ?_
    refine lv_topi (fun v_2 ev_2 => ?_)
    refine lv_if_eq (tgt := 24) hx hb dX7_isKnown_11 (by decide) (fun c_3 => ?_) (fun c_3 => ?_)
    · refine lv_iconst (v := 1) hx hb dX7_isKnown_24 (by decide) ?_
      refine lv_goto (tgt := 29) hx hb dX7_isKnown_25 (by decide) ?_
      exact hret _ _ _ _ _ _ hP hD hS dX7_isKnown_29 (In_lit (n := 1) (by decide) (by decide) : In 0 1 1) ⟨hW_w, Sm.rf, (In_lit (n := 1) (by decide) (by decide) : In 0 1 1)⟩
    · refine lv_aload_n hx hb dX7_isKnown_14 rfl (lv_at hl 0 rfl) ?_
      refine gt_X7 hx hb hts hown hK hP 35 (hW_w.o tX_35) 6 (by decide) wd_263 rfl (hW_w.fr tX_35 rfl) dX7_isKnown_15 ?_
      refine lv_iload_n hx hb dX7_isKnown_18 rfl (lv_at hl 1 rfl) ?_
      refine va_iald hx hb hK hP 40 0 (hW_w.a tX_40) rfl (in_I i_p1 (by decide)) dX7_isKnown_19 ?_
      refine tov (v := v_2) ev_2.symm ?_
      refine lv_iload_n hx hb dX7_isKnown_20 rfl (lv_at hl 2 rfl) ?_
      refine lv_icmp_le (tgt := 28) hx hb dX7_isKnown_21 (by decide) (fun c_4 => ?_) (fun c_4 => ?_)
      · refine lv_iconst (v := 0) hx hb dX7_isKnown_28 (by decide) ?_
        exact hret _ _ _ _ _ _ hP hD hS dX7_isKnown_29 (In_lit (n := 0) (by decide) (by decide) : In 0 1 0) ⟨hW_w, Sm.rf, (In_lit (n := 0) (by decide) (by decide) : In 0 1 0)⟩
      · refine lv_iconst (v := 1) hx hb dX7_isKnown_24 (by decide) ?_
        refine lv_goto (tgt := 29) hx hb dX7_isKnown_25 (by decide) ?_
        exact hret _ _ _ _ _ _ hP hD hS dX7_isKnown_29 (In_lit (n := 1) (by decide) (by decide) : In 0 1 1) ⟨hW_w, Sm.rf, (In_lit (n := 1) (by decide) (by decide) : In 0 1 1)⟩
set_option maxRecDepth 100000 in
set_option maxHeartbeats 8000000 in
theorem k_X6_look_35 (l : Launch) (D : va_G) (cI cJ cZ : ClassId) (q : Nat → Nat) (bb bs bp : Nat) (w : va_W) (hW_w : HT q (TX q cI cJ cZ bb bs bp) w) (p2 : Int32) (i_p2 : In 0 200 p2) (hLD : LD w) : Con_v l yX6_look cX6_look 4 none ({ frames := 4, cells := 0, slots := 0, locals := 97 }) D cI cJ cZ eW [.ref (q 42), .ref (q 35), .int p2] w (fun (w1 : va_W) => HT q (TX q cI cJ cZ bb bs bp) w1 ∧ Sm [42, 43, 44, 45, 46, 47, 48, 49, 50, 51, 52, 53, 54, 55] [(42, 0), (42, 1), (42, 2)] w w1) := by
  refine eQ_v rfl (by decide) (Nat.le_of_ble_eq_true rfl) ⟨rfl, rfl⟩ ?_
  intro p e R s m args below meth c A Q hx hb hml hown hts hK hE hA hR hret hP hD hS ls hl
  have hown : s.vm.findClass RX6 = some m.cls := hown
  have hl : lv_has ls 4 [(0, .ref (q 42)), (1, .ref (q 35)), (2, .int p2)] := hl
  have J48 : ∀ (N : Nat) (x48_3 : Int32) (w48 : va_W) (H : Heap) (locs : List Loc) (ls : Array Slot), (201 - x48_3.toInt).toNat < N → HT q (TX q cI cJ cZ bb bs bp) w48 → Sm [42, 43, 44, 45, 46, 47, 48, 49, 50, 51, 52, 53, 54, 55] [(42, 0), (42, 1), (42, 2)] w w48 → (In 0 200 p2) → (In 1 201 x48_3) → (fI w48 42 0 = p2) → (In 0 200 p2) → (fI w48 42 1 = ((fI w 42 1) + 1)) → va_P D vwCl w48 H → va_D A w48 → va_S A s.heap H locs → lv_has ls 4 [(0, .ref (q 42)), (1, .ref (q 35)), (2, .int p2), (3, .int x48_3)] → W p l e R s m args below meth c H locs 0 0 Q (F0 m 48 ls []) := by
    intro N
    induction N with
    | zero => intro x48_3 w48 H locs ls hmu; exact absurd hmu (Nat.not_lt_zero _)
    | succ N ih48 =>
      intro x48_3 w48 H locs ls hmu48 hW_w48 hM_w48 i_x48_2 i_x48_3 g48_42_0e g48_42_0 g48_42_1e hP hD hS hl
      have J75 : ∀ (w75 : va_W) (H : Heap) (locs : List Loc) (ls : Array Slot), HT q (TX q cI cJ cZ bb bs bp) w75 → Sm [42, 43, 44, 45, 46, 47, 48, 49, 50, 51, 52, 53, 54, 55] [(42, 0), (42, 1), (42, 2)] w w75 → (In 1 200 p2) → (In 1 200 x48_3) → (fI w75 42 0 = p2) → (In 1 200 p2) → (fI w75 42 1 = ((fI w 42 1) + 1)) → va_P D vwCl w75 H → va_D A w75 → va_S A s.heap H locs → lv_has ls 4 [(0, .ref (q 42)), (1, .ref (q 35)), (2, .int p2), (3, .int x48_3)] → W p l e R s m args below meth c H locs 0 0 Q (F0 m 75 ls []) := by
        intro w75 H locs ls hW_w75 hM_w75 i_x75_2 i_x75_3 g75_42_0e g75_42_0 g75_42_1e hP hD hS hl
        refine lv_iinc (v := (x48_3 + 1)) (lv' := [(3, .int (x48_3 + 1)), (0, .ref (q 42)), (1, .ref (q 35)), (2, .int p2)]) hx hb dX6_look_75 hl (k := 3) rfl (rfl) (by decide) rfl (fun ls hl => ?_)
        refine lv_goto (tgt := 48) hx hb dX6_look_78 (by decide) ?_
        exact ih48 (x48_3 + 1) w75 _ _ ls (mu_inc hmu48 i_x75_3 (In_lit (n := 1) (by decide) (by decide) : In 1 1 1) (by decide)) hW_w75 hM_w75 (In_w i_x75_2 (by decide) : In 0 200 p2) (In_w ((In_add (y := 1) i_x75_3 (In_lit (n := 1) (by decide) (by decide) : In 1 1 1) (by decide)) : In 2 201 (x48_3 + 1)) (by decide) : In 1 201 (x48_3 + 1)) g75_42_0e (In_w i_x75_2 (by decide) : In 0 200 p2) g75_42_1e hP hD hS (lv_sub hl [1, 2, 3, 0] rfl)
      refine lv_iload_n hx hb dX6_look_48 rfl (lv_at hl 3 rfl) ?_
      refine lv_iload_n hx hb dX6_look_49 rfl (lv_at hl 2 rfl) ?_
      refine lv_icmp_gt (tgt := 81) hx hb dX6_look_50 (by decide) (fun c_1 => ?_) (fun c_1 => ?_)
      · exact hret _ _ _ _ _ hP hD hS dX6_look_81 ⟨hW_w48, hM_w48⟩
      · refine lv_aload_n hx hb dX6_look_53 rfl (lv_at hl 0 rfl) ?_
        refine gt_X6 hx hb hts hown hK hP 42 (hW_w48.o tX_42) 13 (by decide) wd_319 rfl (hW_w48.fr tX_42 rfl) dX6_look_54 ?_
        refine lv_iload_n hx hb dX6_look_57 rfl (lv_at hl 3 rfl) ?_
        refine lv_iconst (v := (-1)) hx hb dX6_look_58 (by decide) ?_
        refine va_iast hx hb hK hP hD hS 53 0 (hW_w48.a tX_53) rfl (in_I (R_nlt_r i_p2 i_x48_3 c_1 (by decide) : In 1 200 x48_3) (by decide)) dX6_look_59 (fun H locs hP hD hS => fr_w (hW_w48.uA tX_53 (In_lit (n := (-1)) (by decide) (by decide) : In (-1) 39 (-1))) hP hD (fun w_2 ew_2 hW_w_2 hP hD => ?_))
        refine lv_aload_n hx hb dX6_look_60 rfl (lv_at hl 1 rfl) ?_
        refine lv_iload_n hx hb dX6_look_61 rfl (lv_at hl 3 rfl) ?_
        refine lv_iload_n hx hb dX6_look_62 rfl (lv_at hl 2 rfl) ?_
        refine kW_i ⟨rfl, rfl⟩ hP hD hS hA (rW_V (As := [.int x48_3, .int p2]) (rest := []) hx hb hml hown hts hK hE hP hD (k_X7_isKnown l D cI cJ cZ q bb bs bp w_2 hW_w_2 x48_3 p2 (R_nlt_r i_p2 i_x48_3 c_1 (by decide) : In 1 200 x48_3) (R_nlt_l i_p2 i_x48_3 c_1 (by decide) : In 1 200 p2) _) ⟨⟨rfl, rfl⟩, rfl, rfl⟩ sv_X6_68 ⟨(Nat.le_trans (by decide) hR.1), (Nat.le_trans (by decide) hR.2)⟩ 35 7 (hW_w_2.o tX_35) rfl rfl rfl hl.1 rfl (Nat.le_of_ble_eq_true rfl) dX6_look_63) (fun r_4 w_3 H locs hw_w_3 hP hD hS => ?_)
        obtain ⟨hW_w_3, hs_w_3, i_r_4⟩ := hw_w_3
        refine lv_if_eq (tgt := 75) hx hb dX6_look_66 (by decide) (fun c_5 => ?_) (fun c_5 => ?_)
        · exact J75 w_3 _ _ ls hW_w_3 ((hM_w48.sa ew_2 (by decide)).tr hs_w_3 (by decide)) (R_nlt_l i_p2 i_x48_3 c_1 (by decide) : In 1 200 p2) (R_nlt_r i_p2 i_x48_3 c_1 (by decide) : In 1 200 x48_3) ((hs_w_3.gI (by decide)).trans ((fI_cg (st_ne ew_2 (by decide))).trans g48_42_0e)) (R_nlt_l i_p2 i_x48_3 c_1 (by decide) : In 1 200 p2) ((hs_w_3.gI (by decide)).trans ((fI_cg (st_ne ew_2 (by decide))).trans g48_42_1e)) hP hD hS (lv_sub hl [0, 1, 2, 3] rfl)
        · refine lv_aload_n hx hb dX6_look_69 rfl (lv_at hl 0 rfl) ?_
          refine lv_aload_n hx hb dX6_look_70 rfl (lv_at hl 1 rfl) ?_
          refine lv_iload_n hx hb dX6_look_71 rfl (lv_at hl 3 rfl) ?_
          refine kW_v ⟨rfl, rfl⟩ hP hD hS hA (rW_V (As := [.ref (q 35), .int x48_3]) (rest := []) hx hb hml hown hts hK hE hP hD (k_X6_learn_35 l D cI cJ cZ q bb bs bp w_3 hW_w_3 x48_3 (R_nlt_r i_p2 i_x48_3 c_1 (by decide) : In 1 200 x48_3) (LD_cg ((hs_w_3.hA (by decide)).trans ((aF_cg (st_ne ew_2 (by decide))).trans (hM_w48.hA (by decide)))) ((hs_w_3.hA (by decide)).trans ((aF_cg (st_ne ew_2 (by decide))).trans (hM_w48.hA (by decide)))) hLD) _) ⟨⟨rfl, rfl⟩, rfl, rfl⟩ sv_X6_74 ⟨(Nat.le_trans (by decide) hR.1), (Nat.le_trans (by decide) hR.2)⟩ 42 6 (hW_w_3.o tX_42) rfl rfl rfl hl.1 rfl (Nat.le_of_ble_eq_true rfl) dX6_look_72) (fun w_6 H locs hw_w_6 hP hD hS => ?_)
          obtain ⟨hW_w_6, hs_w_6⟩ := hw_w_6
          exact J75 w_6 _ _ ls hW_w_6 (((hM_w48.sa ew_2 (by decide)).tr hs_w_3 (by decide)).tr hs_w_6 (by decide)) (R_nlt_l i_p2 i_x48_3 c_1 (by decide) : In 1 200 p2) (R_nlt_r i_p2 i_x48_3 c_1 (by decide) : In 1 200 x48_3) ((hs_w_6.2 42 0 (by decide) (by decide)).trans ((hs_w_3.gI (by decide)).trans ((fI_cg (st_ne ew_2 (by decide))).trans g48_42_0e))) (R_nlt_l i_p2 i_x48_3 c_1 (by decide) : In 1 200 p2) ((hs_w_6.2 42 1 (by decide) (by decide)).trans ((hs_w_3.gI (by decide)).trans ((fI_cg (st_ne ew_2 (by decide))).trans g48_42_1e))) hP hD hS (lv_sub hl [0, 1, 2, 3] rfl)
  refine lv_aload_n hx hb dX6_look_0 rfl (lv_at hl 0 rfl) ?_
  refine gt_X6 hx hb hts hown hK hP 42 (hW_w.o tX_42) 0 (by decide) wd_290 rfl (hW_w.fi tX_42 rfl) dX6_look_1 ?_
  refine lv_iload_n hx hb dX6_look_4 rfl (lv_at hl 2 rfl) ?_
  refine lv_icmp_ne (tgt := 9) hx hb dX6_look_5 (by decide) (fun c_8 => ?_) (fun c_8 => ?_)
  · refine lv_aload_n hx hb dX6_look_9 rfl (lv_at hl 0 rfl) ?_
    refine lv_iload_n hx hb dX6_look_10 rfl (lv_at hl 2 rfl) ?_
    refine pt_X6 hx hb hts hown hK hP hD hS 42 (hW_w.o tX_42) 0 (by decide) wd_290 rfl rfl (ty := .int) (v := .int p2) (by decide +kernel) rfl rfl (hW_w.ll tX_42 (Nat.le_of_ble_eq_true rfl)) dX6_look_11 (fun H locs hP hD hS => fr_w (hW_w.sI tX_42 rfl (In_w i_p2 (by decide) : In (-1) 200 p2)) hP hD (fun w_9 ew_9 hW_w_9 hP hD => ?_))
    refine lv_aload_n hx hb dX6_look_14 rfl (lv_at hl 0 rfl) ?_
    refine lv_dup hx hb dX6_look_15 rfl ?_
    refine gt_X6 hx hb hts hown hK hP 42 (hW_w_9.o tX_42) 1 (by decide) wd_292 rfl (hW_w_9.fi tX_42 rfl) dX6_look_16 ?_
    refine tov (v := (fI w 42 1)) (fI_nej (hW_w.lt tX_42) ew_9 (by decide)) ?_
    refine lv_iconst (v := 1) hx hb dX6_look_19 (by decide) ?_
    refine lv_iadd hx hb dX6_look_20 ?_
    refine pt_X6 hx hb hts hown hK hP hD hS 42 (hW_w_9.o tX_42) 1 (by decide) wd_292 rfl rfl (ty := .int) (v := .int ((fI w 42 1) + 1)) (by decide +kernel) rfl rfl (hW_w_9.ll tX_42 (Nat.le_of_ble_eq_true rfl)) dX6_look_21 (fun H locs hP hD hS => fr_w (hW_w_9.sI tX_42 rfl (In_any _)) hP hD (fun w_10 ew_10 hW_w_10 hP hD => ?_))
    refine lv_aload_n hx hb dX6_look_24 rfl (lv_at hl 0 rfl) ?_
    refine lv_iconst (v := 0) hx hb dX6_look_25 (by decide) ?_
    refine pt_X6 hx hb hts hown hK hP hD hS 42 (hW_w_10.o tX_42) 2 (by decide) wd_295 rfl rfl (ty := .int) (v := .int 0) (by decide +kernel) rfl rfl (hW_w_10.ll tX_42 (Nat.le_of_ble_eq_true rfl)) dX6_look_26 (fun H locs hP hD hS => fr_w (hW_w_10.sI tX_42 rfl (In_lit (n := 0) (by decide) (by decide) : In 0 40 0)) hP hD (fun w_11 ew_11 hW_w_11 hP hD => ?_))
    refine lv_aload_n hx hb dX6_look_29 rfl (lv_at hl 0 rfl) ?_
    refine gt_X6 hx hb hts hown hK hP 42 (hW_w_11.o tX_42) 14 (by decide) wd_321 rfl (hW_w_11.fr tX_42 rfl) dX6_look_30 ?_
    refine lv_iconst (v := 0) hx hb dX6_look_33 (by decide) ?_
    refine kW_v ⟨rfl, rfl⟩ hP hD hS hA (rW_S (As := [.ref (q 54), .int 0]) (rest := []) hx hb hml hown hts hK hE hP hD (k_J7_fill_53178_54 l D cI cJ cZ q bb bs bp w_11 hW_w_11 0 (In_lit (n := 0) (by decide) (by decide) : In 0 0 0) (In_of (fI_eq (hW_w_10.lt tX_42) ew_11 (hW_w_10.ll tX_42 (Nat.le_of_ble_eq_true rfl))) (In_lit (n := 0) (by decide) (by decide) : In 0 0 0)) _) ⟨⟨rfl, rfl⟩, rfl, rfl⟩ sv_X6_62 ⟨(Nat.le_trans (by decide) hR.1), (Nat.le_trans (by decide) hR.2)⟩ rfl hl.1 rfl (Nat.le_of_ble_eq_true rfl) dX6_look_34) (fun w_12 H locs hw_w_12 hP hD hS => ?_)
    obtain ⟨hW_w_12, hs_w_12, h_14⟩ := hw_w_12
    refine lv_aload_n hx hb dX6_look_37 rfl (lv_at hl 0 rfl) ?_
    refine gt_X6 hx hb hts hown hK hP 42 (hW_w_12.o tX_42) 15 (by decide) wd_322 rfl (hW_w_12.fr tX_42 rfl) dX6_look_38 ?_
    refine lv_bipush (v := 25) hx hb dX6_look_41 (by decide) ?_
    refine kW_v ⟨rfl, rfl⟩ hP hD hS hA (rW_S (As := [.ref (q 55), .int 25]) (rest := []) hx hb hml hown hts hK hE hP hD (k_J7_fill_53178_55 l D cI cJ cZ q bb bs bp w_12 hW_w_12 25 (In_lit (n := 25) (by decide) (by decide) : In 25 25 25) (In_of ((hs_w_12.gI (by decide)).trans (fI_eq (hW_w_10.lt tX_42) ew_11 (hW_w_10.ll tX_42 (Nat.le_of_ble_eq_true rfl)))) (In_lit (n := 0) (by decide) (by decide) : In 0 0 0)) _) ⟨⟨rfl, rfl⟩, rfl, rfl⟩ sv_X6_62 ⟨(Nat.le_trans (by decide) hR.1), (Nat.le_trans (by decide) hR.2)⟩ rfl hl.1 rfl (Nat.le_of_ble_eq_true rfl) dX6_look_43) (fun w_15 H locs hw_w_15 hP hD hS => ?_)
    obtain ⟨hW_w_15, hs_w_15, h_17⟩ := hw_w_15
    refine lv_iconst (v := 1) hx hb dX6_look_46 (by decide) ?_
    refine lv_istore_n (lv' := [(3, .int 1), (0, .ref (q 42)), (1, .ref (q 35)), (2, .int p2)]) hx hb dX6_look_47 rfl hl (by decide) rfl (fun ls hl => ?_)
    exact J48 _ 1 w_15 _ _ ls (Nat.lt_succ_self _) hW_w_15 (((((Sm.rf.sf (hW_w.lt tX_42) ew_9 (by decide)).sf (hW_w_9.lt tX_42) ew_10 (by decide)).sf (hW_w_10.lt tX_42) ew_11 (by decide)).tr hs_w_12 (by decide)).tr hs_w_15 (by decide)) i_p2 (In_lit (n := 1) (by decide) (by decide) : In 1 201 1) ((hs_w_15.gI (by decide)).trans ((hs_w_12.gI (by decide)).trans ((fI_nej (hW_w_10.lt tX_42) ew_11 (by decide)).trans ((fI_nej (hW_w_9.lt tX_42) ew_10 (by decide)).trans (fI_eq (hW_w.lt tX_42) ew_9 (hW_w.ll tX_42 (Nat.le_of_ble_eq_true rfl))))))) i_p2 ((hs_w_15.gI (by decide)).trans ((hs_w_12.gI (by decide)).trans ((fI_nej (hW_w_10.lt tX_42) ew_11 (by decide)).trans (fI_eq (hW_w_9.lt tX_42) ew_10 (hW_w_9.ll tX_42 (Nat.le_of_ble_eq_true rfl)))))) hP hD hS (lv_sub hl [1, 2, 3, 0] rfl)
  · exact hret _ _ _ _ _ hP hD hS dX6_look_8 ⟨hW_w, Sm.rf⟩
set_option maxRecDepth 100000 in
set_option maxHeartbeats 8000000 in
theorem k_X11_look (l : Launch) (D : va_G) (cI cJ cZ : ClassId) (q : Nat → Nat) (bp : Nat) (w : va_W) (hW_w : HT q (TX q cI cJ cZ 1 16 bp) w) (hLD : LD w) : Con_v l yX11_look cX11_look 1 none ({ frames := 5, cells := 0, slots := 0, locals := 120 }) D cI cJ cZ eW [.ref (q 0)] w (fun (w1 : va_W) => HT q (TX q cI cJ cZ 1 16 bp) w1 ∧ Sm [42, 43, 44, 45, 46, 47, 48, 49, 50, 51, 52, 53, 54, 55] [(42, 0), (42, 1), (42, 2)] w w1) := by
  refine eQ_v rfl (by decide) (Nat.le_of_ble_eq_true rfl) ⟨rfl, rfl⟩ ?_
  intro p e R s m args below meth c A Q hx hb hml hown hts hK hE hA hR hret hP hD hS ls hl
  have hown : s.vm.findClass RX11 = some m.cls := hown
  have hl : lv_has ls 1 [(0, .ref (q 0))] := hl
  refine lv_aload_n hx hb dX11_look_0 rfl (lv_at hl 0 rfl) ?_
  refine gt_X11 hx hb hts hown hK hP 0 (hW_w.o tX_0) 5 (by decide) wd_678 rfl (hW_w.fr tX_0 rfl) dX11_look_1 ?_
  refine lv_aload_n hx hb dX11_look_4 rfl (lv_at hl 0 rfl) ?_
  refine gt_X11 hx hb hts hown hK hP 0 (hW_w.o tX_0) 4 (by decide) wd_677 rfl (hW_w.fr tX_0 rfl) dX11_look_5 ?_
  refine lv_aload_n hx hb dX11_look_8 rfl (lv_at hl 0 rfl) ?_
  refine kW_i ⟨rfl, rfl⟩ hP hD hS hA (rW_V (As := []) (rest := [.ref (q 35), .ref (q 42)]) hx hb hml hown hts hK hE hP hD (k_X11_actNow l D cI cJ cZ q bp w hW_w  _) ⟨⟨rfl, rfl⟩, rfl, rfl⟩ sv_X11_203 ⟨(Nat.le_trans (by decide) hR.1), (Nat.le_trans (by decide) hR.2)⟩ 0 11 (hW_w.o tX_0) rfl rfl rfl hl.1 rfl (Nat.le_of_ble_eq_true rfl) dX11_look_9) (fun r_2 w_1 H locs hw_w_1 hP hD hS => ?_)
  obtain ⟨hW_w_1, hs_w_1, i_r_2⟩ := hw_w_1
  refine kW_v ⟨rfl, rfl⟩ hP hD hS hA (rW_V (As := [.ref (q 35), .int r_2]) (rest := []) hx hb hml hown hts hK hE hP hD (k_X6_look_35 l D cI cJ cZ q 1 16 bp w_1 hW_w_1 r_2 i_r_2 (LD_cg (hs_w_1.hA (by decide)) (hs_w_1.hA (by decide)) hLD) _) ⟨⟨rfl, rfl⟩, rfl, rfl⟩ sv_X11_347 ⟨(Nat.le_trans (by decide) hR.1), (Nat.le_trans (by decide) hR.2)⟩ 42 6 (hW_w_1.o tX_42) rfl rfl rfl hl.1 rfl (Nat.le_of_ble_eq_true rfl) dX11_look_12) (fun w_3 H locs hw_w_3 hP hD hS => ?_)
  obtain ⟨hW_w_3, hs_w_3⟩ := hw_w_3
  exact hret _ _ _ _ _ hP hD hS dX11_look_15 ⟨hW_w_3, ((Sm.rf.tr hs_w_1 (by decide)).tr hs_w_3 (by decide))⟩
set_option maxRecDepth 100000 in
set_option maxHeartbeats 8000000 in
theorem k_X6_areAlike (l : Launch) (D : va_G) (cI cJ cZ : ClassId) (q : Nat → Nat) (bb bs bp : Nat) (w : va_W) (hW_w : HT q (TX q cI cJ cZ bb bs bp) w) (p1 : Int32) (p2 : Int32) (i_p1 : In 1 39 p1) (i_p2 : In 0 39 p2) (hf_42_2 : In 1 40 (fI w 42 2)) : Con_i l yX6_areAlike cX6_areAlike 3 (some .boolean) ({ frames := 0, cells := 0, slots := 0, locals := 0 }) D cI cJ cZ eW [.ref (q 42), .int p1, .int p2] w (fun (r : Int32) (w1 : va_W) => HT q (TX q cI cJ cZ bb bs bp) w1 ∧ Sm [] [] w w1 ∧ In 0 1 r) := by
  refine eQ_z rfl (by decide) (Nat.le_of_ble_eq_true rfl) ⟨rfl, rfl⟩ ?_
  intro p e R s m args below meth c A Q hx hb hml hown hts hK hE hA hR hret hP hD hS ls hl
  have hown : s.vm.findClass RX6 = some m.cls := hown
  have hl : lv_has ls 3 [(0, .ref (q 42)), (1, .int p1), (2, .int p2)] := hl
  refine lv_aload_n hx hb dX6_areAlike_0 rfl (lv_at hl 0 rfl) ?_
  refine gt_X6 hx hb hts hown hK hP 42 (hW_w.o tX_42) 8 (by decide) wd_307 rfl (hW_w.fr tX_42 rfl) dX6_areAlike_1 ?_
  refine lv_iload_n hx hb dX6_areAlike_4 rfl (lv_at hl 1 rfl) ?_
  refine va_iald hx hb hK hP 48 0 (hW_w.a tX_48) rfl (in_I i_p1 (by decide)) dX6_areAlike_5 ?_
  refine lv_topi (fun v_1 ev_1 => ?_)
  refine lv_if_eq (tgt := 58) hx hb dX6_areAlike_6 (by decide) (fun c_2 => ?_) (fun c_2 => ?_)
  · refine lv_iconst (v := 0) hx hb dX6_areAlike_58 (by decide) ?_
    exact hret _ _ _ _ _ _ hP hD hS dX6_areAlike_59 (In_lit (n := 0) (by decide) (by decide) : In 0 1 0) ⟨hW_w, Sm.rf, (In_lit (n := 0) (by decide) (by decide) : In 0 1 0)⟩
  · refine lv_aload_n hx hb dX6_areAlike_9 rfl (lv_at hl 0 rfl) ?_
    refine gt_X6 hx hb hts hown hK hP 42 (hW_w.o tX_42) 8 (by decide) wd_307 rfl (hW_w.fr tX_42 rfl) dX6_areAlike_10 ?_
    refine lv_iload_n hx hb dX6_areAlike_13 rfl (lv_at hl 1 rfl) ?_
    refine va_iald hx hb hK hP 48 0 (hW_w.a tX_48) rfl (in_I i_p1 (by decide)) dX6_areAlike_14 ?_
    refine tov (v := v_1) ev_1.symm ?_
    refine lv_aload_n hx hb dX6_areAlike_15 rfl (lv_at hl 0 rfl) ?_
    refine gt_X6 hx hb hts hown hK hP 42 (hW_w.o tX_42) 8 (by decide) wd_307 rfl (hW_w.fr tX_42 rfl) dX6_areAlike_16 ?_
    refine lv_iload_n hx hb dX6_areAlike_19 rfl (lv_at hl 2 rfl) ?_
    refine va_iald hx hb hK hP 48 0 (hW_w.a tX_48) rfl (in_I i_p2 (by decide)) dX6_areAlike_20 ?_
    refine lv_topi (fun v_3 ev_3 => ?_)
    refine lv_icmp_ne (tgt := 58) hx hb dX6_areAlike_21 (by decide) (fun c_4 => ?_) (fun c_4 => ?_)
    · refine lv_iconst (v := 0) hx hb dX6_areAlike_58 (by decide) ?_
      exact hret _ _ _ _ _ _ hP hD hS dX6_areAlike_59 (In_lit (n := 0) (by decide) (by decide) : In 0 1 0) ⟨hW_w, Sm.rf, (In_lit (n := 0) (by decide) (by decide) : In 0 1 0)⟩
    · refine lv_aload_n hx hb dX6_areAlike_24 rfl (lv_at hl 0 rfl) ?_
      refine gt_X6 hx hb hts hown hK hP 42 (hW_w.o tX_42) 7 (by decide) wd_305 rfl (hW_w.fr tX_42 rfl) dX6_areAlike_25 ?_
      refine lv_iload_n hx hb dX6_areAlike_28 rfl (lv_at hl 1 rfl) ?_
      refine va_iald hx hb hK hP 47 0 (hW_w.a tX_47) rfl (in_I i_p1 (by decide)) dX6_areAlike_29 ?_
      refine lv_topi (fun v_5 ev_5 => ?_)
      refine lv_aload_n hx hb dX6_areAlike_30 rfl (lv_at hl 0 rfl) ?_
      refine gt_X6 hx hb hts hown hK hP 42 (hW_w.o tX_42) 7 (by decide) wd_305 rfl (hW_w.fr tX_42 rfl) dX6_areAlike_31 ?_
      refine lv_iload_n hx hb dX6_areAlike_34 rfl (lv_at hl 2 rfl) ?_
      refine va_iald hx hb hK hP 47 0 (hW_w.a tX_47) rfl (in_I i_p2 (by decide)) dX6_areAlike_35 ?_
      refine lv_topi (fun v_6 ev_6 => ?_)
      refine lv_icmp_ne (tgt := 58) hx hb dX6_areAlike_36 (by decide) (fun c_7 => ?_) (fun c_7 => ?_)
      · refine lv_iconst (v := 0) hx hb dX6_areAlike_58 (by decide) ?_
        exact hret _ _ _ _ _ _ hP hD hS dX6_areAlike_59 (In_lit (n := 0) (by decide) (by decide) : In 0 1 0) ⟨hW_w, Sm.rf, (In_lit (n := 0) (by decide) (by decide) : In 0 1 0)⟩
      · refine lv_aload_n hx hb dX6_areAlike_39 rfl (lv_at hl 0 rfl) ?_
        refine gt_X6 hx hb hts hown hK hP 42 (hW_w.o tX_42) 4 (by decide) wd_298 rfl (hW_w.fr tX_42 rfl) dX6_areAlike_40 ?_
        refine lv_iload_n hx hb dX6_areAlike_43 rfl (lv_at hl 1 rfl) ?_
        refine va_iald hx hb hK hP 44 0 (hW_w.a tX_44) rfl (in_I i_p1 (by decide)) dX6_areAlike_44 ?_
        refine lv_topi (fun v_8 ev_8 => ?_)
        refine lv_aload_n hx hb dX6_areAlike_45 rfl (lv_at hl 0 rfl) ?_
        refine gt_X6 hx hb hts hown hK hP 42 (hW_w.o tX_42) 4 (by decide) wd_298 rfl (hW_w.fr tX_42 rfl) dX6_areAlike_46 ?_
        refine lv_iload_n hx hb dX6_areAlike_49 rfl (lv_at hl 2 rfl) ?_
        refine va_iald hx hb hK hP 44 0 (hW_w.a tX_44) rfl (in_I i_p2 (by decide)) dX6_areAlike_50 ?_
        refine lv_topi (fun v_9 ev_9 => ?_)
        refine lv_icmp_ne (tgt := 58) hx hb dX6_areAlike_51 (by decide) (fun c_10 => ?_) (fun c_10 => ?_)
        · refine lv_iconst (v := 0) hx hb dX6_areAlike_58 (by decide) ?_
          exact hret _ _ _ _ _ _ hP hD hS dX6_areAlike_59 (In_lit (n := 0) (by decide) (by decide) : In 0 1 0) ⟨hW_w, Sm.rf, (In_lit (n := 0) (by decide) (by decide) : In 0 1 0)⟩
        · refine lv_iconst (v := 1) hx hb dX6_areAlike_54 (by decide) ?_
          refine lv_goto (tgt := 59) hx hb dX6_areAlike_55 (by decide) ?_
          exact hret _ _ _ _ _ _ hP hD hS dX6_areAlike_59 (In_lit (n := 1) (by decide) (by decide) : In 0 1 1) ⟨hW_w, Sm.rf, (In_lit (n := 1) (by decide) (by decide) : In 0 1 1)⟩
set_option maxRecDepth 100000 in
set_option maxHeartbeats 8000000 in
theorem k_X6_doubts (l : Launch) (D : va_G) (cI cJ cZ : ClassId) (q : Nat → Nat) (bb bs bp : Nat) (w : va_W) (hW_w : HT q (TX q cI cJ cZ bb bs bp) w) : Con_i l yX6_doubts cX6_doubts 4 (some .int) ({ frames := 1, cells := 0, slots := 0, locals := 22 }) D cI cJ cZ eW [.ref (q 42)] w (fun (r : Int32) (w1 : va_W) => HT q (TX q cI cJ cZ bb bs bp) w1 ∧ Sm [] [] w w1) := by
  refine eQ_i rfl (by decide) (Nat.le_of_ble_eq_true rfl) ⟨rfl, rfl⟩ ?_
  intro p e R s m args below meth c A Q hx hb hml hown hts hK hE hA hR hret hP hD hS ls hl
  have hown : s.vm.findClass RX6 = some m.cls := hown
  have hl : lv_has ls 4 [(0, .ref (q 42))] := hl
  have J4 : ∀ (N : Nat) (x4_1 : Int32) (x4_2 : Int32) (w4 : va_W) (H : Heap) (locs : List Loc) (ls : Array Slot), (40 - x4_2.toInt).toNat < N → HT q (TX q cI cJ cZ bb bs bp) w4 → Sm [] [] w w4 → (In 0 40 x4_2) → va_P D vwCl w4 H → va_D A w4 → va_S A s.heap H locs → lv_has ls 4 [(0, .ref (q 42)), (1, .int x4_1), (2, .int x4_2)] → W p l e R s m args below meth c H locs 0 0 Q (F0 m 4 ls []) := by
    intro N
    induction N with
    | zero => intro x4_1 x4_2 w4 H locs ls hmu; exact absurd hmu (Nat.not_lt_zero _)
    | succ N ih4 =>
      intro x4_1 x4_2 w4 H locs ls hmu4 hW_w4 hM_w4 i_x4_2 hP hD hS hl
      have J14 : ∀ (N : Nat) (x14_1 : Int32) (x14_3 : Int32) (w14 : va_W) (H : Heap) (locs : List Loc) (ls : Array Slot), (39 - x14_3.toInt).toNat < N → HT q (TX q cI cJ cZ bb bs bp) w14 → Sm [] [] w w14 → (In 0 39 x4_2) → (In 0 39 x14_3) → (In 1 40 (fI w14 42 2)) → va_P D vwCl w14 H → va_D A w14 → va_S A s.heap H locs → lv_has ls 4 [(0, .ref (q 42)), (1, .int x14_1), (2, .int x4_2), (3, .int x14_3)] → W p l e R s m args below meth c H locs 0 0 Q (F0 m 14 ls []) := by
        intro N
        induction N with
        | zero => intro x14_1 x14_3 w14 H locs ls hmu; exact absurd hmu (Nat.not_lt_zero _)
        | succ N ih14 =>
          intro x14_1 x14_3 w14 H locs ls hmu14 hW_w14 hM_w14 i_x14_2 i_x14_3 g14_42_2 hP hD hS hl
          have J49 : ∀ (x49_1 : Int32) (w49 : va_W) (H : Heap) (locs : List Loc) (ls : Array Slot), HT q (TX q cI cJ cZ bb bs bp) w49 → Sm [] [] w w49 → (In 1 39 x4_2) → (In 0 38 x14_3) → (In 1 40 (fI w49 42 2)) → va_P D vwCl w49 H → va_D A w49 → va_S A s.heap H locs → lv_has ls 4 [(0, .ref (q 42)), (1, .int x49_1), (2, .int x4_2), (3, .int x14_3)] → W p l e R s m args below meth c H locs 0 0 Q (F0 m 49 ls []) := by
            intro x49_1 w49 H locs ls hW_w49 hM_w49 i_x49_2 i_x49_3 g49_42_2 hP hD hS hl
            refine lv_iinc (v := (x14_3 + 1)) (lv' := [(3, .int (x14_3 + 1)), (0, .ref (q 42)), (1, .int x49_1), (2, .int x4_2)]) hx hb dX6_doubts_49 hl (k := 3) rfl (rfl) (by decide) rfl (fun ls hl => ?_)
            refine lv_goto (tgt := 14) hx hb dX6_doubts_52 (by decide) ?_
            exact ih14 x49_1 (x14_3 + 1) w49 _ _ ls (mu_inc hmu14 i_x49_3 (In_lit (n := 1) (by decide) (by decide) : In 1 1 1) (by decide)) hW_w49 hM_w49 (In_w i_x49_2 (by decide) : In 0 39 x4_2) (In_w ((In_add (y := 1) i_x49_3 (In_lit (n := 1) (by decide) (by decide) : In 1 1 1) (by decide)) : In 1 39 (x14_3 + 1)) (by decide) : In 0 39 (x14_3 + 1)) (In_of (hM_w49.gI (by decide)) (In_of (hM_w49.gI (by decide)).symm g49_42_2)) hP hD hS (lv_sub hl [1, 2, 3, 0] rfl)
          have J37 : ∀ (w37 : va_W) (H : Heap) (locs : List Loc) (ls : Array Slot), HT q (TX q cI cJ cZ bb bs bp) w37 → Sm [] [] w w37 → (In 1 39 x4_2) → (In 0 38 x14_3) → (In 1 40 (fI w37 42 2)) → va_P D vwCl w37 H → va_D A w37 → va_S A s.heap H locs → lv_has ls 4 [(0, .ref (q 42)), (1, .int x14_1), (2, .int x4_2), (3, .int x14_3)] → W p l e R s m args below meth c H locs 0 0 Q (F0 m 37 ls []) := by
            intro w37 H locs ls hW_w37 hM_w37 i_x37_2 i_x37_3 g37_42_2 hP hD hS hl
            refine lv_aload_n hx hb dX6_doubts_37 rfl (lv_at hl 0 rfl) ?_
            refine lv_iload_n hx hb dX6_doubts_38 rfl (lv_at hl 2 rfl) ?_
            refine lv_iload_n hx hb dX6_doubts_39 rfl (lv_at hl 3 rfl) ?_
            refine kW_i ⟨rfl, rfl⟩ hP hD hS hA (rW_V (As := [.int x4_2, .int x14_3]) (rest := []) hx hb hml hown hts hK hE hP hD (k_X6_areAlike l D cI cJ cZ q bb bs bp w37 hW_w37 x4_2 x14_3 i_x37_2 (In_w i_x37_3 (by decide) : In 0 39 x14_3) (In_of (hM_w37.gI (by decide)) (In_of (hM_w37.gI (by decide)).symm g37_42_2)) _) ⟨⟨rfl, rfl⟩, rfl, rfl⟩ sv_X6_111 ⟨(Nat.le_trans (by decide) hR.1), (Nat.le_trans (by decide) hR.2)⟩ 42 6 (hW_w37.o tX_42) rfl rfl rfl hl.1 rfl (Nat.le_of_ble_eq_true rfl) dX6_doubts_40) (fun r_2 w_1 H locs hw_w_1 hP hD hS => ?_)
            obtain ⟨hW_w_1, hs_w_1, i_r_2⟩ := hw_w_1
            refine lv_if_eq (tgt := 49) hx hb dX6_doubts_43 (by decide) (fun c_3 => ?_) (fun c_3 => ?_)
            · exact J49 x14_1 w_1 _ _ ls hW_w_1 (hM_w37.tr hs_w_1 (by decide)) i_x37_2 i_x37_3 (In_of ((hs_w_1.gI (by decide)).trans (hM_w37.gI (by decide))) (In_of (hM_w37.gI (by decide)).symm g37_42_2)) hP hD hS (lv_sub hl [0, 1, 2, 3] rfl)
            · refine lv_iinc (v := (x14_1 + 1)) (lv' := [(1, .int (x14_1 + 1)), (0, .ref (q 42)), (2, .int x4_2), (3, .int x14_3)]) hx hb dX6_doubts_46 hl (k := 1) rfl (rfl) (by decide) rfl (fun ls hl => ?_)
              exact J49 (x14_1 + 1) w_1 _ _ ls hW_w_1 (hM_w37.tr hs_w_1 (by decide)) i_x37_2 i_x37_3 (In_of ((hs_w_1.gI (by decide)).trans (hM_w37.gI (by decide))) (In_of (hM_w37.gI (by decide)).symm g37_42_2)) hP hD hS (lv_sub hl [1, 0, 2, 3] rfl)
          refine lv_iload_n hx hb dX6_doubts_14 rfl (lv_at hl 3 rfl) ?_
          refine lv_iload_n hx hb dX6_doubts_15 rfl (lv_at hl 2 rfl) ?_
          refine lv_icmp_ge (tgt := 55) hx hb dX6_doubts_16 (by decide) (fun c_4 => ?_) (fun c_4 => ?_)
          · refine lv_iinc (v := (x4_2 + 1)) (lv' := [(2, .int (x4_2 + 1)), (0, .ref (q 42)), (1, .int x14_1), (3, .int x14_3)]) hx hb dX6_doubts_55 hl (k := 2) rfl (rfl) (by decide) rfl (fun ls hl => ?_)
            refine lv_goto (tgt := 4) hx hb dX6_doubts_58 (by decide) ?_
            exact ih4 x14_1 (x4_2 + 1) w14 _ _ ls (mu_inc hmu4 i_x14_2 (In_lit (n := 1) (by decide) (by decide) : In 1 1 1) (by decide)) hW_w14 hM_w14 (In_w ((In_add (y := 1) i_x14_2 (In_lit (n := 1) (by decide) (by decide) : In 1 1 1) (by decide)) : In 1 40 (x4_2 + 1)) (by decide) : In 0 40 (x4_2 + 1)) hP hD hS (lv_sub hl [1, 2, 0] rfl)
          · refine lv_aload_n hx hb dX6_doubts_19 rfl (lv_at hl 0 rfl) ?_
            refine gt_X6 hx hb hts hown hK hP 42 (hW_w14.o tX_42) 3 (by decide) wd_297 rfl (hW_w14.fr tX_42 rfl) dX6_doubts_20 ?_
            refine lv_iload_n hx hb dX6_doubts_23 rfl (lv_at hl 2 rfl) ?_
            refine va_iald hx hb hK hP 43 0 (hW_w14.a tX_43) rfl (in_I (R_nle_l i_x14_2 i_x14_3 c_4 (by decide) : In 1 39 x4_2) (by decide)) dX6_doubts_24 ?_
            refine lv_topi (fun v_5 ev_5 => ?_)
            refine lv_if_eq (tgt := 37) hx hb dX6_doubts_25 (by decide) (fun c_6 => ?_) (fun c_6 => ?_)
            · exact J37 w14 _ _ ls hW_w14 hM_w14 (R_nle_l i_x14_2 i_x14_3 c_4 (by decide) : In 1 39 x4_2) (R_nle_r i_x14_2 i_x14_3 c_4 (by decide) : In 0 38 x14_3) (In_of (hM_w14.gI (by decide)) (In_of (hM_w14.gI (by decide)).symm g14_42_2)) hP hD hS (lv_sub hl [0, 1, 2, 3] rfl)
            · refine lv_aload_n hx hb dX6_doubts_28 rfl (lv_at hl 0 rfl) ?_
              refine gt_X6 hx hb hts hown hK hP 42 (hW_w14.o tX_42) 3 (by decide) wd_297 rfl (hW_w14.fr tX_42 rfl) dX6_doubts_29 ?_
              refine lv_iload_n hx hb dX6_doubts_32 rfl (lv_at hl 3 rfl) ?_
              refine va_iald hx hb hK hP 43 0 (hW_w14.a tX_43) rfl (in_I (R_nle_r i_x14_2 i_x14_3 c_4 (by decide) : In 0 38 x14_3) (by decide)) dX6_doubts_33 ?_
              refine lv_topi (fun v_7 ev_7 => ?_)
              refine lv_if_ne (tgt := 49) hx hb dX6_doubts_34 (by decide) (fun c_8 => ?_) (fun c_8 => ?_)
              · exact J49 x14_1 w14 _ _ ls hW_w14 hM_w14 (R_nle_l i_x14_2 i_x14_3 c_4 (by decide) : In 1 39 x4_2) (R_nle_r i_x14_2 i_x14_3 c_4 (by decide) : In 0 38 x14_3) (In_of (hM_w14.gI (by decide)) (In_of (hM_w14.gI (by decide)).symm g14_42_2)) hP hD hS (lv_sub hl [0, 1, 2, 3] rfl)
              · exact J37 w14 _ _ ls hW_w14 hM_w14 (R_nle_l i_x14_2 i_x14_3 c_4 (by decide) : In 1 39 x4_2) (R_nle_r i_x14_2 i_x14_3 c_4 (by decide) : In 0 38 x14_3) (In_of (hM_w14.gI (by decide)) (In_of (hM_w14.gI (by decide)).symm g14_42_2)) hP hD hS (lv_sub hl [0, 1, 2, 3] rfl)
      refine lv_iload_n hx hb dX6_doubts_4 rfl (lv_at hl 2 rfl) ?_
      refine lv_aload_n hx hb dX6_doubts_5 rfl (lv_at hl 0 rfl) ?_
      refine gt_X6 hx hb hts hown hK hP 42 (hW_w4.o tX_42) 2 (by decide) wd_295 rfl (hW_w4.fi tX_42 rfl) dX6_doubts_6 ?_
      refine tov (v := (fI w 42 2)) (hM_w4.gI (by decide)) ?_
      refine lv_icmp_ge (tgt := 61) hx hb dX6_doubts_9 (by decide) (fun c_9 => ?_) (fun c_9 => ?_)
      · refine lv_iload_n hx hb dX6_doubts_61 rfl (lv_at hl 1 rfl) ?_
        exact hret _ _ _ _ _ _ hP hD hS dX6_doubts_62 ⟨hW_w4, hM_w4⟩
      · refine lv_iconst (v := 0) hx hb dX6_doubts_12 (by decide) ?_
        refine lv_istore_n (lv' := [(3, .int 0), (0, .ref (q 42)), (1, .int x4_1), (2, .int x4_2)]) hx hb dX6_doubts_13 rfl hl (by decide) rfl (fun ls hl => ?_)
        exact J14 _ x4_1 0 w4 _ _ ls (Nat.lt_succ_self _) hW_w4 hM_w4 (R_nle_r (hW_w.fin tX_42 rfl : In 0 40 (fI w 42 2)) i_x4_2 c_9 (by decide) : In 0 39 x4_2) (In_lit (n := 0) (by decide) (by decide) : In 0 39 0) (In_of (hM_w4.gI (by decide)) (R_nle_l (hW_w.fin tX_42 rfl : In 0 40 (fI w 42 2)) i_x4_2 c_9 (by decide) : In 1 40 (fI w 42 2))) hP hD hS (lv_sub hl [1, 2, 3, 0] rfl)
  refine lv_iconst (v := 0) hx hb dX6_doubts_0 (by decide) ?_
  refine lv_istore_n (lv' := [(1, .int 0), (0, .ref (q 42))]) hx hb dX6_doubts_1 rfl hl (by decide) rfl (fun ls hl => ?_)
  refine lv_iconst (v := 0) hx hb dX6_doubts_2 (by decide) ?_
  refine lv_istore_n (lv' := [(2, .int 0), (1, .int 0), (0, .ref (q 42))]) hx hb dX6_doubts_3 rfl hl (by decide) rfl (fun ls hl => ?_)
  exact J4 _ 0 0 w _ _ ls (Nat.lt_succ_self _) hW_w Sm.rf (In_lit (n := 0) (by decide) (by decide) : In 0 40 0) hP hD hS (lv_sub hl [2, 1, 0] rfl)
set_option maxRecDepth 100000 in
set_option maxHeartbeats 8000000 in
theorem k_X11_all (l : Launch) (D : va_G) (cI cJ cZ : ClassId) (q : Nat → Nat) (bp : Nat) (w : va_W) (hW_w : HT q (TX q cI cJ cZ 1 16 bp) w) (p1 : Int32) (hLD : LD w) : Con_i l yX11_all cX11_all 2 (some .int) ({ frames := 6, cells := 0, slots := 0, locals := 140 }) D cI cJ cZ eW [.ref (q 0), .int p1] w (fun (r : Int32) (w1 : va_W) => HT q (TX q cI cJ cZ 1 16 bp) w1 ∧ Sm [42, 43, 44, 45, 46, 47, 48, 49, 50, 51, 52, 53, 54, 55] [(42, 0), (42, 1), (42, 2)] w w1) := by
  refine eQ_i rfl (by decide) (Nat.le_of_ble_eq_true rfl) ⟨rfl, rfl⟩ ?_
  intro p e R s m args below meth c A Q hx hb hml hown hts hK hE hA hR hret hP hD hS ls hl
  have hown : s.vm.findClass RX11 = some m.cls := hown
  have hl : lv_has ls 2 [(0, .ref (q 0)), (1, .int p1)] := hl
  refine lv_iload_n hx hb dX11_all_0 rfl (lv_at hl 1 rfl) ?_
  by_cases c_1 : p1 = 0
  · have c_1t : (p1 : Int32).toInt = 0 := by rw [c_1]; rfl
    refine lv_tableIn (tgt := 48) hx hb dX11_all_1 (by rw [c_1t]; decide) (by rw [c_1t]; decide) (off := 47) (by rw [c_1t]; rfl) (by decide) ?_
    refine lv_aload_n hx hb dX11_all_48 rfl (lv_at hl 0 rfl) ?_
    refine gt_X11 hx hb hts hown hK hP 0 (hW_w.o tX_0) 0 (by decide) wd_673 rfl (hW_w.fr tX_0 rfl) dX11_all_49 ?_
    refine gt_X1 hx hb hts hown hK hP 1 (hW_w.o tX_1) 0 (by decide) wd_39 rfl (hW_w.fi tX_1 rfl) dX11_all_52 ?_
    exact hret _ _ _ _ _ _ hP hD hS dX11_all_55 ⟨hW_w, Sm.rf⟩
  by_cases c_2 : p1 = 1
  · have c_2t : (p1 : Int32).toInt = 1 := by rw [c_2]; rfl
    refine lv_tableIn (tgt := 56) hx hb dX11_all_1 (by rw [c_2t]; decide) (by rw [c_2t]; decide) (off := 55) (by rw [c_2t]; rfl) (by decide) ?_
    refine lv_aload_n hx hb dX11_all_56 rfl (lv_at hl 0 rfl) ?_
    refine gt_X11 hx hb hts hown hK hP 0 (hW_w.o tX_0) 0 (by decide) wd_673 rfl (hW_w.fr tX_0 rfl) dX11_all_57 ?_
    refine gt_X1 hx hb hts hown hK hP 1 (hW_w.o tX_1) 5 (by decide) wd_55 rfl (hW_w.fi tX_1 rfl) dX11_all_60 ?_
    exact hret _ _ _ _ _ _ hP hD hS dX11_all_63 ⟨hW_w, Sm.rf⟩
  by_cases c_3 : p1 = 2
  · have c_3t : (p1 : Int32).toInt = 2 := by rw [c_3]; rfl
    refine lv_tableIn (tgt := 64) hx hb dX11_all_1 (by rw [c_3t]; decide) (by rw [c_3t]; decide) (off := 63) (by rw [c_3t]; rfl) (by decide) ?_
    refine lv_aload_n hx hb dX11_all_64 rfl (lv_at hl 0 rfl) ?_
    refine gt_X11 hx hb hts hown hK hP 0 (hW_w.o tX_0) 0 (by decide) wd_673 rfl (hW_w.fr tX_0 rfl) dX11_all_65 ?_
    refine gt_X1 hx hb hts hown hK hP 1 (hW_w.o tX_1) 8 (by decide) wd_65 rfl (hW_w.fi tX_1 rfl) dX11_all_68 ?_
    exact hret _ _ _ _ _ _ hP hD hS dX11_all_71 ⟨hW_w, Sm.rf⟩
  by_cases c_4 : p1 = 3
  · have c_4t : (p1 : Int32).toInt = 3 := by rw [c_4]; rfl
    refine lv_tableIn (tgt := 72) hx hb dX11_all_1 (by rw [c_4t]; decide) (by rw [c_4t]; decide) (off := 71) (by rw [c_4t]; rfl) (by decide) ?_
    refine lv_aload_n hx hb dX11_all_72 rfl (lv_at hl 0 rfl) ?_
    refine gt_X11 hx hb hts hown hK hP 0 (hW_w.o tX_0) 4 (by decide) wd_677 rfl (hW_w.fr tX_0 rfl) dX11_all_73 ?_
    refine gt_X7 hx hb hts hown hK hP 35 (hW_w.o tX_35) 0 (by decide) wd_252 rfl (hW_w.fi tX_35 rfl) dX11_all_76 ?_
    exact hret _ _ _ _ _ _ hP hD hS dX11_all_79 ⟨hW_w, Sm.rf⟩
  by_cases c_5 : p1 = 4
  · have c_5t : (p1 : Int32).toInt = 4 := by rw [c_5]; rfl
    refine lv_tableIn (tgt := 80) hx hb dX11_all_1 (by rw [c_5t]; decide) (by rw [c_5t]; decide) (off := 79) (by rw [c_5t]; rfl) (by decide) ?_
    refine lv_aload_n hx hb dX11_all_80 rfl (lv_at hl 0 rfl) ?_
    refine kW_i ⟨rfl, rfl⟩ hP hD hS hA (rW_V (As := []) (rest := []) hx hb hml hown hts hK hE hP hD (k_X11_actNow l D cI cJ cZ q bp w hW_w  _) ⟨⟨rfl, rfl⟩, rfl, rfl⟩ sv_X11_203 ⟨(Nat.le_trans (by decide) hR.1), (Nat.le_trans (by decide) hR.2)⟩ 0 11 (hW_w.o tX_0) rfl rfl rfl hl.1 rfl (Nat.le_of_ble_eq_true rfl) dX11_all_81) (fun r_7 w_6 H locs hw_w_6 hP hD hS => ?_)
    obtain ⟨hW_w_6, hs_w_6, i_r_7⟩ := hw_w_6
    exact hret _ _ _ _ _ _ hP hD hS dX11_all_84 ⟨hW_w_6, (Sm.rf.tr hs_w_6 (by decide))⟩
  by_cases c_8 : p1 = 5
  · have c_8t : (p1 : Int32).toInt = 5 := by rw [c_8]; rfl
    refine lv_tableIn (tgt := 85) hx hb dX11_all_1 (by rw [c_8t]; decide) (by rw [c_8t]; decide) (off := 84) (by rw [c_8t]; rfl) (by decide) ?_
    refine lv_aload_n hx hb dX11_all_85 rfl (lv_at hl 0 rfl) ?_
    refine kW_v ⟨rfl, rfl⟩ hP hD hS hA (rW_V (As := []) (rest := []) hx hb hml hown hts hK hE hP hD (k_X11_look l D cI cJ cZ q bp w hW_w (LD_cg rfl rfl hLD) _) ⟨⟨rfl, rfl⟩, rfl, rfl⟩ sv_X11_207 ⟨(Nat.le_trans (by decide) hR.1), (Nat.le_trans (by decide) hR.2)⟩ 0 11 (hW_w.o tX_0) rfl rfl rfl hl.1 rfl (Nat.le_of_ble_eq_true rfl) dX11_all_86) (fun w_9 H locs hw_w_9 hP hD hS => ?_)
    obtain ⟨hW_w_9, hs_w_9⟩ := hw_w_9
    refine lv_aload_n hx hb dX11_all_89 rfl (lv_at hl 0 rfl) ?_
    refine gt_X11 hx hb hts hown hK hP 0 (hW_w_9.o tX_0) 5 (by decide) wd_678 rfl (hW_w_9.fr tX_0 rfl) dX11_all_90 ?_
    refine gt_X6 hx hb hts hown hK hP 42 (hW_w_9.o tX_42) 2 (by decide) wd_296 rfl (hW_w_9.fi tX_42 rfl) dX11_all_93 ?_
    exact hret _ _ _ _ _ _ hP hD hS dX11_all_96 ⟨hW_w_9, (Sm.rf.tr hs_w_9 (by decide))⟩
  by_cases c_11 : p1 = 6
  · have c_11t : (p1 : Int32).toInt = 6 := by rw [c_11]; rfl
    refine lv_tableIn (tgt := 97) hx hb dX11_all_1 (by rw [c_11t]; decide) (by rw [c_11t]; decide) (off := 96) (by rw [c_11t]; rfl) (by decide) ?_
    refine lv_aload_n hx hb dX11_all_97 rfl (lv_at hl 0 rfl) ?_
    refine kW_v ⟨rfl, rfl⟩ hP hD hS hA (rW_V (As := []) (rest := []) hx hb hml hown hts hK hE hP hD (k_X11_look l D cI cJ cZ q bp w hW_w (LD_cg rfl rfl hLD) _) ⟨⟨rfl, rfl⟩, rfl, rfl⟩ sv_X11_207 ⟨(Nat.le_trans (by decide) hR.1), (Nat.le_trans (by decide) hR.2)⟩ 0 11 (hW_w.o tX_0) rfl rfl rfl hl.1 rfl (Nat.le_of_ble_eq_true rfl) dX11_all_98) (fun w_12 H locs hw_w_12 hP hD hS => ?_)
    obtain ⟨hW_w_12, hs_w_12⟩ := hw_w_12
    refine lv_aload_n hx hb dX11_all_101 rfl (lv_at hl 0 rfl) ?_
    refine gt_X11 hx hb hts hown hK hP 0 (hW_w_12.o tX_0) 5 (by decide) wd_678 rfl (hW_w_12.fr tX_0 rfl) dX11_all_102 ?_
    refine kW_i ⟨rfl, rfl⟩ hP hD hS hA (rW_V (As := []) (rest := []) hx hb hml hown hts hK hE hP hD (k_X6_doubts l D cI cJ cZ q 1 16 bp w_12 hW_w_12  _) ⟨⟨rfl, rfl⟩, rfl, rfl⟩ sv_X11_213 ⟨(Nat.le_trans (by decide) hR.1), (Nat.le_trans (by decide) hR.2)⟩ 42 6 (hW_w_12.o tX_42) rfl rfl rfl hl.1 rfl (Nat.le_of_ble_eq_true rfl) dX11_all_105) (fun r_15 w_14 H locs hw_w_14 hP hD hS => ?_)
    obtain ⟨hW_w_14, hs_w_14⟩ := hw_w_14
    exact hret _ _ _ _ _ _ hP hD hS dX11_all_108 ⟨hW_w_14, ((Sm.rf.tr hs_w_12 (by decide)).tr hs_w_14 (by decide))⟩
  by_cases c_16 : p1 = 7
  · have c_16t : (p1 : Int32).toInt = 7 := by rw [c_16]; rfl
    refine lv_tableIn (tgt := 109) hx hb dX11_all_1 (by rw [c_16t]; decide) (by rw [c_16t]; decide) (off := 108) (by rw [c_16t]; rfl) (by decide) ?_
    refine lv_aload_n hx hb dX11_all_109 rfl (lv_at hl 0 rfl) ?_
    refine gt_X11 hx hb hts hown hK hP 0 (hW_w.o tX_0) 0 (by decide) wd_673 rfl (hW_w.fr tX_0 rfl) dX11_all_110 ?_
    refine gt_X1 hx hb hts hown hK hP 1 (hW_w.o tX_1) 9 (by decide) wd_70 rfl (hW_w.fi tX_1 rfl) dX11_all_113 ?_
    exact hret _ _ _ _ _ _ hP hD hS dX11_all_116 ⟨hW_w, Sm.rf⟩
  refine lv_tableOut (tgt := 117) hx hb dX11_all_1 (by have h0 := lv_neT c_1 (a := 0) (by decide); have h1 := lv_neT c_2 (a := 1) (by decide); have h2 := lv_neT c_3 (a := 2) (by decide); have h3 := lv_neT c_4 (a := 3) (by decide); have h4 := lv_neT c_5 (a := 4) (by decide); have h5 := lv_neT c_8 (a := 5) (by decide); have h6 := lv_neT c_11 (a := 6) (by decide); have h7 := lv_neT c_16 (a := 7) (by decide); omega) (by decide) ?_
  refine lv_iconst (v := (-1)) hx hb dX11_all_117 (by decide) ?_
  exact hret _ _ _ _ _ _ hP hD hS dX11_all_118 ⟨hW_w, Sm.rf⟩
set_option maxRecDepth 100000 in
set_option maxHeartbeats 8000000 in
theorem k_X11_child (l : Launch) (D : va_G) (cI cJ cZ : ClassId) (q : Nat → Nat) (bp : Nat) (w : va_W) (hW_w : HT q (TX q cI cJ cZ 1 16 bp) w) (p1 : Int32) (hLD : LD w) : Con_i l yX11_child cX11_child 2 (some .int) ({ frames := 6, cells := 0, slots := 0, locals := 140 }) D cI cJ cZ eW [.ref (q 0), .int p1] w (fun (r : Int32) (w1 : va_W) => HT q (TX q cI cJ cZ 1 16 bp) w1 ∧ Sm [42, 43, 44, 45, 46, 47, 48, 49, 50, 51, 52, 53, 54, 55] [(42, 0), (42, 1), (42, 2)] w w1 ∧ In (-1) 39 r) := by
  refine eQ_i rfl (by decide) (Nat.le_of_ble_eq_true rfl) ⟨rfl, rfl⟩ ?_
  intro p e R s m args below meth c A Q hx hb hml hown hts hK hE hA hR hret hP hD hS ls hl
  have hown : s.vm.findClass RX11 = some m.cls := hown
  have hl : lv_has ls 2 [(0, .ref (q 0)), (1, .int p1)] := hl
  refine lv_iload_n hx hb dX11_child_0 rfl (lv_at hl 1 rfl) ?_
  refine lv_iconst (v := 1) hx hb dX11_child_1 (by decide) ?_
  refine lv_icmp_lt (tgt := 13) hx hb dX11_child_2 (by decide) (fun c_1 => ?_) (fun c_1 => ?_)
  · refine lv_iconst (v := (-1)) hx hb dX11_child_13 (by decide) ?_
    exact hret _ _ _ _ _ _ hP hD hS dX11_child_14 ⟨hW_w, Sm.rf, (In_lit (n := (-1)) (by decide) (by decide) : In (-1) 39 (-1))⟩
  · refine lv_iload_n hx hb dX11_child_5 rfl (lv_at hl 1 rfl) ?_
    refine lv_aload_n hx hb dX11_child_6 rfl (lv_at hl 0 rfl) ?_
    refine kW_i ⟨rfl, rfl⟩ hP hD hS hA (rW_V (As := []) (rest := [.int p1]) hx hb hml hown hts hK hE hP hD (k_X11_actNow l D cI cJ cZ q bp w hW_w  _) ⟨⟨rfl, rfl⟩, rfl, rfl⟩ sv_X11_203 ⟨(Nat.le_trans (by decide) hR.1), (Nat.le_trans (by decide) hR.2)⟩ 0 11 (hW_w.o tX_0) rfl rfl rfl hl.1 rfl (Nat.le_of_ble_eq_true rfl) dX11_child_7) (fun r_3 w_2 H locs hw_w_2 hP hD hS => ?_)
    obtain ⟨hW_w_2, hs_w_2, i_r_3⟩ := hw_w_2
    refine lv_icmp_le (tgt := 15) hx hb dX11_child_10 (by decide) (fun c_4 => ?_) (fun c_4 => ?_)
    · refine lv_aload_n hx hb dX11_child_15 rfl (lv_at hl 0 rfl) ?_
      refine kW_v ⟨rfl, rfl⟩ hP hD hS hA (rW_V (As := []) (rest := []) hx hb hml hown hts hK hE hP hD (k_X11_look l D cI cJ cZ q bp w_2 hW_w_2 (LD_cg (hs_w_2.hA (by decide)) (hs_w_2.hA (by decide)) hLD) _) ⟨⟨rfl, rfl⟩, rfl, rfl⟩ sv_X11_207 ⟨(Nat.le_trans (by decide) hR.1), (Nat.le_trans (by decide) hR.2)⟩ 0 11 (hW_w_2.o tX_0) rfl rfl rfl hl.1 rfl (Nat.le_of_ble_eq_true rfl) dX11_child_16) (fun w_5 H locs hw_w_5 hP hD hS => ?_)
      obtain ⟨hW_w_5, hs_w_5⟩ := hw_w_5
      refine lv_aload_n hx hb dX11_child_19 rfl (lv_at hl 0 rfl) ?_
      refine gt_X11 hx hb hts hown hK hP 0 (hW_w_5.o tX_0) 5 (by decide) wd_678 rfl (hW_w_5.fr tX_0 rfl) dX11_child_20 ?_
      refine gt_X6 hx hb hts hown hK hP 42 (hW_w_5.o tX_42) 13 (by decide) wd_320 rfl (hW_w_5.fr tX_42 rfl) dX11_child_23 ?_
      refine lv_iload_n hx hb dX11_child_26 rfl (lv_at hl 1 rfl) ?_
      refine va_iald hx hb hK hP 53 0 (hW_w_5.a tX_53) rfl (in_I (R_le_l (R_nlt_l (In_any _) (In_lit (n := 1) (by decide) (by decide) : In 1 1 1) c_1 (by decide) : In 1 2147483647 p1) i_r_3 c_4 (by decide) : In 1 200 p1) (by decide)) dX11_child_27 ?_
      refine lv_topi (fun v_7 ev_7 => ?_)
      exact hret _ _ _ _ _ _ hP hD hS dX11_child_28 ⟨hW_w_5, ((Sm.rf.tr hs_w_2 (by decide)).tr hs_w_5 (by decide)), (In_of ev_7 (hW_w_5.ap tX_53 _) : In (-1) 39 v_7)⟩
    · refine lv_iconst (v := (-1)) hx hb dX11_child_13 (by decide) ?_
      exact hret _ _ _ _ _ _ hP hD hS dX11_child_14 ⟨hW_w_2, (Sm.rf.tr hs_w_2 (by decide)), (In_lit (n := (-1)) (by decide) (by decide) : In (-1) 39 (-1))⟩
set_option maxRecDepth 100000 in
set_option maxHeartbeats 8000000 in
theorem k_X11_isChild (l : Launch) (D : va_G) (cI cJ cZ : ClassId) (q : Nat → Nat) (bp : Nat) (w : va_W) (hW_w : HT q (TX q cI cJ cZ 1 16 bp) w) (p1 : Int32) (hLD : LD w) : Con_i l yX11_isChild cX11_isChild 2 (some .boolean) ({ frames := 6, cells := 0, slots := 0, locals := 140 }) D cI cJ cZ eW [.ref (q 0), .int p1] w (fun (r : Int32) (w1 : va_W) => HT q (TX q cI cJ cZ 1 16 bp) w1 ∧ Sm [42, 43, 44, 45, 46, 47, 48, 49, 50, 51, 52, 53, 54, 55] [(42, 0), (42, 1), (42, 2)] w w1 ∧ In 0 1 r ∧ (¬ r = 0 → In 1 40 (fI w1 42 2) ∧ In 0 39 p1)) := by
  refine eQ_z rfl (by decide) (Nat.le_of_ble_eq_true rfl) ⟨rfl, rfl⟩ ?_
  intro p e R s m args below meth c A Q hx hb hml hown hts hK hE hA hR hret hP hD hS ls hl
  have hown : s.vm.findClass RX11 = some m.cls := hown
  have hl : lv_has ls 2 [(0, .ref (q 0)), (1, .int p1)] := hl
  refine lv_aload_n hx hb dX11_isChild_0 rfl (lv_at hl 0 rfl) ?_
  refine kW_v ⟨rfl, rfl⟩ hP hD hS hA (rW_V (As := []) (rest := []) hx hb hml hown hts hK hE hP hD (k_X11_look l D cI cJ cZ q bp w hW_w (LD_cg rfl rfl hLD) _) ⟨⟨rfl, rfl⟩, rfl, rfl⟩ sv_X11_207 ⟨(Nat.le_trans (by decide) hR.1), (Nat.le_trans (by decide) hR.2)⟩ 0 11 (hW_w.o tX_0) rfl rfl rfl hl.1 rfl (Nat.le_of_ble_eq_true rfl) dX11_isChild_1) (fun w_1 H locs hw_w_1 hP hD hS => ?_)
  obtain ⟨hW_w_1, hs_w_1⟩ := hw_w_1
  refine lv_iload_n hx hb dX11_isChild_4 rfl (lv_at hl 1 rfl) ?_
  refine lv_if_lt (tgt := 23) hx hb dX11_isChild_5 (by decide) (fun c_3 => ?_) (fun c_3 => ?_)
  · refine lv_iconst (v := 0) hx hb dX11_isChild_23 (by decide) ?_
    exact hret _ _ _ _ _ _ hP hD hS dX11_isChild_24 (In_lit (n := 0) (by decide) (by decide) : In 0 1 0) ⟨hW_w_1, (Sm.rf.tr hs_w_1 (by decide)), (In_lit (n := 0) (by decide) (by decide) : In 0 1 0), (fun h => absurd rfl h)⟩
  · refine lv_iload_n hx hb dX11_isChild_8 rfl (lv_at hl 1 rfl) ?_
    refine lv_aload_n hx hb dX11_isChild_9 rfl (lv_at hl 0 rfl) ?_
    refine gt_X11 hx hb hts hown hK hP 0 (hW_w_1.o tX_0) 5 (by decide) wd_678 rfl (hW_w_1.fr tX_0 rfl) dX11_isChild_10 ?_
    refine gt_X6 hx hb hts hown hK hP 42 (hW_w_1.o tX_42) 2 (by decide) wd_296 rfl (hW_w_1.fi tX_42 rfl) dX11_isChild_13 ?_
    refine lv_icmp_ge (tgt := 23) hx hb dX11_isChild_16 (by decide) (fun c_4 => ?_) (fun c_4 => ?_)
    · refine lv_iconst (v := 0) hx hb dX11_isChild_23 (by decide) ?_
      exact hret _ _ _ _ _ _ hP hD hS dX11_isChild_24 (In_lit (n := 0) (by decide) (by decide) : In 0 1 0) ⟨hW_w_1, (Sm.rf.tr hs_w_1 (by decide)), (In_lit (n := 0) (by decide) (by decide) : In 0 1 0), (fun h => absurd rfl h)⟩
    · refine lv_iconst (v := 1) hx hb dX11_isChild_19 (by decide) ?_
      refine lv_goto (tgt := 24) hx hb dX11_isChild_20 (by decide) ?_
      exact hret _ _ _ _ _ _ hP hD hS dX11_isChild_24 (In_lit (n := 1) (by decide) (by decide) : In 0 1 1) ⟨hW_w_1, (Sm.rf.tr hs_w_1 (by decide)), (In_lit (n := 1) (by decide) (by decide) : In 0 1 1), (fun h => ⟨(R_nle_l (hW_w_1.fin tX_42 rfl : In 0 40 (fI w_1 42 2)) (R_nlt_l (In_any _) (In_lit (n := 0) (by decide) (by decide) : In 0 0 0) c_3 (by decide) : In 0 2147483647 p1) c_4 (by decide) : In 1 40 (fI w_1 42 2)), (R_nle_r (hW_w_1.fin tX_42 rfl : In 0 40 (fI w_1 42 2)) (R_nlt_l (In_any _) (In_lit (n := 0) (by decide) (by decide) : In 0 0 0) c_3 (by decide) : In 0 2147483647 p1) c_4 (by decide) : In 0 39 p1)⟩)⟩
set_option maxRecDepth 100000 in
set_option maxHeartbeats 8000000 in
theorem k_X6_mates (l : Launch) (D : va_G) (cI cJ cZ : ClassId) (q : Nat → Nat) (bb bs bp : Nat) (w : va_W) (hW_w : HT q (TX q cI cJ cZ bb bs bp) w) (p1 : Int32) (i_p1 : In 0 39 p1) (hf_42_2 : In 1 40 (fI w 42 2)) : Con_i l yX6_mates cX6_mates 4 (some .int) ({ frames := 0, cells := 0, slots := 0, locals := 0 }) D cI cJ cZ eW [.ref (q 42), .int p1] w (fun (r : Int32) (w1 : va_W) => HT q (TX q cI cJ cZ bb bs bp) w1 ∧ Sm [] [] w w1) := by
  refine eQ_i rfl (by decide) (Nat.le_of_ble_eq_true rfl) ⟨rfl, rfl⟩ ?_
  intro p e R s m args below meth c A Q hx hb hml hown hts hK hE hA hR hret hP hD hS ls hl
  have hown : s.vm.findClass RX6 = some m.cls := hown
  have hl : lv_has ls 4 [(0, .ref (q 42)), (1, .int p1)] := hl
  have J15 : ∀ (N : Nat) (x15_2 : Int32) (x15_3 : Int32) (w15 : va_W) (H : Heap) (locs : List Loc) (ls : Array Slot), (40 - x15_3.toInt).toNat < N → HT q (TX q cI cJ cZ bb bs bp) w15 → Sm [] [] w w15 → (In 0 39 p1) → (In 0 40 x15_3) → (In 1 40 (fI w15 42 2)) → va_P D vwCl w15 H → va_D A w15 → va_S A s.heap H locs → lv_has ls 4 [(0, .ref (q 42)), (1, .int p1), (2, .int x15_2), (3, .int x15_3)] → W p l e R s m args below meth c H locs 0 0 Q (F0 m 15 ls []) := by
    intro N
    induction N with
    | zero => intro x15_2 x15_3 w15 H locs ls hmu; exact absurd hmu (Nat.not_lt_zero _)
    | succ N ih15 =>
      intro x15_2 x15_3 w15 H locs ls hmu15 hW_w15 hM_w15 i_x15_1 i_x15_3 g15_42_2 hP hD hS hl
      have J41 : ∀ (x41_2 : Int32) (w41 : va_W) (H : Heap) (locs : List Loc) (ls : Array Slot), HT q (TX q cI cJ cZ bb bs bp) w41 → Sm [] [] w w41 → (In 0 39 p1) → (In 0 39 x15_3) → (In 1 40 (fI w41 42 2)) → va_P D vwCl w41 H → va_D A w41 → va_S A s.heap H locs → lv_has ls 4 [(0, .ref (q 42)), (1, .int p1), (2, .int x41_2), (3, .int x15_3)] → W p l e R s m args below meth c H locs 0 0 Q (F0 m 41 ls []) := by
        intro x41_2 w41 H locs ls hW_w41 hM_w41 i_x41_1 i_x41_3 g41_42_2 hP hD hS hl
        refine lv_iinc (v := (x15_3 + 1)) (lv' := [(3, .int (x15_3 + 1)), (0, .ref (q 42)), (1, .int p1), (2, .int x41_2)]) hx hb dX6_mates_41 hl (k := 3) rfl (rfl) (by decide) rfl (fun ls hl => ?_)
        refine lv_goto (tgt := 15) hx hb dX6_mates_44 (by decide) ?_
        exact ih15 x41_2 (x15_3 + 1) w41 _ _ ls (mu_inc hmu15 i_x41_3 (In_lit (n := 1) (by decide) (by decide) : In 1 1 1) (by decide)) hW_w41 hM_w41 i_p1 (In_w ((In_add (y := 1) i_x41_3 (In_lit (n := 1) (by decide) (by decide) : In 1 1 1) (by decide)) : In 1 40 (x15_3 + 1)) (by decide) : In 0 40 (x15_3 + 1)) (In_of (hM_w41.gI (by decide)) (In_of (hM_w41.gI (by decide)).symm g41_42_2)) hP hD hS (lv_sub hl [1, 2, 3, 0] rfl)
      refine lv_iload_n hx hb dX6_mates_15 rfl (lv_at hl 3 rfl) ?_
      refine lv_aload_n hx hb dX6_mates_16 rfl (lv_at hl 0 rfl) ?_
      refine gt_X6 hx hb hts hown hK hP 42 (hW_w15.o tX_42) 2 (by decide) wd_295 rfl (hW_w15.fi tX_42 rfl) dX6_mates_17 ?_
      refine tov (v := (fI w 42 2)) (hM_w15.gI (by decide)) ?_
      refine lv_icmp_ge (tgt := 47) hx hb dX6_mates_20 (by decide) (fun c_1 => ?_) (fun c_1 => ?_)
      · refine lv_iload_n hx hb dX6_mates_47 rfl (lv_at hl 2 rfl) ?_
        exact hret _ _ _ _ _ _ hP hD hS dX6_mates_48 ⟨hW_w15, hM_w15⟩
      · refine lv_aload_n hx hb dX6_mates_23 rfl (lv_at hl 0 rfl) ?_
        refine gt_X6 hx hb hts hown hK hP 42 (hW_w15.o tX_42) 8 (by decide) wd_307 rfl (hW_w15.fr tX_42 rfl) dX6_mates_24 ?_
        refine lv_iload_n hx hb dX6_mates_27 rfl (lv_at hl 3 rfl) ?_
        refine va_iald hx hb hK hP 48 0 (hW_w15.a tX_48) rfl (in_I (R_nle_r (In_of (hM_w15.gI (by decide)).symm g15_42_2) i_x15_3 c_1 (by decide) : In 0 39 x15_3) (by decide)) dX6_mates_28 ?_
        refine lv_topi (fun v_2 ev_2 => ?_)
        refine lv_aload_n hx hb dX6_mates_29 rfl (lv_at hl 0 rfl) ?_
        refine gt_X6 hx hb hts hown hK hP 42 (hW_w15.o tX_42) 8 (by decide) wd_307 rfl (hW_w15.fr tX_42 rfl) dX6_mates_30 ?_
        refine lv_iload_n hx hb dX6_mates_33 rfl (lv_at hl 1 rfl) ?_
        refine va_iald hx hb hK hP 48 0 (hW_w15.a tX_48) rfl (in_I i_p1 (by decide)) dX6_mates_34 ?_
        refine lv_topi (fun v_3 ev_3 => ?_)
        refine lv_icmp_ne (tgt := 41) hx hb dX6_mates_35 (by decide) (fun c_4 => ?_) (fun c_4 => ?_)
        · exact J41 x15_2 w15 _ _ ls hW_w15 hM_w15 i_p1 (R_nle_r (In_of (hM_w15.gI (by decide)).symm g15_42_2) i_x15_3 c_1 (by decide) : In 0 39 x15_3) (In_of (hM_w15.gI (by decide)) (In_of (hM_w15.gI (by decide)).symm g15_42_2)) hP hD hS (lv_sub hl [0, 1, 2, 3] rfl)
        · refine lv_iinc (v := (x15_2 + 1)) (lv' := [(2, .int (x15_2 + 1)), (0, .ref (q 42)), (1, .int p1), (3, .int x15_3)]) hx hb dX6_mates_38 hl (k := 2) rfl (rfl) (by decide) rfl (fun ls hl => ?_)
          exact J41 (x15_2 + 1) w15 _ _ ls hW_w15 hM_w15 i_p1 (R_nle_r (In_of (hM_w15.gI (by decide)).symm g15_42_2) i_x15_3 c_1 (by decide) : In 0 39 x15_3) (In_of (hM_w15.gI (by decide)) (In_of (hM_w15.gI (by decide)).symm g15_42_2)) hP hD hS (lv_sub hl [1, 2, 0, 3] rfl)
  refine lv_aload_n hx hb dX6_mates_0 rfl (lv_at hl 0 rfl) ?_
  refine gt_X6 hx hb hts hown hK hP 42 (hW_w.o tX_42) 8 (by decide) wd_307 rfl (hW_w.fr tX_42 rfl) dX6_mates_1 ?_
  refine lv_iload_n hx hb dX6_mates_4 rfl (lv_at hl 1 rfl) ?_
  refine va_iald hx hb hK hP 48 0 (hW_w.a tX_48) rfl (in_I i_p1 (by decide)) dX6_mates_5 ?_
  refine lv_topi (fun v_5 ev_5 => ?_)
  refine lv_if_ne (tgt := 11) hx hb dX6_mates_6 (by decide) (fun c_6 => ?_) (fun c_6 => ?_)
  · refine lv_iconst (v := 0) hx hb dX6_mates_11 (by decide) ?_
    refine lv_istore_n (lv' := [(2, .int 0), (0, .ref (q 42)), (1, .int p1)]) hx hb dX6_mates_12 rfl hl (by decide) rfl (fun ls hl => ?_)
    refine lv_iconst (v := 0) hx hb dX6_mates_13 (by decide) ?_
    refine lv_istore_n (lv' := [(3, .int 0), (2, .int 0), (0, .ref (q 42)), (1, .int p1)]) hx hb dX6_mates_14 rfl hl (by decide) rfl (fun ls hl => ?_)
    exact J15 _ 0 0 w _ _ ls (Nat.lt_succ_self _) hW_w Sm.rf i_p1 (In_lit (n := 0) (by decide) (by decide) : In 0 40 0) hf_42_2 hP hD hS (lv_sub hl [2, 3, 1, 0] rfl)
  · refine lv_iconst (v := 1) hx hb dX6_mates_9 (by decide) ?_
    exact hret _ _ _ _ _ _ hP hD hS dX6_mates_10 ⟨hW_w, Sm.rf⟩
