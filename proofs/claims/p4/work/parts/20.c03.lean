set_option maxRecDepth 100000 in
set_option maxHeartbeats 8000000 in
theorem k_X8_readsClause (l : Launch) (D : va_G) (cI cJ cZ : ClassId) (q : Nat → Nat) (bb bs : Nat) (w : va_W) (hW_w : HT q (TX q cI cJ cZ bb bs 16) w) (p1 : Int32) (hf_34_4 : In 0 0 (fI w 34 4)) : Con_i l yX8_readsClause cX8_readsClause 5 (some .boolean) ({ frames := 32, cells := 0, slots := 0, locals := 1602 }) D cI cJ cZ eW [.ref (q 34), .int p1] w (fun (r : Int32) (w1 : va_W) => HT q (TX q cI cJ cZ bb bs 16) w1 ∧ Sm [16, 23, 24, 25, 26, 27, 29, 30, 31, 34] [(16, 8), (16, 17), (16, 19), (31, 3), (31, 4), (31, 5), (31, 6), (31, 7), (34, 2), (34, 3), (34, 4)] w w1 ∧ In 0 1 r ∧ (¬ r = 0 → fI w1 34 4 = fI w 34 4 ∧ In 1 24 (fI w1 16 8) ∧ In 0 0 (fI w1 34 4) ∧ In 6 10 p1)) := by
  refine eQ_z rfl (by decide) (Nat.le_of_ble_eq_true rfl) ⟨rfl, rfl⟩ ?_
  intro p e R s m args below meth c A Q hx hb hml hown hts hK hE hA hR hret hP hD hS ls hl
  have hown : s.vm.findClass RX8 = some m.cls := hown
  have hl : lv_has ls 5 [(0, .ref (q 34)), (1, .int p1)] := hl
  have J114 : ∀ (x114_2 : Int32) (x114_3 : Int32) (w114 : va_W) (H : Heap) (locs : List Loc) (ls : Array Slot), HT q (TX q cI cJ cZ bb bs 16) w114 → Sm [16, 23, 24, 25, 26, 27, 29, 30, 31, 34] [(16, 8), (16, 17), (16, 19), (31, 3), (31, 4), (31, 5), (31, 6), (31, 7), (34, 2), (34, 3), (34, 4)] w w114 → (In 6 10 p1) → (In 0 1000 x114_2) → (In 0 1000 x114_3) → (In 0 23 (fI w114 16 8)) → (fI w114 34 4 = (fI w 34 4)) → (In 0 0 (fI w 34 4)) → va_P D vwCl w114 H → va_D A w114 → va_S A s.heap H locs → lv_has ls 5 [(0, .ref (q 34)), (1, .int p1), (2, .int x114_2), (3, .int x114_3)] → W p l e R s m args below meth c H locs 0 0 Q (F0 m 114 ls []) := by
    intro x114_2 x114_3 w114 H locs ls hW_w114 hM_w114 i_x114_1 i_x114_2 i_x114_3 g114_16_8 g114_34_4e g114_34_4 hP hD hS hl
    refine lv_aload_n hx hb dX8_readsClause_114 rfl (lv_at hl 0 rfl) ?_
    refine gt_X8 hx hb hts hown hK hP 34 (hW_w114.o tX_34) 1 (by decide) wd_228 rfl (hW_w114.fr tX_34 rfl) dX8_readsClause_115 ?_
    refine gt_X1 hx hb hts hown hK hP 16 (hW_w114.o tX_16) 17 (by decide) wd_87 rfl (hW_w114.fi tX_16 rfl) dX8_readsClause_118 ?_
    refine lv_istore (lv' := [(4, .int (fI w114 16 17)), (0, .ref (q 34)), (1, .int p1), (2, .int x114_2), (3, .int x114_3)]) hx hb dX8_readsClause_121 hl (by decide) rfl (fun ls hl => ?_)
    refine lv_aload_n hx hb dX8_readsClause_123 rfl (lv_at hl 1 rfl) ?_
    refine lv_sipush (v := 267) hx hb dX8_readsClause_124 (by decide) ?_
    refine kW_i ⟨rfl, rfl⟩ hP hD hS hA (rW_V (As := [.int 267]) (rest := []) hx hb hml hown hts hK hE hP hD (k_X8_passes l D cI cJ cZ q bb bs w114 hW_w114 267 (In_lit (n := 267) (by decide) (by decide) : In 41 271 267) _) ⟨⟨rfl, rfl⟩, rfl, rfl⟩ sv_X8_97 ⟨(Nat.le_trans (by decide) hR.1), (Nat.le_trans (by decide) hR.2)⟩ 34 8 (hW_w114.o tX_34) rfl rfl rfl hl.1 rfl (Nat.le_of_ble_eq_true rfl) dX8_readsClause_127) (fun r_2 w_1 H locs hw_w_1 hP hD hS => ?_)
    obtain ⟨hW_w_1, hs_w_1, i_r_2⟩ := hw_w_1
    refine lv_if_eq (tgt := 141) hx hb dX8_readsClause_130 (by decide) (fun c_3 => ?_) (fun c_3 => ?_)
    · refine lv_iconst (v := 0) hx hb dX8_readsClause_141 (by decide) ?_
      exact hret _ _ _ _ _ _ hP hD hS dX8_readsClause_142 (In_lit (n := 0) (by decide) (by decide) : In 0 1 0) ⟨hW_w_1, (hM_w114.tr hs_w_1 (by decide)), (In_lit (n := 0) (by decide) (by decide) : In 0 1 0), (fun h => absurd rfl h)⟩
    · refine lv_aload_n hx hb dX8_readsClause_133 rfl (lv_at hl 1 rfl) ?_
      refine lv_iconst (v := 0) hx hb dX8_readsClause_134 (by decide) ?_
      refine kW_i ⟨rfl, rfl⟩ hP hD hS hA (rW_V (As := [.int 0]) (rest := []) hx hb hml hown hts hK hE hP hD (k_X8_readsEither_all 8 l D cI cJ cZ q bb bs w_1 hW_w_1 0 (In_lit (n := 0) (by decide) (by decide) : In 0 1 0) (In_of (hs_w_1.gI (by decide)) g114_16_8) (by have e34_4 : (fI w_1 34 4).toInt = ((fI w 34 4) : Int32).toInt := congrArg Int32.toInt ((hs_w_1.2 34 4 (by decide) (by decide)).trans g114_34_4e); have i34_4 := hf_34_4; unfold In at i34_4; have qv := hf_34_4; unfold In at qv; omega) _) ⟨⟨rfl, rfl⟩, rfl, rfl⟩ sv_X8_139 ⟨(by have h : 32 ≤ R.frames := hR.1; show 3 * 8 + 7 + 1 ≤ R.frames; omega), (by have h : 1602 ≤ R.locals := hR.2; show 8 + (3 + 11) + (150 * 8 + 380) ≤ R.locals; omega)⟩ 34 8 (hW_w_1.o tX_34) rfl rfl rfl hl.1 rfl (Nat.le_of_ble_eq_true rfl) dX8_readsClause_135) (fun r_5 w_4 H locs hw_w_4 hP hD hS => ?_)
      obtain ⟨hW_w_4, hs_w_4, i_r_5, h_6⟩ := hw_w_4
      refine lv_if_ne (tgt := 143) hx hb dX8_readsClause_138 (by decide) (fun c_7 => ?_) (fun c_7 => ?_)
      · refine lv_aload_n hx hb dX8_readsClause_143 rfl (lv_at hl 1 rfl) ?_
        refine gt_X8 hx hb hts hown hK hP 34 (hW_w_4.o tX_34) 1 (by decide) wd_228 rfl (hW_w_4.fr tX_34 rfl) dX8_readsClause_144 ?_
        refine lv_iload_n hx hb dX8_readsClause_147 rfl (lv_at hl 2 rfl) ?_
        refine lv_iload_n hx hb dX8_readsClause_148 rfl (lv_at hl 3 rfl) ?_
        refine lv_iload_n hx hb dX8_readsClause_149 rfl (lv_at hl 4 rfl) ?_
        refine lv_iload hx hb dX8_readsClause_150 (lv_at hl 0 rfl) ?_
        refine kW_v ⟨rfl, rfl⟩ hP hD hS hA (rW_V (As := [.int p1, .int x114_2, .int x114_3, .int (fI w114 16 17)]) (rest := []) hx hb hml hown hts hK hE hP hD (k_X1_addOther_at16 l D cI cJ cZ q bb bs 16 w_4 hW_w_4 p1 x114_2 x114_3 (fI w114 16 17) (In_w i_x114_1 (by decide) : In 6 11 p1) i_x114_2 i_x114_3 (hW_w114.fin tX_16 rfl : In 0 1000 (fI w114 16 17)) (In_of ((hs_w_4.2 16 8 (by decide) (by decide)).trans (hs_w_1.gI (by decide))) g114_16_8) (In_of ((h_6 c_7).trans ((hs_w_1.2 34 4 (by decide) (by decide)).trans g114_34_4e)) hf_34_4) _) ⟨⟨rfl, rfl⟩, rfl, rfl⟩ sv_X8_132 ⟨(Nat.le_trans (by decide) hR.1), (Nat.le_trans (by decide) hR.2)⟩ 16 1 (hW_w_4.o tX_16) rfl rfl rfl hl.1 rfl (Nat.le_of_ble_eq_true rfl) dX8_readsClause_152) (fun w_8 H locs hw_w_8 hP hD hS => ?_)
        obtain ⟨hW_w_8, hs_w_8, h_10⟩ := hw_w_8
        refine lv_aload_n hx hb dX8_readsClause_155 rfl (lv_at hl 1 rfl) ?_
        refine lv_bipush (v := 59) hx hb dX8_readsClause_156 (by decide) ?_
        refine kW_i ⟨rfl, rfl⟩ hP hD hS hA (rW_V (As := [.int 59]) (rest := []) hx hb hml hown hts hK hE hP hD (k_X8_passes l D cI cJ cZ q bb bs w_8 hW_w_8 59 (In_lit (n := 59) (by decide) (by decide) : In 41 271 59) _) ⟨⟨rfl, rfl⟩, rfl, rfl⟩ sv_X8_97 ⟨(Nat.le_trans (by decide) hR.1), (Nat.le_trans (by decide) hR.2)⟩ 34 8 (hW_w_8.o tX_34) rfl rfl rfl hl.1 rfl (Nat.le_of_ble_eq_true rfl) dX8_readsClause_158) (fun r_12 w_11 H locs hw_w_11 hP hD hS => ?_)
        obtain ⟨hW_w_11, hs_w_11, i_r_12⟩ := hw_w_11
        exact hret _ _ _ _ _ _ hP hD hS dX8_readsClause_161 i_r_12 ⟨hW_w_11, ((((hM_w114.tr hs_w_1 (by decide)).tr hs_w_4 (by decide)).tr hs_w_8 (by decide)).tr hs_w_11 (by decide)), i_r_12, (fun h => ⟨((hs_w_11.2 34 4 (by decide) (by decide)).trans ((hs_w_8.gI (by decide)).trans ((h_6 c_7).trans ((hs_w_1.2 34 4 (by decide) (by decide)).trans g114_34_4e)))), (In_of (hs_w_11.gI (by decide)) h_10), (In_of ((hs_w_11.2 34 4 (by decide) (by decide)).trans ((hs_w_8.gI (by decide)).trans ((h_6 c_7).trans ((hs_w_1.2 34 4 (by decide) (by decide)).trans g114_34_4e)))) hf_34_4), i_x114_1⟩)⟩
      · refine lv_iconst (v := 0) hx hb dX8_readsClause_141 (by decide) ?_
        exact hret _ _ _ _ _ _ hP hD hS dX8_readsClause_142 (In_lit (n := 0) (by decide) (by decide) : In 0 1 0) ⟨hW_w_4, ((hM_w114.tr hs_w_1 (by decide)).tr hs_w_4 (by decide)), (In_lit (n := 0) (by decide) (by decide) : In 0 1 0), (fun h => absurd rfl h)⟩
  have J98 : ∀ (x98_2 : Int32) (x98_3 : Int32) (w98 : va_W) (H : Heap) (locs : List Loc) (ls : Array Slot), HT q (TX q cI cJ cZ bb bs 16) w98 → Sm [16, 23, 24, 25, 26, 27, 29, 30, 31, 34] [(16, 8), (16, 17), (16, 19), (31, 3), (31, 4), (31, 5), (31, 6), (31, 7), (34, 2), (34, 3), (34, 4)] w w98 → (In 6 10 p1) → (In 0 1000 x98_2) → (In 0 1000 x98_3) → (In 0 23 (fI w98 16 8)) → (fI w98 34 4 = (fI w 34 4)) → (In 0 0 (fI w 34 4)) → va_P D vwCl w98 H → va_D A w98 → va_S A s.heap H locs → lv_has ls 5 [(0, .ref (q 34)), (1, .int p1), (2, .int x98_2), (3, .int x98_3)] → W p l e R s m args below meth c H locs 0 0 Q (F0 m 98 ls []) := by
    intro x98_2 x98_3 w98 H locs ls hW_w98 hM_w98 i_x98_1 i_x98_2 i_x98_3 g98_16_8 g98_34_4e g98_34_4 hP hD hS hl
    refine lv_iload_n hx hb dX8_readsClause_98 rfl (lv_at hl 1 rfl) ?_
    refine lv_bipush (v := 10) hx hb dX8_readsClause_99 (by decide) ?_
    refine lv_icmp_eq (tgt := 114) hx hb dX8_readsClause_101 (by decide) (fun c_13 => ?_) (fun c_13 => ?_)
    · exact J114 x98_2 x98_3 w98 _ _ ls hW_w98 hM_w98 (In_w (R_eq_l i_x98_1 (In_lit (n := 10) (by decide) (by decide) : In 10 10 10) c_13 (by decide) : In 10 10 p1) (by decide) : In 6 10 p1) i_x98_2 i_x98_3 g98_16_8 g98_34_4e hf_34_4 hP hD hS (lv_sub hl [0, 1, 2, 3] rfl)
    · refine lv_aload_n hx hb dX8_readsClause_104 rfl (lv_at hl 0 rfl) ?_
      refine lv_iconst (v := 1) hx hb dX8_readsClause_105 (by decide) ?_
      refine kW_i ⟨rfl, rfl⟩ hP hD hS hA (rW_V (As := [.int 1]) (rest := []) hx hb hml hown hts hK hE hP hD (k_X8_readsEither_all 8 l D cI cJ cZ q bb bs w98 hW_w98 1 (In_lit (n := 1) (by decide) (by decide) : In 0 1 1) g98_16_8 (by have e34_4 : (fI w98 34 4).toInt = ((fI w 34 4) : Int32).toInt := congrArg Int32.toInt g98_34_4e; have i34_4 := hf_34_4; unfold In at i34_4; have qv := hf_34_4; unfold In at qv; omega) _) ⟨⟨rfl, rfl⟩, rfl, rfl⟩ sv_X8_139 ⟨(by have h : 32 ≤ R.frames := hR.1; show 3 * 8 + 7 + 1 ≤ R.frames; omega), (by have h : 1602 ≤ R.locals := hR.2; show 8 + (3 + 11) + (150 * 8 + 380) ≤ R.locals; omega)⟩ 34 8 (hW_w98.o tX_34) rfl rfl rfl hl.1 rfl (Nat.le_of_ble_eq_true rfl) dX8_readsClause_106) (fun r_15 w_14 H locs hw_w_14 hP hD hS => ?_)
      obtain ⟨hW_w_14, hs_w_14, i_r_15, h_16⟩ := hw_w_14
      refine lv_if_ne (tgt := 114) hx hb dX8_readsClause_109 (by decide) (fun c_17 => ?_) (fun c_17 => ?_)
      · exact J114 x98_2 x98_3 w_14 _ _ ls hW_w_14 (hM_w98.tr hs_w_14 (by decide)) (In_w (R_ne_l i_x98_1 (In_lit (n := 10) (by decide) (by decide) : In 10 10 10) c_13 (by decide) : In 6 9 p1) (by decide) : In 6 10 p1) i_x98_2 i_x98_3 (In_of (hs_w_14.2 16 8 (by decide) (by decide)) g98_16_8) ((h_16 c_17).trans g98_34_4e) hf_34_4 hP hD hS (lv_sub hl [0, 1, 2, 3] rfl)
      · refine lv_iconst (v := 0) hx hb dX8_readsClause_112 (by decide) ?_
        exact hret _ _ _ _ _ _ hP hD hS dX8_readsClause_113 (In_lit (n := 0) (by decide) (by decide) : In 0 1 0) ⟨hW_w_14, (hM_w98.tr hs_w_14 (by decide)), (In_lit (n := 0) (by decide) (by decide) : In 0 1 0), (fun h => absurd rfl h)⟩
  have J72 : ∀ (x72_2 : Int32) (w72 : va_W) (H : Heap) (locs : List Loc) (ls : Array Slot), HT q (TX q cI cJ cZ bb bs 16) w72 → Sm [16, 23, 24, 25, 26, 27, 29, 30, 31, 34] [(16, 8), (16, 17), (16, 19), (31, 3), (31, 4), (31, 5), (31, 6), (31, 7), (34, 2), (34, 3), (34, 4)] w w72 → (In 6 10 p1) → (In 0 1000 x72_2) → (In 0 23 (fI w72 16 8)) → (fI w72 34 4 = (fI w 34 4)) → (In 0 0 (fI w 34 4)) → va_P D vwCl w72 H → va_D A w72 → va_S A s.heap H locs → lv_has ls 5 [(0, .ref (q 34)), (1, .int p1), (2, .int x72_2)] → W p l e R s m args below meth c H locs 0 0 Q (F0 m 72 ls []) := by
    intro x72_2 w72 H locs ls hW_w72 hM_w72 i_x72_1 i_x72_2 g72_16_8 g72_34_4e g72_34_4 hP hD hS hl
    refine lv_aload_n hx hb dX8_readsClause_72 rfl (lv_at hl 0 rfl) ?_
    refine gt_X8 hx hb hts hown hK hP 34 (hW_w72.o tX_34) 1 (by decide) wd_228 rfl (hW_w72.fr tX_34 rfl) dX8_readsClause_73 ?_
    refine gt_X1 hx hb hts hown hK hP 16 (hW_w72.o tX_16) 17 (by decide) wd_87 rfl (hW_w72.fi tX_16 rfl) dX8_readsClause_76 ?_
    refine lv_istore_n (lv' := [(3, .int (fI w72 16 17)), (0, .ref (q 34)), (1, .int p1), (2, .int x72_2)]) hx hb dX8_readsClause_79 rfl hl (by decide) rfl (fun ls hl => ?_)
    refine lv_iload_n hx hb dX8_readsClause_80 rfl (lv_at hl 2 rfl) ?_
    refine lv_bipush (v := 8) hx hb dX8_readsClause_81 (by decide) ?_
    refine lv_icmp_ne (tgt := 98) hx hb dX8_readsClause_83 (by decide) (fun c_18 => ?_) (fun c_18 => ?_)
    · exact J98 x72_2 (fI w72 16 17) w72 _ _ ls hW_w72 hM_w72 i_x72_1 i_x72_2 (hW_w72.fin tX_16 rfl : In 0 1000 (fI w72 16 17)) g72_16_8 g72_34_4e hf_34_4 hP hD hS (lv_sub hl [1, 2, 3, 0] rfl)
    · refine lv_aload_n hx hb dX8_readsClause_86 rfl (lv_at hl 1 rfl) ?_
      refine lv_sipush (v := 269) hx hb dX8_readsClause_87 (by decide) ?_
      refine kW_i ⟨rfl, rfl⟩ hP hD hS hA (rW_V (As := [.int 269]) (rest := []) hx hb hml hown hts hK hE hP hD (k_X8_passes l D cI cJ cZ q bb bs w72 hW_w72 269 (In_lit (n := 269) (by decide) (by decide) : In 41 271 269) _) ⟨⟨rfl, rfl⟩, rfl, rfl⟩ sv_X8_97 ⟨(Nat.le_trans (by decide) hR.1), (Nat.le_trans (by decide) hR.2)⟩ 34 8 (hW_w72.o tX_34) rfl rfl rfl hl.1 rfl (Nat.le_of_ble_eq_true rfl) dX8_readsClause_90) (fun r_20 w_19 H locs hw_w_19 hP hD hS => ?_)
      obtain ⟨hW_w_19, hs_w_19, i_r_20⟩ := hw_w_19
      refine lv_if_ne (tgt := 98) hx hb dX8_readsClause_93 (by decide) (fun c_21 => ?_) (fun c_21 => ?_)
      · exact J98 x72_2 (fI w72 16 17) w_19 _ _ ls hW_w_19 (hM_w72.tr hs_w_19 (by decide)) (In_w (R_eq_l i_x72_1 (In_lit (n := 8) (by decide) (by decide) : In 8 8 8) c_18 (by decide) : In 8 8 p1) (by decide) : In 6 10 p1) i_x72_2 (hW_w72.fin tX_16 rfl : In 0 1000 (fI w72 16 17)) (In_of (hs_w_19.gI (by decide)) g72_16_8) ((hs_w_19.2 34 4 (by decide) (by decide)).trans g72_34_4e) hf_34_4 hP hD hS (lv_sub hl [1, 2, 3, 0] rfl)
      · refine lv_iconst (v := 0) hx hb dX8_readsClause_96 (by decide) ?_
        exact hret _ _ _ _ _ _ hP hD hS dX8_readsClause_97 (In_lit (n := 0) (by decide) (by decide) : In 0 1 0) ⟨hW_w_19, (hM_w72.tr hs_w_19 (by decide)), (In_lit (n := 0) (by decide) (by decide) : In 0 1 0), (fun h => absurd rfl h)⟩
  have J24 : ∀ (w24 : va_W) (H : Heap) (locs : List Loc) (ls : Array Slot), HT q (TX q cI cJ cZ bb bs 16) w24 → Sm [16, 23, 24, 25, 26, 27, 29, 30, 31, 34] [(16, 8), (16, 17), (16, 19), (31, 3), (31, 4), (31, 5), (31, 6), (31, 7), (34, 2), (34, 3), (34, 4)] w w24 → (In 6 10 p1) → (fI w24 34 4 = (fI w 34 4)) → (In 0 0 (fI w 34 4)) → va_P D vwCl w24 H → va_D A w24 → va_S A s.heap H locs → lv_has ls 5 [(0, .ref (q 34)), (1, .int p1)] → W p l e R s m args below meth c H locs 0 0 Q (F0 m 24 ls []) := by
    intro w24 H locs ls hW_w24 hM_w24 i_x24_1 g24_34_4e g24_34_4 hP hD hS hl
    refine lv_aload_n hx hb dX8_readsClause_24 rfl (lv_at hl 0 rfl) ?_
    refine gt_X8 hx hb hts hown hK hP 34 (hW_w24.o tX_34) 1 (by decide) wd_228 rfl (hW_w24.fr tX_34 rfl) dX8_readsClause_25 ?_
    refine gt_X1 hx hb hts hown hK hP 16 (hW_w24.o tX_16) 8 (by decide) wd_66 rfl (hW_w24.fi tX_16 rfl) dX8_readsClause_28 ?_
    refine lv_bipush (v := 24) hx hb dX8_readsClause_31 (by decide) ?_
    refine lv_icmp_lt (tgt := 42) hx hb dX8_readsClause_33 (by decide) (fun c_22 => ?_) (fun c_22 => ?_)
    · refine lv_aload_n hx hb dX8_readsClause_42 rfl (lv_at hl 0 rfl) ?_
      refine gt_X8 hx hb hts hown hK hP 34 (hW_w24.o tX_34) 0 (by decide) wd_227 rfl (hW_w24.fr tX_34 rfl) dX8_readsClause_43 ?_
      refine kW_v ⟨rfl, rfl⟩ hP hD hS hA (rW_V (As := []) (rest := []) hx hb hml hown hts hK hE hP hD (k_X10_step l D cI cJ cZ q bb bs 16 w24 hW_w24  _) ⟨⟨rfl, rfl⟩, rfl, rfl⟩ sv_X8_59 ⟨(Nat.le_trans (by decide) hR.1), (Nat.le_trans (by decide) hR.2)⟩ 31 10 (hW_w24.o tX_31) rfl rfl rfl hl.1 rfl (Nat.le_of_ble_eq_true rfl) dX8_readsClause_46) (fun w_23 H locs hw_w_23 hP hD hS => ?_)
      obtain ⟨hW_w_23, hs_w_23⟩ := hw_w_23
      refine lv_aload_n hx hb dX8_readsClause_49 rfl (lv_at hl 0 rfl) ?_
      refine gt_X8 hx hb hts hown hK hP 34 (hW_w_23.o tX_34) 1 (by decide) wd_228 rfl (hW_w_23.fr tX_34 rfl) dX8_readsClause_50 ?_
      refine gt_X1 hx hb hts hown hK hP 16 (hW_w_23.o tX_16) 17 (by decide) wd_87 rfl (hW_w_23.fi tX_16 rfl) dX8_readsClause_53 ?_
      refine tov (v := (fI w24 16 17)) (hs_w_23.gI (by decide)) ?_
      refine lv_istore_n (lv' := [(2, .int (fI w24 16 17)), (0, .ref (q 34)), (1, .int p1)]) hx hb dX8_readsClause_56 rfl hl (by decide) rfl (fun ls hl => ?_)
      refine lv_iload_n hx hb dX8_readsClause_57 rfl (lv_at hl 2 rfl) ?_
      refine lv_bipush (v := 6) hx hb dX8_readsClause_58 (by decide) ?_
      refine lv_icmp_eq (tgt := 72) hx hb dX8_readsClause_60 (by decide) (fun c_25 => ?_) (fun c_25 => ?_)
      · exact J72 (fI w24 16 17) w_23 _ _ ls hW_w_23 (hM_w24.tr hs_w_23 (by decide)) (In_w (R_eq_l i_x24_1 (In_lit (n := 6) (by decide) (by decide) : In 6 6 6) c_25 (by decide) : In 6 6 p1) (by decide) : In 6 10 p1) (hW_w24.fin tX_16 rfl : In 0 1000 (fI w24 16 17)) (In_of (hs_w_23.gI (by decide)) (R_lt_l (hW_w24.fin tX_16 rfl : In 0 24 (fI w24 16 8)) (In_lit (n := 24) (by decide) (by decide) : In 24 24 24) c_22 (by decide) : In 0 23 (fI w24 16 8))) ((hs_w_23.gI (by decide)).trans g24_34_4e) hf_34_4 hP hD hS (lv_sub hl [1, 2, 0] rfl)
      · refine lv_aload_n hx hb dX8_readsClause_63 rfl (lv_at hl 1 rfl) ?_
        refine kW_i ⟨rfl, rfl⟩ hP hD hS hA (rW_V (As := []) (rest := []) hx hb hml hown hts hK hE hP hD (k_X8_readsSum_all 8 l D cI cJ cZ q bb bs w_23 hW_w_23 (In_of (hs_w_23.gI (by decide)) (R_lt_l (hW_w24.fin tX_16 rfl : In 0 24 (fI w24 16 8)) (In_lit (n := 24) (by decide) (by decide) : In 24 24 24) c_22 (by decide) : In 0 23 (fI w24 16 8))) (by have e34_4 : (fI w_23 34 4).toInt = ((fI w 34 4) : Int32).toInt := congrArg Int32.toInt ((hs_w_23.gI (by decide)).trans g24_34_4e); have i34_4 := hf_34_4; unfold In at i34_4; have qv := hf_34_4; unfold In at qv; omega) _) ⟨⟨rfl, rfl⟩, rfl, rfl⟩ sv_X8_136 ⟨(by have h : 32 ≤ R.frames := hR.1; show 2 * 8 + 4 + 1 ≤ R.frames; omega), (by have h : 1602 ≤ R.locals := hR.2; show 8 + (3 + 11) + (100 * 8 + 200) ≤ R.locals; omega)⟩ 34 8 (hW_w_23.o tX_34) rfl rfl rfl hl.1 rfl (Nat.le_of_ble_eq_true rfl) dX8_readsClause_64) (fun r_27 w_26 H locs hw_w_26 hP hD hS => ?_)
        obtain ⟨hW_w_26, hs_w_26, i_r_27, h_28⟩ := hw_w_26
        refine lv_if_ne (tgt := 72) hx hb dX8_readsClause_67 (by decide) (fun c_29 => ?_) (fun c_29 => ?_)
        · exact J72 (fI w24 16 17) w_26 _ _ ls hW_w_26 ((hM_w24.tr hs_w_23 (by decide)).tr hs_w_26 (by decide)) (In_w (R_ne_l i_x24_1 (In_lit (n := 6) (by decide) (by decide) : In 6 6 6) c_25 (by decide) : In 7 10 p1) (by decide) : In 6 10 p1) (hW_w24.fin tX_16 rfl : In 0 1000 (fI w24 16 17)) (In_of ((hs_w_26.2 16 8 (by decide) (by decide)).trans (hs_w_23.gI (by decide))) (R_lt_l (hW_w24.fin tX_16 rfl : In 0 24 (fI w24 16 8)) (In_lit (n := 24) (by decide) (by decide) : In 24 24 24) c_22 (by decide) : In 0 23 (fI w24 16 8))) ((h_28 c_29).1.trans ((hs_w_23.gI (by decide)).trans g24_34_4e)) hf_34_4 hP hD hS (lv_sub hl [1, 2, 0] rfl)
        · refine lv_iconst (v := 0) hx hb dX8_readsClause_70 (by decide) ?_
          exact hret _ _ _ _ _ _ hP hD hS dX8_readsClause_71 (In_lit (n := 0) (by decide) (by decide) : In 0 1 0) ⟨hW_w_26, ((hM_w24.tr hs_w_23 (by decide)).tr hs_w_26 (by decide)), (In_lit (n := 0) (by decide) (by decide) : In 0 1 0), (fun h => absurd rfl h)⟩
    · refine lv_aload_n hx hb dX8_readsClause_36 rfl (lv_at hl 0 rfl) ?_
      refine lv_iconst (v := 5) hx hb dX8_readsClause_37 (by decide) ?_
      refine kW_i ⟨rfl, rfl⟩ hP hD hS hA (rW_V (As := [.int 5]) (rest := []) hx hb hml hown hts hK hE hP hD (k_X8_fails l D cI cJ cZ q bb bs w24 hW_w24 5 (In_lit (n := 5) (by decide) (by decide) : In 1 5 5) _) ⟨⟨rfl, rfl⟩, rfl, rfl⟩ sv_X8_56 ⟨(Nat.le_trans (by decide) hR.1), (Nat.le_trans (by decide) hR.2)⟩ 34 8 (hW_w24.o tX_34) rfl rfl rfl hl.1 rfl (Nat.le_of_ble_eq_true rfl) dX8_readsClause_38) (fun r_31 w_30 H locs hw_w_30 hP hD hS => ?_)
      obtain ⟨hW_w_30, hs_w_30, i_r_31⟩ := hw_w_30
      refine tov (v := 0) (In_one i_r_31 (by decide)) ?_
      exact hret _ _ _ _ _ _ hP hD hS dX8_readsClause_41 (In_lit (n := 0) (by decide) (by decide) : In 0 1 0) ⟨hW_w_30, (hM_w24.tr hs_w_30 (by decide)), (In_lit (n := 0) (by decide) (by decide) : In 0 1 0), (fun h => absurd rfl h)⟩
  refine lv_iload_n hx hb dX8_readsClause_0 rfl (lv_at hl 1 rfl) ?_
  refine lv_bipush (v := 6) hx hb dX8_readsClause_1 (by decide) ?_
  refine lv_icmp_eq (tgt := 24) hx hb dX8_readsClause_3 (by decide) (fun c_32 => ?_) (fun c_32 => ?_)
  · exact J24 w _ _ ls hW_w Sm.rf (In_w (R_eq_l (In_any _) (In_lit (n := 6) (by decide) (by decide) : In 6 6 6) c_32 (by decide) : In 6 6 p1) (by decide) : In 6 10 p1) rfl hf_34_4 hP hD hS (lv_sub hl [0, 1] rfl)
  · refine lv_iload_n hx hb dX8_readsClause_6 rfl (lv_at hl 1 rfl) ?_
    refine lv_bipush (v := 8) hx hb dX8_readsClause_7 (by decide) ?_
    refine lv_icmp_eq (tgt := 24) hx hb dX8_readsClause_9 (by decide) (fun c_33 => ?_) (fun c_33 => ?_)
    · exact J24 w _ _ ls hW_w Sm.rf (In_w (R_eq_l (In_any _) (In_lit (n := 8) (by decide) (by decide) : In 8 8 8) c_33 (by decide) : In 8 8 p1) (by decide) : In 6 10 p1) rfl hf_34_4 hP hD hS (lv_sub hl [0, 1] rfl)
    · refine lv_iload_n hx hb dX8_readsClause_12 rfl (lv_at hl 1 rfl) ?_
      refine lv_bipush (v := 10) hx hb dX8_readsClause_13 (by decide) ?_
      refine lv_icmp_eq (tgt := 24) hx hb dX8_readsClause_15 (by decide) (fun c_34 => ?_) (fun c_34 => ?_)
      · exact J24 w _ _ ls hW_w Sm.rf (In_w (R_eq_l (In_any _) (In_lit (n := 10) (by decide) (by decide) : In 10 10 10) c_34 (by decide) : In 10 10 p1) (by decide) : In 6 10 p1) rfl hf_34_4 hP hD hS (lv_sub hl [0, 1] rfl)
      · refine lv_aload_n hx hb dX8_readsClause_18 rfl (lv_at hl 0 rfl) ?_
        refine lv_iconst (v := 1) hx hb dX8_readsClause_19 (by decide) ?_
        refine kW_i ⟨rfl, rfl⟩ hP hD hS hA (rW_V (As := [.int 1]) (rest := []) hx hb hml hown hts hK hE hP hD (k_X8_fails l D cI cJ cZ q bb bs w hW_w 1 (In_lit (n := 1) (by decide) (by decide) : In 1 5 1) _) ⟨⟨rfl, rfl⟩, rfl, rfl⟩ sv_X8_56 ⟨(Nat.le_trans (by decide) hR.1), (Nat.le_trans (by decide) hR.2)⟩ 34 8 (hW_w.o tX_34) rfl rfl rfl hl.1 rfl (Nat.le_of_ble_eq_true rfl) dX8_readsClause_20) (fun r_36 w_35 H locs hw_w_35 hP hD hS => ?_)
        obtain ⟨hW_w_35, hs_w_35, i_r_36⟩ := hw_w_35
        refine tov (v := 0) (In_one i_r_36 (by decide)) ?_
        exact hret _ _ _ _ _ _ hP hD hS dX8_readsClause_23 (In_lit (n := 0) (by decide) (by decide) : In 0 1 0) ⟨hW_w_35, (Sm.rf.tr hs_w_35 (by decide)), (In_lit (n := 0) (by decide) (by decide) : In 0 1 0), (fun h => absurd rfl h)⟩
set_option maxRecDepth 100000 in
set_option maxHeartbeats 8000000 in
theorem k_X8_readsNumber_24 (l : Launch) (D : va_G) (cI cJ cZ : ClassId) (q : Nat → Nat) (bb bs : Nat) (w : va_W) (hW_w : HT q (TX q cI cJ cZ bb bs 16) w) (p1 : Int32) (p2 : Int32) (p3 : Int32) (p5 : Int32) (i_p1 : In 11 11 p1) (i_p2 : In 0 0 p2) (i_p3 : In 1000 1000 p3) (i_p5 : In 0 23 p5) (hf_16_8 : In 0 23 (fI w 16 8)) (hf_34_4 : In 0 0 (fI w 34 4)) : Con_i l yX8_readsNumber cX8_readsNumber 6 (some .boolean) ({ frames := 3, cells := 0, slots := 0, locals := 68 }) D cI cJ cZ eW [.ref (q 34), .int p1, .int p2, .int p3, .ref (q 24), .int p5] w (fun (r : Int32) (w1 : va_W) => HT q (TX q cI cJ cZ bb bs 16) w1 ∧ Sm [24, 31, 34] [(31, 3), (31, 4), (31, 5), (31, 6), (31, 7), (34, 2), (34, 3)] w w1 ∧ In 0 1 r) := by
  refine eQ_z rfl (by decide) (Nat.le_of_ble_eq_true rfl) ⟨rfl, rfl⟩ ?_
  intro p e R s m args below meth c A Q hx hb hml hown hts hK hE hA hR hret hP hD hS ls hl
  have hown : s.vm.findClass RX8 = some m.cls := hown
  have hl : lv_has ls 6 [(0, .ref (q 34)), (1, .int p1), (2, .int p2), (3, .int p3), (4, .ref (q 24)), (5, .int p5)] := hl
  refine lv_aload_n hx hb dX8_readsNumber_0 rfl (lv_at hl 0 rfl) ?_
  refine lv_sipush (v := 260) hx hb dX8_readsNumber_1 (by decide) ?_
  refine lv_iload_n hx hb dX8_readsNumber_4 rfl (lv_at hl 1 rfl) ?_
  refine lv_iadd hx hb dX8_readsNumber_5 ?_
  refine kW_i ⟨rfl, rfl⟩ hP hD hS hA (rW_V (As := [.int (260 + p1)]) (rest := []) hx hb hml hown hts hK hE hP hD (k_X8_passes l D cI cJ cZ q bb bs w hW_w (260 + p1) (In_w ((In_add (In_lit (n := 260) (by decide) (by decide) : In 260 260 260) i_p1 (by decide)) : In 271 271 (260 + p1)) (by decide) : In 41 271 (260 + p1)) _) ⟨⟨rfl, rfl⟩, rfl, rfl⟩ sv_X8_97 ⟨(Nat.le_trans (by decide) hR.1), (Nat.le_trans (by decide) hR.2)⟩ 34 8 (hW_w.o tX_34) rfl rfl rfl hl.1 rfl (Nat.le_of_ble_eq_true rfl) dX8_readsNumber_6) (fun r_2 w_1 H locs hw_w_1 hP hD hS => ?_)
  obtain ⟨hW_w_1, hs_w_1, i_r_2⟩ := hw_w_1
  refine lv_if_ne (tgt := 14) hx hb dX8_readsNumber_9 (by decide) (fun c_3 => ?_) (fun c_3 => ?_)
  · refine lv_aload_n hx hb dX8_readsNumber_14 rfl (lv_at hl 0 rfl) ?_
    refine gt_X8 hx hb hts hown hK hP 34 (hW_w_1.o tX_34) 0 (by decide) wd_227 rfl (hW_w_1.fr tX_34 rfl) dX8_readsNumber_15 ?_
    refine gt_X10 hx hb hts hown hK hP 31 (hW_w_1.o tX_31) 4 (by decide) wd_195 rfl (hW_w_1.fi tX_31 rfl) dX8_readsNumber_18 ?_
    refine lv_sipush (v := 259) hx hb dX8_readsNumber_21 (by decide) ?_
    refine lv_icmp_eq (tgt := 33) hx hb dX8_readsNumber_24 (by decide) (fun c_4 => ?_) (fun c_4 => ?_)
    · refine lv_aload_n hx hb dX8_readsNumber_33 rfl (lv_at hl 0 rfl) ?_
      refine gt_X8 hx hb hts hown hK hP 34 (hW_w_1.o tX_34) 0 (by decide) wd_227 rfl (hW_w_1.fr tX_34 rfl) dX8_readsNumber_34 ?_
      refine gt_X10 hx hb hts hown hK hP 31 (hW_w_1.o tX_31) 7 (by decide) wd_202 rfl (hW_w_1.fi tX_31 rfl) dX8_readsNumber_37 ?_
      refine lv_iload_n hx hb dX8_readsNumber_40 rfl (lv_at hl 2 rfl) ?_
      refine lv_iload_n hx hb dX8_readsNumber_41 rfl (lv_at hl 3 rfl) ?_
      refine kW_i ⟨rfl, rfl⟩ hP hD hS hA (rW_N (As := [.int (fI w_1 31 7), .int p2, .int p3]) (rest := []) hx hb hml hown hts hK hE hP hD (k_X11_within l D cI cJ cZ q bb bs 16 w_1 hW_w_1 (fI w_1 31 7) p2 p3 (In_w i_p2 (by decide) : In 0 278 p2) (In_w i_p3 (by decide) : In 2 100000 p3) _) ⟨⟨rfl, rfl⟩, rfl, rfl⟩ hE.1 ⟨⟨wd_785, wd_1, wd_786⟩, sv_X11_168.2⟩ ⟨(Nat.le_trans (by decide) hR.1), (Nat.le_trans (by decide) hR.2)⟩ rfl hl.1 rfl (Nat.le_of_ble_eq_true rfl) dX8_readsNumber_42) (fun r_6 w_5 H locs hw_w_5 hP hD hS => ?_)
      obtain ⟨hW_w_5, hs_w_5, i_r_6, h_7, h_8⟩ := hw_w_5
      refine lv_if_ne (tgt := 54) hx hb dX8_readsNumber_45 (by decide) (fun c_9 => ?_) (fun c_9 => ?_)
      · refine lv_aload hx hb dX8_readsNumber_54 (lv_at hl 4 rfl) ?_
        refine lv_iload hx hb dX8_readsNumber_56 (lv_at hl 5 rfl) ?_
        refine lv_aload_n hx hb dX8_readsNumber_58 rfl (lv_at hl 0 rfl) ?_
        refine gt_X8 hx hb hts hown hK hP 34 (hW_w_5.o tX_34) 0 (by decide) wd_227 rfl (hW_w_5.fr tX_34 rfl) dX8_readsNumber_59 ?_
        refine gt_X10 hx hb hts hown hK hP 31 (hW_w_5.o tX_31) 7 (by decide) wd_202 rfl (hW_w_5.fi tX_31 rfl) dX8_readsNumber_62 ?_
        refine tov (v := (fI w_1 31 7)) (hs_w_5.gI (by decide)) ?_
        refine va_iast hx hb hK hP hD hS 24 0 (hW_w_5.a tX_24) rfl (in_I i_p5 (by decide)) dX8_readsNumber_65 (fun H locs hP hD hS => fr_w (hW_w_5.uA tX_24 (by have q0 := h_8 c_9; have q1 := i_p2; have q2 := i_p3; have q3 := (h_7 c_9); unfold In at q1 q2 q3 ⊢; omega : In 0 1000 (fI w_1 31 7))) hP hD (fun w_10 ew_10 hW_w_10 hP hD => ?_))
        refine lv_aload_n hx hb dX8_readsNumber_66 rfl (lv_at hl 0 rfl) ?_
        refine gt_X8 hx hb hts hown hK hP 34 (hW_w_10.o tX_34) 0 (by decide) wd_227 rfl (hW_w_10.fr tX_34 rfl) dX8_readsNumber_67 ?_
        refine kW_v ⟨rfl, rfl⟩ hP hD hS hA (rW_V (As := []) (rest := []) hx hb hml hown hts hK hE hP hD (k_X10_step l D cI cJ cZ q bb bs 16 w_10 hW_w_10  _) ⟨⟨rfl, rfl⟩, rfl, rfl⟩ sv_X8_59 ⟨(Nat.le_trans (by decide) hR.1), (Nat.le_trans (by decide) hR.2)⟩ 31 10 (hW_w_10.o tX_31) rfl rfl rfl hl.1 rfl (Nat.le_of_ble_eq_true rfl) dX8_readsNumber_70) (fun w_11 H locs hw_w_11 hP hD hS => ?_)
        obtain ⟨hW_w_11, hs_w_11⟩ := hw_w_11
        refine lv_iconst (v := 1) hx hb dX8_readsNumber_73 (by decide) ?_
        exact hret _ _ _ _ _ _ hP hD hS dX8_readsNumber_74 (In_lit (n := 1) (by decide) (by decide) : In 0 1 1) ⟨hW_w_11, ((((Sm.rf.tr hs_w_1 (by decide)).tr hs_w_5 (by decide)).sa ew_10 (by decide)).tr hs_w_11 (by decide)), (In_lit (n := 1) (by decide) (by decide) : In 0 1 1)⟩
      · refine lv_aload_n hx hb dX8_readsNumber_48 rfl (lv_at hl 0 rfl) ?_
        refine lv_iconst (v := 4) hx hb dX8_readsNumber_49 (by decide) ?_
        refine kW_i ⟨rfl, rfl⟩ hP hD hS hA (rW_V (As := [.int 4]) (rest := []) hx hb hml hown hts hK hE hP hD (k_X8_fails l D cI cJ cZ q bb bs w_5 hW_w_5 4 (In_lit (n := 4) (by decide) (by decide) : In 1 5 4) _) ⟨⟨rfl, rfl⟩, rfl, rfl⟩ sv_X8_56 ⟨(Nat.le_trans (by decide) hR.1), (Nat.le_trans (by decide) hR.2)⟩ 34 8 (hW_w_5.o tX_34) rfl rfl rfl hl.1 rfl (Nat.le_of_ble_eq_true rfl) dX8_readsNumber_50) (fun r_14 w_13 H locs hw_w_13 hP hD hS => ?_)
        obtain ⟨hW_w_13, hs_w_13, i_r_14⟩ := hw_w_13
        refine tov (v := 0) (In_one i_r_14 (by decide)) ?_
        exact hret _ _ _ _ _ _ hP hD hS dX8_readsNumber_53 (In_lit (n := 0) (by decide) (by decide) : In 0 1 0) ⟨hW_w_13, (((Sm.rf.tr hs_w_1 (by decide)).tr hs_w_5 (by decide)).tr hs_w_13 (by decide)), (In_lit (n := 0) (by decide) (by decide) : In 0 1 0)⟩
    · refine lv_aload_n hx hb dX8_readsNumber_27 rfl (lv_at hl 0 rfl) ?_
      refine lv_iconst (v := 1) hx hb dX8_readsNumber_28 (by decide) ?_
      refine kW_i ⟨rfl, rfl⟩ hP hD hS hA (rW_V (As := [.int 1]) (rest := []) hx hb hml hown hts hK hE hP hD (k_X8_fails l D cI cJ cZ q bb bs w_1 hW_w_1 1 (In_lit (n := 1) (by decide) (by decide) : In 1 5 1) _) ⟨⟨rfl, rfl⟩, rfl, rfl⟩ sv_X8_56 ⟨(Nat.le_trans (by decide) hR.1), (Nat.le_trans (by decide) hR.2)⟩ 34 8 (hW_w_1.o tX_34) rfl rfl rfl hl.1 rfl (Nat.le_of_ble_eq_true rfl) dX8_readsNumber_29) (fun r_16 w_15 H locs hw_w_15 hP hD hS => ?_)
      obtain ⟨hW_w_15, hs_w_15, i_r_16⟩ := hw_w_15
      refine tov (v := 0) (In_one i_r_16 (by decide)) ?_
      exact hret _ _ _ _ _ _ hP hD hS dX8_readsNumber_32 (In_lit (n := 0) (by decide) (by decide) : In 0 1 0) ⟨hW_w_15, ((Sm.rf.tr hs_w_1 (by decide)).tr hs_w_15 (by decide)), (In_lit (n := 0) (by decide) (by decide) : In 0 1 0)⟩
  · refine lv_iconst (v := 0) hx hb dX8_readsNumber_12 (by decide) ?_
    exact hret _ _ _ _ _ _ hP hD hS dX8_readsNumber_13 (In_lit (n := 0) (by decide) (by decide) : In 0 1 0) ⟨hW_w_1, (Sm.rf.tr hs_w_1 (by decide)), (In_lit (n := 0) (by decide) (by decide) : In 0 1 0)⟩
set_option maxRecDepth 100000 in
set_option maxHeartbeats 8000000 in
theorem k_X8_readsEven (l : Launch) (D : va_G) (cI cJ cZ : ClassId) (q : Nat → Nat) (bb bs : Nat) (w : va_W) (hW_w : HT q (TX q cI cJ cZ bb bs 16) w) (hf_34_4 : In 0 0 (fI w 34 4)) : Con_i l yX8_readsEven cX8_readsEven 1 (some .boolean) ({ frames := 4, cells := 0, slots := 0, locals := 93 }) D cI cJ cZ eW [.ref (q 34)] w (fun (r : Int32) (w1 : va_W) => HT q (TX q cI cJ cZ bb bs 16) w1 ∧ Sm [16, 23, 24, 25, 26, 27, 31, 34] [(16, 8), (16, 9), (31, 3), (31, 4), (31, 5), (31, 6), (31, 7), (34, 2), (34, 3)] w w1 ∧ In 0 1 r ∧ (¬ r = 0 → In 1 24 (fI w1 16 8))) := by
  refine eQ_z rfl (by decide) (Nat.le_of_ble_eq_true rfl) ⟨rfl, rfl⟩ ?_
  intro p e R s m args below meth c A Q hx hb hml hown hts hK hE hA hR hret hP hD hS ls hl
  have hown : s.vm.findClass RX8 = some m.cls := hown
  have hl : lv_has ls 1 [(0, .ref (q 34))] := hl
  refine lv_aload_n hx hb dX8_readsEven_0 rfl (lv_at hl 0 rfl) ?_
  refine gt_X8 hx hb hts hown hK hP 34 (hW_w.o tX_34) 1 (by decide) wd_228 rfl (hW_w.fr tX_34 rfl) dX8_readsEven_1 ?_
  refine gt_X1 hx hb hts hown hK hP 16 (hW_w.o tX_16) 8 (by decide) wd_66 rfl (hW_w.fi tX_16 rfl) dX8_readsEven_4 ?_
  refine lv_bipush (v := 24) hx hb dX8_readsEven_7 (by decide) ?_
  refine lv_icmp_lt (tgt := 18) hx hb dX8_readsEven_9 (by decide) (fun c_1 => ?_) (fun c_1 => ?_)
  · refine lv_aload_n hx hb dX8_readsEven_18 rfl (lv_at hl 0 rfl) ?_
    refine lv_bipush (v := 11) hx hb dX8_readsEven_19 (by decide) ?_
    refine lv_iconst (v := 0) hx hb dX8_readsEven_21 (by decide) ?_
    refine lv_sipush (v := 1000) hx hb dX8_readsEven_22 (by decide) ?_
    refine lv_aload_n hx hb dX8_readsEven_25 rfl (lv_at hl 0 rfl) ?_
    refine gt_X8 hx hb hts hown hK hP 34 (hW_w.o tX_34) 1 (by decide) wd_228 rfl (hW_w.fr tX_34 rfl) dX8_readsEven_26 ?_
    refine gt_X1 hx hb hts hown hK hP 16 (hW_w.o tX_16) 11 (by decide) wd_75 rfl (hW_w.fr tX_16 rfl) dX8_readsEven_29 ?_
    refine lv_aload_n hx hb dX8_readsEven_32 rfl (lv_at hl 0 rfl) ?_
    refine gt_X8 hx hb hts hown hK hP 34 (hW_w.o tX_34) 1 (by decide) wd_228 rfl (hW_w.fr tX_34 rfl) dX8_readsEven_33 ?_
    refine gt_X1 hx hb hts hown hK hP 16 (hW_w.o tX_16) 8 (by decide) wd_66 rfl (hW_w.fi tX_16 rfl) dX8_readsEven_36 ?_
    refine kW_i ⟨rfl, rfl⟩ hP hD hS hA (rW_V (As := [.int 11, .int 0, .int 1000, .ref (q 24), .int (fI w 16 8)]) (rest := []) hx hb hml hown hts hK hE hP hD (k_X8_readsNumber_24 l D cI cJ cZ q bb bs w hW_w 11 0 1000 (fI w 16 8) (In_lit (n := 11) (by decide) (by decide) : In 11 11 11) (In_lit (n := 0) (by decide) (by decide) : In 0 0 0) (In_lit (n := 1000) (by decide) (by decide) : In 1000 1000 1000) (R_lt_l (hW_w.fin tX_16 rfl : In 0 24 (fI w 16 8)) (In_lit (n := 24) (by decide) (by decide) : In 24 24 24) c_1 (by decide) : In 0 23 (fI w 16 8)) (R_lt_l (hW_w.fin tX_16 rfl : In 0 24 (fI w 16 8)) (In_lit (n := 24) (by decide) (by decide) : In 24 24 24) c_1 (by decide) : In 0 23 (fI w 16 8)) hf_34_4 _) ⟨⟨rfl, rfl⟩, rfl, rfl⟩ sv_X8_84 ⟨(Nat.le_trans (by decide) hR.1), (Nat.le_trans (by decide) hR.2)⟩ 34 8 (hW_w.o tX_34) rfl rfl rfl hl.1 rfl (Nat.le_of_ble_eq_true rfl) dX8_readsEven_39) (fun r_3 w_2 H locs hw_w_2 hP hD hS => ?_)
    obtain ⟨hW_w_2, hs_w_2, i_r_3⟩ := hw_w_2
    refine lv_if_ne (tgt := 47) hx hb dX8_readsEven_42 (by decide) (fun c_4 => ?_) (fun c_4 => ?_)
    · refine lv_aload_n hx hb dX8_readsEven_47 rfl (lv_at hl 0 rfl) ?_
      refine gt_X8 hx hb hts hown hK hP 34 (hW_w_2.o tX_34) 1 (by decide) wd_228 rfl (hW_w_2.fr tX_34 rfl) dX8_readsEven_48 ?_
      refine lv_aload_n hx hb dX8_readsEven_51 rfl (lv_at hl 0 rfl) ?_
      refine gt_X8 hx hb hts hown hK hP 34 (hW_w_2.o tX_34) 1 (by decide) wd_228 rfl (hW_w_2.fr tX_34 rfl) dX8_readsEven_52 ?_
      refine gt_X1 hx hb hts hown hK hP 16 (hW_w_2.o tX_16) 11 (by decide) wd_75 rfl (hW_w_2.fr tX_16 rfl) dX8_readsEven_55 ?_
      refine lv_aload_n hx hb dX8_readsEven_58 rfl (lv_at hl 0 rfl) ?_
      refine gt_X8 hx hb hts hown hK hP 34 (hW_w_2.o tX_34) 1 (by decide) wd_228 rfl (hW_w_2.fr tX_34 rfl) dX8_readsEven_59 ?_
      refine gt_X1 hx hb hts hown hK hP 16 (hW_w_2.o tX_16) 8 (by decide) wd_66 rfl (hW_w_2.fi tX_16 rfl) dX8_readsEven_62 ?_
      refine tov (v := (fI w 16 8)) (hs_w_2.gI (by decide)) ?_
      refine va_iald hx hb hK hP 24 0 (hW_w_2.a tX_24) rfl (in_I (R_lt_l (hW_w.fin tX_16 rfl : In 0 24 (fI w 16 8)) (In_lit (n := 24) (by decide) (by decide) : In 24 24 24) c_1 (by decide) : In 0 23 (fI w 16 8)) (by decide)) dX8_readsEven_65 ?_
      refine lv_topi (fun v_5 ev_5 => ?_)
      refine pt_X1 hx hb hts hown hK hP hD hS 16 (hW_w_2.o tX_16) 9 (by decide) wd_69 rfl rfl (ty := .int) (v := .int v_5) (by decide +kernel) rfl rfl (hW_w_2.ll tX_16 (Nat.le_of_ble_eq_true rfl)) dX8_readsEven_66 (fun H locs hP hD hS => fr_w (hW_w_2.sI tX_16 rfl (In_w (In_of ev_5 (hW_w_2.ap tX_24 _) : In 0 1000 v_5) (by decide) : In (-2147483648) 2147483647 v_5)) hP hD (fun w_6 ew_6 hW_w_6 hP hD => ?_))
      refine lv_aload_n hx hb dX8_readsEven_69 rfl (lv_at hl 0 rfl) ?_
      refine gt_X8 hx hb hts hown hK hP 34 (hW_w_6.o tX_34) 1 (by decide) wd_228 rfl (hW_w_6.fr tX_34 rfl) dX8_readsEven_70 ?_
      refine lv_bipush (v := 11) hx hb dX8_readsEven_73 (by decide) ?_
      refine lv_aload_n hx hb dX8_readsEven_75 rfl (lv_at hl 0 rfl) ?_
      refine gt_X8 hx hb hts hown hK hP 34 (hW_w_6.o tX_34) 1 (by decide) wd_228 rfl (hW_w_6.fr tX_34 rfl) dX8_readsEven_76 ?_
      refine gt_X1 hx hb hts hown hK hP 16 (hW_w_6.o tX_16) 17 (by decide) wd_87 rfl (hW_w_6.fi tX_16 rfl) dX8_readsEven_79 ?_
      refine tov (v := (fI w 16 17)) ((fI_nej (hW_w_2.lt tX_16) ew_6 (by decide)).trans (hs_w_2.gI (by decide))) ?_
      refine lv_aload_n hx hb dX8_readsEven_82 rfl (lv_at hl 0 rfl) ?_
      refine gt_X8 hx hb hts hown hK hP 34 (hW_w_6.o tX_34) 1 (by decide) wd_228 rfl (hW_w_6.fr tX_34 rfl) dX8_readsEven_83 ?_
      refine gt_X1 hx hb hts hown hK hP 16 (hW_w_6.o tX_16) 17 (by decide) wd_87 rfl (hW_w_6.fi tX_16 rfl) dX8_readsEven_86 ?_
      refine tov (v := (fI w 16 17)) ((fI_nej (hW_w_2.lt tX_16) ew_6 (by decide)).trans (hs_w_2.gI (by decide))) ?_
      refine lv_aload_n hx hb dX8_readsEven_89 rfl (lv_at hl 0 rfl) ?_
      refine gt_X8 hx hb hts hown hK hP 34 (hW_w_6.o tX_34) 1 (by decide) wd_228 rfl (hW_w_6.fr tX_34 rfl) dX8_readsEven_90 ?_
      refine gt_X1 hx hb hts hown hK hP 16 (hW_w_6.o tX_16) 17 (by decide) wd_87 rfl (hW_w_6.fi tX_16 rfl) dX8_readsEven_93 ?_
      refine tov (v := (fI w 16 17)) ((fI_nej (hW_w_2.lt tX_16) ew_6 (by decide)).trans (hs_w_2.gI (by decide))) ?_
      refine kW_v ⟨rfl, rfl⟩ hP hD hS hA (rW_V (As := [.int 11, .int (fI w 16 17), .int (fI w 16 17), .int (fI w 16 17)]) (rest := []) hx hb hml hown hts hK hE hP hD (k_X1_addOther_at16 l D cI cJ cZ q bb bs 16 w_6 hW_w_6 11 (fI w 16 17) (fI w 16 17) (fI w 16 17) (In_lit (n := 11) (by decide) (by decide) : In 6 11 11) (hW_w.fin tX_16 rfl : In 0 1000 (fI w 16 17)) (hW_w.fin tX_16 rfl : In 0 1000 (fI w 16 17)) (hW_w.fin tX_16 rfl : In 0 1000 (fI w 16 17)) (In_of ((fI_nej (hW_w_2.lt tX_16) ew_6 (by decide)).trans (hs_w_2.gI (by decide))) (R_lt_l (hW_w.fin tX_16 rfl : In 0 24 (fI w 16 8)) (In_lit (n := 24) (by decide) (by decide) : In 24 24 24) c_1 (by decide) : In 0 23 (fI w 16 8))) (In_of ((fI_cg (st_ne ew_6 (by decide))).trans (hs_w_2.2 34 4 (by decide) (by decide))) hf_34_4) _) ⟨⟨rfl, rfl⟩, rfl, rfl⟩ sv_X8_132 ⟨(Nat.le_trans (by decide) hR.1), (Nat.le_trans (by decide) hR.2)⟩ 16 1 (hW_w_6.o tX_16) rfl rfl rfl hl.1 rfl (Nat.le_of_ble_eq_true rfl) dX8_readsEven_96) (fun w_7 H locs hw_w_7 hP hD hS => ?_)
      obtain ⟨hW_w_7, hs_w_7, h_9⟩ := hw_w_7
      refine lv_aload_n hx hb dX8_readsEven_99 rfl (lv_at hl 0 rfl) ?_
      refine lv_bipush (v := 59) hx hb dX8_readsEven_100 (by decide) ?_
      refine kW_i ⟨rfl, rfl⟩ hP hD hS hA (rW_V (As := [.int 59]) (rest := []) hx hb hml hown hts hK hE hP hD (k_X8_passes l D cI cJ cZ q bb bs w_7 hW_w_7 59 (In_lit (n := 59) (by decide) (by decide) : In 41 271 59) _) ⟨⟨rfl, rfl⟩, rfl, rfl⟩ sv_X8_97 ⟨(Nat.le_trans (by decide) hR.1), (Nat.le_trans (by decide) hR.2)⟩ 34 8 (hW_w_7.o tX_34) rfl rfl rfl hl.1 rfl (Nat.le_of_ble_eq_true rfl) dX8_readsEven_102) (fun r_11 w_10 H locs hw_w_10 hP hD hS => ?_)
      obtain ⟨hW_w_10, hs_w_10, i_r_11⟩ := hw_w_10
      exact hret _ _ _ _ _ _ hP hD hS dX8_readsEven_105 i_r_11 ⟨hW_w_10, ((((Sm.rf.tr hs_w_2 (by decide)).sf (hW_w_2.lt tX_16) ew_6 (by decide)).tr hs_w_7 (by decide)).tr hs_w_10 (by decide)), i_r_11, (fun h => (In_of (hs_w_10.gI (by decide)) h_9))⟩
    · refine lv_iconst (v := 0) hx hb dX8_readsEven_45 (by decide) ?_
      exact hret _ _ _ _ _ _ hP hD hS dX8_readsEven_46 (In_lit (n := 0) (by decide) (by decide) : In 0 1 0) ⟨hW_w_2, (Sm.rf.tr hs_w_2 (by decide)), (In_lit (n := 0) (by decide) (by decide) : In 0 1 0), (fun h => absurd rfl h)⟩
  · refine lv_aload_n hx hb dX8_readsEven_12 rfl (lv_at hl 0 rfl) ?_
    refine lv_iconst (v := 5) hx hb dX8_readsEven_13 (by decide) ?_
    refine kW_i ⟨rfl, rfl⟩ hP hD hS hA (rW_V (As := [.int 5]) (rest := []) hx hb hml hown hts hK hE hP hD (k_X8_fails l D cI cJ cZ q bb bs w hW_w 5 (In_lit (n := 5) (by decide) (by decide) : In 1 5 5) _) ⟨⟨rfl, rfl⟩, rfl, rfl⟩ sv_X8_56 ⟨(Nat.le_trans (by decide) hR.1), (Nat.le_trans (by decide) hR.2)⟩ 34 8 (hW_w.o tX_34) rfl rfl rfl hl.1 rfl (Nat.le_of_ble_eq_true rfl) dX8_readsEven_14) (fun r_13 w_12 H locs hw_w_12 hP hD hS => ?_)
    obtain ⟨hW_w_12, hs_w_12, i_r_13⟩ := hw_w_12
    refine tov (v := 0) (In_one i_r_13 (by decide)) ?_
    exact hret _ _ _ _ _ _ hP hD hS dX8_readsEven_17 (In_lit (n := 0) (by decide) (by decide) : In 0 1 0) ⟨hW_w_12, (Sm.rf.tr hs_w_12 (by decide)), (In_lit (n := 0) (by decide) (by decide) : In 0 1 0), (fun h => absurd rfl h)⟩
set_option maxRecDepth 100000 in
set_option maxHeartbeats 8000000 in
theorem k_X1_addMark_at16 (l : Launch) (D : va_G) (cI cJ cZ : ClassId) (q : Nat → Nat) (bb bs bp : Nat) (w : va_W) (hW_w : HT q (TX q cI cJ cZ bb bs bp) w) (p1 : Int64) (hf_16_0 : In 1 10 (fI w 16 0)) (hf_16_5 : In 0 7 (fI w 16 5)) (hf_34_4 : In 0 0 (fI w 34 4)) : Con_v l yX1_addMark cX1_addMark 3 none ({ frames := 0, cells := 0, slots := 0, locals := 0 }) D cI cJ cZ eW [.ref (q 16), .long p1] w (fun (w1 : va_W) => HT q (TX q cI cJ cZ bb bs bp) w1 ∧ Sm [16, 21, 22] [(16, 5)] w w1 ∧ In 1 8 (fI w1 16 5)) := by
  refine eQ_v rfl (by decide) (Nat.le_of_ble_eq_true rfl) ⟨rfl, rfl⟩ ?_
  intro p e R s m args below meth c A Q hx hb hml hown hts hK hE hA hR hret hP hD hS ls hl
  have hown : s.vm.findClass RX1 = some m.cls := hown
  have hl : lv_has ls 3 [(0, .ref (q 16)), (1, .long p1)] := hl
  refine lv_aload_n hx hb dX1_addMark_0 rfl (lv_at hl 0 rfl) ?_
  refine gt_X1 hx hb hts hown hK hP 16 (hW_w.o tX_16) 5 (by decide) wd_54 rfl (hW_w.fi tX_16 rfl) dX1_addMark_1 ?_
  refine lv_bipush (v := 8) hx hb dX1_addMark_4 (by decide) ?_
  refine lv_icmp_ge (tgt := 39) hx hb dX1_addMark_6 (by decide) (fun c_1 => ?_) (fun c_1 => ?_)
  · exact (In_no (R_le_l (In_lit (n := 8) (by decide) (by decide) : In 8 8 8) hf_16_5 c_1 (by decide) : In 8 7 8) (by decide)).elim
  · refine lv_aload_n hx hb dX1_addMark_9 rfl (lv_at hl 0 rfl) ?_
    refine gt_X1 hx hb hts hown hK hP 16 (hW_w.o tX_16) 6 (by decide) wd_57 rfl (hW_w.fr tX_16 rfl) dX1_addMark_10 ?_
    refine lv_aload_n hx hb dX1_addMark_13 rfl (lv_at hl 0 rfl) ?_
    refine gt_X1 hx hb hts hown hK hP 16 (hW_w.o tX_16) 5 (by decide) wd_54 rfl (hW_w.fi tX_16 rfl) dX1_addMark_14 ?_
    refine lv_lload_n hx hb dX1_addMark_17 rfl (lv_at hl 1 rfl) ?_
    refine va_last hx hb hK hP hD hS 21 1 (hW_w.al tX_21) rfl (in_I hf_16_5 (by decide)) dX1_addMark_18 (fun H locs hP hD hS => fr_w (hW_w.uL tX_21) hP hD (fun w_2 ew_2 hW_w_2 hP hD => ?_))
    refine lv_aload_n hx hb dX1_addMark_19 rfl (lv_at hl 0 rfl) ?_
    refine gt_X1 hx hb hts hown hK hP 16 (hW_w_2.o tX_16) 7 (by decide) wd_59 rfl (hW_w_2.fr tX_16 rfl) dX1_addMark_20 ?_
    refine lv_aload_n hx hb dX1_addMark_23 rfl (lv_at hl 0 rfl) ?_
    refine gt_X1 hx hb hts hown hK hP 16 (hW_w_2.o tX_16) 5 (by decide) wd_54 rfl (hW_w_2.fi tX_16 rfl) dX1_addMark_24 ?_
    refine tov (v := (fI w 16 5)) (fI_cg (st_ne ew_2 (by decide))) ?_
    refine lv_iconst (v := 0) hx hb dX1_addMark_27 (by decide) ?_
    refine va_iast hx hb hK hP hD hS 22 0 (hW_w_2.a tX_22) rfl (in_I hf_16_5 (by decide)) dX1_addMark_28 (fun H locs hP hD hS => fr_w (hW_w_2.uA tX_22 (In_lit (n := 0) (by decide) (by decide) : In (-2147483648) 2147483647 0)) hP hD (fun w_3 ew_3 hW_w_3 hP hD => ?_))
    refine lv_aload_n hx hb dX1_addMark_29 rfl (lv_at hl 0 rfl) ?_
    refine lv_dup hx hb dX1_addMark_30 rfl ?_
    refine gt_X1 hx hb hts hown hK hP 16 (hW_w_3.o tX_16) 5 (by decide) wd_54 rfl (hW_w_3.fi tX_16 rfl) dX1_addMark_31 ?_
    refine tov (v := (fI w 16 5)) ((fI_cg (st_ne ew_3 (by decide))).trans (fI_cg (st_ne ew_2 (by decide)))) ?_
    refine lv_iconst (v := 1) hx hb dX1_addMark_34 (by decide) ?_
    refine lv_iadd hx hb dX1_addMark_35 ?_
    refine pt_X1 hx hb hts hown hK hP hD hS 16 (hW_w_3.o tX_16) 5 (by decide) wd_54 rfl rfl (ty := .int) (v := .int ((fI w 16 5) + 1)) (by decide +kernel) rfl rfl (hW_w_3.ll tX_16 (Nat.le_of_ble_eq_true rfl)) dX1_addMark_36 (fun H locs hP hD hS => fr_w (hW_w_3.sI tX_16 rfl (In_w ((In_add hf_16_5 (In_lit (n := 1) (by decide) (by decide) : In 1 1 1) (by decide)) : In 1 8 ((fI w 16 5) + 1)) (by decide) : In 0 8 ((fI w 16 5) + 1))) hP hD (fun w_4 ew_4 hW_w_4 hP hD => ?_))
    exact hret _ _ _ _ _ hP hD hS dX1_addMark_39 ⟨hW_w_4, (((Sm.rf.sa ew_2 (by decide)).sa ew_3 (by decide)).sf (hW_w_3.lt tX_16) ew_4 (by decide)), (In_of (fI_eq (hW_w_3.lt tX_16) ew_4 (hW_w_3.ll tX_16 (Nat.le_of_ble_eq_true rfl))) ((In_add hf_16_5 (In_lit (n := 1) (by decide) (by decide) : In 1 1 1) (by decide)) : In 1 8 ((fI w 16 5) + 1)))⟩
set_option maxRecDepth 100000 in
set_option maxHeartbeats 8000000 in
theorem k_X8_readsMark (l : Launch) (D : va_G) (cI cJ cZ : ClassId) (q : Nat → Nat) (bb bs : Nat) (w : va_W) (hW_w : HT q (TX q cI cJ cZ bb bs 16) w) (p1 : Int32) (i_p1 : In 0 9 p1) (hf_16_0 : In 1 10 (fI w 16 0)) (hf_34_4 : In 0 0 (fI w 34 4)) : Con_i l yX8_readsMark cX8_readsMark 3 (some .boolean) ({ frames := 2, cells := 0, slots := 0, locals := 47 }) D cI cJ cZ eW [.ref (q 34), .int p1] w (fun (r : Int32) (w1 : va_W) => HT q (TX q cI cJ cZ bb bs 16) w1 ∧ Sm [16, 21, 22, 31, 34] [(16, 5), (31, 3), (31, 4), (31, 5), (31, 6), (31, 7), (34, 2), (34, 3)] w w1 ∧ In 0 1 r) := by
  refine eQ_z rfl (by decide) (Nat.le_of_ble_eq_true rfl) ⟨rfl, rfl⟩ ?_
  intro p e R s m args below meth c A Q hx hb hml hown hts hK hE hA hR hret hP hD hS ls hl
  have hown : s.vm.findClass RX8 = some m.cls := hown
  have hl : lv_has ls 3 [(0, .ref (q 34)), (1, .int p1)] := hl
  have J128 : ∀ (x128_2 : Int32) (w128 : va_W) (H : Heap) (locs : List Loc) (ls : Array Slot), HT q (TX q cI cJ cZ bb bs 16) w128 → Sm [16, 21, 22, 31, 34] [(16, 5), (31, 3), (31, 4), (31, 5), (31, 6), (31, 7), (34, 2), (34, 3)] w w128 → (In 0 9 p1) → (In 0 7 x128_2) → (In 1 10 (fI w128 16 0)) → (fI w128 31 4 = (fI w 31 4)) → (In 258 258 (fI w 31 4)) → (In 0 0 (fI w128 34 4)) → va_P D vwCl w128 H → va_D A w128 → va_S A s.heap H locs → lv_has ls 3 [(0, .ref (q 34)), (1, .int p1), (2, .int x128_2)] → W p l e R s m args below meth c H locs 0 0 Q (F0 m 128 ls []) := by
    intro x128_2 w128 H locs ls hW_w128 hM_w128 i_x128_1 i_x128_2 g128_16_0 g128_31_4e g128_31_4 g128_34_4 hP hD hS hl
    refine lv_aload_n hx hb dX8_readsMark_128 rfl (lv_at hl 0 rfl) ?_
    refine gt_X8 hx hb hts hown hK hP 34 (hW_w128.o tX_34) 1 (by decide) wd_228 rfl (hW_w128.fr tX_34 rfl) dX8_readsMark_129 ?_
    refine gt_X1 hx hb hts hown hK hP 16 (hW_w128.o tX_16) 7 (by decide) wd_62 rfl (hW_w128.fr tX_16 rfl) dX8_readsMark_132 ?_
    refine lv_iload_n hx hb dX8_readsMark_135 rfl (lv_at hl 2 rfl) ?_
    refine lv_dup2_11 hx hb dX8_readsMark_136 rfl rfl ?_
    refine va_iald hx hb hK hP 22 0 (hW_w128.a tX_22) rfl (in_I i_x128_2 (by decide)) dX8_readsMark_137 ?_
    refine lv_topi (fun v_1 ev_1 => ?_)
    refine lv_iconst (v := 1) hx hb dX8_readsMark_138 (by decide) ?_
    refine lv_iload_n hx hb dX8_readsMark_139 rfl (lv_at hl 1 rfl) ?_
    refine lv_ishl hx hb dX8_readsMark_140 ?_
    refine lv_topi (fun v_2 ev_2 => ?_)
    refine lv_ior hx hb dX8_readsMark_141 ?_
    refine lv_topi (fun v_3 ev_3 => ?_)
    refine va_iast hx hb hK hP hD hS 22 0 (hW_w128.a tX_22) rfl (in_I i_x128_2 (by decide)) dX8_readsMark_142 (fun H locs hP hD hS => fr_w (hW_w128.uA tX_22 (In_any _)) hP hD (fun w_4 ew_4 hW_w_4 hP hD => ?_))
    refine lv_aload_n hx hb dX8_readsMark_143 rfl (lv_at hl 0 rfl) ?_
    refine gt_X8 hx hb hts hown hK hP 34 (hW_w_4.o tX_34) 0 (by decide) wd_227 rfl (hW_w_4.fr tX_34 rfl) dX8_readsMark_144 ?_
    refine kW_v ⟨rfl, rfl⟩ hP hD hS hA (rW_V (As := []) (rest := []) hx hb hml hown hts hK hE hP hD (k_X10_step l D cI cJ cZ q bb bs 16 w_4 hW_w_4  _) ⟨⟨rfl, rfl⟩, rfl, rfl⟩ sv_X8_59 ⟨(Nat.le_trans (by decide) hR.1), (Nat.le_trans (by decide) hR.2)⟩ 31 10 (hW_w_4.o tX_31) rfl rfl rfl hl.1 rfl (Nat.le_of_ble_eq_true rfl) dX8_readsMark_147) (fun w_5 H locs hw_w_5 hP hD hS => ?_)
    obtain ⟨hW_w_5, hs_w_5⟩ := hw_w_5
    refine lv_iconst (v := 1) hx hb dX8_readsMark_150 (by decide) ?_
    exact hret _ _ _ _ _ _ hP hD hS dX8_readsMark_151 (In_lit (n := 1) (by decide) (by decide) : In 0 1 1) ⟨hW_w_5, ((hM_w128.sa ew_4 (by decide)).tr hs_w_5 (by decide)), (In_lit (n := 1) (by decide) (by decide) : In 0 1 1)⟩
  refine lv_aload_n hx hb dX8_readsMark_0 rfl (lv_at hl 0 rfl) ?_
  refine gt_X8 hx hb hts hown hK hP 34 (hW_w.o tX_34) 0 (by decide) wd_227 rfl (hW_w.fr tX_34 rfl) dX8_readsMark_1 ?_
  refine gt_X10 hx hb hts hown hK hP 31 (hW_w.o tX_31) 4 (by decide) wd_195 rfl (hW_w.fi tX_31 rfl) dX8_readsMark_4 ?_
  refine lv_sipush (v := 258) hx hb dX8_readsMark_7 (by decide) ?_
  refine lv_icmp_eq (tgt := 19) hx hb dX8_readsMark_10 (by decide) (fun c_7 => ?_) (fun c_7 => ?_)
  · refine lv_aload_n hx hb dX8_readsMark_19 rfl (lv_at hl 0 rfl) ?_
    refine gt_X8 hx hb hts hown hK hP 34 (hW_w.o tX_34) 1 (by decide) wd_228 rfl (hW_w.fr tX_34 rfl) dX8_readsMark_20 ?_
    refine lv_aload_n hx hb dX8_readsMark_23 rfl (lv_at hl 0 rfl) ?_
    refine gt_X8 hx hb hts hown hK hP 34 (hW_w.o tX_34) 0 (by decide) wd_227 rfl (hW_w.fr tX_34 rfl) dX8_readsMark_24 ?_
    refine gt_X10 hx hb hts hown hK hP 31 (hW_w.o tX_31) 6 (by decide) wd_200 rfl (hW_w.fl tX_31 rfl) dX8_readsMark_27 ?_
    refine kW_i ⟨rfl, rfl⟩ hP hD hS hA (rW_V (As := [.long (fL w 31 6)]) (rest := []) hx hb hml hown hts hK hE hP hD (k_X1_kindOf_at16 l D cI cJ cZ q bb bs 16 w hW_w (fL w 31 6) _) ⟨⟨rfl, rfl⟩, rfl, rfl⟩ sv_X8_69 ⟨(Nat.le_trans (by decide) hR.1), (Nat.le_trans (by decide) hR.2)⟩ 16 1 (hW_w.o tX_16) rfl rfl rfl hl.1 rfl (Nat.le_of_ble_eq_true rfl) dX8_readsMark_30) (fun r_9 w_8 H locs hw_w_8 hP hD hS => ?_)
    obtain ⟨hW_w_8, hs_w_8, i_r_9⟩ := hw_w_8
    refine lv_iconst (v := (-1)) hx hb dX8_readsMark_33 (by decide) ?_
    refine lv_icmp_eq (tgt := 43) hx hb dX8_readsMark_34 (by decide) (fun c_10 => ?_) (fun c_10 => ?_)
    · refine lv_aload_n hx hb dX8_readsMark_43 rfl (lv_at hl 0 rfl) ?_
      refine gt_X8 hx hb hts hown hK hP 34 (hW_w_8.o tX_34) 1 (by decide) wd_228 rfl (hW_w_8.fr tX_34 rfl) dX8_readsMark_44 ?_
      refine lv_aload_n hx hb dX8_readsMark_47 rfl (lv_at hl 0 rfl) ?_
      refine gt_X8 hx hb hts hown hK hP 34 (hW_w_8.o tX_34) 0 (by decide) wd_227 rfl (hW_w_8.fr tX_34 rfl) dX8_readsMark_48 ?_
      refine gt_X10 hx hb hts hown hK hP 31 (hW_w_8.o tX_31) 6 (by decide) wd_200 rfl (hW_w_8.fl tX_31 rfl) dX8_readsMark_51 ?_
      refine tol (v := (fL w 31 6)) (hs_w_8.gL (by decide)) ?_
      refine kW_i ⟨rfl, rfl⟩ hP hD hS hA (rW_V (As := [.long (fL w 31 6)]) (rest := []) hx hb hml hown hts hK hE hP hD (k_X1_markOf_at16 l D cI cJ cZ q bb bs 16 w_8 hW_w_8 (fL w 31 6) _) ⟨⟨rfl, rfl⟩, rfl, rfl⟩ sv_X8_73 ⟨(Nat.le_trans (by decide) hR.1), (Nat.le_trans (by decide) hR.2)⟩ 16 1 (hW_w_8.o tX_16) rfl rfl rfl hl.1 rfl (Nat.le_of_ble_eq_true rfl) dX8_readsMark_54) (fun r_12 w_11 H locs hw_w_11 hP hD hS => ?_)
      obtain ⟨hW_w_11, hs_w_11, i_r_12⟩ := hw_w_11
      refine lv_istore_n (lv' := [(2, .int r_12), (0, .ref (q 34)), (1, .int p1)]) hx hb dX8_readsMark_57 rfl hl (by decide) rfl (fun ls hl => ?_)
      refine lv_iload_n hx hb dX8_readsMark_58 rfl (lv_at hl 0 rfl) ?_
      refine lv_iconst (v := (-1)) hx hb dX8_readsMark_59 (by decide) ?_
      refine lv_icmp_ne (tgt := 106) hx hb dX8_readsMark_60 (by decide) (fun c_13 => ?_) (fun c_13 => ?_)
      · refine lv_aload_n hx hb dX8_readsMark_106 rfl (lv_at hl 1 rfl) ?_
        refine gt_X8 hx hb hts hown hK hP 34 (hW_w_11.o tX_34) 1 (by decide) wd_228 rfl (hW_w_11.fr tX_34 rfl) dX8_readsMark_107 ?_
        refine gt_X1 hx hb hts hown hK hP 16 (hW_w_11.o tX_16) 7 (by decide) wd_62 rfl (hW_w_11.fr tX_16 rfl) dX8_readsMark_110 ?_
        refine lv_iload_n hx hb dX8_readsMark_113 rfl (lv_at hl 0 rfl) ?_
        refine va_iald hx hb hK hP 22 0 (hW_w_11.a tX_22) rfl (in_I (R_ne_l i_r_12 (In_lit (n := (-1)) (by decide) (by decide) : In (-1) (-1) (-1)) c_13 (by decide) : In 0 7 r_12) (by decide)) dX8_readsMark_114 ?_
        refine lv_topi (fun v_14 ev_14 => ?_)
        refine lv_iload_n hx hb dX8_readsMark_115 rfl (lv_at hl 2 rfl) ?_
        refine lv_ishr hx hb dX8_readsMark_116 ?_
        refine lv_topi (fun v_15 ev_15 => ?_)
        refine lv_iconst (v := 1) hx hb dX8_readsMark_117 (by decide) ?_
        refine lv_iand hx hb dX8_readsMark_118 ?_
        refine lv_if_eq (tgt := 128) hx hb dX8_readsMark_119 (by decide) (fun c_16 => ?_) (fun c_16 => ?_)
        · exact J128 r_12 w_11 _ _ ls hW_w_11 ((Sm.rf.tr hs_w_8 (by decide)).tr hs_w_11 (by decide)) i_p1 (R_ne_l i_r_12 (In_lit (n := (-1)) (by decide) (by decide) : In (-1) (-1) (-1)) c_13 (by decide) : In 0 7 r_12) (In_of ((hs_w_11.gI (by decide)).trans (hs_w_8.gI (by decide))) hf_16_0) ((hs_w_11.gI (by decide)).trans (hs_w_8.gI (by decide))) (R_eq_l (In_any _) (In_lit (n := 258) (by decide) (by decide) : In 258 258 258) c_7 (by decide) : In 258 258 (fI w 31 4)) (In_of ((hs_w_11.gI (by decide)).trans (hs_w_8.gI (by decide))) hf_34_4) hP hD hS (lv_sub hl [1, 2, 0] rfl)
        · refine lv_aload_n hx hb dX8_readsMark_122 rfl (lv_at hl 1 rfl) ?_
          refine lv_iconst (v := 2) hx hb dX8_readsMark_123 (by decide) ?_
          refine kW_i ⟨rfl, rfl⟩ hP hD hS hA (rW_V (As := [.int 2]) (rest := []) hx hb hml hown hts hK hE hP hD (k_X8_fails l D cI cJ cZ q bb bs w_11 hW_w_11 2 (In_lit (n := 2) (by decide) (by decide) : In 1 5 2) _) ⟨⟨rfl, rfl⟩, rfl, rfl⟩ sv_X8_56 ⟨(Nat.le_trans (by decide) hR.1), (Nat.le_trans (by decide) hR.2)⟩ 34 8 (hW_w_11.o tX_34) rfl rfl rfl hl.1 rfl (Nat.le_of_ble_eq_true rfl) dX8_readsMark_124) (fun r_18 w_17 H locs hw_w_17 hP hD hS => ?_)
          obtain ⟨hW_w_17, hs_w_17, i_r_18⟩ := hw_w_17
          refine tov (v := 0) (In_one i_r_18 (by decide)) ?_
          exact hret _ _ _ _ _ _ hP hD hS dX8_readsMark_127 (In_lit (n := 0) (by decide) (by decide) : In 0 1 0) ⟨hW_w_17, (((Sm.rf.tr hs_w_8 (by decide)).tr hs_w_11 (by decide)).tr hs_w_17 (by decide)), (In_lit (n := 0) (by decide) (by decide) : In 0 1 0)⟩
      · refine lv_aload_n hx hb dX8_readsMark_63 rfl (lv_at hl 1 rfl) ?_
        refine gt_X8 hx hb hts hown hK hP 34 (hW_w_11.o tX_34) 1 (by decide) wd_228 rfl (hW_w_11.fr tX_34 rfl) dX8_readsMark_64 ?_
        refine gt_X1 hx hb hts hown hK hP 16 (hW_w_11.o tX_16) 5 (by decide) wd_56 rfl (hW_w_11.fi tX_16 rfl) dX8_readsMark_67 ?_
        refine tov (v := (fI w 16 5)) ((hs_w_11.gI (by decide)).trans (hs_w_8.gI (by decide))) ?_
        refine lv_bipush (v := 8) hx hb dX8_readsMark_70 (by decide) ?_
        refine lv_icmp_lt (tgt := 81) hx hb dX8_readsMark_72 (by decide) (fun c_19 => ?_) (fun c_19 => ?_)
        · refine lv_aload_n hx hb dX8_readsMark_81 rfl (lv_at hl 1 rfl) ?_
          refine gt_X8 hx hb hts hown hK hP 34 (hW_w_11.o tX_34) 1 (by decide) wd_228 rfl (hW_w_11.fr tX_34 rfl) dX8_readsMark_82 ?_
          refine gt_X1 hx hb hts hown hK hP 16 (hW_w_11.o tX_16) 5 (by decide) wd_56 rfl (hW_w_11.fi tX_16 rfl) dX8_readsMark_85 ?_
          refine tov (v := (fI w 16 5)) ((hs_w_11.gI (by decide)).trans (hs_w_8.gI (by decide))) ?_
          refine lv_istore_n (lv' := [(2, .int (fI w 16 5)), (0, .ref (q 34)), (1, .int p1)]) hx hb dX8_readsMark_88 rfl hl (by decide) rfl (fun ls hl => ?_)
          refine lv_aload_n hx hb dX8_readsMark_89 rfl (lv_at hl 1 rfl) ?_
          refine gt_X8 hx hb hts hown hK hP 34 (hW_w_11.o tX_34) 1 (by decide) wd_228 rfl (hW_w_11.fr tX_34 rfl) dX8_readsMark_90 ?_
          refine lv_aload_n hx hb dX8_readsMark_93 rfl (lv_at hl 1 rfl) ?_
          refine gt_X8 hx hb hts hown hK hP 34 (hW_w_11.o tX_34) 0 (by decide) wd_227 rfl (hW_w_11.fr tX_34 rfl) dX8_readsMark_94 ?_
          refine gt_X10 hx hb hts hown hK hP 31 (hW_w_11.o tX_31) 6 (by decide) wd_200 rfl (hW_w_11.fl tX_31 rfl) dX8_readsMark_97 ?_
          refine tol (v := (fL w 31 6)) ((hs_w_11.gL (by decide)).trans (hs_w_8.gL (by decide))) ?_
          refine kW_v ⟨rfl, rfl⟩ hP hD hS hA (rW_V (As := [.long (fL w 31 6)]) (rest := []) hx hb hml hown hts hK hE hP hD (k_X1_addMark_at16 l D cI cJ cZ q bb bs 16 w_11 hW_w_11 (fL w 31 6) (In_of ((hs_w_11.gI (by decide)).trans (hs_w_8.gI (by decide))) hf_16_0) (In_of ((hs_w_11.gI (by decide)).trans (hs_w_8.gI (by decide))) (R_lt_l (hW_w.fin tX_16 rfl : In 0 8 (fI w 16 5)) (In_lit (n := 8) (by decide) (by decide) : In 8 8 8) c_19 (by decide) : In 0 7 (fI w 16 5))) (In_of ((hs_w_11.gI (by decide)).trans (hs_w_8.gI (by decide))) hf_34_4) _) ⟨⟨rfl, rfl⟩, rfl, rfl⟩ sv_X8_113 ⟨(Nat.le_trans (by decide) hR.1), (Nat.le_trans (by decide) hR.2)⟩ 16 1 (hW_w_11.o tX_16) rfl rfl rfl hl.1 rfl (Nat.le_of_ble_eq_true rfl) dX8_readsMark_100) (fun w_20 H locs hw_w_20 hP hD hS => ?_)
          obtain ⟨hW_w_20, hs_w_20, h_22⟩ := hw_w_20
          refine lv_goto (tgt := 128) hx hb dX8_readsMark_103 (by decide) ?_
          exact J128 (fI w 16 5) w_20 _ _ ls hW_w_20 (((Sm.rf.tr hs_w_8 (by decide)).tr hs_w_11 (by decide)).tr hs_w_20 (by decide)) i_p1 (R_lt_l (hW_w.fin tX_16 rfl : In 0 8 (fI w 16 5)) (In_lit (n := 8) (by decide) (by decide) : In 8 8 8) c_19 (by decide) : In 0 7 (fI w 16 5)) (In_of ((hs_w_20.2 16 0 (by decide) (by decide)).trans ((hs_w_11.gI (by decide)).trans (hs_w_8.gI (by decide)))) hf_16_0) ((hs_w_20.gI (by decide)).trans ((hs_w_11.gI (by decide)).trans (hs_w_8.gI (by decide)))) (R_eq_l (In_any _) (In_lit (n := 258) (by decide) (by decide) : In 258 258 258) c_7 (by decide) : In 258 258 (fI w 31 4)) (In_of ((hs_w_20.gI (by decide)).trans ((hs_w_11.gI (by decide)).trans (hs_w_8.gI (by decide)))) hf_34_4) hP hD hS (lv_sub hl [1, 2, 0] rfl)
        · refine lv_aload_n hx hb dX8_readsMark_75 rfl (lv_at hl 1 rfl) ?_
          refine lv_iconst (v := 5) hx hb dX8_readsMark_76 (by decide) ?_
          refine kW_i ⟨rfl, rfl⟩ hP hD hS hA (rW_V (As := [.int 5]) (rest := []) hx hb hml hown hts hK hE hP hD (k_X8_fails l D cI cJ cZ q bb bs w_11 hW_w_11 5 (In_lit (n := 5) (by decide) (by decide) : In 1 5 5) _) ⟨⟨rfl, rfl⟩, rfl, rfl⟩ sv_X8_56 ⟨(Nat.le_trans (by decide) hR.1), (Nat.le_trans (by decide) hR.2)⟩ 34 8 (hW_w_11.o tX_34) rfl rfl rfl hl.1 rfl (Nat.le_of_ble_eq_true rfl) dX8_readsMark_77) (fun r_24 w_23 H locs hw_w_23 hP hD hS => ?_)
          obtain ⟨hW_w_23, hs_w_23, i_r_24⟩ := hw_w_23
          refine tov (v := 0) (In_one i_r_24 (by decide)) ?_
          exact hret _ _ _ _ _ _ hP hD hS dX8_readsMark_80 (In_lit (n := 0) (by decide) (by decide) : In 0 1 0) ⟨hW_w_23, (((Sm.rf.tr hs_w_8 (by decide)).tr hs_w_11 (by decide)).tr hs_w_23 (by decide)), (In_lit (n := 0) (by decide) (by decide) : In 0 1 0)⟩
    · refine lv_aload_n hx hb dX8_readsMark_37 rfl (lv_at hl 0 rfl) ?_
      refine lv_iconst (v := 2) hx hb dX8_readsMark_38 (by decide) ?_
      refine kW_i ⟨rfl, rfl⟩ hP hD hS hA (rW_V (As := [.int 2]) (rest := []) hx hb hml hown hts hK hE hP hD (k_X8_fails l D cI cJ cZ q bb bs w_8 hW_w_8 2 (In_lit (n := 2) (by decide) (by decide) : In 1 5 2) _) ⟨⟨rfl, rfl⟩, rfl, rfl⟩ sv_X8_56 ⟨(Nat.le_trans (by decide) hR.1), (Nat.le_trans (by decide) hR.2)⟩ 34 8 (hW_w_8.o tX_34) rfl rfl rfl hl.1 rfl (Nat.le_of_ble_eq_true rfl) dX8_readsMark_39) (fun r_26 w_25 H locs hw_w_25 hP hD hS => ?_)
      obtain ⟨hW_w_25, hs_w_25, i_r_26⟩ := hw_w_25
      refine tov (v := 0) (In_one i_r_26 (by decide)) ?_
      exact hret _ _ _ _ _ _ hP hD hS dX8_readsMark_42 (In_lit (n := 0) (by decide) (by decide) : In 0 1 0) ⟨hW_w_25, ((Sm.rf.tr hs_w_8 (by decide)).tr hs_w_25 (by decide)), (In_lit (n := 0) (by decide) (by decide) : In 0 1 0)⟩
  · refine lv_aload_n hx hb dX8_readsMark_13 rfl (lv_at hl 0 rfl) ?_
    refine lv_iconst (v := 1) hx hb dX8_readsMark_14 (by decide) ?_
    refine kW_i ⟨rfl, rfl⟩ hP hD hS hA (rW_V (As := [.int 1]) (rest := []) hx hb hml hown hts hK hE hP hD (k_X8_fails l D cI cJ cZ q bb bs w hW_w 1 (In_lit (n := 1) (by decide) (by decide) : In 1 5 1) _) ⟨⟨rfl, rfl⟩, rfl, rfl⟩ sv_X8_56 ⟨(Nat.le_trans (by decide) hR.1), (Nat.le_trans (by decide) hR.2)⟩ 34 8 (hW_w.o tX_34) rfl rfl rfl hl.1 rfl (Nat.le_of_ble_eq_true rfl) dX8_readsMark_15) (fun r_28 w_27 H locs hw_w_27 hP hD hS => ?_)
    obtain ⟨hW_w_27, hs_w_27, i_r_28⟩ := hw_w_27
    refine tov (v := 0) (In_one i_r_28 (by decide)) ?_
    exact hret _ _ _ _ _ _ hP hD hS dX8_readsMark_18 (In_lit (n := 0) (by decide) (by decide) : In 0 1 0) ⟨hW_w_27, (Sm.rf.tr hs_w_27 (by decide)), (In_lit (n := 0) (by decide) (by decide) : In 0 1 0)⟩
set_option maxRecDepth 100000 in
set_option maxHeartbeats 8000000 in
theorem k_X8_readsMarks (l : Launch) (D : va_G) (cI cJ cZ : ClassId) (q : Nat → Nat) (bb bs : Nat) (w : va_W) (hW_w : HT q (TX q cI cJ cZ bb bs 16) w) (p1 : Int32) (i_p1 : In 0 9 p1) (hf_16_0 : In 1 10 (fI w 16 0)) (hf_34_4 : In 0 0 (fI w 34 4)) : Con_i l yX8_readsMarks cX8_readsMarks 3 (some .boolean) ({ frames := 3, cells := 0, slots := 0, locals := 69 }) D cI cJ cZ eW [.ref (q 34), .int p1] w (fun (r : Int32) (w1 : va_W) => HT q (TX q cI cJ cZ bb bs 16) w1 ∧ Sm [16, 21, 22, 31, 34] [(16, 5), (31, 3), (31, 4), (31, 5), (31, 6), (31, 7), (34, 2), (34, 3)] w w1 ∧ In 0 1 r) := by
  refine eQ_z rfl (by decide) (Nat.le_of_ble_eq_true rfl) ⟨rfl, rfl⟩ ?_
  intro p e R s m args below meth c A Q hx hb hml hown hts hK hE hA hR hret hP hD hS ls hl
  have hown : s.vm.findClass RX8 = some m.cls := hown
  have hl : lv_has ls 3 [(0, .ref (q 34)), (1, .int p1)] := hl
  have J17 : ∀ (N : Nat) (x17_2 : Int32) (w17 : va_W) (H : Heap) (locs : List Loc) (ls : Array Slot), (1001 - x17_2.toInt).toNat < N → HT q (TX q cI cJ cZ bb bs 16) w17 → Sm [16, 21, 22, 31, 34] [(16, 5), (31, 3), (31, 4), (31, 5), (31, 6), (31, 7), (34, 2), (34, 3)] w w17 → (In 0 9 p1) → (In 0 1001 x17_2) → (In 1 10 (fI w17 16 0)) → (In 44 265 (fI w17 31 4)) → (In 0 0 (fI w17 34 4)) → va_P D vwCl w17 H → va_D A w17 → va_S A s.heap H locs → lv_has ls 3 [(0, .ref (q 34)), (1, .int p1), (2, .int x17_2)] → W p l e R s m args below meth c H locs 0 0 Q (F0 m 17 ls []) := by
    intro N
    induction N with
    | zero => intro x17_2 w17 H locs ls hmu; exact absurd hmu (Nat.not_lt_zero _)
    | succ N ih17 =>
      intro x17_2 w17 H locs ls hmu17 hW_w17 hM_w17 i_x17_1 i_x17_2 g17_16_0 g17_31_4 g17_34_4 hP hD hS hl
      refine lv_iload_n hx hb dX8_readsMarks_17 rfl (lv_at hl 2 rfl) ?_
      refine lv_sipush (v := 1000) hx hb dX8_readsMarks_18 (by decide) ?_
      refine lv_icmp_gt (tgt := 61) hx hb dX8_readsMarks_21 (by decide) (fun c_1 => ?_) (fun c_1 => ?_)
      · refine lv_iconst (v := 1) hx hb dX8_readsMarks_61 (by decide) ?_
        exact hret _ _ _ _ _ _ hP hD hS dX8_readsMarks_62 (In_lit (n := 1) (by decide) (by decide) : In 0 1 1) ⟨hW_w17, hM_w17, (In_lit (n := 1) (by decide) (by decide) : In 0 1 1)⟩
      · refine lv_aload_n hx hb dX8_readsMarks_24 rfl (lv_at hl 0 rfl) ?_
        refine gt_X8 hx hb hts hown hK hP 34 (hW_w17.o tX_34) 0 (by decide) wd_227 rfl (hW_w17.fr tX_34 rfl) dX8_readsMarks_25 ?_
        refine kW_v ⟨rfl, rfl⟩ hP hD hS hA (rW_V (As := []) (rest := []) hx hb hml hown hts hK hE hP hD (k_X10_step l D cI cJ cZ q bb bs 16 w17 hW_w17  _) ⟨⟨rfl, rfl⟩, rfl, rfl⟩ sv_X8_59 ⟨(Nat.le_trans (by decide) hR.1), (Nat.le_trans (by decide) hR.2)⟩ 31 10 (hW_w17.o tX_31) rfl rfl rfl hl.1 rfl (Nat.le_of_ble_eq_true rfl) dX8_readsMarks_28) (fun w_2 H locs hw_w_2 hP hD hS => ?_)
        obtain ⟨hW_w_2, hs_w_2⟩ := hw_w_2
        refine lv_aload_n hx hb dX8_readsMarks_31 rfl (lv_at hl 0 rfl) ?_
        refine lv_iload_n hx hb dX8_readsMarks_32 rfl (lv_at hl 1 rfl) ?_
        refine kW_i ⟨rfl, rfl⟩ hP hD hS hA (rW_V (As := [.int p1]) (rest := []) hx hb hml hown hts hK hE hP hD (k_X8_readsMark l D cI cJ cZ q bb bs w_2 hW_w_2 p1 i_p1 (In_of ((hs_w_2.gI (by decide)).trans (hM_w17.2 16 0 (by decide) (by decide))) (In_of (hM_w17.2 16 0 (by decide) (by decide)).symm g17_16_0)) (In_of ((hs_w_2.gI (by decide)).trans (hM_w17.2 34 4 (by decide) (by decide))) (In_of (hM_w17.2 34 4 (by decide) (by decide)).symm g17_34_4)) _) ⟨⟨rfl, rfl⟩, rfl, rfl⟩ sv_X8_107 ⟨(Nat.le_trans (by decide) hR.1), (Nat.le_trans (by decide) hR.2)⟩ 34 8 (hW_w_2.o tX_34) rfl rfl rfl hl.1 rfl (Nat.le_of_ble_eq_true rfl) dX8_readsMarks_33) (fun r_5 w_4 H locs hw_w_4 hP hD hS => ?_)
        obtain ⟨hW_w_4, hs_w_4, i_r_5⟩ := hw_w_4
        refine lv_if_ne (tgt := 41) hx hb dX8_readsMarks_36 (by decide) (fun c_6 => ?_) (fun c_6 => ?_)
        · refine lv_aload_n hx hb dX8_readsMarks_41 rfl (lv_at hl 0 rfl) ?_
          refine gt_X8 hx hb hts hown hK hP 34 (hW_w_4.o tX_34) 0 (by decide) wd_227 rfl (hW_w_4.fr tX_34 rfl) dX8_readsMarks_42 ?_
          refine gt_X10 hx hb hts hown hK hP 31 (hW_w_4.o tX_31) 4 (by decide) wd_195 rfl (hW_w_4.fi tX_31 rfl) dX8_readsMarks_45 ?_
          refine lv_bipush (v := 44) hx hb dX8_readsMarks_48 (by decide) ?_
          refine lv_icmp_eq (tgt := 55) hx hb dX8_readsMarks_50 (by decide) (fun c_7 => ?_) (fun c_7 => ?_)
          · refine lv_iinc (v := (x17_2 + 1)) (lv' := [(2, .int (x17_2 + 1)), (0, .ref (q 34)), (1, .int p1)]) hx hb dX8_readsMarks_55 hl (k := 2) rfl (rfl) (by decide) rfl (fun ls hl => ?_)
            refine lv_goto (tgt := 17) hx hb dX8_readsMarks_58 (by decide) ?_
            exact ih17 (x17_2 + 1) w_4 _ _ ls (mu_inc hmu17 (R_nlt_r (In_lit (n := 1000) (by decide) (by decide) : In 1000 1000 1000) i_x17_2 c_1 (by decide) : In 0 1000 x17_2) (In_lit (n := 1) (by decide) (by decide) : In 1 1 1) (by decide)) hW_w_4 ((hM_w17.tr hs_w_2 (by decide)).tr hs_w_4 (by decide)) i_p1 (In_w ((In_add (y := 1) (R_nlt_r (In_lit (n := 1000) (by decide) (by decide) : In 1000 1000 1000) i_x17_2 c_1 (by decide) : In 0 1000 x17_2) (In_lit (n := 1) (by decide) (by decide) : In 1 1 1) (by decide)) : In 1 1001 (x17_2 + 1)) (by decide) : In 0 1001 (x17_2 + 1)) (In_of ((hs_w_4.2 16 0 (by decide) (by decide)).trans ((hs_w_2.gI (by decide)).trans (hM_w17.2 16 0 (by decide) (by decide)))) (In_of (hM_w17.2 16 0 (by decide) (by decide)).symm g17_16_0)) (In_w (R_eq_l (In_any _) (In_lit (n := 44) (by decide) (by decide) : In 44 44 44) c_7 (by decide) : In 44 44 (fI w_4 31 4)) (by decide) : In 44 265 (fI w_4 31 4)) (In_of ((hs_w_4.2 34 4 (by decide) (by decide)).trans ((hs_w_2.gI (by decide)).trans (hM_w17.2 34 4 (by decide) (by decide)))) (In_of (hM_w17.2 34 4 (by decide) (by decide)).symm g17_34_4)) hP hD hS (lv_sub hl [1, 2, 0] rfl)
          · refine lv_iconst (v := 1) hx hb dX8_readsMarks_53 (by decide) ?_
            exact hret _ _ _ _ _ _ hP hD hS dX8_readsMarks_54 (In_lit (n := 1) (by decide) (by decide) : In 0 1 1) ⟨hW_w_4, ((hM_w17.tr hs_w_2 (by decide)).tr hs_w_4 (by decide)), (In_lit (n := 1) (by decide) (by decide) : In 0 1 1)⟩
        · refine lv_iconst (v := 0) hx hb dX8_readsMarks_39 (by decide) ?_
          exact hret _ _ _ _ _ _ hP hD hS dX8_readsMarks_40 (In_lit (n := 0) (by decide) (by decide) : In 0 1 0) ⟨hW_w_4, ((hM_w17.tr hs_w_2 (by decide)).tr hs_w_4 (by decide)), (In_lit (n := 0) (by decide) (by decide) : In 0 1 0)⟩
  refine lv_aload_n hx hb dX8_readsMarks_0 rfl (lv_at hl 0 rfl) ?_
  refine gt_X8 hx hb hts hown hK hP 34 (hW_w.o tX_34) 0 (by decide) wd_227 rfl (hW_w.fr tX_34 rfl) dX8_readsMarks_1 ?_
  refine gt_X10 hx hb hts hown hK hP 31 (hW_w.o tX_31) 4 (by decide) wd_195 rfl (hW_w.fi tX_31 rfl) dX8_readsMarks_4 ?_
  refine lv_sipush (v := 265) hx hb dX8_readsMarks_7 (by decide) ?_
  refine lv_icmp_eq (tgt := 15) hx hb dX8_readsMarks_10 (by decide) (fun c_8 => ?_) (fun c_8 => ?_)
  · refine lv_iconst (v := 0) hx hb dX8_readsMarks_15 (by decide) ?_
    refine lv_istore_n (lv' := [(2, .int 0), (0, .ref (q 34)), (1, .int p1)]) hx hb dX8_readsMarks_16 rfl hl (by decide) rfl (fun ls hl => ?_)
    exact J17 _ 0 w _ _ ls (Nat.lt_succ_self _) hW_w Sm.rf i_p1 (In_lit (n := 0) (by decide) (by decide) : In 0 1001 0) hf_16_0 (In_w (R_eq_l (In_any _) (In_lit (n := 265) (by decide) (by decide) : In 265 265 265) c_8 (by decide) : In 265 265 (fI w 31 4)) (by decide) : In 44 265 (fI w 31 4)) hf_34_4 hP hD hS (lv_sub hl [1, 2, 0] rfl)
  · refine lv_iconst (v := 1) hx hb dX8_readsMarks_13 (by decide) ?_
    exact hret _ _ _ _ _ _ hP hD hS dX8_readsMarks_14 (In_lit (n := 1) (by decide) (by decide) : In 0 1 1) ⟨hW_w, Sm.rf, (In_lit (n := 1) (by decide) (by decide) : In 0 1 1)⟩
set_option maxRecDepth 100000 in
set_option maxHeartbeats 8000000 in
theorem k_X8_readsNumber_18 (l : Launch) (D : va_G) (cI cJ cZ : ClassId) (q : Nat → Nat) (bb bs : Nat) (w : va_W) (hW_w : HT q (TX q cI cJ cZ bb bs 16) w) (p1 : Int32) (p2 : Int32) (p3 : Int32) (p5 : Int32) (i_p1 : In 2 2 p1) (i_p2 : In 1 1 p2) (i_p3 : In 500 500 p3) (i_p5 : In 0 9 p5) (hf_16_0 : In 1 10 (fI w 16 0)) (hf_34_4 : In 0 0 (fI w 34 4)) : Con_i l yX8_readsNumber cX8_readsNumber 6 (some .boolean) ({ frames := 3, cells := 0, slots := 0, locals := 68 }) D cI cJ cZ eW [.ref (q 34), .int p1, .int p2, .int p3, .ref (q 18), .int p5] w (fun (r : Int32) (w1 : va_W) => HT q (TX q cI cJ cZ bb bs 16) w1 ∧ Sm [18, 31, 34] [(31, 3), (31, 4), (31, 5), (31, 6), (31, 7), (34, 2), (34, 3)] w w1 ∧ In 0 1 r) := by
  refine eQ_z rfl (by decide) (Nat.le_of_ble_eq_true rfl) ⟨rfl, rfl⟩ ?_
  intro p e R s m args below meth c A Q hx hb hml hown hts hK hE hA hR hret hP hD hS ls hl
  have hown : s.vm.findClass RX8 = some m.cls := hown
  have hl : lv_has ls 6 [(0, .ref (q 34)), (1, .int p1), (2, .int p2), (3, .int p3), (4, .ref (q 18)), (5, .int p5)] := hl
  refine lv_aload_n hx hb dX8_readsNumber_0 rfl (lv_at hl 0 rfl) ?_
  refine lv_sipush (v := 260) hx hb dX8_readsNumber_1 (by decide) ?_
  refine lv_iload_n hx hb dX8_readsNumber_4 rfl (lv_at hl 1 rfl) ?_
  refine lv_iadd hx hb dX8_readsNumber_5 ?_
  refine kW_i ⟨rfl, rfl⟩ hP hD hS hA (rW_V (As := [.int (260 + p1)]) (rest := []) hx hb hml hown hts hK hE hP hD (k_X8_passes l D cI cJ cZ q bb bs w hW_w (260 + p1) (In_w ((In_add (In_lit (n := 260) (by decide) (by decide) : In 260 260 260) i_p1 (by decide)) : In 262 262 (260 + p1)) (by decide) : In 41 271 (260 + p1)) _) ⟨⟨rfl, rfl⟩, rfl, rfl⟩ sv_X8_97 ⟨(Nat.le_trans (by decide) hR.1), (Nat.le_trans (by decide) hR.2)⟩ 34 8 (hW_w.o tX_34) rfl rfl rfl hl.1 rfl (Nat.le_of_ble_eq_true rfl) dX8_readsNumber_6) (fun r_2 w_1 H locs hw_w_1 hP hD hS => ?_)
  obtain ⟨hW_w_1, hs_w_1, i_r_2⟩ := hw_w_1
  refine lv_if_ne (tgt := 14) hx hb dX8_readsNumber_9 (by decide) (fun c_3 => ?_) (fun c_3 => ?_)
  · refine lv_aload_n hx hb dX8_readsNumber_14 rfl (lv_at hl 0 rfl) ?_
    refine gt_X8 hx hb hts hown hK hP 34 (hW_w_1.o tX_34) 0 (by decide) wd_227 rfl (hW_w_1.fr tX_34 rfl) dX8_readsNumber_15 ?_
    refine gt_X10 hx hb hts hown hK hP 31 (hW_w_1.o tX_31) 4 (by decide) wd_195 rfl (hW_w_1.fi tX_31 rfl) dX8_readsNumber_18 ?_
    refine lv_sipush (v := 259) hx hb dX8_readsNumber_21 (by decide) ?_
    refine lv_icmp_eq (tgt := 33) hx hb dX8_readsNumber_24 (by decide) (fun c_4 => ?_) (fun c_4 => ?_)
    · refine lv_aload_n hx hb dX8_readsNumber_33 rfl (lv_at hl 0 rfl) ?_
      refine gt_X8 hx hb hts hown hK hP 34 (hW_w_1.o tX_34) 0 (by decide) wd_227 rfl (hW_w_1.fr tX_34 rfl) dX8_readsNumber_34 ?_
      refine gt_X10 hx hb hts hown hK hP 31 (hW_w_1.o tX_31) 7 (by decide) wd_202 rfl (hW_w_1.fi tX_31 rfl) dX8_readsNumber_37 ?_
      refine lv_iload_n hx hb dX8_readsNumber_40 rfl (lv_at hl 2 rfl) ?_
      refine lv_iload_n hx hb dX8_readsNumber_41 rfl (lv_at hl 3 rfl) ?_
      refine kW_i ⟨rfl, rfl⟩ hP hD hS hA (rW_N (As := [.int (fI w_1 31 7), .int p2, .int p3]) (rest := []) hx hb hml hown hts hK hE hP hD (k_X11_within l D cI cJ cZ q bb bs 16 w_1 hW_w_1 (fI w_1 31 7) p2 p3 (In_w i_p2 (by decide) : In 0 278 p2) (In_w i_p3 (by decide) : In 2 100000 p3) _) ⟨⟨rfl, rfl⟩, rfl, rfl⟩ hE.1 ⟨⟨wd_785, wd_1, wd_786⟩, sv_X11_168.2⟩ ⟨(Nat.le_trans (by decide) hR.1), (Nat.le_trans (by decide) hR.2)⟩ rfl hl.1 rfl (Nat.le_of_ble_eq_true rfl) dX8_readsNumber_42) (fun r_6 w_5 H locs hw_w_5 hP hD hS => ?_)
      obtain ⟨hW_w_5, hs_w_5, i_r_6, h_7, h_8⟩ := hw_w_5
      refine lv_if_ne (tgt := 54) hx hb dX8_readsNumber_45 (by decide) (fun c_9 => ?_) (fun c_9 => ?_)
      · refine lv_aload hx hb dX8_readsNumber_54 (lv_at hl 4 rfl) ?_
        refine lv_iload hx hb dX8_readsNumber_56 (lv_at hl 5 rfl) ?_
        refine lv_aload_n hx hb dX8_readsNumber_58 rfl (lv_at hl 0 rfl) ?_
        refine gt_X8 hx hb hts hown hK hP 34 (hW_w_5.o tX_34) 0 (by decide) wd_227 rfl (hW_w_5.fr tX_34 rfl) dX8_readsNumber_59 ?_
        refine gt_X10 hx hb hts hown hK hP 31 (hW_w_5.o tX_31) 7 (by decide) wd_202 rfl (hW_w_5.fi tX_31 rfl) dX8_readsNumber_62 ?_
        refine tov (v := (fI w_1 31 7)) (hs_w_5.gI (by decide)) ?_
        refine va_iast hx hb hK hP hD hS 18 0 (hW_w_5.a tX_18) rfl (in_I i_p5 (by decide)) dX8_readsNumber_65 (fun H locs hP hD hS => fr_w (hW_w_5.uA tX_18 (In_w (by have q0 := h_8 c_9; have q1 := i_p2; have q2 := i_p3; have q3 := (h_7 c_9); unfold In at q1 q2 q3 ⊢; omega : In 1 500 (fI w_1 31 7)) (by decide) : In (-2147483648) 2147483647 (fI w_1 31 7))) hP hD (fun w_10 ew_10 hW_w_10 hP hD => ?_))
        refine lv_aload_n hx hb dX8_readsNumber_66 rfl (lv_at hl 0 rfl) ?_
        refine gt_X8 hx hb hts hown hK hP 34 (hW_w_10.o tX_34) 0 (by decide) wd_227 rfl (hW_w_10.fr tX_34 rfl) dX8_readsNumber_67 ?_
        refine kW_v ⟨rfl, rfl⟩ hP hD hS hA (rW_V (As := []) (rest := []) hx hb hml hown hts hK hE hP hD (k_X10_step l D cI cJ cZ q bb bs 16 w_10 hW_w_10  _) ⟨⟨rfl, rfl⟩, rfl, rfl⟩ sv_X8_59 ⟨(Nat.le_trans (by decide) hR.1), (Nat.le_trans (by decide) hR.2)⟩ 31 10 (hW_w_10.o tX_31) rfl rfl rfl hl.1 rfl (Nat.le_of_ble_eq_true rfl) dX8_readsNumber_70) (fun w_11 H locs hw_w_11 hP hD hS => ?_)
        obtain ⟨hW_w_11, hs_w_11⟩ := hw_w_11
        refine lv_iconst (v := 1) hx hb dX8_readsNumber_73 (by decide) ?_
        exact hret _ _ _ _ _ _ hP hD hS dX8_readsNumber_74 (In_lit (n := 1) (by decide) (by decide) : In 0 1 1) ⟨hW_w_11, ((((Sm.rf.tr hs_w_1 (by decide)).tr hs_w_5 (by decide)).sa ew_10 (by decide)).tr hs_w_11 (by decide)), (In_lit (n := 1) (by decide) (by decide) : In 0 1 1)⟩
      · refine lv_aload_n hx hb dX8_readsNumber_48 rfl (lv_at hl 0 rfl) ?_
        refine lv_iconst (v := 4) hx hb dX8_readsNumber_49 (by decide) ?_
        refine kW_i ⟨rfl, rfl⟩ hP hD hS hA (rW_V (As := [.int 4]) (rest := []) hx hb hml hown hts hK hE hP hD (k_X8_fails l D cI cJ cZ q bb bs w_5 hW_w_5 4 (In_lit (n := 4) (by decide) (by decide) : In 1 5 4) _) ⟨⟨rfl, rfl⟩, rfl, rfl⟩ sv_X8_56 ⟨(Nat.le_trans (by decide) hR.1), (Nat.le_trans (by decide) hR.2)⟩ 34 8 (hW_w_5.o tX_34) rfl rfl rfl hl.1 rfl (Nat.le_of_ble_eq_true rfl) dX8_readsNumber_50) (fun r_14 w_13 H locs hw_w_13 hP hD hS => ?_)
        obtain ⟨hW_w_13, hs_w_13, i_r_14⟩ := hw_w_13
        refine tov (v := 0) (In_one i_r_14 (by decide)) ?_
        exact hret _ _ _ _ _ _ hP hD hS dX8_readsNumber_53 (In_lit (n := 0) (by decide) (by decide) : In 0 1 0) ⟨hW_w_13, (((Sm.rf.tr hs_w_1 (by decide)).tr hs_w_5 (by decide)).tr hs_w_13 (by decide)), (In_lit (n := 0) (by decide) (by decide) : In 0 1 0)⟩
    · refine lv_aload_n hx hb dX8_readsNumber_27 rfl (lv_at hl 0 rfl) ?_
      refine lv_iconst (v := 1) hx hb dX8_readsNumber_28 (by decide) ?_
      refine kW_i ⟨rfl, rfl⟩ hP hD hS hA (rW_V (As := [.int 1]) (rest := []) hx hb hml hown hts hK hE hP hD (k_X8_fails l D cI cJ cZ q bb bs w_1 hW_w_1 1 (In_lit (n := 1) (by decide) (by decide) : In 1 5 1) _) ⟨⟨rfl, rfl⟩, rfl, rfl⟩ sv_X8_56 ⟨(Nat.le_trans (by decide) hR.1), (Nat.le_trans (by decide) hR.2)⟩ 34 8 (hW_w_1.o tX_34) rfl rfl rfl hl.1 rfl (Nat.le_of_ble_eq_true rfl) dX8_readsNumber_29) (fun r_16 w_15 H locs hw_w_15 hP hD hS => ?_)
      obtain ⟨hW_w_15, hs_w_15, i_r_16⟩ := hw_w_15
      refine tov (v := 0) (In_one i_r_16 (by decide)) ?_
      exact hret _ _ _ _ _ _ hP hD hS dX8_readsNumber_32 (In_lit (n := 0) (by decide) (by decide) : In 0 1 0) ⟨hW_w_15, ((Sm.rf.tr hs_w_1 (by decide)).tr hs_w_15 (by decide)), (In_lit (n := 0) (by decide) (by decide) : In 0 1 0)⟩
  · refine lv_iconst (v := 0) hx hb dX8_readsNumber_12 (by decide) ?_
    exact hret _ _ _ _ _ _ hP hD hS dX8_readsNumber_13 (In_lit (n := 0) (by decide) (by decide) : In 0 1 0) ⟨hW_w_1, (Sm.rf.tr hs_w_1 (by decide)), (In_lit (n := 0) (by decide) (by decide) : In 0 1 0)⟩
set_option maxRecDepth 100000 in
set_option maxHeartbeats 8000000 in
theorem k_X8_readsNumber_19 (l : Launch) (D : va_G) (cI cJ cZ : ClassId) (q : Nat → Nat) (bb bs : Nat) (w : va_W) (hW_w : HT q (TX q cI cJ cZ bb bs 16) w) (p1 : Int32) (p2 : Int32) (p3 : Int32) (p5 : Int32) (i_p1 : In 3 3 p1) (i_p2 : In 0 0 p2) (i_p3 : In 1000 1000 p3) (i_p5 : In 0 9 p5) (hf_16_0 : In 1 10 (fI w 16 0)) (hf_34_4 : In 0 0 (fI w 34 4)) : Con_i l yX8_readsNumber cX8_readsNumber 6 (some .boolean) ({ frames := 3, cells := 0, slots := 0, locals := 68 }) D cI cJ cZ eW [.ref (q 34), .int p1, .int p2, .int p3, .ref (q 19), .int p5] w (fun (r : Int32) (w1 : va_W) => HT q (TX q cI cJ cZ bb bs 16) w1 ∧ Sm [19, 31, 34] [(31, 3), (31, 4), (31, 5), (31, 6), (31, 7), (34, 2), (34, 3)] w w1 ∧ In 0 1 r) := by
  refine eQ_z rfl (by decide) (Nat.le_of_ble_eq_true rfl) ⟨rfl, rfl⟩ ?_
  intro p e R s m args below meth c A Q hx hb hml hown hts hK hE hA hR hret hP hD hS ls hl
  have hown : s.vm.findClass RX8 = some m.cls := hown
  have hl : lv_has ls 6 [(0, .ref (q 34)), (1, .int p1), (2, .int p2), (3, .int p3), (4, .ref (q 19)), (5, .int p5)] := hl
  refine lv_aload_n hx hb dX8_readsNumber_0 rfl (lv_at hl 0 rfl) ?_
  refine lv_sipush (v := 260) hx hb dX8_readsNumber_1 (by decide) ?_
  refine lv_iload_n hx hb dX8_readsNumber_4 rfl (lv_at hl 1 rfl) ?_
  refine lv_iadd hx hb dX8_readsNumber_5 ?_
  refine kW_i ⟨rfl, rfl⟩ hP hD hS hA (rW_V (As := [.int (260 + p1)]) (rest := []) hx hb hml hown hts hK hE hP hD (k_X8_passes l D cI cJ cZ q bb bs w hW_w (260 + p1) (In_w ((In_add (In_lit (n := 260) (by decide) (by decide) : In 260 260 260) i_p1 (by decide)) : In 263 263 (260 + p1)) (by decide) : In 41 271 (260 + p1)) _) ⟨⟨rfl, rfl⟩, rfl, rfl⟩ sv_X8_97 ⟨(Nat.le_trans (by decide) hR.1), (Nat.le_trans (by decide) hR.2)⟩ 34 8 (hW_w.o tX_34) rfl rfl rfl hl.1 rfl (Nat.le_of_ble_eq_true rfl) dX8_readsNumber_6) (fun r_2 w_1 H locs hw_w_1 hP hD hS => ?_)
  obtain ⟨hW_w_1, hs_w_1, i_r_2⟩ := hw_w_1
  refine lv_if_ne (tgt := 14) hx hb dX8_readsNumber_9 (by decide) (fun c_3 => ?_) (fun c_3 => ?_)
  · refine lv_aload_n hx hb dX8_readsNumber_14 rfl (lv_at hl 0 rfl) ?_
    refine gt_X8 hx hb hts hown hK hP 34 (hW_w_1.o tX_34) 0 (by decide) wd_227 rfl (hW_w_1.fr tX_34 rfl) dX8_readsNumber_15 ?_
    refine gt_X10 hx hb hts hown hK hP 31 (hW_w_1.o tX_31) 4 (by decide) wd_195 rfl (hW_w_1.fi tX_31 rfl) dX8_readsNumber_18 ?_
    refine lv_sipush (v := 259) hx hb dX8_readsNumber_21 (by decide) ?_
    refine lv_icmp_eq (tgt := 33) hx hb dX8_readsNumber_24 (by decide) (fun c_4 => ?_) (fun c_4 => ?_)
    · refine lv_aload_n hx hb dX8_readsNumber_33 rfl (lv_at hl 0 rfl) ?_
      refine gt_X8 hx hb hts hown hK hP 34 (hW_w_1.o tX_34) 0 (by decide) wd_227 rfl (hW_w_1.fr tX_34 rfl) dX8_readsNumber_34 ?_
      refine gt_X10 hx hb hts hown hK hP 31 (hW_w_1.o tX_31) 7 (by decide) wd_202 rfl (hW_w_1.fi tX_31 rfl) dX8_readsNumber_37 ?_
      refine lv_iload_n hx hb dX8_readsNumber_40 rfl (lv_at hl 2 rfl) ?_
      refine lv_iload_n hx hb dX8_readsNumber_41 rfl (lv_at hl 3 rfl) ?_
      refine kW_i ⟨rfl, rfl⟩ hP hD hS hA (rW_N (As := [.int (fI w_1 31 7), .int p2, .int p3]) (rest := []) hx hb hml hown hts hK hE hP hD (k_X11_within l D cI cJ cZ q bb bs 16 w_1 hW_w_1 (fI w_1 31 7) p2 p3 (In_w i_p2 (by decide) : In 0 278 p2) (In_w i_p3 (by decide) : In 2 100000 p3) _) ⟨⟨rfl, rfl⟩, rfl, rfl⟩ hE.1 ⟨⟨wd_785, wd_1, wd_786⟩, sv_X11_168.2⟩ ⟨(Nat.le_trans (by decide) hR.1), (Nat.le_trans (by decide) hR.2)⟩ rfl hl.1 rfl (Nat.le_of_ble_eq_true rfl) dX8_readsNumber_42) (fun r_6 w_5 H locs hw_w_5 hP hD hS => ?_)
      obtain ⟨hW_w_5, hs_w_5, i_r_6, h_7, h_8⟩ := hw_w_5
      refine lv_if_ne (tgt := 54) hx hb dX8_readsNumber_45 (by decide) (fun c_9 => ?_) (fun c_9 => ?_)
      · refine lv_aload hx hb dX8_readsNumber_54 (lv_at hl 4 rfl) ?_
        refine lv_iload hx hb dX8_readsNumber_56 (lv_at hl 5 rfl) ?_
        refine lv_aload_n hx hb dX8_readsNumber_58 rfl (lv_at hl 0 rfl) ?_
        refine gt_X8 hx hb hts hown hK hP 34 (hW_w_5.o tX_34) 0 (by decide) wd_227 rfl (hW_w_5.fr tX_34 rfl) dX8_readsNumber_59 ?_
        refine gt_X10 hx hb hts hown hK hP 31 (hW_w_5.o tX_31) 7 (by decide) wd_202 rfl (hW_w_5.fi tX_31 rfl) dX8_readsNumber_62 ?_
        refine tov (v := (fI w_1 31 7)) (hs_w_5.gI (by decide)) ?_
        refine va_iast hx hb hK hP hD hS 19 0 (hW_w_5.a tX_19) rfl (in_I i_p5 (by decide)) dX8_readsNumber_65 (fun H locs hP hD hS => fr_w (hW_w_5.uA tX_19 (In_w (by have q0 := h_8 c_9; have q1 := i_p2; have q2 := i_p3; have q3 := (h_7 c_9); unfold In at q1 q2 q3 ⊢; omega : In 0 1000 (fI w_1 31 7)) (by decide) : In (-2147483648) 2147483647 (fI w_1 31 7))) hP hD (fun w_10 ew_10 hW_w_10 hP hD => ?_))
        refine lv_aload_n hx hb dX8_readsNumber_66 rfl (lv_at hl 0 rfl) ?_
        refine gt_X8 hx hb hts hown hK hP 34 (hW_w_10.o tX_34) 0 (by decide) wd_227 rfl (hW_w_10.fr tX_34 rfl) dX8_readsNumber_67 ?_
        refine kW_v ⟨rfl, rfl⟩ hP hD hS hA (rW_V (As := []) (rest := []) hx hb hml hown hts hK hE hP hD (k_X10_step l D cI cJ cZ q bb bs 16 w_10 hW_w_10  _) ⟨⟨rfl, rfl⟩, rfl, rfl⟩ sv_X8_59 ⟨(Nat.le_trans (by decide) hR.1), (Nat.le_trans (by decide) hR.2)⟩ 31 10 (hW_w_10.o tX_31) rfl rfl rfl hl.1 rfl (Nat.le_of_ble_eq_true rfl) dX8_readsNumber_70) (fun w_11 H locs hw_w_11 hP hD hS => ?_)
        obtain ⟨hW_w_11, hs_w_11⟩ := hw_w_11
        refine lv_iconst (v := 1) hx hb dX8_readsNumber_73 (by decide) ?_
        exact hret _ _ _ _ _ _ hP hD hS dX8_readsNumber_74 (In_lit (n := 1) (by decide) (by decide) : In 0 1 1) ⟨hW_w_11, ((((Sm.rf.tr hs_w_1 (by decide)).tr hs_w_5 (by decide)).sa ew_10 (by decide)).tr hs_w_11 (by decide)), (In_lit (n := 1) (by decide) (by decide) : In 0 1 1)⟩
      · refine lv_aload_n hx hb dX8_readsNumber_48 rfl (lv_at hl 0 rfl) ?_
        refine lv_iconst (v := 4) hx hb dX8_readsNumber_49 (by decide) ?_
        refine kW_i ⟨rfl, rfl⟩ hP hD hS hA (rW_V (As := [.int 4]) (rest := []) hx hb hml hown hts hK hE hP hD (k_X8_fails l D cI cJ cZ q bb bs w_5 hW_w_5 4 (In_lit (n := 4) (by decide) (by decide) : In 1 5 4) _) ⟨⟨rfl, rfl⟩, rfl, rfl⟩ sv_X8_56 ⟨(Nat.le_trans (by decide) hR.1), (Nat.le_trans (by decide) hR.2)⟩ 34 8 (hW_w_5.o tX_34) rfl rfl rfl hl.1 rfl (Nat.le_of_ble_eq_true rfl) dX8_readsNumber_50) (fun r_14 w_13 H locs hw_w_13 hP hD hS => ?_)
        obtain ⟨hW_w_13, hs_w_13, i_r_14⟩ := hw_w_13
        refine tov (v := 0) (In_one i_r_14 (by decide)) ?_
        exact hret _ _ _ _ _ _ hP hD hS dX8_readsNumber_53 (In_lit (n := 0) (by decide) (by decide) : In 0 1 0) ⟨hW_w_13, (((Sm.rf.tr hs_w_1 (by decide)).tr hs_w_5 (by decide)).tr hs_w_13 (by decide)), (In_lit (n := 0) (by decide) (by decide) : In 0 1 0)⟩
    · refine lv_aload_n hx hb dX8_readsNumber_27 rfl (lv_at hl 0 rfl) ?_
      refine lv_iconst (v := 1) hx hb dX8_readsNumber_28 (by decide) ?_
      refine kW_i ⟨rfl, rfl⟩ hP hD hS hA (rW_V (As := [.int 1]) (rest := []) hx hb hml hown hts hK hE hP hD (k_X8_fails l D cI cJ cZ q bb bs w_1 hW_w_1 1 (In_lit (n := 1) (by decide) (by decide) : In 1 5 1) _) ⟨⟨rfl, rfl⟩, rfl, rfl⟩ sv_X8_56 ⟨(Nat.le_trans (by decide) hR.1), (Nat.le_trans (by decide) hR.2)⟩ 34 8 (hW_w_1.o tX_34) rfl rfl rfl hl.1 rfl (Nat.le_of_ble_eq_true rfl) dX8_readsNumber_29) (fun r_16 w_15 H locs hw_w_15 hP hD hS => ?_)
      obtain ⟨hW_w_15, hs_w_15, i_r_16⟩ := hw_w_15
      refine tov (v := 0) (In_one i_r_16 (by decide)) ?_
      exact hret _ _ _ _ _ _ hP hD hS dX8_readsNumber_32 (In_lit (n := 0) (by decide) (by decide) : In 0 1 0) ⟨hW_w_15, ((Sm.rf.tr hs_w_1 (by decide)).tr hs_w_15 (by decide)), (In_lit (n := 0) (by decide) (by decide) : In 0 1 0)⟩
  · refine lv_iconst (v := 0) hx hb dX8_readsNumber_12 (by decide) ?_
    exact hret _ _ _ _ _ _ hP hD hS dX8_readsNumber_13 (In_lit (n := 0) (by decide) (by decide) : In 0 1 0) ⟨hW_w_1, (Sm.rf.tr hs_w_1 (by decide)), (In_lit (n := 0) (by decide) (by decide) : In 0 1 0)⟩
set_option maxRecDepth 100000 in
set_option maxHeartbeats 8000000 in
theorem k_X8_readsNumber_20 (l : Launch) (D : va_G) (cI cJ cZ : ClassId) (q : Nat → Nat) (bb bs : Nat) (w : va_W) (hW_w : HT q (TX q cI cJ cZ bb bs 16) w) (p1 : Int32) (p2 : Int32) (p3 : Int32) (p5 : Int32) (i_p1 : In 4 4 p1) (i_p2 : In 0 0 p2) (i_p3 : In 200 200 p3) (i_p5 : In 0 9 p5) (hf_16_0 : In 1 10 (fI w 16 0)) (hf_34_4 : In 0 0 (fI w 34 4)) : Con_i l yX8_readsNumber cX8_readsNumber 6 (some .boolean) ({ frames := 3, cells := 0, slots := 0, locals := 68 }) D cI cJ cZ eW [.ref (q 34), .int p1, .int p2, .int p3, .ref (q 20), .int p5] w (fun (r : Int32) (w1 : va_W) => HT q (TX q cI cJ cZ bb bs 16) w1 ∧ Sm [20, 31, 34] [(31, 3), (31, 4), (31, 5), (31, 6), (31, 7), (34, 2), (34, 3)] w w1 ∧ In 0 1 r) := by
  refine eQ_z rfl (by decide) (Nat.le_of_ble_eq_true rfl) ⟨rfl, rfl⟩ ?_
  intro p e R s m args below meth c A Q hx hb hml hown hts hK hE hA hR hret hP hD hS ls hl
  have hown : s.vm.findClass RX8 = some m.cls := hown
  have hl : lv_has ls 6 [(0, .ref (q 34)), (1, .int p1), (2, .int p2), (3, .int p3), (4, .ref (q 20)), (5, .int p5)] := hl
  refine lv_aload_n hx hb dX8_readsNumber_0 rfl (lv_at hl 0 rfl) ?_
  refine lv_sipush (v := 260) hx hb dX8_readsNumber_1 (by decide) ?_
  refine lv_iload_n hx hb dX8_readsNumber_4 rfl (lv_at hl 1 rfl) ?_
  refine lv_iadd hx hb dX8_readsNumber_5 ?_
  refine kW_i ⟨rfl, rfl⟩ hP hD hS hA (rW_V (As := [.int (260 + p1)]) (rest := []) hx hb hml hown hts hK hE hP hD (k_X8_passes l D cI cJ cZ q bb bs w hW_w (260 + p1) (In_w ((In_add (In_lit (n := 260) (by decide) (by decide) : In 260 260 260) i_p1 (by decide)) : In 264 264 (260 + p1)) (by decide) : In 41 271 (260 + p1)) _) ⟨⟨rfl, rfl⟩, rfl, rfl⟩ sv_X8_97 ⟨(Nat.le_trans (by decide) hR.1), (Nat.le_trans (by decide) hR.2)⟩ 34 8 (hW_w.o tX_34) rfl rfl rfl hl.1 rfl (Nat.le_of_ble_eq_true rfl) dX8_readsNumber_6) (fun r_2 w_1 H locs hw_w_1 hP hD hS => ?_)
  obtain ⟨hW_w_1, hs_w_1, i_r_2⟩ := hw_w_1
  refine lv_if_ne (tgt := 14) hx hb dX8_readsNumber_9 (by decide) (fun c_3 => ?_) (fun c_3 => ?_)
  · refine lv_aload_n hx hb dX8_readsNumber_14 rfl (lv_at hl 0 rfl) ?_
    refine gt_X8 hx hb hts hown hK hP 34 (hW_w_1.o tX_34) 0 (by decide) wd_227 rfl (hW_w_1.fr tX_34 rfl) dX8_readsNumber_15 ?_
    refine gt_X10 hx hb hts hown hK hP 31 (hW_w_1.o tX_31) 4 (by decide) wd_195 rfl (hW_w_1.fi tX_31 rfl) dX8_readsNumber_18 ?_
    refine lv_sipush (v := 259) hx hb dX8_readsNumber_21 (by decide) ?_
    refine lv_icmp_eq (tgt := 33) hx hb dX8_readsNumber_24 (by decide) (fun c_4 => ?_) (fun c_4 => ?_)
    · refine lv_aload_n hx hb dX8_readsNumber_33 rfl (lv_at hl 0 rfl) ?_
      refine gt_X8 hx hb hts hown hK hP 34 (hW_w_1.o tX_34) 0 (by decide) wd_227 rfl (hW_w_1.fr tX_34 rfl) dX8_readsNumber_34 ?_
      refine gt_X10 hx hb hts hown hK hP 31 (hW_w_1.o tX_31) 7 (by decide) wd_202 rfl (hW_w_1.fi tX_31 rfl) dX8_readsNumber_37 ?_
      refine lv_iload_n hx hb dX8_readsNumber_40 rfl (lv_at hl 2 rfl) ?_
      refine lv_iload_n hx hb dX8_readsNumber_41 rfl (lv_at hl 3 rfl) ?_
      refine kW_i ⟨rfl, rfl⟩ hP hD hS hA (rW_N (As := [.int (fI w_1 31 7), .int p2, .int p3]) (rest := []) hx hb hml hown hts hK hE hP hD (k_X11_within l D cI cJ cZ q bb bs 16 w_1 hW_w_1 (fI w_1 31 7) p2 p3 (In_w i_p2 (by decide) : In 0 278 p2) (In_w i_p3 (by decide) : In 2 100000 p3) _) ⟨⟨rfl, rfl⟩, rfl, rfl⟩ hE.1 ⟨⟨wd_785, wd_1, wd_786⟩, sv_X11_168.2⟩ ⟨(Nat.le_trans (by decide) hR.1), (Nat.le_trans (by decide) hR.2)⟩ rfl hl.1 rfl (Nat.le_of_ble_eq_true rfl) dX8_readsNumber_42) (fun r_6 w_5 H locs hw_w_5 hP hD hS => ?_)
      obtain ⟨hW_w_5, hs_w_5, i_r_6, h_7, h_8⟩ := hw_w_5
      refine lv_if_ne (tgt := 54) hx hb dX8_readsNumber_45 (by decide) (fun c_9 => ?_) (fun c_9 => ?_)
      · refine lv_aload hx hb dX8_readsNumber_54 (lv_at hl 4 rfl) ?_
        refine lv_iload hx hb dX8_readsNumber_56 (lv_at hl 5 rfl) ?_
        refine lv_aload_n hx hb dX8_readsNumber_58 rfl (lv_at hl 0 rfl) ?_
        refine gt_X8 hx hb hts hown hK hP 34 (hW_w_5.o tX_34) 0 (by decide) wd_227 rfl (hW_w_5.fr tX_34 rfl) dX8_readsNumber_59 ?_
        refine gt_X10 hx hb hts hown hK hP 31 (hW_w_5.o tX_31) 7 (by decide) wd_202 rfl (hW_w_5.fi tX_31 rfl) dX8_readsNumber_62 ?_
        refine tov (v := (fI w_1 31 7)) (hs_w_5.gI (by decide)) ?_
        refine va_iast hx hb hK hP hD hS 20 0 (hW_w_5.a tX_20) rfl (in_I i_p5 (by decide)) dX8_readsNumber_65 (fun H locs hP hD hS => fr_w (hW_w_5.uA tX_20 (In_w (by have q0 := h_8 c_9; have q1 := i_p2; have q2 := i_p3; have q3 := (h_7 c_9); unfold In at q1 q2 q3 ⊢; omega : In 0 200 (fI w_1 31 7)) (by decide) : In (-2147483648) 2147483647 (fI w_1 31 7))) hP hD (fun w_10 ew_10 hW_w_10 hP hD => ?_))
        refine lv_aload_n hx hb dX8_readsNumber_66 rfl (lv_at hl 0 rfl) ?_
        refine gt_X8 hx hb hts hown hK hP 34 (hW_w_10.o tX_34) 0 (by decide) wd_227 rfl (hW_w_10.fr tX_34 rfl) dX8_readsNumber_67 ?_
        refine kW_v ⟨rfl, rfl⟩ hP hD hS hA (rW_V (As := []) (rest := []) hx hb hml hown hts hK hE hP hD (k_X10_step l D cI cJ cZ q bb bs 16 w_10 hW_w_10  _) ⟨⟨rfl, rfl⟩, rfl, rfl⟩ sv_X8_59 ⟨(Nat.le_trans (by decide) hR.1), (Nat.le_trans (by decide) hR.2)⟩ 31 10 (hW_w_10.o tX_31) rfl rfl rfl hl.1 rfl (Nat.le_of_ble_eq_true rfl) dX8_readsNumber_70) (fun w_11 H locs hw_w_11 hP hD hS => ?_)
        obtain ⟨hW_w_11, hs_w_11⟩ := hw_w_11
        refine lv_iconst (v := 1) hx hb dX8_readsNumber_73 (by decide) ?_
        exact hret _ _ _ _ _ _ hP hD hS dX8_readsNumber_74 (In_lit (n := 1) (by decide) (by decide) : In 0 1 1) ⟨hW_w_11, ((((Sm.rf.tr hs_w_1 (by decide)).tr hs_w_5 (by decide)).sa ew_10 (by decide)).tr hs_w_11 (by decide)), (In_lit (n := 1) (by decide) (by decide) : In 0 1 1)⟩
      · refine lv_aload_n hx hb dX8_readsNumber_48 rfl (lv_at hl 0 rfl) ?_
        refine lv_iconst (v := 4) hx hb dX8_readsNumber_49 (by decide) ?_
        refine kW_i ⟨rfl, rfl⟩ hP hD hS hA (rW_V (As := [.int 4]) (rest := []) hx hb hml hown hts hK hE hP hD (k_X8_fails l D cI cJ cZ q bb bs w_5 hW_w_5 4 (In_lit (n := 4) (by decide) (by decide) : In 1 5 4) _) ⟨⟨rfl, rfl⟩, rfl, rfl⟩ sv_X8_56 ⟨(Nat.le_trans (by decide) hR.1), (Nat.le_trans (by decide) hR.2)⟩ 34 8 (hW_w_5.o tX_34) rfl rfl rfl hl.1 rfl (Nat.le_of_ble_eq_true rfl) dX8_readsNumber_50) (fun r_14 w_13 H locs hw_w_13 hP hD hS => ?_)
        obtain ⟨hW_w_13, hs_w_13, i_r_14⟩ := hw_w_13
        refine tov (v := 0) (In_one i_r_14 (by decide)) ?_
        exact hret _ _ _ _ _ _ hP hD hS dX8_readsNumber_53 (In_lit (n := 0) (by decide) (by decide) : In 0 1 0) ⟨hW_w_13, (((Sm.rf.tr hs_w_1 (by decide)).tr hs_w_5 (by decide)).tr hs_w_13 (by decide)), (In_lit (n := 0) (by decide) (by decide) : In 0 1 0)⟩
    · refine lv_aload_n hx hb dX8_readsNumber_27 rfl (lv_at hl 0 rfl) ?_
      refine lv_iconst (v := 1) hx hb dX8_readsNumber_28 (by decide) ?_
      refine kW_i ⟨rfl, rfl⟩ hP hD hS hA (rW_V (As := [.int 1]) (rest := []) hx hb hml hown hts hK hE hP hD (k_X8_fails l D cI cJ cZ q bb bs w_1 hW_w_1 1 (In_lit (n := 1) (by decide) (by decide) : In 1 5 1) _) ⟨⟨rfl, rfl⟩, rfl, rfl⟩ sv_X8_56 ⟨(Nat.le_trans (by decide) hR.1), (Nat.le_trans (by decide) hR.2)⟩ 34 8 (hW_w_1.o tX_34) rfl rfl rfl hl.1 rfl (Nat.le_of_ble_eq_true rfl) dX8_readsNumber_29) (fun r_16 w_15 H locs hw_w_15 hP hD hS => ?_)
      obtain ⟨hW_w_15, hs_w_15, i_r_16⟩ := hw_w_15
      refine tov (v := 0) (In_one i_r_16 (by decide)) ?_
      exact hret _ _ _ _ _ _ hP hD hS dX8_readsNumber_32 (In_lit (n := 0) (by decide) (by decide) : In 0 1 0) ⟨hW_w_15, ((Sm.rf.tr hs_w_1 (by decide)).tr hs_w_15 (by decide)), (In_lit (n := 0) (by decide) (by decide) : In 0 1 0)⟩
  · refine lv_iconst (v := 0) hx hb dX8_readsNumber_12 (by decide) ?_
    exact hret _ _ _ _ _ _ hP hD hS dX8_readsNumber_13 (In_lit (n := 0) (by decide) (by decide) : In 0 1 0) ⟨hW_w_1, (Sm.rf.tr hs_w_1 (by decide)), (In_lit (n := 0) (by decide) (by decide) : In 0 1 0)⟩
