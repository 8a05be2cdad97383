set_option maxRecDepth 100000 in
set_option maxHeartbeats 8000000 in
theorem k_X4_listSets_1 (l : Launch) (D : va_G) (cI cJ cZ : ClassId) (q : Nat → Nat) (bb bs bp : Nat) (w : va_W) (hW_w : HT q (TX q cI cJ cZ bb bs bp) w) (p1 : Int32) (p3 : Int32) (i_p1 : In 0 39 p1) : Con_i l yX4_listSets cX4_listSets 9 (some .int) ({ frames := 1, cells := 0, slots := 0, locals := 24 }) D cI cJ cZ eW [.ref (q 88), .int p1, .ref (q 1), .int p3] w (fun (r : Int32) (w1 : va_W) => HT q (TX q cI cJ cZ bb bs bp) w1 ∧ Sm [99, 100, 101] [] w w1 ∧ In 1 1024 r) := by
  refine eQ_i rfl (by decide) (Nat.le_of_ble_eq_true rfl) ⟨rfl, rfl⟩ ?_
  intro p e R s m args below meth c A Q hx hb hml hown hts hK hE hA hR hret hP hD hS ls hl
  have hown : s.vm.findClass RX4 = some m.cls := hown
  have hl : lv_has ls 9 [(0, .ref (q 88)), (1, .int p1), (2, .ref (q 1)), (3, .int p3)] := hl
  have J49 : ∀ (N : Nat) (x49_4 : Int32) (x49_5 : Int32) (x49_6 : Int32) (w49 : va_W) (H : Heap) (locs : List Loc) (ls : Array Slot), (10 - x49_6.toInt).toNat < N → HT q (TX q cI cJ cZ bb bs bp) w49 → Sm [99, 100, 101] [] w w49 → (In 0 39 p1) → (In 1 1024 x49_4) → (In 0 10 x49_6) → va_P D vwCl w49 H → va_D A w49 → va_S A s.heap H locs → lv_has ls 9 [(0, .ref (q 88)), (1, .int p1), (2, .ref (q 1)), (3, .int p3), (4, .int x49_4), (5, .int x49_5), (6, .int x49_6)] → W p l e R s m args below meth c H locs 0 0 Q (F0 m 49 ls []) := by
    intro N
    induction N with
    | zero => intro x49_4 x49_5 x49_6 w49 H locs ls hmu; exact absurd hmu (Nat.not_lt_zero _)
    | succ N ih49 =>
      intro x49_4 x49_5 x49_6 w49 H locs ls hmu49 hW_w49 hM_w49 i_x49_1 i_x49_4 i_x49_6 hP hD hS hl
      have J195 : ∀ (x195_4 : Int32) (x195_7 : Int32) (x195_8 : Int32) (w195 : va_W) (H : Heap) (locs : List Loc) (ls : Array Slot), HT q (TX q cI cJ cZ bb bs bp) w195 → Sm [99, 100, 101] [] w w195 → (In 0 39 p1) → (In 1 1024 x195_4) → (In 0 9 x49_6) → (In 0 1024 x195_7) → (In 0 1024 x195_8) → (In 1 10 (fI w195 1 0)) → va_P D vwCl w195 H → va_D A w195 → va_S A s.heap H locs → lv_has ls 9 [(0, .ref (q 88)), (1, .int p1), (2, .ref (q 1)), (3, .int p3), (4, .int x195_4), (5, .int x49_5), (6, .int x49_6), (7, .int x195_7), (8, .int x195_8)] → W p l e R s m args below meth c H locs 0 0 Q (F0 m 195 ls []) := by
        intro x195_4 x195_7 x195_8 w195 H locs ls hW_w195 hM_w195 i_x195_1 i_x195_4 i_x195_6 i_x195_7 i_x195_8 g195_1_0 hP hD hS hl
        refine lv_iinc (v := (x49_6 + 1)) (lv' := [(6, .int (x49_6 + 1)), (0, .ref (q 88)), (1, .int p1), (2, .ref (q 1)), (3, .int p3), (4, .int x195_4), (5, .int x49_5), (7, .int x195_7), (8, .int x195_8)]) hx hb dX4_listSets_195 hl (k := 6) rfl (rfl) (by decide) rfl (fun ls hl => ?_)
        refine lv_goto (tgt := 49) hx hb dX4_listSets_198 (by decide) ?_
        exact ih49 x195_4 x49_5 (x49_6 + 1) w195 _ _ ls (mu_inc hmu49 i_x195_6 (In_lit (n := 1) (by decide) (by decide) : In 1 1 1) (by decide)) hW_w195 hM_w195 i_p1 i_x195_4 (In_w ((In_add (y := 1) i_x195_6 (In_lit (n := 1) (by decide) (by decide) : In 1 1 1) (by decide)) : In 1 10 (x49_6 + 1)) (by decide) : In 0 10 (x49_6 + 1)) hP hD hS (lv_sub hl [1, 2, 3, 4, 5, 6, 0] rfl)
      have J89 : ∀ (N : Nat) (x89_4 : Int32) (x89_7 : Int32) (x89_8 : Int32) (w89 : va_W) (H : Heap) (locs : List Loc) (ls : Array Slot), (1024 - x89_8.toInt).toNat < N → HT q (TX q cI cJ cZ bb bs bp) w89 → Sm [99, 100, 101] [] w w89 → (In 0 39 p1) → (In 1 1024 x89_4) → (In 0 9 x49_6) → (In 0 1024 x89_7) → (In 0 1024 x89_8) → (In 1 10 (fI w89 1 0)) → va_P D vwCl w89 H → va_D A w89 → va_S A s.heap H locs → lv_has ls 9 [(0, .ref (q 88)), (1, .int p1), (2, .ref (q 1)), (3, .int p3), (4, .int x89_4), (5, .int x49_5), (6, .int x49_6), (7, .int x89_7), (8, .int x89_8)] → W p l e R s m args below meth c H locs 0 0 Q (F0 m 89 ls []) := by
        intro N
        induction N with
        | zero => intro x89_4 x89_7 x89_8 w89 H locs ls hmu; exact absurd hmu (Nat.not_lt_zero _)
        | succ N ih89 =>
          intro x89_4 x89_7 x89_8 w89 H locs ls hmu89 hW_w89 hM_w89 i_x89_1 i_x89_4 i_x89_6 i_x89_7 i_x89_8 g89_1_0 hP hD hS hl
          have J189 : ∀ (x189_4 : Int32) (w189 : va_W) (H : Heap) (locs : List Loc) (ls : Array Slot), HT q (TX q cI cJ cZ bb bs bp) w189 → Sm [99, 100, 101] [] w w189 → (In 0 39 p1) → (In 1 1024 x189_4) → (In 0 9 x49_6) → (In 1 1024 x89_7) → (In 0 1023 x89_8) → (In 1 10 (fI w189 1 0)) → va_P D vwCl w189 H → va_D A w189 → va_S A s.heap H locs → lv_has ls 9 [(0, .ref (q 88)), (1, .int p1), (2, .ref (q 1)), (3, .int p3), (4, .int x189_4), (5, .int x49_5), (6, .int x49_6), (7, .int x89_7), (8, .int x89_8)] → W p l e R s m args below meth c H locs 0 0 Q (F0 m 189 ls []) := by
            intro x189_4 w189 H locs ls hW_w189 hM_w189 i_x189_1 i_x189_4 i_x189_6 i_x189_7 i_x189_8 g189_1_0 hP hD hS hl
            refine lv_iinc (v := (x89_8 + 1)) (lv' := [(8, .int (x89_8 + 1)), (0, .ref (q 88)), (1, .int p1), (2, .ref (q 1)), (3, .int p3), (4, .int x189_4), (5, .int x49_5), (6, .int x49_6), (7, .int x89_7)]) hx hb dX4_listSets_189 hl (k := 8) rfl (rfl) (by decide) rfl (fun ls hl => ?_)
            refine lv_goto (tgt := 89) hx hb dX4_listSets_192 (by decide) ?_
            exact ih89 x189_4 x89_7 (x89_8 + 1) w189 _ _ ls (mu_inc hmu89 i_x189_8 (In_lit (n := 1) (by decide) (by decide) : In 1 1 1) (by decide)) hW_w189 hM_w189 i_p1 i_x189_4 i_x89_6 (In_w i_x189_7 (by decide) : In 0 1024 x89_7) (In_w ((In_add (y := 1) i_x189_8 (In_lit (n := 1) (by decide) (by decide) : In 1 1 1) (by decide)) : In 1 1024 (x89_8 + 1)) (by decide) : In 0 1024 (x89_8 + 1)) (In_of (hM_w189.gI (by decide)) (In_of (hM_w189.gI (by decide)).symm g189_1_0)) hP hD hS (lv_sub hl [1, 2, 3, 4, 5, 6, 7, 8, 0] rfl)
          refine lv_iload hx hb dX4_listSets_89 (lv_at hl 8 rfl) ?_
          refine lv_iload hx hb dX4_listSets_91 (lv_at hl 7 rfl) ?_
          refine lv_icmp_ge (tgt := 195) hx hb dX4_listSets_93 (by decide) (fun c_1 => ?_) (fun c_1 => ?_)
          · exact J195 x89_4 x89_7 x89_8 w89 _ _ ls hW_w89 hM_w89 i_p1 i_x89_4 i_x89_6 i_x89_7 i_x89_8 (In_of (hM_w89.gI (by decide)) (In_of (hM_w89.gI (by decide)).symm g89_1_0)) hP hD hS (lv_sub hl [0, 1, 2, 3, 4, 5, 6, 7, 8] rfl)
          · refine lv_iload hx hb dX4_listSets_96 (lv_at hl 4 rfl) ?_
            refine lv_sipush (v := 1024) hx hb dX4_listSets_98 (by decide) ?_
            refine lv_icmp_ge (tgt := 195) hx hb dX4_listSets_101 (by decide) (fun c_2 => ?_) (fun c_2 => ?_)
            · exact J195 x89_4 x89_7 x89_8 w89 _ _ ls hW_w89 hM_w89 i_p1 (In_w (R_le_r (In_lit (n := 1024) (by decide) (by decide) : In 1024 1024 1024) i_x89_4 c_2 (by decide) : In 1024 1024 x89_4) (by decide) : In 1 1024 x89_4) i_x89_6 (In_w (R_nle_l i_x89_7 i_x89_8 c_1 (by decide) : In 1 1024 x89_7) (by decide) : In 0 1024 x89_7) (In_w (R_nle_r i_x89_7 i_x89_8 c_1 (by decide) : In 0 1023 x89_8) (by decide) : In 0 1024 x89_8) (In_of (hM_w89.gI (by decide)) (In_of (hM_w89.gI (by decide)).symm g89_1_0)) hP hD hS (lv_sub hl [0, 1, 2, 3, 4, 5, 6, 7, 8] rfl)
            · refine lv_aload_n hx hb dX4_listSets_104 rfl (lv_at hl 0 rfl) ?_
              refine gt_X4 hx hb hts hown hK hP 88 (hW_w89.o tX_88) 15 (by decide) wd_589 rfl (hW_w89.fr tX_88 rfl) dX4_listSets_105 ?_
              refine lv_iload hx hb dX4_listSets_108 (lv_at hl 8 rfl) ?_
              refine va_iald hx hb hK hP 100 0 (hW_w89.a tX_100) rfl (in_I (R_nle_r i_x89_7 i_x89_8 c_1 (by decide) : In 0 1023 x89_8) (by decide)) dX4_listSets_110 ?_
              refine lv_topi (fun v_3 ev_3 => ?_)
              refine lv_aload_n hx hb dX4_listSets_111 rfl (lv_at hl 2 rfl) ?_
              refine gt_X1 hx hb hts hown hK hP 1 (hW_w89.o tX_1) 2 (by decide) wd_47 rfl (hW_w89.fr tX_1 rfl) dX4_listSets_112 ?_
              refine lv_iload hx hb dX4_listSets_115 (lv_at hl 6 rfl) ?_
              refine va_iald hx hb hK hP 3 0 (hW_w89.a tX_3) rfl (in_I i_x89_6 (by decide)) dX4_listSets_117 ?_
              refine lv_topi (fun v_4 ev_4 => ?_)
              refine lv_iadd hx hb dX4_listSets_118 ?_
              refine lv_topi (fun v_5 ev_5 => ?_)
              refine lv_iload_n hx hb dX4_listSets_119 rfl (lv_at hl 3 rfl) ?_
              refine lv_icmp_gt (tgt := 189) hx hb dX4_listSets_120 (by decide) (fun c_6 => ?_) (fun c_6 => ?_)
              · exact J189 x89_4 w89 _ _ ls hW_w89 hM_w89 i_p1 (In_w (R_nle_r (In_lit (n := 1024) (by decide) (by decide) : In 1024 1024 1024) i_x89_4 c_2 (by decide) : In 1 1023 x89_4) (by decide) : In 1 1024 x89_4) i_x89_6 (R_nle_l i_x89_7 i_x89_8 c_1 (by decide) : In 1 1024 x89_7) (R_nle_r i_x89_7 i_x89_8 c_1 (by decide) : In 0 1023 x89_8) (In_of (hM_w89.gI (by decide)) (In_of (hM_w89.gI (by decide)).symm g89_1_0)) hP hD hS (lv_sub hl [0, 1, 2, 3, 4, 5, 6, 7, 8] rfl)
              · refine lv_aload_n hx hb dX4_listSets_123 rfl (lv_at hl 0 rfl) ?_
                refine gt_X4 hx hb hts hown hK hP 88 (hW_w89.o tX_88) 14 (by decide) wd_588 rfl (hW_w89.fr tX_88 rfl) dX4_listSets_124 ?_
                refine lv_iload hx hb dX4_listSets_127 (lv_at hl 4 rfl) ?_
                refine lv_aload_n hx hb dX4_listSets_129 rfl (lv_at hl 0 rfl) ?_
                refine gt_X4 hx hb hts hown hK hP 88 (hW_w89.o tX_88) 14 (by decide) wd_588 rfl (hW_w89.fr tX_88 rfl) dX4_listSets_130 ?_
                refine lv_iload hx hb dX4_listSets_133 (lv_at hl 8 rfl) ?_
                refine va_iald hx hb hK hP 99 0 (hW_w89.a tX_99) rfl (in_I (R_nle_r i_x89_7 i_x89_8 c_1 (by decide) : In 0 1023 x89_8) (by decide)) dX4_listSets_135 ?_
                refine lv_topi (fun v_7 ev_7 => ?_)
                refine lv_iconst (v := 1) hx hb dX4_listSets_136 (by decide) ?_
                refine lv_iload hx hb dX4_listSets_137 (lv_at hl 6 rfl) ?_
                refine lv_ishl hx hb dX4_listSets_139 ?_
                refine lv_topi (fun v_8 ev_8 => ?_)
                refine lv_ior hx hb dX4_listSets_140 ?_
                refine lv_topi (fun v_9 ev_9 => ?_)
                refine va_iast hx hb hK hP hD hS 99 0 (hW_w89.a tX_99) rfl (in_I (R_nle_r (In_lit (n := 1024) (by decide) (by decide) : In 1024 1024 1024) i_x89_4 c_2 (by decide) : In 1 1023 x89_4) (by decide)) dX4_listSets_141 (fun H locs hP hD hS => fr_w (hW_w89.uA tX_99 (In_any _)) hP hD (fun w_10 ew_10 hW_w_10 hP hD => ?_))
                refine lv_aload_n hx hb dX4_listSets_142 rfl (lv_at hl 0 rfl) ?_
                refine gt_X4 hx hb hts hown hK hP 88 (hW_w_10.o tX_88) 15 (by decide) wd_589 rfl (hW_w_10.fr tX_88 rfl) dX4_listSets_143 ?_
                refine lv_iload hx hb dX4_listSets_146 (lv_at hl 4 rfl) ?_
                refine lv_aload_n hx hb dX4_listSets_148 rfl (lv_at hl 0 rfl) ?_
                refine gt_X4 hx hb hts hown hK hP 88 (hW_w_10.o tX_88) 15 (by decide) wd_589 rfl (hW_w_10.fr tX_88 rfl) dX4_listSets_149 ?_
                refine lv_iload hx hb dX4_listSets_152 (lv_at hl 8 rfl) ?_
                refine va_iald hx hb hK hP 100 0 (hW_w_10.a tX_100) rfl (in_I (R_nle_r i_x89_7 i_x89_8 c_1 (by decide) : In 0 1023 x89_8) (by decide)) dX4_listSets_154 ?_
                refine tov (v := v_3) ((congrFun (aF_cg (st_ne ew_10 (by decide))) _).trans ev_3.symm) ?_
                refine lv_aload_n hx hb dX4_listSets_155 rfl (lv_at hl 2 rfl) ?_
                refine gt_X1 hx hb hts hown hK hP 1 (hW_w_10.o tX_1) 2 (by decide) wd_47 rfl (hW_w_10.fr tX_1 rfl) dX4_listSets_156 ?_
                refine lv_iload hx hb dX4_listSets_159 (lv_at hl 6 rfl) ?_
                refine va_iald hx hb hK hP 3 0 (hW_w_10.a tX_3) rfl (in_I i_x89_6 (by decide)) dX4_listSets_161 ?_
                refine tov (v := v_4) ((congrFun ((aF_cg (st_ne ew_10 (by decide))).trans (hM_w89.hA (by decide))) _).trans ((congrFun (hM_w89.hA (by decide)) _).symm.trans ev_4.symm)) ?_
                refine lv_iadd hx hb dX4_listSets_162 ?_
                refine lv_topi (fun v_11 ev_11 => ?_)
                refine va_iast hx hb hK hP hD hS 100 0 (hW_w_10.a tX_100) rfl (in_I (R_nle_r (In_lit (n := 1024) (by decide) (by decide) : In 1024 1024 1024) i_x89_4 c_2 (by decide) : In 1 1023 x89_4) (by decide)) dX4_listSets_163 (fun H locs hP hD hS => fr_w (hW_w_10.uA tX_100 (In_any _)) hP hD (fun w_12 ew_12 hW_w_12 hP hD => ?_))
                refine lv_aload_n hx hb dX4_listSets_164 rfl (lv_at hl 0 rfl) ?_
                refine gt_X4 hx hb hts hown hK hP 88 (hW_w_12.o tX_88) 16 (by decide) wd_590 rfl (hW_w_12.fr tX_88 rfl) dX4_listSets_165 ?_
                refine lv_iload hx hb dX4_listSets_168 (lv_at hl 4 rfl) ?_
                refine lv_aload_n hx hb dX4_listSets_170 rfl (lv_at hl 0 rfl) ?_
                refine gt_X4 hx hb hts hown hK hP 88 (hW_w_12.o tX_88) 16 (by decide) wd_590 rfl (hW_w_12.fr tX_88 rfl) dX4_listSets_171 ?_
                refine lv_iload hx hb dX4_listSets_174 (lv_at hl 8 rfl) ?_
                refine va_iald hx hb hK hP 101 0 (hW_w_12.a tX_101) rfl (in_I (R_nle_r i_x89_7 i_x89_8 c_1 (by decide) : In 0 1023 x89_8) (by decide)) dX4_listSets_176 ?_
                refine lv_topi (fun v_13 ev_13 => ?_)
                refine lv_aload_n hx hb dX4_listSets_177 rfl (lv_at hl 2 rfl) ?_
                refine gt_X1 hx hb hts hown hK hP 1 (hW_w_12.o tX_1) 3 (by decide) wd_50 rfl (hW_w_12.fr tX_1 rfl) dX4_listSets_178 ?_
                refine lv_iload hx hb dX4_listSets_181 (lv_at hl 6 rfl) ?_
                refine va_iald hx hb hK hP 4 0 (hW_w_12.a tX_4) rfl (in_I i_x89_6 (by decide)) dX4_listSets_183 ?_
                refine lv_topi (fun v_14 ev_14 => ?_)
                refine lv_iadd hx hb dX4_listSets_184 ?_
                refine lv_topi (fun v_15 ev_15 => ?_)
                refine va_iast hx hb hK hP hD hS 101 0 (hW_w_12.a tX_101) rfl (in_I (R_nle_r (In_lit (n := 1024) (by decide) (by decide) : In 1024 1024 1024) i_x89_4 c_2 (by decide) : In 1 1023 x89_4) (by decide)) dX4_listSets_185 (fun H locs hP hD hS => fr_w (hW_w_12.uA tX_101 (In_any _)) hP hD (fun w_16 ew_16 hW_w_16 hP hD => ?_))
                refine lv_iinc (v := (x89_4 + 1)) (lv' := [(4, .int (x89_4 + 1)), (0, .ref (q 88)), (1, .int p1), (2, .ref (q 1)), (3, .int p3), (5, .int x49_5), (6, .int x49_6), (7, .int x89_7), (8, .int x89_8)]) hx hb dX4_listSets_186 hl (k := 4) rfl (rfl) (by decide) rfl (fun ls hl => ?_)
                exact J189 (x89_4 + 1) w_16 _ _ ls hW_w_16 (((hM_w89.sa ew_10 (by decide)).sa ew_12 (by decide)).sa ew_16 (by decide)) i_p1 (In_w ((In_add (y := 1) (R_nle_r (In_lit (n := 1024) (by decide) (by decide) : In 1024 1024 1024) i_x89_4 c_2 (by decide) : In 1 1023 x89_4) (In_lit (n := 1) (by decide) (by decide) : In 1 1 1) (by decide)) : In 2 1024 (x89_4 + 1)) (by decide) : In 1 1024 (x89_4 + 1)) i_x89_6 (R_nle_l i_x89_7 i_x89_8 c_1 (by decide) : In 1 1024 x89_7) (R_nle_r i_x89_7 i_x89_8 c_1 (by decide) : In 0 1023 x89_8) (In_of ((fI_cg (st_ne ew_16 (by decide))).trans ((fI_cg (st_ne ew_12 (by decide))).trans ((fI_cg (st_ne ew_10 (by decide))).trans (hM_w89.gI (by decide))))) (In_of (hM_w89.gI (by decide)).symm g89_1_0)) hP hD hS (lv_sub hl [1, 2, 3, 4, 0, 5, 6, 7, 8] rfl)
      have J84 : ∀ (y84_0 : Int32) (w84 : va_W) (H : Heap) (locs : List Loc) (ls : Array Slot), HT q (TX q cI cJ cZ bb bs bp) w84 → Sm [99, 100, 101] [] w w84 → (In 0 39 p1) → (In 1 1024 x49_4) → (In 0 9 x49_6) → (In 0 1024 y84_0) → (In 1 10 (fI w84 1 0)) → va_P D vwCl w84 H → va_D A w84 → va_S A s.heap H locs → lv_has ls 9 [(0, .ref (q 88)), (1, .int p1), (2, .ref (q 1)), (3, .int p3), (4, .int x49_4), (5, .int x49_5), (6, .int x49_6)] → W p l e R s m args below meth c H locs 0 0 Q (F0 m 84 ls [.int y84_0]) := by
        intro y84_0 w84 H locs ls hW_w84 hM_w84 i_x84_1 i_x84_4 i_x84_6 i_y84_0 g84_1_0 hP hD hS hl
        refine lv_istore (lv' := [(7, .int y84_0), (0, .ref (q 88)), (1, .int p1), (2, .ref (q 1)), (3, .int p3), (4, .int x49_4), (5, .int x49_5), (6, .int x49_6)]) hx hb dX4_listSets_84 hl (by decide) rfl (fun ls hl => ?_)
        refine lv_iconst (v := 0) hx hb dX4_listSets_86 (by decide) ?_
        refine lv_istore (lv' := [(8, .int 0), (7, .int y84_0), (0, .ref (q 88)), (1, .int p1), (2, .ref (q 1)), (3, .int p3), (4, .int x49_4), (5, .int x49_5), (6, .int x49_6)]) hx hb dX4_listSets_87 hl (by decide) rfl (fun ls hl => ?_)
        exact J89 _ x49_4 y84_0 0 w84 _ _ ls (Nat.lt_succ_self _) hW_w84 hM_w84 i_p1 i_x49_4 i_x84_6 i_y84_0 (In_lit (n := 0) (by decide) (by decide) : In 0 1024 0) (In_of (hM_w84.gI (by decide)) (In_of (hM_w84.gI (by decide)).symm g84_1_0)) hP hD hS (lv_sub hl [2, 3, 4, 5, 6, 7, 8, 1, 0] rfl)
      have J83 : ∀ (w83 : va_W) (H : Heap) (locs : List Loc) (ls : Array Slot), HT q (TX q cI cJ cZ bb bs bp) w83 → Sm [99, 100, 101] [] w w83 → (In 0 39 p1) → (In 1 1024 x49_4) → (In 0 9 x49_6) → (In 1 10 (fI w83 1 0)) → va_P D vwCl w83 H → va_D A w83 → va_S A s.heap H locs → lv_has ls 9 [(0, .ref (q 88)), (1, .int p1), (2, .ref (q 1)), (3, .int p3), (4, .int x49_4), (5, .int x49_5), (6, .int x49_6)] → W p l e R s m args below meth c H locs 0 0 Q (F0 m 83 ls []) := by
        intro w83 H locs ls hW_w83 hM_w83 i_x83_1 i_x83_4 i_x83_6 g83_1_0 hP hD hS hl
        refine lv_iconst (v := 0) hx hb dX4_listSets_83 (by decide) ?_
        exact J84 0 w83 _ _ ls hW_w83 hM_w83 i_p1 i_x49_4 i_x83_6 (In_lit (n := 0) (by decide) (by decide) : In 0 1024 0) (In_of (hM_w83.gI (by decide)) (In_of (hM_w83.gI (by decide)).symm g83_1_0)) hP hD hS (lv_sub hl [0, 1, 2, 3, 4, 5, 6] rfl)
      refine lv_iload hx hb dX4_listSets_49 (lv_at hl 6 rfl) ?_
      refine lv_aload_n hx hb dX4_listSets_51 rfl (lv_at hl 2 rfl) ?_
      refine gt_X1 hx hb hts hown hK hP 1 (hW_w49.o tX_1) 0 (by decide) wd_37 rfl (hW_w49.fi tX_1 rfl) dX4_listSets_52 ?_
      refine tov (v := (fI w 1 0)) (hM_w49.gI (by decide)) ?_
      refine lv_icmp_ge (tgt := 201) hx hb dX4_listSets_55 (by decide) (fun c_17 => ?_) (fun c_17 => ?_)
      · refine lv_iload hx hb dX4_listSets_201 (lv_at hl 4 rfl) ?_
        exact hret _ _ _ _ _ _ hP hD hS dX4_listSets_203 ⟨hW_w49, hM_w49, i_x49_4⟩
      · refine lv_iload hx hb dX4_listSets_58 (lv_at hl 5 rfl) ?_
        refine lv_iload hx hb dX4_listSets_60 (lv_at hl 6 rfl) ?_
        refine lv_ishr hx hb dX4_listSets_62 ?_
        refine lv_topi (fun v_18 ev_18 => ?_)
        refine lv_iconst (v := 1) hx hb dX4_listSets_63 (by decide) ?_
        refine lv_iand hx hb dX4_listSets_64 ?_
        refine lv_if_eq (tgt := 83) hx hb dX4_listSets_65 (by decide) (fun c_19 => ?_) (fun c_19 => ?_)
        · exact J83 w49 _ _ ls hW_w49 hM_w49 i_p1 i_x49_4 (R_nle_r (hW_w.fin tX_1 rfl : In 0 10 (fI w 1 0)) i_x49_6 c_17 (by decide) : In 0 9 x49_6) (In_of (hM_w49.gI (by decide)) (R_nle_l (hW_w.fin tX_1 rfl : In 0 10 (fI w 1 0)) i_x49_6 c_17 (by decide) : In 1 10 (fI w 1 0))) hP hD hS (lv_sub hl [0, 1, 2, 3, 4, 5, 6] rfl)
        · refine lv_aload_n hx hb dX4_listSets_68 rfl (lv_at hl 2 rfl) ?_
          refine gt_X1 hx hb hts hown hK hP 1 (hW_w49.o tX_1) 3 (by decide) wd_50 rfl (hW_w49.fr tX_1 rfl) dX4_listSets_69 ?_
          refine lv_iload hx hb dX4_listSets_72 (lv_at hl 6 rfl) ?_
          refine va_iald hx hb hK hP 4 0 (hW_w49.a tX_4) rfl (in_I (R_nle_r (hW_w.fin tX_1 rfl : In 0 10 (fI w 1 0)) i_x49_6 c_17 (by decide) : In 0 9 x49_6) (by decide)) dX4_listSets_74 ?_
          refine lv_topi (fun v_20 ev_20 => ?_)
          refine lv_if_le (tgt := 83) hx hb dX4_listSets_75 (by decide) (fun c_21 => ?_) (fun c_21 => ?_)
          · exact J83 w49 _ _ ls hW_w49 hM_w49 i_p1 i_x49_4 (R_nle_r (hW_w.fin tX_1 rfl : In 0 10 (fI w 1 0)) i_x49_6 c_17 (by decide) : In 0 9 x49_6) (In_of (hM_w49.gI (by decide)) (R_nle_l (hW_w.fin tX_1 rfl : In 0 10 (fI w 1 0)) i_x49_6 c_17 (by decide) : In 1 10 (fI w 1 0))) hP hD hS (lv_sub hl [0, 1, 2, 3, 4, 5, 6] rfl)
          · refine lv_iload hx hb dX4_listSets_78 (lv_at hl 4 rfl) ?_
            refine lv_goto (tgt := 84) hx hb dX4_listSets_80 (by decide) ?_
            exact J84 x49_4 w49 _ _ ls hW_w49 hM_w49 i_p1 i_x49_4 (R_nle_r (hW_w.fin tX_1 rfl : In 0 10 (fI w 1 0)) i_x49_6 c_17 (by decide) : In 0 9 x49_6) (In_w i_x49_4 (by decide) : In 0 1024 x49_4) (In_of (hM_w49.gI (by decide)) (R_nle_l (hW_w.fin tX_1 rfl : In 0 10 (fI w 1 0)) i_x49_6 c_17 (by decide) : In 1 10 (fI w 1 0))) hP hD hS (lv_sub hl [0, 1, 2, 3, 4, 5, 6] rfl)
  refine lv_aload_n hx hb dX4_listSets_0 rfl (lv_at hl 0 rfl) ?_
  refine gt_X4 hx hb hts hown hK hP 88 (hW_w.o tX_88) 14 (by decide) wd_588 rfl (hW_w.fr tX_88 rfl) dX4_listSets_1 ?_
  refine lv_iconst (v := 0) hx hb dX4_listSets_4 (by decide) ?_
  refine lv_iconst (v := 0) hx hb dX4_listSets_5 (by decide) ?_
  refine va_iast hx hb hK hP hD hS 99 0 (hW_w.a tX_99) rfl (in_I (In_lit (n := 0) (by decide) (by decide) : In 0 0 0) (by decide)) dX4_listSets_6 (fun H locs hP hD hS => fr_w (hW_w.uA tX_99 (In_lit (n := 0) (by decide) (by decide) : In (-2147483648) 2147483647 0)) hP hD (fun w_22 ew_22 hW_w_22 hP hD => ?_))
  refine lv_aload_n hx hb dX4_listSets_7 rfl (lv_at hl 0 rfl) ?_
  refine gt_X4 hx hb hts hown hK hP 88 (hW_w_22.o tX_88) 15 (by decide) wd_589 rfl (hW_w_22.fr tX_88 rfl) dX4_listSets_8 ?_
  refine lv_iconst (v := 0) hx hb dX4_listSets_11 (by decide) ?_
  refine lv_aload_n hx hb dX4_listSets_12 rfl (lv_at hl 0 rfl) ?_
  refine lv_iload_n hx hb dX4_listSets_13 rfl (lv_at hl 1 rfl) ?_
  refine lv_aload_n hx hb dX4_listSets_14 rfl (lv_at hl 2 rfl) ?_
  refine kW_i ⟨rfl, rfl⟩ hP hD hS hA (rW_V (As := [.int p1, .ref (q 1)]) (rest := [.int 0, .ref (q 100)]) hx hb hml hown hts hK hE hP hD (k_X4_worthOf_1 l D cI cJ cZ q bb bs bp w_22 hW_w_22 p1 i_p1 _) ⟨⟨rfl, rfl⟩, rfl, rfl⟩ sv_X4_108 ⟨(Nat.le_trans (by decide) hR.1), (Nat.le_trans (by decide) hR.2)⟩ 88 4 (hW_w_22.o tX_88) rfl rfl rfl hl.1 rfl (Nat.le_of_ble_eq_true rfl) dX4_listSets_15) (fun r_24 w_23 H locs hw_w_23 hP hD hS => ?_)
  obtain ⟨hW_w_23, hs_w_23⟩ := hw_w_23
  refine va_iast hx hb hK hP hD hS 100 0 (hW_w_23.a tX_100) rfl (in_I (In_lit (n := 0) (by decide) (by decide) : In 0 0 0) (by decide)) dX4_listSets_18 (fun H locs hP hD hS => fr_w (hW_w_23.uA tX_100 (In_any _)) hP hD (fun w_25 ew_25 hW_w_25 hP hD => ?_))
  refine lv_aload_n hx hb dX4_listSets_19 rfl (lv_at hl 0 rfl) ?_
  refine gt_X4 hx hb hts hown hK hP 88 (hW_w_25.o tX_88) 16 (by decide) wd_590 rfl (hW_w_25.fr tX_88 rfl) dX4_listSets_20 ?_
  refine lv_iconst (v := 0) hx hb dX4_listSets_23 (by decide) ?_
  refine lv_iconst (v := 0) hx hb dX4_listSets_24 (by decide) ?_
  refine va_iast hx hb hK hP hD hS 101 0 (hW_w_25.a tX_101) rfl (in_I (In_lit (n := 0) (by decide) (by decide) : In 0 0 0) (by decide)) dX4_listSets_25 (fun H locs hP hD hS => fr_w (hW_w_25.uA tX_101 (In_lit (n := 0) (by decide) (by decide) : In (-2147483648) 2147483647 0)) hP hD (fun w_26 ew_26 hW_w_26 hP hD => ?_))
  refine lv_iconst (v := 1) hx hb dX4_listSets_26 (by decide) ?_
  refine lv_istore (lv' := [(4, .int 1), (0, .ref (q 88)), (1, .int p1), (2, .ref (q 1)), (3, .int p3)]) hx hb dX4_listSets_27 hl (by decide) rfl (fun ls hl => ?_)
  refine lv_aload_n hx hb dX4_listSets_29 rfl (lv_at hl 1 rfl) ?_
  refine gt_X4 hx hb hts hown hK hP 88 (hW_w_26.o tX_88) 6 (by decide) wd_576 rfl (hW_w_26.fr tX_88 rfl) dX4_listSets_30 ?_
  refine lv_iload_n hx hb dX4_listSets_33 rfl (lv_at hl 2 rfl) ?_
  refine va_iald hx hb hK hP 93 0 (hW_w_26.a tX_93) rfl (in_I i_p1 (by decide)) dX4_listSets_34 ?_
  refine lv_topi (fun v_27 ev_27 => ?_)
  refine lv_aload_n hx hb dX4_listSets_35 rfl (lv_at hl 1 rfl) ?_
  refine gt_X4 hx hb hts hown hK hP 88 (hW_w_26.o tX_88) 8 (by decide) wd_578 rfl (hW_w_26.fr tX_88 rfl) dX4_listSets_36 ?_
  refine lv_iload_n hx hb dX4_listSets_39 rfl (lv_at hl 2 rfl) ?_
  refine va_iald hx hb hK hP 95 0 (hW_w_26.a tX_95) rfl (in_I i_p1 (by decide)) dX4_listSets_40 ?_
  refine lv_topi (fun v_28 ev_28 => ?_)
  refine lv_iconst (v := (-1)) hx hb dX4_listSets_41 (by decide) ?_
  refine lv_ixor hx hb dX4_listSets_42 ?_
  refine lv_topi (fun v_29 ev_29 => ?_)
  refine lv_iand hx hb dX4_listSets_43 ?_
  refine lv_topi (fun v_30 ev_30 => ?_)
  refine lv_istore (lv' := [(5, .int v_30), (4, .int 1), (0, .ref (q 88)), (1, .int p1), (2, .ref (q 1)), (3, .int p3)]) hx hb dX4_listSets_44 hl (by decide) rfl (fun ls hl => ?_)
  refine lv_iconst (v := 0) hx hb dX4_listSets_46 (by decide) ?_
  refine lv_istore (lv' := [(6, .int 0), (5, .int v_30), (4, .int 1), (0, .ref (q 88)), (1, .int p1), (2, .ref (q 1)), (3, .int p3)]) hx hb dX4_listSets_47 hl (by decide) rfl (fun ls hl => ?_)
  exact J49 _ 1 v_30 0 w_26 _ _ ls (Nat.lt_succ_self _) hW_w_26 ((((Sm.rf.sa ew_22 (by decide)).tr hs_w_23 (by decide)).sa ew_25 (by decide)).sa ew_26 (by decide)) i_p1 (In_lit (n := 1) (by decide) (by decide) : In 1 1024 1) (In_lit (n := 0) (by decide) (by decide) : In 0 10 0) hP hD hS (lv_sub hl [3, 4, 5, 6, 2, 1, 0] rfl)
set_option maxRecDepth 100000 in
set_option maxHeartbeats 8000000 in
theorem k_X4_cheapest_1 (l : Launch) (D : va_G) (cI cJ cZ : ClassId) (q : Nat → Nat) (bb bs bp : Nat) (w : va_W) (hW_w : HT q (TX q cI cJ cZ bb bs bp) w) (p1 : Int32) (i_p1 : In 0 39 p1) : Con_i l yX4_cheapest cX4_cheapest 9 (some .int) ({ frames := 2, cells := 0, slots := 0, locals := 52 }) D cI cJ cZ eW [.ref (q 88), .int p1, .ref (q 1)] w (fun (r : Int32) (w1 : va_W) => HT q (TX q cI cJ cZ bb bs bp) w1 ∧ Sm [99, 100, 101] [] w w1 ∧ In (-1) 1023 r) := by
  refine eQ_i rfl (by decide) (Nat.le_of_ble_eq_true rfl) ⟨rfl, rfl⟩ ?_
  intro p e R s m args below meth c A Q hx hb hml hown hts hK hE hA hR hret hP hD hS ls hl
  have hown : s.vm.findClass RX4 = some m.cls := hown
  have hl : lv_has ls 9 [(0, .ref (q 88)), (1, .int p1), (2, .ref (q 1))] := hl
  have J50 : ∀ (N : Nat) (x50_3 : Int32) (x50_4 : Int32) (x50_5 : Int32) (x50_6 : Int32) (x50_7 : Int32) (w50 : va_W) (H : Heap) (locs : List Loc) (ls : Array Slot), (1024 - x50_7.toInt).toNat < N → HT q (TX q cI cJ cZ bb bs bp) w50 → Sm [99, 100, 101] [] w w50 → (In 0 39 p1) → (In 1 1024 x50_4) → (In (-1) 1023 x50_6) → (In 0 1024 x50_7) → va_P D vwCl w50 H → va_D A w50 → va_S A s.heap H locs → lv_has ls 9 [(0, .ref (q 88)), (1, .int p1), (2, .ref (q 1)), (3, .int x50_3), (4, .int x50_4), (5, .int x50_5), (6, .int x50_6), (7, .int x50_7)] → W p l e R s m args below meth c H locs 0 0 Q (F0 m 50 ls []) := by
    intro N
    induction N with
    | zero => intro x50_3 x50_4 x50_5 x50_6 x50_7 w50 H locs ls hmu; exact absurd hmu (Nat.not_lt_zero _)
    | succ N ih50 =>
      intro x50_3 x50_4 x50_5 x50_6 x50_7 w50 H locs ls hmu50 hW_w50 hM_w50 i_x50_1 i_x50_4 i_x50_6 i_x50_7 hP hD hS hl
      have J121 : ∀ (x121_6 : Int32) (x121_8 : Int32) (w121 : va_W) (H : Heap) (locs : List Loc) (ls : Array Slot), HT q (TX q cI cJ cZ bb bs bp) w121 → Sm [99, 100, 101] [] w w121 → (In 0 39 p1) → (In 1 1024 x50_4) → (In (-1) 1023 x121_6) → (In 0 1023 x50_7) → (In 0 1 x121_8) → va_P D vwCl w121 H → va_D A w121 → va_S A s.heap H locs → lv_has ls 9 [(0, .ref (q 88)), (1, .int p1), (2, .ref (q 1)), (3, .int x50_3), (4, .int x50_4), (5, .int x50_5), (6, .int x121_6), (7, .int x50_7), (8, .int x121_8)] → W p l e R s m args below meth c H locs 0 0 Q (F0 m 121 ls []) := by
        intro x121_6 x121_8 w121 H locs ls hW_w121 hM_w121 i_x121_1 i_x121_4 i_x121_6 i_x121_7 i_x121_8 hP hD hS hl
        refine lv_iinc (v := (x50_7 + 1)) (lv' := [(7, .int (x50_7 + 1)), (0, .ref (q 88)), (1, .int p1), (2, .ref (q 1)), (3, .int x50_3), (4, .int x50_4), (5, .int x50_5), (6, .int x121_6), (8, .int x121_8)]) hx hb dX4_cheapest_121 hl (k := 7) rfl (rfl) (by decide) rfl (fun ls hl => ?_)
        refine lv_goto (tgt := 50) hx hb dX4_cheapest_124 (by decide) ?_
        exact ih50 x50_3 x50_4 x50_5 x121_6 (x50_7 + 1) w121 _ _ ls (mu_inc hmu50 i_x121_7 (In_lit (n := 1) (by decide) (by decide) : In 1 1 1) (by decide)) hW_w121 hM_w121 i_p1 i_x50_4 i_x121_6 (In_w ((In_add (y := 1) i_x121_7 (In_lit (n := 1) (by decide) (by decide) : In 1 1 1) (by decide)) : In 1 1024 (x50_7 + 1)) (by decide) : In 0 1024 (x50_7 + 1)) hP hD hS (lv_sub hl [1, 2, 3, 4, 5, 6, 7, 0] rfl)
      have J117 : ∀ (x117_8 : Int32) (w117 : va_W) (H : Heap) (locs : List Loc) (ls : Array Slot), HT q (TX q cI cJ cZ bb bs bp) w117 → Sm [99, 100, 101] [] w w117 → (In 0 39 p1) → (In 1 1024 x50_4) → (In (-1) 1023 x50_6) → (In 0 1023 x50_7) → (In 1 1 x117_8) → va_P D vwCl w117 H → va_D A w117 → va_S A s.heap H locs → lv_has ls 9 [(0, .ref (q 88)), (1, .int p1), (2, .ref (q 1)), (3, .int x50_3), (4, .int x50_4), (5, .int x50_5), (6, .int x50_6), (7, .int x50_7), (8, .int x117_8)] → W p l e R s m args below meth c H locs 0 0 Q (F0 m 117 ls []) := by
        intro x117_8 w117 H locs ls hW_w117 hM_w117 i_x117_1 i_x117_4 i_x117_6 i_x117_7 i_x117_8 hP hD hS hl
        refine lv_iload hx hb dX4_cheapest_117 (lv_at hl 7 rfl) ?_
        refine lv_istore (lv' := [(6, .int x50_7), (0, .ref (q 88)), (1, .int p1), (2, .ref (q 1)), (3, .int x50_3), (4, .int x50_4), (5, .int x50_5), (7, .int x50_7), (8, .int x117_8)]) hx hb dX4_cheapest_119 hl (by decide) rfl (fun ls hl => ?_)
        exact J121 x50_7 x117_8 w117 _ _ ls hW_w117 hM_w117 i_p1 i_x50_4 (In_w i_x117_7 (by decide) : In (-1) 1023 x50_7) i_x117_7 (In_w i_x117_8 (by decide) : In 0 1 x117_8) hP hD hS (lv_sub hl [1, 2, 3, 4, 5, 6, 0, 7, 8] rfl)
      have J93 : ∀ (y93_0 : Int32) (w93 : va_W) (H : Heap) (locs : List Loc) (ls : Array Slot), HT q (TX q cI cJ cZ bb bs bp) w93 → Sm [99, 100, 101] [] w w93 → (In 0 39 p1) → (In 1 1024 x50_4) → (In (-1) 1023 x50_6) → (In 0 1023 x50_7) → (In 0 1 y93_0) → va_P D vwCl w93 H → va_D A w93 → va_S A s.heap H locs → lv_has ls 9 [(0, .ref (q 88)), (1, .int p1), (2, .ref (q 1)), (3, .int x50_3), (4, .int x50_4), (5, .int x50_5), (6, .int x50_6), (7, .int x50_7)] → W p l e R s m args below meth c H locs 0 0 Q (F0 m 93 ls [.int y93_0]) := by
        intro y93_0 w93 H locs ls hW_w93 hM_w93 i_x93_1 i_x93_4 i_x93_6 i_x93_7 i_y93_0 hP hD hS hl
        refine lv_istore (lv' := [(8, .int y93_0), (0, .ref (q 88)), (1, .int p1), (2, .ref (q 1)), (3, .int x50_3), (4, .int x50_4), (5, .int x50_5), (6, .int x50_6), (7, .int x50_7)]) hx hb dX4_cheapest_93 hl (by decide) rfl (fun ls hl => ?_)
        refine lv_iload hx hb dX4_cheapest_95 (lv_at hl 0 rfl) ?_
        refine lv_if_eq (tgt := 121) hx hb dX4_cheapest_97 (by decide) (fun c_1 => ?_) (fun c_1 => ?_)
        · exact J121 x50_6 y93_0 w93 _ _ ls hW_w93 hM_w93 i_p1 i_x50_4 i_x50_6 i_x93_7 (In_w (R_eq_l i_y93_0 (In_lit (n := 0) (by decide) (by decide) : In 0 0 0) c_1 (by decide) : In 0 0 y93_0) (by decide) : In 0 1 y93_0) hP hD hS (lv_sub hl [1, 2, 3, 4, 5, 6, 7, 8, 0] rfl)
        · refine lv_iload hx hb dX4_cheapest_100 (lv_at hl 7 rfl) ?_
          refine lv_iconst (v := (-1)) hx hb dX4_cheapest_102 (by decide) ?_
          refine lv_icmp_eq (tgt := 117) hx hb dX4_cheapest_103 (by decide) (fun c_2 => ?_) (fun c_2 => ?_)
          · exact J117 y93_0 w93 _ _ ls hW_w93 hM_w93 i_p1 i_x50_4 (In_w (R_eq_l i_x50_6 (In_lit (n := (-1)) (by decide) (by decide) : In (-1) (-1) (-1)) c_2 (by decide) : In (-1) (-1) x50_6) (by decide) : In (-1) 1023 x50_6) i_x93_7 (R_ne_l i_y93_0 (In_lit (n := 0) (by decide) (by decide) : In 0 0 0) c_1 (by decide) : In 1 1 y93_0) hP hD hS (lv_sub hl [1, 2, 3, 4, 5, 6, 7, 8, 0] rfl)
          · refine lv_aload_n hx hb dX4_cheapest_106 rfl (lv_at hl 1 rfl) ?_
            refine lv_iload hx hb dX4_cheapest_107 (lv_at hl 8 rfl) ?_
            refine lv_iload hx hb dX4_cheapest_109 (lv_at hl 7 rfl) ?_
            refine kW_i ⟨rfl, rfl⟩ hP hD hS hA (rW_V (As := [.int x50_7, .int x50_6]) (rest := []) hx hb hml hown hts hK hE hP hD (k_X4_isBetter l D cI cJ cZ q bb bs bp w93 hW_w93 x50_7 x50_6 i_x93_7 (R_ne_l i_x50_6 (In_lit (n := (-1)) (by decide) (by decide) : In (-1) (-1) (-1)) c_2 (by decide) : In 0 1023 x50_6) _) ⟨⟨rfl, rfl⟩, rfl, rfl⟩ sv_X4_134 ⟨(Nat.le_trans (by decide) hR.1), (Nat.le_trans (by decide) hR.2)⟩ 88 4 (hW_w93.o tX_88) rfl rfl rfl hl.1 rfl (Nat.le_of_ble_eq_true rfl) dX4_cheapest_111) (fun r_4 w_3 H locs hw_w_3 hP hD hS => ?_)
            obtain ⟨hW_w_3, hs_w_3, i_r_4⟩ := hw_w_3
            refine lv_if_eq (tgt := 121) hx hb dX4_cheapest_114 (by decide) (fun c_5 => ?_) (fun c_5 => ?_)
            · exact J121 x50_6 y93_0 w_3 _ _ ls hW_w_3 (hM_w93.tr hs_w_3 (by decide)) i_p1 i_x50_4 (In_w (R_ne_l i_x50_6 (In_lit (n := (-1)) (by decide) (by decide) : In (-1) (-1) (-1)) c_2 (by decide) : In 0 1023 x50_6) (by decide) : In (-1) 1023 x50_6) i_x93_7 (In_w (R_ne_l i_y93_0 (In_lit (n := 0) (by decide) (by decide) : In 0 0 0) c_1 (by decide) : In 1 1 y93_0) (by decide) : In 0 1 y93_0) hP hD hS (lv_sub hl [1, 2, 3, 4, 5, 6, 7, 8, 0] rfl)
            · exact J117 y93_0 w_3 _ _ ls hW_w_3 (hM_w93.tr hs_w_3 (by decide)) i_p1 i_x50_4 (In_w (R_ne_l i_x50_6 (In_lit (n := (-1)) (by decide) (by decide) : In (-1) (-1) (-1)) c_2 (by decide) : In 0 1023 x50_6) (by decide) : In (-1) 1023 x50_6) i_x93_7 (R_ne_l i_y93_0 (In_lit (n := 0) (by decide) (by decide) : In 0 0 0) c_1 (by decide) : In 1 1 y93_0) hP hD hS (lv_sub hl [1, 2, 3, 4, 5, 6, 7, 8, 0] rfl)
      have J92 : ∀ (w92 : va_W) (H : Heap) (locs : List Loc) (ls : Array Slot), HT q (TX q cI cJ cZ bb bs bp) w92 → Sm [99, 100, 101] [] w w92 → (In 0 39 p1) → (In 1 1024 x50_4) → (In (-1) 1023 x50_6) → (In 0 1023 x50_7) → va_P D vwCl w92 H → va_D A w92 → va_S A s.heap H locs → lv_has ls 9 [(0, .ref (q 88)), (1, .int p1), (2, .ref (q 1)), (3, .int x50_3), (4, .int x50_4), (5, .int x50_5), (6, .int x50_6), (7, .int x50_7)] → W p l e R s m args below meth c H locs 0 0 Q (F0 m 92 ls []) := by
        intro w92 H locs ls hW_w92 hM_w92 i_x92_1 i_x92_4 i_x92_6 i_x92_7 hP hD hS hl
        refine lv_iconst (v := 0) hx hb dX4_cheapest_92 (by decide) ?_
        exact J93 0 w92 _ _ ls hW_w92 hM_w92 i_p1 i_x50_4 i_x50_6 i_x92_7 (In_lit (n := 0) (by decide) (by decide) : In 0 1 0) hP hD hS (lv_sub hl [0, 1, 2, 3, 4, 5, 6, 7] rfl)
      refine lv_iload hx hb dX4_cheapest_50 (lv_at hl 7 rfl) ?_
      refine lv_iload hx hb dX4_cheapest_52 (lv_at hl 4 rfl) ?_
      refine lv_icmp_ge (tgt := 127) hx hb dX4_cheapest_54 (by decide) (fun c_6 => ?_) (fun c_6 => ?_)
      · refine lv_iload hx hb dX4_cheapest_127 (lv_at hl 6 rfl) ?_
        exact hret _ _ _ _ _ _ hP hD hS dX4_cheapest_129 ⟨hW_w50, hM_w50, i_x50_6⟩
      · refine lv_aload_n hx hb dX4_cheapest_57 rfl (lv_at hl 0 rfl) ?_
        refine gt_X4 hx hb hts hown hK hP 88 (hW_w50.o tX_88) 15 (by decide) wd_589 rfl (hW_w50.fr tX_88 rfl) dX4_cheapest_58 ?_
        refine lv_iload hx hb dX4_cheapest_61 (lv_at hl 7 rfl) ?_
        refine va_iald hx hb hK hP 100 0 (hW_w50.a tX_100) rfl (in_I (R_nle_r i_x50_4 i_x50_7 c_6 (by decide) : In 0 1023 x50_7) (by decide)) dX4_cheapest_63 ?_
        refine lv_topi (fun v_7 ev_7 => ?_)
        refine lv_iload_n hx hb dX4_cheapest_64 rfl (lv_at hl 3 rfl) ?_
        refine lv_aload_n hx hb dX4_cheapest_65 rfl (lv_at hl 2 rfl) ?_
        refine gt_X1 hx hb hts hown hK hP 1 (hW_w50.o tX_1) 9 (by decide) wd_68 rfl (hW_w50.fi tX_1 rfl) dX4_cheapest_66 ?_
        refine tov (v := (fI w 1 9)) (hM_w50.gI (by decide)) ?_
        refine lv_isub hx hb dX4_cheapest_69 ?_
        refine lv_topi (fun v_8 ev_8 => ?_)
        refine lv_icmp_lt (tgt := 92) hx hb dX4_cheapest_70 (by decide) (fun c_9 => ?_) (fun c_9 => ?_)
        · exact J92 w50 _ _ ls hW_w50 hM_w50 i_p1 i_x50_4 i_x50_6 (R_nle_r i_x50_4 i_x50_7 c_6 (by decide) : In 0 1023 x50_7) hP hD hS (lv_sub hl [0, 1, 2, 3, 4, 5, 6, 7] rfl)
        · refine lv_aload_n hx hb dX4_cheapest_73 rfl (lv_at hl 0 rfl) ?_
          refine gt_X4 hx hb hts hown hK hP 88 (hW_w50.o tX_88) 14 (by decide) wd_588 rfl (hW_w50.fr tX_88 rfl) dX4_cheapest_74 ?_
          refine lv_iload hx hb dX4_cheapest_77 (lv_at hl 7 rfl) ?_
          refine va_iald hx hb hK hP 99 0 (hW_w50.a tX_99) rfl (in_I (R_nle_r i_x50_4 i_x50_7 c_6 (by decide) : In 0 1023 x50_7) (by decide)) dX4_cheapest_79 ?_
          refine lv_topi (fun v_10 ev_10 => ?_)
          refine kW_i ⟨rfl, rfl⟩ hP hD hS hA (rW_S (As := [.int v_10]) (rest := []) hx hb hml hown hts hK hE hP hD (k_J6_bitCount_0f7a4 l D cI cJ cZ q bb bs bp w50 hW_w50 v_10 _) ⟨⟨rfl, rfl⟩, rfl, rfl⟩ sv_X4_83 ⟨(Nat.le_trans (by decide) hR.1), (Nat.le_trans (by decide) hR.2)⟩ rfl hl.1 rfl (Nat.le_of_ble_eq_true rfl) dX4_cheapest_80) (fun r_12 w_11 H locs hw_w_11 hP hD hS => ?_)
          obtain ⟨hW_w_11, hs_w_11, i_r_12⟩ := hw_w_11
          refine lv_iload hx hb dX4_cheapest_83 (lv_at hl 5 rfl) ?_
          refine lv_icmp_lt (tgt := 92) hx hb dX4_cheapest_85 (by decide) (fun c_13 => ?_) (fun c_13 => ?_)
          · exact J92 w_11 _ _ ls hW_w_11 (hM_w50.tr hs_w_11 (by decide)) i_p1 i_x50_4 i_x50_6 (R_nle_r i_x50_4 i_x50_7 c_6 (by decide) : In 0 1023 x50_7) hP hD hS (lv_sub hl [0, 1, 2, 3, 4, 5, 6, 7] rfl)
          · refine lv_iconst (v := 1) hx hb dX4_cheapest_88 (by decide) ?_
            refine lv_goto (tgt := 93) hx hb dX4_cheapest_89 (by decide) ?_
            exact J93 1 w_11 _ _ ls hW_w_11 (hM_w50.tr hs_w_11 (by decide)) i_p1 i_x50_4 i_x50_6 (R_nle_r i_x50_4 i_x50_7 c_6 (by decide) : In 0 1023 x50_7) (In_lit (n := 1) (by decide) (by decide) : In 0 1 1) hP hD hS (lv_sub hl [0, 1, 2, 3, 4, 5, 6, 7] rfl)
  have J21 : ∀ (x21_3 : Int32) (y21_0 : Int32) (w21 : va_W) (H : Heap) (locs : List Loc) (ls : Array Slot), HT q (TX q cI cJ cZ bb bs bp) w21 → Sm [99, 100, 101] [] w w21 → (In 0 39 p1) → (In 0 39 p1) → va_P D vwCl w21 H → va_D A w21 → va_S A s.heap H locs → lv_has ls 9 [(0, .ref (q 88)), (1, .int p1), (2, .ref (q 1)), (3, .int x21_3)] → W p l e R s m args below meth c H locs 0 0 Q (F0 m 21 ls [.int y21_0, .ref (q 1), .int p1, .ref (q 88)]) := by
    intro x21_3 y21_0 w21 H locs ls hW_w21 hM_w21 i_x21_1 i_y21_2 hP hD hS hl
    refine kW_i ⟨rfl, rfl⟩ hP hD hS hA (rW_V (As := [.int p1, .ref (q 1), .int y21_0]) (rest := []) hx hb hml hown hts hK hE hP hD (k_X4_listSets_1 l D cI cJ cZ q bb bs bp w21 hW_w21 p1 y21_0 i_p1 _) ⟨⟨rfl, rfl⟩, rfl, rfl⟩ sv_X4_130 ⟨(Nat.le_trans (by decide) hR.1), (Nat.le_trans (by decide) hR.2)⟩ 88 4 (hW_w21.o tX_88) rfl rfl rfl hl.1 rfl (Nat.le_of_ble_eq_true rfl) dX4_cheapest_21) (fun r_15 w_14 H locs hw_w_14 hP hD hS => ?_)
    obtain ⟨hW_w_14, hs_w_14, i_r_15⟩ := hw_w_14
    refine lv_istore (lv' := [(4, .int r_15), (0, .ref (q 88)), (1, .int p1), (2, .ref (q 1)), (3, .int x21_3)]) hx hb dX4_cheapest_24 hl (by decide) rfl (fun ls hl => ?_)
    refine lv_aload_n hx hb dX4_cheapest_26 rfl (lv_at hl 1 rfl) ?_
    refine gt_X4 hx hb hts hown hK hP 88 (hW_w_14.o tX_88) 5 (by decide) wd_575 rfl (hW_w_14.fr tX_88 rfl) dX4_cheapest_27 ?_
    refine lv_iload_n hx hb dX4_cheapest_30 rfl (lv_at hl 2 rfl) ?_
    refine va_iald hx hb hK hP 92 0 (hW_w_14.a tX_92) rfl (in_I i_p1 (by decide)) dX4_cheapest_31 ?_
    refine lv_topi (fun v_16 ev_16 => ?_)
    refine lv_aload_n hx hb dX4_cheapest_32 rfl (lv_at hl 1 rfl) ?_
    refine gt_X4 hx hb hts hown hK hP 88 (hW_w_14.o tX_88) 8 (by decide) wd_578 rfl (hW_w_14.fr tX_88 rfl) dX4_cheapest_33 ?_
    refine lv_iload_n hx hb dX4_cheapest_36 rfl (lv_at hl 2 rfl) ?_
    refine va_iald hx hb hK hP 95 0 (hW_w_14.a tX_95) rfl (in_I i_p1 (by decide)) dX4_cheapest_37 ?_
    refine lv_topi (fun v_17 ev_17 => ?_)
    refine kW_i ⟨rfl, rfl⟩ hP hD hS hA (rW_S (As := [.int v_17]) (rest := [.int v_16]) hx hb hml hown hts hK hE hP hD (k_J6_bitCount_0f7a4 l D cI cJ cZ q bb bs bp w_14 hW_w_14 v_17 _) ⟨⟨rfl, rfl⟩, rfl, rfl⟩ sv_X4_83 ⟨(Nat.le_trans (by decide) hR.1), (Nat.le_trans (by decide) hR.2)⟩ rfl hl.1 rfl (Nat.le_of_ble_eq_true rfl) dX4_cheapest_38) (fun r_19 w_18 H locs hw_w_18 hP hD hS => ?_)
    obtain ⟨hW_w_18, hs_w_18, i_r_19⟩ := hw_w_18
    refine lv_isub hx hb dX4_cheapest_41 ?_
    refine lv_topi (fun v_20 ev_20 => ?_)
    refine lv_istore (lv' := [(5, .int v_20), (4, .int r_15), (0, .ref (q 88)), (1, .int p1), (2, .ref (q 1)), (3, .int x21_3)]) hx hb dX4_cheapest_42 hl (by decide) rfl (fun ls hl => ?_)
    refine lv_iconst (v := (-1)) hx hb dX4_cheapest_44 (by decide) ?_
    refine lv_istore (lv' := [(6, .int (-1)), (5, .int v_20), (4, .int r_15), (0, .ref (q 88)), (1, .int p1), (2, .ref (q 1)), (3, .int x21_3)]) hx hb dX4_cheapest_45 hl (by decide) rfl (fun ls hl => ?_)
    refine lv_iconst (v := 0) hx hb dX4_cheapest_47 (by decide) ?_
    refine lv_istore (lv' := [(7, .int 0), (6, .int (-1)), (5, .int v_20), (4, .int r_15), (0, .ref (q 88)), (1, .int p1), (2, .ref (q 1)), (3, .int x21_3)]) hx hb dX4_cheapest_48 hl (by decide) rfl (fun ls hl => ?_)
    exact J50 _ x21_3 r_15 v_20 (-1) 0 w_18 _ _ ls (Nat.lt_succ_self _) hW_w_18 ((hM_w21.tr hs_w_14 (by decide)).tr hs_w_18 (by decide)) i_p1 i_r_15 (In_lit (n := (-1)) (by decide) (by decide) : In (-1) 1023 (-1)) (In_lit (n := 0) (by decide) (by decide) : In 0 1024 0) hP hD hS (lv_sub hl [4, 5, 6, 7, 3, 2, 1, 0] rfl)
  refine lv_aload_n hx hb dX4_cheapest_0 rfl (lv_at hl 0 rfl) ?_
  refine lv_iload_n hx hb dX4_cheapest_1 rfl (lv_at hl 1 rfl) ?_
  refine lv_aload_n hx hb dX4_cheapest_2 rfl (lv_at hl 2 rfl) ?_
  refine kW_i ⟨rfl, rfl⟩ hP hD hS hA (rW_V (As := [.int p1, .ref (q 1)]) (rest := []) hx hb hml hown hts hK hE hP hD (k_X4_greatest_1 l D cI cJ cZ q bb bs bp w hW_w p1 i_p1 _) ⟨⟨rfl, rfl⟩, rfl, rfl⟩ sv_X4_117 ⟨(Nat.le_trans (by decide) hR.1), (Nat.le_trans (by decide) hR.2)⟩ 88 4 (hW_w.o tX_88) rfl rfl rfl hl.1 rfl (Nat.le_of_ble_eq_true rfl) dX4_cheapest_3) (fun r_22 w_21 H locs hw_w_21 hP hD hS => ?_)
  obtain ⟨hW_w_21, hs_w_21⟩ := hw_w_21
  refine lv_istore_n (lv' := [(3, .int r_22), (0, .ref (q 88)), (1, .int p1), (2, .ref (q 1))]) hx hb dX4_cheapest_6 rfl hl (by decide) rfl (fun ls hl => ?_)
  refine lv_aload_n hx hb dX4_cheapest_7 rfl (lv_at hl 1 rfl) ?_
  refine lv_iload_n hx hb dX4_cheapest_8 rfl (lv_at hl 2 rfl) ?_
  refine lv_aload_n hx hb dX4_cheapest_9 rfl (lv_at hl 3 rfl) ?_
  refine lv_iload_n hx hb dX4_cheapest_10 rfl (lv_at hl 0 rfl) ?_
  refine lv_if_ne (tgt := 20) hx hb dX4_cheapest_11 (by decide) (fun c_23 => ?_) (fun c_23 => ?_)
  · refine lv_iload_n hx hb dX4_cheapest_20 rfl (lv_at hl 0 rfl) ?_
    exact J21 r_22 r_22 w_21 _ _ ls hW_w_21 (Sm.rf.tr hs_w_21 (by decide)) i_p1 i_p1 hP hD hS (lv_sub hl [1, 2, 3, 0] rfl)
  · refine lv_sipush (v := 5000) hx hb dX4_cheapest_14 (by decide) ?_
    refine lv_goto (tgt := 21) hx hb dX4_cheapest_17 (by decide) ?_
    exact J21 r_22 5000 w_21 _ _ ls hW_w_21 (Sm.rf.tr hs_w_21 (by decide)) i_p1 i_p1 hP hD hS (lv_sub hl [1, 2, 3, 0] rfl)
set_option maxRecDepth 100000 in
set_option maxHeartbeats 8000000 in
theorem k_X4_isRight_1 (l : Launch) (D : va_G) (cI cJ cZ : ClassId) (q : Nat → Nat) (bb bs bp : Nat) (w : va_W) (hW_w : HT q (TX q cI cJ cZ bb bs bp) w) (p1 : Int32) (i_p1 : In 0 39 p1) : Con_i l yX4_isRight cX4_isRight 3 (some .boolean) ({ frames := 2, cells := 0, slots := 0, locals := 48 }) D cI cJ cZ eW [.ref (q 88), .int p1, .ref (q 1)] w (fun (r : Int32) (w1 : va_W) => HT q (TX q cI cJ cZ bb bs bp) w1 ∧ Sm [] [] w w1 ∧ In 0 1 r) := by
  refine eQ_z rfl (by decide) (Nat.le_of_ble_eq_true rfl) ⟨rfl, rfl⟩ ?_
  intro p e R s m args below meth c A Q hx hb hml hown hts hK hE hA hR hret hP hD hS ls hl
  have hown : s.vm.findClass RX4 = some m.cls := hown
  have hl : lv_has ls 3 [(0, .ref (q 88)), (1, .int p1), (2, .ref (q 1))] := hl
  refine lv_aload_n hx hb dX4_isRight_0 rfl (lv_at hl 0 rfl) ?_
  refine gt_X4 hx hb hts hown hK hP 88 (hW_w.o tX_88) 8 (by decide) wd_578 rfl (hW_w.fr tX_88 rfl) dX4_isRight_1 ?_
  refine lv_iload_n hx hb dX4_isRight_4 rfl (lv_at hl 1 rfl) ?_
  refine va_iald hx hb hK hP 95 0 (hW_w.a tX_95) rfl (in_I i_p1 (by decide)) dX4_isRight_5 ?_
  refine lv_topi (fun v_1 ev_1 => ?_)
  refine kW_i ⟨rfl, rfl⟩ hP hD hS hA (rW_S (As := [.int v_1]) (rest := []) hx hb hml hown hts hK hE hP hD (k_J6_bitCount_0f7a4 l D cI cJ cZ q bb bs bp w hW_w v_1 _) ⟨⟨rfl, rfl⟩, rfl, rfl⟩ sv_X4_83 ⟨(Nat.le_trans (by decide) hR.1), (Nat.le_trans (by decide) hR.2)⟩ rfl hl.1 rfl (Nat.le_of_ble_eq_true rfl) dX4_isRight_6) (fun r_3 w_2 H locs hw_w_2 hP hD hS => ?_)
  obtain ⟨hW_w_2, hs_w_2, i_r_3⟩ := hw_w_2
  refine lv_aload_n hx hb dX4_isRight_9 rfl (lv_at hl 0 rfl) ?_
  refine gt_X4 hx hb hts hown hK hP 88 (hW_w_2.o tX_88) 5 (by decide) wd_575 rfl (hW_w_2.fr tX_88 rfl) dX4_isRight_10 ?_
  refine lv_iload_n hx hb dX4_isRight_13 rfl (lv_at hl 1 rfl) ?_
  refine va_iald hx hb hK hP 92 0 (hW_w_2.a tX_92) rfl (in_I i_p1 (by decide)) dX4_isRight_14 ?_
  refine lv_topi (fun v_4 ev_4 => ?_)
  refine lv_icmp_lt (tgt := 42) hx hb dX4_isRight_15 (by decide) (fun c_5 => ?_) (fun c_5 => ?_)
  · refine lv_iconst (v := 0) hx hb dX4_isRight_42 (by decide) ?_
    exact hret _ _ _ _ _ _ hP hD hS dX4_isRight_43 (In_lit (n := 0) (by decide) (by decide) : In 0 1 0) ⟨hW_w_2, (Sm.rf.tr hs_w_2 (by decide)), (In_lit (n := 0) (by decide) (by decide) : In 0 1 0)⟩
  · refine lv_aload_n hx hb dX4_isRight_18 rfl (lv_at hl 0 rfl) ?_
    refine lv_iload_n hx hb dX4_isRight_19 rfl (lv_at hl 1 rfl) ?_
    refine lv_aload_n hx hb dX4_isRight_20 rfl (lv_at hl 2 rfl) ?_
    refine kW_i ⟨rfl, rfl⟩ hP hD hS hA (rW_V (As := [.int p1, .ref (q 1)]) (rest := []) hx hb hml hown hts hK hE hP hD (k_X4_worthOf_1 l D cI cJ cZ q bb bs bp w_2 hW_w_2 p1 i_p1 _) ⟨⟨rfl, rfl⟩, rfl, rfl⟩ sv_X4_108 ⟨(Nat.le_trans (by decide) hR.1), (Nat.le_trans (by decide) hR.2)⟩ 88 4 (hW_w_2.o tX_88) rfl rfl rfl hl.1 rfl (Nat.le_of_ble_eq_true rfl) dX4_isRight_21) (fun r_7 w_6 H locs hw_w_6 hP hD hS => ?_)
    obtain ⟨hW_w_6, hs_w_6⟩ := hw_w_6
    refine lv_aload_n hx hb dX4_isRight_24 rfl (lv_at hl 0 rfl) ?_
    refine lv_iload_n hx hb dX4_isRight_25 rfl (lv_at hl 1 rfl) ?_
    refine lv_aload_n hx hb dX4_isRight_26 rfl (lv_at hl 2 rfl) ?_
    refine kW_i ⟨rfl, rfl⟩ hP hD hS hA (rW_V (As := [.int p1, .ref (q 1)]) (rest := [.int r_7]) hx hb hml hown hts hK hE hP hD (k_X4_greatest_1 l D cI cJ cZ q bb bs bp w_6 hW_w_6 p1 i_p1 _) ⟨⟨rfl, rfl⟩, rfl, rfl⟩ sv_X4_117 ⟨(Nat.le_trans (by decide) hR.1), (Nat.le_trans (by decide) hR.2)⟩ 88 4 (hW_w_6.o tX_88) rfl rfl rfl hl.1 rfl (Nat.le_of_ble_eq_true rfl) dX4_isRight_27) (fun r_9 w_8 H locs hw_w_8 hP hD hS => ?_)
    obtain ⟨hW_w_8, hs_w_8⟩ := hw_w_8
    refine lv_aload_n hx hb dX4_isRight_30 rfl (lv_at hl 2 rfl) ?_
    refine gt_X1 hx hb hts hown hK hP 1 (hW_w_8.o tX_1) 9 (by decide) wd_68 rfl (hW_w_8.fi tX_1 rfl) dX4_isRight_31 ?_
    refine tov (v := (fI w 1 9)) ((hs_w_8.gI (by decide)).trans ((hs_w_6.gI (by decide)).trans (hs_w_2.gI (by decide)))) ?_
    refine lv_isub hx hb dX4_isRight_34 ?_
    refine lv_topi (fun v_10 ev_10 => ?_)
    refine lv_icmp_lt (tgt := 42) hx hb dX4_isRight_35 (by decide) (fun c_11 => ?_) (fun c_11 => ?_)
    · refine lv_iconst (v := 0) hx hb dX4_isRight_42 (by decide) ?_
      exact hret _ _ _ _ _ _ hP hD hS dX4_isRight_43 (In_lit (n := 0) (by decide) (by decide) : In 0 1 0) ⟨hW_w_8, (((Sm.rf.tr hs_w_2 (by decide)).tr hs_w_6 (by decide)).tr hs_w_8 (by decide)), (In_lit (n := 0) (by decide) (by decide) : In 0 1 0)⟩
    · refine lv_iconst (v := 1) hx hb dX4_isRight_38 (by decide) ?_
      refine lv_goto (tgt := 43) hx hb dX4_isRight_39 (by decide) ?_
      exact hret _ _ _ _ _ _ hP hD hS dX4_isRight_43 (In_lit (n := 1) (by decide) (by decide) : In 0 1 1) ⟨hW_w_8, (((Sm.rf.tr hs_w_2 (by decide)).tr hs_w_6 (by decide)).tr hs_w_8 (by decide)), (In_lit (n := 1) (by decide) (by decide) : In 0 1 1)⟩
set_option maxRecDepth 100000 in
set_option maxHeartbeats 8000000 in
theorem k_X4_costOf_1 (l : Launch) (D : va_G) (cI cJ cZ : ClassId) (q : Nat → Nat) (bb bs bp : Nat) (w : va_W) (hW_w : HT q (TX q cI cJ cZ bb bs bp) w) (p1 : Int32) (i_p1 : In 0 39 p1) : Con_i l yX4_costOf cX4_costOf 4 (some .int) ({ frames := 3, cells := 0, slots := 0, locals := 80 }) D cI cJ cZ eW [.ref (q 88), .int p1, .ref (q 1)] w (fun (r : Int32) (w1 : va_W) => HT q (TX q cI cJ cZ bb bs bp) w1 ∧ Sm [99, 100, 101] [] w w1) := by
  refine eQ_i rfl (by decide) (Nat.le_of_ble_eq_true rfl) ⟨rfl, rfl⟩ ?_
  intro p e R s m args below meth c A Q hx hb hml hown hts hK hE hA hR hret hP hD hS ls hl
  have hown : s.vm.findClass RX4 = some m.cls := hown
  have hl : lv_has ls 4 [(0, .ref (q 88)), (1, .int p1), (2, .ref (q 1))] := hl
  refine lv_aload_n hx hb dX4_costOf_0 rfl (lv_at hl 0 rfl) ?_
  refine lv_iload_n hx hb dX4_costOf_1 rfl (lv_at hl 1 rfl) ?_
  refine lv_aload_n hx hb dX4_costOf_2 rfl (lv_at hl 2 rfl) ?_
  refine kW_i ⟨rfl, rfl⟩ hP hD hS hA (rW_V (As := [.int p1, .ref (q 1)]) (rest := []) hx hb hml hown hts hK hE hP hD (k_X4_isRight_1 l D cI cJ cZ q bb bs bp w hW_w p1 i_p1 _) ⟨⟨rfl, rfl⟩, rfl, rfl⟩ sv_X4_123 ⟨(Nat.le_trans (by decide) hR.1), (Nat.le_trans (by decide) hR.2)⟩ 88 4 (hW_w.o tX_88) rfl rfl rfl hl.1 rfl (Nat.le_of_ble_eq_true rfl) dX4_costOf_3) (fun r_2 w_1 H locs hw_w_1 hP hD hS => ?_)
  obtain ⟨hW_w_1, hs_w_1, i_r_2⟩ := hw_w_1
  refine lv_if_eq (tgt := 11) hx hb dX4_costOf_6 (by decide) (fun c_3 => ?_) (fun c_3 => ?_)
  · refine lv_aload_n hx hb dX4_costOf_11 rfl (lv_at hl 0 rfl) ?_
    refine lv_iload_n hx hb dX4_costOf_12 rfl (lv_at hl 1 rfl) ?_
    refine lv_aload_n hx hb dX4_costOf_13 rfl (lv_at hl 2 rfl) ?_
    refine kW_i ⟨rfl, rfl⟩ hP hD hS hA (rW_V (As := [.int p1, .ref (q 1)]) (rest := []) hx hb hml hown hts hK hE hP hD (k_X4_cheapest_1 l D cI cJ cZ q bb bs bp w_1 hW_w_1 p1 i_p1 _) ⟨⟨rfl, rfl⟩, rfl, rfl⟩ sv_X4_127 ⟨(Nat.le_trans (by decide) hR.1), (Nat.le_trans (by decide) hR.2)⟩ 88 4 (hW_w_1.o tX_88) rfl rfl rfl hl.1 rfl (Nat.le_of_ble_eq_true rfl) dX4_costOf_14) (fun r_5 w_4 H locs hw_w_4 hP hD hS => ?_)
    obtain ⟨hW_w_4, hs_w_4, i_r_5⟩ := hw_w_4
    refine lv_istore_n (lv' := [(3, .int r_5), (0, .ref (q 88)), (1, .int p1), (2, .ref (q 1))]) hx hb dX4_costOf_17 rfl hl (by decide) rfl (fun ls hl => ?_)
    refine lv_iload_n hx hb dX4_costOf_18 rfl (lv_at hl 0 rfl) ?_
    refine lv_iconst (v := (-1)) hx hb dX4_costOf_19 (by decide) ?_
    refine lv_icmp_ne (tgt := 27) hx hb dX4_costOf_20 (by decide) (fun c_6 => ?_) (fun c_6 => ?_)
    · refine lv_aload_n hx hb dX4_costOf_27 rfl (lv_at hl 1 rfl) ?_
      refine gt_X4 hx hb hts hown hK hP 88 (hW_w_4.o tX_88) 16 (by decide) wd_590 rfl (hW_w_4.fr tX_88 rfl) dX4_costOf_28 ?_
      refine lv_iload_n hx hb dX4_costOf_31 rfl (lv_at hl 0 rfl) ?_
      refine va_iald hx hb hK hP 101 0 (hW_w_4.a tX_101) rfl (in_I (R_ne_l i_r_5 (In_lit (n := (-1)) (by decide) (by decide) : In (-1) (-1) (-1)) c_6 (by decide) : In 0 1023 r_5) (by decide)) dX4_costOf_32 ?_
      refine lv_topi (fun v_7 ev_7 => ?_)
      exact hret _ _ _ _ _ _ hP hD hS dX4_costOf_33 ⟨hW_w_4, ((Sm.rf.tr hs_w_1 (by decide)).tr hs_w_4 (by decide))⟩
    · refine lv_iconst (v := (-1)) hx hb dX4_costOf_23 (by decide) ?_
      refine lv_goto (tgt := 33) hx hb dX4_costOf_24 (by decide) ?_
      exact hret _ _ _ _ _ _ hP hD hS dX4_costOf_33 ⟨hW_w_4, ((Sm.rf.tr hs_w_1 (by decide)).tr hs_w_4 (by decide))⟩
  · refine lv_iconst (v := 0) hx hb dX4_costOf_9 (by decide) ?_
    exact hret _ _ _ _ _ _ hP hD hS dX4_costOf_10 ⟨hW_w_1, (Sm.rf.tr hs_w_1 (by decide))⟩
set_option maxRecDepth 100000 in
set_option maxHeartbeats 8000000 in
theorem k_X11_price (l : Launch) (D : va_G) (cI cJ cZ : ClassId) (q : Nat → Nat) (bp : Nat) (w : va_W) (hW_w : HT q (TX q cI cJ cZ 1 16 bp) w) (p1 : Int32) : Con_i l yX11_price cX11_price 2 (some .int) ({ frames := 4, cells := 0, slots := 0, locals := 103 }) D cI cJ cZ eW [.ref (q 0), .int p1] w (fun (r : Int32) (w1 : va_W) => HT q (TX q cI cJ cZ 1 16 bp) w1 ∧ Sm [99, 100, 101] [] w w1) := by
  refine eQ_i rfl (by decide) (Nat.le_of_ble_eq_true rfl) ⟨rfl, rfl⟩ ?_
  intro p e R s m args below meth c A Q hx hb hml hown hts hK hE hA hR hret hP hD hS ls hl
  have hown : s.vm.findClass RX11 = some m.cls := hown
  have hl : lv_has ls 2 [(0, .ref (q 0)), (1, .int p1)] := hl
  refine lv_aload_n hx hb dX11_price_0 rfl (lv_at hl 0 rfl) ?_
  refine gt_X11 hx hb hts hown hK hP 0 (hW_w.o tX_0) 10 (by decide) wd_683 rfl (hW_w.fr tX_0 rfl) dX11_price_1 ?_
  refine lv_iload_n hx hb dX11_price_4 rfl (lv_at hl 1 rfl) ?_
  refine kW_i ⟨rfl, rfl⟩ hP hD hS hA (rW_V (As := [.int p1]) (rest := []) hx hb hml hown hts hK hE hP hD (k_X4_isChild l D cI cJ cZ q 1 16 bp w hW_w p1 _) ⟨⟨rfl, rfl⟩, rfl, rfl⟩ sv_X11_279 ⟨(Nat.le_trans (by decide) hR.1), (Nat.le_trans (by decide) hR.2)⟩ 88 4 (hW_w.o tX_88) rfl rfl rfl hl.1 rfl (Nat.le_of_ble_eq_true rfl) dX11_price_5) (fun r_2 w_1 H locs hw_w_1 hP hD hS => ?_)
  obtain ⟨hW_w_1, hs_w_1, i_r_2, h_3⟩ := hw_w_1
  refine lv_if_eq (tgt := 26) hx hb dX11_price_8 (by decide) (fun c_4 => ?_) (fun c_4 => ?_)
  · refine lv_iconst (v := (-1)) hx hb dX11_price_26 (by decide) ?_
    exact hret _ _ _ _ _ _ hP hD hS dX11_price_27 ⟨hW_w_1, (Sm.rf.tr hs_w_1 (by decide))⟩
  · refine lv_aload_n hx hb dX11_price_11 rfl (lv_at hl 0 rfl) ?_
    refine gt_X11 hx hb hts hown hK hP 0 (hW_w_1.o tX_0) 10 (by decide) wd_683 rfl (hW_w_1.fr tX_0 rfl) dX11_price_12 ?_
    refine lv_iload_n hx hb dX11_price_15 rfl (lv_at hl 1 rfl) ?_
    refine lv_aload_n hx hb dX11_price_16 rfl (lv_at hl 0 rfl) ?_
    refine gt_X11 hx hb hts hown hK hP 0 (hW_w_1.o tX_0) 0 (by decide) wd_673 rfl (hW_w_1.fr tX_0 rfl) dX11_price_17 ?_
    refine kW_i ⟨rfl, rfl⟩ hP hD hS hA (rW_V (As := [.int p1, .ref (q 1)]) (rest := []) hx hb hml hown hts hK hE hP hD (k_X4_costOf_1 l D cI cJ cZ q 1 16 bp w_1 hW_w_1 p1 (h_3 c_4) _) ⟨⟨rfl, rfl⟩, rfl, rfl⟩ sv_X11_296 ⟨(Nat.le_trans (by decide) hR.1), (Nat.le_trans (by decide) hR.2)⟩ 88 4 (hW_w_1.o tX_88) rfl rfl rfl hl.1 rfl (Nat.le_of_ble_eq_true rfl) dX11_price_20) (fun r_6 w_5 H locs hw_w_5 hP hD hS => ?_)
    obtain ⟨hW_w_5, hs_w_5⟩ := hw_w_5
    refine lv_goto (tgt := 27) hx hb dX11_price_23 (by decide) ?_
    exact hret _ _ _ _ _ _ hP hD hS dX11_price_27 ⟨hW_w_5, ((Sm.rf.tr hs_w_1 (by decide)).tr hs_w_5 (by decide))⟩
set_option maxRecDepth 100000 in
set_option maxHeartbeats 8000000 in
theorem k_X4_cheapestOffer (l : Launch) (D : va_G) (cI cJ cZ : ClassId) (q : Nat → Nat) (bb bs bp : Nat) (w : va_W) (hW_w : HT q (TX q cI cJ cZ bb bs bp) w) : Con_i l yX4_cheapestOffer cX4_cheapestOffer 3 (some .int) ({ frames := 0, cells := 0, slots := 0, locals := 0 }) D cI cJ cZ eW [.ref (q 88)] w (fun (r : Int32) (w1 : va_W) => HT q (TX q cI cJ cZ bb bs bp) w1 ∧ Sm [] [] w w1 ∧ In (-1) 39 r) := by
  refine eQ_i rfl (by decide) (Nat.le_of_ble_eq_true rfl) ⟨rfl, rfl⟩ ?_
  intro p e R s m args below meth c A Q hx hb hml hown hts hK hE hA hR hret hP hD hS ls hl
  have hown : s.vm.findClass RX4 = some m.cls := hown
  have hl : lv_has ls 3 [(0, .ref (q 88))] := hl
  have J4 : ∀ (N : Nat) (x4_1 : Int32) (x4_2 : Int32) (w4 : va_W) (H : Heap) (locs : List Loc) (ls : Array Slot), (40 - x4_2.toInt).toNat < N → HT q (TX q cI cJ cZ bb bs bp) w4 → Sm [] [] w w4 → (In (-1) 39 x4_1) → (In 0 40 x4_2) → va_P D vwCl w4 H → va_D A w4 → va_S A s.heap H locs → lv_has ls 3 [(0, .ref (q 88)), (1, .int x4_1), (2, .int x4_2)] → W p l e R s m args below meth c H locs 0 0 Q (F0 m 4 ls []) := by
    intro N
    induction N with
    | zero => intro x4_1 x4_2 w4 H locs ls hmu; exact absurd hmu (Nat.not_lt_zero _)
    | succ N ih4 =>
      intro x4_1 x4_2 w4 H locs ls hmu4 hW_w4 hM_w4 i_x4_1 i_x4_2 hP hD hS hl
      have J44 : ∀ (x44_1 : Int32) (w44 : va_W) (H : Heap) (locs : List Loc) (ls : Array Slot), HT q (TX q cI cJ cZ bb bs bp) w44 → Sm [] [] w w44 → (In (-1) 39 x44_1) → (In 0 39 x4_2) → (In 1 40 (fI w44 88 1)) → va_P D vwCl w44 H → va_D A w44 → va_S A s.heap H locs → lv_has ls 3 [(0, .ref (q 88)), (1, .int x44_1), (2, .int x4_2)] → W p l e R s m args below meth c H locs 0 0 Q (F0 m 44 ls []) := by
        intro x44_1 w44 H locs ls hW_w44 hM_w44 i_x44_1 i_x44_2 g44_88_1 hP hD hS hl
        refine lv_iinc (v := (x4_2 + 1)) (lv' := [(2, .int (x4_2 + 1)), (0, .ref (q 88)), (1, .int x44_1)]) hx hb dX4_cheapestOffer_44 hl (k := 2) rfl (rfl) (by decide) rfl (fun ls hl => ?_)
        refine lv_goto (tgt := 4) hx hb dX4_cheapestOffer_47 (by decide) ?_
        exact ih4 x44_1 (x4_2 + 1) w44 _ _ ls (mu_inc hmu4 i_x44_2 (In_lit (n := 1) (by decide) (by decide) : In 1 1 1) (by decide)) hW_w44 hM_w44 i_x44_1 (In_w ((In_add (y := 1) i_x44_2 (In_lit (n := 1) (by decide) (by decide) : In 1 1 1) (by decide)) : In 1 40 (x4_2 + 1)) (by decide) : In 0 40 (x4_2 + 1)) hP hD hS (lv_sub hl [1, 2, 0] rfl)
      have J42 : ∀ (w42 : va_W) (H : Heap) (locs : List Loc) (ls : Array Slot), HT q (TX q cI cJ cZ bb bs bp) w42 → Sm [] [] w w42 → (In (-1) 39 x4_1) → (In 0 39 x4_2) → (In 1 40 (fI w42 88 1)) → va_P D vwCl w42 H → va_D A w42 → va_S A s.heap H locs → lv_has ls 3 [(0, .ref (q 88)), (1, .int x4_1), (2, .int x4_2)] → W p l e R s m args below meth c H locs 0 0 Q (F0 m 42 ls []) := by
        intro w42 H locs ls hW_w42 hM_w42 i_x42_1 i_x42_2 g42_88_1 hP hD hS hl
        refine lv_iload_n hx hb dX4_cheapestOffer_42 rfl (lv_at hl 2 rfl) ?_
        refine lv_istore_n (lv' := [(1, .int x4_2), (0, .ref (q 88)), (2, .int x4_2)]) hx hb dX4_cheapestOffer_43 rfl hl (by decide) rfl (fun ls hl => ?_)
        exact J44 x4_2 w42 _ _ ls hW_w42 hM_w42 (In_w i_x42_2 (by decide) : In (-1) 39 x4_2) i_x42_2 (In_of (hM_w42.gI (by decide)) (In_of (hM_w42.gI (by decide)).symm g42_88_1)) hP hD hS (lv_sub hl [1, 0, 2] rfl)
      refine lv_iload_n hx hb dX4_cheapestOffer_4 rfl (lv_at hl 2 rfl) ?_
      refine lv_aload_n hx hb dX4_cheapestOffer_5 rfl (lv_at hl 0 rfl) ?_
      refine gt_X4 hx hb hts hown hK hP 88 (hW_w4.o tX_88) 1 (by decide) wd_569 rfl (hW_w4.fi tX_88 rfl) dX4_cheapestOffer_6 ?_
      refine tov (v := (fI w 88 1)) (hM_w4.gI (by decide)) ?_
      refine lv_icmp_ge (tgt := 50) hx hb dX4_cheapestOffer_9 (by decide) (fun c_1 => ?_) (fun c_1 => ?_)
      · refine lv_iload_n hx hb dX4_cheapestOffer_50 rfl (lv_at hl 1 rfl) ?_
        exact hret _ _ _ _ _ _ hP hD hS dX4_cheapestOffer_51 ⟨hW_w4, hM_w4, i_x4_1⟩
      · refine lv_aload_n hx hb dX4_cheapestOffer_12 rfl (lv_at hl 0 rfl) ?_
        refine gt_X4 hx hb hts hown hK hP 88 (hW_w4.o tX_88) 13 (by decide) wd_587 rfl (hW_w4.fr tX_88 rfl) dX4_cheapestOffer_13 ?_
        refine lv_iload_n hx hb dX4_cheapestOffer_16 rfl (lv_at hl 2 rfl) ?_
        refine va_iald hx hb hK hP 98 0 (hW_w4.a tX_98) rfl (in_I (R_nle_r (hW_w.fin tX_88 rfl : In 0 40 (fI w 88 1)) i_x4_2 c_1 (by decide) : In 0 39 x4_2) (by decide)) dX4_cheapestOffer_17 ?_
        refine lv_topi (fun v_2 ev_2 => ?_)
        refine lv_iconst (v := (-1)) hx hb dX4_cheapestOffer_18 (by decide) ?_
        refine lv_icmp_eq (tgt := 44) hx hb dX4_cheapestOffer_19 (by decide) (fun c_3 => ?_) (fun c_3 => ?_)
        · exact J44 x4_1 w4 _ _ ls hW_w4 hM_w4 i_x4_1 (R_nle_r (hW_w.fin tX_88 rfl : In 0 40 (fI w 88 1)) i_x4_2 c_1 (by decide) : In 0 39 x4_2) (In_of (hM_w4.gI (by decide)) (R_nle_l (hW_w.fin tX_88 rfl : In 0 40 (fI w 88 1)) i_x4_2 c_1 (by decide) : In 1 40 (fI w 88 1))) hP hD hS (lv_sub hl [0, 1, 2] rfl)
        · refine lv_iload_n hx hb dX4_cheapestOffer_22 rfl (lv_at hl 1 rfl) ?_
          refine lv_iconst (v := (-1)) hx hb dX4_cheapestOffer_23 (by decide) ?_
          refine lv_icmp_eq (tgt := 42) hx hb dX4_cheapestOffer_24 (by decide) (fun c_4 => ?_) (fun c_4 => ?_)
          · exact J42 w4 _ _ ls hW_w4 hM_w4 (In_w (R_eq_l i_x4_1 (In_lit (n := (-1)) (by decide) (by decide) : In (-1) (-1) (-1)) c_4 (by decide) : In (-1) (-1) x4_1) (by decide) : In (-1) 39 x4_1) (R_nle_r (hW_w.fin tX_88 rfl : In 0 40 (fI w 88 1)) i_x4_2 c_1 (by decide) : In 0 39 x4_2) (In_of (hM_w4.gI (by decide)) (R_nle_l (hW_w.fin tX_88 rfl : In 0 40 (fI w 88 1)) i_x4_2 c_1 (by decide) : In 1 40 (fI w 88 1))) hP hD hS (lv_sub hl [0, 1, 2] rfl)
          · refine lv_aload_n hx hb dX4_cheapestOffer_27 rfl (lv_at hl 0 rfl) ?_
            refine gt_X4 hx hb hts hown hK hP 88 (hW_w4.o tX_88) 13 (by decide) wd_587 rfl (hW_w4.fr tX_88 rfl) dX4_cheapestOffer_28 ?_
            refine lv_iload_n hx hb dX4_cheapestOffer_31 rfl (lv_at hl 2 rfl) ?_
            refine va_iald hx hb hK hP 98 0 (hW_w4.a tX_98) rfl (in_I (R_nle_r (hW_w.fin tX_88 rfl : In 0 40 (fI w 88 1)) i_x4_2 c_1 (by decide) : In 0 39 x4_2) (by decide)) dX4_cheapestOffer_32 ?_
            refine tov (v := v_2) ((congrFun (hM_w4.hA (by decide)) _).trans ((congrFun (hM_w4.hA (by decide)) _).symm.trans ev_2.symm)) ?_
            refine lv_aload_n hx hb dX4_cheapestOffer_33 rfl (lv_at hl 0 rfl) ?_
            refine gt_X4 hx hb hts hown hK hP 88 (hW_w4.o tX_88) 13 (by decide) wd_587 rfl (hW_w4.fr tX_88 rfl) dX4_cheapestOffer_34 ?_
            refine lv_iload_n hx hb dX4_cheapestOffer_37 rfl (lv_at hl 1 rfl) ?_
            refine va_iald hx hb hK hP 98 0 (hW_w4.a tX_98) rfl (in_I (R_ne_l i_x4_1 (In_lit (n := (-1)) (by decide) (by decide) : In (-1) (-1) (-1)) c_4 (by decide) : In 0 39 x4_1) (by decide)) dX4_cheapestOffer_38 ?_
            refine lv_topi (fun v_5 ev_5 => ?_)
            refine lv_icmp_ge (tgt := 44) hx hb dX4_cheapestOffer_39 (by decide) (fun c_6 => ?_) (fun c_6 => ?_)
            · exact J44 x4_1 w4 _ _ ls hW_w4 hM_w4 (In_w (R_ne_l i_x4_1 (In_lit (n := (-1)) (by decide) (by decide) : In (-1) (-1) (-1)) c_4 (by decide) : In 0 39 x4_1) (by decide) : In (-1) 39 x4_1) (R_nle_r (hW_w.fin tX_88 rfl : In 0 40 (fI w 88 1)) i_x4_2 c_1 (by decide) : In 0 39 x4_2) (In_of (hM_w4.gI (by decide)) (R_nle_l (hW_w.fin tX_88 rfl : In 0 40 (fI w 88 1)) i_x4_2 c_1 (by decide) : In 1 40 (fI w 88 1))) hP hD hS (lv_sub hl [0, 1, 2] rfl)
            · exact J42 w4 _ _ ls hW_w4 hM_w4 (In_w (R_ne_l i_x4_1 (In_lit (n := (-1)) (by decide) (by decide) : In (-1) (-1) (-1)) c_4 (by decide) : In 0 39 x4_1) (by decide) : In (-1) 39 x4_1) (R_nle_r (hW_w.fin tX_88 rfl : In 0 40 (fI w 88 1)) i_x4_2 c_1 (by decide) : In 0 39 x4_2) (In_of (hM_w4.gI (by decide)) (R_nle_l (hW_w.fin tX_88 rfl : In 0 40 (fI w 88 1)) i_x4_2 c_1 (by decide) : In 1 40 (fI w 88 1))) hP hD hS (lv_sub hl [0, 1, 2] rfl)
  refine lv_iconst (v := (-1)) hx hb dX4_cheapestOffer_0 (by decide) ?_
  refine lv_istore_n (lv' := [(1, .int (-1)), (0, .ref (q 88))]) hx hb dX4_cheapestOffer_1 rfl hl (by decide) rfl (fun ls hl => ?_)
  refine lv_iconst (v := 0) hx hb dX4_cheapestOffer_2 (by decide) ?_
  refine lv_istore_n (lv' := [(2, .int 0), (1, .int (-1)), (0, .ref (q 88))]) hx hb dX4_cheapestOffer_3 rfl hl (by decide) rfl (fun ls hl => ?_)
  exact J4 _ (-1) 0 w _ _ ls (Nat.lt_succ_self _) hW_w Sm.rf (In_lit (n := (-1)) (by decide) (by decide) : In (-1) 39 (-1)) (In_lit (n := 0) (by decide) (by decide) : In 0 40 0) hP hD hS (lv_sub hl [2, 1, 0] rfl)
set_option maxRecDepth 100000 in
set_option maxHeartbeats 8000000 in
theorem k_X4_buy_1 (l : Launch) (D : va_G) (cI cJ cZ : ClassId) (q : Nat → Nat) (bb bs bp : Nat) (w : va_W) (hW_w : HT q (TX q cI cJ cZ bb bs bp) w) (p1 : Int32) (i_p1 : In 0 100000 p1) : Con_i l yX4_buy cX4_buy 5 (some .int) ({ frames := 3, cells := 0, slots := 0, locals := 80 }) D cI cJ cZ eW [.ref (q 88), .int p1, .ref (q 1)] w (fun (r : Int32) (w1 : va_W) => HT q (TX q cI cJ cZ bb bs bp) w1 ∧ Sm [88, 95, 97, 98, 99, 100, 101] [(88, 11)] w w1 ∧ In 0 40 r) := by
  refine eQ_i rfl (by decide) (Nat.le_of_ble_eq_true rfl) ⟨rfl, rfl⟩ ?_
  intro p e R s m args below meth c A Q hx hb hml hown hts hK hE hA hR hret hP hD hS ls hl
  have hown : s.vm.findClass RX4 = some m.cls := hown
  have hl : lv_has ls 5 [(0, .ref (q 88)), (1, .int p1), (2, .ref (q 1))] := hl
  have J90 : ∀ (N : Nat) (x90_3 : Int32) (w90 : va_W) (H : Heap) (locs : List Loc) (ls : Array Slot), (40 - x90_3.toInt).toNat < N → HT q (TX q cI cJ cZ bb bs bp) w90 → Sm [88, 95, 97, 98, 99, 100, 101] [(88, 11)] w w90 → (In 0 100000 p1) → (In 0 40 x90_3) → va_P D vwCl w90 H → va_D A w90 → va_S A s.heap H locs → lv_has ls 5 [(0, .ref (q 88)), (1, .int p1), (2, .ref (q 1)), (3, .int x90_3)] → W p l e R s m args below meth c H locs 0 0 Q (F0 m 90 ls []) := by
    intro N
    induction N with
    | zero => intro x90_3 w90 H locs ls hmu; exact absurd hmu (Nat.not_lt_zero _)
    | succ N ih90 =>
      intro x90_3 w90 H locs ls hmu90 hW_w90 hM_w90 i_x90_1 i_x90_3 hP hD hS hl
      refine lv_iload_n hx hb dX4_buy_90 rfl (lv_at hl 3 rfl) ?_
      refine lv_aload_n hx hb dX4_buy_91 rfl (lv_at hl 0 rfl) ?_
      refine gt_X4 hx hb hts hown hK hP 88 (hW_w90.o tX_88) 1 (by decide) wd_569 rfl (hW_w90.fi tX_88 rfl) dX4_buy_92 ?_
      refine tov (v := (fI w 88 1)) (hM_w90.2 88 1 (by decide) (by decide)) ?_
      refine lv_icmp_ge (tgt := 175) hx hb dX4_buy_95 (by decide) (fun c_1 => ?_) (fun c_1 => ?_)
      · refine lv_aload_n hx hb dX4_buy_175 rfl (lv_at hl 0 rfl) ?_
        refine gt_X4 hx hb hts hown hK hP 88 (hW_w90.o tX_88) 1 (by decide) wd_569 rfl (hW_w90.fi tX_88 rfl) dX4_buy_176 ?_
        refine tov (v := (fI w 88 1)) (hM_w90.2 88 1 (by decide) (by decide)) ?_
        exact hret _ _ _ _ _ _ hP hD hS dX4_buy_179 ⟨hW_w90, hM_w90, (hW_w.fin tX_88 rfl : In 0 40 (fI w 88 1))⟩
      · refine lv_aload_n hx hb dX4_buy_98 rfl (lv_at hl 0 rfl) ?_
        refine kW_i ⟨rfl, rfl⟩ hP hD hS hA (rW_V (As := []) (rest := []) hx hb hml hown hts hK hE hP hD (k_X4_cheapestOffer l D cI cJ cZ q bb bs bp w90 hW_w90  _) ⟨⟨rfl, rfl⟩, rfl, rfl⟩ sv_X4_141 ⟨(Nat.le_trans (by decide) hR.1), (Nat.le_trans (by decide) hR.2)⟩ 88 4 (hW_w90.o tX_88) rfl rfl rfl hl.1 rfl (Nat.le_of_ble_eq_true rfl) dX4_buy_99) (fun r_3 w_2 H locs hw_w_2 hP hD hS => ?_)
        obtain ⟨hW_w_2, hs_w_2, i_r_3⟩ := hw_w_2
        refine lv_istore (lv' := [(4, .int r_3), (0, .ref (q 88)), (1, .int p1), (2, .ref (q 1)), (3, .int x90_3)]) hx hb dX4_buy_102 hl (by decide) rfl (fun ls hl => ?_)
        refine lv_iload hx hb dX4_buy_104 (lv_at hl 0 rfl) ?_
        refine lv_iconst (v := (-1)) hx hb dX4_buy_106 (by decide) ?_
        refine lv_icmp_eq (tgt := 126) hx hb dX4_buy_107 (by decide) (fun c_4 => ?_) (fun c_4 => ?_)
        · refine lv_iload_n hx hb dX4_buy_126 rfl (lv_at hl 4 rfl) ?_
          exact hret _ _ _ _ _ _ hP hD hS dX4_buy_127 ⟨hW_w_2, (hM_w90.tr hs_w_2 (by decide)), (In_w (R_nle_r (hW_w.fin tX_88 rfl : In 0 40 (fI w 88 1)) i_x90_3 c_1 (by decide) : In 0 39 x90_3) (by decide) : In 0 40 x90_3)⟩
        · refine lv_aload_n hx hb dX4_buy_110 rfl (lv_at hl 1 rfl) ?_
          refine gt_X4 hx hb hts hown hK hP 88 (hW_w_2.o tX_88) 13 (by decide) wd_587 rfl (hW_w_2.fr tX_88 rfl) dX4_buy_111 ?_
          refine lv_iload hx hb dX4_buy_114 (lv_at hl 0 rfl) ?_
          refine va_iald hx hb hK hP 98 0 (hW_w_2.a tX_98) rfl (in_I (R_ne_l i_r_3 (In_lit (n := (-1)) (by decide) (by decide) : In (-1) (-1) (-1)) c_4 (by decide) : In 0 39 r_3) (by decide)) dX4_buy_116 ?_
          refine lv_topi (fun v_5 ev_5 => ?_)
          refine lv_iload_n hx hb dX4_buy_117 rfl (lv_at hl 2 rfl) ?_
          refine lv_aload_n hx hb dX4_buy_118 rfl (lv_at hl 1 rfl) ?_
          refine gt_X4 hx hb hts hown hK hP 88 (hW_w_2.o tX_88) 11 (by decide) wd_584 rfl (hW_w_2.fi tX_88 rfl) dX4_buy_119 ?_
          refine tov (v := (fI w90 88 11)) (hs_w_2.gI (by decide)) ?_
          refine lv_isub hx hb dX4_buy_122 ?_
          refine lv_topi (fun v_6 ev_6 => ?_)
          refine lv_icmp_le (tgt := 128) hx hb dX4_buy_123 (by decide) (fun c_7 => ?_) (fun c_7 => ?_)
          · refine lv_aload_n hx hb dX4_buy_128 rfl (lv_at hl 1 rfl) ?_
            refine lv_dup hx hb dX4_buy_129 rfl ?_
            refine gt_X4 hx hb hts hown hK hP 88 (hW_w_2.o tX_88) 11 (by decide) wd_584 rfl (hW_w_2.fi tX_88 rfl) dX4_buy_130 ?_
            refine tov (v := (fI w90 88 11)) (hs_w_2.gI (by decide)) ?_
            refine lv_aload_n hx hb dX4_buy_133 rfl (lv_at hl 1 rfl) ?_
            refine gt_X4 hx hb hts hown hK hP 88 (hW_w_2.o tX_88) 13 (by decide) wd_587 rfl (hW_w_2.fr tX_88 rfl) dX4_buy_134 ?_
            refine lv_iload hx hb dX4_buy_137 (lv_at hl 0 rfl) ?_
            refine va_iald hx hb hK hP 98 0 (hW_w_2.a tX_98) rfl (in_I (R_ne_l i_r_3 (In_lit (n := (-1)) (by decide) (by decide) : In (-1) (-1) (-1)) c_4 (by decide) : In 0 39 r_3) (by decide)) dX4_buy_139 ?_
            refine tov (v := v_5) ((congrFun (hs_w_2.hA (by decide)) _).trans ((congrFun (hs_w_2.hA (by decide)) _).symm.trans ev_5.symm)) ?_
            refine lv_iadd hx hb dX4_buy_140 ?_
            refine lv_topi (fun v_8 ev_8 => ?_)
            refine pt_X4 hx hb hts hown hK hP hD hS 88 (hW_w_2.o tX_88) 11 (by decide) wd_584 rfl rfl (ty := .int) (v := .int v_8) (by decide +kernel) rfl rfl (hW_w_2.ll tX_88 (Nat.le_of_ble_eq_true rfl)) dX4_buy_141 (fun H locs hP hD hS => fr_w (hW_w_2.sI tX_88 rfl (In_any _)) hP hD (fun w_9 ew_9 hW_w_9 hP hD => ?_))
            refine lv_aload_n hx hb dX4_buy_144 rfl (lv_at hl 1 rfl) ?_
            refine gt_X4 hx hb hts hown hK hP 88 (hW_w_9.o tX_88) 8 (by decide) wd_578 rfl (hW_w_9.fr tX_88 rfl) dX4_buy_145 ?_
            refine lv_iload hx hb dX4_buy_148 (lv_at hl 0 rfl) ?_
            refine lv_dup2_11 hx hb dX4_buy_150 rfl rfl ?_
            refine va_iald hx hb hK hP 95 0 (hW_w_9.a tX_95) rfl (in_I (R_ne_l i_r_3 (In_lit (n := (-1)) (by decide) (by decide) : In (-1) (-1) (-1)) c_4 (by decide) : In 0 39 r_3) (by decide)) dX4_buy_151 ?_
            refine lv_topi (fun v_10 ev_10 => ?_)
            refine lv_aload_n hx hb dX4_buy_152 rfl (lv_at hl 1 rfl) ?_
            refine gt_X4 hx hb hts hown hK hP 88 (hW_w_9.o tX_88) 12 (by decide) wd_586 rfl (hW_w_9.fr tX_88 rfl) dX4_buy_153 ?_
            refine lv_iload hx hb dX4_buy_156 (lv_at hl 0 rfl) ?_
            refine va_iald hx hb hK hP 97 0 (hW_w_9.a tX_97) rfl (in_I (R_ne_l i_r_3 (In_lit (n := (-1)) (by decide) (by decide) : In (-1) (-1) (-1)) c_4 (by decide) : In 0 39 r_3) (by decide)) dX4_buy_158 ?_
            refine lv_topi (fun v_11 ev_11 => ?_)
            refine lv_ior hx hb dX4_buy_159 ?_
            refine lv_topi (fun v_12 ev_12 => ?_)
            refine va_iast hx hb hK hP hD hS 95 0 (hW_w_9.a tX_95) rfl (in_I (R_ne_l i_r_3 (In_lit (n := (-1)) (by decide) (by decide) : In (-1) (-1) (-1)) c_4 (by decide) : In 0 39 r_3) (by decide)) dX4_buy_160 (fun H locs hP hD hS => fr_w (hW_w_9.uA tX_95 (In_any _)) hP hD (fun w_13 ew_13 hW_w_13 hP hD => ?_))
            refine lv_aload_n hx hb dX4_buy_161 rfl (lv_at hl 1 rfl) ?_
            refine gt_X4 hx hb hts hown hK hP 88 (hW_w_13.o tX_88) 13 (by decide) wd_587 rfl (hW_w_13.fr tX_88 rfl) dX4_buy_162 ?_
            refine lv_iload hx hb dX4_buy_165 (lv_at hl 0 rfl) ?_
            refine lv_iconst (v := (-1)) hx hb dX4_buy_167 (by decide) ?_
            refine va_iast hx hb hK hP hD hS 98 0 (hW_w_13.a tX_98) rfl (in_I (R_ne_l i_r_3 (In_lit (n := (-1)) (by decide) (by decide) : In (-1) (-1) (-1)) c_4 (by decide) : In 0 39 r_3) (by decide)) dX4_buy_168 (fun H locs hP hD hS => fr_w (hW_w_13.uA tX_98 (In_lit (n := (-1)) (by decide) (by decide) : In (-2147483648) 2147483647 (-1))) hP hD (fun w_14 ew_14 hW_w_14 hP hD => ?_))
            refine lv_iinc (v := (x90_3 + 1)) (lv' := [(3, .int (x90_3 + 1)), (4, .int r_3), (0, .ref (q 88)), (1, .int p1), (2, .ref (q 1))]) hx hb dX4_buy_169 hl (k := 4) rfl (rfl) (by decide) rfl (fun ls hl => ?_)
            refine lv_goto (tgt := 90) hx hb dX4_buy_172 (by decide) ?_
            exact ih90 (x90_3 + 1) w_14 _ _ ls (mu_inc hmu90 (R_nle_r (hW_w.fin tX_88 rfl : In 0 40 (fI w 88 1)) i_x90_3 c_1 (by decide) : In 0 39 x90_3) (In_lit (n := 1) (by decide) (by decide) : In 1 1 1) (by decide)) hW_w_14 ((((hM_w90.tr hs_w_2 (by decide)).sf (hW_w_2.lt tX_88) ew_9 (by decide)).sa ew_13 (by decide)).sa ew_14 (by decide)) i_p1 (In_w ((In_add (y := 1) (R_nle_r (hW_w.fin tX_88 rfl : In 0 40 (fI w 88 1)) i_x90_3 c_1 (by decide) : In 0 39 x90_3) (In_lit (n := 1) (by decide) (by decide) : In 1 1 1) (by decide)) : In 1 40 (x90_3 + 1)) (by decide) : In 0 40 (x90_3 + 1)) hP hD hS (lv_sub hl [2, 3, 4, 0] rfl)
          · refine lv_iload_n hx hb dX4_buy_126 rfl (lv_at hl 4 rfl) ?_
            exact hret _ _ _ _ _ _ hP hD hS dX4_buy_127 ⟨hW_w_2, (hM_w90.tr hs_w_2 (by decide)), (In_w (R_nle_r (hW_w.fin tX_88 rfl : In 0 40 (fI w 88 1)) i_x90_3 c_1 (by decide) : In 0 39 x90_3) (by decide) : In 0 40 x90_3)⟩
  have J2 : ∀ (N : Nat) (x2_3 : Int32) (w2 : va_W) (H : Heap) (locs : List Loc) (ls : Array Slot), (40 - x2_3.toInt).toNat < N → HT q (TX q cI cJ cZ bb bs bp) w2 → Sm [88, 95, 97, 98, 99, 100, 101] [(88, 11)] w w2 → (In 0 100000 p1) → (In 0 40 x2_3) → va_P D vwCl w2 H → va_D A w2 → va_S A s.heap H locs → lv_has ls 5 [(0, .ref (q 88)), (1, .int p1), (2, .ref (q 1)), (3, .int x2_3)] → W p l e R s m args below meth c H locs 0 0 Q (F0 m 2 ls []) := by
    intro N
    induction N with
    | zero => intro x2_3 w2 H locs ls hmu; exact absurd hmu (Nat.not_lt_zero _)
    | succ N ih2 =>
      intro x2_3 w2 H locs ls hmu2 hW_w2 hM_w2 i_x2_1 i_x2_3 hP hD hS hl
      have J76 : ∀ (x76_4 : Int32) (y76_0 : Int32) (w76 : va_W) (H : Heap) (locs : List Loc) (ls : Array Slot), HT q (TX q cI cJ cZ bb bs bp) w76 → Sm [88, 95, 97, 98, 99, 100, 101] [(88, 11)] w w76 → (In 0 100000 p1) → (In 0 39 x2_3) → (In (-1) 1023 x76_4) → (In 0 39 x2_3) → (In 1 40 (fI w76 88 1)) → va_P D vwCl w76 H → va_D A w76 → va_S A s.heap H locs → lv_has ls 5 [(0, .ref (q 88)), (1, .int p1), (2, .ref (q 1)), (3, .int x2_3), (4, .int x76_4)] → W p l e R s m args below meth c H locs 0 0 Q (F0 m 76 ls [.int y76_0, .int x2_3, .ref (q 97)]) := by
        intro x76_4 y76_0 w76 H locs ls hW_w76 hM_w76 i_x76_1 i_x76_3 i_x76_4 i_y76_1 g76_88_1 hP hD hS hl
        refine va_iast hx hb hK hP hD hS 97 0 (hW_w76.a tX_97) rfl (in_I i_x76_3 (by decide)) dX4_buy_76 (fun H locs hP hD hS => fr_w (hW_w76.uA tX_97 (In_any _)) hP hD (fun w_15 ew_15 hW_w_15 hP hD => ?_))
        refine lv_iinc (v := (x2_3 + 1)) (lv' := [(3, .int (x2_3 + 1)), (0, .ref (q 88)), (1, .int p1), (2, .ref (q 1)), (4, .int x76_4)]) hx hb dX4_buy_77 hl (k := 3) rfl (rfl) (by decide) rfl (fun ls hl => ?_)
        refine lv_goto (tgt := 2) hx hb dX4_buy_80 (by decide) ?_
        exact ih2 (x2_3 + 1) w_15 _ _ ls (mu_inc hmu2 i_x76_3 (In_lit (n := 1) (by decide) (by decide) : In 1 1 1) (by decide)) hW_w_15 (hM_w76.sa ew_15 (by decide)) i_p1 (In_w ((In_add (y := 1) i_x76_3 (In_lit (n := 1) (by decide) (by decide) : In 1 1 1) (by decide)) : In 1 40 (x2_3 + 1)) (by decide) : In 0 40 (x2_3 + 1)) hP hD hS (lv_sub hl [1, 2, 3, 0] rfl)
      have J53 : ∀ (x53_4 : Int32) (y53_0 : Int32) (w53 : va_W) (H : Heap) (locs : List Loc) (ls : Array Slot), HT q (TX q cI cJ cZ bb bs bp) w53 → Sm [88, 95, 97, 98, 99, 100, 101] [(88, 11)] w w53 → (In 0 100000 p1) → (In 0 39 x2_3) → (In (-1) 1023 x53_4) → (In 0 39 x2_3) → (In 1 40 (fI w53 88 1)) → va_P D vwCl w53 H → va_D A w53 → va_S A s.heap H locs → lv_has ls 5 [(0, .ref (q 88)), (1, .int p1), (2, .ref (q 1)), (3, .int x2_3), (4, .int x53_4)] → W p l e R s m args below meth c H locs 0 0 Q (F0 m 53 ls [.int y53_0, .int x2_3, .ref (q 98)]) := by
        intro x53_4 y53_0 w53 H locs ls hW_w53 hM_w53 i_x53_1 i_x53_3 i_x53_4 i_y53_1 g53_88_1 hP hD hS hl
        refine va_iast hx hb hK hP hD hS 98 0 (hW_w53.a tX_98) rfl (in_I i_x53_3 (by decide)) dX4_buy_53 (fun H locs hP hD hS => fr_w (hW_w53.uA tX_98 (In_any _)) hP hD (fun w_16 ew_16 hW_w_16 hP hD => ?_))
        refine lv_aload_n hx hb dX4_buy_54 rfl (lv_at hl 0 rfl) ?_
        refine gt_X4 hx hb hts hown hK hP 88 (hW_w_16.o tX_88) 12 (by decide) wd_586 rfl (hW_w_16.fr tX_88 rfl) dX4_buy_55 ?_
        refine lv_iload_n hx hb dX4_buy_58 rfl (lv_at hl 3 rfl) ?_
        refine lv_iload hx hb dX4_buy_59 (lv_at hl 4 rfl) ?_
        refine lv_iconst (v := (-1)) hx hb dX4_buy_61 (by decide) ?_
        refine lv_icmp_ne (tgt := 69) hx hb dX4_buy_62 (by decide) (fun c_17 => ?_) (fun c_17 => ?_)
        · refine lv_aload_n hx hb dX4_buy_69 rfl (lv_at hl 0 rfl) ?_
          refine gt_X4 hx hb hts hown hK hP 88 (hW_w_16.o tX_88) 14 (by decide) wd_588 rfl (hW_w_16.fr tX_88 rfl) dX4_buy_70 ?_
          refine lv_iload hx hb dX4_buy_73 (lv_at hl 4 rfl) ?_
          refine va_iald hx hb hK hP 99 0 (hW_w_16.a tX_99) rfl (in_I (R_ne_l i_x53_4 (In_lit (n := (-1)) (by decide) (by decide) : In (-1) (-1) (-1)) c_17 (by decide) : In 0 1023 x53_4) (by decide)) dX4_buy_75 ?_
          refine lv_topi (fun v_18 ev_18 => ?_)
          exact J76 x53_4 v_18 w_16 _ _ ls hW_w_16 (hM_w53.sa ew_16 (by decide)) i_p1 i_x53_3 (In_w (R_ne_l i_x53_4 (In_lit (n := (-1)) (by decide) (by decide) : In (-1) (-1) (-1)) c_17 (by decide) : In 0 1023 x53_4) (by decide) : In (-1) 1023 x53_4) i_x53_3 (In_of ((fI_cg (st_ne ew_16 (by decide))).trans (hM_w53.2 88 1 (by decide) (by decide))) (In_of (hM_w53.2 88 1 (by decide) (by decide)).symm g53_88_1)) hP hD hS (lv_sub hl [0, 1, 2, 3, 4] rfl)
        · refine lv_iconst (v := 0) hx hb dX4_buy_65 (by decide) ?_
          refine lv_goto (tgt := 76) hx hb dX4_buy_66 (by decide) ?_
          exact J76 x53_4 0 w_16 _ _ ls hW_w_16 (hM_w53.sa ew_16 (by decide)) i_p1 i_x53_3 (In_w (R_eq_l i_x53_4 (In_lit (n := (-1)) (by decide) (by decide) : In (-1) (-1) (-1)) c_17 (by decide) : In (-1) (-1) x53_4) (by decide) : In (-1) 1023 x53_4) i_x53_3 (In_of ((fI_cg (st_ne ew_16 (by decide))).trans (hM_w53.2 88 1 (by decide) (by decide))) (In_of (hM_w53.2 88 1 (by decide) (by decide)).symm g53_88_1)) hP hD hS (lv_sub hl [0, 1, 2, 3, 4] rfl)
      have J29 : ∀ (y29_0 : Int32) (w29 : va_W) (H : Heap) (locs : List Loc) (ls : Array Slot), HT q (TX q cI cJ cZ bb bs bp) w29 → Sm [88, 95, 97, 98, 99, 100, 101] [(88, 11)] w w29 → (In 0 100000 p1) → (In 0 39 x2_3) → (In (-1) 1023 y29_0) → (In 1 40 (fI w29 88 1)) → va_P D vwCl w29 H → va_D A w29 → va_S A s.heap H locs → lv_has ls 5 [(0, .ref (q 88)), (1, .int p1), (2, .ref (q 1)), (3, .int x2_3)] → W p l e R s m args below meth c H locs 0 0 Q (F0 m 29 ls [.int y29_0]) := by
        intro y29_0 w29 H locs ls hW_w29 hM_w29 i_x29_1 i_x29_3 i_y29_0 g29_88_1 hP hD hS hl
        refine lv_istore (lv' := [(4, .int y29_0), (0, .ref (q 88)), (1, .int p1), (2, .ref (q 1)), (3, .int x2_3)]) hx hb dX4_buy_29 hl (by decide) rfl (fun ls hl => ?_)
        refine lv_aload_n hx hb dX4_buy_31 rfl (lv_at hl 1 rfl) ?_
        refine gt_X4 hx hb hts hown hK hP 88 (hW_w29.o tX_88) 13 (by decide) wd_587 rfl (hW_w29.fr tX_88 rfl) dX4_buy_32 ?_
        refine lv_iload_n hx hb dX4_buy_35 rfl (lv_at hl 4 rfl) ?_
        refine lv_iload hx hb dX4_buy_36 (lv_at hl 0 rfl) ?_
        refine lv_iconst (v := (-1)) hx hb dX4_buy_38 (by decide) ?_
        refine lv_icmp_ne (tgt := 46) hx hb dX4_buy_39 (by decide) (fun c_19 => ?_) (fun c_19 => ?_)
        · refine lv_aload_n hx hb dX4_buy_46 rfl (lv_at hl 1 rfl) ?_
          refine gt_X4 hx hb hts hown hK hP 88 (hW_w29.o tX_88) 16 (by decide) wd_590 rfl (hW_w29.fr tX_88 rfl) dX4_buy_47 ?_
          refine lv_iload hx hb dX4_buy_50 (lv_at hl 0 rfl) ?_
          refine va_iald hx hb hK hP 101 0 (hW_w29.a tX_101) rfl (in_I (R_ne_l i_y29_0 (In_lit (n := (-1)) (by decide) (by decide) : In (-1) (-1) (-1)) c_19 (by decide) : In 0 1023 y29_0) (by decide)) dX4_buy_52 ?_
          refine lv_topi (fun v_20 ev_20 => ?_)
          exact J53 y29_0 v_20 w29 _ _ ls hW_w29 hM_w29 i_p1 i_x29_3 (In_w (R_ne_l i_y29_0 (In_lit (n := (-1)) (by decide) (by decide) : In (-1) (-1) (-1)) c_19 (by decide) : In 0 1023 y29_0) (by decide) : In (-1) 1023 y29_0) i_x29_3 (In_of (hM_w29.2 88 1 (by decide) (by decide)) (In_of (hM_w29.2 88 1 (by decide) (by decide)).symm g29_88_1)) hP hD hS (lv_sub hl [1, 2, 3, 4, 0] rfl)
        · refine lv_iconst (v := (-1)) hx hb dX4_buy_42 (by decide) ?_
          refine lv_goto (tgt := 53) hx hb dX4_buy_43 (by decide) ?_
          exact J53 y29_0 (-1) w29 _ _ ls hW_w29 hM_w29 i_p1 i_x29_3 (In_w (R_eq_l i_y29_0 (In_lit (n := (-1)) (by decide) (by decide) : In (-1) (-1) (-1)) c_19 (by decide) : In (-1) (-1) y29_0) (by decide) : In (-1) 1023 y29_0) i_x29_3 (In_of (hM_w29.2 88 1 (by decide) (by decide)) (In_of (hM_w29.2 88 1 (by decide) (by decide)).symm g29_88_1)) hP hD hS (lv_sub hl [1, 2, 3, 4, 0] rfl)
      refine lv_iload_n hx hb dX4_buy_2 rfl (lv_at hl 3 rfl) ?_
      refine lv_aload_n hx hb dX4_buy_3 rfl (lv_at hl 0 rfl) ?_
      refine gt_X4 hx hb hts hown hK hP 88 (hW_w2.o tX_88) 1 (by decide) wd_569 rfl (hW_w2.fi tX_88 rfl) dX4_buy_4 ?_
      refine tov (v := (fI w 88 1)) (hM_w2.2 88 1 (by decide) (by decide)) ?_
      refine lv_icmp_ge (tgt := 83) hx hb dX4_buy_7 (by decide) (fun c_21 => ?_) (fun c_21 => ?_)
      · refine lv_aload_n hx hb dX4_buy_83 rfl (lv_at hl 0 rfl) ?_
        refine lv_iconst (v := 0) hx hb dX4_buy_84 (by decide) ?_
        refine pt_X4 hx hb hts hown hK hP hD hS 88 (hW_w2.o tX_88) 11 (by decide) wd_584 rfl rfl (ty := .int) (v := .int 0) (by decide +kernel) rfl rfl (hW_w2.ll tX_88 (Nat.le_of_ble_eq_true rfl)) dX4_buy_85 (fun H locs hP hD hS => fr_w (hW_w2.sI tX_88 rfl (In_lit (n := 0) (by decide) (by decide) : In (-2147483648) 2147483647 0)) hP hD (fun w_22 ew_22 hW_w_22 hP hD => ?_))
        refine lv_iconst (v := 0) hx hb dX4_buy_88 (by decide) ?_
        refine lv_istore_n (lv' := [(3, .int 0), (0, .ref (q 88)), (1, .int p1), (2, .ref (q 1))]) hx hb dX4_buy_89 rfl hl (by decide) rfl (fun ls hl => ?_)
        exact J90 _ 0 w_22 _ _ ls (Nat.lt_succ_self _) hW_w_22 (hM_w2.sf (hW_w2.lt tX_88) ew_22 (by decide)) i_p1 (In_lit (n := 0) (by decide) (by decide) : In 0 40 0) hP hD hS (lv_sub hl [1, 2, 3, 0] rfl)
      · refine lv_aload_n hx hb dX4_buy_10 rfl (lv_at hl 0 rfl) ?_
        refine lv_iload_n hx hb dX4_buy_11 rfl (lv_at hl 3 rfl) ?_
        refine lv_aload_n hx hb dX4_buy_12 rfl (lv_at hl 2 rfl) ?_
        refine kW_i ⟨rfl, rfl⟩ hP hD hS hA (rW_V (As := [.int x2_3, .ref (q 1)]) (rest := []) hx hb hml hown hts hK hE hP hD (k_X4_isRight_1 l D cI cJ cZ q bb bs bp w2 hW_w2 x2_3 (R_nle_r (hW_w.fin tX_88 rfl : In 0 40 (fI w 88 1)) i_x2_3 c_21 (by decide) : In 0 39 x2_3) _) ⟨⟨rfl, rfl⟩, rfl, rfl⟩ sv_X4_123 ⟨(Nat.le_trans (by decide) hR.1), (Nat.le_trans (by decide) hR.2)⟩ 88 4 (hW_w2.o tX_88) rfl rfl rfl hl.1 rfl (Nat.le_of_ble_eq_true rfl) dX4_buy_13) (fun r_24 w_23 H locs hw_w_23 hP hD hS => ?_)
        obtain ⟨hW_w_23, hs_w_23, i_r_24⟩ := hw_w_23
        refine lv_if_eq (tgt := 23) hx hb dX4_buy_16 (by decide) (fun c_25 => ?_) (fun c_25 => ?_)
        · refine lv_aload_n hx hb dX4_buy_23 rfl (lv_at hl 0 rfl) ?_
          refine lv_iload_n hx hb dX4_buy_24 rfl (lv_at hl 3 rfl) ?_
          refine lv_aload_n hx hb dX4_buy_25 rfl (lv_at hl 2 rfl) ?_
          refine kW_i ⟨rfl, rfl⟩ hP hD hS hA (rW_V (As := [.int x2_3, .ref (q 1)]) (rest := []) hx hb hml hown hts hK hE hP hD (k_X4_cheapest_1 l D cI cJ cZ q bb bs bp w_23 hW_w_23 x2_3 (R_nle_r (hW_w.fin tX_88 rfl : In 0 40 (fI w 88 1)) i_x2_3 c_21 (by decide) : In 0 39 x2_3) _) ⟨⟨rfl, rfl⟩, rfl, rfl⟩ sv_X4_127 ⟨(Nat.le_trans (by decide) hR.1), (Nat.le_trans (by decide) hR.2)⟩ 88 4 (hW_w_23.o tX_88) rfl rfl rfl hl.1 rfl (Nat.le_of_ble_eq_true rfl) dX4_buy_26) (fun r_27 w_26 H locs hw_w_26 hP hD hS => ?_)
          obtain ⟨hW_w_26, hs_w_26, i_r_27⟩ := hw_w_26
          exact J29 r_27 w_26 _ _ ls hW_w_26 ((hM_w2.tr hs_w_23 (by decide)).tr hs_w_26 (by decide)) i_p1 (R_nle_r (hW_w.fin tX_88 rfl : In 0 40 (fI w 88 1)) i_x2_3 c_21 (by decide) : In 0 39 x2_3) i_r_27 (In_of ((hs_w_26.gI (by decide)).trans ((hs_w_23.gI (by decide)).trans (hM_w2.2 88 1 (by decide) (by decide)))) (R_nle_l (hW_w.fin tX_88 rfl : In 0 40 (fI w 88 1)) i_x2_3 c_21 (by decide) : In 1 40 (fI w 88 1))) hP hD hS (lv_sub hl [0, 1, 2, 3] rfl)
        · refine lv_iconst (v := (-1)) hx hb dX4_buy_19 (by decide) ?_
          refine lv_goto (tgt := 29) hx hb dX4_buy_20 (by decide) ?_
          exact J29 (-1) w_23 _ _ ls hW_w_23 (hM_w2.tr hs_w_23 (by decide)) i_p1 (R_nle_r (hW_w.fin tX_88 rfl : In 0 40 (fI w 88 1)) i_x2_3 c_21 (by decide) : In 0 39 x2_3) (In_lit (n := (-1)) (by decide) (by decide) : In (-1) 1023 (-1)) (In_of ((hs_w_23.gI (by decide)).trans (hM_w2.2 88 1 (by decide) (by decide))) (R_nle_l (hW_w.fin tX_88 rfl : In 0 40 (fI w 88 1)) i_x2_3 c_21 (by decide) : In 1 40 (fI w 88 1))) hP hD hS (lv_sub hl [0, 1, 2, 3] rfl)
  refine lv_iconst (v := 0) hx hb dX4_buy_0 (by decide) ?_
  refine lv_istore_n (lv' := [(3, .int 0), (0, .ref (q 88)), (1, .int p1), (2, .ref (q 1))]) hx hb dX4_buy_1 rfl hl (by decide) rfl (fun ls hl => ?_)
  exact J2 _ 0 w _ _ ls (Nat.lt_succ_self _) hW_w Sm.rf i_p1 (In_lit (n := 0) (by decide) (by decide) : In 0 40 0) hP hD hS (lv_sub hl [1, 2, 3, 0] rfl)
set_option maxRecDepth 100000 in
set_option maxHeartbeats 8000000 in
theorem k_X11_spend (l : Launch) (D : va_G) (cI cJ cZ : ClassId) (q : Nat → Nat) (bp : Nat) (w : va_W) (hW_w : HT q (TX q cI cJ cZ 1 16 bp) w) (p1 : Int32) : Con_i l yX11_spend cX11_spend 2 (some .int) ({ frames := 4, cells := 0, slots := 0, locals := 104 }) D cI cJ cZ eW [.ref (q 0), .int p1] w (fun (r : Int32) (w1 : va_W) => HT q (TX q cI cJ cZ 1 16 bp) w1 ∧ Sm [88, 95, 97, 98, 99, 100, 101] [(88, 11)] w w1 ∧ In (-1) 40 r) := by
  refine eQ_i rfl (by decide) (Nat.le_of_ble_eq_true rfl) ⟨rfl, rfl⟩ ?_
  intro p e R s m args below meth c A Q hx hb hml hown hts hK hE hA hR hret hP hD hS ls hl
  have hown : s.vm.findClass RX11 = some m.cls := hown
  have hl : lv_has ls 2 [(0, .ref (q 0)), (1, .int p1)] := hl
  refine lv_aload_n hx hb dX11_spend_0 rfl (lv_at hl 0 rfl) ?_
  refine gt_X11 hx hb hts hown hK hP 0 (hW_w.o tX_0) 10 (by decide) wd_683 rfl (hW_w.fr tX_0 rfl) dX11_spend_1 ?_
  refine gt_X4 hx hb hts hown hK hP 88 (hW_w.o tX_88) 0 (by decide) wd_567 rfl (hW_w.fi tX_88 rfl) dX11_spend_4 ?_
  refine lv_if_eq (tgt := 32) hx hb dX11_spend_7 (by decide) (fun c_1 => ?_) (fun c_1 => ?_)
  · refine lv_iconst (v := (-1)) hx hb dX11_spend_32 (by decide) ?_
    exact hret _ _ _ _ _ _ hP hD hS dX11_spend_33 ⟨hW_w, Sm.rf, (In_lit (n := (-1)) (by decide) (by decide) : In (-1) 40 (-1))⟩
  · refine lv_aload_n hx hb dX11_spend_10 rfl (lv_at hl 0 rfl) ?_
    refine gt_X11 hx hb hts hown hK hP 0 (hW_w.o tX_0) 10 (by decide) wd_683 rfl (hW_w.fr tX_0 rfl) dX11_spend_11 ?_
    refine gt_X4 hx hb hts hown hK hP 88 (hW_w.o tX_88) 11 (by decide) wd_585 rfl (hW_w.fi tX_88 rfl) dX11_spend_14 ?_
    refine lv_iconst (v := (-1)) hx hb dX11_spend_17 (by decide) ?_
    refine lv_icmp_ne (tgt := 32) hx hb dX11_spend_18 (by decide) (fun c_2 => ?_) (fun c_2 => ?_)
    · refine lv_iconst (v := (-1)) hx hb dX11_spend_32 (by decide) ?_
      exact hret _ _ _ _ _ _ hP hD hS dX11_spend_33 ⟨hW_w, Sm.rf, (In_lit (n := (-1)) (by decide) (by decide) : In (-1) 40 (-1))⟩
    · refine lv_iload_n hx hb dX11_spend_21 rfl (lv_at hl 1 rfl) ?_
      refine lv_iconst (v := 0) hx hb dX11_spend_22 (by decide) ?_
      refine lv_ldcw hx hb hown (hts _ wd_1312) dX11_spend_23 ?_
      refine kW_i ⟨rfl, rfl⟩ hP hD hS hA (rW_S (As := [.int p1, .int 0, .int 100000]) (rest := []) hx hb hml hown hts hK hE hP hD (k_X11_within l D cI cJ cZ q 1 16 bp w hW_w p1 0 100000 (In_lit (n := 0) (by decide) (by decide) : In 0 278 0) (In_lit (n := 100000) (by decide) (by decide) : In 2 100000 100000) _) ⟨⟨rfl, rfl⟩, rfl, rfl⟩ sv_X11_168 ⟨(Nat.le_trans (by decide) hR.1), (Nat.le_trans (by decide) hR.2)⟩ rfl hl.1 rfl (Nat.le_of_ble_eq_true rfl) dX11_spend_26) (fun r_4 w_3 H locs hw_w_3 hP hD hS => ?_)
      obtain ⟨hW_w_3, hs_w_3, i_r_4, h_5, h_6⟩ := hw_w_3
      refine lv_if_ne (tgt := 34) hx hb dX11_spend_29 (by decide) (fun c_7 => ?_) (fun c_7 => ?_)
      · refine lv_aload_n hx hb dX11_spend_34 rfl (lv_at hl 0 rfl) ?_
        refine gt_X11 hx hb hts hown hK hP 0 (hW_w_3.o tX_0) 10 (by decide) wd_683 rfl (hW_w_3.fr tX_0 rfl) dX11_spend_35 ?_
        refine lv_iload_n hx hb dX11_spend_38 rfl (lv_at hl 1 rfl) ?_
        refine lv_aload_n hx hb dX11_spend_39 rfl (lv_at hl 0 rfl) ?_
        refine gt_X11 hx hb hts hown hK hP 0 (hW_w_3.o tX_0) 0 (by decide) wd_673 rfl (hW_w_3.fr tX_0 rfl) dX11_spend_40 ?_
        refine kW_i ⟨rfl, rfl⟩ hP hD hS hA (rW_V (As := [.int p1, .ref (q 1)]) (rest := []) hx hb hml hown hts hK hE hP hD (k_X4_buy_1 l D cI cJ cZ q 1 16 bp w_3 hW_w_3 p1 (h_5 c_7) _) ⟨⟨rfl, rfl⟩, rfl, rfl⟩ sv_X11_304 ⟨(Nat.le_trans (by decide) hR.1), (Nat.le_trans (by decide) hR.2)⟩ 88 4 (hW_w_3.o tX_88) rfl rfl rfl hl.1 rfl (Nat.le_of_ble_eq_true rfl) dX11_spend_43) (fun r_9 w_8 H locs hw_w_8 hP hD hS => ?_)
        obtain ⟨hW_w_8, hs_w_8, i_r_9⟩ := hw_w_8
        exact hret _ _ _ _ _ _ hP hD hS dX11_spend_46 ⟨hW_w_8, ((Sm.rf.tr hs_w_3 (by decide)).tr hs_w_8 (by decide)), (In_w i_r_9 (by decide) : In (-1) 40 r_9)⟩
      · refine lv_iconst (v := (-1)) hx hb dX11_spend_32 (by decide) ?_
        exact hret _ _ _ _ _ _ hP hD hS dX11_spend_33 ⟨hW_w_3, (Sm.rf.tr hs_w_3 (by decide)), (In_lit (n := (-1)) (by decide) (by decide) : In (-1) 40 (-1))⟩
set_option maxRecDepth 100000 in
set_option maxHeartbeats 8000000 in
theorem k_X11_spent (l : Launch) (D : va_G) (cI cJ cZ : ClassId) (q : Nat → Nat) (bp : Nat) (w : va_W) (hW_w : HT q (TX q cI cJ cZ 1 16 bp) w) : Con_i l yX11_spent cX11_spent 1 (some .int) ({ frames := 0, cells := 0, slots := 0, locals := 0 }) D cI cJ cZ eW [.ref (q 0)] w (fun (r : Int32) (w1 : va_W) => HT q (TX q cI cJ cZ 1 16 bp) w1 ∧ Sm [] [] w w1) := by
  refine eQ_i rfl (by decide) (Nat.le_of_ble_eq_true rfl) ⟨rfl, rfl⟩ ?_
  intro p e R s m args below meth c A Q hx hb hml hown hts hK hE hA hR hret hP hD hS ls hl
  have hown : s.vm.findClass RX11 = some m.cls := hown
  have hl : lv_has ls 1 [(0, .ref (q 0))] := hl
  refine lv_aload_n hx hb dX11_spent_0 rfl (lv_at hl 0 rfl) ?_
  refine gt_X11 hx hb hts hown hK hP 0 (hW_w.o tX_0) 10 (by decide) wd_683 rfl (hW_w.fr tX_0 rfl) dX11_spent_1 ?_
  refine gt_X4 hx hb hts hown hK hP 88 (hW_w.o tX_88) 0 (by decide) wd_567 rfl (hW_w.fi tX_88 rfl) dX11_spent_4 ?_
  refine lv_if_eq (tgt := 20) hx hb dX11_spent_7 (by decide) (fun c_1 => ?_) (fun c_1 => ?_)
  · refine lv_iconst (v := (-1)) hx hb dX11_spent_20 (by decide) ?_
    exact hret _ _ _ _ _ _ hP hD hS dX11_spent_21 ⟨hW_w, Sm.rf⟩
  · refine lv_aload_n hx hb dX11_spent_10 rfl (lv_at hl 0 rfl) ?_
    refine gt_X11 hx hb hts hown hK hP 0 (hW_w.o tX_0) 10 (by decide) wd_683 rfl (hW_w.fr tX_0 rfl) dX11_spent_11 ?_
    refine gt_X4 hx hb hts hown hK hP 88 (hW_w.o tX_88) 11 (by decide) wd_585 rfl (hW_w.fi tX_88 rfl) dX11_spent_14 ?_
    refine lv_goto (tgt := 21) hx hb dX11_spent_17 (by decide) ?_
    exact hret _ _ _ _ _ _ hP hD hS dX11_spent_21 ⟨hW_w, Sm.rf⟩
set_option maxRecDepth 100000 in
set_option maxHeartbeats 8000000 in
theorem k_X4_countRight_1 (l : Launch) (D : va_G) (cI cJ cZ : ClassId) (q : Nat → Nat) (bb bs bp : Nat) (w : va_W) (hW_w : HT q (TX q cI cJ cZ bb bs bp) w) : Con_i l yX4_countRight cX4_countRight 4 (some .int) ({ frames := 3, cells := 0, slots := 0, locals := 70 }) D cI cJ cZ eW [.ref (q 88), .ref (q 1)] w (fun (r : Int32) (w1 : va_W) => HT q (TX q cI cJ cZ bb bs bp) w1 ∧ Sm [] [] w w1) := by
  refine eQ_i rfl (by decide) (Nat.le_of_ble_eq_true rfl) ⟨rfl, rfl⟩ ?_
  intro p e R s m args below meth c A Q hx hb hml hown hts hK hE hA hR hret hP hD hS ls hl
  have hown : s.vm.findClass RX4 = some m.cls := hown
  have hl : lv_has ls 4 [(0, .ref (q 88)), (1, .ref (q 1))] := hl
  have J4 : ∀ (N : Nat) (x4_2 : Int32) (x4_3 : Int32) (w4 : va_W) (H : Heap) (locs : List Loc) (ls : Array Slot), (40 - x4_3.toInt).toNat < N → HT q (TX q cI cJ cZ bb bs bp) w4 → Sm [] [] w w4 → (In 0 40 x4_3) → va_P D vwCl w4 H → va_D A w4 → va_S A s.heap H locs → lv_has ls 4 [(0, .ref (q 88)), (1, .ref (q 1)), (2, .int x4_2), (3, .int x4_3)] → W p l e R s m args below meth c H locs 0 0 Q (F0 m 4 ls []) := by
    intro N
    induction N with
    | zero => intro x4_2 x4_3 w4 H locs ls hmu; exact absurd hmu (Nat.not_lt_zero _)
    | succ N ih4 =>
      intro x4_2 x4_3 w4 H locs ls hmu4 hW_w4 hM_w4 i_x4_3 hP hD hS hl
      have J27 : ∀ (y27_0 : Int32) (w27 : va_W) (H : Heap) (locs : List Loc) (ls : Array Slot), HT q (TX q cI cJ cZ bb bs bp) w27 → Sm [] [] w w27 → (In 0 39 x4_3) → (In 0 1 y27_0) → (In 1 40 (fI w27 88 1)) → va_P D vwCl w27 H → va_D A w27 → va_S A s.heap H locs → lv_has ls 4 [(0, .ref (q 88)), (1, .ref (q 1)), (2, .int x4_2), (3, .int x4_3)] → W p l e R s m args below meth c H locs 0 0 Q (F0 m 27 ls [.int y27_0, .int x4_2]) := by
        intro y27_0 w27 H locs ls hW_w27 hM_w27 i_x27_3 i_y27_0 g27_88_1 hP hD hS hl
        refine lv_iadd hx hb dX4_countRight_27 ?_
        refine lv_topi (fun v_1 ev_1 => ?_)
        refine lv_istore_n (lv' := [(2, .int v_1), (0, .ref (q 88)), (1, .ref (q 1)), (3, .int x4_3)]) hx hb dX4_countRight_28 rfl hl (by decide) rfl (fun ls hl => ?_)
        refine lv_iinc (v := (x4_3 + 1)) (lv' := [(3, .int (x4_3 + 1)), (2, .int v_1), (0, .ref (q 88)), (1, .ref (q 1))]) hx hb dX4_countRight_29 hl (k := 3) rfl (rfl) (by decide) rfl (fun ls hl => ?_)
        refine lv_goto (tgt := 4) hx hb dX4_countRight_32 (by decide) ?_
        exact ih4 v_1 (x4_3 + 1) w27 _ _ ls (mu_inc hmu4 i_x27_3 (In_lit (n := 1) (by decide) (by decide) : In 1 1 1) (by decide)) hW_w27 hM_w27 (In_w ((In_add (y := 1) i_x27_3 (In_lit (n := 1) (by decide) (by decide) : In 1 1 1) (by decide)) : In 1 40 (x4_3 + 1)) (by decide) : In 0 40 (x4_3 + 1)) hP hD hS (lv_sub hl [2, 3, 1, 0] rfl)
      refine lv_iload_n hx hb dX4_countRight_4 rfl (lv_at hl 3 rfl) ?_
      refine lv_aload_n hx hb dX4_countRight_5 rfl (lv_at hl 0 rfl) ?_
      refine gt_X4 hx hb hts hown hK hP 88 (hW_w4.o tX_88) 1 (by decide) wd_569 rfl (hW_w4.fi tX_88 rfl) dX4_countRight_6 ?_
      refine tov (v := (fI w 88 1)) (hM_w4.gI (by decide)) ?_
      refine lv_icmp_ge (tgt := 35) hx hb dX4_countRight_9 (by decide) (fun c_2 => ?_) (fun c_2 => ?_)
      · refine lv_iload_n hx hb dX4_countRight_35 rfl (lv_at hl 2 rfl) ?_
        exact hret _ _ _ _ _ _ hP hD hS dX4_countRight_36 ⟨hW_w4, hM_w4⟩
      · refine lv_iload_n hx hb dX4_countRight_12 rfl (lv_at hl 2 rfl) ?_
        refine lv_aload_n hx hb dX4_countRight_13 rfl (lv_at hl 0 rfl) ?_
        refine lv_iload_n hx hb dX4_countRight_14 rfl (lv_at hl 3 rfl) ?_
        refine lv_aload_n hx hb dX4_countRight_15 rfl (lv_at hl 1 rfl) ?_
        refine kW_i ⟨rfl, rfl⟩ hP hD hS hA (rW_V (As := [.int x4_3, .ref (q 1)]) (rest := [.int x4_2]) hx hb hml hown hts hK hE hP hD (k_X4_isRight_1 l D cI cJ cZ q bb bs bp w4 hW_w4 x4_3 (R_nle_r (hW_w.fin tX_88 rfl : In 0 40 (fI w 88 1)) i_x4_3 c_2 (by decide) : In 0 39 x4_3) _) ⟨⟨rfl, rfl⟩, rfl, rfl⟩ sv_X4_123 ⟨(Nat.le_trans (by decide) hR.1), (Nat.le_trans (by decide) hR.2)⟩ 88 4 (hW_w4.o tX_88) rfl rfl rfl hl.1 rfl (Nat.le_of_ble_eq_true rfl) dX4_countRight_16) (fun r_4 w_3 H locs hw_w_3 hP hD hS => ?_)
        obtain ⟨hW_w_3, hs_w_3, i_r_4⟩ := hw_w_3
        refine lv_if_eq (tgt := 26) hx hb dX4_countRight_19 (by decide) (fun c_5 => ?_) (fun c_5 => ?_)
        · refine lv_iconst (v := 0) hx hb dX4_countRight_26 (by decide) ?_
          exact J27 0 w_3 _ _ ls hW_w_3 (hM_w4.tr hs_w_3 (by decide)) (R_nle_r (hW_w.fin tX_88 rfl : In 0 40 (fI w 88 1)) i_x4_3 c_2 (by decide) : In 0 39 x4_3) (In_lit (n := 0) (by decide) (by decide) : In 0 1 0) (In_of ((hs_w_3.gI (by decide)).trans (hM_w4.gI (by decide))) (R_nle_l (hW_w.fin tX_88 rfl : In 0 40 (fI w 88 1)) i_x4_3 c_2 (by decide) : In 1 40 (fI w 88 1))) hP hD hS (lv_sub hl [0, 1, 2, 3] rfl)
        · refine lv_iconst (v := 1) hx hb dX4_countRight_22 (by decide) ?_
          refine lv_goto (tgt := 27) hx hb dX4_countRight_23 (by decide) ?_
          exact J27 1 w_3 _ _ ls hW_w_3 (hM_w4.tr hs_w_3 (by decide)) (R_nle_r (hW_w.fin tX_88 rfl : In 0 40 (fI w 88 1)) i_x4_3 c_2 (by decide) : In 0 39 x4_3) (In_lit (n := 1) (by decide) (by decide) : In 0 1 1) (In_of ((hs_w_3.gI (by decide)).trans (hM_w4.gI (by decide))) (R_nle_l (hW_w.fin tX_88 rfl : In 0 40 (fI w 88 1)) i_x4_3 c_2 (by decide) : In 1 40 (fI w 88 1))) hP hD hS (lv_sub hl [0, 1, 2, 3] rfl)
  refine lv_iconst (v := 0) hx hb dX4_countRight_0 (by decide) ?_
  refine lv_istore_n (lv' := [(2, .int 0), (0, .ref (q 88)), (1, .ref (q 1))]) hx hb dX4_countRight_1 rfl hl (by decide) rfl (fun ls hl => ?_)
  refine lv_iconst (v := 0) hx hb dX4_countRight_2 (by decide) ?_
  refine lv_istore_n (lv' := [(3, .int 0), (2, .int 0), (0, .ref (q 88)), (1, .ref (q 1))]) hx hb dX4_countRight_3 rfl hl (by decide) rfl (fun ls hl => ?_)
  exact J4 _ 0 0 w _ _ ls (Nat.lt_succ_self _) hW_w Sm.rf (In_lit (n := 0) (by decide) (by decide) : In 0 40 0) hP hD hS (lv_sub hl [2, 3, 1, 0] rfl)
set_option maxRecDepth 100000 in
set_option maxHeartbeats 8000000 in
theorem k_X11_right (l : Launch) (D : va_G) (cI cJ cZ : ClassId) (q : Nat → Nat) (bp : Nat) (w : va_W) (hW_w : HT q (TX q cI cJ cZ 1 16 bp) w) : Con_i l yX11_right cX11_right 1 (some .int) ({ frames := 4, cells := 0, slots := 0, locals := 93 }) D cI cJ cZ eW [.ref (q 0)] w (fun (r : Int32) (w1 : va_W) => HT q (TX q cI cJ cZ 1 16 bp) w1 ∧ Sm [] [] w w1) := by
  refine eQ_i rfl (by decide) (Nat.le_of_ble_eq_true rfl) ⟨rfl, rfl⟩ ?_
  intro p e R s m args below meth c A Q hx hb hml hown hts hK hE hA hR hret hP hD hS ls hl
  have hown : s.vm.findClass RX11 = some m.cls := hown
  have hl : lv_has ls 1 [(0, .ref (q 0))] := hl
  refine lv_aload_n hx hb dX11_right_0 rfl (lv_at hl 0 rfl) ?_
  refine gt_X11 hx hb hts hown hK hP 0 (hW_w.o tX_0) 10 (by decide) wd_683 rfl (hW_w.fr tX_0 rfl) dX11_right_1 ?_
  refine gt_X4 hx hb hts hown hK hP 88 (hW_w.o tX_88) 0 (by decide) wd_567 rfl (hW_w.fi tX_88 rfl) dX11_right_4 ?_
  refine lv_if_eq (tgt := 24) hx hb dX11_right_7 (by decide) (fun c_1 => ?_) (fun c_1 => ?_)
  · refine lv_iconst (v := (-1)) hx hb dX11_right_24 (by decide) ?_
    exact hret _ _ _ _ _ _ hP hD hS dX11_right_25 ⟨hW_w, Sm.rf⟩
  · refine lv_aload_n hx hb dX11_right_10 rfl (lv_at hl 0 rfl) ?_
    refine gt_X11 hx hb hts hown hK hP 0 (hW_w.o tX_0) 10 (by decide) wd_683 rfl (hW_w.fr tX_0 rfl) dX11_right_11 ?_
    refine lv_aload_n hx hb dX11_right_14 rfl (lv_at hl 0 rfl) ?_
    refine gt_X11 hx hb hts hown hK hP 0 (hW_w.o tX_0) 0 (by decide) wd_673 rfl (hW_w.fr tX_0 rfl) dX11_right_15 ?_
    refine kW_i ⟨rfl, rfl⟩ hP hD hS hA (rW_V (As := [.ref (q 1)]) (rest := []) hx hb hml hown hts hK hE hP hD (k_X4_countRight_1 l D cI cJ cZ q 1 16 bp w hW_w  _) ⟨⟨rfl, rfl⟩, rfl, rfl⟩ sv_X11_307 ⟨(Nat.le_trans (by decide) hR.1), (Nat.le_trans (by decide) hR.2)⟩ 88 4 (hW_w.o tX_88) rfl rfl rfl hl.1 rfl (Nat.le_of_ble_eq_true rfl) dX11_right_18) (fun r_3 w_2 H locs hw_w_2 hP hD hS => ?_)
    obtain ⟨hW_w_2, hs_w_2⟩ := hw_w_2
    refine lv_goto (tgt := 25) hx hb dX11_right_21 (by decide) ?_
    exact hret _ _ _ _ _ _ hP hD hS dX11_right_25 ⟨hW_w_2, (Sm.rf.tr hs_w_2 (by decide))⟩
