set_option maxRecDepth 100000 in
set_option maxHeartbeats 8000000 in
theorem k_X10_step (l : Launch) (D : va_G) (cI cJ cZ : ClassId) (q : Nat → Nat) (bb bs bp : Nat) (w : va_W) (hW_w : HT q (TX q cI cJ cZ bb bs bp) w) : Con_v l yX10_step cX10_step 5 none ({ frames := 1, cells := 0, slots := 0, locals := 23 }) D cI cJ cZ eW [.ref (q 31)] w (fun (w1 : va_W) => HT q (TX q cI cJ cZ bb bs bp) w1 ∧ Sm [31] [(31, 3), (31, 4), (31, 5), (31, 6), (31, 7)] w w1) := by
  refine eQ_v rfl (by decide) (Nat.le_of_ble_eq_true rfl) ⟨rfl, rfl⟩ ?_
  intro p e R s m args below meth c A Q hx hb hml hown hts hK hE hA hR hret hP hD hS ls hl
  have hown : s.vm.findClass RX10 = some m.cls := hown
  have hl : lv_has ls 5 [(0, .ref (q 31))] := hl
  have J213 : ∀ (x213_1 : Int32) (x213_2 : Int32) (x213_3 : Int32) (x213_4 : Int32) (w213 : va_W) (H : Heap) (locs : List Loc) (ls : Array Slot), HT q (TX q cI cJ cZ bb bs bp) w213 → Sm [31] [(31, 3), (31, 4), (31, 5), (31, 6), (31, 7)] w w213 → (In 1 1 x213_1) → (In 0 1000 x213_2) → (In 0 1 x213_3) → (In 0 1 x213_4) → va_P D vwCl w213 H → va_D A w213 → va_S A s.heap H locs → lv_has ls 5 [(0, .ref (q 31)), (1, .int x213_1), (2, .int x213_2), (3, .int x213_3), (4, .int x213_4)] → W p l e R s m args below meth c H locs 0 0 Q (F0 m 213 ls []) := by
    intro x213_1 x213_2 x213_3 x213_4 w213 H locs ls hW_w213 hM_w213 i_x213_1 i_x213_2 i_x213_3 i_x213_4 hP hD hS hl
    refine lv_aload_n hx hb dX10_step_213 rfl (lv_at hl 0 rfl) ?_
    refine gt_X10 hx hb hts hown hK hP 31 (hW_w213.o tX_31) 5 (by decide) wd_198 rfl (hW_w213.fi tX_31 rfl) dX10_step_214 ?_
    refine lv_iload_n hx hb dX10_step_217 rfl (lv_at hl 2 rfl) ?_
    refine lv_icmp_ne (tgt := 228) hx hb dX10_step_218 (by decide) (fun c_1 => ?_) (fun c_1 => ?_)
    · exact hret _ _ _ _ _ hP hD hS dX10_step_228 ⟨hW_w213, hM_w213⟩
    · refine lv_aload_n hx hb dX10_step_221 rfl (lv_at hl 0 rfl) ?_
      refine lv_sipush (v := 257) hx hb dX10_step_222 (by decide) ?_
      refine pt_X10 hx hb hts hown hK hP hD hS 31 (hW_w213.o tX_31) 4 (by decide) wd_196 rfl rfl (ty := .int) (v := .int 257) (by decide +kernel) rfl rfl (hW_w213.ll tX_31 (Nat.le_of_ble_eq_true rfl)) dX10_step_225 (fun H locs hP hD hS => fr_w (hW_w213.sI tX_31 rfl (In_lit (n := 257) (by decide) (by decide) : In (-2147483648) 2147483647 257)) hP hD (fun w_2 ew_2 hW_w_2 hP hD => ?_))
      exact hret _ _ _ _ _ hP hD hS dX10_step_228 ⟨hW_w_2, (hM_w213.sf (hW_w213.lt tX_31) ew_2 (by decide))⟩
  have J200 : ∀ (x200_1 : Int32) (x200_2 : Int32) (x200_3 : Int32) (x200_4 : Int32) (w200 : va_W) (H : Heap) (locs : List Loc) (ls : Array Slot), HT q (TX q cI cJ cZ bb bs bp) w200 → Sm [31] [(31, 3), (31, 4), (31, 5), (31, 6), (31, 7)] w w200 → (In 0 1 x200_1) → (In 0 1000 x200_2) → (In 0 1 x200_3) → (In 0 1 x200_4) → va_P D vwCl w200 H → va_D A w200 → va_S A s.heap H locs → lv_has ls 5 [(0, .ref (q 31)), (1, .int x200_1), (2, .int x200_2), (3, .int x200_3), (4, .int x200_4)] → W p l e R s m args below meth c H locs 0 0 Q (F0 m 200 ls []) := by
    intro x200_1 x200_2 x200_3 x200_4 w200 H locs ls hW_w200 hM_w200 i_x200_1 i_x200_2 i_x200_3 i_x200_4 hP hD hS hl
    refine lv_iload_n hx hb dX10_step_200 rfl (lv_at hl 1 rfl) ?_
    refine lv_if_eq (tgt := 228) hx hb dX10_step_201 (by decide) (fun c_3 => ?_) (fun c_3 => ?_)
    · exact hret _ _ _ _ _ hP hD hS dX10_step_228 ⟨hW_w200, hM_w200⟩
    · refine lv_iload_n hx hb dX10_step_204 rfl (lv_at hl 3 rfl) ?_
      refine lv_if_ne (tgt := 213) hx hb dX10_step_205 (by decide) (fun c_4 => ?_) (fun c_4 => ?_)
      · exact J213 x200_1 x200_2 x200_3 x200_4 w200 _ _ ls hW_w200 hM_w200 (R_ne_l i_x200_1 (In_lit (n := 0) (by decide) (by decide) : In 0 0 0) c_3 (by decide) : In 1 1 x200_1) i_x200_2 (In_w (R_ne_l i_x200_3 (In_lit (n := 0) (by decide) (by decide) : In 0 0 0) c_4 (by decide) : In 1 1 x200_3) (by decide) : In 0 1 x200_3) i_x200_4 hP hD hS (lv_sub hl [0, 1, 2, 3, 4] rfl)
      · refine lv_iload hx hb dX10_step_208 (lv_at hl 4 rfl) ?_
        refine lv_if_eq (tgt := 228) hx hb dX10_step_210 (by decide) (fun c_5 => ?_) (fun c_5 => ?_)
        · exact hret _ _ _ _ _ hP hD hS dX10_step_228 ⟨hW_w200, hM_w200⟩
        · exact J213 x200_1 x200_2 x200_3 x200_4 w200 _ _ ls hW_w200 hM_w200 (R_ne_l i_x200_1 (In_lit (n := 0) (by decide) (by decide) : In 0 0 0) c_3 (by decide) : In 1 1 x200_1) i_x200_2 (In_w (R_eq_l i_x200_3 (In_lit (n := 0) (by decide) (by decide) : In 0 0 0) c_4 (by decide) : In 0 0 x200_3) (by decide) : In 0 1 x200_3) (In_w (R_ne_l i_x200_4 (In_lit (n := 0) (by decide) (by decide) : In 0 0 0) c_5 (by decide) : In 1 1 x200_4) (by decide) : In 0 1 x200_4) hP hD hS (lv_sub hl [0, 1, 2, 3, 4] rfl)
  have J158 : ∀ (x158_1 : Int32) (x158_2 : Int32) (x158_3 : Int32) (y158_0 : Int32) (w158 : va_W) (H : Heap) (locs : List Loc) (ls : Array Slot), HT q (TX q cI cJ cZ bb bs bp) w158 → Sm [31] [(31, 3), (31, 4), (31, 5), (31, 6), (31, 7)] w w158 → (In 0 1 x158_1) → (In 0 1000 x158_2) → (In 0 1 x158_3) → (In 0 1 y158_0) → (In 0 256 (fI w158 31 4)) → (In 0 1000 (fI w158 31 5)) → va_P D vwCl w158 H → va_D A w158 → va_S A s.heap H locs → lv_has ls 5 [(0, .ref (q 31)), (1, .int x158_1), (2, .int x158_2), (3, .int x158_3)] → W p l e R s m args below meth c H locs 0 0 Q (F0 m 158 ls [.int y158_0]) := by
    intro x158_1 x158_2 x158_3 y158_0 w158 H locs ls hW_w158 hM_w158 i_x158_1 i_x158_2 i_x158_3 i_y158_0 g158_31_4 g158_31_5 hP hD hS hl
    refine lv_istore (lv' := [(4, .int y158_0), (0, .ref (q 31)), (1, .int x158_1), (2, .int x158_2), (3, .int x158_3)]) hx hb dX10_step_158 hl (by decide) rfl (fun ls hl => ?_)
    refine lv_iload_n hx hb dX10_step_160 rfl (lv_at hl 4 rfl) ?_
    refine lv_if_eq (tgt := 171) hx hb dX10_step_161 (by decide) (fun c_6 => ?_) (fun c_6 => ?_)
    · refine lv_iload hx hb dX10_step_171 (lv_at hl 0 rfl) ?_
      refine lv_if_eq (tgt := 183) hx hb dX10_step_173 (by decide) (fun c_7 => ?_) (fun c_7 => ?_)
      · refine lv_aload_n hx hb dX10_step_183 rfl (lv_at hl 1 rfl) ?_
        refine lv_aload_n hx hb dX10_step_184 rfl (lv_at hl 1 rfl) ?_
        refine gt_X10 hx hb hts hown hK hP 31 (hW_w158.o tX_31) 3 (by decide) wd_194 rfl (hW_w158.fi tX_31 rfl) dX10_step_185 ?_
        refine lv_iconst (v := 1) hx hb dX10_step_188 (by decide) ?_
        refine lv_iadd hx hb dX10_step_189 ?_
        refine lv_aload_n hx hb dX10_step_190 rfl (lv_at hl 1 rfl) ?_
        refine gt_X10 hx hb hts hown hK hP 31 (hW_w158.o tX_31) 1 (by decide) wd_192 rfl (hW_w158.fi tX_31 rfl) dX10_step_191 ?_
        refine tov (v := (fI w 31 1)) (hM_w158.2 31 1 (by decide) (by decide)) ?_
        refine va_mmin hx hb (by rw [hml]; exact hl.1.symm) hown (hts _ wd_756) (hts _ wd_757) (hts _ wd_18) (hts _ wd_758) (Nat.le_trans (by decide) hR.1) (Nat.le_trans (Nat.le_of_ble_eq_true rfl) hR.2) (Nat.zero_le _) (Nat.zero_le _) dX10_step_194 ?_
        refine lv_topi (fun v_8 ev_8 => ?_)
        refine pt_X10 hx hb hts hown hK hP hD hS 31 (hW_w158.o tX_31) 3 (by decide) wd_194 rfl rfl (ty := .int) (v := .int v_8) (by decide +kernel) rfl rfl (hW_w158.ll tX_31 (Nat.le_of_ble_eq_true rfl)) dX10_step_197 (fun H locs hP hD hS => fr_w (hW_w158.sI tX_31 rfl (In_of ev_8 (In_min ((In_add (hW_w158.fin tX_31 rfl : In 0 1000 (fI w158 31 3)) (In_lit (n := 1) (by decide) (by decide) : In 1 1 1) (by decide)) : In 1 1001 ((fI w158 31 3) + 1)) (hW_w.fin tX_31 rfl : In 0 1000 (fI w 31 1)) (by decide)) : In 0 1000 v_8)) hP hD (fun w_9 ew_9 hW_w_9 hP hD => ?_))
        exact J200 x158_1 x158_2 x158_3 y158_0 w_9 _ _ ls hW_w_9 (hM_w158.sf (hW_w158.lt tX_31) ew_9 (by decide)) i_x158_1 i_x158_2 (In_w (R_eq_l i_x158_3 (In_lit (n := 0) (by decide) (by decide) : In 0 0 0) c_6 (by decide) : In 0 0 x158_3) (by decide) : In 0 1 x158_3) (In_w (R_eq_l i_y158_0 (In_lit (n := 0) (by decide) (by decide) : In 0 0 0) c_7 (by decide) : In 0 0 y158_0) (by decide) : In 0 1 y158_0) hP hD hS (lv_sub hl [1, 2, 3, 4, 0] rfl)
      · refine lv_aload_n hx hb dX10_step_176 rfl (lv_at hl 1 rfl) ?_
        refine kW_v ⟨rfl, rfl⟩ hP hD hS hA (rW_V (As := []) (rest := []) hx hb hml hown hts hK hE hP hD (k_X10_readNumber l D cI cJ cZ q bb bs bp w158 hW_w158  _) ⟨⟨rfl, rfl⟩, rfl, rfl⟩ sv_X10_49 ⟨(Nat.le_trans (by decide) hR.1), (Nat.le_trans (by decide) hR.2)⟩ 31 10 (hW_w158.o tX_31) rfl rfl rfl hl.1 rfl (Nat.le_of_ble_eq_true rfl) dX10_step_177) (fun w_10 H locs hw_w_10 hP hD hS => ?_)
        obtain ⟨hW_w_10, hs_w_10⟩ := hw_w_10
        refine lv_goto (tgt := 200) hx hb dX10_step_180 (by decide) ?_
        exact J200 x158_1 x158_2 x158_3 y158_0 w_10 _ _ ls hW_w_10 (hM_w158.tr hs_w_10 (by decide)) i_x158_1 i_x158_2 (In_w (R_eq_l i_x158_3 (In_lit (n := 0) (by decide) (by decide) : In 0 0 0) c_6 (by decide) : In 0 0 x158_3) (by decide) : In 0 1 x158_3) (In_w (R_ne_l i_y158_0 (In_lit (n := 0) (by decide) (by decide) : In 0 0 0) c_7 (by decide) : In 1 1 y158_0) (by decide) : In 0 1 y158_0) hP hD hS (lv_sub hl [1, 2, 3, 4, 0] rfl)
    · refine lv_aload_n hx hb dX10_step_164 rfl (lv_at hl 1 rfl) ?_
      refine kW_v ⟨rfl, rfl⟩ hP hD hS hA (rW_V (As := []) (rest := []) hx hb hml hown hts hK hE hP hD (k_X10_readWord l D cI cJ cZ q bb bs bp w158 hW_w158  _) ⟨⟨rfl, rfl⟩, rfl, rfl⟩ sv_X10_46 ⟨(Nat.le_trans (by decide) hR.1), (Nat.le_trans (by decide) hR.2)⟩ 31 10 (hW_w158.o tX_31) rfl rfl rfl hl.1 rfl (Nat.le_of_ble_eq_true rfl) dX10_step_165) (fun w_12 H locs hw_w_12 hP hD hS => ?_)
      obtain ⟨hW_w_12, hs_w_12⟩ := hw_w_12
      refine lv_goto (tgt := 200) hx hb dX10_step_168 (by decide) ?_
      exact J200 x158_1 x158_2 x158_3 y158_0 w_12 _ _ ls hW_w_12 (hM_w158.tr hs_w_12 (by decide)) i_x158_1 i_x158_2 (In_w (R_ne_l i_x158_3 (In_lit (n := 0) (by decide) (by decide) : In 0 0 0) c_6 (by decide) : In 1 1 x158_3) (by decide) : In 0 1 x158_3) i_y158_0 hP hD hS (lv_sub hl [1, 2, 3, 4, 0] rfl)
  have J157 : ∀ (x157_1 : Int32) (x157_2 : Int32) (x157_3 : Int32) (w157 : va_W) (H : Heap) (locs : List Loc) (ls : Array Slot), HT q (TX q cI cJ cZ bb bs bp) w157 → Sm [31] [(31, 3), (31, 4), (31, 5), (31, 6), (31, 7)] w w157 → (In 0 1 x157_1) → (In 0 1000 x157_2) → (In 0 1 x157_3) → (In 0 256 (fI w157 31 4)) → (In 0 1000 (fI w157 31 5)) → va_P D vwCl w157 H → va_D A w157 → va_S A s.heap H locs → lv_has ls 5 [(0, .ref (q 31)), (1, .int x157_1), (2, .int x157_2), (3, .int x157_3)] → W p l e R s m args below meth c H locs 0 0 Q (F0 m 157 ls []) := by
    intro x157_1 x157_2 x157_3 w157 H locs ls hW_w157 hM_w157 i_x157_1 i_x157_2 i_x157_3 g157_31_4 g157_31_5 hP hD hS hl
    refine lv_iconst (v := 0) hx hb dX10_step_157 (by decide) ?_
    exact J158 x157_1 x157_2 x157_3 0 w157 _ _ ls hW_w157 hM_w157 i_x157_1 i_x157_2 i_x157_3 (In_lit (n := 0) (by decide) (by decide) : In 0 1 0) g157_31_4 g157_31_5 hP hD hS (lv_sub hl [0, 1, 2, 3] rfl)
  have J134 : ∀ (x134_1 : Int32) (x134_2 : Int32) (y134_0 : Int32) (w134 : va_W) (H : Heap) (locs : List Loc) (ls : Array Slot), HT q (TX q cI cJ cZ bb bs bp) w134 → Sm [31] [(31, 3), (31, 4), (31, 5), (31, 6), (31, 7)] w w134 → (In 0 1 x134_1) → (In 0 1000 x134_2) → (In 0 1 y134_0) → (In 0 256 (fI w134 31 4)) → (In 0 1000 (fI w134 31 5)) → va_P D vwCl w134 H → va_D A w134 → va_S A s.heap H locs → lv_has ls 5 [(0, .ref (q 31)), (1, .int x134_1), (2, .int x134_2)] → W p l e R s m args below meth c H locs 0 0 Q (F0 m 134 ls [.int y134_0]) := by
    intro x134_1 x134_2 y134_0 w134 H locs ls hW_w134 hM_w134 i_x134_1 i_x134_2 i_y134_0 g134_31_4 g134_31_5 hP hD hS hl
    refine lv_istore_n (lv' := [(3, .int y134_0), (0, .ref (q 31)), (1, .int x134_1), (2, .int x134_2)]) hx hb dX10_step_134 rfl hl (by decide) rfl (fun ls hl => ?_)
    refine lv_aload_n hx hb dX10_step_135 rfl (lv_at hl 1 rfl) ?_
    refine gt_X10 hx hb hts hown hK hP 31 (hW_w134.o tX_31) 4 (by decide) wd_196 rfl (hW_w134.fi tX_31 rfl) dX10_step_136 ?_
    refine lv_bipush (v := 48) hx hb dX10_step_139 (by decide) ?_
    refine lv_icmp_lt (tgt := 157) hx hb dX10_step_141 (by decide) (fun c_14 => ?_) (fun c_14 => ?_)
    · exact J157 x134_1 x134_2 y134_0 w134 _ _ ls hW_w134 hM_w134 i_x134_1 i_x134_2 i_y134_0 (In_w (R_lt_l g134_31_4 (In_lit (n := 48) (by decide) (by decide) : In 48 48 48) c_14 (by decide) : In 0 47 (fI w134 31 4)) (by decide) : In 0 256 (fI w134 31 4)) g134_31_5 hP hD hS (lv_sub hl [1, 2, 3, 0] rfl)
    · refine lv_aload_n hx hb dX10_step_144 rfl (lv_at hl 1 rfl) ?_
      refine gt_X10 hx hb hts hown hK hP 31 (hW_w134.o tX_31) 4 (by decide) wd_196 rfl (hW_w134.fi tX_31 rfl) dX10_step_145 ?_
      refine lv_bipush (v := 57) hx hb dX10_step_148 (by decide) ?_
      refine lv_icmp_gt (tgt := 157) hx hb dX10_step_150 (by decide) (fun c_15 => ?_) (fun c_15 => ?_)
      · exact J157 x134_1 x134_2 y134_0 w134 _ _ ls hW_w134 hM_w134 i_x134_1 i_x134_2 i_y134_0 (In_w (R_lt_r (In_lit (n := 57) (by decide) (by decide) : In 57 57 57) (R_nlt_l g134_31_4 (In_lit (n := 48) (by decide) (by decide) : In 48 48 48) c_14 (by decide) : In 48 256 (fI w134 31 4)) c_15 (by decide) : In 58 256 (fI w134 31 4)) (by decide) : In 0 256 (fI w134 31 4)) g134_31_5 hP hD hS (lv_sub hl [1, 2, 3, 0] rfl)
      · refine lv_iconst (v := 1) hx hb dX10_step_153 (by decide) ?_
        refine lv_goto (tgt := 158) hx hb dX10_step_154 (by decide) ?_
        exact J158 x134_1 x134_2 y134_0 1 w134 _ _ ls hW_w134 hM_w134 i_x134_1 i_x134_2 i_y134_0 (In_lit (n := 1) (by decide) (by decide) : In 0 1 1) (In_w (R_nlt_r (In_lit (n := 57) (by decide) (by decide) : In 57 57 57) (R_nlt_l g134_31_4 (In_lit (n := 48) (by decide) (by decide) : In 48 48 48) c_14 (by decide) : In 48 256 (fI w134 31 4)) c_15 (by decide) : In 48 57 (fI w134 31 4)) (by decide) : In 0 256 (fI w134 31 4)) g134_31_5 hP hD hS (lv_sub hl [1, 2, 3, 0] rfl)
  have J133 : ∀ (x133_1 : Int32) (x133_2 : Int32) (w133 : va_W) (H : Heap) (locs : List Loc) (ls : Array Slot), HT q (TX q cI cJ cZ bb bs bp) w133 → Sm [31] [(31, 3), (31, 4), (31, 5), (31, 6), (31, 7)] w w133 → (In 0 1 x133_1) → (In 0 1000 x133_2) → (In 0 256 (fI w133 31 4)) → (In 0 1000 (fI w133 31 5)) → va_P D vwCl w133 H → va_D A w133 → va_S A s.heap H locs → lv_has ls 5 [(0, .ref (q 31)), (1, .int x133_1), (2, .int x133_2)] → W p l e R s m args below meth c H locs 0 0 Q (F0 m 133 ls []) := by
    intro x133_1 x133_2 w133 H locs ls hW_w133 hM_w133 i_x133_1 i_x133_2 g133_31_4 g133_31_5 hP hD hS hl
    refine lv_iconst (v := 0) hx hb dX10_step_133 (by decide) ?_
    exact J134 x133_1 x133_2 0 w133 _ _ ls hW_w133 hM_w133 i_x133_1 i_x133_2 (In_lit (n := 0) (by decide) (by decide) : In 0 1 0) g133_31_4 g133_31_5 hP hD hS (lv_sub hl [0, 1, 2] rfl)
  have J108 : ∀ (x108_1 : Int32) (x108_2 : Int32) (y108_0 : Int32) (w108 : va_W) (H : Heap) (locs : List Loc) (ls : Array Slot), HT q (TX q cI cJ cZ bb bs bp) w108 → Sm [31] [(31, 3), (31, 4), (31, 5), (31, 6), (31, 7)] w w108 → (In 0 1 x108_1) → (In 0 1000 x108_2) → (In 0 256 y108_0) → (fI w108 31 4 = (fI w 31 4)) → (In 0 1000 (fI w108 31 5)) → va_P D vwCl w108 H → va_D A w108 → va_S A s.heap H locs → lv_has ls 5 [(0, .ref (q 31)), (1, .int x108_1), (2, .int x108_2)] → W p l e R s m args below meth c H locs 0 0 Q (F0 m 108 ls [.int y108_0, .ref (q 31)]) := by
    intro x108_1 x108_2 y108_0 w108 H locs ls hW_w108 hM_w108 i_x108_1 i_x108_2 i_y108_0 g108_31_4e g108_31_5 hP hD hS hl
    refine pt_X10 hx hb hts hown hK hP hD hS 31 (hW_w108.o tX_31) 4 (by decide) wd_196 rfl rfl (ty := .int) (v := .int y108_0) (by decide +kernel) rfl rfl (hW_w108.ll tX_31 (Nat.le_of_ble_eq_true rfl)) dX10_step_108 (fun H locs hP hD hS => fr_w (hW_w108.sI tX_31 rfl (In_w i_y108_0 (by decide) : In (-2147483648) 2147483647 y108_0)) hP hD (fun w_16 ew_16 hW_w_16 hP hD => ?_))
    refine lv_aload_n hx hb dX10_step_111 rfl (lv_at hl 0 rfl) ?_
    refine gt_X10 hx hb hts hown hK hP 31 (hW_w_16.o tX_31) 4 (by decide) wd_196 rfl (hW_w_16.fi tX_31 rfl) dX10_step_112 ?_
    refine tov (v := y108_0) (fI_eq (hW_w108.lt tX_31) ew_16 (hW_w108.ll tX_31 (Nat.le_of_ble_eq_true rfl))) ?_
    refine lv_bipush (v := 97) hx hb dX10_step_115 (by decide) ?_
    refine lv_icmp_lt (tgt := 133) hx hb dX10_step_117 (by decide) (fun c_17 => ?_) (fun c_17 => ?_)
    · exact J133 x108_1 x108_2 w_16 _ _ ls hW_w_16 (hM_w108.sf (hW_w108.lt tX_31) ew_16 (by decide)) i_x108_1 i_x108_2 (In_of (fI_eq (hW_w108.lt tX_31) ew_16 (hW_w108.ll tX_31 (Nat.le_of_ble_eq_true rfl))) (In_w (R_lt_l i_y108_0 (In_lit (n := 97) (by decide) (by decide) : In 97 97 97) c_17 (by decide) : In 0 96 y108_0) (by decide) : In 0 256 y108_0)) (In_of (fI_nej (hW_w108.lt tX_31) ew_16 (by decide)) g108_31_5) hP hD hS (lv_sub hl [0, 1, 2] rfl)
    · refine lv_aload_n hx hb dX10_step_120 rfl (lv_at hl 0 rfl) ?_
      refine gt_X10 hx hb hts hown hK hP 31 (hW_w_16.o tX_31) 4 (by decide) wd_196 rfl (hW_w_16.fi tX_31 rfl) dX10_step_121 ?_
      refine tov (v := y108_0) (fI_eq (hW_w108.lt tX_31) ew_16 (hW_w108.ll tX_31 (Nat.le_of_ble_eq_true rfl))) ?_
      refine lv_bipush (v := 122) hx hb dX10_step_124 (by decide) ?_
      refine lv_icmp_gt (tgt := 133) hx hb dX10_step_126 (by decide) (fun c_18 => ?_) (fun c_18 => ?_)
      · exact J133 x108_1 x108_2 w_16 _ _ ls hW_w_16 (hM_w108.sf (hW_w108.lt tX_31) ew_16 (by decide)) i_x108_1 i_x108_2 (In_of (fI_eq (hW_w108.lt tX_31) ew_16 (hW_w108.ll tX_31 (Nat.le_of_ble_eq_true rfl))) (In_w (R_lt_r (In_lit (n := 122) (by decide) (by decide) : In 122 122 122) (R_nlt_l i_y108_0 (In_lit (n := 97) (by decide) (by decide) : In 97 97 97) c_17 (by decide) : In 97 256 y108_0) c_18 (by decide) : In 123 256 y108_0) (by decide) : In 0 256 y108_0)) (In_of (fI_nej (hW_w108.lt tX_31) ew_16 (by decide)) g108_31_5) hP hD hS (lv_sub hl [0, 1, 2] rfl)
      · refine lv_iconst (v := 1) hx hb dX10_step_129 (by decide) ?_
        refine lv_goto (tgt := 134) hx hb dX10_step_130 (by decide) ?_
        exact J134 x108_1 x108_2 1 w_16 _ _ ls hW_w_16 (hM_w108.sf (hW_w108.lt tX_31) ew_16 (by decide)) i_x108_1 i_x108_2 (In_lit (n := 1) (by decide) (by decide) : In 0 1 1) (In_of (fI_eq (hW_w108.lt tX_31) ew_16 (hW_w108.ll tX_31 (Nat.le_of_ble_eq_true rfl))) (In_w (R_nlt_r (In_lit (n := 122) (by decide) (by decide) : In 122 122 122) (R_nlt_l i_y108_0 (In_lit (n := 97) (by decide) (by decide) : In 97 97 97) c_17 (by decide) : In 97 256 y108_0) c_18 (by decide) : In 97 122 y108_0) (by decide) : In 0 256 y108_0)) (In_of (fI_nej (hW_w108.lt tX_31) ew_16 (by decide)) g108_31_5) hP hD hS (lv_sub hl [0, 1, 2] rfl)
  have J73 : ∀ (x73_1 : Int32) (x73_2 : Int32) (w73 : va_W) (H : Heap) (locs : List Loc) (ls : Array Slot), HT q (TX q cI cJ cZ bb bs bp) w73 → Sm [31] [(31, 3), (31, 4), (31, 5), (31, 6), (31, 7)] w w73 → (In 0 1 x73_1) → (In 0 1000 x73_2) → (fI w73 31 4 = (fI w 31 4)) → va_P D vwCl w73 H → va_D A w73 → va_S A s.heap H locs → lv_has ls 5 [(0, .ref (q 31)), (1, .int x73_1), (2, .int x73_2)] → W p l e R s m args below meth c H locs 0 0 Q (F0 m 73 ls []) := by
    intro x73_1 x73_2 w73 H locs ls hW_w73 hM_w73 i_x73_1 i_x73_2 g73_31_4e hP hD hS hl
    refine lv_aload_n hx hb dX10_step_73 rfl (lv_at hl 0 rfl) ?_
    refine lv_aload_n hx hb dX10_step_74 rfl (lv_at hl 0 rfl) ?_
    refine gt_X10 hx hb hts hown hK hP 31 (hW_w73.o tX_31) 3 (by decide) wd_194 rfl (hW_w73.fi tX_31 rfl) dX10_step_75 ?_
    refine pt_X10 hx hb hts hown hK hP hD hS 31 (hW_w73.o tX_31) 5 (by decide) wd_198 rfl rfl (ty := .int) (v := .int (fI w73 31 3)) (by decide +kernel) rfl rfl (hW_w73.ll tX_31 (Nat.le_of_ble_eq_true rfl)) dX10_step_78 (fun H locs hP hD hS => fr_w (hW_w73.sI tX_31 rfl (In_w (hW_w73.fin tX_31 rfl : In 0 1000 (fI w73 31 3)) (by decide) : In (-2147483648) 2147483647 (fI w73 31 3))) hP hD (fun w_19 ew_19 hW_w_19 hP hD => ?_))
    refine lv_aload_n hx hb dX10_step_81 rfl (lv_at hl 0 rfl) ?_
    refine lv_aload_n hx hb dX10_step_82 rfl (lv_at hl 0 rfl) ?_
    refine gt_X10 hx hb hts hown hK hP 31 (hW_w_19.o tX_31) 3 (by decide) wd_194 rfl (hW_w_19.fi tX_31 rfl) dX10_step_83 ?_
    refine tov (v := (fI w73 31 3)) (fI_nej (hW_w73.lt tX_31) ew_19 (by decide)) ?_
    refine lv_aload_n hx hb dX10_step_86 rfl (lv_at hl 0 rfl) ?_
    refine gt_X10 hx hb hts hown hK hP 31 (hW_w_19.o tX_31) 1 (by decide) wd_192 rfl (hW_w_19.fi tX_31 rfl) dX10_step_87 ?_
    refine tov (v := (fI w 31 1)) ((fI_nej (hW_w73.lt tX_31) ew_19 (by decide)).trans (hM_w73.2 31 1 (by decide) (by decide))) ?_
    refine lv_icmp_ge (tgt := 105) hx hb dX10_step_90 (by decide) (fun c_20 => ?_) (fun c_20 => ?_)
    · refine lv_sipush (v := 256) hx hb dX10_step_105 (by decide) ?_
      exact J108 x73_1 x73_2 256 w_19 _ _ ls hW_w_19 (hM_w73.sf (hW_w73.lt tX_31) ew_19 (by decide)) i_x73_1 i_x73_2 (In_lit (n := 256) (by decide) (by decide) : In 0 256 256) ((fI_nej (hW_w73.lt tX_31) ew_19 (by decide)).trans g73_31_4e) (In_of (fI_eq (hW_w73.lt tX_31) ew_19 (hW_w73.ll tX_31 (Nat.le_of_ble_eq_true rfl))) (hW_w73.fin tX_31 rfl : In 0 1000 (fI w73 31 3))) hP hD hS (lv_sub hl [0, 1, 2] rfl)
    · refine lv_aload_n hx hb dX10_step_93 rfl (lv_at hl 0 rfl) ?_
      refine gt_X10 hx hb hts hown hK hP 31 (hW_w_19.o tX_31) 0 (by decide) wd_190 rfl (hW_w_19.fr tX_31 rfl) dX10_step_94 ?_
      refine lv_aload_n hx hb dX10_step_97 rfl (lv_at hl 0 rfl) ?_
      refine gt_X10 hx hb hts hown hK hP 31 (hW_w_19.o tX_31) 3 (by decide) wd_194 rfl (hW_w_19.fi tX_31 rfl) dX10_step_98 ?_
      refine tov (v := (fI w73 31 3)) (fI_nej (hW_w73.lt tX_31) ew_19 (by decide)) ?_
      refine va_iald hx hb hK hP 32 0 (hW_w_19.a tX_32) rfl (in_I (R_nle_r (hW_w.fin tX_31 rfl : In 0 1000 (fI w 31 1)) (hW_w73.fin tX_31 rfl : In 0 1000 (fI w73 31 3)) c_20 (by decide) : In 0 999 (fI w73 31 3)) (by decide)) dX10_step_101 ?_
      refine lv_topi (fun v_21 ev_21 => ?_)
      refine lv_goto (tgt := 108) hx hb dX10_step_102 (by decide) ?_
      exact J108 x73_1 x73_2 v_21 w_19 _ _ ls hW_w_19 (hM_w73.sf (hW_w73.lt tX_31) ew_19 (by decide)) i_x73_1 i_x73_2 (In_w (In_of ev_21 (hW_w_19.ap tX_32 _) : In 0 255 v_21) (by decide) : In 0 256 v_21) ((fI_nej (hW_w73.lt tX_31) ew_19 (by decide)).trans g73_31_4e) (In_of (fI_eq (hW_w73.lt tX_31) ew_19 (hW_w73.ll tX_31 (Nat.le_of_ble_eq_true rfl))) (In_w (R_nle_r (hW_w.fin tX_31 rfl : In 0 1000 (fI w 31 1)) (hW_w73.fin tX_31 rfl : In 0 1000 (fI w73 31 3)) c_20 (by decide) : In 0 999 (fI w73 31 3)) (by decide) : In 0 1000 (fI w73 31 3))) hP hD hS (lv_sub hl [0, 1, 2] rfl)
  have J21 : ∀ (N : Nat) (x21_1 : Int32) (x21_2 : Int32) (w21 : va_W) (H : Heap) (locs : List Loc) (ls : Array Slot), (1000 - (fI w21 31 3).toInt).toNat < N → HT q (TX q cI cJ cZ bb bs bp) w21 → Sm [31] [(31, 3), (31, 4), (31, 5), (31, 6), (31, 7)] w w21 → (In 0 1 x21_1) → (In 0 1000 x21_2) → (fI w21 31 4 = (fI w 31 4)) → va_P D vwCl w21 H → va_D A w21 → va_S A s.heap H locs → lv_has ls 5 [(0, .ref (q 31)), (1, .int x21_1), (2, .int x21_2)] → W p l e R s m args below meth c H locs 0 0 Q (F0 m 21 ls []) := by
    intro N
    induction N with
    | zero => intro x21_1 x21_2 w21 H locs ls hmu; exact absurd hmu (Nat.not_lt_zero _)
    | succ N ih21 =>
      intro x21_1 x21_2 w21 H locs ls hmu21 hW_w21 hM_w21 i_x21_1 i_x21_2 g21_31_4e hP hD hS hl
      have J60 : ∀ (w60 : va_W) (H : Heap) (locs : List Loc) (ls : Array Slot), HT q (TX q cI cJ cZ bb bs bp) w60 → Sm [31] [(31, 3), (31, 4), (31, 5), (31, 6), (31, 7)] w w60 → (In 0 1 x21_1) → (In 0 1000 x21_2) → (In 1 1000 (fI w60 31 1)) → (fI w60 31 3 = (fI w21 31 3)) → (In 0 999 (fI w21 31 3)) → (fI w60 31 4 = (fI w 31 4)) → va_P D vwCl w60 H → va_D A w60 → va_S A s.heap H locs → lv_has ls 5 [(0, .ref (q 31)), (1, .int x21_1), (2, .int x21_2)] → W p l e R s m args below meth c H locs 0 0 Q (F0 m 60 ls []) := by
        intro w60 H locs ls hW_w60 hM_w60 i_x60_1 i_x60_2 g60_31_1 g60_31_3e g60_31_3 g60_31_4e hP hD hS hl
        refine lv_aload_n hx hb dX10_step_60 rfl (lv_at hl 0 rfl) ?_
        refine lv_dup hx hb dX10_step_61 rfl ?_
        refine gt_X10 hx hb hts hown hK hP 31 (hW_w60.o tX_31) 3 (by decide) wd_194 rfl (hW_w60.fi tX_31 rfl) dX10_step_62 ?_
        refine tov (v := (fI w21 31 3)) g60_31_3e ?_
        refine lv_iconst (v := 1) hx hb dX10_step_65 (by decide) ?_
        refine lv_iadd hx hb dX10_step_66 ?_
        refine pt_X10 hx hb hts hown hK hP hD hS 31 (hW_w60.o tX_31) 3 (by decide) wd_194 rfl rfl (ty := .int) (v := .int ((fI w21 31 3) + 1)) (by decide +kernel) rfl rfl (hW_w60.ll tX_31 (Nat.le_of_ble_eq_true rfl)) dX10_step_67 (fun H locs hP hD hS => fr_w (hW_w60.sI tX_31 rfl (In_w ((In_add g60_31_3 (In_lit (n := 1) (by decide) (by decide) : In 1 1 1) (by decide)) : In 1 1000 ((fI w21 31 3) + 1)) (by decide) : In 0 1000 ((fI w21 31 3) + 1))) hP hD (fun w_22 ew_22 hW_w_22 hP hD => ?_))
        refine lv_goto (tgt := 21) hx hb dX10_step_70 (by decide) ?_
        exact ih21 x21_1 x21_2 w_22 _ _ ls ((by rw [show fI w_22 31 3 = ((fI w21 31 3) + 1) from (fI_eq (hW_w60.lt tX_31) ew_22 (hW_w60.ll tX_31 (Nat.le_of_ble_eq_true rfl)))]; exact mu_inc hmu21 g60_31_3 (In_lit (n := 1) (by decide) (by decide) : In 1 1 1) (by decide))) hW_w_22 (hM_w60.sf (hW_w60.lt tX_31) ew_22 (by decide)) i_x21_1 i_x21_2 ((fI_nej (hW_w60.lt tX_31) ew_22 (by decide)).trans g60_31_4e) hP hD hS (lv_sub hl [0, 1, 2] rfl)
      refine lv_aload_n hx hb dX10_step_21 rfl (lv_at hl 0 rfl) ?_
      refine gt_X10 hx hb hts hown hK hP 31 (hW_w21.o tX_31) 3 (by decide) wd_194 rfl (hW_w21.fi tX_31 rfl) dX10_step_22 ?_
      refine lv_aload_n hx hb dX10_step_25 rfl (lv_at hl 0 rfl) ?_
      refine gt_X10 hx hb hts hown hK hP 31 (hW_w21.o tX_31) 1 (by decide) wd_192 rfl (hW_w21.fi tX_31 rfl) dX10_step_26 ?_
      refine tov (v := (fI w 31 1)) (hM_w21.2 31 1 (by decide) (by decide)) ?_
      refine lv_icmp_ge (tgt := 73) hx hb dX10_step_29 (by decide) (fun c_23 => ?_) (fun c_23 => ?_)
      · exact J73 x21_1 x21_2 w21 _ _ ls hW_w21 hM_w21 i_x21_1 i_x21_2 g21_31_4e hP hD hS (lv_sub hl [0, 1, 2] rfl)
      · refine lv_aload_n hx hb dX10_step_32 rfl (lv_at hl 0 rfl) ?_
        refine gt_X10 hx hb hts hown hK hP 31 (hW_w21.o tX_31) 0 (by decide) wd_190 rfl (hW_w21.fr tX_31 rfl) dX10_step_33 ?_
        refine lv_aload_n hx hb dX10_step_36 rfl (lv_at hl 0 rfl) ?_
        refine gt_X10 hx hb hts hown hK hP 31 (hW_w21.o tX_31) 3 (by decide) wd_194 rfl (hW_w21.fi tX_31 rfl) dX10_step_37 ?_
        refine va_iald hx hb hK hP 32 0 (hW_w21.a tX_32) rfl (in_I (R_nle_r (hW_w.fin tX_31 rfl : In 0 1000 (fI w 31 1)) (hW_w21.fin tX_31 rfl : In 0 1000 (fI w21 31 3)) c_23 (by decide) : In 0 999 (fI w21 31 3)) (by decide)) dX10_step_40 ?_
        refine lv_topi (fun v_24 ev_24 => ?_)
        refine lv_bipush (v := 10) hx hb dX10_step_41 (by decide) ?_
        refine lv_icmp_eq (tgt := 60) hx hb dX10_step_43 (by decide) (fun c_25 => ?_) (fun c_25 => ?_)
        · exact J60 w21 _ _ ls hW_w21 hM_w21 i_x21_1 i_x21_2 (In_of (hM_w21.2 31 1 (by decide) (by decide)) (R_nle_l (hW_w.fin tX_31 rfl : In 0 1000 (fI w 31 1)) (hW_w21.fin tX_31 rfl : In 0 1000 (fI w21 31 3)) c_23 (by decide) : In 1 1000 (fI w 31 1))) rfl (R_nle_r (hW_w.fin tX_31 rfl : In 0 1000 (fI w 31 1)) (hW_w21.fin tX_31 rfl : In 0 1000 (fI w21 31 3)) c_23 (by decide) : In 0 999 (fI w21 31 3)) g21_31_4e hP hD hS (lv_sub hl [0, 1, 2] rfl)
        · refine lv_aload_n hx hb dX10_step_46 rfl (lv_at hl 0 rfl) ?_
          refine gt_X10 hx hb hts hown hK hP 31 (hW_w21.o tX_31) 0 (by decide) wd_190 rfl (hW_w21.fr tX_31 rfl) dX10_step_47 ?_
          refine lv_aload_n hx hb dX10_step_50 rfl (lv_at hl 0 rfl) ?_
          refine gt_X10 hx hb hts hown hK hP 31 (hW_w21.o tX_31) 3 (by decide) wd_194 rfl (hW_w21.fi tX_31 rfl) dX10_step_51 ?_
          refine va_iald hx hb hK hP 32 0 (hW_w21.a tX_32) rfl (in_I (R_nle_r (hW_w.fin tX_31 rfl : In 0 1000 (fI w 31 1)) (hW_w21.fin tX_31 rfl : In 0 1000 (fI w21 31 3)) c_23 (by decide) : In 0 999 (fI w21 31 3)) (by decide)) dX10_step_54 ?_
          refine tov (v := v_24) ((congrFun (hM_w21.hA (by decide)) _).trans ((congrFun (hM_w21.hA (by decide)) _).symm.trans ev_24.symm)) ?_
          refine lv_bipush (v := 32) hx hb dX10_step_55 (by decide) ?_
          refine lv_icmp_ne (tgt := 73) hx hb dX10_step_57 (by decide) (fun c_26 => ?_) (fun c_26 => ?_)
          · exact J73 x21_1 x21_2 w21 _ _ ls hW_w21 hM_w21 i_x21_1 i_x21_2 g21_31_4e hP hD hS (lv_sub hl [0, 1, 2] rfl)
          · exact J60 w21 _ _ ls hW_w21 hM_w21 i_x21_1 i_x21_2 (In_of (hM_w21.2 31 1 (by decide) (by decide)) (R_nle_l (hW_w.fin tX_31 rfl : In 0 1000 (fI w 31 1)) (hW_w21.fin tX_31 rfl : In 0 1000 (fI w21 31 3)) c_23 (by decide) : In 1 1000 (fI w 31 1))) rfl (R_nle_r (hW_w.fin tX_31 rfl : In 0 1000 (fI w 31 1)) (hW_w21.fin tX_31 rfl : In 0 1000 (fI w21 31 3)) c_23 (by decide) : In 0 999 (fI w21 31 3)) g21_31_4e hP hD hS (lv_sub hl [0, 1, 2] rfl)
  have J15 : ∀ (y15_0 : Int32) (w15 : va_W) (H : Heap) (locs : List Loc) (ls : Array Slot), HT q (TX q cI cJ cZ bb bs bp) w15 → Sm [31] [(31, 3), (31, 4), (31, 5), (31, 6), (31, 7)] w w15 → (In 0 1 y15_0) → (fI w15 31 4 = (fI w 31 4)) → va_P D vwCl w15 H → va_D A w15 → va_S A s.heap H locs → lv_has ls 5 [(0, .ref (q 31))] → W p l e R s m args below meth c H locs 0 0 Q (F0 m 15 ls [.int y15_0]) := by
    intro y15_0 w15 H locs ls hW_w15 hM_w15 i_y15_0 g15_31_4e hP hD hS hl
    refine lv_istore_n (lv' := [(1, .int y15_0), (0, .ref (q 31))]) hx hb dX10_step_15 rfl hl (by decide) rfl (fun ls hl => ?_)
    refine lv_aload_n hx hb dX10_step_16 rfl (lv_at hl 1 rfl) ?_
    refine gt_X10 hx hb hts hown hK hP 31 (hW_w15.o tX_31) 3 (by decide) wd_194 rfl (hW_w15.fi tX_31 rfl) dX10_step_17 ?_
    refine lv_istore_n (lv' := [(2, .int (fI w15 31 3)), (1, .int y15_0), (0, .ref (q 31))]) hx hb dX10_step_20 rfl hl (by decide) rfl (fun ls hl => ?_)
    exact J21 _ y15_0 (fI w15 31 3) w15 _ _ ls (Nat.lt_succ_self _) hW_w15 hM_w15 i_y15_0 (hW_w15.fin tX_31 rfl : In 0 1000 (fI w15 31 3)) g15_31_4e hP hD hS (lv_sub hl [2, 1, 0] rfl)
  refine lv_aload_n hx hb dX10_step_0 rfl (lv_at hl 0 rfl) ?_
  refine gt_X10 hx hb hts hown hK hP 31 (hW_w.o tX_31) 4 (by decide) wd_196 rfl (hW_w.fi tX_31 rfl) dX10_step_1 ?_
  refine lv_sipush (v := 258) hx hb dX10_step_4 (by decide) ?_
  refine lv_icmp_lt (tgt := 14) hx hb dX10_step_7 (by decide) (fun c_27 => ?_) (fun c_27 => ?_)
  · refine lv_iconst (v := 0) hx hb dX10_step_14 (by decide) ?_
    exact J15 0 w _ _ ls hW_w Sm.rf (In_lit (n := 0) (by decide) (by decide) : In 0 1 0) rfl hP hD hS (lv_sub hl [0] rfl)
  · refine lv_iconst (v := 1) hx hb dX10_step_10 (by decide) ?_
    refine lv_goto (tgt := 15) hx hb dX10_step_11 (by decide) ?_
    exact J15 1 w _ _ ls hW_w Sm.rf (In_lit (n := 1) (by decide) (by decide) : In 0 1 1) rfl hP hD hS (lv_sub hl [0] rfl)
set_option maxRecDepth 100000 in
set_option maxHeartbeats 8000000 in
theorem k_X10_rewind (l : Launch) (D : va_G) (cI cJ cZ : ClassId) (q : Nat → Nat) (bb bs bp : Nat) (w : va_W) (hW_w : HT q (TX q cI cJ cZ bb bs bp) w) : Con_v l yX10_rewind cX10_rewind 1 none ({ frames := 2, cells := 0, slots := 0, locals := 47 }) D cI cJ cZ eW [.ref (q 31)] w (fun (w1 : va_W) => HT q (TX q cI cJ cZ bb bs bp) w1 ∧ Sm [31] [(31, 3), (31, 4), (31, 5), (31, 6), (31, 7)] w w1) := by
  refine eQ_v rfl (by decide) (Nat.le_of_ble_eq_true rfl) ⟨rfl, rfl⟩ ?_
  intro p e R s m args below meth c A Q hx hb hml hown hts hK hE hA hR hret hP hD hS ls hl
  have hown : s.vm.findClass RX10 = some m.cls := hown
  have hl : lv_has ls 1 [(0, .ref (q 31))] := hl
  refine lv_aload_n hx hb dX10_rewind_0 rfl (lv_at hl 0 rfl) ?_
  refine lv_iconst (v := 0) hx hb dX10_rewind_1 (by decide) ?_
  refine pt_X10 hx hb hts hown hK hP hD hS 31 (hW_w.o tX_31) 3 (by decide) wd_194 rfl rfl (ty := .int) (v := .int 0) (by decide +kernel) rfl rfl (hW_w.ll tX_31 (Nat.le_of_ble_eq_true rfl)) dX10_rewind_2 (fun H locs hP hD hS => fr_w (hW_w.sI tX_31 rfl (In_lit (n := 0) (by decide) (by decide) : In 0 1000 0)) hP hD (fun w_1 ew_1 hW_w_1 hP hD => ?_))
  refine lv_aload_n hx hb dX10_rewind_5 rfl (lv_at hl 0 rfl) ?_
  refine lv_sipush (v := 256) hx hb dX10_rewind_6 (by decide) ?_
  refine pt_X10 hx hb hts hown hK hP hD hS 31 (hW_w_1.o tX_31) 4 (by decide) wd_196 rfl rfl (ty := .int) (v := .int 256) (by decide +kernel) rfl rfl (hW_w_1.ll tX_31 (Nat.le_of_ble_eq_true rfl)) dX10_rewind_9 (fun H locs hP hD hS => fr_w (hW_w_1.sI tX_31 rfl (In_lit (n := 256) (by decide) (by decide) : In (-2147483648) 2147483647 256)) hP hD (fun w_2 ew_2 hW_w_2 hP hD => ?_))
  refine lv_aload_n hx hb dX10_rewind_12 rfl (lv_at hl 0 rfl) ?_
  refine kW_v ⟨rfl, rfl⟩ hP hD hS hA (rW_V (As := []) (rest := []) hx hb hml hown hts hK hE hP hD (k_X10_step l D cI cJ cZ q bb bs bp w_2 hW_w_2  _) ⟨⟨rfl, rfl⟩, rfl, rfl⟩ sv_X10_40 ⟨(Nat.le_trans (by decide) hR.1), (Nat.le_trans (by decide) hR.2)⟩ 31 10 (hW_w_2.o tX_31) rfl rfl rfl hl.1 rfl (Nat.le_of_ble_eq_true rfl) dX10_rewind_13) (fun w_3 H locs hw_w_3 hP hD hS => ?_)
  obtain ⟨hW_w_3, hs_w_3⟩ := hw_w_3
  exact hret _ _ _ _ _ hP hD hS dX10_rewind_16 ⟨hW_w_3, (((Sm.rf.sf (hW_w.lt tX_31) ew_1 (by decide)).sf (hW_w_1.lt tX_31) ew_2 (by decide)).tr hs_w_3 (by decide))⟩
set_option maxRecDepth 100000 in
set_option maxHeartbeats 8000000 in
theorem k_X1_empty_at16 (l : Launch) (D : va_G) (cI cJ cZ : ClassId) (q : Nat → Nat) (bb bs bp : Nat) (w : va_W) (hW_w : HT q (TX q cI cJ cZ bb bs bp) w) (hf_34_4 : In 0 0 (fI w 34 4)) : Con_v l yX1_empty cX1_empty 1 none ({ frames := 0, cells := 0, slots := 0, locals := 0 }) D cI cJ cZ eW [.ref (q 16)] w (fun (w1 : va_W) => HT q (TX q cI cJ cZ bb bs bp) w1 ∧ Sm [16] [(16, 0), (16, 5), (16, 8), (16, 9), (16, 17), (16, 19)] w w1 ∧ In 0 0 (fI w1 16 0) ∧ In 0 0 (fI w1 16 5) ∧ In 0 0 (fI w1 16 8) ∧ In 0 0 (fI w1 16 17) ∧ In 0 0 (fI w1 16 19)) := by
  refine eQ_v rfl (by decide) (Nat.le_of_ble_eq_true rfl) ⟨rfl, rfl⟩ ?_
  intro p e R s m args below meth c A Q hx hb hml hown hts hK hE hA hR hret hP hD hS ls hl
  have hown : s.vm.findClass RX1 = some m.cls := hown
  have hl : lv_has ls 1 [(0, .ref (q 16))] := hl
  refine lv_aload_n hx hb dX1_empty_0 rfl (lv_at hl 0 rfl) ?_
  refine lv_iconst (v := 0) hx hb dX1_empty_1 (by decide) ?_
  refine pt_X1 hx hb hts hown hK hP hD hS 16 (hW_w.o tX_16) 0 (by decide) wd_35 rfl rfl (ty := .int) (v := .int 0) (by decide +kernel) rfl rfl (hW_w.ll tX_16 (Nat.le_of_ble_eq_true rfl)) dX1_empty_2 (fun H locs hP hD hS => fr_w (hW_w.sI tX_16 rfl (In_lit (n := 0) (by decide) (by decide) : In 0 10 0)) hP hD (fun w_1 ew_1 hW_w_1 hP hD => ?_))
  refine lv_aload_n hx hb dX1_empty_5 rfl (lv_at hl 0 rfl) ?_
  refine lv_iconst (v := 0) hx hb dX1_empty_6 (by decide) ?_
  refine pt_X1 hx hb hts hown hK hP hD hS 16 (hW_w_1.o tX_16) 5 (by decide) wd_54 rfl rfl (ty := .int) (v := .int 0) (by decide +kernel) rfl rfl (hW_w_1.ll tX_16 (Nat.le_of_ble_eq_true rfl)) dX1_empty_7 (fun H locs hP hD hS => fr_w (hW_w_1.sI tX_16 rfl (In_lit (n := 0) (by decide) (by decide) : In 0 8 0)) hP hD (fun w_2 ew_2 hW_w_2 hP hD => ?_))
  refine lv_aload_n hx hb dX1_empty_10 rfl (lv_at hl 0 rfl) ?_
  refine lv_iconst (v := 0) hx hb dX1_empty_11 (by decide) ?_
  refine pt_X1 hx hb hts hown hK hP hD hS 16 (hW_w_2.o tX_16) 8 (by decide) wd_63 rfl rfl (ty := .int) (v := .int 0) (by decide +kernel) rfl rfl (hW_w_2.ll tX_16 (Nat.le_of_ble_eq_true rfl)) dX1_empty_12 (fun H locs hP hD hS => fr_w (hW_w_2.sI tX_16 rfl (In_lit (n := 0) (by decide) (by decide) : In 0 24 0)) hP hD (fun w_3 ew_3 hW_w_3 hP hD => ?_))
  refine lv_aload_n hx hb dX1_empty_15 rfl (lv_at hl 0 rfl) ?_
  refine lv_sipush (v := 1000) hx hb dX1_empty_16 (by decide) ?_
  refine pt_X1 hx hb hts hown hK hP hD hS 16 (hW_w_3.o tX_16) 9 (by decide) wd_67 rfl rfl (ty := .int) (v := .int 1000) (by decide +kernel) rfl rfl (hW_w_3.ll tX_16 (Nat.le_of_ble_eq_true rfl)) dX1_empty_19 (fun H locs hP hD hS => fr_w (hW_w_3.sI tX_16 rfl (In_lit (n := 1000) (by decide) (by decide) : In (-2147483648) 2147483647 1000)) hP hD (fun w_4 ew_4 hW_w_4 hP hD => ?_))
  refine lv_aload_n hx hb dX1_empty_22 rfl (lv_at hl 0 rfl) ?_
  refine lv_iconst (v := 0) hx hb dX1_empty_23 (by decide) ?_
  refine pt_X1 hx hb hts hown hK hP hD hS 16 (hW_w_4.o tX_16) 17 (by decide) wd_86 rfl rfl (ty := .int) (v := .int 0) (by decide +kernel) rfl rfl (hW_w_4.ll tX_16 (Nat.le_of_ble_eq_true rfl)) dX1_empty_24 (fun H locs hP hD hS => fr_w (hW_w_4.sI tX_16 rfl (In_lit (n := 0) (by decide) (by decide) : In 0 1000 0)) hP hD (fun w_5 ew_5 hW_w_5 hP hD => ?_))
  refine lv_aload_n hx hb dX1_empty_27 rfl (lv_at hl 0 rfl) ?_
  refine lv_iconst (v := 0) hx hb dX1_empty_28 (by decide) ?_
  refine pt_X1 hx hb hts hown hK hP hD hS 16 (hW_w_5.o tX_16) 19 (by decide) wd_90 rfl rfl (ty := .int) (v := .int 0) (by decide +kernel) rfl rfl (hW_w_5.ll tX_16 (Nat.le_of_ble_eq_true rfl)) dX1_empty_29 (fun H locs hP hD hS => fr_w (hW_w_5.sI tX_16 rfl (In_lit (n := 0) (by decide) (by decide) : In 0 200 0)) hP hD (fun w_6 ew_6 hW_w_6 hP hD => ?_))
  exact hret _ _ _ _ _ hP hD hS dX1_empty_32 ⟨hW_w_6, ((((((Sm.rf.sf (hW_w.lt tX_16) ew_1 (by decide)).sf (hW_w_1.lt tX_16) ew_2 (by decide)).sf (hW_w_2.lt tX_16) ew_3 (by decide)).sf (hW_w_3.lt tX_16) ew_4 (by decide)).sf (hW_w_4.lt tX_16) ew_5 (by decide)).sf (hW_w_5.lt tX_16) ew_6 (by decide)), (In_of ((fI_nej (hW_w_5.lt tX_16) ew_6 (by decide)).trans ((fI_nej (hW_w_4.lt tX_16) ew_5 (by decide)).trans ((fI_nej (hW_w_3.lt tX_16) ew_4 (by decide)).trans ((fI_nej (hW_w_2.lt tX_16) ew_3 (by decide)).trans ((fI_nej (hW_w_1.lt tX_16) ew_2 (by decide)).trans (fI_eq (hW_w.lt tX_16) ew_1 (hW_w.ll tX_16 (Nat.le_of_ble_eq_true rfl)))))))) (In_lit (n := 0) (by decide) (by decide) : In 0 0 0)), (In_of ((fI_nej (hW_w_5.lt tX_16) ew_6 (by decide)).trans ((fI_nej (hW_w_4.lt tX_16) ew_5 (by decide)).trans ((fI_nej (hW_w_3.lt tX_16) ew_4 (by decide)).trans ((fI_nej (hW_w_2.lt tX_16) ew_3 (by decide)).trans (fI_eq (hW_w_1.lt tX_16) ew_2 (hW_w_1.ll tX_16 (Nat.le_of_ble_eq_true rfl))))))) (In_lit (n := 0) (by decide) (by decide) : In 0 0 0)), (In_of ((fI_nej (hW_w_5.lt tX_16) ew_6 (by decide)).trans ((fI_nej (hW_w_4.lt tX_16) ew_5 (by decide)).trans ((fI_nej (hW_w_3.lt tX_16) ew_4 (by decide)).trans (fI_eq (hW_w_2.lt tX_16) ew_3 (hW_w_2.ll tX_16 (Nat.le_of_ble_eq_true rfl)))))) (In_lit (n := 0) (by decide) (by decide) : In 0 0 0)), (In_of ((fI_nej (hW_w_5.lt tX_16) ew_6 (by decide)).trans (fI_eq (hW_w_4.lt tX_16) ew_5 (hW_w_4.ll tX_16 (Nat.le_of_ble_eq_true rfl)))) (In_lit (n := 0) (by decide) (by decide) : In 0 0 0)), (In_of (fI_eq (hW_w_5.lt tX_16) ew_6 (hW_w_5.ll tX_16 (Nat.le_of_ble_eq_true rfl))) (In_lit (n := 0) (by decide) (by decide) : In 0 0 0))⟩
set_option maxRecDepth 100000 in
set_option maxHeartbeats 8000000 in
theorem k_X1_addOther_at16 (l : Launch) (D : va_G) (cI cJ cZ : ClassId) (q : Nat → Nat) (bb bs bp : Nat) (w : va_W) (hW_w : HT q (TX q cI cJ cZ bb bs bp) w) (p1 : Int32) (p2 : Int32) (p3 : Int32) (p4 : Int32) (i_p1 : In 6 11 p1) (i_p2 : In 0 1000 p2) (i_p3 : In 0 1000 p3) (i_p4 : In 0 1000 p4) (hf_16_8 : In 0 23 (fI w 16 8)) (hf_34_4 : In 0 0 (fI w 34 4)) : Con_v l yX1_addOther cX1_addOther 5 none ({ frames := 0, cells := 0, slots := 0, locals := 0 }) D cI cJ cZ eW [.ref (q 16), .int p1, .int p2, .int p3, .int p4] w (fun (w1 : va_W) => HT q (TX q cI cJ cZ bb bs bp) w1 ∧ Sm [16, 23, 24, 25, 26, 27] [(16, 8)] w w1 ∧ In 1 24 (fI w1 16 8)) := by
  refine eQ_v rfl (by decide) (Nat.le_of_ble_eq_true rfl) ⟨rfl, rfl⟩ ?_
  intro p e R s m args below meth c A Q hx hb hml hown hts hK hE hA hR hret hP hD hS ls hl
  have hown : s.vm.findClass RX1 = some m.cls := hown
  have hl : lv_has ls 5 [(0, .ref (q 16)), (1, .int p1), (2, .int p2), (3, .int p3), (4, .int p4)] := hl
  refine lv_aload_n hx hb dX1_addOther_0 rfl (lv_at hl 0 rfl) ?_
  refine gt_X1 hx hb hts hown hK hP 16 (hW_w.o tX_16) 8 (by decide) wd_63 rfl (hW_w.fi tX_16 rfl) dX1_addOther_1 ?_
  refine lv_bipush (v := 24) hx hb dX1_addOther_4 (by decide) ?_
  refine lv_icmp_ge (tgt := 73) hx hb dX1_addOther_6 (by decide) (fun c_1 => ?_) (fun c_1 => ?_)
  · exact (In_no (R_le_l (In_lit (n := 24) (by decide) (by decide) : In 24 24 24) hf_16_8 c_1 (by decide) : In 24 23 24) (by decide)).elim
  · refine lv_aload_n hx hb dX1_addOther_9 rfl (lv_at hl 0 rfl) ?_
    refine gt_X1 hx hb hts hown hK hP 16 (hW_w.o tX_16) 10 (by decide) wd_71 rfl (hW_w.fr tX_16 rfl) dX1_addOther_10 ?_
    refine lv_aload_n hx hb dX1_addOther_13 rfl (lv_at hl 0 rfl) ?_
    refine gt_X1 hx hb hts hown hK hP 16 (hW_w.o tX_16) 8 (by decide) wd_63 rfl (hW_w.fi tX_16 rfl) dX1_addOther_14 ?_
    refine lv_iload_n hx hb dX1_addOther_17 rfl (lv_at hl 1 rfl) ?_
    refine va_iast hx hb hK hP hD hS 23 0 (hW_w.a tX_23) rfl (in_I hf_16_8 (by decide)) dX1_addOther_18 (fun H locs hP hD hS => fr_w (hW_w.uA tX_23 (In_w i_p1 (by decide) : In (-2147483648) 2147483647 p1)) hP hD (fun w_2 ew_2 hW_w_2 hP hD => ?_))
    refine lv_aload_n hx hb dX1_addOther_19 rfl (lv_at hl 0 rfl) ?_
    refine gt_X1 hx hb hts hown hK hP 16 (hW_w_2.o tX_16) 11 (by decide) wd_73 rfl (hW_w_2.fr tX_16 rfl) dX1_addOther_20 ?_
    refine lv_aload_n hx hb dX1_addOther_23 rfl (lv_at hl 0 rfl) ?_
    refine gt_X1 hx hb hts hown hK hP 16 (hW_w_2.o tX_16) 8 (by decide) wd_63 rfl (hW_w_2.fi tX_16 rfl) dX1_addOther_24 ?_
    refine tov (v := (fI w 16 8)) (fI_cg (st_ne ew_2 (by decide))) ?_
    refine lv_iload_n hx hb dX1_addOther_27 rfl (lv_at hl 2 rfl) ?_
    refine va_iast hx hb hK hP hD hS 24 0 (hW_w_2.a tX_24) rfl (in_I hf_16_8 (by decide)) dX1_addOther_28 (fun H locs hP hD hS => fr_w (hW_w_2.uA tX_24 i_p2) hP hD (fun w_3 ew_3 hW_w_3 hP hD => ?_))
    refine lv_aload_n hx hb dX1_addOther_29 rfl (lv_at hl 0 rfl) ?_
    refine gt_X1 hx hb hts hown hK hP 16 (hW_w_3.o tX_16) 12 (by decide) wd_76 rfl (hW_w_3.fr tX_16 rfl) dX1_addOther_30 ?_
    refine lv_aload_n hx hb dX1_addOther_33 rfl (lv_at hl 0 rfl) ?_
    refine gt_X1 hx hb hts hown hK hP 16 (hW_w_3.o tX_16) 8 (by decide) wd_63 rfl (hW_w_3.fi tX_16 rfl) dX1_addOther_34 ?_
    refine tov (v := (fI w 16 8)) ((fI_cg (st_ne ew_3 (by decide))).trans (fI_cg (st_ne ew_2 (by decide)))) ?_
    refine lv_iload_n hx hb dX1_addOther_37 rfl (lv_at hl 3 rfl) ?_
    refine va_iast hx hb hK hP hD hS 25 0 (hW_w_3.a tX_25) rfl (in_I hf_16_8 (by decide)) dX1_addOther_38 (fun H locs hP hD hS => fr_w (hW_w_3.uA tX_25 i_p3) hP hD (fun w_4 ew_4 hW_w_4 hP hD => ?_))
    refine lv_aload_n hx hb dX1_addOther_39 rfl (lv_at hl 0 rfl) ?_
    refine gt_X1 hx hb hts hown hK hP 16 (hW_w_4.o tX_16) 13 (by decide) wd_78 rfl (hW_w_4.fr tX_16 rfl) dX1_addOther_40 ?_
    refine lv_aload_n hx hb dX1_addOther_43 rfl (lv_at hl 0 rfl) ?_
    refine gt_X1 hx hb hts hown hK hP 16 (hW_w_4.o tX_16) 8 (by decide) wd_63 rfl (hW_w_4.fi tX_16 rfl) dX1_addOther_44 ?_
    refine tov (v := (fI w 16 8)) ((fI_cg (st_ne ew_4 (by decide))).trans ((fI_cg (st_ne ew_3 (by decide))).trans (fI_cg (st_ne ew_2 (by decide))))) ?_
    refine lv_iload hx hb dX1_addOther_47 (lv_at hl 4 rfl) ?_
    refine va_iast hx hb hK hP hD hS 26 0 (hW_w_4.a tX_26) rfl (in_I hf_16_8 (by decide)) dX1_addOther_49 (fun H locs hP hD hS => fr_w (hW_w_4.uA tX_26 i_p4) hP hD (fun w_5 ew_5 hW_w_5 hP hD => ?_))
    refine lv_aload_n hx hb dX1_addOther_50 rfl (lv_at hl 0 rfl) ?_
    refine gt_X1 hx hb hts hown hK hP 16 (hW_w_5.o tX_16) 14 (by decide) wd_80 rfl (hW_w_5.fr tX_16 rfl) dX1_addOther_51 ?_
    refine lv_aload_n hx hb dX1_addOther_54 rfl (lv_at hl 0 rfl) ?_
    refine gt_X1 hx hb hts hown hK hP 16 (hW_w_5.o tX_16) 8 (by decide) wd_63 rfl (hW_w_5.fi tX_16 rfl) dX1_addOther_55 ?_
    refine tov (v := (fI w 16 8)) ((fI_cg (st_ne ew_5 (by decide))).trans ((fI_cg (st_ne ew_4 (by decide))).trans ((fI_cg (st_ne ew_3 (by decide))).trans (fI_cg (st_ne ew_2 (by decide)))))) ?_
    refine lv_aload_n hx hb dX1_addOther_58 rfl (lv_at hl 0 rfl) ?_
    refine gt_X1 hx hb hts hown hK hP 16 (hW_w_5.o tX_16) 17 (by decide) wd_86 rfl (hW_w_5.fi tX_16 rfl) dX1_addOther_59 ?_
    refine tov (v := (fI w 16 17)) ((fI_cg (st_ne ew_5 (by decide))).trans ((fI_cg (st_ne ew_4 (by decide))).trans ((fI_cg (st_ne ew_3 (by decide))).trans (fI_cg (st_ne ew_2 (by decide)))))) ?_
    refine va_iast hx hb hK hP hD hS 27 0 (hW_w_5.a tX_27) rfl (in_I hf_16_8 (by decide)) dX1_addOther_62 (fun H locs hP hD hS => fr_w (hW_w_5.uA tX_27 (hW_w.fin tX_16 rfl : In 0 1000 (fI w 16 17))) hP hD (fun w_6 ew_6 hW_w_6 hP hD => ?_))
    refine lv_aload_n hx hb dX1_addOther_63 rfl (lv_at hl 0 rfl) ?_
    refine lv_dup hx hb dX1_addOther_64 rfl ?_
    refine gt_X1 hx hb hts hown hK hP 16 (hW_w_6.o tX_16) 8 (by decide) wd_63 rfl (hW_w_6.fi tX_16 rfl) dX1_addOther_65 ?_
    refine tov (v := (fI w 16 8)) ((fI_cg (st_ne ew_6 (by decide))).trans ((fI_cg (st_ne ew_5 (by decide))).trans ((fI_cg (st_ne ew_4 (by decide))).trans ((fI_cg (st_ne ew_3 (by decide))).trans (fI_cg (st_ne ew_2 (by decide))))))) ?_
    refine lv_iconst (v := 1) hx hb dX1_addOther_68 (by decide) ?_
    refine lv_iadd hx hb dX1_addOther_69 ?_
    refine pt_X1 hx hb hts hown hK hP hD hS 16 (hW_w_6.o tX_16) 8 (by decide) wd_63 rfl rfl (ty := .int) (v := .int ((fI w 16 8) + 1)) (by decide +kernel) rfl rfl (hW_w_6.ll tX_16 (Nat.le_of_ble_eq_true rfl)) dX1_addOther_70 (fun H locs hP hD hS => fr_w (hW_w_6.sI tX_16 rfl (In_w ((In_add hf_16_8 (In_lit (n := 1) (by decide) (by decide) : In 1 1 1) (by decide)) : In 1 24 ((fI w 16 8) + 1)) (by decide) : In 0 24 ((fI w 16 8) + 1))) hP hD (fun w_7 ew_7 hW_w_7 hP hD => ?_))
    exact hret _ _ _ _ _ hP hD hS dX1_addOther_73 ⟨hW_w_7, ((((((Sm.rf.sa ew_2 (by decide)).sa ew_3 (by decide)).sa ew_4 (by decide)).sa ew_5 (by decide)).sa ew_6 (by decide)).sf (hW_w_6.lt tX_16) ew_7 (by decide)), (In_of (fI_eq (hW_w_6.lt tX_16) ew_7 (hW_w_6.ll tX_16 (Nat.le_of_ble_eq_true rfl))) ((In_add hf_16_8 (In_lit (n := 1) (by decide) (by decide) : In 1 1 1) (by decide)) : In 1 24 ((fI w 16 8) + 1)))⟩
set_option maxRecDepth 100000 in
set_option maxHeartbeats 8000000 in
theorem k_X8_fails (l : Launch) (D : va_G) (cI cJ cZ : ClassId) (q : Nat → Nat) (bb bs : Nat) (w : va_W) (hW_w : HT q (TX q cI cJ cZ bb bs 16) w) (p1 : Int32) (i_p1 : In 1 5 p1) : Con_i l yX8_fails cX8_fails 2 (some .boolean) ({ frames := 0, cells := 0, slots := 0, locals := 0 }) D cI cJ cZ eW [.ref (q 34), .int p1] w (fun (r : Int32) (w1 : va_W) => HT q (TX q cI cJ cZ bb bs 16) w1 ∧ Sm [34] [(34, 2), (34, 3)] w w1 ∧ In 0 0 r) := by
  refine eQ_z rfl (by decide) (Nat.le_of_ble_eq_true rfl) ⟨rfl, rfl⟩ ?_
  intro p e R s m args below meth c A Q hx hb hml hown hts hK hE hA hR hret hP hD hS ls hl
  have hown : s.vm.findClass RX8 = some m.cls := hown
  have hl : lv_has ls 2 [(0, .ref (q 34)), (1, .int p1)] := hl
  refine lv_aload_n hx hb dX8_fails_0 rfl (lv_at hl 0 rfl) ?_
  refine lv_iload_n hx hb dX8_fails_1 rfl (lv_at hl 1 rfl) ?_
  refine pt_X8 hx hb hts hown hK hP hD hS 34 (hW_w.o tX_34) 2 (by decide) wd_229 rfl rfl (ty := .int) (v := .int p1) (by decide +kernel) rfl rfl (hW_w.ll tX_34 (Nat.le_of_ble_eq_true rfl)) dX8_fails_2 (fun H locs hP hD hS => fr_w (hW_w.sI tX_34 rfl (In_w i_p1 (by decide) : In (-2147483648) 2147483647 p1)) hP hD (fun w_1 ew_1 hW_w_1 hP hD => ?_))
  refine lv_aload_n hx hb dX8_fails_5 rfl (lv_at hl 0 rfl) ?_
  refine lv_aload_n hx hb dX8_fails_6 rfl (lv_at hl 0 rfl) ?_
  refine gt_X8 hx hb hts hown hK hP 34 (hW_w_1.o tX_34) 0 (by decide) wd_227 rfl (hW_w_1.fr tX_34 rfl) dX8_fails_7 ?_
  refine gt_X10 hx hb hts hown hK hP 31 (hW_w_1.o tX_31) 5 (by decide) wd_197 rfl (hW_w_1.fi tX_31 rfl) dX8_fails_10 ?_
  refine tov (v := (fI w 31 5)) (fI_cg (st_ne ew_1 (by decide))) ?_
  refine pt_X8 hx hb hts hown hK hP hD hS 34 (hW_w_1.o tX_34) 3 (by decide) wd_231 rfl rfl (ty := .int) (v := .int (fI w 31 5)) (by decide +kernel) rfl rfl (hW_w_1.ll tX_34 (Nat.le_of_ble_eq_true rfl)) dX8_fails_13 (fun H locs hP hD hS => fr_w (hW_w_1.sI tX_34 rfl (In_any _)) hP hD (fun w_2 ew_2 hW_w_2 hP hD => ?_))
  refine lv_iconst (v := 0) hx hb dX8_fails_16 (by decide) ?_
  exact hret _ _ _ _ _ _ hP hD hS dX8_fails_17 (In_lit (n := 0) (by decide) (by decide) : In 0 1 0) ⟨hW_w_2, ((Sm.rf.sf (hW_w.lt tX_34) ew_1 (by decide)).sf (hW_w_1.lt tX_34) ew_2 (by decide)), (In_lit (n := 0) (by decide) (by decide) : In 0 0 0)⟩
set_option maxRecDepth 100000 in
set_option maxHeartbeats 8000000 in
theorem k_X8_passes (l : Launch) (D : va_G) (cI cJ cZ : ClassId) (q : Nat → Nat) (bb bs : Nat) (w : va_W) (hW_w : HT q (TX q cI cJ cZ bb bs 16) w) (p1 : Int32) (i_p1 : In 41 271 p1) : Con_i l yX8_passes cX8_passes 2 (some .boolean) ({ frames := 2, cells := 0, slots := 0, locals := 47 }) D cI cJ cZ eW [.ref (q 34), .int p1] w (fun (r : Int32) (w1 : va_W) => HT q (TX q cI cJ cZ bb bs 16) w1 ∧ Sm [31, 34] [(31, 3), (31, 4), (31, 5), (31, 6), (31, 7), (34, 2), (34, 3)] w w1 ∧ In 0 1 r) := by
  refine eQ_z rfl (by decide) (Nat.le_of_ble_eq_true rfl) ⟨rfl, rfl⟩ ?_
  intro p e R s m args below meth c A Q hx hb hml hown hts hK hE hA hR hret hP hD hS ls hl
  have hown : s.vm.findClass RX8 = some m.cls := hown
  have hl : lv_has ls 2 [(0, .ref (q 34)), (1, .int p1)] := hl
  refine lv_aload_n hx hb dX8_passes_0 rfl (lv_at hl 0 rfl) ?_
  refine gt_X8 hx hb hts hown hK hP 34 (hW_w.o tX_34) 0 (by decide) wd_227 rfl (hW_w.fr tX_34 rfl) dX8_passes_1 ?_
  refine gt_X10 hx hb hts hown hK hP 31 (hW_w.o tX_31) 4 (by decide) wd_195 rfl (hW_w.fi tX_31 rfl) dX8_passes_4 ?_
  refine lv_iload_n hx hb dX8_passes_7 rfl (lv_at hl 1 rfl) ?_
  refine lv_icmp_eq (tgt := 17) hx hb dX8_passes_8 (by decide) (fun c_1 => ?_) (fun c_1 => ?_)
  · refine lv_aload_n hx hb dX8_passes_17 rfl (lv_at hl 0 rfl) ?_
    refine gt_X8 hx hb hts hown hK hP 34 (hW_w.o tX_34) 0 (by decide) wd_227 rfl (hW_w.fr tX_34 rfl) dX8_passes_18 ?_
    refine kW_v ⟨rfl, rfl⟩ hP hD hS hA (rW_V (As := []) (rest := []) hx hb hml hown hts hK hE hP hD (k_X10_step l D cI cJ cZ q bb bs 16 w hW_w  _) ⟨⟨rfl, rfl⟩, rfl, rfl⟩ sv_X8_59 ⟨(Nat.le_trans (by decide) hR.1), (Nat.le_trans (by decide) hR.2)⟩ 31 10 (hW_w.o tX_31) rfl rfl rfl hl.1 rfl (Nat.le_of_ble_eq_true rfl) dX8_passes_21) (fun w_2 H locs hw_w_2 hP hD hS => ?_)
    obtain ⟨hW_w_2, hs_w_2⟩ := hw_w_2
    refine lv_iconst (v := 1) hx hb dX8_passes_24 (by decide) ?_
    exact hret _ _ _ _ _ _ hP hD hS dX8_passes_25 (In_lit (n := 1) (by decide) (by decide) : In 0 1 1) ⟨hW_w_2, (Sm.rf.tr hs_w_2 (by decide)), (In_lit (n := 1) (by decide) (by decide) : In 0 1 1)⟩
  · refine lv_aload_n hx hb dX8_passes_11 rfl (lv_at hl 0 rfl) ?_
    refine lv_iconst (v := 1) hx hb dX8_passes_12 (by decide) ?_
    refine kW_i ⟨rfl, rfl⟩ hP hD hS hA (rW_V (As := [.int 1]) (rest := []) hx hb hml hown hts hK hE hP hD (k_X8_fails l D cI cJ cZ q bb bs w hW_w 1 (In_lit (n := 1) (by decide) (by decide) : In 1 5 1) _) ⟨⟨rfl, rfl⟩, rfl, rfl⟩ sv_X8_56 ⟨(Nat.le_trans (by decide) hR.1), (Nat.le_trans (by decide) hR.2)⟩ 34 8 (hW_w.o tX_34) rfl rfl rfl hl.1 rfl (Nat.le_of_ble_eq_true rfl) dX8_passes_13) (fun r_5 w_4 H locs hw_w_4 hP hD hS => ?_)
    obtain ⟨hW_w_4, hs_w_4, i_r_5⟩ := hw_w_4
    refine tov (v := 0) (In_one i_r_5 (by decide)) ?_
    exact hret _ _ _ _ _ _ hP hD hS dX8_passes_16 (In_lit (n := 0) (by decide) (by decide) : In 0 1 0) ⟨hW_w_4, (Sm.rf.tr hs_w_4 (by decide)), (In_lit (n := 0) (by decide) (by decide) : In 0 1 0)⟩
set_option maxRecDepth 100000 in
set_option maxHeartbeats 8000000 in
theorem k_X1_addCode_at16 (l : Launch) (D : va_G) (cI cJ cZ : ClassId) (q : Nat → Nat) (bb bs bp : Nat) (w : va_W) (hW_w : HT q (TX q cI cJ cZ bb bs bp) w) (p1 : Int32) (p2 : Int32) (i_p1 : In (-1) 15 p1) (hf_16_8 : In 0 23 (fI w 16 8)) (hok : okl p1 p2) : Con_v l yX1_addCode cX1_addCode 3 none ({ frames := 0, cells := 0, slots := 0, locals := 0 }) D cI cJ cZ eW [.ref (q 16), .int p1, .int p2] w (fun (w1 : va_W) => HT q (TX q cI cJ cZ bb bs bp) w1 ∧ Sm [16, 29] [(16, 17)] w w1 ∧ In 1 1000 (fI w1 16 17)) := by
  refine eQ_v rfl (by decide) (Nat.le_of_ble_eq_true rfl) ⟨rfl, rfl⟩ ?_
  intro p e R s m args below meth c A Q hx hb hml hown hts hK hE hA hR hret hP hD hS ls hl
  have hown : s.vm.findClass RX1 = some m.cls := hown
  have hl : lv_has ls 3 [(0, .ref (q 16)), (1, .int p1), (2, .int p2)] := hl
  refine lv_aload_n hx hb dX1_addCode_0 rfl (lv_at hl 0 rfl) ?_
  refine gt_X1 hx hb hts hown hK hP 16 (hW_w.o tX_16) 17 (by decide) wd_86 rfl (hW_w.fi tX_16 rfl) dX1_addCode_1 ?_
  refine lv_sipush (v := 1000) hx hb dX1_addCode_4 (by decide) ?_
  refine lv_icmp_ge (tgt := 34) hx hb dX1_addCode_7 (by decide) (fun c_1 => ?_) (fun c_1 => ?_)
  · exact hret _ _ _ _ _ hP hD hS dX1_addCode_34 ⟨hW_w, Sm.rf, (In_w (R_le_r (In_lit (n := 1000) (by decide) (by decide) : In 1000 1000 1000) (hW_w.fin tX_16 rfl : In 0 1000 (fI w 16 17)) c_1 (by decide) : In 1000 1000 (fI w 16 17)) (by decide) : In 1 1000 (fI w 16 17))⟩
  · refine lv_aload_n hx hb dX1_addCode_10 rfl (lv_at hl 0 rfl) ?_
    refine gt_X1 hx hb hts hown hK hP 16 (hW_w.o tX_16) 16 (by decide) wd_84 rfl (hW_w.fr tX_16 rfl) dX1_addCode_11 ?_
    refine lv_aload_n hx hb dX1_addCode_14 rfl (lv_at hl 0 rfl) ?_
    refine gt_X1 hx hb hts hown hK hP 16 (hW_w.o tX_16) 17 (by decide) wd_86 rfl (hW_w.fi tX_16 rfl) dX1_addCode_15 ?_
    refine lv_iload_n hx hb dX1_addCode_18 rfl (lv_at hl 2 rfl) ?_
    refine lv_iconst (v := 4) hx hb dX1_addCode_19 (by decide) ?_
    refine lv_ishl hx hb dX1_addCode_20 ?_
    refine lv_topi (fun v_2 ev_2 => ?_)
    refine lv_iload_n hx hb dX1_addCode_21 rfl (lv_at hl 1 rfl) ?_
    refine lv_ior hx hb dX1_addCode_22 ?_
    refine lv_topi (fun v_3 ev_3 => ?_)
    refine va_iast hx hb hK hP hD hS 29 0 (hW_w.a tX_29) rfl (in_I (R_nle_r (In_lit (n := 1000) (by decide) (by decide) : In 1000 1000 1000) (hW_w.fin tX_16 rfl : In 0 1000 (fI w 16 17)) c_1 (by decide) : In 0 999 (fI w 16 17)) (by decide)) dX1_addCode_23 (fun H locs hP hD hS => fr_w (hW_w.uA tX_29 (okc_st ev_2 ev_3 hok i_p1)) hP hD (fun w_4 ew_4 hW_w_4 hP hD => ?_))
    refine lv_aload_n hx hb dX1_addCode_24 rfl (lv_at hl 0 rfl) ?_
    refine lv_dup hx hb dX1_addCode_25 rfl ?_
    refine gt_X1 hx hb hts hown hK hP 16 (hW_w_4.o tX_16) 17 (by decide) wd_86 rfl (hW_w_4.fi tX_16 rfl) dX1_addCode_26 ?_
    refine tov (v := (fI w 16 17)) (fI_cg (st_ne ew_4 (by decide))) ?_
    refine lv_iconst (v := 1) hx hb dX1_addCode_29 (by decide) ?_
    refine lv_iadd hx hb dX1_addCode_30 ?_
    refine pt_X1 hx hb hts hown hK hP hD hS 16 (hW_w_4.o tX_16) 17 (by decide) wd_86 rfl rfl (ty := .int) (v := .int ((fI w 16 17) + 1)) (by decide +kernel) rfl rfl (hW_w_4.ll tX_16 (Nat.le_of_ble_eq_true rfl)) dX1_addCode_31 (fun H locs hP hD hS => fr_w (hW_w_4.sI tX_16 rfl (In_w ((In_add (R_nle_r (In_lit (n := 1000) (by decide) (by decide) : In 1000 1000 1000) (hW_w.fin tX_16 rfl : In 0 1000 (fI w 16 17)) c_1 (by decide) : In 0 999 (fI w 16 17)) (In_lit (n := 1) (by decide) (by decide) : In 1 1 1) (by decide)) : In 1 1000 ((fI w 16 17) + 1)) (by decide) : In 0 1000 ((fI w 16 17) + 1))) hP hD (fun w_5 ew_5 hW_w_5 hP hD => ?_))
    exact hret _ _ _ _ _ hP hD hS dX1_addCode_34 ⟨hW_w_5, ((Sm.rf.sa ew_4 (by decide)).sf (hW_w_4.lt tX_16) ew_5 (by decide)), (In_of (fI_eq (hW_w_4.lt tX_16) ew_5 (hW_w_4.ll tX_16 (Nat.le_of_ble_eq_true rfl))) ((In_add (R_nle_r (In_lit (n := 1000) (by decide) (by decide) : In 1000 1000 1000) (hW_w.fin tX_16 rfl : In 0 1000 (fI w 16 17)) c_1 (by decide) : In 0 999 (fI w 16 17)) (In_lit (n := 1) (by decide) (by decide) : In 1 1 1) (by decide)) : In 1 1000 ((fI w 16 17) + 1)))⟩
set_option maxRecDepth 100000 in
set_option maxHeartbeats 8000000 in
theorem k_X8_comparison (l : Launch) (D : va_G) (cI cJ cZ : ClassId) (q : Nat → Nat) (bb bs : Nat) (w : va_W) (hW_w : HT q (TX q cI cJ cZ bb bs 16) w) (p0 : Int32) (hf_16_8 : In 0 23 (fI w 16 8)) : Con_i l yX8_comparison cX8_comparison 1 (some .int) ({ frames := 0, cells := 0, slots := 0, locals := 0 }) D cI cJ cZ eW [.int p0] w (fun (r : Int32) (w1 : va_W) => HT q (TX q cI cJ cZ bb bs 16) w1 ∧ Sm [] [] w w1 ∧ In (-1) 12 r ∧ ((r = -1 ∨ 10 ≤ r.toInt))) := by
  refine eQ_i rfl (by decide) (Nat.le_of_ble_eq_true rfl) ⟨rfl, rfl⟩ ?_
  intro p e R s m args below meth c A Q hx hb hml hown hts hK hE hA hR hret hP hD hS ls hl
  have hown : s.vm.findClass RX8 = some m.cls := hown
  have hl : lv_has ls 1 [(0, .int p0)] := hl
  refine lv_iload_n hx hb dX8_comparison_0 rfl (lv_at hl 0 rfl) ?_
  refine lv_bipush (v := 60) hx hb dX8_comparison_1 (by decide) ?_
  refine lv_icmp_ne (tgt := 9) hx hb dX8_comparison_3 (by decide) (fun c_1 => ?_) (fun c_1 => ?_)
  · refine lv_iload_n hx hb dX8_comparison_9 rfl (lv_at hl 0 rfl) ?_
    refine lv_bipush (v := 62) hx hb dX8_comparison_10 (by decide) ?_
    refine lv_icmp_ne (tgt := 18) hx hb dX8_comparison_12 (by decide) (fun c_2 => ?_) (fun c_2 => ?_)
    · refine lv_iload_n hx hb dX8_comparison_18 rfl (lv_at hl 0 rfl) ?_
      refine lv_bipush (v := 61) hx hb dX8_comparison_19 (by decide) ?_
      refine lv_icmp_ne (tgt := 29) hx hb dX8_comparison_21 (by decide) (fun c_3 => ?_) (fun c_3 => ?_)
      · refine lv_iconst (v := (-1)) hx hb dX8_comparison_29 (by decide) ?_
        exact hret _ _ _ _ _ _ hP hD hS dX8_comparison_30 ⟨hW_w, Sm.rf, (In_lit (n := (-1)) (by decide) (by decide) : In (-1) 12 (-1)), (by decide)⟩
      · refine lv_bipush (v := 12) hx hb dX8_comparison_24 (by decide) ?_
        refine lv_goto (tgt := 30) hx hb dX8_comparison_26 (by decide) ?_
        exact hret _ _ _ _ _ _ hP hD hS dX8_comparison_30 ⟨hW_w, Sm.rf, (In_lit (n := 12) (by decide) (by decide) : In (-1) 12 12), (by decide)⟩
    · refine lv_bipush (v := 11) hx hb dX8_comparison_15 (by decide) ?_
      exact hret _ _ _ _ _ _ hP hD hS dX8_comparison_17 ⟨hW_w, Sm.rf, (In_lit (n := 11) (by decide) (by decide) : In (-1) 12 11), (by decide)⟩
  · refine lv_bipush (v := 10) hx hb dX8_comparison_6 (by decide) ?_
    exact hret _ _ _ _ _ _ hP hD hS dX8_comparison_8 ⟨hW_w, Sm.rf, (In_lit (n := 10) (by decide) (by decide) : In (-1) 12 10), (by decide)⟩
set_option maxRecDepth 100000 in
set_option maxHeartbeats 8000000 in
theorem k_X8_opens (l : Launch) (D : va_G) (cI cJ cZ : ClassId) (q : Nat → Nat) (bb bs : Nat) (w : va_W) (hW_w : HT q (TX q cI cJ cZ bb bs 16) w) (hf_16_8 : In 0 23 (fI w 16 8)) : Con_i l yX8_opens cX8_opens 1 (some .boolean) ({ frames := 2, cells := 0, slots := 0, locals := 47 }) D cI cJ cZ eW [.ref (q 34)] w (fun (r : Int32) (w1 : va_W) => HT q (TX q cI cJ cZ bb bs 16) w1 ∧ Sm [31, 34] [(31, 3), (31, 4), (31, 5), (31, 6), (31, 7), (34, 2), (34, 3), (34, 4)] w w1 ∧ In 0 1 r ∧ (r = 0 → fI w1 34 4 = fI w 34 4 ∧ In 8 2147483647 (fI w1 34 4)) ∧ (¬ r = 0 → In (-2147483647) 8 (fI w1 34 4)) ∧ ((¬ r = 0 → fI w1 34 4 = fI w 34 4 + 1 ∧ In (-2147483648) 7 (fI w 34 4)))) := by
  refine eQ_z rfl (by decide) (Nat.le_of_ble_eq_true rfl) ⟨rfl, rfl⟩ ?_
  intro p e R s m args below meth c A Q hx hb hml hown hts hK hE hA hR hret hP hD hS ls hl
  have hown : s.vm.findClass RX8 = some m.cls := hown
  have hl : lv_has ls 1 [(0, .ref (q 34))] := hl
  refine lv_aload_n hx hb dX8_opens_0 rfl (lv_at hl 0 rfl) ?_
  refine gt_X8 hx hb hts hown hK hP 34 (hW_w.o tX_34) 4 (by decide) wd_233 rfl (hW_w.fi tX_34 rfl) dX8_opens_1 ?_
  refine lv_bipush (v := 8) hx hb dX8_opens_4 (by decide) ?_
  refine lv_icmp_lt (tgt := 15) hx hb dX8_opens_6 (by decide) (fun c_1 => ?_) (fun c_1 => ?_)
  · refine lv_aload_n hx hb dX8_opens_15 rfl (lv_at hl 0 rfl) ?_
    refine lv_dup hx hb dX8_opens_16 rfl ?_
    refine gt_X8 hx hb hts hown hK hP 34 (hW_w.o tX_34) 4 (by decide) wd_233 rfl (hW_w.fi tX_34 rfl) dX8_opens_17 ?_
    refine lv_iconst (v := 1) hx hb dX8_opens_20 (by decide) ?_
    refine lv_iadd hx hb dX8_opens_21 ?_
    refine pt_X8 hx hb hts hown hK hP hD hS 34 (hW_w.o tX_34) 4 (by decide) wd_233 rfl rfl (ty := .int) (v := .int ((fI w 34 4) + 1)) (by decide +kernel) rfl rfl (hW_w.ll tX_34 (Nat.le_of_ble_eq_true rfl)) dX8_opens_22 (fun H locs hP hD hS => fr_w (hW_w.sI tX_34 rfl (In_w ((In_add (R_lt_l (In_any _) (In_lit (n := 8) (by decide) (by decide) : In 8 8 8) c_1 (by decide) : In (-2147483648) 7 (fI w 34 4)) (In_lit (n := 1) (by decide) (by decide) : In 1 1 1) (by decide)) : In (-2147483647) 8 ((fI w 34 4) + 1)) (by decide) : In (-2147483648) 2147483647 ((fI w 34 4) + 1))) hP hD (fun w_2 ew_2 hW_w_2 hP hD => ?_))
    refine lv_aload_n hx hb dX8_opens_25 rfl (lv_at hl 0 rfl) ?_
    refine gt_X8 hx hb hts hown hK hP 34 (hW_w_2.o tX_34) 0 (by decide) wd_227 rfl (hW_w_2.fr tX_34 rfl) dX8_opens_26 ?_
    refine kW_v ⟨rfl, rfl⟩ hP hD hS hA (rW_V (As := []) (rest := []) hx hb hml hown hts hK hE hP hD (k_X10_step l D cI cJ cZ q bb bs 16 w_2 hW_w_2  _) ⟨⟨rfl, rfl⟩, rfl, rfl⟩ sv_X8_59 ⟨(Nat.le_trans (by decide) hR.1), (Nat.le_trans (by decide) hR.2)⟩ 31 10 (hW_w_2.o tX_31) rfl rfl rfl hl.1 rfl (Nat.le_of_ble_eq_true rfl) dX8_opens_29) (fun w_3 H locs hw_w_3 hP hD hS => ?_)
    obtain ⟨hW_w_3, hs_w_3⟩ := hw_w_3
    refine lv_iconst (v := 1) hx hb dX8_opens_32 (by decide) ?_
    exact hret _ _ _ _ _ _ hP hD hS dX8_opens_33 (In_lit (n := 1) (by decide) (by decide) : In 0 1 1) ⟨hW_w_3, ((Sm.rf.sf (hW_w.lt tX_34) ew_2 (by decide)).tr hs_w_3 (by decide)), (In_lit (n := 1) (by decide) (by decide) : In 0 1 1), (fun h => absurd h (by decide)), (fun h => (In_of ((hs_w_3.gI (by decide)).trans (fI_eq (hW_w.lt tX_34) ew_2 (hW_w.ll tX_34 (Nat.le_of_ble_eq_true rfl)))) ((In_add (R_lt_l (In_any _) (In_lit (n := 8) (by decide) (by decide) : In 8 8 8) c_1 (by decide) : In (-2147483648) 7 (fI w 34 4)) (In_lit (n := 1) (by decide) (by decide) : In 1 1 1) (by decide)) : In (-2147483647) 8 ((fI w 34 4) + 1)))), (fun h => ⟨((hs_w_3.gI (by decide)).trans (fI_eq (hW_w.lt tX_34) ew_2 (hW_w.ll tX_34 (Nat.le_of_ble_eq_true rfl)))), (R_lt_l (In_any _) (In_lit (n := 8) (by decide) (by decide) : In 8 8 8) c_1 (by decide) : In (-2147483648) 7 (fI w 34 4))⟩)⟩
  · refine lv_aload_n hx hb dX8_opens_9 rfl (lv_at hl 0 rfl) ?_
    refine lv_iconst (v := 5) hx hb dX8_opens_10 (by decide) ?_
    refine kW_i ⟨rfl, rfl⟩ hP hD hS hA (rW_V (As := [.int 5]) (rest := []) hx hb hml hown hts hK hE hP hD (k_X8_fails l D cI cJ cZ q bb bs w hW_w 5 (In_lit (n := 5) (by decide) (by decide) : In 1 5 5) _) ⟨⟨rfl, rfl⟩, rfl, rfl⟩ sv_X8_56 ⟨(Nat.le_trans (by decide) hR.1), (Nat.le_trans (by decide) hR.2)⟩ 34 8 (hW_w.o tX_34) rfl rfl rfl hl.1 rfl (Nat.le_of_ble_eq_true rfl) dX8_opens_11) (fun r_6 w_5 H locs hw_w_5 hP hD hS => ?_)
    obtain ⟨hW_w_5, hs_w_5, i_r_6⟩ := hw_w_5
    refine tov (v := 0) (In_one i_r_6 (by decide)) ?_
    exact hret _ _ _ _ _ _ hP hD hS dX8_opens_14 (In_lit (n := 0) (by decide) (by decide) : In 0 1 0) ⟨hW_w_5, (Sm.rf.tr hs_w_5 (by decide)), (In_lit (n := 0) (by decide) (by decide) : In 0 1 0), (fun h => ⟨(hs_w_5.2 34 4 (by decide) (by decide)), (In_of (hs_w_5.2 34 4 (by decide) (by decide)) (R_nlt_l (In_any _) (In_lit (n := 8) (by decide) (by decide) : In 8 8 8) c_1 (by decide) : In 8 2147483647 (fI w 34 4)))⟩), (fun h => absurd rfl h), (fun h => absurd rfl h)⟩
set_option maxRecDepth 100000 in
set_option maxHeartbeats 8000000 in
theorem k_X8_passesComparison (l : Launch) (D : va_G) (cI cJ cZ : ClassId) (q : Nat → Nat) (bb bs : Nat) (w : va_W) (hW_w : HT q (TX q cI cJ cZ bb bs 16) w) (p1 : Int32) (i_p1 : In (-1) 12 p1) (hf_16_8 : In 0 23 (fI w 16 8)) (hf_16_17 : In 1 1000 (fI w 16 17)) : Con_i l yX8_passesComparison cX8_passesComparison 2 (some .boolean) ({ frames := 2, cells := 0, slots := 0, locals := 47 }) D cI cJ cZ eW [.ref (q 34), .int p1] w (fun (r : Int32) (w1 : va_W) => HT q (TX q cI cJ cZ bb bs 16) w1 ∧ Sm [31, 34] [(31, 3), (31, 4), (31, 5), (31, 6), (31, 7), (34, 2), (34, 3)] w w1 ∧ In 0 1 r ∧ (r = 0 → In (-1) (-1) p1) ∧ (¬ r = 0 → In 0 12 p1)) := by
  refine eQ_z rfl (by decide) (Nat.le_of_ble_eq_true rfl) ⟨rfl, rfl⟩ ?_
  intro p e R s m args below meth c A Q hx hb hml hown hts hK hE hA hR hret hP hD hS ls hl
  have hown : s.vm.findClass RX8 = some m.cls := hown
  have hl : lv_has ls 2 [(0, .ref (q 34)), (1, .int p1)] := hl
  refine lv_iload_n hx hb dX8_passesComparison_0 rfl (lv_at hl 1 rfl) ?_
  refine lv_iconst (v := (-1)) hx hb dX8_passesComparison_1 (by decide) ?_
  refine lv_icmp_ne (tgt := 11) hx hb dX8_passesComparison_2 (by decide) (fun c_1 => ?_) (fun c_1 => ?_)
  · refine lv_aload_n hx hb dX8_passesComparison_11 rfl (lv_at hl 0 rfl) ?_
    refine gt_X8 hx hb hts hown hK hP 34 (hW_w.o tX_34) 0 (by decide) wd_227 rfl (hW_w.fr tX_34 rfl) dX8_passesComparison_12 ?_
    refine kW_v ⟨rfl, rfl⟩ hP hD hS hA (rW_V (As := []) (rest := []) hx hb hml hown hts hK hE hP hD (k_X10_step l D cI cJ cZ q bb bs 16 w hW_w  _) ⟨⟨rfl, rfl⟩, rfl, rfl⟩ sv_X8_59 ⟨(Nat.le_trans (by decide) hR.1), (Nat.le_trans (by decide) hR.2)⟩ 31 10 (hW_w.o tX_31) rfl rfl rfl hl.1 rfl (Nat.le_of_ble_eq_true rfl) dX8_passesComparison_15) (fun w_2 H locs hw_w_2 hP hD hS => ?_)
    obtain ⟨hW_w_2, hs_w_2⟩ := hw_w_2
    refine lv_iconst (v := 1) hx hb dX8_passesComparison_18 (by decide) ?_
    exact hret _ _ _ _ _ _ hP hD hS dX8_passesComparison_19 (In_lit (n := 1) (by decide) (by decide) : In 0 1 1) ⟨hW_w_2, (Sm.rf.tr hs_w_2 (by decide)), (In_lit (n := 1) (by decide) (by decide) : In 0 1 1), (fun h => absurd h (by decide)), (fun h => (R_ne_l i_p1 (In_lit (n := (-1)) (by decide) (by decide) : In (-1) (-1) (-1)) c_1 (by decide) : In 0 12 p1))⟩
  · refine lv_aload_n hx hb dX8_passesComparison_5 rfl (lv_at hl 0 rfl) ?_
    refine lv_iconst (v := 1) hx hb dX8_passesComparison_6 (by decide) ?_
    refine kW_i ⟨rfl, rfl⟩ hP hD hS hA (rW_V (As := [.int 1]) (rest := []) hx hb hml hown hts hK hE hP hD (k_X8_fails l D cI cJ cZ q bb bs w hW_w 1 (In_lit (n := 1) (by decide) (by decide) : In 1 5 1) _) ⟨⟨rfl, rfl⟩, rfl, rfl⟩ sv_X8_56 ⟨(Nat.le_trans (by decide) hR.1), (Nat.le_trans (by decide) hR.2)⟩ 34 8 (hW_w.o tX_34) rfl rfl rfl hl.1 rfl (Nat.le_of_ble_eq_true rfl) dX8_passesComparison_7) (fun r_5 w_4 H locs hw_w_4 hP hD hS => ?_)
    obtain ⟨hW_w_4, hs_w_4, i_r_5⟩ := hw_w_4
    refine tov (v := 0) (In_one i_r_5 (by decide)) ?_
    exact hret _ _ _ _ _ _ hP hD hS dX8_passesComparison_10 (In_lit (n := 0) (by decide) (by decide) : In 0 1 0) ⟨hW_w_4, (Sm.rf.tr hs_w_4 (by decide)), (In_lit (n := 0) (by decide) (by decide) : In 0 1 0), (fun h => (R_eq_l i_p1 (In_lit (n := (-1)) (by decide) (by decide) : In (-1) (-1) (-1)) c_1 (by decide) : In (-1) (-1) p1)), (fun h => absurd rfl h)⟩
set_option maxRecDepth 100000 in
set_option maxHeartbeats 8000000 in
theorem k_X1_addAsked_at16 (l : Launch) (D : va_G) (cI cJ cZ : ClassId) (q : Nat → Nat) (bb bs bp : Nat) (w : va_W) (hW_w : HT q (TX q cI cJ cZ bb bs bp) w) (p1 : Int64) (hf_16_8 : In 0 23 (fI w 16 8)) : Con_v l yX1_addAsked cX1_addAsked 3 none ({ frames := 1, cells := 0, slots := 0, locals := 22 }) D cI cJ cZ eW [.ref (q 16), .long p1] w (fun (w1 : va_W) => HT q (TX q cI cJ cZ bb bs bp) w1 ∧ Sm [16, 29, 30] [(16, 17), (16, 19)] w w1 ∧ In 1 200 (fI w1 16 19)) := by
  refine eQ_v rfl (by decide) (Nat.le_of_ble_eq_true rfl) ⟨rfl, rfl⟩ ?_
  intro p e R s m args below meth c A Q hx hb hml hown hts hK hE hA hR hret hP hD hS ls hl
  have hown : s.vm.findClass RX1 = some m.cls := hown
  have hl : lv_has ls 3 [(0, .ref (q 16)), (1, .long p1)] := hl
  refine lv_aload_n hx hb dX1_addAsked_0 rfl (lv_at hl 0 rfl) ?_
  refine gt_X1 hx hb hts hown hK hP 16 (hW_w.o tX_16) 19 (by decide) wd_90 rfl (hW_w.fi tX_16 rfl) dX1_addAsked_1 ?_
  refine lv_sipush (v := 200) hx hb dX1_addAsked_4 (by decide) ?_
  refine lv_icmp_ge (tgt := 39) hx hb dX1_addAsked_7 (by decide) (fun c_1 => ?_) (fun c_1 => ?_)
  · exact hret _ _ _ _ _ hP hD hS dX1_addAsked_39 ⟨hW_w, Sm.rf, (In_w (R_le_r (In_lit (n := 200) (by decide) (by decide) : In 200 200 200) (hW_w.fin tX_16 rfl : In 0 200 (fI w 16 19)) c_1 (by decide) : In 200 200 (fI w 16 19)) (by decide) : In 1 200 (fI w 16 19))⟩
  · refine lv_aload_n hx hb dX1_addAsked_10 rfl (lv_at hl 0 rfl) ?_
    refine gt_X1 hx hb hts hown hK hP 16 (hW_w.o tX_16) 18 (by decide) wd_88 rfl (hW_w.fr tX_16 rfl) dX1_addAsked_11 ?_
    refine lv_aload_n hx hb dX1_addAsked_14 rfl (lv_at hl 0 rfl) ?_
    refine gt_X1 hx hb hts hown hK hP 16 (hW_w.o tX_16) 19 (by decide) wd_90 rfl (hW_w.fi tX_16 rfl) dX1_addAsked_15 ?_
    refine lv_lload_n hx hb dX1_addAsked_18 rfl (lv_at hl 1 rfl) ?_
    refine va_last hx hb hK hP hD hS 30 1 (hW_w.al tX_30) rfl (in_I (R_nle_r (In_lit (n := 200) (by decide) (by decide) : In 200 200 200) (hW_w.fin tX_16 rfl : In 0 200 (fI w 16 19)) c_1 (by decide) : In 0 199 (fI w 16 19)) (by decide)) dX1_addAsked_19 (fun H locs hP hD hS => fr_w (hW_w.uL tX_30) hP hD (fun w_2 ew_2 hW_w_2 hP hD => ?_))
    refine lv_aload_n hx hb dX1_addAsked_20 rfl (lv_at hl 0 rfl) ?_
    refine lv_iconst (v := 4) hx hb dX1_addAsked_21 (by decide) ?_
    refine lv_aload_n hx hb dX1_addAsked_22 rfl (lv_at hl 0 rfl) ?_
    refine gt_X1 hx hb hts hown hK hP 16 (hW_w_2.o tX_16) 19 (by decide) wd_90 rfl (hW_w_2.fi tX_16 rfl) dX1_addAsked_23 ?_
    refine tov (v := (fI w 16 19)) (fI_cg (st_ne ew_2 (by decide))) ?_
    refine kW_v ⟨rfl, rfl⟩ hP hD hS hA (rW_V (As := [.int 4, .int (fI w 16 19)]) (rest := []) hx hb hml hown hts hK hE hP hD (k_X1_addCode_at16 l D cI cJ cZ q bb bs bp w_2 hW_w_2 4 (fI w 16 19) (In_lit (n := 4) (by decide) (by decide) : In (-1) 15 4) (In_of (fI_cg (st_ne ew_2 (by decide))) hf_16_8) (⟨(fun h => absurd h (by decide)), (fun _ => (R_nle_r (In_lit (n := 200) (by decide) (by decide) : In 200 200 200) (hW_w.fin tX_16 rfl : In 0 200 (fI w 16 19)) c_1 (by decide) : In 0 199 (fI w 16 19))), (fun h => absurd h (by decide))⟩) _) ⟨⟨rfl, rfl⟩, rfl, rfl⟩ sv_X1_74 ⟨(Nat.le_trans (by decide) hR.1), (Nat.le_trans (by decide) hR.2)⟩ 16 1 (hW_w_2.o tX_16) rfl rfl rfl hl.1 rfl (Nat.le_of_ble_eq_true rfl) dX1_addAsked_26) (fun w_3 H locs hw_w_3 hP hD hS => ?_)
    obtain ⟨hW_w_3, hs_w_3, h_5⟩ := hw_w_3
    refine lv_aload_n hx hb dX1_addAsked_29 rfl (lv_at hl 0 rfl) ?_
    refine lv_dup hx hb dX1_addAsked_30 rfl ?_
    refine gt_X1 hx hb hts hown hK hP 16 (hW_w_3.o tX_16) 19 (by decide) wd_90 rfl (hW_w_3.fi tX_16 rfl) dX1_addAsked_31 ?_
    refine tov (v := (fI w 16 19)) ((hs_w_3.2 16 19 (by decide) (by decide)).trans (fI_cg (st_ne ew_2 (by decide)))) ?_
    refine lv_iconst (v := 1) hx hb dX1_addAsked_34 (by decide) ?_
    refine lv_iadd hx hb dX1_addAsked_35 ?_
    refine pt_X1 hx hb hts hown hK hP hD hS 16 (hW_w_3.o tX_16) 19 (by decide) wd_90 rfl rfl (ty := .int) (v := .int ((fI w 16 19) + 1)) (by decide +kernel) rfl rfl (hW_w_3.ll tX_16 (Nat.le_of_ble_eq_true rfl)) dX1_addAsked_36 (fun H locs hP hD hS => fr_w (hW_w_3.sI tX_16 rfl (In_w ((In_add (R_nle_r (In_lit (n := 200) (by decide) (by decide) : In 200 200 200) (hW_w.fin tX_16 rfl : In 0 200 (fI w 16 19)) c_1 (by decide) : In 0 199 (fI w 16 19)) (In_lit (n := 1) (by decide) (by decide) : In 1 1 1) (by decide)) : In 1 200 ((fI w 16 19) + 1)) (by decide) : In 0 200 ((fI w 16 19) + 1))) hP hD (fun w_6 ew_6 hW_w_6 hP hD => ?_))
    exact hret _ _ _ _ _ hP hD hS dX1_addAsked_39 ⟨hW_w_6, (((Sm.rf.sa ew_2 (by decide)).tr hs_w_3 (by decide)).sf (hW_w_3.lt tX_16) ew_6 (by decide)), (In_of (fI_eq (hW_w_3.lt tX_16) ew_6 (hW_w_3.ll tX_16 (Nat.le_of_ble_eq_true rfl))) ((In_add (R_nle_r (In_lit (n := 200) (by decide) (by decide) : In 200 200 200) (hW_w.fin tX_16 rfl : In 0 200 (fI w 16 19)) c_1 (by decide) : In 0 199 (fI w 16 19)) (In_lit (n := 1) (by decide) (by decide) : In 1 1 1) (by decide)) : In 1 200 ((fI w 16 19) + 1)))⟩
set_option maxRecDepth 100000 in
set_option maxHeartbeats 8000000 in
theorem k_X8_readsFact (l : Launch) (D : va_G) (cI cJ cZ : ClassId) (q : Nat → Nat) (bb bs : Nat) (w : va_W) (hW_w : HT q (TX q cI cJ cZ bb bs 16) w) (hf_16_8 : In 0 23 (fI w 16 8)) : Con_i l yX8_readsFact cX8_readsFact 1 (some .boolean) ({ frames := 2, cells := 0, slots := 0, locals := 47 }) D cI cJ cZ eW [.ref (q 34)] w (fun (r : Int32) (w1 : va_W) => HT q (TX q cI cJ cZ bb bs 16) w1 ∧ Sm [16, 29, 30, 31, 34] [(16, 17), (16, 19), (31, 3), (31, 4), (31, 5), (31, 6), (31, 7), (34, 2), (34, 3)] w w1 ∧ In 0 1 r) := by
  refine eQ_z rfl (by decide) (Nat.le_of_ble_eq_true rfl) ⟨rfl, rfl⟩ ?_
  intro p e R s m args below meth c A Q hx hb hml hown hts hK hE hA hR hret hP hD hS ls hl
  have hown : s.vm.findClass RX8 = some m.cls := hown
  have hl : lv_has ls 1 [(0, .ref (q 34))] := hl
  refine lv_aload_n hx hb dX8_readsFact_0 rfl (lv_at hl 0 rfl) ?_
  refine gt_X8 hx hb hts hown hK hP 34 (hW_w.o tX_34) 0 (by decide) wd_227 rfl (hW_w.fr tX_34 rfl) dX8_readsFact_1 ?_
  refine gt_X10 hx hb hts hown hK hP 31 (hW_w.o tX_31) 4 (by decide) wd_195 rfl (hW_w.fi tX_31 rfl) dX8_readsFact_4 ?_
  refine lv_sipush (v := 276) hx hb dX8_readsFact_7 (by decide) ?_
  refine lv_icmp_ne (tgt := 25) hx hb dX8_readsFact_10 (by decide) (fun c_1 => ?_) (fun c_1 => ?_)
  · refine lv_aload_n hx hb dX8_readsFact_25 rfl (lv_at hl 0 rfl) ?_
    refine gt_X8 hx hb hts hown hK hP 34 (hW_w.o tX_34) 0 (by decide) wd_227 rfl (hW_w.fr tX_34 rfl) dX8_readsFact_26 ?_
    refine kW_v ⟨rfl, rfl⟩ hP hD hS hA (rW_V (As := []) (rest := []) hx hb hml hown hts hK hE hP hD (k_X10_step l D cI cJ cZ q bb bs 16 w hW_w  _) ⟨⟨rfl, rfl⟩, rfl, rfl⟩ sv_X8_59 ⟨(Nat.le_trans (by decide) hR.1), (Nat.le_trans (by decide) hR.2)⟩ 31 10 (hW_w.o tX_31) rfl rfl rfl hl.1 rfl (Nat.le_of_ble_eq_true rfl) dX8_readsFact_29) (fun w_2 H locs hw_w_2 hP hD hS => ?_)
    obtain ⟨hW_w_2, hs_w_2⟩ := hw_w_2
    refine lv_aload_n hx hb dX8_readsFact_32 rfl (lv_at hl 0 rfl) ?_
    refine gt_X8 hx hb hts hown hK hP 34 (hW_w_2.o tX_34) 0 (by decide) wd_227 rfl (hW_w_2.fr tX_34 rfl) dX8_readsFact_33 ?_
    refine gt_X10 hx hb hts hown hK hP 31 (hW_w_2.o tX_31) 4 (by decide) wd_195 rfl (hW_w_2.fi tX_31 rfl) dX8_readsFact_36 ?_
    refine lv_sipush (v := 258) hx hb dX8_readsFact_39 (by decide) ?_
    refine lv_icmp_eq (tgt := 51) hx hb dX8_readsFact_42 (by decide) (fun c_4 => ?_) (fun c_4 => ?_)
    · refine lv_aload_n hx hb dX8_readsFact_51 rfl (lv_at hl 0 rfl) ?_
      refine gt_X8 hx hb hts hown hK hP 34 (hW_w_2.o tX_34) 1 (by decide) wd_228 rfl (hW_w_2.fr tX_34 rfl) dX8_readsFact_52 ?_
      refine lv_aload_n hx hb dX8_readsFact_55 rfl (lv_at hl 0 rfl) ?_
      refine gt_X8 hx hb hts hown hK hP 34 (hW_w_2.o tX_34) 0 (by decide) wd_227 rfl (hW_w_2.fr tX_34 rfl) dX8_readsFact_56 ?_
      refine gt_X10 hx hb hts hown hK hP 31 (hW_w_2.o tX_31) 6 (by decide) wd_200 rfl (hW_w_2.fl tX_31 rfl) dX8_readsFact_59 ?_
      refine kW_v ⟨rfl, rfl⟩ hP hD hS hA (rW_V (As := [.long (fL w_2 31 6)]) (rest := []) hx hb hml hown hts hK hE hP hD (k_X1_addAsked_at16 l D cI cJ cZ q bb bs 16 w_2 hW_w_2 (fL w_2 31 6) (In_of (hs_w_2.gI (by decide)) hf_16_8) _) ⟨⟨rfl, rfl⟩, rfl, rfl⟩ sv_X8_169 ⟨(Nat.le_trans (by decide) hR.1), (Nat.le_trans (by decide) hR.2)⟩ 16 1 (hW_w_2.o tX_16) rfl rfl rfl hl.1 rfl (Nat.le_of_ble_eq_true rfl) dX8_readsFact_62) (fun w_5 H locs hw_w_5 hP hD hS => ?_)
      obtain ⟨hW_w_5, hs_w_5, h_7⟩ := hw_w_5
      refine lv_aload_n hx hb dX8_readsFact_65 rfl (lv_at hl 0 rfl) ?_
      refine gt_X8 hx hb hts hown hK hP 34 (hW_w_5.o tX_34) 0 (by decide) wd_227 rfl (hW_w_5.fr tX_34 rfl) dX8_readsFact_66 ?_
      refine kW_v ⟨rfl, rfl⟩ hP hD hS hA (rW_V (As := []) (rest := []) hx hb hml hown hts hK hE hP hD (k_X10_step l D cI cJ cZ q bb bs 16 w_5 hW_w_5  _) ⟨⟨rfl, rfl⟩, rfl, rfl⟩ sv_X8_59 ⟨(Nat.le_trans (by decide) hR.1), (Nat.le_trans (by decide) hR.2)⟩ 31 10 (hW_w_5.o tX_31) rfl rfl rfl hl.1 rfl (Nat.le_of_ble_eq_true rfl) dX8_readsFact_69) (fun w_8 H locs hw_w_8 hP hD hS => ?_)
      obtain ⟨hW_w_8, hs_w_8⟩ := hw_w_8
      refine lv_iconst (v := 1) hx hb dX8_readsFact_72 (by decide) ?_
      exact hret _ _ _ _ _ _ hP hD hS dX8_readsFact_73 (In_lit (n := 1) (by decide) (by decide) : In 0 1 1) ⟨hW_w_8, (((Sm.rf.tr hs_w_2 (by decide)).tr hs_w_5 (by decide)).tr hs_w_8 (by decide)), (In_lit (n := 1) (by decide) (by decide) : In 0 1 1)⟩
    · refine lv_aload_n hx hb dX8_readsFact_45 rfl (lv_at hl 0 rfl) ?_
      refine lv_iconst (v := 1) hx hb dX8_readsFact_46 (by decide) ?_
      refine kW_i ⟨rfl, rfl⟩ hP hD hS hA (rW_V (As := [.int 1]) (rest := []) hx hb hml hown hts hK hE hP hD (k_X8_fails l D cI cJ cZ q bb bs w_2 hW_w_2 1 (In_lit (n := 1) (by decide) (by decide) : In 1 5 1) _) ⟨⟨rfl, rfl⟩, rfl, rfl⟩ sv_X8_56 ⟨(Nat.le_trans (by decide) hR.1), (Nat.le_trans (by decide) hR.2)⟩ 34 8 (hW_w_2.o tX_34) rfl rfl rfl hl.1 rfl (Nat.le_of_ble_eq_true rfl) dX8_readsFact_47) (fun r_11 w_10 H locs hw_w_10 hP hD hS => ?_)
      obtain ⟨hW_w_10, hs_w_10, i_r_11⟩ := hw_w_10
      refine tov (v := 0) (In_one i_r_11 (by decide)) ?_
      exact hret _ _ _ _ _ _ hP hD hS dX8_readsFact_50 (In_lit (n := 0) (by decide) (by decide) : In 0 1 0) ⟨hW_w_10, ((Sm.rf.tr hs_w_2 (by decide)).tr hs_w_10 (by decide)), (In_lit (n := 0) (by decide) (by decide) : In 0 1 0)⟩
  · refine lv_aload_n hx hb dX8_readsFact_13 rfl (lv_at hl 0 rfl) ?_
    refine gt_X8 hx hb hts hown hK hP 34 (hW_w.o tX_34) 1 (by decide) wd_228 rfl (hW_w.fr tX_34 rfl) dX8_readsFact_14 ?_
    refine lv_iconst (v := 3) hx hb dX8_readsFact_17 (by decide) ?_
    refine lv_iconst (v := 0) hx hb dX8_readsFact_18 (by decide) ?_
    refine kW_v ⟨rfl, rfl⟩ hP hD hS hA (rW_V (As := [.int 3, .int 0]) (rest := []) hx hb hml hown hts hK hE hP hD (k_X1_addCode_at16 l D cI cJ cZ q bb bs 16 w hW_w 3 0 (In_lit (n := 3) (by decide) (by decide) : In (-1) 15 3) hf_16_8 (⟨(fun h => absurd h (by decide)), (fun h => absurd h (by decide)), (fun h => absurd h (by decide))⟩) _) ⟨⟨rfl, rfl⟩, rfl, rfl⟩ sv_X8_146 ⟨(Nat.le_trans (by decide) hR.1), (Nat.le_trans (by decide) hR.2)⟩ 16 1 (hW_w.o tX_16) rfl rfl rfl hl.1 rfl (Nat.le_of_ble_eq_true rfl) dX8_readsFact_19) (fun w_12 H locs hw_w_12 hP hD hS => ?_)
    obtain ⟨hW_w_12, hs_w_12, h_14⟩ := hw_w_12
    refine lv_goto (tgt := 65) hx hb dX8_readsFact_22 (by decide) ?_
    refine lv_aload_n hx hb dX8_readsFact_65 rfl (lv_at hl 0 rfl) ?_
    refine gt_X8 hx hb hts hown hK hP 34 (hW_w_12.o tX_34) 0 (by decide) wd_227 rfl (hW_w_12.fr tX_34 rfl) dX8_readsFact_66 ?_
    refine kW_v ⟨rfl, rfl⟩ hP hD hS hA (rW_V (As := []) (rest := []) hx hb hml hown hts hK hE hP hD (k_X10_step l D cI cJ cZ q bb bs 16 w_12 hW_w_12  _) ⟨⟨rfl, rfl⟩, rfl, rfl⟩ sv_X8_59 ⟨(Nat.le_trans (by decide) hR.1), (Nat.le_trans (by decide) hR.2)⟩ 31 10 (hW_w_12.o tX_31) rfl rfl rfl hl.1 rfl (Nat.le_of_ble_eq_true rfl) dX8_readsFact_69) (fun w_15 H locs hw_w_15 hP hD hS => ?_)
    obtain ⟨hW_w_15, hs_w_15⟩ := hw_w_15
    refine lv_iconst (v := 1) hx hb dX8_readsFact_72 (by decide) ?_
    exact hret _ _ _ _ _ _ hP hD hS dX8_readsFact_73 (In_lit (n := 1) (by decide) (by decide) : In 0 1 1) ⟨hW_w_15, ((Sm.rf.tr hs_w_12 (by decide)).tr hs_w_15 (by decide)), (In_lit (n := 1) (by decide) (by decide) : In 0 1 1)⟩
set_option maxRecDepth 100000 in
set_option maxHeartbeats 8000000 in
theorem k_X1_kindOf_at16 (l : Launch) (D : va_G) (cI cJ cZ : ClassId) (q : Nat → Nat) (bb bs bp : Nat) (w : va_W) (hW_w : HT q (TX q cI cJ cZ bb bs bp) w) (p1 : Int64) : Con_i l yX1_kindOf cX1_kindOf 4 (some .int) ({ frames := 0, cells := 0, slots := 0, locals := 0 }) D cI cJ cZ eW [.ref (q 16), .long p1] w (fun (r : Int32) (w1 : va_W) => HT q (TX q cI cJ cZ bb bs bp) w1 ∧ Sm [] [] w w1 ∧ In (-1) 9 r) := by
  refine eQ_i rfl (by decide) (Nat.le_of_ble_eq_true rfl) ⟨rfl, rfl⟩ ?_
  intro p e R s m args below meth c A Q hx hb hml hown hts hK hE hA hR hret hP hD hS ls hl
  have hown : s.vm.findClass RX1 = some m.cls := hown
  have hl : lv_has ls 4 [(0, .ref (q 16)), (1, .long p1)] := hl
  have J2 : ∀ (N : Nat) (x2_3 : Int32) (w2 : va_W) (H : Heap) (locs : List Loc) (ls : Array Slot), (10 - x2_3.toInt).toNat < N → HT q (TX q cI cJ cZ bb bs bp) w2 → Sm [] [] w w2 → (In 0 10 x2_3) → va_P D vwCl w2 H → va_D A w2 → va_S A s.heap H locs → lv_has ls 4 [(0, .ref (q 16)), (1, .long p1), (3, .int x2_3)] → W p l e R s m args below meth c H locs 0 0 Q (F0 m 2 ls []) := by
    intro N
    induction N with
    | zero => intro x2_3 w2 H locs ls hmu; exact absurd hmu (Nat.not_lt_zero _)
    | succ N ih2 =>
      intro x2_3 w2 H locs ls hmu2 hW_w2 hM_w2 i_x2_3 hP hD hS hl
      refine lv_iload_n hx hb dX1_kindOf_2 rfl (lv_at hl 2 rfl) ?_
      refine lv_aload_n hx hb dX1_kindOf_3 rfl (lv_at hl 0 rfl) ?_
      refine gt_X1 hx hb hts hown hK hP 16 (hW_w2.o tX_16) 0 (by decide) wd_35 rfl (hW_w2.fi tX_16 rfl) dX1_kindOf_4 ?_
      refine tov (v := (fI w 16 0)) (hM_w2.gI (by decide)) ?_
      refine lv_icmp_ge (tgt := 29) hx hb dX1_kindOf_7 (by decide) (fun c_1 => ?_) (fun c_1 => ?_)
      · refine lv_iconst (v := (-1)) hx hb dX1_kindOf_29 (by decide) ?_
        exact hret _ _ _ _ _ _ hP hD hS dX1_kindOf_30 ⟨hW_w2, hM_w2, (In_lit (n := (-1)) (by decide) (by decide) : In (-1) 9 (-1))⟩
      · refine lv_aload_n hx hb dX1_kindOf_10 rfl (lv_at hl 0 rfl) ?_
        refine gt_X1 hx hb hts hown hK hP 16 (hW_w2.o tX_16) 1 (by decide) wd_41 rfl (hW_w2.fr tX_16 rfl) dX1_kindOf_11 ?_
        refine lv_iload_n hx hb dX1_kindOf_14 rfl (lv_at hl 2 rfl) ?_
        refine va_lald hx hb hK hP 17 1 (hW_w2.al tX_17) rfl (in_I (R_nle_r (hW_w.fin tX_16 rfl : In 0 10 (fI w 16 0)) i_x2_3 c_1 (by decide) : In 0 9 x2_3) (by decide)) dX1_kindOf_15 ?_
        refine lv_topl (fun v_2 ev_2 => ?_)
        refine lv_lload_n hx hb dX1_kindOf_16 rfl (lv_at hl 1 rfl) ?_
        refine W.lcmp hx hb dX1_kindOf_17 ?_
        refine lv_topi (fun v_3 ev_3 => ?_)
        refine lv_if_ne (tgt := 23) hx hb dX1_kindOf_18 (by decide) (fun c_4 => ?_) (fun c_4 => ?_)
        · refine lv_iinc (v := (x2_3 + 1)) (lv' := [(3, .int (x2_3 + 1)), (0, .ref (q 16)), (1, .long p1)]) hx hb dX1_kindOf_23 hl (k := 2) rfl (rfl) (by decide) rfl (fun ls hl => ?_)
          refine lv_goto (tgt := 2) hx hb dX1_kindOf_26 (by decide) ?_
          exact ih2 (x2_3 + 1) w2 _ _ ls (mu_inc hmu2 (R_nle_r (hW_w.fin tX_16 rfl : In 0 10 (fI w 16 0)) i_x2_3 c_1 (by decide) : In 0 9 x2_3) (In_lit (n := 1) (by decide) (by decide) : In 1 1 1) (by decide)) hW_w2 hM_w2 (In_w ((In_add (y := 1) (R_nle_r (hW_w.fin tX_16 rfl : In 0 10 (fI w 16 0)) i_x2_3 c_1 (by decide) : In 0 9 x2_3) (In_lit (n := 1) (by decide) (by decide) : In 1 1 1) (by decide)) : In 1 10 (x2_3 + 1)) (by decide) : In 0 10 (x2_3 + 1)) hP hD hS (lv_sub hl [1, 2, 0] rfl)
        · refine lv_iload_n hx hb dX1_kindOf_21 rfl (lv_at hl 2 rfl) ?_
          exact hret _ _ _ _ _ _ hP hD hS dX1_kindOf_22 ⟨hW_w2, hM_w2, (In_w (R_nle_r (hW_w.fin tX_16 rfl : In 0 10 (fI w 16 0)) i_x2_3 c_1 (by decide) : In 0 9 x2_3) (by decide) : In (-1) 9 x2_3)⟩
  refine lv_iconst (v := 0) hx hb dX1_kindOf_0 (by decide) ?_
  refine lv_istore_n (lv' := [(3, .int 0), (0, .ref (q 16)), (1, .long p1)]) hx hb dX1_kindOf_1 rfl hl (by decide) rfl (fun ls hl => ?_)
  exact J2 _ 0 w _ _ ls (Nat.lt_succ_self _) hW_w Sm.rf (In_lit (n := 0) (by decide) (by decide) : In 0 10 0) hP hD hS (lv_sub hl [1, 2, 0] rfl)
set_option maxRecDepth 100000 in
set_option maxHeartbeats 8000000 in
theorem k_X1_markOf_at16 (l : Launch) (D : va_G) (cI cJ cZ : ClassId) (q : Nat → Nat) (bb bs bp : Nat) (w : va_W) (hW_w : HT q (TX q cI cJ cZ bb bs bp) w) (p1 : Int64) : Con_i l yX1_markOf cX1_markOf 4 (some .int) ({ frames := 0, cells := 0, slots := 0, locals := 0 }) D cI cJ cZ eW [.ref (q 16), .long p1] w (fun (r : Int32) (w1 : va_W) => HT q (TX q cI cJ cZ bb bs bp) w1 ∧ Sm [] [] w w1 ∧ In (-1) 7 r) := by
  refine eQ_i rfl (by decide) (Nat.le_of_ble_eq_true rfl) ⟨rfl, rfl⟩ ?_
  intro p e R s m args below meth c A Q hx hb hml hown hts hK hE hA hR hret hP hD hS ls hl
  have hown : s.vm.findClass RX1 = some m.cls := hown
  have hl : lv_has ls 4 [(0, .ref (q 16)), (1, .long p1)] := hl
  have J2 : ∀ (N : Nat) (x2_3 : Int32) (w2 : va_W) (H : Heap) (locs : List Loc) (ls : Array Slot), (8 - x2_3.toInt).toNat < N → HT q (TX q cI cJ cZ bb bs bp) w2 → Sm [] [] w w2 → (In 0 8 x2_3) → va_P D vwCl w2 H → va_D A w2 → va_S A s.heap H locs → lv_has ls 4 [(0, .ref (q 16)), (1, .long p1), (3, .int x2_3)] → W p l e R s m args below meth c H locs 0 0 Q (F0 m 2 ls []) := by
    intro N
    induction N with
    | zero => intro x2_3 w2 H locs ls hmu; exact absurd hmu (Nat.not_lt_zero _)
    | succ N ih2 =>
      intro x2_3 w2 H locs ls hmu2 hW_w2 hM_w2 i_x2_3 hP hD hS hl
      refine lv_iload_n hx hb dX1_markOf_2 rfl (lv_at hl 2 rfl) ?_
      refine lv_aload_n hx hb dX1_markOf_3 rfl (lv_at hl 0 rfl) ?_
      refine gt_X1 hx hb hts hown hK hP 16 (hW_w2.o tX_16) 5 (by decide) wd_54 rfl (hW_w2.fi tX_16 rfl) dX1_markOf_4 ?_
      refine tov (v := (fI w 16 5)) (hM_w2.gI (by decide)) ?_
      refine lv_icmp_ge (tgt := 29) hx hb dX1_markOf_7 (by decide) (fun c_1 => ?_) (fun c_1 => ?_)
      · refine lv_iconst (v := (-1)) hx hb dX1_markOf_29 (by decide) ?_
        exact hret _ _ _ _ _ _ hP hD hS dX1_markOf_30 ⟨hW_w2, hM_w2, (In_lit (n := (-1)) (by decide) (by decide) : In (-1) 7 (-1))⟩
      · refine lv_aload_n hx hb dX1_markOf_10 rfl (lv_at hl 0 rfl) ?_
        refine gt_X1 hx hb hts hown hK hP 16 (hW_w2.o tX_16) 6 (by decide) wd_57 rfl (hW_w2.fr tX_16 rfl) dX1_markOf_11 ?_
        refine lv_iload_n hx hb dX1_markOf_14 rfl (lv_at hl 2 rfl) ?_
        refine va_lald hx hb hK hP 21 1 (hW_w2.al tX_21) rfl (in_I (R_nle_r (hW_w.fin tX_16 rfl : In 0 8 (fI w 16 5)) i_x2_3 c_1 (by decide) : In 0 7 x2_3) (by decide)) dX1_markOf_15 ?_
        refine lv_topl (fun v_2 ev_2 => ?_)
        refine lv_lload_n hx hb dX1_markOf_16 rfl (lv_at hl 1 rfl) ?_
        refine W.lcmp hx hb dX1_markOf_17 ?_
        refine lv_topi (fun v_3 ev_3 => ?_)
        refine lv_if_ne (tgt := 23) hx hb dX1_markOf_18 (by decide) (fun c_4 => ?_) (fun c_4 => ?_)
        · refine lv_iinc (v := (x2_3 + 1)) (lv' := [(3, .int (x2_3 + 1)), (0, .ref (q 16)), (1, .long p1)]) hx hb dX1_markOf_23 hl (k := 2) rfl (rfl) (by decide) rfl (fun ls hl => ?_)
          refine lv_goto (tgt := 2) hx hb dX1_markOf_26 (by decide) ?_
          exact ih2 (x2_3 + 1) w2 _ _ ls (mu_inc hmu2 (R_nle_r (hW_w.fin tX_16 rfl : In 0 8 (fI w 16 5)) i_x2_3 c_1 (by decide) : In 0 7 x2_3) (In_lit (n := 1) (by decide) (by decide) : In 1 1 1) (by decide)) hW_w2 hM_w2 (In_w ((In_add (y := 1) (R_nle_r (hW_w.fin tX_16 rfl : In 0 8 (fI w 16 5)) i_x2_3 c_1 (by decide) : In 0 7 x2_3) (In_lit (n := 1) (by decide) (by decide) : In 1 1 1) (by decide)) : In 1 8 (x2_3 + 1)) (by decide) : In 0 8 (x2_3 + 1)) hP hD hS (lv_sub hl [1, 2, 0] rfl)
        · refine lv_iload_n hx hb dX1_markOf_21 rfl (lv_at hl 2 rfl) ?_
          exact hret _ _ _ _ _ _ hP hD hS dX1_markOf_22 ⟨hW_w2, hM_w2, (In_w (R_nle_r (hW_w.fin tX_16 rfl : In 0 8 (fI w 16 5)) i_x2_3 c_1 (by decide) : In 0 7 x2_3) (by decide) : In (-1) 7 x2_3)⟩
  refine lv_iconst (v := 0) hx hb dX1_markOf_0 (by decide) ?_
  refine lv_istore_n (lv' := [(3, .int 0), (0, .ref (q 16)), (1, .long p1)]) hx hb dX1_markOf_1 rfl hl (by decide) rfl (fun ls hl => ?_)
  exact J2 _ 0 w _ _ ls (Nat.lt_succ_self _) hW_w Sm.rf (In_lit (n := 0) (by decide) (by decide) : In 0 8 0) hP hD hS (lv_sub hl [1, 2, 0] rfl)
set_option maxRecDepth 100000 in
set_option maxHeartbeats 8000000 in
theorem k_X8_readsKinds (l : Launch) (D : va_G) (cI cJ cZ : ClassId) (q : Nat → Nat) (bb bs : Nat) (w : va_W) (hW_w : HT q (TX q cI cJ cZ bb bs 16) w) (hf_16_8 : In 0 23 (fI w 16 8)) : Con_i l yX8_readsKinds cX8_readsKinds 3 (some .boolean) ({ frames := 2, cells := 0, slots := 0, locals := 47 }) D cI cJ cZ eW [.ref (q 34)] w (fun (r : Int32) (w1 : va_W) => HT q (TX q cI cJ cZ bb bs 16) w1 ∧ Sm [16, 29, 31, 34] [(16, 17), (31, 3), (31, 4), (31, 5), (31, 6), (31, 7), (34, 2), (34, 3)] w w1 ∧ In 0 1 r ∧ (¬ r = 0 → In 1 1000 (fI w1 16 17))) := by
  refine eQ_z rfl (by decide) (Nat.le_of_ble_eq_true rfl) ⟨rfl, rfl⟩ ?_
  intro p e R s m args below meth c A Q hx hb hml hown hts hK hE hA hR hret hP hD hS ls hl
  have hown : s.vm.findClass RX8 = some m.cls := hown
  have hl : lv_has ls 3 [(0, .ref (q 34))] := hl
  refine lv_aload_n hx hb dX8_readsKinds_0 rfl (lv_at hl 0 rfl) ?_
  refine gt_X8 hx hb hts hown hK hP 34 (hW_w.o tX_34) 0 (by decide) wd_227 rfl (hW_w.fr tX_34 rfl) dX8_readsKinds_1 ?_
  refine gt_X10 hx hb hts hown hK hP 31 (hW_w.o tX_31) 4 (by decide) wd_195 rfl (hW_w.fi tX_31 rfl) dX8_readsKinds_4 ?_
  refine lv_sipush (v := 275) hx hb dX8_readsKinds_7 (by decide) ?_
  refine lv_icmp_ne (tgt := 25) hx hb dX8_readsKinds_10 (by decide) (fun c_1 => ?_) (fun c_1 => ?_)
  · refine lv_aload_n hx hb dX8_readsKinds_25 rfl (lv_at hl 0 rfl) ?_
    refine gt_X8 hx hb hts hown hK hP 34 (hW_w.o tX_34) 0 (by decide) wd_227 rfl (hW_w.fr tX_34 rfl) dX8_readsKinds_26 ?_
    refine gt_X10 hx hb hts hown hK hP 31 (hW_w.o tX_31) 4 (by decide) wd_195 rfl (hW_w.fi tX_31 rfl) dX8_readsKinds_29 ?_
    refine lv_sipush (v := 258) hx hb dX8_readsKinds_32 (by decide) ?_
    refine lv_icmp_ne (tgt := 115) hx hb dX8_readsKinds_35 (by decide) (fun c_2 => ?_) (fun c_2 => ?_)
    · refine lv_aload_n hx hb dX8_readsKinds_115 rfl (lv_at hl 0 rfl) ?_
      refine lv_iconst (v := 1) hx hb dX8_readsKinds_116 (by decide) ?_
      refine kW_i ⟨rfl, rfl⟩ hP hD hS hA (rW_V (As := [.int 1]) (rest := []) hx hb hml hown hts hK hE hP hD (k_X8_fails l D cI cJ cZ q bb bs w hW_w 1 (In_lit (n := 1) (by decide) (by decide) : In 1 5 1) _) ⟨⟨rfl, rfl⟩, rfl, rfl⟩ sv_X8_56 ⟨(Nat.le_trans (by decide) hR.1), (Nat.le_trans (by decide) hR.2)⟩ 34 8 (hW_w.o tX_34) rfl rfl rfl hl.1 rfl (Nat.le_of_ble_eq_true rfl) dX8_readsKinds_117) (fun r_4 w_3 H locs hw_w_3 hP hD hS => ?_)
      obtain ⟨hW_w_3, hs_w_3, i_r_4⟩ := hw_w_3
      refine tov (v := 0) (In_one i_r_4 (by decide)) ?_
      exact hret _ _ _ _ _ _ hP hD hS dX8_readsKinds_120 (In_lit (n := 0) (by decide) (by decide) : In 0 1 0) ⟨hW_w_3, (Sm.rf.tr hs_w_3 (by decide)), (In_lit (n := 0) (by decide) (by decide) : In 0 1 0), (fun h => absurd rfl h)⟩
    · refine lv_aload_n hx hb dX8_readsKinds_38 rfl (lv_at hl 0 rfl) ?_
      refine gt_X8 hx hb hts hown hK hP 34 (hW_w.o tX_34) 1 (by decide) wd_228 rfl (hW_w.fr tX_34 rfl) dX8_readsKinds_39 ?_
      refine lv_aload_n hx hb dX8_readsKinds_42 rfl (lv_at hl 0 rfl) ?_
      refine gt_X8 hx hb hts hown hK hP 34 (hW_w.o tX_34) 0 (by decide) wd_227 rfl (hW_w.fr tX_34 rfl) dX8_readsKinds_43 ?_
      refine gt_X10 hx hb hts hown hK hP 31 (hW_w.o tX_31) 6 (by decide) wd_200 rfl (hW_w.fl tX_31 rfl) dX8_readsKinds_46 ?_
      refine kW_i ⟨rfl, rfl⟩ hP hD hS hA (rW_V (As := [.long (fL w 31 6)]) (rest := []) hx hb hml hown hts hK hE hP hD (k_X1_kindOf_at16 l D cI cJ cZ q bb bs 16 w hW_w (fL w 31 6) _) ⟨⟨rfl, rfl⟩, rfl, rfl⟩ sv_X8_69 ⟨(Nat.le_trans (by decide) hR.1), (Nat.le_trans (by decide) hR.2)⟩ 16 1 (hW_w.o tX_16) rfl rfl rfl hl.1 rfl (Nat.le_of_ble_eq_true rfl) dX8_readsKinds_49) (fun r_6 w_5 H locs hw_w_5 hP hD hS => ?_)
      obtain ⟨hW_w_5, hs_w_5, i_r_6⟩ := hw_w_5
      refine lv_istore_n (lv' := [(1, .int r_6), (0, .ref (q 34))]) hx hb dX8_readsKinds_52 rfl hl (by decide) rfl (fun ls hl => ?_)
      refine lv_aload_n hx hb dX8_readsKinds_53 rfl (lv_at hl 1 rfl) ?_
      refine gt_X8 hx hb hts hown hK hP 34 (hW_w_5.o tX_34) 1 (by decide) wd_228 rfl (hW_w_5.fr tX_34 rfl) dX8_readsKinds_54 ?_
      refine lv_aload_n hx hb dX8_readsKinds_57 rfl (lv_at hl 1 rfl) ?_
      refine gt_X8 hx hb hts hown hK hP 34 (hW_w_5.o tX_34) 0 (by decide) wd_227 rfl (hW_w_5.fr tX_34 rfl) dX8_readsKinds_58 ?_
      refine gt_X10 hx hb hts hown hK hP 31 (hW_w_5.o tX_31) 6 (by decide) wd_200 rfl (hW_w_5.fl tX_31 rfl) dX8_readsKinds_61 ?_
      refine tol (v := (fL w 31 6)) (hs_w_5.gL (by decide)) ?_
      refine kW_i ⟨rfl, rfl⟩ hP hD hS hA (rW_V (As := [.long (fL w 31 6)]) (rest := []) hx hb hml hown hts hK hE hP hD (k_X1_markOf_at16 l D cI cJ cZ q bb bs 16 w_5 hW_w_5 (fL w 31 6) _) ⟨⟨rfl, rfl⟩, rfl, rfl⟩ sv_X8_73 ⟨(Nat.le_trans (by decide) hR.1), (Nat.le_trans (by decide) hR.2)⟩ 16 1 (hW_w_5.o tX_16) rfl rfl rfl hl.1 rfl (Nat.le_of_ble_eq_true rfl) dX8_readsKinds_64) (fun r_8 w_7 H locs hw_w_7 hP hD hS => ?_)
      obtain ⟨hW_w_7, hs_w_7, i_r_8⟩ := hw_w_7
      refine lv_istore_n (lv' := [(2, .int r_8), (1, .int r_6), (0, .ref (q 34))]) hx hb dX8_readsKinds_67 rfl hl (by decide) rfl (fun ls hl => ?_)
      refine lv_iload_n hx hb dX8_readsKinds_68 rfl (lv_at hl 1 rfl) ?_
      refine lv_iconst (v := (-1)) hx hb dX8_readsKinds_69 (by decide) ?_
      refine lv_icmp_ne (tgt := 84) hx hb dX8_readsKinds_70 (by decide) (fun c_9 => ?_) (fun c_9 => ?_)
      · refine lv_aload_n hx hb dX8_readsKinds_84 rfl (lv_at hl 2 rfl) ?_
        refine gt_X8 hx hb hts hown hK hP 34 (hW_w_7.o tX_34) 1 (by decide) wd_228 rfl (hW_w_7.fr tX_34 rfl) dX8_readsKinds_85 ?_
        refine lv_iload_n hx hb dX8_readsKinds_88 rfl (lv_at hl 1 rfl) ?_
        refine lv_iconst (v := (-1)) hx hb dX8_readsKinds_89 (by decide) ?_
        refine lv_icmp_eq (tgt := 97) hx hb dX8_readsKinds_90 (by decide) (fun c_10 => ?_) (fun c_10 => ?_)
        · exact (In_no (R_eq_l (R_ne_l i_r_6 (In_lit (n := (-1)) (by decide) (by decide) : In (-1) (-1) (-1)) c_9 (by decide) : In 0 9 r_6) (In_lit (n := (-1)) (by decide) (by decide) : In (-1) (-1) (-1)) c_10 (by decide) : In 0 (-1) r_6) (by decide)).elim
        · refine lv_iconst (v := 5) hx hb dX8_readsKinds_93 (by decide) ?_
          refine lv_goto (tgt := 99) hx hb dX8_readsKinds_94 (by decide) ?_
          refine lv_iload_n hx hb dX8_readsKinds_99 rfl (lv_at hl 1 rfl) ?_
          refine lv_iconst (v := (-1)) hx hb dX8_readsKinds_100 (by decide) ?_
          refine lv_icmp_eq (tgt := 108) hx hb dX8_readsKinds_101 (by decide) (fun c_11 => ?_) (fun c_11 => ?_)
          · exact (In_no (R_eq_l (R_ne_l i_r_6 (In_lit (n := (-1)) (by decide) (by decide) : In (-1) (-1) (-1)) c_9 (by decide) : In 0 9 r_6) (In_lit (n := (-1)) (by decide) (by decide) : In (-1) (-1) (-1)) c_11 (by decide) : In 0 (-1) r_6) (by decide)).elim
          · refine lv_iload_n hx hb dX8_readsKinds_104 rfl (lv_at hl 1 rfl) ?_
            refine lv_goto (tgt := 109) hx hb dX8_readsKinds_105 (by decide) ?_
            refine kW_v ⟨rfl, rfl⟩ hP hD hS hA (rW_V (As := [.int 5, .int r_6]) (rest := []) hx hb hml hown hts hK hE hP hD (k_X1_addCode_at16 l D cI cJ cZ q bb bs 16 w_7 hW_w_7 5 r_6 (In_lit (n := 5) (by decide) (by decide) : In (-1) 15 5) (In_of ((hs_w_7.gI (by decide)).trans (hs_w_5.gI (by decide))) hf_16_8) (⟨(fun h => absurd h (by decide)), (fun h => absurd h (by decide)), (fun h => absurd h (by decide))⟩) _) ⟨⟨rfl, rfl⟩, rfl, rfl⟩ sv_X8_146 ⟨(Nat.le_trans (by decide) hR.1), (Nat.le_trans (by decide) hR.2)⟩ 16 1 (hW_w_7.o tX_16) rfl rfl rfl hl.1 rfl (Nat.le_of_ble_eq_true rfl) dX8_readsKinds_109) (fun w_12 H locs hw_w_12 hP hD hS => ?_)
            obtain ⟨hW_w_12, hs_w_12, h_14⟩ := hw_w_12
            refine lv_goto (tgt := 121) hx hb dX8_readsKinds_112 (by decide) ?_
            refine lv_aload_n hx hb dX8_readsKinds_121 rfl (lv_at hl 2 rfl) ?_
            refine gt_X8 hx hb hts hown hK hP 34 (hW_w_12.o tX_34) 0 (by decide) wd_227 rfl (hW_w_12.fr tX_34 rfl) dX8_readsKinds_122 ?_
            refine kW_v ⟨rfl, rfl⟩ hP hD hS hA (rW_V (As := []) (rest := []) hx hb hml hown hts hK hE hP hD (k_X10_step l D cI cJ cZ q bb bs 16 w_12 hW_w_12  _) ⟨⟨rfl, rfl⟩, rfl, rfl⟩ sv_X8_59 ⟨(Nat.le_trans (by decide) hR.1), (Nat.le_trans (by decide) hR.2)⟩ 31 10 (hW_w_12.o tX_31) rfl rfl rfl hl.1 rfl (Nat.le_of_ble_eq_true rfl) dX8_readsKinds_125) (fun w_15 H locs hw_w_15 hP hD hS => ?_)
            obtain ⟨hW_w_15, hs_w_15⟩ := hw_w_15
            refine lv_iconst (v := 1) hx hb dX8_readsKinds_128 (by decide) ?_
            exact hret _ _ _ _ _ _ hP hD hS dX8_readsKinds_129 (In_lit (n := 1) (by decide) (by decide) : In 0 1 1) ⟨hW_w_15, ((((Sm.rf.tr hs_w_5 (by decide)).tr hs_w_7 (by decide)).tr hs_w_12 (by decide)).tr hs_w_15 (by decide)), (In_lit (n := 1) (by decide) (by decide) : In 0 1 1), (fun h => (In_of (hs_w_15.gI (by decide)) h_14))⟩
      · refine lv_iload_n hx hb dX8_readsKinds_73 rfl (lv_at hl 0 rfl) ?_
        refine lv_iconst (v := (-1)) hx hb dX8_readsKinds_74 (by decide) ?_
        refine lv_icmp_ne (tgt := 84) hx hb dX8_readsKinds_75 (by decide) (fun c_17 => ?_) (fun c_17 => ?_)
        · refine lv_aload_n hx hb dX8_readsKinds_84 rfl (lv_at hl 2 rfl) ?_
          refine gt_X8 hx hb hts hown hK hP 34 (hW_w_7.o tX_34) 1 (by decide) wd_228 rfl (hW_w_7.fr tX_34 rfl) dX8_readsKinds_85 ?_
          refine lv_iload_n hx hb dX8_readsKinds_88 rfl (lv_at hl 1 rfl) ?_
          refine lv_iconst (v := (-1)) hx hb dX8_readsKinds_89 (by decide) ?_
          refine lv_icmp_eq (tgt := 97) hx hb dX8_readsKinds_90 (by decide) (fun c_18 => ?_) (fun c_18 => ?_)
          · refine lv_bipush (v := 6) hx hb dX8_readsKinds_97 (by decide) ?_
            refine lv_iload_n hx hb dX8_readsKinds_99 rfl (lv_at hl 1 rfl) ?_
            refine lv_iconst (v := (-1)) hx hb dX8_readsKinds_100 (by decide) ?_
            refine lv_icmp_eq (tgt := 108) hx hb dX8_readsKinds_101 (by decide) (fun c_19 => ?_) (fun c_19 => ?_)
            · refine lv_iload_n hx hb dX8_readsKinds_108 rfl (lv_at hl 0 rfl) ?_
              refine kW_v ⟨rfl, rfl⟩ hP hD hS hA (rW_V (As := [.int 6, .int r_8]) (rest := []) hx hb hml hown hts hK hE hP hD (k_X1_addCode_at16 l D cI cJ cZ q bb bs 16 w_7 hW_w_7 6 r_8 (In_lit (n := 6) (by decide) (by decide) : In (-1) 15 6) (In_of ((hs_w_7.gI (by decide)).trans (hs_w_5.gI (by decide))) hf_16_8) (⟨(fun h => absurd h (by decide)), (fun h => absurd h (by decide)), (fun _ => (R_ne_l i_r_8 (In_lit (n := (-1)) (by decide) (by decide) : In (-1) (-1) (-1)) c_17 (by decide) : In 0 7 r_8))⟩) _) ⟨⟨rfl, rfl⟩, rfl, rfl⟩ sv_X8_146 ⟨(Nat.le_trans (by decide) hR.1), (Nat.le_trans (by decide) hR.2)⟩ 16 1 (hW_w_7.o tX_16) rfl rfl rfl hl.1 rfl (Nat.le_of_ble_eq_true rfl) dX8_readsKinds_109) (fun w_20 H locs hw_w_20 hP hD hS => ?_)
              obtain ⟨hW_w_20, hs_w_20, h_22⟩ := hw_w_20
              refine lv_goto (tgt := 121) hx hb dX8_readsKinds_112 (by decide) ?_
              refine lv_aload_n hx hb dX8_readsKinds_121 rfl (lv_at hl 2 rfl) ?_
              refine gt_X8 hx hb hts hown hK hP 34 (hW_w_20.o tX_34) 0 (by decide) wd_227 rfl (hW_w_20.fr tX_34 rfl) dX8_readsKinds_122 ?_
              refine kW_v ⟨rfl, rfl⟩ hP hD hS hA (rW_V (As := []) (rest := []) hx hb hml hown hts hK hE hP hD (k_X10_step l D cI cJ cZ q bb bs 16 w_20 hW_w_20  _) ⟨⟨rfl, rfl⟩, rfl, rfl⟩ sv_X8_59 ⟨(Nat.le_trans (by decide) hR.1), (Nat.le_trans (by decide) hR.2)⟩ 31 10 (hW_w_20.o tX_31) rfl rfl rfl hl.1 rfl (Nat.le_of_ble_eq_true rfl) dX8_readsKinds_125) (fun w_23 H locs hw_w_23 hP hD hS => ?_)
              obtain ⟨hW_w_23, hs_w_23⟩ := hw_w_23
              refine lv_iconst (v := 1) hx hb dX8_readsKinds_128 (by decide) ?_
              exact hret _ _ _ _ _ _ hP hD hS dX8_readsKinds_129 (In_lit (n := 1) (by decide) (by decide) : In 0 1 1) ⟨hW_w_23, ((((Sm.rf.tr hs_w_5 (by decide)).tr hs_w_7 (by decide)).tr hs_w_20 (by decide)).tr hs_w_23 (by decide)), (In_lit (n := 1) (by decide) (by decide) : In 0 1 1), (fun h => (In_of (hs_w_23.gI (by decide)) h_22))⟩
            · exact (In_no (R_ne_l (R_eq_l i_r_6 (In_lit (n := (-1)) (by decide) (by decide) : In (-1) (-1) (-1)) c_9 (by decide) : In (-1) (-1) r_6) (In_lit (n := (-1)) (by decide) (by decide) : In (-1) (-1) (-1)) c_19 (by decide) : In 0 (-2) r_6) (by decide)).elim
          · exact (In_no (R_ne_l (R_eq_l i_r_6 (In_lit (n := (-1)) (by decide) (by decide) : In (-1) (-1) (-1)) c_9 (by decide) : In (-1) (-1) r_6) (In_lit (n := (-1)) (by decide) (by decide) : In (-1) (-1) (-1)) c_18 (by decide) : In 0 (-2) r_6) (by decide)).elim
        · refine lv_aload_n hx hb dX8_readsKinds_78 rfl (lv_at hl 2 rfl) ?_
          refine lv_iconst (v := 3) hx hb dX8_readsKinds_79 (by decide) ?_
          refine kW_i ⟨rfl, rfl⟩ hP hD hS hA (rW_V (As := [.int 3]) (rest := []) hx hb hml hown hts hK hE hP hD (k_X8_fails l D cI cJ cZ q bb bs w_7 hW_w_7 3 (In_lit (n := 3) (by decide) (by decide) : In 1 5 3) _) ⟨⟨rfl, rfl⟩, rfl, rfl⟩ sv_X8_56 ⟨(Nat.le_trans (by decide) hR.1), (Nat.le_trans (by decide) hR.2)⟩ 34 8 (hW_w_7.o tX_34) rfl rfl rfl hl.1 rfl (Nat.le_of_ble_eq_true rfl) dX8_readsKinds_80) (fun r_26 w_25 H locs hw_w_25 hP hD hS => ?_)
          obtain ⟨hW_w_25, hs_w_25, i_r_26⟩ := hw_w_25
          refine tov (v := 0) (In_one i_r_26 (by decide)) ?_
          exact hret _ _ _ _ _ _ hP hD hS dX8_readsKinds_83 (In_lit (n := 0) (by decide) (by decide) : In 0 1 0) ⟨hW_w_25, (((Sm.rf.tr hs_w_5 (by decide)).tr hs_w_7 (by decide)).tr hs_w_25 (by decide)), (In_lit (n := 0) (by decide) (by decide) : In 0 1 0), (fun h => absurd rfl h)⟩
  · refine lv_aload_n hx hb dX8_readsKinds_13 rfl (lv_at hl 0 rfl) ?_
    refine gt_X8 hx hb hts hown hK hP 34 (hW_w.o tX_34) 1 (by decide) wd_228 rfl (hW_w.fr tX_34 rfl) dX8_readsKinds_14 ?_
    refine lv_iconst (v := 3) hx hb dX8_readsKinds_17 (by decide) ?_
    refine lv_iconst (v := 0) hx hb dX8_readsKinds_18 (by decide) ?_
    refine kW_v ⟨rfl, rfl⟩ hP hD hS hA (rW_V (As := [.int 3, .int 0]) (rest := []) hx hb hml hown hts hK hE hP hD (k_X1_addCode_at16 l D cI cJ cZ q bb bs 16 w hW_w 3 0 (In_lit (n := 3) (by decide) (by decide) : In (-1) 15 3) hf_16_8 (⟨(fun h => absurd h (by decide)), (fun h => absurd h (by decide)), (fun h => absurd h (by decide))⟩) _) ⟨⟨rfl, rfl⟩, rfl, rfl⟩ sv_X8_146 ⟨(Nat.le_trans (by decide) hR.1), (Nat.le_trans (by decide) hR.2)⟩ 16 1 (hW_w.o tX_16) rfl rfl rfl hl.1 rfl (Nat.le_of_ble_eq_true rfl) dX8_readsKinds_19) (fun w_27 H locs hw_w_27 hP hD hS => ?_)
    obtain ⟨hW_w_27, hs_w_27, h_29⟩ := hw_w_27
    refine lv_goto (tgt := 121) hx hb dX8_readsKinds_22 (by decide) ?_
    refine lv_aload_n hx hb dX8_readsKinds_121 rfl (lv_at hl 0 rfl) ?_
    refine gt_X8 hx hb hts hown hK hP 34 (hW_w_27.o tX_34) 0 (by decide) wd_227 rfl (hW_w_27.fr tX_34 rfl) dX8_readsKinds_122 ?_
    refine kW_v ⟨rfl, rfl⟩ hP hD hS hA (rW_V (As := []) (rest := []) hx hb hml hown hts hK hE hP hD (k_X10_step l D cI cJ cZ q bb bs 16 w_27 hW_w_27  _) ⟨⟨rfl, rfl⟩, rfl, rfl⟩ sv_X8_59 ⟨(Nat.le_trans (by decide) hR.1), (Nat.le_trans (by decide) hR.2)⟩ 31 10 (hW_w_27.o tX_31) rfl rfl rfl hl.1 rfl (Nat.le_of_ble_eq_true rfl) dX8_readsKinds_125) (fun w_30 H locs hw_w_30 hP hD hS => ?_)
    obtain ⟨hW_w_30, hs_w_30⟩ := hw_w_30
    refine lv_iconst (v := 1) hx hb dX8_readsKinds_128 (by decide) ?_
    exact hret _ _ _ _ _ _ hP hD hS dX8_readsKinds_129 (In_lit (n := 1) (by decide) (by decide) : In 0 1 1) ⟨hW_w_30, ((Sm.rf.tr hs_w_27 (by decide)).tr hs_w_30 (by decide)), (In_lit (n := 1) (by decide) (by decide) : In 0 1 1), (fun h => (In_of (hs_w_30.gI (by decide)) h_29))⟩
set_option maxRecDepth 100000 in
set_option maxHeartbeats 8000000 in
theorem k_X11_within (l : Launch) (D : va_G) (cI cJ cZ : ClassId) (q : Nat → Nat) (bb bs bp : Nat) (w : va_W) (hW_w : HT q (TX q cI cJ cZ bb bs bp) w) (p0 : Int32) (p1 : Int32) (p2 : Int32) (i_p1 : In 0 278 p1) (i_p2 : In 2 100000 p2) : Con_i l yX11_within cX11_within 3 (some .boolean) ({ frames := 0, cells := 0, slots := 0, locals := 0 }) D cI cJ cZ eW [.int p0, .int p1, .int p2] w (fun (r : Int32) (w1 : va_W) => HT q (TX q cI cJ cZ bb bs bp) w1 ∧ Sm [] [] w w1 ∧ In 0 1 r ∧ (¬ r = 0 → In 0 100000 p0) ∧ ((¬ r = 0 → p1.toInt ≤ p0.toInt ∧ p0.toInt ≤ p2.toInt))) := by
  refine eQ_z rfl (by decide) (Nat.le_of_ble_eq_true rfl) ⟨rfl, rfl⟩ ?_
  intro p e R s m args below meth c A Q hx hb hml hown hts hK hE hA hR hret hP hD hS ls hl
  have hown : s.vm.findClass RX11 = some m.cls := hown
  have hl : lv_has ls 3 [(0, .int p0), (1, .int p1), (2, .int p2)] := hl
  refine lv_iload_n hx hb dX11_within_0 rfl (lv_at hl 0 rfl) ?_
  refine lv_iload_n hx hb dX11_within_1 rfl (lv_at hl 1 rfl) ?_
  refine lv_icmp_lt (tgt := 14) hx hb dX11_within_2 (by decide) (fun c_1 => ?_) (fun c_1 => ?_)
  · refine lv_iconst (v := 0) hx hb dX11_within_14 (by decide) ?_
    exact hret _ _ _ _ _ _ hP hD hS dX11_within_15 (In_lit (n := 0) (by decide) (by decide) : In 0 1 0) ⟨hW_w, Sm.rf, (In_lit (n := 0) (by decide) (by decide) : In 0 1 0), (fun h => absurd rfl h), (fun h => absurd rfl h)⟩
  · refine lv_iload_n hx hb dX11_within_5 rfl (lv_at hl 0 rfl) ?_
    refine lv_iload_n hx hb dX11_within_6 rfl (lv_at hl 2 rfl) ?_
    refine lv_icmp_gt (tgt := 14) hx hb dX11_within_7 (by decide) (fun c_2 => ?_) (fun c_2 => ?_)
    · refine lv_iconst (v := 0) hx hb dX11_within_14 (by decide) ?_
      exact hret _ _ _ _ _ _ hP hD hS dX11_within_15 (In_lit (n := 0) (by decide) (by decide) : In 0 1 0) ⟨hW_w, Sm.rf, (In_lit (n := 0) (by decide) (by decide) : In 0 1 0), (fun h => absurd rfl h), (fun h => absurd rfl h)⟩
    · refine lv_iconst (v := 1) hx hb dX11_within_10 (by decide) ?_
      refine lv_goto (tgt := 15) hx hb dX11_within_11 (by decide) ?_
      exact hret _ _ _ _ _ _ hP hD hS dX11_within_15 (In_lit (n := 1) (by decide) (by decide) : In 0 1 1) ⟨hW_w, Sm.rf, (In_lit (n := 1) (by decide) (by decide) : In 0 1 1), (fun h => (R_nlt_r i_p2 (R_nlt_l (In_any _) i_p1 c_1 (by decide) : In 0 2147483647 p0) c_2 (by decide) : In 0 100000 p0)), (fun _ => ⟨by have a := c_1; rw [q_lt] at a; omega, by have a := c_2; rw [q_lt] at a; omega⟩)⟩
def D_k_X8_readsPart (d : Nat) : Prop := ∀ (l : Launch) (D : va_G) (cI cJ cZ : ClassId) (q : Nat → Nat) (bb bs : Nat) (w : va_W) (hW_w : HT q (TX q cI cJ cZ bb bs 16) w) (hf_16_8 : In 0 23 (fI w 16 8)) (hd : 8 ≤ (fI w 34 4).toInt + (d : Int)), Con_i l yX8_readsPart cX8_readsPart 2 (some .boolean) ({ frames := 2 * d + 3, cells := 0, slots := 0, locals := 100 * d + 160 }) D cI cJ cZ eW [.ref (q 34)] w (fun (r : Int32) (w1 : va_W) => HT q (TX q cI cJ cZ bb bs 16) w1 ∧ Sm [16, 29, 31, 34] [(16, 17), (31, 3), (31, 4), (31, 5), (31, 6), (31, 7), (34, 2), (34, 3), (34, 4)] w w1 ∧ In 0 1 r ∧ (¬ r = 0 → fI w1 34 4 = fI w 34 4 ∧ In 1 1000 (fI w1 16 17)))
def D_k_X8_readsSum (d : Nat) : Prop := ∀ (l : Launch) (D : va_G) (cI cJ cZ : ClassId) (q : Nat → Nat) (bb bs : Nat) (w : va_W) (hW_w : HT q (TX q cI cJ cZ bb bs 16) w) (hf_16_8 : In 0 23 (fI w 16 8)) (hd : 8 ≤ (fI w 34 4).toInt + (d : Int)), Con_i l yX8_readsSum cX8_readsSum 3 (some .boolean) ({ frames := 2 * d + 4, cells := 0, slots := 0, locals := 100 * d + 200 }) D cI cJ cZ eW [.ref (q 34)] w (fun (r : Int32) (w1 : va_W) => HT q (TX q cI cJ cZ bb bs 16) w1 ∧ Sm [16, 29, 31, 34] [(16, 17), (31, 3), (31, 4), (31, 5), (31, 6), (31, 7), (34, 2), (34, 3), (34, 4)] w w1 ∧ In 0 1 r ∧ (¬ r = 0 → fI w1 34 4 = fI w 34 4 ∧ In 1 1000 (fI w1 16 17)))
def D_k_X8_readsSingle (d : Nat) : Prop := ∀ (l : Launch) (D : va_G) (cI cJ cZ : ClassId) (q : Nat → Nat) (bb bs : Nat) (w : va_W) (hW_w : HT q (TX q cI cJ cZ bb bs 16) w) (p1 : Int32) (i_p1 : In 0 1 p1) (hf_16_8 : In 0 23 (fI w 16 8)) (hd : 8 ≤ (fI w 34 4).toInt + (d : Int)), Con_i l yX8_readsSingle cX8_readsSingle 5 (some .boolean) ({ frames := 3 * d + 5, cells := 0, slots := 0, locals := 150 * d + 300 }) D cI cJ cZ eW [.ref (q 34), .int p1] w (fun (r : Int32) (w1 : va_W) => HT q (TX q cI cJ cZ bb bs 16) w1 ∧ Sm [16, 29, 30, 31, 34] [(16, 17), (16, 19), (31, 3), (31, 4), (31, 5), (31, 6), (31, 7), (34, 2), (34, 3), (34, 4)] w w1 ∧ In 0 1 r ∧ (¬ r = 0 → fI w1 34 4 = fI w 34 4))
def D_k_X8_readsBoth (d : Nat) : Prop := ∀ (l : Launch) (D : va_G) (cI cJ cZ : ClassId) (q : Nat → Nat) (bb bs : Nat) (w : va_W) (hW_w : HT q (TX q cI cJ cZ bb bs 16) w) (p1 : Int32) (i_p1 : In 0 1 p1) (hf_16_8 : In 0 23 (fI w 16 8)) (hd : 8 ≤ (fI w 34 4).toInt + (d : Int)), Con_i l yX8_readsBoth cX8_readsBoth 3 (some .boolean) ({ frames := 3 * d + 6, cells := 0, slots := 0, locals := 150 * d + 340 }) D cI cJ cZ eW [.ref (q 34), .int p1] w (fun (r : Int32) (w1 : va_W) => HT q (TX q cI cJ cZ bb bs 16) w1 ∧ Sm [16, 29, 30, 31, 34] [(16, 17), (16, 19), (31, 3), (31, 4), (31, 5), (31, 6), (31, 7), (34, 2), (34, 3), (34, 4)] w w1 ∧ In 0 1 r ∧ (¬ r = 0 → fI w1 34 4 = fI w 34 4))
def D_k_X8_readsEither (d : Nat) : Prop := ∀ (l : Launch) (D : va_G) (cI cJ cZ : ClassId) (q : Nat → Nat) (bb bs : Nat) (w : va_W) (hW_w : HT q (TX q cI cJ cZ bb bs 16) w) (p1 : Int32) (i_p1 : In 0 1 p1) (hf_16_8 : In 0 23 (fI w 16 8)) (hd : 8 ≤ (fI w 34 4).toInt + (d : Int)), Con_i l yX8_readsEither cX8_readsEither 3 (some .boolean) ({ frames := 3 * d + 7, cells := 0, slots := 0, locals := 150 * d + 380 }) D cI cJ cZ eW [.ref (q 34), .int p1] w (fun (r : Int32) (w1 : va_W) => HT q (TX q cI cJ cZ bb bs 16) w1 ∧ Sm [16, 29, 30, 31, 34] [(16, 17), (16, 19), (31, 3), (31, 4), (31, 5), (31, 6), (31, 7), (34, 2), (34, 3), (34, 4)] w w1 ∧ In 0 1 r ∧ (¬ r = 0 → fI w1 34 4 = fI w 34 4))
set_option maxRecDepth 100000 in
set_option maxHeartbeats 8000000 in
theorem k_X8_readsPart (d : Nat) (ih : ∀ d2, d2 < d → D_k_X8_readsSum d2) : D_k_X8_readsPart d := by
  intro l D cI cJ cZ q bb bs w hW_w hf_16_8 hd
  refine eQ_z rfl (by decide) (Nat.le_of_ble_eq_true rfl) ⟨rfl, rfl⟩ ?_
  intro p e R s m args below meth c A Q hx hb hml hown hts hK hE hA hR hret hP hD hS ls hl
  have hown : s.vm.findClass RX8 = some m.cls := hown
  have hl : lv_has ls 2 [(0, .ref (q 34))] := hl
  refine lv_aload_n hx hb dX8_readsPart_0 rfl (lv_at hl 0 rfl) ?_
  refine gt_X8 hx hb hts hown hK hP 34 (hW_w.o tX_34) 0 (by decide) wd_227 rfl (hW_w.fr tX_34 rfl) dX8_readsPart_1 ?_
  refine gt_X10 hx hb hts hown hK hP 31 (hW_w.o tX_31) 4 (by decide) wd_195 rfl (hW_w.fi tX_31 rfl) dX8_readsPart_4 ?_
  refine lv_bipush (v := 40) hx hb dX8_readsPart_7 (by decide) ?_
  refine lv_icmp_ne (tgt := 53) hx hb dX8_readsPart_9 (by decide) (fun c_1 => ?_) (fun c_1 => ?_)
  · refine lv_aload_n hx hb dX8_readsPart_53 rfl (lv_at hl 0 rfl) ?_
    refine gt_X8 hx hb hts hown hK hP 34 (hW_w.o tX_34) 0 (by decide) wd_227 rfl (hW_w.fr tX_34 rfl) dX8_readsPart_54 ?_
    refine gt_X10 hx hb hts hown hK hP 31 (hW_w.o tX_31) 4 (by decide) wd_195 rfl (hW_w.fi tX_31 rfl) dX8_readsPart_57 ?_
    refine lv_sipush (v := 259) hx hb dX8_readsPart_60 (by decide) ?_
    refine lv_icmp_ne (tgt := 84) hx hb dX8_readsPart_63 (by decide) (fun c_2 => ?_) (fun c_2 => ?_)
    · refine lv_aload_n hx hb dX8_readsPart_84 rfl (lv_at hl 0 rfl) ?_
      refine gt_X8 hx hb hts hown hK hP 34 (hW_w.o tX_34) 0 (by decide) wd_227 rfl (hW_w.fr tX_34 rfl) dX8_readsPart_85 ?_
      refine gt_X10 hx hb hts hown hK hP 31 (hW_w.o tX_31) 4 (by decide) wd_195 rfl (hW_w.fi tX_31 rfl) dX8_readsPart_88 ?_
      refine lv_sipush (v := 278) hx hb dX8_readsPart_91 (by decide) ?_
      refine lv_sipush (v := 282) hx hb dX8_readsPart_94 (by decide) ?_
      refine kW_i ⟨rfl, rfl⟩ hP hD hS hA (rW_N (As := [.int (fI w 31 4), .int 278, .int 282]) (rest := []) hx hb hml hown hts hK hE hP hD (k_X11_within l D cI cJ cZ q bb bs 16 w hW_w (fI w 31 4) 278 282 (In_lit (n := 278) (by decide) (by decide) : In 0 278 278) (In_lit (n := 282) (by decide) (by decide) : In 2 100000 282) _) ⟨⟨rfl, rfl⟩, rfl, rfl⟩ hE.1 ⟨⟨wd_785, wd_1, wd_786⟩, sv_X11_168.2⟩ ⟨(by have hh := hd; have h : 2 * d + 3 ≤ R.frames := hR.1; show 0 + 1 ≤ R.frames; omega), (by have hh := hd; have h : 100 * d + 160 ≤ R.locals := hR.2; show 8 + (3 + 11) + (0) ≤ R.locals; omega)⟩ rfl hl.1 rfl (Nat.le_of_ble_eq_true rfl) dX8_readsPart_97) (fun r_4 w_3 H locs hw_w_3 hP hD hS => ?_)
      obtain ⟨hW_w_3, hs_w_3, i_r_4, h_5, h_6⟩ := hw_w_3
      refine lv_if_eq (tgt := 128) hx hb dX8_readsPart_100 (by decide) (fun c_7 => ?_) (fun c_7 => ?_)
      · refine lv_aload_n hx hb dX8_readsPart_128 rfl (lv_at hl 0 rfl) ?_
        refine lv_iconst (v := 1) hx hb dX8_readsPart_129 (by decide) ?_
        refine kW_i ⟨rfl, rfl⟩ hP hD hS hA (rW_V (As := [.int 1]) (rest := []) hx hb hml hown hts hK hE hP hD (k_X8_fails l D cI cJ cZ q bb bs w_3 hW_w_3 1 (In_lit (n := 1) (by decide) (by decide) : In 1 5 1) _) ⟨⟨rfl, rfl⟩, rfl, rfl⟩ sv_X8_56 ⟨(by have hh := hd; have h : 2 * d + 3 ≤ R.frames := hR.1; show 0 + 1 ≤ R.frames; omega), (by have hh := hd; have h : 100 * d + 160 ≤ R.locals := hR.2; show 8 + (2 + 11) + (0) ≤ R.locals; omega)⟩ 34 8 (hW_w_3.o tX_34) rfl rfl rfl hl.1 rfl (Nat.le_of_ble_eq_true rfl) dX8_readsPart_130) (fun r_9 w_8 H locs hw_w_8 hP hD hS => ?_)
        obtain ⟨hW_w_8, hs_w_8, i_r_9⟩ := hw_w_8
        refine tov (v := 0) (In_one i_r_9 (by decide)) ?_
        exact hret _ _ _ _ _ _ hP hD hS dX8_readsPart_133 (In_lit (n := 0) (by decide) (by decide) : In 0 1 0) ⟨hW_w_8, ((Sm.rf.tr hs_w_3 (by decide)).tr hs_w_8 (by decide)), (In_lit (n := 0) (by decide) (by decide) : In 0 1 0), (fun h => absurd rfl h)⟩
      · refine lv_aload_n hx hb dX8_readsPart_103 rfl (lv_at hl 0 rfl) ?_
        refine gt_X8 hx hb hts hown hK hP 34 (hW_w_3.o tX_34) 1 (by decide) wd_228 rfl (hW_w_3.fr tX_34 rfl) dX8_readsPart_104 ?_
        refine lv_iconst (v := 2) hx hb dX8_readsPart_107 (by decide) ?_
        refine lv_aload_n hx hb dX8_readsPart_108 rfl (lv_at hl 0 rfl) ?_
        refine gt_X8 hx hb hts hown hK hP 34 (hW_w_3.o tX_34) 0 (by decide) wd_227 rfl (hW_w_3.fr tX_34 rfl) dX8_readsPart_109 ?_
        refine gt_X10 hx hb hts hown hK hP 31 (hW_w_3.o tX_31) 4 (by decide) wd_195 rfl (hW_w_3.fi tX_31 rfl) dX8_readsPart_112 ?_
        refine tov (v := (fI w 31 4)) (hs_w_3.gI (by decide)) ?_
        refine lv_sipush (v := 260) hx hb dX8_readsPart_115 (by decide) ?_
        refine lv_isub hx hb dX8_readsPart_118 ?_
        refine lv_bipush (v := 18) hx hb dX8_readsPart_119 (by decide) ?_
        refine lv_isub hx hb dX8_readsPart_121 ?_
        refine kW_v ⟨rfl, rfl⟩ hP hD hS hA (rW_V (As := [.int 2, .int (((fI w 31 4) - 260) - 18)]) (rest := []) hx hb hml hown hts hK hE hP hD (k_X1_addCode_at16 l D cI cJ cZ q bb bs 16 w_3 hW_w_3 2 (((fI w 31 4) - 260) - 18) (In_lit (n := 2) (by decide) (by decide) : In (-1) 15 2) (In_of (hs_w_3.gI (by decide)) hf_16_8) (⟨(fun _ => ((In_sub ((In_sub (by have q0 := h_6 c_7; have q1 := (In_lit (n := 278) (by decide) (by decide) : In 278 278 278); have q2 := (In_lit (n := 282) (by decide) (by decide) : In 282 282 282); have q3 := (h_5 c_7); unfold In at q1 q2 q3 ⊢; omega : In 278 282 (fI w 31 4)) (In_lit (n := 260) (by decide) (by decide) : In 260 260 260) (by decide)) : In 18 22 ((fI w 31 4) - 260)) (In_lit (n := 18) (by decide) (by decide) : In 18 18 18) (by decide)) : In 0 4 (((fI w 31 4) - 260) - 18))), (fun h => absurd h (by decide)), (fun h => absurd h (by decide))⟩) _) ⟨⟨rfl, rfl⟩, rfl, rfl⟩ sv_X8_146 ⟨(by have hh := hd; have h : 2 * d + 3 ≤ R.frames := hR.1; show 0 + 1 ≤ R.frames; omega), (by have hh := hd; have h : 100 * d + 160 ≤ R.locals := hR.2; show 8 + (3 + 11) + (0) ≤ R.locals; omega)⟩ 16 1 (hW_w_3.o tX_16) rfl rfl rfl hl.1 rfl (Nat.le_of_ble_eq_true rfl) dX8_readsPart_122) (fun w_10 H locs hw_w_10 hP hD hS => ?_)
        obtain ⟨hW_w_10, hs_w_10, h_12⟩ := hw_w_10
        refine lv_goto (tgt := 134) hx hb dX8_readsPart_125 (by decide) ?_
        refine lv_aload_n hx hb dX8_readsPart_134 rfl (lv_at hl 0 rfl) ?_
        refine gt_X8 hx hb hts hown hK hP 34 (hW_w_10.o tX_34) 0 (by decide) wd_227 rfl (hW_w_10.fr tX_34 rfl) dX8_readsPart_135 ?_
        refine kW_v ⟨rfl, rfl⟩ hP hD hS hA (rW_V (As := []) (rest := []) hx hb hml hown hts hK hE hP hD (k_X10_step l D cI cJ cZ q bb bs 16 w_10 hW_w_10  _) ⟨⟨rfl, rfl⟩, rfl, rfl⟩ sv_X8_59 ⟨(by have hh := hd; have h : 2 * d + 3 ≤ R.frames := hR.1; show 1 + 1 ≤ R.frames; omega), (by have hh := hd; have h : 100 * d + 160 ≤ R.locals := hR.2; show 8 + (5 + 11) + (23) ≤ R.locals; omega)⟩ 31 10 (hW_w_10.o tX_31) rfl rfl rfl hl.1 rfl (Nat.le_of_ble_eq_true rfl) dX8_readsPart_138) (fun w_13 H locs hw_w_13 hP hD hS => ?_)
        obtain ⟨hW_w_13, hs_w_13⟩ := hw_w_13
        refine lv_iconst (v := 1) hx hb dX8_readsPart_141 (by decide) ?_
        exact hret _ _ _ _ _ _ hP hD hS dX8_readsPart_142 (In_lit (n := 1) (by decide) (by decide) : In 0 1 1) ⟨hW_w_13, (((Sm.rf.tr hs_w_3 (by decide)).tr hs_w_10 (by decide)).tr hs_w_13 (by decide)), (In_lit (n := 1) (by decide) (by decide) : In 0 1 1), (fun h => ⟨((hs_w_13.gI (by decide)).trans ((hs_w_10.gI (by decide)).trans (hs_w_3.gI (by decide)))), (In_of (hs_w_13.gI (by decide)) h_12)⟩)⟩
    · refine lv_aload_n hx hb dX8_readsPart_66 rfl (lv_at hl 0 rfl) ?_
      refine gt_X8 hx hb hts hown hK hP 34 (hW_w.o tX_34) 1 (by decide) wd_228 rfl (hW_w.fr tX_34 rfl) dX8_readsPart_67 ?_
      refine lv_iconst (v := 1) hx hb dX8_readsPart_70 (by decide) ?_
      refine lv_aload_n hx hb dX8_readsPart_71 rfl (lv_at hl 0 rfl) ?_
      refine gt_X8 hx hb hts hown hK hP 34 (hW_w.o tX_34) 0 (by decide) wd_227 rfl (hW_w.fr tX_34 rfl) dX8_readsPart_72 ?_
      refine gt_X10 hx hb hts hown hK hP 31 (hW_w.o tX_31) 7 (by decide) wd_202 rfl (hW_w.fi tX_31 rfl) dX8_readsPart_75 ?_
      refine kW_v ⟨rfl, rfl⟩ hP hD hS hA (rW_V (As := [.int 1, .int (fI w 31 7)]) (rest := []) hx hb hml hown hts hK hE hP hD (k_X1_addCode_at16 l D cI cJ cZ q bb bs 16 w hW_w 1 (fI w 31 7) (In_lit (n := 1) (by decide) (by decide) : In (-1) 15 1) hf_16_8 (⟨(fun h => absurd h (by decide)), (fun h => absurd h (by decide)), (fun h => absurd h (by decide))⟩) _) ⟨⟨rfl, rfl⟩, rfl, rfl⟩ sv_X8_146 ⟨(by have hh := hd; have h : 2 * d + 3 ≤ R.frames := hR.1; show 0 + 1 ≤ R.frames; omega), (by have hh := hd; have h : 100 * d + 160 ≤ R.locals := hR.2; show 8 + (3 + 11) + (0) ≤ R.locals; omega)⟩ 16 1 (hW_w.o tX_16) rfl rfl rfl hl.1 rfl (Nat.le_of_ble_eq_true rfl) dX8_readsPart_78) (fun w_15 H locs hw_w_15 hP hD hS => ?_)
      obtain ⟨hW_w_15, hs_w_15, h_17⟩ := hw_w_15
      refine lv_goto (tgt := 134) hx hb dX8_readsPart_81 (by decide) ?_
      refine lv_aload_n hx hb dX8_readsPart_134 rfl (lv_at hl 0 rfl) ?_
      refine gt_X8 hx hb hts hown hK hP 34 (hW_w_15.o tX_34) 0 (by decide) wd_227 rfl (hW_w_15.fr tX_34 rfl) dX8_readsPart_135 ?_
      refine kW_v ⟨rfl, rfl⟩ hP hD hS hA (rW_V (As := []) (rest := []) hx hb hml hown hts hK hE hP hD (k_X10_step l D cI cJ cZ q bb bs 16 w_15 hW_w_15  _) ⟨⟨rfl, rfl⟩, rfl, rfl⟩ sv_X8_59 ⟨(by have hh := hd; have h : 2 * d + 3 ≤ R.frames := hR.1; show 1 + 1 ≤ R.frames; omega), (by have hh := hd; have h : 100 * d + 160 ≤ R.locals := hR.2; show 8 + (5 + 11) + (23) ≤ R.locals; omega)⟩ 31 10 (hW_w_15.o tX_31) rfl rfl rfl hl.1 rfl (Nat.le_of_ble_eq_true rfl) dX8_readsPart_138) (fun w_18 H locs hw_w_18 hP hD hS => ?_)
      obtain ⟨hW_w_18, hs_w_18⟩ := hw_w_18
      refine lv_iconst (v := 1) hx hb dX8_readsPart_141 (by decide) ?_
      exact hret _ _ _ _ _ _ hP hD hS dX8_readsPart_142 (In_lit (n := 1) (by decide) (by decide) : In 0 1 1) ⟨hW_w_18, ((Sm.rf.tr hs_w_15 (by decide)).tr hs_w_18 (by decide)), (In_lit (n := 1) (by decide) (by decide) : In 0 1 1), (fun h => ⟨((hs_w_18.gI (by decide)).trans (hs_w_15.gI (by decide))), (In_of (hs_w_18.gI (by decide)) h_17)⟩)⟩
  · refine lv_aload_n hx hb dX8_readsPart_12 rfl (lv_at hl 0 rfl) ?_
    refine kW_i ⟨rfl, rfl⟩ hP hD hS hA (rW_V (As := []) (rest := []) hx hb hml hown hts hK hE hP hD (k_X8_opens l D cI cJ cZ q bb bs w hW_w hf_16_8 _) ⟨⟨rfl, rfl⟩, rfl, rfl⟩ sv_X8_153 ⟨(by have hh := hd; have h : 2 * d + 3 ≤ R.frames := hR.1; show 2 + 1 ≤ R.frames; omega), (by have hh := hd; have h : 100 * d + 160 ≤ R.locals := hR.2; show 8 + (1 + 11) + (47) ≤ R.locals; omega)⟩ 34 8 (hW_w.o tX_34) rfl rfl rfl hl.1 rfl (Nat.le_of_ble_eq_true rfl) dX8_readsPart_13) (fun r_21 w_20 H locs hw_w_20 hP hD hS => ?_)
    obtain ⟨hW_w_20, hs_w_20, i_r_21, h_22, h_23, h_24⟩ := hw_w_20
    refine lv_if_eq (tgt := 39) hx hb dX8_readsPart_16 (by decide) (fun c_25 => ?_) (fun c_25 => ?_)
    · refine lv_iconst (v := 0) hx hb dX8_readsPart_39 (by decide) ?_
      refine lv_istore_n (lv' := [(1, .int 0), (0, .ref (q 34))]) hx hb dX8_readsPart_40 rfl hl (by decide) rfl (fun ls hl => ?_)
      refine lv_aload_n hx hb dX8_readsPart_41 rfl (lv_at hl 1 rfl) ?_
      refine lv_dup hx hb dX8_readsPart_42 rfl ?_
      refine gt_X8 hx hb hts hown hK hP 34 (hW_w_20.o tX_34) 4 (by decide) wd_233 rfl (hW_w_20.fi tX_34 rfl) dX8_readsPart_43 ?_
      refine tov (v := (fI w 34 4)) (h_22 c_25).1 ?_
      refine lv_iconst (v := 1) hx hb dX8_readsPart_46 (by decide) ?_
      refine lv_isub hx hb dX8_readsPart_47 ?_
      refine pt_X8 hx hb hts hown hK hP hD hS 34 (hW_w_20.o tX_34) 4 (by decide) wd_233 rfl rfl (ty := .int) (v := .int ((fI w 34 4) - 1)) (by decide +kernel) rfl rfl (hW_w_20.ll tX_34 (Nat.le_of_ble_eq_true rfl)) dX8_readsPart_48 (fun H locs hP hD hS => fr_w (hW_w_20.sI tX_34 rfl (In_w ((In_sub (In_of (h_22 c_25).1.symm (h_22 c_25).2) (In_lit (n := 1) (by decide) (by decide) : In 1 1 1) (by decide)) : In 7 2147483646 ((fI w 34 4) - 1)) (by decide) : In (-2147483648) 2147483647 ((fI w 34 4) - 1))) hP hD (fun w_26 ew_26 hW_w_26 hP hD => ?_))
      refine lv_iload_n hx hb dX8_readsPart_51 rfl (lv_at hl 0 rfl) ?_
      exact hret _ _ _ _ _ _ hP hD hS dX8_readsPart_52 (In_lit (n := 0) (by decide) (by decide) : In 0 1 0) ⟨hW_w_26, ((Sm.rf.tr hs_w_20 (by decide)).sf (hW_w_20.lt tX_34) ew_26 (by decide)), (In_lit (n := 0) (by decide) (by decide) : In 0 1 0), (fun h => absurd rfl h)⟩
    · refine lv_aload_n hx hb dX8_readsPart_19 rfl (lv_at hl 0 rfl) ?_
      refine kW_i ⟨rfl, rfl⟩ hP hD hS hA (rW_V (As := []) (rest := []) hx hb hml hown hts hK hE hP hD (ih (d - 1) (by have hh := hd; have nt0 := (h_24 c_25).2; unfold In at nt0; omega) l D cI cJ cZ q bb bs w_20 hW_w_20 (In_of (hs_w_20.gI (by decide)) hf_16_8) (by have e34_4 : (fI w_20 34 4).toInt = (((fI w 34 4) + 1) : Int32).toInt := congrArg Int32.toInt (h_24 c_25).1; have t17 := t_add (h_24 c_25).2 (In_lit (n := 1) (by decide) (by decide) : In 1 1 1) (by decide); have z1 : (1 : Int32).toInt = 1 := (by decide); have nt0 := (h_24 c_25).2; have hh := hd; unfold In at nt0; omega) _) ⟨⟨rfl, rfl⟩, rfl, rfl⟩ sv_X8_136 ⟨(by have hh := hd; have nt0 := (h_24 c_25).2; unfold In at nt0; have h : 2 * d + 3 ≤ R.frames := hR.1; show 2 * (d - 1) + 4 + 1 ≤ R.frames; omega), (by have hh := hd; have nt0 := (h_24 c_25).2; unfold In at nt0; have h : 100 * d + 160 ≤ R.locals := hR.2; show 8 + (3 + 11) + (100 * (d - 1) + 200) ≤ R.locals; omega)⟩ 34 8 (hW_w_20.o tX_34) rfl rfl rfl hl.1 rfl (Nat.le_of_ble_eq_true rfl) dX8_readsPart_20) (fun r_28 w_27 H locs hw_w_27 hP hD hS => ?_)
      obtain ⟨hW_w_27, hs_w_27, i_r_28, h_29⟩ := hw_w_27
      refine lv_if_eq (tgt := 39) hx hb dX8_readsPart_23 (by decide) (fun c_30 => ?_) (fun c_30 => ?_)
      · refine lv_iconst (v := 0) hx hb dX8_readsPart_39 (by decide) ?_
        refine lv_istore_n (lv' := [(1, .int 0), (0, .ref (q 34))]) hx hb dX8_readsPart_40 rfl hl (by decide) rfl (fun ls hl => ?_)
        refine lv_aload_n hx hb dX8_readsPart_41 rfl (lv_at hl 1 rfl) ?_
        refine lv_dup hx hb dX8_readsPart_42 rfl ?_
        refine gt_X8 hx hb hts hown hK hP 34 (hW_w_27.o tX_34) 4 (by decide) wd_233 rfl (hW_w_27.fi tX_34 rfl) dX8_readsPart_43 ?_
        refine lv_iconst (v := 1) hx hb dX8_readsPart_46 (by decide) ?_
        refine lv_isub hx hb dX8_readsPart_47 ?_
        refine pt_X8 hx hb hts hown hK hP hD hS 34 (hW_w_27.o tX_34) 4 (by decide) wd_233 rfl rfl (ty := .int) (v := .int ((fI w_27 34 4) - 1)) (by decide +kernel) rfl rfl (hW_w_27.ll tX_34 (Nat.le_of_ble_eq_true rfl)) dX8_readsPart_48 (fun H locs hP hD hS => fr_w (hW_w_27.sI tX_34 rfl (In_any _)) hP hD (fun w_31 ew_31 hW_w_31 hP hD => ?_))
        refine lv_iload_n hx hb dX8_readsPart_51 rfl (lv_at hl 0 rfl) ?_
        exact hret _ _ _ _ _ _ hP hD hS dX8_readsPart_52 (In_lit (n := 0) (by decide) (by decide) : In 0 1 0) ⟨hW_w_31, (((Sm.rf.tr hs_w_20 (by decide)).tr hs_w_27 (by decide)).sf (hW_w_27.lt tX_34) ew_31 (by decide)), (In_lit (n := 0) (by decide) (by decide) : In 0 1 0), (fun h => absurd rfl h)⟩
      · refine lv_aload_n hx hb dX8_readsPart_26 rfl (lv_at hl 0 rfl) ?_
        refine lv_bipush (v := 41) hx hb dX8_readsPart_27 (by decide) ?_
        refine kW_i ⟨rfl, rfl⟩ hP hD hS hA (rW_V (As := [.int 41]) (rest := []) hx hb hml hown hts hK hE hP hD (k_X8_passes l D cI cJ cZ q bb bs w_27 hW_w_27 41 (In_lit (n := 41) (by decide) (by decide) : In 41 271 41) _) ⟨⟨rfl, rfl⟩, rfl, rfl⟩ sv_X8_97 ⟨(by have hh := hd; have nt0 := (h_24 c_25).2; unfold In at nt0; have h : 2 * d + 3 ≤ R.frames := hR.1; show 2 + 1 ≤ R.frames; omega), (by have hh := hd; have nt0 := (h_24 c_25).2; unfold In at nt0; have h : 100 * d + 160 ≤ R.locals := hR.2; show 8 + (2 + 11) + (47) ≤ R.locals; omega)⟩ 34 8 (hW_w_27.o tX_34) rfl rfl rfl hl.1 rfl (Nat.le_of_ble_eq_true rfl) dX8_readsPart_29) (fun r_33 w_32 H locs hw_w_32 hP hD hS => ?_)
        obtain ⟨hW_w_32, hs_w_32, i_r_33⟩ := hw_w_32
        refine lv_if_eq (tgt := 39) hx hb dX8_readsPart_32 (by decide) (fun c_34 => ?_) (fun c_34 => ?_)
        · refine lv_iconst (v := 0) hx hb dX8_readsPart_39 (by decide) ?_
          refine lv_istore_n (lv' := [(1, .int 0), (0, .ref (q 34))]) hx hb dX8_readsPart_40 rfl hl (by decide) rfl (fun ls hl => ?_)
          refine lv_aload_n hx hb dX8_readsPart_41 rfl (lv_at hl 1 rfl) ?_
          refine lv_dup hx hb dX8_readsPart_42 rfl ?_
          refine gt_X8 hx hb hts hown hK hP 34 (hW_w_32.o tX_34) 4 (by decide) wd_233 rfl (hW_w_32.fi tX_34 rfl) dX8_readsPart_43 ?_
          refine tov (v := ((fI w 34 4) + 1)) ((hs_w_32.2 34 4 (by decide) (by decide)).trans ((h_29 c_30).1.trans (h_24 c_25).1)) ?_
          refine lv_iconst (v := 1) hx hb dX8_readsPart_46 (by decide) ?_
          refine lv_isub hx hb dX8_readsPart_47 ?_
          refine tov (v := (fI w 34 4)) (Int32.add_sub_cancel _ _) ?_
          refine pt_X8 hx hb hts hown hK hP hD hS 34 (hW_w_32.o tX_34) 4 (by decide) wd_233 rfl rfl (ty := .int) (v := .int (fI w 34 4)) (by decide +kernel) rfl rfl (hW_w_32.ll tX_34 (Nat.le_of_ble_eq_true rfl)) dX8_readsPart_48 (fun H locs hP hD hS => fr_w (hW_w_32.sI tX_34 rfl (In_w (h_24 c_25).2 (by decide) : In (-2147483648) 2147483647 (fI w 34 4))) hP hD (fun w_35 ew_35 hW_w_35 hP hD => ?_))
          refine lv_iload_n hx hb dX8_readsPart_51 rfl (lv_at hl 0 rfl) ?_
          exact hret _ _ _ _ _ _ hP hD hS dX8_readsPart_52 (In_lit (n := 0) (by decide) (by decide) : In 0 1 0) ⟨hW_w_35, ((((Sm.rf.tr hs_w_20 (by decide)).tr hs_w_27 (by decide)).tr hs_w_32 (by decide)).sf (hW_w_32.lt tX_34) ew_35 (by decide)), (In_lit (n := 0) (by decide) (by decide) : In 0 1 0), (fun h => absurd rfl h)⟩
        · refine lv_iconst (v := 1) hx hb dX8_readsPart_35 (by decide) ?_
          refine lv_goto (tgt := 40) hx hb dX8_readsPart_36 (by decide) ?_
          refine lv_istore_n (lv' := [(1, .int 1), (0, .ref (q 34))]) hx hb dX8_readsPart_40 rfl hl (by decide) rfl (fun ls hl => ?_)
          refine lv_aload_n hx hb dX8_readsPart_41 rfl (lv_at hl 1 rfl) ?_
          refine lv_dup hx hb dX8_readsPart_42 rfl ?_
          refine gt_X8 hx hb hts hown hK hP 34 (hW_w_32.o tX_34) 4 (by decide) wd_233 rfl (hW_w_32.fi tX_34 rfl) dX8_readsPart_43 ?_
          refine tov (v := ((fI w 34 4) + 1)) ((hs_w_32.2 34 4 (by decide) (by decide)).trans ((h_29 c_30).1.trans (h_24 c_25).1)) ?_
          refine lv_iconst (v := 1) hx hb dX8_readsPart_46 (by decide) ?_
          refine lv_isub hx hb dX8_readsPart_47 ?_
          refine tov (v := (fI w 34 4)) (Int32.add_sub_cancel _ _) ?_
          refine pt_X8 hx hb hts hown hK hP hD hS 34 (hW_w_32.o tX_34) 4 (by decide) wd_233 rfl rfl (ty := .int) (v := .int (fI w 34 4)) (by decide +kernel) rfl rfl (hW_w_32.ll tX_34 (Nat.le_of_ble_eq_true rfl)) dX8_readsPart_48 (fun H locs hP hD hS => fr_w (hW_w_32.sI tX_34 rfl (In_w (h_24 c_25).2 (by decide) : In (-2147483648) 2147483647 (fI w 34 4))) hP hD (fun w_36 ew_36 hW_w_36 hP hD => ?_))
          refine lv_iload_n hx hb dX8_readsPart_51 rfl (lv_at hl 0 rfl) ?_
          exact hret _ _ _ _ _ _ hP hD hS dX8_readsPart_52 (In_lit (n := 1) (by decide) (by decide) : In 0 1 1) ⟨hW_w_36, ((((Sm.rf.tr hs_w_20 (by decide)).tr hs_w_27 (by decide)).tr hs_w_32 (by decide)).sf (hW_w_32.lt tX_34) ew_36 (by decide)), (In_lit (n := 1) (by decide) (by decide) : In 0 1 1), (fun h => ⟨(fI_eq (hW_w_32.lt tX_34) ew_36 (hW_w_32.ll tX_34 (Nat.le_of_ble_eq_true rfl))), (In_of ((fI_cg (st_ne ew_36 (by decide))).trans (hs_w_32.gI (by decide))) (h_29 c_30).2)⟩)⟩
set_option maxRecDepth 100000 in
set_option maxHeartbeats 8000000 in
theorem k_X8_readsSum (d : Nat) (ih : ∀ d2, d2 < d → D_k_X8_readsSum d2) : D_k_X8_readsSum d := by
  intro l D cI cJ cZ q bb bs w hW_w hf_16_8 hd
  refine eQ_z rfl (by decide) (Nat.le_of_ble_eq_true rfl) ⟨rfl, rfl⟩ ?_
  intro p e R s m args below meth c A Q hx hb hml hown hts hK hE hA hR hret hP hD hS ls hl
  have hown : s.vm.findClass RX8 = some m.cls := hown
  have hl : lv_has ls 3 [(0, .ref (q 34))] := hl
  have J11 : ∀ (N : Nat) (x11_1 : Int32) (w11 : va_W) (H : Heap) (locs : List Loc) (ls : Array Slot), (1001 - x11_1.toInt).toNat < N → HT q (TX q cI cJ cZ bb bs 16) w11 → Sm [16, 29, 31, 34] [(16, 17), (31, 3), (31, 4), (31, 5), (31, 6), (31, 7), (34, 2), (34, 3), (34, 4)] w w11 → (In 0 1001 x11_1) → (In 0 23 (fI w11 16 8)) → (In 1 1000 (fI w11 16 17)) → (fI w11 34 4 = (fI w 34 4)) → va_P D vwCl w11 H → va_D A w11 → va_S A s.heap H locs → lv_has ls 3 [(0, .ref (q 34)), (1, .int x11_1)] → W p l e R s m args below meth c H locs 0 0 Q (F0 m 11 ls []) := by
    intro N
    induction N with
    | zero => intro x11_1 w11 H locs ls hmu; exact absurd hmu (Nat.not_lt_zero _)
    | succ N ih11 =>
      intro x11_1 w11 H locs ls hmu11 hW_w11 hM_w11 i_x11_1 g11_16_8 g11_16_17 g11_34_4e hP hD hS hl
      have J90 : ∀ (y90_0 : Int32) (w90 : va_W) (H : Heap) (locs : List Loc) (ls : Array Slot), HT q (TX q cI cJ cZ bb bs 16) w90 → Sm [16, 29, 31, 34] [(16, 17), (31, 3), (31, 4), (31, 5), (31, 6), (31, 7), (34, 2), (34, 3), (34, 4)] w w90 → (In 0 1000 x11_1) → (In 42 45 (fI w11 31 4)) → (In 13 15 y90_0) → (In 0 23 (fI w90 16 8)) → (In 1 1000 (fI w90 16 17)) → (fI w90 34 4 = (fI w 34 4)) → va_P D vwCl w90 H → va_D A w90 → va_S A s.heap H locs → lv_has ls 3 [(0, .ref (q 34)), (1, .int x11_1), (2, .int (fI w11 31 4))] → W p l e R s m args below meth c H locs 0 0 Q (F0 m 90 ls [.int y90_0, .ref (q 16)]) := by
        intro y90_0 w90 H locs ls hW_w90 hM_w90 i_x90_1 i_x90_2 i_y90_0 g90_16_8 g90_16_17 g90_34_4e hP hD hS hl
        refine lv_iconst (v := 0) hx hb dX8_readsSum_90 (by decide) ?_
        refine kW_v ⟨rfl, rfl⟩ hP hD hS hA (rW_V (As := [.int y90_0, .int 0]) (rest := []) hx hb hml hown hts hK hE hP hD (k_X1_addCode_at16 l D cI cJ cZ q bb bs 16 w90 hW_w90 y90_0 0 (In_w i_y90_0 (by decide) : In (-1) 15 y90_0) (In_of (hM_w90.2 16 8 (by decide) (by decide)) (In_of (hM_w90.2 16 8 (by decide) (by decide)).symm g90_16_8)) (⟨(fun hh => absurd (hh ▸ i_y90_0) (by unfold In; decide)), (fun hh => absurd (hh ▸ i_y90_0) (by unfold In; decide)), (fun hh => absurd (hh ▸ i_y90_0) (by unfold In; decide))⟩) _) ⟨⟨rfl, rfl⟩, rfl, rfl⟩ sv_X8_146 ⟨(by have hh := hd; have h : 2 * d + 4 ≤ R.frames := hR.1; show 0 + 1 ≤ R.frames; omega), (by have hh := hd; have h : 100 * d + 200 ≤ R.locals := hR.2; show 8 + (3 + 11) + (0) ≤ R.locals; omega)⟩ 16 1 (hW_w90.o tX_16) rfl rfl rfl hl.1 rfl (Nat.le_of_ble_eq_true rfl) dX8_readsSum_91) (fun w_1 H locs hw_w_1 hP hD hS => ?_)
        obtain ⟨hW_w_1, hs_w_1, h_3⟩ := hw_w_1
        refine lv_iinc (v := (x11_1 + 1)) (lv' := [(1, .int (x11_1 + 1)), (0, .ref (q 34)), (2, .int (fI w11 31 4))]) hx hb dX8_readsSum_94 hl (k := 1) rfl (rfl) (by decide) rfl (fun ls hl => ?_)
        refine lv_goto (tgt := 11) hx hb dX8_readsSum_97 (by decide) ?_
        exact ih11 (x11_1 + 1) w_1 _ _ ls (mu_inc hmu11 i_x90_1 (In_lit (n := 1) (by decide) (by decide) : In 1 1 1) (by decide)) hW_w_1 (hM_w90.tr hs_w_1 (by decide)) (In_w ((In_add (y := 1) i_x90_1 (In_lit (n := 1) (by decide) (by decide) : In 1 1 1) (by decide)) : In 1 1001 (x11_1 + 1)) (by decide) : In 0 1001 (x11_1 + 1)) (In_of ((hs_w_1.2 16 8 (by decide) (by decide)).trans (hM_w90.2 16 8 (by decide) (by decide))) (In_of (hM_w90.2 16 8 (by decide) (by decide)).symm g90_16_8)) h_3 ((hs_w_1.gI (by decide)).trans g90_34_4e) hP hD hS (lv_sub hl [1, 0] rfl)
      have J46 : ∀ (w46 : va_W) (H : Heap) (locs : List Loc) (ls : Array Slot), HT q (TX q cI cJ cZ bb bs 16) w46 → Sm [16, 29, 31, 34] [(16, 17), (31, 3), (31, 4), (31, 5), (31, 6), (31, 7), (34, 2), (34, 3), (34, 4)] w w46 → (In 0 1000 x11_1) → (In 42 45 (fI w11 31 4)) → (In 0 23 (fI w46 16 8)) → (fI w46 16 17 = (fI w11 16 17)) → (In 1 1000 (fI w11 16 17)) → (fI w46 31 4 = (fI w11 31 4)) → (In 42 45 (fI w11 31 4)) → (fI w46 34 4 = (fI w 34 4)) → va_P D vwCl w46 H → va_D A w46 → va_S A s.heap H locs → lv_has ls 3 [(0, .ref (q 34)), (1, .int x11_1), (2, .int (fI w11 31 4))] → W p l e R s m args below meth c H locs 0 0 Q (F0 m 46 ls []) := by
        intro w46 H locs ls hW_w46 hM_w46 i_x46_1 i_x46_2 g46_16_8 g46_16_17e g46_16_17 g46_31_4e g46_31_4 g46_34_4e hP hD hS hl
        refine lv_aload_n hx hb dX8_readsSum_46 rfl (lv_at hl 0 rfl) ?_
        refine gt_X8 hx hb hts hown hK hP 34 (hW_w46.o tX_34) 0 (by decide) wd_227 rfl (hW_w46.fr tX_34 rfl) dX8_readsSum_47 ?_
        refine kW_v ⟨rfl, rfl⟩ hP hD hS hA (rW_V (As := []) (rest := []) hx hb hml hown hts hK hE hP hD (k_X10_step l D cI cJ cZ q bb bs 16 w46 hW_w46  _) ⟨⟨rfl, rfl⟩, rfl, rfl⟩ sv_X8_59 ⟨(by have hh := hd; have h : 2 * d + 4 ≤ R.frames := hR.1; show 1 + 1 ≤ R.frames; omega), (by have hh := hd; have h : 100 * d + 200 ≤ R.locals := hR.2; show 8 + (5 + 11) + (23) ≤ R.locals; omega)⟩ 31 10 (hW_w46.o tX_31) rfl rfl rfl hl.1 rfl (Nat.le_of_ble_eq_true rfl) dX8_readsSum_50) (fun w_4 H locs hw_w_4 hP hD hS => ?_)
        obtain ⟨hW_w_4, hs_w_4⟩ := hw_w_4
        refine lv_aload_n hx hb dX8_readsSum_53 rfl (lv_at hl 0 rfl) ?_
        refine kW_i ⟨rfl, rfl⟩ hP hD hS hA (rW_V (As := []) (rest := []) hx hb hml hown hts hK hE hP hD (k_X8_readsPart d ih l D cI cJ cZ q bb bs w_4 hW_w_4 (In_of ((hs_w_4.gI (by decide)).trans (hM_w46.2 16 8 (by decide) (by decide))) (In_of (hM_w46.2 16 8 (by decide) (by decide)).symm g46_16_8)) (by have e34_4 : (fI w_4 34 4).toInt = ((fI w 34 4) : Int32).toInt := congrArg Int32.toInt ((hs_w_4.gI (by decide)).trans g46_34_4e); have hh := hd; omega) _) ⟨⟨rfl, rfl⟩, rfl, rfl⟩ sv_X8_172 ⟨(by have hh := hd; have h : 2 * d + 4 ≤ R.frames := hR.1; show 2 * d + 3 + 1 ≤ R.frames; omega), (by have hh := hd; have h : 100 * d + 200 ≤ R.locals := hR.2; show 8 + (2 + 11) + (100 * d + 160) ≤ R.locals; omega)⟩ 34 8 (hW_w_4.o tX_34) rfl rfl rfl hl.1 rfl (Nat.le_of_ble_eq_true rfl) dX8_readsSum_54) (fun r_7 w_6 H locs hw_w_6 hP hD hS => ?_)
        obtain ⟨hW_w_6, hs_w_6, i_r_7, h_8⟩ := hw_w_6
        refine lv_if_ne (tgt := 62) hx hb dX8_readsSum_57 (by decide) (fun c_9 => ?_) (fun c_9 => ?_)
        · refine lv_aload_n hx hb dX8_readsSum_62 rfl (lv_at hl 0 rfl) ?_
          refine gt_X8 hx hb hts hown hK hP 34 (hW_w_6.o tX_34) 1 (by decide) wd_228 rfl (hW_w_6.fr tX_34 rfl) dX8_readsSum_63 ?_
          refine lv_iload_n hx hb dX8_readsSum_66 rfl (lv_at hl 2 rfl) ?_
          refine lv_bipush (v := 43) hx hb dX8_readsSum_67 (by decide) ?_
          refine lv_icmp_ne (tgt := 77) hx hb dX8_readsSum_69 (by decide) (fun c_10 => ?_) (fun c_10 => ?_)
          · refine lv_iload_n hx hb dX8_readsSum_77 rfl (lv_at hl 2 rfl) ?_
            refine lv_bipush (v := 45) hx hb dX8_readsSum_78 (by decide) ?_
            refine lv_icmp_ne (tgt := 88) hx hb dX8_readsSum_80 (by decide) (fun c_11 => ?_) (fun c_11 => ?_)
            · refine lv_bipush (v := 15) hx hb dX8_readsSum_88 (by decide) ?_
              exact J90 15 w_6 _ _ ls hW_w_6 ((hM_w46.tr hs_w_4 (by decide)).tr hs_w_6 (by decide)) i_x46_1 (In_w (R_ne_l i_x46_2 (In_lit (n := 45) (by decide) (by decide) : In 45 45 45) c_11 (by decide) : In 42 44 (fI w11 31 4)) (by decide) : In 42 45 (fI w11 31 4)) (In_lit (n := 15) (by decide) (by decide) : In 13 15 15) (In_of ((hs_w_6.2 16 8 (by decide) (by decide)).trans ((hs_w_4.gI (by decide)).trans (hM_w46.2 16 8 (by decide) (by decide)))) (In_of (hM_w46.2 16 8 (by decide) (by decide)).symm g46_16_8)) (h_8 c_9).2 ((h_8 c_9).1.trans ((hs_w_4.gI (by decide)).trans g46_34_4e)) hP hD hS (lv_sub hl [0, 1, 2] rfl)
            · refine lv_bipush (v := 14) hx hb dX8_readsSum_83 (by decide) ?_
              refine lv_goto (tgt := 90) hx hb dX8_readsSum_85 (by decide) ?_
              exact J90 14 w_6 _ _ ls hW_w_6 ((hM_w46.tr hs_w_4 (by decide)).tr hs_w_6 (by decide)) i_x46_1 (In_w (R_eq_l i_x46_2 (In_lit (n := 45) (by decide) (by decide) : In 45 45 45) c_11 (by decide) : In 45 45 (fI w11 31 4)) (by decide) : In 42 45 (fI w11 31 4)) (In_lit (n := 14) (by decide) (by decide) : In 13 15 14) (In_of ((hs_w_6.2 16 8 (by decide) (by decide)).trans ((hs_w_4.gI (by decide)).trans (hM_w46.2 16 8 (by decide) (by decide)))) (In_of (hM_w46.2 16 8 (by decide) (by decide)).symm g46_16_8)) (h_8 c_9).2 ((h_8 c_9).1.trans ((hs_w_4.gI (by decide)).trans g46_34_4e)) hP hD hS (lv_sub hl [0, 1, 2] rfl)
          · refine lv_bipush (v := 13) hx hb dX8_readsSum_72 (by decide) ?_
            refine lv_goto (tgt := 90) hx hb dX8_readsSum_74 (by decide) ?_
            exact J90 13 w_6 _ _ ls hW_w_6 ((hM_w46.tr hs_w_4 (by decide)).tr hs_w_6 (by decide)) i_x46_1 (In_w (R_eq_l i_x46_2 (In_lit (n := 43) (by decide) (by decide) : In 43 43 43) c_10 (by decide) : In 43 43 (fI w11 31 4)) (by decide) : In 42 45 (fI w11 31 4)) (In_lit (n := 13) (by decide) (by decide) : In 13 15 13) (In_of ((hs_w_6.2 16 8 (by decide) (by decide)).trans ((hs_w_4.gI (by decide)).trans (hM_w46.2 16 8 (by decide) (by decide)))) (In_of (hM_w46.2 16 8 (by decide) (by decide)).symm g46_16_8)) (h_8 c_9).2 ((h_8 c_9).1.trans ((hs_w_4.gI (by decide)).trans g46_34_4e)) hP hD hS (lv_sub hl [0, 1, 2] rfl)
        · refine lv_iconst (v := 0) hx hb dX8_readsSum_60 (by decide) ?_
          exact hret _ _ _ _ _ _ hP hD hS dX8_readsSum_61 (In_lit (n := 0) (by decide) (by decide) : In 0 1 0) ⟨hW_w_6, ((hM_w46.tr hs_w_4 (by decide)).tr hs_w_6 (by decide)), (In_lit (n := 0) (by decide) (by decide) : In 0 1 0), (fun h => absurd rfl h)⟩
      refine lv_iload_n hx hb dX8_readsSum_11 rfl (lv_at hl 1 rfl) ?_
      refine lv_sipush (v := 1000) hx hb dX8_readsSum_12 (by decide) ?_
      refine lv_icmp_gt (tgt := 100) hx hb dX8_readsSum_15 (by decide) (fun c_12 => ?_) (fun c_12 => ?_)
      · refine lv_iconst (v := 1) hx hb dX8_readsSum_100 (by decide) ?_
        exact hret _ _ _ _ _ _ hP hD hS dX8_readsSum_101 (In_lit (n := 1) (by decide) (by decide) : In 0 1 1) ⟨hW_w11, hM_w11, (In_lit (n := 1) (by decide) (by decide) : In 0 1 1), (fun h => ⟨g11_34_4e, g11_16_17⟩)⟩
      · refine lv_aload_n hx hb dX8_readsSum_18 rfl (lv_at hl 0 rfl) ?_
        refine gt_X8 hx hb hts hown hK hP 34 (hW_w11.o tX_34) 0 (by decide) wd_227 rfl (hW_w11.fr tX_34 rfl) dX8_readsSum_19 ?_
        refine gt_X10 hx hb hts hown hK hP 31 (hW_w11.o tX_31) 4 (by decide) wd_195 rfl (hW_w11.fi tX_31 rfl) dX8_readsSum_22 ?_
        refine lv_istore_n (lv' := [(2, .int (fI w11 31 4)), (0, .ref (q 34)), (1, .int x11_1)]) hx hb dX8_readsSum_25 rfl hl (by decide) rfl (fun ls hl => ?_)
        refine lv_iload_n hx hb dX8_readsSum_26 rfl (lv_at hl 0 rfl) ?_
        refine lv_bipush (v := 43) hx hb dX8_readsSum_27 (by decide) ?_
        refine lv_icmp_eq (tgt := 46) hx hb dX8_readsSum_29 (by decide) (fun c_13 => ?_) (fun c_13 => ?_)
        · exact J46 w11 _ _ ls hW_w11 hM_w11 (R_nlt_r (In_lit (n := 1000) (by decide) (by decide) : In 1000 1000 1000) i_x11_1 c_12 (by decide) : In 0 1000 x11_1) (In_w (R_eq_l (In_any _) (In_lit (n := 43) (by decide) (by decide) : In 43 43 43) c_13 (by decide) : In 43 43 (fI w11 31 4)) (by decide) : In 42 45 (fI w11 31 4)) (In_of (hM_w11.2 16 8 (by decide) (by decide)) (In_of (hM_w11.2 16 8 (by decide) (by decide)).symm g11_16_8)) rfl g11_16_17 rfl (In_w (R_eq_l (In_any _) (In_lit (n := 43) (by decide) (by decide) : In 43 43 43) c_13 (by decide) : In 43 43 (fI w11 31 4)) (by decide) : In 42 45 (fI w11 31 4)) g11_34_4e hP hD hS (lv_sub hl [1, 2, 0] rfl)
        · refine lv_iload_n hx hb dX8_readsSum_32 rfl (lv_at hl 0 rfl) ?_
          refine lv_bipush (v := 45) hx hb dX8_readsSum_33 (by decide) ?_
          refine lv_icmp_eq (tgt := 46) hx hb dX8_readsSum_35 (by decide) (fun c_14 => ?_) (fun c_14 => ?_)
          · exact J46 w11 _ _ ls hW_w11 hM_w11 (R_nlt_r (In_lit (n := 1000) (by decide) (by decide) : In 1000 1000 1000) i_x11_1 c_12 (by decide) : In 0 1000 x11_1) (In_w (R_eq_l (In_any _) (In_lit (n := 45) (by decide) (by decide) : In 45 45 45) c_14 (by decide) : In 45 45 (fI w11 31 4)) (by decide) : In 42 45 (fI w11 31 4)) (In_of (hM_w11.2 16 8 (by decide) (by decide)) (In_of (hM_w11.2 16 8 (by decide) (by decide)).symm g11_16_8)) rfl g11_16_17 rfl (In_w (R_eq_l (In_any _) (In_lit (n := 45) (by decide) (by decide) : In 45 45 45) c_14 (by decide) : In 45 45 (fI w11 31 4)) (by decide) : In 42 45 (fI w11 31 4)) g11_34_4e hP hD hS (lv_sub hl [1, 2, 0] rfl)
          · refine lv_iload_n hx hb dX8_readsSum_38 rfl (lv_at hl 0 rfl) ?_
            refine lv_bipush (v := 42) hx hb dX8_readsSum_39 (by decide) ?_
            refine lv_icmp_eq (tgt := 46) hx hb dX8_readsSum_41 (by decide) (fun c_15 => ?_) (fun c_15 => ?_)
            · exact J46 w11 _ _ ls hW_w11 hM_w11 (R_nlt_r (In_lit (n := 1000) (by decide) (by decide) : In 1000 1000 1000) i_x11_1 c_12 (by decide) : In 0 1000 x11_1) (In_w (R_eq_l (In_any _) (In_lit (n := 42) (by decide) (by decide) : In 42 42 42) c_15 (by decide) : In 42 42 (fI w11 31 4)) (by decide) : In 42 45 (fI w11 31 4)) (In_of (hM_w11.2 16 8 (by decide) (by decide)) (In_of (hM_w11.2 16 8 (by decide) (by decide)).symm g11_16_8)) rfl g11_16_17 rfl (In_w (R_eq_l (In_any _) (In_lit (n := 42) (by decide) (by decide) : In 42 42 42) c_15 (by decide) : In 42 42 (fI w11 31 4)) (by decide) : In 42 45 (fI w11 31 4)) g11_34_4e hP hD hS (lv_sub hl [1, 2, 0] rfl)
            · refine lv_iconst (v := 1) hx hb dX8_readsSum_44 (by decide) ?_
              exact hret _ _ _ _ _ _ hP hD hS dX8_readsSum_45 (In_lit (n := 1) (by decide) (by decide) : In 0 1 1) ⟨hW_w11, hM_w11, (In_lit (n := 1) (by decide) (by decide) : In 0 1 1), (fun h => ⟨g11_34_4e, g11_16_17⟩)⟩
  refine lv_aload_n hx hb dX8_readsSum_0 rfl (lv_at hl 0 rfl) ?_
  refine kW_i ⟨rfl, rfl⟩ hP hD hS hA (rW_V (As := []) (rest := []) hx hb hml hown hts hK hE hP hD (k_X8_readsPart d ih l D cI cJ cZ q bb bs w hW_w hf_16_8 (by have hh := hd; omega) _) ⟨⟨rfl, rfl⟩, rfl, rfl⟩ sv_X8_172 ⟨(by have hh := hd; have h : 2 * d + 4 ≤ R.frames := hR.1; show 2 * d + 3 + 1 ≤ R.frames; omega), (by have hh := hd; have h : 100 * d + 200 ≤ R.locals := hR.2; show 8 + (2 + 11) + (100 * d + 160) ≤ R.locals; omega)⟩ 34 8 (hW_w.o tX_34) rfl rfl rfl hl.1 rfl (Nat.le_of_ble_eq_true rfl) dX8_readsSum_1) (fun r_17 w_16 H locs hw_w_16 hP hD hS => ?_)
  obtain ⟨hW_w_16, hs_w_16, i_r_17, h_18⟩ := hw_w_16
  refine lv_if_ne (tgt := 9) hx hb dX8_readsSum_4 (by decide) (fun c_19 => ?_) (fun c_19 => ?_)
  · refine lv_iconst (v := 0) hx hb dX8_readsSum_9 (by decide) ?_
    refine lv_istore_n (lv' := [(1, .int 0), (0, .ref (q 34))]) hx hb dX8_readsSum_10 rfl hl (by decide) rfl (fun ls hl => ?_)
    exact J11 _ 0 w_16 _ _ ls (Nat.lt_succ_self _) hW_w_16 (Sm.rf.tr hs_w_16 (by decide)) (In_lit (n := 0) (by decide) (by decide) : In 0 1001 0) (In_of (hs_w_16.2 16 8 (by decide) (by decide)) hf_16_8) (h_18 c_19).2 (h_18 c_19).1 hP hD hS (lv_sub hl [1, 0] rfl)
  · refine lv_iconst (v := 0) hx hb dX8_readsSum_7 (by decide) ?_
    exact hret _ _ _ _ _ _ hP hD hS dX8_readsSum_8 (In_lit (n := 0) (by decide) (by decide) : In 0 1 0) ⟨hW_w_16, (Sm.rf.tr hs_w_16 (by decide)), (In_lit (n := 0) (by decide) (by decide) : In 0 1 0), (fun h => absurd rfl h)⟩
theorem k_X8_readsSum_all : ∀ d, D_k_X8_readsSum d := by
  intro d
  induction d using Nat.strongRecOn with
  | ind d ih => exact k_X8_readsSum d ih
set_option maxRecDepth 100000 in
set_option maxHeartbeats 8000000 in
theorem k_X8_readsSingle (d : Nat) (ih : ∀ d2, d2 < d → D_k_X8_readsEither d2) : D_k_X8_readsSingle d := by
  intro l D cI cJ cZ q bb bs w hW_w p1 i_p1 hf_16_8 hd
  refine eQ_z rfl (by decide) (Nat.le_of_ble_eq_true rfl) ⟨rfl, rfl⟩ ?_
  intro p e R s m args below meth c A Q hx hb hml hown hts hK hE hA hR hret hP hD hS ls hl
  have hown : s.vm.findClass RX8 = some m.cls := hown
  have hl : lv_has ls 5 [(0, .ref (q 34)), (1, .int p1)] := hl
  have J4 : ∀ (N : Nat) (x4_2 : Int32) (x4_3 : Int32) (w4 : va_W) (H : Heap) (locs : List Loc) (ls : Array Slot), (1001 - x4_3.toInt).toNat < N → HT q (TX q cI cJ cZ bb bs 16) w4 → Sm [16, 29, 30, 31, 34] [(16, 17), (16, 19), (31, 3), (31, 4), (31, 5), (31, 6), (31, 7), (34, 2), (34, 3), (34, 4)] w w4 → (In 0 1 p1) → (In 0 1 x4_2) → (In 0 1001 x4_3) → (In 0 23 (fI w4 16 8)) → (fI w4 34 4 = (fI w 34 4)) → va_P D vwCl w4 H → va_D A w4 → va_S A s.heap H locs → lv_has ls 5 [(0, .ref (q 34)), (1, .int p1), (2, .int x4_2), (3, .int x4_3)] → W p l e R s m args below meth c H locs 0 0 Q (F0 m 4 ls []) := by
    intro N
    induction N with
    | zero => intro x4_2 x4_3 w4 H locs ls hmu; exact absurd hmu (Nat.not_lt_zero _)
    | succ N ih4 =>
      intro x4_2 x4_3 w4 H locs ls hmu4 hW_w4 hM_w4 i_x4_1 i_x4_2 i_x4_3 g4_16_8 g4_34_4e hP hD hS hl
      refine lv_iload_n hx hb dX8_readsSingle_4 rfl (lv_at hl 3 rfl) ?_
      refine lv_sipush (v := 1000) hx hb dX8_readsSingle_5 (by decide) ?_
      refine lv_icmp_gt (tgt := 47) hx hb dX8_readsSingle_8 (by decide) (fun c_1 => ?_) (fun c_1 => ?_)
      · refine lv_aload_n hx hb dX8_readsSingle_47 rfl (lv_at hl 0 rfl) ?_
        refine gt_X8 hx hb hts hown hK hP 34 (hW_w4.o tX_34) 0 (by decide) wd_227 rfl (hW_w4.fr tX_34 rfl) dX8_readsSingle_48 ?_
        refine gt_X10 hx hb hts hown hK hP 31 (hW_w4.o tX_31) 4 (by decide) wd_195 rfl (hW_w4.fi tX_31 rfl) dX8_readsSingle_51 ?_
        refine lv_bipush (v := 91) hx hb dX8_readsSingle_54 (by decide) ?_
        refine lv_icmp_ne (tgt := 102) hx hb dX8_readsSingle_56 (by decide) (fun c_2 => ?_) (fun c_2 => ?_)
        · refine lv_iload_n hx hb dX8_readsSingle_102 rfl (lv_at hl 1 rfl) ?_
          refine lv_if_eq (tgt := 114) hx hb dX8_readsSingle_103 (by decide) (fun c_3 => ?_) (fun c_3 => ?_)
          · refine lv_aload_n hx hb dX8_readsSingle_114 rfl (lv_at hl 0 rfl) ?_
            refine gt_X8 hx hb hts hown hK hP 34 (hW_w4.o tX_34) 0 (by decide) wd_227 rfl (hW_w4.fr tX_34 rfl) dX8_readsSingle_115 ?_
            refine gt_X10 hx hb hts hown hK hP 31 (hW_w4.o tX_31) 4 (by decide) wd_195 rfl (hW_w4.fi tX_31 rfl) dX8_readsSingle_118 ?_
            refine lv_sipush (v := 276) hx hb dX8_readsSingle_121 (by decide) ?_
            refine lv_icmp_eq (tgt := 140) hx hb dX8_readsSingle_124 (by decide) (fun c_4 => ?_) (fun c_4 => ?_)
            · refine lv_aload_n hx hb dX8_readsSingle_140 rfl (lv_at hl 0 rfl) ?_
              refine kW_i ⟨rfl, rfl⟩ hP hD hS hA (rW_V (As := []) (rest := []) hx hb hml hown hts hK hE hP hD (k_X8_readsFact l D cI cJ cZ q bb bs w4 hW_w4 (In_of (hM_w4.2 16 8 (by decide) (by decide)) (In_of (hM_w4.2 16 8 (by decide) (by decide)).symm g4_16_8)) _) ⟨⟨rfl, rfl⟩, rfl, rfl⟩ sv_X8_159 ⟨(by have hh := hd; have h : 3 * d + 5 ≤ R.frames := hR.1; show 2 + 1 ≤ R.frames; omega), (by have hh := hd; have h : 150 * d + 300 ≤ R.locals := hR.2; show 8 + (1 + 11) + (47) ≤ R.locals; omega)⟩ 34 8 (hW_w4.o tX_34) rfl rfl rfl hl.1 rfl (Nat.le_of_ble_eq_true rfl) dX8_readsSingle_141) (fun r_6 w_5 H locs hw_w_5 hP hD hS => ?_)
              obtain ⟨hW_w_5, hs_w_5, i_r_6⟩ := hw_w_5
              refine lv_istore_n (lv' := [(3, .int r_6), (0, .ref (q 34)), (1, .int p1), (2, .int x4_2)]) hx hb dX8_readsSingle_144 rfl hl (by decide) rfl (fun ls hl => ?_)
              refine lv_goto (tgt := 201) hx hb dX8_readsSingle_145 (by decide) ?_
              refine lv_iload_n hx hb dX8_readsSingle_201 rfl (lv_at hl 3 rfl) ?_
              refine lv_if_eq (tgt := 215) hx hb dX8_readsSingle_202 (by decide) (fun c_7 => ?_) (fun c_7 => ?_)
              · refine lv_iload_n hx hb dX8_readsSingle_215 rfl (lv_at hl 0 rfl) ?_
                exact hret _ _ _ _ _ _ hP hD hS dX8_readsSingle_216 i_r_6 ⟨hW_w_5, (hM_w4.tr hs_w_5 (by decide)), i_r_6, (fun h => ((hs_w_5.2 34 4 (by decide) (by decide)).trans g4_34_4e))⟩
              · refine lv_aload_n hx hb dX8_readsSingle_205 rfl (lv_at hl 1 rfl) ?_
                refine gt_X8 hx hb hts hown hK hP 34 (hW_w_5.o tX_34) 1 (by decide) wd_228 rfl (hW_w_5.fr tX_34 rfl) dX8_readsSingle_206 ?_
                refine lv_bipush (v := 7) hx hb dX8_readsSingle_209 (by decide) ?_
                refine lv_iconst (v := 0) hx hb dX8_readsSingle_211 (by decide) ?_
                refine kW_v ⟨rfl, rfl⟩ hP hD hS hA (rW_V (As := [.int 7, .int 0]) (rest := []) hx hb hml hown hts hK hE hP hD (k_X1_addCode_at16 l D cI cJ cZ q bb bs 16 w_5 hW_w_5 7 0 (In_lit (n := 7) (by decide) (by decide) : In (-1) 15 7) (In_of ((hs_w_5.2 16 8 (by decide) (by decide)).trans (hM_w4.2 16 8 (by decide) (by decide))) (In_of (hM_w4.2 16 8 (by decide) (by decide)).symm g4_16_8)) (⟨(fun h => absurd h (by decide)), (fun h => absurd h (by decide)), (fun h => absurd h (by decide))⟩) _) ⟨⟨rfl, rfl⟩, rfl, rfl⟩ sv_X8_146 ⟨(by have hh := hd; have h : 3 * d + 5 ≤ R.frames := hR.1; show 0 + 1 ≤ R.frames; omega), (by have hh := hd; have h : 150 * d + 300 ≤ R.locals := hR.2; show 8 + (3 + 11) + (0) ≤ R.locals; omega)⟩ 16 1 (hW_w_5.o tX_16) rfl rfl rfl hl.1 rfl (Nat.le_of_ble_eq_true rfl) dX8_readsSingle_212) (fun w_8 H locs hw_w_8 hP hD hS => ?_)
                obtain ⟨hW_w_8, hs_w_8, h_10⟩ := hw_w_8
                refine lv_iload_n hx hb dX8_readsSingle_215 rfl (lv_at hl 0 rfl) ?_
                exact hret _ _ _ _ _ _ hP hD hS dX8_readsSingle_216 i_r_6 ⟨hW_w_8, ((hM_w4.tr hs_w_5 (by decide)).tr hs_w_8 (by decide)), i_r_6, (fun h => ((hs_w_8.gI (by decide)).trans ((hs_w_5.2 34 4 (by decide) (by decide)).trans g4_34_4e)))⟩
            · refine lv_aload_n hx hb dX8_readsSingle_127 rfl (lv_at hl 0 rfl) ?_
              refine gt_X8 hx hb hts hown hK hP 34 (hW_w4.o tX_34) 0 (by decide) wd_227 rfl (hW_w4.fr tX_34 rfl) dX8_readsSingle_128 ?_
              refine gt_X10 hx hb hts hown hK hP 31 (hW_w4.o tX_31) 4 (by decide) wd_195 rfl (hW_w4.fi tX_31 rfl) dX8_readsSingle_131 ?_
              refine lv_sipush (v := 277) hx hb dX8_readsSingle_134 (by decide) ?_
              refine lv_icmp_ne (tgt := 148) hx hb dX8_readsSingle_137 (by decide) (fun c_11 => ?_) (fun c_11 => ?_)
              · refine lv_aload_n hx hb dX8_readsSingle_148 rfl (lv_at hl 0 rfl) ?_
                refine kW_i ⟨rfl, rfl⟩ hP hD hS hA (rW_V (As := []) (rest := []) hx hb hml hown hts hK hE hP hD (k_X8_readsSum_all d l D cI cJ cZ q bb bs w4 hW_w4 (In_of (hM_w4.2 16 8 (by decide) (by decide)) (In_of (hM_w4.2 16 8 (by decide) (by decide)).symm g4_16_8)) (by have e34_4 : (fI w4 34 4).toInt = ((fI w 34 4) : Int32).toInt := congrArg Int32.toInt g4_34_4e; have hh := hd; omega) _) ⟨⟨rfl, rfl⟩, rfl, rfl⟩ sv_X8_136 ⟨(by have hh := hd; have h : 3 * d + 5 ≤ R.frames := hR.1; show 2 * d + 4 + 1 ≤ R.frames; omega), (by have hh := hd; have h : 150 * d + 300 ≤ R.locals := hR.2; show 8 + (3 + 11) + (100 * d + 200) ≤ R.locals; omega)⟩ 34 8 (hW_w4.o tX_34) rfl rfl rfl hl.1 rfl (Nat.le_of_ble_eq_true rfl) dX8_readsSingle_149) (fun r_13 w_12 H locs hw_w_12 hP hD hS => ?_)
                obtain ⟨hW_w_12, hs_w_12, i_r_13, h_14⟩ := hw_w_12
                refine lv_istore_n (lv' := [(3, .int r_13), (0, .ref (q 34)), (1, .int p1), (2, .int x4_2)]) hx hb dX8_readsSingle_152 rfl hl (by decide) rfl (fun ls hl => ?_)
                refine lv_aload_n hx hb dX8_readsSingle_153 rfl (lv_at hl 1 rfl) ?_
                refine gt_X8 hx hb hts hown hK hP 34 (hW_w_12.o tX_34) 0 (by decide) wd_227 rfl (hW_w_12.fr tX_34 rfl) dX8_readsSingle_154 ?_
                refine gt_X10 hx hb hts hown hK hP 31 (hW_w_12.o tX_31) 4 (by decide) wd_195 rfl (hW_w_12.fi tX_31 rfl) dX8_readsSingle_157 ?_
                refine kW_i ⟨rfl, rfl⟩ hP hD hS hA (rW_S (As := [.int (fI w_12 31 4)]) (rest := []) hx hb hml hown hts hK hE hP hD (k_X8_comparison l D cI cJ cZ q bb bs w_12 hW_w_12 (fI w_12 31 4) (In_of ((hs_w_12.2 16 8 (by decide) (by decide)).trans (hM_w4.2 16 8 (by decide) (by decide))) (In_of (hM_w4.2 16 8 (by decide) (by decide)).symm g4_16_8)) _) ⟨⟨rfl, rfl⟩, rfl, rfl⟩ sv_X8_162 ⟨(by have hh := hd; have h : 3 * d + 5 ≤ R.frames := hR.1; show 0 + 1 ≤ R.frames; omega), (by have hh := hd; have h : 150 * d + 300 ≤ R.locals := hR.2; show 8 + (1 + 11) + (0) ≤ R.locals; omega)⟩ rfl hl.1 rfl (Nat.le_of_ble_eq_true rfl) dX8_readsSingle_160) (fun r_16 w_15 H locs hw_w_15 hP hD hS => ?_)
                obtain ⟨hW_w_15, hs_w_15, i_r_16, h_17⟩ := hw_w_15
                refine lv_istore (lv' := [(4, .int r_16), (3, .int r_13), (0, .ref (q 34)), (1, .int p1), (2, .int x4_2)]) hx hb dX8_readsSingle_163 hl (by decide) rfl (fun ls hl => ?_)
                refine lv_iload_n hx hb dX8_readsSingle_165 rfl (lv_at hl 1 rfl) ?_
                refine lv_if_eq (tgt := 189) hx hb dX8_readsSingle_166 (by decide) (fun c_18 => ?_) (fun c_18 => ?_)
                · refine lv_iconst (v := 0) hx hb dX8_readsSingle_189 (by decide) ?_
                  refine lv_istore_n (lv' := [(3, .int 0), (4, .int r_16), (0, .ref (q 34)), (1, .int p1), (2, .int x4_2)]) hx hb dX8_readsSingle_190 rfl hl (by decide) rfl (fun ls hl => ?_)
                  refine lv_aload_n hx hb dX8_readsSingle_191 rfl (lv_at hl 2 rfl) ?_
                  refine gt_X8 hx hb hts hown hK hP 34 (hW_w_15.o tX_34) 1 (by decide) wd_228 rfl (hW_w_15.fr tX_34 rfl) dX8_readsSingle_192 ?_
                  refine lv_iload hx hb dX8_readsSingle_195 (lv_at hl 1 rfl) ?_
                  refine lv_iconst (v := 0) hx hb dX8_readsSingle_197 (by decide) ?_
                  refine kW_v ⟨rfl, rfl⟩ hP hD hS hA (rW_V (As := [.int r_16, .int 0]) (rest := []) hx hb hml hown hts hK hE hP hD (k_X1_addCode_at16 l D cI cJ cZ q bb bs 16 w_15 hW_w_15 r_16 0 (In_w i_r_16 (by decide) : In (-1) 15 r_16) (In_of ((hs_w_15.gI (by decide)).trans ((hs_w_12.2 16 8 (by decide) (by decide)).trans (hM_w4.2 16 8 (by decide) (by decide)))) (In_of (hM_w4.2 16 8 (by decide) (by decide)).symm g4_16_8)) (⟨(fun hh => absurd (hh ▸ h_17) (by decide)), (fun hh => absurd (hh ▸ h_17) (by decide)), (fun hh => absurd (hh ▸ h_17) (by decide))⟩) _) ⟨⟨rfl, rfl⟩, rfl, rfl⟩ sv_X8_146 ⟨(by have hh := hd; have h : 3 * d + 5 ≤ R.frames := hR.1; show 0 + 1 ≤ R.frames; omega), (by have hh := hd; have h : 150 * d + 300 ≤ R.locals := hR.2; show 8 + (3 + 11) + (0) ≤ R.locals; omega)⟩ 16 1 (hW_w_15.o tX_16) rfl rfl rfl hl.1 rfl (Nat.le_of_ble_eq_true rfl) dX8_readsSingle_198) (fun w_19 H locs hw_w_19 hP hD hS => ?_)
                  obtain ⟨hW_w_19, hs_w_19, h_21⟩ := hw_w_19
                  refine lv_iload_n hx hb dX8_readsSingle_201 rfl (lv_at hl 4 rfl) ?_
                  refine lv_if_eq (tgt := 215) hx hb dX8_readsSingle_202 (by decide) (fun c_22 => ?_) (fun c_22 => ?_)
                  · refine lv_iload_n hx hb dX8_readsSingle_215 rfl (lv_at hl 0 rfl) ?_
                    exact hret _ _ _ _ _ _ hP hD hS dX8_readsSingle_216 (In_lit (n := 0) (by decide) (by decide) : In 0 1 0) ⟨hW_w_19, (((hM_w4.tr hs_w_12 (by decide)).tr hs_w_15 (by decide)).tr hs_w_19 (by decide)), (In_lit (n := 0) (by decide) (by decide) : In 0 1 0), (fun h => absurd rfl h)⟩
                  · refine lv_aload_n hx hb dX8_readsSingle_205 rfl (lv_at hl 2 rfl) ?_
                    refine gt_X8 hx hb hts hown hK hP 34 (hW_w_19.o tX_34) 1 (by decide) wd_228 rfl (hW_w_19.fr tX_34 rfl) dX8_readsSingle_206 ?_
                    refine lv_bipush (v := 7) hx hb dX8_readsSingle_209 (by decide) ?_
                    refine lv_iconst (v := 0) hx hb dX8_readsSingle_211 (by decide) ?_
                    refine kW_v ⟨rfl, rfl⟩ hP hD hS hA (rW_V (As := [.int 7, .int 0]) (rest := []) hx hb hml hown hts hK hE hP hD (k_X1_addCode_at16 l D cI cJ cZ q bb bs 16 w_19 hW_w_19 7 0 (In_lit (n := 7) (by decide) (by decide) : In (-1) 15 7) (In_of ((hs_w_19.2 16 8 (by decide) (by decide)).trans ((hs_w_15.gI (by decide)).trans ((hs_w_12.2 16 8 (by decide) (by decide)).trans (hM_w4.2 16 8 (by decide) (by decide))))) (In_of (hM_w4.2 16 8 (by decide) (by decide)).symm g4_16_8)) (⟨(fun h => absurd h (by decide)), (fun h => absurd h (by decide)), (fun h => absurd h (by decide))⟩) _) ⟨⟨rfl, rfl⟩, rfl, rfl⟩ sv_X8_146 ⟨(by have hh := hd; have h : 3 * d + 5 ≤ R.frames := hR.1; show 0 + 1 ≤ R.frames; omega), (by have hh := hd; have h : 150 * d + 300 ≤ R.locals := hR.2; show 8 + (3 + 11) + (0) ≤ R.locals; omega)⟩ 16 1 (hW_w_19.o tX_16) rfl rfl rfl hl.1 rfl (Nat.le_of_ble_eq_true rfl) dX8_readsSingle_212) (fun w_23 H locs hw_w_23 hP hD hS => ?_)
                    obtain ⟨hW_w_23, hs_w_23, h_25⟩ := hw_w_23
                    refine lv_iload_n hx hb dX8_readsSingle_215 rfl (lv_at hl 0 rfl) ?_
                    exact hret _ _ _ _ _ _ hP hD hS dX8_readsSingle_216 (In_lit (n := 0) (by decide) (by decide) : In 0 1 0) ⟨hW_w_23, ((((hM_w4.tr hs_w_12 (by decide)).tr hs_w_15 (by decide)).tr hs_w_19 (by decide)).tr hs_w_23 (by decide)), (In_lit (n := 0) (by decide) (by decide) : In 0 1 0), (fun h => absurd rfl h)⟩
                · refine lv_aload_n hx hb dX8_readsSingle_169 rfl (lv_at hl 2 rfl) ?_
                  refine lv_iload hx hb dX8_readsSingle_170 (lv_at hl 0 rfl) ?_
                  refine kW_i ⟨rfl, rfl⟩ hP hD hS hA (rW_V (As := [.int r_16]) (rest := []) hx hb hml hown hts hK hE hP hD (k_X8_passesComparison l D cI cJ cZ q bb bs w_15 hW_w_15 r_16 i_r_16 (In_of ((hs_w_15.gI (by decide)).trans ((hs_w_12.2 16 8 (by decide) (by decide)).trans (hM_w4.2 16 8 (by decide) (by decide)))) (In_of (hM_w4.2 16 8 (by decide) (by decide)).symm g4_16_8)) (In_of (hs_w_15.gI (by decide)) (h_14 c_18).2) _) ⟨⟨rfl, rfl⟩, rfl, rfl⟩ sv_X8_166 ⟨(by have hh := hd; have h : 3 * d + 5 ≤ R.frames := hR.1; show 2 + 1 ≤ R.frames; omega), (by have hh := hd; have h : 150 * d + 300 ≤ R.locals := hR.2; show 8 + (2 + 11) + (47) ≤ R.locals; omega)⟩ 34 8 (hW_w_15.o tX_34) rfl rfl rfl hl.1 rfl (Nat.le_of_ble_eq_true rfl) dX8_readsSingle_172) (fun r_27 w_26 H locs hw_w_26 hP hD hS => ?_)
                  obtain ⟨hW_w_26, hs_w_26, i_r_27, h_28, h_29⟩ := hw_w_26
                  refine lv_if_eq (tgt := 189) hx hb dX8_readsSingle_175 (by decide) (fun c_30 => ?_) (fun c_30 => ?_)
                  · refine lv_iconst (v := 0) hx hb dX8_readsSingle_189 (by decide) ?_
                    refine lv_istore_n (lv' := [(3, .int 0), (4, .int r_16), (0, .ref (q 34)), (1, .int p1), (2, .int x4_2)]) hx hb dX8_readsSingle_190 rfl hl (by decide) rfl (fun ls hl => ?_)
                    refine lv_aload_n hx hb dX8_readsSingle_191 rfl (lv_at hl 2 rfl) ?_
                    refine gt_X8 hx hb hts hown hK hP 34 (hW_w_26.o tX_34) 1 (by decide) wd_228 rfl (hW_w_26.fr tX_34 rfl) dX8_readsSingle_192 ?_
                    refine lv_iload hx hb dX8_readsSingle_195 (lv_at hl 1 rfl) ?_
                    refine lv_iconst (v := 0) hx hb dX8_readsSingle_197 (by decide) ?_
                    refine kW_v ⟨rfl, rfl⟩ hP hD hS hA (rW_V (As := [.int r_16, .int 0]) (rest := []) hx hb hml hown hts hK hE hP hD (k_X1_addCode_at16 l D cI cJ cZ q bb bs 16 w_26 hW_w_26 r_16 0 (In_w (h_28 c_30) (by decide) : In (-1) 15 r_16) (In_of ((hs_w_26.gI (by decide)).trans ((hs_w_15.gI (by decide)).trans ((hs_w_12.2 16 8 (by decide) (by decide)).trans (hM_w4.2 16 8 (by decide) (by decide))))) (In_of (hM_w4.2 16 8 (by decide) (by decide)).symm g4_16_8)) (⟨(fun hh => absurd (hh ▸ (h_28 c_30)) (by unfold In; decide)), (fun hh => absurd (hh ▸ (h_28 c_30)) (by unfold In; decide)), (fun hh => absurd (hh ▸ (h_28 c_30)) (by unfold In; decide))⟩) _) ⟨⟨rfl, rfl⟩, rfl, rfl⟩ sv_X8_146 ⟨(by have hh := hd; have h : 3 * d + 5 ≤ R.frames := hR.1; show 0 + 1 ≤ R.frames; omega), (by have hh := hd; have h : 150 * d + 300 ≤ R.locals := hR.2; show 8 + (3 + 11) + (0) ≤ R.locals; omega)⟩ 16 1 (hW_w_26.o tX_16) rfl rfl rfl hl.1 rfl (Nat.le_of_ble_eq_true rfl) dX8_readsSingle_198) (fun w_31 H locs hw_w_31 hP hD hS => ?_)
                    obtain ⟨hW_w_31, hs_w_31, h_33⟩ := hw_w_31
                    refine lv_iload_n hx hb dX8_readsSingle_201 rfl (lv_at hl 4 rfl) ?_
                    refine lv_if_eq (tgt := 215) hx hb dX8_readsSingle_202 (by decide) (fun c_34 => ?_) (fun c_34 => ?_)
                    · refine lv_iload_n hx hb dX8_readsSingle_215 rfl (lv_at hl 0 rfl) ?_
                      exact hret _ _ _ _ _ _ hP hD hS dX8_readsSingle_216 (In_lit (n := 0) (by decide) (by decide) : In 0 1 0) ⟨hW_w_31, ((((hM_w4.tr hs_w_12 (by decide)).tr hs_w_15 (by decide)).tr hs_w_26 (by decide)).tr hs_w_31 (by decide)), (In_lit (n := 0) (by decide) (by decide) : In 0 1 0), (fun h => absurd rfl h)⟩
                    · refine lv_aload_n hx hb dX8_readsSingle_205 rfl (lv_at hl 2 rfl) ?_
                      refine gt_X8 hx hb hts hown hK hP 34 (hW_w_31.o tX_34) 1 (by decide) wd_228 rfl (hW_w_31.fr tX_34 rfl) dX8_readsSingle_206 ?_
                      refine lv_bipush (v := 7) hx hb dX8_readsSingle_209 (by decide) ?_
                      refine lv_iconst (v := 0) hx hb dX8_readsSingle_211 (by decide) ?_
                      refine kW_v ⟨rfl, rfl⟩ hP hD hS hA (rW_V (As := [.int 7, .int 0]) (rest := []) hx hb hml hown hts hK hE hP hD (k_X1_addCode_at16 l D cI cJ cZ q bb bs 16 w_31 hW_w_31 7 0 (In_lit (n := 7) (by decide) (by decide) : In (-1) 15 7) (In_of ((hs_w_31.2 16 8 (by decide) (by decide)).trans ((hs_w_26.gI (by decide)).trans ((hs_w_15.gI (by decide)).trans ((hs_w_12.2 16 8 (by decide) (by decide)).trans (hM_w4.2 16 8 (by decide) (by decide)))))) (In_of (hM_w4.2 16 8 (by decide) (by decide)).symm g4_16_8)) (⟨(fun h => absurd h (by decide)), (fun h => absurd h (by decide)), (fun h => absurd h (by decide))⟩) _) ⟨⟨rfl, rfl⟩, rfl, rfl⟩ sv_X8_146 ⟨(by have hh := hd; have h : 3 * d + 5 ≤ R.frames := hR.1; show 0 + 1 ≤ R.frames; omega), (by have hh := hd; have h : 150 * d + 300 ≤ R.locals := hR.2; show 8 + (3 + 11) + (0) ≤ R.locals; omega)⟩ 16 1 (hW_w_31.o tX_16) rfl rfl rfl hl.1 rfl (Nat.le_of_ble_eq_true rfl) dX8_readsSingle_212) (fun w_35 H locs hw_w_35 hP hD hS => ?_)
                      obtain ⟨hW_w_35, hs_w_35, h_37⟩ := hw_w_35
                      refine lv_iload_n hx hb dX8_readsSingle_215 rfl (lv_at hl 0 rfl) ?_
                      exact hret _ _ _ _ _ _ hP hD hS dX8_readsSingle_216 (In_lit (n := 0) (by decide) (by decide) : In 0 1 0) ⟨hW_w_35, (((((hM_w4.tr hs_w_12 (by decide)).tr hs_w_15 (by decide)).tr hs_w_26 (by decide)).tr hs_w_31 (by decide)).tr hs_w_35 (by decide)), (In_lit (n := 0) (by decide) (by decide) : In 0 1 0), (fun h => absurd rfl h)⟩
                  · refine lv_aload_n hx hb dX8_readsSingle_178 rfl (lv_at hl 2 rfl) ?_
                    refine kW_i ⟨rfl, rfl⟩ hP hD hS hA (rW_V (As := []) (rest := []) hx hb hml hown hts hK hE hP hD (k_X8_readsSum_all d l D cI cJ cZ q bb bs w_26 hW_w_26 (In_of ((hs_w_26.gI (by decide)).trans ((hs_w_15.gI (by decide)).trans ((hs_w_12.2 16 8 (by decide) (by decide)).trans (hM_w4.2 16 8 (by decide) (by decide))))) (In_of (hM_w4.2 16 8 (by decide) (by decide)).symm g4_16_8)) (by have e34_4 : (fI w_26 34 4).toInt = ((fI w 34 4) : Int32).toInt := congrArg Int32.toInt ((hs_w_26.2 34 4 (by decide) (by decide)).trans ((hs_w_15.gI (by decide)).trans ((h_14 c_18).1.trans g4_34_4e))); have hh := hd; omega) _) ⟨⟨rfl, rfl⟩, rfl, rfl⟩ sv_X8_136 ⟨(by have hh := hd; have h : 3 * d + 5 ≤ R.frames := hR.1; show 2 * d + 4 + 1 ≤ R.frames; omega), (by have hh := hd; have h : 150 * d + 300 ≤ R.locals := hR.2; show 8 + (3 + 11) + (100 * d + 200) ≤ R.locals; omega)⟩ 34 8 (hW_w_26.o tX_34) rfl rfl rfl hl.1 rfl (Nat.le_of_ble_eq_true rfl) dX8_readsSingle_179) (fun r_39 w_38 H locs hw_w_38 hP hD hS => ?_)
                    obtain ⟨hW_w_38, hs_w_38, i_r_39, h_40⟩ := hw_w_38
                    refine lv_if_eq (tgt := 189) hx hb dX8_readsSingle_182 (by decide) (fun c_41 => ?_) (fun c_41 => ?_)
                    · refine lv_iconst (v := 0) hx hb dX8_readsSingle_189 (by decide) ?_
                      refine lv_istore_n (lv' := [(3, .int 0), (4, .int r_16), (0, .ref (q 34)), (1, .int p1), (2, .int x4_2)]) hx hb dX8_readsSingle_190 rfl hl (by decide) rfl (fun ls hl => ?_)
                      refine lv_aload_n hx hb dX8_readsSingle_191 rfl (lv_at hl 2 rfl) ?_
                      refine gt_X8 hx hb hts hown hK hP 34 (hW_w_38.o tX_34) 1 (by decide) wd_228 rfl (hW_w_38.fr tX_34 rfl) dX8_readsSingle_192 ?_
                      refine lv_iload hx hb dX8_readsSingle_195 (lv_at hl 1 rfl) ?_
                      refine lv_iconst (v := 0) hx hb dX8_readsSingle_197 (by decide) ?_
                      refine kW_v ⟨rfl, rfl⟩ hP hD hS hA (rW_V (As := [.int r_16, .int 0]) (rest := []) hx hb hml hown hts hK hE hP hD (k_X1_addCode_at16 l D cI cJ cZ q bb bs 16 w_38 hW_w_38 r_16 0 (In_w (h_29 c_30) (by decide) : In (-1) 15 r_16) (In_of ((hs_w_38.2 16 8 (by decide) (by decide)).trans ((hs_w_26.gI (by decide)).trans ((hs_w_15.gI (by decide)).trans ((hs_w_12.2 16 8 (by decide) (by decide)).trans (hM_w4.2 16 8 (by decide) (by decide)))))) (In_of (hM_w4.2 16 8 (by decide) (by decide)).symm g4_16_8)) (⟨(fun hh => absurd (hh ▸ h_17) (by decide)), (fun hh => absurd (hh ▸ h_17) (by decide)), (fun hh => absurd (hh ▸ h_17) (by decide))⟩) _) ⟨⟨rfl, rfl⟩, rfl, rfl⟩ sv_X8_146 ⟨(by have hh := hd; have h : 3 * d + 5 ≤ R.frames := hR.1; show 0 + 1 ≤ R.frames; omega), (by have hh := hd; have h : 150 * d + 300 ≤ R.locals := hR.2; show 8 + (3 + 11) + (0) ≤ R.locals; omega)⟩ 16 1 (hW_w_38.o tX_16) rfl rfl rfl hl.1 rfl (Nat.le_of_ble_eq_true rfl) dX8_readsSingle_198) (fun w_42 H locs hw_w_42 hP hD hS => ?_)
                      obtain ⟨hW_w_42, hs_w_42, h_44⟩ := hw_w_42
                      refine lv_iload_n hx hb dX8_readsSingle_201 rfl (lv_at hl 4 rfl) ?_
                      refine lv_if_eq (tgt := 215) hx hb dX8_readsSingle_202 (by decide) (fun c_45 => ?_) (fun c_45 => ?_)
                      · refine lv_iload_n hx hb dX8_readsSingle_215 rfl (lv_at hl 0 rfl) ?_
                        exact hret _ _ _ _ _ _ hP hD hS dX8_readsSingle_216 (In_lit (n := 0) (by decide) (by decide) : In 0 1 0) ⟨hW_w_42, (((((hM_w4.tr hs_w_12 (by decide)).tr hs_w_15 (by decide)).tr hs_w_26 (by decide)).tr hs_w_38 (by decide)).tr hs_w_42 (by decide)), (In_lit (n := 0) (by decide) (by decide) : In 0 1 0), (fun h => absurd rfl h)⟩
                      · refine lv_aload_n hx hb dX8_readsSingle_205 rfl (lv_at hl 2 rfl) ?_
                        refine gt_X8 hx hb hts hown hK hP 34 (hW_w_42.o tX_34) 1 (by decide) wd_228 rfl (hW_w_42.fr tX_34 rfl) dX8_readsSingle_206 ?_
                        refine lv_bipush (v := 7) hx hb dX8_readsSingle_209 (by decide) ?_
                        refine lv_iconst (v := 0) hx hb dX8_readsSingle_211 (by decide) ?_
                        refine kW_v ⟨rfl, rfl⟩ hP hD hS hA (rW_V (As := [.int 7, .int 0]) (rest := []) hx hb hml hown hts hK hE hP hD (k_X1_addCode_at16 l D cI cJ cZ q bb bs 16 w_42 hW_w_42 7 0 (In_lit (n := 7) (by decide) (by decide) : In (-1) 15 7) (In_of ((hs_w_42.2 16 8 (by decide) (by decide)).trans ((hs_w_38.2 16 8 (by decide) (by decide)).trans ((hs_w_26.gI (by decide)).trans ((hs_w_15.gI (by decide)).trans ((hs_w_12.2 16 8 (by decide) (by decide)).trans (hM_w4.2 16 8 (by decide) (by decide))))))) (In_of (hM_w4.2 16 8 (by decide) (by decide)).symm g4_16_8)) (⟨(fun h => absurd h (by decide)), (fun h => absurd h (by decide)), (fun h => absurd h (by decide))⟩) _) ⟨⟨rfl, rfl⟩, rfl, rfl⟩ sv_X8_146 ⟨(by have hh := hd; have h : 3 * d + 5 ≤ R.frames := hR.1; show 0 + 1 ≤ R.frames; omega), (by have hh := hd; have h : 150 * d + 300 ≤ R.locals := hR.2; show 8 + (3 + 11) + (0) ≤ R.locals; omega)⟩ 16 1 (hW_w_42.o tX_16) rfl rfl rfl hl.1 rfl (Nat.le_of_ble_eq_true rfl) dX8_readsSingle_212) (fun w_46 H locs hw_w_46 hP hD hS => ?_)
                        obtain ⟨hW_w_46, hs_w_46, h_48⟩ := hw_w_46
                        refine lv_iload_n hx hb dX8_readsSingle_215 rfl (lv_at hl 0 rfl) ?_
                        exact hret _ _ _ _ _ _ hP hD hS dX8_readsSingle_216 (In_lit (n := 0) (by decide) (by decide) : In 0 1 0) ⟨hW_w_46, ((((((hM_w4.tr hs_w_12 (by decide)).tr hs_w_15 (by decide)).tr hs_w_26 (by decide)).tr hs_w_38 (by decide)).tr hs_w_42 (by decide)).tr hs_w_46 (by decide)), (In_lit (n := 0) (by decide) (by decide) : In 0 1 0), (fun h => absurd rfl h)⟩
                    · refine lv_iconst (v := 1) hx hb dX8_readsSingle_185 (by decide) ?_
                      refine lv_goto (tgt := 190) hx hb dX8_readsSingle_186 (by decide) ?_
                      refine lv_istore_n (lv' := [(3, .int 1), (4, .int r_16), (0, .ref (q 34)), (1, .int p1), (2, .int x4_2)]) hx hb dX8_readsSingle_190 rfl hl (by decide) rfl (fun ls hl => ?_)
                      refine lv_aload_n hx hb dX8_readsSingle_191 rfl (lv_at hl 2 rfl) ?_
                      refine gt_X8 hx hb hts hown hK hP 34 (hW_w_38.o tX_34) 1 (by decide) wd_228 rfl (hW_w_38.fr tX_34 rfl) dX8_readsSingle_192 ?_
                      refine lv_iload hx hb dX8_readsSingle_195 (lv_at hl 1 rfl) ?_
                      refine lv_iconst (v := 0) hx hb dX8_readsSingle_197 (by decide) ?_
                      refine kW_v ⟨rfl, rfl⟩ hP hD hS hA (rW_V (As := [.int r_16, .int 0]) (rest := []) hx hb hml hown hts hK hE hP hD (k_X1_addCode_at16 l D cI cJ cZ q bb bs 16 w_38 hW_w_38 r_16 0 (In_w (h_29 c_30) (by decide) : In (-1) 15 r_16) (In_of ((hs_w_38.2 16 8 (by decide) (by decide)).trans ((hs_w_26.gI (by decide)).trans ((hs_w_15.gI (by decide)).trans ((hs_w_12.2 16 8 (by decide) (by decide)).trans (hM_w4.2 16 8 (by decide) (by decide)))))) (In_of (hM_w4.2 16 8 (by decide) (by decide)).symm g4_16_8)) (⟨(fun hh => absurd (hh ▸ h_17) (by decide)), (fun hh => absurd (hh ▸ h_17) (by decide)), (fun hh => absurd (hh ▸ h_17) (by decide))⟩) _) ⟨⟨rfl, rfl⟩, rfl, rfl⟩ sv_X8_146 ⟨(by have hh := hd; have h : 3 * d + 5 ≤ R.frames := hR.1; show 0 + 1 ≤ R.frames; omega), (by have hh := hd; have h : 150 * d + 300 ≤ R.locals := hR.2; show 8 + (3 + 11) + (0) ≤ R.locals; omega)⟩ 16 1 (hW_w_38.o tX_16) rfl rfl rfl hl.1 rfl (Nat.le_of_ble_eq_true rfl) dX8_readsSingle_198) (fun w_49 H locs hw_w_49 hP hD hS => ?_)
                      obtain ⟨hW_w_49, hs_w_49, h_51⟩ := hw_w_49
                      refine lv_iload_n hx hb dX8_readsSingle_201 rfl (lv_at hl 4 rfl) ?_
                      refine lv_if_eq (tgt := 215) hx hb dX8_readsSingle_202 (by decide) (fun c_52 => ?_) (fun c_52 => ?_)
                      · refine lv_iload_n hx hb dX8_readsSingle_215 rfl (lv_at hl 0 rfl) ?_
                        exact hret _ _ _ _ _ _ hP hD hS dX8_readsSingle_216 (In_lit (n := 1) (by decide) (by decide) : In 0 1 1) ⟨hW_w_49, (((((hM_w4.tr hs_w_12 (by decide)).tr hs_w_15 (by decide)).tr hs_w_26 (by decide)).tr hs_w_38 (by decide)).tr hs_w_49 (by decide)), (In_lit (n := 1) (by decide) (by decide) : In 0 1 1), (fun h => ((hs_w_49.gI (by decide)).trans ((h_40 c_41).1.trans ((hs_w_26.2 34 4 (by decide) (by decide)).trans ((hs_w_15.gI (by decide)).trans ((h_14 c_18).1.trans g4_34_4e))))))⟩
                      · refine lv_aload_n hx hb dX8_readsSingle_205 rfl (lv_at hl 2 rfl) ?_
                        refine gt_X8 hx hb hts hown hK hP 34 (hW_w_49.o tX_34) 1 (by decide) wd_228 rfl (hW_w_49.fr tX_34 rfl) dX8_readsSingle_206 ?_
                        refine lv_bipush (v := 7) hx hb dX8_readsSingle_209 (by decide) ?_
                        refine lv_iconst (v := 0) hx hb dX8_readsSingle_211 (by decide) ?_
                        refine kW_v ⟨rfl, rfl⟩ hP hD hS hA (rW_V (As := [.int 7, .int 0]) (rest := []) hx hb hml hown hts hK hE hP hD (k_X1_addCode_at16 l D cI cJ cZ q bb bs 16 w_49 hW_w_49 7 0 (In_lit (n := 7) (by decide) (by decide) : In (-1) 15 7) (In_of ((hs_w_49.2 16 8 (by decide) (by decide)).trans ((hs_w_38.2 16 8 (by decide) (by decide)).trans ((hs_w_26.gI (by decide)).trans ((hs_w_15.gI (by decide)).trans ((hs_w_12.2 16 8 (by decide) (by decide)).trans (hM_w4.2 16 8 (by decide) (by decide))))))) (In_of (hM_w4.2 16 8 (by decide) (by decide)).symm g4_16_8)) (⟨(fun h => absurd h (by decide)), (fun h => absurd h (by decide)), (fun h => absurd h (by decide))⟩) _) ⟨⟨rfl, rfl⟩, rfl, rfl⟩ sv_X8_146 ⟨(by have hh := hd; have h : 3 * d + 5 ≤ R.frames := hR.1; show 0 + 1 ≤ R.frames; omega), (by have hh := hd; have h : 150 * d + 300 ≤ R.locals := hR.2; show 8 + (3 + 11) + (0) ≤ R.locals; omega)⟩ 16 1 (hW_w_49.o tX_16) rfl rfl rfl hl.1 rfl (Nat.le_of_ble_eq_true rfl) dX8_readsSingle_212) (fun w_53 H locs hw_w_53 hP hD hS => ?_)
                        obtain ⟨hW_w_53, hs_w_53, h_55⟩ := hw_w_53
                        refine lv_iload_n hx hb dX8_readsSingle_215 rfl (lv_at hl 0 rfl) ?_
                        exact hret _ _ _ _ _ _ hP hD hS dX8_readsSingle_216 (In_lit (n := 1) (by decide) (by decide) : In 0 1 1) ⟨hW_w_53, ((((((hM_w4.tr hs_w_12 (by decide)).tr hs_w_15 (by decide)).tr hs_w_26 (by decide)).tr hs_w_38 (by decide)).tr hs_w_49 (by decide)).tr hs_w_53 (by decide)), (In_lit (n := 1) (by decide) (by decide) : In 0 1 1), (fun h => ((hs_w_53.gI (by decide)).trans ((hs_w_49.gI (by decide)).trans ((h_40 c_41).1.trans ((hs_w_26.2 34 4 (by decide) (by decide)).trans ((hs_w_15.gI (by decide)).trans ((h_14 c_18).1.trans g4_34_4e)))))))⟩
              · refine lv_aload_n hx hb dX8_readsSingle_140 rfl (lv_at hl 0 rfl) ?_
                refine kW_i ⟨rfl, rfl⟩ hP hD hS hA (rW_V (As := []) (rest := []) hx hb hml hown hts hK hE hP hD (k_X8_readsFact l D cI cJ cZ q bb bs w4 hW_w4 (In_of (hM_w4.2 16 8 (by decide) (by decide)) (In_of (hM_w4.2 16 8 (by decide) (by decide)).symm g4_16_8)) _) ⟨⟨rfl, rfl⟩, rfl, rfl⟩ sv_X8_159 ⟨(by have hh := hd; have h : 3 * d + 5 ≤ R.frames := hR.1; show 2 + 1 ≤ R.frames; omega), (by have hh := hd; have h : 150 * d + 300 ≤ R.locals := hR.2; show 8 + (1 + 11) + (47) ≤ R.locals; omega)⟩ 34 8 (hW_w4.o tX_34) rfl rfl rfl hl.1 rfl (Nat.le_of_ble_eq_true rfl) dX8_readsSingle_141) (fun r_57 w_56 H locs hw_w_56 hP hD hS => ?_)
                obtain ⟨hW_w_56, hs_w_56, i_r_57⟩ := hw_w_56
                refine lv_istore_n (lv' := [(3, .int r_57), (0, .ref (q 34)), (1, .int p1), (2, .int x4_2)]) hx hb dX8_readsSingle_144 rfl hl (by decide) rfl (fun ls hl => ?_)
                refine lv_goto (tgt := 201) hx hb dX8_readsSingle_145 (by decide) ?_
                refine lv_iload_n hx hb dX8_readsSingle_201 rfl (lv_at hl 3 rfl) ?_
                refine lv_if_eq (tgt := 215) hx hb dX8_readsSingle_202 (by decide) (fun c_58 => ?_) (fun c_58 => ?_)
                · refine lv_iload_n hx hb dX8_readsSingle_215 rfl (lv_at hl 0 rfl) ?_
                  exact hret _ _ _ _ _ _ hP hD hS dX8_readsSingle_216 i_r_57 ⟨hW_w_56, (hM_w4.tr hs_w_56 (by decide)), i_r_57, (fun h => ((hs_w_56.2 34 4 (by decide) (by decide)).trans g4_34_4e))⟩
                · refine lv_aload_n hx hb dX8_readsSingle_205 rfl (lv_at hl 1 rfl) ?_
                  refine gt_X8 hx hb hts hown hK hP 34 (hW_w_56.o tX_34) 1 (by decide) wd_228 rfl (hW_w_56.fr tX_34 rfl) dX8_readsSingle_206 ?_
                  refine lv_bipush (v := 7) hx hb dX8_readsSingle_209 (by decide) ?_
                  refine lv_iconst (v := 0) hx hb dX8_readsSingle_211 (by decide) ?_
                  refine kW_v ⟨rfl, rfl⟩ hP hD hS hA (rW_V (As := [.int 7, .int 0]) (rest := []) hx hb hml hown hts hK hE hP hD (k_X1_addCode_at16 l D cI cJ cZ q bb bs 16 w_56 hW_w_56 7 0 (In_lit (n := 7) (by decide) (by decide) : In (-1) 15 7) (In_of ((hs_w_56.2 16 8 (by decide) (by decide)).trans (hM_w4.2 16 8 (by decide) (by decide))) (In_of (hM_w4.2 16 8 (by decide) (by decide)).symm g4_16_8)) (⟨(fun h => absurd h (by decide)), (fun h => absurd h (by decide)), (fun h => absurd h (by decide))⟩) _) ⟨⟨rfl, rfl⟩, rfl, rfl⟩ sv_X8_146 ⟨(by have hh := hd; have h : 3 * d + 5 ≤ R.frames := hR.1; show 0 + 1 ≤ R.frames; omega), (by have hh := hd; have h : 150 * d + 300 ≤ R.locals := hR.2; show 8 + (3 + 11) + (0) ≤ R.locals; omega)⟩ 16 1 (hW_w_56.o tX_16) rfl rfl rfl hl.1 rfl (Nat.le_of_ble_eq_true rfl) dX8_readsSingle_212) (fun w_59 H locs hw_w_59 hP hD hS => ?_)
                  obtain ⟨hW_w_59, hs_w_59, h_61⟩ := hw_w_59
                  refine lv_iload_n hx hb dX8_readsSingle_215 rfl (lv_at hl 0 rfl) ?_
                  exact hret _ _ _ _ _ _ hP hD hS dX8_readsSingle_216 i_r_57 ⟨hW_w_59, ((hM_w4.tr hs_w_56 (by decide)).tr hs_w_59 (by decide)), i_r_57, (fun h => ((hs_w_59.gI (by decide)).trans ((hs_w_56.2 34 4 (by decide) (by decide)).trans g4_34_4e)))⟩
          · refine lv_aload_n hx hb dX8_readsSingle_106 rfl (lv_at hl 0 rfl) ?_
            refine kW_i ⟨rfl, rfl⟩ hP hD hS hA (rW_V (As := []) (rest := []) hx hb hml hown hts hK hE hP hD (k_X8_readsKinds l D cI cJ cZ q bb bs w4 hW_w4 (In_of (hM_w4.2 16 8 (by decide) (by decide)) (In_of (hM_w4.2 16 8 (by decide) (by decide)).symm g4_16_8)) _) ⟨⟨rfl, rfl⟩, rfl, rfl⟩ sv_X8_156 ⟨(by have hh := hd; have h : 3 * d + 5 ≤ R.frames := hR.1; show 2 + 1 ≤ R.frames; omega), (by have hh := hd; have h : 150 * d + 300 ≤ R.locals := hR.2; show 8 + (3 + 11) + (47) ≤ R.locals; omega)⟩ 34 8 (hW_w4.o tX_34) rfl rfl rfl hl.1 rfl (Nat.le_of_ble_eq_true rfl) dX8_readsSingle_107) (fun r_63 w_62 H locs hw_w_62 hP hD hS => ?_)
            obtain ⟨hW_w_62, hs_w_62, i_r_63, h_64⟩ := hw_w_62
            refine lv_istore_n (lv' := [(3, .int r_63), (0, .ref (q 34)), (1, .int p1), (2, .int x4_2)]) hx hb dX8_readsSingle_110 rfl hl (by decide) rfl (fun ls hl => ?_)
            refine lv_goto (tgt := 201) hx hb dX8_readsSingle_111 (by decide) ?_
            refine lv_iload_n hx hb dX8_readsSingle_201 rfl (lv_at hl 3 rfl) ?_
            refine lv_if_eq (tgt := 215) hx hb dX8_readsSingle_202 (by decide) (fun c_65 => ?_) (fun c_65 => ?_)
            · refine lv_iload_n hx hb dX8_readsSingle_215 rfl (lv_at hl 0 rfl) ?_
              exact hret _ _ _ _ _ _ hP hD hS dX8_readsSingle_216 i_r_63 ⟨hW_w_62, (hM_w4.tr hs_w_62 (by decide)), i_r_63, (fun h => ((hs_w_62.2 34 4 (by decide) (by decide)).trans g4_34_4e))⟩
            · refine lv_aload_n hx hb dX8_readsSingle_205 rfl (lv_at hl 1 rfl) ?_
              refine gt_X8 hx hb hts hown hK hP 34 (hW_w_62.o tX_34) 1 (by decide) wd_228 rfl (hW_w_62.fr tX_34 rfl) dX8_readsSingle_206 ?_
              refine lv_bipush (v := 7) hx hb dX8_readsSingle_209 (by decide) ?_
              refine lv_iconst (v := 0) hx hb dX8_readsSingle_211 (by decide) ?_
              refine kW_v ⟨rfl, rfl⟩ hP hD hS hA (rW_V (As := [.int 7, .int 0]) (rest := []) hx hb hml hown hts hK hE hP hD (k_X1_addCode_at16 l D cI cJ cZ q bb bs 16 w_62 hW_w_62 7 0 (In_lit (n := 7) (by decide) (by decide) : In (-1) 15 7) (In_of ((hs_w_62.2 16 8 (by decide) (by decide)).trans (hM_w4.2 16 8 (by decide) (by decide))) (In_of (hM_w4.2 16 8 (by decide) (by decide)).symm g4_16_8)) (⟨(fun h => absurd h (by decide)), (fun h => absurd h (by decide)), (fun h => absurd h (by decide))⟩) _) ⟨⟨rfl, rfl⟩, rfl, rfl⟩ sv_X8_146 ⟨(by have hh := hd; have h : 3 * d + 5 ≤ R.frames := hR.1; show 0 + 1 ≤ R.frames; omega), (by have hh := hd; have h : 150 * d + 300 ≤ R.locals := hR.2; show 8 + (3 + 11) + (0) ≤ R.locals; omega)⟩ 16 1 (hW_w_62.o tX_16) rfl rfl rfl hl.1 rfl (Nat.le_of_ble_eq_true rfl) dX8_readsSingle_212) (fun w_66 H locs hw_w_66 hP hD hS => ?_)
              obtain ⟨hW_w_66, hs_w_66, h_68⟩ := hw_w_66
              refine lv_iload_n hx hb dX8_readsSingle_215 rfl (lv_at hl 0 rfl) ?_
              exact hret _ _ _ _ _ _ hP hD hS dX8_readsSingle_216 i_r_63 ⟨hW_w_66, ((hM_w4.tr hs_w_62 (by decide)).tr hs_w_66 (by decide)), i_r_63, (fun h => ((hs_w_66.gI (by decide)).trans ((hs_w_62.2 34 4 (by decide) (by decide)).trans g4_34_4e)))⟩
        · refine lv_aload_n hx hb dX8_readsSingle_59 rfl (lv_at hl 0 rfl) ?_
          refine kW_i ⟨rfl, rfl⟩ hP hD hS hA (rW_V (As := []) (rest := []) hx hb hml hown hts hK hE hP hD (k_X8_opens l D cI cJ cZ q bb bs w4 hW_w4 (In_of (hM_w4.2 16 8 (by decide) (by decide)) (In_of (hM_w4.2 16 8 (by decide) (by decide)).symm g4_16_8)) _) ⟨⟨rfl, rfl⟩, rfl, rfl⟩ sv_X8_153 ⟨(by have hh := hd; have h : 3 * d + 5 ≤ R.frames := hR.1; show 2 + 1 ≤ R.frames; omega), (by have hh := hd; have h : 150 * d + 300 ≤ R.locals := hR.2; show 8 + (1 + 11) + (47) ≤ R.locals; omega)⟩ 34 8 (hW_w4.o tX_34) rfl rfl rfl hl.1 rfl (Nat.le_of_ble_eq_true rfl) dX8_readsSingle_60) (fun r_70 w_69 H locs hw_w_69 hP hD hS => ?_)
          obtain ⟨hW_w_69, hs_w_69, i_r_70, h_71, h_72, h_73⟩ := hw_w_69
          refine lv_if_eq (tgt := 87) hx hb dX8_readsSingle_63 (by decide) (fun c_74 => ?_) (fun c_74 => ?_)
          · refine lv_iconst (v := 0) hx hb dX8_readsSingle_87 (by decide) ?_
            refine lv_istore_n (lv' := [(3, .int 0), (0, .ref (q 34)), (1, .int p1), (2, .int x4_2)]) hx hb dX8_readsSingle_88 rfl hl (by decide) rfl (fun ls hl => ?_)
            refine lv_aload_n hx hb dX8_readsSingle_89 rfl (lv_at hl 1 rfl) ?_
            refine lv_dup hx hb dX8_readsSingle_90 rfl ?_
            refine gt_X8 hx hb hts hown hK hP 34 (hW_w_69.o tX_34) 4 (by decide) wd_233 rfl (hW_w_69.fi tX_34 rfl) dX8_readsSingle_91 ?_
            refine tov (v := (fI w 34 4)) ((h_71 c_74).1.trans g4_34_4e) ?_
            refine lv_iconst (v := 1) hx hb dX8_readsSingle_94 (by decide) ?_
            refine lv_isub hx hb dX8_readsSingle_95 ?_
            refine pt_X8 hx hb hts hown hK hP hD hS 34 (hW_w_69.o tX_34) 4 (by decide) wd_233 rfl rfl (ty := .int) (v := .int ((fI w 34 4) - 1)) (by decide +kernel) rfl rfl (hW_w_69.ll tX_34 (Nat.le_of_ble_eq_true rfl)) dX8_readsSingle_96 (fun H locs hP hD hS => fr_w (hW_w_69.sI tX_34 rfl (In_w ((In_sub (In_of ((h_71 c_74).1.trans g4_34_4e).symm (h_71 c_74).2) (In_lit (n := 1) (by decide) (by decide) : In 1 1 1) (by decide)) : In 7 2147483646 ((fI w 34 4) - 1)) (by decide) : In (-2147483648) 2147483647 ((fI w 34 4) - 1))) hP hD (fun w_75 ew_75 hW_w_75 hP hD => ?_))
            refine lv_goto (tgt := 201) hx hb dX8_readsSingle_99 (by decide) ?_
            refine lv_iload_n hx hb dX8_readsSingle_201 rfl (lv_at hl 3 rfl) ?_
            refine lv_if_eq (tgt := 215) hx hb dX8_readsSingle_202 (by decide) (fun c_76 => ?_) (fun c_76 => ?_)
            · refine lv_iload_n hx hb dX8_readsSingle_215 rfl (lv_at hl 0 rfl) ?_
              exact hret _ _ _ _ _ _ hP hD hS dX8_readsSingle_216 (In_lit (n := 0) (by decide) (by decide) : In 0 1 0) ⟨hW_w_75, ((hM_w4.tr hs_w_69 (by decide)).sf (hW_w_69.lt tX_34) ew_75 (by decide)), (In_lit (n := 0) (by decide) (by decide) : In 0 1 0), (fun h => absurd rfl h)⟩
            · refine lv_aload_n hx hb dX8_readsSingle_205 rfl (lv_at hl 1 rfl) ?_
              refine gt_X8 hx hb hts hown hK hP 34 (hW_w_75.o tX_34) 1 (by decide) wd_228 rfl (hW_w_75.fr tX_34 rfl) dX8_readsSingle_206 ?_
              refine lv_bipush (v := 7) hx hb dX8_readsSingle_209 (by decide) ?_
              refine lv_iconst (v := 0) hx hb dX8_readsSingle_211 (by decide) ?_
              refine kW_v ⟨rfl, rfl⟩ hP hD hS hA (rW_V (As := [.int 7, .int 0]) (rest := []) hx hb hml hown hts hK hE hP hD (k_X1_addCode_at16 l D cI cJ cZ q bb bs 16 w_75 hW_w_75 7 0 (In_lit (n := 7) (by decide) (by decide) : In (-1) 15 7) (In_of ((fI_cg (st_ne ew_75 (by decide))).trans ((hs_w_69.gI (by decide)).trans (hM_w4.2 16 8 (by decide) (by decide)))) (In_of (hM_w4.2 16 8 (by decide) (by decide)).symm g4_16_8)) (⟨(fun h => absurd h (by decide)), (fun h => absurd h (by decide)), (fun h => absurd h (by decide))⟩) _) ⟨⟨rfl, rfl⟩, rfl, rfl⟩ sv_X8_146 ⟨(by have hh := hd; have h : 3 * d + 5 ≤ R.frames := hR.1; show 0 + 1 ≤ R.frames; omega), (by have hh := hd; have h : 150 * d + 300 ≤ R.locals := hR.2; show 8 + (3 + 11) + (0) ≤ R.locals; omega)⟩ 16 1 (hW_w_75.o tX_16) rfl rfl rfl hl.1 rfl (Nat.le_of_ble_eq_true rfl) dX8_readsSingle_212) (fun w_77 H locs hw_w_77 hP hD hS => ?_)
              obtain ⟨hW_w_77, hs_w_77, h_79⟩ := hw_w_77
              refine lv_iload_n hx hb dX8_readsSingle_215 rfl (lv_at hl 0 rfl) ?_
              exact hret _ _ _ _ _ _ hP hD hS dX8_readsSingle_216 (In_lit (n := 0) (by decide) (by decide) : In 0 1 0) ⟨hW_w_77, (((hM_w4.tr hs_w_69 (by decide)).sf (hW_w_69.lt tX_34) ew_75 (by decide)).tr hs_w_77 (by decide)), (In_lit (n := 0) (by decide) (by decide) : In 0 1 0), (fun h => absurd rfl h)⟩
          · refine lv_aload_n hx hb dX8_readsSingle_66 rfl (lv_at hl 0 rfl) ?_
            refine lv_iload_n hx hb dX8_readsSingle_67 rfl (lv_at hl 1 rfl) ?_
            refine kW_i ⟨rfl, rfl⟩ hP hD hS hA (rW_V (As := [.int p1]) (rest := []) hx hb hml hown hts hK hE hP hD (ih (d - 1) (by have hh := hd; have nt0 := (In_of g4_34_4e.symm (h_73 c_74).2); unfold In at nt0; omega) l D cI cJ cZ q bb bs w_69 hW_w_69 p1 i_p1 (In_of ((hs_w_69.gI (by decide)).trans (hM_w4.2 16 8 (by decide) (by decide))) (In_of (hM_w4.2 16 8 (by decide) (by decide)).symm g4_16_8)) (by have e34_4 : (fI w_69 34 4).toInt = (((fI w 34 4) + 1) : Int32).toInt := congrArg Int32.toInt ((h_73 c_74).1.trans (congrArg (· + 1) g4_34_4e)); have t17 := t_add (In_of g4_34_4e.symm (h_73 c_74).2) (In_lit (n := 1) (by decide) (by decide) : In 1 1 1) (by decide); have z1 : (1 : Int32).toInt = 1 := (by decide); have nt0 := (In_of g4_34_4e.symm (h_73 c_74).2); have hh := hd; unfold In at nt0; omega) _) ⟨⟨rfl, rfl⟩, rfl, rfl⟩ sv_X8_139 ⟨(by have hh := hd; have nt0 := (In_of g4_34_4e.symm (h_73 c_74).2); unfold In at nt0; have h : 3 * d + 5 ≤ R.frames := hR.1; show 3 * (d - 1) + 7 + 1 ≤ R.frames; omega), (by have hh := hd; have nt0 := (In_of g4_34_4e.symm (h_73 c_74).2); unfold In at nt0; have h : 150 * d + 300 ≤ R.locals := hR.2; show 8 + (3 + 11) + (150 * (d - 1) + 380) ≤ R.locals; omega)⟩ 34 8 (hW_w_69.o tX_34) rfl rfl rfl hl.1 rfl (Nat.le_of_ble_eq_true rfl) dX8_readsSingle_68) (fun r_81 w_80 H locs hw_w_80 hP hD hS => ?_)
            obtain ⟨hW_w_80, hs_w_80, i_r_81, h_82⟩ := hw_w_80
            refine lv_if_eq (tgt := 87) hx hb dX8_readsSingle_71 (by decide) (fun c_83 => ?_) (fun c_83 => ?_)
            · refine lv_iconst (v := 0) hx hb dX8_readsSingle_87 (by decide) ?_
              refine lv_istore_n (lv' := [(3, .int 0), (0, .ref (q 34)), (1, .int p1), (2, .int x4_2)]) hx hb dX8_readsSingle_88 rfl hl (by decide) rfl (fun ls hl => ?_)
              refine lv_aload_n hx hb dX8_readsSingle_89 rfl (lv_at hl 1 rfl) ?_
              refine lv_dup hx hb dX8_readsSingle_90 rfl ?_
              refine gt_X8 hx hb hts hown hK hP 34 (hW_w_80.o tX_34) 4 (by decide) wd_233 rfl (hW_w_80.fi tX_34 rfl) dX8_readsSingle_91 ?_
              refine lv_iconst (v := 1) hx hb dX8_readsSingle_94 (by decide) ?_
              refine lv_isub hx hb dX8_readsSingle_95 ?_
              refine pt_X8 hx hb hts hown hK hP hD hS 34 (hW_w_80.o tX_34) 4 (by decide) wd_233 rfl rfl (ty := .int) (v := .int ((fI w_80 34 4) - 1)) (by decide +kernel) rfl rfl (hW_w_80.ll tX_34 (Nat.le_of_ble_eq_true rfl)) dX8_readsSingle_96 (fun H locs hP hD hS => fr_w (hW_w_80.sI tX_34 rfl (In_any _)) hP hD (fun w_84 ew_84 hW_w_84 hP hD => ?_))
              refine lv_goto (tgt := 201) hx hb dX8_readsSingle_99 (by decide) ?_
              refine lv_iload_n hx hb dX8_readsSingle_201 rfl (lv_at hl 3 rfl) ?_
              refine lv_if_eq (tgt := 215) hx hb dX8_readsSingle_202 (by decide) (fun c_85 => ?_) (fun c_85 => ?_)
              · refine lv_iload_n hx hb dX8_readsSingle_215 rfl (lv_at hl 0 rfl) ?_
                exact hret _ _ _ _ _ _ hP hD hS dX8_readsSingle_216 (In_lit (n := 0) (by decide) (by decide) : In 0 1 0) ⟨hW_w_84, (((hM_w4.tr hs_w_69 (by decide)).tr hs_w_80 (by decide)).sf (hW_w_80.lt tX_34) ew_84 (by decide)), (In_lit (n := 0) (by decide) (by decide) : In 0 1 0), (fun h => absurd rfl h)⟩
              · refine lv_aload_n hx hb dX8_readsSingle_205 rfl (lv_at hl 1 rfl) ?_
                refine gt_X8 hx hb hts hown hK hP 34 (hW_w_84.o tX_34) 1 (by decide) wd_228 rfl (hW_w_84.fr tX_34 rfl) dX8_readsSingle_206 ?_
                refine lv_bipush (v := 7) hx hb dX8_readsSingle_209 (by decide) ?_
                refine lv_iconst (v := 0) hx hb dX8_readsSingle_211 (by decide) ?_
                refine kW_v ⟨rfl, rfl⟩ hP hD hS hA (rW_V (As := [.int 7, .int 0]) (rest := []) hx hb hml hown hts hK hE hP hD (k_X1_addCode_at16 l D cI cJ cZ q bb bs 16 w_84 hW_w_84 7 0 (In_lit (n := 7) (by decide) (by decide) : In (-1) 15 7) (In_of ((fI_cg (st_ne ew_84 (by decide))).trans ((hs_w_80.2 16 8 (by decide) (by decide)).trans ((hs_w_69.gI (by decide)).trans (hM_w4.2 16 8 (by decide) (by decide))))) (In_of (hM_w4.2 16 8 (by decide) (by decide)).symm g4_16_8)) (⟨(fun h => absurd h (by decide)), (fun h => absurd h (by decide)), (fun h => absurd h (by decide))⟩) _) ⟨⟨rfl, rfl⟩, rfl, rfl⟩ sv_X8_146 ⟨(by have hh := hd; have nt0 := (In_of g4_34_4e.symm (h_73 c_74).2); unfold In at nt0; have h : 3 * d + 5 ≤ R.frames := hR.1; show 0 + 1 ≤ R.frames; omega), (by have hh := hd; have nt0 := (In_of g4_34_4e.symm (h_73 c_74).2); unfold In at nt0; have h : 150 * d + 300 ≤ R.locals := hR.2; show 8 + (3 + 11) + (0) ≤ R.locals; omega)⟩ 16 1 (hW_w_84.o tX_16) rfl rfl rfl hl.1 rfl (Nat.le_of_ble_eq_true rfl) dX8_readsSingle_212) (fun w_86 H locs hw_w_86 hP hD hS => ?_)
                obtain ⟨hW_w_86, hs_w_86, h_88⟩ := hw_w_86
                refine lv_iload_n hx hb dX8_readsSingle_215 rfl (lv_at hl 0 rfl) ?_
                exact hret _ _ _ _ _ _ hP hD hS dX8_readsSingle_216 (In_lit (n := 0) (by decide) (by decide) : In 0 1 0) ⟨hW_w_86, ((((hM_w4.tr hs_w_69 (by decide)).tr hs_w_80 (by decide)).sf (hW_w_80.lt tX_34) ew_84 (by decide)).tr hs_w_86 (by decide)), (In_lit (n := 0) (by decide) (by decide) : In 0 1 0), (fun h => absurd rfl h)⟩
            · refine lv_aload_n hx hb dX8_readsSingle_74 rfl (lv_at hl 0 rfl) ?_
              refine lv_bipush (v := 93) hx hb dX8_readsSingle_75 (by decide) ?_
              refine kW_i ⟨rfl, rfl⟩ hP hD hS hA (rW_V (As := [.int 93]) (rest := []) hx hb hml hown hts hK hE hP hD (k_X8_passes l D cI cJ cZ q bb bs w_80 hW_w_80 93 (In_lit (n := 93) (by decide) (by decide) : In 41 271 93) _) ⟨⟨rfl, rfl⟩, rfl, rfl⟩ sv_X8_97 ⟨(by have hh := hd; have nt0 := (In_of g4_34_4e.symm (h_73 c_74).2); unfold In at nt0; have h : 3 * d + 5 ≤ R.frames := hR.1; show 2 + 1 ≤ R.frames; omega), (by have hh := hd; have nt0 := (In_of g4_34_4e.symm (h_73 c_74).2); unfold In at nt0; have h : 150 * d + 300 ≤ R.locals := hR.2; show 8 + (2 + 11) + (47) ≤ R.locals; omega)⟩ 34 8 (hW_w_80.o tX_34) rfl rfl rfl hl.1 rfl (Nat.le_of_ble_eq_true rfl) dX8_readsSingle_77) (fun r_90 w_89 H locs hw_w_89 hP hD hS => ?_)
              obtain ⟨hW_w_89, hs_w_89, i_r_90⟩ := hw_w_89
              refine lv_if_eq (tgt := 87) hx hb dX8_readsSingle_80 (by decide) (fun c_91 => ?_) (fun c_91 => ?_)
              · refine lv_iconst (v := 0) hx hb dX8_readsSingle_87 (by decide) ?_
                refine lv_istore_n (lv' := [(3, .int 0), (0, .ref (q 34)), (1, .int p1), (2, .int x4_2)]) hx hb dX8_readsSingle_88 rfl hl (by decide) rfl (fun ls hl => ?_)
                refine lv_aload_n hx hb dX8_readsSingle_89 rfl (lv_at hl 1 rfl) ?_
                refine lv_dup hx hb dX8_readsSingle_90 rfl ?_
                refine gt_X8 hx hb hts hown hK hP 34 (hW_w_89.o tX_34) 4 (by decide) wd_233 rfl (hW_w_89.fi tX_34 rfl) dX8_readsSingle_91 ?_
                refine tov (v := ((fI w 34 4) + 1)) ((hs_w_89.2 34 4 (by decide) (by decide)).trans ((h_82 c_83).trans ((h_73 c_74).1.trans (congrArg (· + 1) g4_34_4e)))) ?_
                refine lv_iconst (v := 1) hx hb dX8_readsSingle_94 (by decide) ?_
                refine lv_isub hx hb dX8_readsSingle_95 ?_
                refine tov (v := (fI w 34 4)) (Int32.add_sub_cancel _ _) ?_
                refine pt_X8 hx hb hts hown hK hP hD hS 34 (hW_w_89.o tX_34) 4 (by decide) wd_233 rfl rfl (ty := .int) (v := .int (fI w 34 4)) (by decide +kernel) rfl rfl (hW_w_89.ll tX_34 (Nat.le_of_ble_eq_true rfl)) dX8_readsSingle_96 (fun H locs hP hD hS => fr_w (hW_w_89.sI tX_34 rfl (In_w (In_of g4_34_4e.symm (h_73 c_74).2) (by decide) : In (-2147483648) 2147483647 (fI w 34 4))) hP hD (fun w_92 ew_92 hW_w_92 hP hD => ?_))
                refine lv_goto (tgt := 201) hx hb dX8_readsSingle_99 (by decide) ?_
                refine lv_iload_n hx hb dX8_readsSingle_201 rfl (lv_at hl 3 rfl) ?_
                refine lv_if_eq (tgt := 215) hx hb dX8_readsSingle_202 (by decide) (fun c_93 => ?_) (fun c_93 => ?_)
                · refine lv_iload_n hx hb dX8_readsSingle_215 rfl (lv_at hl 0 rfl) ?_
                  exact hret _ _ _ _ _ _ hP hD hS dX8_readsSingle_216 (In_lit (n := 0) (by decide) (by decide) : In 0 1 0) ⟨hW_w_92, ((((hM_w4.tr hs_w_69 (by decide)).tr hs_w_80 (by decide)).tr hs_w_89 (by decide)).sf (hW_w_89.lt tX_34) ew_92 (by decide)), (In_lit (n := 0) (by decide) (by decide) : In 0 1 0), (fun h => absurd rfl h)⟩
                · refine lv_aload_n hx hb dX8_readsSingle_205 rfl (lv_at hl 1 rfl) ?_
                  refine gt_X8 hx hb hts hown hK hP 34 (hW_w_92.o tX_34) 1 (by decide) wd_228 rfl (hW_w_92.fr tX_34 rfl) dX8_readsSingle_206 ?_
                  refine lv_bipush (v := 7) hx hb dX8_readsSingle_209 (by decide) ?_
                  refine lv_iconst (v := 0) hx hb dX8_readsSingle_211 (by decide) ?_
                  refine kW_v ⟨rfl, rfl⟩ hP hD hS hA (rW_V (As := [.int 7, .int 0]) (rest := []) hx hb hml hown hts hK hE hP hD (k_X1_addCode_at16 l D cI cJ cZ q bb bs 16 w_92 hW_w_92 7 0 (In_lit (n := 7) (by decide) (by decide) : In (-1) 15 7) (In_of ((fI_cg (st_ne ew_92 (by decide))).trans ((hs_w_89.gI (by decide)).trans ((hs_w_80.2 16 8 (by decide) (by decide)).trans ((hs_w_69.gI (by decide)).trans (hM_w4.2 16 8 (by decide) (by decide)))))) (In_of (hM_w4.2 16 8 (by decide) (by decide)).symm g4_16_8)) (⟨(fun h => absurd h (by decide)), (fun h => absurd h (by decide)), (fun h => absurd h (by decide))⟩) _) ⟨⟨rfl, rfl⟩, rfl, rfl⟩ sv_X8_146 ⟨(by have hh := hd; have nt0 := (In_of g4_34_4e.symm (h_73 c_74).2); unfold In at nt0; have h : 3 * d + 5 ≤ R.frames := hR.1; show 0 + 1 ≤ R.frames; omega), (by have hh := hd; have nt0 := (In_of g4_34_4e.symm (h_73 c_74).2); unfold In at nt0; have h : 150 * d + 300 ≤ R.locals := hR.2; show 8 + (3 + 11) + (0) ≤ R.locals; omega)⟩ 16 1 (hW_w_92.o tX_16) rfl rfl rfl hl.1 rfl (Nat.le_of_ble_eq_true rfl) dX8_readsSingle_212) (fun w_94 H locs hw_w_94 hP hD hS => ?_)
                  obtain ⟨hW_w_94, hs_w_94, h_96⟩ := hw_w_94
                  refine lv_iload_n hx hb dX8_readsSingle_215 rfl (lv_at hl 0 rfl) ?_
                  exact hret _ _ _ _ _ _ hP hD hS dX8_readsSingle_216 (In_lit (n := 0) (by decide) (by decide) : In 0 1 0) ⟨hW_w_94, (((((hM_w4.tr hs_w_69 (by decide)).tr hs_w_80 (by decide)).tr hs_w_89 (by decide)).sf (hW_w_89.lt tX_34) ew_92 (by decide)).tr hs_w_94 (by decide)), (In_lit (n := 0) (by decide) (by decide) : In 0 1 0), (fun h => absurd rfl h)⟩
              · refine lv_iconst (v := 1) hx hb dX8_readsSingle_83 (by decide) ?_
                refine lv_goto (tgt := 88) hx hb dX8_readsSingle_84 (by decide) ?_
                refine lv_istore_n (lv' := [(3, .int 1), (0, .ref (q 34)), (1, .int p1), (2, .int x4_2)]) hx hb dX8_readsSingle_88 rfl hl (by decide) rfl (fun ls hl => ?_)
                refine lv_aload_n hx hb dX8_readsSingle_89 rfl (lv_at hl 1 rfl) ?_
                refine lv_dup hx hb dX8_readsSingle_90 rfl ?_
                refine gt_X8 hx hb hts hown hK hP 34 (hW_w_89.o tX_34) 4 (by decide) wd_233 rfl (hW_w_89.fi tX_34 rfl) dX8_readsSingle_91 ?_
                refine tov (v := ((fI w 34 4) + 1)) ((hs_w_89.2 34 4 (by decide) (by decide)).trans ((h_82 c_83).trans ((h_73 c_74).1.trans (congrArg (· + 1) g4_34_4e)))) ?_
                refine lv_iconst (v := 1) hx hb dX8_readsSingle_94 (by decide) ?_
                refine lv_isub hx hb dX8_readsSingle_95 ?_
                refine tov (v := (fI w 34 4)) (Int32.add_sub_cancel _ _) ?_
                refine pt_X8 hx hb hts hown hK hP hD hS 34 (hW_w_89.o tX_34) 4 (by decide) wd_233 rfl rfl (ty := .int) (v := .int (fI w 34 4)) (by decide +kernel) rfl rfl (hW_w_89.ll tX_34 (Nat.le_of_ble_eq_true rfl)) dX8_readsSingle_96 (fun H locs hP hD hS => fr_w (hW_w_89.sI tX_34 rfl (In_w (In_of g4_34_4e.symm (h_73 c_74).2) (by decide) : In (-2147483648) 2147483647 (fI w 34 4))) hP hD (fun w_97 ew_97 hW_w_97 hP hD => ?_))
                refine lv_goto (tgt := 201) hx hb dX8_readsSingle_99 (by decide) ?_
                refine lv_iload_n hx hb dX8_readsSingle_201 rfl (lv_at hl 3 rfl) ?_
                refine lv_if_eq (tgt := 215) hx hb dX8_readsSingle_202 (by decide) (fun c_98 => ?_) (fun c_98 => ?_)
                · refine lv_iload_n hx hb dX8_readsSingle_215 rfl (lv_at hl 0 rfl) ?_
                  exact hret _ _ _ _ _ _ hP hD hS dX8_readsSingle_216 (In_lit (n := 1) (by decide) (by decide) : In 0 1 1) ⟨hW_w_97, ((((hM_w4.tr hs_w_69 (by decide)).tr hs_w_80 (by decide)).tr hs_w_89 (by decide)).sf (hW_w_89.lt tX_34) ew_97 (by decide)), (In_lit (n := 1) (by decide) (by decide) : In 0 1 1), (fun h => (fI_eq (hW_w_89.lt tX_34) ew_97 (hW_w_89.ll tX_34 (Nat.le_of_ble_eq_true rfl))))⟩
                · refine lv_aload_n hx hb dX8_readsSingle_205 rfl (lv_at hl 1 rfl) ?_
                  refine gt_X8 hx hb hts hown hK hP 34 (hW_w_97.o tX_34) 1 (by decide) wd_228 rfl (hW_w_97.fr tX_34 rfl) dX8_readsSingle_206 ?_
                  refine lv_bipush (v := 7) hx hb dX8_readsSingle_209 (by decide) ?_
                  refine lv_iconst (v := 0) hx hb dX8_readsSingle_211 (by decide) ?_
                  refine kW_v ⟨rfl, rfl⟩ hP hD hS hA (rW_V (As := [.int 7, .int 0]) (rest := []) hx hb hml hown hts hK hE hP hD (k_X1_addCode_at16 l D cI cJ cZ q bb bs 16 w_97 hW_w_97 7 0 (In_lit (n := 7) (by decide) (by decide) : In (-1) 15 7) (In_of ((fI_cg (st_ne ew_97 (by decide))).trans ((hs_w_89.gI (by decide)).trans ((hs_w_80.2 16 8 (by decide) (by decide)).trans ((hs_w_69.gI (by decide)).trans (hM_w4.2 16 8 (by decide) (by decide)))))) (In_of (hM_w4.2 16 8 (by decide) (by decide)).symm g4_16_8)) (⟨(fun h => absurd h (by decide)), (fun h => absurd h (by decide)), (fun h => absurd h (by decide))⟩) _) ⟨⟨rfl, rfl⟩, rfl, rfl⟩ sv_X8_146 ⟨(by have hh := hd; have nt0 := (In_of g4_34_4e.symm (h_73 c_74).2); unfold In at nt0; have h : 3 * d + 5 ≤ R.frames := hR.1; show 0 + 1 ≤ R.frames; omega), (by have hh := hd; have nt0 := (In_of g4_34_4e.symm (h_73 c_74).2); unfold In at nt0; have h : 150 * d + 300 ≤ R.locals := hR.2; show 8 + (3 + 11) + (0) ≤ R.locals; omega)⟩ 16 1 (hW_w_97.o tX_16) rfl rfl rfl hl.1 rfl (Nat.le_of_ble_eq_true rfl) dX8_readsSingle_212) (fun w_99 H locs hw_w_99 hP hD hS => ?_)
                  obtain ⟨hW_w_99, hs_w_99, h_101⟩ := hw_w_99
                  refine lv_iload_n hx hb dX8_readsSingle_215 rfl (lv_at hl 0 rfl) ?_
                  exact hret _ _ _ _ _ _ hP hD hS dX8_readsSingle_216 (In_lit (n := 1) (by decide) (by decide) : In 0 1 1) ⟨hW_w_99, (((((hM_w4.tr hs_w_69 (by decide)).tr hs_w_80 (by decide)).tr hs_w_89 (by decide)).sf (hW_w_89.lt tX_34) ew_97 (by decide)).tr hs_w_99 (by decide)), (In_lit (n := 1) (by decide) (by decide) : In 0 1 1), (fun h => ((hs_w_99.gI (by decide)).trans (fI_eq (hW_w_89.lt tX_34) ew_97 (hW_w_89.ll tX_34 (Nat.le_of_ble_eq_true rfl)))))⟩
      · refine lv_aload_n hx hb dX8_readsSingle_11 rfl (lv_at hl 0 rfl) ?_
        refine gt_X8 hx hb hts hown hK hP 34 (hW_w4.o tX_34) 0 (by decide) wd_227 rfl (hW_w4.fr tX_34 rfl) dX8_readsSingle_12 ?_
        refine gt_X10 hx hb hts hown hK hP 31 (hW_w4.o tX_31) 4 (by decide) wd_195 rfl (hW_w4.fi tX_31 rfl) dX8_readsSingle_15 ?_
        refine lv_sipush (v := 274) hx hb dX8_readsSingle_18 (by decide) ?_
        refine lv_icmp_ne (tgt := 47) hx hb dX8_readsSingle_21 (by decide) (fun c_102 => ?_) (fun c_102 => ?_)
        · refine lv_aload_n hx hb dX8_readsSingle_47 rfl (lv_at hl 0 rfl) ?_
          refine gt_X8 hx hb hts hown hK hP 34 (hW_w4.o tX_34) 0 (by decide) wd_227 rfl (hW_w4.fr tX_34 rfl) dX8_readsSingle_48 ?_
          refine gt_X10 hx hb hts hown hK hP 31 (hW_w4.o tX_31) 4 (by decide) wd_195 rfl (hW_w4.fi tX_31 rfl) dX8_readsSingle_51 ?_
          refine lv_bipush (v := 91) hx hb dX8_readsSingle_54 (by decide) ?_
          refine lv_icmp_ne (tgt := 102) hx hb dX8_readsSingle_56 (by decide) (fun c_103 => ?_) (fun c_103 => ?_)
          · refine lv_iload_n hx hb dX8_readsSingle_102 rfl (lv_at hl 1 rfl) ?_
            refine lv_if_eq (tgt := 114) hx hb dX8_readsSingle_103 (by decide) (fun c_104 => ?_) (fun c_104 => ?_)
            · refine lv_aload_n hx hb dX8_readsSingle_114 rfl (lv_at hl 0 rfl) ?_
              refine gt_X8 hx hb hts hown hK hP 34 (hW_w4.o tX_34) 0 (by decide) wd_227 rfl (hW_w4.fr tX_34 rfl) dX8_readsSingle_115 ?_
              refine gt_X10 hx hb hts hown hK hP 31 (hW_w4.o tX_31) 4 (by decide) wd_195 rfl (hW_w4.fi tX_31 rfl) dX8_readsSingle_118 ?_
              refine lv_sipush (v := 276) hx hb dX8_readsSingle_121 (by decide) ?_
              refine lv_icmp_eq (tgt := 140) hx hb dX8_readsSingle_124 (by decide) (fun c_105 => ?_) (fun c_105 => ?_)
              · refine lv_aload_n hx hb dX8_readsSingle_140 rfl (lv_at hl 0 rfl) ?_
                refine kW_i ⟨rfl, rfl⟩ hP hD hS hA (rW_V (As := []) (rest := []) hx hb hml hown hts hK hE hP hD (k_X8_readsFact l D cI cJ cZ q bb bs w4 hW_w4 (In_of (hM_w4.2 16 8 (by decide) (by decide)) (In_of (hM_w4.2 16 8 (by decide) (by decide)).symm g4_16_8)) _) ⟨⟨rfl, rfl⟩, rfl, rfl⟩ sv_X8_159 ⟨(by have hh := hd; have h : 3 * d + 5 ≤ R.frames := hR.1; show 2 + 1 ≤ R.frames; omega), (by have hh := hd; have h : 150 * d + 300 ≤ R.locals := hR.2; show 8 + (1 + 11) + (47) ≤ R.locals; omega)⟩ 34 8 (hW_w4.o tX_34) rfl rfl rfl hl.1 rfl (Nat.le_of_ble_eq_true rfl) dX8_readsSingle_141) (fun r_107 w_106 H locs hw_w_106 hP hD hS => ?_)
                obtain ⟨hW_w_106, hs_w_106, i_r_107⟩ := hw_w_106
                refine lv_istore_n (lv' := [(3, .int r_107), (0, .ref (q 34)), (1, .int p1), (2, .int x4_2)]) hx hb dX8_readsSingle_144 rfl hl (by decide) rfl (fun ls hl => ?_)
                refine lv_goto (tgt := 201) hx hb dX8_readsSingle_145 (by decide) ?_
                refine lv_iload_n hx hb dX8_readsSingle_201 rfl (lv_at hl 3 rfl) ?_
                refine lv_if_eq (tgt := 215) hx hb dX8_readsSingle_202 (by decide) (fun c_108 => ?_) (fun c_108 => ?_)
                · refine lv_iload_n hx hb dX8_readsSingle_215 rfl (lv_at hl 0 rfl) ?_
                  exact hret _ _ _ _ _ _ hP hD hS dX8_readsSingle_216 i_r_107 ⟨hW_w_106, (hM_w4.tr hs_w_106 (by decide)), i_r_107, (fun h => ((hs_w_106.2 34 4 (by decide) (by decide)).trans g4_34_4e))⟩
                · refine lv_aload_n hx hb dX8_readsSingle_205 rfl (lv_at hl 1 rfl) ?_
                  refine gt_X8 hx hb hts hown hK hP 34 (hW_w_106.o tX_34) 1 (by decide) wd_228 rfl (hW_w_106.fr tX_34 rfl) dX8_readsSingle_206 ?_
                  refine lv_bipush (v := 7) hx hb dX8_readsSingle_209 (by decide) ?_
                  refine lv_iconst (v := 0) hx hb dX8_readsSingle_211 (by decide) ?_
                  refine kW_v ⟨rfl, rfl⟩ hP hD hS hA (rW_V (As := [.int 7, .int 0]) (rest := []) hx hb hml hown hts hK hE hP hD (k_X1_addCode_at16 l D cI cJ cZ q bb bs 16 w_106 hW_w_106 7 0 (In_lit (n := 7) (by decide) (by decide) : In (-1) 15 7) (In_of ((hs_w_106.2 16 8 (by decide) (by decide)).trans (hM_w4.2 16 8 (by decide) (by decide))) (In_of (hM_w4.2 16 8 (by decide) (by decide)).symm g4_16_8)) (⟨(fun h => absurd h (by decide)), (fun h => absurd h (by decide)), (fun h => absurd h (by decide))⟩) _) ⟨⟨rfl, rfl⟩, rfl, rfl⟩ sv_X8_146 ⟨(by have hh := hd; have h : 3 * d + 5 ≤ R.frames := hR.1; show 0 + 1 ≤ R.frames; omega), (by have hh := hd; have h : 150 * d + 300 ≤ R.locals := hR.2; show 8 + (3 + 11) + (0) ≤ R.locals; omega)⟩ 16 1 (hW_w_106.o tX_16) rfl rfl rfl hl.1 rfl (Nat.le_of_ble_eq_true rfl) dX8_readsSingle_212) (fun w_109 H locs hw_w_109 hP hD hS => ?_)
                  obtain ⟨hW_w_109, hs_w_109, h_111⟩ := hw_w_109
                  refine lv_iload_n hx hb dX8_readsSingle_215 rfl (lv_at hl 0 rfl) ?_
                  exact hret _ _ _ _ _ _ hP hD hS dX8_readsSingle_216 i_r_107 ⟨hW_w_109, ((hM_w4.tr hs_w_106 (by decide)).tr hs_w_109 (by decide)), i_r_107, (fun h => ((hs_w_109.gI (by decide)).trans ((hs_w_106.2 34 4 (by decide) (by decide)).trans g4_34_4e)))⟩
              · refine lv_aload_n hx hb dX8_readsSingle_127 rfl (lv_at hl 0 rfl) ?_
                refine gt_X8 hx hb hts hown hK hP 34 (hW_w4.o tX_34) 0 (by decide) wd_227 rfl (hW_w4.fr tX_34 rfl) dX8_readsSingle_128 ?_
                refine gt_X10 hx hb hts hown hK hP 31 (hW_w4.o tX_31) 4 (by decide) wd_195 rfl (hW_w4.fi tX_31 rfl) dX8_readsSingle_131 ?_
                refine lv_sipush (v := 277) hx hb dX8_readsSingle_134 (by decide) ?_
                refine lv_icmp_ne (tgt := 148) hx hb dX8_readsSingle_137 (by decide) (fun c_112 => ?_) (fun c_112 => ?_)
                · refine lv_aload_n hx hb dX8_readsSingle_148 rfl (lv_at hl 0 rfl) ?_
                  refine kW_i ⟨rfl, rfl⟩ hP hD hS hA (rW_V (As := []) (rest := []) hx hb hml hown hts hK hE hP hD (k_X8_readsSum_all d l D cI cJ cZ q bb bs w4 hW_w4 (In_of (hM_w4.2 16 8 (by decide) (by decide)) (In_of (hM_w4.2 16 8 (by decide) (by decide)).symm g4_16_8)) (by have e34_4 : (fI w4 34 4).toInt = ((fI w 34 4) : Int32).toInt := congrArg Int32.toInt g4_34_4e; have hh := hd; omega) _) ⟨⟨rfl, rfl⟩, rfl, rfl⟩ sv_X8_136 ⟨(by have hh := hd; have h : 3 * d + 5 ≤ R.frames := hR.1; show 2 * d + 4 + 1 ≤ R.frames; omega), (by have hh := hd; have h : 150 * d + 300 ≤ R.locals := hR.2; show 8 + (3 + 11) + (100 * d + 200) ≤ R.locals; omega)⟩ 34 8 (hW_w4.o tX_34) rfl rfl rfl hl.1 rfl (Nat.le_of_ble_eq_true rfl) dX8_readsSingle_149) (fun r_114 w_113 H locs hw_w_113 hP hD hS => ?_)
                  obtain ⟨hW_w_113, hs_w_113, i_r_114, h_115⟩ := hw_w_113
                  refine lv_istore_n (lv' := [(3, .int r_114), (0, .ref (q 34)), (1, .int p1), (2, .int x4_2)]) hx hb dX8_readsSingle_152 rfl hl (by decide) rfl (fun ls hl => ?_)
                  refine lv_aload_n hx hb dX8_readsSingle_153 rfl (lv_at hl 1 rfl) ?_
                  refine gt_X8 hx hb hts hown hK hP 34 (hW_w_113.o tX_34) 0 (by decide) wd_227 rfl (hW_w_113.fr tX_34 rfl) dX8_readsSingle_154 ?_
                  refine gt_X10 hx hb hts hown hK hP 31 (hW_w_113.o tX_31) 4 (by decide) wd_195 rfl (hW_w_113.fi tX_31 rfl) dX8_readsSingle_157 ?_
                  refine kW_i ⟨rfl, rfl⟩ hP hD hS hA (rW_S (As := [.int (fI w_113 31 4)]) (rest := []) hx hb hml hown hts hK hE hP hD (k_X8_comparison l D cI cJ cZ q bb bs w_113 hW_w_113 (fI w_113 31 4) (In_of ((hs_w_113.2 16 8 (by decide) (by decide)).trans (hM_w4.2 16 8 (by decide) (by decide))) (In_of (hM_w4.2 16 8 (by decide) (by decide)).symm g4_16_8)) _) ⟨⟨rfl, rfl⟩, rfl, rfl⟩ sv_X8_162 ⟨(by have hh := hd; have h : 3 * d + 5 ≤ R.frames := hR.1; show 0 + 1 ≤ R.frames; omega), (by have hh := hd; have h : 150 * d + 300 ≤ R.locals := hR.2; show 8 + (1 + 11) + (0) ≤ R.locals; omega)⟩ rfl hl.1 rfl (Nat.le_of_ble_eq_true rfl) dX8_readsSingle_160) (fun r_117 w_116 H locs hw_w_116 hP hD hS => ?_)
                  obtain ⟨hW_w_116, hs_w_116, i_r_117, h_118⟩ := hw_w_116
                  refine lv_istore (lv' := [(4, .int r_117), (3, .int r_114), (0, .ref (q 34)), (1, .int p1), (2, .int x4_2)]) hx hb dX8_readsSingle_163 hl (by decide) rfl (fun ls hl => ?_)
                  refine lv_iload_n hx hb dX8_readsSingle_165 rfl (lv_at hl 1 rfl) ?_
                  refine lv_if_eq (tgt := 189) hx hb dX8_readsSingle_166 (by decide) (fun c_119 => ?_) (fun c_119 => ?_)
                  · refine lv_iconst (v := 0) hx hb dX8_readsSingle_189 (by decide) ?_
                    refine lv_istore_n (lv' := [(3, .int 0), (4, .int r_117), (0, .ref (q 34)), (1, .int p1), (2, .int x4_2)]) hx hb dX8_readsSingle_190 rfl hl (by decide) rfl (fun ls hl => ?_)
                    refine lv_aload_n hx hb dX8_readsSingle_191 rfl (lv_at hl 2 rfl) ?_
                    refine gt_X8 hx hb hts hown hK hP 34 (hW_w_116.o tX_34) 1 (by decide) wd_228 rfl (hW_w_116.fr tX_34 rfl) dX8_readsSingle_192 ?_
                    refine lv_iload hx hb dX8_readsSingle_195 (lv_at hl 1 rfl) ?_
                    refine lv_iconst (v := 0) hx hb dX8_readsSingle_197 (by decide) ?_
                    refine kW_v ⟨rfl, rfl⟩ hP hD hS hA (rW_V (As := [.int r_117, .int 0]) (rest := []) hx hb hml hown hts hK hE hP hD (k_X1_addCode_at16 l D cI cJ cZ q bb bs 16 w_116 hW_w_116 r_117 0 (In_w i_r_117 (by decide) : In (-1) 15 r_117) (In_of ((hs_w_116.gI (by decide)).trans ((hs_w_113.2 16 8 (by decide) (by decide)).trans (hM_w4.2 16 8 (by decide) (by decide)))) (In_of (hM_w4.2 16 8 (by decide) (by decide)).symm g4_16_8)) (⟨(fun hh => absurd (hh ▸ h_118) (by decide)), (fun hh => absurd (hh ▸ h_118) (by decide)), (fun hh => absurd (hh ▸ h_118) (by decide))⟩) _) ⟨⟨rfl, rfl⟩, rfl, rfl⟩ sv_X8_146 ⟨(by have hh := hd; have h : 3 * d + 5 ≤ R.frames := hR.1; show 0 + 1 ≤ R.frames; omega), (by have hh := hd; have h : 150 * d + 300 ≤ R.locals := hR.2; show 8 + (3 + 11) + (0) ≤ R.locals; omega)⟩ 16 1 (hW_w_116.o tX_16) rfl rfl rfl hl.1 rfl (Nat.le_of_ble_eq_true rfl) dX8_readsSingle_198) (fun w_120 H locs hw_w_120 hP hD hS => ?_)
                    obtain ⟨hW_w_120, hs_w_120, h_122⟩ := hw_w_120
                    refine lv_iload_n hx hb dX8_readsSingle_201 rfl (lv_at hl 4 rfl) ?_
                    refine lv_if_eq (tgt := 215) hx hb dX8_readsSingle_202 (by decide) (fun c_123 => ?_) (fun c_123 => ?_)
                    · refine lv_iload_n hx hb dX8_readsSingle_215 rfl (lv_at hl 0 rfl) ?_
                      exact hret _ _ _ _ _ _ hP hD hS dX8_readsSingle_216 (In_lit (n := 0) (by decide) (by decide) : In 0 1 0) ⟨hW_w_120, (((hM_w4.tr hs_w_113 (by decide)).tr hs_w_116 (by decide)).tr hs_w_120 (by decide)), (In_lit (n := 0) (by decide) (by decide) : In 0 1 0), (fun h => absurd rfl h)⟩
                    · refine lv_aload_n hx hb dX8_readsSingle_205 rfl (lv_at hl 2 rfl) ?_
                      refine gt_X8 hx hb hts hown hK hP 34 (hW_w_120.o tX_34) 1 (by decide) wd_228 rfl (hW_w_120.fr tX_34 rfl) dX8_readsSingle_206 ?_
                      refine lv_bipush (v := 7) hx hb dX8_readsSingle_209 (by decide) ?_
                      refine lv_iconst (v := 0) hx hb dX8_readsSingle_211 (by decide) ?_
                      refine kW_v ⟨rfl, rfl⟩ hP hD hS hA (rW_V (As := [.int 7, .int 0]) (rest := []) hx hb hml hown hts hK hE hP hD (k_X1_addCode_at16 l D cI cJ cZ q bb bs 16 w_120 hW_w_120 7 0 (In_lit (n := 7) (by decide) (by decide) : In (-1) 15 7) (In_of ((hs_w_120.2 16 8 (by decide) (by decide)).trans ((hs_w_116.gI (by decide)).trans ((hs_w_113.2 16 8 (by decide) (by decide)).trans (hM_w4.2 16 8 (by decide) (by decide))))) (In_of (hM_w4.2 16 8 (by decide) (by decide)).symm g4_16_8)) (⟨(fun h => absurd h (by decide)), (fun h => absurd h (by decide)), (fun h => absurd h (by decide))⟩) _) ⟨⟨rfl, rfl⟩, rfl, rfl⟩ sv_X8_146 ⟨(by have hh := hd; have h : 3 * d + 5 ≤ R.frames := hR.1; show 0 + 1 ≤ R.frames; omega), (by have hh := hd; have h : 150 * d + 300 ≤ R.locals := hR.2; show 8 + (3 + 11) + (0) ≤ R.locals; omega)⟩ 16 1 (hW_w_120.o tX_16) rfl rfl rfl hl.1 rfl (Nat.le_of_ble_eq_true rfl) dX8_readsSingle_212) (fun w_124 H locs hw_w_124 hP hD hS => ?_)
                      obtain ⟨hW_w_124, hs_w_124, h_126⟩ := hw_w_124
                      refine lv_iload_n hx hb dX8_readsSingle_215 rfl (lv_at hl 0 rfl) ?_
                      exact hret _ _ _ _ _ _ hP hD hS dX8_readsSingle_216 (In_lit (n := 0) (by decide) (by decide) : In 0 1 0) ⟨hW_w_124, ((((hM_w4.tr hs_w_113 (by decide)).tr hs_w_116 (by decide)).tr hs_w_120 (by decide)).tr hs_w_124 (by decide)), (In_lit (n := 0) (by decide) (by decide) : In 0 1 0), (fun h => absurd rfl h)⟩
                  · refine lv_aload_n hx hb dX8_readsSingle_169 rfl (lv_at hl 2 rfl) ?_
                    refine lv_iload hx hb dX8_readsSingle_170 (lv_at hl 0 rfl) ?_
                    refine kW_i ⟨rfl, rfl⟩ hP hD hS hA (rW_V (As := [.int r_117]) (rest := []) hx hb hml hown hts hK hE hP hD (k_X8_passesComparison l D cI cJ cZ q bb bs w_116 hW_w_116 r_117 i_r_117 (In_of ((hs_w_116.gI (by decide)).trans ((hs_w_113.2 16 8 (by decide) (by decide)).trans (hM_w4.2 16 8 (by decide) (by decide)))) (In_of (hM_w4.2 16 8 (by decide) (by decide)).symm g4_16_8)) (In_of (hs_w_116.gI (by decide)) (h_115 c_119).2) _) ⟨⟨rfl, rfl⟩, rfl, rfl⟩ sv_X8_166 ⟨(by have hh := hd; have h : 3 * d + 5 ≤ R.frames := hR.1; show 2 + 1 ≤ R.frames; omega), (by have hh := hd; have h : 150 * d + 300 ≤ R.locals := hR.2; show 8 + (2 + 11) + (47) ≤ R.locals; omega)⟩ 34 8 (hW_w_116.o tX_34) rfl rfl rfl hl.1 rfl (Nat.le_of_ble_eq_true rfl) dX8_readsSingle_172) (fun r_128 w_127 H locs hw_w_127 hP hD hS => ?_)
                    obtain ⟨hW_w_127, hs_w_127, i_r_128, h_129, h_130⟩ := hw_w_127
                    refine lv_if_eq (tgt := 189) hx hb dX8_readsSingle_175 (by decide) (fun c_131 => ?_) (fun c_131 => ?_)
                    · refine lv_iconst (v := 0) hx hb dX8_readsSingle_189 (by decide) ?_
                      refine lv_istore_n (lv' := [(3, .int 0), (4, .int r_117), (0, .ref (q 34)), (1, .int p1), (2, .int x4_2)]) hx hb dX8_readsSingle_190 rfl hl (by decide) rfl (fun ls hl => ?_)
                      refine lv_aload_n hx hb dX8_readsSingle_191 rfl (lv_at hl 2 rfl) ?_
                      refine gt_X8 hx hb hts hown hK hP 34 (hW_w_127.o tX_34) 1 (by decide) wd_228 rfl (hW_w_127.fr tX_34 rfl) dX8_readsSingle_192 ?_
                      refine lv_iload hx hb dX8_readsSingle_195 (lv_at hl 1 rfl) ?_
                      refine lv_iconst (v := 0) hx hb dX8_readsSingle_197 (by decide) ?_
                      refine kW_v ⟨rfl, rfl⟩ hP hD hS hA (rW_V (As := [.int r_117, .int 0]) (rest := []) hx hb hml hown hts hK hE hP hD (k_X1_addCode_at16 l D cI cJ cZ q bb bs 16 w_127 hW_w_127 r_117 0 (In_w (h_129 c_131) (by decide) : In (-1) 15 r_117) (In_of ((hs_w_127.gI (by decide)).trans ((hs_w_116.gI (by decide)).trans ((hs_w_113.2 16 8 (by decide) (by decide)).trans (hM_w4.2 16 8 (by decide) (by decide))))) (In_of (hM_w4.2 16 8 (by decide) (by decide)).symm g4_16_8)) (⟨(fun hh => absurd (hh ▸ (h_129 c_131)) (by unfold In; decide)), (fun hh => absurd (hh ▸ (h_129 c_131)) (by unfold In; decide)), (fun hh => absurd (hh ▸ (h_129 c_131)) (by unfold In; decide))⟩) _) ⟨⟨rfl, rfl⟩, rfl, rfl⟩ sv_X8_146 ⟨(by have hh := hd; have h : 3 * d + 5 ≤ R.frames := hR.1; show 0 + 1 ≤ R.frames; omega), (by have hh := hd; have h : 150 * d + 300 ≤ R.locals := hR.2; show 8 + (3 + 11) + (0) ≤ R.locals; omega)⟩ 16 1 (hW_w_127.o tX_16) rfl rfl rfl hl.1 rfl (Nat.le_of_ble_eq_true rfl) dX8_readsSingle_198) (fun w_132 H locs hw_w_132 hP hD hS => ?_)
                      obtain ⟨hW_w_132, hs_w_132, h_134⟩ := hw_w_132
                      refine lv_iload_n hx hb dX8_readsSingle_201 rfl (lv_at hl 4 rfl) ?_
                      refine lv_if_eq (tgt := 215) hx hb dX8_readsSingle_202 (by decide) (fun c_135 => ?_) (fun c_135 => ?_)
                      · refine lv_iload_n hx hb dX8_readsSingle_215 rfl (lv_at hl 0 rfl) ?_
                        exact hret _ _ _ _ _ _ hP hD hS dX8_readsSingle_216 (In_lit (n := 0) (by decide) (by decide) : In 0 1 0) ⟨hW_w_132, ((((hM_w4.tr hs_w_113 (by decide)).tr hs_w_116 (by decide)).tr hs_w_127 (by decide)).tr hs_w_132 (by decide)), (In_lit (n := 0) (by decide) (by decide) : In 0 1 0), (fun h => absurd rfl h)⟩
                      · refine lv_aload_n hx hb dX8_readsSingle_205 rfl (lv_at hl 2 rfl) ?_
                        refine gt_X8 hx hb hts hown hK hP 34 (hW_w_132.o tX_34) 1 (by decide) wd_228 rfl (hW_w_132.fr tX_34 rfl) dX8_readsSingle_206 ?_
                        refine lv_bipush (v := 7) hx hb dX8_readsSingle_209 (by decide) ?_
                        refine lv_iconst (v := 0) hx hb dX8_readsSingle_211 (by decide) ?_
                        refine kW_v ⟨rfl, rfl⟩ hP hD hS hA (rW_V (As := [.int 7, .int 0]) (rest := []) hx hb hml hown hts hK hE hP hD (k_X1_addCode_at16 l D cI cJ cZ q bb bs 16 w_132 hW_w_132 7 0 (In_lit (n := 7) (by decide) (by decide) : In (-1) 15 7) (In_of ((hs_w_132.2 16 8 (by decide) (by decide)).trans ((hs_w_127.gI (by decide)).trans ((hs_w_116.gI (by decide)).trans ((hs_w_113.2 16 8 (by decide) (by decide)).trans (hM_w4.2 16 8 (by decide) (by decide)))))) (In_of (hM_w4.2 16 8 (by decide) (by decide)).symm g4_16_8)) (⟨(fun h => absurd h (by decide)), (fun h => absurd h (by decide)), (fun h => absurd h (by decide))⟩) _) ⟨⟨rfl, rfl⟩, rfl, rfl⟩ sv_X8_146 ⟨(by have hh := hd; have h : 3 * d + 5 ≤ R.frames := hR.1; show 0 + 1 ≤ R.frames; omega), (by have hh := hd; have h : 150 * d + 300 ≤ R.locals := hR.2; show 8 + (3 + 11) + (0) ≤ R.locals; omega)⟩ 16 1 (hW_w_132.o tX_16) rfl rfl rfl hl.1 rfl (Nat.le_of_ble_eq_true rfl) dX8_readsSingle_212) (fun w_136 H locs hw_w_136 hP hD hS => ?_)
                        obtain ⟨hW_w_136, hs_w_136, h_138⟩ := hw_w_136
                        refine lv_iload_n hx hb dX8_readsSingle_215 rfl (lv_at hl 0 rfl) ?_
                        exact hret _ _ _ _ _ _ hP hD hS dX8_readsSingle_216 (In_lit (n := 0) (by decide) (by decide) : In 0 1 0) ⟨hW_w_136, (((((hM_w4.tr hs_w_113 (by decide)).tr hs_w_116 (by decide)).tr hs_w_127 (by decide)).tr hs_w_132 (by decide)).tr hs_w_136 (by decide)), (In_lit (n := 0) (by decide) (by decide) : In 0 1 0), (fun h => absurd rfl h)⟩
                    · refine lv_aload_n hx hb dX8_readsSingle_178 rfl (lv_at hl 2 rfl) ?_
                      refine kW_i ⟨rfl, rfl⟩ hP hD hS hA (rW_V (As := []) (rest := []) hx hb hml hown hts hK hE hP hD (k_X8_readsSum_all d l D cI cJ cZ q bb bs w_127 hW_w_127 (In_of ((hs_w_127.gI (by decide)).trans ((hs_w_116.gI (by decide)).trans ((hs_w_113.2 16 8 (by decide) (by decide)).trans (hM_w4.2 16 8 (by decide) (by decide))))) (In_of (hM_w4.2 16 8 (by decide) (by decide)).symm g4_16_8)) (by have e34_4 : (fI w_127 34 4).toInt = ((fI w 34 4) : Int32).toInt := congrArg Int32.toInt ((hs_w_127.2 34 4 (by decide) (by decide)).trans ((hs_w_116.gI (by decide)).trans ((h_115 c_119).1.trans g4_34_4e))); have hh := hd; omega) _) ⟨⟨rfl, rfl⟩, rfl, rfl⟩ sv_X8_136 ⟨(by have hh := hd; have h : 3 * d + 5 ≤ R.frames := hR.1; show 2 * d + 4 + 1 ≤ R.frames; omega), (by have hh := hd; have h : 150 * d + 300 ≤ R.locals := hR.2; show 8 + (3 + 11) + (100 * d + 200) ≤ R.locals; omega)⟩ 34 8 (hW_w_127.o tX_34) rfl rfl rfl hl.1 rfl (Nat.le_of_ble_eq_true rfl) dX8_readsSingle_179) (fun r_140 w_139 H locs hw_w_139 hP hD hS => ?_)
                      obtain ⟨hW_w_139, hs_w_139, i_r_140, h_141⟩ := hw_w_139
                      refine lv_if_eq (tgt := 189) hx hb dX8_readsSingle_182 (by decide) (fun c_142 => ?_) (fun c_142 => ?_)
                      · refine lv_iconst (v := 0) hx hb dX8_readsSingle_189 (by decide) ?_
                        refine lv_istore_n (lv' := [(3, .int 0), (4, .int r_117), (0, .ref (q 34)), (1, .int p1), (2, .int x4_2)]) hx hb dX8_readsSingle_190 rfl hl (by decide) rfl (fun ls hl => ?_)
                        refine lv_aload_n hx hb dX8_readsSingle_191 rfl (lv_at hl 2 rfl) ?_
                        refine gt_X8 hx hb hts hown hK hP 34 (hW_w_139.o tX_34) 1 (by decide) wd_228 rfl (hW_w_139.fr tX_34 rfl) dX8_readsSingle_192 ?_
                        refine lv_iload hx hb dX8_readsSingle_195 (lv_at hl 1 rfl) ?_
                        refine lv_iconst (v := 0) hx hb dX8_readsSingle_197 (by decide) ?_
                        refine kW_v ⟨rfl, rfl⟩ hP hD hS hA (rW_V (As := [.int r_117, .int 0]) (rest := []) hx hb hml hown hts hK hE hP hD (k_X1_addCode_at16 l D cI cJ cZ q bb bs 16 w_139 hW_w_139 r_117 0 (In_w (h_130 c_131) (by decide) : In (-1) 15 r_117) (In_of ((hs_w_139.2 16 8 (by decide) (by decide)).trans ((hs_w_127.gI (by decide)).trans ((hs_w_116.gI (by decide)).trans ((hs_w_113.2 16 8 (by decide) (by decide)).trans (hM_w4.2 16 8 (by decide) (by decide)))))) (In_of (hM_w4.2 16 8 (by decide) (by decide)).symm g4_16_8)) (⟨(fun hh => absurd (hh ▸ h_118) (by decide)), (fun hh => absurd (hh ▸ h_118) (by decide)), (fun hh => absurd (hh ▸ h_118) (by decide))⟩) _) ⟨⟨rfl, rfl⟩, rfl, rfl⟩ sv_X8_146 ⟨(by have hh := hd; have h : 3 * d + 5 ≤ R.frames := hR.1; show 0 + 1 ≤ R.frames; omega), (by have hh := hd; have h : 150 * d + 300 ≤ R.locals := hR.2; show 8 + (3 + 11) + (0) ≤ R.locals; omega)⟩ 16 1 (hW_w_139.o tX_16) rfl rfl rfl hl.1 rfl (Nat.le_of_ble_eq_true rfl) dX8_readsSingle_198) (fun w_143 H locs hw_w_143 hP hD hS => ?_)
                        obtain ⟨hW_w_143, hs_w_143, h_145⟩ := hw_w_143
                        refine lv_iload_n hx hb dX8_readsSingle_201 rfl (lv_at hl 4 rfl) ?_
                        refine lv_if_eq (tgt := 215) hx hb dX8_readsSingle_202 (by decide) (fun c_146 => ?_) (fun c_146 => ?_)
                        · refine lv_iload_n hx hb dX8_readsSingle_215 rfl (lv_at hl 0 rfl) ?_
                          exact hret _ _ _ _ _ _ hP hD hS dX8_readsSingle_216 (In_lit (n := 0) (by decide) (by decide) : In 0 1 0) ⟨hW_w_143, (((((hM_w4.tr hs_w_113 (by decide)).tr hs_w_116 (by decide)).tr hs_w_127 (by decide)).tr hs_w_139 (by decide)).tr hs_w_143 (by decide)), (In_lit (n := 0) (by decide) (by decide) : In 0 1 0), (fun h => absurd rfl h)⟩
                        · refine lv_aload_n hx hb dX8_readsSingle_205 rfl (lv_at hl 2 rfl) ?_
                          refine gt_X8 hx hb hts hown hK hP 34 (hW_w_143.o tX_34) 1 (by decide) wd_228 rfl (hW_w_143.fr tX_34 rfl) dX8_readsSingle_206 ?_
                          refine lv_bipush (v := 7) hx hb dX8_readsSingle_209 (by decide) ?_
                          refine lv_iconst (v := 0) hx hb dX8_readsSingle_211 (by decide) ?_
                          refine kW_v ⟨rfl, rfl⟩ hP hD hS hA (rW_V (As := [.int 7, .int 0]) (rest := []) hx hb hml hown hts hK hE hP hD (k_X1_addCode_at16 l D cI cJ cZ q bb bs 16 w_143 hW_w_143 7 0 (In_lit (n := 7) (by decide) (by decide) : In (-1) 15 7) (In_of ((hs_w_143.2 16 8 (by decide) (by decide)).trans ((hs_w_139.2 16 8 (by decide) (by decide)).trans ((hs_w_127.gI (by decide)).trans ((hs_w_116.gI (by decide)).trans ((hs_w_113.2 16 8 (by decide) (by decide)).trans (hM_w4.2 16 8 (by decide) (by decide))))))) (In_of (hM_w4.2 16 8 (by decide) (by decide)).symm g4_16_8)) (⟨(fun h => absurd h (by decide)), (fun h => absurd h (by decide)), (fun h => absurd h (by decide))⟩) _) ⟨⟨rfl, rfl⟩, rfl, rfl⟩ sv_X8_146 ⟨(by have hh := hd; have h : 3 * d + 5 ≤ R.frames := hR.1; show 0 + 1 ≤ R.frames; omega), (by have hh := hd; have h : 150 * d + 300 ≤ R.locals := hR.2; show 8 + (3 + 11) + (0) ≤ R.locals; omega)⟩ 16 1 (hW_w_143.o tX_16) rfl rfl rfl hl.1 rfl (Nat.le_of_ble_eq_true rfl) dX8_readsSingle_212) (fun w_147 H locs hw_w_147 hP hD hS => ?_)
                          obtain ⟨hW_w_147, hs_w_147, h_149⟩ := hw_w_147
                          refine lv_iload_n hx hb dX8_readsSingle_215 rfl (lv_at hl 0 rfl) ?_
                          exact hret _ _ _ _ _ _ hP hD hS dX8_readsSingle_216 (In_lit (n := 0) (by decide) (by decide) : In 0 1 0) ⟨hW_w_147, ((((((hM_w4.tr hs_w_113 (by decide)).tr hs_w_116 (by decide)).tr hs_w_127 (by decide)).tr hs_w_139 (by decide)).tr hs_w_143 (by decide)).tr hs_w_147 (by decide)), (In_lit (n := 0) (by decide) (by decide) : In 0 1 0), (fun h => absurd rfl h)⟩
                      · refine lv_iconst (v := 1) hx hb dX8_readsSingle_185 (by decide) ?_
                        refine lv_goto (tgt := 190) hx hb dX8_readsSingle_186 (by decide) ?_
                        refine lv_istore_n (lv' := [(3, .int 1), (4, .int r_117), (0, .ref (q 34)), (1, .int p1), (2, .int x4_2)]) hx hb dX8_readsSingle_190 rfl hl (by decide) rfl (fun ls hl => ?_)
                        refine lv_aload_n hx hb dX8_readsSingle_191 rfl (lv_at hl 2 rfl) ?_
                        refine gt_X8 hx hb hts hown hK hP 34 (hW_w_139.o tX_34) 1 (by decide) wd_228 rfl (hW_w_139.fr tX_34 rfl) dX8_readsSingle_192 ?_
                        refine lv_iload hx hb dX8_readsSingle_195 (lv_at hl 1 rfl) ?_
                        refine lv_iconst (v := 0) hx hb dX8_readsSingle_197 (by decide) ?_
                        refine kW_v ⟨rfl, rfl⟩ hP hD hS hA (rW_V (As := [.int r_117, .int 0]) (rest := []) hx hb hml hown hts hK hE hP hD (k_X1_addCode_at16 l D cI cJ cZ q bb bs 16 w_139 hW_w_139 r_117 0 (In_w (h_130 c_131) (by decide) : In (-1) 15 r_117) (In_of ((hs_w_139.2 16 8 (by decide) (by decide)).trans ((hs_w_127.gI (by decide)).trans ((hs_w_116.gI (by decide)).trans ((hs_w_113.2 16 8 (by decide) (by decide)).trans (hM_w4.2 16 8 (by decide) (by decide)))))) (In_of (hM_w4.2 16 8 (by decide) (by decide)).symm g4_16_8)) (⟨(fun hh => absurd (hh ▸ h_118) (by decide)), (fun hh => absurd (hh ▸ h_118) (by decide)), (fun hh => absurd (hh ▸ h_118) (by decide))⟩) _) ⟨⟨rfl, rfl⟩, rfl, rfl⟩ sv_X8_146 ⟨(by have hh := hd; have h : 3 * d + 5 ≤ R.frames := hR.1; show 0 + 1 ≤ R.frames; omega), (by have hh := hd; have h : 150 * d + 300 ≤ R.locals := hR.2; show 8 + (3 + 11) + (0) ≤ R.locals; omega)⟩ 16 1 (hW_w_139.o tX_16) rfl rfl rfl hl.1 rfl (Nat.le_of_ble_eq_true rfl) dX8_readsSingle_198) (fun w_150 H locs hw_w_150 hP hD hS => ?_)
                        obtain ⟨hW_w_150, hs_w_150, h_152⟩ := hw_w_150
                        refine lv_iload_n hx hb dX8_readsSingle_201 rfl (lv_at hl 4 rfl) ?_
                        refine lv_if_eq (tgt := 215) hx hb dX8_readsSingle_202 (by decide) (fun c_153 => ?_) (fun c_153 => ?_)
                        · refine lv_iload_n hx hb dX8_readsSingle_215 rfl (lv_at hl 0 rfl) ?_
                          exact hret _ _ _ _ _ _ hP hD hS dX8_readsSingle_216 (In_lit (n := 1) (by decide) (by decide) : In 0 1 1) ⟨hW_w_150, (((((hM_w4.tr hs_w_113 (by decide)).tr hs_w_116 (by decide)).tr hs_w_127 (by decide)).tr hs_w_139 (by decide)).tr hs_w_150 (by decide)), (In_lit (n := 1) (by decide) (by decide) : In 0 1 1), (fun h => ((hs_w_150.gI (by decide)).trans ((h_141 c_142).1.trans ((hs_w_127.2 34 4 (by decide) (by decide)).trans ((hs_w_116.gI (by decide)).trans ((h_115 c_119).1.trans g4_34_4e))))))⟩
                        · refine lv_aload_n hx hb dX8_readsSingle_205 rfl (lv_at hl 2 rfl) ?_
                          refine gt_X8 hx hb hts hown hK hP 34 (hW_w_150.o tX_34) 1 (by decide) wd_228 rfl (hW_w_150.fr tX_34 rfl) dX8_readsSingle_206 ?_
                          refine lv_bipush (v := 7) hx hb dX8_readsSingle_209 (by decide) ?_
                          refine lv_iconst (v := 0) hx hb dX8_readsSingle_211 (by decide) ?_
                          refine kW_v ⟨rfl, rfl⟩ hP hD hS hA (rW_V (As := [.int 7, .int 0]) (rest := []) hx hb hml hown hts hK hE hP hD (k_X1_addCode_at16 l D cI cJ cZ q bb bs 16 w_150 hW_w_150 7 0 (In_lit (n := 7) (by decide) (by decide) : In (-1) 15 7) (In_of ((hs_w_150.2 16 8 (by decide) (by decide)).trans ((hs_w_139.2 16 8 (by decide) (by decide)).trans ((hs_w_127.gI (by decide)).trans ((hs_w_116.gI (by decide)).trans ((hs_w_113.2 16 8 (by decide) (by decide)).trans (hM_w4.2 16 8 (by decide) (by decide))))))) (In_of (hM_w4.2 16 8 (by decide) (by decide)).symm g4_16_8)) (⟨(fun h => absurd h (by decide)), (fun h => absurd h (by decide)), (fun h => absurd h (by decide))⟩) _) ⟨⟨rfl, rfl⟩, rfl, rfl⟩ sv_X8_146 ⟨(by have hh := hd; have h : 3 * d + 5 ≤ R.frames := hR.1; show 0 + 1 ≤ R.frames; omega), (by have hh := hd; have h : 150 * d + 300 ≤ R.locals := hR.2; show 8 + (3 + 11) + (0) ≤ R.locals; omega)⟩ 16 1 (hW_w_150.o tX_16) rfl rfl rfl hl.1 rfl (Nat.le_of_ble_eq_true rfl) dX8_readsSingle_212) (fun w_154 H locs hw_w_154 hP hD hS => ?_)
                          obtain ⟨hW_w_154, hs_w_154, h_156⟩ := hw_w_154
                          refine lv_iload_n hx hb dX8_readsSingle_215 rfl (lv_at hl 0 rfl) ?_
                          exact hret _ _ _ _ _ _ hP hD hS dX8_readsSingle_216 (In_lit (n := 1) (by decide) (by decide) : In 0 1 1) ⟨hW_w_154, ((((((hM_w4.tr hs_w_113 (by decide)).tr hs_w_116 (by decide)).tr hs_w_127 (by decide)).tr hs_w_139 (by decide)).tr hs_w_150 (by decide)).tr hs_w_154 (by decide)), (In_lit (n := 1) (by decide) (by decide) : In 0 1 1), (fun h => ((hs_w_154.gI (by decide)).trans ((hs_w_150.gI (by decide)).trans ((h_141 c_142).1.trans ((hs_w_127.2 34 4 (by decide) (by decide)).trans ((hs_w_116.gI (by decide)).trans ((h_115 c_119).1.trans g4_34_4e)))))))⟩
                · refine lv_aload_n hx hb dX8_readsSingle_140 rfl (lv_at hl 0 rfl) ?_
                  refine kW_i ⟨rfl, rfl⟩ hP hD hS hA (rW_V (As := []) (rest := []) hx hb hml hown hts hK hE hP hD (k_X8_readsFact l D cI cJ cZ q bb bs w4 hW_w4 (In_of (hM_w4.2 16 8 (by decide) (by decide)) (In_of (hM_w4.2 16 8 (by decide) (by decide)).symm g4_16_8)) _) ⟨⟨rfl, rfl⟩, rfl, rfl⟩ sv_X8_159 ⟨(by have hh := hd; have h : 3 * d + 5 ≤ R.frames := hR.1; show 2 + 1 ≤ R.frames; omega), (by have hh := hd; have h : 150 * d + 300 ≤ R.locals := hR.2; show 8 + (1 + 11) + (47) ≤ R.locals; omega)⟩ 34 8 (hW_w4.o tX_34) rfl rfl rfl hl.1 rfl (Nat.le_of_ble_eq_true rfl) dX8_readsSingle_141) (fun r_158 w_157 H locs hw_w_157 hP hD hS => ?_)
                  obtain ⟨hW_w_157, hs_w_157, i_r_158⟩ := hw_w_157
                  refine lv_istore_n (lv' := [(3, .int r_158), (0, .ref (q 34)), (1, .int p1), (2, .int x4_2)]) hx hb dX8_readsSingle_144 rfl hl (by decide) rfl (fun ls hl => ?_)
                  refine lv_goto (tgt := 201) hx hb dX8_readsSingle_145 (by decide) ?_
                  refine lv_iload_n hx hb dX8_readsSingle_201 rfl (lv_at hl 3 rfl) ?_
                  refine lv_if_eq (tgt := 215) hx hb dX8_readsSingle_202 (by decide) (fun c_159 => ?_) (fun c_159 => ?_)
                  · refine lv_iload_n hx hb dX8_readsSingle_215 rfl (lv_at hl 0 rfl) ?_
                    exact hret _ _ _ _ _ _ hP hD hS dX8_readsSingle_216 i_r_158 ⟨hW_w_157, (hM_w4.tr hs_w_157 (by decide)), i_r_158, (fun h => ((hs_w_157.2 34 4 (by decide) (by decide)).trans g4_34_4e))⟩
                  · refine lv_aload_n hx hb dX8_readsSingle_205 rfl (lv_at hl 1 rfl) ?_
                    refine gt_X8 hx hb hts hown hK hP 34 (hW_w_157.o tX_34) 1 (by decide) wd_228 rfl (hW_w_157.fr tX_34 rfl) dX8_readsSingle_206 ?_
                    refine lv_bipush (v := 7) hx hb dX8_readsSingle_209 (by decide) ?_
                    refine lv_iconst (v := 0) hx hb dX8_readsSingle_211 (by decide) ?_
                    refine kW_v ⟨rfl, rfl⟩ hP hD hS hA (rW_V (As := [.int 7, .int 0]) (rest := []) hx hb hml hown hts hK hE hP hD (k_X1_addCode_at16 l D cI cJ cZ q bb bs 16 w_157 hW_w_157 7 0 (In_lit (n := 7) (by decide) (by decide) : In (-1) 15 7) (In_of ((hs_w_157.2 16 8 (by decide) (by decide)).trans (hM_w4.2 16 8 (by decide) (by decide))) (In_of (hM_w4.2 16 8 (by decide) (by decide)).symm g4_16_8)) (⟨(fun h => absurd h (by decide)), (fun h => absurd h (by decide)), (fun h => absurd h (by decide))⟩) _) ⟨⟨rfl, rfl⟩, rfl, rfl⟩ sv_X8_146 ⟨(by have hh := hd; have h : 3 * d + 5 ≤ R.frames := hR.1; show 0 + 1 ≤ R.frames; omega), (by have hh := hd; have h : 150 * d + 300 ≤ R.locals := hR.2; show 8 + (3 + 11) + (0) ≤ R.locals; omega)⟩ 16 1 (hW_w_157.o tX_16) rfl rfl rfl hl.1 rfl (Nat.le_of_ble_eq_true rfl) dX8_readsSingle_212) (fun w_160 H locs hw_w_160 hP hD hS => ?_)
                    obtain ⟨hW_w_160, hs_w_160, h_162⟩ := hw_w_160
                    refine lv_iload_n hx hb dX8_readsSingle_215 rfl (lv_at hl 0 rfl) ?_
                    exact hret _ _ _ _ _ _ hP hD hS dX8_readsSingle_216 i_r_158 ⟨hW_w_160, ((hM_w4.tr hs_w_157 (by decide)).tr hs_w_160 (by decide)), i_r_158, (fun h => ((hs_w_160.gI (by decide)).trans ((hs_w_157.2 34 4 (by decide) (by decide)).trans g4_34_4e)))⟩
            · refine lv_aload_n hx hb dX8_readsSingle_106 rfl (lv_at hl 0 rfl) ?_
              refine kW_i ⟨rfl, rfl⟩ hP hD hS hA (rW_V (As := []) (rest := []) hx hb hml hown hts hK hE hP hD (k_X8_readsKinds l D cI cJ cZ q bb bs w4 hW_w4 (In_of (hM_w4.2 16 8 (by decide) (by decide)) (In_of (hM_w4.2 16 8 (by decide) (by decide)).symm g4_16_8)) _) ⟨⟨rfl, rfl⟩, rfl, rfl⟩ sv_X8_156 ⟨(by have hh := hd; have h : 3 * d + 5 ≤ R.frames := hR.1; show 2 + 1 ≤ R.frames; omega), (by have hh := hd; have h : 150 * d + 300 ≤ R.locals := hR.2; show 8 + (3 + 11) + (47) ≤ R.locals; omega)⟩ 34 8 (hW_w4.o tX_34) rfl rfl rfl hl.1 rfl (Nat.le_of_ble_eq_true rfl) dX8_readsSingle_107) (fun r_164 w_163 H locs hw_w_163 hP hD hS => ?_)
              obtain ⟨hW_w_163, hs_w_163, i_r_164, h_165⟩ := hw_w_163
              refine lv_istore_n (lv' := [(3, .int r_164), (0, .ref (q 34)), (1, .int p1), (2, .int x4_2)]) hx hb dX8_readsSingle_110 rfl hl (by decide) rfl (fun ls hl => ?_)
              refine lv_goto (tgt := 201) hx hb dX8_readsSingle_111 (by decide) ?_
              refine lv_iload_n hx hb dX8_readsSingle_201 rfl (lv_at hl 3 rfl) ?_
              refine lv_if_eq (tgt := 215) hx hb dX8_readsSingle_202 (by decide) (fun c_166 => ?_) (fun c_166 => ?_)
              · refine lv_iload_n hx hb dX8_readsSingle_215 rfl (lv_at hl 0 rfl) ?_
                exact hret _ _ _ _ _ _ hP hD hS dX8_readsSingle_216 i_r_164 ⟨hW_w_163, (hM_w4.tr hs_w_163 (by decide)), i_r_164, (fun h => ((hs_w_163.2 34 4 (by decide) (by decide)).trans g4_34_4e))⟩
              · refine lv_aload_n hx hb dX8_readsSingle_205 rfl (lv_at hl 1 rfl) ?_
                refine gt_X8 hx hb hts hown hK hP 34 (hW_w_163.o tX_34) 1 (by decide) wd_228 rfl (hW_w_163.fr tX_34 rfl) dX8_readsSingle_206 ?_
                refine lv_bipush (v := 7) hx hb dX8_readsSingle_209 (by decide) ?_
                refine lv_iconst (v := 0) hx hb dX8_readsSingle_211 (by decide) ?_
                refine kW_v ⟨rfl, rfl⟩ hP hD hS hA (rW_V (As := [.int 7, .int 0]) (rest := []) hx hb hml hown hts hK hE hP hD (k_X1_addCode_at16 l D cI cJ cZ q bb bs 16 w_163 hW_w_163 7 0 (In_lit (n := 7) (by decide) (by decide) : In (-1) 15 7) (In_of ((hs_w_163.2 16 8 (by decide) (by decide)).trans (hM_w4.2 16 8 (by decide) (by decide))) (In_of (hM_w4.2 16 8 (by decide) (by decide)).symm g4_16_8)) (⟨(fun h => absurd h (by decide)), (fun h => absurd h (by decide)), (fun h => absurd h (by decide))⟩) _) ⟨⟨rfl, rfl⟩, rfl, rfl⟩ sv_X8_146 ⟨(by have hh := hd; have h : 3 * d + 5 ≤ R.frames := hR.1; show 0 + 1 ≤ R.frames; omega), (by have hh := hd; have h : 150 * d + 300 ≤ R.locals := hR.2; show 8 + (3 + 11) + (0) ≤ R.locals; omega)⟩ 16 1 (hW_w_163.o tX_16) rfl rfl rfl hl.1 rfl (Nat.le_of_ble_eq_true rfl) dX8_readsSingle_212) (fun w_167 H locs hw_w_167 hP hD hS => ?_)
                obtain ⟨hW_w_167, hs_w_167, h_169⟩ := hw_w_167
                refine lv_iload_n hx hb dX8_readsSingle_215 rfl (lv_at hl 0 rfl) ?_
                exact hret _ _ _ _ _ _ hP hD hS dX8_readsSingle_216 i_r_164 ⟨hW_w_167, ((hM_w4.tr hs_w_163 (by decide)).tr hs_w_167 (by decide)), i_r_164, (fun h => ((hs_w_167.gI (by decide)).trans ((hs_w_163.2 34 4 (by decide) (by decide)).trans g4_34_4e)))⟩
          · refine lv_aload_n hx hb dX8_readsSingle_59 rfl (lv_at hl 0 rfl) ?_
            refine kW_i ⟨rfl, rfl⟩ hP hD hS hA (rW_V (As := []) (rest := []) hx hb hml hown hts hK hE hP hD (k_X8_opens l D cI cJ cZ q bb bs w4 hW_w4 (In_of (hM_w4.2 16 8 (by decide) (by decide)) (In_of (hM_w4.2 16 8 (by decide) (by decide)).symm g4_16_8)) _) ⟨⟨rfl, rfl⟩, rfl, rfl⟩ sv_X8_153 ⟨(by have hh := hd; have h : 3 * d + 5 ≤ R.frames := hR.1; show 2 + 1 ≤ R.frames; omega), (by have hh := hd; have h : 150 * d + 300 ≤ R.locals := hR.2; show 8 + (1 + 11) + (47) ≤ R.locals; omega)⟩ 34 8 (hW_w4.o tX_34) rfl rfl rfl hl.1 rfl (Nat.le_of_ble_eq_true rfl) dX8_readsSingle_60) (fun r_171 w_170 H locs hw_w_170 hP hD hS => ?_)
            obtain ⟨hW_w_170, hs_w_170, i_r_171, h_172, h_173, h_174⟩ := hw_w_170
            refine lv_if_eq (tgt := 87) hx hb dX8_readsSingle_63 (by decide) (fun c_175 => ?_) (fun c_175 => ?_)
            · refine lv_iconst (v := 0) hx hb dX8_readsSingle_87 (by decide) ?_
              refine lv_istore_n (lv' := [(3, .int 0), (0, .ref (q 34)), (1, .int p1), (2, .int x4_2)]) hx hb dX8_readsSingle_88 rfl hl (by decide) rfl (fun ls hl => ?_)
              refine lv_aload_n hx hb dX8_readsSingle_89 rfl (lv_at hl 1 rfl) ?_
              refine lv_dup hx hb dX8_readsSingle_90 rfl ?_
              refine gt_X8 hx hb hts hown hK hP 34 (hW_w_170.o tX_34) 4 (by decide) wd_233 rfl (hW_w_170.fi tX_34 rfl) dX8_readsSingle_91 ?_
              refine tov (v := (fI w 34 4)) ((h_172 c_175).1.trans g4_34_4e) ?_
              refine lv_iconst (v := 1) hx hb dX8_readsSingle_94 (by decide) ?_
              refine lv_isub hx hb dX8_readsSingle_95 ?_
              refine pt_X8 hx hb hts hown hK hP hD hS 34 (hW_w_170.o tX_34) 4 (by decide) wd_233 rfl rfl (ty := .int) (v := .int ((fI w 34 4) - 1)) (by decide +kernel) rfl rfl (hW_w_170.ll tX_34 (Nat.le_of_ble_eq_true rfl)) dX8_readsSingle_96 (fun H locs hP hD hS => fr_w (hW_w_170.sI tX_34 rfl (In_w ((In_sub (In_of ((h_172 c_175).1.trans g4_34_4e).symm (h_172 c_175).2) (In_lit (n := 1) (by decide) (by decide) : In 1 1 1) (by decide)) : In 7 2147483646 ((fI w 34 4) - 1)) (by decide) : In (-2147483648) 2147483647 ((fI w 34 4) - 1))) hP hD (fun w_176 ew_176 hW_w_176 hP hD => ?_))
              refine lv_goto (tgt := 201) hx hb dX8_readsSingle_99 (by decide) ?_
              refine lv_iload_n hx hb dX8_readsSingle_201 rfl (lv_at hl 3 rfl) ?_
              refine lv_if_eq (tgt := 215) hx hb dX8_readsSingle_202 (by decide) (fun c_177 => ?_) (fun c_177 => ?_)
              · refine lv_iload_n hx hb dX8_readsSingle_215 rfl (lv_at hl 0 rfl) ?_
                exact hret _ _ _ _ _ _ hP hD hS dX8_readsSingle_216 (In_lit (n := 0) (by decide) (by decide) : In 0 1 0) ⟨hW_w_176, ((hM_w4.tr hs_w_170 (by decide)).sf (hW_w_170.lt tX_34) ew_176 (by decide)), (In_lit (n := 0) (by decide) (by decide) : In 0 1 0), (fun h => absurd rfl h)⟩
              · refine lv_aload_n hx hb dX8_readsSingle_205 rfl (lv_at hl 1 rfl) ?_
                refine gt_X8 hx hb hts hown hK hP 34 (hW_w_176.o tX_34) 1 (by decide) wd_228 rfl (hW_w_176.fr tX_34 rfl) dX8_readsSingle_206 ?_
                refine lv_bipush (v := 7) hx hb dX8_readsSingle_209 (by decide) ?_
                refine lv_iconst (v := 0) hx hb dX8_readsSingle_211 (by decide) ?_
                refine kW_v ⟨rfl, rfl⟩ hP hD hS hA (rW_V (As := [.int 7, .int 0]) (rest := []) hx hb hml hown hts hK hE hP hD (k_X1_addCode_at16 l D cI cJ cZ q bb bs 16 w_176 hW_w_176 7 0 (In_lit (n := 7) (by decide) (by decide) : In (-1) 15 7) (In_of ((fI_cg (st_ne ew_176 (by decide))).trans ((hs_w_170.gI (by decide)).trans (hM_w4.2 16 8 (by decide) (by decide)))) (In_of (hM_w4.2 16 8 (by decide) (by decide)).symm g4_16_8)) (⟨(fun h => absurd h (by decide)), (fun h => absurd h (by decide)), (fun h => absurd h (by decide))⟩) _) ⟨⟨rfl, rfl⟩, rfl, rfl⟩ sv_X8_146 ⟨(by have hh := hd; have h : 3 * d + 5 ≤ R.frames := hR.1; show 0 + 1 ≤ R.frames; omega), (by have hh := hd; have h : 150 * d + 300 ≤ R.locals := hR.2; show 8 + (3 + 11) + (0) ≤ R.locals; omega)⟩ 16 1 (hW_w_176.o tX_16) rfl rfl rfl hl.1 rfl (Nat.le_of_ble_eq_true rfl) dX8_readsSingle_212) (fun w_178 H locs hw_w_178 hP hD hS => ?_)
                obtain ⟨hW_w_178, hs_w_178, h_180⟩ := hw_w_178
                refine lv_iload_n hx hb dX8_readsSingle_215 rfl (lv_at hl 0 rfl) ?_
                exact hret _ _ _ _ _ _ hP hD hS dX8_readsSingle_216 (In_lit (n := 0) (by decide) (by decide) : In 0 1 0) ⟨hW_w_178, (((hM_w4.tr hs_w_170 (by decide)).sf (hW_w_170.lt tX_34) ew_176 (by decide)).tr hs_w_178 (by decide)), (In_lit (n := 0) (by decide) (by decide) : In 0 1 0), (fun h => absurd rfl h)⟩
            · refine lv_aload_n hx hb dX8_readsSingle_66 rfl (lv_at hl 0 rfl) ?_
              refine lv_iload_n hx hb dX8_readsSingle_67 rfl (lv_at hl 1 rfl) ?_
              refine kW_i ⟨rfl, rfl⟩ hP hD hS hA (rW_V (As := [.int p1]) (rest := []) hx hb hml hown hts hK hE hP hD (ih (d - 1) (by have hh := hd; have nt0 := (In_of g4_34_4e.symm (h_174 c_175).2); unfold In at nt0; omega) l D cI cJ cZ q bb bs w_170 hW_w_170 p1 i_p1 (In_of ((hs_w_170.gI (by decide)).trans (hM_w4.2 16 8 (by decide) (by decide))) (In_of (hM_w4.2 16 8 (by decide) (by decide)).symm g4_16_8)) (by have e34_4 : (fI w_170 34 4).toInt = (((fI w 34 4) + 1) : Int32).toInt := congrArg Int32.toInt ((h_174 c_175).1.trans (congrArg (· + 1) g4_34_4e)); have t17 := t_add (In_of g4_34_4e.symm (h_174 c_175).2) (In_lit (n := 1) (by decide) (by decide) : In 1 1 1) (by decide); have z1 : (1 : Int32).toInt = 1 := (by decide); have nt0 := (In_of g4_34_4e.symm (h_174 c_175).2); have hh := hd; unfold In at nt0; omega) _) ⟨⟨rfl, rfl⟩, rfl, rfl⟩ sv_X8_139 ⟨(by have hh := hd; have nt0 := (In_of g4_34_4e.symm (h_174 c_175).2); unfold In at nt0; have h : 3 * d + 5 ≤ R.frames := hR.1; show 3 * (d - 1) + 7 + 1 ≤ R.frames; omega), (by have hh := hd; have nt0 := (In_of g4_34_4e.symm (h_174 c_175).2); unfold In at nt0; have h : 150 * d + 300 ≤ R.locals := hR.2; show 8 + (3 + 11) + (150 * (d - 1) + 380) ≤ R.locals; omega)⟩ 34 8 (hW_w_170.o tX_34) rfl rfl rfl hl.1 rfl (Nat.le_of_ble_eq_true rfl) dX8_readsSingle_68) (fun r_182 w_181 H locs hw_w_181 hP hD hS => ?_)
              obtain ⟨hW_w_181, hs_w_181, i_r_182, h_183⟩ := hw_w_181
              refine lv_if_eq (tgt := 87) hx hb dX8_readsSingle_71 (by decide) (fun c_184 => ?_) (fun c_184 => ?_)
              · refine lv_iconst (v := 0) hx hb dX8_readsSingle_87 (by decide) ?_
                refine lv_istore_n (lv' := [(3, .int 0), (0, .ref (q 34)), (1, .int p1), (2, .int x4_2)]) hx hb dX8_readsSingle_88 rfl hl (by decide) rfl (fun ls hl => ?_)
                refine lv_aload_n hx hb dX8_readsSingle_89 rfl (lv_at hl 1 rfl) ?_
                refine lv_dup hx hb dX8_readsSingle_90 rfl ?_
                refine gt_X8 hx hb hts hown hK hP 34 (hW_w_181.o tX_34) 4 (by decide) wd_233 rfl (hW_w_181.fi tX_34 rfl) dX8_readsSingle_91 ?_
                refine lv_iconst (v := 1) hx hb dX8_readsSingle_94 (by decide) ?_
                refine lv_isub hx hb dX8_readsSingle_95 ?_
                refine pt_X8 hx hb hts hown hK hP hD hS 34 (hW_w_181.o tX_34) 4 (by decide) wd_233 rfl rfl (ty := .int) (v := .int ((fI w_181 34 4) - 1)) (by decide +kernel) rfl rfl (hW_w_181.ll tX_34 (Nat.le_of_ble_eq_true rfl)) dX8_readsSingle_96 (fun H locs hP hD hS => fr_w (hW_w_181.sI tX_34 rfl (In_any _)) hP hD (fun w_185 ew_185 hW_w_185 hP hD => ?_))
                refine lv_goto (tgt := 201) hx hb dX8_readsSingle_99 (by decide) ?_
                refine lv_iload_n hx hb dX8_readsSingle_201 rfl (lv_at hl 3 rfl) ?_
                refine lv_if_eq (tgt := 215) hx hb dX8_readsSingle_202 (by decide) (fun c_186 => ?_) (fun c_186 => ?_)
                · refine lv_iload_n hx hb dX8_readsSingle_215 rfl (lv_at hl 0 rfl) ?_
                  exact hret _ _ _ _ _ _ hP hD hS dX8_readsSingle_216 (In_lit (n := 0) (by decide) (by decide) : In 0 1 0) ⟨hW_w_185, (((hM_w4.tr hs_w_170 (by decide)).tr hs_w_181 (by decide)).sf (hW_w_181.lt tX_34) ew_185 (by decide)), (In_lit (n := 0) (by decide) (by decide) : In 0 1 0), (fun h => absurd rfl h)⟩
                · refine lv_aload_n hx hb dX8_readsSingle_205 rfl (lv_at hl 1 rfl) ?_
                  refine gt_X8 hx hb hts hown hK hP 34 (hW_w_185.o tX_34) 1 (by decide) wd_228 rfl (hW_w_185.fr tX_34 rfl) dX8_readsSingle_206 ?_
                  refine lv_bipush (v := 7) hx hb dX8_readsSingle_209 (by decide) ?_
                  refine lv_iconst (v := 0) hx hb dX8_readsSingle_211 (by decide) ?_
                  refine kW_v ⟨rfl, rfl⟩ hP hD hS hA (rW_V (As := [.int 7, .int 0]) (rest := []) hx hb hml hown hts hK hE hP hD (k_X1_addCode_at16 l D cI cJ cZ q bb bs 16 w_185 hW_w_185 7 0 (In_lit (n := 7) (by decide) (by decide) : In (-1) 15 7) (In_of ((fI_cg (st_ne ew_185 (by decide))).trans ((hs_w_181.2 16 8 (by decide) (by decide)).trans ((hs_w_170.gI (by decide)).trans (hM_w4.2 16 8 (by decide) (by decide))))) (In_of (hM_w4.2 16 8 (by decide) (by decide)).symm g4_16_8)) (⟨(fun h => absurd h (by decide)), (fun h => absurd h (by decide)), (fun h => absurd h (by decide))⟩) _) ⟨⟨rfl, rfl⟩, rfl, rfl⟩ sv_X8_146 ⟨(by have hh := hd; have nt0 := (In_of g4_34_4e.symm (h_174 c_175).2); unfold In at nt0; have h : 3 * d + 5 ≤ R.frames := hR.1; show 0 + 1 ≤ R.frames; omega), (by have hh := hd; have nt0 := (In_of g4_34_4e.symm (h_174 c_175).2); unfold In at nt0; have h : 150 * d + 300 ≤ R.locals := hR.2; show 8 + (3 + 11) + (0) ≤ R.locals; omega)⟩ 16 1 (hW_w_185.o tX_16) rfl rfl rfl hl.1 rfl (Nat.le_of_ble_eq_true rfl) dX8_readsSingle_212) (fun w_187 H locs hw_w_187 hP hD hS => ?_)
                  obtain ⟨hW_w_187, hs_w_187, h_189⟩ := hw_w_187
                  refine lv_iload_n hx hb dX8_readsSingle_215 rfl (lv_at hl 0 rfl) ?_
                  exact hret _ _ _ _ _ _ hP hD hS dX8_readsSingle_216 (In_lit (n := 0) (by decide) (by decide) : In 0 1 0) ⟨hW_w_187, ((((hM_w4.tr hs_w_170 (by decide)).tr hs_w_181 (by decide)).sf (hW_w_181.lt tX_34) ew_185 (by decide)).tr hs_w_187 (by decide)), (In_lit (n := 0) (by decide) (by decide) : In 0 1 0), (fun h => absurd rfl h)⟩
              · refine lv_aload_n hx hb dX8_readsSingle_74 rfl (lv_at hl 0 rfl) ?_
                refine lv_bipush (v := 93) hx hb dX8_readsSingle_75 (by decide) ?_
                refine kW_i ⟨rfl, rfl⟩ hP hD hS hA (rW_V (As := [.int 93]) (rest := []) hx hb hml hown hts hK hE hP hD (k_X8_passes l D cI cJ cZ q bb bs w_181 hW_w_181 93 (In_lit (n := 93) (by decide) (by decide) : In 41 271 93) _) ⟨⟨rfl, rfl⟩, rfl, rfl⟩ sv_X8_97 ⟨(by have hh := hd; have nt0 := (In_of g4_34_4e.symm (h_174 c_175).2); unfold In at nt0; have h : 3 * d + 5 ≤ R.frames := hR.1; show 2 + 1 ≤ R.frames; omega), (by have hh := hd; have nt0 := (In_of g4_34_4e.symm (h_174 c_175).2); unfold In at nt0; have h : 150 * d + 300 ≤ R.locals := hR.2; show 8 + (2 + 11) + (47) ≤ R.locals; omega)⟩ 34 8 (hW_w_181.o tX_34) rfl rfl rfl hl.1 rfl (Nat.le_of_ble_eq_true rfl) dX8_readsSingle_77) (fun r_191 w_190 H locs hw_w_190 hP hD hS => ?_)
                obtain ⟨hW_w_190, hs_w_190, i_r_191⟩ := hw_w_190
                refine lv_if_eq (tgt := 87) hx hb dX8_readsSingle_80 (by decide) (fun c_192 => ?_) (fun c_192 => ?_)
                · refine lv_iconst (v := 0) hx hb dX8_readsSingle_87 (by decide) ?_
                  refine lv_istore_n (lv' := [(3, .int 0), (0, .ref (q 34)), (1, .int p1), (2, .int x4_2)]) hx hb dX8_readsSingle_88 rfl hl (by decide) rfl (fun ls hl => ?_)
                  refine lv_aload_n hx hb dX8_readsSingle_89 rfl (lv_at hl 1 rfl) ?_
                  refine lv_dup hx hb dX8_readsSingle_90 rfl ?_
                  refine gt_X8 hx hb hts hown hK hP 34 (hW_w_190.o tX_34) 4 (by decide) wd_233 rfl (hW_w_190.fi tX_34 rfl) dX8_readsSingle_91 ?_
                  refine tov (v := ((fI w 34 4) + 1)) ((hs_w_190.2 34 4 (by decide) (by decide)).trans ((h_183 c_184).trans ((h_174 c_175).1.trans (congrArg (· + 1) g4_34_4e)))) ?_
                  refine lv_iconst (v := 1) hx hb dX8_readsSingle_94 (by decide) ?_
                  refine lv_isub hx hb dX8_readsSingle_95 ?_
                  refine tov (v := (fI w 34 4)) (Int32.add_sub_cancel _ _) ?_
                  refine pt_X8 hx hb hts hown hK hP hD hS 34 (hW_w_190.o tX_34) 4 (by decide) wd_233 rfl rfl (ty := .int) (v := .int (fI w 34 4)) (by decide +kernel) rfl rfl (hW_w_190.ll tX_34 (Nat.le_of_ble_eq_true rfl)) dX8_readsSingle_96 (fun H locs hP hD hS => fr_w (hW_w_190.sI tX_34 rfl (In_w (In_of g4_34_4e.symm (h_174 c_175).2) (by decide) : In (-2147483648) 2147483647 (fI w 34 4))) hP hD (fun w_193 ew_193 hW_w_193 hP hD => ?_))
                  refine lv_goto (tgt := 201) hx hb dX8_readsSingle_99 (by decide) ?_
                  refine lv_iload_n hx hb dX8_readsSingle_201 rfl (lv_at hl 3 rfl) ?_
                  refine lv_if_eq (tgt := 215) hx hb dX8_readsSingle_202 (by decide) (fun c_194 => ?_) (fun c_194 => ?_)
                  · refine lv_iload_n hx hb dX8_readsSingle_215 rfl (lv_at hl 0 rfl) ?_
                    exact hret _ _ _ _ _ _ hP hD hS dX8_readsSingle_216 (In_lit (n := 0) (by decide) (by decide) : In 0 1 0) ⟨hW_w_193, ((((hM_w4.tr hs_w_170 (by decide)).tr hs_w_181 (by decide)).tr hs_w_190 (by decide)).sf (hW_w_190.lt tX_34) ew_193 (by decide)), (In_lit (n := 0) (by decide) (by decide) : In 0 1 0), (fun h => absurd rfl h)⟩
                  · refine lv_aload_n hx hb dX8_readsSingle_205 rfl (lv_at hl 1 rfl) ?_
                    refine gt_X8 hx hb hts hown hK hP 34 (hW_w_193.o tX_34) 1 (by decide) wd_228 rfl (hW_w_193.fr tX_34 rfl) dX8_readsSingle_206 ?_
                    refine lv_bipush (v := 7) hx hb dX8_readsSingle_209 (by decide) ?_
                    refine lv_iconst (v := 0) hx hb dX8_readsSingle_211 (by decide) ?_
                    refine kW_v ⟨rfl, rfl⟩ hP hD hS hA (rW_V (As := [.int 7, .int 0]) (rest := []) hx hb hml hown hts hK hE hP hD (k_X1_addCode_at16 l D cI cJ cZ q bb bs 16 w_193 hW_w_193 7 0 (In_lit (n := 7) (by decide) (by decide) : In (-1) 15 7) (In_of ((fI_cg (st_ne ew_193 (by decide))).trans ((hs_w_190.gI (by decide)).trans ((hs_w_181.2 16 8 (by decide) (by decide)).trans ((hs_w_170.gI (by decide)).trans (hM_w4.2 16 8 (by decide) (by decide)))))) (In_of (hM_w4.2 16 8 (by decide) (by decide)).symm g4_16_8)) (⟨(fun h => absurd h (by decide)), (fun h => absurd h (by decide)), (fun h => absurd h (by decide))⟩) _) ⟨⟨rfl, rfl⟩, rfl, rfl⟩ sv_X8_146 ⟨(by have hh := hd; have nt0 := (In_of g4_34_4e.symm (h_174 c_175).2); unfold In at nt0; have h : 3 * d + 5 ≤ R.frames := hR.1; show 0 + 1 ≤ R.frames; omega), (by have hh := hd; have nt0 := (In_of g4_34_4e.symm (h_174 c_175).2); unfold In at nt0; have h : 150 * d + 300 ≤ R.locals := hR.2; show 8 + (3 + 11) + (0) ≤ R.locals; omega)⟩ 16 1 (hW_w_193.o tX_16) rfl rfl rfl hl.1 rfl (Nat.le_of_ble_eq_true rfl) dX8_readsSingle_212) (fun w_195 H locs hw_w_195 hP hD hS => ?_)
                    obtain ⟨hW_w_195, hs_w_195, h_197⟩ := hw_w_195
                    refine lv_iload_n hx hb dX8_readsSingle_215 rfl (lv_at hl 0 rfl) ?_
                    exact hret _ _ _ _ _ _ hP hD hS dX8_readsSingle_216 (In_lit (n := 0) (by decide) (by decide) : In 0 1 0) ⟨hW_w_195, (((((hM_w4.tr hs_w_170 (by decide)).tr hs_w_181 (by decide)).tr hs_w_190 (by decide)).sf (hW_w_190.lt tX_34) ew_193 (by decide)).tr hs_w_195 (by decide)), (In_lit (n := 0) (by decide) (by decide) : In 0 1 0), (fun h => absurd rfl h)⟩
                · refine lv_iconst (v := 1) hx hb dX8_readsSingle_83 (by decide) ?_
                  refine lv_goto (tgt := 88) hx hb dX8_readsSingle_84 (by decide) ?_
                  refine lv_istore_n (lv' := [(3, .int 1), (0, .ref (q 34)), (1, .int p1), (2, .int x4_2)]) hx hb dX8_readsSingle_88 rfl hl (by decide) rfl (fun ls hl => ?_)
                  refine lv_aload_n hx hb dX8_readsSingle_89 rfl (lv_at hl 1 rfl) ?_
                  refine lv_dup hx hb dX8_readsSingle_90 rfl ?_
                  refine gt_X8 hx hb hts hown hK hP 34 (hW_w_190.o tX_34) 4 (by decide) wd_233 rfl (hW_w_190.fi tX_34 rfl) dX8_readsSingle_91 ?_
                  refine tov (v := ((fI w 34 4) + 1)) ((hs_w_190.2 34 4 (by decide) (by decide)).trans ((h_183 c_184).trans ((h_174 c_175).1.trans (congrArg (· + 1) g4_34_4e)))) ?_
                  refine lv_iconst (v := 1) hx hb dX8_readsSingle_94 (by decide) ?_
                  refine lv_isub hx hb dX8_readsSingle_95 ?_
                  refine tov (v := (fI w 34 4)) (Int32.add_sub_cancel _ _) ?_
                  refine pt_X8 hx hb hts hown hK hP hD hS 34 (hW_w_190.o tX_34) 4 (by decide) wd_233 rfl rfl (ty := .int) (v := .int (fI w 34 4)) (by decide +kernel) rfl rfl (hW_w_190.ll tX_34 (Nat.le_of_ble_eq_true rfl)) dX8_readsSingle_96 (fun H locs hP hD hS => fr_w (hW_w_190.sI tX_34 rfl (In_w (In_of g4_34_4e.symm (h_174 c_175).2) (by decide) : In (-2147483648) 2147483647 (fI w 34 4))) hP hD (fun w_198 ew_198 hW_w_198 hP hD => ?_))
                  refine lv_goto (tgt := 201) hx hb dX8_readsSingle_99 (by decide) ?_
                  refine lv_iload_n hx hb dX8_readsSingle_201 rfl (lv_at hl 3 rfl) ?_
                  refine lv_if_eq (tgt := 215) hx hb dX8_readsSingle_202 (by decide) (fun c_199 => ?_) (fun c_199 => ?_)
                  · refine lv_iload_n hx hb dX8_readsSingle_215 rfl (lv_at hl 0 rfl) ?_
                    exact hret _ _ _ _ _ _ hP hD hS dX8_readsSingle_216 (In_lit (n := 1) (by decide) (by decide) : In 0 1 1) ⟨hW_w_198, ((((hM_w4.tr hs_w_170 (by decide)).tr hs_w_181 (by decide)).tr hs_w_190 (by decide)).sf (hW_w_190.lt tX_34) ew_198 (by decide)), (In_lit (n := 1) (by decide) (by decide) : In 0 1 1), (fun h => (fI_eq (hW_w_190.lt tX_34) ew_198 (hW_w_190.ll tX_34 (Nat.le_of_ble_eq_true rfl))))⟩
                  · refine lv_aload_n hx hb dX8_readsSingle_205 rfl (lv_at hl 1 rfl) ?_
                    refine gt_X8 hx hb hts hown hK hP 34 (hW_w_198.o tX_34) 1 (by decide) wd_228 rfl (hW_w_198.fr tX_34 rfl) dX8_readsSingle_206 ?_
                    refine lv_bipush (v := 7) hx hb dX8_readsSingle_209 (by decide) ?_
                    refine lv_iconst (v := 0) hx hb dX8_readsSingle_211 (by decide) ?_
                    refine kW_v ⟨rfl, rfl⟩ hP hD hS hA (rW_V (As := [.int 7, .int 0]) (rest := []) hx hb hml hown hts hK hE hP hD (k_X1_addCode_at16 l D cI cJ cZ q bb bs 16 w_198 hW_w_198 7 0 (In_lit (n := 7) (by decide) (by decide) : In (-1) 15 7) (In_of ((fI_cg (st_ne ew_198 (by decide))).trans ((hs_w_190.gI (by decide)).trans ((hs_w_181.2 16 8 (by decide) (by decide)).trans ((hs_w_170.gI (by decide)).trans (hM_w4.2 16 8 (by decide) (by decide)))))) (In_of (hM_w4.2 16 8 (by decide) (by decide)).symm g4_16_8)) (⟨(fun h => absurd h (by decide)), (fun h => absurd h (by decide)), (fun h => absurd h (by decide))⟩) _) ⟨⟨rfl, rfl⟩, rfl, rfl⟩ sv_X8_146 ⟨(by have hh := hd; have nt0 := (In_of g4_34_4e.symm (h_174 c_175).2); unfold In at nt0; have h : 3 * d + 5 ≤ R.frames := hR.1; show 0 + 1 ≤ R.frames; omega), (by have hh := hd; have nt0 := (In_of g4_34_4e.symm (h_174 c_175).2); unfold In at nt0; have h : 150 * d + 300 ≤ R.locals := hR.2; show 8 + (3 + 11) + (0) ≤ R.locals; omega)⟩ 16 1 (hW_w_198.o tX_16) rfl rfl rfl hl.1 rfl (Nat.le_of_ble_eq_true rfl) dX8_readsSingle_212) (fun w_200 H locs hw_w_200 hP hD hS => ?_)
                    obtain ⟨hW_w_200, hs_w_200, h_202⟩ := hw_w_200
                    refine lv_iload_n hx hb dX8_readsSingle_215 rfl (lv_at hl 0 rfl) ?_
                    exact hret _ _ _ _ _ _ hP hD hS dX8_readsSingle_216 (In_lit (n := 1) (by decide) (by decide) : In 0 1 1) ⟨hW_w_200, (((((hM_w4.tr hs_w_170 (by decide)).tr hs_w_181 (by decide)).tr hs_w_190 (by decide)).sf (hW_w_190.lt tX_34) ew_198 (by decide)).tr hs_w_200 (by decide)), (In_lit (n := 1) (by decide) (by decide) : In 0 1 1), (fun h => ((hs_w_200.gI (by decide)).trans (fI_eq (hW_w_190.lt tX_34) ew_198 (hW_w_190.ll tX_34 (Nat.le_of_ble_eq_true rfl)))))⟩
        · refine lv_iload_n hx hb dX8_readsSingle_24 rfl (lv_at hl 2 rfl) ?_
          refine lv_if_ne (tgt := 32) hx hb dX8_readsSingle_25 (by decide) (fun c_203 => ?_) (fun c_203 => ?_)
          · refine lv_iconst (v := 0) hx hb dX8_readsSingle_32 (by decide) ?_
            refine lv_istore_n (lv' := [(2, .int 0), (0, .ref (q 34)), (1, .int p1), (3, .int x4_3)]) hx hb dX8_readsSingle_33 rfl hl (by decide) rfl (fun ls hl => ?_)
            refine lv_aload_n hx hb dX8_readsSingle_34 rfl (lv_at hl 1 rfl) ?_
            refine gt_X8 hx hb hts hown hK hP 34 (hW_w4.o tX_34) 0 (by decide) wd_227 rfl (hW_w4.fr tX_34 rfl) dX8_readsSingle_35 ?_
            refine kW_v ⟨rfl, rfl⟩ hP hD hS hA (rW_V (As := []) (rest := []) hx hb hml hown hts hK hE hP hD (k_X10_step l D cI cJ cZ q bb bs 16 w4 hW_w4  _) ⟨⟨rfl, rfl⟩, rfl, rfl⟩ sv_X8_59 ⟨(by have hh := hd; have h : 3 * d + 5 ≤ R.frames := hR.1; show 1 + 1 ≤ R.frames; omega), (by have hh := hd; have h : 150 * d + 300 ≤ R.locals := hR.2; show 8 + (5 + 11) + (23) ≤ R.locals; omega)⟩ 31 10 (hW_w4.o tX_31) rfl rfl rfl hl.1 rfl (Nat.le_of_ble_eq_true rfl) dX8_readsSingle_38) (fun w_204 H locs hw_w_204 hP hD hS => ?_)
            obtain ⟨hW_w_204, hs_w_204⟩ := hw_w_204
            refine lv_iinc (v := (x4_3 + 1)) (lv' := [(3, .int (x4_3 + 1)), (2, .int 0), (0, .ref (q 34)), (1, .int p1)]) hx hb dX8_readsSingle_41 hl (k := 3) rfl (rfl) (by decide) rfl (fun ls hl => ?_)
            refine lv_goto (tgt := 4) hx hb dX8_readsSingle_44 (by decide) ?_
            exact ih4 0 (x4_3 + 1) w_204 _ _ ls (mu_inc hmu4 (R_nlt_r (In_lit (n := 1000) (by decide) (by decide) : In 1000 1000 1000) i_x4_3 c_1 (by decide) : In 0 1000 x4_3) (In_lit (n := 1) (by decide) (by decide) : In 1 1 1) (by decide)) hW_w_204 (hM_w4.tr hs_w_204 (by decide)) i_p1 (In_lit (n := 0) (by decide) (by decide) : In 0 1 0) (In_w ((In_add (y := 1) (R_nlt_r (In_lit (n := 1000) (by decide) (by decide) : In 1000 1000 1000) i_x4_3 c_1 (by decide) : In 0 1000 x4_3) (In_lit (n := 1) (by decide) (by decide) : In 1 1 1) (by decide)) : In 1 1001 (x4_3 + 1)) (by decide) : In 0 1001 (x4_3 + 1)) (In_of ((hs_w_204.gI (by decide)).trans (hM_w4.2 16 8 (by decide) (by decide))) (In_of (hM_w4.2 16 8 (by decide) (by decide)).symm g4_16_8)) ((hs_w_204.gI (by decide)).trans g4_34_4e) hP hD hS (lv_sub hl [2, 3, 1, 0] rfl)
          · refine lv_iconst (v := 1) hx hb dX8_readsSingle_28 (by decide) ?_
            refine lv_goto (tgt := 33) hx hb dX8_readsSingle_29 (by decide) ?_
            refine lv_istore_n (lv' := [(2, .int 1), (0, .ref (q 34)), (1, .int p1), (3, .int x4_3)]) hx hb dX8_readsSingle_33 rfl hl (by decide) rfl (fun ls hl => ?_)
            refine lv_aload_n hx hb dX8_readsSingle_34 rfl (lv_at hl 1 rfl) ?_
            refine gt_X8 hx hb hts hown hK hP 34 (hW_w4.o tX_34) 0 (by decide) wd_227 rfl (hW_w4.fr tX_34 rfl) dX8_readsSingle_35 ?_
            refine kW_v ⟨rfl, rfl⟩ hP hD hS hA (rW_V (As := []) (rest := []) hx hb hml hown hts hK hE hP hD (k_X10_step l D cI cJ cZ q bb bs 16 w4 hW_w4  _) ⟨⟨rfl, rfl⟩, rfl, rfl⟩ sv_X8_59 ⟨(by have hh := hd; have h : 3 * d + 5 ≤ R.frames := hR.1; show 1 + 1 ≤ R.frames; omega), (by have hh := hd; have h : 150 * d + 300 ≤ R.locals := hR.2; show 8 + (5 + 11) + (23) ≤ R.locals; omega)⟩ 31 10 (hW_w4.o tX_31) rfl rfl rfl hl.1 rfl (Nat.le_of_ble_eq_true rfl) dX8_readsSingle_38) (fun w_206 H locs hw_w_206 hP hD hS => ?_)
            obtain ⟨hW_w_206, hs_w_206⟩ := hw_w_206
            refine lv_iinc (v := (x4_3 + 1)) (lv' := [(3, .int (x4_3 + 1)), (2, .int 1), (0, .ref (q 34)), (1, .int p1)]) hx hb dX8_readsSingle_41 hl (k := 3) rfl (rfl) (by decide) rfl (fun ls hl => ?_)
            refine lv_goto (tgt := 4) hx hb dX8_readsSingle_44 (by decide) ?_
            exact ih4 1 (x4_3 + 1) w_206 _ _ ls (mu_inc hmu4 (R_nlt_r (In_lit (n := 1000) (by decide) (by decide) : In 1000 1000 1000) i_x4_3 c_1 (by decide) : In 0 1000 x4_3) (In_lit (n := 1) (by decide) (by decide) : In 1 1 1) (by decide)) hW_w_206 (hM_w4.tr hs_w_206 (by decide)) i_p1 (In_lit (n := 1) (by decide) (by decide) : In 0 1 1) (In_w ((In_add (y := 1) (R_nlt_r (In_lit (n := 1000) (by decide) (by decide) : In 1000 1000 1000) i_x4_3 c_1 (by decide) : In 0 1000 x4_3) (In_lit (n := 1) (by decide) (by decide) : In 1 1 1) (by decide)) : In 1 1001 (x4_3 + 1)) (by decide) : In 0 1001 (x4_3 + 1)) (In_of ((hs_w_206.gI (by decide)).trans (hM_w4.2 16 8 (by decide) (by decide))) (In_of (hM_w4.2 16 8 (by decide) (by decide)).symm g4_16_8)) ((hs_w_206.gI (by decide)).trans g4_34_4e) hP hD hS (lv_sub hl [2, 3, 1, 0] rfl)
  refine lv_iconst (v := 0) hx hb dX8_readsSingle_0 (by decide) ?_
  refine lv_istore_n (lv' := [(2, .int 0), (0, .ref (q 34)), (1, .int p1)]) hx hb dX8_readsSingle_1 rfl hl (by decide) rfl (fun ls hl => ?_)
  refine lv_iconst (v := 0) hx hb dX8_readsSingle_2 (by decide) ?_
  refine lv_istore_n (lv' := [(3, .int 0), (2, .int 0), (0, .ref (q 34)), (1, .int p1)]) hx hb dX8_readsSingle_3 rfl hl (by decide) rfl (fun ls hl => ?_)
  exact J4 _ 0 0 w _ _ ls (Nat.lt_succ_self _) hW_w Sm.rf i_p1 (In_lit (n := 0) (by decide) (by decide) : In 0 1 0) (In_lit (n := 0) (by decide) (by decide) : In 0 1001 0) hf_16_8 rfl hP hD hS (lv_sub hl [2, 3, 1, 0] rfl)
set_option maxRecDepth 100000 in
set_option maxHeartbeats 8000000 in
theorem k_X8_readsBoth (d : Nat) (ih : ∀ d2, d2 < d → D_k_X8_readsEither d2) : D_k_X8_readsBoth d := by
  intro l D cI cJ cZ q bb bs w hW_w p1 i_p1 hf_16_8 hd
  refine eQ_z rfl (by decide) (Nat.le_of_ble_eq_true rfl) ⟨rfl, rfl⟩ ?_
  intro p e R s m args below meth c A Q hx hb hml hown hts hK hE hA hR hret hP hD hS ls hl
  have hown : s.vm.findClass RX8 = some m.cls := hown
  have hl : lv_has ls 3 [(0, .ref (q 34)), (1, .int p1)] := hl
  have J12 : ∀ (N : Nat) (x12_2 : Int32) (w12 : va_W) (H : Heap) (locs : List Loc) (ls : Array Slot), (1001 - x12_2.toInt).toNat < N → HT q (TX q cI cJ cZ bb bs 16) w12 → Sm [16, 29, 30, 31, 34] [(16, 17), (16, 19), (31, 3), (31, 4), (31, 5), (31, 6), (31, 7), (34, 2), (34, 3), (34, 4)] w w12 → (In 0 1 p1) → (In 0 1001 x12_2) → (In 0 23 (fI w12 16 8)) → (fI w12 34 4 = (fI w 34 4)) → va_P D vwCl w12 H → va_D A w12 → va_S A s.heap H locs → lv_has ls 3 [(0, .ref (q 34)), (1, .int p1), (2, .int x12_2)] → W p l e R s m args below meth c H locs 0 0 Q (F0 m 12 ls []) := by
    intro N
    induction N with
    | zero => intro x12_2 w12 H locs ls hmu; exact absurd hmu (Nat.not_lt_zero _)
    | succ N ih12 =>
      intro x12_2 w12 H locs ls hmu12 hW_w12 hM_w12 i_x12_1 i_x12_2 g12_16_8 g12_34_4e hP hD hS hl
      refine lv_iload_n hx hb dX8_readsBoth_12 rfl (lv_at hl 2 rfl) ?_
      refine lv_sipush (v := 1000) hx hb dX8_readsBoth_13 (by decide) ?_
      refine lv_icmp_gt (tgt := 65) hx hb dX8_readsBoth_16 (by decide) (fun c_1 => ?_) (fun c_1 => ?_)
      · refine lv_iconst (v := 1) hx hb dX8_readsBoth_65 (by decide) ?_
        exact hret _ _ _ _ _ _ hP hD hS dX8_readsBoth_66 (In_lit (n := 1) (by decide) (by decide) : In 0 1 1) ⟨hW_w12, hM_w12, (In_lit (n := 1) (by decide) (by decide) : In 0 1 1), (fun h => g12_34_4e)⟩
      · refine lv_aload_n hx hb dX8_readsBoth_19 rfl (lv_at hl 0 rfl) ?_
        refine gt_X8 hx hb hts hown hK hP 34 (hW_w12.o tX_34) 0 (by decide) wd_227 rfl (hW_w12.fr tX_34 rfl) dX8_readsBoth_20 ?_
        refine gt_X10 hx hb hts hown hK hP 31 (hW_w12.o tX_31) 4 (by decide) wd_195 rfl (hW_w12.fi tX_31 rfl) dX8_readsBoth_23 ?_
        refine lv_sipush (v := 273) hx hb dX8_readsBoth_26 (by decide) ?_
        refine lv_icmp_ne (tgt := 65) hx hb dX8_readsBoth_29 (by decide) (fun c_2 => ?_) (fun c_2 => ?_)
        · refine lv_iconst (v := 1) hx hb dX8_readsBoth_65 (by decide) ?_
          exact hret _ _ _ _ _ _ hP hD hS dX8_readsBoth_66 (In_lit (n := 1) (by decide) (by decide) : In 0 1 1) ⟨hW_w12, hM_w12, (In_lit (n := 1) (by decide) (by decide) : In 0 1 1), (fun h => g12_34_4e)⟩
        · refine lv_aload_n hx hb dX8_readsBoth_32 rfl (lv_at hl 0 rfl) ?_
          refine gt_X8 hx hb hts hown hK hP 34 (hW_w12.o tX_34) 0 (by decide) wd_227 rfl (hW_w12.fr tX_34 rfl) dX8_readsBoth_33 ?_
          refine kW_v ⟨rfl, rfl⟩ hP hD hS hA (rW_V (As := []) (rest := []) hx hb hml hown hts hK hE hP hD (k_X10_step l D cI cJ cZ q bb bs 16 w12 hW_w12  _) ⟨⟨rfl, rfl⟩, rfl, rfl⟩ sv_X8_59 ⟨(by have hh := hd; have h : 3 * d + 6 ≤ R.frames := hR.1; show 1 + 1 ≤ R.frames; omega), (by have hh := hd; have h : 150 * d + 340 ≤ R.locals := hR.2; show 8 + (5 + 11) + (23) ≤ R.locals; omega)⟩ 31 10 (hW_w12.o tX_31) rfl rfl rfl hl.1 rfl (Nat.le_of_ble_eq_true rfl) dX8_readsBoth_36) (fun w_3 H locs hw_w_3 hP hD hS => ?_)
          obtain ⟨hW_w_3, hs_w_3⟩ := hw_w_3
          refine lv_aload_n hx hb dX8_readsBoth_39 rfl (lv_at hl 0 rfl) ?_
          refine lv_iload_n hx hb dX8_readsBoth_40 rfl (lv_at hl 1 rfl) ?_
          refine kW_i ⟨rfl, rfl⟩ hP hD hS hA (rW_V (As := [.int p1]) (rest := []) hx hb hml hown hts hK hE hP hD (k_X8_readsSingle d ih l D cI cJ cZ q bb bs w_3 hW_w_3 p1 i_p1 (In_of ((hs_w_3.gI (by decide)).trans (hM_w12.2 16 8 (by decide) (by decide))) (In_of (hM_w12.2 16 8 (by decide) (by decide)).symm g12_16_8)) (by have e34_4 : (fI w_3 34 4).toInt = ((fI w 34 4) : Int32).toInt := congrArg Int32.toInt ((hs_w_3.gI (by decide)).trans g12_34_4e); have hh := hd; omega) _) ⟨⟨rfl, rfl⟩, rfl, rfl⟩ sv_X8_150 ⟨(by have hh := hd; have h : 3 * d + 6 ≤ R.frames := hR.1; show 3 * d + 5 + 1 ≤ R.frames; omega), (by have hh := hd; have h : 150 * d + 340 ≤ R.locals := hR.2; show 8 + (5 + 11) + (150 * d + 300) ≤ R.locals; omega)⟩ 34 8 (hW_w_3.o tX_34) rfl rfl rfl hl.1 rfl (Nat.le_of_ble_eq_true rfl) dX8_readsBoth_41) (fun r_6 w_5 H locs hw_w_5 hP hD hS => ?_)
          obtain ⟨hW_w_5, hs_w_5, i_r_6, h_7⟩ := hw_w_5
          refine lv_if_ne (tgt := 49) hx hb dX8_readsBoth_44 (by decide) (fun c_8 => ?_) (fun c_8 => ?_)
          · refine lv_aload_n hx hb dX8_readsBoth_49 rfl (lv_at hl 0 rfl) ?_
            refine gt_X8 hx hb hts hown hK hP 34 (hW_w_5.o tX_34) 1 (by decide) wd_228 rfl (hW_w_5.fr tX_34 rfl) dX8_readsBoth_50 ?_
            refine lv_bipush (v := 8) hx hb dX8_readsBoth_53 (by decide) ?_
            refine lv_iconst (v := 0) hx hb dX8_readsBoth_55 (by decide) ?_
            refine kW_v ⟨rfl, rfl⟩ hP hD hS hA (rW_V (As := [.int 8, .int 0]) (rest := []) hx hb hml hown hts hK hE hP hD (k_X1_addCode_at16 l D cI cJ cZ q bb bs 16 w_5 hW_w_5 8 0 (In_lit (n := 8) (by decide) (by decide) : In (-1) 15 8) (In_of ((hs_w_5.2 16 8 (by decide) (by decide)).trans ((hs_w_3.gI (by decide)).trans (hM_w12.2 16 8 (by decide) (by decide)))) (In_of (hM_w12.2 16 8 (by decide) (by decide)).symm g12_16_8)) (⟨(fun h => absurd h (by decide)), (fun h => absurd h (by decide)), (fun h => absurd h (by decide))⟩) _) ⟨⟨rfl, rfl⟩, rfl, rfl⟩ sv_X8_146 ⟨(by have hh := hd; have h : 3 * d + 6 ≤ R.frames := hR.1; show 0 + 1 ≤ R.frames; omega), (by have hh := hd; have h : 150 * d + 340 ≤ R.locals := hR.2; show 8 + (3 + 11) + (0) ≤ R.locals; omega)⟩ 16 1 (hW_w_5.o tX_16) rfl rfl rfl hl.1 rfl (Nat.le_of_ble_eq_true rfl) dX8_readsBoth_56) (fun w_9 H locs hw_w_9 hP hD hS => ?_)
            obtain ⟨hW_w_9, hs_w_9, h_11⟩ := hw_w_9
            refine lv_iinc (v := (x12_2 + 1)) (lv' := [(2, .int (x12_2 + 1)), (0, .ref (q 34)), (1, .int p1)]) hx hb dX8_readsBoth_59 hl (k := 2) rfl (rfl) (by decide) rfl (fun ls hl => ?_)
            refine lv_goto (tgt := 12) hx hb dX8_readsBoth_62 (by decide) ?_
            exact ih12 (x12_2 + 1) w_9 _ _ ls (mu_inc hmu12 (R_nlt_r (In_lit (n := 1000) (by decide) (by decide) : In 1000 1000 1000) i_x12_2 c_1 (by decide) : In 0 1000 x12_2) (In_lit (n := 1) (by decide) (by decide) : In 1 1 1) (by decide)) hW_w_9 (((hM_w12.tr hs_w_3 (by decide)).tr hs_w_5 (by decide)).tr hs_w_9 (by decide)) i_p1 (In_w ((In_add (y := 1) (R_nlt_r (In_lit (n := 1000) (by decide) (by decide) : In 1000 1000 1000) i_x12_2 c_1 (by decide) : In 0 1000 x12_2) (In_lit (n := 1) (by decide) (by decide) : In 1 1 1) (by decide)) : In 1 1001 (x12_2 + 1)) (by decide) : In 0 1001 (x12_2 + 1)) (In_of ((hs_w_9.2 16 8 (by decide) (by decide)).trans ((hs_w_5.2 16 8 (by decide) (by decide)).trans ((hs_w_3.gI (by decide)).trans (hM_w12.2 16 8 (by decide) (by decide))))) (In_of (hM_w12.2 16 8 (by decide) (by decide)).symm g12_16_8)) ((hs_w_9.gI (by decide)).trans ((h_7 c_8).trans ((hs_w_3.gI (by decide)).trans g12_34_4e))) hP hD hS (lv_sub hl [1, 2, 0] rfl)
          · refine lv_iconst (v := 0) hx hb dX8_readsBoth_47 (by decide) ?_
            exact hret _ _ _ _ _ _ hP hD hS dX8_readsBoth_48 (In_lit (n := 0) (by decide) (by decide) : In 0 1 0) ⟨hW_w_5, ((hM_w12.tr hs_w_3 (by decide)).tr hs_w_5 (by decide)), (In_lit (n := 0) (by decide) (by decide) : In 0 1 0), (fun h => absurd rfl h)⟩
  refine lv_aload_n hx hb dX8_readsBoth_0 rfl (lv_at hl 0 rfl) ?_
  refine lv_iload_n hx hb dX8_readsBoth_1 rfl (lv_at hl 1 rfl) ?_
  refine kW_i ⟨rfl, rfl⟩ hP hD hS hA (rW_V (As := [.int p1]) (rest := []) hx hb hml hown hts hK hE hP hD (k_X8_readsSingle d ih l D cI cJ cZ q bb bs w hW_w p1 i_p1 hf_16_8 (by have hh := hd; omega) _) ⟨⟨rfl, rfl⟩, rfl, rfl⟩ sv_X8_150 ⟨(by have hh := hd; have h : 3 * d + 6 ≤ R.frames := hR.1; show 3 * d + 5 + 1 ≤ R.frames; omega), (by have hh := hd; have h : 150 * d + 340 ≤ R.locals := hR.2; show 8 + (5 + 11) + (150 * d + 300) ≤ R.locals; omega)⟩ 34 8 (hW_w.o tX_34) rfl rfl rfl hl.1 rfl (Nat.le_of_ble_eq_true rfl) dX8_readsBoth_2) (fun r_13 w_12 H locs hw_w_12 hP hD hS => ?_)
  obtain ⟨hW_w_12, hs_w_12, i_r_13, h_14⟩ := hw_w_12
  refine lv_if_ne (tgt := 10) hx hb dX8_readsBoth_5 (by decide) (fun c_15 => ?_) (fun c_15 => ?_)
  · refine lv_iconst (v := 0) hx hb dX8_readsBoth_10 (by decide) ?_
    refine lv_istore_n (lv' := [(2, .int 0), (0, .ref (q 34)), (1, .int p1)]) hx hb dX8_readsBoth_11 rfl hl (by decide) rfl (fun ls hl => ?_)
    exact J12 _ 0 w_12 _ _ ls (Nat.lt_succ_self _) hW_w_12 (Sm.rf.tr hs_w_12 (by decide)) i_p1 (In_lit (n := 0) (by decide) (by decide) : In 0 1001 0) (In_of (hs_w_12.2 16 8 (by decide) (by decide)) hf_16_8) (h_14 c_15) hP hD hS (lv_sub hl [1, 2, 0] rfl)
  · refine lv_iconst (v := 0) hx hb dX8_readsBoth_8 (by decide) ?_
    exact hret _ _ _ _ _ _ hP hD hS dX8_readsBoth_9 (In_lit (n := 0) (by decide) (by decide) : In 0 1 0) ⟨hW_w_12, (Sm.rf.tr hs_w_12 (by decide)), (In_lit (n := 0) (by decide) (by decide) : In 0 1 0), (fun h => absurd rfl h)⟩
set_option maxRecDepth 100000 in
set_option maxHeartbeats 8000000 in
theorem k_X8_readsEither (d : Nat) (ih : ∀ d2, d2 < d → D_k_X8_readsEither d2) : D_k_X8_readsEither d := by
  intro l D cI cJ cZ q bb bs w hW_w p1 i_p1 hf_16_8 hd
  refine eQ_z rfl (by decide) (Nat.le_of_ble_eq_true rfl) ⟨rfl, rfl⟩ ?_
  intro p e R s m args below meth c A Q hx hb hml hown hts hK hE hA hR hret hP hD hS ls hl
  have hown : s.vm.findClass RX8 = some m.cls := hown
  have hl : lv_has ls 3 [(0, .ref (q 34)), (1, .int p1)] := hl
  have J12 : ∀ (N : Nat) (x12_2 : Int32) (w12 : va_W) (H : Heap) (locs : List Loc) (ls : Array Slot), (1001 - x12_2.toInt).toNat < N → HT q (TX q cI cJ cZ bb bs 16) w12 → Sm [16, 29, 30, 31, 34] [(16, 17), (16, 19), (31, 3), (31, 4), (31, 5), (31, 6), (31, 7), (34, 2), (34, 3), (34, 4)] w w12 → (In 0 1 p1) → (In 0 1001 x12_2) → (In 0 23 (fI w12 16 8)) → (fI w12 34 4 = (fI w 34 4)) → va_P D vwCl w12 H → va_D A w12 → va_S A s.heap H locs → lv_has ls 3 [(0, .ref (q 34)), (1, .int p1), (2, .int x12_2)] → W p l e R s m args below meth c H locs 0 0 Q (F0 m 12 ls []) := by
    intro N
    induction N with
    | zero => intro x12_2 w12 H locs ls hmu; exact absurd hmu (Nat.not_lt_zero _)
    | succ N ih12 =>
      intro x12_2 w12 H locs ls hmu12 hW_w12 hM_w12 i_x12_1 i_x12_2 g12_16_8 g12_34_4e hP hD hS hl
      refine lv_iload_n hx hb dX8_readsEither_12 rfl (lv_at hl 2 rfl) ?_
      refine lv_sipush (v := 1000) hx hb dX8_readsEither_13 (by decide) ?_
      refine lv_icmp_gt (tgt := 65) hx hb dX8_readsEither_16 (by decide) (fun c_1 => ?_) (fun c_1 => ?_)
      · refine lv_iconst (v := 1) hx hb dX8_readsEither_65 (by decide) ?_
        exact hret _ _ _ _ _ _ hP hD hS dX8_readsEither_66 (In_lit (n := 1) (by decide) (by decide) : In 0 1 1) ⟨hW_w12, hM_w12, (In_lit (n := 1) (by decide) (by decide) : In 0 1 1), (fun h => g12_34_4e)⟩
      · refine lv_aload_n hx hb dX8_readsEither_19 rfl (lv_at hl 0 rfl) ?_
        refine gt_X8 hx hb hts hown hK hP 34 (hW_w12.o tX_34) 0 (by decide) wd_227 rfl (hW_w12.fr tX_34 rfl) dX8_readsEither_20 ?_
        refine gt_X10 hx hb hts hown hK hP 31 (hW_w12.o tX_31) 4 (by decide) wd_195 rfl (hW_w12.fi tX_31 rfl) dX8_readsEither_23 ?_
        refine lv_sipush (v := 272) hx hb dX8_readsEither_26 (by decide) ?_
        refine lv_icmp_ne (tgt := 65) hx hb dX8_readsEither_29 (by decide) (fun c_2 => ?_) (fun c_2 => ?_)
        · refine lv_iconst (v := 1) hx hb dX8_readsEither_65 (by decide) ?_
          exact hret _ _ _ _ _ _ hP hD hS dX8_readsEither_66 (In_lit (n := 1) (by decide) (by decide) : In 0 1 1) ⟨hW_w12, hM_w12, (In_lit (n := 1) (by decide) (by decide) : In 0 1 1), (fun h => g12_34_4e)⟩
        · refine lv_aload_n hx hb dX8_readsEither_32 rfl (lv_at hl 0 rfl) ?_
          refine gt_X8 hx hb hts hown hK hP 34 (hW_w12.o tX_34) 0 (by decide) wd_227 rfl (hW_w12.fr tX_34 rfl) dX8_readsEither_33 ?_
          refine kW_v ⟨rfl, rfl⟩ hP hD hS hA (rW_V (As := []) (rest := []) hx hb hml hown hts hK hE hP hD (k_X10_step l D cI cJ cZ q bb bs 16 w12 hW_w12  _) ⟨⟨rfl, rfl⟩, rfl, rfl⟩ sv_X8_59 ⟨(by have hh := hd; have h : 3 * d + 7 ≤ R.frames := hR.1; show 1 + 1 ≤ R.frames; omega), (by have hh := hd; have h : 150 * d + 380 ≤ R.locals := hR.2; show 8 + (5 + 11) + (23) ≤ R.locals; omega)⟩ 31 10 (hW_w12.o tX_31) rfl rfl rfl hl.1 rfl (Nat.le_of_ble_eq_true rfl) dX8_readsEither_36) (fun w_3 H locs hw_w_3 hP hD hS => ?_)
          obtain ⟨hW_w_3, hs_w_3⟩ := hw_w_3
          refine lv_aload_n hx hb dX8_readsEither_39 rfl (lv_at hl 0 rfl) ?_
          refine lv_iload_n hx hb dX8_readsEither_40 rfl (lv_at hl 1 rfl) ?_
          refine kW_i ⟨rfl, rfl⟩ hP hD hS hA (rW_V (As := [.int p1]) (rest := []) hx hb hml hown hts hK hE hP hD (k_X8_readsBoth d ih l D cI cJ cZ q bb bs w_3 hW_w_3 p1 i_p1 (In_of ((hs_w_3.gI (by decide)).trans (hM_w12.2 16 8 (by decide) (by decide))) (In_of (hM_w12.2 16 8 (by decide) (by decide)).symm g12_16_8)) (by have e34_4 : (fI w_3 34 4).toInt = ((fI w 34 4) : Int32).toInt := congrArg Int32.toInt ((hs_w_3.gI (by decide)).trans g12_34_4e); have hh := hd; omega) _) ⟨⟨rfl, rfl⟩, rfl, rfl⟩ sv_X8_143 ⟨(by have hh := hd; have h : 3 * d + 7 ≤ R.frames := hR.1; show 3 * d + 6 + 1 ≤ R.frames; omega), (by have hh := hd; have h : 150 * d + 380 ≤ R.locals := hR.2; show 8 + (3 + 11) + (150 * d + 340) ≤ R.locals; omega)⟩ 34 8 (hW_w_3.o tX_34) rfl rfl rfl hl.1 rfl (Nat.le_of_ble_eq_true rfl) dX8_readsEither_41) (fun r_6 w_5 H locs hw_w_5 hP hD hS => ?_)
          obtain ⟨hW_w_5, hs_w_5, i_r_6, h_7⟩ := hw_w_5
          refine lv_if_ne (tgt := 49) hx hb dX8_readsEither_44 (by decide) (fun c_8 => ?_) (fun c_8 => ?_)
          · refine lv_aload_n hx hb dX8_readsEither_49 rfl (lv_at hl 0 rfl) ?_
            refine gt_X8 hx hb hts hown hK hP 34 (hW_w_5.o tX_34) 1 (by decide) wd_228 rfl (hW_w_5.fr tX_34 rfl) dX8_readsEither_50 ?_
            refine lv_bipush (v := 9) hx hb dX8_readsEither_53 (by decide) ?_
            refine lv_iconst (v := 0) hx hb dX8_readsEither_55 (by decide) ?_
            refine kW_v ⟨rfl, rfl⟩ hP hD hS hA (rW_V (As := [.int 9, .int 0]) (rest := []) hx hb hml hown hts hK hE hP hD (k_X1_addCode_at16 l D cI cJ cZ q bb bs 16 w_5 hW_w_5 9 0 (In_lit (n := 9) (by decide) (by decide) : In (-1) 15 9) (In_of ((hs_w_5.2 16 8 (by decide) (by decide)).trans ((hs_w_3.gI (by decide)).trans (hM_w12.2 16 8 (by decide) (by decide)))) (In_of (hM_w12.2 16 8 (by decide) (by decide)).symm g12_16_8)) (⟨(fun h => absurd h (by decide)), (fun h => absurd h (by decide)), (fun h => absurd h (by decide))⟩) _) ⟨⟨rfl, rfl⟩, rfl, rfl⟩ sv_X8_146 ⟨(by have hh := hd; have h : 3 * d + 7 ≤ R.frames := hR.1; show 0 + 1 ≤ R.frames; omega), (by have hh := hd; have h : 150 * d + 380 ≤ R.locals := hR.2; show 8 + (3 + 11) + (0) ≤ R.locals; omega)⟩ 16 1 (hW_w_5.o tX_16) rfl rfl rfl hl.1 rfl (Nat.le_of_ble_eq_true rfl) dX8_readsEither_56) (fun w_9 H locs hw_w_9 hP hD hS => ?_)
            obtain ⟨hW_w_9, hs_w_9, h_11⟩ := hw_w_9
            refine lv_iinc (v := (x12_2 + 1)) (lv' := [(2, .int (x12_2 + 1)), (0, .ref (q 34)), (1, .int p1)]) hx hb dX8_readsEither_59 hl (k := 2) rfl (rfl) (by decide) rfl (fun ls hl => ?_)
            refine lv_goto (tgt := 12) hx hb dX8_readsEither_62 (by decide) ?_
            exact ih12 (x12_2 + 1) w_9 _ _ ls (mu_inc hmu12 (R_nlt_r (In_lit (n := 1000) (by decide) (by decide) : In 1000 1000 1000) i_x12_2 c_1 (by decide) : In 0 1000 x12_2) (In_lit (n := 1) (by decide) (by decide) : In 1 1 1) (by decide)) hW_w_9 (((hM_w12.tr hs_w_3 (by decide)).tr hs_w_5 (by decide)).tr hs_w_9 (by decide)) i_p1 (In_w ((In_add (y := 1) (R_nlt_r (In_lit (n := 1000) (by decide) (by decide) : In 1000 1000 1000) i_x12_2 c_1 (by decide) : In 0 1000 x12_2) (In_lit (n := 1) (by decide) (by decide) : In 1 1 1) (by decide)) : In 1 1001 (x12_2 + 1)) (by decide) : In 0 1001 (x12_2 + 1)) (In_of ((hs_w_9.2 16 8 (by decide) (by decide)).trans ((hs_w_5.2 16 8 (by decide) (by decide)).trans ((hs_w_3.gI (by decide)).trans (hM_w12.2 16 8 (by decide) (by decide))))) (In_of (hM_w12.2 16 8 (by decide) (by decide)).symm g12_16_8)) ((hs_w_9.gI (by decide)).trans ((h_7 c_8).trans ((hs_w_3.gI (by decide)).trans g12_34_4e))) hP hD hS (lv_sub hl [1, 2, 0] rfl)
          · refine lv_iconst (v := 0) hx hb dX8_readsEither_47 (by decide) ?_
            exact hret _ _ _ _ _ _ hP hD hS dX8_readsEither_48 (In_lit (n := 0) (by decide) (by decide) : In 0 1 0) ⟨hW_w_5, ((hM_w12.tr hs_w_3 (by decide)).tr hs_w_5 (by decide)), (In_lit (n := 0) (by decide) (by decide) : In 0 1 0), (fun h => absurd rfl h)⟩
  refine lv_aload_n hx hb dX8_readsEither_0 rfl (lv_at hl 0 rfl) ?_
  refine lv_iload_n hx hb dX8_readsEither_1 rfl (lv_at hl 1 rfl) ?_
  refine kW_i ⟨rfl, rfl⟩ hP hD hS hA (rW_V (As := [.int p1]) (rest := []) hx hb hml hown hts hK hE hP hD (k_X8_readsBoth d ih l D cI cJ cZ q bb bs w hW_w p1 i_p1 hf_16_8 (by have hh := hd; omega) _) ⟨⟨rfl, rfl⟩, rfl, rfl⟩ sv_X8_143 ⟨(by have hh := hd; have h : 3 * d + 7 ≤ R.frames := hR.1; show 3 * d + 6 + 1 ≤ R.frames; omega), (by have hh := hd; have h : 150 * d + 380 ≤ R.locals := hR.2; show 8 + (3 + 11) + (150 * d + 340) ≤ R.locals; omega)⟩ 34 8 (hW_w.o tX_34) rfl rfl rfl hl.1 rfl (Nat.le_of_ble_eq_true rfl) dX8_readsEither_2) (fun r_13 w_12 H locs hw_w_12 hP hD hS => ?_)
  obtain ⟨hW_w_12, hs_w_12, i_r_13, h_14⟩ := hw_w_12
  refine lv_if_ne (tgt := 10) hx hb dX8_readsEither_5 (by decide) (fun c_15 => ?_) (fun c_15 => ?_)
  · refine lv_iconst (v := 0) hx hb dX8_readsEither_10 (by decide) ?_
    refine lv_istore_n (lv' := [(2, .int 0), (0, .ref (q 34)), (1, .int p1)]) hx hb dX8_readsEither_11 rfl hl (by decide) rfl (fun ls hl => ?_)
    exact J12 _ 0 w_12 _ _ ls (Nat.lt_succ_self _) hW_w_12 (Sm.rf.tr hs_w_12 (by decide)) i_p1 (In_lit (n := 0) (by decide) (by decide) : In 0 1001 0) (In_of (hs_w_12.2 16 8 (by decide) (by decide)) hf_16_8) (h_14 c_15) hP hD hS (lv_sub hl [1, 2, 0] rfl)
  · refine lv_iconst (v := 0) hx hb dX8_readsEither_8 (by decide) ?_
    exact hret _ _ _ _ _ _ hP hD hS dX8_readsEither_9 (In_lit (n := 0) (by decide) (by decide) : In 0 1 0) ⟨hW_w_12, (Sm.rf.tr hs_w_12 (by decide)), (In_lit (n := 0) (by decide) (by decide) : In 0 1 0), (fun h => absurd rfl h)⟩
theorem k_X8_readsEither_all : ∀ d, D_k_X8_readsEither d := by
  intro d
  induction d using Nat.strongRecOn with
  | ind d ih => exact k_X8_readsEither d ih
