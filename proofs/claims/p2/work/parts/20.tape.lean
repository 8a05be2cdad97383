set_option maxRecDepth 100000 in
set_option maxHeartbeats 8000000 in
theorem k_X10_readNumber (l : Launch) (D : va_G) (cI cJ cZ : ClassId) (q : Nat → Nat) (bb bs bp : Nat) (w : va_W) (hW_w : HT q (TX q cI cJ cZ bb bs bp) w) : Con_v l yX10_readNumber cX10_readNumber 1 none ({ frames := 0, cells := 0, slots := 0, locals := 0 }) D cI cJ cZ eW [.ref (q 31)] w (fun (w1 : va_W) => HT q (TX q cI cJ cZ bb bs bp) w1 ∧ Sm [31] [(31, 3), (31, 4), (31, 5), (31, 7)] w w1) := by
  refine eQ_v rfl (by decide) (Nat.le_of_ble_eq_true rfl) ⟨rfl, rfl⟩ ?_
  intro p e R s m args below meth c A Q hx hb hml hown hts hK hE hA hR hret hP hD hS ls hl
  have hown : s.vm.findClass RX10 = some m.cls := hown
  have hl : lv_has ls 1 [(0, .ref (q 31))] := hl
  have J5 : ∀ (N : Nat) (w5 : va_W) (H : Heap) (locs : List Loc) (ls : Array Slot), (1000 - (fI w5 31 3).toInt).toNat < N → HT q (TX q cI cJ cZ bb bs bp) w5 → Sm [31] [(31, 3), (31, 4), (31, 5), (31, 7)] w w5 → va_P D vwCl w5 H → va_D A w5 → va_S A s.heap H locs → lv_has ls 1 [(0, .ref (q 31))] → W p l e R s m args below meth c H locs 0 0 Q (F0 m 5 ls []) := by
    intro N
    induction N with
    | zero => intro w5 H locs ls hmu; exact absurd hmu (Nat.not_lt_zero _)
    | succ N ih5 =>
      intro w5 H locs ls hmu5 hW_w5 hM_w5  hP hD hS hl
      refine lv_aload_n hx hb dX10_readNumber_5 rfl (lv_at hl 0 rfl) ?_
      refine gt_X10 hx hb hts hown hK hP 31 (hW_w5.o tX_31) 3 (by decide) wd_194 rfl (hW_w5.fi tX_31 rfl) dX10_readNumber_6 ?_
      refine lv_aload_n hx hb dX10_readNumber_9 rfl (lv_at hl 0 rfl) ?_
      refine gt_X10 hx hb hts hown hK hP 31 (hW_w5.o tX_31) 1 (by decide) wd_192 rfl (hW_w5.fi tX_31 rfl) dX10_readNumber_10 ?_
      refine tov (v := (fI w 31 1)) (hM_w5.2 31 1 (by decide) (by decide)) ?_
      refine lv_icmp_ge (tgt := 110) hx hb dX10_readNumber_13 (by decide) (fun c_1 => ?_) (fun c_1 => ?_)
      · refine lv_aload_n hx hb dX10_readNumber_110 rfl (lv_at hl 0 rfl) ?_
        refine lv_sipush (v := 259) hx hb dX10_readNumber_111 (by decide) ?_
        refine pt_X10 hx hb hts hown hK hP hD hS 31 (hW_w5.o tX_31) 4 (by decide) wd_196 rfl rfl (ty := .int) (v := .int 259) (by decide +kernel) rfl rfl (hW_w5.ll tX_31 (Nat.le_of_ble_eq_true rfl)) dX10_readNumber_114 (fun H locs hP hD hS => fr_w (hW_w5.sI tX_31 rfl (In_lit (n := 259) (by decide) (by decide) : In (-2147483648) 2147483647 259)) hP hD (fun w_2 ew_2 hW_w_2 hP hD => ?_))
        exact hret _ _ _ _ _ hP hD hS dX10_readNumber_117 ⟨hW_w_2, (hM_w5.sf (hW_w5.lt tX_31) ew_2 (by decide))⟩
      · refine lv_aload_n hx hb dX10_readNumber_16 rfl (lv_at hl 0 rfl) ?_
        refine gt_X10 hx hb hts hown hK hP 31 (hW_w5.o tX_31) 0 (by decide) wd_190 rfl (hW_w5.fr tX_31 rfl) dX10_readNumber_17 ?_
        refine lv_aload_n hx hb dX10_readNumber_20 rfl (lv_at hl 0 rfl) ?_
        refine gt_X10 hx hb hts hown hK hP 31 (hW_w5.o tX_31) 3 (by decide) wd_194 rfl (hW_w5.fi tX_31 rfl) dX10_readNumber_21 ?_
        refine va_iald hx hb hK hP 32 0 (hW_w5.a tX_32) rfl (in_I (R_nle_r (hW_w.fin tX_31 rfl : In 0 1000 (fI w 31 1)) (hW_w5.fin tX_31 rfl : In 0 1000 (fI w5 31 3)) c_1 (by decide) : In 0 999 (fI w5 31 3)) (by decide)) dX10_readNumber_24 ?_
        refine lv_topi (fun v_3 ev_3 => ?_)
        refine lv_bipush (v := 48) hx hb dX10_readNumber_25 (by decide) ?_
        refine lv_icmp_lt (tgt := 110) hx hb dX10_readNumber_27 (by decide) (fun c_4 => ?_) (fun c_4 => ?_)
        · refine lv_aload_n hx hb dX10_readNumber_110 rfl (lv_at hl 0 rfl) ?_
          refine lv_sipush (v := 259) hx hb dX10_readNumber_111 (by decide) ?_
          refine pt_X10 hx hb hts hown hK hP hD hS 31 (hW_w5.o tX_31) 4 (by decide) wd_196 rfl rfl (ty := .int) (v := .int 259) (by decide +kernel) rfl rfl (hW_w5.ll tX_31 (Nat.le_of_ble_eq_true rfl)) dX10_readNumber_114 (fun H locs hP hD hS => fr_w (hW_w5.sI tX_31 rfl (In_lit (n := 259) (by decide) (by decide) : In (-2147483648) 2147483647 259)) hP hD (fun w_5 ew_5 hW_w_5 hP hD => ?_))
          exact hret _ _ _ _ _ hP hD hS dX10_readNumber_117 ⟨hW_w_5, (hM_w5.sf (hW_w5.lt tX_31) ew_5 (by decide))⟩
        · refine lv_aload_n hx hb dX10_readNumber_30 rfl (lv_at hl 0 rfl) ?_
          refine gt_X10 hx hb hts hown hK hP 31 (hW_w5.o tX_31) 0 (by decide) wd_190 rfl (hW_w5.fr tX_31 rfl) dX10_readNumber_31 ?_
          refine lv_aload_n hx hb dX10_readNumber_34 rfl (lv_at hl 0 rfl) ?_
          refine gt_X10 hx hb hts hown hK hP 31 (hW_w5.o tX_31) 3 (by decide) wd_194 rfl (hW_w5.fi tX_31 rfl) dX10_readNumber_35 ?_
          refine va_iald hx hb hK hP 32 0 (hW_w5.a tX_32) rfl (in_I (R_nle_r (hW_w.fin tX_31 rfl : In 0 1000 (fI w 31 1)) (hW_w5.fin tX_31 rfl : In 0 1000 (fI w5 31 3)) c_1 (by decide) : In 0 999 (fI w5 31 3)) (by decide)) dX10_readNumber_38 ?_
          refine tov (v := v_3) ((congrFun (hM_w5.hA (by decide)) _).trans ((congrFun (hM_w5.hA (by decide)) _).symm.trans ev_3.symm)) ?_
          refine lv_bipush (v := 57) hx hb dX10_readNumber_39 (by decide) ?_
          refine lv_icmp_gt (tgt := 110) hx hb dX10_readNumber_41 (by decide) (fun c_6 => ?_) (fun c_6 => ?_)
          · refine lv_aload_n hx hb dX10_readNumber_110 rfl (lv_at hl 0 rfl) ?_
            refine lv_sipush (v := 259) hx hb dX10_readNumber_111 (by decide) ?_
            refine pt_X10 hx hb hts hown hK hP hD hS 31 (hW_w5.o tX_31) 4 (by decide) wd_196 rfl rfl (ty := .int) (v := .int 259) (by decide +kernel) rfl rfl (hW_w5.ll tX_31 (Nat.le_of_ble_eq_true rfl)) dX10_readNumber_114 (fun H locs hP hD hS => fr_w (hW_w5.sI tX_31 rfl (In_lit (n := 259) (by decide) (by decide) : In (-2147483648) 2147483647 259)) hP hD (fun w_7 ew_7 hW_w_7 hP hD => ?_))
            exact hret _ _ _ _ _ hP hD hS dX10_readNumber_117 ⟨hW_w_7, (hM_w5.sf (hW_w5.lt tX_31) ew_7 (by decide))⟩
          · refine lv_aload_n hx hb dX10_readNumber_44 rfl (lv_at hl 0 rfl) ?_
            refine gt_X10 hx hb hts hown hK hP 31 (hW_w5.o tX_31) 3 (by decide) wd_194 rfl (hW_w5.fi tX_31 rfl) dX10_readNumber_45 ?_
            refine lv_aload_n hx hb dX10_readNumber_48 rfl (lv_at hl 0 rfl) ?_
            refine gt_X10 hx hb hts hown hK hP 31 (hW_w5.o tX_31) 5 (by decide) wd_198 rfl (hW_w5.fi tX_31 rfl) dX10_readNumber_49 ?_
            refine lv_isub hx hb dX10_readNumber_52 ?_
            refine lv_topi (fun v_8 ev_8 => ?_)
            refine lv_iconst (v := 5) hx hb dX10_readNumber_53 (by decide) ?_
            refine lv_icmp_ne (tgt := 73) hx hb dX10_readNumber_54 (by decide) (fun c_9 => ?_) (fun c_9 => ?_)
            · refine lv_aload_n hx hb dX10_readNumber_73 rfl (lv_at hl 0 rfl) ?_
              refine lv_aload_n hx hb dX10_readNumber_74 rfl (lv_at hl 0 rfl) ?_
              refine gt_X10 hx hb hts hown hK hP 31 (hW_w5.o tX_31) 7 (by decide) wd_201 rfl (hW_w5.fi tX_31 rfl) dX10_readNumber_75 ?_
              refine lv_bipush (v := 10) hx hb dX10_readNumber_78 (by decide) ?_
              refine lv_imul hx hb dX10_readNumber_80 ?_
              refine lv_topi (fun v_10 ev_10 => ?_)
              refine lv_aload_n hx hb dX10_readNumber_81 rfl (lv_at hl 0 rfl) ?_
              refine gt_X10 hx hb hts hown hK hP 31 (hW_w5.o tX_31) 0 (by decide) wd_190 rfl (hW_w5.fr tX_31 rfl) dX10_readNumber_82 ?_
              refine lv_aload_n hx hb dX10_readNumber_85 rfl (lv_at hl 0 rfl) ?_
              refine gt_X10 hx hb hts hown hK hP 31 (hW_w5.o tX_31) 3 (by decide) wd_194 rfl (hW_w5.fi tX_31 rfl) dX10_readNumber_86 ?_
              refine va_iald hx hb hK hP 32 0 (hW_w5.a tX_32) rfl (in_I (R_nle_r (hW_w.fin tX_31 rfl : In 0 1000 (fI w 31 1)) (hW_w5.fin tX_31 rfl : In 0 1000 (fI w5 31 3)) c_1 (by decide) : In 0 999 (fI w5 31 3)) (by decide)) dX10_readNumber_89 ?_
              refine tov (v := v_3) ((congrFun (hM_w5.hA (by decide)) _).trans ((congrFun (hM_w5.hA (by decide)) _).symm.trans ev_3.symm)) ?_
              refine lv_iadd hx hb dX10_readNumber_90 ?_
              refine lv_topi (fun v_11 ev_11 => ?_)
              refine lv_bipush (v := 48) hx hb dX10_readNumber_91 (by decide) ?_
              refine lv_isub hx hb dX10_readNumber_93 ?_
              refine pt_X10 hx hb hts hown hK hP hD hS 31 (hW_w5.o tX_31) 7 (by decide) wd_201 rfl rfl (ty := .int) (v := .int (v_11 - 48)) (by decide +kernel) rfl rfl (hW_w5.ll tX_31 (Nat.le_of_ble_eq_true rfl)) dX10_readNumber_94 (fun H locs hP hD hS => fr_w (hW_w5.sI tX_31 rfl (In_any _)) hP hD (fun w_12 ew_12 hW_w_12 hP hD => ?_))
              refine lv_aload_n hx hb dX10_readNumber_97 rfl (lv_at hl 0 rfl) ?_
              refine lv_dup hx hb dX10_readNumber_98 rfl ?_
              refine gt_X10 hx hb hts hown hK hP 31 (hW_w_12.o tX_31) 3 (by decide) wd_194 rfl (hW_w_12.fi tX_31 rfl) dX10_readNumber_99 ?_
              refine tov (v := (fI w5 31 3)) (fI_nej (hW_w5.lt tX_31) ew_12 (by decide)) ?_
              refine lv_iconst (v := 1) hx hb dX10_readNumber_102 (by decide) ?_
              refine lv_iadd hx hb dX10_readNumber_103 ?_
              refine pt_X10 hx hb hts hown hK hP hD hS 31 (hW_w_12.o tX_31) 3 (by decide) wd_194 rfl rfl (ty := .int) (v := .int ((fI w5 31 3) + 1)) (by decide +kernel) rfl rfl (hW_w_12.ll tX_31 (Nat.le_of_ble_eq_true rfl)) dX10_readNumber_104 (fun H locs hP hD hS => fr_w (hW_w_12.sI tX_31 rfl (In_w ((In_add (R_nle_r (hW_w.fin tX_31 rfl : In 0 1000 (fI w 31 1)) (hW_w5.fin tX_31 rfl : In 0 1000 (fI w5 31 3)) c_1 (by decide) : In 0 999 (fI w5 31 3)) (In_lit (n := 1) (by decide) (by decide) : In 1 1 1) (by decide)) : In 1 1000 ((fI w5 31 3) + 1)) (by decide) : In 0 1000 ((fI w5 31 3) + 1))) hP hD (fun w_13 ew_13 hW_w_13 hP hD => ?_))
              refine lv_goto (tgt := 5) hx hb dX10_readNumber_107 (by decide) ?_
              exact ih5 w_13 _ _ ls ((by rw [(fI_eq (hW_w_12.lt tX_31) ew_13 (hW_w_12.ll tX_31 (Nat.le_of_ble_eq_true rfl)))]; have t := t_add (R_nle_r (hW_w.fin tX_31 rfl : In 0 1000 (fI w 31 1)) (hW_w5.fin tX_31 rfl : In 0 1000 (fI w5 31 3)) c_1 (by decide) : In 0 999 (fI w5 31 3)) (In_lit (n := 1) (by decide) (by decide) : In 1 1 1) (by decide); have z := (by decide : (1 : Int32).toInt = 1); have b := ((In_add (R_nle_r (hW_w.fin tX_31 rfl : In 0 1000 (fI w 31 1)) (hW_w5.fin tX_31 rfl : In 0 1000 (fI w5 31 3)) c_1 (by decide) : In 0 999 (fI w5 31 3)) (In_lit (n := 1) (by decide) (by decide) : In 1 1 1) (by decide)) : In 1 1000 ((fI w5 31 3) + 1)); unfold In at b; omega)) hW_w_13 ((hM_w5.sf (hW_w5.lt tX_31) ew_12 (by decide)).sf (hW_w_12.lt tX_31) ew_13 (by decide))  hP hD hS (lv_sub hl [0] rfl)
            · refine lv_aload_n hx hb dX10_readNumber_57 rfl (lv_at hl 0 rfl) ?_
              refine lv_aload_n hx hb dX10_readNumber_58 rfl (lv_at hl 0 rfl) ?_
              refine gt_X10 hx hb hts hown hK hP 31 (hW_w5.o tX_31) 3 (by decide) wd_194 rfl (hW_w5.fi tX_31 rfl) dX10_readNumber_59 ?_
              refine pt_X10 hx hb hts hown hK hP hD hS 31 (hW_w5.o tX_31) 5 (by decide) wd_198 rfl rfl (ty := .int) (v := .int (fI w5 31 3)) (by decide +kernel) rfl rfl (hW_w5.ll tX_31 (Nat.le_of_ble_eq_true rfl)) dX10_readNumber_62 (fun H locs hP hD hS => fr_w (hW_w5.sI tX_31 rfl (In_w (R_nle_r (hW_w.fin tX_31 rfl : In 0 1000 (fI w 31 1)) (hW_w5.fin tX_31 rfl : In 0 1000 (fI w5 31 3)) c_1 (by decide) : In 0 999 (fI w5 31 3)) (by decide) : In (-2147483648) 2147483647 (fI w5 31 3))) hP hD (fun w_14 ew_14 hW_w_14 hP hD => ?_))
              refine lv_aload_n hx hb dX10_readNumber_65 rfl (lv_at hl 0 rfl) ?_
              refine lv_sipush (v := 257) hx hb dX10_readNumber_66 (by decide) ?_
              refine pt_X10 hx hb hts hown hK hP hD hS 31 (hW_w_14.o tX_31) 4 (by decide) wd_196 rfl rfl (ty := .int) (v := .int 257) (by decide +kernel) rfl rfl (hW_w_14.ll tX_31 (Nat.le_of_ble_eq_true rfl)) dX10_readNumber_69 (fun H locs hP hD hS => fr_w (hW_w_14.sI tX_31 rfl (In_lit (n := 257) (by decide) (by decide) : In (-2147483648) 2147483647 257)) hP hD (fun w_15 ew_15 hW_w_15 hP hD => ?_))
              exact hret _ _ _ _ _ hP hD hS dX10_readNumber_72 ⟨hW_w_15, ((hM_w5.sf (hW_w5.lt tX_31) ew_14 (by decide)).sf (hW_w_14.lt tX_31) ew_15 (by decide))⟩
  refine lv_aload_n hx hb dX10_readNumber_0 rfl (lv_at hl 0 rfl) ?_
  refine lv_iconst (v := 0) hx hb dX10_readNumber_1 (by decide) ?_
  refine pt_X10 hx hb hts hown hK hP hD hS 31 (hW_w.o tX_31) 7 (by decide) wd_201 rfl rfl (ty := .int) (v := .int 0) (by decide +kernel) rfl rfl (hW_w.ll tX_31 (Nat.le_of_ble_eq_true rfl)) dX10_readNumber_2 (fun H locs hP hD hS => fr_w (hW_w.sI tX_31 rfl (In_lit (n := 0) (by decide) (by decide) : In (-2147483648) 2147483647 0)) hP hD (fun w_16 ew_16 hW_w_16 hP hD => ?_))
  exact J5 _ w_16 _ _ ls (Nat.lt_succ_self _) hW_w_16 (Sm.rf.sf (hW_w.lt tX_31) ew_16 (by decide))  hP hD hS (lv_sub hl [0] rfl)
set_option maxRecDepth 100000 in
set_option maxHeartbeats 8000000 in
theorem k_X10_readWord (l : Launch) (D : va_G) (cI cJ cZ : ClassId) (q : Nat → Nat) (bb bs bp : Nat) (w : va_W) (hW_w : HT q (TX q cI cJ cZ bb bs bp) w) : Con_v l yX10_readWord cX10_readWord 2 none ({ frames := 0, cells := 0, slots := 0, locals := 0 }) D cI cJ cZ eW [.ref (q 31)] w (fun (w1 : va_W) => HT q (TX q cI cJ cZ bb bs bp) w1 ∧ Sm [31] [(31, 3), (31, 4), (31, 5), (31, 6)] w w1) := by
  refine eQ_v rfl (by decide) (Nat.le_of_ble_eq_true rfl) ⟨rfl, rfl⟩ ?_
  intro p e R s m args below meth c A Q hx hb hml hown hts hK hE hA hR hret hP hD hS ls hl
  have hown : s.vm.findClass RX10 = some m.cls := hown
  have hl : lv_has ls 2 [(0, .ref (q 31))] := hl
  have J127 : ∀ (N : Nat) (x127_1 : Int32) (w127 : va_W) (H : Heap) (locs : List Loc) (ls : Array Slot), (22 - x127_1.toInt).toNat < N → HT q (TX q cI cJ cZ bb bs bp) w127 → Sm [31] [(31, 3), (31, 4), (31, 5), (31, 6)] w w127 → (In 0 22 x127_1) → (fI w127 31 4 = 258) → va_P D vwCl w127 H → va_D A w127 → va_S A s.heap H locs → lv_has ls 2 [(0, .ref (q 31)), (1, .int x127_1)] → W p l e R s m args below meth c H locs 0 0 Q (F0 m 127 ls []) := by
    intro N
    induction N with
    | zero => intro x127_1 w127 H locs ls hmu; exact absurd hmu (Nat.not_lt_zero _)
    | succ N ih127 =>
      intro x127_1 w127 H locs ls hmu127 hW_w127 hM_w127 i_x127_1 g127_31_4e hP hD hS hl
      refine lv_iload_n hx hb dX10_readWord_127 rfl (lv_at hl 1 rfl) ?_
      refine lv_bipush (v := 22) hx hb dX10_readWord_128 (by decide) ?_
      refine lv_icmp_ge (tgt := 165) hx hb dX10_readWord_130 (by decide) (fun c_1 => ?_) (fun c_1 => ?_)
      · exact hret _ _ _ _ _ hP hD hS dX10_readWord_165 ⟨hW_w127, hM_w127⟩
      · refine lv_aload_n hx hb dX10_readWord_133 rfl (lv_at hl 0 rfl) ?_
        refine gt_X10 hx hb hts hown hK hP 31 (hW_w127.o tX_31) 2 (by decide) wd_193 rfl (hW_w127.fr tX_31 rfl) dX10_readWord_134 ?_
        refine lv_iload_n hx hb dX10_readWord_137 rfl (lv_at hl 1 rfl) ?_
        refine va_lald hx hb hK hP 33 1 (hW_w127.al tX_33) rfl (in_I (R_nle_r (In_lit (n := 22) (by decide) (by decide) : In 22 22 22) i_x127_1 c_1 (by decide) : In 0 21 x127_1) (by decide)) dX10_readWord_138 ?_
        refine lv_topl (fun v_2 ev_2 => ?_)
        refine lv_aload_n hx hb dX10_readWord_139 rfl (lv_at hl 0 rfl) ?_
        refine gt_X10 hx hb hts hown hK hP 31 (hW_w127.o tX_31) 6 (by decide) wd_199 rfl (hW_w127.fl tX_31 rfl) dX10_readWord_140 ?_
        refine W.lcmp hx hb dX10_readWord_143 ?_
        refine lv_topi (fun v_3 ev_3 => ?_)
        refine lv_if_ne (tgt := 159) hx hb dX10_readWord_144 (by decide) (fun c_4 => ?_) (fun c_4 => ?_)
        · refine lv_iinc (v := (x127_1 + 1)) (lv' := [(1, .int (x127_1 + 1)), (0, .ref (q 31))]) hx hb dX10_readWord_159 hl (k := 1) rfl (rfl) (by decide) rfl (fun ls hl => ?_)
          refine lv_goto (tgt := 127) hx hb dX10_readWord_162 (by decide) ?_
          exact ih127 (x127_1 + 1) w127 _ _ ls ((by have t := t_add (R_nle_r (In_lit (n := 22) (by decide) (by decide) : In 22 22 22) i_x127_1 c_1 (by decide) : In 0 21 x127_1) (In_lit (n := 1) (by decide) (by decide) : In 1 1 1) (by decide); have z := (by decide : (1 : Int32).toInt = 1); have b := ((In_add (y := 1) (R_nle_r (In_lit (n := 22) (by decide) (by decide) : In 22 22 22) i_x127_1 c_1 (by decide) : In 0 21 x127_1) (In_lit (n := 1) (by decide) (by decide) : In 1 1 1) (by decide)) : In 1 22 (x127_1 + 1)); unfold In at b; omega)) hW_w127 hM_w127 (In_w ((In_add (y := 1) (R_nle_r (In_lit (n := 22) (by decide) (by decide) : In 22 22 22) i_x127_1 c_1 (by decide) : In 0 21 x127_1) (In_lit (n := 1) (by decide) (by decide) : In 1 1 1) (by decide)) : In 1 22 (x127_1 + 1)) (by decide) : In 0 22 (x127_1 + 1)) g127_31_4e hP hD hS (lv_sub hl [1, 0] rfl)
        · refine lv_aload_n hx hb dX10_readWord_147 rfl (lv_at hl 0 rfl) ?_
          refine lv_sipush (v := 260) hx hb dX10_readWord_148 (by decide) ?_
          refine lv_iload_n hx hb dX10_readWord_151 rfl (lv_at hl 1 rfl) ?_
          refine lv_iadd hx hb dX10_readWord_152 ?_
          refine lv_iconst (v := 1) hx hb dX10_readWord_153 (by decide) ?_
          refine lv_iadd hx hb dX10_readWord_154 ?_
          refine pt_X10 hx hb hts hown hK hP hD hS 31 (hW_w127.o tX_31) 4 (by decide) wd_196 rfl rfl (ty := .int) (v := .int ((260 + x127_1) + 1)) (by decide +kernel) rfl rfl (hW_w127.ll tX_31 (Nat.le_of_ble_eq_true rfl)) dX10_readWord_155 (fun H locs hP hD hS => fr_w (hW_w127.sI tX_31 rfl (In_w ((In_add ((In_add (In_lit (n := 260) (by decide) (by decide) : In 260 260 260) (R_nle_r (In_lit (n := 22) (by decide) (by decide) : In 22 22 22) i_x127_1 c_1 (by decide) : In 0 21 x127_1) (by decide)) : In 260 281 (260 + x127_1)) (In_lit (n := 1) (by decide) (by decide) : In 1 1 1) (by decide)) : In 261 282 ((260 + x127_1) + 1)) (by decide) : In (-2147483648) 2147483647 ((260 + x127_1) + 1))) hP hD (fun w_5 ew_5 hW_w_5 hP hD => ?_))
          exact hret _ _ _ _ _ hP hD hS dX10_readWord_158 ⟨hW_w_5, (hM_w127.sf (hW_w127.lt tX_31) ew_5 (by decide))⟩
  have J118 : ∀ (w118 : va_W) (H : Heap) (locs : List Loc) (ls : Array Slot), HT q (TX q cI cJ cZ bb bs bp) w118 → Sm [31] [(31, 3), (31, 4), (31, 5), (31, 6)] w w118 → va_P D vwCl w118 H → va_D A w118 → va_S A s.heap H locs → lv_has ls 2 [(0, .ref (q 31))] → W p l e R s m args below meth c H locs 0 0 Q (F0 m 118 ls []) := by
    intro w118 H locs ls hW_w118 hM_w118  hP hD hS hl
    refine lv_aload_n hx hb dX10_readWord_118 rfl (lv_at hl 0 rfl) ?_
    refine lv_sipush (v := 258) hx hb dX10_readWord_119 (by decide) ?_
    refine pt_X10 hx hb hts hown hK hP hD hS 31 (hW_w118.o tX_31) 4 (by decide) wd_196 rfl rfl (ty := .int) (v := .int 258) (by decide +kernel) rfl rfl (hW_w118.ll tX_31 (Nat.le_of_ble_eq_true rfl)) dX10_readWord_122 (fun H locs hP hD hS => fr_w (hW_w118.sI tX_31 rfl (In_lit (n := 258) (by decide) (by decide) : In (-2147483648) 2147483647 258)) hP hD (fun w_6 ew_6 hW_w_6 hP hD => ?_))
    refine lv_iconst (v := 0) hx hb dX10_readWord_125 (by decide) ?_
    refine lv_istore_n (lv' := [(1, .int 0), (0, .ref (q 31))]) hx hb dX10_readWord_126 rfl hl (by decide) rfl (fun ls hl => ?_)
    exact J127 _ 0 w_6 _ _ ls (Nat.lt_succ_self _) hW_w_6 (hM_w118.sf (hW_w118.lt tX_31) ew_6 (by decide)) (In_lit (n := 0) (by decide) (by decide) : In 0 22 0) (fI_eq (hW_w118.lt tX_31) ew_6 (hW_w118.ll tX_31 (Nat.le_of_ble_eq_true rfl))) hP hD hS (lv_sub hl [1, 0] rfl)
  have J5 : ∀ (N : Nat) (w5 : va_W) (H : Heap) (locs : List Loc) (ls : Array Slot), (1000 - (fI w5 31 3).toInt).toNat < N → HT q (TX q cI cJ cZ bb bs bp) w5 → Sm [31] [(31, 3), (31, 4), (31, 5), (31, 6)] w w5 → va_P D vwCl w5 H → va_D A w5 → va_S A s.heap H locs → lv_has ls 2 [(0, .ref (q 31))] → W p l e R s m args below meth c H locs 0 0 Q (F0 m 5 ls []) := by
    intro N
    induction N with
    | zero => intro w5 H locs ls hmu; exact absurd hmu (Nat.not_lt_zero _)
    | succ N ih5 =>
      intro w5 H locs ls hmu5 hW_w5 hM_w5  hP hD hS hl
      refine lv_aload_n hx hb dX10_readWord_5 rfl (lv_at hl 0 rfl) ?_
      refine gt_X10 hx hb hts hown hK hP 31 (hW_w5.o tX_31) 3 (by decide) wd_194 rfl (hW_w5.fi tX_31 rfl) dX10_readWord_6 ?_
      refine lv_aload_n hx hb dX10_readWord_9 rfl (lv_at hl 0 rfl) ?_
      refine gt_X10 hx hb hts hown hK hP 31 (hW_w5.o tX_31) 1 (by decide) wd_192 rfl (hW_w5.fi tX_31 rfl) dX10_readWord_10 ?_
      refine tov (v := (fI w 31 1)) (hM_w5.2 31 1 (by decide) (by decide)) ?_
      refine lv_icmp_ge (tgt := 118) hx hb dX10_readWord_13 (by decide) (fun c_7 => ?_) (fun c_7 => ?_)
      · exact J118 w5 _ _ ls hW_w5 hM_w5  hP hD hS (lv_sub hl [0] rfl)
      · refine lv_aload_n hx hb dX10_readWord_16 rfl (lv_at hl 0 rfl) ?_
        refine gt_X10 hx hb hts hown hK hP 31 (hW_w5.o tX_31) 0 (by decide) wd_190 rfl (hW_w5.fr tX_31 rfl) dX10_readWord_17 ?_
        refine lv_aload_n hx hb dX10_readWord_20 rfl (lv_at hl 0 rfl) ?_
        refine gt_X10 hx hb hts hown hK hP 31 (hW_w5.o tX_31) 3 (by decide) wd_194 rfl (hW_w5.fi tX_31 rfl) dX10_readWord_21 ?_
        refine va_iald hx hb hK hP 32 0 (hW_w5.a tX_32) rfl (in_I (R_nle_r (hW_w.fin tX_31 rfl : In 0 1000 (fI w 31 1)) (hW_w5.fin tX_31 rfl : In 0 1000 (fI w5 31 3)) c_7 (by decide) : In 0 999 (fI w5 31 3)) (by decide)) dX10_readWord_24 ?_
        refine lv_topi (fun v_8 ev_8 => ?_)
        refine lv_bipush (v := 97) hx hb dX10_readWord_25 (by decide) ?_
        refine lv_icmp_lt (tgt := 118) hx hb dX10_readWord_27 (by decide) (fun c_9 => ?_) (fun c_9 => ?_)
        · exact J118 w5 _ _ ls hW_w5 hM_w5  hP hD hS (lv_sub hl [0] rfl)
        · refine lv_aload_n hx hb dX10_readWord_30 rfl (lv_at hl 0 rfl) ?_
          refine gt_X10 hx hb hts hown hK hP 31 (hW_w5.o tX_31) 0 (by decide) wd_190 rfl (hW_w5.fr tX_31 rfl) dX10_readWord_31 ?_
          refine lv_aload_n hx hb dX10_readWord_34 rfl (lv_at hl 0 rfl) ?_
          refine gt_X10 hx hb hts hown hK hP 31 (hW_w5.o tX_31) 3 (by decide) wd_194 rfl (hW_w5.fi tX_31 rfl) dX10_readWord_35 ?_
          refine va_iald hx hb hK hP 32 0 (hW_w5.a tX_32) rfl (in_I (R_nle_r (hW_w.fin tX_31 rfl : In 0 1000 (fI w 31 1)) (hW_w5.fin tX_31 rfl : In 0 1000 (fI w5 31 3)) c_7 (by decide) : In 0 999 (fI w5 31 3)) (by decide)) dX10_readWord_38 ?_
          refine tov (v := v_8) ((congrFun (hM_w5.hA (by decide)) _).trans ((congrFun (hM_w5.hA (by decide)) _).symm.trans ev_8.symm)) ?_
          refine lv_bipush (v := 122) hx hb dX10_readWord_39 (by decide) ?_
          refine lv_icmp_gt (tgt := 118) hx hb dX10_readWord_41 (by decide) (fun c_10 => ?_) (fun c_10 => ?_)
          · exact J118 w5 _ _ ls hW_w5 hM_w5  hP hD hS (lv_sub hl [0] rfl)
          · refine lv_aload_n hx hb dX10_readWord_44 rfl (lv_at hl 0 rfl) ?_
            refine gt_X10 hx hb hts hown hK hP 31 (hW_w5.o tX_31) 3 (by decide) wd_194 rfl (hW_w5.fi tX_31 rfl) dX10_readWord_45 ?_
            refine lv_aload_n hx hb dX10_readWord_48 rfl (lv_at hl 0 rfl) ?_
            refine gt_X10 hx hb hts hown hK hP 31 (hW_w5.o tX_31) 5 (by decide) wd_198 rfl (hW_w5.fi tX_31 rfl) dX10_readWord_49 ?_
            refine lv_isub hx hb dX10_readWord_52 ?_
            refine lv_topi (fun v_11 ev_11 => ?_)
            refine lv_istore_n (lv' := [(1, .int v_11), (0, .ref (q 31))]) hx hb dX10_readWord_53 rfl hl (by decide) rfl (fun ls hl => ?_)
            refine lv_iload_n hx hb dX10_readWord_54 rfl (lv_at hl 0 rfl) ?_
            refine lv_bipush (v := 8) hx hb dX10_readWord_55 (by decide) ?_
            refine lv_icmp_ne (tgt := 76) hx hb dX10_readWord_57 (by decide) (fun c_12 => ?_) (fun c_12 => ?_)
            · refine lv_aload_n hx hb dX10_readWord_76 rfl (lv_at hl 1 rfl) ?_
              refine lv_dup hx hb dX10_readWord_77 rfl ?_
              refine gt_X10 hx hb hts hown hK hP 31 (hW_w5.o tX_31) 6 (by decide) wd_199 rfl (hW_w5.fl tX_31 rfl) dX10_readWord_78 ?_
              refine lv_aload_n hx hb dX10_readWord_81 rfl (lv_at hl 1 rfl) ?_
              refine gt_X10 hx hb hts hown hK hP 31 (hW_w5.o tX_31) 0 (by decide) wd_190 rfl (hW_w5.fr tX_31 rfl) dX10_readWord_82 ?_
              refine lv_aload_n hx hb dX10_readWord_85 rfl (lv_at hl 1 rfl) ?_
              refine gt_X10 hx hb hts hown hK hP 31 (hW_w5.o tX_31) 3 (by decide) wd_194 rfl (hW_w5.fi tX_31 rfl) dX10_readWord_86 ?_
              refine va_iald hx hb hK hP 32 0 (hW_w5.a tX_32) rfl (in_I (R_nle_r (hW_w.fin tX_31 rfl : In 0 1000 (fI w 31 1)) (hW_w5.fin tX_31 rfl : In 0 1000 (fI w5 31 3)) c_7 (by decide) : In 0 999 (fI w5 31 3)) (by decide)) dX10_readWord_89 ?_
              refine tov (v := v_8) ((congrFun (hM_w5.hA (by decide)) _).trans ((congrFun (hM_w5.hA (by decide)) _).symm.trans ev_8.symm)) ?_
              refine lv_bipush (v := 96) hx hb dX10_readWord_90 (by decide) ?_
              refine lv_isub hx hb dX10_readWord_92 ?_
              refine lv_i2l hx hb dX10_readWord_93 rfl ?_
              refine lv_topl (fun v_13 ev_13 => ?_)
              refine lv_bipush (v := 35) hx hb dX10_readWord_94 (by decide) ?_
              refine lv_iconst (v := 5) hx hb dX10_readWord_96 (by decide) ?_
              refine lv_iload_n hx hb dX10_readWord_97 rfl (lv_at hl 0 rfl) ?_
              refine lv_imul hx hb dX10_readWord_98 ?_
              refine lv_topi (fun v_14 ev_14 => ?_)
              refine lv_isub hx hb dX10_readWord_99 ?_
              refine lv_lshl hx hb dX10_readWord_100 rfl ?_
              refine lv_topl (fun v_15 ev_15 => ?_)
              refine lv_lor hx hb dX10_readWord_101 ?_
              refine lv_topl (fun v_16 ev_16 => ?_)
              refine pt_X10 hx hb hts hown hK hP hD hS 31 (hW_w5.o tX_31) 6 (by decide) wd_199 rfl rfl (ty := .long) (v := .long v_16) (by decide +kernel) rfl rfl (hW_w5.ll tX_31 (Nat.le_of_ble_eq_true rfl)) dX10_readWord_102 (fun H locs hP hD hS => fr_w (hW_w5.sL tX_31 rfl) hP hD (fun w_17 ew_17 hW_w_17 hP hD => ?_))
              refine lv_aload_n hx hb dX10_readWord_105 rfl (lv_at hl 1 rfl) ?_
              refine lv_dup hx hb dX10_readWord_106 rfl ?_
              refine gt_X10 hx hb hts hown hK hP 31 (hW_w_17.o tX_31) 3 (by decide) wd_194 rfl (hW_w_17.fi tX_31 rfl) dX10_readWord_107 ?_
              refine tov (v := (fI w5 31 3)) (fI_nej (hW_w5.lt tX_31) ew_17 (by decide)) ?_
              refine lv_iconst (v := 1) hx hb dX10_readWord_110 (by decide) ?_
              refine lv_iadd hx hb dX10_readWord_111 ?_
              refine pt_X10 hx hb hts hown hK hP hD hS 31 (hW_w_17.o tX_31) 3 (by decide) wd_194 rfl rfl (ty := .int) (v := .int ((fI w5 31 3) + 1)) (by decide +kernel) rfl rfl (hW_w_17.ll tX_31 (Nat.le_of_ble_eq_true rfl)) dX10_readWord_112 (fun H locs hP hD hS => fr_w (hW_w_17.sI tX_31 rfl (In_w ((In_add (R_nle_r (hW_w.fin tX_31 rfl : In 0 1000 (fI w 31 1)) (hW_w5.fin tX_31 rfl : In 0 1000 (fI w5 31 3)) c_7 (by decide) : In 0 999 (fI w5 31 3)) (In_lit (n := 1) (by decide) (by decide) : In 1 1 1) (by decide)) : In 1 1000 ((fI w5 31 3) + 1)) (by decide) : In 0 1000 ((fI w5 31 3) + 1))) hP hD (fun w_18 ew_18 hW_w_18 hP hD => ?_))
              refine lv_goto (tgt := 5) hx hb dX10_readWord_115 (by decide) ?_
              exact ih5 w_18 _ _ ls ((by rw [(fI_eq (hW_w_17.lt tX_31) ew_18 (hW_w_17.ll tX_31 (Nat.le_of_ble_eq_true rfl)))]; have t := t_add (R_nle_r (hW_w.fin tX_31 rfl : In 0 1000 (fI w 31 1)) (hW_w5.fin tX_31 rfl : In 0 1000 (fI w5 31 3)) c_7 (by decide) : In 0 999 (fI w5 31 3)) (In_lit (n := 1) (by decide) (by decide) : In 1 1 1) (by decide); have z := (by decide : (1 : Int32).toInt = 1); have b := ((In_add (R_nle_r (hW_w.fin tX_31 rfl : In 0 1000 (fI w 31 1)) (hW_w5.fin tX_31 rfl : In 0 1000 (fI w5 31 3)) c_7 (by decide) : In 0 999 (fI w5 31 3)) (In_lit (n := 1) (by decide) (by decide) : In 1 1 1) (by decide)) : In 1 1000 ((fI w5 31 3) + 1)); unfold In at b; omega)) hW_w_18 ((hM_w5.sf (hW_w5.lt tX_31) ew_17 (by decide)).sf (hW_w_17.lt tX_31) ew_18 (by decide))  hP hD hS (lv_sub hl [1] rfl)
            · refine lv_aload_n hx hb dX10_readWord_60 rfl (lv_at hl 1 rfl) ?_
              refine lv_aload_n hx hb dX10_readWord_61 rfl (lv_at hl 1 rfl) ?_
              refine gt_X10 hx hb hts hown hK hP 31 (hW_w5.o tX_31) 3 (by decide) wd_194 rfl (hW_w5.fi tX_31 rfl) dX10_readWord_62 ?_
              refine pt_X10 hx hb hts hown hK hP hD hS 31 (hW_w5.o tX_31) 5 (by decide) wd_198 rfl rfl (ty := .int) (v := .int (fI w5 31 3)) (by decide +kernel) rfl rfl (hW_w5.ll tX_31 (Nat.le_of_ble_eq_true rfl)) dX10_readWord_65 (fun H locs hP hD hS => fr_w (hW_w5.sI tX_31 rfl (In_w (R_nle_r (hW_w.fin tX_31 rfl : In 0 1000 (fI w 31 1)) (hW_w5.fin tX_31 rfl : In 0 1000 (fI w5 31 3)) c_7 (by decide) : In 0 999 (fI w5 31 3)) (by decide) : In (-2147483648) 2147483647 (fI w5 31 3))) hP hD (fun w_19 ew_19 hW_w_19 hP hD => ?_))
              refine lv_aload_n hx hb dX10_readWord_68 rfl (lv_at hl 1 rfl) ?_
              refine lv_sipush (v := 257) hx hb dX10_readWord_69 (by decide) ?_
              refine pt_X10 hx hb hts hown hK hP hD hS 31 (hW_w_19.o tX_31) 4 (by decide) wd_196 rfl rfl (ty := .int) (v := .int 257) (by decide +kernel) rfl rfl (hW_w_19.ll tX_31 (Nat.le_of_ble_eq_true rfl)) dX10_readWord_72 (fun H locs hP hD hS => fr_w (hW_w_19.sI tX_31 rfl (In_lit (n := 257) (by decide) (by decide) : In (-2147483648) 2147483647 257)) hP hD (fun w_20 ew_20 hW_w_20 hP hD => ?_))
              exact hret _ _ _ _ _ hP hD hS dX10_readWord_75 ⟨hW_w_20, ((hM_w5.sf (hW_w5.lt tX_31) ew_19 (by decide)).sf (hW_w_19.lt tX_31) ew_20 (by decide))⟩
  refine lv_aload_n hx hb dX10_readWord_0 rfl (lv_at hl 0 rfl) ?_
  refine lv_lconst (v := 0) hx hb dX10_readWord_1 (by decide) ?_
  refine pt_X10 hx hb hts hown hK hP hD hS 31 (hW_w.o tX_31) 6 (by decide) wd_199 rfl rfl (ty := .long) (v := .long 0) (by decide +kernel) rfl rfl (hW_w.ll tX_31 (Nat.le_of_ble_eq_true rfl)) dX10_readWord_2 (fun H locs hP hD hS => fr_w (hW_w.sL tX_31 rfl) hP hD (fun w_21 ew_21 hW_w_21 hP hD => ?_))
  exact J5 _ w_21 _ _ ls (Nat.lt_succ_self _) hW_w_21 (Sm.rf.sf (hW_w.lt tX_31) ew_21 (by decide))  hP hD hS (lv_sub hl [0] rfl)
set_option maxRecDepth 100000 in
set_option maxHeartbeats 8000000 in
theorem k_X10_step (l : Launch) (D : va_G) (cI cJ cZ : ClassId) (q : Nat → Nat) (bb bs bp : Nat) (w : va_W) (hW_w : HT q (TX q cI cJ cZ bb bs bp) w) : Con_v l yX10_step cX10_step 5 none ({ frames := 1, cells := 0, slots := 0, locals := 23 }) D cI cJ cZ eW [.ref (q 31)] w (fun (w1 : va_W) => HT q (TX q cI cJ cZ bb bs bp) w1 ∧ Sm [31] [(31, 3), (31, 4), (31, 5), (31, 6), (31, 7)] w w1) := by
  refine eQ_v rfl (by decide) (Nat.le_of_ble_eq_true rfl) ⟨rfl, rfl⟩ ?_
  intro p e R s m args below meth c A Q hx hb hml hown hts hK hE hA hR hret hP hD hS ls hl
  have hown : s.vm.findClass RX10 = some m.cls := hown
  have hl : lv_has ls 5 [(0, .ref (q 31))] := hl
  have J213 : ∀ (x213_1 : Int32) (x213_2 : Int32) (x213_3 : Int32) (x213_4 : Int32) (w213 : va_W) (H : Heap) (locs : List Loc) (ls : Array Slot), HT q (TX q cI cJ cZ bb bs bp) w213 → Sm [31] [(31, 3), (31, 4), (31, 5), (31, 6), (31, 7)] w w213 → (In 1 1 x213_1) → (In 0 1000 x213_2) → (In 0 1 x213_3) → (In 0 1 x213_4) → va_P D vwCl w213 H → va_D A w213 → va_S A s.heap H locs → lv_has ls 5 [(0, .ref (q 31)), (1, .int x213_1), (2, .int x213_2), (3, .int x213_3), (4, .int x213_4)] → W p l e R s m args below meth c H locs 0 0 Q (F0 m 213 ls []) := by
    intro x213_1 x213_2 x213_3 x213_4 w213 H locs ls hW_w213 hM_w213 i_x213_1 i_x213_2 i_x213_3 i_x213_4 hP hD hS hl
    refine lv_aload_n hx hb dX10_step_213 rfl (lv_at hl 0 rfl) ?_
    refine gt_X10 hx hb hts hown hK hP 31 (hW_w213.o tX_31) 5 (by decide) wd_198 rfl (hW_w213.fi tX_31 rfl) dX10_step_214 ?_
    refine lv_iload_n hx hb dX10_step_217 rfl (lv_at hl 2 rfl) ?_
    refine lv_icmp_ne (tgt := 228) hx hb dX10_step_218 (by decide) (fun c_1 => ?_) (fun c_1 => ?_)
    · exact hret _ _ _ _ _ hP hD hS dX10_step_228 ⟨hW_w213, hM_w213⟩
    · refine lv_aload_n hx hb dX10_step_221 rfl (lv_at hl 0 rfl) ?_
      refine lv_sipush (v := 257) hx hb dX10_step_222 (by decide) ?_
      refine pt_X10 hx hb hts hown hK hP hD hS 31 (hW_w213.o tX_31) 4 (by decide) wd_196 rfl rfl (ty := .int) (v := .int 257) (by decide +kernel) rfl rfl (hW_w213.ll tX_31 (Nat.le_of_ble_eq_true rfl)) dX10_step_225 (fun H locs hP hD hS => fr_w (hW_w213.sI tX_31 rfl (In_lit (n := 257) (by decide) (by decide) : In (-2147483648) 2147483647 257)) hP hD (fun w_2 ew_2 hW_w_2 hP hD => ?_))
      exact hret _ _ _ _ _ hP hD hS dX10_step_228 ⟨hW_w_2, (hM_w213.sf (hW_w213.lt tX_31) ew_2 (by decide))⟩
  have J200 : ∀ (x200_1 : Int32) (x200_2 : Int32) (x200_3 : Int32) (x200_4 : Int32) (w200 : va_W) (H : Heap) (locs : List Loc) (ls : Array Slot), HT q (TX q cI cJ cZ bb bs bp) w200 → Sm [31] [(31, 3), (31, 4), (31, 5), (31, 6), (31, 7)] w w200 → (In 0 1 x200_1) → (In 0 1000 x200_2) → (In 0 1 x200_3) → (In 0 1 x200_4) → va_P D vwCl w200 H → va_D A w200 → va_S A s.heap H locs → lv_has ls 5 [(0, .ref (q 31)), (1, .int x200_1), (2, .int x200_2), (3, .int x200_3), (4, .int x200_4)] → W p l e R s m args below meth c H locs 0 0 Q (F0 m 200 ls []) := by
    intro x200_1 x200_2 x200_3 x200_4 w200 H locs ls hW_w200 hM_w200 i_x200_1 i_x200_2 i_x200_3 i_x200_4 hP hD hS hl
    refine lv_iload_n hx hb dX10_step_200 rfl (lv_at hl 1 rfl) ?_
    refine lv_if_eq (tgt := 228) hx hb dX10_step_201 (by decide) (fun c_3 => ?_) (fun c_3 => ?_)
    · exact hret _ _ _ _ _ hP hD hS dX10_step_228 ⟨hW_w200, hM_w200⟩
    · refine lv_iload_n hx hb dX10_step_204 rfl (lv_at hl 3 rfl) ?_
      refine lv_if_ne (tgt := 213) hx hb dX10_step_205 (by decide) (fun c_4 => ?_) (fun c_4 => ?_)
      · exact J213 x200_1 x200_2 x200_3 x200_4 w200 _ _ ls hW_w200 hM_w200 (R_ne_l i_x200_1 (In_lit (n := 0) (by decide) (by decide) : In 0 0 0) c_3 (by decide) : In 1 1 x200_1) i_x200_2 (In_w (R_ne_l i_x200_3 (In_lit (n := 0) (by decide) (by decide) : In 0 0 0) c_4 (by decide) : In 1 1 x200_3) (by decide) : In 0 1 x200_3) i_x200_4 hP hD hS (lv_sub hl [0, 1, 2, 3, 4] rfl)
      · refine lv_iload hx hb dX10_step_208 (lv_at hl 4 rfl) ?_
        refine lv_if_eq (tgt := 228) hx hb dX10_step_210 (by decide) (fun c_5 => ?_) (fun c_5 => ?_)
        · exact hret _ _ _ _ _ hP hD hS dX10_step_228 ⟨hW_w200, hM_w200⟩
        · exact J213 x200_1 x200_2 x200_3 x200_4 w200 _ _ ls hW_w200 hM_w200 (R_ne_l i_x200_1 (In_lit (n := 0) (by decide) (by decide) : In 0 0 0) c_3 (by decide) : In 1 1 x200_1) i_x200_2 (In_w (R_eq_l i_x200_3 (In_lit (n := 0) (by decide) (by decide) : In 0 0 0) c_4 (by decide) : In 0 0 x200_3) (by decide) : In 0 1 x200_3) (In_w (R_ne_l i_x200_4 (In_lit (n := 0) (by decide) (by decide) : In 0 0 0) c_5 (by decide) : In 1 1 x200_4) (by decide) : In 0 1 x200_4) hP hD hS (lv_sub hl [0, 1, 2, 3, 4] rfl)
  have J158 : ∀ (x158_1 : Int32) (x158_2 : Int32) (x158_3 : Int32) (y158_0 : Int32) (w158 : va_W) (H : Heap) (locs : List Loc) (ls : Array Slot), HT q (TX q cI cJ cZ bb bs bp) w158 → Sm [31] [(31, 3), (31, 4), (31, 5), (31, 6), (31, 7)] w w158 → (In 0 1 x158_1) → (In 0 1000 x158_2) → (In 0 1 x158_3) → (In 0 1 y158_0) → (In 0 256 (fI w158 31 4)) → (In 0 1000 (fI w158 31 5)) → va_P D vwCl w158 H → va_D A w158 → va_S A s.heap H locs → lv_has ls 5 [(0, .ref (q 31)), (1, .int x158_1), (2, .int x158_2), (3, .int x158_3)] → W p l e R s m args below meth c H locs 0 0 Q (F0 m 158 ls [.int y158_0]) := by
    intro x158_1 x158_2 x158_3 y158_0 w158 H locs ls hW_w158 hM_w158 i_x158_1 i_x158_2 i_x158_3 i_y158_0 g158_31_4 g158_31_5 hP hD hS hl
    refine lv_istore (lv' := [(4, .int y158_0), (0, .ref (q 31)), (1, .int x158_1), (2, .int x158_2), (3, .int x158_3)]) hx hb dX10_step_158 hl (by decide) rfl (fun ls hl => ?_)
    refine lv_iload_n hx hb dX10_step_160 rfl (lv_at hl 4 rfl) ?_
    refine lv_if_eq (tgt := 171) hx hb dX10_step_161 (by decide) (fun c_6 => ?_) (fun c_6 => ?_)
    · refine lv_iload hx hb dX10_step_171 (lv_at hl 0 rfl) ?_
      refine lv_if_eq (tgt := 183) hx hb dX10_step_173 (by decide) (fun c_7 => ?_) (fun c_7 => ?_)
      · refine lv_aload_n hx hb dX10_step_183 rfl (lv_at hl 1 rfl) ?_
        refine lv_aload_n hx hb dX10_step_184 rfl (lv_at hl 1 rfl) ?_
        refine gt_X10 hx hb hts hown hK hP 31 (hW_w158.o tX_31) 3 (by decide) wd_194 rfl (hW_w158.fi tX_31 rfl) dX10_step_185 ?_
        refine lv_iconst (v := 1) hx hb dX10_step_188 (by decide) ?_
        refine lv_iadd hx hb dX10_step_189 ?_
        refine lv_aload_n hx hb dX10_step_190 rfl (lv_at hl 1 rfl) ?_
        refine gt_X10 hx hb hts hown hK hP 31 (hW_w158.o tX_31) 1 (by decide) wd_192 rfl (hW_w158.fi tX_31 rfl) dX10_step_191 ?_
        refine tov (v := (fI w 31 1)) (hM_w158.2 31 1 (by decide) (by decide)) ?_
        refine va_mmin hx hb (by rw [hml]; exact hl.1.symm) hown (hts _ wd_756) (hts _ wd_757) (hts _ wd_18) (hts _ wd_758) (Nat.le_trans (by decide) hR.1) (Nat.le_trans (by decide) hR.2) (Nat.zero_le _) (Nat.zero_le _) dX10_step_194 ?_
        refine lv_topi (fun v_8 ev_8 => ?_)
        refine pt_X10 hx hb hts hown hK hP hD hS 31 (hW_w158.o tX_31) 3 (by decide) wd_194 rfl rfl (ty := .int) (v := .int v_8) (by decide +kernel) rfl rfl (hW_w158.ll tX_31 (Nat.le_of_ble_eq_true rfl)) dX10_step_197 (fun H locs hP hD hS => fr_w (hW_w158.sI tX_31 rfl (In_of ev_8 (In_min ((In_add (hW_w158.fin tX_31 rfl : In 0 1000 (fI w158 31 3)) (In_lit (n := 1) (by decide) (by decide) : In 1 1 1) (by decide)) : In 1 1001 ((fI w158 31 3) + 1)) (hW_w.fin tX_31 rfl : In 0 1000 (fI w 31 1)) (by decide)) : In 0 1000 v_8)) hP hD (fun w_9 ew_9 hW_w_9 hP hD => ?_))
        exact J200 x158_1 x158_2 x158_3 y158_0 w_9 _ _ ls hW_w_9 (hM_w158.sf (hW_w158.lt tX_31) ew_9 (by decide)) i_x158_1 i_x158_2 (In_w (R_eq_l i_x158_3 (In_lit (n := 0) (by decide) (by decide) : In 0 0 0) c_6 (by decide) : In 0 0 x158_3) (by decide) : In 0 1 x158_3) (In_w (R_eq_l i_y158_0 (In_lit (n := 0) (by decide) (by decide) : In 0 0 0) c_7 (by decide) : In 0 0 y158_0) (by decide) : In 0 1 y158_0) hP hD hS (lv_sub hl [1, 2, 3, 4, 0] rfl)
      · refine lv_aload_n hx hb dX10_step_176 rfl (lv_at hl 1 rfl) ?_
        refine kW_v ⟨rfl, rfl⟩ hP hD hS hA (rW_V (As := []) (rest := []) hx hb hml hown hts hK hE hP hD (k_X10_readNumber l D cI cJ cZ q bb bs bp w158 hW_w158  _) ⟨⟨rfl, rfl⟩, rfl, rfl⟩ sv_X10_49 ⟨(Nat.le_trans (by decide) hR.1), (Nat.le_trans (by decide) hR.2)⟩ 31 10 (hW_w158.o tX_31) rfl rfl rfl hl.1 rfl (Nat.le_of_ble_eq_true rfl) dX10_step_177) (fun w_10 H locs hw_w_10 hP hD hS => ?_)
        obtain ⟨hW_w_10, hs_w_10⟩ := hw_w_10
        refine lv_goto (tgt := 200) hx hb dX10_step_180 (by decide) ?_
        exact J200 x158_1 x158_2 x158_3 y158_0 w_10 _ _ ls hW_w_10 (hM_w158.tr hs_w_10 (by decide)) i_x158_1 i_x158_2 (In_w (R_eq_l i_x158_3 (In_lit (n := 0) (by decide) (by decide) : In 0 0 0) c_6 (by decide) : In 0 0 x158_3) (by decide) : In 0 1 x158_3) (In_w (R_ne_l i_y158_0 (In_lit (n := 0) (by decide) (by decide) : In 0 0 0) c_7 (by decide) : In 1 1 y158_0) (by decide) : In 0 1 y158_0) hP hD hS (lv_sub hl [1, 2, 3, 4, 0] rfl)
    · refine lv_aload_n hx hb dX10_step_164 rfl (lv_at hl 1 rfl) ?_
      refine kW_v ⟨rfl, rfl⟩ hP hD hS hA (rW_V (As := []) (rest := []) hx hb hml hown hts hK hE hP hD (k_X10_readWord l D cI cJ cZ q bb bs bp w158 hW_w158  _) ⟨⟨rfl, rfl⟩, rfl, rfl⟩ sv_X10_46 ⟨(Nat.le_trans (by decide) hR.1), (Nat.le_trans (by decide) hR.2)⟩ 31 10 (hW_w158.o tX_31) rfl rfl rfl hl.1 rfl (Nat.le_of_ble_eq_true rfl) dX10_step_165) (fun w_12 H locs hw_w_12 hP hD hS => ?_)
      obtain ⟨hW_w_12, hs_w_12⟩ := hw_w_12
      refine lv_goto (tgt := 200) hx hb dX10_step_168 (by decide) ?_
      exact J200 x158_1 x158_2 x158_3 y158_0 w_12 _ _ ls hW_w_12 (hM_w158.tr hs_w_12 (by decide)) i_x158_1 i_x158_2 (In_w (R_ne_l i_x158_3 (In_lit (n := 0) (by decide) (by decide) : In 0 0 0) c_6 (by decide) : In 1 1 x158_3) (by decide) : In 0 1 x158_3) i_y158_0 hP hD hS (lv_sub hl [1, 2, 3, 4, 0] rfl)
  have J157 : ∀ (x157_1 : Int32) (x157_2 : Int32) (x157_3 : Int32) (w157 : va_W) (H : Heap) (locs : List Loc) (ls : Array Slot), HT q (TX q cI cJ cZ bb bs bp) w157 → Sm [31] [(31, 3), (31, 4), (31, 5), (31, 6), (31, 7)] w w157 → (In 0 1 x157_1) → (In 0 1000 x157_2) → (In 0 1 x157_3) → (In 0 256 (fI w157 31 4)) → (In 0 1000 (fI w157 31 5)) → va_P D vwCl w157 H → va_D A w157 → va_S A s.heap H locs → lv_has ls 5 [(0, .ref (q 31)), (1, .int x157_1), (2, .int x157_2), (3, .int x157_3)] → W p l e R s m args below meth c H locs 0 0 Q (F0 m 157 ls []) := by
    intro x157_1 x157_2 x157_3 w157 H locs ls hW_w157 hM_w157 i_x157_1 i_x157_2 i_x157_3 g157_31_4 g157_31_5 hP hD hS hl
    refine lv_iconst (v := 0) hx hb dX10_step_157 (by decide) ?_
    exact J158 x157_1 x157_2 x157_3 0 w157 _ _ ls hW_w157 hM_w157 i_x157_1 i_x157_2 i_x157_3 (In_lit (n := 0) (by decide) (by decide) : In 0 1 0) g157_31_4 g157_31_5 hP hD hS (lv_sub hl [0, 1, 2, 3] rfl)
  have J134 : ∀ (x134_1 : Int32) (x134_2 : Int32) (y134_0 : Int32) (w134 : va_W) (H : Heap) (locs : List Loc) (ls : Array Slot), HT q (TX q cI cJ cZ bb bs bp) w134 → Sm [31] [(31, 3), (31, 4), (31, 5), (31, 6), (31, 7)] w w134 → (In 0 1 x134_1) → (In 0 1000 x134_2) → (In 0 1 y134_0) → (In 0 256 (fI w134 31 4)) → (In 0 1000 (fI w134 31 5)) → va_P D vwCl w134 H → va_D A w134 → va_S A s.heap H locs → lv_has ls 5 [(0, .ref (q 31)), (1, .int x134_1), (2, .int x134_2)] → W p l e R s m args below meth c H locs 0 0 Q (F0 m 134 ls [.int y134_0]) := by
    intro x134_1 x134_2 y134_0 w134 H locs ls hW_w134 hM_w134 i_x134_1 i_x134_2 i_y134_0 g134_31_4 g134_31_5 hP hD hS hl
    refine lv_istore_n (lv' := [(3, .int y134_0), (0, .ref (q 31)), (1, .int x134_1), (2, .int x134_2)]) hx hb dX10_step_134 rfl hl (by decide) rfl (fun ls hl => ?_)
    refine lv_aload_n hx hb dX10_step_135 rfl (lv_at hl 1 rfl) ?_
    refine gt_X10 hx hb hts hown hK hP 31 (hW_w134.o tX_31) 4 (by decide) wd_196 rfl (hW_w134.fi tX_31 rfl) dX10_step_136 ?_
    refine lv_bipush (v := 48) hx hb dX10_step_139 (by decide) ?_
    refine lv_icmp_lt (tgt := 157) hx hb dX10_step_141 (by decide) (fun c_14 => ?_) (fun c_14 => ?_)
    · exact J157 x134_1 x134_2 y134_0 w134 _ _ ls hW_w134 hM_w134 i_x134_1 i_x134_2 i_y134_0 (In_w (R_lt_l g134_31_4 (In_lit (n := 48) (by decide) (by decide) : In 48 48 48) c_14 (by decide) : In 0 47 (fI w134 31 4)) (by decide) : In 0 256 (fI w134 31 4)) g134_31_5 hP hD hS (lv_sub hl [1, 2, 3, 0] rfl)
    · refine lv_aload_n hx hb dX10_step_144 rfl (lv_at hl 1 rfl) ?_
      refine gt_X10 hx hb hts hown hK hP 31 (hW_w134.o tX_31) 4 (by decide) wd_196 rfl (hW_w134.fi tX_31 rfl) dX10_step_145 ?_
      refine lv_bipush (v := 57) hx hb dX10_step_148 (by decide) ?_
      refine lv_icmp_gt (tgt := 157) hx hb dX10_step_150 (by decide) (fun c_15 => ?_) (fun c_15 => ?_)
      · exact J157 x134_1 x134_2 y134_0 w134 _ _ ls hW_w134 hM_w134 i_x134_1 i_x134_2 i_y134_0 (In_w (R_lt_r (In_lit (n := 57) (by decide) (by decide) : In 57 57 57) (R_nlt_l g134_31_4 (In_lit (n := 48) (by decide) (by decide) : In 48 48 48) c_14 (by decide) : In 48 256 (fI w134 31 4)) c_15 (by decide) : In 58 256 (fI w134 31 4)) (by decide) : In 0 256 (fI w134 31 4)) g134_31_5 hP hD hS (lv_sub hl [1, 2, 3, 0] rfl)
      · refine lv_iconst (v := 1) hx hb dX10_step_153 (by decide) ?_
        refine lv_goto (tgt := 158) hx hb dX10_step_154 (by decide) ?_
        exact J158 x134_1 x134_2 y134_0 1 w134 _ _ ls hW_w134 hM_w134 i_x134_1 i_x134_2 i_y134_0 (In_lit (n := 1) (by decide) (by decide) : In 0 1 1) (In_w (R_nlt_r (In_lit (n := 57) (by decide) (by decide) : In 57 57 57) (R_nlt_l g134_31_4 (In_lit (n := 48) (by decide) (by decide) : In 48 48 48) c_14 (by decide) : In 48 256 (fI w134 31 4)) c_15 (by decide) : In 48 57 (fI w134 31 4)) (by decide) : In 0 256 (fI w134 31 4)) g134_31_5 hP hD hS (lv_sub hl [1, 2, 3, 0] rfl)
  have J133 : ∀ (x133_1 : Int32) (x133_2 : Int32) (w133 : va_W) (H : Heap) (locs : List Loc) (ls : Array Slot), HT q (TX q cI cJ cZ bb bs bp) w133 → Sm [31] [(31, 3), (31, 4), (31, 5), (31, 6), (31, 7)] w w133 → (In 0 1 x133_1) → (In 0 1000 x133_2) → (In 0 256 (fI w133 31 4)) → (In 0 1000 (fI w133 31 5)) → va_P D vwCl w133 H → va_D A w133 → va_S A s.heap H locs → lv_has ls 5 [(0, .ref (q 31)), (1, .int x133_1), (2, .int x133_2)] → W p l e R s m args below meth c H locs 0 0 Q (F0 m 133 ls []) := by
    intro x133_1 x133_2 w133 H locs ls hW_w133 hM_w133 i_x133_1 i_x133_2 g133_31_4 g133_31_5 hP hD hS hl
    refine lv_iconst (v := 0) hx hb dX10_step_133 (by decide) ?_
    exact J134 x133_1 x133_2 0 w133 _ _ ls hW_w133 hM_w133 i_x133_1 i_x133_2 (In_lit (n := 0) (by decide) (by decide) : In 0 1 0) g133_31_4 g133_31_5 hP hD hS (lv_sub hl [0, 1, 2] rfl)
  have J108 : ∀ (x108_1 : Int32) (x108_2 : Int32) (y108_0 : Int32) (w108 : va_W) (H : Heap) (locs : List Loc) (ls : Array Slot), HT q (TX q cI cJ cZ bb bs bp) w108 → Sm [31] [(31, 3), (31, 4), (31, 5), (31, 6), (31, 7)] w w108 → (In 0 1 x108_1) → (In 0 1000 x108_2) → (In 0 256 y108_0) → (fI w108 31 4 = (fI w 31 4)) → (In 0 1000 (fI w108 31 5)) → va_P D vwCl w108 H → va_D A w108 → va_S A s.heap H locs → lv_has ls 5 [(0, .ref (q 31)), (1, .int x108_1), (2, .int x108_2)] → W p l e R s m args below meth c H locs 0 0 Q (F0 m 108 ls [.int y108_0, .ref (q 31)]) := by
    intro x108_1 x108_2 y108_0 w108 H locs ls hW_w108 hM_w108 i_x108_1 i_x108_2 i_y108_0 g108_31_4e g108_31_5 hP hD hS hl
    refine pt_X10 hx hb hts hown hK hP hD hS 31 (hW_w108.o tX_31) 4 (by decide) wd_196 rfl rfl (ty := .int) (v := .int y108_0) (by decide +kernel) rfl rfl (hW_w108.ll tX_31 (Nat.le_of_ble_eq_true rfl)) dX10_step_108 (fun H locs hP hD hS => fr_w (hW_w108.sI tX_31 rfl (In_w i_y108_0 (by decide) : In (-2147483648) 2147483647 y108_0)) hP hD (fun w_16 ew_16 hW_w_16 hP hD => ?_))
    refine lv_aload_n hx hb dX10_step_111 rfl (lv_at hl 0 rfl) ?_
    refine gt_X10 hx hb hts hown hK hP 31 (hW_w_16.o tX_31) 4 (by decide) wd_196 rfl (hW_w_16.fi tX_31 rfl) dX10_step_112 ?_
    refine tov (v := y108_0) (fI_eq (hW_w108.lt tX_31) ew_16 (hW_w108.ll tX_31 (Nat.le_of_ble_eq_true rfl))) ?_
    refine lv_bipush (v := 97) hx hb dX10_step_115 (by decide) ?_
    refine lv_icmp_lt (tgt := 133) hx hb dX10_step_117 (by decide) (fun c_17 => ?_) (fun c_17 => ?_)
    · exact J133 x108_1 x108_2 w_16 _ _ ls hW_w_16 (hM_w108.sf (hW_w108.lt tX_31) ew_16 (by decide)) i_x108_1 i_x108_2 (In_of (fI_eq (hW_w108.lt tX_31) ew_16 (hW_w108.ll tX_31 (Nat.le_of_ble_eq_true rfl))) (In_w (R_lt_l i_y108_0 (In_lit (n := 97) (by decide) (by decide) : In 97 97 97) c_17 (by decide) : In 0 96 y108_0) (by decide) : In 0 256 y108_0)) (In_of (fI_nej (hW_w108.lt tX_31) ew_16 (by decide)) g108_31_5) hP hD hS (lv_sub hl [0, 1, 2] rfl)
    · refine lv_aload_n hx hb dX10_step_120 rfl (lv_at hl 0 rfl) ?_
      refine gt_X10 hx hb hts hown hK hP 31 (hW_w_16.o tX_31) 4 (by decide) wd_196 rfl (hW_w_16.fi tX_31 rfl) dX10_step_121 ?_
      refine tov (v := y108_0) (fI_eq (hW_w108.lt tX_31) ew_16 (hW_w108.ll tX_31 (Nat.le_of_ble_eq_true rfl))) ?_
      refine lv_bipush (v := 122) hx hb dX10_step_124 (by decide) ?_
      refine lv_icmp_gt (tgt := 133) hx hb dX10_step_126 (by decide) (fun c_18 => ?_) (fun c_18 => ?_)
      · exact J133 x108_1 x108_2 w_16 _ _ ls hW_w_16 (hM_w108.sf (hW_w108.lt tX_31) ew_16 (by decide)) i_x108_1 i_x108_2 (In_of (fI_eq (hW_w108.lt tX_31) ew_16 (hW_w108.ll tX_31 (Nat.le_of_ble_eq_true rfl))) (In_w (R_lt_r (In_lit (n := 122) (by decide) (by decide) : In 122 122 122) (R_nlt_l i_y108_0 (In_lit (n := 97) (by decide) (by decide) : In 97 97 97) c_17 (by decide) : In 97 256 y108_0) c_18 (by decide) : In 123 256 y108_0) (by decide) : In 0 256 y108_0)) (In_of (fI_nej (hW_w108.lt tX_31) ew_16 (by decide)) g108_31_5) hP hD hS (lv_sub hl [0, 1, 2] rfl)
      · refine lv_iconst (v := 1) hx hb dX10_step_129 (by decide) ?_
        refine lv_goto (tgt := 134) hx hb dX10_step_130 (by decide) ?_
        exact J134 x108_1 x108_2 1 w_16 _ _ ls hW_w_16 (hM_w108.sf (hW_w108.lt tX_31) ew_16 (by decide)) i_x108_1 i_x108_2 (In_lit (n := 1) (by decide) (by decide) : In 0 1 1) (In_of (fI_eq (hW_w108.lt tX_31) ew_16 (hW_w108.ll tX_31 (Nat.le_of_ble_eq_true rfl))) (In_w (R_nlt_r (In_lit (n := 122) (by decide) (by decide) : In 122 122 122) (R_nlt_l i_y108_0 (In_lit (n := 97) (by decide) (by decide) : In 97 97 97) c_17 (by decide) : In 97 256 y108_0) c_18 (by decide) : In 97 122 y108_0) (by decide) : In 0 256 y108_0)) (In_of (fI_nej (hW_w108.lt tX_31) ew_16 (by decide)) g108_31_5) hP hD hS (lv_sub hl [0, 1, 2] rfl)
  have J73 : ∀ (x73_1 : Int32) (x73_2 : Int32) (w73 : va_W) (H : Heap) (locs : List Loc) (ls : Array Slot), HT q (TX q cI cJ cZ bb bs bp) w73 → Sm [31] [(31, 3), (31, 4), (31, 5), (31, 6), (31, 7)] w w73 → (In 0 1 x73_1) → (In 0 1000 x73_2) → (fI w73 31 4 = (fI w 31 4)) → va_P D vwCl w73 H → va_D A w73 → va_S A s.heap H locs → lv_has ls 5 [(0, .ref (q 31)), (1, .int x73_1), (2, .int x73_2)] → W p l e R s m args below meth c H locs 0 0 Q (F0 m 73 ls []) := by
    intro x73_1 x73_2 w73 H locs ls hW_w73 hM_w73 i_x73_1 i_x73_2 g73_31_4e hP hD hS hl
    refine lv_aload_n hx hb dX10_step_73 rfl (lv_at hl 0 rfl) ?_
    refine lv_aload_n hx hb dX10_step_74 rfl (lv_at hl 0 rfl) ?_
    refine gt_X10 hx hb hts hown hK hP 31 (hW_w73.o tX_31) 3 (by decide) wd_194 rfl (hW_w73.fi tX_31 rfl) dX10_step_75 ?_
    refine pt_X10 hx hb hts hown hK hP hD hS 31 (hW_w73.o tX_31) 5 (by decide) wd_198 rfl rfl (ty := .int) (v := .int (fI w73 31 3)) (by decide +kernel) rfl rfl (hW_w73.ll tX_31 (Nat.le_of_ble_eq_true rfl)) dX10_step_78 (fun H locs hP hD hS => fr_w (hW_w73.sI tX_31 rfl (In_w (hW_w73.fin tX_31 rfl : In 0 1000 (fI w73 31 3)) (by decide) : In (-2147483648) 2147483647 (fI w73 31 3))) hP hD (fun w_19 ew_19 hW_w_19 hP hD => ?_))
    refine lv_aload_n hx hb dX10_step_81 rfl (lv_at hl 0 rfl) ?_
    refine lv_aload_n hx hb dX10_step_82 rfl (lv_at hl 0 rfl) ?_
    refine gt_X10 hx hb hts hown hK hP 31 (hW_w_19.o tX_31) 3 (by decide) wd_194 rfl (hW_w_19.fi tX_31 rfl) dX10_step_83 ?_
    refine tov (v := (fI w73 31 3)) (fI_nej (hW_w73.lt tX_31) ew_19 (by decide)) ?_
    refine lv_aload_n hx hb dX10_step_86 rfl (lv_at hl 0 rfl) ?_
    refine gt_X10 hx hb hts hown hK hP 31 (hW_w_19.o tX_31) 1 (by decide) wd_192 rfl (hW_w_19.fi tX_31 rfl) dX10_step_87 ?_
    refine tov (v := (fI w 31 1)) ((fI_nej (hW_w73.lt tX_31) ew_19 (by decide)).trans (hM_w73.2 31 1 (by decide) (by decide))) ?_
    refine lv_icmp_ge (tgt := 105) hx hb dX10_step_90 (by decide) (fun c_20 => ?_) (fun c_20 => ?_)
    · refine lv_sipush (v := 256) hx hb dX10_step_105 (by decide) ?_
      exact J108 x73_1 x73_2 256 w_19 _ _ ls hW_w_19 (hM_w73.sf (hW_w73.lt tX_31) ew_19 (by decide)) i_x73_1 i_x73_2 (In_lit (n := 256) (by decide) (by decide) : In 0 256 256) ((fI_nej (hW_w73.lt tX_31) ew_19 (by decide)).trans g73_31_4e) (In_of (fI_eq (hW_w73.lt tX_31) ew_19 (hW_w73.ll tX_31 (Nat.le_of_ble_eq_true rfl))) (hW_w73.fin tX_31 rfl : In 0 1000 (fI w73 31 3))) hP hD hS (lv_sub hl [0, 1, 2] rfl)
    · refine lv_aload_n hx hb dX10_step_93 rfl (lv_at hl 0 rfl) ?_
      refine gt_X10 hx hb hts hown hK hP 31 (hW_w_19.o tX_31) 0 (by decide) wd_190 rfl (hW_w_19.fr tX_31 rfl) dX10_step_94 ?_
      refine lv_aload_n hx hb dX10_step_97 rfl (lv_at hl 0 rfl) ?_
      refine gt_X10 hx hb hts hown hK hP 31 (hW_w_19.o tX_31) 3 (by decide) wd_194 rfl (hW_w_19.fi tX_31 rfl) dX10_step_98 ?_
      refine tov (v := (fI w73 31 3)) (fI_nej (hW_w73.lt tX_31) ew_19 (by decide)) ?_
      refine va_iald hx hb hK hP 32 0 (hW_w_19.a tX_32) rfl (in_I (R_nle_r (hW_w.fin tX_31 rfl : In 0 1000 (fI w 31 1)) (hW_w73.fin tX_31 rfl : In 0 1000 (fI w73 31 3)) c_20 (by decide) : In 0 999 (fI w73 31 3)) (by decide)) dX10_step_101 ?_
      refine lv_topi (fun v_21 ev_21 => ?_)
      refine lv_goto (tgt := 108) hx hb dX10_step_102 (by decide) ?_
      exact J108 x73_1 x73_2 v_21 w_19 _ _ ls hW_w_19 (hM_w73.sf (hW_w73.lt tX_31) ew_19 (by decide)) i_x73_1 i_x73_2 (In_w (In_of ev_21 (hW_w_19.ap tX_32 _) : In 0 255 v_21) (by decide) : In 0 256 v_21) ((fI_nej (hW_w73.lt tX_31) ew_19 (by decide)).trans g73_31_4e) (In_of (fI_eq (hW_w73.lt tX_31) ew_19 (hW_w73.ll tX_31 (Nat.le_of_ble_eq_true rfl))) (In_w (R_nle_r (hW_w.fin tX_31 rfl : In 0 1000 (fI w 31 1)) (hW_w73.fin tX_31 rfl : In 0 1000 (fI w73 31 3)) c_20 (by decide) : In 0 999 (fI w73 31 3)) (by decide) : In 0 1000 (fI w73 31 3))) hP hD hS (lv_sub hl [0, 1, 2] rfl)
  have J21 : ∀ (N : Nat) (x21_1 : Int32) (x21_2 : Int32) (w21 : va_W) (H : Heap) (locs : List Loc) (ls : Array Slot), (1000 - (fI w21 31 3).toInt).toNat < N → HT q (TX q cI cJ cZ bb bs bp) w21 → Sm [31] [(31, 3), (31, 4), (31, 5), (31, 6), (31, 7)] w w21 → (In 0 1 x21_1) → (In 0 1000 x21_2) → (fI w21 31 4 = (fI w 31 4)) → va_P D vwCl w21 H → va_D A w21 → va_S A s.heap H locs → lv_has ls 5 [(0, .ref (q 31)), (1, .int x21_1), (2, .int x21_2)] → W p l e R s m args below meth c H locs 0 0 Q (F0 m 21 ls []) := by
    intro N
    induction N with
    | zero => intro x21_1 x21_2 w21 H locs ls hmu; exact absurd hmu (Nat.not_lt_zero _)
    | succ N ih21 =>
      intro x21_1 x21_2 w21 H locs ls hmu21 hW_w21 hM_w21 i_x21_1 i_x21_2 g21_31_4e hP hD hS hl
      have J60 : ∀ (w60 : va_W) (H : Heap) (locs : List Loc) (ls : Array Slot), HT q (TX q cI cJ cZ bb bs bp) w60 → Sm [31] [(31, 3), (31, 4), (31, 5), (31, 6), (31, 7)] w w60 → (In 0 1 x21_1) → (In 0 1000 x21_2) → (In 1 1000 (fI w60 31 1)) → (fI w60 31 3 = (fI w21 31 3)) → (In 0 999 (fI w21 31 3)) → (fI w60 31 4 = (fI w 31 4)) → va_P D vwCl w60 H → va_D A w60 → va_S A s.heap H locs → lv_has ls 5 [(0, .ref (q 31)), (1, .int x21_1), (2, .int x21_2)] → W p l e R s m args below meth c H locs 0 0 Q (F0 m 60 ls []) := by
        intro w60 H locs ls hW_w60 hM_w60 i_x60_1 i_x60_2 g60_31_1 g60_31_3e g60_31_3 g60_31_4e hP hD hS hl
        refine lv_aload_n hx hb dX10_step_60 rfl (lv_at hl 0 rfl) ?_
        refine lv_dup hx hb dX10_step_61 rfl ?_
        refine gt_X10 hx hb hts hown hK hP 31 (hW_w60.o tX_31) 3 (by decide) wd_194 rfl (hW_w60.fi tX_31 rfl) dX10_step_62 ?_
        refine tov (v := (fI w21 31 3)) g60_31_3e ?_
        refine lv_iconst (v := 1) hx hb dX10_step_65 (by decide) ?_
        refine lv_iadd hx hb dX10_step_66 ?_
        refine pt_X10 hx hb hts hown hK hP hD hS 31 (hW_w60.o tX_31) 3 (by decide) wd_194 rfl rfl (ty := .int) (v := .int ((fI w21 31 3) + 1)) (by decide +kernel) rfl rfl (hW_w60.ll tX_31 (Nat.le_of_ble_eq_true rfl)) dX10_step_67 (fun H locs hP hD hS => fr_w (hW_w60.sI tX_31 rfl (In_w ((In_add g60_31_3 (In_lit (n := 1) (by decide) (by decide) : In 1 1 1) (by decide)) : In 1 1000 ((fI w21 31 3) + 1)) (by decide) : In 0 1000 ((fI w21 31 3) + 1))) hP hD (fun w_22 ew_22 hW_w_22 hP hD => ?_))
        refine lv_goto (tgt := 21) hx hb dX10_step_70 (by decide) ?_
        exact ih21 x21_1 x21_2 w_22 _ _ ls ((by rw [(fI_eq (hW_w60.lt tX_31) ew_22 (hW_w60.ll tX_31 (Nat.le_of_ble_eq_true rfl)))]; have t := t_add g60_31_3 (In_lit (n := 1) (by decide) (by decide) : In 1 1 1) (by decide); have z := (by decide : (1 : Int32).toInt = 1); have b := ((In_add g60_31_3 (In_lit (n := 1) (by decide) (by decide) : In 1 1 1) (by decide)) : In 1 1000 ((fI w21 31 3) + 1)); unfold In at b; omega)) hW_w_22 (hM_w60.sf (hW_w60.lt tX_31) ew_22 (by decide)) i_x21_1 i_x21_2 ((fI_nej (hW_w60.lt tX_31) ew_22 (by decide)).trans g60_31_4e) hP hD hS (lv_sub hl [0, 1, 2] rfl)
      refine lv_aload_n hx hb dX10_step_21 rfl (lv_at hl 0 rfl) ?_
      refine gt_X10 hx hb hts hown hK hP 31 (hW_w21.o tX_31) 3 (by decide) wd_194 rfl (hW_w21.fi tX_31 rfl) dX10_step_22 ?_
      refine lv_aload_n hx hb dX10_step_25 rfl (lv_at hl 0 rfl) ?_
      refine gt_X10 hx hb hts hown hK hP 31 (hW_w21.o tX_31) 1 (by decide) wd_192 rfl (hW_w21.fi tX_31 rfl) dX10_step_26 ?_
      refine tov (v := (fI w 31 1)) (hM_w21.2 31 1 (by decide) (by decide)) ?_
      refine lv_icmp_ge (tgt := 73) hx hb dX10_step_29 (by decide) (fun c_23 => ?_) (fun c_23 => ?_)
      · exact J73 x21_1 x21_2 w21 _ _ ls hW_w21 hM_w21 i_x21_1 i_x21_2 g21_31_4e hP hD hS (lv_sub hl [0, 1, 2] rfl)
      · refine lv_aload_n hx hb dX10_step_32 rfl (lv_at hl 0 rfl) ?_
        refine gt_X10 hx hb hts hown hK hP 31 (hW_w21.o tX_31) 0 (by decide) wd_190 rfl (hW_w21.fr tX_31 rfl) dX10_step_33 ?_
        refine lv_aload_n hx hb dX10_step_36 rfl (lv_at hl 0 rfl) ?_
        refine gt_X10 hx hb hts hown hK hP 31 (hW_w21.o tX_31) 3 (by decide) wd_194 rfl (hW_w21.fi tX_31 rfl) dX10_step_37 ?_
        refine va_iald hx hb hK hP 32 0 (hW_w21.a tX_32) rfl (in_I (R_nle_r (hW_w.fin tX_31 rfl : In 0 1000 (fI w 31 1)) (hW_w21.fin tX_31 rfl : In 0 1000 (fI w21 31 3)) c_23 (by decide) : In 0 999 (fI w21 31 3)) (by decide)) dX10_step_40 ?_
        refine lv_topi (fun v_24 ev_24 => ?_)
        refine lv_bipush (v := 10) hx hb dX10_step_41 (by decide) ?_
        refine lv_icmp_eq (tgt := 60) hx hb dX10_step_43 (by decide) (fun c_25 => ?_) (fun c_25 => ?_)
        · exact J60 w21 _ _ ls hW_w21 hM_w21 i_x21_1 i_x21_2 (In_of (hM_w21.2 31 1 (by decide) (by decide)) (R_nle_l (hW_w.fin tX_31 rfl : In 0 1000 (fI w 31 1)) (hW_w21.fin tX_31 rfl : In 0 1000 (fI w21 31 3)) c_23 (by decide) : In 1 1000 (fI w 31 1))) rfl (R_nle_r (hW_w.fin tX_31 rfl : In 0 1000 (fI w 31 1)) (hW_w21.fin tX_31 rfl : In 0 1000 (fI w21 31 3)) c_23 (by decide) : In 0 999 (fI w21 31 3)) g21_31_4e hP hD hS (lv_sub hl [0, 1, 2] rfl)
        · refine lv_aload_n hx hb dX10_step_46 rfl (lv_at hl 0 rfl) ?_
          refine gt_X10 hx hb hts hown hK hP 31 (hW_w21.o tX_31) 0 (by decide) wd_190 rfl (hW_w21.fr tX_31 rfl) dX10_step_47 ?_
          refine lv_aload_n hx hb dX10_step_50 rfl (lv_at hl 0 rfl) ?_
          refine gt_X10 hx hb hts hown hK hP 31 (hW_w21.o tX_31) 3 (by decide) wd_194 rfl (hW_w21.fi tX_31 rfl) dX10_step_51 ?_
          refine va_iald hx hb hK hP 32 0 (hW_w21.a tX_32) rfl (in_I (R_nle_r (hW_w.fin tX_31 rfl : In 0 1000 (fI w 31 1)) (hW_w21.fin tX_31 rfl : In 0 1000 (fI w21 31 3)) c_23 (by decide) : In 0 999 (fI w21 31 3)) (by decide)) dX10_step_54 ?_
          refine tov (v := v_24) ((congrFun (hM_w21.hA (by decide)) _).trans ((congrFun (hM_w21.hA (by decide)) _).symm.trans ev_24.symm)) ?_
          refine lv_bipush (v := 32) hx hb dX10_step_55 (by decide) ?_
          refine lv_icmp_ne (tgt := 73) hx hb dX10_step_57 (by decide) (fun c_26 => ?_) (fun c_26 => ?_)
          · exact J73 x21_1 x21_2 w21 _ _ ls hW_w21 hM_w21 i_x21_1 i_x21_2 g21_31_4e hP hD hS (lv_sub hl [0, 1, 2] rfl)
          · exact J60 w21 _ _ ls hW_w21 hM_w21 i_x21_1 i_x21_2 (In_of (hM_w21.2 31 1 (by decide) (by decide)) (R_nle_l (hW_w.fin tX_31 rfl : In 0 1000 (fI w 31 1)) (hW_w21.fin tX_31 rfl : In 0 1000 (fI w21 31 3)) c_23 (by decide) : In 1 1000 (fI w 31 1))) rfl (R_nle_r (hW_w.fin tX_31 rfl : In 0 1000 (fI w 31 1)) (hW_w21.fin tX_31 rfl : In 0 1000 (fI w21 31 3)) c_23 (by decide) : In 0 999 (fI w21 31 3)) g21_31_4e hP hD hS (lv_sub hl [0, 1, 2] rfl)
  have J15 : ∀ (y15_0 : Int32) (w15 : va_W) (H : Heap) (locs : List Loc) (ls : Array Slot), HT q (TX q cI cJ cZ bb bs bp) w15 → Sm [31] [(31, 3), (31, 4), (31, 5), (31, 6), (31, 7)] w w15 → (In 0 1 y15_0) → (fI w15 31 4 = (fI w 31 4)) → va_P D vwCl w15 H → va_D A w15 → va_S A s.heap H locs → lv_has ls 5 [(0, .ref (q 31))] → W p l e R s m args below meth c H locs 0 0 Q (F0 m 15 ls [.int y15_0]) := by
    intro y15_0 w15 H locs ls hW_w15 hM_w15 i_y15_0 g15_31_4e hP hD hS hl
    refine lv_istore_n (lv' := [(1, .int y15_0), (0, .ref (q 31))]) hx hb dX10_step_15 rfl hl (by decide) rfl (fun ls hl => ?_)
    refine lv_aload_n hx hb dX10_step_16 rfl (lv_at hl 1 rfl) ?_
    refine gt_X10 hx hb hts hown hK hP 31 (hW_w15.o tX_31) 3 (by decide) wd_194 rfl (hW_w15.fi tX_31 rfl) dX10_step_17 ?_
    refine lv_istore_n (lv' := [(2, .int (fI w15 31 3)), (1, .int y15_0), (0, .ref (q 31))]) hx hb dX10_step_20 rfl hl (by decide) rfl (fun ls hl => ?_)
    exact J21 _ y15_0 (fI w15 31 3) w15 _ _ ls (Nat.lt_succ_self _) hW_w15 hM_w15 i_y15_0 (hW_w15.fin tX_31 rfl : In 0 1000 (fI w15 31 3)) g15_31_4e hP hD hS (lv_sub hl [2, 1, 0] rfl)
  refine lv_aload_n hx hb dX10_step_0 rfl (lv_at hl 0 rfl) ?_
  refine gt_X10 hx hb hts hown hK hP 31 (hW_w.o tX_31) 4 (by decide) wd_196 rfl (hW_w.fi tX_31 rfl) dX10_step_1 ?_
  refine lv_sipush (v := 258) hx hb dX10_step_4 (by decide) ?_
  refine lv_icmp_lt (tgt := 14) hx hb dX10_step_7 (by decide) (fun c_27 => ?_) (fun c_27 => ?_)
  · refine lv_iconst (v := 0) hx hb dX10_step_14 (by decide) ?_
    exact J15 0 w _ _ ls hW_w Sm.rf (In_lit (n := 0) (by decide) (by decide) : In 0 1 0) rfl hP hD hS (lv_sub hl [0] rfl)
  · refine lv_iconst (v := 1) hx hb dX10_step_10 (by decide) ?_
    refine lv_goto (tgt := 15) hx hb dX10_step_11 (by decide) ?_
    exact J15 1 w _ _ ls hW_w Sm.rf (In_lit (n := 1) (by decide) (by decide) : In 0 1 1) rfl hP hD hS (lv_sub hl [0] rfl)
set_option maxRecDepth 100000 in
set_option maxHeartbeats 8000000 in
theorem k_X10_rewind (l : Launch) (D : va_G) (cI cJ cZ : ClassId) (q : Nat → Nat) (bb bs bp : Nat) (w : va_W) (hW_w : HT q (TX q cI cJ cZ bb bs bp) w) : Con_v l yX10_rewind cX10_rewind 1 none ({ frames := 2, cells := 0, slots := 0, locals := 47 }) D cI cJ cZ eW [.ref (q 31)] w (fun (w1 : va_W) => HT q (TX q cI cJ cZ bb bs bp) w1 ∧ Sm [31] [(31, 3), (31, 4), (31, 5), (31, 6), (31, 7)] w w1) := by
  refine eQ_v rfl (by decide) (Nat.le_of_ble_eq_true rfl) ⟨rfl, rfl⟩ ?_
  intro p e R s m args below meth c A Q hx hb hml hown hts hK hE hA hR hret hP hD hS ls hl
  have hown : s.vm.findClass RX10 = some m.cls := hown
  have hl : lv_has ls 1 [(0, .ref (q 31))] := hl
  refine lv_aload_n hx hb dX10_rewind_0 rfl (lv_at hl 0 rfl) ?_
  refine lv_iconst (v := 0) hx hb dX10_rewind_1 (by decide) ?_
  refine pt_X10 hx hb hts hown hK hP hD hS 31 (hW_w.o tX_31) 3 (by decide) wd_194 rfl rfl (ty := .int) (v := .int 0) (by decide +kernel) rfl rfl (hW_w.ll tX_31 (Nat.le_of_ble_eq_true rfl)) dX10_rewind_2 (fun H locs hP hD hS => fr_w (hW_w.sI tX_31 rfl (In_lit (n := 0) (by decide) (by decide) : In 0 1000 0)) hP hD (fun w_1 ew_1 hW_w_1 hP hD => ?_))
  refine lv_aload_n hx hb dX10_rewind_5 rfl (lv_at hl 0 rfl) ?_
  refine lv_sipush (v := 256) hx hb dX10_rewind_6 (by decide) ?_
  refine pt_X10 hx hb hts hown hK hP hD hS 31 (hW_w_1.o tX_31) 4 (by decide) wd_196 rfl rfl (ty := .int) (v := .int 256) (by decide +kernel) rfl rfl (hW_w_1.ll tX_31 (Nat.le_of_ble_eq_true rfl)) dX10_rewind_9 (fun H locs hP hD hS => fr_w (hW_w_1.sI tX_31 rfl (In_lit (n := 256) (by decide) (by decide) : In (-2147483648) 2147483647 256)) hP hD (fun w_2 ew_2 hW_w_2 hP hD => ?_))
  refine lv_aload_n hx hb dX10_rewind_12 rfl (lv_at hl 0 rfl) ?_
  refine kW_v ⟨rfl, rfl⟩ hP hD hS hA (rW_V (As := []) (rest := []) hx hb hml hown hts hK hE hP hD (k_X10_step l D cI cJ cZ q bb bs bp w_2 hW_w_2  _) ⟨⟨rfl, rfl⟩, rfl, rfl⟩ sv_X10_40 ⟨(Nat.le_trans (by decide) hR.1), (Nat.le_trans (by decide) hR.2)⟩ 31 10 (hW_w_2.o tX_31) rfl rfl rfl hl.1 rfl (Nat.le_of_ble_eq_true rfl) dX10_rewind_13) (fun w_3 H locs hw_w_3 hP hD hS => ?_)
  obtain ⟨hW_w_3, hs_w_3⟩ := hw_w_3
  exact hret _ _ _ _ _ hP hD hS dX10_rewind_16 ⟨hW_w_3, (((Sm.rf.sf (hW_w.lt tX_31) ew_1 (by decide)).sf (hW_w_1.lt tX_31) ew_2 (by decide)).tr hs_w_3 (by decide))⟩
set_option maxRecDepth 100000 in
set_option maxHeartbeats 8000000 in
theorem k_X10_readWishes_41 (l : Launch) (D : va_G) (cI cJ cZ : ClassId) (q : Nat → Nat) (bb bs bp : Nat) (w : va_W) (hW_w : HT q (TX q cI cJ cZ bb bs bp) w) : Con_i l yX10_readWishes cX10_readWishes 3 (some .int) ({ frames := 3, cells := 0, slots := 0, locals := 67 }) D cI cJ cZ eW [.ref (q 31), .ref (q 41)] w (fun (r : Int32) (w1 : va_W) => HT q (TX q cI cJ cZ bb bs bp) w1 ∧ Sm [31, 41] [(31, 3), (31, 4), (31, 5), (31, 6), (31, 7)] w w1 ∧ In (-1) 3 r) := by
  refine eQ_i rfl (by decide) (Nat.le_of_ble_eq_true rfl) ⟨rfl, rfl⟩ ?_
  intro p e R s m args below meth c A Q hx hb hml hown hts hK hE hA hR hret hP hD hS ls hl
  have hown : s.vm.findClass RX10 = some m.cls := hown
  have hl : lv_has ls 3 [(0, .ref (q 31)), (1, .ref (q 41))] := hl
  have J6 : ∀ (N : Nat) (x6_2 : Int32) (w6 : va_W) (H : Heap) (locs : List Loc) (ls : Array Slot), (3 - x6_2.toInt).toNat < N → HT q (TX q cI cJ cZ bb bs bp) w6 → Sm [31, 41] [(31, 3), (31, 4), (31, 5), (31, 6), (31, 7)] w w6 → (In 0 3 x6_2) → va_P D vwCl w6 H → va_D A w6 → va_S A s.heap H locs → lv_has ls 3 [(0, .ref (q 31)), (1, .ref (q 41)), (2, .int x6_2)] → W p l e R s m args below meth c H locs 0 0 Q (F0 m 6 ls []) := by
    intro N
    induction N with
    | zero => intro x6_2 w6 H locs ls hmu; exact absurd hmu (Nat.not_lt_zero _)
    | succ N ih6 =>
      intro x6_2 w6 H locs ls hmu6 hW_w6 hM_w6 i_x6_2 hP hD hS hl
      refine lv_iload_n hx hb dX10_readWishes_6 rfl (lv_at hl 2 rfl) ?_
      refine lv_iconst (v := 3) hx hb dX10_readWishes_7 (by decide) ?_
      refine lv_icmp_ge (tgt := 54) hx hb dX10_readWishes_8 (by decide) (fun c_1 => ?_) (fun c_1 => ?_)
      · refine lv_aload_n hx hb dX10_readWishes_54 rfl (lv_at hl 0 rfl) ?_
        refine gt_X10 hx hb hts hown hK hP 31 (hW_w6.o tX_31) 4 (by decide) wd_196 rfl (hW_w6.fi tX_31 rfl) dX10_readWishes_55 ?_
        refine lv_sipush (v := 256) hx hb dX10_readWishes_58 (by decide) ?_
        refine lv_icmp_ne (tgt := 68) hx hb dX10_readWishes_61 (by decide) (fun c_2 => ?_) (fun c_2 => ?_)
        · refine lv_iconst (v := (-1)) hx hb dX10_readWishes_68 (by decide) ?_
          exact hret _ _ _ _ _ _ hP hD hS dX10_readWishes_69 ⟨hW_w6, hM_w6, (In_lit (n := (-1)) (by decide) (by decide) : In (-1) 3 (-1))⟩
        · refine lv_iconst (v := 3) hx hb dX10_readWishes_64 (by decide) ?_
          refine lv_goto (tgt := 69) hx hb dX10_readWishes_65 (by decide) ?_
          exact hret _ _ _ _ _ _ hP hD hS dX10_readWishes_69 ⟨hW_w6, hM_w6, (In_lit (n := 3) (by decide) (by decide) : In (-1) 3 3)⟩
      · refine lv_aload_n hx hb dX10_readWishes_11 rfl (lv_at hl 0 rfl) ?_
        refine gt_X10 hx hb hts hown hK hP 31 (hW_w6.o tX_31) 4 (by decide) wd_196 rfl (hW_w6.fi tX_31 rfl) dX10_readWishes_12 ?_
        refine lv_sipush (v := 258) hx hb dX10_readWishes_15 (by decide) ?_
        refine lv_icmp_eq (tgt := 37) hx hb dX10_readWishes_18 (by decide) (fun c_3 => ?_) (fun c_3 => ?_)
        · refine lv_aload_n hx hb dX10_readWishes_37 rfl (lv_at hl 1 rfl) ?_
          refine lv_iload_n hx hb dX10_readWishes_38 rfl (lv_at hl 2 rfl) ?_
          refine lv_aload_n hx hb dX10_readWishes_39 rfl (lv_at hl 0 rfl) ?_
          refine gt_X10 hx hb hts hown hK hP 31 (hW_w6.o tX_31) 6 (by decide) wd_199 rfl (hW_w6.fl tX_31 rfl) dX10_readWishes_40 ?_
          refine va_last hx hb hK hP hD hS 41 1 (hW_w6.al tX_41) rfl (in_I (R_nle_r (In_lit (n := 3) (by decide) (by decide) : In 3 3 3) i_x6_2 c_1 (by decide) : In 0 2 x6_2) (by decide)) dX10_readWishes_43 (fun H locs hP hD hS => fr_w (hW_w6.uL tX_41) hP hD (fun w_4 ew_4 hW_w_4 hP hD => ?_))
          refine lv_aload_n hx hb dX10_readWishes_44 rfl (lv_at hl 0 rfl) ?_
          refine kW_v ⟨rfl, rfl⟩ hP hD hS hA (rW_V (As := []) (rest := []) hx hb hml hown hts hK hE hP hD (k_X10_step l D cI cJ cZ q bb bs bp w_4 hW_w_4  _) ⟨⟨rfl, rfl⟩, rfl, rfl⟩ sv_X10_40 ⟨(Nat.le_trans (by decide) hR.1), (Nat.le_trans (by decide) hR.2)⟩ 31 10 (hW_w_4.o tX_31) rfl rfl rfl hl.1 rfl (Nat.le_of_ble_eq_true rfl) dX10_readWishes_45) (fun w_5 H locs hw_w_5 hP hD hS => ?_)
          obtain ⟨hW_w_5, hs_w_5⟩ := hw_w_5
          refine lv_iinc (v := (x6_2 + 1)) (lv' := [(2, .int (x6_2 + 1)), (0, .ref (q 31)), (1, .ref (q 41))]) hx hb dX10_readWishes_48 hl (k := 2) rfl (rfl) (by decide) rfl (fun ls hl => ?_)
          refine lv_goto (tgt := 6) hx hb dX10_readWishes_51 (by decide) ?_
          exact ih6 (x6_2 + 1) w_5 _ _ ls ((by have t := t_add (R_nle_r (In_lit (n := 3) (by decide) (by decide) : In 3 3 3) i_x6_2 c_1 (by decide) : In 0 2 x6_2) (In_lit (n := 1) (by decide) (by decide) : In 1 1 1) (by decide); have z := (by decide : (1 : Int32).toInt = 1); have b := ((In_add (y := 1) (R_nle_r (In_lit (n := 3) (by decide) (by decide) : In 3 3 3) i_x6_2 c_1 (by decide) : In 0 2 x6_2) (In_lit (n := 1) (by decide) (by decide) : In 1 1 1) (by decide)) : In 1 3 (x6_2 + 1)); unfold In at b; omega)) hW_w_5 ((hM_w6.sa ew_4 (by decide)).tr hs_w_5 (by decide)) (In_w ((In_add (y := 1) (R_nle_r (In_lit (n := 3) (by decide) (by decide) : In 3 3 3) i_x6_2 c_1 (by decide) : In 0 2 x6_2) (In_lit (n := 1) (by decide) (by decide) : In 1 1 1) (by decide)) : In 1 3 (x6_2 + 1)) (by decide) : In 0 3 (x6_2 + 1)) hP hD hS (lv_sub hl [1, 2, 0] rfl)
        · refine lv_aload_n hx hb dX10_readWishes_21 rfl (lv_at hl 0 rfl) ?_
          refine gt_X10 hx hb hts hown hK hP 31 (hW_w6.o tX_31) 4 (by decide) wd_196 rfl (hW_w6.fi tX_31 rfl) dX10_readWishes_22 ?_
          refine lv_sipush (v := 256) hx hb dX10_readWishes_25 (by decide) ?_
          refine lv_icmp_ne (tgt := 35) hx hb dX10_readWishes_28 (by decide) (fun c_7 => ?_) (fun c_7 => ?_)
          · refine lv_iconst (v := (-1)) hx hb dX10_readWishes_35 (by decide) ?_
            exact hret _ _ _ _ _ _ hP hD hS dX10_readWishes_36 ⟨hW_w6, hM_w6, (In_lit (n := (-1)) (by decide) (by decide) : In (-1) 3 (-1))⟩
          · refine lv_iload_n hx hb dX10_readWishes_31 rfl (lv_at hl 2 rfl) ?_
            refine lv_goto (tgt := 36) hx hb dX10_readWishes_32 (by decide) ?_
            exact hret _ _ _ _ _ _ hP hD hS dX10_readWishes_36 ⟨hW_w6, hM_w6, (In_w (R_nle_r (In_lit (n := 3) (by decide) (by decide) : In 3 3 3) i_x6_2 c_1 (by decide) : In 0 2 x6_2) (by decide) : In (-1) 3 x6_2)⟩
  refine lv_aload_n hx hb dX10_readWishes_0 rfl (lv_at hl 0 rfl) ?_
  refine kW_v ⟨rfl, rfl⟩ hP hD hS hA (rW_V (As := []) (rest := []) hx hb hml hown hts hK hE hP hD (k_X10_rewind l D cI cJ cZ q bb bs bp w hW_w  _) ⟨⟨rfl, rfl⟩, rfl, rfl⟩ sv_X10_65 ⟨(Nat.le_trans (by decide) hR.1), (Nat.le_trans (by decide) hR.2)⟩ 31 10 (hW_w.o tX_31) rfl rfl rfl hl.1 rfl (Nat.le_of_ble_eq_true rfl) dX10_readWishes_1) (fun w_8 H locs hw_w_8 hP hD hS => ?_)
  obtain ⟨hW_w_8, hs_w_8⟩ := hw_w_8
  refine lv_iconst (v := 0) hx hb dX10_readWishes_4 (by decide) ?_
  refine lv_istore_n (lv' := [(2, .int 0), (0, .ref (q 31)), (1, .ref (q 41))]) hx hb dX10_readWishes_5 rfl hl (by decide) rfl (fun ls hl => ?_)
  exact J6 _ 0 w_8 _ _ ls (Nat.lt_succ_self _) hW_w_8 (Sm.rf.tr hs_w_8 (by decide)) (In_lit (n := 0) (by decide) (by decide) : In 0 3 0) hP hD hS (lv_sub hl [1, 2, 0] rfl)
set_option maxRecDepth 100000 in
set_option maxHeartbeats 8000000 in
theorem k_X11_within (l : Launch) (D : va_G) (cI cJ cZ : ClassId) (q : Nat → Nat) (bp : Nat) (w : va_W) (hW_w : HT q (TX q cI cJ cZ 1 16 bp) w) (p0 : Int32) (p1 : Int32) (p2 : Int32) : Con_i l yX11_within cX11_within 3 (some .boolean) ({ frames := 0, cells := 0, slots := 0, locals := 0 }) D cI cJ cZ eW [.int p0, .int p1, .int p2] w (fun (r : Int32) (w1 : va_W) => HT q (TX q cI cJ cZ 1 16 bp) w1 ∧ Sm [] [] w w1 ∧ In 0 1 r ∧ (¬ r = 0 → p1.toInt ≤ p0.toInt ∧ p0.toInt ≤ p2.toInt)) := by
  refine eQ_z rfl (by decide) (Nat.le_of_ble_eq_true rfl) ⟨rfl, rfl⟩ ?_
  intro p e R s m args below meth c A Q hx hb hml hown hts hK hE hA hR hret hP hD hS ls hl
  have hown : s.vm.findClass RX11 = some m.cls := hown
  have hl : lv_has ls 3 [(0, .int p0), (1, .int p1), (2, .int p2)] := hl
  refine lv_iload_n hx hb dX11_within_0 rfl (lv_at hl 0 rfl) ?_
  refine lv_iload_n hx hb dX11_within_1 rfl (lv_at hl 1 rfl) ?_
  refine lv_icmp_lt (tgt := 14) hx hb dX11_within_2 (by decide) (fun c_1 => ?_) (fun c_1 => ?_)
  · refine lv_iconst (v := 0) hx hb dX11_within_14 (by decide) ?_
    exact hret _ _ _ _ _ _ hP hD hS dX11_within_15 (In_lit (n := 0) (by decide) (by decide) : In 0 1 0) ⟨hW_w, Sm.rf, (In_lit (n := 0) (by decide) (by decide) : In 0 1 0), (fun h => absurd rfl h)⟩
  · refine lv_iload_n hx hb dX11_within_5 rfl (lv_at hl 0 rfl) ?_
    refine lv_iload_n hx hb dX11_within_6 rfl (lv_at hl 2 rfl) ?_
    refine lv_icmp_gt (tgt := 14) hx hb dX11_within_7 (by decide) (fun c_2 => ?_) (fun c_2 => ?_)
    · refine lv_iconst (v := 0) hx hb dX11_within_14 (by decide) ?_
      exact hret _ _ _ _ _ _ hP hD hS dX11_within_15 (In_lit (n := 0) (by decide) (by decide) : In 0 1 0) ⟨hW_w, Sm.rf, (In_lit (n := 0) (by decide) (by decide) : In 0 1 0), (fun h => absurd rfl h)⟩
    · refine lv_iconst (v := 1) hx hb dX11_within_10 (by decide) ?_
      refine lv_goto (tgt := 15) hx hb dX11_within_11 (by decide) ?_
      exact hret _ _ _ _ _ _ hP hD hS dX11_within_15 (In_lit (n := 1) (by decide) (by decide) : In 0 1 1) ⟨hW_w, Sm.rf, (In_lit (n := 1) (by decide) (by decide) : In 0 1 1), (fun _ => ⟨by have a := c_1; rw [q_lt] at a; omega, by have a := c_2; rw [q_lt] at a; omega⟩)⟩
