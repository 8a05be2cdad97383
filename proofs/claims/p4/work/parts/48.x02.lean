set_option maxRecDepth 100000 in
set_option maxHeartbeats 8000000 in
theorem e_X10_readWord (l : Launch) (D : va_G) (cI cJ cZ : ClassId) (q : Nat → Nat) (bb bs bp : Nat) (w : va_W) (hW_w : HT q (TX q cI cJ cZ bb bs bp) w) : Con_v l yX10_readWord cX10_readWord 2 none ({ frames := 0, cells := 0, slots := 0, locals := 0 }) D cI cJ cZ eW [.ref (q 31)] w (fun (w1 : va_W) => HT q (TX q cI cJ cZ bb bs bp) w1 ∧ Sm [31] [(31, 3), (31, 4), (31, 5), (31, 6)] w w1 ∧ M_X10_readWord (vw w) 0 (vw w1)) := by
  refine eQ_v rfl (by decide) (Nat.le_of_ble_eq_true rfl) ⟨rfl, rfl⟩ ?_
  intro p e R s m args below meth c A Q hx hb hml hown hts hK hE hA hR hret hP hD hS ls hl
  have hown : s.vm.findClass RX10 = some m.cls := hown
  have hl : lv_has ls 2 [(0, .ref (q 31))] := hl
  have J127 : ∀ (N : Nat) (x127_1 : Int32) (w127 : va_W) (H : Heap) (locs : List Loc) (ls : Array Slot), (22 - x127_1.toInt).toNat < N → HT q (TX q cI cJ cZ bb bs bp) w127 → Sm [31] [(31, 3), (31, 4), (31, 5), (31, 6)] w w127 → (In 0 22 x127_1) → (fI w127 31 4 = 258) → (∀ (n : Nat) (r : Int) (t : PS), It_X10_readWord n 127 x127_1.toInt (vw w127) r t → M_X10_readWord (vw w) r t) → va_P D vwCl w127 H → va_D A w127 → va_S A s.heap H locs → lv_has ls 2 [(0, .ref (q 31)), (1, .int x127_1)] → W p l e R s m args below meth c H locs 0 0 Q (F0 m 127 ls []) := by
    intro N
    induction N with
    | zero => intro x127_1 w127 H locs ls hmu; exact absurd hmu (Nat.not_lt_zero _)
    | succ N ih127 =>
      intro x127_1 w127 H locs ls hmu127 hW_w127 hM_w127 i_x127_1 g127_31_4e hmi_127 hP hD hS hl
      refine lv_iload_n hx hb dX10_readWord_127 rfl (lv_at hl 1 rfl) ?_
      refine lv_bipush (v := 22) hx hb dX10_readWord_128 (by decide) ?_
      refine lv_icmp_ge (tgt := 165) hx hb dX10_readWord_130 (by decide) (fun c_1 => ?_) (fun c_1 => ?_)
      · exact hret _ _ _ _ _ hP hD hS dX10_readWord_165 ⟨hW_w127, hM_w127, (hmi_127 (0 + 1) _ _ (rl_X10_readWord_127 (n := 0) (And.intro (tyX hW_w127) (And.intro i_x127_1 (Or.inl (And.intro (z_le c_1 (show (22 : Int32).toInt = 22 from by decide) (rfl : (x127_1 : Int32).toInt = _)) (And.intro rfl rfl)))))))⟩
      · refine lv_aload_n hx hb dX10_readWord_133 rfl (lv_at hl 0 rfl) ?_
        refine gt_X10 hx hb hts hown hK hP 31 (hW_w127.o tX_31) 2 (by decide) wd_193 rfl (hW_w127.fr tX_31 rfl) dX10_readWord_134 ?_
        refine lv_iload_n hx hb dX10_readWord_137 rfl (lv_at hl 1 rfl) ?_
        refine va_lald hx hb hK hP 33 1 (hW_w127.al tX_33) rfl (in_I (R_nle_r (In_lit (n := 22) (by decide) (by decide) : In 22 22 22) i_x127_1 c_1 (by decide) : In 0 21 x127_1) (by decide)) dX10_readWord_138 ?_
        refine lv_topl (fun v_2 ev_2 => ?_)
        refine lv_aload_n hx hb dX10_readWord_139 rfl (lv_at hl 0 rfl) ?_
        refine gt_X10 hx hb hts hown hK hP 31 (hW_w127.o tX_31) 6 (by decide) wd_199 rfl (hW_w127.fl tX_31 rfl) dX10_readWord_140 ?_
        refine W.lcmp hx hb dX10_readWord_143 ?_
        refine lv_topi (fun v_3 ev_3 => ?_)
        refine lv_if_ne (tgt := 159) hx hb dX10_readWord_144 (by decide) (fun c_4 => ?_) (fun c_4 => ?_)
        · refine lv_iinc (v := (x127_1 + 1)) (lv' := [(1, .int (x127_1 + 1)), (0, .ref (q 31))]) hx hb dX10_readWord_159 hl (k := 1) rfl (rfl) (by decide) rfl (fun ls hl => ?_)
          refine lv_goto (tgt := 127) hx hb dX10_readWord_162 (by decide) ?_
          exact ih127 (x127_1 + 1) w127 _ _ ls (mu_inc hmu127 (R_nle_r (In_lit (n := 22) (by decide) (by decide) : In 22 22 22) i_x127_1 c_1 (by decide) : In 0 21 x127_1) (In_lit (n := 1) (by decide) (by decide) : In 1 1 1) (by decide)) hW_w127 hM_w127 (In_w ((In_add (y := 1) (R_nle_r (In_lit (n := 22) (by decide) (by decide) : In 22 22 22) i_x127_1 c_1 (by decide) : In 0 21 x127_1) (In_lit (n := 1) (by decide) (by decide) : In 1 1 1) (by decide)) : In 1 22 (x127_1 + 1)) (by decide) : In 0 22 (x127_1 + 1)) g127_31_4e (fun n r t hk => (hmi_127 (n + 1) r t (rl_X10_readWord_127 (n := n) (And.intro (tyX hW_w127) (And.intro i_x127_1 (Or.inr (And.intro (z_nle c_1 (show (22 : Int32).toInt = 22 from by decide) (rfl : (x127_1 : Int32).toInt = _)) (Or.inr (And.intro (z_nleq c_4 ev_3 (z_ofl ev_2 ((hW_w127.vb tX_33 _).trans (congrArg (vw w127 33) (z_ix (rfl : (x127_1 : Int32).toInt = _))))) (hW_w127.vl tX_31 rfl)) (cgK_1 hk (z_add (t_add (R_nle_r (In_lit (n := 22) (by decide) (by decide) : In 22 22 22) i_x127_1 c_1 (by decide) : In 0 21 x127_1) (In_lit (n := 1) (by decide) (by decide) : In 1 1 1) (by decide)) (rfl : (x127_1 : Int32).toInt = _) (show (1 : Int32).toInt = 1 from by decide)))))))))))) hP hD hS (lv_sub hl [1, 0] rfl)
        · refine lv_aload_n hx hb dX10_readWord_147 rfl (lv_at hl 0 rfl) ?_
          refine lv_sipush (v := 260) hx hb dX10_readWord_148 (by decide) ?_
          refine lv_iload_n hx hb dX10_readWord_151 rfl (lv_at hl 1 rfl) ?_
          refine lv_iadd hx hb dX10_readWord_152 ?_
          refine lv_iconst (v := 1) hx hb dX10_readWord_153 (by decide) ?_
          refine lv_iadd hx hb dX10_readWord_154 ?_
          refine pt_X10 hx hb hts hown hK hP hD hS 31 (hW_w127.o tX_31) 4 (by decide) wd_196 rfl rfl (ty := .int) (v := .int ((260 + x127_1) + 1)) (by decide +kernel) rfl rfl (hW_w127.ll tX_31 (Nat.le_of_ble_eq_true rfl)) dX10_readWord_155 (fun H locs hP hD hS => fr_w (hW_w127.sI tX_31 rfl (In_w ((In_add ((In_add (In_lit (n := 260) (by decide) (by decide) : In 260 260 260) (R_nle_r (In_lit (n := 22) (by decide) (by decide) : In 22 22 22) i_x127_1 c_1 (by decide) : In 0 21 x127_1) (by decide)) : In 260 281 (260 + x127_1)) (In_lit (n := 1) (by decide) (by decide) : In 1 1 1) (by decide)) : In 261 282 ((260 + x127_1) + 1)) (by decide) : In (-2147483648) 2147483647 ((260 + x127_1) + 1))) hP hD (fun w_5 ew_5 hW_w_5 hP hD => ?_))
          have hv_w_5 := vw_sI (j := 4) hW_w127 tX_31 rfl ew_5 (z_add (t_add ((In_add (In_lit (n := 260) (by decide) (by decide) : In 260 260 260) (R_nle_r (In_lit (n := 22) (by decide) (by decide) : In 22 22 22) i_x127_1 c_1 (by decide) : In 0 21 x127_1) (by decide)) : In 260 281 (260 + x127_1)) (In_lit (n := 1) (by decide) (by decide) : In 1 1 1) (by decide)) (z_add (t_add (In_lit (n := 260) (by decide) (by decide) : In 260 260 260) (R_nle_r (In_lit (n := 22) (by decide) (by decide) : In 22 22 22) i_x127_1 c_1 (by decide) : In 0 21 x127_1) (by decide)) (show (260 : Int32).toInt = 260 from by decide) (rfl : (x127_1 : Int32).toInt = _)) (show (1 : Int32).toInt = 1 from by decide))
          exact hret _ _ _ _ _ hP hD hS dX10_readWord_158 ⟨hW_w_5, (hM_w127.sf (hW_w127.lt tX_31) ew_5 (by decide)), (hmi_127 (0 + 1) _ _ (rl_X10_readWord_127 (n := 0) (And.intro (tyX hW_w127) (And.intro i_x127_1 (Or.inr (And.intro (z_nle c_1 (show (22 : Int32).toInt = 22 from by decide) (rfl : (x127_1 : Int32).toInt = _)) (Or.inl (And.intro (z_leq c_4 ev_3 (z_ofl ev_2 ((hW_w127.vb tX_33 _).trans (congrArg (vw w127 33) (z_ix (rfl : (x127_1 : Int32).toInt = _))))) (hW_w127.vl tX_31 rfl)) (Exists.intro (vw w_5) (And.intro hv_w_5 (And.intro rfl rfl)))))))))))⟩
  have J118 : ∀ (w118 : va_W) (H : Heap) (locs : List Loc) (ls : Array Slot), HT q (TX q cI cJ cZ bb bs bp) w118 → Sm [31] [(31, 3), (31, 4), (31, 5), (31, 6)] w w118 → (∀ (n : Nat) (r : Int) (t : PS), It_X10_readWord n 118 0 (vw w118) r t → M_X10_readWord (vw w) r t) → va_P D vwCl w118 H → va_D A w118 → va_S A s.heap H locs → lv_has ls 2 [(0, .ref (q 31))] → W p l e R s m args below meth c H locs 0 0 Q (F0 m 118 ls []) := by
    intro w118 H locs ls hW_w118 hM_w118 hmi_118 hP hD hS hl
    refine lv_aload_n hx hb dX10_readWord_118 rfl (lv_at hl 0 rfl) ?_
    refine lv_sipush (v := 258) hx hb dX10_readWord_119 (by decide) ?_
    refine pt_X10 hx hb hts hown hK hP hD hS 31 (hW_w118.o tX_31) 4 (by decide) wd_196 rfl rfl (ty := .int) (v := .int 258) (by decide +kernel) rfl rfl (hW_w118.ll tX_31 (Nat.le_of_ble_eq_true rfl)) dX10_readWord_122 (fun H locs hP hD hS => fr_w (hW_w118.sI tX_31 rfl (In_lit (n := 258) (by decide) (by decide) : In (-2147483648) 2147483647 258)) hP hD (fun w_6 ew_6 hW_w_6 hP hD => ?_))
    have hv_w_6 := vw_sI (j := 4) hW_w118 tX_31 rfl ew_6 (show (258 : Int32).toInt = 258 from by decide)
    refine lv_iconst (v := 0) hx hb dX10_readWord_125 (by decide) ?_
    refine lv_istore_n (lv' := [(1, .int 0), (0, .ref (q 31))]) hx hb dX10_readWord_126 rfl hl (by decide) rfl (fun ls hl => ?_)
    exact J127 _ 0 w_6 _ _ ls (Nat.lt_succ_self _) hW_w_6 (hM_w118.sf (hW_w118.lt tX_31) ew_6 (by decide)) (In_lit (n := 0) (by decide) (by decide) : In 0 22 0) (fI_eq (hW_w118.lt tX_31) ew_6 (hW_w118.ll tX_31 (Nat.le_of_ble_eq_true rfl))) (fun n r t hk => (hmi_118 (n + 1) r t (rl_X10_readWord_118 (n := n) (And.intro (tyX hW_w118) (Exists.intro (vw w_6) (And.intro hv_w_6 (cgK_1 hk (show (0 : Int32).toInt = 0 from by decide)))))))) hP hD hS (lv_sub hl [1, 0] rfl)
  have J5 : ∀ (N : Nat) (w5 : va_W) (H : Heap) (locs : List Loc) (ls : Array Slot), (1000 - (fI w5 31 3).toInt).toNat < N → HT q (TX q cI cJ cZ bb bs bp) w5 → Sm [31] [(31, 3), (31, 4), (31, 5), (31, 6)] w w5 → (∀ (n : Nat) (r : Int) (t : PS), It_X10_readWord n 5 0 (vw w5) r t → M_X10_readWord (vw w) r t) → va_P D vwCl w5 H → va_D A w5 → va_S A s.heap H locs → lv_has ls 2 [(0, .ref (q 31))] → W p l e R s m args below meth c H locs 0 0 Q (F0 m 5 ls []) := by
    intro N
    induction N with
    | zero => intro w5 H locs ls hmu; exact absurd hmu (Nat.not_lt_zero _)
    | succ N ih5 =>
      intro w5 H locs ls hmu5 hW_w5 hM_w5 hmi_5 hP hD hS hl
      refine lv_aload_n hx hb dX10_readWord_5 rfl (lv_at hl 0 rfl) ?_
      refine gt_X10 hx hb hts hown hK hP 31 (hW_w5.o tX_31) 3 (by decide) wd_194 rfl (hW_w5.fi tX_31 rfl) dX10_readWord_6 ?_
      refine lv_aload_n hx hb dX10_readWord_9 rfl (lv_at hl 0 rfl) ?_
      refine gt_X10 hx hb hts hown hK hP 31 (hW_w5.o tX_31) 1 (by decide) wd_192 rfl (hW_w5.fi tX_31 rfl) dX10_readWord_10 ?_
      refine tov (v := (fI w 31 1)) (hM_w5.2 31 1 (by decide) (by decide)) ?_
      refine lv_icmp_ge (tgt := 118) hx hb dX10_readWord_13 (by decide) (fun c_7 => ?_) (fun c_7 => ?_)
      · exact J118 w5 _ _ ls hW_w5 hM_w5 (fun n r t hk => (hmi_5 (n + 1) r t (rl_X10_readWord_5 (n := n) (And.intro (tyX hW_w5) (Or.inl (And.intro (z_le c_7 (z_of (hM_w5.2 31 1 (by decide) (by decide)).symm (hW_w5.vi tX_31 rfl)) (hW_w5.vi tX_31 rfl)) (cgK_1 hk rfl))))))) hP hD hS (lv_sub hl [0] rfl)
      · refine lv_aload_n hx hb dX10_readWord_16 rfl (lv_at hl 0 rfl) ?_
        refine gt_X10 hx hb hts hown hK hP 31 (hW_w5.o tX_31) 0 (by decide) wd_190 rfl (hW_w5.fr tX_31 rfl) dX10_readWord_17 ?_
        refine lv_aload_n hx hb dX10_readWord_20 rfl (lv_at hl 0 rfl) ?_
        refine gt_X10 hx hb hts hown hK hP 31 (hW_w5.o tX_31) 3 (by decide) wd_194 rfl (hW_w5.fi tX_31 rfl) dX10_readWord_21 ?_
        refine va_iald hx hb hK hP 32 0 (hW_w5.a tX_32) rfl (in_I (R_nle_r (hW_w.fin tX_31 rfl : In 0 1000 (fI w 31 1)) (hW_w5.fin tX_31 rfl : In 0 1000 (fI w5 31 3)) c_7 (by decide) : In 0 999 (fI w5 31 3)) (by decide)) dX10_readWord_24 ?_
        refine lv_topi (fun v_8 ev_8 => ?_)
        refine lv_bipush (v := 97) hx hb dX10_readWord_25 (by decide) ?_
        refine lv_icmp_lt (tgt := 118) hx hb dX10_readWord_27 (by decide) (fun c_9 => ?_) (fun c_9 => ?_)
        · exact J118 w5 _ _ ls hW_w5 hM_w5 (fun n r t hk => (hmi_5 (n + 1) r t (rl_X10_readWord_5 (n := n) (And.intro (tyX hW_w5) (Or.inr (And.intro (z_nle c_7 (z_of (hM_w5.2 31 1 (by decide) (by decide)).symm (hW_w5.vi tX_31 rfl)) (hW_w5.vi tX_31 rfl)) (Or.inl (And.intro (z_lt c_9 (z_of ev_8 ((hW_w5.va tX_32 _).trans (congrArg (vw w5 32) (z_ix (hW_w5.vi tX_31 rfl))))) (show (97 : Int32).toInt = 97 from by decide)) (cgK_1 hk rfl))))))))) hP hD hS (lv_sub hl [0] rfl)
        · refine lv_aload_n hx hb dX10_readWord_30 rfl (lv_at hl 0 rfl) ?_
          refine gt_X10 hx hb hts hown hK hP 31 (hW_w5.o tX_31) 0 (by decide) wd_190 rfl (hW_w5.fr tX_31 rfl) dX10_readWord_31 ?_
          refine lv_aload_n hx hb dX10_readWord_34 rfl (lv_at hl 0 rfl) ?_
          refine gt_X10 hx hb hts hown hK hP 31 (hW_w5.o tX_31) 3 (by decide) wd_194 rfl (hW_w5.fi tX_31 rfl) dX10_readWord_35 ?_
          refine va_iald hx hb hK hP 32 0 (hW_w5.a tX_32) rfl (in_I (R_nle_r (hW_w.fin tX_31 rfl : In 0 1000 (fI w 31 1)) (hW_w5.fin tX_31 rfl : In 0 1000 (fI w5 31 3)) c_7 (by decide) : In 0 999 (fI w5 31 3)) (by decide)) dX10_readWord_38 ?_
          refine tov (v := v_8) ((congrFun (hM_w5.hA (by decide)) _).trans ((congrFun (hM_w5.hA (by decide)) _).symm.trans ev_8.symm)) ?_
          refine lv_bipush (v := 122) hx hb dX10_readWord_39 (by decide) ?_
          refine lv_icmp_gt (tgt := 118) hx hb dX10_readWord_41 (by decide) (fun c_10 => ?_) (fun c_10 => ?_)
          · exact J118 w5 _ _ ls hW_w5 hM_w5 (fun n r t hk => (hmi_5 (n + 1) r t (rl_X10_readWord_5 (n := n) (And.intro (tyX hW_w5) (Or.inr (And.intro (z_nle c_7 (z_of (hM_w5.2 31 1 (by decide) (by decide)).symm (hW_w5.vi tX_31 rfl)) (hW_w5.vi tX_31 rfl)) (Or.inr (And.intro (z_nlt c_9 (z_of ev_8 ((hW_w5.va tX_32 _).trans (congrArg (vw w5 32) (z_ix (hW_w5.vi tX_31 rfl))))) (show (97 : Int32).toInt = 97 from by decide)) (Or.inl (And.intro (z_lt c_10 (show (122 : Int32).toInt = 122 from by decide) (z_of ev_8 ((hW_w5.va tX_32 _).trans (congrArg (vw w5 32) (z_ix (hW_w5.vi tX_31 rfl)))))) (cgK_1 hk rfl))))))))))) hP hD hS (lv_sub hl [0] rfl)
          · refine lv_aload_n hx hb dX10_readWord_44 rfl (lv_at hl 0 rfl) ?_
            refine gt_X10 hx hb hts hown hK hP 31 (hW_w5.o tX_31) 3 (by decide) wd_194 rfl (hW_w5.fi tX_31 rfl) dX10_readWord_45 ?_
            refine lv_aload_n hx hb dX10_readWord_48 rfl (lv_at hl 0 rfl) ?_
            refine gt_X10 hx hb hts hown hK hP 31 (hW_w5.o tX_31) 5 (by decide) wd_198 rfl (hW_w5.fi tX_31 rfl) dX10_readWord_49 ?_
            refine lv_isub hx hb dX10_readWord_52 ?_
            refine lv_topi (fun v_11 ev_11 => ?_)
            refine lv_istore_n (lv' := [(1, .int v_11), (0, .ref (q 31))]) hx hb dX10_readWord_53 rfl hl (by decide) rfl (fun ls hl => ?_)
            refine lv_iload_n hx hb dX10_readWord_54 rfl (lv_at hl 0 rfl) ?_
            refine lv_bipush (v := 8) hx hb dX10_readWord_55 (by decide) ?_
            refine lv_icmp_ne (tgt := 76) hx hb dX10_readWord_57 (by decide) (fun c_12 => ?_) (fun c_12 => ?_)
            · refine lv_aload_n hx hb dX10_readWord_76 rfl (lv_at hl 1 rfl) ?_
              refine lv_dup hx hb dX10_readWord_77 rfl ?_
              refine gt_X10 hx hb hts hown hK hP 31 (hW_w5.o tX_31) 6 (by decide) wd_199 rfl (hW_w5.fl tX_31 rfl) dX10_readWord_78 ?_
              refine lv_aload_n hx hb dX10_readWord_81 rfl (lv_at hl 1 rfl) ?_
              refine gt_X10 hx hb hts hown hK hP 31 (hW_w5.o tX_31) 0 (by decide) wd_190 rfl (hW_w5.fr tX_31 rfl) dX10_readWord_82 ?_
              refine lv_aload_n hx hb dX10_readWord_85 rfl (lv_at hl 1 rfl) ?_
              refine gt_X10 hx hb hts hown hK hP 31 (hW_w5.o tX_31) 3 (by decide) wd_194 rfl (hW_w5.fi tX_31 rfl) dX10_readWord_86 ?_
              refine va_iald hx hb hK hP 32 0 (hW_w5.a tX_32) rfl (in_I (R_nle_r (hW_w.fin tX_31 rfl : In 0 1000 (fI w 31 1)) (hW_w5.fin tX_31 rfl : In 0 1000 (fI w5 31 3)) c_7 (by decide) : In 0 999 (fI w5 31 3)) (by decide)) dX10_readWord_89 ?_
              refine tov (v := v_8) ((congrFun (hM_w5.hA (by decide)) _).trans ((congrFun (hM_w5.hA (by decide)) _).symm.trans ev_8.symm)) ?_
              refine lv_bipush (v := 96) hx hb dX10_readWord_90 (by decide) ?_
              refine lv_isub hx hb dX10_readWord_92 ?_
              refine lv_i2l hx hb dX10_readWord_93 rfl ?_
              refine lv_topl (fun v_13 ev_13 => ?_)
              refine lv_bipush (v := 35) hx hb dX10_readWord_94 (by decide) ?_
              refine lv_iconst (v := 5) hx hb dX10_readWord_96 (by decide) ?_
              refine lv_iload_n hx hb dX10_readWord_97 rfl (lv_at hl 0 rfl) ?_
              refine lv_imul hx hb dX10_readWord_98 ?_
              refine lv_topi (fun v_14 ev_14 => ?_)
              refine lv_isub hx hb dX10_readWord_99 ?_
              refine lv_lshl hx hb dX10_readWord_100 rfl ?_
              refine lv_topl (fun v_15 ev_15 => ?_)
              refine lv_lor hx hb dX10_readWord_101 ?_
              refine lv_topl (fun v_16 ev_16 => ?_)
              refine pt_X10 hx hb hts hown hK hP hD hS 31 (hW_w5.o tX_31) 6 (by decide) wd_199 rfl rfl (ty := .long) (v := .long v_16) (by decide +kernel) rfl rfl (hW_w5.ll tX_31 (Nat.le_of_ble_eq_true rfl)) dX10_readWord_102 (fun H locs hP hD hS => fr_w (hW_w5.sL tX_31 rfl) hP hD (fun w_17 ew_17 hW_w_17 hP hD => ?_))
              have hv_w_17 := vw_sL (j := 6) hW_w5 tX_31 rfl ew_17 (z_ofl ev_16 (z_lor (hW_w5.vl tX_31 rfl) (z_ofl ev_15 (z_lshl (z_ofl ev_13 (z_i2l (z_sub (t_sub (R_nlt_r (In_lit (n := 122) (by decide) (by decide) : In 122 122 122) (R_nlt_l (In_of ev_8 (hW_w5.ap tX_32 _) : In 0 255 v_8) (In_lit (n := 97) (by decide) (by decide) : In 97 97 97) c_9 (by decide) : In 97 255 v_8) c_10 (by decide) : In 97 122 v_8) (In_lit (n := 96) (by decide) (by decide) : In 96 96 96) (by decide)) (z_of ev_8 ((hW_w5.va tX_32 _).trans (congrArg (vw w5 32) (z_ix (hW_w5.vi tX_31 rfl))))) (show (96 : Int32).toInt = 96 from by decide)))) (z_subw (show (35 : Int32).toInt = 35 from by decide) (z_of ev_14 (z_mulw (show (5 : Int32).toInt = 5 from by decide) (z_of ev_11 (z_subw (hW_w5.vi tX_31 rfl) (hW_w5.vi tX_31 rfl))))))))))
              refine lv_aload_n hx hb dX10_readWord_105 rfl (lv_at hl 1 rfl) ?_
              refine lv_dup hx hb dX10_readWord_106 rfl ?_
              refine gt_X10 hx hb hts hown hK hP 31 (hW_w_17.o tX_31) 3 (by decide) wd_194 rfl (hW_w_17.fi tX_31 rfl) dX10_readWord_107 ?_
              refine tov (v := (fI w5 31 3)) (fI_nej (hW_w5.lt tX_31) ew_17 (by decide)) ?_
              refine lv_iconst (v := 1) hx hb dX10_readWord_110 (by decide) ?_
              refine lv_iadd hx hb dX10_readWord_111 ?_
              refine pt_X10 hx hb hts hown hK hP hD hS 31 (hW_w_17.o tX_31) 3 (by decide) wd_194 rfl rfl (ty := .int) (v := .int ((fI w5 31 3) + 1)) (by decide +kernel) rfl rfl (hW_w_17.ll tX_31 (Nat.le_of_ble_eq_true rfl)) dX10_readWord_112 (fun H locs hP hD hS => fr_w (hW_w_17.sI tX_31 rfl (In_w ((In_add (R_nle_r (hW_w.fin tX_31 rfl : In 0 1000 (fI w 31 1)) (hW_w5.fin tX_31 rfl : In 0 1000 (fI w5 31 3)) c_7 (by decide) : In 0 999 (fI w5 31 3)) (In_lit (n := 1) (by decide) (by decide) : In 1 1 1) (by decide)) : In 1 1000 ((fI w5 31 3) + 1)) (by decide) : In 0 1000 ((fI w5 31 3) + 1))) hP hD (fun w_18 ew_18 hW_w_18 hP hD => ?_))
              have hv_w_18 := vw_sI (j := 3) hW_w_17 tX_31 rfl ew_18 (z_add (t_add (R_nle_r (hW_w.fin tX_31 rfl : In 0 1000 (fI w 31 1)) (hW_w5.fin tX_31 rfl : In 0 1000 (fI w5 31 3)) c_7 (by decide) : In 0 999 (fI w5 31 3)) (In_lit (n := 1) (by decide) (by decide) : In 1 1 1) (by decide)) (hW_w5.vi tX_31 rfl) (show (1 : Int32).toInt = 1 from by decide))
              refine lv_goto (tgt := 5) hx hb dX10_readWord_115 (by decide) ?_
              exact ih5 w_18 _ _ ls ((by rw [show fI w_18 31 3 = ((fI w5 31 3) + 1) from (fI_eq (hW_w_17.lt tX_31) ew_18 (hW_w_17.ll tX_31 (Nat.le_of_ble_eq_true rfl)))]; exact mu_inc hmu5 (R_nle_r (hW_w.fin tX_31 rfl : In 0 1000 (fI w 31 1)) (hW_w5.fin tX_31 rfl : In 0 1000 (fI w5 31 3)) c_7 (by decide) : In 0 999 (fI w5 31 3)) (In_lit (n := 1) (by decide) (by decide) : In 1 1 1) (by decide))) hW_w_18 ((hM_w5.sf (hW_w5.lt tX_31) ew_17 (by decide)).sf (hW_w_17.lt tX_31) ew_18 (by decide)) (fun n r t hk => (hmi_5 (n + 1) r t (rl_X10_readWord_5 (n := n) (And.intro (tyX hW_w5) (Or.inr (And.intro (z_nle c_7 (z_of (hM_w5.2 31 1 (by decide) (by decide)).symm (hW_w5.vi tX_31 rfl)) (hW_w5.vi tX_31 rfl)) (Or.inr (And.intro (z_nlt c_9 (z_of ev_8 ((hW_w5.va tX_32 _).trans (congrArg (vw w5 32) (z_ix (hW_w5.vi tX_31 rfl))))) (show (97 : Int32).toInt = 97 from by decide)) (Or.inr (And.intro (z_nlt c_10 (show (122 : Int32).toInt = 122 from by decide) (z_of ev_8 ((hW_w5.va tX_32 _).trans (congrArg (vw w5 32) (z_ix (hW_w5.vi tX_31 rfl)))))) (Or.inr (And.intro (z_neq c_12 (z_of ev_11 (z_subw (hW_w5.vi tX_31 rfl) (hW_w5.vi tX_31 rfl))) (show (8 : Int32).toInt = 8 from by decide)) (Exists.intro (vw w_17) (And.intro hv_w_17 (Exists.intro (vw w_18) (And.intro hv_w_18 (cgK_1 hk rfl))))))))))))))))) hP hD hS (lv_sub hl [1] rfl)
            · refine lv_aload_n hx hb dX10_readWord_60 rfl (lv_at hl 1 rfl) ?_
              refine lv_aload_n hx hb dX10_readWord_61 rfl (lv_at hl 1 rfl) ?_
              refine gt_X10 hx hb hts hown hK hP 31 (hW_w5.o tX_31) 3 (by decide) wd_194 rfl (hW_w5.fi tX_31 rfl) dX10_readWord_62 ?_
              refine pt_X10 hx hb hts hown hK hP hD hS 31 (hW_w5.o tX_31) 5 (by decide) wd_198 rfl rfl (ty := .int) (v := .int (fI w5 31 3)) (by decide +kernel) rfl rfl (hW_w5.ll tX_31 (Nat.le_of_ble_eq_true rfl)) dX10_readWord_65 (fun H locs hP hD hS => fr_w (hW_w5.sI tX_31 rfl (In_w (R_nle_r (hW_w.fin tX_31 rfl : In 0 1000 (fI w 31 1)) (hW_w5.fin tX_31 rfl : In 0 1000 (fI w5 31 3)) c_7 (by decide) : In 0 999 (fI w5 31 3)) (by decide) : In (-2147483648) 2147483647 (fI w5 31 3))) hP hD (fun w_19 ew_19 hW_w_19 hP hD => ?_))
              have hv_w_19 := vw_sI (j := 5) hW_w5 tX_31 rfl ew_19 (hW_w5.vi tX_31 rfl)
              refine lv_aload_n hx hb dX10_readWord_68 rfl (lv_at hl 1 rfl) ?_
              refine lv_sipush (v := 257) hx hb dX10_readWord_69 (by decide) ?_
              refine pt_X10 hx hb hts hown hK hP hD hS 31 (hW_w_19.o tX_31) 4 (by decide) wd_196 rfl rfl (ty := .int) (v := .int 257) (by decide +kernel) rfl rfl (hW_w_19.ll tX_31 (Nat.le_of_ble_eq_true rfl)) dX10_readWord_72 (fun H locs hP hD hS => fr_w (hW_w_19.sI tX_31 rfl (In_lit (n := 257) (by decide) (by decide) : In (-2147483648) 2147483647 257)) hP hD (fun w_20 ew_20 hW_w_20 hP hD => ?_))
              have hv_w_20 := vw_sI (j := 4) hW_w_19 tX_31 rfl ew_20 (show (257 : Int32).toInt = 257 from by decide)
              exact hret _ _ _ _ _ hP hD hS dX10_readWord_75 ⟨hW_w_20, ((hM_w5.sf (hW_w5.lt tX_31) ew_19 (by decide)).sf (hW_w_19.lt tX_31) ew_20 (by decide)), (hmi_5 (0 + 1) _ _ (rl_X10_readWord_5 (n := 0) (And.intro (tyX hW_w5) (Or.inr (And.intro (z_nle c_7 (z_of (hM_w5.2 31 1 (by decide) (by decide)).symm (hW_w5.vi tX_31 rfl)) (hW_w5.vi tX_31 rfl)) (Or.inr (And.intro (z_nlt c_9 (z_of ev_8 ((hW_w5.va tX_32 _).trans (congrArg (vw w5 32) (z_ix (hW_w5.vi tX_31 rfl))))) (show (97 : Int32).toInt = 97 from by decide)) (Or.inr (And.intro (z_nlt c_10 (show (122 : Int32).toInt = 122 from by decide) (z_of ev_8 ((hW_w5.va tX_32 _).trans (congrArg (vw w5 32) (z_ix (hW_w5.vi tX_31 rfl)))))) (Or.inl (And.intro (z_eq c_12 (z_of ev_11 (z_subw (hW_w5.vi tX_31 rfl) (hW_w5.vi tX_31 rfl))) (show (8 : Int32).toInt = 8 from by decide)) (Exists.intro (vw w_19) (And.intro hv_w_19 (Exists.intro (vw w_20) (And.intro hv_w_20 (And.intro rfl rfl))))))))))))))))⟩
  refine lv_aload_n hx hb dX10_readWord_0 rfl (lv_at hl 0 rfl) ?_
  refine lv_lconst (v := 0) hx hb dX10_readWord_1 (by decide) ?_
  refine pt_X10 hx hb hts hown hK hP hD hS 31 (hW_w.o tX_31) 6 (by decide) wd_199 rfl rfl (ty := .long) (v := .long 0) (by decide +kernel) rfl rfl (hW_w.ll tX_31 (Nat.le_of_ble_eq_true rfl)) dX10_readWord_2 (fun H locs hP hD hS => fr_w (hW_w.sL tX_31 rfl) hP hD (fun w_21 ew_21 hW_w_21 hP hD => ?_))
  have hv_w_21 := vw_sL (j := 6) hW_w tX_31 rfl ew_21 (show (0 : Int64).toInt = 0 from by decide)
  exact J5 _ w_21 _ _ ls (Nat.lt_succ_self _) hW_w_21 (Sm.rf.sf (hW_w.lt tX_31) ew_21 (by decide)) (fun n r t hk => (mk_X10_readWord (n := n) (And.intro (tyX hW_w) (Exists.intro (vw w_21) (And.intro hv_w_21 (cgK_1 hk rfl)))))) hP hD hS (lv_sub hl [0] rfl)
set_option maxRecDepth 100000 in
set_option maxHeartbeats 8000000 in
theorem e_X10_step (l : Launch) (D : va_G) (cI cJ cZ : ClassId) (q : Nat → Nat) (bb bs bp : Nat) (w : va_W) (hW_w : HT q (TX q cI cJ cZ bb bs bp) w) : Con_v l yX10_step cX10_step 5 none ({ frames := 1, cells := 0, slots := 0, locals := 23 }) D cI cJ cZ eW [.ref (q 31)] w (fun (w1 : va_W) => HT q (TX q cI cJ cZ bb bs bp) w1 ∧ Sm [31] [(31, 3), (31, 4), (31, 5), (31, 6), (31, 7)] w w1 ∧ M_X10_step (vw w) 0 (vw w1)) := by
  refine eQ_v rfl (by decide) (Nat.le_of_ble_eq_true rfl) ⟨rfl, rfl⟩ ?_
  intro p e R s m args below meth c A Q hx hb hml hown hts hK hE hA hR hret hP hD hS ls hl
  have hown : s.vm.findClass RX10 = some m.cls := hown
  have hl : lv_has ls 5 [(0, .ref (q 31))] := hl
  have J213 : ∀ (x213_1 : Int32) (x213_2 : Int32) (x213_3 : Int32) (x213_4 : Int32) (w213 : va_W) (H : Heap) (locs : List Loc) (ls : Array Slot), HT q (TX q cI cJ cZ bb bs bp) w213 → Sm [31] [(31, 3), (31, 4), (31, 5), (31, 6), (31, 7)] w w213 → (In 1 1 x213_1) → (In 0 1000 x213_2) → (In 0 1 x213_3) → (In 0 1 x213_4) → (∀ (n : Nat) (r : Int) (t : PS), It_X10_step n 213 x213_1.toInt x213_2.toInt x213_3.toInt x213_4.toInt (vw w213) r t → M_X10_step (vw w) r t) → va_P D vwCl w213 H → va_D A w213 → va_S A s.heap H locs → lv_has ls 5 [(0, .ref (q 31)), (1, .int x213_1), (2, .int x213_2), (3, .int x213_3), (4, .int x213_4)] → W p l e R s m args below meth c H locs 0 0 Q (F0 m 213 ls []) := by
    intro x213_1 x213_2 x213_3 x213_4 w213 H locs ls hW_w213 hM_w213 i_x213_1 i_x213_2 i_x213_3 i_x213_4 hmi_213 hP hD hS hl
    refine lv_aload_n hx hb dX10_step_213 rfl (lv_at hl 0 rfl) ?_
    refine gt_X10 hx hb hts hown hK hP 31 (hW_w213.o tX_31) 5 (by decide) wd_198 rfl (hW_w213.fi tX_31 rfl) dX10_step_214 ?_
    refine lv_iload_n hx hb dX10_step_217 rfl (lv_at hl 2 rfl) ?_
    refine lv_icmp_ne (tgt := 228) hx hb dX10_step_218 (by decide) (fun c_1 => ?_) (fun c_1 => ?_)
    · exact hret _ _ _ _ _ hP hD hS dX10_step_228 ⟨hW_w213, hM_w213, (hmi_213 (0 + 1) _ _ (rl_X10_step_213 (n := 0) (And.intro (tyX hW_w213) (And.intro i_x213_1 (And.intro i_x213_2 (And.intro i_x213_3 (And.intro i_x213_4 (Or.inr (And.intro (z_neq c_1 (hW_w213.vi tX_31 rfl) (rfl : (x213_2 : Int32).toInt = _)) (And.intro rfl rfl))))))))))⟩
    · refine lv_aload_n hx hb dX10_step_221 rfl (lv_at hl 0 rfl) ?_
      refine lv_sipush (v := 257) hx hb dX10_step_222 (by decide) ?_
      refine pt_X10 hx hb hts hown hK hP hD hS 31 (hW_w213.o tX_31) 4 (by decide) wd_196 rfl rfl (ty := .int) (v := .int 257) (by decide +kernel) rfl rfl (hW_w213.ll tX_31 (Nat.le_of_ble_eq_true rfl)) dX10_step_225 (fun H locs hP hD hS => fr_w (hW_w213.sI tX_31 rfl (In_lit (n := 257) (by decide) (by decide) : In (-2147483648) 2147483647 257)) hP hD (fun w_2 ew_2 hW_w_2 hP hD => ?_))
      have hv_w_2 := vw_sI (j := 4) hW_w213 tX_31 rfl ew_2 (show (257 : Int32).toInt = 257 from by decide)
      exact hret _ _ _ _ _ hP hD hS dX10_step_228 ⟨hW_w_2, (hM_w213.sf (hW_w213.lt tX_31) ew_2 (by decide)), (hmi_213 (0 + 1) _ _ (rl_X10_step_213 (n := 0) (And.intro (tyX hW_w213) (And.intro i_x213_1 (And.intro i_x213_2 (And.intro i_x213_3 (And.intro i_x213_4 (Or.inl (And.intro (z_eq c_1 (hW_w213.vi tX_31 rfl) (rfl : (x213_2 : Int32).toInt = _)) (Exists.intro (vw w_2) (And.intro hv_w_2 (And.intro rfl rfl))))))))))))⟩
  have J200 : ∀ (x200_1 : Int32) (x200_2 : Int32) (x200_3 : Int32) (x200_4 : Int32) (w200 : va_W) (H : Heap) (locs : List Loc) (ls : Array Slot), HT q (TX q cI cJ cZ bb bs bp) w200 → Sm [31] [(31, 3), (31, 4), (31, 5), (31, 6), (31, 7)] w w200 → (In 0 1 x200_1) → (In 0 1000 x200_2) → (In 0 1 x200_3) → (In 0 1 x200_4) → (∀ (n : Nat) (r : Int) (t : PS), It_X10_step n 200 x200_1.toInt x200_2.toInt x200_3.toInt x200_4.toInt (vw w200) r t → M_X10_step (vw w) r t) → va_P D vwCl w200 H → va_D A w200 → va_S A s.heap H locs → lv_has ls 5 [(0, .ref (q 31)), (1, .int x200_1), (2, .int x200_2), (3, .int x200_3), (4, .int x200_4)] → W p l e R s m args below meth c H locs 0 0 Q (F0 m 200 ls []) := by
    intro x200_1 x200_2 x200_3 x200_4 w200 H locs ls hW_w200 hM_w200 i_x200_1 i_x200_2 i_x200_3 i_x200_4 hmi_200 hP hD hS hl
    refine lv_iload_n hx hb dX10_step_200 rfl (lv_at hl 1 rfl) ?_
    refine lv_if_eq (tgt := 228) hx hb dX10_step_201 (by decide) (fun c_3 => ?_) (fun c_3 => ?_)
    · exact hret _ _ _ _ _ hP hD hS dX10_step_228 ⟨hW_w200, hM_w200, (hmi_200 (0 + 1) _ _ (rl_X10_step_200 (n := 0) (And.intro (tyX hW_w200) (And.intro i_x200_1 (And.intro i_x200_2 (And.intro i_x200_3 (And.intro i_x200_4 (Or.inl (And.intro (z_eq c_3 (rfl : (x200_1 : Int32).toInt = _) (show (0 : Int32).toInt = 0 from by decide)) (And.intro rfl rfl))))))))))⟩
    · refine lv_iload_n hx hb dX10_step_204 rfl (lv_at hl 3 rfl) ?_
      refine lv_if_ne (tgt := 213) hx hb dX10_step_205 (by decide) (fun c_4 => ?_) (fun c_4 => ?_)
      · exact J213 x200_1 x200_2 x200_3 x200_4 w200 _ _ ls hW_w200 hM_w200 (R_ne_l i_x200_1 (In_lit (n := 0) (by decide) (by decide) : In 0 0 0) c_3 (by decide) : In 1 1 x200_1) i_x200_2 (In_w (R_ne_l i_x200_3 (In_lit (n := 0) (by decide) (by decide) : In 0 0 0) c_4 (by decide) : In 1 1 x200_3) (by decide) : In 0 1 x200_3) i_x200_4 (fun n r t hk => (hmi_200 (n + 1) r t (rl_X10_step_200 (n := n) (And.intro (tyX hW_w200) (And.intro i_x200_1 (And.intro i_x200_2 (And.intro i_x200_3 (And.intro i_x200_4 (Or.inr (And.intro (z_neq c_3 (rfl : (x200_1 : Int32).toInt = _) (show (0 : Int32).toInt = 0 from by decide)) (Or.inr (And.intro (z_neq c_4 (rfl : (x200_3 : Int32).toInt = _) (show (0 : Int32).toInt = 0 from by decide)) (cgK_4 hk (rfl : (x200_1 : Int32).toInt = _) (rfl : (x200_2 : Int32).toInt = _) (rfl : (x200_3 : Int32).toInt = _) (rfl : (x200_4 : Int32).toInt = _)))))))))))))) hP hD hS (lv_sub hl [0, 1, 2, 3, 4] rfl)
      · refine lv_iload hx hb dX10_step_208 (lv_at hl 4 rfl) ?_
        refine lv_if_eq (tgt := 228) hx hb dX10_step_210 (by decide) (fun c_5 => ?_) (fun c_5 => ?_)
        · exact hret _ _ _ _ _ hP hD hS dX10_step_228 ⟨hW_w200, hM_w200, (hmi_200 (0 + 1) _ _ (rl_X10_step_200 (n := 0) (And.intro (tyX hW_w200) (And.intro i_x200_1 (And.intro i_x200_2 (And.intro i_x200_3 (And.intro i_x200_4 (Or.inr (And.intro (z_neq c_3 (rfl : (x200_1 : Int32).toInt = _) (show (0 : Int32).toInt = 0 from by decide)) (Or.inl (And.intro (z_eq c_4 (rfl : (x200_3 : Int32).toInt = _) (show (0 : Int32).toInt = 0 from by decide)) (Or.inl (And.intro (z_eq c_5 (rfl : (x200_4 : Int32).toInt = _) (show (0 : Int32).toInt = 0 from by decide)) (And.intro rfl rfl))))))))))))))⟩
        · exact J213 x200_1 x200_2 x200_3 x200_4 w200 _ _ ls hW_w200 hM_w200 (R_ne_l i_x200_1 (In_lit (n := 0) (by decide) (by decide) : In 0 0 0) c_3 (by decide) : In 1 1 x200_1) i_x200_2 (In_w (R_eq_l i_x200_3 (In_lit (n := 0) (by decide) (by decide) : In 0 0 0) c_4 (by decide) : In 0 0 x200_3) (by decide) : In 0 1 x200_3) (In_w (R_ne_l i_x200_4 (In_lit (n := 0) (by decide) (by decide) : In 0 0 0) c_5 (by decide) : In 1 1 x200_4) (by decide) : In 0 1 x200_4) (fun n r t hk => (hmi_200 (n + 1) r t (rl_X10_step_200 (n := n) (And.intro (tyX hW_w200) (And.intro i_x200_1 (And.intro i_x200_2 (And.intro i_x200_3 (And.intro i_x200_4 (Or.inr (And.intro (z_neq c_3 (rfl : (x200_1 : Int32).toInt = _) (show (0 : Int32).toInt = 0 from by decide)) (Or.inl (And.intro (z_eq c_4 (rfl : (x200_3 : Int32).toInt = _) (show (0 : Int32).toInt = 0 from by decide)) (Or.inr (And.intro (z_neq c_5 (rfl : (x200_4 : Int32).toInt = _) (show (0 : Int32).toInt = 0 from by decide)) (cgK_4 hk (rfl : (x200_1 : Int32).toInt = _) (rfl : (x200_2 : Int32).toInt = _) (rfl : (x200_3 : Int32).toInt = _) (rfl : (x200_4 : Int32).toInt = _)))))))))))))))) hP hD hS (lv_sub hl [0, 1, 2, 3, 4] rfl)
  have J158 : ∀ (x158_1 : Int32) (x158_2 : Int32) (x158_3 : Int32) (y158_0 : Int32) (w158 : va_W) (H : Heap) (locs : List Loc) (ls : Array Slot), HT q (TX q cI cJ cZ bb bs bp) w158 → Sm [31] [(31, 3), (31, 4), (31, 5), (31, 6), (31, 7)] w w158 → (In 0 1 x158_1) → (In 0 1000 x158_2) → (In 0 1 x158_3) → (In 0 1 y158_0) → (In 0 256 (fI w158 31 4)) → (In 0 1000 (fI w158 31 5)) → (∀ (n : Nat) (r : Int) (t : PS), It_X10_step n 158 x158_1.toInt x158_2.toInt x158_3.toInt y158_0.toInt (vw w158) r t → M_X10_step (vw w) r t) → va_P D vwCl w158 H → va_D A w158 → va_S A s.heap H locs → lv_has ls 5 [(0, .ref (q 31)), (1, .int x158_1), (2, .int x158_2), (3, .int x158_3)] → W p l e R s m args below meth c H locs 0 0 Q (F0 m 158 ls [.int y158_0]) := by
    intro x158_1 x158_2 x158_3 y158_0 w158 H locs ls hW_w158 hM_w158 i_x158_1 i_x158_2 i_x158_3 i_y158_0 g158_31_4 g158_31_5 hmi_158 hP hD hS hl
    refine lv_istore (lv' := [(4, .int y158_0), (0, .ref (q 31)), (1, .int x158_1), (2, .int x158_2), (3, .int x158_3)]) hx hb dX10_step_158 hl (by decide) rfl (fun ls hl => ?_)
    refine lv_iload_n hx hb dX10_step_160 rfl (lv_at hl 4 rfl) ?_
    refine lv_if_eq (tgt := 171) hx hb dX10_step_161 (by decide) (fun c_6 => ?_) (fun c_6 => ?_)
    · refine lv_iload hx hb dX10_step_171 (lv_at hl 0 rfl) ?_
      refine lv_if_eq (tgt := 183) hx hb dX10_step_173 (by decide) (fun c_7 => ?_) (fun c_7 => ?_)
      · refine lv_aload_n hx hb dX10_step_183 rfl (lv_at hl 1 rfl) ?_
        refine lv_aload_n hx hb dX10_step_184 rfl (lv_at hl 1 rfl) ?_
        refine gt_X10 hx hb hts hown hK hP 31 (hW_w158.o tX_31) 3 (by decide) wd_194 rfl (hW_w158.fi tX_31 rfl) dX10_step_185 ?_
        refine lv_iconst (v := 1) hx hb dX10_step_188 (by decide) ?_
        refine lv_iadd hx hb dX10_step_189 ?_
        refine lv_aload_n hx hb dX10_step_190 rfl (lv_at hl 1 rfl) ?_
        refine gt_X10 hx hb hts hown hK hP 31 (hW_w158.o tX_31) 1 (by decide) wd_192 rfl (hW_w158.fi tX_31 rfl) dX10_step_191 ?_
        refine tov (v := (fI w 31 1)) (hM_w158.2 31 1 (by decide) (by decide)) ?_
        refine va_mmin hx hb (by rw [hml]; exact hl.1.symm) hown (hts _ wd_756) (hts _ wd_757) (hts _ wd_18) (hts _ wd_758) (Nat.le_trans (by decide) hR.1) (Nat.le_trans (Nat.le_of_ble_eq_true rfl) hR.2) (Nat.zero_le _) (Nat.zero_le _) dX10_step_194 ?_
        refine lv_topi (fun v_8 ev_8 => ?_)
        refine pt_X10 hx hb hts hown hK hP hD hS 31 (hW_w158.o tX_31) 3 (by decide) wd_194 rfl rfl (ty := .int) (v := .int v_8) (by decide +kernel) rfl rfl (hW_w158.ll tX_31 (Nat.le_of_ble_eq_true rfl)) dX10_step_197 (fun H locs hP hD hS => fr_w (hW_w158.sI tX_31 rfl (In_of ev_8 (In_min ((In_add (hW_w158.fin tX_31 rfl : In 0 1000 (fI w158 31 3)) (In_lit (n := 1) (by decide) (by decide) : In 1 1 1) (by decide)) : In 1 1001 ((fI w158 31 3) + 1)) (hW_w.fin tX_31 rfl : In 0 1000 (fI w 31 1)) (by decide)) : In 0 1000 v_8)) hP hD (fun w_9 ew_9 hW_w_9 hP hD => ?_))
        have hv_w_9 := vw_sI (j := 3) hW_w158 tX_31 rfl ew_9 (z_of ev_8 (z_min (z_add (t_add (hW_w158.fin tX_31 rfl : In 0 1000 (fI w158 31 3)) (In_lit (n := 1) (by decide) (by decide) : In 1 1 1) (by decide)) (hW_w158.vi tX_31 rfl) (show (1 : Int32).toInt = 1 from by decide)) (z_of (hM_w158.2 31 1 (by decide) (by decide)).symm (hW_w158.vi tX_31 rfl))))
        exact J200 x158_1 x158_2 x158_3 y158_0 w_9 _ _ ls hW_w_9 (hM_w158.sf (hW_w158.lt tX_31) ew_9 (by decide)) i_x158_1 i_x158_2 (In_w (R_eq_l i_x158_3 (In_lit (n := 0) (by decide) (by decide) : In 0 0 0) c_6 (by decide) : In 0 0 x158_3) (by decide) : In 0 1 x158_3) (In_w (R_eq_l i_y158_0 (In_lit (n := 0) (by decide) (by decide) : In 0 0 0) c_7 (by decide) : In 0 0 y158_0) (by decide) : In 0 1 y158_0) (fun n r t hk => (hmi_158 (n + 1) r t (rl_X10_step_158 (n := n) (And.intro (tyX hW_w158) (And.intro i_x158_1 (And.intro i_x158_2 (And.intro i_x158_3 (And.intro i_y158_0 (Or.inl (And.intro (z_eq c_6 (rfl : (x158_3 : Int32).toInt = _) (show (0 : Int32).toInt = 0 from by decide)) (Or.inl (And.intro (z_eq c_7 (rfl : (y158_0 : Int32).toInt = _) (show (0 : Int32).toInt = 0 from by decide)) (Exists.intro (vw w_9) (And.intro hv_w_9 (cgK_4 hk (rfl : (x158_1 : Int32).toInt = _) (rfl : (x158_2 : Int32).toInt = _) (rfl : (x158_3 : Int32).toInt = _) (rfl : (y158_0 : Int32).toInt = _)))))))))))))))) hP hD hS (lv_sub hl [1, 2, 3, 4, 0] rfl)
      · refine lv_aload_n hx hb dX10_step_176 rfl (lv_at hl 1 rfl) ?_
        refine kW_v ⟨rfl, rfl⟩ hP hD hS hA (rW_V (As := []) (rest := []) hx hb hml hown hts hK hE hP hD (e_X10_readNumber l D cI cJ cZ q bb bs bp w158 hW_w158  _) ⟨⟨rfl, rfl⟩, rfl, rfl⟩ sv_X10_49 ⟨(Nat.le_trans (by decide) hR.1), (Nat.le_trans (by decide) hR.2)⟩ 31 10 (hW_w158.o tX_31) rfl rfl rfl hl.1 rfl (Nat.le_of_ble_eq_true rfl) dX10_step_177) (fun w_10 H locs hw_w_10 hP hD hS => ?_)
        obtain ⟨hW_w_10, hs_w_10, hm_12⟩ := hw_w_10
        refine lv_goto (tgt := 200) hx hb dX10_step_180 (by decide) ?_
        exact J200 x158_1 x158_2 x158_3 y158_0 w_10 _ _ ls hW_w_10 (hM_w158.tr hs_w_10 (by decide)) i_x158_1 i_x158_2 (In_w (R_eq_l i_x158_3 (In_lit (n := 0) (by decide) (by decide) : In 0 0 0) c_6 (by decide) : In 0 0 x158_3) (by decide) : In 0 1 x158_3) (In_w (R_ne_l i_y158_0 (In_lit (n := 0) (by decide) (by decide) : In 0 0 0) c_7 (by decide) : In 1 1 y158_0) (by decide) : In 0 1 y158_0) (fun n r t hk => (hmi_158 (n + 1) r t (rl_X10_step_158 (n := n) (And.intro (tyX hW_w158) (And.intro i_x158_1 (And.intro i_x158_2 (And.intro i_x158_3 (And.intro i_y158_0 (Or.inl (And.intro (z_eq c_6 (rfl : (x158_3 : Int32).toInt = _) (show (0 : Int32).toInt = 0 from by decide)) (Or.inr (And.intro (z_neq c_7 (rfl : (y158_0 : Int32).toInt = _) (show (0 : Int32).toInt = 0 from by decide)) (Exists.intro (vw w_10) (And.intro hm_12 (And.intro (hs_w_10.Fr hW_w158 hW_w_10 intsX_ok intsX_ok) (And.intro (tyX hW_w_10) (cgK_4 hk (rfl : (x158_1 : Int32).toInt = _) (rfl : (x158_2 : Int32).toInt = _) (rfl : (x158_3 : Int32).toInt = _) (rfl : (y158_0 : Int32).toInt = _)))))))))))))))))) hP hD hS (lv_sub hl [1, 2, 3, 4, 0] rfl)
    · refine lv_aload_n hx hb dX10_step_164 rfl (lv_at hl 1 rfl) ?_
      refine kW_v ⟨rfl, rfl⟩ hP hD hS hA (rW_V (As := []) (rest := []) hx hb hml hown hts hK hE hP hD (e_X10_readWord l D cI cJ cZ q bb bs bp w158 hW_w158  _) ⟨⟨rfl, rfl⟩, rfl, rfl⟩ sv_X10_46 ⟨(Nat.le_trans (by decide) hR.1), (Nat.le_trans (by decide) hR.2)⟩ 31 10 (hW_w158.o tX_31) rfl rfl rfl hl.1 rfl (Nat.le_of_ble_eq_true rfl) dX10_step_165) (fun w_13 H locs hw_w_13 hP hD hS => ?_)
      obtain ⟨hW_w_13, hs_w_13, hm_15⟩ := hw_w_13
      refine lv_goto (tgt := 200) hx hb dX10_step_168 (by decide) ?_
      exact J200 x158_1 x158_2 x158_3 y158_0 w_13 _ _ ls hW_w_13 (hM_w158.tr hs_w_13 (by decide)) i_x158_1 i_x158_2 (In_w (R_ne_l i_x158_3 (In_lit (n := 0) (by decide) (by decide) : In 0 0 0) c_6 (by decide) : In 1 1 x158_3) (by decide) : In 0 1 x158_3) i_y158_0 (fun n r t hk => (hmi_158 (n + 1) r t (rl_X10_step_158 (n := n) (And.intro (tyX hW_w158) (And.intro i_x158_1 (And.intro i_x158_2 (And.intro i_x158_3 (And.intro i_y158_0 (Or.inr (And.intro (z_neq c_6 (rfl : (x158_3 : Int32).toInt = _) (show (0 : Int32).toInt = 0 from by decide)) (Exists.intro (vw w_13) (And.intro hm_15 (And.intro (hs_w_13.Fr hW_w158 hW_w_13 intsX_ok intsX_ok) (And.intro (tyX hW_w_13) (cgK_4 hk (rfl : (x158_1 : Int32).toInt = _) (rfl : (x158_2 : Int32).toInt = _) (rfl : (x158_3 : Int32).toInt = _) (rfl : (y158_0 : Int32).toInt = _)))))))))))))))) hP hD hS (lv_sub hl [1, 2, 3, 4, 0] rfl)
  have J157 : ∀ (x157_1 : Int32) (x157_2 : Int32) (x157_3 : Int32) (w157 : va_W) (H : Heap) (locs : List Loc) (ls : Array Slot), HT q (TX q cI cJ cZ bb bs bp) w157 → Sm [31] [(31, 3), (31, 4), (31, 5), (31, 6), (31, 7)] w w157 → (In 0 1 x157_1) → (In 0 1000 x157_2) → (In 0 1 x157_3) → (In 0 256 (fI w157 31 4)) → (In 0 1000 (fI w157 31 5)) → (∀ (n : Nat) (r : Int) (t : PS), It_X10_step n 157 x157_1.toInt x157_2.toInt x157_3.toInt 0 (vw w157) r t → M_X10_step (vw w) r t) → va_P D vwCl w157 H → va_D A w157 → va_S A s.heap H locs → lv_has ls 5 [(0, .ref (q 31)), (1, .int x157_1), (2, .int x157_2), (3, .int x157_3)] → W p l e R s m args below meth c H locs 0 0 Q (F0 m 157 ls []) := by
    intro x157_1 x157_2 x157_3 w157 H locs ls hW_w157 hM_w157 i_x157_1 i_x157_2 i_x157_3 g157_31_4 g157_31_5 hmi_157 hP hD hS hl
    refine lv_iconst (v := 0) hx hb dX10_step_157 (by decide) ?_
    exact J158 x157_1 x157_2 x157_3 0 w157 _ _ ls hW_w157 hM_w157 i_x157_1 i_x157_2 i_x157_3 (In_lit (n := 0) (by decide) (by decide) : In 0 1 0) g157_31_4 g157_31_5 (fun n r t hk => (hmi_157 (n + 1) r t (rl_X10_step_157 (n := n) (And.intro (tyX hW_w157) (And.intro i_x157_1 (And.intro i_x157_2 (And.intro i_x157_3 (cgK_4 hk (rfl : (x157_1 : Int32).toInt = _) (rfl : (x157_2 : Int32).toInt = _) (rfl : (x157_3 : Int32).toInt = _) (show (0 : Int32).toInt = 0 from by decide))))))))) hP hD hS (lv_sub hl [0, 1, 2, 3] rfl)
  have J134 : ∀ (x134_1 : Int32) (x134_2 : Int32) (y134_0 : Int32) (w134 : va_W) (H : Heap) (locs : List Loc) (ls : Array Slot), HT q (TX q cI cJ cZ bb bs bp) w134 → Sm [31] [(31, 3), (31, 4), (31, 5), (31, 6), (31, 7)] w w134 → (In 0 1 x134_1) → (In 0 1000 x134_2) → (In 0 1 y134_0) → (In 0 256 (fI w134 31 4)) → (In 0 1000 (fI w134 31 5)) → (∀ (n : Nat) (r : Int) (t : PS), It_X10_step n 134 x134_1.toInt x134_2.toInt y134_0.toInt 0 (vw w134) r t → M_X10_step (vw w) r t) → va_P D vwCl w134 H → va_D A w134 → va_S A s.heap H locs → lv_has ls 5 [(0, .ref (q 31)), (1, .int x134_1), (2, .int x134_2)] → W p l e R s m args below meth c H locs 0 0 Q (F0 m 134 ls [.int y134_0]) := by
    intro x134_1 x134_2 y134_0 w134 H locs ls hW_w134 hM_w134 i_x134_1 i_x134_2 i_y134_0 g134_31_4 g134_31_5 hmi_134 hP hD hS hl
    refine lv_istore_n (lv' := [(3, .int y134_0), (0, .ref (q 31)), (1, .int x134_1), (2, .int x134_2)]) hx hb dX10_step_134 rfl hl (by decide) rfl (fun ls hl => ?_)
    refine lv_aload_n hx hb dX10_step_135 rfl (lv_at hl 1 rfl) ?_
    refine gt_X10 hx hb hts hown hK hP 31 (hW_w134.o tX_31) 4 (by decide) wd_196 rfl (hW_w134.fi tX_31 rfl) dX10_step_136 ?_
    refine lv_bipush (v := 48) hx hb dX10_step_139 (by decide) ?_
    refine lv_icmp_lt (tgt := 157) hx hb dX10_step_141 (by decide) (fun c_16 => ?_) (fun c_16 => ?_)
    · exact J157 x134_1 x134_2 y134_0 w134 _ _ ls hW_w134 hM_w134 i_x134_1 i_x134_2 i_y134_0 (In_w (R_lt_l g134_31_4 (In_lit (n := 48) (by decide) (by decide) : In 48 48 48) c_16 (by decide) : In 0 47 (fI w134 31 4)) (by decide) : In 0 256 (fI w134 31 4)) g134_31_5 (fun n r t hk => (hmi_134 (n + 1) r t (rl_X10_step_134 (n := n) (And.intro (tyX hW_w134) (And.intro i_x134_1 (And.intro i_x134_2 (And.intro i_y134_0 (Or.inl (And.intro (z_lt c_16 (hW_w134.vi tX_31 rfl) (show (48 : Int32).toInt = 48 from by decide)) (cgK_4 hk (rfl : (x134_1 : Int32).toInt = _) (rfl : (x134_2 : Int32).toInt = _) (rfl : (y134_0 : Int32).toInt = _) rfl)))))))))) hP hD hS (lv_sub hl [1, 2, 3, 0] rfl)
    · refine lv_aload_n hx hb dX10_step_144 rfl (lv_at hl 1 rfl) ?_
      refine gt_X10 hx hb hts hown hK hP 31 (hW_w134.o tX_31) 4 (by decide) wd_196 rfl (hW_w134.fi tX_31 rfl) dX10_step_145 ?_
      refine lv_bipush (v := 57) hx hb dX10_step_148 (by decide) ?_
      refine lv_icmp_gt (tgt := 157) hx hb dX10_step_150 (by decide) (fun c_17 => ?_) (fun c_17 => ?_)
      · exact J157 x134_1 x134_2 y134_0 w134 _ _ ls hW_w134 hM_w134 i_x134_1 i_x134_2 i_y134_0 (In_w (R_lt_r (In_lit (n := 57) (by decide) (by decide) : In 57 57 57) (R_nlt_l g134_31_4 (In_lit (n := 48) (by decide) (by decide) : In 48 48 48) c_16 (by decide) : In 48 256 (fI w134 31 4)) c_17 (by decide) : In 58 256 (fI w134 31 4)) (by decide) : In 0 256 (fI w134 31 4)) g134_31_5 (fun n r t hk => (hmi_134 (n + 1) r t (rl_X10_step_134 (n := n) (And.intro (tyX hW_w134) (And.intro i_x134_1 (And.intro i_x134_2 (And.intro i_y134_0 (Or.inr (And.intro (z_nlt c_16 (hW_w134.vi tX_31 rfl) (show (48 : Int32).toInt = 48 from by decide)) (Or.inl (And.intro (z_lt c_17 (show (57 : Int32).toInt = 57 from by decide) (hW_w134.vi tX_31 rfl)) (cgK_4 hk (rfl : (x134_1 : Int32).toInt = _) (rfl : (x134_2 : Int32).toInt = _) (rfl : (y134_0 : Int32).toInt = _) rfl)))))))))))) hP hD hS (lv_sub hl [1, 2, 3, 0] rfl)
      · refine lv_iconst (v := 1) hx hb dX10_step_153 (by decide) ?_
        refine lv_goto (tgt := 158) hx hb dX10_step_154 (by decide) ?_
        exact J158 x134_1 x134_2 y134_0 1 w134 _ _ ls hW_w134 hM_w134 i_x134_1 i_x134_2 i_y134_0 (In_lit (n := 1) (by decide) (by decide) : In 0 1 1) (In_w (R_nlt_r (In_lit (n := 57) (by decide) (by decide) : In 57 57 57) (R_nlt_l g134_31_4 (In_lit (n := 48) (by decide) (by decide) : In 48 48 48) c_16 (by decide) : In 48 256 (fI w134 31 4)) c_17 (by decide) : In 48 57 (fI w134 31 4)) (by decide) : In 0 256 (fI w134 31 4)) g134_31_5 (fun n r t hk => (hmi_134 (n + 1) r t (rl_X10_step_134 (n := n) (And.intro (tyX hW_w134) (And.intro i_x134_1 (And.intro i_x134_2 (And.intro i_y134_0 (Or.inr (And.intro (z_nlt c_16 (hW_w134.vi tX_31 rfl) (show (48 : Int32).toInt = 48 from by decide)) (Or.inr (And.intro (z_nlt c_17 (show (57 : Int32).toInt = 57 from by decide) (hW_w134.vi tX_31 rfl)) (cgK_4 hk (rfl : (x134_1 : Int32).toInt = _) (rfl : (x134_2 : Int32).toInt = _) (rfl : (y134_0 : Int32).toInt = _) (show (1 : Int32).toInt = 1 from by decide))))))))))))) hP hD hS (lv_sub hl [1, 2, 3, 0] rfl)
  have J133 : ∀ (x133_1 : Int32) (x133_2 : Int32) (w133 : va_W) (H : Heap) (locs : List Loc) (ls : Array Slot), HT q (TX q cI cJ cZ bb bs bp) w133 → Sm [31] [(31, 3), (31, 4), (31, 5), (31, 6), (31, 7)] w w133 → (In 0 1 x133_1) → (In 0 1000 x133_2) → (In 0 256 (fI w133 31 4)) → (In 0 1000 (fI w133 31 5)) → (∀ (n : Nat) (r : Int) (t : PS), It_X10_step n 133 x133_1.toInt x133_2.toInt 0 0 (vw w133) r t → M_X10_step (vw w) r t) → va_P D vwCl w133 H → va_D A w133 → va_S A s.heap H locs → lv_has ls 5 [(0, .ref (q 31)), (1, .int x133_1), (2, .int x133_2)] → W p l e R s m args below meth c H locs 0 0 Q (F0 m 133 ls []) := by
    intro x133_1 x133_2 w133 H locs ls hW_w133 hM_w133 i_x133_1 i_x133_2 g133_31_4 g133_31_5 hmi_133 hP hD hS hl
    refine lv_iconst (v := 0) hx hb dX10_step_133 (by decide) ?_
    exact J134 x133_1 x133_2 0 w133 _ _ ls hW_w133 hM_w133 i_x133_1 i_x133_2 (In_lit (n := 0) (by decide) (by decide) : In 0 1 0) g133_31_4 g133_31_5 (fun n r t hk => (hmi_133 (n + 1) r t (rl_X10_step_133 (n := n) (And.intro (tyX hW_w133) (And.intro i_x133_1 (And.intro i_x133_2 (cgK_4 hk (rfl : (x133_1 : Int32).toInt = _) (rfl : (x133_2 : Int32).toInt = _) (show (0 : Int32).toInt = 0 from by decide) rfl))))))) hP hD hS (lv_sub hl [0, 1, 2] rfl)
  have J108 : ∀ (x108_1 : Int32) (x108_2 : Int32) (y108_0 : Int32) (w108 : va_W) (H : Heap) (locs : List Loc) (ls : Array Slot), HT q (TX q cI cJ cZ bb bs bp) w108 → Sm [31] [(31, 3), (31, 4), (31, 5), (31, 6), (31, 7)] w w108 → (In 0 1 x108_1) → (In 0 1000 x108_2) → (In 0 256 y108_0) → (fI w108 31 4 = (fI w 31 4)) → (In 0 1000 (fI w108 31 5)) → (∀ (n : Nat) (r : Int) (t : PS), It_X10_step n 108 x108_1.toInt x108_2.toInt y108_0.toInt 0 (vw w108) r t → M_X10_step (vw w) r t) → va_P D vwCl w108 H → va_D A w108 → va_S A s.heap H locs → lv_has ls 5 [(0, .ref (q 31)), (1, .int x108_1), (2, .int x108_2)] → W p l e R s m args below meth c H locs 0 0 Q (F0 m 108 ls [.int y108_0, .ref (q 31)]) := by
    intro x108_1 x108_2 y108_0 w108 H locs ls hW_w108 hM_w108 i_x108_1 i_x108_2 i_y108_0 g108_31_4e g108_31_5 hmi_108 hP hD hS hl
    refine pt_X10 hx hb hts hown hK hP hD hS 31 (hW_w108.o tX_31) 4 (by decide) wd_196 rfl rfl (ty := .int) (v := .int y108_0) (by decide +kernel) rfl rfl (hW_w108.ll tX_31 (Nat.le_of_ble_eq_true rfl)) dX10_step_108 (fun H locs hP hD hS => fr_w (hW_w108.sI tX_31 rfl (In_w i_y108_0 (by decide) : In (-2147483648) 2147483647 y108_0)) hP hD (fun w_18 ew_18 hW_w_18 hP hD => ?_))
    have hv_w_18 := vw_sI (j := 4) hW_w108 tX_31 rfl ew_18 (rfl : (y108_0 : Int32).toInt = _)
    refine lv_aload_n hx hb dX10_step_111 rfl (lv_at hl 0 rfl) ?_
    refine gt_X10 hx hb hts hown hK hP 31 (hW_w_18.o tX_31) 4 (by decide) wd_196 rfl (hW_w_18.fi tX_31 rfl) dX10_step_112 ?_
    refine tov (v := y108_0) (fI_eq (hW_w108.lt tX_31) ew_18 (hW_w108.ll tX_31 (Nat.le_of_ble_eq_true rfl))) ?_
    refine lv_bipush (v := 97) hx hb dX10_step_115 (by decide) ?_
    refine lv_icmp_lt (tgt := 133) hx hb dX10_step_117 (by decide) (fun c_19 => ?_) (fun c_19 => ?_)
    · exact J133 x108_1 x108_2 w_18 _ _ ls hW_w_18 (hM_w108.sf (hW_w108.lt tX_31) ew_18 (by decide)) i_x108_1 i_x108_2 (In_of (fI_eq (hW_w108.lt tX_31) ew_18 (hW_w108.ll tX_31 (Nat.le_of_ble_eq_true rfl))) (In_w (R_lt_l i_y108_0 (In_lit (n := 97) (by decide) (by decide) : In 97 97 97) c_19 (by decide) : In 0 96 y108_0) (by decide) : In 0 256 y108_0)) (In_of (fI_nej (hW_w108.lt tX_31) ew_18 (by decide)) g108_31_5) (fun n r t hk => (hmi_108 (n + 1) r t (rl_X10_step_108 (n := n) (And.intro (tyX hW_w108) (And.intro i_x108_1 (And.intro i_x108_2 (And.intro i_y108_0 (Exists.intro (vw w_18) (And.intro hv_w_18 (Or.inl (And.intro (z_lt c_19 (rfl : (y108_0 : Int32).toInt = _) (show (97 : Int32).toInt = 97 from by decide)) (cgK_4 hk (rfl : (x108_1 : Int32).toInt = _) (rfl : (x108_2 : Int32).toInt = _) rfl rfl)))))))))))) hP hD hS (lv_sub hl [0, 1, 2] rfl)
    · refine lv_aload_n hx hb dX10_step_120 rfl (lv_at hl 0 rfl) ?_
      refine gt_X10 hx hb hts hown hK hP 31 (hW_w_18.o tX_31) 4 (by decide) wd_196 rfl (hW_w_18.fi tX_31 rfl) dX10_step_121 ?_
      refine tov (v := y108_0) (fI_eq (hW_w108.lt tX_31) ew_18 (hW_w108.ll tX_31 (Nat.le_of_ble_eq_true rfl))) ?_
      refine lv_bipush (v := 122) hx hb dX10_step_124 (by decide) ?_
      refine lv_icmp_gt (tgt := 133) hx hb dX10_step_126 (by decide) (fun c_20 => ?_) (fun c_20 => ?_)
      · exact J133 x108_1 x108_2 w_18 _ _ ls hW_w_18 (hM_w108.sf (hW_w108.lt tX_31) ew_18 (by decide)) i_x108_1 i_x108_2 (In_of (fI_eq (hW_w108.lt tX_31) ew_18 (hW_w108.ll tX_31 (Nat.le_of_ble_eq_true rfl))) (In_w (R_lt_r (In_lit (n := 122) (by decide) (by decide) : In 122 122 122) (R_nlt_l i_y108_0 (In_lit (n := 97) (by decide) (by decide) : In 97 97 97) c_19 (by decide) : In 97 256 y108_0) c_20 (by decide) : In 123 256 y108_0) (by decide) : In 0 256 y108_0)) (In_of (fI_nej (hW_w108.lt tX_31) ew_18 (by decide)) g108_31_5) (fun n r t hk => (hmi_108 (n + 1) r t (rl_X10_step_108 (n := n) (And.intro (tyX hW_w108) (And.intro i_x108_1 (And.intro i_x108_2 (And.intro i_y108_0 (Exists.intro (vw w_18) (And.intro hv_w_18 (Or.inr (And.intro (z_nlt c_19 (rfl : (y108_0 : Int32).toInt = _) (show (97 : Int32).toInt = 97 from by decide)) (Or.inl (And.intro (z_lt c_20 (show (122 : Int32).toInt = 122 from by decide) (rfl : (y108_0 : Int32).toInt = _)) (cgK_4 hk (rfl : (x108_1 : Int32).toInt = _) (rfl : (x108_2 : Int32).toInt = _) rfl rfl)))))))))))))) hP hD hS (lv_sub hl [0, 1, 2] rfl)
      · refine lv_iconst (v := 1) hx hb dX10_step_129 (by decide) ?_
        refine lv_goto (tgt := 134) hx hb dX10_step_130 (by decide) ?_
        exact J134 x108_1 x108_2 1 w_18 _ _ ls hW_w_18 (hM_w108.sf (hW_w108.lt tX_31) ew_18 (by decide)) i_x108_1 i_x108_2 (In_lit (n := 1) (by decide) (by decide) : In 0 1 1) (In_of (fI_eq (hW_w108.lt tX_31) ew_18 (hW_w108.ll tX_31 (Nat.le_of_ble_eq_true rfl))) (In_w (R_nlt_r (In_lit (n := 122) (by decide) (by decide) : In 122 122 122) (R_nlt_l i_y108_0 (In_lit (n := 97) (by decide) (by decide) : In 97 97 97) c_19 (by decide) : In 97 256 y108_0) c_20 (by decide) : In 97 122 y108_0) (by decide) : In 0 256 y108_0)) (In_of (fI_nej (hW_w108.lt tX_31) ew_18 (by decide)) g108_31_5) (fun n r t hk => (hmi_108 (n + 1) r t (rl_X10_step_108 (n := n) (And.intro (tyX hW_w108) (And.intro i_x108_1 (And.intro i_x108_2 (And.intro i_y108_0 (Exists.intro (vw w_18) (And.intro hv_w_18 (Or.inr (And.intro (z_nlt c_19 (rfl : (y108_0 : Int32).toInt = _) (show (97 : Int32).toInt = 97 from by decide)) (Or.inr (And.intro (z_nlt c_20 (show (122 : Int32).toInt = 122 from by decide) (rfl : (y108_0 : Int32).toInt = _)) (cgK_4 hk (rfl : (x108_1 : Int32).toInt = _) (rfl : (x108_2 : Int32).toInt = _) (show (1 : Int32).toInt = 1 from by decide) rfl)))))))))))))) hP hD hS (lv_sub hl [0, 1, 2] rfl)
  have J73 : ∀ (x73_1 : Int32) (x73_2 : Int32) (w73 : va_W) (H : Heap) (locs : List Loc) (ls : Array Slot), HT q (TX q cI cJ cZ bb bs bp) w73 → Sm [31] [(31, 3), (31, 4), (31, 5), (31, 6), (31, 7)] w w73 → (In 0 1 x73_1) → (In 0 1000 x73_2) → (fI w73 31 4 = (fI w 31 4)) → (∀ (n : Nat) (r : Int) (t : PS), It_X10_step n 73 x73_1.toInt x73_2.toInt 0 0 (vw w73) r t → M_X10_step (vw w) r t) → va_P D vwCl w73 H → va_D A w73 → va_S A s.heap H locs → lv_has ls 5 [(0, .ref (q 31)), (1, .int x73_1), (2, .int x73_2)] → W p l e R s m args below meth c H locs 0 0 Q (F0 m 73 ls []) := by
    intro x73_1 x73_2 w73 H locs ls hW_w73 hM_w73 i_x73_1 i_x73_2 g73_31_4e hmi_73 hP hD hS hl
    refine lv_aload_n hx hb dX10_step_73 rfl (lv_at hl 0 rfl) ?_
    refine lv_aload_n hx hb dX10_step_74 rfl (lv_at hl 0 rfl) ?_
    refine gt_X10 hx hb hts hown hK hP 31 (hW_w73.o tX_31) 3 (by decide) wd_194 rfl (hW_w73.fi tX_31 rfl) dX10_step_75 ?_
    refine pt_X10 hx hb hts hown hK hP hD hS 31 (hW_w73.o tX_31) 5 (by decide) wd_198 rfl rfl (ty := .int) (v := .int (fI w73 31 3)) (by decide +kernel) rfl rfl (hW_w73.ll tX_31 (Nat.le_of_ble_eq_true rfl)) dX10_step_78 (fun H locs hP hD hS => fr_w (hW_w73.sI tX_31 rfl (In_w (hW_w73.fin tX_31 rfl : In 0 1000 (fI w73 31 3)) (by decide) : In (-2147483648) 2147483647 (fI w73 31 3))) hP hD (fun w_21 ew_21 hW_w_21 hP hD => ?_))
    have hv_w_21 := vw_sI (j := 5) hW_w73 tX_31 rfl ew_21 (hW_w73.vi tX_31 rfl)
    refine lv_aload_n hx hb dX10_step_81 rfl (lv_at hl 0 rfl) ?_
    refine lv_aload_n hx hb dX10_step_82 rfl (lv_at hl 0 rfl) ?_
    refine gt_X10 hx hb hts hown hK hP 31 (hW_w_21.o tX_31) 3 (by decide) wd_194 rfl (hW_w_21.fi tX_31 rfl) dX10_step_83 ?_
    refine tov (v := (fI w73 31 3)) (fI_nej (hW_w73.lt tX_31) ew_21 (by decide)) ?_
    refine lv_aload_n hx hb dX10_step_86 rfl (lv_at hl 0 rfl) ?_
    refine gt_X10 hx hb hts hown hK hP 31 (hW_w_21.o tX_31) 1 (by decide) wd_192 rfl (hW_w_21.fi tX_31 rfl) dX10_step_87 ?_
    refine tov (v := (fI w 31 1)) ((fI_nej (hW_w73.lt tX_31) ew_21 (by decide)).trans (hM_w73.2 31 1 (by decide) (by decide))) ?_
    refine lv_icmp_ge (tgt := 105) hx hb dX10_step_90 (by decide) (fun c_22 => ?_) (fun c_22 => ?_)
    · refine lv_sipush (v := 256) hx hb dX10_step_105 (by decide) ?_
      exact J108 x73_1 x73_2 256 w_21 _ _ ls hW_w_21 (hM_w73.sf (hW_w73.lt tX_31) ew_21 (by decide)) i_x73_1 i_x73_2 (In_lit (n := 256) (by decide) (by decide) : In 0 256 256) ((fI_nej (hW_w73.lt tX_31) ew_21 (by decide)).trans g73_31_4e) (In_of (fI_eq (hW_w73.lt tX_31) ew_21 (hW_w73.ll tX_31 (Nat.le_of_ble_eq_true rfl))) (hW_w73.fin tX_31 rfl : In 0 1000 (fI w73 31 3))) (fun n r t hk => (hmi_73 (n + 1) r t (rl_X10_step_73 (n := n) (And.intro (tyX hW_w73) (And.intro i_x73_1 (And.intro i_x73_2 (Exists.intro (vw w_21) (And.intro hv_w_21 (Or.inl (And.intro (z_le c_22 (z_of (((fI_nej (hW_w73.lt tX_31) ew_21 (by decide)).trans (hM_w73.2 31 1 (by decide) (by decide))).symm.trans (fI_nej (hW_w73.lt tX_31) ew_21 (by decide))) (hW_w73.vi tX_31 rfl)) (hW_w73.vi tX_31 rfl)) (cgK_4 hk (rfl : (x73_1 : Int32).toInt = _) (rfl : (x73_2 : Int32).toInt = _) (show (256 : Int32).toInt = 256 from by decide) rfl))))))))))) hP hD hS (lv_sub hl [0, 1, 2] rfl)
    · refine lv_aload_n hx hb dX10_step_93 rfl (lv_at hl 0 rfl) ?_
      refine gt_X10 hx hb hts hown hK hP 31 (hW_w_21.o tX_31) 0 (by decide) wd_190 rfl (hW_w_21.fr tX_31 rfl) dX10_step_94 ?_
      refine lv_aload_n hx hb dX10_step_97 rfl (lv_at hl 0 rfl) ?_
      refine gt_X10 hx hb hts hown hK hP 31 (hW_w_21.o tX_31) 3 (by decide) wd_194 rfl (hW_w_21.fi tX_31 rfl) dX10_step_98 ?_
      refine tov (v := (fI w73 31 3)) (fI_nej (hW_w73.lt tX_31) ew_21 (by decide)) ?_
      refine va_iald hx hb hK hP 32 0 (hW_w_21.a tX_32) rfl (in_I (R_nle_r (hW_w.fin tX_31 rfl : In 0 1000 (fI w 31 1)) (hW_w73.fin tX_31 rfl : In 0 1000 (fI w73 31 3)) c_22 (by decide) : In 0 999 (fI w73 31 3)) (by decide)) dX10_step_101 ?_
      refine lv_topi (fun v_23 ev_23 => ?_)
      refine lv_goto (tgt := 108) hx hb dX10_step_102 (by decide) ?_
      exact J108 x73_1 x73_2 v_23 w_21 _ _ ls hW_w_21 (hM_w73.sf (hW_w73.lt tX_31) ew_21 (by decide)) i_x73_1 i_x73_2 (In_w (In_of ev_23 (hW_w_21.ap tX_32 _) : In 0 255 v_23) (by decide) : In 0 256 v_23) ((fI_nej (hW_w73.lt tX_31) ew_21 (by decide)).trans g73_31_4e) (In_of (fI_eq (hW_w73.lt tX_31) ew_21 (hW_w73.ll tX_31 (Nat.le_of_ble_eq_true rfl))) (In_w (R_nle_r (hW_w.fin tX_31 rfl : In 0 1000 (fI w 31 1)) (hW_w73.fin tX_31 rfl : In 0 1000 (fI w73 31 3)) c_22 (by decide) : In 0 999 (fI w73 31 3)) (by decide) : In 0 1000 (fI w73 31 3))) (fun n r t hk => (hmi_73 (n + 1) r t (rl_X10_step_73 (n := n) (And.intro (tyX hW_w73) (And.intro i_x73_1 (And.intro i_x73_2 (Exists.intro (vw w_21) (And.intro hv_w_21 (Or.inr (And.intro (z_nle c_22 (z_of (((fI_nej (hW_w73.lt tX_31) ew_21 (by decide)).trans (hM_w73.2 31 1 (by decide) (by decide))).symm.trans (fI_nej (hW_w73.lt tX_31) ew_21 (by decide))) (hW_w73.vi tX_31 rfl)) (hW_w73.vi tX_31 rfl)) (cgK_4 hk (rfl : (x73_1 : Int32).toInt = _) (rfl : (x73_2 : Int32).toInt = _) (z_of (ev_23.trans (congrFun (aF_cg (st_ne ew_21 (by decide))) _)) ((hW_w73.va tX_32 _).trans (congrArg (vw w73 32) (z_ix (hW_w73.vi tX_31 rfl))))) rfl))))))))))) hP hD hS (lv_sub hl [0, 1, 2] rfl)
  have J21 : ∀ (N : Nat) (x21_1 : Int32) (x21_2 : Int32) (w21 : va_W) (H : Heap) (locs : List Loc) (ls : Array Slot), (1000 - (fI w21 31 3).toInt).toNat < N → HT q (TX q cI cJ cZ bb bs bp) w21 → Sm [31] [(31, 3), (31, 4), (31, 5), (31, 6), (31, 7)] w w21 → (In 0 1 x21_1) → (In 0 1000 x21_2) → (fI w21 31 4 = (fI w 31 4)) → (∀ (n : Nat) (r : Int) (t : PS), It_X10_step n 21 x21_1.toInt x21_2.toInt 0 0 (vw w21) r t → M_X10_step (vw w) r t) → va_P D vwCl w21 H → va_D A w21 → va_S A s.heap H locs → lv_has ls 5 [(0, .ref (q 31)), (1, .int x21_1), (2, .int x21_2)] → W p l e R s m args below meth c H locs 0 0 Q (F0 m 21 ls []) := by
    intro N
    induction N with
    | zero => intro x21_1 x21_2 w21 H locs ls hmu; exact absurd hmu (Nat.not_lt_zero _)
    | succ N ih21 =>
      intro x21_1 x21_2 w21 H locs ls hmu21 hW_w21 hM_w21 i_x21_1 i_x21_2 g21_31_4e hmi_21 hP hD hS hl
      have J60 : ∀ (w60 : va_W) (H : Heap) (locs : List Loc) (ls : Array Slot), HT q (TX q cI cJ cZ bb bs bp) w60 → Sm [31] [(31, 3), (31, 4), (31, 5), (31, 6), (31, 7)] w w60 → (In 0 1 x21_1) → (In 0 1000 x21_2) → (In 1 1000 (fI w60 31 1)) → (fI w60 31 3 = (fI w21 31 3)) → (In 0 999 (fI w21 31 3)) → (fI w60 31 4 = (fI w 31 4)) → (∀ (n : Nat) (r : Int) (t : PS), It_X10_step n 60 x21_1.toInt x21_2.toInt 0 0 (vw w60) r t → M_X10_step (vw w) r t) → va_P D vwCl w60 H → va_D A w60 → va_S A s.heap H locs → lv_has ls 5 [(0, .ref (q 31)), (1, .int x21_1), (2, .int x21_2)] → W p l e R s m args below meth c H locs 0 0 Q (F0 m 60 ls []) := by
        intro w60 H locs ls hW_w60 hM_w60 i_x60_1 i_x60_2 g60_31_1 g60_31_3e g60_31_3 g60_31_4e hmi_60 hP hD hS hl
        refine lv_aload_n hx hb dX10_step_60 rfl (lv_at hl 0 rfl) ?_
        refine lv_dup hx hb dX10_step_61 rfl ?_
        refine gt_X10 hx hb hts hown hK hP 31 (hW_w60.o tX_31) 3 (by decide) wd_194 rfl (hW_w60.fi tX_31 rfl) dX10_step_62 ?_
        refine tov (v := (fI w21 31 3)) g60_31_3e ?_
        refine lv_iconst (v := 1) hx hb dX10_step_65 (by decide) ?_
        refine lv_iadd hx hb dX10_step_66 ?_
        refine pt_X10 hx hb hts hown hK hP hD hS 31 (hW_w60.o tX_31) 3 (by decide) wd_194 rfl rfl (ty := .int) (v := .int ((fI w21 31 3) + 1)) (by decide +kernel) rfl rfl (hW_w60.ll tX_31 (Nat.le_of_ble_eq_true rfl)) dX10_step_67 (fun H locs hP hD hS => fr_w (hW_w60.sI tX_31 rfl (In_w ((In_add g60_31_3 (In_lit (n := 1) (by decide) (by decide) : In 1 1 1) (by decide)) : In 1 1000 ((fI w21 31 3) + 1)) (by decide) : In 0 1000 ((fI w21 31 3) + 1))) hP hD (fun w_24 ew_24 hW_w_24 hP hD => ?_))
        have hv_w_24 := vw_sI (j := 3) hW_w60 tX_31 rfl ew_24 (z_add (t_add g60_31_3 (In_lit (n := 1) (by decide) (by decide) : In 1 1 1) (by decide)) (z_of g60_31_3e.symm (hW_w60.vi tX_31 rfl)) (show (1 : Int32).toInt = 1 from by decide))
        refine lv_goto (tgt := 21) hx hb dX10_step_70 (by decide) ?_
        exact ih21 x21_1 x21_2 w_24 _ _ ls ((by rw [show fI w_24 31 3 = ((fI w21 31 3) + 1) from (fI_eq (hW_w60.lt tX_31) ew_24 (hW_w60.ll tX_31 (Nat.le_of_ble_eq_true rfl)))]; exact mu_inc hmu21 g60_31_3 (In_lit (n := 1) (by decide) (by decide) : In 1 1 1) (by decide))) hW_w_24 (hM_w60.sf (hW_w60.lt tX_31) ew_24 (by decide)) i_x21_1 i_x21_2 ((fI_nej (hW_w60.lt tX_31) ew_24 (by decide)).trans g60_31_4e) (fun n r t hk => (hmi_60 (n + 1) r t (rl_X10_step_60 (n := n) (And.intro (tyX hW_w60) (And.intro i_x60_1 (And.intro i_x60_2 (Exists.intro (vw w_24) (And.intro hv_w_24 (cgK_4 hk (rfl : (x21_1 : Int32).toInt = _) (rfl : (x21_2 : Int32).toInt = _) rfl rfl))))))))) hP hD hS (lv_sub hl [0, 1, 2] rfl)
      refine lv_aload_n hx hb dX10_step_21 rfl (lv_at hl 0 rfl) ?_
      refine gt_X10 hx hb hts hown hK hP 31 (hW_w21.o tX_31) 3 (by decide) wd_194 rfl (hW_w21.fi tX_31 rfl) dX10_step_22 ?_
      refine lv_aload_n hx hb dX10_step_25 rfl (lv_at hl 0 rfl) ?_
      refine gt_X10 hx hb hts hown hK hP 31 (hW_w21.o tX_31) 1 (by decide) wd_192 rfl (hW_w21.fi tX_31 rfl) dX10_step_26 ?_
      refine tov (v := (fI w 31 1)) (hM_w21.2 31 1 (by decide) (by decide)) ?_
      refine lv_icmp_ge (tgt := 73) hx hb dX10_step_29 (by decide) (fun c_25 => ?_) (fun c_25 => ?_)
      · exact J73 x21_1 x21_2 w21 _ _ ls hW_w21 hM_w21 i_x21_1 i_x21_2 g21_31_4e (fun n r t hk => (hmi_21 (n + 1) r t (rl_X10_step_21 (n := n) (And.intro (tyX hW_w21) (And.intro i_x21_1 (And.intro i_x21_2 (Or.inl (And.intro (z_le c_25 (z_of (hM_w21.2 31 1 (by decide) (by decide)).symm (hW_w21.vi tX_31 rfl)) (hW_w21.vi tX_31 rfl)) (cgK_4 hk (rfl : (x21_1 : Int32).toInt = _) (rfl : (x21_2 : Int32).toInt = _) rfl rfl))))))))) hP hD hS (lv_sub hl [0, 1, 2] rfl)
      · refine lv_aload_n hx hb dX10_step_32 rfl (lv_at hl 0 rfl) ?_
        refine gt_X10 hx hb hts hown hK hP 31 (hW_w21.o tX_31) 0 (by decide) wd_190 rfl (hW_w21.fr tX_31 rfl) dX10_step_33 ?_
        refine lv_aload_n hx hb dX10_step_36 rfl (lv_at hl 0 rfl) ?_
        refine gt_X10 hx hb hts hown hK hP 31 (hW_w21.o tX_31) 3 (by decide) wd_194 rfl (hW_w21.fi tX_31 rfl) dX10_step_37 ?_
        refine va_iald hx hb hK hP 32 0 (hW_w21.a tX_32) rfl (in_I (R_nle_r (hW_w.fin tX_31 rfl : In 0 1000 (fI w 31 1)) (hW_w21.fin tX_31 rfl : In 0 1000 (fI w21 31 3)) c_25 (by decide) : In 0 999 (fI w21 31 3)) (by decide)) dX10_step_40 ?_
        refine lv_topi (fun v_26 ev_26 => ?_)
        refine lv_bipush (v := 10) hx hb dX10_step_41 (by decide) ?_
        refine lv_icmp_eq (tgt := 60) hx hb dX10_step_43 (by decide) (fun c_27 => ?_) (fun c_27 => ?_)
        · exact J60 w21 _ _ ls hW_w21 hM_w21 i_x21_1 i_x21_2 (In_of (hM_w21.2 31 1 (by decide) (by decide)) (R_nle_l (hW_w.fin tX_31 rfl : In 0 1000 (fI w 31 1)) (hW_w21.fin tX_31 rfl : In 0 1000 (fI w21 31 3)) c_25 (by decide) : In 1 1000 (fI w 31 1))) rfl (R_nle_r (hW_w.fin tX_31 rfl : In 0 1000 (fI w 31 1)) (hW_w21.fin tX_31 rfl : In 0 1000 (fI w21 31 3)) c_25 (by decide) : In 0 999 (fI w21 31 3)) g21_31_4e (fun n r t hk => (hmi_21 (n + 1) r t (rl_X10_step_21 (n := n) (And.intro (tyX hW_w21) (And.intro i_x21_1 (And.intro i_x21_2 (Or.inr (And.intro (z_nle c_25 (z_of (hM_w21.2 31 1 (by decide) (by decide)).symm (hW_w21.vi tX_31 rfl)) (hW_w21.vi tX_31 rfl)) (Or.inl (And.intro (z_eq c_27 (z_of ev_26 ((hW_w21.va tX_32 _).trans (congrArg (vw w21 32) (z_ix (hW_w21.vi tX_31 rfl))))) (show (10 : Int32).toInt = 10 from by decide)) (cgK_4 hk (rfl : (x21_1 : Int32).toInt = _) (rfl : (x21_2 : Int32).toInt = _) rfl rfl))))))))))) hP hD hS (lv_sub hl [0, 1, 2] rfl)
        · refine lv_aload_n hx hb dX10_step_46 rfl (lv_at hl 0 rfl) ?_
          refine gt_X10 hx hb hts hown hK hP 31 (hW_w21.o tX_31) 0 (by decide) wd_190 rfl (hW_w21.fr tX_31 rfl) dX10_step_47 ?_
          refine lv_aload_n hx hb dX10_step_50 rfl (lv_at hl 0 rfl) ?_
          refine gt_X10 hx hb hts hown hK hP 31 (hW_w21.o tX_31) 3 (by decide) wd_194 rfl (hW_w21.fi tX_31 rfl) dX10_step_51 ?_
          refine va_iald hx hb hK hP 32 0 (hW_w21.a tX_32) rfl (in_I (R_nle_r (hW_w.fin tX_31 rfl : In 0 1000 (fI w 31 1)) (hW_w21.fin tX_31 rfl : In 0 1000 (fI w21 31 3)) c_25 (by decide) : In 0 999 (fI w21 31 3)) (by decide)) dX10_step_54 ?_
          refine tov (v := v_26) ((congrFun (hM_w21.hA (by decide)) _).trans ((congrFun (hM_w21.hA (by decide)) _).symm.trans ev_26.symm)) ?_
          refine lv_bipush (v := 32) hx hb dX10_step_55 (by decide) ?_
          refine lv_icmp_ne (tgt := 73) hx hb dX10_step_57 (by decide) (fun c_28 => ?_) (fun c_28 => ?_)
          · exact J73 x21_1 x21_2 w21 _ _ ls hW_w21 hM_w21 i_x21_1 i_x21_2 g21_31_4e (fun n r t hk => (hmi_21 (n + 1) r t (rl_X10_step_21 (n := n) (And.intro (tyX hW_w21) (And.intro i_x21_1 (And.intro i_x21_2 (Or.inr (And.intro (z_nle c_25 (z_of (hM_w21.2 31 1 (by decide) (by decide)).symm (hW_w21.vi tX_31 rfl)) (hW_w21.vi tX_31 rfl)) (Or.inr (And.intro (z_neq c_27 (z_of ev_26 ((hW_w21.va tX_32 _).trans (congrArg (vw w21 32) (z_ix (hW_w21.vi tX_31 rfl))))) (show (10 : Int32).toInt = 10 from by decide)) (Or.inr (And.intro (z_neq c_28 (z_of ev_26 ((hW_w21.va tX_32 _).trans (congrArg (vw w21 32) (z_ix (hW_w21.vi tX_31 rfl))))) (show (32 : Int32).toInt = 32 from by decide)) (cgK_4 hk (rfl : (x21_1 : Int32).toInt = _) (rfl : (x21_2 : Int32).toInt = _) rfl rfl))))))))))))) hP hD hS (lv_sub hl [0, 1, 2] rfl)
          · exact J60 w21 _ _ ls hW_w21 hM_w21 i_x21_1 i_x21_2 (In_of (hM_w21.2 31 1 (by decide) (by decide)) (R_nle_l (hW_w.fin tX_31 rfl : In 0 1000 (fI w 31 1)) (hW_w21.fin tX_31 rfl : In 0 1000 (fI w21 31 3)) c_25 (by decide) : In 1 1000 (fI w 31 1))) rfl (R_nle_r (hW_w.fin tX_31 rfl : In 0 1000 (fI w 31 1)) (hW_w21.fin tX_31 rfl : In 0 1000 (fI w21 31 3)) c_25 (by decide) : In 0 999 (fI w21 31 3)) g21_31_4e (fun n r t hk => (hmi_21 (n + 1) r t (rl_X10_step_21 (n := n) (And.intro (tyX hW_w21) (And.intro i_x21_1 (And.intro i_x21_2 (Or.inr (And.intro (z_nle c_25 (z_of (hM_w21.2 31 1 (by decide) (by decide)).symm (hW_w21.vi tX_31 rfl)) (hW_w21.vi tX_31 rfl)) (Or.inr (And.intro (z_neq c_27 (z_of ev_26 ((hW_w21.va tX_32 _).trans (congrArg (vw w21 32) (z_ix (hW_w21.vi tX_31 rfl))))) (show (10 : Int32).toInt = 10 from by decide)) (Or.inl (And.intro (z_eq c_28 (z_of ev_26 ((hW_w21.va tX_32 _).trans (congrArg (vw w21 32) (z_ix (hW_w21.vi tX_31 rfl))))) (show (32 : Int32).toInt = 32 from by decide)) (cgK_4 hk (rfl : (x21_1 : Int32).toInt = _) (rfl : (x21_2 : Int32).toInt = _) rfl rfl))))))))))))) hP hD hS (lv_sub hl [0, 1, 2] rfl)
  have J15 : ∀ (y15_0 : Int32) (w15 : va_W) (H : Heap) (locs : List Loc) (ls : Array Slot), HT q (TX q cI cJ cZ bb bs bp) w15 → Sm [31] [(31, 3), (31, 4), (31, 5), (31, 6), (31, 7)] w w15 → (In 0 1 y15_0) → (fI w15 31 4 = (fI w 31 4)) → (∀ (n : Nat) (r : Int) (t : PS), It_X10_step n 15 y15_0.toInt 0 0 0 (vw w15) r t → M_X10_step (vw w) r t) → va_P D vwCl w15 H → va_D A w15 → va_S A s.heap H locs → lv_has ls 5 [(0, .ref (q 31))] → W p l e R s m args below meth c H locs 0 0 Q (F0 m 15 ls [.int y15_0]) := by
    intro y15_0 w15 H locs ls hW_w15 hM_w15 i_y15_0 g15_31_4e hmi_15 hP hD hS hl
    refine lv_istore_n (lv' := [(1, .int y15_0), (0, .ref (q 31))]) hx hb dX10_step_15 rfl hl (by decide) rfl (fun ls hl => ?_)
    refine lv_aload_n hx hb dX10_step_16 rfl (lv_at hl 1 rfl) ?_
    refine gt_X10 hx hb hts hown hK hP 31 (hW_w15.o tX_31) 3 (by decide) wd_194 rfl (hW_w15.fi tX_31 rfl) dX10_step_17 ?_
    refine lv_istore_n (lv' := [(2, .int (fI w15 31 3)), (1, .int y15_0), (0, .ref (q 31))]) hx hb dX10_step_20 rfl hl (by decide) rfl (fun ls hl => ?_)
    exact J21 _ y15_0 (fI w15 31 3) w15 _ _ ls (Nat.lt_succ_self _) hW_w15 hM_w15 i_y15_0 (hW_w15.fin tX_31 rfl : In 0 1000 (fI w15 31 3)) g15_31_4e (fun n r t hk => (hmi_15 (n + 1) r t (rl_X10_step_15 (n := n) (And.intro (tyX hW_w15) (And.intro i_y15_0 (cgK_4 hk (rfl : (y15_0 : Int32).toInt = _) (hW_w15.vi tX_31 rfl) rfl rfl)))))) hP hD hS (lv_sub hl [2, 1, 0] rfl)
  refine lv_aload_n hx hb dX10_step_0 rfl (lv_at hl 0 rfl) ?_
  refine gt_X10 hx hb hts hown hK hP 31 (hW_w.o tX_31) 4 (by decide) wd_196 rfl (hW_w.fi tX_31 rfl) dX10_step_1 ?_
  refine lv_sipush (v := 258) hx hb dX10_step_4 (by decide) ?_
  refine lv_icmp_lt (tgt := 14) hx hb dX10_step_7 (by decide) (fun c_29 => ?_) (fun c_29 => ?_)
  · refine lv_iconst (v := 0) hx hb dX10_step_14 (by decide) ?_
    exact J15 0 w _ _ ls hW_w Sm.rf (In_lit (n := 0) (by decide) (by decide) : In 0 1 0) rfl (fun n r t hk => (mk_X10_step (n := n) (And.intro (tyX hW_w) (Or.inl (And.intro (z_lt c_29 (hW_w.vi tX_31 rfl) (show (258 : Int32).toInt = 258 from by decide)) (cgK_4 hk (show (0 : Int32).toInt = 0 from by decide) rfl rfl rfl)))))) hP hD hS (lv_sub hl [0] rfl)
  · refine lv_iconst (v := 1) hx hb dX10_step_10 (by decide) ?_
    refine lv_goto (tgt := 15) hx hb dX10_step_11 (by decide) ?_
    exact J15 1 w _ _ ls hW_w Sm.rf (In_lit (n := 1) (by decide) (by decide) : In 0 1 1) rfl (fun n r t hk => (mk_X10_step (n := n) (And.intro (tyX hW_w) (Or.inr (And.intro (z_nlt c_29 (hW_w.vi tX_31 rfl) (show (258 : Int32).toInt = 258 from by decide)) (cgK_4 hk (show (1 : Int32).toInt = 1 from by decide) rfl rfl rfl)))))) hP hD hS (lv_sub hl [0] rfl)
set_option maxRecDepth 100000 in
set_option maxHeartbeats 8000000 in
theorem e_X10_rewind (l : Launch) (D : va_G) (cI cJ cZ : ClassId) (q : Nat → Nat) (bb bs bp : Nat) (w : va_W) (hW_w : HT q (TX q cI cJ cZ bb bs bp) w) : Con_v l yX10_rewind cX10_rewind 1 none ({ frames := 2, cells := 0, slots := 0, locals := 47 }) D cI cJ cZ eW [.ref (q 31)] w (fun (w1 : va_W) => HT q (TX q cI cJ cZ bb bs bp) w1 ∧ Sm [31] [(31, 3), (31, 4), (31, 5), (31, 6), (31, 7)] w w1 ∧ M_X10_rewind (vw w) 0 (vw w1)) := by
  refine eQ_v rfl (by decide) (Nat.le_of_ble_eq_true rfl) ⟨rfl, rfl⟩ ?_
  intro p e R s m args below meth c A Q hx hb hml hown hts hK hE hA hR hret hP hD hS ls hl
  have hown : s.vm.findClass RX10 = some m.cls := hown
  have hl : lv_has ls 1 [(0, .ref (q 31))] := hl
  refine lv_aload_n hx hb dX10_rewind_0 rfl (lv_at hl 0 rfl) ?_
  refine lv_iconst (v := 0) hx hb dX10_rewind_1 (by decide) ?_
  refine pt_X10 hx hb hts hown hK hP hD hS 31 (hW_w.o tX_31) 3 (by decide) wd_194 rfl rfl (ty := .int) (v := .int 0) (by decide +kernel) rfl rfl (hW_w.ll tX_31 (Nat.le_of_ble_eq_true rfl)) dX10_rewind_2 (fun H locs hP hD hS => fr_w (hW_w.sI tX_31 rfl (In_lit (n := 0) (by decide) (by decide) : In 0 1000 0)) hP hD (fun w_1 ew_1 hW_w_1 hP hD => ?_))
  have hv_w_1 := vw_sI (j := 3) hW_w tX_31 rfl ew_1 (show (0 : Int32).toInt = 0 from by decide)
  refine lv_aload_n hx hb dX10_rewind_5 rfl (lv_at hl 0 rfl) ?_
  refine lv_sipush (v := 256) hx hb dX10_rewind_6 (by decide) ?_
  refine pt_X10 hx hb hts hown hK hP hD hS 31 (hW_w_1.o tX_31) 4 (by decide) wd_196 rfl rfl (ty := .int) (v := .int 256) (by decide +kernel) rfl rfl (hW_w_1.ll tX_31 (Nat.le_of_ble_eq_true rfl)) dX10_rewind_9 (fun H locs hP hD hS => fr_w (hW_w_1.sI tX_31 rfl (In_lit (n := 256) (by decide) (by decide) : In (-2147483648) 2147483647 256)) hP hD (fun w_2 ew_2 hW_w_2 hP hD => ?_))
  have hv_w_2 := vw_sI (j := 4) hW_w_1 tX_31 rfl ew_2 (show (256 : Int32).toInt = 256 from by decide)
  refine lv_aload_n hx hb dX10_rewind_12 rfl (lv_at hl 0 rfl) ?_
  refine kW_v ⟨rfl, rfl⟩ hP hD hS hA (rW_V (As := []) (rest := []) hx hb hml hown hts hK hE hP hD (e_X10_step l D cI cJ cZ q bb bs bp w_2 hW_w_2  _) ⟨⟨rfl, rfl⟩, rfl, rfl⟩ sv_X10_40 ⟨(Nat.le_trans (by decide) hR.1), (Nat.le_trans (by decide) hR.2)⟩ 31 10 (hW_w_2.o tX_31) rfl rfl rfl hl.1 rfl (Nat.le_of_ble_eq_true rfl) dX10_rewind_13) (fun w_3 H locs hw_w_3 hP hD hS => ?_)
  obtain ⟨hW_w_3, hs_w_3, hm_5⟩ := hw_w_3
  exact hret _ _ _ _ _ hP hD hS dX10_rewind_16 ⟨hW_w_3, (((Sm.rf.sf (hW_w.lt tX_31) ew_1 (by decide)).sf (hW_w_1.lt tX_31) ew_2 (by decide)).tr hs_w_3 (by decide)), (mk_X10_rewind (And.intro (tyX hW_w) (Exists.intro (vw w_1) (And.intro hv_w_1 (Exists.intro (vw w_2) (And.intro hv_w_2 (Exists.intro (vw w_3) (And.intro hm_5 (And.intro (hs_w_3.Fr hW_w_2 hW_w_3 intsX_ok intsX_ok) (And.intro (tyX hW_w_3) (And.intro rfl rfl)))))))))))⟩
set_option maxRecDepth 100000 in
set_option maxHeartbeats 8000000 in
theorem e_X1_empty_at16 (l : Launch) (D : va_G) (cI cJ cZ : ClassId) (q : Nat → Nat) (bb bs bp : Nat) (w : va_W) (hW_w : HT q (TX q cI cJ cZ bb bs bp) w) (hf_34_4 : In 0 0 (fI w 34 4)) : Con_v l yX1_empty cX1_empty 1 none ({ frames := 0, cells := 0, slots := 0, locals := 0 }) D cI cJ cZ eW [.ref (q 16)] w (fun (w1 : va_W) => HT q (TX q cI cJ cZ bb bs bp) w1 ∧ Sm [16] [(16, 0), (16, 5), (16, 8), (16, 9), (16, 17), (16, 19)] w w1 ∧ In 0 0 (fI w1 16 0) ∧ In 0 0 (fI w1 16 5) ∧ In 0 0 (fI w1 16 8) ∧ In 0 0 (fI w1 16 17) ∧ In 0 0 (fI w1 16 19) ∧ M_X1_empty_at16 (vw w) 0 (vw w1)) := by
  refine eQ_v rfl (by decide) (Nat.le_of_ble_eq_true rfl) ⟨rfl, rfl⟩ ?_
  intro p e R s m args below meth c A Q hx hb hml hown hts hK hE hA hR hret hP hD hS ls hl
  have hown : s.vm.findClass RX1 = some m.cls := hown
  have hl : lv_has ls 1 [(0, .ref (q 16))] := hl
  refine lv_aload_n hx hb dX1_empty_0 rfl (lv_at hl 0 rfl) ?_
  refine lv_iconst (v := 0) hx hb dX1_empty_1 (by decide) ?_
  refine pt_X1 hx hb hts hown hK hP hD hS 16 (hW_w.o tX_16) 0 (by decide) wd_35 rfl rfl (ty := .int) (v := .int 0) (by decide +kernel) rfl rfl (hW_w.ll tX_16 (Nat.le_of_ble_eq_true rfl)) dX1_empty_2 (fun H locs hP hD hS => fr_w (hW_w.sI tX_16 rfl (In_lit (n := 0) (by decide) (by decide) : In 0 10 0)) hP hD (fun w_1 ew_1 hW_w_1 hP hD => ?_))
  have hv_w_1 := vw_sI (j := 0) hW_w tX_16 rfl ew_1 (show (0 : Int32).toInt = 0 from by decide)
  refine lv_aload_n hx hb dX1_empty_5 rfl (lv_at hl 0 rfl) ?_
  refine lv_iconst (v := 0) hx hb dX1_empty_6 (by decide) ?_
  refine pt_X1 hx hb hts hown hK hP hD hS 16 (hW_w_1.o tX_16) 5 (by decide) wd_54 rfl rfl (ty := .int) (v := .int 0) (by decide +kernel) rfl rfl (hW_w_1.ll tX_16 (Nat.le_of_ble_eq_true rfl)) dX1_empty_7 (fun H locs hP hD hS => fr_w (hW_w_1.sI tX_16 rfl (In_lit (n := 0) (by decide) (by decide) : In 0 8 0)) hP hD (fun w_2 ew_2 hW_w_2 hP hD => ?_))
  have hv_w_2 := vw_sI (j := 5) hW_w_1 tX_16 rfl ew_2 (show (0 : Int32).toInt = 0 from by decide)
  refine lv_aload_n hx hb dX1_empty_10 rfl (lv_at hl 0 rfl) ?_
  refine lv_iconst (v := 0) hx hb dX1_empty_11 (by decide) ?_
  refine pt_X1 hx hb hts hown hK hP hD hS 16 (hW_w_2.o tX_16) 8 (by decide) wd_63 rfl rfl (ty := .int) (v := .int 0) (by decide +kernel) rfl rfl (hW_w_2.ll tX_16 (Nat.le_of_ble_eq_true rfl)) dX1_empty_12 (fun H locs hP hD hS => fr_w (hW_w_2.sI tX_16 rfl (In_lit (n := 0) (by decide) (by decide) : In 0 24 0)) hP hD (fun w_3 ew_3 hW_w_3 hP hD => ?_))
  have hv_w_3 := vw_sI (j := 8) hW_w_2 tX_16 rfl ew_3 (show (0 : Int32).toInt = 0 from by decide)
  refine lv_aload_n hx hb dX1_empty_15 rfl (lv_at hl 0 rfl) ?_
  refine lv_sipush (v := 1000) hx hb dX1_empty_16 (by decide) ?_
  refine pt_X1 hx hb hts hown hK hP hD hS 16 (hW_w_3.o tX_16) 9 (by decide) wd_67 rfl rfl (ty := .int) (v := .int 1000) (by decide +kernel) rfl rfl (hW_w_3.ll tX_16 (Nat.le_of_ble_eq_true rfl)) dX1_empty_19 (fun H locs hP hD hS => fr_w (hW_w_3.sI tX_16 rfl (In_lit (n := 1000) (by decide) (by decide) : In (-2147483648) 2147483647 1000)) hP hD (fun w_4 ew_4 hW_w_4 hP hD => ?_))
  have hv_w_4 := vw_sI (j := 9) hW_w_3 tX_16 rfl ew_4 (show (1000 : Int32).toInt = 1000 from by decide)
  refine lv_aload_n hx hb dX1_empty_22 rfl (lv_at hl 0 rfl) ?_
  refine lv_iconst (v := 0) hx hb dX1_empty_23 (by decide) ?_
  refine pt_X1 hx hb hts hown hK hP hD hS 16 (hW_w_4.o tX_16) 17 (by decide) wd_86 rfl rfl (ty := .int) (v := .int 0) (by decide +kernel) rfl rfl (hW_w_4.ll tX_16 (Nat.le_of_ble_eq_true rfl)) dX1_empty_24 (fun H locs hP hD hS => fr_w (hW_w_4.sI tX_16 rfl (In_lit (n := 0) (by decide) (by decide) : In 0 1000 0)) hP hD (fun w_5 ew_5 hW_w_5 hP hD => ?_))
  have hv_w_5 := vw_sI (j := 17) hW_w_4 tX_16 rfl ew_5 (show (0 : Int32).toInt = 0 from by decide)
  refine lv_aload_n hx hb dX1_empty_27 rfl (lv_at hl 0 rfl) ?_
  refine lv_iconst (v := 0) hx hb dX1_empty_28 (by decide) ?_
  refine pt_X1 hx hb hts hown hK hP hD hS 16 (hW_w_5.o tX_16) 19 (by decide) wd_90 rfl rfl (ty := .int) (v := .int 0) (by decide +kernel) rfl rfl (hW_w_5.ll tX_16 (Nat.le_of_ble_eq_true rfl)) dX1_empty_29 (fun H locs hP hD hS => fr_w (hW_w_5.sI tX_16 rfl (In_lit (n := 0) (by decide) (by decide) : In 0 200 0)) hP hD (fun w_6 ew_6 hW_w_6 hP hD => ?_))
  have hv_w_6 := vw_sI (j := 19) hW_w_5 tX_16 rfl ew_6 (show (0 : Int32).toInt = 0 from by decide)
  exact hret _ _ _ _ _ hP hD hS dX1_empty_32 ⟨hW_w_6, ((((((Sm.rf.sf (hW_w.lt tX_16) ew_1 (by decide)).sf (hW_w_1.lt tX_16) ew_2 (by decide)).sf (hW_w_2.lt tX_16) ew_3 (by decide)).sf (hW_w_3.lt tX_16) ew_4 (by decide)).sf (hW_w_4.lt tX_16) ew_5 (by decide)).sf (hW_w_5.lt tX_16) ew_6 (by decide)), (In_of ((fI_nej (hW_w_5.lt tX_16) ew_6 (by decide)).trans ((fI_nej (hW_w_4.lt tX_16) ew_5 (by decide)).trans ((fI_nej (hW_w_3.lt tX_16) ew_4 (by decide)).trans ((fI_nej (hW_w_2.lt tX_16) ew_3 (by decide)).trans ((fI_nej (hW_w_1.lt tX_16) ew_2 (by decide)).trans (fI_eq (hW_w.lt tX_16) ew_1 (hW_w.ll tX_16 (Nat.le_of_ble_eq_true rfl)))))))) (In_lit (n := 0) (by decide) (by decide) : In 0 0 0)), (In_of ((fI_nej (hW_w_5.lt tX_16) ew_6 (by decide)).trans ((fI_nej (hW_w_4.lt tX_16) ew_5 (by decide)).trans ((fI_nej (hW_w_3.lt tX_16) ew_4 (by decide)).trans ((fI_nej (hW_w_2.lt tX_16) ew_3 (by decide)).trans (fI_eq (hW_w_1.lt tX_16) ew_2 (hW_w_1.ll tX_16 (Nat.le_of_ble_eq_true rfl))))))) (In_lit (n := 0) (by decide) (by decide) : In 0 0 0)), (In_of ((fI_nej (hW_w_5.lt tX_16) ew_6 (by decide)).trans ((fI_nej (hW_w_4.lt tX_16) ew_5 (by decide)).trans ((fI_nej (hW_w_3.lt tX_16) ew_4 (by decide)).trans (fI_eq (hW_w_2.lt tX_16) ew_3 (hW_w_2.ll tX_16 (Nat.le_of_ble_eq_true rfl)))))) (In_lit (n := 0) (by decide) (by decide) : In 0 0 0)), (In_of ((fI_nej (hW_w_5.lt tX_16) ew_6 (by decide)).trans (fI_eq (hW_w_4.lt tX_16) ew_5 (hW_w_4.ll tX_16 (Nat.le_of_ble_eq_true rfl)))) (In_lit (n := 0) (by decide) (by decide) : In 0 0 0)), (In_of (fI_eq (hW_w_5.lt tX_16) ew_6 (hW_w_5.ll tX_16 (Nat.le_of_ble_eq_true rfl))) (In_lit (n := 0) (by decide) (by decide) : In 0 0 0)), (mk_X1_empty_at16 (And.intro (tyX hW_w) (Exists.intro (vw w_1) (And.intro hv_w_1 (Exists.intro (vw w_2) (And.intro hv_w_2 (Exists.intro (vw w_3) (And.intro hv_w_3 (Exists.intro (vw w_4) (And.intro hv_w_4 (Exists.intro (vw w_5) (And.intro hv_w_5 (Exists.intro (vw w_6) (And.intro hv_w_6 (And.intro rfl rfl)))))))))))))))⟩
set_option maxRecDepth 100000 in
set_option maxHeartbeats 8000000 in
theorem e_X1_addOther_at16 (l : Launch) (D : va_G) (cI cJ cZ : ClassId) (q : Nat → Nat) (bb bs bp : Nat) (w : va_W) (hW_w : HT q (TX q cI cJ cZ bb bs bp) w) (p1 : Int32) (p2 : Int32) (p3 : Int32) (p4 : Int32) (i_p1 : In 6 11 p1) (i_p2 : In 0 1000 p2) (i_p3 : In 0 1000 p3) (i_p4 : In 0 1000 p4) (hf_16_8 : In 0 23 (fI w 16 8)) (hf_34_4 : In 0 0 (fI w 34 4)) : Con_v l yX1_addOther cX1_addOther 5 none ({ frames := 0, cells := 0, slots := 0, locals := 0 }) D cI cJ cZ eW [.ref (q 16), .int p1, .int p2, .int p3, .int p4] w (fun (w1 : va_W) => HT q (TX q cI cJ cZ bb bs bp) w1 ∧ Sm [16, 23, 24, 25, 26, 27] [(16, 8)] w w1 ∧ In 1 24 (fI w1 16 8) ∧ M_X1_addOther_at16 (vw w) p1.toInt p2.toInt p3.toInt p4.toInt 0 (vw w1)) := by
  refine eQ_v rfl (by decide) (Nat.le_of_ble_eq_true rfl) ⟨rfl, rfl⟩ ?_
  intro p e R s m args below meth c A Q hx hb hml hown hts hK hE hA hR hret hP hD hS ls hl
  have hown : s.vm.findClass RX1 = some m.cls := hown
  have hl : lv_has ls 5 [(0, .ref (q 16)), (1, .int p1), (2, .int p2), (3, .int p3), (4, .int p4)] := hl
  refine lv_aload_n hx hb dX1_addOther_0 rfl (lv_at hl 0 rfl) ?_
  refine gt_X1 hx hb hts hown hK hP 16 (hW_w.o tX_16) 8 (by decide) wd_63 rfl (hW_w.fi tX_16 rfl) dX1_addOther_1 ?_
  refine lv_bipush (v := 24) hx hb dX1_addOther_4 (by decide) ?_
  refine lv_icmp_ge (tgt := 73) hx hb dX1_addOther_6 (by decide) (fun c_1 => ?_) (fun c_1 => ?_)
  · exact (In_no (R_le_l (In_lit (n := 24) (by decide) (by decide) : In 24 24 24) hf_16_8 c_1 (by decide) : In 24 23 24) (by decide)).elim
  · refine lv_aload_n hx hb dX1_addOther_9 rfl (lv_at hl 0 rfl) ?_
    refine gt_X1 hx hb hts hown hK hP 16 (hW_w.o tX_16) 10 (by decide) wd_71 rfl (hW_w.fr tX_16 rfl) dX1_addOther_10 ?_
    refine lv_aload_n hx hb dX1_addOther_13 rfl (lv_at hl 0 rfl) ?_
    refine gt_X1 hx hb hts hown hK hP 16 (hW_w.o tX_16) 8 (by decide) wd_63 rfl (hW_w.fi tX_16 rfl) dX1_addOther_14 ?_
    refine lv_iload_n hx hb dX1_addOther_17 rfl (lv_at hl 1 rfl) ?_
    refine va_iast hx hb hK hP hD hS 23 0 (hW_w.a tX_23) rfl (in_I hf_16_8 (by decide)) dX1_addOther_18 (fun H locs hP hD hS => fr_w (hW_w.uA tX_23 (In_w i_p1 (by decide) : In (-2147483648) 2147483647 p1)) hP hD (fun w_2 ew_2 hW_w_2 hP hD => ?_))
    have hv_w_2 := vw_uA hW_w tX_23 ew_2 (z_ix (hW_w.vi tX_16 rfl)) (rfl : (p1 : Int32).toInt = _)
    refine lv_aload_n hx hb dX1_addOther_19 rfl (lv_at hl 0 rfl) ?_
    refine gt_X1 hx hb hts hown hK hP 16 (hW_w_2.o tX_16) 11 (by decide) wd_73 rfl (hW_w_2.fr tX_16 rfl) dX1_addOther_20 ?_
    refine lv_aload_n hx hb dX1_addOther_23 rfl (lv_at hl 0 rfl) ?_
    refine gt_X1 hx hb hts hown hK hP 16 (hW_w_2.o tX_16) 8 (by decide) wd_63 rfl (hW_w_2.fi tX_16 rfl) dX1_addOther_24 ?_
    refine tov (v := (fI w 16 8)) (fI_cg (st_ne ew_2 (by decide))) ?_
    refine lv_iload_n hx hb dX1_addOther_27 rfl (lv_at hl 2 rfl) ?_
    refine va_iast hx hb hK hP hD hS 24 0 (hW_w_2.a tX_24) rfl (in_I hf_16_8 (by decide)) dX1_addOther_28 (fun H locs hP hD hS => fr_w (hW_w_2.uA tX_24 i_p2) hP hD (fun w_3 ew_3 hW_w_3 hP hD => ?_))
    have hv_w_3 := vw_uA hW_w_2 tX_24 ew_3 (z_ix (hW_w.vi tX_16 rfl)) (rfl : (p2 : Int32).toInt = _)
    refine lv_aload_n hx hb dX1_addOther_29 rfl (lv_at hl 0 rfl) ?_
    refine gt_X1 hx hb hts hown hK hP 16 (hW_w_3.o tX_16) 12 (by decide) wd_76 rfl (hW_w_3.fr tX_16 rfl) dX1_addOther_30 ?_
    refine lv_aload_n hx hb dX1_addOther_33 rfl (lv_at hl 0 rfl) ?_
    refine gt_X1 hx hb hts hown hK hP 16 (hW_w_3.o tX_16) 8 (by decide) wd_63 rfl (hW_w_3.fi tX_16 rfl) dX1_addOther_34 ?_
    refine tov (v := (fI w 16 8)) ((fI_cg (st_ne ew_3 (by decide))).trans (fI_cg (st_ne ew_2 (by decide)))) ?_
    refine lv_iload_n hx hb dX1_addOther_37 rfl (lv_at hl 3 rfl) ?_
    refine va_iast hx hb hK hP hD hS 25 0 (hW_w_3.a tX_25) rfl (in_I hf_16_8 (by decide)) dX1_addOther_38 (fun H locs hP hD hS => fr_w (hW_w_3.uA tX_25 i_p3) hP hD (fun w_4 ew_4 hW_w_4 hP hD => ?_))
    have hv_w_4 := vw_uA hW_w_3 tX_25 ew_4 (z_ix (hW_w.vi tX_16 rfl)) (rfl : (p3 : Int32).toInt = _)
    refine lv_aload_n hx hb dX1_addOther_39 rfl (lv_at hl 0 rfl) ?_
    refine gt_X1 hx hb hts hown hK hP 16 (hW_w_4.o tX_16) 13 (by decide) wd_78 rfl (hW_w_4.fr tX_16 rfl) dX1_addOther_40 ?_
    refine lv_aload_n hx hb dX1_addOther_43 rfl (lv_at hl 0 rfl) ?_
    refine gt_X1 hx hb hts hown hK hP 16 (hW_w_4.o tX_16) 8 (by decide) wd_63 rfl (hW_w_4.fi tX_16 rfl) dX1_addOther_44 ?_
    refine tov (v := (fI w 16 8)) ((fI_cg (st_ne ew_4 (by decide))).trans ((fI_cg (st_ne ew_3 (by decide))).trans (fI_cg (st_ne ew_2 (by decide))))) ?_
    refine lv_iload hx hb dX1_addOther_47 (lv_at hl 4 rfl) ?_
    refine va_iast hx hb hK hP hD hS 26 0 (hW_w_4.a tX_26) rfl (in_I hf_16_8 (by decide)) dX1_addOther_49 (fun H locs hP hD hS => fr_w (hW_w_4.uA tX_26 i_p4) hP hD (fun w_5 ew_5 hW_w_5 hP hD => ?_))
    have hv_w_5 := vw_uA hW_w_4 tX_26 ew_5 (z_ix (hW_w.vi tX_16 rfl)) (rfl : (p4 : Int32).toInt = _)
    refine lv_aload_n hx hb dX1_addOther_50 rfl (lv_at hl 0 rfl) ?_
    refine gt_X1 hx hb hts hown hK hP 16 (hW_w_5.o tX_16) 14 (by decide) wd_80 rfl (hW_w_5.fr tX_16 rfl) dX1_addOther_51 ?_
    refine lv_aload_n hx hb dX1_addOther_54 rfl (lv_at hl 0 rfl) ?_
    refine gt_X1 hx hb hts hown hK hP 16 (hW_w_5.o tX_16) 8 (by decide) wd_63 rfl (hW_w_5.fi tX_16 rfl) dX1_addOther_55 ?_
    refine tov (v := (fI w 16 8)) ((fI_cg (st_ne ew_5 (by decide))).trans ((fI_cg (st_ne ew_4 (by decide))).trans ((fI_cg (st_ne ew_3 (by decide))).trans (fI_cg (st_ne ew_2 (by decide)))))) ?_
    refine lv_aload_n hx hb dX1_addOther_58 rfl (lv_at hl 0 rfl) ?_
    refine gt_X1 hx hb hts hown hK hP 16 (hW_w_5.o tX_16) 17 (by decide) wd_86 rfl (hW_w_5.fi tX_16 rfl) dX1_addOther_59 ?_
    refine tov (v := (fI w 16 17)) ((fI_cg (st_ne ew_5 (by decide))).trans ((fI_cg (st_ne ew_4 (by decide))).trans ((fI_cg (st_ne ew_3 (by decide))).trans (fI_cg (st_ne ew_2 (by decide)))))) ?_
    refine va_iast hx hb hK hP hD hS 27 0 (hW_w_5.a tX_27) rfl (in_I hf_16_8 (by decide)) dX1_addOther_62 (fun H locs hP hD hS => fr_w (hW_w_5.uA tX_27 (hW_w.fin tX_16 rfl : In 0 1000 (fI w 16 17))) hP hD (fun w_6 ew_6 hW_w_6 hP hD => ?_))
    have hv_w_6 := vw_uA hW_w_5 tX_27 ew_6 (z_ix (hW_w.vi tX_16 rfl)) (hW_w.vi tX_16 rfl)
    refine lv_aload_n hx hb dX1_addOther_63 rfl (lv_at hl 0 rfl) ?_
    refine lv_dup hx hb dX1_addOther_64 rfl ?_
    refine gt_X1 hx hb hts hown hK hP 16 (hW_w_6.o tX_16) 8 (by decide) wd_63 rfl (hW_w_6.fi tX_16 rfl) dX1_addOther_65 ?_
    refine tov (v := (fI w 16 8)) ((fI_cg (st_ne ew_6 (by decide))).trans ((fI_cg (st_ne ew_5 (by decide))).trans ((fI_cg (st_ne ew_4 (by decide))).trans ((fI_cg (st_ne ew_3 (by decide))).trans (fI_cg (st_ne ew_2 (by decide))))))) ?_
    refine lv_iconst (v := 1) hx hb dX1_addOther_68 (by decide) ?_
    refine lv_iadd hx hb dX1_addOther_69 ?_
    refine pt_X1 hx hb hts hown hK hP hD hS 16 (hW_w_6.o tX_16) 8 (by decide) wd_63 rfl rfl (ty := .int) (v := .int ((fI w 16 8) + 1)) (by decide +kernel) rfl rfl (hW_w_6.ll tX_16 (Nat.le_of_ble_eq_true rfl)) dX1_addOther_70 (fun H locs hP hD hS => fr_w (hW_w_6.sI tX_16 rfl (In_w ((In_add hf_16_8 (In_lit (n := 1) (by decide) (by decide) : In 1 1 1) (by decide)) : In 1 24 ((fI w 16 8) + 1)) (by decide) : In 0 24 ((fI w 16 8) + 1))) hP hD (fun w_7 ew_7 hW_w_7 hP hD => ?_))
    have hv_w_7 := vw_sI (j := 8) hW_w_6 tX_16 rfl ew_7 (z_add (t_add hf_16_8 (In_lit (n := 1) (by decide) (by decide) : In 1 1 1) (by decide)) (hW_w.vi tX_16 rfl) (show (1 : Int32).toInt = 1 from by decide))
    exact hret _ _ _ _ _ hP hD hS dX1_addOther_73 ⟨hW_w_7, ((((((Sm.rf.sa ew_2 (by decide)).sa ew_3 (by decide)).sa ew_4 (by decide)).sa ew_5 (by decide)).sa ew_6 (by decide)).sf (hW_w_6.lt tX_16) ew_7 (by decide)), (In_of (fI_eq (hW_w_6.lt tX_16) ew_7 (hW_w_6.ll tX_16 (Nat.le_of_ble_eq_true rfl))) ((In_add hf_16_8 (In_lit (n := 1) (by decide) (by decide) : In 1 1 1) (by decide)) : In 1 24 ((fI w 16 8) + 1))), (mk_X1_addOther_at16 (And.intro (tyX hW_w) (And.intro i_p1 (And.intro i_p2 (And.intro i_p3 (And.intro i_p4 (And.intro (z_nle c_1 (show (24 : Int32).toInt = 24 from by decide) (hW_w.vi tX_16 rfl)) (Exists.intro (vw w_2) (And.intro hv_w_2 (Exists.intro (vw w_3) (And.intro hv_w_3 (Exists.intro (vw w_4) (And.intro hv_w_4 (Exists.intro (vw w_5) (And.intro hv_w_5 (Exists.intro (vw w_6) (And.intro hv_w_6 (Exists.intro (vw w_7) (And.intro hv_w_7 (And.intro rfl rfl))))))))))))))))))))⟩
set_option maxRecDepth 100000 in
set_option maxHeartbeats 8000000 in
theorem e_X8_fails (l : Launch) (D : va_G) (cI cJ cZ : ClassId) (q : Nat → Nat) (bb bs : Nat) (w : va_W) (hW_w : HT q (TX q cI cJ cZ bb bs 16) w) (p1 : Int32) (i_p1 : In 1 5 p1) : Con_i l yX8_fails cX8_fails 2 (some .boolean) ({ frames := 0, cells := 0, slots := 0, locals := 0 }) D cI cJ cZ eW [.ref (q 34), .int p1] w (fun (r : Int32) (w1 : va_W) => HT q (TX q cI cJ cZ bb bs 16) w1 ∧ Sm [34] [(34, 2), (34, 3)] w w1 ∧ In 0 0 r ∧ M_X8_fails (vw w) p1.toInt r.toInt (vw w1)) := by
  refine eQ_z rfl (by decide) (Nat.le_of_ble_eq_true rfl) ⟨rfl, rfl⟩ ?_
  intro p e R s m args below meth c A Q hx hb hml hown hts hK hE hA hR hret hP hD hS ls hl
  have hown : s.vm.findClass RX8 = some m.cls := hown
  have hl : lv_has ls 2 [(0, .ref (q 34)), (1, .int p1)] := hl
  refine lv_aload_n hx hb dX8_fails_0 rfl (lv_at hl 0 rfl) ?_
  refine lv_iload_n hx hb dX8_fails_1 rfl (lv_at hl 1 rfl) ?_
  refine pt_X8 hx hb hts hown hK hP hD hS 34 (hW_w.o tX_34) 2 (by decide) wd_229 rfl rfl (ty := .int) (v := .int p1) (by decide +kernel) rfl rfl (hW_w.ll tX_34 (Nat.le_of_ble_eq_true rfl)) dX8_fails_2 (fun H locs hP hD hS => fr_w (hW_w.sI tX_34 rfl (In_w i_p1 (by decide) : In (-2147483648) 2147483647 p1)) hP hD (fun w_1 ew_1 hW_w_1 hP hD => ?_))
  have hv_w_1 := vw_sI (j := 2) hW_w tX_34 rfl ew_1 (rfl : (p1 : Int32).toInt = _)
  refine lv_aload_n hx hb dX8_fails_5 rfl (lv_at hl 0 rfl) ?_
  refine lv_aload_n hx hb dX8_fails_6 rfl (lv_at hl 0 rfl) ?_
  refine gt_X8 hx hb hts hown hK hP 34 (hW_w_1.o tX_34) 0 (by decide) wd_227 rfl (hW_w_1.fr tX_34 rfl) dX8_fails_7 ?_
  refine gt_X10 hx hb hts hown hK hP 31 (hW_w_1.o tX_31) 5 (by decide) wd_197 rfl (hW_w_1.fi tX_31 rfl) dX8_fails_10 ?_
  refine tov (v := (fI w 31 5)) (fI_cg (st_ne ew_1 (by decide))) ?_
  refine pt_X8 hx hb hts hown hK hP hD hS 34 (hW_w_1.o tX_34) 3 (by decide) wd_231 rfl rfl (ty := .int) (v := .int (fI w 31 5)) (by decide +kernel) rfl rfl (hW_w_1.ll tX_34 (Nat.le_of_ble_eq_true rfl)) dX8_fails_13 (fun H locs hP hD hS => fr_w (hW_w_1.sI tX_34 rfl (In_any (fI w 31 5))) hP hD (fun w_2 ew_2 hW_w_2 hP hD => ?_))
  have hv_w_2 := vw_sI (j := 3) hW_w_1 tX_34 rfl ew_2 (hW_w.vi tX_31 rfl)
  refine lv_iconst (v := 0) hx hb dX8_fails_16 (by decide) ?_
  exact hret _ _ _ _ _ _ hP hD hS dX8_fails_17 (In_lit (n := 0) (by decide) (by decide) : In 0 1 0) ⟨hW_w_2, ((Sm.rf.sf (hW_w.lt tX_34) ew_1 (by decide)).sf (hW_w_1.lt tX_34) ew_2 (by decide)), (In_lit (n := 0) (by decide) (by decide) : In 0 0 0), (mk_X8_fails (And.intro (tyX hW_w) (And.intro i_p1 (Exists.intro (vw w_1) (And.intro hv_w_1 (Exists.intro (vw w_2) (And.intro hv_w_2 (And.intro (show (0 : Int32).toInt = 0 from by decide) rfl))))))))⟩
set_option maxRecDepth 100000 in
set_option maxHeartbeats 8000000 in
theorem e_X8_passes (l : Launch) (D : va_G) (cI cJ cZ : ClassId) (q : Nat → Nat) (bb bs : Nat) (w : va_W) (hW_w : HT q (TX q cI cJ cZ bb bs 16) w) (p1 : Int32) (i_p1 : In 41 271 p1) : Con_i l yX8_passes cX8_passes 2 (some .boolean) ({ frames := 2, cells := 0, slots := 0, locals := 47 }) D cI cJ cZ eW [.ref (q 34), .int p1] w (fun (r : Int32) (w1 : va_W) => HT q (TX q cI cJ cZ bb bs 16) w1 ∧ Sm [31, 34] [(31, 3), (31, 4), (31, 5), (31, 6), (31, 7), (34, 2), (34, 3)] w w1 ∧ In 0 1 r ∧ M_X8_passes (vw w) p1.toInt r.toInt (vw w1)) := by
  refine eQ_z rfl (by decide) (Nat.le_of_ble_eq_true rfl) ⟨rfl, rfl⟩ ?_
  intro p e R s m args below meth c A Q hx hb hml hown hts hK hE hA hR hret hP hD hS ls hl
  have hown : s.vm.findClass RX8 = some m.cls := hown
  have hl : lv_has ls 2 [(0, .ref (q 34)), (1, .int p1)] := hl
  refine lv_aload_n hx hb dX8_passes_0 rfl (lv_at hl 0 rfl) ?_
  refine gt_X8 hx hb hts hown hK hP 34 (hW_w.o tX_34) 0 (by decide) wd_227 rfl (hW_w.fr tX_34 rfl) dX8_passes_1 ?_
  refine gt_X10 hx hb hts hown hK hP 31 (hW_w.o tX_31) 4 (by decide) wd_195 rfl (hW_w.fi tX_31 rfl) dX8_passes_4 ?_
  refine lv_iload_n hx hb dX8_passes_7 rfl (lv_at hl 1 rfl) ?_
  refine lv_icmp_eq (tgt := 17) hx hb dX8_passes_8 (by decide) (fun c_1 => ?_) (fun c_1 => ?_)
  · refine lv_aload_n hx hb dX8_passes_17 rfl (lv_at hl 0 rfl) ?_
    refine gt_X8 hx hb hts hown hK hP 34 (hW_w.o tX_34) 0 (by decide) wd_227 rfl (hW_w.fr tX_34 rfl) dX8_passes_18 ?_
    refine kW_v ⟨rfl, rfl⟩ hP hD hS hA (rW_V (As := []) (rest := []) hx hb hml hown hts hK hE hP hD (e_X10_step l D cI cJ cZ q bb bs 16 w hW_w  _) ⟨⟨rfl, rfl⟩, rfl, rfl⟩ sv_X8_59 ⟨(Nat.le_trans (by decide) hR.1), (Nat.le_trans (by decide) hR.2)⟩ 31 10 (hW_w.o tX_31) rfl rfl rfl hl.1 rfl (Nat.le_of_ble_eq_true rfl) dX8_passes_21) (fun w_2 H locs hw_w_2 hP hD hS => ?_)
    obtain ⟨hW_w_2, hs_w_2, hm_4⟩ := hw_w_2
    refine lv_iconst (v := 1) hx hb dX8_passes_24 (by decide) ?_
    exact hret _ _ _ _ _ _ hP hD hS dX8_passes_25 (In_lit (n := 1) (by decide) (by decide) : In 0 1 1) ⟨hW_w_2, (Sm.rf.tr hs_w_2 (by decide)), (In_lit (n := 1) (by decide) (by decide) : In 0 1 1), (mk_X8_passes (And.intro (tyX hW_w) (And.intro i_p1 (Or.inl (And.intro (z_eq c_1 (hW_w.vi tX_31 rfl) (rfl : (p1 : Int32).toInt = _)) (Exists.intro (vw w_2) (And.intro hm_4 (And.intro (hs_w_2.Fr hW_w hW_w_2 intsX_ok intsX_ok) (And.intro (tyX hW_w_2) (And.intro (show (1 : Int32).toInt = 1 from by decide) rfl))))))))))⟩
  · refine lv_aload_n hx hb dX8_passes_11 rfl (lv_at hl 0 rfl) ?_
    refine lv_iconst (v := 1) hx hb dX8_passes_12 (by decide) ?_
    refine kW_i ⟨rfl, rfl⟩ hP hD hS hA (rW_V (As := [.int 1]) (rest := []) hx hb hml hown hts hK hE hP hD (e_X8_fails l D cI cJ cZ q bb bs w hW_w 1 (In_lit (n := 1) (by decide) (by decide) : In 1 5 1) _) ⟨⟨rfl, rfl⟩, rfl, rfl⟩ sv_X8_56 ⟨(Nat.le_trans (by decide) hR.1), (Nat.le_trans (by decide) hR.2)⟩ 34 8 (hW_w.o tX_34) rfl rfl rfl hl.1 rfl (Nat.le_of_ble_eq_true rfl) dX8_passes_13) (fun r_6 w_5 H locs hw_w_5 hP hD hS => ?_)
    obtain ⟨hW_w_5, hs_w_5, i_r_6, hm_7⟩ := hw_w_5
    refine tov (v := 0) (In_one i_r_6 (by decide)) ?_
    exact hret _ _ _ _ _ _ hP hD hS dX8_passes_16 (In_lit (n := 0) (by decide) (by decide) : In 0 1 0) ⟨hW_w_5, (Sm.rf.tr hs_w_5 (by decide)), (In_lit (n := 0) (by decide) (by decide) : In 0 1 0), (mk_X8_passes (And.intro (tyX hW_w) (And.intro i_p1 (Or.inr (And.intro (z_neq c_1 (hW_w.vi tX_31 rfl) (rfl : (p1 : Int32).toInt = _)) (Exists.intro r_6.toInt (Exists.intro (vw w_5) (And.intro (cgM_1 hm_7 (show (1 : Int32).toInt = 1 from by decide)) (And.intro (hs_w_5.Fr hW_w hW_w_5 intsX_ok intsX_ok) (And.intro (tyX hW_w_5) (And.intro i_r_6 (And.intro (show (0 : Int32).toInt = 0 from by decide) rfl))))))))))))⟩
set_option maxRecDepth 100000 in
set_option maxHeartbeats 8000000 in
theorem e_X1_addCode_at16 (l : Launch) (D : va_G) (cI cJ cZ : ClassId) (q : Nat → Nat) (bb bs bp : Nat) (w : va_W) (hW_w : HT q (TX q cI cJ cZ bb bs bp) w) (p1 : Int32) (p2 : Int32) (i_p1 : In (-1) 15 p1) (hf_16_8 : In 0 23 (fI w 16 8)) (hok : okl p1 p2) : Con_v l yX1_addCode cX1_addCode 3 none ({ frames := 0, cells := 0, slots := 0, locals := 0 }) D cI cJ cZ eW [.ref (q 16), .int p1, .int p2] w (fun (w1 : va_W) => HT q (TX q cI cJ cZ bb bs bp) w1 ∧ Sm [16, 29] [(16, 17)] w w1 ∧ In 1 1000 (fI w1 16 17) ∧ M_X1_addCode_at16 (vw w) p1.toInt p2.toInt 0 (vw w1)) := by
  refine eQ_v rfl (by decide) (Nat.le_of_ble_eq_true rfl) ⟨rfl, rfl⟩ ?_
  intro p e R s m args below meth c A Q hx hb hml hown hts hK hE hA hR hret hP hD hS ls hl
  have hown : s.vm.findClass RX1 = some m.cls := hown
  have hl : lv_has ls 3 [(0, .ref (q 16)), (1, .int p1), (2, .int p2)] := hl
  refine lv_aload_n hx hb dX1_addCode_0 rfl (lv_at hl 0 rfl) ?_
  refine gt_X1 hx hb hts hown hK hP 16 (hW_w.o tX_16) 17 (by decide) wd_86 rfl (hW_w.fi tX_16 rfl) dX1_addCode_1 ?_
  refine lv_sipush (v := 1000) hx hb dX1_addCode_4 (by decide) ?_
  refine lv_icmp_ge (tgt := 34) hx hb dX1_addCode_7 (by decide) (fun c_1 => ?_) (fun c_1 => ?_)
  · exact hret _ _ _ _ _ hP hD hS dX1_addCode_34 ⟨hW_w, Sm.rf, (In_w (R_le_r (In_lit (n := 1000) (by decide) (by decide) : In 1000 1000 1000) (hW_w.fin tX_16 rfl : In 0 1000 (fI w 16 17)) c_1 (by decide) : In 1000 1000 (fI w 16 17)) (by decide) : In 1 1000 (fI w 16 17)), (mk_X1_addCode_at16 (And.intro (tyX hW_w) (And.intro i_p1 (Or.inl (And.intro (z_le c_1 (show (1000 : Int32).toInt = 1000 from by decide) (hW_w.vi tX_16 rfl)) (And.intro rfl rfl))))))⟩
  · refine lv_aload_n hx hb dX1_addCode_10 rfl (lv_at hl 0 rfl) ?_
    refine gt_X1 hx hb hts hown hK hP 16 (hW_w.o tX_16) 16 (by decide) wd_84 rfl (hW_w.fr tX_16 rfl) dX1_addCode_11 ?_
    refine lv_aload_n hx hb dX1_addCode_14 rfl (lv_at hl 0 rfl) ?_
    refine gt_X1 hx hb hts hown hK hP 16 (hW_w.o tX_16) 17 (by decide) wd_86 rfl (hW_w.fi tX_16 rfl) dX1_addCode_15 ?_
    refine lv_iload_n hx hb dX1_addCode_18 rfl (lv_at hl 2 rfl) ?_
    refine lv_iconst (v := 4) hx hb dX1_addCode_19 (by decide) ?_
    refine lv_ishl hx hb dX1_addCode_20 ?_
    refine lv_topi (fun v_2 ev_2 => ?_)
    refine lv_iload_n hx hb dX1_addCode_21 rfl (lv_at hl 1 rfl) ?_
    refine lv_ior hx hb dX1_addCode_22 ?_
    refine lv_topi (fun v_3 ev_3 => ?_)
    refine va_iast hx hb hK hP hD hS 29 0 (hW_w.a tX_29) rfl (in_I (R_nle_r (In_lit (n := 1000) (by decide) (by decide) : In 1000 1000 1000) (hW_w.fin tX_16 rfl : In 0 1000 (fI w 16 17)) c_1 (by decide) : In 0 999 (fI w 16 17)) (by decide)) dX1_addCode_23 (fun H locs hP hD hS => fr_w (hW_w.uA tX_29 (okc_st ev_2 ev_3 hok i_p1)) hP hD (fun w_4 ew_4 hW_w_4 hP hD => ?_))
    have hv_w_4 := vw_uA hW_w tX_29 ew_4 (z_ix (hW_w.vi tX_16 rfl)) (z_of ev_3 (z_or (z_of ev_2 (z_shl (rfl : (p2 : Int32).toInt = _) (show (4 : Int32).toInt = 4 from by decide))) (rfl : (p1 : Int32).toInt = _)))
    refine lv_aload_n hx hb dX1_addCode_24 rfl (lv_at hl 0 rfl) ?_
    refine lv_dup hx hb dX1_addCode_25 rfl ?_
    refine gt_X1 hx hb hts hown hK hP 16 (hW_w_4.o tX_16) 17 (by decide) wd_86 rfl (hW_w_4.fi tX_16 rfl) dX1_addCode_26 ?_
    refine tov (v := (fI w 16 17)) (fI_cg (st_ne ew_4 (by decide))) ?_
    refine lv_iconst (v := 1) hx hb dX1_addCode_29 (by decide) ?_
    refine lv_iadd hx hb dX1_addCode_30 ?_
    refine pt_X1 hx hb hts hown hK hP hD hS 16 (hW_w_4.o tX_16) 17 (by decide) wd_86 rfl rfl (ty := .int) (v := .int ((fI w 16 17) + 1)) (by decide +kernel) rfl rfl (hW_w_4.ll tX_16 (Nat.le_of_ble_eq_true rfl)) dX1_addCode_31 (fun H locs hP hD hS => fr_w (hW_w_4.sI tX_16 rfl (In_w ((In_add (R_nle_r (In_lit (n := 1000) (by decide) (by decide) : In 1000 1000 1000) (hW_w.fin tX_16 rfl : In 0 1000 (fI w 16 17)) c_1 (by decide) : In 0 999 (fI w 16 17)) (In_lit (n := 1) (by decide) (by decide) : In 1 1 1) (by decide)) : In 1 1000 ((fI w 16 17) + 1)) (by decide) : In 0 1000 ((fI w 16 17) + 1))) hP hD (fun w_5 ew_5 hW_w_5 hP hD => ?_))
    have hv_w_5 := vw_sI (j := 17) hW_w_4 tX_16 rfl ew_5 (z_add (t_add (R_nle_r (In_lit (n := 1000) (by decide) (by decide) : In 1000 1000 1000) (hW_w.fin tX_16 rfl : In 0 1000 (fI w 16 17)) c_1 (by decide) : In 0 999 (fI w 16 17)) (In_lit (n := 1) (by decide) (by decide) : In 1 1 1) (by decide)) (hW_w.vi tX_16 rfl) (show (1 : Int32).toInt = 1 from by decide))
    exact hret _ _ _ _ _ hP hD hS dX1_addCode_34 ⟨hW_w_5, ((Sm.rf.sa ew_4 (by decide)).sf (hW_w_4.lt tX_16) ew_5 (by decide)), (In_of (fI_eq (hW_w_4.lt tX_16) ew_5 (hW_w_4.ll tX_16 (Nat.le_of_ble_eq_true rfl))) ((In_add (R_nle_r (In_lit (n := 1000) (by decide) (by decide) : In 1000 1000 1000) (hW_w.fin tX_16 rfl : In 0 1000 (fI w 16 17)) c_1 (by decide) : In 0 999 (fI w 16 17)) (In_lit (n := 1) (by decide) (by decide) : In 1 1 1) (by decide)) : In 1 1000 ((fI w 16 17) + 1))), (mk_X1_addCode_at16 (And.intro (tyX hW_w) (And.intro i_p1 (Or.inr (And.intro (z_nle c_1 (show (1000 : Int32).toInt = 1000 from by decide) (hW_w.vi tX_16 rfl)) (Exists.intro (vw w_4) (And.intro hv_w_4 (Exists.intro (vw w_5) (And.intro hv_w_5 (And.intro rfl rfl))))))))))⟩
set_option maxRecDepth 100000 in
set_option maxHeartbeats 8000000 in
theorem e_X8_comparison (l : Launch) (D : va_G) (cI cJ cZ : ClassId) (q : Nat → Nat) (bb bs : Nat) (w : va_W) (hW_w : HT q (TX q cI cJ cZ bb bs 16) w) (p0 : Int32) (hf_16_8 : In 0 23 (fI w 16 8)) : Con_i l yX8_comparison cX8_comparison 1 (some .int) ({ frames := 0, cells := 0, slots := 0, locals := 0 }) D cI cJ cZ eW [.int p0] w (fun (r : Int32) (w1 : va_W) => HT q (TX q cI cJ cZ bb bs 16) w1 ∧ Sm [] [] w w1 ∧ In (-1) 12 r ∧ ((r = -1 ∨ 10 ≤ r.toInt)) ∧ M_X8_comparison (vw w) p0.toInt r.toInt (vw w1)) := by
  refine eQ_i rfl (by decide) (Nat.le_of_ble_eq_true rfl) ⟨rfl, rfl⟩ ?_
  intro p e R s m args below meth c A Q hx hb hml hown hts hK hE hA hR hret hP hD hS ls hl
  have hown : s.vm.findClass RX8 = some m.cls := hown
  have hl : lv_has ls 1 [(0, .int p0)] := hl
  refine lv_iload_n hx hb dX8_comparison_0 rfl (lv_at hl 0 rfl) ?_
  refine lv_bipush (v := 60) hx hb dX8_comparison_1 (by decide) ?_
  refine lv_icmp_ne (tgt := 9) hx hb dX8_comparison_3 (by decide) (fun c_1 => ?_) (fun c_1 => ?_)
  · refine lv_iload_n hx hb dX8_comparison_9 rfl (lv_at hl 0 rfl) ?_
    refine lv_bipush (v := 62) hx hb dX8_comparison_10 (by decide) ?_
    refine lv_icmp_ne (tgt := 18) hx hb dX8_comparison_12 (by decide) (fun c_2 => ?_) (fun c_2 => ?_)
    · refine lv_iload_n hx hb dX8_comparison_18 rfl (lv_at hl 0 rfl) ?_
      refine lv_bipush (v := 61) hx hb dX8_comparison_19 (by decide) ?_
      refine lv_icmp_ne (tgt := 29) hx hb dX8_comparison_21 (by decide) (fun c_3 => ?_) (fun c_3 => ?_)
      · refine lv_iconst (v := (-1)) hx hb dX8_comparison_29 (by decide) ?_
        exact hret _ _ _ _ _ _ hP hD hS dX8_comparison_30 ⟨hW_w, Sm.rf, (In_lit (n := (-1)) (by decide) (by decide) : In (-1) 12 (-1)), (by decide), (mk_X8_comparison (And.intro (tyX hW_w) (Or.inr (And.intro (z_neq c_1 (rfl : (p0 : Int32).toInt = _) (show (60 : Int32).toInt = 60 from by decide)) (Or.inr (And.intro (z_neq c_2 (rfl : (p0 : Int32).toInt = _) (show (62 : Int32).toInt = 62 from by decide)) (Or.inr (And.intro (z_neq c_3 (rfl : (p0 : Int32).toInt = _) (show (61 : Int32).toInt = 61 from by decide)) (And.intro (show ((-1) : Int32).toInt = (-1) from by decide) rfl)))))))))⟩
      · refine lv_bipush (v := 12) hx hb dX8_comparison_24 (by decide) ?_
        refine lv_goto (tgt := 30) hx hb dX8_comparison_26 (by decide) ?_
        exact hret _ _ _ _ _ _ hP hD hS dX8_comparison_30 ⟨hW_w, Sm.rf, (In_lit (n := 12) (by decide) (by decide) : In (-1) 12 12), (by decide), (mk_X8_comparison (And.intro (tyX hW_w) (Or.inr (And.intro (z_neq c_1 (rfl : (p0 : Int32).toInt = _) (show (60 : Int32).toInt = 60 from by decide)) (Or.inr (And.intro (z_neq c_2 (rfl : (p0 : Int32).toInt = _) (show (62 : Int32).toInt = 62 from by decide)) (Or.inl (And.intro (z_eq c_3 (rfl : (p0 : Int32).toInt = _) (show (61 : Int32).toInt = 61 from by decide)) (And.intro (show (12 : Int32).toInt = 12 from by decide) rfl)))))))))⟩
    · refine lv_bipush (v := 11) hx hb dX8_comparison_15 (by decide) ?_
      exact hret _ _ _ _ _ _ hP hD hS dX8_comparison_17 ⟨hW_w, Sm.rf, (In_lit (n := 11) (by decide) (by decide) : In (-1) 12 11), (by decide), (mk_X8_comparison (And.intro (tyX hW_w) (Or.inr (And.intro (z_neq c_1 (rfl : (p0 : Int32).toInt = _) (show (60 : Int32).toInt = 60 from by decide)) (Or.inl (And.intro (z_eq c_2 (rfl : (p0 : Int32).toInt = _) (show (62 : Int32).toInt = 62 from by decide)) (And.intro (show (11 : Int32).toInt = 11 from by decide) rfl)))))))⟩
  · refine lv_bipush (v := 10) hx hb dX8_comparison_6 (by decide) ?_
    exact hret _ _ _ _ _ _ hP hD hS dX8_comparison_8 ⟨hW_w, Sm.rf, (In_lit (n := 10) (by decide) (by decide) : In (-1) 12 10), (by decide), (mk_X8_comparison (And.intro (tyX hW_w) (Or.inl (And.intro (z_eq c_1 (rfl : (p0 : Int32).toInt = _) (show (60 : Int32).toInt = 60 from by decide)) (And.intro (show (10 : Int32).toInt = 10 from by decide) rfl)))))⟩
set_option maxRecDepth 100000 in
set_option maxHeartbeats 8000000 in
theorem e_X8_opens (l : Launch) (D : va_G) (cI cJ cZ : ClassId) (q : Nat → Nat) (bb bs : Nat) (w : va_W) (hW_w : HT q (TX q cI cJ cZ bb bs 16) w) (hf_16_8 : In 0 23 (fI w 16 8)) : Con_i l yX8_opens cX8_opens 1 (some .boolean) ({ frames := 2, cells := 0, slots := 0, locals := 47 }) D cI cJ cZ eW [.ref (q 34)] w (fun (r : Int32) (w1 : va_W) => HT q (TX q cI cJ cZ bb bs 16) w1 ∧ Sm [31, 34] [(31, 3), (31, 4), (31, 5), (31, 6), (31, 7), (34, 2), (34, 3), (34, 4)] w w1 ∧ In 0 1 r ∧ (r = 0 → fI w1 34 4 = fI w 34 4 ∧ In 8 2147483647 (fI w1 34 4)) ∧ (¬ r = 0 → In (-2147483647) 8 (fI w1 34 4)) ∧ ((¬ r = 0 → fI w1 34 4 = fI w 34 4 + 1 ∧ In (-2147483648) 7 (fI w 34 4))) ∧ M_X8_opens (vw w) r.toInt (vw w1)) := by
  refine eQ_z rfl (by decide) (Nat.le_of_ble_eq_true rfl) ⟨rfl, rfl⟩ ?_
  intro p e R s m args below meth c A Q hx hb hml hown hts hK hE hA hR hret hP hD hS ls hl
  have hown : s.vm.findClass RX8 = some m.cls := hown
  have hl : lv_has ls 1 [(0, .ref (q 34))] := hl
  refine lv_aload_n hx hb dX8_opens_0 rfl (lv_at hl 0 rfl) ?_
  refine gt_X8 hx hb hts hown hK hP 34 (hW_w.o tX_34) 4 (by decide) wd_233 rfl (hW_w.fi tX_34 rfl) dX8_opens_1 ?_
  refine lv_bipush (v := 8) hx hb dX8_opens_4 (by decide) ?_
  refine lv_icmp_lt (tgt := 15) hx hb dX8_opens_6 (by decide) (fun c_1 => ?_) (fun c_1 => ?_)
  · refine lv_aload_n hx hb dX8_opens_15 rfl (lv_at hl 0 rfl) ?_
    refine lv_dup hx hb dX8_opens_16 rfl ?_
    refine gt_X8 hx hb hts hown hK hP 34 (hW_w.o tX_34) 4 (by decide) wd_233 rfl (hW_w.fi tX_34 rfl) dX8_opens_17 ?_
    refine lv_iconst (v := 1) hx hb dX8_opens_20 (by decide) ?_
    refine lv_iadd hx hb dX8_opens_21 ?_
    refine pt_X8 hx hb hts hown hK hP hD hS 34 (hW_w.o tX_34) 4 (by decide) wd_233 rfl rfl (ty := .int) (v := .int ((fI w 34 4) + 1)) (by decide +kernel) rfl rfl (hW_w.ll tX_34 (Nat.le_of_ble_eq_true rfl)) dX8_opens_22 (fun H locs hP hD hS => fr_w (hW_w.sI tX_34 rfl (In_w ((In_add (R_lt_l (In_any (fI w 34 4)) (In_lit (n := 8) (by decide) (by decide) : In 8 8 8) c_1 (by decide) : In (-2147483648) 7 (fI w 34 4)) (In_lit (n := 1) (by decide) (by decide) : In 1 1 1) (by decide)) : In (-2147483647) 8 ((fI w 34 4) + 1)) (by decide) : In (-2147483648) 2147483647 ((fI w 34 4) + 1))) hP hD (fun w_2 ew_2 hW_w_2 hP hD => ?_))
    have hv_w_2 := vw_sI (j := 4) hW_w tX_34 rfl ew_2 (z_add (t_add (R_lt_l (In_any (fI w 34 4)) (In_lit (n := 8) (by decide) (by decide) : In 8 8 8) c_1 (by decide) : In (-2147483648) 7 (fI w 34 4)) (In_lit (n := 1) (by decide) (by decide) : In 1 1 1) (by decide)) (hW_w.vi tX_34 rfl) (show (1 : Int32).toInt = 1 from by decide))
    refine lv_aload_n hx hb dX8_opens_25 rfl (lv_at hl 0 rfl) ?_
    refine gt_X8 hx hb hts hown hK hP 34 (hW_w_2.o tX_34) 0 (by decide) wd_227 rfl (hW_w_2.fr tX_34 rfl) dX8_opens_26 ?_
    refine kW_v ⟨rfl, rfl⟩ hP hD hS hA (rW_V (As := []) (rest := []) hx hb hml hown hts hK hE hP hD (e_X10_step l D cI cJ cZ q bb bs 16 w_2 hW_w_2  _) ⟨⟨rfl, rfl⟩, rfl, rfl⟩ sv_X8_59 ⟨(Nat.le_trans (by decide) hR.1), (Nat.le_trans (by decide) hR.2)⟩ 31 10 (hW_w_2.o tX_31) rfl rfl rfl hl.1 rfl (Nat.le_of_ble_eq_true rfl) dX8_opens_29) (fun w_3 H locs hw_w_3 hP hD hS => ?_)
    obtain ⟨hW_w_3, hs_w_3, hm_5⟩ := hw_w_3
    refine lv_iconst (v := 1) hx hb dX8_opens_32 (by decide) ?_
    exact hret _ _ _ _ _ _ hP hD hS dX8_opens_33 (In_lit (n := 1) (by decide) (by decide) : In 0 1 1) ⟨hW_w_3, ((Sm.rf.sf (hW_w.lt tX_34) ew_2 (by decide)).tr hs_w_3 (by decide)), (In_lit (n := 1) (by decide) (by decide) : In 0 1 1), (fun h => absurd h (by decide)), (fun h => (In_of ((hs_w_3.gI (by decide)).trans (fI_eq (hW_w.lt tX_34) ew_2 (hW_w.ll tX_34 (Nat.le_of_ble_eq_true rfl)))) ((In_add (R_lt_l (In_any (fI w 34 4)) (In_lit (n := 8) (by decide) (by decide) : In 8 8 8) c_1 (by decide) : In (-2147483648) 7 (fI w 34 4)) (In_lit (n := 1) (by decide) (by decide) : In 1 1 1) (by decide)) : In (-2147483647) 8 ((fI w 34 4) + 1)))), (fun h => ⟨((hs_w_3.gI (by decide)).trans (fI_eq (hW_w.lt tX_34) ew_2 (hW_w.ll tX_34 (Nat.le_of_ble_eq_true rfl)))), (R_lt_l (In_any (fI w 34 4)) (In_lit (n := 8) (by decide) (by decide) : In 8 8 8) c_1 (by decide) : In (-2147483648) 7 (fI w 34 4))⟩), (mk_X8_opens (And.intro (tyX hW_w) (Or.inl (And.intro (z_lt c_1 (hW_w.vi tX_34 rfl) (show (8 : Int32).toInt = 8 from by decide)) (Exists.intro (vw w_2) (And.intro hv_w_2 (Exists.intro (vw w_3) (And.intro hm_5 (And.intro (hs_w_3.Fr hW_w_2 hW_w_3 intsX_ok intsX_ok) (And.intro (tyX hW_w_3) (And.intro (show (1 : Int32).toInt = 1 from by decide) rfl)))))))))))⟩
  · refine lv_aload_n hx hb dX8_opens_9 rfl (lv_at hl 0 rfl) ?_
    refine lv_iconst (v := 5) hx hb dX8_opens_10 (by decide) ?_
    refine kW_i ⟨rfl, rfl⟩ hP hD hS hA (rW_V (As := [.int 5]) (rest := []) hx hb hml hown hts hK hE hP hD (e_X8_fails l D cI cJ cZ q bb bs w hW_w 5 (In_lit (n := 5) (by decide) (by decide) : In 1 5 5) _) ⟨⟨rfl, rfl⟩, rfl, rfl⟩ sv_X8_56 ⟨(Nat.le_trans (by decide) hR.1), (Nat.le_trans (by decide) hR.2)⟩ 34 8 (hW_w.o tX_34) rfl rfl rfl hl.1 rfl (Nat.le_of_ble_eq_true rfl) dX8_opens_11) (fun r_7 w_6 H locs hw_w_6 hP hD hS => ?_)
    obtain ⟨hW_w_6, hs_w_6, i_r_7, hm_8⟩ := hw_w_6
    refine tov (v := 0) (In_one i_r_7 (by decide)) ?_
    exact hret _ _ _ _ _ _ hP hD hS dX8_opens_14 (In_lit (n := 0) (by decide) (by decide) : In 0 1 0) ⟨hW_w_6, (Sm.rf.tr hs_w_6 (by decide)), (In_lit (n := 0) (by decide) (by decide) : In 0 1 0), (fun h => ⟨(hs_w_6.2 34 4 (by decide) (by decide)), (In_of (hs_w_6.2 34 4 (by decide) (by decide)) (R_nlt_l (In_any (fI w 34 4)) (In_lit (n := 8) (by decide) (by decide) : In 8 8 8) c_1 (by decide) : In 8 2147483647 (fI w 34 4)))⟩), (fun h => absurd rfl h), (fun h => absurd rfl h), (mk_X8_opens (And.intro (tyX hW_w) (Or.inr (And.intro (z_nlt c_1 (hW_w.vi tX_34 rfl) (show (8 : Int32).toInt = 8 from by decide)) (Exists.intro r_7.toInt (Exists.intro (vw w_6) (And.intro (cgM_1 hm_8 (show (5 : Int32).toInt = 5 from by decide)) (And.intro (hs_w_6.Fr hW_w hW_w_6 intsX_ok intsX_ok) (And.intro (tyX hW_w_6) (And.intro i_r_7 (And.intro (show (0 : Int32).toInt = 0 from by decide) rfl)))))))))))⟩
set_option maxRecDepth 100000 in
set_option maxHeartbeats 8000000 in
theorem e_X8_passesComparison (l : Launch) (D : va_G) (cI cJ cZ : ClassId) (q : Nat → Nat) (bb bs : Nat) (w : va_W) (hW_w : HT q (TX q cI cJ cZ bb bs 16) w) (p1 : Int32) (i_p1 : In (-1) 12 p1) (hf_16_8 : In 0 23 (fI w 16 8)) (hf_16_17 : In 1 1000 (fI w 16 17)) : Con_i l yX8_passesComparison cX8_passesComparison 2 (some .boolean) ({ frames := 2, cells := 0, slots := 0, locals := 47 }) D cI cJ cZ eW [.ref (q 34), .int p1] w (fun (r : Int32) (w1 : va_W) => HT q (TX q cI cJ cZ bb bs 16) w1 ∧ Sm [31, 34] [(31, 3), (31, 4), (31, 5), (31, 6), (31, 7), (34, 2), (34, 3)] w w1 ∧ In 0 1 r ∧ (r = 0 → In (-1) (-1) p1) ∧ (¬ r = 0 → In 0 12 p1) ∧ M_X8_passesComparison (vw w) p1.toInt r.toInt (vw w1)) := by
  refine eQ_z rfl (by decide) (Nat.le_of_ble_eq_true rfl) ⟨rfl, rfl⟩ ?_
  intro p e R s m args below meth c A Q hx hb hml hown hts hK hE hA hR hret hP hD hS ls hl
  have hown : s.vm.findClass RX8 = some m.cls := hown
  have hl : lv_has ls 2 [(0, .ref (q 34)), (1, .int p1)] := hl
  refine lv_iload_n hx hb dX8_passesComparison_0 rfl (lv_at hl 1 rfl) ?_
  refine lv_iconst (v := (-1)) hx hb dX8_passesComparison_1 (by decide) ?_
  refine lv_icmp_ne (tgt := 11) hx hb dX8_passesComparison_2 (by decide) (fun c_1 => ?_) (fun c_1 => ?_)
  · refine lv_aload_n hx hb dX8_passesComparison_11 rfl (lv_at hl 0 rfl) ?_
    refine gt_X8 hx hb hts hown hK hP 34 (hW_w.o tX_34) 0 (by decide) wd_227 rfl (hW_w.fr tX_34 rfl) dX8_passesComparison_12 ?_
    refine kW_v ⟨rfl, rfl⟩ hP hD hS hA (rW_V (As := []) (rest := []) hx hb hml hown hts hK hE hP hD (e_X10_step l D cI cJ cZ q bb bs 16 w hW_w  _) ⟨⟨rfl, rfl⟩, rfl, rfl⟩ sv_X8_59 ⟨(Nat.le_trans (by decide) hR.1), (Nat.le_trans (by decide) hR.2)⟩ 31 10 (hW_w.o tX_31) rfl rfl rfl hl.1 rfl (Nat.le_of_ble_eq_true rfl) dX8_passesComparison_15) (fun w_2 H locs hw_w_2 hP hD hS => ?_)
    obtain ⟨hW_w_2, hs_w_2, hm_4⟩ := hw_w_2
    refine lv_iconst (v := 1) hx hb dX8_passesComparison_18 (by decide) ?_
    exact hret _ _ _ _ _ _ hP hD hS dX8_passesComparison_19 (In_lit (n := 1) (by decide) (by decide) : In 0 1 1) ⟨hW_w_2, (Sm.rf.tr hs_w_2 (by decide)), (In_lit (n := 1) (by decide) (by decide) : In 0 1 1), (fun h => absurd h (by decide)), (fun h => (R_ne_l i_p1 (In_lit (n := (-1)) (by decide) (by decide) : In (-1) (-1) (-1)) c_1 (by decide) : In 0 12 p1)), (mk_X8_passesComparison (And.intro (tyX hW_w) (And.intro i_p1 (Or.inr (And.intro (z_neq c_1 (rfl : (p1 : Int32).toInt = _) (show ((-1) : Int32).toInt = (-1) from by decide)) (Exists.intro (vw w_2) (And.intro hm_4 (And.intro (hs_w_2.Fr hW_w hW_w_2 intsX_ok intsX_ok) (And.intro (tyX hW_w_2) (And.intro (show (1 : Int32).toInt = 1 from by decide) rfl))))))))))⟩
  · refine lv_aload_n hx hb dX8_passesComparison_5 rfl (lv_at hl 0 rfl) ?_
    refine lv_iconst (v := 1) hx hb dX8_passesComparison_6 (by decide) ?_
    refine kW_i ⟨rfl, rfl⟩ hP hD hS hA (rW_V (As := [.int 1]) (rest := []) hx hb hml hown hts hK hE hP hD (e_X8_fails l D cI cJ cZ q bb bs w hW_w 1 (In_lit (n := 1) (by decide) (by decide) : In 1 5 1) _) ⟨⟨rfl, rfl⟩, rfl, rfl⟩ sv_X8_56 ⟨(Nat.le_trans (by decide) hR.1), (Nat.le_trans (by decide) hR.2)⟩ 34 8 (hW_w.o tX_34) rfl rfl rfl hl.1 rfl (Nat.le_of_ble_eq_true rfl) dX8_passesComparison_7) (fun r_6 w_5 H locs hw_w_5 hP hD hS => ?_)
    obtain ⟨hW_w_5, hs_w_5, i_r_6, hm_7⟩ := hw_w_5
    refine tov (v := 0) (In_one i_r_6 (by decide)) ?_
    exact hret _ _ _ _ _ _ hP hD hS dX8_passesComparison_10 (In_lit (n := 0) (by decide) (by decide) : In 0 1 0) ⟨hW_w_5, (Sm.rf.tr hs_w_5 (by decide)), (In_lit (n := 0) (by decide) (by decide) : In 0 1 0), (fun h => (R_eq_l i_p1 (In_lit (n := (-1)) (by decide) (by decide) : In (-1) (-1) (-1)) c_1 (by decide) : In (-1) (-1) p1)), (fun h => absurd rfl h), (mk_X8_passesComparison (And.intro (tyX hW_w) (And.intro i_p1 (Or.inl (And.intro (z_eq c_1 (rfl : (p1 : Int32).toInt = _) (show ((-1) : Int32).toInt = (-1) from by decide)) (Exists.intro r_6.toInt (Exists.intro (vw w_5) (And.intro (cgM_1 hm_7 (show (1 : Int32).toInt = 1 from by decide)) (And.intro (hs_w_5.Fr hW_w hW_w_5 intsX_ok intsX_ok) (And.intro (tyX hW_w_5) (And.intro i_r_6 (And.intro (show (0 : Int32).toInt = 0 from by decide) rfl))))))))))))⟩
set_option maxRecDepth 100000 in
set_option maxHeartbeats 8000000 in
theorem e_X1_addAsked_at16 (l : Launch) (D : va_G) (cI cJ cZ : ClassId) (q : Nat → Nat) (bb bs bp : Nat) (w : va_W) (hW_w : HT q (TX q cI cJ cZ bb bs bp) w) (p1 : Int64) (hf_16_8 : In 0 23 (fI w 16 8)) : Con_v l yX1_addAsked cX1_addAsked 3 none ({ frames := 1, cells := 0, slots := 0, locals := 22 }) D cI cJ cZ eW [.ref (q 16), .long p1] w (fun (w1 : va_W) => HT q (TX q cI cJ cZ bb bs bp) w1 ∧ Sm [16, 29, 30] [(16, 17), (16, 19)] w w1 ∧ In 1 200 (fI w1 16 19) ∧ M_X1_addAsked_at16 (vw w) p1.toInt 0 (vw w1)) := by
  refine eQ_v rfl (by decide) (Nat.le_of_ble_eq_true rfl) ⟨rfl, rfl⟩ ?_
  intro p e R s m args below meth c A Q hx hb hml hown hts hK hE hA hR hret hP hD hS ls hl
  have hown : s.vm.findClass RX1 = some m.cls := hown
  have hl : lv_has ls 3 [(0, .ref (q 16)), (1, .long p1)] := hl
  refine lv_aload_n hx hb dX1_addAsked_0 rfl (lv_at hl 0 rfl) ?_
  refine gt_X1 hx hb hts hown hK hP 16 (hW_w.o tX_16) 19 (by decide) wd_90 rfl (hW_w.fi tX_16 rfl) dX1_addAsked_1 ?_
  refine lv_sipush (v := 200) hx hb dX1_addAsked_4 (by decide) ?_
  refine lv_icmp_ge (tgt := 39) hx hb dX1_addAsked_7 (by decide) (fun c_1 => ?_) (fun c_1 => ?_)
  · exact hret _ _ _ _ _ hP hD hS dX1_addAsked_39 ⟨hW_w, Sm.rf, (In_w (R_le_r (In_lit (n := 200) (by decide) (by decide) : In 200 200 200) (hW_w.fin tX_16 rfl : In 0 200 (fI w 16 19)) c_1 (by decide) : In 200 200 (fI w 16 19)) (by decide) : In 1 200 (fI w 16 19)), (mk_X1_addAsked_at16 (And.intro (tyX hW_w) (Or.inl (And.intro (z_le c_1 (show (200 : Int32).toInt = 200 from by decide) (hW_w.vi tX_16 rfl)) (And.intro rfl rfl)))))⟩
  · refine lv_aload_n hx hb dX1_addAsked_10 rfl (lv_at hl 0 rfl) ?_
    refine gt_X1 hx hb hts hown hK hP 16 (hW_w.o tX_16) 18 (by decide) wd_88 rfl (hW_w.fr tX_16 rfl) dX1_addAsked_11 ?_
    refine lv_aload_n hx hb dX1_addAsked_14 rfl (lv_at hl 0 rfl) ?_
    refine gt_X1 hx hb hts hown hK hP 16 (hW_w.o tX_16) 19 (by decide) wd_90 rfl (hW_w.fi tX_16 rfl) dX1_addAsked_15 ?_
    refine lv_lload_n hx hb dX1_addAsked_18 rfl (lv_at hl 1 rfl) ?_
    refine va_last hx hb hK hP hD hS 30 1 (hW_w.al tX_30) rfl (in_I (R_nle_r (In_lit (n := 200) (by decide) (by decide) : In 200 200 200) (hW_w.fin tX_16 rfl : In 0 200 (fI w 16 19)) c_1 (by decide) : In 0 199 (fI w 16 19)) (by decide)) dX1_addAsked_19 (fun H locs hP hD hS => fr_w (hW_w.uL tX_30) hP hD (fun w_2 ew_2 hW_w_2 hP hD => ?_))
    have hv_w_2 := vw_uL hW_w tX_30 ew_2 (z_ix (hW_w.vi tX_16 rfl)) (rfl : (p1 : Int64).toInt = _)
    refine lv_aload_n hx hb dX1_addAsked_20 rfl (lv_at hl 0 rfl) ?_
    refine lv_iconst (v := 4) hx hb dX1_addAsked_21 (by decide) ?_
    refine lv_aload_n hx hb dX1_addAsked_22 rfl (lv_at hl 0 rfl) ?_
    refine gt_X1 hx hb hts hown hK hP 16 (hW_w_2.o tX_16) 19 (by decide) wd_90 rfl (hW_w_2.fi tX_16 rfl) dX1_addAsked_23 ?_
    refine tov (v := (fI w 16 19)) (fI_cg (st_ne ew_2 (by decide))) ?_
    refine kW_v ⟨rfl, rfl⟩ hP hD hS hA (rW_V (As := [.int 4, .int (fI w 16 19)]) (rest := []) hx hb hml hown hts hK hE hP hD (e_X1_addCode_at16 l D cI cJ cZ q bb bs bp w_2 hW_w_2 4 (fI w 16 19) (In_lit (n := 4) (by decide) (by decide) : In (-1) 15 4) (In_of (fI_cg (st_ne ew_2 (by decide))) hf_16_8) (⟨(fun h => absurd h (by decide)), (fun _ => (R_nle_r (In_lit (n := 200) (by decide) (by decide) : In 200 200 200) (hW_w.fin tX_16 rfl : In 0 200 (fI w 16 19)) c_1 (by decide) : In 0 199 (fI w 16 19))), (fun h => absurd h (by decide))⟩) _) ⟨⟨rfl, rfl⟩, rfl, rfl⟩ sv_X1_74 ⟨(Nat.le_trans (by decide) hR.1), (Nat.le_trans (by decide) hR.2)⟩ 16 1 (hW_w_2.o tX_16) rfl rfl rfl hl.1 rfl (Nat.le_of_ble_eq_true rfl) dX1_addAsked_26) (fun w_3 H locs hw_w_3 hP hD hS => ?_)
    obtain ⟨hW_w_3, hs_w_3, h_5, hm_6⟩ := hw_w_3
    refine lv_aload_n hx hb dX1_addAsked_29 rfl (lv_at hl 0 rfl) ?_
    refine lv_dup hx hb dX1_addAsked_30 rfl ?_
    refine gt_X1 hx hb hts hown hK hP 16 (hW_w_3.o tX_16) 19 (by decide) wd_90 rfl (hW_w_3.fi tX_16 rfl) dX1_addAsked_31 ?_
    refine tov (v := (fI w 16 19)) ((hs_w_3.2 16 19 (by decide) (by decide)).trans (fI_cg (st_ne ew_2 (by decide)))) ?_
    refine lv_iconst (v := 1) hx hb dX1_addAsked_34 (by decide) ?_
    refine lv_iadd hx hb dX1_addAsked_35 ?_
    refine pt_X1 hx hb hts hown hK hP hD hS 16 (hW_w_3.o tX_16) 19 (by decide) wd_90 rfl rfl (ty := .int) (v := .int ((fI w 16 19) + 1)) (by decide +kernel) rfl rfl (hW_w_3.ll tX_16 (Nat.le_of_ble_eq_true rfl)) dX1_addAsked_36 (fun H locs hP hD hS => fr_w (hW_w_3.sI tX_16 rfl (In_w ((In_add (R_nle_r (In_lit (n := 200) (by decide) (by decide) : In 200 200 200) (hW_w.fin tX_16 rfl : In 0 200 (fI w 16 19)) c_1 (by decide) : In 0 199 (fI w 16 19)) (In_lit (n := 1) (by decide) (by decide) : In 1 1 1) (by decide)) : In 1 200 ((fI w 16 19) + 1)) (by decide) : In 0 200 ((fI w 16 19) + 1))) hP hD (fun w_7 ew_7 hW_w_7 hP hD => ?_))
    have hv_w_7 := vw_sI (j := 19) hW_w_3 tX_16 rfl ew_7 (z_add (t_add (R_nle_r (In_lit (n := 200) (by decide) (by decide) : In 200 200 200) (hW_w.fin tX_16 rfl : In 0 200 (fI w 16 19)) c_1 (by decide) : In 0 199 (fI w 16 19)) (In_lit (n := 1) (by decide) (by decide) : In 1 1 1) (by decide)) (hW_w.vi tX_16 rfl) (show (1 : Int32).toInt = 1 from by decide))
    exact hret _ _ _ _ _ hP hD hS dX1_addAsked_39 ⟨hW_w_7, (((Sm.rf.sa ew_2 (by decide)).tr hs_w_3 (by decide)).sf (hW_w_3.lt tX_16) ew_7 (by decide)), (In_of (fI_eq (hW_w_3.lt tX_16) ew_7 (hW_w_3.ll tX_16 (Nat.le_of_ble_eq_true rfl))) ((In_add (R_nle_r (In_lit (n := 200) (by decide) (by decide) : In 200 200 200) (hW_w.fin tX_16 rfl : In 0 200 (fI w 16 19)) c_1 (by decide) : In 0 199 (fI w 16 19)) (In_lit (n := 1) (by decide) (by decide) : In 1 1 1) (by decide)) : In 1 200 ((fI w 16 19) + 1))), (mk_X1_addAsked_at16 (And.intro (tyX hW_w) (Or.inr (And.intro (z_nle c_1 (show (200 : Int32).toInt = 200 from by decide) (hW_w.vi tX_16 rfl)) (Exists.intro (vw w_2) (And.intro hv_w_2 (Exists.intro (vw w_3) (And.intro (cgM_2 hm_6 (show (4 : Int32).toInt = 4 from by decide) (hW_w.vi tX_16 rfl)) (And.intro (hs_w_3.Fr hW_w_2 hW_w_3 intsX_ok intsX_ok) (And.intro (tyX hW_w_3) (Exists.intro (vw w_7) (And.intro hv_w_7 (And.intro rfl rfl)))))))))))))⟩
