set_option maxRecDepth 100000 in
set_option maxHeartbeats 8000000 in
theorem e_X4_total (l : Launch) (D : va_G) (cI cJ cZ : ClassId) (q : Nat → Nat) (bb bs bp : Nat) (w : va_W) (hW_w : HT q (TX q cI cJ cZ bb bs bp) w) (p1 : Int32) : Con_i l yX4_total cX4_total 4 (some .int) ({ frames := 1, cells := 0, slots := 0, locals := 24 }) D cI cJ cZ eW [.ref (q 88), .int p1] w (fun (r : Int32) (w1 : va_W) => HT q (TX q cI cJ cZ bb bs bp) w1 ∧ Sm [] [] w w1 ∧ M_X4_total (vw w) p1.toInt r.toInt (vw w1)) := by
  refine eQ_i rfl (by decide) (Nat.le_of_ble_eq_true rfl) ⟨rfl, rfl⟩ ?_
  intro p e R s m args below meth c A Q hx hb hml hown hts hK hE hA hR hret hP hD hS ls hl
  have hown : s.vm.findClass RX4 = some m.cls := hown
  have hl : lv_has ls 4 [(0, .ref (q 88)), (1, .int p1)] := hl
  have J18 : ∀ (N : Nat) (x18_2 : Int32) (x18_3 : Int32) (w18 : va_W) (H : Heap) (locs : List Loc) (ls : Array Slot), (40 - x18_3.toInt).toNat < N → HT q (TX q cI cJ cZ bb bs bp) w18 → Sm [] [] w w18 → (In 1 1 p1) → (In 0 40 x18_3) → (∀ (n : Nat) (r : Int) (t : PS), It_X4_total n 18 p1.toInt x18_2.toInt x18_3.toInt 0 0 (vw w18) r t → M_X4_total (vw w) p1.toInt r t) → va_P D vwCl w18 H → va_D A w18 → va_S A s.heap H locs → lv_has ls 4 [(0, .ref (q 88)), (1, .int p1), (2, .int x18_2), (3, .int x18_3)] → W p l e R s m args below meth c H locs 0 0 Q (F0 m 18 ls []) := by
    intro N
    induction N with
    | zero => intro x18_2 x18_3 w18 H locs ls hmu; exact absurd hmu (Nat.not_lt_zero _)
    | succ N ih18 =>
      intro x18_2 x18_3 w18 H locs ls hmu18 hW_w18 hM_w18 i_x18_1 i_x18_3 hmi_18 hP hD hS hl
      have J47 : ∀ (y47_0 : Int32) (w47 : va_W) (H : Heap) (locs : List Loc) (ls : Array Slot), HT q (TX q cI cJ cZ bb bs bp) w47 → Sm [] [] w w47 → (In 1 1 p1) → (In 0 39 x18_3) → (In 0 1 y47_0) → (In 1 40 (fI w47 88 1)) → (∀ (n : Nat) (r : Int) (t : PS), It_X4_total n 47 p1.toInt x18_2.toInt x18_3.toInt y47_0.toInt x18_2.toInt (vw w47) r t → M_X4_total (vw w) p1.toInt r t) → va_P D vwCl w47 H → va_D A w47 → va_S A s.heap H locs → lv_has ls 4 [(0, .ref (q 88)), (1, .int p1), (2, .int x18_2), (3, .int x18_3)] → W p l e R s m args below meth c H locs 0 0 Q (F0 m 47 ls [.int y47_0, .int x18_2]) := by
        intro y47_0 w47 H locs ls hW_w47 hM_w47 i_x47_1 i_x47_3 i_y47_0 g47_88_1 hmi_47 hP hD hS hl
        refine lv_iadd hx hb dX4_total_47 ?_
        refine lv_topi (fun v_1 ev_1 => ?_)
        refine lv_istore_n (lv' := [(2, .int v_1), (0, .ref (q 88)), (1, .int p1), (3, .int x18_3)]) hx hb dX4_total_48 rfl hl (by decide) rfl (fun ls hl => ?_)
        refine lv_iinc (v := (x18_3 + 1)) (lv' := [(3, .int (x18_3 + 1)), (2, .int v_1), (0, .ref (q 88)), (1, .int p1)]) hx hb dX4_total_49 hl (k := 3) rfl (rfl) (by decide) rfl (fun ls hl => ?_)
        refine lv_goto (tgt := 18) hx hb dX4_total_52 (by decide) ?_
        exact ih18 v_1 (x18_3 + 1) w47 _ _ ls (mu_inc hmu18 i_x47_3 (In_lit (n := 1) (by decide) (by decide) : In 1 1 1) (by decide)) hW_w47 hM_w47 i_x18_1 (In_w ((In_add (y := 1) i_x47_3 (In_lit (n := 1) (by decide) (by decide) : In 1 1 1) (by decide)) : In 1 40 (x18_3 + 1)) (by decide) : In 0 40 (x18_3 + 1)) (fun n r t hk => (hmi_47 (n + 1) r t (rl_X4_total_47 (n := n) (And.intro (tyX hW_w47) (And.intro i_x47_1 (And.intro i_x47_3 (And.intro i_y47_0 (cgK_5 hk (rfl : (p1 : Int32).toInt = _) (z_of ev_1 (z_addw (rfl : (x18_2 : Int32).toInt = _) (rfl : (y47_0 : Int32).toInt = _))) (z_add (t_add i_x47_3 (In_lit (n := 1) (by decide) (by decide) : In 1 1 1) (by decide)) (rfl : (x18_3 : Int32).toInt = _) (show (1 : Int32).toInt = 1 from by decide)) rfl rfl)))))))) hP hD hS (lv_sub hl [2, 3, 1, 0] rfl)
      refine lv_iload_n hx hb dX4_total_18 rfl (lv_at hl 3 rfl) ?_
      refine lv_aload_n hx hb dX4_total_19 rfl (lv_at hl 0 rfl) ?_
      refine gt_X4 hx hb hts hown hK hP 88 (hW_w18.o tX_88) 1 (by decide) wd_569 rfl (hW_w18.fi tX_88 rfl) dX4_total_20 ?_
      refine tov (v := (fI w 88 1)) (hM_w18.gI (by decide)) ?_
      refine lv_icmp_ge (tgt := 55) hx hb dX4_total_23 (by decide) (fun c_2 => ?_) (fun c_2 => ?_)
      · refine lv_iload_n hx hb dX4_total_55 rfl (lv_at hl 2 rfl) ?_
        exact hret _ _ _ _ _ _ hP hD hS dX4_total_56 ⟨hW_w18, hM_w18, (hmi_18 (0 + 1) _ _ (rl_X4_total_18 (n := 0) (And.intro (tyX hW_w18) (And.intro i_x18_1 (And.intro i_x18_3 (Or.inl (And.intro (z_le c_2 (z_of (hM_w18.gI (by decide)).symm (hW_w18.vi tX_88 rfl)) (rfl : (x18_3 : Int32).toInt = _)) (And.intro (rfl : (x18_2 : Int32).toInt = _) rfl))))))))⟩
      · refine lv_iload_n hx hb dX4_total_26 rfl (lv_at hl 2 rfl) ?_
        refine lv_aload_n hx hb dX4_total_27 rfl (lv_at hl 0 rfl) ?_
        refine gt_X4 hx hb hts hown hK hP 88 (hW_w18.o tX_88) 7 (by decide) wd_577 rfl (hW_w18.fr tX_88 rfl) dX4_total_28 ?_
        refine lv_iload_n hx hb dX4_total_31 rfl (lv_at hl 3 rfl) ?_
        refine va_iald hx hb hK hP 94 0 (hW_w18.a tX_94) rfl (in_I (R_nle_r (hW_w.fin tX_88 rfl : In 0 40 (fI w 88 1)) i_x18_3 c_2 (by decide) : In 0 39 x18_3) (by decide)) dX4_total_32 ?_
        refine lv_topi (fun v_3 ev_3 => ?_)
        refine lv_aload_n hx hb dX4_total_33 rfl (lv_at hl 0 rfl) ?_
        refine gt_X4 hx hb hts hown hK hP 88 (hW_w18.o tX_88) 5 (by decide) wd_575 rfl (hW_w18.fr tX_88 rfl) dX4_total_34 ?_
        refine lv_iload_n hx hb dX4_total_37 rfl (lv_at hl 3 rfl) ?_
        refine va_iald hx hb hK hP 92 0 (hW_w18.a tX_92) rfl (in_I (R_nle_r (hW_w.fin tX_88 rfl : In 0 40 (fI w 88 1)) i_x18_3 c_2 (by decide) : In 0 39 x18_3) (by decide)) dX4_total_38 ?_
        refine lv_topi (fun v_4 ev_4 => ?_)
        refine lv_icmp_ne (tgt := 46) hx hb dX4_total_39 (by decide) (fun c_5 => ?_) (fun c_5 => ?_)
        · refine lv_iconst (v := 0) hx hb dX4_total_46 (by decide) ?_
          exact J47 0 w18 _ _ ls hW_w18 hM_w18 i_x18_1 (R_nle_r (hW_w.fin tX_88 rfl : In 0 40 (fI w 88 1)) i_x18_3 c_2 (by decide) : In 0 39 x18_3) (In_lit (n := 0) (by decide) (by decide) : In 0 1 0) (In_of (hM_w18.gI (by decide)) (R_nle_l (hW_w.fin tX_88 rfl : In 0 40 (fI w 88 1)) i_x18_3 c_2 (by decide) : In 1 40 (fI w 88 1))) (fun n r t hk => (hmi_18 (n + 1) r t (rl_X4_total_18 (n := n) (And.intro (tyX hW_w18) (And.intro i_x18_1 (And.intro i_x18_3 (Or.inr (And.intro (z_nle c_2 (z_of (hM_w18.gI (by decide)).symm (hW_w18.vi tX_88 rfl)) (rfl : (x18_3 : Int32).toInt = _)) (Or.inr (And.intro (z_neq c_5 (z_of ev_3 ((hW_w18.va tX_94 _).trans (congrArg (vw w18 94) (z_ix (rfl : (x18_3 : Int32).toInt = _))))) (z_of ev_4 ((hW_w18.va tX_92 _).trans (congrArg (vw w18 92) (z_ix (rfl : (x18_3 : Int32).toInt = _)))))) (cgK_5 hk (rfl : (p1 : Int32).toInt = _) (rfl : (x18_2 : Int32).toInt = _) (rfl : (x18_3 : Int32).toInt = _) (show (0 : Int32).toInt = 0 from by decide) (rfl : (x18_2 : Int32).toInt = _)))))))))))) hP hD hS (lv_sub hl [0, 1, 2, 3] rfl)
        · refine lv_iconst (v := 1) hx hb dX4_total_42 (by decide) ?_
          refine lv_goto (tgt := 47) hx hb dX4_total_43 (by decide) ?_
          exact J47 1 w18 _ _ ls hW_w18 hM_w18 i_x18_1 (R_nle_r (hW_w.fin tX_88 rfl : In 0 40 (fI w 88 1)) i_x18_3 c_2 (by decide) : In 0 39 x18_3) (In_lit (n := 1) (by decide) (by decide) : In 0 1 1) (In_of (hM_w18.gI (by decide)) (R_nle_l (hW_w.fin tX_88 rfl : In 0 40 (fI w 88 1)) i_x18_3 c_2 (by decide) : In 1 40 (fI w 88 1))) (fun n r t hk => (hmi_18 (n + 1) r t (rl_X4_total_18 (n := n) (And.intro (tyX hW_w18) (And.intro i_x18_1 (And.intro i_x18_3 (Or.inr (And.intro (z_nle c_2 (z_of (hM_w18.gI (by decide)).symm (hW_w18.vi tX_88 rfl)) (rfl : (x18_3 : Int32).toInt = _)) (Or.inl (And.intro (z_eq c_5 (z_of ev_3 ((hW_w18.va tX_94 _).trans (congrArg (vw w18 94) (z_ix (rfl : (x18_3 : Int32).toInt = _))))) (z_of ev_4 ((hW_w18.va tX_92 _).trans (congrArg (vw w18 92) (z_ix (rfl : (x18_3 : Int32).toInt = _)))))) (cgK_5 hk (rfl : (p1 : Int32).toInt = _) (rfl : (x18_2 : Int32).toInt = _) (rfl : (x18_3 : Int32).toInt = _) (show (1 : Int32).toInt = 1 from by decide) (rfl : (x18_2 : Int32).toInt = _)))))))))))) hP hD hS (lv_sub hl [0, 1, 2, 3] rfl)
  have J64 : ∀ (N : Nat) (x64_2 : Int32) (x64_3 : Int32) (w64 : va_W) (H : Heap) (locs : List Loc) (ls : Array Slot), (10 - x64_3.toInt).toNat < N → HT q (TX q cI cJ cZ bb bs bp) w64 → Sm [] [] w w64 → (In 3 3 p1) → (In 0 10 x64_3) → (∀ (n : Nat) (r : Int) (t : PS), It_X4_total n 64 p1.toInt x64_2.toInt x64_3.toInt 0 0 (vw w64) r t → M_X4_total (vw w) p1.toInt r t) → va_P D vwCl w64 H → va_D A w64 → va_S A s.heap H locs → lv_has ls 4 [(0, .ref (q 88)), (1, .int p1), (2, .int x64_2), (3, .int x64_3)] → W p l e R s m args below meth c H locs 0 0 Q (F0 m 64 ls []) := by
    intro N
    induction N with
    | zero => intro x64_2 x64_3 w64 H locs ls hmu; exact absurd hmu (Nat.not_lt_zero _)
    | succ N ih64 =>
      intro x64_2 x64_3 w64 H locs ls hmu64 hW_w64 hM_w64 i_x64_1 i_x64_3 hmi_64 hP hD hS hl
      refine lv_iload_n hx hb dX4_total_64 rfl (lv_at hl 3 rfl) ?_
      refine lv_bipush (v := 10) hx hb dX4_total_65 (by decide) ?_
      refine lv_icmp_ge (tgt := 85) hx hb dX4_total_67 (by decide) (fun c_6 => ?_) (fun c_6 => ?_)
      · refine lv_iload_n hx hb dX4_total_85 rfl (lv_at hl 2 rfl) ?_
        exact hret _ _ _ _ _ _ hP hD hS dX4_total_86 ⟨hW_w64, hM_w64, (hmi_64 (0 + 1) _ _ (rl_X4_total_64 (n := 0) (And.intro (tyX hW_w64) (And.intro i_x64_1 (And.intro i_x64_3 (Or.inl (And.intro (z_le c_6 (show (10 : Int32).toInt = 10 from by decide) (rfl : (x64_3 : Int32).toInt = _)) (And.intro (rfl : (x64_2 : Int32).toInt = _) rfl))))))))⟩
      · refine lv_iload_n hx hb dX4_total_70 rfl (lv_at hl 2 rfl) ?_
        refine lv_aload_n hx hb dX4_total_71 rfl (lv_at hl 0 rfl) ?_
        refine gt_X4 hx hb hts hown hK hP 88 (hW_w64.o tX_88) 9 (by decide) wd_581 rfl (hW_w64.fr tX_88 rfl) dX4_total_72 ?_
        refine lv_iload_n hx hb dX4_total_75 rfl (lv_at hl 3 rfl) ?_
        refine va_iald hx hb hK hP 96 0 (hW_w64.a tX_96) rfl (in_I (R_nle_r (In_lit (n := 10) (by decide) (by decide) : In 10 10 10) i_x64_3 c_6 (by decide) : In 0 9 x64_3) (by decide)) dX4_total_76 ?_
        refine lv_topi (fun v_7 ev_7 => ?_)
        refine lv_iadd hx hb dX4_total_77 ?_
        refine lv_topi (fun v_8 ev_8 => ?_)
        refine lv_istore_n (lv' := [(2, .int v_8), (0, .ref (q 88)), (1, .int p1), (3, .int x64_3)]) hx hb dX4_total_78 rfl hl (by decide) rfl (fun ls hl => ?_)
        refine lv_iinc (v := (x64_3 + 1)) (lv' := [(3, .int (x64_3 + 1)), (2, .int v_8), (0, .ref (q 88)), (1, .int p1)]) hx hb dX4_total_79 hl (k := 3) rfl (rfl) (by decide) rfl (fun ls hl => ?_)
        refine lv_goto (tgt := 64) hx hb dX4_total_82 (by decide) ?_
        exact ih64 v_8 (x64_3 + 1) w64 _ _ ls (mu_inc hmu64 (R_nle_r (In_lit (n := 10) (by decide) (by decide) : In 10 10 10) i_x64_3 c_6 (by decide) : In 0 9 x64_3) (In_lit (n := 1) (by decide) (by decide) : In 1 1 1) (by decide)) hW_w64 hM_w64 i_x64_1 (In_w ((In_add (y := 1) (R_nle_r (In_lit (n := 10) (by decide) (by decide) : In 10 10 10) i_x64_3 c_6 (by decide) : In 0 9 x64_3) (In_lit (n := 1) (by decide) (by decide) : In 1 1 1) (by decide)) : In 1 10 (x64_3 + 1)) (by decide) : In 0 10 (x64_3 + 1)) (fun n r t hk => (hmi_64 (n + 1) r t (rl_X4_total_64 (n := n) (And.intro (tyX hW_w64) (And.intro i_x64_1 (And.intro i_x64_3 (Or.inr (And.intro (z_nle c_6 (show (10 : Int32).toInt = 10 from by decide) (rfl : (x64_3 : Int32).toInt = _)) (cgK_5 hk (rfl : (p1 : Int32).toInt = _) (z_of ev_8 (z_addw (rfl : (x64_2 : Int32).toInt = _) (z_of ev_7 ((hW_w64.va tX_96 _).trans (congrArg (vw w64 96) (z_ix (rfl : (x64_3 : Int32).toInt = _))))))) (z_add (t_add (R_nle_r (In_lit (n := 10) (by decide) (by decide) : In 10 10 10) i_x64_3 c_6 (by decide) : In 0 9 x64_3) (In_lit (n := 1) (by decide) (by decide) : In 1 1 1) (by decide)) (rfl : (x64_3 : Int32).toInt = _) (show (1 : Int32).toInt = 1 from by decide)) rfl rfl))))))))) hP hD hS (lv_sub hl [2, 3, 1, 0] rfl)
  refine lv_iload_n hx hb dX4_total_0 rfl (lv_at hl 1 rfl) ?_
  refine lv_if_ne (tgt := 9) hx hb dX4_total_1 (by decide) (fun c_9 => ?_) (fun c_9 => ?_)
  · refine lv_iconst (v := 0) hx hb dX4_total_9 (by decide) ?_
    refine lv_istore_n (lv' := [(2, .int 0), (0, .ref (q 88)), (1, .int p1)]) hx hb dX4_total_10 rfl hl (by decide) rfl (fun ls hl => ?_)
    refine lv_iload_n hx hb dX4_total_11 rfl (lv_at hl 2 rfl) ?_
    refine lv_iconst (v := 1) hx hb dX4_total_12 (by decide) ?_
    refine lv_icmp_ne (tgt := 57) hx hb dX4_total_13 (by decide) (fun c_10 => ?_) (fun c_10 => ?_)
    · refine lv_iload_n hx hb dX4_total_57 rfl (lv_at hl 2 rfl) ?_
      refine lv_iconst (v := 3) hx hb dX4_total_58 (by decide) ?_
      refine lv_icmp_ne (tgt := 87) hx hb dX4_total_59 (by decide) (fun c_11 => ?_) (fun c_11 => ?_)
      · refine lv_iload_n hx hb dX4_total_87 rfl (lv_at hl 2 rfl) ?_
        refine lv_iconst (v := 2) hx hb dX4_total_88 (by decide) ?_
        refine lv_icmp_ne (tgt := 102) hx hb dX4_total_89 (by decide) (fun c_12 => ?_) (fun c_12 => ?_)
        · refine lv_iconst (v := (-1)) hx hb dX4_total_102 (by decide) ?_
          exact hret _ _ _ _ _ _ hP hD hS dX4_total_103 ⟨hW_w, Sm.rf, (mk_X4_total (n := 0) (And.intro (tyX hW_w) (Or.inr (And.intro (z_neq c_9 (rfl : (p1 : Int32).toInt = _) (show (0 : Int32).toInt = 0 from by decide)) (Or.inr (And.intro (z_neq c_10 (rfl : (p1 : Int32).toInt = _) (show (1 : Int32).toInt = 1 from by decide)) (Or.inr (And.intro (z_neq c_11 (rfl : (p1 : Int32).toInt = _) (show (3 : Int32).toInt = 3 from by decide)) (Or.inr (And.intro (z_neq c_12 (rfl : (p1 : Int32).toInt = _) (show (2 : Int32).toInt = 2 from by decide)) (And.intro (show ((-1) : Int32).toInt = (-1) from by decide) rfl)))))))))))⟩
        · refine lv_aload_n hx hb dX4_total_92 rfl (lv_at hl 1 rfl) ?_
          refine lv_iconst (v := 0) hx hb dX4_total_93 (by decide) ?_
          refine lv_bipush (v := 17) hx hb dX4_total_94 (by decide) ?_
          refine kW_i ⟨rfl, rfl⟩ hP hD hS hA (rW_V (As := [.int 0, .int 17]) (rest := []) hx hb hml hown hts hK hE hP hD (e_X4_lacking l D cI cJ cZ q bb bs bp w hW_w 0 17 _) ⟨⟨rfl, rfl⟩, rfl, rfl⟩ sv_X4_101 ⟨(Nat.le_trans (by decide) hR.1), (Nat.le_trans (by decide) hR.2)⟩ 88 4 (hW_w.o tX_88) rfl rfl rfl hl.1 rfl (Nat.le_of_ble_eq_true rfl) dX4_total_96) (fun r_14 w_13 H locs hw_w_13 hP hD hS => ?_)
          obtain ⟨hW_w_13, hs_w_13, hm_15⟩ := hw_w_13
          refine lv_goto (tgt := 103) hx hb dX4_total_99 (by decide) ?_
          exact hret _ _ _ _ _ _ hP hD hS dX4_total_103 ⟨hW_w_13, (Sm.rf.tr hs_w_13 (by decide)), (mk_X4_total (n := 0) (And.intro (tyX hW_w) (Or.inr (And.intro (z_neq c_9 (rfl : (p1 : Int32).toInt = _) (show (0 : Int32).toInt = 0 from by decide)) (Or.inr (And.intro (z_neq c_10 (rfl : (p1 : Int32).toInt = _) (show (1 : Int32).toInt = 1 from by decide)) (Or.inr (And.intro (z_neq c_11 (rfl : (p1 : Int32).toInt = _) (show (3 : Int32).toInt = 3 from by decide)) (Or.inl (And.intro (z_eq c_12 (rfl : (p1 : Int32).toInt = _) (show (2 : Int32).toInt = 2 from by decide)) (Exists.intro r_14.toInt (Exists.intro (vw w_13) (And.intro (cgM_2 hm_15 (show (0 : Int32).toInt = 0 from by decide) (show (17 : Int32).toInt = 17 from by decide)) (And.intro (hs_w_13.Fr hW_w hW_w_13 intsX_ok intsX_ok) (And.intro (tyX hW_w_13) (And.intro (rfl : (r_14 : Int32).toInt = _) rfl))))))))))))))))⟩
      · refine lv_iconst (v := 0) hx hb dX4_total_62 (by decide) ?_
        refine lv_istore_n (lv' := [(3, .int 0), (2, .int 0), (0, .ref (q 88)), (1, .int p1)]) hx hb dX4_total_63 rfl hl (by decide) rfl (fun ls hl => ?_)
        exact J64 _ 0 0 w _ _ ls (Nat.lt_succ_self _) hW_w Sm.rf (R_eq_l (In_any p1) (In_lit (n := 3) (by decide) (by decide) : In 3 3 3) c_11 (by decide) : In 3 3 p1) (In_lit (n := 0) (by decide) (by decide) : In 0 10 0) (fun n r t hk => (mk_X4_total (n := n) (And.intro (tyX hW_w) (Or.inr (And.intro (z_neq c_9 (rfl : (p1 : Int32).toInt = _) (show (0 : Int32).toInt = 0 from by decide)) (Or.inr (And.intro (z_neq c_10 (rfl : (p1 : Int32).toInt = _) (show (1 : Int32).toInt = 1 from by decide)) (Or.inl (And.intro (z_eq c_11 (rfl : (p1 : Int32).toInt = _) (show (3 : Int32).toInt = 3 from by decide)) (cgK_5 hk (rfl : (p1 : Int32).toInt = _) (show (0 : Int32).toInt = 0 from by decide) (show (0 : Int32).toInt = 0 from by decide) rfl rfl)))))))))) hP hD hS (lv_sub hl [2, 3, 1, 0] rfl)
    · refine lv_iconst (v := 0) hx hb dX4_total_16 (by decide) ?_
      refine lv_istore_n (lv' := [(3, .int 0), (2, .int 0), (0, .ref (q 88)), (1, .int p1)]) hx hb dX4_total_17 rfl hl (by decide) rfl (fun ls hl => ?_)
      exact J18 _ 0 0 w _ _ ls (Nat.lt_succ_self _) hW_w Sm.rf (R_eq_l (In_any p1) (In_lit (n := 1) (by decide) (by decide) : In 1 1 1) c_10 (by decide) : In 1 1 p1) (In_lit (n := 0) (by decide) (by decide) : In 0 40 0) (fun n r t hk => (mk_X4_total (n := n) (And.intro (tyX hW_w) (Or.inr (And.intro (z_neq c_9 (rfl : (p1 : Int32).toInt = _) (show (0 : Int32).toInt = 0 from by decide)) (Or.inl (And.intro (z_eq c_10 (rfl : (p1 : Int32).toInt = _) (show (1 : Int32).toInt = 1 from by decide)) (cgK_5 hk (rfl : (p1 : Int32).toInt = _) (show (0 : Int32).toInt = 0 from by decide) (show (0 : Int32).toInt = 0 from by decide) rfl rfl)))))))) hP hD hS (lv_sub hl [2, 3, 1, 0] rfl)
  · refine lv_aload_n hx hb dX4_total_4 rfl (lv_at hl 0 rfl) ?_
    refine gt_X4 hx hb hts hown hK hP 88 (hW_w.o tX_88) 10 (by decide) wd_583 rfl (hW_w.fi tX_88 rfl) dX4_total_5 ?_
    exact hret _ _ _ _ _ _ hP hD hS dX4_total_8 ⟨hW_w, Sm.rf, (mk_X4_total (n := 0) (And.intro (tyX hW_w) (Or.inl (And.intro (z_eq c_9 (rfl : (p1 : Int32).toInt = _) (show (0 : Int32).toInt = 0 from by decide)) (And.intro (hW_w.vi tX_88 rfl) rfl)))))⟩
set_option maxRecDepth 100000 in
set_option maxHeartbeats 8000000 in
theorem e_X11_given (l : Launch) (D : va_G) (cI cJ cZ : ClassId) (q : Nat → Nat) (bp : Nat) (w : va_W) (hW_w : HT q (TX q cI cJ cZ 1 16 bp) w) (p1 : Int32) : Con_i l yX11_given cX11_given 2 (some .int) ({ frames := 2, cells := 0, slots := 0, locals := 47 }) D cI cJ cZ eW [.ref (q 0), .int p1] w (fun (r : Int32) (w1 : va_W) => HT q (TX q cI cJ cZ 1 16 bp) w1 ∧ Sm [] [] w w1 ∧ M_X11_given (vw w) p1.toInt r.toInt (vw w1)) := by
  refine eQ_i rfl (by decide) (Nat.le_of_ble_eq_true rfl) ⟨rfl, rfl⟩ ?_
  intro p e R s m args below meth c A Q hx hb hml hown hts hK hE hA hR hret hP hD hS ls hl
  have hown : s.vm.findClass RX11 = some m.cls := hown
  have hl : lv_has ls 2 [(0, .ref (q 0)), (1, .int p1)] := hl
  refine lv_aload_n hx hb dX11_given_0 rfl (lv_at hl 0 rfl) ?_
  refine gt_X11 hx hb hts hown hK hP 0 (hW_w.o tX_0) 10 (by decide) wd_683 rfl (hW_w.fr tX_0 rfl) dX11_given_1 ?_
  refine gt_X4 hx hb hts hown hK hP 88 (hW_w.o tX_88) 0 (by decide) wd_567 rfl (hW_w.fi tX_88 rfl) dX11_given_4 ?_
  refine lv_if_eq (tgt := 21) hx hb dX11_given_7 (by decide) (fun c_1 => ?_) (fun c_1 => ?_)
  · refine lv_iconst (v := (-1)) hx hb dX11_given_21 (by decide) ?_
    exact hret _ _ _ _ _ _ hP hD hS dX11_given_22 ⟨hW_w, Sm.rf, (mk_X11_given (And.intro (tyX hW_w) (Or.inl (And.intro (z_eq c_1 (hW_w.vi tX_88 rfl) (show (0 : Int32).toInt = 0 from by decide)) (And.intro (show ((-1) : Int32).toInt = (-1) from by decide) rfl)))))⟩
  · refine lv_aload_n hx hb dX11_given_10 rfl (lv_at hl 0 rfl) ?_
    refine gt_X11 hx hb hts hown hK hP 0 (hW_w.o tX_0) 10 (by decide) wd_683 rfl (hW_w.fr tX_0 rfl) dX11_given_11 ?_
    refine lv_iload_n hx hb dX11_given_14 rfl (lv_at hl 1 rfl) ?_
    refine kW_i ⟨rfl, rfl⟩ hP hD hS hA (rW_V (As := [.int p1]) (rest := []) hx hb hml hown hts hK hE hP hD (e_X4_total l D cI cJ cZ q 1 16 bp w hW_w p1 _) ⟨⟨rfl, rfl⟩, rfl, rfl⟩ sv_X11_276 ⟨(Nat.le_trans (by decide) hR.1), (Nat.le_trans (by decide) hR.2)⟩ 88 4 (hW_w.o tX_88) rfl rfl rfl hl.1 rfl (Nat.le_of_ble_eq_true rfl) dX11_given_15) (fun r_3 w_2 H locs hw_w_2 hP hD hS => ?_)
    obtain ⟨hW_w_2, hs_w_2, hm_4⟩ := hw_w_2
    refine lv_goto (tgt := 22) hx hb dX11_given_18 (by decide) ?_
    exact hret _ _ _ _ _ _ hP hD hS dX11_given_22 ⟨hW_w_2, (Sm.rf.tr hs_w_2 (by decide)), (mk_X11_given (And.intro (tyX hW_w) (Or.inr (And.intro (z_neq c_1 (hW_w.vi tX_88 rfl) (show (0 : Int32).toInt = 0 from by decide)) (Exists.intro r_3.toInt (Exists.intro (vw w_2) (And.intro (cgM_1 hm_4 (rfl : (p1 : Int32).toInt = _)) (And.intro (hs_w_2.Fr hW_w hW_w_2 intsX_ok intsX_ok) (And.intro (tyX hW_w_2) (And.intro (rfl : (r_3 : Int32).toInt = _) rfl))))))))))⟩
set_option maxRecDepth 100000 in
set_option maxHeartbeats 8000000 in
theorem e_X4_isChild (l : Launch) (D : va_G) (cI cJ cZ : ClassId) (q : Nat → Nat) (bb bs bp : Nat) (w : va_W) (hW_w : HT q (TX q cI cJ cZ bb bs bp) w) (p1 : Int32) : Con_i l yX4_isChild cX4_isChild 2 (some .boolean) ({ frames := 0, cells := 0, slots := 0, locals := 0 }) D cI cJ cZ eW [.ref (q 88), .int p1] w (fun (r : Int32) (w1 : va_W) => HT q (TX q cI cJ cZ bb bs bp) w1 ∧ Sm [] [] w w1 ∧ In 0 1 r ∧ (¬ r = 0 → In 0 39 p1) ∧ M_X4_isChild (vw w) p1.toInt r.toInt (vw w1)) := by
  refine eQ_z rfl (by decide) (Nat.le_of_ble_eq_true rfl) ⟨rfl, rfl⟩ ?_
  intro p e R s m args below meth c A Q hx hb hml hown hts hK hE hA hR hret hP hD hS ls hl
  have hown : s.vm.findClass RX4 = some m.cls := hown
  have hl : lv_has ls 2 [(0, .ref (q 88)), (1, .int p1)] := hl
  refine lv_aload_n hx hb dX4_isChild_0 rfl (lv_at hl 0 rfl) ?_
  refine gt_X4 hx hb hts hown hK hP 88 (hW_w.o tX_88) 0 (by decide) wd_566 rfl (hW_w.fi tX_88 rfl) dX4_isChild_1 ?_
  refine lv_if_eq (tgt := 23) hx hb dX4_isChild_4 (by decide) (fun c_1 => ?_) (fun c_1 => ?_)
  · refine lv_iconst (v := 0) hx hb dX4_isChild_23 (by decide) ?_
    exact hret _ _ _ _ _ _ hP hD hS dX4_isChild_24 (In_lit (n := 0) (by decide) (by decide) : In 0 1 0) ⟨hW_w, Sm.rf, (In_lit (n := 0) (by decide) (by decide) : In 0 1 0), (fun h => absurd rfl h), (mk_X4_isChild (And.intro (tyX hW_w) (Or.inl (And.intro (z_eq c_1 (hW_w.vi tX_88 rfl) (show (0 : Int32).toInt = 0 from by decide)) (And.intro (show (0 : Int32).toInt = 0 from by decide) rfl)))))⟩
  · refine lv_iload_n hx hb dX4_isChild_7 rfl (lv_at hl 1 rfl) ?_
    refine lv_if_lt (tgt := 23) hx hb dX4_isChild_8 (by decide) (fun c_2 => ?_) (fun c_2 => ?_)
    · refine lv_iconst (v := 0) hx hb dX4_isChild_23 (by decide) ?_
      exact hret _ _ _ _ _ _ hP hD hS dX4_isChild_24 (In_lit (n := 0) (by decide) (by decide) : In 0 1 0) ⟨hW_w, Sm.rf, (In_lit (n := 0) (by decide) (by decide) : In 0 1 0), (fun h => absurd rfl h), (mk_X4_isChild (And.intro (tyX hW_w) (Or.inr (And.intro (z_neq c_1 (hW_w.vi tX_88 rfl) (show (0 : Int32).toInt = 0 from by decide)) (Or.inl (And.intro (z_lt c_2 (rfl : (p1 : Int32).toInt = _) (show (0 : Int32).toInt = 0 from by decide)) (And.intro (show (0 : Int32).toInt = 0 from by decide) rfl)))))))⟩
    · refine lv_iload_n hx hb dX4_isChild_11 rfl (lv_at hl 1 rfl) ?_
      refine lv_aload_n hx hb dX4_isChild_12 rfl (lv_at hl 0 rfl) ?_
      refine gt_X4 hx hb hts hown hK hP 88 (hW_w.o tX_88) 1 (by decide) wd_569 rfl (hW_w.fi tX_88 rfl) dX4_isChild_13 ?_
      refine lv_icmp_ge (tgt := 23) hx hb dX4_isChild_16 (by decide) (fun c_3 => ?_) (fun c_3 => ?_)
      · refine lv_iconst (v := 0) hx hb dX4_isChild_23 (by decide) ?_
        exact hret _ _ _ _ _ _ hP hD hS dX4_isChild_24 (In_lit (n := 0) (by decide) (by decide) : In 0 1 0) ⟨hW_w, Sm.rf, (In_lit (n := 0) (by decide) (by decide) : In 0 1 0), (fun h => absurd rfl h), (mk_X4_isChild (And.intro (tyX hW_w) (Or.inr (And.intro (z_neq c_1 (hW_w.vi tX_88 rfl) (show (0 : Int32).toInt = 0 from by decide)) (Or.inr (And.intro (z_nlt c_2 (rfl : (p1 : Int32).toInt = _) (show (0 : Int32).toInt = 0 from by decide)) (Or.inl (And.intro (z_le c_3 (hW_w.vi tX_88 rfl) (rfl : (p1 : Int32).toInt = _)) (And.intro (show (0 : Int32).toInt = 0 from by decide) rfl)))))))))⟩
      · refine lv_iconst (v := 1) hx hb dX4_isChild_19 (by decide) ?_
        refine lv_goto (tgt := 24) hx hb dX4_isChild_20 (by decide) ?_
        exact hret _ _ _ _ _ _ hP hD hS dX4_isChild_24 (In_lit (n := 1) (by decide) (by decide) : In 0 1 1) ⟨hW_w, Sm.rf, (In_lit (n := 1) (by decide) (by decide) : In 0 1 1), (fun h => (R_nle_r (hW_w.fin tX_88 rfl : In 0 40 (fI w 88 1)) (R_nlt_l (In_any p1) (In_lit (n := 0) (by decide) (by decide) : In 0 0 0) c_2 (by decide) : In 0 2147483647 p1) c_3 (by decide) : In 0 39 p1)), (mk_X4_isChild (And.intro (tyX hW_w) (Or.inr (And.intro (z_neq c_1 (hW_w.vi tX_88 rfl) (show (0 : Int32).toInt = 0 from by decide)) (Or.inr (And.intro (z_nlt c_2 (rfl : (p1 : Int32).toInt = _) (show (0 : Int32).toInt = 0 from by decide)) (Or.inr (And.intro (z_nle c_3 (hW_w.vi tX_88 rfl) (rfl : (p1 : Int32).toInt = _)) (And.intro (show (1 : Int32).toInt = 1 from by decide) rfl)))))))))⟩
set_option maxRecDepth 100000 in
set_option maxHeartbeats 8000000 in
theorem e_X11_gets (l : Launch) (D : va_G) (cI cJ cZ : ClassId) (q : Nat → Nat) (bp : Nat) (w : va_W) (hW_w : HT q (TX q cI cJ cZ 1 16 bp) w) (p1 : Int32) : Con_i l yX11_gets cX11_gets 2 (some .int) ({ frames := 1, cells := 0, slots := 0, locals := 21 }) D cI cJ cZ eW [.ref (q 0), .int p1] w (fun (r : Int32) (w1 : va_W) => HT q (TX q cI cJ cZ 1 16 bp) w1 ∧ Sm [] [] w w1 ∧ M_X11_gets (vw w) p1.toInt r.toInt (vw w1)) := by
  refine eQ_i rfl (by decide) (Nat.le_of_ble_eq_true rfl) ⟨rfl, rfl⟩ ?_
  intro p e R s m args below meth c A Q hx hb hml hown hts hK hE hA hR hret hP hD hS ls hl
  have hown : s.vm.findClass RX11 = some m.cls := hown
  have hl : lv_has ls 2 [(0, .ref (q 0)), (1, .int p1)] := hl
  refine lv_aload_n hx hb dX11_gets_0 rfl (lv_at hl 0 rfl) ?_
  refine gt_X11 hx hb hts hown hK hP 0 (hW_w.o tX_0) 10 (by decide) wd_683 rfl (hW_w.fr tX_0 rfl) dX11_gets_1 ?_
  refine lv_iload_n hx hb dX11_gets_4 rfl (lv_at hl 1 rfl) ?_
  refine kW_i ⟨rfl, rfl⟩ hP hD hS hA (rW_V (As := [.int p1]) (rest := []) hx hb hml hown hts hK hE hP hD (e_X4_isChild l D cI cJ cZ q 1 16 bp w hW_w p1 _) ⟨⟨rfl, rfl⟩, rfl, rfl⟩ sv_X11_279 ⟨(Nat.le_trans (by decide) hR.1), (Nat.le_trans (by decide) hR.2)⟩ 88 4 (hW_w.o tX_88) rfl rfl rfl hl.1 rfl (Nat.le_of_ble_eq_true rfl) dX11_gets_5) (fun r_2 w_1 H locs hw_w_1 hP hD hS => ?_)
  obtain ⟨hW_w_1, hs_w_1, i_r_2, h_3, hm_4⟩ := hw_w_1
  refine lv_if_eq (tgt := 23) hx hb dX11_gets_8 (by decide) (fun c_5 => ?_) (fun c_5 => ?_)
  · refine lv_iconst (v := (-1)) hx hb dX11_gets_23 (by decide) ?_
    exact hret _ _ _ _ _ _ hP hD hS dX11_gets_24 ⟨hW_w_1, (Sm.rf.tr hs_w_1 (by decide)), (mk_X11_gets (And.intro (tyX hW_w) (Exists.intro r_2.toInt (Exists.intro (vw w_1) (And.intro (cgM_1 hm_4 (rfl : (p1 : Int32).toInt = _)) (And.intro (hs_w_1.Fr hW_w hW_w_1 intsX_ok intsX_ok) (And.intro (tyX hW_w_1) (And.intro i_r_2 (Or.inl (And.intro (z_eq c_5 (rfl : (r_2 : Int32).toInt = _) (show (0 : Int32).toInt = 0 from by decide)) (And.intro (show ((-1) : Int32).toInt = (-1) from by decide) rfl)))))))))))⟩
  · refine lv_aload_n hx hb dX11_gets_11 rfl (lv_at hl 0 rfl) ?_
    refine gt_X11 hx hb hts hown hK hP 0 (hW_w_1.o tX_0) 10 (by decide) wd_683 rfl (hW_w_1.fr tX_0 rfl) dX11_gets_12 ?_
    refine gt_X4 hx hb hts hown hK hP 88 (hW_w_1.o tX_88) 8 (by decide) wd_580 rfl (hW_w_1.fr tX_88 rfl) dX11_gets_15 ?_
    refine lv_iload_n hx hb dX11_gets_18 rfl (lv_at hl 1 rfl) ?_
    refine va_iald hx hb hK hP 95 0 (hW_w_1.a tX_95) rfl (in_I (h_3 c_5) (by decide)) dX11_gets_19 ?_
    refine lv_topi (fun v_6 ev_6 => ?_)
    refine lv_goto (tgt := 24) hx hb dX11_gets_20 (by decide) ?_
    exact hret _ _ _ _ _ _ hP hD hS dX11_gets_24 ⟨hW_w_1, (Sm.rf.tr hs_w_1 (by decide)), (mk_X11_gets (And.intro (tyX hW_w) (Exists.intro r_2.toInt (Exists.intro (vw w_1) (And.intro (cgM_1 hm_4 (rfl : (p1 : Int32).toInt = _)) (And.intro (hs_w_1.Fr hW_w hW_w_1 intsX_ok intsX_ok) (And.intro (tyX hW_w_1) (And.intro i_r_2 (Or.inr (And.intro (z_neq c_5 (rfl : (r_2 : Int32).toInt = _) (show (0 : Int32).toInt = 0 from by decide)) (And.intro (z_of (ev_6.trans (congrFun (hs_w_1.hA (by decide)) _)) ((hW_w.va tX_95 _).trans (congrArg (vw w 95) (z_ix (rfl : (p1 : Int32).toInt = _))))) rfl)))))))))))⟩
set_option maxRecDepth 100000 in
set_option maxHeartbeats 8000000 in
theorem e_X11_left (l : Launch) (D : va_G) (cI cJ cZ : ClassId) (q : Nat → Nat) (bp : Nat) (w : va_W) (hW_w : HT q (TX q cI cJ cZ 1 16 bp) w) (p1 : Int32) : Con_i l yX11_left cX11_left 2 (some .int) ({ frames := 1, cells := 0, slots := 0, locals := 21 }) D cI cJ cZ eW [.ref (q 0), .int p1] w (fun (r : Int32) (w1 : va_W) => HT q (TX q cI cJ cZ 1 16 bp) w1 ∧ Sm [] [] w w1 ∧ M_X11_left (vw w) p1.toInt r.toInt (vw w1)) := by
  refine eQ_i rfl (by decide) (Nat.le_of_ble_eq_true rfl) ⟨rfl, rfl⟩ ?_
  intro p e R s m args below meth c A Q hx hb hml hown hts hK hE hA hR hret hP hD hS ls hl
  have hown : s.vm.findClass RX11 = some m.cls := hown
  have hl : lv_has ls 2 [(0, .ref (q 0)), (1, .int p1)] := hl
  refine lv_aload_n hx hb dX11_left_0 rfl (lv_at hl 0 rfl) ?_
  refine gt_X11 hx hb hts hown hK hP 0 (hW_w.o tX_0) 10 (by decide) wd_683 rfl (hW_w.fr tX_0 rfl) dX11_left_1 ?_
  refine gt_X4 hx hb hts hown hK hP 88 (hW_w.o tX_88) 0 (by decide) wd_567 rfl (hW_w.fi tX_88 rfl) dX11_left_4 ?_
  refine lv_if_eq (tgt := 30) hx hb dX11_left_7 (by decide) (fun c_1 => ?_) (fun c_1 => ?_)
  · refine lv_iconst (v := (-1)) hx hb dX11_left_30 (by decide) ?_
    exact hret _ _ _ _ _ _ hP hD hS dX11_left_31 ⟨hW_w, Sm.rf, (mk_X11_left (And.intro (tyX hW_w) (Or.inl (And.intro (z_eq c_1 (hW_w.vi tX_88 rfl) (show (0 : Int32).toInt = 0 from by decide)) (And.intro (show ((-1) : Int32).toInt = (-1) from by decide) rfl)))))⟩
  · refine lv_aload_n hx hb dX11_left_10 rfl (lv_at hl 0 rfl) ?_
    refine lv_iload_n hx hb dX11_left_11 rfl (lv_at hl 1 rfl) ?_
    refine kW_i ⟨rfl, rfl⟩ hP hD hS hA (rW_V (As := [.int p1]) (rest := []) hx hb hml hown hts hK hE hP hD (e_X11_isKind l D cI cJ cZ q bp w hW_w p1 _) ⟨⟨rfl, rfl⟩, rfl, rfl⟩ sv_X11_154 ⟨(Nat.le_trans (by decide) hR.1), (Nat.le_trans (by decide) hR.2)⟩ 0 11 (hW_w.o tX_0) rfl rfl rfl hl.1 rfl (Nat.le_of_ble_eq_true rfl) dX11_left_12) (fun r_3 w_2 H locs hw_w_2 hP hD hS => ?_)
    obtain ⟨hW_w_2, hs_w_2, i_r_3, h_4, hm_5⟩ := hw_w_2
    refine lv_if_eq (tgt := 30) hx hb dX11_left_15 (by decide) (fun c_6 => ?_) (fun c_6 => ?_)
    · refine lv_iconst (v := (-1)) hx hb dX11_left_30 (by decide) ?_
      exact hret _ _ _ _ _ _ hP hD hS dX11_left_31 ⟨hW_w_2, (Sm.rf.tr hs_w_2 (by decide)), (mk_X11_left (And.intro (tyX hW_w) (Or.inr (And.intro (z_neq c_1 (hW_w.vi tX_88 rfl) (show (0 : Int32).toInt = 0 from by decide)) (Exists.intro r_3.toInt (Exists.intro (vw w_2) (And.intro (cgM_1 hm_5 (rfl : (p1 : Int32).toInt = _)) (And.intro (hs_w_2.Fr hW_w hW_w_2 intsX_ok intsX_ok) (And.intro (tyX hW_w_2) (And.intro i_r_3 (Or.inl (And.intro (z_eq c_6 (rfl : (r_3 : Int32).toInt = _) (show (0 : Int32).toInt = 0 from by decide)) (And.intro (show ((-1) : Int32).toInt = (-1) from by decide) rfl)))))))))))))⟩
    · refine lv_aload_n hx hb dX11_left_18 rfl (lv_at hl 0 rfl) ?_
      refine gt_X11 hx hb hts hown hK hP 0 (hW_w_2.o tX_0) 10 (by decide) wd_683 rfl (hW_w_2.fr tX_0 rfl) dX11_left_19 ?_
      refine gt_X4 hx hb hts hown hK hP 88 (hW_w_2.o tX_88) 9 (by decide) wd_582 rfl (hW_w_2.fr tX_88 rfl) dX11_left_22 ?_
      refine lv_iload_n hx hb dX11_left_25 rfl (lv_at hl 1 rfl) ?_
      refine va_iald hx hb hK hP 96 0 (hW_w_2.a tX_96) rfl (in_I (h_4 c_6).2 (by decide)) dX11_left_26 ?_
      refine lv_topi (fun v_7 ev_7 => ?_)
      refine lv_goto (tgt := 31) hx hb dX11_left_27 (by decide) ?_
      exact hret _ _ _ _ _ _ hP hD hS dX11_left_31 ⟨hW_w_2, (Sm.rf.tr hs_w_2 (by decide)), (mk_X11_left (And.intro (tyX hW_w) (Or.inr (And.intro (z_neq c_1 (hW_w.vi tX_88 rfl) (show (0 : Int32).toInt = 0 from by decide)) (Exists.intro r_3.toInt (Exists.intro (vw w_2) (And.intro (cgM_1 hm_5 (rfl : (p1 : Int32).toInt = _)) (And.intro (hs_w_2.Fr hW_w hW_w_2 intsX_ok intsX_ok) (And.intro (tyX hW_w_2) (And.intro i_r_3 (Or.inr (And.intro (z_neq c_6 (rfl : (r_3 : Int32).toInt = _) (show (0 : Int32).toInt = 0 from by decide)) (And.intro (z_of (ev_7.trans (congrFun (hs_w_2.hA (by decide)) _)) ((hW_w.va tX_96 _).trans (congrArg (vw w 96) (z_ix (rfl : (p1 : Int32).toInt = _))))) rfl)))))))))))))⟩
set_option maxRecDepth 100000 in
set_option maxHeartbeats 8000000 in
theorem e_X3_takeRest_109 (l : Launch) (D : va_G) (cI cJ cZ : ClassId) (q : Nat → Nat) (bb bs bp : Nat) (w : va_W) (hW_w : HT q (TX q cI cJ cZ bb bs bp) w) (hf_64_1 : In 1 40 (fI w 64 1)) : Con_i l yX3_takeRest cX3_takeRest 4 (some .int) ({ frames := 0, cells := 0, slots := 0, locals := 0 }) D cI cJ cZ eW [.ref (q 64), .ref (q 109)] w (fun (r : Int32) (w1 : va_W) => HT q (TX q cI cJ cZ bb bs bp) w1 ∧ Sm [109] [] w w1 ∧ M_X3_takeRest_109 (vw w) r.toInt (vw w1)) := by
  refine eQ_i rfl (by decide) (Nat.le_of_ble_eq_true rfl) ⟨rfl, rfl⟩ ?_
  intro p e R s m args below meth c A Q hx hb hml hown hts hK hE hA hR hret hP hD hS ls hl
  have hown : s.vm.findClass RX3 = some m.cls := hown
  have hl : lv_has ls 4 [(0, .ref (q 64)), (1, .ref (q 109))] := hl
  have J4 : ∀ (N : Nat) (x4_2 : Int32) (x4_3 : Int32) (w4 : va_W) (H : Heap) (locs : List Loc) (ls : Array Slot), (10 - x4_3.toInt).toNat < N → HT q (TX q cI cJ cZ bb bs bp) w4 → Sm [109] [] w w4 → (In 0 10 x4_3) → (In 1 40 (fI w4 64 1)) → (∀ (n : Nat) (r : Int) (t : PS), It_X3_takeRest_109 n x4_2.toInt x4_3.toInt (vw w4) r t → M_X3_takeRest_109 (vw w) r t) → va_P D vwCl w4 H → va_D A w4 → va_S A s.heap H locs → lv_has ls 4 [(0, .ref (q 64)), (1, .ref (q 109)), (2, .int x4_2), (3, .int x4_3)] → W p l e R s m args below meth c H locs 0 0 Q (F0 m 4 ls []) := by
    intro N
    induction N with
    | zero => intro x4_2 x4_3 w4 H locs ls hmu; exact absurd hmu (Nat.not_lt_zero _)
    | succ N ih4 =>
      intro x4_2 x4_3 w4 H locs ls hmu4 hW_w4 hM_w4 i_x4_3 g4_64_1 hmi_4 hP hD hS hl
      refine lv_iload_n hx hb dX3_takeRest_4 rfl (lv_at hl 3 rfl) ?_
      refine lv_aload_n hx hb dX3_takeRest_5 rfl (lv_at hl 0 rfl) ?_
      refine gt_X3 hx hb hts hown hK hP 64 (hW_w4.o tX_64) 0 (by decide) wd_400 rfl (hW_w4.fi tX_64 rfl) dX3_takeRest_6 ?_
      refine tov (v := (fI w 64 0)) (hM_w4.gI (by decide)) ?_
      refine lv_icmp_ge (tgt := 46) hx hb dX3_takeRest_9 (by decide) (fun c_1 => ?_) (fun c_1 => ?_)
      · refine lv_iload_n hx hb dX3_takeRest_46 rfl (lv_at hl 2 rfl) ?_
        exact hret _ _ _ _ _ _ hP hD hS dX3_takeRest_47 ⟨hW_w4, hM_w4, (hmi_4 (0 + 1) _ _ (rl_X3_takeRest_109_4 (n := 0) (And.intro (tyX hW_w4) (And.intro i_x4_3 (Or.inl (And.intro (z_le c_1 (z_of (hM_w4.gI (by decide)).symm (hW_w4.vi tX_64 rfl)) (rfl : (x4_3 : Int32).toInt = _)) (And.intro (rfl : (x4_2 : Int32).toInt = _) rfl)))))))⟩
      · refine lv_iload_n hx hb dX3_takeRest_12 rfl (lv_at hl 2 rfl) ?_
        refine lv_aload_n hx hb dX3_takeRest_13 rfl (lv_at hl 1 rfl) ?_
        refine lv_iload_n hx hb dX3_takeRest_14 rfl (lv_at hl 3 rfl) ?_
        refine va_iald hx hb hK hP 109 0 (hW_w4.a tX_109) rfl (in_I (R_nle_r (hW_w.fin tX_64 rfl : In 0 10 (fI w 64 0)) i_x4_3 c_1 (by decide) : In 0 9 x4_3) (by decide)) dX3_takeRest_15 ?_
        refine lv_topi (fun v_2 ev_2 => ?_)
        refine lv_aload_n hx hb dX3_takeRest_16 rfl (lv_at hl 0 rfl) ?_
        refine gt_X3 hx hb hts hown hK hP 64 (hW_w4.o tX_64) 11 (by decide) wd_433 rfl (hW_w4.fr tX_64 rfl) dX3_takeRest_17 ?_
        refine lv_iload_n hx hb dX3_takeRest_20 rfl (lv_at hl 3 rfl) ?_
        refine lv_bipush (v := 24) hx hb dX3_takeRest_21 (by decide) ?_
        refine lv_imul hx hb dX3_takeRest_23 ?_
        refine va_iald hx hb hK hP 73 0 (hW_w4.a tX_73) rfl (in_I ((In_mulr (R_nle_r (hW_w.fin tX_64 rfl : In 0 10 (fI w 64 0)) i_x4_3 c_1 (by decide) : In 0 9 x4_3) (n := 24) (by decide) (by decide)) : In 0 216 (x4_3 * 24)) (by decide)) dX3_takeRest_24 ?_
        refine lv_topi (fun v_3 ev_3 => ?_)
        refine lv_isub hx hb dX3_takeRest_25 ?_
        refine lv_topi (fun v_4 ev_4 => ?_)
        refine lv_iadd hx hb dX3_takeRest_26 ?_
        refine lv_topi (fun v_5 ev_5 => ?_)
        refine lv_istore_n (lv' := [(2, .int v_5), (0, .ref (q 64)), (1, .ref (q 109)), (3, .int x4_3)]) hx hb dX3_takeRest_27 rfl hl (by decide) rfl (fun ls hl => ?_)
        refine lv_aload_n hx hb dX3_takeRest_28 rfl (lv_at hl 2 rfl) ?_
        refine lv_iload_n hx hb dX3_takeRest_29 rfl (lv_at hl 3 rfl) ?_
        refine lv_aload_n hx hb dX3_takeRest_30 rfl (lv_at hl 1 rfl) ?_
        refine gt_X3 hx hb hts hown hK hP 64 (hW_w4.o tX_64) 11 (by decide) wd_433 rfl (hW_w4.fr tX_64 rfl) dX3_takeRest_31 ?_
        refine lv_iload_n hx hb dX3_takeRest_34 rfl (lv_at hl 3 rfl) ?_
        refine lv_bipush (v := 24) hx hb dX3_takeRest_35 (by decide) ?_
        refine lv_imul hx hb dX3_takeRest_37 ?_
        refine va_iald hx hb hK hP 73 0 (hW_w4.a tX_73) rfl (in_I ((In_mulr (R_nle_r (hW_w.fin tX_64 rfl : In 0 10 (fI w 64 0)) i_x4_3 c_1 (by decide) : In 0 9 x4_3) (n := 24) (by decide) (by decide)) : In 0 216 (x4_3 * 24)) (by decide)) dX3_takeRest_38 ?_
        refine tov (v := v_3) ((congrFun (hM_w4.hA (by decide)) _).trans ((congrFun (hM_w4.hA (by decide)) _).symm.trans ev_3.symm)) ?_
        refine va_iast hx hb hK hP hD hS 109 0 (hW_w4.a tX_109) rfl (in_I (R_nle_r (hW_w.fin tX_64 rfl : In 0 10 (fI w 64 0)) i_x4_3 c_1 (by decide) : In 0 9 x4_3) (by decide)) dX3_takeRest_39 (fun H locs hP hD hS => fr_w (hW_w4.uA tX_109 (In_any v_3)) hP hD (fun w_6 ew_6 hW_w_6 hP hD => ?_))
        have hv_w_6 := vw_uA hW_w4 tX_109 ew_6 (z_ix (rfl : (x4_3 : Int32).toInt = _)) (z_of ev_3 ((hW_w4.va tX_73 _).trans (congrArg (vw w4 73) (z_ix (z_mul (R_nle_r (hW_w.fin tX_64 rfl : In 0 10 (fI w 64 0)) i_x4_3 c_1 (by decide) : In 0 9 x4_3) (rfl : (x4_3 : Int32).toInt = _) (show (24 : Int32).toInt = 24 from by decide) (by decide))))))
        refine lv_iinc (v := (x4_3 + 1)) (lv' := [(3, .int (x4_3 + 1)), (2, .int v_5), (0, .ref (q 64)), (1, .ref (q 109))]) hx hb dX3_takeRest_40 hl (k := 3) rfl (rfl) (by decide) rfl (fun ls hl => ?_)
        refine lv_goto (tgt := 4) hx hb dX3_takeRest_43 (by decide) ?_
        exact ih4 v_5 (x4_3 + 1) w_6 _ _ ls (mu_inc hmu4 (R_nle_r (hW_w.fin tX_64 rfl : In 0 10 (fI w 64 0)) i_x4_3 c_1 (by decide) : In 0 9 x4_3) (In_lit (n := 1) (by decide) (by decide) : In 1 1 1) (by decide)) hW_w_6 (hM_w4.sa ew_6 (by decide)) (In_w ((In_add (y := 1) (R_nle_r (hW_w.fin tX_64 rfl : In 0 10 (fI w 64 0)) i_x4_3 c_1 (by decide) : In 0 9 x4_3) (In_lit (n := 1) (by decide) (by decide) : In 1 1 1) (by decide)) : In 1 10 (x4_3 + 1)) (by decide) : In 0 10 (x4_3 + 1)) (In_of ((fI_cg (st_ne ew_6 (by decide))).trans (hM_w4.gI (by decide))) (In_of (hM_w4.gI (by decide)).symm g4_64_1)) (fun n r t hk => (hmi_4 (n + 1) r t (rl_X3_takeRest_109_4 (n := n) (And.intro (tyX hW_w4) (And.intro i_x4_3 (Or.inr (And.intro (z_nle c_1 (z_of (hM_w4.gI (by decide)).symm (hW_w4.vi tX_64 rfl)) (rfl : (x4_3 : Int32).toInt = _)) (Exists.intro (vw w_6) (And.intro hv_w_6 (cgK_2 hk (z_of ev_5 (z_addw (rfl : (x4_2 : Int32).toInt = _) (z_of ev_4 (z_subw (z_of ev_2 ((hW_w4.va tX_109 _).trans (congrArg (vw w4 109) (z_ix (rfl : (x4_3 : Int32).toInt = _))))) (z_of ev_3 ((hW_w4.va tX_73 _).trans (congrArg (vw w4 73) (z_ix (z_mul (R_nle_r (hW_w.fin tX_64 rfl : In 0 10 (fI w 64 0)) i_x4_3 c_1 (by decide) : In 0 9 x4_3) (rfl : (x4_3 : Int32).toInt = _) (show (24 : Int32).toInt = 24 from by decide) (by decide)))))))))) (z_add (t_add (R_nle_r (hW_w.fin tX_64 rfl : In 0 10 (fI w 64 0)) i_x4_3 c_1 (by decide) : In 0 9 x4_3) (In_lit (n := 1) (by decide) (by decide) : In 1 1 1) (by decide)) (rfl : (x4_3 : Int32).toInt = _) (show (1 : Int32).toInt = 1 from by decide)))))))))))) hP hD hS (lv_sub hl [2, 3, 1, 0] rfl)
  refine lv_iconst (v := 0) hx hb dX3_takeRest_0 (by decide) ?_
  refine lv_istore_n (lv' := [(2, .int 0), (0, .ref (q 64)), (1, .ref (q 109))]) hx hb dX3_takeRest_1 rfl hl (by decide) rfl (fun ls hl => ?_)
  refine lv_iconst (v := 0) hx hb dX3_takeRest_2 (by decide) ?_
  refine lv_istore_n (lv' := [(3, .int 0), (2, .int 0), (0, .ref (q 64)), (1, .ref (q 109))]) hx hb dX3_takeRest_3 rfl hl (by decide) rfl (fun ls hl => ?_)
  exact J4 _ 0 0 w _ _ ls (Nat.lt_succ_self _) hW_w Sm.rf (In_lit (n := 0) (by decide) (by decide) : In 0 10 0) hf_64_1 (fun n r t hk => (mk_X3_takeRest_109 (n := n) (And.intro (tyX hW_w) (cgK_2 hk (show (0 : Int32).toInt = 0 from by decide) (show (0 : Int32).toInt = 0 from by decide))))) hP hD hS (lv_sub hl [2, 3, 1, 0] rfl)
set_option maxRecDepth 100000 in
set_option maxHeartbeats 8000000 in
theorem e_X11_blind (l : Launch) (D : va_G) (cI cJ cZ : ClassId) (q : Nat → Nat) (bp : Nat) (w : va_W) (hW_w : HT q (TX q cI cJ cZ 1 16 bp) w) (hLD : LD w) (b : Int) (hbb : b + 10560 ≤ 2147483647) (hSB : SB b w) : Con_i l yX11_blind cX11_blind 3 (some .int) ({ frames := 7, cells := 0, slots := 0, locals := 168 }) D cI cJ cZ eW [.ref (q 0)] w (fun (r : Int32) (w1 : va_W) => HT q (TX q cI cJ cZ 1 16 bp) w1 ∧ Sm [42, 43, 44, 45, 46, 47, 48, 49, 50, 51, 52, 53, 54, 55, 57, 58, 59, 60, 61, 62, 63, 64, 65, 66, 67, 68, 69, 70, 71, 72, 73, 74, 75, 76, 77, 78, 79, 80, 81, 82, 83, 84, 85, 86, 87, 109] [(42, 0), (42, 1), (42, 2), (64, 0), (64, 1), (64, 2), (74, 5), (74, 6), (74, 9), (74, 10), (81, 2), (81, 4), (81, 10), (81, 11), (81, 12), (81, 13), (81, 14), (81, 15)] w w1 ∧ (SB (b + 10560) w1) ∧ M_X11_blind (vw w) r.toInt (vw w1)) := by
  refine eQ_i rfl (by decide) (Nat.le_of_ble_eq_true rfl) ⟨rfl, rfl⟩ ?_
  intro p e R s m args below meth c A Q hx hb hml hown hts hK hE hA hR hret hP hD hS ls hl
  have hown : s.vm.findClass RX11 = some m.cls := hown
  have hl : lv_has ls 3 [(0, .ref (q 0))] := hl
  have J16 : ∀ (N : Nat) (x16_1 : Int32) (x16_2 : Int32) (w16 : va_W) (H : Heap) (locs : List Loc) (ls : Array Slot), (25 - x16_2.toInt).toNat < N → HT q (TX q cI cJ cZ 1 16 bp) w16 → Sm [42, 43, 44, 45, 46, 47, 48, 49, 50, 51, 52, 53, 54, 55, 57, 58, 59, 60, 61, 62, 63, 64, 65, 66, 67, 68, 69, 70, 71, 72, 73, 74, 75, 76, 77, 78, 79, 80, 81, 82, 83, 84, 85, 86, 87, 109] [(42, 0), (42, 1), (42, 2), (64, 0), (64, 1), (64, 2), (74, 5), (74, 6), (74, 9), (74, 10), (81, 2), (81, 4), (81, 10), (81, 11), (81, 12), (81, 13), (81, 14), (81, 15)] w w16 → (In 1 25 x16_2) → (SB (b + 440 * ((x16_2 : Int32).toInt - 1)) w16) → (∀ (n : Nat) (r : Int) (t : PS), It_X11_blind n 16 x16_1.toInt x16_2.toInt (vw w16) r t → M_X11_blind (vw w) r t) → va_P D vwCl w16 H → va_D A w16 → va_S A s.heap H locs → lv_has ls 3 [(0, .ref (q 0)), (1, .int x16_1), (2, .int x16_2)] → W p l e R s m args below meth c H locs 0 0 Q (F0 m 16 ls []) := by
    intro N
    induction N with
    | zero => intro x16_1 x16_2 w16 H locs ls hmu; exact absurd hmu (Nat.not_lt_zero _)
    | succ N ih16 =>
      intro x16_1 x16_2 w16 H locs ls hmu16 hW_w16 hM_w16 i_x16_2 hs_16 hmi_16 hP hD hS hl
      have J106 : ∀ (x106_1 : Int32) (w106 : va_W) (H : Heap) (locs : List Loc) (ls : Array Slot), HT q (TX q cI cJ cZ 1 16 bp) w106 → Sm [42, 43, 44, 45, 46, 47, 48, 49, 50, 51, 52, 53, 54, 55, 57, 58, 59, 60, 61, 62, 63, 64, 65, 66, 67, 68, 69, 70, 71, 72, 73, 74, 75, 76, 77, 78, 79, 80, 81, 82, 83, 84, 85, 86, 87, 109] [(42, 0), (42, 1), (42, 2), (64, 0), (64, 1), (64, 2), (74, 5), (74, 6), (74, 9), (74, 10), (81, 2), (81, 4), (81, 10), (81, 11), (81, 12), (81, 13), (81, 14), (81, 15)] w w106 → (In 1 24 x16_2) → (SB (b + 440 * ((x16_2 : Int32).toInt - 0)) w106) → (∀ (n : Nat) (r : Int) (t : PS), It_X11_blind n 106 x106_1.toInt x16_2.toInt (vw w106) r t → M_X11_blind (vw w) r t) → va_P D vwCl w106 H → va_D A w106 → va_S A s.heap H locs → lv_has ls 3 [(0, .ref (q 0)), (1, .int x106_1), (2, .int x16_2)] → W p l e R s m args below meth c H locs 0 0 Q (F0 m 106 ls []) := by
        intro x106_1 w106 H locs ls hW_w106 hM_w106 i_x106_2 hs_106 hmi_106 hP hD hS hl
        refine lv_iinc (v := (x16_2 + 1)) (lv' := [(2, .int (x16_2 + 1)), (0, .ref (q 0)), (1, .int x106_1)]) hx hb dX11_blind_106 hl (k := 2) rfl (rfl) (by decide) rfl (fun ls hl => ?_)
        refine lv_goto (tgt := 16) hx hb dX11_blind_109 (by decide) ?_
        exact ih16 x106_1 (x16_2 + 1) w106 _ _ ls (mu_inc hmu16 i_x106_2 (In_lit (n := 1) (by decide) (by decide) : In 1 1 1) (by decide)) hW_w106 hM_w106 (In_w ((In_add (y := 1) i_x106_2 (In_lit (n := 1) (by decide) (by decide) : In 1 1 1) (by decide)) : In 2 25 (x16_2 + 1)) (by decide) : In 1 25 (x16_2 + 1)) (SB_w hs_106 (by have t11 := t_add i_x106_2 (In_lit (n := 1) (by decide) (by decide) : In 1 1 1) (by decide); have z1 : (1 : Int32).toInt = 1 := (by decide); omega)) (fun n r t hk => (hmi_106 (n + 1) r t (rl_X11_blind_106 (n := n) (And.intro (tyX hW_w106) (And.intro i_x106_2 (cgK_2 hk (rfl : (x106_1 : Int32).toInt = _) (z_add (t_add i_x106_2 (In_lit (n := 1) (by decide) (by decide) : In 1 1 1) (by decide)) (rfl : (x16_2 : Int32).toInt = _) (show (1 : Int32).toInt = 1 from by decide)))))))) hP hD hS (lv_sub hl [1, 2, 0] rfl)
      refine lv_iload_n hx hb dX11_blind_16 rfl (lv_at hl 2 rfl) ?_
      refine lv_bipush (v := 24) hx hb dX11_blind_17 (by decide) ?_
      refine lv_icmp_gt (tgt := 112) hx hb dX11_blind_19 (by decide) (fun c_1 => ?_) (fun c_1 => ?_)
      · refine lv_iload_n hx hb dX11_blind_112 rfl (lv_at hl 1 rfl) ?_
        exact hret _ _ _ _ _ _ hP hD hS dX11_blind_113 ⟨hW_w16, hM_w16, (SB_w hs_16 (by have q := (In_w (R_lt_r (In_lit (n := 24) (by decide) (by decide) : In 24 24 24) i_x16_2 c_1 (by decide) : In 25 25 x16_2) (by decide) : In 1 25 x16_2); unfold In at q; omega)), (hmi_16 (0 + 1) _ _ (rl_X11_blind_16 (n := 0) (And.intro (tyX hW_w16) (And.intro i_x16_2 (Or.inl (And.intro (z_lt c_1 (show (24 : Int32).toInt = 24 from by decide) (rfl : (x16_2 : Int32).toInt = _)) (And.intro (rfl : (x16_1 : Int32).toInt = _) rfl)))))))⟩
      · refine lv_aload_n hx hb dX11_blind_22 rfl (lv_at hl 0 rfl) ?_
        refine gt_X11 hx hb hts hown hK hP 0 (hW_w16.o tX_0) 5 (by decide) wd_678 rfl (hW_w16.fr tX_0 rfl) dX11_blind_23 ?_
        refine lv_aload_n hx hb dX11_blind_26 rfl (lv_at hl 0 rfl) ?_
        refine gt_X11 hx hb hts hown hK hP 0 (hW_w16.o tX_0) 13 (by decide) wd_686 rfl (hW_w16.fr tX_0 rfl) dX11_blind_27 ?_
        refine lv_iload_n hx hb dX11_blind_30 rfl (lv_at hl 2 rfl) ?_
        refine lv_aload_n hx hb dX11_blind_31 rfl (lv_at hl 0 rfl) ?_
        refine gt_X11 hx hb hts hown hK hP 0 (hW_w16.o tX_0) 0 (by decide) wd_673 rfl (hW_w16.fr tX_0 rfl) dX11_blind_32 ?_
        refine gt_X1 hx hb hts hown hK hP 1 (hW_w16.o tX_1) 0 (by decide) wd_39 rfl (hW_w16.fi tX_1 rfl) dX11_blind_35 ?_
        refine tov (v := (fI w 1 0)) (hM_w16.gI (by decide)) ?_
        refine kW_v ⟨rfl, rfl⟩ hP hD hS hA (rW_V (As := [.ref (q 109), .int x16_2, .int (fI w 1 0)]) (rest := []) hx hb hml hown hts hK hE hP hD (e_X6_addCome_109 l D cI cJ cZ q 1 16 bp w16 hW_w16 x16_2 (fI w 1 0) (R_nlt_r (In_lit (n := 24) (by decide) (by decide) : In 24 24 24) i_x16_2 c_1 (by decide) : In 1 24 x16_2) (hW_w.fin tX_1 rfl : In 0 10 (fI w 1 0)) _) ⟨⟨rfl, rfl⟩, rfl, rfl⟩ sv_X11_261 ⟨(Nat.le_trans (by decide) hR.1), (Nat.le_trans (by decide) hR.2)⟩ 42 6 (hW_w16.o tX_42) rfl rfl rfl hl.1 rfl (Nat.le_of_ble_eq_true rfl) dX11_blind_38) (fun w_2 H locs hw_w_2 hP hD hS => ?_)
        obtain ⟨hW_w_2, hs_w_2, hm_4⟩ := hw_w_2
        refine lv_aload_n hx hb dX11_blind_41 rfl (lv_at hl 0 rfl) ?_
        refine gt_X11 hx hb hts hown hK hP 0 (hW_w_2.o tX_0) 7 (by decide) wd_680 rfl (hW_w_2.fr tX_0 rfl) dX11_blind_42 ?_
        refine lv_aload_n hx hb dX11_blind_45 rfl (lv_at hl 0 rfl) ?_
        refine gt_X11 hx hb hts hown hK hP 0 (hW_w_2.o tX_0) 0 (by decide) wd_673 rfl (hW_w_2.fr tX_0 rfl) dX11_blind_46 ?_
        refine gt_X1 hx hb hts hown hK hP 1 (hW_w_2.o tX_1) 0 (by decide) wd_39 rfl (hW_w_2.fi tX_1 rfl) dX11_blind_49 ?_
        refine tov (v := (fI w 1 0)) ((hs_w_2.gI (by decide)).trans (hM_w16.gI (by decide))) ?_
        refine kW_v ⟨rfl, rfl⟩ hP hD hS hA (rW_V (As := [.int (fI w 1 0)]) (rest := []) hx hb hml hown hts hK hE hP hD (e_X3_clear l D cI cJ cZ q 1 16 bp w_2 hW_w_2 (fI w 1 0) (hW_w.fin tX_1 rfl : In 0 10 (fI w 1 0)) _) ⟨⟨rfl, rfl⟩, rfl, rfl⟩ sv_X11_252 ⟨(Nat.le_trans (by decide) hR.1), (Nat.le_trans (by decide) hR.2)⟩ 64 3 (hW_w_2.o tX_64) rfl rfl rfl hl.1 rfl (Nat.le_of_ble_eq_true rfl) dX11_blind_52) (fun w_5 H locs hw_w_5 hP hD hS => ?_)
        obtain ⟨hW_w_5, hs_w_5, h_7, h_8, h_9, hm_10⟩ := hw_w_5
        refine lv_aload_n hx hb dX11_blind_55 rfl (lv_at hl 0 rfl) ?_
        refine gt_X11 hx hb hts hown hK hP 0 (hW_w_5.o tX_0) 7 (by decide) wd_680 rfl (hW_w_5.fr tX_0 rfl) dX11_blind_56 ?_
        refine lv_aload_n hx hb dX11_blind_59 rfl (lv_at hl 0 rfl) ?_
        refine gt_X11 hx hb hts hown hK hP 0 (hW_w_5.o tX_0) 5 (by decide) wd_678 rfl (hW_w_5.fr tX_0 rfl) dX11_blind_60 ?_
        refine lv_aload_n hx hb dX11_blind_63 rfl (lv_at hl 0 rfl) ?_
        refine gt_X11 hx hb hts hown hK hP 0 (hW_w_5.o tX_0) 6 (by decide) wd_679 rfl (hW_w_5.fr tX_0 rfl) dX11_blind_64 ?_
        refine lv_iload_n hx hb dX11_blind_67 rfl (lv_at hl 2 rfl) ?_
        refine lv_aload_n hx hb dX11_blind_68 rfl (lv_at hl 0 rfl) ?_
        refine gt_X11 hx hb hts hown hK hP 0 (hW_w_5.o tX_0) 13 (by decide) wd_686 rfl (hW_w_5.fr tX_0 rfl) dX11_blind_69 ?_
        refine kW_v ⟨rfl, rfl⟩ hP hD hS hA (rW_V (As := [.ref (q 42), .ref (q 56), .int x16_2, .ref (q 109)]) (rest := []) hx hb hml hown hts hK hE hP hD (e_X3_addDay_42_56_109 l D cI cJ cZ q 1 16 bp w_5 hW_w_5 x16_2 (R_nlt_r (In_lit (n := 24) (by decide) (by decide) : In 24 24 24) i_x16_2 c_1 (by decide) : In 1 24 x16_2) (In_w h_8 (by decide) : In 0 23 (fI w_5 64 2)) (by intro hh; have i64_1 := h_7; unfold In at i64_1; have i64_2 := h_8; unfold In at i64_2; omega) _) ⟨⟨rfl, rfl⟩, rfl, rfl⟩ sv_X11_265 ⟨(Nat.le_trans (by decide) hR.1), (Nat.le_trans (by decide) hR.2)⟩ 64 3 (hW_w_5.o tX_64) rfl rfl rfl hl.1 rfl (Nat.le_of_ble_eq_true rfl) dX11_blind_72) (fun w_11 H locs hw_w_11 hP hD hS => ?_)
        obtain ⟨hW_w_11, hs_w_11, h_13, h_14, h_15, hm_16⟩ := hw_w_11
        have n_h_14 : (fI w_11 64 2).toInt ≤ ((fI w_5 64 2) : Int32).toInt + 1 := (by omega)
        refine lv_aload_n hx hb dX11_blind_75 rfl (lv_at hl 0 rfl) ?_
        refine gt_X11 hx hb hts hown hK hP 0 (hW_w_11.o tX_0) 7 (by decide) wd_680 rfl (hW_w_11.fr tX_0 rfl) dX11_blind_76 ?_
        refine gt_X3 hx hb hts hown hK hP 64 (hW_w_11.o tX_64) 1 (by decide) wd_406 rfl (hW_w_11.fi tX_64 rfl) dX11_blind_79 ?_
        refine lv_if_le (tgt := 106) hx hb dX11_blind_82 (by decide) (fun c_17 => ?_) (fun c_17 => ?_)
        · exact J106 x16_1 w_11 _ _ ls hW_w_11 (((hM_w16.tr hs_w_2 (by decide)).tr hs_w_5 (by decide)).tr hs_w_11 (by decide)) (R_nlt_r (In_lit (n := 24) (by decide) (by decide) : In 24 24 24) i_x16_2 c_1 (by decide) : In 1 24 x16_2) (SB_w (SB_cg ((hs_w_11.hA (by decide)).trans ((hs_w_5.hA (by decide)).trans (hs_w_2.hA (by decide)))) ((hs_w_11.hA (by decide)).trans ((hs_w_5.hA (by decide)).trans (hs_w_2.hA (by decide)))) ((hs_w_11.gI (by decide)).trans ((hs_w_5.gI (by decide)).trans (hs_w_2.gI (by decide)))) hs_16) (by omega)) (fun n r t hk => (hmi_16 (n + 1) r t (rl_X11_blind_16 (n := n) (And.intro (tyX hW_w16) (And.intro i_x16_2 (Or.inr (And.intro (z_nlt c_1 (show (24 : Int32).toInt = 24 from by decide) (rfl : (x16_2 : Int32).toInt = _)) (Exists.intro (vw w_2) (And.intro (cgM_2 hm_4 (rfl : (x16_2 : Int32).toInt = _) (z_of (hM_w16.gI (by decide)).symm (hW_w16.vi tX_1 rfl))) (And.intro (hs_w_2.Fr hW_w16 hW_w_2 intsX_ok intsX_ok) (And.intro (tyX hW_w_2) (Exists.intro (vw w_5) (And.intro (cgM_1 hm_10 (z_of (((hs_w_2.gI (by decide)).trans (hM_w16.gI (by decide))).symm.trans (hs_w_2.gI (by decide))) (hW_w16.vi tX_1 rfl))) (And.intro (hs_w_5.Fr hW_w_2 hW_w_5 intsX_ok intsX_ok) (And.intro (tyX hW_w_5) (Exists.intro (vw w_11) (And.intro (cgM_1 hm_16 (rfl : (x16_2 : Int32).toInt = _)) (And.intro (hs_w_11.Fr hW_w_5 hW_w_11 intsX_ok intsX_ok) (And.intro (tyX hW_w_11) (Or.inl (And.intro (z_le c_17 (hW_w_11.vi tX_64 rfl) (show (0 : Int32).toInt = 0 from by decide)) (cgK_2 hk (rfl : (x16_1 : Int32).toInt = _) (rfl : (x16_2 : Int32).toInt = _))))))))))))))))))))))) hP hD hS (lv_sub hl [0, 1, 2] rfl)
        · refine lv_aload_n hx hb dX11_blind_85 rfl (lv_at hl 0 rfl) ?_
          refine gt_X11 hx hb hts hown hK hP 0 (hW_w_11.o tX_0) 9 (by decide) wd_682 rfl (hW_w_11.fr tX_0 rfl) dX11_blind_86 ?_
          refine kW_v ⟨rfl, rfl⟩ hP hD hS hA (rW_V (As := []) (rest := []) hx hb hml hown hts hK hE hP hD (e_X9_deal l D cI cJ cZ q 1 16 bp w_11 hW_w_11 (by intro hh; have i64_1 := (R_nle_l (hW_w_11.fin tX_64 rfl : In 0 40 (fI w_11 64 1)) (In_lit (n := 0) (by decide) (by decide) : In 0 0 0) c_17 (by decide) : In 1 40 (fI w_11 64 1)); unfold In at i64_1; have i64_2 := (hW_w_11.fin tX_64 rfl : In 0 24 (fI w_11 64 2)); unfold In at i64_2; omega) (FB_FL (h_15 h_9)) ((b + 440 * ((x16_2 : Int32).toInt - 1))) ((by have q := (R_nlt_r (In_lit (n := 24) (by decide) (by decide) : In 24 24 24) i_x16_2 c_1 (by decide) : In 1 24 x16_2); unfold In at q; omega)) ((SB_cg ((hs_w_11.hA (by decide)).trans ((hs_w_5.hA (by decide)).trans (hs_w_2.hA (by decide)))) ((hs_w_11.hA (by decide)).trans ((hs_w_5.hA (by decide)).trans (hs_w_2.hA (by decide)))) ((hs_w_11.gI (by decide)).trans ((hs_w_5.gI (by decide)).trans (hs_w_2.gI (by decide)))) hs_16)) _) ⟨⟨rfl, rfl⟩, rfl, rfl⟩ sv_X11_269 ⟨(Nat.le_trans (by decide) hR.1), (Nat.le_trans (by decide) hR.2)⟩ 81 9 (hW_w_11.o tX_81) rfl rfl rfl hl.1 rfl (Nat.le_of_ble_eq_true rfl) dX11_blind_89) (fun w_18 H locs hw_w_18 hP hD hS => ?_)
          obtain ⟨hW_w_18, hs_w_18, h_20, hm_21⟩ := hw_w_18
          refine lv_iload_n hx hb dX11_blind_92 rfl (lv_at hl 1 rfl) ?_
          refine lv_aload_n hx hb dX11_blind_93 rfl (lv_at hl 0 rfl) ?_
          refine gt_X11 hx hb hts hown hK hP 0 (hW_w_18.o tX_0) 7 (by decide) wd_680 rfl (hW_w_18.fr tX_0 rfl) dX11_blind_94 ?_
          refine lv_aload_n hx hb dX11_blind_97 rfl (lv_at hl 0 rfl) ?_
          refine gt_X11 hx hb hts hown hK hP 0 (hW_w_18.o tX_0) 13 (by decide) wd_686 rfl (hW_w_18.fr tX_0 rfl) dX11_blind_98 ?_
          refine kW_i ⟨rfl, rfl⟩ hP hD hS hA (rW_V (As := [.ref (q 109)]) (rest := [.int x16_1]) hx hb hml hown hts hK hE hP hD (e_X3_takeRest_109 l D cI cJ cZ q 1 16 bp w_18 hW_w_18 (In_of (hs_w_18.gI (by decide)) (R_nle_l (hW_w_11.fin tX_64 rfl : In 0 40 (fI w_11 64 1)) (In_lit (n := 0) (by decide) (by decide) : In 0 0 0) c_17 (by decide) : In 1 40 (fI w_11 64 1))) _) ⟨⟨rfl, rfl⟩, rfl, rfl⟩ sv_X11_289 ⟨(Nat.le_trans (by decide) hR.1), (Nat.le_trans (by decide) hR.2)⟩ 64 3 (hW_w_18.o tX_64) rfl rfl rfl hl.1 rfl (Nat.le_of_ble_eq_true rfl) dX11_blind_101) (fun r_23 w_22 H locs hw_w_22 hP hD hS => ?_)
          obtain ⟨hW_w_22, hs_w_22, hm_24⟩ := hw_w_22
          refine lv_iadd hx hb dX11_blind_104 ?_
          refine lv_topi (fun v_25 ev_25 => ?_)
          refine lv_istore_n (lv' := [(1, .int v_25), (0, .ref (q 0)), (2, .int x16_2)]) hx hb dX11_blind_105 rfl hl (by decide) rfl (fun ls hl => ?_)
          exact J106 v_25 w_22 _ _ ls hW_w_22 (((((hM_w16.tr hs_w_2 (by decide)).tr hs_w_5 (by decide)).tr hs_w_11 (by decide)).tr hs_w_18 (by decide)).tr hs_w_22 (by decide)) (R_nlt_r (In_lit (n := 24) (by decide) (by decide) : In 24 24 24) i_x16_2 c_1 (by decide) : In 1 24 x16_2) (SB_w (SB_cg (hs_w_22.hA (by decide)) (hs_w_22.hA (by decide)) (hs_w_22.gI (by decide)) h_20) (by omega)) (fun n r t hk => (hmi_16 (n + 1) r t (rl_X11_blind_16 (n := n) (And.intro (tyX hW_w16) (And.intro i_x16_2 (Or.inr (And.intro (z_nlt c_1 (show (24 : Int32).toInt = 24 from by decide) (rfl : (x16_2 : Int32).toInt = _)) (Exists.intro (vw w_2) (And.intro (cgM_2 hm_4 (rfl : (x16_2 : Int32).toInt = _) (z_of (hM_w16.gI (by decide)).symm (hW_w16.vi tX_1 rfl))) (And.intro (hs_w_2.Fr hW_w16 hW_w_2 intsX_ok intsX_ok) (And.intro (tyX hW_w_2) (Exists.intro (vw w_5) (And.intro (cgM_1 hm_10 (z_of (((hs_w_2.gI (by decide)).trans (hM_w16.gI (by decide))).symm.trans (hs_w_2.gI (by decide))) (hW_w16.vi tX_1 rfl))) (And.intro (hs_w_5.Fr hW_w_2 hW_w_5 intsX_ok intsX_ok) (And.intro (tyX hW_w_5) (Exists.intro (vw w_11) (And.intro (cgM_1 hm_16 (rfl : (x16_2 : Int32).toInt = _)) (And.intro (hs_w_11.Fr hW_w_5 hW_w_11 intsX_ok intsX_ok) (And.intro (tyX hW_w_11) (Or.inr (And.intro (z_nle c_17 (hW_w_11.vi tX_64 rfl) (show (0 : Int32).toInt = 0 from by decide)) (Exists.intro (vw w_18) (And.intro hm_21 (And.intro (hs_w_18.Fr hW_w_11 hW_w_18 intsX_ok intsX_ok) (And.intro (tyX hW_w_18) (Exists.intro r_23.toInt (Exists.intro (vw w_22) (And.intro hm_24 (And.intro (hs_w_22.Fr hW_w_18 hW_w_22 intsX_ok intsX_ok) (And.intro (tyX hW_w_22) (cgK_2 hk (z_of ev_25 (z_addw (rfl : (x16_1 : Int32).toInt = _) (rfl : (r_23 : Int32).toInt = _))) (rfl : (x16_2 : Int32).toInt = _)))))))))))))))))))))))))))))))) hP hD hS (lv_sub hl [1, 0, 2] rfl)
  refine lv_aload_n hx hb dX11_blind_0 rfl (lv_at hl 0 rfl) ?_
  refine kW_v ⟨rfl, rfl⟩ hP hD hS hA (rW_V (As := []) (rest := []) hx hb hml hown hts hK hE hP hD (e_X11_weighAll l D cI cJ cZ q bp w hW_w (LD_cg rfl rfl hLD) _) ⟨⟨rfl, rfl⟩, rfl, rfl⟩ sv_X11_249 ⟨(Nat.le_trans (by decide) hR.1), (Nat.le_trans (by decide) hR.2)⟩ 0 11 (hW_w.o tX_0) rfl rfl rfl hl.1 rfl (Nat.le_of_ble_eq_true rfl) dX11_blind_1) (fun w_26 H locs hw_w_26 hP hD hS => ?_)
  obtain ⟨hW_w_26, hs_w_26, hm_28⟩ := hw_w_26
  refine lv_aload_n hx hb dX11_blind_4 rfl (lv_at hl 0 rfl) ?_
  refine gt_X11 hx hb hts hown hK hP 0 (hW_w_26.o tX_0) 13 (by decide) wd_686 rfl (hW_w_26.fr tX_0 rfl) dX11_blind_5 ?_
  refine lv_iconst (v := 0) hx hb dX11_blind_8 (by decide) ?_
  refine kW_v ⟨rfl, rfl⟩ hP hD hS hA (rW_S (As := [.ref (q 109), .int 0]) (rest := []) hx hb hml hown hts hK hE hP hD (e_J7_fill_53178_109 l D cI cJ cZ q 1 16 bp w_26 hW_w_26 0 (In_lit (n := 0) (by decide) (by decide) : In 0 0 0) _) ⟨⟨rfl, rfl⟩, rfl, rfl⟩ sv_X11_255 ⟨(Nat.le_trans (by decide) hR.1), (Nat.le_trans (by decide) hR.2)⟩ rfl hl.1 rfl (Nat.le_of_ble_eq_true rfl) dX11_blind_9) (fun w_29 H locs hw_w_29 hP hD hS => ?_)
  obtain ⟨hW_w_29, hs_w_29, h_31, hm_32⟩ := hw_w_29
  refine lv_iconst (v := 0) hx hb dX11_blind_12 (by decide) ?_
  refine lv_istore_n (lv' := [(1, .int 0), (0, .ref (q 0))]) hx hb dX11_blind_13 rfl hl (by decide) rfl (fun ls hl => ?_)
  refine lv_iconst (v := 1) hx hb dX11_blind_14 (by decide) ?_
  refine lv_istore_n (lv' := [(2, .int 1), (1, .int 0), (0, .ref (q 0))]) hx hb dX11_blind_15 rfl hl (by decide) rfl (fun ls hl => ?_)
  exact J16 _ 0 1 w_29 _ _ ls (Nat.lt_succ_self _) hW_w_29 ((Sm.rf.tr hs_w_26 (by decide)).tr hs_w_29 (by decide)) (In_lit (n := 1) (by decide) (by decide) : In 1 25 1) (SB_w (SB_cg ((hs_w_29.hA (by decide)).trans (hs_w_26.hA (by decide))) ((hs_w_29.hA (by decide)).trans (hs_w_26.hA (by decide))) ((hs_w_29.gI (by decide)).trans (hs_w_26.gI (by decide))) hSB) (by have z1 : (1 : Int32).toInt = 1 := (by decide); omega)) (fun n r t hk => (mk_X11_blind (n := n) (And.intro (tyX hW_w) (Exists.intro (vw w_26) (And.intro hm_28 (And.intro (hs_w_26.Fr hW_w hW_w_26 intsX_ok intsX_ok) (And.intro (tyX hW_w_26) (Exists.intro (vw w_29) (And.intro (cgM_1 hm_32 (show (0 : Int32).toInt = 0 from by decide)) (And.intro (hs_w_29.Fr hW_w_26 hW_w_29 intsX_ok intsX_ok) (And.intro (tyX hW_w_29) (cgK_2 hk (show (0 : Int32).toInt = 0 from by decide) (show (1 : Int32).toInt = 1 from by decide))))))))))))) hP hD hS (lv_sub hl [2, 1, 0] rfl)
set_option maxRecDepth 100000 in
set_option maxHeartbeats 8000000 in
theorem e_X11_lacks (l : Launch) (D : va_G) (cI cJ cZ : ClassId) (q : Nat → Nat) (bp : Nat) (w : va_W) (hW_w : HT q (TX q cI cJ cZ 1 16 bp) w) (p1 : Int32) (p2 : Int32) : Con_i l yX11_lacks cX11_lacks 3 (some .int) ({ frames := 1, cells := 0, slots := 0, locals := 24 }) D cI cJ cZ eW [.ref (q 0), .int p1, .int p2] w (fun (r : Int32) (w1 : va_W) => HT q (TX q cI cJ cZ 1 16 bp) w1 ∧ Sm [] [] w w1 ∧ M_X11_lacks (vw w) p1.toInt p2.toInt r.toInt (vw w1)) := by
  refine eQ_i rfl (by decide) (Nat.le_of_ble_eq_true rfl) ⟨rfl, rfl⟩ ?_
  intro p e R s m args below meth c A Q hx hb hml hown hts hK hE hA hR hret hP hD hS ls hl
  have hown : s.vm.findClass RX11 = some m.cls := hown
  have hl : lv_has ls 3 [(0, .ref (q 0)), (1, .int p1), (2, .int p2)] := hl
  refine lv_aload_n hx hb dX11_lacks_0 rfl (lv_at hl 0 rfl) ?_
  refine gt_X11 hx hb hts hown hK hP 0 (hW_w.o tX_0) 10 (by decide) wd_683 rfl (hW_w.fr tX_0 rfl) dX11_lacks_1 ?_
  refine gt_X4 hx hb hts hown hK hP 88 (hW_w.o tX_88) 0 (by decide) wd_567 rfl (hW_w.fi tX_88 rfl) dX11_lacks_4 ?_
  refine lv_if_eq (tgt := 22) hx hb dX11_lacks_7 (by decide) (fun c_1 => ?_) (fun c_1 => ?_)
  · refine lv_iconst (v := (-1)) hx hb dX11_lacks_22 (by decide) ?_
    exact hret _ _ _ _ _ _ hP hD hS dX11_lacks_23 ⟨hW_w, Sm.rf, (mk_X11_lacks (And.intro (tyX hW_w) (Or.inl (And.intro (z_eq c_1 (hW_w.vi tX_88 rfl) (show (0 : Int32).toInt = 0 from by decide)) (And.intro (show ((-1) : Int32).toInt = (-1) from by decide) rfl)))))⟩
  · refine lv_aload_n hx hb dX11_lacks_10 rfl (lv_at hl 0 rfl) ?_
    refine gt_X11 hx hb hts hown hK hP 0 (hW_w.o tX_0) 10 (by decide) wd_683 rfl (hW_w.fr tX_0 rfl) dX11_lacks_11 ?_
    refine lv_iload_n hx hb dX11_lacks_14 rfl (lv_at hl 1 rfl) ?_
    refine lv_iload_n hx hb dX11_lacks_15 rfl (lv_at hl 2 rfl) ?_
    refine kW_i ⟨rfl, rfl⟩ hP hD hS hA (rW_V (As := [.int p1, .int p2]) (rest := []) hx hb hml hown hts hK hE hP hD (e_X4_lacking l D cI cJ cZ q 1 16 bp w hW_w p1 p2 _) ⟨⟨rfl, rfl⟩, rfl, rfl⟩ sv_X11_293 ⟨(Nat.le_trans (by decide) hR.1), (Nat.le_trans (by decide) hR.2)⟩ 88 4 (hW_w.o tX_88) rfl rfl rfl hl.1 rfl (Nat.le_of_ble_eq_true rfl) dX11_lacks_16) (fun r_3 w_2 H locs hw_w_2 hP hD hS => ?_)
    obtain ⟨hW_w_2, hs_w_2, hm_4⟩ := hw_w_2
    refine lv_goto (tgt := 23) hx hb dX11_lacks_19 (by decide) ?_
    exact hret _ _ _ _ _ _ hP hD hS dX11_lacks_23 ⟨hW_w_2, (Sm.rf.tr hs_w_2 (by decide)), (mk_X11_lacks (And.intro (tyX hW_w) (Or.inr (And.intro (z_neq c_1 (hW_w.vi tX_88 rfl) (show (0 : Int32).toInt = 0 from by decide)) (Exists.intro r_3.toInt (Exists.intro (vw w_2) (And.intro (cgM_2 hm_4 (rfl : (p1 : Int32).toInt = _) (rfl : (p2 : Int32).toInt = _)) (And.intro (hs_w_2.Fr hW_w hW_w_2 intsX_ok intsX_ok) (And.intro (tyX hW_w_2) (And.intro (rfl : (r_3 : Int32).toInt = _) rfl))))))))))⟩
set_option maxRecDepth 100000 in
set_option maxHeartbeats 8000000 in
theorem e_X4_worthOf_1 (l : Launch) (D : va_G) (cI cJ cZ : ClassId) (q : Nat → Nat) (bb bs bp : Nat) (w : va_W) (hW_w : HT q (TX q cI cJ cZ bb bs bp) w) (p1 : Int32) (i_p1 : In 0 39 p1) : Con_i l yX4_worthOf cX4_worthOf 5 (some .int) ({ frames := 0, cells := 0, slots := 0, locals := 0 }) D cI cJ cZ eW [.ref (q 88), .int p1, .ref (q 1)] w (fun (r : Int32) (w1 : va_W) => HT q (TX q cI cJ cZ bb bs bp) w1 ∧ Sm [] [] w w1 ∧ M_X4_worthOf_1 (vw w) p1.toInt r.toInt (vw w1)) := by
  refine eQ_i rfl (by decide) (Nat.le_of_ble_eq_true rfl) ⟨rfl, rfl⟩ ?_
  intro p e R s m args below meth c A Q hx hb hml hown hts hK hE hA hR hret hP hD hS ls hl
  have hown : s.vm.findClass RX4 = some m.cls := hown
  have hl : lv_has ls 5 [(0, .ref (q 88)), (1, .int p1), (2, .ref (q 1))] := hl
  have J5 : ∀ (N : Nat) (x5_3 : Int32) (x5_4 : Int32) (w5 : va_W) (H : Heap) (locs : List Loc) (ls : Array Slot), (10 - x5_4.toInt).toNat < N → HT q (TX q cI cJ cZ bb bs bp) w5 → Sm [] [] w w5 → (In 0 39 p1) → (In 0 10 x5_4) → (∀ (n : Nat) (r : Int) (t : PS), It_X4_worthOf_1 n 5 p1.toInt x5_3.toInt x5_4.toInt (vw w5) r t → M_X4_worthOf_1 (vw w) p1.toInt r t) → va_P D vwCl w5 H → va_D A w5 → va_S A s.heap H locs → lv_has ls 5 [(0, .ref (q 88)), (1, .int p1), (2, .ref (q 1)), (3, .int x5_3), (4, .int x5_4)] → W p l e R s m args below meth c H locs 0 0 Q (F0 m 5 ls []) := by
    intro N
    induction N with
    | zero => intro x5_3 x5_4 w5 H locs ls hmu; exact absurd hmu (Nat.not_lt_zero _)
    | succ N ih5 =>
      intro x5_3 x5_4 w5 H locs ls hmu5 hW_w5 hM_w5 i_x5_1 i_x5_4 hmi_5 hP hD hS hl
      have J38 : ∀ (x38_3 : Int32) (w38 : va_W) (H : Heap) (locs : List Loc) (ls : Array Slot), HT q (TX q cI cJ cZ bb bs bp) w38 → Sm [] [] w w38 → (In 0 39 p1) → (In 0 9 x5_4) → (In 1 10 (fI w38 1 0)) → (∀ (n : Nat) (r : Int) (t : PS), It_X4_worthOf_1 n 38 p1.toInt x38_3.toInt x5_4.toInt (vw w38) r t → M_X4_worthOf_1 (vw w) p1.toInt r t) → va_P D vwCl w38 H → va_D A w38 → va_S A s.heap H locs → lv_has ls 5 [(0, .ref (q 88)), (1, .int p1), (2, .ref (q 1)), (3, .int x38_3), (4, .int x5_4)] → W p l e R s m args below meth c H locs 0 0 Q (F0 m 38 ls []) := by
        intro x38_3 w38 H locs ls hW_w38 hM_w38 i_x38_1 i_x38_4 g38_1_0 hmi_38 hP hD hS hl
        refine lv_iinc (v := (x5_4 + 1)) (lv' := [(4, .int (x5_4 + 1)), (0, .ref (q 88)), (1, .int p1), (2, .ref (q 1)), (3, .int x38_3)]) hx hb dX4_worthOf_38 hl (k := 4) rfl (rfl) (by decide) rfl (fun ls hl => ?_)
        refine lv_goto (tgt := 5) hx hb dX4_worthOf_41 (by decide) ?_
        exact ih5 x38_3 (x5_4 + 1) w38 _ _ ls (mu_inc hmu5 i_x38_4 (In_lit (n := 1) (by decide) (by decide) : In 1 1 1) (by decide)) hW_w38 hM_w38 i_p1 (In_w ((In_add (y := 1) i_x38_4 (In_lit (n := 1) (by decide) (by decide) : In 1 1 1) (by decide)) : In 1 10 (x5_4 + 1)) (by decide) : In 0 10 (x5_4 + 1)) (fun n r t hk => (hmi_38 (n + 1) r t (rl_X4_worthOf_1_38 (n := n) (And.intro (tyX hW_w38) (And.intro i_x38_1 (And.intro i_x38_4 (cgK_3 hk (rfl : (p1 : Int32).toInt = _) (rfl : (x38_3 : Int32).toInt = _) (z_add (t_add i_x38_4 (In_lit (n := 1) (by decide) (by decide) : In 1 1 1) (by decide)) (rfl : (x5_4 : Int32).toInt = _) (show (1 : Int32).toInt = 1 from by decide))))))))) hP hD hS (lv_sub hl [1, 2, 3, 4, 0] rfl)
      refine lv_iload hx hb dX4_worthOf_5 (lv_at hl 4 rfl) ?_
      refine lv_aload_n hx hb dX4_worthOf_7 rfl (lv_at hl 2 rfl) ?_
      refine gt_X1 hx hb hts hown hK hP 1 (hW_w5.o tX_1) 0 (by decide) wd_37 rfl (hW_w5.fi tX_1 rfl) dX4_worthOf_8 ?_
      refine tov (v := (fI w 1 0)) (hM_w5.gI (by decide)) ?_
      refine lv_icmp_ge (tgt := 44) hx hb dX4_worthOf_11 (by decide) (fun c_1 => ?_) (fun c_1 => ?_)
      · refine lv_iload_n hx hb dX4_worthOf_44 rfl (lv_at hl 3 rfl) ?_
        exact hret _ _ _ _ _ _ hP hD hS dX4_worthOf_45 ⟨hW_w5, hM_w5, (hmi_5 (0 + 1) _ _ (rl_X4_worthOf_1_5 (n := 0) (And.intro (tyX hW_w5) (And.intro i_x5_1 (And.intro i_x5_4 (Or.inl (And.intro (z_le c_1 (z_of (hM_w5.gI (by decide)).symm (hW_w5.vi tX_1 rfl)) (rfl : (x5_4 : Int32).toInt = _)) (And.intro (rfl : (x5_3 : Int32).toInt = _) rfl))))))))⟩
      · refine lv_aload_n hx hb dX4_worthOf_14 rfl (lv_at hl 0 rfl) ?_
        refine gt_X4 hx hb hts hown hK hP 88 (hW_w5.o tX_88) 8 (by decide) wd_578 rfl (hW_w5.fr tX_88 rfl) dX4_worthOf_15 ?_
        refine lv_iload_n hx hb dX4_worthOf_18 rfl (lv_at hl 1 rfl) ?_
        refine va_iald hx hb hK hP 95 0 (hW_w5.a tX_95) rfl (in_I i_p1 (by decide)) dX4_worthOf_19 ?_
        refine lv_topi (fun v_2 ev_2 => ?_)
        refine lv_iload hx hb dX4_worthOf_20 (lv_at hl 4 rfl) ?_
        refine lv_ishr hx hb dX4_worthOf_22 ?_
        refine lv_topi (fun v_3 ev_3 => ?_)
        refine lv_iconst (v := 1) hx hb dX4_worthOf_23 (by decide) ?_
        refine lv_iand hx hb dX4_worthOf_24 ?_
        refine lv_if_eq (tgt := 38) hx hb dX4_worthOf_25 (by decide) (fun c_4 => ?_) (fun c_4 => ?_)
        · exact J38 x5_3 w5 _ _ ls hW_w5 hM_w5 i_p1 (R_nle_r (hW_w.fin tX_1 rfl : In 0 10 (fI w 1 0)) i_x5_4 c_1 (by decide) : In 0 9 x5_4) (In_of (hM_w5.gI (by decide)) (R_nle_l (hW_w.fin tX_1 rfl : In 0 10 (fI w 1 0)) i_x5_4 c_1 (by decide) : In 1 10 (fI w 1 0))) (fun n r t hk => (hmi_5 (n + 1) r t (rl_X4_worthOf_1_5 (n := n) (And.intro (tyX hW_w5) (And.intro i_x5_1 (And.intro i_x5_4 (Or.inr (And.intro (z_nle c_1 (z_of (hM_w5.gI (by decide)).symm (hW_w5.vi tX_1 rfl)) (rfl : (x5_4 : Int32).toInt = _)) (Or.inl (And.intro (z_eq c_4 (z_and (z_of ev_3 (z_shr (z_of ev_2 ((hW_w5.va tX_95 _).trans (congrArg (vw w5 95) (z_ix (rfl : (p1 : Int32).toInt = _))))) (rfl : (x5_4 : Int32).toInt = _))) (show (1 : Int32).toInt = 1 from by decide)) (show (0 : Int32).toInt = 0 from by decide)) (cgK_3 hk (rfl : (p1 : Int32).toInt = _) (rfl : (x5_3 : Int32).toInt = _) (rfl : (x5_4 : Int32).toInt = _)))))))))))) hP hD hS (lv_sub hl [0, 1, 2, 3, 4] rfl)
        · refine lv_iload_n hx hb dX4_worthOf_28 rfl (lv_at hl 3 rfl) ?_
          refine lv_aload_n hx hb dX4_worthOf_29 rfl (lv_at hl 2 rfl) ?_
          refine gt_X1 hx hb hts hown hK hP 1 (hW_w5.o tX_1) 2 (by decide) wd_47 rfl (hW_w5.fr tX_1 rfl) dX4_worthOf_30 ?_
          refine lv_iload hx hb dX4_worthOf_33 (lv_at hl 4 rfl) ?_
          refine va_iald hx hb hK hP 3 0 (hW_w5.a tX_3) rfl (in_I (R_nle_r (hW_w.fin tX_1 rfl : In 0 10 (fI w 1 0)) i_x5_4 c_1 (by decide) : In 0 9 x5_4) (by decide)) dX4_worthOf_35 ?_
          refine lv_topi (fun v_5 ev_5 => ?_)
          refine lv_iadd hx hb dX4_worthOf_36 ?_
          refine lv_topi (fun v_6 ev_6 => ?_)
          refine lv_istore_n (lv' := [(3, .int v_6), (0, .ref (q 88)), (1, .int p1), (2, .ref (q 1)), (4, .int x5_4)]) hx hb dX4_worthOf_37 rfl hl (by decide) rfl (fun ls hl => ?_)
          exact J38 v_6 w5 _ _ ls hW_w5 hM_w5 i_p1 (R_nle_r (hW_w.fin tX_1 rfl : In 0 10 (fI w 1 0)) i_x5_4 c_1 (by decide) : In 0 9 x5_4) (In_of (hM_w5.gI (by decide)) (R_nle_l (hW_w.fin tX_1 rfl : In 0 10 (fI w 1 0)) i_x5_4 c_1 (by decide) : In 1 10 (fI w 1 0))) (fun n r t hk => (hmi_5 (n + 1) r t (rl_X4_worthOf_1_5 (n := n) (And.intro (tyX hW_w5) (And.intro i_x5_1 (And.intro i_x5_4 (Or.inr (And.intro (z_nle c_1 (z_of (hM_w5.gI (by decide)).symm (hW_w5.vi tX_1 rfl)) (rfl : (x5_4 : Int32).toInt = _)) (Or.inr (And.intro (z_neq c_4 (z_and (z_of ev_3 (z_shr (z_of ev_2 ((hW_w5.va tX_95 _).trans (congrArg (vw w5 95) (z_ix (rfl : (p1 : Int32).toInt = _))))) (rfl : (x5_4 : Int32).toInt = _))) (show (1 : Int32).toInt = 1 from by decide)) (show (0 : Int32).toInt = 0 from by decide)) (cgK_3 hk (rfl : (p1 : Int32).toInt = _) (z_of ev_6 (z_addw (rfl : (x5_3 : Int32).toInt = _) (z_of ev_5 ((hW_w5.va tX_3 _).trans (congrArg (vw w5 3) (z_ix (rfl : (x5_4 : Int32).toInt = _))))))) (rfl : (x5_4 : Int32).toInt = _)))))))))))) hP hD hS (lv_sub hl [1, 2, 3, 0, 4] rfl)
  refine lv_iconst (v := 0) hx hb dX4_worthOf_0 (by decide) ?_
  refine lv_istore_n (lv' := [(3, .int 0), (0, .ref (q 88)), (1, .int p1), (2, .ref (q 1))]) hx hb dX4_worthOf_1 rfl hl (by decide) rfl (fun ls hl => ?_)
  refine lv_iconst (v := 0) hx hb dX4_worthOf_2 (by decide) ?_
  refine lv_istore (lv' := [(4, .int 0), (3, .int 0), (0, .ref (q 88)), (1, .int p1), (2, .ref (q 1))]) hx hb dX4_worthOf_3 hl (by decide) rfl (fun ls hl => ?_)
  exact J5 _ 0 0 w _ _ ls (Nat.lt_succ_self _) hW_w Sm.rf i_p1 (In_lit (n := 0) (by decide) (by decide) : In 0 10 0) (fun n r t hk => (mk_X4_worthOf_1 (n := n) (And.intro (tyX hW_w) (And.intro i_p1 (cgK_3 hk (rfl : (p1 : Int32).toInt = _) (show (0 : Int32).toInt = 0 from by decide) (show (0 : Int32).toInt = 0 from by decide)))))) hP hD hS (lv_sub hl [2, 3, 4, 1, 0] rfl)
set_option maxRecDepth 100000 in
set_option maxHeartbeats 8000000 in
theorem e_X4_greatest_1 (l : Launch) (D : va_G) (cI cJ cZ : ClassId) (q : Nat → Nat) (bb bs bp : Nat) (w : va_W) (hW_w : HT q (TX q cI cJ cZ bb bs bp) w) (p1 : Int32) (i_p1 : In 0 39 p1) : Con_i l yX4_greatest cX4_greatest 5 (some .int) ({ frames := 1, cells := 0, slots := 0, locals := 24 }) D cI cJ cZ eW [.ref (q 88), .int p1, .ref (q 1)] w (fun (r : Int32) (w1 : va_W) => HT q (TX q cI cJ cZ bb bs bp) w1 ∧ Sm [] [] w w1 ∧ M_X4_greatest_1 (vw w) p1.toInt r.toInt (vw w1)) := by
  refine eQ_i rfl (by decide) (Nat.le_of_ble_eq_true rfl) ⟨rfl, rfl⟩ ?_
  intro p e R s m args below meth c A Q hx hb hml hown hts hK hE hA hR hret hP hD hS ls hl
  have hown : s.vm.findClass RX4 = some m.cls := hown
  have hl : lv_has ls 5 [(0, .ref (q 88)), (1, .int p1), (2, .ref (q 1))] := hl
  have J21 : ∀ (N : Nat) (x21_3 : Int32) (x21_4 : Int32) (w21 : va_W) (H : Heap) (locs : List Loc) (ls : Array Slot), (40 - x21_4.toInt).toNat < N → HT q (TX q cI cJ cZ bb bs bp) w21 → Sm [] [] w w21 → (In 0 39 p1) → (In 0 40 x21_4) → (∀ (n : Nat) (r : Int) (t : PS), It_X4_greatest_1 n 21 p1.toInt x21_3.toInt x21_4.toInt (vw w21) r t → M_X4_greatest_1 (vw w) p1.toInt r t) → va_P D vwCl w21 H → va_D A w21 → va_S A s.heap H locs → lv_has ls 5 [(0, .ref (q 88)), (1, .int p1), (2, .ref (q 1)), (3, .int x21_3), (4, .int x21_4)] → W p l e R s m args below meth c H locs 0 0 Q (F0 m 21 ls []) := by
    intro N
    induction N with
    | zero => intro x21_3 x21_4 w21 H locs ls hmu; exact absurd hmu (Nat.not_lt_zero _)
    | succ N ih21 =>
      intro x21_3 x21_4 w21 H locs ls hmu21 hW_w21 hM_w21 i_x21_1 i_x21_4 hmi_21 hP hD hS hl
      have J58 : ∀ (x58_3 : Int32) (w58 : va_W) (H : Heap) (locs : List Loc) (ls : Array Slot), HT q (TX q cI cJ cZ bb bs bp) w58 → Sm [] [] w w58 → (In 0 39 p1) → (In 0 39 x21_4) → (In 1 40 (fI w58 88 1)) → (∀ (n : Nat) (r : Int) (t : PS), It_X4_greatest_1 n 58 p1.toInt x58_3.toInt x21_4.toInt (vw w58) r t → M_X4_greatest_1 (vw w) p1.toInt r t) → va_P D vwCl w58 H → va_D A w58 → va_S A s.heap H locs → lv_has ls 5 [(0, .ref (q 88)), (1, .int p1), (2, .ref (q 1)), (3, .int x58_3), (4, .int x21_4)] → W p l e R s m args below meth c H locs 0 0 Q (F0 m 58 ls []) := by
        intro x58_3 w58 H locs ls hW_w58 hM_w58 i_x58_1 i_x58_4 g58_88_1 hmi_58 hP hD hS hl
        refine lv_iinc (v := (x21_4 + 1)) (lv' := [(4, .int (x21_4 + 1)), (0, .ref (q 88)), (1, .int p1), (2, .ref (q 1)), (3, .int x58_3)]) hx hb dX4_greatest_58 hl (k := 4) rfl (rfl) (by decide) rfl (fun ls hl => ?_)
        refine lv_goto (tgt := 21) hx hb dX4_greatest_61 (by decide) ?_
        exact ih21 x58_3 (x21_4 + 1) w58 _ _ ls (mu_inc hmu21 i_x58_4 (In_lit (n := 1) (by decide) (by decide) : In 1 1 1) (by decide)) hW_w58 hM_w58 i_p1 (In_w ((In_add (y := 1) i_x58_4 (In_lit (n := 1) (by decide) (by decide) : In 1 1 1) (by decide)) : In 1 40 (x21_4 + 1)) (by decide) : In 0 40 (x21_4 + 1)) (fun n r t hk => (hmi_58 (n + 1) r t (rl_X4_greatest_1_58 (n := n) (And.intro (tyX hW_w58) (And.intro i_x58_1 (And.intro i_x58_4 (cgK_3 hk (rfl : (p1 : Int32).toInt = _) (rfl : (x58_3 : Int32).toInt = _) (z_add (t_add i_x58_4 (In_lit (n := 1) (by decide) (by decide) : In 1 1 1) (by decide)) (rfl : (x21_4 : Int32).toInt = _) (show (1 : Int32).toInt = 1 from by decide))))))))) hP hD hS (lv_sub hl [1, 2, 3, 4, 0] rfl)
      refine lv_iload hx hb dX4_greatest_21 (lv_at hl 4 rfl) ?_
      refine lv_aload_n hx hb dX4_greatest_23 rfl (lv_at hl 0 rfl) ?_
      refine gt_X4 hx hb hts hown hK hP 88 (hW_w21.o tX_88) 1 (by decide) wd_569 rfl (hW_w21.fi tX_88 rfl) dX4_greatest_24 ?_
      refine tov (v := (fI w 88 1)) (hM_w21.gI (by decide)) ?_
      refine lv_icmp_ge (tgt := 64) hx hb dX4_greatest_27 (by decide) (fun c_1 => ?_) (fun c_1 => ?_)
      · refine lv_iload_n hx hb dX4_greatest_64 rfl (lv_at hl 3 rfl) ?_
        exact hret _ _ _ _ _ _ hP hD hS dX4_greatest_65 ⟨hW_w21, hM_w21, (hmi_21 (0 + 1) _ _ (rl_X4_greatest_1_21 (n := 0) (And.intro (tyX hW_w21) (And.intro i_x21_1 (And.intro i_x21_4 (Or.inl (And.intro (z_le c_1 (z_of (hM_w21.gI (by decide)).symm (hW_w21.vi tX_88 rfl)) (rfl : (x21_4 : Int32).toInt = _)) (And.intro (rfl : (x21_3 : Int32).toInt = _) rfl))))))))⟩
      · refine lv_aload_n hx hb dX4_greatest_30 rfl (lv_at hl 0 rfl) ?_
        refine gt_X4 hx hb hts hown hK hP 88 (hW_w21.o tX_88) 3 (by decide) wd_571 rfl (hW_w21.fr tX_88 rfl) dX4_greatest_31 ?_
        refine lv_iload hx hb dX4_greatest_34 (lv_at hl 4 rfl) ?_
        refine va_iald hx hb hK hP 90 0 (hW_w21.a tX_90) rfl (in_I (R_nle_r (hW_w.fin tX_88 rfl : In 0 40 (fI w 88 1)) i_x21_4 c_1 (by decide) : In 0 39 x21_4) (by decide)) dX4_greatest_36 ?_
        refine lv_topi (fun v_2 ev_2 => ?_)
        refine lv_aload_n hx hb dX4_greatest_37 rfl (lv_at hl 0 rfl) ?_
        refine gt_X4 hx hb hts hown hK hP 88 (hW_w21.o tX_88) 3 (by decide) wd_571 rfl (hW_w21.fr tX_88 rfl) dX4_greatest_38 ?_
        refine lv_iload_n hx hb dX4_greatest_41 rfl (lv_at hl 1 rfl) ?_
        refine va_iald hx hb hK hP 90 0 (hW_w21.a tX_90) rfl (in_I i_p1 (by decide)) dX4_greatest_42 ?_
        refine lv_topi (fun v_3 ev_3 => ?_)
        refine lv_icmp_ne (tgt := 58) hx hb dX4_greatest_43 (by decide) (fun c_4 => ?_) (fun c_4 => ?_)
        · exact J58 x21_3 w21 _ _ ls hW_w21 hM_w21 i_p1 (R_nle_r (hW_w.fin tX_88 rfl : In 0 40 (fI w 88 1)) i_x21_4 c_1 (by decide) : In 0 39 x21_4) (In_of (hM_w21.gI (by decide)) (R_nle_l (hW_w.fin tX_88 rfl : In 0 40 (fI w 88 1)) i_x21_4 c_1 (by decide) : In 1 40 (fI w 88 1))) (fun n r t hk => (hmi_21 (n + 1) r t (rl_X4_greatest_1_21 (n := n) (And.intro (tyX hW_w21) (And.intro i_x21_1 (And.intro i_x21_4 (Or.inr (And.intro (z_nle c_1 (z_of (hM_w21.gI (by decide)).symm (hW_w21.vi tX_88 rfl)) (rfl : (x21_4 : Int32).toInt = _)) (Or.inr (And.intro (z_neq c_4 (z_of ev_2 ((hW_w21.va tX_90 _).trans (congrArg (vw w21 90) (z_ix (rfl : (x21_4 : Int32).toInt = _))))) (z_of ev_3 ((hW_w21.va tX_90 _).trans (congrArg (vw w21 90) (z_ix (rfl : (p1 : Int32).toInt = _)))))) (cgK_3 hk (rfl : (p1 : Int32).toInt = _) (rfl : (x21_3 : Int32).toInt = _) (rfl : (x21_4 : Int32).toInt = _)))))))))))) hP hD hS (lv_sub hl [0, 1, 2, 3, 4] rfl)
        · refine lv_iload_n hx hb dX4_greatest_46 rfl (lv_at hl 3 rfl) ?_
          refine lv_aload_n hx hb dX4_greatest_47 rfl (lv_at hl 0 rfl) ?_
          refine lv_iload hx hb dX4_greatest_48 (lv_at hl 4 rfl) ?_
          refine lv_aload_n hx hb dX4_greatest_50 rfl (lv_at hl 2 rfl) ?_
          refine kW_i ⟨rfl, rfl⟩ hP hD hS hA (rW_V (As := [.int x21_4, .ref (q 1)]) (rest := [.int x21_3]) hx hb hml hown hts hK hE hP hD (e_X4_worthOf_1 l D cI cJ cZ q bb bs bp w21 hW_w21 x21_4 (R_nle_r (hW_w.fin tX_88 rfl : In 0 40 (fI w 88 1)) i_x21_4 c_1 (by decide) : In 0 39 x21_4) _) ⟨⟨rfl, rfl⟩, rfl, rfl⟩ sv_X4_108 ⟨(Nat.le_trans (by decide) hR.1), (Nat.le_trans (by decide) hR.2)⟩ 88 4 (hW_w21.o tX_88) rfl rfl rfl hl.1 rfl (Nat.le_of_ble_eq_true rfl) dX4_greatest_51) (fun r_6 w_5 H locs hw_w_5 hP hD hS => ?_)
          obtain ⟨hW_w_5, hs_w_5, hm_7⟩ := hw_w_5
          refine va_mmax hx hb (by rw [hml]; exact hl.1.symm) hown (hts _ wd_1295) (hts _ wd_999) (hts _ wd_18) (hts _ wd_1000) (Nat.le_trans (by decide) hR.1) (Nat.le_trans (Nat.le_of_ble_eq_true rfl) hR.2) (Nat.zero_le _) (Nat.zero_le _) dX4_greatest_54 ?_
          refine lv_topi (fun v_8 ev_8 => ?_)
          refine lv_istore_n (lv' := [(3, .int v_8), (0, .ref (q 88)), (1, .int p1), (2, .ref (q 1)), (4, .int x21_4)]) hx hb dX4_greatest_57 rfl hl (by decide) rfl (fun ls hl => ?_)
          exact J58 v_8 w_5 _ _ ls hW_w_5 (hM_w21.tr hs_w_5 (by decide)) i_p1 (R_nle_r (hW_w.fin tX_88 rfl : In 0 40 (fI w 88 1)) i_x21_4 c_1 (by decide) : In 0 39 x21_4) (In_of ((hs_w_5.gI (by decide)).trans (hM_w21.gI (by decide))) (R_nle_l (hW_w.fin tX_88 rfl : In 0 40 (fI w 88 1)) i_x21_4 c_1 (by decide) : In 1 40 (fI w 88 1))) (fun n r t hk => (hmi_21 (n + 1) r t (rl_X4_greatest_1_21 (n := n) (And.intro (tyX hW_w21) (And.intro i_x21_1 (And.intro i_x21_4 (Or.inr (And.intro (z_nle c_1 (z_of (hM_w21.gI (by decide)).symm (hW_w21.vi tX_88 rfl)) (rfl : (x21_4 : Int32).toInt = _)) (Or.inl (And.intro (z_eq c_4 (z_of ev_2 ((hW_w21.va tX_90 _).trans (congrArg (vw w21 90) (z_ix (rfl : (x21_4 : Int32).toInt = _))))) (z_of ev_3 ((hW_w21.va tX_90 _).trans (congrArg (vw w21 90) (z_ix (rfl : (p1 : Int32).toInt = _)))))) (Exists.intro r_6.toInt (Exists.intro (vw w_5) (And.intro (cgM_1 hm_7 (rfl : (x21_4 : Int32).toInt = _)) (And.intro (hs_w_5.Fr hW_w21 hW_w_5 intsX_ok intsX_ok) (And.intro (tyX hW_w_5) (cgK_3 hk (rfl : (p1 : Int32).toInt = _) (z_of ev_8 (z_max (rfl : (x21_3 : Int32).toInt = _) (rfl : (r_6 : Int32).toInt = _))) (rfl : (x21_4 : Int32).toInt = _))))))))))))))))) hP hD hS (lv_sub hl [1, 2, 3, 0, 4] rfl)
  refine lv_aload_n hx hb dX4_greatest_0 rfl (lv_at hl 0 rfl) ?_
  refine lv_iload_n hx hb dX4_greatest_1 rfl (lv_at hl 1 rfl) ?_
  refine lv_aload_n hx hb dX4_greatest_2 rfl (lv_at hl 2 rfl) ?_
  refine kW_i ⟨rfl, rfl⟩ hP hD hS hA (rW_V (As := [.int p1, .ref (q 1)]) (rest := []) hx hb hml hown hts hK hE hP hD (e_X4_worthOf_1 l D cI cJ cZ q bb bs bp w hW_w p1 i_p1 _) ⟨⟨rfl, rfl⟩, rfl, rfl⟩ sv_X4_108 ⟨(Nat.le_trans (by decide) hR.1), (Nat.le_trans (by decide) hR.2)⟩ 88 4 (hW_w.o tX_88) rfl rfl rfl hl.1 rfl (Nat.le_of_ble_eq_true rfl) dX4_greatest_3) (fun r_10 w_9 H locs hw_w_9 hP hD hS => ?_)
  obtain ⟨hW_w_9, hs_w_9, hm_11⟩ := hw_w_9
  refine lv_istore_n (lv' := [(3, .int r_10), (0, .ref (q 88)), (1, .int p1), (2, .ref (q 1))]) hx hb dX4_greatest_6 rfl hl (by decide) rfl (fun ls hl => ?_)
  refine lv_aload_n hx hb dX4_greatest_7 rfl (lv_at hl 1 rfl) ?_
  refine gt_X4 hx hb hts hown hK hP 88 (hW_w_9.o tX_88) 3 (by decide) wd_571 rfl (hW_w_9.fr tX_88 rfl) dX4_greatest_8 ?_
  refine lv_iload_n hx hb dX4_greatest_11 rfl (lv_at hl 2 rfl) ?_
  refine va_iald hx hb hK hP 90 0 (hW_w_9.a tX_90) rfl (in_I i_p1 (by decide)) dX4_greatest_12 ?_
  refine lv_topi (fun v_12 ev_12 => ?_)
  refine lv_if_ne (tgt := 18) hx hb dX4_greatest_13 (by decide) (fun c_13 => ?_) (fun c_13 => ?_)
  · refine lv_iconst (v := 0) hx hb dX4_greatest_18 (by decide) ?_
    refine lv_istore (lv' := [(4, .int 0), (3, .int r_10), (0, .ref (q 88)), (1, .int p1), (2, .ref (q 1))]) hx hb dX4_greatest_19 hl (by decide) rfl (fun ls hl => ?_)
    exact J21 _ r_10 0 w_9 _ _ ls (Nat.lt_succ_self _) hW_w_9 (Sm.rf.tr hs_w_9 (by decide)) i_p1 (In_lit (n := 0) (by decide) (by decide) : In 0 40 0) (fun n r t hk => (mk_X4_greatest_1 (n := n) (And.intro (tyX hW_w) (And.intro i_p1 (Exists.intro r_10.toInt (Exists.intro (vw w_9) (And.intro (cgM_1 hm_11 (rfl : (p1 : Int32).toInt = _)) (And.intro (hs_w_9.Fr hW_w hW_w_9 intsX_ok intsX_ok) (And.intro (tyX hW_w_9) (Or.inr (And.intro (z_neq c_13 (z_of (ev_12.trans (congrFun (hs_w_9.hA (by decide)) _)) ((hW_w.va tX_90 _).trans (congrArg (vw w 90) (z_ix (rfl : (p1 : Int32).toInt = _))))) (show (0 : Int32).toInt = 0 from by decide)) (cgK_3 hk (rfl : (p1 : Int32).toInt = _) (rfl : (r_10 : Int32).toInt = _) (show (0 : Int32).toInt = 0 from by decide))))))))))))) hP hD hS (lv_sub hl [2, 3, 4, 1, 0] rfl)
  · refine lv_iload_n hx hb dX4_greatest_16 rfl (lv_at hl 0 rfl) ?_
    exact hret _ _ _ _ _ _ hP hD hS dX4_greatest_17 ⟨hW_w_9, (Sm.rf.tr hs_w_9 (by decide)), (mk_X4_greatest_1 (n := 0) (And.intro (tyX hW_w) (And.intro i_p1 (Exists.intro r_10.toInt (Exists.intro (vw w_9) (And.intro (cgM_1 hm_11 (rfl : (p1 : Int32).toInt = _)) (And.intro (hs_w_9.Fr hW_w hW_w_9 intsX_ok intsX_ok) (And.intro (tyX hW_w_9) (Or.inl (And.intro (z_eq c_13 (z_of (ev_12.trans (congrFun (hs_w_9.hA (by decide)) _)) ((hW_w.va tX_90 _).trans (congrArg (vw w 90) (z_ix (rfl : (p1 : Int32).toInt = _))))) (show (0 : Int32).toInt = 0 from by decide)) (And.intro (rfl : (r_10 : Int32).toInt = _) rfl)))))))))))⟩
set_option maxRecDepth 100000 in
set_option maxHeartbeats 8000000 in
theorem e_X4_isBetter (l : Launch) (D : va_G) (cI cJ cZ : ClassId) (q : Nat → Nat) (bb bs bp : Nat) (w : va_W) (hW_w : HT q (TX q cI cJ cZ bb bs bp) w) (p1 : Int32) (p2 : Int32) (i_p1 : In 0 1023 p1) (i_p2 : In 0 1023 p2) : Con_i l yX4_isBetter cX4_isBetter 6 (some .boolean) ({ frames := 1, cells := 0, slots := 0, locals := 20 }) D cI cJ cZ eW [.ref (q 88), .int p1, .int p2] w (fun (r : Int32) (w1 : va_W) => HT q (TX q cI cJ cZ bb bs bp) w1 ∧ Sm [] [] w w1 ∧ In 0 1 r ∧ M_X4_isBetter (vw w) p1.toInt p2.toInt r.toInt (vw w1)) := by
  refine eQ_z rfl (by decide) (Nat.le_of_ble_eq_true rfl) ⟨rfl, rfl⟩ ?_
  intro p e R s m args below meth c A Q hx hb hml hown hts hK hE hA hR hret hP hD hS ls hl
  have hown : s.vm.findClass RX4 = some m.cls := hown
  have hl : lv_has ls 6 [(0, .ref (q 88)), (1, .int p1), (2, .int p2)] := hl
  refine lv_aload_n hx hb dX4_isBetter_0 rfl (lv_at hl 0 rfl) ?_
  refine gt_X4 hx hb hts hown hK hP 88 (hW_w.o tX_88) 16 (by decide) wd_590 rfl (hW_w.fr tX_88 rfl) dX4_isBetter_1 ?_
  refine lv_iload_n hx hb dX4_isBetter_4 rfl (lv_at hl 1 rfl) ?_
  refine va_iald hx hb hK hP 101 0 (hW_w.a tX_101) rfl (in_I i_p1 (by decide)) dX4_isBetter_5 ?_
  refine lv_topi (fun v_1 ev_1 => ?_)
  refine lv_aload_n hx hb dX4_isBetter_6 rfl (lv_at hl 0 rfl) ?_
  refine gt_X4 hx hb hts hown hK hP 88 (hW_w.o tX_88) 16 (by decide) wd_590 rfl (hW_w.fr tX_88 rfl) dX4_isBetter_7 ?_
  refine lv_iload_n hx hb dX4_isBetter_10 rfl (lv_at hl 2 rfl) ?_
  refine va_iald hx hb hK hP 101 0 (hW_w.a tX_101) rfl (in_I i_p2 (by decide)) dX4_isBetter_11 ?_
  refine lv_topi (fun v_2 ev_2 => ?_)
  refine lv_icmp_eq (tgt := 36) hx hb dX4_isBetter_12 (by decide) (fun c_3 => ?_) (fun c_3 => ?_)
  · refine lv_aload_n hx hb dX4_isBetter_36 rfl (lv_at hl 0 rfl) ?_
    refine gt_X4 hx hb hts hown hK hP 88 (hW_w.o tX_88) 14 (by decide) wd_588 rfl (hW_w.fr tX_88 rfl) dX4_isBetter_37 ?_
    refine lv_iload_n hx hb dX4_isBetter_40 rfl (lv_at hl 1 rfl) ?_
    refine va_iald hx hb hK hP 99 0 (hW_w.a tX_99) rfl (in_I i_p1 (by decide)) dX4_isBetter_41 ?_
    refine lv_topi (fun v_4 ev_4 => ?_)
    refine kW_i ⟨rfl, rfl⟩ hP hD hS hA (rW_S (As := [.int v_4]) (rest := []) hx hb hml hown hts hK hE hP hD (e_J6_bitCount_0f7a4 l D cI cJ cZ q bb bs bp w hW_w v_4 _) ⟨⟨rfl, rfl⟩, rfl, rfl⟩ sv_X4_83 ⟨(Nat.le_trans (by decide) hR.1), (Nat.le_trans (by decide) hR.2)⟩ rfl hl.1 rfl (Nat.le_of_ble_eq_true rfl) dX4_isBetter_42) (fun r_6 w_5 H locs hw_w_5 hP hD hS => ?_)
    obtain ⟨hW_w_5, hs_w_5, i_r_6, hm_7⟩ := hw_w_5
    refine lv_istore_n (lv' := [(3, .int r_6), (0, .ref (q 88)), (1, .int p1), (2, .int p2)]) hx hb dX4_isBetter_45 rfl hl (by decide) rfl (fun ls hl => ?_)
    refine lv_aload_n hx hb dX4_isBetter_46 rfl (lv_at hl 1 rfl) ?_
    refine gt_X4 hx hb hts hown hK hP 88 (hW_w_5.o tX_88) 14 (by decide) wd_588 rfl (hW_w_5.fr tX_88 rfl) dX4_isBetter_47 ?_
    refine lv_iload_n hx hb dX4_isBetter_50 rfl (lv_at hl 3 rfl) ?_
    refine va_iald hx hb hK hP 99 0 (hW_w_5.a tX_99) rfl (in_I i_p2 (by decide)) dX4_isBetter_51 ?_
    refine lv_topi (fun v_8 ev_8 => ?_)
    refine kW_i ⟨rfl, rfl⟩ hP hD hS hA (rW_S (As := [.int v_8]) (rest := []) hx hb hml hown hts hK hE hP hD (e_J6_bitCount_0f7a4 l D cI cJ cZ q bb bs bp w_5 hW_w_5 v_8 _) ⟨⟨rfl, rfl⟩, rfl, rfl⟩ sv_X4_83 ⟨(Nat.le_trans (by decide) hR.1), (Nat.le_trans (by decide) hR.2)⟩ rfl hl.1 rfl (Nat.le_of_ble_eq_true rfl) dX4_isBetter_52) (fun r_10 w_9 H locs hw_w_9 hP hD hS => ?_)
    obtain ⟨hW_w_9, hs_w_9, i_r_10, hm_11⟩ := hw_w_9
    refine lv_istore (lv' := [(4, .int r_10), (3, .int r_6), (0, .ref (q 88)), (1, .int p1), (2, .int p2)]) hx hb dX4_isBetter_55 hl (by decide) rfl (fun ls hl => ?_)
    refine lv_iload_n hx hb dX4_isBetter_57 rfl (lv_at hl 1 rfl) ?_
    refine lv_iload hx hb dX4_isBetter_58 (lv_at hl 0 rfl) ?_
    refine lv_icmp_eq (tgt := 75) hx hb dX4_isBetter_60 (by decide) (fun c_12 => ?_) (fun c_12 => ?_)
    · refine lv_aload_n hx hb dX4_isBetter_75 rfl (lv_at hl 2 rfl) ?_
      refine gt_X4 hx hb hts hown hK hP 88 (hW_w_9.o tX_88) 14 (by decide) wd_588 rfl (hW_w_9.fr tX_88 rfl) dX4_isBetter_76 ?_
      refine lv_iload_n hx hb dX4_isBetter_79 rfl (lv_at hl 3 rfl) ?_
      refine va_iald hx hb hK hP 99 0 (hW_w_9.a tX_99) rfl (in_I i_p1 (by decide)) dX4_isBetter_80 ?_
      refine tov (v := v_4) ((congrFun ((hs_w_9.hA (by decide)).trans (hs_w_5.hA (by decide))) _).trans ev_4.symm) ?_
      refine lv_aload_n hx hb dX4_isBetter_81 rfl (lv_at hl 2 rfl) ?_
      refine gt_X4 hx hb hts hown hK hP 88 (hW_w_9.o tX_88) 14 (by decide) wd_588 rfl (hW_w_9.fr tX_88 rfl) dX4_isBetter_82 ?_
      refine lv_iload_n hx hb dX4_isBetter_85 rfl (lv_at hl 4 rfl) ?_
      refine va_iald hx hb hK hP 99 0 (hW_w_9.a tX_99) rfl (in_I i_p2 (by decide)) dX4_isBetter_86 ?_
      refine tov (v := v_8) ((congrFun ((hs_w_9.hA (by decide)).trans (hs_w_5.hA (by decide))) _).trans ((congrFun (hs_w_5.hA (by decide)) _).symm.trans ev_8.symm)) ?_
      refine lv_ixor hx hb dX4_isBetter_87 ?_
      refine lv_topi (fun v_13 ev_13 => ?_)
      refine lv_istore (lv' := [(5, .int v_13), (4, .int r_10), (3, .int r_6), (0, .ref (q 88)), (1, .int p1), (2, .int p2)]) hx hb dX4_isBetter_88 hl (by decide) rfl (fun ls hl => ?_)
      refine lv_aload_n hx hb dX4_isBetter_90 rfl (lv_at hl 3 rfl) ?_
      refine gt_X4 hx hb hts hown hK hP 88 (hW_w_9.o tX_88) 14 (by decide) wd_588 rfl (hW_w_9.fr tX_88 rfl) dX4_isBetter_91 ?_
      refine lv_iload_n hx hb dX4_isBetter_94 rfl (lv_at hl 4 rfl) ?_
      refine va_iald hx hb hK hP 99 0 (hW_w_9.a tX_99) rfl (in_I i_p1 (by decide)) dX4_isBetter_95 ?_
      refine tov (v := v_4) ((congrFun ((hs_w_9.hA (by decide)).trans (hs_w_5.hA (by decide))) _).trans ev_4.symm) ?_
      refine lv_iload hx hb dX4_isBetter_96 (lv_at hl 0 rfl) ?_
      refine lv_iand hx hb dX4_isBetter_98 ?_
      refine lv_topi (fun v_14 ev_14 => ?_)
      refine lv_iload hx hb dX4_isBetter_99 (lv_at hl 0 rfl) ?_
      refine lv_ineg hx hb dX4_isBetter_101 ?_
      refine lv_topi (fun v_15 ev_15 => ?_)
      refine lv_iand hx hb dX4_isBetter_102 ?_
      refine lv_topi (fun v_16 ev_16 => ?_)
      refine lv_if_eq (tgt := 110) hx hb dX4_isBetter_103 (by decide) (fun c_17 => ?_) (fun c_17 => ?_)
      · refine lv_iconst (v := 0) hx hb dX4_isBetter_110 (by decide) ?_
        exact hret _ _ _ _ _ _ hP hD hS dX4_isBetter_111 (In_lit (n := 0) (by decide) (by decide) : In 0 1 0) ⟨hW_w_9, ((Sm.rf.tr hs_w_5 (by decide)).tr hs_w_9 (by decide)), (In_lit (n := 0) (by decide) (by decide) : In 0 1 0), (mk_X4_isBetter (And.intro (tyX hW_w) (And.intro i_p1 (And.intro i_p2 (Or.inl (And.intro (z_eq c_3 (z_of ev_1 ((hW_w.va tX_101 _).trans (congrArg (vw w 101) (z_ix (rfl : (p1 : Int32).toInt = _))))) (z_of ev_2 ((hW_w.va tX_101 _).trans (congrArg (vw w 101) (z_ix (rfl : (p2 : Int32).toInt = _)))))) (Exists.intro r_6.toInt (Exists.intro (vw w_5) (And.intro (cgM_1 hm_7 (z_of ev_4 ((hW_w.va tX_99 _).trans (congrArg (vw w 99) (z_ix (rfl : (p1 : Int32).toInt = _)))))) (And.intro (hs_w_5.Fr hW_w hW_w_5 intsX_ok intsX_ok) (And.intro (tyX hW_w_5) (And.intro i_r_6 (Exists.intro r_10.toInt (Exists.intro (vw w_9) (And.intro (cgM_1 hm_11 (z_of (ev_8.trans (congrFun (hs_w_5.hA (by decide)) _)) ((hW_w.va tX_99 _).trans (congrArg (vw w 99) (z_ix (rfl : (p2 : Int32).toInt = _)))))) (And.intro (hs_w_9.Fr hW_w_5 hW_w_9 intsX_ok intsX_ok) (And.intro (tyX hW_w_9) (And.intro i_r_10 (Or.inl (And.intro (z_eq c_12 (rfl : (r_6 : Int32).toInt = _) (rfl : (r_10 : Int32).toInt = _)) (Or.inl (And.intro (z_eq c_17 (z_of ev_16 (z_and (z_of ev_14 (z_and (z_of ev_4 ((hW_w.va tX_99 _).trans (congrArg (vw w 99) (z_ix (rfl : (p1 : Int32).toInt = _))))) (z_of ev_13 (z_xor (z_of ev_4 ((hW_w.va tX_99 _).trans (congrArg (vw w 99) (z_ix (rfl : (p1 : Int32).toInt = _))))) (z_of (ev_8.trans (congrFun (hs_w_5.hA (by decide)) _)) ((hW_w.va tX_99 _).trans (congrArg (vw w 99) (z_ix (rfl : (p2 : Int32).toInt = _))))))))) (z_of ev_15 (z_negw (z_of ev_13 (z_xor (z_of ev_4 ((hW_w.va tX_99 _).trans (congrArg (vw w 99) (z_ix (rfl : (p1 : Int32).toInt = _))))) (z_of (ev_8.trans (congrFun (hs_w_5.hA (by decide)) _)) ((hW_w.va tX_99 _).trans (congrArg (vw w 99) (z_ix (rfl : (p2 : Int32).toInt = _))))))))))) (show (0 : Int32).toInt = 0 from by decide)) (And.intro (show (0 : Int32).toInt = 0 from by decide) rfl)))))))))))))))))))))))⟩
      · refine lv_iconst (v := 1) hx hb dX4_isBetter_106 (by decide) ?_
        refine lv_goto (tgt := 111) hx hb dX4_isBetter_107 (by decide) ?_
        exact hret _ _ _ _ _ _ hP hD hS dX4_isBetter_111 (In_lit (n := 1) (by decide) (by decide) : In 0 1 1) ⟨hW_w_9, ((Sm.rf.tr hs_w_5 (by decide)).tr hs_w_9 (by decide)), (In_lit (n := 1) (by decide) (by decide) : In 0 1 1), (mk_X4_isBetter (And.intro (tyX hW_w) (And.intro i_p1 (And.intro i_p2 (Or.inl (And.intro (z_eq c_3 (z_of ev_1 ((hW_w.va tX_101 _).trans (congrArg (vw w 101) (z_ix (rfl : (p1 : Int32).toInt = _))))) (z_of ev_2 ((hW_w.va tX_101 _).trans (congrArg (vw w 101) (z_ix (rfl : (p2 : Int32).toInt = _)))))) (Exists.intro r_6.toInt (Exists.intro (vw w_5) (And.intro (cgM_1 hm_7 (z_of ev_4 ((hW_w.va tX_99 _).trans (congrArg (vw w 99) (z_ix (rfl : (p1 : Int32).toInt = _)))))) (And.intro (hs_w_5.Fr hW_w hW_w_5 intsX_ok intsX_ok) (And.intro (tyX hW_w_5) (And.intro i_r_6 (Exists.intro r_10.toInt (Exists.intro (vw w_9) (And.intro (cgM_1 hm_11 (z_of (ev_8.trans (congrFun (hs_w_5.hA (by decide)) _)) ((hW_w.va tX_99 _).trans (congrArg (vw w 99) (z_ix (rfl : (p2 : Int32).toInt = _)))))) (And.intro (hs_w_9.Fr hW_w_5 hW_w_9 intsX_ok intsX_ok) (And.intro (tyX hW_w_9) (And.intro i_r_10 (Or.inl (And.intro (z_eq c_12 (rfl : (r_6 : Int32).toInt = _) (rfl : (r_10 : Int32).toInt = _)) (Or.inr (And.intro (z_neq c_17 (z_of ev_16 (z_and (z_of ev_14 (z_and (z_of ev_4 ((hW_w.va tX_99 _).trans (congrArg (vw w 99) (z_ix (rfl : (p1 : Int32).toInt = _))))) (z_of ev_13 (z_xor (z_of ev_4 ((hW_w.va tX_99 _).trans (congrArg (vw w 99) (z_ix (rfl : (p1 : Int32).toInt = _))))) (z_of (ev_8.trans (congrFun (hs_w_5.hA (by decide)) _)) ((hW_w.va tX_99 _).trans (congrArg (vw w 99) (z_ix (rfl : (p2 : Int32).toInt = _))))))))) (z_of ev_15 (z_negw (z_of ev_13 (z_xor (z_of ev_4 ((hW_w.va tX_99 _).trans (congrArg (vw w 99) (z_ix (rfl : (p1 : Int32).toInt = _))))) (z_of (ev_8.trans (congrFun (hs_w_5.hA (by decide)) _)) ((hW_w.va tX_99 _).trans (congrArg (vw w 99) (z_ix (rfl : (p2 : Int32).toInt = _))))))))))) (show (0 : Int32).toInt = 0 from by decide)) (And.intro (show (1 : Int32).toInt = 1 from by decide) rfl)))))))))))))))))))))))⟩
    · refine lv_iload_n hx hb dX4_isBetter_63 rfl (lv_at hl 1 rfl) ?_
      refine lv_iload hx hb dX4_isBetter_64 (lv_at hl 0 rfl) ?_
      refine lv_icmp_ge (tgt := 73) hx hb dX4_isBetter_66 (by decide) (fun c_18 => ?_) (fun c_18 => ?_)
      · refine lv_iconst (v := 0) hx hb dX4_isBetter_73 (by decide) ?_
        exact hret _ _ _ _ _ _ hP hD hS dX4_isBetter_74 (In_lit (n := 0) (by decide) (by decide) : In 0 1 0) ⟨hW_w_9, ((Sm.rf.tr hs_w_5 (by decide)).tr hs_w_9 (by decide)), (In_lit (n := 0) (by decide) (by decide) : In 0 1 0), (mk_X4_isBetter (And.intro (tyX hW_w) (And.intro i_p1 (And.intro i_p2 (Or.inl (And.intro (z_eq c_3 (z_of ev_1 ((hW_w.va tX_101 _).trans (congrArg (vw w 101) (z_ix (rfl : (p1 : Int32).toInt = _))))) (z_of ev_2 ((hW_w.va tX_101 _).trans (congrArg (vw w 101) (z_ix (rfl : (p2 : Int32).toInt = _)))))) (Exists.intro r_6.toInt (Exists.intro (vw w_5) (And.intro (cgM_1 hm_7 (z_of ev_4 ((hW_w.va tX_99 _).trans (congrArg (vw w 99) (z_ix (rfl : (p1 : Int32).toInt = _)))))) (And.intro (hs_w_5.Fr hW_w hW_w_5 intsX_ok intsX_ok) (And.intro (tyX hW_w_5) (And.intro i_r_6 (Exists.intro r_10.toInt (Exists.intro (vw w_9) (And.intro (cgM_1 hm_11 (z_of (ev_8.trans (congrFun (hs_w_5.hA (by decide)) _)) ((hW_w.va tX_99 _).trans (congrArg (vw w 99) (z_ix (rfl : (p2 : Int32).toInt = _)))))) (And.intro (hs_w_9.Fr hW_w_5 hW_w_9 intsX_ok intsX_ok) (And.intro (tyX hW_w_9) (And.intro i_r_10 (Or.inr (And.intro (z_neq c_12 (rfl : (r_6 : Int32).toInt = _) (rfl : (r_10 : Int32).toInt = _)) (Or.inl (And.intro (z_le c_18 (rfl : (r_10 : Int32).toInt = _) (rfl : (r_6 : Int32).toInt = _)) (And.intro (show (0 : Int32).toInt = 0 from by decide) rfl)))))))))))))))))))))))⟩
      · refine lv_iconst (v := 1) hx hb dX4_isBetter_69 (by decide) ?_
        refine lv_goto (tgt := 74) hx hb dX4_isBetter_70 (by decide) ?_
        exact hret _ _ _ _ _ _ hP hD hS dX4_isBetter_74 (In_lit (n := 1) (by decide) (by decide) : In 0 1 1) ⟨hW_w_9, ((Sm.rf.tr hs_w_5 (by decide)).tr hs_w_9 (by decide)), (In_lit (n := 1) (by decide) (by decide) : In 0 1 1), (mk_X4_isBetter (And.intro (tyX hW_w) (And.intro i_p1 (And.intro i_p2 (Or.inl (And.intro (z_eq c_3 (z_of ev_1 ((hW_w.va tX_101 _).trans (congrArg (vw w 101) (z_ix (rfl : (p1 : Int32).toInt = _))))) (z_of ev_2 ((hW_w.va tX_101 _).trans (congrArg (vw w 101) (z_ix (rfl : (p2 : Int32).toInt = _)))))) (Exists.intro r_6.toInt (Exists.intro (vw w_5) (And.intro (cgM_1 hm_7 (z_of ev_4 ((hW_w.va tX_99 _).trans (congrArg (vw w 99) (z_ix (rfl : (p1 : Int32).toInt = _)))))) (And.intro (hs_w_5.Fr hW_w hW_w_5 intsX_ok intsX_ok) (And.intro (tyX hW_w_5) (And.intro i_r_6 (Exists.intro r_10.toInt (Exists.intro (vw w_9) (And.intro (cgM_1 hm_11 (z_of (ev_8.trans (congrFun (hs_w_5.hA (by decide)) _)) ((hW_w.va tX_99 _).trans (congrArg (vw w 99) (z_ix (rfl : (p2 : Int32).toInt = _)))))) (And.intro (hs_w_9.Fr hW_w_5 hW_w_9 intsX_ok intsX_ok) (And.intro (tyX hW_w_9) (And.intro i_r_10 (Or.inr (And.intro (z_neq c_12 (rfl : (r_6 : Int32).toInt = _) (rfl : (r_10 : Int32).toInt = _)) (Or.inr (And.intro (z_nle c_18 (rfl : (r_10 : Int32).toInt = _) (rfl : (r_6 : Int32).toInt = _)) (And.intro (show (1 : Int32).toInt = 1 from by decide) rfl)))))))))))))))))))))))⟩
  · refine lv_aload_n hx hb dX4_isBetter_15 rfl (lv_at hl 0 rfl) ?_
    refine gt_X4 hx hb hts hown hK hP 88 (hW_w.o tX_88) 16 (by decide) wd_590 rfl (hW_w.fr tX_88 rfl) dX4_isBetter_16 ?_
    refine lv_iload_n hx hb dX4_isBetter_19 rfl (lv_at hl 1 rfl) ?_
    refine va_iald hx hb hK hP 101 0 (hW_w.a tX_101) rfl (in_I i_p1 (by decide)) dX4_isBetter_20 ?_
    refine tov (v := v_1) ev_1.symm ?_
    refine lv_aload_n hx hb dX4_isBetter_21 rfl (lv_at hl 0 rfl) ?_
    refine gt_X4 hx hb hts hown hK hP 88 (hW_w.o tX_88) 16 (by decide) wd_590 rfl (hW_w.fr tX_88 rfl) dX4_isBetter_22 ?_
    refine lv_iload_n hx hb dX4_isBetter_25 rfl (lv_at hl 2 rfl) ?_
    refine va_iald hx hb hK hP 101 0 (hW_w.a tX_101) rfl (in_I i_p2 (by decide)) dX4_isBetter_26 ?_
    refine tov (v := v_2) ev_2.symm ?_
    refine lv_icmp_ge (tgt := 34) hx hb dX4_isBetter_27 (by decide) (fun c_19 => ?_) (fun c_19 => ?_)
    · refine lv_iconst (v := 0) hx hb dX4_isBetter_34 (by decide) ?_
      exact hret _ _ _ _ _ _ hP hD hS dX4_isBetter_35 (In_lit (n := 0) (by decide) (by decide) : In 0 1 0) ⟨hW_w, Sm.rf, (In_lit (n := 0) (by decide) (by decide) : In 0 1 0), (mk_X4_isBetter (And.intro (tyX hW_w) (And.intro i_p1 (And.intro i_p2 (Or.inr (And.intro (z_neq c_3 (z_of ev_1 ((hW_w.va tX_101 _).trans (congrArg (vw w 101) (z_ix (rfl : (p1 : Int32).toInt = _))))) (z_of ev_2 ((hW_w.va tX_101 _).trans (congrArg (vw w 101) (z_ix (rfl : (p2 : Int32).toInt = _)))))) (Or.inl (And.intro (z_le c_19 (z_of ev_2 ((hW_w.va tX_101 _).trans (congrArg (vw w 101) (z_ix (rfl : (p2 : Int32).toInt = _))))) (z_of ev_1 ((hW_w.va tX_101 _).trans (congrArg (vw w 101) (z_ix (rfl : (p1 : Int32).toInt = _)))))) (And.intro (show (0 : Int32).toInt = 0 from by decide) rfl)))))))))⟩
    · refine lv_iconst (v := 1) hx hb dX4_isBetter_30 (by decide) ?_
      refine lv_goto (tgt := 35) hx hb dX4_isBetter_31 (by decide) ?_
      exact hret _ _ _ _ _ _ hP hD hS dX4_isBetter_35 (In_lit (n := 1) (by decide) (by decide) : In 0 1 1) ⟨hW_w, Sm.rf, (In_lit (n := 1) (by decide) (by decide) : In 0 1 1), (mk_X4_isBetter (And.intro (tyX hW_w) (And.intro i_p1 (And.intro i_p2 (Or.inr (And.intro (z_neq c_3 (z_of ev_1 ((hW_w.va tX_101 _).trans (congrArg (vw w 101) (z_ix (rfl : (p1 : Int32).toInt = _))))) (z_of ev_2 ((hW_w.va tX_101 _).trans (congrArg (vw w 101) (z_ix (rfl : (p2 : Int32).toInt = _)))))) (Or.inr (And.intro (z_nle c_19 (z_of ev_2 ((hW_w.va tX_101 _).trans (congrArg (vw w 101) (z_ix (rfl : (p2 : Int32).toInt = _))))) (z_of ev_1 ((hW_w.va tX_101 _).trans (congrArg (vw w 101) (z_ix (rfl : (p1 : Int32).toInt = _)))))) (And.intro (show (1 : Int32).toInt = 1 from by decide) rfl)))))))))⟩
