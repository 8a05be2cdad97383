set_option maxRecDepth 100000 in
set_option maxHeartbeats 8000000 in
theorem e_X6_mates (l : Launch) (D : va_G) (cI cJ cZ : ClassId) (q : Nat → Nat) (bb bs bp : Nat) (w : va_W) (hW_w : HT q (TX q cI cJ cZ bb bs bp) w) (p1 : Int32) (i_p1 : In 0 39 p1) (hf_42_2 : In 1 40 (fI w 42 2)) : Con_i l yX6_mates cX6_mates 4 (some .int) ({ frames := 0, cells := 0, slots := 0, locals := 0 }) D cI cJ cZ eW [.ref (q 42), .int p1] w (fun (r : Int32) (w1 : va_W) => HT q (TX q cI cJ cZ bb bs bp) w1 ∧ Sm [] [] w w1 ∧ M_X6_mates (vw w) p1.toInt r.toInt (vw w1)) := by
  refine eQ_i rfl (by decide) (Nat.le_of_ble_eq_true rfl) ⟨rfl, rfl⟩ ?_
  intro p e R s m args below meth c A Q hx hb hml hown hts hK hE hA hR hret hP hD hS ls hl
  have hown : s.vm.findClass RX6 = some m.cls := hown
  have hl : lv_has ls 4 [(0, .ref (q 42)), (1, .int p1)] := hl
  have J15 : ∀ (N : Nat) (x15_2 : Int32) (x15_3 : Int32) (w15 : va_W) (H : Heap) (locs : List Loc) (ls : Array Slot), (40 - x15_3.toInt).toNat < N → HT q (TX q cI cJ cZ bb bs bp) w15 → Sm [] [] w w15 → (In 0 39 p1) → (In 0 40 x15_3) → (In 1 40 (fI w15 42 2)) → (∀ (n : Nat) (r : Int) (t : PS), It_X6_mates n 15 p1.toInt x15_2.toInt x15_3.toInt (vw w15) r t → M_X6_mates (vw w) p1.toInt r t) → va_P D vwCl w15 H → va_D A w15 → va_S A s.heap H locs → lv_has ls 4 [(0, .ref (q 42)), (1, .int p1), (2, .int x15_2), (3, .int x15_3)] → W p l e R s m args below meth c H locs 0 0 Q (F0 m 15 ls []) := by
    intro N
    induction N with
    | zero => intro x15_2 x15_3 w15 H locs ls hmu; exact absurd hmu (Nat.not_lt_zero _)
    | succ N ih15 =>
      intro x15_2 x15_3 w15 H locs ls hmu15 hW_w15 hM_w15 i_x15_1 i_x15_3 g15_42_2 hmi_15 hP hD hS hl
      have J41 : ∀ (x41_2 : Int32) (w41 : va_W) (H : Heap) (locs : List Loc) (ls : Array Slot), HT q (TX q cI cJ cZ bb bs bp) w41 → Sm [] [] w w41 → (In 0 39 p1) → (In 0 39 x15_3) → (In 1 40 (fI w41 42 2)) → (∀ (n : Nat) (r : Int) (t : PS), It_X6_mates n 41 p1.toInt x41_2.toInt x15_3.toInt (vw w41) r t → M_X6_mates (vw w) p1.toInt r t) → va_P D vwCl w41 H → va_D A w41 → va_S A s.heap H locs → lv_has ls 4 [(0, .ref (q 42)), (1, .int p1), (2, .int x41_2), (3, .int x15_3)] → W p l e R s m args below meth c H locs 0 0 Q (F0 m 41 ls []) := by
        intro x41_2 w41 H locs ls hW_w41 hM_w41 i_x41_1 i_x41_3 g41_42_2 hmi_41 hP hD hS hl
        refine lv_iinc (v := (x15_3 + 1)) (lv' := [(3, .int (x15_3 + 1)), (0, .ref (q 42)), (1, .int p1), (2, .int x41_2)]) hx hb dX6_mates_41 hl (k := 3) rfl (rfl) (by decide) rfl (fun ls hl => ?_)
        refine lv_goto (tgt := 15) hx hb dX6_mates_44 (by decide) ?_
        exact ih15 x41_2 (x15_3 + 1) w41 _ _ ls (mu_inc hmu15 i_x41_3 (In_lit (n := 1) (by decide) (by decide) : In 1 1 1) (by decide)) hW_w41 hM_w41 i_p1 (In_w ((In_add (y := 1) i_x41_3 (In_lit (n := 1) (by decide) (by decide) : In 1 1 1) (by decide)) : In 1 40 (x15_3 + 1)) (by decide) : In 0 40 (x15_3 + 1)) (In_of (hM_w41.gI (by decide)) (In_of (hM_w41.gI (by decide)).symm g41_42_2)) (fun n r t hk => (hmi_41 (n + 1) r t (rl_X6_mates_41 (n := n) (And.intro (tyX hW_w41) (And.intro i_x41_1 (And.intro i_x41_3 (cgK_3 hk (rfl : (p1 : Int32).toInt = _) (rfl : (x41_2 : Int32).toInt = _) (z_add (t_add i_x41_3 (In_lit (n := 1) (by decide) (by decide) : In 1 1 1) (by decide)) (rfl : (x15_3 : Int32).toInt = _) (show (1 : Int32).toInt = 1 from by decide))))))))) hP hD hS (lv_sub hl [1, 2, 3, 0] rfl)
      refine lv_iload_n hx hb dX6_mates_15 rfl (lv_at hl 3 rfl) ?_
      refine lv_aload_n hx hb dX6_mates_16 rfl (lv_at hl 0 rfl) ?_
      refine gt_X6 hx hb hts hown hK hP 42 (hW_w15.o tX_42) 2 (by decide) wd_295 rfl (hW_w15.fi tX_42 rfl) dX6_mates_17 ?_
      refine tov (v := (fI w 42 2)) (hM_w15.gI (by decide)) ?_
      refine lv_icmp_ge (tgt := 47) hx hb dX6_mates_20 (by decide) (fun c_1 => ?_) (fun c_1 => ?_)
      · refine lv_iload_n hx hb dX6_mates_47 rfl (lv_at hl 2 rfl) ?_
        exact hret _ _ _ _ _ _ hP hD hS dX6_mates_48 ⟨hW_w15, hM_w15, (hmi_15 (0 + 1) _ _ (rl_X6_mates_15 (n := 0) (And.intro (tyX hW_w15) (And.intro i_x15_1 (And.intro i_x15_3 (Or.inl (And.intro (z_le c_1 (z_of (hM_w15.gI (by decide)).symm (hW_w15.vi tX_42 rfl)) (rfl : (x15_3 : Int32).toInt = _)) (And.intro (rfl : (x15_2 : Int32).toInt = _) rfl))))))))⟩
      · refine lv_aload_n hx hb dX6_mates_23 rfl (lv_at hl 0 rfl) ?_
        refine gt_X6 hx hb hts hown hK hP 42 (hW_w15.o tX_42) 8 (by decide) wd_307 rfl (hW_w15.fr tX_42 rfl) dX6_mates_24 ?_
        refine lv_iload_n hx hb dX6_mates_27 rfl (lv_at hl 3 rfl) ?_
        refine va_iald hx hb hK hP 48 0 (hW_w15.a tX_48) rfl (in_I (R_nle_r (In_of (hM_w15.gI (by decide)).symm g15_42_2) i_x15_3 c_1 (by decide) : In 0 39 x15_3) (by decide)) dX6_mates_28 ?_
        refine lv_topi (fun v_2 ev_2 => ?_)
        refine lv_aload_n hx hb dX6_mates_29 rfl (lv_at hl 0 rfl) ?_
        refine gt_X6 hx hb hts hown hK hP 42 (hW_w15.o tX_42) 8 (by decide) wd_307 rfl (hW_w15.fr tX_42 rfl) dX6_mates_30 ?_
        refine lv_iload_n hx hb dX6_mates_33 rfl (lv_at hl 1 rfl) ?_
        refine va_iald hx hb hK hP 48 0 (hW_w15.a tX_48) rfl (in_I i_p1 (by decide)) dX6_mates_34 ?_
        refine lv_topi (fun v_3 ev_3 => ?_)
        refine lv_icmp_ne (tgt := 41) hx hb dX6_mates_35 (by decide) (fun c_4 => ?_) (fun c_4 => ?_)
        · exact J41 x15_2 w15 _ _ ls hW_w15 hM_w15 i_p1 (R_nle_r (In_of (hM_w15.gI (by decide)).symm g15_42_2) i_x15_3 c_1 (by decide) : In 0 39 x15_3) (In_of (hM_w15.gI (by decide)) (In_of (hM_w15.gI (by decide)).symm g15_42_2)) (fun n r t hk => (hmi_15 (n + 1) r t (rl_X6_mates_15 (n := n) (And.intro (tyX hW_w15) (And.intro i_x15_1 (And.intro i_x15_3 (Or.inr (And.intro (z_nle c_1 (z_of (hM_w15.gI (by decide)).symm (hW_w15.vi tX_42 rfl)) (rfl : (x15_3 : Int32).toInt = _)) (Or.inr (And.intro (z_neq c_4 (z_of ev_2 ((hW_w15.va tX_48 _).trans (congrArg (vw w15 48) (z_ix (rfl : (x15_3 : Int32).toInt = _))))) (z_of ev_3 ((hW_w15.va tX_48 _).trans (congrArg (vw w15 48) (z_ix (rfl : (p1 : Int32).toInt = _)))))) (cgK_3 hk (rfl : (p1 : Int32).toInt = _) (rfl : (x15_2 : Int32).toInt = _) (rfl : (x15_3 : Int32).toInt = _)))))))))))) hP hD hS (lv_sub hl [0, 1, 2, 3] rfl)
        · refine lv_iinc (v := (x15_2 + 1)) (lv' := [(2, .int (x15_2 + 1)), (0, .ref (q 42)), (1, .int p1), (3, .int x15_3)]) hx hb dX6_mates_38 hl (k := 2) rfl (rfl) (by decide) rfl (fun ls hl => ?_)
          exact J41 (x15_2 + 1) w15 _ _ ls hW_w15 hM_w15 i_p1 (R_nle_r (In_of (hM_w15.gI (by decide)).symm g15_42_2) i_x15_3 c_1 (by decide) : In 0 39 x15_3) (In_of (hM_w15.gI (by decide)) (In_of (hM_w15.gI (by decide)).symm g15_42_2)) (fun n r t hk => (hmi_15 (n + 1) r t (rl_X6_mates_15 (n := n) (And.intro (tyX hW_w15) (And.intro i_x15_1 (And.intro i_x15_3 (Or.inr (And.intro (z_nle c_1 (z_of (hM_w15.gI (by decide)).symm (hW_w15.vi tX_42 rfl)) (rfl : (x15_3 : Int32).toInt = _)) (Or.inl (And.intro (z_eq c_4 (z_of ev_2 ((hW_w15.va tX_48 _).trans (congrArg (vw w15 48) (z_ix (rfl : (x15_3 : Int32).toInt = _))))) (z_of ev_3 ((hW_w15.va tX_48 _).trans (congrArg (vw w15 48) (z_ix (rfl : (p1 : Int32).toInt = _)))))) (cgK_3 hk (rfl : (p1 : Int32).toInt = _) (z_addw (rfl : (x15_2 : Int32).toInt = _) (show (1 : Int32).toInt = 1 from by decide)) (rfl : (x15_3 : Int32).toInt = _)))))))))))) hP hD hS (lv_sub hl [1, 2, 0, 3] rfl)
  refine lv_aload_n hx hb dX6_mates_0 rfl (lv_at hl 0 rfl) ?_
  refine gt_X6 hx hb hts hown hK hP 42 (hW_w.o tX_42) 8 (by decide) wd_307 rfl (hW_w.fr tX_42 rfl) dX6_mates_1 ?_
  refine lv_iload_n hx hb dX6_mates_4 rfl (lv_at hl 1 rfl) ?_
  refine va_iald hx hb hK hP 48 0 (hW_w.a tX_48) rfl (in_I i_p1 (by decide)) dX6_mates_5 ?_
  refine lv_topi (fun v_5 ev_5 => ?_)
  refine lv_if_ne (tgt := 11) hx hb dX6_mates_6 (by decide) (fun c_6 => ?_) (fun c_6 => ?_)
  · refine lv_iconst (v := 0) hx hb dX6_mates_11 (by decide) ?_
    refine lv_istore_n (lv' := [(2, .int 0), (0, .ref (q 42)), (1, .int p1)]) hx hb dX6_mates_12 rfl hl (by decide) rfl (fun ls hl => ?_)
    refine lv_iconst (v := 0) hx hb dX6_mates_13 (by decide) ?_
    refine lv_istore_n (lv' := [(3, .int 0), (2, .int 0), (0, .ref (q 42)), (1, .int p1)]) hx hb dX6_mates_14 rfl hl (by decide) rfl (fun ls hl => ?_)
    exact J15 _ 0 0 w _ _ ls (Nat.lt_succ_self _) hW_w Sm.rf i_p1 (In_lit (n := 0) (by decide) (by decide) : In 0 40 0) hf_42_2 (fun n r t hk => (mk_X6_mates (n := n) (And.intro (tyX hW_w) (And.intro i_p1 (Or.inr (And.intro (z_neq c_6 (z_of ev_5 ((hW_w.va tX_48 _).trans (congrArg (vw w 48) (z_ix (rfl : (p1 : Int32).toInt = _))))) (show (0 : Int32).toInt = 0 from by decide)) (cgK_3 hk (rfl : (p1 : Int32).toInt = _) (show (0 : Int32).toInt = 0 from by decide) (show (0 : Int32).toInt = 0 from by decide)))))))) hP hD hS (lv_sub hl [2, 3, 1, 0] rfl)
  · refine lv_iconst (v := 1) hx hb dX6_mates_9 (by decide) ?_
    exact hret _ _ _ _ _ _ hP hD hS dX6_mates_10 ⟨hW_w, Sm.rf, (mk_X6_mates (n := 0) (And.intro (tyX hW_w) (And.intro i_p1 (Or.inl (And.intro (z_eq c_6 (z_of ev_5 ((hW_w.va tX_48 _).trans (congrArg (vw w 48) (z_ix (rfl : (p1 : Int32).toInt = _))))) (show (0 : Int32).toInt = 0 from by decide)) (And.intro (show (1 : Int32).toInt = 1 from by decide) rfl))))))⟩
set_option maxRecDepth 100000 in
set_option maxHeartbeats 8000000 in
theorem e_X5_gatherFacts_1_42 (l : Launch) (D : va_G) (cI cJ cZ : ClassId) (q : Nat → Nat) (bb bs bp : Nat) (w : va_W) (hW_w : HT q (TX q cI cJ cZ bb bs bp) w) (p3 : Int32) (i_p3 : In 0 39 p3) (hf_42_2 : In 1 40 (fI w 42 2)) : Con_v l yX5_gatherFacts cX5_gatherFacts 5 none ({ frames := 1, cells := 0, slots := 0, locals := 24 }) D cI cJ cZ eW [.ref (q 56), .ref (q 1), .ref (q 42), .int p3] w (fun (w1 : va_W) => HT q (TX q cI cJ cZ bb bs bp) w1 ∧ Sm [61, 62] [] w w1 ∧ M_X5_gatherFacts_1_42 (vw w) p3.toInt 0 (vw w1)) := by
  refine eQ_v rfl (by decide) (Nat.le_of_ble_eq_true rfl) ⟨rfl, rfl⟩ ?_
  intro p e R s m args below meth c A Q hx hb hml hown hts hK hE hA hR hret hP hD hS ls hl
  have hown : s.vm.findClass RX5 = some m.cls := hown
  have hl : lv_has ls 5 [(0, .ref (q 56)), (1, .ref (q 1)), (2, .ref (q 42)), (3, .int p3)] := hl
  have J69 : ∀ (N : Nat) (x69_4 : Int32) (w69 : va_W) (H : Heap) (locs : List Loc) (ls : Array Slot), (200 - x69_4.toInt).toNat < N → HT q (TX q cI cJ cZ bb bs bp) w69 → Sm [61, 62] [] w w69 → (In 0 39 p3) → (In 0 200 x69_4) → (In 1 40 (fI w69 42 2)) → (∀ (n : Nat) (r : Int) (t : PS), It_X5_gatherFacts_1_42 n 69 p3.toInt x69_4.toInt 0 0 (vw w69) r t → M_X5_gatherFacts_1_42 (vw w) p3.toInt r t) → va_P D vwCl w69 H → va_D A w69 → va_S A s.heap H locs → lv_has ls 5 [(0, .ref (q 56)), (1, .ref (q 1)), (2, .ref (q 42)), (3, .int p3), (4, .int x69_4)] → W p l e R s m args below meth c H locs 0 0 Q (F0 m 69 ls []) := by
    intro N
    induction N with
    | zero => intro x69_4 w69 H locs ls hmu; exact absurd hmu (Nat.not_lt_zero _)
    | succ N ih69 =>
      intro x69_4 w69 H locs ls hmu69 hW_w69 hM_w69 i_x69_3 i_x69_4 g69_42_2 hmi_69 hP hD hS hl
      have J104 : ∀ (y104_0 : Int32) (w104 : va_W) (H : Heap) (locs : List Loc) (ls : Array Slot), HT q (TX q cI cJ cZ bb bs bp) w104 → Sm [61, 62] [] w w104 → (In 0 39 p3) → (In 0 199 x69_4) → (In 0 1 y104_0) → (In 0 199 x69_4) → (In 1 200 (fI w104 1 19)) → (In 1 40 (fI w104 42 2)) → (∀ (n : Nat) (r : Int) (t : PS), It_X5_gatherFacts_1_42 n 104 p3.toInt x69_4.toInt y104_0.toInt x69_4.toInt (vw w104) r t → M_X5_gatherFacts_1_42 (vw w) p3.toInt r t) → va_P D vwCl w104 H → va_D A w104 → va_S A s.heap H locs → lv_has ls 5 [(0, .ref (q 56)), (1, .ref (q 1)), (2, .ref (q 42)), (3, .int p3), (4, .int x69_4)] → W p l e R s m args below meth c H locs 0 0 Q (F0 m 104 ls [.int y104_0, .int x69_4, .ref (q 62)]) := by
        intro y104_0 w104 H locs ls hW_w104 hM_w104 i_x104_3 i_x104_4 i_y104_0 i_y104_1 g104_1_19 g104_42_2 hmi_104 hP hD hS hl
        refine va_iast hx hb hK hP hD hS 62 0 (hW_w104.a tX_62) rfl (in_I i_x104_4 (by decide)) dX5_gatherFacts_104 (fun H locs hP hD hS => fr_w (hW_w104.uA tX_62 (In_w i_y104_0 (by decide) : In (-2147483648) 2147483647 y104_0)) hP hD (fun w_1 ew_1 hW_w_1 hP hD => ?_))
        have hv_w_1 := vw_uA hW_w104 tX_62 ew_1 (z_ix (rfl : (x69_4 : Int32).toInt = _)) (rfl : (y104_0 : Int32).toInt = _)
        refine lv_iinc (v := (x69_4 + 1)) (lv' := [(4, .int (x69_4 + 1)), (0, .ref (q 56)), (1, .ref (q 1)), (2, .ref (q 42)), (3, .int p3)]) hx hb dX5_gatherFacts_105 hl (k := 4) rfl (rfl) (by decide) rfl (fun ls hl => ?_)
        refine lv_goto (tgt := 69) hx hb dX5_gatherFacts_108 (by decide) ?_
        exact ih69 (x69_4 + 1) w_1 _ _ ls (mu_inc hmu69 i_x104_4 (In_lit (n := 1) (by decide) (by decide) : In 1 1 1) (by decide)) hW_w_1 (hM_w104.sa ew_1 (by decide)) i_p3 (In_w ((In_add (y := 1) i_x104_4 (In_lit (n := 1) (by decide) (by decide) : In 1 1 1) (by decide)) : In 1 200 (x69_4 + 1)) (by decide) : In 0 200 (x69_4 + 1)) (In_of ((fI_cg (st_ne ew_1 (by decide))).trans (hM_w104.gI (by decide))) (In_of (hM_w104.gI (by decide)).symm g104_42_2)) (fun n r t hk => (hmi_104 (n + 1) r t (rl_X5_gatherFacts_1_42_104 (n := n) (And.intro (tyX hW_w104) (And.intro i_x104_3 (And.intro i_x104_4 (And.intro i_y104_0 (And.intro i_y104_1 (Exists.intro (vw w_1) (And.intro hv_w_1 (cgK_4 hk (rfl : (p3 : Int32).toInt = _) (z_add (t_add i_x104_4 (In_lit (n := 1) (by decide) (by decide) : In 1 1 1) (by decide)) (rfl : (x69_4 : Int32).toInt = _) (show (1 : Int32).toInt = 1 from by decide)) rfl rfl))))))))))) hP hD hS (lv_sub hl [1, 2, 3, 4, 0] rfl)
      refine lv_iload hx hb dX5_gatherFacts_69 (lv_at hl 4 rfl) ?_
      refine lv_aload_n hx hb dX5_gatherFacts_71 rfl (lv_at hl 1 rfl) ?_
      refine gt_X1 hx hb hts hown hK hP 1 (hW_w69.o tX_1) 19 (by decide) wd_91 rfl (hW_w69.fi tX_1 rfl) dX5_gatherFacts_72 ?_
      refine tov (v := (fI w 1 19)) (hM_w69.gI (by decide)) ?_
      refine lv_icmp_ge (tgt := 111) hx hb dX5_gatherFacts_75 (by decide) (fun c_2 => ?_) (fun c_2 => ?_)
      · exact hret _ _ _ _ _ hP hD hS dX5_gatherFacts_111 ⟨hW_w69, hM_w69, (hmi_69 (0 + 1) _ _ (rl_X5_gatherFacts_1_42_69 (n := 0) (And.intro (tyX hW_w69) (And.intro i_x69_3 (And.intro i_x69_4 (Or.inl (And.intro (z_le c_2 (z_of (hM_w69.gI (by decide)).symm (hW_w69.vi tX_1 rfl)) (rfl : (x69_4 : Int32).toInt = _)) (And.intro rfl rfl))))))))⟩
      · refine lv_aload_n hx hb dX5_gatherFacts_78 rfl (lv_at hl 0 rfl) ?_
        refine gt_X5 hx hb hts hown hK hP 56 (hW_w69.o tX_56) 5 (by decide) wd_377 rfl (hW_w69.fr tX_56 rfl) dX5_gatherFacts_79 ?_
        refine lv_iload hx hb dX5_gatherFacts_82 (lv_at hl 4 rfl) ?_
        refine lv_aload_n hx hb dX5_gatherFacts_84 rfl (lv_at hl 2 rfl) ?_
        refine lv_iload_n hx hb dX5_gatherFacts_85 rfl (lv_at hl 3 rfl) ?_
        refine lv_aload_n hx hb dX5_gatherFacts_86 rfl (lv_at hl 1 rfl) ?_
        refine gt_X1 hx hb hts hown hK hP 1 (hW_w69.o tX_1) 18 (by decide) wd_89 rfl (hW_w69.fr tX_1 rfl) dX5_gatherFacts_87 ?_
        refine lv_iload hx hb dX5_gatherFacts_90 (lv_at hl 4 rfl) ?_
        refine va_lald hx hb hK hP 15 1 (hW_w69.al tX_15) rfl (in_I (R_nle_r (hW_w.fin tX_1 rfl : In 0 200 (fI w 1 19)) i_x69_4 c_2 (by decide) : In 0 199 x69_4) (by decide)) dX5_gatherFacts_92 ?_
        refine lv_topl (fun v_3 ev_3 => ?_)
        refine kW_i ⟨rfl, rfl⟩ hP hD hS hA (rW_V (As := [.int p3, .long v_3]) (rest := [.int x69_4, .ref (q 62)]) hx hb hml hown hts hK hE hP hD (e_X6_wants l D cI cJ cZ q bb bs bp w69 hW_w69 p3 v_3 i_p3 _) ⟨⟨rfl, rfl⟩, rfl, rfl⟩ sv_X5_106 ⟨(Nat.le_trans (by decide) hR.1), (Nat.le_trans (by decide) hR.2)⟩ 42 6 (hW_w69.o tX_42) rfl rfl rfl hl.1 rfl (Nat.le_of_ble_eq_true rfl) dX5_gatherFacts_93) (fun r_5 w_4 H locs hw_w_4 hP hD hS => ?_)
        obtain ⟨hW_w_4, hs_w_4, i_r_5, hm_6⟩ := hw_w_4
        refine lv_if_eq (tgt := 103) hx hb dX5_gatherFacts_96 (by decide) (fun c_7 => ?_) (fun c_7 => ?_)
        · refine lv_iconst (v := 0) hx hb dX5_gatherFacts_103 (by decide) ?_
          exact J104 0 w_4 _ _ ls hW_w_4 (hM_w69.tr hs_w_4 (by decide)) i_p3 (R_nle_r (hW_w.fin tX_1 rfl : In 0 200 (fI w 1 19)) i_x69_4 c_2 (by decide) : In 0 199 x69_4) (In_lit (n := 0) (by decide) (by decide) : In 0 1 0) (R_nle_r (hW_w.fin tX_1 rfl : In 0 200 (fI w 1 19)) i_x69_4 c_2 (by decide) : In 0 199 x69_4) (In_of ((hs_w_4.gI (by decide)).trans (hM_w69.gI (by decide))) (R_nle_l (hW_w.fin tX_1 rfl : In 0 200 (fI w 1 19)) i_x69_4 c_2 (by decide) : In 1 200 (fI w 1 19))) (In_of ((hs_w_4.gI (by decide)).trans (hM_w69.gI (by decide))) (In_of (hM_w69.gI (by decide)).symm g69_42_2)) (fun n r t hk => (hmi_69 (n + 1) r t (rl_X5_gatherFacts_1_42_69 (n := n) (And.intro (tyX hW_w69) (And.intro i_x69_3 (And.intro i_x69_4 (Or.inr (And.intro (z_nle c_2 (z_of (hM_w69.gI (by decide)).symm (hW_w69.vi tX_1 rfl)) (rfl : (x69_4 : Int32).toInt = _)) (Exists.intro r_5.toInt (Exists.intro (vw w_4) (And.intro (cgM_2 hm_6 (rfl : (p3 : Int32).toInt = _) (z_ofl ev_3 ((hW_w69.vb tX_15 _).trans (congrArg (vw w69 15) (z_ix (rfl : (x69_4 : Int32).toInt = _)))))) (And.intro (hs_w_4.Fr hW_w69 hW_w_4 intsX_ok intsX_ok) (And.intro (tyX hW_w_4) (And.intro i_r_5 (Or.inl (And.intro (z_eq c_7 (rfl : (r_5 : Int32).toInt = _) (show (0 : Int32).toInt = 0 from by decide)) (cgK_4 hk (rfl : (p3 : Int32).toInt = _) (rfl : (x69_4 : Int32).toInt = _) (show (0 : Int32).toInt = 0 from by decide) (rfl : (x69_4 : Int32).toInt = _)))))))))))))))))) hP hD hS (lv_sub hl [0, 1, 2, 3, 4] rfl)
        · refine lv_iconst (v := 1) hx hb dX5_gatherFacts_99 (by decide) ?_
          refine lv_goto (tgt := 104) hx hb dX5_gatherFacts_100 (by decide) ?_
          exact J104 1 w_4 _ _ ls hW_w_4 (hM_w69.tr hs_w_4 (by decide)) i_p3 (R_nle_r (hW_w.fin tX_1 rfl : In 0 200 (fI w 1 19)) i_x69_4 c_2 (by decide) : In 0 199 x69_4) (In_lit (n := 1) (by decide) (by decide) : In 0 1 1) (R_nle_r (hW_w.fin tX_1 rfl : In 0 200 (fI w 1 19)) i_x69_4 c_2 (by decide) : In 0 199 x69_4) (In_of ((hs_w_4.gI (by decide)).trans (hM_w69.gI (by decide))) (R_nle_l (hW_w.fin tX_1 rfl : In 0 200 (fI w 1 19)) i_x69_4 c_2 (by decide) : In 1 200 (fI w 1 19))) (In_of ((hs_w_4.gI (by decide)).trans (hM_w69.gI (by decide))) (In_of (hM_w69.gI (by decide)).symm g69_42_2)) (fun n r t hk => (hmi_69 (n + 1) r t (rl_X5_gatherFacts_1_42_69 (n := n) (And.intro (tyX hW_w69) (And.intro i_x69_3 (And.intro i_x69_4 (Or.inr (And.intro (z_nle c_2 (z_of (hM_w69.gI (by decide)).symm (hW_w69.vi tX_1 rfl)) (rfl : (x69_4 : Int32).toInt = _)) (Exists.intro r_5.toInt (Exists.intro (vw w_4) (And.intro (cgM_2 hm_6 (rfl : (p3 : Int32).toInt = _) (z_ofl ev_3 ((hW_w69.vb tX_15 _).trans (congrArg (vw w69 15) (z_ix (rfl : (x69_4 : Int32).toInt = _)))))) (And.intro (hs_w_4.Fr hW_w69 hW_w_4 intsX_ok intsX_ok) (And.intro (tyX hW_w_4) (And.intro i_r_5 (Or.inr (And.intro (z_neq c_7 (rfl : (r_5 : Int32).toInt = _) (show (0 : Int32).toInt = 0 from by decide)) (cgK_4 hk (rfl : (p3 : Int32).toInt = _) (rfl : (x69_4 : Int32).toInt = _) (show (1 : Int32).toInt = 1 from by decide) (rfl : (x69_4 : Int32).toInt = _)))))))))))))))))) hP hD hS (lv_sub hl [0, 1, 2, 3, 4] rfl)
  refine lv_aload_n hx hb dX5_gatherFacts_0 rfl (lv_at hl 0 rfl) ?_
  refine gt_X5 hx hb hts hown hK hP 56 (hW_w.o tX_56) 4 (by decide) wd_376 rfl (hW_w.fr tX_56 rfl) dX5_gatherFacts_1 ?_
  refine lv_iconst (v := 0) hx hb dX5_gatherFacts_4 (by decide) ?_
  refine lv_aload_n hx hb dX5_gatherFacts_5 rfl (lv_at hl 2 rfl) ?_
  refine gt_X6 hx hb hts hown hK hP 42 (hW_w.o tX_42) 4 (by decide) wd_300 rfl (hW_w.fr tX_42 rfl) dX5_gatherFacts_6 ?_
  refine lv_iload_n hx hb dX5_gatherFacts_9 rfl (lv_at hl 3 rfl) ?_
  refine va_iald hx hb hK hP 44 0 (hW_w.a tX_44) rfl (in_I i_p3 (by decide)) dX5_gatherFacts_10 ?_
  refine lv_topi (fun v_8 ev_8 => ?_)
  refine va_iast hx hb hK hP hD hS 61 0 (hW_w.a tX_61) rfl (in_I (In_lit (n := 0) (by decide) (by decide) : In 0 0 0) (by decide)) dX5_gatherFacts_11 (fun H locs hP hD hS => fr_w (hW_w.uA tX_61 (In_any v_8)) hP hD (fun w_9 ew_9 hW_w_9 hP hD => ?_))
  have hv_w_9 := vw_uA hW_w tX_61 ew_9 (show (0 : Int32).toNatClampNeg = 0 from by decide) (z_of ev_8 ((hW_w.va tX_44 _).trans (congrArg (vw w 44) (z_ix (rfl : (p3 : Int32).toInt = _)))))
  refine lv_aload_n hx hb dX5_gatherFacts_12 rfl (lv_at hl 0 rfl) ?_
  refine gt_X5 hx hb hts hown hK hP 56 (hW_w_9.o tX_56) 4 (by decide) wd_376 rfl (hW_w_9.fr tX_56 rfl) dX5_gatherFacts_13 ?_
  refine lv_iconst (v := 1) hx hb dX5_gatherFacts_16 (by decide) ?_
  refine lv_aload_n hx hb dX5_gatherFacts_17 rfl (lv_at hl 2 rfl) ?_
  refine gt_X6 hx hb hts hown hK hP 42 (hW_w_9.o tX_42) 6 (by decide) wd_304 rfl (hW_w_9.fr tX_42 rfl) dX5_gatherFacts_18 ?_
  refine lv_iload_n hx hb dX5_gatherFacts_21 rfl (lv_at hl 3 rfl) ?_
  refine va_iald hx hb hK hP 46 0 (hW_w_9.a tX_46) rfl (in_I i_p3 (by decide)) dX5_gatherFacts_22 ?_
  refine lv_topi (fun v_10 ev_10 => ?_)
  refine lv_aload_n hx hb dX5_gatherFacts_23 rfl (lv_at hl 2 rfl) ?_
  refine gt_X6 hx hb hts hown hK hP 42 (hW_w_9.o tX_42) 5 (by decide) wd_302 rfl (hW_w_9.fr tX_42 rfl) dX5_gatherFacts_24 ?_
  refine lv_iload_n hx hb dX5_gatherFacts_27 rfl (lv_at hl 3 rfl) ?_
  refine va_iald hx hb hK hP 45 0 (hW_w_9.a tX_45) rfl (in_I i_p3 (by decide)) dX5_gatherFacts_28 ?_
  refine lv_topi (fun v_11 ev_11 => ?_)
  refine lv_isub hx hb dX5_gatherFacts_29 ?_
  refine lv_topi (fun v_12 ev_12 => ?_)
  refine va_iast hx hb hK hP hD hS 61 0 (hW_w_9.a tX_61) rfl (in_I (In_lit (n := 1) (by decide) (by decide) : In 1 1 1) (by decide)) dX5_gatherFacts_30 (fun H locs hP hD hS => fr_w (hW_w_9.uA tX_61 (In_any v_12)) hP hD (fun w_13 ew_13 hW_w_13 hP hD => ?_))
  have hv_w_13 := vw_uA hW_w_9 tX_61 ew_13 (show (1 : Int32).toNatClampNeg = 1 from by decide) (z_of ev_12 (z_subw (z_of (ev_10.trans (congrFun (aF_cg (st_ne ew_9 (by decide))) _)) ((hW_w.va tX_46 _).trans (congrArg (vw w 46) (z_ix (rfl : (p3 : Int32).toInt = _))))) (z_of (ev_11.trans (congrFun (aF_cg (st_ne ew_9 (by decide))) _)) ((hW_w.va tX_45 _).trans (congrArg (vw w 45) (z_ix (rfl : (p3 : Int32).toInt = _)))))))
  refine lv_aload_n hx hb dX5_gatherFacts_31 rfl (lv_at hl 0 rfl) ?_
  refine gt_X5 hx hb hts hown hK hP 56 (hW_w_13.o tX_56) 4 (by decide) wd_376 rfl (hW_w_13.fr tX_56 rfl) dX5_gatherFacts_32 ?_
  refine lv_iconst (v := 2) hx hb dX5_gatherFacts_35 (by decide) ?_
  refine lv_aload_n hx hb dX5_gatherFacts_36 rfl (lv_at hl 2 rfl) ?_
  refine gt_X6 hx hb hts hown hK hP 42 (hW_w_13.o tX_42) 7 (by decide) wd_306 rfl (hW_w_13.fr tX_42 rfl) dX5_gatherFacts_37 ?_
  refine lv_iload_n hx hb dX5_gatherFacts_40 rfl (lv_at hl 3 rfl) ?_
  refine va_iald hx hb hK hP 47 0 (hW_w_13.a tX_47) rfl (in_I i_p3 (by decide)) dX5_gatherFacts_41 ?_
  refine lv_topi (fun v_14 ev_14 => ?_)
  refine va_iast hx hb hK hP hD hS 61 0 (hW_w_13.a tX_61) rfl (in_I (In_lit (n := 2) (by decide) (by decide) : In 2 2 2) (by decide)) dX5_gatherFacts_42 (fun H locs hP hD hS => fr_w (hW_w_13.uA tX_61 (In_any v_14)) hP hD (fun w_15 ew_15 hW_w_15 hP hD => ?_))
  have hv_w_15 := vw_uA hW_w_13 tX_61 ew_15 (show (2 : Int32).toNatClampNeg = 2 from by decide) (z_of (ev_14.trans (congrFun ((aF_cg (st_ne ew_13 (by decide))).trans (aF_cg (st_ne ew_9 (by decide)))) _)) ((hW_w.va tX_47 _).trans (congrArg (vw w 47) (z_ix (rfl : (p3 : Int32).toInt = _)))))
  refine lv_aload_n hx hb dX5_gatherFacts_43 rfl (lv_at hl 0 rfl) ?_
  refine gt_X5 hx hb hts hown hK hP 56 (hW_w_15.o tX_56) 4 (by decide) wd_376 rfl (hW_w_15.fr tX_56 rfl) dX5_gatherFacts_44 ?_
  refine lv_iconst (v := 3) hx hb dX5_gatherFacts_47 (by decide) ?_
  refine lv_aload_n hx hb dX5_gatherFacts_48 rfl (lv_at hl 2 rfl) ?_
  refine lv_iload_n hx hb dX5_gatherFacts_49 rfl (lv_at hl 3 rfl) ?_
  refine kW_i ⟨rfl, rfl⟩ hP hD hS hA (rW_V (As := [.int p3]) (rest := [.int 3, .ref (q 61)]) hx hb hml hown hts hK hE hP hD (e_X6_mates l D cI cJ cZ q bb bs bp w_15 hW_w_15 p3 i_p3 (In_of ((fI_cg (st_ne ew_15 (by decide))).trans ((fI_cg (st_ne ew_13 (by decide))).trans (fI_cg (st_ne ew_9 (by decide))))) hf_42_2) _) ⟨⟨rfl, rfl⟩, rfl, rfl⟩ sv_X5_92 ⟨(Nat.le_trans (by decide) hR.1), (Nat.le_trans (by decide) hR.2)⟩ 42 6 (hW_w_15.o tX_42) rfl rfl rfl hl.1 rfl (Nat.le_of_ble_eq_true rfl) dX5_gatherFacts_50) (fun r_17 w_16 H locs hw_w_16 hP hD hS => ?_)
  obtain ⟨hW_w_16, hs_w_16, hm_18⟩ := hw_w_16
  refine va_iast hx hb hK hP hD hS 61 0 (hW_w_16.a tX_61) rfl (in_I (In_lit (n := 3) (by decide) (by decide) : In 3 3 3) (by decide)) dX5_gatherFacts_53 (fun H locs hP hD hS => fr_w (hW_w_16.uA tX_61 (In_any r_17)) hP hD (fun w_19 ew_19 hW_w_19 hP hD => ?_))
  have hv_w_19 := vw_uA hW_w_16 tX_61 ew_19 (show (3 : Int32).toNatClampNeg = 3 from by decide) (rfl : (r_17 : Int32).toInt = _)
  refine lv_aload_n hx hb dX5_gatherFacts_54 rfl (lv_at hl 0 rfl) ?_
  refine gt_X5 hx hb hts hown hK hP 56 (hW_w_19.o tX_56) 4 (by decide) wd_376 rfl (hW_w_19.fr tX_56 rfl) dX5_gatherFacts_55 ?_
  refine lv_iconst (v := 4) hx hb dX5_gatherFacts_58 (by decide) ?_
  refine lv_aload_n hx hb dX5_gatherFacts_59 rfl (lv_at hl 2 rfl) ?_
  refine gt_X6 hx hb hts hown hK hP 42 (hW_w_19.o tX_42) 11 (by decide) wd_315 rfl (hW_w_19.fr tX_42 rfl) dX5_gatherFacts_60 ?_
  refine lv_iload_n hx hb dX5_gatherFacts_63 rfl (lv_at hl 3 rfl) ?_
  refine va_iald hx hb hK hP 51 0 (hW_w_19.a tX_51) rfl (in_I i_p3 (by decide)) dX5_gatherFacts_64 ?_
  refine lv_topi (fun v_20 ev_20 => ?_)
  refine va_iast hx hb hK hP hD hS 61 0 (hW_w_19.a tX_61) rfl (in_I (In_lit (n := 4) (by decide) (by decide) : In 4 4 4) (by decide)) dX5_gatherFacts_65 (fun H locs hP hD hS => fr_w (hW_w_19.uA tX_61 (In_w (In_of ev_20 (hW_w_19.ap tX_51 _) : In 0 4 v_20) (by decide) : In (-2147483648) 2147483647 v_20)) hP hD (fun w_21 ew_21 hW_w_21 hP hD => ?_))
  have hv_w_21 := vw_uA hW_w_19 tX_61 ew_21 (show (4 : Int32).toNatClampNeg = 4 from by decide) (z_of (ev_20.trans (congrFun (((((aF_cg (st_ne ew_19 (by decide))).trans (hs_w_16.hA (by decide))).trans (aF_cg (st_ne ew_15 (by decide)))).trans (aF_cg (st_ne ew_13 (by decide)))).trans (aF_cg (st_ne ew_9 (by decide)))) _)) ((hW_w.va tX_51 _).trans (congrArg (vw w 51) (z_ix (rfl : (p3 : Int32).toInt = _)))))
  refine lv_iconst (v := 0) hx hb dX5_gatherFacts_66 (by decide) ?_
  refine lv_istore (lv' := [(4, .int 0), (0, .ref (q 56)), (1, .ref (q 1)), (2, .ref (q 42)), (3, .int p3)]) hx hb dX5_gatherFacts_67 hl (by decide) rfl (fun ls hl => ?_)
  exact J69 _ 0 w_21 _ _ ls (Nat.lt_succ_self _) hW_w_21 ((((((Sm.rf.sa ew_9 (by decide)).sa ew_13 (by decide)).sa ew_15 (by decide)).tr hs_w_16 (by decide)).sa ew_19 (by decide)).sa ew_21 (by decide)) i_p3 (In_lit (n := 0) (by decide) (by decide) : In 0 200 0) (In_of ((fI_cg (st_ne ew_21 (by decide))).trans ((fI_cg (st_ne ew_19 (by decide))).trans ((hs_w_16.gI (by decide)).trans ((fI_cg (st_ne ew_15 (by decide))).trans ((fI_cg (st_ne ew_13 (by decide))).trans (fI_cg (st_ne ew_9 (by decide)))))))) hf_42_2) (fun n r t hk => (mk_X5_gatherFacts_1_42 (n := n) (And.intro (tyX hW_w) (And.intro i_p3 (Exists.intro (vw w_9) (And.intro hv_w_9 (Exists.intro (vw w_13) (And.intro hv_w_13 (Exists.intro (vw w_15) (And.intro hv_w_15 (Exists.intro r_17.toInt (Exists.intro (vw w_16) (And.intro (cgM_1 hm_18 (rfl : (p3 : Int32).toInt = _)) (And.intro (hs_w_16.Fr hW_w_15 hW_w_16 intsX_ok intsX_ok) (And.intro (tyX hW_w_16) (Exists.intro (vw w_19) (And.intro hv_w_19 (Exists.intro (vw w_21) (And.intro hv_w_21 (cgK_4 hk (rfl : (p3 : Int32).toInt = _) (show (0 : Int32).toInt = 0 from by decide) rfl rfl)))))))))))))))))))) hP hD hS (lv_sub hl [1, 2, 3, 4, 0] rfl)
set_option maxRecDepth 100000 in
set_option maxHeartbeats 8000000 in
theorem e_X5_leaf_1 (l : Launch) (D : va_G) (cI cJ cZ : ClassId) (q : Nat → Nat) (bb bs bp : Nat) (w : va_W) (hW_w : HT q (TX q cI cJ cZ bb bs bp) w) (p2 : Int32) (p3 : Int32) (p4 : Int32) (i_p2 : In 0 6 p2) (i_p4 : In 1 1 p4) (hf_1_8 : In 1 24 (fI w 1 8)) (hf_42_2 : In 1 40 (fI w 42 2)) (hok : okl p2 p3) : Con_i l yX5_leaf cX5_leaf 5 (some .int) ({ frames := 0, cells := 0, slots := 0, locals := 0 }) D cI cJ cZ eW [.ref (q 56), .ref (q 1), .int p2, .int p3, .int p4] w (fun (r : Int32) (w1 : va_W) => HT q (TX q cI cJ cZ bb bs bp) w1 ∧ Sm [] [] w w1 ∧ M_X5_leaf_1 (vw w) p2.toInt p3.toInt p4.toInt r.toInt (vw w1)) := by
  refine eQ_i rfl (by decide) (Nat.le_of_ble_eq_true rfl) ⟨rfl, rfl⟩ ?_
  intro p e R s m args below meth c A Q hx hb hml hown hts hK hE hA hR hret hP hD hS ls hl
  have hown : s.vm.findClass RX5 = some m.cls := hown
  have hl : lv_has ls 5 [(0, .ref (q 56)), (1, .ref (q 1)), (2, .int p2), (3, .int p3), (4, .int p4)] := hl
  refine lv_iload_n hx hb dX5_leaf_0 rfl (lv_at hl 2 rfl) ?_
  by_cases c_1 : p2 = 2
  · have c_1t : (p2 : Int32).toInt = 2 := by rw [c_1]; rfl
    refine lv_tableIn (tgt := 36) hx hb dX5_leaf_1 (by rw [c_1t]; decide) (by rw [c_1t]; decide) (off := 35) (by rw [c_1t]; rfl) (by decide) ?_
    refine lv_aload_n hx hb dX5_leaf_36 rfl (lv_at hl 0 rfl) ?_
    refine gt_X5 hx hb hts hown hK hP 56 (hW_w.o tX_56) 4 (by decide) wd_376 rfl (hW_w.fr tX_56 rfl) dX5_leaf_37 ?_
    refine lv_iload_n hx hb dX5_leaf_40 rfl (lv_at hl 3 rfl) ?_
    refine va_iald hx hb hK hP 61 0 (hW_w.a tX_61) rfl (in_I (hok.1 c_1) (by decide)) dX5_leaf_41 ?_
    refine lv_topi (fun v_2 ev_2 => ?_)
    exact hret _ _ _ _ _ _ hP hD hS dX5_leaf_42 ⟨hW_w, Sm.rf, (mk_X5_leaf_1 (And.intro (tyX hW_w) (And.intro i_p2 (And.intro i_p4 (Or.inl (And.intro (z_eq c_1 (rfl : (p2 : Int32).toInt = _) (show (2 : Int32).toInt = 2 from by decide)) (And.intro (z_of ev_2 ((hW_w.va tX_61 _).trans (congrArg (vw w 61) (z_ix (rfl : (p3 : Int32).toInt = _))))) rfl)))))))⟩
  by_cases c_3 : p2 = 3
  · have c_3t : (p2 : Int32).toInt = 3 := by rw [c_3]; rfl
    refine lv_tableIn (tgt := 43) hx hb dX5_leaf_1 (by rw [c_3t]; decide) (by rw [c_3t]; decide) (off := 42) (by rw [c_3t]; rfl) (by decide) ?_
    refine lv_iload hx hb dX5_leaf_43 (lv_at hl 4 rfl) ?_
    exact hret _ _ _ _ _ _ hP hD hS dX5_leaf_45 ⟨hW_w, Sm.rf, (mk_X5_leaf_1 (And.intro (tyX hW_w) (And.intro i_p2 (And.intro i_p4 (Or.inr (And.intro (z_neq c_1 (rfl : (p2 : Int32).toInt = _) (show (2 : Int32).toInt = 2 from by decide)) (Or.inl (And.intro (z_eq c_3 (rfl : (p2 : Int32).toInt = _) (show (3 : Int32).toInt = 3 from by decide)) (And.intro (rfl : (p4 : Int32).toInt = _) rfl)))))))))⟩
  by_cases c_4 : p2 = 4
  · have c_4t : (p2 : Int32).toInt = 4 := by rw [c_4]; rfl
    refine lv_tableIn (tgt := 46) hx hb dX5_leaf_1 (by rw [c_4t]; decide) (by rw [c_4t]; decide) (off := 45) (by rw [c_4t]; rfl) (by decide) ?_
    refine lv_aload_n hx hb dX5_leaf_46 rfl (lv_at hl 0 rfl) ?_
    refine gt_X5 hx hb hts hown hK hP 56 (hW_w.o tX_56) 5 (by decide) wd_377 rfl (hW_w.fr tX_56 rfl) dX5_leaf_47 ?_
    refine lv_iload_n hx hb dX5_leaf_50 rfl (lv_at hl 3 rfl) ?_
    refine va_iald hx hb hK hP 62 0 (hW_w.a tX_62) rfl (in_I (hok.2.1 c_4) (by decide)) dX5_leaf_51 ?_
    refine lv_topi (fun v_5 ev_5 => ?_)
    exact hret _ _ _ _ _ _ hP hD hS dX5_leaf_52 ⟨hW_w, Sm.rf, (mk_X5_leaf_1 (And.intro (tyX hW_w) (And.intro i_p2 (And.intro i_p4 (Or.inr (And.intro (z_neq c_1 (rfl : (p2 : Int32).toInt = _) (show (2 : Int32).toInt = 2 from by decide)) (Or.inr (And.intro (z_neq c_3 (rfl : (p2 : Int32).toInt = _) (show (3 : Int32).toInt = 3 from by decide)) (Or.inl (And.intro (z_eq c_4 (rfl : (p2 : Int32).toInt = _) (show (4 : Int32).toInt = 4 from by decide)) (And.intro (z_of ev_5 ((hW_w.va tX_62 _).trans (congrArg (vw w 62) (z_ix (rfl : (p3 : Int32).toInt = _))))) rfl)))))))))))⟩
  by_cases c_6 : p2 = 5
  · have c_6t : (p2 : Int32).toInt = 5 := by rw [c_6]; rfl
    refine lv_tableIn (tgt := 53) hx hb dX5_leaf_1 (by rw [c_6t]; decide) (by rw [c_6t]; decide) (off := 52) (by rw [c_6t]; rfl) (by decide) ?_
    refine lv_iconst (v := 1) hx hb dX5_leaf_53 (by decide) ?_
    refine lv_iload_n hx hb dX5_leaf_54 rfl (lv_at hl 3 rfl) ?_
    refine lv_ishl hx hb dX5_leaf_55 ?_
    refine lv_topi (fun v_7 ev_7 => ?_)
    exact hret _ _ _ _ _ _ hP hD hS dX5_leaf_56 ⟨hW_w, Sm.rf, (mk_X5_leaf_1 (And.intro (tyX hW_w) (And.intro i_p2 (And.intro i_p4 (Or.inr (And.intro (z_neq c_1 (rfl : (p2 : Int32).toInt = _) (show (2 : Int32).toInt = 2 from by decide)) (Or.inr (And.intro (z_neq c_3 (rfl : (p2 : Int32).toInt = _) (show (3 : Int32).toInt = 3 from by decide)) (Or.inr (And.intro (z_neq c_4 (rfl : (p2 : Int32).toInt = _) (show (4 : Int32).toInt = 4 from by decide)) (Or.inl (And.intro (z_eq c_6 (rfl : (p2 : Int32).toInt = _) (show (5 : Int32).toInt = 5 from by decide)) (And.intro (z_of ev_7 (z_shl (show (1 : Int32).toInt = 1 from by decide) (rfl : (p3 : Int32).toInt = _))) rfl)))))))))))))⟩
  by_cases c_8 : p2 = 6
  · have c_8t : (p2 : Int32).toInt = 6 := by rw [c_8]; rfl
    refine lv_tableIn (tgt := 57) hx hb dX5_leaf_1 (by rw [c_8t]; decide) (by rw [c_8t]; decide) (off := 56) (by rw [c_8t]; rfl) (by decide) ?_
    refine lv_aload_n hx hb dX5_leaf_57 rfl (lv_at hl 1 rfl) ?_
    refine gt_X1 hx hb hts hown hK hP 1 (hW_w.o tX_1) 7 (by decide) wd_61 rfl (hW_w.fr tX_1 rfl) dX5_leaf_58 ?_
    refine lv_iload_n hx hb dX5_leaf_61 rfl (lv_at hl 3 rfl) ?_
    refine va_iald hx hb hK hP 7 0 (hW_w.a tX_7) rfl (in_I (hok.2.2 c_8) (by decide)) dX5_leaf_62 ?_
    refine lv_topi (fun v_9 ev_9 => ?_)
    exact hret _ _ _ _ _ _ hP hD hS dX5_leaf_63 ⟨hW_w, Sm.rf, (mk_X5_leaf_1 (And.intro (tyX hW_w) (And.intro i_p2 (And.intro i_p4 (Or.inr (And.intro (z_neq c_1 (rfl : (p2 : Int32).toInt = _) (show (2 : Int32).toInt = 2 from by decide)) (Or.inr (And.intro (z_neq c_3 (rfl : (p2 : Int32).toInt = _) (show (3 : Int32).toInt = 3 from by decide)) (Or.inr (And.intro (z_neq c_4 (rfl : (p2 : Int32).toInt = _) (show (4 : Int32).toInt = 4 from by decide)) (Or.inr (And.intro (z_neq c_6 (rfl : (p2 : Int32).toInt = _) (show (5 : Int32).toInt = 5 from by decide)) (Or.inl (And.intro (z_eq c_8 (rfl : (p2 : Int32).toInt = _) (show (6 : Int32).toInt = 6 from by decide)) (And.intro (z_of ev_9 ((hW_w.va tX_7 _).trans (congrArg (vw w 7) (z_ix (rfl : (p3 : Int32).toInt = _))))) rfl)))))))))))))))⟩
  refine lv_tableOut (tgt := 64) hx hb dX5_leaf_1 (by have h0 := lv_neT c_1 (a := 2) (by decide); have h1 := lv_neT c_3 (a := 3) (by decide); have h2 := lv_neT c_4 (a := 4) (by decide); have h3 := lv_neT c_6 (a := 5) (by decide); have h4 := lv_neT c_8 (a := 6) (by decide); omega) (by decide) ?_
  refine lv_iload_n hx hb dX5_leaf_64 rfl (lv_at hl 3 rfl) ?_
  exact hret _ _ _ _ _ _ hP hD hS dX5_leaf_65 ⟨hW_w, Sm.rf, (mk_X5_leaf_1 (And.intro (tyX hW_w) (And.intro i_p2 (And.intro i_p4 (Or.inr (And.intro (z_neq c_1 (rfl : (p2 : Int32).toInt = _) (show (2 : Int32).toInt = 2 from by decide)) (Or.inr (And.intro (z_neq c_3 (rfl : (p2 : Int32).toInt = _) (show (3 : Int32).toInt = 3 from by decide)) (Or.inr (And.intro (z_neq c_4 (rfl : (p2 : Int32).toInt = _) (show (4 : Int32).toInt = 4 from by decide)) (Or.inr (And.intro (z_neq c_6 (rfl : (p2 : Int32).toInt = _) (show (5 : Int32).toInt = 5 from by decide)) (Or.inr (And.intro (z_neq c_8 (rfl : (p2 : Int32).toInt = _) (show (6 : Int32).toInt = 6 from by decide)) (And.intro (rfl : (p3 : Int32).toInt = _) rfl)))))))))))))))⟩
set_option maxRecDepth 100000 in
set_option maxHeartbeats 8000000 in
theorem e_X5_value_1 (l : Launch) (D : va_G) (cI cJ cZ : ClassId) (q : Nat → Nat) (bb bs bp : Nat) (w : va_W) (hW_w : HT q (TX q cI cJ cZ bb bs bp) w) (p2 : Int32) (p3 : Int32) (p4 : Int32) (i_p2 : In 0 1000 p2) (i_p3 : In 0 1000 p3) (i_p4 : In 1 1 p4) (hf_1_8 : In 1 24 (fI w 1 8)) (hf_42_2 : In 1 40 (fI w 42 2)) : Con_i l yX5_value cX5_value 8 (some .int) ({ frames := 3, cells := 0, slots := 0, locals := 66 }) D cI cJ cZ eW [.ref (q 56), .ref (q 1), .int p2, .int p3, .int p4] w (fun (r : Int32) (w1 : va_W) => HT q (TX q cI cJ cZ bb bs bp) w1 ∧ Sm [63] [] w w1 ∧ M_X5_value_1 (vw w) p2.toInt p3.toInt p4.toInt r.toInt (vw w1)) := by
  refine eQ_i rfl (by decide) (Nat.le_of_ble_eq_true rfl) ⟨rfl, rfl⟩ ?_
  intro p e R s m args below meth c A Q hx hb hml hown hts hK hE hA hR hret hP hD hS ls hl
  have hown : s.vm.findClass RX5 = some m.cls := hown
  have hl : lv_has ls 8 [(0, .ref (q 56)), (1, .ref (q 1)), (2, .int p2), (3, .int p3), (4, .int p4)] := hl
  have J6 : ∀ (N : Nat) (x6_5 : Int32) (x6_6 : Int32) (w6 : va_W) (H : Heap) (locs : List Loc) (ls : Array Slot), (1000 - x6_6.toInt).toNat < N → HT q (TX q cI cJ cZ bb bs bp) w6 → Sm [63] [] w w6 → (In 0 1000 p2) → (In 0 1000 p3) → (In 1 1 p4) → (In 0 64 x6_5) → (In 0 1000 x6_6) → (In 1 24 (fI w6 1 8)) → (In 1 40 (fI w6 42 2)) → (∀ (n : Nat) (r : Int) (t : PS), It_X5_value_1 n 6 p2.toInt p3.toInt p4.toInt x6_5.toInt x6_6.toInt 0 (vw w6) r t → M_X5_value_1 (vw w) p2.toInt p3.toInt p4.toInt r t) → va_P D vwCl w6 H → va_D A w6 → va_S A s.heap H locs → lv_has ls 8 [(0, .ref (q 56)), (1, .ref (q 1)), (2, .int p2), (3, .int p3), (4, .int p4), (5, .int x6_5), (6, .int x6_6)] → W p l e R s m args below meth c H locs 0 0 Q (F0 m 6 ls []) := by
    intro N
    induction N with
    | zero => intro x6_5 x6_6 w6 H locs ls hmu; exact absurd hmu (Nat.not_lt_zero _)
    | succ N ih6 =>
      intro x6_5 x6_6 w6 H locs ls hmu6 hW_w6 hM_w6 i_x6_2 i_x6_3 i_x6_4 i_x6_5 i_x6_6 g6_1_8 g6_42_2 hmi_6 hP hD hS hl
      have J137 : ∀ (x137_5 : Int32) (x137_7 : Int32) (w137 : va_W) (H : Heap) (locs : List Loc) (ls : Array Slot), HT q (TX q cI cJ cZ bb bs bp) w137 → Sm [63] [] w w137 → (In 0 1000 p2) → (In 1 1000 p3) → (In 1 1 p4) → (In 0 64 x137_5) → (In 0 999 x6_6) → (In 0 15 x137_7) → (In 1 24 (fI w137 1 8)) → (In 1 40 (fI w137 42 2)) → (∀ (n : Nat) (r : Int) (t : PS), It_X5_value_1 n 137 p2.toInt p3.toInt p4.toInt x137_5.toInt x6_6.toInt x137_7.toInt (vw w137) r t → M_X5_value_1 (vw w) p2.toInt p3.toInt p4.toInt r t) → va_P D vwCl w137 H → va_D A w137 → va_S A s.heap H locs → lv_has ls 8 [(0, .ref (q 56)), (1, .ref (q 1)), (2, .int p2), (3, .int p3), (4, .int p4), (5, .int x137_5), (6, .int x6_6), (7, .int x137_7)] → W p l e R s m args below meth c H locs 0 0 Q (F0 m 137 ls []) := by
        intro x137_5 x137_7 w137 H locs ls hW_w137 hM_w137 i_x137_2 i_x137_3 i_x137_4 i_x137_5 i_x137_6 i_x137_7 g137_1_8 g137_42_2 hmi_137 hP hD hS hl
        refine lv_iinc (v := (x6_6 + 1)) (lv' := [(6, .int (x6_6 + 1)), (0, .ref (q 56)), (1, .ref (q 1)), (2, .int p2), (3, .int p3), (4, .int p4), (5, .int x137_5), (7, .int x137_7)]) hx hb dX5_value_137 hl (k := 6) rfl (rfl) (by decide) rfl (fun ls hl => ?_)
        refine lv_goto (tgt := 6) hx hb dX5_value_140 (by decide) ?_
        exact ih6 x137_5 (x6_6 + 1) w137 _ _ ls (mu_inc hmu6 i_x137_6 (In_lit (n := 1) (by decide) (by decide) : In 1 1 1) (by decide)) hW_w137 hM_w137 i_p2 (In_w i_x137_3 (by decide) : In 0 1000 p3) i_p4 i_x137_5 (In_w ((In_add (y := 1) i_x137_6 (In_lit (n := 1) (by decide) (by decide) : In 1 1 1) (by decide)) : In 1 1000 (x6_6 + 1)) (by decide) : In 0 1000 (x6_6 + 1)) (In_of (hM_w137.gI (by decide)) (In_of (hM_w137.gI (by decide)).symm g137_1_8)) (In_of (hM_w137.gI (by decide)) (In_of (hM_w137.gI (by decide)).symm g137_42_2)) (fun n r t hk => (hmi_137 (n + 1) r t (rl_X5_value_1_137 (n := n) (And.intro (tyX hW_w137) (And.intro i_x137_2 (And.intro i_x137_3 (And.intro i_x137_4 (And.intro i_x137_5 (And.intro i_x137_6 (And.intro i_x137_7 (cgK_6 hk (rfl : (p2 : Int32).toInt = _) (rfl : (p3 : Int32).toInt = _) (rfl : (p4 : Int32).toInt = _) (rfl : (x137_5 : Int32).toInt = _) (z_add (t_add i_x137_6 (In_lit (n := 1) (by decide) (by decide) : In 1 1 1) (by decide)) (rfl : (x6_6 : Int32).toInt = _) (show (1 : Int32).toInt = 1 from by decide)) rfl))))))))))) hP hD hS (lv_sub hl [1, 2, 3, 4, 5, 6, 0] rfl)
      refine lv_iload hx hb dX5_value_6 (lv_at hl 6 rfl) ?_
      refine lv_iload_n hx hb dX5_value_8 rfl (lv_at hl 3 rfl) ?_
      refine lv_icmp_ge (tgt := 143) hx hb dX5_value_9 (by decide) (fun c_1 => ?_) (fun c_1 => ?_)
      · refine lv_iload hx hb dX5_value_143 (lv_at hl 5 rfl) ?_
        refine lv_if_le (tgt := 157) hx hb dX5_value_145 (by decide) (fun c_2 => ?_) (fun c_2 => ?_)
        · refine lv_iconst (v := 0) hx hb dX5_value_157 (by decide) ?_
          exact hret _ _ _ _ _ _ hP hD hS dX5_value_158 ⟨hW_w6, hM_w6, (hmi_6 (0 + 1) _ _ (rl_X5_value_1_6 (n := 0) (And.intro (tyX hW_w6) (And.intro i_x6_2 (And.intro i_x6_3 (And.intro i_x6_4 (And.intro i_x6_5 (And.intro i_x6_6 (Or.inl (And.intro (z_le c_1 (rfl : (p3 : Int32).toInt = _) (rfl : (x6_6 : Int32).toInt = _)) (Or.inl (And.intro (z_le c_2 (rfl : (x6_5 : Int32).toInt = _) (show (0 : Int32).toInt = 0 from by decide)) (And.intro (show (0 : Int32).toInt = 0 from by decide) rfl)))))))))))))⟩
        · refine lv_aload_n hx hb dX5_value_148 rfl (lv_at hl 0 rfl) ?_
          refine gt_X5 hx hb hts hown hK hP 56 (hW_w6.o tX_56) 6 (by decide) wd_378 rfl (hW_w6.fr tX_56 rfl) dX5_value_149 ?_
          refine lv_iconst (v := 0) hx hb dX5_value_152 (by decide) ?_
          refine va_iald hx hb hK hP 63 0 (hW_w6.a tX_63) rfl (in_I (In_lit (n := 0) (by decide) (by decide) : In 0 0 0) (by decide)) dX5_value_153 ?_
          refine lv_topi (fun v_3 ev_3 => ?_)
          refine lv_goto (tgt := 158) hx hb dX5_value_154 (by decide) ?_
          exact hret _ _ _ _ _ _ hP hD hS dX5_value_158 ⟨hW_w6, hM_w6, (hmi_6 (0 + 1) _ _ (rl_X5_value_1_6 (n := 0) (And.intro (tyX hW_w6) (And.intro i_x6_2 (And.intro i_x6_3 (And.intro i_x6_4 (And.intro i_x6_5 (And.intro i_x6_6 (Or.inl (And.intro (z_le c_1 (rfl : (p3 : Int32).toInt = _) (rfl : (x6_6 : Int32).toInt = _)) (Or.inr (And.intro (z_nle c_2 (rfl : (x6_5 : Int32).toInt = _) (show (0 : Int32).toInt = 0 from by decide)) (And.intro (z_of ev_3 ((hW_w6.va tX_63 _).trans (congrArg (vw w6 63) (show (0 : Int32).toNatClampNeg = 0 from by decide)))) rfl)))))))))))))⟩
      · refine lv_aload_n hx hb dX5_value_12 rfl (lv_at hl 1 rfl) ?_
        refine gt_X1 hx hb hts hown hK hP 1 (hW_w6.o tX_1) 16 (by decide) wd_85 rfl (hW_w6.fr tX_1 rfl) dX5_value_13 ?_
        refine lv_iload hx hb dX5_value_16 (lv_at hl 6 rfl) ?_
        refine va_iald hx hb hK hP 14 0 (hW_w6.a tX_14) rfl (in_I (R_nle_r i_p3 i_x6_6 c_1 (by decide) : In 0 999 x6_6) (by decide)) dX5_value_18 ?_
        refine lv_topi (fun v_4 ev_4 => ?_)
        refine lv_bipush (v := 15) hx hb dX5_value_19 (by decide) ?_
        refine lv_iand hx hb dX5_value_21 ?_
        refine lv_istore (lv' := [(7, .int (v_4 &&& 15)), (0, .ref (q 56)), (1, .ref (q 1)), (2, .int p2), (3, .int p3), (4, .int p4), (5, .int x6_5), (6, .int x6_6)]) hx hb dX5_value_22 hl (by decide) rfl (fun ls hl => ?_)
        refine lv_iload hx hb dX5_value_24 (lv_at hl 0 rfl) ?_
        refine lv_bipush (v := 7) hx hb dX5_value_26 (by decide) ?_
        refine lv_icmp_ge (tgt := 69) hx hb dX5_value_28 (by decide) (fun c_5 => ?_) (fun c_5 => ?_)
        · refine lv_iload hx hb dX5_value_69 (lv_at hl 0 rfl) ?_
          refine lv_bipush (v := 7) hx hb dX5_value_71 (by decide) ?_
          refine lv_icmp_ne (tgt := 98) hx hb dX5_value_73 (by decide) (fun c_6 => ?_) (fun c_6 => ?_)
          · refine lv_iload hx hb dX5_value_98 (lv_at hl 6 rfl) ?_
            refine lv_iconst (v := 1) hx hb dX5_value_100 (by decide) ?_
            refine lv_icmp_le (tgt := 137) hx hb dX5_value_101 (by decide) (fun c_7 => ?_) (fun c_7 => ?_)
            · exact J137 x6_5 (v_4 &&& 15) w6 _ _ ls hW_w6 hM_w6 i_p2 (R_nle_l i_p3 i_x6_6 c_1 (by decide) : In 1 1000 p3) i_p4 (In_w (R_le_l i_x6_5 (In_lit (n := 1) (by decide) (by decide) : In 1 1 1) c_7 (by decide) : In 0 1 x6_5) (by decide) : In 0 64 x6_5) (R_nle_r i_p3 i_x6_6 c_1 (by decide) : In 0 999 x6_6) (In_w (R_ne_l (R_le_r (In_lit (n := 7) (by decide) (by decide) : In 7 7 7) ((In_and (n := 15) (by decide) (by decide)) : In 0 15 (v_4 &&& 15)) c_5 (by decide) : In 7 15 (v_4 &&& 15)) (In_lit (n := 7) (by decide) (by decide) : In 7 7 7) c_6 (by decide) : In 8 15 (v_4 &&& 15)) (by decide) : In 0 15 (v_4 &&& 15)) (In_of (hM_w6.gI (by decide)) (In_of (hM_w6.gI (by decide)).symm g6_1_8)) (In_of (hM_w6.gI (by decide)) (In_of (hM_w6.gI (by decide)).symm g6_42_2)) (fun n r t hk => (hmi_6 (n + 1) r t (rl_X5_value_1_6 (n := n) (And.intro (tyX hW_w6) (And.intro i_x6_2 (And.intro i_x6_3 (And.intro i_x6_4 (And.intro i_x6_5 (And.intro i_x6_6 (Or.inr (And.intro (z_nle c_1 (rfl : (p3 : Int32).toInt = _) (rfl : (x6_6 : Int32).toInt = _)) (Or.inl (And.intro (z_le c_5 (show (7 : Int32).toInt = 7 from by decide) (z_and (z_of ev_4 ((hW_w6.va tX_14 _).trans (congrArg (vw w6 14) (z_ix (rfl : (x6_6 : Int32).toInt = _))))) (show (15 : Int32).toInt = 15 from by decide))) (Or.inr (And.intro (z_neq c_6 (z_and (z_of ev_4 ((hW_w6.va tX_14 _).trans (congrArg (vw w6 14) (z_ix (rfl : (x6_6 : Int32).toInt = _))))) (show (15 : Int32).toInt = 15 from by decide)) (show (7 : Int32).toInt = 7 from by decide)) (Or.inl (And.intro (z_le c_7 (rfl : (x6_5 : Int32).toInt = _) (show (1 : Int32).toInt = 1 from by decide)) (cgK_6 hk (rfl : (p2 : Int32).toInt = _) (rfl : (p3 : Int32).toInt = _) (rfl : (p4 : Int32).toInt = _) (rfl : (x6_5 : Int32).toInt = _) (rfl : (x6_6 : Int32).toInt = _) (z_and (z_of ev_4 ((hW_w6.va tX_14 _).trans (congrArg (vw w6 14) (z_ix (rfl : (x6_6 : Int32).toInt = _))))) (show (15 : Int32).toInt = 15 from by decide)))))))))))))))))))) hP hD hS (lv_sub hl [1, 2, 3, 4, 5, 6, 7, 0] rfl)
            · refine lv_iinc (v := (x6_5 + (-1))) (lv' := [(5, .int (x6_5 + (-1))), (7, .int (v_4 &&& 15)), (0, .ref (q 56)), (1, .ref (q 1)), (2, .int p2), (3, .int p3), (4, .int p4), (6, .int x6_6)]) hx hb dX5_value_104 hl (k := 6) rfl (rfl) (by decide) rfl (fun ls hl => ?_)
              refine lv_aload_n hx hb dX5_value_107 rfl (lv_at hl 2 rfl) ?_
              refine gt_X5 hx hb hts hown hK hP 56 (hW_w6.o tX_56) 6 (by decide) wd_378 rfl (hW_w6.fr tX_56 rfl) dX5_value_108 ?_
              refine lv_iload hx hb dX5_value_111 (lv_at hl 0 rfl) ?_
              refine lv_iconst (v := 1) hx hb dX5_value_113 (by decide) ?_
              refine lv_isub hx hb dX5_value_114 ?_
              refine lv_iload hx hb dX5_value_115 (lv_at hl 1 rfl) ?_
              refine lv_aload_n hx hb dX5_value_117 rfl (lv_at hl 2 rfl) ?_
              refine gt_X5 hx hb hts hown hK hP 56 (hW_w6.o tX_56) 6 (by decide) wd_378 rfl (hW_w6.fr tX_56 rfl) dX5_value_118 ?_
              refine lv_iload hx hb dX5_value_121 (lv_at hl 0 rfl) ?_
              refine lv_iconst (v := 1) hx hb dX5_value_123 (by decide) ?_
              refine lv_isub hx hb dX5_value_124 ?_
              refine va_iald hx hb hK hP 63 0 (hW_w6.a tX_63) rfl (in_I ((In_sub ((In_dec (y := (-1)) (n := 1) (R_nle_l i_x6_5 (In_lit (n := 1) (by decide) (by decide) : In 1 1 1) c_7 (by decide) : In 2 64 x6_5) (by decide) (by decide)) : In 1 63 (x6_5 + (-1))) (In_lit (n := 1) (by decide) (by decide) : In 1 1 1) (by decide)) : In 0 62 ((x6_5 + (-1)) - 1)) (by decide)) dX5_value_125 ?_
              refine lv_topi (fun v_8 ev_8 => ?_)
              refine lv_aload_n hx hb dX5_value_126 rfl (lv_at hl 2 rfl) ?_
              refine gt_X5 hx hb hts hown hK hP 56 (hW_w6.o tX_56) 6 (by decide) wd_378 rfl (hW_w6.fr tX_56 rfl) dX5_value_127 ?_
              refine lv_iload hx hb dX5_value_130 (lv_at hl 0 rfl) ?_
              refine va_iald hx hb hK hP 63 0 (hW_w6.a tX_63) rfl (in_I ((In_dec (y := (-1)) (n := 1) (R_nle_l i_x6_5 (In_lit (n := 1) (by decide) (by decide) : In 1 1 1) c_7 (by decide) : In 2 64 x6_5) (by decide) (by decide)) : In 1 63 (x6_5 + (-1))) (by decide)) dX5_value_132 ?_
              refine lv_topi (fun v_9 ev_9 => ?_)
              refine kW_i ⟨rfl, rfl⟩ hP hD hS hA (rW_S (As := [.int (v_4 &&& 15), .int v_8, .int v_9]) (rest := [.int ((x6_5 + (-1)) - 1), .ref (q 63)]) hx hb hml hown hts hK hE hP hD (e_X5_joined l D cI cJ cZ q bb bs bp w6 hW_w6 (v_4 &&& 15) v_8 v_9 (R_ne_l (R_le_r (In_lit (n := 7) (by decide) (by decide) : In 7 7 7) ((In_and (n := 15) (by decide) (by decide)) : In 0 15 (v_4 &&& 15)) c_5 (by decide) : In 7 15 (v_4 &&& 15)) (In_lit (n := 7) (by decide) (by decide) : In 7 7 7) c_6 (by decide) : In 8 15 (v_4 &&& 15)) _) ⟨⟨rfl, rfl⟩, rfl, rfl⟩ sv_X5_128 ⟨(Nat.le_trans (by decide) hR.1), (Nat.le_trans (by decide) hR.2)⟩ rfl hl.1 rfl (Nat.le_of_ble_eq_true rfl) dX5_value_133) (fun r_11 w_10 H locs hw_w_10 hP hD hS => ?_)
              obtain ⟨hW_w_10, hs_w_10, hm_12⟩ := hw_w_10
              refine va_iast hx hb hK hP hD hS 63 0 (hW_w_10.a tX_63) rfl (in_I ((In_sub ((In_dec (y := (-1)) (n := 1) (R_nle_l i_x6_5 (In_lit (n := 1) (by decide) (by decide) : In 1 1 1) c_7 (by decide) : In 2 64 x6_5) (by decide) (by decide)) : In 1 63 (x6_5 + (-1))) (In_lit (n := 1) (by decide) (by decide) : In 1 1 1) (by decide)) : In 0 62 ((x6_5 + (-1)) - 1)) (by decide)) dX5_value_136 (fun H locs hP hD hS => fr_w (hW_w_10.uA tX_63 (In_any r_11)) hP hD (fun w_13 ew_13 hW_w_13 hP hD => ?_))
              have hv_w_13 := vw_uA hW_w_10 tX_63 ew_13 (z_ix (z_sub (t_sub ((In_dec (y := (-1)) (n := 1) (R_nle_l i_x6_5 (In_lit (n := 1) (by decide) (by decide) : In 1 1 1) c_7 (by decide) : In 2 64 x6_5) (by decide) (by decide)) : In 1 63 (x6_5 + (-1))) (In_lit (n := 1) (by decide) (by decide) : In 1 1 1) (by decide)) (z_add (t_add (R_nle_l i_x6_5 (In_lit (n := 1) (by decide) (by decide) : In 1 1 1) c_7 (by decide) : In 2 64 x6_5) (In_lit (n := (-1)) (by decide) (by decide) : In (-1) (-1) (-1)) (by decide)) (rfl : (x6_5 : Int32).toInt = _) (show ((-1) : Int32).toInt = (-1) from by decide)) (show (1 : Int32).toInt = 1 from by decide))) (rfl : (r_11 : Int32).toInt = _)
              exact J137 (x6_5 + (-1)) (v_4 &&& 15) w_13 _ _ ls hW_w_13 ((hM_w6.tr hs_w_10 (by decide)).sa ew_13 (by decide)) i_p2 (R_nle_l i_p3 i_x6_6 c_1 (by decide) : In 1 1000 p3) i_p4 (In_w ((In_dec (y := (-1)) (n := 1) (R_nle_l i_x6_5 (In_lit (n := 1) (by decide) (by decide) : In 1 1 1) c_7 (by decide) : In 2 64 x6_5) (by decide) (by decide)) : In 1 63 (x6_5 + (-1))) (by decide) : In 0 64 (x6_5 + (-1))) (R_nle_r i_p3 i_x6_6 c_1 (by decide) : In 0 999 x6_6) (In_w (R_ne_l (R_le_r (In_lit (n := 7) (by decide) (by decide) : In 7 7 7) ((In_and (n := 15) (by decide) (by decide)) : In 0 15 (v_4 &&& 15)) c_5 (by decide) : In 7 15 (v_4 &&& 15)) (In_lit (n := 7) (by decide) (by decide) : In 7 7 7) c_6 (by decide) : In 8 15 (v_4 &&& 15)) (by decide) : In 0 15 (v_4 &&& 15)) (In_of ((fI_cg (st_ne ew_13 (by decide))).trans ((hs_w_10.gI (by decide)).trans (hM_w6.gI (by decide)))) (In_of (hM_w6.gI (by decide)).symm g6_1_8)) (In_of ((fI_cg (st_ne ew_13 (by decide))).trans ((hs_w_10.gI (by decide)).trans (hM_w6.gI (by decide)))) (In_of (hM_w6.gI (by decide)).symm g6_42_2)) (fun n r t hk => (hmi_6 (n + 1) r t (rl_X5_value_1_6 (n := n) (And.intro (tyX hW_w6) (And.intro i_x6_2 (And.intro i_x6_3 (And.intro i_x6_4 (And.intro i_x6_5 (And.intro i_x6_6 (Or.inr (And.intro (z_nle c_1 (rfl : (p3 : Int32).toInt = _) (rfl : (x6_6 : Int32).toInt = _)) (Or.inl (And.intro (z_le c_5 (show (7 : Int32).toInt = 7 from by decide) (z_and (z_of ev_4 ((hW_w6.va tX_14 _).trans (congrArg (vw w6 14) (z_ix (rfl : (x6_6 : Int32).toInt = _))))) (show (15 : Int32).toInt = 15 from by decide))) (Or.inr (And.intro (z_neq c_6 (z_and (z_of ev_4 ((hW_w6.va tX_14 _).trans (congrArg (vw w6 14) (z_ix (rfl : (x6_6 : Int32).toInt = _))))) (show (15 : Int32).toInt = 15 from by decide)) (show (7 : Int32).toInt = 7 from by decide)) (Or.inr (And.intro (z_nle c_7 (rfl : (x6_5 : Int32).toInt = _) (show (1 : Int32).toInt = 1 from by decide)) (Exists.intro r_11.toInt (Exists.intro (vw w_10) (And.intro (cgM_3 hm_12 (z_and (z_of ev_4 ((hW_w6.va tX_14 _).trans (congrArg (vw w6 14) (z_ix (rfl : (x6_6 : Int32).toInt = _))))) (show (15 : Int32).toInt = 15 from by decide)) (z_of ev_8 ((hW_w6.va tX_63 _).trans (congrArg (vw w6 63) (z_ix (z_sub (t_sub ((In_dec (y := (-1)) (n := 1) (R_nle_l i_x6_5 (In_lit (n := 1) (by decide) (by decide) : In 1 1 1) c_7 (by decide) : In 2 64 x6_5) (by decide) (by decide)) : In 1 63 (x6_5 + (-1))) (In_lit (n := 1) (by decide) (by decide) : In 1 1 1) (by decide)) (z_add (t_add (R_nle_l i_x6_5 (In_lit (n := 1) (by decide) (by decide) : In 1 1 1) c_7 (by decide) : In 2 64 x6_5) (In_lit (n := (-1)) (by decide) (by decide) : In (-1) (-1) (-1)) (by decide)) (rfl : (x6_5 : Int32).toInt = _) (show ((-1) : Int32).toInt = (-1) from by decide)) (show (1 : Int32).toInt = 1 from by decide)))))) (z_of ev_9 ((hW_w6.va tX_63 _).trans (congrArg (vw w6 63) (z_ix (z_add (t_add (R_nle_l i_x6_5 (In_lit (n := 1) (by decide) (by decide) : In 1 1 1) c_7 (by decide) : In 2 64 x6_5) (In_lit (n := (-1)) (by decide) (by decide) : In (-1) (-1) (-1)) (by decide)) (rfl : (x6_5 : Int32).toInt = _) (show ((-1) : Int32).toInt = (-1) from by decide))))))) (And.intro (hs_w_10.Fr hW_w6 hW_w_10 intsX_ok intsX_ok) (And.intro (tyX hW_w_10) (Exists.intro (vw w_13) (And.intro hv_w_13 (cgK_6 hk (rfl : (p2 : Int32).toInt = _) (rfl : (p3 : Int32).toInt = _) (rfl : (p4 : Int32).toInt = _) (z_add (t_add (R_nle_l i_x6_5 (In_lit (n := 1) (by decide) (by decide) : In 1 1 1) c_7 (by decide) : In 2 64 x6_5) (In_lit (n := (-1)) (by decide) (by decide) : In (-1) (-1) (-1)) (by decide)) (rfl : (x6_5 : Int32).toInt = _) (show ((-1) : Int32).toInt = (-1) from by decide)) (rfl : (x6_6 : Int32).toInt = _) (z_and (z_of ev_4 ((hW_w6.va tX_14 _).trans (congrArg (vw w6 14) (z_ix (rfl : (x6_6 : Int32).toInt = _))))) (show (15 : Int32).toInt = 15 from by decide))))))))))))))))))))))))))) hP hD hS (lv_sub hl [2, 3, 4, 5, 6, 0, 7, 1] rfl)
          · refine lv_iload hx hb dX5_value_76 (lv_at hl 6 rfl) ?_
            refine lv_if_le (tgt := 137) hx hb dX5_value_78 (by decide) (fun c_14 => ?_) (fun c_14 => ?_)
            · exact J137 x6_5 (v_4 &&& 15) w6 _ _ ls hW_w6 hM_w6 i_p2 (R_nle_l i_p3 i_x6_6 c_1 (by decide) : In 1 1000 p3) i_p4 (In_w (R_le_l i_x6_5 (In_lit (n := 0) (by decide) (by decide) : In 0 0 0) c_14 (by decide) : In 0 0 x6_5) (by decide) : In 0 64 x6_5) (R_nle_r i_p3 i_x6_6 c_1 (by decide) : In 0 999 x6_6) (In_w (R_eq_l (R_le_r (In_lit (n := 7) (by decide) (by decide) : In 7 7 7) ((In_and (n := 15) (by decide) (by decide)) : In 0 15 (v_4 &&& 15)) c_5 (by decide) : In 7 15 (v_4 &&& 15)) (In_lit (n := 7) (by decide) (by decide) : In 7 7 7) c_6 (by decide) : In 7 7 (v_4 &&& 15)) (by decide) : In 0 15 (v_4 &&& 15)) (In_of (hM_w6.gI (by decide)) (In_of (hM_w6.gI (by decide)).symm g6_1_8)) (In_of (hM_w6.gI (by decide)) (In_of (hM_w6.gI (by decide)).symm g6_42_2)) (fun n r t hk => (hmi_6 (n + 1) r t (rl_X5_value_1_6 (n := n) (And.intro (tyX hW_w6) (And.intro i_x6_2 (And.intro i_x6_3 (And.intro i_x6_4 (And.intro i_x6_5 (And.intro i_x6_6 (Or.inr (And.intro (z_nle c_1 (rfl : (p3 : Int32).toInt = _) (rfl : (x6_6 : Int32).toInt = _)) (Or.inl (And.intro (z_le c_5 (show (7 : Int32).toInt = 7 from by decide) (z_and (z_of ev_4 ((hW_w6.va tX_14 _).trans (congrArg (vw w6 14) (z_ix (rfl : (x6_6 : Int32).toInt = _))))) (show (15 : Int32).toInt = 15 from by decide))) (Or.inl (And.intro (z_eq c_6 (z_and (z_of ev_4 ((hW_w6.va tX_14 _).trans (congrArg (vw w6 14) (z_ix (rfl : (x6_6 : Int32).toInt = _))))) (show (15 : Int32).toInt = 15 from by decide)) (show (7 : Int32).toInt = 7 from by decide)) (Or.inl (And.intro (z_le c_14 (rfl : (x6_5 : Int32).toInt = _) (show (0 : Int32).toInt = 0 from by decide)) (cgK_6 hk (rfl : (p2 : Int32).toInt = _) (rfl : (p3 : Int32).toInt = _) (rfl : (p4 : Int32).toInt = _) (rfl : (x6_5 : Int32).toInt = _) (rfl : (x6_6 : Int32).toInt = _) (z_and (z_of ev_4 ((hW_w6.va tX_14 _).trans (congrArg (vw w6 14) (z_ix (rfl : (x6_6 : Int32).toInt = _))))) (show (15 : Int32).toInt = 15 from by decide)))))))))))))))))))) hP hD hS (lv_sub hl [1, 2, 3, 4, 5, 6, 7, 0] rfl)
            · refine lv_aload_n hx hb dX5_value_81 rfl (lv_at hl 1 rfl) ?_
              refine gt_X5 hx hb hts hown hK hP 56 (hW_w6.o tX_56) 6 (by decide) wd_378 rfl (hW_w6.fr tX_56 rfl) dX5_value_82 ?_
              refine lv_iload hx hb dX5_value_85 (lv_at hl 6 rfl) ?_
              refine lv_iconst (v := 1) hx hb dX5_value_87 (by decide) ?_
              refine lv_isub hx hb dX5_value_88 ?_
              refine lv_dup2_11 hx hb dX5_value_89 rfl rfl ?_
              refine va_iald hx hb hK hP 63 0 (hW_w6.a tX_63) rfl (in_I ((In_sub (R_nle_l i_x6_5 (In_lit (n := 0) (by decide) (by decide) : In 0 0 0) c_14 (by decide) : In 1 64 x6_5) (In_lit (n := 1) (by decide) (by decide) : In 1 1 1) (by decide)) : In 0 63 (x6_5 - 1)) (by decide)) dX5_value_90 ?_
              refine lv_topi (fun v_15 ev_15 => ?_)
              refine lv_iload hx hb dX5_value_91 (lv_at hl 5 rfl) ?_
              refine lv_ixor hx hb dX5_value_93 ?_
              refine lv_topi (fun v_16 ev_16 => ?_)
              refine va_iast hx hb hK hP hD hS 63 0 (hW_w6.a tX_63) rfl (in_I ((In_sub (R_nle_l i_x6_5 (In_lit (n := 0) (by decide) (by decide) : In 0 0 0) c_14 (by decide) : In 1 64 x6_5) (In_lit (n := 1) (by decide) (by decide) : In 1 1 1) (by decide)) : In 0 63 (x6_5 - 1)) (by decide)) dX5_value_94 (fun H locs hP hD hS => fr_w (hW_w6.uA tX_63 (In_any v_16)) hP hD (fun w_17 ew_17 hW_w_17 hP hD => ?_))
              have hv_w_17 := vw_uA hW_w6 tX_63 ew_17 (z_ix (z_sub (t_sub (R_nle_l i_x6_5 (In_lit (n := 0) (by decide) (by decide) : In 0 0 0) c_14 (by decide) : In 1 64 x6_5) (In_lit (n := 1) (by decide) (by decide) : In 1 1 1) (by decide)) (rfl : (x6_5 : Int32).toInt = _) (show (1 : Int32).toInt = 1 from by decide))) (z_of ev_16 (z_xor (z_of ev_15 ((hW_w6.va tX_63 _).trans (congrArg (vw w6 63) (z_ix (z_sub (t_sub (R_nle_l i_x6_5 (In_lit (n := 0) (by decide) (by decide) : In 0 0 0) c_14 (by decide) : In 1 64 x6_5) (In_lit (n := 1) (by decide) (by decide) : In 1 1 1) (by decide)) (rfl : (x6_5 : Int32).toInt = _) (show (1 : Int32).toInt = 1 from by decide)))))) (rfl : (p4 : Int32).toInt = _)))
              refine lv_goto (tgt := 137) hx hb dX5_value_95 (by decide) ?_
              exact J137 x6_5 (v_4 &&& 15) w_17 _ _ ls hW_w_17 (hM_w6.sa ew_17 (by decide)) i_p2 (R_nle_l i_p3 i_x6_6 c_1 (by decide) : In 1 1000 p3) i_p4 (In_w (R_nle_l i_x6_5 (In_lit (n := 0) (by decide) (by decide) : In 0 0 0) c_14 (by decide) : In 1 64 x6_5) (by decide) : In 0 64 x6_5) (R_nle_r i_p3 i_x6_6 c_1 (by decide) : In 0 999 x6_6) (In_w (R_eq_l (R_le_r (In_lit (n := 7) (by decide) (by decide) : In 7 7 7) ((In_and (n := 15) (by decide) (by decide)) : In 0 15 (v_4 &&& 15)) c_5 (by decide) : In 7 15 (v_4 &&& 15)) (In_lit (n := 7) (by decide) (by decide) : In 7 7 7) c_6 (by decide) : In 7 7 (v_4 &&& 15)) (by decide) : In 0 15 (v_4 &&& 15)) (In_of ((fI_cg (st_ne ew_17 (by decide))).trans (hM_w6.gI (by decide))) (In_of (hM_w6.gI (by decide)).symm g6_1_8)) (In_of ((fI_cg (st_ne ew_17 (by decide))).trans (hM_w6.gI (by decide))) (In_of (hM_w6.gI (by decide)).symm g6_42_2)) (fun n r t hk => (hmi_6 (n + 1) r t (rl_X5_value_1_6 (n := n) (And.intro (tyX hW_w6) (And.intro i_x6_2 (And.intro i_x6_3 (And.intro i_x6_4 (And.intro i_x6_5 (And.intro i_x6_6 (Or.inr (And.intro (z_nle c_1 (rfl : (p3 : Int32).toInt = _) (rfl : (x6_6 : Int32).toInt = _)) (Or.inl (And.intro (z_le c_5 (show (7 : Int32).toInt = 7 from by decide) (z_and (z_of ev_4 ((hW_w6.va tX_14 _).trans (congrArg (vw w6 14) (z_ix (rfl : (x6_6 : Int32).toInt = _))))) (show (15 : Int32).toInt = 15 from by decide))) (Or.inl (And.intro (z_eq c_6 (z_and (z_of ev_4 ((hW_w6.va tX_14 _).trans (congrArg (vw w6 14) (z_ix (rfl : (x6_6 : Int32).toInt = _))))) (show (15 : Int32).toInt = 15 from by decide)) (show (7 : Int32).toInt = 7 from by decide)) (Or.inr (And.intro (z_nle c_14 (rfl : (x6_5 : Int32).toInt = _) (show (0 : Int32).toInt = 0 from by decide)) (Exists.intro (vw w_17) (And.intro hv_w_17 (cgK_6 hk (rfl : (p2 : Int32).toInt = _) (rfl : (p3 : Int32).toInt = _) (rfl : (p4 : Int32).toInt = _) (rfl : (x6_5 : Int32).toInt = _) (rfl : (x6_6 : Int32).toInt = _) (z_and (z_of ev_4 ((hW_w6.va tX_14 _).trans (congrArg (vw w6 14) (z_ix (rfl : (x6_6 : Int32).toInt = _))))) (show (15 : Int32).toInt = 15 from by decide)))))))))))))))))))))) hP hD hS (lv_sub hl [1, 2, 3, 4, 5, 6, 7, 0] rfl)
        · refine lv_iload hx hb dX5_value_31 (lv_at hl 6 rfl) ?_
          refine lv_bipush (v := 64) hx hb dX5_value_33 (by decide) ?_
          refine lv_icmp_ge (tgt := 137) hx hb dX5_value_35 (by decide) (fun c_18 => ?_) (fun c_18 => ?_)
          · exact J137 x6_5 (v_4 &&& 15) w6 _ _ ls hW_w6 hM_w6 i_p2 (R_nle_l i_p3 i_x6_6 c_1 (by decide) : In 1 1000 p3) i_p4 (In_w (R_le_r (In_lit (n := 64) (by decide) (by decide) : In 64 64 64) i_x6_5 c_18 (by decide) : In 64 64 x6_5) (by decide) : In 0 64 x6_5) (R_nle_r i_p3 i_x6_6 c_1 (by decide) : In 0 999 x6_6) (In_w (R_nle_r (In_lit (n := 7) (by decide) (by decide) : In 7 7 7) ((In_and (n := 15) (by decide) (by decide)) : In 0 15 (v_4 &&& 15)) c_5 (by decide) : In 0 6 (v_4 &&& 15)) (by decide) : In 0 15 (v_4 &&& 15)) (In_of (hM_w6.gI (by decide)) (In_of (hM_w6.gI (by decide)).symm g6_1_8)) (In_of (hM_w6.gI (by decide)) (In_of (hM_w6.gI (by decide)).symm g6_42_2)) (fun n r t hk => (hmi_6 (n + 1) r t (rl_X5_value_1_6 (n := n) (And.intro (tyX hW_w6) (And.intro i_x6_2 (And.intro i_x6_3 (And.intro i_x6_4 (And.intro i_x6_5 (And.intro i_x6_6 (Or.inr (And.intro (z_nle c_1 (rfl : (p3 : Int32).toInt = _) (rfl : (x6_6 : Int32).toInt = _)) (Or.inr (And.intro (z_nle c_5 (show (7 : Int32).toInt = 7 from by decide) (z_and (z_of ev_4 ((hW_w6.va tX_14 _).trans (congrArg (vw w6 14) (z_ix (rfl : (x6_6 : Int32).toInt = _))))) (show (15 : Int32).toInt = 15 from by decide))) (Or.inl (And.intro (z_le c_18 (show (64 : Int32).toInt = 64 from by decide) (rfl : (x6_5 : Int32).toInt = _)) (cgK_6 hk (rfl : (p2 : Int32).toInt = _) (rfl : (p3 : Int32).toInt = _) (rfl : (p4 : Int32).toInt = _) (rfl : (x6_5 : Int32).toInt = _) (rfl : (x6_6 : Int32).toInt = _) (z_and (z_of ev_4 ((hW_w6.va tX_14 _).trans (congrArg (vw w6 14) (z_ix (rfl : (x6_6 : Int32).toInt = _))))) (show (15 : Int32).toInt = 15 from by decide)))))))))))))))))) hP hD hS (lv_sub hl [1, 2, 3, 4, 5, 6, 7, 0] rfl)
          · refine lv_aload_n hx hb dX5_value_38 rfl (lv_at hl 1 rfl) ?_
            refine gt_X5 hx hb hts hown hK hP 56 (hW_w6.o tX_56) 6 (by decide) wd_378 rfl (hW_w6.fr tX_56 rfl) dX5_value_39 ?_
            refine lv_iload hx hb dX5_value_42 (lv_at hl 6 rfl) ?_
            refine lv_aload_n hx hb dX5_value_44 rfl (lv_at hl 1 rfl) ?_
            refine lv_aload_n hx hb dX5_value_45 rfl (lv_at hl 2 rfl) ?_
            refine lv_iload hx hb dX5_value_46 (lv_at hl 0 rfl) ?_
            refine lv_aload_n hx hb dX5_value_48 rfl (lv_at hl 2 rfl) ?_
            refine gt_X1 hx hb hts hown hK hP 1 (hW_w6.o tX_1) 16 (by decide) wd_85 rfl (hW_w6.fr tX_1 rfl) dX5_value_49 ?_
            refine lv_iload hx hb dX5_value_52 (lv_at hl 7 rfl) ?_
            refine va_iald hx hb hK hP 14 0 (hW_w6.a tX_14) rfl (in_I (R_nle_r i_p3 i_x6_6 c_1 (by decide) : In 0 999 x6_6) (by decide)) dX5_value_54 ?_
            refine tov (v := v_4) ((congrFun (hM_w6.hA (by decide)) _).trans ((congrFun (hM_w6.hA (by decide)) _).symm.trans ev_4.symm)) ?_
            refine lv_iconst (v := 4) hx hb dX5_value_55 (by decide) ?_
            refine lv_ishr hx hb dX5_value_56 ?_
            refine lv_topi (fun v_19 ev_19 => ?_)
            refine lv_iload hx hb dX5_value_57 (lv_at hl 5 rfl) ?_
            refine kW_i ⟨rfl, rfl⟩ hP hD hS hA (rW_V (As := [.ref (q 1), .int (v_4 &&& 15), .int v_19, .int p4]) (rest := [.int x6_5, .ref (q 63)]) hx hb hml hown hts hK hE hP hD (e_X5_leaf_1 l D cI cJ cZ q bb bs bp w6 hW_w6 (v_4 &&& 15) v_19 p4 (R_nle_r (In_lit (n := 7) (by decide) (by decide) : In 7 7 7) ((In_and (n := 15) (by decide) (by decide)) : In 0 15 (v_4 &&& 15)) c_5 (by decide) : In 0 6 (v_4 &&& 15)) i_p4 (In_of (hM_w6.gI (by decide)) (In_of (hM_w6.gI (by decide)).symm g6_1_8)) (In_of (hM_w6.gI (by decide)) (In_of (hM_w6.gI (by decide)).symm g6_42_2)) (okc_lf ev_19 ev_4 (hW_w6.ap tX_14 _)) _) ⟨⟨rfl, rfl⟩, rfl, rfl⟩ sv_X5_125 ⟨(Nat.le_trans (by decide) hR.1), (Nat.le_trans (by decide) hR.2)⟩ 56 5 (hW_w6.o tX_56) rfl rfl rfl hl.1 rfl (Nat.le_of_ble_eq_true rfl) dX5_value_59) (fun r_21 w_20 H locs hw_w_20 hP hD hS => ?_)
            obtain ⟨hW_w_20, hs_w_20, hm_22⟩ := hw_w_20
            refine va_iast hx hb hK hP hD hS 63 0 (hW_w_20.a tX_63) rfl (in_I (R_nle_r (In_lit (n := 64) (by decide) (by decide) : In 64 64 64) i_x6_5 c_18 (by decide) : In 0 63 x6_5) (by decide)) dX5_value_62 (fun H locs hP hD hS => fr_w (hW_w_20.uA tX_63 (In_any r_21)) hP hD (fun w_23 ew_23 hW_w_23 hP hD => ?_))
            have hv_w_23 := vw_uA hW_w_20 tX_63 ew_23 (z_ix (rfl : (x6_5 : Int32).toInt = _)) (rfl : (r_21 : Int32).toInt = _)
            refine lv_iinc (v := (x6_5 + 1)) (lv' := [(5, .int (x6_5 + 1)), (7, .int (v_4 &&& 15)), (0, .ref (q 56)), (1, .ref (q 1)), (2, .int p2), (3, .int p3), (4, .int p4), (6, .int x6_6)]) hx hb dX5_value_63 hl (k := 6) rfl (rfl) (by decide) rfl (fun ls hl => ?_)
            refine lv_goto (tgt := 137) hx hb dX5_value_66 (by decide) ?_
            exact J137 (x6_5 + 1) (v_4 &&& 15) w_23 _ _ ls hW_w_23 ((hM_w6.tr hs_w_20 (by decide)).sa ew_23 (by decide)) i_p2 (R_nle_l i_p3 i_x6_6 c_1 (by decide) : In 1 1000 p3) i_p4 (In_w ((In_add (y := 1) (R_nle_r (In_lit (n := 64) (by decide) (by decide) : In 64 64 64) i_x6_5 c_18 (by decide) : In 0 63 x6_5) (In_lit (n := 1) (by decide) (by decide) : In 1 1 1) (by decide)) : In 1 64 (x6_5 + 1)) (by decide) : In 0 64 (x6_5 + 1)) (R_nle_r i_p3 i_x6_6 c_1 (by decide) : In 0 999 x6_6) (In_w (R_nle_r (In_lit (n := 7) (by decide) (by decide) : In 7 7 7) ((In_and (n := 15) (by decide) (by decide)) : In 0 15 (v_4 &&& 15)) c_5 (by decide) : In 0 6 (v_4 &&& 15)) (by decide) : In 0 15 (v_4 &&& 15)) (In_of ((fI_cg (st_ne ew_23 (by decide))).trans ((hs_w_20.gI (by decide)).trans (hM_w6.gI (by decide)))) (In_of (hM_w6.gI (by decide)).symm g6_1_8)) (In_of ((fI_cg (st_ne ew_23 (by decide))).trans ((hs_w_20.gI (by decide)).trans (hM_w6.gI (by decide)))) (In_of (hM_w6.gI (by decide)).symm g6_42_2)) (fun n r t hk => (hmi_6 (n + 1) r t (rl_X5_value_1_6 (n := n) (And.intro (tyX hW_w6) (And.intro i_x6_2 (And.intro i_x6_3 (And.intro i_x6_4 (And.intro i_x6_5 (And.intro i_x6_6 (Or.inr (And.intro (z_nle c_1 (rfl : (p3 : Int32).toInt = _) (rfl : (x6_6 : Int32).toInt = _)) (Or.inr (And.intro (z_nle c_5 (show (7 : Int32).toInt = 7 from by decide) (z_and (z_of ev_4 ((hW_w6.va tX_14 _).trans (congrArg (vw w6 14) (z_ix (rfl : (x6_6 : Int32).toInt = _))))) (show (15 : Int32).toInt = 15 from by decide))) (Or.inr (And.intro (z_nle c_18 (show (64 : Int32).toInt = 64 from by decide) (rfl : (x6_5 : Int32).toInt = _)) (Exists.intro r_21.toInt (Exists.intro (vw w_20) (And.intro (cgM_3 hm_22 (z_and (z_of ev_4 ((hW_w6.va tX_14 _).trans (congrArg (vw w6 14) (z_ix (rfl : (x6_6 : Int32).toInt = _))))) (show (15 : Int32).toInt = 15 from by decide)) (z_of ev_19 (z_shr (z_of ev_4 ((hW_w6.va tX_14 _).trans (congrArg (vw w6 14) (z_ix (rfl : (x6_6 : Int32).toInt = _))))) (show (4 : Int32).toInt = 4 from by decide))) (rfl : (p4 : Int32).toInt = _)) (And.intro (hs_w_20.Fr hW_w6 hW_w_20 intsX_ok intsX_ok) (And.intro (tyX hW_w_20) (Exists.intro (vw w_23) (And.intro hv_w_23 (cgK_6 hk (rfl : (p2 : Int32).toInt = _) (rfl : (p3 : Int32).toInt = _) (rfl : (p4 : Int32).toInt = _) (z_add (t_add (R_nle_r (In_lit (n := 64) (by decide) (by decide) : In 64 64 64) i_x6_5 c_18 (by decide) : In 0 63 x6_5) (In_lit (n := 1) (by decide) (by decide) : In 1 1 1) (by decide)) (rfl : (x6_5 : Int32).toInt = _) (show (1 : Int32).toInt = 1 from by decide)) (rfl : (x6_6 : Int32).toInt = _) (z_and (z_of ev_4 ((hW_w6.va tX_14 _).trans (congrArg (vw w6 14) (z_ix (rfl : (x6_6 : Int32).toInt = _))))) (show (15 : Int32).toInt = 15 from by decide))))))))))))))))))))))))) hP hD hS (lv_sub hl [2, 3, 4, 5, 6, 0, 7, 1] rfl)
  refine lv_iconst (v := 0) hx hb dX5_value_0 (by decide) ?_
  refine lv_istore (lv' := [(5, .int 0), (0, .ref (q 56)), (1, .ref (q 1)), (2, .int p2), (3, .int p3), (4, .int p4)]) hx hb dX5_value_1 hl (by decide) rfl (fun ls hl => ?_)
  refine lv_iload_n hx hb dX5_value_3 rfl (lv_at hl 3 rfl) ?_
  refine lv_istore (lv' := [(6, .int p2), (5, .int 0), (0, .ref (q 56)), (1, .ref (q 1)), (2, .int p2), (3, .int p3), (4, .int p4)]) hx hb dX5_value_4 hl (by decide) rfl (fun ls hl => ?_)
  exact J6 _ 0 p2 w _ _ ls (Nat.lt_succ_self _) hW_w Sm.rf i_p2 i_p3 i_p4 (In_lit (n := 0) (by decide) (by decide) : In 0 64 0) i_p2 hf_1_8 hf_42_2 (fun n r t hk => (mk_X5_value_1 (n := n) (And.intro (tyX hW_w) (And.intro i_p2 (And.intro i_p3 (And.intro i_p4 (cgK_6 hk (rfl : (p2 : Int32).toInt = _) (rfl : (p3 : Int32).toInt = _) (rfl : (p4 : Int32).toInt = _) (show (0 : Int32).toInt = 0 from by decide) (rfl : (p2 : Int32).toInt = _) rfl))))))) hP hD hS (lv_sub hl [2, 3, 4, 5, 6, 1, 0] rfl)
set_option maxRecDepth 100000 in
set_option maxHeartbeats 8000000 in
theorem e_X5_obey_1 (l : Launch) (D : va_G) (cI cJ cZ : ClassId) (q : Nat → Nat) (bb bs bp : Nat) (w : va_W) (hW_w : HT q (TX q cI cJ cZ bb bs bp) w) (p2 : Int32) (p3 : Int32) (i_p2 : In 0 23 p2) (i_p3 : In 0 39 p3) (hf_1_8 : In 1 24 (fI w 1 8)) (hf_42_2 : In 1 40 (fI w 42 2)) : Con_v l yX5_obey cX5_obey 6 none ({ frames := 4, cells := 0, slots := 0, locals := 93 }) D cI cJ cZ eW [.ref (q 56), .ref (q 1), .int p2, .int p3] w (fun (w1 : va_W) => HT q (TX q cI cJ cZ bb bs bp) w1 ∧ Sm [57, 58, 59, 63] [] w w1 ∧ M_X5_obey_1 (vw w) p2.toInt p3.toInt 0 (vw w1)) := by
  refine eQ_v rfl (by decide) (Nat.le_of_ble_eq_true rfl) ⟨rfl, rfl⟩ ?_
  intro p e R s m args below meth c A Q hx hb hml hown hts hK hE hA hR hret hP hD hS ls hl
  have hown : s.vm.findClass RX5 = some m.cls := hown
  have hl : lv_has ls 6 [(0, .ref (q 56)), (1, .ref (q 1)), (2, .int p2), (3, .int p3)] := hl
  have J80 : ∀ (N : Nat) (x80_4 : Int32) (x80_5 : Int32) (w80 : va_W) (H : Heap) (locs : List Loc) (ls : Array Slot), (10 - x80_5.toInt).toNat < N → HT q (TX q cI cJ cZ bb bs bp) w80 → Sm [57, 58, 59, 63] [] w w80 → (In 0 23 p2) → (In 0 39 p3) → (In 0 10 x80_5) → (In 1 24 (fI w80 1 8)) → (In 1 40 (fI w80 42 2)) → (∀ (n : Nat) (r : Int) (t : PS), It_X5_obey_1 n 80 p2.toInt p3.toInt x80_4.toInt x80_5.toInt (vw w80) r t → M_X5_obey_1 (vw w) p2.toInt p3.toInt r t) → va_P D vwCl w80 H → va_D A w80 → va_S A s.heap H locs → lv_has ls 6 [(0, .ref (q 56)), (1, .ref (q 1)), (2, .int p2), (3, .int p3), (4, .int x80_4), (5, .int x80_5)] → W p l e R s m args below meth c H locs 0 0 Q (F0 m 80 ls []) := by
    intro N
    induction N with
    | zero => intro x80_4 x80_5 w80 H locs ls hmu; exact absurd hmu (Nat.not_lt_zero _)
    | succ N ih80 =>
      intro x80_4 x80_5 w80 H locs ls hmu80 hW_w80 hM_w80 i_x80_2 i_x80_3 i_x80_5 g80_1_8 g80_42_2 hmi_80 hP hD hS hl
      have J120 : ∀ (w120 : va_W) (H : Heap) (locs : List Loc) (ls : Array Slot), HT q (TX q cI cJ cZ bb bs bp) w120 → Sm [57, 58, 59, 63] [] w w120 → (In 0 23 p2) → (In 0 39 p3) → (In 0 9 x80_5) → (In 1 10 (fI w120 1 0)) → (In 1 24 (fI w120 1 8)) → (In 1 40 (fI w120 42 2)) → (∀ (n : Nat) (r : Int) (t : PS), It_X5_obey_1 n 120 p2.toInt p3.toInt x80_4.toInt x80_5.toInt (vw w120) r t → M_X5_obey_1 (vw w) p2.toInt p3.toInt r t) → va_P D vwCl w120 H → va_D A w120 → va_S A s.heap H locs → lv_has ls 6 [(0, .ref (q 56)), (1, .ref (q 1)), (2, .int p2), (3, .int p3), (4, .int x80_4), (5, .int x80_5)] → W p l e R s m args below meth c H locs 0 0 Q (F0 m 120 ls []) := by
        intro w120 H locs ls hW_w120 hM_w120 i_x120_2 i_x120_3 i_x120_5 g120_1_0 g120_1_8 g120_42_2 hmi_120 hP hD hS hl
        refine lv_iinc (v := (x80_5 + 1)) (lv' := [(5, .int (x80_5 + 1)), (0, .ref (q 56)), (1, .ref (q 1)), (2, .int p2), (3, .int p3), (4, .int x80_4)]) hx hb dX5_obey_120 hl (k := 5) rfl (rfl) (by decide) rfl (fun ls hl => ?_)
        refine lv_goto (tgt := 80) hx hb dX5_obey_123 (by decide) ?_
        exact ih80 x80_4 (x80_5 + 1) w120 _ _ ls (mu_inc hmu80 i_x120_5 (In_lit (n := 1) (by decide) (by decide) : In 1 1 1) (by decide)) hW_w120 hM_w120 i_p2 i_p3 (In_w ((In_add (y := 1) i_x120_5 (In_lit (n := 1) (by decide) (by decide) : In 1 1 1) (by decide)) : In 1 10 (x80_5 + 1)) (by decide) : In 0 10 (x80_5 + 1)) (In_of (hM_w120.gI (by decide)) (In_of (hM_w120.gI (by decide)).symm g120_1_8)) (In_of (hM_w120.gI (by decide)) (In_of (hM_w120.gI (by decide)).symm g120_42_2)) (fun n r t hk => (hmi_120 (n + 1) r t (rl_X5_obey_1_120 (n := n) (And.intro (tyX hW_w120) (And.intro i_x120_2 (And.intro i_x120_3 (And.intro i_x120_5 (cgK_4 hk (rfl : (p2 : Int32).toInt = _) (rfl : (p3 : Int32).toInt = _) (rfl : (x80_4 : Int32).toInt = _) (z_add (t_add i_x120_5 (In_lit (n := 1) (by decide) (by decide) : In 1 1 1) (by decide)) (rfl : (x80_5 : Int32).toInt = _) (show (1 : Int32).toInt = 1 from by decide)))))))))) hP hD hS (lv_sub hl [1, 2, 3, 4, 5, 0] rfl)
      refine lv_iload hx hb dX5_obey_80 (lv_at hl 5 rfl) ?_
      refine lv_aload_n hx hb dX5_obey_82 rfl (lv_at hl 1 rfl) ?_
      refine gt_X1 hx hb hts hown hK hP 1 (hW_w80.o tX_1) 0 (by decide) wd_36 rfl (hW_w80.fi tX_1 rfl) dX5_obey_83 ?_
      refine tov (v := (fI w 1 0)) (hM_w80.gI (by decide)) ?_
      refine lv_icmp_ge (tgt := 126) hx hb dX5_obey_86 (by decide) (fun c_1 => ?_) (fun c_1 => ?_)
      · exact hret _ _ _ _ _ hP hD hS dX5_obey_126 ⟨hW_w80, hM_w80, (hmi_80 (0 + 1) _ _ (rl_X5_obey_1_80 (n := 0) (And.intro (tyX hW_w80) (And.intro i_x80_2 (And.intro i_x80_3 (And.intro i_x80_5 (Or.inl (And.intro (z_le c_1 (z_of (hM_w80.gI (by decide)).symm (hW_w80.vi tX_1 rfl)) (rfl : (x80_5 : Int32).toInt = _)) (And.intro rfl rfl)))))))))⟩
      · refine lv_aload_n hx hb dX5_obey_89 rfl (lv_at hl 1 rfl) ?_
        refine gt_X1 hx hb hts hown hK hP 1 (hW_w80.o tX_1) 15 (by decide) wd_83 rfl (hW_w80.fr tX_1 rfl) dX5_obey_90 ?_
        refine lv_iload_n hx hb dX5_obey_93 rfl (lv_at hl 2 rfl) ?_
        refine va_iald hx hb hK hP 13 0 (hW_w80.a tX_13) rfl (in_I i_p2 (by decide)) dX5_obey_94 ?_
        refine lv_topi (fun v_2 ev_2 => ?_)
        refine lv_iload hx hb dX5_obey_95 (lv_at hl 5 rfl) ?_
        refine lv_ishr hx hb dX5_obey_97 ?_
        refine lv_topi (fun v_3 ev_3 => ?_)
        refine lv_iconst (v := 1) hx hb dX5_obey_98 (by decide) ?_
        refine lv_iand hx hb dX5_obey_99 ?_
        refine lv_if_eq (tgt := 120) hx hb dX5_obey_100 (by decide) (fun c_4 => ?_) (fun c_4 => ?_)
        · exact J120 w80 _ _ ls hW_w80 hM_w80 i_p2 i_p3 (R_nle_r (hW_w.fin tX_1 rfl : In 0 10 (fI w 1 0)) i_x80_5 c_1 (by decide) : In 0 9 x80_5) (In_of (hM_w80.gI (by decide)) (R_nle_l (hW_w.fin tX_1 rfl : In 0 10 (fI w 1 0)) i_x80_5 c_1 (by decide) : In 1 10 (fI w 1 0))) (In_of (hM_w80.gI (by decide)) (In_of (hM_w80.gI (by decide)).symm g80_1_8)) (In_of (hM_w80.gI (by decide)) (In_of (hM_w80.gI (by decide)).symm g80_42_2)) (fun n r t hk => (hmi_80 (n + 1) r t (rl_X5_obey_1_80 (n := n) (And.intro (tyX hW_w80) (And.intro i_x80_2 (And.intro i_x80_3 (And.intro i_x80_5 (Or.inr (And.intro (z_nle c_1 (z_of (hM_w80.gI (by decide)).symm (hW_w80.vi tX_1 rfl)) (rfl : (x80_5 : Int32).toInt = _)) (Or.inl (And.intro (z_eq c_4 (z_and (z_of ev_3 (z_shr (z_of ev_2 ((hW_w80.va tX_13 _).trans (congrArg (vw w80 13) (z_ix (rfl : (p2 : Int32).toInt = _))))) (rfl : (x80_5 : Int32).toInt = _))) (show (1 : Int32).toInt = 1 from by decide)) (show (0 : Int32).toInt = 0 from by decide)) (cgK_4 hk (rfl : (p2 : Int32).toInt = _) (rfl : (p3 : Int32).toInt = _) (rfl : (x80_4 : Int32).toInt = _) (rfl : (x80_5 : Int32).toInt = _))))))))))))) hP hD hS (lv_sub hl [0, 1, 2, 3, 4, 5] rfl)
        · refine lv_aload_n hx hb dX5_obey_103 rfl (lv_at hl 0 rfl) ?_
          refine gt_X5 hx hb hts hown hK hP 56 (hW_w80.o tX_56) 2 (by decide) wd_371 rfl (hW_w80.fr tX_56 rfl) dX5_obey_104 ?_
          refine lv_iload_n hx hb dX5_obey_107 rfl (lv_at hl 3 rfl) ?_
          refine lv_bipush (v := 10) hx hb dX5_obey_108 (by decide) ?_
          refine lv_imul hx hb dX5_obey_110 ?_
          refine lv_iload hx hb dX5_obey_111 (lv_at hl 5 rfl) ?_
          refine lv_iadd hx hb dX5_obey_113 ?_
          refine lv_dup2_11 hx hb dX5_obey_114 rfl rfl ?_
          refine va_iald hx hb hK hP 59 0 (hW_w80.a tX_59) rfl (in_I ((In_add ((In_mulr i_p3 (n := 10) (by decide) (by decide)) : In 0 390 (p3 * 10)) (R_nle_r (hW_w.fin tX_1 rfl : In 0 10 (fI w 1 0)) i_x80_5 c_1 (by decide) : In 0 9 x80_5) (by decide)) : In 0 399 ((p3 * 10) + x80_5)) (by decide)) dX5_obey_115 ?_
          refine lv_topi (fun v_5 ev_5 => ?_)
          refine lv_iload hx hb dX5_obey_116 (lv_at hl 4 rfl) ?_
          refine lv_iadd hx hb dX5_obey_118 ?_
          refine lv_topi (fun v_6 ev_6 => ?_)
          refine va_iast hx hb hK hP hD hS 59 0 (hW_w80.a tX_59) rfl (in_I ((In_add ((In_mulr i_p3 (n := 10) (by decide) (by decide)) : In 0 390 (p3 * 10)) (R_nle_r (hW_w.fin tX_1 rfl : In 0 10 (fI w 1 0)) i_x80_5 c_1 (by decide) : In 0 9 x80_5) (by decide)) : In 0 399 ((p3 * 10) + x80_5)) (by decide)) dX5_obey_119 (fun H locs hP hD hS => fr_w (hW_w80.uA tX_59 (In_any v_6)) hP hD (fun w_7 ew_7 hW_w_7 hP hD => ?_))
          have hv_w_7 := vw_uA hW_w80 tX_59 ew_7 (z_ix (z_add (t_add ((In_mulr i_p3 (n := 10) (by decide) (by decide)) : In 0 390 (p3 * 10)) (R_nle_r (hW_w.fin tX_1 rfl : In 0 10 (fI w 1 0)) i_x80_5 c_1 (by decide) : In 0 9 x80_5) (by decide)) (z_mul i_p3 (rfl : (p3 : Int32).toInt = _) (show (10 : Int32).toInt = 10 from by decide) (by decide)) (rfl : (x80_5 : Int32).toInt = _))) (z_of ev_6 (z_addw (z_of ev_5 ((hW_w80.va tX_59 _).trans (congrArg (vw w80 59) (z_ix (z_add (t_add ((In_mulr i_p3 (n := 10) (by decide) (by decide)) : In 0 390 (p3 * 10)) (R_nle_r (hW_w.fin tX_1 rfl : In 0 10 (fI w 1 0)) i_x80_5 c_1 (by decide) : In 0 9 x80_5) (by decide)) (z_mul i_p3 (rfl : (p3 : Int32).toInt = _) (show (10 : Int32).toInt = 10 from by decide) (by decide)) (rfl : (x80_5 : Int32).toInt = _)))))) (rfl : (x80_4 : Int32).toInt = _)))
          exact J120 w_7 _ _ ls hW_w_7 (hM_w80.sa ew_7 (by decide)) i_p2 i_p3 (R_nle_r (hW_w.fin tX_1 rfl : In 0 10 (fI w 1 0)) i_x80_5 c_1 (by decide) : In 0 9 x80_5) (In_of ((fI_cg (st_ne ew_7 (by decide))).trans (hM_w80.gI (by decide))) (R_nle_l (hW_w.fin tX_1 rfl : In 0 10 (fI w 1 0)) i_x80_5 c_1 (by decide) : In 1 10 (fI w 1 0))) (In_of ((fI_cg (st_ne ew_7 (by decide))).trans (hM_w80.gI (by decide))) (In_of (hM_w80.gI (by decide)).symm g80_1_8)) (In_of ((fI_cg (st_ne ew_7 (by decide))).trans (hM_w80.gI (by decide))) (In_of (hM_w80.gI (by decide)).symm g80_42_2)) (fun n r t hk => (hmi_80 (n + 1) r t (rl_X5_obey_1_80 (n := n) (And.intro (tyX hW_w80) (And.intro i_x80_2 (And.intro i_x80_3 (And.intro i_x80_5 (Or.inr (And.intro (z_nle c_1 (z_of (hM_w80.gI (by decide)).symm (hW_w80.vi tX_1 rfl)) (rfl : (x80_5 : Int32).toInt = _)) (Or.inr (And.intro (z_neq c_4 (z_and (z_of ev_3 (z_shr (z_of ev_2 ((hW_w80.va tX_13 _).trans (congrArg (vw w80 13) (z_ix (rfl : (p2 : Int32).toInt = _))))) (rfl : (x80_5 : Int32).toInt = _))) (show (1 : Int32).toInt = 1 from by decide)) (show (0 : Int32).toInt = 0 from by decide)) (Exists.intro (vw w_7) (And.intro hv_w_7 (cgK_4 hk (rfl : (p2 : Int32).toInt = _) (rfl : (p3 : Int32).toInt = _) (rfl : (x80_4 : Int32).toInt = _) (rfl : (x80_5 : Int32).toInt = _))))))))))))))) hP hD hS (lv_sub hl [0, 1, 2, 3, 4, 5] rfl)
  refine lv_aload_n hx hb dX5_obey_0 rfl (lv_at hl 1 rfl) ?_
  refine gt_X1 hx hb hts hown hK hP 1 (hW_w.o tX_1) 10 (by decide) wd_72 rfl (hW_w.fr tX_1 rfl) dX5_obey_1 ?_
  refine lv_iload_n hx hb dX5_obey_4 rfl (lv_at hl 2 rfl) ?_
  refine va_iald hx hb hK hP 8 0 (hW_w.a tX_8) rfl (in_I i_p2 (by decide)) dX5_obey_5 ?_
  refine lv_topi (fun v_8 ev_8 => ?_)
  refine lv_bipush (v := 6) hx hb dX5_obey_6 (by decide) ?_
  refine lv_icmp_ne (tgt := 29) hx hb dX5_obey_8 (by decide) (fun c_9 => ?_) (fun c_9 => ?_)
  · refine lv_aload_n hx hb dX5_obey_29 rfl (lv_at hl 0 rfl) ?_
    refine lv_aload_n hx hb dX5_obey_30 rfl (lv_at hl 1 rfl) ?_
    refine lv_aload_n hx hb dX5_obey_31 rfl (lv_at hl 1 rfl) ?_
    refine gt_X1 hx hb hts hown hK hP 1 (hW_w.o tX_1) 11 (by decide) wd_74 rfl (hW_w.fr tX_1 rfl) dX5_obey_32 ?_
    refine lv_iload_n hx hb dX5_obey_35 rfl (lv_at hl 2 rfl) ?_
    refine va_iald hx hb hK hP 9 0 (hW_w.a tX_9) rfl (in_I i_p2 (by decide)) dX5_obey_36 ?_
    refine lv_topi (fun v_10 ev_10 => ?_)
    refine lv_aload_n hx hb dX5_obey_37 rfl (lv_at hl 1 rfl) ?_
    refine gt_X1 hx hb hts hown hK hP 1 (hW_w.o tX_1) 12 (by decide) wd_77 rfl (hW_w.fr tX_1 rfl) dX5_obey_38 ?_
    refine lv_iload_n hx hb dX5_obey_41 rfl (lv_at hl 2 rfl) ?_
    refine va_iald hx hb hK hP 10 0 (hW_w.a tX_10) rfl (in_I i_p2 (by decide)) dX5_obey_42 ?_
    refine lv_topi (fun v_11 ev_11 => ?_)
    refine lv_iconst (v := 1) hx hb dX5_obey_43 (by decide) ?_
    refine kW_i ⟨rfl, rfl⟩ hP hD hS hA (rW_V (As := [.ref (q 1), .int v_10, .int v_11, .int 1]) (rest := []) hx hb hml hown hts hK hE hP hD (e_X5_value_1 l D cI cJ cZ q bb bs bp w hW_w v_10 v_11 1 (In_of ev_10 (hW_w.ap tX_9 _) : In 0 1000 v_10) (In_of ev_11 (hW_w.ap tX_10 _) : In 0 1000 v_11) (In_lit (n := 1) (by decide) (by decide) : In 1 1 1) hf_1_8 hf_42_2 _) ⟨⟨rfl, rfl⟩, rfl, rfl⟩ sv_X5_51 ⟨(Nat.le_trans (by decide) hR.1), (Nat.le_trans (by decide) hR.2)⟩ 56 5 (hW_w.o tX_56) rfl rfl rfl hl.1 rfl (Nat.le_of_ble_eq_true rfl) dX5_obey_44) (fun r_13 w_12 H locs hw_w_12 hP hD hS => ?_)
    obtain ⟨hW_w_12, hs_w_12, hm_14⟩ := hw_w_12
    refine lv_istore (lv' := [(4, .int r_13), (0, .ref (q 56)), (1, .ref (q 1)), (2, .int p2), (3, .int p3)]) hx hb dX5_obey_47 hl (by decide) rfl (fun ls hl => ?_)
    refine lv_aload_n hx hb dX5_obey_49 rfl (lv_at hl 2 rfl) ?_
    refine gt_X1 hx hb hts hown hK hP 1 (hW_w_12.o tX_1) 10 (by decide) wd_72 rfl (hW_w_12.fr tX_1 rfl) dX5_obey_50 ?_
    refine lv_iload_n hx hb dX5_obey_53 rfl (lv_at hl 3 rfl) ?_
    refine va_iald hx hb hK hP 8 0 (hW_w_12.a tX_8) rfl (in_I i_p2 (by decide)) dX5_obey_54 ?_
    refine tov (v := v_8) ((congrFun (hs_w_12.hA (by decide)) _).trans ev_8.symm) ?_
    refine lv_bipush (v := 10) hx hb dX5_obey_55 (by decide) ?_
    refine lv_icmp_ne (tgt := 77) hx hb dX5_obey_57 (by decide) (fun c_15 => ?_) (fun c_15 => ?_)
    · refine lv_iconst (v := 0) hx hb dX5_obey_77 (by decide) ?_
      refine lv_istore (lv' := [(5, .int 0), (4, .int r_13), (0, .ref (q 56)), (1, .ref (q 1)), (2, .int p2), (3, .int p3)]) hx hb dX5_obey_78 hl (by decide) rfl (fun ls hl => ?_)
      exact J80 _ r_13 0 w_12 _ _ ls (Nat.lt_succ_self _) hW_w_12 (Sm.rf.tr hs_w_12 (by decide)) i_p2 i_p3 (In_lit (n := 0) (by decide) (by decide) : In 0 10 0) (In_of (hs_w_12.gI (by decide)) hf_1_8) (In_of (hs_w_12.gI (by decide)) hf_42_2) (fun n r t hk => (mk_X5_obey_1 (n := n) (And.intro (tyX hW_w) (And.intro i_p2 (And.intro i_p3 (Or.inr (And.intro (z_neq c_9 (z_of ev_8 ((hW_w.va tX_8 _).trans (congrArg (vw w 8) (z_ix (rfl : (p2 : Int32).toInt = _))))) (show (6 : Int32).toInt = 6 from by decide)) (Exists.intro r_13.toInt (Exists.intro (vw w_12) (And.intro (cgM_3 hm_14 (z_of ev_10 ((hW_w.va tX_9 _).trans (congrArg (vw w 9) (z_ix (rfl : (p2 : Int32).toInt = _))))) (z_of ev_11 ((hW_w.va tX_10 _).trans (congrArg (vw w 10) (z_ix (rfl : (p2 : Int32).toInt = _))))) (show (1 : Int32).toInt = 1 from by decide)) (And.intro (hs_w_12.Fr hW_w hW_w_12 intsX_ok intsX_ok) (And.intro (tyX hW_w_12) (Or.inr (And.intro (z_neq c_15 (z_of ev_8 ((hW_w.va tX_8 _).trans (congrArg (vw w 8) (z_ix (rfl : (p2 : Int32).toInt = _))))) (show (10 : Int32).toInt = 10 from by decide)) (cgK_4 hk (rfl : (p2 : Int32).toInt = _) (rfl : (p3 : Int32).toInt = _) (rfl : (r_13 : Int32).toInt = _) (show (0 : Int32).toInt = 0 from by decide)))))))))))))))) hP hD hS (lv_sub hl [2, 3, 4, 5, 1, 0] rfl)
    · refine lv_aload_n hx hb dX5_obey_60 rfl (lv_at hl 1 rfl) ?_
      refine gt_X5 hx hb hts hown hK hP 56 (hW_w_12.o tX_56) 0 (by decide) wd_363 rfl (hW_w_12.fr tX_56 rfl) dX5_obey_61 ?_
      refine lv_iload_n hx hb dX5_obey_64 rfl (lv_at hl 4 rfl) ?_
      refine lv_iconst (v := 0) hx hb dX5_obey_65 (by decide) ?_
      refine lv_iconst (v := 3) hx hb dX5_obey_66 (by decide) ?_
      refine lv_iload hx hb dX5_obey_67 (lv_at hl 0 rfl) ?_
      refine va_mmin hx hb (by rw [hml]; exact hl.1.symm) hown (hts _ wd_1046) (hts _ wd_757) (hts _ wd_18) (hts _ wd_758) (Nat.le_trans (by decide) hR.1) (Nat.le_trans (Nat.le_of_ble_eq_true rfl) hR.2) (Nat.zero_le _) (Nat.zero_le _) dX5_obey_69 ?_
      refine lv_topi (fun v_16 ev_16 => ?_)
      refine va_mmax hx hb (by rw [hml]; exact hl.1.symm) hown (hts _ wd_1047) (hts _ wd_999) (hts _ wd_18) (hts _ wd_1000) (Nat.le_trans (by decide) hR.1) (Nat.le_trans (Nat.le_of_ble_eq_true rfl) hR.2) (Nat.zero_le _) (Nat.zero_le _) dX5_obey_72 ?_
      refine lv_topi (fun v_17 ev_17 => ?_)
      refine va_iast hx hb hK hP hD hS 57 0 (hW_w_12.a tX_57) rfl (in_I i_p3 (by decide)) dX5_obey_75 (fun H locs hP hD hS => fr_w (hW_w_12.uA tX_57 (In_w (In_of ev_17 (In_max (In_lit (n := 0) (by decide) (by decide) : In 0 0 0) (In_of ev_16 (In_min (In_lit (n := 3) (by decide) (by decide) : In 3 3 3) (In_any r_13) (by decide)) : In (-2147483648) 3 v_16) (by decide)) : In 0 3 v_17) (by decide) : In (-2147483648) 2147483647 v_17)) hP hD (fun w_18 ew_18 hW_w_18 hP hD => ?_))
      have hv_w_18 := vw_uA hW_w_12 tX_57 ew_18 (z_ix (rfl : (p3 : Int32).toInt = _)) (z_of ev_17 (z_max (show (0 : Int32).toInt = 0 from by decide) (z_of ev_16 (z_min (show (3 : Int32).toInt = 3 from by decide) (rfl : (r_13 : Int32).toInt = _)))))
      exact hret _ _ _ _ _ hP hD hS dX5_obey_76 ⟨hW_w_18, ((Sm.rf.tr hs_w_12 (by decide)).sa ew_18 (by decide)), (mk_X5_obey_1 (n := 0) (And.intro (tyX hW_w) (And.intro i_p2 (And.intro i_p3 (Or.inr (And.intro (z_neq c_9 (z_of ev_8 ((hW_w.va tX_8 _).trans (congrArg (vw w 8) (z_ix (rfl : (p2 : Int32).toInt = _))))) (show (6 : Int32).toInt = 6 from by decide)) (Exists.intro r_13.toInt (Exists.intro (vw w_12) (And.intro (cgM_3 hm_14 (z_of ev_10 ((hW_w.va tX_9 _).trans (congrArg (vw w 9) (z_ix (rfl : (p2 : Int32).toInt = _))))) (z_of ev_11 ((hW_w.va tX_10 _).trans (congrArg (vw w 10) (z_ix (rfl : (p2 : Int32).toInt = _))))) (show (1 : Int32).toInt = 1 from by decide)) (And.intro (hs_w_12.Fr hW_w hW_w_12 intsX_ok intsX_ok) (And.intro (tyX hW_w_12) (Or.inl (And.intro (z_eq c_15 (z_of ev_8 ((hW_w.va tX_8 _).trans (congrArg (vw w 8) (z_ix (rfl : (p2 : Int32).toInt = _))))) (show (10 : Int32).toInt = 10 from by decide)) (Exists.intro (vw w_18) (And.intro hv_w_18 (And.intro rfl rfl))))))))))))))))⟩
  · refine lv_aload_n hx hb dX5_obey_11 rfl (lv_at hl 0 rfl) ?_
    refine gt_X5 hx hb hts hown hK hP 56 (hW_w.o tX_56) 1 (by decide) wd_367 rfl (hW_w.fr tX_56 rfl) dX5_obey_12 ?_
    refine lv_iload_n hx hb dX5_obey_15 rfl (lv_at hl 3 rfl) ?_
    refine lv_dup2_11 hx hb dX5_obey_16 rfl rfl ?_
    refine va_iald hx hb hK hP 58 0 (hW_w.a tX_58) rfl (in_I i_p3 (by decide)) dX5_obey_17 ?_
    refine lv_topi (fun v_19 ev_19 => ?_)
    refine lv_aload_n hx hb dX5_obey_18 rfl (lv_at hl 1 rfl) ?_
    refine gt_X1 hx hb hts hown hK hP 1 (hW_w.o tX_1) 15 (by decide) wd_83 rfl (hW_w.fr tX_1 rfl) dX5_obey_19 ?_
    refine lv_iload_n hx hb dX5_obey_22 rfl (lv_at hl 2 rfl) ?_
    refine va_iald hx hb hK hP 13 0 (hW_w.a tX_13) rfl (in_I i_p2 (by decide)) dX5_obey_23 ?_
    refine lv_topi (fun v_20 ev_20 => ?_)
    refine lv_iconst (v := (-1)) hx hb dX5_obey_24 (by decide) ?_
    refine lv_ixor hx hb dX5_obey_25 ?_
    refine lv_topi (fun v_21 ev_21 => ?_)
    refine lv_iand hx hb dX5_obey_26 ?_
    refine lv_topi (fun v_22 ev_22 => ?_)
    refine va_iast hx hb hK hP hD hS 58 0 (hW_w.a tX_58) rfl (in_I i_p3 (by decide)) dX5_obey_27 (fun H locs hP hD hS => fr_w (hW_w.uA tX_58 (In_any v_22)) hP hD (fun w_23 ew_23 hW_w_23 hP hD => ?_))
    have hv_w_23 := vw_uA hW_w tX_58 ew_23 (z_ix (rfl : (p3 : Int32).toInt = _)) (z_of ev_22 (z_and (z_of ev_19 ((hW_w.va tX_58 _).trans (congrArg (vw w 58) (z_ix (rfl : (p3 : Int32).toInt = _))))) (z_of ev_21 (z_xor (z_of ev_20 ((hW_w.va tX_13 _).trans (congrArg (vw w 13) (z_ix (rfl : (p2 : Int32).toInt = _))))) (show ((-1) : Int32).toInt = (-1) from by decide)))))
    exact hret _ _ _ _ _ hP hD hS dX5_obey_28 ⟨hW_w_23, (Sm.rf.sa ew_23 (by decide)), (mk_X5_obey_1 (n := 0) (And.intro (tyX hW_w) (And.intro i_p2 (And.intro i_p3 (Or.inl (And.intro (z_eq c_9 (z_of ev_8 ((hW_w.va tX_8 _).trans (congrArg (vw w 8) (z_ix (rfl : (p2 : Int32).toInt = _))))) (show (6 : Int32).toInt = 6 from by decide)) (Exists.intro (vw w_23) (And.intro hv_w_23 (And.intro rfl rfl)))))))))⟩
set_option maxRecDepth 100000 in
set_option maxHeartbeats 8000000 in
theorem e_X5_weigh_1_42 (l : Launch) (D : va_G) (cI cJ cZ : ClassId) (q : Nat → Nat) (bb bs bp : Nat) (w : va_W) (hW_w : HT q (TX q cI cJ cZ bb bs bp) w) (p3 : Int32) (i_p3 : In 0 39 p3) (hf_42_2 : In 1 40 (fI w 42 2)) : Con_v l yX5_weigh cX5_weigh 5 none ({ frames := 5, cells := 0, slots := 0, locals := 118 }) D cI cJ cZ eW [.ref (q 56), .ref (q 1), .ref (q 42), .int p3] w (fun (w1 : va_W) => HT q (TX q cI cJ cZ bb bs bp) w1 ∧ Sm [57, 58, 59, 60, 61, 62, 63] [] w w1 ∧ M_X5_weigh_1_42 (vw w) p3.toInt 0 (vw w1)) := by
  refine eQ_v rfl (by decide) (Nat.le_of_ble_eq_true rfl) ⟨rfl, rfl⟩ ?_
  intro p e R s m args below meth c A Q hx hb hml hown hts hK hE hA hR hret hP hD hS ls hl
  have hown : s.vm.findClass RX5 = some m.cls := hown
  have hl : lv_has ls 5 [(0, .ref (q 56)), (1, .ref (q 1)), (2, .ref (q 42)), (3, .int p3)] := hl
  have J117 : ∀ (N : Nat) (x117_4 : Int32) (w117 : va_W) (H : Heap) (locs : List Loc) (ls : Array Slot), (24 - x117_4.toInt).toNat < N → HT q (TX q cI cJ cZ bb bs bp) w117 → Sm [57, 58, 59, 60, 61, 62, 63] [] w w117 → (In 0 39 p3) → (In 0 24 x117_4) → (In 1 40 (fI w117 42 2)) → (∀ (n : Nat) (r : Int) (t : PS), It_X5_weigh_1_42 n 117 p3.toInt x117_4.toInt (vw w117) r t → M_X5_weigh_1_42 (vw w) p3.toInt r t) → va_P D vwCl w117 H → va_D A w117 → va_S A s.heap H locs → lv_has ls 5 [(0, .ref (q 56)), (1, .ref (q 1)), (2, .ref (q 42)), (3, .int p3), (4, .int x117_4)] → W p l e R s m args below meth c H locs 0 0 Q (F0 m 117 ls []) := by
    intro N
    induction N with
    | zero => intro x117_4 w117 H locs ls hmu; exact absurd hmu (Nat.not_lt_zero _)
    | succ N ih117 =>
      intro x117_4 w117 H locs ls hmu117 hW_w117 hM_w117 i_x117_3 i_x117_4 g117_42_2 hmi_117 hP hD hS hl
      have J169 : ∀ (w169 : va_W) (H : Heap) (locs : List Loc) (ls : Array Slot), HT q (TX q cI cJ cZ bb bs bp) w169 → Sm [57, 58, 59, 60, 61, 62, 63] [] w w169 → (In 0 39 p3) → (In 0 23 x117_4) → (In 1 24 (fI w169 1 8)) → (In 1 40 (fI w169 42 2)) → (∀ (n : Nat) (r : Int) (t : PS), It_X5_weigh_1_42 n 169 p3.toInt x117_4.toInt (vw w169) r t → M_X5_weigh_1_42 (vw w) p3.toInt r t) → va_P D vwCl w169 H → va_D A w169 → va_S A s.heap H locs → lv_has ls 5 [(0, .ref (q 56)), (1, .ref (q 1)), (2, .ref (q 42)), (3, .int p3), (4, .int x117_4)] → W p l e R s m args below meth c H locs 0 0 Q (F0 m 169 ls []) := by
        intro w169 H locs ls hW_w169 hM_w169 i_x169_3 i_x169_4 g169_1_8 g169_42_2 hmi_169 hP hD hS hl
        refine lv_iinc (v := (x117_4 + 1)) (lv' := [(4, .int (x117_4 + 1)), (0, .ref (q 56)), (1, .ref (q 1)), (2, .ref (q 42)), (3, .int p3)]) hx hb dX5_weigh_169 hl (k := 4) rfl (rfl) (by decide) rfl (fun ls hl => ?_)
        refine lv_goto (tgt := 117) hx hb dX5_weigh_172 (by decide) ?_
        exact ih117 (x117_4 + 1) w169 _ _ ls (mu_inc hmu117 i_x169_4 (In_lit (n := 1) (by decide) (by decide) : In 1 1 1) (by decide)) hW_w169 hM_w169 i_p3 (In_w ((In_add (y := 1) i_x169_4 (In_lit (n := 1) (by decide) (by decide) : In 1 1 1) (by decide)) : In 1 24 (x117_4 + 1)) (by decide) : In 0 24 (x117_4 + 1)) (In_of (hM_w169.gI (by decide)) (In_of (hM_w169.gI (by decide)).symm g169_42_2)) (fun n r t hk => (hmi_169 (n + 1) r t (rl_X5_weigh_1_42_169 (n := n) (And.intro (tyX hW_w169) (And.intro i_x169_3 (And.intro i_x169_4 (cgK_2 hk (rfl : (p3 : Int32).toInt = _) (z_add (t_add i_x169_4 (In_lit (n := 1) (by decide) (by decide) : In 1 1 1) (by decide)) (rfl : (x117_4 : Int32).toInt = _) (show (1 : Int32).toInt = 1 from by decide))))))))) hP hD hS (lv_sub hl [1, 2, 3, 4, 0] rfl)
      refine lv_iload hx hb dX5_weigh_117 (lv_at hl 4 rfl) ?_
      refine lv_aload_n hx hb dX5_weigh_119 rfl (lv_at hl 1 rfl) ?_
      refine gt_X1 hx hb hts hown hK hP 1 (hW_w117.o tX_1) 8 (by decide) wd_64 rfl (hW_w117.fi tX_1 rfl) dX5_weigh_120 ?_
      refine tov (v := (fI w 1 8)) (hM_w117.gI (by decide)) ?_
      refine lv_icmp_ge (tgt := 175) hx hb dX5_weigh_123 (by decide) (fun c_1 => ?_) (fun c_1 => ?_)
      · exact hret _ _ _ _ _ hP hD hS dX5_weigh_175 ⟨hW_w117, hM_w117, (hmi_117 (0 + 1) _ _ (rl_X5_weigh_1_42_117 (n := 0) (And.intro (tyX hW_w117) (And.intro i_x117_3 (And.intro i_x117_4 (Or.inl (And.intro (z_le c_1 (z_of (hM_w117.gI (by decide)).symm (hW_w117.vi tX_1 rfl)) (rfl : (x117_4 : Int32).toInt = _)) (And.intro rfl rfl))))))))⟩
      · refine lv_aload_n hx hb dX5_weigh_126 rfl (lv_at hl 1 rfl) ?_
        refine gt_X1 hx hb hts hown hK hP 1 (hW_w117.o tX_1) 10 (by decide) wd_72 rfl (hW_w117.fr tX_1 rfl) dX5_weigh_127 ?_
        refine lv_iload hx hb dX5_weigh_130 (lv_at hl 4 rfl) ?_
        refine va_iald hx hb hK hP 8 0 (hW_w117.a tX_8) rfl (in_I (R_nle_r (hW_w.fin tX_1 rfl : In 0 24 (fI w 1 8)) i_x117_4 c_1 (by decide) : In 0 23 x117_4) (by decide)) dX5_weigh_132 ?_
        refine lv_topi (fun v_2 ev_2 => ?_)
        refine lv_bipush (v := 11) hx hb dX5_weigh_133 (by decide) ?_
        refine lv_icmp_eq (tgt := 169) hx hb dX5_weigh_135 (by decide) (fun c_3 => ?_) (fun c_3 => ?_)
        · exact J169 w117 _ _ ls hW_w117 hM_w117 i_p3 (R_nle_r (hW_w.fin tX_1 rfl : In 0 24 (fI w 1 8)) i_x117_4 c_1 (by decide) : In 0 23 x117_4) (In_of (hM_w117.gI (by decide)) (R_nle_l (hW_w.fin tX_1 rfl : In 0 24 (fI w 1 8)) i_x117_4 c_1 (by decide) : In 1 24 (fI w 1 8))) (In_of (hM_w117.gI (by decide)) (In_of (hM_w117.gI (by decide)).symm g117_42_2)) (fun n r t hk => (hmi_117 (n + 1) r t (rl_X5_weigh_1_42_117 (n := n) (And.intro (tyX hW_w117) (And.intro i_x117_3 (And.intro i_x117_4 (Or.inr (And.intro (z_nle c_1 (z_of (hM_w117.gI (by decide)).symm (hW_w117.vi tX_1 rfl)) (rfl : (x117_4 : Int32).toInt = _)) (Or.inl (And.intro (z_eq c_3 (z_of ev_2 ((hW_w117.va tX_8 _).trans (congrArg (vw w117 8) (z_ix (rfl : (x117_4 : Int32).toInt = _))))) (show (11 : Int32).toInt = 11 from by decide)) (cgK_2 hk (rfl : (p3 : Int32).toInt = _) (rfl : (x117_4 : Int32).toInt = _)))))))))))) hP hD hS (lv_sub hl [0, 1, 2, 3, 4] rfl)
        · refine lv_aload_n hx hb dX5_weigh_138 rfl (lv_at hl 0 rfl) ?_
          refine lv_aload_n hx hb dX5_weigh_139 rfl (lv_at hl 1 rfl) ?_
          refine lv_aload_n hx hb dX5_weigh_140 rfl (lv_at hl 1 rfl) ?_
          refine gt_X1 hx hb hts hown hK hP 1 (hW_w117.o tX_1) 13 (by decide) wd_79 rfl (hW_w117.fr tX_1 rfl) dX5_weigh_141 ?_
          refine lv_iload hx hb dX5_weigh_144 (lv_at hl 4 rfl) ?_
          refine va_iald hx hb hK hP 11 0 (hW_w117.a tX_11) rfl (in_I (R_nle_r (hW_w.fin tX_1 rfl : In 0 24 (fI w 1 8)) i_x117_4 c_1 (by decide) : In 0 23 x117_4) (by decide)) dX5_weigh_146 ?_
          refine lv_topi (fun v_4 ev_4 => ?_)
          refine lv_aload_n hx hb dX5_weigh_147 rfl (lv_at hl 1 rfl) ?_
          refine gt_X1 hx hb hts hown hK hP 1 (hW_w117.o tX_1) 14 (by decide) wd_81 rfl (hW_w117.fr tX_1 rfl) dX5_weigh_148 ?_
          refine lv_iload hx hb dX5_weigh_151 (lv_at hl 4 rfl) ?_
          refine va_iald hx hb hK hP 12 0 (hW_w117.a tX_12) rfl (in_I (R_nle_r (hW_w.fin tX_1 rfl : In 0 24 (fI w 1 8)) i_x117_4 c_1 (by decide) : In 0 23 x117_4) (by decide)) dX5_weigh_153 ?_
          refine lv_topi (fun v_5 ev_5 => ?_)
          refine lv_iconst (v := 1) hx hb dX5_weigh_154 (by decide) ?_
          refine kW_i ⟨rfl, rfl⟩ hP hD hS hA (rW_V (As := [.ref (q 1), .int v_4, .int v_5, .int 1]) (rest := []) hx hb hml hown hts hK hE hP hD (e_X5_value_1 l D cI cJ cZ q bb bs bp w117 hW_w117 v_4 v_5 1 (In_of ev_4 (hW_w117.ap tX_11 _) : In 0 1000 v_4) (In_of ev_5 (hW_w117.ap tX_12 _) : In 0 1000 v_5) (In_lit (n := 1) (by decide) (by decide) : In 1 1 1) (In_of (hM_w117.gI (by decide)) (R_nle_l (hW_w.fin tX_1 rfl : In 0 24 (fI w 1 8)) i_x117_4 c_1 (by decide) : In 1 24 (fI w 1 8))) (In_of (hM_w117.gI (by decide)) (In_of (hM_w117.gI (by decide)).symm g117_42_2)) _) ⟨⟨rfl, rfl⟩, rfl, rfl⟩ sv_X5_51 ⟨(Nat.le_trans (by decide) hR.1), (Nat.le_trans (by decide) hR.2)⟩ 56 5 (hW_w117.o tX_56) rfl rfl rfl hl.1 rfl (Nat.le_of_ble_eq_true rfl) dX5_weigh_155) (fun r_7 w_6 H locs hw_w_6 hP hD hS => ?_)
          obtain ⟨hW_w_6, hs_w_6, hm_8⟩ := hw_w_6
          refine lv_if_eq (tgt := 169) hx hb dX5_weigh_158 (by decide) (fun c_9 => ?_) (fun c_9 => ?_)
          · exact J169 w_6 _ _ ls hW_w_6 (hM_w117.tr hs_w_6 (by decide)) i_p3 (R_nle_r (hW_w.fin tX_1 rfl : In 0 24 (fI w 1 8)) i_x117_4 c_1 (by decide) : In 0 23 x117_4) (In_of ((hs_w_6.gI (by decide)).trans (hM_w117.gI (by decide))) (R_nle_l (hW_w.fin tX_1 rfl : In 0 24 (fI w 1 8)) i_x117_4 c_1 (by decide) : In 1 24 (fI w 1 8))) (In_of ((hs_w_6.gI (by decide)).trans (hM_w117.gI (by decide))) (In_of (hM_w117.gI (by decide)).symm g117_42_2)) (fun n r t hk => (hmi_117 (n + 1) r t (rl_X5_weigh_1_42_117 (n := n) (And.intro (tyX hW_w117) (And.intro i_x117_3 (And.intro i_x117_4 (Or.inr (And.intro (z_nle c_1 (z_of (hM_w117.gI (by decide)).symm (hW_w117.vi tX_1 rfl)) (rfl : (x117_4 : Int32).toInt = _)) (Or.inr (And.intro (z_neq c_3 (z_of ev_2 ((hW_w117.va tX_8 _).trans (congrArg (vw w117 8) (z_ix (rfl : (x117_4 : Int32).toInt = _))))) (show (11 : Int32).toInt = 11 from by decide)) (Exists.intro r_7.toInt (Exists.intro (vw w_6) (And.intro (cgM_3 hm_8 (z_of ev_4 ((hW_w117.va tX_11 _).trans (congrArg (vw w117 11) (z_ix (rfl : (x117_4 : Int32).toInt = _))))) (z_of ev_5 ((hW_w117.va tX_12 _).trans (congrArg (vw w117 12) (z_ix (rfl : (x117_4 : Int32).toInt = _))))) (show (1 : Int32).toInt = 1 from by decide)) (And.intro (hs_w_6.Fr hW_w117 hW_w_6 intsX_ok intsX_ok) (And.intro (tyX hW_w_6) (Or.inl (And.intro (z_eq c_9 (rfl : (r_7 : Int32).toInt = _) (show (0 : Int32).toInt = 0 from by decide)) (cgK_2 hk (rfl : (p3 : Int32).toInt = _) (rfl : (x117_4 : Int32).toInt = _))))))))))))))))))) hP hD hS (lv_sub hl [0, 1, 2, 3, 4] rfl)
          · refine lv_aload_n hx hb dX5_weigh_161 rfl (lv_at hl 0 rfl) ?_
            refine lv_aload_n hx hb dX5_weigh_162 rfl (lv_at hl 1 rfl) ?_
            refine lv_iload hx hb dX5_weigh_163 (lv_at hl 4 rfl) ?_
            refine lv_iload_n hx hb dX5_weigh_165 rfl (lv_at hl 3 rfl) ?_
            refine kW_v ⟨rfl, rfl⟩ hP hD hS hA (rW_V (As := [.ref (q 1), .int x117_4, .int p3]) (rest := []) hx hb hml hown hts hK hE hP hD (e_X5_obey_1 l D cI cJ cZ q bb bs bp w_6 hW_w_6 x117_4 p3 (R_nle_r (hW_w.fin tX_1 rfl : In 0 24 (fI w 1 8)) i_x117_4 c_1 (by decide) : In 0 23 x117_4) i_p3 (In_of ((hs_w_6.gI (by decide)).trans (hM_w117.gI (by decide))) (R_nle_l (hW_w.fin tX_1 rfl : In 0 24 (fI w 1 8)) i_x117_4 c_1 (by decide) : In 1 24 (fI w 1 8))) (In_of ((hs_w_6.gI (by decide)).trans (hM_w117.gI (by decide))) (In_of (hM_w117.gI (by decide)).symm g117_42_2)) _) ⟨⟨rfl, rfl⟩, rfl, rfl⟩ sv_X5_76 ⟨(Nat.le_trans (by decide) hR.1), (Nat.le_trans (by decide) hR.2)⟩ 56 5 (hW_w_6.o tX_56) rfl rfl rfl hl.1 rfl (Nat.le_of_ble_eq_true rfl) dX5_weigh_166) (fun w_10 H locs hw_w_10 hP hD hS => ?_)
            obtain ⟨hW_w_10, hs_w_10, hm_12⟩ := hw_w_10
            exact J169 w_10 _ _ ls hW_w_10 ((hM_w117.tr hs_w_6 (by decide)).tr hs_w_10 (by decide)) i_p3 (R_nle_r (hW_w.fin tX_1 rfl : In 0 24 (fI w 1 8)) i_x117_4 c_1 (by decide) : In 0 23 x117_4) (In_of ((hs_w_10.gI (by decide)).trans ((hs_w_6.gI (by decide)).trans (hM_w117.gI (by decide)))) (R_nle_l (hW_w.fin tX_1 rfl : In 0 24 (fI w 1 8)) i_x117_4 c_1 (by decide) : In 1 24 (fI w 1 8))) (In_of ((hs_w_10.gI (by decide)).trans ((hs_w_6.gI (by decide)).trans (hM_w117.gI (by decide)))) (In_of (hM_w117.gI (by decide)).symm g117_42_2)) (fun n r t hk => (hmi_117 (n + 1) r t (rl_X5_weigh_1_42_117 (n := n) (And.intro (tyX hW_w117) (And.intro i_x117_3 (And.intro i_x117_4 (Or.inr (And.intro (z_nle c_1 (z_of (hM_w117.gI (by decide)).symm (hW_w117.vi tX_1 rfl)) (rfl : (x117_4 : Int32).toInt = _)) (Or.inr (And.intro (z_neq c_3 (z_of ev_2 ((hW_w117.va tX_8 _).trans (congrArg (vw w117 8) (z_ix (rfl : (x117_4 : Int32).toInt = _))))) (show (11 : Int32).toInt = 11 from by decide)) (Exists.intro r_7.toInt (Exists.intro (vw w_6) (And.intro (cgM_3 hm_8 (z_of ev_4 ((hW_w117.va tX_11 _).trans (congrArg (vw w117 11) (z_ix (rfl : (x117_4 : Int32).toInt = _))))) (z_of ev_5 ((hW_w117.va tX_12 _).trans (congrArg (vw w117 12) (z_ix (rfl : (x117_4 : Int32).toInt = _))))) (show (1 : Int32).toInt = 1 from by decide)) (And.intro (hs_w_6.Fr hW_w117 hW_w_6 intsX_ok intsX_ok) (And.intro (tyX hW_w_6) (Or.inr (And.intro (z_neq c_9 (rfl : (r_7 : Int32).toInt = _) (show (0 : Int32).toInt = 0 from by decide)) (Exists.intro (vw w_10) (And.intro (cgM_2 hm_12 (rfl : (x117_4 : Int32).toInt = _) (rfl : (p3 : Int32).toInt = _)) (And.intro (hs_w_10.Fr hW_w_6 hW_w_10 intsX_ok intsX_ok) (And.intro (tyX hW_w_10) (cgK_2 hk (rfl : (p3 : Int32).toInt = _) (rfl : (x117_4 : Int32).toInt = _))))))))))))))))))))))) hP hD hS (lv_sub hl [0, 1, 2, 3, 4] rfl)
  have J55 : ∀ (N : Nat) (x55_4 : Int32) (w55 : va_W) (H : Heap) (locs : List Loc) (ls : Array Slot), (10 - x55_4.toInt).toNat < N → HT q (TX q cI cJ cZ bb bs bp) w55 → Sm [57, 58, 59, 60, 61, 62, 63] [] w w55 → (In 0 39 p3) → (In 0 10 x55_4) → (In 1 40 (fI w55 42 2)) → (∀ (n : Nat) (r : Int) (t : PS), It_X5_weigh_1_42 n 55 p3.toInt x55_4.toInt (vw w55) r t → M_X5_weigh_1_42 (vw w) p3.toInt r t) → va_P D vwCl w55 H → va_D A w55 → va_S A s.heap H locs → lv_has ls 5 [(0, .ref (q 56)), (1, .ref (q 1)), (2, .ref (q 42)), (3, .int p3), (4, .int x55_4)] → W p l e R s m args below meth c H locs 0 0 Q (F0 m 55 ls []) := by
    intro N
    induction N with
    | zero => intro x55_4 w55 H locs ls hmu; exact absurd hmu (Nat.not_lt_zero _)
    | succ N ih55 =>
      intro x55_4 w55 H locs ls hmu55 hW_w55 hM_w55 i_x55_3 i_x55_4 g55_42_2 hmi_55 hP hD hS hl
      have J108 : ∀ (w108 : va_W) (H : Heap) (locs : List Loc) (ls : Array Slot), HT q (TX q cI cJ cZ bb bs bp) w108 → Sm [57, 58, 59, 60, 61, 62, 63] [] w w108 → (In 0 39 p3) → (In 0 9 x55_4) → (In 1 10 (fI w108 1 0)) → (In 1 40 (fI w108 42 2)) → (∀ (n : Nat) (r : Int) (t : PS), It_X5_weigh_1_42 n 108 p3.toInt x55_4.toInt (vw w108) r t → M_X5_weigh_1_42 (vw w) p3.toInt r t) → va_P D vwCl w108 H → va_D A w108 → va_S A s.heap H locs → lv_has ls 5 [(0, .ref (q 56)), (1, .ref (q 1)), (2, .ref (q 42)), (3, .int p3), (4, .int x55_4)] → W p l e R s m args below meth c H locs 0 0 Q (F0 m 108 ls []) := by
        intro w108 H locs ls hW_w108 hM_w108 i_x108_3 i_x108_4 g108_1_0 g108_42_2 hmi_108 hP hD hS hl
        refine lv_iinc (v := (x55_4 + 1)) (lv' := [(4, .int (x55_4 + 1)), (0, .ref (q 56)), (1, .ref (q 1)), (2, .ref (q 42)), (3, .int p3)]) hx hb dX5_weigh_108 hl (k := 4) rfl (rfl) (by decide) rfl (fun ls hl => ?_)
        refine lv_goto (tgt := 55) hx hb dX5_weigh_111 (by decide) ?_
        exact ih55 (x55_4 + 1) w108 _ _ ls (mu_inc hmu55 i_x108_4 (In_lit (n := 1) (by decide) (by decide) : In 1 1 1) (by decide)) hW_w108 hM_w108 i_p3 (In_w ((In_add (y := 1) i_x108_4 (In_lit (n := 1) (by decide) (by decide) : In 1 1 1) (by decide)) : In 1 10 (x55_4 + 1)) (by decide) : In 0 10 (x55_4 + 1)) (In_of (hM_w108.gI (by decide)) (In_of (hM_w108.gI (by decide)).symm g108_42_2)) (fun n r t hk => (hmi_108 (n + 1) r t (rl_X5_weigh_1_42_108 (n := n) (And.intro (tyX hW_w108) (And.intro i_x108_3 (And.intro i_x108_4 (cgK_2 hk (rfl : (p3 : Int32).toInt = _) (z_add (t_add i_x108_4 (In_lit (n := 1) (by decide) (by decide) : In 1 1 1) (by decide)) (rfl : (x55_4 : Int32).toInt = _) (show (1 : Int32).toInt = 1 from by decide))))))))) hP hD hS (lv_sub hl [1, 2, 3, 4, 0] rfl)
      refine lv_iload hx hb dX5_weigh_55 (lv_at hl 4 rfl) ?_
      refine lv_aload_n hx hb dX5_weigh_57 rfl (lv_at hl 1 rfl) ?_
      refine gt_X1 hx hb hts hown hK hP 1 (hW_w55.o tX_1) 0 (by decide) wd_36 rfl (hW_w55.fi tX_1 rfl) dX5_weigh_58 ?_
      refine tov (v := (fI w 1 0)) (hM_w55.gI (by decide)) ?_
      refine lv_icmp_ge (tgt := 114) hx hb dX5_weigh_61 (by decide) (fun c_13 => ?_) (fun c_13 => ?_)
      · refine lv_iconst (v := 0) hx hb dX5_weigh_114 (by decide) ?_
        refine lv_istore (lv' := [(4, .int 0), (0, .ref (q 56)), (1, .ref (q 1)), (2, .ref (q 42)), (3, .int p3)]) hx hb dX5_weigh_115 hl (by decide) rfl (fun ls hl => ?_)
        exact J117 _ 0 w55 _ _ ls (Nat.lt_succ_self _) hW_w55 hM_w55 i_p3 (In_lit (n := 0) (by decide) (by decide) : In 0 24 0) (In_of (hM_w55.gI (by decide)) (In_of (hM_w55.gI (by decide)).symm g55_42_2)) (fun n r t hk => (hmi_55 (n + 1) r t (rl_X5_weigh_1_42_55 (n := n) (And.intro (tyX hW_w55) (And.intro i_x55_3 (And.intro i_x55_4 (Or.inl (And.intro (z_le c_13 (z_of (hM_w55.gI (by decide)).symm (hW_w55.vi tX_1 rfl)) (rfl : (x55_4 : Int32).toInt = _)) (cgK_2 hk (rfl : (p3 : Int32).toInt = _) (show (0 : Int32).toInt = 0 from by decide)))))))))) hP hD hS (lv_sub hl [1, 2, 3, 4, 0] rfl)
      · refine lv_aload_n hx hb dX5_weigh_64 rfl (lv_at hl 0 rfl) ?_
        refine gt_X5 hx hb hts hown hK hP 56 (hW_w55.o tX_56) 2 (by decide) wd_371 rfl (hW_w55.fr tX_56 rfl) dX5_weigh_65 ?_
        refine lv_iload_n hx hb dX5_weigh_68 rfl (lv_at hl 3 rfl) ?_
        refine lv_bipush (v := 10) hx hb dX5_weigh_69 (by decide) ?_
        refine lv_imul hx hb dX5_weigh_71 ?_
        refine lv_iload hx hb dX5_weigh_72 (lv_at hl 4 rfl) ?_
        refine lv_iadd hx hb dX5_weigh_74 ?_
        refine lv_iconst (v := 0) hx hb dX5_weigh_75 (by decide) ?_
        refine va_iast hx hb hK hP hD hS 59 0 (hW_w55.a tX_59) rfl (in_I ((In_add ((In_mulr i_p3 (n := 10) (by decide) (by decide)) : In 0 390 (p3 * 10)) (R_nle_r (hW_w.fin tX_1 rfl : In 0 10 (fI w 1 0)) i_x55_4 c_13 (by decide) : In 0 9 x55_4) (by decide)) : In 0 399 ((p3 * 10) + x55_4)) (by decide)) dX5_weigh_76 (fun H locs hP hD hS => fr_w (hW_w55.uA tX_59 (In_lit (n := 0) (by decide) (by decide) : In (-2147483648) 2147483647 0)) hP hD (fun w_14 ew_14 hW_w_14 hP hD => ?_))
        have hv_w_14 := vw_uA hW_w55 tX_59 ew_14 (z_ix (z_add (t_add ((In_mulr i_p3 (n := 10) (by decide) (by decide)) : In 0 390 (p3 * 10)) (R_nle_r (hW_w.fin tX_1 rfl : In 0 10 (fI w 1 0)) i_x55_4 c_13 (by decide) : In 0 9 x55_4) (by decide)) (z_mul i_p3 (rfl : (p3 : Int32).toInt = _) (show (10 : Int32).toInt = 10 from by decide) (by decide)) (rfl : (x55_4 : Int32).toInt = _))) (show (0 : Int32).toInt = 0 from by decide)
        refine lv_aload_n hx hb dX5_weigh_77 rfl (lv_at hl 2 rfl) ?_
        refine gt_X6 hx hb hts hown hK hP 42 (hW_w_14.o tX_42) 15 (by decide) wd_323 rfl (hW_w_14.fr tX_42 rfl) dX5_weigh_78 ?_
        refine lv_iload hx hb dX5_weigh_81 (lv_at hl 4 rfl) ?_
        refine va_iald hx hb hK hP 55 0 (hW_w_14.a tX_55) rfl (in_I (R_nle_r (hW_w.fin tX_1 rfl : In 0 10 (fI w 1 0)) i_x55_4 c_13 (by decide) : In 0 9 x55_4) (by decide)) dX5_weigh_83 ?_
        refine lv_topi (fun v_15 ev_15 => ?_)
        refine lv_aload_n hx hb dX5_weigh_84 rfl (lv_at hl 2 rfl) ?_
        refine gt_X6 hx hb hts hown hK hP 42 (hW_w_14.o tX_42) 9 (by decide) wd_312 rfl (hW_w_14.fr tX_42 rfl) dX5_weigh_85 ?_
        refine lv_iload_n hx hb dX5_weigh_88 rfl (lv_at hl 3 rfl) ?_
        refine va_iald hx hb hK hP 49 0 (hW_w_14.a tX_49) rfl (in_I i_p3 (by decide)) dX5_weigh_89 ?_
        refine lv_topi (fun v_16 ev_16 => ?_)
        refine lv_icmp_gt (tgt := 108) hx hb dX5_weigh_90 (by decide) (fun c_17 => ?_) (fun c_17 => ?_)
        · exact J108 w_14 _ _ ls hW_w_14 (hM_w55.sa ew_14 (by decide)) i_p3 (R_nle_r (hW_w.fin tX_1 rfl : In 0 10 (fI w 1 0)) i_x55_4 c_13 (by decide) : In 0 9 x55_4) (In_of ((fI_cg (st_ne ew_14 (by decide))).trans (hM_w55.gI (by decide))) (R_nle_l (hW_w.fin tX_1 rfl : In 0 10 (fI w 1 0)) i_x55_4 c_13 (by decide) : In 1 10 (fI w 1 0))) (In_of ((fI_cg (st_ne ew_14 (by decide))).trans (hM_w55.gI (by decide))) (In_of (hM_w55.gI (by decide)).symm g55_42_2)) (fun n r t hk => (hmi_55 (n + 1) r t (rl_X5_weigh_1_42_55 (n := n) (And.intro (tyX hW_w55) (And.intro i_x55_3 (And.intro i_x55_4 (Or.inr (And.intro (z_nle c_13 (z_of (hM_w55.gI (by decide)).symm (hW_w55.vi tX_1 rfl)) (rfl : (x55_4 : Int32).toInt = _)) (Exists.intro (vw w_14) (And.intro hv_w_14 (Or.inl (And.intro (z_lt c_17 (z_of (ev_16.trans (congrFun (aF_cg (st_ne ew_14 (by decide))) _)) ((hW_w55.va tX_49 _).trans (congrArg (vw w55 49) (z_ix (rfl : (p3 : Int32).toInt = _))))) (z_of (ev_15.trans (congrFun (aF_cg (st_ne ew_14 (by decide))) _)) ((hW_w55.va tX_55 _).trans (congrArg (vw w55 55) (z_ix (rfl : (x55_4 : Int32).toInt = _)))))) (cgK_2 hk (rfl : (p3 : Int32).toInt = _) (rfl : (x55_4 : Int32).toInt = _)))))))))))))) hP hD hS (lv_sub hl [0, 1, 2, 3, 4] rfl)
        · refine lv_aload_n hx hb dX5_weigh_93 rfl (lv_at hl 0 rfl) ?_
          refine gt_X5 hx hb hts hown hK hP 56 (hW_w_14.o tX_56) 1 (by decide) wd_367 rfl (hW_w_14.fr tX_56 rfl) dX5_weigh_94 ?_
          refine lv_iload_n hx hb dX5_weigh_97 rfl (lv_at hl 3 rfl) ?_
          refine lv_dup2_11 hx hb dX5_weigh_98 rfl rfl ?_
          refine va_iald hx hb hK hP 58 0 (hW_w_14.a tX_58) rfl (in_I i_p3 (by decide)) dX5_weigh_99 ?_
          refine lv_topi (fun v_18 ev_18 => ?_)
          refine lv_iconst (v := 1) hx hb dX5_weigh_100 (by decide) ?_
          refine lv_iload hx hb dX5_weigh_101 (lv_at hl 4 rfl) ?_
          refine lv_ishl hx hb dX5_weigh_103 ?_
          refine lv_topi (fun v_19 ev_19 => ?_)
          refine lv_iconst (v := (-1)) hx hb dX5_weigh_104 (by decide) ?_
          refine lv_ixor hx hb dX5_weigh_105 ?_
          refine lv_topi (fun v_20 ev_20 => ?_)
          refine lv_iand hx hb dX5_weigh_106 ?_
          refine lv_topi (fun v_21 ev_21 => ?_)
          refine va_iast hx hb hK hP hD hS 58 0 (hW_w_14.a tX_58) rfl (in_I i_p3 (by decide)) dX5_weigh_107 (fun H locs hP hD hS => fr_w (hW_w_14.uA tX_58 (In_any v_21)) hP hD (fun w_22 ew_22 hW_w_22 hP hD => ?_))
          have hv_w_22 := vw_uA hW_w_14 tX_58 ew_22 (z_ix (rfl : (p3 : Int32).toInt = _)) (z_of ev_21 (z_and (z_of (ev_18.trans (congrFun (aF_cg (st_ne ew_14 (by decide))) _)) ((hW_w55.va tX_58 _).trans (congrArg (vw w55 58) (z_ix (rfl : (p3 : Int32).toInt = _))))) (z_of ev_20 (z_xor (z_of ev_19 (z_shl (show (1 : Int32).toInt = 1 from by decide) (rfl : (x55_4 : Int32).toInt = _))) (show ((-1) : Int32).toInt = (-1) from by decide)))))
          exact J108 w_22 _ _ ls hW_w_22 ((hM_w55.sa ew_14 (by decide)).sa ew_22 (by decide)) i_p3 (R_nle_r (hW_w.fin tX_1 rfl : In 0 10 (fI w 1 0)) i_x55_4 c_13 (by decide) : In 0 9 x55_4) (In_of ((fI_cg (st_ne ew_22 (by decide))).trans ((fI_cg (st_ne ew_14 (by decide))).trans (hM_w55.gI (by decide)))) (R_nle_l (hW_w.fin tX_1 rfl : In 0 10 (fI w 1 0)) i_x55_4 c_13 (by decide) : In 1 10 (fI w 1 0))) (In_of ((fI_cg (st_ne ew_22 (by decide))).trans ((fI_cg (st_ne ew_14 (by decide))).trans (hM_w55.gI (by decide)))) (In_of (hM_w55.gI (by decide)).symm g55_42_2)) (fun n r t hk => (hmi_55 (n + 1) r t (rl_X5_weigh_1_42_55 (n := n) (And.intro (tyX hW_w55) (And.intro i_x55_3 (And.intro i_x55_4 (Or.inr (And.intro (z_nle c_13 (z_of (hM_w55.gI (by decide)).symm (hW_w55.vi tX_1 rfl)) (rfl : (x55_4 : Int32).toInt = _)) (Exists.intro (vw w_14) (And.intro hv_w_14 (Or.inr (And.intro (z_nlt c_17 (z_of (ev_16.trans (congrFun (aF_cg (st_ne ew_14 (by decide))) _)) ((hW_w55.va tX_49 _).trans (congrArg (vw w55 49) (z_ix (rfl : (p3 : Int32).toInt = _))))) (z_of (ev_15.trans (congrFun (aF_cg (st_ne ew_14 (by decide))) _)) ((hW_w55.va tX_55 _).trans (congrArg (vw w55 55) (z_ix (rfl : (x55_4 : Int32).toInt = _)))))) (Exists.intro (vw w_22) (And.intro hv_w_22 (cgK_2 hk (rfl : (p3 : Int32).toInt = _) (rfl : (x55_4 : Int32).toInt = _)))))))))))))))) hP hD hS (lv_sub hl [0, 1, 2, 3, 4] rfl)
  refine lv_aload_n hx hb dX5_weigh_0 rfl (lv_at hl 0 rfl) ?_
  refine gt_X5 hx hb hts hown hK hP 56 (hW_w.o tX_56) 3 (by decide) wd_375 rfl (hW_w.fr tX_56 rfl) dX5_weigh_1 ?_
  refine lv_iload_n hx hb dX5_weigh_4 rfl (lv_at hl 3 rfl) ?_
  refine va_iald hx hb hK hP 60 0 (hW_w.a tX_60) rfl (in_I i_p3 (by decide)) dX5_weigh_5 ?_
  refine lv_topi (fun v_23 ev_23 => ?_)
  refine lv_aload_n hx hb dX5_weigh_6 rfl (lv_at hl 2 rfl) ?_
  refine gt_X6 hx hb hts hown hK hP 42 (hW_w.o tX_42) 1 (by decide) wd_291 rfl (hW_w.fi tX_42 rfl) dX5_weigh_7 ?_
  refine lv_icmp_ne (tgt := 14) hx hb dX5_weigh_10 (by decide) (fun c_24 => ?_) (fun c_24 => ?_)
  · refine lv_aload_n hx hb dX5_weigh_14 rfl (lv_at hl 0 rfl) ?_
    refine gt_X5 hx hb hts hown hK hP 56 (hW_w.o tX_56) 3 (by decide) wd_375 rfl (hW_w.fr tX_56 rfl) dX5_weigh_15 ?_
    refine lv_iload_n hx hb dX5_weigh_18 rfl (lv_at hl 3 rfl) ?_
    refine lv_aload_n hx hb dX5_weigh_19 rfl (lv_at hl 2 rfl) ?_
    refine gt_X6 hx hb hts hown hK hP 42 (hW_w.o tX_42) 1 (by decide) wd_291 rfl (hW_w.fi tX_42 rfl) dX5_weigh_20 ?_
    refine va_iast hx hb hK hP hD hS 60 0 (hW_w.a tX_60) rfl (in_I i_p3 (by decide)) dX5_weigh_23 (fun H locs hP hD hS => fr_w (hW_w.uA tX_60 (In_any (fI w 42 1))) hP hD (fun w_25 ew_25 hW_w_25 hP hD => ?_))
    have hv_w_25 := vw_uA hW_w tX_60 ew_25 (z_ix (rfl : (p3 : Int32).toInt = _)) (hW_w.vi tX_42 rfl)
    refine lv_aload_n hx hb dX5_weigh_24 rfl (lv_at hl 0 rfl) ?_
    refine lv_aload_n hx hb dX5_weigh_25 rfl (lv_at hl 1 rfl) ?_
    refine lv_aload_n hx hb dX5_weigh_26 rfl (lv_at hl 2 rfl) ?_
    refine lv_iload_n hx hb dX5_weigh_27 rfl (lv_at hl 3 rfl) ?_
    refine kW_v ⟨rfl, rfl⟩ hP hD hS hA (rW_V (As := [.ref (q 1), .ref (q 42), .int p3]) (rest := []) hx hb hml hown hts hK hE hP hD (e_X5_gatherFacts_1_42 l D cI cJ cZ q bb bs bp w_25 hW_w_25 p3 i_p3 (In_of (fI_cg (st_ne ew_25 (by decide))) hf_42_2) _) ⟨⟨rfl, rfl⟩, rfl, rfl⟩ sv_X5_60 ⟨(Nat.le_trans (by decide) hR.1), (Nat.le_trans (by decide) hR.2)⟩ 56 5 (hW_w_25.o tX_56) rfl rfl rfl hl.1 rfl (Nat.le_of_ble_eq_true rfl) dX5_weigh_28) (fun w_26 H locs hw_w_26 hP hD hS => ?_)
    obtain ⟨hW_w_26, hs_w_26, hm_28⟩ := hw_w_26
    refine lv_aload_n hx hb dX5_weigh_31 rfl (lv_at hl 0 rfl) ?_
    refine gt_X5 hx hb hts hown hK hP 56 (hW_w_26.o tX_56) 0 (by decide) wd_363 rfl (hW_w_26.fr tX_56 rfl) dX5_weigh_32 ?_
    refine lv_iload_n hx hb dX5_weigh_35 rfl (lv_at hl 3 rfl) ?_
    refine lv_iconst (v := 1) hx hb dX5_weigh_36 (by decide) ?_
    refine va_iast hx hb hK hP hD hS 57 0 (hW_w_26.a tX_57) rfl (in_I i_p3 (by decide)) dX5_weigh_37 (fun H locs hP hD hS => fr_w (hW_w_26.uA tX_57 (In_lit (n := 1) (by decide) (by decide) : In (-2147483648) 2147483647 1)) hP hD (fun w_29 ew_29 hW_w_29 hP hD => ?_))
    have hv_w_29 := vw_uA hW_w_26 tX_57 ew_29 (z_ix (rfl : (p3 : Int32).toInt = _)) (show (1 : Int32).toInt = 1 from by decide)
    refine lv_aload_n hx hb dX5_weigh_38 rfl (lv_at hl 0 rfl) ?_
    refine gt_X5 hx hb hts hown hK hP 56 (hW_w_29.o tX_56) 1 (by decide) wd_367 rfl (hW_w_29.fr tX_56 rfl) dX5_weigh_39 ?_
    refine lv_iload_n hx hb dX5_weigh_42 rfl (lv_at hl 3 rfl) ?_
    refine lv_iconst (v := 1) hx hb dX5_weigh_43 (by decide) ?_
    refine lv_aload_n hx hb dX5_weigh_44 rfl (lv_at hl 1 rfl) ?_
    refine gt_X1 hx hb hts hown hK hP 1 (hW_w_29.o tX_1) 0 (by decide) wd_36 rfl (hW_w_29.fi tX_1 rfl) dX5_weigh_45 ?_
    refine tov (v := (fI w 1 0)) ((fI_cg (st_ne ew_29 (by decide))).trans ((hs_w_26.gI (by decide)).trans (fI_cg (st_ne ew_25 (by decide))))) ?_
    refine lv_ishl hx hb dX5_weigh_48 ?_
    refine lv_topi (fun v_30 ev_30 => ?_)
    refine lv_iconst (v := 1) hx hb dX5_weigh_49 (by decide) ?_
    refine lv_isub hx hb dX5_weigh_50 ?_
    refine va_iast hx hb hK hP hD hS 58 0 (hW_w_29.a tX_58) rfl (in_I i_p3 (by decide)) dX5_weigh_51 (fun H locs hP hD hS => fr_w (hW_w_29.uA tX_58 (In_any (v_30 - 1))) hP hD (fun w_31 ew_31 hW_w_31 hP hD => ?_))
    have hv_w_31 := vw_uA hW_w_29 tX_58 ew_31 (z_ix (rfl : (p3 : Int32).toInt = _)) (z_subw (z_of ev_30 (z_shl (show (1 : Int32).toInt = 1 from by decide) (hW_w.vi tX_1 rfl))) (show (1 : Int32).toInt = 1 from by decide))
    refine lv_iconst (v := 0) hx hb dX5_weigh_52 (by decide) ?_
    refine lv_istore (lv' := [(4, .int 0), (0, .ref (q 56)), (1, .ref (q 1)), (2, .ref (q 42)), (3, .int p3)]) hx hb dX5_weigh_53 hl (by decide) rfl (fun ls hl => ?_)
    exact J55 _ 0 w_31 _ _ ls (Nat.lt_succ_self _) hW_w_31 ((((Sm.rf.sa ew_25 (by decide)).tr hs_w_26 (by decide)).sa ew_29 (by decide)).sa ew_31 (by decide)) i_p3 (In_lit (n := 0) (by decide) (by decide) : In 0 10 0) (In_of ((fI_cg (st_ne ew_31 (by decide))).trans ((fI_cg (st_ne ew_29 (by decide))).trans ((hs_w_26.gI (by decide)).trans (fI_cg (st_ne ew_25 (by decide)))))) hf_42_2) (fun n r t hk => (mk_X5_weigh_1_42 (n := n) (And.intro (tyX hW_w) (And.intro i_p3 (Or.inr (And.intro (z_neq c_24 (z_of ev_23 ((hW_w.va tX_60 _).trans (congrArg (vw w 60) (z_ix (rfl : (p3 : Int32).toInt = _))))) (hW_w.vi tX_42 rfl)) (Exists.intro (vw w_25) (And.intro hv_w_25 (Exists.intro (vw w_26) (And.intro (cgM_1 hm_28 (rfl : (p3 : Int32).toInt = _)) (And.intro (hs_w_26.Fr hW_w_25 hW_w_26 intsX_ok intsX_ok) (And.intro (tyX hW_w_26) (Exists.intro (vw w_29) (And.intro hv_w_29 (Exists.intro (vw w_31) (And.intro hv_w_31 (cgK_2 hk (rfl : (p3 : Int32).toInt = _) (show (0 : Int32).toInt = 0 from by decide)))))))))))))))))) hP hD hS (lv_sub hl [1, 2, 3, 4, 0] rfl)
  · exact hret _ _ _ _ _ hP hD hS dX5_weigh_13 ⟨hW_w, Sm.rf, (mk_X5_weigh_1_42 (n := 0) (And.intro (tyX hW_w) (And.intro i_p3 (Or.inl (And.intro (z_eq c_24 (z_of ev_23 ((hW_w.va tX_60 _).trans (congrArg (vw w 60) (z_ix (rfl : (p3 : Int32).toInt = _))))) (hW_w.vi tX_42 rfl)) (And.intro rfl rfl))))))⟩
