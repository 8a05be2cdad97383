set_option maxRecDepth 100000 in
set_option maxHeartbeats 8000000 in
theorem e_J6_bitCount_0f7a4 (l : Launch) (D : va_G) (cI cJ cZ : ClassId) (q : Nat → Nat) (bb bs bp : Nat) (w : va_W) (hW_w : HT q (TX q cI cJ cZ bb bs bp) w) (p0 : Int32) : Con_i l yJ6_bitCount_0f7a4 cJ6_bitCount_0f7a4 1 (some .int) ({ frames := 0, cells := 0, slots := 0, locals := 0 }) D cI cJ cZ eW [.int p0] w (fun (r : Int32) (w1 : va_W) => HT q (TX q cI cJ cZ bb bs bp) w1 ∧ Sm [] [] w w1 ∧ In 0 63 r ∧ M_J6_bitCount_0f7a4 (vw w) p0.toInt r.toInt (vw w1)) := by
  refine eQ_i rfl (by decide) (Nat.le_of_ble_eq_true rfl) ⟨rfl, rfl⟩ ?_
  intro p e R s m args below meth c A Q hx hb hml hown hts hK hE hA hR hret hP hD hS ls hl
  have hown : s.vm.findClass RJ6 = some m.cls := hown
  have hl : lv_has ls 1 [(0, .int p0)] := hl
  refine lv_iload_n hx hb dJ6_bitCount_0f7a4_0 rfl (lv_at hl 0 rfl) ?_
  refine lv_iload_n hx hb dJ6_bitCount_0f7a4_1 rfl (lv_at hl 0 rfl) ?_
  refine lv_iconst (v := 1) hx hb dJ6_bitCount_0f7a4_2 (by decide) ?_
  refine lv_iushr hx hb dJ6_bitCount_0f7a4_3 rfl ?_
  refine lv_topi (fun v_1 ev_1 => ?_)
  refine lv_ldcw hx hb hown (hts _ wd_1231) dJ6_bitCount_0f7a4_4 ?_
  refine lv_iand hx hb dJ6_bitCount_0f7a4_7 ?_
  refine lv_isub hx hb dJ6_bitCount_0f7a4_8 ?_
  refine lv_topi (fun v_2 ev_2 => ?_)
  refine lv_istore_n (lv' := [(0, .int v_2)]) hx hb dJ6_bitCount_0f7a4_9 rfl hl (by decide) rfl (fun ls hl => ?_)
  refine lv_iload_n hx hb dJ6_bitCount_0f7a4_10 rfl (lv_at hl 0 rfl) ?_
  refine lv_ldcw hx hb hown (hts _ wd_1232) dJ6_bitCount_0f7a4_11 ?_
  refine lv_iand hx hb dJ6_bitCount_0f7a4_14 ?_
  refine lv_iload_n hx hb dJ6_bitCount_0f7a4_15 rfl (lv_at hl 0 rfl) ?_
  refine lv_iconst (v := 2) hx hb dJ6_bitCount_0f7a4_16 (by decide) ?_
  refine lv_iushr hx hb dJ6_bitCount_0f7a4_17 rfl ?_
  refine lv_topi (fun v_3 ev_3 => ?_)
  refine lv_ldcw hx hb hown (hts _ wd_1232) dJ6_bitCount_0f7a4_18 ?_
  refine lv_iand hx hb dJ6_bitCount_0f7a4_21 ?_
  refine lv_iadd hx hb dJ6_bitCount_0f7a4_22 ?_
  refine lv_istore_n (lv' := [(0, .int ((v_2 &&& 858993459) + (v_3 &&& 858993459)))]) hx hb dJ6_bitCount_0f7a4_23 rfl hl (by decide) rfl (fun ls hl => ?_)
  refine lv_iload_n hx hb dJ6_bitCount_0f7a4_24 rfl (lv_at hl 0 rfl) ?_
  refine lv_iload_n hx hb dJ6_bitCount_0f7a4_25 rfl (lv_at hl 0 rfl) ?_
  refine lv_iconst (v := 4) hx hb dJ6_bitCount_0f7a4_26 (by decide) ?_
  refine lv_iushr hx hb dJ6_bitCount_0f7a4_27 rfl ?_
  refine lv_topi (fun v_4 ev_4 => ?_)
  refine lv_iadd hx hb dJ6_bitCount_0f7a4_28 ?_
  refine lv_topi (fun v_5 ev_5 => ?_)
  refine lv_ldcw hx hb hown (hts _ wd_1233) dJ6_bitCount_0f7a4_29 ?_
  refine lv_iand hx hb dJ6_bitCount_0f7a4_32 ?_
  refine lv_istore_n (lv' := [(0, .int (v_5 &&& 252645135))]) hx hb dJ6_bitCount_0f7a4_33 rfl hl (by decide) rfl (fun ls hl => ?_)
  refine lv_iload_n hx hb dJ6_bitCount_0f7a4_34 rfl (lv_at hl 0 rfl) ?_
  refine lv_iload_n hx hb dJ6_bitCount_0f7a4_35 rfl (lv_at hl 0 rfl) ?_
  refine lv_bipush (v := 8) hx hb dJ6_bitCount_0f7a4_36 (by decide) ?_
  refine lv_iushr hx hb dJ6_bitCount_0f7a4_38 rfl ?_
  refine lv_topi (fun v_6 ev_6 => ?_)
  refine lv_iadd hx hb dJ6_bitCount_0f7a4_39 ?_
  refine lv_topi (fun v_7 ev_7 => ?_)
  refine lv_istore_n (lv' := [(0, .int v_7)]) hx hb dJ6_bitCount_0f7a4_40 rfl hl (by decide) rfl (fun ls hl => ?_)
  refine lv_iload_n hx hb dJ6_bitCount_0f7a4_41 rfl (lv_at hl 0 rfl) ?_
  refine lv_iload_n hx hb dJ6_bitCount_0f7a4_42 rfl (lv_at hl 0 rfl) ?_
  refine lv_bipush (v := 16) hx hb dJ6_bitCount_0f7a4_43 (by decide) ?_
  refine lv_iushr hx hb dJ6_bitCount_0f7a4_45 rfl ?_
  refine lv_topi (fun v_8 ev_8 => ?_)
  refine lv_iadd hx hb dJ6_bitCount_0f7a4_46 ?_
  refine lv_topi (fun v_9 ev_9 => ?_)
  refine lv_istore_n (lv' := [(0, .int v_9)]) hx hb dJ6_bitCount_0f7a4_47 rfl hl (by decide) rfl (fun ls hl => ?_)
  refine lv_iload_n hx hb dJ6_bitCount_0f7a4_48 rfl (lv_at hl 0 rfl) ?_
  refine lv_bipush (v := 63) hx hb dJ6_bitCount_0f7a4_49 (by decide) ?_
  refine lv_iand hx hb dJ6_bitCount_0f7a4_51 ?_
  exact hret _ _ _ _ _ _ hP hD hS dJ6_bitCount_0f7a4_52 ⟨hW_w, Sm.rf, ((In_and (n := 63) (by decide) (by decide)) : In 0 63 (v_9 &&& 63)), (mk_J6_bitCount_0f7a4 (And.intro (tyX hW_w) (And.intro (z_and (z_of ev_9 (z_addw (z_of ev_7 (z_addw (z_and (z_of ev_5 (z_addw (z_add (t_add ((In_and (n := 858993459) (by decide) (by decide)) : In 0 858993459 (v_2 &&& 858993459)) ((In_and (n := 858993459) (by decide) (by decide)) : In 0 858993459 (v_3 &&& 858993459)) (by decide)) (z_and (z_of ev_2 (z_subw (rfl : (p0 : Int32).toInt = _) (z_and (z_of ev_1 (z_usr (rfl : (p0 : Int32).toInt = _) (show (1 : Int32).toInt = 1 from by decide))) (show (1431655765 : Int32).toInt = 1431655765 from by decide)))) (show (858993459 : Int32).toInt = 858993459 from by decide)) (z_and (z_of ev_3 (z_usr (z_of ev_2 (z_subw (rfl : (p0 : Int32).toInt = _) (z_and (z_of ev_1 (z_usr (rfl : (p0 : Int32).toInt = _) (show (1 : Int32).toInt = 1 from by decide))) (show (1431655765 : Int32).toInt = 1431655765 from by decide)))) (show (2 : Int32).toInt = 2 from by decide))) (show (858993459 : Int32).toInt = 858993459 from by decide))) (z_of ev_4 (z_usr (z_add (t_add ((In_and (n := 858993459) (by decide) (by decide)) : In 0 858993459 (v_2 &&& 858993459)) ((In_and (n := 858993459) (by decide) (by decide)) : In 0 858993459 (v_3 &&& 858993459)) (by decide)) (z_and (z_of ev_2 (z_subw (rfl : (p0 : Int32).toInt = _) (z_and (z_of ev_1 (z_usr (rfl : (p0 : Int32).toInt = _) (show (1 : Int32).toInt = 1 from by decide))) (show (1431655765 : Int32).toInt = 1431655765 from by decide)))) (show (858993459 : Int32).toInt = 858993459 from by decide)) (z_and (z_of ev_3 (z_usr (z_of ev_2 (z_subw (rfl : (p0 : Int32).toInt = _) (z_and (z_of ev_1 (z_usr (rfl : (p0 : Int32).toInt = _) (show (1 : Int32).toInt = 1 from by decide))) (show (1431655765 : Int32).toInt = 1431655765 from by decide)))) (show (2 : Int32).toInt = 2 from by decide))) (show (858993459 : Int32).toInt = 858993459 from by decide))) (show (4 : Int32).toInt = 4 from by decide))))) (show (252645135 : Int32).toInt = 252645135 from by decide)) (z_of ev_6 (z_usr (z_and (z_of ev_5 (z_addw (z_add (t_add ((In_and (n := 858993459) (by decide) (by decide)) : In 0 858993459 (v_2 &&& 858993459)) ((In_and (n := 858993459) (by decide) (by decide)) : In 0 858993459 (v_3 &&& 858993459)) (by decide)) (z_and (z_of ev_2 (z_subw (rfl : (p0 : Int32).toInt = _) (z_and (z_of ev_1 (z_usr (rfl : (p0 : Int32).toInt = _) (show (1 : Int32).toInt = 1 from by decide))) (show (1431655765 : Int32).toInt = 1431655765 from by decide)))) (show (858993459 : Int32).toInt = 858993459 from by decide)) (z_and (z_of ev_3 (z_usr (z_of ev_2 (z_subw (rfl : (p0 : Int32).toInt = _) (z_and (z_of ev_1 (z_usr (rfl : (p0 : Int32).toInt = _) (show (1 : Int32).toInt = 1 from by decide))) (show (1431655765 : Int32).toInt = 1431655765 from by decide)))) (show (2 : Int32).toInt = 2 from by decide))) (show (858993459 : Int32).toInt = 858993459 from by decide))) (z_of ev_4 (z_usr (z_add (t_add ((In_and (n := 858993459) (by decide) (by decide)) : In 0 858993459 (v_2 &&& 858993459)) ((In_and (n := 858993459) (by decide) (by decide)) : In 0 858993459 (v_3 &&& 858993459)) (by decide)) (z_and (z_of ev_2 (z_subw (rfl : (p0 : Int32).toInt = _) (z_and (z_of ev_1 (z_usr (rfl : (p0 : Int32).toInt = _) (show (1 : Int32).toInt = 1 from by decide))) (show (1431655765 : Int32).toInt = 1431655765 from by decide)))) (show (858993459 : Int32).toInt = 858993459 from by decide)) (z_and (z_of ev_3 (z_usr (z_of ev_2 (z_subw (rfl : (p0 : Int32).toInt = _) (z_and (z_of ev_1 (z_usr (rfl : (p0 : Int32).toInt = _) (show (1 : Int32).toInt = 1 from by decide))) (show (1431655765 : Int32).toInt = 1431655765 from by decide)))) (show (2 : Int32).toInt = 2 from by decide))) (show (858993459 : Int32).toInt = 858993459 from by decide))) (show (4 : Int32).toInt = 4 from by decide))))) (show (252645135 : Int32).toInt = 252645135 from by decide)) (show (8 : Int32).toInt = 8 from by decide))))) (z_of ev_8 (z_usr (z_of ev_7 (z_addw (z_and (z_of ev_5 (z_addw (z_add (t_add ((In_and (n := 858993459) (by decide) (by decide)) : In 0 858993459 (v_2 &&& 858993459)) ((In_and (n := 858993459) (by decide) (by decide)) : In 0 858993459 (v_3 &&& 858993459)) (by decide)) (z_and (z_of ev_2 (z_subw (rfl : (p0 : Int32).toInt = _) (z_and (z_of ev_1 (z_usr (rfl : (p0 : Int32).toInt = _) (show (1 : Int32).toInt = 1 from by decide))) (show (1431655765 : Int32).toInt = 1431655765 from by decide)))) (show (858993459 : Int32).toInt = 858993459 from by decide)) (z_and (z_of ev_3 (z_usr (z_of ev_2 (z_subw (rfl : (p0 : Int32).toInt = _) (z_and (z_of ev_1 (z_usr (rfl : (p0 : Int32).toInt = _) (show (1 : Int32).toInt = 1 from by decide))) (show (1431655765 : Int32).toInt = 1431655765 from by decide)))) (show (2 : Int32).toInt = 2 from by decide))) (show (858993459 : Int32).toInt = 858993459 from by decide))) (z_of ev_4 (z_usr (z_add (t_add ((In_and (n := 858993459) (by decide) (by decide)) : In 0 858993459 (v_2 &&& 858993459)) ((In_and (n := 858993459) (by decide) (by decide)) : In 0 858993459 (v_3 &&& 858993459)) (by decide)) (z_and (z_of ev_2 (z_subw (rfl : (p0 : Int32).toInt = _) (z_and (z_of ev_1 (z_usr (rfl : (p0 : Int32).toInt = _) (show (1 : Int32).toInt = 1 from by decide))) (show (1431655765 : Int32).toInt = 1431655765 from by decide)))) (show (858993459 : Int32).toInt = 858993459 from by decide)) (z_and (z_of ev_3 (z_usr (z_of ev_2 (z_subw (rfl : (p0 : Int32).toInt = _) (z_and (z_of ev_1 (z_usr (rfl : (p0 : Int32).toInt = _) (show (1 : Int32).toInt = 1 from by decide))) (show (1431655765 : Int32).toInt = 1431655765 from by decide)))) (show (2 : Int32).toInt = 2 from by decide))) (show (858993459 : Int32).toInt = 858993459 from by decide))) (show (4 : Int32).toInt = 4 from by decide))))) (show (252645135 : Int32).toInt = 252645135 from by decide)) (z_of ev_6 (z_usr (z_and (z_of ev_5 (z_addw (z_add (t_add ((In_and (n := 858993459) (by decide) (by decide)) : In 0 858993459 (v_2 &&& 858993459)) ((In_and (n := 858993459) (by decide) (by decide)) : In 0 858993459 (v_3 &&& 858993459)) (by decide)) (z_and (z_of ev_2 (z_subw (rfl : (p0 : Int32).toInt = _) (z_and (z_of ev_1 (z_usr (rfl : (p0 : Int32).toInt = _) (show (1 : Int32).toInt = 1 from by decide))) (show (1431655765 : Int32).toInt = 1431655765 from by decide)))) (show (858993459 : Int32).toInt = 858993459 from by decide)) (z_and (z_of ev_3 (z_usr (z_of ev_2 (z_subw (rfl : (p0 : Int32).toInt = _) (z_and (z_of ev_1 (z_usr (rfl : (p0 : Int32).toInt = _) (show (1 : Int32).toInt = 1 from by decide))) (show (1431655765 : Int32).toInt = 1431655765 from by decide)))) (show (2 : Int32).toInt = 2 from by decide))) (show (858993459 : Int32).toInt = 858993459 from by decide))) (z_of ev_4 (z_usr (z_add (t_add ((In_and (n := 858993459) (by decide) (by decide)) : In 0 858993459 (v_2 &&& 858993459)) ((In_and (n := 858993459) (by decide) (by decide)) : In 0 858993459 (v_3 &&& 858993459)) (by decide)) (z_and (z_of ev_2 (z_subw (rfl : (p0 : Int32).toInt = _) (z_and (z_of ev_1 (z_usr (rfl : (p0 : Int32).toInt = _) (show (1 : Int32).toInt = 1 from by decide))) (show (1431655765 : Int32).toInt = 1431655765 from by decide)))) (show (858993459 : Int32).toInt = 858993459 from by decide)) (z_and (z_of ev_3 (z_usr (z_of ev_2 (z_subw (rfl : (p0 : Int32).toInt = _) (z_and (z_of ev_1 (z_usr (rfl : (p0 : Int32).toInt = _) (show (1 : Int32).toInt = 1 from by decide))) (show (1431655765 : Int32).toInt = 1431655765 from by decide)))) (show (2 : Int32).toInt = 2 from by decide))) (show (858993459 : Int32).toInt = 858993459 from by decide))) (show (4 : Int32).toInt = 4 from by decide))))) (show (252645135 : Int32).toInt = 252645135 from by decide)) (show (8 : Int32).toInt = 8 from by decide))))) (show (16 : Int32).toInt = 16 from by decide))))) (show (63 : Int32).toInt = 63 from by decide)) rfl)))⟩
set_option maxRecDepth 100000 in
set_option maxHeartbeats 8000000 in
theorem e_X4_tally_1_56 (l : Launch) (D : va_G) (cI cJ cZ : ClassId) (q : Nat → Nat) (bb bs bp : Nat) (w : va_W) (hW_w : HT q (TX q cI cJ cZ bb bs bp) w) (p3 : Int32) (i_p3 : In 0 39 p3) : Con_v l yX4_tally cX4_tally 5 none ({ frames := 0, cells := 0, slots := 0, locals := 0 }) D cI cJ cZ eW [.ref (q 88), .ref (q 1), .ref (q 56), .int p3] w (fun (w1 : va_W) => HT q (TX q cI cJ cZ bb bs bp) w1 ∧ Sm [88, 96] [(88, 10)] w w1 ∧ M_X4_tally_1_56 (vw w) p3.toInt 0 (vw w1)) := by
  refine eQ_v rfl (by decide) (Nat.le_of_ble_eq_true rfl) ⟨rfl, rfl⟩ ?_
  intro p e R s m args below meth c A Q hx hb hml hown hts hK hE hA hR hret hP hD hS ls hl
  have hown : s.vm.findClass RX4 = some m.cls := hown
  have hl : lv_has ls 5 [(0, .ref (q 88)), (1, .ref (q 1)), (2, .ref (q 56)), (3, .int p3)] := hl
  have J3 : ∀ (N : Nat) (x3_4 : Int32) (w3 : va_W) (H : Heap) (locs : List Loc) (ls : Array Slot), (10 - x3_4.toInt).toNat < N → HT q (TX q cI cJ cZ bb bs bp) w3 → Sm [88, 96] [(88, 10)] w w3 → (In 0 39 p3) → (In 0 10 x3_4) → (∀ (n : Nat) (r : Int) (t : PS), It_X4_tally_1_56 n 3 p3.toInt x3_4.toInt (vw w3) r t → M_X4_tally_1_56 (vw w) p3.toInt r t) → va_P D vwCl w3 H → va_D A w3 → va_S A s.heap H locs → lv_has ls 5 [(0, .ref (q 88)), (1, .ref (q 1)), (2, .ref (q 56)), (3, .int p3), (4, .int x3_4)] → W p l e R s m args below meth c H locs 0 0 Q (F0 m 3 ls []) := by
    intro N
    induction N with
    | zero => intro x3_4 w3 H locs ls hmu; exact absurd hmu (Nat.not_lt_zero _)
    | succ N ih3 =>
      intro x3_4 w3 H locs ls hmu3 hW_w3 hM_w3 i_x3_3 i_x3_4 hmi_3 hP hD hS hl
      have J58 : ∀ (w58 : va_W) (H : Heap) (locs : List Loc) (ls : Array Slot), HT q (TX q cI cJ cZ bb bs bp) w58 → Sm [88, 96] [(88, 10)] w w58 → (In 0 39 p3) → (In 0 9 x3_4) → (In 1 10 (fI w58 1 0)) → (∀ (n : Nat) (r : Int) (t : PS), It_X4_tally_1_56 n 58 p3.toInt x3_4.toInt (vw w58) r t → M_X4_tally_1_56 (vw w) p3.toInt r t) → va_P D vwCl w58 H → va_D A w58 → va_S A s.heap H locs → lv_has ls 5 [(0, .ref (q 88)), (1, .ref (q 1)), (2, .ref (q 56)), (3, .int p3), (4, .int x3_4)] → W p l e R s m args below meth c H locs 0 0 Q (F0 m 58 ls []) := by
        intro w58 H locs ls hW_w58 hM_w58 i_x58_3 i_x58_4 g58_1_0 hmi_58 hP hD hS hl
        refine lv_iinc (v := (x3_4 + 1)) (lv' := [(4, .int (x3_4 + 1)), (0, .ref (q 88)), (1, .ref (q 1)), (2, .ref (q 56)), (3, .int p3)]) hx hb dX4_tally_58 hl (k := 4) rfl (rfl) (by decide) rfl (fun ls hl => ?_)
        refine lv_goto (tgt := 3) hx hb dX4_tally_61 (by decide) ?_
        exact ih3 (x3_4 + 1) w58 _ _ ls (mu_inc hmu3 i_x58_4 (In_lit (n := 1) (by decide) (by decide) : In 1 1 1) (by decide)) hW_w58 hM_w58 i_p3 (In_w ((In_add (y := 1) i_x58_4 (In_lit (n := 1) (by decide) (by decide) : In 1 1 1) (by decide)) : In 1 10 (x3_4 + 1)) (by decide) : In 0 10 (x3_4 + 1)) (fun n r t hk => (hmi_58 (n + 1) r t (rl_X4_tally_1_56_58 (n := n) (And.intro (tyX hW_w58) (And.intro i_x58_3 (And.intro i_x58_4 (cgK_2 hk (rfl : (p3 : Int32).toInt = _) (z_add (t_add i_x58_4 (In_lit (n := 1) (by decide) (by decide) : In 1 1 1) (by decide)) (rfl : (x3_4 : Int32).toInt = _) (show (1 : Int32).toInt = 1 from by decide))))))))) hP hD hS (lv_sub hl [1, 2, 3, 4, 0] rfl)
      refine lv_iload hx hb dX4_tally_3 (lv_at hl 4 rfl) ?_
      refine lv_aload_n hx hb dX4_tally_5 rfl (lv_at hl 1 rfl) ?_
      refine gt_X1 hx hb hts hown hK hP 1 (hW_w3.o tX_1) 0 (by decide) wd_37 rfl (hW_w3.fi tX_1 rfl) dX4_tally_6 ?_
      refine tov (v := (fI w 1 0)) (hM_w3.gI (by decide)) ?_
      refine lv_icmp_ge (tgt := 64) hx hb dX4_tally_9 (by decide) (fun c_1 => ?_) (fun c_1 => ?_)
      · exact hret _ _ _ _ _ hP hD hS dX4_tally_64 ⟨hW_w3, hM_w3, (hmi_3 (0 + 1) _ _ (rl_X4_tally_1_56_3 (n := 0) (And.intro (tyX hW_w3) (And.intro i_x3_3 (And.intro i_x3_4 (Or.inl (And.intro (z_le c_1 (z_of (hM_w3.gI (by decide)).symm (hW_w3.vi tX_1 rfl)) (rfl : (x3_4 : Int32).toInt = _)) (And.intro rfl rfl))))))))⟩
      · refine lv_aload_n hx hb dX4_tally_12 rfl (lv_at hl 0 rfl) ?_
        refine gt_X4 hx hb hts hown hK hP 88 (hW_w3.o tX_88) 8 (by decide) wd_578 rfl (hW_w3.fr tX_88 rfl) dX4_tally_13 ?_
        refine lv_iload_n hx hb dX4_tally_16 rfl (lv_at hl 3 rfl) ?_
        refine va_iald hx hb hK hP 95 0 (hW_w3.a tX_95) rfl (in_I i_p3 (by decide)) dX4_tally_17 ?_
        refine lv_topi (fun v_2 ev_2 => ?_)
        refine lv_iload hx hb dX4_tally_18 (lv_at hl 4 rfl) ?_
        refine lv_ishr hx hb dX4_tally_20 ?_
        refine lv_topi (fun v_3 ev_3 => ?_)
        refine lv_iconst (v := 1) hx hb dX4_tally_21 (by decide) ?_
        refine lv_iand hx hb dX4_tally_22 ?_
        refine lv_if_eq (tgt := 58) hx hb dX4_tally_23 (by decide) (fun c_4 => ?_) (fun c_4 => ?_)
        · exact J58 w3 _ _ ls hW_w3 hM_w3 i_p3 (R_nle_r (hW_w.fin tX_1 rfl : In 0 10 (fI w 1 0)) i_x3_4 c_1 (by decide) : In 0 9 x3_4) (In_of (hM_w3.gI (by decide)) (R_nle_l (hW_w.fin tX_1 rfl : In 0 10 (fI w 1 0)) i_x3_4 c_1 (by decide) : In 1 10 (fI w 1 0))) (fun n r t hk => (hmi_3 (n + 1) r t (rl_X4_tally_1_56_3 (n := n) (And.intro (tyX hW_w3) (And.intro i_x3_3 (And.intro i_x3_4 (Or.inr (And.intro (z_nle c_1 (z_of (hM_w3.gI (by decide)).symm (hW_w3.vi tX_1 rfl)) (rfl : (x3_4 : Int32).toInt = _)) (Or.inl (And.intro (z_eq c_4 (z_and (z_of ev_3 (z_shr (z_of ev_2 ((hW_w3.va tX_95 _).trans (congrArg (vw w3 95) (z_ix (rfl : (p3 : Int32).toInt = _))))) (rfl : (x3_4 : Int32).toInt = _))) (show (1 : Int32).toInt = 1 from by decide)) (show (0 : Int32).toInt = 0 from by decide)) (cgK_2 hk (rfl : (p3 : Int32).toInt = _) (rfl : (x3_4 : Int32).toInt = _)))))))))))) hP hD hS (lv_sub hl [0, 1, 2, 3, 4] rfl)
        · refine lv_aload_n hx hb dX4_tally_26 rfl (lv_at hl 0 rfl) ?_
          refine gt_X4 hx hb hts hown hK hP 88 (hW_w3.o tX_88) 9 (by decide) wd_581 rfl (hW_w3.fr tX_88 rfl) dX4_tally_27 ?_
          refine lv_iload hx hb dX4_tally_30 (lv_at hl 4 rfl) ?_
          refine lv_dup2_11 hx hb dX4_tally_32 rfl rfl ?_
          refine va_iald hx hb hK hP 96 0 (hW_w3.a tX_96) rfl (in_I (R_nle_r (hW_w.fin tX_1 rfl : In 0 10 (fI w 1 0)) i_x3_4 c_1 (by decide) : In 0 9 x3_4) (by decide)) dX4_tally_33 ?_
          refine lv_topi (fun v_5 ev_5 => ?_)
          refine lv_iconst (v := 1) hx hb dX4_tally_34 (by decide) ?_
          refine lv_isub hx hb dX4_tally_35 ?_
          refine va_iast hx hb hK hP hD hS 96 0 (hW_w3.a tX_96) rfl (in_I (R_nle_r (hW_w.fin tX_1 rfl : In 0 10 (fI w 1 0)) i_x3_4 c_1 (by decide) : In 0 9 x3_4) (by decide)) dX4_tally_36 (fun H locs hP hD hS => fr_w (hW_w3.uA tX_96 (In_any (v_5 - 1))) hP hD (fun w_6 ew_6 hW_w_6 hP hD => ?_))
          have hv_w_6 := vw_uA hW_w3 tX_96 ew_6 (z_ix (rfl : (x3_4 : Int32).toInt = _)) (z_subw (z_of ev_5 ((hW_w3.va tX_96 _).trans (congrArg (vw w3 96) (z_ix (rfl : (x3_4 : Int32).toInt = _))))) (show (1 : Int32).toInt = 1 from by decide))
          refine lv_aload_n hx hb dX4_tally_37 rfl (lv_at hl 0 rfl) ?_
          refine lv_dup hx hb dX4_tally_38 rfl ?_
          refine gt_X4 hx hb hts hown hK hP 88 (hW_w_6.o tX_88) 10 (by decide) wd_583 rfl (hW_w_6.fi tX_88 rfl) dX4_tally_39 ?_
          refine tov (v := (fI w3 88 10)) (fI_cg (st_ne ew_6 (by decide))) ?_
          refine lv_aload_n hx hb dX4_tally_42 rfl (lv_at hl 2 rfl) ?_
          refine gt_X5 hx hb hts hown hK hP 56 (hW_w_6.o tX_56) 2 (by decide) wd_372 rfl (hW_w_6.fr tX_56 rfl) dX4_tally_43 ?_
          refine lv_iload_n hx hb dX4_tally_46 rfl (lv_at hl 3 rfl) ?_
          refine lv_bipush (v := 10) hx hb dX4_tally_47 (by decide) ?_
          refine lv_imul hx hb dX4_tally_49 ?_
          refine lv_iload hx hb dX4_tally_50 (lv_at hl 4 rfl) ?_
          refine lv_iadd hx hb dX4_tally_52 ?_
          refine va_iald hx hb hK hP 59 0 (hW_w_6.a tX_59) rfl (in_I ((In_add ((In_mulr i_p3 (n := 10) (by decide) (by decide)) : In 0 390 (p3 * 10)) (R_nle_r (hW_w.fin tX_1 rfl : In 0 10 (fI w 1 0)) i_x3_4 c_1 (by decide) : In 0 9 x3_4) (by decide)) : In 0 399 ((p3 * 10) + x3_4)) (by decide)) dX4_tally_53 ?_
          refine lv_topi (fun v_7 ev_7 => ?_)
          refine lv_iadd hx hb dX4_tally_54 ?_
          refine lv_topi (fun v_8 ev_8 => ?_)
          refine pt_X4 hx hb hts hown hK hP hD hS 88 (hW_w_6.o tX_88) 10 (by decide) wd_583 rfl rfl (ty := .int) (v := .int v_8) (by decide +kernel) rfl rfl (hW_w_6.ll tX_88 (Nat.le_of_ble_eq_true rfl)) dX4_tally_55 (fun H locs hP hD hS => fr_w (hW_w_6.sI tX_88 rfl (In_any v_8)) hP hD (fun w_9 ew_9 hW_w_9 hP hD => ?_))
          have hv_w_9 := vw_sI (j := 10) hW_w_6 tX_88 rfl ew_9 (z_of ev_8 (z_addw (hW_w3.vi tX_88 rfl) (z_of (ev_7.trans (congrFun (aF_cg (st_ne ew_6 (by decide))) _)) ((hW_w3.va tX_59 _).trans (congrArg (vw w3 59) (z_ix (z_add (t_add ((In_mulr i_p3 (n := 10) (by decide) (by decide)) : In 0 390 (p3 * 10)) (R_nle_r (hW_w.fin tX_1 rfl : In 0 10 (fI w 1 0)) i_x3_4 c_1 (by decide) : In 0 9 x3_4) (by decide)) (z_mul i_p3 (rfl : (p3 : Int32).toInt = _) (show (10 : Int32).toInt = 10 from by decide) (by decide)) (rfl : (x3_4 : Int32).toInt = _))))))))
          exact J58 w_9 _ _ ls hW_w_9 ((hM_w3.sa ew_6 (by decide)).sf (hW_w_6.lt tX_88) ew_9 (by decide)) i_p3 (R_nle_r (hW_w.fin tX_1 rfl : In 0 10 (fI w 1 0)) i_x3_4 c_1 (by decide) : In 0 9 x3_4) (In_of ((fI_cg (st_ne ew_9 (by decide))).trans ((fI_cg (st_ne ew_6 (by decide))).trans (hM_w3.gI (by decide)))) (R_nle_l (hW_w.fin tX_1 rfl : In 0 10 (fI w 1 0)) i_x3_4 c_1 (by decide) : In 1 10 (fI w 1 0))) (fun n r t hk => (hmi_3 (n + 1) r t (rl_X4_tally_1_56_3 (n := n) (And.intro (tyX hW_w3) (And.intro i_x3_3 (And.intro i_x3_4 (Or.inr (And.intro (z_nle c_1 (z_of (hM_w3.gI (by decide)).symm (hW_w3.vi tX_1 rfl)) (rfl : (x3_4 : Int32).toInt = _)) (Or.inr (And.intro (z_neq c_4 (z_and (z_of ev_3 (z_shr (z_of ev_2 ((hW_w3.va tX_95 _).trans (congrArg (vw w3 95) (z_ix (rfl : (p3 : Int32).toInt = _))))) (rfl : (x3_4 : Int32).toInt = _))) (show (1 : Int32).toInt = 1 from by decide)) (show (0 : Int32).toInt = 0 from by decide)) (Exists.intro (vw w_6) (And.intro hv_w_6 (Exists.intro (vw w_9) (And.intro hv_w_9 (cgK_2 hk (rfl : (p3 : Int32).toInt = _) (rfl : (x3_4 : Int32).toInt = _)))))))))))))))) hP hD hS (lv_sub hl [0, 1, 2, 3, 4] rfl)
  refine lv_iconst (v := 0) hx hb dX4_tally_0 (by decide) ?_
  refine lv_istore (lv' := [(4, .int 0), (0, .ref (q 88)), (1, .ref (q 1)), (2, .ref (q 56)), (3, .int p3)]) hx hb dX4_tally_1 hl (by decide) rfl (fun ls hl => ?_)
  exact J3 _ 0 w _ _ ls (Nat.lt_succ_self _) hW_w Sm.rf i_p3 (In_lit (n := 0) (by decide) (by decide) : In 0 10 0) (fun n r t hk => (mk_X4_tally_1_56 (n := n) (And.intro (tyX hW_w) (And.intro i_p3 (cgK_2 hk (rfl : (p3 : Int32).toInt = _) (show (0 : Int32).toInt = 0 from by decide)))))) hP hD hS (lv_sub hl [1, 2, 3, 4, 0] rfl)
set_option maxRecDepth 100000 in
set_option maxHeartbeats 8000000 in
theorem e_X4_keep_1_42_56_64_109 (l : Launch) (D : va_G) (cI cJ cZ : ClassId) (q : Nat → Nat) (bb bs bp : Nat) (w : va_W) (hW_w : HT q (TX q cI cJ cZ bb bs bp) w) : Con_i l yX4_keep cX4_keep 9 (some .int) ({ frames := 1, cells := 0, slots := 0, locals := 24 }) D cI cJ cZ eW [.ref (q 88), .ref (q 1), .ref (q 42), .ref (q 56), .ref (q 64), .ref (q 109)] w (fun (r : Int32) (w1 : va_W) => HT q (TX q cI cJ cZ bb bs bp) w1 ∧ Sm [88, 89, 90, 91, 92, 93, 94, 95, 96] [(88, 0), (88, 1), (88, 10), (88, 11)] w w1 ∧ M_X4_keep_1_42_56_64_109 (vw w) r.toInt (vw w1)) := by
  refine eQ_i rfl (by decide) (Nat.le_of_ble_eq_true rfl) ⟨rfl, rfl⟩ ?_
  intro p e R s m args below meth c A Q hx hb hml hown hts hK hE hA hR hret hP hD hS ls hl
  have hown : s.vm.findClass RX4 = some m.cls := hown
  have hl : lv_has ls 9 [(0, .ref (q 88)), (1, .ref (q 1)), (2, .ref (q 42)), (3, .ref (q 56)), (4, .ref (q 64)), (5, .ref (q 109))] := hl
  have J57 : ∀ (N : Nat) (x57_6 : Int32) (x57_7 : Int32) (w57 : va_W) (H : Heap) (locs : List Loc) (ls : Array Slot), (40 - x57_7.toInt).toNat < N → HT q (TX q cI cJ cZ bb bs bp) w57 → Sm [88, 89, 90, 91, 92, 93, 94, 95, 96] [(88, 0), (88, 1), (88, 10), (88, 11)] w w57 → (In 0 40 x57_7) → (fI w57 88 0 = 1) → (fI w57 88 1 = (fI w 42 2)) → (In 0 40 (fI w 42 2)) → (fI w57 88 11 = (-1)) → (∀ (n : Nat) (r : Int) (t : PS), It_X4_keep_1_42_56_64_109 n 57 x57_6.toInt x57_7.toInt 0 0 0 (vw w57) r t → M_X4_keep_1_42_56_64_109 (vw w) r t) → va_P D vwCl w57 H → va_D A w57 → va_S A s.heap H locs → lv_has ls 9 [(0, .ref (q 88)), (1, .ref (q 1)), (2, .ref (q 42)), (3, .ref (q 56)), (4, .ref (q 64)), (5, .ref (q 109)), (6, .int x57_6), (7, .int x57_7)] → W p l e R s m args below meth c H locs 0 0 Q (F0 m 57 ls []) := by
    intro N
    induction N with
    | zero => intro x57_6 x57_7 w57 H locs ls hmu; exact absurd hmu (Nat.not_lt_zero _)
    | succ N ih57 =>
      intro x57_6 x57_7 w57 H locs ls hmu57 hW_w57 hM_w57 i_x57_7 g57_88_0e g57_88_1e g57_88_1 g57_88_11e hmi_57 hP hD hS hl
      have J170 : ∀ (x170_8 : Int32) (y170_0 : Int32) (w170 : va_W) (H : Heap) (locs : List Loc) (ls : Array Slot), HT q (TX q cI cJ cZ bb bs bp) w170 → Sm [88, 89, 90, 91, 92, 93, 94, 95, 96] [(88, 0), (88, 1), (88, 10), (88, 11)] w w170 → (In 0 39 x57_7) → (In (-1) 39 x170_8) → (In 0 39 x57_7) → (fI w170 88 0 = 1) → (fI w170 88 1 = (fI w 42 2)) → (In 1 40 (fI w 42 2)) → (fI w170 88 11 = (-1)) → (∀ (n : Nat) (r : Int) (t : PS), It_X4_keep_1_42_56_64_109 n 170 x57_6.toInt x57_7.toInt x170_8.toInt y170_0.toInt x57_7.toInt (vw w170) r t → M_X4_keep_1_42_56_64_109 (vw w) r t) → va_P D vwCl w170 H → va_D A w170 → va_S A s.heap H locs → lv_has ls 9 [(0, .ref (q 88)), (1, .ref (q 1)), (2, .ref (q 42)), (3, .ref (q 56)), (4, .ref (q 64)), (5, .ref (q 109)), (6, .int x57_6), (7, .int x57_7), (8, .int x170_8)] → W p l e R s m args below meth c H locs 0 0 Q (F0 m 170 ls [.int y170_0, .int x57_7, .ref (q 95)]) := by
        intro x170_8 y170_0 w170 H locs ls hW_w170 hM_w170 i_x170_7 i_x170_8 i_y170_1 g170_88_0e g170_88_1e g170_88_1 g170_88_11e hmi_170 hP hD hS hl
        refine va_iast hx hb hK hP hD hS 95 0 (hW_w170.a tX_95) rfl (in_I i_x170_7 (by decide)) dX4_keep_170 (fun H locs hP hD hS => fr_w (hW_w170.uA tX_95 (In_any y170_0)) hP hD (fun w_1 ew_1 hW_w_1 hP hD => ?_))
        have hv_w_1 := vw_uA hW_w170 tX_95 ew_1 (z_ix (rfl : (x57_7 : Int32).toInt = _)) (rfl : (y170_0 : Int32).toInt = _)
        refine lv_aload_n hx hb dX4_keep_171 rfl (lv_at hl 0 rfl) ?_
        refine gt_X4 hx hb hts hown hK hP 88 (hW_w_1.o tX_88) 7 (by decide) wd_577 rfl (hW_w_1.fr tX_88 rfl) dX4_keep_172 ?_
        refine lv_iload hx hb dX4_keep_175 (lv_at hl 7 rfl) ?_
        refine lv_aload_n hx hb dX4_keep_177 rfl (lv_at hl 0 rfl) ?_
        refine gt_X4 hx hb hts hown hK hP 88 (hW_w_1.o tX_88) 8 (by decide) wd_578 rfl (hW_w_1.fr tX_88 rfl) dX4_keep_178 ?_
        refine lv_iload hx hb dX4_keep_181 (lv_at hl 7 rfl) ?_
        refine va_iald hx hb hK hP 95 0 (hW_w_1.a tX_95) rfl (in_I i_x170_7 (by decide)) dX4_keep_183 ?_
        refine tov (v := y170_0) (upd_at (aF_eq (hW_w170.lt tX_95) ew_1)) ?_
        refine kW_i ⟨rfl, rfl⟩ hP hD hS hA (rW_S (As := [.int y170_0]) (rest := [.int x57_7, .ref (q 94)]) hx hb hml hown hts hK hE hP hD (e_J6_bitCount_0f7a4 l D cI cJ cZ q bb bs bp w_1 hW_w_1 y170_0 _) ⟨⟨rfl, rfl⟩, rfl, rfl⟩ sv_X4_83 ⟨(Nat.le_trans (by decide) hR.1), (Nat.le_trans (by decide) hR.2)⟩ rfl hl.1 rfl (Nat.le_of_ble_eq_true rfl) dX4_keep_184) (fun r_3 w_2 H locs hw_w_2 hP hD hS => ?_)
        obtain ⟨hW_w_2, hs_w_2, i_r_3, hm_4⟩ := hw_w_2
        refine va_iast hx hb hK hP hD hS 94 0 (hW_w_2.a tX_94) rfl (in_I i_x170_7 (by decide)) dX4_keep_187 (fun H locs hP hD hS => fr_w (hW_w_2.uA tX_94 (In_w i_r_3 (by decide) : In (-2147483648) 2147483647 r_3)) hP hD (fun w_5 ew_5 hW_w_5 hP hD => ?_))
        have hv_w_5 := vw_uA hW_w_2 tX_94 ew_5 (z_ix (rfl : (x57_7 : Int32).toInt = _)) (rfl : (r_3 : Int32).toInt = _)
        refine lv_iload hx hb dX4_keep_188 (lv_at hl 6 rfl) ?_
        refine lv_aload_n hx hb dX4_keep_190 rfl (lv_at hl 0 rfl) ?_
        refine gt_X4 hx hb hts hown hK hP 88 (hW_w_5.o tX_88) 7 (by decide) wd_577 rfl (hW_w_5.fr tX_88 rfl) dX4_keep_191 ?_
        refine lv_iload hx hb dX4_keep_194 (lv_at hl 7 rfl) ?_
        refine va_iald hx hb hK hP 94 0 (hW_w_5.a tX_94) rfl (in_I i_x170_7 (by decide)) dX4_keep_196 ?_
        refine tov (v := r_3) (upd_at (aF_eq (hW_w_2.lt tX_94) ew_5)) ?_
        refine lv_iadd hx hb dX4_keep_197 ?_
        refine lv_topi (fun v_6 ev_6 => ?_)
        refine lv_istore (lv' := [(6, .int v_6), (0, .ref (q 88)), (1, .ref (q 1)), (2, .ref (q 42)), (3, .ref (q 56)), (4, .ref (q 64)), (5, .ref (q 109)), (7, .int x57_7), (8, .int x170_8)]) hx hb dX4_keep_198 hl (by decide) rfl (fun ls hl => ?_)
        refine lv_aload_n hx hb dX4_keep_200 rfl (lv_at hl 1 rfl) ?_
        refine lv_aload_n hx hb dX4_keep_201 rfl (lv_at hl 2 rfl) ?_
        refine lv_aload_n hx hb dX4_keep_202 rfl (lv_at hl 4 rfl) ?_
        refine lv_iload hx hb dX4_keep_203 (lv_at hl 7 rfl) ?_
        refine kW_v ⟨rfl, rfl⟩ hP hD hS hA (rW_V (As := [.ref (q 1), .ref (q 56), .int x57_7]) (rest := []) hx hb hml hown hts hK hE hP hD (e_X4_tally_1_56 l D cI cJ cZ q bb bs bp w_5 hW_w_5 x57_7 i_x170_7 _) ⟨⟨rfl, rfl⟩, rfl, rfl⟩ sv_X4_89 ⟨(Nat.le_trans (by decide) hR.1), (Nat.le_trans (by decide) hR.2)⟩ 88 4 (hW_w_5.o tX_88) rfl rfl rfl hl.1 rfl (Nat.le_of_ble_eq_true rfl) dX4_keep_205) (fun w_7 H locs hw_w_7 hP hD hS => ?_)
        obtain ⟨hW_w_7, hs_w_7, hm_9⟩ := hw_w_7
        refine lv_iinc (v := (x57_7 + 1)) (lv' := [(7, .int (x57_7 + 1)), (6, .int v_6), (0, .ref (q 88)), (1, .ref (q 1)), (2, .ref (q 42)), (3, .ref (q 56)), (4, .ref (q 64)), (5, .ref (q 109)), (8, .int x170_8)]) hx hb dX4_keep_208 hl (k := 7) rfl (rfl) (by decide) rfl (fun ls hl => ?_)
        refine lv_goto (tgt := 57) hx hb dX4_keep_211 (by decide) ?_
        exact ih57 v_6 (x57_7 + 1) w_7 _ _ ls (mu_inc hmu57 i_x170_7 (In_lit (n := 1) (by decide) (by decide) : In 1 1 1) (by decide)) hW_w_7 ((((hM_w170.sa ew_1 (by decide)).tr hs_w_2 (by decide)).sa ew_5 (by decide)).tr hs_w_7 (by decide)) (In_w ((In_add (y := 1) i_x170_7 (In_lit (n := 1) (by decide) (by decide) : In 1 1 1) (by decide)) : In 1 40 (x57_7 + 1)) (by decide) : In 0 40 (x57_7 + 1)) ((hs_w_7.2 88 0 (by decide) (by decide)).trans ((fI_cg (st_ne ew_5 (by decide))).trans ((hs_w_2.gI (by decide)).trans ((fI_cg (st_ne ew_1 (by decide))).trans g170_88_0e)))) ((hs_w_7.2 88 1 (by decide) (by decide)).trans ((fI_cg (st_ne ew_5 (by decide))).trans ((hs_w_2.gI (by decide)).trans ((fI_cg (st_ne ew_1 (by decide))).trans g170_88_1e)))) (In_w g170_88_1 (by decide) : In 0 40 (fI w 42 2)) ((hs_w_7.2 88 11 (by decide) (by decide)).trans ((fI_cg (st_ne ew_5 (by decide))).trans ((hs_w_2.gI (by decide)).trans ((fI_cg (st_ne ew_1 (by decide))).trans g170_88_11e)))) (fun n r t hk => (hmi_170 (n + 1) r t (rl_X4_keep_1_42_56_64_109_170 (n := n) (And.intro (tyX hW_w170) (And.intro i_x170_7 (And.intro i_x170_8 (And.intro i_y170_1 (Exists.intro (vw w_1) (And.intro hv_w_1 (Exists.intro r_3.toInt (Exists.intro (vw w_2) (And.intro (cgM_1 hm_4 (rfl : (y170_0 : Int32).toInt = _)) (And.intro (hs_w_2.Fr hW_w_1 hW_w_2 intsX_ok intsX_ok) (And.intro (tyX hW_w_2) (And.intro i_r_3 (Exists.intro (vw w_5) (And.intro hv_w_5 (Exists.intro (vw w_7) (And.intro (cgM_1 hm_9 (rfl : (x57_7 : Int32).toInt = _)) (And.intro (hs_w_7.Fr hW_w_5 hW_w_7 intsX_ok intsX_ok) (And.intro (tyX hW_w_7) (cgK_5 hk (z_of ev_6 (z_addw (rfl : (x57_6 : Int32).toInt = _) (rfl : (r_3 : Int32).toInt = _))) (z_add (t_add i_x170_7 (In_lit (n := 1) (by decide) (by decide) : In 1 1 1) (by decide)) (rfl : (x57_7 : Int32).toInt = _) (show (1 : Int32).toInt = 1 from by decide)) rfl rfl rfl)))))))))))))))))))))) hP hD hS (lv_sub hl [2, 3, 4, 5, 6, 7, 1, 0] rfl)
      refine lv_iload hx hb dX4_keep_57 (lv_at hl 7 rfl) ?_
      refine lv_aload_n hx hb dX4_keep_59 rfl (lv_at hl 0 rfl) ?_
      refine gt_X4 hx hb hts hown hK hP 88 (hW_w57.o tX_88) 1 (by decide) wd_569 rfl (hW_w57.fi tX_88 rfl) dX4_keep_60 ?_
      refine tov (v := (fI w 42 2)) g57_88_1e ?_
      refine lv_icmp_ge (tgt := 214) hx hb dX4_keep_63 (by decide) (fun c_10 => ?_) (fun c_10 => ?_)
      · refine lv_iload hx hb dX4_keep_214 (lv_at hl 6 rfl) ?_
        exact hret _ _ _ _ _ _ hP hD hS dX4_keep_216 ⟨hW_w57, hM_w57, (hmi_57 (0 + 1) _ _ (rl_X4_keep_1_42_56_64_109_57 (n := 0) (And.intro (tyX hW_w57) (And.intro i_x57_7 (Or.inl (And.intro (z_le c_10 (z_of g57_88_1e.symm (hW_w57.vi tX_88 rfl)) (rfl : (x57_7 : Int32).toInt = _)) (And.intro (rfl : (x57_6 : Int32).toInt = _) rfl)))))))⟩
      · refine lv_aload_n hx hb dX4_keep_66 rfl (lv_at hl 0 rfl) ?_
        refine gt_X4 hx hb hts hown hK hP 88 (hW_w57.o tX_88) 2 (by decide) wd_570 rfl (hW_w57.fr tX_88 rfl) dX4_keep_67 ?_
        refine lv_iload hx hb dX4_keep_70 (lv_at hl 7 rfl) ?_
        refine lv_aload_n hx hb dX4_keep_72 rfl (lv_at hl 2 rfl) ?_
        refine gt_X6 hx hb hts hown hK hP 42 (hW_w57.o tX_42) 4 (by decide) wd_299 rfl (hW_w57.fr tX_42 rfl) dX4_keep_73 ?_
        refine lv_iload hx hb dX4_keep_76 (lv_at hl 7 rfl) ?_
        refine va_iald hx hb hK hP 44 0 (hW_w57.a tX_44) rfl (in_I (R_nle_r g57_88_1 i_x57_7 c_10 (by decide) : In 0 39 x57_7) (by decide)) dX4_keep_78 ?_
        refine lv_topi (fun v_11 ev_11 => ?_)
        refine va_iast hx hb hK hP hD hS 89 0 (hW_w57.a tX_89) rfl (in_I (R_nle_r g57_88_1 i_x57_7 c_10 (by decide) : In 0 39 x57_7) (by decide)) dX4_keep_79 (fun H locs hP hD hS => fr_w (hW_w57.uA tX_89 (In_any v_11)) hP hD (fun w_12 ew_12 hW_w_12 hP hD => ?_))
        have hv_w_12 := vw_uA hW_w57 tX_89 ew_12 (z_ix (rfl : (x57_7 : Int32).toInt = _)) (z_of ev_11 ((hW_w57.va tX_44 _).trans (congrArg (vw w57 44) (z_ix (rfl : (x57_7 : Int32).toInt = _)))))
        refine lv_aload_n hx hb dX4_keep_80 rfl (lv_at hl 0 rfl) ?_
        refine gt_X4 hx hb hts hown hK hP 88 (hW_w_12.o tX_88) 3 (by decide) wd_571 rfl (hW_w_12.fr tX_88 rfl) dX4_keep_81 ?_
        refine lv_iload hx hb dX4_keep_84 (lv_at hl 7 rfl) ?_
        refine lv_aload_n hx hb dX4_keep_86 rfl (lv_at hl 2 rfl) ?_
        refine gt_X6 hx hb hts hown hK hP 42 (hW_w_12.o tX_42) 8 (by decide) wd_308 rfl (hW_w_12.fr tX_42 rfl) dX4_keep_87 ?_
        refine lv_iload hx hb dX4_keep_90 (lv_at hl 7 rfl) ?_
        refine va_iald hx hb hK hP 48 0 (hW_w_12.a tX_48) rfl (in_I (R_nle_r g57_88_1 i_x57_7 c_10 (by decide) : In 0 39 x57_7) (by decide)) dX4_keep_92 ?_
        refine lv_topi (fun v_13 ev_13 => ?_)
        refine va_iast hx hb hK hP hD hS 90 0 (hW_w_12.a tX_90) rfl (in_I (R_nle_r g57_88_1 i_x57_7 c_10 (by decide) : In 0 39 x57_7) (by decide)) dX4_keep_93 (fun H locs hP hD hS => fr_w (hW_w_12.uA tX_90 (In_any v_13)) hP hD (fun w_14 ew_14 hW_w_14 hP hD => ?_))
        have hv_w_14 := vw_uA hW_w_12 tX_90 ew_14 (z_ix (rfl : (x57_7 : Int32).toInt = _)) (z_of (ev_13.trans (congrFun (aF_cg (st_ne ew_12 (by decide))) _)) ((hW_w57.va tX_48 _).trans (congrArg (vw w57 48) (z_ix (rfl : (x57_7 : Int32).toInt = _)))))
        refine lv_aload_n hx hb dX4_keep_94 rfl (lv_at hl 0 rfl) ?_
        refine gt_X4 hx hb hts hown hK hP 88 (hW_w_14.o tX_88) 4 (by decide) wd_573 rfl (hW_w_14.fr tX_88 rfl) dX4_keep_95 ?_
        refine lv_iload hx hb dX4_keep_98 (lv_at hl 7 rfl) ?_
        refine lv_aload_n hx hb dX4_keep_100 rfl (lv_at hl 2 rfl) ?_
        refine gt_X6 hx hb hts hown hK hP 42 (hW_w_14.o tX_42) 9 (by decide) wd_310 rfl (hW_w_14.fr tX_42 rfl) dX4_keep_101 ?_
        refine lv_iload hx hb dX4_keep_104 (lv_at hl 7 rfl) ?_
        refine va_iald hx hb hK hP 49 0 (hW_w_14.a tX_49) rfl (in_I (R_nle_r g57_88_1 i_x57_7 c_10 (by decide) : In 0 39 x57_7) (by decide)) dX4_keep_106 ?_
        refine lv_topi (fun v_15 ev_15 => ?_)
        refine va_iast hx hb hK hP hD hS 91 0 (hW_w_14.a tX_91) rfl (in_I (R_nle_r g57_88_1 i_x57_7 c_10 (by decide) : In 0 39 x57_7) (by decide)) dX4_keep_107 (fun H locs hP hD hS => fr_w (hW_w_14.uA tX_91 (In_any v_15)) hP hD (fun w_16 ew_16 hW_w_16 hP hD => ?_))
        have hv_w_16 := vw_uA hW_w_14 tX_91 ew_16 (z_ix (rfl : (x57_7 : Int32).toInt = _)) (z_of (ev_15.trans (congrFun ((aF_cg (st_ne ew_14 (by decide))).trans (aF_cg (st_ne ew_12 (by decide)))) _)) ((hW_w57.va tX_49 _).trans (congrArg (vw w57 49) (z_ix (rfl : (x57_7 : Int32).toInt = _)))))
        refine lv_aload_n hx hb dX4_keep_108 rfl (lv_at hl 0 rfl) ?_
        refine gt_X4 hx hb hts hown hK hP 88 (hW_w_16.o tX_88) 5 (by decide) wd_575 rfl (hW_w_16.fr tX_88 rfl) dX4_keep_109 ?_
        refine lv_iload hx hb dX4_keep_112 (lv_at hl 7 rfl) ?_
        refine lv_aload_n hx hb dX4_keep_114 rfl (lv_at hl 3 rfl) ?_
        refine gt_X5 hx hb hts hown hK hP 56 (hW_w_16.o tX_56) 0 (by decide) wd_364 rfl (hW_w_16.fr tX_56 rfl) dX4_keep_115 ?_
        refine lv_iload hx hb dX4_keep_118 (lv_at hl 7 rfl) ?_
        refine va_iald hx hb hK hP 57 0 (hW_w_16.a tX_57) rfl (in_I (R_nle_r g57_88_1 i_x57_7 c_10 (by decide) : In 0 39 x57_7) (by decide)) dX4_keep_120 ?_
        refine lv_topi (fun v_17 ev_17 => ?_)
        refine va_iast hx hb hK hP hD hS 92 0 (hW_w_16.a tX_92) rfl (in_I (R_nle_r g57_88_1 i_x57_7 c_10 (by decide) : In 0 39 x57_7) (by decide)) dX4_keep_121 (fun H locs hP hD hS => fr_w (hW_w_16.uA tX_92 (In_any v_17)) hP hD (fun w_18 ew_18 hW_w_18 hP hD => ?_))
        have hv_w_18 := vw_uA hW_w_16 tX_92 ew_18 (z_ix (rfl : (x57_7 : Int32).toInt = _)) (z_of (ev_17.trans (congrFun (((aF_cg (st_ne ew_16 (by decide))).trans (aF_cg (st_ne ew_14 (by decide)))).trans (aF_cg (st_ne ew_12 (by decide)))) _)) ((hW_w57.va tX_57 _).trans (congrArg (vw w57 57) (z_ix (rfl : (x57_7 : Int32).toInt = _)))))
        refine lv_aload_n hx hb dX4_keep_122 rfl (lv_at hl 0 rfl) ?_
        refine gt_X4 hx hb hts hown hK hP 88 (hW_w_18.o tX_88) 6 (by decide) wd_576 rfl (hW_w_18.fr tX_88 rfl) dX4_keep_123 ?_
        refine lv_iload hx hb dX4_keep_126 (lv_at hl 7 rfl) ?_
        refine lv_aload_n hx hb dX4_keep_128 rfl (lv_at hl 3 rfl) ?_
        refine gt_X5 hx hb hts hown hK hP 56 (hW_w_18.o tX_56) 1 (by decide) wd_368 rfl (hW_w_18.fr tX_56 rfl) dX4_keep_129 ?_
        refine lv_iload hx hb dX4_keep_132 (lv_at hl 7 rfl) ?_
        refine va_iald hx hb hK hP 58 0 (hW_w_18.a tX_58) rfl (in_I (R_nle_r g57_88_1 i_x57_7 c_10 (by decide) : In 0 39 x57_7) (by decide)) dX4_keep_134 ?_
        refine lv_topi (fun v_19 ev_19 => ?_)
        refine va_iast hx hb hK hP hD hS 93 0 (hW_w_18.a tX_93) rfl (in_I (R_nle_r g57_88_1 i_x57_7 c_10 (by decide) : In 0 39 x57_7) (by decide)) dX4_keep_135 (fun H locs hP hD hS => fr_w (hW_w_18.uA tX_93 (In_any v_19)) hP hD (fun w_20 ew_20 hW_w_20 hP hD => ?_))
        have hv_w_20 := vw_uA hW_w_18 tX_93 ew_20 (z_ix (rfl : (x57_7 : Int32).toInt = _)) (z_of (ev_19.trans (congrFun ((((aF_cg (st_ne ew_18 (by decide))).trans (aF_cg (st_ne ew_16 (by decide)))).trans (aF_cg (st_ne ew_14 (by decide)))).trans (aF_cg (st_ne ew_12 (by decide)))) _)) ((hW_w57.va tX_58 _).trans (congrArg (vw w57 58) (z_ix (rfl : (x57_7 : Int32).toInt = _)))))
        refine lv_aload hx hb dX4_keep_136 (lv_at hl 4 rfl) ?_
        refine gt_X3 hx hb hts hown hK hP 64 (hW_w_20.o tX_64) 5 (by decide) wd_418 rfl (hW_w_20.fr tX_64 rfl) dX4_keep_138 ?_
        refine lv_iload hx hb dX4_keep_141 (lv_at hl 7 rfl) ?_
        refine va_iald hx hb hK hP 67 0 (hW_w_20.a tX_67) rfl (in_I (R_nle_r g57_88_1 i_x57_7 c_10 (by decide) : In 0 39 x57_7) (by decide)) dX4_keep_143 ?_
        refine lv_topi (fun v_21 ev_21 => ?_)
        refine lv_istore (lv' := [(8, .int v_21), (0, .ref (q 88)), (1, .ref (q 1)), (2, .ref (q 42)), (3, .ref (q 56)), (4, .ref (q 64)), (5, .ref (q 109)), (6, .int x57_6), (7, .int x57_7)]) hx hb dX4_keep_144 hl (by decide) rfl (fun ls hl => ?_)
        refine lv_aload_n hx hb dX4_keep_146 rfl (lv_at hl 1 rfl) ?_
        refine gt_X4 hx hb hts hown hK hP 88 (hW_w_20.o tX_88) 8 (by decide) wd_578 rfl (hW_w_20.fr tX_88 rfl) dX4_keep_147 ?_
        refine lv_iload hx hb dX4_keep_150 (lv_at hl 8 rfl) ?_
        refine lv_iload hx hb dX4_keep_152 (lv_at hl 0 rfl) ?_
        refine lv_iconst (v := (-1)) hx hb dX4_keep_154 (by decide) ?_
        refine lv_icmp_ne (tgt := 162) hx hb dX4_keep_155 (by decide) (fun c_22 => ?_) (fun c_22 => ?_)
        · refine lv_aload hx hb dX4_keep_162 (lv_at hl 5 rfl) ?_
          refine gt_X3 hx hb hts hown hK hP 64 (hW_w_20.o tX_64) 8 (by decide) wd_426 rfl (hW_w_20.fr tX_64 rfl) dX4_keep_164 ?_
          refine lv_iload hx hb dX4_keep_167 (lv_at hl 0 rfl) ?_
          refine va_iald hx hb hK hP 70 0 (hW_w_20.a tX_70) rfl (in_I (R_ne_l (In_of ev_21 (hW_w_20.ap tX_67 _) : In (-1) 39 v_21) (In_lit (n := (-1)) (by decide) (by decide) : In (-1) (-1) (-1)) c_22 (by decide) : In 0 39 v_21) (by decide)) dX4_keep_169 ?_
          refine lv_topi (fun v_23 ev_23 => ?_)
          exact J170 v_21 v_23 w_20 _ _ ls hW_w_20 (((((hM_w57.sa ew_12 (by decide)).sa ew_14 (by decide)).sa ew_16 (by decide)).sa ew_18 (by decide)).sa ew_20 (by decide)) (R_nle_r g57_88_1 i_x57_7 c_10 (by decide) : In 0 39 x57_7) (In_w (R_ne_l (In_of ev_21 (hW_w_20.ap tX_67 _) : In (-1) 39 v_21) (In_lit (n := (-1)) (by decide) (by decide) : In (-1) (-1) (-1)) c_22 (by decide) : In 0 39 v_21) (by decide) : In (-1) 39 v_21) (R_nle_r g57_88_1 i_x57_7 c_10 (by decide) : In 0 39 x57_7) ((fI_cg (st_ne ew_20 (by decide))).trans ((fI_cg (st_ne ew_18 (by decide))).trans ((fI_cg (st_ne ew_16 (by decide))).trans ((fI_cg (st_ne ew_14 (by decide))).trans ((fI_cg (st_ne ew_12 (by decide))).trans g57_88_0e))))) ((fI_cg (st_ne ew_20 (by decide))).trans ((fI_cg (st_ne ew_18 (by decide))).trans ((fI_cg (st_ne ew_16 (by decide))).trans ((fI_cg (st_ne ew_14 (by decide))).trans ((fI_cg (st_ne ew_12 (by decide))).trans g57_88_1e))))) (R_nle_l g57_88_1 i_x57_7 c_10 (by decide) : In 1 40 (fI w 42 2)) ((fI_cg (st_ne ew_20 (by decide))).trans ((fI_cg (st_ne ew_18 (by decide))).trans ((fI_cg (st_ne ew_16 (by decide))).trans ((fI_cg (st_ne ew_14 (by decide))).trans ((fI_cg (st_ne ew_12 (by decide))).trans g57_88_11e))))) (fun n r t hk => (hmi_57 (n + 1) r t (rl_X4_keep_1_42_56_64_109_57 (n := n) (And.intro (tyX hW_w57) (And.intro i_x57_7 (Or.inr (And.intro (z_nle c_10 (z_of g57_88_1e.symm (hW_w57.vi tX_88 rfl)) (rfl : (x57_7 : Int32).toInt = _)) (Exists.intro (vw w_12) (And.intro hv_w_12 (Exists.intro (vw w_14) (And.intro hv_w_14 (Exists.intro (vw w_16) (And.intro hv_w_16 (Exists.intro (vw w_18) (And.intro hv_w_18 (Exists.intro (vw w_20) (And.intro hv_w_20 (Or.inr (And.intro (z_neq c_22 (z_of (ev_21.trans (congrFun (((((aF_cg (st_ne ew_20 (by decide))).trans (aF_cg (st_ne ew_18 (by decide)))).trans (aF_cg (st_ne ew_16 (by decide)))).trans (aF_cg (st_ne ew_14 (by decide)))).trans (aF_cg (st_ne ew_12 (by decide)))) _)) ((hW_w57.va tX_67 _).trans (congrArg (vw w57 67) (z_ix (rfl : (x57_7 : Int32).toInt = _))))) (show ((-1) : Int32).toInt = (-1) from by decide)) (cgK_5 hk (rfl : (x57_6 : Int32).toInt = _) (rfl : (x57_7 : Int32).toInt = _) (z_of (ev_21.trans (congrFun (((((aF_cg (st_ne ew_20 (by decide))).trans (aF_cg (st_ne ew_18 (by decide)))).trans (aF_cg (st_ne ew_16 (by decide)))).trans (aF_cg (st_ne ew_14 (by decide)))).trans (aF_cg (st_ne ew_12 (by decide)))) _)) ((hW_w57.va tX_67 _).trans (congrArg (vw w57 67) (z_ix (rfl : (x57_7 : Int32).toInt = _))))) (z_of (ev_23.trans (congrFun (((((aF_cg (st_ne ew_20 (by decide))).trans (aF_cg (st_ne ew_18 (by decide)))).trans (aF_cg (st_ne ew_16 (by decide)))).trans (aF_cg (st_ne ew_14 (by decide)))).trans (aF_cg (st_ne ew_12 (by decide)))) _)) ((hW_w57.va tX_70 _).trans (congrArg (vw w57 70) (z_ix (z_of (ev_21.trans (congrFun (((((aF_cg (st_ne ew_20 (by decide))).trans (aF_cg (st_ne ew_18 (by decide)))).trans (aF_cg (st_ne ew_16 (by decide)))).trans (aF_cg (st_ne ew_14 (by decide)))).trans (aF_cg (st_ne ew_12 (by decide)))) _)) ((hW_w57.va tX_67 _).trans (congrArg (vw w57 67) (z_ix (rfl : (x57_7 : Int32).toInt = _))))))))) (rfl : (x57_7 : Int32).toInt = _))))))))))))))))))))) hP hD hS (lv_sub hl [1, 2, 3, 4, 5, 6, 7, 8, 0] rfl)
        · refine lv_iconst (v := 0) hx hb dX4_keep_158 (by decide) ?_
          refine lv_goto (tgt := 170) hx hb dX4_keep_159 (by decide) ?_
          exact J170 v_21 0 w_20 _ _ ls hW_w_20 (((((hM_w57.sa ew_12 (by decide)).sa ew_14 (by decide)).sa ew_16 (by decide)).sa ew_18 (by decide)).sa ew_20 (by decide)) (R_nle_r g57_88_1 i_x57_7 c_10 (by decide) : In 0 39 x57_7) (In_w (R_eq_l (In_of ev_21 (hW_w_20.ap tX_67 _) : In (-1) 39 v_21) (In_lit (n := (-1)) (by decide) (by decide) : In (-1) (-1) (-1)) c_22 (by decide) : In (-1) (-1) v_21) (by decide) : In (-1) 39 v_21) (R_nle_r g57_88_1 i_x57_7 c_10 (by decide) : In 0 39 x57_7) ((fI_cg (st_ne ew_20 (by decide))).trans ((fI_cg (st_ne ew_18 (by decide))).trans ((fI_cg (st_ne ew_16 (by decide))).trans ((fI_cg (st_ne ew_14 (by decide))).trans ((fI_cg (st_ne ew_12 (by decide))).trans g57_88_0e))))) ((fI_cg (st_ne ew_20 (by decide))).trans ((fI_cg (st_ne ew_18 (by decide))).trans ((fI_cg (st_ne ew_16 (by decide))).trans ((fI_cg (st_ne ew_14 (by decide))).trans ((fI_cg (st_ne ew_12 (by decide))).trans g57_88_1e))))) (R_nle_l g57_88_1 i_x57_7 c_10 (by decide) : In 1 40 (fI w 42 2)) ((fI_cg (st_ne ew_20 (by decide))).trans ((fI_cg (st_ne ew_18 (by decide))).trans ((fI_cg (st_ne ew_16 (by decide))).trans ((fI_cg (st_ne ew_14 (by decide))).trans ((fI_cg (st_ne ew_12 (by decide))).trans g57_88_11e))))) (fun n r t hk => (hmi_57 (n + 1) r t (rl_X4_keep_1_42_56_64_109_57 (n := n) (And.intro (tyX hW_w57) (And.intro i_x57_7 (Or.inr (And.intro (z_nle c_10 (z_of g57_88_1e.symm (hW_w57.vi tX_88 rfl)) (rfl : (x57_7 : Int32).toInt = _)) (Exists.intro (vw w_12) (And.intro hv_w_12 (Exists.intro (vw w_14) (And.intro hv_w_14 (Exists.intro (vw w_16) (And.intro hv_w_16 (Exists.intro (vw w_18) (And.intro hv_w_18 (Exists.intro (vw w_20) (And.intro hv_w_20 (Or.inl (And.intro (z_eq c_22 (z_of (ev_21.trans (congrFun (((((aF_cg (st_ne ew_20 (by decide))).trans (aF_cg (st_ne ew_18 (by decide)))).trans (aF_cg (st_ne ew_16 (by decide)))).trans (aF_cg (st_ne ew_14 (by decide)))).trans (aF_cg (st_ne ew_12 (by decide)))) _)) ((hW_w57.va tX_67 _).trans (congrArg (vw w57 67) (z_ix (rfl : (x57_7 : Int32).toInt = _))))) (show ((-1) : Int32).toInt = (-1) from by decide)) (cgK_5 hk (rfl : (x57_6 : Int32).toInt = _) (rfl : (x57_7 : Int32).toInt = _) (z_of (ev_21.trans (congrFun (((((aF_cg (st_ne ew_20 (by decide))).trans (aF_cg (st_ne ew_18 (by decide)))).trans (aF_cg (st_ne ew_16 (by decide)))).trans (aF_cg (st_ne ew_14 (by decide)))).trans (aF_cg (st_ne ew_12 (by decide)))) _)) ((hW_w57.va tX_67 _).trans (congrArg (vw w57 67) (z_ix (rfl : (x57_7 : Int32).toInt = _))))) (show (0 : Int32).toInt = 0 from by decide) (rfl : (x57_7 : Int32).toInt = _))))))))))))))))))))) hP hD hS (lv_sub hl [1, 2, 3, 4, 5, 6, 7, 8, 0] rfl)
  have J26 : ∀ (N : Nat) (x26_6 : Int32) (w26 : va_W) (H : Heap) (locs : List Loc) (ls : Array Slot), (10 - x26_6.toInt).toNat < N → HT q (TX q cI cJ cZ bb bs bp) w26 → Sm [88, 89, 90, 91, 92, 93, 94, 95, 96] [(88, 0), (88, 1), (88, 10), (88, 11)] w w26 → (In 0 10 x26_6) → (fI w26 88 0 = 1) → (fI w26 88 1 = (fI w 42 2)) → (In 0 40 (fI w 42 2)) → (fI w26 88 10 = 0) → (fI w26 88 11 = (-1)) → (∀ (n : Nat) (r : Int) (t : PS), It_X4_keep_1_42_56_64_109 n 26 x26_6.toInt 0 0 0 0 (vw w26) r t → M_X4_keep_1_42_56_64_109 (vw w) r t) → va_P D vwCl w26 H → va_D A w26 → va_S A s.heap H locs → lv_has ls 9 [(0, .ref (q 88)), (1, .ref (q 1)), (2, .ref (q 42)), (3, .ref (q 56)), (4, .ref (q 64)), (5, .ref (q 109)), (6, .int x26_6)] → W p l e R s m args below meth c H locs 0 0 Q (F0 m 26 ls []) := by
    intro N
    induction N with
    | zero => intro x26_6 w26 H locs ls hmu; exact absurd hmu (Nat.not_lt_zero _)
    | succ N ih26 =>
      intro x26_6 w26 H locs ls hmu26 hW_w26 hM_w26 i_x26_6 g26_88_0e g26_88_1e g26_88_1 g26_88_10e g26_88_11e hmi_26 hP hD hS hl
      refine lv_iload hx hb dX4_keep_26 (lv_at hl 6 rfl) ?_
      refine lv_bipush (v := 10) hx hb dX4_keep_28 (by decide) ?_
      refine lv_icmp_ge (tgt := 51) hx hb dX4_keep_30 (by decide) (fun c_24 => ?_) (fun c_24 => ?_)
      · refine lv_iconst (v := 0) hx hb dX4_keep_51 (by decide) ?_
        refine lv_istore (lv' := [(6, .int 0), (0, .ref (q 88)), (1, .ref (q 1)), (2, .ref (q 42)), (3, .ref (q 56)), (4, .ref (q 64)), (5, .ref (q 109))]) hx hb dX4_keep_52 hl (by decide) rfl (fun ls hl => ?_)
        refine lv_iconst (v := 0) hx hb dX4_keep_54 (by decide) ?_
        refine lv_istore (lv' := [(7, .int 0), (6, .int 0), (0, .ref (q 88)), (1, .ref (q 1)), (2, .ref (q 42)), (3, .ref (q 56)), (4, .ref (q 64)), (5, .ref (q 109))]) hx hb dX4_keep_55 hl (by decide) rfl (fun ls hl => ?_)
        exact J57 _ 0 0 w26 _ _ ls (Nat.lt_succ_self _) hW_w26 hM_w26 (In_lit (n := 0) (by decide) (by decide) : In 0 40 0) g26_88_0e g26_88_1e g26_88_1 g26_88_11e (fun n r t hk => (hmi_26 (n + 1) r t (rl_X4_keep_1_42_56_64_109_26 (n := n) (And.intro (tyX hW_w26) (And.intro i_x26_6 (Or.inl (And.intro (z_le c_24 (show (10 : Int32).toInt = 10 from by decide) (rfl : (x26_6 : Int32).toInt = _)) (cgK_5 hk (show (0 : Int32).toInt = 0 from by decide) (show (0 : Int32).toInt = 0 from by decide) rfl rfl rfl)))))))) hP hD hS (lv_sub hl [2, 3, 4, 5, 6, 7, 1, 0] rfl)
      · refine lv_aload_n hx hb dX4_keep_33 rfl (lv_at hl 0 rfl) ?_
        refine gt_X4 hx hb hts hown hK hP 88 (hW_w26.o tX_88) 9 (by decide) wd_581 rfl (hW_w26.fr tX_88 rfl) dX4_keep_34 ?_
        refine lv_iload hx hb dX4_keep_37 (lv_at hl 6 rfl) ?_
        refine lv_aload hx hb dX4_keep_39 (lv_at hl 5 rfl) ?_
        refine lv_iload hx hb dX4_keep_41 (lv_at hl 6 rfl) ?_
        refine va_iald hx hb hK hP 109 0 (hW_w26.a tX_109) rfl (in_I (R_nle_r (In_lit (n := 10) (by decide) (by decide) : In 10 10 10) i_x26_6 c_24 (by decide) : In 0 9 x26_6) (by decide)) dX4_keep_43 ?_
        refine lv_topi (fun v_25 ev_25 => ?_)
        refine va_iast hx hb hK hP hD hS 96 0 (hW_w26.a tX_96) rfl (in_I (R_nle_r (In_lit (n := 10) (by decide) (by decide) : In 10 10 10) i_x26_6 c_24 (by decide) : In 0 9 x26_6) (by decide)) dX4_keep_44 (fun H locs hP hD hS => fr_w (hW_w26.uA tX_96 (In_any v_25)) hP hD (fun w_26 ew_26 hW_w_26 hP hD => ?_))
        have hv_w_26 := vw_uA hW_w26 tX_96 ew_26 (z_ix (rfl : (x26_6 : Int32).toInt = _)) (z_of ev_25 ((hW_w26.va tX_109 _).trans (congrArg (vw w26 109) (z_ix (rfl : (x26_6 : Int32).toInt = _)))))
        refine lv_iinc (v := (x26_6 + 1)) (lv' := [(6, .int (x26_6 + 1)), (0, .ref (q 88)), (1, .ref (q 1)), (2, .ref (q 42)), (3, .ref (q 56)), (4, .ref (q 64)), (5, .ref (q 109))]) hx hb dX4_keep_45 hl (k := 6) rfl (rfl) (by decide) rfl (fun ls hl => ?_)
        refine lv_goto (tgt := 26) hx hb dX4_keep_48 (by decide) ?_
        exact ih26 (x26_6 + 1) w_26 _ _ ls (mu_inc hmu26 (R_nle_r (In_lit (n := 10) (by decide) (by decide) : In 10 10 10) i_x26_6 c_24 (by decide) : In 0 9 x26_6) (In_lit (n := 1) (by decide) (by decide) : In 1 1 1) (by decide)) hW_w_26 (hM_w26.sa ew_26 (by decide)) (In_w ((In_add (y := 1) (R_nle_r (In_lit (n := 10) (by decide) (by decide) : In 10 10 10) i_x26_6 c_24 (by decide) : In 0 9 x26_6) (In_lit (n := 1) (by decide) (by decide) : In 1 1 1) (by decide)) : In 1 10 (x26_6 + 1)) (by decide) : In 0 10 (x26_6 + 1)) ((fI_cg (st_ne ew_26 (by decide))).trans g26_88_0e) ((fI_cg (st_ne ew_26 (by decide))).trans g26_88_1e) g26_88_1 ((fI_cg (st_ne ew_26 (by decide))).trans g26_88_10e) ((fI_cg (st_ne ew_26 (by decide))).trans g26_88_11e) (fun n r t hk => (hmi_26 (n + 1) r t (rl_X4_keep_1_42_56_64_109_26 (n := n) (And.intro (tyX hW_w26) (And.intro i_x26_6 (Or.inr (And.intro (z_nle c_24 (show (10 : Int32).toInt = 10 from by decide) (rfl : (x26_6 : Int32).toInt = _)) (Exists.intro (vw w_26) (And.intro hv_w_26 (cgK_5 hk (z_add (t_add (R_nle_r (In_lit (n := 10) (by decide) (by decide) : In 10 10 10) i_x26_6 c_24 (by decide) : In 0 9 x26_6) (In_lit (n := 1) (by decide) (by decide) : In 1 1 1) (by decide)) (rfl : (x26_6 : Int32).toInt = _) (show (1 : Int32).toInt = 1 from by decide)) rfl rfl rfl rfl)))))))))) hP hD hS (lv_sub hl [1, 2, 3, 4, 5, 6, 0] rfl)
  refine lv_aload_n hx hb dX4_keep_0 rfl (lv_at hl 0 rfl) ?_
  refine lv_iconst (v := 1) hx hb dX4_keep_1 (by decide) ?_
  refine pt_X4 hx hb hts hown hK hP hD hS 88 (hW_w.o tX_88) 0 (by decide) wd_566 rfl rfl (ty := .boolean) (v := .int 1) (by decide +kernel) rfl rfl (hW_w.ll tX_88 (Nat.le_of_ble_eq_true rfl)) dX4_keep_2 (fun H locs hP hD hS => fr_w (hW_w.sI tX_88 rfl (In_lit (n := 1) (by decide) (by decide) : In 0 1 1)) hP hD (fun w_27 ew_27 hW_w_27 hP hD => ?_))
  have hv_w_27 := vw_sI (j := 0) hW_w tX_88 rfl ew_27 (show (1 : Int32).toInt = 1 from by decide)
  refine lv_aload_n hx hb dX4_keep_5 rfl (lv_at hl 0 rfl) ?_
  refine lv_iconst (v := (-1)) hx hb dX4_keep_6 (by decide) ?_
  refine pt_X4 hx hb hts hown hK hP hD hS 88 (hW_w_27.o tX_88) 11 (by decide) wd_584 rfl rfl (ty := .int) (v := .int (-1)) (by decide +kernel) rfl rfl (hW_w_27.ll tX_88 (Nat.le_of_ble_eq_true rfl)) dX4_keep_7 (fun H locs hP hD hS => fr_w (hW_w_27.sI tX_88 rfl (In_lit (n := (-1)) (by decide) (by decide) : In (-2147483648) 2147483647 (-1))) hP hD (fun w_28 ew_28 hW_w_28 hP hD => ?_))
  have hv_w_28 := vw_sI (j := 11) hW_w_27 tX_88 rfl ew_28 (show ((-1) : Int32).toInt = (-1) from by decide)
  refine lv_aload_n hx hb dX4_keep_10 rfl (lv_at hl 0 rfl) ?_
  refine lv_aload_n hx hb dX4_keep_11 rfl (lv_at hl 2 rfl) ?_
  refine gt_X6 hx hb hts hown hK hP 42 (hW_w_28.o tX_42) 2 (by decide) wd_293 rfl (hW_w_28.fi tX_42 rfl) dX4_keep_12 ?_
  refine tov (v := (fI w 42 2)) ((fI_cg (st_ne ew_28 (by decide))).trans (fI_cg (st_ne ew_27 (by decide)))) ?_
  refine pt_X4 hx hb hts hown hK hP hD hS 88 (hW_w_28.o tX_88) 1 (by decide) wd_569 rfl rfl (ty := .int) (v := .int (fI w 42 2)) (by decide +kernel) rfl rfl (hW_w_28.ll tX_88 (Nat.le_of_ble_eq_true rfl)) dX4_keep_15 (fun H locs hP hD hS => fr_w (hW_w_28.sI tX_88 rfl (hW_w.fin tX_42 rfl : In 0 40 (fI w 42 2))) hP hD (fun w_29 ew_29 hW_w_29 hP hD => ?_))
  have hv_w_29 := vw_sI (j := 1) hW_w_28 tX_88 rfl ew_29 (hW_w.vi tX_42 rfl)
  refine lv_aload_n hx hb dX4_keep_18 rfl (lv_at hl 0 rfl) ?_
  refine lv_iconst (v := 0) hx hb dX4_keep_19 (by decide) ?_
  refine pt_X4 hx hb hts hown hK hP hD hS 88 (hW_w_29.o tX_88) 10 (by decide) wd_583 rfl rfl (ty := .int) (v := .int 0) (by decide +kernel) rfl rfl (hW_w_29.ll tX_88 (Nat.le_of_ble_eq_true rfl)) dX4_keep_20 (fun H locs hP hD hS => fr_w (hW_w_29.sI tX_88 rfl (In_lit (n := 0) (by decide) (by decide) : In (-2147483648) 2147483647 0)) hP hD (fun w_30 ew_30 hW_w_30 hP hD => ?_))
  have hv_w_30 := vw_sI (j := 10) hW_w_29 tX_88 rfl ew_30 (show (0 : Int32).toInt = 0 from by decide)
  refine lv_iconst (v := 0) hx hb dX4_keep_23 (by decide) ?_
  refine lv_istore (lv' := [(6, .int 0), (0, .ref (q 88)), (1, .ref (q 1)), (2, .ref (q 42)), (3, .ref (q 56)), (4, .ref (q 64)), (5, .ref (q 109))]) hx hb dX4_keep_24 hl (by decide) rfl (fun ls hl => ?_)
  exact J26 _ 0 w_30 _ _ ls (Nat.lt_succ_self _) hW_w_30 ((((Sm.rf.sf (hW_w.lt tX_88) ew_27 (by decide)).sf (hW_w_27.lt tX_88) ew_28 (by decide)).sf (hW_w_28.lt tX_88) ew_29 (by decide)).sf (hW_w_29.lt tX_88) ew_30 (by decide)) (In_lit (n := 0) (by decide) (by decide) : In 0 10 0) ((fI_nej (hW_w_29.lt tX_88) ew_30 (by decide)).trans ((fI_nej (hW_w_28.lt tX_88) ew_29 (by decide)).trans ((fI_nej (hW_w_27.lt tX_88) ew_28 (by decide)).trans (fI_eq (hW_w.lt tX_88) ew_27 (hW_w.ll tX_88 (Nat.le_of_ble_eq_true rfl)))))) ((fI_nej (hW_w_29.lt tX_88) ew_30 (by decide)).trans (fI_eq (hW_w_28.lt tX_88) ew_29 (hW_w_28.ll tX_88 (Nat.le_of_ble_eq_true rfl)))) (hW_w.fin tX_42 rfl : In 0 40 (fI w 42 2)) (fI_eq (hW_w_29.lt tX_88) ew_30 (hW_w_29.ll tX_88 (Nat.le_of_ble_eq_true rfl))) ((fI_nej (hW_w_29.lt tX_88) ew_30 (by decide)).trans ((fI_nej (hW_w_28.lt tX_88) ew_29 (by decide)).trans (fI_eq (hW_w_27.lt tX_88) ew_28 (hW_w_27.ll tX_88 (Nat.le_of_ble_eq_true rfl))))) (fun n r t hk => (mk_X4_keep_1_42_56_64_109 (n := n) (And.intro (tyX hW_w) (Exists.intro (vw w_27) (And.intro hv_w_27 (Exists.intro (vw w_28) (And.intro hv_w_28 (Exists.intro (vw w_29) (And.intro hv_w_29 (Exists.intro (vw w_30) (And.intro hv_w_30 (cgK_5 hk (show (0 : Int32).toInt = 0 from by decide) rfl rfl rfl rfl)))))))))))) hP hD hS (lv_sub hl [1, 2, 3, 4, 5, 6, 0] rfl)
set_option maxRecDepth 100000 in
set_option maxHeartbeats 8000000 in
theorem e_X6_addCome_109 (l : Launch) (D : va_G) (cI cJ cZ : ClassId) (q : Nat → Nat) (bb bs bp : Nat) (w : va_W) (hW_w : HT q (TX q cI cJ cZ bb bs bp) w) (p2 : Int32) (p3 : Int32) (i_p2 : In 1 24 p2) (i_p3 : In 0 10 p3) : Con_v l yX6_addCome cX6_addCome 5 none ({ frames := 0, cells := 0, slots := 0, locals := 0 }) D cI cJ cZ eW [.ref (q 42), .ref (q 109), .int p2, .int p3] w (fun (w1 : va_W) => HT q (TX q cI cJ cZ bb bs bp) w1 ∧ Sm [109] [] w w1 ∧ M_X6_addCome_109 (vw w) p2.toInt p3.toInt 0 (vw w1)) := by
  refine eQ_v rfl (by decide) (Nat.le_of_ble_eq_true rfl) ⟨rfl, rfl⟩ ?_
  intro p e R s m args below meth c A Q hx hb hml hown hts hK hE hA hR hret hP hD hS ls hl
  have hown : s.vm.findClass RX6 = some m.cls := hown
  have hl : lv_has ls 5 [(0, .ref (q 42)), (1, .ref (q 109)), (2, .int p2), (3, .int p3)] := hl
  have J3 : ∀ (N : Nat) (x3_4 : Int32) (w3 : va_W) (H : Heap) (locs : List Loc) (ls : Array Slot), (10 - x3_4.toInt).toNat < N → HT q (TX q cI cJ cZ bb bs bp) w3 → Sm [109] [] w w3 → (In 1 24 p2) → (In 0 10 p3) → (In 0 10 x3_4) → (∀ (n : Nat) (r : Int) (t : PS), It_X6_addCome_109 n p2.toInt p3.toInt x3_4.toInt (vw w3) r t → M_X6_addCome_109 (vw w) p2.toInt p3.toInt r t) → va_P D vwCl w3 H → va_D A w3 → va_S A s.heap H locs → lv_has ls 5 [(0, .ref (q 42)), (1, .ref (q 109)), (2, .int p2), (3, .int p3), (4, .int x3_4)] → W p l e R s m args below meth c H locs 0 0 Q (F0 m 3 ls []) := by
    intro N
    induction N with
    | zero => intro x3_4 w3 H locs ls hmu; exact absurd hmu (Nat.not_lt_zero _)
    | succ N ih3 =>
      intro x3_4 w3 H locs ls hmu3 hW_w3 hM_w3 i_x3_2 i_x3_3 i_x3_4 hmi_3 hP hD hS hl
      refine lv_iload hx hb dX6_addCome_3 (lv_at hl 4 rfl) ?_
      refine lv_iload_n hx hb dX6_addCome_5 rfl (lv_at hl 3 rfl) ?_
      refine lv_icmp_ge (tgt := 34) hx hb dX6_addCome_6 (by decide) (fun c_1 => ?_) (fun c_1 => ?_)
      · exact hret _ _ _ _ _ hP hD hS dX6_addCome_34 ⟨hW_w3, hM_w3, (hmi_3 (0 + 1) _ _ (rl_X6_addCome_109_3 (n := 0) (And.intro (tyX hW_w3) (And.intro i_x3_2 (And.intro i_x3_3 (And.intro i_x3_4 (Or.inl (And.intro (z_le c_1 (rfl : (p3 : Int32).toInt = _) (rfl : (x3_4 : Int32).toInt = _)) (And.intro rfl rfl)))))))))⟩
      · refine lv_aload_n hx hb dX6_addCome_9 rfl (lv_at hl 1 rfl) ?_
        refine lv_iload hx hb dX6_addCome_10 (lv_at hl 4 rfl) ?_
        refine lv_dup2_11 hx hb dX6_addCome_12 rfl rfl ?_
        refine va_iald hx hb hK hP 109 0 (hW_w3.a tX_109) rfl (in_I (R_nle_r i_p3 i_x3_4 c_1 (by decide) : In 0 9 x3_4) (by decide)) dX6_addCome_13 ?_
        refine lv_topi (fun v_2 ev_2 => ?_)
        refine lv_aload_n hx hb dX6_addCome_14 rfl (lv_at hl 0 rfl) ?_
        refine gt_X6 hx hb hts hown hK hP 42 (hW_w3.o tX_42) 14 (by decide) wd_321 rfl (hW_w3.fr tX_42 rfl) dX6_addCome_15 ?_
        refine lv_iload hx hb dX6_addCome_18 (lv_at hl 4 rfl) ?_
        refine lv_bipush (v := 25) hx hb dX6_addCome_20 (by decide) ?_
        refine lv_imul hx hb dX6_addCome_22 ?_
        refine lv_iload_n hx hb dX6_addCome_23 rfl (lv_at hl 2 rfl) ?_
        refine lv_iadd hx hb dX6_addCome_24 ?_
        refine va_iald hx hb hK hP 54 0 (hW_w3.a tX_54) rfl (in_I ((In_add ((In_mulr (R_nle_r i_p3 i_x3_4 c_1 (by decide) : In 0 9 x3_4) (n := 25) (by decide) (by decide)) : In 0 225 (x3_4 * 25)) i_p2 (by decide)) : In 1 249 ((x3_4 * 25) + p2)) (by decide)) dX6_addCome_25 ?_
        refine lv_topi (fun v_3 ev_3 => ?_)
        refine lv_iadd hx hb dX6_addCome_26 ?_
        refine lv_topi (fun v_4 ev_4 => ?_)
        refine va_iast hx hb hK hP hD hS 109 0 (hW_w3.a tX_109) rfl (in_I (R_nle_r i_p3 i_x3_4 c_1 (by decide) : In 0 9 x3_4) (by decide)) dX6_addCome_27 (fun H locs hP hD hS => fr_w (hW_w3.uA tX_109 (In_any v_4)) hP hD (fun w_5 ew_5 hW_w_5 hP hD => ?_))
        have hv_w_5 := vw_uA hW_w3 tX_109 ew_5 (z_ix (rfl : (x3_4 : Int32).toInt = _)) (z_of ev_4 (z_addw (z_of ev_2 ((hW_w3.va tX_109 _).trans (congrArg (vw w3 109) (z_ix (rfl : (x3_4 : Int32).toInt = _))))) (z_of ev_3 ((hW_w3.va tX_54 _).trans (congrArg (vw w3 54) (z_ix (z_add (t_add ((In_mulr (R_nle_r i_p3 i_x3_4 c_1 (by decide) : In 0 9 x3_4) (n := 25) (by decide) (by decide)) : In 0 225 (x3_4 * 25)) i_p2 (by decide)) (z_mul (R_nle_r i_p3 i_x3_4 c_1 (by decide) : In 0 9 x3_4) (rfl : (x3_4 : Int32).toInt = _) (show (25 : Int32).toInt = 25 from by decide) (by decide)) (rfl : (p2 : Int32).toInt = _))))))))
        refine lv_iinc (v := (x3_4 + 1)) (lv' := [(4, .int (x3_4 + 1)), (0, .ref (q 42)), (1, .ref (q 109)), (2, .int p2), (3, .int p3)]) hx hb dX6_addCome_28 hl (k := 4) rfl (rfl) (by decide) rfl (fun ls hl => ?_)
        refine lv_goto (tgt := 3) hx hb dX6_addCome_31 (by decide) ?_
        exact ih3 (x3_4 + 1) w_5 _ _ ls (mu_inc hmu3 (R_nle_r i_p3 i_x3_4 c_1 (by decide) : In 0 9 x3_4) (In_lit (n := 1) (by decide) (by decide) : In 1 1 1) (by decide)) hW_w_5 (hM_w3.sa ew_5 (by decide)) i_p2 (In_w (R_nle_l i_p3 i_x3_4 c_1 (by decide) : In 1 10 p3) (by decide) : In 0 10 p3) (In_w ((In_add (y := 1) (R_nle_r i_p3 i_x3_4 c_1 (by decide) : In 0 9 x3_4) (In_lit (n := 1) (by decide) (by decide) : In 1 1 1) (by decide)) : In 1 10 (x3_4 + 1)) (by decide) : In 0 10 (x3_4 + 1)) (fun n r t hk => (hmi_3 (n + 1) r t (rl_X6_addCome_109_3 (n := n) (And.intro (tyX hW_w3) (And.intro i_x3_2 (And.intro i_x3_3 (And.intro i_x3_4 (Or.inr (And.intro (z_nle c_1 (rfl : (p3 : Int32).toInt = _) (rfl : (x3_4 : Int32).toInt = _)) (Exists.intro (vw w_5) (And.intro hv_w_5 (cgK_3 hk (rfl : (p2 : Int32).toInt = _) (rfl : (p3 : Int32).toInt = _) (z_add (t_add (R_nle_r i_p3 i_x3_4 c_1 (by decide) : In 0 9 x3_4) (In_lit (n := 1) (by decide) (by decide) : In 1 1 1) (by decide)) (rfl : (x3_4 : Int32).toInt = _) (show (1 : Int32).toInt = 1 from by decide)))))))))))))) hP hD hS (lv_sub hl [1, 2, 3, 4, 0] rfl)
  refine lv_iconst (v := 0) hx hb dX6_addCome_0 (by decide) ?_
  refine lv_istore (lv' := [(4, .int 0), (0, .ref (q 42)), (1, .ref (q 109)), (2, .int p2), (3, .int p3)]) hx hb dX6_addCome_1 hl (by decide) rfl (fun ls hl => ?_)
  exact J3 _ 0 w _ _ ls (Nat.lt_succ_self _) hW_w Sm.rf i_p2 i_p3 (In_lit (n := 0) (by decide) (by decide) : In 0 10 0) (fun n r t hk => (mk_X6_addCome_109 (n := n) (And.intro (tyX hW_w) (And.intro i_p2 (And.intro i_p3 (cgK_3 hk (rfl : (p2 : Int32).toInt = _) (rfl : (p3 : Int32).toInt = _) (show (0 : Int32).toInt = 0 from by decide))))))) hP hD hS (lv_sub hl [1, 2, 3, 4, 0] rfl)
set_option maxRecDepth 100000 in
set_option maxHeartbeats 8000000 in
theorem e_J7_fill_53178_82 (l : Launch) (D : va_G) (cI cJ cZ : ClassId) (q : Nat → Nat) (bb bs bp : Nat) (w : va_W) (hW_w : HT q (TX q cI cJ cZ bb bs bp) w) (p1 : Int32) (i_p1 : In 0 0 p1) (hf_64_1 : In 1 40 (fI w 64 1)) (hf_64_2 : In 1 24 (fI w 64 2)) : Con_v l yJ7_fill_53178 cJ7_fill_53178 4 none ({ frames := 0, cells := 0, slots := 0, locals := 0 }) D cI cJ cZ eW [.ref (q 82), .int p1] w (fun (w1 : va_W) => HT q (TX q cI cJ cZ bb bs bp) w1 ∧ Sm [82] [] w w1 ∧ ((∀ i : Nat, i < 40 → aF w1 82 i = p1)) ∧ M_J7_fill_53178_82 (vw w) p1.toInt 0 (vw w1)) := by
  refine eQ_v rfl (by decide) (Nat.le_of_ble_eq_true rfl) ⟨rfl, rfl⟩ ?_
  intro p e R s m args below meth c A Q hx hb hml hown hts hK hE hA hR hret hP hD hS ls hl
  have hown : s.vm.findClass RJ7 = some m.cls := hown
  have hl : lv_has ls 4 [(0, .ref (q 82)), (1, .int p1)] := hl
  have J5 : ∀ (N : Nat) (x5_2 : Int32) (x5_3 : Int32) (w5 : va_W) (H : Heap) (locs : List Loc) (ls : Array Slot), (40 - x5_2.toInt).toNat < N → HT q (TX q cI cJ cZ bb bs bp) w5 → Sm [82] [] w w5 → (In 0 0 p1) → (In 0 40 x5_2) → (In 40 40 x5_3) → (In 1 40 (fI w5 64 1)) → (In 1 24 (fI w5 64 2)) → (∀ i : Nat, i < (x5_2 : Int32).toInt.toNat → aF w5 82 i = p1) → (∀ (n : Nat) (r : Int) (t : PS), It_J7_fill_53178_82 n p1.toInt x5_2.toInt x5_3.toInt (vw w5) r t → M_J7_fill_53178_82 (vw w) p1.toInt r t) → va_P D vwCl w5 H → va_D A w5 → va_S A s.heap H locs → lv_has ls 4 [(0, .ref (q 82)), (1, .int p1), (2, .int x5_2), (3, .int x5_3)] → W p l e R s m args below meth c H locs 0 0 Q (F0 m 5 ls []) := by
    intro N
    induction N with
    | zero => intro x5_2 x5_3 w5 H locs ls hmu; exact absurd hmu (Nat.not_lt_zero _)
    | succ N ih5 =>
      intro x5_2 x5_3 w5 H locs ls hmu5 hW_w5 hM_w5 i_x5_1 i_x5_2 i_x5_3 g5_64_1 g5_64_2 hj_5 hmi_5 hP hD hS hl
      refine lv_iload_n hx hb dJ7_fill_53178_5 rfl (lv_at hl 2 rfl) ?_
      refine lv_iload_n hx hb dJ7_fill_53178_6 rfl (lv_at hl 3 rfl) ?_
      refine lv_icmp_ge (tgt := 20) hx hb dJ7_fill_53178_7 (by decide) (fun c_1 => ?_) (fun c_1 => ?_)
      · have lb_c_1 : (x5_3 : Int32).toInt ≤ (x5_2 : Int32).toInt := q_le.mp c_1
        exact hret _ _ _ _ _ hP hD hS dJ7_fill_53178_20 ⟨hW_w5, hM_w5, (fun i hi => hj_5 i (by have q := i_x5_3; unfold In at q; omega)), (hmi_5 (0 + 1) _ _ (rl_J7_fill_53178_82_5 (n := 0) (And.intro (tyX hW_w5) (And.intro i_x5_1 (And.intro i_x5_2 (And.intro i_x5_3 (Or.inl (And.intro (z_le c_1 (rfl : (x5_3 : Int32).toInt = _) (rfl : (x5_2 : Int32).toInt = _)) (And.intro rfl rfl)))))))))⟩
      · have lb_c_1 : ¬ (x5_3 : Int32).toInt ≤ (x5_2 : Int32).toInt := fun h => c_1 (q_le.mpr h)
        refine lv_aload_n hx hb dJ7_fill_53178_10 rfl (lv_at hl 0 rfl) ?_
        refine lv_iload_n hx hb dJ7_fill_53178_11 rfl (lv_at hl 2 rfl) ?_
        refine lv_iload_n hx hb dJ7_fill_53178_12 rfl (lv_at hl 1 rfl) ?_
        refine va_iast hx hb hK hP hD hS 82 0 (hW_w5.a tX_82) rfl (in_I (R_nle_r i_x5_3 i_x5_2 c_1 (by decide) : In 0 39 x5_2) (by decide)) dJ7_fill_53178_13 (fun H locs hP hD hS => fr_w (hW_w5.uA tX_82 (In_w i_p1 (by decide) : In (-2147483648) 2147483647 p1)) hP hD (fun w_2 ew_2 hW_w_2 hP hD => ?_))
        have hv_w_2 := vw_uA hW_w5 tX_82 ew_2 (z_ix (rfl : (x5_2 : Int32).toInt = _)) (rfl : (p1 : Int32).toInt = _)
        refine lv_iinc (v := (x5_2 + 1)) (lv' := [(2, .int (x5_2 + 1)), (0, .ref (q 82)), (1, .int p1), (3, .int x5_3)]) hx hb dJ7_fill_53178_14 hl (k := 2) rfl (rfl) (by decide) rfl (fun ls hl => ?_)
        refine lv_goto (tgt := 5) hx hb dJ7_fill_53178_17 (by decide) ?_
        exact ih5 (x5_2 + 1) x5_3 w_2 _ _ ls (mu_inc hmu5 (R_nle_r i_x5_3 i_x5_2 c_1 (by decide) : In 0 39 x5_2) (In_lit (n := 1) (by decide) (by decide) : In 1 1 1) (by decide)) hW_w_2 (hM_w5.sa ew_2 (by decide)) i_p1 (In_w ((In_add (y := 1) (R_nle_r i_x5_3 i_x5_2 c_1 (by decide) : In 0 39 x5_2) (In_lit (n := 1) (by decide) (by decide) : In 1 1 1) (by decide)) : In 1 40 (x5_2 + 1)) (by decide) : In 0 40 (x5_2 + 1)) i_x5_3 (In_of ((fI_cg (st_ne ew_2 (by decide))).trans (hM_w5.gI (by decide))) (In_of (hM_w5.gI (by decide)).symm g5_64_1)) (In_of ((fI_cg (st_ne ew_2 (by decide))).trans (hM_w5.gI (by decide))) (In_of (hM_w5.gI (by decide)).symm g5_64_2)) (fill_si (R_nle_r i_x5_3 i_x5_2 c_1 (by decide) : In 0 39 x5_2) hj_5 (aF_eq (hW_w5.lt tX_82) ew_2)) (fun n r t hk => (hmi_5 (n + 1) r t (rl_J7_fill_53178_82_5 (n := n) (And.intro (tyX hW_w5) (And.intro i_x5_1 (And.intro i_x5_2 (And.intro i_x5_3 (Or.inr (And.intro (z_nle c_1 (rfl : (x5_3 : Int32).toInt = _) (rfl : (x5_2 : Int32).toInt = _)) (Exists.intro (vw w_2) (And.intro hv_w_2 (cgK_3 hk (rfl : (p1 : Int32).toInt = _) (z_add (t_add (R_nle_r i_x5_3 i_x5_2 c_1 (by decide) : In 0 39 x5_2) (In_lit (n := 1) (by decide) (by decide) : In 1 1 1) (by decide)) (rfl : (x5_2 : Int32).toInt = _) (show (1 : Int32).toInt = 1 from by decide)) (rfl : (x5_3 : Int32).toInt = _))))))))))))) hP hD hS (lv_sub hl [1, 2, 0, 3] rfl)
  refine lv_iconst (v := 0) hx hb dJ7_fill_53178_0 (by decide) ?_
  refine lv_istore_n (lv' := [(2, .int 0), (0, .ref (q 82)), (1, .int p1)]) hx hb dJ7_fill_53178_1 rfl hl (by decide) rfl (fun ls hl => ?_)
  refine lv_aload_n hx hb dJ7_fill_53178_2 rfl (lv_at hl 1 rfl) ?_
  refine va_alen hx hb hK hP 82 0 (hW_w.a tX_82) rfl (v := 40) (by show Int32.ofNat 40 = 40; decide) dJ7_fill_53178_3 ?_
  refine lv_istore_n (lv' := [(3, .int 40), (2, .int 0), (0, .ref (q 82)), (1, .int p1)]) hx hb dJ7_fill_53178_4 rfl hl (by decide) rfl (fun ls hl => ?_)
  exact J5 _ 0 40 w _ _ ls (Nat.lt_succ_self _) hW_w Sm.rf i_p1 (In_lit (n := 0) (by decide) (by decide) : In 0 40 0) (In_lit (n := 40) (by decide) (by decide) : In 40 40 40) hf_64_1 hf_64_2 (fun i h => absurd h (by have z : (0 : Int32).toInt = 0 := (by decide); omega)) (fun n r t hk => (mk_J7_fill_53178_82 (n := n) (And.intro (tyX hW_w) (And.intro i_p1 (cgK_3 hk (rfl : (p1 : Int32).toInt = _) (show (0 : Int32).toInt = 0 from by decide) (show (40 : Int32).toInt = 40 from by decide)))))) hP hD hS (lv_sub hl [2, 3, 1, 0] rfl)
set_option maxRecDepth 100000 in
set_option maxHeartbeats 8000000 in
theorem e_J7_fill_d0a16_75 (l : Launch) (D : va_G) (cI cJ cZ : ClassId) (q : Nat → Nat) (bb bs bp : Nat) (w : va_W) (hW_w : HT q (TX q cI cJ cZ bb bs bp) w) (p1 : Int64) (hf_64_1 : In 1 40 (fI w 64 1)) (hf_64_2 : In 1 24 (fI w 64 2)) : Con_v l yJ7_fill_d0a16 cJ7_fill_d0a16 5 none ({ frames := 0, cells := 0, slots := 0, locals := 0 }) D cI cJ cZ eW [.ref (q 75), .long p1] w (fun (w1 : va_W) => HT q (TX q cI cJ cZ bb bs bp) w1 ∧ Sm [75] [] w w1 ∧ ((∀ i : Nat, i < 40 → aL w1 75 i = p1)) ∧ M_J7_fill_d0a16_75 (vw w) p1.toInt 0 (vw w1)) := by
  refine eQ_v rfl (by decide) (Nat.le_of_ble_eq_true rfl) ⟨rfl, rfl⟩ ?_
  intro p e R s m args below meth c A Q hx hb hml hown hts hK hE hA hR hret hP hD hS ls hl
  have hown : s.vm.findClass RJ7 = some m.cls := hown
  have hl : lv_has ls 5 [(0, .ref (q 75)), (1, .long p1)] := hl
  have J6 : ∀ (N : Nat) (x6_3 : Int32) (x6_4 : Int32) (w6 : va_W) (H : Heap) (locs : List Loc) (ls : Array Slot), (40 - x6_3.toInt).toNat < N → HT q (TX q cI cJ cZ bb bs bp) w6 → Sm [75] [] w w6 → (In 0 40 x6_3) → (In 40 40 x6_4) → (In 1 40 (fI w6 64 1)) → (In 1 24 (fI w6 64 2)) → (∀ i : Nat, i < (x6_3 : Int32).toInt.toNat → aL w6 75 i = p1) → (∀ (n : Nat) (r : Int) (t : PS), It_J7_fill_d0a16_75 n p1.toInt x6_3.toInt x6_4.toInt (vw w6) r t → M_J7_fill_d0a16_75 (vw w) p1.toInt r t) → va_P D vwCl w6 H → va_D A w6 → va_S A s.heap H locs → lv_has ls 5 [(0, .ref (q 75)), (1, .long p1), (3, .int x6_3), (4, .int x6_4)] → W p l e R s m args below meth c H locs 0 0 Q (F0 m 6 ls []) := by
    intro N
    induction N with
    | zero => intro x6_3 x6_4 w6 H locs ls hmu; exact absurd hmu (Nat.not_lt_zero _)
    | succ N ih6 =>
      intro x6_3 x6_4 w6 H locs ls hmu6 hW_w6 hM_w6 i_x6_3 i_x6_4 g6_64_1 g6_64_2 hj_6 hmi_6 hP hD hS hl
      refine lv_iload_n hx hb dJ7_fill_d0a16_6 rfl (lv_at hl 2 rfl) ?_
      refine lv_iload hx hb dJ7_fill_d0a16_7 (lv_at hl 3 rfl) ?_
      refine lv_icmp_ge (tgt := 22) hx hb dJ7_fill_d0a16_9 (by decide) (fun c_1 => ?_) (fun c_1 => ?_)
      · have lb_c_1 : (x6_4 : Int32).toInt ≤ (x6_3 : Int32).toInt := q_le.mp c_1
        exact hret _ _ _ _ _ hP hD hS dJ7_fill_d0a16_22 ⟨hW_w6, hM_w6, (fun i hi => hj_6 i (by have q := i_x6_4; unfold In at q; omega)), (hmi_6 (0 + 1) _ _ (rl_J7_fill_d0a16_75_6 (n := 0) (And.intro (tyX hW_w6) (And.intro i_x6_3 (And.intro i_x6_4 (Or.inl (And.intro (z_le c_1 (rfl : (x6_4 : Int32).toInt = _) (rfl : (x6_3 : Int32).toInt = _)) (And.intro rfl rfl))))))))⟩
      · have lb_c_1 : ¬ (x6_4 : Int32).toInt ≤ (x6_3 : Int32).toInt := fun h => c_1 (q_le.mpr h)
        refine lv_aload_n hx hb dJ7_fill_d0a16_12 rfl (lv_at hl 0 rfl) ?_
        refine lv_iload_n hx hb dJ7_fill_d0a16_13 rfl (lv_at hl 2 rfl) ?_
        refine lv_lload_n hx hb dJ7_fill_d0a16_14 rfl (lv_at hl 1 rfl) ?_
        refine va_last hx hb hK hP hD hS 75 1 (hW_w6.al tX_75) rfl (in_I (R_nle_r i_x6_4 i_x6_3 c_1 (by decide) : In 0 39 x6_3) (by decide)) dJ7_fill_d0a16_15 (fun H locs hP hD hS => fr_w (hW_w6.uL tX_75) hP hD (fun w_2 ew_2 hW_w_2 hP hD => ?_))
        have hv_w_2 := vw_uL hW_w6 tX_75 ew_2 (z_ix (rfl : (x6_3 : Int32).toInt = _)) (rfl : (p1 : Int64).toInt = _)
        refine lv_iinc (v := (x6_3 + 1)) (lv' := [(3, .int (x6_3 + 1)), (0, .ref (q 75)), (1, .long p1), (4, .int x6_4)]) hx hb dJ7_fill_d0a16_16 hl (k := 2) rfl (rfl) (by decide) rfl (fun ls hl => ?_)
        refine lv_goto (tgt := 6) hx hb dJ7_fill_d0a16_19 (by decide) ?_
        exact ih6 (x6_3 + 1) x6_4 w_2 _ _ ls (mu_inc hmu6 (R_nle_r i_x6_4 i_x6_3 c_1 (by decide) : In 0 39 x6_3) (In_lit (n := 1) (by decide) (by decide) : In 1 1 1) (by decide)) hW_w_2 (hM_w6.sa ew_2 (by decide)) (In_w ((In_add (y := 1) (R_nle_r i_x6_4 i_x6_3 c_1 (by decide) : In 0 39 x6_3) (In_lit (n := 1) (by decide) (by decide) : In 1 1 1) (by decide)) : In 1 40 (x6_3 + 1)) (by decide) : In 0 40 (x6_3 + 1)) i_x6_4 (In_of ((fI_cg (st_ne ew_2 (by decide))).trans (hM_w6.gI (by decide))) (In_of (hM_w6.gI (by decide)).symm g6_64_1)) (In_of ((fI_cg (st_ne ew_2 (by decide))).trans (hM_w6.gI (by decide))) (In_of (hM_w6.gI (by decide)).symm g6_64_2)) (fill_st (R_nle_r i_x6_4 i_x6_3 c_1 (by decide) : In 0 39 x6_3) hj_6 (aL_eq (hW_w6.lt tX_75) ew_2)) (fun n r t hk => (hmi_6 (n + 1) r t (rl_J7_fill_d0a16_75_6 (n := n) (And.intro (tyX hW_w6) (And.intro i_x6_3 (And.intro i_x6_4 (Or.inr (And.intro (z_nle c_1 (rfl : (x6_4 : Int32).toInt = _) (rfl : (x6_3 : Int32).toInt = _)) (Exists.intro (vw w_2) (And.intro hv_w_2 (cgK_3 hk (rfl : (p1 : Int64).toInt = _) (z_add (t_add (R_nle_r i_x6_4 i_x6_3 c_1 (by decide) : In 0 39 x6_3) (In_lit (n := 1) (by decide) (by decide) : In 1 1 1) (by decide)) (rfl : (x6_3 : Int32).toInt = _) (show (1 : Int32).toInt = 1 from by decide)) (rfl : (x6_4 : Int32).toInt = _)))))))))))) hP hD hS (lv_sub hl [1, 2, 0, 3] rfl)
  refine lv_iconst (v := 0) hx hb dJ7_fill_d0a16_0 (by decide) ?_
  refine lv_istore_n (lv' := [(3, .int 0), (0, .ref (q 75)), (1, .long p1)]) hx hb dJ7_fill_d0a16_1 rfl hl (by decide) rfl (fun ls hl => ?_)
  refine lv_aload_n hx hb dJ7_fill_d0a16_2 rfl (lv_at hl 1 rfl) ?_
  refine va_alen hx hb hK hP 75 1 (hW_w.al tX_75) rfl (v := 40) (by show Int32.ofNat 40 = 40; decide) dJ7_fill_d0a16_3 ?_
  refine lv_istore (lv' := [(4, .int 40), (3, .int 0), (0, .ref (q 75)), (1, .long p1)]) hx hb dJ7_fill_d0a16_4 hl (by decide) rfl (fun ls hl => ?_)
  exact J6 _ 0 40 w _ _ ls (Nat.lt_succ_self _) hW_w Sm.rf (In_lit (n := 0) (by decide) (by decide) : In 0 40 0) (In_lit (n := 40) (by decide) (by decide) : In 40 40 40) hf_64_1 hf_64_2 (fun i h => absurd h (by have z : (0 : Int32).toInt = 0 := (by decide); omega)) (fun n r t hk => (mk_J7_fill_d0a16_75 (n := n) (And.intro (tyX hW_w) (cgK_3 hk (rfl : (p1 : Int64).toInt = _) (show (0 : Int32).toInt = 0 from by decide) (show (40 : Int32).toInt = 40 from by decide))))) hP hD hS (lv_sub hl [2, 3, 1, 0] rfl)
set_option maxRecDepth 100000 in
set_option maxHeartbeats 8000000 in
theorem e_J7_fill_d0a16_77 (l : Launch) (D : va_G) (cI cJ cZ : ClassId) (q : Nat → Nat) (bb bs bp : Nat) (w : va_W) (hW_w : HT q (TX q cI cJ cZ bb bs bp) w) (p1 : Int64) (hf_64_1 : In 1 40 (fI w 64 1)) (hf_64_2 : In 1 24 (fI w 64 2)) : Con_v l yJ7_fill_d0a16 cJ7_fill_d0a16 5 none ({ frames := 0, cells := 0, slots := 0, locals := 0 }) D cI cJ cZ eW [.ref (q 77), .long p1] w (fun (w1 : va_W) => HT q (TX q cI cJ cZ bb bs bp) w1 ∧ Sm [77] [] w w1 ∧ ((∀ i : Nat, i < 240 → aL w1 77 i = p1)) ∧ M_J7_fill_d0a16_77 (vw w) p1.toInt 0 (vw w1)) := by
  refine eQ_v rfl (by decide) (Nat.le_of_ble_eq_true rfl) ⟨rfl, rfl⟩ ?_
  intro p e R s m args below meth c A Q hx hb hml hown hts hK hE hA hR hret hP hD hS ls hl
  have hown : s.vm.findClass RJ7 = some m.cls := hown
  have hl : lv_has ls 5 [(0, .ref (q 77)), (1, .long p1)] := hl
  have J6 : ∀ (N : Nat) (x6_3 : Int32) (x6_4 : Int32) (w6 : va_W) (H : Heap) (locs : List Loc) (ls : Array Slot), (240 - x6_3.toInt).toNat < N → HT q (TX q cI cJ cZ bb bs bp) w6 → Sm [77] [] w w6 → (In 0 240 x6_3) → (In 240 240 x6_4) → (In 1 40 (fI w6 64 1)) → (In 1 24 (fI w6 64 2)) → (∀ i : Nat, i < (x6_3 : Int32).toInt.toNat → aL w6 77 i = p1) → (∀ (n : Nat) (r : Int) (t : PS), It_J7_fill_d0a16_77 n p1.toInt x6_3.toInt x6_4.toInt (vw w6) r t → M_J7_fill_d0a16_77 (vw w) p1.toInt r t) → va_P D vwCl w6 H → va_D A w6 → va_S A s.heap H locs → lv_has ls 5 [(0, .ref (q 77)), (1, .long p1), (3, .int x6_3), (4, .int x6_4)] → W p l e R s m args below meth c H locs 0 0 Q (F0 m 6 ls []) := by
    intro N
    induction N with
    | zero => intro x6_3 x6_4 w6 H locs ls hmu; exact absurd hmu (Nat.not_lt_zero _)
    | succ N ih6 =>
      intro x6_3 x6_4 w6 H locs ls hmu6 hW_w6 hM_w6 i_x6_3 i_x6_4 g6_64_1 g6_64_2 hj_6 hmi_6 hP hD hS hl
      refine lv_iload_n hx hb dJ7_fill_d0a16_6 rfl (lv_at hl 2 rfl) ?_
      refine lv_iload hx hb dJ7_fill_d0a16_7 (lv_at hl 3 rfl) ?_
      refine lv_icmp_ge (tgt := 22) hx hb dJ7_fill_d0a16_9 (by decide) (fun c_1 => ?_) (fun c_1 => ?_)
      · have lb_c_1 : (x6_4 : Int32).toInt ≤ (x6_3 : Int32).toInt := q_le.mp c_1
        exact hret _ _ _ _ _ hP hD hS dJ7_fill_d0a16_22 ⟨hW_w6, hM_w6, (fun i hi => hj_6 i (by have q := i_x6_4; unfold In at q; omega)), (hmi_6 (0 + 1) _ _ (rl_J7_fill_d0a16_77_6 (n := 0) (And.intro (tyX hW_w6) (And.intro i_x6_3 (And.intro i_x6_4 (Or.inl (And.intro (z_le c_1 (rfl : (x6_4 : Int32).toInt = _) (rfl : (x6_3 : Int32).toInt = _)) (And.intro rfl rfl))))))))⟩
      · have lb_c_1 : ¬ (x6_4 : Int32).toInt ≤ (x6_3 : Int32).toInt := fun h => c_1 (q_le.mpr h)
        refine lv_aload_n hx hb dJ7_fill_d0a16_12 rfl (lv_at hl 0 rfl) ?_
        refine lv_iload_n hx hb dJ7_fill_d0a16_13 rfl (lv_at hl 2 rfl) ?_
        refine lv_lload_n hx hb dJ7_fill_d0a16_14 rfl (lv_at hl 1 rfl) ?_
        refine va_last hx hb hK hP hD hS 77 1 (hW_w6.al tX_77) rfl (in_I (R_nle_r i_x6_4 i_x6_3 c_1 (by decide) : In 0 239 x6_3) (by decide)) dJ7_fill_d0a16_15 (fun H locs hP hD hS => fr_w (hW_w6.uL tX_77) hP hD (fun w_2 ew_2 hW_w_2 hP hD => ?_))
        have hv_w_2 := vw_uL hW_w6 tX_77 ew_2 (z_ix (rfl : (x6_3 : Int32).toInt = _)) (rfl : (p1 : Int64).toInt = _)
        refine lv_iinc (v := (x6_3 + 1)) (lv' := [(3, .int (x6_3 + 1)), (0, .ref (q 77)), (1, .long p1), (4, .int x6_4)]) hx hb dJ7_fill_d0a16_16 hl (k := 2) rfl (rfl) (by decide) rfl (fun ls hl => ?_)
        refine lv_goto (tgt := 6) hx hb dJ7_fill_d0a16_19 (by decide) ?_
        exact ih6 (x6_3 + 1) x6_4 w_2 _ _ ls (mu_inc hmu6 (R_nle_r i_x6_4 i_x6_3 c_1 (by decide) : In 0 239 x6_3) (In_lit (n := 1) (by decide) (by decide) : In 1 1 1) (by decide)) hW_w_2 (hM_w6.sa ew_2 (by decide)) (In_w ((In_add (y := 1) (R_nle_r i_x6_4 i_x6_3 c_1 (by decide) : In 0 239 x6_3) (In_lit (n := 1) (by decide) (by decide) : In 1 1 1) (by decide)) : In 1 240 (x6_3 + 1)) (by decide) : In 0 240 (x6_3 + 1)) i_x6_4 (In_of ((fI_cg (st_ne ew_2 (by decide))).trans (hM_w6.gI (by decide))) (In_of (hM_w6.gI (by decide)).symm g6_64_1)) (In_of ((fI_cg (st_ne ew_2 (by decide))).trans (hM_w6.gI (by decide))) (In_of (hM_w6.gI (by decide)).symm g6_64_2)) (fill_st (R_nle_r i_x6_4 i_x6_3 c_1 (by decide) : In 0 239 x6_3) hj_6 (aL_eq (hW_w6.lt tX_77) ew_2)) (fun n r t hk => (hmi_6 (n + 1) r t (rl_J7_fill_d0a16_77_6 (n := n) (And.intro (tyX hW_w6) (And.intro i_x6_3 (And.intro i_x6_4 (Or.inr (And.intro (z_nle c_1 (rfl : (x6_4 : Int32).toInt = _) (rfl : (x6_3 : Int32).toInt = _)) (Exists.intro (vw w_2) (And.intro hv_w_2 (cgK_3 hk (rfl : (p1 : Int64).toInt = _) (z_add (t_add (R_nle_r i_x6_4 i_x6_3 c_1 (by decide) : In 0 239 x6_3) (In_lit (n := 1) (by decide) (by decide) : In 1 1 1) (by decide)) (rfl : (x6_3 : Int32).toInt = _) (show (1 : Int32).toInt = 1 from by decide)) (rfl : (x6_4 : Int32).toInt = _)))))))))))) hP hD hS (lv_sub hl [1, 2, 0, 3] rfl)
  refine lv_iconst (v := 0) hx hb dJ7_fill_d0a16_0 (by decide) ?_
  refine lv_istore_n (lv' := [(3, .int 0), (0, .ref (q 77)), (1, .long p1)]) hx hb dJ7_fill_d0a16_1 rfl hl (by decide) rfl (fun ls hl => ?_)
  refine lv_aload_n hx hb dJ7_fill_d0a16_2 rfl (lv_at hl 1 rfl) ?_
  refine va_alen hx hb hK hP 77 1 (hW_w.al tX_77) rfl (v := 240) (by show Int32.ofNat 240 = 240; decide) dJ7_fill_d0a16_3 ?_
  refine lv_istore (lv' := [(4, .int 240), (3, .int 0), (0, .ref (q 77)), (1, .long p1)]) hx hb dJ7_fill_d0a16_4 hl (by decide) rfl (fun ls hl => ?_)
  exact J6 _ 0 240 w _ _ ls (Nat.lt_succ_self _) hW_w Sm.rf (In_lit (n := 0) (by decide) (by decide) : In 0 240 0) (In_lit (n := 240) (by decide) (by decide) : In 240 240 240) hf_64_1 hf_64_2 (fun i h => absurd h (by have z : (0 : Int32).toInt = 0 := (by decide); omega)) (fun n r t hk => (mk_J7_fill_d0a16_77 (n := n) (And.intro (tyX hW_w) (cgK_3 hk (rfl : (p1 : Int64).toInt = _) (show (0 : Int32).toInt = 0 from by decide) (show (240 : Int32).toInt = 240 from by decide))))) hP hD hS (lv_sub hl [2, 3, 1, 0] rfl)
set_option maxRecDepth 100000 in
set_option maxHeartbeats 8000000 in
theorem e_X3_drop (l : Launch) (D : va_G) (cI cJ cZ : ClassId) (q : Nat → Nat) (bb bs bp : Nat) (w : va_W) (hW_w : HT q (TX q cI cJ cZ bb bs bp) w) (p1 : Int32) (p2 : Int32) (i_p1 : In 0 39 p1) (i_p2 : In 0 9 p2) (hf_64_1 : In 1 40 (fI w 64 1)) (hf_64_2 : In 1 24 (fI w 64 2)) : Con_v l yX3_drop cX3_drop 4 none ({ frames := 0, cells := 0, slots := 0, locals := 0 }) D cI cJ cZ eW [.ref (q 64), .int p1, .int p2] w (fun (w1 : va_W) => HT q (TX q cI cJ cZ bb bs bp) w1 ∧ Sm [70, 71, 73] [] w w1 ∧ M_X3_drop (vw w) p1.toInt p2.toInt 0 (vw w1)) := by
  refine eQ_v rfl (by decide) (Nat.le_of_ble_eq_true rfl) ⟨rfl, rfl⟩ ?_
  intro p e R s m args below meth c A Q hx hb hml hown hts hK hE hA hR hret hP hD hS ls hl
  have hown : s.vm.findClass RX3 = some m.cls := hown
  have hl : lv_has ls 4 [(0, .ref (q 64)), (1, .int p1), (2, .int p2)] := hl
  have J31 : ∀ (N : Nat) (x31_3 : Int32) (w31 : va_W) (H : Heap) (locs : List Loc) (ls : Array Slot), (24 - x31_3.toInt).toNat < N → HT q (TX q cI cJ cZ bb bs bp) w31 → Sm [70, 71, 73] [] w w31 → (In 0 39 p1) → (In 0 9 p2) → (In 0 24 x31_3) → (In 1 40 (fI w31 64 1)) → (In 1 24 (fI w31 64 2)) → (∀ (n : Nat) (r : Int) (t : PS), It_X3_drop n p1.toInt p2.toInt x31_3.toInt (vw w31) r t → M_X3_drop (vw w) p1.toInt p2.toInt r t) → va_P D vwCl w31 H → va_D A w31 → va_S A s.heap H locs → lv_has ls 4 [(0, .ref (q 64)), (1, .int p1), (2, .int p2), (3, .int x31_3)] → W p l e R s m args below meth c H locs 0 0 Q (F0 m 31 ls []) := by
    intro N
    induction N with
    | zero => intro x31_3 w31 H locs ls hmu; exact absurd hmu (Nat.not_lt_zero _)
    | succ N ih31 =>
      intro x31_3 w31 H locs ls hmu31 hW_w31 hM_w31 i_x31_1 i_x31_2 i_x31_3 g31_64_1 g31_64_2 hmi_31 hP hD hS hl
      refine lv_iload_n hx hb dX3_drop_31 rfl (lv_at hl 3 rfl) ?_
      refine lv_aload_n hx hb dX3_drop_32 rfl (lv_at hl 0 rfl) ?_
      refine gt_X3 hx hb hts hown hK hP 64 (hW_w31.o tX_64) 2 (by decide) wd_407 rfl (hW_w31.fi tX_64 rfl) dX3_drop_33 ?_
      refine tov (v := (fI w 64 2)) (hM_w31.gI (by decide)) ?_
      refine lv_icmp_ge (tgt := 60) hx hb dX3_drop_36 (by decide) (fun c_1 => ?_) (fun c_1 => ?_)
      · exact hret _ _ _ _ _ hP hD hS dX3_drop_60 ⟨hW_w31, hM_w31, (hmi_31 (0 + 1) _ _ (rl_X3_drop_31 (n := 0) (And.intro (tyX hW_w31) (And.intro i_x31_1 (And.intro i_x31_2 (And.intro i_x31_3 (Or.inl (And.intro (z_le c_1 (z_of (hM_w31.gI (by decide)).symm (hW_w31.vi tX_64 rfl)) (rfl : (x31_3 : Int32).toInt = _)) (And.intro rfl rfl)))))))))⟩
      · refine lv_aload_n hx hb dX3_drop_39 rfl (lv_at hl 0 rfl) ?_
        refine gt_X3 hx hb hts hown hK hP 64 (hW_w31.o tX_64) 11 (by decide) wd_433 rfl (hW_w31.fr tX_64 rfl) dX3_drop_40 ?_
        refine lv_iload_n hx hb dX3_drop_43 rfl (lv_at hl 2 rfl) ?_
        refine lv_bipush (v := 24) hx hb dX3_drop_44 (by decide) ?_
        refine lv_imul hx hb dX3_drop_46 ?_
        refine lv_iload_n hx hb dX3_drop_47 rfl (lv_at hl 3 rfl) ?_
        refine lv_iadd hx hb dX3_drop_48 ?_
        refine lv_dup2_11 hx hb dX3_drop_49 rfl rfl ?_
        refine va_iald hx hb hK hP 73 0 (hW_w31.a tX_73) rfl (in_I ((In_add ((In_mulr i_p2 (n := 24) (by decide) (by decide)) : In 0 216 (p2 * 24)) (R_nle_r (In_of (hM_w31.gI (by decide)).symm g31_64_2) i_x31_3 c_1 (by decide) : In 0 23 x31_3) (by decide)) : In 0 239 ((p2 * 24) + x31_3)) (by decide)) dX3_drop_50 ?_
        refine lv_topi (fun v_2 ev_2 => ?_)
        refine lv_iconst (v := 1) hx hb dX3_drop_51 (by decide) ?_
        refine lv_iadd hx hb dX3_drop_52 ?_
        refine va_iast hx hb hK hP hD hS 73 0 (hW_w31.a tX_73) rfl (in_I ((In_add ((In_mulr i_p2 (n := 24) (by decide) (by decide)) : In 0 216 (p2 * 24)) (R_nle_r (In_of (hM_w31.gI (by decide)).symm g31_64_2) i_x31_3 c_1 (by decide) : In 0 23 x31_3) (by decide)) : In 0 239 ((p2 * 24) + x31_3)) (by decide)) dX3_drop_53 (fun H locs hP hD hS => fr_w (hW_w31.uA tX_73 (In_any (v_2 + 1))) hP hD (fun w_3 ew_3 hW_w_3 hP hD => ?_))
        have hv_w_3 := vw_uA hW_w31 tX_73 ew_3 (z_ix (z_add (t_add ((In_mulr i_p2 (n := 24) (by decide) (by decide)) : In 0 216 (p2 * 24)) (R_nle_r (In_of (hM_w31.gI (by decide)).symm g31_64_2) i_x31_3 c_1 (by decide) : In 0 23 x31_3) (by decide)) (z_mul i_p2 (rfl : (p2 : Int32).toInt = _) (show (24 : Int32).toInt = 24 from by decide) (by decide)) (rfl : (x31_3 : Int32).toInt = _))) (z_addw (z_of ev_2 ((hW_w31.va tX_73 _).trans (congrArg (vw w31 73) (z_ix (z_add (t_add ((In_mulr i_p2 (n := 24) (by decide) (by decide)) : In 0 216 (p2 * 24)) (R_nle_r (In_of (hM_w31.gI (by decide)).symm g31_64_2) i_x31_3 c_1 (by decide) : In 0 23 x31_3) (by decide)) (z_mul i_p2 (rfl : (p2 : Int32).toInt = _) (show (24 : Int32).toInt = 24 from by decide) (by decide)) (rfl : (x31_3 : Int32).toInt = _)))))) (show (1 : Int32).toInt = 1 from by decide))
        refine lv_iinc (v := (x31_3 + 1)) (lv' := [(3, .int (x31_3 + 1)), (0, .ref (q 64)), (1, .int p1), (2, .int p2)]) hx hb dX3_drop_54 hl (k := 3) rfl (rfl) (by decide) rfl (fun ls hl => ?_)
        refine lv_goto (tgt := 31) hx hb dX3_drop_57 (by decide) ?_
        exact ih31 (x31_3 + 1) w_3 _ _ ls (mu_inc hmu31 (R_nle_r (In_of (hM_w31.gI (by decide)).symm g31_64_2) i_x31_3 c_1 (by decide) : In 0 23 x31_3) (In_lit (n := 1) (by decide) (by decide) : In 1 1 1) (by decide)) hW_w_3 (hM_w31.sa ew_3 (by decide)) i_p1 i_p2 (In_w ((In_add (y := 1) (R_nle_r (In_of (hM_w31.gI (by decide)).symm g31_64_2) i_x31_3 c_1 (by decide) : In 0 23 x31_3) (In_lit (n := 1) (by decide) (by decide) : In 1 1 1) (by decide)) : In 1 24 (x31_3 + 1)) (by decide) : In 0 24 (x31_3 + 1)) (In_of ((fI_cg (st_ne ew_3 (by decide))).trans (hM_w31.gI (by decide))) (In_of (hM_w31.gI (by decide)).symm g31_64_1)) (In_of ((fI_cg (st_ne ew_3 (by decide))).trans (hM_w31.gI (by decide))) (In_of (hM_w31.gI (by decide)).symm g31_64_2)) (fun n r t hk => (hmi_31 (n + 1) r t (rl_X3_drop_31 (n := n) (And.intro (tyX hW_w31) (And.intro i_x31_1 (And.intro i_x31_2 (And.intro i_x31_3 (Or.inr (And.intro (z_nle c_1 (z_of (hM_w31.gI (by decide)).symm (hW_w31.vi tX_64 rfl)) (rfl : (x31_3 : Int32).toInt = _)) (Exists.intro (vw w_3) (And.intro hv_w_3 (cgK_3 hk (rfl : (p1 : Int32).toInt = _) (rfl : (p2 : Int32).toInt = _) (z_add (t_add (R_nle_r (In_of (hM_w31.gI (by decide)).symm g31_64_2) i_x31_3 c_1 (by decide) : In 0 23 x31_3) (In_lit (n := 1) (by decide) (by decide) : In 1 1 1) (by decide)) (rfl : (x31_3 : Int32).toInt = _) (show (1 : Int32).toInt = 1 from by decide)))))))))))))) hP hD hS (lv_sub hl [1, 2, 3, 0] rfl)
  refine lv_aload_n hx hb dX3_drop_0 rfl (lv_at hl 0 rfl) ?_
  refine gt_X3 hx hb hts hown hK hP 64 (hW_w.o tX_64) 8 (by decide) wd_425 rfl (hW_w.fr tX_64 rfl) dX3_drop_1 ?_
  refine lv_iload_n hx hb dX3_drop_4 rfl (lv_at hl 1 rfl) ?_
  refine lv_dup2_11 hx hb dX3_drop_5 rfl rfl ?_
  refine va_iald hx hb hK hP 70 0 (hW_w.a tX_70) rfl (in_I i_p1 (by decide)) dX3_drop_6 ?_
  refine lv_topi (fun v_4 ev_4 => ?_)
  refine lv_iconst (v := 1) hx hb dX3_drop_7 (by decide) ?_
  refine lv_iload_n hx hb dX3_drop_8 rfl (lv_at hl 2 rfl) ?_
  refine lv_ishl hx hb dX3_drop_9 ?_
  refine lv_topi (fun v_5 ev_5 => ?_)
  refine lv_iconst (v := (-1)) hx hb dX3_drop_10 (by decide) ?_
  refine lv_ixor hx hb dX3_drop_11 ?_
  refine lv_topi (fun v_6 ev_6 => ?_)
  refine lv_iand hx hb dX3_drop_12 ?_
  refine lv_topi (fun v_7 ev_7 => ?_)
  refine va_iast hx hb hK hP hD hS 70 0 (hW_w.a tX_70) rfl (in_I i_p1 (by decide)) dX3_drop_13 (fun H locs hP hD hS => fr_w (hW_w.uA tX_70 (In_any v_7)) hP hD (fun w_8 ew_8 hW_w_8 hP hD => ?_))
  have hv_w_8 := vw_uA hW_w tX_70 ew_8 (z_ix (rfl : (p1 : Int32).toInt = _)) (z_of ev_7 (z_and (z_of ev_4 ((hW_w.va tX_70 _).trans (congrArg (vw w 70) (z_ix (rfl : (p1 : Int32).toInt = _))))) (z_of ev_6 (z_xor (z_of ev_5 (z_shl (show (1 : Int32).toInt = 1 from by decide) (rfl : (p2 : Int32).toInt = _))) (show ((-1) : Int32).toInt = (-1) from by decide)))))
  refine lv_aload_n hx hb dX3_drop_14 rfl (lv_at hl 0 rfl) ?_
  refine gt_X3 hx hb hts hown hK hP 64 (hW_w_8.o tX_64) 9 (by decide) wd_429 rfl (hW_w_8.fr tX_64 rfl) dX3_drop_15 ?_
  refine lv_iload_n hx hb dX3_drop_18 rfl (lv_at hl 1 rfl) ?_
  refine lv_dup2_11 hx hb dX3_drop_19 rfl rfl ?_
  refine va_iald hx hb hK hP 71 0 (hW_w_8.a tX_71) rfl (in_I i_p1 (by decide)) dX3_drop_20 ?_
  refine lv_topi (fun v_9 ev_9 => ?_)
  refine lv_iconst (v := 1) hx hb dX3_drop_21 (by decide) ?_
  refine lv_isub hx hb dX3_drop_22 ?_
  refine va_iast hx hb hK hP hD hS 71 0 (hW_w_8.a tX_71) rfl (in_I i_p1 (by decide)) dX3_drop_23 (fun H locs hP hD hS => fr_w (hW_w_8.uA tX_71 (In_any (v_9 - 1))) hP hD (fun w_10 ew_10 hW_w_10 hP hD => ?_))
  have hv_w_10 := vw_uA hW_w_8 tX_71 ew_10 (z_ix (rfl : (p1 : Int32).toInt = _)) (z_subw (z_of (ev_9.trans (congrFun (aF_cg (st_ne ew_8 (by decide))) _)) ((hW_w.va tX_71 _).trans (congrArg (vw w 71) (z_ix (rfl : (p1 : Int32).toInt = _))))) (show (1 : Int32).toInt = 1 from by decide))
  refine lv_aload_n hx hb dX3_drop_24 rfl (lv_at hl 0 rfl) ?_
  refine gt_X3 hx hb hts hown hK hP 64 (hW_w_10.o tX_64) 3 (by decide) wd_410 rfl (hW_w_10.fr tX_64 rfl) dX3_drop_25 ?_
  refine lv_iload_n hx hb dX3_drop_28 rfl (lv_at hl 1 rfl) ?_
  refine va_iald hx hb hK hP 65 0 (hW_w_10.a tX_65) rfl (in_I i_p1 (by decide)) dX3_drop_29 ?_
  refine lv_topi (fun v_11 ev_11 => ?_)
  refine lv_istore_n (lv' := [(3, .int v_11), (0, .ref (q 64)), (1, .int p1), (2, .int p2)]) hx hb dX3_drop_30 rfl hl (by decide) rfl (fun ls hl => ?_)
  exact J31 _ v_11 w_10 _ _ ls (Nat.lt_succ_self _) hW_w_10 ((Sm.rf.sa ew_8 (by decide)).sa ew_10 (by decide)) i_p1 i_p2 (In_w (In_of ev_11 (hW_w_10.ap tX_65 _) : In 0 23 v_11) (by decide) : In 0 24 v_11) (In_of ((fI_cg (st_ne ew_10 (by decide))).trans (fI_cg (st_ne ew_8 (by decide)))) hf_64_1) (In_of ((fI_cg (st_ne ew_10 (by decide))).trans (fI_cg (st_ne ew_8 (by decide)))) hf_64_2) (fun n r t hk => (mk_X3_drop (n := n) (And.intro (tyX hW_w) (And.intro i_p1 (And.intro i_p2 (Exists.intro (vw w_8) (And.intro hv_w_8 (Exists.intro (vw w_10) (And.intro hv_w_10 (cgK_3 hk (rfl : (p1 : Int32).toInt = _) (rfl : (p2 : Int32).toInt = _) (z_of (ev_11.trans (congrFun ((aF_cg (st_ne ew_10 (by decide))).trans (aF_cg (st_ne ew_8 (by decide)))) _)) ((hW_w.va tX_65 _).trans (congrArg (vw w 65) (z_ix (rfl : (p1 : Int32).toInt = _))))))))))))))) hP hD hS (lv_sub hl [1, 2, 3, 0] rfl)
set_option maxRecDepth 100000 in
set_option maxHeartbeats 8000000 in
theorem e_X3_take (l : Launch) (D : va_G) (cI cJ cZ : ClassId) (q : Nat → Nat) (bb bs bp : Nat) (w : va_W) (hW_w : HT q (TX q cI cJ cZ bb bs bp) w) (p1 : Int32) (p2 : Int32) (i_p1 : In 0 39 p1) (i_p2 : In 0 9 p2) (hf_64_1 : In 1 40 (fI w 64 1)) (hf_64_2 : In 1 24 (fI w 64 2)) : Con_v l yX3_take cX3_take 4 none ({ frames := 0, cells := 0, slots := 0, locals := 0 }) D cI cJ cZ eW [.ref (q 64), .int p1, .int p2] w (fun (w1 : va_W) => HT q (TX q cI cJ cZ bb bs bp) w1 ∧ Sm [70, 71, 73] [] w w1 ∧ M_X3_take (vw w) p1.toInt p2.toInt 0 (vw w1)) := by
  refine eQ_v rfl (by decide) (Nat.le_of_ble_eq_true rfl) ⟨rfl, rfl⟩ ?_
  intro p e R s m args below meth c A Q hx hb hml hown hts hK hE hA hR hret hP hD hS ls hl
  have hown : s.vm.findClass RX3 = some m.cls := hown
  have hl : lv_has ls 4 [(0, .ref (q 64)), (1, .int p1), (2, .int p2)] := hl
  have J29 : ∀ (N : Nat) (x29_3 : Int32) (w29 : va_W) (H : Heap) (locs : List Loc) (ls : Array Slot), (24 - x29_3.toInt).toNat < N → HT q (TX q cI cJ cZ bb bs bp) w29 → Sm [70, 71, 73] [] w w29 → (In 0 39 p1) → (In 0 9 p2) → (In 0 24 x29_3) → (In 1 40 (fI w29 64 1)) → (In 1 24 (fI w29 64 2)) → (∀ (n : Nat) (r : Int) (t : PS), It_X3_take n p1.toInt p2.toInt x29_3.toInt (vw w29) r t → M_X3_take (vw w) p1.toInt p2.toInt r t) → va_P D vwCl w29 H → va_D A w29 → va_S A s.heap H locs → lv_has ls 4 [(0, .ref (q 64)), (1, .int p1), (2, .int p2), (3, .int x29_3)] → W p l e R s m args below meth c H locs 0 0 Q (F0 m 29 ls []) := by
    intro N
    induction N with
    | zero => intro x29_3 w29 H locs ls hmu; exact absurd hmu (Nat.not_lt_zero _)
    | succ N ih29 =>
      intro x29_3 w29 H locs ls hmu29 hW_w29 hM_w29 i_x29_1 i_x29_2 i_x29_3 g29_64_1 g29_64_2 hmi_29 hP hD hS hl
      refine lv_iload_n hx hb dX3_take_29 rfl (lv_at hl 3 rfl) ?_
      refine lv_aload_n hx hb dX3_take_30 rfl (lv_at hl 0 rfl) ?_
      refine gt_X3 hx hb hts hown hK hP 64 (hW_w29.o tX_64) 2 (by decide) wd_407 rfl (hW_w29.fi tX_64 rfl) dX3_take_31 ?_
      refine tov (v := (fI w 64 2)) (hM_w29.gI (by decide)) ?_
      refine lv_icmp_ge (tgt := 58) hx hb dX3_take_34 (by decide) (fun c_1 => ?_) (fun c_1 => ?_)
      · exact hret _ _ _ _ _ hP hD hS dX3_take_58 ⟨hW_w29, hM_w29, (hmi_29 (0 + 1) _ _ (rl_X3_take_29 (n := 0) (And.intro (tyX hW_w29) (And.intro i_x29_1 (And.intro i_x29_2 (And.intro i_x29_3 (Or.inl (And.intro (z_le c_1 (z_of (hM_w29.gI (by decide)).symm (hW_w29.vi tX_64 rfl)) (rfl : (x29_3 : Int32).toInt = _)) (And.intro rfl rfl)))))))))⟩
      · refine lv_aload_n hx hb dX3_take_37 rfl (lv_at hl 0 rfl) ?_
        refine gt_X3 hx hb hts hown hK hP 64 (hW_w29.o tX_64) 11 (by decide) wd_433 rfl (hW_w29.fr tX_64 rfl) dX3_take_38 ?_
        refine lv_iload_n hx hb dX3_take_41 rfl (lv_at hl 2 rfl) ?_
        refine lv_bipush (v := 24) hx hb dX3_take_42 (by decide) ?_
        refine lv_imul hx hb dX3_take_44 ?_
        refine lv_iload_n hx hb dX3_take_45 rfl (lv_at hl 3 rfl) ?_
        refine lv_iadd hx hb dX3_take_46 ?_
        refine lv_dup2_11 hx hb dX3_take_47 rfl rfl ?_
        refine va_iald hx hb hK hP 73 0 (hW_w29.a tX_73) rfl (in_I ((In_add ((In_mulr i_p2 (n := 24) (by decide) (by decide)) : In 0 216 (p2 * 24)) (R_nle_r (In_of (hM_w29.gI (by decide)).symm g29_64_2) i_x29_3 c_1 (by decide) : In 0 23 x29_3) (by decide)) : In 0 239 ((p2 * 24) + x29_3)) (by decide)) dX3_take_48 ?_
        refine lv_topi (fun v_2 ev_2 => ?_)
        refine lv_iconst (v := 1) hx hb dX3_take_49 (by decide) ?_
        refine lv_isub hx hb dX3_take_50 ?_
        refine va_iast hx hb hK hP hD hS 73 0 (hW_w29.a tX_73) rfl (in_I ((In_add ((In_mulr i_p2 (n := 24) (by decide) (by decide)) : In 0 216 (p2 * 24)) (R_nle_r (In_of (hM_w29.gI (by decide)).symm g29_64_2) i_x29_3 c_1 (by decide) : In 0 23 x29_3) (by decide)) : In 0 239 ((p2 * 24) + x29_3)) (by decide)) dX3_take_51 (fun H locs hP hD hS => fr_w (hW_w29.uA tX_73 (In_any (v_2 - 1))) hP hD (fun w_3 ew_3 hW_w_3 hP hD => ?_))
        have hv_w_3 := vw_uA hW_w29 tX_73 ew_3 (z_ix (z_add (t_add ((In_mulr i_p2 (n := 24) (by decide) (by decide)) : In 0 216 (p2 * 24)) (R_nle_r (In_of (hM_w29.gI (by decide)).symm g29_64_2) i_x29_3 c_1 (by decide) : In 0 23 x29_3) (by decide)) (z_mul i_p2 (rfl : (p2 : Int32).toInt = _) (show (24 : Int32).toInt = 24 from by decide) (by decide)) (rfl : (x29_3 : Int32).toInt = _))) (z_subw (z_of ev_2 ((hW_w29.va tX_73 _).trans (congrArg (vw w29 73) (z_ix (z_add (t_add ((In_mulr i_p2 (n := 24) (by decide) (by decide)) : In 0 216 (p2 * 24)) (R_nle_r (In_of (hM_w29.gI (by decide)).symm g29_64_2) i_x29_3 c_1 (by decide) : In 0 23 x29_3) (by decide)) (z_mul i_p2 (rfl : (p2 : Int32).toInt = _) (show (24 : Int32).toInt = 24 from by decide) (by decide)) (rfl : (x29_3 : Int32).toInt = _)))))) (show (1 : Int32).toInt = 1 from by decide))
        refine lv_iinc (v := (x29_3 + 1)) (lv' := [(3, .int (x29_3 + 1)), (0, .ref (q 64)), (1, .int p1), (2, .int p2)]) hx hb dX3_take_52 hl (k := 3) rfl (rfl) (by decide) rfl (fun ls hl => ?_)
        refine lv_goto (tgt := 29) hx hb dX3_take_55 (by decide) ?_
        exact ih29 (x29_3 + 1) w_3 _ _ ls (mu_inc hmu29 (R_nle_r (In_of (hM_w29.gI (by decide)).symm g29_64_2) i_x29_3 c_1 (by decide) : In 0 23 x29_3) (In_lit (n := 1) (by decide) (by decide) : In 1 1 1) (by decide)) hW_w_3 (hM_w29.sa ew_3 (by decide)) i_p1 i_p2 (In_w ((In_add (y := 1) (R_nle_r (In_of (hM_w29.gI (by decide)).symm g29_64_2) i_x29_3 c_1 (by decide) : In 0 23 x29_3) (In_lit (n := 1) (by decide) (by decide) : In 1 1 1) (by decide)) : In 1 24 (x29_3 + 1)) (by decide) : In 0 24 (x29_3 + 1)) (In_of ((fI_cg (st_ne ew_3 (by decide))).trans (hM_w29.gI (by decide))) (In_of (hM_w29.gI (by decide)).symm g29_64_1)) (In_of ((fI_cg (st_ne ew_3 (by decide))).trans (hM_w29.gI (by decide))) (In_of (hM_w29.gI (by decide)).symm g29_64_2)) (fun n r t hk => (hmi_29 (n + 1) r t (rl_X3_take_29 (n := n) (And.intro (tyX hW_w29) (And.intro i_x29_1 (And.intro i_x29_2 (And.intro i_x29_3 (Or.inr (And.intro (z_nle c_1 (z_of (hM_w29.gI (by decide)).symm (hW_w29.vi tX_64 rfl)) (rfl : (x29_3 : Int32).toInt = _)) (Exists.intro (vw w_3) (And.intro hv_w_3 (cgK_3 hk (rfl : (p1 : Int32).toInt = _) (rfl : (p2 : Int32).toInt = _) (z_add (t_add (R_nle_r (In_of (hM_w29.gI (by decide)).symm g29_64_2) i_x29_3 c_1 (by decide) : In 0 23 x29_3) (In_lit (n := 1) (by decide) (by decide) : In 1 1 1) (by decide)) (rfl : (x29_3 : Int32).toInt = _) (show (1 : Int32).toInt = 1 from by decide)))))))))))))) hP hD hS (lv_sub hl [1, 2, 3, 0] rfl)
  refine lv_aload_n hx hb dX3_take_0 rfl (lv_at hl 0 rfl) ?_
  refine gt_X3 hx hb hts hown hK hP 64 (hW_w.o tX_64) 8 (by decide) wd_425 rfl (hW_w.fr tX_64 rfl) dX3_take_1 ?_
  refine lv_iload_n hx hb dX3_take_4 rfl (lv_at hl 1 rfl) ?_
  refine lv_dup2_11 hx hb dX3_take_5 rfl rfl ?_
  refine va_iald hx hb hK hP 70 0 (hW_w.a tX_70) rfl (in_I i_p1 (by decide)) dX3_take_6 ?_
  refine lv_topi (fun v_4 ev_4 => ?_)
  refine lv_iconst (v := 1) hx hb dX3_take_7 (by decide) ?_
  refine lv_iload_n hx hb dX3_take_8 rfl (lv_at hl 2 rfl) ?_
  refine lv_ishl hx hb dX3_take_9 ?_
  refine lv_topi (fun v_5 ev_5 => ?_)
  refine lv_ior hx hb dX3_take_10 ?_
  refine lv_topi (fun v_6 ev_6 => ?_)
  refine va_iast hx hb hK hP hD hS 70 0 (hW_w.a tX_70) rfl (in_I i_p1 (by decide)) dX3_take_11 (fun H locs hP hD hS => fr_w (hW_w.uA tX_70 (In_any v_6)) hP hD (fun w_7 ew_7 hW_w_7 hP hD => ?_))
  have hv_w_7 := vw_uA hW_w tX_70 ew_7 (z_ix (rfl : (p1 : Int32).toInt = _)) (z_of ev_6 (z_or (z_of ev_4 ((hW_w.va tX_70 _).trans (congrArg (vw w 70) (z_ix (rfl : (p1 : Int32).toInt = _))))) (z_of ev_5 (z_shl (show (1 : Int32).toInt = 1 from by decide) (rfl : (p2 : Int32).toInt = _)))))
  refine lv_aload_n hx hb dX3_take_12 rfl (lv_at hl 0 rfl) ?_
  refine gt_X3 hx hb hts hown hK hP 64 (hW_w_7.o tX_64) 9 (by decide) wd_429 rfl (hW_w_7.fr tX_64 rfl) dX3_take_13 ?_
  refine lv_iload_n hx hb dX3_take_16 rfl (lv_at hl 1 rfl) ?_
  refine lv_dup2_11 hx hb dX3_take_17 rfl rfl ?_
  refine va_iald hx hb hK hP 71 0 (hW_w_7.a tX_71) rfl (in_I i_p1 (by decide)) dX3_take_18 ?_
  refine lv_topi (fun v_8 ev_8 => ?_)
  refine lv_iconst (v := 1) hx hb dX3_take_19 (by decide) ?_
  refine lv_iadd hx hb dX3_take_20 ?_
  refine va_iast hx hb hK hP hD hS 71 0 (hW_w_7.a tX_71) rfl (in_I i_p1 (by decide)) dX3_take_21 (fun H locs hP hD hS => fr_w (hW_w_7.uA tX_71 (In_any (v_8 + 1))) hP hD (fun w_9 ew_9 hW_w_9 hP hD => ?_))
  have hv_w_9 := vw_uA hW_w_7 tX_71 ew_9 (z_ix (rfl : (p1 : Int32).toInt = _)) (z_addw (z_of (ev_8.trans (congrFun (aF_cg (st_ne ew_7 (by decide))) _)) ((hW_w.va tX_71 _).trans (congrArg (vw w 71) (z_ix (rfl : (p1 : Int32).toInt = _))))) (show (1 : Int32).toInt = 1 from by decide))
  refine lv_aload_n hx hb dX3_take_22 rfl (lv_at hl 0 rfl) ?_
  refine gt_X3 hx hb hts hown hK hP 64 (hW_w_9.o tX_64) 3 (by decide) wd_410 rfl (hW_w_9.fr tX_64 rfl) dX3_take_23 ?_
  refine lv_iload_n hx hb dX3_take_26 rfl (lv_at hl 1 rfl) ?_
  refine va_iald hx hb hK hP 65 0 (hW_w_9.a tX_65) rfl (in_I i_p1 (by decide)) dX3_take_27 ?_
  refine lv_topi (fun v_10 ev_10 => ?_)
  refine lv_istore_n (lv' := [(3, .int v_10), (0, .ref (q 64)), (1, .int p1), (2, .int p2)]) hx hb dX3_take_28 rfl hl (by decide) rfl (fun ls hl => ?_)
  exact J29 _ v_10 w_9 _ _ ls (Nat.lt_succ_self _) hW_w_9 ((Sm.rf.sa ew_7 (by decide)).sa ew_9 (by decide)) i_p1 i_p2 (In_w (In_of ev_10 (hW_w_9.ap tX_65 _) : In 0 23 v_10) (by decide) : In 0 24 v_10) (In_of ((fI_cg (st_ne ew_9 (by decide))).trans (fI_cg (st_ne ew_7 (by decide)))) hf_64_1) (In_of ((fI_cg (st_ne ew_9 (by decide))).trans (fI_cg (st_ne ew_7 (by decide)))) hf_64_2) (fun n r t hk => (mk_X3_take (n := n) (And.intro (tyX hW_w) (And.intro i_p1 (And.intro i_p2 (Exists.intro (vw w_7) (And.intro hv_w_7 (Exists.intro (vw w_9) (And.intro hv_w_9 (cgK_3 hk (rfl : (p1 : Int32).toInt = _) (rfl : (p2 : Int32).toInt = _) (z_of (ev_10.trans (congrFun ((aF_cg (st_ne ew_9 (by decide))).trans (aF_cg (st_ne ew_7 (by decide)))) _)) ((hW_w.va tX_65 _).trans (congrArg (vw w 65) (z_ix (rfl : (p1 : Int32).toInt = _))))))))))))))) hP hD hS (lv_sub hl [1, 2, 3, 0] rfl)
set_option maxRecDepth 100000 in
set_option maxHeartbeats 8000000 in
theorem e_X2_change (l : Launch) (D : va_G) (cI cJ cZ : ClassId) (q : Nat → Nat) (bb bs bp : Nat) (w : va_W) (hW_w : HT q (TX q cI cJ cZ bb bs bp) w) (p1 : Int32) (p2 : Int32) (i_p1 : In 0 39 p1) (i_p2 : In 0 39 p2) (hf_64_1 : In 1 40 (fI w 64 1)) (hf_64_2 : In 1 24 (fI w 64 2)) (hFI : FI p1 w) (hF2 : (aL w 75 p2.toNatClampNeg).toInt < FARz) : Con_v l yX2_change cX2_change 7 none ({ frames := 1, cells := 0, slots := 0, locals := 23 }) D cI cJ cZ eW [.ref (q 74), .int p1, .int p2] w (fun (w1 : va_W) => HT q (TX q cI cJ cZ bb bs bp) w1 ∧ Sm [70, 71, 73] [] w w1 ∧ M_X2_change (vw w) p1.toInt p2.toInt 0 (vw w1)) := by
  refine eQ_v rfl (by decide) (Nat.le_of_ble_eq_true rfl) ⟨rfl, rfl⟩ ?_
  intro p e R s m args below meth c A Q hx hb hml hown hts hK hE hA hR hret hP hD hS ls hl
  have hown : s.vm.findClass RX2 = some m.cls := hown
  have hl : lv_has ls 7 [(0, .ref (q 74)), (1, .int p1), (2, .int p2)] := hl
  have J5 : ∀ (N : Nat) (x5_3 : Int32) (x5_4 : Int32) (w5 : va_W) (H : Heap) (locs : List Loc) (ls : Array Slot), (1000000 - x5_4.toInt).toNat < N → HT q (TX q cI cJ cZ bb bs bp) w5 → Sm [70, 71, 73] [] w w5 → (In 0 39 p1) → (In 0 39 p2) → (In 0 39 x5_3) → (In 0 1000000 x5_4) → (In 1 40 (fI w5 64 1)) → (In 1 24 (fI w5 64 2)) → ((aL w 75 x5_3.toNatClampNeg).toInt < FARz) → (∀ (n : Nat) (r : Int) (t : PS), It_X2_change n p1.toInt p2.toInt x5_3.toInt x5_4.toInt (vw w5) r t → M_X2_change (vw w) p1.toInt p2.toInt r t) → va_P D vwCl w5 H → va_D A w5 → va_S A s.heap H locs → lv_has ls 7 [(0, .ref (q 74)), (1, .int p1), (2, .int p2), (3, .int x5_3), (4, .int x5_4)] → W p l e R s m args below meth c H locs 0 0 Q (F0 m 5 ls []) := by
    intro N
    induction N with
    | zero => intro x5_3 x5_4 w5 H locs ls hmu; exact absurd hmu (Nat.not_lt_zero _)
    | succ N ih5 =>
      intro x5_3 x5_4 w5 H locs ls hmu5 hW_w5 hM_w5 i_x5_1 i_x5_2 i_x5_3 i_x5_4 g5_64_1 g5_64_2 ha_5 hmi_5 hP hD hS hl
      refine lv_iload hx hb dX2_change_5 (lv_at hl 4 rfl) ?_
      refine lv_ldc hx hb hown (hts _ wd_1121) dX2_change_7 ?_
      refine lv_icmp_ge (tgt := 77) hx hb dX2_change_9 (by decide) (fun c_1 => ?_) (fun c_1 => ?_)
      · exact hret _ _ _ _ _ hP hD hS dX2_change_77 ⟨hW_w5, hM_w5, (hmi_5 (0 + 1) _ _ (rl_X2_change_5 (n := 0) (And.intro (tyX hW_w5) (And.intro i_x5_1 (And.intro i_x5_2 (And.intro i_x5_3 (And.intro i_x5_4 (Or.inl (And.intro (z_le c_1 (show (1000000 : Int32).toInt = 1000000 from by decide) (rfl : (x5_4 : Int32).toInt = _)) (And.intro rfl rfl))))))))))⟩
      · refine lv_iload_n hx hb dX2_change_12 rfl (lv_at hl 3 rfl) ?_
        refine lv_iload_n hx hb dX2_change_13 rfl (lv_at hl 1 rfl) ?_
        refine lv_icmp_eq (tgt := 77) hx hb dX2_change_14 (by decide) (fun c_2 => ?_) (fun c_2 => ?_)
        · exact hret _ _ _ _ _ hP hD hS dX2_change_77 ⟨hW_w5, hM_w5, (hmi_5 (0 + 1) _ _ (rl_X2_change_5 (n := 0) (And.intro (tyX hW_w5) (And.intro i_x5_1 (And.intro i_x5_2 (And.intro i_x5_3 (And.intro i_x5_4 (Or.inr (And.intro (z_nle c_1 (show (1000000 : Int32).toInt = 1000000 from by decide) (rfl : (x5_4 : Int32).toInt = _)) (Or.inl (And.intro (z_eq c_2 (rfl : (x5_3 : Int32).toInt = _) (rfl : (p1 : Int32).toInt = _)) (And.intro rfl rfl))))))))))))⟩
        · refine lv_aload_n hx hb dX2_change_17 rfl (lv_at hl 0 rfl) ?_
          refine gt_X2 hx hb hts hown hK hP 74 (hW_w5.o tX_74) 2 (by decide) wd_470 rfl (hW_w5.fr tX_74 rfl) dX2_change_18 ?_
          refine lv_iload_n hx hb dX2_change_21 rfl (lv_at hl 3 rfl) ?_
          refine va_iald hx hb hK hP 76 0 (hW_w5.a tX_76) rfl (in_I i_x5_3 (by decide)) dX2_change_22 ?_
          refine lv_topi (fun v_3 ev_3 => ?_)
          refine lv_istore (lv' := [(5, .int v_3), (0, .ref (q 74)), (1, .int p1), (2, .int p2), (3, .int x5_3), (4, .int x5_4)]) hx hb dX2_change_23 hl (by decide) rfl (fun ls hl => ?_)
          refine lv_aload_n hx hb dX2_change_25 rfl (lv_at hl 1 rfl) ?_
          refine gt_X2 hx hb hts hown hK hP 74 (hW_w5.o tX_74) 4 (by decide) wd_473 rfl (hW_w5.fr tX_74 rfl) dX2_change_26 ?_
          refine lv_iload hx hb dX2_change_29 (lv_at hl 0 rfl) ?_
          refine lv_bipush (v := 24) hx hb dX2_change_31 (by decide) ?_
          refine lv_imul hx hb dX2_change_33 ?_
          refine lv_aload_n hx hb dX2_change_34 rfl (lv_at hl 1 rfl) ?_
          refine gt_X2 hx hb hts hown hK hP 74 (hW_w5.o tX_74) 0 (by decide) wd_467 rfl (hW_w5.fr tX_74 rfl) dX2_change_35 ?_
          refine gt_X3 hx hb hts hown hK hP 64 (hW_w5.o tX_64) 3 (by decide) wd_412 rfl (hW_w5.fr tX_64 rfl) dX2_change_38 ?_
          refine lv_iload_n hx hb dX2_change_41 rfl (lv_at hl 4 rfl) ?_
          refine va_iald hx hb hK hP 65 0 (hW_w5.a tX_65) rfl (in_I i_x5_3 (by decide)) dX2_change_42 ?_
          refine lv_topi (fun v_4 ev_4 => ?_)
          refine lv_iadd hx hb dX2_change_43 ?_
          refine va_iald hx hb hK hP 78 0 (hW_w5.a tX_78) rfl (in_I ((In_add ((In_mulr (In_of ev_3 (hW_w5.ap tX_76 _) : In 0 9 v_3) (n := 24) (by decide) (by decide)) : In 0 216 (v_3 * 24)) (In_of ev_4 (hW_w5.ap tX_65 _) : In 0 23 v_4) (by decide)) : In 0 239 ((v_3 * 24) + v_4)) (by decide)) dX2_change_44 ?_
          refine lv_topi (fun v_5 ev_5 => ?_)
          have NX_v_5 := FI_next (row := x5_3) (d := v_3) (s := v_4) (t := v_5) hFI i_x5_3 i_p1 c_2 ha_5 (ev_3.trans (congrFun (hM_w5.hA (by decide)) _)) (ev_4.trans (congrFun (hM_w5.hA (by decide)) _)) (In_of ev_3 (hW_w5.ap tX_76 _) : In 0 9 v_3) (In_of ev_4 (hW_w5.ap tX_65 _) : In 0 23 v_4) (ev_5.trans (congrFun (hM_w5.hA (by decide)) _)) (In_of ev_5 (hW_w5.ap tX_78 _) : In (-2) 39 v_5)
          refine lv_istore (lv' := [(6, .int v_5), (5, .int v_3), (0, .ref (q 74)), (1, .int p1), (2, .int p2), (3, .int x5_3), (4, .int x5_4)]) hx hb dX2_change_45 hl (by decide) rfl (fun ls hl => ?_)
          refine lv_aload_n hx hb dX2_change_47 rfl (lv_at hl 2 rfl) ?_
          refine gt_X2 hx hb hts hown hK hP 74 (hW_w5.o tX_74) 0 (by decide) wd_467 rfl (hW_w5.fr tX_74 rfl) dX2_change_48 ?_
          refine lv_iload_n hx hb dX2_change_51 rfl (lv_at hl 5 rfl) ?_
          refine lv_iload hx hb dX2_change_52 (lv_at hl 1 rfl) ?_
          refine kW_v ⟨rfl, rfl⟩ hP hD hS hA (rW_V (As := [.int x5_3, .int v_3]) (rest := []) hx hb hml hown hts hK hE hP hD (e_X3_drop l D cI cJ cZ q bb bs bp w5 hW_w5 x5_3 v_3 i_x5_3 (In_of ev_3 (hW_w5.ap tX_76 _) : In 0 9 v_3) (In_of (hM_w5.gI (by decide)) (In_of (hM_w5.gI (by decide)).symm g5_64_1)) (In_of (hM_w5.gI (by decide)) (In_of (hM_w5.gI (by decide)).symm g5_64_2)) _) ⟨⟨rfl, rfl⟩, rfl, rfl⟩ sv_X2_93 ⟨(Nat.le_trans (by decide) hR.1), (Nat.le_trans (by decide) hR.2)⟩ 64 3 (hW_w5.o tX_64) rfl rfl rfl hl.1 rfl (Nat.le_of_ble_eq_true rfl) dX2_change_54) (fun w_6 H locs hw_w_6 hP hD hS => ?_)
          obtain ⟨hW_w_6, hs_w_6, hm_8⟩ := hw_w_6
          refine lv_aload_n hx hb dX2_change_57 rfl (lv_at hl 2 rfl) ?_
          refine gt_X2 hx hb hts hown hK hP 74 (hW_w_6.o tX_74) 0 (by decide) wd_467 rfl (hW_w_6.fr tX_74 rfl) dX2_change_58 ?_
          refine lv_iload hx hb dX2_change_61 (lv_at hl 0 rfl) ?_
          refine lv_iload hx hb dX2_change_63 (lv_at hl 1 rfl) ?_
          refine kW_v ⟨rfl, rfl⟩ hP hD hS hA (rW_V (As := [.int v_5, .int v_3]) (rest := []) hx hb hml hown hts hK hE hP hD (e_X3_take l D cI cJ cZ q bb bs bp w_6 hW_w_6 v_5 v_3 NX_v_5.1 (In_of ev_3 (hW_w5.ap tX_76 _) : In 0 9 v_3) (In_of ((hs_w_6.gI (by decide)).trans (hM_w5.gI (by decide))) (In_of (hM_w5.gI (by decide)).symm g5_64_1)) (In_of ((hs_w_6.gI (by decide)).trans (hM_w5.gI (by decide))) (In_of (hM_w5.gI (by decide)).symm g5_64_2)) _) ⟨⟨rfl, rfl⟩, rfl, rfl⟩ sv_X2_73 ⟨(Nat.le_trans (by decide) hR.1), (Nat.le_trans (by decide) hR.2)⟩ 64 3 (hW_w_6.o tX_64) rfl rfl rfl hl.1 rfl (Nat.le_of_ble_eq_true rfl) dX2_change_65) (fun w_9 H locs hw_w_9 hP hD hS => ?_)
          obtain ⟨hW_w_9, hs_w_9, hm_11⟩ := hw_w_9
          refine lv_iload hx hb dX2_change_68 (lv_at hl 0 rfl) ?_
          refine lv_istore_n (lv' := [(3, .int v_5), (6, .int v_5), (5, .int v_3), (0, .ref (q 74)), (1, .int p1), (2, .int p2), (4, .int x5_4)]) hx hb dX2_change_70 rfl hl (by decide) rfl (fun ls hl => ?_)
          refine lv_iinc (v := (x5_4 + 1)) (lv' := [(4, .int (x5_4 + 1)), (3, .int v_5), (6, .int v_5), (5, .int v_3), (0, .ref (q 74)), (1, .int p1), (2, .int p2)]) hx hb dX2_change_71 hl (k := 6) rfl (rfl) (by decide) rfl (fun ls hl => ?_)
          refine lv_goto (tgt := 5) hx hb dX2_change_74 (by decide) ?_
          exact ih5 v_5 (x5_4 + 1) w_9 _ _ ls (mu_inc hmu5 (R_nle_r (In_lit (n := 1000000) (by decide) (by decide) : In 1000000 1000000 1000000) i_x5_4 c_1 (by decide) : In 0 999999 x5_4) (In_lit (n := 1) (by decide) (by decide) : In 1 1 1) (by decide)) hW_w_9 ((hM_w5.tr hs_w_6 (by decide)).tr hs_w_9 (by decide)) i_p1 i_p2 NX_v_5.1 (In_w ((In_add (y := 1) (R_nle_r (In_lit (n := 1000000) (by decide) (by decide) : In 1000000 1000000 1000000) i_x5_4 c_1 (by decide) : In 0 999999 x5_4) (In_lit (n := 1) (by decide) (by decide) : In 1 1 1) (by decide)) : In 1 1000000 (x5_4 + 1)) (by decide) : In 0 1000000 (x5_4 + 1)) (In_of ((hs_w_9.gI (by decide)).trans ((hs_w_6.gI (by decide)).trans (hM_w5.gI (by decide)))) (In_of (hM_w5.gI (by decide)).symm g5_64_1)) (In_of ((hs_w_9.gI (by decide)).trans ((hs_w_6.gI (by decide)).trans (hM_w5.gI (by decide)))) (In_of (hM_w5.gI (by decide)).symm g5_64_2)) NX_v_5.2 (fun n r t hk => (hmi_5 (n + 1) r t (rl_X2_change_5 (n := n) (And.intro (tyX hW_w5) (And.intro i_x5_1 (And.intro i_x5_2 (And.intro i_x5_3 (And.intro i_x5_4 (Or.inr (And.intro (z_nle c_1 (show (1000000 : Int32).toInt = 1000000 from by decide) (rfl : (x5_4 : Int32).toInt = _)) (Or.inr (And.intro (z_neq c_2 (rfl : (x5_3 : Int32).toInt = _) (rfl : (p1 : Int32).toInt = _)) (Exists.intro (vw w_6) (And.intro (cgM_2 hm_8 (rfl : (x5_3 : Int32).toInt = _) (z_of ev_3 ((hW_w5.va tX_76 _).trans (congrArg (vw w5 76) (z_ix (rfl : (x5_3 : Int32).toInt = _)))))) (And.intro (hs_w_6.Fr hW_w5 hW_w_6 intsX_ok intsX_ok) (And.intro (tyX hW_w_6) (Exists.intro (vw w_9) (And.intro (cgM_2 hm_11 (z_of ev_5 ((hW_w5.va tX_78 _).trans (congrArg (vw w5 78) (z_ix (z_add (t_add ((In_mulr (In_of ev_3 (hW_w5.ap tX_76 _) : In 0 9 v_3) (n := 24) (by decide) (by decide)) : In 0 216 (v_3 * 24)) (In_of ev_4 (hW_w5.ap tX_65 _) : In 0 23 v_4) (by decide)) (z_mul (In_of ev_3 (hW_w5.ap tX_76 _) : In 0 9 v_3) (z_of ev_3 ((hW_w5.va tX_76 _).trans (congrArg (vw w5 76) (z_ix (rfl : (x5_3 : Int32).toInt = _))))) (show (24 : Int32).toInt = 24 from by decide) (by decide)) (z_of ev_4 ((hW_w5.va tX_65 _).trans (congrArg (vw w5 65) (z_ix (rfl : (x5_3 : Int32).toInt = _)))))))))) (z_of ev_3 ((hW_w5.va tX_76 _).trans (congrArg (vw w5 76) (z_ix (rfl : (x5_3 : Int32).toInt = _)))))) (And.intro (hs_w_9.Fr hW_w_6 hW_w_9 intsX_ok intsX_ok) (And.intro (tyX hW_w_9) (cgK_4 hk (rfl : (p1 : Int32).toInt = _) (rfl : (p2 : Int32).toInt = _) (z_of ev_5 ((hW_w5.va tX_78 _).trans (congrArg (vw w5 78) (z_ix (z_add (t_add ((In_mulr (In_of ev_3 (hW_w5.ap tX_76 _) : In 0 9 v_3) (n := 24) (by decide) (by decide)) : In 0 216 (v_3 * 24)) (In_of ev_4 (hW_w5.ap tX_65 _) : In 0 23 v_4) (by decide)) (z_mul (In_of ev_3 (hW_w5.ap tX_76 _) : In 0 9 v_3) (z_of ev_3 ((hW_w5.va tX_76 _).trans (congrArg (vw w5 76) (z_ix (rfl : (x5_3 : Int32).toInt = _))))) (show (24 : Int32).toInt = 24 from by decide) (by decide)) (z_of ev_4 ((hW_w5.va tX_65 _).trans (congrArg (vw w5 65) (z_ix (rfl : (x5_3 : Int32).toInt = _)))))))))) (z_add (t_add (R_nle_r (In_lit (n := 1000000) (by decide) (by decide) : In 1000000 1000000 1000000) i_x5_4 c_1 (by decide) : In 0 999999 x5_4) (In_lit (n := 1) (by decide) (by decide) : In 1 1 1) (by decide)) (rfl : (x5_4 : Int32).toInt = _) (show (1 : Int32).toInt = 1 from by decide))))))))))))))))))))))) hP hD hS (lv_sub hl [4, 5, 6, 1, 0] rfl)
  refine lv_iload_n hx hb dX2_change_0 rfl (lv_at hl 2 rfl) ?_
  refine lv_istore_n (lv' := [(3, .int p2), (0, .ref (q 74)), (1, .int p1), (2, .int p2)]) hx hb dX2_change_1 rfl hl (by decide) rfl (fun ls hl => ?_)
  refine lv_iconst (v := 0) hx hb dX2_change_2 (by decide) ?_
  refine lv_istore (lv' := [(4, .int 0), (3, .int p2), (0, .ref (q 74)), (1, .int p1), (2, .int p2)]) hx hb dX2_change_3 hl (by decide) rfl (fun ls hl => ?_)
  exact J5 _ p2 0 w _ _ ls (Nat.lt_succ_self _) hW_w Sm.rf i_p1 i_p2 i_p2 (In_lit (n := 0) (by decide) (by decide) : In 0 1000000 0) hf_64_1 hf_64_2 hF2 (fun n r t hk => (mk_X2_change (n := n) (And.intro (tyX hW_w) (And.intro i_p1 (And.intro i_p2 (cgK_4 hk (rfl : (p1 : Int32).toInt = _) (rfl : (p2 : Int32).toInt = _) (rfl : (p2 : Int32).toInt = _) (show (0 : Int32).toInt = 0 from by decide))))))) hP hD hS (lv_sub hl [2, 3, 4, 1, 0] rfl)
