set_option maxRecDepth 100000 in
set_option maxHeartbeats 8000000 in
theorem k_X9_spreadLeft (l : Launch) (D : va_G) (cI cJ cZ : ClassId) (q : Nat → Nat) (bb bs bp : Nat) (w : va_W) (hW_w : HT q (TX q cI cJ cZ bb bs bp) w) (hf_64_0 : In 1 10 (fI w 64 0)) (hf_64_1 : In 1 40 (fI w 64 1)) (hf_64_2 : In 1 24 (fI w 64 2)) (hf_81_13 : In 0 9 (fI w 81 13)) (hRI : RI w) (hFL : FL w) : Con_v l yX9_spreadLeft cX9_spreadLeft 3 none ({ frames := 3, cells := 0, slots := 0, locals := 77 }) D cI cJ cZ eW [.ref (q 81)] w (fun (w1 : va_W) => HT q (TX q cI cJ cZ bb bs bp) w1 ∧ Sm [81, 83, 84, 85, 86, 87] [(81, 11), (81, 12), (81, 13)] w w1 ∧ ((RI w1 ∧ Mn w w1))) := by
  refine eQ_v rfl (by decide) (Nat.le_of_ble_eq_true rfl) ⟨rfl, rfl⟩ ?_
  intro p e R s m args below meth c A Q hx hb hml hown hts hK hE hA hR hret hP hD hS ls hl
  have hown : s.vm.findClass RX9 = some m.cls := hown
  have hl : lv_has ls 3 [(0, .ref (q 81))] := hl
  have R_w : RI w ∧ Mn w w := ⟨hRI, Mn.rf⟩
  have J12 : ∀ (N : Nat) (x12_2 : Int32) (w12 : va_W) (H : Heap) (locs : List Loc) (ls : Array Slot), (10 - x12_2.toInt).toNat < N → HT q (TX q cI cJ cZ bb bs bp) w12 → Sm [81, 83, 84, 85, 86, 87] [(81, 11), (81, 12), (81, 13)] w w12 → (In 0 23 ((fI w 64 2) - 1)) → (In 0 10 x12_2) → (In 1 10 (fI w12 64 0)) → (In 1 40 (fI w12 64 1)) → (In 1 24 (fI w12 64 2)) → (RI w12 ∧ Mn w w12) → va_P D vwCl w12 H → va_D A w12 → va_S A s.heap H locs → lv_has ls 3 [(0, .ref (q 81)), (1, .int ((fI w 64 2) - 1)), (2, .int x12_2)] → W p l e R s m args below meth c H locs 0 0 Q (F0 m 12 ls []) := by
    intro N
    induction N with
    | zero => intro x12_2 w12 H locs ls hmu; exact absurd hmu (Nat.not_lt_zero _)
    | succ N ih12 =>
      intro x12_2 w12 H locs ls hmu12 hW_w12 hM_w12 i_x12_1 i_x12_2 g12_64_0 g12_64_1 g12_64_2 hR_12 hP hD hS hl
      have J51 : ∀ (w51 : va_W) (H : Heap) (locs : List Loc) (ls : Array Slot), HT q (TX q cI cJ cZ bb bs bp) w51 → Sm [81, 83, 84, 85, 86, 87] [(81, 11), (81, 12), (81, 13)] w w51 → (In 0 23 ((fI w 64 2) - 1)) → (In 0 9 x12_2) → (In 1 10 (fI w51 64 0)) → (In 1 40 (fI w51 64 1)) → (In 1 24 (fI w51 64 2)) → (RI w51 ∧ Mn w w51) → va_P D vwCl w51 H → va_D A w51 → va_S A s.heap H locs → lv_has ls 3 [(0, .ref (q 81)), (1, .int ((fI w 64 2) - 1)), (2, .int x12_2)] → W p l e R s m args below meth c H locs 0 0 Q (F0 m 51 ls []) := by
        intro w51 H locs ls hW_w51 hM_w51 i_x51_1 i_x51_2 g51_64_0 g51_64_1 g51_64_2 hR_51 hP hD hS hl
        refine lv_iinc (v := (x12_2 + 1)) (lv' := [(2, .int (x12_2 + 1)), (0, .ref (q 81)), (1, .int ((fI w 64 2) - 1))]) hx hb dX9_spreadLeft_51 hl (k := 2) rfl (rfl) (by decide) rfl (fun ls hl => ?_)
        refine lv_goto (tgt := 12) hx hb dX9_spreadLeft_54 (by decide) ?_
        exact ih12 (x12_2 + 1) w51 _ _ ls (mu_inc hmu12 i_x51_2 (In_lit (n := 1) (by decide) (by decide) : In 1 1 1) (by decide)) hW_w51 hM_w51 i_x12_1 (In_w ((In_add (y := 1) i_x51_2 (In_lit (n := 1) (by decide) (by decide) : In 1 1 1) (by decide)) : In 1 10 (x12_2 + 1)) (by decide) : In 0 10 (x12_2 + 1)) (In_of (hM_w51.gI (by decide)) (In_of (hM_w51.gI (by decide)).symm g51_64_0)) (In_of (hM_w51.gI (by decide)) (In_of (hM_w51.gI (by decide)).symm g51_64_1)) (In_of (hM_w51.gI (by decide)) (In_of (hM_w51.gI (by decide)).symm g51_64_2)) hR_51 hP hD hS (lv_sub hl [1, 2, 0] rfl)
      refine lv_iload_n hx hb dX9_spreadLeft_12 rfl (lv_at hl 2 rfl) ?_
      refine lv_aload_n hx hb dX9_spreadLeft_13 rfl (lv_at hl 0 rfl) ?_
      refine gt_X9 hx hb hts hown hK hP 81 (hW_w12.o tX_81) 0 (by decide) wd_511 rfl (hW_w12.fr tX_81 rfl) dX9_spreadLeft_14 ?_
      refine gt_X3 hx hb hts hown hK hP 64 (hW_w12.o tX_64) 0 (by decide) wd_401 rfl (hW_w12.fi tX_64 rfl) dX9_spreadLeft_17 ?_
      refine tov (v := (fI w 64 0)) (hM_w12.gI (by decide)) ?_
      refine lv_icmp_ge (tgt := 57) hx hb dX9_spreadLeft_20 (by decide) (fun c_1 => ?_) (fun c_1 => ?_)
      · exact hret _ _ _ _ _ hP hD hS dX9_spreadLeft_57 ⟨hW_w12, hM_w12, hR_12⟩
      · refine lv_aload_n hx hb dX9_spreadLeft_23 rfl (lv_at hl 0 rfl) ?_
        refine lv_iload_n hx hb dX9_spreadLeft_24 rfl (lv_at hl 2 rfl) ?_
        refine lv_bipush (v := 24) hx hb dX9_spreadLeft_25 (by decide) ?_
        refine lv_imul hx hb dX9_spreadLeft_27 ?_
        refine lv_iload_n hx hb dX9_spreadLeft_28 rfl (lv_at hl 1 rfl) ?_
        refine lv_iadd hx hb dX9_spreadLeft_29 ?_
        refine lv_aload_n hx hb dX9_spreadLeft_30 rfl (lv_at hl 0 rfl) ?_
        refine gt_X9 hx hb hts hown hK hP 81 (hW_w12.o tX_81) 1 (by decide) wd_512 rfl (hW_w12.fr tX_81 rfl) dX9_spreadLeft_31 ?_
        refine gt_X2 hx hb hts hown hK hP 74 (hW_w12.o tX_74) 6 (by decide) wd_476 rfl (hW_w12.fl tX_74 rfl) dX9_spreadLeft_34 ?_
        refine tol (v := (fL w 74 6)) (hM_w12.gL (by decide)) ?_
        refine kW_i ⟨rfl, rfl⟩ hP hD hS hA (rW_V (As := [.int ((x12_2 * 24) + ((fI w 64 2) - 1)), .long (fL w 74 6)]) (rest := []) hx hb hml hown hts hK hE hP hD (k_X9_isFree l D cI cJ cZ q bb bs bp w12 hW_w12 ((x12_2 * 24) + ((fI w 64 2) - 1)) (fL w 74 6) ((In_add ((In_mulr (R_nle_r (In_of (hM_w12.gI (by decide)).symm g12_64_0) i_x12_2 c_1 (by decide) : In 0 9 x12_2) (n := 24) (by decide) (by decide)) : In 0 216 (x12_2 * 24)) i_x12_1 (by decide)) : In 0 239 ((x12_2 * 24) + ((fI w 64 2) - 1))) (In_of (hM_w12.gI (by decide)) (In_of (hM_w12.gI (by decide)).symm g12_64_0)) (In_of (hM_w12.gI (by decide)) (In_of (hM_w12.gI (by decide)).symm g12_64_1)) (In_of (hM_w12.gI (by decide)) (In_of (hM_w12.gI (by decide)).symm g12_64_2)) _) ⟨⟨rfl, rfl⟩, rfl, rfl⟩ sv_X9_149 ⟨(Nat.le_trans (by decide) hR.1), (Nat.le_trans (by decide) hR.2)⟩ 81 9 (hW_w12.o tX_81) rfl rfl rfl hl.1 rfl (Nat.le_of_ble_eq_true rfl) dX9_spreadLeft_37) (fun r_3 w_2 H locs hw_w_2 hP hD hS => ?_)
        obtain ⟨hW_w_2, hs_w_2, i_r_3, h_4⟩ := hw_w_2
        refine lv_if_eq (tgt := 51) hx hb dX9_spreadLeft_40 (by decide) (fun c_5 => ?_) (fun c_5 => ?_)
        · exact J51 w_2 _ _ ls hW_w_2 (hM_w12.tr hs_w_2 (by decide)) i_x12_1 (R_nle_r (In_of (hM_w12.gI (by decide)).symm g12_64_0) i_x12_2 c_1 (by decide) : In 0 9 x12_2) (In_of ((hs_w_2.gI (by decide)).trans (hM_w12.gI (by decide))) (In_of (hM_w12.gI (by decide)).symm g12_64_0)) (In_of ((hs_w_2.gI (by decide)).trans (hM_w12.gI (by decide))) (In_of (hM_w12.gI (by decide)).symm g12_64_1)) (In_of ((hs_w_2.gI (by decide)).trans (hM_w12.gI (by decide))) (In_of (hM_w12.gI (by decide)).symm g12_64_2)) (⟨RI_cg ⟨(hs_w_2.hA (by decide)), (hs_w_2.hA (by decide)), (hs_w_2.hA (by decide)), (hs_w_2.hA (by decide)), (hs_w_2.hA (by decide)), (hs_w_2.hA (by decide)), (hs_w_2.gI (by decide)), (hs_w_2.gI (by decide)), (hs_w_2.gI (by decide)), (hs_w_2.gI (by decide)), (hs_w_2.gI (by decide)), (hs_w_2.gI (by decide)), (hs_w_2.gI (by decide))⟩ hR_12.1, Mn_cg ⟨(hs_w_2.hA (by decide)), (hs_w_2.hA (by decide)), (hs_w_2.hA (by decide)), (hs_w_2.hA (by decide)), (hs_w_2.hA (by decide)), (hs_w_2.hA (by decide)), (hs_w_2.gI (by decide)), (hs_w_2.gI (by decide)), (hs_w_2.gI (by decide)), (hs_w_2.gI (by decide)), (hs_w_2.gI (by decide)), (hs_w_2.gI (by decide)), (hs_w_2.gI (by decide))⟩ hR_12.2⟩ : RI w_2 ∧ Mn w w_2) hP hD hS (lv_sub hl [0, 1, 2] rfl)
        · refine lv_aload_n hx hb dX9_spreadLeft_43 rfl (lv_at hl 0 rfl) ?_
          refine lv_bipush (v := (-2)) hx hb dX9_spreadLeft_44 (by decide) ?_
          refine lv_iload_n hx hb dX9_spreadLeft_46 rfl (lv_at hl 2 rfl) ?_
          refine lv_iload_n hx hb dX9_spreadLeft_47 rfl (lv_at hl 1 rfl) ?_
          refine kW_v ⟨rfl, rfl⟩ hP hD hS hA (rW_V (As := [.int (-2), .int x12_2, .int ((fI w 64 2) - 1)]) (rest := []) hx hb hml hown hts hK hE hP hD (k_X9_spread l D cI cJ cZ q bb bs bp w_2 hW_w_2 (-2) x12_2 ((fI w 64 2) - 1) (In_lit (n := (-2)) (by decide) (by decide) : In (-2) 39 (-2)) (R_nle_r (In_of (hM_w12.gI (by decide)).symm g12_64_0) i_x12_2 c_1 (by decide) : In 0 9 x12_2) i_x12_1 (In_of ((hs_w_2.gI (by decide)).trans (hM_w12.gI (by decide))) (In_of (hM_w12.gI (by decide)).symm g12_64_0)) (In_of ((hs_w_2.gI (by decide)).trans (hM_w12.gI (by decide))) (In_of (hM_w12.gI (by decide)).symm g12_64_1)) (In_of ((hs_w_2.gI (by decide)).trans (hM_w12.gI (by decide))) (In_of (hM_w12.gI (by decide)).symm g12_64_2)) ((⟨RI_cg ⟨(hs_w_2.hA (by decide)), (hs_w_2.hA (by decide)), (hs_w_2.hA (by decide)), (hs_w_2.hA (by decide)), (hs_w_2.hA (by decide)), (hs_w_2.hA (by decide)), (hs_w_2.gI (by decide)), (hs_w_2.gI (by decide)), (hs_w_2.gI (by decide)), (hs_w_2.gI (by decide)), (hs_w_2.gI (by decide)), (hs_w_2.gI (by decide)), (hs_w_2.gI (by decide))⟩ hR_12.1, Mn_cg ⟨(hs_w_2.hA (by decide)), (hs_w_2.hA (by decide)), (hs_w_2.hA (by decide)), (hs_w_2.hA (by decide)), (hs_w_2.hA (by decide)), (hs_w_2.hA (by decide)), (hs_w_2.gI (by decide)), (hs_w_2.gI (by decide)), (hs_w_2.gI (by decide)), (hs_w_2.gI (by decide)), (hs_w_2.gI (by decide)), (hs_w_2.gI (by decide)), (hs_w_2.gI (by decide))⟩ hR_12.2⟩ : RI w_2 ∧ Mn w w_2).1) (FL_cg ((hs_w_2.gI (by decide)).trans (hM_w12.gI (by decide))) ((hs_w_2.gI (by decide)).trans (hM_w12.gI (by decide))) ((hs_w_2.hA (by decide)).trans (hM_w12.hA (by decide))) ((hs_w_2.hA (by decide)).trans (hM_w12.hA (by decide))) ((hs_w_2.hA (by decide)).trans (hM_w12.hA (by decide))) hFL) (Or.inr ⟨rfl, (⟨RI_cg ⟨(hs_w_2.hA (by decide)), (hs_w_2.hA (by decide)), (hs_w_2.hA (by decide)), (hs_w_2.hA (by decide)), (hs_w_2.hA (by decide)), (hs_w_2.hA (by decide)), (hs_w_2.gI (by decide)), (hs_w_2.gI (by decide)), (hs_w_2.gI (by decide)), (hs_w_2.gI (by decide)), (hs_w_2.gI (by decide)), (hs_w_2.gI (by decide)), (hs_w_2.gI (by decide))⟩ hR_12.1, Mn_cg ⟨(hs_w_2.hA (by decide)), (hs_w_2.hA (by decide)), (hs_w_2.hA (by decide)), (hs_w_2.hA (by decide)), (hs_w_2.hA (by decide)), (hs_w_2.hA (by decide)), (hs_w_2.gI (by decide)), (hs_w_2.gI (by decide)), (hs_w_2.gI (by decide)), (hs_w_2.gI (by decide)), (hs_w_2.gI (by decide)), (hs_w_2.gI (by decide)), (hs_w_2.gI (by decide))⟩ hR_12.2⟩ : RI w_2 ∧ Mn w w_2).2.2.2.1 hf_81_13.1⟩) ((by have e : (fI w_2 64 2).toInt = (fI w 64 2).toInt := congrArg Int32.toInt ((hs_w_2.gI (by decide)).trans (hM_w12.gI (by decide))); have t := t_sub (In_of (hM_w12.gI (by decide)).symm g12_64_2) (In_lit (n := 1) (by decide) (by decide) : In 1 1 1) (by decide); have z : (1 : Int32).toInt = 1 := (by decide); omega)) _) ⟨⟨rfl, rfl⟩, rfl, rfl⟩ sv_X9_135 ⟨(Nat.le_trans (by decide) hR.1), (Nat.le_trans (by decide) hR.2)⟩ 81 9 (hW_w_2.o tX_81) rfl rfl rfl hl.1 rfl (Nat.le_of_ble_eq_true rfl) dX9_spreadLeft_48) (fun w_6 H locs hw_w_6 hP hD hS => ?_)
          obtain ⟨hW_w_6, hs_w_6, h_8⟩ := hw_w_6
          have R_w_6 : RI w_6 ∧ Mn w w_6 := ⟨h_8.1, (⟨RI_cg ⟨(hs_w_2.hA (by decide)), (hs_w_2.hA (by decide)), (hs_w_2.hA (by decide)), (hs_w_2.hA (by decide)), (hs_w_2.hA (by decide)), (hs_w_2.hA (by decide)), (hs_w_2.gI (by decide)), (hs_w_2.gI (by decide)), (hs_w_2.gI (by decide)), (hs_w_2.gI (by decide)), (hs_w_2.gI (by decide)), (hs_w_2.gI (by decide)), (hs_w_2.gI (by decide))⟩ hR_12.1, Mn_cg ⟨(hs_w_2.hA (by decide)), (hs_w_2.hA (by decide)), (hs_w_2.hA (by decide)), (hs_w_2.hA (by decide)), (hs_w_2.hA (by decide)), (hs_w_2.hA (by decide)), (hs_w_2.gI (by decide)), (hs_w_2.gI (by decide)), (hs_w_2.gI (by decide)), (hs_w_2.gI (by decide)), (hs_w_2.gI (by decide)), (hs_w_2.gI (by decide)), (hs_w_2.gI (by decide))⟩ hR_12.2⟩ : RI w_2 ∧ Mn w w_2).2.tr h_8.2⟩
          exact J51 w_6 _ _ ls hW_w_6 ((hM_w12.tr hs_w_2 (by decide)).tr hs_w_6 (by decide)) i_x12_1 (R_nle_r (In_of (hM_w12.gI (by decide)).symm g12_64_0) i_x12_2 c_1 (by decide) : In 0 9 x12_2) (In_of ((hs_w_6.gI (by decide)).trans ((hs_w_2.gI (by decide)).trans (hM_w12.gI (by decide)))) (In_of (hM_w12.gI (by decide)).symm g12_64_0)) (In_of ((hs_w_6.gI (by decide)).trans ((hs_w_2.gI (by decide)).trans (hM_w12.gI (by decide)))) (In_of (hM_w12.gI (by decide)).symm g12_64_1)) (In_of ((hs_w_6.gI (by decide)).trans ((hs_w_2.gI (by decide)).trans (hM_w12.gI (by decide)))) (In_of (hM_w12.gI (by decide)).symm g12_64_2)) R_w_6 hP hD hS (lv_sub hl [0, 1, 2] rfl)
  refine lv_aload_n hx hb dX9_spreadLeft_0 rfl (lv_at hl 0 rfl) ?_
  refine gt_X9 hx hb hts hown hK hP 81 (hW_w.o tX_81) 0 (by decide) wd_511 rfl (hW_w.fr tX_81 rfl) dX9_spreadLeft_1 ?_
  refine gt_X3 hx hb hts hown hK hP 64 (hW_w.o tX_64) 2 (by decide) wd_409 rfl (hW_w.fi tX_64 rfl) dX9_spreadLeft_4 ?_
  refine lv_iconst (v := 1) hx hb dX9_spreadLeft_7 (by decide) ?_
  refine lv_isub hx hb dX9_spreadLeft_8 ?_
  refine lv_istore_n (lv' := [(1, .int ((fI w 64 2) - 1)), (0, .ref (q 81))]) hx hb dX9_spreadLeft_9 rfl hl (by decide) rfl (fun ls hl => ?_)
  refine lv_iconst (v := 0) hx hb dX9_spreadLeft_10 (by decide) ?_
  refine lv_istore_n (lv' := [(2, .int 0), (1, .int ((fI w 64 2) - 1)), (0, .ref (q 81))]) hx hb dX9_spreadLeft_11 rfl hl (by decide) rfl (fun ls hl => ?_)
  exact J12 _ 0 w _ _ ls (Nat.lt_succ_self _) hW_w Sm.rf ((In_sub hf_64_2 (In_lit (n := 1) (by decide) (by decide) : In 1 1 1) (by decide)) : In 0 23 ((fI w 64 2) - 1)) (In_lit (n := 0) (by decide) (by decide) : In 0 10 0) hf_64_0 hf_64_1 hf_64_2 R_w hP hD hS (lv_sub hl [2, 1, 0] rfl)
set_option maxRecDepth 100000 in
set_option maxHeartbeats 8000000 in
theorem k_X9_mayTake (l : Launch) (D : va_G) (cI cJ cZ : ClassId) (q : Nat → Nat) (bb bs bp : Nat) (w : va_W) (hW_w : HT q (TX q cI cJ cZ bb bs bp) w) (p1 : Int32) (p2 : Int32) (i_p1 : In 0 39 p1) (i_p2 : In 0 9 p2) (hf_64_0 : In 1 10 (fI w 64 0)) (hf_64_1 : In 1 40 (fI w 64 1)) (hf_64_2 : In 1 24 (fI w 64 2)) : Con_i l yX9_mayTake cX9_mayTake 4 (some .boolean) ({ frames := 1, cells := 0, slots := 0, locals := 22 }) D cI cJ cZ eW [.ref (q 81), .int p1, .int p2] w (fun (r : Int32) (w1 : va_W) => HT q (TX q cI cJ cZ bb bs bp) w1 ∧ Sm [] [] w w1 ∧ In 0 1 r) := by
  refine eQ_z rfl (by decide) (Nat.le_of_ble_eq_true rfl) ⟨rfl, rfl⟩ ?_
  intro p e R s m args below meth c A Q hx hb hml hown hts hK hE hA hR hret hP hD hS ls hl
  have hown : s.vm.findClass RX9 = some m.cls := hown
  have hl : lv_has ls 4 [(0, .ref (q 81)), (1, .int p1), (2, .int p2)] := hl
  refine lv_iload_n hx hb dX9_mayTake_0 rfl (lv_at hl 2 rfl) ?_
  refine lv_bipush (v := 24) hx hb dX9_mayTake_1 (by decide) ?_
  refine lv_imul hx hb dX9_mayTake_3 ?_
  refine lv_aload_n hx hb dX9_mayTake_4 rfl (lv_at hl 0 rfl) ?_
  refine gt_X9 hx hb hts hown hK hP 81 (hW_w.o tX_81) 0 (by decide) wd_511 rfl (hW_w.fr tX_81 rfl) dX9_mayTake_5 ?_
  refine gt_X3 hx hb hts hown hK hP 64 (hW_w.o tX_64) 3 (by decide) wd_411 rfl (hW_w.fr tX_64 rfl) dX9_mayTake_8 ?_
  refine lv_iload_n hx hb dX9_mayTake_11 rfl (lv_at hl 1 rfl) ?_
  refine va_iald hx hb hK hP 65 0 (hW_w.a tX_65) rfl (in_I i_p1 (by decide)) dX9_mayTake_12 ?_
  refine lv_topi (fun v_1 ev_1 => ?_)
  refine lv_iadd hx hb dX9_mayTake_13 ?_
  refine lv_istore_n (lv' := [(3, .int ((p2 * 24) + v_1)), (0, .ref (q 81)), (1, .int p1), (2, .int p2)]) hx hb dX9_mayTake_14 rfl hl (by decide) rfl (fun ls hl => ?_)
  refine lv_aload_n hx hb dX9_mayTake_15 rfl (lv_at hl 1 rfl) ?_
  refine gt_X9 hx hb hts hown hK hP 81 (hW_w.o tX_81) 0 (by decide) wd_511 rfl (hW_w.fr tX_81 rfl) dX9_mayTake_16 ?_
  refine gt_X3 hx hb hts hown hK hP 64 (hW_w.o tX_64) 7 (by decide) wd_423 rfl (hW_w.fr tX_64 rfl) dX9_mayTake_19 ?_
  refine lv_iload_n hx hb dX9_mayTake_22 rfl (lv_at hl 2 rfl) ?_
  refine va_iald hx hb hK hP 69 0 (hW_w.a tX_69) rfl (in_I i_p1 (by decide)) dX9_mayTake_23 ?_
  refine lv_topi (fun v_2 ev_2 => ?_)
  refine lv_iload_n hx hb dX9_mayTake_24 rfl (lv_at hl 3 rfl) ?_
  refine lv_ishr hx hb dX9_mayTake_25 ?_
  refine lv_topi (fun v_3 ev_3 => ?_)
  refine lv_iconst (v := 1) hx hb dX9_mayTake_26 (by decide) ?_
  refine lv_iand hx hb dX9_mayTake_27 ?_
  refine lv_if_eq (tgt := 81) hx hb dX9_mayTake_28 (by decide) (fun c_4 => ?_) (fun c_4 => ?_)
  · refine lv_iconst (v := 0) hx hb dX9_mayTake_81 (by decide) ?_
    exact hret _ _ _ _ _ _ hP hD hS dX9_mayTake_82 (In_lit (n := 0) (by decide) (by decide) : In 0 1 0) ⟨hW_w, Sm.rf, (In_lit (n := 0) (by decide) (by decide) : In 0 1 0)⟩
  · refine lv_aload_n hx hb dX9_mayTake_31 rfl (lv_at hl 1 rfl) ?_
    refine gt_X9 hx hb hts hown hK hP 81 (hW_w.o tX_81) 7 (by decide) wd_518 rfl (hW_w.fr tX_81 rfl) dX9_mayTake_32 ?_
    refine lv_iload_n hx hb dX9_mayTake_35 rfl (lv_at hl 0 rfl) ?_
    refine va_iald hx hb hK hP 85 0 (hW_w.a tX_85) rfl (in_I ((In_add ((In_mulr i_p2 (n := 24) (by decide) (by decide)) : In 0 216 (p2 * 24)) (In_of ev_1 (hW_w.ap tX_65 _) : In 0 23 v_1) (by decide)) : In 0 239 ((p2 * 24) + v_1)) (by decide)) dX9_mayTake_36 ?_
    refine lv_topi (fun v_5 ev_5 => ?_)
    refine lv_aload_n hx hb dX9_mayTake_37 rfl (lv_at hl 1 rfl) ?_
    refine gt_X9 hx hb hts hown hK hP 81 (hW_w.o tX_81) 4 (by decide) wd_515 rfl (hW_w.fi tX_81 rfl) dX9_mayTake_38 ?_
    refine lv_icmp_eq (tgt := 81) hx hb dX9_mayTake_41 (by decide) (fun c_6 => ?_) (fun c_6 => ?_)
    · refine lv_iconst (v := 0) hx hb dX9_mayTake_81 (by decide) ?_
      exact hret _ _ _ _ _ _ hP hD hS dX9_mayTake_82 (In_lit (n := 0) (by decide) (by decide) : In 0 1 0) ⟨hW_w, Sm.rf, (In_lit (n := 0) (by decide) (by decide) : In 0 1 0)⟩
    · refine lv_aload_n hx hb dX9_mayTake_44 rfl (lv_at hl 1 rfl) ?_
      refine gt_X9 hx hb hts hown hK hP 81 (hW_w.o tX_81) 1 (by decide) wd_512 rfl (hW_w.fr tX_81 rfl) dX9_mayTake_45 ?_
      refine gt_X2 hx hb hts hown hK hP 74 (hW_w.o tX_74) 3 (by decide) wd_472 rfl (hW_w.fr tX_74 rfl) dX9_mayTake_48 ?_
      refine lv_iload_n hx hb dX9_mayTake_51 rfl (lv_at hl 0 rfl) ?_
      refine va_lald hx hb hK hP 77 1 (hW_w.al tX_77) rfl (in_I ((In_add ((In_mulr i_p2 (n := 24) (by decide) (by decide)) : In 0 216 (p2 * 24)) (In_of ev_1 (hW_w.ap tX_65 _) : In 0 23 v_1) (by decide)) : In 0 239 ((p2 * 24) + v_1)) (by decide)) dX9_mayTake_52 ?_
      refine lv_topl (fun v_7 ev_7 => ?_)
      refine lv_aload_n hx hb dX9_mayTake_53 rfl (lv_at hl 1 rfl) ?_
      refine gt_X9 hx hb hts hown hK hP 81 (hW_w.o tX_81) 1 (by decide) wd_512 rfl (hW_w.fr tX_81 rfl) dX9_mayTake_54 ?_
      refine gt_X2 hx hb hts hown hK hP 74 (hW_w.o tX_74) 1 (by decide) wd_469 rfl (hW_w.fr tX_74 rfl) dX9_mayTake_57 ?_
      refine lv_iload_n hx hb dX9_mayTake_60 rfl (lv_at hl 2 rfl) ?_
      refine va_lald hx hb hK hP 75 1 (hW_w.al tX_75) rfl (in_I i_p1 (by decide)) dX9_mayTake_61 ?_
      refine lv_topl (fun v_8 ev_8 => ?_)
      refine lv_aload_n hx hb dX9_mayTake_62 rfl (lv_at hl 1 rfl) ?_
      refine gt_X9 hx hb hts hown hK hP 81 (hW_w.o tX_81) 0 (by decide) wd_511 rfl (hW_w.fr tX_81 rfl) dX9_mayTake_63 ?_
      refine lv_iload_n hx hb dX9_mayTake_66 rfl (lv_at hl 2 rfl) ?_
      refine lv_iload_n hx hb dX9_mayTake_67 rfl (lv_at hl 3 rfl) ?_
      refine kW_i ⟨rfl, rfl⟩ hP hD hS hA (rW_V (As := [.int p1, .int p2]) (rest := [.long v_8, .long v_7]) hx hb hml hown hts hK hE hP hD (k_X3_pointsOf l D cI cJ cZ q bb bs bp w hW_w p1 p2 i_p1 i_p2 hf_64_0 hf_64_1 hf_64_2 _) ⟨⟨rfl, rfl⟩, rfl, rfl⟩ sv_X9_131 ⟨(Nat.le_trans (by decide) hR.1), (Nat.le_trans (by decide) hR.2)⟩ 64 3 (hW_w.o tX_64) rfl rfl rfl hl.1 rfl (Nat.le_of_ble_eq_true rfl) dX9_mayTake_68) (fun r_10 w_9 H locs hw_w_9 hP hD hS => ?_)
      obtain ⟨hW_w_9, hs_w_9⟩ := hw_w_9
      refine lv_i2l hx hb dX9_mayTake_71 rfl ?_
      refine lv_topl (fun v_11 ev_11 => ?_)
      refine lv_lsub hx hb dX9_mayTake_72 ?_
      refine lv_topl (fun v_12 ev_12 => ?_)
      refine W.lcmp hx hb dX9_mayTake_73 ?_
      refine lv_topi (fun v_13 ev_13 => ?_)
      refine lv_if_ne (tgt := 81) hx hb dX9_mayTake_74 (by decide) (fun c_14 => ?_) (fun c_14 => ?_)
      · refine lv_iconst (v := 0) hx hb dX9_mayTake_81 (by decide) ?_
        exact hret _ _ _ _ _ _ hP hD hS dX9_mayTake_82 (In_lit (n := 0) (by decide) (by decide) : In 0 1 0) ⟨hW_w_9, (Sm.rf.tr hs_w_9 (by decide)), (In_lit (n := 0) (by decide) (by decide) : In 0 1 0)⟩
      · refine lv_iconst (v := 1) hx hb dX9_mayTake_77 (by decide) ?_
        refine lv_goto (tgt := 82) hx hb dX9_mayTake_78 (by decide) ?_
        exact hret _ _ _ _ _ _ hP hD hS dX9_mayTake_82 (In_lit (n := 1) (by decide) (by decide) : In 0 1 1) ⟨hW_w_9, (Sm.rf.tr hs_w_9 (by decide)), (In_lit (n := 1) (by decide) (by decide) : In 0 1 1)⟩
set_option maxRecDepth 100000 in
set_option maxHeartbeats 8000000 in
theorem k_X9_widen (l : Launch) (D : va_G) (cI cJ cZ : ClassId) (q : Nat → Nat) (bb bs bp : Nat) (w : va_W) (hW_w : HT q (TX q cI cJ cZ bb bs bp) w) (p1 : Int32) (i_p1 : In 0 39 p1) (hf_64_0 : In 1 10 (fI w 64 0)) (hf_64_1 : In 1 40 (fI w 64 1)) (hf_64_2 : In 1 24 (fI w 64 2)) (hRI : RI w) (hFL : FL w) (hsn : sn w p1.toNatClampNeg) : Con_v l yX9_widen cX9_widen 4 none ({ frames := 3, cells := 0, slots := 0, locals := 77 }) D cI cJ cZ eW [.ref (q 81), .int p1] w (fun (w1 : va_W) => HT q (TX q cI cJ cZ bb bs bp) w1 ∧ Sm [81, 83, 84, 85, 86, 87] [(81, 11), (81, 12), (81, 13)] w w1 ∧ ((RI w1 ∧ Mn w w1))) := by
  refine eQ_v rfl (by decide) (Nat.le_of_ble_eq_true rfl) ⟨rfl, rfl⟩ ?_
  intro p e R s m args below meth c A Q hx hb hml hown hts hK hE hA hR hret hP hD hS ls hl
  have hown : s.vm.findClass RX9 = some m.cls := hown
  have hl : lv_has ls 4 [(0, .ref (q 81)), (1, .int p1)] := hl
  have R_w : RI w ∧ Mn w w := ⟨hRI, Mn.rf⟩
  have J23 : ∀ (N : Nat) (x23_2 : Int32) (x23_3 : Int32) (w23 : va_W) (H : Heap) (locs : List Loc) (ls : Array Slot), (10 - x23_3.toInt).toNat < N → HT q (TX q cI cJ cZ bb bs bp) w23 → Sm [81, 83, 84, 85, 86, 87] [(81, 11), (81, 12), (81, 13)] w w23 → (In 0 39 p1) → (In 0 10 x23_3) → (In 1 10 (fI w23 64 0)) → (In 1 40 (fI w23 64 1)) → (In 1 24 (fI w23 64 2)) → (RI w23 ∧ Mn w w23) → va_P D vwCl w23 H → va_D A w23 → va_S A s.heap H locs → lv_has ls 4 [(0, .ref (q 81)), (1, .int p1), (2, .int x23_2), (3, .int x23_3)] → W p l e R s m args below meth c H locs 0 0 Q (F0 m 23 ls []) := by
    intro N
    induction N with
    | zero => intro x23_2 x23_3 w23 H locs ls hmu; exact absurd hmu (Nat.not_lt_zero _)
    | succ N ih23 =>
      intro x23_2 x23_3 w23 H locs ls hmu23 hW_w23 hM_w23 i_x23_1 i_x23_3 g23_64_0 g23_64_1 g23_64_2 hR_23 hP hD hS hl
      have J66 : ∀ (w66 : va_W) (H : Heap) (locs : List Loc) (ls : Array Slot), HT q (TX q cI cJ cZ bb bs bp) w66 → Sm [81, 83, 84, 85, 86, 87] [(81, 11), (81, 12), (81, 13)] w w66 → (In 0 39 p1) → (In 0 9 x23_3) → (In 1 10 (fI w66 64 0)) → (In 1 40 (fI w66 64 1)) → (In 1 24 (fI w66 64 2)) → (RI w66 ∧ Mn w w66) → va_P D vwCl w66 H → va_D A w66 → va_S A s.heap H locs → lv_has ls 4 [(0, .ref (q 81)), (1, .int p1), (2, .int x23_2), (3, .int x23_3)] → W p l e R s m args below meth c H locs 0 0 Q (F0 m 66 ls []) := by
        intro w66 H locs ls hW_w66 hM_w66 i_x66_1 i_x66_3 g66_64_0 g66_64_1 g66_64_2 hR_66 hP hD hS hl
        refine lv_iinc (v := (x23_3 + 1)) (lv' := [(3, .int (x23_3 + 1)), (0, .ref (q 81)), (1, .int p1), (2, .int x23_2)]) hx hb dX9_widen_66 hl (k := 3) rfl (rfl) (by decide) rfl (fun ls hl => ?_)
        refine lv_goto (tgt := 23) hx hb dX9_widen_69 (by decide) ?_
        exact ih23 x23_2 (x23_3 + 1) w66 _ _ ls (mu_inc hmu23 i_x66_3 (In_lit (n := 1) (by decide) (by decide) : In 1 1 1) (by decide)) hW_w66 hM_w66 i_p1 (In_w ((In_add (y := 1) i_x66_3 (In_lit (n := 1) (by decide) (by decide) : In 1 1 1) (by decide)) : In 1 10 (x23_3 + 1)) (by decide) : In 0 10 (x23_3 + 1)) (In_of (hM_w66.gI (by decide)) (In_of (hM_w66.gI (by decide)).symm g66_64_0)) (In_of (hM_w66.gI (by decide)) (In_of (hM_w66.gI (by decide)).symm g66_64_1)) (In_of (hM_w66.gI (by decide)) (In_of (hM_w66.gI (by decide)).symm g66_64_2)) hR_66 hP hD hS (lv_sub hl [1, 2, 3, 0] rfl)
      refine lv_iload_n hx hb dX9_widen_23 rfl (lv_at hl 3 rfl) ?_
      refine lv_aload_n hx hb dX9_widen_24 rfl (lv_at hl 0 rfl) ?_
      refine gt_X9 hx hb hts hown hK hP 81 (hW_w23.o tX_81) 0 (by decide) wd_511 rfl (hW_w23.fr tX_81 rfl) dX9_widen_25 ?_
      refine gt_X3 hx hb hts hown hK hP 64 (hW_w23.o tX_64) 0 (by decide) wd_401 rfl (hW_w23.fi tX_64 rfl) dX9_widen_28 ?_
      refine tov (v := (fI w 64 0)) (hM_w23.gI (by decide)) ?_
      refine lv_icmp_ge (tgt := 72) hx hb dX9_widen_31 (by decide) (fun c_1 => ?_) (fun c_1 => ?_)
      · exact hret _ _ _ _ _ hP hD hS dX9_widen_72 ⟨hW_w23, hM_w23, hR_23⟩
      · refine lv_iload_n hx hb dX9_widen_34 rfl (lv_at hl 2 rfl) ?_
        refine lv_iload_n hx hb dX9_widen_35 rfl (lv_at hl 3 rfl) ?_
        refine lv_ishr hx hb dX9_widen_36 ?_
        refine lv_topi (fun v_2 ev_2 => ?_)
        refine lv_iconst (v := 1) hx hb dX9_widen_37 (by decide) ?_
        refine lv_iand hx hb dX9_widen_38 ?_
        refine lv_if_eq (tgt := 66) hx hb dX9_widen_39 (by decide) (fun c_3 => ?_) (fun c_3 => ?_)
        · exact J66 w23 _ _ ls hW_w23 hM_w23 i_p1 (R_nle_r (In_of (hM_w23.gI (by decide)).symm g23_64_0) i_x23_3 c_1 (by decide) : In 0 9 x23_3) (In_of (hM_w23.gI (by decide)) (In_of (hM_w23.gI (by decide)).symm g23_64_0)) (In_of (hM_w23.gI (by decide)) (In_of (hM_w23.gI (by decide)).symm g23_64_1)) (In_of (hM_w23.gI (by decide)) (In_of (hM_w23.gI (by decide)).symm g23_64_2)) hR_23 hP hD hS (lv_sub hl [0, 1, 2, 3] rfl)
        · refine lv_aload_n hx hb dX9_widen_42 rfl (lv_at hl 0 rfl) ?_
          refine lv_iload_n hx hb dX9_widen_43 rfl (lv_at hl 1 rfl) ?_
          refine lv_iload_n hx hb dX9_widen_44 rfl (lv_at hl 3 rfl) ?_
          refine kW_i ⟨rfl, rfl⟩ hP hD hS hA (rW_V (As := [.int p1, .int x23_3]) (rest := []) hx hb hml hown hts hK hE hP hD (k_X9_mayTake l D cI cJ cZ q bb bs bp w23 hW_w23 p1 x23_3 i_p1 (R_nle_r (In_of (hM_w23.gI (by decide)).symm g23_64_0) i_x23_3 c_1 (by decide) : In 0 9 x23_3) (In_of (hM_w23.gI (by decide)) (In_of (hM_w23.gI (by decide)).symm g23_64_0)) (In_of (hM_w23.gI (by decide)) (In_of (hM_w23.gI (by decide)).symm g23_64_1)) (In_of (hM_w23.gI (by decide)) (In_of (hM_w23.gI (by decide)).symm g23_64_2)) _) ⟨⟨rfl, rfl⟩, rfl, rfl⟩ sv_X9_80 ⟨(Nat.le_trans (by decide) hR.1), (Nat.le_trans (by decide) hR.2)⟩ 81 9 (hW_w23.o tX_81) rfl rfl rfl hl.1 rfl (Nat.le_of_ble_eq_true rfl) dX9_widen_45) (fun r_5 w_4 H locs hw_w_4 hP hD hS => ?_)
          obtain ⟨hW_w_4, hs_w_4, i_r_5⟩ := hw_w_4
          refine lv_if_eq (tgt := 66) hx hb dX9_widen_48 (by decide) (fun c_6 => ?_) (fun c_6 => ?_)
          · exact J66 w_4 _ _ ls hW_w_4 (hM_w23.tr hs_w_4 (by decide)) i_p1 (R_nle_r (In_of (hM_w23.gI (by decide)).symm g23_64_0) i_x23_3 c_1 (by decide) : In 0 9 x23_3) (In_of ((hs_w_4.gI (by decide)).trans (hM_w23.gI (by decide))) (In_of (hM_w23.gI (by decide)).symm g23_64_0)) (In_of ((hs_w_4.gI (by decide)).trans (hM_w23.gI (by decide))) (In_of (hM_w23.gI (by decide)).symm g23_64_1)) (In_of ((hs_w_4.gI (by decide)).trans (hM_w23.gI (by decide))) (In_of (hM_w23.gI (by decide)).symm g23_64_2)) (⟨RI_cg ⟨(hs_w_4.hA (by decide)), (hs_w_4.hA (by decide)), (hs_w_4.hA (by decide)), (hs_w_4.hA (by decide)), (hs_w_4.hA (by decide)), (hs_w_4.hA (by decide)), (hs_w_4.gI (by decide)), (hs_w_4.gI (by decide)), (hs_w_4.gI (by decide)), (hs_w_4.gI (by decide)), (hs_w_4.gI (by decide)), (hs_w_4.gI (by decide)), (hs_w_4.gI (by decide))⟩ hR_23.1, Mn_cg ⟨(hs_w_4.hA (by decide)), (hs_w_4.hA (by decide)), (hs_w_4.hA (by decide)), (hs_w_4.hA (by decide)), (hs_w_4.hA (by decide)), (hs_w_4.hA (by decide)), (hs_w_4.gI (by decide)), (hs_w_4.gI (by decide)), (hs_w_4.gI (by decide)), (hs_w_4.gI (by decide)), (hs_w_4.gI (by decide)), (hs_w_4.gI (by decide)), (hs_w_4.gI (by decide))⟩ hR_23.2⟩ : RI w_4 ∧ Mn w w_4) hP hD hS (lv_sub hl [0, 1, 2, 3] rfl)
          · refine lv_aload_n hx hb dX9_widen_51 rfl (lv_at hl 0 rfl) ?_
            refine lv_iload_n hx hb dX9_widen_52 rfl (lv_at hl 1 rfl) ?_
            refine lv_iload_n hx hb dX9_widen_53 rfl (lv_at hl 3 rfl) ?_
            refine lv_aload_n hx hb dX9_widen_54 rfl (lv_at hl 0 rfl) ?_
            refine gt_X9 hx hb hts hown hK hP 81 (hW_w_4.o tX_81) 0 (by decide) wd_511 rfl (hW_w_4.fr tX_81 rfl) dX9_widen_55 ?_
            refine gt_X3 hx hb hts hown hK hP 64 (hW_w_4.o tX_64) 3 (by decide) wd_411 rfl (hW_w_4.fr tX_64 rfl) dX9_widen_58 ?_
            refine lv_iload_n hx hb dX9_widen_61 rfl (lv_at hl 1 rfl) ?_
            refine va_iald hx hb hK hP 65 0 (hW_w_4.a tX_65) rfl (in_I i_p1 (by decide)) dX9_widen_62 ?_
            refine lv_topi (fun v_7 ev_7 => ?_)
            refine kW_v ⟨rfl, rfl⟩ hP hD hS hA (rW_V (As := [.int p1, .int x23_3, .int v_7]) (rest := []) hx hb hml hown hts hK hE hP hD (k_X9_spread l D cI cJ cZ q bb bs bp w_4 hW_w_4 p1 x23_3 v_7 (In_w i_p1 (by decide) : In (-2) 39 p1) (R_nle_r (In_of (hM_w23.gI (by decide)).symm g23_64_0) i_x23_3 c_1 (by decide) : In 0 9 x23_3) (In_of ev_7 (hW_w_4.ap tX_65 _) : In 0 23 v_7) (In_of ((hs_w_4.gI (by decide)).trans (hM_w23.gI (by decide))) (In_of (hM_w23.gI (by decide)).symm g23_64_0)) (In_of ((hs_w_4.gI (by decide)).trans (hM_w23.gI (by decide))) (In_of (hM_w23.gI (by decide)).symm g23_64_1)) (In_of ((hs_w_4.gI (by decide)).trans (hM_w23.gI (by decide))) (In_of (hM_w23.gI (by decide)).symm g23_64_2)) ((⟨RI_cg ⟨(hs_w_4.hA (by decide)), (hs_w_4.hA (by decide)), (hs_w_4.hA (by decide)), (hs_w_4.hA (by decide)), (hs_w_4.hA (by decide)), (hs_w_4.hA (by decide)), (hs_w_4.gI (by decide)), (hs_w_4.gI (by decide)), (hs_w_4.gI (by decide)), (hs_w_4.gI (by decide)), (hs_w_4.gI (by decide)), (hs_w_4.gI (by decide)), (hs_w_4.gI (by decide))⟩ hR_23.1, Mn_cg ⟨(hs_w_4.hA (by decide)), (hs_w_4.hA (by decide)), (hs_w_4.hA (by decide)), (hs_w_4.hA (by decide)), (hs_w_4.hA (by decide)), (hs_w_4.hA (by decide)), (hs_w_4.gI (by decide)), (hs_w_4.gI (by decide)), (hs_w_4.gI (by decide)), (hs_w_4.gI (by decide)), (hs_w_4.gI (by decide)), (hs_w_4.gI (by decide)), (hs_w_4.gI (by decide))⟩ hR_23.2⟩ : RI w_4 ∧ Mn w w_4).1) (FL_cg ((hs_w_4.gI (by decide)).trans (hM_w23.gI (by decide))) ((hs_w_4.gI (by decide)).trans (hM_w23.gI (by decide))) ((hs_w_4.hA (by decide)).trans (hM_w23.hA (by decide))) ((hs_w_4.hA (by decide)).trans (hM_w23.hA (by decide))) ((hs_w_4.hA (by decide)).trans (hM_w23.hA (by decide))) hFL) (Or.inl ⟨i_p1.1, Or.inr ((⟨RI_cg ⟨(hs_w_4.hA (by decide)), (hs_w_4.hA (by decide)), (hs_w_4.hA (by decide)), (hs_w_4.hA (by decide)), (hs_w_4.hA (by decide)), (hs_w_4.hA (by decide)), (hs_w_4.gI (by decide)), (hs_w_4.gI (by decide)), (hs_w_4.gI (by decide)), (hs_w_4.gI (by decide)), (hs_w_4.gI (by decide)), (hs_w_4.gI (by decide)), (hs_w_4.gI (by decide))⟩ hR_23.1, Mn_cg ⟨(hs_w_4.hA (by decide)), (hs_w_4.hA (by decide)), (hs_w_4.hA (by decide)), (hs_w_4.hA (by decide)), (hs_w_4.hA (by decide)), (hs_w_4.hA (by decide)), (hs_w_4.gI (by decide)), (hs_w_4.gI (by decide)), (hs_w_4.gI (by decide)), (hs_w_4.gI (by decide)), (hs_w_4.gI (by decide)), (hs_w_4.gI (by decide)), (hs_w_4.gI (by decide))⟩ hR_23.2⟩ : RI w_4 ∧ Mn w w_4).2.1 _ hsn)⟩) ((by have g := hFL.2.1 p1.toNatClampNeg (by have g := (hRI.1 p1.toNatClampNeg (by have q := nat_of (n := 39) i_p1; omega) hsn).2; exact g); have e : (v_7 : Int32).toInt = (aF w 65 p1.toNatClampNeg).toInt := congrArg Int32.toInt (ev_7.trans (congrFun ((hs_w_4.hA (by decide)).trans (hM_w23.hA (by decide))) _)); have e2 : (fI w_4 64 2).toInt = (fI w 64 2).toInt := congrArg Int32.toInt ((hs_w_4.gI (by decide)).trans (hM_w23.gI (by decide))); omega)) _) ⟨⟨rfl, rfl⟩, rfl, rfl⟩ sv_X9_135 ⟨(Nat.le_trans (by decide) hR.1), (Nat.le_trans (by decide) hR.2)⟩ 81 9 (hW_w_4.o tX_81) rfl rfl rfl hl.1 rfl (Nat.le_of_ble_eq_true rfl) dX9_widen_63) (fun w_8 H locs hw_w_8 hP hD hS => ?_)
            obtain ⟨hW_w_8, hs_w_8, h_10⟩ := hw_w_8
            have R_w_8 : RI w_8 ∧ Mn w w_8 := ⟨h_10.1, (⟨RI_cg ⟨(hs_w_4.hA (by decide)), (hs_w_4.hA (by decide)), (hs_w_4.hA (by decide)), (hs_w_4.hA (by decide)), (hs_w_4.hA (by decide)), (hs_w_4.hA (by decide)), (hs_w_4.gI (by decide)), (hs_w_4.gI (by decide)), (hs_w_4.gI (by decide)), (hs_w_4.gI (by decide)), (hs_w_4.gI (by decide)), (hs_w_4.gI (by decide)), (hs_w_4.gI (by decide))⟩ hR_23.1, Mn_cg ⟨(hs_w_4.hA (by decide)), (hs_w_4.hA (by decide)), (hs_w_4.hA (by decide)), (hs_w_4.hA (by decide)), (hs_w_4.hA (by decide)), (hs_w_4.hA (by decide)), (hs_w_4.gI (by decide)), (hs_w_4.gI (by decide)), (hs_w_4.gI (by decide)), (hs_w_4.gI (by decide)), (hs_w_4.gI (by decide)), (hs_w_4.gI (by decide)), (hs_w_4.gI (by decide))⟩ hR_23.2⟩ : RI w_4 ∧ Mn w w_4).2.tr h_10.2⟩
            exact J66 w_8 _ _ ls hW_w_8 ((hM_w23.tr hs_w_4 (by decide)).tr hs_w_8 (by decide)) i_p1 (R_nle_r (In_of (hM_w23.gI (by decide)).symm g23_64_0) i_x23_3 c_1 (by decide) : In 0 9 x23_3) (In_of ((hs_w_8.gI (by decide)).trans ((hs_w_4.gI (by decide)).trans (hM_w23.gI (by decide)))) (In_of (hM_w23.gI (by decide)).symm g23_64_0)) (In_of ((hs_w_8.gI (by decide)).trans ((hs_w_4.gI (by decide)).trans (hM_w23.gI (by decide)))) (In_of (hM_w23.gI (by decide)).symm g23_64_1)) (In_of ((hs_w_8.gI (by decide)).trans ((hs_w_4.gI (by decide)).trans (hM_w23.gI (by decide)))) (In_of (hM_w23.gI (by decide)).symm g23_64_2)) R_w_8 hP hD hS (lv_sub hl [0, 1, 2, 3] rfl)
  refine lv_aload_n hx hb dX9_widen_0 rfl (lv_at hl 0 rfl) ?_
  refine gt_X9 hx hb hts hown hK hP 81 (hW_w.o tX_81) 0 (by decide) wd_511 rfl (hW_w.fr tX_81 rfl) dX9_widen_1 ?_
  refine gt_X3 hx hb hts hown hK hP 64 (hW_w.o tX_64) 8 (by decide) wd_427 rfl (hW_w.fr tX_64 rfl) dX9_widen_4 ?_
  refine lv_iload_n hx hb dX9_widen_7 rfl (lv_at hl 1 rfl) ?_
  refine va_iald hx hb hK hP 70 0 (hW_w.a tX_70) rfl (in_I i_p1 (by decide)) dX9_widen_8 ?_
  refine lv_topi (fun v_11 ev_11 => ?_)
  refine lv_iconst (v := (-1)) hx hb dX9_widen_9 (by decide) ?_
  refine lv_ixor hx hb dX9_widen_10 ?_
  refine lv_topi (fun v_12 ev_12 => ?_)
  refine lv_aload_n hx hb dX9_widen_11 rfl (lv_at hl 0 rfl) ?_
  refine gt_X9 hx hb hts hown hK hP 81 (hW_w.o tX_81) 3 (by decide) wd_514 rfl (hW_w.fr tX_81 rfl) dX9_widen_12 ?_
  refine lv_iload_n hx hb dX9_widen_15 rfl (lv_at hl 1 rfl) ?_
  refine va_iald hx hb hK hP 82 0 (hW_w.a tX_82) rfl (in_I i_p1 (by decide)) dX9_widen_16 ?_
  refine lv_topi (fun v_13 ev_13 => ?_)
  refine lv_iconst (v := (-1)) hx hb dX9_widen_17 (by decide) ?_
  refine lv_ixor hx hb dX9_widen_18 ?_
  refine lv_topi (fun v_14 ev_14 => ?_)
  refine lv_iand hx hb dX9_widen_19 ?_
  refine lv_topi (fun v_15 ev_15 => ?_)
  refine lv_istore_n (lv' := [(2, .int v_15), (0, .ref (q 81)), (1, .int p1)]) hx hb dX9_widen_20 rfl hl (by decide) rfl (fun ls hl => ?_)
  refine lv_iconst (v := 0) hx hb dX9_widen_21 (by decide) ?_
  refine lv_istore_n (lv' := [(3, .int 0), (2, .int v_15), (0, .ref (q 81)), (1, .int p1)]) hx hb dX9_widen_22 rfl hl (by decide) rfl (fun ls hl => ?_)
  exact J23 _ v_15 0 w _ _ ls (Nat.lt_succ_self _) hW_w Sm.rf i_p1 (In_lit (n := 0) (by decide) (by decide) : In 0 10 0) hf_64_0 hf_64_1 hf_64_2 R_w hP hD hS (lv_sub hl [2, 3, 1, 0] rfl)
set_option maxRecDepth 100000 in
set_option maxHeartbeats 8000000 in
theorem k_X9_finds (l : Launch) (D : va_G) (cI cJ cZ : ClassId) (q : Nat → Nat) (bb bs bp : Nat) (w : va_W) (hW_w : HT q (TX q cI cJ cZ bb bs bp) w) (p1 : Int32) (i_p1 : In 0 9 p1) (hf_64_0 : In 1 10 (fI w 64 0)) (hf_64_1 : In 1 40 (fI w 64 1)) (hf_64_2 : In 1 24 (fI w 64 2)) (hRI : RI w) (hFL : FL w) (hgr : (fI w 81 2).toInt < (fI w 64 1).toInt) : Con_i l yX9_finds cX9_finds 3 (some .boolean) ({ frames := 4, cells := 0, slots := 0, locals := 100 }) D cI cJ cZ eW [.ref (q 81), .int p1] w (fun (r : Int32) (w1 : va_W) => HT q (TX q cI cJ cZ bb bs bp) w1 ∧ Sm [81, 83, 84, 85, 86, 87] [(81, 10), (81, 11), (81, 12), (81, 13), (81, 14), (81, 15)] w w1 ∧ In 0 1 r ∧ ((RI w1 ∧ Mn w w1)) ∧ ((¬ r = 0 → sn w1 (fI w1 81 2).toNatClampNeg))) := by
  refine eQ_z rfl (by decide) (Nat.le_of_ble_eq_true rfl) ⟨rfl, rfl⟩ ?_
  intro p e R s m args below meth c A Q hx hb hml hown hts hK hE hA hR hret hP hD hS ls hl
  have hown : s.vm.findClass RX9 = some m.cls := hown
  have hl : lv_has ls 3 [(0, .ref (q 81)), (1, .int p1)] := hl
  have R_w : RI w ∧ Mn w w := ⟨hRI, Mn.rf⟩
  have J144 : ∀ (x144_2 : Int32) (w144 : va_W) (H : Heap) (locs : List Loc) (ls : Array Slot), HT q (TX q cI cJ cZ bb bs bp) w144 → Sm [81, 83, 84, 85, 86, 87] [(81, 10), (81, 11), (81, 12), (81, 13), (81, 14), (81, 15)] w w144 → (In 0 9 p1) → (In 0 1000001 x144_2) → (In 1 10 (fI w144 64 0)) → (In 1 40 (fI w144 64 1)) → (In 1 24 (fI w144 64 2)) → (RI w144 ∧ Mn w w144) → va_P D vwCl w144 H → va_D A w144 → va_S A s.heap H locs → lv_has ls 3 [(0, .ref (q 81)), (1, .int p1), (2, .int x144_2)] → W p l e R s m args below meth c H locs 0 0 Q (F0 m 144 ls []) := by
    intro x144_2 w144 H locs ls hW_w144 hM_w144 i_x144_1 i_x144_2 g144_64_0 g144_64_1 g144_64_2 hR_144 hP hD hS hl
    refine lv_aload_n hx hb dX9_finds_144 rfl (lv_at hl 0 rfl) ?_
    refine gt_X9 hx hb hts hown hK hP 81 (hW_w144.o tX_81) 5 (by decide) wd_516 rfl (hW_w144.fr tX_81 rfl) dX9_finds_145 ?_
    refine lv_aload_n hx hb dX9_finds_148 rfl (lv_at hl 0 rfl) ?_
    refine gt_X9 hx hb hts hown hK hP 81 (hW_w144.o tX_81) 2 (by decide) wd_513 rfl (hW_w144.fi tX_81 rfl) dX9_finds_149 ?_
    refine tov (v := (fI w 81 2)) (hM_w144.2 81 2 (by decide) (by decide)) ?_
    refine va_iald hx hb hK hP 83 0 (hW_w144.a tX_83) rfl (in_I (hW_w.fin tX_81 rfl : In 0 39 (fI w 81 2)) (by decide)) dX9_finds_152 ?_
    refine lv_topi (fun v_1 ev_1 => ?_)
    refine lv_aload_n hx hb dX9_finds_153 rfl (lv_at hl 0 rfl) ?_
    refine gt_X9 hx hb hts hown hK hP 81 (hW_w144.o tX_81) 4 (by decide) wd_515 rfl (hW_w144.fi tX_81 rfl) dX9_finds_154 ?_
    refine tov (v := (fI w 81 4)) (hM_w144.2 81 4 (by decide) (by decide)) ?_
    refine lv_icmp_ne (tgt := 164) hx hb dX9_finds_157 (by decide) (fun c_2 => ?_) (fun c_2 => ?_)
    · refine lv_iconst (v := 0) hx hb dX9_finds_164 (by decide) ?_
      exact hret _ _ _ _ _ _ hP hD hS dX9_finds_165 (In_lit (n := 0) (by decide) (by decide) : In 0 1 0) ⟨hW_w144, hM_w144, (In_lit (n := 0) (by decide) (by decide) : In 0 1 0), hR_144, (fun h => absurd rfl h)⟩
    · refine lv_iconst (v := 1) hx hb dX9_finds_160 (by decide) ?_
      refine lv_goto (tgt := 165) hx hb dX9_finds_161 (by decide) ?_
      exact hret _ _ _ _ _ _ hP hD hS dX9_finds_165 (In_lit (n := 1) (by decide) (by decide) : In 0 1 1) ⟨hW_w144, hM_w144, (In_lit (n := 1) (by decide) (by decide) : In 0 1 1), hR_144, (fun _ => by unfold sn; rw [show fI w144 81 2 = fI w 81 2 from (hM_w144.2 81 2 (by decide) (by decide)), ← ev_1, c_2]; exact ((hM_w144.2 81 4 (by decide) (by decide))).symm)⟩
  have J23 : ∀ (N : Nat) (x23_2 : Int32) (w23 : va_W) (H : Heap) (locs : List Loc) (ls : Array Slot), (1000000 - x23_2.toInt).toNat < N → HT q (TX q cI cJ cZ bb bs bp) w23 → Sm [81, 83, 84, 85, 86, 87] [(81, 10), (81, 11), (81, 12), (81, 13), (81, 14), (81, 15)] w w23 → (In 0 9 p1) → (In 0 1000000 x23_2) → (In 1 10 (fI w23 64 0)) → (In 1 40 (fI w23 64 1)) → (In 1 24 (fI w23 64 2)) → (RI w23 ∧ Mn w w23) → va_P D vwCl w23 H → va_D A w23 → va_S A s.heap H locs → lv_has ls 3 [(0, .ref (q 81)), (1, .int p1), (2, .int x23_2)] → W p l e R s m args below meth c H locs 0 0 Q (F0 m 23 ls []) := by
    intro N
    induction N with
    | zero => intro x23_2 w23 H locs ls hmu; exact absurd hmu (Nat.not_lt_zero _)
    | succ N ih23 =>
      intro x23_2 w23 H locs ls hmu23 hW_w23 hM_w23 i_x23_1 i_x23_2 g23_64_0 g23_64_1 g23_64_2 hR_23 hP hD hS hl
      have J138 : ∀ (w138 : va_W) (H : Heap) (locs : List Loc) (ls : Array Slot), HT q (TX q cI cJ cZ bb bs bp) w138 → Sm [81, 83, 84, 85, 86, 87] [(81, 10), (81, 11), (81, 12), (81, 13), (81, 14), (81, 15)] w w138 → (In 0 9 p1) → (In 0 999999 x23_2) → (In 1 10 (fI w138 64 0)) → (In 1 40 (fI w138 64 1)) → (In 1 24 (fI w138 64 2)) → (RI w138 ∧ Mn w w138) → va_P D vwCl w138 H → va_D A w138 → va_S A s.heap H locs → lv_has ls 3 [(0, .ref (q 81)), (1, .int p1), (2, .int x23_2)] → W p l e R s m args below meth c H locs 0 0 Q (F0 m 138 ls []) := by
        intro w138 H locs ls hW_w138 hM_w138 i_x138_1 i_x138_2 g138_64_0 g138_64_1 g138_64_2 hR_138 hP hD hS hl
        refine lv_iinc (v := (x23_2 + 1)) (lv' := [(2, .int (x23_2 + 1)), (0, .ref (q 81)), (1, .int p1)]) hx hb dX9_finds_138 hl (k := 2) rfl (rfl) (by decide) rfl (fun ls hl => ?_)
        refine lv_goto (tgt := 23) hx hb dX9_finds_141 (by decide) ?_
        exact ih23 (x23_2 + 1) w138 _ _ ls (mu_inc hmu23 i_x138_2 (In_lit (n := 1) (by decide) (by decide) : In 1 1 1) (by decide)) hW_w138 hM_w138 i_p1 (In_w ((In_add (y := 1) i_x138_2 (In_lit (n := 1) (by decide) (by decide) : In 1 1 1) (by decide)) : In 1 1000000 (x23_2 + 1)) (by decide) : In 0 1000000 (x23_2 + 1)) (In_of (hM_w138.gI (by decide)) (In_of (hM_w138.gI (by decide)).symm g138_64_0)) (In_of (hM_w138.gI (by decide)) (In_of (hM_w138.gI (by decide)).symm g138_64_1)) (In_of (hM_w138.gI (by decide)) (In_of (hM_w138.gI (by decide)).symm g138_64_2)) hR_138 hP hD hS (lv_sub hl [1, 2, 0] rfl)
      have J109 : ∀ (w109 : va_W) (H : Heap) (locs : List Loc) (ls : Array Slot), HT q (TX q cI cJ cZ bb bs bp) w109 → Sm [81, 83, 84, 85, 86, 87] [(81, 10), (81, 11), (81, 12), (81, 13), (81, 14), (81, 15)] w w109 → (In 0 9 p1) → (In 0 999999 x23_2) → (In 1 10 (fI w109 64 0)) → (In 1 40 (fI w109 64 1)) → (In 1 24 (fI w109 64 2)) → (fI w109 81 10 = (fI w23 81 10)) → (In 0 40 (fI w23 81 10)) → (fI w109 81 11 = (fI w23 81 11)) → (In 0 40 (fI w23 81 11)) → (fI w109 81 12 = (fI w23 81 12)) → (In (-1) 39 (fI w23 81 12)) → (RI w109 ∧ Mn w w109) → va_P D vwCl w109 H → va_D A w109 → va_S A s.heap H locs → lv_has ls 3 [(0, .ref (q 81)), (1, .int p1), (2, .int x23_2)] → W p l e R s m args below meth c H locs 0 0 Q (F0 m 109 ls []) := by
        intro w109 H locs ls hW_w109 hM_w109 i_x109_1 i_x109_2 g109_64_0 g109_64_1 g109_64_2 g109_81_10e g109_81_10 g109_81_11e g109_81_11 g109_81_12e g109_81_12 hR_109 hP hD hS hl
        refine lv_aload_n hx hb dX9_finds_109 rfl (lv_at hl 0 rfl) ?_
        refine gt_X9 hx hb hts hown hK hP 81 (hW_w109.o tX_81) 13 (by decide) wd_524 rfl (hW_w109.fi tX_81 rfl) dX9_finds_110 ?_
        refine lv_iconst (v := (-1)) hx hb dX9_finds_113 (by decide) ?_
        refine lv_icmp_eq (tgt := 136) hx hb dX9_finds_114 (by decide) (fun c_3 => ?_) (fun c_3 => ?_)
        · refine lv_iconst (v := 0) hx hb dX9_finds_136 (by decide) ?_
          exact hret _ _ _ _ _ _ hP hD hS dX9_finds_137 (In_lit (n := 0) (by decide) (by decide) : In 0 1 0) ⟨hW_w109, hM_w109, (In_lit (n := 0) (by decide) (by decide) : In 0 1 0), hR_109, (fun h => absurd rfl h)⟩
        · refine lv_aload_n hx hb dX9_finds_117 rfl (lv_at hl 0 rfl) ?_
          refine gt_X9 hx hb hts hown hK hP 81 (hW_w109.o tX_81) 15 (by decide) wd_526 rfl (hW_w109.fi tX_81 rfl) dX9_finds_118 ?_
          refine lv_if_ne (tgt := 136) hx hb dX9_finds_121 (by decide) (fun c_4 => ?_) (fun c_4 => ?_)
          · refine lv_iconst (v := 0) hx hb dX9_finds_136 (by decide) ?_
            exact hret _ _ _ _ _ _ hP hD hS dX9_finds_137 (In_lit (n := 0) (by decide) (by decide) : In 0 1 0) ⟨hW_w109, hM_w109, (In_lit (n := 0) (by decide) (by decide) : In 0 1 0), hR_109, (fun h => absurd rfl h)⟩
          · refine lv_aload_n hx hb dX9_finds_124 rfl (lv_at hl 0 rfl) ?_
            refine lv_iconst (v := 1) hx hb dX9_finds_125 (by decide) ?_
            refine pt_X9 hx hb hts hown hK hP hD hS 81 (hW_w109.o tX_81) 15 (by decide) wd_526 rfl rfl (ty := .boolean) (v := .int 1) (by decide +kernel) rfl rfl (hW_w109.ll tX_81 (Nat.le_of_ble_eq_true rfl)) dX9_finds_126 (fun H locs hP hD hS => fr_w (hW_w109.sI tX_81 rfl (In_lit (n := 1) (by decide) (by decide) : In 0 1 1)) hP hD (fun w_5 ew_5 hW_w_5 hP hD => ?_))
            refine lv_aload_n hx hb dX9_finds_129 rfl (lv_at hl 0 rfl) ?_
            refine kW_v ⟨rfl, rfl⟩ hP hD hS hA (rW_V (As := []) (rest := []) hx hb hml hown hts hK hE hP hD (k_X9_spreadLeft l D cI cJ cZ q bb bs bp w_5 hW_w_5 (In_of ((fI_cg (st_ne ew_5 (by decide))).trans (hM_w109.gI (by decide))) (In_of (hM_w109.gI (by decide)).symm g109_64_0)) (In_of ((fI_cg (st_ne ew_5 (by decide))).trans (hM_w109.gI (by decide))) (In_of (hM_w109.gI (by decide)).symm g109_64_1)) (In_of ((fI_cg (st_ne ew_5 (by decide))).trans (hM_w109.gI (by decide))) (In_of (hM_w109.gI (by decide)).symm g109_64_2)) (In_of (fI_nej (hW_w109.lt tX_81) ew_5 (by decide)) (R_ne_l (hW_w109.fin tX_81 rfl : In (-1) 9 (fI w109 81 13)) (In_lit (n := (-1)) (by decide) (by decide) : In (-1) (-1) (-1)) c_3 (by decide) : In 0 9 (fI w109 81 13))) ((⟨RI_cg ⟨(aF_cg (st_ne ew_5 (by decide))), (aF_cg (st_ne ew_5 (by decide))), (aF_cg (st_ne ew_5 (by decide))), (aF_cg (st_ne ew_5 (by decide))), (aF_cg (st_ne ew_5 (by decide))), (aF_cg (st_ne ew_5 (by decide))), (fI_nej (hW_w109.lt tX_81) ew_5 (by decide)), (fI_nej (hW_w109.lt tX_81) ew_5 (by decide)), (fI_nej (hW_w109.lt tX_81) ew_5 (by decide)), (fI_nej (hW_w109.lt tX_81) ew_5 (by decide)), (fI_nej (hW_w109.lt tX_81) ew_5 (by decide)), (fI_cg (st_ne ew_5 (by decide))), (fI_cg (st_ne ew_5 (by decide)))⟩ hR_109.1, Mn_cg ⟨(aF_cg (st_ne ew_5 (by decide))), (aF_cg (st_ne ew_5 (by decide))), (aF_cg (st_ne ew_5 (by decide))), (aF_cg (st_ne ew_5 (by decide))), (aF_cg (st_ne ew_5 (by decide))), (aF_cg (st_ne ew_5 (by decide))), (fI_nej (hW_w109.lt tX_81) ew_5 (by decide)), (fI_nej (hW_w109.lt tX_81) ew_5 (by decide)), (fI_nej (hW_w109.lt tX_81) ew_5 (by decide)), (fI_nej (hW_w109.lt tX_81) ew_5 (by decide)), (fI_nej (hW_w109.lt tX_81) ew_5 (by decide)), (fI_cg (st_ne ew_5 (by decide))), (fI_cg (st_ne ew_5 (by decide)))⟩ hR_109.2⟩ : RI w_5 ∧ Mn w w_5).1) (FL_cg ((fI_cg (st_ne ew_5 (by decide))).trans (hM_w109.gI (by decide))) ((fI_cg (st_ne ew_5 (by decide))).trans (hM_w109.gI (by decide))) ((aF_cg (st_ne ew_5 (by decide))).trans (hM_w109.hA (by decide))) ((aF_cg (st_ne ew_5 (by decide))).trans (hM_w109.hA (by decide))) ((aF_cg (st_ne ew_5 (by decide))).trans (hM_w109.hA (by decide))) hFL) _) ⟨⟨rfl, rfl⟩, rfl, rfl⟩ sv_X9_146 ⟨(Nat.le_trans (by decide) hR.1), (Nat.le_trans (by decide) hR.2)⟩ 81 9 (hW_w_5.o tX_81) rfl rfl rfl hl.1 rfl (Nat.le_of_ble_eq_true rfl) dX9_finds_130) (fun w_6 H locs hw_w_6 hP hD hS => ?_)
            obtain ⟨hW_w_6, hs_w_6, h_8⟩ := hw_w_6
            have R_w_6 : RI w_6 ∧ Mn w w_6 := ⟨h_8.1, (⟨RI_cg ⟨(aF_cg (st_ne ew_5 (by decide))), (aF_cg (st_ne ew_5 (by decide))), (aF_cg (st_ne ew_5 (by decide))), (aF_cg (st_ne ew_5 (by decide))), (aF_cg (st_ne ew_5 (by decide))), (aF_cg (st_ne ew_5 (by decide))), (fI_nej (hW_w109.lt tX_81) ew_5 (by decide)), (fI_nej (hW_w109.lt tX_81) ew_5 (by decide)), (fI_nej (hW_w109.lt tX_81) ew_5 (by decide)), (fI_nej (hW_w109.lt tX_81) ew_5 (by decide)), (fI_nej (hW_w109.lt tX_81) ew_5 (by decide)), (fI_cg (st_ne ew_5 (by decide))), (fI_cg (st_ne ew_5 (by decide)))⟩ hR_109.1, Mn_cg ⟨(aF_cg (st_ne ew_5 (by decide))), (aF_cg (st_ne ew_5 (by decide))), (aF_cg (st_ne ew_5 (by decide))), (aF_cg (st_ne ew_5 (by decide))), (aF_cg (st_ne ew_5 (by decide))), (aF_cg (st_ne ew_5 (by decide))), (fI_nej (hW_w109.lt tX_81) ew_5 (by decide)), (fI_nej (hW_w109.lt tX_81) ew_5 (by decide)), (fI_nej (hW_w109.lt tX_81) ew_5 (by decide)), (fI_nej (hW_w109.lt tX_81) ew_5 (by decide)), (fI_nej (hW_w109.lt tX_81) ew_5 (by decide)), (fI_cg (st_ne ew_5 (by decide))), (fI_cg (st_ne ew_5 (by decide)))⟩ hR_109.2⟩ : RI w_5 ∧ Mn w w_5).2.tr h_8.2⟩
            refine lv_goto (tgt := 138) hx hb dX9_finds_133 (by decide) ?_
            exact J138 w_6 _ _ ls hW_w_6 ((hM_w109.sf (hW_w109.lt tX_81) ew_5 (by decide)).tr hs_w_6 (by decide)) i_p1 i_x109_2 (In_of ((hs_w_6.gI (by decide)).trans ((fI_cg (st_ne ew_5 (by decide))).trans (hM_w109.gI (by decide)))) (In_of (hM_w109.gI (by decide)).symm g109_64_0)) (In_of ((hs_w_6.gI (by decide)).trans ((fI_cg (st_ne ew_5 (by decide))).trans (hM_w109.gI (by decide)))) (In_of (hM_w109.gI (by decide)).symm g109_64_1)) (In_of ((hs_w_6.gI (by decide)).trans ((fI_cg (st_ne ew_5 (by decide))).trans (hM_w109.gI (by decide)))) (In_of (hM_w109.gI (by decide)).symm g109_64_2)) R_w_6 hP hD hS (lv_sub hl [0, 1, 2] rfl)
      refine lv_iload_n hx hb dX9_finds_23 rfl (lv_at hl 2 rfl) ?_
      refine lv_ldc hx hb hown (hts _ wd_1205) dX9_finds_24 ?_
      refine lv_icmp_ge (tgt := 144) hx hb dX9_finds_26 (by decide) (fun c_9 => ?_) (fun c_9 => ?_)
      · exact J144 x23_2 w23 _ _ ls hW_w23 hM_w23 i_p1 (In_w (R_le_r (In_lit (n := 1000000) (by decide) (by decide) : In 1000000 1000000 1000000) i_x23_2 c_9 (by decide) : In 1000000 1000000 x23_2) (by decide) : In 0 1000001 x23_2) (In_of (hM_w23.gI (by decide)) (In_of (hM_w23.gI (by decide)).symm g23_64_0)) (In_of (hM_w23.gI (by decide)) (In_of (hM_w23.gI (by decide)).symm g23_64_1)) (In_of (hM_w23.gI (by decide)) (In_of (hM_w23.gI (by decide)).symm g23_64_2)) hR_23 hP hD hS (lv_sub hl [0, 1, 2] rfl)
      · refine lv_aload_n hx hb dX9_finds_29 rfl (lv_at hl 0 rfl) ?_
        refine gt_X9 hx hb hts hown hK hP 81 (hW_w23.o tX_81) 5 (by decide) wd_516 rfl (hW_w23.fr tX_81 rfl) dX9_finds_30 ?_
        refine lv_aload_n hx hb dX9_finds_33 rfl (lv_at hl 0 rfl) ?_
        refine gt_X9 hx hb hts hown hK hP 81 (hW_w23.o tX_81) 2 (by decide) wd_513 rfl (hW_w23.fi tX_81 rfl) dX9_finds_34 ?_
        refine tov (v := (fI w 81 2)) (hM_w23.2 81 2 (by decide) (by decide)) ?_
        refine va_iald hx hb hK hP 83 0 (hW_w23.a tX_83) rfl (in_I (hW_w.fin tX_81 rfl : In 0 39 (fI w 81 2)) (by decide)) dX9_finds_37 ?_
        refine lv_topi (fun v_10 ev_10 => ?_)
        refine lv_aload_n hx hb dX9_finds_38 rfl (lv_at hl 0 rfl) ?_
        refine gt_X9 hx hb hts hown hK hP 81 (hW_w23.o tX_81) 4 (by decide) wd_515 rfl (hW_w23.fi tX_81 rfl) dX9_finds_39 ?_
        refine tov (v := (fI w 81 4)) (hM_w23.2 81 4 (by decide) (by decide)) ?_
        refine lv_icmp_eq (tgt := 144) hx hb dX9_finds_42 (by decide) (fun c_11 => ?_) (fun c_11 => ?_)
        · exact J144 x23_2 w23 _ _ ls hW_w23 hM_w23 i_p1 (In_w (R_nle_r (In_lit (n := 1000000) (by decide) (by decide) : In 1000000 1000000 1000000) i_x23_2 c_9 (by decide) : In 0 999999 x23_2) (by decide) : In 0 1000001 x23_2) (In_of (hM_w23.gI (by decide)) (In_of (hM_w23.gI (by decide)).symm g23_64_0)) (In_of (hM_w23.gI (by decide)) (In_of (hM_w23.gI (by decide)).symm g23_64_1)) (In_of (hM_w23.gI (by decide)) (In_of (hM_w23.gI (by decide)).symm g23_64_2)) hR_23 hP hD hS (lv_sub hl [0, 1, 2] rfl)
        · refine lv_aload_n hx hb dX9_finds_45 rfl (lv_at hl 0 rfl) ?_
          refine gt_X9 hx hb hts hown hK hP 81 (hW_w23.o tX_81) 10 (by decide) wd_521 rfl (hW_w23.fi tX_81 rfl) dX9_finds_46 ?_
          refine lv_aload_n hx hb dX9_finds_49 rfl (lv_at hl 0 rfl) ?_
          refine gt_X9 hx hb hts hown hK hP 81 (hW_w23.o tX_81) 11 (by decide) wd_522 rfl (hW_w23.fi tX_81 rfl) dX9_finds_50 ?_
          refine lv_icmp_ge (tgt := 82) hx hb dX9_finds_53 (by decide) (fun c_12 => ?_) (fun c_12 => ?_)
          · have lb_c_12 : ((fI w23 81 11) : Int32).toInt ≤ ((fI w23 81 10) : Int32).toInt := q_le.mp c_12
            refine lv_aload_n hx hb dX9_finds_82 rfl (lv_at hl 0 rfl) ?_
            refine gt_X9 hx hb hts hown hK hP 81 (hW_w23.o tX_81) 12 (by decide) wd_523 rfl (hW_w23.fi tX_81 rfl) dX9_finds_83 ?_
            refine lv_iconst (v := (-1)) hx hb dX9_finds_86 (by decide) ?_
            refine lv_icmp_eq (tgt := 109) hx hb dX9_finds_87 (by decide) (fun c_13 => ?_) (fun c_13 => ?_)
            · exact J109 w23 _ _ ls hW_w23 hM_w23 i_p1 (R_nle_r (In_lit (n := 1000000) (by decide) (by decide) : In 1000000 1000000 1000000) i_x23_2 c_9 (by decide) : In 0 999999 x23_2) (In_of (hM_w23.gI (by decide)) (In_of (hM_w23.gI (by decide)).symm g23_64_0)) (In_of (hM_w23.gI (by decide)) (In_of (hM_w23.gI (by decide)).symm g23_64_1)) (In_of (hM_w23.gI (by decide)) (In_of (hM_w23.gI (by decide)).symm g23_64_2)) rfl (hW_w23.fin tX_81 rfl : In 0 40 (fI w23 81 10)) rfl (hW_w23.fin tX_81 rfl : In 0 40 (fI w23 81 11)) rfl (In_w (R_eq_l (hW_w23.fin tX_81 rfl : In (-1) 39 (fI w23 81 12)) (In_lit (n := (-1)) (by decide) (by decide) : In (-1) (-1) (-1)) c_13 (by decide) : In (-1) (-1) (fI w23 81 12)) (by decide) : In (-1) 39 (fI w23 81 12)) hR_23 hP hD hS (lv_sub hl [0, 1, 2] rfl)
            · refine lv_aload_n hx hb dX9_finds_90 rfl (lv_at hl 0 rfl) ?_
              refine gt_X9 hx hb hts hown hK hP 81 (hW_w23.o tX_81) 14 (by decide) wd_525 rfl (hW_w23.fi tX_81 rfl) dX9_finds_91 ?_
              refine lv_if_ne (tgt := 109) hx hb dX9_finds_94 (by decide) (fun c_14 => ?_) (fun c_14 => ?_)
              · exact J109 w23 _ _ ls hW_w23 hM_w23 i_p1 (R_nle_r (In_lit (n := 1000000) (by decide) (by decide) : In 1000000 1000000 1000000) i_x23_2 c_9 (by decide) : In 0 999999 x23_2) (In_of (hM_w23.gI (by decide)) (In_of (hM_w23.gI (by decide)).symm g23_64_0)) (In_of (hM_w23.gI (by decide)) (In_of (hM_w23.gI (by decide)).symm g23_64_1)) (In_of (hM_w23.gI (by decide)) (In_of (hM_w23.gI (by decide)).symm g23_64_2)) rfl (hW_w23.fin tX_81 rfl : In 0 40 (fI w23 81 10)) rfl (hW_w23.fin tX_81 rfl : In 0 40 (fI w23 81 11)) rfl (In_w (R_ne_l (hW_w23.fin tX_81 rfl : In (-1) 39 (fI w23 81 12)) (In_lit (n := (-1)) (by decide) (by decide) : In (-1) (-1) (-1)) c_13 (by decide) : In 0 39 (fI w23 81 12)) (by decide) : In (-1) 39 (fI w23 81 12)) hR_23 hP hD hS (lv_sub hl [0, 1, 2] rfl)
              · refine lv_aload_n hx hb dX9_finds_97 rfl (lv_at hl 0 rfl) ?_
                refine lv_iconst (v := 1) hx hb dX9_finds_98 (by decide) ?_
                refine pt_X9 hx hb hts hown hK hP hD hS 81 (hW_w23.o tX_81) 14 (by decide) wd_525 rfl rfl (ty := .boolean) (v := .int 1) (by decide +kernel) rfl rfl (hW_w23.ll tX_81 (Nat.le_of_ble_eq_true rfl)) dX9_finds_99 (fun H locs hP hD hS => fr_w (hW_w23.sI tX_81 rfl (In_lit (n := 1) (by decide) (by decide) : In 0 1 1)) hP hD (fun w_15 ew_15 hW_w_15 hP hD => ?_))
                refine lv_aload_n hx hb dX9_finds_102 rfl (lv_at hl 0 rfl) ?_
                refine kW_v ⟨rfl, rfl⟩ hP hD hS hA (rW_V (As := []) (rest := []) hx hb hml hown hts hK hE hP hD (k_X9_spreadDue l D cI cJ cZ q bb bs bp w_15 hW_w_15 (In_of ((fI_cg (st_ne ew_15 (by decide))).trans (hM_w23.gI (by decide))) (In_of (hM_w23.gI (by decide)).symm g23_64_0)) (In_of ((fI_cg (st_ne ew_15 (by decide))).trans (hM_w23.gI (by decide))) (In_of (hM_w23.gI (by decide)).symm g23_64_1)) (In_of ((fI_cg (st_ne ew_15 (by decide))).trans (hM_w23.gI (by decide))) (In_of (hM_w23.gI (by decide)).symm g23_64_2)) (In_of (fI_nej (hW_w23.lt tX_81) ew_15 (by decide)) (R_ne_l (hW_w23.fin tX_81 rfl : In (-1) 39 (fI w23 81 12)) (In_lit (n := (-1)) (by decide) (by decide) : In (-1) (-1) (-1)) c_13 (by decide) : In 0 39 (fI w23 81 12))) ((⟨RI_cg ⟨(aF_cg (st_ne ew_15 (by decide))), (aF_cg (st_ne ew_15 (by decide))), (aF_cg (st_ne ew_15 (by decide))), (aF_cg (st_ne ew_15 (by decide))), (aF_cg (st_ne ew_15 (by decide))), (aF_cg (st_ne ew_15 (by decide))), (fI_nej (hW_w23.lt tX_81) ew_15 (by decide)), (fI_nej (hW_w23.lt tX_81) ew_15 (by decide)), (fI_nej (hW_w23.lt tX_81) ew_15 (by decide)), (fI_nej (hW_w23.lt tX_81) ew_15 (by decide)), (fI_nej (hW_w23.lt tX_81) ew_15 (by decide)), (fI_cg (st_ne ew_15 (by decide))), (fI_cg (st_ne ew_15 (by decide)))⟩ hR_23.1, Mn_cg ⟨(aF_cg (st_ne ew_15 (by decide))), (aF_cg (st_ne ew_15 (by decide))), (aF_cg (st_ne ew_15 (by decide))), (aF_cg (st_ne ew_15 (by decide))), (aF_cg (st_ne ew_15 (by decide))), (aF_cg (st_ne ew_15 (by decide))), (fI_nej (hW_w23.lt tX_81) ew_15 (by decide)), (fI_nej (hW_w23.lt tX_81) ew_15 (by decide)), (fI_nej (hW_w23.lt tX_81) ew_15 (by decide)), (fI_nej (hW_w23.lt tX_81) ew_15 (by decide)), (fI_nej (hW_w23.lt tX_81) ew_15 (by decide)), (fI_cg (st_ne ew_15 (by decide))), (fI_cg (st_ne ew_15 (by decide)))⟩ hR_23.2⟩ : RI w_15 ∧ Mn w w_15).1) _) ⟨⟨rfl, rfl⟩, rfl, rfl⟩ sv_X9_143 ⟨(Nat.le_trans (by decide) hR.1), (Nat.le_trans (by decide) hR.2)⟩ 81 9 (hW_w_15.o tX_81) rfl rfl rfl hl.1 rfl (Nat.le_of_ble_eq_true rfl) dX9_finds_103) (fun w_16 H locs hw_w_16 hP hD hS => ?_)
                obtain ⟨hW_w_16, hs_w_16, h_18⟩ := hw_w_16
                have R_w_16 : RI w_16 ∧ Mn w w_16 := ⟨h_18.1, (⟨RI_cg ⟨(aF_cg (st_ne ew_15 (by decide))), (aF_cg (st_ne ew_15 (by decide))), (aF_cg (st_ne ew_15 (by decide))), (aF_cg (st_ne ew_15 (by decide))), (aF_cg (st_ne ew_15 (by decide))), (aF_cg (st_ne ew_15 (by decide))), (fI_nej (hW_w23.lt tX_81) ew_15 (by decide)), (fI_nej (hW_w23.lt tX_81) ew_15 (by decide)), (fI_nej (hW_w23.lt tX_81) ew_15 (by decide)), (fI_nej (hW_w23.lt tX_81) ew_15 (by decide)), (fI_nej (hW_w23.lt tX_81) ew_15 (by decide)), (fI_cg (st_ne ew_15 (by decide))), (fI_cg (st_ne ew_15 (by decide)))⟩ hR_23.1, Mn_cg ⟨(aF_cg (st_ne ew_15 (by decide))), (aF_cg (st_ne ew_15 (by decide))), (aF_cg (st_ne ew_15 (by decide))), (aF_cg (st_ne ew_15 (by decide))), (aF_cg (st_ne ew_15 (by decide))), (aF_cg (st_ne ew_15 (by decide))), (fI_nej (hW_w23.lt tX_81) ew_15 (by decide)), (fI_nej (hW_w23.lt tX_81) ew_15 (by decide)), (fI_nej (hW_w23.lt tX_81) ew_15 (by decide)), (fI_nej (hW_w23.lt tX_81) ew_15 (by decide)), (fI_nej (hW_w23.lt tX_81) ew_15 (by decide)), (fI_cg (st_ne ew_15 (by decide))), (fI_cg (st_ne ew_15 (by decide)))⟩ hR_23.2⟩ : RI w_15 ∧ Mn w w_15).2.tr h_18.2⟩
                refine lv_goto (tgt := 138) hx hb dX9_finds_106 (by decide) ?_
                exact J138 w_16 _ _ ls hW_w_16 ((hM_w23.sf (hW_w23.lt tX_81) ew_15 (by decide)).tr hs_w_16 (by decide)) i_p1 (R_nle_r (In_lit (n := 1000000) (by decide) (by decide) : In 1000000 1000000 1000000) i_x23_2 c_9 (by decide) : In 0 999999 x23_2) (In_of ((hs_w_16.gI (by decide)).trans ((fI_cg (st_ne ew_15 (by decide))).trans (hM_w23.gI (by decide)))) (In_of (hM_w23.gI (by decide)).symm g23_64_0)) (In_of ((hs_w_16.gI (by decide)).trans ((fI_cg (st_ne ew_15 (by decide))).trans (hM_w23.gI (by decide)))) (In_of (hM_w23.gI (by decide)).symm g23_64_1)) (In_of ((hs_w_16.gI (by decide)).trans ((fI_cg (st_ne ew_15 (by decide))).trans (hM_w23.gI (by decide)))) (In_of (hM_w23.gI (by decide)).symm g23_64_2)) R_w_16 hP hD hS (lv_sub hl [0, 1, 2] rfl)
          · have lb_c_12 : ¬ ((fI w23 81 11) : Int32).toInt ≤ ((fI w23 81 10) : Int32).toInt := fun h => c_12 (q_le.mpr h)
            refine lv_aload_n hx hb dX9_finds_56 rfl (lv_at hl 0 rfl) ?_
            refine lv_aload_n hx hb dX9_finds_57 rfl (lv_at hl 0 rfl) ?_
            refine gt_X9 hx hb hts hown hK hP 81 (hW_w23.o tX_81) 9 (by decide) wd_520 rfl (hW_w23.fr tX_81 rfl) dX9_finds_58 ?_
            refine lv_aload_n hx hb dX9_finds_61 rfl (lv_at hl 0 rfl) ?_
            refine gt_X9 hx hb hts hown hK hP 81 (hW_w23.o tX_81) 10 (by decide) wd_521 rfl (hW_w23.fi tX_81 rfl) dX9_finds_62 ?_
            refine va_iald hx hb hK hP 87 0 (hW_w23.a tX_87) rfl (in_I (R_nle_r (hW_w23.fin tX_81 rfl : In 0 40 (fI w23 81 11)) (hW_w23.fin tX_81 rfl : In 0 40 (fI w23 81 10)) c_12 (by decide) : In 0 39 (fI w23 81 10)) (by decide)) dX9_finds_65 ?_
            refine lv_topi (fun v_19 ev_19 => ?_)
            refine kW_v ⟨rfl, rfl⟩ hP hD hS hA (rW_V (As := [.int v_19]) (rest := []) hx hb hml hown hts hK hE hP hD (k_X9_widen l D cI cJ cZ q bb bs bp w23 hW_w23 v_19 (In_of ev_19 (hW_w23.ap tX_87 _) : In 0 39 v_19) (In_of (hM_w23.gI (by decide)) (In_of (hM_w23.gI (by decide)).symm g23_64_0)) (In_of (hM_w23.gI (by decide)) (In_of (hM_w23.gI (by decide)).symm g23_64_1)) (In_of (hM_w23.gI (by decide)) (In_of (hM_w23.gI (by decide)).symm g23_64_2)) (hR_23.1) (FL_cg (hM_w23.gI (by decide)) (hM_w23.gI (by decide)) (hM_w23.hA (by decide)) (hM_w23.hA (by decide)) (hM_w23.hA (by decide)) hFL) ((by have g := hR_23.1.2.2.2.2.2 (fI w23 81 10).toNatClampNeg (by have e2 : (fI w23 81 10).toNatClampNeg = (fI w23 81 10).toInt.toNat := rfl; have q := (R_nle_r (hW_w23.fin tX_81 rfl : In 0 40 (fI w23 81 11)) (hW_w23.fin tX_81 rfl : In 0 40 (fI w23 81 10)) c_12 (by decide) : In 0 39 (fI w23 81 10)); unfold In at q; omega); rw [← ev_19] at g; exact g)) _) ⟨⟨rfl, rfl⟩, rfl, rfl⟩ sv_X9_140 ⟨(Nat.le_trans (by decide) hR.1), (Nat.le_trans (by decide) hR.2)⟩ 81 9 (hW_w23.o tX_81) rfl rfl rfl hl.1 rfl (Nat.le_of_ble_eq_true rfl) dX9_finds_66) (fun w_20 H locs hw_w_20 hP hD hS => ?_)
            obtain ⟨hW_w_20, hs_w_20, h_22⟩ := hw_w_20
            have R_w_20 : RI w_20 ∧ Mn w w_20 := ⟨h_22.1, hR_23.2.tr h_22.2⟩
            refine lv_aload_n hx hb dX9_finds_69 rfl (lv_at hl 0 rfl) ?_
            refine lv_dup hx hb dX9_finds_70 rfl ?_
            refine gt_X9 hx hb hts hown hK hP 81 (hW_w_20.o tX_81) 10 (by decide) wd_521 rfl (hW_w_20.fi tX_81 rfl) dX9_finds_71 ?_
            refine tov (v := (fI w23 81 10)) (hs_w_20.2 81 10 (by decide) (by decide)) ?_
            refine lv_iconst (v := 1) hx hb dX9_finds_74 (by decide) ?_
            refine lv_iadd hx hb dX9_finds_75 ?_
            refine pt_X9 hx hb hts hown hK hP hD hS 81 (hW_w_20.o tX_81) 10 (by decide) wd_521 rfl rfl (ty := .int) (v := .int ((fI w23 81 10) + 1)) (by decide +kernel) rfl rfl (hW_w_20.ll tX_81 (Nat.le_of_ble_eq_true rfl)) dX9_finds_76 (fun H locs hP hD hS => fr_w (hW_w_20.sI tX_81 rfl (In_w ((In_add (R_nle_r (hW_w23.fin tX_81 rfl : In 0 40 (fI w23 81 11)) (hW_w23.fin tX_81 rfl : In 0 40 (fI w23 81 10)) c_12 (by decide) : In 0 39 (fI w23 81 10)) (In_lit (n := 1) (by decide) (by decide) : In 1 1 1) (by decide)) : In 1 40 ((fI w23 81 10) + 1)) (by decide) : In 0 40 ((fI w23 81 10) + 1))) hP hD (fun w_23 ew_23 hW_w_23 hP hD => ?_))
            refine lv_goto (tgt := 138) hx hb dX9_finds_79 (by decide) ?_
            exact J138 w_23 _ _ ls hW_w_23 ((hM_w23.tr hs_w_20 (by decide)).sf (hW_w_20.lt tX_81) ew_23 (by decide)) i_p1 (R_nle_r (In_lit (n := 1000000) (by decide) (by decide) : In 1000000 1000000 1000000) i_x23_2 c_9 (by decide) : In 0 999999 x23_2) (In_of ((fI_cg (st_ne ew_23 (by decide))).trans ((hs_w_20.gI (by decide)).trans (hM_w23.gI (by decide)))) (In_of (hM_w23.gI (by decide)).symm g23_64_0)) (In_of ((fI_cg (st_ne ew_23 (by decide))).trans ((hs_w_20.gI (by decide)).trans (hM_w23.gI (by decide)))) (In_of (hM_w23.gI (by decide)).symm g23_64_1)) (In_of ((fI_cg (st_ne ew_23 (by decide))).trans ((hs_w_20.gI (by decide)).trans (hM_w23.gI (by decide)))) (In_of (hM_w23.gI (by decide)).symm g23_64_2)) (⟨RI_cg ⟨(aF_cg (st_ne ew_23 (by decide))), (aF_cg (st_ne ew_23 (by decide))), (aF_cg (st_ne ew_23 (by decide))), (aF_cg (st_ne ew_23 (by decide))), (aF_cg (st_ne ew_23 (by decide))), (aF_cg (st_ne ew_23 (by decide))), (fI_nej (hW_w_20.lt tX_81) ew_23 (by decide)), (fI_nej (hW_w_20.lt tX_81) ew_23 (by decide)), (fI_nej (hW_w_20.lt tX_81) ew_23 (by decide)), (fI_nej (hW_w_20.lt tX_81) ew_23 (by decide)), (fI_nej (hW_w_20.lt tX_81) ew_23 (by decide)), (fI_cg (st_ne ew_23 (by decide))), (fI_cg (st_ne ew_23 (by decide)))⟩ R_w_20.1, Mn_cg ⟨(aF_cg (st_ne ew_23 (by decide))), (aF_cg (st_ne ew_23 (by decide))), (aF_cg (st_ne ew_23 (by decide))), (aF_cg (st_ne ew_23 (by decide))), (aF_cg (st_ne ew_23 (by decide))), (aF_cg (st_ne ew_23 (by decide))), (fI_nej (hW_w_20.lt tX_81) ew_23 (by decide)), (fI_nej (hW_w_20.lt tX_81) ew_23 (by decide)), (fI_nej (hW_w_20.lt tX_81) ew_23 (by decide)), (fI_nej (hW_w_20.lt tX_81) ew_23 (by decide)), (fI_nej (hW_w_20.lt tX_81) ew_23 (by decide)), (fI_cg (st_ne ew_23 (by decide))), (fI_cg (st_ne ew_23 (by decide)))⟩ R_w_20.2⟩ : RI w_23 ∧ Mn w w_23) hP hD hS (lv_sub hl [0, 1, 2] rfl)
  refine lv_aload_n hx hb dX9_finds_0 rfl (lv_at hl 0 rfl) ?_
  refine lv_aload_n hx hb dX9_finds_1 rfl (lv_at hl 0 rfl) ?_
  refine gt_X9 hx hb hts hown hK hP 81 (hW_w.o tX_81) 2 (by decide) wd_513 rfl (hW_w.fi tX_81 rfl) dX9_finds_2 ?_
  refine lv_iload_n hx hb dX9_finds_5 rfl (lv_at hl 1 rfl) ?_
  refine lv_aload_n hx hb dX9_finds_6 rfl (lv_at hl 0 rfl) ?_
  refine gt_X9 hx hb hts hown hK hP 81 (hW_w.o tX_81) 0 (by decide) wd_511 rfl (hW_w.fr tX_81 rfl) dX9_finds_7 ?_
  refine gt_X3 hx hb hts hown hK hP 64 (hW_w.o tX_64) 3 (by decide) wd_411 rfl (hW_w.fr tX_64 rfl) dX9_finds_10 ?_
  refine lv_aload_n hx hb dX9_finds_13 rfl (lv_at hl 0 rfl) ?_
  refine gt_X9 hx hb hts hown hK hP 81 (hW_w.o tX_81) 2 (by decide) wd_513 rfl (hW_w.fi tX_81 rfl) dX9_finds_14 ?_
  refine va_iald hx hb hK hP 65 0 (hW_w.a tX_65) rfl (in_I (hW_w.fin tX_81 rfl : In 0 39 (fI w 81 2)) (by decide)) dX9_finds_17 ?_
  refine lv_topi (fun v_24 ev_24 => ?_)
  refine kW_v ⟨rfl, rfl⟩ hP hD hS hA (rW_V (As := [.int (fI w 81 2), .int p1, .int v_24]) (rest := []) hx hb hml hown hts hK hE hP hD (k_X9_spread l D cI cJ cZ q bb bs bp w hW_w (fI w 81 2) p1 v_24 (In_w (hW_w.fin tX_81 rfl : In 0 39 (fI w 81 2)) (by decide) : In (-2) 39 (fI w 81 2)) i_p1 (In_of ev_24 (hW_w.ap tX_65 _) : In 0 23 v_24) hf_64_0 hf_64_1 hf_64_2 (R_w.1) (FL_cg rfl rfl rfl rfl rfl hFL) (Or.inl ⟨(hW_w.fin tX_81 rfl : In 0 39 (fI w 81 2)).1, Or.inl rfl⟩) ((by have g := hFL.2.1 (fI w 81 2).toNatClampNeg (by have q := (hW_w.fin tX_81 rfl : In 0 39 (fI w 81 2)); have e2 : (fI w 81 2).toNatClampNeg = (fI w 81 2).toInt.toNat := rfl; unfold In at q; omega); have e : (v_24 : Int32).toInt = (aF w 65 (fI w 81 2).toNatClampNeg).toInt := congrArg Int32.toInt ev_24; omega)) _) ⟨⟨rfl, rfl⟩, rfl, rfl⟩ sv_X9_135 ⟨(Nat.le_trans (by decide) hR.1), (Nat.le_trans (by decide) hR.2)⟩ 81 9 (hW_w.o tX_81) rfl rfl rfl hl.1 rfl (Nat.le_of_ble_eq_true rfl) dX9_finds_18) (fun w_25 H locs hw_w_25 hP hD hS => ?_)
  obtain ⟨hW_w_25, hs_w_25, h_27⟩ := hw_w_25
  have R_w_25 : RI w_25 ∧ Mn w w_25 := ⟨h_27.1, R_w.2.tr h_27.2⟩
  refine lv_iconst (v := 0) hx hb dX9_finds_21 (by decide) ?_
  refine lv_istore_n (lv' := [(2, .int 0), (0, .ref (q 81)), (1, .int p1)]) hx hb dX9_finds_22 rfl hl (by decide) rfl (fun ls hl => ?_)
  exact J23 _ 0 w_25 _ _ ls (Nat.lt_succ_self _) hW_w_25 (Sm.rf.tr hs_w_25 (by decide)) i_p1 (In_lit (n := 0) (by decide) (by decide) : In 0 1000000 0) (In_of (hs_w_25.gI (by decide)) hf_64_0) (In_of (hs_w_25.gI (by decide)) hf_64_1) (In_of (hs_w_25.gI (by decide)) hf_64_2) R_w_25 hP hD hS (lv_sub hl [1, 2, 0] rfl)
set_option maxRecDepth 100000 in
set_option maxHeartbeats 8000000 in
theorem k_X9_freshSearch (l : Launch) (D : va_G) (cI cJ cZ : ClassId) (q : Nat → Nat) (bb bs bp : Nat) (w : va_W) (hW_w : HT q (TX q cI cJ cZ bb bs bp) w) (hf_64_1 : In 1 40 (fI w 64 1)) (hf_64_2 : In 1 24 (fI w 64 2)) (b : Int) (hbb : b + 1 ≤ 2147483647) (hSB : SB b w) : Con_v l yX9_freshSearch cX9_freshSearch 1 none ({ frames := 0, cells := 0, slots := 0, locals := 0 }) D cI cJ cZ eW [.ref (q 81)] w (fun (w1 : va_W) => HT q (TX q cI cJ cZ bb bs bp) w1 ∧ Sm [81] [(81, 4), (81, 10), (81, 11), (81, 12), (81, 13), (81, 14), (81, 15)] w w1 ∧ In (-1) (-1) (fI w1 81 12) ∧ In (-1) (-1) (fI w1 81 13) ∧ ((RI w1 ∧ SB (b + 1) w1))) := by
  refine eQ_v rfl (by decide) (Nat.le_of_ble_eq_true rfl) ⟨rfl, rfl⟩ ?_
  intro p e R s m args below meth c A Q hx hb hml hown hts hK hE hA hR hret hP hD hS ls hl
  have hown : s.vm.findClass RX9 = some m.cls := hown
  have hl : lv_has ls 1 [(0, .ref (q 81))] := hl
  refine lv_aload_n hx hb dX9_freshSearch_0 rfl (lv_at hl 0 rfl) ?_
  refine lv_dup hx hb dX9_freshSearch_1 rfl ?_
  refine gt_X9 hx hb hts hown hK hP 81 (hW_w.o tX_81) 4 (by decide) wd_515 rfl (hW_w.fi tX_81 rfl) dX9_freshSearch_2 ?_
  refine lv_iconst (v := 1) hx hb dX9_freshSearch_5 (by decide) ?_
  refine lv_iadd hx hb dX9_freshSearch_6 ?_
  refine pt_X9 hx hb hts hown hK hP hD hS 81 (hW_w.o tX_81) 4 (by decide) wd_515 rfl rfl (ty := .int) (v := .int ((fI w 81 4) + 1)) (by decide +kernel) rfl rfl (hW_w.ll tX_81 (Nat.le_of_ble_eq_true rfl)) dX9_freshSearch_7 (fun H locs hP hD hS => fr_w (hW_w.sI tX_81 rfl (In_any _)) hP hD (fun w_1 ew_1 hW_w_1 hP hD => ?_))
  refine lv_aload_n hx hb dX9_freshSearch_10 rfl (lv_at hl 0 rfl) ?_
  refine lv_iconst (v := 0) hx hb dX9_freshSearch_11 (by decide) ?_
  refine pt_X9 hx hb hts hown hK hP hD hS 81 (hW_w_1.o tX_81) 10 (by decide) wd_521 rfl rfl (ty := .int) (v := .int 0) (by decide +kernel) rfl rfl (hW_w_1.ll tX_81 (Nat.le_of_ble_eq_true rfl)) dX9_freshSearch_12 (fun H locs hP hD hS => fr_w (hW_w_1.sI tX_81 rfl (In_lit (n := 0) (by decide) (by decide) : In 0 40 0)) hP hD (fun w_2 ew_2 hW_w_2 hP hD => ?_))
  refine lv_aload_n hx hb dX9_freshSearch_15 rfl (lv_at hl 0 rfl) ?_
  refine lv_iconst (v := 0) hx hb dX9_freshSearch_16 (by decide) ?_
  refine pt_X9 hx hb hts hown hK hP hD hS 81 (hW_w_2.o tX_81) 11 (by decide) wd_522 rfl rfl (ty := .int) (v := .int 0) (by decide +kernel) rfl rfl (hW_w_2.ll tX_81 (Nat.le_of_ble_eq_true rfl)) dX9_freshSearch_17 (fun H locs hP hD hS => fr_w (hW_w_2.sI tX_81 rfl (In_lit (n := 0) (by decide) (by decide) : In 0 40 0)) hP hD (fun w_3 ew_3 hW_w_3 hP hD => ?_))
  refine lv_aload_n hx hb dX9_freshSearch_20 rfl (lv_at hl 0 rfl) ?_
  refine lv_iconst (v := (-1)) hx hb dX9_freshSearch_21 (by decide) ?_
  refine pt_X9 hx hb hts hown hK hP hD hS 81 (hW_w_3.o tX_81) 12 (by decide) wd_523 rfl rfl (ty := .int) (v := .int (-1)) (by decide +kernel) rfl rfl (hW_w_3.ll tX_81 (Nat.le_of_ble_eq_true rfl)) dX9_freshSearch_22 (fun H locs hP hD hS => fr_w (hW_w_3.sI tX_81 rfl (In_lit (n := (-1)) (by decide) (by decide) : In (-1) 39 (-1))) hP hD (fun w_4 ew_4 hW_w_4 hP hD => ?_))
  refine lv_aload_n hx hb dX9_freshSearch_25 rfl (lv_at hl 0 rfl) ?_
  refine lv_iconst (v := (-1)) hx hb dX9_freshSearch_26 (by decide) ?_
  refine pt_X9 hx hb hts hown hK hP hD hS 81 (hW_w_4.o tX_81) 13 (by decide) wd_524 rfl rfl (ty := .int) (v := .int (-1)) (by decide +kernel) rfl rfl (hW_w_4.ll tX_81 (Nat.le_of_ble_eq_true rfl)) dX9_freshSearch_27 (fun H locs hP hD hS => fr_w (hW_w_4.sI tX_81 rfl (In_lit (n := (-1)) (by decide) (by decide) : In (-1) 9 (-1))) hP hD (fun w_5 ew_5 hW_w_5 hP hD => ?_))
  refine lv_aload_n hx hb dX9_freshSearch_30 rfl (lv_at hl 0 rfl) ?_
  refine lv_iconst (v := 0) hx hb dX9_freshSearch_31 (by decide) ?_
  refine pt_X9 hx hb hts hown hK hP hD hS 81 (hW_w_5.o tX_81) 14 (by decide) wd_525 rfl rfl (ty := .boolean) (v := .int 0) (by decide +kernel) rfl rfl (hW_w_5.ll tX_81 (Nat.le_of_ble_eq_true rfl)) dX9_freshSearch_32 (fun H locs hP hD hS => fr_w (hW_w_5.sI tX_81 rfl (In_lit (n := 0) (by decide) (by decide) : In 0 1 0)) hP hD (fun w_6 ew_6 hW_w_6 hP hD => ?_))
  refine lv_aload_n hx hb dX9_freshSearch_35 rfl (lv_at hl 0 rfl) ?_
  refine lv_iconst (v := 0) hx hb dX9_freshSearch_36 (by decide) ?_
  refine pt_X9 hx hb hts hown hK hP hD hS 81 (hW_w_6.o tX_81) 15 (by decide) wd_526 rfl rfl (ty := .boolean) (v := .int 0) (by decide +kernel) rfl rfl (hW_w_6.ll tX_81 (Nat.le_of_ble_eq_true rfl)) dX9_freshSearch_37 (fun H locs hP hD hS => fr_w (hW_w_6.sI tX_81 rfl (In_lit (n := 0) (by decide) (by decide) : In 0 1 0)) hP hD (fun w_7 ew_7 hW_w_7 hP hD => ?_))
  exact hret _ _ _ _ _ hP hD hS dX9_freshSearch_40 ⟨hW_w_7, (((((((Sm.rf.sf (hW_w.lt tX_81) ew_1 (by decide)).sf (hW_w_1.lt tX_81) ew_2 (by decide)).sf (hW_w_2.lt tX_81) ew_3 (by decide)).sf (hW_w_3.lt tX_81) ew_4 (by decide)).sf (hW_w_4.lt tX_81) ew_5 (by decide)).sf (hW_w_5.lt tX_81) ew_6 (by decide)).sf (hW_w_6.lt tX_81) ew_7 (by decide)), (In_of ((fI_nej (hW_w_6.lt tX_81) ew_7 (by decide)).trans ((fI_nej (hW_w_5.lt tX_81) ew_6 (by decide)).trans ((fI_nej (hW_w_4.lt tX_81) ew_5 (by decide)).trans (fI_eq (hW_w_3.lt tX_81) ew_4 (hW_w_3.ll tX_81 (Nat.le_of_ble_eq_true rfl)))))) (In_lit (n := (-1)) (by decide) (by decide) : In (-1) (-1) (-1))), (In_of ((fI_nej (hW_w_6.lt tX_81) ew_7 (by decide)).trans ((fI_nej (hW_w_5.lt tX_81) ew_6 (by decide)).trans (fI_eq (hW_w_4.lt tX_81) ew_5 (hW_w_4.ll tX_81 (Nat.le_of_ble_eq_true rfl))))) (In_lit (n := (-1)) (by decide) (by decide) : In (-1) (-1) (-1))), (RI_new hbb ((aF_cg (st_ne ew_7 (by decide))).trans ((aF_cg (st_ne ew_6 (by decide))).trans ((aF_cg (st_ne ew_5 (by decide))).trans ((aF_cg (st_ne ew_4 (by decide))).trans ((aF_cg (st_ne ew_3 (by decide))).trans ((aF_cg (st_ne ew_2 (by decide))).trans (aF_cg (st_ne ew_1 (by decide))))))))) ((aF_cg (st_ne ew_7 (by decide))).trans ((aF_cg (st_ne ew_6 (by decide))).trans ((aF_cg (st_ne ew_5 (by decide))).trans ((aF_cg (st_ne ew_4 (by decide))).trans ((aF_cg (st_ne ew_3 (by decide))).trans ((aF_cg (st_ne ew_2 (by decide))).trans (aF_cg (st_ne ew_1 (by decide))))))))) ((fI_nej (hW_w_6.lt tX_81) ew_7 (by decide)).trans ((fI_nej (hW_w_5.lt tX_81) ew_6 (by decide)).trans ((fI_nej (hW_w_4.lt tX_81) ew_5 (by decide)).trans ((fI_nej (hW_w_3.lt tX_81) ew_4 (by decide)).trans ((fI_nej (hW_w_2.lt tX_81) ew_3 (by decide)).trans ((fI_nej (hW_w_1.lt tX_81) ew_2 (by decide)).trans (fI_eq (hW_w.lt tX_81) ew_1 (hW_w.ll tX_81 (Nat.le_of_ble_eq_true rfl))))))))) ((fI_nej (hW_w_6.lt tX_81) ew_7 (by decide)).trans ((fI_nej (hW_w_5.lt tX_81) ew_6 (by decide)).trans ((fI_nej (hW_w_4.lt tX_81) ew_5 (by decide)).trans ((fI_nej (hW_w_3.lt tX_81) ew_4 (by decide)).trans (fI_eq (hW_w_2.lt tX_81) ew_3 (hW_w_2.ll tX_81 (Nat.le_of_ble_eq_true rfl))))))) ((fI_nej (hW_w_6.lt tX_81) ew_7 (by decide)).trans ((fI_nej (hW_w_5.lt tX_81) ew_6 (by decide)).trans ((fI_nej (hW_w_4.lt tX_81) ew_5 (by decide)).trans (fI_eq (hW_w_3.lt tX_81) ew_4 (hW_w_3.ll tX_81 (Nat.le_of_ble_eq_true rfl)))))) ((fI_nej (hW_w_6.lt tX_81) ew_7 (by decide)).trans ((fI_nej (hW_w_5.lt tX_81) ew_6 (by decide)).trans (fI_eq (hW_w_4.lt tX_81) ew_5 (hW_w_4.ll tX_81 (Nat.le_of_ble_eq_true rfl))))) hSB)⟩
set_option maxRecDepth 100000 in
set_option maxHeartbeats 8000000 in
theorem k_X9_turn (l : Launch) (D : va_G) (cI cJ cZ : ClassId) (q : Nat → Nat) (bb bs bp : Nat) (w : va_W) (hW_w : HT q (TX q cI cJ cZ bb bs bp) w) (hf_64_0 : In 1 10 (fI w 64 0)) (hf_64_1 : In 1 40 (fI w 64 1)) (hf_64_2 : In 1 24 (fI w 64 2)) (hRI : RI w) (hg : sn w (fI w 81 2).toNatClampNeg) : Con_v l yX9_turn cX9_turn 5 none ({ frames := 1, cells := 0, slots := 0, locals := 23 }) D cI cJ cZ eW [.ref (q 81)] w (fun (w1 : va_W) => HT q (TX q cI cJ cZ bb bs bp) w1 ∧ Sm [70, 71, 73] [] w w1) := by
  refine eQ_v rfl (by decide) (Nat.le_of_ble_eq_true rfl) ⟨rfl, rfl⟩ ?_
  intro p e R s m args below meth c A Q hx hb hml hown hts hK hE hA hR hret hP hD hS ls hl
  have hown : s.vm.findClass RX9 = some m.cls := hown
  have hl : lv_has ls 5 [(0, .ref (q 81))] := hl
  have J7 : ∀ (N : Nat) (x7_1 : Int32) (x7_2 : Int32) (w7 : va_W) (H : Heap) (locs : List Loc) (ls : Array Slot), (1000000 - x7_2.toInt).toNat < N → HT q (TX q cI cJ cZ bb bs bp) w7 → Sm [70, 71, 73] [] w w7 → (In 0 39 x7_1) → (In 0 1000000 x7_2) → (In 1 10 (fI w7 64 0)) → (In 1 40 (fI w7 64 1)) → (In 1 24 (fI w7 64 2)) → (sn w x7_1.toNatClampNeg) → va_P D vwCl w7 H → va_D A w7 → va_S A s.heap H locs → lv_has ls 5 [(0, .ref (q 81)), (1, .int x7_1), (2, .int x7_2)] → W p l e R s m args below meth c H locs 0 0 Q (F0 m 7 ls []) := by
    intro N
    induction N with
    | zero => intro x7_1 x7_2 w7 H locs ls hmu; exact absurd hmu (Nat.not_lt_zero _)
    | succ N ih7 =>
      intro x7_1 x7_2 w7 H locs ls hmu7 hW_w7 hM_w7 i_x7_1 i_x7_2 g7_64_0 g7_64_1 g7_64_2 hs_7 hP hD hS hl
      refine lv_iload_n hx hb dX9_turn_7 rfl (lv_at hl 2 rfl) ?_
      refine lv_ldc hx hb hown (hts _ wd_1205) dX9_turn_8 ?_
      refine lv_icmp_ge (tgt := 127) hx hb dX9_turn_10 (by decide) (fun c_1 => ?_) (fun c_1 => ?_)
      · exact hret _ _ _ _ _ hP hD hS dX9_turn_127 ⟨hW_w7, hM_w7⟩
      · refine lv_aload_n hx hb dX9_turn_13 rfl (lv_at hl 0 rfl) ?_
        refine gt_X9 hx hb hts hown hK hP 81 (hW_w7.o tX_81) 6 (by decide) wd_517 rfl (hW_w7.fr tX_81 rfl) dX9_turn_14 ?_
        refine lv_iload_n hx hb dX9_turn_17 rfl (lv_at hl 1 rfl) ?_
        refine va_iald hx hb hK hP 84 0 (hW_w7.a tX_84) rfl (in_I i_x7_1 (by decide)) dX9_turn_18 ?_
        refine lv_topi (fun v_2 ev_2 => ?_)
        refine lv_bipush (v := (-3)) hx hb dX9_turn_19 (by decide) ?_
        refine lv_icmp_ne (tgt := 29) hx hb dX9_turn_21 (by decide) (fun c_3 => ?_) (fun c_3 => ?_)
        · have D1_v_2 := RI_d1 (row := x7_1) hRI i_x7_1 hs_7 (ev_2.trans (congrFun (hM_w7.hA (by decide)) _)) c_3
          refine lv_aload_n hx hb dX9_turn_29 rfl (lv_at hl 0 rfl) ?_
          refine gt_X9 hx hb hts hown hK hP 81 (hW_w7.o tX_81) 6 (by decide) wd_517 rfl (hW_w7.fr tX_81 rfl) dX9_turn_30 ?_
          refine lv_iload_n hx hb dX9_turn_33 rfl (lv_at hl 1 rfl) ?_
          refine va_iald hx hb hK hP 84 0 (hW_w7.a tX_84) rfl (in_I i_x7_1 (by decide)) dX9_turn_34 ?_
          refine tov (v := v_2) ((congrFun (hM_w7.hA (by decide)) _).trans ((congrFun (hM_w7.hA (by decide)) _).symm.trans ev_2.symm)) ?_
          refine lv_istore_n (lv' := [(3, .int v_2), (0, .ref (q 81)), (1, .int x7_1), (2, .int x7_2)]) hx hb dX9_turn_35 rfl hl (by decide) rfl (fun ls hl => ?_)
          refine lv_aload_n hx hb dX9_turn_36 rfl (lv_at hl 1 rfl) ?_
          refine gt_X9 hx hb hts hown hK hP 81 (hW_w7.o tX_81) 8 (by decide) wd_519 rfl (hW_w7.fr tX_81 rfl) dX9_turn_37 ?_
          refine lv_iload_n hx hb dX9_turn_40 rfl (lv_at hl 0 rfl) ?_
          refine lv_bipush (v := 24) hx hb dX9_turn_41 (by decide) ?_
          refine lv_imul hx hb dX9_turn_43 ?_
          refine lv_aload_n hx hb dX9_turn_44 rfl (lv_at hl 1 rfl) ?_
          refine gt_X9 hx hb hts hown hK hP 81 (hW_w7.o tX_81) 0 (by decide) wd_511 rfl (hW_w7.fr tX_81 rfl) dX9_turn_45 ?_
          refine gt_X3 hx hb hts hown hK hP 64 (hW_w7.o tX_64) 3 (by decide) wd_411 rfl (hW_w7.fr tX_64 rfl) dX9_turn_48 ?_
          refine lv_iload_n hx hb dX9_turn_51 rfl (lv_at hl 2 rfl) ?_
          refine va_iald hx hb hK hP 65 0 (hW_w7.a tX_65) rfl (in_I i_x7_1 (by decide)) dX9_turn_52 ?_
          refine lv_topi (fun v_4 ev_4 => ?_)
          refine lv_iadd hx hb dX9_turn_53 ?_
          refine va_iald hx hb hK hP 86 0 (hW_w7.a tX_86) rfl (in_I ((In_add ((In_mulr (by have q := D1_v_2.1; have e : (v_2 : Int32).toInt = (aF w 84 x7_1.toNatClampNeg).toInt := congrArg Int32.toInt (ev_2.trans (congrFun (hM_w7.hA (by decide)) _)); have z := (In_w (R_ne_l (In_of ev_2 (hW_w7.ap tX_84 _) : In (-3) 9 v_2) (In_lit (n := (-3)) (by decide) (by decide) : In (-3) (-3) (-3)) c_3 (by decide) : In (-2) 9 v_2) (by decide) : In (-3) 9 v_2); unfold In at z ⊢; omega : In 0 9 v_2) (n := 24) (by decide) (by decide)) : In 0 216 (v_2 * 24)) (In_of ev_4 (hW_w7.ap tX_65 _) : In 0 23 v_4) (by decide)) : In 0 239 ((v_2 * 24) + v_4)) (by decide)) dX9_turn_54 ?_
          refine lv_topi (fun v_5 ev_5 => ?_)
          have NX_v_5 := RI_nx (d := v_2) (s := v_4) (t := v_5) (r := x7_1.toNatClampNeg) hRI (by have q := D1_v_2.1; have e : (v_2 : Int32).toInt = (aF w 84 x7_1.toNatClampNeg).toInt := congrArg Int32.toInt (ev_2.trans (congrFun (hM_w7.hA (by decide)) _)); have z := (In_w (R_ne_l (In_of ev_2 (hW_w7.ap tX_84 _) : In (-3) 9 v_2) (In_lit (n := (-3)) (by decide) (by decide) : In (-3) (-3) (-3)) c_3 (by decide) : In (-2) 9 v_2) (by decide) : In (-3) 9 v_2); unfold In at z ⊢; omega : In 0 9 v_2) (In_of ev_4 (hW_w7.ap tX_65 _) : In 0 23 v_4) (ev_2.trans (congrFun (hM_w7.hA (by decide)) _)) (ev_4.trans (congrFun (hM_w7.hA (by decide)) _)) D1_v_2 (ev_5.trans (congrFun (hM_w7.hA (by decide)) _))
          refine lv_istore (lv' := [(4, .int v_5), (3, .int v_2), (0, .ref (q 81)), (1, .int x7_1), (2, .int x7_2)]) hx hb dX9_turn_55 hl (by decide) rfl (fun ls hl => ?_)
          refine lv_aload_n hx hb dX9_turn_57 rfl (lv_at hl 2 rfl) ?_
          refine gt_X9 hx hb hts hown hK hP 81 (hW_w7.o tX_81) 0 (by decide) wd_511 rfl (hW_w7.fr tX_81 rfl) dX9_turn_58 ?_
          refine lv_iload_n hx hb dX9_turn_61 rfl (lv_at hl 3 rfl) ?_
          refine lv_iload_n hx hb dX9_turn_62 rfl (lv_at hl 1 rfl) ?_
          refine kW_v ⟨rfl, rfl⟩ hP hD hS hA (rW_V (As := [.int x7_1, .int v_2]) (rest := []) hx hb hml hown hts hK hE hP hD (k_X3_drop l D cI cJ cZ q bb bs bp w7 hW_w7 x7_1 v_2 i_x7_1 (by have q := D1_v_2.1; have e : (v_2 : Int32).toInt = (aF w 84 x7_1.toNatClampNeg).toInt := congrArg Int32.toInt (ev_2.trans (congrFun (hM_w7.hA (by decide)) _)); have z := (In_w (R_ne_l (In_of ev_2 (hW_w7.ap tX_84 _) : In (-3) 9 v_2) (In_lit (n := (-3)) (by decide) (by decide) : In (-3) (-3) (-3)) c_3 (by decide) : In (-2) 9 v_2) (by decide) : In (-3) 9 v_2); unfold In at z ⊢; omega : In 0 9 v_2) (In_of (hM_w7.gI (by decide)) (In_of (hM_w7.gI (by decide)).symm g7_64_1)) (In_of (hM_w7.gI (by decide)) (In_of (hM_w7.gI (by decide)).symm g7_64_2)) _) ⟨⟨rfl, rfl⟩, rfl, rfl⟩ sv_X9_176 ⟨(Nat.le_trans (by decide) hR.1), (Nat.le_trans (by decide) hR.2)⟩ 64 3 (hW_w7.o tX_64) rfl rfl rfl hl.1 rfl (Nat.le_of_ble_eq_true rfl) dX9_turn_63) (fun w_6 H locs hw_w_6 hP hD hS => ?_)
          obtain ⟨hW_w_6, hs_w_6⟩ := hw_w_6
          refine lv_iload hx hb dX9_turn_66 (lv_at hl 0 rfl) ?_
          refine lv_bipush (v := (-2)) hx hb dX9_turn_68 (by decide) ?_
          refine lv_icmp_ne (tgt := 99) hx hb dX9_turn_70 (by decide) (fun c_8 => ?_) (fun c_8 => ?_)
          · have NR_v_5 := NX_v_5.resolve_right (fun q => c_8 q.1)
            refine lv_aload_n hx hb dX9_turn_99 rfl (lv_at hl 2 rfl) ?_
            refine gt_X9 hx hb hts hown hK hP 81 (hW_w_6.o tX_81) 0 (by decide) wd_511 rfl (hW_w_6.fr tX_81 rfl) dX9_turn_100 ?_
            refine lv_iload hx hb dX9_turn_103 (lv_at hl 0 rfl) ?_
            refine lv_iload_n hx hb dX9_turn_105 rfl (lv_at hl 1 rfl) ?_
            refine kW_v ⟨rfl, rfl⟩ hP hD hS hA (rW_V (As := [.int v_5, .int v_2]) (rest := []) hx hb hml hown hts hK hE hP hD (k_X3_take l D cI cJ cZ q bb bs bp w_6 hW_w_6 v_5 v_2 (by have q := NR_v_5.1; have z := (In_w (R_ne_l (In_of ev_5 (hW_w7.ap tX_86 _) : In (-2) 39 v_5) (In_lit (n := (-2)) (by decide) (by decide) : In (-2) (-2) (-2)) c_8 (by decide) : In (-1) 39 v_5) (by decide) : In (-2) 39 v_5); unfold In at z ⊢; omega : In 0 39 v_5) (by have q := D1_v_2.1; have e : (v_2 : Int32).toInt = (aF w 84 x7_1.toNatClampNeg).toInt := congrArg Int32.toInt (ev_2.trans (congrFun (hM_w7.hA (by decide)) _)); have z := (In_w (R_ne_l (In_of ev_2 (hW_w7.ap tX_84 _) : In (-3) 9 v_2) (In_lit (n := (-3)) (by decide) (by decide) : In (-3) (-3) (-3)) c_3 (by decide) : In (-2) 9 v_2) (by decide) : In (-3) 9 v_2); unfold In at z ⊢; omega : In 0 9 v_2) (In_of ((hs_w_6.gI (by decide)).trans (hM_w7.gI (by decide))) (In_of (hM_w7.gI (by decide)).symm g7_64_1)) (In_of ((hs_w_6.gI (by decide)).trans (hM_w7.gI (by decide))) (In_of (hM_w7.gI (by decide)).symm g7_64_2)) _) ⟨⟨rfl, rfl⟩, rfl, rfl⟩ sv_X9_179 ⟨(Nat.le_trans (by decide) hR.1), (Nat.le_trans (by decide) hR.2)⟩ 64 3 (hW_w_6.o tX_64) rfl rfl rfl hl.1 rfl (Nat.le_of_ble_eq_true rfl) dX9_turn_106) (fun w_9 H locs hw_w_9 hP hD hS => ?_)
            obtain ⟨hW_w_9, hs_w_9⟩ := hw_w_9
            refine lv_iload hx hb dX9_turn_109 (lv_at hl 0 rfl) ?_
            refine lv_istore_n (lv' := [(1, .int v_5), (4, .int v_5), (3, .int v_2), (0, .ref (q 81)), (2, .int x7_2)]) hx hb dX9_turn_111 rfl hl (by decide) rfl (fun ls hl => ?_)
            refine lv_iload_n hx hb dX9_turn_112 rfl (lv_at hl 0 rfl) ?_
            refine lv_aload_n hx hb dX9_turn_113 rfl (lv_at hl 3 rfl) ?_
            refine gt_X9 hx hb hts hown hK hP 81 (hW_w_9.o tX_81) 2 (by decide) wd_513 rfl (hW_w_9.fi tX_81 rfl) dX9_turn_114 ?_
            refine tov (v := (fI w 81 2)) ((hs_w_9.gI (by decide)).trans ((hs_w_6.gI (by decide)).trans (hM_w7.gI (by decide)))) ?_
            refine lv_icmp_ne (tgt := 121) hx hb dX9_turn_117 (by decide) (fun c_11 => ?_) (fun c_11 => ?_)
            · refine lv_iinc (v := (x7_2 + 1)) (lv' := [(2, .int (x7_2 + 1)), (1, .int v_5), (4, .int v_5), (3, .int v_2), (0, .ref (q 81))]) hx hb dX9_turn_121 hl (k := 4) rfl (rfl) (by decide) rfl (fun ls hl => ?_)
              refine lv_goto (tgt := 7) hx hb dX9_turn_124 (by decide) ?_
              exact ih7 v_5 (x7_2 + 1) w_9 _ _ ls (mu_inc hmu7 (R_nle_r (In_lit (n := 1000000) (by decide) (by decide) : In 1000000 1000000 1000000) i_x7_2 c_1 (by decide) : In 0 999999 x7_2) (In_lit (n := 1) (by decide) (by decide) : In 1 1 1) (by decide)) hW_w_9 ((hM_w7.tr hs_w_6 (by decide)).tr hs_w_9 (by decide)) (by have q := NR_v_5.1; have z := (In_w (R_ne_l (In_of ev_5 (hW_w7.ap tX_86 _) : In (-2) 39 v_5) (In_lit (n := (-2)) (by decide) (by decide) : In (-2) (-2) (-2)) c_8 (by decide) : In (-1) 39 v_5) (by decide) : In (-2) 39 v_5); unfold In at z ⊢; omega : In 0 39 v_5) (In_w ((In_add (y := 1) (R_nle_r (In_lit (n := 1000000) (by decide) (by decide) : In 1000000 1000000 1000000) i_x7_2 c_1 (by decide) : In 0 999999 x7_2) (In_lit (n := 1) (by decide) (by decide) : In 1 1 1) (by decide)) : In 1 1000000 (x7_2 + 1)) (by decide) : In 0 1000000 (x7_2 + 1)) (In_of ((hs_w_9.gI (by decide)).trans ((hs_w_6.gI (by decide)).trans (hM_w7.gI (by decide)))) (In_of (hM_w7.gI (by decide)).symm g7_64_0)) (In_of ((hs_w_9.gI (by decide)).trans ((hs_w_6.gI (by decide)).trans (hM_w7.gI (by decide)))) (In_of (hM_w7.gI (by decide)).symm g7_64_1)) (In_of ((hs_w_9.gI (by decide)).trans ((hs_w_6.gI (by decide)).trans (hM_w7.gI (by decide)))) (In_of (hM_w7.gI (by decide)).symm g7_64_2)) (NR_v_5.2.resolve_left c_11) hP hD hS (lv_sub hl [4, 1, 0] rfl)
            · exact hret _ _ _ _ _ hP hD hS dX9_turn_120 ⟨hW_w_9, ((hM_w7.tr hs_w_6 (by decide)).tr hs_w_9 (by decide))⟩
          · refine lv_aload_n hx hb dX9_turn_73 rfl (lv_at hl 2 rfl) ?_
            refine gt_X9 hx hb hts hown hK hP 81 (hW_w_6.o tX_81) 13 (by decide) wd_524 rfl (hW_w_6.fi tX_81 rfl) dX9_turn_74 ?_
            refine tov (v := (fI w 81 13)) ((hs_w_6.gI (by decide)).trans (hM_w7.gI (by decide))) ?_
            refine lv_istore_n (lv' := [(3, .int (fI w 81 13)), (4, .int v_5), (0, .ref (q 81)), (1, .int x7_1), (2, .int x7_2)]) hx hb dX9_turn_77 rfl hl (by decide) rfl (fun ls hl => ?_)
            refine lv_aload_n hx hb dX9_turn_78 rfl (lv_at hl 2 rfl) ?_
            refine gt_X9 hx hb hts hown hK hP 81 (hW_w_6.o tX_81) 8 (by decide) wd_519 rfl (hW_w_6.fr tX_81 rfl) dX9_turn_79 ?_
            refine lv_iload_n hx hb dX9_turn_82 rfl (lv_at hl 0 rfl) ?_
            refine lv_bipush (v := 24) hx hb dX9_turn_83 (by decide) ?_
            refine lv_imul hx hb dX9_turn_85 ?_
            refine lv_aload_n hx hb dX9_turn_86 rfl (lv_at hl 2 rfl) ?_
            refine gt_X9 hx hb hts hown hK hP 81 (hW_w_6.o tX_81) 0 (by decide) wd_511 rfl (hW_w_6.fr tX_81 rfl) dX9_turn_87 ?_
            refine gt_X3 hx hb hts hown hK hP 64 (hW_w_6.o tX_64) 2 (by decide) wd_409 rfl (hW_w_6.fi tX_64 rfl) dX9_turn_90 ?_
            refine tov (v := (fI w 64 2)) ((hs_w_6.gI (by decide)).trans (hM_w7.gI (by decide))) ?_
            refine lv_iadd hx hb dX9_turn_93 ?_
            refine lv_iconst (v := 1) hx hb dX9_turn_94 (by decide) ?_
            refine lv_isub hx hb dX9_turn_95 ?_
            refine va_iald hx hb hK hP 86 0 (hW_w_6.a tX_86) rfl (in_I ((In_sub ((In_add ((In_mulr (by have q : 0 ≤ (fI w 81 13).toInt := (by rcases NX_v_5 with q | q; exact absurd q.1 (by rw [c_8]; decide); exact q.2); have z := (hW_w.fin tX_81 rfl : In (-1) 9 (fI w 81 13)); unfold In at z ⊢; omega : In 0 9 (fI w 81 13)) (n := 24) (by decide) (by decide)) : In 0 216 ((fI w 81 13) * 24)) (In_of (hM_w7.gI (by decide)).symm g7_64_2) (by decide)) : In 1 240 (((fI w 81 13) * 24) + (fI w 64 2))) (In_lit (n := 1) (by decide) (by decide) : In 1 1 1) (by decide)) : In 0 239 ((((fI w 81 13) * 24) + (fI w 64 2)) - 1)) (by decide)) dX9_turn_96 ?_
            refine lv_topi (fun v_12 ev_12 => ?_)
            have LF_v_12 := RI_lf (k := fI w 81 13) hRI (by have q : 0 ≤ (fI w 81 13).toInt := (by rcases NX_v_5 with q | q; exact absurd q.1 (by rw [c_8]; decide); exact q.2); have z := (hW_w.fin tX_81 rfl : In (-1) 9 (fI w 81 13)); unfold In at z ⊢; omega : In 0 9 (fI w 81 13)) rfl (In_of (hM_w7.gI (by decide)).symm g7_64_2) rfl (ev_12.trans (congrFun ((hs_w_6.hA (by decide)).trans (hM_w7.hA (by decide))) _))
            refine lv_istore (lv' := [(4, .int v_12), (3, .int (fI w 81 13)), (0, .ref (q 81)), (1, .int x7_1), (2, .int x7_2)]) hx hb dX9_turn_97 hl (by decide) rfl (fun ls hl => ?_)
            refine lv_aload_n hx hb dX9_turn_99 rfl (lv_at hl 2 rfl) ?_
            refine gt_X9 hx hb hts hown hK hP 81 (hW_w_6.o tX_81) 0 (by decide) wd_511 rfl (hW_w_6.fr tX_81 rfl) dX9_turn_100 ?_
            refine lv_iload hx hb dX9_turn_103 (lv_at hl 0 rfl) ?_
            refine lv_iload_n hx hb dX9_turn_105 rfl (lv_at hl 1 rfl) ?_
            refine kW_v ⟨rfl, rfl⟩ hP hD hS hA (rW_V (As := [.int v_12, .int (fI w 81 13)]) (rest := []) hx hb hml hown hts hK hE hP hD (k_X3_take l D cI cJ cZ q bb bs bp w_6 hW_w_6 v_12 (fI w 81 13) (by have q := LF_v_12.1; have z := (In_of ev_12 (hW_w_6.ap tX_86 _) : In (-2) 39 v_12); unfold In at z ⊢; omega : In 0 39 v_12) (by have q : 0 ≤ (fI w 81 13).toInt := (by rcases NX_v_5 with q | q; exact absurd q.1 (by rw [c_8]; decide); exact q.2); have z := (hW_w.fin tX_81 rfl : In (-1) 9 (fI w 81 13)); unfold In at z ⊢; omega : In 0 9 (fI w 81 13)) (In_of ((hs_w_6.gI (by decide)).trans (hM_w7.gI (by decide))) (In_of (hM_w7.gI (by decide)).symm g7_64_1)) (In_of ((hs_w_6.gI (by decide)).trans (hM_w7.gI (by decide))) (In_of (hM_w7.gI (by decide)).symm g7_64_2)) _) ⟨⟨rfl, rfl⟩, rfl, rfl⟩ sv_X9_179 ⟨(Nat.le_trans (by decide) hR.1), (Nat.le_trans (by decide) hR.2)⟩ 64 3 (hW_w_6.o tX_64) rfl rfl rfl hl.1 rfl (Nat.le_of_ble_eq_true rfl) dX9_turn_106) (fun w_13 H locs hw_w_13 hP hD hS => ?_)
            obtain ⟨hW_w_13, hs_w_13⟩ := hw_w_13
            refine lv_iload hx hb dX9_turn_109 (lv_at hl 0 rfl) ?_
            refine lv_istore_n (lv' := [(1, .int v_12), (4, .int v_12), (3, .int (fI w 81 13)), (0, .ref (q 81)), (2, .int x7_2)]) hx hb dX9_turn_111 rfl hl (by decide) rfl (fun ls hl => ?_)
            refine lv_iload_n hx hb dX9_turn_112 rfl (lv_at hl 0 rfl) ?_
            refine lv_aload_n hx hb dX9_turn_113 rfl (lv_at hl 3 rfl) ?_
            refine gt_X9 hx hb hts hown hK hP 81 (hW_w_13.o tX_81) 2 (by decide) wd_513 rfl (hW_w_13.fi tX_81 rfl) dX9_turn_114 ?_
            refine tov (v := (fI w 81 2)) ((hs_w_13.gI (by decide)).trans ((hs_w_6.gI (by decide)).trans (hM_w7.gI (by decide)))) ?_
            refine lv_icmp_ne (tgt := 121) hx hb dX9_turn_117 (by decide) (fun c_15 => ?_) (fun c_15 => ?_)
            · refine lv_iinc (v := (x7_2 + 1)) (lv' := [(2, .int (x7_2 + 1)), (1, .int v_12), (4, .int v_12), (3, .int (fI w 81 13)), (0, .ref (q 81))]) hx hb dX9_turn_121 hl (k := 4) rfl (rfl) (by decide) rfl (fun ls hl => ?_)
              refine lv_goto (tgt := 7) hx hb dX9_turn_124 (by decide) ?_
              exact ih7 v_12 (x7_2 + 1) w_13 _ _ ls (mu_inc hmu7 (R_nle_r (In_lit (n := 1000000) (by decide) (by decide) : In 1000000 1000000 1000000) i_x7_2 c_1 (by decide) : In 0 999999 x7_2) (In_lit (n := 1) (by decide) (by decide) : In 1 1 1) (by decide)) hW_w_13 ((hM_w7.tr hs_w_6 (by decide)).tr hs_w_13 (by decide)) (by have q := LF_v_12.1; have z := (In_of ev_12 (hW_w_6.ap tX_86 _) : In (-2) 39 v_12); unfold In at z ⊢; omega : In 0 39 v_12) (In_w ((In_add (y := 1) (R_nle_r (In_lit (n := 1000000) (by decide) (by decide) : In 1000000 1000000 1000000) i_x7_2 c_1 (by decide) : In 0 999999 x7_2) (In_lit (n := 1) (by decide) (by decide) : In 1 1 1) (by decide)) : In 1 1000000 (x7_2 + 1)) (by decide) : In 0 1000000 (x7_2 + 1)) (In_of ((hs_w_13.gI (by decide)).trans ((hs_w_6.gI (by decide)).trans (hM_w7.gI (by decide)))) (In_of (hM_w7.gI (by decide)).symm g7_64_0)) (In_of ((hs_w_13.gI (by decide)).trans ((hs_w_6.gI (by decide)).trans (hM_w7.gI (by decide)))) (In_of (hM_w7.gI (by decide)).symm g7_64_1)) (In_of ((hs_w_13.gI (by decide)).trans ((hs_w_6.gI (by decide)).trans (hM_w7.gI (by decide)))) (In_of (hM_w7.gI (by decide)).symm g7_64_2)) (LF_v_12.2.resolve_left c_15) hP hD hS (lv_sub hl [4, 1, 0] rfl)
            · exact hret _ _ _ _ _ hP hD hS dX9_turn_120 ⟨hW_w_13, ((hM_w7.tr hs_w_6 (by decide)).tr hs_w_13 (by decide))⟩
        · refine lv_aload_n hx hb dX9_turn_24 rfl (lv_at hl 0 rfl) ?_
          refine gt_X9 hx hb hts hown hK hP 81 (hW_w7.o tX_81) 12 (by decide) wd_523 rfl (hW_w7.fi tX_81 rfl) dX9_turn_25 ?_
          refine tov (v := (fI w 81 12)) (hM_w7.gI (by decide)) ?_
          refine lv_istore_n (lv' := [(1, .int (fI w 81 12)), (0, .ref (q 81)), (2, .int x7_2)]) hx hb dX9_turn_28 rfl hl (by decide) rfl (fun ls hl => ?_)
          have D2_v_2 := RI_d2 (row := x7_1) hRI i_x7_1 hs_7 (ev_2.trans (congrFun (hM_w7.hA (by decide)) _)) c_3
          refine lv_aload_n hx hb dX9_turn_29 rfl (lv_at hl 1 rfl) ?_
          refine gt_X9 hx hb hts hown hK hP 81 (hW_w7.o tX_81) 6 (by decide) wd_517 rfl (hW_w7.fr tX_81 rfl) dX9_turn_30 ?_
          refine lv_iload_n hx hb dX9_turn_33 rfl (lv_at hl 0 rfl) ?_
          refine va_iald hx hb hK hP 84 0 (hW_w7.a tX_84) rfl (in_I (by have q := D2_v_2.1; have z := (hW_w.fin tX_81 rfl : In (-1) 39 (fI w 81 12)); unfold In at z ⊢; omega : In 0 39 (fI w 81 12)) (by decide)) dX9_turn_34 ?_
          refine lv_topi (fun v_16 ev_16 => ?_)
          refine lv_istore_n (lv' := [(3, .int v_16), (1, .int (fI w 81 12)), (0, .ref (q 81)), (2, .int x7_2)]) hx hb dX9_turn_35 rfl hl (by decide) rfl (fun ls hl => ?_)
          refine lv_aload_n hx hb dX9_turn_36 rfl (lv_at hl 2 rfl) ?_
          refine gt_X9 hx hb hts hown hK hP 81 (hW_w7.o tX_81) 8 (by decide) wd_519 rfl (hW_w7.fr tX_81 rfl) dX9_turn_37 ?_
          refine lv_iload_n hx hb dX9_turn_40 rfl (lv_at hl 0 rfl) ?_
          refine lv_bipush (v := 24) hx hb dX9_turn_41 (by decide) ?_
          refine lv_imul hx hb dX9_turn_43 ?_
          refine lv_aload_n hx hb dX9_turn_44 rfl (lv_at hl 2 rfl) ?_
          refine gt_X9 hx hb hts hown hK hP 81 (hW_w7.o tX_81) 0 (by decide) wd_511 rfl (hW_w7.fr tX_81 rfl) dX9_turn_45 ?_
          refine gt_X3 hx hb hts hown hK hP 64 (hW_w7.o tX_64) 3 (by decide) wd_411 rfl (hW_w7.fr tX_64 rfl) dX9_turn_48 ?_
          refine lv_iload_n hx hb dX9_turn_51 rfl (lv_at hl 1 rfl) ?_
          refine va_iald hx hb hK hP 65 0 (hW_w7.a tX_65) rfl (in_I (by have q := D2_v_2.1; have z := (hW_w.fin tX_81 rfl : In (-1) 39 (fI w 81 12)); unfold In at z ⊢; omega : In 0 39 (fI w 81 12)) (by decide)) dX9_turn_52 ?_
          refine lv_topi (fun v_17 ev_17 => ?_)
          refine lv_iadd hx hb dX9_turn_53 ?_
          refine va_iald hx hb hK hP 86 0 (hW_w7.a tX_86) rfl (in_I ((In_add ((In_mulr (by have q := D2_v_2.2.2.1; have e : (v_16 : Int32).toInt = (aF w 84 (fI w 81 12).toNatClampNeg).toInt := congrArg Int32.toInt (ev_16.trans (congrFun (hM_w7.hA (by decide)) _)); have z := (In_of ev_16 (hW_w7.ap tX_84 _) : In (-3) 9 v_16); unfold In at z ⊢; omega : In 0 9 v_16) (n := 24) (by decide) (by decide)) : In 0 216 (v_16 * 24)) (In_of ev_17 (hW_w7.ap tX_65 _) : In 0 23 v_17) (by decide)) : In 0 239 ((v_16 * 24) + v_17)) (by decide)) dX9_turn_54 ?_
          refine lv_topi (fun v_18 ev_18 => ?_)
          have NX_v_18 := RI_nx (d := v_16) (s := v_17) (t := v_18) (r := (fI w 81 12).toNatClampNeg) hRI (by have q := D2_v_2.2.2.1; have e : (v_16 : Int32).toInt = (aF w 84 (fI w 81 12).toNatClampNeg).toInt := congrArg Int32.toInt (ev_16.trans (congrFun (hM_w7.hA (by decide)) _)); have z := (In_of ev_16 (hW_w7.ap tX_84 _) : In (-3) 9 v_16); unfold In at z ⊢; omega : In 0 9 v_16) (In_of ev_17 (hW_w7.ap tX_65 _) : In 0 23 v_17) (ev_16.trans (congrFun (hM_w7.hA (by decide)) _)) (ev_17.trans (congrFun (hM_w7.hA (by decide)) _)) D2_v_2.2.2 (ev_18.trans (congrFun (hM_w7.hA (by decide)) _))
          refine lv_istore (lv' := [(4, .int v_18), (3, .int v_16), (1, .int (fI w 81 12)), (0, .ref (q 81)), (2, .int x7_2)]) hx hb dX9_turn_55 hl (by decide) rfl (fun ls hl => ?_)
          refine lv_aload_n hx hb dX9_turn_57 rfl (lv_at hl 3 rfl) ?_
          refine gt_X9 hx hb hts hown hK hP 81 (hW_w7.o tX_81) 0 (by decide) wd_511 rfl (hW_w7.fr tX_81 rfl) dX9_turn_58 ?_
          refine lv_iload_n hx hb dX9_turn_61 rfl (lv_at hl 2 rfl) ?_
          refine lv_iload_n hx hb dX9_turn_62 rfl (lv_at hl 1 rfl) ?_
          refine kW_v ⟨rfl, rfl⟩ hP hD hS hA (rW_V (As := [.int (fI w 81 12), .int v_16]) (rest := []) hx hb hml hown hts hK hE hP hD (k_X3_drop l D cI cJ cZ q bb bs bp w7 hW_w7 (fI w 81 12) v_16 (by have q := D2_v_2.1; have z := (hW_w.fin tX_81 rfl : In (-1) 39 (fI w 81 12)); unfold In at z ⊢; omega : In 0 39 (fI w 81 12)) (by have q := D2_v_2.2.2.1; have e : (v_16 : Int32).toInt = (aF w 84 (fI w 81 12).toNatClampNeg).toInt := congrArg Int32.toInt (ev_16.trans (congrFun (hM_w7.hA (by decide)) _)); have z := (In_of ev_16 (hW_w7.ap tX_84 _) : In (-3) 9 v_16); unfold In at z ⊢; omega : In 0 9 v_16) (In_of (hM_w7.gI (by decide)) (In_of (hM_w7.gI (by decide)).symm g7_64_1)) (In_of (hM_w7.gI (by decide)) (In_of (hM_w7.gI (by decide)).symm g7_64_2)) _) ⟨⟨rfl, rfl⟩, rfl, rfl⟩ sv_X9_176 ⟨(Nat.le_trans (by decide) hR.1), (Nat.le_trans (by decide) hR.2)⟩ 64 3 (hW_w7.o tX_64) rfl rfl rfl hl.1 rfl (Nat.le_of_ble_eq_true rfl) dX9_turn_63) (fun w_19 H locs hw_w_19 hP hD hS => ?_)
          obtain ⟨hW_w_19, hs_w_19⟩ := hw_w_19
          refine lv_iload hx hb dX9_turn_66 (lv_at hl 0 rfl) ?_
          refine lv_bipush (v := (-2)) hx hb dX9_turn_68 (by decide) ?_
          refine lv_icmp_ne (tgt := 99) hx hb dX9_turn_70 (by decide) (fun c_21 => ?_) (fun c_21 => ?_)
          · have NR_v_18 := NX_v_18.resolve_right (fun q => c_21 q.1)
            refine lv_aload_n hx hb dX9_turn_99 rfl (lv_at hl 3 rfl) ?_
            refine gt_X9 hx hb hts hown hK hP 81 (hW_w_19.o tX_81) 0 (by decide) wd_511 rfl (hW_w_19.fr tX_81 rfl) dX9_turn_100 ?_
            refine lv_iload hx hb dX9_turn_103 (lv_at hl 0 rfl) ?_
            refine lv_iload_n hx hb dX9_turn_105 rfl (lv_at hl 1 rfl) ?_
            refine kW_v ⟨rfl, rfl⟩ hP hD hS hA (rW_V (As := [.int v_18, .int v_16]) (rest := []) hx hb hml hown hts hK hE hP hD (k_X3_take l D cI cJ cZ q bb bs bp w_19 hW_w_19 v_18 v_16 (by have q := NR_v_18.1; have z := (In_w (R_ne_l (In_of ev_18 (hW_w7.ap tX_86 _) : In (-2) 39 v_18) (In_lit (n := (-2)) (by decide) (by decide) : In (-2) (-2) (-2)) c_21 (by decide) : In (-1) 39 v_18) (by decide) : In (-2) 39 v_18); unfold In at z ⊢; omega : In 0 39 v_18) (by have q := D2_v_2.2.2.1; have e : (v_16 : Int32).toInt = (aF w 84 (fI w 81 12).toNatClampNeg).toInt := congrArg Int32.toInt (ev_16.trans (congrFun (hM_w7.hA (by decide)) _)); have z := (In_of ev_16 (hW_w7.ap tX_84 _) : In (-3) 9 v_16); unfold In at z ⊢; omega : In 0 9 v_16) (In_of ((hs_w_19.gI (by decide)).trans (hM_w7.gI (by decide))) (In_of (hM_w7.gI (by decide)).symm g7_64_1)) (In_of ((hs_w_19.gI (by decide)).trans (hM_w7.gI (by decide))) (In_of (hM_w7.gI (by decide)).symm g7_64_2)) _) ⟨⟨rfl, rfl⟩, rfl, rfl⟩ sv_X9_179 ⟨(Nat.le_trans (by decide) hR.1), (Nat.le_trans (by decide) hR.2)⟩ 64 3 (hW_w_19.o tX_64) rfl rfl rfl hl.1 rfl (Nat.le_of_ble_eq_true rfl) dX9_turn_106) (fun w_22 H locs hw_w_22 hP hD hS => ?_)
            obtain ⟨hW_w_22, hs_w_22⟩ := hw_w_22
            refine lv_iload hx hb dX9_turn_109 (lv_at hl 0 rfl) ?_
            refine lv_istore_n (lv' := [(1, .int v_18), (4, .int v_18), (3, .int v_16), (0, .ref (q 81)), (2, .int x7_2)]) hx hb dX9_turn_111 rfl hl (by decide) rfl (fun ls hl => ?_)
            refine lv_iload_n hx hb dX9_turn_112 rfl (lv_at hl 0 rfl) ?_
            refine lv_aload_n hx hb dX9_turn_113 rfl (lv_at hl 3 rfl) ?_
            refine gt_X9 hx hb hts hown hK hP 81 (hW_w_22.o tX_81) 2 (by decide) wd_513 rfl (hW_w_22.fi tX_81 rfl) dX9_turn_114 ?_
            refine tov (v := (fI w 81 2)) ((hs_w_22.gI (by decide)).trans ((hs_w_19.gI (by decide)).trans (hM_w7.gI (by decide)))) ?_
            refine lv_icmp_ne (tgt := 121) hx hb dX9_turn_117 (by decide) (fun c_24 => ?_) (fun c_24 => ?_)
            · refine lv_iinc (v := (x7_2 + 1)) (lv' := [(2, .int (x7_2 + 1)), (1, .int v_18), (4, .int v_18), (3, .int v_16), (0, .ref (q 81))]) hx hb dX9_turn_121 hl (k := 4) rfl (rfl) (by decide) rfl (fun ls hl => ?_)
              refine lv_goto (tgt := 7) hx hb dX9_turn_124 (by decide) ?_
              exact ih7 v_18 (x7_2 + 1) w_22 _ _ ls (mu_inc hmu7 (R_nle_r (In_lit (n := 1000000) (by decide) (by decide) : In 1000000 1000000 1000000) i_x7_2 c_1 (by decide) : In 0 999999 x7_2) (In_lit (n := 1) (by decide) (by decide) : In 1 1 1) (by decide)) hW_w_22 ((hM_w7.tr hs_w_19 (by decide)).tr hs_w_22 (by decide)) (by have q := NR_v_18.1; have z := (In_w (R_ne_l (In_of ev_18 (hW_w7.ap tX_86 _) : In (-2) 39 v_18) (In_lit (n := (-2)) (by decide) (by decide) : In (-2) (-2) (-2)) c_21 (by decide) : In (-1) 39 v_18) (by decide) : In (-2) 39 v_18); unfold In at z ⊢; omega : In 0 39 v_18) (In_w ((In_add (y := 1) (R_nle_r (In_lit (n := 1000000) (by decide) (by decide) : In 1000000 1000000 1000000) i_x7_2 c_1 (by decide) : In 0 999999 x7_2) (In_lit (n := 1) (by decide) (by decide) : In 1 1 1) (by decide)) : In 1 1000000 (x7_2 + 1)) (by decide) : In 0 1000000 (x7_2 + 1)) (In_of ((hs_w_22.gI (by decide)).trans ((hs_w_19.gI (by decide)).trans (hM_w7.gI (by decide)))) (In_of (hM_w7.gI (by decide)).symm g7_64_0)) (In_of ((hs_w_22.gI (by decide)).trans ((hs_w_19.gI (by decide)).trans (hM_w7.gI (by decide)))) (In_of (hM_w7.gI (by decide)).symm g7_64_1)) (In_of ((hs_w_22.gI (by decide)).trans ((hs_w_19.gI (by decide)).trans (hM_w7.gI (by decide)))) (In_of (hM_w7.gI (by decide)).symm g7_64_2)) (NR_v_18.2.resolve_left c_24) hP hD hS (lv_sub hl [4, 1, 0] rfl)
            · exact hret _ _ _ _ _ hP hD hS dX9_turn_120 ⟨hW_w_22, ((hM_w7.tr hs_w_19 (by decide)).tr hs_w_22 (by decide))⟩
          · refine lv_aload_n hx hb dX9_turn_73 rfl (lv_at hl 3 rfl) ?_
            refine gt_X9 hx hb hts hown hK hP 81 (hW_w_19.o tX_81) 13 (by decide) wd_524 rfl (hW_w_19.fi tX_81 rfl) dX9_turn_74 ?_
            refine tov (v := (fI w 81 13)) ((hs_w_19.gI (by decide)).trans (hM_w7.gI (by decide))) ?_
            refine lv_istore_n (lv' := [(3, .int (fI w 81 13)), (4, .int v_18), (1, .int (fI w 81 12)), (0, .ref (q 81)), (2, .int x7_2)]) hx hb dX9_turn_77 rfl hl (by decide) rfl (fun ls hl => ?_)
            refine lv_aload_n hx hb dX9_turn_78 rfl (lv_at hl 3 rfl) ?_
            refine gt_X9 hx hb hts hown hK hP 81 (hW_w_19.o tX_81) 8 (by decide) wd_519 rfl (hW_w_19.fr tX_81 rfl) dX9_turn_79 ?_
            refine lv_iload_n hx hb dX9_turn_82 rfl (lv_at hl 0 rfl) ?_
            refine lv_bipush (v := 24) hx hb dX9_turn_83 (by decide) ?_
            refine lv_imul hx hb dX9_turn_85 ?_
            refine lv_aload_n hx hb dX9_turn_86 rfl (lv_at hl 3 rfl) ?_
            refine gt_X9 hx hb hts hown hK hP 81 (hW_w_19.o tX_81) 0 (by decide) wd_511 rfl (hW_w_19.fr tX_81 rfl) dX9_turn_87 ?_
            refine gt_X3 hx hb hts hown hK hP 64 (hW_w_19.o tX_64) 2 (by decide) wd_409 rfl (hW_w_19.fi tX_64 rfl) dX9_turn_90 ?_
            refine tov (v := (fI w 64 2)) ((hs_w_19.gI (by decide)).trans (hM_w7.gI (by decide))) ?_
            refine lv_iadd hx hb dX9_turn_93 ?_
            refine lv_iconst (v := 1) hx hb dX9_turn_94 (by decide) ?_
            refine lv_isub hx hb dX9_turn_95 ?_
            refine va_iald hx hb hK hP 86 0 (hW_w_19.a tX_86) rfl (in_I ((In_sub ((In_add ((In_mulr (by have q : 0 ≤ (fI w 81 13).toInt := (by rcases NX_v_18 with q | q; exact absurd q.1 (by rw [c_21]; decide); exact q.2); have z := (hW_w.fin tX_81 rfl : In (-1) 9 (fI w 81 13)); unfold In at z ⊢; omega : In 0 9 (fI w 81 13)) (n := 24) (by decide) (by decide)) : In 0 216 ((fI w 81 13) * 24)) (In_of (hM_w7.gI (by decide)).symm g7_64_2) (by decide)) : In 1 240 (((fI w 81 13) * 24) + (fI w 64 2))) (In_lit (n := 1) (by decide) (by decide) : In 1 1 1) (by decide)) : In 0 239 ((((fI w 81 13) * 24) + (fI w 64 2)) - 1)) (by decide)) dX9_turn_96 ?_
            refine lv_topi (fun v_25 ev_25 => ?_)
            have LF_v_25 := RI_lf (k := fI w 81 13) hRI (by have q : 0 ≤ (fI w 81 13).toInt := (by rcases NX_v_18 with q | q; exact absurd q.1 (by rw [c_21]; decide); exact q.2); have z := (hW_w.fin tX_81 rfl : In (-1) 9 (fI w 81 13)); unfold In at z ⊢; omega : In 0 9 (fI w 81 13)) rfl (In_of (hM_w7.gI (by decide)).symm g7_64_2) rfl (ev_25.trans (congrFun ((hs_w_19.hA (by decide)).trans (hM_w7.hA (by decide))) _))
            refine lv_istore (lv' := [(4, .int v_25), (3, .int (fI w 81 13)), (1, .int (fI w 81 12)), (0, .ref (q 81)), (2, .int x7_2)]) hx hb dX9_turn_97 hl (by decide) rfl (fun ls hl => ?_)
            refine lv_aload_n hx hb dX9_turn_99 rfl (lv_at hl 3 rfl) ?_
            refine gt_X9 hx hb hts hown hK hP 81 (hW_w_19.o tX_81) 0 (by decide) wd_511 rfl (hW_w_19.fr tX_81 rfl) dX9_turn_100 ?_
            refine lv_iload hx hb dX9_turn_103 (lv_at hl 0 rfl) ?_
            refine lv_iload_n hx hb dX9_turn_105 rfl (lv_at hl 1 rfl) ?_
            refine kW_v ⟨rfl, rfl⟩ hP hD hS hA (rW_V (As := [.int v_25, .int (fI w 81 13)]) (rest := []) hx hb hml hown hts hK hE hP hD (k_X3_take l D cI cJ cZ q bb bs bp w_19 hW_w_19 v_25 (fI w 81 13) (by have q := LF_v_25.1; have z := (In_of ev_25 (hW_w_19.ap tX_86 _) : In (-2) 39 v_25); unfold In at z ⊢; omega : In 0 39 v_25) (by have q : 0 ≤ (fI w 81 13).toInt := (by rcases NX_v_18 with q | q; exact absurd q.1 (by rw [c_21]; decide); exact q.2); have z := (hW_w.fin tX_81 rfl : In (-1) 9 (fI w 81 13)); unfold In at z ⊢; omega : In 0 9 (fI w 81 13)) (In_of ((hs_w_19.gI (by decide)).trans (hM_w7.gI (by decide))) (In_of (hM_w7.gI (by decide)).symm g7_64_1)) (In_of ((hs_w_19.gI (by decide)).trans (hM_w7.gI (by decide))) (In_of (hM_w7.gI (by decide)).symm g7_64_2)) _) ⟨⟨rfl, rfl⟩, rfl, rfl⟩ sv_X9_179 ⟨(Nat.le_trans (by decide) hR.1), (Nat.le_trans (by decide) hR.2)⟩ 64 3 (hW_w_19.o tX_64) rfl rfl rfl hl.1 rfl (Nat.le_of_ble_eq_true rfl) dX9_turn_106) (fun w_26 H locs hw_w_26 hP hD hS => ?_)
            obtain ⟨hW_w_26, hs_w_26⟩ := hw_w_26
            refine lv_iload hx hb dX9_turn_109 (lv_at hl 0 rfl) ?_
            refine lv_istore_n (lv' := [(1, .int v_25), (4, .int v_25), (3, .int (fI w 81 13)), (0, .ref (q 81)), (2, .int x7_2)]) hx hb dX9_turn_111 rfl hl (by decide) rfl (fun ls hl => ?_)
            refine lv_iload_n hx hb dX9_turn_112 rfl (lv_at hl 0 rfl) ?_
            refine lv_aload_n hx hb dX9_turn_113 rfl (lv_at hl 3 rfl) ?_
            refine gt_X9 hx hb hts hown hK hP 81 (hW_w_26.o tX_81) 2 (by decide) wd_513 rfl (hW_w_26.fi tX_81 rfl) dX9_turn_114 ?_
            refine tov (v := (fI w 81 2)) ((hs_w_26.gI (by decide)).trans ((hs_w_19.gI (by decide)).trans (hM_w7.gI (by decide)))) ?_
            refine lv_icmp_ne (tgt := 121) hx hb dX9_turn_117 (by decide) (fun c_28 => ?_) (fun c_28 => ?_)
            · refine lv_iinc (v := (x7_2 + 1)) (lv' := [(2, .int (x7_2 + 1)), (1, .int v_25), (4, .int v_25), (3, .int (fI w 81 13)), (0, .ref (q 81))]) hx hb dX9_turn_121 hl (k := 4) rfl (rfl) (by decide) rfl (fun ls hl => ?_)
              refine lv_goto (tgt := 7) hx hb dX9_turn_124 (by decide) ?_
              exact ih7 v_25 (x7_2 + 1) w_26 _ _ ls (mu_inc hmu7 (R_nle_r (In_lit (n := 1000000) (by decide) (by decide) : In 1000000 1000000 1000000) i_x7_2 c_1 (by decide) : In 0 999999 x7_2) (In_lit (n := 1) (by decide) (by decide) : In 1 1 1) (by decide)) hW_w_26 ((hM_w7.tr hs_w_19 (by decide)).tr hs_w_26 (by decide)) (by have q := LF_v_25.1; have z := (In_of ev_25 (hW_w_19.ap tX_86 _) : In (-2) 39 v_25); unfold In at z ⊢; omega : In 0 39 v_25) (In_w ((In_add (y := 1) (R_nle_r (In_lit (n := 1000000) (by decide) (by decide) : In 1000000 1000000 1000000) i_x7_2 c_1 (by decide) : In 0 999999 x7_2) (In_lit (n := 1) (by decide) (by decide) : In 1 1 1) (by decide)) : In 1 1000000 (x7_2 + 1)) (by decide) : In 0 1000000 (x7_2 + 1)) (In_of ((hs_w_26.gI (by decide)).trans ((hs_w_19.gI (by decide)).trans (hM_w7.gI (by decide)))) (In_of (hM_w7.gI (by decide)).symm g7_64_0)) (In_of ((hs_w_26.gI (by decide)).trans ((hs_w_19.gI (by decide)).trans (hM_w7.gI (by decide)))) (In_of (hM_w7.gI (by decide)).symm g7_64_1)) (In_of ((hs_w_26.gI (by decide)).trans ((hs_w_19.gI (by decide)).trans (hM_w7.gI (by decide)))) (In_of (hM_w7.gI (by decide)).symm g7_64_2)) (LF_v_25.2.resolve_left c_28) hP hD hS (lv_sub hl [4, 1, 0] rfl)
            · exact hret _ _ _ _ _ hP hD hS dX9_turn_120 ⟨hW_w_26, ((hM_w7.tr hs_w_19 (by decide)).tr hs_w_26 (by decide))⟩
  refine lv_aload_n hx hb dX9_turn_0 rfl (lv_at hl 0 rfl) ?_
  refine gt_X9 hx hb hts hown hK hP 81 (hW_w.o tX_81) 2 (by decide) wd_513 rfl (hW_w.fi tX_81 rfl) dX9_turn_1 ?_
  refine lv_istore_n (lv' := [(1, .int (fI w 81 2)), (0, .ref (q 81))]) hx hb dX9_turn_4 rfl hl (by decide) rfl (fun ls hl => ?_)
  refine lv_iconst (v := 0) hx hb dX9_turn_5 (by decide) ?_
  refine lv_istore_n (lv' := [(2, .int 0), (1, .int (fI w 81 2)), (0, .ref (q 81))]) hx hb dX9_turn_6 rfl hl (by decide) rfl (fun ls hl => ?_)
  exact J7 _ (fI w 81 2) 0 w _ _ ls (Nat.lt_succ_self _) hW_w Sm.rf (hW_w.fin tX_81 rfl : In 0 39 (fI w 81 2)) (In_lit (n := 0) (by decide) (by decide) : In 0 1000000 0) hf_64_0 hf_64_1 hf_64_2 hg hP hD hS (lv_sub hl [2, 1, 0] rfl)
set_option maxRecDepth 100000 in
set_option maxHeartbeats 8000000 in
theorem k_X9_rankRow (l : Launch) (D : va_G) (cI cJ cZ : ClassId) (q : Nat → Nat) (bb bs bp : Nat) (w : va_W) (hW_w : HT q (TX q cI cJ cZ bb bs bp) w) (p1 : Int32) (i_p1 : In 0 39 p1) (hf_64_1 : In 1 40 (fI w 64 1)) (hf_64_2 : In 1 24 (fI w 64 2)) (hFL : FL w) (b : Int) (hbb : b + 11 ≤ 2147483647) (hSB : SB b w) (hpr : p1.toInt < (fI w 64 1).toInt) : Con_v l yX9_rankRow cX9_rankRow 3 none ({ frames := 5, cells := 0, slots := 0, locals := 122 }) D cI cJ cZ eW [.ref (q 81), .int p1] w (fun (w1 : va_W) => HT q (TX q cI cJ cZ bb bs bp) w1 ∧ Sm [70, 71, 73, 81, 82, 83, 84, 85, 86, 87] [(81, 2), (81, 4), (81, 10), (81, 11), (81, 12), (81, 13), (81, 14), (81, 15)] w w1 ∧ (SB (b + 11) w1)) := by
  refine eQ_v rfl (by decide) (Nat.le_of_ble_eq_true rfl) ⟨rfl, rfl⟩ ?_
  intro p e R s m args below meth c A Q hx hb hml hown hts hK hE hA hR hret hP hD hS ls hl
  have hown : s.vm.findClass RX9 = some m.cls := hown
  have hl : lv_has ls 3 [(0, .ref (q 81)), (1, .int p1)] := hl
  have J89 : ∀ (x89_2 : Int32) (w89 : va_W) (H : Heap) (locs : List Loc) (ls : Array Slot), HT q (TX q cI cJ cZ bb bs bp) w89 → Sm [70, 71, 73, 81, 82, 83, 84, 85, 86, 87] [(81, 2), (81, 4), (81, 10), (81, 11), (81, 12), (81, 13), (81, 14), (81, 15)] w w89 → (In 0 39 p1) → (In 0 10 x89_2) → (In 1 40 (fI w89 64 1)) → (In 1 24 (fI w89 64 2)) → (fI w89 81 2 = p1) → (In 0 39 p1) → (RI w89 ∧ SB (b + 1 + (x89_2 : Int32).toInt) w89) → va_P D vwCl w89 H → va_D A w89 → va_S A s.heap H locs → lv_has ls 3 [(0, .ref (q 81)), (1, .int p1), (2, .int x89_2)] → W p l e R s m args below meth c H locs 0 0 Q (F0 m 89 ls []) := by
    intro x89_2 w89 H locs ls hW_w89 hM_w89 i_x89_1 i_x89_2 g89_64_1 g89_64_2 g89_81_2e g89_81_2 hk_89 hP hD hS hl
    refine lv_aload_n hx hb dX9_rankRow_89 rfl (lv_at hl 0 rfl) ?_
    refine gt_X9 hx hb hts hown hK hP 81 (hW_w89.o tX_81) 3 (by decide) wd_514 rfl (hW_w89.fr tX_81 rfl) dX9_rankRow_90 ?_
    refine lv_iload_n hx hb dX9_rankRow_93 rfl (lv_at hl 1 rfl) ?_
    refine lv_iconst (v := 1) hx hb dX9_rankRow_94 (by decide) ?_
    refine lv_aload_n hx hb dX9_rankRow_95 rfl (lv_at hl 0 rfl) ?_
    refine gt_X9 hx hb hts hown hK hP 81 (hW_w89.o tX_81) 0 (by decide) wd_511 rfl (hW_w89.fr tX_81 rfl) dX9_rankRow_96 ?_
    refine gt_X3 hx hb hts hown hK hP 64 (hW_w89.o tX_64) 0 (by decide) wd_401 rfl (hW_w89.fi tX_64 rfl) dX9_rankRow_99 ?_
    refine tov (v := (fI w 64 0)) (hM_w89.gI (by decide)) ?_
    refine lv_ishl hx hb dX9_rankRow_102 ?_
    refine lv_topi (fun v_1 ev_1 => ?_)
    refine lv_iconst (v := 1) hx hb dX9_rankRow_103 (by decide) ?_
    refine lv_isub hx hb dX9_rankRow_104 ?_
    refine va_iast hx hb hK hP hD hS 82 0 (hW_w89.a tX_82) rfl (in_I i_p1 (by decide)) dX9_rankRow_105 (fun H locs hP hD hS => fr_w (hW_w89.uA tX_82 (In_any _)) hP hD (fun w_2 ew_2 hW_w_2 hP hD => ?_))
    exact hret _ _ _ _ _ hP hD hS dX9_rankRow_106 ⟨hW_w_2, (hM_w89.sa ew_2 (by decide)), (SB_w (SB_cg (aF_cg (st_ne ew_2 (by decide))) (aF_cg (st_ne ew_2 (by decide))) (fI_cg (st_ne ew_2 (by decide))) hk_89.2) (by have q := i_x89_2; unfold In at q; omega))⟩
  have J11 : ∀ (N : Nat) (x11_2 : Int32) (w11 : va_W) (H : Heap) (locs : List Loc) (ls : Array Slot), (10 - x11_2.toInt).toNat < N → HT q (TX q cI cJ cZ bb bs bp) w11 → Sm [70, 71, 73, 81, 82, 83, 84, 85, 86, 87] [(81, 2), (81, 4), (81, 10), (81, 11), (81, 12), (81, 13), (81, 14), (81, 15)] w w11 → (In 0 39 p1) → (In 0 10 x11_2) → (In 1 40 (fI w11 64 1)) → (In 1 24 (fI w11 64 2)) → (fI w11 81 2 = p1) → (In 0 39 p1) → (RI w11 ∧ SB (b + 1 + (x11_2 : Int32).toInt) w11) → va_P D vwCl w11 H → va_D A w11 → va_S A s.heap H locs → lv_has ls 3 [(0, .ref (q 81)), (1, .int p1), (2, .int x11_2)] → W p l e R s m args below meth c H locs 0 0 Q (F0 m 11 ls []) := by
    intro N
    induction N with
    | zero => intro x11_2 w11 H locs ls hmu; exact absurd hmu (Nat.not_lt_zero _)
    | succ N ih11 =>
      intro x11_2 w11 H locs ls hmu11 hW_w11 hM_w11 i_x11_1 i_x11_2 g11_64_1 g11_64_2 g11_81_2e g11_81_2 hk_11 hP hD hS hl
      have J83 : ∀ (w83 : va_W) (H : Heap) (locs : List Loc) (ls : Array Slot), HT q (TX q cI cJ cZ bb bs bp) w83 → Sm [70, 71, 73, 81, 82, 83, 84, 85, 86, 87] [(81, 2), (81, 4), (81, 10), (81, 11), (81, 12), (81, 13), (81, 14), (81, 15)] w w83 → (In 0 39 p1) → (In 0 9 x11_2) → (In 1 10 (fI w83 64 0)) → (In 1 40 (fI w83 64 1)) → (In 1 24 (fI w83 64 2)) → (fI w83 81 2 = p1) → (In 0 39 p1) → (RI w83 ∧ SB (b + 2 + (x11_2 : Int32).toInt) w83) → va_P D vwCl w83 H → va_D A w83 → va_S A s.heap H locs → lv_has ls 3 [(0, .ref (q 81)), (1, .int p1), (2, .int x11_2)] → W p l e R s m args below meth c H locs 0 0 Q (F0 m 83 ls []) := by
        intro w83 H locs ls hW_w83 hM_w83 i_x83_1 i_x83_2 g83_64_0 g83_64_1 g83_64_2 g83_81_2e g83_81_2 hk_83 hP hD hS hl
        refine lv_iinc (v := (x11_2 + 1)) (lv' := [(2, .int (x11_2 + 1)), (0, .ref (q 81)), (1, .int p1)]) hx hb dX9_rankRow_83 hl (k := 2) rfl (rfl) (by decide) rfl (fun ls hl => ?_)
        refine lv_goto (tgt := 11) hx hb dX9_rankRow_86 (by decide) ?_
        exact ih11 (x11_2 + 1) w83 _ _ ls (mu_inc hmu11 i_x83_2 (In_lit (n := 1) (by decide) (by decide) : In 1 1 1) (by decide)) hW_w83 hM_w83 i_p1 (In_w ((In_add (y := 1) i_x83_2 (In_lit (n := 1) (by decide) (by decide) : In 1 1 1) (by decide)) : In 1 10 (x11_2 + 1)) (by decide) : In 0 10 (x11_2 + 1)) (In_of (hM_w83.gI (by decide)) (In_of (hM_w83.gI (by decide)).symm g83_64_1)) (In_of (hM_w83.gI (by decide)) (In_of (hM_w83.gI (by decide)).symm g83_64_2)) g83_81_2e i_p1 ⟨hk_83.1, SB_w hk_83.2 (by have t11 := t_add i_x83_2 (In_lit (n := 1) (by decide) (by decide) : In 1 1 1) (by decide); have z1 : (1 : Int32).toInt = 1 := (by decide); omega)⟩ hP hD hS (lv_sub hl [1, 2, 0] rfl)
      refine lv_iload_n hx hb dX9_rankRow_11 rfl (lv_at hl 2 rfl) ?_
      refine lv_aload_n hx hb dX9_rankRow_12 rfl (lv_at hl 0 rfl) ?_
      refine gt_X9 hx hb hts hown hK hP 81 (hW_w11.o tX_81) 0 (by decide) wd_511 rfl (hW_w11.fr tX_81 rfl) dX9_rankRow_13 ?_
      refine gt_X3 hx hb hts hown hK hP 64 (hW_w11.o tX_64) 0 (by decide) wd_401 rfl (hW_w11.fi tX_64 rfl) dX9_rankRow_16 ?_
      refine tov (v := (fI w 64 0)) (hM_w11.gI (by decide)) ?_
      refine lv_icmp_ge (tgt := 89) hx hb dX9_rankRow_19 (by decide) (fun c_3 => ?_) (fun c_3 => ?_)
      · exact J89 x11_2 w11 _ _ ls hW_w11 hM_w11 i_p1 i_x11_2 (In_of (hM_w11.gI (by decide)) (In_of (hM_w11.gI (by decide)).symm g11_64_1)) (In_of (hM_w11.gI (by decide)) (In_of (hM_w11.gI (by decide)).symm g11_64_2)) g11_81_2e i_p1 ⟨hk_11.1, SB_w hk_11.2 (by omega)⟩ hP hD hS (lv_sub hl [0, 1, 2] rfl)
      · refine lv_aload_n hx hb dX9_rankRow_22 rfl (lv_at hl 0 rfl) ?_
        refine lv_iload_n hx hb dX9_rankRow_23 rfl (lv_at hl 1 rfl) ?_
        refine kW_i ⟨rfl, rfl⟩ hP hD hS hA (rW_V (As := [.int p1]) (rest := []) hx hb hml hown hts hK hE hP hD (k_X9_canChange l D cI cJ cZ q bb bs bp w11 hW_w11 p1 i_p1 (In_of (hM_w11.gI (by decide)) (R_nle_l (hW_w.fin tX_64 rfl : In 0 10 (fI w 64 0)) i_x11_2 c_3 (by decide) : In 1 10 (fI w 64 0))) (In_of (hM_w11.gI (by decide)) (In_of (hM_w11.gI (by decide)).symm g11_64_1)) (In_of (hM_w11.gI (by decide)) (In_of (hM_w11.gI (by decide)).symm g11_64_2)) _) ⟨⟨rfl, rfl⟩, rfl, rfl⟩ sv_X9_73 ⟨(Nat.le_trans (by decide) hR.1), (Nat.le_trans (by decide) hR.2)⟩ 81 9 (hW_w11.o tX_81) rfl rfl rfl hl.1 rfl (Nat.le_of_ble_eq_true rfl) dX9_rankRow_24) (fun r_5 w_4 H locs hw_w_4 hP hD hS => ?_)
        obtain ⟨hW_w_4, hs_w_4, i_r_5⟩ := hw_w_4
        refine lv_if_eq (tgt := 89) hx hb dX9_rankRow_27 (by decide) (fun c_6 => ?_) (fun c_6 => ?_)
        · exact J89 x11_2 w_4 _ _ ls hW_w_4 (hM_w11.tr hs_w_4 (by decide)) i_p1 (In_w (R_nle_r (hW_w.fin tX_64 rfl : In 0 10 (fI w 64 0)) i_x11_2 c_3 (by decide) : In 0 9 x11_2) (by decide) : In 0 10 x11_2) (In_of ((hs_w_4.gI (by decide)).trans (hM_w11.gI (by decide))) (In_of (hM_w11.gI (by decide)).symm g11_64_1)) (In_of ((hs_w_4.gI (by decide)).trans (hM_w11.gI (by decide))) (In_of (hM_w11.gI (by decide)).symm g11_64_2)) ((hs_w_4.gI (by decide)).trans g11_81_2e) i_p1 ⟨(RI_cg ⟨(hs_w_4.hA (by decide)), (hs_w_4.hA (by decide)), (hs_w_4.hA (by decide)), (hs_w_4.hA (by decide)), (hs_w_4.hA (by decide)), (hs_w_4.hA (by decide)), (hs_w_4.gI (by decide)), (hs_w_4.gI (by decide)), (hs_w_4.gI (by decide)), (hs_w_4.gI (by decide)), (hs_w_4.gI (by decide)), (hs_w_4.gI (by decide)), (hs_w_4.gI (by decide))⟩ hk_11.1), SB_w (SB_cg (hs_w_4.hA (by decide)) (hs_w_4.hA (by decide)) (hs_w_4.gI (by decide)) hk_11.2) (by omega)⟩ hP hD hS (lv_sub hl [0, 1, 2] rfl)
        · refine lv_aload_n hx hb dX9_rankRow_30 rfl (lv_at hl 0 rfl) ?_
          refine gt_X9 hx hb hts hown hK hP 81 (hW_w_4.o tX_81) 3 (by decide) wd_514 rfl (hW_w_4.fr tX_81 rfl) dX9_rankRow_31 ?_
          refine lv_iload_n hx hb dX9_rankRow_34 rfl (lv_at hl 1 rfl) ?_
          refine lv_dup2_11 hx hb dX9_rankRow_35 rfl rfl ?_
          refine va_iald hx hb hK hP 82 0 (hW_w_4.a tX_82) rfl (in_I i_p1 (by decide)) dX9_rankRow_36 ?_
          refine lv_topi (fun v_7 ev_7 => ?_)
          refine lv_iconst (v := 1) hx hb dX9_rankRow_37 (by decide) ?_
          refine lv_iload_n hx hb dX9_rankRow_38 rfl (lv_at hl 2 rfl) ?_
          refine lv_ishl hx hb dX9_rankRow_39 ?_
          refine lv_topi (fun v_8 ev_8 => ?_)
          refine lv_ior hx hb dX9_rankRow_40 ?_
          refine lv_topi (fun v_9 ev_9 => ?_)
          refine va_iast hx hb hK hP hD hS 82 0 (hW_w_4.a tX_82) rfl (in_I i_p1 (by decide)) dX9_rankRow_41 (fun H locs hP hD hS => fr_w (hW_w_4.uA tX_82 (In_any _)) hP hD (fun w_10 ew_10 hW_w_10 hP hD => ?_))
          refine lv_aload_n hx hb dX9_rankRow_42 rfl (lv_at hl 0 rfl) ?_
          refine gt_X9 hx hb hts hown hK hP 81 (hW_w_10.o tX_81) 0 (by decide) wd_511 rfl (hW_w_10.fr tX_81 rfl) dX9_rankRow_43 ?_
          refine gt_X3 hx hb hts hown hK hP 64 (hW_w_10.o tX_64) 8 (by decide) wd_427 rfl (hW_w_10.fr tX_64 rfl) dX9_rankRow_46 ?_
          refine lv_iload_n hx hb dX9_rankRow_49 rfl (lv_at hl 1 rfl) ?_
          refine va_iald hx hb hK hP 70 0 (hW_w_10.a tX_70) rfl (in_I i_p1 (by decide)) dX9_rankRow_50 ?_
          refine lv_topi (fun v_11 ev_11 => ?_)
          refine lv_iload_n hx hb dX9_rankRow_51 rfl (lv_at hl 2 rfl) ?_
          refine lv_ishr hx hb dX9_rankRow_52 ?_
          refine lv_topi (fun v_12 ev_12 => ?_)
          refine lv_iconst (v := 1) hx hb dX9_rankRow_53 (by decide) ?_
          refine lv_iand hx hb dX9_rankRow_54 ?_
          refine lv_if_ne (tgt := 83) hx hb dX9_rankRow_55 (by decide) (fun c_13 => ?_) (fun c_13 => ?_)
          · exact J83 w_10 _ _ ls hW_w_10 ((hM_w11.tr hs_w_4 (by decide)).sa ew_10 (by decide)) i_p1 (R_nle_r (hW_w.fin tX_64 rfl : In 0 10 (fI w 64 0)) i_x11_2 c_3 (by decide) : In 0 9 x11_2) (In_of ((fI_cg (st_ne ew_10 (by decide))).trans ((hs_w_4.gI (by decide)).trans (hM_w11.gI (by decide)))) (R_nle_l (hW_w.fin tX_64 rfl : In 0 10 (fI w 64 0)) i_x11_2 c_3 (by decide) : In 1 10 (fI w 64 0))) (In_of ((fI_cg (st_ne ew_10 (by decide))).trans ((hs_w_4.gI (by decide)).trans (hM_w11.gI (by decide)))) (In_of (hM_w11.gI (by decide)).symm g11_64_1)) (In_of ((fI_cg (st_ne ew_10 (by decide))).trans ((hs_w_4.gI (by decide)).trans (hM_w11.gI (by decide)))) (In_of (hM_w11.gI (by decide)).symm g11_64_2)) ((fI_cg (st_ne ew_10 (by decide))).trans ((hs_w_4.gI (by decide)).trans g11_81_2e)) i_p1 ⟨(RI_cg ⟨((aF_cg (st_ne ew_10 (by decide))).trans (hs_w_4.hA (by decide))), ((aF_cg (st_ne ew_10 (by decide))).trans (hs_w_4.hA (by decide))), ((aF_cg (st_ne ew_10 (by decide))).trans (hs_w_4.hA (by decide))), ((aF_cg (st_ne ew_10 (by decide))).trans (hs_w_4.hA (by decide))), ((aF_cg (st_ne ew_10 (by decide))).trans (hs_w_4.hA (by decide))), ((aF_cg (st_ne ew_10 (by decide))).trans (hs_w_4.hA (by decide))), ((fI_cg (st_ne ew_10 (by decide))).trans (hs_w_4.gI (by decide))), ((fI_cg (st_ne ew_10 (by decide))).trans (hs_w_4.gI (by decide))), ((fI_cg (st_ne ew_10 (by decide))).trans (hs_w_4.gI (by decide))), ((fI_cg (st_ne ew_10 (by decide))).trans (hs_w_4.gI (by decide))), ((fI_cg (st_ne ew_10 (by decide))).trans (hs_w_4.gI (by decide))), ((fI_cg (st_ne ew_10 (by decide))).trans (hs_w_4.gI (by decide))), ((fI_cg (st_ne ew_10 (by decide))).trans (hs_w_4.gI (by decide)))⟩ hk_11.1), SB_w (SB_cg ((aF_cg (st_ne ew_10 (by decide))).trans (hs_w_4.hA (by decide))) ((aF_cg (st_ne ew_10 (by decide))).trans (hs_w_4.hA (by decide))) ((fI_cg (st_ne ew_10 (by decide))).trans (hs_w_4.gI (by decide))) hk_11.2) (by omega)⟩ hP hD hS (lv_sub hl [0, 1, 2] rfl)
          · refine lv_aload_n hx hb dX9_rankRow_58 rfl (lv_at hl 0 rfl) ?_
            refine lv_iload_n hx hb dX9_rankRow_59 rfl (lv_at hl 1 rfl) ?_
            refine lv_iload_n hx hb dX9_rankRow_60 rfl (lv_at hl 2 rfl) ?_
            refine kW_i ⟨rfl, rfl⟩ hP hD hS hA (rW_V (As := [.int p1, .int x11_2]) (rest := []) hx hb hml hown hts hK hE hP hD (k_X9_mayTake l D cI cJ cZ q bb bs bp w_10 hW_w_10 p1 x11_2 i_p1 (R_nle_r (hW_w.fin tX_64 rfl : In 0 10 (fI w 64 0)) i_x11_2 c_3 (by decide) : In 0 9 x11_2) (In_of ((fI_cg (st_ne ew_10 (by decide))).trans ((hs_w_4.gI (by decide)).trans (hM_w11.gI (by decide)))) (R_nle_l (hW_w.fin tX_64 rfl : In 0 10 (fI w 64 0)) i_x11_2 c_3 (by decide) : In 1 10 (fI w 64 0))) (In_of ((fI_cg (st_ne ew_10 (by decide))).trans ((hs_w_4.gI (by decide)).trans (hM_w11.gI (by decide)))) (In_of (hM_w11.gI (by decide)).symm g11_64_1)) (In_of ((fI_cg (st_ne ew_10 (by decide))).trans ((hs_w_4.gI (by decide)).trans (hM_w11.gI (by decide)))) (In_of (hM_w11.gI (by decide)).symm g11_64_2)) _) ⟨⟨rfl, rfl⟩, rfl, rfl⟩ sv_X9_80 ⟨(Nat.le_trans (by decide) hR.1), (Nat.le_trans (by decide) hR.2)⟩ 81 9 (hW_w_10.o tX_81) rfl rfl rfl hl.1 rfl (Nat.le_of_ble_eq_true rfl) dX9_rankRow_61) (fun r_15 w_14 H locs hw_w_14 hP hD hS => ?_)
            obtain ⟨hW_w_14, hs_w_14, i_r_15⟩ := hw_w_14
            refine lv_if_eq (tgt := 83) hx hb dX9_rankRow_64 (by decide) (fun c_16 => ?_) (fun c_16 => ?_)
            · exact J83 w_14 _ _ ls hW_w_14 (((hM_w11.tr hs_w_4 (by decide)).sa ew_10 (by decide)).tr hs_w_14 (by decide)) i_p1 (R_nle_r (hW_w.fin tX_64 rfl : In 0 10 (fI w 64 0)) i_x11_2 c_3 (by decide) : In 0 9 x11_2) (In_of ((hs_w_14.gI (by decide)).trans ((fI_cg (st_ne ew_10 (by decide))).trans ((hs_w_4.gI (by decide)).trans (hM_w11.gI (by decide))))) (R_nle_l (hW_w.fin tX_64 rfl : In 0 10 (fI w 64 0)) i_x11_2 c_3 (by decide) : In 1 10 (fI w 64 0))) (In_of ((hs_w_14.gI (by decide)).trans ((fI_cg (st_ne ew_10 (by decide))).trans ((hs_w_4.gI (by decide)).trans (hM_w11.gI (by decide))))) (In_of (hM_w11.gI (by decide)).symm g11_64_1)) (In_of ((hs_w_14.gI (by decide)).trans ((fI_cg (st_ne ew_10 (by decide))).trans ((hs_w_4.gI (by decide)).trans (hM_w11.gI (by decide))))) (In_of (hM_w11.gI (by decide)).symm g11_64_2)) ((hs_w_14.gI (by decide)).trans ((fI_cg (st_ne ew_10 (by decide))).trans ((hs_w_4.gI (by decide)).trans g11_81_2e))) i_p1 ⟨(RI_cg ⟨((hs_w_14.hA (by decide)).trans ((aF_cg (st_ne ew_10 (by decide))).trans (hs_w_4.hA (by decide)))), ((hs_w_14.hA (by decide)).trans ((aF_cg (st_ne ew_10 (by decide))).trans (hs_w_4.hA (by decide)))), ((hs_w_14.hA (by decide)).trans ((aF_cg (st_ne ew_10 (by decide))).trans (hs_w_4.hA (by decide)))), ((hs_w_14.hA (by decide)).trans ((aF_cg (st_ne ew_10 (by decide))).trans (hs_w_4.hA (by decide)))), ((hs_w_14.hA (by decide)).trans ((aF_cg (st_ne ew_10 (by decide))).trans (hs_w_4.hA (by decide)))), ((hs_w_14.hA (by decide)).trans ((aF_cg (st_ne ew_10 (by decide))).trans (hs_w_4.hA (by decide)))), ((hs_w_14.gI (by decide)).trans ((fI_cg (st_ne ew_10 (by decide))).trans (hs_w_4.gI (by decide)))), ((hs_w_14.gI (by decide)).trans ((fI_cg (st_ne ew_10 (by decide))).trans (hs_w_4.gI (by decide)))), ((hs_w_14.gI (by decide)).trans ((fI_cg (st_ne ew_10 (by decide))).trans (hs_w_4.gI (by decide)))), ((hs_w_14.gI (by decide)).trans ((fI_cg (st_ne ew_10 (by decide))).trans (hs_w_4.gI (by decide)))), ((hs_w_14.gI (by decide)).trans ((fI_cg (st_ne ew_10 (by decide))).trans (hs_w_4.gI (by decide)))), ((hs_w_14.gI (by decide)).trans ((fI_cg (st_ne ew_10 (by decide))).trans (hs_w_4.gI (by decide)))), ((hs_w_14.gI (by decide)).trans ((fI_cg (st_ne ew_10 (by decide))).trans (hs_w_4.gI (by decide))))⟩ hk_11.1), SB_w (SB_cg ((hs_w_14.hA (by decide)).trans ((aF_cg (st_ne ew_10 (by decide))).trans (hs_w_4.hA (by decide)))) ((hs_w_14.hA (by decide)).trans ((aF_cg (st_ne ew_10 (by decide))).trans (hs_w_4.hA (by decide)))) ((hs_w_14.gI (by decide)).trans ((fI_cg (st_ne ew_10 (by decide))).trans (hs_w_4.gI (by decide)))) hk_11.2) (by omega)⟩ hP hD hS (lv_sub hl [0, 1, 2] rfl)
            · refine lv_aload_n hx hb dX9_rankRow_67 rfl (lv_at hl 0 rfl) ?_
              refine lv_iload_n hx hb dX9_rankRow_68 rfl (lv_at hl 2 rfl) ?_
              refine kW_i ⟨rfl, rfl⟩ hP hD hS hA (rW_V (As := [.int x11_2]) (rest := []) hx hb hml hown hts hK hE hP hD (k_X9_finds l D cI cJ cZ q bb bs bp w_14 hW_w_14 x11_2 (R_nle_r (hW_w.fin tX_64 rfl : In 0 10 (fI w 64 0)) i_x11_2 c_3 (by decide) : In 0 9 x11_2) (In_of ((hs_w_14.gI (by decide)).trans ((fI_cg (st_ne ew_10 (by decide))).trans ((hs_w_4.gI (by decide)).trans (hM_w11.gI (by decide))))) (R_nle_l (hW_w.fin tX_64 rfl : In 0 10 (fI w 64 0)) i_x11_2 c_3 (by decide) : In 1 10 (fI w 64 0))) (In_of ((hs_w_14.gI (by decide)).trans ((fI_cg (st_ne ew_10 (by decide))).trans ((hs_w_4.gI (by decide)).trans (hM_w11.gI (by decide))))) (In_of (hM_w11.gI (by decide)).symm g11_64_1)) (In_of ((hs_w_14.gI (by decide)).trans ((fI_cg (st_ne ew_10 (by decide))).trans ((hs_w_4.gI (by decide)).trans (hM_w11.gI (by decide))))) (In_of (hM_w11.gI (by decide)).symm g11_64_2)) ((RI_cg ⟨((hs_w_14.hA (by decide)).trans ((aF_cg (st_ne ew_10 (by decide))).trans (hs_w_4.hA (by decide)))), ((hs_w_14.hA (by decide)).trans ((aF_cg (st_ne ew_10 (by decide))).trans (hs_w_4.hA (by decide)))), ((hs_w_14.hA (by decide)).trans ((aF_cg (st_ne ew_10 (by decide))).trans (hs_w_4.hA (by decide)))), ((hs_w_14.hA (by decide)).trans ((aF_cg (st_ne ew_10 (by decide))).trans (hs_w_4.hA (by decide)))), ((hs_w_14.hA (by decide)).trans ((aF_cg (st_ne ew_10 (by decide))).trans (hs_w_4.hA (by decide)))), ((hs_w_14.hA (by decide)).trans ((aF_cg (st_ne ew_10 (by decide))).trans (hs_w_4.hA (by decide)))), ((hs_w_14.gI (by decide)).trans ((fI_cg (st_ne ew_10 (by decide))).trans (hs_w_4.gI (by decide)))), ((hs_w_14.gI (by decide)).trans ((fI_cg (st_ne ew_10 (by decide))).trans (hs_w_4.gI (by decide)))), ((hs_w_14.gI (by decide)).trans ((fI_cg (st_ne ew_10 (by decide))).trans (hs_w_4.gI (by decide)))), ((hs_w_14.gI (by decide)).trans ((fI_cg (st_ne ew_10 (by decide))).trans (hs_w_4.gI (by decide)))), ((hs_w_14.gI (by decide)).trans ((fI_cg (st_ne ew_10 (by decide))).trans (hs_w_4.gI (by decide)))), ((hs_w_14.gI (by decide)).trans ((fI_cg (st_ne ew_10 (by decide))).trans (hs_w_4.gI (by decide)))), ((hs_w_14.gI (by decide)).trans ((fI_cg (st_ne ew_10 (by decide))).trans (hs_w_4.gI (by decide))))⟩ hk_11.1)) (FL_cg ((hs_w_14.gI (by decide)).trans ((fI_cg (st_ne ew_10 (by decide))).trans ((hs_w_4.gI (by decide)).trans (hM_w11.gI (by decide))))) ((hs_w_14.gI (by decide)).trans ((fI_cg (st_ne ew_10 (by decide))).trans ((hs_w_4.gI (by decide)).trans (hM_w11.gI (by decide))))) ((hs_w_14.hA (by decide)).trans ((aF_cg (st_ne ew_10 (by decide))).trans ((hs_w_4.hA (by decide)).trans (hM_w11.hA (by decide))))) ((hs_w_14.hA (by decide)).trans ((aF_cg (st_ne ew_10 (by decide))).trans ((hs_w_4.hA (by decide)).trans (hM_w11.hA (by decide))))) ((hs_w_14.hA (by decide)).trans ((aF_cg (st_ne ew_10 (by decide))).trans ((hs_w_4.hA (by decide)).trans (hM_w11.hA (by decide))))) hFL) ((by have e0 : (fI w_14 81 2).toInt = (p1 : Int32).toInt := congrArg Int32.toInt ((hs_w_14.gI (by decide)).trans ((fI_cg (st_ne ew_10 (by decide))).trans ((hs_w_4.gI (by decide)).trans g11_81_2e))); have e : (fI w_14 64 1).toInt = (fI w 64 1).toInt := congrArg Int32.toInt ((hs_w_14.gI (by decide)).trans ((fI_cg (st_ne ew_10 (by decide))).trans ((hs_w_4.gI (by decide)).trans (hM_w11.gI (by decide))))); omega)) _) ⟨⟨rfl, rfl⟩, rfl, rfl⟩ sv_X9_84 ⟨(Nat.le_trans (by decide) hR.1), (Nat.le_trans (by decide) hR.2)⟩ 81 9 (hW_w_14.o tX_81) rfl rfl rfl hl.1 rfl (Nat.le_of_ble_eq_true rfl) dX9_rankRow_69) (fun r_18 w_17 H locs hw_w_17 hP hD hS => ?_)
              obtain ⟨hW_w_17, hs_w_17, i_r_18, h_19, h_20⟩ := hw_w_17
              refine lv_if_eq (tgt := 83) hx hb dX9_rankRow_72 (by decide) (fun c_21 => ?_) (fun c_21 => ?_)
              · exact J83 w_17 _ _ ls hW_w_17 ((((hM_w11.tr hs_w_4 (by decide)).sa ew_10 (by decide)).tr hs_w_14 (by decide)).tr hs_w_17 (by decide)) i_p1 (R_nle_r (hW_w.fin tX_64 rfl : In 0 10 (fI w 64 0)) i_x11_2 c_3 (by decide) : In 0 9 x11_2) (In_of ((hs_w_17.gI (by decide)).trans ((hs_w_14.gI (by decide)).trans ((fI_cg (st_ne ew_10 (by decide))).trans ((hs_w_4.gI (by decide)).trans (hM_w11.gI (by decide)))))) (R_nle_l (hW_w.fin tX_64 rfl : In 0 10 (fI w 64 0)) i_x11_2 c_3 (by decide) : In 1 10 (fI w 64 0))) (In_of ((hs_w_17.gI (by decide)).trans ((hs_w_14.gI (by decide)).trans ((fI_cg (st_ne ew_10 (by decide))).trans ((hs_w_4.gI (by decide)).trans (hM_w11.gI (by decide)))))) (In_of (hM_w11.gI (by decide)).symm g11_64_1)) (In_of ((hs_w_17.gI (by decide)).trans ((hs_w_14.gI (by decide)).trans ((fI_cg (st_ne ew_10 (by decide))).trans ((hs_w_4.gI (by decide)).trans (hM_w11.gI (by decide)))))) (In_of (hM_w11.gI (by decide)).symm g11_64_2)) ((hs_w_17.2 81 2 (by decide) (by decide)).trans ((hs_w_14.gI (by decide)).trans ((fI_cg (st_ne ew_10 (by decide))).trans ((hs_w_4.gI (by decide)).trans g11_81_2e)))) i_p1 ⟨h_19.1, SB_w (h_19.2.2.2.2.2 _ (SB_cg ((hs_w_14.hA (by decide)).trans ((aF_cg (st_ne ew_10 (by decide))).trans (hs_w_4.hA (by decide)))) ((hs_w_14.hA (by decide)).trans ((aF_cg (st_ne ew_10 (by decide))).trans (hs_w_4.hA (by decide)))) ((hs_w_14.gI (by decide)).trans ((fI_cg (st_ne ew_10 (by decide))).trans (hs_w_4.gI (by decide)))) hk_11.2)) (by omega)⟩ hP hD hS (lv_sub hl [0, 1, 2] rfl)
              · refine lv_aload_n hx hb dX9_rankRow_75 rfl (lv_at hl 0 rfl) ?_
                refine kW_v ⟨rfl, rfl⟩ hP hD hS hA (rW_V (As := []) (rest := []) hx hb hml hown hts hK hE hP hD (k_X9_turn l D cI cJ cZ q bb bs bp w_17 hW_w_17 (In_of ((hs_w_17.gI (by decide)).trans ((hs_w_14.gI (by decide)).trans ((fI_cg (st_ne ew_10 (by decide))).trans ((hs_w_4.gI (by decide)).trans (hM_w11.gI (by decide)))))) (R_nle_l (hW_w.fin tX_64 rfl : In 0 10 (fI w 64 0)) i_x11_2 c_3 (by decide) : In 1 10 (fI w 64 0))) (In_of ((hs_w_17.gI (by decide)).trans ((hs_w_14.gI (by decide)).trans ((fI_cg (st_ne ew_10 (by decide))).trans ((hs_w_4.gI (by decide)).trans (hM_w11.gI (by decide)))))) (In_of (hM_w11.gI (by decide)).symm g11_64_1)) (In_of ((hs_w_17.gI (by decide)).trans ((hs_w_14.gI (by decide)).trans ((fI_cg (st_ne ew_10 (by decide))).trans ((hs_w_4.gI (by decide)).trans (hM_w11.gI (by decide)))))) (In_of (hM_w11.gI (by decide)).symm g11_64_2)) (h_19.1) (h_20 c_21) _) ⟨⟨rfl, rfl⟩, rfl, rfl⟩ sv_X9_87 ⟨(Nat.le_trans (by decide) hR.1), (Nat.le_trans (by decide) hR.2)⟩ 81 9 (hW_w_17.o tX_81) rfl rfl rfl hl.1 rfl (Nat.le_of_ble_eq_true rfl) dX9_rankRow_76) (fun w_22 H locs hw_w_22 hP hD hS => ?_)
                obtain ⟨hW_w_22, hs_w_22⟩ := hw_w_22
                refine lv_aload_n hx hb dX9_rankRow_79 rfl (lv_at hl 0 rfl) ?_
                refine kW_v ⟨rfl, rfl⟩ hP hD hS hA (rW_V (As := []) (rest := []) hx hb hml hown hts hK hE hP hD (k_X9_freshSearch l D cI cJ cZ q bb bs bp w_22 hW_w_22 (In_of ((hs_w_22.gI (by decide)).trans ((hs_w_17.gI (by decide)).trans ((hs_w_14.gI (by decide)).trans ((fI_cg (st_ne ew_10 (by decide))).trans ((hs_w_4.gI (by decide)).trans (hM_w11.gI (by decide))))))) (In_of (hM_w11.gI (by decide)).symm g11_64_1)) (In_of ((hs_w_22.gI (by decide)).trans ((hs_w_17.gI (by decide)).trans ((hs_w_14.gI (by decide)).trans ((fI_cg (st_ne ew_10 (by decide))).trans ((hs_w_4.gI (by decide)).trans (hM_w11.gI (by decide))))))) (In_of (hM_w11.gI (by decide)).symm g11_64_2)) ((b + 1 + (x11_2 : Int32).toInt)) ((by have q := (R_nle_r (hW_w.fin tX_64 rfl : In 0 10 (fI w 64 0)) i_x11_2 c_3 (by decide) : In 0 9 x11_2); unfold In at q; omega)) ((SB_cg (hs_w_22.hA (by decide)) (hs_w_22.hA (by decide)) (hs_w_22.gI (by decide)) (h_19.2.2.2.2.2 _ (SB_cg ((hs_w_14.hA (by decide)).trans ((aF_cg (st_ne ew_10 (by decide))).trans (hs_w_4.hA (by decide)))) ((hs_w_14.hA (by decide)).trans ((aF_cg (st_ne ew_10 (by decide))).trans (hs_w_4.hA (by decide)))) ((hs_w_14.gI (by decide)).trans ((fI_cg (st_ne ew_10 (by decide))).trans (hs_w_4.gI (by decide)))) hk_11.2)))) _) ⟨⟨rfl, rfl⟩, rfl, rfl⟩ sv_X9_67 ⟨(Nat.le_trans (by decide) hR.1), (Nat.le_trans (by decide) hR.2)⟩ 81 9 (hW_w_22.o tX_81) rfl rfl rfl hl.1 rfl (Nat.le_of_ble_eq_true rfl) dX9_rankRow_80) (fun w_24 H locs hw_w_24 hP hD hS => ?_)
                obtain ⟨hW_w_24, hs_w_24, h_26, h_27, h_28⟩ := hw_w_24
                exact J83 w_24 _ _ ls hW_w_24 ((((((hM_w11.tr hs_w_4 (by decide)).sa ew_10 (by decide)).tr hs_w_14 (by decide)).tr hs_w_17 (by decide)).tr hs_w_22 (by decide)).tr hs_w_24 (by decide)) i_p1 (R_nle_r (hW_w.fin tX_64 rfl : In 0 10 (fI w 64 0)) i_x11_2 c_3 (by decide) : In 0 9 x11_2) (In_of ((hs_w_24.gI (by decide)).trans ((hs_w_22.gI (by decide)).trans ((hs_w_17.gI (by decide)).trans ((hs_w_14.gI (by decide)).trans ((fI_cg (st_ne ew_10 (by decide))).trans ((hs_w_4.gI (by decide)).trans (hM_w11.gI (by decide)))))))) (R_nle_l (hW_w.fin tX_64 rfl : In 0 10 (fI w 64 0)) i_x11_2 c_3 (by decide) : In 1 10 (fI w 64 0))) (In_of ((hs_w_24.gI (by decide)).trans ((hs_w_22.gI (by decide)).trans ((hs_w_17.gI (by decide)).trans ((hs_w_14.gI (by decide)).trans ((fI_cg (st_ne ew_10 (by decide))).trans ((hs_w_4.gI (by decide)).trans (hM_w11.gI (by decide)))))))) (In_of (hM_w11.gI (by decide)).symm g11_64_1)) (In_of ((hs_w_24.gI (by decide)).trans ((hs_w_22.gI (by decide)).trans ((hs_w_17.gI (by decide)).trans ((hs_w_14.gI (by decide)).trans ((fI_cg (st_ne ew_10 (by decide))).trans ((hs_w_4.gI (by decide)).trans (hM_w11.gI (by decide)))))))) (In_of (hM_w11.gI (by decide)).symm g11_64_2)) ((hs_w_24.2 81 2 (by decide) (by decide)).trans ((hs_w_22.gI (by decide)).trans ((hs_w_17.2 81 2 (by decide) (by decide)).trans ((hs_w_14.gI (by decide)).trans ((fI_cg (st_ne ew_10 (by decide))).trans ((hs_w_4.gI (by decide)).trans g11_81_2e)))))) i_p1 ⟨h_28.1, SB_w h_28.2 (by omega)⟩ hP hD hS (lv_sub hl [0, 1, 2] rfl)
  refine lv_aload_n hx hb dX9_rankRow_0 rfl (lv_at hl 0 rfl) ?_
  refine lv_iload_n hx hb dX9_rankRow_1 rfl (lv_at hl 1 rfl) ?_
  refine pt_X9 hx hb hts hown hK hP hD hS 81 (hW_w.o tX_81) 2 (by decide) wd_513 rfl rfl (ty := .int) (v := .int p1) (by decide +kernel) rfl rfl (hW_w.ll tX_81 (Nat.le_of_ble_eq_true rfl)) dX9_rankRow_2 (fun H locs hP hD hS => fr_w (hW_w.sI tX_81 rfl i_p1) hP hD (fun w_29 ew_29 hW_w_29 hP hD => ?_))
  refine lv_aload_n hx hb dX9_rankRow_5 rfl (lv_at hl 0 rfl) ?_
  refine kW_v ⟨rfl, rfl⟩ hP hD hS hA (rW_V (As := []) (rest := []) hx hb hml hown hts hK hE hP hD (k_X9_freshSearch l D cI cJ cZ q bb bs bp w_29 hW_w_29 (In_of (fI_cg (st_ne ew_29 (by decide))) hf_64_1) (In_of (fI_cg (st_ne ew_29 (by decide))) hf_64_2) (b) ((by skip; omega)) ((SB_cg (aF_cg (st_ne ew_29 (by decide))) (aF_cg (st_ne ew_29 (by decide))) (fI_nej (hW_w.lt tX_81) ew_29 (by decide)) hSB)) _) ⟨⟨rfl, rfl⟩, rfl, rfl⟩ sv_X9_67 ⟨(Nat.le_trans (by decide) hR.1), (Nat.le_trans (by decide) hR.2)⟩ 81 9 (hW_w_29.o tX_81) rfl rfl rfl hl.1 rfl (Nat.le_of_ble_eq_true rfl) dX9_rankRow_6) (fun w_30 H locs hw_w_30 hP hD hS => ?_)
  obtain ⟨hW_w_30, hs_w_30, h_32, h_33, h_34⟩ := hw_w_30
  refine lv_iconst (v := 0) hx hb dX9_rankRow_9 (by decide) ?_
  refine lv_istore_n (lv' := [(2, .int 0), (0, .ref (q 81)), (1, .int p1)]) hx hb dX9_rankRow_10 rfl hl (by decide) rfl (fun ls hl => ?_)
  exact J11 _ 0 w_30 _ _ ls (Nat.lt_succ_self _) hW_w_30 ((Sm.rf.sf (hW_w.lt tX_81) ew_29 (by decide)).tr hs_w_30 (by decide)) i_p1 (In_lit (n := 0) (by decide) (by decide) : In 0 10 0) (In_of ((hs_w_30.gI (by decide)).trans (fI_cg (st_ne ew_29 (by decide)))) hf_64_1) (In_of ((hs_w_30.gI (by decide)).trans (fI_cg (st_ne ew_29 (by decide)))) hf_64_2) ((hs_w_30.2 81 2 (by decide) (by decide)).trans (fI_eq (hW_w.lt tX_81) ew_29 (hW_w.ll tX_81 (Nat.le_of_ble_eq_true rfl)))) i_p1 ⟨h_34.1, SB_w h_34.2 (by have z0 : (0 : Int32).toInt = 0 := (by decide); omega)⟩ hP hD hS (lv_sub hl [1, 2, 0] rfl)
set_option maxRecDepth 100000 in
set_option maxHeartbeats 8000000 in
theorem k_X9_deal (l : Launch) (D : va_G) (cI cJ cZ : ClassId) (q : Nat → Nat) (bb bs bp : Nat) (w : va_W) (hW_w : HT q (TX q cI cJ cZ bb bs bp) w) (hSL : ¬ (fI w 64 1).toInt = 0 → 1 ≤ (fI w 64 2).toInt) (hFL : FL w) (b : Int) (hbb : b + 440 ≤ 2147483647) (hSB : SB b w) : Con_v l yX9_deal cX9_deal 2 none ({ frames := 6, cells := 0, slots := 0, locals := 147 }) D cI cJ cZ eW [.ref (q 81)] w (fun (w1 : va_W) => HT q (TX q cI cJ cZ bb bs bp) w1 ∧ Sm [70, 71, 73, 74, 75, 76, 77, 78, 79, 80, 81, 82, 83, 84, 85, 86, 87] [(74, 5), (74, 6), (74, 9), (74, 10), (81, 2), (81, 4), (81, 10), (81, 11), (81, 12), (81, 13), (81, 14), (81, 15)] w w1 ∧ (SB (b + 440) w1)) := by
  refine eQ_v rfl (by decide) (Nat.le_of_ble_eq_true rfl) ⟨rfl, rfl⟩ ?_
  intro p e R s m args below meth c A Q hx hb hml hown hts hK hE hA hR hret hP hD hS ls hl
  have hown : s.vm.findClass RX9 = some m.cls := hown
  have hl : lv_has ls 2 [(0, .ref (q 81))] := hl
  have J35 : ∀ (N : Nat) (x35_1 : Int32) (w35 : va_W) (H : Heap) (locs : List Loc) (ls : Array Slot), (40 - x35_1.toInt).toNat < N → HT q (TX q cI cJ cZ bb bs bp) w35 → Sm [70, 71, 73, 74, 75, 76, 77, 78, 79, 80, 81, 82, 83, 84, 85, 86, 87] [(74, 5), (74, 6), (74, 9), (74, 10), (81, 2), (81, 4), (81, 10), (81, 11), (81, 12), (81, 13), (81, 14), (81, 15)] w w35 → (In 0 40 x35_1) → (In 1 40 (fI w35 64 1)) → (In 1 24 (fI w35 64 2)) → (SB (b + 0 + 11 * (x35_1 : Int32).toInt) w35) → va_P D vwCl w35 H → va_D A w35 → va_S A s.heap H locs → lv_has ls 2 [(0, .ref (q 81)), (1, .int x35_1)] → W p l e R s m args below meth c H locs 0 0 Q (F0 m 35 ls []) := by
    intro N
    induction N with
    | zero => intro x35_1 w35 H locs ls hmu; exact absurd hmu (Nat.not_lt_zero _)
    | succ N ih35 =>
      intro x35_1 w35 H locs ls hmu35 hW_w35 hM_w35 i_x35_1 g35_64_1 g35_64_2 hd_35 hP hD hS hl
      have J67 : ∀ (w67 : va_W) (H : Heap) (locs : List Loc) (ls : Array Slot), HT q (TX q cI cJ cZ bb bs bp) w67 → Sm [70, 71, 73, 74, 75, 76, 77, 78, 79, 80, 81, 82, 83, 84, 85, 86, 87] [(74, 5), (74, 6), (74, 9), (74, 10), (81, 2), (81, 4), (81, 10), (81, 11), (81, 12), (81, 13), (81, 14), (81, 15)] w w67 → (In 0 39 x35_1) → (In 1 40 (fI w67 64 1)) → (In 1 24 (fI w67 64 2)) → (SB (b + 11 + 11 * (x35_1 : Int32).toInt) w67) → va_P D vwCl w67 H → va_D A w67 → va_S A s.heap H locs → lv_has ls 2 [(0, .ref (q 81)), (1, .int x35_1)] → W p l e R s m args below meth c H locs 0 0 Q (F0 m 67 ls []) := by
        intro w67 H locs ls hW_w67 hM_w67 i_x67_1 g67_64_1 g67_64_2 hd_67 hP hD hS hl
        refine lv_iinc (v := (x35_1 + 1)) (lv' := [(1, .int (x35_1 + 1)), (0, .ref (q 81))]) hx hb dX9_deal_67 hl (k := 1) rfl (rfl) (by decide) rfl (fun ls hl => ?_)
        refine lv_goto (tgt := 35) hx hb dX9_deal_70 (by decide) ?_
        exact ih35 (x35_1 + 1) w67 _ _ ls (mu_inc hmu35 i_x67_1 (In_lit (n := 1) (by decide) (by decide) : In 1 1 1) (by decide)) hW_w67 hM_w67 (In_w ((In_add (y := 1) i_x67_1 (In_lit (n := 1) (by decide) (by decide) : In 1 1 1) (by decide)) : In 1 40 (x35_1 + 1)) (by decide) : In 0 40 (x35_1 + 1)) (In_of (hM_w67.gI (by decide)) (In_of (hM_w67.gI (by decide)).symm g67_64_1)) (In_of (hM_w67.gI (by decide)) (In_of (hM_w67.gI (by decide)).symm g67_64_2)) (SB_w hd_67 (by have t11 := t_add i_x67_1 (In_lit (n := 1) (by decide) (by decide) : In 1 1 1) (by decide); have z1 : (1 : Int32).toInt = 1 := (by decide); omega)) hP hD hS (lv_sub hl [1, 0] rfl)
      refine lv_iload_n hx hb dX9_deal_35 rfl (lv_at hl 1 rfl) ?_
      refine lv_bipush (v := 40) hx hb dX9_deal_36 (by decide) ?_
      refine lv_icmp_ge (tgt := 73) hx hb dX9_deal_38 (by decide) (fun c_1 => ?_) (fun c_1 => ?_)
      · exact hret _ _ _ _ _ hP hD hS dX9_deal_73 ⟨hW_w35, hM_w35, (SB_w hd_35 (by have q := (In_w (R_le_r (In_lit (n := 40) (by decide) (by decide) : In 40 40 40) i_x35_1 c_1 (by decide) : In 40 40 x35_1) (by decide) : In 0 40 x35_1); unfold In at q; omega))⟩
      · refine lv_aload_n hx hb dX9_deal_41 rfl (lv_at hl 0 rfl) ?_
        refine gt_X9 hx hb hts hown hK hP 81 (hW_w35.o tX_81) 0 (by decide) wd_511 rfl (hW_w35.fr tX_81 rfl) dX9_deal_42 ?_
        refine gt_X3 hx hb hts hown hK hP 64 (hW_w35.o tX_64) 5 (by decide) wd_417 rfl (hW_w35.fr tX_64 rfl) dX9_deal_45 ?_
        refine lv_iload_n hx hb dX9_deal_48 rfl (lv_at hl 1 rfl) ?_
        refine va_iald hx hb hK hP 67 0 (hW_w35.a tX_67) rfl (in_I (R_nle_r (In_lit (n := 40) (by decide) (by decide) : In 40 40 40) i_x35_1 c_1 (by decide) : In 0 39 x35_1) (by decide)) dX9_deal_49 ?_
        refine lv_topi (fun v_2 ev_2 => ?_)
        refine lv_iconst (v := (-1)) hx hb dX9_deal_50 (by decide) ?_
        refine lv_icmp_eq (tgt := 67) hx hb dX9_deal_51 (by decide) (fun c_3 => ?_) (fun c_3 => ?_)
        · exact J67 w35 _ _ ls hW_w35 hM_w35 (R_nle_r (In_lit (n := 40) (by decide) (by decide) : In 40 40 40) i_x35_1 c_1 (by decide) : In 0 39 x35_1) (In_of (hM_w35.gI (by decide)) (In_of (hM_w35.gI (by decide)).symm g35_64_1)) (In_of (hM_w35.gI (by decide)) (In_of (hM_w35.gI (by decide)).symm g35_64_2)) (SB_w hd_35 (by omega)) hP hD hS (lv_sub hl [0, 1] rfl)
        · refine lv_aload_n hx hb dX9_deal_54 rfl (lv_at hl 0 rfl) ?_
          refine lv_aload_n hx hb dX9_deal_55 rfl (lv_at hl 0 rfl) ?_
          refine gt_X9 hx hb hts hown hK hP 81 (hW_w35.o tX_81) 0 (by decide) wd_511 rfl (hW_w35.fr tX_81 rfl) dX9_deal_56 ?_
          refine gt_X3 hx hb hts hown hK hP 64 (hW_w35.o tX_64) 5 (by decide) wd_417 rfl (hW_w35.fr tX_64 rfl) dX9_deal_59 ?_
          refine lv_iload_n hx hb dX9_deal_62 rfl (lv_at hl 1 rfl) ?_
          refine va_iald hx hb hK hP 67 0 (hW_w35.a tX_67) rfl (in_I (R_nle_r (In_lit (n := 40) (by decide) (by decide) : In 40 40 40) i_x35_1 c_1 (by decide) : In 0 39 x35_1) (by decide)) dX9_deal_63 ?_
          refine tov (v := v_2) ((congrFun (hM_w35.hA (by decide)) _).trans ((congrFun (hM_w35.hA (by decide)) _).symm.trans ev_2.symm)) ?_
          refine kW_v ⟨rfl, rfl⟩ hP hD hS hA (rW_V (As := [.int v_2]) (rest := []) hx hb hml hown hts hK hE hP hD (k_X9_rankRow l D cI cJ cZ q bb bs bp w35 hW_w35 v_2 (R_ne_l (In_of ev_2 (hW_w35.ap tX_67 _) : In (-1) 39 v_2) (In_lit (n := (-1)) (by decide) (by decide) : In (-1) (-1) (-1)) c_3 (by decide) : In 0 39 v_2) (In_of (hM_w35.gI (by decide)) (In_of (hM_w35.gI (by decide)).symm g35_64_1)) (In_of (hM_w35.gI (by decide)) (In_of (hM_w35.gI (by decide)).symm g35_64_2)) (FL_cg (hM_w35.gI (by decide)) (hM_w35.gI (by decide)) (hM_w35.hA (by decide)) (hM_w35.hA (by decide)) (hM_w35.hA (by decide)) hFL) ((b + 0 + 11 * (x35_1 : Int32).toInt)) ((by have q := (R_nle_r (In_lit (n := 40) (by decide) (by decide) : In 40 40 40) i_x35_1 c_1 (by decide) : In 0 39 x35_1); unfold In at q; omega)) (hd_35) ((by have g := hFL.2.2.2 x35_1.toNatClampNeg (by have q := nat_of (n := 39) (R_nle_r (In_lit (n := 40) (by decide) (by decide) : In 40 40 40) i_x35_1 c_1 (by decide) : In 0 39 x35_1); omega); have e : (v_2 : Int32).toInt = (aF w 67 x35_1.toNatClampNeg).toInt := congrArg Int32.toInt (ev_2.trans (congrFun (hM_w35.hA (by decide)) _)); have e2 : (fI w35 64 1).toInt = (fI w 64 1).toInt := congrArg Int32.toInt (hM_w35.gI (by decide)); omega)) _) ⟨⟨rfl, rfl⟩, rfl, rfl⟩ sv_X9_60 ⟨(Nat.le_trans (by decide) hR.1), (Nat.le_trans (by decide) hR.2)⟩ 81 9 (hW_w35.o tX_81) rfl rfl rfl hl.1 rfl (Nat.le_of_ble_eq_true rfl) dX9_deal_64) (fun w_4 H locs hw_w_4 hP hD hS => ?_)
          obtain ⟨hW_w_4, hs_w_4, h_6⟩ := hw_w_4
          exact J67 w_4 _ _ ls hW_w_4 (hM_w35.tr hs_w_4 (by decide)) (R_nle_r (In_lit (n := 40) (by decide) (by decide) : In 40 40 40) i_x35_1 c_1 (by decide) : In 0 39 x35_1) (In_of ((hs_w_4.gI (by decide)).trans (hM_w35.gI (by decide))) (In_of (hM_w35.gI (by decide)).symm g35_64_1)) (In_of ((hs_w_4.gI (by decide)).trans (hM_w35.gI (by decide))) (In_of (hM_w35.gI (by decide)).symm g35_64_2)) (SB_w h_6 (by omega)) hP hD hS (lv_sub hl [0, 1] rfl)
  refine lv_aload_n hx hb dX9_deal_0 rfl (lv_at hl 0 rfl) ?_
  refine gt_X9 hx hb hts hown hK hP 81 (hW_w.o tX_81) 0 (by decide) wd_511 rfl (hW_w.fr tX_81 rfl) dX9_deal_1 ?_
  refine gt_X3 hx hb hts hown hK hP 64 (hW_w.o tX_64) 1 (by decide) wd_403 rfl (hW_w.fi tX_64 rfl) dX9_deal_4 ?_
  refine lv_if_ne (tgt := 11) hx hb dX9_deal_7 (by decide) (fun c_7 => ?_) (fun c_7 => ?_)
  · refine lv_aload_n hx hb dX9_deal_11 rfl (lv_at hl 0 rfl) ?_
    refine gt_X9 hx hb hts hown hK hP 81 (hW_w.o tX_81) 1 (by decide) wd_512 rfl (hW_w.fr tX_81 rfl) dX9_deal_12 ?_
    refine kW_v ⟨rfl, rfl⟩ hP hD hS hA (rW_V (As := []) (rest := []) hx hb hml hown hts hK hE hP hD (k_X2_fill l D cI cJ cZ q bb bs bp w hW_w (R_ne_l (hW_w.fin tX_64 rfl : In 0 40 (fI w 64 1)) (In_lit (n := 0) (by decide) (by decide) : In 0 0 0) c_7 (by decide) : In 1 40 (fI w 64 1)) (by have q0 := hSL; have q1 := (hW_w.fin tX_64 rfl : In 0 24 (fI w 64 2)); have q2 := (R_ne_l (hW_w.fin tX_64 rfl : In 0 40 (fI w 64 1)) (In_lit (n := 0) (by decide) (by decide) : In 0 0 0) c_7 (by decide) : In 1 40 (fI w 64 1)); unfold In at q0 q1 q2 ⊢; omega : In 1 24 (fI w 64 2)) (FL_cg rfl rfl rfl rfl rfl hFL) _) ⟨⟨rfl, rfl⟩, rfl, rfl⟩ sv_X9_44 ⟨(Nat.le_trans (by decide) hR.1), (Nat.le_trans (by decide) hR.2)⟩ 74 2 (hW_w.o tX_74) rfl rfl rfl hl.1 rfl (Nat.le_of_ble_eq_true rfl) dX9_deal_15) (fun w_8 H locs hw_w_8 hP hD hS => ?_)
    obtain ⟨hW_w_8, hs_w_8⟩ := hw_w_8
    refine lv_aload_n hx hb dX9_deal_18 rfl (lv_at hl 0 rfl) ?_
    refine gt_X9 hx hb hts hown hK hP 81 (hW_w_8.o tX_81) 1 (by decide) wd_512 rfl (hW_w_8.fr tX_81 rfl) dX9_deal_19 ?_
    refine kW_v ⟨rfl, rfl⟩ hP hD hS hA (rW_V (As := []) (rest := []) hx hb hml hown hts hK hE hP hD (k_X2_level l D cI cJ cZ q bb bs bp w_8 hW_w_8 (In_of (hs_w_8.gI (by decide)) (R_ne_l (hW_w.fin tX_64 rfl : In 0 40 (fI w 64 1)) (In_lit (n := 0) (by decide) (by decide) : In 0 0 0) c_7 (by decide) : In 1 40 (fI w 64 1))) (In_of (hs_w_8.gI (by decide)) (by have q0 := hSL; have q1 := (hW_w.fin tX_64 rfl : In 0 24 (fI w 64 2)); have q2 := (R_ne_l (hW_w.fin tX_64 rfl : In 0 40 (fI w 64 1)) (In_lit (n := 0) (by decide) (by decide) : In 0 0 0) c_7 (by decide) : In 1 40 (fI w 64 1)); unfold In at q0 q1 q2 ⊢; omega : In 1 24 (fI w 64 2))) _) ⟨⟨rfl, rfl⟩, rfl, rfl⟩ sv_X9_49 ⟨(Nat.le_trans (by decide) hR.1), (Nat.le_trans (by decide) hR.2)⟩ 74 2 (hW_w_8.o tX_74) rfl rfl rfl hl.1 rfl (Nat.le_of_ble_eq_true rfl) dX9_deal_22) (fun w_10 H locs hw_w_10 hP hD hS => ?_)
    obtain ⟨hW_w_10, hs_w_10⟩ := hw_w_10
    refine lv_aload_n hx hb dX9_deal_25 rfl (lv_at hl 0 rfl) ?_
    refine gt_X9 hx hb hts hown hK hP 81 (hW_w_10.o tX_81) 3 (by decide) wd_514 rfl (hW_w_10.fr tX_81 rfl) dX9_deal_26 ?_
    refine lv_iconst (v := 0) hx hb dX9_deal_29 (by decide) ?_
    refine kW_v ⟨rfl, rfl⟩ hP hD hS hA (rW_S (As := [.ref (q 82), .int 0]) (rest := []) hx hb hml hown hts hK hE hP hD (k_J7_fill_53178_82 l D cI cJ cZ q bb bs bp w_10 hW_w_10 0 (In_lit (n := 0) (by decide) (by decide) : In 0 0 0) (In_of ((hs_w_10.gI (by decide)).trans (hs_w_8.gI (by decide))) (R_ne_l (hW_w.fin tX_64 rfl : In 0 40 (fI w 64 1)) (In_lit (n := 0) (by decide) (by decide) : In 0 0 0) c_7 (by decide) : In 1 40 (fI w 64 1))) (In_of ((hs_w_10.gI (by decide)).trans (hs_w_8.gI (by decide))) (by have q0 := hSL; have q1 := (hW_w.fin tX_64 rfl : In 0 24 (fI w 64 2)); have q2 := (R_ne_l (hW_w.fin tX_64 rfl : In 0 40 (fI w 64 1)) (In_lit (n := 0) (by decide) (by decide) : In 0 0 0) c_7 (by decide) : In 1 40 (fI w 64 1)); unfold In at q0 q1 q2 ⊢; omega : In 1 24 (fI w 64 2))) _) ⟨⟨rfl, rfl⟩, rfl, rfl⟩ sv_X9_52 ⟨(Nat.le_trans (by decide) hR.1), (Nat.le_trans (by decide) hR.2)⟩ rfl hl.1 rfl (Nat.le_of_ble_eq_true rfl) dX9_deal_30) (fun w_12 H locs hw_w_12 hP hD hS => ?_)
    obtain ⟨hW_w_12, hs_w_12, h_14⟩ := hw_w_12
    refine lv_iconst (v := 0) hx hb dX9_deal_33 (by decide) ?_
    refine lv_istore_n (lv' := [(1, .int 0), (0, .ref (q 81))]) hx hb dX9_deal_34 rfl hl (by decide) rfl (fun ls hl => ?_)
    exact J35 _ 0 w_12 _ _ ls (Nat.lt_succ_self _) hW_w_12 (((Sm.rf.tr hs_w_8 (by decide)).tr hs_w_10 (by decide)).tr hs_w_12 (by decide)) (In_lit (n := 0) (by decide) (by decide) : In 0 40 0) (In_of ((hs_w_12.gI (by decide)).trans ((hs_w_10.gI (by decide)).trans (hs_w_8.gI (by decide)))) (R_ne_l (hW_w.fin tX_64 rfl : In 0 40 (fI w 64 1)) (In_lit (n := 0) (by decide) (by decide) : In 0 0 0) c_7 (by decide) : In 1 40 (fI w 64 1))) (In_of ((hs_w_12.gI (by decide)).trans ((hs_w_10.gI (by decide)).trans (hs_w_8.gI (by decide)))) (by have q0 := hSL; have q1 := (hW_w.fin tX_64 rfl : In 0 24 (fI w 64 2)); have q2 := (R_ne_l (hW_w.fin tX_64 rfl : In 0 40 (fI w 64 1)) (In_lit (n := 0) (by decide) (by decide) : In 0 0 0) c_7 (by decide) : In 1 40 (fI w 64 1)); unfold In at q0 q1 q2 ⊢; omega : In 1 24 (fI w 64 2))) (SB_w (SB_cg ((hs_w_12.hA (by decide)).trans ((hs_w_10.hA (by decide)).trans (hs_w_8.hA (by decide)))) ((hs_w_12.hA (by decide)).trans ((hs_w_10.hA (by decide)).trans (hs_w_8.hA (by decide)))) ((hs_w_12.gI (by decide)).trans ((hs_w_10.gI (by decide)).trans (hs_w_8.gI (by decide)))) hSB) (by have z0 : (0 : Int32).toInt = 0 := (by decide); omega)) hP hD hS (lv_sub hl [1, 0] rfl)
  · exact hret _ _ _ _ _ hP hD hS dX9_deal_10 ⟨hW_w, Sm.rf, (SB_w hSB (by omega))⟩
