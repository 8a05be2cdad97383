set_option maxRecDepth 100000 in
set_option maxHeartbeats 8000000 in
theorem k_X11_give (l : Launch) (D : va_G) (cI cJ cZ : ClassId) (q : Nat → Nat) (bp : Nat) (w : va_W) (hW_w : HT q (TX q cI cJ cZ 1 16 bp) w) (hLD : LD w) (b : Int) (hbb : b + 440 ≤ 2147483647) (hSB : SB b w) : Con_i l yX11_give cX11_give 2 (some .int) ({ frames := 7, cells := 0, slots := 0, locals := 168 }) D cI cJ cZ eW [.ref (q 0)] w (fun (r : Int32) (w1 : va_W) => HT q (TX q cI cJ cZ 1 16 bp) w1 ∧ Sm [42, 43, 44, 45, 46, 47, 48, 49, 50, 51, 52, 53, 54, 55, 57, 58, 59, 60, 61, 62, 63, 64, 65, 66, 67, 68, 69, 70, 71, 72, 73, 74, 75, 76, 77, 78, 79, 80, 81, 82, 83, 84, 85, 86, 87, 88, 89, 90, 91, 92, 93, 94, 95, 96, 109] [(42, 0), (42, 1), (42, 2), (64, 0), (64, 1), (64, 2), (74, 5), (74, 6), (74, 9), (74, 10), (81, 2), (81, 4), (81, 10), (81, 11), (81, 12), (81, 13), (81, 14), (81, 15), (88, 0), (88, 1), (88, 10), (88, 11)] w w1 ∧ (SB (b + 440) w1)) := by
  refine eQ_i rfl (by decide) (Nat.le_of_ble_eq_true rfl) ⟨rfl, rfl⟩ ?_
  intro p e R s m args below meth c A Q hx hb hml hown hts hK hE hA hR hret hP hD hS ls hl
  have hown : s.vm.findClass RX11 = some m.cls := hown
  have hl : lv_has ls 2 [(0, .ref (q 0))] := hl
  have J28 : ∀ (N : Nat) (x28_1 : Int32) (w28 : va_W) (H : Heap) (locs : List Loc) (ls : Array Slot), (25 - x28_1.toInt).toNat < N → HT q (TX q cI cJ cZ 1 16 bp) w28 → Sm [42, 43, 44, 45, 46, 47, 48, 49, 50, 51, 52, 53, 54, 55, 57, 58, 59, 60, 61, 62, 63, 64, 65, 66, 67, 68, 69, 70, 71, 72, 73, 74, 75, 76, 77, 78, 79, 80, 81, 82, 83, 84, 85, 86, 87, 88, 89, 90, 91, 92, 93, 94, 95, 96, 109] [(42, 0), (42, 1), (42, 2), (64, 0), (64, 1), (64, 2), (74, 5), (74, 6), (74, 9), (74, 10), (81, 2), (81, 4), (81, 10), (81, 11), (81, 12), (81, 13), (81, 14), (81, 15), (88, 0), (88, 1), (88, 10), (88, 11)] w w28 → (In 1 25 x28_1) → (((fI w28 64 2).toInt + 1 ≤ (x28_1 : Int32).toInt) ∧ (¬ (fI w28 64 1).toInt = 0 → 1 ≤ (fI w28 64 2).toInt)) → (FB w28) → (SB b w28) → va_P D vwCl w28 H → va_D A w28 → va_S A s.heap H locs → lv_has ls 2 [(0, .ref (q 0)), (1, .int x28_1)] → W p l e R s m args below meth c H locs 0 0 Q (F0 m 28 ls []) := by
    intro N
    induction N with
    | zero => intro x28_1 w28 H locs ls hmu; exact absurd hmu (Nat.not_lt_zero _)
    | succ N ih28 =>
      intro x28_1 w28 H locs ls hmu28 hW_w28 hM_w28 i_x28_1 hg_28 hf_28 hs_28 hP hD hS hl
      refine lv_iload_n hx hb dX11_give_28 rfl (lv_at hl 1 rfl) ?_
      refine lv_bipush (v := 24) hx hb dX11_give_29 (by decide) ?_
      refine lv_icmp_gt (tgt := 79) hx hb dX11_give_31 (by decide) (fun c_1 => ?_) (fun c_1 => ?_)
      · refine lv_aload_n hx hb dX11_give_79 rfl (lv_at hl 0 rfl) ?_
        refine gt_X11 hx hb hts hown hK hP 0 (hW_w28.o tX_0) 9 (by decide) wd_682 rfl (hW_w28.fr tX_0 rfl) dX11_give_80 ?_
        refine kW_v ⟨rfl, rfl⟩ hP hD hS hA (rW_V (As := []) (rest := []) hx hb hml hown hts hK hE hP hD (k_X9_deal l D cI cJ cZ q 1 16 bp w28 hW_w28 (by intro hh; have i64_1 := (hW_w28.fin tX_64 rfl : In 0 40 (fI w28 64 1)); unfold In at i64_1; have i64_2 := (hW_w28.fin tX_64 rfl : In 0 24 (fI w28 64 2)); unfold In at i64_2; omega) (FB_FL hf_28) (b) ((by omega)) (hs_28) _) ⟨⟨rfl, rfl⟩, rfl, rfl⟩ sv_X11_269 ⟨(Nat.le_trans (by decide) hR.1), (Nat.le_trans (by decide) hR.2)⟩ 81 9 (hW_w28.o tX_81) rfl rfl rfl hl.1 rfl (Nat.le_of_ble_eq_true rfl) dX11_give_83) (fun w_2 H locs hw_w_2 hP hD hS => ?_)
        obtain ⟨hW_w_2, hs_w_2, h_4⟩ := hw_w_2
        refine lv_aload_n hx hb dX11_give_86 rfl (lv_at hl 0 rfl) ?_
        refine gt_X11 hx hb hts hown hK hP 0 (hW_w_2.o tX_0) 10 (by decide) wd_683 rfl (hW_w_2.fr tX_0 rfl) dX11_give_87 ?_
        refine lv_aload_n hx hb dX11_give_90 rfl (lv_at hl 0 rfl) ?_
        refine gt_X11 hx hb hts hown hK hP 0 (hW_w_2.o tX_0) 0 (by decide) wd_673 rfl (hW_w_2.fr tX_0 rfl) dX11_give_91 ?_
        refine lv_aload_n hx hb dX11_give_94 rfl (lv_at hl 0 rfl) ?_
        refine gt_X11 hx hb hts hown hK hP 0 (hW_w_2.o tX_0) 5 (by decide) wd_678 rfl (hW_w_2.fr tX_0 rfl) dX11_give_95 ?_
        refine lv_aload_n hx hb dX11_give_98 rfl (lv_at hl 0 rfl) ?_
        refine gt_X11 hx hb hts hown hK hP 0 (hW_w_2.o tX_0) 6 (by decide) wd_679 rfl (hW_w_2.fr tX_0 rfl) dX11_give_99 ?_
        refine lv_aload_n hx hb dX11_give_102 rfl (lv_at hl 0 rfl) ?_
        refine gt_X11 hx hb hts hown hK hP 0 (hW_w_2.o tX_0) 7 (by decide) wd_680 rfl (hW_w_2.fr tX_0 rfl) dX11_give_103 ?_
        refine lv_aload_n hx hb dX11_give_106 rfl (lv_at hl 0 rfl) ?_
        refine gt_X11 hx hb hts hown hK hP 0 (hW_w_2.o tX_0) 13 (by decide) wd_686 rfl (hW_w_2.fr tX_0 rfl) dX11_give_107 ?_
        refine kW_i ⟨rfl, rfl⟩ hP hD hS hA (rW_V (As := [.ref (q 1), .ref (q 42), .ref (q 56), .ref (q 64), .ref (q 109)]) (rest := []) hx hb hml hown hts hK hE hP hD (k_X4_keep_1_42_56_64_109 l D cI cJ cZ q 1 16 bp w_2 hW_w_2  _) ⟨⟨rfl, rfl⟩, rfl, rfl⟩ sv_X11_272 ⟨(Nat.le_trans (by decide) hR.1), (Nat.le_trans (by decide) hR.2)⟩ 88 4 (hW_w_2.o tX_88) rfl rfl rfl hl.1 rfl (Nat.le_of_ble_eq_true rfl) dX11_give_110) (fun r_6 w_5 H locs hw_w_5 hP hD hS => ?_)
        obtain ⟨hW_w_5, hs_w_5⟩ := hw_w_5
        exact hret _ _ _ _ _ _ hP hD hS dX11_give_113 ⟨hW_w_5, ((hM_w28.tr hs_w_2 (by decide)).tr hs_w_5 (by decide)), (SB_cg (hs_w_5.hA (by decide)) (hs_w_5.hA (by decide)) (hs_w_5.gI (by decide)) h_4)⟩
      · refine lv_aload_n hx hb dX11_give_34 rfl (lv_at hl 0 rfl) ?_
        refine gt_X11 hx hb hts hown hK hP 0 (hW_w28.o tX_0) 5 (by decide) wd_678 rfl (hW_w28.fr tX_0 rfl) dX11_give_35 ?_
        refine lv_aload_n hx hb dX11_give_38 rfl (lv_at hl 0 rfl) ?_
        refine gt_X11 hx hb hts hown hK hP 0 (hW_w28.o tX_0) 13 (by decide) wd_686 rfl (hW_w28.fr tX_0 rfl) dX11_give_39 ?_
        refine lv_iload_n hx hb dX11_give_42 rfl (lv_at hl 1 rfl) ?_
        refine lv_aload_n hx hb dX11_give_43 rfl (lv_at hl 0 rfl) ?_
        refine gt_X11 hx hb hts hown hK hP 0 (hW_w28.o tX_0) 0 (by decide) wd_673 rfl (hW_w28.fr tX_0 rfl) dX11_give_44 ?_
        refine gt_X1 hx hb hts hown hK hP 1 (hW_w28.o tX_1) 0 (by decide) wd_39 rfl (hW_w28.fi tX_1 rfl) dX11_give_47 ?_
        refine tov (v := (fI w 1 0)) (hM_w28.gI (by decide)) ?_
        refine kW_v ⟨rfl, rfl⟩ hP hD hS hA (rW_V (As := [.ref (q 109), .int x28_1, .int (fI w 1 0)]) (rest := []) hx hb hml hown hts hK hE hP hD (k_X6_addCome_109 l D cI cJ cZ q 1 16 bp w28 hW_w28 x28_1 (fI w 1 0) (R_nlt_r (In_lit (n := 24) (by decide) (by decide) : In 24 24 24) i_x28_1 c_1 (by decide) : In 1 24 x28_1) (hW_w.fin tX_1 rfl : In 0 10 (fI w 1 0)) _) ⟨⟨rfl, rfl⟩, rfl, rfl⟩ sv_X11_261 ⟨(Nat.le_trans (by decide) hR.1), (Nat.le_trans (by decide) hR.2)⟩ 42 6 (hW_w28.o tX_42) rfl rfl rfl hl.1 rfl (Nat.le_of_ble_eq_true rfl) dX11_give_50) (fun w_7 H locs hw_w_7 hP hD hS => ?_)
        obtain ⟨hW_w_7, hs_w_7⟩ := hw_w_7
        refine lv_aload_n hx hb dX11_give_53 rfl (lv_at hl 0 rfl) ?_
        refine gt_X11 hx hb hts hown hK hP 0 (hW_w_7.o tX_0) 7 (by decide) wd_680 rfl (hW_w_7.fr tX_0 rfl) dX11_give_54 ?_
        refine lv_aload_n hx hb dX11_give_57 rfl (lv_at hl 0 rfl) ?_
        refine gt_X11 hx hb hts hown hK hP 0 (hW_w_7.o tX_0) 5 (by decide) wd_678 rfl (hW_w_7.fr tX_0 rfl) dX11_give_58 ?_
        refine lv_aload_n hx hb dX11_give_61 rfl (lv_at hl 0 rfl) ?_
        refine gt_X11 hx hb hts hown hK hP 0 (hW_w_7.o tX_0) 6 (by decide) wd_679 rfl (hW_w_7.fr tX_0 rfl) dX11_give_62 ?_
        refine lv_iload_n hx hb dX11_give_65 rfl (lv_at hl 1 rfl) ?_
        refine lv_aload_n hx hb dX11_give_66 rfl (lv_at hl 0 rfl) ?_
        refine gt_X11 hx hb hts hown hK hP 0 (hW_w_7.o tX_0) 13 (by decide) wd_686 rfl (hW_w_7.fr tX_0 rfl) dX11_give_67 ?_
        refine kW_v ⟨rfl, rfl⟩ hP hD hS hA (rW_V (As := [.ref (q 42), .ref (q 56), .int x28_1, .ref (q 109)]) (rest := []) hx hb hml hown hts hK hE hP hD (k_X3_addDay_42_56_109 l D cI cJ cZ q 1 16 bp w_7 hW_w_7 x28_1 (R_nlt_r (In_lit (n := 24) (by decide) (by decide) : In 24 24 24) i_x28_1 c_1 (by decide) : In 1 24 x28_1) (In_of (hs_w_7.gI (by decide)) (by have q0 := (hW_w28.fin tX_64 rfl : In 0 24 (fI w28 64 2)); have q1 := (R_nlt_r (In_lit (n := 24) (by decide) (by decide) : In 24 24 24) i_x28_1 c_1 (by decide) : In 1 24 x28_1); have q2 := hg_28.1; unfold In at q0 q1 q2 ⊢; omega : In 0 23 (fI w28 64 2))) (by intro hh; have e64_1 : (fI w_7 64 1).toInt = ((fI w28 64 1) : Int32).toInt := congrArg Int32.toInt (hs_w_7.gI (by decide)); have i64_1 := (hW_w28.fin tX_64 rfl : In 0 40 (fI w28 64 1)); unfold In at i64_1; have e64_2 : (fI w_7 64 2).toInt = ((fI w28 64 2) : Int32).toInt := congrArg Int32.toInt (hs_w_7.gI (by decide)); have i64_2 := (by have q0 := (hW_w28.fin tX_64 rfl : In 0 24 (fI w28 64 2)); have q1 := (R_nlt_r (In_lit (n := 24) (by decide) (by decide) : In 24 24 24) i_x28_1 c_1 (by decide) : In 1 24 x28_1); have q2 := hg_28.1; unfold In at q0 q1 q2 ⊢; omega : In 0 23 (fI w28 64 2)); unfold In at i64_2; omega) _) ⟨⟨rfl, rfl⟩, rfl, rfl⟩ sv_X11_265 ⟨(Nat.le_trans (by decide) hR.1), (Nat.le_trans (by decide) hR.2)⟩ 64 3 (hW_w_7.o tX_64) rfl rfl rfl hl.1 rfl (Nat.le_of_ble_eq_true rfl) dX11_give_70) (fun w_9 H locs hw_w_9 hP hD hS => ?_)
        obtain ⟨hW_w_9, hs_w_9, h_11, h_12, h_13⟩ := hw_w_9
        have n_h_12 : (fI w_9 64 2).toInt ≤ ((fI w28 64 2) : Int32).toInt + 1 := (by have ee : (fI w_7 64 2).toInt = ((fI w28 64 2) : Int32).toInt := congrArg Int32.toInt (hs_w_7.gI (by decide)); omega)
        refine lv_iinc (v := (x28_1 + 1)) (lv' := [(1, .int (x28_1 + 1)), (0, .ref (q 0))]) hx hb dX11_give_73 hl (k := 1) rfl (rfl) (by decide) rfl (fun ls hl => ?_)
        refine lv_goto (tgt := 28) hx hb dX11_give_76 (by decide) ?_
        exact ih28 (x28_1 + 1) w_9 _ _ ls (mu_inc hmu28 (R_nlt_r (In_lit (n := 24) (by decide) (by decide) : In 24 24 24) i_x28_1 c_1 (by decide) : In 1 24 x28_1) (In_lit (n := 1) (by decide) (by decide) : In 1 1 1) (by decide)) hW_w_9 ((hM_w28.tr hs_w_7 (by decide)).tr hs_w_9 (by decide)) (In_w ((In_add (y := 1) (R_nlt_r (In_lit (n := 24) (by decide) (by decide) : In 24 24 24) i_x28_1 c_1 (by decide) : In 1 24 x28_1) (In_lit (n := 1) (by decide) (by decide) : In 1 1 1) (by decide)) : In 2 25 (x28_1 + 1)) (by decide) : In 1 25 (x28_1 + 1)) ⟨(by have i64_2 := (hW_w_9.fin tX_64 rfl : In 0 24 (fI w_9 64 2)); unfold In at i64_2; have t11 := t_add (R_nlt_r (In_lit (n := 24) (by decide) (by decide) : In 24 24 24) i_x28_1 c_1 (by decide) : In 1 24 x28_1) (In_lit (n := 1) (by decide) (by decide) : In 1 1 1) (by decide); have z1 : (1 : Int32).toInt = 1 := (by decide); omega), (by intro hh; have i64_1 := (hW_w_9.fin tX_64 rfl : In 0 40 (fI w_9 64 1)); unfold In at i64_1; have i64_2 := (hW_w_9.fin tX_64 rfl : In 0 24 (fI w_9 64 2)); unfold In at i64_2; omega)⟩ (h_13 (by have g := hf_28; rw [show FB w_7 = FM (fI w_7 64 1).toInt w_7 from rfl, show fI w_7 64 1 = fI w28 64 1 from (hs_w_7.gI (by decide))]; exact FM_cg (hs_w_7.gI (by decide)) (hs_w_7.gI (by decide)) (hs_w_7.hA (by decide)) (hs_w_7.hA (by decide)) (hs_w_7.hA (by decide)) g)) (SB_cg ((hs_w_9.hA (by decide)).trans (hs_w_7.hA (by decide))) ((hs_w_9.hA (by decide)).trans (hs_w_7.hA (by decide))) ((hs_w_9.gI (by decide)).trans (hs_w_7.gI (by decide))) hs_28) hP hD hS (lv_sub hl [1, 0] rfl)
  refine lv_aload_n hx hb dX11_give_0 rfl (lv_at hl 0 rfl) ?_
  refine kW_v ⟨rfl, rfl⟩ hP hD hS hA (rW_V (As := []) (rest := []) hx hb hml hown hts hK hE hP hD (k_X11_weighAll l D cI cJ cZ q bp w hW_w (LD_cg rfl rfl hLD) _) ⟨⟨rfl, rfl⟩, rfl, rfl⟩ sv_X11_249 ⟨(Nat.le_trans (by decide) hR.1), (Nat.le_trans (by decide) hR.2)⟩ 0 11 (hW_w.o tX_0) rfl rfl rfl hl.1 rfl (Nat.le_of_ble_eq_true rfl) dX11_give_1) (fun w_14 H locs hw_w_14 hP hD hS => ?_)
  obtain ⟨hW_w_14, hs_w_14⟩ := hw_w_14
  refine lv_aload_n hx hb dX11_give_4 rfl (lv_at hl 0 rfl) ?_
  refine gt_X11 hx hb hts hown hK hP 0 (hW_w_14.o tX_0) 7 (by decide) wd_680 rfl (hW_w_14.fr tX_0 rfl) dX11_give_5 ?_
  refine lv_aload_n hx hb dX11_give_8 rfl (lv_at hl 0 rfl) ?_
  refine gt_X11 hx hb hts hown hK hP 0 (hW_w_14.o tX_0) 0 (by decide) wd_673 rfl (hW_w_14.fr tX_0 rfl) dX11_give_9 ?_
  refine gt_X1 hx hb hts hown hK hP 1 (hW_w_14.o tX_1) 0 (by decide) wd_39 rfl (hW_w_14.fi tX_1 rfl) dX11_give_12 ?_
  refine tov (v := (fI w 1 0)) (hs_w_14.gI (by decide)) ?_
  refine kW_v ⟨rfl, rfl⟩ hP hD hS hA (rW_V (As := [.int (fI w 1 0)]) (rest := []) hx hb hml hown hts hK hE hP hD (k_X3_clear l D cI cJ cZ q 1 16 bp w_14 hW_w_14 (fI w 1 0) (hW_w.fin tX_1 rfl : In 0 10 (fI w 1 0)) _) ⟨⟨rfl, rfl⟩, rfl, rfl⟩ sv_X11_252 ⟨(Nat.le_trans (by decide) hR.1), (Nat.le_trans (by decide) hR.2)⟩ 64 3 (hW_w_14.o tX_64) rfl rfl rfl hl.1 rfl (Nat.le_of_ble_eq_true rfl) dX11_give_15) (fun w_16 H locs hw_w_16 hP hD hS => ?_)
  obtain ⟨hW_w_16, hs_w_16, h_18, h_19, h_20⟩ := hw_w_16
  refine lv_aload_n hx hb dX11_give_18 rfl (lv_at hl 0 rfl) ?_
  refine gt_X11 hx hb hts hown hK hP 0 (hW_w_16.o tX_0) 13 (by decide) wd_686 rfl (hW_w_16.fr tX_0 rfl) dX11_give_19 ?_
  refine lv_iconst (v := 0) hx hb dX11_give_22 (by decide) ?_
  refine kW_v ⟨rfl, rfl⟩ hP hD hS hA (rW_S (As := [.ref (q 109), .int 0]) (rest := []) hx hb hml hown hts hK hE hP hD (k_J7_fill_53178_109 l D cI cJ cZ q 1 16 bp w_16 hW_w_16 0 (In_lit (n := 0) (by decide) (by decide) : In 0 0 0) _) ⟨⟨rfl, rfl⟩, rfl, rfl⟩ sv_X11_255 ⟨(Nat.le_trans (by decide) hR.1), (Nat.le_trans (by decide) hR.2)⟩ rfl hl.1 rfl (Nat.le_of_ble_eq_true rfl) dX11_give_23) (fun w_21 H locs hw_w_21 hP hD hS => ?_)
  obtain ⟨hW_w_21, hs_w_21, h_23⟩ := hw_w_21
  refine lv_iconst (v := 1) hx hb dX11_give_26 (by decide) ?_
  refine lv_istore_n (lv' := [(1, .int 1), (0, .ref (q 0))]) hx hb dX11_give_27 rfl hl (by decide) rfl (fun ls hl => ?_)
  exact J28 _ 1 w_21 _ _ ls (Nat.lt_succ_self _) hW_w_21 (((Sm.rf.tr hs_w_14 (by decide)).tr hs_w_16 (by decide)).tr hs_w_21 (by decide)) (In_lit (n := 1) (by decide) (by decide) : In 1 25 1) ⟨(by have e64_2 : (fI w_21 64 2).toInt = ((fI w_16 64 2) : Int32).toInt := congrArg Int32.toInt (hs_w_21.gI (by decide)); have i64_2 := h_19; unfold In at i64_2; have z1 : (1 : Int32).toInt = 1 := (by decide); omega), (by intro hh; have e64_1 : (fI w_21 64 1).toInt = ((fI w_16 64 1) : Int32).toInt := congrArg Int32.toInt (hs_w_21.gI (by decide)); have i64_1 := h_18; unfold In at i64_1; have e64_2 : (fI w_21 64 2).toInt = ((fI w_16 64 2) : Int32).toInt := congrArg Int32.toInt (hs_w_21.gI (by decide)); have i64_2 := h_19; unfold In at i64_2; omega)⟩ (by have g := h_20; rw [show FB w_21 = FM (fI w_21 64 1).toInt w_21 from rfl, show fI w_21 64 1 = fI w_16 64 1 from (hs_w_21.gI (by decide))]; exact FM_cg (hs_w_21.gI (by decide)) (hs_w_21.gI (by decide)) (hs_w_21.hA (by decide)) (hs_w_21.hA (by decide)) (hs_w_21.hA (by decide)) g) (SB_cg ((hs_w_21.hA (by decide)).trans ((hs_w_16.hA (by decide)).trans (hs_w_14.hA (by decide)))) ((hs_w_21.hA (by decide)).trans ((hs_w_16.hA (by decide)).trans (hs_w_14.hA (by decide)))) ((hs_w_21.gI (by decide)).trans ((hs_w_16.gI (by decide)).trans (hs_w_14.gI (by decide)))) hSB) hP hD hS (lv_sub hl [1, 0] rfl)
set_option maxRecDepth 100000 in
set_option maxHeartbeats 8000000 in
theorem k_X4_lacking (l : Launch) (D : va_G) (cI cJ cZ : ClassId) (q : Nat → Nat) (bb bs bp : Nat) (w : va_W) (hW_w : HT q (TX q cI cJ cZ bb bs bp) w) (p1 : Int32) (p2 : Int32) : Con_i l yX4_lacking cX4_lacking 5 (some .int) ({ frames := 0, cells := 0, slots := 0, locals := 0 }) D cI cJ cZ eW [.ref (q 88), .int p1, .int p2] w (fun (r : Int32) (w1 : va_W) => HT q (TX q cI cJ cZ bb bs bp) w1 ∧ Sm [] [] w w1) := by
  refine eQ_i rfl (by decide) (Nat.le_of_ble_eq_true rfl) ⟨rfl, rfl⟩ ?_
  intro p e R s m args below meth c A Q hx hb hml hown hts hK hE hA hR hret hP hD hS ls hl
  have hown : s.vm.findClass RX4 = some m.cls := hown
  have hl : lv_has ls 5 [(0, .ref (q 88)), (1, .int p1), (2, .int p2)] := hl
  have J5 : ∀ (N : Nat) (x5_3 : Int32) (x5_4 : Int32) (w5 : va_W) (H : Heap) (locs : List Loc) (ls : Array Slot), (40 - x5_4.toInt).toNat < N → HT q (TX q cI cJ cZ bb bs bp) w5 → Sm [] [] w w5 → (In 0 40 x5_4) → va_P D vwCl w5 H → va_D A w5 → va_S A s.heap H locs → lv_has ls 5 [(0, .ref (q 88)), (1, .int p1), (2, .int p2), (3, .int x5_3), (4, .int x5_4)] → W p l e R s m args below meth c H locs 0 0 Q (F0 m 5 ls []) := by
    intro N
    induction N with
    | zero => intro x5_3 x5_4 w5 H locs ls hmu; exact absurd hmu (Nat.not_lt_zero _)
    | succ N ih5 =>
      intro x5_3 x5_4 w5 H locs ls hmu5 hW_w5 hM_w5 i_x5_4 hP hD hS hl
      have J54 : ∀ (x54_3 : Int32) (w54 : va_W) (H : Heap) (locs : List Loc) (ls : Array Slot), HT q (TX q cI cJ cZ bb bs bp) w54 → Sm [] [] w w54 → (In 0 39 x5_4) → (In 1 40 (fI w54 88 1)) → va_P D vwCl w54 H → va_D A w54 → va_S A s.heap H locs → lv_has ls 5 [(0, .ref (q 88)), (1, .int p1), (2, .int p2), (3, .int x54_3), (4, .int x5_4)] → W p l e R s m args below meth c H locs 0 0 Q (F0 m 54 ls []) := by
        intro x54_3 w54 H locs ls hW_w54 hM_w54 i_x54_4 g54_88_1 hP hD hS hl
        refine lv_iinc (v := (x5_4 + 1)) (lv' := [(4, .int (x5_4 + 1)), (0, .ref (q 88)), (1, .int p1), (2, .int p2), (3, .int x54_3)]) hx hb dX4_lacking_54 hl (k := 4) rfl (rfl) (by decide) rfl (fun ls hl => ?_)
        refine lv_goto (tgt := 5) hx hb dX4_lacking_57 (by decide) ?_
        exact ih5 x54_3 (x5_4 + 1) w54 _ _ ls (mu_inc hmu5 i_x54_4 (In_lit (n := 1) (by decide) (by decide) : In 1 1 1) (by decide)) hW_w54 hM_w54 (In_w ((In_add (y := 1) i_x54_4 (In_lit (n := 1) (by decide) (by decide) : In 1 1 1) (by decide)) : In 1 40 (x5_4 + 1)) (by decide) : In 0 40 (x5_4 + 1)) hP hD hS (lv_sub hl [1, 2, 3, 4, 0] rfl)
      refine lv_iload hx hb dX4_lacking_5 (lv_at hl 4 rfl) ?_
      refine lv_aload_n hx hb dX4_lacking_7 rfl (lv_at hl 0 rfl) ?_
      refine gt_X4 hx hb hts hown hK hP 88 (hW_w5.o tX_88) 1 (by decide) wd_569 rfl (hW_w5.fi tX_88 rfl) dX4_lacking_8 ?_
      refine tov (v := (fI w 88 1)) (hM_w5.gI (by decide)) ?_
      refine lv_icmp_ge (tgt := 60) hx hb dX4_lacking_11 (by decide) (fun c_1 => ?_) (fun c_1 => ?_)
      · refine lv_iload_n hx hb dX4_lacking_60 rfl (lv_at hl 3 rfl) ?_
        exact hret _ _ _ _ _ _ hP hD hS dX4_lacking_61 ⟨hW_w5, hM_w5⟩
      · refine lv_aload_n hx hb dX4_lacking_14 rfl (lv_at hl 0 rfl) ?_
        refine gt_X4 hx hb hts hown hK hP 88 (hW_w5.o tX_88) 2 (by decide) wd_570 rfl (hW_w5.fr tX_88 rfl) dX4_lacking_15 ?_
        refine lv_iload hx hb dX4_lacking_18 (lv_at hl 4 rfl) ?_
        refine va_iald hx hb hK hP 89 0 (hW_w5.a tX_89) rfl (in_I (R_nle_r (hW_w.fin tX_88 rfl : In 0 40 (fI w 88 1)) i_x5_4 c_1 (by decide) : In 0 39 x5_4) (by decide)) dX4_lacking_20 ?_
        refine lv_topi (fun v_2 ev_2 => ?_)
        refine lv_iload_n hx hb dX4_lacking_21 rfl (lv_at hl 1 rfl) ?_
        refine lv_icmp_lt (tgt := 54) hx hb dX4_lacking_22 (by decide) (fun c_3 => ?_) (fun c_3 => ?_)
        · exact J54 x5_3 w5 _ _ ls hW_w5 hM_w5 (R_nle_r (hW_w.fin tX_88 rfl : In 0 40 (fI w 88 1)) i_x5_4 c_1 (by decide) : In 0 39 x5_4) (In_of (hM_w5.gI (by decide)) (R_nle_l (hW_w.fin tX_88 rfl : In 0 40 (fI w 88 1)) i_x5_4 c_1 (by decide) : In 1 40 (fI w 88 1))) hP hD hS (lv_sub hl [0, 1, 2, 3, 4] rfl)
        · refine lv_aload_n hx hb dX4_lacking_25 rfl (lv_at hl 0 rfl) ?_
          refine gt_X4 hx hb hts hown hK hP 88 (hW_w5.o tX_88) 2 (by decide) wd_570 rfl (hW_w5.fr tX_88 rfl) dX4_lacking_26 ?_
          refine lv_iload hx hb dX4_lacking_29 (lv_at hl 4 rfl) ?_
          refine va_iald hx hb hK hP 89 0 (hW_w5.a tX_89) rfl (in_I (R_nle_r (hW_w.fin tX_88 rfl : In 0 40 (fI w 88 1)) i_x5_4 c_1 (by decide) : In 0 39 x5_4) (by decide)) dX4_lacking_31 ?_
          refine tov (v := v_2) ((congrFun (hM_w5.hA (by decide)) _).trans ((congrFun (hM_w5.hA (by decide)) _).symm.trans ev_2.symm)) ?_
          refine lv_iload_n hx hb dX4_lacking_32 rfl (lv_at hl 2 rfl) ?_
          refine lv_icmp_gt (tgt := 54) hx hb dX4_lacking_33 (by decide) (fun c_4 => ?_) (fun c_4 => ?_)
          · exact J54 x5_3 w5 _ _ ls hW_w5 hM_w5 (R_nle_r (hW_w.fin tX_88 rfl : In 0 40 (fI w 88 1)) i_x5_4 c_1 (by decide) : In 0 39 x5_4) (In_of (hM_w5.gI (by decide)) (R_nle_l (hW_w.fin tX_88 rfl : In 0 40 (fI w 88 1)) i_x5_4 c_1 (by decide) : In 1 40 (fI w 88 1))) hP hD hS (lv_sub hl [0, 1, 2, 3, 4] rfl)
          · refine lv_iload_n hx hb dX4_lacking_36 rfl (lv_at hl 3 rfl) ?_
            refine lv_aload_n hx hb dX4_lacking_37 rfl (lv_at hl 0 rfl) ?_
            refine gt_X4 hx hb hts hown hK hP 88 (hW_w5.o tX_88) 5 (by decide) wd_575 rfl (hW_w5.fr tX_88 rfl) dX4_lacking_38 ?_
            refine lv_iload hx hb dX4_lacking_41 (lv_at hl 4 rfl) ?_
            refine va_iald hx hb hK hP 92 0 (hW_w5.a tX_92) rfl (in_I (R_nle_r (hW_w.fin tX_88 rfl : In 0 40 (fI w 88 1)) i_x5_4 c_1 (by decide) : In 0 39 x5_4) (by decide)) dX4_lacking_43 ?_
            refine lv_topi (fun v_5 ev_5 => ?_)
            refine lv_aload_n hx hb dX4_lacking_44 rfl (lv_at hl 0 rfl) ?_
            refine gt_X4 hx hb hts hown hK hP 88 (hW_w5.o tX_88) 7 (by decide) wd_577 rfl (hW_w5.fr tX_88 rfl) dX4_lacking_45 ?_
            refine lv_iload hx hb dX4_lacking_48 (lv_at hl 4 rfl) ?_
            refine va_iald hx hb hK hP 94 0 (hW_w5.a tX_94) rfl (in_I (R_nle_r (hW_w.fin tX_88 rfl : In 0 40 (fI w 88 1)) i_x5_4 c_1 (by decide) : In 0 39 x5_4) (by decide)) dX4_lacking_50 ?_
            refine lv_topi (fun v_6 ev_6 => ?_)
            refine lv_isub hx hb dX4_lacking_51 ?_
            refine lv_topi (fun v_7 ev_7 => ?_)
            refine lv_iadd hx hb dX4_lacking_52 ?_
            refine lv_topi (fun v_8 ev_8 => ?_)
            refine lv_istore_n (lv' := [(3, .int v_8), (0, .ref (q 88)), (1, .int p1), (2, .int p2), (4, .int x5_4)]) hx hb dX4_lacking_53 rfl hl (by decide) rfl (fun ls hl => ?_)
            exact J54 v_8 w5 _ _ ls hW_w5 hM_w5 (R_nle_r (hW_w.fin tX_88 rfl : In 0 40 (fI w 88 1)) i_x5_4 c_1 (by decide) : In 0 39 x5_4) (In_of (hM_w5.gI (by decide)) (R_nle_l (hW_w.fin tX_88 rfl : In 0 40 (fI w 88 1)) i_x5_4 c_1 (by decide) : In 1 40 (fI w 88 1))) hP hD hS (lv_sub hl [1, 2, 3, 0, 4] rfl)
  refine lv_iconst (v := 0) hx hb dX4_lacking_0 (by decide) ?_
  refine lv_istore_n (lv' := [(3, .int 0), (0, .ref (q 88)), (1, .int p1), (2, .int p2)]) hx hb dX4_lacking_1 rfl hl (by decide) rfl (fun ls hl => ?_)
  refine lv_iconst (v := 0) hx hb dX4_lacking_2 (by decide) ?_
  refine lv_istore (lv' := [(4, .int 0), (3, .int 0), (0, .ref (q 88)), (1, .int p1), (2, .int p2)]) hx hb dX4_lacking_3 hl (by decide) rfl (fun ls hl => ?_)
  exact J5 _ 0 0 w _ _ ls (Nat.lt_succ_self _) hW_w Sm.rf (In_lit (n := 0) (by decide) (by decide) : In 0 40 0) hP hD hS (lv_sub hl [2, 3, 4, 1, 0] rfl)
set_option maxRecDepth 100000 in
set_option maxHeartbeats 8000000 in
theorem k_X4_total (l : Launch) (D : va_G) (cI cJ cZ : ClassId) (q : Nat → Nat) (bb bs bp : Nat) (w : va_W) (hW_w : HT q (TX q cI cJ cZ bb bs bp) w) (p1 : Int32) : Con_i l yX4_total cX4_total 4 (some .int) ({ frames := 1, cells := 0, slots := 0, locals := 24 }) D cI cJ cZ eW [.ref (q 88), .int p1] w (fun (r : Int32) (w1 : va_W) => HT q (TX q cI cJ cZ bb bs bp) w1 ∧ Sm [] [] w w1) := by
  refine eQ_i rfl (by decide) (Nat.le_of_ble_eq_true rfl) ⟨rfl, rfl⟩ ?_
  intro p e R s m args below meth c A Q hx hb hml hown hts hK hE hA hR hret hP hD hS ls hl
  have hown : s.vm.findClass RX4 = some m.cls := hown
  have hl : lv_has ls 4 [(0, .ref (q 88)), (1, .int p1)] := hl
  have J18 : ∀ (N : Nat) (x18_2 : Int32) (x18_3 : Int32) (w18 : va_W) (H : Heap) (locs : List Loc) (ls : Array Slot), (40 - x18_3.toInt).toNat < N → HT q (TX q cI cJ cZ bb bs bp) w18 → Sm [] [] w w18 → (In 1 1 p1) → (In 0 40 x18_3) → va_P D vwCl w18 H → va_D A w18 → va_S A s.heap H locs → lv_has ls 4 [(0, .ref (q 88)), (1, .int p1), (2, .int x18_2), (3, .int x18_3)] → W p l e R s m args below meth c H locs 0 0 Q (F0 m 18 ls []) := by
    intro N
    induction N with
    | zero => intro x18_2 x18_3 w18 H locs ls hmu; exact absurd hmu (Nat.not_lt_zero _)
    | succ N ih18 =>
      intro x18_2 x18_3 w18 H locs ls hmu18 hW_w18 hM_w18 i_x18_1 i_x18_3 hP hD hS hl
      have J47 : ∀ (y47_0 : Int32) (w47 : va_W) (H : Heap) (locs : List Loc) (ls : Array Slot), HT q (TX q cI cJ cZ bb bs bp) w47 → Sm [] [] w w47 → (In 1 1 p1) → (In 0 39 x18_3) → (In 0 1 y47_0) → (In 1 40 (fI w47 88 1)) → va_P D vwCl w47 H → va_D A w47 → va_S A s.heap H locs → lv_has ls 4 [(0, .ref (q 88)), (1, .int p1), (2, .int x18_2), (3, .int x18_3)] → W p l e R s m args below meth c H locs 0 0 Q (F0 m 47 ls [.int y47_0, .int x18_2]) := by
        intro y47_0 w47 H locs ls hW_w47 hM_w47 i_x47_1 i_x47_3 i_y47_0 g47_88_1 hP hD hS hl
        refine lv_iadd hx hb dX4_total_47 ?_
        refine lv_topi (fun v_1 ev_1 => ?_)
        refine lv_istore_n (lv' := [(2, .int v_1), (0, .ref (q 88)), (1, .int p1), (3, .int x18_3)]) hx hb dX4_total_48 rfl hl (by decide) rfl (fun ls hl => ?_)
        refine lv_iinc (v := (x18_3 + 1)) (lv' := [(3, .int (x18_3 + 1)), (2, .int v_1), (0, .ref (q 88)), (1, .int p1)]) hx hb dX4_total_49 hl (k := 3) rfl (rfl) (by decide) rfl (fun ls hl => ?_)
        refine lv_goto (tgt := 18) hx hb dX4_total_52 (by decide) ?_
        exact ih18 v_1 (x18_3 + 1) w47 _ _ ls (mu_inc hmu18 i_x47_3 (In_lit (n := 1) (by decide) (by decide) : In 1 1 1) (by decide)) hW_w47 hM_w47 i_x18_1 (In_w ((In_add (y := 1) i_x47_3 (In_lit (n := 1) (by decide) (by decide) : In 1 1 1) (by decide)) : In 1 40 (x18_3 + 1)) (by decide) : In 0 40 (x18_3 + 1)) hP hD hS (lv_sub hl [2, 3, 1, 0] rfl)
      refine lv_iload_n hx hb dX4_total_18 rfl (lv_at hl 3 rfl) ?_
      refine lv_aload_n hx hb dX4_total_19 rfl (lv_at hl 0 rfl) ?_
      refine gt_X4 hx hb hts hown hK hP 88 (hW_w18.o tX_88) 1 (by decide) wd_569 rfl (hW_w18.fi tX_88 rfl) dX4_total_20 ?_
      refine tov (v := (fI w 88 1)) (hM_w18.gI (by decide)) ?_
      refine lv_icmp_ge (tgt := 55) hx hb dX4_total_23 (by decide) (fun c_2 => ?_) (fun c_2 => ?_)
      · refine lv_iload_n hx hb dX4_total_55 rfl (lv_at hl 2 rfl) ?_
        exact hret _ _ _ _ _ _ hP hD hS dX4_total_56 ⟨hW_w18, hM_w18⟩
      · refine lv_iload_n hx hb dX4_total_26 rfl (lv_at hl 2 rfl) ?_
        refine lv_aload_n hx hb dX4_total_27 rfl (lv_at hl 0 rfl) ?_
        refine gt_X4 hx hb hts hown hK hP 88 (hW_w18.o tX_88) 7 (by decide) wd_577 rfl (hW_w18.fr tX_88 rfl) dX4_total_28 ?_
        refine lv_iload_n hx hb dX4_total_31 rfl (lv_at hl 3 rfl) ?_
        refine va_iald hx hb hK hP 94 0 (hW_w18.a tX_94) rfl (in_I (R_nle_r (hW_w.fin tX_88 rfl : In 0 40 (fI w 88 1)) i_x18_3 c_2 (by decide) : In 0 39 x18_3) (by decide)) dX4_total_32 ?_
        refine lv_topi (fun v_3 ev_3 => ?_)
        refine lv_aload_n hx hb dX4_total_33 rfl (lv_at hl 0 rfl) ?_
        refine gt_X4 hx hb hts hown hK hP 88 (hW_w18.o tX_88) 5 (by decide) wd_575 rfl (hW_w18.fr tX_88 rfl) dX4_total_34 ?_
        refine lv_iload_n hx hb dX4_total_37 rfl (lv_at hl 3 rfl) ?_
        refine va_iald hx hb hK hP 92 0 (hW_w18.a tX_92) rfl (in_I (R_nle_r (hW_w.fin tX_88 rfl : In 0 40 (fI w 88 1)) i_x18_3 c_2 (by decide) : In 0 39 x18_3) (by decide)) dX4_total_38 ?_
        refine lv_topi (fun v_4 ev_4 => ?_)
        refine lv_icmp_ne (tgt := 46) hx hb dX4_total_39 (by decide) (fun c_5 => ?_) (fun c_5 => ?_)
        · refine lv_iconst (v := 0) hx hb dX4_total_46 (by decide) ?_
          exact J47 0 w18 _ _ ls hW_w18 hM_w18 i_x18_1 (R_nle_r (hW_w.fin tX_88 rfl : In 0 40 (fI w 88 1)) i_x18_3 c_2 (by decide) : In 0 39 x18_3) (In_lit (n := 0) (by decide) (by decide) : In 0 1 0) (In_of (hM_w18.gI (by decide)) (R_nle_l (hW_w.fin tX_88 rfl : In 0 40 (fI w 88 1)) i_x18_3 c_2 (by decide) : In 1 40 (fI w 88 1))) hP hD hS (lv_sub hl [0, 1, 2, 3] rfl)
        · refine lv_iconst (v := 1) hx hb dX4_total_42 (by decide) ?_
          refine lv_goto (tgt := 47) hx hb dX4_total_43 (by decide) ?_
          exact J47 1 w18 _ _ ls hW_w18 hM_w18 i_x18_1 (R_nle_r (hW_w.fin tX_88 rfl : In 0 40 (fI w 88 1)) i_x18_3 c_2 (by decide) : In 0 39 x18_3) (In_lit (n := 1) (by decide) (by decide) : In 0 1 1) (In_of (hM_w18.gI (by decide)) (R_nle_l (hW_w.fin tX_88 rfl : In 0 40 (fI w 88 1)) i_x18_3 c_2 (by decide) : In 1 40 (fI w 88 1))) hP hD hS (lv_sub hl [0, 1, 2, 3] rfl)
  have J64 : ∀ (N : Nat) (x64_2 : Int32) (x64_3 : Int32) (w64 : va_W) (H : Heap) (locs : List Loc) (ls : Array Slot), (10 - x64_3.toInt).toNat < N → HT q (TX q cI cJ cZ bb bs bp) w64 → Sm [] [] w w64 → (In 3 3 p1) → (In 0 10 x64_3) → va_P D vwCl w64 H → va_D A w64 → va_S A s.heap H locs → lv_has ls 4 [(0, .ref (q 88)), (1, .int p1), (2, .int x64_2), (3, .int x64_3)] → W p l e R s m args below meth c H locs 0 0 Q (F0 m 64 ls []) := by
    intro N
    induction N with
    | zero => intro x64_2 x64_3 w64 H locs ls hmu; exact absurd hmu (Nat.not_lt_zero _)
    | succ N ih64 =>
      intro x64_2 x64_3 w64 H locs ls hmu64 hW_w64 hM_w64 i_x64_1 i_x64_3 hP hD hS hl
      refine lv_iload_n hx hb dX4_total_64 rfl (lv_at hl 3 rfl) ?_
      refine lv_bipush (v := 10) hx hb dX4_total_65 (by decide) ?_
      refine lv_icmp_ge (tgt := 85) hx hb dX4_total_67 (by decide) (fun c_6 => ?_) (fun c_6 => ?_)
      · refine lv_iload_n hx hb dX4_total_85 rfl (lv_at hl 2 rfl) ?_
        exact hret _ _ _ _ _ _ hP hD hS dX4_total_86 ⟨hW_w64, hM_w64⟩
      · refine lv_iload_n hx hb dX4_total_70 rfl (lv_at hl 2 rfl) ?_
        refine lv_aload_n hx hb dX4_total_71 rfl (lv_at hl 0 rfl) ?_
        refine gt_X4 hx hb hts hown hK hP 88 (hW_w64.o tX_88) 9 (by decide) wd_581 rfl (hW_w64.fr tX_88 rfl) dX4_total_72 ?_
        refine lv_iload_n hx hb dX4_total_75 rfl (lv_at hl 3 rfl) ?_
        refine va_iald hx hb hK hP 96 0 (hW_w64.a tX_96) rfl (in_I (R_nle_r (In_lit (n := 10) (by decide) (by decide) : In 10 10 10) i_x64_3 c_6 (by decide) : In 0 9 x64_3) (by decide)) dX4_total_76 ?_
        refine lv_topi (fun v_7 ev_7 => ?_)
        refine lv_iadd hx hb dX4_total_77 ?_
        refine lv_topi (fun v_8 ev_8 => ?_)
        refine lv_istore_n (lv' := [(2, .int v_8), (0, .ref (q 88)), (1, .int p1), (3, .int x64_3)]) hx hb dX4_total_78 rfl hl (by decide) rfl (fun ls hl => ?_)
        refine lv_iinc (v := (x64_3 + 1)) (lv' := [(3, .int (x64_3 + 1)), (2, .int v_8), (0, .ref (q 88)), (1, .int p1)]) hx hb dX4_total_79 hl (k := 3) rfl (rfl) (by decide) rfl (fun ls hl => ?_)
        refine lv_goto (tgt := 64) hx hb dX4_total_82 (by decide) ?_
        exact ih64 v_8 (x64_3 + 1) w64 _ _ ls (mu_inc hmu64 (R_nle_r (In_lit (n := 10) (by decide) (by decide) : In 10 10 10) i_x64_3 c_6 (by decide) : In 0 9 x64_3) (In_lit (n := 1) (by decide) (by decide) : In 1 1 1) (by decide)) hW_w64 hM_w64 i_x64_1 (In_w ((In_add (y := 1) (R_nle_r (In_lit (n := 10) (by decide) (by decide) : In 10 10 10) i_x64_3 c_6 (by decide) : In 0 9 x64_3) (In_lit (n := 1) (by decide) (by decide) : In 1 1 1) (by decide)) : In 1 10 (x64_3 + 1)) (by decide) : In 0 10 (x64_3 + 1)) hP hD hS (lv_sub hl [2, 3, 1, 0] rfl)
  refine lv_iload_n hx hb dX4_total_0 rfl (lv_at hl 1 rfl) ?_
  refine lv_if_ne (tgt := 9) hx hb dX4_total_1 (by decide) (fun c_9 => ?_) (fun c_9 => ?_)
  · refine lv_iconst (v := 0) hx hb dX4_total_9 (by decide) ?_
    refine lv_istore_n (lv' := [(2, .int 0), (0, .ref (q 88)), (1, .int p1)]) hx hb dX4_total_10 rfl hl (by decide) rfl (fun ls hl => ?_)
    refine lv_iload_n hx hb dX4_total_11 rfl (lv_at hl 2 rfl) ?_
    refine lv_iconst (v := 1) hx hb dX4_total_12 (by decide) ?_
    refine lv_icmp_ne (tgt := 57) hx hb dX4_total_13 (by decide) (fun c_10 => ?_) (fun c_10 => ?_)
    · refine lv_iload_n hx hb dX4_total_57 rfl (lv_at hl 2 rfl) ?_
      refine lv_iconst (v := 3) hx hb dX4_total_58 (by decide) ?_
      refine lv_icmp_ne (tgt := 87) hx hb dX4_total_59 (by decide) (fun c_11 => ?_) (fun c_11 => ?_)
      · refine lv_iload_n hx hb dX4_total_87 rfl (lv_at hl 2 rfl) ?_
        refine lv_iconst (v := 2) hx hb dX4_total_88 (by decide) ?_
        refine lv_icmp_ne (tgt := 102) hx hb dX4_total_89 (by decide) (fun c_12 => ?_) (fun c_12 => ?_)
        · refine lv_iconst (v := (-1)) hx hb dX4_total_102 (by decide) ?_
          exact hret _ _ _ _ _ _ hP hD hS dX4_total_103 ⟨hW_w, Sm.rf⟩
        · refine lv_aload_n hx hb dX4_total_92 rfl (lv_at hl 1 rfl) ?_
          refine lv_iconst (v := 0) hx hb dX4_total_93 (by decide) ?_
          refine lv_bipush (v := 17) hx hb dX4_total_94 (by decide) ?_
          refine kW_i ⟨rfl, rfl⟩ hP hD hS hA (rW_V (As := [.int 0, .int 17]) (rest := []) hx hb hml hown hts hK hE hP hD (k_X4_lacking l D cI cJ cZ q bb bs bp w hW_w 0 17 _) ⟨⟨rfl, rfl⟩, rfl, rfl⟩ sv_X4_101 ⟨(Nat.le_trans (by decide) hR.1), (Nat.le_trans (by decide) hR.2)⟩ 88 4 (hW_w.o tX_88) rfl rfl rfl hl.1 rfl (Nat.le_of_ble_eq_true rfl) dX4_total_96) (fun r_14 w_13 H locs hw_w_13 hP hD hS => ?_)
          obtain ⟨hW_w_13, hs_w_13⟩ := hw_w_13
          refine lv_goto (tgt := 103) hx hb dX4_total_99 (by decide) ?_
          exact hret _ _ _ _ _ _ hP hD hS dX4_total_103 ⟨hW_w_13, (Sm.rf.tr hs_w_13 (by decide))⟩
      · refine lv_iconst (v := 0) hx hb dX4_total_62 (by decide) ?_
        refine lv_istore_n (lv' := [(3, .int 0), (2, .int 0), (0, .ref (q 88)), (1, .int p1)]) hx hb dX4_total_63 rfl hl (by decide) rfl (fun ls hl => ?_)
        exact J64 _ 0 0 w _ _ ls (Nat.lt_succ_self _) hW_w Sm.rf (R_eq_l (In_any _) (In_lit (n := 3) (by decide) (by decide) : In 3 3 3) c_11 (by decide) : In 3 3 p1) (In_lit (n := 0) (by decide) (by decide) : In 0 10 0) hP hD hS (lv_sub hl [2, 3, 1, 0] rfl)
    · refine lv_iconst (v := 0) hx hb dX4_total_16 (by decide) ?_
      refine lv_istore_n (lv' := [(3, .int 0), (2, .int 0), (0, .ref (q 88)), (1, .int p1)]) hx hb dX4_total_17 rfl hl (by decide) rfl (fun ls hl => ?_)
      exact J18 _ 0 0 w _ _ ls (Nat.lt_succ_self _) hW_w Sm.rf (R_eq_l (In_any _) (In_lit (n := 1) (by decide) (by decide) : In 1 1 1) c_10 (by decide) : In 1 1 p1) (In_lit (n := 0) (by decide) (by decide) : In 0 40 0) hP hD hS (lv_sub hl [2, 3, 1, 0] rfl)
  · refine lv_aload_n hx hb dX4_total_4 rfl (lv_at hl 0 rfl) ?_
    refine gt_X4 hx hb hts hown hK hP 88 (hW_w.o tX_88) 10 (by decide) wd_583 rfl (hW_w.fi tX_88 rfl) dX4_total_5 ?_
    exact hret _ _ _ _ _ _ hP hD hS dX4_total_8 ⟨hW_w, Sm.rf⟩
set_option maxRecDepth 100000 in
set_option maxHeartbeats 8000000 in
theorem k_X11_given (l : Launch) (D : va_G) (cI cJ cZ : ClassId) (q : Nat → Nat) (bp : Nat) (w : va_W) (hW_w : HT q (TX q cI cJ cZ 1 16 bp) w) (p1 : Int32) : Con_i l yX11_given cX11_given 2 (some .int) ({ frames := 2, cells := 0, slots := 0, locals := 47 }) D cI cJ cZ eW [.ref (q 0), .int p1] w (fun (r : Int32) (w1 : va_W) => HT q (TX q cI cJ cZ 1 16 bp) w1 ∧ Sm [] [] w w1) := by
  refine eQ_i rfl (by decide) (Nat.le_of_ble_eq_true rfl) ⟨rfl, rfl⟩ ?_
  intro p e R s m args below meth c A Q hx hb hml hown hts hK hE hA hR hret hP hD hS ls hl
  have hown : s.vm.findClass RX11 = some m.cls := hown
  have hl : lv_has ls 2 [(0, .ref (q 0)), (1, .int p1)] := hl
  refine lv_aload_n hx hb dX11_given_0 rfl (lv_at hl 0 rfl) ?_
  refine gt_X11 hx hb hts hown hK hP 0 (hW_w.o tX_0) 10 (by decide) wd_683 rfl (hW_w.fr tX_0 rfl) dX11_given_1 ?_
  refine gt_X4 hx hb hts hown hK hP 88 (hW_w.o tX_88) 0 (by decide) wd_567 rfl (hW_w.fi tX_88 rfl) dX11_given_4 ?_
  refine lv_if_eq (tgt := 21) hx hb dX11_given_7 (by decide) (fun c_1 => ?_) (fun c_1 => ?_)
  · refine lv_iconst (v := (-1)) hx hb dX11_given_21 (by decide) ?_
    exact hret _ _ _ _ _ _ hP hD hS dX11_given_22 ⟨hW_w, Sm.rf⟩
  · refine lv_aload_n hx hb dX11_given_10 rfl (lv_at hl 0 rfl) ?_
    refine gt_X11 hx hb hts hown hK hP 0 (hW_w.o tX_0) 10 (by decide) wd_683 rfl (hW_w.fr tX_0 rfl) dX11_given_11 ?_
    refine lv_iload_n hx hb dX11_given_14 rfl (lv_at hl 1 rfl) ?_
    refine kW_i ⟨rfl, rfl⟩ hP hD hS hA (rW_V (As := [.int p1]) (rest := []) hx hb hml hown hts hK hE hP hD (k_X4_total l D cI cJ cZ q 1 16 bp w hW_w p1 _) ⟨⟨rfl, rfl⟩, rfl, rfl⟩ sv_X11_276 ⟨(Nat.le_trans (by decide) hR.1), (Nat.le_trans (by decide) hR.2)⟩ 88 4 (hW_w.o tX_88) rfl rfl rfl hl.1 rfl (Nat.le_of_ble_eq_true rfl) dX11_given_15) (fun r_3 w_2 H locs hw_w_2 hP hD hS => ?_)
    obtain ⟨hW_w_2, hs_w_2⟩ := hw_w_2
    refine lv_goto (tgt := 22) hx hb dX11_given_18 (by decide) ?_
    exact hret _ _ _ _ _ _ hP hD hS dX11_given_22 ⟨hW_w_2, (Sm.rf.tr hs_w_2 (by decide))⟩
set_option maxRecDepth 100000 in
set_option maxHeartbeats 8000000 in
theorem k_X4_isChild (l : Launch) (D : va_G) (cI cJ cZ : ClassId) (q : Nat → Nat) (bb bs bp : Nat) (w : va_W) (hW_w : HT q (TX q cI cJ cZ bb bs bp) w) (p1 : Int32) : Con_i l yX4_isChild cX4_isChild 2 (some .boolean) ({ frames := 0, cells := 0, slots := 0, locals := 0 }) D cI cJ cZ eW [.ref (q 88), .int p1] w (fun (r : Int32) (w1 : va_W) => HT q (TX q cI cJ cZ bb bs bp) w1 ∧ Sm [] [] w w1 ∧ In 0 1 r ∧ (¬ r = 0 → In 0 39 p1)) := by
  refine eQ_z rfl (by decide) (Nat.le_of_ble_eq_true rfl) ⟨rfl, rfl⟩ ?_
  intro p e R s m args below meth c A Q hx hb hml hown hts hK hE hA hR hret hP hD hS ls hl
  have hown : s.vm.findClass RX4 = some m.cls := hown
  have hl : lv_has ls 2 [(0, .ref (q 88)), (1, .int p1)] := hl
  refine lv_aload_n hx hb dX4_isChild_0 rfl (lv_at hl 0 rfl) ?_
  refine gt_X4 hx hb hts hown hK hP 88 (hW_w.o tX_88) 0 (by decide) wd_566 rfl (hW_w.fi tX_88 rfl) dX4_isChild_1 ?_
  refine lv_if_eq (tgt := 23) hx hb dX4_isChild_4 (by decide) (fun c_1 => ?_) (fun c_1 => ?_)
  · refine lv_iconst (v := 0) hx hb dX4_isChild_23 (by decide) ?_
    exact hret _ _ _ _ _ _ hP hD hS dX4_isChild_24 (In_lit (n := 0) (by decide) (by decide) : In 0 1 0) ⟨hW_w, Sm.rf, (In_lit (n := 0) (by decide) (by decide) : In 0 1 0), (fun h => absurd rfl h)⟩
  · refine lv_iload_n hx hb dX4_isChild_7 rfl (lv_at hl 1 rfl) ?_
    refine lv_if_lt (tgt := 23) hx hb dX4_isChild_8 (by decide) (fun c_2 => ?_) (fun c_2 => ?_)
    · refine lv_iconst (v := 0) hx hb dX4_isChild_23 (by decide) ?_
      exact hret _ _ _ _ _ _ hP hD hS dX4_isChild_24 (In_lit (n := 0) (by decide) (by decide) : In 0 1 0) ⟨hW_w, Sm.rf, (In_lit (n := 0) (by decide) (by decide) : In 0 1 0), (fun h => absurd rfl h)⟩
    · refine lv_iload_n hx hb dX4_isChild_11 rfl (lv_at hl 1 rfl) ?_
      refine lv_aload_n hx hb dX4_isChild_12 rfl (lv_at hl 0 rfl) ?_
      refine gt_X4 hx hb hts hown hK hP 88 (hW_w.o tX_88) 1 (by decide) wd_569 rfl (hW_w.fi tX_88 rfl) dX4_isChild_13 ?_
      refine lv_icmp_ge (tgt := 23) hx hb dX4_isChild_16 (by decide) (fun c_3 => ?_) (fun c_3 => ?_)
      · refine lv_iconst (v := 0) hx hb dX4_isChild_23 (by decide) ?_
        exact hret _ _ _ _ _ _ hP hD hS dX4_isChild_24 (In_lit (n := 0) (by decide) (by decide) : In 0 1 0) ⟨hW_w, Sm.rf, (In_lit (n := 0) (by decide) (by decide) : In 0 1 0), (fun h => absurd rfl h)⟩
      · refine lv_iconst (v := 1) hx hb dX4_isChild_19 (by decide) ?_
        refine lv_goto (tgt := 24) hx hb dX4_isChild_20 (by decide) ?_
        exact hret _ _ _ _ _ _ hP hD hS dX4_isChild_24 (In_lit (n := 1) (by decide) (by decide) : In 0 1 1) ⟨hW_w, Sm.rf, (In_lit (n := 1) (by decide) (by decide) : In 0 1 1), (fun h => (R_nle_r (hW_w.fin tX_88 rfl : In 0 40 (fI w 88 1)) (R_nlt_l (In_any _) (In_lit (n := 0) (by decide) (by decide) : In 0 0 0) c_2 (by decide) : In 0 2147483647 p1) c_3 (by decide) : In 0 39 p1))⟩
set_option maxRecDepth 100000 in
set_option maxHeartbeats 8000000 in
theorem k_X11_gets (l : Launch) (D : va_G) (cI cJ cZ : ClassId) (q : Nat → Nat) (bp : Nat) (w : va_W) (hW_w : HT q (TX q cI cJ cZ 1 16 bp) w) (p1 : Int32) : Con_i l yX11_gets cX11_gets 2 (some .int) ({ frames := 1, cells := 0, slots := 0, locals := 21 }) D cI cJ cZ eW [.ref (q 0), .int p1] w (fun (r : Int32) (w1 : va_W) => HT q (TX q cI cJ cZ 1 16 bp) w1 ∧ Sm [] [] w w1) := by
  refine eQ_i rfl (by decide) (Nat.le_of_ble_eq_true rfl) ⟨rfl, rfl⟩ ?_
  intro p e R s m args below meth c A Q hx hb hml hown hts hK hE hA hR hret hP hD hS ls hl
  have hown : s.vm.findClass RX11 = some m.cls := hown
  have hl : lv_has ls 2 [(0, .ref (q 0)), (1, .int p1)] := hl
  refine lv_aload_n hx hb dX11_gets_0 rfl (lv_at hl 0 rfl) ?_
  refine gt_X11 hx hb hts hown hK hP 0 (hW_w.o tX_0) 10 (by decide) wd_683 rfl (hW_w.fr tX_0 rfl) dX11_gets_1 ?_
  refine lv_iload_n hx hb dX11_gets_4 rfl (lv_at hl 1 rfl) ?_
  refine kW_i ⟨rfl, rfl⟩ hP hD hS hA (rW_V (As := [.int p1]) (rest := []) hx hb hml hown hts hK hE hP hD (k_X4_isChild l D cI cJ cZ q 1 16 bp w hW_w p1 _) ⟨⟨rfl, rfl⟩, rfl, rfl⟩ sv_X11_279 ⟨(Nat.le_trans (by decide) hR.1), (Nat.le_trans (by decide) hR.2)⟩ 88 4 (hW_w.o tX_88) rfl rfl rfl hl.1 rfl (Nat.le_of_ble_eq_true rfl) dX11_gets_5) (fun r_2 w_1 H locs hw_w_1 hP hD hS => ?_)
  obtain ⟨hW_w_1, hs_w_1, i_r_2, h_3⟩ := hw_w_1
  refine lv_if_eq (tgt := 23) hx hb dX11_gets_8 (by decide) (fun c_4 => ?_) (fun c_4 => ?_)
  · refine lv_iconst (v := (-1)) hx hb dX11_gets_23 (by decide) ?_
    exact hret _ _ _ _ _ _ hP hD hS dX11_gets_24 ⟨hW_w_1, (Sm.rf.tr hs_w_1 (by decide))⟩
  · refine lv_aload_n hx hb dX11_gets_11 rfl (lv_at hl 0 rfl) ?_
    refine gt_X11 hx hb hts hown hK hP 0 (hW_w_1.o tX_0) 10 (by decide) wd_683 rfl (hW_w_1.fr tX_0 rfl) dX11_gets_12 ?_
    refine gt_X4 hx hb hts hown hK hP 88 (hW_w_1.o tX_88) 8 (by decide) wd_580 rfl (hW_w_1.fr tX_88 rfl) dX11_gets_15 ?_
    refine lv_iload_n hx hb dX11_gets_18 rfl (lv_at hl 1 rfl) ?_
    refine va_iald hx hb hK hP 95 0 (hW_w_1.a tX_95) rfl (in_I (h_3 c_4) (by decide)) dX11_gets_19 ?_
    refine lv_topi (fun v_5 ev_5 => ?_)
    refine lv_goto (tgt := 24) hx hb dX11_gets_20 (by decide) ?_
    exact hret _ _ _ _ _ _ hP hD hS dX11_gets_24 ⟨hW_w_1, (Sm.rf.tr hs_w_1 (by decide))⟩
set_option maxRecDepth 100000 in
set_option maxHeartbeats 8000000 in
theorem k_X11_left (l : Launch) (D : va_G) (cI cJ cZ : ClassId) (q : Nat → Nat) (bp : Nat) (w : va_W) (hW_w : HT q (TX q cI cJ cZ 1 16 bp) w) (p1 : Int32) : Con_i l yX11_left cX11_left 2 (some .int) ({ frames := 1, cells := 0, slots := 0, locals := 21 }) D cI cJ cZ eW [.ref (q 0), .int p1] w (fun (r : Int32) (w1 : va_W) => HT q (TX q cI cJ cZ 1 16 bp) w1 ∧ Sm [] [] w w1) := by
  refine eQ_i rfl (by decide) (Nat.le_of_ble_eq_true rfl) ⟨rfl, rfl⟩ ?_
  intro p e R s m args below meth c A Q hx hb hml hown hts hK hE hA hR hret hP hD hS ls hl
  have hown : s.vm.findClass RX11 = some m.cls := hown
  have hl : lv_has ls 2 [(0, .ref (q 0)), (1, .int p1)] := hl
  refine lv_aload_n hx hb dX11_left_0 rfl (lv_at hl 0 rfl) ?_
  refine gt_X11 hx hb hts hown hK hP 0 (hW_w.o tX_0) 10 (by decide) wd_683 rfl (hW_w.fr tX_0 rfl) dX11_left_1 ?_
  refine gt_X4 hx hb hts hown hK hP 88 (hW_w.o tX_88) 0 (by decide) wd_567 rfl (hW_w.fi tX_88 rfl) dX11_left_4 ?_
  refine lv_if_eq (tgt := 30) hx hb dX11_left_7 (by decide) (fun c_1 => ?_) (fun c_1 => ?_)
  · refine lv_iconst (v := (-1)) hx hb dX11_left_30 (by decide) ?_
    exact hret _ _ _ _ _ _ hP hD hS dX11_left_31 ⟨hW_w, Sm.rf⟩
  · refine lv_aload_n hx hb dX11_left_10 rfl (lv_at hl 0 rfl) ?_
    refine lv_iload_n hx hb dX11_left_11 rfl (lv_at hl 1 rfl) ?_
    refine kW_i ⟨rfl, rfl⟩ hP hD hS hA (rW_V (As := [.int p1]) (rest := []) hx hb hml hown hts hK hE hP hD (k_X11_isKind l D cI cJ cZ q bp w hW_w p1 _) ⟨⟨rfl, rfl⟩, rfl, rfl⟩ sv_X11_154 ⟨(Nat.le_trans (by decide) hR.1), (Nat.le_trans (by decide) hR.2)⟩ 0 11 (hW_w.o tX_0) rfl rfl rfl hl.1 rfl (Nat.le_of_ble_eq_true rfl) dX11_left_12) (fun r_3 w_2 H locs hw_w_2 hP hD hS => ?_)
    obtain ⟨hW_w_2, hs_w_2, i_r_3, h_4⟩ := hw_w_2
    refine lv_if_eq (tgt := 30) hx hb dX11_left_15 (by decide) (fun c_5 => ?_) (fun c_5 => ?_)
    · refine lv_iconst (v := (-1)) hx hb dX11_left_30 (by decide) ?_
      exact hret _ _ _ _ _ _ hP hD hS dX11_left_31 ⟨hW_w_2, (Sm.rf.tr hs_w_2 (by decide))⟩
    · refine lv_aload_n hx hb dX11_left_18 rfl (lv_at hl 0 rfl) ?_
      refine gt_X11 hx hb hts hown hK hP 0 (hW_w_2.o tX_0) 10 (by decide) wd_683 rfl (hW_w_2.fr tX_0 rfl) dX11_left_19 ?_
      refine gt_X4 hx hb hts hown hK hP 88 (hW_w_2.o tX_88) 9 (by decide) wd_582 rfl (hW_w_2.fr tX_88 rfl) dX11_left_22 ?_
      refine lv_iload_n hx hb dX11_left_25 rfl (lv_at hl 1 rfl) ?_
      refine va_iald hx hb hK hP 96 0 (hW_w_2.a tX_96) rfl (in_I (h_4 c_5).2 (by decide)) dX11_left_26 ?_
      refine lv_topi (fun v_6 ev_6 => ?_)
      refine lv_goto (tgt := 31) hx hb dX11_left_27 (by decide) ?_
      exact hret _ _ _ _ _ _ hP hD hS dX11_left_31 ⟨hW_w_2, (Sm.rf.tr hs_w_2 (by decide))⟩
set_option maxRecDepth 100000 in
set_option maxHeartbeats 8000000 in
theorem k_X3_takeRest_109 (l : Launch) (D : va_G) (cI cJ cZ : ClassId) (q : Nat → Nat) (bb bs bp : Nat) (w : va_W) (hW_w : HT q (TX q cI cJ cZ bb bs bp) w) (hf_64_1 : In 1 40 (fI w 64 1)) : Con_i l yX3_takeRest cX3_takeRest 4 (some .int) ({ frames := 0, cells := 0, slots := 0, locals := 0 }) D cI cJ cZ eW [.ref (q 64), .ref (q 109)] w (fun (r : Int32) (w1 : va_W) => HT q (TX q cI cJ cZ bb bs bp) w1 ∧ Sm [109] [] w w1) := by
  refine eQ_i rfl (by decide) (Nat.le_of_ble_eq_true rfl) ⟨rfl, rfl⟩ ?_
  intro p e R s m args below meth c A Q hx hb hml hown hts hK hE hA hR hret hP hD hS ls hl
  have hown : s.vm.findClass RX3 = some m.cls := hown
  have hl : lv_has ls 4 [(0, .ref (q 64)), (1, .ref (q 109))] := hl
  have J4 : ∀ (N : Nat) (x4_2 : Int32) (x4_3 : Int32) (w4 : va_W) (H : Heap) (locs : List Loc) (ls : Array Slot), (10 - x4_3.toInt).toNat < N → HT q (TX q cI cJ cZ bb bs bp) w4 → Sm [109] [] w w4 → (In 0 10 x4_3) → (In 1 40 (fI w4 64 1)) → va_P D vwCl w4 H → va_D A w4 → va_S A s.heap H locs → lv_has ls 4 [(0, .ref (q 64)), (1, .ref (q 109)), (2, .int x4_2), (3, .int x4_3)] → W p l e R s m args below meth c H locs 0 0 Q (F0 m 4 ls []) := by
    intro N
    induction N with
    | zero => intro x4_2 x4_3 w4 H locs ls hmu; exact absurd hmu (Nat.not_lt_zero _)
    | succ N ih4 =>
      intro x4_2 x4_3 w4 H locs ls hmu4 hW_w4 hM_w4 i_x4_3 g4_64_1 hP hD hS hl
      refine lv_iload_n hx hb dX3_takeRest_4 rfl (lv_at hl 3 rfl) ?_
      refine lv_aload_n hx hb dX3_takeRest_5 rfl (lv_at hl 0 rfl) ?_
      refine gt_X3 hx hb hts hown hK hP 64 (hW_w4.o tX_64) 0 (by decide) wd_400 rfl (hW_w4.fi tX_64 rfl) dX3_takeRest_6 ?_
      refine tov (v := (fI w 64 0)) (hM_w4.gI (by decide)) ?_
      refine lv_icmp_ge (tgt := 46) hx hb dX3_takeRest_9 (by decide) (fun c_1 => ?_) (fun c_1 => ?_)
      · refine lv_iload_n hx hb dX3_takeRest_46 rfl (lv_at hl 2 rfl) ?_
        exact hret _ _ _ _ _ _ hP hD hS dX3_takeRest_47 ⟨hW_w4, hM_w4⟩
      · refine lv_iload_n hx hb dX3_takeRest_12 rfl (lv_at hl 2 rfl) ?_
        refine lv_aload_n hx hb dX3_takeRest_13 rfl (lv_at hl 1 rfl) ?_
        refine lv_iload_n hx hb dX3_takeRest_14 rfl (lv_at hl 3 rfl) ?_
        refine va_iald hx hb hK hP 109 0 (hW_w4.a tX_109) rfl (in_I (R_nle_r (hW_w.fin tX_64 rfl : In 0 10 (fI w 64 0)) i_x4_3 c_1 (by decide) : In 0 9 x4_3) (by decide)) dX3_takeRest_15 ?_
        refine lv_topi (fun v_2 ev_2 => ?_)
        refine lv_aload_n hx hb dX3_takeRest_16 rfl (lv_at hl 0 rfl) ?_
        refine gt_X3 hx hb hts hown hK hP 64 (hW_w4.o tX_64) 11 (by decide) wd_433 rfl (hW_w4.fr tX_64 rfl) dX3_takeRest_17 ?_
        refine lv_iload_n hx hb dX3_takeRest_20 rfl (lv_at hl 3 rfl) ?_
        refine lv_bipush (v := 24) hx hb dX3_takeRest_21 (by decide) ?_
        refine lv_imul hx hb dX3_takeRest_23 ?_
        refine va_iald hx hb hK hP 73 0 (hW_w4.a tX_73) rfl (in_I ((In_mulr (R_nle_r (hW_w.fin tX_64 rfl : In 0 10 (fI w 64 0)) i_x4_3 c_1 (by decide) : In 0 9 x4_3) (n := 24) (by decide) (by decide)) : In 0 216 (x4_3 * 24)) (by decide)) dX3_takeRest_24 ?_
        refine lv_topi (fun v_3 ev_3 => ?_)
        refine lv_isub hx hb dX3_takeRest_25 ?_
        refine lv_topi (fun v_4 ev_4 => ?_)
        refine lv_iadd hx hb dX3_takeRest_26 ?_
        refine lv_topi (fun v_5 ev_5 => ?_)
        refine lv_istore_n (lv' := [(2, .int v_5), (0, .ref (q 64)), (1, .ref (q 109)), (3, .int x4_3)]) hx hb dX3_takeRest_27 rfl hl (by decide) rfl (fun ls hl => ?_)
        refine lv_aload_n hx hb dX3_takeRest_28 rfl (lv_at hl 2 rfl) ?_
        refine lv_iload_n hx hb dX3_takeRest_29 rfl (lv_at hl 3 rfl) ?_
        refine lv_aload_n hx hb dX3_takeRest_30 rfl (lv_at hl 1 rfl) ?_
        refine gt_X3 hx hb hts hown hK hP 64 (hW_w4.o tX_64) 11 (by decide) wd_433 rfl (hW_w4.fr tX_64 rfl) dX3_takeRest_31 ?_
        refine lv_iload_n hx hb dX3_takeRest_34 rfl (lv_at hl 3 rfl) ?_
        refine lv_bipush (v := 24) hx hb dX3_takeRest_35 (by decide) ?_
        refine lv_imul hx hb dX3_takeRest_37 ?_
        refine va_iald hx hb hK hP 73 0 (hW_w4.a tX_73) rfl (in_I ((In_mulr (R_nle_r (hW_w.fin tX_64 rfl : In 0 10 (fI w 64 0)) i_x4_3 c_1 (by decide) : In 0 9 x4_3) (n := 24) (by decide) (by decide)) : In 0 216 (x4_3 * 24)) (by decide)) dX3_takeRest_38 ?_
        refine tov (v := v_3) ((congrFun (hM_w4.hA (by decide)) _).trans ((congrFun (hM_w4.hA (by decide)) _).symm.trans ev_3.symm)) ?_
        refine va_iast hx hb hK hP hD hS 109 0 (hW_w4.a tX_109) rfl (in_I (R_nle_r (hW_w.fin tX_64 rfl : In 0 10 (fI w 64 0)) i_x4_3 c_1 (by decide) : In 0 9 x4_3) (by decide)) dX3_takeRest_39 (fun H locs hP hD hS => fr_w (hW_w4.uA tX_109 (In_any _)) hP hD (fun w_6 ew_6 hW_w_6 hP hD => ?_))
        refine lv_iinc (v := (x4_3 + 1)) (lv' := [(3, .int (x4_3 + 1)), (2, .int v_5), (0, .ref (q 64)), (1, .ref (q 109))]) hx hb dX3_takeRest_40 hl (k := 3) rfl (rfl) (by decide) rfl (fun ls hl => ?_)
        refine lv_goto (tgt := 4) hx hb dX3_takeRest_43 (by decide) ?_
        exact ih4 v_5 (x4_3 + 1) w_6 _ _ ls (mu_inc hmu4 (R_nle_r (hW_w.fin tX_64 rfl : In 0 10 (fI w 64 0)) i_x4_3 c_1 (by decide) : In 0 9 x4_3) (In_lit (n := 1) (by decide) (by decide) : In 1 1 1) (by decide)) hW_w_6 (hM_w4.sa ew_6 (by decide)) (In_w ((In_add (y := 1) (R_nle_r (hW_w.fin tX_64 rfl : In 0 10 (fI w 64 0)) i_x4_3 c_1 (by decide) : In 0 9 x4_3) (In_lit (n := 1) (by decide) (by decide) : In 1 1 1) (by decide)) : In 1 10 (x4_3 + 1)) (by decide) : In 0 10 (x4_3 + 1)) (In_of ((fI_cg (st_ne ew_6 (by decide))).trans (hM_w4.gI (by decide))) (In_of (hM_w4.gI (by decide)).symm g4_64_1)) hP hD hS (lv_sub hl [2, 3, 1, 0] rfl)
  refine lv_iconst (v := 0) hx hb dX3_takeRest_0 (by decide) ?_
  refine lv_istore_n (lv' := [(2, .int 0), (0, .ref (q 64)), (1, .ref (q 109))]) hx hb dX3_takeRest_1 rfl hl (by decide) rfl (fun ls hl => ?_)
  refine lv_iconst (v := 0) hx hb dX3_takeRest_2 (by decide) ?_
  refine lv_istore_n (lv' := [(3, .int 0), (2, .int 0), (0, .ref (q 64)), (1, .ref (q 109))]) hx hb dX3_takeRest_3 rfl hl (by decide) rfl (fun ls hl => ?_)
  exact J4 _ 0 0 w _ _ ls (Nat.lt_succ_self _) hW_w Sm.rf (In_lit (n := 0) (by decide) (by decide) : In 0 10 0) hf_64_1 hP hD hS (lv_sub hl [2, 3, 1, 0] rfl)
set_option maxRecDepth 100000 in
set_option maxHeartbeats 8000000 in
theorem k_X11_blind (l : Launch) (D : va_G) (cI cJ cZ : ClassId) (q : Nat → Nat) (bp : Nat) (w : va_W) (hW_w : HT q (TX q cI cJ cZ 1 16 bp) w) (hLD : LD w) (b : Int) (hbb : b + 10560 ≤ 2147483647) (hSB : SB b w) : Con_i l yX11_blind cX11_blind 3 (some .int) ({ frames := 7, cells := 0, slots := 0, locals := 168 }) D cI cJ cZ eW [.ref (q 0)] w (fun (r : Int32) (w1 : va_W) => HT q (TX q cI cJ cZ 1 16 bp) w1 ∧ Sm [42, 43, 44, 45, 46, 47, 48, 49, 50, 51, 52, 53, 54, 55, 57, 58, 59, 60, 61, 62, 63, 64, 65, 66, 67, 68, 69, 70, 71, 72, 73, 74, 75, 76, 77, 78, 79, 80, 81, 82, 83, 84, 85, 86, 87, 109] [(42, 0), (42, 1), (42, 2), (64, 0), (64, 1), (64, 2), (74, 5), (74, 6), (74, 9), (74, 10), (81, 2), (81, 4), (81, 10), (81, 11), (81, 12), (81, 13), (81, 14), (81, 15)] w w1 ∧ (SB (b + 10560) w1)) := by
  refine eQ_i rfl (by decide) (Nat.le_of_ble_eq_true rfl) ⟨rfl, rfl⟩ ?_
  intro p e R s m args below meth c A Q hx hb hml hown hts hK hE hA hR hret hP hD hS ls hl
  have hown : s.vm.findClass RX11 = some m.cls := hown
  have hl : lv_has ls 3 [(0, .ref (q 0))] := hl
  have J16 : ∀ (N : Nat) (x16_1 : Int32) (x16_2 : Int32) (w16 : va_W) (H : Heap) (locs : List Loc) (ls : Array Slot), (25 - x16_2.toInt).toNat < N → HT q (TX q cI cJ cZ 1 16 bp) w16 → Sm [42, 43, 44, 45, 46, 47, 48, 49, 50, 51, 52, 53, 54, 55, 57, 58, 59, 60, 61, 62, 63, 64, 65, 66, 67, 68, 69, 70, 71, 72, 73, 74, 75, 76, 77, 78, 79, 80, 81, 82, 83, 84, 85, 86, 87, 109] [(42, 0), (42, 1), (42, 2), (64, 0), (64, 1), (64, 2), (74, 5), (74, 6), (74, 9), (74, 10), (81, 2), (81, 4), (81, 10), (81, 11), (81, 12), (81, 13), (81, 14), (81, 15)] w w16 → (In 1 25 x16_2) → (SB (b + 440 * ((x16_2 : Int32).toInt - 1)) w16) → va_P D vwCl w16 H → va_D A w16 → va_S A s.heap H locs → lv_has ls 3 [(0, .ref (q 0)), (1, .int x16_1), (2, .int x16_2)] → W p l e R s m args below meth c H locs 0 0 Q (F0 m 16 ls []) := by
    intro N
    induction N with
    | zero => intro x16_1 x16_2 w16 H locs ls hmu; exact absurd hmu (Nat.not_lt_zero _)
    | succ N ih16 =>
      intro x16_1 x16_2 w16 H locs ls hmu16 hW_w16 hM_w16 i_x16_2 hs_16 hP hD hS hl
      have J106 : ∀ (x106_1 : Int32) (w106 : va_W) (H : Heap) (locs : List Loc) (ls : Array Slot), HT q (TX q cI cJ cZ 1 16 bp) w106 → Sm [42, 43, 44, 45, 46, 47, 48, 49, 50, 51, 52, 53, 54, 55, 57, 58, 59, 60, 61, 62, 63, 64, 65, 66, 67, 68, 69, 70, 71, 72, 73, 74, 75, 76, 77, 78, 79, 80, 81, 82, 83, 84, 85, 86, 87, 109] [(42, 0), (42, 1), (42, 2), (64, 0), (64, 1), (64, 2), (74, 5), (74, 6), (74, 9), (74, 10), (81, 2), (81, 4), (81, 10), (81, 11), (81, 12), (81, 13), (81, 14), (81, 15)] w w106 → (In 1 24 x16_2) → (SB (b + 440 * ((x16_2 : Int32).toInt - 0)) w106) → va_P D vwCl w106 H → va_D A w106 → va_S A s.heap H locs → lv_has ls 3 [(0, .ref (q 0)), (1, .int x106_1), (2, .int x16_2)] → W p l e R s m args below meth c H locs 0 0 Q (F0 m 106 ls []) := by
        intro x106_1 w106 H locs ls hW_w106 hM_w106 i_x106_2 hs_106 hP hD hS hl
        refine lv_iinc (v := (x16_2 + 1)) (lv' := [(2, .int (x16_2 + 1)), (0, .ref (q 0)), (1, .int x106_1)]) hx hb dX11_blind_106 hl (k := 2) rfl (rfl) (by decide) rfl (fun ls hl => ?_)
        refine lv_goto (tgt := 16) hx hb dX11_blind_109 (by decide) ?_
        exact ih16 x106_1 (x16_2 + 1) w106 _ _ ls (mu_inc hmu16 i_x106_2 (In_lit (n := 1) (by decide) (by decide) : In 1 1 1) (by decide)) hW_w106 hM_w106 (In_w ((In_add (y := 1) i_x106_2 (In_lit (n := 1) (by decide) (by decide) : In 1 1 1) (by decide)) : In 2 25 (x16_2 + 1)) (by decide) : In 1 25 (x16_2 + 1)) (SB_w hs_106 (by have t11 := t_add i_x106_2 (In_lit (n := 1) (by decide) (by decide) : In 1 1 1) (by decide); have z1 : (1 : Int32).toInt = 1 := (by decide); omega)) hP hD hS (lv_sub hl [1, 2, 0] rfl)
      refine lv_iload_n hx hb dX11_blind_16 rfl (lv_at hl 2 rfl) ?_
      refine lv_bipush (v := 24) hx hb dX11_blind_17 (by decide) ?_
      refine lv_icmp_gt (tgt := 112) hx hb dX11_blind_19 (by decide) (fun c_1 => ?_) (fun c_1 => ?_)
      · refine lv_iload_n hx hb dX11_blind_112 rfl (lv_at hl 1 rfl) ?_
        exact hret _ _ _ _ _ _ hP hD hS dX11_blind_113 ⟨hW_w16, hM_w16, (SB_w hs_16 (by have q := (In_w (R_lt_r (In_lit (n := 24) (by decide) (by decide) : In 24 24 24) i_x16_2 c_1 (by decide) : In 25 25 x16_2) (by decide) : In 1 25 x16_2); unfold In at q; omega))⟩
      · refine lv_aload_n hx hb dX11_blind_22 rfl (lv_at hl 0 rfl) ?_
        refine gt_X11 hx hb hts hown hK hP 0 (hW_w16.o tX_0) 5 (by decide) wd_678 rfl (hW_w16.fr tX_0 rfl) dX11_blind_23 ?_
        refine lv_aload_n hx hb dX11_blind_26 rfl (lv_at hl 0 rfl) ?_
        refine gt_X11 hx hb hts hown hK hP 0 (hW_w16.o tX_0) 13 (by decide) wd_686 rfl (hW_w16.fr tX_0 rfl) dX11_blind_27 ?_
        refine lv_iload_n hx hb dX11_blind_30 rfl (lv_at hl 2 rfl) ?_
        refine lv_aload_n hx hb dX11_blind_31 rfl (lv_at hl 0 rfl) ?_
        refine gt_X11 hx hb hts hown hK hP 0 (hW_w16.o tX_0) 0 (by decide) wd_673 rfl (hW_w16.fr tX_0 rfl) dX11_blind_32 ?_
        refine gt_X1 hx hb hts hown hK hP 1 (hW_w16.o tX_1) 0 (by decide) wd_39 rfl (hW_w16.fi tX_1 rfl) dX11_blind_35 ?_
        refine tov (v := (fI w 1 0)) (hM_w16.gI (by decide)) ?_
        refine kW_v ⟨rfl, rfl⟩ hP hD hS hA (rW_V (As := [.ref (q 109), .int x16_2, .int (fI w 1 0)]) (rest := []) hx hb hml hown hts hK hE hP hD (k_X6_addCome_109 l D cI cJ cZ q 1 16 bp w16 hW_w16 x16_2 (fI w 1 0) (R_nlt_r (In_lit (n := 24) (by decide) (by decide) : In 24 24 24) i_x16_2 c_1 (by decide) : In 1 24 x16_2) (hW_w.fin tX_1 rfl : In 0 10 (fI w 1 0)) _) ⟨⟨rfl, rfl⟩, rfl, rfl⟩ sv_X11_261 ⟨(Nat.le_trans (by decide) hR.1), (Nat.le_trans (by decide) hR.2)⟩ 42 6 (hW_w16.o tX_42) rfl rfl rfl hl.1 rfl (Nat.le_of_ble_eq_true rfl) dX11_blind_38) (fun w_2 H locs hw_w_2 hP hD hS => ?_)
        obtain ⟨hW_w_2, hs_w_2⟩ := hw_w_2
        refine lv_aload_n hx hb dX11_blind_41 rfl (lv_at hl 0 rfl) ?_
        refine gt_X11 hx hb hts hown hK hP 0 (hW_w_2.o tX_0) 7 (by decide) wd_680 rfl (hW_w_2.fr tX_0 rfl) dX11_blind_42 ?_
        refine lv_aload_n hx hb dX11_blind_45 rfl (lv_at hl 0 rfl) ?_
        refine gt_X11 hx hb hts hown hK hP 0 (hW_w_2.o tX_0) 0 (by decide) wd_673 rfl (hW_w_2.fr tX_0 rfl) dX11_blind_46 ?_
        refine gt_X1 hx hb hts hown hK hP 1 (hW_w_2.o tX_1) 0 (by decide) wd_39 rfl (hW_w_2.fi tX_1 rfl) dX11_blind_49 ?_
        refine tov (v := (fI w 1 0)) ((hs_w_2.gI (by decide)).trans (hM_w16.gI (by decide))) ?_
        refine kW_v ⟨rfl, rfl⟩ hP hD hS hA (rW_V (As := [.int (fI w 1 0)]) (rest := []) hx hb hml hown hts hK hE hP hD (k_X3_clear l D cI cJ cZ q 1 16 bp w_2 hW_w_2 (fI w 1 0) (hW_w.fin tX_1 rfl : In 0 10 (fI w 1 0)) _) ⟨⟨rfl, rfl⟩, rfl, rfl⟩ sv_X11_252 ⟨(Nat.le_trans (by decide) hR.1), (Nat.le_trans (by decide) hR.2)⟩ 64 3 (hW_w_2.o tX_64) rfl rfl rfl hl.1 rfl (Nat.le_of_ble_eq_true rfl) dX11_blind_52) (fun w_4 H locs hw_w_4 hP hD hS => ?_)
        obtain ⟨hW_w_4, hs_w_4, h_6, h_7, h_8⟩ := hw_w_4
        refine lv_aload_n hx hb dX11_blind_55 rfl (lv_at hl 0 rfl) ?_
        refine gt_X11 hx hb hts hown hK hP 0 (hW_w_4.o tX_0) 7 (by decide) wd_680 rfl (hW_w_4.fr tX_0 rfl) dX11_blind_56 ?_
        refine lv_aload_n hx hb dX11_blind_59 rfl (lv_at hl 0 rfl) ?_
        refine gt_X11 hx hb hts hown hK hP 0 (hW_w_4.o tX_0) 5 (by decide) wd_678 rfl (hW_w_4.fr tX_0 rfl) dX11_blind_60 ?_
        refine lv_aload_n hx hb dX11_blind_63 rfl (lv_at hl 0 rfl) ?_
        refine gt_X11 hx hb hts hown hK hP 0 (hW_w_4.o tX_0) 6 (by decide) wd_679 rfl (hW_w_4.fr tX_0 rfl) dX11_blind_64 ?_
        refine lv_iload_n hx hb dX11_blind_67 rfl (lv_at hl 2 rfl) ?_
        refine lv_aload_n hx hb dX11_blind_68 rfl (lv_at hl 0 rfl) ?_
        refine gt_X11 hx hb hts hown hK hP 0 (hW_w_4.o tX_0) 13 (by decide) wd_686 rfl (hW_w_4.fr tX_0 rfl) dX11_blind_69 ?_
        refine kW_v ⟨rfl, rfl⟩ hP hD hS hA (rW_V (As := [.ref (q 42), .ref (q 56), .int x16_2, .ref (q 109)]) (rest := []) hx hb hml hown hts hK hE hP hD (k_X3_addDay_42_56_109 l D cI cJ cZ q 1 16 bp w_4 hW_w_4 x16_2 (R_nlt_r (In_lit (n := 24) (by decide) (by decide) : In 24 24 24) i_x16_2 c_1 (by decide) : In 1 24 x16_2) (In_w h_7 (by decide) : In 0 23 (fI w_4 64 2)) (by intro hh; have i64_1 := h_6; unfold In at i64_1; have i64_2 := h_7; unfold In at i64_2; omega) _) ⟨⟨rfl, rfl⟩, rfl, rfl⟩ sv_X11_265 ⟨(Nat.le_trans (by decide) hR.1), (Nat.le_trans (by decide) hR.2)⟩ 64 3 (hW_w_4.o tX_64) rfl rfl rfl hl.1 rfl (Nat.le_of_ble_eq_true rfl) dX11_blind_72) (fun w_9 H locs hw_w_9 hP hD hS => ?_)
        obtain ⟨hW_w_9, hs_w_9, h_11, h_12, h_13⟩ := hw_w_9
        have n_h_12 : (fI w_9 64 2).toInt ≤ ((fI w_4 64 2) : Int32).toInt + 1 := (by omega)
        refine lv_aload_n hx hb dX11_blind_75 rfl (lv_at hl 0 rfl) ?_
        refine gt_X11 hx hb hts hown hK hP 0 (hW_w_9.o tX_0) 7 (by decide) wd_680 rfl (hW_w_9.fr tX_0 rfl) dX11_blind_76 ?_
        refine gt_X3 hx hb hts hown hK hP 64 (hW_w_9.o tX_64) 1 (by decide) wd_406 rfl (hW_w_9.fi tX_64 rfl) dX11_blind_79 ?_
        refine lv_if_le (tgt := 106) hx hb dX11_blind_82 (by decide) (fun c_14 => ?_) (fun c_14 => ?_)
        · exact J106 x16_1 w_9 _ _ ls hW_w_9 (((hM_w16.tr hs_w_2 (by decide)).tr hs_w_4 (by decide)).tr hs_w_9 (by decide)) (R_nlt_r (In_lit (n := 24) (by decide) (by decide) : In 24 24 24) i_x16_2 c_1 (by decide) : In 1 24 x16_2) (SB_w (SB_cg ((hs_w_9.hA (by decide)).trans ((hs_w_4.hA (by decide)).trans (hs_w_2.hA (by decide)))) ((hs_w_9.hA (by decide)).trans ((hs_w_4.hA (by decide)).trans (hs_w_2.hA (by decide)))) ((hs_w_9.gI (by decide)).trans ((hs_w_4.gI (by decide)).trans (hs_w_2.gI (by decide)))) hs_16) (by omega)) hP hD hS (lv_sub hl [0, 1, 2] rfl)
        · refine lv_aload_n hx hb dX11_blind_85 rfl (lv_at hl 0 rfl) ?_
          refine gt_X11 hx hb hts hown hK hP 0 (hW_w_9.o tX_0) 9 (by decide) wd_682 rfl (hW_w_9.fr tX_0 rfl) dX11_blind_86 ?_
          refine kW_v ⟨rfl, rfl⟩ hP hD hS hA (rW_V (As := []) (rest := []) hx hb hml hown hts hK hE hP hD (k_X9_deal l D cI cJ cZ q 1 16 bp w_9 hW_w_9 (by intro hh; have i64_1 := (R_nle_l (hW_w_9.fin tX_64 rfl : In 0 40 (fI w_9 64 1)) (In_lit (n := 0) (by decide) (by decide) : In 0 0 0) c_14 (by decide) : In 1 40 (fI w_9 64 1)); unfold In at i64_1; have i64_2 := (hW_w_9.fin tX_64 rfl : In 0 24 (fI w_9 64 2)); unfold In at i64_2; omega) (FB_FL (h_13 h_8)) ((b + 440 * ((x16_2 : Int32).toInt - 1))) ((by have q := (R_nlt_r (In_lit (n := 24) (by decide) (by decide) : In 24 24 24) i_x16_2 c_1 (by decide) : In 1 24 x16_2); unfold In at q; omega)) ((SB_cg ((hs_w_9.hA (by decide)).trans ((hs_w_4.hA (by decide)).trans (hs_w_2.hA (by decide)))) ((hs_w_9.hA (by decide)).trans ((hs_w_4.hA (by decide)).trans (hs_w_2.hA (by decide)))) ((hs_w_9.gI (by decide)).trans ((hs_w_4.gI (by decide)).trans (hs_w_2.gI (by decide)))) hs_16)) _) ⟨⟨rfl, rfl⟩, rfl, rfl⟩ sv_X11_269 ⟨(Nat.le_trans (by decide) hR.1), (Nat.le_trans (by decide) hR.2)⟩ 81 9 (hW_w_9.o tX_81) rfl rfl rfl hl.1 rfl (Nat.le_of_ble_eq_true rfl) dX11_blind_89) (fun w_15 H locs hw_w_15 hP hD hS => ?_)
          obtain ⟨hW_w_15, hs_w_15, h_17⟩ := hw_w_15
          refine lv_iload_n hx hb dX11_blind_92 rfl (lv_at hl 1 rfl) ?_
          refine lv_aload_n hx hb dX11_blind_93 rfl (lv_at hl 0 rfl) ?_
          refine gt_X11 hx hb hts hown hK hP 0 (hW_w_15.o tX_0) 7 (by decide) wd_680 rfl (hW_w_15.fr tX_0 rfl) dX11_blind_94 ?_
          refine lv_aload_n hx hb dX11_blind_97 rfl (lv_at hl 0 rfl) ?_
          refine gt_X11 hx hb hts hown hK hP 0 (hW_w_15.o tX_0) 13 (by decide) wd_686 rfl (hW_w_15.fr tX_0 rfl) dX11_blind_98 ?_
          refine kW_i ⟨rfl, rfl⟩ hP hD hS hA (rW_V (As := [.ref (q 109)]) (rest := [.int x16_1]) hx hb hml hown hts hK hE hP hD (k_X3_takeRest_109 l D cI cJ cZ q 1 16 bp w_15 hW_w_15 (In_of (hs_w_15.gI (by decide)) (R_nle_l (hW_w_9.fin tX_64 rfl : In 0 40 (fI w_9 64 1)) (In_lit (n := 0) (by decide) (by decide) : In 0 0 0) c_14 (by decide) : In 1 40 (fI w_9 64 1))) _) ⟨⟨rfl, rfl⟩, rfl, rfl⟩ sv_X11_289 ⟨(Nat.le_trans (by decide) hR.1), (Nat.le_trans (by decide) hR.2)⟩ 64 3 (hW_w_15.o tX_64) rfl rfl rfl hl.1 rfl (Nat.le_of_ble_eq_true rfl) dX11_blind_101) (fun r_19 w_18 H locs hw_w_18 hP hD hS => ?_)
          obtain ⟨hW_w_18, hs_w_18⟩ := hw_w_18
          refine lv_iadd hx hb dX11_blind_104 ?_
          refine lv_topi (fun v_20 ev_20 => ?_)
          refine lv_istore_n (lv' := [(1, .int v_20), (0, .ref (q 0)), (2, .int x16_2)]) hx hb dX11_blind_105 rfl hl (by decide) rfl (fun ls hl => ?_)
          exact J106 v_20 w_18 _ _ ls hW_w_18 (((((hM_w16.tr hs_w_2 (by decide)).tr hs_w_4 (by decide)).tr hs_w_9 (by decide)).tr hs_w_15 (by decide)).tr hs_w_18 (by decide)) (R_nlt_r (In_lit (n := 24) (by decide) (by decide) : In 24 24 24) i_x16_2 c_1 (by decide) : In 1 24 x16_2) (SB_w (SB_cg (hs_w_18.hA (by decide)) (hs_w_18.hA (by decide)) (hs_w_18.gI (by decide)) h_17) (by omega)) hP hD hS (lv_sub hl [1, 0, 2] rfl)
  refine lv_aload_n hx hb dX11_blind_0 rfl (lv_at hl 0 rfl) ?_
  refine kW_v ⟨rfl, rfl⟩ hP hD hS hA (rW_V (As := []) (rest := []) hx hb hml hown hts hK hE hP hD (k_X11_weighAll l D cI cJ cZ q bp w hW_w (LD_cg rfl rfl hLD) _) ⟨⟨rfl, rfl⟩, rfl, rfl⟩ sv_X11_249 ⟨(Nat.le_trans (by decide) hR.1), (Nat.le_trans (by decide) hR.2)⟩ 0 11 (hW_w.o tX_0) rfl rfl rfl hl.1 rfl (Nat.le_of_ble_eq_true rfl) dX11_blind_1) (fun w_21 H locs hw_w_21 hP hD hS => ?_)
  obtain ⟨hW_w_21, hs_w_21⟩ := hw_w_21
  refine lv_aload_n hx hb dX11_blind_4 rfl (lv_at hl 0 rfl) ?_
  refine gt_X11 hx hb hts hown hK hP 0 (hW_w_21.o tX_0) 13 (by decide) wd_686 rfl (hW_w_21.fr tX_0 rfl) dX11_blind_5 ?_
  refine lv_iconst (v := 0) hx hb dX11_blind_8 (by decide) ?_
  refine kW_v ⟨rfl, rfl⟩ hP hD hS hA (rW_S (As := [.ref (q 109), .int 0]) (rest := []) hx hb hml hown hts hK hE hP hD (k_J7_fill_53178_109 l D cI cJ cZ q 1 16 bp w_21 hW_w_21 0 (In_lit (n := 0) (by decide) (by decide) : In 0 0 0) _) ⟨⟨rfl, rfl⟩, rfl, rfl⟩ sv_X11_255 ⟨(Nat.le_trans (by decide) hR.1), (Nat.le_trans (by decide) hR.2)⟩ rfl hl.1 rfl (Nat.le_of_ble_eq_true rfl) dX11_blind_9) (fun w_23 H locs hw_w_23 hP hD hS => ?_)
  obtain ⟨hW_w_23, hs_w_23, h_25⟩ := hw_w_23
  refine lv_iconst (v := 0) hx hb dX11_blind_12 (by decide) ?_
  refine lv_istore_n (lv' := [(1, .int 0), (0, .ref (q 0))]) hx hb dX11_blind_13 rfl hl (by decide) rfl (fun ls hl => ?_)
  refine lv_iconst (v := 1) hx hb dX11_blind_14 (by decide) ?_
  refine lv_istore_n (lv' := [(2, .int 1), (1, .int 0), (0, .ref (q 0))]) hx hb dX11_blind_15 rfl hl (by decide) rfl (fun ls hl => ?_)
  exact J16 _ 0 1 w_23 _ _ ls (Nat.lt_succ_self _) hW_w_23 ((Sm.rf.tr hs_w_21 (by decide)).tr hs_w_23 (by decide)) (In_lit (n := 1) (by decide) (by decide) : In 1 25 1) (SB_w (SB_cg ((hs_w_23.hA (by decide)).trans (hs_w_21.hA (by decide))) ((hs_w_23.hA (by decide)).trans (hs_w_21.hA (by decide))) ((hs_w_23.gI (by decide)).trans (hs_w_21.gI (by decide))) hSB) (by have z1 : (1 : Int32).toInt = 1 := (by decide); omega)) hP hD hS (lv_sub hl [2, 1, 0] rfl)
set_option maxRecDepth 100000 in
set_option maxHeartbeats 8000000 in
theorem k_X11_lacks (l : Launch) (D : va_G) (cI cJ cZ : ClassId) (q : Nat → Nat) (bp : Nat) (w : va_W) (hW_w : HT q (TX q cI cJ cZ 1 16 bp) w) (p1 : Int32) (p2 : Int32) : Con_i l yX11_lacks cX11_lacks 3 (some .int) ({ frames := 1, cells := 0, slots := 0, locals := 24 }) D cI cJ cZ eW [.ref (q 0), .int p1, .int p2] w (fun (r : Int32) (w1 : va_W) => HT q (TX q cI cJ cZ 1 16 bp) w1 ∧ Sm [] [] w w1) := by
  refine eQ_i rfl (by decide) (Nat.le_of_ble_eq_true rfl) ⟨rfl, rfl⟩ ?_
  intro p e R s m args below meth c A Q hx hb hml hown hts hK hE hA hR hret hP hD hS ls hl
  have hown : s.vm.findClass RX11 = some m.cls := hown
  have hl : lv_has ls 3 [(0, .ref (q 0)), (1, .int p1), (2, .int p2)] := hl
  refine lv_aload_n hx hb dX11_lacks_0 rfl (lv_at hl 0 rfl) ?_
  refine gt_X11 hx hb hts hown hK hP 0 (hW_w.o tX_0) 10 (by decide) wd_683 rfl (hW_w.fr tX_0 rfl) dX11_lacks_1 ?_
  refine gt_X4 hx hb hts hown hK hP 88 (hW_w.o tX_88) 0 (by decide) wd_567 rfl (hW_w.fi tX_88 rfl) dX11_lacks_4 ?_
  refine lv_if_eq (tgt := 22) hx hb dX11_lacks_7 (by decide) (fun c_1 => ?_) (fun c_1 => ?_)
  · refine lv_iconst (v := (-1)) hx hb dX11_lacks_22 (by decide) ?_
    exact hret _ _ _ _ _ _ hP hD hS dX11_lacks_23 ⟨hW_w, Sm.rf⟩
  · refine lv_aload_n hx hb dX11_lacks_10 rfl (lv_at hl 0 rfl) ?_
    refine gt_X11 hx hb hts hown hK hP 0 (hW_w.o tX_0) 10 (by decide) wd_683 rfl (hW_w.fr tX_0 rfl) dX11_lacks_11 ?_
    refine lv_iload_n hx hb dX11_lacks_14 rfl (lv_at hl 1 rfl) ?_
    refine lv_iload_n hx hb dX11_lacks_15 rfl (lv_at hl 2 rfl) ?_
    refine kW_i ⟨rfl, rfl⟩ hP hD hS hA (rW_V (As := [.int p1, .int p2]) (rest := []) hx hb hml hown hts hK hE hP hD (k_X4_lacking l D cI cJ cZ q 1 16 bp w hW_w p1 p2 _) ⟨⟨rfl, rfl⟩, rfl, rfl⟩ sv_X11_293 ⟨(Nat.le_trans (by decide) hR.1), (Nat.le_trans (by decide) hR.2)⟩ 88 4 (hW_w.o tX_88) rfl rfl rfl hl.1 rfl (Nat.le_of_ble_eq_true rfl) dX11_lacks_16) (fun r_3 w_2 H locs hw_w_2 hP hD hS => ?_)
    obtain ⟨hW_w_2, hs_w_2⟩ := hw_w_2
    refine lv_goto (tgt := 23) hx hb dX11_lacks_19 (by decide) ?_
    exact hret _ _ _ _ _ _ hP hD hS dX11_lacks_23 ⟨hW_w_2, (Sm.rf.tr hs_w_2 (by decide))⟩
set_option maxRecDepth 100000 in
set_option maxHeartbeats 8000000 in
theorem k_X4_worthOf_1 (l : Launch) (D : va_G) (cI cJ cZ : ClassId) (q : Nat → Nat) (bb bs bp : Nat) (w : va_W) (hW_w : HT q (TX q cI cJ cZ bb bs bp) w) (p1 : Int32) (i_p1 : In 0 39 p1) : Con_i l yX4_worthOf cX4_worthOf 5 (some .int) ({ frames := 0, cells := 0, slots := 0, locals := 0 }) D cI cJ cZ eW [.ref (q 88), .int p1, .ref (q 1)] w (fun (r : Int32) (w1 : va_W) => HT q (TX q cI cJ cZ bb bs bp) w1 ∧ Sm [] [] w w1) := by
  refine eQ_i rfl (by decide) (Nat.le_of_ble_eq_true rfl) ⟨rfl, rfl⟩ ?_
  intro p e R s m args below meth c A Q hx hb hml hown hts hK hE hA hR hret hP hD hS ls hl
  have hown : s.vm.findClass RX4 = some m.cls := hown
  have hl : lv_has ls 5 [(0, .ref (q 88)), (1, .int p1), (2, .ref (q 1))] := hl
  have J5 : ∀ (N : Nat) (x5_3 : Int32) (x5_4 : Int32) (w5 : va_W) (H : Heap) (locs : List Loc) (ls : Array Slot), (10 - x5_4.toInt).toNat < N → HT q (TX q cI cJ cZ bb bs bp) w5 → Sm [] [] w w5 → (In 0 39 p1) → (In 0 10 x5_4) → va_P D vwCl w5 H → va_D A w5 → va_S A s.heap H locs → lv_has ls 5 [(0, .ref (q 88)), (1, .int p1), (2, .ref (q 1)), (3, .int x5_3), (4, .int x5_4)] → W p l e R s m args below meth c H locs 0 0 Q (F0 m 5 ls []) := by
    intro N
    induction N with
    | zero => intro x5_3 x5_4 w5 H locs ls hmu; exact absurd hmu (Nat.not_lt_zero _)
    | succ N ih5 =>
      intro x5_3 x5_4 w5 H locs ls hmu5 hW_w5 hM_w5 i_x5_1 i_x5_4 hP hD hS hl
      have J38 : ∀ (x38_3 : Int32) (w38 : va_W) (H : Heap) (locs : List Loc) (ls : Array Slot), HT q (TX q cI cJ cZ bb bs bp) w38 → Sm [] [] w w38 → (In 0 39 p1) → (In 0 9 x5_4) → (In 1 10 (fI w38 1 0)) → va_P D vwCl w38 H → va_D A w38 → va_S A s.heap H locs → lv_has ls 5 [(0, .ref (q 88)), (1, .int p1), (2, .ref (q 1)), (3, .int x38_3), (4, .int x5_4)] → W p l e R s m args below meth c H locs 0 0 Q (F0 m 38 ls []) := by
        intro x38_3 w38 H locs ls hW_w38 hM_w38 i_x38_1 i_x38_4 g38_1_0 hP hD hS hl
        refine lv_iinc (v := (x5_4 + 1)) (lv' := [(4, .int (x5_4 + 1)), (0, .ref (q 88)), (1, .int p1), (2, .ref (q 1)), (3, .int x38_3)]) hx hb dX4_worthOf_38 hl (k := 4) rfl (rfl) (by decide) rfl (fun ls hl => ?_)
        refine lv_goto (tgt := 5) hx hb dX4_worthOf_41 (by decide) ?_
        exact ih5 x38_3 (x5_4 + 1) w38 _ _ ls (mu_inc hmu5 i_x38_4 (In_lit (n := 1) (by decide) (by decide) : In 1 1 1) (by decide)) hW_w38 hM_w38 i_p1 (In_w ((In_add (y := 1) i_x38_4 (In_lit (n := 1) (by decide) (by decide) : In 1 1 1) (by decide)) : In 1 10 (x5_4 + 1)) (by decide) : In 0 10 (x5_4 + 1)) hP hD hS (lv_sub hl [1, 2, 3, 4, 0] rfl)
      refine lv_iload hx hb dX4_worthOf_5 (lv_at hl 4 rfl) ?_
      refine lv_aload_n hx hb dX4_worthOf_7 rfl (lv_at hl 2 rfl) ?_
      refine gt_X1 hx hb hts hown hK hP 1 (hW_w5.o tX_1) 0 (by decide) wd_37 rfl (hW_w5.fi tX_1 rfl) dX4_worthOf_8 ?_
      refine tov (v := (fI w 1 0)) (hM_w5.gI (by decide)) ?_
      refine lv_icmp_ge (tgt := 44) hx hb dX4_worthOf_11 (by decide) (fun c_1 => ?_) (fun c_1 => ?_)
      · refine lv_iload_n hx hb dX4_worthOf_44 rfl (lv_at hl 3 rfl) ?_
        exact hret _ _ _ _ _ _ hP hD hS dX4_worthOf_45 ⟨hW_w5, hM_w5⟩
      · refine lv_aload_n hx hb dX4_worthOf_14 rfl (lv_at hl 0 rfl) ?_
        refine gt_X4 hx hb hts hown hK hP 88 (hW_w5.o tX_88) 8 (by decide) wd_578 rfl (hW_w5.fr tX_88 rfl) dX4_worthOf_15 ?_
        refine lv_iload_n hx hb dX4_worthOf_18 rfl (lv_at hl 1 rfl) ?_
        refine va_iald hx hb hK hP 95 0 (hW_w5.a tX_95) rfl (in_I i_p1 (by decide)) dX4_worthOf_19 ?_
        refine lv_topi (fun v_2 ev_2 => ?_)
        refine lv_iload hx hb dX4_worthOf_20 (lv_at hl 4 rfl) ?_
        refine lv_ishr hx hb dX4_worthOf_22 ?_
        refine lv_topi (fun v_3 ev_3 => ?_)
        refine lv_iconst (v := 1) hx hb dX4_worthOf_23 (by decide) ?_
        refine lv_iand hx hb dX4_worthOf_24 ?_
        refine lv_if_eq (tgt := 38) hx hb dX4_worthOf_25 (by decide) (fun c_4 => ?_) (fun c_4 => ?_)
        · exact J38 x5_3 w5 _ _ ls hW_w5 hM_w5 i_p1 (R_nle_r (hW_w.fin tX_1 rfl : In 0 10 (fI w 1 0)) i_x5_4 c_1 (by decide) : In 0 9 x5_4) (In_of (hM_w5.gI (by decide)) (R_nle_l (hW_w.fin tX_1 rfl : In 0 10 (fI w 1 0)) i_x5_4 c_1 (by decide) : In 1 10 (fI w 1 0))) hP hD hS (lv_sub hl [0, 1, 2, 3, 4] rfl)
        · refine lv_iload_n hx hb dX4_worthOf_28 rfl (lv_at hl 3 rfl) ?_
          refine lv_aload_n hx hb dX4_worthOf_29 rfl (lv_at hl 2 rfl) ?_
          refine gt_X1 hx hb hts hown hK hP 1 (hW_w5.o tX_1) 2 (by decide) wd_47 rfl (hW_w5.fr tX_1 rfl) dX4_worthOf_30 ?_
          refine lv_iload hx hb dX4_worthOf_33 (lv_at hl 4 rfl) ?_
          refine va_iald hx hb hK hP 3 0 (hW_w5.a tX_3) rfl (in_I (R_nle_r (hW_w.fin tX_1 rfl : In 0 10 (fI w 1 0)) i_x5_4 c_1 (by decide) : In 0 9 x5_4) (by decide)) dX4_worthOf_35 ?_
          refine lv_topi (fun v_5 ev_5 => ?_)
          refine lv_iadd hx hb dX4_worthOf_36 ?_
          refine lv_topi (fun v_6 ev_6 => ?_)
          refine lv_istore_n (lv' := [(3, .int v_6), (0, .ref (q 88)), (1, .int p1), (2, .ref (q 1)), (4, .int x5_4)]) hx hb dX4_worthOf_37 rfl hl (by decide) rfl (fun ls hl => ?_)
          exact J38 v_6 w5 _ _ ls hW_w5 hM_w5 i_p1 (R_nle_r (hW_w.fin tX_1 rfl : In 0 10 (fI w 1 0)) i_x5_4 c_1 (by decide) : In 0 9 x5_4) (In_of (hM_w5.gI (by decide)) (R_nle_l (hW_w.fin tX_1 rfl : In 0 10 (fI w 1 0)) i_x5_4 c_1 (by decide) : In 1 10 (fI w 1 0))) hP hD hS (lv_sub hl [1, 2, 3, 0, 4] rfl)
  refine lv_iconst (v := 0) hx hb dX4_worthOf_0 (by decide) ?_
  refine lv_istore_n (lv' := [(3, .int 0), (0, .ref (q 88)), (1, .int p1), (2, .ref (q 1))]) hx hb dX4_worthOf_1 rfl hl (by decide) rfl (fun ls hl => ?_)
  refine lv_iconst (v := 0) hx hb dX4_worthOf_2 (by decide) ?_
  refine lv_istore (lv' := [(4, .int 0), (3, .int 0), (0, .ref (q 88)), (1, .int p1), (2, .ref (q 1))]) hx hb dX4_worthOf_3 hl (by decide) rfl (fun ls hl => ?_)
  exact J5 _ 0 0 w _ _ ls (Nat.lt_succ_self _) hW_w Sm.rf i_p1 (In_lit (n := 0) (by decide) (by decide) : In 0 10 0) hP hD hS (lv_sub hl [2, 3, 4, 1, 0] rfl)
set_option maxRecDepth 100000 in
set_option maxHeartbeats 8000000 in
theorem k_X4_greatest_1 (l : Launch) (D : va_G) (cI cJ cZ : ClassId) (q : Nat → Nat) (bb bs bp : Nat) (w : va_W) (hW_w : HT q (TX q cI cJ cZ bb bs bp) w) (p1 : Int32) (i_p1 : In 0 39 p1) : Con_i l yX4_greatest cX4_greatest 5 (some .int) ({ frames := 1, cells := 0, slots := 0, locals := 24 }) D cI cJ cZ eW [.ref (q 88), .int p1, .ref (q 1)] w (fun (r : Int32) (w1 : va_W) => HT q (TX q cI cJ cZ bb bs bp) w1 ∧ Sm [] [] w w1) := by
  refine eQ_i rfl (by decide) (Nat.le_of_ble_eq_true rfl) ⟨rfl, rfl⟩ ?_
  intro p e R s m args below meth c A Q hx hb hml hown hts hK hE hA hR hret hP hD hS ls hl
  have hown : s.vm.findClass RX4 = some m.cls := hown
  have hl : lv_has ls 5 [(0, .ref (q 88)), (1, .int p1), (2, .ref (q 1))] := hl
  have J21 : ∀ (N : Nat) (x21_3 : Int32) (x21_4 : Int32) (w21 : va_W) (H : Heap) (locs : List Loc) (ls : Array Slot), (40 - x21_4.toInt).toNat < N → HT q (TX q cI cJ cZ bb bs bp) w21 → Sm [] [] w w21 → (In 0 39 p1) → (In 0 40 x21_4) → va_P D vwCl w21 H → va_D A w21 → va_S A s.heap H locs → lv_has ls 5 [(0, .ref (q 88)), (1, .int p1), (2, .ref (q 1)), (3, .int x21_3), (4, .int x21_4)] → W p l e R s m args below meth c H locs 0 0 Q (F0 m 21 ls []) := by
    intro N
    induction N with
    | zero => intro x21_3 x21_4 w21 H locs ls hmu; exact absurd hmu (Nat.not_lt_zero _)
    | succ N ih21 =>
      intro x21_3 x21_4 w21 H locs ls hmu21 hW_w21 hM_w21 i_x21_1 i_x21_4 hP hD hS hl
      have J58 : ∀ (x58_3 : Int32) (w58 : va_W) (H : Heap) (locs : List Loc) (ls : Array Slot), HT q (TX q cI cJ cZ bb bs bp) w58 → Sm [] [] w w58 → (In 0 39 p1) → (In 0 39 x21_4) → (In 1 40 (fI w58 88 1)) → va_P D vwCl w58 H → va_D A w58 → va_S A s.heap H locs → lv_has ls 5 [(0, .ref (q 88)), (1, .int p1), (2, .ref (q 1)), (3, .int x58_3), (4, .int x21_4)] → W p l e R s m args below meth c H locs 0 0 Q (F0 m 58 ls []) := by
        intro x58_3 w58 H locs ls hW_w58 hM_w58 i_x58_1 i_x58_4 g58_88_1 hP hD hS hl
        refine lv_iinc (v := (x21_4 + 1)) (lv' := [(4, .int (x21_4 + 1)), (0, .ref (q 88)), (1, .int p1), (2, .ref (q 1)), (3, .int x58_3)]) hx hb dX4_greatest_58 hl (k := 4) rfl (rfl) (by decide) rfl (fun ls hl => ?_)
        refine lv_goto (tgt := 21) hx hb dX4_greatest_61 (by decide) ?_
        exact ih21 x58_3 (x21_4 + 1) w58 _ _ ls (mu_inc hmu21 i_x58_4 (In_lit (n := 1) (by decide) (by decide) : In 1 1 1) (by decide)) hW_w58 hM_w58 i_p1 (In_w ((In_add (y := 1) i_x58_4 (In_lit (n := 1) (by decide) (by decide) : In 1 1 1) (by decide)) : In 1 40 (x21_4 + 1)) (by decide) : In 0 40 (x21_4 + 1)) hP hD hS (lv_sub hl [1, 2, 3, 4, 0] rfl)
      refine lv_iload hx hb dX4_greatest_21 (lv_at hl 4 rfl) ?_
      refine lv_aload_n hx hb dX4_greatest_23 rfl (lv_at hl 0 rfl) ?_
      refine gt_X4 hx hb hts hown hK hP 88 (hW_w21.o tX_88) 1 (by decide) wd_569 rfl (hW_w21.fi tX_88 rfl) dX4_greatest_24 ?_
      refine tov (v := (fI w 88 1)) (hM_w21.gI (by decide)) ?_
      refine lv_icmp_ge (tgt := 64) hx hb dX4_greatest_27 (by decide) (fun c_1 => ?_) (fun c_1 => ?_)
      · refine lv_iload_n hx hb dX4_greatest_64 rfl (lv_at hl 3 rfl) ?_
        exact hret _ _ _ _ _ _ hP hD hS dX4_greatest_65 ⟨hW_w21, hM_w21⟩
      · refine lv_aload_n hx hb dX4_greatest_30 rfl (lv_at hl 0 rfl) ?_
        refine gt_X4 hx hb hts hown hK hP 88 (hW_w21.o tX_88) 3 (by decide) wd_571 rfl (hW_w21.fr tX_88 rfl) dX4_greatest_31 ?_
        refine lv_iload hx hb dX4_greatest_34 (lv_at hl 4 rfl) ?_
        refine va_iald hx hb hK hP 90 0 (hW_w21.a tX_90) rfl (in_I (R_nle_r (hW_w.fin tX_88 rfl : In 0 40 (fI w 88 1)) i_x21_4 c_1 (by decide) : In 0 39 x21_4) (by decide)) dX4_greatest_36 ?_
        refine lv_topi (fun v_2 ev_2 => ?_)
        refine lv_aload_n hx hb dX4_greatest_37 rfl (lv_at hl 0 rfl) ?_
        refine gt_X4 hx hb hts hown hK hP 88 (hW_w21.o tX_88) 3 (by decide) wd_571 rfl (hW_w21.fr tX_88 rfl) dX4_greatest_38 ?_
        refine lv_iload_n hx hb dX4_greatest_41 rfl (lv_at hl 1 rfl) ?_
        refine va_iald hx hb hK hP 90 0 (hW_w21.a tX_90) rfl (in_I i_p1 (by decide)) dX4_greatest_42 ?_
        refine lv_topi (fun v_3 ev_3 => ?_)
        refine lv_icmp_ne (tgt := 58) hx hb dX4_greatest_43 (by decide) (fun c_4 => ?_) (fun c_4 => ?_)
        · exact J58 x21_3 w21 _ _ ls hW_w21 hM_w21 i_p1 (R_nle_r (hW_w.fin tX_88 rfl : In 0 40 (fI w 88 1)) i_x21_4 c_1 (by decide) : In 0 39 x21_4) (In_of (hM_w21.gI (by decide)) (R_nle_l (hW_w.fin tX_88 rfl : In 0 40 (fI w 88 1)) i_x21_4 c_1 (by decide) : In 1 40 (fI w 88 1))) hP hD hS (lv_sub hl [0, 1, 2, 3, 4] rfl)
        · refine lv_iload_n hx hb dX4_greatest_46 rfl (lv_at hl 3 rfl) ?_
          refine lv_aload_n hx hb dX4_greatest_47 rfl (lv_at hl 0 rfl) ?_
          refine lv_iload hx hb dX4_greatest_48 (lv_at hl 4 rfl) ?_
          refine lv_aload_n hx hb dX4_greatest_50 rfl (lv_at hl 2 rfl) ?_
          refine kW_i ⟨rfl, rfl⟩ hP hD hS hA (rW_V (As := [.int x21_4, .ref (q 1)]) (rest := [.int x21_3]) hx hb hml hown hts hK hE hP hD (k_X4_worthOf_1 l D cI cJ cZ q bb bs bp w21 hW_w21 x21_4 (R_nle_r (hW_w.fin tX_88 rfl : In 0 40 (fI w 88 1)) i_x21_4 c_1 (by decide) : In 0 39 x21_4) _) ⟨⟨rfl, rfl⟩, rfl, rfl⟩ sv_X4_108 ⟨(Nat.le_trans (by decide) hR.1), (Nat.le_trans (by decide) hR.2)⟩ 88 4 (hW_w21.o tX_88) rfl rfl rfl hl.1 rfl (Nat.le_of_ble_eq_true rfl) dX4_greatest_51) (fun r_6 w_5 H locs hw_w_5 hP hD hS => ?_)
          obtain ⟨hW_w_5, hs_w_5⟩ := hw_w_5
          refine va_mmax hx hb (by rw [hml]; exact hl.1.symm) hown (hts _ wd_1295) (hts _ wd_999) (hts _ wd_18) (hts _ wd_1000) (Nat.le_trans (by decide) hR.1) (Nat.le_trans (Nat.le_of_ble_eq_true rfl) hR.2) (Nat.zero_le _) (Nat.zero_le _) dX4_greatest_54 ?_
          refine lv_topi (fun v_7 ev_7 => ?_)
          refine lv_istore_n (lv' := [(3, .int v_7), (0, .ref (q 88)), (1, .int p1), (2, .ref (q 1)), (4, .int x21_4)]) hx hb dX4_greatest_57 rfl hl (by decide) rfl (fun ls hl => ?_)
          exact J58 v_7 w_5 _ _ ls hW_w_5 (hM_w21.tr hs_w_5 (by decide)) i_p1 (R_nle_r (hW_w.fin tX_88 rfl : In 0 40 (fI w 88 1)) i_x21_4 c_1 (by decide) : In 0 39 x21_4) (In_of ((hs_w_5.gI (by decide)).trans (hM_w21.gI (by decide))) (R_nle_l (hW_w.fin tX_88 rfl : In 0 40 (fI w 88 1)) i_x21_4 c_1 (by decide) : In 1 40 (fI w 88 1))) hP hD hS (lv_sub hl [1, 2, 3, 0, 4] rfl)
  refine lv_aload_n hx hb dX4_greatest_0 rfl (lv_at hl 0 rfl) ?_
  refine lv_iload_n hx hb dX4_greatest_1 rfl (lv_at hl 1 rfl) ?_
  refine lv_aload_n hx hb dX4_greatest_2 rfl (lv_at hl 2 rfl) ?_
  refine kW_i ⟨rfl, rfl⟩ hP hD hS hA (rW_V (As := [.int p1, .ref (q 1)]) (rest := []) hx hb hml hown hts hK hE hP hD (k_X4_worthOf_1 l D cI cJ cZ q bb bs bp w hW_w p1 i_p1 _) ⟨⟨rfl, rfl⟩, rfl, rfl⟩ sv_X4_108 ⟨(Nat.le_trans (by decide) hR.1), (Nat.le_trans (by decide) hR.2)⟩ 88 4 (hW_w.o tX_88) rfl rfl rfl hl.1 rfl (Nat.le_of_ble_eq_true rfl) dX4_greatest_3) (fun r_9 w_8 H locs hw_w_8 hP hD hS => ?_)
  obtain ⟨hW_w_8, hs_w_8⟩ := hw_w_8
  refine lv_istore_n (lv' := [(3, .int r_9), (0, .ref (q 88)), (1, .int p1), (2, .ref (q 1))]) hx hb dX4_greatest_6 rfl hl (by decide) rfl (fun ls hl => ?_)
  refine lv_aload_n hx hb dX4_greatest_7 rfl (lv_at hl 1 rfl) ?_
  refine gt_X4 hx hb hts hown hK hP 88 (hW_w_8.o tX_88) 3 (by decide) wd_571 rfl (hW_w_8.fr tX_88 rfl) dX4_greatest_8 ?_
  refine lv_iload_n hx hb dX4_greatest_11 rfl (lv_at hl 2 rfl) ?_
  refine va_iald hx hb hK hP 90 0 (hW_w_8.a tX_90) rfl (in_I i_p1 (by decide)) dX4_greatest_12 ?_
  refine lv_topi (fun v_10 ev_10 => ?_)
  refine lv_if_ne (tgt := 18) hx hb dX4_greatest_13 (by decide) (fun c_11 => ?_) (fun c_11 => ?_)
  · refine lv_iconst (v := 0) hx hb dX4_greatest_18 (by decide) ?_
    refine lv_istore (lv' := [(4, .int 0), (3, .int r_9), (0, .ref (q 88)), (1, .int p1), (2, .ref (q 1))]) hx hb dX4_greatest_19 hl (by decide) rfl (fun ls hl => ?_)
    exact J21 _ r_9 0 w_8 _ _ ls (Nat.lt_succ_self _) hW_w_8 (Sm.rf.tr hs_w_8 (by decide)) i_p1 (In_lit (n := 0) (by decide) (by decide) : In 0 40 0) hP hD hS (lv_sub hl [2, 3, 4, 1, 0] rfl)
  · refine lv_iload_n hx hb dX4_greatest_16 rfl (lv_at hl 0 rfl) ?_
    exact hret _ _ _ _ _ _ hP hD hS dX4_greatest_17 ⟨hW_w_8, (Sm.rf.tr hs_w_8 (by decide))⟩
set_option maxRecDepth 100000 in
set_option maxHeartbeats 8000000 in
theorem k_X4_isBetter (l : Launch) (D : va_G) (cI cJ cZ : ClassId) (q : Nat → Nat) (bb bs bp : Nat) (w : va_W) (hW_w : HT q (TX q cI cJ cZ bb bs bp) w) (p1 : Int32) (p2 : Int32) (i_p1 : In 0 1023 p1) (i_p2 : In 0 1023 p2) : Con_i l yX4_isBetter cX4_isBetter 6 (some .boolean) ({ frames := 1, cells := 0, slots := 0, locals := 20 }) D cI cJ cZ eW [.ref (q 88), .int p1, .int p2] w (fun (r : Int32) (w1 : va_W) => HT q (TX q cI cJ cZ bb bs bp) w1 ∧ Sm [] [] w w1 ∧ In 0 1 r) := by
  refine eQ_z rfl (by decide) (Nat.le_of_ble_eq_true rfl) ⟨rfl, rfl⟩ ?_
  intro p e R s m args below meth c A Q hx hb hml hown hts hK hE hA hR hret hP hD hS ls hl
  have hown : s.vm.findClass RX4 = some m.cls := hown
  have hl : lv_has ls 6 [(0, .ref (q 88)), (1, .int p1), (2, .int p2)] := hl
  refine lv_aload_n hx hb dX4_isBetter_0 rfl (lv_at hl 0 rfl) ?_
  refine gt_X4 hx hb hts hown hK hP 88 (hW_w.o tX_88) 16 (by decide) wd_590 rfl (hW_w.fr tX_88 rfl) dX4_isBetter_1 ?_
  refine lv_iload_n hx hb dX4_isBetter_4 rfl (lv_at hl 1 rfl) ?_
  refine va_iald hx hb hK hP 101 0 (hW_w.a tX_101) rfl (in_I i_p1 (by decide)) dX4_isBetter_5 ?_
  refine lv_topi (fun v_1 ev_1 => ?_)
  refine lv_aload_n hx hb dX4_isBetter_6 rfl (lv_at hl 0 rfl) ?_
  refine gt_X4 hx hb hts hown hK hP 88 (hW_w.o tX_88) 16 (by decide) wd_590 rfl (hW_w.fr tX_88 rfl) dX4_isBetter_7 ?_
  refine lv_iload_n hx hb dX4_isBetter_10 rfl (lv_at hl 2 rfl) ?_
  refine va_iald hx hb hK hP 101 0 (hW_w.a tX_101) rfl (in_I i_p2 (by decide)) dX4_isBetter_11 ?_
  refine lv_topi (fun v_2 ev_2 => ?_)
  refine lv_icmp_eq (tgt := 36) hx hb dX4_isBetter_12 (by decide) (fun c_3 => ?_) (fun c_3 => ?_)
  · refine lv_aload_n hx hb dX4_isBetter_36 rfl (lv_at hl 0 rfl) ?_
    refine gt_X4 hx hb hts hown hK hP 88 (hW_w.o tX_88) 14 (by decide) wd_588 rfl (hW_w.fr tX_88 rfl) dX4_isBetter_37 ?_
    refine lv_iload_n hx hb dX4_isBetter_40 rfl (lv_at hl 1 rfl) ?_
    refine va_iald hx hb hK hP 99 0 (hW_w.a tX_99) rfl (in_I i_p1 (by decide)) dX4_isBetter_41 ?_
    refine lv_topi (fun v_4 ev_4 => ?_)
    refine kW_i ⟨rfl, rfl⟩ hP hD hS hA (rW_S (As := [.int v_4]) (rest := []) hx hb hml hown hts hK hE hP hD (k_J6_bitCount_0f7a4 l D cI cJ cZ q bb bs bp w hW_w v_4 _) ⟨⟨rfl, rfl⟩, rfl, rfl⟩ sv_X4_83 ⟨(Nat.le_trans (by decide) hR.1), (Nat.le_trans (by decide) hR.2)⟩ rfl hl.1 rfl (Nat.le_of_ble_eq_true rfl) dX4_isBetter_42) (fun r_6 w_5 H locs hw_w_5 hP hD hS => ?_)
    obtain ⟨hW_w_5, hs_w_5, i_r_6⟩ := hw_w_5
    refine lv_istore_n (lv' := [(3, .int r_6), (0, .ref (q 88)), (1, .int p1), (2, .int p2)]) hx hb dX4_isBetter_45 rfl hl (by decide) rfl (fun ls hl => ?_)
    refine lv_aload_n hx hb dX4_isBetter_46 rfl (lv_at hl 1 rfl) ?_
    refine gt_X4 hx hb hts hown hK hP 88 (hW_w_5.o tX_88) 14 (by decide) wd_588 rfl (hW_w_5.fr tX_88 rfl) dX4_isBetter_47 ?_
    refine lv_iload_n hx hb dX4_isBetter_50 rfl (lv_at hl 3 rfl) ?_
    refine va_iald hx hb hK hP 99 0 (hW_w_5.a tX_99) rfl (in_I i_p2 (by decide)) dX4_isBetter_51 ?_
    refine lv_topi (fun v_7 ev_7 => ?_)
    refine kW_i ⟨rfl, rfl⟩ hP hD hS hA (rW_S (As := [.int v_7]) (rest := []) hx hb hml hown hts hK hE hP hD (k_J6_bitCount_0f7a4 l D cI cJ cZ q bb bs bp w_5 hW_w_5 v_7 _) ⟨⟨rfl, rfl⟩, rfl, rfl⟩ sv_X4_83 ⟨(Nat.le_trans (by decide) hR.1), (Nat.le_trans (by decide) hR.2)⟩ rfl hl.1 rfl (Nat.le_of_ble_eq_true rfl) dX4_isBetter_52) (fun r_9 w_8 H locs hw_w_8 hP hD hS => ?_)
    obtain ⟨hW_w_8, hs_w_8, i_r_9⟩ := hw_w_8
    refine lv_istore (lv' := [(4, .int r_9), (3, .int r_6), (0, .ref (q 88)), (1, .int p1), (2, .int p2)]) hx hb dX4_isBetter_55 hl (by decide) rfl (fun ls hl => ?_)
    refine lv_iload_n hx hb dX4_isBetter_57 rfl (lv_at hl 1 rfl) ?_
    refine lv_iload hx hb dX4_isBetter_58 (lv_at hl 0 rfl) ?_
    refine lv_icmp_eq (tgt := 75) hx hb dX4_isBetter_60 (by decide) (fun c_10 => ?_) (fun c_10 => ?_)
    · refine lv_aload_n hx hb dX4_isBetter_75 rfl (lv_at hl 2 rfl) ?_
      refine gt_X4 hx hb hts hown hK hP 88 (hW_w_8.o tX_88) 14 (by decide) wd_588 rfl (hW_w_8.fr tX_88 rfl) dX4_isBetter_76 ?_
      refine lv_iload_n hx hb dX4_isBetter_79 rfl (lv_at hl 3 rfl) ?_
      refine va_iald hx hb hK hP 99 0 (hW_w_8.a tX_99) rfl (in_I i_p1 (by decide)) dX4_isBetter_80 ?_
      refine tov (v := v_4) ((congrFun ((hs_w_8.hA (by decide)).trans (hs_w_5.hA (by decide))) _).trans ev_4.symm) ?_
      refine lv_aload_n hx hb dX4_isBetter_81 rfl (lv_at hl 2 rfl) ?_
      refine gt_X4 hx hb hts hown hK hP 88 (hW_w_8.o tX_88) 14 (by decide) wd_588 rfl (hW_w_8.fr tX_88 rfl) dX4_isBetter_82 ?_
      refine lv_iload_n hx hb dX4_isBetter_85 rfl (lv_at hl 4 rfl) ?_
      refine va_iald hx hb hK hP 99 0 (hW_w_8.a tX_99) rfl (in_I i_p2 (by decide)) dX4_isBetter_86 ?_
      refine tov (v := v_7) ((congrFun ((hs_w_8.hA (by decide)).trans (hs_w_5.hA (by decide))) _).trans ((congrFun (hs_w_5.hA (by decide)) _).symm.trans ev_7.symm)) ?_
      refine lv_ixor hx hb dX4_isBetter_87 ?_
      refine lv_topi (fun v_11 ev_11 => ?_)
      refine lv_istore (lv' := [(5, .int v_11), (4, .int r_9), (3, .int r_6), (0, .ref (q 88)), (1, .int p1), (2, .int p2)]) hx hb dX4_isBetter_88 hl (by decide) rfl (fun ls hl => ?_)
      refine lv_aload_n hx hb dX4_isBetter_90 rfl (lv_at hl 3 rfl) ?_
      refine gt_X4 hx hb hts hown hK hP 88 (hW_w_8.o tX_88) 14 (by decide) wd_588 rfl (hW_w_8.fr tX_88 rfl) dX4_isBetter_91 ?_
      refine lv_iload_n hx hb dX4_isBetter_94 rfl (lv_at hl 4 rfl) ?_
      refine va_iald hx hb hK hP 99 0 (hW_w_8.a tX_99) rfl (in_I i_p1 (by decide)) dX4_isBetter_95 ?_
      refine tov (v := v_4) ((congrFun ((hs_w_8.hA (by decide)).trans (hs_w_5.hA (by decide))) _).trans ev_4.symm) ?_
      refine lv_iload hx hb dX4_isBetter_96 (lv_at hl 0 rfl) ?_
      refine lv_iand hx hb dX4_isBetter_98 ?_
      refine lv_topi (fun v_12 ev_12 => ?_)
      refine lv_iload hx hb dX4_isBetter_99 (lv_at hl 0 rfl) ?_
      refine lv_ineg hx hb dX4_isBetter_101 ?_
      refine lv_topi (fun v_13 ev_13 => ?_)
      refine lv_iand hx hb dX4_isBetter_102 ?_
      refine lv_topi (fun v_14 ev_14 => ?_)
      refine lv_if_eq (tgt := 110) hx hb dX4_isBetter_103 (by decide) (fun c_15 => ?_) (fun c_15 => ?_)
      · refine lv_iconst (v := 0) hx hb dX4_isBetter_110 (by decide) ?_
        exact hret _ _ _ _ _ _ hP hD hS dX4_isBetter_111 (In_lit (n := 0) (by decide) (by decide) : In 0 1 0) ⟨hW_w_8, ((Sm.rf.tr hs_w_5 (by decide)).tr hs_w_8 (by decide)), (In_lit (n := 0) (by decide) (by decide) : In 0 1 0)⟩
      · refine lv_iconst (v := 1) hx hb dX4_isBetter_106 (by decide) ?_
        refine lv_goto (tgt := 111) hx hb dX4_isBetter_107 (by decide) ?_
        exact hret _ _ _ _ _ _ hP hD hS dX4_isBetter_111 (In_lit (n := 1) (by decide) (by decide) : In 0 1 1) ⟨hW_w_8, ((Sm.rf.tr hs_w_5 (by decide)).tr hs_w_8 (by decide)), (In_lit (n := 1) (by decide) (by decide) : In 0 1 1)⟩
    · refine lv_iload_n hx hb dX4_isBetter_63 rfl (lv_at hl 1 rfl) ?_
      refine lv_iload hx hb dX4_isBetter_64 (lv_at hl 0 rfl) ?_
      refine lv_icmp_ge (tgt := 73) hx hb dX4_isBetter_66 (by decide) (fun c_16 => ?_) (fun c_16 => ?_)
      · refine lv_iconst (v := 0) hx hb dX4_isBetter_73 (by decide) ?_
        exact hret _ _ _ _ _ _ hP hD hS dX4_isBetter_74 (In_lit (n := 0) (by decide) (by decide) : In 0 1 0) ⟨hW_w_8, ((Sm.rf.tr hs_w_5 (by decide)).tr hs_w_8 (by decide)), (In_lit (n := 0) (by decide) (by decide) : In 0 1 0)⟩
      · refine lv_iconst (v := 1) hx hb dX4_isBetter_69 (by decide) ?_
        refine lv_goto (tgt := 74) hx hb dX4_isBetter_70 (by decide) ?_
        exact hret _ _ _ _ _ _ hP hD hS dX4_isBetter_74 (In_lit (n := 1) (by decide) (by decide) : In 0 1 1) ⟨hW_w_8, ((Sm.rf.tr hs_w_5 (by decide)).tr hs_w_8 (by decide)), (In_lit (n := 1) (by decide) (by decide) : In 0 1 1)⟩
  · refine lv_aload_n hx hb dX4_isBetter_15 rfl (lv_at hl 0 rfl) ?_
    refine gt_X4 hx hb hts hown hK hP 88 (hW_w.o tX_88) 16 (by decide) wd_590 rfl (hW_w.fr tX_88 rfl) dX4_isBetter_16 ?_
    refine lv_iload_n hx hb dX4_isBetter_19 rfl (lv_at hl 1 rfl) ?_
    refine va_iald hx hb hK hP 101 0 (hW_w.a tX_101) rfl (in_I i_p1 (by decide)) dX4_isBetter_20 ?_
    refine tov (v := v_1) ev_1.symm ?_
    refine lv_aload_n hx hb dX4_isBetter_21 rfl (lv_at hl 0 rfl) ?_
    refine gt_X4 hx hb hts hown hK hP 88 (hW_w.o tX_88) 16 (by decide) wd_590 rfl (hW_w.fr tX_88 rfl) dX4_isBetter_22 ?_
    refine lv_iload_n hx hb dX4_isBetter_25 rfl (lv_at hl 2 rfl) ?_
    refine va_iald hx hb hK hP 101 0 (hW_w.a tX_101) rfl (in_I i_p2 (by decide)) dX4_isBetter_26 ?_
    refine tov (v := v_2) ev_2.symm ?_
    refine lv_icmp_ge (tgt := 34) hx hb dX4_isBetter_27 (by decide) (fun c_17 => ?_) (fun c_17 => ?_)
    · refine lv_iconst (v := 0) hx hb dX4_isBetter_34 (by decide) ?_
      exact hret _ _ _ _ _ _ hP hD hS dX4_isBetter_35 (In_lit (n := 0) (by decide) (by decide) : In 0 1 0) ⟨hW_w, Sm.rf, (In_lit (n := 0) (by decide) (by decide) : In 0 1 0)⟩
    · refine lv_iconst (v := 1) hx hb dX4_isBetter_30 (by decide) ?_
      refine lv_goto (tgt := 35) hx hb dX4_isBetter_31 (by decide) ?_
      exact hret _ _ _ _ _ _ hP hD hS dX4_isBetter_35 (In_lit (n := 1) (by decide) (by decide) : In 0 1 1) ⟨hW_w, Sm.rf, (In_lit (n := 1) (by decide) (by decide) : In 0 1 1)⟩
