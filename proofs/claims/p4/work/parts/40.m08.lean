set_option maxRecDepth 100000 in
set_option maxHeartbeats 8000000 in
theorem k_X12_costs (l : Launch) (D : va_G) (cI cJ cZ : ClassId) (q : Nat → Nat) (w : va_W) (hW_w : HT q (TM q cI cJ cZ) w) (p1 : Int32) (i_p1 : In 0 39 p1) (hf_0_69 : In 1 40 (fI w 0 69)) : Con_i l yX12_costs cX12_costs 10 (some .int) ({ frames := 3, cells := 0, slots := 0, locals := 68 }) D cI cJ cZ eW [.ref (q 0), .int p1] w (fun (r : Int32) (w1 : va_W) => HT q (TM q cI cJ cZ) w1 ∧ Sm [0] [(0, 83)] w w1) := by
  refine eQ_i rfl (by decide) (Nat.le_of_ble_eq_true rfl) ⟨rfl, rfl⟩ ?_
  intro p e R s m args below meth c A Q hx hb hml hown hts hK hE hA hR hret hP hD hS ls hl
  have hown : s.vm.findClass RX12 = some m.cls := hown
  have hl : lv_has ls 10 [(0, .ref (q 0)), (1, .int p1)] := hl
  have J26 : ∀ (N : Nat) (x26_2 : Int32) (x26_3 : Int32) (x26_4 : Int32) (w26 : va_W) (H : Heap) (locs : List Loc) (ls : Array Slot), (2147483647 - x26_4.toInt).toNat < N → HT q (TM q cI cJ cZ) w26 → Sm [0] [(0, 83)] w w26 → (In 0 39 p1) → (In 1 2147483647 x26_4) → (In 1 40 (fI w26 0 69)) → (In 0 2147483646 (fI w26 0 83)) → va_P D vwCl w26 H → va_D A w26 → va_S A s.heap H locs → lv_has ls 10 [(0, .ref (q 0)), (1, .int p1), (2, .int x26_2), (3, .int x26_3), (4, .int x26_4)] → W p l e R s m args below meth c H locs 0 0 Q (F0 m 26 ls []) := by
    intro N
    induction N with
    | zero => intro x26_2 x26_3 x26_4 w26 H locs ls hmu; exact absurd hmu (Nat.not_lt_zero _)
    | succ N ih26 =>
      intro x26_2 x26_3 x26_4 w26 H locs ls hmu26 hW_w26 hM_w26 i_x26_1 i_x26_4 g26_0_69 g26_0_83 hP hD hS hl
      have J315 : ∀ (x315_3 : Int32) (x315_5 : Int32) (x315_6 : Int32) (x315_7 : Int32) (x315_8 : Int32) (w315 : va_W) (H : Heap) (locs : List Loc) (ls : Array Slot), HT q (TM q cI cJ cZ) w315 → Sm [0] [(0, 83)] w w315 → (In 0 39 p1) → (In 1 2147483646 x26_4) → (In 0 1 x315_6) → (In 1 40 (fI w315 0 69)) → (In 0 2147483646 (fI w315 0 83)) → va_P D vwCl w315 H → va_D A w315 → va_S A s.heap H locs → lv_has ls 10 [(0, .ref (q 0)), (1, .int p1), (2, .int x26_2), (3, .int x315_3), (4, .int x26_4), (5, .int x315_5), (6, .int x315_6), (7, .int x315_7), (8, .int x315_8)] → W p l e R s m args below meth c H locs 0 0 Q (F0 m 315 ls []) := by
        intro x315_3 x315_5 x315_6 x315_7 x315_8 w315 H locs ls hW_w315 hM_w315 i_x315_1 i_x315_4 i_x315_6 g315_0_69 g315_0_83 hP hD hS hl
        refine lv_iinc (v := (x26_4 + 1)) (lv' := [(4, .int (x26_4 + 1)), (0, .ref (q 0)), (1, .int p1), (2, .int x26_2), (3, .int x315_3), (5, .int x315_5), (6, .int x315_6), (7, .int x315_7), (8, .int x315_8)]) hx hb dX12_costs_315 hl (k := 4) rfl (rfl) (by decide) rfl (fun ls hl => ?_)
        refine lv_goto (tgt := 26) hx hb dX12_costs_318 (by decide) ?_
        exact ih26 x26_2 x315_3 (x26_4 + 1) w315 _ _ ls (mu_inc hmu26 i_x315_4 (In_lit (n := 1) (by decide) (by decide) : In 1 1 1) (by decide)) hW_w315 hM_w315 i_p1 (In_w ((In_add (y := 1) i_x315_4 (In_lit (n := 1) (by decide) (by decide) : In 1 1 1) (by decide)) : In 2 2147483647 (x26_4 + 1)) (by decide) : In 1 2147483647 (x26_4 + 1)) (In_of (hM_w315.2 0 69 (by decide) (by decide)) (In_of (hM_w315.2 0 69 (by decide) (by decide)).symm g315_0_69)) g315_0_83 hP hD hS (lv_sub hl [1, 2, 3, 4, 0] rfl)
      have J296 : ∀ (x296_5 : Int32) (x296_6 : Int32) (x296_7 : Int32) (x296_8 : Int32) (y296_0 : Int32) (w296 : va_W) (H : Heap) (locs : List Loc) (ls : Array Slot), HT q (TM q cI cJ cZ) w296 → Sm [0] [(0, 83)] w w296 → (In 0 39 p1) → (In 1 2147483646 x26_4) → (In 1 1 x296_6) → (In 0 1 y296_0) → (In 1 40 (fI w296 0 69)) → (In 0 2147483646 (fI w296 0 83)) → va_P D vwCl w296 H → va_D A w296 → va_S A s.heap H locs → lv_has ls 10 [(0, .ref (q 0)), (1, .int p1), (2, .int x26_2), (3, .int x26_3), (4, .int x26_4), (5, .int x296_5), (6, .int x296_6), (7, .int x296_7), (8, .int x296_8)] → W p l e R s m args below meth c H locs 0 0 Q (F0 m 296 ls [.int y296_0]) := by
        intro x296_5 x296_6 x296_7 x296_8 y296_0 w296 H locs ls hW_w296 hM_w296 i_x296_1 i_x296_4 i_x296_6 i_y296_0 g296_0_69 g296_0_83 hP hD hS hl
        refine lv_istore (lv' := [(9, .int y296_0), (0, .ref (q 0)), (1, .int p1), (2, .int x26_2), (3, .int x26_3), (4, .int x26_4), (5, .int x296_5), (6, .int x296_6), (7, .int x296_7), (8, .int x296_8)]) hx hb dX12_costs_296 hl (by decide) rfl (fun ls hl => ?_)
        refine lv_iload hx hb dX12_costs_298 (lv_at hl 0 rfl) ?_
        refine lv_if_ne (tgt := 306) hx hb dX12_costs_300 (by decide) (fun c_1 => ?_) (fun c_1 => ?_)
        · refine lv_iload hx hb dX12_costs_306 (lv_at hl 6 rfl) ?_
          refine lv_istore_n (lv' := [(3, .int x296_5), (9, .int y296_0), (0, .ref (q 0)), (1, .int p1), (2, .int x26_2), (4, .int x26_4), (5, .int x296_5), (6, .int x296_6), (7, .int x296_7), (8, .int x296_8)]) hx hb dX12_costs_308 rfl hl (by decide) rfl (fun ls hl => ?_)
          refine lv_aload_n hx hb dX12_costs_309 rfl (lv_at hl 2 rfl) ?_
          refine lv_iload hx hb dX12_costs_310 (lv_at hl 5 rfl) ?_
          refine pt_X12 hx hb hts hown hK hP hD hS 0 (hW_w296.o tM_0) 83 (by decide) wd_1484 rfl rfl (ty := .int) (v := .int x26_4) (by decide +kernel) rfl rfl (hW_w296.ll tM_0 (Nat.le_of_ble_eq_true rfl)) dX12_costs_312 (fun H locs hP hD hS => fr_w (hW_w296.sI tM_0 rfl (In_w i_x296_4 (by decide) : In (-2147483648) 2147483647 x26_4)) hP hD (fun w_2 ew_2 hW_w_2 hP hD => ?_))
          exact J315 x296_5 x296_5 x296_6 x296_7 x296_8 w_2 _ _ ls hW_w_2 (hM_w296.sf (hW_w296.lt tM_0) ew_2 (by decide)) i_p1 i_x296_4 (In_w i_x296_6 (by decide) : In 0 1 x296_6) (In_of ((fI_nej (hW_w296.lt tM_0) ew_2 (by decide)).trans (hM_w296.2 0 69 (by decide) (by decide))) (In_of (hM_w296.2 0 69 (by decide) (by decide)).symm g296_0_69)) (In_of (fI_eq (hW_w296.lt tM_0) ew_2 (hW_w296.ll tM_0 (Nat.le_of_ble_eq_true rfl))) (In_w i_x296_4 (by decide) : In 0 2147483646 x26_4)) hP hD hS (lv_sub hl [2, 3, 4, 0, 5, 6, 7, 8, 9] rfl)
        · refine lv_goto (tgt := 315) hx hb dX12_costs_303 (by decide) ?_
          exact J315 x26_3 x296_5 x296_6 x296_7 x296_8 w296 _ _ ls hW_w296 hM_w296 i_p1 i_x296_4 (In_w i_x296_6 (by decide) : In 0 1 x296_6) (In_of (hM_w296.2 0 69 (by decide) (by decide)) (In_of (hM_w296.2 0 69 (by decide) (by decide)).symm g296_0_69)) g296_0_83 hP hD hS (lv_sub hl [1, 2, 3, 4, 5, 6, 7, 8, 9] rfl)
      have J291 : ∀ (x291_5 : Int32) (x291_6 : Int32) (x291_7 : Int32) (x291_8 : Int32) (w291 : va_W) (H : Heap) (locs : List Loc) (ls : Array Slot), HT q (TM q cI cJ cZ) w291 → Sm [0] [(0, 83)] w w291 → (In 0 39 p1) → (In 1 2147483646 x26_4) → (In 1 1 x291_6) → (In 1 40 (fI w291 0 69)) → (In 0 2147483646 (fI w291 0 83)) → va_P D vwCl w291 H → va_D A w291 → va_S A s.heap H locs → lv_has ls 10 [(0, .ref (q 0)), (1, .int p1), (2, .int x26_2), (3, .int x26_3), (4, .int x26_4), (5, .int x291_5), (6, .int x291_6), (7, .int x291_7), (8, .int x291_8)] → W p l e R s m args below meth c H locs 0 0 Q (F0 m 291 ls []) := by
        intro x291_5 x291_6 x291_7 x291_8 w291 H locs ls hW_w291 hM_w291 i_x291_1 i_x291_4 i_x291_6 g291_0_69 g291_0_83 hP hD hS hl
        refine lv_iconst (v := 1) hx hb dX12_costs_291 (by decide) ?_
        refine lv_goto (tgt := 296) hx hb dX12_costs_292 (by decide) ?_
        exact J296 x291_5 x291_6 x291_7 x291_8 1 w291 _ _ ls hW_w291 hM_w291 i_p1 i_x291_4 i_x291_6 (In_lit (n := 1) (by decide) (by decide) : In 0 1 1) (In_of (hM_w291.2 0 69 (by decide) (by decide)) (In_of (hM_w291.2 0 69 (by decide) (by decide)).symm g291_0_69)) g291_0_83 hP hD hS (lv_sub hl [0, 1, 2, 3, 4, 5, 6, 7, 8] rfl)
      have J295 : ∀ (x295_5 : Int32) (x295_6 : Int32) (x295_7 : Int32) (x295_8 : Int32) (w295 : va_W) (H : Heap) (locs : List Loc) (ls : Array Slot), HT q (TM q cI cJ cZ) w295 → Sm [0] [(0, 83)] w w295 → (In 0 39 p1) → (In 1 2147483646 x26_4) → (In 1 1 x295_6) → (In 1 40 (fI w295 0 69)) → (In 0 2147483646 (fI w295 0 83)) → va_P D vwCl w295 H → va_D A w295 → va_S A s.heap H locs → lv_has ls 10 [(0, .ref (q 0)), (1, .int p1), (2, .int x26_2), (3, .int x26_3), (4, .int x26_4), (5, .int x295_5), (6, .int x295_6), (7, .int x295_7), (8, .int x295_8)] → W p l e R s m args below meth c H locs 0 0 Q (F0 m 295 ls []) := by
        intro x295_5 x295_6 x295_7 x295_8 w295 H locs ls hW_w295 hM_w295 i_x295_1 i_x295_4 i_x295_6 g295_0_69 g295_0_83 hP hD hS hl
        refine lv_iconst (v := 0) hx hb dX12_costs_295 (by decide) ?_
        exact J296 x295_5 x295_6 x295_7 x295_8 0 w295 _ _ ls hW_w295 hM_w295 i_p1 i_x295_4 i_x295_6 (In_lit (n := 0) (by decide) (by decide) : In 0 1 0) (In_of (hM_w295.2 0 69 (by decide) (by decide)) (In_of (hM_w295.2 0 69 (by decide) (by decide)).symm g295_0_69)) g295_0_83 hP hD hS (lv_sub hl [0, 1, 2, 3, 4, 5, 6, 7, 8] rfl)
      have J232 : ∀ (x232_5 : Int32) (x232_6 : Int32) (x232_7 : Int32) (x232_8 : Int32) (w232 : va_W) (H : Heap) (locs : List Loc) (ls : Array Slot), HT q (TM q cI cJ cZ) w232 → Sm [0] [(0, 83)] w w232 → (In 0 39 p1) → (In 1 2147483646 x26_4) → (In 1 1 x232_6) → (In 1 40 (fI w232 0 69)) → (In 0 2147483646 (fI w232 0 83)) → va_P D vwCl w232 H → va_D A w232 → va_S A s.heap H locs → lv_has ls 10 [(0, .ref (q 0)), (1, .int p1), (2, .int x26_2), (3, .int x26_3), (4, .int x26_4), (5, .int x232_5), (6, .int x232_6), (7, .int x232_7), (8, .int x232_8)] → W p l e R s m args below meth c H locs 0 0 Q (F0 m 232 ls []) := by
        intro x232_5 x232_6 x232_7 x232_8 w232 H locs ls hW_w232 hM_w232 i_x232_1 i_x232_4 i_x232_6 g232_0_69 g232_0_83 hP hD hS hl
        refine lv_iload_n hx hb dX12_costs_232 rfl (lv_at hl 3 rfl) ?_
        refine lv_iconst (v := (-1)) hx hb dX12_costs_233 (by decide) ?_
        refine lv_icmp_eq (tgt := 291) hx hb dX12_costs_234 (by decide) (fun c_3 => ?_) (fun c_3 => ?_)
        · exact J291 x232_5 x232_6 x232_7 x232_8 w232 _ _ ls hW_w232 hM_w232 i_p1 i_x232_4 i_x232_6 (In_of (hM_w232.2 0 69 (by decide) (by decide)) (In_of (hM_w232.2 0 69 (by decide) (by decide)).symm g232_0_69)) g232_0_83 hP hD hS (lv_sub hl [0, 1, 2, 3, 4, 5, 6, 7, 8] rfl)
        · refine lv_iload hx hb dX12_costs_237 (lv_at hl 5 rfl) ?_
          refine lv_iload_n hx hb dX12_costs_239 rfl (lv_at hl 3 rfl) ?_
          refine lv_icmp_lt (tgt := 291) hx hb dX12_costs_240 (by decide) (fun c_4 => ?_) (fun c_4 => ?_)
          · exact J291 x232_5 x232_6 x232_7 x232_8 w232 _ _ ls hW_w232 hM_w232 i_p1 i_x232_4 i_x232_6 (In_of (hM_w232.2 0 69 (by decide) (by decide)) (In_of (hM_w232.2 0 69 (by decide) (by decide)).symm g232_0_69)) g232_0_83 hP hD hS (lv_sub hl [0, 1, 2, 3, 4, 5, 6, 7, 8] rfl)
          · refine lv_iload hx hb dX12_costs_243 (lv_at hl 5 rfl) ?_
            refine lv_iload_n hx hb dX12_costs_245 rfl (lv_at hl 3 rfl) ?_
            refine lv_icmp_ne (tgt := 295) hx hb dX12_costs_246 (by decide) (fun c_5 => ?_) (fun c_5 => ?_)
            · exact J295 x232_5 x232_6 x232_7 x232_8 w232 _ _ ls hW_w232 hM_w232 i_p1 i_x232_4 i_x232_6 (In_of (hM_w232.2 0 69 (by decide) (by decide)) (In_of (hM_w232.2 0 69 (by decide) (by decide)).symm g232_0_69)) g232_0_83 hP hD hS (lv_sub hl [0, 1, 2, 3, 4, 5, 6, 7, 8] rfl)
            · refine lv_iload hx hb dX12_costs_249 (lv_at hl 4 rfl) ?_
              refine kW_i ⟨rfl, rfl⟩ hP hD hS hA (rW_S (As := [.int x26_4]) (rest := []) hx hb hml hown hts hK hE hP hD (k_X12_bits l D cI cJ cZ q w232 hW_w232 x26_4 (In_of (hM_w232.2 0 69 (by decide) (by decide)) (In_of (hM_w232.2 0 69 (by decide) (by decide)).symm g232_0_69)) _) ⟨⟨rfl, rfl⟩, rfl, rfl⟩ sv_X12_544 ⟨(Nat.le_trans (by decide) hR.1), (Nat.le_trans (by decide) hR.2)⟩ rfl hl.1 rfl (Nat.le_of_ble_eq_true rfl) dX12_costs_251) (fun r_7 w_6 H locs hw_w_6 hP hD hS => ?_)
              obtain ⟨hW_w_6, hs_w_6⟩ := hw_w_6
              refine lv_aload_n hx hb dX12_costs_254 rfl (lv_at hl 0 rfl) ?_
              refine gt_X12 hx hb hts hown hK hP 0 (hW_w_6.o tM_0) 83 (by decide) wd_1484 rfl (hW_w_6.fi tM_0 rfl) dX12_costs_255 ?_
              refine tov (v := (fI w232 0 83)) (hs_w_6.gI (by decide)) ?_
              refine kW_i ⟨rfl, rfl⟩ hP hD hS hA (rW_S (As := [.int (fI w232 0 83)]) (rest := [.int r_7]) hx hb hml hown hts hK hE hP hD (k_X12_bits l D cI cJ cZ q w_6 hW_w_6 (fI w232 0 83) (In_of ((hs_w_6.gI (by decide)).trans (hM_w232.2 0 69 (by decide) (by decide))) (In_of (hM_w232.2 0 69 (by decide) (by decide)).symm g232_0_69)) _) ⟨⟨rfl, rfl⟩, rfl, rfl⟩ sv_X12_544 ⟨(Nat.le_trans (by decide) hR.1), (Nat.le_trans (by decide) hR.2)⟩ rfl hl.1 rfl (Nat.le_of_ble_eq_true rfl) dX12_costs_258) (fun r_9 w_8 H locs hw_w_8 hP hD hS => ?_)
              obtain ⟨hW_w_8, hs_w_8⟩ := hw_w_8
              refine lv_icmp_lt (tgt := 291) hx hb dX12_costs_261 (by decide) (fun c_10 => ?_) (fun c_10 => ?_)
              · exact J291 x232_5 x232_6 x232_7 x232_8 w_8 _ _ ls hW_w_8 ((hM_w232.tr hs_w_6 (by decide)).tr hs_w_8 (by decide)) i_p1 i_x232_4 i_x232_6 (In_of ((hs_w_8.gI (by decide)).trans ((hs_w_6.gI (by decide)).trans (hM_w232.2 0 69 (by decide) (by decide)))) (In_of (hM_w232.2 0 69 (by decide) (by decide)).symm g232_0_69)) (In_of ((hs_w_8.gI (by decide)).trans (hs_w_6.gI (by decide))) g232_0_83) hP hD hS (lv_sub hl [0, 1, 2, 3, 4, 5, 6, 7, 8] rfl)
              · refine lv_iload hx hb dX12_costs_264 (lv_at hl 4 rfl) ?_
                refine kW_i ⟨rfl, rfl⟩ hP hD hS hA (rW_S (As := [.int x26_4]) (rest := []) hx hb hml hown hts hK hE hP hD (k_X12_bits l D cI cJ cZ q w_8 hW_w_8 x26_4 (In_of ((hs_w_8.gI (by decide)).trans ((hs_w_6.gI (by decide)).trans (hM_w232.2 0 69 (by decide) (by decide)))) (In_of (hM_w232.2 0 69 (by decide) (by decide)).symm g232_0_69)) _) ⟨⟨rfl, rfl⟩, rfl, rfl⟩ sv_X12_544 ⟨(Nat.le_trans (by decide) hR.1), (Nat.le_trans (by decide) hR.2)⟩ rfl hl.1 rfl (Nat.le_of_ble_eq_true rfl) dX12_costs_266) (fun r_12 w_11 H locs hw_w_11 hP hD hS => ?_)
                obtain ⟨hW_w_11, hs_w_11⟩ := hw_w_11
                refine lv_aload_n hx hb dX12_costs_269 rfl (lv_at hl 0 rfl) ?_
                refine gt_X12 hx hb hts hown hK hP 0 (hW_w_11.o tM_0) 83 (by decide) wd_1484 rfl (hW_w_11.fi tM_0 rfl) dX12_costs_270 ?_
                refine tov (v := (fI w232 0 83)) ((hs_w_11.gI (by decide)).trans ((hs_w_8.gI (by decide)).trans (hs_w_6.gI (by decide)))) ?_
                refine kW_i ⟨rfl, rfl⟩ hP hD hS hA (rW_S (As := [.int (fI w232 0 83)]) (rest := [.int r_12]) hx hb hml hown hts hK hE hP hD (k_X12_bits l D cI cJ cZ q w_11 hW_w_11 (fI w232 0 83) (In_of ((hs_w_11.gI (by decide)).trans ((hs_w_8.gI (by decide)).trans ((hs_w_6.gI (by decide)).trans (hM_w232.2 0 69 (by decide) (by decide))))) (In_of (hM_w232.2 0 69 (by decide) (by decide)).symm g232_0_69)) _) ⟨⟨rfl, rfl⟩, rfl, rfl⟩ sv_X12_544 ⟨(Nat.le_trans (by decide) hR.1), (Nat.le_trans (by decide) hR.2)⟩ rfl hl.1 rfl (Nat.le_of_ble_eq_true rfl) dX12_costs_273) (fun r_14 w_13 H locs hw_w_13 hP hD hS => ?_)
                obtain ⟨hW_w_13, hs_w_13⟩ := hw_w_13
                refine lv_icmp_ne (tgt := 295) hx hb dX12_costs_276 (by decide) (fun c_15 => ?_) (fun c_15 => ?_)
                · exact J295 x232_5 x232_6 x232_7 x232_8 w_13 _ _ ls hW_w_13 ((((hM_w232.tr hs_w_6 (by decide)).tr hs_w_8 (by decide)).tr hs_w_11 (by decide)).tr hs_w_13 (by decide)) i_p1 i_x232_4 i_x232_6 (In_of ((hs_w_13.gI (by decide)).trans ((hs_w_11.gI (by decide)).trans ((hs_w_8.gI (by decide)).trans ((hs_w_6.gI (by decide)).trans (hM_w232.2 0 69 (by decide) (by decide)))))) (In_of (hM_w232.2 0 69 (by decide) (by decide)).symm g232_0_69)) (In_of ((hs_w_13.gI (by decide)).trans ((hs_w_11.gI (by decide)).trans ((hs_w_8.gI (by decide)).trans (hs_w_6.gI (by decide))))) g232_0_83) hP hD hS (lv_sub hl [0, 1, 2, 3, 4, 5, 6, 7, 8] rfl)
                · refine lv_iload hx hb dX12_costs_279 (lv_at hl 4 rfl) ?_
                  refine lv_aload_n hx hb dX12_costs_281 rfl (lv_at hl 0 rfl) ?_
                  refine gt_X12 hx hb hts hown hK hP 0 (hW_w_13.o tM_0) 83 (by decide) wd_1484 rfl (hW_w_13.fi tM_0 rfl) dX12_costs_282 ?_
                  refine tov (v := (fI w232 0 83)) ((hs_w_13.gI (by decide)).trans ((hs_w_11.gI (by decide)).trans ((hs_w_8.gI (by decide)).trans (hs_w_6.gI (by decide))))) ?_
                  refine kW_i ⟨rfl, rfl⟩ hP hD hS hA (rW_S (As := [.int x26_4, .int (fI w232 0 83)]) (rest := []) hx hb hml hown hts hK hE hP hD (k_X12_isAhead l D cI cJ cZ q w_13 hW_w_13 x26_4 (fI w232 0 83) i_x232_4 g232_0_83 (In_of ((hs_w_13.gI (by decide)).trans ((hs_w_11.gI (by decide)).trans ((hs_w_8.gI (by decide)).trans ((hs_w_6.gI (by decide)).trans (hM_w232.2 0 69 (by decide) (by decide)))))) (In_of (hM_w232.2 0 69 (by decide) (by decide)).symm g232_0_69)) _) ⟨⟨rfl, rfl⟩, rfl, rfl⟩ sv_X12_562 ⟨(Nat.le_trans (by decide) hR.1), (Nat.le_trans (by decide) hR.2)⟩ rfl hl.1 rfl (Nat.le_of_ble_eq_true rfl) dX12_costs_285) (fun r_17 w_16 H locs hw_w_16 hP hD hS => ?_)
                  obtain ⟨hW_w_16, hs_w_16, i_r_17⟩ := hw_w_16
                  refine lv_if_eq (tgt := 295) hx hb dX12_costs_288 (by decide) (fun c_18 => ?_) (fun c_18 => ?_)
                  · exact J295 x232_5 x232_6 x232_7 x232_8 w_16 _ _ ls hW_w_16 (((((hM_w232.tr hs_w_6 (by decide)).tr hs_w_8 (by decide)).tr hs_w_11 (by decide)).tr hs_w_13 (by decide)).tr hs_w_16 (by decide)) i_p1 i_x232_4 i_x232_6 (In_of ((hs_w_16.gI (by decide)).trans ((hs_w_13.gI (by decide)).trans ((hs_w_11.gI (by decide)).trans ((hs_w_8.gI (by decide)).trans ((hs_w_6.gI (by decide)).trans (hM_w232.2 0 69 (by decide) (by decide))))))) (In_of (hM_w232.2 0 69 (by decide) (by decide)).symm g232_0_69)) (In_of ((hs_w_16.gI (by decide)).trans ((hs_w_13.gI (by decide)).trans ((hs_w_11.gI (by decide)).trans ((hs_w_8.gI (by decide)).trans (hs_w_6.gI (by decide)))))) g232_0_83) hP hD hS (lv_sub hl [0, 1, 2, 3, 4, 5, 6, 7, 8] rfl)
                  · exact J291 x232_5 x232_6 x232_7 x232_8 w_16 _ _ ls hW_w_16 (((((hM_w232.tr hs_w_6 (by decide)).tr hs_w_8 (by decide)).tr hs_w_11 (by decide)).tr hs_w_13 (by decide)).tr hs_w_16 (by decide)) i_p1 i_x232_4 i_x232_6 (In_of ((hs_w_16.gI (by decide)).trans ((hs_w_13.gI (by decide)).trans ((hs_w_11.gI (by decide)).trans ((hs_w_8.gI (by decide)).trans ((hs_w_6.gI (by decide)).trans (hM_w232.2 0 69 (by decide) (by decide))))))) (In_of (hM_w232.2 0 69 (by decide) (by decide)).symm g232_0_69)) (In_of ((hs_w_16.gI (by decide)).trans ((hs_w_13.gI (by decide)).trans ((hs_w_11.gI (by decide)).trans ((hs_w_8.gI (by decide)).trans (hs_w_6.gI (by decide)))))) g232_0_83) hP hD hS (lv_sub hl [0, 1, 2, 3, 4, 5, 6, 7, 8] rfl)
      have J165 : ∀ (x165_5 : Int32) (x165_6 : Int32) (x165_7 : Int32) (w165 : va_W) (H : Heap) (locs : List Loc) (ls : Array Slot), HT q (TM q cI cJ cZ) w165 → Sm [0] [(0, 83)] w w165 → (In 0 39 p1) → (In 1 2147483646 x26_4) → (In 0 1 x165_6) → (In 0 10 x165_7) → (In 1 40 (fI w165 0 69)) → (In 0 2147483646 (fI w165 0 83)) → va_P D vwCl w165 H → va_D A w165 → va_S A s.heap H locs → lv_has ls 10 [(0, .ref (q 0)), (1, .int p1), (2, .int x26_2), (3, .int x26_3), (4, .int x26_4), (5, .int x165_5), (6, .int x165_6), (7, .int x165_7)] → W p l e R s m args below meth c H locs 0 0 Q (F0 m 165 ls []) := by
        intro x165_5 x165_6 x165_7 w165 H locs ls hW_w165 hM_w165 i_x165_1 i_x165_4 i_x165_6 i_x165_7 g165_0_69 g165_0_83 hP hD hS hl
        refine lv_iload hx hb dX12_costs_165 (lv_at hl 4 rfl) ?_
        refine lv_aload_n hx hb dX12_costs_167 rfl (lv_at hl 0 rfl) ?_
        refine gt_X12 hx hb hts hown hK hP 0 (hW_w165.o tM_0) 76 (by decide) wd_1477 rfl (hW_w165.fr tM_0 rfl) dX12_costs_168 ?_
        refine lv_iload_n hx hb dX12_costs_171 rfl (lv_at hl 1 rfl) ?_
        refine va_iald hx hb hK hP 53 0 (hW_w165.a tM_53) rfl (in_I i_p1 (by decide)) dX12_costs_172 ?_
        refine lv_topi (fun v_19 ev_19 => ?_)
        refine lv_ior hx hb dX12_costs_173 ?_
        refine lv_topi (fun v_20 ev_20 => ?_)
        refine lv_istore (lv' := [(7, .int v_20), (0, .ref (q 0)), (1, .int p1), (2, .int x26_2), (3, .int x26_3), (4, .int x26_4), (5, .int x165_5), (6, .int x165_6)]) hx hb dX12_costs_174 hl (by decide) rfl (fun ls hl => ?_)
        refine lv_aload_n hx hb dX12_costs_176 rfl (lv_at hl 1 rfl) ?_
        refine lv_iload hx hb dX12_costs_177 (lv_at hl 0 rfl) ?_
        refine kW_i ⟨rfl, rfl⟩ hP hD hS hA (rW_V (As := [.int v_20]) (rest := []) hx hb hml hown hts hK hE hP hD (k_X12_worth l D cI cJ cZ q w165 hW_w165 v_20 (In_of (hM_w165.2 0 69 (by decide) (by decide)) (In_of (hM_w165.2 0 69 (by decide) (by decide)).symm g165_0_69)) _) ⟨⟨rfl, rfl⟩, rfl, rfl⟩ sv_X12_553 ⟨(Nat.le_trans (by decide) hR.1), (Nat.le_trans (by decide) hR.2)⟩ 0 12 (hW_w165.o tM_0) rfl rfl rfl hl.1 rfl (Nat.le_of_ble_eq_true rfl) dX12_costs_179) (fun r_22 w_21 H locs hw_w_21 hP hD hS => ?_)
        obtain ⟨hW_w_21, hs_w_21⟩ := hw_w_21
        refine lv_istore (lv' := [(8, .int r_22), (7, .int v_20), (0, .ref (q 0)), (1, .int p1), (2, .int x26_2), (3, .int x26_3), (4, .int x26_4), (5, .int x165_5), (6, .int x165_6)]) hx hb dX12_costs_182 hl (by decide) rfl (fun ls hl => ?_)
        refine lv_iload hx hb dX12_costs_184 (lv_at hl 8 rfl) ?_
        refine lv_if_eq (tgt := 315) hx hb dX12_costs_186 (by decide) (fun c_23 => ?_) (fun c_23 => ?_)
        · exact J315 x26_3 x165_5 x165_6 v_20 r_22 w_21 _ _ ls hW_w_21 (hM_w165.tr hs_w_21 (by decide)) i_p1 i_x165_4 (In_w (R_eq_l i_x165_6 (In_lit (n := 0) (by decide) (by decide) : In 0 0 0) c_23 (by decide) : In 0 0 x165_6) (by decide) : In 0 1 x165_6) (In_of ((hs_w_21.gI (by decide)).trans (hM_w165.2 0 69 (by decide) (by decide))) (In_of (hM_w165.2 0 69 (by decide) (by decide)).symm g165_0_69)) (In_of (hs_w_21.gI (by decide)) g165_0_83) hP hD hS (lv_sub hl [2, 3, 4, 5, 6, 7, 8, 1, 0] rfl)
        · refine lv_iload hx hb dX12_costs_189 (lv_at hl 1 rfl) ?_
          refine kW_i ⟨rfl, rfl⟩ hP hD hS hA (rW_S (As := [.int v_20]) (rest := []) hx hb hml hown hts hK hE hP hD (k_X12_bits l D cI cJ cZ q w_21 hW_w_21 v_20 (In_of ((hs_w_21.gI (by decide)).trans (hM_w165.2 0 69 (by decide) (by decide))) (In_of (hM_w165.2 0 69 (by decide) (by decide)).symm g165_0_69)) _) ⟨⟨rfl, rfl⟩, rfl, rfl⟩ sv_X12_544 ⟨(Nat.le_trans (by decide) hR.1), (Nat.le_trans (by decide) hR.2)⟩ rfl hl.1 rfl (Nat.le_of_ble_eq_true rfl) dX12_costs_191) (fun r_25 w_24 H locs hw_w_24 hP hD hS => ?_)
          obtain ⟨hW_w_24, hs_w_24⟩ := hw_w_24
          refine lv_aload_n hx hb dX12_costs_194 rfl (lv_at hl 2 rfl) ?_
          refine gt_X12 hx hb hts hown hK hP 0 (hW_w_24.o tM_0) 70 (by decide) wd_1471 rfl (hW_w_24.fr tM_0 rfl) dX12_costs_195 ?_
          refine lv_iload_n hx hb dX12_costs_198 rfl (lv_at hl 3 rfl) ?_
          refine va_iald hx hb hK hP 47 0 (hW_w_24.a tM_47) rfl (in_I i_p1 (by decide)) dX12_costs_199 ?_
          refine lv_topi (fun v_26 ev_26 => ?_)
          refine lv_icmp_lt (tgt := 315) hx hb dX12_costs_200 (by decide) (fun c_27 => ?_) (fun c_27 => ?_)
          · exact J315 x26_3 x165_5 x165_6 v_20 r_22 w_24 _ _ ls hW_w_24 ((hM_w165.tr hs_w_21 (by decide)).tr hs_w_24 (by decide)) i_p1 i_x165_4 (In_w (R_ne_l i_x165_6 (In_lit (n := 0) (by decide) (by decide) : In 0 0 0) c_23 (by decide) : In 1 1 x165_6) (by decide) : In 0 1 x165_6) (In_of ((hs_w_24.gI (by decide)).trans ((hs_w_21.gI (by decide)).trans (hM_w165.2 0 69 (by decide) (by decide)))) (In_of (hM_w165.2 0 69 (by decide) (by decide)).symm g165_0_69)) (In_of ((hs_w_24.gI (by decide)).trans (hs_w_21.gI (by decide))) g165_0_83) hP hD hS (lv_sub hl [2, 3, 4, 5, 6, 7, 8, 1, 0] rfl)
          · refine lv_iload hx hb dX12_costs_203 (lv_at hl 0 rfl) ?_
            refine lv_iload_n hx hb dX12_costs_205 rfl (lv_at hl 4 rfl) ?_
            refine lv_aload_n hx hb dX12_costs_206 rfl (lv_at hl 2 rfl) ?_
            refine gt_X12 hx hb hts hown hK hP 0 (hW_w_24.o tM_0) 17 (by decide) wd_1418 rfl (hW_w_24.fr tM_0 rfl) dX12_costs_207 ?_
            refine lv_aload_n hx hb dX12_costs_210 rfl (lv_at hl 2 rfl) ?_
            refine gt_X12 hx hb hts hown hK hP 0 (hW_w_24.o tM_0) 12 (by decide) wd_1413 rfl (hW_w_24.fi tM_0 rfl) dX12_costs_211 ?_
            refine tov (v := (fI w 0 12)) ((hs_w_24.gI (by decide)).trans ((hs_w_21.gI (by decide)).trans (hM_w165.2 0 12 (by decide) (by decide)))) ?_
            refine va_iald hx hb hK hP 5 0 (hW_w_24.a tM_5) rfl (in_I (hW_w.fin tM_0 rfl : In 0 1 (fI w 0 12)) (by decide)) dX12_costs_214 ?_
            refine lv_topi (fun v_28 ev_28 => ?_)
            refine lv_isub hx hb dX12_costs_215 ?_
            refine lv_topi (fun v_29 ev_29 => ?_)
            refine lv_icmp_lt (tgt := 315) hx hb dX12_costs_216 (by decide) (fun c_30 => ?_) (fun c_30 => ?_)
            · exact J315 x26_3 x165_5 x165_6 v_20 r_22 w_24 _ _ ls hW_w_24 ((hM_w165.tr hs_w_21 (by decide)).tr hs_w_24 (by decide)) i_p1 i_x165_4 (In_w (R_ne_l i_x165_6 (In_lit (n := 0) (by decide) (by decide) : In 0 0 0) c_23 (by decide) : In 1 1 x165_6) (by decide) : In 0 1 x165_6) (In_of ((hs_w_24.gI (by decide)).trans ((hs_w_21.gI (by decide)).trans (hM_w165.2 0 69 (by decide) (by decide)))) (In_of (hM_w165.2 0 69 (by decide) (by decide)).symm g165_0_69)) (In_of ((hs_w_24.gI (by decide)).trans (hs_w_21.gI (by decide))) g165_0_83) hP hD hS (lv_sub hl [2, 3, 4, 5, 6, 7, 8, 1, 0] rfl)
            · refine lv_iload_n hx hb dX12_costs_219 rfl (lv_at hl 4 rfl) ?_
              refine lv_if_le (tgt := 232) hx hb dX12_costs_220 (by decide) (fun c_31 => ?_) (fun c_31 => ?_)
              · exact J232 x165_5 x165_6 v_20 r_22 w_24 _ _ ls hW_w_24 ((hM_w165.tr hs_w_21 (by decide)).tr hs_w_24 (by decide)) i_p1 i_x165_4 (R_ne_l i_x165_6 (In_lit (n := 0) (by decide) (by decide) : In 0 0 0) c_23 (by decide) : In 1 1 x165_6) (In_of ((hs_w_24.gI (by decide)).trans ((hs_w_21.gI (by decide)).trans (hM_w165.2 0 69 (by decide) (by decide)))) (In_of (hM_w165.2 0 69 (by decide) (by decide)).symm g165_0_69)) (In_of ((hs_w_24.gI (by decide)).trans (hs_w_21.gI (by decide))) g165_0_83) hP hD hS (lv_sub hl [2, 3, 4, 5, 6, 7, 8, 1, 0] rfl)
              · refine lv_iload hx hb dX12_costs_223 (lv_at hl 0 rfl) ?_
                refine lv_iload_n hx hb dX12_costs_225 rfl (lv_at hl 4 rfl) ?_
                refine lv_icmp_le (tgt := 232) hx hb dX12_costs_226 (by decide) (fun c_32 => ?_) (fun c_32 => ?_)
                · exact J232 x165_5 x165_6 v_20 r_22 w_24 _ _ ls hW_w_24 ((hM_w165.tr hs_w_21 (by decide)).tr hs_w_24 (by decide)) i_p1 i_x165_4 (R_ne_l i_x165_6 (In_lit (n := 0) (by decide) (by decide) : In 0 0 0) c_23 (by decide) : In 1 1 x165_6) (In_of ((hs_w_24.gI (by decide)).trans ((hs_w_21.gI (by decide)).trans (hM_w165.2 0 69 (by decide) (by decide)))) (In_of (hM_w165.2 0 69 (by decide) (by decide)).symm g165_0_69)) (In_of ((hs_w_24.gI (by decide)).trans (hs_w_21.gI (by decide))) g165_0_83) hP hD hS (lv_sub hl [2, 3, 4, 5, 6, 7, 8, 1, 0] rfl)
                · refine lv_goto (tgt := 315) hx hb dX12_costs_229 (by decide) ?_
                  exact J315 x26_3 x165_5 x165_6 v_20 r_22 w_24 _ _ ls hW_w_24 ((hM_w165.tr hs_w_21 (by decide)).tr hs_w_24 (by decide)) i_p1 i_x165_4 (In_w (R_ne_l i_x165_6 (In_lit (n := 0) (by decide) (by decide) : In 0 0 0) c_23 (by decide) : In 1 1 x165_6) (by decide) : In 0 1 x165_6) (In_of ((hs_w_24.gI (by decide)).trans ((hs_w_21.gI (by decide)).trans (hM_w165.2 0 69 (by decide) (by decide)))) (In_of (hM_w165.2 0 69 (by decide) (by decide)).symm g165_0_69)) (In_of ((hs_w_24.gI (by decide)).trans (hs_w_21.gI (by decide))) g165_0_83) hP hD hS (lv_sub hl [2, 3, 4, 5, 6, 7, 8, 1, 0] rfl)
      have J67 : ∀ (N : Nat) (x67_5 : Int32) (x67_6 : Int32) (x67_7 : Int32) (w67 : va_W) (H : Heap) (locs : List Loc) (ls : Array Slot), (10 - x67_7.toInt).toNat < N → HT q (TM q cI cJ cZ) w67 → Sm [0] [(0, 83)] w w67 → (In 0 39 p1) → (In 1 2147483646 x26_4) → (In 0 1 x67_6) → (In 0 10 x67_7) → (In 1 40 (fI w67 0 69)) → (In 0 2147483646 (fI w67 0 83)) → va_P D vwCl w67 H → va_D A w67 → va_S A s.heap H locs → lv_has ls 10 [(0, .ref (q 0)), (1, .int p1), (2, .int x26_2), (3, .int x26_3), (4, .int x26_4), (5, .int x67_5), (6, .int x67_6), (7, .int x67_7)] → W p l e R s m args below meth c H locs 0 0 Q (F0 m 67 ls []) := by
        intro N
        induction N with
        | zero => intro x67_5 x67_6 x67_7 w67 H locs ls hmu; exact absurd hmu (Nat.not_lt_zero _)
        | succ N ih67 =>
          intro x67_5 x67_6 x67_7 w67 H locs ls hmu67 hW_w67 hM_w67 i_x67_1 i_x67_4 i_x67_6 i_x67_7 g67_0_69 g67_0_83 hP hD hS hl
          have J159 : ∀ (x159_5 : Int32) (x159_6 : Int32) (w159 : va_W) (H : Heap) (locs : List Loc) (ls : Array Slot), HT q (TM q cI cJ cZ) w159 → Sm [0] [(0, 83)] w w159 → (In 0 39 p1) → (In 1 2147483646 x26_4) → (In 0 1 x159_6) → (In 0 9 x67_7) → (In 1 40 (fI w159 0 69)) → (fI w159 0 83 = (fI w67 0 83)) → (In 0 2147483646 (fI w67 0 83)) → va_P D vwCl w159 H → va_D A w159 → va_S A s.heap H locs → lv_has ls 10 [(0, .ref (q 0)), (1, .int p1), (2, .int x26_2), (3, .int x26_3), (4, .int x26_4), (5, .int x159_5), (6, .int x159_6), (7, .int x67_7)] → W p l e R s m args below meth c H locs 0 0 Q (F0 m 159 ls []) := by
            intro x159_5 x159_6 w159 H locs ls hW_w159 hM_w159 i_x159_1 i_x159_4 i_x159_6 i_x159_7 g159_0_69 g159_0_83e g159_0_83 hP hD hS hl
            refine lv_iinc (v := (x67_7 + 1)) (lv' := [(7, .int (x67_7 + 1)), (0, .ref (q 0)), (1, .int p1), (2, .int x26_2), (3, .int x26_3), (4, .int x26_4), (5, .int x159_5), (6, .int x159_6)]) hx hb dX12_costs_159 hl (k := 7) rfl (rfl) (by decide) rfl (fun ls hl => ?_)
            refine lv_goto (tgt := 67) hx hb dX12_costs_162 (by decide) ?_
            exact ih67 x159_5 x159_6 (x67_7 + 1) w159 _ _ ls (mu_inc hmu67 i_x159_7 (In_lit (n := 1) (by decide) (by decide) : In 1 1 1) (by decide)) hW_w159 hM_w159 i_p1 i_x67_4 i_x159_6 (In_w ((In_add (y := 1) i_x159_7 (In_lit (n := 1) (by decide) (by decide) : In 1 1 1) (by decide)) : In 1 10 (x67_7 + 1)) (by decide) : In 0 10 (x67_7 + 1)) (In_of (hM_w159.2 0 69 (by decide) (by decide)) (In_of (hM_w159.2 0 69 (by decide) (by decide)).symm g159_0_69)) (In_of g159_0_83e g67_0_83) hP hD hS (lv_sub hl [1, 2, 3, 4, 5, 6, 7, 0] rfl)
          have J137 : ∀ (y137_0 : Int32) (w137 : va_W) (H : Heap) (locs : List Loc) (ls : Array Slot), HT q (TM q cI cJ cZ) w137 → Sm [0] [(0, 83)] w w137 → (In 0 39 p1) → (In 1 2147483646 x26_4) → (In 1 1 x67_6) → (In 0 9 x67_7) → (In 0 1 y137_0) → (In 1 40 (fI w137 0 69)) → (fI w137 0 83 = (fI w67 0 83)) → (In 0 2147483646 (fI w67 0 83)) → va_P D vwCl w137 H → va_D A w137 → va_S A s.heap H locs → lv_has ls 10 [(0, .ref (q 0)), (1, .int p1), (2, .int x26_2), (3, .int x26_3), (4, .int x26_4), (5, .int x67_5), (6, .int x67_6), (7, .int x67_7)] → W p l e R s m args below meth c H locs 0 0 Q (F0 m 137 ls [.int y137_0]) := by
            intro y137_0 w137 H locs ls hW_w137 hM_w137 i_x137_1 i_x137_4 i_x137_6 i_x137_7 i_y137_0 g137_0_69 g137_0_83e g137_0_83 hP hD hS hl
            refine lv_istore (lv' := [(6, .int y137_0), (0, .ref (q 0)), (1, .int p1), (2, .int x26_2), (3, .int x26_3), (4, .int x26_4), (5, .int x67_5), (7, .int x67_7)]) hx hb dX12_costs_137 hl (by decide) rfl (fun ls hl => ?_)
            refine lv_iload hx hb dX12_costs_139 (lv_at hl 6 rfl) ?_
            refine lv_aload_n hx hb dX12_costs_141 rfl (lv_at hl 1 rfl) ?_
            refine gt_X12 hx hb hts hown hK hP 0 (hW_w137.o tM_0) 21 (by decide) wd_1422 rfl (hW_w137.fr tM_0 rfl) dX12_costs_142 ?_
            refine lv_bipush (v := 10) hx hb dX12_costs_145 (by decide) ?_
            refine lv_aload_n hx hb dX12_costs_147 rfl (lv_at hl 1 rfl) ?_
            refine gt_X12 hx hb hts hown hK hP 0 (hW_w137.o tM_0) 12 (by decide) wd_1413 rfl (hW_w137.fi tM_0 rfl) dX12_costs_148 ?_
            refine tov (v := (fI w 0 12)) (hM_w137.2 0 12 (by decide) (by decide)) ?_
            refine lv_imul hx hb dX12_costs_151 ?_
            refine lv_iload hx hb dX12_costs_152 (lv_at hl 7 rfl) ?_
            refine lv_iadd hx hb dX12_costs_154 ?_
            refine va_iald hx hb hK hP 9 0 (hW_w137.a tM_9) rfl (in_I ((In_add ((In_mull (hW_w.fin tM_0 rfl : In 0 1 (fI w 0 12)) (n := 10) (by decide) (by decide)) : In 0 10 (10 * (fI w 0 12))) i_x137_7 (by decide)) : In 0 19 ((10 * (fI w 0 12)) + x67_7)) (by decide)) dX12_costs_155 ?_
            refine lv_topi (fun v_33 ev_33 => ?_)
            refine lv_iadd hx hb dX12_costs_156 ?_
            refine lv_topi (fun v_34 ev_34 => ?_)
            refine lv_istore (lv' := [(5, .int v_34), (6, .int y137_0), (0, .ref (q 0)), (1, .int p1), (2, .int x26_2), (3, .int x26_3), (4, .int x26_4), (7, .int x67_7)]) hx hb dX12_costs_157 hl (by decide) rfl (fun ls hl => ?_)
            exact J159 v_34 y137_0 w137 _ _ ls hW_w137 hM_w137 i_p1 i_x67_4 i_y137_0 i_x137_7 (In_of (hM_w137.2 0 69 (by decide) (by decide)) (In_of (hM_w137.2 0 69 (by decide) (by decide)).symm g137_0_69)) g137_0_83e g67_0_83 hP hD hS (lv_sub hl [2, 3, 4, 5, 6, 0, 1, 7] rfl)
          have J136 : ∀ (w136 : va_W) (H : Heap) (locs : List Loc) (ls : Array Slot), HT q (TM q cI cJ cZ) w136 → Sm [0] [(0, 83)] w w136 → (In 0 39 p1) → (In 1 2147483646 x26_4) → (In 1 1 x67_6) → (In 0 9 x67_7) → (In 1 40 (fI w136 0 69)) → (fI w136 0 83 = (fI w67 0 83)) → (In 0 2147483646 (fI w67 0 83)) → va_P D vwCl w136 H → va_D A w136 → va_S A s.heap H locs → lv_has ls 10 [(0, .ref (q 0)), (1, .int p1), (2, .int x26_2), (3, .int x26_3), (4, .int x26_4), (5, .int x67_5), (6, .int x67_6), (7, .int x67_7)] → W p l e R s m args below meth c H locs 0 0 Q (F0 m 136 ls []) := by
            intro w136 H locs ls hW_w136 hM_w136 i_x136_1 i_x136_4 i_x136_6 i_x136_7 g136_0_69 g136_0_83e g136_0_83 hP hD hS hl
            refine lv_iconst (v := 0) hx hb dX12_costs_136 (by decide) ?_
            exact J137 0 w136 _ _ ls hW_w136 hM_w136 i_p1 i_x67_4 i_x136_6 i_x136_7 (In_lit (n := 0) (by decide) (by decide) : In 0 1 0) (In_of (hM_w136.2 0 69 (by decide) (by decide)) (In_of (hM_w136.2 0 69 (by decide) (by decide)).symm g136_0_69)) g136_0_83e g67_0_83 hP hD hS (lv_sub hl [0, 1, 2, 3, 4, 5, 6, 7] rfl)
          refine lv_iload hx hb dX12_costs_67 (lv_at hl 7 rfl) ?_
          refine lv_aload_n hx hb dX12_costs_69 rfl (lv_at hl 0 rfl) ?_
          refine gt_X12 hx hb hts hown hK hP 0 (hW_w67.o tM_0) 14 (by decide) wd_1415 rfl (hW_w67.fr tM_0 rfl) dX12_costs_70 ?_
          refine lv_aload_n hx hb dX12_costs_73 rfl (lv_at hl 0 rfl) ?_
          refine gt_X12 hx hb hts hown hK hP 0 (hW_w67.o tM_0) 12 (by decide) wd_1413 rfl (hW_w67.fi tM_0 rfl) dX12_costs_74 ?_
          refine tov (v := (fI w 0 12)) (hM_w67.2 0 12 (by decide) (by decide)) ?_
          refine va_iald hx hb hK hP 2 0 (hW_w67.a tM_2) rfl (in_I (hW_w.fin tM_0 rfl : In 0 1 (fI w 0 12)) (by decide)) dX12_costs_77 ?_
          refine lv_topi (fun v_35 ev_35 => ?_)
          refine lv_icmp_ge (tgt := 165) hx hb dX12_costs_78 (by decide) (fun c_36 => ?_) (fun c_36 => ?_)
          · exact J165 x67_5 x67_6 x67_7 w67 _ _ ls hW_w67 hM_w67 i_p1 i_x67_4 i_x67_6 i_x67_7 (In_of (hM_w67.2 0 69 (by decide) (by decide)) (In_of (hM_w67.2 0 69 (by decide) (by decide)).symm g67_0_69)) g67_0_83 hP hD hS (lv_sub hl [0, 1, 2, 3, 4, 5, 6, 7] rfl)
          · refine lv_iload hx hb dX12_costs_81 (lv_at hl 6 rfl) ?_
            refine lv_if_eq (tgt := 165) hx hb dX12_costs_83 (by decide) (fun c_37 => ?_) (fun c_37 => ?_)
            · exact J165 x67_5 x67_6 x67_7 w67 _ _ ls hW_w67 hM_w67 i_p1 i_x67_4 (In_w (R_eq_l i_x67_6 (In_lit (n := 0) (by decide) (by decide) : In 0 0 0) c_37 (by decide) : In 0 0 x67_6) (by decide) : In 0 1 x67_6) (In_w (R_nle_r (In_of ev_35 (hW_w67.ap tM_2 _) : In 0 10 v_35) i_x67_7 c_36 (by decide) : In 0 9 x67_7) (by decide) : In 0 10 x67_7) (In_of (hM_w67.2 0 69 (by decide) (by decide)) (In_of (hM_w67.2 0 69 (by decide) (by decide)).symm g67_0_69)) g67_0_83 hP hD hS (lv_sub hl [0, 1, 2, 3, 4, 5, 6, 7] rfl)
            · refine lv_iload hx hb dX12_costs_86 (lv_at hl 4 rfl) ?_
              refine lv_iload hx hb dX12_costs_88 (lv_at hl 7 rfl) ?_
              refine lv_ishr hx hb dX12_costs_90 ?_
              refine lv_topi (fun v_38 ev_38 => ?_)
              refine lv_iconst (v := 1) hx hb dX12_costs_91 (by decide) ?_
              refine lv_iand hx hb dX12_costs_92 ?_
              refine lv_if_ne (tgt := 99) hx hb dX12_costs_93 (by decide) (fun c_39 => ?_) (fun c_39 => ?_)
              · refine lv_aload_n hx hb dX12_costs_99 rfl (lv_at hl 0 rfl) ?_
                refine gt_X12 hx hb hts hown hK hP 0 (hW_w67.o tM_0) 21 (by decide) wd_1422 rfl (hW_w67.fr tM_0 rfl) dX12_costs_100 ?_
                refine lv_bipush (v := 10) hx hb dX12_costs_103 (by decide) ?_
                refine lv_aload_n hx hb dX12_costs_105 rfl (lv_at hl 0 rfl) ?_
                refine gt_X12 hx hb hts hown hK hP 0 (hW_w67.o tM_0) 12 (by decide) wd_1413 rfl (hW_w67.fi tM_0 rfl) dX12_costs_106 ?_
                refine tov (v := (fI w 0 12)) (hM_w67.2 0 12 (by decide) (by decide)) ?_
                refine lv_imul hx hb dX12_costs_109 ?_
                refine lv_iload hx hb dX12_costs_110 (lv_at hl 7 rfl) ?_
                refine lv_iadd hx hb dX12_costs_112 ?_
                refine va_iald hx hb hK hP 9 0 (hW_w67.a tM_9) rfl (in_I ((In_add ((In_mull (hW_w.fin tM_0 rfl : In 0 1 (fI w 0 12)) (n := 10) (by decide) (by decide)) : In 0 10 (10 * (fI w 0 12))) (R_nle_r (In_of ev_35 (hW_w67.ap tM_2 _) : In 0 10 v_35) i_x67_7 c_36 (by decide) : In 0 9 x67_7) (by decide)) : In 0 19 ((10 * (fI w 0 12)) + x67_7)) (by decide)) dX12_costs_113 ?_
                refine lv_topi (fun v_40 ev_40 => ?_)
                refine lv_if_le (tgt := 136) hx hb dX12_costs_114 (by decide) (fun c_41 => ?_) (fun c_41 => ?_)
                · exact J136 w67 _ _ ls hW_w67 hM_w67 i_p1 i_x67_4 (R_ne_l i_x67_6 (In_lit (n := 0) (by decide) (by decide) : In 0 0 0) c_37 (by decide) : In 1 1 x67_6) (R_nle_r (In_of ev_35 (hW_w67.ap tM_2 _) : In 0 10 v_35) i_x67_7 c_36 (by decide) : In 0 9 x67_7) (In_of (hM_w67.2 0 69 (by decide) (by decide)) (In_of (hM_w67.2 0 69 (by decide) (by decide)).symm g67_0_69)) rfl g67_0_83 hP hD hS (lv_sub hl [0, 1, 2, 3, 4, 5, 6, 7] rfl)
                · refine lv_aload_n hx hb dX12_costs_117 rfl (lv_at hl 0 rfl) ?_
                  refine gt_X12 hx hb hts hown hK hP 0 (hW_w67.o tM_0) 74 (by decide) wd_1475 rfl (hW_w67.fr tM_0 rfl) dX12_costs_118 ?_
                  refine lv_bipush (v := 10) hx hb dX12_costs_121 (by decide) ?_
                  refine lv_iload_n hx hb dX12_costs_123 rfl (lv_at hl 1 rfl) ?_
                  refine lv_imul hx hb dX12_costs_124 ?_
                  refine lv_iload hx hb dX12_costs_125 (lv_at hl 7 rfl) ?_
                  refine lv_iadd hx hb dX12_costs_127 ?_
                  refine va_zald hx hb hK hP 51 2 (hW_w67.a tM_51) rfl (in_I ((In_add ((In_mull i_p1 (n := 10) (by decide) (by decide)) : In 0 390 (10 * p1)) (R_nle_r (In_of ev_35 (hW_w67.ap tM_2 _) : In 0 10 v_35) i_x67_7 c_36 (by decide) : In 0 9 x67_7) (by decide)) : In 0 399 ((10 * p1) + x67_7)) (by decide)) dX12_costs_128 ?_
                  refine lv_topi (fun v_42 ev_42 => ?_)
                  refine lv_if_eq (tgt := 136) hx hb dX12_costs_129 (by decide) (fun c_43 => ?_) (fun c_43 => ?_)
                  · exact J136 w67 _ _ ls hW_w67 hM_w67 i_p1 i_x67_4 (R_ne_l i_x67_6 (In_lit (n := 0) (by decide) (by decide) : In 0 0 0) c_37 (by decide) : In 1 1 x67_6) (R_nle_r (In_of ev_35 (hW_w67.ap tM_2 _) : In 0 10 v_35) i_x67_7 c_36 (by decide) : In 0 9 x67_7) (In_of (hM_w67.2 0 69 (by decide) (by decide)) (In_of (hM_w67.2 0 69 (by decide) (by decide)).symm g67_0_69)) rfl g67_0_83 hP hD hS (lv_sub hl [0, 1, 2, 3, 4, 5, 6, 7] rfl)
                  · refine lv_iconst (v := 1) hx hb dX12_costs_132 (by decide) ?_
                    refine lv_goto (tgt := 137) hx hb dX12_costs_133 (by decide) ?_
                    exact J137 1 w67 _ _ ls hW_w67 hM_w67 i_p1 i_x67_4 (R_ne_l i_x67_6 (In_lit (n := 0) (by decide) (by decide) : In 0 0 0) c_37 (by decide) : In 1 1 x67_6) (R_nle_r (In_of ev_35 (hW_w67.ap tM_2 _) : In 0 10 v_35) i_x67_7 c_36 (by decide) : In 0 9 x67_7) (In_lit (n := 1) (by decide) (by decide) : In 0 1 1) (In_of (hM_w67.2 0 69 (by decide) (by decide)) (In_of (hM_w67.2 0 69 (by decide) (by decide)).symm g67_0_69)) rfl g67_0_83 hP hD hS (lv_sub hl [0, 1, 2, 3, 4, 5, 6, 7] rfl)
              · refine lv_goto (tgt := 159) hx hb dX12_costs_96 (by decide) ?_
                exact J159 x67_5 x67_6 w67 _ _ ls hW_w67 hM_w67 i_p1 i_x67_4 (In_w (R_ne_l i_x67_6 (In_lit (n := 0) (by decide) (by decide) : In 0 0 0) c_37 (by decide) : In 1 1 x67_6) (by decide) : In 0 1 x67_6) (R_nle_r (In_of ev_35 (hW_w67.ap tM_2 _) : In 0 10 v_35) i_x67_7 c_36 (by decide) : In 0 9 x67_7) (In_of (hM_w67.2 0 69 (by decide) (by decide)) (In_of (hM_w67.2 0 69 (by decide) (by decide)).symm g67_0_69)) rfl g67_0_83 hP hD hS (lv_sub hl [0, 1, 2, 3, 4, 5, 6, 7] rfl)
      have J62 : ∀ (x62_5 : Int32) (y62_0 : Int32) (w62 : va_W) (H : Heap) (locs : List Loc) (ls : Array Slot), HT q (TM q cI cJ cZ) w62 → Sm [0] [(0, 83)] w w62 → (In 0 39 p1) → (In 1 2147483646 x26_4) → (In 0 0 x62_5) → (In 0 1 y62_0) → (In 1 40 (fI w62 0 69)) → (fI w62 0 83 = (fI w26 0 83)) → (In 0 2147483646 (fI w26 0 83)) → va_P D vwCl w62 H → va_D A w62 → va_S A s.heap H locs → lv_has ls 10 [(0, .ref (q 0)), (1, .int p1), (2, .int x26_2), (3, .int x26_3), (4, .int x26_4), (5, .int x62_5)] → W p l e R s m args below meth c H locs 0 0 Q (F0 m 62 ls [.int y62_0]) := by
        intro x62_5 y62_0 w62 H locs ls hW_w62 hM_w62 i_x62_1 i_x62_4 i_x62_5 i_y62_0 g62_0_69 g62_0_83e g62_0_83 hP hD hS hl
        refine lv_istore (lv' := [(6, .int y62_0), (0, .ref (q 0)), (1, .int p1), (2, .int x26_2), (3, .int x26_3), (4, .int x26_4), (5, .int x62_5)]) hx hb dX12_costs_62 hl (by decide) rfl (fun ls hl => ?_)
        refine lv_iconst (v := 0) hx hb dX12_costs_64 (by decide) ?_
        refine lv_istore (lv' := [(7, .int 0), (6, .int y62_0), (0, .ref (q 0)), (1, .int p1), (2, .int x26_2), (3, .int x26_3), (4, .int x26_4), (5, .int x62_5)]) hx hb dX12_costs_65 hl (by decide) rfl (fun ls hl => ?_)
        exact J67 _ x62_5 y62_0 0 w62 _ _ ls (Nat.lt_succ_self _) hW_w62 hM_w62 i_p1 i_x62_4 i_y62_0 (In_lit (n := 0) (by decide) (by decide) : In 0 10 0) (In_of (hM_w62.2 0 69 (by decide) (by decide)) (In_of (hM_w62.2 0 69 (by decide) (by decide)).symm g62_0_69)) (In_of g62_0_83e g26_0_83) hP hD hS (lv_sub hl [2, 3, 4, 5, 6, 7, 1, 0] rfl)
      refine lv_iload hx hb dX12_costs_26 (lv_at hl 4 rfl) ?_
      refine lv_iconst (v := 1) hx hb dX12_costs_28 (by decide) ?_
      refine lv_aload_n hx hb dX12_costs_29 rfl (lv_at hl 0 rfl) ?_
      refine gt_X12 hx hb hts hown hK hP 0 (hW_w26.o tM_0) 14 (by decide) wd_1415 rfl (hW_w26.fr tM_0 rfl) dX12_costs_30 ?_
      refine lv_aload_n hx hb dX12_costs_33 rfl (lv_at hl 0 rfl) ?_
      refine gt_X12 hx hb hts hown hK hP 0 (hW_w26.o tM_0) 12 (by decide) wd_1413 rfl (hW_w26.fi tM_0 rfl) dX12_costs_34 ?_
      refine tov (v := (fI w 0 12)) (hM_w26.2 0 12 (by decide) (by decide)) ?_
      refine va_iald hx hb hK hP 2 0 (hW_w26.a tM_2) rfl (in_I (hW_w.fin tM_0 rfl : In 0 1 (fI w 0 12)) (by decide)) dX12_costs_37 ?_
      refine lv_topi (fun v_44 ev_44 => ?_)
      refine lv_ishl hx hb dX12_costs_38 ?_
      refine lv_topi (fun v_45 ev_45 => ?_)
      refine lv_icmp_ge (tgt := 321) hx hb dX12_costs_39 (by decide) (fun c_46 => ?_) (fun c_46 => ?_)
      · refine lv_iload_n hx hb dX12_costs_321 rfl (lv_at hl 3 rfl) ?_
        exact hret _ _ _ _ _ _ hP hD hS dX12_costs_322 ⟨hW_w26, hM_w26⟩
      · refine lv_iconst (v := 0) hx hb dX12_costs_42 (by decide) ?_
        refine lv_istore (lv' := [(5, .int 0), (0, .ref (q 0)), (1, .int p1), (2, .int x26_2), (3, .int x26_3), (4, .int x26_4)]) hx hb dX12_costs_43 hl (by decide) rfl (fun ls hl => ?_)
        refine lv_iload hx hb dX12_costs_45 (lv_at hl 5 rfl) ?_
        refine lv_aload_n hx hb dX12_costs_47 rfl (lv_at hl 1 rfl) ?_
        refine gt_X12 hx hb hts hown hK hP 0 (hW_w26.o tM_0) 76 (by decide) wd_1477 rfl (hW_w26.fr tM_0 rfl) dX12_costs_48 ?_
        refine lv_iload_n hx hb dX12_costs_51 rfl (lv_at hl 2 rfl) ?_
        refine va_iald hx hb hK hP 53 0 (hW_w26.a tM_53) rfl (in_I i_p1 (by decide)) dX12_costs_52 ?_
        refine lv_topi (fun v_47 ev_47 => ?_)
        refine lv_iand hx hb dX12_costs_53 ?_
        refine lv_topi (fun v_48 ev_48 => ?_)
        refine lv_if_ne (tgt := 61) hx hb dX12_costs_54 (by decide) (fun c_49 => ?_) (fun c_49 => ?_)
        · refine lv_iconst (v := 0) hx hb dX12_costs_61 (by decide) ?_
          exact J62 0 0 w26 _ _ ls hW_w26 hM_w26 i_p1 (R_nle_r (In_any v_45) i_x26_4 c_46 (by decide) : In 1 2147483646 x26_4) (In_lit (n := 0) (by decide) (by decide) : In 0 0 0) (In_lit (n := 0) (by decide) (by decide) : In 0 1 0) (In_of (hM_w26.2 0 69 (by decide) (by decide)) (In_of (hM_w26.2 0 69 (by decide) (by decide)).symm g26_0_69)) rfl g26_0_83 hP hD hS (lv_sub hl [1, 2, 3, 4, 5, 0] rfl)
        · refine lv_iconst (v := 1) hx hb dX12_costs_57 (by decide) ?_
          refine lv_goto (tgt := 62) hx hb dX12_costs_58 (by decide) ?_
          exact J62 0 1 w26 _ _ ls hW_w26 hM_w26 i_p1 (R_nle_r (In_any v_45) i_x26_4 c_46 (by decide) : In 1 2147483646 x26_4) (In_lit (n := 0) (by decide) (by decide) : In 0 0 0) (In_lit (n := 1) (by decide) (by decide) : In 0 1 1) (In_of (hM_w26.2 0 69 (by decide) (by decide)) (In_of (hM_w26.2 0 69 (by decide) (by decide)).symm g26_0_69)) rfl g26_0_83 hP hD hS (lv_sub hl [1, 2, 3, 4, 5, 0] rfl)
  refine lv_aload_n hx hb dX12_costs_0 rfl (lv_at hl 0 rfl) ?_
  refine lv_iconst (v := 0) hx hb dX12_costs_1 (by decide) ?_
  refine pt_X12 hx hb hts hown hK hP hD hS 0 (hW_w.o tM_0) 83 (by decide) wd_1484 rfl rfl (ty := .int) (v := .int 0) (by decide +kernel) rfl rfl (hW_w.ll tM_0 (Nat.le_of_ble_eq_true rfl)) dX12_costs_2 (fun H locs hP hD hS => fr_w (hW_w.sI tM_0 rfl (In_lit (n := 0) (by decide) (by decide) : In (-2147483648) 2147483647 0)) hP hD (fun w_50 ew_50 hW_w_50 hP hD => ?_))
  refine lv_aload_n hx hb dX12_costs_5 rfl (lv_at hl 0 rfl) ?_
  refine lv_iload_n hx hb dX12_costs_6 rfl (lv_at hl 1 rfl) ?_
  refine kW_i ⟨rfl, rfl⟩ hP hD hS hA (rW_V (As := [.int p1]) (rest := []) hx hb hml hown hts hK hE hP hD (k_X12_isRight l D cI cJ cZ q w_50 hW_w_50 p1 i_p1 (In_of (fI_nej (hW_w.lt tM_0) ew_50 (by decide)) hf_0_69) _) ⟨⟨rfl, rfl⟩, rfl, rfl⟩ sv_X12_559 ⟨(Nat.le_trans (by decide) hR.1), (Nat.le_trans (by decide) hR.2)⟩ 0 12 (hW_w_50.o tM_0) rfl rfl rfl hl.1 rfl (Nat.le_of_ble_eq_true rfl) dX12_costs_7) (fun r_52 w_51 H locs hw_w_51 hP hD hS => ?_)
  obtain ⟨hW_w_51, hs_w_51, i_r_52⟩ := hw_w_51
  refine lv_if_eq (tgt := 15) hx hb dX12_costs_10 (by decide) (fun c_53 => ?_) (fun c_53 => ?_)
  · refine lv_aload_n hx hb dX12_costs_15 rfl (lv_at hl 0 rfl) ?_
    refine lv_iload_n hx hb dX12_costs_16 rfl (lv_at hl 1 rfl) ?_
    refine kW_i ⟨rfl, rfl⟩ hP hD hS hA (rW_V (As := [.int p1]) (rest := []) hx hb hml hown hts hK hE hP hD (k_X12_greatest l D cI cJ cZ q w_51 hW_w_51 p1 i_p1 (In_of ((hs_w_51.gI (by decide)).trans (fI_nej (hW_w.lt tM_0) ew_50 (by decide))) hf_0_69) _) ⟨⟨rfl, rfl⟩, rfl, rfl⟩ sv_X12_556 ⟨(Nat.le_trans (by decide) hR.1), (Nat.le_trans (by decide) hR.2)⟩ 0 12 (hW_w_51.o tM_0) rfl rfl rfl hl.1 rfl (Nat.le_of_ble_eq_true rfl) dX12_costs_17) (fun r_55 w_54 H locs hw_w_54 hP hD hS => ?_)
    obtain ⟨hW_w_54, hs_w_54⟩ := hw_w_54
    refine lv_istore_n (lv' := [(2, .int r_55), (0, .ref (q 0)), (1, .int p1)]) hx hb dX12_costs_20 rfl hl (by decide) rfl (fun ls hl => ?_)
    refine lv_iconst (v := (-1)) hx hb dX12_costs_21 (by decide) ?_
    refine lv_istore_n (lv' := [(3, .int (-1)), (2, .int r_55), (0, .ref (q 0)), (1, .int p1)]) hx hb dX12_costs_22 rfl hl (by decide) rfl (fun ls hl => ?_)
    refine lv_iconst (v := 1) hx hb dX12_costs_23 (by decide) ?_
    refine lv_istore (lv' := [(4, .int 1), (3, .int (-1)), (2, .int r_55), (0, .ref (q 0)), (1, .int p1)]) hx hb dX12_costs_24 hl (by decide) rfl (fun ls hl => ?_)
    exact J26 _ r_55 (-1) 1 w_54 _ _ ls (Nat.lt_succ_self _) hW_w_54 (((Sm.rf.sf (hW_w.lt tM_0) ew_50 (by decide)).tr hs_w_51 (by decide)).tr hs_w_54 (by decide)) i_p1 (In_lit (n := 1) (by decide) (by decide) : In 1 2147483647 1) (In_of ((hs_w_54.gI (by decide)).trans ((hs_w_51.gI (by decide)).trans (fI_nej (hW_w.lt tM_0) ew_50 (by decide)))) hf_0_69) (In_of ((hs_w_54.gI (by decide)).trans ((hs_w_51.gI (by decide)).trans (fI_eq (hW_w.lt tM_0) ew_50 (hW_w.ll tM_0 (Nat.le_of_ble_eq_true rfl))))) (In_lit (n := 0) (by decide) (by decide) : In 0 2147483646 0)) hP hD hS (lv_sub hl [3, 4, 2, 1, 0] rfl)
  · refine lv_iconst (v := 0) hx hb dX12_costs_13 (by decide) ?_
    exact hret _ _ _ _ _ _ hP hD hS dX12_costs_14 ⟨hW_w_51, ((Sm.rf.sf (hW_w.lt tM_0) ew_50 (by decide)).tr hs_w_51 (by decide))⟩
set_option maxRecDepth 100000 in
set_option maxHeartbeats 8000000 in
theorem k_X12_price (l : Launch) (D : va_G) (cI cJ cZ : ClassId) (q : Nat → Nat) (w : va_W) (hW_w : HT q (TM q cI cJ cZ) w) (p1 : Int32) : Con_i l yX12_price cX12_price 2 (some .int) ({ frames := 4, cells := 0, slots := 0, locals := 97 }) D cI cJ cZ eW [.ref (q 0), .int p1] w (fun (r : Int32) (w1 : va_W) => HT q (TM q cI cJ cZ) w1 ∧ Sm [0] [(0, 83)] w w1) := by
  refine eQ_i rfl (by decide) (Nat.le_of_ble_eq_true rfl) ⟨rfl, rfl⟩ ?_
  intro p e R s m args below meth c A Q hx hb hml hown hts hK hE hA hR hret hP hD hS ls hl
  have hown : s.vm.findClass RX12 = some m.cls := hown
  have hl : lv_has ls 2 [(0, .ref (q 0)), (1, .int p1)] := hl
  refine lv_aload_n hx hb dX12_price_0 rfl (lv_at hl 0 rfl) ?_
  refine lv_iload_n hx hb dX12_price_1 rfl (lv_at hl 1 rfl) ?_
  refine kW_i ⟨rfl, rfl⟩ hP hD hS hA (rW_V (As := [.int p1]) (rest := []) hx hb hml hown hts hK hE hP hD (k_X12_was l D cI cJ cZ q w hW_w p1 _) ⟨⟨rfl, rfl⟩, rfl, rfl⟩ sv_X12_547 ⟨(Nat.le_trans (by decide) hR.1), (Nat.le_trans (by decide) hR.2)⟩ 0 12 (hW_w.o tM_0) rfl rfl rfl hl.1 rfl (Nat.le_of_ble_eq_true rfl) dX12_price_2) (fun r_2 w_1 H locs hw_w_1 hP hD hS => ?_)
  obtain ⟨hW_w_1, hs_w_1, i_r_2, h_3⟩ := hw_w_1
  refine lv_if_eq (tgt := 16) hx hb dX12_price_5 (by decide) (fun c_4 => ?_) (fun c_4 => ?_)
  · refine lv_iconst (v := (-1)) hx hb dX12_price_16 (by decide) ?_
    exact hret _ _ _ _ _ _ hP hD hS dX12_price_17 ⟨hW_w_1, (Sm.rf.tr hs_w_1 (by decide))⟩
  · refine lv_aload_n hx hb dX12_price_8 rfl (lv_at hl 0 rfl) ?_
    refine lv_iload_n hx hb dX12_price_9 rfl (lv_at hl 1 rfl) ?_
    refine kW_i ⟨rfl, rfl⟩ hP hD hS hA (rW_V (As := [.int p1]) (rest := []) hx hb hml hown hts hK hE hP hD (k_X12_costs l D cI cJ cZ q w_1 hW_w_1 p1 (h_3 c_4).2 (In_of (hs_w_1.gI (by decide)) (In_of (hs_w_1.gI (by decide)).symm (h_3 c_4).1)) _) ⟨⟨rfl, rfl⟩, rfl, rfl⟩ sv_X12_565 ⟨(Nat.le_trans (by decide) hR.1), (Nat.le_trans (by decide) hR.2)⟩ 0 12 (hW_w_1.o tM_0) rfl rfl rfl hl.1 rfl (Nat.le_of_ble_eq_true rfl) dX12_price_10) (fun r_6 w_5 H locs hw_w_5 hP hD hS => ?_)
    obtain ⟨hW_w_5, hs_w_5⟩ := hw_w_5
    refine lv_goto (tgt := 17) hx hb dX12_price_13 (by decide) ?_
    exact hret _ _ _ _ _ _ hP hD hS dX12_price_17 ⟨hW_w_5, ((Sm.rf.tr hs_w_1 (by decide)).tr hs_w_5 (by decide))⟩
set_option maxRecDepth 100000 in
set_option maxHeartbeats 8000000 in
theorem k_X12_spend (l : Launch) (D : va_G) (cI cJ cZ : ClassId) (q : Nat → Nat) (w : va_W) (hW_w : HT q (TM q cI cJ cZ) w) (p1 : Int32) : Con_i l yX12_spend cX12_spend 6 (some .int) ({ frames := 4, cells := 0, slots := 0, locals := 97 }) D cI cJ cZ eW [.ref (q 0), .int p1] w (fun (r : Int32) (w1 : va_W) => HT q (TM q cI cJ cZ) w1 ∧ Sm [0, 53, 56, 57, 58] [(0, 80), (0, 81), (0, 83)] w w1) := by
  refine eQ_i rfl (by decide) (Nat.le_of_ble_eq_true rfl) ⟨rfl, rfl⟩ ?_
  intro p e R s m args below meth c A Q hx hb hml hown hts hK hE hA hR hret hP hD hS ls hl
  have hown : s.vm.findClass RX12 = some m.cls := hown
  have hl : lv_has ls 6 [(0, .ref (q 0)), (1, .int p1)] := hl
  have J89 : ∀ (N : Nat) (x89_2 : Int32) (x89_3 : Int32) (w89 : va_W) (H : Heap) (locs : List Loc) (ls : Array Slot), (2 * cn (aF w89 58) 0 40 + x89_3.toInt.toNat) < N → HT q (TM q cI cJ cZ) w89 → Sm [0, 53, 56, 57, 58] [(0, 80), (0, 81), (0, 83)] w w89 → (In 0 100000 p1) → (In 0 1 x89_3) → (In 1 1 (fI w89 0 68)) → (fI w89 0 80 = 1) → va_P D vwCl w89 H → va_D A w89 → va_S A s.heap H locs → lv_has ls 6 [(0, .ref (q 0)), (1, .int p1), (2, .int x89_2), (3, .int x89_3)] → W p l e R s m args below meth c H locs 0 0 Q (F0 m 89 ls []) := by
    intro N
    induction N with
    | zero => intro x89_2 x89_3 w89 H locs ls hmu; exact absurd hmu (Nat.not_lt_zero _)
    | succ N ih89 =>
      intro x89_2 x89_3 w89 H locs ls hmu89 hW_w89 hM_w89 i_x89_1 i_x89_3 g89_0_68 g89_0_80e hP hD hS hl
      have J99 : ∀ (N : Nat) (x99_4 : Int32) (x99_5 : Int32) (w99 : va_W) (H : Heap) (locs : List Loc) (ls : Array Slot), (40 - x99_5.toInt).toNat < N → HT q (TM q cI cJ cZ) w99 → Sm [0, 53, 56, 57, 58] [(0, 80), (0, 81), (0, 83)] w w99 → (In 0 100000 p1) → (In 1 1 x89_3) → (In (-1) 39 x99_4) → (In 0 40 x99_5) → (In 1 1 (fI w99 0 68)) → (fI w99 0 80 = 1) → (aF w99 58 = aF w89 58) → ((x99_4 : Int32) = -1 ∨ aF w89 58 x99_4.toNatClampNeg = 0) → va_P D vwCl w99 H → va_D A w99 → va_S A s.heap H locs → lv_has ls 6 [(0, .ref (q 0)), (1, .int p1), (2, .int x89_2), (3, .int x89_3), (4, .int x99_4), (5, .int x99_5)] → W p l e R s m args below meth c H locs 0 0 Q (F0 m 99 ls []) := by
        intro N
        induction N with
        | zero => intro x99_4 x99_5 w99 H locs ls hmu; exact absurd hmu (Nat.not_lt_zero _)
        | succ N ih99 =>
          intro x99_4 x99_5 w99 H locs ls hmu99 hW_w99 hM_w99 i_x99_1 i_x99_3 i_x99_4 i_x99_5 g99_0_68 g99_0_80e hd_99 hb_99 hP hD hS hl
          have J155 : ∀ (x155_4 : Int32) (w155 : va_W) (H : Heap) (locs : List Loc) (ls : Array Slot), HT q (TM q cI cJ cZ) w155 → Sm [0, 53, 56, 57, 58] [(0, 80), (0, 81), (0, 83)] w w155 → (In 0 100000 p1) → (In 1 1 x89_3) → (In (-1) 39 x155_4) → (In 0 39 x99_5) → (In 1 1 (fI w155 0 68)) → (In 1 40 (fI w155 0 69)) → (fI w155 0 80 = 1) → (aF w155 58 = aF w89 58) → ((x155_4 : Int32) = -1 ∨ aF w89 58 x155_4.toNatClampNeg = 0) → va_P D vwCl w155 H → va_D A w155 → va_S A s.heap H locs → lv_has ls 6 [(0, .ref (q 0)), (1, .int p1), (2, .int x89_2), (3, .int x89_3), (4, .int x155_4), (5, .int x99_5)] → W p l e R s m args below meth c H locs 0 0 Q (F0 m 155 ls []) := by
            intro x155_4 w155 H locs ls hW_w155 hM_w155 i_x155_1 i_x155_3 i_x155_4 i_x155_5 g155_0_68 g155_0_69 g155_0_80e hd_155 hb_155 hP hD hS hl
            refine lv_iinc (v := (x99_5 + 1)) (lv' := [(5, .int (x99_5 + 1)), (0, .ref (q 0)), (1, .int p1), (2, .int x89_2), (3, .int x89_3), (4, .int x155_4)]) hx hb dX12_spend_155 hl (k := 5) rfl (rfl) (by decide) rfl (fun ls hl => ?_)
            refine lv_goto (tgt := 99) hx hb dX12_spend_158 (by decide) ?_
            exact ih99 x155_4 (x99_5 + 1) w155 _ _ ls (mu_inc hmu99 i_x155_5 (In_lit (n := 1) (by decide) (by decide) : In 1 1 1) (by decide)) hW_w155 hM_w155 i_x89_1 i_x99_3 i_x155_4 (In_w ((In_add (y := 1) i_x155_5 (In_lit (n := 1) (by decide) (by decide) : In 1 1 1) (by decide)) : In 1 40 (x99_5 + 1)) (by decide) : In 0 40 (x99_5 + 1)) (In_of (hM_w155.2 0 68 (by decide) (by decide)) (In_of (hM_w155.2 0 68 (by decide) (by decide)).symm g155_0_68)) g155_0_80e hd_155 hb_155 hP hD hS (lv_sub hl [1, 2, 3, 4, 5, 0] rfl)
          have J151 : ∀ (w151 : va_W) (H : Heap) (locs : List Loc) (ls : Array Slot), HT q (TM q cI cJ cZ) w151 → Sm [0, 53, 56, 57, 58] [(0, 80), (0, 81), (0, 83)] w w151 → (In 0 100000 p1) → (In 1 1 x89_3) → (In (-1) 39 x99_4) → (In 0 39 x99_5) → (In 1 1 (fI w151 0 68)) → (In 1 40 (fI w151 0 69)) → (fI w151 0 80 = 1) → (aF w151 58 = aF w89 58) → ((x99_4 : Int32) = -1 ∨ aF w89 58 x99_4.toNatClampNeg = 0) → ((x99_5 : Int32) = -1 ∨ aF w89 58 x99_5.toNatClampNeg = 0) → va_P D vwCl w151 H → va_D A w151 → va_S A s.heap H locs → lv_has ls 6 [(0, .ref (q 0)), (1, .int p1), (2, .int x89_2), (3, .int x89_3), (4, .int x99_4), (5, .int x99_5)] → W p l e R s m args below meth c H locs 0 0 Q (F0 m 151 ls []) := by
            intro w151 H locs ls hW_w151 hM_w151 i_x151_1 i_x151_3 i_x151_4 i_x151_5 g151_0_68 g151_0_69 g151_0_80e hd_151 hb_151 hn_151 hP hD hS hl
            refine lv_iload hx hb dX12_spend_151 (lv_at hl 5 rfl) ?_
            refine lv_istore (lv' := [(4, .int x99_5), (0, .ref (q 0)), (1, .int p1), (2, .int x89_2), (3, .int x89_3), (5, .int x99_5)]) hx hb dX12_spend_153 hl (by decide) rfl (fun ls hl => ?_)
            exact J155 x99_5 w151 _ _ ls hW_w151 hM_w151 i_x89_1 i_x99_3 (In_w i_x151_5 (by decide) : In (-1) 39 x99_5) i_x151_5 (In_of (hM_w151.2 0 68 (by decide) (by decide)) (In_of (hM_w151.2 0 68 (by decide) (by decide)).symm g151_0_68)) (In_of (hM_w151.2 0 69 (by decide) (by decide)) (In_of (hM_w151.2 0 69 (by decide) (by decide)).symm g151_0_69)) g151_0_80e hd_151 hn_151 hP hD hS (lv_sub hl [1, 2, 3, 4, 0, 5] rfl)
          refine lv_iload hx hb dX12_spend_99 (lv_at hl 5 rfl) ?_
          refine lv_aload_n hx hb dX12_spend_101 rfl (lv_at hl 0 rfl) ?_
          refine gt_X12 hx hb hts hown hK hP 0 (hW_w99.o tM_0) 69 (by decide) wd_1470 rfl (hW_w99.fi tM_0 rfl) dX12_spend_102 ?_
          refine tov (v := (fI w 0 69)) (hM_w99.2 0 69 (by decide) (by decide)) ?_
          refine lv_icmp_ge (tgt := 161) hx hb dX12_spend_105 (by decide) (fun c_1 => ?_) (fun c_1 => ?_)
          · refine lv_iload hx hb dX12_spend_161 (lv_at hl 4 rfl) ?_
            refine lv_iconst (v := (-1)) hx hb dX12_spend_163 (by decide) ?_
            refine lv_icmp_eq (tgt := 187) hx hb dX12_spend_164 (by decide) (fun c_2 => ?_) (fun c_2 => ?_)
            · refine lv_iconst (v := 0) hx hb dX12_spend_187 (by decide) ?_
              refine lv_istore_n (lv' := [(3, .int 0), (0, .ref (q 0)), (1, .int p1), (2, .int x89_2), (4, .int x99_4), (5, .int x99_5)]) hx hb dX12_spend_188 rfl hl (by decide) rfl (fun ls hl => ?_)
              refine lv_iload_n hx hb dX12_spend_189 rfl (lv_at hl 0 rfl) ?_
              refine lv_if_ne (tgt := 196) hx hb dX12_spend_190 (by decide) (fun h => (h (by decide)).elim) (fun _ => ?_)
              refine lv_goto (tgt := 89) hx hb dX12_spend_193 (by decide) ?_
              exact ih89 x89_2 0 w99 _ _ ls (by have z0 : (0 : Int32).toInt = 0 := (by decide); have z1 : (1 : Int32).toInt = 1 := (by decide); have x3 := i_x99_3; unfold In at x3; rw [show aF w99 58 = aF w89 58 from hd_99]; omega) hW_w99 hM_w99 i_x89_1 (In_lit (n := 0) (by decide) (by decide) : In 0 1 0) (In_of (hM_w99.2 0 68 (by decide) (by decide)) (In_of (hM_w99.2 0 68 (by decide) (by decide)).symm g99_0_68)) g99_0_80e hP hD hS (lv_sub hl [1, 2, 3, 0] rfl)
            · refine lv_aload_n hx hb dX12_spend_167 rfl (lv_at hl 0 rfl) ?_
              refine gt_X12 hx hb hts hown hK hP 0 (hW_w99.o tM_0) 81 (by decide) wd_1482 rfl (hW_w99.fi tM_0 rfl) dX12_spend_168 ?_
              refine lv_aload_n hx hb dX12_spend_171 rfl (lv_at hl 0 rfl) ?_
              refine gt_X12 hx hb hts hown hK hP 0 (hW_w99.o tM_0) 84 (by decide) wd_1485 rfl (hW_w99.fr tM_0 rfl) dX12_spend_172 ?_
              refine lv_iload hx hb dX12_spend_175 (lv_at hl 4 rfl) ?_
              refine va_iald hx hb hK hP 56 0 (hW_w99.a tM_56) rfl (in_I (R_ne_l i_x99_4 (In_lit (n := (-1)) (by decide) (by decide) : In (-1) (-1) (-1)) c_2 (by decide) : In 0 39 x99_4) (by decide)) dX12_spend_177 ?_
              refine lv_topi (fun v_4 ev_4 => ?_)
              refine lv_iadd hx hb dX12_spend_178 ?_
              refine lv_topi (fun v_5 ev_5 => ?_)
              refine lv_iload_n hx hb dX12_spend_179 rfl (lv_at hl 1 rfl) ?_
              refine lv_icmp_gt (tgt := 187) hx hb dX12_spend_180 (by decide) (fun c_6 => ?_) (fun c_6 => ?_)
              · refine lv_iconst (v := 0) hx hb dX12_spend_187 (by decide) ?_
                refine lv_istore_n (lv' := [(3, .int 0), (0, .ref (q 0)), (1, .int p1), (2, .int x89_2), (4, .int x99_4), (5, .int x99_5)]) hx hb dX12_spend_188 rfl hl (by decide) rfl (fun ls hl => ?_)
                refine lv_iload_n hx hb dX12_spend_189 rfl (lv_at hl 0 rfl) ?_
                refine lv_if_ne (tgt := 196) hx hb dX12_spend_190 (by decide) (fun h => (h (by decide)).elim) (fun _ => ?_)
                refine lv_goto (tgt := 89) hx hb dX12_spend_193 (by decide) ?_
                exact ih89 x89_2 0 w99 _ _ ls (by have z0 : (0 : Int32).toInt = 0 := (by decide); have z1 : (1 : Int32).toInt = 1 := (by decide); have x3 := i_x99_3; unfold In at x3; rw [show aF w99 58 = aF w89 58 from hd_99]; omega) hW_w99 hM_w99 i_x89_1 (In_lit (n := 0) (by decide) (by decide) : In 0 1 0) (In_of (hM_w99.2 0 68 (by decide) (by decide)) (In_of (hM_w99.2 0 68 (by decide) (by decide)).symm g99_0_68)) g99_0_80e hP hD hS (lv_sub hl [1, 2, 3, 0] rfl)
              · refine lv_iconst (v := 1) hx hb dX12_spend_183 (by decide) ?_
                refine lv_goto (tgt := 188) hx hb dX12_spend_184 (by decide) ?_
                refine lv_istore_n (lv' := [(3, .int 1), (0, .ref (q 0)), (1, .int p1), (2, .int x89_2), (4, .int x99_4), (5, .int x99_5)]) hx hb dX12_spend_188 rfl hl (by decide) rfl (fun ls hl => ?_)
                refine lv_iload_n hx hb dX12_spend_189 rfl (lv_at hl 0 rfl) ?_
                refine lv_if_ne (tgt := 196) hx hb dX12_spend_190 (by decide) (fun _ => ?_) (fun h => absurd h (by decide))
                refine lv_aload_n hx hb dX12_spend_196 rfl (lv_at hl 1 rfl) ?_
                refine gt_X12 hx hb hts hown hK hP 0 (hW_w99.o tM_0) 86 (by decide) wd_1487 rfl (hW_w99.fr tM_0 rfl) dX12_spend_197 ?_
                refine lv_iload hx hb dX12_spend_200 (lv_at hl 4 rfl) ?_
                refine lv_iconst (v := 1) hx hb dX12_spend_202 (by decide) ?_
                refine va_zast hx hb hK hP hD hS 58 2 (hW_w99.a tM_58) rfl (in_I (R_ne_l i_x99_4 (In_lit (n := (-1)) (by decide) (by decide) : In (-1) (-1) (-1)) c_2 (by decide) : In 0 39 x99_4) (by decide)) dX12_spend_203 (fun H locs hP hD hS => fr_w (hW_w99.uA tM_58 (vnar_z _)) hP hD (fun w_9 ew_9 hW_w_9 hP hD => ?_))
                refine lv_aload_n hx hb dX12_spend_204 rfl (lv_at hl 1 rfl) ?_
                refine gt_X12 hx hb hts hown hK hP 0 (hW_w_9.o tM_0) 76 (by decide) wd_1477 rfl (hW_w_9.fr tM_0 rfl) dX12_spend_205 ?_
                refine lv_iload hx hb dX12_spend_208 (lv_at hl 4 rfl) ?_
                refine lv_dup2_11 hx hb dX12_spend_210 rfl rfl ?_
                refine va_iald hx hb hK hP 53 0 (hW_w_9.a tM_53) rfl (in_I (R_ne_l i_x99_4 (In_lit (n := (-1)) (by decide) (by decide) : In (-1) (-1) (-1)) c_2 (by decide) : In 0 39 x99_4) (by decide)) dX12_spend_211 ?_
                refine lv_topi (fun v_10 ev_10 => ?_)
                refine lv_aload_n hx hb dX12_spend_212 rfl (lv_at hl 1 rfl) ?_
                refine gt_X12 hx hb hts hown hK hP 0 (hW_w_9.o tM_0) 85 (by decide) wd_1486 rfl (hW_w_9.fr tM_0 rfl) dX12_spend_213 ?_
                refine lv_iload hx hb dX12_spend_216 (lv_at hl 4 rfl) ?_
                refine va_iald hx hb hK hP 57 0 (hW_w_9.a tM_57) rfl (in_I (R_ne_l i_x99_4 (In_lit (n := (-1)) (by decide) (by decide) : In (-1) (-1) (-1)) c_2 (by decide) : In 0 39 x99_4) (by decide)) dX12_spend_218 ?_
                refine lv_topi (fun v_11 ev_11 => ?_)
                refine lv_ior hx hb dX12_spend_219 ?_
                refine lv_topi (fun v_12 ev_12 => ?_)
                refine va_iast hx hb hK hP hD hS 53 0 (hW_w_9.a tM_53) rfl (in_I (R_ne_l i_x99_4 (In_lit (n := (-1)) (by decide) (by decide) : In (-1) (-1) (-1)) c_2 (by decide) : In 0 39 x99_4) (by decide)) dX12_spend_220 (fun H locs hP hD hS => fr_w (hW_w_9.uA tM_53 (In_any v_12)) hP hD (fun w_13 ew_13 hW_w_13 hP hD => ?_))
                refine lv_aload_n hx hb dX12_spend_221 rfl (lv_at hl 1 rfl) ?_
                refine lv_dup hx hb dX12_spend_222 rfl ?_
                refine gt_X12 hx hb hts hown hK hP 0 (hW_w_13.o tM_0) 81 (by decide) wd_1482 rfl (hW_w_13.fi tM_0 rfl) dX12_spend_223 ?_
                refine tov (v := (fI w99 0 81)) ((fI_cg (st_ne ew_13 (by decide))).trans (fI_cg (st_ne ew_9 (by decide)))) ?_
                refine lv_aload_n hx hb dX12_spend_226 rfl (lv_at hl 1 rfl) ?_
                refine gt_X12 hx hb hts hown hK hP 0 (hW_w_13.o tM_0) 84 (by decide) wd_1485 rfl (hW_w_13.fr tM_0 rfl) dX12_spend_227 ?_
                refine lv_iload hx hb dX12_spend_230 (lv_at hl 4 rfl) ?_
                refine va_iald hx hb hK hP 56 0 (hW_w_13.a tM_56) rfl (in_I (R_ne_l i_x99_4 (In_lit (n := (-1)) (by decide) (by decide) : In (-1) (-1) (-1)) c_2 (by decide) : In 0 39 x99_4) (by decide)) dX12_spend_232 ?_
                refine tov (v := v_4) ((congrFun ((aF_cg (st_ne ew_13 (by decide))).trans (aF_cg (st_ne ew_9 (by decide)))) _).trans ev_4.symm) ?_
                refine lv_iadd hx hb dX12_spend_233 ?_
                refine lv_topi (fun v_14 ev_14 => ?_)
                refine pt_X12 hx hb hts hown hK hP hD hS 0 (hW_w_13.o tM_0) 81 (by decide) wd_1482 rfl rfl (ty := .int) (v := .int v_14) (by decide +kernel) rfl rfl (hW_w_13.ll tM_0 (Nat.le_of_ble_eq_true rfl)) dX12_spend_234 (fun H locs hP hD hS => fr_w (hW_w_13.sI tM_0 rfl (In_any v_14)) hP hD (fun w_15 ew_15 hW_w_15 hP hD => ?_))
                refine lv_iinc (v := (x89_2 + 1)) (lv' := [(2, .int (x89_2 + 1)), (3, .int 1), (0, .ref (q 0)), (1, .int p1), (4, .int x99_4), (5, .int x99_5)]) hx hb dX12_spend_237 hl (k := 3) rfl (rfl) (by decide) rfl (fun ls hl => ?_)
                refine lv_goto (tgt := 89) hx hb dX12_spend_240 (by decide) ?_
                exact ih89 (x89_2 + 1) 1 w_15 _ _ ls (by have z0 : (0 : Int32).toInt = 0 := (by decide); have z1 : (1 : Int32).toInt = 1 := (by decide); have x3 := i_x99_3; unfold In at x3; have q := cn_dn (f := aF w89 58) (S := 0) (v := vp_nar .boolean 1) (i := x99_4.toNatClampNeg) (hb_99.resolve_left c_2) (by decide) 40; have hl4 : x99_4.toNatClampNeg < 40 := (by have g := nat_of (n := 39) (R_ne_l i_x99_4 (In_lit (n := (-1)) (by decide) (by decide) : In (-1) (-1) (-1)) c_2 (by decide) : In 0 39 x99_4); omega); rw [if_pos hl4] at q; rw [show aF w_15 58 = upd (aF w89 58) x99_4.toNatClampNeg (vp_nar .boolean 1) from (by rw [(aF_cg (st_ne ew_15 (by decide))), (aF_cg (st_ne ew_13 (by decide))), aF_eq (hW_w99.lt tM_58) ew_9, show aF w99 58 = aF w89 58 from hd_99])]; have m3 := (In_lit (n := 1) (by decide) (by decide) : In 1 1 1); unfold In at m3; omega) hW_w_15 (((hM_w99.sa ew_9 (by decide)).sa ew_13 (by decide)).sf (hW_w_13.lt tM_0) ew_15 (by decide)) i_x89_1 (In_lit (n := 1) (by decide) (by decide) : In 0 1 1) (In_of ((fI_nej (hW_w_13.lt tM_0) ew_15 (by decide)).trans ((fI_cg (st_ne ew_13 (by decide))).trans ((fI_cg (st_ne ew_9 (by decide))).trans (hM_w99.2 0 68 (by decide) (by decide))))) (In_of (hM_w99.2 0 68 (by decide) (by decide)).symm g99_0_68)) ((fI_nej (hW_w_13.lt tM_0) ew_15 (by decide)).trans ((fI_cg (st_ne ew_13 (by decide))).trans ((fI_cg (st_ne ew_9 (by decide))).trans g99_0_80e))) hP hD hS (lv_sub hl [2, 3, 0, 1] rfl)
          · refine lv_aload_n hx hb dX12_spend_108 rfl (lv_at hl 0 rfl) ?_
            refine gt_X12 hx hb hts hown hK hP 0 (hW_w99.o tM_0) 86 (by decide) wd_1487 rfl (hW_w99.fr tM_0 rfl) dX12_spend_109 ?_
            refine lv_iload hx hb dX12_spend_112 (lv_at hl 5 rfl) ?_
            refine va_zald hx hb hK hP 58 2 (hW_w99.a tM_58) rfl (in_I (R_nle_r (hW_w.fin tM_0 rfl : In 0 40 (fI w 0 69)) i_x99_5 c_1 (by decide) : In 0 39 x99_5) (by decide)) dX12_spend_114 ?_
            refine lv_topi (fun v_16 ev_16 => ?_)
            refine lv_if_ne (tgt := 155) hx hb dX12_spend_115 (by decide) (fun c_17 => ?_) (fun c_17 => ?_)
            · exact J155 x99_4 w99 _ _ ls hW_w99 hM_w99 i_x89_1 i_x99_3 i_x99_4 (R_nle_r (hW_w.fin tM_0 rfl : In 0 40 (fI w 0 69)) i_x99_5 c_1 (by decide) : In 0 39 x99_5) (In_of (hM_w99.2 0 68 (by decide) (by decide)) (In_of (hM_w99.2 0 68 (by decide) (by decide)).symm g99_0_68)) (In_of (hM_w99.2 0 69 (by decide) (by decide)) (R_nle_l (hW_w.fin tM_0 rfl : In 0 40 (fI w 0 69)) i_x99_5 c_1 (by decide) : In 1 40 (fI w 0 69))) g99_0_80e hd_99 hb_99 hP hD hS (lv_sub hl [0, 1, 2, 3, 4, 5] rfl)
            · refine lv_aload_n hx hb dX12_spend_118 rfl (lv_at hl 0 rfl) ?_
              refine gt_X12 hx hb hts hown hK hP 0 (hW_w99.o tM_0) 84 (by decide) wd_1485 rfl (hW_w99.fr tM_0 rfl) dX12_spend_119 ?_
              refine lv_iload hx hb dX12_spend_122 (lv_at hl 5 rfl) ?_
              refine va_iald hx hb hK hP 56 0 (hW_w99.a tM_56) rfl (in_I (R_nle_r (hW_w.fin tM_0 rfl : In 0 40 (fI w 0 69)) i_x99_5 c_1 (by decide) : In 0 39 x99_5) (by decide)) dX12_spend_124 ?_
              refine lv_topi (fun v_18 ev_18 => ?_)
              refine lv_if_lt (tgt := 155) hx hb dX12_spend_125 (by decide) (fun c_19 => ?_) (fun c_19 => ?_)
              · exact J155 x99_4 w99 _ _ ls hW_w99 hM_w99 i_x89_1 i_x99_3 i_x99_4 (R_nle_r (hW_w.fin tM_0 rfl : In 0 40 (fI w 0 69)) i_x99_5 c_1 (by decide) : In 0 39 x99_5) (In_of (hM_w99.2 0 68 (by decide) (by decide)) (In_of (hM_w99.2 0 68 (by decide) (by decide)).symm g99_0_68)) (In_of (hM_w99.2 0 69 (by decide) (by decide)) (R_nle_l (hW_w.fin tM_0 rfl : In 0 40 (fI w 0 69)) i_x99_5 c_1 (by decide) : In 1 40 (fI w 0 69))) g99_0_80e hd_99 hb_99 hP hD hS (lv_sub hl [0, 1, 2, 3, 4, 5] rfl)
              · refine lv_iload hx hb dX12_spend_128 (lv_at hl 4 rfl) ?_
                refine lv_iconst (v := (-1)) hx hb dX12_spend_130 (by decide) ?_
                refine lv_icmp_eq (tgt := 151) hx hb dX12_spend_131 (by decide) (fun c_20 => ?_) (fun c_20 => ?_)
                · exact J151 w99 _ _ ls hW_w99 hM_w99 i_x89_1 i_x99_3 (In_w (R_eq_l i_x99_4 (In_lit (n := (-1)) (by decide) (by decide) : In (-1) (-1) (-1)) c_20 (by decide) : In (-1) (-1) x99_4) (by decide) : In (-1) 39 x99_4) (R_nle_r (hW_w.fin tM_0 rfl : In 0 40 (fI w 0 69)) i_x99_5 c_1 (by decide) : In 0 39 x99_5) (In_of (hM_w99.2 0 68 (by decide) (by decide)) (In_of (hM_w99.2 0 68 (by decide) (by decide)).symm g99_0_68)) (In_of (hM_w99.2 0 69 (by decide) (by decide)) (R_nle_l (hW_w.fin tM_0 rfl : In 0 40 (fI w 0 69)) i_x99_5 c_1 (by decide) : In 1 40 (fI w 0 69))) g99_0_80e hd_99 hb_99 (Or.inr ((ev_16.trans (congrFun hd_99 _)).symm.trans c_17)) hP hD hS (lv_sub hl [0, 1, 2, 3, 4, 5] rfl)
                · refine lv_aload_n hx hb dX12_spend_134 rfl (lv_at hl 0 rfl) ?_
                  refine gt_X12 hx hb hts hown hK hP 0 (hW_w99.o tM_0) 84 (by decide) wd_1485 rfl (hW_w99.fr tM_0 rfl) dX12_spend_135 ?_
                  refine lv_iload hx hb dX12_spend_138 (lv_at hl 5 rfl) ?_
                  refine va_iald hx hb hK hP 56 0 (hW_w99.a tM_56) rfl (in_I (R_nle_r (hW_w.fin tM_0 rfl : In 0 40 (fI w 0 69)) i_x99_5 c_1 (by decide) : In 0 39 x99_5) (by decide)) dX12_spend_140 ?_
                  refine tov (v := v_18) ev_18.symm ?_
                  refine lv_aload_n hx hb dX12_spend_141 rfl (lv_at hl 0 rfl) ?_
                  refine gt_X12 hx hb hts hown hK hP 0 (hW_w99.o tM_0) 84 (by decide) wd_1485 rfl (hW_w99.fr tM_0 rfl) dX12_spend_142 ?_
                  refine lv_iload hx hb dX12_spend_145 (lv_at hl 4 rfl) ?_
                  refine va_iald hx hb hK hP 56 0 (hW_w99.a tM_56) rfl (in_I (R_ne_l i_x99_4 (In_lit (n := (-1)) (by decide) (by decide) : In (-1) (-1) (-1)) c_20 (by decide) : In 0 39 x99_4) (by decide)) dX12_spend_147 ?_
                  refine lv_topi (fun v_21 ev_21 => ?_)
                  refine lv_icmp_ge (tgt := 155) hx hb dX12_spend_148 (by decide) (fun c_22 => ?_) (fun c_22 => ?_)
                  · exact J155 x99_4 w99 _ _ ls hW_w99 hM_w99 i_x89_1 i_x99_3 (In_w (R_ne_l i_x99_4 (In_lit (n := (-1)) (by decide) (by decide) : In (-1) (-1) (-1)) c_20 (by decide) : In 0 39 x99_4) (by decide) : In (-1) 39 x99_4) (R_nle_r (hW_w.fin tM_0 rfl : In 0 40 (fI w 0 69)) i_x99_5 c_1 (by decide) : In 0 39 x99_5) (In_of (hM_w99.2 0 68 (by decide) (by decide)) (In_of (hM_w99.2 0 68 (by decide) (by decide)).symm g99_0_68)) (In_of (hM_w99.2 0 69 (by decide) (by decide)) (R_nle_l (hW_w.fin tM_0 rfl : In 0 40 (fI w 0 69)) i_x99_5 c_1 (by decide) : In 1 40 (fI w 0 69))) g99_0_80e hd_99 hb_99 hP hD hS (lv_sub hl [0, 1, 2, 3, 4, 5] rfl)
                  · exact J151 w99 _ _ ls hW_w99 hM_w99 i_x89_1 i_x99_3 (In_w (R_ne_l i_x99_4 (In_lit (n := (-1)) (by decide) (by decide) : In (-1) (-1) (-1)) c_20 (by decide) : In 0 39 x99_4) (by decide) : In (-1) 39 x99_4) (R_nle_r (hW_w.fin tM_0 rfl : In 0 40 (fI w 0 69)) i_x99_5 c_1 (by decide) : In 0 39 x99_5) (In_of (hM_w99.2 0 68 (by decide) (by decide)) (In_of (hM_w99.2 0 68 (by decide) (by decide)).symm g99_0_68)) (In_of (hM_w99.2 0 69 (by decide) (by decide)) (R_nle_l (hW_w.fin tM_0 rfl : In 0 40 (fI w 0 69)) i_x99_5 c_1 (by decide) : In 1 40 (fI w 0 69))) g99_0_80e hd_99 hb_99 (Or.inr ((ev_16.trans (congrFun hd_99 _)).symm.trans c_17)) hP hD hS (lv_sub hl [0, 1, 2, 3, 4, 5] rfl)
      refine lv_iload_n hx hb dX12_spend_89 rfl (lv_at hl 3 rfl) ?_
      refine lv_if_eq (tgt := 243) hx hb dX12_spend_90 (by decide) (fun c_23 => ?_) (fun c_23 => ?_)
      · refine lv_iload_n hx hb dX12_spend_243 rfl (lv_at hl 2 rfl) ?_
        exact hret _ _ _ _ _ _ hP hD hS dX12_spend_244 ⟨hW_w89, hM_w89⟩
      · refine lv_iconst (v := (-1)) hx hb dX12_spend_93 (by decide) ?_
        refine lv_istore (lv' := [(4, .int (-1)), (0, .ref (q 0)), (1, .int p1), (2, .int x89_2), (3, .int x89_3)]) hx hb dX12_spend_94 hl (by decide) rfl (fun ls hl => ?_)
        refine lv_iconst (v := 0) hx hb dX12_spend_96 (by decide) ?_
        refine lv_istore (lv' := [(5, .int 0), (4, .int (-1)), (0, .ref (q 0)), (1, .int p1), (2, .int x89_2), (3, .int x89_3)]) hx hb dX12_spend_97 hl (by decide) rfl (fun ls hl => ?_)
        exact J99 _ (-1) 0 w89 _ _ ls (Nat.lt_succ_self _) hW_w89 hM_w89 i_x89_1 (R_ne_l i_x89_3 (In_lit (n := 0) (by decide) (by decide) : In 0 0 0) c_23 (by decide) : In 1 1 x89_3) (In_lit (n := (-1)) (by decide) (by decide) : In (-1) 39 (-1)) (In_lit (n := 0) (by decide) (by decide) : In 0 40 0) (In_of (hM_w89.2 0 68 (by decide) (by decide)) (In_of (hM_w89.2 0 68 (by decide) (by decide)).symm g89_0_68)) g89_0_80e (rfl : aF w89 58 = aF w89 58) (Or.inl rfl) hP hD hS (lv_sub hl [2, 3, 4, 5, 1, 0] rfl)
  have J29 : ∀ (N : Nat) (x29_2 : Int32) (w29 : va_W) (H : Heap) (locs : List Loc) (ls : Array Slot), (40 - x29_2.toInt).toNat < N → HT q (TM q cI cJ cZ) w29 → Sm [0, 53, 56, 57, 58] [(0, 80), (0, 81), (0, 83)] w w29 → (In 0 100000 p1) → (In 0 40 x29_2) → (In 1 1 (fI w29 0 68)) → (fI w29 0 80 = (fI w 0 80)) → (In 0 0 (fI w 0 80)) → va_P D vwCl w29 H → va_D A w29 → va_S A s.heap H locs → lv_has ls 6 [(0, .ref (q 0)), (1, .int p1), (2, .int x29_2)] → W p l e R s m args below meth c H locs 0 0 Q (F0 m 29 ls []) := by
    intro N
    induction N with
    | zero => intro x29_2 w29 H locs ls hmu; exact absurd hmu (Nat.not_lt_zero _)
    | succ N ih29 =>
      intro x29_2 w29 H locs ls hmu29 hW_w29 hM_w29 i_x29_1 i_x29_2 g29_0_68 g29_0_80e g29_0_80 hP hD hS hl
      refine lv_iload_n hx hb dX12_spend_29 rfl (lv_at hl 2 rfl) ?_
      refine lv_aload_n hx hb dX12_spend_30 rfl (lv_at hl 0 rfl) ?_
      refine gt_X12 hx hb hts hown hK hP 0 (hW_w29.o tM_0) 69 (by decide) wd_1470 rfl (hW_w29.fi tM_0 rfl) dX12_spend_31 ?_
      refine tov (v := (fI w 0 69)) (hM_w29.2 0 69 (by decide) (by decide)) ?_
      refine lv_icmp_ge (tgt := 75) hx hb dX12_spend_34 (by decide) (fun c_24 => ?_) (fun c_24 => ?_)
      · refine lv_aload_n hx hb dX12_spend_75 rfl (lv_at hl 0 rfl) ?_
        refine lv_iconst (v := 1) hx hb dX12_spend_76 (by decide) ?_
        refine pt_X12 hx hb hts hown hK hP hD hS 0 (hW_w29.o tM_0) 80 (by decide) wd_1481 rfl rfl (ty := .boolean) (v := .int 1) (by decide +kernel) rfl rfl (hW_w29.ll tM_0 (Nat.le_of_ble_eq_true rfl)) dX12_spend_77 (fun H locs hP hD hS => fr_w (hW_w29.sI tM_0 rfl (In_lit (n := 1) (by decide) (by decide) : In 0 1 1)) hP hD (fun w_25 ew_25 hW_w_25 hP hD => ?_))
        refine lv_aload_n hx hb dX12_spend_80 rfl (lv_at hl 0 rfl) ?_
        refine lv_iconst (v := 0) hx hb dX12_spend_81 (by decide) ?_
        refine pt_X12 hx hb hts hown hK hP hD hS 0 (hW_w_25.o tM_0) 81 (by decide) wd_1482 rfl rfl (ty := .int) (v := .int 0) (by decide +kernel) rfl rfl (hW_w_25.ll tM_0 (Nat.le_of_ble_eq_true rfl)) dX12_spend_82 (fun H locs hP hD hS => fr_w (hW_w_25.sI tM_0 rfl (In_lit (n := 0) (by decide) (by decide) : In (-2147483648) 2147483647 0)) hP hD (fun w_26 ew_26 hW_w_26 hP hD => ?_))
        refine lv_iconst (v := 0) hx hb dX12_spend_85 (by decide) ?_
        refine lv_istore_n (lv' := [(2, .int 0), (0, .ref (q 0)), (1, .int p1)]) hx hb dX12_spend_86 rfl hl (by decide) rfl (fun ls hl => ?_)
        refine lv_iconst (v := 1) hx hb dX12_spend_87 (by decide) ?_
        refine lv_istore_n (lv' := [(3, .int 1), (2, .int 0), (0, .ref (q 0)), (1, .int p1)]) hx hb dX12_spend_88 rfl hl (by decide) rfl (fun ls hl => ?_)
        exact J89 _ 0 1 w_26 _ _ ls (Nat.lt_succ_self _) hW_w_26 ((hM_w29.sf (hW_w29.lt tM_0) ew_25 (by decide)).sf (hW_w_25.lt tM_0) ew_26 (by decide)) i_x29_1 (In_lit (n := 1) (by decide) (by decide) : In 0 1 1) (In_of ((fI_nej (hW_w_25.lt tM_0) ew_26 (by decide)).trans ((fI_nej (hW_w29.lt tM_0) ew_25 (by decide)).trans (hM_w29.2 0 68 (by decide) (by decide)))) (In_of (hM_w29.2 0 68 (by decide) (by decide)).symm g29_0_68)) ((fI_nej (hW_w_25.lt tM_0) ew_26 (by decide)).trans (fI_eq (hW_w29.lt tM_0) ew_25 (hW_w29.ll tM_0 (Nat.le_of_ble_eq_true rfl)))) hP hD hS (lv_sub hl [2, 3, 1, 0] rfl)
      · refine lv_aload_n hx hb dX12_spend_37 rfl (lv_at hl 0 rfl) ?_
        refine gt_X12 hx hb hts hown hK hP 0 (hW_w29.o tM_0) 86 (by decide) wd_1487 rfl (hW_w29.fr tM_0 rfl) dX12_spend_38 ?_
        refine lv_iload_n hx hb dX12_spend_41 rfl (lv_at hl 2 rfl) ?_
        refine lv_aload_n hx hb dX12_spend_42 rfl (lv_at hl 0 rfl) ?_
        refine lv_iload_n hx hb dX12_spend_43 rfl (lv_at hl 2 rfl) ?_
        refine kW_i ⟨rfl, rfl⟩ hP hD hS hA (rW_V (As := [.int x29_2]) (rest := [.int x29_2, .ref (q 58)]) hx hb hml hown hts hK hE hP hD (k_X12_isRight l D cI cJ cZ q w29 hW_w29 x29_2 (R_nle_r (hW_w.fin tM_0 rfl : In 0 40 (fI w 0 69)) i_x29_2 c_24 (by decide) : In 0 39 x29_2) (In_of (hM_w29.2 0 69 (by decide) (by decide)) (R_nle_l (hW_w.fin tM_0 rfl : In 0 40 (fI w 0 69)) i_x29_2 c_24 (by decide) : In 1 40 (fI w 0 69))) _) ⟨⟨rfl, rfl⟩, rfl, rfl⟩ sv_X12_559 ⟨(Nat.le_trans (by decide) hR.1), (Nat.le_trans (by decide) hR.2)⟩ 0 12 (hW_w29.o tM_0) rfl rfl rfl hl.1 rfl (Nat.le_of_ble_eq_true rfl) dX12_spend_44) (fun r_28 w_27 H locs hw_w_27 hP hD hS => ?_)
        obtain ⟨hW_w_27, hs_w_27, i_r_28⟩ := hw_w_27
        refine va_zast hx hb hK hP hD hS 58 2 (hW_w_27.a tM_58) rfl (in_I (R_nle_r (hW_w.fin tM_0 rfl : In 0 40 (fI w 0 69)) i_x29_2 c_24 (by decide) : In 0 39 x29_2) (by decide)) dX12_spend_47 (fun H locs hP hD hS => fr_w (hW_w_27.uA tM_58 (vnar_z _)) hP hD (fun w_29 ew_29 hW_w_29 hP hD => ?_))
        refine lv_aload_n hx hb dX12_spend_48 rfl (lv_at hl 0 rfl) ?_
        refine gt_X12 hx hb hts hown hK hP 0 (hW_w_29.o tM_0) 84 (by decide) wd_1485 rfl (hW_w_29.fr tM_0 rfl) dX12_spend_49 ?_
        refine lv_iload_n hx hb dX12_spend_52 rfl (lv_at hl 2 rfl) ?_
        refine lv_aload_n hx hb dX12_spend_53 rfl (lv_at hl 0 rfl) ?_
        refine lv_iload_n hx hb dX12_spend_54 rfl (lv_at hl 2 rfl) ?_
        refine kW_i ⟨rfl, rfl⟩ hP hD hS hA (rW_V (As := [.int x29_2]) (rest := [.int x29_2, .ref (q 56)]) hx hb hml hown hts hK hE hP hD (k_X12_costs l D cI cJ cZ q w_29 hW_w_29 x29_2 (R_nle_r (hW_w.fin tM_0 rfl : In 0 40 (fI w 0 69)) i_x29_2 c_24 (by decide) : In 0 39 x29_2) (In_of ((fI_cg (st_ne ew_29 (by decide))).trans ((hs_w_27.gI (by decide)).trans (hM_w29.2 0 69 (by decide) (by decide)))) (R_nle_l (hW_w.fin tM_0 rfl : In 0 40 (fI w 0 69)) i_x29_2 c_24 (by decide) : In 1 40 (fI w 0 69))) _) ⟨⟨rfl, rfl⟩, rfl, rfl⟩ sv_X12_565 ⟨(Nat.le_trans (by decide) hR.1), (Nat.le_trans (by decide) hR.2)⟩ 0 12 (hW_w_29.o tM_0) rfl rfl rfl hl.1 rfl (Nat.le_of_ble_eq_true rfl) dX12_spend_55) (fun r_31 w_30 H locs hw_w_30 hP hD hS => ?_)
        obtain ⟨hW_w_30, hs_w_30⟩ := hw_w_30
        refine va_iast hx hb hK hP hD hS 56 0 (hW_w_30.a tM_56) rfl (in_I (R_nle_r (hW_w.fin tM_0 rfl : In 0 40 (fI w 0 69)) i_x29_2 c_24 (by decide) : In 0 39 x29_2) (by decide)) dX12_spend_58 (fun H locs hP hD hS => fr_w (hW_w_30.uA tM_56 (In_any r_31)) hP hD (fun w_32 ew_32 hW_w_32 hP hD => ?_))
        refine lv_aload_n hx hb dX12_spend_59 rfl (lv_at hl 0 rfl) ?_
        refine gt_X12 hx hb hts hown hK hP 0 (hW_w_32.o tM_0) 85 (by decide) wd_1486 rfl (hW_w_32.fr tM_0 rfl) dX12_spend_60 ?_
        refine lv_iload_n hx hb dX12_spend_63 rfl (lv_at hl 2 rfl) ?_
        refine lv_aload_n hx hb dX12_spend_64 rfl (lv_at hl 0 rfl) ?_
        refine gt_X12 hx hb hts hown hK hP 0 (hW_w_32.o tM_0) 83 (by decide) wd_1484 rfl (hW_w_32.fi tM_0 rfl) dX12_spend_65 ?_
        refine tov (v := (fI w_30 0 83)) (fI_cg (st_ne ew_32 (by decide))) ?_
        refine va_iast hx hb hK hP hD hS 57 0 (hW_w_32.a tM_57) rfl (in_I (R_nle_r (hW_w.fin tM_0 rfl : In 0 40 (fI w 0 69)) i_x29_2 c_24 (by decide) : In 0 39 x29_2) (by decide)) dX12_spend_68 (fun H locs hP hD hS => fr_w (hW_w_32.uA tM_57 (In_any (fI w_30 0 83))) hP hD (fun w_33 ew_33 hW_w_33 hP hD => ?_))
        refine lv_iinc (v := (x29_2 + 1)) (lv' := [(2, .int (x29_2 + 1)), (0, .ref (q 0)), (1, .int p1)]) hx hb dX12_spend_69 hl (k := 2) rfl (rfl) (by decide) rfl (fun ls hl => ?_)
        refine lv_goto (tgt := 29) hx hb dX12_spend_72 (by decide) ?_
        exact ih29 (x29_2 + 1) w_33 _ _ ls (mu_inc hmu29 (R_nle_r (hW_w.fin tM_0 rfl : In 0 40 (fI w 0 69)) i_x29_2 c_24 (by decide) : In 0 39 x29_2) (In_lit (n := 1) (by decide) (by decide) : In 1 1 1) (by decide)) hW_w_33 (((((hM_w29.tr hs_w_27 (by decide)).sa ew_29 (by decide)).tr hs_w_30 (by decide)).sa ew_32 (by decide)).sa ew_33 (by decide)) i_x29_1 (In_w ((In_add (y := 1) (R_nle_r (hW_w.fin tM_0 rfl : In 0 40 (fI w 0 69)) i_x29_2 c_24 (by decide) : In 0 39 x29_2) (In_lit (n := 1) (by decide) (by decide) : In 1 1 1) (by decide)) : In 1 40 (x29_2 + 1)) (by decide) : In 0 40 (x29_2 + 1)) (In_of ((fI_cg (st_ne ew_33 (by decide))).trans ((fI_cg (st_ne ew_32 (by decide))).trans ((hs_w_30.2 0 68 (by decide) (by decide)).trans ((fI_cg (st_ne ew_29 (by decide))).trans ((hs_w_27.gI (by decide)).trans (hM_w29.2 0 68 (by decide) (by decide))))))) (In_of (hM_w29.2 0 68 (by decide) (by decide)).symm g29_0_68)) ((fI_cg (st_ne ew_33 (by decide))).trans ((fI_cg (st_ne ew_32 (by decide))).trans ((hs_w_30.2 0 80 (by decide) (by decide)).trans ((fI_cg (st_ne ew_29 (by decide))).trans ((hs_w_27.gI (by decide)).trans g29_0_80e))))) g29_0_80 hP hD hS (lv_sub hl [1, 2, 0] rfl)
  refine lv_aload_n hx hb dX12_spend_0 rfl (lv_at hl 0 rfl) ?_
  refine gt_X12 hx hb hts hown hK hP 0 (hW_w.o tM_0) 68 (by decide) wd_1469 rfl (hW_w.fi tM_0 rfl) dX12_spend_1 ?_
  refine lv_if_eq (tgt := 25) hx hb dX12_spend_4 (by decide) (fun c_34 => ?_) (fun c_34 => ?_)
  · refine lv_iconst (v := (-1)) hx hb dX12_spend_25 (by decide) ?_
    exact hret _ _ _ _ _ _ hP hD hS dX12_spend_26 ⟨hW_w, Sm.rf⟩
  · refine lv_aload_n hx hb dX12_spend_7 rfl (lv_at hl 0 rfl) ?_
    refine gt_X12 hx hb hts hown hK hP 0 (hW_w.o tM_0) 80 (by decide) wd_1481 rfl (hW_w.fi tM_0 rfl) dX12_spend_8 ?_
    refine lv_if_ne (tgt := 25) hx hb dX12_spend_11 (by decide) (fun c_35 => ?_) (fun c_35 => ?_)
    · refine lv_iconst (v := (-1)) hx hb dX12_spend_25 (by decide) ?_
      exact hret _ _ _ _ _ _ hP hD hS dX12_spend_26 ⟨hW_w, Sm.rf⟩
    · refine lv_iload_n hx hb dX12_spend_14 rfl (lv_at hl 1 rfl) ?_
      refine lv_iconst (v := 0) hx hb dX12_spend_15 (by decide) ?_
      refine lv_ldcw hx hb hown (hts _ wd_2063) dX12_spend_16 ?_
      refine kW_i ⟨rfl, rfl⟩ hP hD hS hA (rW_S (As := [.int p1, .int 0, .int 100000]) (rest := []) hx hb hml hown hts hK hE hP hD (k_X12_is l D cI cJ cZ q w hW_w p1 0 100000 _) ⟨⟨rfl, rfl⟩, rfl, rfl⟩ sv_X12_322 ⟨(Nat.le_trans (by decide) hR.1), (Nat.le_trans (by decide) hR.2)⟩ rfl hl.1 rfl (Nat.le_of_ble_eq_true rfl) dX12_spend_19) (fun r_37 w_36 H locs hw_w_36 hP hD hS => ?_)
      obtain ⟨hW_w_36, hs_w_36, i_r_37, h_38⟩ := hw_w_36
      refine lv_if_ne (tgt := 27) hx hb dX12_spend_22 (by decide) (fun c_39 => ?_) (fun c_39 => ?_)
      · refine lv_iconst (v := 0) hx hb dX12_spend_27 (by decide) ?_
        refine lv_istore_n (lv' := [(2, .int 0), (0, .ref (q 0)), (1, .int p1)]) hx hb dX12_spend_28 rfl hl (by decide) rfl (fun ls hl => ?_)
        exact J29 _ 0 w_36 _ _ ls (Nat.lt_succ_self _) hW_w_36 (Sm.rf.tr hs_w_36 (by decide)) (by have q0 := h_38 c_39; have q1 := (In_lit (n := 0) (by decide) (by decide) : In 0 0 0); have q2 := (In_lit (n := 100000) (by decide) (by decide) : In 100000 100000 100000); have q3 := (In_any p1); unfold In at q1 q2 q3 ⊢; omega : In 0 100000 p1) (In_lit (n := 0) (by decide) (by decide) : In 0 40 0) (In_of (hs_w_36.gI (by decide)) (R_ne_l (hW_w.fin tM_0 rfl : In 0 1 (fI w 0 68)) (In_lit (n := 0) (by decide) (by decide) : In 0 0 0) c_34 (by decide) : In 1 1 (fI w 0 68))) (hs_w_36.gI (by decide)) (R_eq_l (hW_w.fin tM_0 rfl : In 0 1 (fI w 0 80)) (In_lit (n := 0) (by decide) (by decide) : In 0 0 0) c_35 (by decide) : In 0 0 (fI w 0 80)) hP hD hS (lv_sub hl [1, 2, 0] rfl)
      · refine lv_iconst (v := (-1)) hx hb dX12_spend_25 (by decide) ?_
        exact hret _ _ _ _ _ _ hP hD hS dX12_spend_26 ⟨hW_w_36, (Sm.rf.tr hs_w_36 (by decide))⟩
set_option maxRecDepth 100000 in
set_option maxHeartbeats 8000000 in
theorem k_X12_spent (l : Launch) (D : va_G) (cI cJ cZ : ClassId) (q : Nat → Nat) (w : va_W) (hW_w : HT q (TM q cI cJ cZ) w) : Con_i l yX12_spent cX12_spent 1 (some .int) ({ frames := 0, cells := 0, slots := 0, locals := 0 }) D cI cJ cZ eW [.ref (q 0)] w (fun (r : Int32) (w1 : va_W) => HT q (TM q cI cJ cZ) w1 ∧ Sm [] [] w w1) := by
  refine eQ_i rfl (by decide) (Nat.le_of_ble_eq_true rfl) ⟨rfl, rfl⟩ ?_
  intro p e R s m args below meth c A Q hx hb hml hown hts hK hE hA hR hret hP hD hS ls hl
  have hown : s.vm.findClass RX12 = some m.cls := hown
  have hl : lv_has ls 1 [(0, .ref (q 0))] := hl
  refine lv_aload_n hx hb dX12_spent_0 rfl (lv_at hl 0 rfl) ?_
  refine gt_X12 hx hb hts hown hK hP 0 (hW_w.o tM_0) 68 (by decide) wd_1469 rfl (hW_w.fi tM_0 rfl) dX12_spent_1 ?_
  refine lv_if_eq (tgt := 21) hx hb dX12_spent_4 (by decide) (fun c_1 => ?_) (fun c_1 => ?_)
  · refine lv_iconst (v := (-1)) hx hb dX12_spent_21 (by decide) ?_
    exact hret _ _ _ _ _ _ hP hD hS dX12_spent_22 ⟨hW_w, Sm.rf⟩
  · refine lv_aload_n hx hb dX12_spent_7 rfl (lv_at hl 0 rfl) ?_
    refine gt_X12 hx hb hts hown hK hP 0 (hW_w.o tM_0) 80 (by decide) wd_1481 rfl (hW_w.fi tM_0 rfl) dX12_spent_8 ?_
    refine lv_if_eq (tgt := 21) hx hb dX12_spent_11 (by decide) (fun c_2 => ?_) (fun c_2 => ?_)
    · refine lv_iconst (v := (-1)) hx hb dX12_spent_21 (by decide) ?_
      exact hret _ _ _ _ _ _ hP hD hS dX12_spent_22 ⟨hW_w, Sm.rf⟩
    · refine lv_aload_n hx hb dX12_spent_14 rfl (lv_at hl 0 rfl) ?_
      refine gt_X12 hx hb hts hown hK hP 0 (hW_w.o tM_0) 81 (by decide) wd_1482 rfl (hW_w.fi tM_0 rfl) dX12_spent_15 ?_
      refine lv_goto (tgt := 22) hx hb dX12_spent_18 (by decide) ?_
      exact hret _ _ _ _ _ _ hP hD hS dX12_spent_22 ⟨hW_w, Sm.rf⟩
set_option maxRecDepth 100000 in
set_option maxHeartbeats 8000000 in
theorem k_X12_right (l : Launch) (D : va_G) (cI cJ cZ : ClassId) (q : Nat → Nat) (w : va_W) (hW_w : HT q (TM q cI cJ cZ) w) : Con_i l yX12_right cX12_right 3 (some .int) ({ frames := 3, cells := 0, slots := 0, locals := 68 }) D cI cJ cZ eW [.ref (q 0)] w (fun (r : Int32) (w1 : va_W) => HT q (TM q cI cJ cZ) w1 ∧ Sm [] [] w w1) := by
  refine eQ_i rfl (by decide) (Nat.le_of_ble_eq_true rfl) ⟨rfl, rfl⟩ ?_
  intro p e R s m args below meth c A Q hx hb hml hown hts hK hE hA hR hret hP hD hS ls hl
  have hown : s.vm.findClass RX12 = some m.cls := hown
  have hl : lv_has ls 3 [(0, .ref (q 0))] := hl
  have J13 : ∀ (N : Nat) (x13_1 : Int32) (x13_2 : Int32) (w13 : va_W) (H : Heap) (locs : List Loc) (ls : Array Slot), (40 - x13_2.toInt).toNat < N → HT q (TM q cI cJ cZ) w13 → Sm [] [] w w13 → (In 0 40 x13_2) → (In 1 1 (fI w13 0 68)) → va_P D vwCl w13 H → va_D A w13 → va_S A s.heap H locs → lv_has ls 3 [(0, .ref (q 0)), (1, .int x13_1), (2, .int x13_2)] → W p l e R s m args below meth c H locs 0 0 Q (F0 m 13 ls []) := by
    intro N
    induction N with
    | zero => intro x13_1 x13_2 w13 H locs ls hmu; exact absurd hmu (Nat.not_lt_zero _)
    | succ N ih13 =>
      intro x13_1 x13_2 w13 H locs ls hmu13 hW_w13 hM_w13 i_x13_2 g13_0_68 hP hD hS hl
      have J35 : ∀ (y35_0 : Int32) (w35 : va_W) (H : Heap) (locs : List Loc) (ls : Array Slot), HT q (TM q cI cJ cZ) w35 → Sm [] [] w w35 → (In 0 39 x13_2) → (In 0 1 y35_0) → (In 1 1 (fI w35 0 68)) → (In 1 40 (fI w35 0 69)) → va_P D vwCl w35 H → va_D A w35 → va_S A s.heap H locs → lv_has ls 3 [(0, .ref (q 0)), (1, .int x13_1), (2, .int x13_2)] → W p l e R s m args below meth c H locs 0 0 Q (F0 m 35 ls [.int y35_0, .int x13_1]) := by
        intro y35_0 w35 H locs ls hW_w35 hM_w35 i_x35_2 i_y35_0 g35_0_68 g35_0_69 hP hD hS hl
        refine lv_iadd hx hb dX12_right_35 ?_
        refine lv_topi (fun v_1 ev_1 => ?_)
        refine lv_istore_n (lv' := [(1, .int v_1), (0, .ref (q 0)), (2, .int x13_2)]) hx hb dX12_right_36 rfl hl (by decide) rfl (fun ls hl => ?_)
        refine lv_iinc (v := (x13_2 + 1)) (lv' := [(2, .int (x13_2 + 1)), (1, .int v_1), (0, .ref (q 0))]) hx hb dX12_right_37 hl (k := 2) rfl (rfl) (by decide) rfl (fun ls hl => ?_)
        refine lv_goto (tgt := 13) hx hb dX12_right_40 (by decide) ?_
        exact ih13 v_1 (x13_2 + 1) w35 _ _ ls (mu_inc hmu13 i_x35_2 (In_lit (n := 1) (by decide) (by decide) : In 1 1 1) (by decide)) hW_w35 hM_w35 (In_w ((In_add (y := 1) i_x35_2 (In_lit (n := 1) (by decide) (by decide) : In 1 1 1) (by decide)) : In 1 40 (x13_2 + 1)) (by decide) : In 0 40 (x13_2 + 1)) (In_of (hM_w35.gI (by decide)) (In_of (hM_w35.gI (by decide)).symm g35_0_68)) hP hD hS (lv_sub hl [2, 1, 0] rfl)
      refine lv_iload_n hx hb dX12_right_13 rfl (lv_at hl 2 rfl) ?_
      refine lv_aload_n hx hb dX12_right_14 rfl (lv_at hl 0 rfl) ?_
      refine gt_X12 hx hb hts hown hK hP 0 (hW_w13.o tM_0) 69 (by decide) wd_1470 rfl (hW_w13.fi tM_0 rfl) dX12_right_15 ?_
      refine tov (v := (fI w 0 69)) (hM_w13.gI (by decide)) ?_
      refine lv_icmp_ge (tgt := 43) hx hb dX12_right_18 (by decide) (fun c_2 => ?_) (fun c_2 => ?_)
      · refine lv_iload_n hx hb dX12_right_43 rfl (lv_at hl 1 rfl) ?_
        exact hret _ _ _ _ _ _ hP hD hS dX12_right_44 ⟨hW_w13, hM_w13⟩
      · refine lv_iload_n hx hb dX12_right_21 rfl (lv_at hl 1 rfl) ?_
        refine lv_aload_n hx hb dX12_right_22 rfl (lv_at hl 0 rfl) ?_
        refine lv_iload_n hx hb dX12_right_23 rfl (lv_at hl 2 rfl) ?_
        refine kW_i ⟨rfl, rfl⟩ hP hD hS hA (rW_V (As := [.int x13_2]) (rest := [.int x13_1]) hx hb hml hown hts hK hE hP hD (k_X12_isRight l D cI cJ cZ q w13 hW_w13 x13_2 (R_nle_r (hW_w.fin tM_0 rfl : In 0 40 (fI w 0 69)) i_x13_2 c_2 (by decide) : In 0 39 x13_2) (In_of (hM_w13.gI (by decide)) (R_nle_l (hW_w.fin tM_0 rfl : In 0 40 (fI w 0 69)) i_x13_2 c_2 (by decide) : In 1 40 (fI w 0 69))) _) ⟨⟨rfl, rfl⟩, rfl, rfl⟩ sv_X12_559 ⟨(Nat.le_trans (by decide) hR.1), (Nat.le_trans (by decide) hR.2)⟩ 0 12 (hW_w13.o tM_0) rfl rfl rfl hl.1 rfl (Nat.le_of_ble_eq_true rfl) dX12_right_24) (fun r_4 w_3 H locs hw_w_3 hP hD hS => ?_)
        obtain ⟨hW_w_3, hs_w_3, i_r_4⟩ := hw_w_3
        refine lv_if_eq (tgt := 34) hx hb dX12_right_27 (by decide) (fun c_5 => ?_) (fun c_5 => ?_)
        · refine lv_iconst (v := 0) hx hb dX12_right_34 (by decide) ?_
          exact J35 0 w_3 _ _ ls hW_w_3 (hM_w13.tr hs_w_3 (by decide)) (R_nle_r (hW_w.fin tM_0 rfl : In 0 40 (fI w 0 69)) i_x13_2 c_2 (by decide) : In 0 39 x13_2) (In_lit (n := 0) (by decide) (by decide) : In 0 1 0) (In_of ((hs_w_3.gI (by decide)).trans (hM_w13.gI (by decide))) (In_of (hM_w13.gI (by decide)).symm g13_0_68)) (In_of ((hs_w_3.gI (by decide)).trans (hM_w13.gI (by decide))) (R_nle_l (hW_w.fin tM_0 rfl : In 0 40 (fI w 0 69)) i_x13_2 c_2 (by decide) : In 1 40 (fI w 0 69))) hP hD hS (lv_sub hl [0, 1, 2] rfl)
        · refine lv_iconst (v := 1) hx hb dX12_right_30 (by decide) ?_
          refine lv_goto (tgt := 35) hx hb dX12_right_31 (by decide) ?_
          exact J35 1 w_3 _ _ ls hW_w_3 (hM_w13.tr hs_w_3 (by decide)) (R_nle_r (hW_w.fin tM_0 rfl : In 0 40 (fI w 0 69)) i_x13_2 c_2 (by decide) : In 0 39 x13_2) (In_lit (n := 1) (by decide) (by decide) : In 0 1 1) (In_of ((hs_w_3.gI (by decide)).trans (hM_w13.gI (by decide))) (In_of (hM_w13.gI (by decide)).symm g13_0_68)) (In_of ((hs_w_3.gI (by decide)).trans (hM_w13.gI (by decide))) (R_nle_l (hW_w.fin tM_0 rfl : In 0 40 (fI w 0 69)) i_x13_2 c_2 (by decide) : In 1 40 (fI w 0 69))) hP hD hS (lv_sub hl [0, 1, 2] rfl)
  refine lv_aload_n hx hb dX12_right_0 rfl (lv_at hl 0 rfl) ?_
  refine gt_X12 hx hb hts hown hK hP 0 (hW_w.o tM_0) 68 (by decide) wd_1469 rfl (hW_w.fi tM_0 rfl) dX12_right_1 ?_
  refine lv_if_ne (tgt := 9) hx hb dX12_right_4 (by decide) (fun c_6 => ?_) (fun c_6 => ?_)
  · refine lv_iconst (v := 0) hx hb dX12_right_9 (by decide) ?_
    refine lv_istore_n (lv' := [(1, .int 0), (0, .ref (q 0))]) hx hb dX12_right_10 rfl hl (by decide) rfl (fun ls hl => ?_)
    refine lv_iconst (v := 0) hx hb dX12_right_11 (by decide) ?_
    refine lv_istore_n (lv' := [(2, .int 0), (1, .int 0), (0, .ref (q 0))]) hx hb dX12_right_12 rfl hl (by decide) rfl (fun ls hl => ?_)
    exact J13 _ 0 0 w _ _ ls (Nat.lt_succ_self _) hW_w Sm.rf (In_lit (n := 0) (by decide) (by decide) : In 0 40 0) (R_ne_l (hW_w.fin tM_0 rfl : In 0 1 (fI w 0 68)) (In_lit (n := 0) (by decide) (by decide) : In 0 0 0) c_6 (by decide) : In 1 1 (fI w 0 68)) hP hD hS (lv_sub hl [2, 1, 0] rfl)
  · refine lv_iconst (v := (-1)) hx hb dX12_right_7 (by decide) ?_
    exact hret _ _ _ _ _ _ hP hD hS dX12_right_8 ⟨hW_w, Sm.rf⟩
set_option maxRecDepth 100000 in
set_option maxHeartbeats 8000000 in
theorem k_X12_farOf (l : Launch) (D : va_G) (cI cJ cZ : ClassId) (q : Nat → Nat) (w : va_W) (hW_w : HT q (TM q cI cJ cZ) w) (p1 : Int32) (i_p1 : In 0 39 p1) : Con_i l yX12_farOf cX12_farOf 4 (some .int) ({ frames := 0, cells := 0, slots := 0, locals := 0 }) D cI cJ cZ eW [.ref (q 0), .int p1] w (fun (r : Int32) (w1 : va_W) => HT q (TM q cI cJ cZ) w1 ∧ Sm [] [] w w1 ∧ In 0 2147483647 r) := by
  refine eQ_i rfl (by decide) (Nat.le_of_ble_eq_true rfl) ⟨rfl, rfl⟩ ?_
  intro p e R s m args below meth c A Q hx hb hml hown hts hK hE hA hR hret hP hD hS ls hl
  have hown : s.vm.findClass RX12 = some m.cls := hown
  have hl : lv_has ls 4 [(0, .ref (q 0)), (1, .int p1)] := hl
  have J4 : ∀ (N : Nat) (x4_2 : Int32) (x4_3 : Int32) (w4 : va_W) (H : Heap) (locs : List Loc) (ls : Array Slot), (10 - x4_3.toInt).toNat < N → HT q (TM q cI cJ cZ) w4 → Sm [] [] w w4 → (In 0 39 p1) → (In 0 2147483647 x4_2) → (In 0 10 x4_3) → va_P D vwCl w4 H → va_D A w4 → va_S A s.heap H locs → lv_has ls 4 [(0, .ref (q 0)), (1, .int p1), (2, .int x4_2), (3, .int x4_3)] → W p l e R s m args below meth c H locs 0 0 Q (F0 m 4 ls []) := by
    intro N
    induction N with
    | zero => intro x4_2 x4_3 w4 H locs ls hmu; exact absurd hmu (Nat.not_lt_zero _)
    | succ N ih4 =>
      intro x4_2 x4_3 w4 H locs ls hmu4 hW_w4 hM_w4 i_x4_1 i_x4_2 i_x4_3 hP hD hS hl
      have J64 : ∀ (x64_2 : Int32) (w64 : va_W) (H : Heap) (locs : List Loc) (ls : Array Slot), HT q (TM q cI cJ cZ) w64 → Sm [] [] w w64 → (In 0 39 p1) → (In 0 2147483647 x64_2) → (In 0 9 x4_3) → va_P D vwCl w64 H → va_D A w64 → va_S A s.heap H locs → lv_has ls 4 [(0, .ref (q 0)), (1, .int p1), (2, .int x64_2), (3, .int x4_3)] → W p l e R s m args below meth c H locs 0 0 Q (F0 m 64 ls []) := by
        intro x64_2 w64 H locs ls hW_w64 hM_w64 i_x64_1 i_x64_2 i_x64_3 hP hD hS hl
        refine lv_iinc (v := (x4_3 + 1)) (lv' := [(3, .int (x4_3 + 1)), (0, .ref (q 0)), (1, .int p1), (2, .int x64_2)]) hx hb dX12_farOf_64 hl (k := 3) rfl (rfl) (by decide) rfl (fun ls hl => ?_)
        refine lv_goto (tgt := 4) hx hb dX12_farOf_67 (by decide) ?_
        exact ih4 x64_2 (x4_3 + 1) w64 _ _ ls (mu_inc hmu4 i_x64_3 (In_lit (n := 1) (by decide) (by decide) : In 1 1 1) (by decide)) hW_w64 hM_w64 i_p1 i_x64_2 (In_w ((In_add (y := 1) i_x64_3 (In_lit (n := 1) (by decide) (by decide) : In 1 1 1) (by decide)) : In 1 10 (x4_3 + 1)) (by decide) : In 0 10 (x4_3 + 1)) hP hD hS (lv_sub hl [1, 2, 3, 0] rfl)
      refine lv_iload_n hx hb dX12_farOf_4 rfl (lv_at hl 3 rfl) ?_
      refine lv_aload_n hx hb dX12_farOf_5 rfl (lv_at hl 0 rfl) ?_
      refine gt_X12 hx hb hts hown hK hP 0 (hW_w4.o tM_0) 14 (by decide) wd_1415 rfl (hW_w4.fr tM_0 rfl) dX12_farOf_6 ?_
      refine lv_aload_n hx hb dX12_farOf_9 rfl (lv_at hl 0 rfl) ?_
      refine gt_X12 hx hb hts hown hK hP 0 (hW_w4.o tM_0) 12 (by decide) wd_1413 rfl (hW_w4.fi tM_0 rfl) dX12_farOf_10 ?_
      refine tov (v := (fI w 0 12)) (hM_w4.gI (by decide)) ?_
      refine va_iald hx hb hK hP 2 0 (hW_w4.a tM_2) rfl (in_I (hW_w.fin tM_0 rfl : In 0 1 (fI w 0 12)) (by decide)) dX12_farOf_13 ?_
      refine lv_topi (fun v_1 ev_1 => ?_)
      refine lv_icmp_ge (tgt := 70) hx hb dX12_farOf_14 (by decide) (fun c_2 => ?_) (fun c_2 => ?_)
      · refine lv_iload_n hx hb dX12_farOf_70 rfl (lv_at hl 2 rfl) ?_
        exact hret _ _ _ _ _ _ hP hD hS dX12_farOf_71 ⟨hW_w4, hM_w4, i_x4_2⟩
      · refine lv_aload_n hx hb dX12_farOf_17 rfl (lv_at hl 0 rfl) ?_
        refine gt_X12 hx hb hts hown hK hP 0 (hW_w4.o tM_0) 76 (by decide) wd_1477 rfl (hW_w4.fr tM_0 rfl) dX12_farOf_18 ?_
        refine lv_iload_n hx hb dX12_farOf_21 rfl (lv_at hl 1 rfl) ?_
        refine va_iald hx hb hK hP 53 0 (hW_w4.a tM_53) rfl (in_I i_p1 (by decide)) dX12_farOf_22 ?_
        refine lv_topi (fun v_3 ev_3 => ?_)
        refine lv_iload_n hx hb dX12_farOf_23 rfl (lv_at hl 3 rfl) ?_
        refine lv_ishr hx hb dX12_farOf_24 ?_
        refine lv_topi (fun v_4 ev_4 => ?_)
        refine lv_iconst (v := 1) hx hb dX12_farOf_25 (by decide) ?_
        refine lv_iand hx hb dX12_farOf_26 ?_
        refine lv_iconst (v := 1) hx hb dX12_farOf_27 (by decide) ?_
        refine lv_icmp_ne (tgt := 64) hx hb dX12_farOf_28 (by decide) (fun c_5 => ?_) (fun c_5 => ?_)
        · exact J64 x4_2 w4 _ _ ls hW_w4 hM_w4 i_p1 i_x4_2 (R_nle_r (In_of ev_1 (hW_w4.ap tM_2 _) : In 0 10 v_1) i_x4_3 c_2 (by decide) : In 0 9 x4_3) hP hD hS (lv_sub hl [0, 1, 2, 3] rfl)
        · refine lv_aload_n hx hb dX12_farOf_31 rfl (lv_at hl 0 rfl) ?_
          refine gt_X12 hx hb hts hown hK hP 0 (hW_w4.o tM_0) 22 (by decide) wd_1423 rfl (hW_w4.fr tM_0 rfl) dX12_farOf_32 ?_
          refine lv_bipush (v := 10) hx hb dX12_farOf_35 (by decide) ?_
          refine lv_aload_n hx hb dX12_farOf_37 rfl (lv_at hl 0 rfl) ?_
          refine gt_X12 hx hb hts hown hK hP 0 (hW_w4.o tM_0) 12 (by decide) wd_1413 rfl (hW_w4.fi tM_0 rfl) dX12_farOf_38 ?_
          refine tov (v := (fI w 0 12)) (hM_w4.gI (by decide)) ?_
          refine lv_imul hx hb dX12_farOf_41 ?_
          refine lv_iload_n hx hb dX12_farOf_42 rfl (lv_at hl 3 rfl) ?_
          refine lv_iadd hx hb dX12_farOf_43 ?_
          refine va_iald hx hb hK hP 10 0 (hW_w4.a tM_10) rfl (in_I ((In_add ((In_mull (hW_w.fin tM_0 rfl : In 0 1 (fI w 0 12)) (n := 10) (by decide) (by decide)) : In 0 10 (10 * (fI w 0 12))) (R_nle_r (In_of ev_1 (hW_w4.ap tM_2 _) : In 0 10 v_1) i_x4_3 c_2 (by decide) : In 0 9 x4_3) (by decide)) : In 0 19 ((10 * (fI w 0 12)) + x4_3)) (by decide)) dX12_farOf_44 ?_
          refine lv_topi (fun v_6 ev_6 => ?_)
          refine lv_iload_n hx hb dX12_farOf_45 rfl (lv_at hl 2 rfl) ?_
          refine lv_icmp_le (tgt := 64) hx hb dX12_farOf_46 (by decide) (fun c_7 => ?_) (fun c_7 => ?_)
          · exact J64 x4_2 w4 _ _ ls hW_w4 hM_w4 i_p1 i_x4_2 (R_nle_r (In_of ev_1 (hW_w4.ap tM_2 _) : In 0 10 v_1) i_x4_3 c_2 (by decide) : In 0 9 x4_3) hP hD hS (lv_sub hl [0, 1, 2, 3] rfl)
          · refine lv_aload_n hx hb dX12_farOf_49 rfl (lv_at hl 0 rfl) ?_
            refine gt_X12 hx hb hts hown hK hP 0 (hW_w4.o tM_0) 22 (by decide) wd_1423 rfl (hW_w4.fr tM_0 rfl) dX12_farOf_50 ?_
            refine lv_bipush (v := 10) hx hb dX12_farOf_53 (by decide) ?_
            refine lv_aload_n hx hb dX12_farOf_55 rfl (lv_at hl 0 rfl) ?_
            refine gt_X12 hx hb hts hown hK hP 0 (hW_w4.o tM_0) 12 (by decide) wd_1413 rfl (hW_w4.fi tM_0 rfl) dX12_farOf_56 ?_
            refine tov (v := (fI w 0 12)) (hM_w4.gI (by decide)) ?_
            refine lv_imul hx hb dX12_farOf_59 ?_
            refine lv_iload_n hx hb dX12_farOf_60 rfl (lv_at hl 3 rfl) ?_
            refine lv_iadd hx hb dX12_farOf_61 ?_
            refine va_iald hx hb hK hP 10 0 (hW_w4.a tM_10) rfl (in_I ((In_add ((In_mull (hW_w.fin tM_0 rfl : In 0 1 (fI w 0 12)) (n := 10) (by decide) (by decide)) : In 0 10 (10 * (fI w 0 12))) (R_nle_r (In_of ev_1 (hW_w4.ap tM_2 _) : In 0 10 v_1) i_x4_3 c_2 (by decide) : In 0 9 x4_3) (by decide)) : In 0 19 ((10 * (fI w 0 12)) + x4_3)) (by decide)) dX12_farOf_62 ?_
            refine tov (v := v_6) ((congrFun (hM_w4.hA (by decide)) _).trans ((congrFun (hM_w4.hA (by decide)) _).symm.trans ev_6.symm)) ?_
            refine lv_istore_n (lv' := [(2, .int v_6), (0, .ref (q 0)), (1, .int p1), (3, .int x4_3)]) hx hb dX12_farOf_63 rfl hl (by decide) rfl (fun ls hl => ?_)
            exact J64 v_6 w4 _ _ ls hW_w4 hM_w4 i_p1 (In_w (R_nle_l (In_any v_6) i_x4_2 c_7 (by decide) : In 1 2147483647 v_6) (by decide) : In 0 2147483647 v_6) (R_nle_r (In_of ev_1 (hW_w4.ap tM_2 _) : In 0 10 v_1) i_x4_3 c_2 (by decide) : In 0 9 x4_3) hP hD hS (lv_sub hl [1, 2, 0, 3] rfl)
  refine lv_iconst (v := 0) hx hb dX12_farOf_0 (by decide) ?_
  refine lv_istore_n (lv' := [(2, .int 0), (0, .ref (q 0)), (1, .int p1)]) hx hb dX12_farOf_1 rfl hl (by decide) rfl (fun ls hl => ?_)
  refine lv_iconst (v := 0) hx hb dX12_farOf_2 (by decide) ?_
  refine lv_istore_n (lv' := [(3, .int 0), (2, .int 0), (0, .ref (q 0)), (1, .int p1)]) hx hb dX12_farOf_3 rfl hl (by decide) rfl (fun ls hl => ?_)
  exact J4 _ 0 0 w _ _ ls (Nat.lt_succ_self _) hW_w Sm.rf i_p1 (In_lit (n := 0) (by decide) (by decide) : In 0 2147483647 0) (In_lit (n := 0) (by decide) (by decide) : In 0 10 0) hP hD hS (lv_sub hl [2, 3, 1, 0] rfl)
