set_option maxRecDepth 100000 in
set_option maxHeartbeats 8000000 in
theorem k_X12_blindDay (l : Launch) (D : va_G) (cI cJ cZ : ClassId) (q : Nat → Nat) (w : va_W) (hW_w : HT q (TM q cI cJ cZ) w) (p1 : Int32) (i_p1 : In 1 24 p1) (hRV : RV w) : Con_i l yX12_blindDay cX12_blindDay 6 (some .int) ({ frames := 5, cells := 0, slots := 0, locals := 124 }) D cI cJ cZ eW [.ref (q 0), .int p1] w (fun (r : Int32) (w1 : va_W) => HT q (TM q cI cJ cZ) w1 ∧ Sm [0, 37, 38, 39, 40, 41, 42, 43, 44, 45, 55] [(0, 62)] w w1) := by
  refine eQ_i rfl (by decide) (Nat.le_of_ble_eq_true rfl) ⟨rfl, rfl⟩ ?_
  intro p e R s m args below meth c A Q hx hb hml hown hts hK hE hA hR hret hP hD hS ls hl
  have hown : s.vm.findClass RX12 = some m.cls := hown
  have hl : lv_has ls 6 [(0, .ref (q 0)), (1, .int p1)] := hl
  have J200 : ∀ (N : Nat) (x200_2 : Int32) (x200_3 : Int32) (w200 : va_W) (H : Heap) (locs : List Loc) (ls : Array Slot), (40 - x200_3.toInt).toNat < N → HT q (TM q cI cJ cZ) w200 → Sm [0, 37, 38, 39, 40, 41, 42, 43, 44, 45, 55] [(0, 62)] w w200 → (In 1 24 p1) → (In 0 40 x200_3) → va_P D vwCl w200 H → va_D A w200 → va_S A s.heap H locs → lv_has ls 6 [(0, .ref (q 0)), (1, .int p1), (2, .int x200_2), (3, .int x200_3)] → W p l e R s m args below meth c H locs 0 0 Q (F0 m 200 ls []) := by
    intro N
    induction N with
    | zero => intro x200_2 x200_3 w200 H locs ls hmu; exact absurd hmu (Nat.not_lt_zero _)
    | succ N ih200 =>
      intro x200_2 x200_3 w200 H locs ls hmu200 hW_w200 hM_w200 i_x200_1 i_x200_3 hP hD hS hl
      have J284 : ∀ (x284_2 : Int32) (w284 : va_W) (H : Heap) (locs : List Loc) (ls : Array Slot), HT q (TM q cI cJ cZ) w284 → Sm [0, 37, 38, 39, 40, 41, 42, 43, 44, 45, 55] [(0, 62)] w w284 → (In 1 24 p1) → (In 0 39 x200_3) → (In 1 40 (fI w284 0 45)) → va_P D vwCl w284 H → va_D A w284 → va_S A s.heap H locs → lv_has ls 6 [(0, .ref (q 0)), (1, .int p1), (2, .int x284_2), (3, .int x200_3)] → W p l e R s m args below meth c H locs 0 0 Q (F0 m 284 ls []) := by
        intro x284_2 w284 H locs ls hW_w284 hM_w284 i_x284_1 i_x284_3 g284_0_45 hP hD hS hl
        refine lv_iinc (v := (x200_3 + 1)) (lv' := [(3, .int (x200_3 + 1)), (0, .ref (q 0)), (1, .int p1), (2, .int x284_2)]) hx hb dX12_blindDay_284 hl (k := 3) rfl (rfl) (by decide) rfl (fun ls hl => ?_)
        refine lv_goto (tgt := 200) hx hb dX12_blindDay_287 (by decide) ?_
        exact ih200 x284_2 (x200_3 + 1) w284 _ _ ls (mu_inc hmu200 i_x284_3 (In_lit (n := 1) (by decide) (by decide) : In 1 1 1) (by decide)) hW_w284 hM_w284 i_p1 (In_w ((In_add (y := 1) i_x284_3 (In_lit (n := 1) (by decide) (by decide) : In 1 1 1) (by decide)) : In 1 40 (x200_3 + 1)) (by decide) : In 0 40 (x200_3 + 1)) hP hD hS (lv_sub hl [1, 2, 3, 0] rfl)
      have J227 : ∀ (N : Nat) (x227_4 : Int32) (x227_5 : Int32) (w227 : va_W) (H : Heap) (locs : List Loc) (ls : Array Slot), (10 - x227_5.toInt).toNat < N → HT q (TM q cI cJ cZ) w227 → Sm [0, 37, 38, 39, 40, 41, 42, 43, 44, 45, 55] [(0, 62)] w w227 → (In 1 24 p1) → (In 0 39 x200_3) → (In 0 10 x227_5) → (In 1 40 (fI w227 0 45)) → va_P D vwCl w227 H → va_D A w227 → va_S A s.heap H locs → lv_has ls 6 [(0, .ref (q 0)), (1, .int p1), (2, .int x200_2), (3, .int x200_3), (4, .int x227_4), (5, .int x227_5)] → W p l e R s m args below meth c H locs 0 0 Q (F0 m 227 ls []) := by
        intro N
        induction N with
        | zero => intro x227_4 x227_5 w227 H locs ls hmu; exact absurd hmu (Nat.not_lt_zero _)
        | succ N ih227 =>
          intro x227_4 x227_5 w227 H locs ls hmu227 hW_w227 hM_w227 i_x227_1 i_x227_3 i_x227_5 g227_0_45 hP hD hS hl
          have J273 : ∀ (x273_4 : Int32) (w273 : va_W) (H : Heap) (locs : List Loc) (ls : Array Slot), HT q (TM q cI cJ cZ) w273 → Sm [0, 37, 38, 39, 40, 41, 42, 43, 44, 45, 55] [(0, 62)] w w273 → (In 1 24 p1) → (In 0 39 x200_3) → (In 0 9 x227_5) → (In 1 40 (fI w273 0 45)) → va_P D vwCl w273 H → va_D A w273 → va_S A s.heap H locs → lv_has ls 6 [(0, .ref (q 0)), (1, .int p1), (2, .int x200_2), (3, .int x200_3), (4, .int x273_4), (5, .int x227_5)] → W p l e R s m args below meth c H locs 0 0 Q (F0 m 273 ls []) := by
            intro x273_4 w273 H locs ls hW_w273 hM_w273 i_x273_1 i_x273_3 i_x273_5 g273_0_45 hP hD hS hl
            refine lv_iinc (v := (x227_5 + 1)) (lv' := [(5, .int (x227_5 + 1)), (0, .ref (q 0)), (1, .int p1), (2, .int x200_2), (3, .int x200_3), (4, .int x273_4)]) hx hb dX12_blindDay_273 hl (k := 5) rfl (rfl) (by decide) rfl (fun ls hl => ?_)
            refine lv_goto (tgt := 227) hx hb dX12_blindDay_276 (by decide) ?_
            exact ih227 x273_4 (x227_5 + 1) w273 _ _ ls (mu_inc hmu227 i_x273_5 (In_lit (n := 1) (by decide) (by decide) : In 1 1 1) (by decide)) hW_w273 hM_w273 i_p1 i_x227_3 (In_w ((In_add (y := 1) i_x273_5 (In_lit (n := 1) (by decide) (by decide) : In 1 1 1) (by decide)) : In 1 10 (x227_5 + 1)) (by decide) : In 0 10 (x227_5 + 1)) (In_of (hM_w273.2 0 45 (by decide) (by decide)) (In_of (hM_w273.2 0 45 (by decide) (by decide)).symm g273_0_45)) hP hD hS (lv_sub hl [1, 2, 3, 4, 5, 0] rfl)
          refine lv_iload hx hb dX12_blindDay_227 (lv_at hl 5 rfl) ?_
          refine lv_aload_n hx hb dX12_blindDay_229 rfl (lv_at hl 0 rfl) ?_
          refine gt_X12 hx hb hts hown hK hP 0 (hW_w227.o tM_0) 14 (by decide) wd_1415 rfl (hW_w227.fr tM_0 rfl) dX12_blindDay_230 ?_
          refine lv_aload_n hx hb dX12_blindDay_233 rfl (lv_at hl 0 rfl) ?_
          refine gt_X12 hx hb hts hown hK hP 0 (hW_w227.o tM_0) 12 (by decide) wd_1413 rfl (hW_w227.fi tM_0 rfl) dX12_blindDay_234 ?_
          refine tov (v := (fI w 0 12)) (hM_w227.2 0 12 (by decide) (by decide)) ?_
          refine va_iald hx hb hK hP 2 0 (hW_w227.a tM_2) rfl (in_I (hW_w.fin tM_0 rfl : In 0 1 (fI w 0 12)) (by decide)) dX12_blindDay_237 ?_
          refine lv_topi (fun v_1 ev_1 => ?_)
          refine lv_icmp_ge (tgt := 279) hx hb dX12_blindDay_238 (by decide) (fun c_2 => ?_) (fun c_2 => ?_)
          · refine lv_iload_n hx hb dX12_blindDay_279 rfl (lv_at hl 2 rfl) ?_
            refine lv_iload hx hb dX12_blindDay_280 (lv_at hl 4 rfl) ?_
            refine lv_iadd hx hb dX12_blindDay_282 ?_
            refine lv_topi (fun v_3 ev_3 => ?_)
            refine lv_istore_n (lv' := [(2, .int v_3), (0, .ref (q 0)), (1, .int p1), (3, .int x200_3), (4, .int x227_4), (5, .int x227_5)]) hx hb dX12_blindDay_283 rfl hl (by decide) rfl (fun ls hl => ?_)
            exact J284 v_3 w227 _ _ ls hW_w227 hM_w227 i_p1 i_x227_3 (In_of (hM_w227.2 0 45 (by decide) (by decide)) (In_of (hM_w227.2 0 45 (by decide) (by decide)).symm g227_0_45)) hP hD hS (lv_sub hl [1, 2, 0, 3] rfl)
          · refine lv_aload_n hx hb dX12_blindDay_241 rfl (lv_at hl 0 rfl) ?_
            refine gt_X12 hx hb hts hown hK hP 0 (hW_w227.o tM_0) 66 (by decide) wd_1467 rfl (hW_w227.fr tM_0 rfl) dX12_blindDay_242 ?_
            refine lv_bipush (v := 10) hx hb dX12_blindDay_245 (by decide) ?_
            refine lv_iload_n hx hb dX12_blindDay_247 rfl (lv_at hl 3 rfl) ?_
            refine lv_imul hx hb dX12_blindDay_248 ?_
            refine lv_iload hx hb dX12_blindDay_249 (lv_at hl 5 rfl) ?_
            refine lv_iadd hx hb dX12_blindDay_251 ?_
            refine va_zald hx hb hK hP 45 2 (hW_w227.a tM_45) rfl (in_I ((In_add ((In_mull i_x227_3 (n := 10) (by decide) (by decide)) : In 0 390 (10 * x200_3)) (R_nle_r (In_of ev_1 (hW_w227.ap tM_2 _) : In 0 10 v_1) i_x227_5 c_2 (by decide) : In 0 9 x227_5) (by decide)) : In 0 399 ((10 * x200_3) + x227_5)) (by decide)) dX12_blindDay_252 ?_
            refine lv_topi (fun v_4 ev_4 => ?_)
            refine lv_if_ne (tgt := 259) hx hb dX12_blindDay_253 (by decide) (fun c_5 => ?_) (fun c_5 => ?_)
            · refine lv_aload_n hx hb dX12_blindDay_259 rfl (lv_at hl 0 rfl) ?_
              refine gt_X12 hx hb hts hown hK hP 0 (hW_w227.o tM_0) 82 (by decide) wd_1483 rfl (hW_w227.fr tM_0 rfl) dX12_blindDay_260 ?_
              refine lv_iload hx hb dX12_blindDay_263 (lv_at hl 5 rfl) ?_
              refine lv_dup2_11 hx hb dX12_blindDay_265 rfl rfl ?_
              refine va_iald hx hb hK hP 55 0 (hW_w227.a tM_55) rfl (in_I (R_nle_r (In_of ev_1 (hW_w227.ap tM_2 _) : In 0 10 v_1) i_x227_5 c_2 (by decide) : In 0 9 x227_5) (by decide)) dX12_blindDay_266 ?_
              refine lv_topi (fun v_6 ev_6 => ?_)
              refine lv_iconst (v := 1) hx hb dX12_blindDay_267 (by decide) ?_
              refine lv_isub hx hb dX12_blindDay_268 ?_
              refine va_iast hx hb hK hP hD hS 55 0 (hW_w227.a tM_55) rfl (in_I (R_nle_r (In_of ev_1 (hW_w227.ap tM_2 _) : In 0 10 v_1) i_x227_5 c_2 (by decide) : In 0 9 x227_5) (by decide)) dX12_blindDay_269 (fun H locs hP hD hS => fr_w (hW_w227.uA tM_55 (In_any (v_6 - 1))) hP hD (fun w_7 ew_7 hW_w_7 hP hD => ?_))
              refine lv_iinc (v := (x227_4 + 1)) (lv' := [(4, .int (x227_4 + 1)), (0, .ref (q 0)), (1, .int p1), (2, .int x200_2), (3, .int x200_3), (5, .int x227_5)]) hx hb dX12_blindDay_270 hl (k := 4) rfl (rfl) (by decide) rfl (fun ls hl => ?_)
              exact J273 (x227_4 + 1) w_7 _ _ ls hW_w_7 (hM_w227.sa ew_7 (by decide)) i_p1 i_x227_3 (R_nle_r (In_of ev_1 (hW_w227.ap tM_2 _) : In 0 10 v_1) i_x227_5 c_2 (by decide) : In 0 9 x227_5) (In_of ((fI_cg (st_ne ew_7 (by decide))).trans (hM_w227.2 0 45 (by decide) (by decide))) (In_of (hM_w227.2 0 45 (by decide) (by decide)).symm g227_0_45)) hP hD hS (lv_sub hl [1, 2, 3, 4, 0, 5] rfl)
            · refine lv_goto (tgt := 273) hx hb dX12_blindDay_256 (by decide) ?_
              exact J273 x227_4 w227 _ _ ls hW_w227 hM_w227 i_p1 i_x227_3 (R_nle_r (In_of ev_1 (hW_w227.ap tM_2 _) : In 0 10 v_1) i_x227_5 c_2 (by decide) : In 0 9 x227_5) (In_of (hM_w227.2 0 45 (by decide) (by decide)) (In_of (hM_w227.2 0 45 (by decide) (by decide)).symm g227_0_45)) hP hD hS (lv_sub hl [0, 1, 2, 3, 4, 5] rfl)
      refine lv_iload_n hx hb dX12_blindDay_200 rfl (lv_at hl 3 rfl) ?_
      refine lv_aload_n hx hb dX12_blindDay_201 rfl (lv_at hl 0 rfl) ?_
      refine gt_X12 hx hb hts hown hK hP 0 (hW_w200.o tM_0) 45 (by decide) wd_1446 rfl (hW_w200.fi tM_0 rfl) dX12_blindDay_202 ?_
      refine tov (v := (fI w 0 45)) (hM_w200.2 0 45 (by decide) (by decide)) ?_
      refine lv_icmp_ge (tgt := 290) hx hb dX12_blindDay_205 (by decide) (fun c_8 => ?_) (fun c_8 => ?_)
      · refine lv_iload_n hx hb dX12_blindDay_290 rfl (lv_at hl 2 rfl) ?_
        exact hret _ _ _ _ _ _ hP hD hS dX12_blindDay_291 ⟨hW_w200, hM_w200⟩
      · refine lv_aload_n hx hb dX12_blindDay_208 rfl (lv_at hl 0 rfl) ?_
        refine gt_X12 hx hb hts hown hK hP 0 (hW_w200.o tM_0) 52 (by decide) wd_1453 rfl (hW_w200.fr tM_0 rfl) dX12_blindDay_209 ?_
        refine lv_iload_n hx hb dX12_blindDay_212 rfl (lv_at hl 3 rfl) ?_
        refine va_iald hx hb hK hP 32 0 (hW_w200.a tM_32) rfl (in_I (R_nle_r (hW_w.fin tM_0 rfl : In 0 40 (fI w 0 45)) i_x200_3 c_8 (by decide) : In 0 39 x200_3) (by decide)) dX12_blindDay_213 ?_
        refine lv_topi (fun v_9 ev_9 => ?_)
        refine lv_iload_n hx hb dX12_blindDay_214 rfl (lv_at hl 1 rfl) ?_
        refine lv_icmp_eq (tgt := 221) hx hb dX12_blindDay_215 (by decide) (fun c_10 => ?_) (fun c_10 => ?_)
        · refine lv_iconst (v := 0) hx hb dX12_blindDay_221 (by decide) ?_
          refine lv_istore (lv' := [(4, .int 0), (0, .ref (q 0)), (1, .int p1), (2, .int x200_2), (3, .int x200_3)]) hx hb dX12_blindDay_222 hl (by decide) rfl (fun ls hl => ?_)
          refine lv_iconst (v := 0) hx hb dX12_blindDay_224 (by decide) ?_
          refine lv_istore (lv' := [(5, .int 0), (4, .int 0), (0, .ref (q 0)), (1, .int p1), (2, .int x200_2), (3, .int x200_3)]) hx hb dX12_blindDay_225 hl (by decide) rfl (fun ls hl => ?_)
          exact J227 _ 0 0 w200 _ _ ls (Nat.lt_succ_self _) hW_w200 hM_w200 i_p1 (R_nle_r (hW_w.fin tM_0 rfl : In 0 40 (fI w 0 45)) i_x200_3 c_8 (by decide) : In 0 39 x200_3) (In_lit (n := 0) (by decide) (by decide) : In 0 10 0) (In_of (hM_w200.2 0 45 (by decide) (by decide)) (R_nle_l (hW_w.fin tM_0 rfl : In 0 40 (fI w 0 45)) i_x200_3 c_8 (by decide) : In 1 40 (fI w 0 45))) hP hD hS (lv_sub hl [2, 3, 4, 5, 1, 0] rfl)
        · refine lv_goto (tgt := 284) hx hb dX12_blindDay_218 (by decide) ?_
          exact J284 x200_2 w200 _ _ ls hW_w200 hM_w200 i_p1 (R_nle_r (hW_w.fin tM_0 rfl : In 0 40 (fI w 0 45)) i_x200_3 c_8 (by decide) : In 0 39 x200_3) (In_of (hM_w200.2 0 45 (by decide) (by decide)) (R_nle_l (hW_w.fin tM_0 rfl : In 0 40 (fI w 0 45)) i_x200_3 c_8 (by decide) : In 1 40 (fI w 0 45))) hP hD hS (lv_sub hl [0, 1, 2, 3] rfl)
  have J86 : ∀ (N : Nat) (x86_2 : Int32) (w86 : va_W) (H : Heap) (locs : List Loc) (ls : Array Slot), (40 - x86_2.toInt).toNat < N → HT q (TM q cI cJ cZ) w86 → Sm [0, 37, 38, 39, 40, 41, 42, 43, 44, 45, 55] [(0, 62)] w w86 → (In 1 24 p1) → (In 0 40 x86_2) → ((fI w86 0 62).toInt ≤ 20 + 22 * (x86_2 : Int32).toInt) → (LBx w86) → (PRx w86) → va_P D vwCl w86 H → va_D A w86 → va_S A s.heap H locs → lv_has ls 6 [(0, .ref (q 0)), (1, .int p1), (2, .int x86_2)] → W p l e R s m args below meth c H locs 0 0 Q (F0 m 86 ls []) := by
    intro N
    induction N with
    | zero => intro x86_2 w86 H locs ls hmu; exact absurd hmu (Nat.not_lt_zero _)
    | succ N ih86 =>
      intro x86_2 w86 H locs ls hmu86 hW_w86 hM_w86 i_x86_1 i_x86_2 hc_86 hlb_86 hpr_86 hP hD hS hl
      have J186 : ∀ (w186 : va_W) (H : Heap) (locs : List Loc) (ls : Array Slot), HT q (TM q cI cJ cZ) w186 → Sm [0, 37, 38, 39, 40, 41, 42, 43, 44, 45, 55] [(0, 62)] w w186 → (In 1 24 p1) → (In 0 39 x86_2) → (In 1 40 (fI w186 0 45)) → ((fI w186 0 62).toInt ≤ 42 + 22 * (x86_2 : Int32).toInt) → (LBx w186) → (PRx w186) → va_P D vwCl w186 H → va_D A w186 → va_S A s.heap H locs → lv_has ls 6 [(0, .ref (q 0)), (1, .int p1), (2, .int x86_2)] → W p l e R s m args below meth c H locs 0 0 Q (F0 m 186 ls []) := by
        intro w186 H locs ls hW_w186 hM_w186 i_x186_1 i_x186_2 g186_0_45 hc_186 hlb_186 hpr_186 hP hD hS hl
        refine lv_iinc (v := (x86_2 + 1)) (lv' := [(2, .int (x86_2 + 1)), (0, .ref (q 0)), (1, .int p1)]) hx hb dX12_blindDay_186 hl (k := 2) rfl (rfl) (by decide) rfl (fun ls hl => ?_)
        refine lv_goto (tgt := 86) hx hb dX12_blindDay_189 (by decide) ?_
        exact ih86 (x86_2 + 1) w186 _ _ ls (mu_inc hmu86 i_x186_2 (In_lit (n := 1) (by decide) (by decide) : In 1 1 1) (by decide)) hW_w186 hM_w186 i_p1 (In_w ((In_add (y := 1) i_x186_2 (In_lit (n := 1) (by decide) (by decide) : In 1 1 1) (by decide)) : In 1 40 (x86_2 + 1)) (by decide) : In 0 40 (x86_2 + 1)) (by have i0_62 := (hW_w186.fin tM_0 rfl : In 0 2200 (fI w186 0 62)); unfold In at i0_62; have t11 := t_add i_x186_2 (In_lit (n := 1) (by decide) (by decide) : In 1 1 1) (by decide); have z1 : (1 : Int32).toInt = 1 := (by decide); have il2 := ((In_add (y := 1) i_x186_2 (In_lit (n := 1) (by decide) (by decide) : In 1 1 1) (by decide)) : In 1 40 (x86_2 + 1)); unfold In at il2; have im1 := i_p1; unfold In at im1; have iq_x86_2 := i_x186_2; unfold In at iq_x86_2; omega) hlb_186 hpr_186 hP hD hS (lv_sub hl [1, 2, 0] rfl)
      have J126 : ∀ (N : Nat) (x126_3 : Int32) (w126 : va_W) (H : Heap) (locs : List Loc) (ls : Array Slot), (10 - x126_3.toInt).toNat < N → HT q (TM q cI cJ cZ) w126 → Sm [0, 37, 38, 39, 40, 41, 42, 43, 44, 45, 55] [(0, 62)] w w126 → (In 1 24 p1) → (In 0 39 x86_2) → (In 0 10 x126_3) → (In 1 40 (fI w126 0 45)) → (In 2 2200 (fI w126 0 62)) → ((fI w126 0 62).toInt ≤ 22 + 22 * (x86_2 : Int32).toInt + 2 * (x126_3 : Int32).toInt) → (LBx w126) → (PRx w126) → va_P D vwCl w126 H → va_D A w126 → va_S A s.heap H locs → lv_has ls 6 [(0, .ref (q 0)), (1, .int p1), (2, .int x86_2), (3, .int x126_3)] → W p l e R s m args below meth c H locs 0 0 Q (F0 m 126 ls []) := by
        intro N
        induction N with
        | zero => intro x126_3 w126 H locs ls hmu; exact absurd hmu (Nat.not_lt_zero _)
        | succ N ih126 =>
          intro x126_3 w126 H locs ls hmu126 hW_w126 hM_w126 i_x126_1 i_x126_2 i_x126_3 g126_0_45 g126_0_62 hc_126 hlb_126 hpr_126 hP hD hS hl
          have J180 : ∀ (w180 : va_W) (H : Heap) (locs : List Loc) (ls : Array Slot), HT q (TM q cI cJ cZ) w180 → Sm [0, 37, 38, 39, 40, 41, 42, 43, 44, 45, 55] [(0, 62)] w w180 → (In 1 24 p1) → (In 0 39 x86_2) → (In 0 9 x126_3) → (In 1 40 (fI w180 0 45)) → (In 2 2200 (fI w180 0 62)) → ((fI w180 0 62).toInt ≤ 24 + 22 * (x86_2 : Int32).toInt + 2 * (x126_3 : Int32).toInt) → (LBx w180) → (PRx w180) → va_P D vwCl w180 H → va_D A w180 → va_S A s.heap H locs → lv_has ls 6 [(0, .ref (q 0)), (1, .int p1), (2, .int x86_2), (3, .int x126_3)] → W p l e R s m args below meth c H locs 0 0 Q (F0 m 180 ls []) := by
            intro w180 H locs ls hW_w180 hM_w180 i_x180_1 i_x180_2 i_x180_3 g180_0_45 g180_0_62 hc_180 hlb_180 hpr_180 hP hD hS hl
            refine lv_iinc (v := (x126_3 + 1)) (lv' := [(3, .int (x126_3 + 1)), (0, .ref (q 0)), (1, .int p1), (2, .int x86_2)]) hx hb dX12_blindDay_180 hl (k := 3) rfl (rfl) (by decide) rfl (fun ls hl => ?_)
            refine lv_goto (tgt := 126) hx hb dX12_blindDay_183 (by decide) ?_
            exact ih126 (x126_3 + 1) w180 _ _ ls (mu_inc hmu126 i_x180_3 (In_lit (n := 1) (by decide) (by decide) : In 1 1 1) (by decide)) hW_w180 hM_w180 i_p1 i_x126_2 (In_w ((In_add (y := 1) i_x180_3 (In_lit (n := 1) (by decide) (by decide) : In 1 1 1) (by decide)) : In 1 10 (x126_3 + 1)) (by decide) : In 0 10 (x126_3 + 1)) (In_of (hM_w180.2 0 45 (by decide) (by decide)) (In_of (hM_w180.2 0 45 (by decide) (by decide)).symm g180_0_45)) g180_0_62 (by have i0_62 := g180_0_62; unfold In at i0_62; have il2 := i_x126_2; unfold In at il2; have t12 := t_add i_x180_3 (In_lit (n := 1) (by decide) (by decide) : In 1 1 1) (by decide); have z1 : (1 : Int32).toInt = 1 := (by decide); have il3 := ((In_add (y := 1) i_x180_3 (In_lit (n := 1) (by decide) (by decide) : In 1 1 1) (by decide)) : In 1 10 (x126_3 + 1)); unfold In at il3; have im1 := i_p1; unfold In at im1; have iq_x126_3 := i_x180_3; unfold In at iq_x126_3; omega) hlb_180 hpr_180 hP hD hS (lv_sub hl [1, 2, 3, 0] rfl)
          refine lv_iload_n hx hb dX12_blindDay_126 rfl (lv_at hl 3 rfl) ?_
          refine lv_aload_n hx hb dX12_blindDay_127 rfl (lv_at hl 0 rfl) ?_
          refine gt_X12 hx hb hts hown hK hP 0 (hW_w126.o tM_0) 14 (by decide) wd_1415 rfl (hW_w126.fr tM_0 rfl) dX12_blindDay_128 ?_
          refine lv_aload_n hx hb dX12_blindDay_131 rfl (lv_at hl 0 rfl) ?_
          refine gt_X12 hx hb hts hown hK hP 0 (hW_w126.o tM_0) 12 (by decide) wd_1413 rfl (hW_w126.fi tM_0 rfl) dX12_blindDay_132 ?_
          refine tov (v := (fI w 0 12)) (hM_w126.2 0 12 (by decide) (by decide)) ?_
          refine va_iald hx hb hK hP 2 0 (hW_w126.a tM_2) rfl (in_I (hW_w.fin tM_0 rfl : In 0 1 (fI w 0 12)) (by decide)) dX12_blindDay_135 ?_
          refine lv_topi (fun v_11 ev_11 => ?_)
          refine lv_icmp_ge (tgt := 186) hx hb dX12_blindDay_136 (by decide) (fun c_12 => ?_) (fun c_12 => ?_)
          · exact J186 w126 _ _ ls hW_w126 hM_w126 i_p1 i_x126_2 (In_of (hM_w126.2 0 45 (by decide) (by decide)) (In_of (hM_w126.2 0 45 (by decide) (by decide)).symm g126_0_45)) (by have i0_62 := g126_0_62; unfold In at i0_62; have il2 := i_x126_2; unfold In at il2; have im1 := i_p1; unfold In at im1; have im3 := i_x126_3; unfold In at im3; omega) hlb_126 hpr_126 hP hD hS (lv_sub hl [0, 1, 2] rfl)
          · refine lv_aload_n hx hb dX12_blindDay_139 rfl (lv_at hl 0 rfl) ?_
            refine lv_iload_n hx hb dX12_blindDay_140 rfl (lv_at hl 2 rfl) ?_
            refine lv_iload_n hx hb dX12_blindDay_141 rfl (lv_at hl 3 rfl) ?_
            refine kW_i ⟨rfl, rfl⟩ hP hD hS hA (rW_V (As := [.int x86_2, .int x126_3]) (rest := []) hx hb hml hown hts hK hE hP hD (k_X12_mayGet l D cI cJ cZ q w126 hW_w126 x86_2 x126_3 i_x126_2 (R_nle_r (In_of ev_11 (hW_w126.ap tM_2 _) : In 0 10 v_11) i_x126_3 c_12 (by decide) : In 0 9 x126_3) (In_of (hM_w126.2 0 45 (by decide) (by decide)) (In_of (hM_w126.2 0 45 (by decide) (by decide)).symm g126_0_45)) (RV_cg (hM_w126.hA (by decide)) (hM_w126.hA (by decide)) (hM_w126.hA (by decide)) (hM_w126.2 0 12 (by decide) (by decide)) hRV) _) ⟨⟨rfl, rfl⟩, rfl, rfl⟩ sv_X12_518 ⟨(Nat.le_trans (by decide) hR.1), (Nat.le_trans (by decide) hR.2)⟩ 0 12 (hW_w126.o tM_0) rfl rfl rfl hl.1 rfl (Nat.le_of_ble_eq_true rfl) dX12_blindDay_142) (fun r_14 w_13 H locs hw_w_13 hP hD hS => ?_)
            obtain ⟨hW_w_13, hs_w_13, i_r_14⟩ := hw_w_13
            refine lv_if_eq (tgt := 180) hx hb dX12_blindDay_145 (by decide) (fun c_15 => ?_) (fun c_15 => ?_)
            · exact J180 w_13 _ _ ls hW_w_13 (hM_w126.tr hs_w_13 (by decide)) i_p1 i_x126_2 (R_nle_r (In_of ev_11 (hW_w126.ap tM_2 _) : In 0 10 v_11) i_x126_3 c_12 (by decide) : In 0 9 x126_3) (In_of ((hs_w_13.gI (by decide)).trans (hM_w126.2 0 45 (by decide) (by decide))) (In_of (hM_w126.2 0 45 (by decide) (by decide)).symm g126_0_45)) (In_of (hs_w_13.gI (by decide)) g126_0_62) (by have e0_62 : (fI w_13 0 62).toInt = ((fI w126 0 62) : Int32).toInt := congrArg Int32.toInt (hs_w_13.gI (by decide)); have i0_62 := g126_0_62; unfold In at i0_62; have il2 := i_x126_2; unfold In at il2; have il3 := (R_nle_r (In_of ev_11 (hW_w126.ap tM_2 _) : In 0 10 v_11) i_x126_3 c_12 (by decide) : In 0 9 x126_3); unfold In at il3; have im1 := i_p1; unfold In at im1; omega) (LB_cg (hs_w_13.hA (by decide)) (hs_w_13.hA (by decide)) (hs_w_13.hA (by decide)) (hs_w_13.hL (by decide)) (hs_w_13.gI (by decide)) hlb_126) (PR_up (hs_w_13.hA (by decide)) (Nat.le_of_eq (congrArg (fun z : Int32 => z.toInt.toNat) ((hs_w_13.gI (by decide))).symm)) hpr_126) hP hD hS (lv_sub hl [0, 1, 2, 3] rfl)
            · refine lv_aload_n hx hb dX12_blindDay_148 rfl (lv_at hl 0 rfl) ?_
              refine gt_X12 hx hb hts hown hK hP 0 (hW_w_13.o tM_0) 65 (by decide) wd_1466 rfl (hW_w_13.fr tM_0 rfl) dX12_blindDay_149 ?_
              refine lv_bipush (v := 10) hx hb dX12_blindDay_152 (by decide) ?_
              refine lv_iload_n hx hb dX12_blindDay_154 rfl (lv_at hl 2 rfl) ?_
              refine lv_imul hx hb dX12_blindDay_155 ?_
              refine lv_iload_n hx hb dX12_blindDay_156 rfl (lv_at hl 3 rfl) ?_
              refine lv_iadd hx hb dX12_blindDay_157 ?_
              refine lv_aload_n hx hb dX12_blindDay_158 rfl (lv_at hl 0 rfl) ?_
              refine lv_iconst (v := 2) hx hb dX12_blindDay_159 (by decide) ?_
              refine lv_iload_n hx hb dX12_blindDay_160 rfl (lv_at hl 3 rfl) ?_
              refine lv_iadd hx hb dX12_blindDay_161 ?_
              refine lv_sipush (v := 242) hx hb dX12_blindDay_162 (by decide) ?_
              refine lv_iload_n hx hb dX12_blindDay_165 rfl (lv_at hl 2 rfl) ?_
              refine lv_iadd hx hb dX12_blindDay_166 ?_
              refine lv_iconst (v := 1) hx hb dX12_blindDay_167 (by decide) ?_
              refine lv_aload_n hx hb dX12_blindDay_168 rfl (lv_at hl 0 rfl) ?_
              refine lv_iload_n hx hb dX12_blindDay_169 rfl (lv_at hl 2 rfl) ?_
              refine lv_iload_n hx hb dX12_blindDay_170 rfl (lv_at hl 3 rfl) ?_
              refine kW_i ⟨rfl, rfl⟩ hP hD hS hA (rW_V (As := [.int x86_2, .int x126_3]) (rest := [.int 1, .int (242 + x86_2), .int (2 + x126_3), .ref (q 0), .int ((10 * x86_2) + x126_3), .ref (q 44)]) hx hb hml hown hts hK hE hP hD (k_X12_pointsOf l D cI cJ cZ q w_13 hW_w_13 x86_2 x126_3 i_x126_2 (R_nle_r (In_of ev_11 (hW_w126.ap tM_2 _) : In 0 10 v_11) i_x126_3 c_12 (by decide) : In 0 9 x126_3) (In_of ((hs_w_13.gI (by decide)).trans (hM_w126.2 0 45 (by decide) (by decide))) (In_of (hM_w126.2 0 45 (by decide) (by decide)).symm g126_0_45)) (RV_cg ((hs_w_13.hA (by decide)).trans (hM_w126.hA (by decide))) ((hs_w_13.hA (by decide)).trans (hM_w126.hA (by decide))) ((hs_w_13.hA (by decide)).trans (hM_w126.hA (by decide))) ((hs_w_13.gI (by decide)).trans (hM_w126.2 0 12 (by decide) (by decide))) hRV) _) ⟨⟨rfl, rfl⟩, rfl, rfl⟩ sv_X12_522 ⟨(Nat.le_trans (by decide) hR.1), (Nat.le_trans (by decide) hR.2)⟩ 0 12 (hW_w_13.o tM_0) rfl rfl rfl hl.1 rfl (Nat.le_of_ble_eq_true rfl) dX12_blindDay_171) (fun r_17 w_16 H locs hw_w_16 hP hD hS => ?_)
              obtain ⟨hW_w_16, hs_w_16⟩ := hw_w_16
              refine lv_ineg hx hb dX12_blindDay_174 ?_
              refine lv_topi (fun v_18 ev_18 => ?_)
              refine lv_i2l hx hb dX12_blindDay_175 rfl ?_
              refine lv_topl (fun v_19 ev_19 => ?_)
              refine kW_i ⟨rfl, rfl⟩ hP hD hS hA (rW_V (As := [.int (2 + x126_3), .int (242 + x86_2), .int 1, .long v_19]) (rest := [.int ((10 * x86_2) + x126_3), .ref (q 44)]) hx hb hml hown hts hK hE hP hD (kl_X12_lane l D cI cJ cZ q w_16 hW_w_16 (2 + x126_3) (242 + x86_2) 1 v_19 (In_w ((In_add (In_lit (n := 2) (by decide) (by decide) : In 2 2 2) (R_nle_r (In_of ev_11 (hW_w126.ap tM_2 _) : In 0 10 v_11) i_x126_3 c_12 (by decide) : In 0 9 x126_3) (by decide)) : In 2 11 (2 + x126_3)) (by decide) : In 0 282 (2 + x126_3)) (In_w ((In_add (In_lit (n := 242) (by decide) (by decide) : In 242 242 242) i_x126_2 (by decide)) : In 242 281 (242 + x86_2)) (by decide) : In 1 282 (242 + x86_2)) (In_of ((hs_w_16.gI (by decide)).trans (hs_w_13.gI (by decide))) (by have q0 := g126_0_62; have q1 := i_x126_2; have q2 := (R_nle_r (In_of ev_11 (hW_w126.ap tM_2 _) : In 0 10 v_11) i_x126_3 c_12 (by decide) : In 0 9 x126_3); unfold In at q0 q1 q2 ⊢; omega : In 0 2198 (fI w126 0 62))) _) ⟨⟨rfl, rfl⟩, rfl, rfl⟩ sv_X12_536 ⟨(Nat.le_trans (by decide) hR.1), (Nat.le_trans (by decide) hR.2)⟩ 0 12 (hW_w_16.o tM_0) rfl rfl rfl hl.1 rfl (Nat.le_of_ble_eq_true rfl) dX12_blindDay_176) (fun r_21 w_20 H locs hw_w_20 hP hD hS => ?_)
              obtain ⟨hW_w_20, hs_w_20, i_r_21, h_22, h_23, h_24, h_25⟩ := hw_w_20
              have n_h_23 : (fI w_20 0 62).toInt = ((fI w126 0 62) : Int32).toInt + 2 := (by have ee : (fI w_16 0 62).toInt = ((fI w126 0 62) : Int32).toInt := congrArg Int32.toInt ((hs_w_16.gI (by decide)).trans (hs_w_13.gI (by decide))); have q := h_23; omega)
              refine va_iast hx hb hK hP hD hS 44 0 (hW_w_20.a tM_44) rfl (in_I ((In_add ((In_mull i_x126_2 (n := 10) (by decide) (by decide)) : In 0 390 (10 * x86_2)) (R_nle_r (In_of ev_11 (hW_w126.ap tM_2 _) : In 0 10 v_11) i_x126_3 c_12 (by decide) : In 0 9 x126_3) (by decide)) : In 0 399 ((10 * x86_2) + x126_3)) (by decide)) dX12_blindDay_179 (fun H locs hP hD hS => fr_w (hW_w_20.uA tM_44 (In_w i_r_21 (by decide) : In (-1) 2198 r_21)) hP hD (fun w_26 ew_26 hW_w_26 hP hD => ?_))
              exact J180 w_26 _ _ ls hW_w_26 ((((hM_w126.tr hs_w_13 (by decide)).tr hs_w_16 (by decide)).tr hs_w_20 (by decide)).sa ew_26 (by decide)) i_p1 i_x126_2 (R_nle_r (In_of ev_11 (hW_w126.ap tM_2 _) : In 0 10 v_11) i_x126_3 c_12 (by decide) : In 0 9 x126_3) (In_of ((fI_cg (st_ne ew_26 (by decide))).trans ((hs_w_20.2 0 45 (by decide) (by decide)).trans ((hs_w_16.gI (by decide)).trans ((hs_w_13.gI (by decide)).trans (hM_w126.2 0 45 (by decide) (by decide)))))) (In_of (hM_w126.2 0 45 (by decide) (by decide)).symm g126_0_45)) (In_of (fI_cg (st_ne ew_26 (by decide))) h_22) (by have e0_62 : (fI w_26 0 62).toInt = ((fI w_20 0 62) : Int32).toInt := congrArg Int32.toInt (fI_cg (st_ne ew_26 (by decide))); have i0_62 := h_22; unfold In at i0_62; have il2 := i_x126_2; unfold In at il2; have il3 := (R_nle_r (In_of ev_11 (hW_w126.ap tM_2 _) : In 0 10 v_11) i_x126_3 c_12 (by decide) : In 0 9 x126_3); unfold In at il3; have im1 := i_p1; unfold In at im1; omega) (LB_cg (aF_cg (st_ne ew_26 (by decide))) (aF_cg (st_ne ew_26 (by decide))) (aF_cg (st_ne ew_26 (by decide))) (aL_cg (st_ne ew_26 (by decide))) (fI_cg (st_ne ew_26 (by decide))) (h_25 (LB_cg ((hs_w_16.hA (by decide)).trans (hs_w_13.hA (by decide))) ((hs_w_16.hA (by decide)).trans (hs_w_13.hA (by decide))) ((hs_w_16.hA (by decide)).trans (hs_w_13.hA (by decide))) ((hs_w_16.hL (by decide)).trans (hs_w_13.hL (by decide))) ((hs_w_16.gI (by decide)).trans (hs_w_13.gI (by decide))) hlb_126) (ok_4 ev_19 (In_w ((In_add (In_lit (n := 2) (by decide) (by decide) : In 2 2 2) (R_nle_r (In_of ev_11 (hW_w126.ap tM_2 _) : In 0 10 v_11) i_x126_3 c_12 (by decide) : In 0 9 x126_3) (by decide)) : In 2 11 (2 + x126_3)) (by decide) : In 2 241 (2 + x126_3)) (In_w ((In_add (In_lit (n := 242) (by decide) (by decide) : In 242 242 242) i_x126_2 (by decide)) : In 242 281 (242 + x86_2)) (by decide) : In 242 289 (242 + x86_2))))) (PR_st (aF_eq (hW_w_20.lt tM_44) ew_26) h_24 (fI_cg (st_ne ew_26 (by decide))) (PR_up ((hs_w_20.hA (by decide)).trans ((hs_w_16.hA (by decide)).trans (hs_w_13.hA (by decide)))) (by show (fI w126 0 62).toInt.toNat ≤ (fI w_20 0 62).toInt.toNat; have i0_62 := h_22; unfold In at i0_62; have y := n_h_23; omega) hpr_126)) hP hD hS (lv_sub hl [0, 1, 2, 3] rfl)
      refine lv_iload_n hx hb dX12_blindDay_86 rfl (lv_at hl 2 rfl) ?_
      refine lv_aload_n hx hb dX12_blindDay_87 rfl (lv_at hl 0 rfl) ?_
      refine gt_X12 hx hb hts hown hK hP 0 (hW_w86.o tM_0) 45 (by decide) wd_1446 rfl (hW_w86.fi tM_0 rfl) dX12_blindDay_88 ?_
      refine tov (v := (fI w 0 45)) (hM_w86.2 0 45 (by decide) (by decide)) ?_
      refine lv_icmp_ge (tgt := 192) hx hb dX12_blindDay_91 (by decide) (fun c_27 => ?_) (fun c_27 => ?_)
      · refine lv_aload_n hx hb dX12_blindDay_192 rfl (lv_at hl 0 rfl) ?_
        refine kW_v ⟨rfl, rfl⟩ hP hD hS hA (rW_V (As := []) (rest := []) hx hb hml hown hts hK hE hP hD (k_X12_settles l D cI cJ cZ q w86 hW_w86 (hlb_86.2.1) (hpr_86) (FP_0 hlb_86) (hlb_86.2.2.1) _) ⟨⟨rfl, rfl⟩, rfl, rfl⟩ sv_X12_541 ⟨(Nat.le_trans (by decide) hR.1), (Nat.le_trans (by decide) hR.2)⟩ 0 12 (hW_w86.o tM_0) rfl rfl rfl hl.1 rfl (Nat.le_of_ble_eq_true rfl) dX12_blindDay_193) (fun w_28 H locs hw_w_28 hP hD hS => ?_)
        obtain ⟨hW_w_28, hs_w_28⟩ := hw_w_28
        refine lv_iconst (v := 0) hx hb dX12_blindDay_196 (by decide) ?_
        refine lv_istore_n (lv' := [(2, .int 0), (0, .ref (q 0)), (1, .int p1)]) hx hb dX12_blindDay_197 rfl hl (by decide) rfl (fun ls hl => ?_)
        refine lv_iconst (v := 0) hx hb dX12_blindDay_198 (by decide) ?_
        refine lv_istore_n (lv' := [(3, .int 0), (2, .int 0), (0, .ref (q 0)), (1, .int p1)]) hx hb dX12_blindDay_199 rfl hl (by decide) rfl (fun ls hl => ?_)
        exact J200 _ 0 0 w_28 _ _ ls (Nat.lt_succ_self _) hW_w_28 (hM_w86.tr hs_w_28 (by decide)) i_p1 (In_lit (n := 0) (by decide) (by decide) : In 0 40 0) hP hD hS (lv_sub hl [2, 3, 1, 0] rfl)
      · refine lv_aload_n hx hb dX12_blindDay_94 rfl (lv_at hl 0 rfl) ?_
        refine gt_X12 hx hb hts hown hK hP 0 (hW_w86.o tM_0) 52 (by decide) wd_1453 rfl (hW_w86.fr tM_0 rfl) dX12_blindDay_95 ?_
        refine lv_iload_n hx hb dX12_blindDay_98 rfl (lv_at hl 2 rfl) ?_
        refine va_iald hx hb hK hP 32 0 (hW_w86.a tM_32) rfl (in_I (R_nle_r (hW_w.fin tM_0 rfl : In 0 40 (fI w 0 45)) i_x86_2 c_27 (by decide) : In 0 39 x86_2) (by decide)) dX12_blindDay_99 ?_
        refine lv_topi (fun v_30 ev_30 => ?_)
        refine lv_iload_n hx hb dX12_blindDay_100 rfl (lv_at hl 1 rfl) ?_
        refine lv_icmp_eq (tgt := 107) hx hb dX12_blindDay_101 (by decide) (fun c_31 => ?_) (fun c_31 => ?_)
        · refine lv_aload_n hx hb dX12_blindDay_107 rfl (lv_at hl 0 rfl) ?_
          refine lv_sipush (v := 242) hx hb dX12_blindDay_108 (by decide) ?_
          refine lv_iload_n hx hb dX12_blindDay_111 rfl (lv_at hl 2 rfl) ?_
          refine lv_iadd hx hb dX12_blindDay_112 ?_
          refine lv_iconst (v := 1) hx hb dX12_blindDay_113 (by decide) ?_
          refine lv_aload_n hx hb dX12_blindDay_114 rfl (lv_at hl 0 rfl) ?_
          refine lv_iload_n hx hb dX12_blindDay_115 rfl (lv_at hl 2 rfl) ?_
          refine kW_i ⟨rfl, rfl⟩ hP hD hS hA (rW_V (As := [.int x86_2]) (rest := [.int 1, .int (242 + x86_2), .ref (q 0)]) hx hb hml hown hts hK hE hP hD (k_X12_due l D cI cJ cZ q w86 hW_w86 x86_2 (R_nle_r (hW_w.fin tM_0 rfl : In 0 40 (fI w 0 45)) i_x86_2 c_27 (by decide) : In 0 39 x86_2) (In_of (hM_w86.2 0 45 (by decide) (by decide)) (R_nle_l (hW_w.fin tM_0 rfl : In 0 40 (fI w 0 45)) i_x86_2 c_27 (by decide) : In 1 40 (fI w 0 45))) (RV_cg (hM_w86.hA (by decide)) (hM_w86.hA (by decide)) (hM_w86.hA (by decide)) (hM_w86.2 0 12 (by decide) (by decide)) hRV) _) ⟨⟨rfl, rfl⟩, rfl, rfl⟩ sv_X12_515 ⟨(Nat.le_trans (by decide) hR.1), (Nat.le_trans (by decide) hR.2)⟩ 0 12 (hW_w86.o tM_0) rfl rfl rfl hl.1 rfl (Nat.le_of_ble_eq_true rfl) dX12_blindDay_116) (fun r_33 w_32 H locs hw_w_32 hP hD hS => ?_)
          obtain ⟨hW_w_32, hs_w_32, h_34⟩ := hw_w_32
          refine lv_lconst (v := 0) hx hb dX12_blindDay_119 (by decide) ?_
          refine kW_i ⟨rfl, rfl⟩ hP hD hS hA (rW_V (As := [.int (242 + x86_2), .int 1, .int r_33, .long 0]) (rest := []) hx hb hml hown hts hK hE hP hD (kl_X12_lane l D cI cJ cZ q w_32 hW_w_32 (242 + x86_2) 1 r_33 0 (In_w ((In_add (In_lit (n := 242) (by decide) (by decide) : In 242 242 242) (R_nle_r (hW_w.fin tM_0 rfl : In 0 40 (fI w 0 45)) i_x86_2 c_27 (by decide) : In 0 39 x86_2) (by decide)) : In 242 281 (242 + x86_2)) (by decide) : In 0 282 (242 + x86_2)) (In_lit (n := 1) (by decide) (by decide) : In 1 282 1) (In_of (hs_w_32.gI (by decide)) (by have q0 := (hW_w86.fin tM_0 rfl : In 0 2200 (fI w86 0 62)); have q1 := (R_nle_r (hW_w.fin tM_0 rfl : In 0 40 (fI w 0 45)) i_x86_2 c_27 (by decide) : In 0 39 x86_2); unfold In at q0 q1 ⊢; omega : In 0 2198 (fI w86 0 62))) _) ⟨⟨rfl, rfl⟩, rfl, rfl⟩ sv_X12_536 ⟨(Nat.le_trans (by decide) hR.1), (Nat.le_trans (by decide) hR.2)⟩ 0 12 (hW_w_32.o tM_0) rfl rfl rfl hl.1 rfl (Nat.le_of_ble_eq_true rfl) dX12_blindDay_120) (fun r_36 w_35 H locs hw_w_35 hP hD hS => ?_)
          obtain ⟨hW_w_35, hs_w_35, i_r_36, h_37, h_38, h_39, h_40⟩ := hw_w_35
          have n_h_38 : (fI w_35 0 62).toInt = ((fI w86 0 62) : Int32).toInt + 2 := (by have ee : (fI w_32 0 62).toInt = ((fI w86 0 62) : Int32).toInt := congrArg Int32.toInt (hs_w_32.gI (by decide)); have q := h_38; omega)
          refine lv_pop hx hb dX12_blindDay_123 rfl ?_
          refine lv_iconst (v := 0) hx hb dX12_blindDay_124 (by decide) ?_
          refine lv_istore_n (lv' := [(3, .int 0), (0, .ref (q 0)), (1, .int p1), (2, .int x86_2)]) hx hb dX12_blindDay_125 rfl hl (by decide) rfl (fun ls hl => ?_)
          exact J126 _ 0 w_35 _ _ ls (Nat.lt_succ_self _) hW_w_35 ((hM_w86.tr hs_w_32 (by decide)).tr hs_w_35 (by decide)) i_p1 (R_nle_r (hW_w.fin tM_0 rfl : In 0 40 (fI w 0 45)) i_x86_2 c_27 (by decide) : In 0 39 x86_2) (In_lit (n := 0) (by decide) (by decide) : In 0 10 0) (In_of ((hs_w_35.2 0 45 (by decide) (by decide)).trans ((hs_w_32.gI (by decide)).trans (hM_w86.2 0 45 (by decide) (by decide)))) (R_nle_l (hW_w.fin tM_0 rfl : In 0 40 (fI w 0 45)) i_x86_2 c_27 (by decide) : In 1 40 (fI w 0 45))) h_37 (by have i0_62 := h_37; unfold In at i0_62; have il2 := (R_nle_r (hW_w.fin tM_0 rfl : In 0 40 (fI w 0 45)) i_x86_2 c_27 (by decide) : In 0 39 x86_2); unfold In at il2; have z0 : (0 : Int32).toInt = 0 := (by decide); have im1 := i_p1; unfold In at im1; omega) (h_40 (LB_cg (hs_w_32.hA (by decide)) (hs_w_32.hA (by decide)) (hs_w_32.hA (by decide)) (hs_w_32.hL (by decide)) (hs_w_32.gI (by decide)) hlb_86) (ok_3 (In_w ((In_add (In_lit (n := 242) (by decide) (by decide) : In 242 242 242) (R_nle_r (hW_w.fin tM_0 rfl : In 0 40 (fI w 0 45)) i_x86_2 c_27 (by decide) : In 0 39 x86_2) (by decide)) : In 242 281 (242 + x86_2)) (by decide) : In 242 289 (242 + x86_2)) (by decide) (⟨h_34, (In_any r_33).2⟩ : In 0 2147483647 r_33))) (PR_up ((hs_w_35.hA (by decide)).trans (hs_w_32.hA (by decide))) (by show (fI w86 0 62).toInt.toNat ≤ (fI w_35 0 62).toInt.toNat; have i0_62 := h_37; unfold In at i0_62; have y := n_h_38; omega) hpr_86) hP hD hS (lv_sub hl [1, 2, 3, 0] rfl)
        · refine lv_goto (tgt := 186) hx hb dX12_blindDay_104 (by decide) ?_
          exact J186 w86 _ _ ls hW_w86 hM_w86 i_p1 (R_nle_r (hW_w.fin tM_0 rfl : In 0 40 (fI w 0 45)) i_x86_2 c_27 (by decide) : In 0 39 x86_2) (In_of (hM_w86.2 0 45 (by decide) (by decide)) (R_nle_l (hW_w.fin tM_0 rfl : In 0 40 (fI w 0 45)) i_x86_2 c_27 (by decide) : In 1 40 (fI w 0 45))) (by have i0_62 := (hW_w86.fin tM_0 rfl : In 0 2200 (fI w86 0 62)); unfold In at i0_62; have il2 := (R_nle_r (hW_w.fin tM_0 rfl : In 0 40 (fI w 0 45)) i_x86_2 c_27 (by decide) : In 0 39 x86_2); unfold In at il2; have im1 := i_p1; unfold In at im1; omega) hlb_86 hpr_86 hP hD hS (lv_sub hl [0, 1, 2] rfl)
  have J29 : ∀ (N : Nat) (x29_2 : Int32) (w29 : va_W) (H : Heap) (locs : List Loc) (ls : Array Slot), (10 - x29_2.toInt).toNat < N → HT q (TM q cI cJ cZ) w29 → Sm [0, 37, 38, 39, 40, 41, 42, 43, 44, 45, 55] [(0, 62)] w w29 → (In 1 24 p1) → (In 0 10 x29_2) → ((fI w29 0 62).toInt ≤ 2 * (x29_2 : Int32).toInt) → (LBx w29) → (PRx w29) → va_P D vwCl w29 H → va_D A w29 → va_S A s.heap H locs → lv_has ls 6 [(0, .ref (q 0)), (1, .int p1), (2, .int x29_2)] → W p l e R s m args below meth c H locs 0 0 Q (F0 m 29 ls []) := by
    intro N
    induction N with
    | zero => intro x29_2 w29 H locs ls hmu; exact absurd hmu (Nat.not_lt_zero _)
    | succ N ih29 =>
      intro x29_2 w29 H locs ls hmu29 hW_w29 hM_w29 i_x29_1 i_x29_2 hc_29 hlb_29 hpr_29 hP hD hS hl
      refine lv_iload_n hx hb dX12_blindDay_29 rfl (lv_at hl 2 rfl) ?_
      refine lv_aload_n hx hb dX12_blindDay_30 rfl (lv_at hl 0 rfl) ?_
      refine gt_X12 hx hb hts hown hK hP 0 (hW_w29.o tM_0) 14 (by decide) wd_1415 rfl (hW_w29.fr tM_0 rfl) dX12_blindDay_31 ?_
      refine lv_aload_n hx hb dX12_blindDay_34 rfl (lv_at hl 0 rfl) ?_
      refine gt_X12 hx hb hts hown hK hP 0 (hW_w29.o tM_0) 12 (by decide) wd_1413 rfl (hW_w29.fi tM_0 rfl) dX12_blindDay_35 ?_
      refine tov (v := (fI w 0 12)) (hM_w29.2 0 12 (by decide) (by decide)) ?_
      refine va_iald hx hb hK hP 2 0 (hW_w29.a tM_2) rfl (in_I (hW_w.fin tM_0 rfl : In 0 1 (fI w 0 12)) (by decide)) dX12_blindDay_38 ?_
      refine lv_topi (fun v_41 ev_41 => ?_)
      refine lv_icmp_ge (tgt := 84) hx hb dX12_blindDay_39 (by decide) (fun c_42 => ?_) (fun c_42 => ?_)
      · refine lv_iconst (v := 0) hx hb dX12_blindDay_84 (by decide) ?_
        refine lv_istore_n (lv' := [(2, .int 0), (0, .ref (q 0)), (1, .int p1)]) hx hb dX12_blindDay_85 rfl hl (by decide) rfl (fun ls hl => ?_)
        exact J86 _ 0 w29 _ _ ls (Nat.lt_succ_self _) hW_w29 hM_w29 i_p1 (In_lit (n := 0) (by decide) (by decide) : In 0 40 0) (by have i0_62 := (hW_w29.fin tM_0 rfl : In 0 2200 (fI w29 0 62)); unfold In at i0_62; have z0 : (0 : Int32).toInt = 0 := (by decide); have im1 := i_p1; unfold In at im1; have iq_x29_2 := i_x29_2; unfold In at iq_x29_2; omega) hlb_29 hpr_29 hP hD hS (lv_sub hl [1, 2, 0] rfl)
      · refine lv_aload_n hx hb dX12_blindDay_42 rfl (lv_at hl 0 rfl) ?_
        refine gt_X12 hx hb hts hown hK hP 0 (hW_w29.o tM_0) 82 (by decide) wd_1483 rfl (hW_w29.fr tM_0 rfl) dX12_blindDay_43 ?_
        refine lv_iload_n hx hb dX12_blindDay_46 rfl (lv_at hl 2 rfl) ?_
        refine lv_dup2_11 hx hb dX12_blindDay_47 rfl rfl ?_
        refine va_iald hx hb hK hP 55 0 (hW_w29.a tM_55) rfl (in_I (R_nle_r (In_of ev_41 (hW_w29.ap tM_2 _) : In 0 10 v_41) i_x29_2 c_42 (by decide) : In 0 9 x29_2) (by decide)) dX12_blindDay_48 ?_
        refine lv_topi (fun v_43 ev_43 => ?_)
        refine lv_aload_n hx hb dX12_blindDay_49 rfl (lv_at hl 0 rfl) ?_
        refine gt_X12 hx hb hts hown hK hP 0 (hW_w29.o tM_0) 67 (by decide) wd_1468 rfl (hW_w29.fr tM_0 rfl) dX12_blindDay_50 ?_
        refine lv_bipush (v := 25) hx hb dX12_blindDay_53 (by decide) ?_
        refine lv_iload_n hx hb dX12_blindDay_55 rfl (lv_at hl 2 rfl) ?_
        refine lv_imul hx hb dX12_blindDay_56 ?_
        refine lv_iload_n hx hb dX12_blindDay_57 rfl (lv_at hl 1 rfl) ?_
        refine lv_iadd hx hb dX12_blindDay_58 ?_
        refine va_iald hx hb hK hP 46 0 (hW_w29.a tM_46) rfl (in_I ((In_add ((In_mull (R_nle_r (In_of ev_41 (hW_w29.ap tM_2 _) : In 0 10 v_41) i_x29_2 c_42 (by decide) : In 0 9 x29_2) (n := 25) (by decide) (by decide)) : In 0 225 (25 * x29_2)) i_p1 (by decide)) : In 1 249 ((25 * x29_2) + p1)) (by decide)) dX12_blindDay_59 ?_
        refine lv_topi (fun v_44 ev_44 => ?_)
        refine lv_iadd hx hb dX12_blindDay_60 ?_
        refine lv_topi (fun v_45 ev_45 => ?_)
        refine va_iast hx hb hK hP hD hS 55 0 (hW_w29.a tM_55) rfl (in_I (R_nle_r (In_of ev_41 (hW_w29.ap tM_2 _) : In 0 10 v_41) i_x29_2 c_42 (by decide) : In 0 9 x29_2) (by decide)) dX12_blindDay_61 (fun H locs hP hD hS => fr_w (hW_w29.uA tM_55 (In_any v_45)) hP hD (fun w_46 ew_46 hW_w_46 hP hD => ?_))
        refine lv_aload_n hx hb dX12_blindDay_62 rfl (lv_at hl 0 rfl) ?_
        refine lv_iconst (v := 0) hx hb dX12_blindDay_63 (by decide) ?_
        refine lv_iconst (v := 2) hx hb dX12_blindDay_64 (by decide) ?_
        refine lv_iload_n hx hb dX12_blindDay_65 rfl (lv_at hl 2 rfl) ?_
        refine lv_iadd hx hb dX12_blindDay_66 ?_
        refine lv_aload_n hx hb dX12_blindDay_67 rfl (lv_at hl 0 rfl) ?_
        refine gt_X12 hx hb hts hown hK hP 0 (hW_w_46.o tM_0) 82 (by decide) wd_1483 rfl (hW_w_46.fr tM_0 rfl) dX12_blindDay_68 ?_
        refine lv_iload_n hx hb dX12_blindDay_71 rfl (lv_at hl 2 rfl) ?_
        refine va_iald hx hb hK hP 55 0 (hW_w_46.a tM_55) rfl (in_I (R_nle_r (In_of ev_41 (hW_w29.ap tM_2 _) : In 0 10 v_41) i_x29_2 c_42 (by decide) : In 0 9 x29_2) (by decide)) dX12_blindDay_72 ?_
        refine tov (v := v_45) (upd_at (aF_eq (hW_w29.lt tM_55) ew_46)) ?_
        refine lv_lconst (v := 0) hx hb dX12_blindDay_73 (by decide) ?_
        refine kW_i ⟨rfl, rfl⟩ hP hD hS hA (rW_V (As := [.int 0, .int (2 + x29_2), .int v_45, .long 0]) (rest := []) hx hb hml hown hts hK hE hP hD (kl_X12_lane l D cI cJ cZ q w_46 hW_w_46 0 (2 + x29_2) v_45 0 (In_lit (n := 0) (by decide) (by decide) : In 0 282 0) (In_w ((In_add (In_lit (n := 2) (by decide) (by decide) : In 2 2 2) (R_nle_r (In_of ev_41 (hW_w29.ap tM_2 _) : In 0 10 v_41) i_x29_2 c_42 (by decide) : In 0 9 x29_2) (by decide)) : In 2 11 (2 + x29_2)) (by decide) : In 1 282 (2 + x29_2)) (In_of (fI_cg (st_ne ew_46 (by decide))) (by have q0 := (hW_w29.fin tM_0 rfl : In 0 2200 (fI w29 0 62)); have q1 := (R_nle_r (In_of ev_41 (hW_w29.ap tM_2 _) : In 0 10 v_41) i_x29_2 c_42 (by decide) : In 0 9 x29_2); unfold In at q0 q1 ⊢; omega : In 0 2198 (fI w29 0 62))) _) ⟨⟨rfl, rfl⟩, rfl, rfl⟩ sv_X12_536 ⟨(Nat.le_trans (by decide) hR.1), (Nat.le_trans (by decide) hR.2)⟩ 0 12 (hW_w_46.o tM_0) rfl rfl rfl hl.1 rfl (Nat.le_of_ble_eq_true rfl) dX12_blindDay_74) (fun r_48 w_47 H locs hw_w_47 hP hD hS => ?_)
        obtain ⟨hW_w_47, hs_w_47, i_r_48, h_49, h_50, h_51, h_52⟩ := hw_w_47
        have n_h_50 : (fI w_47 0 62).toInt = ((fI w29 0 62) : Int32).toInt + 2 := (by have ee : (fI w_46 0 62).toInt = ((fI w29 0 62) : Int32).toInt := congrArg Int32.toInt (fI_cg (st_ne ew_46 (by decide))); have q := h_50; omega)
        refine lv_pop hx hb dX12_blindDay_77 rfl ?_
        refine lv_iinc (v := (x29_2 + 1)) (lv' := [(2, .int (x29_2 + 1)), (0, .ref (q 0)), (1, .int p1)]) hx hb dX12_blindDay_78 hl (k := 2) rfl (rfl) (by decide) rfl (fun ls hl => ?_)
        refine lv_goto (tgt := 29) hx hb dX12_blindDay_81 (by decide) ?_
        exact ih29 (x29_2 + 1) w_47 _ _ ls (mu_inc hmu29 (R_nle_r (In_of ev_41 (hW_w29.ap tM_2 _) : In 0 10 v_41) i_x29_2 c_42 (by decide) : In 0 9 x29_2) (In_lit (n := 1) (by decide) (by decide) : In 1 1 1) (by decide)) hW_w_47 ((hM_w29.sa ew_46 (by decide)).tr hs_w_47 (by decide)) i_p1 (In_w ((In_add (y := 1) (R_nle_r (In_of ev_41 (hW_w29.ap tM_2 _) : In 0 10 v_41) i_x29_2 c_42 (by decide) : In 0 9 x29_2) (In_lit (n := 1) (by decide) (by decide) : In 1 1 1) (by decide)) : In 1 10 (x29_2 + 1)) (by decide) : In 0 10 (x29_2 + 1)) (by have i0_62 := h_49; unfold In at i0_62; have t11 := t_add (R_nle_r (In_of ev_41 (hW_w29.ap tM_2 _) : In 0 10 v_41) i_x29_2 c_42 (by decide) : In 0 9 x29_2) (In_lit (n := 1) (by decide) (by decide) : In 1 1 1) (by decide); have z1 : (1 : Int32).toInt = 1 := (by decide); have il2 := ((In_add (y := 1) (R_nle_r (In_of ev_41 (hW_w29.ap tM_2 _) : In 0 10 v_41) i_x29_2 c_42 (by decide) : In 0 9 x29_2) (In_lit (n := 1) (by decide) (by decide) : In 1 1 1) (by decide)) : In 1 10 (x29_2 + 1)); unfold In at il2; have im1 := i_p1; unfold In at im1; have iq_x29_2 := (R_nle_r (In_of ev_41 (hW_w29.ap tM_2 _) : In 0 10 v_41) i_x29_2 c_42 (by decide) : In 0 9 x29_2); unfold In at iq_x29_2; omega) (h_52 (LB_cg (aF_cg (st_ne ew_46 (by decide))) (aF_cg (st_ne ew_46 (by decide))) (aF_cg (st_ne ew_46 (by decide))) (aL_cg (st_ne ew_46 (by decide))) (fI_cg (st_ne ew_46 (by decide))) hlb_29) (ok_1 (In_lit (n := 0) (by decide) (by decide) : In 0 241 0) (by decide) (In_w ((In_add (In_lit (n := 2) (by decide) (by decide) : In 2 2 2) (R_nle_r (In_of ev_41 (hW_w29.ap tM_2 _) : In 0 10 v_41) i_x29_2 c_42 (by decide) : In 0 9 x29_2) (by decide)) : In 2 11 (2 + x29_2)) (by decide) : In 2 241 (2 + x29_2)))) (PR_up ((hs_w_47.hA (by decide)).trans (aF_cg (st_ne ew_46 (by decide)))) (by show (fI w29 0 62).toInt.toNat ≤ (fI w_47 0 62).toInt.toNat; have i0_62 := h_49; unfold In at i0_62; have y := n_h_50; omega) hpr_29) hP hD hS (lv_sub hl [1, 2, 0] rfl)
  have J7 : ∀ (N : Nat) (x7_2 : Int32) (w7 : va_W) (H : Heap) (locs : List Loc) (ls : Array Slot), (400 - x7_2.toInt).toNat < N → HT q (TM q cI cJ cZ) w7 → Sm [0, 37, 38, 39, 40, 41, 42, 43, 44, 45, 55] [(0, 62)] w w7 → (In 1 24 p1) → (In 0 400 x7_2) → (fI w7 0 62 = 0) → (LBx w7) → (∀ i : Nat, i < (x7_2 : Int32).toInt.toNat → aF w7 44 i = -1) → va_P D vwCl w7 H → va_D A w7 → va_S A s.heap H locs → lv_has ls 6 [(0, .ref (q 0)), (1, .int p1), (2, .int x7_2)] → W p l e R s m args below meth c H locs 0 0 Q (F0 m 7 ls []) := by
    intro N
    induction N with
    | zero => intro x7_2 w7 H locs ls hmu; exact absurd hmu (Nat.not_lt_zero _)
    | succ N ih7 =>
      intro x7_2 w7 H locs ls hmu7 hW_w7 hM_w7 i_x7_1 i_x7_2 g7_0_62e hlb_7 hfl_7 hP hD hS hl
      refine lv_iload_n hx hb dX12_blindDay_7 rfl (lv_at hl 2 rfl) ?_
      refine lv_sipush (v := 400) hx hb dX12_blindDay_8 (by decide) ?_
      refine lv_icmp_ge (tgt := 27) hx hb dX12_blindDay_11 (by decide) (fun c_53 => ?_) (fun c_53 => ?_)
      · have lb_c_53 : (400 : Int32).toInt ≤ (x7_2 : Int32).toInt := q_le.mp c_53
        have lq_c_53 : (400 : Int32).toInt = 400 := by decide
        refine lv_iconst (v := 0) hx hb dX12_blindDay_27 (by decide) ?_
        refine lv_istore_n (lv' := [(2, .int 0), (0, .ref (q 0)), (1, .int p1)]) hx hb dX12_blindDay_28 rfl hl (by decide) rfl (fun ls hl => ?_)
        exact J29 _ 0 w7 _ _ ls (Nat.lt_succ_self _) hW_w7 hM_w7 i_p1 (In_lit (n := 0) (by decide) (by decide) : In 0 10 0) (by have e0_62 : (fI w7 0 62).toInt = (0 : Int32).toInt := congrArg Int32.toInt g7_0_62e; have z0 : (0 : Int32).toInt = 0 := (by decide); have z0 : (0 : Int32).toInt = 0 := (by decide); have im1 := i_p1; unfold In at im1; have iq_x7_2 := (R_le_r (In_lit (n := 400) (by decide) (by decide) : In 400 400 400) i_x7_2 c_53 (by decide) : In 400 400 x7_2); unfold In at iq_x7_2; omega) hlb_7 (PR_fl (y := x7_2) (by have z := lq_c_53; have y := lb_c_53; omega) hfl_7) hP hD hS (lv_sub hl [1, 2, 0] rfl)
      · have lb_c_53 : ¬ (400 : Int32).toInt ≤ (x7_2 : Int32).toInt := fun h => c_53 (q_le.mpr h)
        have lq_c_53 : (400 : Int32).toInt = 400 := by decide
        refine lv_aload_n hx hb dX12_blindDay_14 rfl (lv_at hl 0 rfl) ?_
        refine gt_X12 hx hb hts hown hK hP 0 (hW_w7.o tM_0) 65 (by decide) wd_1466 rfl (hW_w7.fr tM_0 rfl) dX12_blindDay_15 ?_
        refine lv_iload_n hx hb dX12_blindDay_18 rfl (lv_at hl 2 rfl) ?_
        refine lv_iconst (v := (-1)) hx hb dX12_blindDay_19 (by decide) ?_
        refine va_iast hx hb hK hP hD hS 44 0 (hW_w7.a tM_44) rfl (in_I (R_nle_r (In_lit (n := 400) (by decide) (by decide) : In 400 400 400) i_x7_2 c_53 (by decide) : In 0 399 x7_2) (by decide)) dX12_blindDay_20 (fun H locs hP hD hS => fr_w (hW_w7.uA tM_44 (In_lit (n := (-1)) (by decide) (by decide) : In (-1) 2198 (-1))) hP hD (fun w_54 ew_54 hW_w_54 hP hD => ?_))
        refine lv_iinc (v := (x7_2 + 1)) (lv' := [(2, .int (x7_2 + 1)), (0, .ref (q 0)), (1, .int p1)]) hx hb dX12_blindDay_21 hl (k := 2) rfl (rfl) (by decide) rfl (fun ls hl => ?_)
        refine lv_goto (tgt := 7) hx hb dX12_blindDay_24 (by decide) ?_
        exact ih7 (x7_2 + 1) w_54 _ _ ls (mu_inc hmu7 (R_nle_r (In_lit (n := 400) (by decide) (by decide) : In 400 400 400) i_x7_2 c_53 (by decide) : In 0 399 x7_2) (In_lit (n := 1) (by decide) (by decide) : In 1 1 1) (by decide)) hW_w_54 (hM_w7.sa ew_54 (by decide)) i_p1 (In_w ((In_add (y := 1) (R_nle_r (In_lit (n := 400) (by decide) (by decide) : In 400 400 400) i_x7_2 c_53 (by decide) : In 0 399 x7_2) (In_lit (n := 1) (by decide) (by decide) : In 1 1 1) (by decide)) : In 1 400 (x7_2 + 1)) (by decide) : In 0 400 (x7_2 + 1)) ((fI_cg (st_ne ew_54 (by decide))).trans g7_0_62e) (LB_cg (aF_cg (st_ne ew_54 (by decide))) (aF_cg (st_ne ew_54 (by decide))) (aF_cg (st_ne ew_54 (by decide))) (aL_cg (st_ne ew_54 (by decide))) (fI_cg (st_ne ew_54 (by decide))) hlb_7) (fi44 (R_nle_r (In_lit (n := 400) (by decide) (by decide) : In 400 400 400) i_x7_2 c_53 (by decide) : In 0 399 x7_2) hfl_7 (aF_eq (hW_w7.lt tM_44) ew_54)) hP hD hS (lv_sub hl [1, 2, 0] rfl)
  refine lv_aload_n hx hb dX12_blindDay_0 rfl (lv_at hl 0 rfl) ?_
  refine lv_iconst (v := 0) hx hb dX12_blindDay_1 (by decide) ?_
  refine pt_X12 hx hb hts hown hK hP hD hS 0 (hW_w.o tM_0) 62 (by decide) wd_1463 rfl rfl (ty := .int) (v := .int 0) (by decide +kernel) rfl rfl (hW_w.ll tM_0 (Nat.le_of_ble_eq_true rfl)) dX12_blindDay_2 (fun H locs hP hD hS => fr_w (hW_w.sI tM_0 rfl (In_lit (n := 0) (by decide) (by decide) : In 0 2200 0)) hP hD (fun w_55 ew_55 hW_w_55 hP hD => ?_))
  refine lv_iconst (v := 0) hx hb dX12_blindDay_5 (by decide) ?_
  refine lv_istore_n (lv' := [(2, .int 0), (0, .ref (q 0)), (1, .int p1)]) hx hb dX12_blindDay_6 rfl hl (by decide) rfl (fun ls hl => ?_)
  exact J7 _ 0 w_55 _ _ ls (Nat.lt_succ_self _) hW_w_55 (Sm.rf.sf (hW_w.lt tM_0) ew_55 (by decide)) i_p1 (In_lit (n := 0) (by decide) (by decide) : In 0 400 0) (fI_eq (hW_w.lt tM_0) ew_55 (hW_w.ll tM_0 (Nat.le_of_ble_eq_true rfl))) (LB_0 (fI_eq (hW_w.lt tM_0) ew_55 (hW_w.ll tM_0 (Nat.le_of_ble_eq_true rfl)))) (fun i h => absurd h (by rw [show (0 : Int32).toInt = 0 from by decide]; omega)) hP hD hS (lv_sub hl [1, 2, 0] rfl)
set_option maxRecDepth 100000 in
set_option maxHeartbeats 8000000 in
theorem k_X12_blind (l : Launch) (D : va_G) (cI cJ cZ : ClassId) (q : Nat → Nat) (w : va_W) (hW_w : HT q (TM q cI cJ cZ) w) (hLM : LM w) (hRV : RV w) : Con_i l yX12_blind cX12_blind 3 (some .int) ({ frames := 6, cells := 0, slots := 0, locals := 149 }) D cI cJ cZ eW [.ref (q 0)] w (fun (r : Int32) (w1 : va_W) => HT q (TM q cI cJ cZ) w1 ∧ Sm [0, 26, 27, 28, 29, 30, 31, 32, 33, 34, 35, 36, 37, 38, 39, 40, 41, 42, 43, 44, 45, 46, 55] [(0, 45), (0, 62)] w w1) := by
  refine eQ_i rfl (by decide) (Nat.le_of_ble_eq_true rfl) ⟨rfl, rfl⟩ ?_
  intro p e R s m args below meth c A Q hx hb hml hown hts hK hE hA hR hret hP hD hS ls hl
  have hown : s.vm.findClass RX12 = some m.cls := hown
  have hl : lv_has ls 3 [(0, .ref (q 0))] := hl
  have J33 : ∀ (N : Nat) (x33_1 : Int32) (x33_2 : Int32) (w33 : va_W) (H : Heap) (locs : List Loc) (ls : Array Slot), (25 - x33_2.toInt).toNat < N → HT q (TM q cI cJ cZ) w33 → Sm [0, 26, 27, 28, 29, 30, 31, 32, 33, 34, 35, 36, 37, 38, 39, 40, 41, 42, 43, 44, 45, 46, 55] [(0, 45), (0, 62)] w w33 → (In 1 25 x33_2) → va_P D vwCl w33 H → va_D A w33 → va_S A s.heap H locs → lv_has ls 3 [(0, .ref (q 0)), (1, .int x33_1), (2, .int x33_2)] → W p l e R s m args below meth c H locs 0 0 Q (F0 m 33 ls []) := by
    intro N
    induction N with
    | zero => intro x33_1 x33_2 w33 H locs ls hmu; exact absurd hmu (Nat.not_lt_zero _)
    | succ N ih33 =>
      intro x33_1 x33_2 w33 H locs ls hmu33 hW_w33 hM_w33 i_x33_2 hP hD hS hl
      refine lv_iload_n hx hb dX12_blind_33 rfl (lv_at hl 2 rfl) ?_
      refine lv_bipush (v := 24) hx hb dX12_blind_34 (by decide) ?_
      refine lv_icmp_gt (tgt := 53) hx hb dX12_blind_36 (by decide) (fun c_1 => ?_) (fun c_1 => ?_)
      · refine lv_iload_n hx hb dX12_blind_53 rfl (lv_at hl 1 rfl) ?_
        exact hret _ _ _ _ _ _ hP hD hS dX12_blind_54 ⟨hW_w33, hM_w33⟩
      · refine lv_iload_n hx hb dX12_blind_39 rfl (lv_at hl 1 rfl) ?_
        refine lv_aload_n hx hb dX12_blind_40 rfl (lv_at hl 0 rfl) ?_
        refine lv_iload_n hx hb dX12_blind_41 rfl (lv_at hl 2 rfl) ?_
        refine kW_i ⟨rfl, rfl⟩ hP hD hS hA (rW_V (As := [.int x33_2]) (rest := [.int x33_1]) hx hb hml hown hts hK hE hP hD (k_X12_blindDay l D cI cJ cZ q w33 hW_w33 x33_2 (R_nlt_r (In_lit (n := 24) (by decide) (by decide) : In 24 24 24) i_x33_2 c_1 (by decide) : In 1 24 x33_2) (RV_cg (hM_w33.hA (by decide)) (hM_w33.hA (by decide)) (hM_w33.hA (by decide)) (hM_w33.2 0 12 (by decide) (by decide)) hRV) _) ⟨⟨rfl, rfl⟩, rfl, rfl⟩ sv_X12_550 ⟨(Nat.le_trans (by decide) hR.1), (Nat.le_trans (by decide) hR.2)⟩ 0 12 (hW_w33.o tM_0) rfl rfl rfl hl.1 rfl (Nat.le_of_ble_eq_true rfl) dX12_blind_42) (fun r_3 w_2 H locs hw_w_2 hP hD hS => ?_)
        obtain ⟨hW_w_2, hs_w_2⟩ := hw_w_2
        refine lv_iadd hx hb dX12_blind_45 ?_
        refine lv_topi (fun v_4 ev_4 => ?_)
        refine lv_istore_n (lv' := [(1, .int v_4), (0, .ref (q 0)), (2, .int x33_2)]) hx hb dX12_blind_46 rfl hl (by decide) rfl (fun ls hl => ?_)
        refine lv_iinc (v := (x33_2 + 1)) (lv' := [(2, .int (x33_2 + 1)), (1, .int v_4), (0, .ref (q 0))]) hx hb dX12_blind_47 hl (k := 2) rfl (rfl) (by decide) rfl (fun ls hl => ?_)
        refine lv_goto (tgt := 33) hx hb dX12_blind_50 (by decide) ?_
        exact ih33 v_4 (x33_2 + 1) w_2 _ _ ls (mu_inc hmu33 (R_nlt_r (In_lit (n := 24) (by decide) (by decide) : In 24 24 24) i_x33_2 c_1 (by decide) : In 1 24 x33_2) (In_lit (n := 1) (by decide) (by decide) : In 1 1 1) (by decide)) hW_w_2 (hM_w33.tr hs_w_2 (by decide)) (In_w ((In_add (y := 1) (R_nlt_r (In_lit (n := 24) (by decide) (by decide) : In 24 24 24) i_x33_2 c_1 (by decide) : In 1 24 x33_2) (In_lit (n := 1) (by decide) (by decide) : In 1 1 1) (by decide)) : In 2 25 (x33_2 + 1)) (by decide) : In 1 25 (x33_2 + 1)) hP hD hS (lv_sub hl [2, 1, 0] rfl)
  have J12 : ∀ (N : Nat) (x12_1 : Int32) (x12_2 : Int32) (w12 : va_W) (H : Heap) (locs : List Loc) (ls : Array Slot), (10 - x12_2.toInt).toNat < N → HT q (TM q cI cJ cZ) w12 → Sm [0, 26, 27, 28, 29, 30, 31, 32, 33, 34, 35, 36, 37, 38, 39, 40, 41, 42, 43, 44, 45, 46, 55] [(0, 45), (0, 62)] w w12 → (In 0 0 x12_1) → (In 0 10 x12_2) → va_P D vwCl w12 H → va_D A w12 → va_S A s.heap H locs → lv_has ls 3 [(0, .ref (q 0)), (1, .int x12_1), (2, .int x12_2)] → W p l e R s m args below meth c H locs 0 0 Q (F0 m 12 ls []) := by
    intro N
    induction N with
    | zero => intro x12_1 x12_2 w12 H locs ls hmu; exact absurd hmu (Nat.not_lt_zero _)
    | succ N ih12 =>
      intro x12_1 x12_2 w12 H locs ls hmu12 hW_w12 hM_w12 i_x12_1 i_x12_2 hP hD hS hl
      refine lv_iload_n hx hb dX12_blind_12 rfl (lv_at hl 2 rfl) ?_
      refine lv_bipush (v := 10) hx hb dX12_blind_13 (by decide) ?_
      refine lv_icmp_ge (tgt := 31) hx hb dX12_blind_15 (by decide) (fun c_5 => ?_) (fun c_5 => ?_)
      · refine lv_iconst (v := 1) hx hb dX12_blind_31 (by decide) ?_
        refine lv_istore_n (lv' := [(2, .int 1), (0, .ref (q 0)), (1, .int x12_1)]) hx hb dX12_blind_32 rfl hl (by decide) rfl (fun ls hl => ?_)
        exact J33 _ x12_1 1 w12 _ _ ls (Nat.lt_succ_self _) hW_w12 hM_w12 (In_lit (n := 1) (by decide) (by decide) : In 1 25 1) hP hD hS (lv_sub hl [1, 2, 0] rfl)
      · refine lv_aload_n hx hb dX12_blind_18 rfl (lv_at hl 0 rfl) ?_
        refine gt_X12 hx hb hts hown hK hP 0 (hW_w12.o tM_0) 82 (by decide) wd_1483 rfl (hW_w12.fr tM_0 rfl) dX12_blind_19 ?_
        refine lv_iload_n hx hb dX12_blind_22 rfl (lv_at hl 2 rfl) ?_
        refine lv_iconst (v := 0) hx hb dX12_blind_23 (by decide) ?_
        refine va_iast hx hb hK hP hD hS 55 0 (hW_w12.a tM_55) rfl (in_I (R_nle_r (In_lit (n := 10) (by decide) (by decide) : In 10 10 10) i_x12_2 c_5 (by decide) : In 0 9 x12_2) (by decide)) dX12_blind_24 (fun H locs hP hD hS => fr_w (hW_w12.uA tM_55 (In_lit (n := 0) (by decide) (by decide) : In (-2147483648) 2147483647 0)) hP hD (fun w_6 ew_6 hW_w_6 hP hD => ?_))
        refine lv_iinc (v := (x12_2 + 1)) (lv' := [(2, .int (x12_2 + 1)), (0, .ref (q 0)), (1, .int x12_1)]) hx hb dX12_blind_25 hl (k := 2) rfl (rfl) (by decide) rfl (fun ls hl => ?_)
        refine lv_goto (tgt := 12) hx hb dX12_blind_28 (by decide) ?_
        exact ih12 x12_1 (x12_2 + 1) w_6 _ _ ls (mu_inc hmu12 (R_nle_r (In_lit (n := 10) (by decide) (by decide) : In 10 10 10) i_x12_2 c_5 (by decide) : In 0 9 x12_2) (In_lit (n := 1) (by decide) (by decide) : In 1 1 1) (by decide)) hW_w_6 (hM_w12.sa ew_6 (by decide)) i_x12_1 (In_w ((In_add (y := 1) (R_nle_r (In_lit (n := 10) (by decide) (by decide) : In 10 10 10) i_x12_2 c_5 (by decide) : In 0 9 x12_2) (In_lit (n := 1) (by decide) (by decide) : In 1 1 1) (by decide)) : In 1 10 (x12_2 + 1)) (by decide) : In 0 10 (x12_2 + 1)) hP hD hS (lv_sub hl [1, 2, 0] rfl)
  refine lv_aload_n hx hb dX12_blind_0 rfl (lv_at hl 0 rfl) ?_
  refine kW_v ⟨rfl, rfl⟩ hP hD hS hA (rW_V (As := []) (rest := []) hx hb hml hown hts hK hE hP hD (k_X12_knows l D cI cJ cZ q w hW_w (LM_cg rfl rfl hLM) _) ⟨⟨rfl, rfl⟩, rfl, rfl⟩ sv_X12_471 ⟨(Nat.le_trans (by decide) hR.1), (Nat.le_trans (by decide) hR.2)⟩ 0 12 (hW_w.o tM_0) rfl rfl rfl hl.1 rfl (Nat.le_of_ble_eq_true rfl) dX12_blind_1) (fun w_7 H locs hw_w_7 hP hD hS => ?_)
  obtain ⟨hW_w_7, hs_w_7, h_9⟩ := hw_w_7
  refine lv_aload_n hx hb dX12_blind_4 rfl (lv_at hl 0 rfl) ?_
  refine kW_v ⟨rfl, rfl⟩ hP hD hS hA (rW_V (As := []) (rest := []) hx hb hml hown hts hK hE hP hD (k_X12_arrives l D cI cJ cZ q w_7 hW_w_7 (LM_cg (hs_w_7.hA (by decide)) (hs_w_7.hA (by decide)) hLM) _) ⟨⟨rfl, rfl⟩, rfl, rfl⟩ sv_X12_533 ⟨(Nat.le_trans (by decide) hR.1), (Nat.le_trans (by decide) hR.2)⟩ 0 12 (hW_w_7.o tM_0) rfl rfl rfl hl.1 rfl (Nat.le_of_ble_eq_true rfl) dX12_blind_5) (fun w_10 H locs hw_w_10 hP hD hS => ?_)
  obtain ⟨hW_w_10, hs_w_10⟩ := hw_w_10
  refine lv_iconst (v := 0) hx hb dX12_blind_8 (by decide) ?_
  refine lv_istore_n (lv' := [(1, .int 0), (0, .ref (q 0))]) hx hb dX12_blind_9 rfl hl (by decide) rfl (fun ls hl => ?_)
  refine lv_iconst (v := 0) hx hb dX12_blind_10 (by decide) ?_
  refine lv_istore_n (lv' := [(2, .int 0), (1, .int 0), (0, .ref (q 0))]) hx hb dX12_blind_11 rfl hl (by decide) rfl (fun ls hl => ?_)
  exact J12 _ 0 0 w_10 _ _ ls (Nat.lt_succ_self _) hW_w_10 ((Sm.rf.tr hs_w_7 (by decide)).tr hs_w_10 (by decide)) (In_lit (n := 0) (by decide) (by decide) : In 0 0 0) (In_lit (n := 0) (by decide) (by decide) : In 0 10 0) hP hD hS (lv_sub hl [2, 1, 0] rfl)
