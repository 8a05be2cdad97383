set_option maxRecDepth 100000 in
set_option maxHeartbeats 16000000 in
theorem law_c11 {p : Program} {e : Env} {s : State} {m : MethodId} {below : List Frame} {meth : Method} {c : Code} (l : Launch) {b L : Nat} {xs : Nat → Int32} {A : Nat → Prop} (hAs : ∀ q, A q → s.heap.size ≤ q) (hA : ∀ q, s.heap.size ≤ q → A q) (C0 : lw_At p s m meth c b L xs) {D : va_G} {cI cJ cZ : ClassId} {qx qm : Nat → Nat} (hK : va_K D vwCl (tyK cI cJ cZ) s) (hE : eW s) {i : Int32} (hi : ∀ j : Int32, In 0 5 j → vp_in (i + j) L) {bnd : Int} (hbd : bnd + 10560 ≤ 2147483647) {wx wm : va_W} (hIX : IX qx cI cJ cZ bnd wx) (hIM : IM qm cI cJ cZ wm) (hT : TW bnd wx wm) {H : Heap} {locs : List Loc} {ls : Array Slot} {cells slots : Nat} (hcs : cells ≤ 600000 ∧ slots ≤ 7302250) (hP : va_P D vwCl (wx ++ wm) H) (hD : va_D A (wx ++ wm)) (hS : va_S A s.heap H locs) (hl : lv_has ls 4 [(3, .int i), (2, .ref (qm 0)), (1, .ref (qx 0)), (0, .ref b)]) (kk : ∀ (qx1 : Nat → Nat) (wx1 wm1 : va_W) (H1 : Heap) (locs1 : List Loc) (ls1 : Array Slot), qx1 0 = qx 0 → IX qx1 cI cJ cZ (bnd + 10560) wx1 → IM qm cI cJ cZ wm1 → TW (bnd + 10560) wx1 wm1 → va_P D vwCl (wx1 ++ wm1) H1 → va_D A (wx1 ++ wm1) → va_S A s.heap H1 locs1 → lv_has ls1 4 [(3, .int i), (2, .ref (qm 0)), (1, .ref (qx 0)), (0, .ref b)] → W p l e room_1 s m #[Value.ref b] below meth c H1 locs1 cells slots (lw_Z below #[Value.ref b] s) (F0 m 1098 ls1 [])) : W p l e room_1 s m #[Value.ref b] below meth c H locs cells slots (lw_Z below #[Value.ref b] s) (F0 m 575 ls []) := by
  obtain ⟨hx, hb, hr, hml, hown0, hts0, hXs, hbl, hlocks, hgv⟩ := id C0
  have hown : s.vm.findClass RL = some m.cls := hown0
  have hts : ∀ w ∈ BIG, w.before #[Value.ref b] s = true := fun w h => hts0 w (big_lw w h)
  have hbA : ¬ A b := fun h => absurd hbl (Nat.not_lt.mpr (hAs b h))
  obtain ⟨⟨bp, hW⟩, hLD, hSB⟩ := hIX
  obtain ⟨hV, hLM, hLY, hRV⟩ := hIM
  obtain ⟨bq, OLq, La, hQG⟩ := hT.2.2.2
  have hQ := hQG.1
  have hR := hQ.1
  refine lv_aload_n hx hb dL_law_575 rfl (lv_at hl 2 rfl) ?_
  refine lv_aload_n hx hb dL_law_576 rfl (lv_at hl 3 rfl) ?_
  refine lv_iload_n hx hb dL_law_577 rfl (lv_at hl 0 rfl) ?_
  refine lv_iconst (v := 1) hx hb dL_law_578 (by decide) ?_
  refine lv_iadd hx hb dL_law_579 ?_
  refine va_sld hx hb hXs hbl hbA hS (hi 1 (In_lit (n := 1) (by decide) (by decide))) dL_law_580 ?_
  refine kL_i (wc := wx) (wr := wm) ⟨rfl, rfl⟩ hP hD hS hA (rL_V (As := [.int (xs (i + 1).toNatClampNeg)]) (rest := []) hx hb hml hown hts hK hE hP hD (e_X11_all l D cI cJ cZ qx bp wx hW (xs (i + 1).toNatClampNeg) hLD _) ⟨⟨rfl, rfl⟩, rfl, rfl⟩ sv_L_64 ⟨(Nat.le_of_ble_eq_true rfl), (Nat.le_of_ble_eq_true rfl)⟩ hcs 0 11 (hW.o tX_0) rfl rfl rfl hl.1 rfl (Nat.le_of_ble_eq_true rfl) dL_law_581) (fun rx wx1 H locs hwx hP hD hS => ?_)
  refine lv_pop hx hb dL_law_584 rfl ?_
  refine lv_aload_n hx hb dL_law_585 rfl (lv_at hl 1 rfl) ?_
  refine lv_aload_n hx hb dL_law_586 rfl (lv_at hl 3 rfl) ?_
  refine lv_iload_n hx hb dL_law_587 rfl (lv_at hl 0 rfl) ?_
  refine lv_iconst (v := 1) hx hb dL_law_588 (by decide) ?_
  refine lv_iadd hx hb dL_law_589 ?_
  refine va_sld hx hb hXs hbl hbA hS (hi 1 (In_lit (n := 1) (by decide) (by decide))) dL_law_590 ?_
  refine kL_i (wc := wm) (wr := wx1) ⟨rfl, rfl⟩ hP hD hS hA (rL_V (As := [.int (xs (i + 1).toNatClampNeg)]) (rest := []) hx hb hml hown hts hK hE hP hD (e_X12_all l D cI cJ cZ qm wm hV (xs (i + 1).toNatClampNeg) hLM _) ⟨⟨rfl, rfl⟩, rfl, rfl⟩ sv_L_67 ⟨(Nat.le_of_ble_eq_true rfl), (Nat.le_of_ble_eq_true rfl)⟩ hcs 0 12 (hV.o tM_0) rfl rfl rfl hl.1 rfl (Nat.le_of_ble_eq_true rfl) dL_law_591) (fun rm wm1 H locs hwm hP hD hS => ?_)
  refine lv_pop hx hb dL_law_594 rfl ?_
  refine lv_goto (tgt := 1098) hx hb dL_law_595 (by decide) ?_
  have hLD1 : LD wx1 := (LD_cg ((hwx.2.1).hA (by decide)) ((hwx.2.1).hA (by decide)) hLD)
  have hSB1 : SB (bnd + 10560) wx1 := (SB_w (SB_cg ((hwx.2.1).hA (by decide)) ((hwx.2.1).hA (by decide)) ((hwx.2.1).gI (by decide)) hSB) (by omega))
  have hIM1 : IM qm cI cJ cZ wm1 := ⟨hwm.1, (LM_cg ((hwm.2.1).hA (by decide)) ((hwm.2.1).hA (by decide)) hLM), (LY_cg ((hwm.2.1).hA (by decide)) ((hwm.2.1).hA (by decide)) ((hwm.2.1).2 0 37 (by decide) (by decide)) hLY), (RV_cg ((hwm.2.1).hA (by decide)) ((hwm.2.1).hA (by decide)) ((hwm.2.1).hA (by decide)) ((hwm.2.1).2 0 12 (by decide) (by decide)) hRV)⟩
  have hT1 : TW (bnd + 10560) wx1 wm1 := ⟨(((hwx.2.1).gI (by decide)).trans (hT.1.trans ((hwm.2.1).2 0 1 (by decide) (by decide)).symm)), ((vw_sm ((hwx.2.1).1 32 (by decide))).trans (hT.2.1.trans (vw_sm ((hwm.2.1).1 1 (by decide))).symm)), (hT.2.2.1.cg (vw_sm ((hwx.2.1).1 33 (by decide)))), ⟨bq, OLq, La, RQ.frG hQ (all2 (tyX hW) hR hwx.2.2 hwm.2.2).2 ((hwx.2.1).Fr hW hwx.1 intsX_ok intsX_ok) (by decide) ((hwm.2.1).Fr hV hwm.1 intsM_ok intsM_ok) (by decide) ((hQ.2.2.look hR.2.2.1.2.2.1 (allLk (tyX hW) hR hwx.2.2) (by omega)).le (by omega)), (GV.fr hQG.2 ((hwx.2.1).Fr hW hwx.1 intsX_ok intsX_ok) (by decide) ((hwm.2.1).Fr hV hwm.1 intsM_ok intsM_ok) (by decide))⟩⟩
  exact kk qx wx1 wm1 H locs ls rfl ⟨⟨bp, hwx.1⟩, hLD1, hSB1⟩ hIM1 hT1 hP hD hS hl
set_option maxRecDepth 100000 in
set_option maxHeartbeats 16000000 in
theorem law_c12 {p : Program} {e : Env} {s : State} {m : MethodId} {below : List Frame} {meth : Method} {c : Code} (l : Launch) {b L : Nat} {xs : Nat → Int32} {A : Nat → Prop} (hAs : ∀ q, A q → s.heap.size ≤ q) (hA : ∀ q, s.heap.size ≤ q → A q) (C0 : lw_At p s m meth c b L xs) {D : va_G} {cI cJ cZ : ClassId} {qx qm : Nat → Nat} (hK : va_K D vwCl (tyK cI cJ cZ) s) (hE : eW s) {i : Int32} (hi : ∀ j : Int32, In 0 5 j → vp_in (i + j) L) {bnd : Int} (hbd : bnd + 10560 ≤ 2147483647) {wx wm : va_W} (hIX : IX qx cI cJ cZ bnd wx) (hIM : IM qm cI cJ cZ wm) (hT : TW bnd wx wm) {H : Heap} {locs : List Loc} {ls : Array Slot} {cells slots : Nat} (hcs : cells ≤ 600000 ∧ slots ≤ 7302250) (hP : va_P D vwCl (wx ++ wm) H) (hD : va_D A (wx ++ wm)) (hS : va_S A s.heap H locs) (hl : lv_has ls 4 [(3, .int i), (2, .ref (qm 0)), (1, .ref (qx 0)), (0, .ref b)]) (kk : ∀ (qx1 : Nat → Nat) (wx1 wm1 : va_W) (H1 : Heap) (locs1 : List Loc) (ls1 : Array Slot), qx1 0 = qx 0 → IX qx1 cI cJ cZ (bnd + 10560) wx1 → IM qm cI cJ cZ wm1 → TW (bnd + 10560) wx1 wm1 → va_P D vwCl (wx1 ++ wm1) H1 → va_D A (wx1 ++ wm1) → va_S A s.heap H1 locs1 → lv_has ls1 4 [(3, .int i), (2, .ref (qm 0)), (1, .ref (qx 0)), (0, .ref b)] → W p l e room_1 s m #[Value.ref b] below meth c H1 locs1 cells slots (lw_Z below #[Value.ref b] s) (F0 m 1098 ls1 [])) : W p l e room_1 s m #[Value.ref b] below meth c H locs cells slots (lw_Z below #[Value.ref b] s) (F0 m 598 ls []) := by
  obtain ⟨hx, hb, hr, hml, hown0, hts0, hXs, hbl, hlocks, hgv⟩ := id C0
  have hown : s.vm.findClass RL = some m.cls := hown0
  have hts : ∀ w ∈ BIG, w.before #[Value.ref b] s = true := fun w h => hts0 w (big_lw w h)
  have hbA : ¬ A b := fun h => absurd hbl (Nat.not_lt.mpr (hAs b h))
  obtain ⟨⟨bp, hW⟩, hLD, hSB⟩ := hIX
  obtain ⟨hV, hLM, hLY, hRV⟩ := hIM
  obtain ⟨bq, OLq, La, hQG⟩ := hT.2.2.2
  have hQ := hQG.1
  have hR := hQ.1
  refine lv_aload_n hx hb dL_law_598 rfl (lv_at hl 2 rfl) ?_
  refine lv_aload_n hx hb dL_law_599 rfl (lv_at hl 3 rfl) ?_
  refine lv_iload_n hx hb dL_law_600 rfl (lv_at hl 0 rfl) ?_
  refine lv_iconst (v := 1) hx hb dL_law_601 (by decide) ?_
  refine lv_iadd hx hb dL_law_602 ?_
  refine va_sld hx hb hXs hbl hbA hS (hi 1 (In_lit (n := 1) (by decide) (by decide))) dL_law_603 ?_
  refine kL_i (wc := wx) (wr := wm) ⟨rfl, rfl⟩ hP hD hS hA (rL_V (As := [.int (xs (i + 1).toNatClampNeg)]) (rest := []) hx hb hml hown hts hK hE hP hD (e_X11_child l D cI cJ cZ qx bp wx hW (xs (i + 1).toNatClampNeg) hLD _) ⟨⟨rfl, rfl⟩, rfl, rfl⟩ sv_L_68 ⟨(Nat.le_of_ble_eq_true rfl), (Nat.le_of_ble_eq_true rfl)⟩ hcs 0 11 (hW.o tX_0) rfl rfl rfl hl.1 rfl (Nat.le_of_ble_eq_true rfl) dL_law_604) (fun rx wx1 H locs hwx hP hD hS => ?_)
  refine lv_pop hx hb dL_law_607 rfl ?_
  refine lv_aload_n hx hb dL_law_608 rfl (lv_at hl 1 rfl) ?_
  refine lv_aload_n hx hb dL_law_609 rfl (lv_at hl 3 rfl) ?_
  refine lv_iload_n hx hb dL_law_610 rfl (lv_at hl 0 rfl) ?_
  refine lv_iconst (v := 1) hx hb dL_law_611 (by decide) ?_
  refine lv_iadd hx hb dL_law_612 ?_
  refine va_sld hx hb hXs hbl hbA hS (hi 1 (In_lit (n := 1) (by decide) (by decide))) dL_law_613 ?_
  refine kL_i (wc := wm) (wr := wx1) ⟨rfl, rfl⟩ hP hD hS hA (rL_V (As := [.int (xs (i + 1).toNatClampNeg)]) (rest := []) hx hb hml hown hts hK hE hP hD (e_X12_child l D cI cJ cZ qm wm hV (xs (i + 1).toNatClampNeg) hLM _) ⟨⟨rfl, rfl⟩, rfl, rfl⟩ sv_L_71 ⟨(Nat.le_of_ble_eq_true rfl), (Nat.le_of_ble_eq_true rfl)⟩ hcs 0 12 (hV.o tM_0) rfl rfl rfl hl.1 rfl (Nat.le_of_ble_eq_true rfl) dL_law_614) (fun rm wm1 H locs hwm hP hD hS => ?_)
  refine lv_pop hx hb dL_law_617 rfl ?_
  refine lv_goto (tgt := 1098) hx hb dL_law_618 (by decide) ?_
  have hLD1 : LD wx1 := (LD_cg ((hwx.2.1).hA (by decide)) ((hwx.2.1).hA (by decide)) hLD)
  have hSB1 : SB (bnd + 10560) wx1 := (SB_w (SB_cg ((hwx.2.1).hA (by decide)) ((hwx.2.1).hA (by decide)) ((hwx.2.1).gI (by decide)) hSB) (by omega))
  have hIM1 : IM qm cI cJ cZ wm1 := ⟨hwm.1, (LM_cg ((hwm.2.1).hA (by decide)) ((hwm.2.1).hA (by decide)) hLM), (LY_cg ((hwm.2.1).hA (by decide)) ((hwm.2.1).hA (by decide)) ((hwm.2.1).2 0 37 (by decide) (by decide)) hLY), (RV_cg ((hwm.2.1).hA (by decide)) ((hwm.2.1).hA (by decide)) ((hwm.2.1).hA (by decide)) ((hwm.2.1).2 0 12 (by decide) (by decide)) hRV)⟩
  have hT1 : TW (bnd + 10560) wx1 wm1 := ⟨(((hwx.2.1).gI (by decide)).trans (hT.1.trans ((hwm.2.1).2 0 1 (by decide) (by decide)).symm)), ((vw_sm ((hwx.2.1).1 32 (by decide))).trans (hT.2.1.trans (vw_sm ((hwm.2.1).1 1 (by decide))).symm)), (hT.2.2.1.cg (vw_sm ((hwx.2.1).1 33 (by decide)))), ⟨bq, OLq, La, RQ.frG hQ (child2 (tyX hW) hR hwx.2.2.2 hwm.2.2.2).2 ((hwx.2.1).Fr hW hwx.1 intsX_ok intsX_ok) (by decide) ((hwm.2.1).Fr hV hwm.1 intsM_ok intsM_ok) (by decide) ((hQ.2.2.look hR.2.2.1.2.2.1 (childLk (tyX hW) hR hwx.2.2.2) (by omega)).le (by omega)), (GV.fr hQG.2 ((hwx.2.1).Fr hW hwx.1 intsX_ok intsX_ok) (by decide) ((hwm.2.1).Fr hV hwm.1 intsM_ok intsM_ok) (by decide))⟩⟩
  exact kk qx wx1 wm1 H locs ls rfl ⟨⟨bp, hwx.1⟩, hLD1, hSB1⟩ hIM1 hT1 hP hD hS hl
set_option maxRecDepth 100000 in
set_option maxHeartbeats 16000000 in
theorem law_c13 {p : Program} {e : Env} {s : State} {m : MethodId} {below : List Frame} {meth : Method} {c : Code} (l : Launch) {b L : Nat} {xs : Nat → Int32} {A : Nat → Prop} (hAs : ∀ q, A q → s.heap.size ≤ q) (hA : ∀ q, s.heap.size ≤ q → A q) (C0 : lw_At p s m meth c b L xs) {D : va_G} {cI cJ cZ : ClassId} {qx qm : Nat → Nat} (hK : va_K D vwCl (tyK cI cJ cZ) s) (hE : eW s) {i : Int32} (hi : ∀ j : Int32, In 0 5 j → vp_in (i + j) L) {bnd : Int} (hbd : bnd + 10560 ≤ 2147483647) {wx wm : va_W} (hIX : IX qx cI cJ cZ bnd wx) (hIM : IM qm cI cJ cZ wm) (hT : TW bnd wx wm) {H : Heap} {locs : List Loc} {ls : Array Slot} {cells slots : Nat} (hcs : cells ≤ 600000 ∧ slots ≤ 7302250) (hP : va_P D vwCl (wx ++ wm) H) (hD : va_D A (wx ++ wm)) (hS : va_S A s.heap H locs) (hl : lv_has ls 4 [(3, .int i), (2, .ref (qm 0)), (1, .ref (qx 0)), (0, .ref b)]) (kk : ∀ (qx1 : Nat → Nat) (wx1 wm1 : va_W) (H1 : Heap) (locs1 : List Loc) (ls1 : Array Slot), qx1 0 = qx 0 → IX qx1 cI cJ cZ (bnd + 10560) wx1 → IM qm cI cJ cZ wm1 → TW (bnd + 10560) wx1 wm1 → va_P D vwCl (wx1 ++ wm1) H1 → va_D A (wx1 ++ wm1) → va_S A s.heap H1 locs1 → lv_has ls1 4 [(3, .int i), (2, .ref (qm 0)), (1, .ref (qx 0)), (0, .ref b)] → W p l e room_1 s m #[Value.ref b] below meth c H1 locs1 cells slots (lw_Z below #[Value.ref b] s) (F0 m 1098 ls1 [])) : W p l e room_1 s m #[Value.ref b] below meth c H locs cells slots (lw_Z below #[Value.ref b] s) (F0 m 621 ls []) := by
  obtain ⟨hx, hb, hr, hml, hown0, hts0, hXs, hbl, hlocks, hgv⟩ := id C0
  have hown : s.vm.findClass RL = some m.cls := hown0
  have hts : ∀ w ∈ BIG, w.before #[Value.ref b] s = true := fun w h => hts0 w (big_lw w h)
  have hbA : ¬ A b := fun h => absurd hbl (Nat.not_lt.mpr (hAs b h))
  obtain ⟨⟨bp, hW⟩, hLD, hSB⟩ := hIX
  obtain ⟨hV, hLM, hLY, hRV⟩ := hIM
  obtain ⟨bq, OLq, La, hQG⟩ := hT.2.2.2
  have hQ := hQG.1
  have hR := hQ.1
  refine lv_aload_n hx hb dL_law_621 rfl (lv_at hl 2 rfl) ?_
  refine lv_aload_n hx hb dL_law_622 rfl (lv_at hl 3 rfl) ?_
  refine lv_iload_n hx hb dL_law_623 rfl (lv_at hl 0 rfl) ?_
  refine lv_iconst (v := 1) hx hb dL_law_624 (by decide) ?_
  refine lv_iadd hx hb dL_law_625 ?_
  refine va_sld hx hb hXs hbl hbA hS (hi 1 (In_lit (n := 1) (by decide) (by decide))) dL_law_626 ?_
  refine lv_aload_n hx hb dL_law_627 rfl (lv_at hl 3 rfl) ?_
  refine lv_iload_n hx hb dL_law_628 rfl (lv_at hl 0 rfl) ?_
  refine lv_iconst (v := 2) hx hb dL_law_629 (by decide) ?_
  refine lv_iadd hx hb dL_law_630 ?_
  refine va_sld hx hb hXs hbl hbA hS (hi 2 (In_lit (n := 2) (by decide) (by decide))) dL_law_631 ?_
  refine kL_i (wc := wx) (wr := wm) ⟨rfl, rfl⟩ hP hD hS hA (rL_V (As := [.int (xs (i + 1).toNatClampNeg), .int (xs (i + 2).toNatClampNeg)]) (rest := []) hx hb hml hown hts hK hE hP hD (e_X11_of l D cI cJ cZ qx bp wx hW (xs (i + 1).toNatClampNeg) (xs (i + 2).toNatClampNeg) hLD _) ⟨⟨rfl, rfl⟩, rfl, rfl⟩ sv_L_72 ⟨(Nat.le_of_ble_eq_true rfl), (Nat.le_of_ble_eq_true rfl)⟩ hcs 0 11 (hW.o tX_0) rfl rfl rfl hl.1 rfl (Nat.le_of_ble_eq_true rfl) dL_law_632) (fun rx wx1 H locs hwx hP hD hS => ?_)
  refine lv_pop hx hb dL_law_635 rfl ?_
  refine lv_aload_n hx hb dL_law_636 rfl (lv_at hl 1 rfl) ?_
  refine lv_aload_n hx hb dL_law_637 rfl (lv_at hl 3 rfl) ?_
  refine lv_iload_n hx hb dL_law_638 rfl (lv_at hl 0 rfl) ?_
  refine lv_iconst (v := 1) hx hb dL_law_639 (by decide) ?_
  refine lv_iadd hx hb dL_law_640 ?_
  refine va_sld hx hb hXs hbl hbA hS (hi 1 (In_lit (n := 1) (by decide) (by decide))) dL_law_641 ?_
  refine lv_aload_n hx hb dL_law_642 rfl (lv_at hl 3 rfl) ?_
  refine lv_iload_n hx hb dL_law_643 rfl (lv_at hl 0 rfl) ?_
  refine lv_iconst (v := 2) hx hb dL_law_644 (by decide) ?_
  refine lv_iadd hx hb dL_law_645 ?_
  refine va_sld hx hb hXs hbl hbA hS (hi 2 (In_lit (n := 2) (by decide) (by decide))) dL_law_646 ?_
  refine kL_i (wc := wm) (wr := wx1) ⟨rfl, rfl⟩ hP hD hS hA (rL_V (As := [.int (xs (i + 1).toNatClampNeg), .int (xs (i + 2).toNatClampNeg)]) (rest := []) hx hb hml hown hts hK hE hP hD (e_X12_of l D cI cJ cZ qm wm hV (xs (i + 1).toNatClampNeg) (xs (i + 2).toNatClampNeg) hLM hRV _) ⟨⟨rfl, rfl⟩, rfl, rfl⟩ sv_L_75 ⟨(Nat.le_of_ble_eq_true rfl), (Nat.le_of_ble_eq_true rfl)⟩ hcs 0 12 (hV.o tM_0) rfl rfl rfl hl.1 rfl (Nat.le_of_ble_eq_true rfl) dL_law_647) (fun rm wm1 H locs hwm hP hD hS => ?_)
  refine lv_pop hx hb dL_law_650 rfl ?_
  refine lv_goto (tgt := 1098) hx hb dL_law_651 (by decide) ?_
  have hLD1 : LD wx1 := (LD_cg ((hwx.2.1).hA (by decide)) ((hwx.2.1).hA (by decide)) hLD)
  have hSB1 : SB (bnd + 10560) wx1 := (SB_w (SB_cg ((hwx.2.1).hA (by decide)) ((hwx.2.1).hA (by decide)) ((hwx.2.1).gI (by decide)) hSB) (by omega))
  have hIM1 : IM qm cI cJ cZ wm1 := ⟨hwm.1, (LM_cg ((hwm.2.1).hA (by decide)) ((hwm.2.1).hA (by decide)) hLM), (LY_cg ((hwm.2.1).hA (by decide)) ((hwm.2.1).hA (by decide)) ((hwm.2.1).2 0 37 (by decide) (by decide)) hLY), (RV_cg ((hwm.2.1).hA (by decide)) ((hwm.2.1).hA (by decide)) ((hwm.2.1).hA (by decide)) ((hwm.2.1).2 0 12 (by decide) (by decide)) hRV)⟩
  have hT1 : TW (bnd + 10560) wx1 wm1 := ⟨(((hwx.2.1).gI (by decide)).trans (hT.1.trans ((hwm.2.1).2 0 1 (by decide) (by decide)).symm)), ((vw_sm ((hwx.2.1).1 32 (by decide))).trans (hT.2.1.trans (vw_sm ((hwm.2.1).1 1 (by decide))).symm)), (hT.2.2.1.cg (vw_sm ((hwx.2.1).1 33 (by decide)))), ⟨bq, OLq, La, RQ.frW hQ ((hwx.2.1).Fr hW hwx.1 intsX_ok intsX_ok) (by decide) (ofKV (tyX hW) hR hwx.2.2) ((hwm.2.1).Fr hV hwm.1 intsM_ok intsM_ok) (by decide) ((ofWG (tyX hW) (by omega) hQ hwx.2.2).le (by omega)), (GV.fr hQG.2 ((hwx.2.1).Fr hW hwx.1 intsX_ok intsX_ok) (by decide) ((hwm.2.1).Fr hV hwm.1 intsM_ok intsM_ok) (by decide))⟩⟩
  exact kk qx wx1 wm1 H locs ls rfl ⟨⟨bp, hwx.1⟩, hLD1, hSB1⟩ hIM1 hT1 hP hD hS hl
set_option maxRecDepth 100000 in
set_option maxHeartbeats 16000000 in
theorem law_c14 {p : Program} {e : Env} {s : State} {m : MethodId} {below : List Frame} {meth : Method} {c : Code} (l : Launch) {b L : Nat} {xs : Nat → Int32} {A : Nat → Prop} (hAs : ∀ q, A q → s.heap.size ≤ q) (hA : ∀ q, s.heap.size ≤ q → A q) (C0 : lw_At p s m meth c b L xs) {D : va_G} {cI cJ cZ : ClassId} {qx qm : Nat → Nat} (hK : va_K D vwCl (tyK cI cJ cZ) s) (hE : eW s) {i : Int32} (hi : ∀ j : Int32, In 0 5 j → vp_in (i + j) L) {bnd : Int} (hbd : bnd + 10560 ≤ 2147483647) {wx wm : va_W} (hIX : IX qx cI cJ cZ bnd wx) (hIM : IM qm cI cJ cZ wm) (hT : TW bnd wx wm) {H : Heap} {locs : List Loc} {ls : Array Slot} {cells slots : Nat} (hcs : cells ≤ 600000 ∧ slots ≤ 7302250) (hP : va_P D vwCl (wx ++ wm) H) (hD : va_D A (wx ++ wm)) (hS : va_S A s.heap H locs) (hl : lv_has ls 4 [(3, .int i), (2, .ref (qm 0)), (1, .ref (qx 0)), (0, .ref b)]) (kk : ∀ (qx1 : Nat → Nat) (wx1 wm1 : va_W) (H1 : Heap) (locs1 : List Loc) (ls1 : Array Slot), qx1 0 = qx 0 → IX qx1 cI cJ cZ (bnd + 10560) wx1 → IM qm cI cJ cZ wm1 → TW (bnd + 10560) wx1 wm1 → va_P D vwCl (wx1 ++ wm1) H1 → va_D A (wx1 ++ wm1) → va_S A s.heap H1 locs1 → lv_has ls1 4 [(3, .int i), (2, .ref (qm 0)), (1, .ref (qx 0)), (0, .ref b)] → W p l e room_1 s m #[Value.ref b] below meth c H1 locs1 cells slots (lw_Z below #[Value.ref b] s) (F0 m 1098 ls1 [])) : W p l e room_1 s m #[Value.ref b] below meth c H locs cells slots (lw_Z below #[Value.ref b] s) (F0 m 654 ls []) := by
  obtain ⟨hx, hb, hr, hml, hown0, hts0, hXs, hbl, hlocks, hgv⟩ := id C0
  have hown : s.vm.findClass RL = some m.cls := hown0
  have hts : ∀ w ∈ BIG, w.before #[Value.ref b] s = true := fun w h => hts0 w (big_lw w h)
  have hbA : ¬ A b := fun h => absurd hbl (Nat.not_lt.mpr (hAs b h))
  obtain ⟨⟨bp, hW⟩, hLD, hSB⟩ := hIX
  obtain ⟨hV, hLM, hLY, hRV⟩ := hIM
  obtain ⟨bq, OLq, La, hQG⟩ := hT.2.2.2
  have hQ := hQG.1
  have hR := hQ.1
  refine lv_aload_n hx hb dL_law_654 rfl (lv_at hl 2 rfl) ?_
  refine lv_aload_n hx hb dL_law_655 rfl (lv_at hl 3 rfl) ?_
  refine lv_iload_n hx hb dL_law_656 rfl (lv_at hl 0 rfl) ?_
  refine lv_iconst (v := 1) hx hb dL_law_657 (by decide) ?_
  refine lv_iadd hx hb dL_law_658 ?_
  refine va_sld hx hb hXs hbl hbA hS (hi 1 (In_lit (n := 1) (by decide) (by decide))) dL_law_659 ?_
  refine lv_aload_n hx hb dL_law_660 rfl (lv_at hl 3 rfl) ?_
  refine lv_iload_n hx hb dL_law_661 rfl (lv_at hl 0 rfl) ?_
  refine lv_iconst (v := 2) hx hb dL_law_662 (by decide) ?_
  refine lv_iadd hx hb dL_law_663 ?_
  refine va_sld hx hb hXs hbl hbA hS (hi 2 (In_lit (n := 2) (by decide) (by decide))) dL_law_664 ?_
  refine lv_aload_n hx hb dL_law_665 rfl (lv_at hl 3 rfl) ?_
  refine lv_iload_n hx hb dL_law_666 rfl (lv_at hl 0 rfl) ?_
  refine lv_iconst (v := 3) hx hb dL_law_667 (by decide) ?_
  refine lv_iadd hx hb dL_law_668 ?_
  refine va_sld hx hb hXs hbl hbA hS (hi 3 (In_lit (n := 3) (by decide) (by decide))) dL_law_669 ?_
  refine kL_i (wc := wx) (wr := wm) ⟨rfl, rfl⟩ hP hD hS hA (rL_V (As := [.int (xs (i + 1).toNatClampNeg), .int (xs (i + 2).toNatClampNeg), .int (xs (i + 3).toNatClampNeg)]) (rest := []) hx hb hml hown hts hK hE hP hD (e_X11_wish l D cI cJ cZ qx bp wx hW (xs (i + 1).toNatClampNeg) (xs (i + 2).toNatClampNeg) (xs (i + 3).toNatClampNeg) hLD _) ⟨⟨rfl, rfl⟩, rfl, rfl⟩ sv_L_76 ⟨(Nat.le_of_ble_eq_true rfl), (Nat.le_of_ble_eq_true rfl)⟩ hcs 0 11 (hW.o tX_0) rfl rfl rfl hl.1 rfl (Nat.le_of_ble_eq_true rfl) dL_law_670) (fun rx wx1 H locs hwx hP hD hS => ?_)
  refine lv_pop hx hb dL_law_673 rfl ?_
  refine lv_aload_n hx hb dL_law_674 rfl (lv_at hl 1 rfl) ?_
  refine lv_aload_n hx hb dL_law_675 rfl (lv_at hl 3 rfl) ?_
  refine lv_iload_n hx hb dL_law_676 rfl (lv_at hl 0 rfl) ?_
  refine lv_iconst (v := 1) hx hb dL_law_677 (by decide) ?_
  refine lv_iadd hx hb dL_law_678 ?_
  refine va_sld hx hb hXs hbl hbA hS (hi 1 (In_lit (n := 1) (by decide) (by decide))) dL_law_679 ?_
  refine lv_aload_n hx hb dL_law_680 rfl (lv_at hl 3 rfl) ?_
  refine lv_iload_n hx hb dL_law_681 rfl (lv_at hl 0 rfl) ?_
  refine lv_iconst (v := 2) hx hb dL_law_682 (by decide) ?_
  refine lv_iadd hx hb dL_law_683 ?_
  refine va_sld hx hb hXs hbl hbA hS (hi 2 (In_lit (n := 2) (by decide) (by decide))) dL_law_684 ?_
  refine lv_aload_n hx hb dL_law_685 rfl (lv_at hl 3 rfl) ?_
  refine lv_iload_n hx hb dL_law_686 rfl (lv_at hl 0 rfl) ?_
  refine lv_iconst (v := 3) hx hb dL_law_687 (by decide) ?_
  refine lv_iadd hx hb dL_law_688 ?_
  refine va_sld hx hb hXs hbl hbA hS (hi 3 (In_lit (n := 3) (by decide) (by decide))) dL_law_689 ?_
  refine kL_i (wc := wm) (wr := wx1) ⟨rfl, rfl⟩ hP hD hS hA (rL_V (As := [.int (xs (i + 1).toNatClampNeg), .int (xs (i + 2).toNatClampNeg), .int (xs (i + 3).toNatClampNeg)]) (rest := []) hx hb hml hown hts hK hE hP hD (e_X12_wish l D cI cJ cZ qm wm hV (xs (i + 1).toNatClampNeg) (xs (i + 2).toNatClampNeg) (xs (i + 3).toNatClampNeg) hLM _) ⟨⟨rfl, rfl⟩, rfl, rfl⟩ sv_L_79 ⟨(Nat.le_of_ble_eq_true rfl), (Nat.le_of_ble_eq_true rfl)⟩ hcs 0 12 (hV.o tM_0) rfl rfl rfl hl.1 rfl (Nat.le_of_ble_eq_true rfl) dL_law_690) (fun rm wm1 H locs hwm hP hD hS => ?_)
  refine lv_pop hx hb dL_law_693 rfl ?_
  refine lv_goto (tgt := 1098) hx hb dL_law_694 (by decide) ?_
  have hLD1 : LD wx1 := (LD_cg ((hwx.2.1).hA (by decide)) ((hwx.2.1).hA (by decide)) hLD)
  have hSB1 : SB (bnd + 10560) wx1 := (SB_w (SB_cg ((hwx.2.1).hA (by decide)) ((hwx.2.1).hA (by decide)) ((hwx.2.1).gI (by decide)) hSB) (by omega))
  have hIM1 : IM qm cI cJ cZ wm1 := ⟨hwm.1, (LM_cg ((hwm.2.1).hA (by decide)) ((hwm.2.1).hA (by decide)) hLM), (LY_cg ((hwm.2.1).hA (by decide)) ((hwm.2.1).hA (by decide)) ((hwm.2.1).2 0 37 (by decide) (by decide)) hLY), (RV_cg ((hwm.2.1).hA (by decide)) ((hwm.2.1).hA (by decide)) ((hwm.2.1).hA (by decide)) ((hwm.2.1).2 0 12 (by decide) (by decide)) hRV)⟩
  have hT1 : TW (bnd + 10560) wx1 wm1 := ⟨(((hwx.2.1).gI (by decide)).trans (hT.1.trans ((hwm.2.1).2 0 1 (by decide) (by decide)).symm)), ((vw_sm ((hwx.2.1).1 32 (by decide))).trans (hT.2.1.trans (vw_sm ((hwm.2.1).1 1 (by decide))).symm)), (hT.2.2.1.cg (vw_sm ((hwx.2.1).1 33 (by decide)))), ⟨bq, OLq, La, RQ.frG hQ (wish2 (tyX hW) hR hwx.2.2.2 hwm.2.2).2 ((hwx.2.1).Fr hW hwx.1 intsX_ok intsX_ok) (by decide) ((hwm.2.1).Fr hV hwm.1 intsM_ok intsM_ok) (by decide) ((hQ.2.2.look hR.2.2.1.2.2.1 (wishLk (tyX hW) hR hwx.2.2.2) (by omega)).le (by omega)), (GV.fr hQG.2 ((hwx.2.1).Fr hW hwx.1 intsX_ok intsX_ok) (by decide) ((hwm.2.1).Fr hV hwm.1 intsM_ok intsM_ok) (by decide))⟩⟩
  exact kk qx wx1 wm1 H locs ls rfl ⟨⟨bp, hwx.1⟩, hLD1, hSB1⟩ hIM1 hT1 hP hD hS hl
set_option maxRecDepth 100000 in
set_option maxHeartbeats 16000000 in
theorem law_c15 {p : Program} {e : Env} {s : State} {m : MethodId} {below : List Frame} {meth : Method} {c : Code} (l : Launch) {b L : Nat} {xs : Nat → Int32} {A : Nat → Prop} (hAs : ∀ q, A q → s.heap.size ≤ q) (hA : ∀ q, s.heap.size ≤ q → A q) (C0 : lw_At p s m meth c b L xs) {D : va_G} {cI cJ cZ : ClassId} {qx qm : Nat → Nat} (hK : va_K D vwCl (tyK cI cJ cZ) s) (hE : eW s) {i : Int32} (hi : ∀ j : Int32, In 0 5 j → vp_in (i + j) L) {bnd : Int} (hbd : bnd + 10560 ≤ 2147483647) {wx wm : va_W} (hIX : IX qx cI cJ cZ bnd wx) (hIM : IM qm cI cJ cZ wm) (hT : TW bnd wx wm) {H : Heap} {locs : List Loc} {ls : Array Slot} {cells slots : Nat} (hcs : cells ≤ 600000 ∧ slots ≤ 7302250) (hP : va_P D vwCl (wx ++ wm) H) (hD : va_D A (wx ++ wm)) (hS : va_S A s.heap H locs) (hl : lv_has ls 4 [(3, .int i), (2, .ref (qm 0)), (1, .ref (qx 0)), (0, .ref b)]) (kk : ∀ (qx1 : Nat → Nat) (wx1 wm1 : va_W) (H1 : Heap) (locs1 : List Loc) (ls1 : Array Slot), qx1 0 = qx 0 → IX qx1 cI cJ cZ (bnd + 10560) wx1 → IM qm cI cJ cZ wm1 → TW (bnd + 10560) wx1 wm1 → va_P D vwCl (wx1 ++ wm1) H1 → va_D A (wx1 ++ wm1) → va_S A s.heap H1 locs1 → lv_has ls1 4 [(3, .int i), (2, .ref (qm 0)), (1, .ref (qx 0)), (0, .ref b)] → W p l e room_1 s m #[Value.ref b] below meth c H1 locs1 cells slots (lw_Z below #[Value.ref b] s) (F0 m 1098 ls1 [])) : W p l e room_1 s m #[Value.ref b] below meth c H locs cells slots (lw_Z below #[Value.ref b] s) (F0 m 697 ls []) := by
  obtain ⟨hx, hb, hr, hml, hown0, hts0, hXs, hbl, hlocks, hgv⟩ := id C0
  have hown : s.vm.findClass RL = some m.cls := hown0
  have hts : ∀ w ∈ BIG, w.before #[Value.ref b] s = true := fun w h => hts0 w (big_lw w h)
  have hbA : ¬ A b := fun h => absurd hbl (Nat.not_lt.mpr (hAs b h))
  obtain ⟨⟨bp, hW⟩, hLD, hSB⟩ := hIX
  obtain ⟨hV, hLM, hLY, hRV⟩ := hIM
  obtain ⟨bq, OLq, La, hQG⟩ := hT.2.2.2
  have hQ := hQG.1
  have hR := hQ.1
  refine lv_aload_n hx hb dL_law_697 rfl (lv_at hl 2 rfl) ?_
  refine lv_aload_n hx hb dL_law_698 rfl (lv_at hl 3 rfl) ?_
  refine lv_iload_n hx hb dL_law_699 rfl (lv_at hl 0 rfl) ?_
  refine lv_iconst (v := 1) hx hb dL_law_700 (by decide) ?_
  refine lv_iadd hx hb dL_law_701 ?_
  refine va_sld hx hb hXs hbl hbA hS (hi 1 (In_lit (n := 1) (by decide) (by decide))) dL_law_702 ?_
  refine lv_aload_n hx hb dL_law_703 rfl (lv_at hl 3 rfl) ?_
  refine lv_iload_n hx hb dL_law_704 rfl (lv_at hl 0 rfl) ?_
  refine lv_iconst (v := 2) hx hb dL_law_705 (by decide) ?_
  refine lv_iadd hx hb dL_law_706 ?_
  refine va_sld hx hb hXs hbl hbA hS (hi 2 (In_lit (n := 2) (by decide) (by decide))) dL_law_707 ?_
  refine kL_i (wc := wx) (wr := wm) ⟨rfl, rfl⟩ hP hD hS hA (rL_V (As := [.int (xs (i + 1).toNatClampNeg), .int (xs (i + 2).toNatClampNeg)]) (rest := []) hx hb hml hown hts hK hE hP hD (e_X11_may l D cI cJ cZ qx bp wx hW (xs (i + 1).toNatClampNeg) (xs (i + 2).toNatClampNeg) hLD _) ⟨⟨rfl, rfl⟩, rfl, rfl⟩ sv_L_80 ⟨(Nat.le_of_ble_eq_true rfl), (Nat.le_of_ble_eq_true rfl)⟩ hcs 0 11 (hW.o tX_0) rfl rfl rfl hl.1 rfl (Nat.le_of_ble_eq_true rfl) dL_law_708) (fun rx wx1 H locs hwx hP hD hS => ?_)
  refine lv_pop hx hb dL_law_711 rfl ?_
  refine lv_aload_n hx hb dL_law_712 rfl (lv_at hl 1 rfl) ?_
  refine lv_aload_n hx hb dL_law_713 rfl (lv_at hl 3 rfl) ?_
  refine lv_iload_n hx hb dL_law_714 rfl (lv_at hl 0 rfl) ?_
  refine lv_iconst (v := 1) hx hb dL_law_715 (by decide) ?_
  refine lv_iadd hx hb dL_law_716 ?_
  refine va_sld hx hb hXs hbl hbA hS (hi 1 (In_lit (n := 1) (by decide) (by decide))) dL_law_717 ?_
  refine lv_aload_n hx hb dL_law_718 rfl (lv_at hl 3 rfl) ?_
  refine lv_iload_n hx hb dL_law_719 rfl (lv_at hl 0 rfl) ?_
  refine lv_iconst (v := 2) hx hb dL_law_720 (by decide) ?_
  refine lv_iadd hx hb dL_law_721 ?_
  refine va_sld hx hb hXs hbl hbA hS (hi 2 (In_lit (n := 2) (by decide) (by decide))) dL_law_722 ?_
  refine kL_i (wc := wm) (wr := wx1) ⟨rfl, rfl⟩ hP hD hS hA (rL_V (As := [.int (xs (i + 1).toNatClampNeg), .int (xs (i + 2).toNatClampNeg)]) (rest := []) hx hb hml hown hts hK hE hP hD (e_X12_may l D cI cJ cZ qm wm hV (xs (i + 1).toNatClampNeg) (xs (i + 2).toNatClampNeg) hLM hRV _) ⟨⟨rfl, rfl⟩, rfl, rfl⟩ sv_L_83 ⟨(Nat.le_of_ble_eq_true rfl), (Nat.le_of_ble_eq_true rfl)⟩ hcs 0 12 (hV.o tM_0) rfl rfl rfl hl.1 rfl (Nat.le_of_ble_eq_true rfl) dL_law_723) (fun rm wm1 H locs hwm hP hD hS => ?_)
  refine lv_pop hx hb dL_law_726 rfl ?_
  refine lv_goto (tgt := 1098) hx hb dL_law_727 (by decide) ?_
  have hLD1 : LD wx1 := (LD_cg ((hwx.2.1).hA (by decide)) ((hwx.2.1).hA (by decide)) hLD)
  have hSB1 : SB (bnd + 10560) wx1 := (SB_w (SB_cg ((hwx.2.1).hA (by decide)) ((hwx.2.1).hA (by decide)) ((hwx.2.1).gI (by decide)) hSB) (by omega))
  have hIM1 : IM qm cI cJ cZ wm1 := ⟨hwm.1, (LM_cg ((hwm.2.1).hA (by decide)) ((hwm.2.1).hA (by decide)) hLM), (LY_cg ((hwm.2.1).hA (by decide)) ((hwm.2.1).hA (by decide)) ((hwm.2.1).2 0 37 (by decide) (by decide)) hLY), (RV_cg ((hwm.2.1).hA (by decide)) ((hwm.2.1).hA (by decide)) ((hwm.2.1).hA (by decide)) ((hwm.2.1).2 0 12 (by decide) (by decide)) hRV)⟩
  have hT1 : TW (bnd + 10560) wx1 wm1 := ⟨(((hwx.2.1).gI (by decide)).trans (hT.1.trans ((hwm.2.1).2 0 1 (by decide) (by decide)).symm)), ((vw_sm ((hwx.2.1).1 32 (by decide))).trans (hT.2.1.trans (vw_sm ((hwm.2.1).1 1 (by decide))).symm)), (hT.2.2.1.cg (vw_sm ((hwx.2.1).1 33 (by decide)))), ⟨bq, OLq, La, RQ.frW hQ ((hwx.2.1).Fr hW hwx.1 intsX_ok intsX_ok) (by decide) (mayKV (tyX hW) hR hwx.2.2.2) ((hwm.2.1).Fr hV hwm.1 intsM_ok intsM_ok) (by decide) ((mayWG (tyX hW) (by omega) hQ hwx.2.2.2).le (by omega)), (GV.fr hQG.2 ((hwx.2.1).Fr hW hwx.1 intsX_ok intsX_ok) (by decide) ((hwm.2.1).Fr hV hwm.1 intsM_ok intsM_ok) (by decide))⟩⟩
  exact kk qx wx1 wm1 H locs ls rfl ⟨⟨bp, hwx.1⟩, hLD1, hSB1⟩ hIM1 hT1 hP hD hS hl
set_option maxRecDepth 100000 in
set_option maxHeartbeats 16000000 in
theorem law_c16 {p : Program} {e : Env} {s : State} {m : MethodId} {below : List Frame} {meth : Method} {c : Code} (l : Launch) {b L : Nat} {xs : Nat → Int32} {A : Nat → Prop} (hAs : ∀ q, A q → s.heap.size ≤ q) (hA : ∀ q, s.heap.size ≤ q → A q) (C0 : lw_At p s m meth c b L xs) {D : va_G} {cI cJ cZ : ClassId} {qx qm : Nat → Nat} (hK : va_K D vwCl (tyK cI cJ cZ) s) (hE : eW s) {i : Int32} (hi : ∀ j : Int32, In 0 5 j → vp_in (i + j) L) {bnd : Int} (hbd : bnd + 10560 ≤ 2147483647) {wx wm : va_W} (hIX : IX qx cI cJ cZ bnd wx) (hIM : IM qm cI cJ cZ wm) (hT : TW bnd wx wm) {H : Heap} {locs : List Loc} {ls : Array Slot} {cells slots : Nat} (hcs : cells ≤ 600000 ∧ slots ≤ 7302250) (hP : va_P D vwCl (wx ++ wm) H) (hD : va_D A (wx ++ wm)) (hS : va_S A s.heap H locs) (hl : lv_has ls 4 [(3, .int i), (2, .ref (qm 0)), (1, .ref (qx 0)), (0, .ref b)]) (kk : ∀ (qx1 : Nat → Nat) (wx1 wm1 : va_W) (H1 : Heap) (locs1 : List Loc) (ls1 : Array Slot), qx1 0 = qx 0 → IX qx1 cI cJ cZ (bnd + 10560) wx1 → IM qm cI cJ cZ wm1 → TW (bnd + 10560) wx1 wm1 → va_P D vwCl (wx1 ++ wm1) H1 → va_D A (wx1 ++ wm1) → va_S A s.heap H1 locs1 → lv_has ls1 4 [(3, .int i), (2, .ref (qm 0)), (1, .ref (qx 0)), (0, .ref b)] → W p l e room_1 s m #[Value.ref b] below meth c H1 locs1 cells slots (lw_Z below #[Value.ref b] s) (F0 m 1098 ls1 [])) : W p l e room_1 s m #[Value.ref b] below meth c H locs cells slots (lw_Z below #[Value.ref b] s) (F0 m 730 ls []) := by
  obtain ⟨hx, hb, hr, hml, hown0, hts0, hXs, hbl, hlocks, hgv⟩ := id C0
  have hown : s.vm.findClass RL = some m.cls := hown0
  have hts : ∀ w ∈ BIG, w.before #[Value.ref b] s = true := fun w h => hts0 w (big_lw w h)
  have hbA : ¬ A b := fun h => absurd hbl (Nat.not_lt.mpr (hAs b h))
  obtain ⟨⟨bp, hW⟩, hLD, hSB⟩ := hIX
  obtain ⟨hV, hLM, hLY, hRV⟩ := hIM
  obtain ⟨bq, OLq, La, hQG⟩ := hT.2.2.2
  have hQ := hQG.1
  have hR := hQ.1
  refine lv_aload_n hx hb dL_law_730 rfl (lv_at hl 2 rfl) ?_
  refine lv_aload_n hx hb dL_law_731 rfl (lv_at hl 3 rfl) ?_
  refine lv_iload_n hx hb dL_law_732 rfl (lv_at hl 0 rfl) ?_
  refine lv_iconst (v := 1) hx hb dL_law_733 (by decide) ?_
  refine lv_iadd hx hb dL_law_734 ?_
  refine va_sld hx hb hXs hbl hbA hS (hi 1 (In_lit (n := 1) (by decide) (by decide))) dL_law_735 ?_
  refine lv_aload_n hx hb dL_law_736 rfl (lv_at hl 3 rfl) ?_
  refine lv_iload_n hx hb dL_law_737 rfl (lv_at hl 0 rfl) ?_
  refine lv_iconst (v := 2) hx hb dL_law_738 (by decide) ?_
  refine lv_iadd hx hb dL_law_739 ?_
  refine va_sld hx hb hXs hbl hbA hS (hi 2 (In_lit (n := 2) (by decide) (by decide))) dL_law_740 ?_
  refine kL_i (wc := wx) (wr := wm) ⟨rfl, rfl⟩ hP hD hS hA (rL_V (As := [.int (xs (i + 1).toNatClampNeg), .int (xs (i + 2).toNatClampNeg)]) (rest := []) hx hb hml hown hts hK hE hP hD (e_X11_points l D cI cJ cZ qx bp wx hW (xs (i + 1).toNatClampNeg) (xs (i + 2).toNatClampNeg) hLD _) ⟨⟨rfl, rfl⟩, rfl, rfl⟩ sv_L_84 ⟨(Nat.le_of_ble_eq_true rfl), (Nat.le_of_ble_eq_true rfl)⟩ hcs 0 11 (hW.o tX_0) rfl rfl rfl hl.1 rfl (Nat.le_of_ble_eq_true rfl) dL_law_741) (fun rx wx1 H locs hwx hP hD hS => ?_)
  refine lv_pop hx hb dL_law_744 rfl ?_
  refine lv_aload_n hx hb dL_law_745 rfl (lv_at hl 1 rfl) ?_
  refine lv_aload_n hx hb dL_law_746 rfl (lv_at hl 3 rfl) ?_
  refine lv_iload_n hx hb dL_law_747 rfl (lv_at hl 0 rfl) ?_
  refine lv_iconst (v := 1) hx hb dL_law_748 (by decide) ?_
  refine lv_iadd hx hb dL_law_749 ?_
  refine va_sld hx hb hXs hbl hbA hS (hi 1 (In_lit (n := 1) (by decide) (by decide))) dL_law_750 ?_
  refine lv_aload_n hx hb dL_law_751 rfl (lv_at hl 3 rfl) ?_
  refine lv_iload_n hx hb dL_law_752 rfl (lv_at hl 0 rfl) ?_
  refine lv_iconst (v := 2) hx hb dL_law_753 (by decide) ?_
  refine lv_iadd hx hb dL_law_754 ?_
  refine va_sld hx hb hXs hbl hbA hS (hi 2 (In_lit (n := 2) (by decide) (by decide))) dL_law_755 ?_
  refine kL_i (wc := wm) (wr := wx1) ⟨rfl, rfl⟩ hP hD hS hA (rL_V (As := [.int (xs (i + 1).toNatClampNeg), .int (xs (i + 2).toNatClampNeg)]) (rest := []) hx hb hml hown hts hK hE hP hD (e_X12_points l D cI cJ cZ qm wm hV (xs (i + 1).toNatClampNeg) (xs (i + 2).toNatClampNeg) hLM hRV _) ⟨⟨rfl, rfl⟩, rfl, rfl⟩ sv_L_87 ⟨(Nat.le_of_ble_eq_true rfl), (Nat.le_of_ble_eq_true rfl)⟩ hcs 0 12 (hV.o tM_0) rfl rfl rfl hl.1 rfl (Nat.le_of_ble_eq_true rfl) dL_law_756) (fun rm wm1 H locs hwm hP hD hS => ?_)
  refine lv_pop hx hb dL_law_759 rfl ?_
  refine lv_goto (tgt := 1098) hx hb dL_law_760 (by decide) ?_
  have hLD1 : LD wx1 := (LD_cg ((hwx.2.1).hA (by decide)) ((hwx.2.1).hA (by decide)) hLD)
  have hSB1 : SB (bnd + 10560) wx1 := (SB_w (SB_cg ((hwx.2.1).hA (by decide)) ((hwx.2.1).hA (by decide)) ((hwx.2.1).gI (by decide)) hSB) (by omega))
  have hIM1 : IM qm cI cJ cZ wm1 := ⟨hwm.1, (LM_cg ((hwm.2.1).hA (by decide)) ((hwm.2.1).hA (by decide)) hLM), (LY_cg ((hwm.2.1).hA (by decide)) ((hwm.2.1).hA (by decide)) ((hwm.2.1).2 0 37 (by decide) (by decide)) hLY), (RV_cg ((hwm.2.1).hA (by decide)) ((hwm.2.1).hA (by decide)) ((hwm.2.1).hA (by decide)) ((hwm.2.1).2 0 12 (by decide) (by decide)) hRV)⟩
  have hT1 : TW (bnd + 10560) wx1 wm1 := ⟨(((hwx.2.1).gI (by decide)).trans (hT.1.trans ((hwm.2.1).2 0 1 (by decide) (by decide)).symm)), ((vw_sm ((hwx.2.1).1 32 (by decide))).trans (hT.2.1.trans (vw_sm ((hwm.2.1).1 1 (by decide))).symm)), (hT.2.2.1.cg (vw_sm ((hwx.2.1).1 33 (by decide)))), ⟨bq, OLq, La, RQ.frW hQ ((hwx.2.1).Fr hW hwx.1 intsX_ok intsX_ok) (by decide) (pointsKV (tyX hW) hR hwx.2.2) ((hwm.2.1).Fr hV hwm.1 intsM_ok intsM_ok) (by decide) ((pointsWG (tyX hW) (by omega) hQ hwx.2.2).le (by omega)), (GV.fr hQG.2 ((hwx.2.1).Fr hW hwx.1 intsX_ok intsX_ok) (by decide) ((hwm.2.1).Fr hV hwm.1 intsM_ok intsM_ok) (by decide))⟩⟩
  exact kk qx wx1 wm1 H locs ls rfl ⟨⟨bp, hwx.1⟩, hLD1, hSB1⟩ hIM1 hT1 hP hD hS hl
set_option maxRecDepth 100000 in
set_option maxHeartbeats 16000000 in
theorem law_c17 {p : Program} {e : Env} {s : State} {m : MethodId} {below : List Frame} {meth : Method} {c : Code} (l : Launch) {b L : Nat} {xs : Nat → Int32} {A : Nat → Prop} (hAs : ∀ q, A q → s.heap.size ≤ q) (hA : ∀ q, s.heap.size ≤ q → A q) (C0 : lw_At p s m meth c b L xs) {D : va_G} {cI cJ cZ : ClassId} {qx qm : Nat → Nat} (hK : va_K D vwCl (tyK cI cJ cZ) s) (hE : eW s) {i : Int32} (hi : ∀ j : Int32, In 0 5 j → vp_in (i + j) L) {bnd : Int} (hbd : bnd + 10560 ≤ 2147483647) {wx wm : va_W} (hIX : IX qx cI cJ cZ bnd wx) (hIM : IM qm cI cJ cZ wm) (hT : TW bnd wx wm) {H : Heap} {locs : List Loc} {ls : Array Slot} {cells slots : Nat} (hcs : cells ≤ 600000 ∧ slots ≤ 7302250) (hP : va_P D vwCl (wx ++ wm) H) (hD : va_D A (wx ++ wm)) (hS : va_S A s.heap H locs) (hl : lv_has ls 4 [(3, .int i), (2, .ref (qm 0)), (1, .ref (qx 0)), (0, .ref b)]) (kk : ∀ (qx1 : Nat → Nat) (wx1 wm1 : va_W) (H1 : Heap) (locs1 : List Loc) (ls1 : Array Slot), qx1 0 = qx 0 → IX qx1 cI cJ cZ (bnd + 10560) wx1 → IM qm cI cJ cZ wm1 → TW (bnd + 10560) wx1 wm1 → va_P D vwCl (wx1 ++ wm1) H1 → va_D A (wx1 ++ wm1) → va_S A s.heap H1 locs1 → lv_has ls1 4 [(3, .int i), (2, .ref (qm 0)), (1, .ref (qx 0)), (0, .ref b)] → W p l e room_1 s m #[Value.ref b] below meth c H1 locs1 cells slots (lw_Z below #[Value.ref b] s) (F0 m 1098 ls1 [])) : W p l e room_1 s m #[Value.ref b] below meth c H locs cells slots (lw_Z below #[Value.ref b] s) (F0 m 763 ls []) := by
  obtain ⟨hx, hb, hr, hml, hown0, hts0, hXs, hbl, hlocks, hgv⟩ := id C0
  have hown : s.vm.findClass RL = some m.cls := hown0
  have hts : ∀ w ∈ BIG, w.before #[Value.ref b] s = true := fun w h => hts0 w (big_lw w h)
  have hbA : ¬ A b := fun h => absurd hbl (Nat.not_lt.mpr (hAs b h))
  obtain ⟨⟨bp, hW⟩, hLD, hSB⟩ := hIX
  obtain ⟨hV, hLM, hLY, hRV⟩ := hIM
  obtain ⟨bq, OLq, La, hQG⟩ := hT.2.2.2
  have hQ := hQG.1
  have hR := hQ.1
  refine lv_aload_n hx hb dL_law_763 rfl (lv_at hl 2 rfl) ?_
  refine kL_i (wc := wx) (wr := wm) ⟨rfl, rfl⟩ hP hD hS hA (rL_V (As := []) (rest := []) hx hb hml hown hts hK hE hP hD (e_X11_give l D cI cJ cZ qx bp wx hW hLD bnd (by omega) hSB _) ⟨⟨rfl, rfl⟩, rfl, rfl⟩ sv_L_88 ⟨(Nat.le_of_ble_eq_true rfl), (Nat.le_of_ble_eq_true rfl)⟩ hcs 0 11 (hW.o tX_0) rfl rfl rfl hl.1 rfl (Nat.le_of_ble_eq_true rfl) dL_law_764) (fun rx wx1 H locs hwx hP hD hS => ?_)
  refine lv_pop hx hb dL_law_767 rfl ?_
  refine lv_aload_n hx hb dL_law_768 rfl (lv_at hl 1 rfl) ?_
  refine kL_i (wc := wm) (wr := wx1) ⟨rfl, rfl⟩ hP hD hS hA (rL_V (As := []) (rest := []) hx hb hml hown hts hK hE hP hD (e_X12_give l D cI cJ cZ qm wm hV hLM hRV hLY _) ⟨⟨rfl, rfl⟩, rfl, rfl⟩ sv_L_91 ⟨(Nat.le_of_ble_eq_true rfl), (Nat.le_of_ble_eq_true rfl)⟩ hcs 0 12 (hV.o tM_0) rfl rfl rfl hl.1 rfl (Nat.le_of_ble_eq_true rfl) dL_law_769) (fun rm wm1 H locs hwm hP hD hS => ?_)
  refine lv_pop hx hb dL_law_772 rfl ?_
  refine lv_goto (tgt := 1098) hx hb dL_law_773 (by decide) ?_
  have hLD1 : LD wx1 := (LD_cg ((hwx.2.1).hA (by decide)) ((hwx.2.1).hA (by decide)) hLD)
  have hSB1 : SB (bnd + 10560) wx1 := (SB_w hwx.2.2.1 (by omega))
  have hIM1 : IM qm cI cJ cZ wm1 := ⟨hwm.1, (LM_cg ((hwm.2.1).hA (by decide)) ((hwm.2.1).hA (by decide)) hLM), (LY_cg ((hwm.2.1).hA (by decide)) ((hwm.2.1).hA (by decide)) ((hwm.2.1).2 0 37 (by decide) (by decide)) hLY), (RV_cg ((hwm.2.1).hA (by decide)) ((hwm.2.1).hA (by decide)) ((hwm.2.1).hA (by decide)) ((hwm.2.1).2 0 12 (by decide) (by decide)) hRV)⟩
  have hT1 : TW (bnd + 10560) wx1 wm1 := ⟨(((hwx.2.1).gI (by decide)).trans (hT.1.trans ((hwm.2.1).2 0 1 (by decide) (by decide)).symm)), ((vw_sm ((hwx.2.1).1 32 (by decide))).trans (hT.2.1.trans (vw_sm ((hwm.2.1).1 1 (by decide))).symm)), (hT.2.2.1.cg (vw_sm ((hwx.2.1).1 33 (by decide)))), ⟨bq, OLq, La, RQ.frW hQ ((hwx.2.1).Fr hW hwx.1 intsX_ok intsX_ok) (by decide) (giveKV (tyX hW) hR hwx.2.2.2) ((hwm.2.1).Fr hV hwm.1 intsM_ok intsM_ok) (by decide) ((giveWG (tyX hW) (by omega) hQ hwx.2.2.2).le (by omega)), (giveGV (tyX hW) (by omega) hQ (stA_of hW hSB) (by omega) hwx.2.2.2 hwm.2.2)⟩⟩
  exact kk qx wx1 wm1 H locs ls rfl ⟨⟨bp, hwx.1⟩, hLD1, hSB1⟩ hIM1 hT1 hP hD hS hl
set_option maxRecDepth 100000 in
set_option maxHeartbeats 16000000 in
theorem law_c18 {p : Program} {e : Env} {s : State} {m : MethodId} {below : List Frame} {meth : Method} {c : Code} (l : Launch) {b L : Nat} {xs : Nat → Int32} {A : Nat → Prop} (hAs : ∀ q, A q → s.heap.size ≤ q) (hA : ∀ q, s.heap.size ≤ q → A q) (C0 : lw_At p s m meth c b L xs) {D : va_G} {cI cJ cZ : ClassId} {qx qm : Nat → Nat} (hK : va_K D vwCl (tyK cI cJ cZ) s) (hE : eW s) {i : Int32} (hi : ∀ j : Int32, In 0 5 j → vp_in (i + j) L) {bnd : Int} (hbd : bnd + 10560 ≤ 2147483647) {wx wm : va_W} (hIX : IX qx cI cJ cZ bnd wx) (hIM : IM qm cI cJ cZ wm) (hT : TW bnd wx wm) {H : Heap} {locs : List Loc} {ls : Array Slot} {cells slots : Nat} (hcs : cells ≤ 600000 ∧ slots ≤ 7302250) (hP : va_P D vwCl (wx ++ wm) H) (hD : va_D A (wx ++ wm)) (hS : va_S A s.heap H locs) (hl : lv_has ls 4 [(3, .int i), (2, .ref (qm 0)), (1, .ref (qx 0)), (0, .ref b)]) (kk : ∀ (qx1 : Nat → Nat) (wx1 wm1 : va_W) (H1 : Heap) (locs1 : List Loc) (ls1 : Array Slot), qx1 0 = qx 0 → IX qx1 cI cJ cZ (bnd + 10560) wx1 → IM qm cI cJ cZ wm1 → TW (bnd + 10560) wx1 wm1 → va_P D vwCl (wx1 ++ wm1) H1 → va_D A (wx1 ++ wm1) → va_S A s.heap H1 locs1 → lv_has ls1 4 [(3, .int i), (2, .ref (qm 0)), (1, .ref (qx 0)), (0, .ref b)] → W p l e room_1 s m #[Value.ref b] below meth c H1 locs1 cells slots (lw_Z below #[Value.ref b] s) (F0 m 1098 ls1 [])) : W p l e room_1 s m #[Value.ref b] below meth c H locs cells slots (lw_Z below #[Value.ref b] s) (F0 m 776 ls []) := by
  obtain ⟨hx, hb, hr, hml, hown0, hts0, hXs, hbl, hlocks, hgv⟩ := id C0
  have hown : s.vm.findClass RL = some m.cls := hown0
  have hts : ∀ w ∈ BIG, w.before #[Value.ref b] s = true := fun w h => hts0 w (big_lw w h)
  have hbA : ¬ A b := fun h => absurd hbl (Nat.not_lt.mpr (hAs b h))
  obtain ⟨⟨bp, hW⟩, hLD, hSB⟩ := hIX
  obtain ⟨hV, hLM, hLY, hRV⟩ := hIM
  obtain ⟨bq, OLq, La, hQG⟩ := hT.2.2.2
  have hQ := hQG.1
  have hR := hQ.1
  refine lv_aload_n hx hb dL_law_776 rfl (lv_at hl 2 rfl) ?_
  refine lv_aload_n hx hb dL_law_777 rfl (lv_at hl 3 rfl) ?_
  refine lv_iload_n hx hb dL_law_778 rfl (lv_at hl 0 rfl) ?_
  refine lv_iconst (v := 1) hx hb dL_law_779 (by decide) ?_
  refine lv_iadd hx hb dL_law_780 ?_
  refine va_sld hx hb hXs hbl hbA hS (hi 1 (In_lit (n := 1) (by decide) (by decide))) dL_law_781 ?_
  refine kL_i (wc := wx) (wr := wm) ⟨rfl, rfl⟩ hP hD hS hA (rL_V (As := [.int (xs (i + 1).toNatClampNeg)]) (rest := []) hx hb hml hown hts hK hE hP hD (e_X11_given l D cI cJ cZ qx bp wx hW (xs (i + 1).toNatClampNeg) _) ⟨⟨rfl, rfl⟩, rfl, rfl⟩ sv_L_92 ⟨(Nat.le_of_ble_eq_true rfl), (Nat.le_of_ble_eq_true rfl)⟩ hcs 0 11 (hW.o tX_0) rfl rfl rfl hl.1 rfl (Nat.le_of_ble_eq_true rfl) dL_law_782) (fun rx wx1 H locs hwx hP hD hS => ?_)
  refine lv_pop hx hb dL_law_785 rfl ?_
  refine lv_aload_n hx hb dL_law_786 rfl (lv_at hl 1 rfl) ?_
  refine lv_aload_n hx hb dL_law_787 rfl (lv_at hl 3 rfl) ?_
  refine lv_iload_n hx hb dL_law_788 rfl (lv_at hl 0 rfl) ?_
  refine lv_iconst (v := 1) hx hb dL_law_789 (by decide) ?_
  refine lv_iadd hx hb dL_law_790 ?_
  refine va_sld hx hb hXs hbl hbA hS (hi 1 (In_lit (n := 1) (by decide) (by decide))) dL_law_791 ?_
  refine kL_i (wc := wm) (wr := wx1) ⟨rfl, rfl⟩ hP hD hS hA (rL_V (As := [.int (xs (i + 1).toNatClampNeg)]) (rest := []) hx hb hml hown hts hK hE hP hD (e_X12_given l D cI cJ cZ qm wm hV (xs (i + 1).toNatClampNeg) _) ⟨⟨rfl, rfl⟩, rfl, rfl⟩ sv_L_95 ⟨(Nat.le_of_ble_eq_true rfl), (Nat.le_of_ble_eq_true rfl)⟩ hcs 0 12 (hV.o tM_0) rfl rfl rfl hl.1 rfl (Nat.le_of_ble_eq_true rfl) dL_law_792) (fun rm wm1 H locs hwm hP hD hS => ?_)
  refine lv_pop hx hb dL_law_795 rfl ?_
  refine lv_goto (tgt := 1098) hx hb dL_law_796 (by decide) ?_
  have hLD1 : LD wx1 := (LD_cg ((hwx.2.1).hA (by decide)) ((hwx.2.1).hA (by decide)) hLD)
  have hSB1 : SB (bnd + 10560) wx1 := (SB_w (SB_cg ((hwx.2.1).hA (by decide)) ((hwx.2.1).hA (by decide)) ((hwx.2.1).gI (by decide)) hSB) (by omega))
  have hIM1 : IM qm cI cJ cZ wm1 := ⟨hwm.1, (LM_cg ((hwm.2.1).hA (by decide)) ((hwm.2.1).hA (by decide)) hLM), (LY_cg ((hwm.2.1).hA (by decide)) ((hwm.2.1).hA (by decide)) ((hwm.2.1).gI (by decide)) hLY), (RV_cg ((hwm.2.1).hA (by decide)) ((hwm.2.1).hA (by decide)) ((hwm.2.1).hA (by decide)) ((hwm.2.1).gI (by decide)) hRV)⟩
  have hT1 : TW (bnd + 10560) wx1 wm1 := ⟨(((hwx.2.1).gI (by decide)).trans (hT.1.trans ((hwm.2.1).gI (by decide)).symm)), ((vw_sm ((hwx.2.1).1 32 (by decide))).trans (hT.2.1.trans (vw_sm ((hwm.2.1).1 1 (by decide))).symm)), (hT.2.2.1.cg (vw_sm ((hwx.2.1).1 33 (by decide)))), ⟨bq, OLq, La, RQ.fr hQ ((hwx.2.1).Fr hW hwx.1 intsX_ok intsX_ok) (by decide) ((K55.fr ((hwx.2.1).Fr hW hwx.1 intsX_ok intsX_ok) (by decide)).kv hR.2.2.2) ((hwm.2.1).Fr hV hwm.1 intsM_ok intsM_ok) (by decide) (by omega), (GV.fr hQG.2 ((hwx.2.1).Fr hW hwx.1 intsX_ok intsX_ok) (by decide) ((hwm.2.1).Fr hV hwm.1 intsM_ok intsM_ok) (by decide))⟩⟩
  exact kk qx wx1 wm1 H locs ls rfl ⟨⟨bp, hwx.1⟩, hLD1, hSB1⟩ hIM1 hT1 hP hD hS hl
set_option maxRecDepth 100000 in
set_option maxHeartbeats 16000000 in
theorem law_c19 {p : Program} {e : Env} {s : State} {m : MethodId} {below : List Frame} {meth : Method} {c : Code} (l : Launch) {b L : Nat} {xs : Nat → Int32} {A : Nat → Prop} (hAs : ∀ q, A q → s.heap.size ≤ q) (hA : ∀ q, s.heap.size ≤ q → A q) (C0 : lw_At p s m meth c b L xs) {D : va_G} {cI cJ cZ : ClassId} {qx qm : Nat → Nat} (hK : va_K D vwCl (tyK cI cJ cZ) s) (hE : eW s) {i : Int32} (hi : ∀ j : Int32, In 0 5 j → vp_in (i + j) L) {bnd : Int} (hbd : bnd + 10560 ≤ 2147483647) {wx wm : va_W} (hIX : IX qx cI cJ cZ bnd wx) (hIM : IM qm cI cJ cZ wm) (hT : TW bnd wx wm) {H : Heap} {locs : List Loc} {ls : Array Slot} {cells slots : Nat} (hcs : cells ≤ 600000 ∧ slots ≤ 7302250) (hP : va_P D vwCl (wx ++ wm) H) (hD : va_D A (wx ++ wm)) (hS : va_S A s.heap H locs) (hl : lv_has ls 4 [(3, .int i), (2, .ref (qm 0)), (1, .ref (qx 0)), (0, .ref b)]) (kk : ∀ (qx1 : Nat → Nat) (wx1 wm1 : va_W) (H1 : Heap) (locs1 : List Loc) (ls1 : Array Slot), qx1 0 = qx 0 → IX qx1 cI cJ cZ (bnd + 10560) wx1 → IM qm cI cJ cZ wm1 → TW (bnd + 10560) wx1 wm1 → va_P D vwCl (wx1 ++ wm1) H1 → va_D A (wx1 ++ wm1) → va_S A s.heap H1 locs1 → lv_has ls1 4 [(3, .int i), (2, .ref (qm 0)), (1, .ref (qx 0)), (0, .ref b)] → W p l e room_1 s m #[Value.ref b] below meth c H1 locs1 cells slots (lw_Z below #[Value.ref b] s) (F0 m 1098 ls1 [])) : W p l e room_1 s m #[Value.ref b] below meth c H locs cells slots (lw_Z below #[Value.ref b] s) (F0 m 799 ls []) := by
  obtain ⟨hx, hb, hr, hml, hown0, hts0, hXs, hbl, hlocks, hgv⟩ := id C0
  have hown : s.vm.findClass RL = some m.cls := hown0
  have hts : ∀ w ∈ BIG, w.before #[Value.ref b] s = true := fun w h => hts0 w (big_lw w h)
  have hbA : ¬ A b := fun h => absurd hbl (Nat.not_lt.mpr (hAs b h))
  obtain ⟨⟨bp, hW⟩, hLD, hSB⟩ := hIX
  obtain ⟨hV, hLM, hLY, hRV⟩ := hIM
  obtain ⟨bq, OLq, La, hQG⟩ := hT.2.2.2
  have hQ := hQG.1
  have hR := hQ.1
  refine lv_aload_n hx hb dL_law_799 rfl (lv_at hl 2 rfl) ?_
  refine lv_aload_n hx hb dL_law_800 rfl (lv_at hl 3 rfl) ?_
  refine lv_iload_n hx hb dL_law_801 rfl (lv_at hl 0 rfl) ?_
  refine lv_iconst (v := 1) hx hb dL_law_802 (by decide) ?_
  refine lv_iadd hx hb dL_law_803 ?_
  refine va_sld hx hb hXs hbl hbA hS (hi 1 (In_lit (n := 1) (by decide) (by decide))) dL_law_804 ?_
  refine kL_i (wc := wx) (wr := wm) ⟨rfl, rfl⟩ hP hD hS hA (rL_V (As := [.int (xs (i + 1).toNatClampNeg)]) (rest := []) hx hb hml hown hts hK hE hP hD (e_X11_gets l D cI cJ cZ qx bp wx hW (xs (i + 1).toNatClampNeg) _) ⟨⟨rfl, rfl⟩, rfl, rfl⟩ sv_L_96 ⟨(Nat.le_of_ble_eq_true rfl), (Nat.le_of_ble_eq_true rfl)⟩ hcs 0 11 (hW.o tX_0) rfl rfl rfl hl.1 rfl (Nat.le_of_ble_eq_true rfl) dL_law_805) (fun rx wx1 H locs hwx hP hD hS => ?_)
  refine lv_pop hx hb dL_law_808 rfl ?_
  refine lv_aload_n hx hb dL_law_809 rfl (lv_at hl 1 rfl) ?_
  refine lv_aload_n hx hb dL_law_810 rfl (lv_at hl 3 rfl) ?_
  refine lv_iload_n hx hb dL_law_811 rfl (lv_at hl 0 rfl) ?_
  refine lv_iconst (v := 1) hx hb dL_law_812 (by decide) ?_
  refine lv_iadd hx hb dL_law_813 ?_
  refine va_sld hx hb hXs hbl hbA hS (hi 1 (In_lit (n := 1) (by decide) (by decide))) dL_law_814 ?_
  refine kL_i (wc := wm) (wr := wx1) ⟨rfl, rfl⟩ hP hD hS hA (rL_V (As := [.int (xs (i + 1).toNatClampNeg)]) (rest := []) hx hb hml hown hts hK hE hP hD (e_X12_gets l D cI cJ cZ qm wm hV (xs (i + 1).toNatClampNeg) _) ⟨⟨rfl, rfl⟩, rfl, rfl⟩ sv_L_99 ⟨(Nat.le_of_ble_eq_true rfl), (Nat.le_of_ble_eq_true rfl)⟩ hcs 0 12 (hV.o tM_0) rfl rfl rfl hl.1 rfl (Nat.le_of_ble_eq_true rfl) dL_law_815) (fun rm wm1 H locs hwm hP hD hS => ?_)
  refine lv_pop hx hb dL_law_818 rfl ?_
  refine lv_goto (tgt := 1098) hx hb dL_law_819 (by decide) ?_
  have hLD1 : LD wx1 := (LD_cg ((hwx.2.1).hA (by decide)) ((hwx.2.1).hA (by decide)) hLD)
  have hSB1 : SB (bnd + 10560) wx1 := (SB_w (SB_cg ((hwx.2.1).hA (by decide)) ((hwx.2.1).hA (by decide)) ((hwx.2.1).gI (by decide)) hSB) (by omega))
  have hIM1 : IM qm cI cJ cZ wm1 := ⟨hwm.1, (LM_cg ((hwm.2.1).hA (by decide)) ((hwm.2.1).hA (by decide)) hLM), (LY_cg ((hwm.2.1).hA (by decide)) ((hwm.2.1).hA (by decide)) ((hwm.2.1).gI (by decide)) hLY), (RV_cg ((hwm.2.1).hA (by decide)) ((hwm.2.1).hA (by decide)) ((hwm.2.1).hA (by decide)) ((hwm.2.1).gI (by decide)) hRV)⟩
  have hT1 : TW (bnd + 10560) wx1 wm1 := ⟨(((hwx.2.1).gI (by decide)).trans (hT.1.trans ((hwm.2.1).gI (by decide)).symm)), ((vw_sm ((hwx.2.1).1 32 (by decide))).trans (hT.2.1.trans (vw_sm ((hwm.2.1).1 1 (by decide))).symm)), (hT.2.2.1.cg (vw_sm ((hwx.2.1).1 33 (by decide)))), ⟨bq, OLq, La, RQ.fr hQ ((hwx.2.1).Fr hW hwx.1 intsX_ok intsX_ok) (by decide) ((K55.fr ((hwx.2.1).Fr hW hwx.1 intsX_ok intsX_ok) (by decide)).kv hR.2.2.2) ((hwm.2.1).Fr hV hwm.1 intsM_ok intsM_ok) (by decide) (by omega), (GV.fr hQG.2 ((hwx.2.1).Fr hW hwx.1 intsX_ok intsX_ok) (by decide) ((hwm.2.1).Fr hV hwm.1 intsM_ok intsM_ok) (by decide))⟩⟩
  exact kk qx wx1 wm1 H locs ls rfl ⟨⟨bp, hwx.1⟩, hLD1, hSB1⟩ hIM1 hT1 hP hD hS hl
set_option maxRecDepth 100000 in
set_option maxHeartbeats 16000000 in
theorem law_c20 {p : Program} {e : Env} {s : State} {m : MethodId} {below : List Frame} {meth : Method} {c : Code} (l : Launch) {b L : Nat} {xs : Nat → Int32} {A : Nat → Prop} (hAs : ∀ q, A q → s.heap.size ≤ q) (hA : ∀ q, s.heap.size ≤ q → A q) (C0 : lw_At p s m meth c b L xs) {D : va_G} {cI cJ cZ : ClassId} {qx qm : Nat → Nat} (hK : va_K D vwCl (tyK cI cJ cZ) s) (hE : eW s) {i : Int32} (hi : ∀ j : Int32, In 0 5 j → vp_in (i + j) L) {bnd : Int} (hbd : bnd + 10560 ≤ 2147483647) {wx wm : va_W} (hIX : IX qx cI cJ cZ bnd wx) (hIM : IM qm cI cJ cZ wm) (hT : TW bnd wx wm) {H : Heap} {locs : List Loc} {ls : Array Slot} {cells slots : Nat} (hcs : cells ≤ 600000 ∧ slots ≤ 7302250) (hP : va_P D vwCl (wx ++ wm) H) (hD : va_D A (wx ++ wm)) (hS : va_S A s.heap H locs) (hl : lv_has ls 4 [(3, .int i), (2, .ref (qm 0)), (1, .ref (qx 0)), (0, .ref b)]) (kk : ∀ (qx1 : Nat → Nat) (wx1 wm1 : va_W) (H1 : Heap) (locs1 : List Loc) (ls1 : Array Slot), qx1 0 = qx 0 → IX qx1 cI cJ cZ (bnd + 10560) wx1 → IM qm cI cJ cZ wm1 → TW (bnd + 10560) wx1 wm1 → va_P D vwCl (wx1 ++ wm1) H1 → va_D A (wx1 ++ wm1) → va_S A s.heap H1 locs1 → lv_has ls1 4 [(3, .int i), (2, .ref (qm 0)), (1, .ref (qx 0)), (0, .ref b)] → W p l e room_1 s m #[Value.ref b] below meth c H1 locs1 cells slots (lw_Z below #[Value.ref b] s) (F0 m 1098 ls1 [])) : W p l e room_1 s m #[Value.ref b] below meth c H locs cells slots (lw_Z below #[Value.ref b] s) (F0 m 822 ls []) := by
  obtain ⟨hx, hb, hr, hml, hown0, hts0, hXs, hbl, hlocks, hgv⟩ := id C0
  have hown : s.vm.findClass RL = some m.cls := hown0
  have hts : ∀ w ∈ BIG, w.before #[Value.ref b] s = true := fun w h => hts0 w (big_lw w h)
  have hbA : ¬ A b := fun h => absurd hbl (Nat.not_lt.mpr (hAs b h))
  obtain ⟨⟨bp, hW⟩, hLD, hSB⟩ := hIX
  obtain ⟨hV, hLM, hLY, hRV⟩ := hIM
  obtain ⟨bq, OLq, La, hQG⟩ := hT.2.2.2
  have hQ := hQG.1
  have hR := hQ.1
  refine lv_aload_n hx hb dL_law_822 rfl (lv_at hl 2 rfl) ?_
  refine lv_aload_n hx hb dL_law_823 rfl (lv_at hl 3 rfl) ?_
  refine lv_iload_n hx hb dL_law_824 rfl (lv_at hl 0 rfl) ?_
  refine lv_iconst (v := 1) hx hb dL_law_825 (by decide) ?_
  refine lv_iadd hx hb dL_law_826 ?_
  refine va_sld hx hb hXs hbl hbA hS (hi 1 (In_lit (n := 1) (by decide) (by decide))) dL_law_827 ?_
  refine kL_i (wc := wx) (wr := wm) ⟨rfl, rfl⟩ hP hD hS hA (rL_V (As := [.int (xs (i + 1).toNatClampNeg)]) (rest := []) hx hb hml hown hts hK hE hP hD (e_X11_left l D cI cJ cZ qx bp wx hW (xs (i + 1).toNatClampNeg) _) ⟨⟨rfl, rfl⟩, rfl, rfl⟩ sv_L_100 ⟨(Nat.le_of_ble_eq_true rfl), (Nat.le_of_ble_eq_true rfl)⟩ hcs 0 11 (hW.o tX_0) rfl rfl rfl hl.1 rfl (Nat.le_of_ble_eq_true rfl) dL_law_828) (fun rx wx1 H locs hwx hP hD hS => ?_)
  refine lv_aload_n hx hb dL_law_831 rfl (lv_at hl 1 rfl) ?_
  refine lv_aload_n hx hb dL_law_832 rfl (lv_at hl 3 rfl) ?_
  refine lv_iload_n hx hb dL_law_833 rfl (lv_at hl 0 rfl) ?_
  refine lv_iconst (v := 1) hx hb dL_law_834 (by decide) ?_
  refine lv_iadd hx hb dL_law_835 ?_
  refine va_sld hx hb hXs hbl hbA hS (hi 1 (In_lit (n := 1) (by decide) (by decide))) dL_law_836 ?_
  refine kL_i (wc := wm) (wr := wx1) ⟨rfl, rfl⟩ hP hD hS hA (rL_V (As := [.int (xs (i + 1).toNatClampNeg)]) (rest := [.int rx]) hx hb hml hown hts hK hE hP hD (e_X12_left l D cI cJ cZ qm wm hV (xs (i + 1).toNatClampNeg) _) ⟨⟨rfl, rfl⟩, rfl, rfl⟩ sv_L_103 ⟨(Nat.le_of_ble_eq_true rfl), (Nat.le_of_ble_eq_true rfl)⟩ hcs 0 12 (hV.o tM_0) rfl rfl rfl hl.1 rfl (Nat.le_of_ble_eq_true rfl) dL_law_837) (fun rm wm1 H locs hwm hP hD hS => ?_)
  refine lv_icmp_eq (tgt := 1098) hx hb dL_law_840 (by decide) (fun _ => ?_) (fun h => absurd (q_eq.mpr (left3 (tyX hW) hQG hwx.2.2 hwm.2.2)) h)
  have hLD1 : LD wx1 := (LD_cg ((hwx.2.1).hA (by decide)) ((hwx.2.1).hA (by decide)) hLD)
  have hSB1 : SB (bnd + 10560) wx1 := (SB_w (SB_cg ((hwx.2.1).hA (by decide)) ((hwx.2.1).hA (by decide)) ((hwx.2.1).gI (by decide)) hSB) (by omega))
  have hIM1 : IM qm cI cJ cZ wm1 := ⟨hwm.1, (LM_cg ((hwm.2.1).hA (by decide)) ((hwm.2.1).hA (by decide)) hLM), (LY_cg ((hwm.2.1).hA (by decide)) ((hwm.2.1).hA (by decide)) ((hwm.2.1).gI (by decide)) hLY), (RV_cg ((hwm.2.1).hA (by decide)) ((hwm.2.1).hA (by decide)) ((hwm.2.1).hA (by decide)) ((hwm.2.1).gI (by decide)) hRV)⟩
  have hT1 : TW (bnd + 10560) wx1 wm1 := ⟨(((hwx.2.1).gI (by decide)).trans (hT.1.trans ((hwm.2.1).gI (by decide)).symm)), ((vw_sm ((hwx.2.1).1 32 (by decide))).trans (hT.2.1.trans (vw_sm ((hwm.2.1).1 1 (by decide))).symm)), (hT.2.2.1.cg (vw_sm ((hwx.2.1).1 33 (by decide)))), ⟨bq, OLq, La, RQ.fr hQ ((hwx.2.1).Fr hW hwx.1 intsX_ok intsX_ok) (by decide) ((K55.fr ((hwx.2.1).Fr hW hwx.1 intsX_ok intsX_ok) (by decide)).kv hR.2.2.2) ((hwm.2.1).Fr hV hwm.1 intsM_ok intsM_ok) (by decide) (by omega), (GV.fr hQG.2 ((hwx.2.1).Fr hW hwx.1 intsX_ok intsX_ok) (by decide) ((hwm.2.1).Fr hV hwm.1 intsM_ok intsM_ok) (by decide))⟩⟩
  exact kk qx wx1 wm1 H locs ls rfl ⟨⟨bp, hwx.1⟩, hLD1, hSB1⟩ hIM1 hT1 hP hD hS hl
set_option maxRecDepth 100000 in
set_option maxHeartbeats 16000000 in
theorem law_c21 {p : Program} {e : Env} {s : State} {m : MethodId} {below : List Frame} {meth : Method} {c : Code} (l : Launch) {b L : Nat} {xs : Nat → Int32} {A : Nat → Prop} (hAs : ∀ q, A q → s.heap.size ≤ q) (hA : ∀ q, s.heap.size ≤ q → A q) (C0 : lw_At p s m meth c b L xs) {D : va_G} {cI cJ cZ : ClassId} {qx qm : Nat → Nat} (hK : va_K D vwCl (tyK cI cJ cZ) s) (hE : eW s) {i : Int32} (hi : ∀ j : Int32, In 0 5 j → vp_in (i + j) L) {bnd : Int} (hbd : bnd + 10560 ≤ 2147483647) {wx wm : va_W} (hIX : IX qx cI cJ cZ bnd wx) (hIM : IM qm cI cJ cZ wm) (hT : TW bnd wx wm) {H : Heap} {locs : List Loc} {ls : Array Slot} {cells slots : Nat} (hcs : cells ≤ 600000 ∧ slots ≤ 7302250) (hP : va_P D vwCl (wx ++ wm) H) (hD : va_D A (wx ++ wm)) (hS : va_S A s.heap H locs) (hl : lv_has ls 4 [(3, .int i), (2, .ref (qm 0)), (1, .ref (qx 0)), (0, .ref b)]) (kk : ∀ (qx1 : Nat → Nat) (wx1 wm1 : va_W) (H1 : Heap) (locs1 : List Loc) (ls1 : Array Slot), qx1 0 = qx 0 → IX qx1 cI cJ cZ (bnd + 10560) wx1 → IM qm cI cJ cZ wm1 → TW (bnd + 10560) wx1 wm1 → va_P D vwCl (wx1 ++ wm1) H1 → va_D A (wx1 ++ wm1) → va_S A s.heap H1 locs1 → lv_has ls1 4 [(3, .int i), (2, .ref (qm 0)), (1, .ref (qx 0)), (0, .ref b)] → W p l e room_1 s m #[Value.ref b] below meth c H1 locs1 cells slots (lw_Z below #[Value.ref b] s) (F0 m 1098 ls1 [])) : W p l e room_1 s m #[Value.ref b] below meth c H locs cells slots (lw_Z below #[Value.ref b] s) (F0 m 845 ls []) := by
  obtain ⟨hx, hb, hr, hml, hown0, hts0, hXs, hbl, hlocks, hgv⟩ := id C0
  have hown : s.vm.findClass RL = some m.cls := hown0
  have hts : ∀ w ∈ BIG, w.before #[Value.ref b] s = true := fun w h => hts0 w (big_lw w h)
  have hbA : ¬ A b := fun h => absurd hbl (Nat.not_lt.mpr (hAs b h))
  obtain ⟨⟨bp, hW⟩, hLD, hSB⟩ := hIX
  obtain ⟨hV, hLM, hLY, hRV⟩ := hIM
  obtain ⟨bq, OLq, La, hQG⟩ := hT.2.2.2
  have hQ := hQG.1
  have hR := hQ.1
  refine lv_aload_n hx hb dL_law_845 rfl (lv_at hl 2 rfl) ?_
  refine kL_i (wc := wx) (wr := wm) ⟨rfl, rfl⟩ hP hD hS hA (rL_V (As := []) (rest := []) hx hb hml hown hts hK hE hP hD (e_X11_blind l D cI cJ cZ qx bp wx hW hLD bnd (by omega) hSB _) ⟨⟨rfl, rfl⟩, rfl, rfl⟩ sv_L_104 ⟨(Nat.le_of_ble_eq_true rfl), (Nat.le_of_ble_eq_true rfl)⟩ hcs 0 11 (hW.o tX_0) rfl rfl rfl hl.1 rfl (Nat.le_of_ble_eq_true rfl) dL_law_846) (fun rx wx1 H locs hwx hP hD hS => ?_)
  refine lv_pop hx hb dL_law_849 rfl ?_
  refine lv_aload_n hx hb dL_law_850 rfl (lv_at hl 1 rfl) ?_
  refine kL_i (wc := wm) (wr := wx1) ⟨rfl, rfl⟩ hP hD hS hA (rL_V (As := []) (rest := []) hx hb hml hown hts hK hE hP hD (e_X12_blind l D cI cJ cZ qm wm hV hLM hRV _) ⟨⟨rfl, rfl⟩, rfl, rfl⟩ sv_L_107 ⟨(Nat.le_of_ble_eq_true rfl), (Nat.le_of_ble_eq_true rfl)⟩ hcs 0 12 (hV.o tM_0) rfl rfl rfl hl.1 rfl (Nat.le_of_ble_eq_true rfl) dL_law_851) (fun rm wm1 H locs hwm hP hD hS => ?_)
  refine lv_pop hx hb dL_law_854 rfl ?_
  refine lv_goto (tgt := 1098) hx hb dL_law_855 (by decide) ?_
  have hLD1 : LD wx1 := (LD_cg ((hwx.2.1).hA (by decide)) ((hwx.2.1).hA (by decide)) hLD)
  have hSB1 : SB (bnd + 10560) wx1 := (SB_w hwx.2.2.1 (by omega))
  have hIM1 : IM qm cI cJ cZ wm1 := ⟨hwm.1, (LM_cg ((hwm.2.1).hA (by decide)) ((hwm.2.1).hA (by decide)) hLM), (LY_cg ((hwm.2.1).hA (by decide)) ((hwm.2.1).hA (by decide)) ((hwm.2.1).2 0 37 (by decide) (by decide)) hLY), (RV_cg ((hwm.2.1).hA (by decide)) ((hwm.2.1).hA (by decide)) ((hwm.2.1).hA (by decide)) ((hwm.2.1).2 0 12 (by decide) (by decide)) hRV)⟩
  have hT1 : TW (bnd + 10560) wx1 wm1 := ⟨(((hwx.2.1).gI (by decide)).trans (hT.1.trans ((hwm.2.1).2 0 1 (by decide) (by decide)).symm)), ((vw_sm ((hwx.2.1).1 32 (by decide))).trans (hT.2.1.trans (vw_sm ((hwm.2.1).1 1 (by decide))).symm)), (hT.2.2.1.cg (vw_sm ((hwx.2.1).1 33 (by decide)))), ⟨bq, OLq, La, RQ.frW hQ ((hwx.2.1).Fr hW hwx.1 intsX_ok intsX_ok) (by decide) (blindKV (tyX hW) hR hwx.2.2.2) ((hwm.2.1).Fr hV hwm.1 intsM_ok intsM_ok) (by decide) ((blindWG (tyX hW) (by omega) hQ hwx.2.2.2).le (by omega)), (GV.fr hQG.2 ((hwx.2.1).Fr hW hwx.1 intsX_ok intsX_ok) (by decide) ((hwm.2.1).Fr hV hwm.1 intsM_ok intsM_ok) (by decide))⟩⟩
  exact kk qx wx1 wm1 H locs ls rfl ⟨⟨bp, hwx.1⟩, hLD1, hSB1⟩ hIM1 hT1 hP hD hS hl
