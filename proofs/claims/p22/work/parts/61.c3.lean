set_option maxRecDepth 100000 in
set_option maxHeartbeats 16000000 in
theorem law_c22 {p : Program} {e : Env} {s : State} {m : MethodId} {below : List Frame} {meth : Method} {c : Code} (l : Launch) {b L : Nat} {xs : Nat → Int32} {A : Nat → Prop} (hAs : ∀ q, A q → s.heap.size ≤ q) (hA : ∀ q, s.heap.size ≤ q → A q) (C0 : lw_At p s m meth c b L xs) {D : va_G} {cI cJ cZ : ClassId} {qx qm : Nat → Nat} (hK : va_K D vwCl (tyK cI cJ cZ) s) (hE : eW s) {i : Int32} (hi : ∀ j : Int32, In 0 5 j → vp_in (i + j) L) {bnd : Int} (hbd : bnd + 10560 ≤ 2147483647) {wx wm : va_W} (hIX : IX qx cI cJ cZ bnd wx) (hIM : IM qm cI cJ cZ wm) (hT : TW bnd wx wm) {H : Heap} {locs : List Loc} {ls : Array Slot} {cells slots : Nat} (hcs : cells ≤ 600000 ∧ slots ≤ 7302250) (hP : va_P D vwCl (wx ++ wm) H) (hD : va_D A (wx ++ wm)) (hS : va_S A s.heap H locs) (hl : lv_has ls 4 [(3, .int i), (2, .ref (qm 0)), (1, .ref (qx 0)), (0, .ref b)]) (kk : ∀ (qx1 : Nat → Nat) (wx1 wm1 : va_W) (H1 : Heap) (locs1 : List Loc) (ls1 : Array Slot), qx1 0 = qx 0 → IX qx1 cI cJ cZ (bnd + 10560) wx1 → IM qm cI cJ cZ wm1 → TW (bnd + 10560) wx1 wm1 → va_P D vwCl (wx1 ++ wm1) H1 → va_D A (wx1 ++ wm1) → va_S A s.heap H1 locs1 → lv_has ls1 4 [(3, .int i), (2, .ref (qm 0)), (1, .ref (qx 0)), (0, .ref b)] → W p l e room_1 s m #[Value.ref b] below meth c H1 locs1 cells slots (lw_Z below #[Value.ref b] s) (F0 m 1098 ls1 [])) : W p l e room_1 s m #[Value.ref b] below meth c H locs cells slots (lw_Z below #[Value.ref b] s) (F0 m 858 ls []) := by
  obtain ⟨hx, hb, hr, hml, hown0, hts0, hXs, hbl, hlocks, hgv⟩ := id C0
  have hown : s.vm.findClass RL = some m.cls := hown0
  have hts : ∀ w ∈ BIG, w.before #[Value.ref b] s = true := fun w h => hts0 w (big_lw w h)
  have hbA : ¬ A b := fun h => absurd hbl (Nat.not_lt.mpr (hAs b h))
  obtain ⟨⟨bp, hW⟩, hLD, hSB⟩ := hIX
  obtain ⟨hV, hLM, hLY, hRV⟩ := hIM
  obtain ⟨bq, OLq, La, hQG⟩ := hT.2.2.2
  have hQ := hQG.1
  have hR := hQ.1
  refine lv_aload_n hx hb dL_law_858 rfl (lv_at hl 2 rfl) ?_
  refine lv_aload_n hx hb dL_law_859 rfl (lv_at hl 3 rfl) ?_
  refine lv_iload_n hx hb dL_law_860 rfl (lv_at hl 0 rfl) ?_
  refine lv_iconst (v := 1) hx hb dL_law_861 (by decide) ?_
  refine lv_iadd hx hb dL_law_862 ?_
  refine va_sld hx hb hXs hbl hbA hS (hi 1 (In_lit (n := 1) (by decide) (by decide))) dL_law_863 ?_
  refine lv_aload_n hx hb dL_law_864 rfl (lv_at hl 3 rfl) ?_
  refine lv_iload_n hx hb dL_law_865 rfl (lv_at hl 0 rfl) ?_
  refine lv_iconst (v := 2) hx hb dL_law_866 (by decide) ?_
  refine lv_iadd hx hb dL_law_867 ?_
  refine va_sld hx hb hXs hbl hbA hS (hi 2 (In_lit (n := 2) (by decide) (by decide))) dL_law_868 ?_
  refine kL_i (wc := wx) (wr := wm) ⟨rfl, rfl⟩ hP hD hS hA (rL_V (As := [.int (xs (i + 1).toNatClampNeg), .int (xs (i + 2).toNatClampNeg)]) (rest := []) hx hb hml hown hts hK hE hP hD (e_X11_lacks l D cI cJ cZ qx bp wx hW (xs (i + 1).toNatClampNeg) (xs (i + 2).toNatClampNeg) _) ⟨⟨rfl, rfl⟩, rfl, rfl⟩ sv_L_108 ⟨(Nat.le_of_ble_eq_true rfl), (Nat.le_of_ble_eq_true rfl)⟩ hcs 0 11 (hW.o tX_0) rfl rfl rfl hl.1 rfl (Nat.le_of_ble_eq_true rfl) dL_law_869) (fun rx wx1 H locs hwx hP hD hS => ?_)
  refine lv_pop hx hb dL_law_872 rfl ?_
  refine lv_aload_n hx hb dL_law_873 rfl (lv_at hl 1 rfl) ?_
  refine lv_aload_n hx hb dL_law_874 rfl (lv_at hl 3 rfl) ?_
  refine lv_iload_n hx hb dL_law_875 rfl (lv_at hl 0 rfl) ?_
  refine lv_iconst (v := 1) hx hb dL_law_876 (by decide) ?_
  refine lv_iadd hx hb dL_law_877 ?_
  refine va_sld hx hb hXs hbl hbA hS (hi 1 (In_lit (n := 1) (by decide) (by decide))) dL_law_878 ?_
  refine lv_aload_n hx hb dL_law_879 rfl (lv_at hl 3 rfl) ?_
  refine lv_iload_n hx hb dL_law_880 rfl (lv_at hl 0 rfl) ?_
  refine lv_iconst (v := 2) hx hb dL_law_881 (by decide) ?_
  refine lv_iadd hx hb dL_law_882 ?_
  refine va_sld hx hb hXs hbl hbA hS (hi 2 (In_lit (n := 2) (by decide) (by decide))) dL_law_883 ?_
  refine kL_i (wc := wm) (wr := wx1) ⟨rfl, rfl⟩ hP hD hS hA (rL_V (As := [.int (xs (i + 1).toNatClampNeg), .int (xs (i + 2).toNatClampNeg)]) (rest := []) hx hb hml hown hts hK hE hP hD (e_X12_lacks l D cI cJ cZ qm wm hV (xs (i + 1).toNatClampNeg) (xs (i + 2).toNatClampNeg) _) ⟨⟨rfl, rfl⟩, rfl, rfl⟩ sv_L_111 ⟨(Nat.le_of_ble_eq_true rfl), (Nat.le_of_ble_eq_true rfl)⟩ hcs 0 12 (hV.o tM_0) rfl rfl rfl hl.1 rfl (Nat.le_of_ble_eq_true rfl) dL_law_884) (fun rm wm1 H locs hwm hP hD hS => ?_)
  refine lv_pop hx hb dL_law_887 rfl ?_
  refine lv_goto (tgt := 1098) hx hb dL_law_888 (by decide) ?_
  have hLD1 : LD wx1 := (LD_cg ((hwx.2.1).hA (by decide)) ((hwx.2.1).hA (by decide)) hLD)
  have hSB1 : SB (bnd + 10560) wx1 := (SB_w (SB_cg ((hwx.2.1).hA (by decide)) ((hwx.2.1).hA (by decide)) ((hwx.2.1).gI (by decide)) hSB) (by omega))
  have hIM1 : IM qm cI cJ cZ wm1 := ⟨hwm.1, (LM_cg ((hwm.2.1).hA (by decide)) ((hwm.2.1).hA (by decide)) hLM), (LY_cg ((hwm.2.1).hA (by decide)) ((hwm.2.1).hA (by decide)) ((hwm.2.1).gI (by decide)) hLY), (RV_cg ((hwm.2.1).hA (by decide)) ((hwm.2.1).hA (by decide)) ((hwm.2.1).hA (by decide)) ((hwm.2.1).gI (by decide)) hRV)⟩
  have hT1 : TW (bnd + 10560) wx1 wm1 := ⟨(((hwx.2.1).gI (by decide)).trans (hT.1.trans ((hwm.2.1).gI (by decide)).symm)), ((vw_sm ((hwx.2.1).1 32 (by decide))).trans (hT.2.1.trans (vw_sm ((hwm.2.1).1 1 (by decide))).symm)), (hT.2.2.1.cg (vw_sm ((hwx.2.1).1 33 (by decide)))), ⟨bq, OLq, La, RQ.fr hQ ((hwx.2.1).Fr hW hwx.1 intsX_ok intsX_ok) (by decide) ((K55.fr ((hwx.2.1).Fr hW hwx.1 intsX_ok intsX_ok) (by decide)).kv hR.2.2.2) ((hwm.2.1).Fr hV hwm.1 intsM_ok intsM_ok) (by decide) (by omega), (GV.fr hQG.2 ((hwx.2.1).Fr hW hwx.1 intsX_ok intsX_ok) (by decide) ((hwm.2.1).Fr hV hwm.1 intsM_ok intsM_ok) (by decide))⟩⟩
  exact kk qx wx1 wm1 H locs ls rfl ⟨⟨bp, hwx.1⟩, hLD1, hSB1⟩ hIM1 hT1 hP hD hS hl
set_option maxRecDepth 100000 in
set_option maxHeartbeats 16000000 in
theorem law_c23 {p : Program} {e : Env} {s : State} {m : MethodId} {below : List Frame} {meth : Method} {c : Code} (l : Launch) {b L : Nat} {xs : Nat → Int32} {A : Nat → Prop} (hAs : ∀ q, A q → s.heap.size ≤ q) (hA : ∀ q, s.heap.size ≤ q → A q) (C0 : lw_At p s m meth c b L xs) {D : va_G} {cI cJ cZ : ClassId} {qx qm : Nat → Nat} (hK : va_K D vwCl (tyK cI cJ cZ) s) (hE : eW s) {i : Int32} (hi : ∀ j : Int32, In 0 5 j → vp_in (i + j) L) {bnd : Int} (hbd : bnd + 10560 ≤ 2147483647) {wx wm : va_W} (hIX : IX qx cI cJ cZ bnd wx) (hIM : IM qm cI cJ cZ wm) (hT : TW bnd wx wm) {H : Heap} {locs : List Loc} {ls : Array Slot} {cells slots : Nat} (hcs : cells ≤ 600000 ∧ slots ≤ 7302250) (hP : va_P D vwCl (wx ++ wm) H) (hD : va_D A (wx ++ wm)) (hS : va_S A s.heap H locs) (hl : lv_has ls 4 [(3, .int i), (2, .ref (qm 0)), (1, .ref (qx 0)), (0, .ref b)]) (kk : ∀ (qx1 : Nat → Nat) (wx1 wm1 : va_W) (H1 : Heap) (locs1 : List Loc) (ls1 : Array Slot), qx1 0 = qx 0 → IX qx1 cI cJ cZ (bnd + 10560) wx1 → IM qm cI cJ cZ wm1 → TW (bnd + 10560) wx1 wm1 → va_P D vwCl (wx1 ++ wm1) H1 → va_D A (wx1 ++ wm1) → va_S A s.heap H1 locs1 → lv_has ls1 4 [(3, .int i), (2, .ref (qm 0)), (1, .ref (qx 0)), (0, .ref b)] → W p l e room_1 s m #[Value.ref b] below meth c H1 locs1 cells slots (lw_Z below #[Value.ref b] s) (F0 m 1098 ls1 [])) : W p l e room_1 s m #[Value.ref b] below meth c H locs cells slots (lw_Z below #[Value.ref b] s) (F0 m 891 ls []) := by
  obtain ⟨hx, hb, hr, hml, hown0, hts0, hXs, hbl, hlocks, hgv⟩ := id C0
  have hown : s.vm.findClass RL = some m.cls := hown0
  have hts : ∀ w ∈ BIG, w.before #[Value.ref b] s = true := fun w h => hts0 w (big_lw w h)
  have hbA : ¬ A b := fun h => absurd hbl (Nat.not_lt.mpr (hAs b h))
  obtain ⟨⟨bp, hW⟩, hLD, hSB⟩ := hIX
  obtain ⟨hV, hLM, hLY, hRV⟩ := hIM
  obtain ⟨bq, OLq, La, hQG⟩ := hT.2.2.2
  have hQ := hQG.1
  have hR := hQ.1
  refine lv_aload_n hx hb dL_law_891 rfl (lv_at hl 2 rfl) ?_
  refine lv_aload_n hx hb dL_law_892 rfl (lv_at hl 3 rfl) ?_
  refine lv_iload_n hx hb dL_law_893 rfl (lv_at hl 0 rfl) ?_
  refine lv_iconst (v := 1) hx hb dL_law_894 (by decide) ?_
  refine lv_iadd hx hb dL_law_895 ?_
  refine va_sld hx hb hXs hbl hbA hS (hi 1 (In_lit (n := 1) (by decide) (by decide))) dL_law_896 ?_
  refine kL_i (wc := wx) (wr := wm) ⟨rfl, rfl⟩ hP hD hS hA (rL_V (As := [.int (xs (i + 1).toNatClampNeg)]) (rest := []) hx hb hml hown hts hK hE hP hD (e_X11_price l D cI cJ cZ qx bp wx hW (xs (i + 1).toNatClampNeg) _) ⟨⟨rfl, rfl⟩, rfl, rfl⟩ sv_L_112 ⟨(Nat.le_of_ble_eq_true rfl), (Nat.le_of_ble_eq_true rfl)⟩ hcs 0 11 (hW.o tX_0) rfl rfl rfl hl.1 rfl (Nat.le_of_ble_eq_true rfl) dL_law_897) (fun rx wx1 H locs hwx hP hD hS => ?_)
  refine lv_pop hx hb dL_law_900 rfl ?_
  refine lv_aload_n hx hb dL_law_901 rfl (lv_at hl 1 rfl) ?_
  refine lv_aload_n hx hb dL_law_902 rfl (lv_at hl 3 rfl) ?_
  refine lv_iload_n hx hb dL_law_903 rfl (lv_at hl 0 rfl) ?_
  refine lv_iconst (v := 1) hx hb dL_law_904 (by decide) ?_
  refine lv_iadd hx hb dL_law_905 ?_
  refine va_sld hx hb hXs hbl hbA hS (hi 1 (In_lit (n := 1) (by decide) (by decide))) dL_law_906 ?_
  refine kL_i (wc := wm) (wr := wx1) ⟨rfl, rfl⟩ hP hD hS hA (rL_V (As := [.int (xs (i + 1).toNatClampNeg)]) (rest := []) hx hb hml hown hts hK hE hP hD (e_X12_price l D cI cJ cZ qm wm hV (xs (i + 1).toNatClampNeg) _) ⟨⟨rfl, rfl⟩, rfl, rfl⟩ sv_L_115 ⟨(Nat.le_of_ble_eq_true rfl), (Nat.le_of_ble_eq_true rfl)⟩ hcs 0 12 (hV.o tM_0) rfl rfl rfl hl.1 rfl (Nat.le_of_ble_eq_true rfl) dL_law_907) (fun rm wm1 H locs hwm hP hD hS => ?_)
  refine lv_pop hx hb dL_law_910 rfl ?_
  refine lv_goto (tgt := 1098) hx hb dL_law_911 (by decide) ?_
  have hLD1 : LD wx1 := (LD_cg ((hwx.2.1).hA (by decide)) ((hwx.2.1).hA (by decide)) hLD)
  have hSB1 : SB (bnd + 10560) wx1 := (SB_w (SB_cg ((hwx.2.1).hA (by decide)) ((hwx.2.1).hA (by decide)) ((hwx.2.1).gI (by decide)) hSB) (by omega))
  have hIM1 : IM qm cI cJ cZ wm1 := ⟨hwm.1, (LM_cg ((hwm.2.1).hA (by decide)) ((hwm.2.1).hA (by decide)) hLM), (LY_cg ((hwm.2.1).hA (by decide)) ((hwm.2.1).hA (by decide)) ((hwm.2.1).2 0 37 (by decide) (by decide)) hLY), (RV_cg ((hwm.2.1).hA (by decide)) ((hwm.2.1).hA (by decide)) ((hwm.2.1).hA (by decide)) ((hwm.2.1).2 0 12 (by decide) (by decide)) hRV)⟩
  have hT1 : TW (bnd + 10560) wx1 wm1 := ⟨(((hwx.2.1).gI (by decide)).trans (hT.1.trans ((hwm.2.1).2 0 1 (by decide) (by decide)).symm)), ((vw_sm ((hwx.2.1).1 32 (by decide))).trans (hT.2.1.trans (vw_sm ((hwm.2.1).1 1 (by decide))).symm)), (hT.2.2.1.cg (vw_sm ((hwx.2.1).1 33 (by decide)))), ⟨bq, OLq, La, RQ.fr hQ ((hwx.2.1).Fr hW hwx.1 intsX_ok intsX_ok) (by decide) ((K55.fr ((hwx.2.1).Fr hW hwx.1 intsX_ok intsX_ok) (by decide)).kv hR.2.2.2) ((hwm.2.1).Fr hV hwm.1 intsM_ok intsM_ok) (by decide) (by omega), (GV.fr hQG.2 ((hwx.2.1).Fr hW hwx.1 intsX_ok intsX_ok) (by decide) ((hwm.2.1).Fr hV hwm.1 intsM_ok intsM_ok) (by decide))⟩⟩
  exact kk qx wx1 wm1 H locs ls rfl ⟨⟨bp, hwx.1⟩, hLD1, hSB1⟩ hIM1 hT1 hP hD hS hl
set_option maxRecDepth 100000 in
set_option maxHeartbeats 16000000 in
theorem law_c24 {p : Program} {e : Env} {s : State} {m : MethodId} {below : List Frame} {meth : Method} {c : Code} (l : Launch) {b L : Nat} {xs : Nat → Int32} {A : Nat → Prop} (hAs : ∀ q, A q → s.heap.size ≤ q) (hA : ∀ q, s.heap.size ≤ q → A q) (C0 : lw_At p s m meth c b L xs) {D : va_G} {cI cJ cZ : ClassId} {qx qm : Nat → Nat} (hK : va_K D vwCl (tyK cI cJ cZ) s) (hE : eW s) {i : Int32} (hi : ∀ j : Int32, In 0 5 j → vp_in (i + j) L) {bnd : Int} (hbd : bnd + 10560 ≤ 2147483647) {wx wm : va_W} (hIX : IX qx cI cJ cZ bnd wx) (hIM : IM qm cI cJ cZ wm) (hT : TW bnd wx wm) {H : Heap} {locs : List Loc} {ls : Array Slot} {cells slots : Nat} (hcs : cells ≤ 600000 ∧ slots ≤ 7302250) (hP : va_P D vwCl (wx ++ wm) H) (hD : va_D A (wx ++ wm)) (hS : va_S A s.heap H locs) (hl : lv_has ls 4 [(3, .int i), (2, .ref (qm 0)), (1, .ref (qx 0)), (0, .ref b)]) (kk : ∀ (qx1 : Nat → Nat) (wx1 wm1 : va_W) (H1 : Heap) (locs1 : List Loc) (ls1 : Array Slot), qx1 0 = qx 0 → IX qx1 cI cJ cZ (bnd + 10560) wx1 → IM qm cI cJ cZ wm1 → TW (bnd + 10560) wx1 wm1 → va_P D vwCl (wx1 ++ wm1) H1 → va_D A (wx1 ++ wm1) → va_S A s.heap H1 locs1 → lv_has ls1 4 [(3, .int i), (2, .ref (qm 0)), (1, .ref (qx 0)), (0, .ref b)] → W p l e room_1 s m #[Value.ref b] below meth c H1 locs1 cells slots (lw_Z below #[Value.ref b] s) (F0 m 1098 ls1 [])) : W p l e room_1 s m #[Value.ref b] below meth c H locs cells slots (lw_Z below #[Value.ref b] s) (F0 m 914 ls []) := by
  obtain ⟨hx, hb, hr, hml, hown0, hts0, hXs, hbl, hlocks, hgv⟩ := id C0
  have hown : s.vm.findClass RL = some m.cls := hown0
  have hts : ∀ w ∈ BIG, w.before #[Value.ref b] s = true := fun w h => hts0 w (big_lw w h)
  have hbA : ¬ A b := fun h => absurd hbl (Nat.not_lt.mpr (hAs b h))
  obtain ⟨⟨bp, hW⟩, hLD, hSB⟩ := hIX
  obtain ⟨hV, hLM, hLY, hRV⟩ := hIM
  obtain ⟨bq, OLq, La, hQG⟩ := hT.2.2.2
  have hQ := hQG.1
  have hR := hQ.1
  refine lv_aload_n hx hb dL_law_914 rfl (lv_at hl 2 rfl) ?_
  refine lv_aload_n hx hb dL_law_915 rfl (lv_at hl 3 rfl) ?_
  refine lv_iload_n hx hb dL_law_916 rfl (lv_at hl 0 rfl) ?_
  refine lv_iconst (v := 1) hx hb dL_law_917 (by decide) ?_
  refine lv_iadd hx hb dL_law_918 ?_
  refine va_sld hx hb hXs hbl hbA hS (hi 1 (In_lit (n := 1) (by decide) (by decide))) dL_law_919 ?_
  refine kL_i (wc := wx) (wr := wm) ⟨rfl, rfl⟩ hP hD hS hA (rL_V (As := [.int (xs (i + 1).toNatClampNeg)]) (rest := []) hx hb hml hown hts hK hE hP hD (e_X11_spend l D cI cJ cZ qx bp wx hW (xs (i + 1).toNatClampNeg) _) ⟨⟨rfl, rfl⟩, rfl, rfl⟩ sv_L_116 ⟨(Nat.le_of_ble_eq_true rfl), (Nat.le_of_ble_eq_true rfl)⟩ hcs 0 11 (hW.o tX_0) rfl rfl rfl hl.1 rfl (Nat.le_of_ble_eq_true rfl) dL_law_920) (fun rx wx1 H locs hwx hP hD hS => ?_)
  refine lv_pop hx hb dL_law_923 rfl ?_
  refine lv_aload_n hx hb dL_law_924 rfl (lv_at hl 1 rfl) ?_
  refine lv_aload_n hx hb dL_law_925 rfl (lv_at hl 3 rfl) ?_
  refine lv_iload_n hx hb dL_law_926 rfl (lv_at hl 0 rfl) ?_
  refine lv_iconst (v := 1) hx hb dL_law_927 (by decide) ?_
  refine lv_iadd hx hb dL_law_928 ?_
  refine va_sld hx hb hXs hbl hbA hS (hi 1 (In_lit (n := 1) (by decide) (by decide))) dL_law_929 ?_
  refine kL_i (wc := wm) (wr := wx1) ⟨rfl, rfl⟩ hP hD hS hA (rL_V (As := [.int (xs (i + 1).toNatClampNeg)]) (rest := []) hx hb hml hown hts hK hE hP hD (e_X12_spend l D cI cJ cZ qm wm hV (xs (i + 1).toNatClampNeg) _) ⟨⟨rfl, rfl⟩, rfl, rfl⟩ sv_L_119 ⟨(Nat.le_of_ble_eq_true rfl), (Nat.le_of_ble_eq_true rfl)⟩ hcs 0 12 (hV.o tM_0) rfl rfl rfl hl.1 rfl (Nat.le_of_ble_eq_true rfl) dL_law_930) (fun rm wm1 H locs hwm hP hD hS => ?_)
  refine lv_pop hx hb dL_law_933 rfl ?_
  refine lv_goto (tgt := 1098) hx hb dL_law_934 (by decide) ?_
  have hLD1 : LD wx1 := (LD_cg ((hwx.2.1).hA (by decide)) ((hwx.2.1).hA (by decide)) hLD)
  have hSB1 : SB (bnd + 10560) wx1 := (SB_w (SB_cg ((hwx.2.1).hA (by decide)) ((hwx.2.1).hA (by decide)) ((hwx.2.1).gI (by decide)) hSB) (by omega))
  have hIM1 : IM qm cI cJ cZ wm1 := ⟨hwm.1, (LM_cg ((hwm.2.1).hA (by decide)) ((hwm.2.1).hA (by decide)) hLM), (LY_cg ((hwm.2.1).hA (by decide)) ((hwm.2.1).hA (by decide)) ((hwm.2.1).2 0 37 (by decide) (by decide)) hLY), (RV_cg ((hwm.2.1).hA (by decide)) ((hwm.2.1).hA (by decide)) ((hwm.2.1).hA (by decide)) ((hwm.2.1).2 0 12 (by decide) (by decide)) hRV)⟩
  have hT1 : TW (bnd + 10560) wx1 wm1 := ⟨(((hwx.2.1).gI (by decide)).trans (hT.1.trans ((hwm.2.1).2 0 1 (by decide) (by decide)).symm)), ((vw_sm ((hwx.2.1).1 32 (by decide))).trans (hT.2.1.trans (vw_sm ((hwm.2.1).1 1 (by decide))).symm)), (hT.2.2.1.cg (vw_sm ((hwx.2.1).1 33 (by decide)))), ⟨bq, OLq, La, RQ.fr hQ ((hwx.2.1).Fr hW hwx.1 intsX_ok intsX_ok) (by decide) ((K55.fr ((hwx.2.1).Fr hW hwx.1 intsX_ok intsX_ok) (by decide)).kv hR.2.2.2) ((hwm.2.1).Fr hV hwm.1 intsM_ok intsM_ok) (by decide) (by omega), (GV.fr hQG.2 ((hwx.2.1).Fr hW hwx.1 intsX_ok intsX_ok) (by decide) ((hwm.2.1).Fr hV hwm.1 intsM_ok intsM_ok) (by decide))⟩⟩
  exact kk qx wx1 wm1 H locs ls rfl ⟨⟨bp, hwx.1⟩, hLD1, hSB1⟩ hIM1 hT1 hP hD hS hl
set_option maxRecDepth 100000 in
set_option maxHeartbeats 16000000 in
theorem law_c25 {p : Program} {e : Env} {s : State} {m : MethodId} {below : List Frame} {meth : Method} {c : Code} (l : Launch) {b L : Nat} {xs : Nat → Int32} {A : Nat → Prop} (hAs : ∀ q, A q → s.heap.size ≤ q) (hA : ∀ q, s.heap.size ≤ q → A q) (C0 : lw_At p s m meth c b L xs) {D : va_G} {cI cJ cZ : ClassId} {qx qm : Nat → Nat} (hK : va_K D vwCl (tyK cI cJ cZ) s) (hE : eW s) {i : Int32} (hi : ∀ j : Int32, In 0 5 j → vp_in (i + j) L) {bnd : Int} (hbd : bnd + 10560 ≤ 2147483647) {wx wm : va_W} (hIX : IX qx cI cJ cZ bnd wx) (hIM : IM qm cI cJ cZ wm) (hT : TW bnd wx wm) {H : Heap} {locs : List Loc} {ls : Array Slot} {cells slots : Nat} (hcs : cells ≤ 600000 ∧ slots ≤ 7302250) (hP : va_P D vwCl (wx ++ wm) H) (hD : va_D A (wx ++ wm)) (hS : va_S A s.heap H locs) (hl : lv_has ls 4 [(3, .int i), (2, .ref (qm 0)), (1, .ref (qx 0)), (0, .ref b)]) (kk : ∀ (qx1 : Nat → Nat) (wx1 wm1 : va_W) (H1 : Heap) (locs1 : List Loc) (ls1 : Array Slot), qx1 0 = qx 0 → IX qx1 cI cJ cZ (bnd + 10560) wx1 → IM qm cI cJ cZ wm1 → TW (bnd + 10560) wx1 wm1 → va_P D vwCl (wx1 ++ wm1) H1 → va_D A (wx1 ++ wm1) → va_S A s.heap H1 locs1 → lv_has ls1 4 [(3, .int i), (2, .ref (qm 0)), (1, .ref (qx 0)), (0, .ref b)] → W p l e room_1 s m #[Value.ref b] below meth c H1 locs1 cells slots (lw_Z below #[Value.ref b] s) (F0 m 1098 ls1 [])) : W p l e room_1 s m #[Value.ref b] below meth c H locs cells slots (lw_Z below #[Value.ref b] s) (F0 m 937 ls []) := by
  obtain ⟨hx, hb, hr, hml, hown0, hts0, hXs, hbl, hlocks, hgv⟩ := id C0
  have hown : s.vm.findClass RL = some m.cls := hown0
  have hts : ∀ w ∈ BIG, w.before #[Value.ref b] s = true := fun w h => hts0 w (big_lw w h)
  have hbA : ¬ A b := fun h => absurd hbl (Nat.not_lt.mpr (hAs b h))
  obtain ⟨⟨bp, hW⟩, hLD, hSB⟩ := hIX
  obtain ⟨hV, hLM, hLY, hRV⟩ := hIM
  obtain ⟨bq, OLq, La, hQG⟩ := hT.2.2.2
  have hQ := hQG.1
  have hR := hQ.1
  refine lv_aload_n hx hb dL_law_937 rfl (lv_at hl 2 rfl) ?_
  refine kL_i (wc := wx) (wr := wm) ⟨rfl, rfl⟩ hP hD hS hA (rL_V (As := []) (rest := []) hx hb hml hown hts hK hE hP hD (e_X11_spent l D cI cJ cZ qx bp wx hW _) ⟨⟨rfl, rfl⟩, rfl, rfl⟩ sv_L_120 ⟨(Nat.le_of_ble_eq_true rfl), (Nat.le_of_ble_eq_true rfl)⟩ hcs 0 11 (hW.o tX_0) rfl rfl rfl hl.1 rfl (Nat.le_of_ble_eq_true rfl) dL_law_938) (fun rx wx1 H locs hwx hP hD hS => ?_)
  refine lv_pop hx hb dL_law_941 rfl ?_
  refine lv_aload_n hx hb dL_law_942 rfl (lv_at hl 1 rfl) ?_
  refine kL_i (wc := wm) (wr := wx1) ⟨rfl, rfl⟩ hP hD hS hA (rL_V (As := []) (rest := []) hx hb hml hown hts hK hE hP hD (e_X12_spent l D cI cJ cZ qm wm hV _) ⟨⟨rfl, rfl⟩, rfl, rfl⟩ sv_L_123 ⟨(Nat.le_of_ble_eq_true rfl), (Nat.le_of_ble_eq_true rfl)⟩ hcs 0 12 (hV.o tM_0) rfl rfl rfl hl.1 rfl (Nat.le_of_ble_eq_true rfl) dL_law_943) (fun rm wm1 H locs hwm hP hD hS => ?_)
  refine lv_pop hx hb dL_law_946 rfl ?_
  refine lv_goto (tgt := 1098) hx hb dL_law_947 (by decide) ?_
  have hLD1 : LD wx1 := (LD_cg ((hwx.2.1).hA (by decide)) ((hwx.2.1).hA (by decide)) hLD)
  have hSB1 : SB (bnd + 10560) wx1 := (SB_w (SB_cg ((hwx.2.1).hA (by decide)) ((hwx.2.1).hA (by decide)) ((hwx.2.1).gI (by decide)) hSB) (by omega))
  have hIM1 : IM qm cI cJ cZ wm1 := ⟨hwm.1, (LM_cg ((hwm.2.1).hA (by decide)) ((hwm.2.1).hA (by decide)) hLM), (LY_cg ((hwm.2.1).hA (by decide)) ((hwm.2.1).hA (by decide)) ((hwm.2.1).gI (by decide)) hLY), (RV_cg ((hwm.2.1).hA (by decide)) ((hwm.2.1).hA (by decide)) ((hwm.2.1).hA (by decide)) ((hwm.2.1).gI (by decide)) hRV)⟩
  have hT1 : TW (bnd + 10560) wx1 wm1 := ⟨(((hwx.2.1).gI (by decide)).trans (hT.1.trans ((hwm.2.1).gI (by decide)).symm)), ((vw_sm ((hwx.2.1).1 32 (by decide))).trans (hT.2.1.trans (vw_sm ((hwm.2.1).1 1 (by decide))).symm)), (hT.2.2.1.cg (vw_sm ((hwx.2.1).1 33 (by decide)))), ⟨bq, OLq, La, RQ.fr hQ ((hwx.2.1).Fr hW hwx.1 intsX_ok intsX_ok) (by decide) ((K55.fr ((hwx.2.1).Fr hW hwx.1 intsX_ok intsX_ok) (by decide)).kv hR.2.2.2) ((hwm.2.1).Fr hV hwm.1 intsM_ok intsM_ok) (by decide) (by omega), (GV.fr hQG.2 ((hwx.2.1).Fr hW hwx.1 intsX_ok intsX_ok) (by decide) ((hwm.2.1).Fr hV hwm.1 intsM_ok intsM_ok) (by decide))⟩⟩
  exact kk qx wx1 wm1 H locs ls rfl ⟨⟨bp, hwx.1⟩, hLD1, hSB1⟩ hIM1 hT1 hP hD hS hl
set_option maxRecDepth 100000 in
set_option maxHeartbeats 16000000 in
theorem law_c26 {p : Program} {e : Env} {s : State} {m : MethodId} {below : List Frame} {meth : Method} {c : Code} (l : Launch) {b L : Nat} {xs : Nat → Int32} {A : Nat → Prop} (hAs : ∀ q, A q → s.heap.size ≤ q) (hA : ∀ q, s.heap.size ≤ q → A q) (C0 : lw_At p s m meth c b L xs) {D : va_G} {cI cJ cZ : ClassId} {qx qm : Nat → Nat} (hK : va_K D vwCl (tyK cI cJ cZ) s) (hE : eW s) {i : Int32} (hi : ∀ j : Int32, In 0 5 j → vp_in (i + j) L) {bnd : Int} (hbd : bnd + 10560 ≤ 2147483647) {wx wm : va_W} (hIX : IX qx cI cJ cZ bnd wx) (hIM : IM qm cI cJ cZ wm) (hT : TW bnd wx wm) {H : Heap} {locs : List Loc} {ls : Array Slot} {cells slots : Nat} (hcs : cells ≤ 600000 ∧ slots ≤ 7302250) (hP : va_P D vwCl (wx ++ wm) H) (hD : va_D A (wx ++ wm)) (hS : va_S A s.heap H locs) (hl : lv_has ls 4 [(3, .int i), (2, .ref (qm 0)), (1, .ref (qx 0)), (0, .ref b)]) (kk : ∀ (qx1 : Nat → Nat) (wx1 wm1 : va_W) (H1 : Heap) (locs1 : List Loc) (ls1 : Array Slot), qx1 0 = qx 0 → IX qx1 cI cJ cZ (bnd + 10560) wx1 → IM qm cI cJ cZ wm1 → TW (bnd + 10560) wx1 wm1 → va_P D vwCl (wx1 ++ wm1) H1 → va_D A (wx1 ++ wm1) → va_S A s.heap H1 locs1 → lv_has ls1 4 [(3, .int i), (2, .ref (qm 0)), (1, .ref (qx 0)), (0, .ref b)] → W p l e room_1 s m #[Value.ref b] below meth c H1 locs1 cells slots (lw_Z below #[Value.ref b] s) (F0 m 1098 ls1 [])) : W p l e room_1 s m #[Value.ref b] below meth c H locs cells slots (lw_Z below #[Value.ref b] s) (F0 m 950 ls []) := by
  obtain ⟨hx, hb, hr, hml, hown0, hts0, hXs, hbl, hlocks, hgv⟩ := id C0
  have hown : s.vm.findClass RL = some m.cls := hown0
  have hts : ∀ w ∈ BIG, w.before #[Value.ref b] s = true := fun w h => hts0 w (big_lw w h)
  have hbA : ¬ A b := fun h => absurd hbl (Nat.not_lt.mpr (hAs b h))
  obtain ⟨⟨bp, hW⟩, hLD, hSB⟩ := hIX
  obtain ⟨hV, hLM, hLY, hRV⟩ := hIM
  obtain ⟨bq, OLq, La, hQG⟩ := hT.2.2.2
  have hQ := hQG.1
  have hR := hQ.1
  refine lv_aload_n hx hb dL_law_950 rfl (lv_at hl 2 rfl) ?_
  refine kL_i (wc := wx) (wr := wm) ⟨rfl, rfl⟩ hP hD hS hA (rL_V (As := []) (rest := []) hx hb hml hown hts hK hE hP hD (e_X11_right l D cI cJ cZ qx bp wx hW _) ⟨⟨rfl, rfl⟩, rfl, rfl⟩ sv_L_124 ⟨(Nat.le_of_ble_eq_true rfl), (Nat.le_of_ble_eq_true rfl)⟩ hcs 0 11 (hW.o tX_0) rfl rfl rfl hl.1 rfl (Nat.le_of_ble_eq_true rfl) dL_law_951) (fun rx wx1 H locs hwx hP hD hS => ?_)
  refine lv_pop hx hb dL_law_954 rfl ?_
  refine lv_aload_n hx hb dL_law_955 rfl (lv_at hl 1 rfl) ?_
  refine kL_i (wc := wm) (wr := wx1) ⟨rfl, rfl⟩ hP hD hS hA (rL_V (As := []) (rest := []) hx hb hml hown hts hK hE hP hD (e_X12_right l D cI cJ cZ qm wm hV _) ⟨⟨rfl, rfl⟩, rfl, rfl⟩ sv_L_127 ⟨(Nat.le_of_ble_eq_true rfl), (Nat.le_of_ble_eq_true rfl)⟩ hcs 0 12 (hV.o tM_0) rfl rfl rfl hl.1 rfl (Nat.le_of_ble_eq_true rfl) dL_law_956) (fun rm wm1 H locs hwm hP hD hS => ?_)
  refine lv_pop hx hb dL_law_959 rfl ?_
  refine lv_goto (tgt := 1098) hx hb dL_law_960 (by decide) ?_
  have hLD1 : LD wx1 := (LD_cg ((hwx.2.1).hA (by decide)) ((hwx.2.1).hA (by decide)) hLD)
  have hSB1 : SB (bnd + 10560) wx1 := (SB_w (SB_cg ((hwx.2.1).hA (by decide)) ((hwx.2.1).hA (by decide)) ((hwx.2.1).gI (by decide)) hSB) (by omega))
  have hIM1 : IM qm cI cJ cZ wm1 := ⟨hwm.1, (LM_cg ((hwm.2.1).hA (by decide)) ((hwm.2.1).hA (by decide)) hLM), (LY_cg ((hwm.2.1).hA (by decide)) ((hwm.2.1).hA (by decide)) ((hwm.2.1).gI (by decide)) hLY), (RV_cg ((hwm.2.1).hA (by decide)) ((hwm.2.1).hA (by decide)) ((hwm.2.1).hA (by decide)) ((hwm.2.1).gI (by decide)) hRV)⟩
  have hT1 : TW (bnd + 10560) wx1 wm1 := ⟨(((hwx.2.1).gI (by decide)).trans (hT.1.trans ((hwm.2.1).gI (by decide)).symm)), ((vw_sm ((hwx.2.1).1 32 (by decide))).trans (hT.2.1.trans (vw_sm ((hwm.2.1).1 1 (by decide))).symm)), (hT.2.2.1.cg (vw_sm ((hwx.2.1).1 33 (by decide)))), ⟨bq, OLq, La, RQ.fr hQ ((hwx.2.1).Fr hW hwx.1 intsX_ok intsX_ok) (by decide) ((K55.fr ((hwx.2.1).Fr hW hwx.1 intsX_ok intsX_ok) (by decide)).kv hR.2.2.2) ((hwm.2.1).Fr hV hwm.1 intsM_ok intsM_ok) (by decide) (by omega), (GV.fr hQG.2 ((hwx.2.1).Fr hW hwx.1 intsX_ok intsX_ok) (by decide) ((hwm.2.1).Fr hV hwm.1 intsM_ok intsM_ok) (by decide))⟩⟩
  exact kk qx wx1 wm1 H locs ls rfl ⟨⟨bp, hwx.1⟩, hLD1, hSB1⟩ hIM1 hT1 hP hD hS hl
set_option maxRecDepth 100000 in
set_option maxHeartbeats 16000000 in
theorem law_c27 {p : Program} {e : Env} {s : State} {m : MethodId} {below : List Frame} {meth : Method} {c : Code} (l : Launch) {b L : Nat} {xs : Nat → Int32} {A : Nat → Prop} (hAs : ∀ q, A q → s.heap.size ≤ q) (hA : ∀ q, s.heap.size ≤ q → A q) (C0 : lw_At p s m meth c b L xs) {D : va_G} {cI cJ cZ : ClassId} {qx qm : Nat → Nat} (hK : va_K D vwCl (tyK cI cJ cZ) s) (hE : eW s) {i : Int32} (hi : ∀ j : Int32, In 0 5 j → vp_in (i + j) L) {bnd : Int} (hbd : bnd + 10560 ≤ 2147483647) {wx wm : va_W} (hIX : IX qx cI cJ cZ bnd wx) (hIM : IM qm cI cJ cZ wm) (hT : TW bnd wx wm) {H : Heap} {locs : List Loc} {ls : Array Slot} {cells slots : Nat} (hcs : cells ≤ 600000 ∧ slots ≤ 7302250) (hP : va_P D vwCl (wx ++ wm) H) (hD : va_D A (wx ++ wm)) (hS : va_S A s.heap H locs) (hl : lv_has ls 4 [(3, .int i), (2, .ref (qm 0)), (1, .ref (qx 0)), (0, .ref b)]) (kk : ∀ (qx1 : Nat → Nat) (wx1 wm1 : va_W) (H1 : Heap) (locs1 : List Loc) (ls1 : Array Slot), qx1 0 = qx 0 → IX qx1 cI cJ cZ (bnd + 10560) wx1 → IM qm cI cJ cZ wm1 → TW (bnd + 10560) wx1 wm1 → va_P D vwCl (wx1 ++ wm1) H1 → va_D A (wx1 ++ wm1) → va_S A s.heap H1 locs1 → lv_has ls1 4 [(3, .int i), (2, .ref (qm 0)), (1, .ref (qx 0)), (0, .ref b)] → W p l e room_1 s m #[Value.ref b] below meth c H1 locs1 cells slots (lw_Z below #[Value.ref b] s) (F0 m 1098 ls1 [])) : W p l e room_1 s m #[Value.ref b] below meth c H locs cells slots (lw_Z below #[Value.ref b] s) (F0 m 963 ls []) := by
  obtain ⟨hx, hb, hr, hml, hown0, hts0, hXs, hbl, hlocks, hgv⟩ := id C0
  have hown : s.vm.findClass RL = some m.cls := hown0
  have hts : ∀ w ∈ BIG, w.before #[Value.ref b] s = true := fun w h => hts0 w (big_lw w h)
  have hbA : ¬ A b := fun h => absurd hbl (Nat.not_lt.mpr (hAs b h))
  obtain ⟨⟨bp, hW⟩, hLD, hSB⟩ := hIX
  obtain ⟨hV, hLM, hLY, hRV⟩ := hIM
  obtain ⟨bq, OLq, La, hQG⟩ := hT.2.2.2
  have hQ := hQG.1
  have hR := hQ.1
  refine lv_aload_n hx hb dL_law_963 rfl (lv_at hl 2 rfl) ?_
  refine lv_aload_n hx hb dL_law_964 rfl (lv_at hl 3 rfl) ?_
  refine lv_iload_n hx hb dL_law_965 rfl (lv_at hl 0 rfl) ?_
  refine lv_iconst (v := 1) hx hb dL_law_966 (by decide) ?_
  refine lv_iadd hx hb dL_law_967 ?_
  refine va_sld hx hb hXs hbl hbA hS (hi 1 (In_lit (n := 1) (by decide) (by decide))) dL_law_968 ?_
  refine kL_i (wc := wx) (wr := wm) ⟨rfl, rfl⟩ hP hD hS hA (rL_V (As := [.int (xs (i + 1).toNatClampNeg)]) (rest := []) hx hb hml hown hts hK hE hP hD (e_X11_walks l D cI cJ cZ qx bp wx hW (xs (i + 1).toNatClampNeg) _) ⟨⟨rfl, rfl⟩, rfl, rfl⟩ sv_L_128 ⟨(Nat.le_of_ble_eq_true rfl), (Nat.le_of_ble_eq_true rfl)⟩ hcs 0 11 (hW.o tX_0) rfl rfl rfl hl.1 rfl (Nat.le_of_ble_eq_true rfl) dL_law_969) (fun rx wx1 H locs hwx hP hD hS => ?_)
  refine lv_pop hx hb dL_law_972 rfl ?_
  refine lv_aload_n hx hb dL_law_973 rfl (lv_at hl 1 rfl) ?_
  refine lv_aload_n hx hb dL_law_974 rfl (lv_at hl 3 rfl) ?_
  refine lv_iload_n hx hb dL_law_975 rfl (lv_at hl 0 rfl) ?_
  refine lv_iconst (v := 1) hx hb dL_law_976 (by decide) ?_
  refine lv_iadd hx hb dL_law_977 ?_
  refine va_sld hx hb hXs hbl hbA hS (hi 1 (In_lit (n := 1) (by decide) (by decide))) dL_law_978 ?_
  refine kL_i (wc := wm) (wr := wx1) ⟨rfl, rfl⟩ hP hD hS hA (rL_V (As := [.int (xs (i + 1).toNatClampNeg)]) (rest := []) hx hb hml hown hts hK hE hP hD (e_X12_walks l D cI cJ cZ qm wm hV (xs (i + 1).toNatClampNeg) _) ⟨⟨rfl, rfl⟩, rfl, rfl⟩ sv_L_131 ⟨(Nat.le_of_ble_eq_true rfl), (Nat.le_of_ble_eq_true rfl)⟩ hcs 0 12 (hV.o tM_0) rfl rfl rfl hl.1 rfl (Nat.le_of_ble_eq_true rfl) dL_law_979) (fun rm wm1 H locs hwm hP hD hS => ?_)
  refine lv_pop hx hb dL_law_982 rfl ?_
  refine lv_goto (tgt := 1098) hx hb dL_law_983 (by decide) ?_
  have hLD1 : LD wx1 := (LD_cg ((hwx.2.1).hA (by decide)) ((hwx.2.1).hA (by decide)) hLD)
  have hSB1 : SB (bnd + 10560) wx1 := (SB_w (SB_cg ((hwx.2.1).hA (by decide)) ((hwx.2.1).hA (by decide)) ((hwx.2.1).gI (by decide)) hSB) (by omega))
  have hIM1 : IM qm cI cJ cZ wm1 := ⟨hwm.1, (LM_cg ((hwm.2.1).hA (by decide)) ((hwm.2.1).hA (by decide)) hLM), (LY_cg ((hwm.2.1).hA (by decide)) ((hwm.2.1).hA (by decide)) ((hwm.2.1).2 0 37 (by decide) (by decide)) hLY), (RV_cg ((hwm.2.1).hA (by decide)) ((hwm.2.1).hA (by decide)) ((hwm.2.1).hA (by decide)) ((hwm.2.1).2 0 12 (by decide) (by decide)) hRV)⟩
  have hT1 : TW (bnd + 10560) wx1 wm1 := ⟨(((hwx.2.1).gI (by decide)).trans (hT.1.trans ((hwm.2.1).2 0 1 (by decide) (by decide)).symm)), ((vw_sm ((hwx.2.1).1 32 (by decide))).trans (hT.2.1.trans (vw_sm ((hwm.2.1).1 1 (by decide))).symm)), (hT.2.2.1.cg (vw_sm ((hwx.2.1).1 33 (by decide)))), ⟨bq, OLq, La, RQ.fr hQ ((hwx.2.1).Fr hW hwx.1 intsX_ok intsX_ok) (by decide) ((K55.fr ((hwx.2.1).Fr hW hwx.1 intsX_ok intsX_ok) (by decide)).kv hR.2.2.2) ((hwm.2.1).Fr hV hwm.1 intsM_ok intsM_ok) (by decide) (by omega), (GV.fr hQG.2 ((hwx.2.1).Fr hW hwx.1 intsX_ok intsX_ok) (by decide) ((hwm.2.1).Fr hV hwm.1 intsM_ok intsM_ok) (by decide))⟩⟩
  exact kk qx wx1 wm1 H locs ls rfl ⟨⟨bp, hwx.1⟩, hLD1, hSB1⟩ hIM1 hT1 hP hD hS hl
set_option maxRecDepth 100000 in
set_option maxHeartbeats 16000000 in
theorem law_c28 {p : Program} {e : Env} {s : State} {m : MethodId} {below : List Frame} {meth : Method} {c : Code} (l : Launch) {b L : Nat} {xs : Nat → Int32} {A : Nat → Prop} (hAs : ∀ q, A q → s.heap.size ≤ q) (hA : ∀ q, s.heap.size ≤ q → A q) (C0 : lw_At p s m meth c b L xs) {D : va_G} {cI cJ cZ : ClassId} {qx qm : Nat → Nat} (hK : va_K D vwCl (tyK cI cJ cZ) s) (hE : eW s) {i : Int32} (hi : ∀ j : Int32, In 0 5 j → vp_in (i + j) L) {bnd : Int} (hbd : bnd + 10560 ≤ 2147483647) {wx wm : va_W} (hIX : IX qx cI cJ cZ bnd wx) (hIM : IM qm cI cJ cZ wm) (hT : TW bnd wx wm) {H : Heap} {locs : List Loc} {ls : Array Slot} {cells slots : Nat} (hcs : cells ≤ 600000 ∧ slots ≤ 7302250) (hP : va_P D vwCl (wx ++ wm) H) (hD : va_D A (wx ++ wm)) (hS : va_S A s.heap H locs) (hl : lv_has ls 4 [(3, .int i), (2, .ref (qm 0)), (1, .ref (qx 0)), (0, .ref b)]) (kk : ∀ (qx1 : Nat → Nat) (wx1 wm1 : va_W) (H1 : Heap) (locs1 : List Loc) (ls1 : Array Slot), qx1 0 = qx 0 → IX qx1 cI cJ cZ (bnd + 10560) wx1 → IM qm cI cJ cZ wm1 → TW (bnd + 10560) wx1 wm1 → va_P D vwCl (wx1 ++ wm1) H1 → va_D A (wx1 ++ wm1) → va_S A s.heap H1 locs1 → lv_has ls1 4 [(3, .int i), (2, .ref (qm 0)), (1, .ref (qx 0)), (0, .ref b)] → W p l e room_1 s m #[Value.ref b] below meth c H1 locs1 cells slots (lw_Z below #[Value.ref b] s) (F0 m 1098 ls1 [])) : W p l e room_1 s m #[Value.ref b] below meth c H locs cells slots (lw_Z below #[Value.ref b] s) (F0 m 986 ls []) := by
  obtain ⟨hx, hb, hr, hml, hown0, hts0, hXs, hbl, hlocks, hgv⟩ := id C0
  have hown : s.vm.findClass RL = some m.cls := hown0
  have hts : ∀ w ∈ BIG, w.before #[Value.ref b] s = true := fun w h => hts0 w (big_lw w h)
  have hbA : ¬ A b := fun h => absurd hbl (Nat.not_lt.mpr (hAs b h))
  obtain ⟨⟨bp, hW⟩, hLD, hSB⟩ := hIX
  obtain ⟨hV, hLM, hLY, hRV⟩ := hIM
  obtain ⟨bq, OLq, La, hQG⟩ := hT.2.2.2
  have hQ := hQG.1
  have hR := hQ.1
  refine lv_aload_n hx hb dL_law_986 rfl (lv_at hl 2 rfl) ?_
  refine lv_aload_n hx hb dL_law_987 rfl (lv_at hl 3 rfl) ?_
  refine lv_iload_n hx hb dL_law_988 rfl (lv_at hl 0 rfl) ?_
  refine lv_iconst (v := 1) hx hb dL_law_989 (by decide) ?_
  refine lv_iadd hx hb dL_law_990 ?_
  refine va_sld hx hb hXs hbl hbA hS (hi 1 (In_lit (n := 1) (by decide) (by decide))) dL_law_991 ?_
  refine kL_i (wc := wx) (wr := wm) ⟨rfl, rfl⟩ hP hD hS hA (rL_V (As := [.int (xs (i + 1).toNatClampNeg)]) (rest := []) hx hb hml hown hts hK hE hP hD (e_X11_bag l D cI cJ cZ qx bp wx hW (xs (i + 1).toNatClampNeg) _) ⟨⟨rfl, rfl⟩, rfl, rfl⟩ sv_L_132 ⟨(Nat.le_of_ble_eq_true rfl), (Nat.le_of_ble_eq_true rfl)⟩ hcs 0 11 (hW.o tX_0) rfl rfl rfl hl.1 rfl (Nat.le_of_ble_eq_true rfl) dL_law_992) (fun rx wx1 H locs hwx hP hD hS => ?_)
  refine lv_pop hx hb dL_law_995 rfl ?_
  refine lv_aload_n hx hb dL_law_996 rfl (lv_at hl 1 rfl) ?_
  refine lv_aload_n hx hb dL_law_997 rfl (lv_at hl 3 rfl) ?_
  refine lv_iload_n hx hb dL_law_998 rfl (lv_at hl 0 rfl) ?_
  refine lv_iconst (v := 1) hx hb dL_law_999 (by decide) ?_
  refine lv_iadd hx hb dL_law_1000 ?_
  refine va_sld hx hb hXs hbl hbA hS (hi 1 (In_lit (n := 1) (by decide) (by decide))) dL_law_1001 ?_
  refine kL_i (wc := wm) (wr := wx1) ⟨rfl, rfl⟩ hP hD hS hA (rL_V (As := [.int (xs (i + 1).toNatClampNeg)]) (rest := []) hx hb hml hown hts hK hE hP hD (e_X12_bag l D cI cJ cZ qm wm hV (xs (i + 1).toNatClampNeg) _) ⟨⟨rfl, rfl⟩, rfl, rfl⟩ sv_L_135 ⟨(Nat.le_of_ble_eq_true rfl), (Nat.le_of_ble_eq_true rfl)⟩ hcs 0 12 (hV.o tM_0) rfl rfl rfl hl.1 rfl (Nat.le_of_ble_eq_true rfl) dL_law_1002) (fun rm wm1 H locs hwm hP hD hS => ?_)
  refine lv_pop hx hb dL_law_1005 rfl ?_
  refine lv_goto (tgt := 1098) hx hb dL_law_1006 (by decide) ?_
  have hLD1 : LD wx1 := (LD_cg ((hwx.2.1).hA (by decide)) ((hwx.2.1).hA (by decide)) hLD)
  have hSB1 : SB (bnd + 10560) wx1 := (SB_w (SB_cg ((hwx.2.1).hA (by decide)) ((hwx.2.1).hA (by decide)) ((hwx.2.1).gI (by decide)) hSB) (by omega))
  have hIM1 : IM qm cI cJ cZ wm1 := ⟨hwm.1, (LM_cg ((hwm.2.1).hA (by decide)) ((hwm.2.1).hA (by decide)) hLM), (LY_cg ((hwm.2.1).hA (by decide)) ((hwm.2.1).hA (by decide)) ((hwm.2.1).2 0 37 (by decide) (by decide)) hLY), (RV_cg ((hwm.2.1).hA (by decide)) ((hwm.2.1).hA (by decide)) ((hwm.2.1).hA (by decide)) ((hwm.2.1).2 0 12 (by decide) (by decide)) hRV)⟩
  have hT1 : TW (bnd + 10560) wx1 wm1 := ⟨(((hwx.2.1).gI (by decide)).trans (hT.1.trans ((hwm.2.1).2 0 1 (by decide) (by decide)).symm)), ((vw_sm ((hwx.2.1).1 32 (by decide))).trans (hT.2.1.trans (vw_sm ((hwm.2.1).1 1 (by decide))).symm)), (hT.2.2.1.cg (vw_sm ((hwx.2.1).1 33 (by decide)))), ⟨bq, OLq, La, RQ.fr hQ ((hwx.2.1).Fr hW hwx.1 intsX_ok intsX_ok) (by decide) ((K55.fr ((hwx.2.1).Fr hW hwx.1 intsX_ok intsX_ok) (by decide)).kv hR.2.2.2) ((hwm.2.1).Fr hV hwm.1 intsM_ok intsM_ok) (by decide) (by omega), (GV.fr hQG.2 ((hwx.2.1).Fr hW hwx.1 intsX_ok intsX_ok) (by decide) ((hwm.2.1).Fr hV hwm.1 intsM_ok intsM_ok) (by decide))⟩⟩
  exact kk qx wx1 wm1 H locs ls rfl ⟨⟨bp, hwx.1⟩, hLD1, hSB1⟩ hIM1 hT1 hP hD hS hl
set_option maxRecDepth 100000 in
set_option maxHeartbeats 16000000 in
theorem law_c29 {p : Program} {e : Env} {s : State} {m : MethodId} {below : List Frame} {meth : Method} {c : Code} (l : Launch) {b L : Nat} {xs : Nat → Int32} {A : Nat → Prop} (hAs : ∀ q, A q → s.heap.size ≤ q) (hA : ∀ q, s.heap.size ≤ q → A q) (C0 : lw_At p s m meth c b L xs) {D : va_G} {cI cJ cZ : ClassId} {qx qm : Nat → Nat} (hK : va_K D vwCl (tyK cI cJ cZ) s) (hE : eW s) {i : Int32} (hi : ∀ j : Int32, In 0 5 j → vp_in (i + j) L) {bnd : Int} (hbd : bnd + 10560 ≤ 2147483647) {wx wm : va_W} (hIX : IX qx cI cJ cZ bnd wx) (hIM : IM qm cI cJ cZ wm) (hT : TW bnd wx wm) {H : Heap} {locs : List Loc} {ls : Array Slot} {cells slots : Nat} (hcs : cells ≤ 600000 ∧ slots ≤ 7302250) (hP : va_P D vwCl (wx ++ wm) H) (hD : va_D A (wx ++ wm)) (hS : va_S A s.heap H locs) (hl : lv_has ls 4 [(3, .int i), (2, .ref (qm 0)), (1, .ref (qx 0)), (0, .ref b)]) (kk : ∀ (qx1 : Nat → Nat) (wx1 wm1 : va_W) (H1 : Heap) (locs1 : List Loc) (ls1 : Array Slot), qx1 0 = qx 0 → IX qx1 cI cJ cZ (bnd + 10560) wx1 → IM qm cI cJ cZ wm1 → TW (bnd + 10560) wx1 wm1 → va_P D vwCl (wx1 ++ wm1) H1 → va_D A (wx1 ++ wm1) → va_S A s.heap H1 locs1 → lv_has ls1 4 [(3, .int i), (2, .ref (qm 0)), (1, .ref (qx 0)), (0, .ref b)] → W p l e room_1 s m #[Value.ref b] below meth c H1 locs1 cells slots (lw_Z below #[Value.ref b] s) (F0 m 1098 ls1 [])) : W p l e room_1 s m #[Value.ref b] below meth c H locs cells slots (lw_Z below #[Value.ref b] s) (F0 m 1009 ls []) := by
  obtain ⟨hx, hb, hr, hml, hown0, hts0, hXs, hbl, hlocks, hgv⟩ := id C0
  have hown : s.vm.findClass RL = some m.cls := hown0
  have hts : ∀ w ∈ BIG, w.before #[Value.ref b] s = true := fun w h => hts0 w (big_lw w h)
  have hbA : ¬ A b := fun h => absurd hbl (Nat.not_lt.mpr (hAs b h))
  obtain ⟨⟨bp, hW⟩, hLD, hSB⟩ := hIX
  obtain ⟨hV, hLM, hLY, hRV⟩ := hIM
  obtain ⟨bq, OLq, La, hQG⟩ := hT.2.2.2
  have hQ := hQG.1
  have hR := hQ.1
  refine lv_aload_n hx hb dL_law_1009 rfl (lv_at hl 2 rfl) ?_
  refine lv_aload_n hx hb dL_law_1010 rfl (lv_at hl 3 rfl) ?_
  refine lv_iload_n hx hb dL_law_1011 rfl (lv_at hl 0 rfl) ?_
  refine lv_iconst (v := 1) hx hb dL_law_1012 (by decide) ?_
  refine lv_iadd hx hb dL_law_1013 ?_
  refine va_sld hx hb hXs hbl hbA hS (hi 1 (In_lit (n := 1) (by decide) (by decide))) dL_law_1014 ?_
  refine lv_aload_n hx hb dL_law_1015 rfl (lv_at hl 3 rfl) ?_
  refine lv_iload_n hx hb dL_law_1016 rfl (lv_at hl 0 rfl) ?_
  refine lv_iconst (v := 2) hx hb dL_law_1017 (by decide) ?_
  refine lv_iadd hx hb dL_law_1018 ?_
  refine va_sld hx hb hXs hbl hbA hS (hi 2 (In_lit (n := 2) (by decide) (by decide))) dL_law_1019 ?_
  refine lv_aload_n hx hb dL_law_1020 rfl (lv_at hl 3 rfl) ?_
  refine lv_iload_n hx hb dL_law_1021 rfl (lv_at hl 0 rfl) ?_
  refine lv_iconst (v := 3) hx hb dL_law_1022 (by decide) ?_
  refine lv_iadd hx hb dL_law_1023 ?_
  refine va_sld hx hb hXs hbl hbA hS (hi 3 (In_lit (n := 3) (by decide) (by decide))) dL_law_1024 ?_
  refine kL_i (wc := wx) (wr := wm) ⟨rfl, rfl⟩ hP hD hS hA (rL_V (As := [.int (xs (i + 1).toNatClampNeg), .int (xs (i + 2).toNatClampNeg), .int (xs (i + 3).toNatClampNeg)]) (rest := []) hx hb hml hown hts hK hE hP hD (e_X11_queue l D cI cJ cZ qx bp wx hW (xs (i + 1).toNatClampNeg) (xs (i + 2).toNatClampNeg) (xs (i + 3).toNatClampNeg) _) ⟨⟨rfl, rfl⟩, rfl, rfl⟩ sv_L_136 ⟨(Nat.le_of_ble_eq_true rfl), (Nat.le_of_ble_eq_true rfl)⟩ hcs 0 11 (hW.o tX_0) rfl rfl rfl hl.1 rfl (Nat.le_of_ble_eq_true rfl) dL_law_1025) (fun rx wx1 H locs hwx hP hD hS => ?_)
  refine lv_pop hx hb dL_law_1028 rfl ?_
  refine lv_aload_n hx hb dL_law_1029 rfl (lv_at hl 1 rfl) ?_
  refine lv_aload_n hx hb dL_law_1030 rfl (lv_at hl 3 rfl) ?_
  refine lv_iload_n hx hb dL_law_1031 rfl (lv_at hl 0 rfl) ?_
  refine lv_iconst (v := 1) hx hb dL_law_1032 (by decide) ?_
  refine lv_iadd hx hb dL_law_1033 ?_
  refine va_sld hx hb hXs hbl hbA hS (hi 1 (In_lit (n := 1) (by decide) (by decide))) dL_law_1034 ?_
  refine lv_aload_n hx hb dL_law_1035 rfl (lv_at hl 3 rfl) ?_
  refine lv_iload_n hx hb dL_law_1036 rfl (lv_at hl 0 rfl) ?_
  refine lv_iconst (v := 2) hx hb dL_law_1037 (by decide) ?_
  refine lv_iadd hx hb dL_law_1038 ?_
  refine va_sld hx hb hXs hbl hbA hS (hi 2 (In_lit (n := 2) (by decide) (by decide))) dL_law_1039 ?_
  refine lv_aload_n hx hb dL_law_1040 rfl (lv_at hl 3 rfl) ?_
  refine lv_iload_n hx hb dL_law_1041 rfl (lv_at hl 0 rfl) ?_
  refine lv_iconst (v := 3) hx hb dL_law_1042 (by decide) ?_
  refine lv_iadd hx hb dL_law_1043 ?_
  refine va_sld hx hb hXs hbl hbA hS (hi 3 (In_lit (n := 3) (by decide) (by decide))) dL_law_1044 ?_
  refine kL_i (wc := wm) (wr := wx1) ⟨rfl, rfl⟩ hP hD hS hA (rL_V (As := [.int (xs (i + 1).toNatClampNeg), .int (xs (i + 2).toNatClampNeg), .int (xs (i + 3).toNatClampNeg)]) (rest := []) hx hb hml hown hts hK hE hP hD (e_X12_queue l D cI cJ cZ qm wm hV (xs (i + 1).toNatClampNeg) (xs (i + 2).toNatClampNeg) (xs (i + 3).toNatClampNeg) _) ⟨⟨rfl, rfl⟩, rfl, rfl⟩ sv_L_139 ⟨(Nat.le_of_ble_eq_true rfl), (Nat.le_of_ble_eq_true rfl)⟩ hcs 0 12 (hV.o tM_0) rfl rfl rfl hl.1 rfl (Nat.le_of_ble_eq_true rfl) dL_law_1045) (fun rm wm1 H locs hwm hP hD hS => ?_)
  refine lv_pop hx hb dL_law_1048 rfl ?_
  refine lv_goto (tgt := 1098) hx hb dL_law_1049 (by decide) ?_
  have hLD1 : LD wx1 := (LD_cg ((hwx.2.1).hA (by decide)) ((hwx.2.1).hA (by decide)) hLD)
  have hSB1 : SB (bnd + 10560) wx1 := (SB_w (SB_cg ((hwx.2.1).hA (by decide)) ((hwx.2.1).hA (by decide)) ((hwx.2.1).gI (by decide)) hSB) (by omega))
  have hIM1 : IM qm cI cJ cZ wm1 := ⟨hwm.1, (LM_cg ((hwm.2.1).hA (by decide)) ((hwm.2.1).hA (by decide)) hLM), (LY_cg ((hwm.2.1).hA (by decide)) ((hwm.2.1).hA (by decide)) ((hwm.2.1).gI (by decide)) hLY), (RV_cg ((hwm.2.1).hA (by decide)) ((hwm.2.1).hA (by decide)) ((hwm.2.1).hA (by decide)) ((hwm.2.1).gI (by decide)) hRV)⟩
  have hT1 : TW (bnd + 10560) wx1 wm1 := ⟨(((hwx.2.1).gI (by decide)).trans (hT.1.trans ((hwm.2.1).gI (by decide)).symm)), ((vw_sm ((hwx.2.1).1 32 (by decide))).trans (hT.2.1.trans (vw_sm ((hwm.2.1).1 1 (by decide))).symm)), (hT.2.2.1.cg (vw_sm ((hwx.2.1).1 33 (by decide)))), ⟨bq, OLq, La, RQ.fr hQ ((hwx.2.1).Fr hW hwx.1 intsX_ok intsX_ok) (by decide) ((K55.fr ((hwx.2.1).Fr hW hwx.1 intsX_ok intsX_ok) (by decide)).kv hR.2.2.2) ((hwm.2.1).Fr hV hwm.1 intsM_ok intsM_ok) (by decide) (by omega), (GV.fr hQG.2 ((hwx.2.1).Fr hW hwx.1 intsX_ok intsX_ok) (by decide) ((hwm.2.1).Fr hV hwm.1 intsM_ok intsM_ok) (by decide))⟩⟩
  exact kk qx wx1 wm1 H locs ls rfl ⟨⟨bp, hwx.1⟩, hLD1, hSB1⟩ hIM1 hT1 hP hD hS hl
set_option maxRecDepth 100000 in
set_option maxHeartbeats 16000000 in
theorem law_c30 {p : Program} {e : Env} {s : State} {m : MethodId} {below : List Frame} {meth : Method} {c : Code} (l : Launch) {b L : Nat} {xs : Nat → Int32} {A : Nat → Prop} (hAs : ∀ q, A q → s.heap.size ≤ q) (hA : ∀ q, s.heap.size ≤ q → A q) (C0 : lw_At p s m meth c b L xs) {D : va_G} {cI cJ cZ : ClassId} {qx qm : Nat → Nat} (hK : va_K D vwCl (tyK cI cJ cZ) s) (hE : eW s) {i : Int32} (hi : ∀ j : Int32, In 0 5 j → vp_in (i + j) L) {bnd : Int} (hbd : bnd + 10560 ≤ 2147483647) {wx wm : va_W} (hIX : IX qx cI cJ cZ bnd wx) (hIM : IM qm cI cJ cZ wm) (hT : TW bnd wx wm) {H : Heap} {locs : List Loc} {ls : Array Slot} {cells slots : Nat} (hcs : cells ≤ 600000 ∧ slots ≤ 7302250) (hP : va_P D vwCl (wx ++ wm) H) (hD : va_D A (wx ++ wm)) (hS : va_S A s.heap H locs) (hl : lv_has ls 4 [(3, .int i), (2, .ref (qm 0)), (1, .ref (qx 0)), (0, .ref b)]) (kk : ∀ (qx1 : Nat → Nat) (wx1 wm1 : va_W) (H1 : Heap) (locs1 : List Loc) (ls1 : Array Slot), qx1 0 = qx 0 → IX qx1 cI cJ cZ (bnd + 10560) wx1 → IM qm cI cJ cZ wm1 → TW (bnd + 10560) wx1 wm1 → va_P D vwCl (wx1 ++ wm1) H1 → va_D A (wx1 ++ wm1) → va_S A s.heap H1 locs1 → lv_has ls1 4 [(3, .int i), (2, .ref (qm 0)), (1, .ref (qx 0)), (0, .ref b)] → W p l e room_1 s m #[Value.ref b] below meth c H1 locs1 cells slots (lw_Z below #[Value.ref b] s) (F0 m 1098 ls1 [])) : W p l e room_1 s m #[Value.ref b] below meth c H locs cells slots (lw_Z below #[Value.ref b] s) (F0 m 1052 ls []) := by
  obtain ⟨hx, hb, hr, hml, hown0, hts0, hXs, hbl, hlocks, hgv⟩ := id C0
  have hown : s.vm.findClass RL = some m.cls := hown0
  have hts : ∀ w ∈ BIG, w.before #[Value.ref b] s = true := fun w h => hts0 w (big_lw w h)
  have hbA : ¬ A b := fun h => absurd hbl (Nat.not_lt.mpr (hAs b h))
  obtain ⟨⟨bp, hW⟩, hLD, hSB⟩ := hIX
  obtain ⟨hV, hLM, hLY, hRV⟩ := hIM
  obtain ⟨bq, OLq, La, hQG⟩ := hT.2.2.2
  have hQ := hQG.1
  have hR := hQ.1
  refine lv_aload_n hx hb dL_law_1052 rfl (lv_at hl 2 rfl) ?_
  refine lv_aload_n hx hb dL_law_1053 rfl (lv_at hl 3 rfl) ?_
  refine lv_iload_n hx hb dL_law_1054 rfl (lv_at hl 0 rfl) ?_
  refine lv_iconst (v := 1) hx hb dL_law_1055 (by decide) ?_
  refine lv_iadd hx hb dL_law_1056 ?_
  refine va_sld hx hb hXs hbl hbA hS (hi 1 (In_lit (n := 1) (by decide) (by decide))) dL_law_1057 ?_
  refine kL_i (wc := wx) (wr := wm) ⟨rfl, rfl⟩ hP hD hS hA (rL_V (As := [.int (xs (i + 1).toNatClampNeg)]) (rest := []) hx hb hml hown hts hK hE hP hD (e_X11_label l D cI cJ cZ qx bp wx hW (xs (i + 1).toNatClampNeg) _) ⟨⟨rfl, rfl⟩, rfl, rfl⟩ sv_L_140 ⟨(Nat.le_of_ble_eq_true rfl), (Nat.le_of_ble_eq_true rfl)⟩ hcs 0 11 (hW.o tX_0) rfl rfl rfl hl.1 rfl (Nat.le_of_ble_eq_true rfl) dL_law_1058) (fun rx wx1 H locs hwx hP hD hS => ?_)
  refine lv_pop hx hb dL_law_1061 rfl ?_
  refine lv_aload_n hx hb dL_law_1062 rfl (lv_at hl 1 rfl) ?_
  refine lv_aload_n hx hb dL_law_1063 rfl (lv_at hl 3 rfl) ?_
  refine lv_iload_n hx hb dL_law_1064 rfl (lv_at hl 0 rfl) ?_
  refine lv_iconst (v := 1) hx hb dL_law_1065 (by decide) ?_
  refine lv_iadd hx hb dL_law_1066 ?_
  refine va_sld hx hb hXs hbl hbA hS (hi 1 (In_lit (n := 1) (by decide) (by decide))) dL_law_1067 ?_
  refine kL_i (wc := wm) (wr := wx1) ⟨rfl, rfl⟩ hP hD hS hA (rL_V (As := [.int (xs (i + 1).toNatClampNeg)]) (rest := []) hx hb hml hown hts hK hE hP hD (e_X12_label l D cI cJ cZ qm wm hV (xs (i + 1).toNatClampNeg) _) ⟨⟨rfl, rfl⟩, rfl, rfl⟩ sv_L_143 ⟨(Nat.le_of_ble_eq_true rfl), (Nat.le_of_ble_eq_true rfl)⟩ hcs 0 12 (hV.o tM_0) rfl rfl rfl hl.1 rfl (Nat.le_of_ble_eq_true rfl) dL_law_1068) (fun rm wm1 H locs hwm hP hD hS => ?_)
  refine lv_pop hx hb dL_law_1071 rfl ?_
  refine lv_goto (tgt := 1098) hx hb dL_law_1072 (by decide) ?_
  have hLD1 : LD wx1 := (LD_cg ((hwx.2.1).hA (by decide)) ((hwx.2.1).hA (by decide)) hLD)
  have hSB1 : SB (bnd + 10560) wx1 := (SB_w (SB_cg ((hwx.2.1).hA (by decide)) ((hwx.2.1).hA (by decide)) ((hwx.2.1).gI (by decide)) hSB) (by omega))
  have hIM1 : IM qm cI cJ cZ wm1 := ⟨hwm.1, (LM_cg ((hwm.2.1).hA (by decide)) ((hwm.2.1).hA (by decide)) hLM), (LY_cg ((hwm.2.1).hA (by decide)) ((hwm.2.1).hA (by decide)) ((hwm.2.1).2 0 37 (by decide) (by decide)) hLY), (RV_cg ((hwm.2.1).hA (by decide)) ((hwm.2.1).hA (by decide)) ((hwm.2.1).hA (by decide)) ((hwm.2.1).2 0 12 (by decide) (by decide)) hRV)⟩
  have hT1 : TW (bnd + 10560) wx1 wm1 := ⟨(((hwx.2.1).gI (by decide)).trans (hT.1.trans ((hwm.2.1).2 0 1 (by decide) (by decide)).symm)), ((vw_sm ((hwx.2.1).1 32 (by decide))).trans (hT.2.1.trans (vw_sm ((hwm.2.1).1 1 (by decide))).symm)), (hT.2.2.1.cg (vw_sm ((hwx.2.1).1 33 (by decide)))), ⟨bq, OLq, La, RQ.fr hQ ((hwx.2.1).Fr hW hwx.1 intsX_ok intsX_ok) (by decide) ((K55.fr ((hwx.2.1).Fr hW hwx.1 intsX_ok intsX_ok) (by decide)).kv hR.2.2.2) ((hwm.2.1).Fr hV hwm.1 intsM_ok intsM_ok) (by decide) (by omega), (GV.fr hQG.2 ((hwx.2.1).Fr hW hwx.1 intsX_ok intsX_ok) (by decide) ((hwm.2.1).Fr hV hwm.1 intsM_ok intsM_ok) (by decide))⟩⟩
  exact kk qx wx1 wm1 H locs ls rfl ⟨⟨bp, hwx.1⟩, hLD1, hSB1⟩ hIM1 hT1 hP hD hS hl
set_option maxRecDepth 100000 in
set_option maxHeartbeats 16000000 in
theorem law_c31 {p : Program} {e : Env} {s : State} {m : MethodId} {below : List Frame} {meth : Method} {c : Code} (l : Launch) {b L : Nat} {xs : Nat → Int32} {A : Nat → Prop} (hAs : ∀ q, A q → s.heap.size ≤ q) (hA : ∀ q, s.heap.size ≤ q → A q) (C0 : lw_At p s m meth c b L xs) {D : va_G} {cI cJ cZ : ClassId} {qx qm : Nat → Nat} (hK : va_K D vwCl (tyK cI cJ cZ) s) (hE : eW s) {i : Int32} (hi : ∀ j : Int32, In 0 5 j → vp_in (i + j) L) {bnd : Int} (hbd : bnd + 10560 ≤ 2147483647) {wx wm : va_W} (hIX : IX qx cI cJ cZ bnd wx) (hIM : IM qm cI cJ cZ wm) (hT : TW bnd wx wm) {H : Heap} {locs : List Loc} {ls : Array Slot} {cells slots : Nat} (hcs : cells ≤ 600000 ∧ slots ≤ 7302250) (hP : va_P D vwCl (wx ++ wm) H) (hD : va_D A (wx ++ wm)) (hS : va_S A s.heap H locs) (hl : lv_has ls 4 [(3, .int i), (2, .ref (qm 0)), (1, .ref (qx 0)), (0, .ref b)]) (kk : ∀ (qx1 : Nat → Nat) (wx1 wm1 : va_W) (H1 : Heap) (locs1 : List Loc) (ls1 : Array Slot), qx1 0 = qx 0 → IX qx1 cI cJ cZ (bnd + 10560) wx1 → IM qm cI cJ cZ wm1 → TW (bnd + 10560) wx1 wm1 → va_P D vwCl (wx1 ++ wm1) H1 → va_D A (wx1 ++ wm1) → va_S A s.heap H1 locs1 → lv_has ls1 4 [(3, .int i), (2, .ref (qm 0)), (1, .ref (qx 0)), (0, .ref b)] → W p l e room_1 s m #[Value.ref b] below meth c H1 locs1 cells slots (lw_Z below #[Value.ref b] s) (F0 m 1098 ls1 [])) : W p l e room_1 s m #[Value.ref b] below meth c H locs cells slots (lw_Z below #[Value.ref b] s) (F0 m 1075 ls []) := by
  obtain ⟨hx, hb, hr, hml, hown0, hts0, hXs, hbl, hlocks, hgv⟩ := id C0
  have hown : s.vm.findClass RL = some m.cls := hown0
  have hts : ∀ w ∈ BIG, w.before #[Value.ref b] s = true := fun w h => hts0 w (big_lw w h)
  have hbA : ¬ A b := fun h => absurd hbl (Nat.not_lt.mpr (hAs b h))
  obtain ⟨⟨bp, hW⟩, hLD, hSB⟩ := hIX
  obtain ⟨hV, hLM, hLY, hRV⟩ := hIM
  obtain ⟨bq, OLq, La, hQG⟩ := hT.2.2.2
  have hQ := hQG.1
  have hR := hQ.1
  refine lv_aload_n hx hb dL_law_1075 rfl (lv_at hl 2 rfl) ?_
  refine lv_aload_n hx hb dL_law_1076 rfl (lv_at hl 3 rfl) ?_
  refine lv_iload_n hx hb dL_law_1077 rfl (lv_at hl 0 rfl) ?_
  refine lv_iconst (v := 1) hx hb dL_law_1078 (by decide) ?_
  refine lv_iadd hx hb dL_law_1079 ?_
  refine va_sld hx hb hXs hbl hbA hS (hi 1 (In_lit (n := 1) (by decide) (by decide))) dL_law_1080 ?_
  refine kL_i (wc := wx) (wr := wm) ⟨rfl, rfl⟩ hP hD hS hA (rL_V (As := [.int (xs (i + 1).toNatClampNeg)]) (rest := []) hx hb hml hown hts hK hE hP hD (e_X11_at l D cI cJ cZ qx bp wx hW (xs (i + 1).toNatClampNeg) _) ⟨⟨rfl, rfl⟩, rfl, rfl⟩ sv_L_144 ⟨(Nat.le_of_ble_eq_true rfl), (Nat.le_of_ble_eq_true rfl)⟩ hcs 0 11 (hW.o tX_0) rfl rfl rfl hl.1 rfl (Nat.le_of_ble_eq_true rfl) dL_law_1081) (fun rx wx1 H locs hwx hP hD hS => ?_)
  refine lv_pop hx hb dL_law_1084 rfl ?_
  refine lv_aload_n hx hb dL_law_1085 rfl (lv_at hl 1 rfl) ?_
  refine lv_aload_n hx hb dL_law_1086 rfl (lv_at hl 3 rfl) ?_
  refine lv_iload_n hx hb dL_law_1087 rfl (lv_at hl 0 rfl) ?_
  refine lv_iconst (v := 1) hx hb dL_law_1088 (by decide) ?_
  refine lv_iadd hx hb dL_law_1089 ?_
  refine va_sld hx hb hXs hbl hbA hS (hi 1 (In_lit (n := 1) (by decide) (by decide))) dL_law_1090 ?_
  refine kL_i (wc := wm) (wr := wx1) ⟨rfl, rfl⟩ hP hD hS hA (rL_V (As := [.int (xs (i + 1).toNatClampNeg)]) (rest := []) hx hb hml hown hts hK hE hP hD (e_X12_at l D cI cJ cZ qm wm hV (xs (i + 1).toNatClampNeg) _) ⟨⟨rfl, rfl⟩, rfl, rfl⟩ sv_L_147 ⟨(Nat.le_of_ble_eq_true rfl), (Nat.le_of_ble_eq_true rfl)⟩ hcs 0 12 (hV.o tM_0) rfl rfl rfl hl.1 rfl (Nat.le_of_ble_eq_true rfl) dL_law_1091) (fun rm wm1 H locs hwm hP hD hS => ?_)
  refine lv_pop hx hb dL_law_1094 rfl ?_
  refine lv_goto (tgt := 1098) hx hb dL_law_1095 (by decide) ?_
  have hLD1 : LD wx1 := (LD_cg ((hwx.2.1).hA (by decide)) ((hwx.2.1).hA (by decide)) hLD)
  have hSB1 : SB (bnd + 10560) wx1 := (SB_w (SB_cg ((hwx.2.1).hA (by decide)) ((hwx.2.1).hA (by decide)) ((hwx.2.1).gI (by decide)) hSB) (by omega))
  have hIM1 : IM qm cI cJ cZ wm1 := ⟨hwm.1, (LM_cg ((hwm.2.1).hA (by decide)) ((hwm.2.1).hA (by decide)) hLM), (LY_cg ((hwm.2.1).hA (by decide)) ((hwm.2.1).hA (by decide)) ((hwm.2.1).gI (by decide)) hLY), (RV_cg ((hwm.2.1).hA (by decide)) ((hwm.2.1).hA (by decide)) ((hwm.2.1).hA (by decide)) ((hwm.2.1).gI (by decide)) hRV)⟩
  have hT1 : TW (bnd + 10560) wx1 wm1 := ⟨(((hwx.2.1).gI (by decide)).trans (hT.1.trans ((hwm.2.1).gI (by decide)).symm)), ((vw_sm ((hwx.2.1).1 32 (by decide))).trans (hT.2.1.trans (vw_sm ((hwm.2.1).1 1 (by decide))).symm)), (hT.2.2.1.cg (vw_sm ((hwx.2.1).1 33 (by decide)))), ⟨bq, OLq, La, RQ.fr hQ ((hwx.2.1).Fr hW hwx.1 intsX_ok intsX_ok) (by decide) ((K55.fr ((hwx.2.1).Fr hW hwx.1 intsX_ok intsX_ok) (by decide)).kv hR.2.2.2) ((hwm.2.1).Fr hV hwm.1 intsM_ok intsM_ok) (by decide) (by omega), (GV.fr hQG.2 ((hwx.2.1).Fr hW hwx.1 intsX_ok intsX_ok) (by decide) ((hwm.2.1).Fr hV hwm.1 intsM_ok intsM_ok) (by decide))⟩⟩
  exact kk qx wx1 wm1 H locs ls rfl ⟨⟨bp, hwx.1⟩, hLD1, hSB1⟩ hIM1 hT1 hP hD hS hl
