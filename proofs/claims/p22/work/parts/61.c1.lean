set_option maxRecDepth 100000 in
set_option maxHeartbeats 16000000 in
theorem law_c0 {p : Program} {e : Env} {s : State} {m : MethodId} {below : List Frame} {meth : Method} {c : Code} (l : Launch) {b L : Nat} {xs : Nat → Int32} {A : Nat → Prop} (hAs : ∀ q, A q → s.heap.size ≤ q) (hA : ∀ q, s.heap.size ≤ q → A q) (C0 : lw_At p s m meth c b L xs) {D : va_G} {cI cJ cZ : ClassId} {qx qm : Nat → Nat} (hK : va_K D vwCl (tyK cI cJ cZ) s) (hE : eW s) {i : Int32} (hi : ∀ j : Int32, In 0 5 j → vp_in (i + j) L) {bnd : Int} (hbd : bnd + 10560 ≤ 2147483647) {wx wm : va_W} (hIX : IX qx cI cJ cZ bnd wx) (hIM : IM qm cI cJ cZ wm) (hT : TW bnd wx wm) {H : Heap} {locs : List Loc} {ls : Array Slot} {cells slots : Nat} (hcs : cells ≤ 600000 ∧ slots ≤ 7302250) (hP : va_P D vwCl (wx ++ wm) H) (hD : va_D A (wx ++ wm)) (hS : va_S A s.heap H locs) (hl : lv_has ls 4 [(3, .int i), (2, .ref (qm 0)), (1, .ref (qx 0)), (0, .ref b)]) (kk : ∀ (qx1 : Nat → Nat) (wx1 wm1 : va_W) (H1 : Heap) (locs1 : List Loc) (ls1 : Array Slot), qx1 0 = qx 0 → IX qx1 cI cJ cZ (bnd + 10560) wx1 → IM qm cI cJ cZ wm1 → TW (bnd + 10560) wx1 wm1 → va_P D vwCl (wx1 ++ wm1) H1 → va_D A (wx1 ++ wm1) → va_S A s.heap H1 locs1 → lv_has ls1 4 [(3, .int i), (2, .ref (qm 0)), (1, .ref (qx 0)), (0, .ref b)] → W p l e room_1 s m #[Value.ref b] below meth c H1 locs1 cells slots (lw_Z below #[Value.ref b] s) (F0 m 1098 ls1 [])) : W p l e room_1 s m #[Value.ref b] below meth c H locs cells slots (lw_Z below #[Value.ref b] s) (F0 m 176 ls []) := by
  obtain ⟨hx, hb, hr, hml, hown0, hts0, hXs, hbl, hlocks, hgv⟩ := id C0
  have hown : s.vm.findClass RL = some m.cls := hown0
  have hts : ∀ w ∈ BIG, w.before #[Value.ref b] s = true := fun w h => hts0 w (big_lw w h)
  have hbA : ¬ A b := fun h => absurd hbl (Nat.not_lt.mpr (hAs b h))
  obtain ⟨⟨bp, hW⟩, hLD, hSB⟩ := hIX
  obtain ⟨hV, hLM, hLY, hRV⟩ := hIM
  obtain ⟨bq, OLq, La, hQG⟩ := hT.2.2.2
  have hQ := hQG.1
  have hR := hQ.1
  refine lv_aload_n hx hb dL_law_176 rfl (lv_at hl 2 rfl) ?_
  refine lv_aload_n hx hb dL_law_177 rfl (lv_at hl 3 rfl) ?_
  refine lv_iload_n hx hb dL_law_178 rfl (lv_at hl 0 rfl) ?_
  refine lv_iconst (v := 1) hx hb dL_law_179 (by decide) ?_
  refine lv_iadd hx hb dL_law_180 ?_
  refine va_sld hx hb hXs hbl hbA hS (hi 1 (In_lit (n := 1) (by decide) (by decide))) dL_law_181 ?_
  refine lv_aload_n hx hb dL_law_182 rfl (lv_at hl 3 rfl) ?_
  refine lv_iload_n hx hb dL_law_183 rfl (lv_at hl 0 rfl) ?_
  refine lv_iconst (v := 2) hx hb dL_law_184 (by decide) ?_
  refine lv_iadd hx hb dL_law_185 ?_
  refine va_sld hx hb hXs hbl hbA hS (hi 2 (In_lit (n := 2) (by decide) (by decide))) dL_law_186 ?_
  refine lv_aload_n hx hb dL_law_187 rfl (lv_at hl 3 rfl) ?_
  refine lv_iload_n hx hb dL_law_188 rfl (lv_at hl 0 rfl) ?_
  refine lv_iconst (v := 3) hx hb dL_law_189 (by decide) ?_
  refine lv_iadd hx hb dL_law_190 ?_
  refine va_sld hx hb hXs hbl hbA hS (hi 3 (In_lit (n := 3) (by decide) (by decide))) dL_law_191 ?_
  refine lv_aload_n hx hb dL_law_192 rfl (lv_at hl 3 rfl) ?_
  refine lv_iload_n hx hb dL_law_193 rfl (lv_at hl 0 rfl) ?_
  refine lv_iconst (v := 4) hx hb dL_law_194 (by decide) ?_
  refine lv_iadd hx hb dL_law_195 ?_
  refine va_sld hx hb hXs hbl hbA hS (hi 4 (In_lit (n := 4) (by decide) (by decide))) dL_law_196 ?_
  refine lv_aload_n hx hb dL_law_197 rfl (lv_at hl 3 rfl) ?_
  refine lv_iload_n hx hb dL_law_198 rfl (lv_at hl 0 rfl) ?_
  refine lv_iconst (v := 5) hx hb dL_law_199 (by decide) ?_
  refine lv_iadd hx hb dL_law_200 ?_
  refine va_sld hx hb hXs hbl hbA hS (hi 5 (In_lit (n := 5) (by decide) (by decide))) dL_law_201 ?_
  refine kL_i (wc := wx) (wr := wm) ⟨rfl, rfl⟩ hP hD hS hA (rL_V (As := [.int (xs (i + 1).toNatClampNeg), .int (xs (i + 2).toNatClampNeg), .int (xs (i + 3).toNatClampNeg), .int (xs (i + 4).toNatClampNeg), .int (xs (i + 5).toNatClampNeg)]) (rest := []) hx hb hml hown hts hK hE hP hD (e_X11_feed l D cI cJ cZ qx bp wx hW (xs (i + 1).toNatClampNeg) (xs (i + 2).toNatClampNeg) (xs (i + 3).toNatClampNeg) (xs (i + 4).toNatClampNeg) (xs (i + 5).toNatClampNeg) _) ⟨⟨rfl, rfl⟩, rfl, rfl⟩ sv_L_13 ⟨(Nat.le_of_ble_eq_true rfl), (Nat.le_of_ble_eq_true rfl)⟩ hcs 0 11 (hW.o tX_0) rfl rfl rfl hl.1 rfl (Nat.le_of_ble_eq_true rfl) dL_law_202) (fun rx wx1 H locs hwx hP hD hS => ?_)
  refine lv_pop hx hb dL_law_205 rfl ?_
  refine lv_aload_n hx hb dL_law_206 rfl (lv_at hl 1 rfl) ?_
  refine lv_aload_n hx hb dL_law_207 rfl (lv_at hl 3 rfl) ?_
  refine lv_iload_n hx hb dL_law_208 rfl (lv_at hl 0 rfl) ?_
  refine lv_iconst (v := 1) hx hb dL_law_209 (by decide) ?_
  refine lv_iadd hx hb dL_law_210 ?_
  refine va_sld hx hb hXs hbl hbA hS (hi 1 (In_lit (n := 1) (by decide) (by decide))) dL_law_211 ?_
  refine lv_aload_n hx hb dL_law_212 rfl (lv_at hl 3 rfl) ?_
  refine lv_iload_n hx hb dL_law_213 rfl (lv_at hl 0 rfl) ?_
  refine lv_iconst (v := 2) hx hb dL_law_214 (by decide) ?_
  refine lv_iadd hx hb dL_law_215 ?_
  refine va_sld hx hb hXs hbl hbA hS (hi 2 (In_lit (n := 2) (by decide) (by decide))) dL_law_216 ?_
  refine lv_aload_n hx hb dL_law_217 rfl (lv_at hl 3 rfl) ?_
  refine lv_iload_n hx hb dL_law_218 rfl (lv_at hl 0 rfl) ?_
  refine lv_iconst (v := 3) hx hb dL_law_219 (by decide) ?_
  refine lv_iadd hx hb dL_law_220 ?_
  refine va_sld hx hb hXs hbl hbA hS (hi 3 (In_lit (n := 3) (by decide) (by decide))) dL_law_221 ?_
  refine lv_aload_n hx hb dL_law_222 rfl (lv_at hl 3 rfl) ?_
  refine lv_iload_n hx hb dL_law_223 rfl (lv_at hl 0 rfl) ?_
  refine lv_iconst (v := 4) hx hb dL_law_224 (by decide) ?_
  refine lv_iadd hx hb dL_law_225 ?_
  refine va_sld hx hb hXs hbl hbA hS (hi 4 (In_lit (n := 4) (by decide) (by decide))) dL_law_226 ?_
  refine lv_aload_n hx hb dL_law_227 rfl (lv_at hl 3 rfl) ?_
  refine lv_iload_n hx hb dL_law_228 rfl (lv_at hl 0 rfl) ?_
  refine lv_iconst (v := 5) hx hb dL_law_229 (by decide) ?_
  refine lv_iadd hx hb dL_law_230 ?_
  refine va_sld hx hb hXs hbl hbA hS (hi 5 (In_lit (n := 5) (by decide) (by decide))) dL_law_231 ?_
  refine kL_i (wc := wm) (wr := wx1) ⟨rfl, rfl⟩ hP hD hS hA (rL_V (As := [.int (xs (i + 1).toNatClampNeg), .int (xs (i + 2).toNatClampNeg), .int (xs (i + 3).toNatClampNeg), .int (xs (i + 4).toNatClampNeg), .int (xs (i + 5).toNatClampNeg)]) (rest := []) hx hb hml hown hts hK hE hP hD (e_X12_feed l D cI cJ cZ qm wm hV (xs (i + 1).toNatClampNeg) (xs (i + 2).toNatClampNeg) (xs (i + 3).toNatClampNeg) (xs (i + 4).toNatClampNeg) (xs (i + 5).toNatClampNeg) _) ⟨⟨rfl, rfl⟩, rfl, rfl⟩ sv_L_17 ⟨(Nat.le_of_ble_eq_true rfl), (Nat.le_of_ble_eq_true rfl)⟩ hcs 0 12 (hV.o tM_0) rfl rfl rfl hl.1 rfl (Nat.le_of_ble_eq_true rfl) dL_law_232) (fun rm wm1 H locs hwm hP hD hS => ?_)
  refine lv_pop hx hb dL_law_235 rfl ?_
  refine lv_goto (tgt := 1098) hx hb dL_law_236 (by decide) ?_
  have hLD1 : LD wx1 := (LD_cg ((hwx.2.1).hA (by decide)) ((hwx.2.1).hA (by decide)) hLD)
  have hSB1 : SB (bnd + 10560) wx1 := (SB_w (SB_cg ((hwx.2.1).hA (by decide)) ((hwx.2.1).hA (by decide)) ((hwx.2.1).gI (by decide)) hSB) (by omega))
  have hIM1 : IM qm cI cJ cZ wm1 := ⟨hwm.1, (LM_cg ((hwm.2.1).hA (by decide)) ((hwm.2.1).hA (by decide)) hLM), (LY_cg ((hwm.2.1).hA (by decide)) ((hwm.2.1).hA (by decide)) ((hwm.2.1).2 0 37 (by decide) (by decide)) hLY), (RV_cg ((hwm.2.1).hA (by decide)) ((hwm.2.1).hA (by decide)) ((hwm.2.1).hA (by decide)) ((hwm.2.1).2 0 12 (by decide) (by decide)) hRV)⟩
  have hT1 : TW (bnd + 10560) wx1 wm1 := ⟨(fd_eq hT.1 hwx.2.2.2.1 hwm.2.2.2.1).2, (feed2 (TW_tt hW hV hT) hwx.2.2.2.2 hwm.2.2.2.2 (hW.rg (j := 1) (lo := 0) (hi := 1000) tX_31 rfl).1).1, (hT.2.2.1.cg (vw_sm ((hwx.2.1).1 33 (by decide)))), ⟨bq, OLq, La, RQ.fr hQ ((hwx.2.1).Fr hW hwx.1 intsX_ok intsX_ok) (by decide) ((K55.fr ((hwx.2.1).Fr hW hwx.1 intsX_ok intsX_ok) (by decide)).kv hR.2.2.2) ((hwm.2.1).Fr hV hwm.1 intsM_ok intsM_ok) (by decide) (by omega), (GV.fr hQG.2 ((hwx.2.1).Fr hW hwx.1 intsX_ok intsX_ok) (by decide) ((hwm.2.1).Fr hV hwm.1 intsM_ok intsM_ok) (by decide))⟩⟩
  exact kk qx wx1 wm1 H locs ls rfl ⟨⟨bp, hwx.1⟩, hLD1, hSB1⟩ hIM1 hT1 hP hD hS hl
set_option maxRecDepth 100000 in
set_option maxHeartbeats 16000000 in
theorem law_c1 {p : Program} {e : Env} {s : State} {m : MethodId} {below : List Frame} {meth : Method} {c : Code} (l : Launch) {b L : Nat} {xs : Nat → Int32} {A : Nat → Prop} (hAs : ∀ q, A q → s.heap.size ≤ q) (hA : ∀ q, s.heap.size ≤ q → A q) (C0 : lw_At p s m meth c b L xs) {D : va_G} {cI cJ cZ : ClassId} {qx qm : Nat → Nat} (hK : va_K D vwCl (tyK cI cJ cZ) s) (hE : eW s) {i : Int32} (hi : ∀ j : Int32, In 0 5 j → vp_in (i + j) L) {bnd : Int} (hbd : bnd + 10560 ≤ 2147483647) {wx wm : va_W} (hIX : IX qx cI cJ cZ bnd wx) (hIM : IM qm cI cJ cZ wm) (hT : TW bnd wx wm) {H : Heap} {locs : List Loc} {ls : Array Slot} {cells slots : Nat} (hcs : cells ≤ 600000 ∧ slots ≤ 7302250) (hP : va_P D vwCl (wx ++ wm) H) (hD : va_D A (wx ++ wm)) (hS : va_S A s.heap H locs) (hl : lv_has ls 4 [(3, .int i), (2, .ref (qm 0)), (1, .ref (qx 0)), (0, .ref b)]) (kk : ∀ (qx1 : Nat → Nat) (wx1 wm1 : va_W) (H1 : Heap) (locs1 : List Loc) (ls1 : Array Slot), qx1 0 = qx 0 → IX qx1 cI cJ cZ (bnd + 10560) wx1 → IM qm cI cJ cZ wm1 → TW (bnd + 10560) wx1 wm1 → va_P D vwCl (wx1 ++ wm1) H1 → va_D A (wx1 ++ wm1) → va_S A s.heap H1 locs1 → lv_has ls1 4 [(3, .int i), (2, .ref (qm 0)), (1, .ref (qx 0)), (0, .ref b)] → W p l e room_1 s m #[Value.ref b] below meth c H1 locs1 cells slots (lw_Z below #[Value.ref b] s) (F0 m 1098 ls1 [])) : W p l e room_1 s m #[Value.ref b] below meth c H locs cells slots (lw_Z below #[Value.ref b] s) (F0 m 239 ls []) := by
  obtain ⟨hx, hb, hr, hml, hown0, hts0, hXs, hbl, hlocks, hgv⟩ := id C0
  have hown : s.vm.findClass RL = some m.cls := hown0
  have hts : ∀ w ∈ BIG, w.before #[Value.ref b] s = true := fun w h => hts0 w (big_lw w h)
  have hbA : ¬ A b := fun h => absurd hbl (Nat.not_lt.mpr (hAs b h))
  obtain ⟨⟨bp, hW⟩, hLD, hSB⟩ := hIX
  obtain ⟨hV, hLM, hLY, hRV⟩ := hIM
  obtain ⟨bq, OLq, La, hQG⟩ := hT.2.2.2
  have hQ := hQG.1
  have hR := hQ.1
  refine lv_aload_n hx hb dL_law_239 rfl (lv_at hl 2 rfl) ?_
  refine lv_aload_n hx hb dL_law_240 rfl (lv_at hl 3 rfl) ?_
  refine lv_iload_n hx hb dL_law_241 rfl (lv_at hl 0 rfl) ?_
  refine lv_iconst (v := 1) hx hb dL_law_242 (by decide) ?_
  refine lv_iadd hx hb dL_law_243 ?_
  refine va_sld hx hb hXs hbl hbA hS (hi 1 (In_lit (n := 1) (by decide) (by decide))) dL_law_244 ?_
  refine kL_i (wc := wx) (wr := wm) ⟨rfl, rfl⟩ hP hD hS hA (rL_V (As := [.int (xs (i + 1).toNatClampNeg)]) (rest := []) hx hb hml hown hts hK hE hP hD (e_X11_end l D cI cJ cZ qx bp wx hW (xs (i + 1).toNatClampNeg) _) ⟨⟨rfl, rfl⟩, rfl, rfl⟩ sv_L_18 ⟨(Nat.le_of_ble_eq_true rfl), (Nat.le_of_ble_eq_true rfl)⟩ hcs 0 11 (hW.o tX_0) rfl rfl rfl hl.1 rfl (Nat.le_of_ble_eq_true rfl) dL_law_245) (fun rx wx1 H locs hwx hP hD hS => ?_)
  refine lv_pop hx hb dL_law_248 rfl ?_
  refine lv_aload_n hx hb dL_law_249 rfl (lv_at hl 1 rfl) ?_
  refine lv_aload_n hx hb dL_law_250 rfl (lv_at hl 3 rfl) ?_
  refine lv_iload_n hx hb dL_law_251 rfl (lv_at hl 0 rfl) ?_
  refine lv_iconst (v := 1) hx hb dL_law_252 (by decide) ?_
  refine lv_iadd hx hb dL_law_253 ?_
  refine va_sld hx hb hXs hbl hbA hS (hi 1 (In_lit (n := 1) (by decide) (by decide))) dL_law_254 ?_
  refine kL_i (wc := wm) (wr := wx1) ⟨rfl, rfl⟩ hP hD hS hA (rL_V (As := [.int (xs (i + 1).toNatClampNeg)]) (rest := []) hx hb hml hown hts hK hE hP hD (e_X12_end l D cI cJ cZ qm wm hV (xs (i + 1).toNatClampNeg) _) ⟨⟨rfl, rfl⟩, rfl, rfl⟩ sv_L_22 ⟨(Nat.le_of_ble_eq_true rfl), (Nat.le_of_ble_eq_true rfl)⟩ hcs 0 12 (hV.o tM_0) rfl rfl rfl hl.1 rfl (Nat.le_of_ble_eq_true rfl) dL_law_255) (fun rm wm1 H locs hwm hP hD hS => ?_)
  refine lv_pop hx hb dL_law_258 rfl ?_
  refine lv_goto (tgt := 1098) hx hb dL_law_259 (by decide) ?_
  have hLD1 : LD wx1 := (LD_cg ((hwx.2.1).hA (by decide)) ((hwx.2.1).hA (by decide)) hLD)
  have hSB1 : SB (bnd + 10560) wx1 := (SB_w (SB_cg ((hwx.2.1).hA (by decide)) ((hwx.2.1).hA (by decide)) ((hwx.2.1).gI (by decide)) hSB) (by omega))
  have hIM1 : IM qm cI cJ cZ wm1 := ⟨hwm.1, (LM_cg ((hwm.2.1).hA (by decide)) ((hwm.2.1).hA (by decide)) hLM), (LY_cg ((hwm.2.1).hA (by decide)) ((hwm.2.1).hA (by decide)) ((hwm.2.1).2 0 37 (by decide) (by decide)) hLY), (RV_cg ((hwm.2.1).hA (by decide)) ((hwm.2.1).hA (by decide)) ((hwm.2.1).hA (by decide)) ((hwm.2.1).2 0 12 (by decide) (by decide)) hRV)⟩
  have hT1 : TW (bnd + 10560) wx1 wm1 := ⟨(en_eq hT.1 hwx.2.2.2.2.1 hwm.2.2.2.2.1).2, ((vw_sm ((hwx.2.1).1 32 (by decide))).trans (hT.2.1.trans (vw_sm ((hwm.2.1).1 1 (by decide))).symm)), (hT.2.2.1.cg (vw_sm ((hwx.2.1).1 33 (by decide)))), ⟨bq, OLq, La, RQ.fr hQ ((hwx.2.1).Fr hW hwx.1 intsX_ok intsX_ok) (by decide) ((K55.fr ((hwx.2.1).Fr hW hwx.1 intsX_ok intsX_ok) (by decide)).kv hR.2.2.2) ((hwm.2.1).Fr hV hwm.1 intsM_ok intsM_ok) (by decide) (by omega), (GV.fr hQG.2 ((hwx.2.1).Fr hW hwx.1 intsX_ok intsX_ok) (by decide) ((hwm.2.1).Fr hV hwm.1 intsM_ok intsM_ok) (by decide))⟩⟩
  exact kk qx wx1 wm1 H locs ls rfl ⟨⟨bp, hwx.1⟩, hLD1, hSB1⟩ hIM1 hT1 hP hD hS hl
set_option maxRecDepth 100000 in
set_option maxHeartbeats 16000000 in
theorem law_c2 {p : Program} {e : Env} {s : State} {m : MethodId} {below : List Frame} {meth : Method} {c : Code} (l : Launch) {b L : Nat} {xs : Nat → Int32} {A : Nat → Prop} (hAs : ∀ q, A q → s.heap.size ≤ q) (hA : ∀ q, s.heap.size ≤ q → A q) (C0 : lw_At p s m meth c b L xs) {D : va_G} {cI cJ cZ : ClassId} {qx qm : Nat → Nat} (hK : va_K D vwCl (tyK cI cJ cZ) s) (hE : eW s) {i : Int32} (hi : ∀ j : Int32, In 0 5 j → vp_in (i + j) L) {bnd : Int} (hbd : bnd + 10560 ≤ 2147483647) {wx wm : va_W} (hIX : IX qx cI cJ cZ bnd wx) (hIM : IM qm cI cJ cZ wm) (hT : TW bnd wx wm) {H : Heap} {locs : List Loc} {ls : Array Slot} {cells slots : Nat} (hcs : cells ≤ 600000 ∧ slots ≤ 7302250) (hP : va_P D vwCl (wx ++ wm) H) (hD : va_D A (wx ++ wm)) (hS : va_S A s.heap H locs) (hl : lv_has ls 4 [(3, .int i), (2, .ref (qm 0)), (1, .ref (qx 0)), (0, .ref b)]) (kk : ∀ (qx1 : Nat → Nat) (wx1 wm1 : va_W) (H1 : Heap) (locs1 : List Loc) (ls1 : Array Slot), qx1 0 = qx 0 → IX qx1 cI cJ cZ (bnd + 10560) wx1 → IM qm cI cJ cZ wm1 → TW (bnd + 10560) wx1 wm1 → va_P D vwCl (wx1 ++ wm1) H1 → va_D A (wx1 ++ wm1) → va_S A s.heap H1 locs1 → lv_has ls1 4 [(3, .int i), (2, .ref (qm 0)), (1, .ref (qx 0)), (0, .ref b)] → W p l e room_1 s m #[Value.ref b] below meth c H1 locs1 cells slots (lw_Z below #[Value.ref b] s) (F0 m 1098 ls1 [])) : W p l e room_1 s m #[Value.ref b] below meth c H locs cells slots (lw_Z below #[Value.ref b] s) (F0 m 262 ls []) := by
  obtain ⟨hx, hb, hr, hml, hown0, hts0, hXs, hbl, hlocks, hgv⟩ := id C0
  have hown : s.vm.findClass RL = some m.cls := hown0
  have hts : ∀ w ∈ BIG, w.before #[Value.ref b] s = true := fun w h => hts0 w (big_lw w h)
  have hbA : ¬ A b := fun h => absurd hbl (Nat.not_lt.mpr (hAs b h))
  obtain ⟨⟨bp, hW⟩, hLD, hSB⟩ := hIX
  obtain ⟨hV, hLM, hLY, hRV⟩ := hIM
  obtain ⟨bq, OLq, La, hQG⟩ := hT.2.2.2
  have hQ := hQG.1
  have hR := hQ.1
  refine lv_aload_n hx hb dL_law_262 rfl (lv_at hl 2 rfl) ?_
  refine kL_i (wc := wx) (wr := wm) ⟨rfl, rfl⟩ hP hD hS hA (rL_V (As := []) (rest := []) hx hb hml hown hts hK hE hP hD (e_X11_rules l D cI cJ cZ qx bp wx hW _) ⟨⟨rfl, rfl⟩, rfl, rfl⟩ sv_L_23 ⟨(Nat.le_of_ble_eq_true rfl), (Nat.le_of_ble_eq_true rfl)⟩ hcs 0 11 (hW.o tX_0) rfl rfl rfl hl.1 rfl (Nat.le_of_ble_eq_true rfl) dL_law_263) (fun rx wx1 H locs hwx hP hD hS => ?_)
  refine lv_pop hx hb dL_law_266 rfl ?_
  refine lv_aload_n hx hb dL_law_267 rfl (lv_at hl 1 rfl) ?_
  refine kL_i (wc := wm) (wr := wx1) ⟨rfl, rfl⟩ hP hD hS hA (rL_V (As := []) (rest := []) hx hb hml hown hts hK hE hP hD (e_X12_rules l D cI cJ cZ qm wm hV hRV _) ⟨⟨rfl, rfl⟩, rfl, rfl⟩ sv_L_27 ⟨(Nat.le_of_ble_eq_true rfl), (Nat.le_of_ble_eq_true rfl)⟩ hcs 0 12 (hV.o tM_0) rfl rfl rfl hl.1 rfl (Nat.le_of_ble_eq_true rfl) dL_law_268) (fun rm wm1 H locs hwm hP hD hS => ?_)
  refine lv_pop hx hb dL_law_271 rfl ?_
  refine lv_goto (tgt := 1098) hx hb dL_law_272 (by decide) ?_
  have hLD1 : LD wx1 := (LD_cg ((hwx.2.1).hA (by decide)) ((hwx.2.1).hA (by decide)) hLD)
  have hSB1 : SB (bnd + 10560) wx1 := (SB_w (SB_cg ((hwx.2.1).hA (by decide)) ((hwx.2.1).hA (by decide)) ((hwx.2.1).gI (by decide)) hSB) (by omega))
  have hIM1 : IM qm cI cJ cZ wm1 := ⟨hwm.1, (LM_cg ((hwm.2.1).hA (by decide)) ((hwm.2.1).hA (by decide)) hLM), (LY_r ((hwm.2.1).hA (by decide)) ((hwm.2.1).hA (by decide)) hwm.2.2.2.2.1 hLY), hwm.2.2.2.1⟩
  have hz := (rulesRQ (c2 := bnd + 10560) (TW_tt hW hV hT) hT.2.2.1 (tyX hW) (tyM hV) hQ hwx.2.2.2.2 hwm.2.2.2.2.2 ((hwx.1.elim (fun h => (h.2.vi (j := 1) tX_42 rfl).symm) (fun h => (h.2.vi (j := 1) tX_42 rfl).symm)).trans ((congrArg Int32.toInt ((hwx.2.1).2 42 1 (by decide) (by decide))).trans (hW.vi (j := 1) tX_42 rfl))) (vw_sm ((hwx.2.1).1 60 (by decide))) (by omega)).2
  have hg := rulesGV (TW_tt hW hV hT) (tyX hW) (tyM hV) hQG.2 (((hwm.2.1).Fr hV hwm.1 intsM_ok intsM_ok).f (j := 69) (by decide) (Or.inr (by decide))) (((hwm.2.1).Fr hV hwm.1 intsM_ok intsM_ok).f (j := 79) (by decide) (Or.inr (by decide))) hwx.2.2.2.2 hwm.2.2.2.2.2 (rulesRQ (c2 := bnd + 10560) (TW_tt hW hV hT) hT.2.2.1 (tyX hW) (tyM hV) hQ hwx.2.2.2.2 hwm.2.2.2.2.2 ((hwx.1.elim (fun h => (h.2.vi (j := 1) tX_42 rfl).symm) (fun h => (h.2.vi (j := 1) tX_42 rfl).symm)).trans ((congrArg Int32.toInt ((hwx.2.1).2 42 1 (by decide) (by decide))).trans (hW.vi (j := 1) tX_42 rfl))) (vw_sm ((hwx.2.1).1 60 (by decide))) (by omega)).1
  rcases hwx.1 with ⟨er, hw0⟩ | ⟨er, hw0⟩
  · rcases hz with ⟨_, zr⟩ | ⟨zc, _⟩
    · exact kk qx wx1 wm1 H locs ls rfl ⟨⟨16, hw0⟩, hLD1, hSB1⟩ hIM1 ⟨(hwx.2.2.2.1.trans (In_one hwm.2.2.1 (by decide)).symm), ((vw_sm ((hwx.2.1).1 32 (by decide))).trans (hT.2.1.trans (vw_sm ((hwm.2.1).1 1 (by decide))).symm)), (hT.2.2.1.cg (vw_sm ((hwx.2.1).1 33 (by decide)))), ⟨bq, OLq, La, zr, hg.1 (show rx.toInt = -1 by rw [er]; decide)⟩⟩ hP hD hS hl
    · exact absurd (show rx.toInt = -1 by rw [er]; decide) zc
  · rcases hz with ⟨zc, _⟩ | ⟨_, zr⟩
    · exact absurd (q_eq.mpr (zc.trans (show (-1 : Int) = (-1 : Int32).toInt by decide))) er
    · have g := IX_prm hw0 hLD1 hSB1
      have gp := pw_prm hw0.1 hP hD
      exact kk (sg qx) (prm wx1) wm1 H locs ls rfl g.1 hIM1 (TW_prm hw0.1 (hwx.2.2.2.1.trans (In_one hwm.2.2.1 (by decide)).symm) ((vw_sm ((hwx.2.1).1 32 (by decide))).trans (hT.2.1.trans (vw_sm ((hwm.2.1).1 1 (by decide))).symm)) (hT.2.2.1.cg (vw_sm ((hwx.2.1).1 33 (by decide)))) (zr.elim fun b2 z => z.elim fun OL2 z => ⟨b2, OL2, L0, z, hg.2 (fun zc => absurd (q_eq.mpr (zc.trans (show (-1 : Int) = (-1 : Int32).toInt by decide))) er) b2.1.length⟩)) gp.1 gp.2 hS hl
set_option maxRecDepth 100000 in
set_option maxHeartbeats 16000000 in
theorem law_c3 {p : Program} {e : Env} {s : State} {m : MethodId} {below : List Frame} {meth : Method} {c : Code} (l : Launch) {b L : Nat} {xs : Nat → Int32} {A : Nat → Prop} (hAs : ∀ q, A q → s.heap.size ≤ q) (hA : ∀ q, s.heap.size ≤ q → A q) (C0 : lw_At p s m meth c b L xs) {D : va_G} {cI cJ cZ : ClassId} {qx qm : Nat → Nat} (hK : va_K D vwCl (tyK cI cJ cZ) s) (hE : eW s) {i : Int32} (hi : ∀ j : Int32, In 0 5 j → vp_in (i + j) L) {bnd : Int} (hbd : bnd + 10560 ≤ 2147483647) {wx wm : va_W} (hIX : IX qx cI cJ cZ bnd wx) (hIM : IM qm cI cJ cZ wm) (hT : TW bnd wx wm) {H : Heap} {locs : List Loc} {ls : Array Slot} {cells slots : Nat} (hcs : cells ≤ 600000 ∧ slots ≤ 7302250) (hP : va_P D vwCl (wx ++ wm) H) (hD : va_D A (wx ++ wm)) (hS : va_S A s.heap H locs) (hl : lv_has ls 4 [(3, .int i), (2, .ref (qm 0)), (1, .ref (qx 0)), (0, .ref b)]) (kk : ∀ (qx1 : Nat → Nat) (wx1 wm1 : va_W) (H1 : Heap) (locs1 : List Loc) (ls1 : Array Slot), qx1 0 = qx 0 → IX qx1 cI cJ cZ (bnd + 10560) wx1 → IM qm cI cJ cZ wm1 → TW (bnd + 10560) wx1 wm1 → va_P D vwCl (wx1 ++ wm1) H1 → va_D A (wx1 ++ wm1) → va_S A s.heap H1 locs1 → lv_has ls1 4 [(3, .int i), (2, .ref (qm 0)), (1, .ref (qx 0)), (0, .ref b)] → W p l e room_1 s m #[Value.ref b] below meth c H1 locs1 cells slots (lw_Z below #[Value.ref b] s) (F0 m 1098 ls1 [])) : W p l e room_1 s m #[Value.ref b] below meth c H locs cells slots (lw_Z below #[Value.ref b] s) (F0 m 275 ls []) := by
  obtain ⟨hx, hb, hr, hml, hown0, hts0, hXs, hbl, hlocks, hgv⟩ := id C0
  have hown : s.vm.findClass RL = some m.cls := hown0
  have hts : ∀ w ∈ BIG, w.before #[Value.ref b] s = true := fun w h => hts0 w (big_lw w h)
  have hbA : ¬ A b := fun h => absurd hbl (Nat.not_lt.mpr (hAs b h))
  obtain ⟨⟨bp, hW⟩, hLD, hSB⟩ := hIX
  obtain ⟨hV, hLM, hLY, hRV⟩ := hIM
  obtain ⟨bq, OLq, La, hQG⟩ := hT.2.2.2
  have hQ := hQG.1
  have hR := hQ.1
  refine lv_aload_n hx hb dL_law_275 rfl (lv_at hl 2 rfl) ?_
  refine lv_aload_n hx hb dL_law_276 rfl (lv_at hl 3 rfl) ?_
  refine lv_iload_n hx hb dL_law_277 rfl (lv_at hl 0 rfl) ?_
  refine lv_iconst (v := 1) hx hb dL_law_278 (by decide) ?_
  refine lv_iadd hx hb dL_law_279 ?_
  refine va_sld hx hb hXs hbl hbA hS (hi 1 (In_lit (n := 1) (by decide) (by decide))) dL_law_280 ?_
  refine kL_i (wc := wx) (wr := wm) ⟨rfl, rfl⟩ hP hD hS hA (rL_V (As := [.int (xs (i + 1).toNatClampNeg)]) (rest := []) hx hb hml hown hts hK hE hP hD (e_X11_fault l D cI cJ cZ qx bp wx hW (xs (i + 1).toNatClampNeg) _) ⟨⟨rfl, rfl⟩, rfl, rfl⟩ sv_L_28 ⟨(Nat.le_of_ble_eq_true rfl), (Nat.le_of_ble_eq_true rfl)⟩ hcs 0 11 (hW.o tX_0) rfl rfl rfl hl.1 rfl (Nat.le_of_ble_eq_true rfl) dL_law_281) (fun rx wx1 H locs hwx hP hD hS => ?_)
  refine lv_pop hx hb dL_law_284 rfl ?_
  refine lv_aload_n hx hb dL_law_285 rfl (lv_at hl 1 rfl) ?_
  refine lv_aload_n hx hb dL_law_286 rfl (lv_at hl 3 rfl) ?_
  refine lv_iload_n hx hb dL_law_287 rfl (lv_at hl 0 rfl) ?_
  refine lv_iconst (v := 1) hx hb dL_law_288 (by decide) ?_
  refine lv_iadd hx hb dL_law_289 ?_
  refine va_sld hx hb hXs hbl hbA hS (hi 1 (In_lit (n := 1) (by decide) (by decide))) dL_law_290 ?_
  refine kL_i (wc := wm) (wr := wx1) ⟨rfl, rfl⟩ hP hD hS hA (rL_V (As := [.int (xs (i + 1).toNatClampNeg)]) (rest := []) hx hb hml hown hts hK hE hP hD (e_X12_fault l D cI cJ cZ qm wm hV (xs (i + 1).toNatClampNeg) _) ⟨⟨rfl, rfl⟩, rfl, rfl⟩ sv_L_32 ⟨(Nat.le_of_ble_eq_true rfl), (Nat.le_of_ble_eq_true rfl)⟩ hcs 0 12 (hV.o tM_0) rfl rfl rfl hl.1 rfl (Nat.le_of_ble_eq_true rfl) dL_law_291) (fun rm wm1 H locs hwm hP hD hS => ?_)
  refine lv_pop hx hb dL_law_294 rfl ?_
  refine lv_goto (tgt := 1098) hx hb dL_law_295 (by decide) ?_
  have hLD1 : LD wx1 := (LD_cg ((hwx.2.1).hA (by decide)) ((hwx.2.1).hA (by decide)) hLD)
  have hSB1 : SB (bnd + 10560) wx1 := (SB_w (SB_cg ((hwx.2.1).hA (by decide)) ((hwx.2.1).hA (by decide)) ((hwx.2.1).gI (by decide)) hSB) (by omega))
  have hIM1 : IM qm cI cJ cZ wm1 := ⟨hwm.1, (LM_cg ((hwm.2.1).hA (by decide)) ((hwm.2.1).hA (by decide)) hLM), (LY_cg ((hwm.2.1).hA (by decide)) ((hwm.2.1).hA (by decide)) ((hwm.2.1).gI (by decide)) hLY), (RV_cg ((hwm.2.1).hA (by decide)) ((hwm.2.1).hA (by decide)) ((hwm.2.1).hA (by decide)) ((hwm.2.1).gI (by decide)) hRV)⟩
  have hT1 : TW (bnd + 10560) wx1 wm1 := ⟨(((hwx.2.1).gI (by decide)).trans (hT.1.trans ((hwm.2.1).gI (by decide)).symm)), ((vw_sm ((hwx.2.1).1 32 (by decide))).trans (hT.2.1.trans (vw_sm ((hwm.2.1).1 1 (by decide))).symm)), (hT.2.2.1.cg (vw_sm ((hwx.2.1).1 33 (by decide)))), ⟨bq, OLq, La, RQ.fr hQ ((hwx.2.1).Fr hW hwx.1 intsX_ok intsX_ok) (by decide) ((K55.fr ((hwx.2.1).Fr hW hwx.1 intsX_ok intsX_ok) (by decide)).kv hR.2.2.2) ((hwm.2.1).Fr hV hwm.1 intsM_ok intsM_ok) (by decide) (by omega), (GV.fr hQG.2 ((hwx.2.1).Fr hW hwx.1 intsX_ok intsX_ok) (by decide) ((hwm.2.1).Fr hV hwm.1 intsM_ok intsM_ok) (by decide))⟩⟩
  exact kk qx wx1 wm1 H locs ls rfl ⟨⟨bp, hwx.1⟩, hLD1, hSB1⟩ hIM1 hT1 hP hD hS hl
set_option maxRecDepth 100000 in
set_option maxHeartbeats 16000000 in
theorem law_c4 {p : Program} {e : Env} {s : State} {m : MethodId} {below : List Frame} {meth : Method} {c : Code} (l : Launch) {b L : Nat} {xs : Nat → Int32} {A : Nat → Prop} (hAs : ∀ q, A q → s.heap.size ≤ q) (hA : ∀ q, s.heap.size ≤ q → A q) (C0 : lw_At p s m meth c b L xs) {D : va_G} {cI cJ cZ : ClassId} {qx qm : Nat → Nat} (hK : va_K D vwCl (tyK cI cJ cZ) s) (hE : eW s) {i : Int32} (hi : ∀ j : Int32, In 0 5 j → vp_in (i + j) L) {bnd : Int} (hbd : bnd + 10560 ≤ 2147483647) {wx wm : va_W} (hIX : IX qx cI cJ cZ bnd wx) (hIM : IM qm cI cJ cZ wm) (hT : TW bnd wx wm) {H : Heap} {locs : List Loc} {ls : Array Slot} {cells slots : Nat} (hcs : cells ≤ 600000 ∧ slots ≤ 7302250) (hP : va_P D vwCl (wx ++ wm) H) (hD : va_D A (wx ++ wm)) (hS : va_S A s.heap H locs) (hl : lv_has ls 4 [(3, .int i), (2, .ref (qm 0)), (1, .ref (qx 0)), (0, .ref b)]) (kk : ∀ (qx1 : Nat → Nat) (wx1 wm1 : va_W) (H1 : Heap) (locs1 : List Loc) (ls1 : Array Slot), qx1 0 = qx 0 → IX qx1 cI cJ cZ (bnd + 10560) wx1 → IM qm cI cJ cZ wm1 → TW (bnd + 10560) wx1 wm1 → va_P D vwCl (wx1 ++ wm1) H1 → va_D A (wx1 ++ wm1) → va_S A s.heap H1 locs1 → lv_has ls1 4 [(3, .int i), (2, .ref (qm 0)), (1, .ref (qx 0)), (0, .ref b)] → W p l e room_1 s m #[Value.ref b] below meth c H1 locs1 cells slots (lw_Z below #[Value.ref b] s) (F0 m 1098 ls1 [])) : W p l e room_1 s m #[Value.ref b] below meth c H locs cells slots (lw_Z below #[Value.ref b] s) (F0 m 298 ls []) := by
  obtain ⟨hx, hb, hr, hml, hown0, hts0, hXs, hbl, hlocks, hgv⟩ := id C0
  have hown : s.vm.findClass RL = some m.cls := hown0
  have hts : ∀ w ∈ BIG, w.before #[Value.ref b] s = true := fun w h => hts0 w (big_lw w h)
  have hbA : ¬ A b := fun h => absurd hbl (Nat.not_lt.mpr (hAs b h))
  obtain ⟨⟨bp, hW⟩, hLD, hSB⟩ := hIX
  obtain ⟨hV, hLM, hLY, hRV⟩ := hIM
  obtain ⟨bq, OLq, La, hQG⟩ := hT.2.2.2
  have hQ := hQG.1
  have hR := hQ.1
  refine lv_aload_n hx hb dL_law_298 rfl (lv_at hl 2 rfl) ?_
  refine lv_aload_n hx hb dL_law_299 rfl (lv_at hl 3 rfl) ?_
  refine lv_iload_n hx hb dL_law_300 rfl (lv_at hl 0 rfl) ?_
  refine lv_iconst (v := 1) hx hb dL_law_301 (by decide) ?_
  refine lv_iadd hx hb dL_law_302 ?_
  refine va_sld hx hb hXs hbl hbA hS (hi 1 (In_lit (n := 1) (by decide) (by decide))) dL_law_303 ?_
  refine lv_if_eq (tgt := 311) hx hb dL_law_304 (by decide) (fun hc304 => ?_) (fun hc304 => ?_)
  · refine lv_iconst (v := 0) hx hb dL_law_311 (by decide) ?_
    refine lv_aload_n hx hb dL_law_312 rfl (lv_at hl 3 rfl) ?_
    refine lv_iload_n hx hb dL_law_313 rfl (lv_at hl 0 rfl) ?_
    refine lv_iconst (v := 2) hx hb dL_law_314 (by decide) ?_
    refine lv_iadd hx hb dL_law_315 ?_
    refine va_sld hx hb hXs hbl hbA hS (hi 2 (In_lit (n := 2) (by decide) (by decide))) dL_law_316 ?_
    refine lv_aload_n hx hb dL_law_317 rfl (lv_at hl 3 rfl) ?_
    refine lv_iload_n hx hb dL_law_318 rfl (lv_at hl 0 rfl) ?_
    refine lv_iconst (v := 3) hx hb dL_law_319 (by decide) ?_
    refine lv_iadd hx hb dL_law_320 ?_
    refine va_sld hx hb hXs hbl hbA hS (hi 3 (In_lit (n := 3) (by decide) (by decide))) dL_law_321 ?_
    refine kL_i (wc := wx) (wr := wm) ⟨rfl, rfl⟩ hP hD hS hA (rL_V (As := [.int 0, .int (xs (i + 2).toNatClampNeg), .int (xs (i + 3).toNatClampNeg)]) (rest := []) hx hb hml hown hts hK hE hP hD (e_X11_name l D cI cJ cZ qx bp wx hW 0 (xs (i + 2).toNatClampNeg) (xs (i + 3).toNatClampNeg) (In_lit (n := 0) (by decide) (by decide)) _) ⟨⟨rfl, rfl⟩, rfl, rfl⟩ sv_L_33 ⟨(Nat.le_of_ble_eq_true rfl), (Nat.le_of_ble_eq_true rfl)⟩ hcs 0 11 (hW.o tX_0) rfl rfl rfl hl.1 rfl (Nat.le_of_ble_eq_true rfl) dL_law_322) (fun rx wx1 H locs hwx hP hD hS => ?_)
    refine lv_pop hx hb dL_law_325 rfl ?_
    refine lv_aload_n hx hb dL_law_326 rfl (lv_at hl 1 rfl) ?_
    refine lv_aload_n hx hb dL_law_327 rfl (lv_at hl 3 rfl) ?_
    refine lv_iload_n hx hb dL_law_328 rfl (lv_at hl 0 rfl) ?_
    refine lv_iconst (v := 1) hx hb dL_law_329 (by decide) ?_
    refine lv_iadd hx hb dL_law_330 ?_
    refine va_sld hx hb hXs hbl hbA hS (hi 1 (In_lit (n := 1) (by decide) (by decide))) dL_law_331 ?_
    refine lv_if_eq (tgt := 339) hx hb dL_law_332 (by decide) (fun hc332 => ?_) (fun hc332 => ?_)
    · refine lv_iconst (v := 0) hx hb dL_law_339 (by decide) ?_
      refine lv_aload_n hx hb dL_law_340 rfl (lv_at hl 3 rfl) ?_
      refine lv_iload_n hx hb dL_law_341 rfl (lv_at hl 0 rfl) ?_
      refine lv_iconst (v := 2) hx hb dL_law_342 (by decide) ?_
      refine lv_iadd hx hb dL_law_343 ?_
      refine va_sld hx hb hXs hbl hbA hS (hi 2 (In_lit (n := 2) (by decide) (by decide))) dL_law_344 ?_
      refine lv_aload_n hx hb dL_law_345 rfl (lv_at hl 3 rfl) ?_
      refine lv_iload_n hx hb dL_law_346 rfl (lv_at hl 0 rfl) ?_
      refine lv_iconst (v := 3) hx hb dL_law_347 (by decide) ?_
      refine lv_iadd hx hb dL_law_348 ?_
      refine va_sld hx hb hXs hbl hbA hS (hi 3 (In_lit (n := 3) (by decide) (by decide))) dL_law_349 ?_
      refine kL_i (wc := wm) (wr := wx1) ⟨rfl, rfl⟩ hP hD hS hA (rL_V (As := [.int 0, .int (xs (i + 2).toNatClampNeg), .int (xs (i + 3).toNatClampNeg)]) (rest := []) hx hb hml hown hts hK hE hP hD (e_X12_name l D cI cJ cZ qm wm hV 0 (xs (i + 2).toNatClampNeg) (xs (i + 3).toNatClampNeg) (In_lit (n := 0) (by decide) (by decide)) _) ⟨⟨rfl, rfl⟩, rfl, rfl⟩ sv_L_37 ⟨(Nat.le_of_ble_eq_true rfl), (Nat.le_of_ble_eq_true rfl)⟩ hcs 0 12 (hV.o tM_0) rfl rfl rfl hl.1 rfl (Nat.le_of_ble_eq_true rfl) dL_law_350) (fun rm wm1 H locs hwm hP hD hS => ?_)
      refine lv_pop hx hb dL_law_353 rfl ?_
      refine lv_goto (tgt := 1098) hx hb dL_law_354 (by decide) ?_
      have hLD1 : LD wx1 := (LD_cg ((hwx.2.1).hA (by decide)) ((hwx.2.1).hA (by decide)) hLD)
      have hSB1 : SB (bnd + 10560) wx1 := (SB_w (SB_cg ((hwx.2.1).hA (by decide)) ((hwx.2.1).hA (by decide)) ((hwx.2.1).gI (by decide)) hSB) (by omega))
      have hIM1 : IM qm cI cJ cZ wm1 := ⟨hwm.1, (LM_cg ((hwm.2.1).hA (by decide)) ((hwm.2.1).hA (by decide)) hLM), (LY_cg ((hwm.2.1).hA (by decide)) ((hwm.2.1).hA (by decide)) ((hwm.2.1).gI (by decide)) hLY), (RV_cg ((hwm.2.1).hA (by decide)) ((hwm.2.1).hA (by decide)) ((hwm.2.1).hA (by decide)) ((hwm.2.1).gI (by decide)) hRV)⟩
      have hT1 : TW (bnd + 10560) wx1 wm1 := ⟨(((hwx.2.1).gI (by decide)).trans (hT.1.trans ((hwm.2.1).gI (by decide)).symm)), ((vw_sm ((hwx.2.1).1 32 (by decide))).trans (hT.2.1.trans (vw_sm ((hwm.2.1).1 1 (by decide))).symm)), (hT.2.2.1.cg (vw_sm ((hwx.2.1).1 33 (by decide)))), ⟨bq, OLq, La, RQ.fr hQ ((hwx.2.1).Fr hW hwx.1 intsX_ok intsX_ok) (by decide) ((K55.fr ((hwx.2.1).Fr hW hwx.1 intsX_ok intsX_ok) (by decide)).kv hR.2.2.2) ((hwm.2.1).Fr hV hwm.1 intsM_ok intsM_ok) (by decide) (by omega), (GV.fr hQG.2 ((hwx.2.1).Fr hW hwx.1 intsX_ok intsX_ok) (by decide) ((hwm.2.1).Fr hV hwm.1 intsM_ok intsM_ok) (by decide))⟩⟩
      exact kk qx wx1 wm1 H locs ls rfl ⟨⟨bp, hwx.1⟩, hLD1, hSB1⟩ hIM1 hT1 hP hD hS hl
    · exact absurd hc304 hc332
  · refine lv_iconst (v := 1) hx hb dL_law_307 (by decide) ?_
    refine lv_goto (tgt := 312) hx hb dL_law_308 (by decide) ?_
    refine lv_aload_n hx hb dL_law_312 rfl (lv_at hl 3 rfl) ?_
    refine lv_iload_n hx hb dL_law_313 rfl (lv_at hl 0 rfl) ?_
    refine lv_iconst (v := 2) hx hb dL_law_314 (by decide) ?_
    refine lv_iadd hx hb dL_law_315 ?_
    refine va_sld hx hb hXs hbl hbA hS (hi 2 (In_lit (n := 2) (by decide) (by decide))) dL_law_316 ?_
    refine lv_aload_n hx hb dL_law_317 rfl (lv_at hl 3 rfl) ?_
    refine lv_iload_n hx hb dL_law_318 rfl (lv_at hl 0 rfl) ?_
    refine lv_iconst (v := 3) hx hb dL_law_319 (by decide) ?_
    refine lv_iadd hx hb dL_law_320 ?_
    refine va_sld hx hb hXs hbl hbA hS (hi 3 (In_lit (n := 3) (by decide) (by decide))) dL_law_321 ?_
    refine kL_i (wc := wx) (wr := wm) ⟨rfl, rfl⟩ hP hD hS hA (rL_V (As := [.int 1, .int (xs (i + 2).toNatClampNeg), .int (xs (i + 3).toNatClampNeg)]) (rest := []) hx hb hml hown hts hK hE hP hD (e_X11_name l D cI cJ cZ qx bp wx hW 1 (xs (i + 2).toNatClampNeg) (xs (i + 3).toNatClampNeg) (In_lit (n := 1) (by decide) (by decide)) _) ⟨⟨rfl, rfl⟩, rfl, rfl⟩ sv_L_33 ⟨(Nat.le_of_ble_eq_true rfl), (Nat.le_of_ble_eq_true rfl)⟩ hcs 0 11 (hW.o tX_0) rfl rfl rfl hl.1 rfl (Nat.le_of_ble_eq_true rfl) dL_law_322) (fun rx wx1 H locs hwx hP hD hS => ?_)
    refine lv_pop hx hb dL_law_325 rfl ?_
    refine lv_aload_n hx hb dL_law_326 rfl (lv_at hl 1 rfl) ?_
    refine lv_aload_n hx hb dL_law_327 rfl (lv_at hl 3 rfl) ?_
    refine lv_iload_n hx hb dL_law_328 rfl (lv_at hl 0 rfl) ?_
    refine lv_iconst (v := 1) hx hb dL_law_329 (by decide) ?_
    refine lv_iadd hx hb dL_law_330 ?_
    refine va_sld hx hb hXs hbl hbA hS (hi 1 (In_lit (n := 1) (by decide) (by decide))) dL_law_331 ?_
    refine lv_if_eq (tgt := 339) hx hb dL_law_332 (by decide) (fun hc332 => ?_) (fun hc332 => ?_)
    · exact absurd hc332 hc304
    · refine lv_iconst (v := 1) hx hb dL_law_335 (by decide) ?_
      refine lv_goto (tgt := 340) hx hb dL_law_336 (by decide) ?_
      refine lv_aload_n hx hb dL_law_340 rfl (lv_at hl 3 rfl) ?_
      refine lv_iload_n hx hb dL_law_341 rfl (lv_at hl 0 rfl) ?_
      refine lv_iconst (v := 2) hx hb dL_law_342 (by decide) ?_
      refine lv_iadd hx hb dL_law_343 ?_
      refine va_sld hx hb hXs hbl hbA hS (hi 2 (In_lit (n := 2) (by decide) (by decide))) dL_law_344 ?_
      refine lv_aload_n hx hb dL_law_345 rfl (lv_at hl 3 rfl) ?_
      refine lv_iload_n hx hb dL_law_346 rfl (lv_at hl 0 rfl) ?_
      refine lv_iconst (v := 3) hx hb dL_law_347 (by decide) ?_
      refine lv_iadd hx hb dL_law_348 ?_
      refine va_sld hx hb hXs hbl hbA hS (hi 3 (In_lit (n := 3) (by decide) (by decide))) dL_law_349 ?_
      refine kL_i (wc := wm) (wr := wx1) ⟨rfl, rfl⟩ hP hD hS hA (rL_V (As := [.int 1, .int (xs (i + 2).toNatClampNeg), .int (xs (i + 3).toNatClampNeg)]) (rest := []) hx hb hml hown hts hK hE hP hD (e_X12_name l D cI cJ cZ qm wm hV 1 (xs (i + 2).toNatClampNeg) (xs (i + 3).toNatClampNeg) (In_lit (n := 1) (by decide) (by decide)) _) ⟨⟨rfl, rfl⟩, rfl, rfl⟩ sv_L_37 ⟨(Nat.le_of_ble_eq_true rfl), (Nat.le_of_ble_eq_true rfl)⟩ hcs 0 12 (hV.o tM_0) rfl rfl rfl hl.1 rfl (Nat.le_of_ble_eq_true rfl) dL_law_350) (fun rm wm1 H locs hwm hP hD hS => ?_)
      refine lv_pop hx hb dL_law_353 rfl ?_
      refine lv_goto (tgt := 1098) hx hb dL_law_354 (by decide) ?_
      have hLD1 : LD wx1 := (LD_cg ((hwx.2.1).hA (by decide)) ((hwx.2.1).hA (by decide)) hLD)
      have hSB1 : SB (bnd + 10560) wx1 := (SB_w (SB_cg ((hwx.2.1).hA (by decide)) ((hwx.2.1).hA (by decide)) ((hwx.2.1).gI (by decide)) hSB) (by omega))
      have hIM1 : IM qm cI cJ cZ wm1 := ⟨hwm.1, (LM_cg ((hwm.2.1).hA (by decide)) ((hwm.2.1).hA (by decide)) hLM), (LY_cg ((hwm.2.1).hA (by decide)) ((hwm.2.1).hA (by decide)) ((hwm.2.1).gI (by decide)) hLY), (RV_cg ((hwm.2.1).hA (by decide)) ((hwm.2.1).hA (by decide)) ((hwm.2.1).hA (by decide)) ((hwm.2.1).gI (by decide)) hRV)⟩
      have hT1 : TW (bnd + 10560) wx1 wm1 := ⟨(((hwx.2.1).gI (by decide)).trans (hT.1.trans ((hwm.2.1).gI (by decide)).symm)), ((vw_sm ((hwx.2.1).1 32 (by decide))).trans (hT.2.1.trans (vw_sm ((hwm.2.1).1 1 (by decide))).symm)), (hT.2.2.1.cg (vw_sm ((hwx.2.1).1 33 (by decide)))), ⟨bq, OLq, La, RQ.fr hQ ((hwx.2.1).Fr hW hwx.1 intsX_ok intsX_ok) (by decide) ((K55.fr ((hwx.2.1).Fr hW hwx.1 intsX_ok intsX_ok) (by decide)).kv hR.2.2.2) ((hwm.2.1).Fr hV hwm.1 intsM_ok intsM_ok) (by decide) (by omega), (GV.fr hQG.2 ((hwx.2.1).Fr hW hwx.1 intsX_ok intsX_ok) (by decide) ((hwm.2.1).Fr hV hwm.1 intsM_ok intsM_ok) (by decide))⟩⟩
      exact kk qx wx1 wm1 H locs ls rfl ⟨⟨bp, hwx.1⟩, hLD1, hSB1⟩ hIM1 hT1 hP hD hS hl
set_option maxRecDepth 100000 in
set_option maxHeartbeats 16000000 in
theorem law_c5 {p : Program} {e : Env} {s : State} {m : MethodId} {below : List Frame} {meth : Method} {c : Code} (l : Launch) {b L : Nat} {xs : Nat → Int32} {A : Nat → Prop} (hAs : ∀ q, A q → s.heap.size ≤ q) (hA : ∀ q, s.heap.size ≤ q → A q) (C0 : lw_At p s m meth c b L xs) {D : va_G} {cI cJ cZ : ClassId} {qx qm : Nat → Nat} (hK : va_K D vwCl (tyK cI cJ cZ) s) (hE : eW s) {i : Int32} (hi : ∀ j : Int32, In 0 5 j → vp_in (i + j) L) {bnd : Int} (hbd : bnd + 10560 ≤ 2147483647) {wx wm : va_W} (hIX : IX qx cI cJ cZ bnd wx) (hIM : IM qm cI cJ cZ wm) (hT : TW bnd wx wm) {H : Heap} {locs : List Loc} {ls : Array Slot} {cells slots : Nat} (hcs : cells ≤ 600000 ∧ slots ≤ 7302250) (hP : va_P D vwCl (wx ++ wm) H) (hD : va_D A (wx ++ wm)) (hS : va_S A s.heap H locs) (hl : lv_has ls 4 [(3, .int i), (2, .ref (qm 0)), (1, .ref (qx 0)), (0, .ref b)]) (kk : ∀ (qx1 : Nat → Nat) (wx1 wm1 : va_W) (H1 : Heap) (locs1 : List Loc) (ls1 : Array Slot), qx1 0 = qx 0 → IX qx1 cI cJ cZ (bnd + 10560) wx1 → IM qm cI cJ cZ wm1 → TW (bnd + 10560) wx1 wm1 → va_P D vwCl (wx1 ++ wm1) H1 → va_D A (wx1 ++ wm1) → va_S A s.heap H1 locs1 → lv_has ls1 4 [(3, .int i), (2, .ref (qm 0)), (1, .ref (qx 0)), (0, .ref b)] → W p l e room_1 s m #[Value.ref b] below meth c H1 locs1 cells slots (lw_Z below #[Value.ref b] s) (F0 m 1098 ls1 [])) : W p l e room_1 s m #[Value.ref b] below meth c H locs cells slots (lw_Z below #[Value.ref b] s) (F0 m 357 ls []) := by
  obtain ⟨hx, hb, hr, hml, hown0, hts0, hXs, hbl, hlocks, hgv⟩ := id C0
  have hown : s.vm.findClass RL = some m.cls := hown0
  have hts : ∀ w ∈ BIG, w.before #[Value.ref b] s = true := fun w h => hts0 w (big_lw w h)
  have hbA : ¬ A b := fun h => absurd hbl (Nat.not_lt.mpr (hAs b h))
  obtain ⟨⟨bp, hW⟩, hLD, hSB⟩ := hIX
  obtain ⟨hV, hLM, hLY, hRV⟩ := hIM
  obtain ⟨bq, OLq, La, hQG⟩ := hT.2.2.2
  have hQ := hQG.1
  have hR := hQ.1
  refine lv_aload_n hx hb dL_law_357 rfl (lv_at hl 2 rfl) ?_
  refine lv_aload_n hx hb dL_law_358 rfl (lv_at hl 3 rfl) ?_
  refine lv_iload_n hx hb dL_law_359 rfl (lv_at hl 0 rfl) ?_
  refine lv_iconst (v := 1) hx hb dL_law_360 (by decide) ?_
  refine lv_iadd hx hb dL_law_361 ?_
  refine va_sld hx hb hXs hbl hbA hS (hi 1 (In_lit (n := 1) (by decide) (by decide))) dL_law_362 ?_
  refine lv_aload_n hx hb dL_law_363 rfl (lv_at hl 3 rfl) ?_
  refine lv_iload_n hx hb dL_law_364 rfl (lv_at hl 0 rfl) ?_
  refine lv_iconst (v := 2) hx hb dL_law_365 (by decide) ?_
  refine lv_iadd hx hb dL_law_366 ?_
  refine va_sld hx hb hXs hbl hbA hS (hi 2 (In_lit (n := 2) (by decide) (by decide))) dL_law_367 ?_
  refine kL_i (wc := wx) (wr := wm) ⟨rfl, rfl⟩ hP hD hS hA (rL_V (As := [.int (xs (i + 1).toNatClampNeg), .int (xs (i + 2).toNatClampNeg)]) (rest := []) hx hb hml hown hts hK hE hP hD (e_X11_marked l D cI cJ cZ qx bp wx hW (xs (i + 1).toNatClampNeg) (xs (i + 2).toNatClampNeg) _) ⟨⟨rfl, rfl⟩, rfl, rfl⟩ sv_L_38 ⟨(Nat.le_of_ble_eq_true rfl), (Nat.le_of_ble_eq_true rfl)⟩ hcs 0 11 (hW.o tX_0) rfl rfl rfl hl.1 rfl (Nat.le_of_ble_eq_true rfl) dL_law_368) (fun rx wx1 H locs hwx hP hD hS => ?_)
  refine lv_pop hx hb dL_law_371 rfl ?_
  refine lv_aload_n hx hb dL_law_372 rfl (lv_at hl 1 rfl) ?_
  refine lv_aload_n hx hb dL_law_373 rfl (lv_at hl 3 rfl) ?_
  refine lv_iload_n hx hb dL_law_374 rfl (lv_at hl 0 rfl) ?_
  refine lv_iconst (v := 1) hx hb dL_law_375 (by decide) ?_
  refine lv_iadd hx hb dL_law_376 ?_
  refine va_sld hx hb hXs hbl hbA hS (hi 1 (In_lit (n := 1) (by decide) (by decide))) dL_law_377 ?_
  refine lv_aload_n hx hb dL_law_378 rfl (lv_at hl 3 rfl) ?_
  refine lv_iload_n hx hb dL_law_379 rfl (lv_at hl 0 rfl) ?_
  refine lv_iconst (v := 2) hx hb dL_law_380 (by decide) ?_
  refine lv_iadd hx hb dL_law_381 ?_
  refine va_sld hx hb hXs hbl hbA hS (hi 2 (In_lit (n := 2) (by decide) (by decide))) dL_law_382 ?_
  refine kL_i (wc := wm) (wr := wx1) ⟨rfl, rfl⟩ hP hD hS hA (rL_V (As := [.int (xs (i + 1).toNatClampNeg), .int (xs (i + 2).toNatClampNeg)]) (rest := []) hx hb hml hown hts hK hE hP hD (e_X12_marked l D cI cJ cZ qm wm hV (xs (i + 1).toNatClampNeg) (xs (i + 2).toNatClampNeg) _) ⟨⟨rfl, rfl⟩, rfl, rfl⟩ sv_L_42 ⟨(Nat.le_of_ble_eq_true rfl), (Nat.le_of_ble_eq_true rfl)⟩ hcs 0 12 (hV.o tM_0) rfl rfl rfl hl.1 rfl (Nat.le_of_ble_eq_true rfl) dL_law_383) (fun rm wm1 H locs hwm hP hD hS => ?_)
  refine lv_pop hx hb dL_law_386 rfl ?_
  refine lv_goto (tgt := 1098) hx hb dL_law_387 (by decide) ?_
  have hLD1 : LD wx1 := (LD_cg ((hwx.2.1).hA (by decide)) ((hwx.2.1).hA (by decide)) hLD)
  have hSB1 : SB (bnd + 10560) wx1 := (SB_w (SB_cg ((hwx.2.1).hA (by decide)) ((hwx.2.1).hA (by decide)) ((hwx.2.1).gI (by decide)) hSB) (by omega))
  have hIM1 : IM qm cI cJ cZ wm1 := ⟨hwm.1, (LM_cg ((hwm.2.1).hA (by decide)) ((hwm.2.1).hA (by decide)) hLM), (LY_cg ((hwm.2.1).hA (by decide)) ((hwm.2.1).hA (by decide)) ((hwm.2.1).gI (by decide)) hLY), (RV_cg ((hwm.2.1).hA (by decide)) ((hwm.2.1).hA (by decide)) ((hwm.2.1).hA (by decide)) ((hwm.2.1).gI (by decide)) hRV)⟩
  have hT1 : TW (bnd + 10560) wx1 wm1 := ⟨(((hwx.2.1).gI (by decide)).trans (hT.1.trans ((hwm.2.1).gI (by decide)).symm)), ((vw_sm ((hwx.2.1).1 32 (by decide))).trans (hT.2.1.trans (vw_sm ((hwm.2.1).1 1 (by decide))).symm)), (hT.2.2.1.cg (vw_sm ((hwx.2.1).1 33 (by decide)))), ⟨bq, OLq, La, RQ.fr hQ ((hwx.2.1).Fr hW hwx.1 intsX_ok intsX_ok) (by decide) ((K55.fr ((hwx.2.1).Fr hW hwx.1 intsX_ok intsX_ok) (by decide)).kv hR.2.2.2) ((hwm.2.1).Fr hV hwm.1 intsM_ok intsM_ok) (by decide) (by omega), (GV.fr hQG.2 ((hwx.2.1).Fr hW hwx.1 intsX_ok intsX_ok) (by decide) ((hwm.2.1).Fr hV hwm.1 intsM_ok intsM_ok) (by decide))⟩⟩
  exact kk qx wx1 wm1 H locs ls rfl ⟨⟨bp, hwx.1⟩, hLD1, hSB1⟩ hIM1 hT1 hP hD hS hl
set_option maxRecDepth 100000 in
set_option maxHeartbeats 16000000 in
theorem law_c6 {p : Program} {e : Env} {s : State} {m : MethodId} {below : List Frame} {meth : Method} {c : Code} (l : Launch) {b L : Nat} {xs : Nat → Int32} {A : Nat → Prop} (hAs : ∀ q, A q → s.heap.size ≤ q) (hA : ∀ q, s.heap.size ≤ q → A q) (C0 : lw_At p s m meth c b L xs) {D : va_G} {cI cJ cZ : ClassId} {qx qm : Nat → Nat} (hK : va_K D vwCl (tyK cI cJ cZ) s) (hE : eW s) {i : Int32} (hi : ∀ j : Int32, In 0 5 j → vp_in (i + j) L) {bnd : Int} (hbd : bnd + 10560 ≤ 2147483647) {wx wm : va_W} (hIX : IX qx cI cJ cZ bnd wx) (hIM : IM qm cI cJ cZ wm) (hT : TW bnd wx wm) {H : Heap} {locs : List Loc} {ls : Array Slot} {cells slots : Nat} (hcs : cells ≤ 600000 ∧ slots ≤ 7302250) (hP : va_P D vwCl (wx ++ wm) H) (hD : va_D A (wx ++ wm)) (hS : va_S A s.heap H locs) (hl : lv_has ls 4 [(3, .int i), (2, .ref (qm 0)), (1, .ref (qx 0)), (0, .ref b)]) (kk : ∀ (qx1 : Nat → Nat) (wx1 wm1 : va_W) (H1 : Heap) (locs1 : List Loc) (ls1 : Array Slot), qx1 0 = qx 0 → IX qx1 cI cJ cZ (bnd + 10560) wx1 → IM qm cI cJ cZ wm1 → TW (bnd + 10560) wx1 wm1 → va_P D vwCl (wx1 ++ wm1) H1 → va_D A (wx1 ++ wm1) → va_S A s.heap H1 locs1 → lv_has ls1 4 [(3, .int i), (2, .ref (qm 0)), (1, .ref (qx 0)), (0, .ref b)] → W p l e room_1 s m #[Value.ref b] below meth c H1 locs1 cells slots (lw_Z below #[Value.ref b] s) (F0 m 1098 ls1 [])) : W p l e room_1 s m #[Value.ref b] below meth c H locs cells slots (lw_Z below #[Value.ref b] s) (F0 m 390 ls []) := by
  obtain ⟨hx, hb, hr, hml, hown0, hts0, hXs, hbl, hlocks, hgv⟩ := id C0
  have hown : s.vm.findClass RL = some m.cls := hown0
  have hts : ∀ w ∈ BIG, w.before #[Value.ref b] s = true := fun w h => hts0 w (big_lw w h)
  have hbA : ¬ A b := fun h => absurd hbl (Nat.not_lt.mpr (hAs b h))
  obtain ⟨⟨bp, hW⟩, hLD, hSB⟩ := hIX
  obtain ⟨hV, hLM, hLY, hRV⟩ := hIM
  obtain ⟨bq, OLq, La, hQG⟩ := hT.2.2.2
  have hQ := hQG.1
  have hR := hQ.1
  refine lv_aload_n hx hb dL_law_390 rfl (lv_at hl 2 rfl) ?_
  refine lv_aload_n hx hb dL_law_391 rfl (lv_at hl 3 rfl) ?_
  refine lv_iload_n hx hb dL_law_392 rfl (lv_at hl 0 rfl) ?_
  refine lv_iconst (v := 1) hx hb dL_law_393 (by decide) ?_
  refine lv_iadd hx hb dL_law_394 ?_
  refine va_sld hx hb hXs hbl hbA hS (hi 1 (In_lit (n := 1) (by decide) (by decide))) dL_law_395 ?_
  refine lv_aload_n hx hb dL_law_396 rfl (lv_at hl 3 rfl) ?_
  refine lv_iload_n hx hb dL_law_397 rfl (lv_at hl 0 rfl) ?_
  refine lv_iconst (v := 2) hx hb dL_law_398 (by decide) ?_
  refine lv_iadd hx hb dL_law_399 ?_
  refine va_sld hx hb hXs hbl hbA hS (hi 2 (In_lit (n := 2) (by decide) (by decide))) dL_law_400 ?_
  refine lv_aload_n hx hb dL_law_401 rfl (lv_at hl 3 rfl) ?_
  refine lv_iload_n hx hb dL_law_402 rfl (lv_at hl 0 rfl) ?_
  refine lv_iconst (v := 3) hx hb dL_law_403 (by decide) ?_
  refine lv_iadd hx hb dL_law_404 ?_
  refine va_sld hx hb hXs hbl hbA hS (hi 3 (In_lit (n := 3) (by decide) (by decide))) dL_law_405 ?_
  refine lv_aload_n hx hb dL_law_406 rfl (lv_at hl 3 rfl) ?_
  refine lv_iload_n hx hb dL_law_407 rfl (lv_at hl 0 rfl) ?_
  refine lv_iconst (v := 4) hx hb dL_law_408 (by decide) ?_
  refine lv_iadd hx hb dL_law_409 ?_
  refine va_sld hx hb hXs hbl hbA hS (hi 4 (In_lit (n := 4) (by decide) (by decide))) dL_law_410 ?_
  refine lv_aload_n hx hb dL_law_411 rfl (lv_at hl 3 rfl) ?_
  refine lv_iload_n hx hb dL_law_412 rfl (lv_at hl 0 rfl) ?_
  refine lv_iconst (v := 5) hx hb dL_law_413 (by decide) ?_
  refine lv_iadd hx hb dL_law_414 ?_
  refine va_sld hx hb hXs hbl hbA hS (hi 5 (In_lit (n := 5) (by decide) (by decide))) dL_law_415 ?_
  refine kL_i (wc := wx) (wr := wm) ⟨rfl, rfl⟩ hP hD hS hA (rL_V (As := [.int (xs (i + 1).toNatClampNeg), .int (xs (i + 2).toNatClampNeg), .int (xs (i + 3).toNatClampNeg), .int (xs (i + 4).toNatClampNeg), .int (xs (i + 5).toNatClampNeg)]) (rest := []) hx hb hml hown hts hK hE hP hD (e_X11_report l D cI cJ cZ qx bp wx hW (xs (i + 1).toNatClampNeg) (xs (i + 2).toNatClampNeg) (xs (i + 3).toNatClampNeg) (xs (i + 4).toNatClampNeg) (xs (i + 5).toNatClampNeg) _) ⟨⟨rfl, rfl⟩, rfl, rfl⟩ sv_L_43 ⟨(Nat.le_of_ble_eq_true rfl), (Nat.le_of_ble_eq_true rfl)⟩ hcs 0 11 (hW.o tX_0) rfl rfl rfl hl.1 rfl (Nat.le_of_ble_eq_true rfl) dL_law_416) (fun rx wx1 H locs hwx hP hD hS => ?_)
  refine lv_pop hx hb dL_law_419 rfl ?_
  refine lv_aload_n hx hb dL_law_420 rfl (lv_at hl 1 rfl) ?_
  refine lv_aload_n hx hb dL_law_421 rfl (lv_at hl 3 rfl) ?_
  refine lv_iload_n hx hb dL_law_422 rfl (lv_at hl 0 rfl) ?_
  refine lv_iconst (v := 1) hx hb dL_law_423 (by decide) ?_
  refine lv_iadd hx hb dL_law_424 ?_
  refine va_sld hx hb hXs hbl hbA hS (hi 1 (In_lit (n := 1) (by decide) (by decide))) dL_law_425 ?_
  refine lv_aload_n hx hb dL_law_426 rfl (lv_at hl 3 rfl) ?_
  refine lv_iload_n hx hb dL_law_427 rfl (lv_at hl 0 rfl) ?_
  refine lv_iconst (v := 2) hx hb dL_law_428 (by decide) ?_
  refine lv_iadd hx hb dL_law_429 ?_
  refine va_sld hx hb hXs hbl hbA hS (hi 2 (In_lit (n := 2) (by decide) (by decide))) dL_law_430 ?_
  refine lv_aload_n hx hb dL_law_431 rfl (lv_at hl 3 rfl) ?_
  refine lv_iload_n hx hb dL_law_432 rfl (lv_at hl 0 rfl) ?_
  refine lv_iconst (v := 3) hx hb dL_law_433 (by decide) ?_
  refine lv_iadd hx hb dL_law_434 ?_
  refine va_sld hx hb hXs hbl hbA hS (hi 3 (In_lit (n := 3) (by decide) (by decide))) dL_law_435 ?_
  refine lv_aload_n hx hb dL_law_436 rfl (lv_at hl 3 rfl) ?_
  refine lv_iload_n hx hb dL_law_437 rfl (lv_at hl 0 rfl) ?_
  refine lv_iconst (v := 4) hx hb dL_law_438 (by decide) ?_
  refine lv_iadd hx hb dL_law_439 ?_
  refine va_sld hx hb hXs hbl hbA hS (hi 4 (In_lit (n := 4) (by decide) (by decide))) dL_law_440 ?_
  refine lv_aload_n hx hb dL_law_441 rfl (lv_at hl 3 rfl) ?_
  refine lv_iload_n hx hb dL_law_442 rfl (lv_at hl 0 rfl) ?_
  refine lv_iconst (v := 5) hx hb dL_law_443 (by decide) ?_
  refine lv_iadd hx hb dL_law_444 ?_
  refine va_sld hx hb hXs hbl hbA hS (hi 5 (In_lit (n := 5) (by decide) (by decide))) dL_law_445 ?_
  refine kL_i (wc := wm) (wr := wx1) ⟨rfl, rfl⟩ hP hD hS hA (rL_V (As := [.int (xs (i + 1).toNatClampNeg), .int (xs (i + 2).toNatClampNeg), .int (xs (i + 3).toNatClampNeg), .int (xs (i + 4).toNatClampNeg), .int (xs (i + 5).toNatClampNeg)]) (rest := []) hx hb hml hown hts hK hE hP hD (e_X12_report l D cI cJ cZ qm wm hV (xs (i + 1).toNatClampNeg) (xs (i + 2).toNatClampNeg) (xs (i + 3).toNatClampNeg) (xs (i + 4).toNatClampNeg) (xs (i + 5).toNatClampNeg) _) ⟨⟨rfl, rfl⟩, rfl, rfl⟩ sv_L_46 ⟨(Nat.le_of_ble_eq_true rfl), (Nat.le_of_ble_eq_true rfl)⟩ hcs 0 12 (hV.o tM_0) rfl rfl rfl hl.1 rfl (Nat.le_of_ble_eq_true rfl) dL_law_446) (fun rm wm1 H locs hwm hP hD hS => ?_)
  refine lv_pop hx hb dL_law_449 rfl ?_
  refine lv_goto (tgt := 1098) hx hb dL_law_450 (by decide) ?_
  have hLD1 : LD wx1 := (hwx.2.2.2.1 hLD)
  have hSB1 : SB (bnd + 10560) wx1 := (SB_w (SB_cg ((hwx.2.1).hA (by decide)) ((hwx.2.1).hA (by decide)) ((hwx.2.1).gI (by decide)) hSB) (by omega))
  have hIM1 : IM qm cI cJ cZ wm1 := ⟨hwm.1, (hwm.2.2.2.2.1 hLM), (hwm.2.2.2.2.2.1 hLY), (RV_cg ((hwm.2.1).hA (by decide)) ((hwm.2.1).hA (by decide)) ((hwm.2.1).hA (by decide)) ((hwm.2.1).2 0 12 (by decide) (by decide)) hRV)⟩
  have hT1 : TW (bnd + 10560) wx1 wm1 := ⟨(hwx.2.2.2.2.1.trans (In_one hwm.2.2.2.1 (by decide)).symm), ((vw_sm ((hwx.2.1).1 32 (by decide))).trans (hT.2.1.trans (vw_sm ((hwm.2.1).1 1 (by decide))).symm)), (hT.2.2.1.cg (vw_sm ((hwx.2.1).1 33 (by decide)))), ⟨bq, OLq, (RQ.act hQ (report2 (TW_tt hW hV hT) hT.2.2.1 (tyX hW) (tyM hV) hR.2.2.1 hwx.2.2.2.2.2 hwm.2.2.2.2.2.2).2 ((hwx.2.1).Fr hW hwx.1 intsX_ok intsX_ok) (by decide) ((hwm.2.1).Fr hV hwm.1 intsM_ok intsM_ok) (by decide) (by omega)).elim (fun M z => ⟨M, z, (GV.fr hQG.2 ((hwx.2.1).Fr hW hwx.1 intsX_ok intsX_ok) (by decide) ((hwm.2.1).Fr hV hwm.1 intsM_ok intsM_ok) (by decide))⟩)⟩⟩
  exact kk qx wx1 wm1 H locs ls rfl ⟨⟨bp, hwx.1⟩, hLD1, hSB1⟩ hIM1 hT1 hP hD hS hl
set_option maxRecDepth 100000 in
set_option maxHeartbeats 16000000 in
theorem law_c7 {p : Program} {e : Env} {s : State} {m : MethodId} {below : List Frame} {meth : Method} {c : Code} (l : Launch) {b L : Nat} {xs : Nat → Int32} {A : Nat → Prop} (hAs : ∀ q, A q → s.heap.size ≤ q) (hA : ∀ q, s.heap.size ≤ q → A q) (C0 : lw_At p s m meth c b L xs) {D : va_G} {cI cJ cZ : ClassId} {qx qm : Nat → Nat} (hK : va_K D vwCl (tyK cI cJ cZ) s) (hE : eW s) {i : Int32} (hi : ∀ j : Int32, In 0 5 j → vp_in (i + j) L) {bnd : Int} (hbd : bnd + 10560 ≤ 2147483647) {wx wm : va_W} (hIX : IX qx cI cJ cZ bnd wx) (hIM : IM qm cI cJ cZ wm) (hT : TW bnd wx wm) {H : Heap} {locs : List Loc} {ls : Array Slot} {cells slots : Nat} (hcs : cells ≤ 600000 ∧ slots ≤ 7302250) (hP : va_P D vwCl (wx ++ wm) H) (hD : va_D A (wx ++ wm)) (hS : va_S A s.heap H locs) (hl : lv_has ls 4 [(3, .int i), (2, .ref (qm 0)), (1, .ref (qx 0)), (0, .ref b)]) (kk : ∀ (qx1 : Nat → Nat) (wx1 wm1 : va_W) (H1 : Heap) (locs1 : List Loc) (ls1 : Array Slot), qx1 0 = qx 0 → IX qx1 cI cJ cZ (bnd + 10560) wx1 → IM qm cI cJ cZ wm1 → TW (bnd + 10560) wx1 wm1 → va_P D vwCl (wx1 ++ wm1) H1 → va_D A (wx1 ++ wm1) → va_S A s.heap H1 locs1 → lv_has ls1 4 [(3, .int i), (2, .ref (qm 0)), (1, .ref (qx 0)), (0, .ref b)] → W p l e room_1 s m #[Value.ref b] below meth c H1 locs1 cells slots (lw_Z below #[Value.ref b] s) (F0 m 1098 ls1 [])) : W p l e room_1 s m #[Value.ref b] below meth c H locs cells slots (lw_Z below #[Value.ref b] s) (F0 m 453 ls []) := by
  obtain ⟨hx, hb, hr, hml, hown0, hts0, hXs, hbl, hlocks, hgv⟩ := id C0
  have hown : s.vm.findClass RL = some m.cls := hown0
  have hts : ∀ w ∈ BIG, w.before #[Value.ref b] s = true := fun w h => hts0 w (big_lw w h)
  have hbA : ¬ A b := fun h => absurd hbl (Nat.not_lt.mpr (hAs b h))
  obtain ⟨⟨bp, hW⟩, hLD, hSB⟩ := hIX
  obtain ⟨hV, hLM, hLY, hRV⟩ := hIM
  obtain ⟨bq, OLq, La, hQG⟩ := hT.2.2.2
  have hQ := hQG.1
  have hR := hQ.1
  refine lv_aload_n hx hb dL_law_453 rfl (lv_at hl 2 rfl) ?_
  refine lv_aload_n hx hb dL_law_454 rfl (lv_at hl 3 rfl) ?_
  refine lv_iload_n hx hb dL_law_455 rfl (lv_at hl 0 rfl) ?_
  refine lv_iconst (v := 1) hx hb dL_law_456 (by decide) ?_
  refine lv_iadd hx hb dL_law_457 ?_
  refine va_sld hx hb hXs hbl hbA hS (hi 1 (In_lit (n := 1) (by decide) (by decide))) dL_law_458 ?_
  refine lv_aload_n hx hb dL_law_459 rfl (lv_at hl 3 rfl) ?_
  refine lv_iload_n hx hb dL_law_460 rfl (lv_at hl 0 rfl) ?_
  refine lv_iconst (v := 2) hx hb dL_law_461 (by decide) ?_
  refine lv_iadd hx hb dL_law_462 ?_
  refine va_sld hx hb hXs hbl hbA hS (hi 2 (In_lit (n := 2) (by decide) (by decide))) dL_law_463 ?_
  refine lv_aload_n hx hb dL_law_464 rfl (lv_at hl 3 rfl) ?_
  refine lv_iload_n hx hb dL_law_465 rfl (lv_at hl 0 rfl) ?_
  refine lv_iconst (v := 3) hx hb dL_law_466 (by decide) ?_
  refine lv_iadd hx hb dL_law_467 ?_
  refine va_sld hx hb hXs hbl hbA hS (hi 3 (In_lit (n := 3) (by decide) (by decide))) dL_law_468 ?_
  refine kL_i (wc := wx) (wr := wm) ⟨rfl, rfl⟩ hP hD hS hA (rL_V (As := [.int (xs (i + 1).toNatClampNeg), .int (xs (i + 2).toNatClampNeg), .int (xs (i + 3).toNatClampNeg)]) (rest := []) hx hb hml hown hts hK hE hP hD (e_X11_gifts l D cI cJ cZ qx bp wx hW (xs (i + 1).toNatClampNeg) (xs (i + 2).toNatClampNeg) (xs (i + 3).toNatClampNeg) _) ⟨⟨rfl, rfl⟩, rfl, rfl⟩ sv_L_47 ⟨(Nat.le_of_ble_eq_true rfl), (Nat.le_of_ble_eq_true rfl)⟩ hcs 0 11 (hW.o tX_0) rfl rfl rfl hl.1 rfl (Nat.le_of_ble_eq_true rfl) dL_law_469) (fun rx wx1 H locs hwx hP hD hS => ?_)
  refine lv_pop hx hb dL_law_472 rfl ?_
  refine lv_aload_n hx hb dL_law_473 rfl (lv_at hl 1 rfl) ?_
  refine lv_aload_n hx hb dL_law_474 rfl (lv_at hl 3 rfl) ?_
  refine lv_iload_n hx hb dL_law_475 rfl (lv_at hl 0 rfl) ?_
  refine lv_iconst (v := 1) hx hb dL_law_476 (by decide) ?_
  refine lv_iadd hx hb dL_law_477 ?_
  refine va_sld hx hb hXs hbl hbA hS (hi 1 (In_lit (n := 1) (by decide) (by decide))) dL_law_478 ?_
  refine lv_aload_n hx hb dL_law_479 rfl (lv_at hl 3 rfl) ?_
  refine lv_iload_n hx hb dL_law_480 rfl (lv_at hl 0 rfl) ?_
  refine lv_iconst (v := 2) hx hb dL_law_481 (by decide) ?_
  refine lv_iadd hx hb dL_law_482 ?_
  refine va_sld hx hb hXs hbl hbA hS (hi 2 (In_lit (n := 2) (by decide) (by decide))) dL_law_483 ?_
  refine lv_aload_n hx hb dL_law_484 rfl (lv_at hl 3 rfl) ?_
  refine lv_iload_n hx hb dL_law_485 rfl (lv_at hl 0 rfl) ?_
  refine lv_iconst (v := 3) hx hb dL_law_486 (by decide) ?_
  refine lv_iadd hx hb dL_law_487 ?_
  refine va_sld hx hb hXs hbl hbA hS (hi 3 (In_lit (n := 3) (by decide) (by decide))) dL_law_488 ?_
  refine kL_i (wc := wm) (wr := wx1) ⟨rfl, rfl⟩ hP hD hS hA (rL_V (As := [.int (xs (i + 1).toNatClampNeg), .int (xs (i + 2).toNatClampNeg), .int (xs (i + 3).toNatClampNeg)]) (rest := []) hx hb hml hown hts hK hE hP hD (e_X12_gifts l D cI cJ cZ qm wm hV (xs (i + 1).toNatClampNeg) (xs (i + 2).toNatClampNeg) (xs (i + 3).toNatClampNeg) _) ⟨⟨rfl, rfl⟩, rfl, rfl⟩ sv_L_51 ⟨(Nat.le_of_ble_eq_true rfl), (Nat.le_of_ble_eq_true rfl)⟩ hcs 0 12 (hV.o tM_0) rfl rfl rfl hl.1 rfl (Nat.le_of_ble_eq_true rfl) dL_law_489) (fun rm wm1 H locs hwm hP hD hS => ?_)
  refine lv_pop hx hb dL_law_492 rfl ?_
  refine lv_goto (tgt := 1098) hx hb dL_law_493 (by decide) ?_
  have hLD1 : LD wx1 := (hwx.2.2.2.1 hLD)
  have hSB1 : SB (bnd + 10560) wx1 := (SB_w (SB_cg ((hwx.2.1).hA (by decide)) ((hwx.2.1).hA (by decide)) ((hwx.2.1).gI (by decide)) hSB) (by omega))
  have hIM1 : IM qm cI cJ cZ wm1 := ⟨hwm.1, (hwm.2.2.2.1 hLM), (hwm.2.2.2.2.1 hLY), (RV_cg ((hwm.2.1).hA (by decide)) ((hwm.2.1).hA (by decide)) ((hwm.2.1).hA (by decide)) ((hwm.2.1).2 0 12 (by decide) (by decide)) hRV)⟩
  have hT1 : TW (bnd + 10560) wx1 wm1 := ⟨(((hwx.2.1).gI (by decide)).trans (hT.1.trans ((hwm.2.1).2 0 1 (by decide) (by decide)).symm)), ((vw_sm ((hwx.2.1).1 32 (by decide))).trans (hT.2.1.trans (vw_sm ((hwm.2.1).1 1 (by decide))).symm)), (hT.2.2.1.cg (vw_sm ((hwx.2.1).1 33 (by decide)))), ⟨bq, OLq, (RQ.act hQ (gifts2 hR.1 (tyX hW) hR.2.2.1 hwx.2.2.2.2 hwm.2.2.2.2.2).2 ((hwx.2.1).Fr hW hwx.1 intsX_ok intsX_ok) (by decide) ((hwm.2.1).Fr hV hwm.1 intsM_ok intsM_ok) (by decide) (by omega)).elim (fun M z => ⟨M, z, (GV.fr hQG.2 ((hwx.2.1).Fr hW hwx.1 intsX_ok intsX_ok) (by decide) ((hwm.2.1).Fr hV hwm.1 intsM_ok intsM_ok) (by decide))⟩)⟩⟩
  exact kk qx wx1 wm1 H locs ls rfl ⟨⟨bp, hwx.1⟩, hLD1, hSB1⟩ hIM1 hT1 hP hD hS hl
set_option maxRecDepth 100000 in
set_option maxHeartbeats 16000000 in
theorem law_c8 {p : Program} {e : Env} {s : State} {m : MethodId} {below : List Frame} {meth : Method} {c : Code} (l : Launch) {b L : Nat} {xs : Nat → Int32} {A : Nat → Prop} (hAs : ∀ q, A q → s.heap.size ≤ q) (hA : ∀ q, s.heap.size ≤ q → A q) (C0 : lw_At p s m meth c b L xs) {D : va_G} {cI cJ cZ : ClassId} {qx qm : Nat → Nat} (hK : va_K D vwCl (tyK cI cJ cZ) s) (hE : eW s) {i : Int32} (hi : ∀ j : Int32, In 0 5 j → vp_in (i + j) L) {bnd : Int} (hbd : bnd + 10560 ≤ 2147483647) {wx wm : va_W} (hIX : IX qx cI cJ cZ bnd wx) (hIM : IM qm cI cJ cZ wm) (hT : TW bnd wx wm) {H : Heap} {locs : List Loc} {ls : Array Slot} {cells slots : Nat} (hcs : cells ≤ 600000 ∧ slots ≤ 7302250) (hP : va_P D vwCl (wx ++ wm) H) (hD : va_D A (wx ++ wm)) (hS : va_S A s.heap H locs) (hl : lv_has ls 4 [(3, .int i), (2, .ref (qm 0)), (1, .ref (qx 0)), (0, .ref b)]) (kk : ∀ (qx1 : Nat → Nat) (wx1 wm1 : va_W) (H1 : Heap) (locs1 : List Loc) (ls1 : Array Slot), qx1 0 = qx 0 → IX qx1 cI cJ cZ (bnd + 10560) wx1 → IM qm cI cJ cZ wm1 → TW (bnd + 10560) wx1 wm1 → va_P D vwCl (wx1 ++ wm1) H1 → va_D A (wx1 ++ wm1) → va_S A s.heap H1 locs1 → lv_has ls1 4 [(3, .int i), (2, .ref (qm 0)), (1, .ref (qx 0)), (0, .ref b)] → W p l e room_1 s m #[Value.ref b] below meth c H1 locs1 cells slots (lw_Z below #[Value.ref b] s) (F0 m 1098 ls1 [])) : W p l e room_1 s m #[Value.ref b] below meth c H locs cells slots (lw_Z below #[Value.ref b] s) (F0 m 496 ls []) := by
  obtain ⟨hx, hb, hr, hml, hown0, hts0, hXs, hbl, hlocks, hgv⟩ := id C0
  have hown : s.vm.findClass RL = some m.cls := hown0
  have hts : ∀ w ∈ BIG, w.before #[Value.ref b] s = true := fun w h => hts0 w (big_lw w h)
  have hbA : ¬ A b := fun h => absurd hbl (Nat.not_lt.mpr (hAs b h))
  obtain ⟨⟨bp, hW⟩, hLD, hSB⟩ := hIX
  obtain ⟨hV, hLM, hLY, hRV⟩ := hIM
  obtain ⟨bq, OLq, La, hQG⟩ := hT.2.2.2
  have hQ := hQG.1
  have hR := hQ.1
  refine lv_aload_n hx hb dL_law_496 rfl (lv_at hl 2 rfl) ?_
  refine lv_aload_n hx hb dL_law_497 rfl (lv_at hl 3 rfl) ?_
  refine lv_iload_n hx hb dL_law_498 rfl (lv_at hl 0 rfl) ?_
  refine lv_iconst (v := 1) hx hb dL_law_499 (by decide) ?_
  refine lv_iadd hx hb dL_law_500 ?_
  refine va_sld hx hb hXs hbl hbA hS (hi 1 (In_lit (n := 1) (by decide) (by decide))) dL_law_501 ?_
  refine lv_aload_n hx hb dL_law_502 rfl (lv_at hl 3 rfl) ?_
  refine lv_iload_n hx hb dL_law_503 rfl (lv_at hl 0 rfl) ?_
  refine lv_iconst (v := 2) hx hb dL_law_504 (by decide) ?_
  refine lv_iadd hx hb dL_law_505 ?_
  refine va_sld hx hb hXs hbl hbA hS (hi 2 (In_lit (n := 2) (by decide) (by decide))) dL_law_506 ?_
  refine kL_i (wc := wx) (wr := wm) ⟨rfl, rfl⟩ hP hD hS hA (rL_V (As := [.int (xs (i + 1).toNatClampNeg), .int (xs (i + 2).toNatClampNeg)]) (rest := []) hx hb hml hown hts hK hE hP hD (e_X11_call l D cI cJ cZ qx bp wx hW (xs (i + 1).toNatClampNeg) (xs (i + 2).toNatClampNeg) _) ⟨⟨rfl, rfl⟩, rfl, rfl⟩ sv_L_52 ⟨(Nat.le_of_ble_eq_true rfl), (Nat.le_of_ble_eq_true rfl)⟩ hcs 0 11 (hW.o tX_0) rfl rfl rfl hl.1 rfl (Nat.le_of_ble_eq_true rfl) dL_law_507) (fun rx wx1 H locs hwx hP hD hS => ?_)
  refine lv_pop hx hb dL_law_510 rfl ?_
  refine lv_aload_n hx hb dL_law_511 rfl (lv_at hl 1 rfl) ?_
  refine lv_aload_n hx hb dL_law_512 rfl (lv_at hl 3 rfl) ?_
  refine lv_iload_n hx hb dL_law_513 rfl (lv_at hl 0 rfl) ?_
  refine lv_iconst (v := 1) hx hb dL_law_514 (by decide) ?_
  refine lv_iadd hx hb dL_law_515 ?_
  refine va_sld hx hb hXs hbl hbA hS (hi 1 (In_lit (n := 1) (by decide) (by decide))) dL_law_516 ?_
  refine lv_aload_n hx hb dL_law_517 rfl (lv_at hl 3 rfl) ?_
  refine lv_iload_n hx hb dL_law_518 rfl (lv_at hl 0 rfl) ?_
  refine lv_iconst (v := 2) hx hb dL_law_519 (by decide) ?_
  refine lv_iadd hx hb dL_law_520 ?_
  refine va_sld hx hb hXs hbl hbA hS (hi 2 (In_lit (n := 2) (by decide) (by decide))) dL_law_521 ?_
  refine kL_i (wc := wm) (wr := wx1) ⟨rfl, rfl⟩ hP hD hS hA (rL_V (As := [.int (xs (i + 1).toNatClampNeg), .int (xs (i + 2).toNatClampNeg)]) (rest := []) hx hb hml hown hts hK hE hP hD (e_X12_call l D cI cJ cZ qm wm hV (xs (i + 1).toNatClampNeg) (xs (i + 2).toNatClampNeg) _) ⟨⟨rfl, rfl⟩, rfl, rfl⟩ sv_L_55 ⟨(Nat.le_of_ble_eq_true rfl), (Nat.le_of_ble_eq_true rfl)⟩ hcs 0 12 (hV.o tM_0) rfl rfl rfl hl.1 rfl (Nat.le_of_ble_eq_true rfl) dL_law_522) (fun rm wm1 H locs hwm hP hD hS => ?_)
  refine lv_pop hx hb dL_law_525 rfl ?_
  refine lv_goto (tgt := 1098) hx hb dL_law_526 (by decide) ?_
  have hLD1 : LD wx1 := (hwx.2.2.2.1 hLD)
  have hSB1 : SB (bnd + 10560) wx1 := (SB_w (SB_cg ((hwx.2.1).hA (by decide)) ((hwx.2.1).hA (by decide)) ((hwx.2.1).gI (by decide)) hSB) (by omega))
  have hIM1 : IM qm cI cJ cZ wm1 := ⟨hwm.1, (hwm.2.2.2.1 hLM), (hwm.2.2.2.2.1 hLY), (RV_cg ((hwm.2.1).hA (by decide)) ((hwm.2.1).hA (by decide)) ((hwm.2.1).hA (by decide)) ((hwm.2.1).2 0 12 (by decide) (by decide)) hRV)⟩
  have hT1 : TW (bnd + 10560) wx1 wm1 := ⟨(((hwx.2.1).gI (by decide)).trans (hT.1.trans ((hwm.2.1).2 0 1 (by decide) (by decide)).symm)), ((vw_sm ((hwx.2.1).1 32 (by decide))).trans (hT.2.1.trans (vw_sm ((hwm.2.1).1 1 (by decide))).symm)), (hT.2.2.1.cg (vw_sm ((hwx.2.1).1 33 (by decide)))), ⟨bq, OLq, (RQ.act hQ (call2 hR.1 (tyX hW) hR.2.2.1 hwx.2.2.2.2 hwm.2.2.2.2.2).2 ((hwx.2.1).Fr hW hwx.1 intsX_ok intsX_ok) (by decide) ((hwm.2.1).Fr hV hwm.1 intsM_ok intsM_ok) (by decide) (by omega)).elim (fun M z => ⟨M, z, (GV.fr hQG.2 ((hwx.2.1).Fr hW hwx.1 intsX_ok intsX_ok) (by decide) ((hwm.2.1).Fr hV hwm.1 intsM_ok intsM_ok) (by decide))⟩)⟩⟩
  exact kk qx wx1 wm1 H locs ls rfl ⟨⟨bp, hwx.1⟩, hLD1, hSB1⟩ hIM1 hT1 hP hD hS hl
set_option maxRecDepth 100000 in
set_option maxHeartbeats 16000000 in
theorem law_c9 {p : Program} {e : Env} {s : State} {m : MethodId} {below : List Frame} {meth : Method} {c : Code} (l : Launch) {b L : Nat} {xs : Nat → Int32} {A : Nat → Prop} (hAs : ∀ q, A q → s.heap.size ≤ q) (hA : ∀ q, s.heap.size ≤ q → A q) (C0 : lw_At p s m meth c b L xs) {D : va_G} {cI cJ cZ : ClassId} {qx qm : Nat → Nat} (hK : va_K D vwCl (tyK cI cJ cZ) s) (hE : eW s) {i : Int32} (hi : ∀ j : Int32, In 0 5 j → vp_in (i + j) L) {bnd : Int} (hbd : bnd + 10560 ≤ 2147483647) {wx wm : va_W} (hIX : IX qx cI cJ cZ bnd wx) (hIM : IM qm cI cJ cZ wm) (hT : TW bnd wx wm) {H : Heap} {locs : List Loc} {ls : Array Slot} {cells slots : Nat} (hcs : cells ≤ 600000 ∧ slots ≤ 7302250) (hP : va_P D vwCl (wx ++ wm) H) (hD : va_D A (wx ++ wm)) (hS : va_S A s.heap H locs) (hl : lv_has ls 4 [(3, .int i), (2, .ref (qm 0)), (1, .ref (qx 0)), (0, .ref b)]) (kk : ∀ (qx1 : Nat → Nat) (wx1 wm1 : va_W) (H1 : Heap) (locs1 : List Loc) (ls1 : Array Slot), qx1 0 = qx 0 → IX qx1 cI cJ cZ (bnd + 10560) wx1 → IM qm cI cJ cZ wm1 → TW (bnd + 10560) wx1 wm1 → va_P D vwCl (wx1 ++ wm1) H1 → va_D A (wx1 ++ wm1) → va_S A s.heap H1 locs1 → lv_has ls1 4 [(3, .int i), (2, .ref (qm 0)), (1, .ref (qx 0)), (0, .ref b)] → W p l e room_1 s m #[Value.ref b] below meth c H1 locs1 cells slots (lw_Z below #[Value.ref b] s) (F0 m 1098 ls1 [])) : W p l e room_1 s m #[Value.ref b] below meth c H locs cells slots (lw_Z below #[Value.ref b] s) (F0 m 529 ls []) := by
  obtain ⟨hx, hb, hr, hml, hown0, hts0, hXs, hbl, hlocks, hgv⟩ := id C0
  have hown : s.vm.findClass RL = some m.cls := hown0
  have hts : ∀ w ∈ BIG, w.before #[Value.ref b] s = true := fun w h => hts0 w (big_lw w h)
  have hbA : ¬ A b := fun h => absurd hbl (Nat.not_lt.mpr (hAs b h))
  obtain ⟨⟨bp, hW⟩, hLD, hSB⟩ := hIX
  obtain ⟨hV, hLM, hLY, hRV⟩ := hIM
  obtain ⟨bq, OLq, La, hQG⟩ := hT.2.2.2
  have hQ := hQG.1
  have hR := hQ.1
  refine lv_aload_n hx hb dL_law_529 rfl (lv_at hl 2 rfl) ?_
  refine lv_aload_n hx hb dL_law_530 rfl (lv_at hl 3 rfl) ?_
  refine lv_iload_n hx hb dL_law_531 rfl (lv_at hl 0 rfl) ?_
  refine lv_iconst (v := 1) hx hb dL_law_532 (by decide) ?_
  refine lv_iadd hx hb dL_law_533 ?_
  refine va_sld hx hb hXs hbl hbA hS (hi 1 (In_lit (n := 1) (by decide) (by decide))) dL_law_534 ?_
  refine kL_i (wc := wx) (wr := wm) ⟨rfl, rfl⟩ hP hD hS hA (rL_V (As := [.int (xs (i + 1).toNatClampNeg)]) (rest := []) hx hb hml hown hts hK hE hP hD (e_X11_annul l D cI cJ cZ qx bp wx hW (xs (i + 1).toNatClampNeg) _) ⟨⟨rfl, rfl⟩, rfl, rfl⟩ sv_L_56 ⟨(Nat.le_of_ble_eq_true rfl), (Nat.le_of_ble_eq_true rfl)⟩ hcs 0 11 (hW.o tX_0) rfl rfl rfl hl.1 rfl (Nat.le_of_ble_eq_true rfl) dL_law_535) (fun rx wx1 H locs hwx hP hD hS => ?_)
  refine lv_pop hx hb dL_law_538 rfl ?_
  refine lv_aload_n hx hb dL_law_539 rfl (lv_at hl 1 rfl) ?_
  refine lv_aload_n hx hb dL_law_540 rfl (lv_at hl 3 rfl) ?_
  refine lv_iload_n hx hb dL_law_541 rfl (lv_at hl 0 rfl) ?_
  refine lv_iconst (v := 1) hx hb dL_law_542 (by decide) ?_
  refine lv_iadd hx hb dL_law_543 ?_
  refine va_sld hx hb hXs hbl hbA hS (hi 1 (In_lit (n := 1) (by decide) (by decide))) dL_law_544 ?_
  refine kL_i (wc := wm) (wr := wx1) ⟨rfl, rfl⟩ hP hD hS hA (rL_V (As := [.int (xs (i + 1).toNatClampNeg)]) (rest := []) hx hb hml hown hts hK hE hP hD (e_X12_annul l D cI cJ cZ qm wm hV (xs (i + 1).toNatClampNeg) _) ⟨⟨rfl, rfl⟩, rfl, rfl⟩ sv_L_59 ⟨(Nat.le_of_ble_eq_true rfl), (Nat.le_of_ble_eq_true rfl)⟩ hcs 0 12 (hV.o tM_0) rfl rfl rfl hl.1 rfl (Nat.le_of_ble_eq_true rfl) dL_law_545) (fun rm wm1 H locs hwm hP hD hS => ?_)
  refine lv_pop hx hb dL_law_548 rfl ?_
  refine lv_goto (tgt := 1098) hx hb dL_law_549 (by decide) ?_
  have hLD1 : LD wx1 := (hwx.2.2.2.1 hLD)
  have hSB1 : SB (bnd + 10560) wx1 := (SB_w (SB_cg ((hwx.2.1).hA (by decide)) ((hwx.2.1).hA (by decide)) ((hwx.2.1).gI (by decide)) hSB) (by omega))
  have hIM1 : IM qm cI cJ cZ wm1 := ⟨hwm.1, (hwm.2.2.2.1 hLM), (hwm.2.2.2.2.1 hLY), (RV_cg ((hwm.2.1).hA (by decide)) ((hwm.2.1).hA (by decide)) ((hwm.2.1).hA (by decide)) ((hwm.2.1).2 0 12 (by decide) (by decide)) hRV)⟩
  have hT1 : TW (bnd + 10560) wx1 wm1 := ⟨(((hwx.2.1).gI (by decide)).trans (hT.1.trans ((hwm.2.1).2 0 1 (by decide) (by decide)).symm)), ((vw_sm ((hwx.2.1).1 32 (by decide))).trans (hT.2.1.trans (vw_sm ((hwm.2.1).1 1 (by decide))).symm)), (hT.2.2.1.cg (vw_sm ((hwx.2.1).1 33 (by decide)))), ⟨bq, OLq, (RQ.act hQ (annul2 (tyX hW) hR.2.2.1 hwx.2.2.2.2 hwm.2.2.2.2.2).2 ((hwx.2.1).Fr hW hwx.1 intsX_ok intsX_ok) (by decide) ((hwm.2.1).Fr hV hwm.1 intsM_ok intsM_ok) (by decide) (by omega)).elim (fun M z => ⟨M, z, (GV.fr hQG.2 ((hwx.2.1).Fr hW hwx.1 intsX_ok intsX_ok) (by decide) ((hwm.2.1).Fr hV hwm.1 intsM_ok intsM_ok) (by decide))⟩)⟩⟩
  exact kk qx wx1 wm1 H locs ls rfl ⟨⟨bp, hwx.1⟩, hLD1, hSB1⟩ hIM1 hT1 hP hD hS hl
set_option maxRecDepth 100000 in
set_option maxHeartbeats 16000000 in
theorem law_c10 {p : Program} {e : Env} {s : State} {m : MethodId} {below : List Frame} {meth : Method} {c : Code} (l : Launch) {b L : Nat} {xs : Nat → Int32} {A : Nat → Prop} (hAs : ∀ q, A q → s.heap.size ≤ q) (hA : ∀ q, s.heap.size ≤ q → A q) (C0 : lw_At p s m meth c b L xs) {D : va_G} {cI cJ cZ : ClassId} {qx qm : Nat → Nat} (hK : va_K D vwCl (tyK cI cJ cZ) s) (hE : eW s) {i : Int32} (hi : ∀ j : Int32, In 0 5 j → vp_in (i + j) L) {bnd : Int} (hbd : bnd + 10560 ≤ 2147483647) {wx wm : va_W} (hIX : IX qx cI cJ cZ bnd wx) (hIM : IM qm cI cJ cZ wm) (hT : TW bnd wx wm) {H : Heap} {locs : List Loc} {ls : Array Slot} {cells slots : Nat} (hcs : cells ≤ 600000 ∧ slots ≤ 7302250) (hP : va_P D vwCl (wx ++ wm) H) (hD : va_D A (wx ++ wm)) (hS : va_S A s.heap H locs) (hl : lv_has ls 4 [(3, .int i), (2, .ref (qm 0)), (1, .ref (qx 0)), (0, .ref b)]) (kk : ∀ (qx1 : Nat → Nat) (wx1 wm1 : va_W) (H1 : Heap) (locs1 : List Loc) (ls1 : Array Slot), qx1 0 = qx 0 → IX qx1 cI cJ cZ (bnd + 10560) wx1 → IM qm cI cJ cZ wm1 → TW (bnd + 10560) wx1 wm1 → va_P D vwCl (wx1 ++ wm1) H1 → va_D A (wx1 ++ wm1) → va_S A s.heap H1 locs1 → lv_has ls1 4 [(3, .int i), (2, .ref (qm 0)), (1, .ref (qx 0)), (0, .ref b)] → W p l e room_1 s m #[Value.ref b] below meth c H1 locs1 cells slots (lw_Z below #[Value.ref b] s) (F0 m 1098 ls1 [])) : W p l e room_1 s m #[Value.ref b] below meth c H locs cells slots (lw_Z below #[Value.ref b] s) (F0 m 552 ls []) := by
  obtain ⟨hx, hb, hr, hml, hown0, hts0, hXs, hbl, hlocks, hgv⟩ := id C0
  have hown : s.vm.findClass RL = some m.cls := hown0
  have hts : ∀ w ∈ BIG, w.before #[Value.ref b] s = true := fun w h => hts0 w (big_lw w h)
  have hbA : ¬ A b := fun h => absurd hbl (Nat.not_lt.mpr (hAs b h))
  obtain ⟨⟨bp, hW⟩, hLD, hSB⟩ := hIX
  obtain ⟨hV, hLM, hLY, hRV⟩ := hIM
  obtain ⟨bq, OLq, La, hQG⟩ := hT.2.2.2
  have hQ := hQG.1
  have hR := hQ.1
  refine lv_aload_n hx hb dL_law_552 rfl (lv_at hl 2 rfl) ?_
  refine lv_aload_n hx hb dL_law_553 rfl (lv_at hl 3 rfl) ?_
  refine lv_iload_n hx hb dL_law_554 rfl (lv_at hl 0 rfl) ?_
  refine lv_iconst (v := 1) hx hb dL_law_555 (by decide) ?_
  refine lv_iadd hx hb dL_law_556 ?_
  refine va_sld hx hb hXs hbl hbA hS (hi 1 (In_lit (n := 1) (by decide) (by decide))) dL_law_557 ?_
  refine kL_i (wc := wx) (wr := wm) ⟨rfl, rfl⟩ hP hD hS hA (rL_V (As := [.int (xs (i + 1).toNatClampNeg)]) (rest := []) hx hb hml hown hts hK hE hP hD (e_X11_as l D cI cJ cZ qx bp wx hW (xs (i + 1).toNatClampNeg) _) ⟨⟨rfl, rfl⟩, rfl, rfl⟩ sv_L_60 ⟨(Nat.le_of_ble_eq_true rfl), (Nat.le_of_ble_eq_true rfl)⟩ hcs 0 11 (hW.o tX_0) rfl rfl rfl hl.1 rfl (Nat.le_of_ble_eq_true rfl) dL_law_558) (fun rx wx1 H locs hwx hP hD hS => ?_)
  refine lv_pop hx hb dL_law_561 rfl ?_
  refine lv_aload_n hx hb dL_law_562 rfl (lv_at hl 1 rfl) ?_
  refine lv_aload_n hx hb dL_law_563 rfl (lv_at hl 3 rfl) ?_
  refine lv_iload_n hx hb dL_law_564 rfl (lv_at hl 0 rfl) ?_
  refine lv_iconst (v := 1) hx hb dL_law_565 (by decide) ?_
  refine lv_iadd hx hb dL_law_566 ?_
  refine va_sld hx hb hXs hbl hbA hS (hi 1 (In_lit (n := 1) (by decide) (by decide))) dL_law_567 ?_
  refine kL_i (wc := wm) (wr := wx1) ⟨rfl, rfl⟩ hP hD hS hA (rL_V (As := [.int (xs (i + 1).toNatClampNeg)]) (rest := []) hx hb hml hown hts hK hE hP hD (e_X12_as l D cI cJ cZ qm wm hV (xs (i + 1).toNatClampNeg) _) ⟨⟨rfl, rfl⟩, rfl, rfl⟩ sv_L_63 ⟨(Nat.le_of_ble_eq_true rfl), (Nat.le_of_ble_eq_true rfl)⟩ hcs 0 12 (hV.o tM_0) rfl rfl rfl hl.1 rfl (Nat.le_of_ble_eq_true rfl) dL_law_568) (fun rm wm1 H locs hwm hP hD hS => ?_)
  refine lv_pop hx hb dL_law_571 rfl ?_
  refine lv_goto (tgt := 1098) hx hb dL_law_572 (by decide) ?_
  have hLD1 : LD wx1 := (LD_cg ((hwx.2.1).hA (by decide)) ((hwx.2.1).hA (by decide)) hLD)
  have hSB1 : SB (bnd + 10560) wx1 := (SB_w (SB_cg ((hwx.2.1).hA (by decide)) ((hwx.2.1).hA (by decide)) ((hwx.2.1).gI (by decide)) hSB) (by omega))
  have hIM1 : IM qm cI cJ cZ wm1 := ⟨hwm.1, (LM_cg ((hwm.2.1).hA (by decide)) ((hwm.2.1).hA (by decide)) hLM), (LY_cg ((hwm.2.1).hA (by decide)) ((hwm.2.1).hA (by decide)) ((hwm.2.1).2 0 37 (by decide) (by decide)) hLY), (RV_cg ((hwm.2.1).hA (by decide)) ((hwm.2.1).hA (by decide)) ((hwm.2.1).hA (by decide)) ((hwm.2.1).2 0 12 (by decide) (by decide)) hRV)⟩
  have hT1 : TW (bnd + 10560) wx1 wm1 := ⟨(((hwx.2.1).gI (by decide)).trans (hT.1.trans ((hwm.2.1).2 0 1 (by decide) (by decide)).symm)), ((vw_sm ((hwx.2.1).1 32 (by decide))).trans (hT.2.1.trans (vw_sm ((hwm.2.1).1 1 (by decide))).symm)), (hT.2.2.1.cg (vw_sm ((hwx.2.1).1 33 (by decide)))), ⟨bq, OLq, La, RQ.frG hQ (RG.as hR hwx.2.2.2.2 hwm.2.2.2.2 ((hwx.2.1).Fr hW hwx.1 intsX_ok intsX_ok) ((hwm.2.1).Fr hV hwm.1 intsM_ok intsM_ok)).2 ((hwx.2.1).Fr hW hwx.1 intsX_ok intsX_ok) (by decide) ((hwm.2.1).Fr hV hwm.1 intsM_ok intsM_ok) (by decide) (hQ.2.2.fr ((hwx.2.1).Fr hW hwx.1 intsX_ok intsX_ok) (by decide) (by omega)), (GV.fr hQG.2 ((hwx.2.1).Fr hW hwx.1 intsX_ok intsX_ok) (by decide) ((hwm.2.1).Fr hV hwm.1 intsM_ok intsM_ok) (by decide))⟩⟩
  exact kk qx wx1 wm1 H locs ls rfl ⟨⟨bp, hwx.1⟩, hLD1, hSB1⟩ hIM1 hT1 hP hD hS hl
