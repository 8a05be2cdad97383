theorem map_left {wx w2 : va_W} {n : Nat} (h : wx.length = n) : (List.range n).map (fun i => (wx ++ w2)[i]?) = wx.map some := by
  subst h
  apply List.ext_getElem?
  intro i
  rw [List.getElem?_map, List.getElem?_map]
  by_cases hi : i < wx.length
  · rw [List.getElem?_range hi]
    show some ((wx ++ w2)[i]?) = _
    rw [List.getElem?_append_left hi, List.getElem?_eq_getElem hi]
    rfl
  · rw [List.getElem?_eq_none (by rw [List.length_range]; omega), List.getElem?_eq_none (by omega)]
    rfl
theorem map_right {wx : va_W} {c : Nat × va_E} {n : Nat} (h : wx.length = n) : [n].map (fun i => (wx ++ [c])[i]?) = [c].map some := by
  subst h
  simp
set_option maxRecDepth 100000 in
set_option maxHeartbeats 16000000 in
theorem whole_start {p : Program} {e : Env} {s : State} {m : MethodId} {below : List Frame} {meth : Method} {c : Code} (l : Launch) {b L : Nat} {xs : Nat → Int32} (hL : L ≤ 6) (C0 : lw_At p s m meth c b L xs) : W p l e room_1 s m #[Value.ref b] below meth c s.heap [] 0 0 (lw_Z below #[Value.ref b] s) (entryFrame m ([Value.ref b] : List Value).toArray 4) := by
  obtain ⟨hx, hb, hr, hml, hown0, hts0, hX, hbl, hlocks, hgv⟩ := id C0
  have hown : s.vm.findClass RL = some m.cls := hown0
  have hts : ∀ w ∈ BIG, w.before #[Value.ref b] s = true := fun w h => hts0 w (big_lw w h)
  have htT : ∀ w ∈ tables_1, w.before #[Value.ref b] s = true := fun w h => hts0 w (List.mem_append_right _ h)
  obtain ⟨A, eA⟩ : ∃ z : Nat → Prop, z = fun q => s.heap.size ≤ q := ⟨_, rfl⟩
  have hA : ∀ q, s.heap.size ≤ q → A q := fun q h => by rw [eA]; exact h
  have hAs : ∀ q, A q → s.heap.size ≤ q := fun q h => by rw [eA] at h; exact h
  obtain ⟨aK, aV, fb, hE⟩ := env_of htT hgv (A := A) (fun a h q => absurd (hAs a q) (Nat.not_le.mpr h))
  have hN : eN s := eN_of htT
  obtain ⟨dC, dI, hKc⟩ := kn_all hts
  obtain ⟨cI, cJ, cZ, hK⟩ := ka_all hts (D := (dC, dI)) hKc
  generalize (dC, dI) = D at hK
  have hS : va_S A s.heap s.heap [] := va_S.rf
  have hP : va_P D vwCl [] s.heap := fun k q h => by simp at h
  have hD : va_D A [] := ⟨fun i j p q h => by simp at h, fun k q h => by simp at h⟩
  have hl := lv_entry ([.ref b]) (n := 4) (Nat.le_of_ble_eq_true rfl)
  rw [lg_entry_eq]
  generalize (lg_sl ([.ref b]) ++ List.replicate (4 - (lg_sl ([.ref b])).length) Slot.unset).toArray = ls at hl ⊢
  have hl : lv_has ls 4 [(0, .ref b)] := hl
  refine no_X11 hx hb hts hown wd_21 hK hP hD hS hA (Nat.le_of_ble_eq_true rfl) (Nat.le_of_ble_eq_true rfl) dL_law_0 (fun q0 H hP hD hS => ?_)
  have hP : va_P D vwCl [(q0, .inr (11, df_X11))] H := hP
  have hD : va_D A [(q0, .inr (11, df_X11))] := hD
  refine lv_dup hx hb dL_law_3 rfl ?_
  refine cl_v (wr := []) (rn_I (As := []) (rest := [.ref q0]) hx hb hml hown hts (c_X11_init l D cI cJ cZ aK aV fb q0 _) ⟨rfl, rfl⟩ sv_L_9 ⟨(Nat.le_of_ble_eq_true rfl), (Nat.le_of_ble_eq_true rfl)⟩ ⟨(Nat.le_of_ble_eq_true rfl), (Nat.le_of_ble_eq_true rfl)⟩ (fun a U g mk h => ⟨eS_blind a U g mk h.1, eN_blind a U g mk h.2⟩) (fun U hU hW => ⟨eS_call hE hS (va_free hD hS hA [0] rfl) U hU hW, eN_warm hW hN⟩) hK hP hD [0] rfl rfl rfl hl.1 rfl (Nat.le_of_ble_eq_true rfl) dL_law_4) hP hD hS hA [0] [] rfl rfl rfl (by decide) (fun w1 H1 locs1 hw hP1 hD1 hS1 => ?_)
  obtain ⟨qx, fx, hq0, rfl⟩ := hw
  clear hP hD hS
  subst hq0
  have hlen : (WX qx fx cI cJ cZ).length = 110 := rfl
  generalize hwx : WX qx fx cI cJ cZ = wx at hP1 hD1 hlen
  have hP : va_P D vwCl wx H1 := hP1
  have hD : va_D A wx := hD1
  have hS := hS1
  refine lv_astore_n (lv' := [(1, .ref (qx 0)), (0, .ref b)]) hx hb dL_law_7 rfl hl (by decide) rfl (fun ls hl => ?_)
  refine no_X12 hx hb hts hown wd_1395 hK hP hD hS hA (Nat.le_of_ble_eq_true rfl) (Nat.le_of_ble_eq_true rfl) dL_law_8 (fun q2 H2 hP2 hD2 hS2 => ?_)
  refine lv_dup hx hb dL_law_11 rfl ?_
  refine cl_v (wr := wx) (rn_I (As := []) (rest := [.ref q2]) hx hb hml hown hts (c_X12_init l D cI cJ cZ q2 _) ⟨rfl, rfl⟩ sv_L_12 ⟨(Nat.le_of_ble_eq_true rfl), (Nat.le_of_ble_eq_true rfl)⟩ ⟨(Nat.le_of_ble_eq_true rfl), (Nat.le_of_ble_eq_true rfl)⟩ (fun _ _ _ _ h => h) (fun _ _ _ => trivial) hK hP2 hD2 [110] (map_right hlen) rfl rfl hl.1 rfl (Nat.le_of_ble_eq_true rfl) dL_law_12) hP2 hD2 hS2 hA [110] (List.range 110) (map_right hlen) (map_left hlen) (by decide) (by decide) (fun w2 H3 locs3 hw hP3 hD3 hS3 => ?_)
  obtain ⟨qm, fm, hev, hq2, rfl⟩ := hw
  clear hP2 hD2 hS2 hP hD hS hP1 hD1 hS1
  subst hq2
  subst hwx
  refine lv_astore_n (lv' := [(2, .ref (qm 0)), (1, .ref (qx 0)), (0, .ref b)]) hx hb dL_law_15 rfl hl (by decide) rfl (fun ls hl => ?_)
  refine lv_iconst (v := 0) hx hb dL_law_16 (by decide) ?_
  refine lv_istore_n (lv' := [(3, .int 0), (2, .ref (qm 0)), (1, .ref (qx 0)), (0, .ref b)]) hx hb dL_law_17 rfl hl (by decide) rfl (fun ls hl => ?_)
  exact law_run l hL hAs hA C0 hev hK ⟨(Nat.le_of_ble_eq_true rfl), (Nat.le_of_ble_eq_true rfl)⟩ hP3 hD3 hS3 hl
