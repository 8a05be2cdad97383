set_option maxRecDepth 100000 in
set_option maxHeartbeats 16000000 in
theorem law_loop {p : Program} {e : Env} {s : State} {m : MethodId} {below : List Frame} {meth : Method} {c : Code} (l : Launch) {b L : Nat} {xs : Nat → Int32} (hL : L ≤ 3072) {A : Nat → Prop} (hAs : ∀ q, A q → s.heap.size ≤ q) (hA : ∀ q, s.heap.size ≤ q → A q) (C0 : lw_At p s m meth c b L xs) {D : va_G} {cI cJ cZ : ClassId} {qm : Nat → Nat} (hK : va_K D vwCl (tyK cI cJ cZ) s) (hE : eW s) {cells slots : Nat} (hcs : cells ≤ 600000 ∧ slots ≤ 7302250) : ∀ (N n : Nat), 512 < n + N → ∀ (i : Int32) (qx : Nat → Nat) (wx wm : va_W) (H : Heap) (locs : List Loc) (ls : Array Slot), i.toInt = 6 * (n : Int) → n ≤ 512 → IX qx cI cJ cZ (10560 * (n : Int)) wx → IM qm cI cJ cZ wm → TW (10560 * (n : Int)) wx wm → va_P D vwCl (wx ++ wm) H → va_D A (wx ++ wm) → va_S A s.heap H locs → lv_has ls 4 [(3, .int i), (2, .ref (qm 0)), (1, .ref (qx 0)), (0, .ref b)] → W p l e room_1 s m #[Value.ref b] below meth c H locs cells slots (lw_Z below #[Value.ref b] s) (F0 m 18 ls []) := by
  intro N
  induction N with
  | zero =>
    intro n hN i qx wx wm H locs ls hi hn
    omega
  | succ N ih =>
  intro n hN i qx wx wm H locs ls hi hn hIX hIM hT hP hD hS hl
  obtain ⟨hx, hb, hr, hml, hown, hts0, hX, hbl, hlocks, hgv⟩ := id C0
  have hbA : ¬ A b := fun h => absurd hbl (Nat.not_lt.mpr (hAs b h))
  have z6 : (6 : Int32).toInt = 6 := by decide
  have hLt : (Int32.ofNat L).toInt = (L : Int) := Int32.toInt_ofNat_of_lt (by omega)
  have hL6 : (Int32.ofNat L - 6).toInt = (L : Int) - 6 := by
    have q := t_sub (show In 0 3072 (Int32.ofNat L) from ⟨by omega, by omega⟩) (In_lit (n := 6) (by decide) (by decide) : In 6 6 6) (by decide)
    omega
  refine lv_iload_n hx hb dL_law_18 rfl (lv_at hl 0 rfl) ?_
  refine lv_aload_n hx hb dL_law_19 rfl (lv_at hl 3 rfl) ?_
  refine va_slen hx hb hX hbl hbA hS dL_law_20 ?_
  refine lv_bipush (v := 6) hx hb dL_law_21 (by decide) ?_
  refine lv_isub hx hb dL_law_23 ?_
  refine lv_icmp_gt (tgt := 1104) hx hb dL_law_24 (by decide) (fun _ => ?_) (fun hc => ?_)
  · refine lv_iconst (v := 1) hx hb dL_law_1104 (by decide) ?_
    refine va_forget (fun q hq => hAs _ (hS.2.2 q hq)) ?_
    refine W.widen (k := 600000) (n := 7302250) hcs.1 hcs.2 ?_
    exact lw_ret hx hb hr hlocks dL_law_1105
  · have hc2 : i.toInt ≤ (L : Int) - 6 := by
      have q : ¬ (Int32.ofNat L - 6).toInt < i.toInt := fun h => hc (q_lt.mpr h)
      omega
    have hij : ∀ j : Int32, In 0 5 j → vp_in (i + j) L := fun j hj => by
      have q := t_add (show In 0 3072 i from ⟨by omega, by omega⟩) hj (by decide)
      unfold In at hj
      exact vp_in_iff.mpr (by omega)
    have hi0 : vp_in i L := vp_in_iff.mpr (by omega)
    refine lv_aload_n hx hb dL_law_27 rfl (lv_at hl 3 rfl) ?_
    refine lv_iload_n hx hb dL_law_28 rfl (lv_at hl 0 rfl) ?_
    refine va_sld hx hb hX hbl hbA hS hi0 dL_law_29 ?_
    refine lv_bipush (v := 31) hx hb dL_law_30 (by decide) ?_
    refine lv_iand hx hb dL_law_32 ?_
    obtain ⟨j, hj, ej⟩ := pk_andE (xs i.toNatClampNeg) (m := 31) 5 (by decide)
    refine tov ej ?_
    have kk : ∀ (qx1 : Nat → Nat) (wx1 wm1 : va_W) (H1 : Heap) (locs1 : List Loc) (ls1 : Array Slot), qx1 0 = qx 0 → IX qx1 cI cJ cZ (10560 * (n : Int) + 10560) wx1 → IM qm cI cJ cZ wm1 → TW (10560 * (n : Int) + 10560) wx1 wm1 → va_P D vwCl (wx1 ++ wm1) H1 → va_D A (wx1 ++ wm1) → va_S A s.heap H1 locs1 → lv_has ls1 4 [(3, .int i), (2, .ref (qm 0)), (1, .ref (qx 0)), (0, .ref b)] → W p l e room_1 s m #[Value.ref b] below meth c H1 locs1 cells slots (lw_Z below #[Value.ref b] s) (F0 m 1098 ls1 []) := by
      intro qx1 wx1 wm1 H1 locs1 ls1 hq hIX1 hIM1 hT1 hP1 hD1 hS1 hl1
      rw [← hq] at hl1
      refine lv_iinc (v := i + 6) (lv' := [(3, .int (i + 6)), (2, .ref (qm 0)), (1, .ref (qx1 0)), (0, .ref b)]) hx hb dL_law_1098 hl1 (k := 0) rfl rfl (by decide) rfl (fun ls2 hl2 => ?_)
      refine lv_goto (tgt := 18) hx hb dL_law_1101 (by decide) ?_
      have t6 := t_add (show In 0 3072 i from ⟨by omega, by omega⟩) (In_lit (n := 6) (by decide) (by decide) : In 6 6 6) (by decide)
      refine ih (n + 1) (by omega) (i + 6) qx1 wx1 wm1 H1 locs1 ls2 (by omega) (by omega) ?_ hIM1 ?_ hP1 hD1 hS1 hl2
      · have e : (10560 : Int) * ((n + 1 : Nat) : Int) = 10560 * (n : Int) + 10560 := by omega
        rw [e]
        exact hIX1
      · have e : (10560 : Int) * ((n + 1 : Nat) : Int) = 10560 * (n : Int) + 10560 := by omega
        rw [e]
        exact hT1
    have hbd : 10560 * (n : Int) + 10560 ≤ 2147483647 := by omega
    match j, hj with
    | 0, _ =>
      refine lv_tableIn (tgt := 176) hx hb dL_law_33 (by decide) (by decide) (off := 143) (by decide) (by decide) ?_
      exact law_c0 l hAs hA C0 hK hE hij hbd hIX hIM hT hcs hP hD hS hl kk
    | 1, _ =>
      refine lv_tableIn (tgt := 239) hx hb dL_law_33 (by decide) (by decide) (off := 206) (by decide) (by decide) ?_
      exact law_c1 l hAs hA C0 hK hE hij hbd hIX hIM hT hcs hP hD hS hl kk
    | 2, _ =>
      refine lv_tableIn (tgt := 262) hx hb dL_law_33 (by decide) (by decide) (off := 229) (by decide) (by decide) ?_
      exact law_c2 l hAs hA C0 hK hE hij hbd hIX hIM hT hcs hP hD hS hl kk
    | 3, _ =>
      refine lv_tableIn (tgt := 275) hx hb dL_law_33 (by decide) (by decide) (off := 242) (by decide) (by decide) ?_
      exact law_c3 l hAs hA C0 hK hE hij hbd hIX hIM hT hcs hP hD hS hl kk
    | 4, _ =>
      refine lv_tableIn (tgt := 298) hx hb dL_law_33 (by decide) (by decide) (off := 265) (by decide) (by decide) ?_
      exact law_c4 l hAs hA C0 hK hE hij hbd hIX hIM hT hcs hP hD hS hl kk
    | 5, _ =>
      refine lv_tableIn (tgt := 357) hx hb dL_law_33 (by decide) (by decide) (off := 324) (by decide) (by decide) ?_
      exact law_c5 l hAs hA C0 hK hE hij hbd hIX hIM hT hcs hP hD hS hl kk
    | 6, _ =>
      refine lv_tableIn (tgt := 390) hx hb dL_law_33 (by decide) (by decide) (off := 357) (by decide) (by decide) ?_
      exact law_c6 l hAs hA C0 hK hE hij hbd hIX hIM hT hcs hP hD hS hl kk
    | 7, _ =>
      refine lv_tableIn (tgt := 453) hx hb dL_law_33 (by decide) (by decide) (off := 420) (by decide) (by decide) ?_
      exact law_c7 l hAs hA C0 hK hE hij hbd hIX hIM hT hcs hP hD hS hl kk
    | 8, _ =>
      refine lv_tableIn (tgt := 496) hx hb dL_law_33 (by decide) (by decide) (off := 463) (by decide) (by decide) ?_
      exact law_c8 l hAs hA C0 hK hE hij hbd hIX hIM hT hcs hP hD hS hl kk
    | 9, _ =>
      refine lv_tableIn (tgt := 529) hx hb dL_law_33 (by decide) (by decide) (off := 496) (by decide) (by decide) ?_
      exact law_c9 l hAs hA C0 hK hE hij hbd hIX hIM hT hcs hP hD hS hl kk
    | 10, _ =>
      refine lv_tableIn (tgt := 552) hx hb dL_law_33 (by decide) (by decide) (off := 519) (by decide) (by decide) ?_
      exact law_c10 l hAs hA C0 hK hE hij hbd hIX hIM hT hcs hP hD hS hl kk
    | 11, _ =>
      refine lv_tableIn (tgt := 575) hx hb dL_law_33 (by decide) (by decide) (off := 542) (by decide) (by decide) ?_
      exact law_c11 l hAs hA C0 hK hE hij hbd hIX hIM hT hcs hP hD hS hl kk
    | 12, _ =>
      refine lv_tableIn (tgt := 598) hx hb dL_law_33 (by decide) (by decide) (off := 565) (by decide) (by decide) ?_
      exact law_c12 l hAs hA C0 hK hE hij hbd hIX hIM hT hcs hP hD hS hl kk
    | 13, _ =>
      refine lv_tableIn (tgt := 621) hx hb dL_law_33 (by decide) (by decide) (off := 588) (by decide) (by decide) ?_
      exact law_c13 l hAs hA C0 hK hE hij hbd hIX hIM hT hcs hP hD hS hl kk
    | 14, _ =>
      refine lv_tableIn (tgt := 654) hx hb dL_law_33 (by decide) (by decide) (off := 621) (by decide) (by decide) ?_
      exact law_c14 l hAs hA C0 hK hE hij hbd hIX hIM hT hcs hP hD hS hl kk
    | 15, _ =>
      refine lv_tableIn (tgt := 697) hx hb dL_law_33 (by decide) (by decide) (off := 664) (by decide) (by decide) ?_
      exact law_c15 l hAs hA C0 hK hE hij hbd hIX hIM hT hcs hP hD hS hl kk
    | 16, _ =>
      refine lv_tableIn (tgt := 730) hx hb dL_law_33 (by decide) (by decide) (off := 697) (by decide) (by decide) ?_
      exact law_c16 l hAs hA C0 hK hE hij hbd hIX hIM hT hcs hP hD hS hl kk
    | 17, _ =>
      refine lv_tableIn (tgt := 763) hx hb dL_law_33 (by decide) (by decide) (off := 730) (by decide) (by decide) ?_
      exact law_c17 l hAs hA C0 hK hE hij hbd hIX hIM hT hcs hP hD hS hl kk
    | 18, _ =>
      refine lv_tableIn (tgt := 776) hx hb dL_law_33 (by decide) (by decide) (off := 743) (by decide) (by decide) ?_
      exact law_c18 l hAs hA C0 hK hE hij hbd hIX hIM hT hcs hP hD hS hl kk
    | 19, _ =>
      refine lv_tableIn (tgt := 799) hx hb dL_law_33 (by decide) (by decide) (off := 766) (by decide) (by decide) ?_
      exact law_c19 l hAs hA C0 hK hE hij hbd hIX hIM hT hcs hP hD hS hl kk
    | 20, _ =>
      refine lv_tableIn (tgt := 822) hx hb dL_law_33 (by decide) (by decide) (off := 789) (by decide) (by decide) ?_
      exact law_c20 l hAs hA C0 hK hE hij hbd hIX hIM hT hcs hP hD hS hl kk
    | 21, _ =>
      refine lv_tableIn (tgt := 845) hx hb dL_law_33 (by decide) (by decide) (off := 812) (by decide) (by decide) ?_
      exact law_c21 l hAs hA C0 hK hE hij hbd hIX hIM hT hcs hP hD hS hl kk
    | 22, _ =>
      refine lv_tableIn (tgt := 858) hx hb dL_law_33 (by decide) (by decide) (off := 825) (by decide) (by decide) ?_
      exact law_c22 l hAs hA C0 hK hE hij hbd hIX hIM hT hcs hP hD hS hl kk
    | 23, _ =>
      refine lv_tableIn (tgt := 891) hx hb dL_law_33 (by decide) (by decide) (off := 858) (by decide) (by decide) ?_
      exact law_c23 l hAs hA C0 hK hE hij hbd hIX hIM hT hcs hP hD hS hl kk
    | 24, _ =>
      refine lv_tableIn (tgt := 914) hx hb dL_law_33 (by decide) (by decide) (off := 881) (by decide) (by decide) ?_
      exact law_c24 l hAs hA C0 hK hE hij hbd hIX hIM hT hcs hP hD hS hl kk
    | 25, _ =>
      refine lv_tableIn (tgt := 937) hx hb dL_law_33 (by decide) (by decide) (off := 904) (by decide) (by decide) ?_
      exact law_c25 l hAs hA C0 hK hE hij hbd hIX hIM hT hcs hP hD hS hl kk
    | 26, _ =>
      refine lv_tableIn (tgt := 950) hx hb dL_law_33 (by decide) (by decide) (off := 917) (by decide) (by decide) ?_
      exact law_c26 l hAs hA C0 hK hE hij hbd hIX hIM hT hcs hP hD hS hl kk
    | 27, _ =>
      refine lv_tableIn (tgt := 963) hx hb dL_law_33 (by decide) (by decide) (off := 930) (by decide) (by decide) ?_
      exact law_c27 l hAs hA C0 hK hE hij hbd hIX hIM hT hcs hP hD hS hl kk
    | 28, _ =>
      refine lv_tableIn (tgt := 986) hx hb dL_law_33 (by decide) (by decide) (off := 953) (by decide) (by decide) ?_
      exact law_c28 l hAs hA C0 hK hE hij hbd hIX hIM hT hcs hP hD hS hl kk
    | 29, _ =>
      refine lv_tableIn (tgt := 1009) hx hb dL_law_33 (by decide) (by decide) (off := 976) (by decide) (by decide) ?_
      exact law_c29 l hAs hA C0 hK hE hij hbd hIX hIM hT hcs hP hD hS hl kk
    | 30, _ =>
      refine lv_tableIn (tgt := 1052) hx hb dL_law_33 (by decide) (by decide) (off := 1019) (by decide) (by decide) ?_
      exact law_c30 l hAs hA C0 hK hE hij hbd hIX hIM hT hcs hP hD hS hl kk
    | 31, _ =>
      refine lv_tableIn (tgt := 1075) hx hb dL_law_33 (by decide) (by decide) (off := 1042) (by decide) (by decide) ?_
      exact law_c31 l hAs hA C0 hK hE hij hbd hIX hIM hT hcs hP hD hS hl kk
    | j + 32, h => exact absurd h (by omega)
theorem map_right {wx : va_W} {c : Nat × va_E} {n : Nat} (h : wx.length = n) : [n].map (fun i => (wx ++ [c])[i]?) = [c].map some := by
  subst h
  simp
theorem map_left {wx w2 : va_W} {n : Nat} (h : wx.length = n) : (List.range n).map (fun i => (wx ++ w2)[i]?) = wx.map some := by
  subst h
  exact mapL
set_option maxRecDepth 100000 in
set_option maxHeartbeats 16000000 in
theorem whole_start {p : Program} {e : Env} {s : State} {m : MethodId} {below : List Frame} {meth : Method} {c : Code} (l : Launch) {b L : Nat} {xs : Nat → Int32} (hL : L ≤ 3072) (C0 : lw_At p s m meth c b L xs) : W p l e room_1 s m #[Value.ref b] below meth c s.heap [] 0 0 (lw_Z below #[Value.ref b] s) (entryFrame m ([Value.ref b] : List Value).toArray 4) := by
  obtain ⟨hx, hb, hr, hml, hown0, hts0, hX, hbl, hlocks, hgv⟩ := id C0
  have hown : s.vm.findClass RL = some m.cls := hown0
  have hts : ∀ w ∈ BIG, w.before #[Value.ref b] s = true := fun w h => hts0 w (big_lw w h)
  have htT : ∀ w ∈ tables_1, w.before #[Value.ref b] s = true := fun w h => hts0 w (List.mem_append_right _ h)
  obtain ⟨A, eA⟩ : ∃ z : Nat → Prop, z = fun q => s.heap.size ≤ q := ⟨_, rfl⟩
  have hA : ∀ q, s.heap.size ≤ q → A q := fun q h => by rw [eA]; exact h
  have hAs : ∀ q, A q → s.heap.size ≤ q := fun q h => by rw [eA] at h; exact h
  obtain ⟨aK, aV, hE⟩ := env_of htT hgv (A := A) (fun a h q => absurd (hAs a q) (Nat.not_le.mpr h))
  have hN : eN s := eN_of htT
  obtain ⟨dC, dI, hKc⟩ := kn_all hts
  obtain ⟨cI, cJ, cZ, hK⟩ := ka_all hts (D := (dC, dI)) hKc
  generalize (dC, dI) = D at hK
  have hS : va_S A s.heap s.heap [] := va_S.rf
  have hP : va_P D vwCl [] s.heap := fun k q h => by simp at h
  have hD : va_D A [] := ⟨fun i j p q h => by simp at h, fun k q h => by simp at h⟩
  have hl := lv_entry ([.ref b]) (n := 4) (Nat.le_of_ble_eq_true rfl)
  rw [lg_entry_eq]
  generalize (lg_sl ([.ref b]) ++ List.replicate (4 - (lg_sl ([.ref b])).length) Slot.unset).toArray = ls at hl ⊢
  have hl : lv_has ls 4 [(0, .ref b)] := hl
  refine no_X11 hx hb hts hown wd_21 hK hP hD hS hA (Nat.le_of_ble_eq_true rfl) (Nat.le_of_ble_eq_true rfl) dL_law_0 (fun q0 H hP hD hS => ?_)
  have hP : va_P D vwCl [(q0, .inr (11, df_X11))] H := hP
  have hD : va_D A [(q0, .inr (11, df_X11))] := hD
  refine lv_dup hx hb dL_law_3 rfl ?_
  refine cl_v (wr := []) (rn_I (As := []) (rest := [.ref q0]) hx hb hml hown hts (c_X11_init l D cI cJ cZ aK aV q0 _) ⟨rfl, rfl⟩ sv_L_9 ⟨(Nat.le_of_ble_eq_true rfl), (Nat.le_of_ble_eq_true rfl)⟩ ⟨(Nat.le_of_ble_eq_true rfl), (Nat.le_of_ble_eq_true rfl)⟩ (fun a U g mk h => ⟨eS_blind a U g mk h.1, eN_blind a U g mk h.2⟩) (fun U hU hW => ⟨eS_call hE hS (va_free hD hS hA [0] rfl) U hU hW, eN_warm hW hN⟩) hK hP hD [0] rfl rfl rfl hl.1 rfl (Nat.le_of_ble_eq_true rfl) dL_law_4) hP hD hS hA [0] [] rfl rfl rfl (by decide) (fun w1 H1 locs1 hw hP1 hD1 hS1 => ?_)
  obtain ⟨qx, fx, hq0, hof, rfl⟩ := hw
  clear hP hD hS
  subst hq0
  have hlen : (WX qx fx cI cJ cZ).length = 110 := rfl
  generalize hwx : WX qx fx cI cJ cZ = wx at hP1 hD1 hlen
  have hP : va_P D vwCl wx H1 := hP1
  have hD : va_D A wx := hD1
  have hS := hS1
  refine lv_astore_n (lv' := [(1, .ref (qx 0)), (0, .ref b)]) hx hb dL_law_7 rfl hl (by decide) rfl (fun ls hl => ?_)
  refine no_X12 hx hb hts hown wd_1395 hK hP hD hS hA (Nat.le_of_ble_eq_true rfl) (Nat.le_of_ble_eq_true rfl) dL_law_8 (fun q2 H2 hP2 hD2 hS2 => ?_)
  refine lv_dup hx hb dL_law_11 rfl ?_
  refine cl_v (wr := wx) (rn_I (As := []) (rest := [.ref q2]) hx hb hml hown hts (c_X12_init l D cI cJ cZ q2 _) ⟨rfl, rfl⟩ sv_L_12 ⟨(Nat.le_of_ble_eq_true rfl), (Nat.le_of_ble_eq_true rfl)⟩ ⟨(Nat.le_of_ble_eq_true rfl), (Nat.le_of_ble_eq_true rfl)⟩ (fun _ _ _ _ h => h) (fun _ _ _ => trivial) hK hP2 hD2 [110] (map_right hlen) rfl rfl hl.1 rfl (Nat.le_of_ble_eq_true rfl) dL_law_12) hP2 hD2 hS2 hA [110] (List.range 110) (map_right hlen) (map_left hlen) (by decide) (by decide) (fun w2 H3 locs3 hw hP3 hD3 hS3 => ?_)
  obtain ⟨qm, fm, hev, hq2, rfl⟩ := hw
  clear hP2 hD2 hS2 hP hD hS hP1 hD1 hS1
  subst hq2
  subst hwx
  refine lv_astore_n (lv' := [(2, .ref (qm 0)), (1, .ref (qx 0)), (0, .ref b)]) hx hb dL_law_15 rfl hl (by decide) rfl (fun ls hl => ?_)
  refine lv_iconst (v := 0) hx hb dL_law_16 (by decide) ?_
  refine lv_istore_n (lv' := [(3, .int 0), (2, .ref (qm 0)), (1, .ref (qx 0)), (0, .ref b)]) hx hb dL_law_17 rfl hl (by decide) rfl (fun ls hl => ?_)
  exact law_loop l hL hAs hA C0 hK (eW_of htT) ⟨(Nat.le_of_ble_eq_true rfl), (Nat.le_of_ble_eq_true rfl)⟩ 513 0 (by omega) 0 qx _ _ _ _ _ rfl (by omega) IX_0 IM_0 (IT_0 hof hev) hP3 hD3 hS3 hl
