set_option maxRecDepth 100000 in
set_option maxHeartbeats 16000000 in
theorem law_run {p : Program} {e : Env} {s : State} {m : MethodId} {below : List Frame} {meth : Method} {c : Code} (l : Launch) {b L : Nat} {xs : Nat → Int32} (hL : L ≤ 6) {A : Nat → Prop} (hAs : ∀ q, A q → s.heap.size ≤ q) (hA : ∀ q, s.heap.size ≤ q → A q) (C0 : lw_At p s m meth c b L xs) {D : va_G} {cI cJ cZ : ClassId} {qx qm : Nat → Nat} {fx : Nat → Int64} {fm : Nat → Int32} (hev : fm (0 : Int32).toNatClampNeg = 1000) (hK : va_K D vwCl (tyK cI cJ cZ) s) {H : Heap} {locs : List Loc} {ls : Array Slot} {cells slots : Nat} (hcs : cells + 0 ≤ 600000 ∧ slots + 0 ≤ 7302250) (hP : va_P D vwCl (WX qx fx cI cJ cZ ++ WM qm fm cI cJ cZ) H) (hD : va_D A (WX qx fx cI cJ cZ ++ WM qm fm cI cJ cZ)) (hS : va_S A s.heap H locs) (hl : lv_has ls 4 [(3, .int 0), (2, .ref (qm 0)), (1, .ref (qx 0)), (0, .ref b)]) : W p l e room_1 s m #[Value.ref b] below meth c H locs cells slots (lw_Z below #[Value.ref b] s) (F0 m 18 ls []) := by
  obtain ⟨hx, hb, hr, hml, hown, hts0, hX, hbl, hlocks, hgv⟩ := id C0
  have hbA : ¬ A b := fun h => absurd hbl (Nat.not_lt.mpr (hAs b h))
  refine lv_iload_n hx hb dL_law_18 rfl (lv_at hl 0 rfl) ?_
  refine lv_aload_n hx hb dL_law_19 rfl (lv_at hl 3 rfl) ?_
  refine va_slen hx hb hX hbl hbA hS dL_law_20 ?_
  refine lv_bipush (v := 6) hx hb dL_law_21 (by decide) ?_
  refine lv_isub hx hb dL_law_23 ?_
  rcases (show L < 6 ∨ L = 6 by omega) with hlt | rfl
  · refine lv_icmp_gt (tgt := 1104) hx hb dL_law_24 (by decide) (fun _ => ?_) (fun h => (h (pk_sneg (a := L) (b := 6) (by decide) hlt)).elim)
    refine lv_iconst (v := 1) hx hb dL_law_1104 (by decide) ?_
    refine va_forget (fun q hq => hAs _ (hS.2.2 q hq)) ?_
    refine W.widen (k := 600000) (n := 7302250) hcs.1 hcs.2 ?_
    exact lw_ret hx hb hr hlocks dL_law_1105
  · refine lv_icmp_gt (tgt := 1104) hx hb dL_law_24 (by decide) (fun h => absurd h (by decide)) (fun _ => ?_)
    refine lv_aload_n hx hb dL_law_27 rfl (lv_at hl 3 rfl) ?_
    refine lv_iload_n hx hb dL_law_28 rfl (lv_at hl 0 rfl) ?_
    refine va_sld hx hb hX hbl hbA hS (vp_in_c (by decide)) dL_law_29 ?_
    refine lv_bipush (v := 31) hx hb dL_law_30 (by decide) ?_
    refine lv_iand hx hb dL_law_32 ?_
    obtain ⟨j, hj, ej⟩ := pk_andE (xs (0 : Int32).toNatClampNeg) (m := 31) 5 (by decide)
    refine tov ej ?_
    match j, hj with
    | 0, _ =>
      refine lv_tableIn (tgt := 176) hx hb dL_law_33 (by decide) (by decide) (off := 143) (by decide) (by decide) ?_
      exact law_c0 l hAs hA C0 hev hK hcs hP hD hS hl
    | 1, _ =>
      refine lv_tableIn (tgt := 239) hx hb dL_law_33 (by decide) (by decide) (off := 206) (by decide) (by decide) ?_
      exact law_c1 l hAs hA C0 hev hK hcs hP hD hS hl
    | 2, _ =>
      refine lv_tableIn (tgt := 262) hx hb dL_law_33 (by decide) (by decide) (off := 229) (by decide) (by decide) ?_
      exact law_c2 l hAs hA C0 hev hK hcs hP hD hS hl
    | 3, _ =>
      refine lv_tableIn (tgt := 275) hx hb dL_law_33 (by decide) (by decide) (off := 242) (by decide) (by decide) ?_
      exact law_c3 l hAs hA C0 hev hK hcs hP hD hS hl
    | 4, _ =>
      refine lv_tableIn (tgt := 298) hx hb dL_law_33 (by decide) (by decide) (off := 265) (by decide) (by decide) ?_
      exact law_c4 l hAs hA C0 hev hK hcs hP hD hS hl
    | 5, _ =>
      refine lv_tableIn (tgt := 357) hx hb dL_law_33 (by decide) (by decide) (off := 324) (by decide) (by decide) ?_
      exact law_c5 l hAs hA C0 hev hK hcs hP hD hS hl
    | 6, _ =>
      refine lv_tableIn (tgt := 390) hx hb dL_law_33 (by decide) (by decide) (off := 357) (by decide) (by decide) ?_
      exact law_c6 l hAs hA C0 hev hK hcs hP hD hS hl
    | 7, _ =>
      refine lv_tableIn (tgt := 453) hx hb dL_law_33 (by decide) (by decide) (off := 420) (by decide) (by decide) ?_
      exact law_c7 l hAs hA C0 hev hK hcs hP hD hS hl
    | 8, _ =>
      refine lv_tableIn (tgt := 496) hx hb dL_law_33 (by decide) (by decide) (off := 463) (by decide) (by decide) ?_
      exact law_c8 l hAs hA C0 hev hK hcs hP hD hS hl
    | 9, _ =>
      refine lv_tableIn (tgt := 529) hx hb dL_law_33 (by decide) (by decide) (off := 496) (by decide) (by decide) ?_
      exact law_c9 l hAs hA C0 hev hK hcs hP hD hS hl
    | 10, _ =>
      refine lv_tableIn (tgt := 552) hx hb dL_law_33 (by decide) (by decide) (off := 519) (by decide) (by decide) ?_
      exact law_c10 l hAs hA C0 hev hK hcs hP hD hS hl
    | 11, _ =>
      refine lv_tableIn (tgt := 575) hx hb dL_law_33 (by decide) (by decide) (off := 542) (by decide) (by decide) ?_
      exact law_c11 l hAs hA C0 hev hK hcs hP hD hS hl
    | 12, _ =>
      refine lv_tableIn (tgt := 598) hx hb dL_law_33 (by decide) (by decide) (off := 565) (by decide) (by decide) ?_
      exact law_c12 l hAs hA C0 hev hK hcs hP hD hS hl
    | 13, _ =>
      refine lv_tableIn (tgt := 621) hx hb dL_law_33 (by decide) (by decide) (off := 588) (by decide) (by decide) ?_
      exact law_c13 l hAs hA C0 hev hK hcs hP hD hS hl
    | 14, _ =>
      refine lv_tableIn (tgt := 654) hx hb dL_law_33 (by decide) (by decide) (off := 621) (by decide) (by decide) ?_
      exact law_c14 l hAs hA C0 hev hK hcs hP hD hS hl
    | 15, _ =>
      refine lv_tableIn (tgt := 697) hx hb dL_law_33 (by decide) (by decide) (off := 664) (by decide) (by decide) ?_
      exact law_c15 l hAs hA C0 hev hK hcs hP hD hS hl
    | 16, _ =>
      refine lv_tableIn (tgt := 730) hx hb dL_law_33 (by decide) (by decide) (off := 697) (by decide) (by decide) ?_
      exact law_c16 l hAs hA C0 hev hK hcs hP hD hS hl
    | 17, _ =>
      refine lv_tableIn (tgt := 763) hx hb dL_law_33 (by decide) (by decide) (off := 730) (by decide) (by decide) ?_
      exact law_c17 l hAs hA C0 hev hK hcs hP hD hS hl
    | 18, _ =>
      refine lv_tableIn (tgt := 776) hx hb dL_law_33 (by decide) (by decide) (off := 743) (by decide) (by decide) ?_
      exact law_c18 l hAs hA C0 hev hK hcs hP hD hS hl
    | 19, _ =>
      refine lv_tableIn (tgt := 799) hx hb dL_law_33 (by decide) (by decide) (off := 766) (by decide) (by decide) ?_
      exact law_c19 l hAs hA C0 hev hK hcs hP hD hS hl
    | 20, _ =>
      refine lv_tableIn (tgt := 822) hx hb dL_law_33 (by decide) (by decide) (off := 789) (by decide) (by decide) ?_
      exact law_c20 l hAs hA C0 hev hK hcs hP hD hS hl
    | 21, _ =>
      refine lv_tableIn (tgt := 845) hx hb dL_law_33 (by decide) (by decide) (off := 812) (by decide) (by decide) ?_
      exact law_c21 l hAs hA C0 hev hK hcs hP hD hS hl
    | 22, _ =>
      refine lv_tableIn (tgt := 858) hx hb dL_law_33 (by decide) (by decide) (off := 825) (by decide) (by decide) ?_
      exact law_c22 l hAs hA C0 hev hK hcs hP hD hS hl
    | 23, _ =>
      refine lv_tableIn (tgt := 891) hx hb dL_law_33 (by decide) (by decide) (off := 858) (by decide) (by decide) ?_
      exact law_c23 l hAs hA C0 hev hK hcs hP hD hS hl
    | 24, _ =>
      refine lv_tableIn (tgt := 914) hx hb dL_law_33 (by decide) (by decide) (off := 881) (by decide) (by decide) ?_
      exact law_c24 l hAs hA C0 hev hK hcs hP hD hS hl
    | 25, _ =>
      refine lv_tableIn (tgt := 937) hx hb dL_law_33 (by decide) (by decide) (off := 904) (by decide) (by decide) ?_
      exact law_c25 l hAs hA C0 hev hK hcs hP hD hS hl
    | 26, _ =>
      refine lv_tableIn (tgt := 950) hx hb dL_law_33 (by decide) (by decide) (off := 917) (by decide) (by decide) ?_
      exact law_c26 l hAs hA C0 hev hK hcs hP hD hS hl
    | 27, _ =>
      refine lv_tableIn (tgt := 963) hx hb dL_law_33 (by decide) (by decide) (off := 930) (by decide) (by decide) ?_
      exact law_c27 l hAs hA C0 hev hK hcs hP hD hS hl
    | 28, _ =>
      refine lv_tableIn (tgt := 986) hx hb dL_law_33 (by decide) (by decide) (off := 953) (by decide) (by decide) ?_
      exact law_c28 l hAs hA C0 hev hK hcs hP hD hS hl
    | 29, _ =>
      refine lv_tableIn (tgt := 1009) hx hb dL_law_33 (by decide) (by decide) (off := 976) (by decide) (by decide) ?_
      exact law_c29 l hAs hA C0 hev hK hcs hP hD hS hl
    | 30, _ =>
      refine lv_tableIn (tgt := 1052) hx hb dL_law_33 (by decide) (by decide) (off := 1019) (by decide) (by decide) ?_
      exact law_c30 l hAs hA C0 hev hK hcs hP hD hS hl
    | 31, _ =>
      refine lv_tableIn (tgt := 1075) hx hb dL_law_33 (by decide) (by decide) (off := 1042) (by decide) (by decide) ?_
      exact law_c31 l hAs hA C0 hev hK hcs hP hD hS hl
    | j + 32, h => exact absurd h (by omega)
set_option maxRecDepth 100000 in
set_option maxHeartbeats 16000000 in
theorem whole_start {p : Program} {e : Env} {s : State} {m : MethodId} {below : List Frame} {meth : Method} {c : Code} (l : Launch) {b L : Nat} {xs : Nat → Int32} (hL : L ≤ 6) (C0 : lw_At p s m meth c b L xs) : W p l e room_1 s m #[Value.ref b] below meth c s.heap [] 0 0 (lw_Z below #[Value.ref b] s) (entryFrame m ([Value.ref b] : List Value).toArray 4) := by
  obtain ⟨hx, hb, hr, hml, hown0, hts0, hX, hbl, hlocks, hgv⟩ := id C0
  have hown : s.vm.findClass RL = some m.cls := hown0
  have hts : ∀ w ∈ BIG, w.before #[Value.ref b] s = true := fun w h => hts0 w (big_lw w h)
  have htT : ∀ w ∈ tables_1, w.before #[Value.ref b] s = true := fun w h => hts0 w (List.mem_append_right _ h)
  obtain ⟨A, eA⟩ : ∃ z : Nat → Prop, z = fun q => s.heap.size ≤ q := ⟨_, rfl⟩
  have hA : ∀ q, s.heap.size ≤ q → A q := fun q h => by rw [eA]; exact h
  have hAs : ∀ q, A q → s.heap.size ≤ q := fun q h => by rw [eA] at h; exact h
  obtain ⟨aK, aV, fb, hE⟩ := env_of htT hgv (A := A) (fun a h q => absurd (hAs a q) (Nat.not_le.mpr h))
  have hN : eN s := eN_of htT
  obtain ⟨dC, dI, hKc⟩ := kn_all hts
  obtain ⟨cI, cJ, cZ, hK⟩ := ka_all hts (D := (dC, dI)) hKc
  generalize (dC, dI) = D at hK
  have hS : va_S A s.heap s.heap [] := va_S.rf
  have hP : va_P D vwCl [] s.heap := fun k q h => by simp at h
  have hD : va_D A [] := ⟨fun i j p q h => by simp at h, fun k q h => by simp at h⟩
  have hl := lv_entry ([.ref b]) (n := 4) (Nat.le_of_ble_eq_true rfl)
  rw [lg_entry_eq]
  generalize (lg_sl ([.ref b]) ++ List.replicate (4 - (lg_sl ([.ref b])).length) Slot.unset).toArray = ls at hl ⊢
  have hl : lv_has ls 4 [(0, .ref b)] := hl
  refine no_X11 hx hb hts hown wd_21 hK hP hD hS hA (Nat.le_of_ble_eq_true rfl) (Nat.le_of_ble_eq_true rfl) dL_law_0 (fun q0 H hP hD hS => ?_)
  have hP : va_P D vwCl [(q0, .inr (11, df_X11))] H := hP
  have hD : va_D A [(q0, .inr (11, df_X11))] := hD
  refine lv_dup hx hb dL_law_3 rfl ?_
  refine cl_v (wr := []) (rn_I (As := []) (rest := [.ref q0]) hx hb hml hown hts (c_X11_init l D cI cJ cZ aK aV fb q0 _) ⟨rfl, rfl⟩ sv_L_9 ⟨(Nat.le_of_ble_eq_true rfl), (Nat.le_of_ble_eq_true rfl)⟩ ⟨(Nat.le_of_ble_eq_true rfl), (Nat.le_of_ble_eq_true rfl)⟩ (fun a U g mk h => ⟨eS_blind a U g mk h.1, eN_blind a U g mk h.2⟩) (fun U hU hW => ⟨eS_call hE hS (va_free hD hS hA [0] rfl) U hU hW, eN_warm hW hN⟩) hK hP hD [0] rfl rfl rfl hl.1 rfl (Nat.le_of_ble_eq_true rfl) dL_law_4) hP hD hS hA [0] [] rfl rfl rfl (by decide) (fun w1 H locs hw hP hD hS => ?_)
  obtain ⟨qx, fx, hq0, rfl⟩ := hw
  subst hq0
  have hP : va_P D vwCl (WX qx fx cI cJ cZ) H := hP
  have hD : va_D A (WX qx fx cI cJ cZ) := hD
  refine lv_astore_n (lv' := [(1, .ref (qx 0)), (0, .ref b)]) hx hb dL_law_7 rfl hl (by decide) rfl (fun ls hl => ?_)
  refine no_X12 hx hb hts hown wd_1395 hK hP hD hS hA (Nat.le_of_ble_eq_true rfl) (Nat.le_of_ble_eq_true rfl) dL_law_8 (fun q2 H hP hD hS => ?_)
  refine lv_dup hx hb dL_law_11 rfl ?_
  refine cl_v (wr := WX qx fx cI cJ cZ) (rn_I (As := []) (rest := [.ref q2]) hx hb hml hown hts (c_X12_init l D cI cJ cZ q2 _) ⟨rfl, rfl⟩ sv_L_12 ⟨(Nat.le_of_ble_eq_true rfl), (Nat.le_of_ble_eq_true rfl)⟩ ⟨(Nat.le_of_ble_eq_true rfl), (Nat.le_of_ble_eq_true rfl)⟩ (fun _ _ _ _ h => h) (fun _ _ _ => trivial) hK hP hD [110] rfl rfl rfl hl.1 rfl (Nat.le_of_ble_eq_true rfl) dL_law_12) hP hD hS hA [110] [0, 1, 2, 3, 4, 5, 6, 7, 8, 9, 10, 11, 12, 13, 14, 15, 16, 17, 18, 19, 20, 21, 22, 23, 24, 25, 26, 27, 28, 29, 30, 31, 32, 33, 34, 35, 36, 37, 38, 39, 40, 41, 42, 43, 44, 45, 46, 47, 48, 49, 50, 51, 52, 53, 54, 55, 56, 57, 58, 59, 60, 61, 62, 63, 64, 65, 66, 67, 68, 69, 70, 71, 72, 73, 74, 75, 76, 77, 78, 79, 80, 81, 82, 83, 84, 85, 86, 87, 88, 89, 90, 91, 92, 93, 94, 95, 96, 97, 98, 99, 100, 101, 102, 103, 104, 105, 106, 107, 108, 109] rfl rfl rfl (by decide) (fun w2 H locs hw hP hD hS => ?_)
  obtain ⟨qm, fm, hev, hq2, rfl⟩ := hw
  subst hq2
  refine lv_astore_n (lv' := [(2, .ref (qm 0)), (1, .ref (qx 0)), (0, .ref b)]) hx hb dL_law_15 rfl hl (by decide) rfl (fun ls hl => ?_)
  refine lv_iconst (v := 0) hx hb dL_law_16 (by decide) ?_
  refine lv_istore_n (lv' := [(3, .int 0), (2, .ref (qm 0)), (1, .ref (qx 0)), (0, .ref b)]) hx hb dL_law_17 rfl hl (by decide) rfl (fun ls hl => ?_)
  exact law_run l hL hAs hA C0 hev hK ⟨(Nat.le_of_ble_eq_true rfl), (Nat.le_of_ble_eq_true rfl)⟩ hP hD hS hl
set_option maxHeartbeats 4000000 in
theorem lw_walk (l : Launch) (b : Addr) (xs : List Int32) : MetFree l x (headSpec (Jvm.Cond.code x code maxLocals ret :: tables_1) room_1) (lw_P b xs) (fun _ _ _ _ _ => True) lw_Q := by
  refine MetFree.of_bodyS (code := code) (maxLocals := maxLocals) (ret := ret) (by decide) ?_ ?_
  · intro args s m h hn
    obtain ⟨meth, c, h1, h2, h3, h4, h5, h6, -, -⟩ := Cond.code_spec hn (atoms_spec (ws := Jvm.Cond.code x code maxLocals ret :: tables_1) h _ List.mem_cons_self)
    exact ⟨meth, c, h1, h2, h3, h4, h5, h6⟩
  · intro p e s m args below meth c s₁ B hml0 hP _
    obtain ⟨rfl, hx, hbd, hgv⟩ := hP
    obtain ⟨scr, harrAt, hlist, hof, hsmall⟩ := hx
    obtain ⟨hcb, hkn, -, -⟩ := State.arrayAt?_spec harrAt
    have hown : s.vm.findClass R_law = some m.cls := findClass_of_methodNamed B.named
    have hts0 : ∀ c ∈ (Jvm.Cond.code x code maxLocals ret :: tables_1), c.before #[Value.ref b] s = true := atoms_spec (ws := Jvm.Cond.code x code maxLocals ret :: tables_1) B.pre
    have hts : ∀ w ∈ lw_tbl, w.before #[Value.ref b] s = true := k2_hts_sels lw_privs (fun w hw => hts0 w (List.mem_cons_of_mem _ hw)) lw_privs_ok
    have hml : c.maxLocals = 4 := B.maxLocals_eq (hts0 _ List.mem_cons_self)
    have X₀ : Stand p l e room_1 s m #[Value.ref b] below meth c s₁ [] 0 0 := Stand.of_body B
    have hh0 : s₁.heap = s.heap := by rw [B.state]; rfl
    have hsz : scr.slots.size = xs.length := by rw [← Array.length_toList, hlist, List.length_map]
    have hval : ∀ j : Nat, j < xs.length → scr.slots[j]? = some (.int (xs.getD j 0)) := fun j hj => by
      rw [← Array.getElem?_toList, hlist]
      simp [hj]
    have hbl : b < s.heap.size := (Array.getElem?_eq_some_iff.mp hcb).1
    have hX : va_X b xs.length (fun j => xs.getD j 0) s s.heap := ⟨scr, hcb, hof, hkn, hsz, hval⟩
    have K : W p l e room_1 s m #[Value.ref b] below meth c s₁.heap [] 0 0 (lw_Z below #[Value.ref b] s) (entryFrame m ([Value.ref b] : List Value).toArray 4) := by
      rw [hh0]
      exact whole_start l hbd ⟨B.exec, B.bytes, B.returns, hml, hown, hts, hX, hbl, B.notSynchronized, hgv⟩
    obtain ⟨t, a1, o, b1, b2, b3⟩ := K s₁ rfl X₀
    exact ⟨t, o, a1, b1, b2, b3⟩
theorem lw_pre_spec {args : Array Value} {s : State} (h : (Jvm.Cond.and given_1 narrow_1).before args s = true) (hr : rest_1_c.before args s = true) : ∃ (b : Addr) (xs : List Int32), lw_P b xs args s := by
  have hs := flat_of_before _ h
  have hq := flat_of_before _ hr
  have hc : (Cond.count 1).before args s = true := hs _ (by decide +kernel)
  have harr : (Cond.arrayOf (.arg 0) .int).before args s = true := hs _ (by decide +kernel)
  have hle : (Cond.le (.length (.arg 0)) (.int 6)).before args s = true := hs _ (by decide +kernel)
  have hlen : (Cond.isInt (.length (.arg 0))).before args s = true := hq _ (by decide +kernel)
  have hall : (Cond.all (.arg 0) (.isInt (.elem (.arg 0) (.index 0)))).before args s = true := hq _ (by decide +kernel)
  obtain ⟨b, xs, hb, hx⟩ := State.ints_of_pre rfl harr hlen hall
  have hsm : xs.length < 2 ^ 31 := hx.choose_spec.2.2.2
  have hev : (Term.length (.arg 0)).eval args s none [] s = some (.int xs.length.toInt32) := hx.length_eval hb
  have hv := Cond.le_ints hev (show (Term.int 6).eval args s none [] s = some (.int 6) from rfl)
  have hd : xs.length.toInt32 ≤ 6 := by
    simpa [Cond.before, Cond.holds, hv] using hle
  have hN : xs.length ≤ 6 := (Int32.ofNat_le_ofNat hsm (by decide)).mp (show Int32.ofNat xs.length ≤ Int32.ofNat 6 from hd)
  exact ⟨b, xs, Cond.one_arg hc (show args[0]? = some (.ref b) from hb), hx, hN, h⟩
theorem lw_comes (l : Launch) : Comes l x (Jvm.Cond.code x code maxLocals ret :: tables_1) room_1 (fun tb e args s => Calls_1 tb e args s ∧ rest_1 tb e args s ∧ Pre_1 tb e args s)
    (fun _ _ args s o t => lw_Q args s o t) := by
  intro p e ha hc hk s m args below hf hfit hheap happ hpre
  obtain ⟨b, xs, hP⟩ := lw_pre_spec hpre.2.2 hpre.2.1
  obtain ⟨k, o, h1, h2, h3, hQ⟩ := lw_walk l b xs p e ha hc hk s m args below hf ((Spec.applies_iff_loose hf).mp happ).1 hP trivial
  exact ⟨k, o, h1, h2, h3, hQ⟩
theorem lw_frame {s t : State} {o : Outcome} {args : Array Value} (h : Framed s o t [] 600000 7302250) :
    Framed s o t (fieldLocs frame_1_writes args s ++ arrayLocs frame_1_arrays args s ++ staticLocs frame_1_statics s) 600000 7302250 := h
theorem lw_limb (L : Cond) (hL : ∀ (args : Array Value) (s t : State), L.after args s (.returned (some (.int 1))) t = true) :
    ArmFor flags0 classFile x code maxLocals ret World_1 tables_1 room_1 Calls_1 rest_1 Pre_1
      (fun tb e a s o t => postC L tb e a s o t ∧ Framed s o t (fieldLocs frame_1_writes a s ++ arrayLocs frame_1_arrays a s ++ staticLocs frame_1_statics s) 600000 7302250) := by
  intro l _ _ _ p e ha hc hk s m args below hf hfit hheap happ hpre
  obtain ⟨k, o, h1, h2, h3, rfl, hF⟩ := lw_comes l p e ha hc hk s m args below hf hfit hheap happ hpre
  exact ⟨k, _, h1, h2, h3, hL args s _, lw_frame hF⟩
theorem i_vc : Claimed_1_1 ∧ Claimed_1_2 := ⟨lw_limb limb_1_1 (fun args s t => by simp [limb_1_1, Cond.after, Cond.holds, Cond.value]), lw_limb limb_1_2 (fun args s t => Cond.after_iff.mpr (by
  first | (rw [show limb_1_2 = Cond.eq .result (.int 1) from rfl, Cond.eq_ints (x := 1) (y := 1) rfl rfl]; simp; done) | (simp [limb_1_2, Cond.value, Term.eval]; done)))⟩

