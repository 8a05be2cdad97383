set_option maxRecDepth 100000 in
set_option maxHeartbeats 16000000 in
theorem law_run {p : Program} {e : Env} {s : State} {m : MethodId} {below : List Frame} {meth : Method} {c : Code} (l : Launch) {b L : Nat} {xs : Nat → Int32} (hL : L ≤ 6) {A : Nat → Prop} (hAs : ∀ q, A q → s.heap.size ≤ q) (hA : ∀ q, s.heap.size ≤ q → A q) (C0 : lw_At p s m meth c b L xs) {D : va_G} {cI cJ cZ : ClassId} {qx qm : Nat → Nat} {fx : Nat → Int64} {fm : Nat → Int32} (hev : fm (0 : Int32).toNatClampNeg = 1000) (hK : va_K D vwCl (tyK cI cJ cZ) s) {H : Heap} {locs : List Loc} {ls : Array Slot} {cells slots : Nat} (hcs : cells + 0 ≤ 600000 ∧ slots + 0 ≤ 7302250) (hP : va_P D vwCl (WX qx fx cI cJ cZ ++ WM qm fm cI cJ cZ) H) (hD : va_D A (WX qx fx cI cJ cZ ++ WM qm fm cI cJ cZ)) (hS : va_S A s.heap H locs) (hl : lv_has ls 4 [(3, .int 0), (2, .ref (qm 0)), (1, .ref (qx 0)), (0, .ref b)]) : W p l e room_1 s m #[Value.ref b] below meth c H locs cells slots (lw_Z below #[Value.ref b] s) (F0 m 18 ls []) := by
  obtain ⟨hx, hb, hr, hml, hown, hts0, hX, hbl, hlocks, hgv⟩ := id C0
  have hbA : ¬ A b := fun h => absurd hbl (Nat.not_lt.mpr (hAs b h))
  refine lv_iload_n hx hb dL_law_18 rfl (lv_at hl 0 rfl) ?_
  refine lv_aload_n hx hb dL_law_19 rfl (lv_at hl 3 rfl) ?_
  refine va_slen hx hb hX hbl hbA hS dL_law_20 ?_
  refine lv_bipush (v := 6) hx hb dL_law_21 (by decide) ?_
  refine lv_isub hx hb dL_law_23 ?_
  rcases (show L < 6 ∨ L = 6 by omega) with hlt | rfl
  · refine lv_icmp_gt (tgt := 1104) hx hb dL_law_24 (by decide) (fun _ => ?_) (fun h => (h (pk_sneg (a := L) (b := 6) (by decide) hlt)).elim)
    refine lv_iconst (v := 1) hx hb dL_law_1104 (by decide) ?_
    refine va_forget (fun q hq => hAs _ (hS.2.2 q hq)) ?_
    refine W.widen (k := 600000) (n := 7302250) hcs.1 hcs.2 ?_
    exact lw_ret hx hb hr hlocks dL_law_1105
  · refine lv_icmp_gt (tgt := 1104) hx hb dL_law_24 (by decide) (fun h => absurd h (by decide)) (fun _ => ?_)
    refine lv_aload_n hx hb dL_law_27 rfl (lv_at hl 3 rfl) ?_
    refine lv_iload_n hx hb dL_law_28 rfl (lv_at hl 0 rfl) ?_
    refine va_sld hx hb hX hbl hbA hS (vp_in_c (by decide)) dL_law_29 ?_
    refine lv_bipush (v := 31) hx hb dL_law_30 (by decide) ?_
    refine lv_iand hx hb dL_law_32 ?_
    obtain ⟨j, hj, ej⟩ := pk_andE (xs (0 : Int32).toNatClampNeg) (m := 31) 5 (by decide)
    refine tov ej ?_
    match j, hj with
    | 0, _ =>
      refine lv_tableIn (tgt := 176) hx hb dL_law_33 (by decide) (by decide) (off := 143) (by decide) (by decide) ?_
      exact law_c0 l hAs hA C0 hev hK hcs hP hD hS hl
    | 1, _ =>
      refine lv_tableIn (tgt := 239) hx hb dL_law_33 (by decide) (by decide) (off := 206) (by decide) (by decide) ?_
      exact law_c1 l hAs hA C0 hev hK hcs hP hD hS hl
    | 2, _ =>
      refine lv_tableIn (tgt := 262) hx hb dL_law_33 (by decide) (by decide) (off := 229) (by decide) (by decide) ?_
      exact law_c2 l hAs hA C0 hev hK hcs hP hD hS hl
    | 3, _ =>
      refine lv_tableIn (tgt := 275) hx hb dL_law_33 (by decide) (by decide) (off := 242) (by decide) (by decide) ?_
      exact law_c3 l hAs hA C0 hev hK hcs hP hD hS hl
    | 4, _ =>
      refine lv_tableIn (tgt := 298) hx hb dL_law_33 (by decide) (by decide) (off := 265) (by decide) (by decide) ?_
      exact law_c4 l hAs hA C0 hev hK hcs hP hD hS hl
    | 5, _ =>
      refine lv_tableIn (tgt := 357) hx hb dL_law_33 (by decide) (by decide) (off := 324) (by decide) (by decide) ?_
      exact law_c5 l hAs hA C0 hev hK hcs hP hD hS hl
    | 6, _ =>
      refine lv_tableIn (tgt := 390) hx hb dL_law_33 (by decide) (by decide) (off := 357) (by decide) (by decide) ?_
      exact law_c6 l hAs hA C0 hev hK hcs hP hD hS hl
    | 7, _ =>
      refine lv_tableIn (tgt := 453) hx hb dL_law_33 (by decide) (by decide) (off := 420) (by decide) (by decide) ?_
      exact law_c7 l hAs hA C0 hev hK hcs hP hD hS hl
    | 8, _ =>
      refine lv_tableIn (tgt := 496) hx hb dL_law_33 (by decide) (by decide) (off := 463) (by decide) (by decide) ?_
      exact law_c8 l hAs hA C0 hev hK hcs hP hD hS hl
    | 9, _ =>
      refine lv_tableIn (tgt := 529) hx hb dL_law_33 (by decide) (by decide) (off := 496) (by decide) (by decide) ?_
      exact law_c9 l hAs hA C0 hev hK hcs hP hD hS hl
    | 10, _ =>
      refine lv_tableIn (tgt := 552) hx hb dL_law_33 (by decide) (by decide) (off := 519) (by decide) (by decide) ?_
      exact law_c10 l hAs hA C0 hev hK hcs hP hD hS hl
    | 11, _ =>
      refine lv_tableIn (tgt := 575) hx hb dL_law_33 (by decide) (by decide) (off := 542) (by decide) (by decide) ?_
      exact law_c11 l hAs hA C0 hev hK hcs hP hD hS hl
    | 12, _ =>
      refine lv_tableIn (tgt := 598) hx hb dL_law_33 (by decide) (by decide) (off := 565) (by decide) (by decide) ?_
      exact law_c12 l hAs hA C0 hev hK hcs hP hD hS hl
    | 13, _ =>
      refine lv_tableIn (tgt := 621) hx hb dL_law_33 (by decide) (by decide) (off := 588) (by decide) (by decide) ?_
      exact law_c13 l hAs hA C0 hev hK hcs hP hD hS hl
    | 14, _ =>
      refine lv_tableIn (tgt := 654) hx hb dL_law_33 (by decide) (by decide) (off := 621) (by decide) (by decide) ?_
      exact law_c14 l hAs hA C0 hev hK hcs hP hD hS hl
    | 15, _ =>
      refine lv_tableIn (tgt := 697) hx hb dL_law_33 (by decide) (by decide) (off := 664) (by decide) (by decide) ?_
      exact law_c15 l hAs hA C0 hev hK hcs hP hD hS hl
    | 16, _ =>
      refine lv_tableIn (tgt := 730) hx hb dL_law_33 (by decide) (by decide) (off := 697) (by decide) (by decide) ?_
      exact law_c16 l hAs hA C0 hev hK hcs hP hD hS hl
    | 17, _ =>
      refine lv_tableIn (tgt := 763) hx hb dL_law_33 (by decide) (by decide) (off := 730) (by decide) (by decide) ?_
      exact law_c17 l hAs hA C0 hev hK hcs hP hD hS hl
    | 18, _ =>
      refine lv_tableIn (tgt := 776) hx hb dL_law_33 (by decide) (by decide) (off := 743) (by decide) (by decide) ?_
      exact law_c18 l hAs hA C0 hev hK hcs hP hD hS hl
    | 19, _ =>
      refine lv_tableIn (tgt := 799) hx hb dL_law_33 (by decide) (by decide) (off := 766) (by decide) (by decide) ?_
      exact law_c19 l hAs hA C0 hev hK hcs hP hD hS hl
    | 20, _ =>
      refine lv_tableIn (tgt := 822) hx hb dL_law_33 (by decide) (by decide) (off := 789) (by decide) (by decide) ?_
      exact law_c20 l hAs hA C0 hev hK hcs hP hD hS hl
    | 21, _ =>
      refine lv_tableIn (tgt := 845) hx hb dL_law_33 (by decide) (by decide) (off := 812) (by decide) (by decide) ?_
      exact law_c21 l hAs hA C0 hev hK hcs hP hD hS hl
    | 22, _ =>
      refine lv_tableIn (tgt := 858) hx hb dL_law_33 (by decide) (by decide) (off := 825) (by decide) (by decide) ?_
      exact law_c22 l hAs hA C0 hev hK hcs hP hD hS hl
    | 23, _ =>
      refine lv_tableIn (tgt := 891) hx hb dL_law_33 (by decide) (by decide) (off := 858) (by decide) (by decide) ?_
      exact law_c23 l hAs hA C0 hev hK hcs hP hD hS hl
    | 24, _ =>
      refine lv_tableIn (tgt := 914) hx hb dL_law_33 (by decide) (by decide) (off := 881) (by decide) (by decide) ?_
      exact law_c24 l hAs hA C0 hev hK hcs hP hD hS hl
    | 25, _ =>
      refine lv_tableIn (tgt := 937) hx hb dL_law_33 (by decide) (by decide) (off := 904) (by decide) (by decide) ?_
      exact law_c25 l hAs hA C0 hev hK hcs hP hD hS hl
    | 26, _ =>
      refine lv_tableIn (tgt := 950) hx hb dL_law_33 (by decide) (by decide) (off := 917) (by decide) (by decide) ?_
      exact law_c26 l hAs hA C0 hev hK hcs hP hD hS hl
    | 27, _ =>
      refine lv_tableIn (tgt := 963) hx hb dL_law_33 (by decide) (by decide) (off := 930) (by decide) (by decide) ?_
      exact law_c27 l hAs hA C0 hev hK hcs hP hD hS hl
    | 28, _ =>
      refine lv_tableIn (tgt := 986) hx hb dL_law_33 (by decide) (by decide) (off := 953) (by decide) (by decide) ?_
      exact law_c28 l hAs hA C0 hev hK hcs hP hD hS hl
    | 29, _ =>
      refine lv_tableIn (tgt := 1009) hx hb dL_law_33 (by decide) (by decide) (off := 976) (by decide) (by decide) ?_
      exact law_c29 l hAs hA C0 hev hK hcs hP hD hS hl
    | 30, _ =>
      refine lv_tableIn (tgt := 1052) hx hb dL_law_33 (by decide) (by decide) (off := 1019) (by decide) (by decide) ?_
      exact law_c30 l hAs hA C0 hev hK hcs hP hD hS hl
    | 31, _ =>
      refine lv_tableIn (tgt := 1075) hx hb dL_law_33 (by decide) (by decide) (off := 1042) (by decide) (by decide) ?_
      exact law_c31 l hAs hA C0 hev hK hcs hP hD hS hl
    | j + 32, h => exact absurd h (by omega)
