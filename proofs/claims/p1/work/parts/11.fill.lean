set_option maxRecDepth 100000 in
set_option maxHeartbeats 4000000 in
theorem lp_fill {D : va_G} {cI cJ cZ : ClassId} {q0 : Nat} {N : Nat} {p0 : Int32} (hN : N < 2 ^ 31) {p : Program} {l : Launch} {e : Env} {R : Room} {s : State} {m : MethodId} {args : Array Value} {below : List Frame} {meth : Method} {c : Code} {cells slots : Nat} {Q : State → Prop} {A : Nat → Prop} (hx : p.tables.exec = Jvm.exec) (hb : c.code = cJ7_fill_53178) (hml : c.maxLocals = 4) (hown : s.vm.findClass RJ7 = some m.cls) (hts : ∀ w ∈ BIG, w.before args s = true) (hK : va_K D vwCl (tyK cI cJ cZ) s) (hA : ∀ q, s.heap.size ≤ q → A q) {wr : va_W} (kk : ∀ (f1 : Nat → Int32) (H : Heap) (locs : List Loc) (ls : Array Slot), va_P D vwCl ([(q0, .inl (cI, N, .inl f1))] ++ wr) H → va_D A ([(q0, .inl (cI, N, .inl f1))] ++ wr) → va_S A s.heap H locs → lv_has ls 4 [(0, .ref q0), (1, .int p0), (2, .int (nI N)), (3, .int (nI N))] → W p l e R s m args below meth c H locs cells slots Q (F0 m 20 ls [])) : ∀ (n k : Nat) (f1 : Nat → Int32) (H : Heap) (locs : List Loc) (ls : Array Slot), k + n = N → va_P D vwCl ([(q0, .inl (cI, N, .inl f1))] ++ wr) H → va_D A ([(q0, .inl (cI, N, .inl f1))] ++ wr) → va_S A s.heap H locs → lv_has ls 4 [(0, .ref q0), (1, .int p0), (2, .int (nI k)), (3, .int (nI N))] → W p l e R s m args below meth c H locs cells slots Q (F0 m 5 ls []) := by
  intro n
  induction n with
  | zero =>
    intro k f1 H locs ls hkn hP hD hS hl
    obtain rfl : k = N := by omega
    refine lv_iload_n hx hb dJ7_fill_53178_5 rfl (lv_at hl 2 rfl) ?_
    refine lv_iload_n hx hb dJ7_fill_53178_6 rfl (lv_at hl 3 rfl) ?_
    refine lv_icmp_ge (tgt := 20) hx hb dJ7_fill_53178_7 (by decide) (fun _ => ?_) (fun h => (h (Int32.le_refl _)).elim)
    exact kk f1 H locs ls hP hD hS (lv_sub hl [0, 1, 2, 3] rfl)
  | succ n ih =>
    intro k f1 H locs ls hkn hP hD hS hl
    have hk : k < N := by omega
    refine lv_iload_n hx hb dJ7_fill_53178_5 rfl (lv_at hl 2 rfl) ?_
    refine lv_iload_n hx hb dJ7_fill_53178_6 rfl (lv_at hl 3 rfl) ?_
    refine lv_icmp_ge (tgt := 20) hx hb dJ7_fill_53178_7 (by decide) (fun h => absurd h (nI_ge hk hN)) (fun _ => ?_)
    refine lv_aload_n hx hb dJ7_fill_53178_10 rfl (lv_at hl 0 rfl) ?_
    refine lv_iload_n hx hb dJ7_fill_53178_11 rfl (lv_at hl 2 rfl) ?_
    refine lv_iload_n hx hb dJ7_fill_53178_12 rfl (lv_at hl 1 rfl) ?_
    refine va_iast hx hb hK hP hD hS 0 0 rfl rfl (vp_in_nI hk hN) dJ7_fill_53178_13 (fun H locs hP hD hS => ?_)
    obtain ⟨f_101, ef_101⟩ : ∃ z, z = upd f1 ((nI k) : Int32).toNatClampNeg p0 := ⟨_, rfl⟩
    rw [← ef_101] at hP hD
    have hP : va_P D vwCl ([(q0, .inl (cI, N, .inl f_101))] ++ wr) H := hP
    have hD : va_D A ([(q0, .inl (cI, N, .inl f_101))] ++ wr) := hD
    refine lv_iinc (v := (nI (k + 1))) (lv' := [(2, .int (nI (k + 1))), (0, .ref q0), (1, .int p0), (3, .int (nI N))]) hx hb dJ7_fill_53178_14 hl (k := 2) rfl (nI_inc k) (by decide) rfl (fun ls hl => ?_)
    refine lv_goto (tgt := 5) hx hb dJ7_fill_53178_17 (by decide) ?_
    exact ih (k + 1) f_101 H locs ls (by omega) hP hD hS (lv_sub hl [1, 2, 0, 3] rfl)
set_option maxRecDepth 100000 in
set_option maxHeartbeats 4000000 in
theorem c_fill (l : Launch) (D : va_G) (cI cJ cZ : ClassId) (q0 : Nat) (f1 : Nat → Int32) (p0 : Int32) (N : Nat) (hN : N < 2 ^ 31) : Con_v l yJ7_fill_53178 cJ7_fill_53178 4 none ({ frames := 0, cells := 0, slots := 0, locals := 0 }) D cI cJ cZ eT [.ref q0, .int p0] [(q0, .inl (cI, N, .inl f1))] (fun w => ∃ (f2 : Nat → Int32), w = [(q0, .inl (cI, N, .inl f2))]) := by
  refine ent_v (by decide) (Nat.le_of_ble_eq_true rfl) ?_
  intro p e s m below meth c A hx hb hml hown hts hr hlk hnm hK hE hA hP hD hS ls hl
  have hl : lv_has ls 4 [(0, .ref q0), (1, .int p0)] := hl
  refine lv_iconst (v := 0) hx hb dJ7_fill_53178_0 (by decide) ?_
  refine lv_istore_n (lv' := [(2, .int 0), (0, .ref q0), (1, .int p0)]) hx hb dJ7_fill_53178_1 rfl hl (by decide) rfl (fun ls hl => ?_)
  refine lv_aload_n hx hb dJ7_fill_53178_2 rfl (lv_at hl 1 rfl) ?_
  refine va_alen hx hb hK hP 0 0 rfl rfl (v := nI N) rfl dJ7_fill_53178_3 ?_
  refine lv_istore_n (lv' := [(3, .int (nI N)), (2, .int 0), (0, .ref q0), (1, .int p0)]) hx hb dJ7_fill_53178_4 rfl hl (by decide) rfl (fun ls hl => ?_)
  refine lp_fill (wr := []) (N := N) (p0 := p0) hN hx hb hml hown hts hK hA (fun f1 H locs ls hP hD hS hl => ?_) N 0 f1 _ _ ls (by omega) hP hD hS (lv_sub hl [2, 3, 1, 0] rfl)
  have hP : va_P D vwCl [(q0, .inl (cI, N, .inl f1))] H := hP
  have hD : va_D A [(q0, .inl (cI, N, .inl f1))] := hD
  exact fin_v hx hb hr hlk hK hP hD hS dJ7_fill_53178_20 ⟨f1, rfl⟩
theorem c_fill_250 (l : Launch) (D : va_G) (cI cJ cZ : ClassId) (q0 : Nat) (f1 : Nat → Int32) (p0 : Int32) : Con_v l yJ7_fill_53178 cJ7_fill_53178 4 none ({ frames := 0, cells := 0, slots := 0, locals := 0 }) D cI cJ cZ eT [.ref q0, .int p0] [(q0, .inl (cI, 250, .inl f1))] (fun w => ∃ (f2 : Nat → Int32), w = [(q0, .inl (cI, 250, .inl f2))]) := c_fill l D cI cJ cZ q0 f1 p0 250 (by decide)
theorem c_fill_10 (l : Launch) (D : va_G) (cI cJ cZ : ClassId) (q0 : Nat) (f1 : Nat → Int32) (p0 : Int32) : Con_v l yJ7_fill_53178 cJ7_fill_53178 4 none ({ frames := 0, cells := 0, slots := 0, locals := 0 }) D cI cJ cZ eT [.ref q0, .int p0] [(q0, .inl (cI, 10, .inl f1))] (fun w => ∃ (f2 : Nat → Int32), w = [(q0, .inl (cI, 10, .inl f2))]) := c_fill l D cI cJ cZ q0 f1 p0 10 (by decide)
theorem c_fill_40 (l : Launch) (D : va_G) (cI cJ cZ : ClassId) (q0 : Nat) (f1 : Nat → Int32) (p0 : Int32) : Con_v l yJ7_fill_53178 cJ7_fill_53178 4 none ({ frames := 0, cells := 0, slots := 0, locals := 0 }) D cI cJ cZ eT [.ref q0, .int p0] [(q0, .inl (cI, 40, .inl f1))] (fun w => ∃ (f2 : Nat → Int32), w = [(q0, .inl (cI, 40, .inl f2))]) := c_fill l D cI cJ cZ q0 f1 p0 40 (by decide)
