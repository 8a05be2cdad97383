abbrev tx_own : String := "kind worth price at is never for likes of gifts even or and not any all wish age ages school house wishes "
/-- the text of the own words, as the tables give it: its cells lie outside of A -/
def eS (aK aV : Nat) (fb : Nat → Int32) (A : Nat → Prop) (U : State) (H : Heap) : Prop :=
  vk_R RX10 19 tx_own aK U ∧ va_O "java/lang/String" aK A U H ∧ va_OF "java/lang/String" "coder" "B" (.int 0) aK A U H ∧ va_OF "java/lang/String" "value" "[B" (.ref aV) aK A U H ∧ va_T .byte aV 106 (fun j => .int (fb j)) A U H ∧ va_Z "java/lang/String" "COMPACT_STRINGS" "Z" (.int 1) A U H ∧ va_Zq "jdk/internal/util/Preconditions" "SIOOBE_FORMATTER" "Ljava/util/function/BiFunction;" A U H
abbrev eSt (aK aV : Nat) (fb : Nat → Int32) (ws : va_W) : State → Prop := fun U => eS aK aV fb (va_A ws U.heap.size) U U.heap
theorem eS_to {aK aV : Nat} {fb : Nat → Int32} {A B : Nat → Prop} {s U : State} {H : Heap} (h : eS aK aV fb A s s.heap) (hW : s.WarmedH U.vm) (hk : ∀ a : Nat, a < s.heap.size → ¬ A a → H[a]? = s.heap[a]?) (hAB : ∀ q, B q → A q) : eS aK aV fb B U H :=
  ⟨h.1.warm hW, ((h.2.1.kept hk).narrow hAB).moved hW.alike, ((h.2.2.1.kept hk).narrow hAB).moved hW.alike, ((h.2.2.2.1.kept hk).narrow hAB).moved hW.alike, ((h.2.2.2.2.1.kept hk).narrow hAB).moved hW.alike, ((h.2.2.2.2.2.1.kept hk).narrow hAB).moved hW.alike, ((h.2.2.2.2.2.2.kept hk).narrow hAB).moved hW.alike⟩
theorem eS_blind {aK aV : Nat} {fb : Nat → Int32} {ws : va_W} (a : Array Value) (U : State) (g : JFrame) (mk : MethodId) (h : eSt aK aV fb ws U) : eSt aK aV fb ws (U.calling g mk a) := by
  have hv : U.vm.Alike (U.calling g mk a).vm := Vm.Alike.refl U.vm
  exact ⟨vk_R.same (u := U) rfl h.1, h.2.1.moved hv, h.2.2.1.moved hv, h.2.2.2.1.moved hv, h.2.2.2.2.1.moved hv, h.2.2.2.2.2.1.moved hv, h.2.2.2.2.2.2.moved hv⟩
theorem eS_call {aK aV : Nat} {fb : Nat → Int32} {A : Nat → Prop} {s : State} {H : Heap} {locs : List Loc} {wc : va_W} (hE : eS aK aV fb A s s.heap) (hS : va_S A s.heap H locs) (hFc : ∀ q, va_A wc H.size q → A q) : ∀ U : State, U.heap = H → s.WarmedH U.vm → eSt aK aV fb wc U := by
  intro U hU hW
  subst hU
  exact eS_to hE hW hS.2.1 hFc
theorem va_A_nil {A : Nat → Prop} {s : State} {H : Heap} {locs : List Loc} (hS : va_S A s.heap H locs) (hA : ∀ q, s.heap.size ≤ q → A q) : ∀ q, va_A [] H.size q → A q := by
  intro q h
  rcases h with ⟨k, e, h⟩ | h
  · cases h
  · exact hA q (Nat.le_trans hS.1 h)
section StrEnt
variable {l : Launch} {y : MethodName} {cc : ByteArray} {nL : Nat} {ret : Option FieldType} {rm : Room} {D : va_G} {cI cJ cZ : ClassId} {aK aV : Nat} {fb : Nat → Int32} {av : List Value} {ws : va_W}
theorem ent_iS {E0 : State → Prop} {post : Int32 → va_W → Prop} (hy : plainName y.cls = true) (hn : (lg_sl av).length ≤ nL)
    (body : ∀ (p : Program) (e : Env) (s : State) (m : MethodId) (below : List Frame) (meth : Method) (c : Code) (A : Nat → Prop), p.tables.exec = Jvm.exec → c.code = cc → c.maxLocals = nL → s.vm.findClass y.cls = some m.cls → (∀ w ∈ BIG, w.before av.toArray s = true) → meth.sig.returnType = ret → meth.locks = false → meth.name = y.name → va_K D vwCl (tyK cI cJ cZ) s → eS aK aV fb A s s.heap ∧ E0 s → (∀ q, s.heap.size ≤ q → A q) → va_P D vwCl ws s.heap → va_D A ws → va_S A s.heap s.heap [] → ∀ ls : Array Slot, lv_has ls nL (lv_args 0 av) →
      W p l e rm s m av.toArray below meth c s.heap [] 0 0 (MQ below (va_Qi post (cn_A D cI cJ cZ A) A) av.toArray s rm.cells rm.slots A) (F0 m 0 ls [])) : Con_i l y cc nL ret rm D cI cJ cZ (fun U => eSt aK aV fb ws U ∧ E0 U) av ws post := by
  intro sz
  refine Met.ofW (cc := cc) (maxL := nL) (ret := ret) hy rfl ?_
  intro p e s m args below meth c s₁ B hml hv
  obtain ⟨rfl, hsz, hP, hK, hD0, hE⟩ := hv
  have hts := atoms_spec (ws := .code y cc nL ret :: BIG) B.pre
  subst hsz
  rw [lg_entry_eq]
  exact body p e s m below meth c (va_A ws s.heap.size) B.exec B.bytes hml (findClass_of_methodNamed B.named) (fun w h => hts w (List.mem_cons_of_mem _ h)) B.returns B.notSynchronized (name_of_methodNamed B.named B.method).1 hK hE (fun q h => Or.inr h) hP (hD0.self (sz := s.heap.size)) va_S.rf _ (lv_entry av hn)
theorem ent_vS {E0 : State → Prop} {post : va_W → Prop} (hy : plainName y.cls = true) (hn : (lg_sl av).length ≤ nL)
    (body : ∀ (p : Program) (e : Env) (s : State) (m : MethodId) (below : List Frame) (meth : Method) (c : Code) (A : Nat → Prop), p.tables.exec = Jvm.exec → c.code = cc → c.maxLocals = nL → s.vm.findClass y.cls = some m.cls → (∀ w ∈ BIG, w.before av.toArray s = true) → meth.sig.returnType = ret → meth.locks = false → meth.name = y.name → va_K D vwCl (tyK cI cJ cZ) s → eS aK aV fb A s s.heap ∧ E0 s → (∀ q, s.heap.size ≤ q → A q) → va_P D vwCl ws s.heap → va_D A ws → va_S A s.heap s.heap [] → ∀ ls : Array Slot, lv_has ls nL (lv_args 0 av) →
      W p l e rm s m av.toArray below meth c s.heap [] 0 0 (MQ below (va_Qv post (cn_A D cI cJ cZ A) A) av.toArray s rm.cells rm.slots A) (F0 m 0 ls [])) : Con_v l y cc nL ret rm D cI cJ cZ (fun U => eSt aK aV fb ws U ∧ E0 U) av ws post := by
  intro sz
  refine Met.ofW (cc := cc) (maxL := nL) (ret := ret) hy rfl ?_
  intro p e s m args below meth c s₁ B hml hv
  obtain ⟨rfl, hsz, hP, hK, hD0, hE⟩ := hv
  have hts := atoms_spec (ws := .code y cc nL ret :: BIG) B.pre
  subst hsz
  rw [lg_entry_eq]
  exact body p e s m below meth c (va_A ws s.heap.size) B.exec B.bytes hml (findClass_of_methodNamed B.named) (fun w h => hts w (List.mem_cons_of_mem _ h)) B.returns B.notSynchronized (name_of_methodNamed B.named B.method).1 hK hE (fun q h => Or.inr h) hP (hD0.self (sz := s.heap.size)) va_S.rf _ (lv_entry av hn)
end StrEnt
abbrev eSx (aK aV : Nat) (fb : Nat → Int32) (ws : va_W) : State → Prop := fun U => eSt aK aV fb ws U ∧ eT U
theorem eSx_blind {aK aV : Nat} {fb : Nat → Int32} {ws : va_W} (a : Array Value) (U : State) (g : JFrame) (mk : MethodId) (h : eSx aK aV fb ws U) : eSx aK aV fb ws (U.calling g mk a) := ⟨eS_blind a U g mk h.1, trivial⟩
theorem eSx_call {aK aV : Nat} {fb : Nat → Int32} {A : Nat → Prop} {s : State} {H : Heap} {locs : List Loc} {wc : va_W} (hE : eS aK aV fb A s s.heap) (hS : va_S A s.heap H locs) (hFc : ∀ q, va_A wc H.size q → A q) : ∀ U : State, U.heap = H → s.WarmedH U.vm → eSx aK aV fb wc U := fun U hU hW => ⟨eS_call hE hS hFc U hU hW, trivial⟩
theorem rn_VR {p : Program} {l : Launch} {e : Env} {R : Room} {s : State} {m : MethodId} {args : Array Value} {below : List Frame} {meth : Method} {c : Code} {H : Heap} {locs : List Loc} {cells slots : Nat} {cc : ByteArray} {pc : Nat} {ls : Array Slot} {rest st0 : List Value} {D : va_G} {cI cJ cZ : ClassId} {A : Nat → Prop} {ws wc : va_W} {y : MethodName} {ccY : ByteArray} {nL nY n index : Nat} {ret : Option FieldType} {rmY : Room} {Qc : Array Value → State → Outcome → State → Prop} {free : Addr → Prop} {own C : String} {b : Addr} {As : List Value} {E : State → Prop} {mc ms : Nat} (hx : p.tables.exec = Jvm.exec) (hb : c.code = cc) (hml : c.maxLocals = nL) (hown : s.vm.findClass own = some m.cls) (hts : ∀ w ∈ BIG, w.before args s = true)
    (hM : Met l y (.code y ccY nY ret :: BIG) rmY (va_Pc (.ref b :: As) (cn_B D cI cJ cZ wc H.size E)) Qc mc ms free) (hmc : rmY.cells = mc ∧ rmY.slots = ms)
    (sv : GoodIn BIG (wsV own index C y (.code y ccY nY ret :: BIG)) ∧ y.cls = C ∧ sv_d y n) (hR : rmY.frames + 1 ≤ R.frames ∧ 8 + (nY + 11) + rmY.locals ≤ R.locals) (hf : cells + mc ≤ R.cells ∧ slots + ms ≤ R.slots)
    (hE0 : ∀ (a : Array Value) (U : State) (g : JFrame) (mk : MethodId), E U → E (U.calling g mk a)) (hE : ∀ U : State, U.heap = H → s.WarmedH U.vm → E U)
    (hK : va_K D vwCl (tyK cI cJ cZ) s) (hP : va_P D vwCl ws H) (hD : va_D A ws) (isC : List Nat) (hC : isC.map (fun i => ws[i]?) = wc.map some) (hnC : va_nd isC = true) (hrecv : ∃ cellB : Cell, H[b]? = some cellB ∧ cellB.vm.isStatics = false ∧ s.vm.findClass C = some cellB.cls)
    (hlen : As.length = n) (hsz : ls.size = nL) (hst : st0 = As.reverse ++ .ref b :: rest) (hW8 : (rest.map fun v => v.category).sum ≤ 8) (hdg : decode cc pc = .ok (.invokevirtual index, 3)) :
    va_Run p l e R s m args below meth c H locs cells slots mc ms (F0 m pc ls st0) rest (Qc (Value.ref b :: As).toArray) free := by
  have hPc : va_P D vwCl wc H := hP.sub isC (pick_of hC)
  have hDc : va_D A wc := hD.sub isC hnC hC
  exact va_runV (As := As) (rest := rest) ⟨hx, hb, hml, hown, hts⟩ hM (cwV n hts sv.1 rfl hmc.1 hmc.2 sv.2 hR) ⟨blind_B hE0, hrecv, fun U hU hW => ⟨rfl, by rw [hU], by rw [hU]; exact hPc, va_K.moved hW.alike hK, hDc.weaken (fun _ _ _ _ => trivial), hE U hU hW⟩⟩ rfl hlen hsz hst (lv_room hW8) hdg hf
theorem s_recv {aK aV : Nat} {fb : Nat → Int32} {A : Nat → Prop} {s : State} {H : Heap} {locs : List Loc} (hE : eS aK aV fb A s s.heap) (hS : va_S A s.heap H locs) : ∃ cell : Cell, H[aK]? = some cell ∧ cell.vm.isStatics = false ∧ s.vm.findClass RJ0 = some cell.cls := by
  obtain ⟨cell, h1, h2, h3, -⟩ := hE.2.1.kept hS.2.1
  exact ⟨cell, h1, h2, h3⟩
theorem in106 {i : Int32} (h0 : ¬ i < 0) (h1 : i < 106) : vp_in i 106 := by
  rw [vp_in_iff]
  rw [q_lt] at h0 h1
  have z0 : (0 : Int32).toInt = 0 := (by decide)
  have z1 : (106 : Int32).toInt = 106 := (by decide)
  omega
set_option maxRecDepth 100000 in
set_option maxHeartbeats 4000000 in
theorem c_coder (l : Launch) (D : va_G) (cI cJ cZ : ClassId) (aK aV : Nat) (fb : Nat → Int32) : Con_i l yJ0_coder_7d493 cJ0_coder_7d493 1 (some .byte) ({ frames := 0, cells := 0, slots := 0, locals := 0 }) D cI cJ cZ (eSx aK aV fb []) [.ref aK] [] (fun r w => w = [] ∧ r = 0) := by
  refine ent_iS (by decide) (Nat.le_of_ble_eq_true rfl) ?_
  intro p e s m below meth c A hx hb hml hown hts hr hlk hnm hK hE hA hP hD hS ls hl
  have hown : s.vm.findClass RJ0 = some m.cls := hown
  obtain ⟨hE, -⟩ := hE
  have hl : lv_has ls 1 [(0, .ref aK)] := hl
  refine va_gets hx hb hE.2.2.2.2.2.1 hS hown (hts _ wd_150) (fun _ h => h) dJ0_coder_7d493_0 ?_
  refine lv_if_eq (tgt := 13) hx hb dJ0_coder_7d493_3 (by decide) (fun h => absurd h (by decide)) (fun _ => ?_)
  refine lv_aload_n hx hb dJ0_coder_7d493_6 rfl (lv_at hl 0 rfl) ?_
  refine vk_getf hx hb hE.2.2.1 hS hown (hts _ wd_2109) (fun _ h => h) dJ0_coder_7d493_7 ?_
  refine lv_goto (tgt := 14) hx hb dJ0_coder_7d493_10 (by decide) ?_
  exact fin_z hx hb hr hlk hK hP hD hS dJ0_coder_7d493_14 rfl ⟨rfl, rfl⟩
set_option maxRecDepth 100000 in
set_option maxHeartbeats 4000000 in
theorem c_isLatin1 (l : Launch) (D : va_G) (cI cJ cZ : ClassId) (aK aV : Nat) (fb : Nat → Int32) : Con_i l yJ0_isLatin1_aae02 cJ0_isLatin1_aae02 1 (some .boolean) ({ frames := 0, cells := 0, slots := 0, locals := 0 }) D cI cJ cZ (eSx aK aV fb []) [.ref aK] [] (fun r w => w = [] ∧ r = 1) := by
  refine ent_iS (by decide) (Nat.le_of_ble_eq_true rfl) ?_
  intro p e s m below meth c A hx hb hml hown hts hr hlk hnm hK hE hA hP hD hS ls hl
  have hown : s.vm.findClass RJ0 = some m.cls := hown
  obtain ⟨hE, -⟩ := hE
  have hl : lv_has ls 1 [(0, .ref aK)] := hl
  refine va_gets hx hb hE.2.2.2.2.2.1 hS hown (hts _ wd_150) (fun _ h => h) dJ0_isLatin1_aae02_0 ?_
  refine lv_if_eq (tgt := 17) hx hb dJ0_isLatin1_aae02_3 (by decide) (fun h => absurd h (by decide)) (fun _ => ?_)
  refine lv_aload_n hx hb dJ0_isLatin1_aae02_6 rfl (lv_at hl 0 rfl) ?_
  refine vk_getf hx hb hE.2.2.1 hS hown (hts _ wd_2109) (fun _ h => h) dJ0_isLatin1_aae02_7 ?_
  refine lv_if_ne (tgt := 17) hx hb dJ0_isLatin1_aae02_10 (by decide) (fun h => (h rfl).elim) (fun _ => ?_)
  refine lv_iconst (v := 1) hx hb dJ0_isLatin1_aae02_13 (by decide) ?_
  refine lv_goto (tgt := 18) hx hb dJ0_isLatin1_aae02_14 (by decide) ?_
  exact fin_z hx hb hr hlk hK hP hD hS dJ0_isLatin1_aae02_18 rfl ⟨rfl, rfl⟩
set_option maxRecDepth 100000 in
set_option maxHeartbeats 4000000 in
theorem c_length (l : Launch) (D : va_G) (cI cJ cZ : ClassId) (aK aV : Nat) (fb : Nat → Int32) : Con_i l yJ0_length_8abf5 cJ0_length_8abf5 1 (some .int) ({ frames := 1, cells := 0, slots := 0, locals := 20 }) D cI cJ cZ (eSx aK aV fb []) [.ref aK] [] (fun r w => w = [] ∧ r = 106) := by
  refine ent_iS (by decide) (Nat.le_of_ble_eq_true rfl) ?_
  intro p e s m below meth c A hx hb hml hown hts hr hlk hnm hK hE hA hP hD hS ls hl
  have hown : s.vm.findClass RJ0 = some m.cls := hown
  obtain ⟨hE, -⟩ := hE
  have hl : lv_has ls 1 [(0, .ref aK)] := hl
  refine lv_aload_n hx hb dJ0_length_8abf5_0 rfl (lv_at hl 0 rfl) ?_
  refine vk_getf hx hb hE.2.2.2.1 hS hown (hts _ wd_2108) (fun _ h => h) dJ0_length_8abf5_1 ?_
  refine va_tlen hx hb hE.2.2.2.2.1 hS (v := 106) rfl dJ0_length_8abf5_4 ?_
  refine lv_aload_n hx hb dJ0_length_8abf5_5 rfl (lv_at hl 0 rfl) ?_
  refine cl_i (wr := []) (rn_VR (As := []) (rest := [.int 106]) hx hb hml hown hts (c_coder l D cI cJ cZ aK aV fb _) ⟨rfl, rfl⟩ sv_J0_335 ⟨(Nat.le_of_ble_eq_true rfl), (Nat.le_of_ble_eq_true rfl)⟩ ⟨(Nat.le_of_ble_eq_true rfl), (Nat.le_of_ble_eq_true rfl)⟩ eSx_blind (eSx_call hE hS (va_A_nil hS hA)) hK hP hD [] rfl rfl (s_recv hE hS) rfl hl.1 rfl (Nat.le_of_ble_eq_true rfl) dJ0_length_8abf5_6) hP hD hS hA [] [] rfl rfl rfl (by decide) (fun r w1 H locs hw hP hD hS => ?_)
  obtain ⟨rfl, rfl⟩ := hw
  have hP : va_P D vwCl [] H := hP
  have hD : va_D A [] := hD
  refine lv_ishr hx hb dJ0_length_8abf5_9 ?_
  refine tov (v := 106) (by decide) ?_
  exact fin_i hx hb hr hlk hK hP hD hS dJ0_length_8abf5_10 ⟨rfl, rfl⟩
set_option maxRecDepth 100000 in
set_option maxHeartbeats 4000000 in
theorem c_pre (l : Launch) (D : va_G) (cI cJ cZ : ClassId) (i n : Int32) (v : Value) (hv : v = .null ∨ ∃ t : Nat, v = .ref t) (h0 : ¬ i < 0) (h1 : i < n) : Con_i l yJ3_checkIndex_8e157 cJ3_checkIndex_8e157 3 (some .int) ({ frames := 0, cells := 0, slots := 0, locals := 0 }) D cI cJ cZ eT [.int i, .int n, v] [] (fun r w => w = [] ∧ r = i) := by
  rcases hv with rfl | ⟨t, rfl⟩
  · skip
    refine ent_i (by decide) (Nat.le_of_ble_eq_true rfl) ?_
    intro p e s m below meth c A hx hb hml hown hts hr hlk hnm hK hE hA hP hD hS ls hl
    have hl : lv_has ls 3 [(0, .int i), (1, .int n), (2, .null)] := hl
    refine lv_iload_n hx hb dJ3_checkIndex_8e157_0 rfl (lv_at hl 0 rfl) ?_
    refine lv_if_lt (tgt := 9) hx hb dJ3_checkIndex_8e157_1 (by decide) (fun h => absurd h h0) (fun _ => ?_)
    refine lv_iload_n hx hb dJ3_checkIndex_8e157_4 rfl (lv_at hl 0 rfl) ?_
    refine lv_iload_n hx hb dJ3_checkIndex_8e157_5 rfl (lv_at hl 1 rfl) ?_
    refine lv_icmp_lt (tgt := 16) hx hb dJ3_checkIndex_8e157_6 (by decide) (fun _ => ?_) (fun h => (h h1).elim)
    refine lv_iload_n hx hb dJ3_checkIndex_8e157_16 rfl (lv_at hl 0 rfl) ?_
    exact fin_i hx hb hr hlk hK hP hD hS dJ3_checkIndex_8e157_17 ⟨rfl, rfl⟩
  · skip
    refine ent_i (by decide) (Nat.le_of_ble_eq_true rfl) ?_
    intro p e s m below meth c A hx hb hml hown hts hr hlk hnm hK hE hA hP hD hS ls hl
    have hl : lv_has ls 3 [(0, .int i), (1, .int n), (2, .ref t)] := hl
    refine lv_iload_n hx hb dJ3_checkIndex_8e157_0 rfl (lv_at hl 0 rfl) ?_
    refine lv_if_lt (tgt := 9) hx hb dJ3_checkIndex_8e157_1 (by decide) (fun h => absurd h h0) (fun _ => ?_)
    refine lv_iload_n hx hb dJ3_checkIndex_8e157_4 rfl (lv_at hl 0 rfl) ?_
    refine lv_iload_n hx hb dJ3_checkIndex_8e157_5 rfl (lv_at hl 1 rfl) ?_
    refine lv_icmp_lt (tgt := 16) hx hb dJ3_checkIndex_8e157_6 (by decide) (fun _ => ?_) (fun h => (h h1).elim)
    refine lv_iload_n hx hb dJ3_checkIndex_8e157_16 rfl (lv_at hl 0 rfl) ?_
    exact fin_i hx hb hr hlk hK hP hD hS dJ3_checkIndex_8e157_17 ⟨rfl, rfl⟩
set_option maxRecDepth 100000 in
set_option maxHeartbeats 4000000 in
theorem c_check (l : Launch) (D : va_G) (cI cJ cZ : ClassId) (aK aV : Nat) (fb : Nat → Int32) (i : Int32) (h0 : ¬ i < 0) (h1 : i < 106) : Con_v l yJ0_checkIndex_df160 cJ0_checkIndex_df160 2 none ({ frames := 1, cells := 0, slots := 0, locals := 22 }) D cI cJ cZ (eSx aK aV fb []) [.int i, .int 106] [] (fun w => w = []) := by
  refine ent_vS (by decide) (Nat.le_of_ble_eq_true rfl) ?_
  intro p e s m below meth c A hx hb hml hown hts hr hlk hnm hK hE hA hP hD hS ls hl
  have hown : s.vm.findClass RJ0 = some m.cls := hown
  obtain ⟨hE, -⟩ := hE
  have hl : lv_has ls 2 [(0, .int i), (1, .int 106)] := hl
  refine lv_iload_n hx hb dJ0_checkIndex_df160_0 rfl (lv_at hl 0 rfl) ?_
  refine lv_iload_n hx hb dJ0_checkIndex_df160_1 rfl (lv_at hl 1 rfl) ?_
  rcases hE.2.2.2.2.2.2 with hz | ⟨t, hz⟩
  · skip
    refine va_gets hx hb hz hS hown (hts _ wd_166) (fun _ h => h) dJ0_checkIndex_df160_2 ?_
    refine cl_i (wr := []) (rn_S (As := [.int i, .int 106, .null]) (rest := []) hx hb hml hown hts (c_pre l D cI cJ cZ i 106 (.null) (Or.inl rfl) h0 h1 _) ⟨rfl, rfl⟩ sv_J0_1059 ⟨(Nat.le_of_ble_eq_true rfl), (Nat.le_of_ble_eq_true rfl)⟩ ⟨(Nat.le_of_ble_eq_true rfl), (Nat.le_of_ble_eq_true rfl)⟩ (fun _ _ _ _ h => h) (fun _ _ _ => trivial) hK hP hD [] rfl rfl rfl hl.1 rfl (Nat.le_of_ble_eq_true rfl) dJ0_checkIndex_df160_5) hP hD hS hA [] [] rfl rfl rfl (by decide) (fun r w1 H locs hw hP hD hS => ?_)
    obtain ⟨rfl, rfl⟩ := hw
    have hP : va_P D vwCl [] H := hP
    have hD : va_D A [] := hD
    refine lv_pop hx hb dJ0_checkIndex_df160_8 rfl ?_
    exact fin_v hx hb hr hlk hK hP hD hS dJ0_checkIndex_df160_9 rfl
  · skip
    refine va_gets hx hb hz hS hown (hts _ wd_166) (fun _ h => h) dJ0_checkIndex_df160_2 ?_
    refine cl_i (wr := []) (rn_S (As := [.int i, .int 106, .ref t]) (rest := []) hx hb hml hown hts (c_pre l D cI cJ cZ i 106 (.ref t) (Or.inr ⟨t, rfl⟩) h0 h1 _) ⟨rfl, rfl⟩ sv_J0_1059 ⟨(Nat.le_of_ble_eq_true rfl), (Nat.le_of_ble_eq_true rfl)⟩ ⟨(Nat.le_of_ble_eq_true rfl), (Nat.le_of_ble_eq_true rfl)⟩ (fun _ _ _ _ h => h) (fun _ _ _ => trivial) hK hP hD [] rfl rfl rfl hl.1 rfl (Nat.le_of_ble_eq_true rfl) dJ0_checkIndex_df160_5) hP hD hS hA [] [] rfl rfl rfl (by decide) (fun r w1 H locs hw hP hD hS => ?_)
    obtain ⟨rfl, rfl⟩ := hw
    have hP : va_P D vwCl [] H := hP
    have hD : va_D A [] := hD
    refine lv_pop hx hb dJ0_checkIndex_df160_8 rfl ?_
    exact fin_v hx hb hr hlk hK hP hD hS dJ0_checkIndex_df160_9 rfl
set_option maxRecDepth 100000 in
set_option maxHeartbeats 4000000 in
theorem c_latinCharAt (l : Launch) (D : va_G) (cI cJ cZ : ClassId) (aK aV : Nat) (fb : Nat → Int32) (i : Int32) (h0 : ¬ i < 0) (h1 : i < 106) : Con_i l yJ1_charAt_3b067 cJ1_charAt_3b067 2 (some .char) ({ frames := 2, cells := 0, slots := 0, locals := 43 }) D cI cJ cZ (eSx aK aV fb []) [.ref aV, .int i] [] (fun r w => w = [] ∧ r = ((fb i.toNatClampNeg &&& 255).toUInt32 % 65536).toInt32) := by
  refine ent_iS (by decide) (Nat.le_of_ble_eq_true rfl) ?_
  intro p e s m below meth c A hx hb hml hown hts hr hlk hnm hK hE hA hP hD hS ls hl
  have hown : s.vm.findClass RJ1 = some m.cls := hown
  obtain ⟨hE, -⟩ := hE
  have hl : lv_has ls 2 [(0, .ref aV), (1, .int i)] := hl
  refine lv_iload_n hx hb dJ1_charAt_3b067_0 rfl (lv_at hl 1 rfl) ?_
  refine lv_aload_n hx hb dJ1_charAt_3b067_1 rfl (lv_at hl 0 rfl) ?_
  refine va_tlen hx hb hE.2.2.2.2.1 hS (v := 106) rfl dJ1_charAt_3b067_2 ?_
  refine cl_v (wr := []) (rn_S (As := [.int i, .int 106]) (rest := []) hx hb hml hown hts (c_check l D cI cJ cZ aK aV fb i h0 h1 _) ⟨rfl, rfl⟩ sv_J1_9 ⟨(Nat.le_of_ble_eq_true rfl), (Nat.le_of_ble_eq_true rfl)⟩ ⟨(Nat.le_of_ble_eq_true rfl), (Nat.le_of_ble_eq_true rfl)⟩ eSx_blind (eSx_call hE hS (va_A_nil hS hA)) hK hP hD [] rfl rfl rfl hl.1 rfl (Nat.le_of_ble_eq_true rfl) dJ1_charAt_3b067_3) hP hD hS hA [] [] rfl rfl rfl (by decide) (fun w1 H locs hw hP hD hS => ?_)
  subst hw
  have hP : va_P D vwCl [] H := hP
  have hD : va_D A [] := hD
  refine lv_aload_n hx hb dJ1_charAt_3b067_6 rfl (lv_at hl 0 rfl) ?_
  refine lv_iload_n hx hb dJ1_charAt_3b067_7 rfl (lv_at hl 1 rfl) ?_
  refine va_tb hx hb hE.2.2.2.2.1 hS (in106 h0 h1) rfl dJ1_charAt_3b067_8 ?_
  refine lv_sipush (v := 255) hx hb dJ1_charAt_3b067_9 (by decide) ?_
  refine lv_iand hx hb dJ1_charAt_3b067_12 ?_
  refine lv_i2c hx hb dJ1_charAt_3b067_13 rfl ?_
  exact fin_z hx hb hr hlk hK hP hD hS dJ1_charAt_3b067_14 (pk_nc _) ⟨rfl, rfl⟩
set_option maxRecDepth 100000 in
set_option maxHeartbeats 4000000 in
theorem c_charAt (l : Launch) (D : va_G) (cI cJ cZ : ClassId) (aK aV : Nat) (fb : Nat → Int32) (i : Int32) (h0 : ¬ i < 0) (h1 : i < 106) : Con_i l yJ0_charAt_5068e cJ0_charAt_5068e 2 (some .char) ({ frames := 3, cells := 0, slots := 0, locals := 64 }) D cI cJ cZ (eSx aK aV fb []) [.ref aK, .int i] [] (fun r w => w = [] ∧ r = ((fb i.toNatClampNeg &&& 255).toUInt32 % 65536).toInt32) := by
  refine ent_iS (by decide) (Nat.le_of_ble_eq_true rfl) ?_
  intro p e s m below meth c A hx hb hml hown hts hr hlk hnm hK hE hA hP hD hS ls hl
  have hown : s.vm.findClass RJ0 = some m.cls := hown
  obtain ⟨hE, -⟩ := hE
  have hl : lv_has ls 2 [(0, .ref aK), (1, .int i)] := hl
  refine lv_aload_n hx hb dJ0_charAt_5068e_0 rfl (lv_at hl 0 rfl) ?_
  refine cl_i (wr := []) (rn_VR (As := []) (rest := []) hx hb hml hown hts (c_isLatin1 l D cI cJ cZ aK aV fb _) ⟨rfl, rfl⟩ sv_J0_492 ⟨(Nat.le_of_ble_eq_true rfl), (Nat.le_of_ble_eq_true rfl)⟩ ⟨(Nat.le_of_ble_eq_true rfl), (Nat.le_of_ble_eq_true rfl)⟩ eSx_blind (eSx_call hE hS (va_A_nil hS hA)) hK hP hD [] rfl rfl (s_recv hE hS) rfl hl.1 rfl (Nat.le_of_ble_eq_true rfl) dJ0_charAt_5068e_1) hP hD hS hA [] [] rfl rfl rfl (by decide) (fun r w1 H locs hw hP hD hS => ?_)
  obtain ⟨rfl, rfl⟩ := hw
  have hP : va_P D vwCl [] H := hP
  have hD : va_D A [] := hD
  refine lv_if_eq (tgt := 16) hx hb dJ0_charAt_5068e_4 (by decide) (fun h => absurd h (by decide)) (fun _ => ?_)
  refine lv_aload_n hx hb dJ0_charAt_5068e_7 rfl (lv_at hl 0 rfl) ?_
  refine vk_getf hx hb hE.2.2.2.1 hS hown (hts _ wd_2108) (fun _ h => h) dJ0_charAt_5068e_8 ?_
  refine lv_iload_n hx hb dJ0_charAt_5068e_11 rfl (lv_at hl 1 rfl) ?_
  refine cl_i (wr := []) (rn_S (As := [.ref aV, .int i]) (rest := []) hx hb hml hown hts (c_latinCharAt l D cI cJ cZ aK aV fb i h0 h1 _) ⟨rfl, rfl⟩ sv_J0_495 ⟨(Nat.le_of_ble_eq_true rfl), (Nat.le_of_ble_eq_true rfl)⟩ ⟨(Nat.le_of_ble_eq_true rfl), (Nat.le_of_ble_eq_true rfl)⟩ eSx_blind (eSx_call hE hS (va_A_nil hS hA)) hK hP hD [] rfl rfl rfl hl.1 rfl (Nat.le_of_ble_eq_true rfl) dJ0_charAt_5068e_12) hP hD hS hA [] [] rfl rfl rfl (by decide) (fun r w1 H locs hw hP hD hS => ?_)
  obtain ⟨rfl, rfl⟩ := hw
  have hP : va_P D vwCl [] H := hP
  have hD : va_D A [] := hD
  exact fin_z hx hb hr hlk hK hP hD hS dJ0_charAt_5068e_15 (pk_nc _) ⟨rfl, rfl⟩
