abbrev tyK (cI cJ cZ : ClassId) : List (ClassId × FieldType) := [(cI, .int), (cJ, .long), (cZ, .boolean)]
/-- a method's start: its cells, the classes, what else it is given -/
abbrev cn_B (D : va_G) (cI cJ cZ : ClassId) (ws : va_W) (sz : Nat) (E : State → Prop) (U : State) : Prop := U.heap.size = sz ∧ va_P D vwCl ws U.heap ∧ va_K D vwCl (tyK cI cJ cZ) U ∧ va_D (fun _ => True) ws ∧ E U
/-- its end: the cells that it leaves -/
abbrev cn_A (D : va_G) (cI cJ cZ : ClassId) (A : Nat → Prop) (w : va_W) (t : State) : Prop := va_P D vwCl w t.heap ∧ va_K D vwCl (tyK cI cJ cZ) t ∧ va_D A w
abbrev eT : State → Prop := fun _ => True
def Con_i (l : Launch) (y : MethodName) (cc : ByteArray) (nL : Nat) (ret : Option FieldType) (rm : Room) (D : va_G) (cI cJ cZ : ClassId) (E : State → Prop) (av : List Value) (ws : va_W) (post : Int32 → va_W → Prop) : Prop :=
  ∀ sz : Nat, Met l y (.code y cc nL ret :: BIG) rm (va_Pc av (cn_B D cI cJ cZ ws sz E)) (va_Qi post (cn_A D cI cJ cZ (va_A ws sz)) (va_A ws sz)) rm.cells rm.slots (va_A ws sz)
def Con_v (l : Launch) (y : MethodName) (cc : ByteArray) (nL : Nat) (ret : Option FieldType) (rm : Room) (D : va_G) (cI cJ cZ : ClassId) (E : State → Prop) (av : List Value) (ws : va_W) (post : va_W → Prop) : Prop :=
  ∀ sz : Nat, Met l y (.code y cc nL ret :: BIG) rm (va_Pc av (cn_B D cI cJ cZ ws sz E)) (va_Qv post (cn_A D cI cJ cZ (va_A ws sz)) (va_A ws sz)) rm.cells rm.slots (va_A ws sz)
section BaseEnt
variable {l : Launch} {y : MethodName} {cc : ByteArray} {nL : Nat} {ret : Option FieldType} {rm : Room} {D : va_G} {cI cJ cZ : ClassId} {E : State → Prop} {av : List Value} {ws : va_W}
theorem ent_i {post : Int32 → va_W → Prop} (hy : plainName y.cls = true) (hn : (lg_sl av).length ≤ nL)
    (body : ∀ (p : Program) (e : Env) (s : State) (m : MethodId) (below : List Frame) (meth : Method) (c : Code) (A : Nat → Prop), p.tables.exec = Jvm.exec → c.code = cc → c.maxLocals = nL → s.vm.findClass y.cls = some m.cls → (∀ w ∈ BIG, w.before av.toArray s = true) → meth.sig.returnType = ret → meth.locks = false → meth.name = y.name → va_K D vwCl (tyK cI cJ cZ) s → E s → (∀ q, s.heap.size ≤ q → A q) → va_P D vwCl ws s.heap → va_D A ws → va_S A s.heap s.heap [] → ∀ ls : Array Slot, lv_has ls nL (lv_args 0 av) →
      W p l e rm s m av.toArray below meth c s.heap [] 0 0 (MQ below (va_Qi post (cn_A D cI cJ cZ A) A) av.toArray s rm.cells rm.slots A) (F0 m 0 ls [])) : Con_i l y cc nL ret rm D cI cJ cZ E av ws post := by
  intro sz
  refine Met.ofW (cc := cc) (maxL := nL) (ret := ret) hy rfl ?_
  intro p e s m args below meth c s₁ B hml hv
  obtain ⟨rfl, hsz, hP, hK, hD0, hE⟩ := hv
  have hts := atoms_spec (ws := .code y cc nL ret :: BIG) B.pre
  subst hsz
  rw [lg_entry_eq]
  exact body p e s m below meth c (va_A ws s.heap.size) B.exec B.bytes hml (findClass_of_methodNamed B.named) (fun w h => hts w (List.mem_cons_of_mem _ h)) B.returns B.notSynchronized (name_of_methodNamed B.named B.method).1 hK hE (fun q h => Or.inr h) hP (hD0.self (sz := s.heap.size)) va_S.rf _ (lv_entry av hn)
theorem ent_v {post : va_W → Prop} (hy : plainName y.cls = true) (hn : (lg_sl av).length ≤ nL)
    (body : ∀ (p : Program) (e : Env) (s : State) (m : MethodId) (below : List Frame) (meth : Method) (c : Code) (A : Nat → Prop), p.tables.exec = Jvm.exec → c.code = cc → c.maxLocals = nL → s.vm.findClass y.cls = some m.cls → (∀ w ∈ BIG, w.before av.toArray s = true) → meth.sig.returnType = ret → meth.locks = false → meth.name = y.name → va_K D vwCl (tyK cI cJ cZ) s → E s → (∀ q, s.heap.size ≤ q → A q) → va_P D vwCl ws s.heap → va_D A ws → va_S A s.heap s.heap [] → ∀ ls : Array Slot, lv_has ls nL (lv_args 0 av) →
      W p l e rm s m av.toArray below meth c s.heap [] 0 0 (MQ below (va_Qv post (cn_A D cI cJ cZ A) A) av.toArray s rm.cells rm.slots A) (F0 m 0 ls [])) : Con_v l y cc nL ret rm D cI cJ cZ E av ws post := by
  intro sz
  refine Met.ofW (cc := cc) (maxL := nL) (ret := ret) hy rfl ?_
  intro p e s m args below meth c s₁ B hml hv
  obtain ⟨rfl, hsz, hP, hK, hD0, hE⟩ := hv
  have hts := atoms_spec (ws := .code y cc nL ret :: BIG) B.pre
  subst hsz
  rw [lg_entry_eq]
  exact body p e s m below meth c (va_A ws s.heap.size) B.exec B.bytes hml (findClass_of_methodNamed B.named) (fun w h => hts w (List.mem_cons_of_mem _ h)) B.returns B.notSynchronized (name_of_methodNamed B.named B.method).1 hK hE (fun q h => Or.inr h) hP (hD0.self (sz := s.heap.size)) va_S.rf _ (lv_entry av hn)
end BaseEnt
section BaseRow
variable {p : Program} {l : Launch} {e : Env} {R : Room} {s : State} {m : MethodId} {args : Array Value} {below : List Frame} {meth : Method} {c : Code} {H : Heap} {locs : List Loc} {cells slots : Nat} {Q : State → Prop}
variable {cc : ByteArray} {pc : Nat} {ls : Array Slot} {rest st0 : List Value} {D : va_G} {cI cJ cZ : ClassId} {A : Nat → Prop} {ws wc wr w : va_W}
theorem tov {x v : Int32} (h : x = v) (k : W p l e R s m args below meth c H locs cells slots Q (F0 m pc ls (.int v :: rest))) : W p l e R s m args below meth c H locs cells slots Q (F0 m pc ls (.int x :: rest)) := by rw [h]; exact k
theorem tol {x v : Int64} (h : x = v) (k : W p l e R s m args below meth c H locs cells slots Q (F0 m pc ls (.long v :: rest))) : W p l e R s m args below meth c H locs cells slots Q (F0 m pc ls (.long x :: rest)) := by rw [h]; exact k
theorem fin_i {post : Int32 → va_W → Prop} {v : Int32} {mc ms : Nat} (hx : p.tables.exec = Jvm.exec) (hb : c.code = cc) (hr : meth.sig.returnType = some .int) (hlk : meth.locks = false) (hK : va_K D vwCl (tyK cI cJ cZ) s) (hP : va_P D vwCl w H) (hD : va_D A w) (hS : va_S A s.heap H locs) (hdg : decode cc pc = .ok (.ireturn, 1)) (hp : post v w) :
    W p l e R s m args below meth c H locs mc ms (MQ below (va_Qi post (cn_A D cI cJ cZ A) A) args s mc ms A) (F0 m pc ls [.int v]) :=
  W.iret (v := v) hx hb hr (fun t ht hW => ⟨⟨v, w, rfl, hp, by rw [ht]; exact hP, va_K.moved hW.alike hK, hD⟩, hS.F ht⟩) hS.2.2 hdg hlk
theorem fin_z {post : Int32 → va_W → Prop} {v : Int32} {mc ms : Nat} {ty : FieldType} (hx : p.tables.exec = Jvm.exec) (hb : c.code = cc) (hr : meth.sig.returnType = some ty) (hlk : meth.locks = false) (hK : va_K D vwCl (tyK cI cJ cZ) s) (hP : va_P D vwCl w H) (hD : va_D A w) (hS : va_S A s.heap H locs) (hdg : decode cc pc = .ok (.ireturn, 1)) (hn : narrow ty (.int v) = .int v) (hp : post v w) :
    W p l e R s m args below meth c H locs mc ms (MQ below (va_Qi post (cn_A D cI cJ cZ A) A) args s mc ms A) (F0 m pc ls [.int v]) :=
  W.zret (v := v) hx hb hr hn (fun t ht hW => ⟨⟨v, w, rfl, hp, by rw [ht]; exact hP, va_K.moved hW.alike hK, hD⟩, hS.F ht⟩) hS.2.2 hdg hlk
theorem fin_v {post : va_W → Prop} {mc ms : Nat} (hx : p.tables.exec = Jvm.exec) (hb : c.code = cc) (hr : meth.sig.returnType = none) (hlk : meth.locks = false) (hK : va_K D vwCl (tyK cI cJ cZ) s) (hP : va_P D vwCl w H) (hD : va_D A w) (hS : va_S A s.heap H locs) (hdg : decode cc pc = .ok (.return_, 1)) (hp : post w) :
    W p l e R s m args below meth c H locs mc ms (MQ below (va_Qv post (cn_A D cI cJ cZ A) A) args s mc ms A) (F0 m pc ls []) :=
  W.vret hx hb hr (fun t ht hW => ⟨⟨w, rfl, hp, by rw [ht]; exact hP, va_K.moved hW.alike hK, hD⟩, hS.F ht⟩) hS.2.2 hdg hlk
theorem pick_of {is : List Nat} (h : is.map (fun i => ws[i]?) = wc.map some) : is.filterMap (fun i => ws[i]?) = wc := by
  have h1 : (is.map (fun i => ws[i]?)).filterMap id = wc := by rw [h, List.filterMap_map]; exact List.filterMap_some
  rw [List.filterMap_map] at h1
  exact h1
theorem blind_B {E : State → Prop} {av : List Value} {sz : Nat} (hE : ∀ (a : Array Value) (U : State) (g : JFrame) (mk : MethodId), E U → E (U.calling g mk a)) : FrameBlind (va_Pc av (cn_B D cI cJ cZ wc sz E)) := by
  intro a U g mk q
  obtain ⟨q0, q1, qP, qK, qD, qE⟩ := q
  exact ⟨q0, q1, qP, va_K.moved (u := U) (U := U.calling g mk a) (Vm.Alike.refl U.vm) qK, qD, hE a U g mk qE⟩
/-- behind a call that answers an int -/
theorem cl_i {post : Int32 → va_W → Prop} {a : Array Value} {mc ms : Nat} (hr : va_Run p l e R s m args below meth c H locs cells slots mc ms (F0 m pc ls st0) rest (va_Qi post (cn_A D cI cJ cZ (va_A wc H.size)) (va_A wc H.size) a) (va_A wc H.size)) (hP : va_P D vwCl ws H) (hD : va_D A ws) (hS : va_S A s.heap H locs) (hA : ∀ q, s.heap.size ≤ q → A q) (isC isR : List Nat) (hC : isC.map (fun i => ws[i]?) = wc.map some) (hR : isR.map (fun i => ws[i]?) = wr.map some) (hn : va_nd isR = true) (hdis : ∀ i ∈ isR, i ∉ isC)
    (kk : ∀ (r : Int32) (w1 : va_W) (H1 : Heap) (locs1 : List Loc), post r w1 → va_P D vwCl (wr ++ w1) H1 → va_D A (wr ++ w1) → va_S A s.heap H1 locs1 → W p l e R s m args below meth c H1 locs1 (cells + mc) (slots + ms) Q (F0 m (pc + 3) ls (.int r :: rest))) : W p l e R s m args below meth c H locs cells slots Q (F0 m pc ls st0) := by
  have hFc := va_free (wc := wc) hD hS hA isC hC
  refine va_calli hr hS (fun q _ h => hFc q h) hFc (fun r u t H1 locs1 ht hvm hw hB hz1 hk1 hS1 => ?_)
  obtain ⟨hP1, hK1, hD1⟩ := hB
  rw [ht] at hP1
  obtain ⟨hP2, hD2⟩ := va_join hP hD isC isR hC hR hn hdis hk1 hFc hP1 hD1
  exact kk r u H1 locs1 hw hP2 hD2 hS1
theorem cl_v {post : va_W → Prop} {a : Array Value} {mc ms : Nat} (hr : va_Run p l e R s m args below meth c H locs cells slots mc ms (F0 m pc ls st0) rest (va_Qv post (cn_A D cI cJ cZ (va_A wc H.size)) (va_A wc H.size) a) (va_A wc H.size)) (hP : va_P D vwCl ws H) (hD : va_D A ws) (hS : va_S A s.heap H locs) (hA : ∀ q, s.heap.size ≤ q → A q) (isC isR : List Nat) (hC : isC.map (fun i => ws[i]?) = wc.map some) (hR : isR.map (fun i => ws[i]?) = wr.map some) (hn : va_nd isR = true) (hdis : ∀ i ∈ isR, i ∉ isC)
    (kk : ∀ (w1 : va_W) (H1 : Heap) (locs1 : List Loc), post w1 → va_P D vwCl (wr ++ w1) H1 → va_D A (wr ++ w1) → va_S A s.heap H1 locs1 → W p l e R s m args below meth c H1 locs1 (cells + mc) (slots + ms) Q (F0 m (pc + 3) ls rest)) : W p l e R s m args below meth c H locs cells slots Q (F0 m pc ls st0) := by
  have hFc := va_free (wc := wc) hD hS hA isC hC
  refine va_callv hr hS (fun q _ h => hFc q h) hFc (fun u t H1 locs1 ht hvm hw hB hz1 hk1 hS1 => ?_)
  obtain ⟨hP1, hK1, hD1⟩ := hB
  rw [ht] at hP1
  obtain ⟨hP2, hD2⟩ := va_join hP hD isC isR hC hR hn hdis hk1 hFc hP1 hD1
  exact kk u H1 locs1 hw hP2 hD2 hS1
abbrev sv_d (y : MethodName) (n : Nat) : Prop := y.cls ≠ "java/lang/invoke/MethodHandle" ∧ y.cls ≠ "java/lang/invoke/VarHandle" ∧ (parseMethodDescriptor y.desc).map (fun d => d.parameters.length) = some n
variable {y : MethodName} {ccY : ByteArray} {nL nY n index : Nat} {ret : Option FieldType} {rmY : Room} {Qc : Array Value → State → Outcome → State → Prop} {free : Addr → Prop} {own C : String} {b : Addr} {As : List Value} {E : State → Prop}
theorem good_V {h1 : Cond.methodLink own index y ∈ BIG} {h2 : Cond.instanceMethod y ∈ BIG} {h3 : Cond.selects C y y ∈ BIG} {h4 : Cond.initialized C ∈ BIG} (h5 : Cond.code y ccY nY ret ∈ BIG) : GoodIn BIG (wsV own index C y (.code y ccY nY ret :: BIG)) := by
  refine big_good (fun w hw => ?_)
  unfold wsV at hw
  simp only [List.mem_append, List.mem_cons, List.not_mem_nil, or_false] at hw
  rcases hw with (rfl | rfl | rfl | rfl) | rfl | hw
  · exact h1
  · exact h2
  · exact h3
  · exact h4
  · exact h5
  · exact hw
theorem good_S {h1 : Cond.methodLink own index y ∈ BIG} {h2 : Cond.static y ∈ BIG} {h4 : Cond.initialized own ∈ BIG} (h5 : Cond.code y ccY nY ret ∈ BIG) : GoodIn BIG (wsS own index y (.code y ccY nY ret :: BIG)) := by
  refine big_good (fun w hw => ?_)
  unfold wsS at hw
  simp only [List.mem_append, List.mem_cons, List.not_mem_nil, or_false] at hw
  rcases hw with (rfl | rfl | rfl) | rfl | hw
  · exact h1
  · exact h2
  · exact h4
  · exact h5
  · exact hw
theorem good_C (h5 : Cond.code y ccY nY ret ∈ BIG) : GoodIn BIG (.code y ccY nY ret :: BIG) := big_good (fun w hw => by
  rcases List.mem_cons.mp hw with rfl | hw
  · exact h5
  · exact hw)
/-- a virtual call's run -/
theorem rn_V {mc ms : Nat} (hx : p.tables.exec = Jvm.exec) (hb : c.code = cc) (hml : c.maxLocals = nL) (hown : s.vm.findClass own = some m.cls) (hts : ∀ w ∈ BIG, w.before args s = true)
    (hM : Met l y (.code y ccY nY ret :: BIG) rmY (va_Pc (.ref b :: As) (cn_B D cI cJ cZ wc H.size E)) Qc mc ms free) (hmc : rmY.cells = mc ∧ rmY.slots = ms)
    (sv : GoodIn BIG (wsV own index C y (.code y ccY nY ret :: BIG)) ∧ y.cls = C ∧ sv_d y n) (hR : rmY.frames + 1 ≤ R.frames ∧ 8 + (nY + 11) + rmY.locals ≤ R.locals) (hf : cells + mc ≤ R.cells ∧ slots + ms ≤ R.slots)
    (hE0 : ∀ (a : Array Value) (U : State) (g : JFrame) (mk : MethodId), E U → E (U.calling g mk a)) (hE : ∀ U : State, U.heap = H → s.WarmedH U.vm → E U)
    (hK : va_K D vwCl (tyK cI cJ cZ) s) (hP : va_P D vwCl ws H) (hD : va_D A ws) (isC : List Nat) (hC : isC.map (fun i => ws[i]?) = wc.map some) (hnC : va_nd isC = true) (q0 ci : Nat) {fs : List Value} {qc : vw_C} (he : wc[q0]? = some (b, .inr (ci, fs))) (hc : vwCl[ci]? = some qc) (hqc : qc.1 = C)
    (hlen : As.length = n) (hsz : ls.size = nL) (hst : st0 = As.reverse ++ .ref b :: rest) (hW8 : (rest.map fun v => v.category).sum ≤ 8) (hdg : decode cc pc = .ok (.invokevirtual index, 3)) :
    va_Run p l e R s m args below meth c H locs cells slots mc ms (F0 m pc ls st0) rest (Qc (Value.ref b :: As).toArray) free := by
  have hPc : va_P D vwCl wc H := hP.sub isC (pick_of hC)
  have hDc : va_D A wc := hD.sub isC hnC hC
  subst hqc
  exact va_runV (As := As) (rest := rest) ⟨hx, hb, hml, hown, hts⟩ hM (cwV n hts sv.1 rfl hmc.1 hmc.2 sv.2 hR) ⟨blind_B hE0, va_recv hK hPc hc he, fun U hU hW => ⟨rfl, by rw [hU], by rw [hU]; exact hPc, va_K.moved hW.alike hK, hDc.weaken (fun _ _ _ _ => trivial), hE U hU hW⟩⟩ rfl hlen hsz hst (lv_room hW8) hdg hf
/-- a static call's run -/
theorem rn_S {mc ms : Nat} (hx : p.tables.exec = Jvm.exec) (hb : c.code = cc) (hml : c.maxLocals = nL) (hown : s.vm.findClass own = some m.cls) (hts : ∀ w ∈ BIG, w.before args s = true)
    (hM : Met l y (.code y ccY nY ret :: BIG) rmY (va_Pc As (cn_B D cI cJ cZ wc H.size E)) Qc mc ms free) (hmc : rmY.cells = mc ∧ rmY.slots = ms)
    (sv : (Cond.methodLink own index y ∈ BIG ∧ Cond.static y ∈ BIG ∧ Cond.initialized y.cls ∈ BIG ∧ Cond.code y ccY nY ret ∈ BIG) ∧ sv_d y n) (hR : rmY.frames + 1 ≤ R.frames ∧ 8 + (nY + 11) + rmY.locals ≤ R.locals) (hf : cells + mc ≤ R.cells ∧ slots + ms ≤ R.slots)
    (hE0 : ∀ (a : Array Value) (U : State) (g : JFrame) (mk : MethodId), E U → E (U.calling g mk a)) (hE : ∀ U : State, U.heap = H → s.WarmedH U.vm → E U)
    (hK : va_K D vwCl (tyK cI cJ cZ) s) (hP : va_P D vwCl ws H) (hD : va_D A ws) (isC : List Nat) (hC : isC.map (fun i => ws[i]?) = wc.map some) (hnC : va_nd isC = true)
    (hlen : As.length = n) (hsz : ls.size = nL) (hst : st0 = As.reverse ++ rest) (hW8 : (rest.map fun v => v.category).sum ≤ 8) (hdg : decode cc pc = .ok (.invokestatic index, 3)) :
    va_Run p l e R s m args below meth c H locs cells slots mc ms (F0 m pc ls st0) rest (Qc As.toArray) free := by
  have hPc : va_P D vwCl wc H := hP.sub isC (pick_of hC)
  have hDc : va_D A wc := hD.sub isC hnC hC
  exact va_runS (As := As) (rest := rest) ⟨hx, hb, hml, hown, hts⟩ hM ⟨callB_of n hts (good_C sv.1.2.2.2) rfl hmc.1 hmc.2 (hts _ sv.1.2.2.1) (hts _ sv.1.1) sv.2 hR, hts _ sv.1.2.1⟩ ⟨blind_B hE0, fun U hU hW => ⟨rfl, by rw [hU], by rw [hU]; exact hPc, va_K.moved hW.alike hK, hDc.weaken (fun _ _ _ _ => trivial), hE U hU hW⟩⟩ rfl hlen hsz hst (lv_room hW8) hdg hf
/-- a constructor's run -/
theorem rn_I {mc ms : Nat} (hx : p.tables.exec = Jvm.exec) (hb : c.code = cc) (hml : c.maxLocals = nL) (hown : s.vm.findClass own = some m.cls) (hts : ∀ w ∈ BIG, w.before args s = true)
    (hM : Met l y (.code y ccY nY none :: BIG) rmY (va_Pc (.ref b :: As) (cn_B D cI cJ cZ wc H.size E)) Qc mc ms free) (hmc : rmY.cells = mc ∧ rmY.slots = ms)
    (sv : (Cond.methodLink own index y ∈ BIG ∧ Cond.instanceMethod y ∈ BIG ∧ Cond.initialized y.cls ∈ BIG ∧ Cond.code y ccY nY none ∈ BIG) ∧ y.name = "<init>" ∧ sv_d y n) (hR : rmY.frames + 1 ≤ R.frames ∧ 8 + (nY + 11) + rmY.locals ≤ R.locals) (hf : cells + mc ≤ R.cells ∧ slots + ms ≤ R.slots)
    (hE0 : ∀ (a : Array Value) (U : State) (g : JFrame) (mk : MethodId), E U → E (U.calling g mk a)) (hE : ∀ U : State, U.heap = H → s.WarmedH U.vm → E U)
    (hK : va_K D vwCl (tyK cI cJ cZ) s) (hP : va_P D vwCl ws H) (hD : va_D A ws) (isC : List Nat) (hC : isC.map (fun i => ws[i]?) = wc.map some) (hnC : va_nd isC = true)
    (hlen : As.length = n) (hsz : ls.size = nL) (hst : st0 = As.reverse ++ .ref b :: rest) (hW8 : (rest.map fun v => v.category).sum ≤ 8) (hdg : decode cc pc = .ok (.invokespecial index, 3)) :
    va_Run p l e R s m args below meth c H locs cells slots mc ms (F0 m pc ls st0) rest (Qc (Value.ref b :: As).toArray) free := by
  have hPc : va_P D vwCl wc H := hP.sub isC (pick_of hC)
  have hDc : va_D A wc := hD.sub isC hnC hC
  exact va_runI (As := As) (rest := rest) ⟨hx, hb, hml, hown, hts⟩ hM (cwI n hts (good_C sv.1.2.2.2) rfl hmc.1 hmc.2 (hts _ sv.1.2.2.1) (hts _ sv.1.1) (hts _ sv.1.2.1) sv.2.1 sv.2.2 hR) ⟨blind_B hE0, fun U hU hW => ⟨rfl, by rw [hU], by rw [hU]; exact hPc, va_K.moved hW.alike hK, hDc.weaken (fun _ _ _ _ => trivial), hE U hU hW⟩⟩ rfl hlen hsz hst (lv_room hW8) hdg hf
/-- a nest mate's constructor's run -/
theorem rn_IN {host : String} {mc ms : Nat} (hx : p.tables.exec = Jvm.exec) (hb : c.code = cc) (hml : c.maxLocals = nL) (hown : s.vm.findClass own = some m.cls) (hts : ∀ w ∈ BIG, w.before args s = true)
    (hM : Met l y (.code y ccY nY none :: BIG) rmY (va_Pc (.ref b :: As) (cn_B D cI cJ cZ wc H.size E)) Qc mc ms free) (hmc : rmY.cells = mc ∧ rmY.slots = ms)
    (hl : va_Nw (.methodLinkNest own index y host) s)
    (sv : (Cond.instanceMethod y ∈ BIG ∧ Cond.initialized y.cls ∈ BIG ∧ Cond.code y ccY nY none ∈ BIG) ∧ y.name = "<init>" ∧ sv_d y n) (hR : rmY.frames + 1 ≤ R.frames ∧ 8 + (nY + 11) + rmY.locals ≤ R.locals) (hf : cells + mc ≤ R.cells ∧ slots + ms ≤ R.slots)
    (hE0 : ∀ (a : Array Value) (U : State) (g : JFrame) (mk : MethodId), E U → E (U.calling g mk a)) (hE : ∀ U : State, U.heap = H → s.WarmedH U.vm → E U)
    (hK : va_K D vwCl (tyK cI cJ cZ) s) (hP : va_P D vwCl ws H) (hD : va_D A ws) (isC : List Nat) (hC : isC.map (fun i => ws[i]?) = wc.map some) (hnC : va_nd isC = true)
    (hlen : As.length = n) (hsz : ls.size = nL) (hst : st0 = As.reverse ++ .ref b :: rest) (hW8 : (rest.map fun v => v.category).sum ≤ 8) (hdg : decode cc pc = .ok (.invokespecial index, 3)) :
    va_Run p l e R s m args below meth c H locs cells slots mc ms (F0 m pc ls st0) rest (Qc (Value.ref b :: As).toArray) free := by
  have hPc : va_P D vwCl wc H := hP.sub isC (pick_of hC)
  have hDc : va_D A wc := hD.sub isC hnC hC
  exact va_runIN (As := As) (rest := rest) ⟨hx, hb, hml, hown, hts⟩ hM ⟨va_cnB n hts (good_C sv.1.2.2) rfl hmc.1 hmc.2 hl (hts _ sv.1.2.1) sv.2.2 hR, sv.2.1, hts _ sv.1.1⟩ ⟨blind_B hE0, fun U hU hW => ⟨rfl, by rw [hU], by rw [hU]; exact hPc, va_K.moved hW.alike hK, hDc.weaken (fun _ _ _ _ => trivial), hE U hU hW⟩⟩ rfl hlen hsz hst (lv_room hW8) hdg hf
end BaseRow
theorem gs_ne {fs : List Value} {k j : Nat} {x v : Value} (h : k ≠ j) (hh : fs[j]? = some v) : (fs.set k x)[j]? = some v := by rw [List.getElem?_set_ne h]; exact hh
theorem gs_eq {fs : List Value} {k : Nat} {x : Value} (h : k < fs.length) : (fs.set k x)[k]? = some x := by rw [List.getElem?_set_self h]
theorem ln_set {fs : List Value} {k N : Nat} {x : Value} (h : fs.length = N) : (fs.set k x).length = N := by rw [List.length_set]; exact h
theorem ln_lt {fs : List Value} {k N : Nat} (h : fs.length = N) (hk : k < N) : k < fs.length := by rw [h]; exact hk
