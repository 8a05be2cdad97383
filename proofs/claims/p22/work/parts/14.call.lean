/-- the two links to a static method of a nest mate -/
def eW (U : State) : Prop := va_Nw (.methodLinkNest RX8 103 yX11_within "WinterToys") U ∧ va_Nw (.methodLinkNest RX0 101 yX11_letterOf "WinterToys") U
theorem eW_blind (a : Array Value) (U : State) (g : JFrame) (mk : MethodId) (h : eW U) : eW (U.calling g mk a) := ⟨va_Nw.same (u := U) rfl rfl h.1, va_Nw.same (u := U) rfl rfl h.2⟩
theorem eW_warm {s U : State} (hW : s.WarmedH U.vm) (h : eW s) : eW U := ⟨va_Nw.warmM hW h.1, va_Nw.warmM hW h.2⟩
theorem eW_of {A : Array Value} {U : State} (h : ∀ w ∈ tables_1, w.before A U = true) : eW U := ⟨va_Nw.of rfl (h _ wn_784), va_Nw.of rfl (h _ wn_1390)⟩
def Con_l (l : Launch) (y : MethodName) (cc : ByteArray) (nL : Nat) (ret : Option FieldType) (rm : Room) (D : va_G) (cI cJ cZ : ClassId) (E : State → Prop) (av : List Value) (ws : va_W) (post : Int64 → va_W → Prop) : Prop :=
  ∀ sz : Nat, Met l y (.code y cc nL ret :: BIG) rm (va_Pc av (cn_B D cI cJ cZ ws sz E)) (va_Ql post (cn_A D cI cJ cZ (va_A ws sz)) (va_A ws sz)) rm.cells rm.slots (va_A ws sz)
theorem rg_map : ∀ w : va_W, (List.range w.length).map (fun i => w[i]?) = w.map some := by
  intro w
  apply List.ext_getElem
  · simp
  · intro i h1 h2
    simp
theorem va_nd_of : ∀ l : List Nat, l.Nodup → va_nd l = true
  | [], _ => rfl
  | a :: l, h => by
    simp only [va_nd, Bool.and_eq_true, decide_eq_true_eq]
    exact ⟨(List.nodup_cons.mp h).1, va_nd_of l (List.nodup_cons.mp h).2⟩
theorem rg_nd (n : Nat) : va_nd (List.range n) = true := va_nd_of _ List.nodup_range
section EntQ
variable {l : Launch} {y : MethodName} {cc : ByteArray} {nL : Nat} {ret : Option FieldType} {rm : Room} {D : va_G} {cI cJ cZ : ClassId} {av : List Value} {ws : va_W}
/-- entry: what is left to show of a body, with the returns as rows -/
theorem eQ_i {post : Int32 → va_W → Prop} (hrt : ret = some .int) (hy : plainName y.cls = true) (hn : (lg_sl av).length ≤ nL) (hrm : rm.cells = 0 ∧ rm.slots = 0)
    (body : ∀ (p : Program) (e : Env) (R : Room) (s : State) (m : MethodId) (args : Array Value) (below : List Frame) (meth : Method) (c : Code) (A : Nat → Prop) (Q : State → Prop), p.tables.exec = Jvm.exec → c.code = cc → c.maxLocals = nL → s.vm.findClass y.cls = some m.cls → (∀ w ∈ BIG, w.before args s = true) → va_K D vwCl (tyK cI cJ cZ) s → eW s → (∀ q, s.heap.size ≤ q → A q) → (rm.frames ≤ R.frames ∧ rm.locals ≤ R.locals) →
      (∀ (H : Heap) (locs : List Loc) (pc : Nat) (ls : Array Slot) (v : Int32) (w : va_W), va_P D vwCl w H → va_D A w → va_S A s.heap H locs → decode cc pc = .ok (.ireturn, 1) → post v w → W p l e R s m args below meth c H locs 0 0 Q (F0 m pc ls [.int v])) →
      va_P D vwCl ws s.heap → va_D A ws → va_S A s.heap s.heap [] → ∀ ls : Array Slot, lv_has ls nL (lv_args 0 av) → W p l e R s m args below meth c s.heap [] 0 0 Q (F0 m 0 ls [])) : Con_i l y cc nL ret rm D cI cJ cZ eW av ws post := by
  refine ent_i hy hn ?_
  intro p e s m below meth c A hx hb hml hown hts hr hlk hnm hK hE hA hP hD hS ls hl
  obtain ⟨h1, h2⟩ := hrm
  subst hrt
  refine body p e rm s m _ below meth c A _ hx hb hml hown hts hK hE hA ⟨Nat.le_refl _, Nat.le_refl _⟩ (fun H locs pc ls v w hP hD hS hdg hp => ?_) hP hD hS ls hl
  rw [h1, h2]
  exact fin_i hx hb hr hlk hK hP hD hS hdg hp
theorem eQ_z {post : Int32 → va_W → Prop} (hrt : ret = some .boolean) (hy : plainName y.cls = true) (hn : (lg_sl av).length ≤ nL) (hrm : rm.cells = 0 ∧ rm.slots = 0)
    (body : ∀ (p : Program) (e : Env) (R : Room) (s : State) (m : MethodId) (args : Array Value) (below : List Frame) (meth : Method) (c : Code) (A : Nat → Prop) (Q : State → Prop), p.tables.exec = Jvm.exec → c.code = cc → c.maxLocals = nL → s.vm.findClass y.cls = some m.cls → (∀ w ∈ BIG, w.before args s = true) → va_K D vwCl (tyK cI cJ cZ) s → eW s → (∀ q, s.heap.size ≤ q → A q) → (rm.frames ≤ R.frames ∧ rm.locals ≤ R.locals) →
      (∀ (H : Heap) (locs : List Loc) (pc : Nat) (ls : Array Slot) (v : Int32) (w : va_W), va_P D vwCl w H → va_D A w → va_S A s.heap H locs → decode cc pc = .ok (.ireturn, 1) → In 0 1 v → post v w → W p l e R s m args below meth c H locs 0 0 Q (F0 m pc ls [.int v])) →
      va_P D vwCl ws s.heap → va_D A ws → va_S A s.heap s.heap [] → ∀ ls : Array Slot, lv_has ls nL (lv_args 0 av) → W p l e R s m args below meth c s.heap [] 0 0 Q (F0 m 0 ls [])) : Con_i l y cc nL ret rm D cI cJ cZ eW av ws post := by
  refine ent_i hy hn ?_
  intro p e s m below meth c A hx hb hml hown hts hr hlk hnm hK hE hA hP hD hS ls hl
  obtain ⟨h1, h2⟩ := hrm
  subst hrt
  refine body p e rm s m _ below meth c A _ hx hb hml hown hts hK hE hA ⟨Nat.le_refl _, Nat.le_refl _⟩ (fun H locs pc ls v w hP hD hS hdg hv hp => ?_) hP hD hS ls hl
  rw [h1, h2]
  exact fin_z hx hb hr hlk hK hP hD hS hdg (nar_z hv) hp
theorem eQ_v {post : va_W → Prop} (hrt : ret = none) (hy : plainName y.cls = true) (hn : (lg_sl av).length ≤ nL) (hrm : rm.cells = 0 ∧ rm.slots = 0)
    (body : ∀ (p : Program) (e : Env) (R : Room) (s : State) (m : MethodId) (args : Array Value) (below : List Frame) (meth : Method) (c : Code) (A : Nat → Prop) (Q : State → Prop), p.tables.exec = Jvm.exec → c.code = cc → c.maxLocals = nL → s.vm.findClass y.cls = some m.cls → (∀ w ∈ BIG, w.before args s = true) → va_K D vwCl (tyK cI cJ cZ) s → eW s → (∀ q, s.heap.size ≤ q → A q) → (rm.frames ≤ R.frames ∧ rm.locals ≤ R.locals) →
      (∀ (H : Heap) (locs : List Loc) (pc : Nat) (ls : Array Slot) (w : va_W), va_P D vwCl w H → va_D A w → va_S A s.heap H locs → decode cc pc = .ok (.return_, 1) → post w → W p l e R s m args below meth c H locs 0 0 Q (F0 m pc ls [])) →
      va_P D vwCl ws s.heap → va_D A ws → va_S A s.heap s.heap [] → ∀ ls : Array Slot, lv_has ls nL (lv_args 0 av) → W p l e R s m args below meth c s.heap [] 0 0 Q (F0 m 0 ls [])) : Con_v l y cc nL ret rm D cI cJ cZ eW av ws post := by
  refine ent_v hy hn ?_
  intro p e s m below meth c A hx hb hml hown hts hr hlk hnm hK hE hA hP hD hS ls hl
  obtain ⟨h1, h2⟩ := hrm
  subst hrt
  refine body p e rm s m _ below meth c A _ hx hb hml hown hts hK hE hA ⟨Nat.le_refl _, Nat.le_refl _⟩ (fun H locs pc ls w hP hD hS hdg hp => ?_) hP hD hS ls hl
  rw [h1, h2]
  exact fin_v hx hb hr hlk hK hP hD hS hdg hp
theorem eQ_l {post : Int64 → va_W → Prop} (hrt : ret = some .long) (hy : plainName y.cls = true) (hn : (lg_sl av).length ≤ nL) (hrm : rm.cells = 0 ∧ rm.slots = 0)
    (body : ∀ (p : Program) (e : Env) (R : Room) (s : State) (m : MethodId) (args : Array Value) (below : List Frame) (meth : Method) (c : Code) (A : Nat → Prop) (Q : State → Prop), p.tables.exec = Jvm.exec → c.code = cc → c.maxLocals = nL → s.vm.findClass y.cls = some m.cls → (∀ w ∈ BIG, w.before args s = true) → va_K D vwCl (tyK cI cJ cZ) s → eW s → (∀ q, s.heap.size ≤ q → A q) → (rm.frames ≤ R.frames ∧ rm.locals ≤ R.locals) →
      (∀ (H : Heap) (locs : List Loc) (pc : Nat) (ls : Array Slot) (v : Int64) (w : va_W), va_P D vwCl w H → va_D A w → va_S A s.heap H locs → decode cc pc = .ok (.lreturn, 1) → post v w → W p l e R s m args below meth c H locs 0 0 Q (F0 m pc ls [.long v])) →
      va_P D vwCl ws s.heap → va_D A ws → va_S A s.heap s.heap [] → ∀ ls : Array Slot, lv_has ls nL (lv_args 0 av) → W p l e R s m args below meth c s.heap [] 0 0 Q (F0 m 0 ls [])) : Con_l l y cc nL ret rm D cI cJ cZ eW av ws post := by
  intro sz
  refine Met.ofW (cc := cc) (maxL := nL) (ret := ret) hy rfl ?_
  intro p e s m args below meth c s₁ B hml hv
  obtain ⟨rfl, hsz, hP, hK, hD0, hE⟩ := hv
  have hts := atoms_spec (ws := .code y cc nL ret :: BIG) B.pre
  subst hsz
  rw [lg_entry_eq]
  obtain ⟨h1, h2⟩ := hrm
  subst hrt
  refine body p e rm s m _ below meth c (va_A ws s.heap.size) _ B.exec B.bytes hml (findClass_of_methodNamed B.named) (fun w h => hts w (List.mem_cons_of_mem _ h)) hK hE (fun q h => Or.inr h) ⟨Nat.le_refl _, Nat.le_refl _⟩ (fun H locs pc ls v w hP hD hS hdg hp => ?_) hP (hD0.self (sz := s.heap.size)) va_S.rf _ (lv_entry av hn)
  rw [h1, h2]
  exact W.lret (v := v) B.exec B.bytes B.returns (fun t ht hW => ⟨⟨v, w, rfl, hp, by rw [ht]; exact hP, va_K.moved hW.alike hK, hD⟩, hS.F ht⟩) hS.2.2 hdg B.notSynchronized
end EntQ
section CallQ
variable {p : Program} {l : Launch} {e : Env} {R : Room} {s : State} {m : MethodId} {args : Array Value} {below : List Frame} {meth : Method} {c : Code} {H : Heap} {locs : List Loc} {Q : State → Prop}
variable {cc : ByteArray} {pc : Nat} {ls : Array Slot} {rest st0 : List Value} {D : va_G} {cI cJ cZ : ClassId} {A : Nat → Prop} {ws : va_W}
variable {y : MethodName} {ccY : ByteArray} {nL nY n index : Nat} {ret : Option FieldType} {rmY : Room} {own C : String} {b : Addr} {As : List Value} {E : State → Prop}
theorem cl_l {post : Int64 → va_W → Prop} {wc wr : va_W} {cells slots : Nat} {a : Array Value} {mc ms : Nat} (hr : va_Run p l e R s m args below meth c H locs cells slots mc ms (F0 m pc ls st0) rest (va_Ql post (cn_A D cI cJ cZ (va_A wc H.size)) (va_A wc H.size) a) (va_A wc H.size)) (hP : va_P D vwCl ws H) (hD : va_D A ws) (hS : va_S A s.heap H locs) (hA : ∀ q, s.heap.size ≤ q → A q) (isC isR : List Nat) (hC : isC.map (fun i => ws[i]?) = wc.map some) (hR : isR.map (fun i => ws[i]?) = wr.map some) (hn : va_nd isR = true) (hdis : ∀ i ∈ isR, i ∉ isC)
    (kk : ∀ (r : Int64) (w1 : va_W) (H1 : Heap) (locs1 : List Loc), post r w1 → va_P D vwCl (wr ++ w1) H1 → va_D A (wr ++ w1) → va_S A s.heap H1 locs1 → W p l e R s m args below meth c H1 locs1 (cells + mc) (slots + ms) Q (F0 m (pc + 3) ls (.long r :: rest))) : W p l e R s m args below meth c H locs cells slots Q (F0 m pc ls st0) := by
  have hFc := va_free (wc := wc) hD hS hA isC hC
  refine va_calll hr hS (fun q _ h => hFc q h) hFc (fun r u t H1 locs1 ht hvm hw hB hz1 hk1 hS1 => ?_)
  obtain ⟨hP1, hK1, hD1⟩ := hB
  rw [ht] at hP1
  obtain ⟨hP2, hD2⟩ := va_join hP hD isC isR hC hR hn hdis hk1 hFc hP1 hD1
  exact kk r u H1 locs1 hw hP2 hD2 hS1
/-- a run in the whole world: what stands behind it -/
theorem kW_i {post : Int32 → va_W → Prop} {a : Array Value} {mc ms : Nat} (hz : mc = 0 ∧ ms = 0) (hP : va_P D vwCl ws H) (hD : va_D A ws) (hS : va_S A s.heap H locs) (hA : ∀ q, s.heap.size ≤ q → A q)
    (hr : va_Run p l e R s m args below meth c H locs 0 0 mc ms (F0 m pc ls st0) rest (va_Qi post (cn_A D cI cJ cZ (va_A ws H.size)) (va_A ws H.size) a) (va_A ws H.size))
    (kk : ∀ (r : Int32) (w1 : va_W) (H1 : Heap) (locs1 : List Loc), post r w1 → va_P D vwCl w1 H1 → va_D A w1 → va_S A s.heap H1 locs1 → W p l e R s m args below meth c H1 locs1 0 0 Q (F0 m (pc + 3) ls (.int r :: rest))) : W p l e R s m args below meth c H locs 0 0 Q (F0 m pc ls st0) := by
  obtain ⟨rfl, rfl⟩ := hz
  exact cl_i (wr := []) hr hP hD hS hA (List.range ws.length) [] (rg_map ws) rfl rfl (by simp) (fun r w1 H1 locs1 h1 h2 h3 h4 => kk r w1 H1 locs1 h1 h2 h3 h4)
theorem kW_v {post : va_W → Prop} {a : Array Value} {mc ms : Nat} (hz : mc = 0 ∧ ms = 0) (hP : va_P D vwCl ws H) (hD : va_D A ws) (hS : va_S A s.heap H locs) (hA : ∀ q, s.heap.size ≤ q → A q)
    (hr : va_Run p l e R s m args below meth c H locs 0 0 mc ms (F0 m pc ls st0) rest (va_Qv post (cn_A D cI cJ cZ (va_A ws H.size)) (va_A ws H.size) a) (va_A ws H.size))
    (kk : ∀ (w1 : va_W) (H1 : Heap) (locs1 : List Loc), post w1 → va_P D vwCl w1 H1 → va_D A w1 → va_S A s.heap H1 locs1 → W p l e R s m args below meth c H1 locs1 0 0 Q (F0 m (pc + 3) ls rest)) : W p l e R s m args below meth c H locs 0 0 Q (F0 m pc ls st0) := by
  obtain ⟨rfl, rfl⟩ := hz
  exact cl_v (wr := []) hr hP hD hS hA (List.range ws.length) [] (rg_map ws) rfl rfl (by simp) (fun w1 H1 locs1 h1 h2 h3 h4 => kk w1 H1 locs1 h1 h2 h3 h4)
theorem kW_l {post : Int64 → va_W → Prop} {a : Array Value} {mc ms : Nat} (hz : mc = 0 ∧ ms = 0) (hP : va_P D vwCl ws H) (hD : va_D A ws) (hS : va_S A s.heap H locs) (hA : ∀ q, s.heap.size ≤ q → A q)
    (hr : va_Run p l e R s m args below meth c H locs 0 0 mc ms (F0 m pc ls st0) rest (va_Ql post (cn_A D cI cJ cZ (va_A ws H.size)) (va_A ws H.size) a) (va_A ws H.size))
    (kk : ∀ (r : Int64) (w1 : va_W) (H1 : Heap) (locs1 : List Loc), post r w1 → va_P D vwCl w1 H1 → va_D A w1 → va_S A s.heap H1 locs1 → W p l e R s m args below meth c H1 locs1 0 0 Q (F0 m (pc + 3) ls (.long r :: rest))) : W p l e R s m args below meth c H locs 0 0 Q (F0 m pc ls st0) := by
  obtain ⟨rfl, rfl⟩ := hz
  exact cl_l (wr := []) hr hP hD hS hA (List.range ws.length) [] (rg_map ws) rfl rfl (by simp) (fun r w1 H1 locs1 h1 h2 h3 h4 => kk r w1 H1 locs1 h1 h2 h3 h4)
variable {Qc : Array Value → State → Outcome → State → Prop} {free : Addr → Prop}
theorem rW_V {mc ms : Nat} (hx : p.tables.exec = Jvm.exec) (hb : c.code = cc) (hml : c.maxLocals = nL) (hown : s.vm.findClass own = some m.cls) (hts : ∀ w ∈ BIG, w.before args s = true) (hK : va_K D vwCl (tyK cI cJ cZ) s) (hE : eW s) (hP : va_P D vwCl ws H) (hD : va_D A ws)
    (hM : Met l y (.code y ccY nY ret :: BIG) rmY (va_Pc (.ref b :: As) (cn_B D cI cJ cZ ws H.size eW)) Qc mc ms free) (hmc : (rmY.cells = mc ∧ rmY.slots = ms) ∧ mc = 0 ∧ ms = 0)
    (sv : GoodIn BIG (wsV own index C y (.code y ccY nY ret :: BIG)) ∧ y.cls = C ∧ sv_d y n) (hR : rmY.frames + 1 ≤ R.frames ∧ 8 + (nY + 11) + rmY.locals ≤ R.locals)
    (q0 ci : Nat) {fs : List Value} {qc : vw_C} (he : ws[q0]? = some (b, .inr (ci, fs))) (hc : vwCl[ci]? = some qc) (hqc : qc.1 = C)
    (hlen : As.length = n) (hsz : ls.size = nL) (hst : st0 = As.reverse ++ .ref b :: rest) (hW8 : (rest.map fun v => v.category).sum ≤ 8) (hdg : decode cc pc = .ok (.invokevirtual index, 3)) :
    va_Run p l e R s m args below meth c H locs 0 0 mc ms (F0 m pc ls st0) rest (Qc (Value.ref b :: As).toArray) free :=
  rn_V hx hb hml hown hts hM hmc.1 sv hR ⟨by rw [hmc.2.1]; exact Nat.zero_le _, by rw [hmc.2.2]; exact Nat.zero_le _⟩ eW_blind (fun _ _ hW => eW_warm hW hE) hK hP hD (List.range ws.length) (rg_map ws) (rg_nd _) q0 ci he hc hqc hlen hsz hst hW8 hdg
theorem rW_S {mc ms : Nat} (hx : p.tables.exec = Jvm.exec) (hb : c.code = cc) (hml : c.maxLocals = nL) (hown : s.vm.findClass own = some m.cls) (hts : ∀ w ∈ BIG, w.before args s = true) (hK : va_K D vwCl (tyK cI cJ cZ) s) (hE : eW s) (hP : va_P D vwCl ws H) (hD : va_D A ws)
    (hM : Met l y (.code y ccY nY ret :: BIG) rmY (va_Pc As (cn_B D cI cJ cZ ws H.size eW)) Qc mc ms free) (hmc : (rmY.cells = mc ∧ rmY.slots = ms) ∧ mc = 0 ∧ ms = 0)
    (sv : (Cond.methodLink own index y ∈ BIG ∧ Cond.static y ∈ BIG ∧ Cond.initialized y.cls ∈ BIG ∧ Cond.code y ccY nY ret ∈ BIG) ∧ sv_d y n) (hR : rmY.frames + 1 ≤ R.frames ∧ 8 + (nY + 11) + rmY.locals ≤ R.locals)
    (hlen : As.length = n) (hsz : ls.size = nL) (hst : st0 = As.reverse ++ rest) (hW8 : (rest.map fun v => v.category).sum ≤ 8) (hdg : decode cc pc = .ok (.invokestatic index, 3)) :
    va_Run p l e R s m args below meth c H locs 0 0 mc ms (F0 m pc ls st0) rest (Qc As.toArray) free :=
  rn_S hx hb hml hown hts hM hmc.1 sv hR ⟨by rw [hmc.2.1]; exact Nat.zero_le _, by rw [hmc.2.2]; exact Nat.zero_le _⟩ eW_blind (fun _ _ hW => eW_warm hW hE) hK hP hD (List.range ws.length) (rg_map ws) (rg_nd _) hlen hsz hst hW8 hdg
theorem rW_N {host : String} {mc ms : Nat} (hx : p.tables.exec = Jvm.exec) (hb : c.code = cc) (hml : c.maxLocals = nL) (hown : s.vm.findClass own = some m.cls) (hts : ∀ w ∈ BIG, w.before args s = true) (hK : va_K D vwCl (tyK cI cJ cZ) s) (hE : eW s) (hP : va_P D vwCl ws H) (hD : va_D A ws)
    (hM : Met l y (.code y ccY nY ret :: BIG) rmY (va_Pc As (cn_B D cI cJ cZ ws H.size eW)) Qc mc ms free) (hmc : (rmY.cells = mc ∧ rmY.slots = ms) ∧ mc = 0 ∧ ms = 0)
    (hl : va_Nw (.methodLinkNest own index y host) s)
    (sv : (Cond.static y ∈ BIG ∧ Cond.initialized y.cls ∈ BIG ∧ Cond.code y ccY nY ret ∈ BIG) ∧ sv_d y n) (hR : rmY.frames + 1 ≤ R.frames ∧ 8 + (nY + 11) + rmY.locals ≤ R.locals)
    (hlen : As.length = n) (hsz : ls.size = nL) (hst : st0 = As.reverse ++ rest) (hW8 : (rest.map fun v => v.category).sum ≤ 8) (hdg : decode cc pc = .ok (.invokestatic index, 3)) :
    va_Run p l e R s m args below meth c H locs 0 0 mc ms (F0 m pc ls st0) rest (Qc As.toArray) free :=
  rn_SN hx hb hml hown hts hM hmc.1 hl sv hR ⟨by rw [hmc.2.1]; exact Nat.zero_le _, by rw [hmc.2.2]; exact Nat.zero_le _⟩ eW_blind (fun _ _ hW => eW_warm hW hE) hK hP hD (List.range ws.length) (rg_map ws) (rg_nd _) hlen hsz hst hW8 hdg
theorem tvW {x v : Int32} (h : x = v) (k : W p l e R s m args below meth c H locs 0 0 Q (F0 m pc ls (.int v :: rest))) : W p l e R s m args below meth c H locs 0 0 Q (F0 m pc ls (.int x :: rest)) := by rw [h]; exact k
end CallQ
