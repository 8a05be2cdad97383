/-! THE CLAIM OUT OF ONE WALK OF THE LAW'S BODY. Your part is whole_start (and what it stands on); all else here is the same for every law, but numbers. -/
def R_law : String := "WinterToysLaw"
def lw_P (b : Addr) (xs : List Int32) (args : Array Value) (s : State) : Prop := args = #[.ref b] ∧ s.IntsAt b xs ∧ xs.length ≤ 3072 ∧ (Jvm.Cond.and given_1 narrow_1).before args s = true
def lw_Q (_ : Array Value) (s : State) (o : Outcome) (t : State) : Prop := o = .returned (some (.int 1)) ∧ Framed s o t [] 600000 7302250
def lw_Z (below : List Frame) (a : Array Value) (s : State) : State → Prop := fun t => ∃ o, t.status = .running ∧ Ended t below o ∧ lw_Q a s o t
/-- the law's own end, with 1 on the stack, nothing written that was there before, its room as the claim has it -/
theorem lw_ret {p : Program} {l : Launch} {e : Env} {s : State} {m : MethodId} {below : List Frame} {meth : Method} {c : Code} {b : Nat} (hx : p.tables.exec = Jvm.exec) (hb : c.code = code) (hr : meth.sig.returnType = ret) (hlocks : meth.locks = false) {pc : Nat} {H : Heap} {ls : Array Slot} (hdg : decode code pc = .ok (.ireturn, 1)) : W p l e room_1 s m #[Value.ref b] below meth c H [] 600000 7302250 (lw_Z below #[Value.ref b] s) (F0 m pc ls [.int 1]) := by
  intro T hT X
  obtain ⟨fs, hret, hrun, hended, hW, hframe⟩ := X.leave (v := some (.int 1)) (hlocks := hlocks) (fun h => by rw [hr] at h; cases h)
  have hmeth' : T.vm.method? m = some meth := X.method'
  refine ⟨T.setFrames fs, ?_, .returned (some (.int 1)), hrun, hended, rfl, ⟨_, rfl⟩, hW, hframe⟩
  jvm_step X.here [X.here.top, hx, hb, hdg, hmeth', hr, ret, narrow_b1]
  (try refine ⟨rfl, ?_⟩); (try refine ⟨rfl, ?_⟩)
  first | (intro acts; rw [hret _ acts rfl rfl rfl]) | rw [hret _ _ rfl rfl rfl]
  exact Steps.refl _
/-- what holds at the law's entry: the machine, the code, the tables' words (any of lw_tbl by 'hts w (by decide +kernel)'), the script of L ints xs at the cell b, what the Statement gives of the start (any of its parts by flat_of_before) -/
def lw_At (p : Program) (s : State) (m : MethodId) (meth : Method) (c : Code) (b L : Nat) (xs : Nat → Int32) : Prop :=
  p.tables.exec = Jvm.exec ∧ c.code = code ∧ meth.sig.returnType = ret ∧ c.maxLocals = 4 ∧ s.vm.findClass R_law = some m.cls ∧ (∀ w ∈ lw_tbl, w.before #[Value.ref b] s = true) ∧ va_X b L xs s s.heap ∧ b < s.heap.size ∧ meth.locks = false ∧ (Jvm.Cond.and given_1 narrow_1).before #[Value.ref b] s = true
section LawBase
theorem rgm {α : Type} (w : List α) : (List.range w.length).map (fun i => w[i]?) = w.map some := by
  apply List.ext_getElem
  · simp
  · intro i h1 h2
    simp
theorem mapL {wc wr : va_W} : (List.range wc.length).map (fun i => (wc ++ wr)[i]?) = wc.map some := by
  rw [← rgm wc]
  apply List.map_congr_left
  intro i hi
  rw [List.mem_range] at hi
  exact List.getElem?_append_left hi
theorem mapR {wc wr : va_W} : (List.range' wc.length wr.length).map (fun i => (wc ++ wr)[i]?) = wr.map some := by
  rw [List.range'_eq_map_range, List.map_map, ← rgm wr]
  apply List.map_congr_left
  intro i _
  show (wc ++ wr)[wc.length + i]? = wr[i]?
  rw [List.getElem?_append_right (Nat.le_add_right _ _), Nat.add_sub_cancel_left]
variable {p : Program} {l : Launch} {e : Env} {R : Room} {s : State} {m : MethodId} {args : Array Value} {below : List Frame} {meth : Method} {c : Code} {H : Heap} {locs : List Loc} {Q : State → Prop} {cells slots : Nat}
variable {cc : ByteArray} {pc : Nat} {ls : Array Slot} {rest st0 : List Value} {D : va_G} {cI cJ cZ : ClassId} {A : Nat → Prop} {wc wr : va_W}
variable {y : MethodName} {ccY : ByteArray} {nL nY n index : Nat} {ret : Option FieldType} {rmY : Room} {own C : String} {b : Addr} {As : List Value}
/-- a call over the left part of the world: what stands behind it, the other part first -/
theorem kL_i {post : Int32 → va_W → Prop} {a : Array Value} {mc ms : Nat} (hz : mc = 0 ∧ ms = 0) (hP : va_P D vwCl (wc ++ wr) H) (hD : va_D A (wc ++ wr)) (hS : va_S A s.heap H locs) (hA : ∀ q, s.heap.size ≤ q → A q)
    (hr : va_Run p l e R s m args below meth c H locs cells slots mc ms (F0 m pc ls st0) rest (va_Qi post (cn_A D cI cJ cZ (va_A wc H.size)) (va_A wc H.size) a) (va_A wc H.size))
    (kk : ∀ (r : Int32) (w1 : va_W) (H1 : Heap) (locs1 : List Loc), post r w1 → va_P D vwCl (wr ++ w1) H1 → va_D A (wr ++ w1) → va_S A s.heap H1 locs1 → W p l e R s m args below meth c H1 locs1 cells slots Q (F0 m (pc + 3) ls (.int r :: rest))) : W p l e R s m args below meth c H locs cells slots Q (F0 m pc ls st0) := by
  obtain ⟨rfl, rfl⟩ := hz
  exact cl_i (wc := wc) (wr := wr) hr hP hD hS hA (List.range wc.length) (List.range' wc.length wr.length) mapL mapR (va_nd_of _ (List.nodup_range')) (fun i h1 h2 => by rw [List.mem_range'_1] at h1; rw [List.mem_range] at h2; omega) (fun r w1 H1 locs1 h1 h2 h3 h4 => kk r w1 H1 locs1 h1 h2 h3 h4)
variable {Qc : Array Value → State → Outcome → State → Prop} {free : Addr → Prop}
theorem rL_V {mc ms : Nat} (hx : p.tables.exec = Jvm.exec) (hb : c.code = cc) (hml : c.maxLocals = nL) (hown : s.vm.findClass own = some m.cls) (hts : ∀ w ∈ BIG, w.before args s = true) (hK : va_K D vwCl (tyK cI cJ cZ) s) (hE : eW s) (hP : va_P D vwCl (wc ++ wr) H) (hD : va_D A (wc ++ wr))
    (hM : Met l y (.code y ccY nY ret :: BIG) rmY (va_Pc (.ref b :: As) (cn_B D cI cJ cZ wc H.size eW)) Qc mc ms free) (hmc : (rmY.cells = mc ∧ rmY.slots = ms) ∧ mc = 0 ∧ ms = 0)
    (sv : GoodIn BIG (wsV own index C y (.code y ccY nY ret :: BIG)) ∧ y.cls = C ∧ sv_d y n) (hR : rmY.frames + 1 ≤ R.frames ∧ 8 + (nY + 11) + rmY.locals ≤ R.locals) (hcs : cells ≤ R.cells ∧ slots ≤ R.slots)
    (q0 ci : Nat) {fs : List Value} {qc : vw_C} (he : wc[q0]? = some (b, .inr (ci, fs))) (hc : vwCl[ci]? = some qc) (hqc : qc.1 = C)
    (hlen : As.length = n) (hsz : ls.size = nL) (hst : st0 = As.reverse ++ .ref b :: rest) (hW8 : (rest.map fun v => v.category).sum ≤ 8) (hdg : decode cc pc = .ok (.invokevirtual index, 3)) :
    va_Run p l e R s m args below meth c H locs cells slots mc ms (F0 m pc ls st0) rest (Qc (Value.ref b :: As).toArray) free :=
  rn_V hx hb hml hown hts hM hmc.1 sv hR ⟨by rw [hmc.2.1]; exact hcs.1, by rw [hmc.2.2]; exact hcs.2⟩ eW_blind (fun _ _ hW => eW_warm hW hE) hK hP hD (List.range wc.length) mapL (rg_nd _) q0 ci he hc hqc hlen hsz hst hW8 hdg
end LawBase
/-! what holds between two calls -/
def IX (q : Nat → Nat) (cI cJ cZ : ClassId) (b : Int) (w : va_W) : Prop := (∃ bp : Nat, HT q (TX q cI cJ cZ 1 16 bp) w) ∧ LD w ∧ SB b w
def IM (q : Nat → Nat) (cI cJ cZ : ClassId) (w : va_W) : Prop := HT q (TM q cI cJ cZ) w ∧ LM w ∧ LY w ∧ RV w
theorem LY_r {w w1 : va_W} (h1 : aF w1 21 = aF w 21) (h2 : aF w1 22 = aF w 22) (h : fI w1 0 37 = 0 ∨ fI w1 0 37 = fI w 0 37) (hL : LY w) : LY w1 := by
  rcases h with h | h
  · intro a ha hle
    have z : (0 : Int32).toInt = 0 := by decide
    rw [h] at hle
    unfold In at ha
    omega
  · exact LY_cg h1 h2 h hL
theorem fd_eq {a b a1 b1 r t : Int32} (e : a = b) (hx : (a.toInt + 20 ≤ 1000 → r.toInt = a.toInt + 20 ∧ a1.toInt = a.toInt + 20) ∧ (¬ a.toInt + 20 ≤ 1000 → r = -1 ∧ a1 = a)) (hm : (b.toInt + 20 ≤ 1000 → t.toInt = b.toInt + 20 ∧ b1.toInt = b.toInt + 20) ∧ (¬ b.toInt + 20 ≤ 1000 → t = -1 ∧ b1 = b)) : r = t ∧ a1 = b1 := by
  subst e
  by_cases q : a.toInt + 20 ≤ 1000
  · have x := hx.1 q
    have y := hm.1 q
    rw [q_eq, q_eq]
    omega
  · have x := hx.2 q
    have y := hm.2 q
    rw [x.1, x.2, y.1, y.2]
    exact ⟨rfl, rfl⟩
theorem en_eq {a b a1 b1 r t p : Int32} (e : a = b) (hx : (0 ≤ p.toInt ∧ p.toInt ≤ a.toInt → r = 1 ∧ a1 = p) ∧ (¬ (0 ≤ p.toInt ∧ p.toInt ≤ a.toInt) → r = 0 ∧ a1 = a)) (hm : (0 ≤ p.toInt ∧ p.toInt ≤ b.toInt → t = 1 ∧ b1 = p) ∧ (¬ (0 ≤ p.toInt ∧ p.toInt ≤ b.toInt) → t = 0 ∧ b1 = b)) : r = t ∧ a1 = b1 := by
  subst e
  by_cases q : 0 ≤ p.toInt ∧ p.toInt ≤ a.toInt
  · have x := hx.1 q
    have y := hm.1 q
    rw [x.1, x.2, y.1, y.2]
    exact ⟨rfl, rfl⟩
  · have x := hx.2 q
    have y := hm.2 q
    rw [x.1, x.2, y.1, y.2]
    exact ⟨rfl, rfl⟩
/-! the two books change places -/
def sgm (k : Nat) : Nat := match (Nat.ble 1 k && Nat.ble k 15) with
  | true => k + 15
  | false => match (Nat.ble 16 k && Nat.ble k 30) with
    | true => k - 15
    | false => k
def sg (q : Nat → Nat) (k : Nat) : Nat := q (sgm k)
def prm {α : Type} (l : List α) : List α := l.take 1 ++ ((l.drop 16).take 15 ++ ((l.drop 1).take 15 ++ l.drop 31))
theorem prm_map {α β : Type} (f : α → β) (l : List α) : prm (l.map f) = (prm l).map f := by
  unfold prm
  simp only [List.map_append, List.map_take, List.map_drop]
set_option maxRecDepth 100000 in
theorem prm_rg : ∀ k, k < 110 → (prm (List.range 110))[k]? = some (sgm k) := by decide +kernel
theorem prm_len : (prm (List.range 110)).length = 110 := by decide +kernel
theorem prm_lt : ∀ a ∈ prm (List.range 110), a < 110 := by decide +kernel
set_option maxRecDepth 100000 in
theorem prm_nd : (prm (List.range 110)).Nodup := by decide +kernel
theorem prm_some {α : Type} {l : List α} (h : l.length = 110) : (prm l).map some = (prm (List.range 110)).map (fun i => l[i]?) := by
  rw [← prm_map, ← prm_map, ← h, rgm l]
theorem prm_length {α : Type} {l : List α} (h : l.length = 110) : (prm l).length = 110 := by
  have q := congrArg List.length (prm_some h)
  rw [List.length_map, List.length_map, prm_len] at q
  exact q
theorem prm_get {α : Type} {l : List α} (h : l.length = 110) {k : Nat} (hk : k < 110) : (prm l)[k]? = l[sgm k]? := by
  have q := congrArg (fun z => z[k]?) (prm_some h)
  have q2 : ((prm l).map some)[k]? = ((prm (List.range 110)).map (fun i => l[i]?))[k]? := q
  rw [List.getElem?_map, List.getElem?_map, prm_rg k hk] at q2
  cases hx : (prm l)[k]? with
  | none =>
    rw [hx] at q2
    cases q2
  | some x =>
    rw [hx] at q2
    exact Option.some.inj q2
theorem HT_prm {q : Nat → Nat} {tab : List (va_E → Prop)} {w : va_W} (ht : tab.length = 110) (h : HT q tab w) : HT (sg q) (prm tab) (prm w) := by
  have hw : w.length = 110 := h.1.trans ht
  refine ⟨by rw [prm_length ht, prm_length hw], fun k P hP => ?_⟩
  have hk : k < 110 := by
    have := (List.getElem?_eq_some_iff.mp hP).1
    rw [prm_length ht] at this
    exact this
  rw [prm_get ht hk] at hP
  rw [prm_get hw hk]
  exact h.2 (sgm k) P hP
set_option maxRecDepth 100000 in
theorem TX_prm (q : Nat → Nat) (cI cJ cZ : ClassId) : prm (TX q cI cJ cZ 16 1 16) = TX (sg q) cI cJ cZ 1 16 1 := rfl
theorem TX_len (q : Nat → Nat) (cI cJ cZ : ClassId) (a b c : Nat) : (TX q cI cJ cZ a b c).length = 110 := rfl
theorem pw_prm {D : va_G} {H : Heap} {A : Nat → Prop} {w wm : va_W} (h : w.length = 110) (hP : va_P D vwCl (w ++ wm) H) (hD : va_D A (w ++ wm)) : va_P D vwCl (prm w ++ wm) H ∧ va_D A (prm w ++ wm) := by
  have hC : (prm (List.range 110) ++ List.range' 110 wm.length).map (fun i => (w ++ wm)[i]?) = (prm w ++ wm).map some := by
    have e1 : (List.range 110).map (fun i => (w ++ wm)[i]?) = w.map some := by
      rw [← h]
      exact mapL
    have e2 : (List.range' 110 wm.length).map (fun i => (w ++ wm)[i]?) = wm.map some := by
      rw [← h]
      exact mapR
    rw [List.map_append, List.map_append, e2, ← prm_map, e1, prm_map]
  have hn : va_nd (prm (List.range 110) ++ List.range' 110 wm.length) = true := va_nd_of _ (List.nodup_append.mpr ⟨prm_nd, List.nodup_range', fun a ha b hb => by
    have h1 := prm_lt a ha
    rw [List.mem_range'_1] at hb
    omega⟩)
  exact ⟨hP.sub _ (pick_of hC), hD.sub _ hn hC⟩
theorem IX_prm {q : Nat → Nat} {cI cJ cZ : ClassId} {b : Int} {w : va_W} (h : HT q (TX q cI cJ cZ 16 1 16) w) (h1 : LD w) (h2 : SB b w) : IX (sg q) cI cJ cZ b (prm w) ∧ fI (prm w) 31 1 = fI w 31 1 := by
  have hl : w.length = 110 := h.1
  have g : ∀ k, k < 110 → sgm k = k → (prm w)[k]? = w[k]? := fun k hk e => by
    have q := prm_get hl hk
    rw [e] at q
    exact q
  refine ⟨⟨⟨1, ?_⟩, LD_cg (aF_cg (g 36 (by decide) rfl)) (aF_cg (g 37 (by decide) rfl)) h1, SB_cg (aF_cg (g 83 (by decide) rfl)) (aF_cg (g 85 (by decide) rfl)) (fI_cg (g 81 (by decide) rfl)) h2⟩, fI_cg (g 31 (by decide) rfl)⟩
  rw [← TX_prm]
  exact HT_prm rfl h
theorem vw_sm {w w1 : va_W} {k : Nat} (h : w1[k]? = w[k]?) : vw w1 k = vw w k := by
  funext j
  unfold vw
  rw [h]
theorem sgm_w (k : Nat) : sgm k = sgw k := rfl
theorem sgw_hi {k : Nat} (h : 31 ≤ k) : sgw k = k := by
  have a : (Nat.ble 1 k && Nat.ble k 15) = false := by
    cases q : (Nat.ble 1 k && Nat.ble k 15) with
    | false => rfl
    | true =>
      rw [Bool.and_eq_true] at q
      exact absurd (Nat.le_of_ble_eq_true q.2) (by omega)
  have b : (Nat.ble 16 k && Nat.ble k 30) = false := by
    cases q : (Nat.ble 16 k && Nat.ble k 30) with
    | false => rfl
    | true =>
      rw [Bool.and_eq_true] at q
      exact absurd (Nat.le_of_ble_eq_true q.2) (by omega)
  unfold sgw
  rw [a, b]
theorem vw_prm {w : va_W} (hl : w.length = 110) : vw (prm w) = sw (vw w) := by
  funext k j
  show vw (prm w) k j = vw w (sgw k) j
  by_cases hk : k < 110
  · have q := prm_get hl hk
    rw [sgm_w] at q
    unfold vw
    rw [q]
  · have e1 : (prm w)[k]? = none := List.getElem?_eq_none (by rw [prm_length hl]; omega)
    have e3 : w[k]? = none := List.getElem?_eq_none (by omega)
    rw [sgw_hi (by omega)]
    unfold vw
    rw [e1, e3]
/-- both tapes hold the same text, the class knows its own words; books, acts, children are the same -/
def TW (bnd : Int) (wx wm : va_W) : Prop := fI wx 31 1 = fI wm 0 1 ∧ vw wx 32 = vw wm 1 ∧ OWX (vw wx) ∧ ∃ (bq : BST) (OLq : List OT) (La : LT), RQG bq OLq La bnd (vw wx) (vw wm)
theorem TW_tt {qx qm : Nat → Nat} {cI cJ cZ : ClassId} {bb bs bp : Nat} {bnd : Int} {wx wm : va_W} (hW : HT qx (TX qx cI cJ cZ bb bs bp) wx) (hV : HT qm (TM qm cI cJ cZ) wm) (h : TW bnd wx wm) : TT (vw wx) (vw wm) := ⟨h.2.1, (hW.vi tX_31 rfl).symm.trans ((congrArg Int32.toInt h.1).trans (hV.vi tM_0 rfl))⟩
theorem TW_prm {bnd : Int} {w wm : va_W} (hl : w.length = 110) (h1 : fI w 31 1 = fI wm 0 1) (h2 : vw w 32 = vw wm 1) (h3 : OWX (vw w)) (h4 : ∃ (bq : BST) (OLq : List OT) (La : LT), RQG bq OLq La bnd (sw (vw w)) (vw wm)) : TW bnd (prm w) wm := by
  have g : ∀ k, k < 110 → sgm k = k → (prm w)[k]? = w[k]? := fun k hk e => by
    have q := prm_get hl hk
    rw [e] at q
    exact q
  exact ⟨(fI_cg (g 31 (by decide) rfl)).trans h1, (vw_sm (g 32 (by decide) rfl)).trans h2, h3.cg (vw_sm (g 33 (by decide) rfl)), by rw [vw_prm hl]; exact h4⟩
