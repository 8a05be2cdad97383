section MoreRow
variable {p : Program} {l : Launch} {e : Env} {R : Room} {s : State} {m : MethodId} {args : Array Value} {below : List Frame} {meth : Method} {c : Code} {H : Heap} {locs : List Loc} {cells slots : Nat} {Q : State → Prop}
variable {cc : ByteArray} {pc : Nat} {ls : Array Slot} {rest st0 : List Value} {D : va_G} {cI cJ cZ : ClassId} {A : Nat → Prop} {ws wc wr w : va_W}
variable {y : MethodName} {ccY : ByteArray} {nL nY n index : Nat} {ret : Option FieldType} {rmY : Room} {Qc : Array Value → State → Outcome → State → Prop} {free : Addr → Prop} {own C : String} {b : Addr} {As : List Value} {E : State → Prop}
/-- a nest mate's static method's run -/
theorem rn_SN {host : String} {mc ms : Nat} (hx : p.tables.exec = Jvm.exec) (hb : c.code = cc) (hml : c.maxLocals = nL) (hown : s.vm.findClass own = some m.cls) (hts : ∀ w ∈ BIG, w.before args s = true)
    (hM : Met l y (.code y ccY nY ret :: BIG) rmY (va_Pc As (cn_B D cI cJ cZ wc H.size E)) Qc mc ms free) (hmc : rmY.cells = mc ∧ rmY.slots = ms)
    (hl : va_Nw (.methodLinkNest own index y host) s)
    (sv : (Cond.static y ∈ BIG ∧ Cond.initialized y.cls ∈ BIG ∧ Cond.code y ccY nY ret ∈ BIG) ∧ sv_d y n) (hR : rmY.frames + 1 ≤ R.frames ∧ 8 + (nY + 11) + rmY.locals ≤ R.locals) (hf : cells + mc ≤ R.cells ∧ slots + ms ≤ R.slots)
    (hE0 : ∀ (a : Array Value) (U : State) (g : JFrame) (mk : MethodId), E U → E (U.calling g mk a)) (hE : ∀ U : State, U.heap = H → s.WarmedH U.vm → E U)
    (hK : va_K D vwCl (tyK cI cJ cZ) s) (hP : va_P D vwCl ws H) (hD : va_D A ws) (isC : List Nat) (hC : isC.map (fun i => ws[i]?) = wc.map some) (hnC : va_nd isC = true)
    (hlen : As.length = n) (hsz : ls.size = nL) (hst : st0 = As.reverse ++ rest) (hW8 : (rest.map fun v => v.category).sum ≤ 8) (hdg : decode cc pc = .ok (.invokestatic index, 3)) :
    va_Run p l e R s m args below meth c H locs cells slots mc ms (F0 m pc ls st0) rest (Qc As.toArray) free := by
  have hPc : va_P D vwCl wc H := hP.sub isC (pick_of hC)
  have hDc : va_D A wc := hD.sub isC hnC hC
  exact va_runSN (As := As) (rest := rest) ⟨hx, hb, hml, hown, hts⟩ hM ⟨va_cnB n hts (good_C sv.1.2.2) rfl hmc.1 hmc.2 hl (hts _ sv.1.2.1) sv.2 hR, hts _ sv.1.1, trivial⟩ ⟨blind_B hE0, fun U hU hW => ⟨rfl, by rw [hU], by rw [hU]; exact hPc, va_K.moved hW.alike hK, hDc.weaken (fun _ _ _ _ => trivial), hE U hU hW⟩⟩ rfl hlen hsz hst (lv_room hW8) hdg hf
end MoreRow
/-! numbers in the form nI n: what a branch says of them -/
theorem n_lt {a b : Nat} (h : nI a < nI b) (ha : a < 2 ^ 31) (hb : b < 2 ^ 31) : a < b := (nI_ltI ha hb).mp h
theorem n_nlt {a b : Nat} (h : ¬ nI a < nI b) (ha : a < 2 ^ 31) (hb : b < 2 ^ 31) : b ≤ a := Nat.not_lt.mp (fun q => h ((nI_ltI ha hb).mpr q))
theorem n_le {a b : Nat} (h : nI a ≤ nI b) (ha : a < 2 ^ 31) (hb : b < 2 ^ 31) : a ≤ b := (nI_leI ha hb).mp h
theorem n_nle {a b : Nat} (h : ¬ nI a ≤ nI b) (ha : a < 2 ^ 31) (hb : b < 2 ^ 31) : b < a := Nat.not_le.mp (fun q => h ((nI_leI ha hb).mpr q))
theorem n_eq {a b : Nat} (h : nI a = nI b) (ha : a < 2 ^ 31) (hb : b < 2 ^ 31) : a = b := (nI_eq ha hb).mp h
theorem n_ne {a b : Nat} (h : ¬ nI a = nI b) : a ≠ b := fun q => h (by rw [q])
theorem n_ld {α : Type} {f : Nat → α} {a : Nat} (ha : a < 2 ^ 31) : f (nI a).toNatClampNeg = f a := by rw [nI_clamp ha]
theorem n_up {f g : Nat → Int32} {a : Nat} {v : Int32} (ha : a < 2 ^ 31) (h : g = upd f (nI a).toNatClampNeg v) : g = upd f a v := by rw [nI_clamp ha] at h; exact h
theorem n_upL {f g : Nat → Int64} {a : Nat} {v : Int64} (ha : a < 2 ^ 31) (h : g = vp_updL f (nI a).toNatClampNeg v) : g = vp_updL f a v := by rw [nI_clamp ha] at h; exact h
/-- a number that is none, or lies below n -/
def n_opt (n : Nat) (x : Int32) : Prop := x = -1 ∨ ∃ j : Nat, j < n ∧ x = nI j
theorem n_opt_of {n : Nat} {x : Int32} (h : n_opt n x) (hx : ¬ x = -1) : ∃ j : Nat, j < n ∧ x = nI j := h.resolve_left hx
theorem n_opt_up {n m : Nat} {x : Int32} (hnm : n ≤ m) (h : n_opt n x) : n_opt m x := h.imp id (fun ⟨j, h1, h2⟩ => ⟨j, Nat.lt_of_lt_of_le h1 hnm, h2⟩)
