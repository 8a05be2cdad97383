/-! the net of lanes in the world -/
theorem l_add {x y : Int64} (h1 : -4611686018427387904 ≤ x.toInt ∧ x.toInt ≤ 4000000000000000000) (h2 : -4611686018427387904 ≤ y.toInt ∧ y.toInt ≤ 4000000000000000000) : (x + y).toInt = x.toInt + y.toInt := by
  rw [Int64.toInt_add, Int.bmod_eq_of_le (by omega) (by omega)]
theorem z60 : (1152921504606846976 : Int64).toInt = 1152921504606846976 := by decide
def frM (w : va_W) (l : Nat) : Nat := (aF w 38 l).toInt.toNat
def toM (w : va_W) (l : Nat) : Nat := (aF w 39 l).toInt.toNat
def rmM (w : va_W) (l : Nat) : Prop := ¬ aF w 40 l = 0
def prM (w : va_W) (l : Nat) : Int := (aL w 41 l).toInt
def faM (w : va_W) (v : Nat) : Int := (aL w 42 v).toInt
def byM (w : va_W) (v : Nat) : Nat := (aF w 43 v).toInt.toNat
def lnM (w : va_W) : Nat := (fI w 0 62).toInt.toNat
/-- the lanes' potential, and its bounds -/
def FEx (w : va_W) (gp : Nat → Int) : Prop := FE (lnM w) (frM w) (toM w) (rmM w) (prM w) gp ∧ (∀ v, v < 290 → -2147483648 ≤ gp v ∧ gp v ≤ 1101659111424) ∧ ∀ l, l < lnM w → -2147483648 ≤ prM w l ∧ prM w l ≤ 2147483648
/-- the search from a, with the ways in w and what is found in W -/
def BSx (w W : va_W) (gp : Nat → Int) (a : Nat) : Prop := ∃ (t : Nat → Nat) (c : Nat), BS (lnM w) (frM w) (toM w) (rmM w) (prM w) gp a (faM W) (byM W) t c
def NRx (w W : va_W) (l : Nat) : Prop := NR (frM w) (toM w) (rmM w) (prM w) (faM W) l
section Nets
variable {w W W2 : va_W} {gp : Nat → Int} {a : Nat}
theorem faM_up {i : Nat} {x : Int64} (e : aL W2 42 = vp_updL (aL W 42) i x) : faM W2 = updZ (faM W) i x.toInt := by
  funext j
  unfold faM updZ
  rw [e]
  show (if j = i then x else aL W 42 j).toInt = if j = i then x.toInt else (aL W 42 j).toInt
  by_cases q : j = i
  · rw [if_pos q, if_pos q]
  · rw [if_neg q, if_neg q]
theorem byM_up {i : Nat} {x : Int32} (e : aF W2 43 = upd (aF W 43) i x) : byM W2 = updZ (byM W) i x.toInt.toNat := by
  funext j
  unfold byM updZ
  rw [e]
  show (if j = i then x else aF W 43 j).toInt.toNat = if j = i then x.toInt.toNat else (aF W 43 j).toInt.toNat
  by_cases q : j = i
  · rw [if_pos q, if_pos q]
  · rw [if_neg q, if_neg q]
theorem BSx_cg (e42 : aL W2 42 = aL W 42) (e43 : aF W2 43 = aF W 43) (h : BSx w W gp a) : BSx w W2 gp a := by
  unfold BSx faM byM at *
  rw [e42, e43]
  exact h
theorem NRx_cg {l : Nat} (e42 : aL W2 42 = aL W 42) (h : NRx w W l) : NRx w W2 l := by
  unfold NRx faM at *
  rw [e42]
  exact h
theorem FD_0 {p : Int32} {W0 : va_W} {y : Int32} (hy : 290 ≤ y.toInt) (h0 : ∀ i : Nat, i < y.toInt.toNat → aL W0 42 i = 1152921504606846976) (hp : In 0 289 p) (e42 : aL W 42 = vp_updL (aL W0 42) p.toNatClampNeg 0) : BSx w W gp p.toInt.toNat := by
  have z : (0 : Int64).toInt = 0 := by decide
  have f := faM_up e42
  unfold In at hp
  refine ⟨fun _ => 0, 1, ?_⟩
  rw [f]
  refine BS_0 (fun v hv n => ?_) (by omega) ?_
  · show updZ (faM W0) p.toInt.toNat (0 : Int64).toInt v = _
    rw [updZ_ne _ _ n]
    unfold faM
    rw [h0 v (by omega)]
    exact z60
  · show updZ (faM W0) p.toInt.toNat (0 : Int64).toInt p.toInt.toNat = 0
    rw [updZ_at]
    exact z
theorem NR_a {l : Nat} {v : Int32} (e : v = aF w 40 l) (c : v = 0) : NRx w W l := fun r => absurd (e.symm.trans c) r
theorem NR_b {l : Nat} {vf : Int32} {lv : Int64} (ef : vf = aF w 38 l) (el : lv = aL W 42 vf.toNatClampNeg) (c : lv = 1152921504606846976) : NRx w W l := by
  intro _ n
  refine absurd ?_ n
  show (aL W 42 (aF w 38 l).toInt.toNat).toInt = _
  rw [← ef]
  show (aL W 42 vf.toNatClampNeg).toInt = _
  rw [← el, c]
  exact z60
/-- what is added does not wrap -/
theorem FD_sum {l : Nat} {vf : Int32} {lf lp ls : Int64} (hF : FEx w gp) (ha : a < 290) (hB : BSx w W gp a) (hl : l < lnM w) (hf : In 0 289 vf) (ef : vf = aF w 38 l) (el : lf = aL W 42 vf.toNatClampNeg) (ep : lp = aL w 41 l) (n : ¬ lf = 1152921504606846976) (es : ls = lf + lp) : faM W (frM w l) = lf.toInt ∧ ¬ lf.toInt = 1152921504606846976 ∧ prM w l = lp.toInt ∧ ls.toInt = lf.toInt + lp.toInt := by
  obtain ⟨t, c, hB⟩ := hB
  have e1 : faM W (frM w l) = lf.toInt := by
    show (aL W 42 (aF w 38 l).toInt.toNat).toInt = _
    rw [← ef]
    show (aL W 42 vf.toNatClampNeg).toInt = _
    rw [← el]
  have e2 : prM w l = lp.toInt := by
    unfold prM
    rw [← ep]
  have n2 : ¬ lf.toInt = 1152921504606846976 := by
    intro q
    exact n (Int64.toInt_inj.mp (q.trans z60.symm))
  have fl : frM w l < 290 := by
    unfold frM
    rw [← ef]
    unfold In at hf
    omega
  have u := BS_ub hB fl (by rw [e1]; exact n2)
  rw [e1] at u
  have b1 := hF.2.1 (frM w l) fl
  have b2 := hF.2.1 a ha
  have b3 := hF.2.2 l hl
  rw [e2] at b3
  refine ⟨e1, n2, e2, ?_⟩
  rw [es, l_add (by omega) (by omega)]
theorem to_fa {l : Nat} {vt : Int32} {lt : Int64} (et : vt = aF w 39 l) (el : lt = aL W 42 vt.toNatClampNeg) : faM W (toM w l) = lt.toInt := by
  show (aL W 42 (aF w 39 l).toInt.toNat).toInt = _
  rw [← et]
  show (aL W 42 vt.toNatClampNeg).toInt = _
  rw [← el]
theorem NR_c {l : Nat} {vf vt cv : Int32} {lf lp ls lt : Int64} (hF : FEx w gp) (ha : a < 290) (hB : BSx w W gp a) (hl : l < lnM w) (hf : In 0 289 vf) (ef : vf = aF w 38 l) (el : lf = aL W 42 vf.toNatClampNeg) (ep : lp = aL w 41 l) (n : ¬ lf = 1152921504606846976) (es : ls = lf + lp) (et : vt = aF w 39 l) (elt : lt = aL W 42 vt.toNatClampNeg) (ec : cv = lg_cmp ls lt) (c : ¬ cv < 0) : NRx w W l := by
  have q := FD_sum hF ha hB hl hf ef el ep n es
  have y := to_fa et elt
  have r := lc_all ec
  have z : (0 : Int32).toInt = 0 := by decide
  rw [q_lt] at c
  intro _ _
  rw [q.1, q.2.2.1, y]
  omega
/-- the lane is taken -/
theorem FD_st {l : Nat} {x vf vt cv : Int32} {lf lp ls ls2 lt : Int64} (hF : FEx w gp) (ha : a < 290) (hB : BSx w W gp a) (hl : l < lnM w) (hx : x.toInt.toNat = l) (hfa : ∀ j, In 0 289 (aF w 38 j)) (hta : ∀ j, In 0 289 (aF w 39 j)) (er : ¬ aF w 40 l = 0) (ef : vf = aF w 38 l) (el : lf = aL W 42 vf.toNatClampNeg) (ep : lp = aL w 41 l) (n : ¬ lf = 1152921504606846976) (es : ls = lf + lp) (et : vt = aF w 39 l) (elt : lt = aL W 42 vt.toNatClampNeg) (ec : cv = lg_cmp ls lt) (c : cv < 0) (es2 : ls2 = lf + lp) (e42 : aL W2 42 = vp_updL (aL W 42) vt.toNatClampNeg ls2) (e43 : aF W2 43 = upd (aF W 43) vt.toNatClampNeg x) : BSx w W2 gp a ∧ sM (faM W2) gp a 290 < sM (faM W) gp a 290 := by
  have q := FD_sum hF ha hB hl (by rw [ef]; exact hfa l) ef el ep n es
  have y := to_fa et elt
  have r := lc_all ec
  have z : (0 : Int32).toInt = 0 := by decide
  rw [q_lt] at c
  have f42 := faM_up e42
  have f43 := byM_up e43
  have hi : vt.toNatClampNeg = toM w l := by
    show vt.toInt.toNat = (aF w 39 l).toInt.toNat
    rw [et]
  rw [hi] at f42 f43
  have hs : ls2.toInt = faM W (frM w l) + prM w l := by rw [es2, ← es, q.1, q.2.2.1, q.2.2.2]
  have hfr : ∀ j, frM w j < 290 := fun j => by
    have k := hfa j
    unfold In at k
    unfold frM
    omega
  have hto : ∀ j, toM w j < 290 := fun j => by
    have k := hta j
    unfold In at k
    unfold toM
    omega
  obtain ⟨t, cc, hB⟩ := hB
  have hlt : faM W (frM w l) + prM w l < faM W (toM w l) := by
    rw [y, q.1, q.2.2.1]
    omega
  have m := BS_st hF.1 (fun j hj => (hF.2.2 j hj).2) hfr hto hB hl er (by rw [q.1]; exact q.2.1) hlt
  refine ⟨?_, ?_⟩
  · unfold BSx
    rw [f42, f43, hs, hx]
    exact ⟨_, _, m.1⟩
  · rw [f42, hs]
    exact (sM_up hlt m.2 290).1 (hto l)
theorem FD_mu {s1 s2 N : Nat} {x y : Int32} (hmu : 2 * s1 + x.toInt.toNat < N + 1) (h : s2 + (if y = 0 then 0 else 1) ≤ s1) (hx : In 1 1 x) (hy : In 0 1 y) : 2 * s2 + y.toInt.toNat < N := by
  have z : (0 : Int32).toInt = 0 := by decide
  unfold In at hx hy
  by_cases q : y = 0
  · rw [if_pos q] at h
    rw [q, z]
    omega
  · rw [if_neg q] at h
    omega
theorem FD_r {v p : Int32} {lv : Int64} (el : lv = aL W 42 p.toNatClampNeg) (ev : v = lg_cmp lv 1152921504606846976) (c : ¬ (0 : Int32) ≤ v) : ¬ faM W p.toInt.toNat = 1152921504606846976 := by
  intro q
  have r := lc_all ev
  have z : (0 : Int32).toInt = 0 := by decide
  rw [q_le] at c
  have e : lv.toInt = 1152921504606846976 := by
    rw [el]
    exact q
  rw [e, z60] at r
  omega
/-- up to the next lane -/
theorem NR_nx {x : Int32} {b : Int} (hx : In 0 b x) (hb : b < 2147483647) (h : ∀ l : Nat, (l : Int) < x.toInt → NRx w W l) (g : NRx w W x.toNatClampNeg) : ∀ l : Nat, (l : Int) < (x + 1).toInt → NRx w W l := by
  intro l hl
  have t := t_add hx (In_lit (n := 1) (by decide) (by decide) : In 1 1 1) (by omega)
  have z : (1 : Int32).toInt = 1 := by decide
  unfold In at hx
  by_cases q : (l : Int) < x.toInt
  · exact h l q
  · rw [show l = x.toNatClampNeg from by show l = x.toInt.toNat; omega]
    exact g
end Nets
theorem lcz {x y : Int64} {v : Int32} (h : v = lg_cmp x y) (q : x = y) : v = 0 := by
  have r := lc_all h
  have z : (0 : Int32).toInt = 0 := by decide
  rw [q] at r
  rw [q_eq]
  omega
/-! a way is gone -/
/-- the lane the other way -/
def xr (l : Nat) : Nat := if l % 2 = 0 then l + 1 else l - 1
theorem xr_v {x v : Int32} (h : In 0 2199 x) (e : v = x ^^^ 1) : v.toInt.toNat = xr x.toInt.toNat ∧ In 0 2199 v := by
  have hx : x.toInt = (x.toBitVec.toNat : Int) ∧ x.toBitVec.toNat ≤ 2199 := by
    have s : x.toBitVec.toInt = x.toInt := rfl
    have l := x.toBitVec.isLt
    rw [BitVec.toInt_eq_toNat_cond] at s
    unfold In at h
    split at s <;> omega
  have d2 : (x.toBitVec.toNat ^^^ 1) / 2 = x.toBitVec.toNat / 2 := by
    rw [Nat.xor_div_two]
    exact Nat.xor_zero _
  have m2 : (x.toBitVec.toNat ^^^ 1) % 2 = (x.toBitVec.toNat + 1) % 2 := by
    have q := @Nat.xor_mod_two_eq_one x.toBitVec.toNat 1
    by_cases k : x.toBitVec.toNat % 2 = 1
    · have r : ¬ (x.toBitVec.toNat ^^^ 1) % 2 = 1 := fun z => q.mp z ⟨fun _ => rfl, fun _ => k⟩
      omega
    · have r : (x.toBitVec.toNat ^^^ 1) % 2 = 1 := q.mpr (fun z => k (z.mpr rfl))
      omega
  have hv : v.toBitVec.toNat = x.toBitVec.toNat ^^^ 1 := by
    rw [e]
    show (x.toBitVec ^^^ (1 : Int32).toBitVec).toNat = _
    rw [BitVec.toNat_xor]
    rfl
  have ev : v.toInt = (v.toBitVec.toNat : Int) := by
    have s : v.toBitVec.toInt = v.toInt := rfl
    rw [BitVec.toInt_eq_toNat_cond] at s
    split at s <;> omega
  refine ⟨?_, ?_⟩
  · rw [ev, hx.1]
    show v.toBitVec.toNat = xr x.toBitVec.toNat
    unfold xr
    split <;> omega
  · unfold In
    omega
/-- what is needed to go from b to a -/
def GHx (gt : Nat → Nat) (gP : Nat → Prop) (w : va_W) (a b : Nat) : Prop := gP b ∧ ∀ v, v < 290 → gP v → ¬ v = a → toM w (byM w v) = v ∧ toM w (xr (byM w v)) = frM w (byM w v) ∧ gP (frM w (byM w v)) ∧ gt (frM w (byM w v)) < gt v
/-- which lanes may have room behind it -/
def G1x (gP : Nat → Prop) (w W : va_W) (a : Nat) : Prop := ∀ l, ¬ aF W 40 l = 0 → ¬ aF w 40 l = 0 ∨ ∃ v, v < 290 ∧ gP v ∧ ¬ v = a ∧ (l = byM w v ∨ l = xr (byM w v))
/-- the room of the lanes to b -/
def G2x (gt : Nat → Nat) (w W : va_W) (b p : Nat) : Prop := (p = b ∧ aF W 40 = aF w 40) ∨ (gt p < gt b ∧ ∀ l, toM w l = b → aF W 40 l = if l = byM w b then aF w 40 l - 1 else aF w 40 l)
theorem GO_st {gt : Nat → Nat} {gP : Nat → Prop} {w W W2 : va_W} {a b : Nat} {x bi bx v1 v2 x2 : Int32} (hG : GHx gt gP w a b) (hx : In 0 289 x) (hp : gP x.toInt.toNat) (h1 : G1x gP w W a) (h2 : G2x gt w W b x.toInt.toNat) (na : ¬ x.toInt.toNat = a) (ebi : bi = aF w 43 x.toNatClampNeg) (hbi : In 0 2199 bi) (ebx : bx = bi ^^^ 1) (e1 : v1 = aF W 40 bi.toNatClampNeg - 1) (e40 : aF W2 40 = upd (upd (aF W 40) bi.toNatClampNeg v1) bx.toNatClampNeg v2) (ex : x2 = aF w 38 bi.toNatClampNeg) : gP x2.toInt.toNat ∧ G1x gP w W2 a ∧ G2x gt w W2 b x2.toInt.toNat ∧ gt x2.toInt.toNat < gt x.toInt.toNat := by
  have hv : x.toInt.toNat < 290 := by
    unfold In at hx
    omega
  have eb : byM w x.toInt.toNat = bi.toInt.toNat := by
    show (aF w 43 x.toNatClampNeg).toInt.toNat = _
    rw [← ebi]
  have ef : frM w (byM w x.toInt.toNat) = x2.toInt.toNat := by
    rw [eb, ex]
    rfl
  have xx := (xr_v hbi ebx).1
  obtain ⟨g1, g2, g3, g4⟩ := hG.2 _ hv hp na
  rw [ef] at g2 g3 g4
  have at1 : ∀ l, ¬ l = bi.toInt.toNat → ¬ l = bx.toInt.toNat → aF W2 40 l = aF W 40 l := fun l n1 n2 => by
    rw [e40]
    unfold upd
    rw [if_neg (show ¬ l = bx.toNatClampNeg from n2), if_neg (show ¬ l = bi.toNatClampNeg from n1)]
  refine ⟨g3, fun l r => ?_, ?_, g4⟩
  · by_cases q1 : l = bi.toInt.toNat
    · exact Or.inr ⟨_, hv, hp, na, Or.inl (by rw [eb]; exact q1)⟩
    · by_cases q2 : l = bx.toInt.toNat
      · exact Or.inr ⟨_, hv, hp, na, Or.inr (by rw [eb, ← xx]; exact q2)⟩
      · rw [at1 l q1 q2] at r
        exact h1 l r
  · rcases h2 with ⟨pb, e0⟩ | ⟨lt, h3⟩
    · refine Or.inr ⟨by rw [← pb]; exact g4, fun l tl => ?_⟩
      have n2 : ¬ l = bx.toInt.toNat := by
        intro q
        rw [q, xx, ← eb, g2] at tl
        rw [tl, ← pb] at g4
        exact absurd g4 (Nat.lt_irrefl _)
      by_cases q1 : l = bi.toInt.toNat
      · rw [← pb, eb, if_pos q1, e40]
        unfold upd
        rw [if_neg (show ¬ l = bx.toNatClampNeg from n2), if_pos (show l = bi.toNatClampNeg from q1), e1, e0, q1]
        rfl
      · rw [at1 l q1 n2, ← pb, eb, if_neg q1, e0]
    · refine Or.inr ⟨by omega, fun l tl => ?_⟩
      have n1 : ¬ l = bi.toInt.toNat := by
        intro q
        rw [q, ← eb, g1] at tl
        rw [tl] at lt
        exact absurd lt (Nat.lt_irrefl _)
      have n2 : ¬ l = bx.toInt.toNat := by
        intro q
        rw [q, xx, ← eb, g2] at tl
        rw [tl] at g4
        omega
      rw [at1 l n1 n2]
      exact h3 l tl
theorem nat_ne {x y : Int32} {b c : Int} (hx : In 0 b x) (hy : In 0 c y) (n : ¬ x = y) : ¬ x.toInt.toNat = y.toInt.toNat := by
  intro q
  apply n
  rw [q_eq]
  unfold In at hx hy
  omega
/-! everything is settled -/
/-- lanes go both ways, and cost as much -/
def NWx (w : va_W) : Prop := (∀ l, l < lnM w → prM w (xr l) = - prM w l ∧ frM w (xr l) = toM w l ∧ toM w (xr l) = frM w l) ∧ ∀ l, l < lnM w → -2147483648 ≤ prM w l ∧ prM w l ≤ 2147483648
def PRx (w : va_W) : Prop := ∀ k, k < 400 → 0 ≤ (aF w 44 k).toInt → (aF w 44 k).toInt.toNat < lnM w
def O1x (w : va_W) : Prop := ∀ l, l < lnM w → toM w l = 1 → 0 ≤ (aF w 40 l).toInt
def FPx (w : va_W) : Prop := ∃ pi : Nat → Int, FE (lnM w) (frM w) (toM w) (rmM w) (prM w) pi ∧ PB pi
/-- .. but for one lane and the next one -/
def FQx (w : va_W) (j : Nat) : Prop := ∃ pi : Nat → Int, FE (lnM w) (frM w) (toM w) (fun l => rmM w l ∧ ¬ l = j ∧ ¬ l = j + 1) (prM w) pi ∧ PB pi
section Sets
variable {W Wf Wg : va_W} {pi : Nat → Int} {t : Nat → Nat} {c a b : Nat}
theorem NWx_cg (e38 : aF Wg 38 = aF W 38) (e39 : aF Wg 39 = aF W 39) (e41 : aL Wg 41 = aL W 41) (f62 : fI Wg 0 62 = fI W 0 62) (h : NWx W) : NWx Wg := by
  unfold NWx prM frM toM lnM at *
  rw [e38, e39, e41, f62]
  exact h
theorem PRx_cg (e44 : aF Wg 44 = aF W 44) (f62 : fI Wg 0 62 = fI W 0 62) (h : PRx W) : PRx Wg := by
  unfold PRx lnM at *
  rw [e44, f62]
  exact h
theorem FPx_cg (e38 : aF Wg 38 = aF W 38) (e39 : aF Wg 39 = aF W 39) (e40 : aF Wg 40 = aF W 40) (e41 : aL Wg 41 = aL W 41) (f62 : fI Wg 0 62 = fI W 0 62) (h : FPx W) : FPx Wg := by
  unfold FPx rmM prM frM toM lnM at *
  rw [e38, e39, e40, e41, f62]
  exact h
theorem O1x_cg (e39 : aF Wg 39 = aF W 39) (e40 : aF Wg 40 = aF W 40) (f62 : fI Wg 0 62 = fI W 0 62) (h : O1x W) : O1x Wg := by
  unfold O1x toM lnM at *
  rw [e39, e40, f62]
  exact h
theorem FEx_of (hW : NWx W) (h : FE (lnM W) (frM W) (toM W) (rmM W) (prM W) pi) (hB : PB pi) : FEx W pi := ⟨h, fun _ hv => PB_in hB hv, hW.2⟩
/-- posts on the way that is gone -/
def gPx (Wf : va_W) (pi : Nat → Int) (a b : Nat) (v : Nat) : Prop := v < 290 ∧ oW (faM Wf) pi a b v
theorem fr_lt (h : ∀ j, In 0 289 (aF W 38 j)) (l : Nat) : frM W l < 290 := by
  have k := h l
  unfold In at k
  unfold frM
  omega
theorem to_lt (h : ∀ j, In 0 289 (aF W 39 j)) (l : Nat) : toM W l < 290 := by
  have k := h l
  unfold In at k
  unfold toM
  omega
theorem GH_of (hW : NWx W) (hF : FE (lnM W) (frM W) (toM W) (rmM W) (prM W) pi) (hf : ∀ j, In 0 289 (aF W 38 j)) (hB : BS (lnM W) (frM W) (toM W) (rmM W) (prM W) pi a (faM Wf) (byM Wf) t c) (hN : ∀ l, l < lnM W → NRx W Wf l) (hb : b < 290) (r : ¬ faM Wf b = 1152921504606846976) (e38 : aF Wf 38 = aF W 38) (e39 : aF Wf 39 = aF W 39) : GHx t (gPx Wf pi a b) Wf a b := by
  have f1 : frM Wf = frM W := by unfold frM; rw [e38]
  have f2 : toM Wf = toM W := by unfold toM; rw [e39]
  refine ⟨⟨hb, r, Int.le_refl _⟩, fun v hv ho na => ?_⟩
  obtain ⟨g1, g2, g3, g4, g5, g6⟩ := BS_fx hB hN hv ho.2.1 na
  rw [f1, f2]
  exact ⟨g2, (hW.1 _ g1).2.2, ⟨fr_lt hf _, oW_cl hF (fr_lt hf) hB hN hv ho.2 na⟩, g6⟩
theorem ST_f (hW : NWx W) (hF : FE (lnM W) (frM W) (toM W) (rmM W) (prM W) pi) (hf : ∀ j, In 0 289 (aF W 38 j)) (hB : BS (lnM W) (frM W) (toM W) (rmM W) (prM W) pi a (faM Wf) (byM Wf) t c) (hN : ∀ l, l < lnM W → NRx W Wf l) (hb : b < 290) (r : ¬ faM Wf b = 1152921504606846976) (e40 : aF Wf 40 = aF W 40) (g1 : G1x (gPx Wf pi a b) Wf Wg a) : FE (lnM W) (frM W) (toM W) (rmM Wg) (prM W) (nP (faM Wf) pi a b) := by
  refine FE_aug (xr := xr) hF (fun l hl => (hW.2 l hl).2) (fr_lt hf) hB hN hb r hW.1 (fun l hl r1 => ?_)
  have q := g1 l r1
  rw [e40] at q
  rcases q with y | ⟨v, hv, ho, na, e⟩
  · exact Or.inl y
  · exact Or.inr ⟨v, hv, ho.2, na, e⟩
/-- how much room there is to post 1 -/
def s1M (W : va_W) : Nat → Nat
  | 0 => 0
  | k + 1 => s1M W k + (if toM W k = 1 then (aF W 40 k).toInt.toNat else 0)
theorem s1M_dn {j : Nat} (e39 : toM Wg = toM W) (tj : toM W j = 1) (hj : ¬ aF W 40 j = 0) (h0 : ∀ l, toM W l = 1 → aF Wg 40 l = if l = j then aF W 40 l - 1 else aF W 40 l) (hp : 0 ≤ (aF W 40 j).toInt) : ∀ k, (j < k → s1M Wg k < s1M W k) ∧ (¬ j < k → s1M Wg k = s1M W k)
  | 0 => ⟨fun q => absurd q (Nat.not_lt_zero j), fun _ => rfl⟩
  | k + 1 => by
    have ih := s1M_dn e39 tj hj h0 hp k
    have z1 : (1 : Int32).toInt = 1 := by decide
    have z0 : (0 : Int32).toInt = 0 := by decide
    have e1 : s1M Wg (k + 1) = s1M Wg k + (if toM Wg k = 1 then (aF Wg 40 k).toInt.toNat else 0) := rfl
    have e2 : s1M W (k + 1) = s1M W k + (if toM W k = 1 then (aF W 40 k).toInt.toNat else 0) := rfl
    have up := Int32.toInt_lt (aF W 40 j)
    have pj : 1 ≤ (aF W 40 j).toInt := by
      rw [q_eq] at hj
      omega
    have tt := t_sub (show In 1 2147483647 (aF W 40 j) from ⟨pj, by omega⟩) (In_lit (n := 1) (by decide) (by decide) : In 1 1 1) (by decide)
    rw [e1, e2, e39]
    by_cases q : k = j
    · have i2 := ih.2 (by omega)
      rw [i2, q, if_pos tj, if_pos tj, h0 j tj, if_pos rfl]
      exact ⟨fun _ => by omega, fun z => absurd (Nat.lt_succ_self j) z⟩
    · have e3 : (if toM W k = 1 then (aF Wg 40 k).toInt.toNat else 0) = (if toM W k = 1 then (aF W 40 k).toInt.toNat else 0) := by
        by_cases y : toM W k = 1
        · rw [if_pos y, if_pos y, h0 k y, if_neg q]
        · rw [if_neg y, if_neg y]
      rw [e3]
      refine ⟨fun z => ?_, fun z => ?_⟩
      · have i1 := ih.1 (by omega)
        omega
      · have i2 := ih.2 (by omega)
        omega
theorem ST_1 (hW : NWx W) (hF : FE (lnM W) (frM W) (toM W) (rmM W) (prM W) pi) (hP : PB pi) (h1 : O1x W) (hf : ∀ j, In 0 289 (aF W 38 j)) (hB : BS (lnM W) (frM W) (toM W) (rmM W) (prM W) pi 0 (faM Wf) (byM Wf) t c) (hN : ∀ l, l < lnM W → NRx W Wf l) (r : ¬ faM Wf 1 = 1152921504606846976) (e39 : aF Wf 39 = aF W 39) (e40 : aF Wf 40 = aF W 40) (g1 : G1x (gPx Wf pi 0 1) Wf Wg 0) (g2 : G2x t Wf Wg 1 0) (d38 : aF Wg 38 = aF W 38) (d39 : aF Wg 39 = aF W 39) (d41 : aL Wg 41 = aL W 41) (d62 : fI Wg 0 62 = fI W 0 62) : FPx Wg ∧ O1x Wg ∧ s1M Wg (lnM Wg) < s1M W (lnM W) := by
  have f := ST_f hW hF hf hB hN (show 1 < 290 by decide) r e40 g1
  have f2 : toM Wf = toM W := by unfold toM; rw [e39]
  have k1 : lnM Wg = lnM W := by unfold lnM; rw [d62]
  have k2 : frM Wg = frM W := by unfold frM; rw [d38]
  have k3 : toM Wg = toM W := by unfold toM; rw [d39]
  have k4 : prM Wg = prM W := by unfold prM; rw [d41]
  obtain ⟨b1, b2, b3, b4, b5, b6⟩ := BS_fx hB hN (show 1 < 290 by decide) r (show ¬ 1 = 0 by decide)
  have g3 : ∀ l, toM W l = 1 → aF Wg 40 l = if l = byM Wf 1 then aF W 40 l - 1 else aF W 40 l := by
    rcases g2 with ⟨q, _⟩ | ⟨_, q⟩
    · exact absurd q (by decide)
    · rw [f2, e40] at q
      exact q
  have pb := h1 _ b1 b2
  refine ⟨⟨_, by rw [k1, k2, k3, k4]; exact f, PB_aug hB hP r⟩, fun l hl tl => ?_, ?_⟩
  · rw [k1] at hl
    rw [k3] at tl
    have o := h1 l hl tl
    rw [g3 l tl]
    by_cases q : l = byM Wf 1
    · rw [if_pos q, q]
      have b7 : ¬ aF W 40 (byM Wf 1) = 0 := b3
      rw [q_eq] at b7
      have z0 : (0 : Int32).toInt = 0 := by decide
      have z1 : (1 : Int32).toInt = 1 := by decide
      have up := Int32.toInt_lt (aF W 40 (byM Wf 1))
      have tt := t_sub (show In 1 2147483647 (aF W 40 (byM Wf 1)) from ⟨by omega, by omega⟩) (In_lit (n := 1) (by decide) (by decide) : In 1 1 1) (by decide)
      omega
    · rw [if_neg q]
      exact o
  · rw [k1]
    exact (s1M_dn k3 b2 b3 g3 pb _).1 b1
/-- nothing more is changed but lanes j and j + 1 -/
theorem FQ_of {j : Nat} (d38 : aF Wg 38 = aF W 38) (d39 : aF Wg 39 = aF W 39) (d41 : aL Wg 41 = aL W 41) (d62 : fI Wg 0 62 = fI W 0 62) (h : ∃ q : Nat → Int, FE (lnM W) (frM W) (toM W) (rmM Wf) (prM W) q ∧ PB q) (e : ∀ l, ¬ l = j → ¬ l = j + 1 → aF Wg 40 l = aF Wf 40 l) : FQx Wg j := by
  obtain ⟨q, h1, h2⟩ := h
  have k1 : lnM Wg = lnM W := by unfold lnM; rw [d62]
  have k2 : frM Wg = frM W := by unfold frM; rw [d38]
  have k3 : toM Wg = toM W := by unfold toM; rw [d39]
  have k4 : prM Wg = prM W := by unfold prM; rw [d41]
  refine ⟨q, ?_, h2⟩
  rw [k1, k2, k3, k4]
  intro l hl r
  refine h1 l hl ?_
  have r1 := r.1
  unfold rmM at r1 ⊢
  rw [← e l r.2.1 r.2.2]
  exact r1
theorem FQ_cg {j : Nat} (d38 : aF Wg 38 = aF W 38) (d39 : aF Wg 39 = aF W 39) (d40 : aF Wg 40 = aF W 40) (d41 : aL Wg 41 = aL W 41) (d62 : fI Wg 0 62 = fI W 0 62) (h : FQx W j) : FQx Wg j := by
  unfold FQx rmM prM frM toM lnM at *
  rw [d38, d39, d40, d41, d62]
  exact h
theorem FP_of {j : Nat} (d38 : aF Wg 38 = aF W 38) (d39 : aF Wg 39 = aF W 39) (d41 : aL Wg 41 = aL W 41) (d62 : fI Wg 0 62 = fI W 0 62) (h : FQx W j) (e : ∀ l, ¬ l = j → ¬ l = j + 1 → aF Wg 40 l = aF W 40 l) (z0 : aF Wg 40 j = 0) (z1 : aF Wg 40 (j + 1) = 0) : FPx Wg := by
  obtain ⟨q, h1, h2⟩ := h
  have k1 : lnM Wg = lnM W := by unfold lnM; rw [d62]
  have k2 : frM Wg = frM W := by unfold frM; rw [d38]
  have k3 : toM Wg = toM W := by unfold toM; rw [d39]
  have k4 : prM Wg = prM W := by unfold prM; rw [d41]
  refine ⟨q, ?_, h2⟩
  rw [k1, k2, k3, k4]
  intro l hl r
  have n0 : ¬ l = j := fun y => r (by rw [y]; exact z0)
  have n1 : ¬ l = j + 1 := fun y => r (by rw [y]; exact z1)
  refine h1 l hl ⟨?_, n0, n1⟩
  unfold rmM at r ⊢
  rw [← e l n0 n1]
  exact r
/-- a way back that costs nothing -/
theorem ST_2 {l : Nat} (hW : NWx W) (hF : FE (lnM W) (frM W) (toM W) (rmM W) (prM W) pi) (hP : PB pi) (hf : ∀ j, In 0 289 (aF W 38 j)) (ht : ∀ j, In 0 289 (aF W 39 j)) (hB : BS (lnM W) (frM W) (toM W) (rmM W) (prM W) pi (toM W l) (faM Wf) (byM Wf) t c) (hN : ∀ l, l < lnM W → NRx W Wf l) (hl : l < lnM W) (hr : rmM W l) (r : ¬ faM Wf (frM W l) = 1152921504606846976) (z : faM Wf (frM W l) + prM W l = 0) (e40 : aF Wf 40 = aF W 40) (g1 : G1x (gPx Wf pi (toM W l) (frM W l)) Wf Wg (toM W l)) : ∃ q : Nat → Int, FE (lnM W) (frM W) (toM W) (rmM Wg) (prM W) q ∧ PB q := by
  have f := ST_f hW hF hf hB hN (fr_lt hf l) r e40 g1
  refine ⟨pi, FE_cg (fr_lt hf) (to_lt ht) f (nP_same hB hF hl hr rfl rfl (fr_lt hf l) r z) (fun _ _ y => y), hP⟩
theorem upd2_ne {f : Nat → Int32} {i j : Int32} {u v : Int32} {b : Int} (hi : In 0 b i) (hb : b < 2147483647) (ej : j = i + 1) : ∀ l : Nat, ¬ l = i.toInt.toNat → ¬ l = i.toInt.toNat + 1 → upd (upd f i.toNatClampNeg u) j.toNatClampNeg v l = f l := by
  intro l n0 n1
  have tt := t_add hi (In_lit (n := 1) (by decide) (by decide) : In 1 1 1) (by omega)
  have z1 : (1 : Int32).toInt = 1 := by decide
  unfold In at hi
  unfold upd
  rw [if_neg (show ¬ l = j.toNatClampNeg by show ¬ l = j.toInt.toNat; rw [ej]; omega), if_neg (show ¬ l = i.toNatClampNeg from n0)]
theorem upd2_at {f : Nat → Int32} {i j : Int32} {u v : Int32} {b : Int} (hi : In 0 b i) (hb : b < 2147483647) (ej : j = i + 1) : upd (upd f i.toNatClampNeg u) j.toNatClampNeg v i.toInt.toNat = u ∧ upd (upd f i.toNatClampNeg u) j.toNatClampNeg v (i.toInt.toNat + 1) = v := by
  have tt := t_add hi (In_lit (n := 1) (by decide) (by decide) : In 1 1 1) (by omega)
  have z1 : (1 : Int32).toInt = 1 := by decide
  unfold In at hi
  unfold upd
  refine ⟨?_, ?_⟩
  · rw [if_neg (show ¬ i.toInt.toNat = j.toNatClampNeg by show ¬ i.toInt.toNat = j.toInt.toNat; rw [ej]; omega), if_pos (show i.toInt.toNat = i.toNatClampNeg from rfl)]
  · rw [if_pos (show i.toInt.toNat + 1 = j.toNatClampNeg by show i.toInt.toNat + 1 = j.toInt.toNat; rw [ej]; omega)]
end Sets
theorem SZ {W Wf : va_W} {gp : Nat → Int} {a l : Nat} {vf : Int32} {lf lp ls : Int64} (hF : FEx W gp) (hB : BSx W Wf gp a) (ha : a < 290) (hl : l < lnM W) (hf : In 0 289 vf) (ef : vf = aF W 38 l) (el : lf = aL Wf 42 vf.toNatClampNeg) (ep : lp = aL W 41 l) (r : ¬ faM Wf vf.toInt.toNat = 1152921504606846976) (es : ls = lf + lp) (c : ls = 0) : faM Wf (frM W l) + prM W l = 0 := by
  have n : ¬ lf = 1152921504606846976 := by
    intro q
    apply r
    show (aL Wf 42 vf.toNatClampNeg).toInt = _
    rw [← el, q]
    exact z60
  have q := FD_sum hF ha hB hl hf ef el ep n es
  have z : (0 : Int64).toInt = 0 := by decide
  rw [q.1, q.2.2.1, ← q.2.2.2, c]
  exact z
