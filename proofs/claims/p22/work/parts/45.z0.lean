/-! a world as a picture of numbers: cell k, field or place j -/
abbrev PS : Type := Nat → Nat → Int
def vw (w : va_W) (k j : Nat) : Int := match w[k]? with
  | some (_, .inr (_, fs)) => (match fs[j]? with
    | some (.int v) => v.toInt
    | some (.long v) => v.toInt
    | _ => 0)
  | some (_, .inl (_, _, .inl f)) => (f j).toInt
  | some (_, .inl (_, _, .inr (.inl f))) => (f j).toInt
  | _ => 0
def us (s : PS) (k j : Nat) (v : Int) : PS := fun k2 j2 => if k2 = k ∧ j2 = j then v else s k2 j2
theorem us_at {s : PS} {k j : Nat} {v : Int} : us s k j v k j = v := by unfold us; rw [if_pos ⟨rfl, rfl⟩]
theorem us_k {s : PS} {k j k2 : Nat} {v : Int} (h : ¬ k2 = k) : us s k j v k2 = s k2 := by
  funext j2
  unfold us
  rw [if_neg (fun q => h q.1)]
theorem us_j {s : PS} {k j j2 : Nat} {v : Int} (h : ¬ j2 = j) (k2 : Nat) : us s k j v k2 j2 = s k2 j2 := by
  unfold us
  rw [if_neg (fun q => h q.2)]
section MirRows
variable {q : Nat → Nat} {tab : List (va_E → Prop)} {w w1 : va_W} {k j ci n : Nat} {ps : List (Value → Prop)} {cA : ClassId} {lo hi : Int}
theorem HT.vi (h : HT q tab w) (ht : tab[k]? = some (objT ci ps)) (hj : ps[j]? = some (iT lo hi)) : (fI w k j).toInt = vw w k j := by
  have e1 := h.o ht
  have e2 := h.fi ht hj
  unfold vw
  rw [e1]
  show _ = (match (oF w k)[j]? with | some (.int v) => v.toInt | some (.long v) => v.toInt | _ => 0)
  rw [e2]
theorem HT.vl (h : HT q tab w) (ht : tab[k]? = some (objT ci ps)) (hj : ps[j]? = some lT) : (fL w k j).toInt = vw w k j := by
  have e1 := h.o ht
  have e2 := h.fl ht hj
  unfold vw
  rw [e1]
  show _ = (match (oF w k)[j]? with | some (.int v) => v.toInt | some (.long v) => v.toInt | _ => 0)
  rw [e2]
theorem HT.va (h : HT q tab w) {P : Int32 → Prop} (ht : tab[k]? = some (arrT cA n P)) (i : Nat) : (aF w k i).toInt = vw w k i := by
  have e1 := h.a ht
  unfold vw
  rw [e1]
theorem HT.vb (h : HT q tab w) (ht : tab[k]? = some (arrL cA n)) (i : Nat) : (aL w k i).toInt = vw w k i := by
  have e1 := h.al ht
  unfold vw
  rw [e1]
theorem HT.rg (h : HT q tab w) (ht : tab[k]? = some (objT ci ps)) (hj : ps[j]? = some (iT lo hi)) : lo ≤ vw w k j ∧ vw w k j ≤ hi := by
  rw [← h.vi ht hj]
  exact h.fin ht hj
theorem HT.ra (h : HT q tab w) (ht : tab[k]? = some (arrT cA n (In lo hi))) (i : Nat) : lo ≤ vw w k i ∧ vw w k i ≤ hi := by
  rw [← h.va ht i]
  exact h.ap ht i
theorem vw_set {x : Nat × va_E} (hk : k < w.length) (e : w1 = w.set k x) {k2 : Nat} (h : ¬ k2 = k) : vw w1 k2 = vw w k2 := by
  funext j2
  unfold vw
  rw [st_ne (k2 := k2) e (fun q => h q.symm)]
theorem vw_sI {v : Int32} {z : Int} (h : HT q tab w) (ht : tab[k]? = some (objT ci ps)) (hj : ps[j]? = some (iT lo hi)) (e : w1 = w.set k (q k, .inr (ci, (oF w k).set j (.int v)))) (hz : v.toInt = z) : vw w1 = us (vw w) k j z := by
  funext k2 j2
  by_cases hk : k2 = k
  · subst hk
    have e1 : w1[k2]? = some (q k2, .inr (ci, (oF w k2).set j (.int v))) := by rw [e, List.getElem?_set_self (h.lt ht)]
    have e0 := h.o ht
    by_cases hjj : j2 = j
    · subst hjj
      rw [us_at]
      unfold vw
      rw [e1]
      show (match ((oF w k2).set j2 (.int v))[j2]? with | some (.int v) => v.toInt | some (.long v) => v.toInt | _ => 0) = z
      rw [List.getElem?_set_self (h.ll ht (List.getElem?_eq_some_iff.mp hj).1)]
      exact hz
    · rw [us_j hjj]
      unfold vw
      rw [e1, e0]
      show (match ((oF w k2).set j (.int v))[j2]? with | some (.int v) => v.toInt | some (.long v) => v.toInt | _ => 0) = (match (oF w k2)[j2]? with | some (.int v) => v.toInt | some (.long v) => v.toInt | _ => 0)
      rw [List.getElem?_set_ne (fun q => hjj q.symm)]
  · rw [us_k hk, vw_set (h.lt ht) e hk]
theorem vw_sL {v : Int64} {z : Int} (h : HT q tab w) (ht : tab[k]? = some (objT ci ps)) (hj : ps[j]? = some lT) (e : w1 = w.set k (q k, .inr (ci, (oF w k).set j (.long v)))) (hz : v.toInt = z) : vw w1 = us (vw w) k j z := by
  funext k2 j2
  by_cases hk : k2 = k
  · subst hk
    have e1 : w1[k2]? = some (q k2, .inr (ci, (oF w k2).set j (.long v))) := by rw [e, List.getElem?_set_self (h.lt ht)]
    have e0 := h.o ht
    by_cases hjj : j2 = j
    · subst hjj
      rw [us_at]
      unfold vw
      rw [e1]
      show (match ((oF w k2).set j2 (.long v))[j2]? with | some (.int v) => v.toInt | some (.long v) => v.toInt | _ => 0) = z
      rw [List.getElem?_set_self (h.ll ht (List.getElem?_eq_some_iff.mp hj).1)]
      exact hz
    · rw [us_j hjj]
      unfold vw
      rw [e1, e0]
      show (match ((oF w k2).set j (.long v))[j2]? with | some (.int v) => v.toInt | some (.long v) => v.toInt | _ => 0) = (match (oF w k2)[j2]? with | some (.int v) => v.toInt | some (.long v) => v.toInt | _ => 0)
      rw [List.getElem?_set_ne (fun q => hjj q.symm)]
  · rw [us_k hk, vw_set (h.lt ht) e hk]
theorem vw_sR {a : Nat} {P : Nat} (h : HT q tab w) (ht : tab[k]? = some (objT ci ps)) (hj : ps[j]? = some (rT P)) (e : w1 = w.set k (q k, .inr (ci, (oF w k).set j (.ref a)))) : vw w1 = vw w := by
  funext k2 j2
  by_cases hk : k2 = k
  · subst hk
    have e1 : w1[k2]? = some (q k2, .inr (ci, (oF w k2).set j (.ref a))) := by rw [e, List.getElem?_set_self (h.lt ht)]
    have e0 := h.o ht
    have er := h.fr ht hj
    unfold vw
    rw [e1, e0]
    show (match ((oF w k2).set j (.ref a))[j2]? with | some (.int v) => v.toInt | some (.long v) => v.toInt | _ => 0) = (match (oF w k2)[j2]? with | some (.int v) => v.toInt | some (.long v) => v.toInt | _ => 0)
    by_cases hjj : j2 = j
    · subst hjj
      rw [List.getElem?_set_self (h.ll ht (List.getElem?_eq_some_iff.mp hj).1), er]
    · rw [List.getElem?_set_ne (fun q => hjj q.symm)]
  · rw [vw_set (h.lt ht) e hk]
theorem vw_uA {P : Int32 → Prop} {v : Int32} {z : Int} {i i2 : Nat} (h : HT q tab w) (ht : tab[k]? = some (arrT cA n P)) (e : w1 = w.set k (q k, .inl (cA, n, .inl (upd (aF w k) i v)))) (hi : i = i2) (hz : v.toInt = z) : vw w1 = us (vw w) k i2 z := by
  subst hi
  funext k2 j2
  by_cases hk : k2 = k
  · subst hk
    have e1 : w1[k2]? = some (q k2, .inl (cA, n, .inl (upd (aF w k2) i v))) := by rw [e, List.getElem?_set_self (h.lt ht)]
    have e0 := h.a ht
    have e2 : vw w1 k2 j2 = (upd (aF w k2) i v j2).toInt := by
      unfold vw
      rw [e1]
    have e3 := h.va ht j2
    rw [e2]
    unfold us upd
    by_cases hjj : j2 = i
    · rw [if_pos hjj, if_pos ⟨rfl, hjj⟩]
      exact hz
    · rw [if_neg hjj, if_neg (fun q => hjj q.2)]
      exact e3
  · rw [us_k hk, vw_set (h.lt ht) e hk]
theorem vw_uL {v : Int64} {z : Int} {i i2 : Nat} (h : HT q tab w) (ht : tab[k]? = some (arrL cA n)) (e : w1 = w.set k (q k, .inl (cA, n, .inr (.inl (vp_updL (aL w k) i v))))) (hi : i = i2) (hz : v.toInt = z) : vw w1 = us (vw w) k i2 z := by
  subst hi
  funext k2 j2
  by_cases hk : k2 = k
  · subst hk
    have e1 : w1[k2]? = some (q k2, .inl (cA, n, .inr (.inl (vp_updL (aL w k2) i v)))) := by rw [e, List.getElem?_set_self (h.lt ht)]
    have e2 : vw w1 k2 j2 = (vp_updL (aL w k2) i v j2).toInt := by
      unfold vw
      rw [e1]
    have e3 := h.vb ht j2
    rw [e2]
    unfold us vp_updL
    by_cases hjj : j2 = i
    · rw [if_pos hjj, if_pos ⟨rfl, hjj⟩]
      exact hz
    · rw [if_neg hjj, if_neg (fun q => hjj q.2)]
      exact e3
  · rw [us_k hk, vw_set (h.lt ht) e hk]
end MirRows
/-! what a call leaves as it was -/
def Fr (ints : List (Nat × Nat)) (ms : List Nat) (fm : List (Nat × Nat)) (s t : PS) : Prop := (∀ k, k ∉ ms → t k = s k) ∧ ∀ k j, k ∈ fm.map Prod.fst → (k, j) ∉ fm → (k, j) ∈ ints → t k j = s k j
def IntsOk (tab : List (va_E → Prop)) (ints : List (Nat × Nat)) : Prop := ∀ p ∈ ints, ∃ ci ps lo hi, tab[p.1]? = some (objT ci ps) ∧ ps[p.2]? = some (iT lo hi)
theorem Sm.Fr {q : Nat → Nat} {tab tab2 : List (va_E → Prop)} {ints : List (Nat × Nat)} {w w1 : va_W} {ms : List Nat} {fm : List (Nat × Nat)} (h : Sm ms fm w w1) (hW : HT q tab w) (hW1 : HT q tab2 w1) (ho : IntsOk tab ints) (ho2 : IntsOk tab2 ints) : Fr ints ms fm (vw w) (vw w1) := by
  refine ⟨fun k hk => ?_, fun k j hk hj hi => ?_⟩
  · funext j
    have e := h.1 k hk
    unfold vw
    rw [e]
  · obtain ⟨ci, ps, lo, hi2, h1, h2⟩ := ho _ hi
    obtain ⟨ci3, ps3, lo3, hi3, h3, h4⟩ := ho2 _ hi
    rw [← hW.vi h1 h2, ← hW1.vi h3 h4, h.2 k j hk hj]
/-- the fields and rows between the bounds of their types -/
def Ty (fr : List (Nat × Nat × Int × Int)) (ar : List (Nat × Int × Int)) (s : PS) : Prop := (∀ p ∈ fr, p.2.2.1 ≤ s p.1 p.2.1 ∧ s p.1 p.2.1 ≤ p.2.2.2) ∧ ∀ p ∈ ar, ∀ i, p.2.1 ≤ s p.1 i ∧ s p.1 i ≤ p.2.2
/-! operations on numbers as the machine does them -/
def wi (z : Int) : Int := z.bmod 4294967296
def wl (z : Int) : Int := z.bmod 18446744073709551616
def iAnd (a b : Int) : Int := (Int32.ofInt a &&& Int32.ofInt b).toInt
def iOr (a b : Int) : Int := (Int32.ofInt a ||| Int32.ofInt b).toInt
def iXor (a b : Int) : Int := (Int32.ofInt a ^^^ Int32.ofInt b).toInt
def iShl (a b : Int) : Int := (Int32.ofInt a <<< (Int32.ofInt b &&& 31)).toInt
def iShr (a b : Int) : Int := (Int32.ofInt a >>> (Int32.ofInt b &&& 31)).toInt
def iUsr (a b : Int) : Int := ((Int32.ofInt a).toUInt32 >>> ((Int32.ofInt b).toUInt32 &&& Int32.toUInt32 31)).toInt32.toInt
def lAnd (a b : Int) : Int := (Int64.ofInt a &&& Int64.ofInt b).toInt
def lOr (a b : Int) : Int := (Int64.ofInt a ||| Int64.ofInt b).toInt
def lXor (a b : Int) : Int := (Int64.ofInt a ^^^ Int64.ofInt b).toInt
def lShl (a b : Int) : Int := (Int64.ofInt a <<< ((Int32.ofInt b).toInt64 &&& 63)).toInt
def lShr (a b : Int) : Int := (Int64.ofInt a >>> ((Int32.ofInt b).toInt64 &&& 63)).toInt
def lUsr (a b : Int) : Int := ((Int64.ofInt a).toUInt64 >>> ((Int32.ofInt b).toInt64.toUInt64 &&& Int64.toUInt64 63)).toInt64.toInt
section MirOps
variable {x y v : Int32} {lx ly lv : Int64} {a b : Int}
theorem z_add (h : (x + y).toInt = x.toInt + y.toInt) (hx : x.toInt = a) (hy : y.toInt = b) : (x + y).toInt = a + b := by rw [h, hx, hy]
theorem z_sub (h : (x - y).toInt = x.toInt - y.toInt) (hx : x.toInt = a) (hy : y.toInt = b) : (x - y).toInt = a - b := by rw [h, hx, hy]
theorem z_addw (hx : x.toInt = a) (hy : y.toInt = b) : (x + y).toInt = wi (a + b) := by rw [Int32.toInt_add, hx, hy]; rfl
theorem z_subw (hx : x.toInt = a) (hy : y.toInt = b) : (x - y).toInt = wi (a - b) := by rw [Int32.toInt_sub, hx, hy]; rfl
theorem z_mulw (hx : x.toInt = a) (hy : y.toInt = b) : (x * y).toInt = wi (a * b) := by rw [Int32.toInt_mul, hx, hy]; rfl
theorem z_negw (hx : x.toInt = a) : (-x).toInt = wi (-a) := by rw [Int32.toInt_neg, hx]; rfl
theorem wi_id {z : Int} (h1 : -2147483648 ≤ z) (h2 : z ≤ 2147483647) : wi z = z := Int.bmod_eq_of_le (by omega) (by omega)
theorem wl_id {z : Int} (h1 : -9223372036854775808 ≤ z) (h2 : z ≤ 9223372036854775807) : wl z = z := Int.bmod_eq_of_le (by omega) (by omega)
theorem z_mul {c d n : Int} (hi : In c d x) (hx : x.toInt = a) (hy : y.toInt = n) (k : 0 ≤ n ∧ -2147483648 ≤ c * n ∧ d * n ≤ 2147483647) : (x * y).toInt = a * n := by
  have h1 := Int.mul_le_mul_of_nonneg_right hi.1 k.1
  have h2 := Int.mul_le_mul_of_nonneg_right hi.2 k.1
  rw [z_mulw hx hy, ← hx, wi_id (by omega) (by omega)]
theorem z_mull {c d n : Int} (hi : In c d x) (hx : x.toInt = a) (hy : y.toInt = n) (k : 0 ≤ n ∧ -2147483648 ≤ c * n ∧ d * n ≤ 2147483647) : (y * x).toInt = n * a := by
  rw [Int32.mul_comm, z_mul hi hx hy k, Int.mul_comm]
theorem z_and (hx : x.toInt = a) (hy : y.toInt = b) : (x &&& y).toInt = iAnd a b := by subst hx; subst hy; unfold iAnd; rw [Int32.ofInt_toInt, Int32.ofInt_toInt]
theorem z_or (hx : x.toInt = a) (hy : y.toInt = b) : (x ||| y).toInt = iOr a b := by subst hx; subst hy; unfold iOr; rw [Int32.ofInt_toInt, Int32.ofInt_toInt]
theorem z_xor (hx : x.toInt = a) (hy : y.toInt = b) : (x ^^^ y).toInt = iXor a b := by subst hx; subst hy; unfold iXor; rw [Int32.ofInt_toInt, Int32.ofInt_toInt]
theorem z_shl (hx : x.toInt = a) (hy : y.toInt = b) : (x <<< (y &&& 31)).toInt = iShl a b := by subst hx; subst hy; unfold iShl; rw [Int32.ofInt_toInt, Int32.ofInt_toInt]
theorem z_shr (hx : x.toInt = a) (hy : y.toInt = b) : (x >>> (y &&& 31)).toInt = iShr a b := by subst hx; subst hy; unfold iShr; rw [Int32.ofInt_toInt, Int32.ofInt_toInt]
theorem z_usr (hx : x.toInt = a) (hy : y.toInt = b) : ((x.toUInt32 >>> (y.toUInt32 &&& Int32.toUInt32 31)).toInt32).toInt = iUsr a b := by subst hx; subst hy; unfold iUsr; rw [Int32.ofInt_toInt, Int32.ofInt_toInt]
theorem z_ladd (hx : lx.toInt = a) (hy : ly.toInt = b) : (lx + ly).toInt = wl (a + b) := by rw [Int64.toInt_add, hx, hy]; rfl
theorem z_lsub (hx : lx.toInt = a) (hy : ly.toInt = b) : (lx - ly).toInt = wl (a - b) := by rw [Int64.toInt_sub, hx, hy]; rfl
theorem z_lmul (hx : lx.toInt = a) (hy : ly.toInt = b) : (lx * ly).toInt = wl (a * b) := by rw [Int64.toInt_mul, hx, hy]; rfl
theorem z_lneg (hx : lx.toInt = a) : (-lx).toInt = wl (-a) := by rw [Int64.toInt_neg, hx]; rfl
theorem z_land (hx : lx.toInt = a) (hy : ly.toInt = b) : (lx &&& ly).toInt = lAnd a b := by subst hx; subst hy; unfold lAnd; rw [Int64.ofInt_toInt, Int64.ofInt_toInt]
theorem z_lor (hx : lx.toInt = a) (hy : ly.toInt = b) : (lx ||| ly).toInt = lOr a b := by subst hx; subst hy; unfold lOr; rw [Int64.ofInt_toInt, Int64.ofInt_toInt]
theorem z_lxor (hx : lx.toInt = a) (hy : ly.toInt = b) : (lx ^^^ ly).toInt = lXor a b := by subst hx; subst hy; unfold lXor; rw [Int64.ofInt_toInt, Int64.ofInt_toInt]
theorem z_lshl (hx : lx.toInt = a) (hy : y.toInt = b) : (lx <<< (y.toInt64 &&& 63)).toInt = lShl a b := by subst hx; subst hy; unfold lShl; rw [Int64.ofInt_toInt, Int32.ofInt_toInt]
theorem z_lshr (hx : lx.toInt = a) (hy : y.toInt = b) : (lx >>> (y.toInt64 &&& 63)).toInt = lShr a b := by subst hx; subst hy; unfold lShr; rw [Int64.ofInt_toInt, Int32.ofInt_toInt]
theorem z_lusr (hx : lx.toInt = a) (hy : y.toInt = b) : ((lx.toUInt64 >>> (y.toInt64.toUInt64 &&& Int64.toUInt64 63)).toInt64).toInt = lUsr a b := by subst hx; subst hy; unfold lUsr; rw [Int64.ofInt_toInt, Int32.ofInt_toInt]
theorem z_i2l (hx : x.toInt = a) : x.toInt64.toInt = a := by rw [Int32.toInt_toInt64, hx]
theorem z_l2i (hx : lx.toInt = a) : lx.toInt32.toInt = wi a := by rw [Int64.toInt_toInt32, hx]; rfl
theorem z_of {z : Int} (e : v = x) (h : x.toInt = z) : v.toInt = z := by rw [e, h]
theorem z_ofl {z : Int} (e : lv = lx) (h : lx.toInt = z) : lv.toInt = z := by rw [e, h]
theorem z_min (hx : x.toInt = a) (hy : y.toInt = b) : (if y < x then y else x).toInt = min a b := by
  split
  · rename_i h; rw [q_lt] at h; omega
  · rename_i h; rw [q_lt] at h; omega
theorem z_max (hx : x.toInt = a) (hy : y.toInt = b) : (if x < y then y else x).toInt = max a b := by
  split
  · rename_i h; rw [q_lt] at h; omega
  · rename_i h; rw [q_lt] at h; omega
theorem z_lt (h : x < y) (hx : x.toInt = a) (hy : y.toInt = b) : a < b := by rw [← hx, ← hy]; exact q_lt.mp h
theorem z_nlt (h : ¬ x < y) (hx : x.toInt = a) (hy : y.toInt = b) : ¬ a < b := by rw [← hx, ← hy]; exact fun k => h (q_lt.mpr k)
theorem z_le (h : x ≤ y) (hx : x.toInt = a) (hy : y.toInt = b) : a ≤ b := by rw [← hx, ← hy]; exact q_le.mp h
theorem z_nle (h : ¬ x ≤ y) (hx : x.toInt = a) (hy : y.toInt = b) : ¬ a ≤ b := by rw [← hx, ← hy]; exact fun k => h (q_le.mpr k)
theorem z_eq (h : x = y) (hx : x.toInt = a) (hy : y.toInt = b) : a = b := by rw [← hx, ← hy, h]
theorem z_neq (h : ¬ x = y) (hx : x.toInt = a) (hy : y.toInt = b) : ¬ a = b := by rw [← hx, ← hy]; exact fun k => h (q_eq.mpr k)
/-- of two longs, by lcmp against 0 -/
theorem z_llt (h : v < 0) (e : v = lg_cmp lx ly) (hx : lx.toInt = a) (hy : ly.toInt = b) : a < b := by
  have r := lc_all e
  have k := q_lt.mp h
  have z : (0 : Int32).toInt = 0 := by decide
  omega
theorem z_nllt (h : ¬ v < 0) (e : v = lg_cmp lx ly) (hx : lx.toInt = a) (hy : ly.toInt = b) : ¬ a < b := by
  have r := lc_all e
  have k : ¬ v.toInt < (0 : Int32).toInt := fun k => h (q_lt.mpr k)
  have z : (0 : Int32).toInt = 0 := by decide
  omega
theorem z_lgt (h : 0 < v) (e : v = lg_cmp lx ly) (hx : lx.toInt = a) (hy : ly.toInt = b) : b < a := by
  have r := lc_all e
  have k := q_lt.mp h
  have z : (0 : Int32).toInt = 0 := by decide
  omega
theorem z_nlgt (h : ¬ 0 < v) (e : v = lg_cmp lx ly) (hx : lx.toInt = a) (hy : ly.toInt = b) : ¬ b < a := by
  have r := lc_all e
  have k : ¬ (0 : Int32).toInt < v.toInt := fun k => h (q_lt.mpr k)
  have z : (0 : Int32).toInt = 0 := by decide
  omega
theorem z_lle (h : v ≤ 0) (e : v = lg_cmp lx ly) (hx : lx.toInt = a) (hy : ly.toInt = b) : a ≤ b := by
  have r := lc_all e
  have k := q_le.mp h
  have z : (0 : Int32).toInt = 0 := by decide
  omega
theorem z_nlle (h : ¬ v ≤ 0) (e : v = lg_cmp lx ly) (hx : lx.toInt = a) (hy : ly.toInt = b) : ¬ a ≤ b := by
  have r := lc_all e
  have k : ¬ v.toInt ≤ (0 : Int32).toInt := fun k => h (q_le.mpr k)
  have z : (0 : Int32).toInt = 0 := by decide
  omega
theorem z_lge (h : 0 ≤ v) (e : v = lg_cmp lx ly) (hx : lx.toInt = a) (hy : ly.toInt = b) : b ≤ a := by
  have r := lc_all e
  have k := q_le.mp h
  have z : (0 : Int32).toInt = 0 := by decide
  omega
theorem z_nlge (h : ¬ 0 ≤ v) (e : v = lg_cmp lx ly) (hx : lx.toInt = a) (hy : ly.toInt = b) : ¬ b ≤ a := by
  have r := lc_all e
  have k : ¬ (0 : Int32).toInt ≤ v.toInt := fun k => h (q_le.mpr k)
  have z : (0 : Int32).toInt = 0 := by decide
  omega
theorem z_leq (h : v = 0) (e : v = lg_cmp lx ly) (hx : lx.toInt = a) (hy : ly.toInt = b) : a = b := by
  have r := lc_all e
  have z : v.toInt = 0 := by rw [h]; decide
  omega
theorem z_nleq (h : ¬ v = 0) (e : v = lg_cmp lx ly) (hx : lx.toInt = a) (hy : ly.toInt = b) : ¬ a = b := by
  have r := lc_all e
  have k : ¬ v.toInt = (0 : Int32).toInt := fun k => h (q_eq.mpr k)
  have z : (0 : Int32).toInt = 0 := by decide
  omega
theorem z_ix (hx : x.toInt = a) : x.toNatClampNeg = a.toNat := by
  show x.toInt.toNat = _
  rw [hx]
theorem z_nar (h : In 0 1 x) (hx : x.toInt = a) : (vp_nar .boolean x).toInt = a := by
  have e : vp_nar .boolean x = x := by
    unfold vp_nar
    rw [nar_z h]
  rw [e, hx]
theorem z_pin {c d : Int} (h : In c d x) (hx : x.toInt = a) : c ≤ a ∧ a ≤ d := by rw [← hx]; exact h
end MirOps
section MirCg
variable {a1 a2 a3 a4 a5 a6 a7 a8 b1 b2 b3 b4 b5 b6 b7 b8 r : Int} {s t : PS}
theorem cgK_0 {K : PS → Int → PS → Prop} (h : K s r t) : K s r t := h
theorem cgK_1 {K : Int → PS → Int → PS → Prop} (h : K a1 s r t) (e1 : a1 = b1) : K b1 s r t := by subst e1; exact h
theorem cgK_2 {K : Int → Int → PS → Int → PS → Prop} (h : K a1 a2 s r t) (e1 : a1 = b1) (e2 : a2 = b2) : K b1 b2 s r t := by subst e1; subst e2; exact h
theorem cgK_3 {K : Int → Int → Int → PS → Int → PS → Prop} (h : K a1 a2 a3 s r t) (e1 : a1 = b1) (e2 : a2 = b2) (e3 : a3 = b3) : K b1 b2 b3 s r t := by subst e1; subst e2; subst e3; exact h
theorem cgK_4 {K : Int → Int → Int → Int → PS → Int → PS → Prop} (h : K a1 a2 a3 a4 s r t) (e1 : a1 = b1) (e2 : a2 = b2) (e3 : a3 = b3) (e4 : a4 = b4) : K b1 b2 b3 b4 s r t := by subst e1; subst e2; subst e3; subst e4; exact h
theorem cgK_5 {K : Int → Int → Int → Int → Int → PS → Int → PS → Prop} (h : K a1 a2 a3 a4 a5 s r t) (e1 : a1 = b1) (e2 : a2 = b2) (e3 : a3 = b3) (e4 : a4 = b4) (e5 : a5 = b5) : K b1 b2 b3 b4 b5 s r t := by subst e1; subst e2; subst e3; subst e4; subst e5; exact h
theorem cgK_6 {K : Int → Int → Int → Int → Int → Int → PS → Int → PS → Prop} (h : K a1 a2 a3 a4 a5 a6 s r t) (e1 : a1 = b1) (e2 : a2 = b2) (e3 : a3 = b3) (e4 : a4 = b4) (e5 : a5 = b5) (e6 : a6 = b6) : K b1 b2 b3 b4 b5 b6 s r t := by subst e1; subst e2; subst e3; subst e4; subst e5; subst e6; exact h
theorem cgK_7 {K : Int → Int → Int → Int → Int → Int → Int → PS → Int → PS → Prop} (h : K a1 a2 a3 a4 a5 a6 a7 s r t) (e1 : a1 = b1) (e2 : a2 = b2) (e3 : a3 = b3) (e4 : a4 = b4) (e5 : a5 = b5) (e6 : a6 = b6) (e7 : a7 = b7) : K b1 b2 b3 b4 b5 b6 b7 s r t := by subst e1; subst e2; subst e3; subst e4; subst e5; subst e6; subst e7; exact h
theorem cgK_8 {K : Int → Int → Int → Int → Int → Int → Int → Int → PS → Int → PS → Prop} (h : K a1 a2 a3 a4 a5 a6 a7 a8 s r t) (e1 : a1 = b1) (e2 : a2 = b2) (e3 : a3 = b3) (e4 : a4 = b4) (e5 : a5 = b5) (e6 : a6 = b6) (e7 : a7 = b7) (e8 : a8 = b8) : K b1 b2 b3 b4 b5 b6 b7 b8 s r t := by subst e1; subst e2; subst e3; subst e4; subst e5; subst e6; subst e7; subst e8; exact h
end MirCg
section MirCm
variable {a1 a2 a3 a4 a5 a6 a7 b1 b2 b3 b4 b5 b6 b7 r : Int} {s t : PS}
theorem cgM_1 {M : PS → Int → Int → PS → Prop} (h : M s a1 r t) (e1 : a1 = b1) : M s b1 r t := by subst e1; exact h
theorem cgM_2 {M : PS → Int → Int → Int → PS → Prop} (h : M s a1 a2 r t) (e1 : a1 = b1) (e2 : a2 = b2) : M s b1 b2 r t := by subst e1; subst e2; exact h
theorem cgM_3 {M : PS → Int → Int → Int → Int → PS → Prop} (h : M s a1 a2 a3 r t) (e1 : a1 = b1) (e2 : a2 = b2) (e3 : a3 = b3) : M s b1 b2 b3 r t := by subst e1; subst e2; subst e3; exact h
theorem cgM_4 {M : PS → Int → Int → Int → Int → Int → PS → Prop} (h : M s a1 a2 a3 a4 r t) (e1 : a1 = b1) (e2 : a2 = b2) (e3 : a3 = b3) (e4 : a4 = b4) : M s b1 b2 b3 b4 r t := by subst e1; subst e2; subst e3; subst e4; exact h
theorem cgM_5 {M : PS → Int → Int → Int → Int → Int → Int → PS → Prop} (h : M s a1 a2 a3 a4 a5 r t) (e1 : a1 = b1) (e2 : a2 = b2) (e3 : a3 = b3) (e4 : a4 = b4) (e5 : a5 = b5) : M s b1 b2 b3 b4 b5 r t := by subst e1; subst e2; subst e3; subst e4; subst e5; exact h
theorem cgM_6 {M : PS → Int → Int → Int → Int → Int → Int → Int → PS → Prop} (h : M s a1 a2 a3 a4 a5 a6 r t) (e1 : a1 = b1) (e2 : a2 = b2) (e3 : a3 = b3) (e4 : a4 = b4) (e5 : a5 = b5) (e6 : a6 = b6) : M s b1 b2 b3 b4 b5 b6 r t := by subst e1; subst e2; subst e3; subst e4; subst e5; subst e6; exact h
theorem cgM_7 {M : PS → Int → Int → Int → Int → Int → Int → Int → Int → PS → Prop} (h : M s a1 a2 a3 a4 a5 a6 a7 r t) (e1 : a1 = b1) (e2 : a2 = b2) (e3 : a3 = b3) (e4 : a4 = b4) (e5 : a5 = b5) (e6 : a6 = b6) (e7 : a7 = b7) : M s b1 b2 b3 b4 b5 b6 b7 r t := by subst e1; subst e2; subst e3; subst e4; subst e5; subst e6; subst e7; exact h
end MirCm
section MirLm
variable {lx ly : Int64} {a b : Int}
theorem z_lmin (hx : lx.toInt = a) (hy : ly.toInt = b) : (if ly < lx then ly else lx).toInt = min a b := by
  split
  · rename_i h; rw [Int64.lt_iff_toInt_lt] at h; omega
  · rename_i h; rw [Int64.lt_iff_toInt_lt] at h; omega
theorem z_lmax (hx : lx.toInt = a) (hy : ly.toInt = b) : (if ly < lx then lx else ly).toInt = max a b := by
  split
  · rename_i h; rw [Int64.lt_iff_toInt_lt] at h; omega
  · rename_i h; rw [Int64.lt_iff_toInt_lt] at h; omega
end MirLm
theorem In_ne1 {hi : Int} {x : Int32} (h : In 0 hi x) : ¬ x = -1 := by
  intro e
  subst e
  have z : (-1 : Int32).toInt = -1 := by decide
  unfold In at h
  omega
