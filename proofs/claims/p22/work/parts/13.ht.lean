/-! numbers between two others -/
def In (lo hi : Int) (x : Int32) : Prop := lo ≤ x.toInt ∧ x.toInt ≤ hi
section InRows
variable {a b c d lo hi : Int} {x y : Int32}
theorem In_w (h : In a b x) (k : lo ≤ a ∧ b ≤ hi) : In lo hi x := ⟨Int.le_trans k.1 h.1, Int.le_trans h.2 k.2⟩
theorem In_any (x : Int32) : In (-2147483648) 2147483647 x := by
  have h1 := Int32.le_toInt x
  have h2 := Int32.toInt_lt x
  unfold In
  omega
theorem In_lit {n : Int} (h : x.toInt = n) (k : lo ≤ n ∧ n ≤ hi) : In lo hi x := by
  unfold In
  omega
theorem In_no (h : In lo hi x) (k : hi < lo) : False := by
  unfold In at h
  omega
theorem bm_id {z : Int} (h1 : -2147483648 ≤ z) (h2 : z ≤ 2147483647) : z.bmod (2 ^ 32) = z := Int.bmod_eq_of_le (by omega) (by omega)
theorem t_add (hx : In a b x) (hy : In c d y) (k : -2147483648 ≤ a + c ∧ b + d ≤ 2147483647) : (x + y).toInt = x.toInt + y.toInt := by
  unfold In at *
  rw [Int32.toInt_add, bm_id (by omega) (by omega)]
theorem t_sub (hx : In a b x) (hy : In c d y) (k : -2147483648 ≤ a - d ∧ b - c ≤ 2147483647) : (x - y).toInt = x.toInt - y.toInt := by
  unfold In at *
  rw [Int32.toInt_sub, bm_id (by omega) (by omega)]
theorem In_add (hx : In a b x) (hy : In c d y) (k : (-2147483648 ≤ a + c ∧ b + d ≤ 2147483647) ∧ lo ≤ a + c ∧ b + d ≤ hi) : In lo hi (x + y) := by
  have t := t_add hx hy k.1
  unfold In at *
  omega
theorem In_sub (hx : In a b x) (hy : In c d y) (k : (-2147483648 ≤ a - d ∧ b - c ≤ 2147483647) ∧ lo ≤ a - d ∧ b - c ≤ hi) : In lo hi (x - y) := by
  have t := t_sub hx hy k.1
  unfold In at *
  omega
theorem In_mulr {n : Int} (hx : In a b x) (hy : y.toInt = n) (k : 0 ≤ n ∧ -2147483648 ≤ a * n ∧ b * n ≤ 2147483647 ∧ lo ≤ a * n ∧ b * n ≤ hi) : In lo hi (x * y) := by
  have h1 := Int.mul_le_mul_of_nonneg_right hx.1 k.1
  have h2 := Int.mul_le_mul_of_nonneg_right hx.2 k.1
  unfold In at *
  rw [Int32.toInt_mul, hy, bm_id (by omega) (by omega)]
  omega
theorem In_mull {n : Int} (hx : In a b x) (hy : y.toInt = n) (k : 0 ≤ n ∧ -2147483648 ≤ a * n ∧ b * n ≤ 2147483647 ∧ lo ≤ a * n ∧ b * n ≤ hi) : In lo hi (y * x) := by
  have h1 := Int.mul_le_mul_of_nonneg_right hx.1 k.1
  have h2 := Int.mul_le_mul_of_nonneg_right hx.2 k.1
  unfold In at *
  rw [Int32.toInt_mul, hy, Int.mul_comm, bm_id (by omega) (by omega)]
  omega
theorem In_and {n : Int} (hy : y.toInt = n) (k : 0 ≤ n) : In 0 n (x &&& y) := by
  have e1 : (x &&& y).toInt = (x.toBitVec &&& y.toBitVec).toInt := rfl
  have h2 : (x.toBitVec &&& y.toBitVec).toNat ≤ y.toBitVec.toNat := by rw [BitVec.toNat_and]; exact Nat.and_le_right
  have hy' : y.toBitVec.toInt = n := hy
  have h3 := y.toBitVec.isLt
  rw [BitVec.toInt_eq_toNat_cond] at hy'
  unfold In
  rw [e1, BitVec.toInt_eq_toNat_cond]
  split at hy' <;> split <;> omega
theorem In_min (hx : In a b x) (hy : In c d y) (k : lo ≤ a ∧ lo ≤ c ∧ (b ≤ hi ∨ d ≤ hi)) : In lo hi (if y < x then y else x) := by
  unfold In at *
  split
  · rename_i h; rw [q_lt] at h; omega
  · rename_i h; rw [q_lt] at h; omega
theorem In_max (hx : In a b x) (hy : In c d y) (k : (lo ≤ a ∨ lo ≤ c) ∧ b ≤ hi ∧ d ≤ hi) : In lo hi (if x < y then y else x) := by
  unfold In at *
  split
  · rename_i h; rw [q_lt] at h; omega
  · rename_i h; rw [q_lt] at h; omega
theorem R_lt_l (hx : In a b x) (hy : In c d y) (h : x < y) (k : lo ≤ a ∧ (b ≤ hi ∨ d ≤ hi + 1)) : In lo hi x := by unfold In at *; rw [q_lt] at h; omega
theorem R_lt_r (hx : In a b x) (hy : In c d y) (h : x < y) (k : (lo ≤ c ∨ lo ≤ a + 1) ∧ d ≤ hi) : In lo hi y := by unfold In at *; rw [q_lt] at h; omega
theorem R_nlt_l (hx : In a b x) (hy : In c d y) (h : ¬ x < y) (k : (lo ≤ a ∨ lo ≤ c) ∧ b ≤ hi) : In lo hi x := by unfold In at *; rw [q_lt] at h; omega
theorem R_nlt_r (hx : In a b x) (hy : In c d y) (h : ¬ x < y) (k : lo ≤ c ∧ (d ≤ hi ∨ b ≤ hi)) : In lo hi y := by unfold In at *; rw [q_lt] at h; omega
theorem R_le_l (hx : In a b x) (hy : In c d y) (h : x ≤ y) (k : lo ≤ a ∧ (b ≤ hi ∨ d ≤ hi)) : In lo hi x := by unfold In at *; rw [q_le] at h; omega
theorem R_le_r (hx : In a b x) (hy : In c d y) (h : x ≤ y) (k : (lo ≤ c ∨ lo ≤ a) ∧ d ≤ hi) : In lo hi y := by unfold In at *; rw [q_le] at h; omega
theorem R_nle_l (hx : In a b x) (hy : In c d y) (h : ¬ x ≤ y) (k : (lo ≤ a ∨ lo ≤ c + 1) ∧ b ≤ hi) : In lo hi x := by unfold In at *; rw [q_le] at h; omega
theorem R_nle_r (hx : In a b x) (hy : In c d y) (h : ¬ x ≤ y) (k : lo ≤ c ∧ (d ≤ hi ∨ b ≤ hi + 1)) : In lo hi y := by unfold In at *; rw [q_le] at h; omega
theorem R_eq_l (hx : In a b x) (hy : In c d y) (h : x = y) (k : (lo ≤ a ∨ lo ≤ c) ∧ (b ≤ hi ∨ d ≤ hi)) : In lo hi x := by unfold In at *; rw [q_eq] at h; omega
theorem R_eq_r (hx : In a b x) (hy : In c d y) (h : x = y) (k : (lo ≤ a ∨ lo ≤ c) ∧ (b ≤ hi ∨ d ≤ hi)) : In lo hi y := by unfold In at *; rw [q_eq] at h; omega
theorem R_ne_l (hx : In a b x) (hy : In c d y) (h : ¬ x = y) (k : (lo ≤ a ∨ (a = c ∧ c = d ∧ lo ≤ a + 1)) ∧ (b ≤ hi ∨ (b = c ∧ c = d ∧ b ≤ hi + 1))) : In lo hi x := by unfold In at *; rw [q_eq] at h; omega
theorem R_ne_r (hx : In a b x) (hy : In c d y) (h : ¬ x = y) (k : (lo ≤ c ∨ (a = c ∧ a = b ∧ lo ≤ c + 1)) ∧ (d ≤ hi ∨ (d = b ∧ a = b ∧ d ≤ hi + 1))) : In lo hi y := by unfold In at *; rw [q_eq] at h; omega
theorem in_I {n : Nat} (h : In lo hi x) (k : 0 ≤ lo ∧ hi < (n : Int)) : vp_in x n := vp_in_iff.mpr (by unfold In at h; omega)
theorem nar_z (h : In 0 1 x) : narrow .boolean (.int x) = .int x := by
  have e : x = 0 ∨ x = 1 := by
    unfold In at h
    rw [q_eq, q_eq]
    have z0 : (0 : Int32).toInt = 0 := by decide
    have z1 : (1 : Int32).toInt = 1 := by decide
    omega
  rcases e with rfl | rfl <;> rfl
theorem vnar_z (x : Int32) : In 0 1 (vp_nar .boolean x) := by
  have h : narrow .boolean (.int x) = .int (x &&& 1) := rfl
  unfold vp_nar
  rw [h]
  exact In_and (n := 1) (by decide) (by decide)
theorem mu_up {h u v : Int} {N : Nat} (hmu : (h - u).toNat < N + 1) (h1 : u < v) (h2 : v ≤ h) : (h - v).toNat < N := by omega
theorem mu_dn {h u v : Int} {N : Nat} (hmu : (u - h).toNat < N + 1) (h1 : v < u) (h2 : h ≤ v) : (v - h).toNat < N := by omega
end InRows
/-! worlds by the types of their cells -/
def objT (ci : Nat) (ps : List (Value → Prop)) (e : va_E) : Prop := ∃ fs : List Value, e = .inr (ci, fs) ∧ fs.length = ps.length ∧ ∀ (j : Nat) (P : Value → Prop), ps[j]? = some P → ∃ v, fs[j]? = some v ∧ P v
def arrT (cA : ClassId) (n : Nat) (P : Int32 → Prop) (e : va_E) : Prop := ∃ f : Nat → Int32, e = .inl (cA, n, .inl f) ∧ ∀ i, P (f i)
def arrL (cA : ClassId) (n : Nat) (e : va_E) : Prop := ∃ f : Nat → Int64, e = .inl (cA, n, .inr (.inl f))
def iT (lo hi : Int) (v : Value) : Prop := ∃ x : Int32, v = .int x ∧ In lo hi x
def lT (v : Value) : Prop := ∃ x : Int64, v = .long x
def rT (a : Nat) (v : Value) : Prop := v = .ref a
def HT (q : Nat → Nat) (tab : List (va_E → Prop)) (w : va_W) : Prop := w.length = tab.length ∧ ∀ (k : Nat) (P : va_E → Prop), tab[k]? = some P → ∃ e, w[k]? = some (q k, e) ∧ P e
def oF (w : va_W) (k : Nat) : List Value := match w[k]? with
  | some (_, .inr (_, fs)) => fs
  | _ => []
def aF (w : va_W) (k : Nat) : Nat → Int32 := match w[k]? with
  | some (_, .inl (_, _, .inl f)) => f
  | _ => fun _ => 0
def aL (w : va_W) (k : Nat) : Nat → Int64 := match w[k]? with
  | some (_, .inl (_, _, .inr (.inl f))) => f
  | _ => fun _ => 0
def fI (w : va_W) (k j : Nat) : Int32 := match (oF w k)[j]? with
  | some (.int v) => v
  | _ => 0
def fL (w : va_W) (k j : Nat) : Int64 := match (oF w k)[j]? with
  | some (.long v) => v
  | _ => 0
section HTRows
variable {q : Nat → Nat} {tab : List (va_E → Prop)} {w w0 w1 : va_W} {k j ci n : Nat} {ps : List (Value → Prop)} {cA : ClassId} {lo hi : Int}
theorem HT.o (h : HT q tab w) (ht : tab[k]? = some (objT ci ps)) : w[k]? = some (q k, .inr (ci, oF w k)) := by
  obtain ⟨e, he, fs, rfl, _⟩ := h.2 k _ ht
  have e2 : oF w k = fs := by unfold oF; rw [he]
  rw [he, e2]
theorem HT.ol (h : HT q tab w) (ht : tab[k]? = some (objT ci ps)) : (oF w k).length = ps.length := by
  obtain ⟨e, he, fs, rfl, hl, _⟩ := h.2 k _ ht
  have e2 : oF w k = fs := by unfold oF; rw [he]
  rw [e2, hl]
theorem HT.ll (h : HT q tab w) (ht : tab[k]? = some (objT ci ps)) (hj : j < ps.length) : j < (oF w k).length := by rw [h.ol ht]; exact hj
theorem HT.fp (h : HT q tab w) (ht : tab[k]? = some (objT ci ps)) {P : Value → Prop} (hj : ps[j]? = some P) : ∃ v, (oF w k)[j]? = some v ∧ P v := by
  obtain ⟨e, he, fs, rfl, hl, hf⟩ := h.2 k _ ht
  have e2 : oF w k = fs := by unfold oF; rw [he]
  rw [e2]
  exact hf j P hj
theorem HT.fi (h : HT q tab w) (ht : tab[k]? = some (objT ci ps)) (hj : ps[j]? = some (iT lo hi)) : (oF w k)[j]? = some (.int (fI w k j)) := by
  obtain ⟨v, hv, x, rfl, hx⟩ := h.fp ht hj
  have e2 : fI w k j = x := by unfold fI; rw [hv]
  rw [hv, e2]
theorem HT.fin (h : HT q tab w) (ht : tab[k]? = some (objT ci ps)) (hj : ps[j]? = some (iT lo hi)) : In lo hi (fI w k j) := by
  obtain ⟨v, hv, x, rfl, hx⟩ := h.fp ht hj
  have e2 : fI w k j = x := by unfold fI; rw [hv]
  rw [e2]; exact hx
theorem HT.fl (h : HT q tab w) (ht : tab[k]? = some (objT ci ps)) (hj : ps[j]? = some lT) : (oF w k)[j]? = some (.long (fL w k j)) := by
  obtain ⟨v, hv, x, rfl⟩ := h.fp ht hj
  have e2 : fL w k j = x := by unfold fL; rw [hv]
  rw [hv, e2]
theorem HT.fr (h : HT q tab w) (ht : tab[k]? = some (objT ci ps)) {a : Nat} (hj : ps[j]? = some (rT a)) : (oF w k)[j]? = some (.ref a) := by
  obtain ⟨v, hv, hx⟩ := h.fp ht hj
  unfold rT at hx
  rw [hv, hx]
theorem HT.a (h : HT q tab w) {P : Int32 → Prop} (ht : tab[k]? = some (arrT cA n P)) : w[k]? = some (q k, .inl (cA, n, .inl (aF w k))) := by
  obtain ⟨e, he, f, rfl, _⟩ := h.2 k _ ht
  have e2 : aF w k = f := by unfold aF; rw [he]
  rw [he, e2]
theorem HT.ap (h : HT q tab w) {P : Int32 → Prop} (ht : tab[k]? = some (arrT cA n P)) (i : Nat) : P (aF w k i) := by
  obtain ⟨e, he, f, rfl, hf⟩ := h.2 k _ ht
  have e2 : aF w k = f := by unfold aF; rw [he]
  rw [e2]; exact hf i
theorem HT.al (h : HT q tab w) (ht : tab[k]? = some (arrL cA n)) : w[k]? = some (q k, .inl (cA, n, .inr (.inl (aL w k)))) := by
  obtain ⟨e, he, f, rfl⟩ := h.2 k _ ht
  have e2 : aL w k = f := by unfold aL; rw [he]
  rw [he, e2]
theorem HT.lt (h : HT q tab w) {P : va_E → Prop} (ht : tab[k]? = some P) : k < w.length := by rw [h.1]; exact (List.getElem?_eq_some_iff.mp ht).1
theorem HT.put (h : HT q tab w) {P : va_E → Prop} (ht : tab[k]? = some P) {e : va_E} (he : P e) : HT q tab (w.set k (q k, e)) := by
  have hk := h.lt ht
  refine ⟨by rw [List.length_set]; exact h.1, fun k2 P2 h2 => ?_⟩
  by_cases hkk : k = k2
  · subst hkk
    rw [ht] at h2
    cases h2
    exact ⟨e, by rw [List.getElem?_set_self hk], he⟩
  · obtain ⟨e2, h3, h4⟩ := h.2 k2 P2 h2
    exact ⟨e2, by rw [List.getElem?_set_ne hkk]; exact h3, h4⟩
theorem HT.sP (h : HT q tab w) (ht : tab[k]? = some (objT ci ps)) {P : Value → Prop} (hj : ps[j]? = some P) {v : Value} (hv : P v) : HT q tab (w.set k (q k, .inr (ci, (oF w k).set j v))) := by
  refine h.put ht ⟨_, rfl, by rw [List.length_set]; exact h.ol ht, fun j2 P2 h2 => ?_⟩
  by_cases hjj : j = j2
  · subst hjj
    rw [hj] at h2
    cases h2
    exact ⟨v, by rw [List.getElem?_set_self (h.ll ht (List.getElem?_eq_some_iff.mp hj).1)], hv⟩
  · obtain ⟨v2, h3, h4⟩ := h.fp ht h2
    exact ⟨v2, by rw [List.getElem?_set_ne hjj]; exact h3, h4⟩
theorem HT.sI (h : HT q tab w) (ht : tab[k]? = some (objT ci ps)) (hj : ps[j]? = some (iT lo hi)) {v : Int32} (hv : In lo hi v) : HT q tab (w.set k (q k, .inr (ci, (oF w k).set j (.int v)))) := h.sP ht hj ⟨v, rfl, hv⟩
theorem HT.sL (h : HT q tab w) (ht : tab[k]? = some (objT ci ps)) (hj : ps[j]? = some lT) {v : Int64} : HT q tab (w.set k (q k, .inr (ci, (oF w k).set j (.long v)))) := h.sP ht hj ⟨v, rfl⟩
theorem HT.uA (h : HT q tab w) {P : Int32 → Prop} (ht : tab[k]? = some (arrT cA n P)) {i : Nat} {v : Int32} (hv : P v) : HT q tab (w.set k (q k, .inl (cA, n, .inl (upd (aF w k) i v)))) := by
  refine h.put ht ⟨_, rfl, fun i2 => ?_⟩
  unfold upd
  split
  · exact hv
  · exact h.ap ht i2
theorem HT.uL (h : HT q tab w) (ht : tab[k]? = some (arrL cA n)) {i : Nat} {v : Int64} : HT q tab (w.set k (q k, .inl (cA, n, .inr (.inl (vp_updL (aL w k) i v))))) := h.put ht ⟨_, rfl⟩
/-! reads behind a write -/
theorem oF_cg (h : w1[k]? = w[k]?) : oF w1 k = oF w k := by unfold oF; rw [h]
theorem fI_cg (h : w1[k]? = w[k]?) : fI w1 k j = fI w k j := by unfold fI; rw [oF_cg h]
theorem fL_cg (h : w1[k]? = w[k]?) : fL w1 k j = fL w k j := by unfold fL; rw [oF_cg h]
theorem aF_cg (h : w1[k]? = w[k]?) : aF w1 k = aF w k := by unfold aF; rw [h]
theorem aL_cg (h : w1[k]? = w[k]?) : aL w1 k = aL w k := by unfold aL; rw [h]
theorem st_ne {k2 : Nat} {x : Nat × va_E} (e : w1 = w.set k x) (h : k ≠ k2) : w1[k2]? = w[k2]? := by rw [e, List.getElem?_set_ne h]
theorem oF_set {a : Nat} {v : Value} (hk : k < w.length) (e : w1 = w.set k (a, .inr (ci, (oF w k).set j v))) : oF w1 k = (oF w k).set j v := by
  have h : w1[k]? = some (a, .inr (ci, (oF w k).set j v)) := by rw [e, List.getElem?_set_self hk]
  unfold oF at h ⊢
  rw [h]
theorem fI_nej {a j2 : Nat} {v : Value} (hk : k < w.length) (e : w1 = w.set k (a, .inr (ci, (oF w k).set j v))) (h : j ≠ j2) : fI w1 k j2 = fI w k j2 := by
  unfold fI; rw [oF_set hk e, List.getElem?_set_ne h]
theorem fL_nej {a j2 : Nat} {v : Value} (hk : k < w.length) (e : w1 = w.set k (a, .inr (ci, (oF w k).set j v))) (h : j ≠ j2) : fL w1 k j2 = fL w k j2 := by
  unfold fL; rw [oF_set hk e, List.getElem?_set_ne h]
theorem fI_eq {a : Nat} {v : Int32} (hk : k < w.length) (e : w1 = w.set k (a, .inr (ci, (oF w k).set j (.int v)))) (hj : j < (oF w k).length) : fI w1 k j = v := by
  unfold fI; rw [oF_set hk e, List.getElem?_set_self hj]
theorem fL_eq {a : Nat} {v : Int64} (hk : k < w.length) (e : w1 = w.set k (a, .inr (ci, (oF w k).set j (.long v)))) (hj : j < (oF w k).length) : fL w1 k j = v := by
  unfold fL; rw [oF_set hk e, List.getElem?_set_self hj]
theorem aF_eq {a : Nat} {f : Nat → Int32} (hk : k < w.length) (e : w1 = w.set k (a, .inl (cA, n, .inl f))) : aF w1 k = f := by
  have h : w1[k]? = some (a, .inl (cA, n, .inl f)) := by rw [e, List.getElem?_set_self hk]
  unfold aF
  rw [h]
theorem aL_eq {a : Nat} {f : Nat → Int64} (hk : k < w.length) (e : w1 = w.set k (a, .inl (cA, n, .inr (.inl f)))) : aL w1 k = f := by
  have h : w1[k]? = some (a, .inl (cA, n, .inr (.inl f))) := by rw [e, List.getElem?_set_self hk]
  unfold aL
  rw [h]
theorem upd_at {f g : Nat → Int32} {i : Nat} {v : Int32} (e : g = upd f i v) : g i = v := by rw [e]; unfold upd; rw [if_pos rfl]
theorem updL_at {f g : Nat → Int64} {i : Nat} {v : Int64} (e : g = vp_updL f i v) : g i = v := by rw [e]; unfold vp_updL; rw [if_pos rfl]
/-- only these cells, and of objects only these fields, are changed -/
def Sm (ms : List Nat) (fm : List (Nat × Nat)) (w w1 : va_W) : Prop := (∀ k, k ∉ ms → w1[k]? = w[k]?) ∧ ∀ k j, k ∈ fm.map Prod.fst → (k, j) ∉ fm → fI w1 k j = fI w k j
variable {ms ms2 : List Nat} {fm fm2 : List (Nat × Nat)}
theorem Sm.rf : Sm ms fm w w := ⟨fun _ _ => rfl, fun _ _ _ _ => rfl⟩
theorem Sm.sf {a : Nat} {v : Value} (h : Sm ms fm w0 w) (hk : k < w.length) (e : w1 = w.set k (a, .inr (ci, (oF w k).set j v))) (hm : k ∈ ms ∧ (k, j) ∈ fm) : Sm ms fm w0 w1 := by
  refine ⟨fun k2 h2 => ?_, fun k2 j2 h2 h3 => ?_⟩
  · rw [st_ne (k2 := k2) e (fun q => h2 (q ▸ hm.1))]; exact h.1 k2 h2
  · by_cases hkk : k = k2
    · subst hkk
      rw [fI_nej (j2 := j2) hk e (fun q => h3 (q ▸ hm.2))]
      exact h.2 k j2 h2 h3
    · rw [fI_cg (st_ne e hkk)]; exact h.2 k2 j2 h2 h3
theorem Sm.sa {x : Nat × va_E} (h : Sm ms fm w0 w) (e : w1 = w.set k x) (hm : k ∈ ms ∧ k ∉ fm.map Prod.fst) : Sm ms fm w0 w1 := by
  refine ⟨fun k2 h2 => ?_, fun k2 j2 h2 h3 => ?_⟩
  · rw [st_ne (k2 := k2) e (fun q => h2 (q ▸ hm.1))]; exact h.1 k2 h2
  · rw [fI_cg (st_ne (k2 := k2) e (fun q => hm.2 (q ▸ h2)))]; exact h.2 k2 j2 h2 h3
theorem Sm.tr (h : Sm ms fm w0 w) (h2 : Sm ms2 fm2 w w1) (hm : (∀ k ∈ ms2, k ∈ ms) ∧ (∀ p ∈ fm2, p ∈ fm) ∧ ∀ k ∈ fm.map Prod.fst, k ∈ ms2 → k ∈ fm2.map Prod.fst) : Sm ms fm w0 w1 := by
  refine ⟨fun k hk => ?_, fun k j hk hj => ?_⟩
  · rw [h2.1 k (fun q => hk (hm.1 k q))]; exact h.1 k hk
  · by_cases hkk : k ∈ ms2
    · rw [h2.2 k j (hm.2.2 k hk hkk) (fun q => hj (hm.2.1 _ q))]; exact h.2 k j hk hj
    · rw [fI_cg (h2.1 k hkk)]; exact h.2 k j hk hj
theorem Sm.gI (h : Sm ms fm w w1) (hk : k ∉ ms) : fI w1 k j = fI w k j := fI_cg (h.1 k hk)
theorem Sm.gL (h : Sm ms fm w w1) (hk : k ∉ ms) : fL w1 k j = fL w k j := fL_cg (h.1 k hk)
theorem Sm.hA (h : Sm ms fm w w1) (hk : k ∉ ms) : aF w1 k = aF w k := aF_cg (h.1 k hk)
theorem Sm.hL (h : Sm ms fm w w1) (hk : k ∉ ms) : aL w1 k = aL w k := aL_cg (h.1 k hk)
theorem fr_w {G : Prop} {D : va_G} {H : Heap} {A : Nat → Prop} {w2 : va_W} (h : HT q tab w2) (hP : va_P D vwCl w2 H) (hD : va_D A w2) (kk : ∀ z, z = w2 → HT q tab z → va_P D vwCl z H → va_D A z → G) : G := kk w2 rfl h hP hD
end HTRows
theorem In_of {lo hi : Int} {x y : Int32} (e : x = y) (h : In lo hi y) : In lo hi x := by rw [e]; exact h
theorem HT.sR {q : Nat → Nat} {tab T2 : List (va_E → Prop)} {w : va_W} {k ci j : Nat} {ps : List (Value → Prop)} {a : Nat} (h : HT q tab w) (ht : tab[k]? = some (objT ci ps)) (hT : T2 = tab.set k (objT ci (ps.set j (rT a)))) (hj : decide (j < ps.length) = true) : HT q T2 (w.set k (q k, .inr (ci, (oF w k).set j (.ref a)))) := by
  have hk := h.lt ht
  have hj2 : j < ps.length := of_decide_eq_true hj
  have hkt : k < tab.length := (List.getElem?_eq_some_iff.mp ht).1
  subst hT
  refine ⟨by rw [List.length_set, List.length_set]; exact h.1, fun k2 P2 h2 => ?_⟩
  by_cases hkk : k = k2
  · subst hkk
    rw [List.getElem?_set_self hkt] at h2
    cases h2
    refine ⟨_, by rw [List.getElem?_set_self hk], _, rfl, by rw [List.length_set, List.length_set]; exact h.ol ht, fun j2 P2 h3 => ?_⟩
    by_cases hjj : j = j2
    · subst hjj
      rw [List.getElem?_set_self hj2] at h3
      cases h3
      exact ⟨_, by rw [List.getElem?_set_self (h.ll ht hj2)], rfl⟩
    · rw [List.getElem?_set_ne hjj] at h3
      obtain ⟨v2, h4, h5⟩ := h.fp ht h3
      exact ⟨v2, by rw [List.getElem?_set_ne hjj]; exact h4, h5⟩
  · rw [List.getElem?_set_ne hkk] at h2
    obtain ⟨e2, h3, h4⟩ := h.2 k2 P2 h2
    exact ⟨e2, by rw [List.getElem?_set_ne hkk]; exact h3, h4⟩
