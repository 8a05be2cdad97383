/-! what a code of the book may say -/
def okl (k v : Int32) : Prop := (k = 2 → In 0 4 v) ∧ (k = 4 → In 0 199 v) ∧ (k = 6 → In 0 7 v)
def okc (c : Int32) : Prop := okl (c &&& 15) (c >>> (4 &&& 31))
theorem i32_of {x : Int32} {n : Nat} (h1 : 0 ≤ x.toInt) (h2 : x.toInt ≤ (n : Int)) (hn : n < 2147483648) : ∃ m : Nat, m ≤ n ∧ x = Int32.ofNat m := by
  refine ⟨x.toInt.toNat, by omega, ?_⟩
  rw [q_eq, Int32.toInt_ofNat_of_lt (by omega)]
  omega
theorem or_15 (a k : Int32) (h : In 0 15 k) (ha : a &&& 15 = 0) : (a ||| k) &&& 15 = k := by
  have e : (a ||| k) &&& 15 = (a &&& 15) ||| (k &&& 15) := by
    apply Int32.toBitVec_inj.mp
    show (a.toBitVec ||| k.toBitVec) &&& _ = _
    exact BitVec.and_or_distrib_right
  rw [e, ha]
  obtain ⟨n, hn, rfl⟩ := i32_of (n := 15) h.1 h.2 (by decide)
  have hh : ∀ m : Fin 16, ((0 : Int32) ||| (Int32.ofNat m.1 &&& 15)) = Int32.ofNat m.1 := by decide +kernel
  exact hh ⟨n, by omega⟩
theorem shl_15 (v : Int32) : (v <<< (4 &&& 31)) &&& 15 = 0 := by
  apply Int32.toBitVec_inj.mp
  have e : (v <<< ((4 : Int32) &&& 31)).toBitVec = v.toBitVec <<< 4 := by
    rw [Int32.toBitVec_shiftLeft]
    rfl
  show (v <<< ((4 : Int32) &&& 31)).toBitVec &&& _ = _
  rw [e]
  apply BitVec.eq_of_getLsbD_eq
  intro i hi
  rw [BitVec.getLsbD_and, BitVec.getLsbD_shiftLeft]
  have h15 : ∀ j : Fin 32, ¬ j.1 < 4 → (BitVec.getLsbD (Int32.toBitVec 15) j.1) = false := by decide +kernel
  by_cases h4 : i < 4
  · have : (BitVec.getLsbD (Int32.toBitVec 0) i) = false := by
      have h0 : ∀ j : Fin 32, (BitVec.getLsbD (Int32.toBitVec 0) j.1) = false := by decide +kernel
      exact h0 ⟨i, hi⟩
    rw [this]
    simp [h4]
  · rw [h15 ⟨i, hi⟩ h4]
    have h0 : ∀ j : Fin 32, (BitVec.getLsbD (Int32.toBitVec 0) j.1) = false := by decide +kernel
    rw [h0 ⟨i, hi⟩, Bool.and_false]
theorem okc_st {k v a c : Int32} (e1 : a = v <<< (4 &&& 31)) (e2 : c = a ||| k) (h : okl k v) (hk : In (-1) 15 k) : okc c := by
  subst e1 e2
  by_cases h0 : In 0 15 k
  · unfold okc okl
    rw [or_15 _ k h0 (shl_15 v)]
    refine ⟨fun q => ?_, fun q => ?_, fun q => ?_⟩
    · have hv := h.1 q
      subst q
      obtain ⟨n, hn, rfl⟩ := i32_of (n := 4) hv.1 hv.2 (by decide)
      have hh : ∀ m : Fin 5, ((Int32.ofNat m.1 <<< (4 &&& 31)) ||| 2) >>> (4 &&& 31) = Int32.ofNat m.1 := by decide +kernel
      rw [hh ⟨n, by omega⟩]
      exact hv
    · have hv := h.2.1 q
      subst q
      obtain ⟨n, hn, rfl⟩ := i32_of (n := 199) hv.1 hv.2 (by decide)
      have hh : ∀ m : Fin 200, ((Int32.ofNat m.1 <<< (4 &&& 31)) ||| 4) >>> (4 &&& 31) = Int32.ofNat m.1 := by decide +kernel
      rw [hh ⟨n, by omega⟩]
      exact hv
    · have hv := h.2.2 q
      subst q
      obtain ⟨n, hn, rfl⟩ := i32_of (n := 7) hv.1 hv.2 (by decide)
      have hh : ∀ m : Fin 8, ((Int32.ofNat m.1 <<< (4 &&& 31)) ||| 6) >>> (4 &&& 31) = Int32.ofNat m.1 := by decide +kernel
      rw [hh ⟨n, by omega⟩]
      exact hv
  · have hm : k = -1 := by
      unfold In at h0 hk
      rw [q_eq]
      have z : (-1 : Int32).toInt = -1 := by decide
      omega
    subst hm
    have e : (v <<< (4 &&& 31)) ||| (-1 : Int32) = -1 := by
      apply Int32.toBitVec_inj.mp
      show _ ||| BitVec.allOnes 32 = _
      rw [BitVec.or_allOnes]
      rfl
    unfold okc okl
    rw [e]
    exact ⟨fun q => absurd q (by decide), fun q => absurd q (by decide), fun q => absurd q (by decide)⟩
theorem okc_lf {c v x : Int32} (e : v = c >>> (4 &&& 31)) (ev : c = x) (h : okc x) : okl (c &&& 15) v := by
  subst e ev
  exact h
/-! acts of the ledger: what they tell lies in the kinds and days -/
def LD (w : va_W) : Prop := ∀ a : Int32, In 1 200 a → (aF w 36 a.toNatClampNeg = 2 → In 0 9 (aF w 37 (a * 5 + 0).toNatClampNeg) ∧ In 0 24 (aF w 37 (a * 5 + 1).toNatClampNeg)) ∧ (aF w 36 a.toNatClampNeg = 3 → In 0 9 (aF w 37 (a * 5 + 0).toNatClampNeg))
theorem LD_cg {w w1 : va_W} (h1 : aF w1 36 = aF w 36) (h2 : aF w1 37 = aF w 37) (h : LD w) : LD w1 := by
  unfold LD
  rw [h1, h2]
  exact h
def okA (t x y : Int32) : Prop := (t = 2 → In 0 9 x ∧ In 0 24 y) ∧ (t = 3 → In 0 9 x)
theorem ix5 {a j : Int32} {n : Nat} (h : In 1 200 a) (hj : j.toInt = (n : Int)) (hn : n < 5) : (a * 5 + j).toNatClampNeg = a.toInt.toNat * 5 + n := by
  have h1 : In 5 1000 (a * 5) := In_mulr h (n := 5) (by decide) (by decide)
  have z5 : (5 : Int32).toInt = 5 := by decide
  have e1 : (a * 5).toInt = a.toInt * 5 := by
    unfold In at h
    rw [Int32.toInt_mul, z5, bm_id (by omega) (by omega)]
  have h2 : In 0 4 j := In_lit hj (by omega)
  have e2 := t_add h1 h2 (by decide)
  show (a * 5 + j).toInt.toNat = _
  unfold In at h
  rw [e2, e1, hj]
  omega
theorem ix5a {a : Int32} (h : In 1 200 a) : (a * 5).toNatClampNeg = a.toInt.toNat * 5 := by
  have z5 : (5 : Int32).toInt = 5 := by decide
  have e1 : (a * 5).toInt = a.toInt * 5 := by
    unfold In at h
    rw [Int32.toInt_mul, z5, bm_id (by omega) (by omega)]
  show (a * 5).toInt.toNat = _
  unfold In at h
  rw [e1]
  omega
theorem ix_ne {a b : Int32} (ha : In 1 200 a) (hb : In 1 200 b) (h : ¬ a = b) : ¬ a.toInt.toNat = b.toInt.toNat := by
  unfold In at ha hb
  rw [q_eq] at h
  omega
theorem LD_add {w w1 : va_W} {a0 t x y z : Int32} (h0 : In 1 200 a0) (e1 : aF w1 36 = upd (aF w 36) a0.toNatClampNeg t) (e2 : aF w1 37 = upd (upd (upd (aF w 37) (a0 * 5).toNatClampNeg x) (a0 * 5 + 1).toNatClampNeg y) (a0 * 5 + 2).toNatClampNeg z) (h : LD w) (ok : okA t x y) : LD w1 := by
  intro a ha
  have k0 := ix5 (j := 0) (n := 0) ha (by decide) (by decide)
  have k1 := ix5 (j := 1) (n := 1) ha (by decide) (by decide)
  have m0 := ix5a h0
  have m1 := ix5 (j := 1) (n := 1) h0 (by decide) (by decide)
  have m2 := ix5 (j := 2) (n := 2) h0 (by decide) (by decide)
  have a1 : a.toNatClampNeg = a.toInt.toNat := rfl
  have a2 : a0.toNatClampNeg = a0.toInt.toNat := rfl
  have hh := h a ha
  rw [k0, k1, a1] at hh
  rw [e1, e2, k0, k1, m0, m1, m2, a1, a2]
  by_cases q : a = a0
  · subst q
    unfold upd
    rw [if_pos rfl, if_neg (by omega), if_neg (by omega), if_pos (by omega), if_neg (by omega), if_pos (by omega)]
    exact ok
  · have hn := ix_ne ha h0 q
    unfold upd
    rw [if_neg hn, if_neg (by omega), if_neg (by omega), if_neg (by omega), if_neg (by omega), if_neg (by omega), if_neg (by omega)]
    exact hh
theorem LD_put {w w1 : va_W} {a0 j x : Int32} {n : Nat} (h0 : In 1 200 a0) (hj : j.toInt = (n : Int)) (hn : n < 5) (hn2 : 2 ≤ n) (e1 : aF w1 36 = aF w 36) (e2 : aF w1 37 = upd (aF w 37) (a0 * 5 + j).toNatClampNeg x) (h : LD w) : LD w1 := by
  intro a ha
  have k0 := ix5 (j := 0) (n := 0) ha (by decide) (by decide)
  have k1 := ix5 (j := 1) (n := 1) ha (by decide) (by decide)
  have m1 := ix5 h0 hj hn
  have hh := h a ha
  rw [k0, k1] at hh
  rw [e1, e2, k0, k1, m1]
  unfold upd
  rw [if_neg (by omega), if_neg (by omega)]
  exact hh
theorem In_one {n : Int} {x y : Int32} (h : In n n x) (e : y.toInt = n) : x = y := by
  unfold In at h
  rw [q_eq]
  omega
theorem t_dec {a b n : Int} {x y : Int32} (hx : In a b x) (hy : y.toInt = -n) (k : -2147483648 ≤ a - n ∧ b - n ≤ 2147483647) : (x + y).toInt = x.toInt - n := by
  unfold In at hx
  rw [Int32.toInt_add, hy, bm_id (by omega) (by omega)]
  omega
theorem In_dec {a b n lo hi : Int} {x y : Int32} (hx : In a b x) (hy : y.toInt = -n) (k : (-2147483648 ≤ a - n ∧ b - n ≤ 2147483647) ∧ lo ≤ a - n ∧ b - n ≤ hi) : In lo hi (x + y) := by
  have t := t_dec hx hy k.1
  unfold In at *
  omega
theorem mu_inc {a b c d h : Int} {x y : Int32} {N : Nat} (hmu : (h - x.toInt).toNat < N + 1) (hx : In a b x) (hy : In c d y) (k : (-2147483648 ≤ a + c ∧ b + d ≤ 2147483647) ∧ 0 < c ∧ b + d ≤ h) : (h - (x + y).toInt).toNat < N := by
  have t := t_add hx hy k.1
  unfold In at hx hy
  omega
theorem mu_dec {a b n h : Int} {x y : Int32} {N : Nat} (hmu : (x.toInt - h).toNat < N + 1) (hx : In a b x) (hy : y.toInt = -n) (k : (-2147483648 ≤ a - n ∧ b - n ≤ 2147483647) ∧ 0 < n ∧ h ≤ a - n) : ((x + y).toInt - h).toNat < N := by
  have t := t_dec hx hy k.1
  unfold In at hx
  omega
theorem mu_sub {a b c d h : Int} {x y : Int32} {N : Nat} (hmu : (x.toInt - h).toNat < N + 1) (hx : In a b x) (hy : In c d y) (k : (-2147483648 ≤ a - d ∧ b - c ≤ 2147483647) ∧ 0 < c ∧ h ≤ a - d) : ((x - y).toInt - h).toNat < N := by
  have t := t_sub hx hy k.1
  unfold In at hx hy
  omega
