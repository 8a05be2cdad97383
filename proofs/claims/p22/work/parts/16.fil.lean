/-! long numbers side by side -/
theorem lc_all {x y : Int64} {v : Int32} (h : v = lg_cmp x y) : (y.toInt < x.toInt ∧ v.toInt = 1) ∨ (x.toInt = y.toInt ∧ v.toInt = 0) ∨ (x.toInt < y.toInt ∧ v.toInt = -1) := by
  subst h
  unfold lg_cmp
  by_cases h1 : x > y
  · rw [if_pos h1]
    rw [gt_iff_lt, Int64.lt_iff_toInt_lt] at h1
    exact Or.inl ⟨h1, by decide⟩
  · rw [if_neg h1]
    rw [gt_iff_lt, Int64.lt_iff_toInt_lt] at h1
    by_cases h2 : x = y
    · subst h2
      rw [if_pos rfl]
      exact Or.inr (Or.inl ⟨rfl, by decide⟩)
    · rw [if_neg h2]
      have h3 : x.toInt ≠ y.toInt := fun q => h2 (Int64.toInt_inj.mp q)
      exact Or.inr (Or.inr ⟨by omega, by decide⟩)
abbrev FARz : Int := 1152921504606846976
theorem ix24 {k s : Int32} (hk : In 0 9 k) (hs : In 0 23 s) : (k * 24 + s).toNatClampNeg = k.toNatClampNeg * 24 + s.toNatClampNeg ∧ (k * 24 + s).toNatClampNeg < 240 := by
  have h1 : In 0 216 (k * 24) := In_mulr hk (n := 24) (by decide) (by decide)
  have z : (24 : Int32).toInt = 24 := by decide
  have e1 : (k * 24).toInt = k.toInt * 24 := by
    unfold In at hk
    rw [Int32.toInt_mul, z, bm_id (by omega) (by omega)]
  have e2 := t_add h1 hs (by decide)
  have a1 : (k * 24 + s).toNatClampNeg = (k * 24 + s).toInt.toNat := rfl
  have a2 : k.toNatClampNeg = k.toInt.toNat := rfl
  have a3 : s.toNatClampNeg = s.toInt.toNat := rfl
  unfold In at hk hs
  rw [a1, a2, a3, e2, e1]
  omega
theorem nat_of {n : Nat} {x : Int32} (h : In 0 n x) : x.toNatClampNeg ≤ n := by
  have a1 : x.toNatClampNeg = x.toInt.toNat := rfl
  unfold In at h
  omega
theorem and63 (T : Nat) : (nI T &&& 63).toNatClampNeg = T % 64 := by
  have e : (nI T &&& 63).toBitVec.toNat = T % 64 := by
    show (BitVec.ofNat 32 T &&& 63#32).toNat = _
    rw [BitVec.toNat_and, BitVec.toNat_ofNat]
    show (T % 2 ^ 32) &&& (2 ^ 6 - 1) = T % 2 ^ 6
    rw [Nat.and_two_pow_sub_one_eq_mod]
    exact Nat.mod_mod_of_dvd T (by decide)
  have a1 : (nI T &&& 63).toNatClampNeg = (nI T &&& 63).toBitVec.toInt.toNat := rfl
  rw [a1, BitVec.toInt_eq_toNat_cond, e]
  have h : T % 64 < 64 := Nat.mod_lt _ (by decide)
  rw [if_pos (by omega)]
  omega
/-- the filler: what is cheaper than far away has its taker, and what a row drops is wanted -/
def FI (f : Int32) (w : va_W) : Prop :=
  (∀ p : Nat, p < 240 → (aL w 77 p).toInt < FARz → 0 ≤ (aF w 78 p).toInt ∧ (aL w 75 (aF w 78 p).toNatClampNeg).toInt < FARz) ∧
  (∀ r : Nat, r < 40 → (aL w 75 r).toInt < FARz → r = f.toNatClampNeg ∨ (aL w 77 ((aF w 76 r).toNatClampNeg * 24 + (aF w 65 r).toNatClampNeg)).toInt < FARz) ∧
  (∀ r : Nat, r < 40 → (aL w 75 r).toInt ≤ FARz) ∧ (∀ p : Nat, p < 240 → (aL w 77 p).toInt ≤ FARz) ∧
  ∃ T h : Nat, fI w 74 10 = nI T ∧ fI w 74 9 = nI h ∧ h ≤ T ∧ ∀ j, j < 64 → j < T → (aL w 75 (aF w 79 j).toNatClampNeg).toInt < FARz ∧ (aF w 79 j).toInt < (fI w 64 1).toInt
/-- what was near stays near -/
def Mo (w w1 : va_W) : Prop := ∀ r : Nat, (aL w 75 r).toInt < FARz → (aL w1 75 r).toInt < FARz
section FIRows
variable {w w0 w1 : va_W} {f r k : Int32}
theorem Mo.rf : Mo w w := fun _ h => h
theorem Mo.cg (h : Mo w0 w) (h75 : aL w1 75 = aL w 75) : Mo w0 w1 := fun r hr => by rw [h75]; exact h r hr
theorem Mo.tr (h : Mo w0 w) (h2 : Mo w w1) : Mo w0 w1 := fun r hr => h2 r (h r hr)
theorem FI_cg (h75 : aL w1 75 = aL w 75) (h77 : aL w1 77 = aL w 77) (h78 : aF w1 78 = aF w 78) (h76 : aF w1 76 = aF w 76) (h65 : aF w1 65 = aF w 65) (h79 : aF w1 79 = aF w 79) (et : fI w1 74 10 = fI w 74 10) (eh : fI w1 74 9 = fI w 74 9) (er : fI w1 64 1 = fI w 64 1) (h : FI f w) : FI f w1 := by
  unfold FI
  rw [h75, h77, h78, h76, h65, h79, et, eh, er]
  exact h
theorem FI_enq (h75 : aL w1 75 = aL w 75) (h77 : aL w1 77 = aL w 77) (h78 : aF w1 78 = aF w 78) (h76 : aF w1 76 = aF w 76) (h65 : aF w1 65 = aF w 65) (e79 : aF w1 79 = upd (aF w 79) ((fI w 74 10) &&& 63).toNatClampNeg r) (et : fI w1 74 10 = fI w 74 10 + 1) (eh : fI w1 74 9 = fI w 74 9) (er : fI w1 64 1 = fI w 64 1) (hr : (aL w 75 r.toNatClampNeg).toInt < FARz ∧ r.toInt < (fI w 64 1).toInt) (h : FI f w) : FI f w1 := by
  obtain ⟨ha, hb, hd, he, T, t, hT, ht, htT, hc⟩ := h
  refine ⟨by rw [h75, h77, h78]; exact ha, by rw [h75, h77, h76, h65]; exact hb, by rw [h75]; exact hd, by rw [h77]; exact he, T + 1, t, ?_, by rw [eh]; exact ht, by omega, ?_⟩
  · rw [et, hT]; exact nI_add T 1
  · intro j h1 h2
    rw [h75, e79, hT, and63 T, er]
    unfold upd
    by_cases q : j = T % 64
    · rw [if_pos q]; exact hr
    · rw [if_neg q]; exact hc j h1 (by omega)
theorem FI_key {p : Nat} {c : Int64} (hp : p < 240) (h75 : aL w1 75 = aL w 75) (e77 : aL w1 77 = vp_updL (aL w 77) p c) (e78 : aF w1 78 = upd (aF w 78) p r) (h76 : aF w1 76 = aF w 76) (h65 : aF w1 65 = aF w 65) (h79 : aF w1 79 = aF w 79) (et : fI w1 74 10 = fI w 74 10) (eh : fI w1 74 9 = fI w 74 9) (er : fI w1 64 1 = fI w 64 1) (hr0 : 0 ≤ r.toInt) (hr : (aL w 75 r.toNatClampNeg).toInt < FARz) (hc : c.toInt < FARz) (h : FI f w) : FI f w1 := by
  obtain ⟨ha, hb, hd, he, hq⟩ := h
  refine ⟨?_, ?_, by rw [h75]; exact hd, ?_, by rw [h75, h79, et, eh, er]; exact hq⟩
  · intro p2 h1 h2
    rw [h75, e78]
    rw [e77] at h2
    unfold upd
    unfold vp_updL at h2
    by_cases q : p2 = p
    · rw [if_pos q]; exact ⟨hr0, hr⟩
    · rw [if_neg q] at h2 ⊢; exact ha p2 h1 h2
  · intro r2 h1 h2
    rw [h75] at h2
    rw [e77, h76, h65]
    unfold vp_updL
    rcases hb r2 h1 h2 with h3 | h3
    · exact Or.inl h3
    · refine Or.inr ?_
      split
      · exact hc
      · exact h3
  · intro p2 h1
    rw [e77]
    unfold vp_updL
    split
    · omega
    · exact he p2 h1
theorem FI_row {n : Nat} {t : Int64} (hk : (aL w 77 (k.toNatClampNeg * 24 + (aF w 65 n).toNatClampNeg)).toInt < FARz) (e75 : aL w1 75 = vp_updL (aL w 75) n t) (h77 : aL w1 77 = aL w 77) (h78 : aF w1 78 = aF w 78) (e76 : aF w1 76 = upd (aF w 76) n k) (h65 : aF w1 65 = aF w 65) (h79 : aF w1 79 = aF w 79) (et : fI w1 74 10 = fI w 74 10) (eh : fI w1 74 9 = fI w 74 9) (er : fI w1 64 1 = fI w 64 1) (ht : t.toInt < FARz) (h : FI f w) : FI f w1 ∧ Mo w w1 := by
  obtain ⟨ha, hb, hd, he, T, t2, hT, ht2, htT, hc⟩ := h
  have hm : Mo w w1 := by
    intro r2 h2
    rw [e75]
    unfold vp_updL
    split
    · exact ht
    · exact h2
  refine ⟨⟨?_, ?_, ?_, by rw [h77]; exact he, T, t2, by rw [et]; exact hT, by rw [eh]; exact ht2, htT, ?_⟩, hm⟩
  · intro p2 h1 h2
    rw [h77] at h2
    rw [h78]
    exact ⟨(ha p2 h1 h2).1, hm _ (ha p2 h1 h2).2⟩
  · intro r2 h1 h2
    rw [h77, e76, h65]
    unfold upd
    by_cases q : r2 = n
    · rw [if_pos q, q]; exact Or.inr hk
    · rw [if_neg q]
      rw [e75] at h2
      unfold vp_updL at h2
      rw [if_neg q] at h2
      exact hb r2 h1 h2
  · intro r2 h1
    rw [e75]
    unfold vp_updL
    split
    · omega
    · exact hd r2 h1
  · intro j h1 h2
    rw [h79, er]
    exact ⟨hm _ (hc j h1 h2).1, (hc j h1 h2).2⟩
theorem FI_head (h75 : aL w1 75 = aL w 75) (h77 : aL w1 77 = aL w 77) (h78 : aF w1 78 = aF w 78) (h76 : aF w1 76 = aF w 76) (h65 : aF w1 65 = aF w 65) (h79 : aF w1 79 = aF w 79) (et : fI w1 74 10 = fI w 74 10) (eh : fI w1 74 9 = fI w 74 9 + 1) (er : fI w1 64 1 = fI w 64 1) (hne : ¬ fI w 74 9 = fI w 74 10) (h : FI f w) : FI f w1 ∧ (aL w 75 (aF w 79 ((fI w 74 9) &&& 63).toNatClampNeg).toNatClampNeg).toInt < FARz ∧ (aF w 79 ((fI w 74 9) &&& 63).toNatClampNeg).toInt < (fI w 64 1).toInt := by
  obtain ⟨ha, hb, hd, he, T, t, hT, ht, htT, hc⟩ := h
  have hlt : t < T := by
    rcases Nat.lt_or_eq_of_le htT with q | q
    · exact q
    · exact absurd (by rw [hT, ht, q]) hne
  refine ⟨⟨by rw [h75, h77, h78]; exact ha, by rw [h75, h77, h76, h65]; exact hb, by rw [h75]; exact hd, by rw [h77]; exact he, T, t + 1, by rw [et]; exact hT, ?_, by omega, by rw [h75, h79, er]; exact hc⟩, ?_⟩
  · rw [eh, ht]; exact nI_add t 1
  · rw [ht, and63]
    exact hc _ (Nat.mod_lt _ (by decide)) (by have := Nat.mod_le t 64; omega)
theorem FI_new (h75 : ∀ r : Nat, r < 40 → (aL w 75 r).toInt = FARz) (h77 : ∀ p : Nat, p < 240 → (aL w 77 p).toInt = FARz) (h9 : fI w 74 9 = 0) (h10 : fI w 74 10 = 0) (e75 : aL w1 75 = vp_updL (aL w 75) f.toNatClampNeg 0) (g77 : aL w1 77 = aL w 77) (g9 : fI w1 74 9 = fI w 74 9) (g10 : fI w1 74 10 = fI w 74 10) : FI f w1 ∧ (aL w1 75 f.toNatClampNeg).toInt < FARz := by
  have z : (0 : Int64).toInt = 0 := by decide
  have hz : (0 : Int) < FARz := by decide
  have hr : ∀ r : Nat, r < 40 → (aL w1 75 r).toInt < FARz → r = f.toNatClampNeg := by
    intro r h1 h2
    rw [e75] at h2
    unfold vp_updL at h2
    by_cases q : r = f.toNatClampNeg
    · exact q
    · rw [if_neg q, h75 r h1] at h2; omega
  refine ⟨⟨?_, fun r h1 h2 => Or.inl (hr r h1 h2), ?_, ?_, 0, 0, by rw [g10, h10]; rfl, by rw [g9, h9]; rfl, Nat.le_refl 0, fun j _ h => absurd h (Nat.not_lt_zero j)⟩, ?_⟩
  · intro p h1 h2
    rw [g77, h77 p h1] at h2
    omega
  · intro r h1
    rw [e75]
    unfold vp_updL
    split
    · omega
    · rw [h75 r h1]; omega
  · intro p h1
    rw [g77, h77 p h1]
    omega
  · rw [e75]
    unfold vp_updL
    rw [if_pos rfl]
    omega
end FIRows
theorem FI_next {w : va_W} {f row d s t : Int32} (h : FI f w) (hr : In 0 39 row) (hf : In 0 39 f) (hne : ¬ row = f) (hl : (aL w 75 row.toNatClampNeg).toInt < FARz) (ed : d = aF w 76 row.toNatClampNeg) (es : s = aF w 65 row.toNatClampNeg) (hd : In 0 9 d) (hs : In 0 23 s) (et : t = aF w 78 (d * 24 + s).toNatClampNeg) (ht : In (-2) 39 t) : In 0 39 t ∧ (aL w 75 t.toNatClampNeg).toInt < FARz := by
  have a1 : row.toNatClampNeg = row.toInt.toNat := rfl
  have a2 : f.toNatClampNeg = f.toInt.toNat := rfl
  have hb := h.2.1 row.toNatClampNeg (by rw [a1]; unfold In at hr; omega) hl
  have hb2 := hb.resolve_left (fun q => hne (by
    rw [q_eq]
    unfold In at hr hf
    rw [a1, a2] at q
    omega))
  rw [← ed, ← es] at hb2
  obtain ⟨i1, i2⟩ := ix24 hd hs
  rw [← i1] at hb2
  obtain ⟨h1, h2⟩ := h.1 _ i2 hb2
  rw [← et] at h1 h2
  unfold In at ht ⊢
  exact ⟨⟨h1, ht.2⟩, h2⟩
theorem FI_take {w : va_W} {f i t : Int32} (h : FI f w) (hi : In 0 239 i) (hc : (aL w 77 i.toNatClampNeg).toInt < FARz) (et : t = aF w 78 i.toNatClampNeg) (ht : In (-2) 39 t) : In 0 39 t ∧ (aL w 75 t.toNatClampNeg).toInt < FARz := by
  have a1 : i.toNatClampNeg = i.toInt.toNat := rfl
  obtain ⟨h1, h2⟩ := h.1 i.toNatClampNeg (by rw [a1]; unfold In at hi; omega) hc
  rw [← et] at h1 h2
  unfold In at ht ⊢
  exact ⟨⟨h1, ht.2⟩, h2⟩
/-- rows of a slot have that slot -/
def FL (w : va_W) : Prop := (∀ s r : Nat, s < (fI w 64 2).toInt.toNat → (aF w 66 s).toInt ≤ (r : Int) → (r : Int) < (aF w 66 (s + 1)).toInt → (aF w 65 r).toNatClampNeg = s) ∧ (∀ r : Nat, (r : Int) < (fI w 64 1).toInt → (aF w 65 r).toInt < (fI w 64 2).toInt) ∧ (∀ s : Nat, s < (fI w 64 2).toInt.toNat → (aF w 66 (s + 1)).toInt ≤ (fI w 64 1).toInt) ∧ ∀ c : Nat, c < 40 → (aF w 67 c).toInt < (fI w 64 1).toInt
theorem FL_cg {w w1 : va_W} (h1 : fI w1 64 2 = fI w 64 2) (h0 : fI w1 64 1 = fI w 64 1) (h2 : aF w1 66 = aF w 66) (h3 : aF w1 65 = aF w 65) (h4 : aF w1 67 = aF w 67) (h : FL w) : FL w1 := by
  unfold FL
  rw [h1, h0, h2, h3, h4]
  exact h
/-- a row of a slot, by numbers of the machine -/
theorem FL_slot {w : va_W} {s r a b z : Int32} (h : FL w) (hs : In 0 23 s) (hsl : s.toInt < (fI w 64 2).toInt) (hr : In 0 39 r) (ea : a = aF w 66 s.toNatClampNeg) (eb : b = aF w 66 (s + 1).toNatClampNeg) (h1 : a.toInt ≤ r.toInt) (h2 : r.toInt < b.toInt) (ez : z = aF w 65 r.toNatClampNeg) : z.toNatClampNeg = s.toNatClampNeg ∧ r.toInt < (fI w 64 1).toInt := by
  have a1 : s.toNatClampNeg = s.toInt.toNat := rfl
  have a2 : r.toNatClampNeg = r.toInt.toNat := rfl
  have t := t_add hs (In_lit (n := 1) (by decide) (by decide) : In 1 1 1) (by decide)
  have z1 : (1 : Int32).toInt = 1 := by decide
  have a3 : (s + 1).toNatClampNeg = s.toNatClampNeg + 1 := by
    have a4 : (s + 1).toNatClampNeg = (s + 1).toInt.toNat := rfl
    unfold In at hs
    omega
  rw [a3] at eb
  unfold In at hs hr
  have k1 := h.1 s.toNatClampNeg r.toNatClampNeg (by rw [a1]; omega) (by rw [← ea]; omega) (by rw [← eb]; omega)
  have k2 := h.2.2.1 s.toNatClampNeg (by rw [a1]; omega)
  rw [← ez] at k1
  rw [← eb] at k2
  exact ⟨k1, by omega⟩
theorem fill_st {w w1 : va_W} {k : Nat} {x : Int32} {v : Int64} {a : Int} (hx : In 0 a x) (h : ∀ i : Nat, i < x.toInt.toNat → aL w k i = v) (e : aL w1 k = vp_updL (aL w k) x.toNatClampNeg v) : ∀ i : Nat, i < (x + 1).toInt.toNat → aL w1 k i = v := by
  intro i hi
  rw [e]
  unfold vp_updL
  by_cases q : i = x.toNatClampNeg
  · rw [if_pos q]
  · rw [if_neg q]
    have a1 : x.toNatClampNeg = x.toInt.toNat := rfl
    have z1 : (1 : Int32).toInt = 1 := by decide
    have hb := Int32.toInt_lt x
    have t : (x + 1).toInt ≤ x.toInt + 1 := by
      rw [Int32.toInt_add, z1]
      unfold In at hx
      by_cases q2 : x.toInt + 1 ≤ 2147483647
      · rw [bm_id (by omega) q2]
        exact Int.le_refl _
      · have e2 : x.toInt = 2147483647 := by omega
        rw [e2]
        decide
    exact h i (by unfold In at hx; omega)
theorem fill_si {w w1 : va_W} {k : Nat} {x : Int32} {v : Int32} {a : Int} (hx : In 0 a x) (h : ∀ i : Nat, i < x.toInt.toNat → aF w k i = v) (e : aF w1 k = upd (aF w k) x.toNatClampNeg v) : ∀ i : Nat, i < (x + 1).toInt.toNat → aF w1 k i = v := by
  intro i hi
  rw [e]
  unfold upd
  by_cases q : i = x.toNatClampNeg
  · rw [if_pos q]
  · rw [if_neg q]
    have a1 : x.toNatClampNeg = x.toInt.toNat := rfl
    have z1 : (1 : Int32).toInt = 1 := by decide
    have hb := Int32.toInt_lt x
    have t : (x + 1).toInt ≤ x.toInt + 1 := by
      rw [Int32.toInt_add, z1]
      unfold In at hx
      by_cases q2 : x.toInt + 1 ≤ 2147483647
      · rw [bm_id (by omega) q2]
        exact Int.le_refl _
      · have e2 : x.toInt = 2147483647 := by omega
        rw [e2]
        decide
    exact h i (by unfold In at hx; omega)
theorem le_dec {a b n c : Int} {x y : Int32} (hx : In a b x) (hy : y.toInt = -n) (k : (-2147483648 ≤ a - n ∧ b - n ≤ 2147483647) ∧ 0 ≤ n) (h : x.toInt ≤ c) : (x + y).toInt ≤ c := by
  have t := t_dec hx hy k.1
  omega
theorem put_st {a b L C : Int} {x y : Int32} (hx : In a b x) (hy : y.toInt = -8) (k : (-2147483648 ≤ a - 8 ∧ b - 8 ≤ 2147483647) ∧ 0 ≤ a) (q : L + x.toInt = C + 32) : L + (x + y).toInt = C + 24 ∧ 0 ≤ (x + y).toInt + 8 := by
  have t := t_dec (n := 8) hx hy k.1
  unfold In at hx
  omega
