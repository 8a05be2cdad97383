theorem q_lt {a b : Int32} : a < b ↔ a.toInt < b.toInt := Int32.lt_iff_toInt_lt
theorem q_le {a b : Int32} : a ≤ b ↔ a.toInt ≤ b.toInt := Int32.le_iff_toInt_le
theorem q_eq {a b : Int32} : a = b ↔ a.toInt = b.toInt := Int32.toInt_inj.symm
theorem vp_in_c {i : Int32} {n : Nat} (h : ¬ (i < 0 ∨ n ≤ i.toNatClampNeg)) : vp_in i n := h
theorem tb_out {x : Int32} (c0 : ¬ x = 0) (c1 : ¬ x = 1) (c2 : ¬ x = 2) (c3 : ¬ x = 3) (c4 : ¬ x = 4) (c5 : ¬ x = 5) (c6 : ¬ x = 6) (c7 : ¬ x = 7) : x.toInt < 0 ∨ 7 < x.toInt := by
  have h0 := lv_neT c0 (a := 0) (by decide)
  have h1 := lv_neT c1 (a := 1) (by decide)
  have h2 := lv_neT c2 (a := 2) (by decide)
  have h3 := lv_neT c3 (a := 3) (by decide)
  have h4 := lv_neT c4 (a := 4) (by decide)
  have h5 := lv_neT c5 (a := 5) (by decide)
  have h6 := lv_neT c6 (a := 6) (by decide)
  have h7 := lv_neT c7 (a := 7) (by decide)
  omega
theorem va_P_left {D : va_G} {cl : List vw_C} {w1 w2 : va_W} {H : Heap} (h : va_P D cl (w1 ++ w2) H) : va_P D cl w1 H := fun k q hq => h k q (by rw [List.getElem?_append_left (List.getElem?_eq_some_iff.mp hq).1]; exact hq)
theorem va_D_left {A : Nat → Prop} {w1 w2 : va_W} (h : va_D A (w1 ++ w2)) : va_D A w1 := by
  have e : ∀ (k : Nat) (q : Nat × va_E), w1[k]? = some q → (w1 ++ w2)[k]? = some q := fun k q hq => by rw [List.getElem?_append_left (List.getElem?_eq_some_iff.mp hq).1]; exact hq
  exact ⟨fun i j p q hi hj hpq => h.1 i j p q (e i p hi) (e j q hj) hpq, fun k q hk => h.2 k q (e k q hk)⟩
/-- what 'within' answers -/
def wi_ (a b c : Int32) : Int32 := if b ≤ a ∧ a ≤ c then 1 else 0
theorem wi_1 {a b c : Int32} (h1 : ¬ a < b) (h2 : ¬ c < a) : (1 : Int32) = wi_ a b c := by
  unfold wi_; rw [if_pos ⟨Int32.not_lt.mp h1, Int32.not_lt.mp h2⟩]
theorem wi_a {a b c : Int32} (h1 : a < b) : (0 : Int32) = wi_ a b c := by
  unfold wi_; rw [if_neg (fun h => Int32.not_le.mpr h1 h.1)]
theorem wi_b {a b c : Int32} (h1 : c < a) : (0 : Int32) = wi_ a b c := by
  unfold wi_; rw [if_neg (fun h => Int32.not_le.mpr h1 h.2)]
/-- what a fresh object answers to end, fault, report, as, all -/
def sp_end (n : Int32) : Int32 := if n = 0 then 1 else 0
def sp_fault (n : Int32) : Int32 := if n = 0 then 0 else -1
def sp_rep (a b c d e : Int32) : Int32 := if wi_ a 0 9999 = 0 ∨ wi_ b 0 17 = 0 ∨ wi_ c 0 99 = 0 ∨ wi_ d 0 999 = 0 ∨ wi_ e 1 24 = 0 then -1 else 1
def sp_as (n : Int32) : Int32 := wi_ n (-1) 0
def sp_all (n : Int32) : Int32 := if n = 7 then 1000 else if 0 ≤ n ∧ n < 7 then 0 else -1
theorem wi_nar (a b c : Int32) : narrow .boolean (.int (wi_ a b c)) = .int (wi_ a b c) := by
  unfold wi_
  split <;> rfl
theorem nI_inc (k : Nat) : nI k + Int32.ofInt 1 = nI (k + 1) := nI_1 k
theorem inv_upd {f f2 : Nat → Int32} {k : Nat} {v : Int32} (hk : k < 2 ^ 31) (h : ∀ j, j < k → f j = v) (e : f2 = upd f (nI k).toNatClampNeg v) : ∀ j, j < k + 1 → f2 j = v := by
  intro j hj
  rw [e, nI_clamp hk]
  unfold upd
  by_cases q : j = k
  · rw [if_pos q]
  · rw [if_neg q]; exact h j (by omega)
theorem inv_updL {f f2 : Nat → Int64} {k : Nat} {v : Int64} (hk : k < 2 ^ 31) (h : ∀ j, j < k → f j = v) (e : f2 = vp_updL f (nI k).toNatClampNeg v) : ∀ j, j < k + 1 → f2 j = v := by
  intro j hj
  rw [e, nI_clamp hk]
  unfold vp_updL
  by_cases q : j = k
  · rw [if_pos q]
  · rw [if_neg q]; exact h j (by omega)
theorem end_a {n : Int32} (h : n < 0) : (0 : Int32) = sp_end n := by
  unfold sp_end; rw [if_neg (fun q => by rw [q] at h; revert h; decide)]
theorem end_1 {n : Int32} (h1 : ¬ n < 0) (h2 : n ≤ 0) : (1 : Int32) = sp_end n := by
  unfold sp_end; rw [if_pos (Int32.le_antisymm h2 (Int32.not_lt.mp h1))]
theorem end_b {n : Int32} (h : ¬ n ≤ 0) : (0 : Int32) = sp_end n := by
  unfold sp_end; rw [if_neg (fun q => by rw [q] at h; revert h; decide)]
theorem as_1 {n : Int32} (h1 : ¬ n < -1) (h2 : n ≤ 0) : (1 : Int32) = sp_as n := wi_1 h1 (Int32.not_lt.mpr h2)
theorem as_a {n : Int32} (h1 : n < -1) : (0 : Int32) = sp_as n := wi_a h1
theorem as_b {n : Int32} (h2 : ¬ n ≤ 0) : (0 : Int32) = sp_as n := wi_b (Int32.not_le.mp h2)
theorem all_in {n : Int32} {v : Int32} (h : n = v) (hv : sp_all v = 0) : (0 : Int32) = sp_all n := by rw [h, hv]
theorem all_7 {n : Int32} (h : n = 7) : (1000 : Int32) = sp_all n := by rw [h]; rfl
theorem all_no {n : Int32} (c0 : ¬ n = 0) (c1 : ¬ n = 1) (c2 : ¬ n = 2) (c3 : ¬ n = 3) (c4 : ¬ n = 4) (c5 : ¬ n = 5) (c6 : ¬ n = 6) (c7 : ¬ n = 7) : (-1 : Int32) = sp_all n := by
  have h := tb_out c0 c1 c2 c3 c4 c5 c6 c7
  unfold sp_all
  rw [if_neg c7, if_neg]
  rintro ⟨h1, h2⟩
  rw [q_le] at h1
  rw [q_lt] at h2
  have z0 : (0 : Int32).toInt = 0 := by decide
  have z7 : (7 : Int32).toInt = 7 := by decide
  omega
theorem wi_ne {a b c : Int32} (h : ¬ wi_ a b c = 0) : (1 : Int32) = wi_ a b c := by
  revert h
  unfold wi_
  split
  · intro _; rfl
  · intro h; exact absurd rfl h
