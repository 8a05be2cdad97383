theorem q_lt {a b : Int32} : a < b ↔ a.toInt < b.toInt := Int32.lt_iff_toInt_lt
theorem q_le {a b : Int32} : a ≤ b ↔ a.toInt ≤ b.toInt := Int32.le_iff_toInt_le
theorem q_eq {a b : Int32} : a = b ↔ a.toInt = b.toInt := Int32.toInt_inj.symm
theorem vp_in_c {i : Int32} {n : Nat} (h : ¬ (i < 0 ∨ n ≤ i.toNatClampNeg)) : vp_in i n := h
theorem tb_out {x : Int32} (c0 : ¬ x = 0) (c1 : ¬ x = 1) (c2 : ¬ x = 2) (c3 : ¬ x = 3) (c4 : ¬ x = 4) (c5 : ¬ x = 5) (c6 : ¬ x = 6) (c7 : ¬ x = 7) : x.toInt < 0 ∨ 7 < x.toInt := by
  have h0 := lv_neT c0 (a := 0) (by decide)
  have h1 := lv_neT c1 (a := 1) (by decide)
  have h2 := lv_neT c2 (a := 2) (by decide)
  have h3 := lv_neT c3 (a := 3) (by decide)
  have h4 := lv_neT c4 (a := 4) (by decide)
  have h5 := lv_neT c5 (a := 5) (by decide)
  have h6 := lv_neT c6 (a := 6) (by decide)
  have h7 := lv_neT c7 (a := 7) (by decide)
  omega
theorem va_P_left {D : va_G} {cl : List vw_C} {w1 w2 : va_W} {H : Heap} (h : va_P D cl (w1 ++ w2) H) : va_P D cl w1 H := fun k q hq => h k q (by rw [List.getElem?_append_left (List.getElem?_eq_some_iff.mp hq).1]; exact hq)
theorem va_D_left {A : Nat → Prop} {w1 w2 : va_W} (h : va_D A (w1 ++ w2)) : va_D A w1 := by
  have e : ∀ (k : Nat) (q : Nat × va_E), w1[k]? = some q → (w1 ++ w2)[k]? = some q := fun k q hq => by rw [List.getElem?_append_left (List.getElem?_eq_some_iff.mp hq).1]; exact hq
  exact ⟨fun i j p q hi hj hpq => h.1 i j p q (e i p hi) (e j q hj) hpq, fun k q hk => h.2 k q (e k q hk)⟩
/-- what 'within' answers -/
def wi_ (a b c : Int32) : Int32 := if b ≤ a ∧ a ≤ c then 1 else 0
theorem wi_1 {a b c : Int32} (h1 : ¬ a < b) (h2 : ¬ c < a) : (1 : Int32) = wi_ a b c := by
  unfold wi_; rw [if_pos ⟨Int32.not_lt.mp h1, Int32.not_lt.mp h2⟩]
theorem wi_a {a b c : Int32} (h1 : a < b) : (0 : Int32) = wi_ a b c := by
  unfold wi_; rw [if_neg (fun h => Int32.not_le.mpr h1 h.1)]
theorem wi_b {a b c : Int32} (h1 : c < a) : (0 : Int32) = wi_ a b c := by
  unfold wi_; rw [if_neg (fun h => Int32.not_le.mpr h1 h.2)]
/-- what a fresh object answers to end, fault, report, as, all -/
def sp_end (n : Int32) : Int32 := if n = 0 then 1 else 0
def sp_fault (n : Int32) : Int32 := if n = 0 then 0 else -1
def sp_rep (a b c d e : Int32) : Int32 := if wi_ a 0 9999 = 0 ∨ wi_ b 0 17 = 0 ∨ wi_ c 0 99 = 0 ∨ wi_ d 0 999 = 0 ∨ wi_ e 1 24 = 0 then -1 else 1
def sp_as (n : Int32) : Int32 := wi_ n (-1) 0
def sp_all (n : Int32) : Int32 := if n = 7 then 1000 else if 0 ≤ n ∧ n < 7 then 0 else -1
theorem wi_nar (a b c : Int32) : narrow .boolean (.int (wi_ a b c)) = .int (wi_ a b c) := by
  unfold wi_
  split <;> rfl
