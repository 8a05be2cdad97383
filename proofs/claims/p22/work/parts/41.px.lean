/-! small steps of the reading, once and for all -/
section PXs
variable {w a b W wo wn : va_W}
theorem TQ_1 (hs : SI w) (n : ¬ fI w 0 3 = 0) (e5 : (fI w 0 5).toInt ≤ (fI a 0 5).toInt) (h : Pg a b) (e4 : fI W 0 4 = fI b 0 4) : (fI w 0 4).toInt + 1 ≤ (fI W 0 4).toInt := by
  have q := hs.2.1 n
  have p := h.1
  rw [e4]
  omega
theorem TQ_0 (hs : SI w) (e5 : (fI w 0 5).toInt ≤ (fI a 0 5).toInt) (h : Pg a b) (e4 : fI W 0 4 = fI b 0 4) : (fI w 0 4).toInt ≤ (fI W 0 4).toInt := by
  have q := hs.1
  have p := h.1
  rw [e4]
  omega
theorem TQ_3 (hs : SI w) (e3 : fI w 0 3 = 1) (e7 : fL w 0 7 = 7237492) (e5 : (fI w 0 5).toInt ≤ (fI a 0 5).toInt) (h : Pg a b) (e4 : fI W 0 4 = fI b 0 4) : (fI w 0 4).toInt + 3 ≤ (fI W 0 4).toInt := by
  have q := SI_no hs e3 e7
  have p := h.1
  rw [e4]
  omega
theorem QG_ (e5 : (fI w 0 5).toInt ≤ (fI a 0 5).toInt) (h : Pg a b) (e3 : fI W 0 3 = fI b 0 3) (e4 : fI W 0 4 = fI b 0 4) (f5 : fI W 0 5 = fI b 0 5) : Pg w W := by
  unfold Pg
  rw [e3, e4, f5]
  exact ⟨Int.le_trans e5 h.1, h.2⟩
theorem T1k {x : Int32} (h : In 0 1000 x) : x.toInt ≤ 1001 := by
  unfold In at h
  omega
theorem T3k {x : Int32} (h : In 0 1000 x) : x.toInt ≤ 1003 := by
  unfold In at h
  omega
theorem dp_1 (h : In 1 20 (fI w 0 32)) (e : fI b 0 32 = fI w 0 32) : 1 ≤ dpN b := by
  unfold dpN
  rw [e]
  unfold In at h
  omega
theorem em_1 (g : (fI wn 0 35).toInt = (fI wo 0 35).toInt + 1) (e1 : fI wo 0 35 = fI b 0 35) (e2 : fI W 0 35 = fI wn 0 35) (i : In 0 400 (fI b 0 35)) : omN W = omN b + 1 := by
  unfold omN
  rw [e2]
  rw [e1] at g
  unfold In at i
  omega
theorem dq_1 {j : Nat} (e : fI b 0 32 = fI w 0 32) (h : j + 1 = dpN b) : j + 1 = (fI w 0 32).toInt.toNat := by
  unfold dpN at h
  rw [e] at h
  exact h
theorem dq_2 {j : Nat} (e : fI b 0 32 = fI w 0 32) (h : j + 1 < dpN b) : j + 1 < (fI w 0 32).toInt.toNat := by
  unfold dpN at h
  rw [e] at h
  exact h
theorem ge_3 {k : Int32} {lo hi : Int} (h : In lo hi k) (l : 3 ≤ lo) : 3 ≤ k.toInt := by
  unfold In at h
  omega
theorem rk_4 {t : Int32} (h : In 13 15 t) : rkO t = 4 := by
  have c : t = 13 ∨ t = 14 ∨ t = 15 := by
    unfold In at h
    rw [q_eq, q_eq, q_eq]
    have a : (13 : Int32).toInt = 13 := by decide
    have b : (14 : Int32).toInt = 14 := by decide
    have d : (15 : Int32).toInt = 15 := by decide
    omega
  rcases c with e | e | e <;> rw [e] <;> decide
end PXs
/-- a long number between 0 and 3, as a number -/
theorem l2i_nn {x : Int64} {v a b : Int32} (e : v = x.toInt32) (ea : a = lg_cmp x 0) (ha : In 0 2147483647 a) (eb : b = lg_cmp x 3) (hb : In (-2147483648) 0 b) : 0 ≤ v.toInt := by
  have r1 := lc_all ea
  have r2 := lc_all eb
  have z0 : (0 : Int64).toInt = 0 := by decide
  have z3 : (3 : Int64).toInt = 3 := by decide
  unfold In at ha hb
  rw [e, Int64.toInt_toInt32, Int.bmod_eq_of_le (by omega) (by omega)]
  omega
