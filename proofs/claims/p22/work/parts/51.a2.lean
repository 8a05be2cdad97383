/-! the class's code -/
theorem shl4 {n : Nat} (h : n < 134217728) : iShl (n : Int) 4 = ((16 * n : Nat) : Int) := by
  unfold iShl
  have e0 : (Int32.ofInt 4 &&& 31).toBitVec.smod 32 = 4#32 := by decide
  have e1 : (Int32.ofInt (n : Int)).toBitVec.toNat = n := by
    show (BitVec.ofInt 32 (n : Int)).toNat = _
    rw [BitVec.toNat_ofInt]
    show n % 2 ^ 32 = n
    exact Nat.mod_eq_of_lt (by omega)
  have e2 : (Int32.ofInt (n : Int) <<< (Int32.ofInt 4 &&& 31)).toBitVec.toNat = 16 * n := by
    show ((Int32.ofInt (n : Int)).toBitVec <<< ((Int32.ofInt 4 &&& 31).toBitVec.smod 32)).toNat = _
    rw [e0]
    show ((Int32.ofInt (n : Int)).toBitVec <<< (4#32).toNat).toNat = _
    rw [BitVec.toNat_shiftLeft, e1, Nat.shiftLeft_eq]
    show n * 2 ^ 4 % 2 ^ 32 = 16 * n
    rw [Nat.mod_eq_of_lt (by omega)]
    omega
  show (Int32.ofInt (n : Int) <<< (Int32.ofInt 4 &&& 31)).toBitVec.toInt = _
  rw [BitVec.toInt_eq_toNat_of_lt (by rw [e2]; omega), e2]
theorem or4 {n k : Nat} (h : n < 134217728) (hk : k < 16) : iOr ((16 * n : Nat) : Int) (k : Int) = ((16 * n + k : Nat) : Int) := by
  unfold iOr
  have e1 : (Int32.ofInt ((16 * n : Nat) : Int)).toBitVec.toNat = 16 * n := by
    show (BitVec.ofInt 32 ((16 * n : Nat) : Int)).toNat = _
    rw [BitVec.toNat_ofInt]
    show 16 * n % 2 ^ 32 = 16 * n
    exact Nat.mod_eq_of_lt (by omega)
  have e2 : (Int32.ofInt (k : Int)).toBitVec.toNat = k := by
    show (BitVec.ofInt 32 (k : Int)).toNat = _
    rw [BitVec.toNat_ofInt]
    show k % 2 ^ 32 = k
    exact Nat.mod_eq_of_lt (by omega)
  have e3 : (Int32.ofInt ((16 * n : Nat) : Int) ||| Int32.ofInt (k : Int)).toBitVec.toNat = 16 * n + k := by
    show ((Int32.ofInt ((16 * n : Nat) : Int)).toBitVec ||| (Int32.ofInt (k : Int)).toBitVec).toNat = _
    rw [BitVec.toNat_or, e1, e2]
    have z := Nat.two_pow_add_eq_or_of_lt (i := 4) (b := k) (by omega) n
    have z2 : 2 ^ 4 * n = 16 * n := by omega
    rw [z2] at z
    exact z.symm
  show (Int32.ofInt ((16 * n : Nat) : Int) ||| Int32.ofInt (k : Int)).toBitVec.toInt = _
  rw [BitVec.toInt_eq_toNat_of_lt (by rw [e3]; omega), e3]
/-- the class's number for a code; A: the words that are asked for -/
def KdX (A : List (List Nat)) (o : OPc) (n k : Nat) : Prop := (o.1 = 0 ∧ k = 1 ∧ o.2.1 = (n : Int)) ∨ (1 ≤ o.1 ∧ o.1 ≤ 5 ∧ k = 2 ∧ n + 1 = o.1) ∨ (o.1 = 6 ∧ k = 3) ∨ (o.1 = 7 ∧ k = 4 ∧ A[n]? = some o.2.2) ∨ (o.1 = 8 ∧ k = 5 ∧ o.2.1 = (n : Int)) ∨ (o.1 = 9 ∧ k = 6 ∧ o.2.1 = (n : Int)) ∨ (o.1 = 18 ∧ k = 7) ∨ (o.1 = 16 ∧ k = 8) ∨ (o.1 = 17 ∧ k = 9) ∨ (o.1 = 13 ∧ k = 10) ∨ (o.1 = 14 ∧ k = 11) ∨ (o.1 = 15 ∧ k = 12) ∨ (o.1 = 10 ∧ k = 13) ∨ (o.1 = 11 ∧ k = 14) ∨ (o.1 = 12 ∧ k = 15)
def OpX (A : List (List Nat)) (o : OPc) (z : Int) : Prop := ∃ n k : Nat, z = ((16 * n + k : Nat) : Int) ∧ n < 134217728 ∧ k < 16 ∧ KdX A o n k
theorem OpX.app {A : List (List Nat)} {o : OPc} {z : Int} (h : OpX A o z) (w : List Nat) : OpX (A ++ [w]) o z := by
  obtain ⟨n, k, h1, h2, h3, h4⟩ := h
  refine ⟨n, k, h1, h2, h3, ?_⟩
  rcases h4 with h | h | h | ⟨h, hk, hA⟩ | h
  · exact Or.inl h
  · exact Or.inr (Or.inl h)
  · exact Or.inr (Or.inr (Or.inl h))
  · refine Or.inr (Or.inr (Or.inr (Or.inl ⟨h, hk, ?_⟩)))
    have hj := (List.getElem?_eq_some_iff.mp hA).1
    rw [List.getElem?_append_left hj]
    exact hA
  · exact Or.inr (Or.inr (Or.inr (Or.inr h)))
/-- the code that the class has written -/
def CdX (C : List OPc) (s : PS) : Prop := s 16 17 = (C.length : Int) ∧ ∃ A : List (List Nat), s 16 19 = (A.length : Int) ∧ 5 * A.length ≤ wtE C ∧ (∀ (j : Nat) (h : j < A.length), s 30 j = ((e5 A[j] : Nat) : Int)) ∧ (∀ w ∈ A, LW w) ∧ ∀ (i : Nat) (h : i < C.length), OpX A C[i] (s 29 i)
section CodeX
variable {g : Nat → Nat} {N q d F : Nat} {K M : List (List Nat)} {s t u : PS} {r : Int} {C E : List OPc} {ms : List Nat} {fm : List (Nat × Nat)}
theorem CdX.fr (h : CdX C s) (hf : Fr intsX ms fm s t) (c : 29 ∉ ms ∧ 30 ∉ ms ∧ (16 ∉ ms ∨ (16 ∈ fm.map Prod.fst ∧ (16, 17) ∉ fm ∧ (16, 19) ∉ fm))) : CdX C t := by
  obtain ⟨h1, A, h2, h3, h4, h5, h6⟩ := h
  have e17 : t 16 17 = s 16 17 := hf.f (by decide) (c.2.2.imp id (fun z => ⟨z.1, z.2.1⟩))
  have e19 : t 16 19 = s 16 19 := hf.f (by decide) (c.2.2.imp id (fun z => ⟨z.1, z.2.2⟩))
  exact ⟨e17.trans h1, A, e19.trans h2, h3, by rw [hf.1 30 c.2.1]; exact h4, h5, by rw [hf.1 29 c.1]; exact h6⟩
theorem CdX.us {k j : Nat} {v : Int} (h : CdX C s) (c : ¬ k = 16 ∧ ¬ k = 29 ∧ ¬ k = 30) : CdX C (us s k j v) := by
  obtain ⟨h1, A, h2, h3, h4, h5, h6⟩ := h
  exact ⟨by rw [us_k (fun e => c.1 e.symm)]; exact h1, A, by rw [us_k (fun e => c.1 e.symm)]; exact h2, h3, by rw [us_k (fun e => c.2.2 e.symm)]; exact h4, h5, by rw [us_k (fun e => c.2.1 e.symm)]; exact h6⟩
theorem app_at {α : Type} {C : List α} {o : α} {i : Nat} (h : i < (C ++ [o]).length) : (∃ h2 : i < C.length, (C ++ [o])[i] = C[i]) ∨ (i = C.length ∧ (C ++ [o])[i] = o) := by
  have l : (C ++ [o]).length = C.length + 1 := by rw [List.length_append]; rfl
  by_cases c : i < C.length
  · exact Or.inl ⟨c, List.getElem_append_left c⟩
  · refine Or.inr ⟨by omega, ?_⟩
    rw [List.getElem_append_right (by omega)]
    simp
theorem addC {n k : Nat} {o : OPc} (h : M_X1_addCode_at16 s (k : Int) (n : Int) r t) (hC : CdX C s) (hn : n < 134217728) (hk : k < 16) (ho : ∀ A, OpX A o ((16 * n + k : Nat) : Int)) (hl : C.length < 1000) : CdX (C ++ [o]) t := by
  unfold M_X1_addCode_at16 T_X1_addCode_at16_e at h
  obtain ⟨h1, A, h2, h3, h4, h5, h6⟩ := hC
  obtain ⟨_, _, ⟨c, _⟩ | ⟨c, s4, e4, s5, e5', _, es⟩⟩ := h
  · exact absurd c (by omega)
  · rw [h1, Int.toNat_natCast, shl4 hn, or4 hn hk] at e4
    rw [h1] at e5'
    have ev : t = us (us s 29 C.length ((16 * n + k : Nat) : Int)) 16 17 ((C.length : Int) + 1) := by rw [es, e5', e4]
    refine ⟨?_, A, ?_, ?_, ?_, h5, fun i hi => ?_⟩
    · rw [ev, us_at, List.length_append]
      rfl
    · rw [ev, us_j (by decide), us_k (by decide)]
      exact h2
    · rw [wtE_app]
      omega
    · rw [ev, us_k (by decide), us_k (by decide)]
      exact h4
    · rw [ev, us_k (by decide)]
      rcases app_at hi with ⟨h7, e⟩ | ⟨h7, e⟩
      · rw [e, us_j (by omega)]
        exact h6 i h7
      · rw [e, h7, us_at]
        exact ho A
theorem addAskC {w : List Nat} (hw : LW w) (h : M_X1_addAsked_at16 s ((e5 w : Nat) : Int) r t) (hC : CdX C s) (hl : wtE C + 5 ≤ 1000) : CdX (C ++ [(7, 0, w)]) t := by
  unfold M_X1_addAsked_at16 T_X1_addAsked_at16_e at h
  obtain ⟨h1, A, h2, h3, h4, h5, h6⟩ := hC
  have cl := wtE_len C
  obtain ⟨_, ⟨c, _⟩ | ⟨c, s2, e2, s3, m3, f3, _, s7, e7, _, es⟩⟩ := h
  · exact absurd c (by omega)
  · rw [h2] at e2 m3 e7
    rw [Int.toNat_natCast] at e2
    unfold M_X1_addCode_at16 T_X1_addCode_at16_e at m3
    obtain ⟨_, _, ⟨c3, _⟩ | ⟨c3, s4, e4, s5, e5', _, es3⟩⟩ := m3
    · rw [e2, us_k (by decide)] at c3
      exact absurd c3 (by omega)
    · have z16 : s2 16 17 = (C.length : Int) := by rw [e2, us_k (by decide)]; exact h1
      have o4 := or4 (n := A.length) (k := 4) (by omega) (by decide)
      have o4' : iOr (iShl (A.length : Int) 4) 4 = ((16 * A.length + 4 : Nat) : Int) := by
        rw [shl4 (by omega)]
        exact o4
      rw [z16, Int.toNat_natCast, o4'] at e4
      rw [z16] at e5'
      have ev : t = us (us (us (us s 30 A.length ((e5 w : Nat) : Int)) 29 C.length ((16 * A.length + 4 : Nat) : Int)) 16 17 ((C.length : Int) + 1)) 16 19 ((A.length : Int) + 1) := by rw [es, e7, es3, e5', e4, e2]
      refine ⟨?_, A ++ [w], ?_, ?_, fun j hj => ?_, fun x hx => ?_, fun i hi => ?_⟩
      · rw [ev, us_j (by decide), us_at, List.length_append]
        rfl
      · rw [ev, us_at, List.length_append]
        rfl
      · rw [wtE_app, List.length_append]
        show 5 * (A.length + 1) ≤ wtE C + (5 + 0)
        omega
      · rw [ev, us_k (by decide), us_k (by decide), us_k (by decide)]
        rcases app_at hj with ⟨h7, e⟩ | ⟨h7, e⟩
        · rw [e, us_j (by omega)]
          exact h4 j h7
        · rw [e, h7, us_at]
      · rcases List.mem_append.mp hx with z | z
        · exact h5 x z
        · rw [List.mem_singleton.mp z]
          exact hw
      · rw [ev, us_k (by decide), us_k (by decide)]
        rcases app_at hi with ⟨h7, e⟩ | ⟨h7, e⟩
        · rw [e, us_j (by omega), us_k (by decide)]
          exact (h6 i h7).app w
        · rw [e, h7, us_at]
          refine ⟨A.length, 4, rfl, by omega, by decide, Or.inr (Or.inr (Or.inr (Or.inl ⟨rfl, rfl, ?_⟩)))⟩
          rw [List.getElem?_append_right (Nat.le_refl _)]
          simp
/-- a step, a bracket: the code stays -/
theorem stepC (hf : Fr intsX [31] [(31, 3), (31, 4), (31, 5), (31, 6), (31, 7)] s t) (h : CdX C s) : CdX C t := h.fr hf (by decide)
theorem appE (h : CdX (C ++ E ++ []) t) : CdX (C ++ E) t := by
  rw [List.append_nil] at h
  exact h
end CodeX
