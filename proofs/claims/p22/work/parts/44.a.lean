/-! bytes and tokens, pure -/
def bB (c : Nat) : Bool := Nat.beq c 10 || Nat.beq c 32
def bL (c : Nat) : Bool := Nat.ble 97 c && Nat.ble c 122
def bD (c : Nat) : Bool := Nat.ble 48 c && Nat.ble c 57
theorem bB_iff {c : Nat} : bB c = true ↔ c = 10 ∨ c = 32 := by
  unfold bB
  rw [Bool.or_eq_true, Nat.beq_eq, Nat.beq_eq]
theorem bL_iff {c : Nat} : bL c = true ↔ 97 ≤ c ∧ c ≤ 122 := by
  unfold bL
  rw [Bool.and_eq_true, Nat.ble_eq, Nat.ble_eq]
theorem bD_iff {c : Nat} : bD c = true ↔ 48 ≤ c ∧ c ≤ 57 := by
  unfold bD
  rw [Bool.and_eq_true, Nat.ble_eq, Nat.ble_eq]
/-- as far as P goes -/
def runF (P : Nat → Bool) (g : Nat → Nat) (n : Nat) : Nat → Nat → Nat
  | 0, p => p
  | k + 1, p => if p < n ∧ P (g p) = true then runF P g n k (p + 1) else p
def rn (P : Nat → Bool) (g : Nat → Nat) (n p : Nat) : Nat := runF P g n (n - p) p
section Runs
variable {P : Nat → Bool} {g g2 : Nat → Nat} {n p q : Nat}
theorem rn_go (h : p < n) (h2 : P (g p) = true) : rn P g n p = rn P g n (p + 1) := by
  unfold rn
  have e : n - p = (n - (p + 1)) + 1 := by omega
  rw [e]
  show (if p < n ∧ P (g p) = true then runF P g n (n - (p + 1)) (p + 1) else p) = _
  rw [if_pos ⟨h, h2⟩]
theorem rn_st (h : ¬ (p < n ∧ P (g p) = true)) : rn P g n p = p := by
  unfold rn
  cases e : n - p with
  | zero => rfl
  | succ k =>
    show (if p < n ∧ P (g p) = true then runF P g n k (p + 1) else p) = p
    rw [if_neg h]
theorem runF_sp : ∀ k p, p ≤ runF P g n k p ∧ ∀ i, p ≤ i → i < runF P g n k p → i < n ∧ P (g i) = true
  | 0, p => ⟨Nat.le_refl _, fun i h1 h2 => absurd h2 (Nat.not_lt.mpr h1)⟩
  | k + 1, p => by
    show p ≤ (if p < n ∧ P (g p) = true then runF P g n k (p + 1) else p) ∧ ∀ i, p ≤ i → i < (if p < n ∧ P (g p) = true then runF P g n k (p + 1) else p) → _
    by_cases h : p < n ∧ P (g p) = true
    · rw [if_pos h]
      have ih := runF_sp k (p + 1)
      refine ⟨by omega, fun i h1 h2 => ?_⟩
      by_cases e : i = p
      · rw [e]
        exact h
      · exact ih.2 i (by omega) h2
    · rw [if_neg h]
      exact ⟨Nat.le_refl _, fun i h1 h2 => absurd h2 (Nat.not_lt.mpr h1)⟩
theorem rn_ge : p ≤ rn P g n p := (runF_sp _ _).1
theorem rn_all {i : Nat} (h1 : p ≤ i) (h2 : i < rn P g n p) : i < n ∧ P (g i) = true := (runF_sp _ _).2 i h1 h2
theorem rn_le (h : p ≤ n) : rn P g n p ≤ n := by
  by_cases e : rn P g n p ≤ p
  · omega
  · have q := rn_all (P := P) (g := g) (n := n) (p := p) (i := rn P g n p - 1) (by omega) (by omega)
    omega
theorem runF_no : ∀ k p, n ≤ p + k → ¬ (runF P g n k p < n ∧ P (g (runF P g n k p)) = true)
  | 0, p, h => by
    show ¬ (p < n ∧ P (g p) = true)
    omega
  | k + 1, p, h => by
    show ¬ ((if p < n ∧ P (g p) = true then runF P g n k (p + 1) else p) < n ∧ P (g (if p < n ∧ P (g p) = true then runF P g n k (p + 1) else p)) = true)
    by_cases q : p < n ∧ P (g p) = true
    · rw [if_pos q]
      exact runF_no k (p + 1) (by omega)
    · rw [if_neg q]
      exact q
theorem rn_no : ¬ (rn P g n p < n ∧ P (g (rn P g n p)) = true) := runF_no _ _ (by omega)
/-- whatever goes all the way there and no further is it -/
theorem rn_eq {e : Nat} (h1 : p ≤ e) (h2 : ∀ i, p ≤ i → i < e → i < n ∧ P (g i) = true) (h3 : ¬ (e < n ∧ P (g e) = true)) : rn P g n p = e := by
  by_cases q : rn P g n p < e
  · exact absurd (h2 _ rn_ge q) rn_no
  · by_cases r : e < rn P g n p
    · exact absurd (rn_all h1 r) h3
    · omega
/-- the same bytes, the same run -/
theorem rn_cg (h : ∀ i, i < n → g i = g2 i) : rn P g n p = rn P g2 n p := by
  refine rn_eq rn_ge (fun i h1 h2 => ?_) (fun q => ?_)
  · have r := rn_all h1 h2
    rw [h i r.1]
    exact r
  · have r := rn_no (P := P) (g := g2) (n := n) (p := p)
    rw [h _ q.1] at q
    exact r q
end Runs
/-! tokens: q is where the token before it ends -/
section Toks
variable (g : Nat → Nat) (n q : Nat)
def stq : Nat := rn bB g n q
def clq : Bool := Nat.beq (stq g n q) q && (Nat.ble 1 q && (bL (g (q - 1)) || bD (g (q - 1))))
def lnq (P : Nat → Bool) : Nat := rn P g n (stq g n q) - stq g n q
def ltq : List Nat := (List.range (lnq g n q bL)).map (fun i => g (stq g n q + i))
def ownW : List (List Nat) := [[107, 105, 110, 100], [119, 111, 114, 116, 104], [112, 114, 105, 99, 101], [97, 116], [105, 115], [110, 101, 118, 101, 114], [102, 111, 114], [108, 105, 107, 101, 115], [111, 102], [103, 105, 102, 116, 115], [101, 118, 101, 110], [111, 114], [97, 110, 100], [110, 111, 116], [97, 110, 121], [97, 108, 108], [119, 105, 115, 104], [97, 103, 101], [97, 103, 101, 115], [115, 99, 104, 111, 111, 108], [104, 111, 117, 115, 101], [119, 105, 115, 104, 101, 115]]
def ownI (w : List Nat) : Nat := ownW.findIdx (fun x => x == w)
def wtq : Nat := if ownI (ltq g n q) < 22 then 261 + ownI (ltq g n q) else 258
def tkq : Nat := if n ≤ stq g n q then 256 else if bL (g (stq g n q)) = true then (if (clq g n q || Nat.blt 8 (lnq g n q bL)) = true then 257 else wtq g n q) else if bD (g (stq g n q)) = true then (if (clq g n q || Nat.blt 5 (lnq g n q bD)) = true then 257 else 259) else g (stq g n q)
def nxq : Nat := if n ≤ stq g n q then n else if bL (g (stq g n q)) = true then rn bL g n (stq g n q) else if bD (g (stq g n q)) = true then rn bD g n (stq g n q) else stq g n q + 1
/-- a number's digits -/
def dgF (s : Nat) : Nat → Nat
  | 0 => 0
  | k + 1 => 10 * dgF s k + (g (s + k) - 48)
def nvq : Nat := dgF g (stq g n q) (lnq g n q bD)
/-- a word's letters in the reference's code: eight bits each -/
def w8F (s : Nat) : Nat → Nat
  | 0 => 0
  | k + 1 => 256 * w8F s k + g (s + k)
/-- .. and in the class's: five bits each, from the top -/
def w5F (s : Nat) : Nat → Nat
  | 0 => 0
  | k + 1 => w5F s k + (g (s + k) - 96) * 2 ^ (35 - 5 * k)
end Toks
section TokR
variable {g : Nat → Nat} {n q : Nat}
theorem nxq_gt (h : q ≤ n) (h2 : ¬ n ≤ stq g n q) : q < nxq g n q ∧ nxq g n q ≤ n := by
  have s1 : q ≤ stq g n q := rn_ge
  unfold nxq
  rw [if_neg h2]
  split
  · rename_i c
    have e := rn_go (P := bL) (g := g) (n := n) (p := stq g n q) (by omega) c
    have e2 : stq g n q + 1 ≤ rn bL g n (stq g n q + 1) := rn_ge
    have e3 : rn bL g n (stq g n q) ≤ n := rn_le (by omega)
    omega
  · split
    · rename_i c
      have e := rn_go (P := bD) (g := g) (n := n) (p := stq g n q) (by omega) c
      have e2 : stq g n q + 1 ≤ rn bD g n (stq g n q + 1) := rn_ge
      have e3 : rn bD g n (stq g n q) ≤ n := rn_le (by omega)
      omega
    · omega
theorem nxq_le (h : q ≤ n) : q ≤ nxq g n q ∧ nxq g n q ≤ n := by
  by_cases e : n ≤ stq g n q
  · unfold nxq
    rw [if_pos e]
    exact ⟨h, Nat.le_refl _⟩
  · have r := nxq_gt h e
    omega
/-- the byte ahead of the next place is a letter or a digit just behind a word or a number -/
theorem nxq_ld (h : q ≤ n) (h2 : ¬ n ≤ stq g n q) : (bL (g (nxq g n q - 1)) || bD (g (nxq g n q - 1))) = true ↔ (bL (g (stq g n q)) = true ∨ bD (g (stq g n q)) = true) := by
  have gt := nxq_gt h h2
  have s1 : q ≤ stq g n q := rn_ge
  rw [Bool.or_eq_true]
  by_cases c1 : bL (g (stq g n q)) = true
  · have e : nxq g n q = rn bL g n (stq g n q) := by
      unfold nxq
      rw [if_neg h2, if_pos c1]
    have go := rn_go (P := bL) (g := g) (n := n) (p := stq g n q) (by omega) c1
    have ge : stq g n q + 1 ≤ rn bL g n (stq g n q + 1) := rn_ge
    have al := rn_all (P := bL) (g := g) (n := n) (p := stq g n q) (i := rn bL g n (stq g n q) - 1) (by omega) (by omega)
    rw [e]
    exact ⟨fun _ => Or.inl c1, fun _ => Or.inl al.2⟩
  · by_cases c2 : bD (g (stq g n q)) = true
    · have e : nxq g n q = rn bD g n (stq g n q) := by
        unfold nxq
        rw [if_neg h2, if_neg c1, if_pos c2]
      have go := rn_go (P := bD) (g := g) (n := n) (p := stq g n q) (by omega) c2
      have ge : stq g n q + 1 ≤ rn bD g n (stq g n q + 1) := rn_ge
      have al := rn_all (P := bD) (g := g) (n := n) (p := stq g n q) (i := rn bD g n (stq g n q) - 1) (by omega) (by omega)
      rw [e]
      exact ⟨fun _ => Or.inr c2, fun _ => Or.inr al.2⟩
    · have e : nxq g n q = stq g n q + 1 := by
        unfold nxq
        rw [if_neg h2, if_neg c1, if_neg c2]
      rw [e, Nat.add_sub_cancel]
end TokR
