/-! sums over the first n -/
def sgN (f : Nat → Int) : Nat → Int
  | 0 => 0
  | n + 1 => sgN f n + f n
theorem sgN_cg {f g : Nat → Int} : ∀ n : Nat, (∀ i, i < n → f i = g i) → sgN f n = sgN g n
  | 0, _ => rfl
  | n + 1, h => by
    show sgN f n + f n = sgN g n + g n
    rw [sgN_cg n (fun i hi => h i (by omega)), h n (by omega)]
theorem sgN_add {f g : Nat → Int} : ∀ n : Nat, sgN (fun i => f i + g i) n = sgN f n + sgN g n
  | 0 => rfl
  | n + 1 => by
    show sgN (fun i => f i + g i) n + (f n + g n) = sgN f n + f n + (sgN g n + g n)
    rw [sgN_add n]
    omega
theorem sgN_sub {f g : Nat → Int} : ∀ n : Nat, sgN (fun i => f i - g i) n = sgN f n - sgN g n
  | 0 => rfl
  | n + 1 => by
    show sgN (fun i => f i - g i) n + (f n - g n) = sgN f n + f n - (sgN g n + g n)
    rw [sgN_sub n]
    omega
theorem sgN_le {f g : Nat → Int} : ∀ n : Nat, (∀ i, i < n → f i ≤ g i) → sgN f n ≤ sgN g n
  | 0, _ => Int.le_refl _
  | n + 1, h => by
    show sgN f n + f n ≤ sgN g n + g n
    have a := sgN_le n (fun i hi => h i (by omega))
    have b := h n (by omega)
    omega
theorem sgN_0 {f : Nat → Int} : ∀ n : Nat, (∀ i, i < n → f i = 0) → sgN f n = 0
  | 0, _ => rfl
  | n + 1, h => by
    show sgN f n + f n = 0
    rw [sgN_0 n (fun i hi => h i (by omega)), h n (by omega)]
    rfl
theorem sgN_nn {f : Nat → Int} (n : Nat) (h : ∀ i, i < n → 0 ≤ f i) : 0 ≤ sgN f n := by
  have z := sgN_le (f := fun _ => 0) (g := f) n h
  rw [sgN_0 n (fun _ _ => rfl)] at z
  exact z
theorem sgN_np {f : Nat → Int} (n : Nat) (h : ∀ i, i < n → f i ≤ 0) : sgN f n ≤ 0 := by
  have z := sgN_le (f := f) (g := fun _ => 0) n h
  rw [sgN_0 n (fun _ _ => rfl)] at z
  exact z
theorem sgN_mul {f : Nat → Int} {c : Int} : ∀ n : Nat, sgN (fun i => c * f i) n = c * sgN f n
  | 0 => (Int.mul_zero c).symm
  | n + 1 => by
    show sgN (fun i => c * f i) n + c * f n = c * (sgN f n + f n)
    rw [sgN_mul n, Int.mul_add]
theorem sgN_mulr {f : Nat → Int} {c : Int} (n : Nat) : sgN (fun i => f i * c) n = sgN f n * c := by
  rw [Int.mul_comm, ← sgN_mul]
  exact sgN_cg n (fun i _ => Int.mul_comm _ _)
/-- one place more -/
theorem sgN_ge {f : Nat → Int} : ∀ (n j : Nat), j < n → (∀ i, i < n → 0 ≤ f i) → f j ≤ sgN f n
  | 0, j, h, _ => absurd h (Nat.not_lt_zero _)
  | n + 1, j, h, hf => by
    show f j ≤ sgN f n + f n
    by_cases e : j = n
    · have z := sgN_nn n (fun i hi => hf i (by omega))
      rw [e]
      omega
    · have z := sgN_ge n j (by omega) (fun i hi => hf i (by omega))
      have y := hf n (by omega)
      omega
theorem sgN_lt {f : Nat → Int} {n j : Nat} (hj : j < n) (h : ∀ i, i < n → f i ≤ 0) (hl : f j < 0) : sgN f n < 0 := by
  have z := sgN_ge (f := fun i => - f i) n j hj (fun i hi => by have := h i hi; omega)
  have e : sgN (fun i => - f i) n = - sgN f n := by
    have y := sgN_mul (f := f) (c := -1) n
    rw [sgN_cg (g := fun i => -1 * f i) n (fun i _ => by omega), y]
    omega
  rw [e] at z
  have z2 : - f j ≤ - sgN f n := z
  omega
theorem sgN_gt {f : Nat → Int} {n j : Nat} (hj : j < n) (h : ∀ i, i < n → 0 ≤ f i) (hl : 0 < f j) : 0 < sgN f n := by
  have z := sgN_ge n j hj h
  omega
/-- one term alone is changed -/
theorem sgN_up {f g : Nat → Int} : ∀ (n j : Nat), j < n → (∀ i, i < n → ¬ i = j → g i = f i) → sgN g n = sgN f n + (g j - f j)
  | 0, j, h, _ => absurd h (Nat.not_lt_zero _)
  | n + 1, j, h, hf => by
    show sgN g n + g n = sgN f n + f n + (g j - f j)
    by_cases e : j = n
    · rw [sgN_cg (f := g) (g := f) n (fun i hi => hf i (by omega) (by omega)), e]
      omega
    · rw [sgN_up n j (by omega) (fun i hi hne => hf i (by omega) hne), hf n (by omega) (fun z => e z.symm)]
      omega
/-- two sums change places -/
theorem sgN_sw {f : Nat → Nat → Int} : ∀ (n m : Nat), sgN (fun i => sgN (fun j => f i j) m) n = sgN (fun j => sgN (fun i => f i j) n) m
  | 0, m => (sgN_0 m (fun _ _ => rfl)).symm
  | n + 1, m => by
    show sgN (fun i => sgN (fun j => f i j) m) n + sgN (fun j => f n j) m = sgN (fun j => sgN (fun i => f i j) n + f n j) m
    rw [sgN_sw n m, sgN_add]
theorem sgN_spl {f : Nat → Int} (a : Nat) : ∀ b : Nat, sgN f (a + b) = sgN f a + sgN (fun i => f (a + i)) b
  | 0 => by
    show sgN f a = sgN f a + 0
    omega
  | b + 1 => by
    show sgN f (a + b) + f (a + b) = sgN f a + (sgN (fun i => f (a + i)) b + f (a + b))
    rw [sgN_spl a b]
    omega
/-- one place alone counts -/
theorem sgN_one {f : Nat → Int} (n j : Nat) (hj : j < n) (h : ∀ i, i < n → ¬ i = j → f i = 0) : sgN f n = f j := by
  have z := sgN_up (f := fun _ => 0) (g := f) n j hj h
  rw [sgN_0 n (fun _ _ => rfl)] at z
  omega
