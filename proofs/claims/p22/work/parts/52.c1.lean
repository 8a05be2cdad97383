/-! deals: what may be given; the best of them is one -/
/-- each pair once, if it may be; no more than is due; no more of a kind up to a day than came up to it -/
def DealOk (n K : Nat) (D : Nat → Int) (dy : Nat → Nat) (Al : Nat → Nat → Prop) (cu : Nat → Nat → Int) (X : Nat → Nat → Int) : Prop := (∀ k i, k < n → i < K → (X k i = 0 ∨ X k i = 1) ∧ (X k i = 1 → Al k i)) ∧ (∀ k, k < n → sgN (X k) K ≤ D k) ∧ ∀ i d, i < K → d ≤ 24 → sgN (fun k => if dy k ≤ d then X k i else 0) n ≤ cu i d
def dSize (n K : Nat) (X : Nat → Nat → Int) : Int := sgN (fun k => sgN (fun i => X k i) K) n
def dPts (n K : Nat) (Pt : Nat → Nat → Int) (X : Nat → Nat → Int) : Int := sgN (fun k => sgN (fun i => Pt k i * X k i) K) n
/-- a deal in one row, child by child, kind by kind -/
def flatD (n K : Nat) (X : Nat → Nat → Int) (q : Nat) : Int := if q / 10 < n ∧ q % 10 < K then X (q / 10) (q % 10) else 0
def BestD (n K : Nat) (D : Nat → Int) (dy : Nat → Nat) (Al : Nat → Nat → Prop) (cu : Nat → Nat → Int) (Pt : Nat → Nat → Int) (X : Nat → Nat → Int) : Prop := DealOk n K D dy Al cu X ∧ ∀ Y, DealOk n K D dy Al cu Y → dSize n K Y ≤ dSize n K X ∧ (dSize n K Y = dSize n K X → dPts n K Pt Y ≤ dPts n K Pt X ∧ (dPts n K Pt Y = dPts n K Pt X → LexM 400 (flatD n K X) (flatD n K Y)))
section Deals
variable {n K : Nat} {D : Nat → Int} {dy : Nat → Nat} {Al : Nat → Nat → Prop} {cu : Nat → Nat → Int} {Pt X Y : Nat → Nat → Int}
theorem LexM.anti {x y : Nat → Int} {n : Nat} (h : LexM n x y) (h2 : LexM n y x) : ∀ k, k < n → x k = y k := by
  rcases h with h | ⟨k, h1, h3, h4⟩
  · exact h
  · rcases h2 with h2 | ⟨j, j1, j3, j4⟩
    · have z := h2 k h1
      omega
    · rcases Nat.lt_trichotomy j k with c | c | c
      · have z := h3 j c
        omega
      · rw [c] at j4
        omega
      · have z := j3 k c
        omega
/-- there is one best deal alone -/
theorem BestD.uniq (h : BestD n K D dy Al cu Pt X) (h2 : BestD n K D dy Al cu Pt Y) (hn : n ≤ 40) (hK : K ≤ 10) : ∀ k i, k < n → i < K → X k i = Y k i := by
  obtain ⟨a1, a2⟩ := h
  obtain ⟨b1, b2⟩ := h2
  obtain ⟨c1, c2⟩ := a2 Y b1
  obtain ⟨d1, d2⟩ := b2 X a1
  have e : dSize n K Y = dSize n K X := by omega
  obtain ⟨c3, c4⟩ := c2 e
  obtain ⟨d3, d4⟩ := d2 e.symm
  have e2 : dPts n K Pt Y = dPts n K Pt X := by omega
  have q := (c4 e2).anti (d4 e2.symm)
  intro k i hk hi
  have z := q (10 * k + i) (by omega)
  unfold flatD at z
  have d10 : (10 * k + i) / 10 = k := by omega
  have m10 : (10 * k + i) % 10 = i := by omega
  rw [d10, m10, if_pos ⟨hk, hi⟩, if_pos ⟨hk, hi⟩] at z
  exact z
/-- lists laid behind one another -/
def catN {α : Type} (g : Nat → List α) : Nat → List α
  | 0 => []
  | n + 1 => catN g n ++ g n
def sgL {α : Type} (F : α → Int) : List α → Int
  | [] => 0
  | x :: l => F x + sgL F l
theorem sgL_app {α : Type} {F : α → Int} : ∀ (l k : List α), sgL F (l ++ k) = sgL F l + sgL F k
  | [], k => (Int.zero_add _).symm
  | x :: l, k => by
    show F x + sgL F (l ++ k) = F x + sgL F l + sgL F k
    rw [sgL_app l k]
    omega
theorem sgL_cat {α : Type} {F : α → Int} {g : Nat → List α} : ∀ n : Nat, sgL F (catN g n) = sgN (fun i => sgL F (g i)) n
  | 0 => rfl
  | n + 1 => by
    show sgL F (catN g n ++ g n) = sgN (fun i => sgL F (g i)) n + sgL F (g n)
    rw [sgL_app, sgL_cat n]
theorem sgL_one {α : Type} {F : α → Int} (x : α) : sgL F [x] = F x := Int.add_zero _
theorem sgL_if {α : Type} {F : α → Int} {p : Prop} [Decidable p] (x : α) : sgL F (if p then [x] else []) = if p then F x else 0 := by
  split
  · exact sgL_one x
  · rfl
/-- a sum along a list's places -/
theorem sgN_list {α : Type} {F : α → Int} : ∀ (l : List α) (f : Nat → Int), (∀ (j : Nat) (h : j < l.length), f j = F l[j]) → sgN f l.length = sgL F l
  | [], f, _ => rfl
  | x :: l, f, h => by
    have e : (x :: l).length = 1 + l.length := by
      rw [List.length_cons]
      omega
    rw [e, sgN_spl]
    show 0 + f 0 + _ = F x + sgL F l
    rw [sgN_list l (fun i => f (1 + i)) (fun j hj => by
      have z := h (j + 1) (by rw [List.length_cons]; omega)
      rw [Nat.add_comm 1 j, z]
      rfl), h 0 (by rw [List.length_cons]; omega)]
    show 0 + F x + sgL F l = F x + sgL F l
    omega
theorem mem_catN {α : Type} {g : Nat → List α} {x : α} : ∀ n : Nat, x ∈ catN g n ↔ ∃ i, i < n ∧ x ∈ g i
  | 0 => ⟨fun h => absurd h List.not_mem_nil, fun ⟨i, h, _⟩ => absurd h (Nat.not_lt_zero _)⟩
  | n + 1 => by
    have ih := mem_catN (g := g) (x := x) n
    show x ∈ catN g n ++ g n ↔ _
    rw [List.mem_append, ih]
    constructor
    · intro h
      rcases h with ⟨i, h1, h2⟩ | h
      · exact ⟨i, by omega, h2⟩
      · exact ⟨n, by omega, h⟩
    · intro h
      obtain ⟨i, h1, h2⟩ := h
      by_cases c : i = n
      · rw [c] at h2
        exact Or.inr h2
      · exact Or.inl ⟨i, by omega, h2⟩
end Deals
