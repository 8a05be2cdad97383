/-! words as numbers: five bits a letter from the top, or eight bits a letter -/
def LW (l : List Nat) : Prop := l.length ≤ 8 ∧ ∀ c ∈ l, 97 ≤ c ∧ c ≤ 122
def dg5 (l : List Nat) (i : Nat) : Nat := l.getD i 96 - 96
def e5 (l : List Nat) : Nat := dg5 l 0 * 34359738368 + dg5 l 1 * 1073741824 + dg5 l 2 * 33554432 + dg5 l 3 * 1048576 + dg5 l 4 * 32768 + dg5 l 5 * 1024 + dg5 l 6 * 32 + dg5 l 7
theorem dg5_in {l : List Nat} (h : LW l) {i : Nat} (hi : i < l.length) : dg5 l i = l[i] - 96 ∧ 1 ≤ dg5 l i ∧ dg5 l i ≤ 26 := by
  have c := h.2 l[i] (List.getElem_mem hi)
  have e : dg5 l i = l[i] - 96 := by
    unfold dg5
    rw [List.getD_eq_getElem?_getD, List.getElem?_eq_getElem hi]
    rfl
  omega
theorem dg5_out {l : List Nat} {i : Nat} (hi : l.length ≤ i) : dg5 l i = 0 := by
  unfold dg5
  rw [List.getD_eq_getElem?_getD, List.getElem?_eq_none hi]
  rfl
theorem dg5_lt {l : List Nat} (h : LW l) (i : Nat) : dg5 l i < 32 := by
  by_cases q : i < l.length
  · have := dg5_in h q
    omega
  · have := dg5_out (l := l) (i := i) (by omega)
    omega
theorem e5_dg {l m : List Nat} (h : LW l) (h2 : LW m) (e : e5 l = e5 m) : dg5 l 0 = dg5 m 0 ∧ dg5 l 1 = dg5 m 1 ∧ dg5 l 2 = dg5 m 2 ∧ dg5 l 3 = dg5 m 3 ∧ dg5 l 4 = dg5 m 4 ∧ dg5 l 5 = dg5 m 5 ∧ dg5 l 6 = dg5 m 6 ∧ dg5 l 7 = dg5 m 7 := by
  have a0 := dg5_lt h 0
  have a1 := dg5_lt h 1
  have a2 := dg5_lt h 2
  have a3 := dg5_lt h 3
  have a4 := dg5_lt h 4
  have a5 := dg5_lt h 5
  have a6 := dg5_lt h 6
  have a7 := dg5_lt h 7
  have b0 := dg5_lt h2 0
  have b1 := dg5_lt h2 1
  have b2 := dg5_lt h2 2
  have b3 := dg5_lt h2 3
  have b4 := dg5_lt h2 4
  have b5 := dg5_lt h2 5
  have b6 := dg5_lt h2 6
  have b7 := dg5_lt h2 7
  unfold e5 at e
  have c0 : dg5 l 0 = dg5 m 0 := by omega
  have c1 : dg5 l 1 = dg5 m 1 := by omega
  have c2 : dg5 l 2 = dg5 m 2 := by omega
  have c3 : dg5 l 3 = dg5 m 3 := by omega
  have c4 : dg5 l 4 = dg5 m 4 := by omega
  have c5 : dg5 l 5 = dg5 m 5 := by omega
  have c6 : dg5 l 6 = dg5 m 6 := by omega
  exact ⟨c0, c1, c2, c3, c4, c5, c6, by omega⟩
theorem e5_inj {l m : List Nat} (h : LW l) (h2 : LW m) (e : e5 l = e5 m) : l = m := by
  have d := e5_dg h h2 e
  have da : ∀ i, i < 8 → dg5 l i = dg5 m i := by
    intro i hi
    match i, hi with
    | 0, _ => exact d.1
    | 1, _ => exact d.2.1
    | 2, _ => exact d.2.2.1
    | 3, _ => exact d.2.2.2.1
    | 4, _ => exact d.2.2.2.2.1
    | 5, _ => exact d.2.2.2.2.2.1
    | 6, _ => exact d.2.2.2.2.2.2.1
    | 7, _ => exact d.2.2.2.2.2.2.2
    | i + 8, hi => exact absurd hi (by omega)
  have hl := h.1
  have hm := h2.1
  have len : l.length = m.length := by
    by_cases q : l.length < m.length
    · have a := dg5_in h2 q
      have b := dg5_out (l := l) (Nat.le_refl l.length)
      have c := da l.length (by omega)
      omega
    · by_cases r : m.length < l.length
      · have a := dg5_in h r
        have b := dg5_out (l := m) (Nat.le_refl m.length)
        have c := da m.length (by omega)
        omega
      · omega
  apply List.ext_getElem len
  intro i h1 h3
  have a := dg5_in h h1
  have b := dg5_in h2 h3
  have c := da i (by omega)
  have x := h.2 l[i] (List.getElem_mem h1)
  have y := h2.2 m[i] (List.getElem_mem h3)
  omega
/-- the last letter first -/
def e8 : List Nat → Nat
  | [] => 0
  | c :: l => c + 256 * e8 l
theorem e8_inj : ∀ {l m : List Nat}, (∀ c ∈ l, 97 ≤ c ∧ c ≤ 122) → (∀ c ∈ m, 97 ≤ c ∧ c ≤ 122) → e8 l = e8 m → l = m
  | [], [], _, _, _ => rfl
  | [], c :: m, _, h2, e => by
    have x := h2 c List.mem_cons_self
    have e2 : 0 = c + 256 * e8 m := e
    omega
  | c :: l, [], h1, _, e => by
    have x := h1 c List.mem_cons_self
    have e2 : c + 256 * e8 l = 0 := e
    omega
  | c :: l, d :: m, h1, h2, e => by
    have x := h1 c List.mem_cons_self
    have y := h2 d List.mem_cons_self
    have e2 : c + 256 * e8 l = d + 256 * e8 m := e
    have e3 : c = d := by omega
    have e4 : e8 l = e8 m := by omega
    rw [e3, e8_inj (fun a ha => h1 a (List.mem_cons_of_mem _ ha)) (fun a ha => h2 a (List.mem_cons_of_mem _ ha)) e4]
/-- the letters from s on -/
def lts (g : Nat → Nat) (s k : Nat) : List Nat := (List.range k).map (fun i => g (s + i))
theorem lts_len (g : Nat → Nat) (s k : Nat) : (lts g s k).length = k := by
  unfold lts
  rw [List.length_map, List.length_range]
theorem lts_succ (g : Nat → Nat) (s k : Nat) : lts g s (k + 1) = lts g s k ++ [g (s + k)] := by
  unfold lts
  rw [List.range_succ, List.map_append]
  rfl
theorem lts_get (g : Nat → Nat) (s k i : Nat) (h : i < k) : (lts g s k)[i]? = some (g (s + i)) := by
  unfold lts
  rw [List.getElem?_map, List.getElem?_range h]
  rfl
theorem w8F_e8 (g : Nat → Nat) (s : Nat) : ∀ k, w8F g s k = e8 (lts g s k).reverse
  | 0 => rfl
  | k + 1 => by
    show 256 * w8F g s k + g (s + k) = _
    rw [lts_succ, List.reverse_append, w8F_e8 g s k]
    show _ = g (s + k) + 256 * e8 (lts g s k).reverse
    omega
theorem lts_LW {g : Nat → Nat} {s k : Nat} (hk : k ≤ 8) (h : ∀ i, i < k → 97 ≤ g (s + i) ∧ g (s + i) ≤ 122) : LW (lts g s k) := by
  refine ⟨by rw [lts_len]; exact hk, fun c hc => ?_⟩
  unfold lts at hc
  rw [List.mem_map] at hc
  obtain ⟨i, hi, rfl⟩ := hc
  rw [List.mem_range] at hi
  exact h i hi
/-- the same words, in either code -/
theorem w_both {g : Nat → Nat} {s k s2 k2 : Nat} (h1 : LW (lts g s k)) (h2 : LW (lts g s2 k2)) : e5 (lts g s k) = e5 (lts g s2 k2) ↔ w8F g s k = w8F g s2 k2 := by
  constructor
  · intro e
    rw [w8F_e8, w8F_e8, e5_inj h1 h2 e]
  · intro e
    rw [w8F_e8, w8F_e8] at e
    have q := e8_inj (fun c hc => h1.2 c (List.mem_reverse.mp hc)) (fun c hc => h2.2 c (List.mem_reverse.mp hc)) e
    rw [List.reverse_inj.mp q]
