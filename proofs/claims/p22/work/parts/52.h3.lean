/-! the ranker: a spread, all it does -/
section Sp3
variable {R K S k : Nat} {sl fr : Nat → Nat} {D : Nat → Int} {al : Nat → Nat → Prop} {pt cu X : Nat → Nat → Int} {rw_ cost : Int} {s t u : PS} {rr : Int}
theorem isFreeF {p : Nat} (m : M_X9_isFree s (p : Int) cost rr t) : t = s ∧ ((rr = 0 ∧ (s 85 p = s 81 4 ∨ ¬ s 77 p = cost)) ∨ (rr = 1 ∧ ¬ s 85 p = s 81 4 ∧ s 77 p = cost)) := by
  unfold M_X9_isFree T_X9_isFree_e at m
  obtain ⟨_, _, m⟩ := m
  rw [Int.toNat_natCast] at m
  rcases m with ⟨c, er, et⟩ | ⟨c, m⟩
  · exact ⟨et, Or.inl ⟨er, Or.inl c⟩⟩
  · rcases m with ⟨c2, er, et⟩ | ⟨c2, er, et⟩
    · exact ⟨et, Or.inr ⟨er, c, c2⟩⟩
    · exact ⟨et, Or.inl ⟨er, Or.inr c2⟩⟩
theorem spread61 (hkK : k < K) {slot : Nat} (hc : -2199023255552 ≤ cost ∧ cost ≤ 2199023255552) : ∀ (fu x : Nat) (s : PS) (rr : Int) (t : PS), It_X9_spread fu 61 rw_ (k : Int) (slot : Int) ((k : Int) * 24) cost (x : Int) s rr t → FlS R K S sl fr D al pt cu X s → LiI R s → 1 ≤ x → x ≤ S → ∃ hi, x ≤ hi ∧ hi ≤ S ∧ SpE R K S k (fun u => x ≤ u ∧ u < hi) (hitS sl pt X k (fun u => x ≤ u ∧ u < hi) s) rw_ (k : Int) s t ∧ (∀ u, x ≤ u → u < hi → (¬ s 85 (24 * k + u) = s 81 4 ∧ s 77 (24 * k + u) = cost) ∧ 0 < rStk R sl cu X k (u - 1)) ∧ (hi = S ∨ rStk R sl cu X k (hi - 1) ≤ 0 ∨ s 85 (24 * k + hi) = s 81 4 ∨ ¬ s 77 (24 * k + hi) = cost)
  | 0, x, s, rr, t, m, _, _, _, _ => False.elim m
  | fu + 1, x, s, rr, t, m, hF, hL, hx1, hx => by
    have hF0 := hF
    obtain ⟨f1, f2, f3, f4, f5, f6, f7, f8⟩ := hF
    have hS : 0 < S := by omega
    replace m := ul_X9_spread_61 m
    unfold T_X9_spread_61 at m
    obtain ⟨_, _, _, _, _, _, m⟩ := m
    rw [f1.2.2] at m
    have ei1 : ((((k : Int) * 24) + (x : Int)) - 1).toNat = 24 * k + (x - 1) := by
      clear m
      omega
    have ei : (((k : Int) * 24) + (x : Int)) = ((24 * k + x : Nat) : Int) := by
      clear m
      omega
    rw [ei1] at m
    have no : SpE R K S k (fun u => x ≤ u ∧ u < x) (hitS sl pt X k (fun u => x ≤ u ∧ u < x) s) rw_ (k : Int) s s := SpE.no hL (fun u z => by
      have z2 : x ≤ u ∧ u < x := z
      omega) (fun r _ z => by
      have z2 : x ≤ sl r ∧ sl r < x := z.2.2.1
      omega)
    rcases m with ⟨c, _, e⟩ | ⟨c, m⟩
    · rw [e]
      exact ⟨x, Nat.le_refl x, hx, no, fun u u1 u2 => absurd u2 (by omega), Or.inl (by omega)⟩
    · have hxS : x < S := by
        clear m
        omega
      rw [(f5 k (x - 1) hkK (by omega)).1] at m
      rcases m with ⟨c1, _, e⟩ | ⟨c1, r5, s4, m4, _, _, _, m⟩
      · rw [e]
        exact ⟨x, Nat.le_refl x, hx, no, fun u u1 u2 => absurd u2 (by omega), Or.inr (Or.inl c1)⟩
      · rw [ei] at m4
        obtain ⟨e4, fr4⟩ := isFreeF m4
        rw [e4] at m
        rcases m with ⟨c2, _, e⟩ | ⟨c2, s9, m9, _, _, m⟩
        · rw [e]
          refine ⟨x, Nat.le_refl x, hx, no, fun u u1 u2 => absurd u2 (by omega), Or.inr (Or.inr ?_)⟩
          rcases fr4 with ⟨_, y⟩ | ⟨y, _⟩
          · exact y
          · omega
        · rcases fr4 with ⟨y, _⟩ | ⟨_, y1, y2⟩
          · exact absurd y c2
          · have w := seeF hF0 hL hkK hxS (by rw [y2]; exact hc) m9
            obtain ⟨w1, w2, w3, _, _, _, w7, w8, w9⟩ := id w
            have F9 : FlS R K S sl fr D al pt cu X s9 := hF0.cg (fun y y1 y2 => w7 y (by omega))
            obtain ⟨hi, v1, v2, v3, v4, v5⟩ := spread61 hkK hc fu (x + 1) s9 rr t m F9 w3 (by omega) (by omega)
            have st : s9 81 4 = s 81 4 := w9 4 (by decide) (by decide) (by decide)
            have un : ∀ u, u < S → ¬ u = x → s9 85 (24 * k + u) = s 85 (24 * k + u) := fun u hu2 hne => ((w1 k u hkK hu2).2 (fun z => hne z.2)).1
            refine ⟨hi, by omega, v2, (w.seq v3 hS (fun y z1 z2 => by
              have z3 : y = x := z1
              have z4 : x + 1 ≤ y ∧ y < hi := z2
              omega)).ci hS (fun u _ => ?_) (fun r hr => ?_), fun u u1 u2 => ?_, ?_⟩
            · show (u = x ∨ (x + 1 ≤ u ∧ u < hi)) ↔ (x ≤ u ∧ u < hi)
              omega
            · have q : (sl r = x ∨ (x + 1 ≤ sl r ∧ sl r < hi)) ↔ (x ≤ sl r ∧ sl r < hi) := by omega
              exact ⟨fun z => ⟨z.1, z.2.1, q.mp z.2.2.1, z.2.2.2⟩, fun z => ⟨z.1, z.2.1, q.mpr z.2.2.1, z.2.2.2⟩⟩
            · by_cases q : u = x
              · rw [q]
                exact ⟨⟨y1, y2⟩, by clear m; omega⟩
              · have y := v4 u (by omega) u2
                rw [un u (by omega) q, st, w7 77 (by decide)] at y
                exact y
            · rcases v5 with y | y | y
              · exact Or.inl y
              · exact Or.inr (Or.inl y)
              · by_cases q : hi = S
                · exact Or.inl q
                · rw [un hi (by omega) (by omega), st, w7 77 (by decide)] at y
                  exact Or.inr (Or.inr y)
/-- what a spread has seen -/
def SpD (R K S k : Nat) (sl : Nat → Nat) (cu X : Nat → Nat → Int) (slot : Nat) (cost : Int) (s : PS) (lo y hi : Nat) : Prop := (∀ u, lo ≤ u → u < y → ¬ s 85 (24 * k + u) = s 81 4 ∧ s 77 (24 * k + u) = cost) ∧ (lo = 0 ∨ s 85 (24 * k + (lo - 1)) = s 81 4 ∨ ¬ s 77 (24 * k + (lo - 1)) = cost) ∧ (∀ u, slot + 1 ≤ u → u < hi → (¬ s 85 (24 * k + u) = s 81 4 ∧ s 77 (24 * k + u) = cost) ∧ 0 < rStk R sl cu X k (u - 1)) ∧ (hi = S ∨ rStk R sl cu X k (hi - 1) ≤ 0 ∨ s 85 (24 * k + hi) = s 81 4 ∨ ¬ s 77 (24 * k + hi) = cost)
theorem spread23 (hkK : k < K) {slot : Nat} (hslot : slot < S) (hc : -2199023255552 ≤ cost ∧ cost ≤ 2199023255552) : ∀ (fu y : Nat) (s : PS) (rr : Int) (t : PS), It_X9_spread fu 23 rw_ (k : Int) (slot : Int) ((k : Int) * 24) cost ((y : Int) - 1) s rr t → FlS R K S sl fr D al pt cu X s → LiI R s → y ≤ slot + 1 → ∃ lo hi, lo ≤ y ∧ slot + 1 ≤ hi ∧ hi ≤ S ∧ SpE R K S k (fun u => (lo ≤ u ∧ u < y) ∨ (slot + 1 ≤ u ∧ u < hi)) (hitS sl pt X k (fun u => (lo ≤ u ∧ u < y) ∨ (slot + 1 ≤ u ∧ u < hi)) s) rw_ (k : Int) s t ∧ SpD R K S k sl cu X slot cost s lo y hi
  | 0, y, s, rr, t, m, _, _, _ => False.elim m
  | fu + 1, y, s, rr, t, m, hF, hL, hy => by
    have hF0 := hF
    obtain ⟨f1, f2, f3, f4, f5, f6, f7, f8⟩ := hF
    have hS : 0 < S := by omega
    replace m := ul_X9_spread_23 m
    unfold T_X9_spread_23 at m
    obtain ⟨_, _, _, _, _, _, m⟩ := m
    have done : It_X9_spread fu 56 rw_ (k : Int) (slot : Int) ((k : Int) * 24) cost ((y : Int) - 1) s rr t → (y = 0 ∨ s 85 (24 * k + (y - 1)) = s 81 4 ∨ ¬ s 77 (24 * k + (y - 1)) = cost) → ∃ lo hi, lo ≤ y ∧ slot + 1 ≤ hi ∧ hi ≤ S ∧ SpE R K S k (fun u => (lo ≤ u ∧ u < y) ∨ (slot + 1 ≤ u ∧ u < hi)) (hitS sl pt X k (fun u => (lo ≤ u ∧ u < y) ∨ (slot + 1 ≤ u ∧ u < hi)) s) rw_ (k : Int) s t ∧ SpD R K S k sl cu X slot cost s lo y hi := by
      intro m2 ylo
      cases fu with
      | zero => exact False.elim m2
      | succ fu =>
        replace m2 := ul_X9_spread_56 m2
        unfold T_X9_spread_56 at m2
        obtain ⟨_, _, _, _, _, _, m2⟩ := m2
        obtain ⟨hi, v1, v2, v3, v4, v5⟩ := spread61 hkK hc fu (slot + 1) s rr t m2 hF0 hL (by omega) (by omega)
        refine ⟨y, hi, Nat.le_refl y, v1, v2, v3.ci hS (fun u _ => ?_) (fun r hr => ?_), fun u u1 u2 => absurd u2 (by omega), ylo, v4, v5⟩
        · show (slot + 1 ≤ u ∧ u < hi) ↔ ((y ≤ u ∧ u < y) ∨ (slot + 1 ≤ u ∧ u < hi))
          omega
        · have q : (slot + 1 ≤ sl r ∧ sl r < hi) ↔ ((y ≤ sl r ∧ sl r < y) ∨ (slot + 1 ≤ sl r ∧ sl r < hi)) := by omega
          exact ⟨fun z => ⟨z.1, z.2.1, q.mp z.2.2.1, z.2.2.2⟩, fun z => ⟨z.1, z.2.1, q.mpr z.2.2.1, z.2.2.2⟩⟩
    rcases m with ⟨c, m⟩ | ⟨c, r15, s14, m14, _, _, _, m⟩
    · exact done m (Or.inl (by clear m; omega))
    · have hy0 : 0 < y := by
        clear m m14
        omega
      have ei : (((k : Int) * 24) + ((y : Int) - 1)) = ((24 * k + (y - 1) : Nat) : Int) := by
        clear m m14
        omega
      have ey : (y : Int) - 1 = ((y - 1 : Nat) : Int) := by
        clear m m14
        omega
      rw [ei] at m14
      obtain ⟨e14, fr14⟩ := isFreeF m14
      rw [e14] at m
      rcases m with ⟨c1, m⟩ | ⟨c1, s19, m19, _, _, m⟩
      · refine done m (Or.inr ?_)
        rcases fr14 with ⟨_, z⟩ | ⟨z, _⟩
        · exact z
        · clear m
          omega
      · rcases fr14 with ⟨z, _⟩ | ⟨_, z1, z2⟩
        · exact absurd z c1
        · rw [ey] at m19 m
          have em : ((y - 1 : Nat) : Int) + (-1) = ((y - 1 : Nat) : Int) - 1 := by
            clear m m19
            omega
          rw [em] at m
          have w := seeF hF0 hL hkK (show y - 1 < S by omega) (by rw [z2]; exact hc) m19
          obtain ⟨w1, w2, w3, _, _, _, w7, w8, w9⟩ := id w
          have F9 : FlS R K S sl fr D al pt cu X s19 := hF0.cg (fun y y1 y2 => w7 y (by omega))
          obtain ⟨lo, hi, v1, v2, v3, v4, v5, v6, v7, v8⟩ := spread23 hkK hslot hc fu (y - 1) s19 rr t m F9 w3 (by omega)
          have st : s19 81 4 = s 81 4 := w9 4 (by decide) (by decide) (by decide)
          have un : ∀ u, u < S → ¬ u = y - 1 → s19 85 (24 * k + u) = s 85 (24 * k + u) := fun u hu2 hne => ((w1 k u hkK hu2).2 (fun z => hne z.2)).1
          refine ⟨lo, hi, by omega, v2, v3, (w.seq v4 hS (fun x q1 q2 => by
            have q3 : x = y - 1 := q1
            have q4 : (lo ≤ x ∧ x < y - 1) ∨ (slot + 1 ≤ x ∧ x < hi) := q2
            omega)).ci hS (fun u _ => ?_) (fun r hr => ?_), fun u u1 u2 => ?_, ?_, fun u u1 u2 => ?_, ?_⟩
          · show (u = y - 1 ∨ ((lo ≤ u ∧ u < y - 1) ∨ (slot + 1 ≤ u ∧ u < hi))) ↔ ((lo ≤ u ∧ u < y) ∨ (slot + 1 ≤ u ∧ u < hi))
            omega
          · have q : (sl r = y - 1 ∨ ((lo ≤ sl r ∧ sl r < y - 1) ∨ (slot + 1 ≤ sl r ∧ sl r < hi))) ↔ ((lo ≤ sl r ∧ sl r < y) ∨ (slot + 1 ≤ sl r ∧ sl r < hi)) := by omega
            exact ⟨fun z => ⟨z.1, z.2.1, q.mp z.2.2.1, z.2.2.2⟩, fun z => ⟨z.1, z.2.1, q.mpr z.2.2.1, z.2.2.2⟩⟩
          · by_cases q : u = y - 1
            · rw [q]
              exact ⟨z1, z2⟩
            · have z := v5 u u1 (by omega)
              rw [un u (by omega) q, st, w7 77 (by decide)] at z
              exact z
          · rcases v6 with z | z
            · exact Or.inl z
            · by_cases q : lo = 0
              · exact Or.inl q
              · rw [un (lo - 1) (by omega) (by omega), st, w7 77 (by decide)] at z
                exact Or.inr z
          · have z := v7 u u1 u2
            rw [un u (by omega) (by omega), st, w7 77 (by decide)] at z
            exact z
          · rcases v8 with z | z | z
            · exact Or.inl z
            · exact Or.inr (Or.inl z)
            · by_cases q : hi = S
              · exact Or.inl q
              · rw [un hi (by omega) (by omega), st, w7 77 (by decide)] at z
                exact Or.inr (Or.inr z)
theorem spreadF (hF : FlS R K S sl fr D al pt cu X s) (hL : LiI R s) (hkK : k < K) {slot : Nat} (hslot : slot < S) (hc : -2199023255552 ≤ s 77 (24 * k + slot) ∧ s 77 (24 * k + slot) ≤ 2199023255552) (m : M_X9_spread s rw_ (k : Int) (slot : Int) rr t) : ∃ lo hi, lo ≤ slot + 1 ∧ slot + 1 ≤ hi ∧ hi ≤ S ∧ SpE R K S k (fun u => lo ≤ u ∧ u < hi) (hitS sl pt X k (fun u => lo ≤ u ∧ u < hi) s) rw_ (k : Int) s t ∧ SpD R K S k sl cu X slot (s 77 (24 * k + slot)) s lo (slot + 1) hi := by
  have hS : 0 < S := by omega
  obtain ⟨fu, m⟩ := m
  unfold T_X9_spread_e at m
  obtain ⟨_, _, _, _, m⟩ := m
  have ei : (((k : Int) * 24) + (slot : Int)).toNat = 24 * k + slot := by
    clear m
    omega
  have es : (slot : Int) = ((slot + 1 : Nat) : Int) - 1 := by
    clear m
    omega
  rw [ei] at m
  have m2 : It_X9_spread fu 23 rw_ (k : Int) (slot : Int) ((k : Int) * 24) (s 77 (24 * k + slot)) (((slot + 1 : Nat) : Int) - 1) s rr t := by
    rw [← es]
    exact m
  obtain ⟨lo, hi, v1, v2, v3, v4, v5⟩ := spread23 hkK hslot hc fu (slot + 1) s rr t m2 hF hL (Nat.le_refl _)
  refine ⟨lo, hi, v1, v2, v3, v4.ci hS (fun u _ => ?_) (fun r hr => ?_), v5⟩
  · show ((lo ≤ u ∧ u < slot + 1) ∨ (slot + 1 ≤ u ∧ u < hi)) ↔ (lo ≤ u ∧ u < hi)
    omega
  · have q : ((lo ≤ sl r ∧ sl r < slot + 1) ∨ (slot + 1 ≤ sl r ∧ sl r < hi)) ↔ (lo ≤ sl r ∧ sl r < hi) := by omega
    exact ⟨fun z => ⟨z.1, z.2.1, q.mp z.2.2.1, z.2.2.2⟩, fun z => ⟨z.1, z.2.1, q.mpr z.2.2.1, z.2.2.2⟩⟩
end Sp3
