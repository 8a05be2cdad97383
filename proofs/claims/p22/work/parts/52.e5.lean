/-! the filler: a kind is wanted on a day -/
section Want
variable {R K S : Nat} {sl fr : Nat → Nat} {D : Nat → Int} {al : Nat → Nat → Prop} {pt cu X : Nat → Nat → Int} {P0 Hd : Nat} {k : Nat} {cost rw_ : Int} {hu : List (Nat × Int)} {h : Nat → List (Nat × Int)} {s t : PS}
theorem want51 (hk : k < K) {slot : Nat} (hc : -2199023255552 ≤ cost ∧ cost ≤ 2199023255552) (hHd : Hd < 900000) (hP : Hd ≤ P0 + 41 * hu.length) : ∀ (fu x : Nat) (s : PS) (rr : Int) (t : PS) (h : Nat → List (Nat × Int)) (Tl : Nat), It_X2_want fu 51 rw_ (k : Int) (slot : Int) cost ((k : Int) * 24) (x : Int) s rr t → FlS R K S sl fr D al pt cu X s → QuI R h P0 Hd Tl s → 1 ≤ x → x ≤ S → ∃ hi h2, x ≤ hi ∧ hi ≤ S ∧ WQf R K S sl pt X P0 Hd k (fun u => x ≤ u ∧ u < hi) cost rw_ hu h s h2 t ∧ (∀ u, x ≤ u → u < hi → cost < s 77 (24 * k + u) ∧ 0 < rStk R sl cu X k (u - 1)) ∧ (hi = S ∨ rStk R sl cu X k (hi - 1) ≤ 0 ∨ s 77 (24 * k + hi) ≤ cost)
  | 0, x, s, rr, t, h, Tl, m, _, _, _, _ => False.elim m
  | fu + 1, x, s, rr, t, h, Tl, m, hF, hQ, hx1, hx => by
    have hF0 := hF
    obtain ⟨f1, f2, f3, f4, f5, f6, f7, f8⟩ := hF
    replace m := ul_X2_want_51 m
    unfold T_X2_want_51 at m
    obtain ⟨_, _, _, _, _, _, m⟩ := m
    rw [f1.2.2] at m
    have ei : (((k : Int) * 24) + (x : Int)).toNat = 24 * k + x := by
      clear m
      omega
    have ei1 : ((((k : Int) * 24) + (x : Int)) - 1).toNat = 24 * k + (x - 1) := by
      clear m
      omega
    rw [ei, ei1] at m
    have no : WQf R K S sl pt X P0 Hd k (fun u => x ≤ u ∧ u < x) cost rw_ hu h s h s := WQf.no (fun u z => by
      have z2 : x ≤ u ∧ u < x := z
      omega) hQ
    rcases m with ⟨c, _, e⟩ | ⟨c, m⟩
    · rw [e]
      exact ⟨x, h, Nat.le_refl x, hx, no, fun u u1 u2 => absurd u2 (by omega), Or.inl (by omega)⟩
    · have hxS : x < S := by
        clear m
        omega
      obtain ⟨g1, g2⟩ := f5 k (x - 1) hk (by omega)
      rw [g1] at m
      rcases m with ⟨c1, _, e⟩ | ⟨c1, m⟩
      · rw [e]
        exact ⟨x, h, Nat.le_refl x, hx, no, fun u u1 u2 => absurd u2 (by omega), Or.inr (Or.inl c1)⟩
      · rcases m with ⟨c2, _, e⟩ | ⟨c2, s7, m7, _, _, m⟩
        · rw [e]
          exact ⟨x, h, Nat.le_refl x, hx, no, fun u u1 u2 => absurd u2 (by omega), Or.inr (Or.inr c2)⟩
        · obtain ⟨h2, w⟩ := settleF hF0 hk hxS hc hHd hP hQ m7
          obtain ⟨⟨w1, w2, w3, w4⟩, ⟨Tl2, w5⟩, w6⟩ := id w
          have F7 : FlS R K S sl fr D al pt cu X s7 := hF0.cg (fun y y1 y2 => w3 y (by omega))
          obtain ⟨hi, h3, v1, v2, v3, v4, v5⟩ := want51 hk hc hHd hP fu (x + 1) s7 rr t h2 Tl2 m F7 w5 (by omega) (by omega)
          have un : ∀ u, u < S → ¬ u = x → s7 77 (24 * k + u) = s 77 (24 * k + u) := fun u hu2 hne => ((w1 k u hk hu2).2 (fun z => hne z.2)).1
          refine ⟨hi, h3, by omega, v2, (w.comp v3).ci (fun u _ => ⟨fun z => ?_, fun z => ?_⟩) (fun r hr => (f3 r hr).2.1), fun u u1 u2 => ?_, ?_⟩
          · rcases z with z | z
            · have z2 : u = x := z
              show x ≤ u ∧ u < hi
              omega
            · have z2 : x + 1 ≤ u ∧ u < hi := z
              show x ≤ u ∧ u < hi
              omega
          · have z2 : x ≤ u ∧ u < hi := z
            by_cases q : u = x
            · exact Or.inl q
            · exact Or.inr (show x + 1 ≤ u ∧ u < hi by omega)
          · by_cases q : u = x
            · rw [q]
              exact ⟨by clear m; omega, by clear m; omega⟩
            · have y := v4 u (by omega) u2
              rw [un u (by omega) q] at y
              exact y
          · rcases v5 with y | y | y
            · exact Or.inl y
            · exact Or.inr (Or.inl y)
            · by_cases q : hi = S
              · exact Or.inl q
              · rw [un hi (by omega) (by omega)] at y
                exact Or.inr (Or.inr y)
theorem want9 (hk : k < K) {slot : Nat} (hslot : slot < S) (hc : -2199023255552 ≤ cost ∧ cost ≤ 2199023255552) (hHd : Hd < 900000) (hP : Hd ≤ P0 + 41 * hu.length) : ∀ (fu y : Nat) (s : PS) (rr : Int) (t : PS) (h : Nat → List (Nat × Int)) (Tl : Nat), It_X2_want fu 9 rw_ (k : Int) (slot : Int) cost ((k : Int) * 24) ((y : Int) - 1) s rr t → FlS R K S sl fr D al pt cu X s → QuI R h P0 Hd Tl s → y ≤ slot + 1 → ∃ lo hi h2, lo ≤ y ∧ slot + 1 ≤ hi ∧ hi ≤ S ∧ WQf R K S sl pt X P0 Hd k (fun u => (lo ≤ u ∧ u < y) ∨ (slot + 1 ≤ u ∧ u < hi)) cost rw_ hu h s h2 t ∧ (∀ u, lo ≤ u → u < y → cost < s 77 (24 * k + u)) ∧ (lo = 0 ∨ s 77 (24 * k + (lo - 1)) ≤ cost) ∧ (∀ u, slot + 1 ≤ u → u < hi → cost < s 77 (24 * k + u) ∧ 0 < rStk R sl cu X k (u - 1)) ∧ (hi = S ∨ rStk R sl cu X k (hi - 1) ≤ 0 ∨ s 77 (24 * k + hi) ≤ cost)
  | 0, y, s, rr, t, h, Tl, m, _, _, _ => False.elim m
  | fu + 1, y, s, rr, t, h, Tl, m, hF, hQ, hy => by
    have hF0 := hF
    obtain ⟨f1, f2, f3, f4, f5, f6, f7, f8⟩ := hF
    replace m := ul_X2_want_9 m
    unfold T_X2_want_9 at m
    obtain ⟨_, _, _, _, _, _, m⟩ := m
    have done : It_X2_want fu 46 rw_ (k : Int) (slot : Int) cost ((k : Int) * 24) ((y : Int) - 1) s rr t → (y = 0 ∨ s 77 (24 * k + (y - 1)) ≤ cost) → ∃ lo hi h2, lo ≤ y ∧ slot + 1 ≤ hi ∧ hi ≤ S ∧ WQf R K S sl pt X P0 Hd k (fun u => (lo ≤ u ∧ u < y) ∨ (slot + 1 ≤ u ∧ u < hi)) cost rw_ hu h s h2 t ∧ (∀ u, lo ≤ u → u < y → cost < s 77 (24 * k + u)) ∧ (lo = 0 ∨ s 77 (24 * k + (lo - 1)) ≤ cost) ∧ (∀ u, slot + 1 ≤ u → u < hi → cost < s 77 (24 * k + u) ∧ 0 < rStk R sl cu X k (u - 1)) ∧ (hi = S ∨ rStk R sl cu X k (hi - 1) ≤ 0 ∨ s 77 (24 * k + hi) ≤ cost) := by
      intro m2 ylo
      cases fu with
      | zero => exact False.elim m2
      | succ fu =>
        replace m2 := ul_X2_want_46 m2
        unfold T_X2_want_46 at m2
        obtain ⟨_, _, _, _, _, _, m2⟩ := m2
        obtain ⟨hi, h2, v1, v2, v3, v4, v5⟩ := want51 hk hc hHd hP fu (slot + 1) s rr t h Tl m2 hF0 hQ (by omega) (by omega)
        refine ⟨y, hi, h2, Nat.le_refl y, v1, v2, v3.ci (fun u _ => ⟨fun z => Or.inr z, fun z => ?_⟩) (fun r hr => (f3 r hr).2.1), fun u u1 u2 => absurd u2 (by omega), ylo, v4, v5⟩
        rcases z with z | z
        · exact absurd z.2 (by omega)
        · exact z
    rcases m with ⟨c, m⟩ | ⟨c, m⟩
    · exact done m (Or.inl (by clear m; omega))
    · have hy0 : 0 < y := by
        clear m
        omega
      have ei : (((k : Int) * 24) + ((y : Int) - 1)).toNat = 24 * k + (y - 1) := by
        clear m
        omega
      have ey : (y : Int) - 1 = ((y - 1 : Nat) : Int) := by
        clear m
        omega
      rw [ei] at m
      rcases m with ⟨c1, m⟩ | ⟨c1, s15, m15, _, _, m⟩
      · exact done m (Or.inr c1)
      · rw [ey] at m15 m
        have em : ((y - 1 : Nat) : Int) + (-1) = ((y - 1 : Nat) : Int) - 1 := by
          clear m
          omega
        rw [em] at m
        obtain ⟨h2, w⟩ := settleF hF0 hk (by omega) hc hHd hP hQ m15
        obtain ⟨⟨w1, w2, w3, w4⟩, ⟨Tl2, w5⟩, w6⟩ := id w
        have F7 : FlS R K S sl fr D al pt cu X s15 := hF0.cg (fun y y1 y2 => w3 y (by omega))
        obtain ⟨lo, hi, h3, v1, v2, v3, v4, v5, v6, v7, v8⟩ := want9 hk hslot hc hHd hP fu (y - 1) s15 rr t h2 Tl2 m F7 w5 (by omega)
        have un : ∀ u, u < S → ¬ u = y - 1 → s15 77 (24 * k + u) = s 77 (24 * k + u) := fun u hu2 hne => ((w1 k u hk hu2).2 (fun z => hne z.2)).1
        refine ⟨lo, hi, h3, by omega, v2, v3, (w.comp v4).ci (fun u _ => ⟨fun z => ?_, fun z => ?_⟩) (fun r hr => (f3 r hr).2.1), fun u u1 u2 => ?_, ?_, fun u u1 u2 => ?_, ?_⟩
        · rcases z with z | z
          · have z2 : u = y - 1 := z
            exact Or.inl (show lo ≤ u ∧ u < y by omega)
          · rcases z with z | z
            · exact Or.inl (show lo ≤ u ∧ u < y by omega)
            · exact Or.inr z
        · rcases z with z | z
          · by_cases q : u = y - 1
            · exact Or.inl q
            · exact Or.inr (Or.inl (show lo ≤ u ∧ u < y - 1 by omega))
          · exact Or.inr (Or.inr z)
        · by_cases q : u = y - 1
          · rw [q]
            clear m
            omega
          · have z := v5 u u1 (by omega)
            rw [un u (by omega) q] at z
            exact z
        · rcases v6 with z | z
          · exact Or.inl z
          · by_cases q : lo = 0
            · exact Or.inl q
            · rw [un (lo - 1) (by omega) (by omega)] at z
              exact Or.inr z
        · have z := v7 u u1 u2
          rw [un u (by omega) (by omega)] at z
          exact z
        · rcases v8 with z | z | z
          · exact Or.inl z
          · exact Or.inr (Or.inl z)
          · by_cases q : hi = S
            · exact Or.inl q
            · rw [un hi (by omega) (by omega)] at z
              exact Or.inr (Or.inr z)
/-- all that a want does -/
theorem wantF (hF : FlS R K S sl fr D al pt cu X s) (hk : k < K) {slot : Nat} (hslot : slot < S) (hc : -2199023255552 ≤ cost ∧ cost ≤ 2199023255552) (hHd : Hd < 900000) (hP : Hd ≤ P0 + 41 * hu.length) {Tl : Nat} (hQ : QuI R h P0 Hd Tl s) {rr : Int} (m : M_X2_want s rw_ (k : Int) (slot : Int) cost rr t) : ∃ lo hi h2, lo ≤ slot + 1 ∧ slot + 1 ≤ hi ∧ hi ≤ S ∧ WQf R K S sl pt X P0 Hd k (fun u => lo ≤ u ∧ u < hi) cost rw_ hu h s h2 t ∧ (∀ u, lo ≤ u → u < hi → cost < s 77 (24 * k + u)) ∧ (lo = 0 ∨ s 77 (24 * k + (lo - 1)) ≤ cost) ∧ (∀ u, slot + 1 ≤ u → u < hi → 0 < rStk R sl cu X k (u - 1)) ∧ (hi = S ∨ rStk R sl cu X k (hi - 1) ≤ 0 ∨ s 77 (24 * k + hi) ≤ cost) := by
  obtain ⟨fu, m⟩ := m
  unfold T_X2_want_e at m
  obtain ⟨_, _, _, _, m⟩ := m
  have es : (slot : Int) = ((slot + 1 : Nat) : Int) - 1 := by
    clear m
    omega
  have m2 : It_X2_want fu 9 rw_ (k : Int) (slot : Int) cost ((k : Int) * 24) (((slot + 1 : Nat) : Int) - 1) s rr t := by
    rw [← es]
    exact m
  obtain ⟨lo, hi, h2, v1, v2, v3, v4, v5, v6, v7, v8⟩ := want9 hk hslot hc hHd hP fu (slot + 1) s rr t h Tl m2 hF hQ (Nat.le_refl _)
  refine ⟨lo, hi, h2, v1, v2, v3, v4.ci (fun u _ => ⟨fun z => ?_, fun z => ?_⟩) (fun r hr => (hF.2.2.1 r hr).2.1), fun u u1 u2 => ?_, v6, fun u u1 u2 => (v7 u u1 u2).2, v8⟩
  · show lo ≤ u ∧ u < hi
    rcases z with z | z <;> omega
  · have z2 : lo ≤ u ∧ u < hi := z
    by_cases q : u < slot + 1
    · exact Or.inl ⟨z2.1, q⟩
    · exact Or.inr ⟨by omega, z2.2⟩
  · by_cases q : u < slot + 1
    · exact v5 u u1 q
    · exact (v7 u (by omega) u2).1
end Want
