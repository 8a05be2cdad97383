/-! levels: rounds -/
section Lv2
variable {R K S : Nat} {sl fr : Nat → Nat} {D : Nat → Int} {al : Nat → Nat → Prop} {pt cu X : Nat → Nat → Int} {pi : Nat → Int} {rho : Nat → Int} {kap : Nat → Nat → Int} {del lam : Int} {j : Nat} {h h2 : Nat → List (Nat × Int)} {hk : Nat → Nat → List (Nat × Int)} {hl : List (Nat × Int)} {Hd Tl P0 : Nat} {s t u : PS} {rr : Int}
theorem QuI.hle (q : QuI R h P0 Hd Tl s) (e : ∀ r, r < R → (h r).length ≤ (h2 r).length) : QuI R h2 P0 Hd Tl s := by
  obtain ⟨q1, q2, q3, q4⟩ := q
  refine ⟨q1, fun p p1 p2 => ?_, q3, q4⟩
  obtain ⟨r, r1, r2, r3, r4⟩ := q2 p p1 p2
  have z := e r r1
  exact ⟨r, r1, r2, r3, by omega⟩
def LfI (R K S : Nat) (sl fr : Nat → Nat) (D : Nat → Int) (al : Nat → Nat → Prop) (pt cu X : Nat → Nat → Int) (pi : Nat → Int) (kap : Nat → Nat → Int) (j : Nat) (Hd : Nat) (h : Nat → List (Nat × Int)) (hk : Nat → Nat → List (Nat × Int)) (s : PS) : Prop := FlS R K S sl fr D al pt cu X s ∧ FiH False R K S sl al pt cu X 0 pi kap j j h hk s ∧ A1x R K sl al pt X (fun _ _ => False) s ∧ (∃ Tl, QuI R h Hd Hd Tl s) ∧ ∀ k, k < K → 0 < rStk R sl cu X k (S - 1) → s 74 6 ≤ s 77 (24 * k + (S - 1))
theorem left70 (hS : 0 < S) (hHd : Hd < 900000) (hL : Lab4 (fun _ _ => False) R K S sl al pt cu X rho kap lam) : ∀ (fu x : Nat) (s : PS) (rr : Int) (t : PS) (h : Nat → List (Nat × Int)) (hk : Nat → Nat → List (Nat × Int)), It_X2_levelLeft fu 70 ((S : Int) - 1) (x : Int) s rr t → LfI R K S sl fr D al pt cu X (ndP rho del lam) kap j Hd h hk s → Hist (ndP rho del lam) (ndD R s) hl (s 74 6 - lam) → (- (8589934592 * (hl.length : Int) + 2147483648) ≤ s 74 6 ∧ s 74 6 ≤ 8589934592 * (hl.length : Int) + 2147483648) → ((∀ k, k < K → s 77 (24 * k + (S - 1)) ≤ s 74 6) ∨ j ≤ cnL hl) → x ≤ K → ∃ h2 hk2, LfI R K S sl fr D al pt cu X (ndP rho del lam) kap j Hd h2 hk2 t ∧ (∀ k, x ≤ k → k < K → t 77 (24 * k + (S - 1)) ≤ t 74 6) ∧ (∀ r, r < R → t 75 r ≤ s 75 r) ∧ (∀ k u, k < K → u < S → t 77 (24 * k + u) ≤ s 77 (24 * k + u)) ∧ (∀ r, r < R → t 80 r = 0 → t 75 r = s 75 r ∧ s 80 r = 0) ∧ (∀ y, ¬ (74 ≤ y ∧ y ≤ 80) → t y = s y) ∧ ∀ i, ¬ i = 10 → t 74 i = s 74 i
  | 0, x, s, rr, t, h, hk, m, _, _, _, _, _ => False.elim m
  | fu + 1, x, s, rr, t, h, hk, m, hI, hH, hrg, hc, hx => by
    have hI0 := hI
    obtain ⟨hF, hG, hA, ⟨Tl, hQ⟩, h7⟩ := hI
    obtain ⟨hs, ⟨hR, hK, hS24⟩, hpt, hX01⟩ := hF.st
    replace m := ul_X2_levelLeft_70 m
    unfold T_X2_levelLeft_70 at m
    obtain ⟨_, _, _, m⟩ := m
    rw [hF.1.1] at m
    rcases m with ⟨cc, _, et⟩ | ⟨cc, s2, m2, _, _, m⟩
    · rw [et]
      exact ⟨h, hk, hI0, fun k k1 k2 => absurd k2 (by omega), fun _ _ => Int.le_refl _, fun _ _ _ _ => Int.le_refl _, fun _ _ q => ⟨rfl, q⟩, fun _ _ => rfl, fun _ _ => rfl⟩
    · have hxK : x < K := by
        clear m
        omega
      have es : (S : Int) - 1 = ((S - 1 : Nat) : Int) := by
        clear m
        omega
      rw [es] at m2
      have hlen := hH.len
      obtain ⟨lo, hi, h2, w1, w2, w3, w4, w5, w6, w7, w8⟩ := wantF (hu := hl) (P0 := Hd) hF hxK (by omega) (by clear m; omega) hHd (by omega) hQ m2
      have z1 := hL.2.2.1 x (S - 1) hxK (by omega)
      have e1 : S - 1 + 1 = S := by omega
      rw [e1, hL.2.2.2.2 x hxK] at z1
      obtain ⟨⟨hk2, G2⟩, A2, B0, B1, B2, B3, _⟩ := want_st hs hR hL (fun r hr => hpt r x hr hxK) hxK (show S - 1 < S by omega) hX01 hG hA hH (show s 74 6 - lam ≤ s 74 6 - kap x (S - 1) by omega) hrg (fun q => by
        rcases hc with y | y
        · have y2 := y x hxK
          have y3 := w5 (S - 1) q (by omega)
          omega
        · exact ⟨y, y⟩) (fun q => q.elim) w1 w2 w3 w4 w5 w6 w7 w8
      obtain ⟨⟨p1, _, k1, k2⟩, ⟨Tl2, Q2⟩, _⟩ := w4
      have nd2 : ∀ w, ndD R s2 w ≤ ndD R s w := fun w => by
        unfold ndD
        rw [k2 5 (by decide), k2 6 (by decide)]
        split
        · exact Int.le_refl _
        · split
          · exact Int.le_refl _
          · split
            · rename_i q
              exact B2 w q
            · exact Int.le_refl _
      have e6 : s2 74 6 = s 74 6 := k2 6 (by decide)
      obtain ⟨h3, hk3, v1, v2, v3, v4, v5, v6, v7⟩ := left70 hS hHd hL fu (x + 1) s2 rr t h2 hk2 m ⟨hF.cg (fun y y1 y2 => k1 y (by omega)), G2, A2, ⟨Tl2, Q2⟩, fun k a q => by
        rw [e6]
        by_cases y : k = x ∧ (lo ≤ S - 1 ∧ S - 1 < hi)
        · rw [((p1 k (S - 1) a (by omega)).1 y).1]
          exact Int.le_refl _
        · rw [((p1 k (S - 1) a (by omega)).2 y).1]
          exact h7 k a q⟩ (by rw [e6]; exact hH.mono (Int.le_refl _) nd2) (by rw [e6]; exact hrg) (by
        rcases hc with y | y
        · exact Or.inl (fun k a => by rw [e6]; exact Int.le_trans (B3 k (S - 1) a (by omega)) (y k a))
        · exact Or.inr y) (by omega)
      refine ⟨h3, hk3, v1, fun k k1' k2' => ?_, fun r hr => Int.le_trans (v3 r hr) (B2 r hr), fun k u a b => Int.le_trans (v4 k u a b) (B3 k u a b), fun r hr q => ?_, fun y hy => (v6 y hy).trans (k1 y hy), fun i hi2 => (v7 i hi2).trans (k2 i hi2)⟩
      · by_cases y : k = x
        · rw [y, v7 6 (by decide), e6]
          exact Int.le_trans (v4 x (S - 1) hxK (by omega)) B1
        · exact v2 k (by omega) k2'
      · obtain ⟨z1, z2⟩ := v5 r hr q
        obtain ⟨z3, z4⟩ := B0 r hr z2
        exact ⟨z1.trans z3, z4⟩
def LvI (R K S : Nat) (sl fr : Nat → Nat) (D : Nat → Int) (al : Nat → Nat → Prop) (pt cu X : Nat → Nat → Int) (pi : Nat → Int) (kap : Nat → Nat → Int) (j : Nat) (Hd : Nat) (h : Nat → List (Nat × Int)) (hk : Nat → Nat → List (Nat × Int)) (s : PS) : Prop := LfI R K S sl fr D al pt cu X pi kap j Hd h hk s ∧ (∀ k, k < K → s 77 (24 * k + (S - 1)) ≤ s 74 6) ∧ (∀ r, r < R → sgN (X r) K < D r → s 75 r ≤ s 74 5) ∧ (∀ r, r < R → 0 < sgN (X r) K → s 80 r = 0 → s 74 5 ≤ s 75 r) ∧ (∀ r, r < R → s 75 r ≤ 0) ∧ (∀ k u, k < K → u < S → s 77 (24 * k + u) ≤ 0) ∧ ∃ hl, Hist pi (ndD R s) hl (s 74 6 - pi 41) ∧ (- (8589934592 * (hl.length : Int) + 2147483648) ≤ s 74 6 ∧ s 74 6 ≤ 8589934592 * (hl.length : Int) + 2147483648)
/-- one round -/
theorem level116 (hS : 0 < S) (hL : Lab4 (fun _ _ => False) R K S sl al pt cu X rho kap lam) (hD : LabD R K D X rho del) : ∀ (fu j : Nat) (s : PS) (rr : Int) (t : PS) (h : Nat → List (Nat × Int)) (hk : Nat → Nat → List (Nat × Int)) (Hd : Nat), It_X2_level fu 116 (j : Int) 0 s rr t → LvI R K S sl fr D al pt cu X (ndP rho del lam) kap j Hd h hk s → Hd ≤ 2000 * j → j ≤ 3 → (∃ h2 hk2 j2 Hd2, LvI R K S sl fr D al pt cu X (ndP rho del lam) kap j2 Hd2 h2 hk2 t) ∧ (∀ r, r < R → t 80 r = 0) ∧ ∀ y, ¬ (74 ≤ y ∧ y ≤ 80) → t y = s y
  | 0, j, s, rr, t, h, hk, Hd, m, _, _, _ => False.elim m
  | fu + 1, j, s, rr, t, h, hk, Hd, m, hI, hHd, hj => by
    have hI0 := hI
    obtain ⟨⟨hF, hG, hA, ⟨Tl, hQ⟩, h7⟩, h8, h6, h5, hr0, hp0, hl0, hl1, hl2⟩ := hI
    obtain ⟨hs, ⟨hR, hK, hS24⟩, hpt, hX01⟩ := hF.st
    have far : FARz = 1152921504606846976 := rfl
    replace m := ul_X2_level_116 m
    unfold T_X2_level_116 at m
    obtain ⟨_, _, m⟩ := m
    rw [hQ.1.1, hQ.1.2.1] at m
    rcases m with ⟨c, _⟩ | ⟨_, m⟩
    · exact absurd c (by omega)
    · rcases m with ⟨c, _, et⟩ | ⟨c, s3, m3, _, _, s7, m7, _, _, s10, m10, _, _, m⟩
      · rw [et]
        refine ⟨⟨h, hk, j, Hd, hI0⟩, fun r hr => ?_, fun _ _ => rfl⟩
        rcases hQ.2.2.2 r hr with y | ⟨p, p1, p2, _⟩
        · exact y
        · omega
      · -- somebody waits: the round is one of the first three
        have hj2 : j ≤ 2 := by
          have lt : Hd < Tl := by
            have := hQ.1.2.2.1
            clear m
            omega
          obtain ⟨r, r1, r2, r3, _⟩ := hQ.2.1 Hd (Nat.le_refl _) lt
          obtain ⟨z1, z2⟩ := hG.2.2.2.2.1.2.2 r r1 (by rw [r3]; decide)
          have z3 := (hG.2.1 r r1 z1).2.1.cn
          omega
        obtain ⟨f3, m3⟩ := m3
        unfold T_X2_runQueue_e at m3
        obtain ⟨_, m3⟩ := m3
        have e00 : (0 : Int) = (Hd : Int) - (Hd : Int) := by
          clear m
          omega
        rw [e00] at m3
        obtain ⟨h3, hk3, Hd3, Q3, G3, A3, z3, b3, o1, o2, o3, o4⟩ := (runq hL (by omega) f3).1 Hd s 0 s3 h hk Tl (by
          have e0 : It_X2_runQueue f3 2 ((Hd : Int) - (Hd : Int)) 0 0 0 s 0 s3 := by
            rw [← e00]
            rw [← e00] at m3
            exact m3
          exact e0) hF hG hA hQ (Nat.le_refl _) (by omega)
        have F3 : FlS R K S sl fr D al pt cu X s3 := hF.cg (fun y y1 y2 => o1 y (by omega))
        have Q3' : QuI R h3 Hd3 Hd3 Hd3 s3 := ⟨Q3.1, fun p p1 p2 => absurd p2 (by omega), Q3.2.2.1, Q3.2.2.2⟩
        -- due
        obtain ⟨f7, m7⟩ := m7
        unfold T_X2_levelDue_e at m7
        obtain ⟨_, m7⟩ := m7
        obtain ⟨f8, s5, m8, k5, k5b, k5c, k5d, k5e⟩ := (due2 F3 f7).1 0 s3 0 s7 m7 (fun _ _ => rfl) (Nat.zero_le _)
        have nd5 : ∀ w, ndD R s5 w ≤ ndD R s3 w := fun w => by
          unfold ndD
          rw [k5b 6 (by decide), k5 75 (by decide)]
          split
          · exact k5c
          · exact Int.le_refl _
        obtain ⟨⟨a1, a2⟩, a3, a4, a5, ⟨u1, u2, u3⟩, a6⟩ := id G3
        have G5 : FiH False R K S sl al pt cu X 0 (ndP rho del lam) kap (j + 1) j h3 hk3 s5 := by
          refine ⟨by rw [k5 75 (by decide), k5 77 (by decide)]; exact ⟨a1, a2⟩, fun r hr q => ?_, fun k u p q w => ?_, by rw [k5 75 (by decide), k5 77 (by decide)]; exact a5, ⟨fun r hr p q => ?_, fun k p q w => ?_, fun r hr q => ?_⟩, fun q => q.elim⟩
          · rw [k5 75 (by decide)] at q ⊢
            obtain ⟨y1, y2, y3⟩ := a3 r hr q
            exact ⟨y1, y2.mono (Int.le_refl _) nd5, y3⟩
          · rw [k5 77 (by decide)] at w ⊢
            obtain ⟨y1, y2⟩ := a4 k u p q w
            exact ⟨y1.mono (Int.le_refl _) nd5, y2⟩
          · rw [k5 75 (by decide)] at q
            have y := k5d r (Nat.zero_le _) hr p
            omega
          · rw [k5 77 (by decide), k5b 6 (by decide)] at w
            exact u2 k p q w
          · rw [k5 80 (by decide), z3 r hr] at q
            exact absurd rfl q
        have D5 : DuI R K S sl fr D al pt cu X (ndP rho del lam) kap j Hd3 h3 hk3 s5 := ⟨F3.cg (fun y y1 y2 => k5 y (by omega)), G5, fun r k p1 p2 p3 p4 p5 p6 p7 => by
          rw [k5 80 (by decide)] at p3
          rw [k5 75 (by decide)] at p4 ⊢
          rw [k5 77 (by decide)]
          exact A3 r k p1 p2 p3 p4 p5 p6 p7, ⟨Hd3, Q3'.cg ⟨k5b 9 (by decide), k5b 10 (by decide)⟩ (k5 79 (by decide)) (k5 80 (by decide))⟩, fun r hr p => by
          rw [k5 75 (by decide)]
          exact k5d r (Nat.zero_le _) hr p⟩
        have c5 : (∀ r, r < R → sgN (X r) K < D r → s5 75 r ≤ s5 74 5) ∨ ∃ hd, Hist (ndP rho del lam) (ndD R s5) hd (s5 74 5 - del) ∧ (- (8589934592 * ((hd.length : Int) + 1)) ≤ s5 74 5 ∧ s5 74 5 ≤ 8589934592 * ((hd.length : Int) + 1)) ∧ j + 1 ≤ cnL hd := by
          rcases k5e with y | ⟨r, y1, y2, y3, y4⟩
          · refine Or.inl (fun r hr q => ?_)
            rw [k5 75 (by decide), y, o2 5 (by decide) (by decide)]
            exact Int.le_trans (o3 r hr) (h6 r hr q)
          · have rl : s3 75 r < FARz := by
              have w1 := o3 r y1
              have w2 := hr0 r y1
              omega
            obtain ⟨b1, b2, b4⟩ := a3 r y1 rl
            have w := hD.1 r y1 y2
            refine Or.inr ⟨(40, s5 74 5) :: h3 r, ?_, ?_, ?_⟩
            · have p40 : ndP rho del lam 40 = del := if_pos rfl
              have pr : ndP rho del lam r = rho r := ndP_r (by omega)
              have d40 : ndD R s3 40 = s3 74 5 := if_pos rfl
              have d40' : ndD R s5 40 = s5 74 5 := if_pos rfl
              have z := b2.push (d2 := ndD R s5) (v := 40) (z := s5 74 5) (by decide) (by rw [p40, pr]; omega) (by rw [d40]; omega) nd5 (by rw [d40']; exact Int.le_refl _)
              rw [p40] at z
              exact z
            · rw [List.length_cons]
              omega
            · have z := u1 r y1 y2 y4
              show j + 1 ≤ (if 40 ≤ 40 then 1 else 0) + cnL (h3 r)
              rw [if_pos (Nat.le_refl _)]
              omega
        obtain ⟨h7', w1, w2, w3, w4, w5⟩ := (due50 (lam := lam) (j := j) (hk := hk3) (by omega) hR hD.2 f8).1 0 s5 0 s7 h3 m8 D5 c5 (Nat.zero_le _)
        obtain ⟨F7, G7, A7, ⟨Tl7, Q7⟩, U7⟩ := id w1
        -- left
        obtain ⟨f10, m10⟩ := m10
        unfold T_X2_levelLeft_e at m10
        obtain ⟨_, m10⟩ := m10
        rw [F7.1.2.2] at m10
        obtain ⟨f11, s9, m11, k9, k9b, k9c, k9d, k9e⟩ := (left12 hS F7 f10).1 0 s7 0 s10 m10 (fun _ _ => rfl) (Nat.zero_le _)
        have nd9 : ∀ w, ndD R s9 w ≤ ndD R s7 w := fun w => by
          unfold ndD
          rw [k9b 5 (by decide), k9 75 (by decide)]
          split
          · exact Int.le_refl _
          · split
            · exact k9c
            · exact Int.le_refl _
        obtain ⟨⟨b1, b2⟩, b3', b4, b5, ⟨x1, x2, x3⟩, b6⟩ := id G7
        have p7 : ∀ k u, k < K → u < S → s7 77 (24 * k + u) ≤ 0 := fun k u p q => by
          rw [w4 77 (by decide) (by decide) (by decide) (by decide), k5 77 (by decide)]
          exact Int.le_trans (o4 k u p q) (hp0 k u p q)
        have r7 : ∀ r, r < R → s7 75 r ≤ 0 := fun r hr => by
          have y := w3 r hr
          rw [k5 75 (by decide)] at y
          exact Int.le_trans y (Int.le_trans (o3 r hr) (hr0 r hr))
        have l7 : s7 74 6 = s 74 6 := by rw [w5 6 (by decide), k5b 6 (by decide), o2 6 (by decide) (by decide)]
        have a8 : ∀ k, k < K → s7 77 (24 * k + (S - 1)) ≤ s7 74 6 := fun k p => by
          rw [w4 77 (by decide) (by decide) (by decide) (by decide), k5 77 (by decide), l7]
          exact Int.le_trans (o4 k (S - 1) p (by omega)) (h8 k p)
        have G9 : FiH False R K S sl al pt cu X 0 (ndP rho del lam) kap (j + 1) (j + 1) h7' hk3 s9 := by
          refine ⟨by rw [k9 75 (by decide), k9 77 (by decide)]; exact ⟨b1, b2⟩, fun r hr q => ?_, fun k u p q w => ?_, by rw [k9 75 (by decide), k9 77 (by decide)]; exact b5, ⟨fun r hr p q => ?_, fun k p q w => ?_, fun r hr q => ?_⟩, fun q => q.elim⟩
          · rw [k9 75 (by decide)] at q ⊢
            obtain ⟨y1, y2, y3⟩ := b3' r hr q
            exact ⟨y1, y2.mono (Int.le_refl _) nd9, y3⟩
          · rw [k9 77 (by decide)] at w ⊢
            obtain ⟨y1, y2⟩ := b4 k u p q w
            exact ⟨y1.mono (Int.le_refl _) nd9, y2⟩
          · rw [k9 75 (by decide), k9b 5 (by decide)] at q
            exact x1 r hr p q
          · rw [k9 77 (by decide)] at w
            have y := k9d k (Nat.zero_le _) p q
            omega
          · rw [k9 80 (by decide)] at q
            rw [k9 75 (by decide)]
            exact x3 r hr q
        -- the way on which what is left got its cost
        have hl9 : ∃ hl, Hist (ndP rho del lam) (ndD R s9) hl (s9 74 6 - lam) ∧ (- (8589934592 * (hl.length : Int) + 2147483648) ≤ s9 74 6 ∧ s9 74 6 ≤ 8589934592 * (hl.length : Int) + 2147483648) ∧ ((∀ k, k < K → s9 77 (24 * k + (S - 1)) ≤ s9 74 6) ∨ j + 1 ≤ cnL hl) := by
          rcases k9e with y | ⟨k, y1, y2, y3, y4⟩
          · have nd0 : ∀ w, ndD R s9 w ≤ ndD R s w := fun w => by
              unfold ndD
              by_cases c1 : w = 40
              · rw [if_pos c1, if_pos c1, k9b 5 (by decide), w5 5 (by decide)]
                exact Int.le_trans k5c (Int.le_of_eq (o2 5 (by decide) (by decide)))
              · rw [if_neg c1, if_neg c1]
                by_cases c2 : w = 41
                · rw [if_pos c2, if_pos c2, ← l7]
                  exact k9c
                · rw [if_neg c2, if_neg c2]
                  by_cases c3 : w < R
                  · rw [if_pos c3, if_pos c3, k9 75 (by decide)]
                    have z := w3 w c3
                    rw [k5 75 (by decide)] at z
                    exact Int.le_trans z (o3 w c3)
                  · rw [if_neg c3, if_neg c3]
                    exact Int.le_refl _
            have p41 : ndP rho del lam 41 = lam := by
              unfold ndP
              rw [if_neg (by decide), if_pos rfl]
            rw [p41] at hl1
            rw [y, l7]
            exact ⟨hl0, hl1.mono (Int.le_refl _) nd0, hl2, Or.inl (fun k p => by rw [k9 77 (by decide), ← l7]; exact a8 k p)⟩
          · obtain ⟨c1, c2⟩ := b4 k (S - 1) y1 (by omega) (by have := p7 k (S - 1) y1 (by omega); omega)
            have e1 : S - 1 + 1 = S := by omega
            have z1 := hL.2.2.2.1 k (S - 1) y1 (by omega) y2
            rw [e1, hL.2.2.2.2 k y1] at z1
            refine ⟨(41, s9 74 6) :: hk3 k (S - 1), ?_, ?_, Or.inr ?_⟩
            · have p41 : ndP rho del lam 41 = lam := by
                unfold ndP
                rw [if_neg (by decide), if_pos rfl]
              have d41 : ndD R s7 41 = s7 74 6 := by
                unfold ndD
                rw [if_neg (by decide), if_pos rfl]
              have d41' : ndD R s9 41 = s9 74 6 := by
                unfold ndD
                rw [if_neg (by decide), if_pos rfl]
              have z := c1.push (d2 := ndD R s9) (v := 41) (z := s9 74 6) (by decide) (by rw [p41]; omega) (by rw [d41]; omega) nd9 (by rw [d41']; exact Int.le_refl _)
              rw [p41] at z
              exact z
            · rw [List.length_cons]
              omega
            · have z := x2 k y1 y2 y4
              show j + 1 ≤ (if 40 ≤ 41 then 1 else 0) + cnL (hk3 k (S - 1))
              rw [if_pos (by decide)]
              omega
        obtain ⟨hl, v1, v2, v3⟩ := hl9
        have L9 : LfI R K S sl fr D al pt cu X (ndP rho del lam) kap (j + 1) Hd3 h7' hk3 s9 := ⟨F7.cg (fun y y1 y2 => k9 y (by omega)), G9, fun r k p1 p2 p3 p4 p5 p6 p7 => by
          rw [k9 80 (by decide)] at p3
          rw [k9 75 (by decide)] at p4 ⊢
          rw [k9 77 (by decide)]
          exact A7 r k p1 p2 p3 p4 p5 p6 p7, ⟨Tl7, Q7.cg ⟨k9b 9 (by decide), k9b 10 (by decide)⟩ (k9 79 (by decide)) (k9 80 (by decide))⟩, fun k p q => by
          rw [k9 77 (by decide)]
          exact k9d k (Nat.zero_le _) p q⟩
        obtain ⟨hA, hB, q1, q2, q3, q4, q5, q6, q7⟩ := left70 (j := j + 1) hS (by omega) hL f11 0 s9 0 s10 h7' hk3 m11 L9 v1 v2 v3 (Nat.zero_le _)
        have ej : (j : Int) + 1 = ((j + 1 : Nat) : Int) := rfl
        rw [ej] at m
        have fin := level116 hS hL hD fu (j + 1) s10 rr t hA hB Hd3 m ⟨q1, fun k p => q2 k (Nat.zero_le _) p, fun r hr p => ?_, fun r hr p q => ?_, fun r hr => ?_, fun k u p q => ?_, hl, by
          have p41 : ndP rho del lam 41 = lam := by
            unfold ndP
            rw [if_neg (by decide), if_pos rfl]
          rw [p41, q7 6 (by decide)]
          refine v1.mono (Int.le_refl _) (fun w => ?_)
          unfold ndD
          rw [q7 5 (by decide), q7 6 (by decide)]
          by_cases c1 : w = 40
          · rw [if_pos c1, if_pos c1]
            exact Int.le_refl _
          · rw [if_neg c1, if_neg c1]
            by_cases c2 : w = 41
            · rw [if_pos c2, if_pos c2]
              exact Int.le_refl _
            · rw [if_neg c2, if_neg c2]
              by_cases c3 : w < R
              · rw [if_pos c3, if_pos c3]
                exact q3 w c3
              · rw [if_neg c3, if_neg c3]
                exact Int.le_refl _, by rw [q7 6 (by decide)]; exact v2⟩ (by omega) (by omega)
        · obtain ⟨fi1, fi2, fi3⟩ := fin
          refine ⟨fi1, fi2, fun y hy => ?_⟩
          rw [fi3 y hy, q6 y hy, k9 y (by omega), w4 y (by omega) (by omega) (by omega) (by omega), k5 y (by omega)]
          exact o1 y hy
        · rw [q7 5 (by decide), k9b 5 (by decide)]
          have y := q3 r hr
          rw [k9 75 (by decide)] at y
          exact Int.le_trans y (w2 r (Nat.zero_le _) hr p)
        · obtain ⟨y1, y2⟩ := q5 r hr q
          rw [q7 5 (by decide), k9b 5 (by decide), y1, k9 75 (by decide)]
          exact U7 r hr p
        · have y := q3 r hr
          rw [k9 75 (by decide)] at y
          exact Int.le_trans y (r7 r hr)
        · have y := q4 k u p q
          rw [k9 77 (by decide)] at y
          exact Int.le_trans y (p7 k u p q)
end Lv2
