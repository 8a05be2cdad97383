/-! levels: costs for all places of a best deal -/
section Lev
variable {R K S : Nat} {sl fr : Nat → Nat} {D : Nat → Int} {al : Nat → Nat → Prop} {pt cu X : Nat → Nat → Int} {pi : Nat → Int} {rho : Nat → Int} {kap : Nat → Nat → Int} {del lam : Int} {j j2 : Nat} {h h2 : Nat → List (Nat × Int)} {hk : Nat → Nat → List (Nat × Int)} {hd : List (Nat × Int)} {Hd Tl : Nat} {s t u : PS} {rr c z : Int}
/-- one row is lowered -/
theorem low_st (hR : R ≤ 40) (hF : FiH False R K S sl al pt cu X 0 pi kap j j2 h hk s) (hA : A1x R K sl al pt X (fun _ _ => False) s) {v : Nat} (hv : v < R) (hz : z < s 75 v) (hH : Hist pi (ndD R s) hd c) (hc : c ≤ z - pi v) (hrg : - (8589934592 * ((hd.length : Int) + 1)) ≤ z ∧ z ≤ 8589934592 * ((hd.length : Int) + 1)) (hj : j ≤ cnL hd) (e75 : ∀ r, t 75 r = if r = v then z else s 75 r) (e77 : t 77 = s 77) (e5 : t 74 5 = s 74 5) (e6 : t 74 6 = s 74 6) (e80 : ∀ r, r < R → ¬ r = v → t 80 r = s 80 r) (e80v : ¬ t 80 v = 0) : FiH False R K S sl al pt cu X 0 pi kap j j2 (fun r => if r = v then (v, z) :: hd else h r) hk t ∧ A1x R K sl al pt X (fun _ _ => False) t := by
  obtain ⟨⟨a1, a2⟩, b, cc, ⟨d1, d2, d3⟩, ⟨u1, u2, u3⟩, pS⟩ := hF
  have d75 : ∀ r, t 75 r ≤ s 75 r := fun r => by
    rw [e75]
    by_cases q : r = v
    · rw [if_pos q, q]
      omega
    · rw [if_neg q]
      exact Int.le_refl _
  have nd : ∀ w, ndD R t w ≤ ndD R s w := fun w => by
    unfold ndD
    rw [e5, e6]
    split
    · exact Int.le_refl _
    · split
      · exact Int.le_refl _
      · split
        · exact d75 w
        · exact Int.le_refl _
  have cn : cnL ((v, z) :: hd) = cnL hd := by
    show (if 40 ≤ v then 1 else 0) + cnL hd = cnL hd
    rw [if_neg (by omega), Nat.zero_add]
  refine ⟨⟨⟨fun r hr => Int.le_trans (d75 r) (a1 r hr), fun k x q1 q2 => by rw [e77]; exact a2 k x q1 q2⟩, fun r hr q => ?_, fun k x q1 q2 q3 => ?_, ⟨fun k x q1 q2 => by rw [e77]; exact d1 k x q1 q2, fun k x q1 q2 q3 => by rw [e77]; exact d2 k x q1 q2 q3, fun r k q1 q2 q3 q4 => by rw [e77] at q4 ⊢; exact Int.le_trans (d75 r) (d3 r k q1 q2 q3 q4)⟩, ⟨fun r hr q1 q2 => ?_, fun k q1 q2 q3 => by rw [e77, e6] at q3; exact u2 k q1 q2 q3, fun r hr q => ?_⟩, fun q => q.elim⟩, fun r k q1 q2 q3 q4 _ q6 q7 => ?_⟩
  · show (∃ tl, (if r = v then (v, z) :: hd else h r) = (r, t 75 r) :: tl) ∧ Hist pi (ndD R t) (if r = v then (v, z) :: hd else h r) (t 75 r - pi r) ∧ (- (8589934592 * ((if r = v then (v, z) :: hd else h r).length : Int)) ≤ t 75 r ∧ t 75 r ≤ 8589934592 * ((if r = v then (v, z) :: hd else h r).length : Int))
    by_cases y : r = v
    · have e : t 75 r = z := by rw [e75, if_pos y]
      rw [if_pos y, e, y]
      refine ⟨⟨hd, rfl⟩, hH.push (by omega) hc (by rw [ndD_r hR hv]; exact hz) nd (by rw [ndD_r hR hv, e75, if_pos rfl]; exact Int.le_refl _), ?_⟩
      rw [List.length_cons]
      omega
    · have e : t 75 r = s 75 r := by rw [e75, if_neg y]
      rw [e] at q
      rw [if_neg y, e]
      obtain ⟨b1, b2, b3⟩ := b r hr q
      exact ⟨b1, b2.mono (Int.le_refl _) nd, b3⟩
  · rw [e77] at q3 ⊢
    obtain ⟨z1, z2⟩ := cc k x q1 q2 q3
    exact ⟨z1.mono (Int.le_refl _) nd, z2⟩
  · show j ≤ cnL (if r = v then (v, z) :: hd else h r)
    by_cases y : r = v
    · rw [if_pos y, cn]
      exact hj
    · rw [if_neg y]
      rw [e75, if_neg y, e5] at q2
      exact u1 r hr q1 q2
  · show t 75 r < FARz ∧ j ≤ cnL (if r = v then (v, z) :: hd else h r)
    by_cases y : r = v
    · rw [if_pos y, cn, e75, if_pos y]
      have w := a1 v hv
      exact ⟨by omega, hj⟩
    · rw [e80 r hr y] at q
      rw [if_neg y, e75, if_neg y]
      exact u3 r hr q
  · have y : ¬ r = v := fun y => by
      rw [y] at q3
      exact e80v q3
    rw [e80 r q1 y] at q3
    rw [e75, if_neg y] at q4 ⊢
    rw [e77]
    exact hA r k q1 q2 q3 q4 (fun w => w) q6 q7
/-- the least cost of those who could lose -/
theorem due2 (hF : FlS R K S sl fr D al pt cu X s) : ∀ fu : Nat, (∀ (x : Nat) (a : PS) (rr : Int) (t : PS), It_X2_levelDue fu 2 (x : Int) a rr t → (∀ y, ¬ y = 74 → a y = s y) → x ≤ R → ∃ fu2 b, It_X2_levelDue fu2 50 0 b rr t ∧ (∀ y, ¬ y = 74 → b y = s y) ∧ (∀ i, ¬ i = 5 → b 74 i = a 74 i) ∧ b 74 5 ≤ a 74 5 ∧ (∀ r, x ≤ r → r < R → 0 < sgN (X r) K → b 74 5 ≤ s 75 r) ∧ (b 74 5 = a 74 5 ∨ ∃ r, r < R ∧ 0 < sgN (X r) K ∧ s 75 r = b 74 5 ∧ s 75 r < a 74 5)) ∧ ∀ (x : Nat) (a : PS) (rr : Int) (t : PS), It_X2_levelDue fu 42 (x : Int) a rr t → (∀ y, ¬ y = 74 → a y = s y) → x < R → ∃ fu2 b, It_X2_levelDue fu2 50 0 b rr t ∧ (∀ y, ¬ y = 74 → b y = s y) ∧ (∀ i, ¬ i = 5 → b 74 i = a 74 i) ∧ b 74 5 ≤ a 74 5 ∧ (∀ r, x + 1 ≤ r → r < R → 0 < sgN (X r) K → b 74 5 ≤ s 75 r) ∧ (b 74 5 = a 74 5 ∨ ∃ r, r < R ∧ 0 < sgN (X r) K ∧ s 75 r = b 74 5 ∧ s 75 r < a 74 5)
  | 0 => ⟨fun x a rr t m => False.elim m, fun x a rr t m => False.elim m⟩
  | fu + 1 => by
    have ih := due2 hF fu
    refine ⟨fun x a rr t m ha hx => ?_, fun x a rr t m ha hx => ?_⟩
    · replace m := ul_X2_levelDue_2 m
      unfold T_X2_levelDue_2 at m
      obtain ⟨_, _, m⟩ := m
      rw [ha 64 (by decide), ha 71 (by decide), ha 75 (by decide), hF.1.2.1, Int.toNat_natCast] at m
      rcases m with ⟨cc, m⟩ | ⟨cc, m⟩
      · exact ⟨fu, a, m, ha, fun _ _ => rfl, Int.le_refl _, fun r r1 r2 _ => absurd r2 (by omega), Or.inl rfl⟩
      · have hxR : x < R := by
          clear m
          omega
        rw [(hF.2.2.1 x hxR).2.2.2] at m
        rcases m with ⟨c1, m⟩ | ⟨c1, s18, e18, m⟩
        · obtain ⟨fu2, b, w1, w2, w3, w4, w5, w6⟩ := ih.2 x a rr t m ha hxR
          refine ⟨fu2, b, w1, w2, w3, w4, fun r r1 r2 r3 => ?_, w6⟩
          by_cases y : r = x
          · rw [y] at r3
            omega
          · exact w5 r (by omega) r2 r3
        · have k18 : ∀ y, ¬ y = 74 → s18 y = s y := fun y hy => by rw [e18, us_k hy]; exact ha y hy
          have v5 : s18 74 5 = min (a 74 5) (s 75 x) := by rw [e18, us_at]
          have vi : ∀ i, ¬ i = 5 → s18 74 i = a 74 i := fun i hi => by rw [e18, us_j hi]
          obtain ⟨fu2, b, w1, w2, w3, w4, w5, w6⟩ := ih.2 x s18 rr t m k18 hxR
          rw [v5] at w4 w6
          refine ⟨fu2, b, w1, w2, fun i hi => (w3 i hi).trans (vi i hi), by omega, fun r r1 r2 r3 => ?_, ?_⟩
          · by_cases y : r = x
            · rw [y]
              omega
            · exact w5 r (by omega) r2 r3
          · rcases w6 with y | ⟨r, y1, y2, y3, y4⟩
            · by_cases y2 : a 74 5 ≤ s 75 x
              · exact Or.inl (by omega)
              · exact Or.inr ⟨x, hxR, by omega, by omega, by omega⟩
            · exact Or.inr ⟨r, y1, y2, y3, by omega⟩
    · replace m := ul_X2_levelDue_42 m
      unfold T_X2_levelDue_42 at m
      obtain ⟨_, _, m⟩ := m
      exact ih.1 (x + 1) a rr t m ha (by omega)
/-- how it stands in the second loop -/
def DuI (R K S : Nat) (sl fr : Nat → Nat) (D : Nat → Int) (al : Nat → Nat → Prop) (pt cu X : Nat → Nat → Int) (pi : Nat → Int) (kap : Nat → Nat → Int) (j : Nat) (Hd : Nat) (h : Nat → List (Nat × Int)) (hk : Nat → Nat → List (Nat × Int)) (s : PS) : Prop := FlS R K S sl fr D al pt cu X s ∧ FiH False R K S sl al pt cu X 0 pi kap (j + 1) j h hk s ∧ A1x R K sl al pt X (fun _ _ => False) s ∧ (∃ Tl, QuI R h Hd Hd Tl s) ∧ ∀ r, r < R → 0 < sgN (X r) K → s 74 5 ≤ s 75 r
theorem due50 (hHd : Hd < 900000) (hR : R ≤ 40) (hdel : ∀ r, r < R → sgN (X r) K < D r → rho r ≤ del) : ∀ fu : Nat, (∀ (x : Nat) (s : PS) (rr : Int) (t : PS) (h : Nat → List (Nat × Int)), It_X2_levelDue fu 50 (x : Int) s rr t → DuI R K S sl fr D al pt cu X (ndP rho del lam) kap j Hd h hk s → ((∀ r, r < R → sgN (X r) K < D r → s 75 r ≤ s 74 5) ∨ ∃ hd, Hist (ndP rho del lam) (ndD R s) hd (s 74 5 - del) ∧ (- (8589934592 * ((hd.length : Int) + 1)) ≤ s 74 5 ∧ s 74 5 ≤ 8589934592 * ((hd.length : Int) + 1)) ∧ j + 1 ≤ cnL hd) → x ≤ R → ∃ h2, DuI R K S sl fr D al pt cu X (ndP rho del lam) kap j Hd h2 hk t ∧ (∀ r, x ≤ r → r < R → sgN (X r) K < D r → t 75 r ≤ t 74 5) ∧ (∀ r, r < R → t 75 r ≤ s 75 r) ∧ (∀ y, ¬ y = 74 → ¬ y = 75 → ¬ y = 79 → ¬ y = 80 → t y = s y) ∧ ∀ i, ¬ i = 10 → t 74 i = s 74 i) ∧ ∀ (x : Nat) (s : PS) (rr : Int) (t : PS) (h : Nat → List (Nat × Int)), It_X2_levelDue fu 111 (x : Int) s rr t → DuI R K S sl fr D al pt cu X (ndP rho del lam) kap j Hd h hk s → ((∀ r, r < R → sgN (X r) K < D r → s 75 r ≤ s 74 5) ∨ ∃ hd, Hist (ndP rho del lam) (ndD R s) hd (s 74 5 - del) ∧ (- (8589934592 * ((hd.length : Int) + 1)) ≤ s 74 5 ∧ s 74 5 ≤ 8589934592 * ((hd.length : Int) + 1)) ∧ j + 1 ≤ cnL hd) → x < R → ∃ h2, DuI R K S sl fr D al pt cu X (ndP rho del lam) kap j Hd h2 hk t ∧ (∀ r, x + 1 ≤ r → r < R → sgN (X r) K < D r → t 75 r ≤ t 74 5) ∧ (∀ r, r < R → t 75 r ≤ s 75 r) ∧ (∀ y, ¬ y = 74 → ¬ y = 75 → ¬ y = 79 → ¬ y = 80 → t y = s y) ∧ ∀ i, ¬ i = 10 → t 74 i = s 74 i
  | 0 => ⟨fun x s rr t h m => False.elim m, fun x s rr t h m => False.elim m⟩
  | fu + 1 => by
    have ih := due50 hHd hR hdel fu
    refine ⟨fun x s rr t h m hI hc hx => ?_, fun x s rr t h m hI hc hx => ?_⟩
    · have hI0 := hI
      obtain ⟨hF, hG, hA, ⟨Tl, hQ⟩, hU⟩ := hI
      replace m := ul_X2_levelDue_50 m
      unfold T_X2_levelDue_50 at m
      obtain ⟨_, _, m⟩ := m
      rw [hF.1.2.1, Int.toNat_natCast] at m
      rcases m with ⟨cc, _, et⟩ | ⟨cc, m⟩
      · rw [et]
        exact ⟨h, hI0, fun r r1 r2 _ => absurd r2 (by omega), fun _ _ => Int.le_refl _, fun _ _ _ _ _ => rfl, fun _ _ => rfl⟩
      · have hxR : x < R := by
          clear m
          omega
        rw [(hF.2.2.1 x hxR).2.2.2, (hF.2.2.1 x hxR).2.2.1] at m
        rcases m with ⟨c1, m⟩ | ⟨c1, m⟩
        · obtain ⟨h2, w1, w2, w3, w4, w5⟩ := ih.2 x s rr t h m hI0 hc hxR
          refine ⟨h2, w1, fun r r1 r2 r3 => ?_, w3, w4, w5⟩
          by_cases y : r = x
          · rw [y] at r3
            omega
          · exact w2 r (by omega) r2 r3
        · rcases m with ⟨c2, m⟩ | ⟨c2, s8, e8, s9, m9, _, _, m⟩
          · obtain ⟨h2, w1, w2, w3, w4, w5⟩ := ih.2 x s rr t h m hI0 hc hxR
            refine ⟨h2, w1, fun r r1 r2 r3 => ?_, w3, w4, w5⟩
            by_cases y : r = x
            · have z1 := w3 x hxR
              rw [y, w5 5 (by decide)]
              omega
            · exact w2 r (by omega) r2 r3
          · rcases hc with y | ⟨hd, y1, y2, y3⟩
            · exact absurd (y x hxR (by clear m; omega)) c2
            · have k8 : ∀ y, ¬ y = 75 → s8 y = s y := fun y hy => by rw [e8, us_k hy]
              have q8 : QuI R h Hd Hd Tl s8 := hQ.cg ⟨by rw [k8 74 (by decide)], by rw [k8 74 (by decide)]⟩ (k8 79 (by decide)) (k8 80 (by decide))
              obtain ⟨⟨Tl2, q9, _⟩, n1, n2, n3, n4⟩ := enq (h2 := fun r => if r = x then (x, s 74 5) :: hd else h r) q8 hR hxR hHd m9 (fun v _ hv => by
                show (h v).length ≤ (if v = x then (x, s 74 5) :: hd else h v).length
                rw [if_neg hv]
                exact Nat.le_refl _) (by
                show Hd + 40 < Hd + 41 * (if x = x then (x, s 74 5) :: hd else h x).length
                rw [if_pos rfl, List.length_cons]
                omega)
              have e75 : ∀ r, s9 75 r = if r = x then s 74 5 else s 75 r := fun r => by rw [n1 75 (by decide) (by decide) (by decide), e8, us_if]
              have e74 : ∀ i, ¬ i = 10 → s9 74 i = s 74 i := fun i hi => by rw [n2 i hi, k8 74 (by decide)]
              have dlx := hdel x hxR (by clear m; omega)
              obtain ⟨G9, A9⟩ := low_st (t := s9) hR hG hA hxR (show s 74 5 < s 75 x by clear m; omega) y1 (by rw [ndP_r (by omega)]; omega) y2 y3 e75 (by rw [n1 77 (by decide) (by decide) (by decide), k8 77 (by decide)]) (e74 5 (by decide)) (e74 6 (by decide)) (fun r hr hne => by rw [n3 r hr hne, k8 80 (by decide)]) n4
              have k9 : ∀ y, ¬ y = 74 → ¬ y = 75 → ¬ y = 79 → ¬ y = 80 → s9 y = s y := fun y x1 x2 x3 x4 => by rw [n1 y x1 x3 x4, k8 y x2]
              have d9 : ∀ r, r < R → s9 75 r ≤ s 75 r := fun r hr => by
                rw [e75]
                by_cases q : r = x
                · rw [if_pos q, q]
                  clear m
                  omega
                · rw [if_neg q]
                  exact Int.le_refl _
              have nd9 : ∀ w, ndD R s9 w ≤ ndD R s w := fun w => by
                unfold ndD
                rw [e74 5 (by decide), e74 6 (by decide)]
                split
                · exact Int.le_refl _
                · split
                  · exact Int.le_refl _
                  · split
                    · rename_i q
                      exact d9 w q
                    · exact Int.le_refl _
              obtain ⟨h2, w1, w2, w3, w4, w5⟩ := ih.2 x s9 rr t _ m ⟨hF.cg (fun y x1 x2 => k9 y (by omega) (by omega) (by omega) (by omega)), G9, A9, ⟨Tl2, q9⟩, fun r hr q => by
                rw [e74 5 (by decide), e75]
                by_cases q2 : r = x
                · rw [if_pos q2]
                  exact Int.le_refl _
                · rw [if_neg q2]
                  exact hU r hr q⟩ (Or.inr ⟨hd, by rw [e74 5 (by decide)]; exact y1.mono (Int.le_refl _) nd9, by rw [e74 5 (by decide)]; exact y2, y3⟩) hxR
              refine ⟨h2, w1, fun r r1 r2 r3 => ?_, fun r hr => Int.le_trans (w3 r hr) (d9 r hr), fun y x1 x2 x3 x4 => (w4 y x1 x2 x3 x4).trans (k9 y x1 x2 x3 x4), fun i hi => (w5 i hi).trans (e74 i hi)⟩
              by_cases q : r = x
              · have z1 := w3 x hxR
                rw [e75, if_pos rfl] at z1
                rw [q, w5 5 (by decide), e74 5 (by decide)]
                exact z1
              · exact w2 r (by omega) r2 r3
    · replace m := ul_X2_levelDue_111 m
      unfold T_X2_levelDue_111 at m
      obtain ⟨_, _, m⟩ := m
      exact ih.1 (x + 1) s rr t h m hI hc (by omega)
/-- the least cost of what is left -/
theorem left12 (hS : 0 < S) (hF : FlS R K S sl fr D al pt cu X s) : ∀ fu : Nat, (∀ (x : Nat) (a : PS) (rr : Int) (t : PS), It_X2_levelLeft fu 12 ((S : Int) - 1) (x : Int) a rr t → (∀ y, ¬ y = 74 → a y = s y) → x ≤ K → ∃ fu2 b, It_X2_levelLeft fu2 70 ((S : Int) - 1) 0 b rr t ∧ (∀ y, ¬ y = 74 → b y = s y) ∧ (∀ i, ¬ i = 6 → b 74 i = a 74 i) ∧ b 74 6 ≤ a 74 6 ∧ (∀ k, x ≤ k → k < K → 0 < rStk R sl cu X k (S - 1) → b 74 6 ≤ s 77 (24 * k + (S - 1))) ∧ (b 74 6 = a 74 6 ∨ ∃ k, k < K ∧ 0 < rStk R sl cu X k (S - 1) ∧ s 77 (24 * k + (S - 1)) = b 74 6 ∧ s 77 (24 * k + (S - 1)) < a 74 6)) ∧ ∀ (x : Nat) (a : PS) (rr : Int) (t : PS), It_X2_levelLeft fu 62 ((S : Int) - 1) (x : Int) a rr t → (∀ y, ¬ y = 74 → a y = s y) → x < K → ∃ fu2 b, It_X2_levelLeft fu2 70 ((S : Int) - 1) 0 b rr t ∧ (∀ y, ¬ y = 74 → b y = s y) ∧ (∀ i, ¬ i = 6 → b 74 i = a 74 i) ∧ b 74 6 ≤ a 74 6 ∧ (∀ k, x + 1 ≤ k → k < K → 0 < rStk R sl cu X k (S - 1) → b 74 6 ≤ s 77 (24 * k + (S - 1))) ∧ (b 74 6 = a 74 6 ∨ ∃ k, k < K ∧ 0 < rStk R sl cu X k (S - 1) ∧ s 77 (24 * k + (S - 1)) = b 74 6 ∧ s 77 (24 * k + (S - 1)) < a 74 6)
  | 0 => ⟨fun x a rr t m => False.elim m, fun x a rr t m => False.elim m⟩
  | fu + 1 => by
    have ih := left12 hS hF fu
    refine ⟨fun x a rr t m ha hx => ?_, fun x a rr t m ha hx => ?_⟩
    · replace m := ul_X2_levelLeft_12 m
      unfold T_X2_levelLeft_12 at m
      obtain ⟨_, _, _, m⟩ := m
      rw [ha 64 (by decide), ha 73 (by decide), ha 77 (by decide), hF.1.1] at m
      rcases m with ⟨cc, m⟩ | ⟨cc, m⟩
      · exact ⟨fu, a, m, ha, fun _ _ => rfl, Int.le_refl _, fun k k1 k2 _ => absurd k2 (by omega), Or.inl rfl⟩
      · have hxK : x < K := by
          clear m
          omega
        have ei : (((x : Int) * 24) + ((S : Int) - 1)).toNat = 24 * x + (S - 1) := by
          clear m
          omega
        rw [ei, (hF.2.2.2.2.1 x (S - 1) hxK (by omega)).1] at m
        rcases m with ⟨c1, m⟩ | ⟨c1, s11, e11, m⟩
        · obtain ⟨fu2, b, w1, w2, w3, w4, w5, w6⟩ := ih.2 x a rr t m ha hxK
          refine ⟨fu2, b, w1, w2, w3, w4, fun k k1 k2 k3 => ?_, w6⟩
          by_cases y : k = x
          · rw [y] at k3
            omega
          · exact w5 k (by omega) k2 k3
        · have k11 : ∀ y, ¬ y = 74 → s11 y = s y := fun y hy => by rw [e11, us_k hy]; exact ha y hy
          have v6 : s11 74 6 = min (a 74 6) (s 77 (24 * x + (S - 1))) := by rw [e11, us_at]
          have vi : ∀ i, ¬ i = 6 → s11 74 i = a 74 i := fun i hi => by rw [e11, us_j hi]
          obtain ⟨fu2, b, w1, w2, w3, w4, w5, w6⟩ := ih.2 x s11 rr t m k11 hxK
          rw [v6] at w4 w6
          refine ⟨fu2, b, w1, w2, fun i hi => (w3 i hi).trans (vi i hi), by omega, fun k k1 k2 k3 => ?_, ?_⟩
          · by_cases y : k = x
            · rw [y]
              omega
            · exact w5 k (by omega) k2 k3
          · rcases w6 with y | ⟨k, y1, y2, y3, y4⟩
            · by_cases y2 : a 74 6 ≤ s 77 (24 * x + (S - 1))
              · exact Or.inl (by omega)
              · exact Or.inr ⟨x, hxK, by omega, by omega, by omega⟩
            · exact Or.inr ⟨k, y1, y2, y3, by omega⟩
    · replace m := ul_X2_levelLeft_62 m
      unfold T_X2_levelLeft_62 at m
      obtain ⟨_, _, _, m⟩ := m
      exact ih.1 (x + 1) a rr t m ha (by omega)
end Lev
