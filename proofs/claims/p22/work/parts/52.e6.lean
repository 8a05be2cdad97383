/-! the filler: labels between a row and all that it reaches -/
def ndD (R : Nat) (s : PS) (v : Nat) : Int := if v = 40 then s 74 5 else if v = 41 then s 74 6 else if v < R then s 75 v else 0
def ndP (rho : Nat → Int) (del lam : Int) (v : Nat) : Int := if v = 40 then del else if v = 41 then lam else rho v
/-- between two slots -/
def btw (a b x : Nat) : Prop := (a ≤ x ∧ x ≤ b) ∨ (b ≤ x ∧ x ≤ a)
/-- who takes a place, what a row drops -/
def PtS (R K S : Nat) (sl : Nat → Nat) (al : Nat → Nat → Prop) (pt cu X : Nat → Nat → Int) (root : Nat) (h : Nat → List (Nat × Int)) (hk : Nat → Nat → List (Nat × Int)) (s : PS) : Prop := ((∀ r, r < R → s 75 r < FARz → (root, (0 : Int)) ∈ h r) ∧ ∀ k u, k < K → u < S → s 77 (24 * k + u) < FARz → (root, (0 : Int)) ∈ hk k u) ∧ (∀ k u, k < K → u < S → s 77 (24 * k + u) < FARz → ∃ (b : Nat) (z : Int) (tl : List (Nat × Int)), s 78 (24 * k + u) = (b : Int) ∧ b < R ∧ hk k u = (b, z) :: tl ∧ al b k ∧ X b k = 0 ∧ s 77 (24 * k + u) = z - pt b k ∧ s 75 b ≤ z ∧ (s 75 b = z → hk k u = h b) ∧ (∀ x, sl b ≤ x → x < u → 0 < rStk R sl cu X k x) ∧ ∀ x, x < S → btw (sl b) u x → s 77 (24 * k + x) < s 77 (24 * k + u) ∨ (s 77 (24 * k + x) = s 77 (24 * k + u) ∧ s 78 (24 * k + x) = (b : Int))) ∧ ∀ r, r < R → s 75 r < FARz → ¬ r = root → ∃ k, k < K ∧ s 76 r = (k : Int) ∧ X r k = 1 ∧ s 77 (24 * k + sl r) < FARz ∧ s 75 r = s 77 (24 * k + sl r) + pt r k ∧ h r = (r, s 75 r) :: hk k (sl r)
def FiH (Ptr : Prop) (R K S : Nat) (sl : Nat → Nat) (al : Nat → Nat → Prop) (pt cu X : Nat → Nat → Int) (root : Nat) (pi : Nat → Int) (kap : Nat → Nat → Int) (j j2 : Nat) (h : Nat → List (Nat × Int)) (hk : Nat → Nat → List (Nat × Int)) (s : PS) : Prop := ((∀ r, r < R → s 75 r ≤ FARz) ∧ ∀ k u, k < K → u < S → s 77 (24 * k + u) ≤ FARz) ∧ (∀ r, r < R → s 75 r < FARz → (∃ tl, h r = (r, s 75 r) :: tl) ∧ Hist pi (ndD R s) (h r) (s 75 r - pi r) ∧ (- (8589934592 * ((h r).length : Int)) ≤ s 75 r ∧ s 75 r ≤ 8589934592 * ((h r).length : Int))) ∧ (∀ k u, k < K → u < S → s 77 (24 * k + u) < FARz → Hist pi (ndD R s) (hk k u) (s 77 (24 * k + u) - kap k u) ∧ (- (8589934592 * ((hk k u).length : Int) + 2147483648) ≤ s 77 (24 * k + u) ∧ s 77 (24 * k + u) ≤ 8589934592 * ((hk k u).length : Int) + 2147483648)) ∧ ((∀ k u, k < K → u + 1 < S → s 77 (24 * k + u) ≤ s 77 (24 * k + (u + 1))) ∧ (∀ k u, k < K → u + 1 < S → 0 < rStk R sl cu X k u → s 77 (24 * k + (u + 1)) ≤ s 77 (24 * k + u)) ∧ ∀ r k, r < R → k < K → X r k = 1 → s 77 (24 * k + sl r) < FARz → s 75 r ≤ s 77 (24 * k + sl r) + pt r k) ∧ ((∀ r, r < R → 0 < sgN (X r) K → s 75 r < s 74 5 → j ≤ cnL (h r)) ∧ (∀ k, k < K → 0 < rStk R sl cu X k (S - 1) → s 77 (24 * k + (S - 1)) < s 74 6 → j2 ≤ cnL (hk k (S - 1))) ∧ ∀ r, r < R → ¬ s 80 r = 0 → s 75 r < FARz ∧ j ≤ cnL (h r)) ∧ (Ptr → PtS R K S sl al pt cu X root h hk s)
/-- what a row that doesn't wait wants has been told -/
def A1x (R K : Nat) (sl : Nat → Nat) (al : Nat → Nat → Prop) (pt X : Nat → Nat → Int) (ex : Nat → Nat → Prop) (s : PS) : Prop := ∀ r k, r < R → k < K → s 80 r = 0 → s 75 r < FARz → ¬ ex r k → al r k → X r k = 0 → s 77 (24 * k + sl r) ≤ s 75 r - pt r k
section Labs
variable {Ptr : Prop} {R K S : Nat} {sl fr : Nat → Nat} {D : Nat → Int} {al : Nat → Nat → Prop} {pt cu X : Nat → Nat → Int} {root : Nat} {rho : Nat → Int} {kap : Nat → Nat → Int} {del lam : Int} {j j2 : Nat} {h h2 : Nat → List (Nat × Int)} {hk : Nat → Nat → List (Nat × Int)} {P0 Hd k slot lo hi : Nat} {cost rw_ c0 : Int} {hu : List (Nat × Int)} {s t : PS} {ex : Nat → Nat → Prop}
theorem ndD_r {v : Nat} (hR : R ≤ 40) (hv : v < R) : ndD R s v = s 75 v := by
  unfold ndD
  rw [if_neg (by omega), if_neg (by omega), if_pos hv]
theorem ndP_r {v : Nat} (hv : v < 40) : ndP rho del lam v = rho v := by
  unfold ndP
  rw [if_neg (by omega), if_neg (by omega)]
/-- labels fall from a slot to those ahead, and to those behind while some is left -/
theorem kap_dn (hL : Lab4 (fun _ _ => False) R K S sl al pt cu X rho kap lam) (hk : k < K) {a : Nat} : ∀ n : Nat, a + n ≤ S → kap k a ≤ kap k (a + n)
  | 0, _ => Int.le_refl _
  | n + 1, hn => Int.le_trans (kap_dn hL hk n (by omega)) (hL.2.2.1 k (a + n) hk (by omega))
theorem kap_up (hL : Lab4 (fun _ _ => False) R K S sl al pt cu X rho kap lam) (hk : k < K) {a : Nat} : ∀ n : Nat, a + n ≤ S → (∀ x, a ≤ x → x < a + n → 0 < rStk R sl cu X k x) → kap k (a + n) ≤ kap k a
  | 0, _, _ => Int.le_refl _
  | n + 1, hn, hx => Int.le_trans (hL.2.2.2.1 k (a + n) hk (by omega) (hx (a + n) (by omega) (by omega))) (kap_up hL hk n (by omega) (fun x x1 x2 => hx x x1 (by omega)))
/-- the same of the class's own labels -/
theorem kc_dn (hA : ∀ k u, k < K → u + 1 < S → s 77 (24 * k + u) ≤ s 77 (24 * k + (u + 1))) (hk : k < K) {a : Nat} : ∀ n : Nat, a + n < S → s 77 (24 * k + a) ≤ s 77 (24 * k + (a + n))
  | 0, _ => Int.le_refl _
  | n + 1, hn => Int.le_trans (kc_dn hA hk n (by omega)) (hA k (a + n) hk (by omega))
theorem kc_up (hA : ∀ k u, k < K → u + 1 < S → 0 < rStk R sl cu X k u → s 77 (24 * k + (u + 1)) ≤ s 77 (24 * k + u)) (hk : k < K) {a : Nat} : ∀ n : Nat, a + n < S → (∀ x, a ≤ x → x < a + n → 0 < rStk R sl cu X k x) → s 77 (24 * k + (a + n)) ≤ s 77 (24 * k + a)
  | 0, _, _ => Int.le_refl _
  | n + 1, hn, hx => Int.le_trans (hA k (a + n) hk (by omega) (hx (a + n) (by omega) (by omega))) (kc_up hA hk n (by omega) (fun x x1 x2 => hx x x1 (by omega)))
/-- one want keeps all this -/
theorem want_st (hs : ∀ r, r < R → sl r < S) (hR : R ≤ 40) (hL : Lab4 (fun _ _ => False) R K S sl al pt cu X rho kap lam) (hpt : ∀ r, r < R → -2147483648 ≤ pt r k ∧ pt r k ≤ 2147483648) (hkK : k < K) (hslot : slot < S) (hX01 : ∀ r k, r < R → k < K → X r k = 0 ∨ X r k = 1) (hF : FiH Ptr R K S sl al pt cu X root (ndP rho del lam) kap j j2 h hk s) (hA : A1x R K sl al pt X ex s) (hH : Hist (ndP rho del lam) (ndD R s) hu c0) (hc0 : c0 ≤ cost - kap k slot) (hcr : - (8589934592 * (hu.length : Int) + 2147483648) ≤ cost ∧ cost ≤ 8589934592 * (hu.length : Int) + 2147483648) (hj : lo ≤ slot → j ≤ cnL hu ∧ j2 ≤ cnL hu) (hp : Ptr → ∃ u, u < R ∧ rw_ = (u : Int) ∧ slot = sl u ∧ hu = h u ∧ cost = s 75 u - pt u k ∧ s 75 u < FARz ∧ al u k ∧ X u k = 0) (hlo : lo ≤ slot + 1) (hhi : slot + 1 ≤ hi) (hhS : hi ≤ S) (hW : WQf R K S sl pt X P0 Hd k (fun u => lo ≤ u ∧ u < hi) cost rw_ hu h s h2 t) (w1 : ∀ u, lo ≤ u → u < hi → cost < s 77 (24 * k + u)) (w2 : lo = 0 ∨ s 77 (24 * k + (lo - 1)) ≤ cost) (w3 : ∀ u, slot + 1 ≤ u → u < hi → 0 < rStk R sl cu X k (u - 1)) (w4 : hi = S ∨ rStk R sl cu X k (hi - 1) ≤ 0 ∨ s 77 (24 * k + hi) ≤ cost) : (∃ hk2, FiH Ptr R K S sl al pt cu X root (ndP rho del lam) kap j j2 h2 hk2 t) ∧ A1x R K sl al pt X ex t ∧ (∀ r, r < R → t 80 r = 0 → t 75 r = s 75 r ∧ s 80 r = 0) ∧ t 77 (24 * k + slot) ≤ cost ∧ (∀ r, r < R → t 75 r ≤ s 75 r) ∧ (∀ k2 u, k2 < K → u < S → t 77 (24 * k2 + u) ≤ s 77 (24 * k2 + u)) ∧ ∀ x ∈ hu, x.1 < R → t 75 x.1 = s 75 x.1 ∧ h2 x.1 = h x.1 ∧ t 80 x.1 = s 80 x.1 := by
  obtain ⟨⟨e1, e2, e3, e4⟩, e5, e6⟩ := hW
  obtain ⟨⟨a1, a2⟩, b, c, ⟨d1, d2, d3⟩, ⟨u1, u2, u3⟩, pS⟩ := hF
  -- nothing at all, or from the slot on
  have emp : lo ≤ slot ∨ hi = slot + 1 := by
    by_cases q : lo ≤ slot
    · exact Or.inl q
    · refine Or.inr ?_
      have elo : lo = slot + 1 := by omega
      by_cases q2 : slot + 1 < hi
      · have z1 := w1 (slot + 1) (by omega) q2
        have z2 := w3 (slot + 1) (Nat.le_refl _) q2
        have z3 := d2 k slot hkK (by omega) z2
        rcases w2 with z4 | z4
        · omega
        · rw [elo] at z4
          have z5 : s 77 (24 * k + slot) ≤ cost := z4
          omega
      · omega
  have kle : ∀ u, lo ≤ u → u < hi → kap k u ≤ kap k slot := by
    intro u q1 q2
    by_cases q3 : u ≤ slot
    · have z := kap_dn hL hkK (a := u) (slot - u) (by omega)
      rw [Nat.add_sub_cancel' q3] at z
      exact z
    · have z := kap_up hL hkK (a := slot) (u - slot) (by omega) (fun x x1 x2 => w3 (x + 1) (by omega) (by omega))
      rw [Nat.add_sub_cancel' (by omega)] at z
      exact z
  have pI : ∀ u, u < S → lo ≤ u → u < hi → t 77 (24 * k + u) = cost ∧ t 78 (24 * k + u) = rw_ := fun u q1 q2 q3 => (e1 k u hkK q1).1 ⟨rfl, q2, q3⟩
  have pN : ∀ k2 u, k2 < K → u < S → ¬ (k2 = k ∧ lo ≤ u ∧ u < hi) → t 77 (24 * k2 + u) = s 77 (24 * k2 + u) ∧ t 78 (24 * k2 + u) = s 78 (24 * k2 + u) := fun k2 u q1 q2 q3 => (e1 k2 u q1 q2).2 q3
  have d75 : ∀ r, r < R → t 75 r ≤ s 75 r := fun r hr => by
    by_cases q : hitW sl pt X k (fun u => lo ≤ u ∧ u < hi) cost s r
    · have z := ((e2 r hr).1 q).1
      have z2 := q.2.2
      omega
    · rw [((e2 r hr).2 q).1]
      exact Int.le_refl _
  have d77 : ∀ k2 u, k2 < K → u < S → t 77 (24 * k2 + u) ≤ s 77 (24 * k2 + u) := fun k2 u q1 q2 => by
    by_cases q : k2 = k ∧ lo ≤ u ∧ u < hi
    · rw [q.1, (pI u q2 q.2.1 q.2.2).1]
      have z := w1 u q.2.1 q.2.2
      omega
    · rw [(pN k2 u q1 q2 q).1]
      exact Int.le_refl _
  have nd : ∀ v, ndD R t v ≤ ndD R s v := fun v => by
    unfold ndD
    rw [e4 5 (by decide), e4 6 (by decide)]
    split
    · exact Int.le_refl _
    · split
      · exact Int.le_refl _
      · split
        · rename_i q
          exact d75 v q
        · exact Int.le_refl _
  have hcp : ∀ r, r < R → hitW sl pt X k (fun u => lo ≤ u ∧ u < hi) cost s r → c0 ≤ cost + pt r k - ndP rho del lam r := fun r hr q => by
    have z := hL.2.1 r k hr hkK (fun q => q) q.1
    have z2 := kle (sl r) q.2.1.1 q.2.1.2
    rw [ndP_r (by omega)]
    omega
  have stay : ∀ x ∈ hu, x.1 < R → t 75 x.1 = s 75 x.1 ∧ h2 x.1 = h x.1 ∧ t 80 x.1 = s 80 x.1 := fun x hx hr => by
    have q : ¬ hitW sl pt X k (fun u => lo ≤ u ∧ u < hi) cost s x.1 := fun q => by
      have z := hH.nin (v := x.1) (z := cost + pt x.1 k) (hcp x.1 hr q) (by rw [ndD_r hR hr]; exact q.2.2) x hx
      exact z rfl
    exact ⟨((e2 x.1 hr).2 q).1, (e6 x.1 hr).2 q, ((e2 x.1 hr).2 q).2.2⟩
  have same : ∀ r, r < R → t 80 r = 0 → t 75 r = s 75 r ∧ h2 r = h r ∧ s 80 r = 0 := fun r hr q1 => by
    by_cases q : hitW sl pt X k (fun u => lo ≤ u ∧ u < hi) cost s r
    · exact absurd q1 ((e2 r hr).1 q).2.2
    · obtain ⟨z1, z2, z3⟩ := (e2 r hr).2 q
      exact ⟨z1, (e6 r hr).2 q, z3 ▸ q1⟩
  have tslot : t 77 (24 * k + slot) ≤ cost := by
    by_cases q : lo ≤ slot
    · rw [(pI slot hslot q (by omega)).1]
      exact Int.le_refl _
    · have elo : lo = slot + 1 := by omega
      rw [(pN k slot hkK hslot (fun z => q z.2.1)).1]
      rcases w2 with z4 | z4
      · omega
      · rw [elo] at z4
        exact z4
  have hit : ∀ r, hitW sl pt X k (fun u => lo ≤ u ∧ u < hi) cost s r → lo ≤ slot := fun r q => by
    have z := q.2.1.1
    have z2 := q.2.1.2
    rcases emp with w | w <;> omega
  have cn_c : ∀ (r : Nat) (z : Int), r < R → cnL ((r, z) :: hu) = cnL hu := fun r z hr => by
    show (if 40 ≤ r then 1 else 0) + cnL hu = cnL hu
    rw [if_neg (by omega), Nat.zero_add]
  refine ⟨⟨fun k2 u => if k2 = k ∧ lo ≤ u ∧ u < hi then hu else hk k2 u, ⟨fun r hr => Int.le_trans (d75 r hr) (a1 r hr), fun k2 u q1 q2 => Int.le_trans (d77 k2 u q1 q2) (a2 k2 u q1 q2)⟩, fun r hr hlt => ?_, fun k2 u q1 q2 hlt => ?_, ⟨fun k2 u q1 q2 => ?_, fun k2 u q1 q2 q3 => ?_, fun r k2 q1 q2 q3 q4 => ?_⟩, ⟨fun r hr q1 q2 => ?_, fun k2 q1 q2 q3 => ?_, fun r hr q1 => ?_⟩, fun hP => ?_⟩, fun r k2 q1 q2 q3 q4 q5 q6 q7 => ?_, fun r q1 q4 => ⟨(same r q1 q4).1, (same r q1 q4).2.2⟩, tslot, d75, d77, stay⟩
  · by_cases q : hitW sl pt X k (fun u => lo ≤ u ∧ u < hi) cost s r
    · have z := ((e2 r hr).1 q).1
      have y := (e6 r hr).1 q
      have p := hpt r hr
      rw [y, z]
      refine ⟨⟨hu, rfl⟩, hH.push (by omega) (hcp r hr q) (by rw [ndD_r hR hr]; exact q.2.2) nd (by rw [ndD_r hR hr, z]; exact Int.le_refl _), ?_⟩
      rw [List.length_cons]
      omega
    · have z := ((e2 r hr).2 q).1
      have y := (e6 r hr).2 q
      rw [z] at hlt
      obtain ⟨b1, b2, b3⟩ := b r hr hlt
      rw [y, z]
      exact ⟨b1, b2.mono (Int.le_refl _) nd, b3⟩
  · by_cases q : k2 = k ∧ lo ≤ u ∧ u < hi
    · show Hist _ _ (if k2 = k ∧ lo ≤ u ∧ u < hi then hu else hk k2 u) _ ∧ (- (8589934592 * ((if k2 = k ∧ lo ≤ u ∧ u < hi then hu else hk k2 u).length : Int) + 2147483648) ≤ _ ∧ _ ≤ 8589934592 * ((if k2 = k ∧ lo ≤ u ∧ u < hi then hu else hk k2 u).length : Int) + 2147483648)
      rw [if_pos q, q.1, (pI u q2 q.2.1 q.2.2).1]
      have z := kle u q.2.1 q.2.2
      exact ⟨hH.mono (by omega) nd, hcr⟩
    · show Hist _ _ (if k2 = k ∧ lo ≤ u ∧ u < hi then hu else hk k2 u) _ ∧ (- (8589934592 * ((if k2 = k ∧ lo ≤ u ∧ u < hi then hu else hk k2 u).length : Int) + 2147483648) ≤ _ ∧ _ ≤ 8589934592 * ((if k2 = k ∧ lo ≤ u ∧ u < hi then hu else hk k2 u).length : Int) + 2147483648)
      have y := (pN k2 u q1 q2 q).1
      rw [y] at hlt
      rw [if_neg q, y]
      obtain ⟨z1, z2⟩ := c k2 u q1 q2 hlt
      exact ⟨z1.mono (Int.le_refl _) nd, z2⟩
  · by_cases q : k2 = k ∧ lo ≤ u ∧ u < hi
    · by_cases q3 : u + 1 < hi
      · rw [q.1, (pI u (by omega) q.2.1 q.2.2).1, (pI (u + 1) q2 (by omega) q3).1]
        exact Int.le_refl _
      · rw [q.1, (pI u (by omega) q.2.1 q.2.2).1, (pN k (u + 1) hkK q2 (fun z => q3 z.2.2)).1]
        have z1 := w1 u q.2.1 q.2.2
        have z2 := d1 k u hkK q2
        omega
    · by_cases q3 : k2 = k ∧ lo ≤ u + 1 ∧ u + 1 < hi
      · have elo : lo = u + 1 := by omega
        have en : ¬ (k = k ∧ lo ≤ u ∧ u < hi) := fun z => q ⟨q3.1, z.2⟩
        rw [q3.1, (pI (u + 1) q2 q3.2.1 q3.2.2).1, (pN k u hkK (by omega) en).1]
        rcases w2 with z4 | z4
        · omega
        · rw [elo] at z4
          exact z4
      · rw [(pN k2 u q1 (by omega) q).1, (pN k2 (u + 1) q1 q2 q3).1]
        exact d1 k2 u q1 q2
  · by_cases q : k2 = k ∧ lo ≤ u ∧ u < hi
    · by_cases q4 : u + 1 < hi
      · rw [q.1, (pI u (by omega) q.2.1 q.2.2).1, (pI (u + 1) q2 (by omega) q4).1]
        exact Int.le_refl _
      · have ehi : hi = u + 1 := by omega
        have z1 := w1 u q.2.1 q.2.2
        have z2 := d1 k u hkK q2
        rw [q.1] at q3
        rcases w4 with z4 | z4 | z4
        · omega
        · rw [ehi] at z4
          have z5 : rStk R sl cu X k u ≤ 0 := z4
          omega
        · rw [ehi] at z4
          omega
    · by_cases q5 : k2 = k ∧ lo ≤ u + 1 ∧ u + 1 < hi
      · have elo : lo = u + 1 := by omega
        rw [q5.1] at q3
        have z1 := w1 (u + 1) q5.2.1 q5.2.2
        have z2 := d2 k u hkK q2 q3
        rcases w2 with z4 | z4
        · omega
        · rw [elo] at z4
          have z6 : s 77 (24 * k + u) ≤ cost := z4
          omega
      · rw [(pN k2 u q1 (by omega) q).1, (pN k2 (u + 1) q1 q2 q5).1]
        exact d2 k2 u q1 q2 q3
  · have hsl := hs r q1
    by_cases q : k2 = k ∧ lo ≤ sl r ∧ sl r < hi
    · have p1 := (pI (sl r) hsl q.2.1 q.2.2).1
      rw [q.1] at q3 ⊢
      rw [p1]
      by_cases q5 : hitW sl pt X k (fun u => lo ≤ u ∧ u < hi) cost s r
      · rw [((e2 r q1).1 q5).1]
        exact Int.le_refl _
      · rw [((e2 r q1).2 q5).1]
        by_cases q6 : cost + pt r k < s 75 r
        · exact absurd ⟨q3, q.2, q6⟩ q5
        · omega
    · have p1 := (pN k2 (sl r) q2 hsl q).1
      rw [p1] at q4 ⊢
      exact Int.le_trans (d75 r q1) (d3 r k2 q1 q2 q3 q4)
  · by_cases q : hitW sl pt X k (fun u => lo ≤ u ∧ u < hi) cost s r
    · rw [(e6 r hr).1 q, cn_c r _ hr]
      exact (hj (hit r q)).1
    · rw [(e6 r hr).2 q]
      rw [((e2 r hr).2 q).1, e4 5 (by decide)] at q2
      exact u1 r hr q1 q2
  · show j2 ≤ cnL (if k2 = k ∧ lo ≤ S - 1 ∧ S - 1 < hi then hu else hk k2 (S - 1))
    by_cases q : k2 = k ∧ lo ≤ S - 1 ∧ S - 1 < hi
    · rw [if_pos q]
      exact (hj (by rcases emp with z | z <;> omega)).2
    · rw [if_neg q]
      rw [(pN k2 (S - 1) q1 (by omega) q).1, e4 6 (by decide)] at q3
      exact u2 k2 q1 q2 q3
  · by_cases q : hitW sl pt X k (fun u => lo ≤ u ∧ u < hi) cost s r
    · have z := ((e2 r hr).1 q).1
      have z2 := q.2.2
      have z3 := a1 r hr
      refine ⟨by omega, ?_⟩
      rw [(e6 r hr).1 q, cn_c r _ hr]
      exact (hj (hit r q)).1
    · obtain ⟨z1, z2, z3⟩ := (e2 r hr).2 q
      rw [z3] at q1
      rw [z1, (e6 r hr).2 q]
      exact u3 r hr q1
  · obtain ⟨⟨p3, p4⟩, p1, p2⟩ := pS hP
    obtain ⟨ur, x1, x2, x3, x4, x5, x6, x7, x8⟩ := hp hP
    obtain ⟨⟨tl, htl⟩, _⟩ := b ur x1 x6
    have uin : (ur, s 75 ur) ∈ hu := by
      rw [x4, htl]
      exact List.mem_cons_self
    obtain ⟨st1, st2, _⟩ := stay (ur, s 75 ur) uin x1
    have st1' : t 75 ur = s 75 ur := st1
    have st2' : h2 ur = h ur := st2
    have inhu : (root, (0 : Int)) ∈ hu := by
      rw [x4]
      exact p3 ur x1 x6
    refine ⟨⟨fun r hr hlt => ?_, fun k2 u q1 q2 hlt => ?_⟩, fun k2 u q1 q2 hlt => ?_, fun r hr hlt hne => ?_⟩
    · by_cases q : hitW sl pt X k (fun u => lo ≤ u ∧ u < hi) cost s r
      · rw [(e6 r hr).1 q]
        exact List.mem_cons_of_mem _ inhu
      · rw [(e6 r hr).2 q]
        rw [((e2 r hr).2 q).1] at hlt
        exact p3 r hr hlt
    · show (root, (0 : Int)) ∈ (if k2 = k ∧ lo ≤ u ∧ u < hi then hu else hk k2 u)
      by_cases q : k2 = k ∧ lo ≤ u ∧ u < hi
      · rw [if_pos q]
        exact inhu
      · rw [if_neg q]
        rw [(pN k2 u q1 q2 q).1] at hlt
        exact p4 k2 u q1 q2 hlt
    · by_cases q : k2 = k ∧ lo ≤ u ∧ u < hi
      · obtain ⟨v1, v2⟩ := pI u q2 q.2.1 q.2.2
        have lsl : lo ≤ slot := by
          rcases emp with z | z
          · exact z
          · omega
        refine ⟨ur, s 75 ur, tl, ?_⟩
        show t 78 (24 * k2 + u) = _ ∧ ur < R ∧ (if k2 = k ∧ lo ≤ u ∧ u < hi then hu else hk k2 u) = _ ∧ al ur k2 ∧ X ur k2 = 0 ∧ t 77 (24 * k2 + u) = s 75 ur - pt ur k2 ∧ t 75 ur ≤ s 75 ur ∧ (t 75 ur = s 75 ur → (if k2 = k ∧ lo ≤ u ∧ u < hi then hu else hk k2 u) = h2 ur) ∧ _
        rw [if_pos q, q.1, v1, v2]
        refine ⟨x2, x1, by rw [x4]; exact htl, x7, x8, x5, d75 ur x1, fun _ => by rw [st2']; exact x4, fun x y1 y2 => ?_, fun x y1 y2 => ?_⟩
        · exact w3 (x + 1) (by omega) (by omega)
        · have inI : lo ≤ x ∧ x < hi := by
            rw [← x3] at y2
            unfold btw at y2
            omega
          obtain ⟨v3, v4⟩ := pI x y1 inI.1 inI.2
          exact Or.inr ⟨v3, by rw [v4]; exact x2⟩
      · obtain ⟨v1, v2⟩ := pN k2 u q1 q2 q
        rw [v1] at hlt
        obtain ⟨bb, z, tl2, g1, g2, g3, g4, g5, g6, g7, g8, g9, g10⟩ := p1 k2 u q1 q2 hlt
        refine ⟨bb, z, tl2, ?_⟩
        show t 78 (24 * k2 + u) = _ ∧ bb < R ∧ (if k2 = k ∧ lo ≤ u ∧ u < hi then hu else hk k2 u) = _ ∧ al bb k2 ∧ X bb k2 = 0 ∧ t 77 (24 * k2 + u) = z - pt bb k2 ∧ t 75 bb ≤ z ∧ (t 75 bb = z → (if k2 = k ∧ lo ≤ u ∧ u < hi then hu else hk k2 u) = h2 bb) ∧ _
        rw [if_neg q, v1, v2]
        refine ⟨g1, g2, g3, g4, g5, g6, Int.le_trans (d75 bb g2) g7, fun y => ?_, g9, fun x y1 y2 => ?_⟩
        · by_cases q3 : hitW sl pt X k (fun u => lo ≤ u ∧ u < hi) cost s bb
          · have y2 := ((e2 bb g2).1 q3).1
            have y3 := q3.2.2
            omega
          · rw [(e6 bb g2).2 q3]
            exact g8 (by rw [← ((e2 bb g2).2 q3).1]; exact y)
        · have y3 := g10 x y1 y2
          by_cases q3 : k2 = k ∧ lo ≤ x ∧ x < hi
          · have v3 := (pI x y1 q3.2.1 q3.2.2).1
            have v4 := w1 x q3.2.1 q3.2.2
            rw [← q3.1] at v3 v4
            rw [v3]
            refine Or.inl ?_
            rcases y3 with y3 | y3
            · omega
            · have y4 := y3.1
              omega
          · obtain ⟨v3, v4⟩ := pN k2 x q1 y1 q3
            rw [v3, v4]
            exact y3
    · by_cases q : hitW sl pt X k (fun u => lo ≤ u ∧ u < hi) cost s r
      · obtain ⟨z1, z2, z3⟩ := (e2 r hr).1 q
        have y := (e6 r hr).1 q
        have v1 := (pI (sl r) (hs r hr) q.2.1.1 q.2.1.2).1
        refine ⟨k, hkK, z2, q.1, ?_, ?_, ?_⟩
        · have z4 := w1 (sl r) q.2.1.1 q.2.1.2
          have z5 := a2 k (sl r) hkK (hs r hr)
          rw [v1]
          omega
        · rw [v1, z1]
        · show h2 r = (r, t 75 r) :: (if k = k ∧ lo ≤ sl r ∧ sl r < hi then hu else hk k (sl r))
          rw [if_pos ⟨rfl, q.2.1⟩, y, z1]
      · obtain ⟨z1, z2, z3⟩ := (e2 r hr).2 q
        rw [z1] at hlt
        obtain ⟨k2, g1, g2, g3, g4, g5, g6⟩ := p2 r hr hlt hne
        have nI : ¬ (k2 = k ∧ lo ≤ sl r ∧ sl r < hi) := fun y => by
          have y2 := w1 (sl r) y.2.1 y.2.2
          rw [y.1] at g3 g5
          exact q ⟨g3, y.2, by omega⟩
        have v1 := (pN k2 (sl r) g1 (hs r hr) nI).1
        refine ⟨k2, g1, by rw [z2]; exact g2, g3, by rw [v1]; exact g4, by rw [v1, z1]; exact g5, ?_⟩
        show h2 r = (r, t 75 r) :: (if k2 = k ∧ lo ≤ sl r ∧ sl r < hi then hu else hk k2 (sl r))
        rw [if_neg nI, (e6 r hr).2 q, z1]
        exact g6
  · obtain ⟨z1, z2, z3⟩ := same r q1 q3
    rw [z1] at q4 ⊢
    exact Int.le_trans (d77 k2 (sl r) q2 (hs r q1)) (hA r k2 q1 q2 z3 q4 q5 q6 q7)
end Labs
