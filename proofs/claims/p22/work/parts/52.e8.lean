/-! the filler: chains when the queue is empty -/
/-- all labels are what their steps make them -/
def FinS (R K S : Nat) (sl : Nat → Nat) (al : Nat → Nat → Prop) (pt cu X : Nat → Nat → Int) (root : Nat) (pi : Nat → Int) (kap : Nat → Nat → Int) (h : Nat → List (Nat × Int)) (hk : Nat → Nat → List (Nat × Int)) (s : PS) : Prop := FiH True R K S sl al pt cu X root pi kap 0 0 h hk s ∧ A1x R K sl al pt X (fun _ _ => False) s ∧ ∀ r, r < R → s 80 r = 0
/-- the row that takes kind k up to slot u, and the way between -/
def Tkr (R S : Nat) (sl : Nat → Nat) (al : Nat → Nat → Prop) (pt cu X : Nat → Nat → Int) (s : PS) (k u b : Nat) : Prop := s 78 (24 * k + u) = (b : Int) ∧ b < R ∧ s 75 b < FARz ∧ al b k ∧ X b k = 0 ∧ s 77 (24 * k + u) = s 75 b - pt b k ∧ (∀ x, sl b ≤ x → x < u → 0 < rStk R sl cu X k x) ∧ ∀ x, x < S → btw (sl b) u x → s 77 (24 * k + x) = s 77 (24 * k + u) ∧ s 78 (24 * k + x) = (b : Int)
section Fin
variable {R K S : Nat} {sl fr : Nat → Nat} {D : Nat → Int} {al : Nat → Nat → Prop} {pt cu X : Nat → Nat → Int} {root : Nat} {rho : Nat → Int} {kap : Nat → Nat → Int} {del lam : Int} {h : Nat → List (Nat × Int)} {hk : Nat → Nat → List (Nat × Int)} {s t : PS} {k u r : Nat}
theorem FinS.pl (hs : ∀ r, r < R → sl r < S) (hR : R ≤ 40) (hpt : ∀ r k, r < R → k < K → -2147483648 ≤ pt r k ∧ pt r k ≤ 2147483648) (hF : FinS R K S sl al pt cu X root (ndP rho del lam) kap h hk s) (hkK : k < K) (hu : u < S) (hlt : s 77 (24 * k + u) < FARz) : ∃ b, Tkr R S sl al pt cu X s k u b ∧ hk k u = h b ∧ s 75 b - rho b ≤ s 77 (24 * k + u) - kap k u := by
  obtain ⟨⟨⟨a1, a2⟩, bb, c, ⟨d1, d2, d3⟩, _, pS⟩, hA, h80⟩ := hF
  obtain ⟨_, p1, p2⟩ := pS trivial
  obtain ⟨b, z, tl, g1, g2, g3, g4, g5, g6, g7, g8, g9, g10⟩ := p1 k u hkK hu hlt
  obtain ⟨cH, cr⟩ := c k u hkK hu hlt
  have hl := cH.len
  have pb := hpt b k g2 hkK
  have bF : s 75 b < FARz := by
    have : FARz = 1152921504606846976 := rfl
    omega
  have A := hA b k g2 hkK (h80 b g2) bF (fun q => q) g4 g5
  have ord : ∀ x, x < S → btw (sl b) u x → s 77 (24 * k + u) ≤ s 77 (24 * k + x) ∧ s 77 (24 * k + x) ≤ s 77 (24 * k + sl b) := by
    intro x hx hb
    have sb := hs b g2
    by_cases q : sl b ≤ u
    · have hb2 : sl b ≤ x ∧ x ≤ u := by
        unfold btw at hb
        omega
      have z1 := kc_up (sl := sl) (cu := cu) (X := X) d2 hkK (a := x) (u - x) (by omega) (fun y y1 y2 => g9 y (by omega) (by omega))
      have z2 := kc_up (sl := sl) (cu := cu) (X := X) d2 hkK (a := sl b) (x - sl b) (by omega) (fun y y1 y2 => g9 y (by omega) (by omega))
      rw [Nat.add_sub_cancel' hb2.2] at z1
      rw [Nat.add_sub_cancel' hb2.1] at z2
      exact ⟨z1, z2⟩
    · have hb2 : u ≤ x ∧ x ≤ sl b := by
        unfold btw at hb
        omega
      have z1 := kc_dn d1 hkK (a := u) (x - u) (by omega)
      have z2 := kc_dn d1 hkK (a := x) (sl b - x) (by omega)
      rw [Nat.add_sub_cancel' hb2.1] at z1
      rw [Nat.add_sub_cancel' hb2.2] at z2
      exact ⟨z1, z2⟩
  have e0 := (ord (sl b) (hs b g2) (by unfold btw; omega)).1
  have ez : s 75 b = z := by omega
  refine ⟨b, ⟨g1, g2, bF, g4, g5, by omega, g9, fun x hx hb => ?_⟩, g8 ez, ?_⟩
  · have w := ord x hx hb
    have e1 : s 77 (24 * k + x) = s 77 (24 * k + u) := by omega
    rcases g10 x hx hb with q | q
    · omega
    · exact ⟨e1, q.2⟩
  · have w := cH.2.2 (b, z) (by rw [g3]; exact List.mem_cons_self)
    have w1 : z - ndP rho del lam b ≤ s 77 (24 * k + u) - kap k u := w.1
    rw [ndP_r (by omega)] at w1
    omega
theorem FinS.pt_ (hs : ∀ r, r < R → sl r < S) (hR : R ≤ 40) (hpt : ∀ r k, r < R → k < K → -2147483648 ≤ pt r k ∧ pt r k ≤ 2147483648) (hF : FinS R K S sl al pt cu X root (ndP rho del lam) kap h hk s) (hr : r < R) (hlt : s 75 r < FARz) (hne : ¬ r = root) : ∃ k b, k < K ∧ s 76 r = (k : Int) ∧ X r k = 1 ∧ s 75 r = s 77 (24 * k + sl r) + pt r k ∧ Tkr R S sl al pt cu X s k (sl r) b ∧ (h r).length = (h b).length + 1 ∧ s 75 b - rho b ≤ s 75 r - rho r := by
  have hF0 := hF
  obtain ⟨⟨⟨a1, a2⟩, bb, c, ⟨d1, d2, d3⟩, _, pS⟩, hA, h80⟩ := hF
  obtain ⟨_, p1, p2⟩ := pS trivial
  obtain ⟨k, g1, g2, g3, g4, g5, g6⟩ := p2 r hr hlt hne
  obtain ⟨b, t1, t2, t3⟩ := FinS.pl hs hR hpt hF0 g1 (hs r hr) g4
  refine ⟨k, b, g1, g2, g3, g5, t1, by rw [g6, t2, List.length_cons], ?_⟩
  obtain ⟨⟨tl, htl⟩, _⟩ := bb b t1.2.1 t1.2.2.1
  have w := (bb r hr hlt).2.1.2.2 (b, s 75 b) (by rw [g6, t2, htl]; exact List.mem_cons_of_mem _ List.mem_cons_self)
  have w1 : s 75 b - ndP rho del lam b ≤ s 75 r - ndP rho del lam r := w.1
  rw [ndP_r (by have := t1.2.1; omega), ndP_r (by omega)] at w1
  exact w1
/-- a row that is reached lies no further ahead than its label says; the root is where it was -/
theorem FinS.rt (hR : R ≤ 40) (hroot : root < R) (hF : FinS R K S sl al pt cu X root (ndP rho del lam) kap h hk s) (hr : r < R) (hlt : s 75 r < FARz) : rho r ≤ s 75 r + rho root ∧ s 75 root ≤ 0 := by
  obtain ⟨⟨⟨a1, a2⟩, bb, c, ⟨d1, d2, d3⟩, _, pS⟩, hA, h80⟩ := hF
  obtain ⟨⟨p3, p4⟩, _⟩ := pS trivial
  have w := (bb r hr hlt).2.1.2.2 (root, 0) (p3 r hr hlt)
  have w1 : 0 - ndP rho del lam root ≤ s 75 r - ndP rho del lam r := w.1
  have w2 : ndD R s root ≤ 0 := w.2
  rw [ndP_r (by omega), ndP_r (by omega)] at w1
  rw [ndD_r hR hroot] at w2
  omega
theorem FinS.rp (hR : R ≤ 40) (hroot : root < R) (hF : FinS R K S sl al pt cu X root (ndP rho del lam) kap h hk s) (hkK : k < K) (hu : u < S) (hlt : s 77 (24 * k + u) < FARz) : kap k u ≤ s 77 (24 * k + u) + rho root := by
  obtain ⟨⟨⟨a1, a2⟩, bb, c, ⟨d1, d2, d3⟩, _, pS⟩, hA, h80⟩ := hF
  obtain ⟨⟨p3, p4⟩, _⟩ := pS trivial
  have w := (c k u hkK hu hlt).1.2.2 (root, 0) (p4 k u hkK hu hlt)
  have w1 : 0 - ndP rho del lam root ≤ s 77 (24 * k + u) - kap k u := w.1
  rw [ndP_r (by omega)] at w1
  omega
/-- the new labels -/
def nRho (R : Nat) (rho : Nat → Int) (root : Nat) (M : Int) (s : PS) (r : Nat) : Int := if s 75 r < FARz ∧ r < R then min (s 75 r + rho root) (rho r + M) else rho r + M
def nKap (S : Nat) (rho : Nat → Int) (kap : Nat → Nat → Int) (root : Nat) (M : Int) (s : PS) (k u : Nat) : Int := if s 77 (24 * k + u) < FARz ∧ u < S then min (s 77 (24 * k + u) + rho root) (kap k u + M) else kap k u + M
theorem lab_new (hs : ∀ r, r < R → sl r < S) (hR : R ≤ 40) (hpt : ∀ r k, r < R → k < K → -2147483648 ≤ pt r k ∧ pt r k ≤ 2147483648) (hL : Lab4 (fun _ _ => False) R K S sl al pt cu X rho kap lam) (hF : FinS R K S sl al pt cu X root (ndP rho del lam) kap h hk s) {M : Int} (htop : ∀ k, k < K → 0 < rStk R sl cu X k (S - 1) → s 77 (24 * k + (S - 1)) < FARz → lam + M ≤ s 77 (24 * k + (S - 1)) + rho root) : Lab4 (fun _ _ => False) R K S sl al pt cu X (nRho R rho root M s) (nKap S rho kap root M s) (lam + M) := by
  obtain ⟨⟨⟨a1, a2⟩, bb, c, ⟨d1, d2, d3⟩, _, pS⟩, hA, h80⟩ := hF
  obtain ⟨l1, l2, l3, l4, l5⟩ := hL
  have far : FARz = 1152921504606846976 := rfl
  refine ⟨fun r k hr hkK _ ha hx => ?_, fun r k hr hkK _ hx => ?_, fun k u hkK hu => ?_, fun k u hkK hu hp => ?_, fun k hkK => ?_⟩
  · have z1 := l1 r k hr hkK (fun q => q) ha hx
    have p := hpt r k hr hkK
    unfold nRho nKap
    by_cases q : s 75 r < FARz
    · have z2 := hA r k hr hkK (h80 r hr) q (fun q => q) ha hx
      obtain ⟨_, hh, hrg⟩ := bb r hr q
      have hl := hh.len
      rw [if_pos (show s 75 r < FARz ∧ r < R from ⟨q, hr⟩), if_pos (show s 77 (24 * k + sl r) < FARz ∧ sl r < S from ⟨by omega, hs r hr⟩)]
      omega
    · rw [if_neg (show ¬ (s 75 r < FARz ∧ r < R) from fun w => q w.1)]
      by_cases q2 : s 77 (24 * k + sl r) < FARz ∧ sl r < S
      · rw [if_pos q2]
        omega
      · rw [if_neg q2]
        omega
  · have z1 := l2 r k hr hkK (fun q => q) hx
    have p := hpt r k hr hkK
    unfold nRho nKap
    by_cases q : s 77 (24 * k + sl r) < FARz
    · have z2 := d3 r k hr hkK hx q
      obtain ⟨hh, hrg⟩ := c k (sl r) hkK (hs r hr) q
      have hl := hh.len
      rw [if_pos (show s 77 (24 * k + sl r) < FARz ∧ sl r < S from ⟨q, hs r hr⟩), if_pos (show s 75 r < FARz ∧ r < R from ⟨by omega, hr⟩)]
      omega
    · rw [if_neg (show ¬ (s 77 (24 * k + sl r) < FARz ∧ sl r < S) from fun w => q w.1)]
      by_cases q2 : s 75 r < FARz ∧ r < R
      · rw [if_pos q2]
        omega
      · rw [if_neg q2]
        omega
  · have z1 := l3 k u hkK hu
    unfold nKap
    by_cases q : s 77 (24 * k + (u + 1)) < FARz ∧ u + 1 < S
    · have z2 := d1 k u hkK q.2
      rw [if_pos q, if_pos (show s 77 (24 * k + u) < FARz ∧ u < S from ⟨by omega, hu⟩)]
      omega
    · rw [if_neg q]
      by_cases q2 : s 77 (24 * k + u) < FARz ∧ u < S
      · rw [if_pos q2]
        omega
      · rw [if_neg q2]
        omega
  · have z1 := l4 k u hkK hu hp
    unfold nKap
    by_cases q : s 77 (24 * k + u) < FARz
    · rw [if_pos (show s 77 (24 * k + u) < FARz ∧ u < S from ⟨q, hu⟩)]
      by_cases q2 : u + 1 < S
      · have z2 := d2 k u hkK q2 hp
        rw [if_pos (show s 77 (24 * k + (u + 1)) < FARz ∧ u + 1 < S from ⟨by omega, q2⟩)]
        omega
      · have eu : u = S - 1 := by omega
        rw [if_neg (show ¬ (s 77 (24 * k + (u + 1)) < FARz ∧ u + 1 < S) from fun w => q2 w.2)]
        rw [eu] at hp q
        have z3 := htop k hkK hp q
        have z4 := l5 k hkK
        have e2 : u + 1 = S := by omega
        rw [e2] at z1 ⊢
        rw [← eu] at z3
        omega
    · rw [if_neg (show ¬ (s 77 (24 * k + u) < FARz ∧ u < S) from fun w => q w.1)]
      by_cases q2 : s 77 (24 * k + (u + 1)) < FARz ∧ u + 1 < S
      · rw [if_pos q2]
        omega
      · rw [if_neg q2]
        omega
  · unfold nKap
    rw [if_neg (fun w => Nat.lt_irrefl _ w.2), l5 k hkK]
end Fin
