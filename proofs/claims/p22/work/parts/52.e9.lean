/-! the filler: the chain of changes is made -/
/-- nothing leads out of Q but from stocks, of which Q has none -/
def ClQ (R K S : Nat) (sl : Nat → Nat) (al : Nat → Nat → Prop) (cu X : Nat → Nat → Int) (Qr : Nat → Prop) (Qk : Nat → Nat → Prop) : Prop := (∀ r k, r < R → k < K → al r k → X r k = 0 → Qr r → Qk k (sl r)) ∧ (∀ k u, k < K → u + 1 < S → Qk k (u + 1) → Qk k u) ∧ (∀ k u, k < K → u + 1 < S → 0 < rStk R sl cu X k u → Qk k u → Qk k (u + 1)) ∧ (∀ r k, r < R → k < K → X r k = 1 → Qk k (sl r) → Qr r) ∧ ∀ k, k < K → Qk k (S - 1) → rStk R sl cu X k (S - 1) ≤ 0
noncomputable def mRho (Qr : Nat → Prop) (C : Int) (R : Nat) (rho : Nat → Int) (root : Nat) (M : Int) (s : PS) (r : Nat) : Int := @ite _ (Qr r) (Classical.propDecidable _) (rho r - C) (nRho R rho root M s r)
noncomputable def mKap (Qk : Nat → Nat → Prop) (C : Int) (S : Nat) (rho : Nat → Int) (kap : Nat → Nat → Int) (root : Nat) (M : Int) (s : PS) (k u : Nat) : Int := @ite _ (u < S ∧ Qk k u) (Classical.propDecidable _) (kap k u - C) (nKap S rho kap root M s k u)
/-- a pair on the way of a chain -/
def GpQ (sl : Nat → Nat) (Qr : Nat → Prop) (Qk : Nat → Nat → Prop) (s0 : PS) (a k : Nat) : Prop := ¬ Qr a ∧ ¬ Qk k (sl a) ∧ s0 75 a < FARz ∧ s0 77 (24 * k + sl a) < FARz
/-- a chain half made: row r has one too many -/
def ChI (R K S : Nat) (sl fr : Nat → Nat) (D : Nat → Int) (al : Nat → Nat → Prop) (pt cu X : Nat → Nat → Int) (lr : Nat → Int) (lk : Nat → Nat → Int) (Qr : Nat → Prop) (Qk : Nat → Nat → Prop) (Gd : Nat → Prop) (h : Nat → List (Nat × Int)) (s0 : PS) (lo : Nat) (Y : Nat → Nat → Int) (r : Nat) (s : PS) : Prop := FlS R K S sl fr D al pt cu Y s ∧ (∀ x, ¬ x = 70 → ¬ x = 71 → ¬ x = 73 → s x = s0 x) ∧ (∀ a k, a < R → k < K → Y a k = X a k ∨ (lk k (sl a) = lr a - pt a k ∧ GpQ sl Qr Qk s0 a k)) ∧ (∀ k u, k < K → u < S → rStk R sl cu Y k u ≤ rStk R sl cu X k u ∨ (lk k u = lk k (u + 1) ∧ u + 1 < S ∧ ¬ Qk k u ∧ s0 77 (24 * k + u) < FARz ∧ s0 77 (24 * k + (u + 1)) < FARz)) ∧ (∀ k u, k < K → u < S → 0 ≤ rStk R sl cu Y k u) ∧ (∀ a, a < R → sgN (Y a) K = sgN (X a) K + (if a = r then 1 else 0) - (if a = lo then 1 else 0)) ∧ (∀ a k, a < R → k < K → (h a).length < (h r).length → Y a k = X a k) ∧ (∀ k, k < K → X r k = 1 → Y r k = 1) ∧ (∀ k u, k < K → u + 1 < S → rStk R sl cu Y k u < rStk R sl cu X k u → ∃ b : Nat, s0 78 (24 * k + (u + 1)) = (b : Int) ∧ (h r).length ≤ (h b).length) ∧ (∀ a k, a < R → k < K → Y a k = 1 → al a k) ∧ r < R ∧ Gd r
section Chg
variable {R K S : Nat} {sl fr : Nat → Nat} {D : Nat → Int} {al : Nat → Nat → Prop} {pt cu X Y : Nat → Nat → Int} {root : Nat} {rho : Nat → Int} {kap : Nat → Nat → Int} {del lam M : Int} {h : Nat → List (Nat × Int)} {hk : Nat → Nat → List (Nat × Int)} {s0 s t : PS} {k u r b lo : Nat} {Qr : Nat → Prop} {Qk : Nat → Nat → Prop} {C : Int}
def GdR (Qr : Nat → Prop) (rho : Nat → Int) (root : Nat) (M : Int) (s0 : PS) (r : Nat) : Prop := s0 75 r < FARz ∧ s0 75 r + rho root ≤ rho r + M ∧ ¬ Qr r
theorem GdR.nr (hg : GdR Qr rho root M s0 r) (hr : r < R) : mRho Qr C R rho root M s0 r = s0 75 r + rho root := by
  unfold mRho nRho
  rw [if_neg hg.2.2, if_pos ⟨hg.1, hr⟩]
  have := hg.2.1
  omega
theorem tkr_lab (hs : ∀ r, r < R → sl r < S) (hL : Lab4 (fun _ _ => False) R K S sl al pt cu X rho kap lam) (hkK : k < K) (hu : u < S) (hlt : s0 77 (24 * k + u) < FARz) (hT : Tkr R S sl al pt cu X s0 k u b) (hg : s0 77 (24 * k + u) + rho root ≤ kap k u + M) (hQ : ClQ R K S sl al cu X Qr Qk) (hn : ¬ Qk k u) : (∀ x, x < S → btw (sl b) u x → mKap Qk C S rho kap root M s0 k x = s0 77 (24 * k + u) + rho root ∧ ¬ Qk k x) ∧ ¬ Qr b := by
  have nq : ∀ x, x < S → btw (sl b) u x → ¬ Qk k x := by
    intro x hx hb q
    obtain ⟨t1, t2, t3, t4, t5, t6, t7, t8⟩ := hT
    by_cases q2 : x ≤ u
    · have up : ∀ n : Nat, x + n ≤ u → Qk k (x + n) := by
        intro n
        induction n with
        | zero => exact fun _ => q
        | succ n ih =>
          intro hn2
          exact hQ.2.2.1 k (x + n) hkK (by omega) (t7 (x + n) (by unfold btw at hb; omega) (by omega)) (ih (by omega))
      have z := up (u - x) (by omega)
      rw [Nat.add_sub_cancel' q2] at z
      exact hn z
    · have dn : ∀ n : Nat, u + n ≤ x → Qk k (x - n) := by
        intro n
        induction n with
        | zero => exact fun _ => q
        | succ n ih =>
          intro hn2
          have z := ih (by omega)
          have e : x - n = (x - (n + 1)) + 1 := by omega
          rw [e] at z
          exact hQ.2.1 k (x - (n + 1)) hkK (by omega) z
      have z := dn (x - u) (by omega)
      have e : x - (x - u) = u := by omega
      rw [e] at z
      exact hn z
  have nb : ¬ Qr b := fun q => by
    obtain ⟨t1, t2, t3, t4, t5, t6, t7, t8⟩ := hT
    exact nq (sl b) (hs b t2) (by unfold btw; omega) (hQ.1 b k t2 hkK t4 t5 q)
  refine ⟨?_, nb⟩
  intro x hx hb
  refine ⟨?_, nq x hx hb⟩
  have nx := nq x hx hb
  obtain ⟨t1, t2, t3, t4, t5, t6, t7, t8⟩ := hT
  obtain ⟨e1, e2⟩ := t8 x hx hb
  have sb := hs b t2
  have kk : kap k u ≤ kap k x := by
    by_cases q : sl b ≤ u
    · have hb2 : sl b ≤ x ∧ x ≤ u := by
        unfold btw at hb
        omega
      have z1 := kap_up hL hkK (a := x) (u - x) (by omega) (fun y y1 y2 => t7 y (by omega) (by omega))
      rw [Nat.add_sub_cancel' hb2.2] at z1
      exact z1
    · have hb2 : u ≤ x ∧ x ≤ sl b := by
        unfold btw at hb
        omega
      have z1 := kap_dn hL hkK (a := u) (x - u) (by omega)
      rw [Nat.add_sub_cancel' hb2.1] at z1
      exact z1
  unfold mKap nKap
  rw [e1, if_neg (fun w => nx w.2), if_pos ⟨hlt, hx⟩]
  omega
/-- what one link of the chain says in new labels -/
theorem FinS.link (hs : ∀ r, r < R → sl r < S) (hR : R ≤ 40) (hpt : ∀ r k, r < R → k < K → -2147483648 ≤ pt r k ∧ pt r k ≤ 2147483648) (hL : Lab4 (fun _ _ => False) R K S sl al pt cu X rho kap lam) (hF : FinS R K S sl al pt cu X root (ndP rho del lam) kap h hk s0) (hQ : ClQ R K S sl al cu X Qr Qk) (hr : r < R) (hg : GdR Qr rho root M s0 r) (hne : ¬ r = root) : ∃ k b, k < K ∧ s0 76 r = (k : Int) ∧ X r k = 1 ∧ Tkr R S sl al pt cu X s0 k (sl r) b ∧ (h r).length = (h b).length + 1 ∧ GdR Qr rho root M s0 b ∧ (mKap Qk C S rho kap root M s0 k (sl r) = mRho Qr C R rho root M s0 r - pt r k ∧ GpQ sl Qr Qk s0 r k) ∧ (mKap Qk C S rho kap root M s0 k (sl b) = mRho Qr C R rho root M s0 b - pt b k ∧ GpQ sl Qr Qk s0 b k) ∧ ∀ x, x < S → btw (sl b) (sl r) x → mKap Qk C S rho kap root M s0 k x = mKap Qk C S rho kap root M s0 k (sl r) ∧ ¬ Qk k x ∧ s0 77 (24 * k + x) < FARz := by
  obtain ⟨k, b, g1, g2, g3, g4, g5, g6, g7⟩ := hF.pt_ hs hR hpt hr hg.1 hne
  have hg2 := hg.2.1
  have p := hpt r k hr g1
  have far : FARz = 1152921504606846976 := rfl
  have rr := (hF.1.2.1 r hr hg.1).2
  have hl := rr.1.len
  have klt : s0 77 (24 * k + sl r) < FARz := by omega
  have la := hL.2.1 r k hr g1 (fun q => q) g3
  have nk : ¬ Qk k (sl r) := fun q => hg.2.2 (hQ.2.2.2.1 r k hr g1 g3 q)
  obtain ⟨lab, nb⟩ := tkr_lab (M := M) (root := root) (C := C) hs hL g1 (hs r hr) klt g5 (by omega) hQ nk
  have gb : GdR Qr rho root M s0 b := ⟨g5.2.2.1, by omega, nb⟩
  have e1 := (lab (sl r) (hs r hr) (by unfold btw; omega)).1
  obtain ⟨e2, n2⟩ := lab (sl b) (hs b g5.2.1) (by unfold btw; omega)
  have t6 := g5.2.2.2.2.2.1
  have e3 := (g5.2.2.2.2.2.2.2 (sl b) (hs b g5.2.1) (by unfold btw; omega)).1
  refine ⟨k, b, g1, g2, g3, g5, g6, gb, ⟨?_, hg.2.2, nk, hg.1, klt⟩, ⟨?_, nb, n2, gb.1, by rw [e3]; exact klt⟩, fun x hx hb => ?_⟩
  · rw [e1, hg.nr hr]
    omega
  · rw [e2, gb.nr g5.2.1]
    omega
  · obtain ⟨l1, l2⟩ := lab x hx hb
    refine ⟨by rw [l1, e1], l2, ?_⟩
    rw [(g5.2.2.2.2.2.2.2 x hx hb).1]
    exact klt
theorem changeL (hs : ∀ r, r < R → sl r < S) (hR : R ≤ 40) (hpt : ∀ r k, r < R → k < K → -2147483648 ≤ pt r k ∧ pt r k ≤ 2147483648) (hK : K ≤ 10) (hS : S ≤ 24) (hroot : root < R) (hX01 : ∀ r k, r < R → k < K → X r k = 0 ∨ X r k = 1) (hL : Lab4 (fun _ _ => False) R K S sl al pt cu X rho kap lam) (hF : FinS R K S sl al pt cu X root (ndP rho del lam) kap h hk s0) (hQ : ClQ R K S sl al cu X Qr Qk) : ∀ (fu i r : Nat) (last : Int) (Y : Nat → Nat → Int) (s : PS) (rr : Int) (t : PS), It_X2_change fu (root : Int) last (r : Int) (i : Int) s rr t → ChI R K S sl fr D al pt cu X (mRho Qr C R rho root M s0) (mKap Qk C S rho kap root M s0) Qr Qk (GdR Qr rho root M s0) h s0 lo Y r s → i + (h r).length ≤ 100 → ∃ Y2, ChI R K S sl fr D al pt cu X (mRho Qr C R rho root M s0) (mKap Qk C S rho kap root M s0) Qr Qk (GdR Qr rho root M s0) h s0 lo Y2 root t
  | 0, i, r, last, Y, s, rr, t, m, _, _ => False.elim m
  | fu + 1, i, r, last, Y, s, rr, t, m, hC, hi => by
    have hC0 := hC
    obtain ⟨c1, c2, c3, c4, c5, c6, c7, c8, c9, c10, c11, c12⟩ := hC
    replace m := ul_X2_change_5 m
    unfold T_X2_change_5 at m
    obtain ⟨_, _, _, _, _, m⟩ := m
    rcases m with ⟨c, _⟩ | ⟨_, m⟩
    · exact absurd c (by omega)
    · rcases m with ⟨c, _, e⟩ | ⟨c, s6, m6, _, _, s9, m9, _, _, m⟩
      · have er : r = root := by omega
        rw [er] at hC0
        rw [e]
        exact ⟨Y, hC0⟩
      · have hne : ¬ r = root := fun e => c (by rw [e])
        obtain ⟨k, b, g1, g2, g3, g4, g5, g6, g7, g8, g9⟩ := hF.link (C := C) hs hR hpt hL hQ c11 c12 hne
        obtain ⟨t1, t2, t3, t4, t5, t6, t7, t8⟩ := id g4
        have e76 : s 76 r = (k : Int) := by rw [c2 76 (by decide) (by decide) (by decide)]; exact g2
        have e65 : s 65 r = (sl r : Int) := (c1.2.2.1 r c11).1
        rw [Int.toNat_natCast, e76] at m6 m9 m
        rw [e65] at m9 m
        have ei : (((k : Int) * 24) + (sl r : Int)).toNat = 24 * k + sl r := by
          clear m m6 m9
          omega
        have e78 : s 78 (24 * k + sl r) = (b : Int) := by rw [c2 78 (by decide) (by decide) (by decide)]; exact t1
        rw [ei, e78] at m9 m
        have hYr : Y r k = 1 := c8 k g1 g3
        obtain ⟨F6, k6⟩ := dropF c1 c11 g1 hYr m6
        have hbr : ¬ b = r := fun e => by
          rw [e] at g5
          omega
        have hY1b : upX Y r k 0 b k = 0 := by
          rw [upX_ne (fun q => hbr q.1), c7 b k t2 g1 (by omega)]
          exact t5
        obtain ⟨F9, k9⟩ := takeF F6 t2 g1 hY1b m9
        have sr := hs r c11
        have sb := hs b t2
        have st2 : ∀ k2 u, k2 < K → u < S → rStk R sl cu (upX (upX Y r k 0) b k 1) k2 u = rStk R sl cu Y k2 u + (if k2 = k ∧ sl r ≤ u then 1 else 0) - (if k2 = k ∧ sl b ≤ u then 1 else 0) := fun k2 u _ _ => by
          rw [rStk_up t2, rStk_up c11, hYr, hY1b]
          by_cases q1 : k2 = k ∧ sl r ≤ u
          · by_cases q2 : k2 = k ∧ sl b ≤ u
            · rw [if_pos q1, if_pos q2, if_pos q1, if_pos q2]
              omega
            · rw [if_pos q1, if_neg q2, if_pos q1, if_neg q2]
              omega
          · by_cases q2 : k2 = k ∧ sl b ≤ u
            · rw [if_neg q1, if_pos q2, if_neg q1, if_pos q2]
              omega
            · rw [if_neg q1, if_neg q2, if_neg q1, if_neg q2]
              omega
        have hval : ∀ a k2, upX (upX Y r k 0) b k 1 a k2 = if a = b ∧ k2 = k then 1 else if a = r ∧ k2 = k then 0 else Y a k2 := fun a k2 => rfl
        have ei1 : (i : Int) + 1 = ((i + 1 : Nat) : Int) := by
          clear m m6 m9
          omega
        rw [ei1] at m
        refine changeL hs hR hpt hK hS hroot hX01 hL hF hQ fu (i + 1) b last (upX (upX Y r k 0) b k 1) s9 rr t m ⟨F9, fun x x1 x2 x3 => (k9 x x1 x2 x3).trans ((k6 x x1 x2 x3).trans (c2 x x1 x2 x3)), fun a k2 q1 q2 => ?_, fun k2 u q1 q2 => ?_, fun k2 u q1 q2 => ?_, fun a q1 => ?_, fun a k2 q1 q2 q3 => ?_, fun k2 q1 q2 => ?_, fun k2 u q1 q2 q3 => ?_, fun a k2 q1 q2 q3 => ?_, t2, g6⟩ (by omega)
        · rw [hval]
          by_cases y1 : a = b ∧ k2 = k
          · rw [y1.1, y1.2]
            exact Or.inr g8
          · by_cases y2 : a = r ∧ k2 = k
            · rw [y2.1, y2.2]
              exact Or.inr g7
            · rw [if_neg y1, if_neg y2]
              exact c3 a k2 q1 q2
        · rw [st2 k2 u q1 q2]
          by_cases y1 : k2 = k ∧ sl r ≤ u
          · by_cases y2 : k2 = k ∧ sl b ≤ u
            · rw [if_pos y1, if_pos y2]
              rcases c4 k2 u q1 q2 with z | z
              · exact Or.inl (by omega)
              · exact Or.inr z
            · refine Or.inr ?_
              have lt : u < sl b := by
                have := y1.1
                omega
              have z1 := g9 u q2 (by unfold btw; have := y1.2; omega)
              have z2 := g9 (u + 1) (by omega) (by unfold btw; have := y1.2; omega)
              rw [y1.1]
              exact ⟨by rw [z1.1, z2.1], by omega, z1.2.1, z1.2.2, z2.2.2⟩
          · rw [if_neg y1]
            rcases c4 k2 u q1 q2 with z | z
            · refine Or.inl ?_
              by_cases y2 : k2 = k ∧ sl b ≤ u
              · rw [if_pos y2]
                omega
              · rw [if_neg y2]
                omega
            · exact Or.inr z
        · rw [st2 k2 u q1 q2]
          have z0 := c5 k2 u q1 q2
          by_cases y2 : k2 = k ∧ sl b ≤ u
          · by_cases y1 : k2 = k ∧ sl r ≤ u
            · rw [if_pos y1, if_pos y2]
              omega
            · rw [if_neg y1, if_pos y2]
              have lt : u < sl r := by
                have := y2.1
                omega
              have o1 := t7 u y2.2 lt
              have n1 : ¬ rStk R sl cu Y k u < rStk R sl cu X k u := fun w => by
                obtain ⟨b2, w1, w2⟩ := c9 k u g1 (by omega) w
                have w3 := (t8 (u + 1) (by omega) (by unfold btw; have := y2.2; omega)).2
                have w4 : b2 = b := by
                  rw [w1] at w3
                  omega
                rw [w4] at w2
                omega
              rw [y2.1] at z0 ⊢
              omega
          · rw [if_neg y2]
            by_cases y1 : k2 = k ∧ sl r ≤ u
            · rw [if_pos y1]
              omega
            · rw [if_neg y1]
              omega
        · rw [upX_sum g1, hY1b, upX_sum g1, upX_sum g1, hYr, c6 a q1, c6 b t2]
          by_cases y1 : a = b
          · have hb1 : ¬ b = r := hbr
            rw [if_pos y1, if_neg hb1, if_neg hb1, if_pos y1, y1]
            omega
          · rw [if_neg y1, if_neg y1]
            by_cases y2 : a = r
            · rw [if_pos y2, c6 r c11, if_pos rfl, y2]
              omega
            · rw [if_neg y2, if_neg y2]
        · rw [hval, if_neg (fun w => by rw [w.1] at q3; omega), if_neg (fun w => by rw [w.1] at q3; omega)]
          exact c7 a k2 q1 q2 (by omega)
        · rw [hval]
          by_cases y1 : k2 = k
          · rw [if_pos ⟨rfl, y1⟩]
          · rw [if_neg (fun w => y1 w.2), if_neg (fun w => y1 w.2), c7 b k2 t2 q1 (by omega)]
            exact q2
        · rw [st2 k2 u q1 (by omega)] at q3
          by_cases y2 : (k2 = k ∧ sl b ≤ u) ∧ ¬ (k2 = k ∧ sl r ≤ u)
          · have lt : u < sl r := by
              have y3 := y2.1.1
              have y4 := y2.2
              omega
            refine ⟨b, ?_, Nat.le_refl _⟩
            rw [y2.1.1]
            exact (t8 (u + 1) (by omega) (by unfold btw; have := y2.1.2; omega)).2
          · have w : rStk R sl cu Y k2 u < rStk R sl cu X k2 u := by
              by_cases y3 : k2 = k ∧ sl b ≤ u
              · by_cases y4 : k2 = k ∧ sl r ≤ u
                · rw [if_pos y3, if_pos y4] at q3
                  omega
                · exact absurd ⟨y3, y4⟩ y2
              · rw [if_neg y3] at q3
                by_cases y4 : k2 = k ∧ sl r ≤ u
                · rw [if_pos y4] at q3
                  omega
                · rw [if_neg y4] at q3
                  omega
            obtain ⟨b2, w1, w2⟩ := c9 k2 u q1 q2 w
            exact ⟨b2, w1, by omega⟩
        · rw [hval] at q3
          by_cases y1 : a = b ∧ k2 = k
          · rw [y1.1, y1.2]
            exact t4
          · rw [if_neg y1] at q3
            by_cases y2 : a = r ∧ k2 = k
            · rw [if_pos y2] at q3
              omega
            · rw [if_neg y2] at q3
              exact c10 a k2 q1 q2 q3
end Chg
