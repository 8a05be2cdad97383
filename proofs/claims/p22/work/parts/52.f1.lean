/-! the filler: what is cheapest -/
section Chp
variable {R K S : Nat} {sl fr : Nat → Nat} {D : Nat → Int} {al : Nat → Nat → Prop} {pt cu X : Nat → Nat → Int} {s t : PS}
def BsL (R K S : Nat) (sl : Nat → Nat) (cu X : Nat → Nat → Int) (s : PS) (x : Nat) (best least : Int) : Prop := ((best = -1 ∧ least = FARz) ∨ ∃ k, k < K ∧ best = (k : Int) ∧ 0 < rStk R sl cu X k (S - 1) ∧ s 77 (24 * k + (S - 1)) = least ∧ least < FARz) ∧ ∀ k, k < x → 0 < rStk R sl cu X k (S - 1) → least ≤ s 77 (24 * k + (S - 1))
theorem left9 (hS : 0 < S) (hF : FlS R K S sl fr D al pt cu X s) : ∀ (fu x : Nat) (best least rr : Int) (t : PS), It_X2_cheapestLeft fu 9 best least (x : Int) 0 s rr t → x ≤ K → BsL R K S sl cu X s x best least → t = s ∧ ∃ least2, BsL R K S sl cu X s K rr least2
  | 0, x, best, least, rr, t, h, _, _ => False.elim h
  | 1, x, best, least, rr, t, h, hx, hB => by
    have hF0 := hF
    obtain ⟨f1, f2, f3, f4, f5, f6, f7, f8⟩ := hF
    replace h := ul_X2_cheapestLeft_9 h
    unfold T_X2_cheapestLeft_9 at h
    obtain ⟨_, _, _, h⟩ := h
    rw [f1.1] at h
    rcases h with ⟨c, er, es⟩ | ⟨c, h⟩
    · have e : x = K := by omega
      rw [e] at hB
      rw [er]
      exact ⟨es, least, hB⟩
    · rcases h with ⟨_, h⟩ | ⟨_, h⟩
      · exact False.elim h
      · rcases h with ⟨_, h⟩ | ⟨_, h⟩
        · exact False.elim h
        · exact False.elim h
  | fu + 2, x, best, least, rr, t, h, hx, hB => by
    have hF0 := hF
    obtain ⟨f1, f2, f3, f4, f5, f6, f7, f8⟩ := hF
    replace h := ul_X2_cheapestLeft_9 h
    unfold T_X2_cheapestLeft_9 at h
    obtain ⟨_, _, _, h⟩ := h
    rw [f1.1, f1.2.2] at h
    rcases h with ⟨c, er, es⟩ | ⟨c, h⟩
    · have e : x = K := by omega
      rw [e] at hB
      rw [er]
      exact ⟨es, least, hB⟩
    · have hxK : x < K := by
        clear h
        omega
      have ei : ((((x : Int) * 24) + (S : Int)) - 1).toNat = 24 * x + (S - 1) := by
        clear h
        omega
      rw [ei, (f5 x (S - 1) hxK (by omega)).1] at h
      have next : ∀ (b2 l2 top : Int), It_X2_cheapestLeft (fu + 1) 74 b2 l2 (x : Int) top s rr t → BsL R K S sl cu X s (x + 1) b2 l2 → t = s ∧ ∃ least2, BsL R K S sl cu X s K rr least2 := by
        intro b2 l2 top h2 B2
        replace h2 := ul_X2_cheapestLeft_74 h2
        unfold T_X2_cheapestLeft_74 at h2
        obtain ⟨_, _, _, _, h2⟩ := h2
        exact left9 hS hF0 fu (x + 1) b2 l2 rr t h2 (by omega) B2
      rcases h with ⟨c1, h⟩ | ⟨c1, h⟩
      · refine next _ _ _ h ⟨hB.1, fun k hk hp => ?_⟩
        by_cases e : k = x
        · rw [e] at hp
          omega
        · exact hB.2 k (by omega) hp
      · rcases h with ⟨c2, h⟩ | ⟨c2, h⟩
        · refine next _ _ _ h ⟨hB.1, fun k hk hp => ?_⟩
          by_cases e : k = x
          · rw [e]
            exact c2
          · exact hB.2 k (by omega) hp
        · have lf : least ≤ FARz := by
            rcases hB.1 with z | ⟨k, _, _, _, _, z⟩
            · exact Int.le_of_eq z.2
            · exact Int.le_of_lt z
          refine next _ _ _ h ⟨Or.inr ⟨x, hxK, rfl, by clear h; omega, rfl, by clear h; omega⟩, fun k hk hp => ?_⟩
          by_cases e : k = x
          · rw [e]
            exact Int.le_refl _
          · have z := hB.2 k (by omega) hp
            clear h
            omega
theorem leftF (hS : 0 < S) (hF : FlS R K S sl fr D al pt cu X s) {rr : Int} (h : M_X2_cheapestLeft s rr t) : t = s ∧ ((rr = -1 ∧ ∀ k, k < K → 0 < rStk R sl cu X k (S - 1) → FARz ≤ s 77 (24 * k + (S - 1))) ∨ ∃ k, k < K ∧ rr = (k : Int) ∧ 0 < rStk R sl cu X k (S - 1) ∧ s 77 (24 * k + (S - 1)) < FARz ∧ ∀ k2, k2 < K → 0 < rStk R sl cu X k2 (S - 1) → s 77 (24 * k + (S - 1)) ≤ s 77 (24 * k2 + (S - 1))) := by
  obtain ⟨fu, h⟩ := h
  unfold T_X2_cheapestLeft_e at h
  obtain ⟨_, h⟩ := h
  obtain ⟨e, l2, b1, b2⟩ := left9 hS hF fu 0 (-1) FARz rr t h (Nat.zero_le _) ⟨Or.inl ⟨rfl, rfl⟩, fun k hk => absurd hk (Nat.not_lt_zero _)⟩
  refine ⟨e, ?_⟩
  rcases b1 with ⟨z1, z2⟩ | ⟨k, z1, z2, z3, z4, z5⟩
  · exact Or.inl ⟨z1, fun k hk hp => by rw [← z2]; exact b2 k hk hp⟩
  · exact Or.inr ⟨k, z1, z2, z3, by omega, fun k2 hk hp => by rw [z4]; exact b2 k2 hk hp⟩
def BsR (R : Nat) (s : PS) (x : Nat) (best least : Int) : Prop := ((best = -1 ∧ least = 0) ∨ ∃ r, r < R ∧ best = (r : Int) ∧ s 75 r = least ∧ least < 0) ∧ ∀ r, r < x → least ≤ s 75 r
theorem loser7 (hF : FlS R K S sl fr D al pt cu X s) : ∀ (fu x : Nat) (best least rr : Int) (t : PS), It_X2_cheapestLoser fu 7 best least (x : Int) s rr t → x ≤ R → BsR R s x best least → t = s ∧ ∃ least2, BsR R s R rr least2
  | 0, x, best, least, rr, t, h, _, _ => False.elim h
  | 1, x, best, least, rr, t, h, hx, hB => by
    obtain ⟨f1, f2, f3, f4, f5, f6, f7, f8⟩ := hF
    replace h := ul_X2_cheapestLoser_7 h
    unfold T_X2_cheapestLoser_7 at h
    obtain ⟨_, _, _, h⟩ := h
    rw [f1.2.1] at h
    rcases h with ⟨c, er, es⟩ | ⟨c, h⟩
    · have e : x = R := by omega
      rw [e] at hB
      rw [er]
      exact ⟨es, least, hB⟩
    · rcases h with ⟨_, h⟩ | ⟨_, h⟩
      · exact False.elim h
      · exact False.elim h
  | fu + 2, x, best, least, rr, t, h, hx, hB => by
    have hF0 := hF
    obtain ⟨f1, f2, f3, f4, f5, f6, f7, f8⟩ := hF
    replace h := ul_X2_cheapestLoser_7 h
    unfold T_X2_cheapestLoser_7 at h
    obtain ⟨_, _, _, h⟩ := h
    rw [f1.2.1, Int.toNat_natCast] at h
    rcases h with ⟨c, er, es⟩ | ⟨c, h⟩
    · have e : x = R := by omega
      rw [e] at hB
      rw [er]
      exact ⟨es, least, hB⟩
    · have hxR : x < R := by
        clear h
        omega
      have next : ∀ (b2 l2 : Int), It_X2_cheapestLoser (fu + 1) 42 b2 l2 (x : Int) s rr t → BsR R s (x + 1) b2 l2 → t = s ∧ ∃ least2, BsR R s R rr least2 := by
        intro b2 l2 h2 B2
        replace h2 := ul_X2_cheapestLoser_42 h2
        unfold T_X2_cheapestLoser_42 at h2
        obtain ⟨_, _, _, h2⟩ := h2
        exact loser7 hF0 fu (x + 1) b2 l2 rr t h2 (by omega) B2
      rcases h with ⟨c1, h⟩ | ⟨c1, h⟩
      · refine next _ _ h ⟨hB.1, fun r hr => ?_⟩
        by_cases e : r = x
        · rw [e]
          exact c1
        · exact hB.2 r (by omega)
      · have lf : least ≤ 0 := by
          rcases hB.1 with z | ⟨r, _, _, _, z⟩
          · exact Int.le_of_eq z.2
          · exact Int.le_of_lt z
        refine next _ _ h ⟨Or.inr ⟨x, hxR, rfl, rfl, by clear h; omega⟩, fun r hr => ?_⟩
        by_cases e : r = x
        · rw [e]
          exact Int.le_refl _
        · have z := hB.2 r (by omega)
          clear h
          omega
theorem loserF (hF : FlS R K S sl fr D al pt cu X s) {rr : Int} (h : M_X2_cheapestLoser s rr t) : t = s ∧ ((rr = -1 ∧ ∀ r, r < R → 0 ≤ s 75 r) ∨ ∃ r, r < R ∧ rr = (r : Int) ∧ s 75 r < 0 ∧ ∀ r2, r2 < R → s 75 r ≤ s 75 r2) := by
  obtain ⟨fu, h⟩ := h
  unfold T_X2_cheapestLoser_e at h
  obtain ⟨_, h⟩ := h
  obtain ⟨e, l2, b1, b2⟩ := loser7 hF fu 0 (-1) 0 rr t h (Nat.zero_le _) ⟨Or.inl ⟨rfl, rfl⟩, fun k hk => absurd hk (Nat.not_lt_zero _)⟩
  refine ⟨e, ?_⟩
  rcases b1 with ⟨z1, z2⟩ | ⟨r, z1, z2, z3, z4⟩
  · exact Or.inl ⟨z1, fun r hr => by rw [← z2]; exact b2 r hr⟩
  · exact Or.inr ⟨r, z1, z2, by omega, fun r2 hr => by rw [z3]; exact b2 r2 hr⟩
end Chp
/-! certificates: a deal is best for what is due so far -/
def upD (D : Nat → Int) (r : Nat) (v : Int) : Nat → Int := fun a => if a = r then v else D a
def CertF (R K S : Nat) (sl : Nat → Nat) (al : Nat → Nat → Prop) (pt cu : Nat → Nat → Int) (D : Nat → Int) (X : Nat → Nat → Int) : Prop := RowOk R K S sl D al cu X ∧ ∃ (rho : Nat → Int) (kap : Nat → Nat → Int) (del lam : Int) (Qr : Nat → Prop) (Qk : Nat → Nat → Prop), Lab4 (fun _ _ => False) R K S sl al pt cu X rho kap lam ∧ LabD R K D X rho del ∧ ClQ R K S sl al cu X Qr Qk ∧ ∀ r, r < R → sgN (X r) K < D r → Qr r
section Crt
variable {R K S : Nat} {sl fr : Nat → Nat} {D : Nat → Int} {al : Nat → Nat → Prop} {pt cu X Y : Nat → Nat → Int} {root : Nat} {rho : Nat → Int} {kap : Nat → Nat → Int} {del lam M C : Int} {Qr : Nat → Prop} {Qk : Nat → Nat → Prop} {s : PS}
/-- old labels in Q, further down; new ones elsewhere -/
theorem lab_mix (hs : ∀ r, r < R → sl r < S) (hC : 0 ≤ C) (hM : 0 ≤ M) (hL : Lab4 (fun _ _ => False) R K S sl al pt cu X rho kap lam) (hN : Lab4 (fun _ _ => False) R K S sl al pt cu X (nRho R rho root M s) (nKap S rho kap root M s) (lam + M)) (hr : ∀ r, r < R → rho r ≤ nRho R rho root M s r) (hk : ∀ k u, k < K → u < S → kap k u ≤ nKap S rho kap root M s k u) (hQ : ClQ R K S sl al cu X Qr Qk) : Lab4 (fun _ _ => False) R K S sl al pt cu X (mRho Qr C R rho root M s) (mKap Qk C S rho kap root M s) (lam + M) := by
  obtain ⟨l1, l2, l3, l4, l5⟩ := hL
  obtain ⟨n1, n2, n3, n4, n5⟩ := hN
  obtain ⟨q1, q2, q3, q4, q5⟩ := hQ
  refine ⟨fun r k a b _ ha hx => ?_, fun r k a b _ hx => ?_, fun k u a b => ?_, fun k u a b hp => ?_, fun k a => ?_⟩
  · have z1 := l1 r k a b (fun q => q) ha hx
    have z2 := n1 r k a b (fun q => q) ha hx
    have z3 := hk k (sl r) b (hs r a)
    unfold mRho mKap
    by_cases c : Qr r
    · rw [if_pos c, if_pos ⟨hs r a, q1 r k a b ha hx c⟩]
      omega
    · rw [if_neg c]
      by_cases c2 : sl r < S ∧ Qk k (sl r)
      · rw [if_pos c2]
        omega
      · rw [if_neg c2]
        exact z2
  · have z1 := l2 r k a b (fun q => q) hx
    have z2 := n2 r k a b (fun q => q) hx
    have z3 := hr r a
    unfold mRho mKap
    by_cases c : sl r < S ∧ Qk k (sl r)
    · rw [if_pos c, if_pos (q4 r k a b hx c.2)]
      omega
    · rw [if_neg c]
      by_cases c2 : Qr r
      · rw [if_pos c2]
        omega
      · rw [if_neg c2]
        exact z2
  · have z1 := l3 k u a b
    have z2 := n3 k u a b
    have z3 := hk k u a b
    unfold mKap
    by_cases c : u + 1 < S ∧ Qk k (u + 1)
    · rw [if_pos c, if_pos ⟨b, q2 k u a c.1 c.2⟩]
      omega
    · rw [if_neg c]
      by_cases c2 : u < S ∧ Qk k u
      · rw [if_pos c2]
        omega
      · rw [if_neg c2]
        exact z2
  · have z1 := l4 k u a b hp
    have z2 := n4 k u a b hp
    unfold mKap
    by_cases c : u < S ∧ Qk k u
    · rw [if_pos c]
      by_cases c2 : u + 1 < S
      · rw [if_pos ⟨c2, q3 k u a c2 hp c.2⟩]
        omega
      · have e : u = S - 1 := by omega
        have c3 := c.2
        rw [e] at c3 hp
        have z := q5 k a c3
        omega
    · rw [if_neg c]
      by_cases c2 : u + 1 < S ∧ Qk k (u + 1)
      · have z3 := hk k (u + 1) a c2.1
        rw [if_pos c2]
        omega
      · rw [if_neg c2]
        exact z2
  · unfold mKap
    rw [if_neg (fun c => Nat.lt_irrefl _ c.1)]
    exact n5 k a
theorem ClQ.no : ClQ R K S sl al cu X (fun _ => False) (fun _ _ => False) := ⟨fun _ _ _ _ _ _ q => q, fun _ _ _ _ q => q, fun _ _ _ _ _ q => q, fun _ _ _ _ _ q => q, fun _ _ q => q.elim⟩
end Crt
