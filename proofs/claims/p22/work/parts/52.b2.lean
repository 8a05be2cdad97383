/-! the reference's flow: one more along a way -/
theorem xor1 : ∀ l : Fin 2200, iXor (l.val : Int) 1 = (xr l.val : Int) := by decide +kernel
/-- the balance of a flow, weighed by rho -/
def Fl (m : Nat) (A B : Nat → Nat) (f : Nat → Int) (rho : Nat → Int) : Int := sgN (fun j => (rho (B j) - rho (A j)) * f j) m
/-- the reference holds a net with a flow; the lanes of fz are shut -/
def NF (m : Nat) (A B : Nat → Nat) (C W f : Nat → Int) (fz : Nat → Prop) (s : PS) : Prop := s 0 62 = ((2 * m : Nat) : Int) ∧ 2 * m ≤ 2200 ∧ (∀ j, j < m → s 38 (2 * j) = (A j : Int) ∧ s 39 (2 * j) = (B j : Int) ∧ s 38 (2 * j + 1) = (B j : Int) ∧ s 39 (2 * j + 1) = (A j : Int) ∧ s 41 (2 * j) = W j ∧ s 41 (2 * j + 1) = - W j) ∧ ∀ j, j < m → (-2147483648 ≤ W j ∧ W j ≤ 2147483648) ∧ (0 ≤ f j ∧ f j ≤ C j) ∧ C j ≤ 268435456 ∧ (fz j → s 40 (2 * j) = 0 ∧ s 40 (2 * j + 1) = 0) ∧ (¬ fz j → s 40 (2 * j) = C j - f j ∧ s 40 (2 * j + 1) = f j)
section GoesM
variable {m n a b : Nat} {A B : Nat → Nat} {C W f g : Nat → Int} {fz fz2 : Nat → Prop} {pi : Nat → Int} {s0 s t u : PS} {r : Int}
theorem NF.cap (h : NF m A B C W f fz s) : Cap m C f := fun j hj => (h.2.2.2 j hj).2.1
theorem NF.cg (h : NF m A B C W f fz s) (e : ∀ k, k = 38 ∨ k = 39 ∨ k = 40 ∨ k = 41 → t k = s k) (e0 : t 0 62 = s 0 62) : NF m A B C W f fz t := by
  unfold NF
  rw [e0, e 38 (Or.inl rfl), e 39 (Or.inr (Or.inl rfl)), e 40 (Or.inr (Or.inr (Or.inl rfl))), e 41 (Or.inr (Or.inr (Or.inr rfl)))]
  exact h
theorem half (l : Nat) : l = 2 * (l / 2) ∨ l = 2 * (l / 2) + 1 := by omega
theorem xr_e (j : Nat) : xr (2 * j) = 2 * j + 1 := by
  unfold xr
  rw [if_pos (by omega)]
theorem xr_o (j : Nat) : xr (2 * j + 1) = 2 * j := by
  unfold xr
  rw [if_neg (by omega)]
  omega
/-- the prices say the same of the lanes as of the flow -/
theorem NF.pot (h : NF m A B C W f fz s) (hF : FE (2 * m) (frS s) (toS s) (rmS s) (prS s) pi) : Pot m A B C W f fz pi := by
  intro j hj hz
  obtain ⟨l1, l2, l3, l4, l5, l6⟩ := h.2.2.1 j hj
  obtain ⟨_, _, _, _, k⟩ := h.2.2.2 j hj
  obtain ⟨k1, k2⟩ := k hz
  refine ⟨fun c => ?_, fun c => ?_⟩
  · have z := hF (2 * j) (by omega) (show ¬ s 40 (2 * j) = 0 by omega)
    unfold frS toS prS at z
    rw [l1, l2, l5, Int.toNat_natCast, Int.toNat_natCast] at z
    exact z
  · have z := hF (2 * j + 1) (by omega) (show ¬ s 40 (2 * j + 1) = 0 by omega)
    unfold frS toS prS at z
    rw [l3, l4, l6, Int.toNat_natCast, Int.toNat_natCast] at z
    omega
theorem NF.fe (h : NF m A B C W f fz s) (hP : Pot m A B C W f fz pi) : FE (2 * m) (frS s) (toS s) (rmS s) (prS s) pi := by
  intro l hl hr
  rcases half l with e | e
  · have hj : l / 2 < m := by omega
    obtain ⟨l1, l2, l3, l4, l5, l6⟩ := h.2.2.1 _ hj
    obtain ⟨_, _, _, k0, k⟩ := h.2.2.2 _ hj
    rw [e] at hr ⊢
    have hz : ¬ fz (l / 2) := fun z => hr (k0 z).1
    obtain ⟨k1, k2⟩ := k hz
    unfold rmS at hr
    rw [k1] at hr
    unfold frS toS prS
    rw [l1, l2, l5, Int.toNat_natCast, Int.toNat_natCast]
    exact (hP _ hj hz).1 (by omega)
  · have hj : l / 2 < m := by omega
    obtain ⟨l1, l2, l3, l4, l5, l6⟩ := h.2.2.1 _ hj
    obtain ⟨_, _, _, k0, k⟩ := h.2.2.2 _ hj
    rw [e] at hr ⊢
    have hz : ¬ fz (l / 2) := fun z => hr (k0 z).2
    obtain ⟨k1, k2⟩ := k hz
    unfold rmS at hr
    rw [k2] at hr
    unfold frS toS prS
    rw [l3, l4, l6, Int.toNat_natCast, Int.toNat_natCast]
    have z := (hP _ hj hz).2 (by omega)
    omega
theorem NF.net (h : NF m A B C W f fz s) (hF : FE (2 * m) (frS s) (toS s) (rmS s) (prS s) pi) (hB : PB pi) : NetOk (2 * m) pi s := by
  refine ⟨h.1, h.2.1, hF, fun v hv => PB_in hB hv, fun l hl => ?_⟩
  unfold prS
  rcases half l with e | e
  · have z := (h.2.2.1 (l / 2) (by omega)).2.2.2.2.1
    have y := (h.2.2.2 (l / 2) (by omega)).1
    rw [e, z]
    exact ⟨y.1, y.2⟩
  · have z := (h.2.2.1 (l / 2) (by omega)).2.2.2.2.2
    have y := (h.2.2.2 (l / 2) (by omega)).1
    rw [e, z]
    omega
theorem Fl_up {j : Nat} {x : Int} (hj : j < m) (rho : Nat → Int) : Fl m A B (fun i => if i = j then f j + x else f i) rho = Fl m A B f rho + (rho (B j) - rho (A j)) * x := by
  unfold Fl
  rw [sgN_up (f := fun j => (rho (B j) - rho (A j)) * f j) m j hj (fun i _ hne => by dsimp only; rw [if_neg hne])]
  congr 1
  dsimp only
  rw [if_pos rfl, ← Int.mul_sub]
  congr 1
  omega
theorem NF.xrev (h : NF m A B C W f fz s) (l : Nat) (hl : l < 2 * m) : prS s (xr l) = - prS s l ∧ frS s (xr l) = toS s l ∧ toS s (xr l) = frS s l := by
  obtain ⟨l1, l2, l3, l4, l5, l6⟩ := h.2.2.1 (l / 2) (by omega)
  rcases half l with e | e
  · rw [e, xr_e]
    unfold prS frS toS
    rw [l1, l2, l3, l4, l5, l6]
    exact ⟨rfl, rfl, rfl⟩
  · rw [e, xr_o]
    unfold prS frS toS
    rw [l1, l2, l3, l4, l5, l6]
    exact ⟨by omega, rfl, rfl⟩
/-- one more along a lane -/
theorem NF.push (h : NF m A B C W f fz s) {l : Nat} (hl : l < 2 * m) (h0 : 0 < s 40 l) (e1 : t = us s 40 l (wi (s 40 l - 1))) (e2 : u = us t 40 (xr l) (wi (t 40 (xr l) + 1))) : (∃ f1, NF m A B C W f1 fz u ∧ (∀ rho, Fl m A B f1 rho = Fl m A B f rho + (rho (toS s l) - rho (frS s l))) ∧ ∀ i, fz i → f1 i = f i) ∧ u 40 l = s 40 l - 1 ∧ u 40 (xr l) = s 40 (xr l) + 1 ∧ (∀ i, ¬ i = l → ¬ i = xr l → u 40 i = s 40 i) ∧ ∀ k, ¬ k = 40 → u k = s k := by
  have hj : l / 2 < m := by omega
  obtain ⟨l1, l2, l3, l4, l5, l6⟩ := h.2.2.1 _ hj
  obtain ⟨w1, w2, w3, k0, k⟩ := h.2.2.2 _ hj
  have ku : ∀ k, ¬ k = 40 → u k = s k := fun k hk => by rw [e2, us_k hk, e1, us_k hk]
  have rest : ∀ i, ¬ i = l → ¬ i = xr l → u 40 i = s 40 i := fun i i1 i2 => by rw [e2, us_j i2, e1, us_j i1]
  rcases half l with e | e
  · have hz : ¬ fz (l / 2) := fun z => by
      have := (k0 z).1
      rw [← e] at this
      omega
    obtain ⟨k1, k2⟩ := k hz
    rw [← e] at k1
    have ex : xr l = l + 1 := by
      rw [e, xr_e]
    have e21 : 2 * (l / 2) + 1 = l + 1 := by omega
    rw [e21] at k2
    have u1 : u 40 l = s 40 l - 1 := by
      rw [e2, us_j (by omega), e1, us_at, wi_id (by omega) (by omega)]
    have u2 : u 40 (l + 1) = s 40 (l + 1) + 1 := by
      rw [e2, ex, us_at, e1, us_j (by omega), wi_id (by omega) (by omega)]
    refine ⟨⟨fun i => if i = l / 2 then f (l / 2) + 1 else f i, ⟨by rw [ku 0 (by decide)]; exact h.1, h.2.1, fun j hj => by rw [ku 38 (by decide), ku 39 (by decide), ku 41 (by decide)]; exact h.2.2.1 j hj, fun j hj2 => ?_⟩, fun rho => ?_, fun i hi => if_neg (fun z => hz (by rw [← z]; exact hi))⟩, u1, by rw [ex]; exact u2, rest, ku⟩
    · by_cases c : j = l / 2
      · have a1 : 2 * j = l := by omega
        have a2 : 2 * j + 1 = l + 1 := by omega
        simp only [if_pos c]
        rw [a2, a1, u1, u2, c]
        exact ⟨w1, ⟨by omega, by omega⟩, w3, fun z => absurd z hz, fun _ => ⟨by omega, by omega⟩⟩
      · simp only [if_neg c]
        rw [rest (2 * j) (by omega) (by omega), rest (2 * j + 1) (by omega) (by omega)]
        exact h.2.2.2 j hj2
    · rw [← e] at l1 l2
      have et : toS s l = B (l / 2) := by
        unfold toS
        rw [l2, Int.toNat_natCast]
      have ef : frS s l = A (l / 2) := by
        unfold frS
        rw [l1, Int.toNat_natCast]
      rw [Fl_up hj, Int.mul_one, et, ef]
  · have hz : ¬ fz (l / 2) := fun z => by
      have := (k0 z).2
      rw [← e] at this
      omega
    obtain ⟨k1, k2⟩ := k hz
    rw [← e] at k2
    have ex : xr l = l - 1 := by
      rw [e, xr_o]
      omega
    have e20 : 2 * (l / 2) = l - 1 := by omega
    rw [e20] at k1
    have u1 : u 40 l = s 40 l - 1 := by
      rw [e2, us_j (by omega), e1, us_at, wi_id (by omega) (by omega)]
    have u2 : u 40 (l - 1) = s 40 (l - 1) + 1 := by
      rw [e2, ex, us_at, e1, us_j (by omega), wi_id (by omega) (by omega)]
    refine ⟨⟨fun i => if i = l / 2 then f (l / 2) + (-1) else f i, ⟨by rw [ku 0 (by decide)]; exact h.1, h.2.1, fun j hj => by rw [ku 38 (by decide), ku 39 (by decide), ku 41 (by decide)]; exact h.2.2.1 j hj, fun j hj2 => ?_⟩, fun rho => ?_, fun i hi => if_neg (fun z => hz (by rw [← z]; exact hi))⟩, u1, by rw [ex]; exact u2, rest, ku⟩
    · by_cases c : j = l / 2
      · have a1 : 2 * j = l - 1 := by omega
        have a2 : 2 * j + 1 = l := by omega
        simp only [if_pos c]
        rw [a2, a1, u1, u2, c]
        exact ⟨w1, ⟨by omega, by omega⟩, w3, fun z => absurd z hz, fun _ => ⟨by omega, by omega⟩⟩
      · simp only [if_neg c]
        rw [rest (2 * j) (by omega) (by omega), rest (2 * j + 1) (by omega) (by omega)]
        exact h.2.2.2 j hj2
    · rw [← e] at l3 l4
      have et : toS s l = A (l / 2) := by
        unfold toS
        rw [l4, Int.toNat_natCast]
      have ef : frS s l = B (l / 2) := by
        unfold frS
        rw [l3, Int.toNat_natCast]
      rw [Fl_up hj, et, ef]
      omega
theorem goesL {far : Nat → Int} {tt : Nat → Nat} (hf : ∀ l, frS s0 l < 290) (hW : ∀ v, v < 290 → oW far pi a b v → ¬ v = a → byS s0 v < 2 * m ∧ toS s0 (byS s0 v) = v ∧ rmS s0 (byS s0 v) ∧ oW far pi a b (frS s0 (byS s0 v)) ∧ tt (frS s0 (byS s0 v)) < tt v) (hN0 : ∀ l, l < 2 * m → 0 ≤ s0 40 l) : ∀ (fu p : Nat) (f : Nat → Int) (s : PS) (r : Int) (t : PS), It_X12_goes fu (a : Int) (b : Int) (p : Int) s r t → p < 290 → oW far pi a b p → (∀ k, ¬ k = 40 → s k = s0 k) → NF m A B C W f fz s → (∀ l, l < 2 * m → tt (toS s0 l) ≤ tt p → s0 40 l ≤ s 40 l) → (∀ l, l < 2 * m → rmS s l → rmS s0 l ∨ ∃ v, v < 290 ∧ oW far pi a b v ∧ ¬ v = a ∧ (l = byS s0 v ∨ l = xr (byS s0 v))) → ∃ f1, NF m A B C W f1 fz t ∧ (∀ rho, Fl m A B f1 rho = Fl m A B f rho + (rho p - rho a)) ∧ (∀ i, fz i → f1 i = f i) ∧ (∀ k, ¬ k = 40 → t k = s0 k) ∧ (∀ l, l < 2 * m → toS s0 l = a → s0 40 l ≤ t 40 l) ∧ ∀ l, l < 2 * m → rmS t l → rmS s0 l ∨ ∃ v, v < 290 ∧ oW far pi a b v ∧ ¬ v = a ∧ (l = byS s0 v ∨ l = xr (byS s0 v))
  | 0, p, f, s, r, t, h, _, _, _, _, _, _ => False.elim h
  | fu + 1, p, f, s, r, t, h, hp, ho, hk, hF, hT, hG => by
    replace h := ul_X12_goes_2 h
    unfold T_X12_goes_2 at h
    obtain ⟨ty, _, _, _, h⟩ := h
    rw [Int.toNat_natCast, hk 43 (by decide), hk 38 (by decide)] at h
    rcases h with ⟨c, _, es⟩ | ⟨c, s4, e4, s7, e7, h⟩
    · have e : p = a := by omega
      rw [es]
      refine ⟨f, hF, fun rho => ?_, fun _ _ => rfl, hk, fun l hl et => hT l hl (by rw [et, e]; exact Nat.le_refl _), hG⟩
      rw [e, Int.sub_self, Int.add_zero]
    · have na : ¬ p = a := by
        clear h
        omega
      obtain ⟨b1, b2, b3, b4, b5⟩ := hW p hp ho na
      have y43 : 0 ≤ s0 43 p ∧ s0 43 p ≤ 2199 := by
        have z := ty.2 (43, 0, 2199) (by decide) p
        have z2 : 0 ≤ s 43 p ∧ s 43 p ≤ 2199 := z
        rw [hk 43 (by decide)] at z2
        exact z2
      have y38 : 0 ≤ s0 38 (byS s0 p) ∧ s0 38 (byS s0 p) ≤ 289 := by
        have z := ty.2 (38, 0, 289) (by decide) (byS s0 p)
        have z2 : 0 ≤ s 38 (byS s0 p) ∧ s 38 (byS s0 p) ≤ 289 := z
        rw [hk 38 (by decide)] at z2
        exact z2
      have nn0 := hN0 _ b1
      have rm0 : ¬ s0 40 (byS s0 p) = 0 := b3
      have t0 := hT _ b1 (by rw [b2]; exact Nat.le_refl _)
      have l22 : byS s0 p < 2200 := by
        have := hF.2.1
        clear h
        omega
      have eb : s0 43 p = ((byS s0 p : Nat) : Int) := by
        unfold byS
        clear h
        omega
      have e38 : s0 38 (byS s0 p) = ((frS s0 (byS s0 p) : Nat) : Int) := by
        unfold frS
        clear h
        omega
      have ex : (iXor (s0 43 p) 1).toNat = xr (byS s0 p) := by
        rw [eb, xor1 ⟨byS s0 p, l22⟩, Int.toNat_natCast]
      rw [ex] at e7
      have h2 : It_X12_goes fu (a : Int) (b : Int) (s0 38 (byS s0 p)) s7 r t := h
      rw [e38] at h2
      obtain ⟨⟨f1, n1, n2, n3⟩, u1, u2, u3, u4⟩ := hF.push b1 (show 0 < s 40 (byS s0 p) by clear h h2; omega) e4 e7
      obtain ⟨f2, g1, g2, g2z, g3, g4, g5⟩ := goesL hf hW hN0 fu (frS s0 (byS s0 p)) f1 s7 r t h2 (hf _) b4 (fun k k4 => (u4 k k4).trans (hk k k4)) n1 (fun l hl hle => by
        by_cases c1 : l = byS s0 p
        · rw [c1, b2] at hle
          omega
        · have z := hT l hl (by omega)
          by_cases c2 : l = xr (byS s0 p)
          · rw [c2] at z ⊢
            rw [u2]
            omega
          · rw [u3 l c1 c2]
            exact z) (fun l hl hr => by
        by_cases c1 : l = byS s0 p
        · exact Or.inr ⟨p, hp, ho, na, Or.inl c1⟩
        · by_cases c2 : l = xr (byS s0 p)
          · exact Or.inr ⟨p, hp, ho, na, Or.inr c2⟩
          · unfold rmS at hr
            rw [u3 l c1 c2] at hr
            exact hG l hl hr)
      refine ⟨f2, g1, fun rho => ?_, fun i hi => (g2z i hi).trans (n3 i hi), g3, g4, g5⟩
      have q39 : toS s (byS s0 p) = p := by
        have z : toS s (byS s0 p) = toS s0 (byS s0 p) := by
          unfold toS
          rw [hk 39 (by decide)]
        rw [z]
        exact b2
      have q38 : frS s (byS s0 p) = frS s0 (byS s0 p) := by
        unfold frS
        rw [hk 38 (by decide)]
      rw [g2 rho, n2 rho, q39, q38]
      omega
/-- one more from a to b, along the way that was found -/
theorem goesMM (hF : NF m A B C W f fz s0) (hE : FE (2 * m) (frS s0) (toS s0) (rmS s0) (prS s0) pi) (hB : PB pi) (ha : a < 290) (hb : b < 290) (hR : FdR (2 * m) pi a b s0 1 s) (h : M_X12_goes s (a : Int) (b : Int) r t) : ∃ f1, NF m A B C W f1 fz t ∧ (∀ rho, Fl m A B f1 rho = Fl m A B f rho + (rho b - rho a)) ∧ (∀ i, fz i → f1 i = f i) ∧ (∀ k, ¬ k = 40 → ¬ k = 42 → ¬ k = 43 → t k = s0 k) ∧ (∀ l, l < 2 * m → toS s0 l = a → s0 40 l ≤ t 40 l) ∧ FE (2 * m) (frS t) (toS t) (rmS t) (prS t) (nP (s 42) pi a b) ∧ t 42 = s 42 := by
  obtain ⟨fu, h⟩ := h
  unfold T_X12_goes_e at h
  obtain ⟨ty, _, _, h⟩ := h
  obtain ⟨⟨tt, c, hBs⟩, hNR, hk, hr⟩ := hR
  have rb : ¬ s 42 b = 1152921504606846976 := by
    rcases hr with ⟨z, _⟩ | ⟨_, z⟩
    · exact absurd z (by decide)
    · omega
  have q38 : s 38 = s0 38 := hk 38 (by decide) (by decide)
  have q39 : s 39 = s0 39 := hk 39 (by decide) (by decide)
  have q40 : s 40 = s0 40 := hk 40 (by decide) (by decide)
  have q41 : s 41 = s0 41 := hk 41 (by decide) (by decide)
  have efr : frS s = frS s0 := by
    funext l
    unfold frS
    rw [q38]
  have eto : toS s = toS s0 := by
    funext l
    unfold toS
    rw [q39]
  have erm : rmS s = rmS s0 := by
    funext l
    unfold rmS
    rw [q40]
  have hf : ∀ l, frS s0 l < 290 := fun l => by
    rw [← efr]
    exact tyM_fr ty l
  have hP : ∀ l, l < 2 * m → prS s0 l ≤ 2147483648 := fun l hl => ((hF.net hE hB).2.2.2.2 l hl).2
  have nn : ∀ l, l < 2 * m → 0 ≤ s0 40 l := by
    intro l hl
    obtain ⟨_, ⟨w1, w2⟩, _, k0, k⟩ := hF.2.2.2 (l / 2) (by omega)
    by_cases z : fz (l / 2)
    · have y := k0 z
      rcases half l with e | e
      · rw [e, y.1]
        exact Int.le_refl 0
      · rw [e, y.2]
        exact Int.le_refl 0
    · have y := k z
      rcases half l with e | e
      · rw [e, y.1]
        omega
      · rw [e, y.2]
        omega
  have way : ∀ v, v < 290 → oW (s 42) pi a b v → ¬ v = a → byS s v < 2 * m ∧ toS s (byS s v) = v ∧ rmS s (byS s v) ∧ oW (s 42) pi a b (frS s (byS s v)) ∧ tt (frS s (byS s v)) < tt v := by
    intro v hv ho va
    rw [efr, eto, erm]
    obtain ⟨g1, g2, g3, g4, g5, g6⟩ := BS_fx hBs hNR hv ho.1 va
    exact ⟨g1, g2, g3, oW_cl hE hf hBs hNR hv ho va, g6⟩
  have ob : oW (s 42) pi a b b := ⟨rb, by omega⟩
  obtain ⟨f1, g1, g2, g2z, g3, g4, g5⟩ := goesL (s0 := s) (far := s 42) (tt := tt) (fun l => by rw [efr]; exact hf l) way (fun l hl => by rw [q40]; exact nn l hl) fu b f s r t h hb ob (fun _ _ => rfl) (hF.cg (fun k hk4 => hk k (by omega) (by omega)) (by rw [hk 0 (by decide) (by decide)])) (fun l hl _ => Int.le_refl _) (fun l hl hr => Or.inl hr)
  have e2 : frS t = frS s0 := by
    rw [← efr]
    funext l
    unfold frS
    rw [g3 38 (by decide)]
  have e3 : toS t = toS s0 := by
    rw [← eto]
    funext l
    unfold toS
    rw [g3 39 (by decide)]
  have e4 : prS t = prS s0 := by
    funext l
    unfold prS
    rw [g3 41 (by decide), q41]
  refine ⟨f1, g1, g2, g2z, fun k k1 k2 k3 => (g3 k k1).trans (hk k k2 k3), fun l hl et => ?_, ?_, g3 42 (by decide)⟩
  · rw [← q40]
    exact g4 l hl (by rw [eto]; exact et)
  · rw [e2, e3, e4]
    refine FE_aug (xr := xr) hE hP hf hBs hNR hb rb hF.xrev (fun l hl hr => ?_)
    rcases g5 l hl hr with z | z
    · rw [erm] at z
      exact Or.inl z
    · exact Or.inr z
end GoesM
