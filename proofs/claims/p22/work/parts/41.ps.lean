/-! the reference's codes: how high the heap stands, and what waits -/
/-- one code's step of the height -/
def hs1 (v : Int32) (h : Nat) : Option Nat := if v.toInt ≤ 9 then some (h + 1) else if v = 18 then (if 1 ≤ h then some h else none) else if 2 ≤ h then some (h - 1) else none
/-- the height after n codes from a -/
def hsN (c : Nat → Int32) (a : Nat) : Nat → Option Nat
  | 0 => some 0
  | n + 1 => (hsN c a n).bind (hs1 (c (a + n)))
theorem hsN_nx {c : Nat → Int32} {a n x : Nat} (h : hsN c a n = some x) : hsN c a (n + 1) = hs1 (c (a + n)) x := by
  show (hsN c a n).bind (hs1 (c (a + n))) = _
  rw [h]
  rfl
theorem hsN_up {c : Nat → Int32} {a : Nat} : ∀ k n, hsN c a n = none → hsN c a (n + k) = none
  | 0, _, h => h
  | k + 1, n, h => by
    have q := hsN_up k n h
    show (hsN c a (n + k)).bind (hs1 (c (a + (n + k)))) = none
    rw [q]
    rfl
/-- what stands is safe up to every place before -/
theorem hsN_dn {c : Nat → Int32} {a n m : Nat} (h : ¬ hsN c a m = none) (l : n ≤ m) : ¬ hsN c a n = none := by
  intro q
  apply h
  have z := hsN_up (m - n) n q
  rw [show n + (m - n) = m by omega] at z
  exact z
theorem hsN_cg {c d : Nat → Int32} {a : Nat} : ∀ n, (∀ i, a ≤ i → i < a + n → d i = c i) → hsN d a n = hsN c a n
  | 0, _ => rfl
  | n + 1, h => by
    show (hsN d a n).bind (hs1 (d (a + n))) = (hsN c a n).bind (hs1 (c (a + n)))
    rw [hsN_cg n (fun i h1 h2 => h i h1 (by omega)), h (a + n) (by omega) (by omega)]
/-- the heap never stands higher than the codes are many -/
theorem hsN_le {c : Nat → Int32} {a : Nat} : ∀ n x, hsN c a n = some x → x ≤ n
  | 0, x, h => by
    have : (0 : Nat) = x := Option.some.inj h
    omega
  | n + 1, x, h => by
    cases e : hsN c a n with
    | none =>
      have z : hsN c a (n + 1) = none := hsN_up 1 n e
      rw [z] at h
      exact absurd h (by intro q; cases q)
    | some y =>
      have g := hsN_le n y e
      rw [hsN_nx e] at h
      unfold hs1 at h
      split at h
      · have := Option.some.inj h
        omega
      · split at h
        · split at h
          · have := Option.some.inj h
            omega
          · exact absurd h (by intro q; cases q)
        · split at h
          · have := Option.some.inj h
            omega
          · exact absurd h (by intro q; cases q)
/-- a step: a leaf -/
theorem hs1_lf {v : Int32} {h : Nat} (k : v.toInt ≤ 9) : hs1 v h = some (h + 1) := by
  unfold hs1
  rw [if_pos k]
theorem hs1_no {h : Nat} (k : 1 ≤ h) : hs1 18 h = some h := by
  unfold hs1
  rw [if_neg (by decide), if_pos rfl, if_pos k]
theorem hs1_two {v : Int32} {h : Nat} (k : ¬ v.toInt ≤ 9) (n : ¬ v = 18) (g : 2 ≤ h) : hs1 v h = some (h - 1) := by
  unfold hs1
  rw [if_neg k, if_neg n, if_pos g]
/-- what a safe step asks -/
theorem hs1_no' {h : Nat} (k : ¬ hs1 18 h = none) : 1 ≤ h := by
  unfold hs1 at k
  rw [if_neg (by decide), if_pos rfl] at k
  by_cases g : 1 ≤ h
  · exact g
  · rw [if_neg g] at k
    exact absurd rfl k
theorem hs1_two' {v : Int32} {h : Nat} (l : ¬ v.toInt ≤ 9) (n : ¬ v = 18) (k : ¬ hs1 v h = none) : 2 ≤ h := by
  unfold hs1 at k
  rw [if_neg l, if_neg n] at k
  by_cases g : 2 ≤ h
  · exact g
  · rw [if_neg g] at k
    exact absurd rfl k
/-- the codes from a on stand with what waits and o -/
def PQ (a : Nat) (c ops : Nat → Int32) (cd om o : Nat) : Prop := a ≤ cd ∧ hsN c a (cd - a) = some (om - cn ops 18 om + o)
theorem PQ_0 {a : Nat} {c ops : Nat → Int32} : PQ a c ops a 0 0 := ⟨Nat.le_refl _, by rw [Nat.sub_self]; rfl⟩
theorem PQ_ok {a : Nat} {c ops : Nat → Int32} {cd om o : Nat} (h : PQ a c ops cd om o) : ¬ hsN c a (cd - a) = none := by
  rw [h.2]
  intro q
  cases q
theorem PQ_cg {a : Nat} {c d ops : Nat → Int32} {cd om o : Nat} (e : ∀ i, i < cd → d i = c i) (h : PQ a c ops cd om o) : PQ a d ops cd om o := ⟨h.1, by
  rw [hsN_cg (cd - a) (fun i h1 h2 => e i (by have := h.1; omega))]
  exact h.2⟩
theorem PQ_nx {a : Nat} {c d ops : Nat → Int32} {cd om o x : Nat} (h : PQ a c ops cd om o) (e : ∀ i, i < cd → d i = c i) (g : hs1 (d cd) (om - cn ops 18 om + o) = some x) : hsN d a (cd + 1 - a) = some x := by
  have q := (PQ_cg e h).2
  have l := h.1
  rw [show cd + 1 - a = (cd - a) + 1 by omega, hsN_nx q, show a + (cd - a) = cd by omega]
  exact g
theorem PQ_lf {a : Nat} {c d ops : Nat → Int32} {cd om : Nat} (h : PQ a c ops cd om 0) (e : ∀ i, i < cd → d i = c i) (k : (d cd).toInt ≤ 9) : PQ a d ops (cd + 1) om 1 := ⟨by have := h.1; omega, PQ_nx h e (hs1_lf k)⟩
theorem cn_s {f : Nat → Int32} {S : Int32} {n : Nat} : cn f S (n + 1) = cn f S n + (if f n = S then 1 else 0) := by
  by_cases h : f n = S
  · rw [if_pos h]
    simp [cn, h]
  · rw [if_neg h]
    simp [cn, h]
theorem PQ_pop {a : Nat} {c d ops : Nat → Int32} {cd om : Nat} (h : PQ a c ops cd (om + 1) 1) (e : ∀ i, i < cd → d i = c i) (k : d cd = ops om) (l : ¬ (ops om).toInt ≤ 9) : PQ a d ops (cd + 1) om 1 := by
  refine ⟨by have := h.1; omega, PQ_nx h e ?_⟩
  rw [k]
  have g := cn_le ops 18 om
  rw [cn_s]
  by_cases z : ops om = 18
  · rw [if_pos z, z, show om + 1 - (cn ops 18 om + 1) + 1 = om - cn ops 18 om + 1 by omega]
    exact hs1_no (by omega)
  · rw [if_neg z, hs1_two l z (by omega), show om + 1 - (cn ops 18 om + 0) + 1 - 1 = om - cn ops 18 om + 1 by omega]
theorem cn_cg {f g : Nat → Int32} {S : Int32} : ∀ n, (∀ i, i < n → g i = f i) → cn g S n = cn f S n
  | 0, _ => rfl
  | n + 1, h => by rw [cn_s, cn_s, cn_cg n (fun i l => h i (by omega)), h n (by omega)]
theorem PQ_no {a : Nat} {c ops : Nat → Int32} {cd om : Nat} {p : Nat → Int32} (h : PQ a c ops cd om 0) (e : ∀ i, i < om → p i = ops i) (k : p om = 18) : PQ a c p cd (om + 1) 0 := by
  refine ⟨h.1, ?_⟩
  rw [h.2, cn_s, if_pos k, cn_cg om e, show om + 1 - (cn ops 18 om + 1) = om - cn ops 18 om by omega]
theorem PQ_two {a : Nat} {c ops : Nat → Int32} {cd om : Nat} {p : Nat → Int32} (h : PQ a c ops cd om 1) (e : ∀ i, i < om → p i = ops i) (k : ¬ p om = 18) : PQ a c p cd (om + 1) 0 := by
  refine ⟨h.1, ?_⟩
  have g := cn_le ops 18 om
  rw [h.2, cn_s, if_neg k, cn_cg om e, show om - cn ops 18 om + 1 = om + 1 - (cn ops 18 om + 0) + 0 by omega]
/-! how many wait -/
/-- the rank of what waits -/
def rkO (v : Int32) : Nat := if v = 17 then 1 else if v = 16 then 2 else if v = 18 then 3 else if v = 13 ∨ v = 14 ∨ v = 15 then 4 else 5
/-- what a rank may weigh -/
def wrO (r : Nat) : Int := if r ≤ 1 then 3 else if r ≤ 3 then 6 else if r ≤ 4 then 9 else 12
theorem wrO_le (r : Nat) : 3 ≤ wrO r ∧ wrO r ≤ 12 := by
  unfold wrO
  split
  · omega
  · split
    · omega
    · split <;> omega
/-- of a lesser rank: three less, unless both are one of the two that weigh the same -/
theorem wrO_lt {r p : Nat} (h : r < p) (hr : 1 ≤ r) (hp : p = 2 ∨ p = 4 ∨ p = 5) : wrO r + 3 ≤ wrO p := by
  unfold wrO
  rcases hp with rfl | rfl | rfl
  · rw [if_pos (show r ≤ 1 by omega), if_neg (by decide), if_pos (by decide)]
    decide
  · rw [if_neg (show ¬ 4 ≤ 1 by decide), if_neg (show ¬ 4 ≤ 3 by decide), if_pos (show 4 ≤ 4 by decide)]
    by_cases a : r ≤ 1
    · rw [if_pos a]
      decide
    · rw [if_neg a, if_pos (show r ≤ 3 by omega)]
      decide
  · rw [if_neg (show ¬ 5 ≤ 1 by decide), if_neg (show ¬ 5 ≤ 3 by decide), if_neg (show ¬ 5 ≤ 4 by decide)]
    by_cases a : r ≤ 1
    · rw [if_pos a]
      decide
    · rw [if_neg a]
      by_cases b : r ≤ 3
      · rw [if_pos b]
        decide
      · rw [if_neg b, if_pos (show r ≤ 4 by omega)]
        decide
theorem rkO_ge (v : Int32) : 1 ≤ rkO v ∧ rkO v ≤ 5 := by
  unfold rkO
  repeat' split
  all_goals omega
/-- what waits in a frame g from b to e -/
def SF (T : Int) (ops : Nat → Int32) (g b e : Nat) (ph bg : Int32) : Prop :=
  (∀ i : Nat, b ≤ i → i < e → 3 * ((i : Int) + 1) ≤ T + 12 * (g : Int) + wrO (rkO (ops i))) ∧
  (∀ i : Nat, b ≤ i → i < e → ph = 0 → ¬ rkO (ops i) = 4) ∧
  (∀ i : Nat, b ≤ i → i + 1 < e → rkO (ops i) ≤ rkO (ops (i + 1))) ∧
  (¬ bg = 0 → ∀ i : Nat, b ≤ i → i + 1 = e → rkO (ops i) ≤ 3)
/-- the frames, one in the other -/
def SG (T : Int) (ops base phase begins : Nat → Int32) : Nat → Nat → Prop
  | 0, m => 3 * (m : Int) ≤ T
  | g + 1, m => SG T ops base phase begins g (base g).toNatClampNeg ∧ (base g).toNatClampNeg ≤ m ∧ SF T ops g (base g).toNatClampNeg m (phase g) (begins g)
section SGs
variable {T T' : Int} {ops ops' base base' phase phase' begins begins' : Nat → Int32}
theorem SF_cg {g b e : Nat} {ph bg ph' bg' : Int32} (hT : T ≤ T') (ho : ∀ i, i < e → ops' i = ops i) (hp : ph' = 0 → ph = 0) (hb : ¬ bg' = 0 → ¬ bg = 0) (h : SF T ops g b e ph bg) : SF T' ops' g b e ph' bg' := by
  obtain ⟨h1, h2, h3, h4⟩ := h
  refine ⟨fun i a l => ?_, fun i a l q => ?_, fun i a l => ?_, fun q i a l => ?_⟩
  · rw [ho i l]
    have := h1 i a l
    omega
  · rw [ho i l]
    exact h2 i a l (hp q)
  · rw [ho i (by omega), ho (i + 1) l]
    exact h3 i a l
  · rw [ho i (by omega)]
    exact h4 (hb q) i a l
theorem SG_cg (hT : T ≤ T') : ∀ (g m : Nat), (∀ i, i < m → ops' i = ops i) → (∀ j, j < g → base' j = base j) → (∀ j, j < g → phase' j = 0 → phase j = 0) → (∀ j, j < g → ¬ begins' j = 0 → ¬ begins j = 0) → SG T ops base phase begins g m → SG T' ops' base' phase' begins' g m
  | 0, m, _, _, _, _, h => by
    have : 3 * (m : Int) ≤ T := h
    show 3 * (m : Int) ≤ T'
    omega
  | g + 1, m, ho, hb, hp, hg, h => by
    obtain ⟨h1, h2, h3⟩ := h
    have e := hb g (by omega)
    refine ⟨?_, ?_, ?_⟩
    · rw [e]
      exact SG_cg hT g _ (fun i l => ho i (by omega)) (fun j l => hb j (by omega)) (fun j l => hp j (by omega)) (fun j l => hg j (by omega)) h1
    · rw [e]
      exact h2
    · rw [e]
      exact SF_cg hT ho (hp g (by omega)) (hg g (by omega)) h3
/-- so many wait at most -/
theorem SG_le : ∀ (g m : Nat), SG T ops base phase begins g m → 3 * (m : Int) ≤ T + 12 * (g : Int)
  | 0, m, h => by
    have : 3 * (m : Int) ≤ T := h
    omega
  | g + 1, m, h => by
    obtain ⟨h1, h2, h3⟩ := h
    have q := SG_le g _ h1
    by_cases l : (base g).toNatClampNeg < m
    · have z := h3.1 (m - 1) (by omega) (by omega)
      have y := wrO_le (rkO (ops (m - 1)))
      omega
    · omega
/-- what waits last goes -/
theorem SG_pop {g m : Nat} (h : SG T ops base phase begins (g + 1) (m + 1)) (hb : (base g).toNatClampNeg ≤ m) (hbg : begins g = 0) : SG T ops base phase begins (g + 1) m :=
  ⟨h.1, hb, fun i a l => h.2.2.1 i a (by omega), fun i a l => h.2.2.2.1 i a (by omega), fun i a l => h.2.2.2.2.1 i a (by omega), fun q => absurd hbg q⟩
/-- everything in the last frame ranks at most as its last -/
theorem SF_top {g b : Nat} {ph bg : Int32} : ∀ (k e : Nat), e = b + k + 1 → SF T ops g b e ph bg → ∀ i, b ≤ i → i < e → rkO (ops i) ≤ rkO (ops (e - 1))
  | 0, e, he, _, i, a, l => by
    rw [show i = e - 1 by omega]
    exact Nat.le_refl _
  | k + 1, e, he, h, i, a, l => by
    by_cases q : i = e - 1
    · rw [q]
      exact Nat.le_refl _
    · have s := h.2.2.1 (e - 2) (by omega) (by omega)
      have t : SF T ops g b (e - 1) ph 0 := ⟨fun i a l => h.1 i a (by omega), fun i a l => h.2.1 i a (by omega), fun i a l => h.2.2.1 i a (by omega), fun q => absurd rfl q⟩
      have r := SF_top k (e - 1) (by omega) t i a (by omega)
      rw [show e - 1 - 1 = e - 2 by omega] at r
      rw [show e - 2 + 1 = e - 1 by omega] at s
      exact Nat.le_trans r s
/-- one more waits: of a higher rank than the last -/
theorem SG_put {g m : Nat} {t : Int32} (hT : T ≤ T') (h : SG T ops base phase begins (g + 1) m) (ho : ∀ i, i < m → ops' i = ops i) (ht : ops' m = t) (hp : ∀ j, j < g → phase' j = 0 → phase j = 0) (hg : ∀ j, j < g → ¬ begins' j = 0 → ¬ begins j = 0)
    (k1 : ∀ i, (base g).toNatClampNeg ≤ i → i < m → i + 1 = m → wrO (rkO (ops i)) + 3 + T ≤ wrO (rkO t) + T' ∧ rkO (ops i) ≤ rkO t)
    (k2 : phase' g = 0 → ¬ rkO t = 4 ∧ (∀ i, (base g).toNatClampNeg ≤ i → i < m → ¬ rkO (ops i) = 4)) (k3 : ¬ begins' g = 0 → rkO t ≤ 3) : SG T' ops' base phase' begins' (g + 1) (m + 1) := by
  obtain ⟨h1, h2, h3⟩ := h
  refine ⟨SG_cg hT g _ (fun i l => ho i (by omega)) (fun _ _ => rfl) hp hg h1, by omega, fun i a l => ?_, fun i a l q => ?_, fun i a l => ?_, fun q i a l => ?_⟩
  · by_cases z : i < m
    · rw [ho i z]
      have := h3.1 i a z
      omega
    · have e : i = m := by omega
      rw [e, ht]
      by_cases y : (base g).toNatClampNeg < m
      · have u := h3.1 (m - 1) (by omega) (by omega)
        have v := (k1 (m - 1) (by omega) (by omega) (by omega)).1
        omega
      · have u := SG_le g _ h1
        have v := wrO_le (rkO t)
        omega
  · by_cases z : i < m
    · rw [ho i z]
      exact (k2 q).2 i a z
    · rw [show i = m by omega, ht]
      exact (k2 q).1
  · by_cases z : i + 1 < m
    · rw [ho i (by omega), ho (i + 1) z]
      exact h3.2.2.1 i a z
    · rw [ho i (by omega), show i + 1 = m by omega, ht]
      exact (k1 i a (by omega) (by omega)).2
  · rw [show i = m by omega, ht]
    exact k3 q
/-- a new frame -/
theorem SG_new {g m : Nat} (h : SG T ops base phase begins g m) (hb : ∀ j, j < g → base' j = base j) (hm : (base' g).toNatClampNeg = m) (hp : ∀ j, j < g → phase' j = 0 → phase j = 0) (hg : ∀ j, j < g → ¬ begins' j = 0 → ¬ begins j = 0) (hT : T ≤ T') : SG T' ops base' phase' begins' (g + 1) m := by
  refine ⟨?_, by omega, fun i a l => absurd l (by omega), fun i a l => absurd l (by omega), fun i a l => absurd l (by omega), fun q i a l => absurd l (by omega)⟩
  rw [hm]
  exact SG_cg hT g m (fun _ _ => rfl) hb hp hg h
/-- the phase and the beginning of the last frame may change where what waits allows it -/
theorem SG_ph {g m : Nat} (h : SG T ops base phase begins (g + 1) m) (hT : T ≤ T') (hp : ∀ j, j < g → phase' j = 0 → phase j = 0) (hg : ∀ j, j < g → ¬ begins' j = 0 → ¬ begins j = 0)
    (k2 : phase' g = 0 → ∀ i, (base g).toNatClampNeg ≤ i → i < m → ¬ rkO (ops i) = 4) (k3 : ¬ begins' g = 0 → ∀ i, (base g).toNatClampNeg ≤ i → i + 1 = m → rkO (ops i) ≤ 3) : SG T' ops base phase' begins' (g + 1) m := by
  obtain ⟨h1, h2, h3⟩ := h
  refine ⟨SG_cg hT g _ (fun _ _ => rfl) (fun _ _ => rfl) hp hg h1, h2, fun i a l => ?_, fun i a l q => k2 q i a l, h3.2.2.1, fun q i a l => k3 q i a l⟩
  have := h3.1 i a l
  omega
end SGs
