/-! labels of a deal by rows: what makes it best -/
/-- what is left of kind k up to slot t -/
def rStk (R : Nat) (sl : Nat → Nat) (cu : Nat → Nat → Int) (X : Nat → Nat → Int) (k t : Nat) : Int := cu k t - sgN (fun r => if sl r ≤ t then X r k else 0) R
def RowOk (R K S : Nat) (sl : Nat → Nat) (D : Nat → Int) (al : Nat → Nat → Prop) (cu : Nat → Nat → Int) (X : Nat → Nat → Int) : Prop := (∀ r k, r < R → k < K → (X r k = 0 ∨ X r k = 1) ∧ (X r k = 1 → al r k)) ∧ (∀ r, r < R → sgN (X r) K ≤ D r) ∧ ∀ k t, k < K → t < S → 0 ≤ rStk R sl cu X k t
/-- the four kinds of steps between rows and places; place S of every kind is what is left at last -/
def Lab4 (W : Nat → Nat → Prop) (R K S : Nat) (sl : Nat → Nat) (al : Nat → Nat → Prop) (pt cu X : Nat → Nat → Int) (rho : Nat → Int) (kap : Nat → Nat → Int) (lam : Int) : Prop := (∀ r k, r < R → k < K → ¬ W r k → al r k → X r k = 0 → kap k (sl r) ≤ rho r - pt r k) ∧ (∀ r k, r < R → k < K → ¬ W r k → X r k = 1 → rho r ≤ kap k (sl r) + pt r k) ∧ (∀ k t, k < K → t < S → kap k t ≤ kap k (t + 1)) ∧ (∀ k t, k < K → t < S → 0 < rStk R sl cu X k t → kap k (t + 1) ≤ kap k t) ∧ ∀ k, k < K → kap k S = lam
def LabD (R K : Nat) (D : Nat → Int) (X : Nat → Nat → Int) (rho : Nat → Int) (del : Int) : Prop := (∀ r, r < R → 0 < sgN (X r) K → del ≤ rho r) ∧ ∀ r, r < R → sgN (X r) K < D r → rho r ≤ del
section LabS
variable {W : Nat → Nat → Prop} {R K S : Nat} {sl : Nat → Nat} {D : Nat → Int} {al : Nat → Nat → Prop} {pt cu X Y : Nat → Nat → Int} {rho : Nat → Int} {kap : Nat → Nat → Int} {del lam : Int}
/-- differences summed up from a place on -/
theorem sum_tel {g : Nat → Int} {a : Nat} : ∀ n : Nat, a ≤ n → sgN (fun t => if a ≤ t then g (t + 1) - g t else 0) n = g n - g a
  | 0, h => by
    have e : a = 0 := by omega
    rw [e]
    show (0 : Int) = g 0 - g 0
    omega
  | n + 1, h => by
    show sgN (fun t => if a ≤ t then g (t + 1) - g t else 0) n + (if a ≤ n then g (n + 1) - g n else 0) = g (n + 1) - g a
    by_cases c : a ≤ n
    · rw [sum_tel n c, if_pos c]
      omega
    · have e : a = n + 1 := by omega
      rw [if_neg c, sgN_0 n (fun i hi => if_neg (by omega)), e]
      omega
theorem if_mul0 {p : Prop} [Decidable p] (a b : Int) : (if p then a else 0) * b = a * (if p then b else 0) := by
  by_cases h : p
  · rw [if_pos h, if_pos h]
  · rw [if_neg h, if_neg h, Int.zero_mul, Int.mul_zero]
/-- a kind's labels against a change: summed by slots -/
theorem kap_abel {g : Nat → Int} {d : Nat → Int} (hs : ∀ r, r < R → sl r ≤ S) : sgN (fun r => g (sl r) * d r) R = g S * sgN d R - sgN (fun t => (g (t + 1) - g t) * sgN (fun r => if sl r ≤ t then d r else 0) R) S := by
  have e1 : ∀ r, r < R → g (sl r) * d r = g S * d r - sgN (fun t => (g (t + 1) - g t) * (if sl r ≤ t then d r else 0)) S := by
    intro r hr
    have z := sum_tel (g := g) S (hs r hr)
    have y : sgN (fun t => (g (t + 1) - g t) * (if sl r ≤ t then d r else 0)) S = (g S - g (sl r)) * d r := by
      rw [← z, ← sgN_mulr]
      exact sgN_cg S (fun t _ => (if_mul0 _ _).symm)
    rw [y, Int.sub_mul]
    omega
  rw [sgN_cg R e1, sgN_sub, sgN_mul]
  congr 1
  rw [sgN_sw (f := fun r t => (g (t + 1) - g t) * (if sl r ≤ t then d r else 0)) R S]
  exact sgN_cg S (fun t _ => sgN_mul R)
theorem rStk_df {k t : Nat} : rStk R sl cu Y k t - rStk R sl cu X k t = - sgN (fun r => if sl r ≤ t then Y r k - X r k else 0) R := by
  have e : sgN (fun r => if sl r ≤ t then Y r k - X r k else 0) R = sgN (fun r => if sl r ≤ t then Y r k else 0) R - sgN (fun r => if sl r ≤ t then X r k else 0) R := by
    rw [← sgN_sub]
    refine sgN_cg R (fun r _ => ?_)
    by_cases c : sl r ≤ t
    · rw [if_pos c, if_pos c, if_pos c]
    · rw [if_neg c, if_neg c, if_neg c]
      rfl
  unfold rStk
  rw [e]
  omega
/-- how much dearer each change is than its labels say -/
def slk (sl : Nat → Nat) (pt X Y : Nat → Nat → Int) (rho : Nat → Int) (kap : Nat → Nat → Int) (r k : Nat) : Int := (rho r - kap k (sl r) - pt r k) * (Y r k - X r k)
theorem slk_nn (hL : Lab4 W R K S sl al pt cu X rho kap lam) (hX : RowOk R K S sl D al cu X) (hY : RowOk R K S sl D al cu Y) (hW : ∀ r k, r < R → k < K → W r k → Y r k = X r k) {r k : Nat} (hr : r < R) (hk : k < K) : 0 ≤ slk sl pt X Y rho kap r k := by
  unfold slk
  obtain ⟨x1, x2⟩ := hX.1 r k hr hk
  obtain ⟨y1, y2⟩ := hY.1 r k hr hk
  by_cases e : Y r k = X r k
  · rw [e, Int.sub_self, Int.mul_zero]
    exact Int.le_refl 0
  · have w : ¬ W r k := fun q => e (hW r k hr hk q)
    rcases x1 with x1 | x1
    · have y3 : Y r k = 1 := by omega
      have z := hL.1 r k hr hk w (y2 y3) x1
      rw [x1, y3]
      omega
    · have y3 : Y r k = 0 := by omega
      have z := hL.2.1 r k hr hk w x1
      rw [x1, y3]
      omega
theorem lab_opt (hs : ∀ r, r < R → sl r < S) (hL : Lab4 W R K S sl al pt cu X rho kap lam) (hD : LabD R K D X rho del) (hX : RowOk R K S sl D al cu X) (hY : RowOk R K S sl D al cu Y) : dPts R K pt Y - dPts R K pt X + sgN (fun r => sgN (fun k => slk sl pt X Y rho kap r k) K) R ≤ (del - lam) * (dSize R K Y - dSize R K X) := by
  have e1 : dPts R K pt Y - dPts R K pt X + sgN (fun r => sgN (fun k => slk sl pt X Y rho kap r k) K) R = sgN (fun r => sgN (fun k => (rho r - kap k (sl r)) * (Y r k - X r k)) K) R := by
    unfold dPts
    rw [← sgN_sub, ← sgN_add]
    refine sgN_cg R (fun r _ => ?_)
    show sgN (fun i => pt r i * Y r i) K - sgN (fun i => pt r i * X r i) K + sgN (fun k => slk sl pt X Y rho kap r k) K = _
    rw [← sgN_sub, ← sgN_add]
    refine sgN_cg K (fun k _ => ?_)
    show pt r k * Y r k - pt r k * X r k + (rho r - kap k (sl r) - pt r k) * (Y r k - X r k) = _
    rw [← Int.mul_sub, ← Int.add_mul]
    congr 1
    omega
  have e2 : sgN (fun r => sgN (fun k => (rho r - kap k (sl r)) * (Y r k - X r k)) K) R = sgN (fun r => rho r * (sgN (Y r) K - sgN (X r) K)) R - sgN (fun k => sgN (fun r => kap k (sl r) * (Y r k - X r k)) R) K := by
    rw [← sgN_sw (f := fun r k => kap k (sl r) * (Y r k - X r k)) R K, ← sgN_sub]
    refine sgN_cg R (fun r _ => ?_)
    show _ = rho r * (sgN (Y r) K - sgN (X r) K) - sgN (fun k => kap k (sl r) * (Y r k - X r k)) K
    rw [← sgN_sub (f := Y r) (g := X r), ← sgN_mul, ← sgN_sub]
    exact sgN_cg K (fun k _ => Int.sub_mul _ _ _)
  have e3 : dSize R K Y - dSize R K X = sgN (fun r => sgN (Y r) K - sgN (X r) K) R := by
    unfold dSize
    rw [← sgN_sub]
  have e4 : dSize R K Y - dSize R K X = sgN (fun k => sgN (fun r => Y r k - X r k) R) K := by
    rw [e3, ← sgN_sw (f := fun r k => Y r k - X r k) R K]
    exact sgN_cg R (fun r _ => (sgN_sub K).symm)
  have b1 : sgN (fun r => rho r * (sgN (Y r) K - sgN (X r) K)) R ≤ del * (dSize R K Y - dSize R K X) := by
    rw [e3, ← sgN_mul]
    refine sgN_le R (fun r hr => ?_)
    show rho r * (sgN (Y r) K - sgN (X r) K) ≤ del * (sgN (Y r) K - sgN (X r) K)
    have d1 := hD.1 r hr
    have d2 := hD.2 r hr
    have y1 := hY.2.1 r hr
    have yn : 0 ≤ sgN (Y r) K := sgN_nn K (fun k hk => by
      have z := (hY.1 r k hr hk).1
      omega)
    generalize sgN (Y r) K = a at *
    generalize sgN (X r) K = c at *
    rcases Int.lt_trichotomy a c with q | q | q
    · have z := d1 (by omega)
      have z2 : 0 ≤ (rho r - del) * (c - a) := Int.mul_nonneg (by omega) (by omega)
      have z3 : (rho r - del) * (c - a) = del * (a - c) - rho r * (a - c) := by
        rw [← Int.sub_mul, ← Int.neg_mul_neg]
        congr 1 <;> omega
      omega
    · rw [q, Int.sub_self, Int.mul_zero, Int.mul_zero]
      exact Int.le_refl 0
    · have z := d2 (by omega)
      have z2 : 0 ≤ (del - rho r) * (a - c) := Int.mul_nonneg (by omega) (by omega)
      rw [Int.sub_mul] at z2
      omega
  have b2 : lam * (dSize R K Y - dSize R K X) ≤ sgN (fun k => sgN (fun r => kap k (sl r) * (Y r k - X r k)) R) K := by
    rw [e4, ← sgN_mul]
    refine sgN_le K (fun k hk => ?_)
    show lam * sgN (fun r => Y r k - X r k) R ≤ sgN (fun r => kap k (sl r) * (Y r k - X r k)) R
    rw [kap_abel (g := kap k) (S := S) (fun r hr => Nat.le_of_lt (hs r hr)), hL.2.2.2.2 k hk]
    have z : sgN (fun t => (kap k (t + 1) - kap k t) * sgN (fun r => if sl r ≤ t then Y r k - X r k else 0) R) S ≤ 0 := by
      refine sgN_np S (fun t ht => ?_)
      have a2 := hL.2.2.1 k t hk ht
      have a3 := hL.2.2.2.1 k t hk ht
      have x0 := hX.2.2 k t hk ht
      have y0 := hY.2.2 k t hk ht
      have df := rStk_df (R := R) (sl := sl) (cu := cu) (X := X) (Y := Y) (k := k) (t := t)
      generalize sgN (fun r => if sl r ≤ t then Y r k - X r k else 0) R = v at *
      by_cases c : 0 < rStk R sl cu X k t
      · have e : kap k (t + 1) - kap k t = 0 := by
          have := a3 c
          omega
        rw [e, Int.zero_mul]
        exact Int.le_refl 0
      · have hv : v ≤ 0 := by omega
        have z2 : 0 ≤ (kap k (t + 1) - kap k t) * (- v) := Int.mul_nonneg (by omega) (by omega)
        rw [Int.mul_neg] at z2
        omega
    omega
  rw [e1, e2, Int.sub_mul]
  omega
/-- none that agrees with it where W says so is better -/
theorem lab_best (hs : ∀ r, r < R → sl r < S) (hL : Lab4 W R K S sl al pt cu X rho kap lam) (hD : LabD R K D X rho del) (hX : RowOk R K S sl D al cu X) (hY : RowOk R K S sl D al cu Y) (hW : ∀ r k, r < R → k < K → W r k → Y r k = X r k) : dPts R K pt Y - dPts R K pt X ≤ (del - lam) * (dSize R K Y - dSize R K X) := by
  have z := lab_opt hs hL hD hX hY
  have y := sgN_nn R (f := fun r => sgN (fun k => slk sl pt X Y rho kap r k) K) (fun r hr => sgN_nn K (fun k hk => slk_nn hL hX hY hW hr hk))
  omega
/-- one that takes what is dearer than its label is worse -/
theorem lab_less (hs : ∀ r, r < R → sl r < S) (hL : Lab4 W R K S sl al pt cu X rho kap lam) (hD : LabD R K D X rho del) (hX : RowOk R K S sl D al cu X) (hY : RowOk R K S sl D al cu Y) (hW : ∀ r k, r < R → k < K → W r k → Y r k = X r k) {r0 k0 : Nat} (hr : r0 < R) (hk : k0 < K) (x0 : X r0 k0 = 0) (y1 : Y r0 k0 = 1) (hlt : kap k0 (sl r0) < rho r0 - pt r0 k0) : dPts R K pt Y - dPts R K pt X < (del - lam) * (dSize R K Y - dSize R K X) := by
  have z := lab_opt hs hL hD hX hY
  have p : 0 < slk sl pt X Y rho kap r0 k0 := by
    unfold slk
    rw [x0, y1]
    omega
  have p2 : 0 < sgN (fun k => slk sl pt X Y rho kap r0 k) K := sgN_gt hk (fun k hk2 => slk_nn hL hX hY hW hr hk2) p
  have y := sgN_gt (f := fun r => sgN (fun k => slk sl pt X Y rho kap r k) K) hr (fun r hr2 => sgN_nn K (fun k hk2 => slk_nn hL hX hY hW hr2 hk2)) p2
  omega
/-- a change by steps that cost nothing keeps the labels -/
theorem Lab4.ch {X' : Nat → Nat → Int} (hL : Lab4 W R K S sl al pt cu X rho kap lam) (h1 : ∀ r k, r < R → k < K → X' r k = X r k ∨ kap k (sl r) = rho r - pt r k) (h2 : ∀ k t, k < K → t < S → rStk R sl cu X' k t ≤ rStk R sl cu X k t ∨ kap k t = kap k (t + 1)) : Lab4 W R K S sl al pt cu X' rho kap lam := by
  obtain ⟨a1, a2, a3, a4, a5⟩ := hL
  refine ⟨fun r k hr hk hw ha hx => ?_, fun r k hr hk hw hx => ?_, a3, fun k t hk ht hp => ?_, a5⟩
  · rcases h1 r k hr hk with e | e
    · exact a1 r k hr hk hw ha (by omega)
    · omega
  · rcases h1 r k hr hk with e | e
    · exact a2 r k hr hk hw (by omega)
    · omega
  · rcases h2 k t hk ht with e | e
    · exact a4 k t hk ht (by omega)
    · omega
end LabS
