/-! the reference settles: most, cheapest, the first of the cheapest -/
def OptF (m : Nat) (A B : Nat → Nat) (C W f : Nat → Int) (v : Int) : Prop := Cap m C f ∧ Bal m A B f v ∧ ∀ (g : Nat → Int) (v2 : Int), Cap m C g → Bal m A B g v2 → v2 ≤ v ∧ (v2 = v → cost m W f ≤ cost m W g)
/-- the flow of pair k -/
def vP (pj : Nat → Option Nat) (f : Nat → Int) (k : Nat) : Int := match pj k with
  | none => 0
  | some j => f j
/-- f is no later than g, among the first n pairs -/
def LexM (n : Nat) (x y : Nat → Int) : Prop := (∀ k, k < n → x k = y k) ∨ ∃ k, k < n ∧ (∀ i, i < k → x i = y i) ∧ y k < x k
def fzk (pj : Nat → Option Nat) (k : Nat) (j : Nat) : Prop := ∃ i, i < k ∧ pj i = some j
/-- each pair's lane -/
def PrOk (m : Nat) (C : Nat → Int) (pj : Nat → Option Nat) (s : PS) : Prop := ∀ k, k < 400 → (pj k = none ∧ s 44 k = -1) ∨ ∃ j, pj k = some j ∧ j < m ∧ C j = 1 ∧ s 44 k = ((2 * j : Nat) : Int) ∧ ∀ i, i < k → ¬ pj i = some j
section SettM
variable {m n a b : Nat} {A B : Nat → Nat} {C W f g : Nat → Int} {fz fz2 : Nat → Prop} {pi : Nat → Int} {s0 s t u : PS} {r v v2 : Int} {pj : Nat → Option Nat} {k : Nat}
theorem Bal_Fl : Bal m A B f v ↔ ∀ rho, Fl m A B f rho = (rho 1 - rho 0) * v := Iff.rfl
theorem LexM.step {x y : Nat → Int} (h : LexM n x y) (hs : (∀ k, k < n → x k = y k) → y n ≤ x n) : LexM (n + 1) x y := by
  rcases h with h | ⟨k, h1, h2, h3⟩
  · have z := hs h
    by_cases c : x n = y n
    · refine Or.inl (fun k hk => ?_)
      by_cases e : k = n
      · rw [e]
        exact c
      · exact h k (by omega)
    · exact Or.inr ⟨n, by omega, h, by omega⟩
  · exact Or.inr ⟨k, by omega, h2, h3⟩
theorem LexM.cgl {x x2 y : Nat → Int} (h : LexM n x y) (e : ∀ k, k < n → x2 k = x k) : LexM n x2 y := by
  rcases h with h | ⟨k, h1, h2, h3⟩
  · exact Or.inl (fun k hk => (e k hk).trans (h k hk))
  · refine Or.inr ⟨k, h1, fun i hi => (e i (by omega)).trans (h2 i hi), ?_⟩
    rw [e k h1]
    exact h3
theorem BS_far {rm : Nat → Prop} {fr to : Nat → Nat} {pr far : Nat → Int} {by_ tt : Nat → Nat} {c : Nat} (h : BS n fr to rm pr pi a far by_ tt c) {x : Nat} (hx : x < 290) : far x = 1152921504606846976 ∨ far x ≤ 622770257920 := by
  by_cases z : far x = 1152921504606846976
  · exact Or.inl z
  · exact Or.inr (BS_ub h hx z).2
/-- what was not reached can't be reached -/
theorem cutS (hF : NF m A B C W f fz s0) (hN : NetOk (2 * m) pi s0) (hA : ∀ j, j < m → A j < 290 ∧ B j < 290) (hR : FdR (2 * m) pi a b s0 r s) : ∀ j, j < m → ¬ fz j → (f j < C j → (if s 42 (A j) = 1152921504606846976 then (1 : Int) else 0) = 0 → (if s 42 (B j) = 1152921504606846976 then (1 : Int) else 0) = 0) ∧ (0 < f j → (if s 42 (B j) = 1152921504606846976 then (1 : Int) else 0) = 0 → (if s 42 (A j) = 1152921504606846976 then (1 : Int) else 0) = 0) := by
  intro j hj hz
  obtain ⟨⟨tt, c, hBs⟩, hNR, _, _⟩ := hR
  obtain ⟨l1, l2, l3, l4, l5, l6⟩ := hF.2.2.1 j hj
  obtain ⟨w1, _, _, _, k⟩ := hF.2.2.2 j hj
  obtain ⟨k1, k2⟩ := k hz
  obtain ⟨a1, a2⟩ := hA j hj
  have ua := BS_far hBs a1
  have ub := BS_far hBs a2
  refine ⟨fun c1 c2 => ?_, fun c1 c2 => ?_⟩
  · have z := hNR (2 * j) (by omega) (show ¬ s0 40 (2 * j) = 0 by omega)
    unfold frS toS prS at z
    rw [l1, l2, l5, Int.toNat_natCast, Int.toNat_natCast] at z
    have n1 : ¬ s 42 (A j) = 1152921504606846976 := fun y => by
      rw [if_pos y] at c2
      exact absurd c2 (by decide)
    have y := z n1
    rw [if_neg (by omega)]
  · have z := hNR (2 * j + 1) (by omega) (show ¬ s0 40 (2 * j + 1) = 0 by omega)
    unfold frS toS prS at z
    rw [l3, l4, l6, Int.toNat_natCast, Int.toNat_natCast] at z
    have n1 : ¬ s 42 (B j) = 1152921504606846976 := fun y => by
      rw [if_pos y] at c2
      exact absurd c2 (by decide)
    have y := z n1
    rw [if_neg (by omega)]
theorem q01 {x : Int} : (if x = 1152921504606846976 then (1 : Int) else 0) = 0 ∨ (if x = 1152921504606846976 then (1 : Int) else 0) = 1 := by
  by_cases c : x = 1152921504606846976
  · rw [if_pos c]
    exact Or.inr rfl
  · rw [if_neg c]
    exact Or.inl rfl
theorem agr_none {f g : Nat → Int} : Agr m (fun _ => False) f g := fun _ _ h => h.elim
/-- as long as there is a way one more flows -/
theorem settle0 (hA : ∀ j, j < m → A j < 290 ∧ B j < 290) : ∀ (fu : Nat) (f : Nat → Int) (v : Int) (s : PS) (r : Int) (t : PS), It_X12_settles fu 0 0 0 s r t → NF m A B C W f (fun _ => False) s → Bal m A B f v → (∃ pi, FE (2 * m) (frS s) (toS s) (rmS s) (prS s) pi ∧ PB pi) → ∃ (fu2 : Nat) (f2 : Nat → Int) (v2 : Int) (s2 : PS), It_X12_settles fu2 20 0 0 s2 r t ∧ NF m A B C W f2 (fun _ => False) s2 ∧ OptF m A B C W f2 v2 ∧ (∃ pi, FE (2 * m) (frS s2) (toS s2) (rmS s2) (prS s2) pi ∧ PB pi) ∧ ∀ k, ¬ k = 40 → ¬ k = 42 → ¬ k = 43 → s2 k = s k
  | 0, f, v, s, r, t, h, _, _, _ => False.elim h
  | fu + 1, f, v, s, r, t, h, hF, hB, ⟨pi, hE, hP⟩ => by
    replace h := ul_X12_settles_0 h
    unfold T_X12_settles_0 at h
    obtain ⟨_, r39, s38, m38, _, _, _, h⟩ := h
    have hN := hF.net hE hP
    have fd := findsM (a := 0) (b := 1) hN (by decide) m38
    rcases h with ⟨c, h⟩ | ⟨c, s45, m45, _, _, h⟩
    · have cut := cutS hF hN hA fd
      have fd2 := fd
      obtain ⟨⟨tt, c0, hBs⟩, hNR, hk, hr⟩ := fd2
      have e1 : s38 42 1 = 1152921504606846976 := by
        rcases hr with ⟨_, z⟩ | ⟨z, _⟩
        · rcases BS_far hBs (show 1 < 290 by decide) with y | y
          · exact y
          · omega
        · omega
      have e0 : s38 42 0 = 0 := hBs.1
      have ef : frS s38 = frS s := by
        funext l
        unfold frS
        rw [hk 38 (by decide) (by decide)]
      have et : toS s38 = toS s := by
        funext l
        unfold toS
        rw [hk 39 (by decide) (by decide)]
      have em : rmS s38 = rmS s := by
        funext l
        unfold rmS
        rw [hk 40 (by decide) (by decide)]
      have ep : prS s38 = prS s := by
        funext l
        unfold prS
        rw [hk 41 (by decide) (by decide)]
      refine ⟨fu, f, v, s38, h, hF.cg (fun k hk4 => hk k (by omega) (by omega)) (by rw [hk 0 (by decide) (by decide)]), ⟨hF.cap, hB, fun g v2 hg hb2 => ⟨?_, fun e => ?_⟩⟩, ⟨pi, by rw [ef, et, em, ep]; exact hE, hP⟩, fun k _ k2 k3 => hk k k2 k3⟩
      · have z := (cut_le (q := fun x => if s38 42 x = 1152921504606846976 then (1 : Int) else 0) (fun x => q01) hF.cap hg agr_none hB hb2 cut).1
        have z2 : ((if s38 42 1 = 1152921504606846976 then (1 : Int) else 0) - (if s38 42 0 = 1152921504606846976 then (1 : Int) else 0)) * (v2 - v) ≤ 0 := z
        rw [if_pos e1, if_neg (by rw [e0]; decide)] at z2
        omega
      · rw [e] at hb2
        exact (hF.pot hE).best hF.cap hg agr_none hB hb2
    · have r1 : r39 = 1 := by
        rcases fd.2.2.2 with ⟨z, _⟩ | ⟨z, _⟩
        · exact absurd z c
        · exact z
      rw [r1] at fd
      obtain ⟨f1, g1, g2, _, g3, _, g5, g6⟩ := goesMM (a := 0) (b := 1) hF hE hP (by decide) (by decide) fd m45
      obtain ⟨⟨tt, c0, hBs⟩, hNR, hk, hr⟩ := fd
      have rb : ¬ s38 42 1 = 1152921504606846976 := by
        rcases hr with ⟨z, _⟩ | ⟨_, z⟩
        · exact absurd z (by decide)
        · omega
      have w := settle0 hA fu f1 (v + 1) s45 r t h g1 (fun rho => by
        have z := g2 rho
        have y := hB rho
        unfold Fl at z
        rw [z, y, Int.mul_add, Int.mul_one]) ⟨_, g5, PB_aug hBs hP rb⟩
      obtain ⟨fu2, f2, v2, s2, w1, w2, w3, w4, w5⟩ := w
      exact ⟨fu2, f2, v2, s2, w1, w2, w3, w4, fun k k1 k2 k3 => (w5 k k1 k2 k3).trans (g3 k k1 k2 k3)⟩
end SettM
