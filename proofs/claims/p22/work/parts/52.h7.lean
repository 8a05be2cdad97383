/-! the ranker: what was sought in vain none of the best deals has -/
section Cln
variable {R K S k0 g : Nat} {sl fr : Nat → Nat} {D : Nat → Int} {al : Nat → Nat → Prop} {pt cu X Y : Nat → Nat → Int} {W : Nat → Nat → Prop} {s t u : PS}
/-- labels one lower on what was seen -/
def sRho (s : PS) (r : Nat) : Int := if s 83 r = s 81 4 then s 75 r - 1 else s 75 r
def sLam (s : PS) : Int := if s 81 15 = 1 then s 74 6 - 1 else s 74 6
def sDel (s : PS) : Int := if s 81 14 = 1 then s 74 5 - 1 else s 74 5
def sKap (S : Nat) (s : PS) (k u : Nat) : Int := if u < S then (if s 85 (24 * k + u) = s 81 4 then s 77 (24 * k + u) - 1 else s 77 (24 * k + u)) else sLam s
theorem kcX_u {k u : Nat} (h : u < S) : kcX S s k u = s 77 (24 * k + u) := if_pos h
theorem kcX_S {k : Nat} : kcX S s k S = s 74 6 := if_neg (Nat.lt_irrefl S)
theorem cl_lab (hF : FlS R K S sl fr D al pt cu X s) (hL : Lab4 (fun _ _ => False) R K S sl al pt cu X (s 75) (kcX S s) (s 74 6)) (hC : ClS R K S sl D al pt cu X g s) (hWf : ∀ r k, r < R → k < K → ¬ W r k → ¬ (r = g ∧ k = k0) → tb (s 82 r) k = false) (hX0 : X g k0 = 0) : Lab4 W R K S sl al pt cu X (sRho s) (sKap S s) (sLam s) := by
  obtain ⟨hs, ⟨hR, hK, hS24⟩, hpt, hX01⟩ := hF.st
  obtain ⟨⟨⟨iL, iR, iP, i12, i13, ⟨i14, i15⟩, iC⟩, ⟨H, h10, h11, hArc⟩, hdu, hle⟩, hend, he12, he13, hng⟩ := hC
  obtain ⟨l1, l2, l3, l4, l5⟩ := hL
  have ku : ∀ k u, u < S → sKap S s k u = if s 85 (24 * k + u) = s 81 4 then s 77 (24 * k + u) - 1 else s 77 (24 * k + u) := fun k u h => if_pos h
  have kS : ∀ k, sKap S s k S = sLam s := fun k => if_neg (Nat.lt_irrefl S)
  refine ⟨fun r k a b w ha hx => ?_, fun r k a b w hx => ?_, fun k u a b => ?_, fun k u a b hp => ?_, fun k _ => kS k⟩
  · have z := l1 r k a b (fun q => q) ha hx
    rw [kcX_u (hs r a)] at z
    rw [ku k (sl r) (hs r a)]
    unfold sRho
    by_cases c : s 83 r = s 81 4
    · rw [if_pos c]
      by_cases c2 : s 85 (24 * k + sl r) = s 81 4
      · rw [if_pos c2]
        omega
      · rw [if_neg c2]
        have ne : ¬ s 77 (24 * k + sl r) = s 75 r - pt r k := fun e => by
          have nrg : ¬ (r = g ∧ k = k0) := fun q => hng (by rw [← q.1]; exact c)
          obtain ⟨i, q1, q2⟩ := iL.ix a c
          exact c2 (hArc i r (by omega) q2 k (Nat.zero_le _) b ha hx (hWf r k a b w nrg) e)
        omega
    · rw [if_neg c]
      by_cases c2 : s 85 (24 * k + sl r) = s 81 4
      · rw [if_pos c2]
        omega
      · rw [if_neg c2]
        exact z
  · have z := l2 r k a b (fun q => q) hx
    rw [kcX_u (hs r a)] at z
    rw [ku k (sl r) (hs r a)]
    unfold sRho
    by_cases c2 : s 85 (24 * k + sl r) = s 81 4
    · rw [if_pos c2]
      by_cases c : s 83 r = s 81 4
      · rw [if_pos c]
        omega
      · rw [if_neg c]
        have nrg : ¬ (r = g ∧ k = k0) := fun q => by
          rw [q.1, q.2] at hx
          omega
        have ne : ¬ s 75 r = s 77 (24 * k + sl r) + pt r k := fun e => c ((iP k (sl r) b (hs r a) c2).2.1 r a rfl hx (hWf r k a b w nrg) e)
        omega
    · rw [if_neg c2]
      by_cases c : s 83 r = s 81 4
      · rw [if_pos c]
        omega
      · rw [if_neg c]
        exact z
  · have z := l3 k u a b
    rw [kcX_u b] at z
    rw [ku k u b]
    by_cases y : u + 1 < S
    · rw [kcX_u y] at z
      rw [ku k (u + 1) y]
      by_cases c : s 85 (24 * k + (u + 1)) = s 81 4
      · rw [if_pos c]
        by_cases c2 : s 85 (24 * k + u) = s 81 4
        · rw [if_pos c2]
          omega
        · rw [if_neg c2]
          have ne : ¬ s 77 (24 * k + u) = s 77 (24 * k + (u + 1)) := fun e => c2 ((iP k (u + 1) a y c).2.2.1 (Nat.succ_pos u) e)
          omega
      · rw [if_neg c]
        by_cases c2 : s 85 (24 * k + u) = s 81 4
        · rw [if_pos c2]
          omega
        · rw [if_neg c2]
          exact z
    · have e : u + 1 = S := by omega
      have e2 : u = S - 1 := by omega
      rw [e, kcX_S] at z
      rw [e, kS]
      unfold sLam
      by_cases c : s 81 15 = 1
      · rw [if_pos c]
        by_cases c2 : s 85 (24 * k + u) = s 81 4
        · rw [if_pos c2]
          omega
        · rw [if_neg c2]
          have ne : ¬ s 77 (24 * k + u) = s 74 6 := fun q => by
            rcases hle with y2 | ⟨_, y2⟩
            · omega
            · rw [e2] at q c2
              exact c2 (y2 k a q)
          omega
      · rw [if_neg c]
        by_cases c2 : s 85 (24 * k + u) = s 81 4
        · rw [if_pos c2]
          omega
        · rw [if_neg c2]
          exact z
  · have z := l4 k u a b hp
    rw [kcX_u b] at z
    rw [ku k u b]
    by_cases y : u + 1 < S
    · rw [kcX_u y] at z
      rw [ku k (u + 1) y]
      by_cases c2 : s 85 (24 * k + u) = s 81 4
      · rw [if_pos c2]
        by_cases c : s 85 (24 * k + (u + 1)) = s 81 4
        · rw [if_pos c]
          omega
        · rw [if_neg c]
          have ne : ¬ s 77 (24 * k + (u + 1)) = s 77 (24 * k + u) := fun e => c ((iP k u a b c2).2.2.2.1 y hp e)
          omega
      · rw [if_neg c2]
        by_cases c : s 85 (24 * k + (u + 1)) = s 81 4
        · rw [if_pos c]
          omega
        · rw [if_neg c]
          exact z
    · have e : u + 1 = S := by omega
      rw [e, kcX_S] at z
      rw [e, kS]
      unfold sLam
      by_cases c2 : s 85 (24 * k + u) = s 81 4
      · rw [if_pos c2]
        by_cases c : s 81 15 = 1
        · rw [if_pos c]
          omega
        · rw [if_neg c]
          have ne : ¬ s 77 (24 * k + u) = s 74 6 := fun q => by
            have w := (iP k u a b c2).2.2.2.2 e hp q
            rcases he13 with y2 | y2
            · exact w y2
            · exact c y2
          omega
      · rw [if_neg c2]
        by_cases c : s 81 15 = 1
        · rw [if_pos c]
          omega
        · rw [if_neg c]
          exact z
theorem cl_due (hD : LabD R K D X (s 75) (s 74 5)) (hC : ClS R K S sl D al pt cu X g s) : LabD R K D X (sRho s) (sDel s) := by
  obtain ⟨⟨⟨iL, iR, iP, i12, i13, ⟨i14, i15⟩, iC⟩, ⟨H, h10, h11, hArc⟩, hdu, hle⟩, hend, he12, he13, hng⟩ := hC
  refine ⟨fun r a q => ?_, fun r a q => ?_⟩
  · have z := hD.1 r a q
    unfold sRho sDel
    by_cases c : s 83 r = s 81 4
    · rw [if_pos c]
      by_cases c2 : s 81 14 = 1
      · rw [if_pos c2]
        omega
      · rw [if_neg c2]
        have ne : ¬ s 75 r = s 74 5 := fun e => by
          have w := iC r a c q e
          rcases he12 with y | y
          · exact w y
          · exact c2 y
        omega
    · rw [if_neg c]
      by_cases c2 : s 81 14 = 1
      · rw [if_pos c2]
        omega
      · rw [if_neg c2]
        exact z
  · have z := hD.2 r a q
    unfold sRho sDel
    by_cases c2 : s 81 14 = 1
    · rw [if_pos c2]
      by_cases c : s 83 r = s 81 4
      · rw [if_pos c]
        omega
      · rw [if_neg c]
        have ne : ¬ s 75 r = s 74 5 := fun e => by
          rcases hdu with y | ⟨_, y⟩
          · omega
          · exact c (y r a q e)
        omega
    · rw [if_neg c2]
      by_cases c : s 83 r = s 81 4
      · rw [if_pos c]
        omega
      · rw [if_neg c]
        exact z
/-- no deal as good that agrees so far takes the pair -/
theorem cl_no (hF : FlS R K S sl fr D al pt cu X s) (hL : Lab4 (fun _ _ => False) R K S sl al pt cu X (s 75) (kcX S s) (s 74 6)) (hD : LabD R K D X (s 75) (s 74 5)) (hX : RowOk R K S sl D al cu X) (hY : RowOk R K S sl D al cu Y) (hC : ClS R K S sl D al pt cu X g s) (hgR : g < R) (hk0 : k0 < K) (hWf : ∀ r k, r < R → k < K → ¬ W r k → ¬ (r = g ∧ k = k0) → tb (s 82 r) k = false) (hWY : ∀ r k, r < R → k < K → W r k → Y r k = X r k) (hX0 : X g k0 = 0) (hseen : Ws s k0 (sl g)) (hsz : dSize R K Y = dSize R K X) (hps : dPts R K pt Y = dPts R K pt X) : Y g k0 = 0 := by
  rcases (hY.1 g k0 hgR hk0).1 with y | y
  · exact y
  · have hs := hF.st.1
    have al1 := (hY.1 g k0 hgR hk0).2 y
    have z1 := hL.1 g k0 hgR hk0 (fun q => q) al1 hX0
    rw [kcX_u (hs g hgR)] at z1
    have ng := hC.2.2.2.2
    have lt : sKap S s k0 (sl g) < sRho s g - pt g k0 := by
      unfold sKap sRho
      rw [if_pos (hs g hgR), if_pos (show s 85 (24 * k0 + sl g) = s 81 4 from hseen), if_neg (show ¬ s 83 g = s 81 4 from ng)]
      omega
    have main := lab_less hs (cl_lab (W := W) hF hL hC hWf hX0) (cl_due hD hC) hX hY hWY hgR hk0 hX0 y lt
    rw [hsz, Int.sub_self, Int.mul_zero] at main
    omega
/-- nor one that is dearer than its label -/
theorem nt_no (hF : FlS R K S sl fr D al pt cu X s) (hL : Lab4 (fun _ _ => False) R K S sl al pt cu X (s 75) (kcX S s) (s 74 6)) (hD : LabD R K D X (s 75) (s 74 5)) (hX : RowOk R K S sl D al cu X) (hY : RowOk R K S sl D al cu Y) (hgR : g < R) (hk0 : k0 < K) (hX0 : X g k0 = 0) (hn : ¬ s 77 (24 * k0 + sl g) = s 75 g - pt g k0) (hsz : dSize R K Y = dSize R K X) (hps : dPts R K pt Y = dPts R K pt X) : Y g k0 = 0 := by
  rcases (hY.1 g k0 hgR hk0).1 with y | y
  · exact y
  · have hs := hF.st.1
    have al1 := (hY.1 g k0 hgR hk0).2 y
    have z1 := hL.1 g k0 hgR hk0 (fun q => q) al1 hX0
    rw [kcX_u (hs g hgR)] at z1
    have main := lab_less hs hL hD hX hY (fun _ _ _ _ q => q.elim) hgR hk0 hX0 y (by rw [kcX_u (hs g hgR)]; omega)
    rw [hsz, Int.sub_self, Int.mul_zero] at main
    omega
end Cln
