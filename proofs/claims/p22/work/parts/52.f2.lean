/-! the filler: one more gift for a row, or none -/
section Srv
variable {R K S : Nat} {sl fr : Nat → Nat} {D D1 : Nat → Int} {al : Nat → Nat → Prop} {pt cu X Y : Nat → Nat → Int} {root : Nat} {rho : Nat → Int} {kap : Nat → Nat → Int} {del lam : Int} {Qr : Nat → Prop} {Qk : Nat → Nat → Prop} {h : Nat → List (Nat × Int)} {hk : Nat → Nat → List (Nat × Int)} {s t v : PS} {rr : Int}
theorem FlS.st (hF : FlS R K S sl fr D al pt cu X s) : (∀ r, r < R → sl r < S) ∧ (R ≤ 40 ∧ K ≤ 10 ∧ S ≤ 24) ∧ (∀ r k, r < R → k < K → -2147483648 ≤ pt r k ∧ pt r k ≤ 2147483648) ∧ ∀ r k, r < R → k < K → X r k = 0 ∨ X r k = 1 :=
  ⟨fun r hr => (hF.2.2.1 r hr).2.1, hF.2.1, fun r k a b => (hF.2.2.2.1 r k a b).2.2.2.1, fun r k a b => (hF.2.2.2.1 r k a b).2.2.2.2⟩
/-- a row that is reached from the root has its labels near -/
theorem FinS.len (hR : R ≤ 40) (hF : FinS R K S sl al pt cu X root (ndP rho del lam) kap h hk v) {r : Nat} (hr : r < R) (hlt : v 75 r < FARz) : (h r).length ≤ 42 ∧ 1 ≤ (h r).length := by
  obtain ⟨⟨tl, e⟩, hh, _⟩ := hF.1.2.1 r hr hlt
  refine ⟨hh.len, ?_⟩
  rw [e, List.length_cons]
  omega
/-- the deal's cells are not touched by the labels -/
theorem serves_l (hF : FlS R K S sl fr D al pt cu X v) (hX : RowOk R K S sl D1 al cu X) (hL : Lab4 (fun _ _ => False) R K S sl al pt cu X rho kap lam) (hD : LabD R K D1 X rho del) (hQ : ClQ R K S sl al cu X Qr Qk) (hQ6 : ∀ r, r < R → sgN (X r) K < D1 r → Qr r) (hroot : root < R) (hu : sgN (X root) K = D1 root) (hN : FinS R K S sl al pt cu X root (ndP rho del lam) kap h hk v) {k : Nat} (hkK : k < K) (hstk : 0 < rStk R sl cu X k (S - 1)) (hlt : v 77 (24 * k + (S - 1)) < FARz) (hmin : ∀ k2, k2 < K → 0 < rStk R sl cu X k2 (S - 1) → v 77 (24 * k + (S - 1)) ≤ v 77 (24 * k2 + (S - 1))) {u : PS} {r1 r2 : Int} (mt : M_X3_take v (v 78 (24 * k + (S - 1))) (k : Int) r1 u) (mc : M_X2_change u (root : Int) (v 78 (24 * k + (S - 1))) r2 t) : ∃ Y, FlS R K S sl fr D al pt cu Y t ∧ CertF R K S sl al pt cu (upD D1 root (D1 root + 1)) Y ∧ sgN (Y root) K = D1 root + 1 ∧ ∀ x, ¬ x = 70 → ¬ x = 71 → ¬ x = 73 → t x = v x := by
  obtain ⟨hs, ⟨hR, hK, hS⟩, hpt, hX01⟩ := hF.st
  have sroot := hs root hroot
  have eS : S - 1 + 1 = S := by omega
  obtain ⟨b, hT, hhk, hb⟩ := hN.pl hs hR hpt hkK (by omega) hlt
  obtain ⟨t1, t2, t3, t4, t5, t6, t7, t8⟩ := id hT
  rw [t1] at mt mc
  have top : kap k (S - 1) = lam := by
    have z1 := hL.2.2.1 k (S - 1) hkK (by omega)
    have z2 := hL.2.2.2.1 k (S - 1) hkK (by omega) hstk
    have z3 := hL.2.2.2.2 k hkK
    rw [eS] at z1 z2
    omega
  have pk := hN.rp hR hroot hkK (by omega) hlt
  have rk := fun r (hr : r < R) (q : v 75 r < FARz) => (hN.rt hR hroot hr q).1
  -- by how much the labels rise
  generalize hM : v 77 (24 * k + (S - 1)) + rho root - lam = M
  have M0 : 0 ≤ M := by omega
  generalize hC : (if del ≤ rho root then 0 else del - rho root) = C
  have C0 : 0 ≤ C ∧ del - C ≤ rho root := by
    rw [← hC]
    split <;> omega
  have nr : ∀ r, r < R → rho r ≤ nRho R rho root M v r := fun r hr => by
    unfold nRho
    by_cases q : v 75 r < FARz ∧ r < R
    · have z := rk r hr q.1
      rw [if_pos q]
      omega
    · rw [if_neg q]
      omega
  have nk : ∀ k u, k < K → u < S → kap k u ≤ nKap S rho kap root M v k u := fun k u a b => by
    unfold nKap
    by_cases q : v 77 (24 * k + u) < FARz ∧ u < S
    · have z := hN.rp hR hroot a b q.1
      rw [if_pos q]
      omega
    · rw [if_neg q]
      omega
  have hNew := lab_new (M := M) hs hR hpt hL hN (fun k2 a p q => by
    have z := hmin k2 a p
    omega)
  have hMix := lab_mix hs C0.1 M0 hL hNew nr nk hQ
  have nq : ¬ Qk k (S - 1) := fun q => by
    have z := hQ.2.2.2.2 k hkK q
    omega
  obtain ⟨lab, nb⟩ := tkr_lab (M := M) (root := root) (C := C) hs hL hkK (by omega) hlt hT (by omega) hQ nq
  have gb : GdR Qr rho root M v b := ⟨t3, by omega, nb⟩
  obtain ⟨lsb, nsb⟩ := lab (sl b) (hs b t2) (by unfold btw; omega)
  have ksb := (t8 (sl b) (hs b t2) (by unfold btw; omega)).1
  obtain ⟨F1, k1⟩ := takeF hF t2 hkK t5 mt
  have sb := hs b t2
  have lb := hN.len hR t2 t3
  obtain ⟨fu, mc⟩ := mc
  unfold T_X2_change_e at mc
  obtain ⟨_, _, _, mc⟩ := mc
  have C1 : ChI R K S sl fr D al pt cu X (mRho Qr C R rho root M v) (mKap Qk C S rho kap root M v) Qr Qk (GdR Qr rho root M v) h v 40 (upX X b k 1) b u := by
    refine ⟨F1, k1, fun a k2 q1 q2 => ?_, fun k2 x q1 q2 => Or.inl ?_, fun k2 x q1 q2 => ?_, fun a q1 => ?_, fun a k2 q1 q2 q3 => ?_, fun k2 q1 q2 => ?_, fun k2 x q1 q2 q3 => ?_, fun a k2 q1 q2 q3 => ?_, t2, gb⟩
    · by_cases y : a = b ∧ k2 = k
      · refine Or.inr ?_
        rw [y.1, y.2, lsb, gb.nr t2]
        exact ⟨by omega, nb, nsb, t3, by rw [ksb]; exact hlt⟩
      · exact Or.inl (upX_ne y)
    · rw [rStk_up t2, t5]
      by_cases y : k2 = k ∧ sl b ≤ x
      · rw [if_pos y]
        omega
      · rw [if_neg y]
        omega
    · rw [rStk_up t2, t5]
      have z := hX.2.2 k2 x q1 q2
      by_cases y : k2 = k ∧ sl b ≤ x
      · rw [if_pos y]
        rw [y.1]
        by_cases y2 : x < S - 1
        · have w := t7 x y.2 y2
          omega
        · have e : x = S - 1 := by omega
          rw [e]
          omega
      · rw [if_neg y]
        omega
    · rw [upX_sum hkK, t5, if_neg (show ¬ a = 40 by omega)]
      by_cases y : a = b
      · rw [if_pos y, if_pos y, y]
        omega
      · rw [if_neg y, if_neg y]
        omega
    · exact upX_ne (fun y => by rw [y.1] at q3; omega)
    · by_cases y : k2 = k
      · rw [y, upX_at]
      · rw [upX_ne (fun z => y z.2)]
        exact q2
    · rw [rStk_up t2, t5] at q3
      by_cases y : k2 = k ∧ sl b ≤ x
      · refine ⟨b, ?_, Nat.le_refl _⟩
        rw [y.1]
        exact (t8 (x + 1) q2 (by unfold btw; omega)).2
      · rw [if_neg y] at q3
        omega
    · by_cases y : a = b ∧ k2 = k
      · rw [y.1, y.2]
        exact t4
      · rw [upX_ne y] at q3
        exact (hX.1 a k2 q1 q2).2 q3
  obtain ⟨Y2, c1, c2, c3, c4, c5, c6, c7, c8, c9, c10, c11, c12⟩ := changeL hs hR hpt hK hS hroot hX01 hL hN hQ fu 0 b _ _ u r2 t mc C1 (by omega)
  have Y01 := (FlS.st c1).2.2.2
  have hs40 : ∀ a, a < R → sgN (Y2 a) K = sgN (X a) K + (if a = root then 1 else 0) := fun a ha => by
    have z := c6 a ha
    rw [if_neg (show ¬ a = 40 by omega)] at z
    omega
  have stl : ∀ a, a < R → sgN (Y2 a) K < upD D1 root (D1 root + 1) a → sgN (X a) K < D1 a := fun a ha q => by
    rw [hs40 a ha] at q
    unfold upD at q
    by_cases y : a = root
    · rw [if_pos y, if_pos y, y] at q
      omega
    · rw [if_neg y, if_neg y] at q
      omega
  refine ⟨Y2, c1, ⟨⟨fun a k2 q1 q2 => ⟨Y01 a k2 q1 q2, c10 a k2 q1 q2⟩, fun a q1 => ?_, c5⟩, mRho Qr C R rho root M v, mKap Qk C S rho kap root M v, del - C, lam + M, Qr, Qk, hMix.ch (fun a k2 q1 q2 => (c3 a k2 q1 q2).imp id (fun z => z.1)) (fun k2 x q1 q2 => (c4 k2 x q1 q2).imp id (fun z => z.1)), ⟨fun a q1 q2 => ?_, fun a q1 q2 => ?_⟩, ⟨fun a k2 q1 q2 q3 q4 q5 => ?_, hQ.2.1, fun k2 x q1 q2 q3 q4 => ?_, fun a k2 q1 q2 q3 q4 => ?_, fun k2 q1 q2 => ?_⟩, fun a q1 q2 => hQ6 a q1 (stl a q1 q2)⟩, ?_, c2⟩
  · rw [hs40 a q1]
    have z := hX.2.1 a q1
    unfold upD
    by_cases y : a = root
    · rw [if_pos y, if_pos y, y]
      omega
    · rw [if_neg y, if_neg y]
      omega
  · by_cases y : a = root
    · have z := c12.nr (C := C) hroot
      have z2 := (hN.rt hR hroot hroot c12.1).1
      rw [y, z]
      omega
    · rw [hs40 a q1, if_neg y] at q2
      have z := hD.1 a q1 (by omega)
      have z2 := nr a q1
      unfold mRho
      by_cases y2 : Qr a
      · rw [if_pos y2]
        omega
      · rw [if_neg y2]
        omega
  · have z1 := stl a q1 q2
    have z2 := hQ6 a q1 z1
    have z3 := hD.2 a q1 z1
    unfold mRho
    rw [if_pos z2]
    omega
  · rcases c3 a k2 q1 q2 with y | y
    · exact hQ.1 a k2 q1 q2 q3 (by omega) q5
    · exact absurd q5 y.2.1
  · rcases c4 k2 x q1 (by omega) with y | y
    · exact hQ.2.2.1 k2 x q1 q2 (by omega) q4
    · exact absurd q4 y.2.2.1
  · rcases c3 a k2 q1 q2 with y | y
    · exact hQ.2.2.2.1 a k2 q1 q2 (by omega) q4
    · exact absurd q4 y.2.2.1
  · rcases c4 k2 (S - 1) q1 (by omega) with y | y
    · have z := hQ.2.2.2.2 k2 q1 q2
      omega
    · exact absurd q2 y.2.2.1
  · rw [hs40 root hroot, if_pos rfl, hu]
/-- what is reached leads nowhere but to what is reached -/
theorem reach_cl (hF : FlS R K S sl fr D al pt cu X v) (hQ : ClQ R K S sl al cu X Qr Qk) (hN : FinS R K S sl al pt cu X root (ndP rho del lam) kap h hk v) (hno : ∀ k, k < K → 0 < rStk R sl cu X k (S - 1) → FARz ≤ v 77 (24 * k + (S - 1))) : ClQ R K S sl al cu X (fun r => Qr r ∨ v 75 r < FARz) (fun k u => Qk k u ∨ v 77 (24 * k + u) < FARz) := by
  obtain ⟨hs, ⟨hR, hK, hS⟩, hpt, hX01⟩ := hF.st
  obtain ⟨⟨⟨a1, a2⟩, bb, c, ⟨d1, d2, d3⟩, _, pS⟩, hA, h80⟩ := hN
  obtain ⟨q1, q2, q3, q4, q5⟩ := hQ
  have far : FARz = 1152921504606846976 := rfl
  refine ⟨fun r k a b ha hx q => ?_, fun k u a b q => ?_, fun k u a b hp q => ?_, fun r k a b hx q => ?_, fun k a q => ?_⟩
  · rcases q with q | q
    · exact Or.inl (q1 r k a b ha hx q)
    · refine Or.inr ?_
      have z := hA r k a b (h80 r a) q (fun w => w) ha hx
      have p := hpt r k a b
      have hl := (bb r a q).2.1.len
      have w := (bb r a q).2.2
      omega
  · rcases q with q | q
    · exact Or.inl (q2 k u a b q)
    · have z := d1 k u a b
      exact Or.inr (by omega)
  · rcases q with q | q
    · exact Or.inl (q3 k u a b hp q)
    · have z := d2 k u a b hp
      exact Or.inr (by omega)
  · rcases q with q | q
    · exact Or.inl (q4 r k a b hx q)
    · refine Or.inr ?_
      have z := d3 r k a b hx q
      have p := hpt r k a b
      have hl := (c k (sl r) b (hs r a) q).1.len
      have w := (c k (sl r) b (hs r a) q).2
      omega
  · rcases q with q | q
    · exact q5 k a q
    · by_cases y : 0 < rStk R sl cu X k (S - 1)
      · have z := hno k a y
        omega
      · omega
theorem serves_n (hF : FlS R K S sl fr D al pt cu X v) (hX : RowOk R K S sl D1 al cu X) (hL : Lab4 (fun _ _ => False) R K S sl al pt cu X rho kap lam) (hD : LabD R K D1 X rho del) (hQ : ClQ R K S sl al cu X Qr Qk) (hQ6 : ∀ r, r < R → sgN (X r) K < D1 r → Qr r) (hroot : root < R) (hu : sgN (X root) K = D1 root) (hN : FinS R K S sl al pt cu X root (ndP rho del lam) kap h hk v) (hz : v 75 root ≤ 0) (hno : ∀ k, k < K → 0 < rStk R sl cu X k (S - 1) → FARz ≤ v 77 (24 * k + (S - 1))) (hpos : ∀ r, r < R → 0 ≤ v 75 r) {w : Int} (hw : D1 root ≤ w) : CertF R K S sl al pt cu (upD D1 root w) X := by
  obtain ⟨hs, ⟨hR, hK, hS⟩, hpt, hX01⟩ := hF.st
  have far : FARz = 1152921504606846976 := rfl
  have hNew := fun M => lab_new (M := M) hs hR hpt hL hN (fun k2 a p q => absurd (hno k2 a p) (by omega))
  generalize hM : (if rho root ≤ del then 0 else rho root - del) = M at *
  have M0 : 0 ≤ M ∧ rho root ≤ del + M ∧ (M = 0 ∨ del + M = rho root) := by
    rw [← hM]
    split <;> omega
  have r0 : v 75 root = 0 := by
    have z := hpos root hroot
    omega
  refine ⟨⟨hX.1, fun a q1 => ?_, hX.2.2⟩, nRho R rho root M v, nKap S rho kap root M v, del + M, lam + M, _, _, hNew M, ⟨fun a q1 q2 => ?_, fun a q1 q2 => ?_⟩, reach_cl hF hQ hN hno, fun a q1 q2 => ?_⟩
  · have z := hX.2.1 a q1
    unfold upD
    by_cases y : a = root
    · rw [if_pos y, y, hu]
      exact hw
    · rw [if_neg y]
      exact z
  · have z := hD.1 a q1 q2
    unfold nRho
    by_cases y : v 75 a < FARz ∧ a < R
    · have z2 := (hN.rt hR hroot q1 y.1).1
      have z3 := hpos a q1
      rw [if_pos y]
      omega
    · rw [if_neg y]
      omega
  · by_cases y : a = root
    · unfold nRho
      rw [y, if_pos ⟨by omega, hroot⟩, r0]
      omega
    · unfold upD at q2
      rw [if_neg y] at q2
      have z := hD.2 a q1 q2
      unfold nRho
      by_cases y2 : v 75 a < FARz ∧ a < R
      · rw [if_pos y2]
        omega
      · rw [if_neg y2]
        omega
  · by_cases y : a = root
    · refine Or.inr ?_
      rw [y]
      omega
    · unfold upD at q2
      rw [if_neg y] at q2
      exact Or.inl (hQ6 a q1 q2)
theorem serves_o (hF : FlS R K S sl fr D al pt cu X v) (hX : RowOk R K S sl D1 al cu X) (hL : Lab4 (fun _ _ => False) R K S sl al pt cu X rho kap lam) (hD : LabD R K D1 X rho del) (hQ : ClQ R K S sl al cu X Qr Qk) (hQ6 : ∀ r, r < R → sgN (X r) K < D1 r → Qr r) (hroot : root < R) (hu : sgN (X root) K = D1 root) (hN : FinS R K S sl al pt cu X root (ndP rho del lam) kap h hk v) (hz : 0 ≤ v 75 root) (hno : ∀ k, k < K → 0 < rStk R sl cu X k (S - 1) → FARz ≤ v 77 (24 * k + (S - 1))) {lo : Nat} (hlo : lo < R) (hneg : v 75 lo < 0) (hmin : ∀ r, r < R → v 75 lo ≤ v 75 r) {r2 : Int} (mc : M_X2_change v (root : Int) (lo : Int) r2 t) : ∃ Y, FlS R K S sl fr D al pt cu Y t ∧ CertF R K S sl al pt cu (upD D1 root (D1 root + 1)) Y ∧ sgN (Y root) K = D1 root + 1 ∧ ∀ x, ¬ x = 70 → ¬ x = 71 → ¬ x = 73 → t x = v x := by
  obtain ⟨hs, ⟨hR, hK, hS⟩, hpt, hX01⟩ := hF.st
  have far : FARz = 1152921504606846976 := rfl
  have lne : ¬ lo = root := fun e => by
    rw [e] at hneg
    omega
  obtain ⟨k0, b0, g1, g2, g3, _⟩ := hN.pt_ hs hR hpt hlo (by omega) lne
  have used : 0 < sgN (X lo) K := sgN_gt g1 (fun i hi => by have := hX01 lo i hlo hi; omega) (by omega)
  have dl := hD.1 lo hlo used
  have rl := (hN.rt hR hroot hlo (by omega)).1
  generalize hM : v 75 lo + rho root - del = M
  have M0 : 0 ≤ M := by omega
  have hNew := lab_new (M := M) hs hR hpt hL hN (fun k2 a p q => absurd (hno k2 a p) (by omega))
  have em : mRho (fun _ => False) 0 R rho root M v = nRho R rho root M v := funext (fun r => by
    unfold mRho
    rw [if_neg (fun q => q)])
  have ek : mKap (fun _ _ => False) 0 S rho kap root M v = nKap S rho kap root M v := funext (fun k => funext (fun u => by
    unfold mKap
    rw [if_neg (fun q => q.2)]))
  have gl : GdR (fun _ => False) rho root M v lo := ⟨by omega, by omega, fun q => q⟩
  have ll := hN.len hR hlo (by omega)
  obtain ⟨fu, mc⟩ := mc
  unfold T_X2_change_e at mc
  obtain ⟨_, _, _, mc⟩ := mc
  have C1 : ChI R K S sl fr D al pt cu X (mRho (fun _ => False) 0 R rho root M v) (mKap (fun _ _ => False) 0 S rho kap root M v) (fun _ => False) (fun _ _ => False) (GdR (fun _ => False) rho root M v) h v lo X lo v :=
    ⟨hF, fun _ _ _ _ => rfl, fun _ _ _ _ => Or.inl rfl, fun _ _ _ _ => Or.inl (Int.le_refl _), hX.2.2, fun a _ => by omega, fun _ _ _ _ _ => rfl, fun _ _ q => q, fun _ _ _ _ q => absurd q (Int.lt_irrefl _), fun a k q1 q2 q3 => (hX.1 a k q1 q2).2 q3, hlo, gl⟩
  obtain ⟨Y2, c1, c2, c3, c4, c5, c6, c7, c8, c9, c10, c11, c12⟩ := changeL hs hR hpt hK hS hroot hX01 hL hN ClQ.no fu 0 lo _ _ v r2 t mc C1 (by omega)
  rw [em, ek] at c3
  rw [ek] at c4
  have Y01 := (FlS.st c1).2.2.2
  have z75 : v 75 root = 0 := by
    have z := (hN.rt hR hroot hlo (by omega)).2
    omega
  have cl := reach_cl hF hQ hN hno
  refine ⟨Y2, c1, ⟨⟨fun a k2 q1 q2 => ⟨Y01 a k2 q1 q2, c10 a k2 q1 q2⟩, fun a q1 => ?_, c5⟩, nRho R rho root M v, nKap S rho kap root M v, del + M, lam + M, fun r => Qr r ∨ v 75 r < FARz, fun k u => Qk k u ∨ v 77 (24 * k + u) < FARz, hNew.ch (fun a k2 q1 q2 => (c3 a k2 q1 q2).imp id (fun z => z.1)) (fun k2 x q1 q2 => (c4 k2 x q1 q2).imp id (fun z => z.1)), ⟨fun a q1 q2 => ?_, fun a q1 q2 => ?_⟩, ⟨fun a k2 q1 q2 q3 q4 q5 => ?_, cl.2.1, fun k2 x q1 q2 q3 q4 => ?_, fun a k2 q1 q2 q3 q4 => ?_, fun k2 q1 q2 => ?_⟩, fun a q1 q2 => ?_⟩, ?_, c2⟩
  · rw [c6 a q1]
    have z := hX.2.1 a q1
    unfold upD
    by_cases y : a = root
    · rw [if_pos y, if_pos y, y, if_neg (fun e => lne e.symm)]
      omega
    · rw [if_neg y, if_neg y]
      by_cases y2 : a = lo
      · rw [if_pos y2]
        omega
      · rw [if_neg y2]
        omega
  · by_cases y : a = root
    · unfold nRho
      rw [y, if_pos ⟨by omega, hroot⟩, z75]
      omega
    · rw [c6 a q1, if_neg y] at q2
      have u0 : 0 < sgN (X a) K := by
        by_cases y2 : a = lo
        · rw [y2]
          exact used
        · rw [if_neg y2] at q2
          omega
      have z := hD.1 a q1 u0
      have z2 := hmin a q1
      unfold nRho
      by_cases y3 : v 75 a < FARz ∧ a < R
      · rw [if_pos y3]
        omega
      · rw [if_neg y3]
        omega
  · by_cases y : a = lo
    · unfold nRho
      rw [y, if_pos ⟨by omega, hlo⟩]
      omega
    · rw [c6 a q1, if_neg y] at q2
      unfold upD at q2
      by_cases y2 : a = root
      · rw [if_pos y2, if_pos y2, y2] at q2
        omega
      · rw [if_neg y2, if_neg y2] at q2
        have z := hD.2 a q1 (by omega)
        unfold nRho
        by_cases y3 : v 75 a < FARz ∧ a < R
        · rw [if_pos y3]
          omega
        · rw [if_neg y3]
          omega
  · rcases c3 a k2 q1 q2 with y | y
    · exact cl.1 a k2 q1 q2 q3 (by omega) q5
    · exact Or.inr y.2.2.2.2
  · rcases c4 k2 x q1 (by omega) with y | y
    · exact cl.2.2.1 k2 x q1 q2 (by omega) q4
    · exact Or.inr y.2.2.2.2
  · rcases c3 a k2 q1 q2 with y | y
    · exact cl.2.2.2.1 a k2 q1 q2 (by omega) q4
    · exact Or.inr y.2.2.2.1
  · have z := cl.2.2.2.2 k2 q1 q2
    rcases c4 k2 (S - 1) q1 (by have := hs lo hlo; omega) with y | y
    · omega
    · have := y.2.1
      omega
  · by_cases y : a = lo
    · refine Or.inr ?_
      rw [y]
      omega
    · rw [c6 a q1, if_neg y] at q2
      unfold upD at q2
      by_cases y2 : a = root
      · refine Or.inr ?_
        rw [y2, z75]
        omega
      · rw [if_neg y2, if_neg y2] at q2
        exact Or.inl (hQ6 a q1 (by omega))
  · rw [c6 root hroot, if_pos rfl, if_neg (fun e => lne e.symm), hu]
    omega
end Srv
