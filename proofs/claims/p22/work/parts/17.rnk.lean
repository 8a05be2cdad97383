/-! the ranker: what bears the stamp -/
def cn (f : Nat → Int32) (S : Int32) : Nat → Nat
  | 0 => 0
  | n + 1 => cn f S n + (if f n = S then 1 else 0)
theorem cn_le (f : Nat → Int32) (S : Int32) : ∀ n, cn f S n ≤ n
  | 0 => Nat.le_refl 0
  | n + 1 => by
    have h := cn_le f S n
    unfold cn
    split <;> omega
theorem cn_lt {f : Nat → Int32} {S : Int32} {i : Nat} (h : ¬ f i = S) : ∀ n, i < n → cn f S n < n
  | 0, h1 => absurd h1 (Nat.not_lt_zero i)
  | n + 1, h1 => by
    unfold cn
    by_cases q : i = n
    · subst q
      rw [if_neg h]
      have := cn_le f S i
      omega
    · have := cn_lt h n (by omega)
      split <;> omega
theorem cn_upd {f : Nat → Int32} {S : Int32} {i : Nat} (h : ¬ f i = S) : ∀ n, cn (upd f i S) S n = cn f S n + (if i < n then 1 else 0)
  | 0 => rfl
  | n + 1 => by
    have hh := cn_upd h n
    unfold cn
    rw [hh]
    unfold upd
    by_cases q : n = i
    · subst q
      rw [if_pos rfl, if_pos rfl, if_neg h, if_neg (Nat.lt_irrefl n), if_pos (Nat.lt_succ_self n)]
    · rw [if_neg q]
      by_cases q2 : i < n
      · have q3 : i < n + 1 := by omega
        simp only [q2, q3, if_true]
        omega
      · have q3 : ¬ i < n + 1 := by omega
        simp only [q2, q3, if_false]
        omega
def sn (w : va_W) (r : Nat) : Prop := aF w 83 r = fI w 81 4
def kn (w : va_W) (p : Nat) : Prop := aF w 85 p = fI w 81 4
def tk (w : va_W) (p : Nat) : Prop := 0 ≤ (aF w 86 p).toInt ∧ (aF w 86 p = fI w 81 2 ∨ sn w (aF w 86 p).toNatClampNeg)
def dr (w : va_W) (r : Nat) : Prop := 0 ≤ (aF w 84 r).toInt ∧ kn w ((aF w 84 r).toNatClampNeg * 24 + (aF w 65 r).toNatClampNeg)
def lp (w : va_W) : Nat := (fI w 81 13).toNatClampNeg * 24 + ((fI w 64 2).toInt - 1).toNat
def RI (w : va_W) : Prop :=
  (∀ r : Nat, r < 40 → sn w r → ((aF w 84 r = -3 ∧ 0 ≤ (fI w 81 12).toInt) ∨ dr w r) ∧ (r : Int) < (fI w 64 1).toInt) ∧
  (0 ≤ (fI w 81 12).toInt → sn w (fI w 81 12).toNatClampNeg ∧ dr w (fI w 81 12).toNatClampNeg) ∧
  (∀ p : Nat, p < 240 → kn w p → tk w p ∨ (aF w 86 p = -2 ∧ 0 ≤ (fI w 81 13).toInt)) ∧
  (0 ≤ (fI w 81 13).toInt → kn w (lp w) ∧ tk w (lp w)) ∧
  (fI w 81 11).toInt ≤ (cn (aF w 83) (fI w 81 4) 40 : Int) ∧
  ∀ j : Nat, j < (fI w 81 11).toInt.toNat → sn w (aF w 87 j).toNatClampNeg
/-- stamps lie at or below the last one, which lies at or below b -/
def SB (b : Int) (w : va_W) : Prop := (∀ r : Nat, r < 40 → (aF w 83 r).toInt ≤ (fI w 81 4).toInt) ∧ (∀ p : Nat, p < 240 → (aF w 85 p).toInt ≤ (fI w 81 4).toInt) ∧ (fI w 81 4).toInt ≤ b
/-- what is seen stays seen -/
def Mn (w w1 : va_W) : Prop := (∀ r : Nat, sn w r → sn w1 r) ∧ (∀ p : Nat, kn w p → kn w1 p) ∧ (0 ≤ (fI w 81 13).toInt → 0 ≤ (fI w1 81 13).toInt) ∧ (0 ≤ (fI w 81 12).toInt → 0 ≤ (fI w1 81 12).toInt) ∧ ∀ b : Int, SB b w → SB b w1
section RIRows
variable {w w0 w1 : va_W}
theorem Mn.rf : Mn w w := ⟨fun _ h => h, fun _ h => h, fun h => h, fun h => h, fun _ h => h⟩
theorem Mn.tr (h : Mn w0 w) (g : Mn w w1) : Mn w0 w1 := ⟨fun r q => g.1 r (h.1 r q), fun r q => g.2.1 r (h.2.1 r q), fun q => g.2.2.1 (h.2.2.1 q), fun q => g.2.2.2.1 (h.2.2.2.1 q), fun b q => g.2.2.2.2 b (h.2.2.2.2 b q)⟩
/-- nothing of the ranker's is changed -/
def RS (w w1 : va_W) : Prop := aF w1 83 = aF w 83 ∧ aF w1 84 = aF w 84 ∧ aF w1 85 = aF w 85 ∧ aF w1 86 = aF w 86 ∧ aF w1 87 = aF w 87 ∧ aF w1 65 = aF w 65 ∧ fI w1 81 2 = fI w 81 2 ∧ fI w1 81 4 = fI w 81 4 ∧ fI w1 81 11 = fI w 81 11 ∧ fI w1 81 12 = fI w 81 12 ∧ fI w1 81 13 = fI w 81 13 ∧ fI w1 64 1 = fI w 64 1 ∧ fI w1 64 2 = fI w 64 2
theorem RI_cg (e : RS w w1) (h : RI w) : RI w1 := by
  obtain ⟨e1, e2, e3, e4, e5, e6, e7, e8, e9, e10, e11, e12, e13⟩ := e
  unfold RI dr tk kn sn lp at h ⊢
  rw [e1, e2, e3, e4, e5, e6, e7, e8, e9, e10, e11, e12, e13]
  exact h
theorem SB_cg {b : Int} (e1 : aF w1 83 = aF w 83) (e3 : aF w1 85 = aF w 85) (e8 : fI w1 81 4 = fI w 81 4) (h : SB b w) : SB b w1 := by
  unfold SB
  rw [e1, e3, e8]
  exact h
theorem Mn_cg (e : RS w w1) (h : Mn w0 w) : Mn w0 w1 := by
  obtain ⟨e1, e2, e3, e4, e5, e6, e7, e8, e9, e10, e11, e12, e13⟩ := e
  unfold Mn SB kn sn at h ⊢
  rw [e1, e3, e8, e10, e11]
  exact h
theorem RI_tail {row : Int32} (h : RI w) (hr : In 0 39 row) (hn : ¬ aF w 83 row.toNatClampNeg = fI w 81 4) (ht : In 0 40 (fI w 81 11)) : In 0 39 (fI w 81 11) := by
  have a1 : row.toNatClampNeg = row.toInt.toNat := rfl
  have hc := cn_lt hn 40 (by rw [a1]; unfold In at hr; omega)
  have h5 := h.2.2.2.2.1
  unfold In at ht ⊢
  omega
theorem RI_row {row kind : Int32} (hr : In 0 39 row) (hrr : row.toInt < (fI w 64 1).toInt) (hn : ¬ aF w 83 row.toNatClampNeg = fI w 81 4) (hk : (kind = -3 ∧ 0 ≤ (fI w 81 12).toInt) ∨ (0 ≤ kind.toInt ∧ kn w (kind.toNatClampNeg * 24 + (aF w 65 row.toNatClampNeg).toNatClampNeg))) (ht : In 0 39 (fI w 81 11))
    (e83 : aF w1 83 = upd (aF w 83) row.toNatClampNeg (fI w 81 4)) (e84 : aF w1 84 = upd (aF w 84) row.toNatClampNeg kind) (e87 : aF w1 87 = upd (aF w 87) (fI w 81 11).toNatClampNeg row) (et : fI w1 81 11 = fI w 81 11 + 1) (e85 : aF w1 85 = aF w 85) (e86 : aF w1 86 = aF w 86) (e65 : aF w1 65 = aF w 65) (e2 : fI w1 81 2 = fI w 81 2) (e4 : fI w1 81 4 = fI w 81 4) (e13 : fI w1 81 13 = fI w 81 13) (g1 : fI w1 64 1 = fI w 64 1) (g2 : fI w1 64 2 = fI w 64 2)
    (hl : fI w1 81 12 = fI w 81 12 ∨ (fI w 81 12 = -1 ∧ ¬ kind = -3 ∧ fI w1 81 12 = row)) (h : RI w) : RI w1 ∧ Mn w w1 := by
  obtain ⟨h1, h2, h3, h4, h5, h6⟩ := h
  have a1 : row.toNatClampNeg = row.toInt.toNat := rfl
  have z1 : (-1 : Int32).toInt = -1 := by decide
  have z3 : (-3 : Int32).toInt = -3 := by decide
  have hsn : ∀ r : Nat, sn w r → sn w1 r := by
    intro r q
    unfold sn at q ⊢
    rw [e83, e4]
    unfold upd
    split
    · rfl
    · exact q
  have hsr : sn w1 row.toNatClampNeg := by
    unfold sn
    rw [e83, e4]
    unfold upd
    rw [if_pos rfl]
  have hkn : ∀ p : Nat, kn w p → kn w1 p := by
    intro p q
    unfold kn at q ⊢
    rw [e85, e4]
    exact q
  have hlo : 0 ≤ (fI w 81 12).toInt → 0 ≤ (fI w1 81 12).toInt := by
    intro q
    rcases hl with q2 | q2
    · rw [q2]; exact q
    · rw [q2.1, z1] at q; omega
  have hdo : ∀ r : Nat, ¬ r = row.toNatClampNeg → dr w r → dr w1 r := by
    intro r q1 q
    unfold dr at q ⊢
    rw [e84, e65]
    unfold upd
    rw [if_neg q1]
    exact ⟨q.1, hkn _ q.2⟩
  have hdr : 0 ≤ kind.toInt ∧ kn w (kind.toNatClampNeg * 24 + (aF w 65 row.toNatClampNeg).toNatClampNeg) → dr w1 row.toNatClampNeg := by
    intro q
    unfold dr
    rw [e84, e65]
    unfold upd
    rw [if_pos rfl]
    exact ⟨q.1, hkn _ q.2⟩
  have htk : ∀ p : Nat, tk w p → tk w1 p := by
    intro p q
    unfold tk at q ⊢
    rw [e86, e2]
    exact ⟨q.1, q.2.imp id (hsn _)⟩
  have hlp : lp w1 = lp w := by
    unfold lp
    rw [e13, g2]
  refine ⟨⟨?_, ?_, ?_, ?_, ?_, ?_⟩, hsn, hkn, by rw [e13]; exact id, hlo, ?_⟩
  · intro r hr40 q
    by_cases qr : r = row.toNatClampNeg
    · refine ⟨?_, by rw [g1, qr, a1]; unfold In at hr; omega⟩
      rcases hk with k1 | k1
      · left
        refine ⟨?_, hlo k1.2⟩
        rw [e84, qr]
        unfold upd
        rw [if_pos rfl]
        exact k1.1
      · right
        rw [qr]
        exact hdr k1
    · have q0 : sn w r := by
        unfold sn at q ⊢
        rw [e83, e4] at q
        unfold upd at q
        rw [if_neg qr] at q
        exact q
      have q3 := h1 r hr40 q0
      rw [g1]
      refine ⟨?_, q3.2⟩
      rcases q3.1 with q4 | q4
      · left
        refine ⟨?_, hlo q4.2⟩
        rw [e84]
        unfold upd
        rw [if_neg qr]
        exact q4.1
      · exact Or.inr (hdo r qr q4)
  · intro q
    rcases hl with q2 | q2
    · rw [q2] at q ⊢
      have q3 := h2 q
      refine ⟨hsn _ q3.1, hdo _ (fun qq => ?_) q3.2⟩
      rw [qq] at q3
      exact hn q3.1
    · rw [q2.2.2]
      refine ⟨hsr, ?_⟩
      rcases hk with k1 | k1
      · exact absurd k1.1 q2.2.1
      · exact hdr k1
  · intro p hp q
    have q0 : kn w p := by
      unfold kn at q ⊢
      rw [e85, e4] at q
      exact q
    rw [e86, e13]
    exact (h3 p hp q0).imp (htk p) id
  · intro q
    rw [e13] at q
    rw [hlp]
    exact ⟨hkn _ (h4 q).1, htk _ (h4 q).2⟩
  · have hc := cn_upd hn 40
    rw [if_pos (by rw [a1]; unfold In at hr; omega)] at hc
    have t := t_add ht (In_lit (n := 1) (by decide) (by decide) : In 1 1 1) (by decide)
    have zz : (1 : Int32).toInt = 1 := by decide
    rw [et, e83, e4, hc]
    omega
  · intro j hj
    have t := t_add ht (In_lit (n := 1) (by decide) (by decide) : In 1 1 1) (by decide)
    have zz : (1 : Int32).toInt = 1 := by decide
    have a3 : (fI w 81 11).toNatClampNeg = (fI w 81 11).toInt.toNat := rfl
    rw [et] at hj
    rw [e87]
    unfold upd
    by_cases q : j = (fI w 81 11).toNatClampNeg
    · rw [if_pos q]; exact hsr
    · rw [if_neg q]
      unfold In at ht
      exact hsn _ (h6 j (by omega))
  · intro b hb
    unfold SB at hb ⊢
    rw [e83, e85, e4]
    refine ⟨?_, hb.2.1, hb.2.2⟩
    intro r hr40
    unfold upd
    split
    · exact Int.le_refl _
    · exact hb.1 r hr40
theorem RI_see {row kind slot : Int32} (hk : In 0 9 kind) (hs : In 0 23 slot) (hsl : slot.toInt < (fI w 64 2).toInt) (hn : ¬ aF w 85 (kind * 24 + slot).toNatClampNeg = fI w 81 4) (hrw : (0 ≤ row.toInt ∧ (row = fI w 81 2 ∨ sn w row.toNatClampNeg)) ∨ (row = -2 ∧ 0 ≤ (fI w 81 13).toInt))
    (e85 : aF w1 85 = upd (aF w 85) (kind * 24 + slot).toNatClampNeg (fI w 81 4)) (e86 : aF w1 86 = upd (aF w 86) (kind * 24 + slot).toNatClampNeg row) (e83 : aF w1 83 = aF w 83) (e84 : aF w1 84 = aF w 84) (e87 : aF w1 87 = aF w 87) (e65 : aF w1 65 = aF w 65) (e2 : fI w1 81 2 = fI w 81 2) (e4 : fI w1 81 4 = fI w 81 4) (e11 : fI w1 81 11 = fI w 81 11) (e12 : fI w1 81 12 = fI w 81 12) (g1 : fI w1 64 1 = fI w 64 1) (g2 : fI w1 64 2 = fI w 64 2)
    (hl : fI w1 81 13 = fI w 81 13 ∨ (fI w 81 13 = -1 ∧ fI w1 81 13 = kind ∧ slot.toInt = (fI w 64 2).toInt - 1)) (h : RI w) : RI w1 ∧ Mn w w1 ∧ kn w1 (kind * 24 + slot).toNatClampNeg := by
  obtain ⟨h1, h2, h3, h4, h5, h6⟩ := h
  obtain ⟨i1, i2⟩ := ix24 hk hs
  have z1 : (-1 : Int32).toInt = -1 := by decide
  have hsn : ∀ r : Nat, sn w r ↔ sn w1 r := by
    intro r
    unfold sn
    rw [e83, e4]
  have hkn : ∀ p : Nat, kn w p → kn w1 p := by
    intro p q
    unfold kn at q ⊢
    rw [e85, e4]
    unfold upd
    split
    · rfl
    · exact q
  have hkp : kn w1 (kind * 24 + slot).toNatClampNeg := by
    unfold kn
    rw [e85, e4]
    unfold upd
    rw [if_pos rfl]
  have hle : 0 ≤ (fI w 81 13).toInt → fI w1 81 13 = fI w 81 13 := by
    intro q
    rcases hl with q2 | q2
    · exact q2
    · rw [q2.1, z1] at q; omega
  have hdr : ∀ r : Nat, dr w r → dr w1 r := by
    intro r q
    unfold dr at q ⊢
    rw [e84, e65]
    exact ⟨q.1, hkn _ q.2⟩
  have htk : ∀ p : Nat, ¬ p = (kind * 24 + slot).toNatClampNeg → tk w p → tk w1 p := by
    intro p qp q
    unfold tk at q ⊢
    rw [e86, e2]
    unfold upd
    rw [if_neg qp]
    exact ⟨q.1, q.2.imp id (hsn _).mp⟩
  have htn : 0 ≤ row.toInt ∧ (row = fI w 81 2 ∨ sn w row.toNatClampNeg) → tk w1 (kind * 24 + slot).toNatClampNeg := by
    intro q
    unfold tk
    rw [e86, e2]
    unfold upd
    rw [if_pos rfl]
    exact ⟨q.1, q.2.imp id (hsn _).mp⟩
  refine ⟨⟨?_, ?_, ?_, ?_, ?_, ?_⟩, ⟨fun r q => (hsn r).mp q, hkn, fun q => by rw [hle q]; exact q, by rw [e12]; exact id, ?_⟩, hkp⟩
  · intro r hr40 q
    have q3 := h1 r hr40 ((hsn r).mpr q)
    rw [g1, e84, e12]
    exact ⟨q3.1.imp id (hdr r), q3.2⟩
  · intro q
    rw [e12] at q ⊢
    exact ⟨(hsn _).mp (h2 q).1, hdr _ (h2 q).2⟩
  · intro p hp q
    by_cases qp : p = (kind * 24 + slot).toNatClampNeg
    · rw [qp]
      rcases hrw with k1 | k1
      · exact Or.inl (htn k1)
      · right
        rw [e86, hle k1.2]
        unfold upd
        rw [if_pos rfl]
        exact k1
    · have q0 : kn w p := by
        unfold kn at q ⊢
        rw [e85, e4] at q
        unfold upd at q
        rw [if_neg qp] at q
        exact q
      rcases h3 p hp q0 with k1 | k1
      · exact Or.inl (htk p qp k1)
      · right
        rw [e86, hle k1.2]
        unfold upd
        rw [if_neg qp]
        exact k1
  · intro q
    rcases hl with q2 | q2
    · have hlp : lp w1 = lp w := by
        unfold lp
        rw [q2, g2]
      rw [q2] at q
      rw [hlp]
      have q3 := h4 q
      refine ⟨hkn _ q3.1, htk _ (fun qq => ?_) q3.2⟩
      rw [qq] at q3
      exact hn q3.1
    · have hlp : lp w1 = (kind * 24 + slot).toNatClampNeg := by
        unfold lp
        rw [q2.2.1, g2, i1]
        have a3 : slot.toNatClampNeg = slot.toInt.toNat := rfl
        rw [a3, q2.2.2]
      rw [hlp]
      refine ⟨hkp, htn ?_⟩
      rcases hrw with k1 | k1
      · exact k1
      · have k2 := k1.2
        rw [q2.1, z1] at k2
        omega
  · rw [e11, e83, e4]; exact h5
  · intro j hj
    rw [e11] at hj
    rw [e87]
    exact (hsn _).mp (h6 j hj)
  · intro b hb
    unfold SB at hb ⊢
    rw [e83, e85, e4]
    refine ⟨hb.1, ?_, hb.2.2⟩
    intro p hp
    unfold upd
    split
    · exact Int.le_refl _
    · exact hb.2.1 p hp
theorem RI_new {b : Int} (hb : b + 1 ≤ 2147483647) (e83 : aF w1 83 = aF w 83) (e85 : aF w1 85 = aF w 85) (e4 : fI w1 81 4 = fI w 81 4 + 1) (e11 : fI w1 81 11 = 0) (e12 : fI w1 81 12 = -1) (e13 : fI w1 81 13 = -1) (h : SB b w) : RI w1 ∧ SB (b + 1) w1 := by
  obtain ⟨h1, h2, h3⟩ := h
  have z0 : (0 : Int32).toInt = 0 := by decide
  have z1 : (-1 : Int32).toInt = -1 := by decide
  have zz : (1 : Int32).toInt = 1 := by decide
  have hlo := Int32.le_toInt (fI w 81 4)
  have e4i : (fI w1 81 4).toInt = (fI w 81 4).toInt + 1 := by
    rw [e4, Int32.toInt_add, zz, bm_id (by omega) (by omega)]
  have hs : ∀ r : Nat, r < 40 → ¬ sn w1 r := by
    intro r hr q
    unfold sn at q
    rw [e83] at q
    have := h1 r hr
    have q2 := congrArg Int32.toInt q
    omega
  have hk : ∀ p : Nat, p < 240 → ¬ kn w1 p := by
    intro p hp q
    unfold kn at q
    rw [e85] at q
    have := h2 p hp
    have q2 := congrArg Int32.toInt q
    omega
  refine ⟨⟨fun r hr q => absurd q (hs r hr), fun q => ?_, fun p hp q => absurd q (hk p hp), fun q => ?_, ?_, fun j hj => ?_⟩, ?_, ?_, by omega⟩
  · rw [e12, z1] at q; omega
  · rw [e13, z1] at q; omega
  · rw [e11, z0]; omega
  · rw [e11, z0] at hj; omega
  · intro r hr
    rw [e83]
    have := h1 r hr
    omega
  · intro p hp
    rw [e85]
    have := h2 p hp
    omega
/-- what a seen row drops, and who takes it -/
theorem RI_d1 {row d : Int32} (h : RI w) (hr : In 0 39 row) (hs : sn w row.toNatClampNeg) (ed : d = aF w 84 row.toNatClampNeg) (hd : ¬ d = -3) : dr w row.toNatClampNeg := by
  have a1 : row.toNatClampNeg = row.toInt.toNat := rfl
  rcases (h.1 row.toNatClampNeg (by rw [a1]; unfold In at hr; omega) hs).1 with q | q
  · exact absurd (by rw [ed]; exact q.1) hd
  · exact q
theorem RI_d2 {row d : Int32} (h : RI w) (hr : In 0 39 row) (hs : sn w row.toNatClampNeg) (ed : d = aF w 84 row.toNatClampNeg) (hd : d = -3) : 0 ≤ (fI w 81 12).toInt ∧ sn w (fI w 81 12).toNatClampNeg ∧ dr w (fI w 81 12).toNatClampNeg := by
  have a1 : row.toNatClampNeg = row.toInt.toNat := rfl
  have z3 : (-3 : Int32).toInt = -3 := by decide
  rcases (h.1 row.toNatClampNeg (by rw [a1]; unfold In at hr; omega) hs).1 with q | q
  · exact ⟨q.2, h.2.1 q.2⟩
  · have q1 := q.1
    rw [← ed, hd, z3] at q1
    omega
theorem kn_cg {p : Nat} (e3 : aF w1 85 = aF w 85) (e8 : fI w1 81 4 = fI w 81 4) (h : kn w p) : kn w1 p := by
  unfold kn at h ⊢
  rw [e3, e8]
  exact h
theorem sn_cg {p : Nat} (e3 : aF w1 83 = aF w 83) (e8 : fI w1 81 4 = fI w 81 4) (h : sn w p) : sn w1 p := by
  unfold sn at h ⊢
  rw [e3, e8]
  exact h
theorem SB_w {b c : Int} (h : SB b w) (k : b ≤ c) : SB c w := ⟨h.1, h.2.1, Int.le_trans h.2.2 k⟩
abbrev rwP (w : va_W) (x : Int32) : Prop := (0 ≤ x.toInt ∧ (x = fI w 81 2 ∨ sn w x.toNatClampNeg)) ∨ (x = -2 ∧ 0 ≤ (fI w 81 13).toInt)
theorem rw_up {x : Int32} (m : Mn w w1) (g : fI w1 81 2 = fI w 81 2) (h : rwP w x) : rwP w1 x := h.imp (fun q => ⟨q.1, q.2.imp (fun z => z.trans g.symm) (m.1 _)⟩) (fun q => ⟨q.1, m.2.2.1 q.2⟩)
theorem RI_nx {d s t : Int32} {r : Nat} (h : RI w) (hd : In 0 9 d) (hs : In 0 23 s) (ed : d = aF w 84 r) (es : s = aF w 65 r) (hr : dr w r) (et : t = aF w 86 (d * 24 + s).toNatClampNeg) : (0 ≤ t.toInt ∧ (t = fI w 81 2 ∨ sn w t.toNatClampNeg)) ∨ (t = -2 ∧ 0 ≤ (fI w 81 13).toInt) := by
  obtain ⟨i1, i2⟩ := ix24 hd hs
  have q := hr.2
  rw [← ed, ← es, ← i1] at q
  have q2 := h.2.2.1 _ i2 q
  unfold tk at q2
  rw [← et] at q2
  exact q2
theorem RI_lf {k i t : Int32} (h : RI w) (hk : In 0 9 k) (ek : k = fI w 81 13) (hsl : In 1 24 (fI w 64 2)) (ei : i = ((k * 24) + (fI w 64 2)) - 1) (et : t = aF w 86 i.toNatClampNeg) : 0 ≤ t.toInt ∧ (t = fI w 81 2 ∨ sn w t.toNatClampNeg) := by
  have q := h.2.2.2.1 (by rw [← ek]; unfold In at hk; omega)
  have e : i.toNatClampNeg = lp w := by
    have z24 : (24 : Int32).toInt = 24 := by decide
    have z1 : (1 : Int32).toInt = 1 := by decide
    have h1 : In 0 216 (k * 24) := In_mulr hk (n := 24) (by decide) (by decide)
    have e1 : (k * 24).toInt = k.toInt * 24 := by
      unfold In at hk
      rw [Int32.toInt_mul, z24, bm_id (by omega) (by omega)]
    have e2 := t_add h1 hsl (by decide)
    have h2 : In 1 240 (k * 24 + (fI w 64 2)) := In_add h1 hsl (by decide)
    have e3 := t_sub h2 (In_lit (n := 1) (by decide) (by decide) : In 1 1 1) (by decide)
    have a1 : i.toNatClampNeg = i.toInt.toNat := rfl
    have a2 : k.toNatClampNeg = k.toInt.toNat := rfl
    unfold lp
    rw [← ek, a1, a2, ei, e3, e2, e1]
    unfold In at hk hsl
    omega
  have q2 := q.2
  unfold tk at q2
  rw [← e, ← et] at q2
  exact q2
end RIRows
