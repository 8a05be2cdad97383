/-! an expression is read; a rule; the text of rules -/
theorem one_of {x : Int32} (h : In 0 1 x) (n : ¬ x = 0) : x = 1 := by
  have z0 : (0 : Int32).toInt = 0 := by decide
  have z1 : (1 : Int32).toInt = 1 := by decide
  rw [q_eq] at n ⊢
  unfold In at h
  omega
theorem fit_z {x : Int32} (h : In 0 1 x) : fits .boolean (.int x) = true := by
  have e : x = 0 ∨ x = 1 := by
    unfold In at h
    rw [q_eq, q_eq]
    have z0 : (0 : Int32).toInt = 0 := by decide
    have z1 : (1 : Int32).toInt = 1 := by decide
    omega
  rcases e with rfl | rfl <;> rfl
theorem mu_rd {E E2 A2 : Int} {x s s2 : Int32} {N : Nat} (hmu : (if x = 0 then 0 else 1 + (2 * (1000 - E).toNat + (if s = 0 then 0 else 1))) < N + 1) (hx : ¬ x = 0) (hs : ¬ s = 0) (g : E ≤ A2 ∧ A2 ≤ E2 ∧ (¬ s2 = 0 → A2 < E2)) (hE : E2 ≤ 1000) : (if (1 : Int32) = 0 then 0 else 1 + (2 * (1000 - E2).toNat + (if s2 = 0 then 0 else 1))) < N := by
  rw [if_neg hx, if_neg hs] at hmu
  rw [if_neg (by decide)]
  by_cases q : s2 = 0
  · rw [if_pos q]
    omega
  · rw [if_neg q]
    have := g.2.2 q
    omega
theorem mu_rd0 {E : Int} {x s : Int32} {N M : Nat} (hmu : (if x = 0 then 0 else 1 + (2 * (1000 - E).toNat + (if s = 0 then 0 else 1))) < N + 1) (hx : ¬ x = 0) : (if (0 : Int32) = 0 then 0 else M) < N := by
  rw [if_neg hx] at hmu
  rw [if_pos rfl]
  omega
theorem PW_go {T : Int} {w wo W : va_W} {p : Int32} (hp : In 0 2 p) (z32 : fI wo 0 32 = 0) (h16 : aF W 16 = upd (aF wo 16) (fI wo 0 32).toNatClampNeg p) (h19 : aF W 19 = upd (aF wo 19) (fI wo 0 32).toNatClampNeg (fI wo 0 35)) (h32 : (fI W 0 32).toInt = (fI wo 0 32).toInt + 1) (z35 : fI wo 0 35 = 0) (e35 : fI W 0 35 = fI wo 0 35) (z33 : fI W 0 33 = 0) (e14 : aF W 14 = aF w 14) (f13 : fI W 0 13 = fI w 0 13) (hT : (cdN w : Int) ≤ T) : PW T (cdN w) W 0 := by
  have z0 : (0 : Int32).toInt = 0 := by decide
  have zc : (0 : Int32).toNatClampNeg = 0 := by decide
  have ec : cdN W = cdN w := by unfold cdN; rw [e14, f13]
  rw [z32, z0] at h32
  rw [z32, zc] at h16 h19
  rw [z35] at h19 e35
  rw [← ec]
  refine PW_start (by rw [ec]; exact hT) (by unfold omN; rw [e35]; decide) (by unfold dpN; omega) ?_ ?_ (by rw [z33, z0]; omega)
  · rw [upd_at h16]
    unfold In at hp
    omega
  · rw [upd_at h19]
    exact zc
/-- a rule's codes up to the n-th place: the last place is told just now -/
def RJ (a n : Nat) (w : va_W) : Prop := (∀ k, k < n → HV w (fI w 0 13) (aF w 12 (a + 1 + k)) (aF w 12 (a + 2 + k)) ∧ (aF w 12 (a + 2 + k)).toInt.toNat ≤ cdN w) ∧ (aF w 12 (a + 1 + n)).toInt.toNat = cdN w
/-- .. or what was read behind it can be worked -/
def RQx (a n : Nat) (w : va_W) : Prop := (∀ k, k < n → HV w (fI w 0 13) (aF w 12 (a + 1 + k)) (aF w 12 (a + 2 + k)) ∧ (aF w 12 (a + 2 + k)).toInt.toNat ≤ cdN w) ∧ (aF w 12 (a + 1 + n)).toInt.toNat ≤ cdN w ∧ ¬ hsN (cfM w (fI w 0 13)) (aF w 12 (a + 1 + n)).toInt.toNat (cdN w - (aF w 12 (a + 1 + n)).toInt.toNat) = none
section RQs
variable {a n : Nat} {w w1 w2 : va_W} {c v : Int32} {i : Nat}
theorem RJ_0 {f : Nat → Int32} (hi : i = a + 1) (ec : c = aF w 14 (fI w 0 13).toNatClampNeg) (e12 : aF w1 12 = upd f i c) (e14 : aF w1 14 = aF w 14) (f13 : fI w1 0 13 = fI w 0 13) : RJ a 0 w1 := by
  refine ⟨fun k l => absurd l (Nat.not_lt_zero k), ?_⟩
  rw [e12, ← hi]
  unfold upd
  rw [if_pos rfl]
  unfold cdN
  rw [e14, f13, ← ec]
theorem RQ_st (h : RQx a n w) (hi : i = a + 2 + n) (ec : c = aF w 14 (fI w 0 13).toNatClampNeg) (e12 : aF w1 12 = upd (aF w 12) i c) (e13 : aF w1 13 = aF w 13) (e14 : aF w1 14 = aF w 14) (f13 : fI w1 0 13 = fI w 0 13) : RJ a (n + 1) w1 := by
  obtain ⟨h1, h2, h3⟩ := h
  have ecd : cdN w1 = cdN w := by unfold cdN; rw [e14, f13]
  have ecc : c.toInt.toNat = cdN w := by unfold cdN; rw [← ec]
  have lo : ∀ j, ¬ j = i → aF w1 12 j = aF w 12 j := fun j q => by rw [e12]; unfold upd; rw [if_neg q]
  have at_ : aF w1 12 i = c := upd_at e12
  refine ⟨fun k l => ?_, by rw [show a + 1 + (n + 1) = i by omega, at_, ecc, ecd]⟩
  rw [lo (a + 1 + k) (by omega), ecd, f13]
  by_cases q : k < n
  · rw [lo (a + 2 + k) (by omega)]
    exact ⟨HV_cg e13 (h1 k q).1, (h1 k q).2⟩
  · rw [show a + 2 + k = i by omega, at_, show a + 1 + k = a + 1 + n by omega, ecc]
    refine ⟨?_, Nat.le_refl _⟩
    unfold HV cfM
    rw [e13, ecc]
    exact h3
theorem RQ_of (h : RJ a n w) : RQx a n w := by
  refine ⟨h.1, Nat.le_of_eq h.2, ?_⟩
  rw [h.2, Nat.sub_self]
  intro q
  cases q
theorem RQ_cg (e12 : aF w1 12 = aF w 12) (e13 : aF w1 13 = aF w 13) (e14 : aF w1 14 = aF w 14) (f13 : fI w1 0 13 = fI w 0 13) (h : RQx a n w) : RQx a n w1 := by
  unfold RQx HV cfM cdN at *
  rw [e12, e13, e14, f13]
  exact h
theorem RQ_rd (h : RJ a n w) (e12 : aF w1 12 = aF w 12) (k : KC w w1) (hb : In 0 1 (fI w 0 13)) (hc : cdN w ≤ 1100) (g : ¬ hsN (cfM w1 (fI w1 0 13)) (cdN w) (cdN w1 - cdN w) = none) : RQx a n w1 := by
  obtain ⟨h1, h2⟩ := h
  have k1 := k.1
  unfold RQx
  rw [e12, h2]
  refine ⟨fun j l => ⟨?_, Nat.le_trans (h1 j l).2 k1⟩, k1, g⟩
  rw [k.2.1]
  exact KC_HV k hb (h1 j l).2 hc (h1 j l).1
/-- of the table of rules one row alone is changed -/
def FR (a : Int) (w w1 : va_W) : Prop := ∀ i : Nat, ((i : Int) < a ∨ a + 7 ≤ (i : Int)) → aF w1 12 i = aF w 12 i
theorem FR_cg {a : Int} (e : aF w2 12 = aF w1 12) (h : FR a w w1) : FR a w w2 := fun i q => by rw [e]; exact h i q
theorem FR_up {a : Int} (h : FR a w w1) (e : aF w2 12 = upd (aF w1 12) i v) (hi : a ≤ (i : Int) ∧ (i : Int) < a + 7) : FR a w w2 := by
  intro j q
  rw [e]
  unfold upd
  rw [if_neg (by omega)]
  exact h j q
theorem FR_rf {a : Int} (e : aF w1 12 = aF w 12) : FR a w w1 := fun i _ => by rw [e]
/-- every rule of the bank that is being read can be worked -/
def RW (w : va_W) : Prop := ∀ r : Nat, (r : Int) < (aF w 4 (fI w 0 13).toNatClampNeg).toInt → ∀ k : Nat, k < 5 → HV w (fI w 0 13) (aF w 12 (168 * (fI w 0 13).toInt.toNat + 7 * r + 1 + k)) (aF w 12 (168 * (fI w 0 13).toInt.toNat + 7 * r + 2 + k)) ∧ (aF w 12 (168 * (fI w 0 13).toInt.toNat + 7 * r + 2 + k)).toInt.toNat ≤ cdN w
/-- .. and there is no code more than signs -/
def RY (w : va_W) : Prop := (cdN w : Int) ≤ (fI w 0 5).toInt ∧ RW w
/-- of the other bank nothing is changed -/
def OB (w w1 : va_W) : Prop := KC w w1 ∧ ∀ b : Nat, b < 2 → ¬ b = (fI w 0 13).toInt.toNat → aF w1 4 b = aF w 4 b ∧ ∀ i, i < 168 → aF w1 12 (168 * b + i) = aF w 12 (168 * b + i)
theorem OB_tr (h : OB w w1) (g : OB w1 w2) : OB w w2 := by
  refine ⟨KC_tr h.1 g.1, fun b hb n => ?_⟩
  have q := g.2 b hb (by rw [h.1.2.1]; exact n)
  have p := h.2 b hb n
  exact ⟨q.1.trans p.1, fun i l => (q.2 i l).trans (p.2 i l)⟩
theorem OB_cg (e4 : aF w1 4 = aF w 4) (e12 : aF w1 12 = aF w 12) (e13 : aF w1 13 = aF w 13) (e14 : aF w1 14 = aF w 14) (f13 : fI w1 0 13 = fI w 0 13) : OB w w1 := ⟨KC_cg e13 e14 f13, fun b _ _ => by rw [e4, e12]; exact ⟨rfl, fun _ _ => rfl⟩⟩
theorem RW_cg (e4 : aF w1 4 = aF w 4) (e12 : aF w1 12 = aF w 12) (e13 : aF w1 13 = aF w 13) (e14 : aF w1 14 = aF w 14) (f13 : fI w1 0 13 = fI w 0 13) (h : RW w) : RW w1 := by
  unfold RW HV cfM cdN at *
  rw [e4, e12, e13, e14, f13]
  exact h
theorem OB_end {r x : Int32} (hK : KC w w1) (hb : In 0 1 (fI w 0 13)) (hr : In 0 23 r) (ex : x.toInt = 168 * (fI w 0 13).toInt + 7 * r.toInt) (e4 : aF w1 4 = upd (aF w 4) (fI w 0 13).toNatClampNeg v) (hf : FR x.toInt w w1) : OB w w1 := by
  refine ⟨hK, fun b hb2 n => ⟨?_, fun i l => hf _ ?_⟩⟩
  · rw [e4]
    unfold upd
    rw [if_neg (show ¬ b = (fI w 0 13).toNatClampNeg from n)]
  · unfold In at hb hr
    omega
theorem RW_end {r x : Int32} (hRW : RW w) (hK : KC w w1) (hb : In 0 1 (fI w 0 13)) (hr : In 0 23 r) (er : r = aF w 4 (fI w 0 13).toNatClampNeg) (ex : x.toInt = 168 * (fI w 0 13).toInt + 7 * r.toInt) (e4 : aF w1 4 = upd (aF w 4) (fI w 0 13).toNatClampNeg (r + 1)) (hf : FR x.toInt w w1) (g : RJ x.toInt.toNat 5 w1) (hc : cdN w ≤ 1100) : RW w1 := by
  have f13 := hK.2.1
  have k1 := hK.1
  have t := t_add hr (In_lit (n := 1) (by decide) (by decide) : In 1 1 1) (by decide)
  have z : (1 : Int32).toInt = 1 := by decide
  intro r2 l k hk
  rw [f13, upd_at e4, t, z] at l
  unfold In at hb hr
  by_cases q : (r2 : Int) < r.toInt
  · have h := hRW r2 (by rw [← er]; exact q) k hk
    rw [f13, hf _ (by omega), hf _ (by omega)]
    exact ⟨KC_HV hK hb h.2 hc h.1, Nat.le_trans h.2 k1⟩
  · have e : 168 * (fI w 0 13).toInt.toNat + 7 * r2 = x.toInt.toNat := by omega
    rw [f13, e, ← f13]
    exact g.1 k hk
/-- the bank that is in use while the other one is read -/
theorem RV_ob (h : OB w w1) (hn : ¬ (fI w 0 12).toInt = (fI w 0 13).toInt) (h12 : In 0 1 (fI w 0 12)) (h13 : In 0 1 (fI w 0 13)) (e12 : fI w1 0 12 = fI w 0 12) (h4 : ∀ j, In 0 24 (aF w 4 j)) (hr : ∀ j, In 0 1100 (aF w 12 j)) (g : RV w) : RV w1 := by
  have hb : (fI w 0 12).toInt.toNat < 2 := by unfold In at h12; omega
  have p := h.2 (fI w 0 12).toInt.toNat hb (by unfold In at h12 h13; omega)
  intro r l k hk
  rw [e12] at l ⊢
  have e4 : aF w1 4 (fI w 0 12).toNatClampNeg = aF w 4 (fI w 0 12).toNatClampNeg := p.1
  rw [e4] at l
  have l4 := h4 (fI w 0 12).toNatClampNeg
  unfold In at l4
  have q := g r l k hk
  have ea := p.2 (7 * r + 1 + k) (by omega)
  have eb := p.2 (7 * r + 2 + k) (by omega)
  rw [show 168 * (fI w 0 12).toInt.toNat + (7 * r + 1 + k) = 168 * (fI w 0 12).toInt.toNat + 7 * r + 1 + k by omega] at ea
  rw [show 168 * (fI w 0 12).toInt.toNat + (7 * r + 2 + k) = 168 * (fI w 0 12).toInt.toNat + 7 * r + 2 + k by omega] at eb
  rw [ea, eb]
  exact KC_HV2 h.1 h12 hn h13 (by have y := hr (168 * (fI w 0 12).toInt.toNat + 7 * r + 2 + k); unfold In at y; omega) q
/-- the bank that was read is in use -/
theorem RV_rw (e4 : aF w1 4 = aF w 4) (e12 : aF w1 12 = aF w 12) (e13 : aF w1 13 = aF w 13) (f12 : fI w1 0 12 = fI w 0 13) (g : RW w) : RV w1 := by
  intro r l k hk
  rw [f12, e4] at l
  have q := (g r l k hk).1
  rw [f12, e12]
  exact HV_cg e13 q
end RQs
section RVs
variable {w w1 : va_W}
theorem RV_up4 {i : Nat} {v : Int32} (e4 : aF w1 4 = upd (aF w 4) i v) (hi : ¬ (fI w 0 12).toNatClampNeg = i) (e12 : aF w1 12 = aF w 12) (e13 : aF w1 13 = aF w 13) (f12 : fI w1 0 12 = fI w 0 12) (h : RV w) : RV w1 := by
  intro r l k hk
  rw [f12, e4] at l
  unfold upd at l
  rw [if_neg hi] at l
  have q := h r l k hk
  rw [f12, e12]
  exact HV_cg e13 q
theorem RY_0 (h4 : aF w 4 (fI w 0 13).toNatClampNeg = 0) (h14 : aF w 14 (fI w 0 13).toNatClampNeg = 0) (hE : In 0 1000 (fI w 0 5)) : RY w := by
  have z : (0 : Int32).toInt = 0 := by decide
  refine ⟨?_, fun r l => ?_⟩
  · unfold cdN
    unfold In at hE
    rw [h14, z]
    omega
  · rw [h4, z] at l
    omega
theorem mu_pc {N : Nat} (hmu : 2 * (1000 - (fI w 0 5).toInt).toNat + (if fI w 0 3 = 0 then 0 else 1) + (if fI w 0 8 = 0 then 3000 else 0) < N + 1) (hs : ¬ fI w 0 3 = 0) (hf : fI w 0 8 = 0) (g : Pc w w1) (hE : In 0 1000 (fI w1 0 5)) : 2 * (1000 - (fI w1 0 5).toInt).toNat + (if fI w1 0 3 = 0 then 0 else 1) + (if fI w1 0 8 = 0 then 3000 else 0) < N := by
  unfold In at hE
  by_cases q : fI w1 0 8 = 0
  · exact mu_lk hmu hs hf (g.2 q) hE.2
  · rw [if_neg q]
    rw [if_neg hs, if_pos hf] at hmu
    have e := g.1
    have h1 : (if fI w1 0 3 = 0 then 0 else 1) ≤ 1 := by split <;> omega
    omega
theorem ot_1 {b x : Int32} (hb : In 0 1 b) (e : x.toInt = 1 - b.toInt) : ¬ b.toInt = x.toInt := by
  unfold In at hb
  omega
end RVs
section CAs
variable {w a o b W : va_W}
theorem CA_cg (h : (cdN a : Int) ≤ (fI a 0 4).toInt) (ce : cdN W = cdN a) (e4 : fI W 0 4 = fI a 0 4) : (cdN W : Int) ≤ (fI W 0 4).toInt := by
  rw [ce, e4]
  exact h
theorem AE_cg (h : (fI a 0 4).toInt ≤ (fI a 0 5).toInt) (e4 : fI W 0 4 = fI a 0 4) (e5 : fI W 0 5 = fI a 0 5) : (fI W 0 4).toInt ≤ (fI W 0 5).toInt := by
  rw [e4, e5]
  exact h
theorem CA_pg (h : (cdN a : Int) ≤ (fI a 0 4).toInt) (g : (fI a 0 4).toInt ≤ (fI a 0 5).toInt) (e5 : (fI a 0 5).toInt ≤ (fI o 0 5).toInt) (k : Pg o b) (e4 : fI W 0 4 = fI b 0 4) (ce : cdN W = cdN a) : (cdN W : Int) ≤ (fI W 0 4).toInt := by
  have q := k.1
  rw [ce, e4]
  omega
theorem CE_pg (h : (cdN w : Int) ≤ (fI w 0 5).toInt) (e5 : (fI w 0 5).toInt ≤ (fI o 0 5).toInt) (k : Pg o b) (e4 : fI W 0 4 = fI b 0 4) (ce : cdN W = cdN w) : (cdN W : Int) ≤ (fI W 0 4).toInt := by
  have q := k.1
  rw [ce, e4]
  omega
theorem AE_pg (k : Pg o b) (e4 : fI W 0 4 = fI b 0 4) (e5 : fI W 0 5 = fI b 0 5) : (fI W 0 4).toInt ≤ (fI W 0 5).toInt := by
  rw [e4, e5]
  exact k.2.1
theorem RY_cg (h : RY a) (ce : cdN W = cdN a) (e5 : (fI a 0 5).toInt ≤ (fI W 0 5).toInt) (g : RW W) : RY W := by
  refine ⟨?_, g⟩
  have q := h.1
  rw [ce]
  omega
theorem CE_ae (h : (cdN a : Int) ≤ (fI a 0 4).toInt) (g : (fI a 0 4).toInt ≤ (fI a 0 5).toInt) (ce : cdN W = cdN a) (e5 : fI W 0 5 = fI a 0 5) : (cdN W : Int) ≤ (fI W 0 5).toInt := by
  rw [ce, e5]
  omega
end CAs
