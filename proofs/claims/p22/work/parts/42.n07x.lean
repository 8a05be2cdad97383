/-! lanes as they are laid -/
def pi0 (v : Nat) : Int := if v = 1 ∨ 242 ≤ v then -2147483648 else 0
theorem pi0_m {v : Nat} (h : v = 1 ∨ 242 ≤ v) : pi0 v = -2147483648 := if_pos h
theorem pi0_z {v : Nat} (h : ¬ (v = 1 ∨ 242 ≤ v)) : pi0 v = 0 := if_neg h
theorem PB_pi0 : PB pi0 := by
  refine ⟨pi0_z (by omega), ?_, fun v hv => ?_⟩
  · rw [pi0_m (Or.inl rfl)]
    omega
  · rw [pi0_m (v := 1) (Or.inl rfl)]
    unfold pi0
    split <;> omega
def LBx (w : va_W) : Prop := lnM w % 2 = 0 ∧ NWx w ∧ O1x w ∧ FE (lnM w) (frM w) (toM w) (rmM w) (prM w) pi0
def okLn (a b t : Int32) (c : Int64) : Prop := (-2147483648 ≤ c.toInt ∧ c.toInt ≤ 2147483648) ∧ (b.toInt = 1 → 0 ≤ t.toInt) ∧ 0 ≤ c.toInt + pi0 a.toInt.toNat - pi0 b.toInt.toNat
theorem ok_1 {a b t : Int32} (ha : In 0 241 a) (na : ¬ a.toInt = 1) (hb : In 2 241 b) : okLn a b t 0 := by
  have z : (0 : Int64).toInt = 0 := by decide
  unfold In at ha hb
  refine ⟨by omega, fun q => by omega, ?_⟩
  rw [pi0_z (v := a.toInt.toNat) (by omega), pi0_z (v := b.toInt.toNat) (by omega)]
  omega
theorem ok_3 {a b t : Int32} (ha : In 242 289 a) (hb : b.toInt = 1) (ht : In 0 2147483647 t) : okLn a b t 0 := by
  have z : (0 : Int64).toInt = 0 := by decide
  unfold In at ha ht
  refine ⟨by omega, fun q => by omega, ?_⟩
  rw [pi0_m (v := a.toInt.toNat) (by omega), pi0_m (v := b.toInt.toNat) (by omega)]
  omega
theorem ok_4 {a b t x : Int32} {c : Int64} (e : c = x.toInt64) (ha : In 2 241 a) (hb : In 242 289 b) : okLn a b t c := by
  have z : c.toInt = x.toInt := by rw [e, Int32.toInt_toInt64]
  have h1 := Int32.le_toInt x
  have h2 := Int32.toInt_lt x
  unfold In at ha hb
  refine ⟨by omega, fun q => by omega, ?_⟩
  rw [pi0_z (v := a.toInt.toNat) (by omega), pi0_m (v := b.toInt.toNat) (by omega)]
  omega
section Lays
variable {w W Wg : va_W}
theorem LB_0 (h : fI W 0 62 = 0) : LBx W := by
  have z : lnM W = 0 := by
    unfold lnM
    rw [h]
    decide
  refine ⟨by rw [z], ⟨fun l hl => ?_, fun l hl => ?_⟩, fun l hl => ?_, fun l hl => ?_⟩
  all_goals
    rw [z] at hl
    exact absurd hl (Nat.not_lt_zero l)
theorem LB_cg (e38 : aF Wg 38 = aF W 38) (e39 : aF Wg 39 = aF W 39) (e40 : aF Wg 40 = aF W 40) (e41 : aL Wg 41 = aL W 41) (f62 : fI Wg 0 62 = fI W 0 62) (h : LBx W) : LBx Wg := by
  refine ⟨?_, NWx_cg e38 e39 e41 f62 h.2.1, O1x_cg e39 e40 f62 h.2.2.1, ?_⟩
  · have q := h.1
    unfold lnM at q ⊢
    rw [f62]
    exact q
  · have q := h.2.2.2
    unfold rmM prM frM toM lnM at q ⊢
    rw [e38, e39, e40, e41, f62]
    exact q
theorem u2_0 {f : Nat → Int32} {x y : Int32} {n : Nat} : upd (upd f n x) (n + 1) y n = x := by
  unfold upd
  rw [if_neg (by omega), if_pos rfl]
theorem u2_1 {f : Nat → Int32} {x y : Int32} {n : Nat} : upd (upd f n x) (n + 1) y (n + 1) = y := by
  unfold upd
  rw [if_pos rfl]
theorem u2_x {f : Nat → Int32} {x y : Int32} {n l : Nat} (h : l < n) : upd (upd f n x) (n + 1) y l = f l := by
  unfold upd
  rw [if_neg (by omega), if_neg (by omega)]
theorem v2_0 {f : Nat → Int64} {x y : Int64} {n : Nat} : vp_updL (vp_updL f n x) (n + 1) y n = x := by
  show (if n = n + 1 then y else if n = n then x else f n) = x
  rw [if_neg (by omega), if_pos rfl]
theorem v2_1 {f : Nat → Int64} {x y : Int64} {n : Nat} : vp_updL (vp_updL f n x) (n + 1) y (n + 1) = y := by
  show (if n + 1 = n + 1 then y else if n + 1 = n then x else f (n + 1)) = y
  rw [if_pos rfl]
theorem v2_x {f : Nat → Int64} {x y : Int64} {n l : Nat} (h : l < n) : vp_updL (vp_updL f n x) (n + 1) y l = f l := by
  show (if l = n + 1 then y else if l = n then x else f l) = f l
  rw [if_neg (by omega), if_neg (by omega)]
theorem LB_add {a b t : Int32} {c c2 : Int64} (hi : In 0 2198 (fI w 0 62)) (e38 : aF W 38 = upd (upd (aF w 38) (fI w 0 62).toNatClampNeg a) ((fI w 0 62) + 1).toNatClampNeg b) (e39 : aF W 39 = upd (upd (aF w 39) (fI w 0 62).toNatClampNeg b) ((fI w 0 62) + 1).toNatClampNeg a) (e40 : aF W 40 = upd (upd (aF w 40) (fI w 0 62).toNatClampNeg t) ((fI w 0 62) + 1).toNatClampNeg 0) (e41 : aL W 41 = vp_updL (vp_updL (aL w 41) (fI w 0 62).toNatClampNeg c) ((fI w 0 62) + 1).toNatClampNeg c2) (ec : c2 = -c) (f : (fI W 0 62).toInt = (fI w 0 62).toInt + 2) (h : LBx w) (ok : okLn a b t c) : LBx W := by
  obtain ⟨k1, k2, k3⟩ := ok
  obtain ⟨h1, ⟨h2, h2b⟩, h3, h4⟩ := h
  have z0 : (0 : Int32).toInt = 0 := by decide
  have z1 : (1 : Int32).toInt = 1 := by decide
  have tt := t_add hi (In_lit (n := 1) (by decide) (by decide) : In 1 1 1) (by decide)
  have en : (fI w 0 62).toNatClampNeg = lnM w := rfl
  have en1 : ((fI w 0 62) + 1).toNatClampNeg = lnM w + 1 := by
    show ((fI w 0 62) + 1).toInt.toNat = (fI w 0 62).toInt.toNat + 1
    unfold In at hi
    omega
  have eN : lnM W = lnM w + 2 := by
    show (fI W 0 62).toInt.toNat = (fI w 0 62).toInt.toNat + 2
    unfold In at hi
    omega
  rw [en, en1] at e38 e39 e40 e41
  have ct : c2.toInt = - c.toInt := by rw [ec, Int64.toInt_neg, Int.bmod_eq_of_le (by omega) (by omega)]
  have f0 : frM W (lnM w) = a.toInt.toNat := by unfold frM; rw [e38, u2_0]
  have f1 : frM W (lnM w + 1) = b.toInt.toNat := by unfold frM; rw [e38, u2_1]
  have fx : ∀ l, l < lnM w → frM W l = frM w l := fun l hl => by unfold frM; rw [e38, u2_x hl]
  have t0 : toM W (lnM w) = b.toInt.toNat := by unfold toM; rw [e39, u2_0]
  have t1 : toM W (lnM w + 1) = a.toInt.toNat := by unfold toM; rw [e39, u2_1]
  have tx : ∀ l, l < lnM w → toM W l = toM w l := fun l hl => by unfold toM; rw [e39, u2_x hl]
  have r0 : aF W 40 (lnM w) = t := by rw [e40, u2_0]
  have r1 : aF W 40 (lnM w + 1) = 0 := by rw [e40, u2_1]
  have rx : ∀ l, l < lnM w → aF W 40 l = aF w 40 l := fun l hl => by rw [e40, u2_x hl]
  have p0 : prM W (lnM w) = c.toInt := by unfold prM; rw [e41, v2_0]
  have p1 : prM W (lnM w + 1) = - c.toInt := by unfold prM; rw [e41, v2_1]; exact ct
  have px : ∀ l, l < lnM w → prM W l = prM w l := fun l hl => by unfold prM; rw [e41, v2_x hl]
  have cs : ∀ l, l < lnM W → l = lnM w ∨ l = lnM w + 1 ∨ l < lnM w := fun l hl => by rw [eN] at hl; omega
  refine ⟨by rw [eN]; omega, ⟨fun l hl => ?_, fun l hl => ?_⟩, fun l hl tl => ?_, fun l hl rl => ?_⟩
  · rcases cs l hl with q | q | q
    · have x0 : xr l = lnM w + 1 := by
        unfold xr
        rw [if_pos (by omega)]
        omega
      rw [x0, q, p0, p1, f0, f1, t0, t1]
      exact ⟨rfl, rfl, rfl⟩
    · have x0 : xr l = lnM w := by
        unfold xr
        rw [if_neg (by omega)]
        omega
      rw [x0, q, p0, p1, f0, f1, t0, t1]
      exact ⟨by omega, rfl, rfl⟩
    · have hx2 : xr l < lnM w := by
        unfold xr
        split <;> omega
      rw [px _ hx2, px _ q, fx _ hx2, tx _ q, tx _ hx2, fx _ q]
      exact h2 l q
  · rcases cs l hl with q | q | q
    · rw [q, p0]
      exact k1
    · rw [q, p1]
      omega
    · rw [px _ q]
      exact h2b l q
  · rcases cs l hl with q | q | q
    · rw [q, t0] at tl
      rw [q, r0]
      exact k2 (by omega)
    · rw [q, r1]
      omega
    · rw [tx _ q] at tl
      rw [rx _ q]
      exact h3 l q tl
  · rcases cs l hl with q | q | q
    · rw [q, p0, f0, t0]
      exact k3
    · exact absurd (by rw [q]; exact r1) rl
    · rw [px _ q, fx _ q, tx _ q]
      refine h4 l q ?_
      unfold rmM at rl ⊢
      rw [rx _ q] at rl
      exact rl
theorem FP_0 (h : LBx W) : FPx W := ⟨pi0, h.2.2.2, PB_pi0⟩
theorem PR_up (e44 : aF Wg 44 = aF W 44) (hl : lnM W ≤ lnM Wg) (h : PRx W) : PRx Wg := by
  intro k hk h0
  rw [e44] at h0 ⊢
  exact Nat.lt_of_lt_of_le (h k hk h0) hl
theorem PR_fl {y : Int32} (hy : 400 ≤ y.toInt) (h : ∀ i : Nat, i < y.toInt.toNat → aF W 44 i = -1) : PRx W := by
  intro k hk h0
  rw [h k (by omega)] at h0
  exact absurd h0 (by decide)
theorem PR_st {i : Nat} {r : Int32} (e : aF Wg 44 = upd (aF W 44) i r) (hr : r.toInt.toNat < lnM W) (hl : fI Wg 0 62 = fI W 0 62) (h : PRx W) : PRx Wg := by
  have el : lnM Wg = lnM W := by
    unfold lnM
    rw [hl]
  intro k hk h0
  rw [e] at h0 ⊢
  unfold upd at h0 ⊢
  rw [el]
  by_cases q : k = i
  · rw [if_pos q]
    exact hr
  · rw [if_neg q] at h0 ⊢
    exact h k hk h0
theorem fi44 {f g : Nat → Int32} {x v : Int32} (hx : In 0 399 x) (h : ∀ i : Nat, i < x.toInt.toNat → f i = v) (e : g = upd f x.toNatClampNeg v) : ∀ i : Nat, i < (x + 1).toInt.toNat → g i = v := by
  intro i hi
  have t := t_add hx (In_lit (n := 1) (by decide) (by decide) : In 1 1 1) (by decide)
  have z : (1 : Int32).toInt = 1 := by decide
  unfold In at hx
  rw [e]
  unfold upd
  by_cases q : i = x.toNatClampNeg
  · rw [if_pos q]
  · rw [if_neg q]
    have q2 : ¬ i = x.toInt.toNat := q
    exact h i (by omega)
end Lays
