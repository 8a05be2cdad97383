/-! the reference's giving: what is told of it -/
/-- a set of kinds, as bits -/
def stN (p : Nat → Int) : Nat → Int
  | 0 => 0
  | k + 1 => stN p k + (if p k = 1 then ((2 ^ k : Nat) : Int) else 0)
def GvU (b : BST) (OL : List OT) (L : LT) (now : Nat) (X : Nat → Nat → Int) (s : PS) : Prop := s 0 68 = 1 ∧ s 0 80 = 0 ∧ s 0 69 = (nG L now : Int) ∧ ChU b OL L now (nG L now) s ∧ (∀ c, c < nG L now → s 52 c = stN (X c) b.1.length ∧ s 53 c = stN (X c) b.1.length) ∧ (∀ k, k < b.1.length → s 54 k = cuD (cmG L now) k 24 - sgN (fun i => X i k) (nG L now)) ∧ s 0 78 = dSize (nG L now) b.1.length X ∧ s 0 79 = wi (dPts (nG L now) b.1.length (ptG b L now OL) X)
section TellM
variable {b : BST} {OL : List OT} {L : LT} {now : Nat} {s t u v : PS} {r : Int} {X : Nat → Nat → Int} {p q : Nat → Int}
theorem stN_in : ∀ k : Nat, 0 ≤ stN p k ∧ stN p k < ((2 ^ k : Nat) : Int)
  | 0 => by
    show (0 : Int) ≤ 0 ∧ (0 : Int) < ((2 ^ 0 : Nat) : Int)
    exact ⟨Int.le_refl 0, by decide⟩
  | k + 1 => by
    have z := stN_in k
    show 0 ≤ stN p k + (if p k = 1 then ((2 ^ k : Nat) : Int) else 0) ∧ stN p k + (if p k = 1 then ((2 ^ k : Nat) : Int) else 0) < ((2 ^ (k + 1) : Nat) : Int)
    have e : 2 ^ (k + 1) = 2 * 2 ^ k := by
      rw [Nat.pow_succ]
      omega
    rw [e]
    split
    · omega
    · omega
theorem stN_cg : ∀ k : Nat, (∀ i, i < k → p i = q i) → stN p k = stN q k
  | 0, _ => rfl
  | k + 1, h => by
    show stN p k + (if p k = 1 then ((2 ^ k : Nat) : Int) else 0) = stN q k + (if q k = 1 then ((2 ^ k : Nat) : Int) else 0)
    rw [stN_cg k (fun i hi => h i (by omega)), h k (by omega)]
theorem pow10 {k : Nat} (h : k ≤ 10) : 2 ^ k ≤ 1024 := Nat.le_trans (Nat.pow_le_pow_right (by decide) h) (by decide)
theorem shlN0 : ∀ k : Fin 10, iShl 1 (k.val : Int) = ((2 ^ k.val : Nat) : Int) := by decide +kernel
theorem shlN {k : Nat} (h : k < 10) : iShl 1 (k : Int) = ((2 ^ k : Nat) : Int) := shlN0 ⟨k, h⟩
theorem orN {v k : Nat} (hk : k < 10) (hv : v < 2 ^ k) : iOr (v : Int) ((2 ^ k : Nat) : Int) = ((2 ^ k + v : Nat) : Int) := by
  have b10 := pow10 (show k ≤ 10 by omega)
  unfold iOr
  have e1 : (Int32.ofInt (v : Int)).toBitVec.toNat = v := by
    show (BitVec.ofInt 32 (v : Int)).toNat = _
    rw [BitVec.toNat_ofInt]
    show v % 2 ^ 32 = v
    exact Nat.mod_eq_of_lt (by omega)
  have e2 : (Int32.ofInt ((2 ^ k : Nat) : Int)).toBitVec.toNat = 2 ^ k := by
    show (BitVec.ofInt 32 ((2 ^ k : Nat) : Int)).toNat = _
    rw [BitVec.toNat_ofInt]
    show 2 ^ k % 2 ^ 32 = 2 ^ k
    exact Nat.mod_eq_of_lt (by omega)
  have e3 : (Int32.ofInt (v : Int) ||| Int32.ofInt ((2 ^ k : Nat) : Int)).toBitVec.toNat = 2 ^ k + v := by
    show ((Int32.ofInt (v : Int)).toBitVec ||| (Int32.ofInt ((2 ^ k : Nat) : Int)).toBitVec).toNat = _
    rw [BitVec.toNat_or, e1, e2, Nat.or_comm]
    have z := Nat.two_pow_add_eq_or_of_lt (i := k) (b := v) hv 1
    rw [Nat.mul_one] at z
    exact z.symm
  show (Int32.ofInt (v : Int) ||| Int32.ofInt ((2 ^ k : Nat) : Int)).toBitVec.toInt = _
  rw [BitVec.toInt_eq_toNat_of_lt (by rw [e3]; omega), e3]
/-- one kind more in a set -/
theorem orS {k : Nat} (hk : k < 10) : iOr (stN p k) (iShl 1 (k : Int)) = stN p k + ((2 ^ k : Nat) : Int) := by
  have z := stN_in (p := p) k
  obtain ⟨v, hv⟩ : ∃ v : Nat, stN p k = (v : Int) := ⟨(stN p k).toNat, by omega⟩
  rw [hv] at z ⊢
  rw [shlN hk, orN hk (by omega)]
  omega
theorem wi_wi (x y : Int) : wi (wi x + y) = wi (x + y) := by
  unfold wi
  exact Int.bmod_add_bmod
/-- left over: what came -/
theorem give340 (hH : GvH b OL L now) : ∀ m : Nat, (∀ (k : Nat) (s : PS) (r : Int) (t : PS), It_X12_give m 340 (k : Int) 0 s r t → GvE b OL L now s → k ≤ b.1.length → (∀ k d : Nat, k < 10 → d < 25 → s 46 (25 * k + d) = cmG L now k d) → (∀ i, i < k → s 54 i = cuD (cmG L now) i 24) → ∃ (m2 : Nat) (s2 : PS), It_X12_give m2 402 0 0 s2 r t ∧ (∀ i, i < b.1.length → s2 54 i = cuD (cmG L now) i 24) ∧ ∀ x, ¬ x = 54 → s2 x = s x) ∧ (∀ (k e : Nat) (s : PS) (r : Int) (t : PS), It_X12_give m 362 (k : Int) ((e : Int) + 1) s r t → GvE b OL L now s → k < b.1.length → e ≤ 24 → (∀ k d : Nat, k < 10 → d < 25 → s 46 (25 * k + d) = cmG L now k d) → (∀ i, i < k → s 54 i = cuD (cmG L now) i 24) → s 54 k = cuD (cmG L now) k e → ∃ (m2 : Nat) (s2 : PS), It_X12_give m2 402 0 0 s2 r t ∧ (∀ i, i < b.1.length → s2 54 i = cuD (cmG L now) i 24) ∧ ∀ x, ¬ x = 54 → s2 x = s x)
  | 0 => ⟨fun k s r t h => False.elim h, fun k e s r t h => False.elim h⟩
  | m + 1 => by
    have ih := give340 hH m
    have h10 := hH.2.2.2.2.2.1
    have pass : ∀ {s s1 : PS}, (∀ x, ¬ x = 54 → s1 x = s x) → GvE b OL L now s → (∀ k d : Nat, k < 10 → d < 25 → s 46 (25 * k + d) = cmG L now k d) → GvE b OL L now s1 ∧ (∀ k d : Nat, k < 10 → d < 25 → s1 46 (25 * k + d) = cmG L now k d) := by
      intro s s1 g1 g2 g3
      exact ⟨g2.cg (fun k _ _ => g1 k (by omega)) (by rw [g1 0 (by decide)]) (by rw [g1 0 (by decide)]) (by rw [g1 0 (by decide)]) (by rw [g1 0 (by decide)]), fun k d hk hd => by rw [g1 46 (by decide)]; exact g3 k d hk hd⟩
    refine ⟨fun k s r t h hE hk h46 h54 => ?_, fun k e s r t h hE hk he h46 h54 hc => ?_⟩
    · replace h := ul_X12_give_340 h
      unfold T_X12_give_340 at h
      obtain ⟨_, _, h⟩ := h
      rw [hE.kinds, Int.toNat_natCast] at h
      rcases h with ⟨c, h⟩ | ⟨c, s30, e30, h⟩
      · have e : k = b.1.length := by omega
        rw [e] at h54
        exact ⟨m, s, h, h54, fun _ _ => rfl⟩
      · have g1 : ∀ x, ¬ x = 54 → s30 x = s x := fun x hx => by rw [e30, us_k hx]
        obtain ⟨p1, p2⟩ := pass g1 hE h46
        obtain ⟨m2, s2, w1, w2, w3⟩ := ih.2 k 0 s30 r t h p1 (by clear h; omega) (Nat.zero_le _) p2 (fun i hi => by rw [e30, us_j (by omega)]; exact h54 i hi) (by rw [e30, us_at]; rfl)
        exact ⟨m2, s2, w1, w2, fun x hx => (w3 x hx).trans (g1 x hx)⟩
    · replace h := ul_X12_give_362 h
      unfold T_X12_give_362 at h
      obtain ⟨_, _, _, h⟩ := h
      rcases h with ⟨c, h⟩ | ⟨c, s27, e27, h⟩
      · have e24 : e = 24 := by omega
        rw [e24] at hc
        exact ih.1 (k + 1) s r t h hE (by omega) h46 (fun i hi => by
          by_cases q : i = k
          · rw [q]
            exact hc
          · exact h54 i (by omega))
      · have ei : (25 * (k : Int) + ((e : Int) + 1)).toNat = 25 * k + (e + 1) := by
          clear h
          omega
        have ec := h46 k (e + 1) (by omega) (by clear h; omega)
        have ci := cmG_in hH k (e + 1)
        have cb : 0 ≤ cuD (cmG L now) k e ∧ cuD (cmG L now) k e ≤ 19800 * (e : Int) := by
          clear h c ei ec hc e27
          have a1 := sgN_nn (f := fun e => cmG L now k (e + 1)) e (fun i _ => (cmG_in hH k (i + 1)).1)
          have a2 : ∀ e : Nat, sgN (fun e => cmG L now k (e + 1)) e ≤ 19800 * (e : Int) := by
            intro e
            induction e with
            | zero => exact Int.le_refl 0
            | succ e ih =>
              have z := cmG_in hH k (e + 1)
              show sgN (fun e => cmG L now k (e + 1)) e + cmG L now k (e + 1) ≤ _
              omega
          exact ⟨a1, a2 e⟩
        rw [ei, ec, Int.toNat_natCast, hc, wi_id (by clear h; omega) (by clear h; omega)] at e27
        have g1 : ∀ x, ¬ x = 54 → s27 x = s x := fun x hx => by rw [e27, us_k hx]
        obtain ⟨p1, p2⟩ := pass g1 hE h46
        obtain ⟨m2, s2, w1, w2, w3⟩ := ih.2 k (e + 1) s27 r t h p1 hk (by clear h; omega) p2 (fun i hi => by rw [e27, us_j (by omega)]; exact h54 i hi) (by rw [e27, us_at]; rfl)
        exact ⟨m2, s2, w1, w2, fun x hx => (w3 x hx).trans (g1 x hx)⟩
/-- what is told of the first c children, and of child c's first k kinds -/
def TlU (b : BST) (OL : List OT) (L : LT) (now : Nat) (X : Nat → Nat → Int) (c k : Nat) (s : PS) : Prop := (∀ i, i < c → s 52 i = stN (X i) b.1.length ∧ s 53 i = stN (X i) b.1.length) ∧ (∀ i, i < b.1.length → s 54 i = cuD (cmG L now) i 24 - sgN (fun j => X j i) c - (if i < k then X c i else 0)) ∧ s 0 78 = sgN (fun i => sgN (fun j => X i j) b.1.length) c + sgN (X c) k ∧ s 0 79 = wi (sgN (fun i => sgN (fun j => ptG b L now OL i j * X i j) b.1.length) c + sgN (fun j => ptG b L now OL c j * X c j) k)
theorem x_in (hX : ∀ c k, c < nG L now → k < b.1.length → X c k = 0 ∨ X c k = 1) {c : Nat} (hc : c ≤ nG L now) {k : Nat} (hk : k < b.1.length) : 0 ≤ sgN (fun j => X j k) c ∧ sgN (fun j => X j k) c ≤ (c : Int) := by
  induction c with
  | zero => exact ⟨Int.le_refl 0, Int.le_refl 0⟩
  | succ c ih =>
    have z := ih (by omega)
    have y := hX c k (by omega) hk
    show 0 ≤ sgN (fun j => X j k) c + X c k ∧ sgN (fun j => X j k) c + X c k ≤ ((c + 1 : Nat) : Int)
    omega
theorem y_in (hX : ∀ c k, c < nG L now → k < b.1.length → X c k = 0 ∨ X c k = 1) {c : Nat} (hc : c < nG L now) {k : Nat} (hk : k ≤ b.1.length) : 0 ≤ sgN (X c) k ∧ sgN (X c) k ≤ (k : Int) := by
  induction k with
  | zero => exact ⟨Int.le_refl 0, Int.le_refl 0⟩
  | succ k ih =>
    have z := ih (by omega)
    have y := hX c k hc (by omega)
    show 0 ≤ sgN (X c) k + X c k ∧ sgN (X c) k + X c k ≤ ((k + 1 : Nat) : Int)
    omega
theorem z_in (hX : ∀ c k, c < nG L now → k < b.1.length → X c k = 0 ∨ X c k = 1) {c : Nat} (hc : c ≤ nG L now) : 0 ≤ sgN (fun i => sgN (fun j => X i j) b.1.length) c ∧ sgN (fun i => sgN (fun j => X i j) b.1.length) c ≤ (b.1.length : Int) * (c : Int) := by
  induction c with
  | zero => exact ⟨Int.le_refl 0, by rw [show ((0 : Nat) : Int) = 0 from rfl, Int.mul_zero]; exact Int.le_refl 0⟩
  | succ c ih =>
    have z := ih (by omega)
    have y := y_in hX (show c < nG L now by omega) (Nat.le_refl b.1.length)
    have y2 : 0 ≤ sgN (fun j => X c j) b.1.length ∧ sgN (fun j => X c j) b.1.length ≤ (b.1.length : Int) := y
    have e : (b.1.length : Int) * ((c + 1 : Nat) : Int) = (b.1.length : Int) * (c : Int) + (b.1.length : Int) := by
      rw [show ((c + 1 : Nat) : Int) = (c : Int) + 1 from rfl, Int.mul_add, Int.mul_one]
    rw [e]
    show 0 ≤ sgN (fun i => sgN (fun j => X i j) b.1.length) c + sgN (fun j => X c j) b.1.length ∧ sgN (fun i => sgN (fun j => X i j) b.1.length) c + sgN (fun j => X c j) b.1.length ≤ _
    omega
theorem cuD_in (hH : GvH b OL L now) {k : Nat} : 0 ≤ cuD (cmG L now) k 24 ∧ cuD (cmG L now) k 24 ≤ 475200 := by
  have a1 := sgN_nn (f := fun e => cmG L now k (e + 1)) 24 (fun i _ => (cmG_in hH k (i + 1)).1)
  have a2 : ∀ e : Nat, sgN (fun e => cmG L now k (e + 1)) e ≤ 19800 * (e : Int) := by
    intro e
    induction e with
    | zero => exact Int.le_refl 0
    | succ e ih =>
      have z := cmG_in hH k (e + 1)
      show sgN (fun e => cmG L now k (e + 1)) e + cmG L now k (e + 1) ≤ _
      omega
  exact ⟨a1, a2 24⟩
theorem give402 (hH : GvH b OL L now) (hX : ∀ c k, c < nG L now → k < b.1.length → X c k = 0 ∨ X c k = 1) : ∀ m : Nat, (∀ (c : Nat) (s : PS) (r : Int) (t : PS), It_X12_give m 402 (c : Int) 0 s r t → GvE b OL L now s → c ≤ nG L now → (∀ q, q < 400 → s 45 q = flatD (nG L now) b.1.length X q) → TlU b OL L now X c 0 s → ∃ s2 : PS, TlU b OL L now X (nG L now) 0 s2 ∧ r = s2 0 78 ∧ t = us (us s2 0 68 1) 0 80 0 ∧ (∀ x, 47 ≤ x → x ≤ 51 → s2 x = s x) ∧ s2 0 69 = s 0 69) ∧ (∀ (c k : Nat) (s : PS) (r : Int) (t : PS), It_X12_give m 419 (c : Int) (k : Int) s r t → GvE b OL L now s → c < nG L now → k ≤ b.1.length → (∀ q, q < 400 → s 45 q = flatD (nG L now) b.1.length X q) → TlU b OL L now X c k s → s 52 c = stN (X c) k → ∃ s2 : PS, TlU b OL L now X (nG L now) 0 s2 ∧ r = s2 0 78 ∧ t = us (us s2 0 68 1) 0 80 0 ∧ (∀ x, 47 ≤ x → x ≤ 51 → s2 x = s x) ∧ s2 0 69 = s 0 69) ∧ (∀ (c k : Nat) (s : PS) (r : Int) (t : PS), It_X12_give m 496 (c : Int) (k : Int) s r t → GvE b OL L now s → c < nG L now → k < b.1.length → (∀ q, q < 400 → s 45 q = flatD (nG L now) b.1.length X q) → TlU b OL L now X c (k + 1) s → s 52 c = stN (X c) (k + 1) → ∃ s2 : PS, TlU b OL L now X (nG L now) 0 s2 ∧ r = s2 0 78 ∧ t = us (us s2 0 68 1) 0 80 0 ∧ (∀ x, 47 ≤ x → x ≤ 51 → s2 x = s x) ∧ s2 0 69 = s 0 69)
  | 0 => ⟨fun c s r t h => False.elim h, fun c k s r t h => False.elim h, fun c k s r t h => False.elim h⟩
  | m + 1 => by
    have ih := give402 hH hX m
    have hH0 := hH
    obtain ⟨hl, hL2, _, hS, hG, h10, h8, h28, h24⟩ := hH0
    have hn : nG L now ≤ 40 := hS.1
    refine ⟨fun c s r t h hE hc h45 hT => ?_, fun c k s r t h hE hc hk h45 hT h52 => ?_, fun c k s r t h hE hc hk h45 hT h52 => ?_⟩
    · replace h := ul_X12_give_402 h
      unfold T_X12_give_402 at h
      obtain ⟨_, _, h⟩ := h
      rw [hE.kids.1, Int.toNat_natCast] at h
      rcases h with ⟨c1, s20, e20, s21, e21, er, es⟩ | ⟨c1, s22, e22, h⟩
      · have e : c = nG L now := by
          unfold nG at *
          omega
        rw [e] at hT
        exact ⟨s, hT, er, by rw [es, e21, e20], fun _ _ _ => rfl, rfl⟩
      · have hc2 : c < nG L now := by
          clear h
          unfold nG
          omega
        have k22 : ∀ x, ¬ x = 52 → s22 x = s x := fun x hx => by rw [e22, us_k hx]
        obtain ⟨s2, w1, w2, w3, w4, w5⟩ := ih.2.1 c 0 s22 r t h (hE.cg (fun x _ _ => k22 x (by omega)) (by rw [k22 0 (by decide)]) (by rw [k22 0 (by decide)]) (by rw [k22 0 (by decide)]) (by rw [k22 0 (by decide)])) hc2 (Nat.zero_le _) (fun q hq => by rw [k22 45 (by decide)]; exact h45 q hq) ⟨fun i hi => by
          rw [e22, us_j (by omega), us_k (by decide)]
          exact hT.1 i hi, fun i hi => by rw [k22 54 (by decide)]; exact hT.2.1 i hi, by rw [k22 0 (by decide)]; exact hT.2.2.1, by rw [k22 0 (by decide)]; exact hT.2.2.2⟩ (by rw [e22, us_at]; rfl)
        exact ⟨s2, w1, w2, w3, fun x x1 x2 => (w4 x x1 x2).trans (k22 x (by omega)), w5.trans (by rw [k22 0 (by decide)])⟩
    · replace h := ul_X12_give_419 h
      unfold T_X12_give_419 at h
      obtain ⟨_, _, _, h⟩ := h
      rw [hE.kinds] at h
      have ei : (10 * (c : Int) + (k : Int)).toNat = 10 * c + k := by
        clear h
        omega
      rw [ei] at h
      simp only [Int.toNat_natCast] at h
      rcases h with ⟨c1, s4, e4, h⟩ | ⟨c1, h⟩
      · have e : k = b.1.length := by omega
        rw [e] at hT h52
        have k4 : ∀ x, ¬ x = 53 → s4 x = s x := fun x hx => by rw [e4, us_k hx]
        obtain ⟨s2, w1, w2, w3, w4, w5⟩ := ih.1 (c + 1) s4 r t h (hE.cg (fun x _ _ => k4 x (by omega)) (by rw [k4 0 (by decide)]) (by rw [k4 0 (by decide)]) (by rw [k4 0 (by decide)]) (by rw [k4 0 (by decide)])) hc (fun q hq => by rw [k4 45 (by decide)]; exact h45 q hq) ⟨fun i hi => by
          rw [e4, us_k (by decide)]
          by_cases q : i = c
          · rw [q, us_at, h52]
            exact ⟨rfl, rfl⟩
          · rw [us_j q]
            exact hT.1 i (by omega), fun i hi => by
          rw [k4 54 (by decide), hT.2.1 i hi, if_pos hi, if_neg (Nat.not_lt_zero _)]
          show cuD (cmG L now) i 24 - sgN (fun j => X j i) c - X c i = cuD (cmG L now) i 24 - (sgN (fun j => X j i) c + X c i) - 0
          omega, by
          rw [k4 0 (by decide), hT.2.2.1]
          show sgN (fun i => sgN (fun j => X i j) b.1.length) c + sgN (X c) b.1.length = (sgN (fun i => sgN (fun j => X i j) b.1.length) c + sgN (fun j => X c j) b.1.length) + 0
          rw [Int.add_zero], by
          rw [k4 0 (by decide), hT.2.2.2]
          show wi (sgN (fun i => sgN (fun j => ptG b L now OL i j * X i j) b.1.length) c + sgN (fun j => ptG b L now OL c j * X c j) b.1.length) = wi ((sgN (fun i => sgN (fun j => ptG b L now OL i j * X i j) b.1.length) c + sgN (fun j => ptG b L now OL c j * X c j) b.1.length) + 0)
          rw [Int.add_zero]⟩
        exact ⟨s2, w1, w2, w3, fun x x1 x2 => (w4 x x1 x2).trans (k4 x (by omega)), w5.trans (by rw [k4 0 (by decide)])⟩
      · have hk2 : k < b.1.length := by
          clear h
          omega
        have xv := hX c k hc hk2
        have ex : s 45 (10 * c + k) = X c k := by
          rw [h45 (10 * c + k) (by omega)]
          unfold flatD
          have d10 : (10 * c + k) / 10 = c := by omega
          have m10 : (10 * c + k) % 10 = k := by omega
          rw [d10, m10, if_pos ⟨hc, hk2⟩]
        rw [ex] at h
        have sg : sgN (X c) (k + 1) = sgN (X c) k + X c k := rfl
        have sp : sgN (fun j => ptG b L now OL c j * X c j) (k + 1) = sgN (fun j => ptG b L now OL c j * X c j) k + ptG b L now OL c k * X c k := rfl
        have st1 : stN (X c) (k + 1) = stN (X c) k + (if X c k = 1 then ((2 ^ k : Nat) : Int) else 0) := rfl
        rcases h with ⟨c2, h⟩ | ⟨c2, s10, e10, s12, e12, s13, e13, r15, s14, m14, _, _, s18, e18, h⟩
        · refine ih.2.2 c k s r t h hE hc hk2 h45 ⟨hT.1, fun i hi => ?_, ?_, ?_⟩ ?_
          · rw [hT.2.1 i hi]
            by_cases q : i = k
            · rw [q, if_neg (Nat.lt_irrefl k), if_pos (Nat.lt_succ_self k), c2]
            · by_cases q2 : i < k
              · rw [if_pos q2, if_pos (by omega)]
              · rw [if_neg q2, if_neg (by omega)]
          · rw [hT.2.2.1, sg, c2, Int.add_zero]
          · rw [hT.2.2.2, sp, c2, Int.mul_zero, Int.add_zero]
          · rw [h52, st1, if_neg (by omega), Int.add_zero]
        · have x1 : X c k = 1 := by
            clear h
            omega
          have E13 : GvE b OL L now s13 := by
            refine hE.cg (fun x h1 h2 => ?_) ?_ ?_ ?_ ?_
            · rw [e13, us_k (by omega), e12, us_k (by omega), e10, us_k (by omega)]
            · rw [e13, us_j (by decide), e12, us_k (by decide), e10, us_k (by decide)]
            · rw [e13, us_j (by decide), e12, us_k (by decide), e10, us_k (by decide)]
            · rw [e13, us_j (by decide), e12, us_k (by decide), e10, us_k (by decide)]
            · rw [e13, us_j (by decide), e12, us_k (by decide), e10, us_k (by decide)]
          obtain ⟨p1, p2⟩ := pointsOfM hS hc hG h8 h28 hk2 E13.1 m14
          have pe : r15 = ptG b L now OL c k := p1
          have k18 : ∀ x, ¬ x = 0 → ¬ x = 37 → ¬ x = 52 → ¬ x = 54 → s18 x = s x := fun x a1 a2 a3 a4 => by rw [e18, us_k a1, p2 x a2, e13, us_k a1, e12, us_k a4, e10, us_k a3]
          have k180 : ∀ j, ¬ j = 78 → ¬ j = 79 → s18 0 j = s 0 j := fun j a1 a2 => by rw [e18, us_j a2, p2 0 (by decide), e13, us_j a1, e12, us_k (by decide), e10, us_k (by decide)]
          have v52 : ∀ i, s18 52 i = if i = c then iOr (s 52 c) (iShl 1 (k : Int)) else s 52 i := fun i => by rw [e18, us_k (by decide), p2 52 (by decide), e13, us_k (by decide), e12, us_k (by decide), e10, us_f]
          have v54 : ∀ i, s18 54 i = if i = k then wi (s 54 k - 1) else s 54 i := fun i => by rw [e18, us_k (by decide), p2 54 (by decide), e13, us_k (by decide), e12, us_f, e10, us_k (by decide)]
          have v78 : s18 0 78 = wi (s 0 78 + 1) := by rw [e18, us_j (by decide), p2 0 (by decide), e13, us_at]
          have v79 : s18 0 79 = wi (s 0 79 + r15) := by rw [e18, us_at]
          have cb := cuD_in hH (k := k)
          have xb := x_in hX (Nat.le_of_lt hc) hk2
          have yb := y_in hX hc (Nat.le_of_lt hk2)
          have zb := z_in hX (Nat.le_of_lt hc)
          have zb2 : (b.1.length : Int) * (c : Int) ≤ 10 * 40 := by
            have a1 : b.1.length * c ≤ 10 * 40 := Nat.mul_le_mul h10 (by omega)
            have a2 : ((b.1.length * c : Nat) : Int) ≤ ((10 * 40 : Nat) : Int) := by omega
            rw [Int.natCast_mul] at a2
            exact a2
          have o54 := hT.2.1 k hk2
          rw [if_neg (Nat.lt_irrefl k)] at o54
          have o78 := hT.2.2.1
          obtain ⟨s2, w1, w2, w3, w4, w5⟩ := ih.2.2 c k s18 r t h (hE.cg (fun x a1 a2 => by
            by_cases q : x = 0
            · omega
            · exact k18 x q (by omega) (by omega) (by omega)) (k180 12 (by decide) (by decide)) (k180 37 (by decide) (by decide)) (k180 39 (by decide) (by decide)) (k180 45 (by decide) (by decide))) hc hk2 (fun q hq => by rw [k18 45 (by decide) (by decide) (by decide) (by decide)]; exact h45 q hq) ⟨fun i hi => by
              rw [v52, if_neg (by omega), k18 53 (by decide) (by decide) (by decide) (by decide)]
              exact hT.1 i hi, fun i hi => by
              rw [v54]
              by_cases q : i = k
              · rw [if_pos q, q, if_pos (Nat.lt_succ_self k), o54, wi_id (by clear h; omega) (by clear h; omega), x1]
                omega
              · rw [if_neg q, hT.2.1 i hi]
                by_cases q2 : i < k
                · rw [if_pos q2, if_pos (by omega)]
                · rw [if_neg q2, if_neg (by omega)], by
              rw [v78, o78, wi_id (by clear h; omega) (by clear h; omega), sg, x1]
              omega, by
              rw [v79, hT.2.2.2, wi_wi, sp, x1, Int.mul_one, pe, Int.add_assoc]⟩ (by
              rw [v52, if_pos rfl, h52, orS (by omega), st1, if_pos x1])
          exact ⟨s2, w1, w2, w3, fun x a1 a2 => (w4 x a1 a2).trans (k18 x (by omega) (by omega) (by omega) (by omega)), w5.trans (k180 69 (by decide) (by decide))⟩
    · replace h := ul_X12_give_496 h
      unfold T_X12_give_496 at h
      obtain ⟨_, _, _, h⟩ := h
      exact ih.2.1 c (k + 1) s r t h hE hc (by omega) h45 hT h52
/-- the reference's giving is the best deal -/
theorem giveM (hH : GvH b OL L now) (hK : ∀ {r2 : Int} {v2 : PS}, M_X12_knows u r2 v2 → GvE b OL L now v2) (h : M_X12_give u r v) : ∃ X, BestG b OL L now X ∧ GvU b OL L now X v ∧ r = dSize (nG L now) b.1.length X := by
  have hH0 := hH
  obtain ⟨hl, hL2, ⟨kn, hkn, hO⟩, hS, hG, h10, h8, h28, h24⟩ := hH0
  obtain ⟨m, h⟩ := h
  unfold T_X12_give_e at h
  obtain ⟨_, s100, m100, _, _, s104, m104, _, _, s107, e107, h⟩ := h
  have E100 := hK m100
  obtain ⟨a1, a2⟩ := arrivesM hkn hO hL2 hl E100.2.1 E100.2.2 m104
  have k107 : ∀ x, ¬ x = 0 → ¬ x = 46 → s107 x = s100 x := fun x x1 x2 => by rw [e107, us_k x1, a2 x x2]
  have k1070 : ∀ j, ¬ j = 62 → s107 0 j = s100 0 j := fun j hj => by rw [e107, us_j hj, a2 0 (by decide)]
  have E107 : GvE b OL L now s107 := E100.cg (fun x h1 h2 => k107 x (by omega) (by omega)) (k1070 12 (by decide)) (k1070 37 (by decide)) (k1070 39 (by decide)) (k1070 45 (by decide))
  have c107 : ∀ k d : Nat, k < 10 → d < 25 → s107 46 (25 * k + d) = cmG L now k d := fun k d hk hd => by
    rw [e107, us_k (by decide)]
    exact a1 k d hk hd
  obtain ⟨m1, s1, w1, w2, w3, w4⟩ := (give15 (dy := dyG L now) (cm := cmG L now) (D := duG b L now OL) (Pt := ptG b L now OL) h10 m).1 0 s107 r v h E107.kinds (Nat.zero_le _) c107 ⟨by rw [e107, us_at]; rfl, fun j hj => absurd hj (Nat.not_lt_zero _)⟩
  obtain ⟨m2, s2, x1, x2, x3, x4, x5⟩ := give121 m1 0 s1 r v w1 (Nat.zero_le _) (fun q hq => absurd hq (Nat.not_lt_zero _))
  have E1 : GvE b OL L now s1 := E107.cg (fun x h1 h2 => w3 x (by omega) (by omega)) (w4 12 (by decide)) (w4 37 (by decide)) (w4 39 (by decide)) (w4 45 (by decide))
  have E2 : GvE b OL L now s2 := E1.cg (fun x h1 h2 => x4 x (by omega) (by omega)) (x5 12 (by decide)) (x5 37 (by decide)) (x5 39 (by decide)) (x5 45 (by decide))
  have tg0 : tgTo b OL L now 0 = catN (tgK (cmG L now)) b.1.length := List.append_nil _
  have B2 : BdU b OL L now (tgTo b OL L now 0) s2 := by
    refine ⟨E2, ?_, fun q hq => Or.inl ⟨x2 q hq, fun z => ?_⟩, ?_, fun k d hk hd => ?_⟩
    · rw [tg0]
      exact w2.cg (fun x hx => x4 x (by omega) (by omega)) (x5 62 (by decide))
    · rw [tg0] at z
      obtain ⟨k, _, z⟩ := (mem_catN _).mp z
      obtain ⟨e, _, z⟩ := (mem_catN _).mp z
      rcases List.mem_append.mp z with y | y
      · by_cases c : 0 < cmG L now k (e + 1)
        · rw [if_pos c] at y
          have y1 : (3 : Nat) = 0 := congrArg (fun t : TAG => t.1) (List.mem_singleton.mp y)
          exact absurd y1 (by decide)
        · rw [if_neg c] at y
          exact absurd y List.not_mem_nil
      · by_cases c : e + 1 < 24
        · rw [if_pos c] at y
          have y1 : (3 : Nat) = 1 := congrArg (fun t : TAG => t.1) (List.mem_singleton.mp y)
          exact absurd y1 (by decide)
        · rw [if_neg c] at y
          exact absurd y List.not_mem_nil
    · rw [x3]
      exact E1.kids.1
    · rw [x4 46 (by decide) (by decide), w3 46 (by decide) (by decide)]
      exact c107 k d hk hd
  obtain ⟨m3, s3, s54, s4, y1, y2, y3, y4, y5⟩ := (give151 hH m2).1 0 s2 r v x1 (Nat.zero_le _) B2 ⟨fun i hi => absurd hi (Nat.not_lt_zero _), fun i k hi => absurd hi (Nat.not_lt_zero _)⟩
  obtain ⟨X, z1, z2, z3⟩ := settleG hH y4 y1
  have hX : ∀ c k, c < nG L now → k < b.1.length → X c k = 0 ∨ X c k = 1 := fun c k hc hk => (z1.1.1 c k hc hk).1
  have k4 : ∀ x, ¬ x = 0 → s4 x = s54 x := fun x hx => by rw [y3, us_k hx, us_k hx]
  have k40 : ∀ j, ¬ j = 78 → ¬ j = 79 → s4 0 j = s3 0 j := fun j j1 j2 => by rw [y3, us_j j2, us_j j1, z3 0 (by decide) (by decide) (by decide) (by decide)]
  have k43 : ∀ x, ¬ x = 0 → ¬ x = 40 → ¬ x = 42 → ¬ x = 43 → ¬ x = 45 → s4 x = s3 x := fun x a b c d e => (k4 x a).trans (z3 x b c d e)
  have E4 : GvE b OL L now s4 := y4.1.cg (fun x h1 h2 => k43 x (by omega) (by omega) (by omega) (by omega) (by omega)) (k40 12 (by decide) (by decide)) (k40 37 (by decide) (by decide)) (k40 39 (by decide) (by decide)) (k40 45 (by decide) (by decide))
  obtain ⟨m5, s5, u1, u2, u3⟩ := (give340 hH m3).1 0 s4 r v y2 E4 (Nat.zero_le _) (fun k d hk hd => by
    rw [k43 46 (by decide) (by decide) (by decide) (by decide) (by decide)]
    exact y4.2.2.2.2 k d hk hd) (fun i hi => absurd hi (Nat.not_lt_zero _))
  obtain ⟨s6, t1, t2, t3, t4, t5⟩ := (give402 hH hX m5).1 0 s5 r v u1 (E4.cg (fun x _ _ => u3 x (by omega)) (by rw [u3 0 (by decide)]) (by rw [u3 0 (by decide)]) (by rw [u3 0 (by decide)]) (by rw [u3 0 (by decide)])) (Nat.zero_le _) (fun q hq => by
    rw [u3 45 (by decide), k4 45 (by decide)]
    exact z2 q hq) ⟨fun i hi => absurd hi (Nat.not_lt_zero _), fun i hi => by
      rw [u2 i hi, if_neg (Nat.not_lt_zero _)]
      show cuD (cmG L now) i 24 = cuD (cmG L now) i 24 - 0 - 0
      omega, by
      rw [u3 0 (by decide), y3, us_j (by decide), us_at]
      rfl, by
      rw [u3 0 (by decide), y3, us_at]
      rfl⟩
  have kv : ∀ x, ¬ x = 0 → v x = s6 x := fun x hx => by rw [t3, us_k hx, us_k hx]
  refine ⟨X, z1, ⟨?_, ?_, ?_, ?_, fun c hc => ?_, fun k hk => ?_, ?_, ?_⟩, ?_⟩
  · rw [t3, us_j (by decide), us_at]
  · rw [t3, us_at]
  · rw [t3, us_j (by decide), us_j (by decide), t5, u3 0 (by decide), k40 69 (by decide) (by decide)]
    exact y4.2.2.2.1
  · refine y5.cg (fun x h1 h2 => ?_)
    rw [kv x (by omega), t4 x h1 h2, u3 x (by omega), k43 x (by omega) (by omega) (by omega) (by omega) (by omega)]
  · rw [kv 52 (by decide), kv 53 (by decide)]
    exact t1.1 c hc
  · rw [kv 54 (by decide), t1.2.1 k hk, if_neg (Nat.not_lt_zero _), Int.sub_zero]
  · rw [t3, us_j (by decide), us_j (by decide), t1.2.2.1]
    show dSize (nG L now) b.1.length X + 0 = _
    rw [Int.add_zero]
  · rw [t3, us_j (by decide), us_j (by decide), t1.2.2.2]
    show wi (dPts (nG L now) b.1.length (ptG b L now OL) X + 0) = _
    rw [Int.add_zero]
  · rw [t2, t1.2.2.1]
    show dSize (nG L now) b.1.length X + 0 = _
    rw [Int.add_zero]
end TellM
