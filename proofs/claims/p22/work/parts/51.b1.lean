/-! the reference's reader as what is still to be written -/
def rnO (o : OPc) : Nat := if o.1 = 17 then 1 else if o.1 = 16 then 2 else if o.1 = 18 then 3 else if o.1 = 13 ∨ o.1 = 14 ∨ o.1 = 15 then 4 else 5
/-- what waits and ranks m or higher, top first; and what is left -/
def tw (m : Nat) : List OPc → List OPc
  | [] => []
  | o :: w => if m ≤ rnO o then o :: tw m w else []
def dw (m : Nat) : List OPc → List OPc
  | [] => []
  | o :: w => if m ≤ rnO o then dw m w else o :: w
theorem rnO_1 (o : OPc) : 1 ≤ rnO o := by
  unfold rnO
  split
  · omega
  · split
    · omega
    · split
      · omega
      · split <;> omega
theorem tw_dw (m : Nat) : ∀ w : List OPc, tw m w ++ dw m w = w
  | [] => rfl
  | o :: w => by
    show (if m ≤ rnO o then o :: tw m w else []) ++ (if m ≤ rnO o then dw m w else o :: w) = o :: w
    by_cases c : m ≤ rnO o
    · rw [if_pos c, if_pos c, List.cons_append, tw_dw m w]
    · rw [if_neg c, if_neg c]
      rfl
theorem tw_1 : ∀ w : List OPc, tw 1 w = w ∧ dw 1 w = []
  | [] => ⟨rfl, rfl⟩
  | o :: w => by
    have ih := tw_1 w
    show (if 1 ≤ rnO o then o :: tw 1 w else []) = o :: w ∧ (if 1 ≤ rnO o then dw 1 w else o :: w) = []
    rw [if_pos (rnO_1 o), if_pos (rnO_1 o), ih.1]
    exact ⟨rfl, ih.2⟩
/-- first the higher, then the lower ranks -/
theorem tw_le {m n : Nat} (h : m ≤ n) : ∀ w : List OPc, tw n w ++ tw m (dw n w) = tw m w ∧ dw m (dw n w) = dw m w
  | [] => ⟨rfl, rfl⟩
  | o :: w => by
    have ih := tw_le h w
    show (if n ≤ rnO o then o :: tw n w else []) ++ tw m (if n ≤ rnO o then dw n w else o :: w) = tw m (o :: w) ∧ dw m (if n ≤ rnO o then dw n w else o :: w) = dw m (o :: w)
    by_cases c : n ≤ rnO o
    · rw [if_pos c, if_pos c]
      have e1 : tw m (o :: w) = o :: tw m w := if_pos (Nat.le_trans h c)
      have e2 : dw m (o :: w) = dw m w := if_pos (Nat.le_trans h c)
      rw [e1, e2, ← ih.1, ih.2]
      exact ⟨rfl, rfl⟩
    · rw [if_neg c, if_neg c]
      exact ⟨rfl, rfl⟩
theorem tw_push {m : Nat} {o : OPc} (h : m ≤ rnO o) (w : List OPc) : tw m (o :: w) = o :: tw m w ∧ dw m (o :: w) = dw m w := ⟨if_pos h, if_pos h⟩
theorem tw_stop {m : Nat} {o : OPc} (h : ¬ m ≤ rnO o) (w : List OPc) : tw m (o :: w) = [] ∧ dw m (o :: w) = o :: w := ⟨if_neg h, if_neg h⟩
theorem tw_self (m : Nat) : ∀ w : List OPc, tw m (dw m w) = [] ∧ dw m (dw m w) = dw m w
  | [] => ⟨rfl, rfl⟩
  | o :: w => by
    have ih := tw_self m w
    show tw m (if m ≤ rnO o then dw m w else o :: w) = [] ∧ dw m (if m ≤ rnO o then dw m w else o :: w) = (if m ≤ rnO o then dw m w else o :: w)
    by_cases c : m ≤ rnO o
    · rw [if_pos c]
      exact ih
    · rw [if_neg c]
      exact tw_stop c w
theorem rk_P (c : Nat) : rnO (opP c) = 5 := by
  unfold opP
  show rnO (if c = 43 then 10 else if c = 45 then 11 else 12, 0, []) = 5
  split
  · decide
  · split <;> decide
theorem rk_C (c : Nat) : rnO (opC c) = 4 := by
  unfold opC
  show rnO (if c = 60 then 13 else if c = 62 then 14 else 15, 0, []) = 4
  split
  · decide
  · split <;> decide
theorem ctn_bind (o : Option Nat) (P : Nat → Option Nat) (R : Nat → List OPc) : ctn (o.bind P) R = ctn o (fun r => ctn (P r) R) := by
  cases o <;> rfl
theorem ctn_app (o : Option Nat) (f R : Nat → List OPc) (hR : ¬ o = none) : ∃ r, o = some r ∧ ctn o f = f r ∧ ctn o R = R r := by
  cases o with
  | none => exact absurd rfl hR
  | some r => exact ⟨r, rfl, rfl, rfl⟩
section Rest
variable (T N : Nat → Nat) (F : Nat)
/-- one more as long as ok says so, and the rest behind it -/
def lpT (ok : Nat → Bool) (P : Nat → Option Nat) (E : Nat → List OPc) (op : Nat → OPc) (R : Nat → List OPc) (q : Nat) : List OPc := lpE T N ok P E op F q ++ ctn (lpF T N ok P F q) R
/-- ands and ors in one list; w waits -/
def flT (S : Nat → Option Nat) (SE : Nat → List OPc) (R : Nat → List OPc) : Nat → List OPc → Nat → List OPc
  | 0, w, q => w ++ R q
  | k + 1, w, q => if tkA (T q) = true then tw 2 w ++ (SE (N q) ++ ctn (S (N q)) (flT S SE R k (opA 0 :: dw 2 w))) else if tkO (T q) = true then w ++ (SE (N q) ++ ctn (S (N q)) (flT S SE R k [opO 0])) else w ++ R q
end Rest
section RestL
variable {T N : Nat → Nat} {F n : Nat}
theorem lpT_go {ok : Nat → Bool} {P : Nat → Option Nat} {E : Nat → List OPc} {op : Nat → OPc} (R : Nat → List OPc) (hN : NGr T N n) (hok : ok 256 = false) (hP : PGr n P) {q : Nat} (hn : n < F) (h : q ≤ n) (c : ok (T q) = true) : lpT T N F ok P E op R q = E (N q) ++ ctn (P (N q)) (fun r => op (T q) :: lpT T N F ok P E op R r) := by
  unfold lpT
  rw [lpE_go hN hok hP hn h c, lpF_go hN hok hP hn h c]
  cases P (N q) with
  | none => exact List.append_nil _
  | some r => exact List.append_assoc _ _ _
theorem lpT_no {ok : Nat → Bool} {P : Nat → Option Nat} {E : Nat → List OPc} {op : Nat → OPc} (R : Nat → List OPc) {q : Nat} (c : ¬ ok (T q) = true) : lpT T N F ok P E op R q = R q := by
  unfold lpT
  rw [lpE_no c, lpF_no c]
  rfl
theorem seqT {P Q : Nat → Option Nat} {E E2 R : Nat → List OPc} (q : Nat) : (E q ++ ctn (P q) E2) ++ ctn ((P q).bind Q) R = E q ++ ctn (P q) (fun r => E2 r ++ ctn (Q r) R) := by
  cases P q with
  | none => exact List.append_nil _
  | some r => exact List.append_assoc _ _ _
theorem smT (V : Nat → Nat) (R : Nat → List OPc) (d q : Nat) : smE T N F V d q ++ ctn (sumD T N F d q) R = prE T N F V d q ++ ctn (parD T N F d q) (lpT T N F tkP (parD T N F d) (prE T N F V d) opP R) := by
  rw [smE_eq, sumD_eq]
  exact seqT q
/-- the two ways of reading ands and ors write the same -/
theorem flT_fx {S : Nat → Option Nat} {SE R : Nat → List OPc} (hN : NGr T N n) (hS : PGr n S) : ∀ k j w q, q ≤ n → n < q + k → n < q + j → flT T N S SE R k w q = flT T N S SE R j w q
  | 0, _, w, q, h, h1, _ => absurd h1 (by omega)
  | _, 0, w, q, h, _, h2 => absurd h2 (by omega)
  | k + 1, j + 1, w, q, h, h1, h2 => by
    show (if tkA (T q) = true then tw 2 w ++ (SE (N q) ++ ctn (S (N q)) (flT T N S SE R k (opA 0 :: dw 2 w))) else if tkO (T q) = true then w ++ (SE (N q) ++ ctn (S (N q)) (flT T N S SE R k [opO 0])) else w ++ R q) = (if tkA (T q) = true then tw 2 w ++ (SE (N q) ++ ctn (S (N q)) (flT T N S SE R j (opA 0 :: dw 2 w))) else if tkO (T q) = true then w ++ (SE (N q) ++ ctn (S (N q)) (flT T N S SE R j [opO 0])) else w ++ R q)
    by_cases a : tkA (T q) = true
    · rw [if_pos a, if_pos a]
      have nt : ¬ T q = 256 := fun e => by rw [e] at a; exact absurd a (by decide)
      have g := hN q h nt
      cases e : S (N q) with
      | none => rfl
      | some r =>
        have pr := hS _ _ g.2 e
        show _ ++ (_ ++ flT T N S SE R k _ r) = _ ++ (_ ++ flT T N S SE R j _ r)
        rw [flT_fx hN hS k j _ r pr.2 (by omega) (by omega)]
    · rw [if_neg a, if_neg a]
      by_cases b : tkO (T q) = true
      · rw [if_pos b, if_pos b]
        have nt : ¬ T q = 256 := fun e => by rw [e] at b; exact absurd b (by decide)
        have g := hN q h nt
        cases e : S (N q) with
        | none => rfl
        | some r =>
          have pr := hS _ _ g.2 e
          show _ ++ (_ ++ flT T N S SE R k _ r) = _ ++ (_ ++ flT T N S SE R j _ r)
          rw [flT_fx hN hS k j _ r pr.2 (by omega) (by omega)]
      · rw [if_neg b, if_neg b]
theorem flT_A {S : Nat → Option Nat} {SE R : Nat → List OPc} {w : List OPc} {q : Nat} (hN : NGr T N n) (hS : PGr n S) (hn : n < F) (h : q ≤ n) (a : tkA (T q) = true) : flT T N S SE R F w q = tw 2 w ++ (SE (N q) ++ ctn (S (N q)) (flT T N S SE R F (opA 0 :: dw 2 w))) := by
  have nt : ¬ T q = 256 := fun e => by rw [e] at a; exact absurd a (by decide)
  have g := hN q h nt
  obtain ⟨k, rfl⟩ : ∃ k, F = k + 1 := ⟨F - 1, by omega⟩
  have u : flT T N S SE R (k + 1) w q = tw 2 w ++ (SE (N q) ++ ctn (S (N q)) (flT T N S SE R k (opA 0 :: dw 2 w))) := if_pos a
  rw [u]
  cases e : S (N q) with
  | none => rfl
  | some r =>
    have pr := hS _ _ g.2 e
    show _ ++ (_ ++ flT T N S SE R k _ r) = _ ++ (_ ++ flT T N S SE R (k + 1) _ r)
    rw [flT_fx hN hS k (k + 1) _ r pr.2 (by omega) (by omega)]
theorem flT_O {S : Nat → Option Nat} {SE R : Nat → List OPc} {w : List OPc} {q : Nat} (hN : NGr T N n) (hS : PGr n S) (hn : n < F) (h : q ≤ n) (a : ¬ tkA (T q) = true) (b : tkO (T q) = true) : flT T N S SE R F w q = w ++ (SE (N q) ++ ctn (S (N q)) (flT T N S SE R F [opO 0])) := by
  have nt : ¬ T q = 256 := fun e => by rw [e] at b; exact absurd b (by decide)
  have g := hN q h nt
  obtain ⟨k, rfl⟩ : ∃ k, F = k + 1 := ⟨F - 1, by omega⟩
  have u : flT T N S SE R (k + 1) w q = w ++ (SE (N q) ++ ctn (S (N q)) (flT T N S SE R k [opO 0])) := by
    show (if tkA (T q) = true then _ else if tkO (T q) = true then _ else _) = _
    rw [if_neg a, if_pos b]
  rw [u]
  cases e : S (N q) with
  | none => rfl
  | some r =>
    have pr := hS _ _ g.2 e
    show _ ++ (_ ++ flT T N S SE R k _ r) = _ ++ (_ ++ flT T N S SE R (k + 1) _ r)
    rw [flT_fx hN hS k (k + 1) _ r pr.2 (by omega) (by omega)]
theorem flT_no {S : Nat → Option Nat} {SE R : Nat → List OPc} {w : List OPc} {q : Nat} (a : ¬ tkA (T q) = true) (b : ¬ tkO (T q) = true) : flT T N S SE R F w q = w ++ R q := by
  cases F with
  | zero => rfl
  | succ k =>
    show (if tkA (T q) = true then _ else if tkO (T q) = true then _ else w ++ R q) = _
    rw [if_neg a, if_neg b]
theorem tkA_nO {c : Nat} (h : tkO c = true) : ¬ tkA c = true := by
  unfold tkO at h
  unfold tkA
  rw [Nat.beq_eq] at h ⊢
  omega
theorem dwo {o : List OPc} (ho : o = [] ∨ o = [opO 0]) : tw 2 o = [] ∧ dw 2 o = o := by
  rcases ho with rfl | rfl
  · exact ⟨rfl, rfl⟩
  · exact tw_stop (by decide) []
theorem two_flT {S : Nat → Option Nat} {SE R : Nat → List OPc} (hN : NGr T N n) (hS : PGr n S) (hn : n < F) : ∀ m q : Nat, ∀ a o : List OPc, n < q + m → q ≤ n → (a = [] ∨ a = [opA 0]) → (o = [] ∨ o = [opO 0]) → flT T N S SE R F (a ++ o) q = a ++ lpT T N F tkA S SE opA (fun r => o ++ lpT T N F tkO (botN T N F S) (btnE T N F S SE) opO R r) q
  | 0, q, a, o, h1, h, _, _ => absurd h1 (by omega)
  | m + 1, q, a, o, h1, h, ha, ho => by
    have d := dwo ho
    have ta : tw 2 (a ++ o) = a ∧ dw 2 (a ++ o) = o := by
      rcases ha with rfl | rfl
      · exact d
      · have z := tw_push (m := 2) (o := opA 0) (by decide) o
        rw [d.1, d.2] at z
        exact z
    by_cases c : tkA (T q) = true
    · have nt : ¬ T q = 256 := fun e => by rw [e] at c; exact absurd c (by decide)
      have g := hN q h nt
      rw [flT_A hN hS hn h c, lpT_go _ hN (by decide) hS hn h c, ta.1, ta.2]
      cases e : S (N q) with
      | none => rfl
      | some r =>
        have pr := hS _ _ g.2 e
        have ih := two_flT (SE := SE) (R := R) hN hS hn m r [opA 0] o (by omega) pr.2 (Or.inr rfl) ho
        show a ++ (SE (N q) ++ flT T N S SE R F ([opA 0] ++ o) r) = _
        rw [ih]
        rfl
    · by_cases b : tkO (T q) = true
      · have nt : ¬ T q = 256 := fun e => by rw [e] at b; exact absurd b (by decide)
        have g := hN q h nt
        rw [flT_O hN hS hn h c b, lpT_no _ c]
        show _ = a ++ (o ++ lpT T N F tkO (botN T N F S) (btnE T N F S SE) opO R q)
        rw [lpT_go _ hN (by decide) (botN_pg hN hS) hn h b, List.append_assoc]
        congr 2
        have e1 : btnE T N F S SE (N q) ++ ctn (botN T N F S (N q)) (fun r => opO (T q) :: lpT T N F tkO (botN T N F S) (btnE T N F S SE) opO R r) = SE (N q) ++ ctn (S (N q)) (lpT T N F tkA S SE opA (fun r => opO (T q) :: lpT T N F tkO (botN T N F S) (btnE T N F S SE) opO R r)) := seqT (N q)
        rw [e1]
        cases e : S (N q) with
        | none => rfl
        | some r =>
          have pr := hS _ _ g.2 e
          have ih := two_flT (SE := SE) (R := R) hN hS hn m r [] [opO 0] (by omega) pr.2 (Or.inl rfl) (Or.inr rfl)
          show SE (N q) ++ flT T N S SE R F ([] ++ [opO 0]) r = _
          rw [ih]
          rfl
      · rw [flT_no c b, lpT_no _ c]
        show _ = a ++ (o ++ lpT T N F tkO (botN T N F S) (btnE T N F S SE) opO R q)
        rw [lpT_no _ b, List.append_assoc]
theorem etT {S : Nat → Option Nat} {SE R : Nat → List OPc} (hN : NGr T N n) (hS : PGr n S) (hn : n < F) {q : Nat} (h : q ≤ n) : etnE T N F S SE q ++ ctn (eitN T N F S q) R = SE q ++ ctn (S q) (flT T N S SE R F []) := by
  have e1 : etnE T N F S SE q ++ ctn (eitN T N F S q) R = btnE T N F S SE q ++ ctn (botN T N F S q) (lpT T N F tkO (botN T N F S) (btnE T N F S SE) opO R) := seqT q
  have e2 : btnE T N F S SE q ++ ctn (botN T N F S q) (lpT T N F tkO (botN T N F S) (btnE T N F S SE) opO R) = SE q ++ ctn (S q) (lpT T N F tkA S SE opA (lpT T N F tkO (botN T N F S) (btnE T N F S SE) opO R)) := seqT q
  rw [e1, e2]
  congr 1
  cases e : S q with
  | none => rfl
  | some r =>
    have pr := hS _ _ h e
    exact (two_flT (SE := SE) (R := R) hN hS hn (n + 1) r [] [] (by omega) pr.2 (Or.inl rfl) (Or.inl rfl)).symm
end RestL
