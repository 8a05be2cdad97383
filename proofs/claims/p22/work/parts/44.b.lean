/-! the grammar, pure: T q the token behind place q, N q where it ends; none: a fault -/
section Gram
variable (T N : Nat → Nat) (F : Nat)
def psK (c q : Nat) : Option Nat := if T q = c then some (N q) else none
/-- one more as long as ok says so -/
def lpF (ok : Nat → Bool) (P : Nat → Option Nat) : Nat → Nat → Option Nat
  | 0, q => some q
  | k + 1, q => if ok (T q) = true then (P (N q)).bind (lpF ok P k) else some q
def tkP (c : Nat) : Bool := Nat.beq c 43 || (Nat.beq c 45 || Nat.beq c 42)
def tkA (c : Nat) : Bool := Nat.beq c 273
def tkO (c : Nat) : Bool := Nat.beq c 272
def tkE (c : Nat) : Bool := tkA c || tkO c
def partN (S : Nat → Option Nat) (q : Nat) : Option Nat := if T q = 40 then (S (N q)).bind (psK T N 41) else if T q = 259 ∨ (278 ≤ T q ∧ T q ≤ 282) then some (N q) else none
def sumN (S : Nat → Option Nat) (q : Nat) : Option Nat := (partN T N S q).bind (lpF T N tkP (partN T N S) F)
def sumD : Nat → Nat → Option Nat
  | 0 => sumN T N F (fun _ => none)
  | d + 1 => sumN T N F (sumD d)
/-- a sum's part with d brackets still to open -/
def parD : Nat → Nat → Option Nat
  | 0 => partN T N (fun _ => none)
  | d + 1 => partN T N (sumD T N F d)
theorem sumD_eq (d : Nat) : sumD T N F d = fun q => (parD T N F d q).bind (lpF T N tkP (parD T N F d) F) := by
  cases d with
  | zero => rfl
  | succ d => rfl
def ntF : Nat → Nat → Nat
  | 0, q => q
  | k + 1, q => if T q = 274 then ntF k (N q) else q
def sngN (E A : Nat → Option Nat) (q : Nat) : Option Nat := if T (ntF T N F q) = 91 then (E (N (ntF T N F q))).bind (psK T N 93) else A (ntF T N F q)
def botN (S : Nat → Option Nat) (q : Nat) : Option Nat := (S q).bind (lpF T N tkA S F)
def eitN (S : Nat → Option Nat) (q : Nat) : Option Nat := (botN T N F S q).bind (lpF T N tkO (botN T N F S) F)
/-- which or test, by what its smallest parts are -/
def eitD (A : Nat → Nat → Option Nat) : Nat → Nat → Option Nat
  | 0 => eitN T N F (sngN T N F (fun _ => none) (A 0))
  | d + 1 => eitN T N F (sngN T N F (eitD A d) (A (d + 1)))
def sngD (A : Nat → Nat → Option Nat) : Nat → Nat → Option Nat
  | 0 => sngN T N F (fun _ => none) (A 0)
  | d + 1 => sngN T N F (eitD T N F A d) (A (d + 1))
theorem eitD_eq (A : Nat → Nat → Option Nat) (d : Nat) : eitD T N F A d = eitN T N F (sngD T N F A d) := by
  cases d with
  | zero => rfl
  | succ d => rfl
def atW (kn : Nat → Bool) (_ : Nat) (q : Nat) : Option Nat := if T q = 275 then some (N q) else if T q = 258 ∧ kn q = true then some (N q) else none
def cmK (d : Nat) (r : Nat) : Option Nat := if T r = 60 ∨ T r = 62 ∨ T r = 61 then sumD T N F d (N r) else none
def atT (d : Nat) (q : Nat) : Option Nat := if T q = 276 then some (N q) else if T q = 277 then (if T (N q) = 258 then some (N (N q)) else none) else (sumD T N F d q).bind (cmK T N F d)
end Gram
/-! how far it goes -/
section Goes
variable {T N : Nat → Nat} {n F : Nat}
/-- P goes on, and not beyond n -/
def PGr (n : Nat) (P : Nat → Option Nat) : Prop := ∀ q r, q ≤ n → P q = some r → q < r ∧ r ≤ n
/-- every token but the end goes on -/
def NGr (T N : Nat → Nat) (n : Nat) : Prop := ∀ q, q ≤ n → ¬ T q = 256 → q < N q ∧ N q ≤ n
theorem lpF_fx {ok : Nat → Bool} {P : Nat → Option Nat} (hN : NGr T N n) (hok : ok 256 = false) (hP : PGr n P) : ∀ k j q, q ≤ n → n < q + k → n < q + j → lpF T N ok P k q = lpF T N ok P j q
  | 0, _, q, h, h1, _ => absurd h1 (by omega)
  | _, 0, q, h, _, h2 => absurd h2 (by omega)
  | k + 1, j + 1, q, h, h1, h2 => by
    show (if ok (T q) = true then (P (N q)).bind (lpF T N ok P k) else some q) = (if ok (T q) = true then (P (N q)).bind (lpF T N ok P j) else some q)
    by_cases c : ok (T q) = true
    · rw [if_pos c, if_pos c]
      have nt : ¬ T q = 256 := fun e => by rw [e, hok] at c; exact absurd c (by decide)
      have g := hN q h nt
      cases e : P (N q) with
      | none => rfl
      | some r =>
        have pr := hP _ _ g.2 e
        exact lpF_fx hN hok hP k j r pr.2 (by omega) (by omega)
    · rw [if_neg c, if_neg c]
theorem lpF_go {ok : Nat → Bool} {P : Nat → Option Nat} (hN : NGr T N n) (hok : ok 256 = false) (hP : PGr n P) {q : Nat} (hn : n < F) (h : q ≤ n) (c : ok (T q) = true) : lpF T N ok P F q = (P (N q)).bind (lpF T N ok P F) := by
  have nt : ¬ T q = 256 := fun e => by rw [e, hok] at c; exact absurd c (by decide)
  have g := hN q h nt
  obtain ⟨k, rfl⟩ : ∃ k, F = k + 1 := ⟨F - 1, by omega⟩
  have u : lpF T N ok P (k + 1) q = (P (N q)).bind (lpF T N ok P k) := by
    show (if ok (T q) = true then (P (N q)).bind (lpF T N ok P k) else some q) = _
    rw [if_pos c]
  rw [u]
  cases e : P (N q) with
  | none => rw [Option.bind_none, Option.bind_none]
  | some r =>
    have pr := hP _ _ g.2 e
    exact lpF_fx hN hok hP k (k + 1) r pr.2 (by omega) (by omega)
theorem lpF_no {ok : Nat → Bool} {P : Nat → Option Nat} {q : Nat} (c : ¬ ok (T q) = true) : lpF T N ok P F q = some q := by
  cases F with
  | zero => rfl
  | succ k =>
    show (if ok (T q) = true then (P (N q)).bind (lpF T N ok P k) else some q) = _
    rw [if_neg c]
theorem lpF_pg {ok : Nat → Bool} {P : Nat → Option Nat} (hN : NGr T N n) (hok : ok 256 = false) (hP : PGr n P) : ∀ k q r, q ≤ n → lpF T N ok P k q = some r → q ≤ r ∧ r ≤ n
  | 0, q, r, h, e => by
    have e2 : some q = some r := e
    have e3 := Option.some.inj e2
    omega
  | k + 1, q, r, h, e => by
    have e2 : (if ok (T q) = true then (P (N q)).bind (lpF T N ok P k) else some q) = some r := e
    by_cases c : ok (T q) = true
    · rw [if_pos c] at e2
      have nt : ¬ T q = 256 := fun e => by rw [e, hok] at c; exact absurd c (by decide)
      have g := hN q h nt
      cases e4 : P (N q) with
      | none =>
        rw [e4] at e2
        cases e2
      | some y =>
        rw [e4] at e2
        have pr := hP _ _ g.2 e4
        have ih := lpF_pg hN hok hP k y r pr.2 e2
        omega
    · rw [if_neg c] at e2
      have e3 := Option.some.inj e2
      omega
theorem PGr_bind {P Q : Nat → Option Nat} (hP : PGr n P) (hQ : ∀ q r, q ≤ n → Q q = some r → q ≤ r ∧ r ≤ n) : PGr n (fun q => (P q).bind Q) := by
  intro q r h e
  have e2 : (P q).bind Q = some r := e
  cases e3 : P q with
  | none =>
    rw [e3] at e2
    cases e2
  | some y =>
    rw [e3] at e2
    have pr := hP _ _ h e3
    have qr := hQ _ _ pr.2 e2
    omega
theorem psK_pg {c : Nat} (hN : NGr T N n) (hc : ¬ c = 256) : PGr n (psK T N c) := by
  intro q r h e
  unfold psK at e
  by_cases k : T q = c
  · rw [if_pos k] at e
    have g := hN q h (by omega)
    have e2 := Option.some.inj e
    omega
  · rw [if_neg k] at e
    cases e
theorem partN_pg {S : Nat → Option Nat} (hN : NGr T N n) (hS : PGr n S) : PGr n (partN T N S) := by
  intro q r h e
  unfold partN at e
  by_cases k : T q = 40
  · rw [if_pos k] at e
    have g := hN q h (by omega)
    have pg := PGr_bind hS (fun a b h1 h2 => ⟨Nat.le_of_lt (psK_pg (c := 41) hN (by decide) a b h1 h2).1, (psK_pg (c := 41) hN (by decide) a b h1 h2).2⟩)
    have y := pg _ _ g.2 e
    omega
  · rw [if_neg k] at e
    by_cases k2 : T q = 259 ∨ (278 ≤ T q ∧ T q ≤ 282)
    · rw [if_pos k2] at e
      have g := hN q h (by omega)
      have e2 := Option.some.inj e
      omega
    · rw [if_neg k2] at e
      cases e
theorem none_pg : PGr n (fun _ => none) := fun q r _ e => by cases e
theorem sumD_pg (hN : NGr T N n) : ∀ d, PGr n (sumD T N F d)
  | 0 => PGr_bind (partN_pg hN none_pg) (lpF_pg hN (by decide) (partN_pg hN none_pg) F)
  | d + 1 => PGr_bind (partN_pg hN (sumD_pg hN d)) (lpF_pg hN (by decide) (partN_pg hN (sumD_pg hN d)) F)
theorem parD_pg (hN : NGr T N n) : ∀ d, PGr n (parD T N F d)
  | 0 => partN_pg hN none_pg
  | d + 1 => partN_pg hN (sumD_pg hN d)
theorem ntF_le (hN : NGr T N n) : ∀ k q, q ≤ n → q ≤ ntF T N k q ∧ ntF T N k q ≤ n
  | 0, q, h => ⟨Nat.le_refl _, h⟩
  | k + 1, q, h => by
    show q ≤ (if T q = 274 then ntF T N k (N q) else q) ∧ (if T q = 274 then ntF T N k (N q) else q) ≤ n
    by_cases c : T q = 274
    · rw [if_pos c]
      have g := hN q h (by omega)
      have ih := ntF_le hN k (N q) g.2
      omega
    · rw [if_neg c]
      exact ⟨Nat.le_refl _, h⟩
theorem ntF_fx (hN : NGr T N n) : ∀ k j q, q ≤ n → n < q + k → n < q + j → ntF T N k q = ntF T N j q
  | 0, _, q, h, h1, _ => absurd h1 (by omega)
  | _, 0, q, h, _, h2 => absurd h2 (by omega)
  | k + 1, j + 1, q, h, h1, h2 => by
    show (if T q = 274 then ntF T N k (N q) else q) = (if T q = 274 then ntF T N j (N q) else q)
    by_cases c : T q = 274
    · rw [if_pos c, if_pos c]
      have g := hN q h (by omega)
      exact ntF_fx hN k j (N q) g.2 (by omega) (by omega)
    · rw [if_neg c, if_neg c]
theorem ntF_go (hN : NGr T N n) (hn : n < F) {q : Nat} (h : q ≤ n) (c : T q = 274) : ntF T N F q = ntF T N F (N q) := by
  have g := hN q h (by omega)
  obtain ⟨k, rfl⟩ : ∃ k, F = k + 1 := ⟨F - 1, by omega⟩
  have u : ntF T N (k + 1) q = ntF T N k (N q) := by
    show (if T q = 274 then ntF T N k (N q) else q) = _
    rw [if_pos c]
  rw [u]
  exact ntF_fx hN k (k + 1) (N q) g.2 (by omega) (by omega)
theorem ntF_no {q : Nat} (c : ¬ T q = 274) : ntF T N F q = q := by
  cases F with
  | zero => rfl
  | succ k =>
    show (if T q = 274 then ntF T N k (N q) else q) = _
    rw [if_neg c]
theorem sngN_pg {E A : Nat → Option Nat} (hN : NGr T N n) (hE : PGr n E) (hA : PGr n A) : PGr n (sngN T N F E A) := by
  intro q r h e
  have nt := ntF_le hN F q h
  unfold sngN at e
  by_cases k : T (ntF T N F q) = 91
  · rw [if_pos k] at e
    have g := hN _ nt.2 (by omega)
    have pg := PGr_bind hE (fun a b h1 h2 => ⟨Nat.le_of_lt (psK_pg (c := 93) hN (by decide) a b h1 h2).1, (psK_pg (c := 93) hN (by decide) a b h1 h2).2⟩)
    have y := pg _ _ g.2 e
    omega
  · rw [if_neg k] at e
    have y := hA _ _ nt.2 e
    omega
theorem botN_pg {S : Nat → Option Nat} (hN : NGr T N n) (hS : PGr n S) : PGr n (botN T N F S) := PGr_bind hS (lpF_pg hN (by decide) hS F)
theorem eitN_pg {S : Nat → Option Nat} (hN : NGr T N n) (hS : PGr n S) : PGr n (eitN T N F S) := PGr_bind (botN_pg hN hS) (lpF_pg hN (by decide) (botN_pg hN hS) F)
theorem sngN_go {E A : Nat → Option Nat} (hN : NGr T N n) (hn : n < F) {q : Nat} (h : q ≤ n) (c : T q = 274) : sngN T N F E A q = sngN T N F E A (N q) := by
  unfold sngN
  rw [ntF_go hN hn h c]
/-- one list in place of two -/
def fltN (T N : Nat → Nat) (F : Nat) (S : Nat → Option Nat) (q : Nat) : Option Nat := (S q).bind (lpF T N tkE S F)
theorem flt_lp {S : Nat → Option Nat} (hN : NGr T N n) (hS : PGr n S) (hn : n < F) : ∀ k q, q ≤ n → n < q + k → lpF T N tkE S F q = (lpF T N tkA S F q).bind (lpF T N tkO (botN T N F S) F)
  | 0, q, h, h1 => absurd h1 (by omega)
  | k + 1, q, h, h1 => by
    have e256 : tkE 256 = false := by decide
    by_cases a : tkA (T q) = true
    · have o : tkE (T q) = true := by
        unfold tkE
        rw [a]
        rfl
      have nt : ¬ T q = 256 := fun e => by rw [e] at a; exact absurd a (by decide)
      have g := hN q h nt
      rw [lpF_go hN e256 hS hn h o, lpF_go hN (by decide) hS hn h a]
      cases e : S (N q) with
      | none => rfl
      | some r =>
        have pr := hS _ _ g.2 e
        exact flt_lp hN hS hn k r pr.2 (by omega)
    · rw [lpF_no a]
      by_cases b : tkO (T q) = true
      · have o : tkE (T q) = true := by
          unfold tkE
          rw [b, Bool.or_true]
        have nt : ¬ T q = 256 := fun e => by rw [e] at b; exact absurd b (by decide)
        have g := hN q h nt
        rw [lpF_go hN e256 hS hn h o]
        show _ = lpF T N tkO (botN T N F S) F q
        rw [lpF_go hN (by decide) (botN_pg hN hS) hn h b]
        unfold botN
        cases e : S (N q) with
        | none => rfl
        | some r =>
          have pr := hS _ _ g.2 e
          exact flt_lp hN hS hn k r pr.2 (by omega)
      · have o : ¬ tkE (T q) = true := by
          unfold tkE
          rw [Bool.or_eq_true]
          intro z
          rcases z with z | z
          · exact a z
          · exact b z
        rw [lpF_no o]
        show some q = lpF T N tkO (botN T N F S) F q
        rw [lpF_no b]
theorem eitN_flt {S : Nat → Option Nat} (hN : NGr T N n) (hS : PGr n S) (hn : n < F) {q : Nat} (h : q ≤ n) : eitN T N F S q = fltN T N F S q := by
  unfold eitN fltN botN
  cases e : S q with
  | none => rfl
  | some r =>
    have pr := hS _ _ h e
    exact (flt_lp hN hS hn (n + 1) r pr.2 (by omega)).symm
end Goes
