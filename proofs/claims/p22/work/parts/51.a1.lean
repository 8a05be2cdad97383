/-! the code that sums, tests and whiches are turned into, pure: which sort, a number, a word -/
abbrev OPc : Type := Nat × Int × List Nat
def ctn (o : Option Nat) (f : Nat → List OPc) : List OPc := match o with
  | none => []
  | some r => f r
theorem ctn_s {f : Nat → List OPc} {o : Option Nat} {r : Nat} (h : o = some r) : ctn o f = f r := by rw [h]; rfl
def opP (c : Nat) : OPc := (if c = 43 then 10 else if c = 45 then 11 else 12, 0, [])
def opC (c : Nat) : OPc := (if c = 60 then 13 else if c = 62 then 14 else 15, 0, [])
def opA (_ : Nat) : OPc := (16, 0, [])
def opO (_ : Nat) : OPc := (17, 0, [])
def opN : OPc := (18, 0, [])
section Emit
variable (T N : Nat → Nat) (F : Nat) (V : Nat → Nat) (Lw : Nat → List Nat) (nt : Nat → List OPc) (K M : List (List Nat))
/-- behind the first operand, one more as long as ok says so -/
def lpE (ok : Nat → Bool) (P : Nat → Option Nat) (E : Nat → List OPc) (op : Nat → OPc) : Nat → Nat → List OPc
  | 0, _ => []
  | k + 1, q => if ok (T q) = true then E (N q) ++ ctn (P (N q)) (fun r => op (T q) :: lpE ok P E op k r) else []
def prtE (ES : Nat → List OPc) (q : Nat) : List OPc := if T q = 40 then ES (N q) else if T q = 259 then [(0, (V q : Int), [])] else [(T q - 277, 0, [])]
def smnE (S : Nat → Option Nat) (ES : Nat → List OPc) (q : Nat) : List OPc := prtE T N V ES q ++ ctn (partN T N S q) (lpE T N tkP (partN T N S) (prtE T N V ES) opP F)
def smE : Nat → Nat → List OPc
  | 0 => smnE T N F V (fun _ => none) (fun _ => [])
  | d + 1 => smnE T N F V (sumD T N F d) (smE d)
def prE : Nat → Nat → List OPc
  | 0 => prtE T N V (fun _ => [])
  | d + 1 => prtE T N V (smE T N F V d)
theorem smE_eq (d q : Nat) : smE T N F V d q = prE T N F V d q ++ ctn (parD T N F d q) (lpE T N tkP (parD T N F d) (prE T N F V d) opP F) := by
  cases d with
  | zero => rfl
  | succ d => rfl
/-- how many nots -/
def nts : Nat → Nat → Nat
  | 0, _ => 0
  | k + 1, q => if T q = 274 then nts k (N q) + 1 else 0
def sgnE (EE EA : Nat → List OPc) (q : Nat) : List OPc := (if T (ntF T N F q) = 91 then EE (N (ntF T N F q)) else EA (ntF T N F q)) ++ nt (nts T N F q)
def btnE (S : Nat → Option Nat) (ES : Nat → List OPc) (q : Nat) : List OPc := ES q ++ ctn (S q) (lpE T N tkA S ES opA F)
def etnE (S : Nat → Option Nat) (ES : Nat → List OPc) (q : Nat) : List OPc := btnE T N F S ES q ++ ctn (botN T N F S q) (lpE T N tkO (botN T N F S) (btnE T N F S ES) opO F)
def etE (A : Nat → Nat → Option Nat) (EA : Nat → Nat → List OPc) : Nat → Nat → List OPc
  | 0 => etnE T N F (sngN T N F (fun _ => none) (A 0)) (sgnE T N F nt (fun _ => []) (EA 0))
  | d + 1 => etnE T N F (sngN T N F (eitD T N F A d) (A (d + 1))) (sgnE T N F nt (etE A EA d) (EA (d + 1)))
def sgE (A : Nat → Nat → Option Nat) (EA : Nat → Nat → List OPc) : Nat → Nat → List OPc
  | 0 => sgnE T N F nt (fun _ => []) (EA 0)
  | d + 1 => sgnE T N F nt (etE T N F nt A EA d) (EA (d + 1))
theorem etE_eq (A : Nat → Nat → Option Nat) (EA : Nat → Nat → List OPc) (d : Nat) : etE T N F nt A EA d = etnE T N F (sngD T N F A d) (sgE T N F nt A EA d) := by
  cases d with
  | zero => rfl
  | succ d => rfl
def idx (l : List (List Nat)) (w : List Nat) : Nat := l.findIdx (fun x => x == w)
/-- a name in a which, all or a wish or two sums in a test -/
def awE (_ q : Nat) : List OPc := if T q = 275 then [(6, 0, [])] else if Lw q ∈ K then [(8, (idx K (Lw q) : Int), [])] else [(9, (idx M (Lw q) : Int), [])]
def atE (d q : Nat) : List OPc := if T q = 276 then [(6, 0, [])] else if T q = 277 then [(7, 0, Lw (N q))] else smE T N F V d q ++ ctn (sumD T N F d q) (fun r => smE T N F V d (N r) ++ [opC (T r)])
end Emit
section EmitL
variable {T N : Nat → Nat} {F n : Nat} {V : Nat → Nat} {Lw : Nat → List Nat} {nt : Nat → List OPc} {K M : List (List Nat)}
theorem lpE_fx {ok : Nat → Bool} {P : Nat → Option Nat} {E : Nat → List OPc} {op : Nat → OPc} (hN : NGr T N n) (hok : ok 256 = false) (hP : PGr n P) : ∀ k j q, q ≤ n → n < q + k → n < q + j → lpE T N ok P E op k q = lpE T N ok P E op j q
  | 0, _, q, h, h1, _ => absurd h1 (by omega)
  | _, 0, q, h, _, h2 => absurd h2 (by omega)
  | k + 1, j + 1, q, h, h1, h2 => by
    show (if ok (T q) = true then E (N q) ++ ctn (P (N q)) (fun r => op (T q) :: lpE T N ok P E op k r) else []) = (if ok (T q) = true then E (N q) ++ ctn (P (N q)) (fun r => op (T q) :: lpE T N ok P E op j r) else [])
    by_cases c : ok (T q) = true
    · rw [if_pos c, if_pos c]
      have nt : ¬ T q = 256 := fun e => by rw [e, hok] at c; exact absurd c (by decide)
      have g := hN q h nt
      cases e : P (N q) with
      | none => rfl
      | some r =>
        have pr := hP _ _ g.2 e
        show E (N q) ++ (op (T q) :: lpE T N ok P E op k r) = E (N q) ++ (op (T q) :: lpE T N ok P E op j r)
        rw [lpE_fx hN hok hP k j r pr.2 (by omega) (by omega)]
    · rw [if_neg c, if_neg c]
theorem lpE_go {ok : Nat → Bool} {P : Nat → Option Nat} {E : Nat → List OPc} {op : Nat → OPc} (hN : NGr T N n) (hok : ok 256 = false) (hP : PGr n P) {q : Nat} (hn : n < F) (h : q ≤ n) (c : ok (T q) = true) : lpE T N ok P E op F q = E (N q) ++ ctn (P (N q)) (fun r => op (T q) :: lpE T N ok P E op F r) := by
  have nt : ¬ T q = 256 := fun e => by rw [e, hok] at c; exact absurd c (by decide)
  have g := hN q h nt
  obtain ⟨k, rfl⟩ : ∃ k, F = k + 1 := ⟨F - 1, by omega⟩
  have u : lpE T N ok P E op (k + 1) q = E (N q) ++ ctn (P (N q)) (fun r => op (T q) :: lpE T N ok P E op k r) := by
    show (if ok (T q) = true then E (N q) ++ ctn (P (N q)) (fun r => op (T q) :: lpE T N ok P E op k r) else []) = _
    rw [if_pos c]
  rw [u]
  cases e : P (N q) with
  | none => rfl
  | some r =>
    have pr := hP _ _ g.2 e
    show E (N q) ++ (op (T q) :: lpE T N ok P E op k r) = E (N q) ++ (op (T q) :: lpE T N ok P E op (k + 1) r)
    rw [lpE_fx hN hok hP k (k + 1) r pr.2 (by omega) (by omega)]
theorem lpE_no {ok : Nat → Bool} {P : Nat → Option Nat} {E : Nat → List OPc} {op : Nat → OPc} {q : Nat} (c : ¬ ok (T q) = true) : lpE T N ok P E op F q = [] := by
  cases F with
  | zero => rfl
  | succ k =>
    show (if ok (T q) = true then E (N q) ++ ctn (P (N q)) (fun r => op (T q) :: lpE T N ok P E op k r) else []) = _
    rw [if_neg c]
/-- a wish weighs 5: so many letters it has at least -/
def opW (o : OPc) : Nat := if o.1 = 7 then 5 else 1
def wtE : List OPc → Nat
  | [] => 0
  | o :: l => opW o + wtE l
theorem wtE_app : ∀ a b : List OPc, wtE (a ++ b) = wtE a + wtE b
  | [], b => by
    show wtE b = 0 + wtE b
    omega
  | o :: a, b => by
    show opW o + wtE (a ++ b) = opW o + wtE a + wtE b
    rw [wtE_app a b]
    omega
theorem opW_1 {o : OPc} (h : ¬ o.1 = 7) : opW o = 1 := if_neg h
theorem opW_ge (o : OPc) : 1 ≤ opW o := by
  unfold opW
  split <;> omega
theorem wtE_len : ∀ l : List OPc, l.length ≤ wtE l
  | [] => Nat.le_refl _
  | o :: l => by
    have ih := wtE_len l
    have := opW_ge o
    show l.length + 1 ≤ opW o + wtE l
    omega
theorem opP_w (c : Nat) : opW (opP c) = 1 := by
  refine opW_1 ?_
  unfold opP
  show ¬ (if c = 43 then 10 else if c = 45 then 11 else 12) = 7
  split
  · decide
  · split <;> decide
theorem opC_w (c : Nat) : opW (opC c) = 1 := by
  refine opW_1 ?_
  unfold opC
  show ¬ (if c = 60 then 13 else if c = 62 then 14 else 15) = 7
  split
  · decide
  · split <;> decide
/-- the code is no longer than the text -/
def LnG (n : Nat) (P : Nat → Option Nat) (E : Nat → List OPc) : Prop := ∀ q r, q ≤ n → P q = some r → wtE (E q) + q ≤ r
theorem lpE_ln {ok : Nat → Bool} {P : Nat → Option Nat} {E : Nat → List OPc} {op : Nat → OPc} (hop : ∀ c, opW (op c) = 1) (hN : NGr T N n) (hok : ok 256 = false) (hP : PGr n P) (hE : LnG n P E) : ∀ k q r, q ≤ n → lpF T N ok P k q = some r → wtE (lpE T N ok P E op k q) + q ≤ r
  | 0, q, r, h, e => by
    have e2 : some q = some r := e
    have e3 := Option.some.inj e2
    show 0 + q ≤ r
    omega
  | k + 1, q, r, h, e => by
    have e2 : (if ok (T q) = true then (P (N q)).bind (lpF T N ok P k) else some q) = some r := e
    show wtE (if ok (T q) = true then E (N q) ++ ctn (P (N q)) (fun r => op (T q) :: lpE T N ok P E op k r) else []) + q ≤ r
    by_cases c : ok (T q) = true
    · rw [if_pos c] at e2 ⊢
      have nt : ¬ T q = 256 := fun e => by rw [e, hok] at c; exact absurd c (by decide)
      have g := hN q h nt
      cases e4 : P (N q) with
      | none =>
        rw [e4] at e2
        cases e2
      | some y =>
        rw [e4] at e2
        have pr := hP _ _ g.2 e4
        have l := hE _ _ g.2 e4
        have ih := lpE_ln hop hN hok hP hE k y r pr.2 e2
        have o1 := hop (T q)
        show wtE (E (N q) ++ (op (T q) :: lpE T N ok P E op k y)) + q ≤ r
        rw [wtE_app]
        show wtE (E (N q)) + (opW (op (T q)) + wtE (lpE T N ok P E op k y)) + q ≤ r
        omega
    · rw [if_neg c] at e2 ⊢
      have e3 := Option.some.inj e2
      show 0 + q ≤ r
      omega
theorem bindLn {P Q : Nat → Option Nat} {E : Nat → List OPc} {E2 : Nat → List OPc} (hP : PGr n P) (hE : LnG n P E) (hE2 : ∀ q r, q ≤ n → Q q = some r → wtE (E2 q) + q ≤ r) : LnG n (fun q => (P q).bind Q) (fun q => E q ++ ctn (P q) E2) := by
  intro q r h e
  have e2 : (P q).bind Q = some r := e
  cases e3 : P q with
  | none =>
    rw [e3] at e2
    cases e2
  | some y =>
    rw [e3] at e2
    have pr := hP _ _ h e3
    have l1 := hE _ _ h e3
    have l2 := hE2 _ _ pr.2 e2
    show wtE (E q ++ ctn (P q) E2) + q ≤ r
    rw [ctn_s e3, wtE_app]
    omega
theorem prtE_ln {S : Nat → Option Nat} {ES : Nat → List OPc} (hN : NGr T N n) (hS : PGr n S) (hE : LnG n S ES) : LnG n (partN T N S) (prtE T N V ES) := by
  intro q r h e
  unfold partN at e
  unfold prtE
  by_cases k : T q = 40
  · rw [if_pos k] at e ⊢
    have g := hN q h (by omega)
    cases e3 : S (N q) with
    | none =>
      rw [e3] at e
      cases e
    | some y =>
      rw [e3] at e
      have l := hE _ _ g.2 e3
      have pr := hS _ _ g.2 e3
      have pg := psK_pg (c := 41) hN (by decide) _ _ pr.2 e
      omega
  · rw [if_neg k] at e ⊢
    split at e
    · have g := hN q h (by omega)
      have e2 := Option.some.inj e
      split
      · show 1 + q ≤ r
        omega
      · have w : opW (T q - 277, 0, []) = 1 := opW_1 (by show ¬ T q - 277 = 7; omega)
        show opW (T q - 277, 0, []) + 0 + q ≤ r
        omega
    · cases e
theorem smE_ln (hN : NGr T N n) : ∀ d, LnG n (sumD T N F d) (smE T N F V d) ∧ LnG n (parD T N F d) (prE T N F V d)
  | 0 => by
    have p : LnG n (parD T N F 0) (prE T N F V 0) := prtE_ln (V := V) (S := fun _ => none) (ES := fun _ => []) hN none_pg (fun q r _ e => nomatch (show (none : Option Nat) = some r from e))
    refine ⟨?_, p⟩
    rw [sumD_eq]
    have e : smE T N F V 0 = fun q => prE T N F V 0 q ++ ctn (parD T N F 0 q) (lpE T N tkP (parD T N F 0) (prE T N F V 0) opP F) := by
      funext q
      exact smE_eq T N F V 0 q
    rw [e]
    exact bindLn (parD_pg hN 0) p (fun q r h e => lpE_ln opP_w hN (by decide) (parD_pg hN 0) p F q r h e)
  | d + 1 => by
    have ih := (smE_ln hN d).1
    have p : LnG n (parD T N F (d + 1)) (prE T N F V (d + 1)) := prtE_ln hN (sumD_pg hN d) ih
    refine ⟨?_, p⟩
    rw [sumD_eq]
    have e : smE T N F V (d + 1) = fun q => prE T N F V (d + 1) q ++ ctn (parD T N F (d + 1) q) (lpE T N tkP (parD T N F (d + 1)) (prE T N F V (d + 1)) opP F) := by
      funext q
      exact smE_eq T N F V (d + 1) q
    rw [e]
    exact bindLn (parD_pg hN (d + 1)) p (fun q r h e => lpE_ln opP_w hN (by decide) (parD_pg hN (d + 1)) p F q r h e)
theorem nts_le (hN : NGr T N n) : ∀ k q, q ≤ n → nts T N k q + q ≤ ntF T N k q
  | 0, q, _ => by
    show 0 + q ≤ q
    omega
  | k + 1, q, h => by
    show (if T q = 274 then nts T N k (N q) + 1 else 0) + q ≤ (if T q = 274 then ntF T N k (N q) else q)
    by_cases c : T q = 274
    · rw [if_pos c, if_pos c]
      have g := hN q h (by omega)
      have ih := nts_le hN k (N q) g.2
      omega
    · rw [if_neg c, if_neg c]
      omega
theorem sgnE_ln {E A : Nat → Option Nat} {EE EA : Nat → List OPc} (hN : NGr T N n) (hE : PGr n E) (hnt : ∀ k, wtE (nt k) ≤ k) (hEE : LnG n E EE) (hEA : LnG n A EA) : LnG n (sngN T N F E A) (sgnE T N F nt EE EA) := by
  intro q r h e
  unfold sngN at e
  unfold sgnE
  have l1 := nts_le hN F q h
  have l2 := ntF_le hN F q h
  have l3 := hnt (nts T N F q)
  rw [wtE_app]
  by_cases c : T (ntF T N F q) = 91
  · rw [if_pos c] at e ⊢
    have g := hN _ l2.2 (by omega)
    cases e3 : E (N (ntF T N F q)) with
    | none =>
      rw [e3] at e
      cases e
    | some y =>
      rw [e3] at e
      have l := hEE _ _ g.2 e3
      have pr := hE _ _ g.2 e3
      have pg := psK_pg (c := 93) hN (by decide) _ _ pr.2 e
      omega
  · rw [if_neg c] at e ⊢
    have l := hEA _ _ l2.2 e
    omega
theorem etnE_ln {S : Nat → Option Nat} {ES : Nat → List OPc} (hN : NGr T N n) (hS : PGr n S) (hE : LnG n S ES) : LnG n (eitN T N F S) (etnE T N F S ES) := by
  have b : LnG n (botN T N F S) (btnE T N F S ES) := bindLn hS hE (fun q r h e => lpE_ln (fun _ => rfl) hN (by decide) hS hE F q r h e)
  exact bindLn (botN_pg hN hS) b (fun q r h e => lpE_ln (fun _ => rfl) hN (by decide) (botN_pg hN hS) b F q r h e)
theorem etE_ln {A : Nat → Nat → Option Nat} {EA : Nat → Nat → List OPc} (hN : NGr T N n) (hA : ∀ d, PGr n (A d)) (hnt : ∀ k, wtE (nt k) ≤ k) (hE : ∀ d, LnG n (A d) (EA d)) : ∀ d, LnG n (eitD T N F A d) (etE T N F nt A EA d) ∧ LnG n (sngD T N F A d) (sgE T N F nt A EA d)
  | 0 => by
    have s : LnG n (sngD T N F A 0) (sgE T N F nt A EA 0) := sgnE_ln (F := F) (E := fun _ => none) (EE := fun _ => []) hN none_pg hnt (fun q r _ e => nomatch (show (none : Option Nat) = some r from e)) (hE 0)
    refine ⟨?_, s⟩
    rw [eitD_eq, etE_eq]
    exact etnE_ln hN (sngD_pg hN hA 0) s
  | d + 1 => by
    have ih := (etE_ln hN hA hnt hE d).1
    have s : LnG n (sngD T N F A (d + 1)) (sgE T N F nt A EA (d + 1)) := sgnE_ln hN (eitD_pg hN hA d) hnt ih (hE (d + 1))
    refine ⟨?_, s⟩
    rw [eitD_eq, etE_eq]
    exact etnE_ln hN (sngD_pg hN hA (d + 1)) s
theorem awE_ln (hN : NGr T N n) (kn : Nat → Bool) (d : Nat) : LnG n (atW T N kn d) (awE T Lw K M d) := by
  intro q r h e
  unfold atW at e
  unfold awE
  by_cases c : T q = 275
  · rw [if_pos c] at e ⊢
    have g := hN q h (by omega)
    have e2 := Option.some.inj e
    show 1 + q ≤ r
    omega
  · rw [if_neg c] at e ⊢
    split at e
    · have g := hN q h (by omega)
      have e2 := Option.some.inj e
      split
      · show 1 + q ≤ r
        omega
      · show 1 + q ≤ r
        omega
    · cases e
theorem atE_ln (hN : NGr T N n) (hWs : ∀ q, q ≤ n → T q = 277 → q + 4 ≤ N q) (d : Nat) : LnG n (atT T N F d) (atE T N F V Lw d) := by
  intro q r h e
  unfold atT at e
  unfold atE
  by_cases c : T q = 276
  · rw [if_pos c] at e ⊢
    have g := hN q h (by omega)
    have e2 := Option.some.inj e
    show 1 + q ≤ r
    omega
  · rw [if_neg c] at e ⊢
    by_cases c2 : T q = 277
    · rw [if_pos c2] at e ⊢
      have g := hN q h (by omega)
      split at e
      · rename_i c3
        have g2 := hN _ g.2 (by omega)
        have e2 := Option.some.inj e
        have w := hWs q h c2
        show 5 + q ≤ r
        omega
      · cases e
    · rw [if_neg c2] at e ⊢
      cases e3 : sumD T N F d q with
      | none =>
        rw [e3] at e
        cases e
      | some y =>
        rw [e3] at e
        have l1 := (smE_ln (V := V) hN d).1 _ _ h e3
        have pr := sumD_pg hN d _ _ h e3
        have e4 : cmK T N F d y = some r := e
        unfold cmK at e4
        split at e4
        · have g := hN y pr.2 (by omega)
          have l2 := (smE_ln (V := V) hN d).1 _ _ g.2 e4
          have o1 := opC_w (T y)
          rw [ctn_s rfl, wtE_app, wtE_app]
          show wtE (smE T N F V d q) + (wtE (smE T N F V d (N y)) + (opW (opC (T y)) + 0)) + q ≤ r
          omega
        · cases e4
end EmitL
