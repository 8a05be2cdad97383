/-! what the codes come to, in both -/
section Eval
variable (lf : OPc → Int) (full : Int)
def bnd (v : Int) : Int := max (-1000000) (min 1000000 v)
def jnX (c : Nat) (a b : Int) : Int := if c = 16 then iAnd a b else if c = 17 then iOr a b else if c = 13 then (if b ≤ a then 0 else 1) else if c = 14 then (if a ≤ b then 0 else 1) else if c = 15 then (if a = b then 1 else 0) else if c = 10 then bnd (wi (a + b)) else if c = 11 then bnd (wi (a - b)) else bnd (wl (a * b))
def jnR (c : Nat) (a b : Int) : Int := if c = 16 then wl (a * b) else if c = 17 then (if wl (a + b) ≤ 0 then 0 else 1) else if c = 13 then (if b ≤ a then 0 else 1) else if c = 14 then (if a ≤ b then 0 else 1) else if c = 15 then (if a = b then 1 else 0) else if c = 10 then bnd (wl (a + b)) else if c = 11 then bnd (wl (a - b)) else bnd (wl (a * b))
/-- one code of the class's: top first, no more than 64 -/
def stX (o : OPc) : List Int → List Int
  | [] => if o.1 ≤ 9 then [lf o] else []
  | [a] => if o.1 ≤ 9 then [lf o, a] else if o.1 = 18 then [iXor a full] else [a]
  | b :: a :: st => if o.1 ≤ 9 then (if st.length + 2 < 64 then lf o :: b :: a :: st else b :: a :: st) else if o.1 = 18 then iXor b full :: a :: st else jnX o.1 a b :: st
def stR (o : OPc) : List Int → Option (List Int)
  | [] => if o.1 ≤ 9 then some [lf o] else none
  | [a] => if o.1 ≤ 9 then some [lf o, a] else if o.1 = 18 then some [wl (1 - a)] else none
  | b :: a :: st => if o.1 ≤ 9 then some (lf o :: b :: a :: st) else if o.1 = 18 then some (wl (1 - b) :: a :: st) else some (jnR o.1 a b :: st)
def evX : List OPc → List Int → List Int
  | [], st => st
  | o :: l, st => evX l (stX lf full o st)
def evR : List OPc → List Int → Option (List Int)
  | [], st => some st
  | o :: l, st => (stR lf o st).bind (evR l)
end Eval
theorem jnX_16 (a b : Int) : jnX 16 a b = (iAnd a b) := by
  unfold jnX
  rw [if_pos rfl]
theorem jnX_17 (a b : Int) : jnX 17 a b = (iOr a b) := by
  unfold jnX
  rw [if_neg (by decide), if_pos rfl]
theorem jnX_13 (a b : Int) : jnX 13 a b = (if b ≤ a then 0 else 1) := by
  unfold jnX
  rw [if_neg (by decide), if_neg (by decide), if_pos rfl]
theorem jnX_14 (a b : Int) : jnX 14 a b = (if a ≤ b then 0 else 1) := by
  unfold jnX
  rw [if_neg (by decide), if_neg (by decide), if_neg (by decide), if_pos rfl]
theorem jnX_15 (a b : Int) : jnX 15 a b = (if a = b then 1 else 0) := by
  unfold jnX
  rw [if_neg (by decide), if_neg (by decide), if_neg (by decide), if_neg (by decide), if_pos rfl]
theorem jnX_10 (a b : Int) : jnX 10 a b = (bnd (wi (a + b))) := by
  unfold jnX
  rw [if_neg (by decide), if_neg (by decide), if_neg (by decide), if_neg (by decide), if_neg (by decide), if_pos rfl]
theorem jnX_11 (a b : Int) : jnX 11 a b = (bnd (wi (a - b))) := by
  unfold jnX
  rw [if_neg (by decide), if_neg (by decide), if_neg (by decide), if_neg (by decide), if_neg (by decide), if_neg (by decide), if_pos rfl]
theorem jnX_12 (a b : Int) : jnX 12 a b = (bnd (wl (a * b))) := by
  unfold jnX
  rw [if_neg (by decide), if_neg (by decide), if_neg (by decide), if_neg (by decide), if_neg (by decide), if_neg (by decide), if_neg (by decide)]
theorem jnR_16 (a b : Int) : jnR 16 a b = (wl (a * b)) := by
  unfold jnR
  rw [if_pos rfl]
theorem jnR_17 (a b : Int) : jnR 17 a b = (if wl (a + b) ≤ 0 then 0 else 1) := by
  unfold jnR
  rw [if_neg (by decide), if_pos rfl]
theorem jnR_13 (a b : Int) : jnR 13 a b = (if b ≤ a then 0 else 1) := by
  unfold jnR
  rw [if_neg (by decide), if_neg (by decide), if_pos rfl]
theorem jnR_14 (a b : Int) : jnR 14 a b = (if a ≤ b then 0 else 1) := by
  unfold jnR
  rw [if_neg (by decide), if_neg (by decide), if_neg (by decide), if_pos rfl]
theorem jnR_15 (a b : Int) : jnR 15 a b = (if a = b then 1 else 0) := by
  unfold jnR
  rw [if_neg (by decide), if_neg (by decide), if_neg (by decide), if_neg (by decide), if_pos rfl]
theorem jnR_10 (a b : Int) : jnR 10 a b = (bnd (wl (a + b))) := by
  unfold jnR
  rw [if_neg (by decide), if_neg (by decide), if_neg (by decide), if_neg (by decide), if_neg (by decide), if_pos rfl]
theorem jnR_11 (a b : Int) : jnR 11 a b = (bnd (wl (a - b))) := by
  unfold jnR
  rw [if_neg (by decide), if_neg (by decide), if_neg (by decide), if_neg (by decide), if_neg (by decide), if_neg (by decide), if_pos rfl]
theorem jnR_12 (a b : Int) : jnR 12 a b = (bnd (wl (a * b))) := by
  unfold jnR
  rw [if_neg (by decide), if_neg (by decide), if_neg (by decide), if_neg (by decide), if_neg (by decide), if_neg (by decide), if_neg (by decide)]
section EvalL
variable {lx lr : OPc → Int} {full : Int} {D D2 : Nat} {Rel Rel2 Rel3 : Int → Int → Prop} {A A' B B' : List OPc} {o : OPc}
theorem evX_app : ∀ (A B : List OPc) (st : List Int), evX lx full (A ++ B) st = evX lx full B (evX lx full A st)
  | [], _, _ => rfl
  | o :: A, B, st => evX_app A B (stX lx full o st)
theorem evR_app : ∀ (A B : List OPc) (st : List Int), evR lr (A ++ B) st = (evR lr A st).bind (evR lr B)
  | [], _, _ => rfl
  | o :: A, B, st => by
    show (stR lr o st).bind (evR lr (A ++ B)) = ((stR lr o st).bind (evR lr A)).bind (evR lr B)
    cases stR lr o st with
    | none => rfl
    | some st2 => exact evR_app A B st2
theorem stX_lf (h : o.1 ≤ 9) : ∀ st : List Int, st.length < 64 → stX lx full o st = lx o :: st
  | [], _ => if_pos h
  | [a], _ => if_pos h
  | b :: a :: st, hl => by
    show (if o.1 ≤ 9 then (if st.length + 2 < 64 then lx o :: b :: a :: st else b :: a :: st) else _) = _
    rw [if_pos h]
    exact if_pos hl
theorem stR_lf (h : o.1 ≤ 9) : ∀ st : List Int, stR lr o st = some (lr o :: st)
  | [] => if_pos h
  | [a] => if_pos h
  | b :: a :: st => if_pos h
theorem stX_n {a : Int} : ∀ st : List Int, stX lx full opN (a :: st) = iXor a full :: st
  | [] => rfl
  | b :: st => rfl
theorem stR_n {a : Int} : ∀ st : List Int, stR lr opN (a :: st) = some (wl (1 - a) :: st)
  | [] => rfl
  | b :: st => rfl
theorem stX_2 {a b : Int} (h : ¬ o.1 ≤ 9) (h2 : ¬ o.1 = 18) (st : List Int) : stX lx full o (b :: a :: st) = jnX o.1 a b :: st := by
  show (if o.1 ≤ 9 then _ else if o.1 = 18 then _ else _) = _
  rw [if_neg h, if_neg h2]
theorem stR_2 {a b : Int} (h : ¬ o.1 ≤ 9) (h2 : ¬ o.1 = 18) (st : List Int) : stR lr o (b :: a :: st) = some (jnR o.1 a b :: st) := by
  show (if o.1 ≤ 9 then _ else if o.1 = 18 then _ else _) = _
  rw [if_neg h, if_neg h2]
/-- two codes come to related numbers; the class's needs D places -/
def Dn (lx lr : OPc → Int) (full : Int) (D : Nat) (Rel : Int → Int → Prop) (A B : List OPc) : Prop := ∃ v u, Rel v u ∧ (∀ st : List Int, st.length + D ≤ 64 → evX lx full A st = v :: st) ∧ ∀ st : List Int, evR lr B st = some (u :: st)
theorem Dn.le (h : Dn lx lr full D Rel A A') (hD : D ≤ D2) : Dn lx lr full D2 Rel A A' := by
  obtain ⟨v, u, h1, h2, h3⟩ := h
  exact ⟨v, u, h1, fun st hl => h2 st (by omega), h3⟩
theorem Dn.leaf (h : o.1 ≤ 9) (hr : Rel (lx o) (lr o)) : Dn lx lr full 1 Rel [o] [o] := ⟨lx o, lr o, hr, fun st hl => stX_lf h st (by omega), fun st => by
    show (stR lr o st).bind (evR lr []) = _
    rw [stR_lf h st]
    rfl⟩
theorem Dn.two (hA : Dn lx lr full D Rel A A') (hB : Dn lx lr full D2 Rel2 B B') (hD : D2 + 1 ≤ D) (h : ¬ o.1 ≤ 9) (h2 : ¬ o.1 = 18) (hj : ∀ a a' b b', Rel a a' → Rel2 b b' → Rel3 (jnX o.1 a b) (jnR o.1 a' b')) : Dn lx lr full D Rel3 (A ++ (B ++ [o])) (A' ++ (B' ++ [o])) := by
  obtain ⟨v, u, h3, h4, h5⟩ := hA
  obtain ⟨v2, u2, g3, g4, g5⟩ := hB
  refine ⟨jnX o.1 v v2, jnR o.1 u u2, hj _ _ _ _ h3 g3, fun st hl => ?_, fun st => ?_⟩
  · rw [evX_app, h4 st hl, evX_app, g4 (v :: st) (by rw [List.length_cons]; omega)]
    exact stX_2 h h2 st
  · rw [evR_app, h5 st]
    show evR lr (B' ++ [o]) (u :: st) = _
    rw [evR_app, g5 (u :: st)]
    show (stR lr o (u2 :: u :: st)).bind (evR lr []) = _
    rw [stR_2 h h2 st]
    rfl
theorem ntR_ev : ∀ (k : Nat) (a : Int) (st : List Int), (a = 0 ∨ a = 1) → evR lr (ntR k) (a :: st) = some ((if k % 2 = 1 then 1 - a else a) :: st)
  | 0, a, st, _ => rfl
  | k + 1, a, st, h => by
    rw [ntR_s, evR_app, ntR_ev k a st h]
    show (stR lr opN ((if k % 2 = 1 then 1 - a else a) :: st)).bind (evR lr []) = _
    rw [stR_n]
    show some (wl (1 - (if k % 2 = 1 then 1 - a else a)) :: st) = _
    by_cases c : k % 2 = 1
    · rw [if_pos c, if_neg (by omega), wl_id (by omega) (by omega)]
      congr 2
      omega
    · rw [if_neg c, if_pos (by omega), wl_id (by omega) (by omega)]
theorem Dn.not (hA : Dn lx lr full D Rel A A') (hn : ∀ v u, Rel v u → Rel (iXor v full) (1 - u)) (hu : ∀ v u, Rel v u → u = 0 ∨ u = 1) (k : Nat) : Dn lx lr full D Rel (A ++ ntX k) (A' ++ ntR k) := by
  obtain ⟨v, u, h3, h4, h5⟩ := hA
  by_cases c : k % 2 = 1
  · refine ⟨iXor v full, 1 - u, hn _ _ h3, fun st hl => ?_, fun st => ?_⟩
    · rw [evX_app, h4 st hl]
      unfold ntX
      rw [if_pos c]
      exact stX_n st
    · rw [evR_app, h5 st]
      show evR lr (ntR k) (u :: st) = _
      rw [ntR_ev _ _ _ (hu _ _ h3), if_pos c]
  · refine ⟨v, u, h3, fun st hl => ?_, fun st => ?_⟩
    · rw [evX_app, h4 st hl]
      unfold ntX
      rw [if_neg c]
      rfl
    · rw [evR_app, h5 st]
      show evR lr (ntR k) (u :: st) = _
      rw [ntR_ev _ _ _ (hu _ _ h3), if_neg c]
section Gr
variable {T N : Nat → Nat} {F : Nat} {V : Nat → Nat} {Lw : Nat → List Nat} {kn : Nat → Bool} {K M : List (List Nat)}
/-- one more as long as ok says so -/
theorem lpDn {ok : Nat → Bool} {P : Nat → Option Nat} {E E' : Nat → List OPc} {op : Nat → OPc} (hD : D2 + 1 ≤ D) (hE : ∀ q r, P q = some r → Dn lx lr full D2 Rel (E q) (E' q)) (h9 : ∀ c, ¬ (op c).1 ≤ 9) (h18 : ∀ c, ¬ (op c).1 = 18) (hj : ∀ c a a' b b', Rel a a' → Rel b b' → Rel (jnX (op c).1 a b) (jnR (op c).1 a' b')) : ∀ (k q z : Nat) (A A' : List OPc), Dn lx lr full D Rel A A' → lpF T N ok P k q = some z → Dn lx lr full D Rel (A ++ lpE T N ok P E op k q) (A' ++ lpE T N ok P E' op k q)
  | 0, q, z, A, A', hA, _ => by
    show Dn lx lr full D Rel (A ++ []) (A' ++ [])
    rw [List.append_nil, List.append_nil]
    exact hA
  | k + 1, q, z, A, A', hA, e => by
    have e2 : (if ok (T q) = true then (P (N q)).bind (lpF T N ok P k) else some q) = some z := e
    show Dn lx lr full D Rel (A ++ (if ok (T q) = true then E (N q) ++ ctn (P (N q)) (fun r => op (T q) :: lpE T N ok P E op k r) else [])) (A' ++ (if ok (T q) = true then E' (N q) ++ ctn (P (N q)) (fun r => op (T q) :: lpE T N ok P E' op k r) else []))
    by_cases c : ok (T q) = true
    · rw [if_pos c] at e2
      rw [if_pos c, if_pos c]
      cases e4 : P (N q) with
      | none =>
        rw [e4] at e2
        cases e2
      | some y =>
        rw [e4] at e2
        have hB := hE _ _ e4
        have h2 := Dn.two (o := op (T q)) hA hB hD (h9 _) (h18 _) (hj (T q))
        have ih := lpDn hD hE h9 h18 hj k y z _ _ h2 e2
        rw [List.append_assoc, List.append_assoc, List.append_assoc, List.append_assoc] at ih
        exact ih
    · rw [if_neg c, if_neg c, List.append_nil, List.append_nil]
      exact hA
def RelS (v u : Int) : Prop := v = u ∧ -2300000 ≤ v ∧ v ≤ 2300000
def RelB (v u : Int) : Prop := v = u ∧ (v = 0 ∨ v = 1)
theorem bnd_in (v : Int) : -2300000 ≤ bnd v ∧ bnd v ≤ 2300000 := by
  unfold bnd
  omega
theorem jn_P (c : Nat) (a a' b b' : Int) (h1 : RelS a a') (h2 : RelS b b') : RelS (jnX (opP c).1 a b) (jnR (opP c).1 a' b') := by
  obtain ⟨rfl, b1, b2⟩ := h1
  obtain ⟨rfl, b3, b4⟩ := h2
  have e : ∀ s, (s = 10 ∨ s = 11 ∨ s = 12) → RelS (jnX s a b) (jnR s a b) := by
    intro s hs
    rcases hs with rfl | rfl | rfl
    · refine ⟨?_, by rw [jnX_10]; exact bnd_in _⟩
      rw [jnX_10, jnR_10, wi_id (by omega) (by omega), wl_id (by omega) (by omega)]
    · refine ⟨?_, by rw [jnX_11]; exact bnd_in _⟩
      rw [jnX_11, jnR_11, wi_id (by omega) (by omega), wl_id (by omega) (by omega)]
    · rw [jnX_12, jnR_12]
      exact ⟨rfl, bnd_in (wl (a * b))⟩
  refine e _ ?_
  unfold opP
  show (if c = 43 then 10 else if c = 45 then 11 else 12) = 10 ∨ (if c = 43 then 10 else if c = 45 then 11 else 12) = 11 ∨ (if c = 43 then 10 else if c = 45 then 11 else 12) = 12
  split
  · exact Or.inl rfl
  · split
    · exact Or.inr (Or.inl rfl)
    · exact Or.inr (Or.inr rfl)
theorem opP_9 (c : Nat) : ¬ (opP c).1 ≤ 9 ∧ ¬ (opP c).1 = 18 := by
  unfold opP
  show ¬ (if c = 43 then 10 else if c = 45 then 11 else 12) ≤ 9 ∧ ¬ (if c = 43 then 10 else if c = 45 then 11 else 12) = 18
  split
  · decide
  · split <;> decide
/-- sums: leaves are numbers that both take alike -/
theorem smDn (hn : ∀ q, T q = 259 → RelS (lx (0, (V q : Int), [])) (lr (0, (V q : Int), []))) (hf : ∀ k, 1 ≤ k → k ≤ 5 → RelS (lx (k, 0, [])) (lr (k, 0, []))) : ∀ d : Nat, (∀ q r, sumD T N F d q = some r → Dn lx lr full (d + 2) RelS (smE T N F V d q) (smE T N F V d q)) ∧ (∀ q r, parD T N F d q = some r → Dn lx lr full (d + 1) RelS (prE T N F V d q) (prE T N F V d q)) := by
  have leaf : ∀ d q r, ¬ T q = 40 → parD T N F d q = some r → Dn lx lr full (d + 1) RelS (prE T N F V d q) (prE T N F V d q) := by
    intro d q r c e
    rw [parD_l c] at e
    rw [prE_l c]
    by_cases h : T q = 259 ∨ (278 ≤ T q ∧ T q ≤ 282)
    · refine Dn.le ?_ (show 1 ≤ d + 1 by omega)
      by_cases h9 : T q = 259
      · rw [if_pos h9]
        exact Dn.leaf (Nat.zero_le _) (hn q h9)
      · rw [if_neg h9]
        exact Dn.leaf (show T q - 277 ≤ 9 by omega) (hf _ (by omega) (by omega))
    · rw [if_neg h] at e
      cases e
  have sum : ∀ d, (∀ q r, parD T N F d q = some r → Dn lx lr full (d + 1) RelS (prE T N F V d q) (prE T N F V d q)) → ∀ q r, sumD T N F d q = some r → Dn lx lr full (d + 2) RelS (smE T N F V d q) (smE T N F V d q) := by
    intro d hp q r e
    rw [sumD_eq] at e
    have e2 : (parD T N F d q).bind (lpF T N tkP (parD T N F d) F) = some r := e
    rw [smE_eq]
    cases e3 : parD T N F d q with
    | none =>
      rw [e3] at e2
      cases e2
    | some y =>
      rw [e3] at e2
      exact lpDn (by omega) hp (fun c => (opP_9 c).1) (fun c => (opP_9 c).2) jn_P F y r _ _ ((hp q y e3).le (by omega)) e2
  intro d
  induction d with
  | zero =>
    have p : ∀ q r, parD T N F 0 q = some r → Dn lx lr full (0 + 1) RelS (prE T N F V 0 q) (prE T N F V 0 q) := by
      intro q r e
      by_cases c : T q = 40
      · rw [parD_0 c] at e
        cases e
      · exact leaf 0 q r c e
    exact ⟨sum 0 p, p⟩
  | succ d ih =>
    have p : ∀ q r, parD T N F (d + 1) q = some r → Dn lx lr full (d + 1 + 1) RelS (prE T N F V (d + 1) q) (prE T N F V (d + 1) q) := by
      intro q r e
      by_cases c : T q = 40
      · rw [parD_b d c] at e
        rw [prE_b d c]
        cases e3 : sumD T N F d (N q) with
        | none =>
          rw [e3] at e
          cases e
        | some y => exact (ih.1 _ _ e3).le (by omega)
      · exact leaf (d + 1) q r c e
    exact ⟨sum (d + 1) p, p⟩
/-- tests and whiches, by their smallest parts -/
theorem etDn {A : Nat → Nat → Option Nat} {EA : Nat → Nat → List OPc} (hA : ∀ d q r, A d q = some r → Dn lx lr full (d + 3) Rel (EA d q) (EA d q)) (hn : ∀ v u, Rel v u → Rel (iXor v full) (1 - u)) (hu : ∀ v u, Rel v u → u = 0 ∨ u = 1) (ha : ∀ a a' b b', Rel a a' → Rel b b' → Rel (jnX 16 a b) (jnR 16 a' b')) (ho : ∀ a a' b b', Rel a a' → Rel b b' → Rel (jnX 17 a b) (jnR 17 a' b')) : ∀ d : Nat, (∀ q r, eitD T N F A d q = some r → Dn lx lr full (2 * d + 5) Rel (etE T N F ntX A EA d q) (etE T N F ntR A EA d q)) ∧ (∀ q r, sngD T N F A d q = some r → Dn lx lr full (2 * d + 3) Rel (sgE T N F ntX A EA d q) (sgE T N F ntR A EA d q)) := by
  have eit : ∀ d, (∀ q r, sngD T N F A d q = some r → Dn lx lr full (2 * d + 3) Rel (sgE T N F ntX A EA d q) (sgE T N F ntR A EA d q)) → ∀ q r, eitD T N F A d q = some r → Dn lx lr full (2 * d + 5) Rel (etE T N F ntX A EA d q) (etE T N F ntR A EA d q) := by
    intro d hs q r e
    have bo : ∀ q r, botN T N F (sngD T N F A d) q = some r → Dn lx lr full (2 * d + 4) Rel (btnE T N F (sngD T N F A d) (sgE T N F ntX A EA d) q) (btnE T N F (sngD T N F A d) (sgE T N F ntR A EA d) q) := by
      intro q r e
      have e2 : (sngD T N F A d q).bind (lpF T N tkA (sngD T N F A d) F) = some r := e
      unfold btnE
      cases e3 : sngD T N F A d q with
      | none =>
        rw [e3] at e2
        cases e2
      | some y =>
        rw [e3] at e2
        exact lpDn (op := opA) (by omega) hs (fun _ => show ¬ (16 : Nat) ≤ 9 by decide) (fun _ => show ¬ (16 : Nat) = 18 by decide) (fun c => ha) F y r _ _ ((hs q y e3).le (by omega)) e2
    rw [eitD_eq] at e
    rw [etE_eq, etE_eq]
    have e2 : (botN T N F (sngD T N F A d) q).bind (lpF T N tkO (botN T N F (sngD T N F A d)) F) = some r := e
    unfold etnE
    cases e3 : botN T N F (sngD T N F A d) q with
    | none =>
      rw [e3] at e2
      cases e2
    | some y =>
      rw [e3] at e2
      exact lpDn (op := opO) (by omega) bo (fun _ => show ¬ (17 : Nat) ≤ 9 by decide) (fun _ => show ¬ (17 : Nat) = 18 by decide) (fun c => ho) F y r _ _ ((bo q y e3).le (by omega)) e2
  have sng : ∀ d, (∀ (d' : Nat) q r, d = d' + 1 → eitD T N F A d' q = some r → Dn lx lr full (2 * d + 3) Rel (etE T N F ntX A EA d' q) (etE T N F ntR A EA d' q)) → ∀ q r, sngD T N F A d q = some r → Dn lx lr full (2 * d + 3) Rel (sgE T N F ntX A EA d q) (sgE T N F ntR A EA d q) := by
    intro d hd q r e
    rw [sgE_eq, sgE_eq]
    refine Dn.not ?_ hn hu _
    unfold coE
    cases d with
    | zero =>
      rw [sngD_z] at e
      unfold sngN at e
      by_cases c : T (ntF T N F q) = 91
      · rw [if_pos c] at e
        cases e
      · rw [if_neg c] at e
        rw [if_neg c, if_neg c]
        exact hA 0 _ _ e
    | succ d =>
      rw [sngD_s] at e
      unfold sngN at e
      by_cases c : T (ntF T N F q) = 91
      · rw [if_pos c] at e
        rw [if_pos c, if_pos c]
        cases e3 : eitD T N F A d (N (ntF T N F q)) with
        | none =>
          rw [e3] at e
          cases e
        | some y => exact hd d _ _ rfl e3
      · rw [if_neg c] at e
        rw [if_neg c, if_neg c]
        exact (hA (d + 1) _ _ e).le (by omega)
  intro d
  induction d with
  | zero =>
    have s := sng 0 (fun d' q r h => absurd h (by omega))
    exact ⟨eit 0 s, s⟩
  | succ d ih =>
    have s := sng (d + 1) (fun d' q r h e => by
      obtain rfl : d = d' := by omega
      exact ih.1 q r e)
    exact ⟨eit (d + 1) s, s⟩
theorem opC_9 (c : Nat) : ¬ (opC c).1 ≤ 9 ∧ ¬ (opC c).1 = 18 := by
  unfold opC
  show ¬ (if c = 60 then 13 else if c = 62 then 14 else 15) ≤ 9 ∧ ¬ (if c = 60 then 13 else if c = 62 then 14 else 15) = 18
  split
  · decide
  · split <;> decide
theorem jn_C (c : Nat) (a a' b b' : Int) (h1 : RelS a a') (h2 : RelS b b') : RelB (jnX (opC c).1 a b) (jnR (opC c).1 a' b') := by
  obtain ⟨rfl, _⟩ := h1
  obtain ⟨rfl, _⟩ := h2
  have e : ∀ s, (s = 13 ∨ s = 14 ∨ s = 15) → RelB (jnX s a b) (jnR s a b) := by
    intro s hs
    rcases hs with rfl | rfl | rfl
    · rw [jnX_13, jnR_13]
      refine ⟨rfl, ?_⟩
      split
      · exact Or.inl rfl
      · exact Or.inr rfl
    · rw [jnX_14, jnR_14]
      refine ⟨rfl, ?_⟩
      split
      · exact Or.inl rfl
      · exact Or.inr rfl
    · rw [jnX_15, jnR_15]
      refine ⟨rfl, ?_⟩
      split
      · exact Or.inr rfl
      · exact Or.inl rfl
  refine e _ ?_
  unfold opC
  show (if c = 60 then 13 else if c = 62 then 14 else 15) = 13 ∨ (if c = 60 then 13 else if c = 62 then 14 else 15) = 14 ∨ (if c = 60 then 13 else if c = 62 then 14 else 15) = 15
  split
  · exact Or.inl rfl
  · split
    · exact Or.inr (Or.inl rfl)
    · exact Or.inr (Or.inr rfl)
/-- a test's smallest parts -/
theorem atDn (hn : ∀ q, T q = 259 → RelS (lx (0, (V q : Int), [])) (lr (0, (V q : Int), []))) (hf : ∀ k, 1 ≤ k → k ≤ 5 → RelS (lx (k, 0, [])) (lr (k, 0, []))) (hl : RelB (lx (6, 0, [])) (lr (6, 0, []))) (hw : ∀ q, T q = 258 → RelB (lx (7, 0, Lw q)) (lr (7, 0, Lw q))) (d q r : Nat) (e : atT T N F d q = some r) : Dn lx lr full (d + 3) RelB (atE T N F V Lw d q) (atE T N F V Lw d q) := by
  unfold atT at e
  unfold atE
  by_cases c : T q = 276
  · rw [if_pos c]
    exact (Dn.leaf (o := (6, 0, [])) (by decide) hl).le (by omega)
  · rw [if_neg c] at e ⊢
    by_cases c2 : T q = 277
    · rw [if_pos c2] at e ⊢
      by_cases c3 : T (N q) = 258
      · exact (Dn.leaf (o := (7, 0, Lw (N q))) (by show 7 ≤ 9; decide) (hw _ c3)).le (by omega)
      · rw [if_neg c3] at e
        cases e
    · rw [if_neg c2] at e ⊢
      have s := (smDn (T := T) (N := N) (F := F) (V := V) (full := full) hn hf d).1
      cases e3 : sumD T N F d q with
      | none =>
        rw [e3] at e
        cases e
      | some y =>
        rw [e3] at e
        have e4 : cmK T N F d y = some r := e
        unfold cmK at e4
        by_cases c4 : T y = 60 ∨ T y = 62 ∨ T y = 61
        · rw [if_pos c4] at e4
          exact Dn.two (o := opC (T y)) ((s q y e3).le (by omega)) (s _ _ e4) (by omega) (opC_9 _).1 (opC_9 _).2 (jn_C (T y))
        · rw [if_neg c4] at e4
          cases e4
end Gr
end EvalL
