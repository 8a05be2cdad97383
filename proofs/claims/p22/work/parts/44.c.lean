/-! the reference's reader, as what is still to come: frames from the top, each its kind and phase -/
section Mach
variable (T N : Nat → Nat) (F : Nat) (kn : Nat → Bool)
def atK (k : Nat) : Nat → Nat → Option Nat := if k = 1 ∨ k = 4 then atT T N F else atW T N kn
/-- behind a sum's part (two: behind a whole test or which) -/
def conA : List (Nat × Nat) → Bool → Nat → Option Nat
  | [], _, q => some q
  | (k, f) :: fs, two, q =>
    if k = 0 then lpF T N tkP (parD T N F (8 - fs.length)) F q
    else if k = 3 then (lpF T N tkP (parD T N F (8 - fs.length)) F q).bind (fun r => (psK T N 41 r).bind (conA fs false))
    else ((if two = true ∨ f = 2 then some q else if f = 1 then lpF T N tkP (parD T N F (8 - fs.length)) F q else (lpF T N tkP (parD T N F (8 - fs.length)) F q).bind (cmK T N F (8 - fs.length))).bind
      (fun r => (lpF T N tkE (sngD T N F (atK T N F kn k) (8 - fs.length)) F r).bind (fun r2 => if k < 3 then some r2 else (psK T N 93 r2).bind (conA fs true))))
/-- ahead of a part (b: ahead of a whole test or which) -/
def conB (k f : Nat) (fs : List (Nat × Nat)) (b : Bool) (q : Nat) : Option Nat :=
  if k = 0 ∨ k = 3 ∨ b = false then (parD T N F (8 - fs.length) q).bind (conA T N F kn ((k, f) :: fs) false)
  else (sngD T N F (atK T N F kn k) (8 - fs.length) q).bind (conA T N F kn ((k, f) :: fs) true)
end Mach
section MachR
variable {T N : Nat → Nat} {kn : Nat → Bool} {n F k f q d : Nat} {fs : List (Nat × Nat)}
theorem conA_0 {two : Bool} : conA T N F kn ((0, f) :: fs) two q = lpF T N tkP (parD T N F (8 - fs.length)) F q := by
  unfold conA
  rw [if_pos rfl]
theorem conA_3 {two : Bool} : conA T N F kn ((3, f) :: fs) two q = (lpF T N tkP (parD T N F (8 - fs.length)) F q).bind (fun r => (psK T N 41 r).bind (conA T N F kn fs false)) := by
  conv => lhs; unfold conA
  rw [if_neg (by decide), if_pos rfl]
/-- what follows a whole test or which -/
def conE (T N : Nat → Nat) (F : Nat) (kn : Nat → Bool) (k : Nat) (fs : List (Nat × Nat)) (r : Nat) : Option Nat := (lpF T N tkE (sngD T N F (atK T N F kn k) (8 - fs.length)) F r).bind (fun r2 => if k < 3 then some r2 else (psK T N 93 r2).bind (conA T N F kn fs true))
theorem conA_w {two : Bool} (h0 : ¬ k = 0) (h3 : ¬ k = 3) : conA T N F kn ((k, f) :: fs) two q = (if two = true ∨ f = 2 then some q else if f = 1 then lpF T N tkP (parD T N F (8 - fs.length)) F q else (lpF T N tkP (parD T N F (8 - fs.length)) F q).bind (cmK T N F (8 - fs.length))).bind (conE T N F kn k fs) := by
  conv => lhs; unfold conA
  rw [if_neg h0, if_neg h3]
  rfl
theorem conA_t (h0 : ¬ k = 0) (h3 : ¬ k = 3) : conA T N F kn ((k, f) :: fs) true q = conE T N F kn k fs q := by
  rw [conA_w h0 h3, if_pos (Or.inl rfl)]
  rfl
theorem conA_2 (h0 : ¬ k = 0) (h3 : ¬ k = 3) {two : Bool} : conA T N F kn ((k, 2) :: fs) two q = conE T N F kn k fs q := by
  rw [conA_w h0 h3, if_pos (Or.inr rfl)]
  rfl
theorem conB_s (h : k = 0 ∨ k = 3) {b : Bool} : conB T N F kn k f fs b q = (parD T N F (8 - fs.length) q).bind (conA T N F kn ((k, f) :: fs) false) := by
  unfold conB
  rw [if_pos (by omega)]
theorem conB_f : conB T N F kn k f fs false q = (parD T N F (8 - fs.length) q).bind (conA T N F kn ((k, f) :: fs) false) := by
  unfold conB
  rw [if_pos (Or.inr (Or.inr rfl))]
theorem conB_t (h0 : ¬ k = 0) (h3 : ¬ k = 3) : conB T N F kn k f fs true q = (sngD T N F (atK T N F kn k) (8 - fs.length) q).bind (conE T N F kn k fs) := by
  unfold conB
  rw [if_neg (by
    intro z
    rcases z with z | z | z
    · exact h0 z
    · exact h3 z
    · exact absurd z (by decide))]
  congr 1
  funext r
  exact conA_t h0 h3
theorem sngD_z (A : Nat → Nat → Option Nat) : sngD T N F A 0 = sngN T N F (fun _ => none) (A 0) := rfl
theorem sngD_s (A : Nat → Nat → Option Nat) (d : Nat) : sngD T N F A (d + 1) = sngN T N F (eitD T N F A d) (A (d + 1)) := rfl
theorem parD_z : parD T N F 0 = partN T N (fun _ => none) := rfl
theorem parD_s (d : Nat) : parD T N F (d + 1) = partN T N (sumD T N F d) := rfl
theorem sngD_no (A : Nat → Nat → Option Nat) (d : Nat) (h1 : ¬ T q = 274) (h2 : ¬ T q = 91) : sngD T N F A d q = A d q := by
  cases d with
  | zero =>
    rw [sngD_z]
    unfold sngN
    rw [ntF_no h1, if_neg h2]
  | succ d =>
    rw [sngD_s]
    unfold sngN
    rw [ntF_no h1, if_neg h2]
theorem sngD_go (A : Nat → Nat → Option Nat) (d : Nat) (hN : NGr T N n) (hn : n < F) (h : q ≤ n) (c : T q = 274) : sngD T N F A d q = sngD T N F A d (N q) := by
  cases d with
  | zero =>
    rw [sngD_z]
    exact sngN_go hN hn h c
  | succ d =>
    rw [sngD_s]
    exact sngN_go hN hn h c
theorem sngD_0 (A : Nat → Nat → Option Nat) (c : T q = 91) : sngD T N F A 0 q = none := by
  rw [sngD_z]
  unfold sngN
  rw [ntF_no (by omega), if_pos c]
  rfl
theorem sngD_b (A : Nat → Nat → Option Nat) (d : Nat) (c : T q = 91) : sngD T N F A (d + 1) q = (eitD T N F A d (N q)).bind (psK T N 93) := by
  rw [sngD_s]
  unfold sngN
  rw [ntF_no (by omega), if_pos c]
theorem parD_0 (c : T q = 40) : parD T N F 0 q = none := by
  rw [parD_z]
  unfold partN
  rw [if_pos c]
  rfl
theorem parD_b (d : Nat) (c : T q = 40) : parD T N F (d + 1) q = (sumD T N F d (N q)).bind (psK T N 41) := by
  rw [parD_s]
  unfold partN
  rw [if_pos c]
theorem parD_l (c : ¬ T q = 40) (d : Nat) : parD T N F d q = if T q = 259 ∨ (278 ≤ T q ∧ T q ≤ 282) then some (N q) else none := by
  cases d with
  | zero =>
    rw [parD_z]
    unfold partN
    rw [if_neg c]
  | succ d =>
    rw [parD_s]
    unfold partN
    rw [if_neg c]
/-! part: what it does leaves what is to come -/
/-- a not -/
theorem P_not (hN : NGr T N n) (hn : n < F) (h : q ≤ n) (h0 : ¬ k = 0) (h3 : ¬ k = 3) (c : T q = 274) : conB T N F kn k f fs true q = conB T N F kn k f fs true (N q) := by
  rw [conB_t h0 h3, conB_t h0 h3, sngD_go _ _ hN hn h c]
theorem atK_eq {k2 : Nat} (h : (k = 1 ∨ k = 4) ↔ (k2 = 1 ∨ k2 = 4)) : atK T N F kn k = atK T N F kn k2 := by
  unfold atK
  by_cases q : k = 1 ∨ k = 4
  · rw [if_pos q, if_pos (h.mp q)]
  · rw [if_neg q, if_neg (fun z => q (h.mpr z))]
/-- a square bracket -/
theorem P_sq0 (h0 : ¬ k = 0) (h3 : ¬ k = 3) (hl : fs.length = 8) (c : T q = 91) : conB T N F kn k f fs true q = none := by
  rw [conB_t h0 h3, hl, sngD_0 _ c]
  rfl
theorem atW_pg (hN : NGr T N n) (d : Nat) : PGr n (atW T N kn d) := by
  intro q r h e
  unfold atW at e
  by_cases c : T q = 275
  · rw [if_pos c] at e
    have g := hN q h (by omega)
    have e2 := Option.some.inj e
    omega
  · rw [if_neg c] at e
    by_cases c2 : T q = 258 ∧ kn q = true
    · rw [if_pos c2] at e
      have g := hN q h (by omega)
      have e2 := Option.some.inj e
      omega
    · rw [if_neg c2] at e
      cases e
theorem cmK_pg (hN : NGr T N n) (d : Nat) : PGr n (cmK T N F d) := by
  intro q r h e
  unfold cmK at e
  by_cases c : T q = 60 ∨ T q = 62 ∨ T q = 61
  · rw [if_pos c] at e
    have g := hN q h (by omega)
    have y := sumD_pg hN d _ _ g.2 e
    omega
  · rw [if_neg c] at e
    cases e
theorem atT_pg (hN : NGr T N n) (d : Nat) : PGr n (atT T N F d) := by
  intro q r h e
  unfold atT at e
  by_cases c : T q = 276
  · rw [if_pos c] at e
    have g := hN q h (by omega)
    have e2 := Option.some.inj e
    omega
  · rw [if_neg c] at e
    by_cases c2 : T q = 277
    · rw [if_pos c2] at e
      have g := hN q h (by omega)
      by_cases c3 : T (N q) = 258
      · rw [if_pos c3] at e
        have g2 := hN (N q) g.2 (by omega)
        have e2 := Option.some.inj e
        omega
      · rw [if_neg c3] at e
        cases e
    · rw [if_neg c2] at e
      exact PGr_bind (sumD_pg hN d) (fun a b h1 h2 => ⟨Nat.le_of_lt (cmK_pg hN d a b h1 h2).1, (cmK_pg hN d a b h1 h2).2⟩) q r h e
theorem atK_pg (hN : NGr T N n) (k d : Nat) : PGr n (atK T N F kn k d) := by
  unfold atK
  by_cases q : k = 1 ∨ k = 4
  · rw [if_pos q]
    exact atT_pg hN d
  · rw [if_neg q]
    exact atW_pg hN d
theorem eitD_pg {A : Nat → Nat → Option Nat} (hN : NGr T N n) (hA : ∀ d, PGr n (A d)) : ∀ d, PGr n (eitD T N F A d)
  | 0 => eitN_pg hN (sngN_pg hN none_pg (hA 0))
  | d + 1 => eitN_pg hN (sngN_pg hN (eitD_pg hN hA d) (hA (d + 1)))
theorem sngD_pg {A : Nat → Nat → Option Nat} (hN : NGr T N n) (hA : ∀ d, PGr n (A d)) : ∀ d, PGr n (sngD T N F A d)
  | 0 => sngN_pg hN none_pg (hA 0)
  | d + 1 => sngN_pg hN (eitD_pg hN hA d) (hA (d + 1))
theorem eitD_flt {A : Nat → Nat → Option Nat} (hN : NGr T N n) (hA : ∀ d, PGr n (A d)) (hn : n < F) (d : Nat) (h : q ≤ n) : eitD T N F A d q = (sngD T N F A d q).bind (lpF T N tkE (sngD T N F A d) F) := by
  rw [eitD_eq]
  exact eitN_flt hN (sngD_pg hN hA d) hn h
theorem P_sq {k2 : Nat} (hN : NGr T N n) (hn : n < F) (h : q ≤ n) (h0 : ¬ k = 0) (h3 : ¬ k = 3) (hk : (k = 1 ∨ k = 4) ↔ (k2 = 1 ∨ k2 = 4)) (hk2 : k2 = 4 ∨ k2 = 5) (hl : fs.length < 8) (c : T q = 91) : conB T N F kn k f fs true q = conB T N F kn k2 0 ((k, f) :: fs) true (N q) := by
  obtain ⟨d, hd⟩ : ∃ d, 8 - fs.length = d + 1 := ⟨7 - fs.length, by omega⟩
  have hd2 : 8 - ((k, f) :: fs).length = d := by
    rw [List.length_cons]
    omega
  have g := hN q h (by omega)
  rw [conB_t h0 h3, conB_t (by omega) (by omega), hd, hd2, sngD_b _ _ c, eitD_flt hN (fun d => atK_pg hN k d) hn d g.2, Option.bind_assoc, Option.bind_assoc, ← atK_eq (T := T) (N := N) (kn := kn) hk]
  congr 1
  funext r
  conv => rhs; unfold conE
  rw [hd2, ← atK_eq (T := T) (N := N) (kn := kn) hk]
  congr 1
  funext r2
  rw [if_neg (by omega : ¬ k2 < 3)]
  congr 1
  funext r3
  exact (conA_t h0 h3).symm
/-- a which's part -/
theorem P_at (h0 : ¬ k = 0) (h3 : ¬ k = 3) (h1 : ¬ T q = 274) (h2 : ¬ T q = 91) : conB T N F kn k f fs true q = (atK T N F kn k (8 - fs.length) q).bind (conE T N F kn k fs) := by
  rw [conB_t h0 h3, sngD_no _ _ h1 h2]
/-- a test's sum -/
theorem P_ts (hk : k = 1 ∨ k = 4) (h1 : ¬ T q = 274) (h2 : ¬ T q = 91) (h4 : ¬ T q = 276) (h5 : ¬ T q = 277) : conB T N F kn k 0 fs true q = conB T N F kn k 0 fs false q := by
  rw [P_at (by omega) (by omega) h1 h2, conB_f]
  unfold atK atT
  rw [if_pos hk, if_neg h4, if_neg h5, sumD_eq, Option.bind_assoc, Option.bind_assoc]
  congr 1
  funext r
  rw [conA_w (by omega) (by omega), if_neg (by decide), if_neg (by decide), Option.bind_assoc]
/-- a round bracket -/
theorem P_rd0 (hl : fs.length = 8) (c : T q = 40) {b : Bool} (hb : k = 0 ∨ k = 3 ∨ b = false) : conB T N F kn k f fs b q = none := by
  unfold conB
  rw [if_pos hb, hl, parD_0 c]
  rfl
theorem P_rd (hl : fs.length < 8) (c : T q = 40) {b b2 : Bool} (hb : k = 0 ∨ k = 3 ∨ b = false) : conB T N F kn k f fs b q = conB T N F kn 3 0 ((k, f) :: fs) b2 (N q) := by
  obtain ⟨d, hd⟩ : ∃ d, 8 - fs.length = d + 1 := ⟨7 - fs.length, by omega⟩
  have hd2 : 8 - ((k, f) :: fs).length = d := by
    rw [List.length_cons]
    omega
  unfold conB
  rw [if_pos hb, if_pos (Or.inr (Or.inl rfl)), hd, hd2, parD_b _ c, sumD_eq, Option.bind_assoc, Option.bind_assoc]
  congr 1
  funext r
  rw [conA_3, hd2]
/-- a number or a fact -/
theorem P_nf (c : ¬ T q = 40) (h : T q = 259 ∨ (278 ≤ T q ∧ T q ≤ 282)) {b : Bool} (hb : k = 0 ∨ k = 3 ∨ b = false) : conB T N F kn k f fs b q = conA T N F kn ((k, f) :: fs) false (N q) := by
  unfold conB
  rw [if_pos hb, parD_l c, if_pos h]
  rfl
theorem P_no (c : ¬ T q = 40) (h : ¬ (T q = 259 ∨ (278 ≤ T q ∧ T q ≤ 282))) {b : Bool} (hb : k = 0 ∨ k = 3 ∨ b = false) : conB T N F kn k f fs b q = none := by
  unfold conB
  rw [if_pos hb, parD_l c, if_neg h]
  rfl
/-! goesOn -/
/-- a sum goes on -/
theorem G_pm (hN : NGr T N n) (hn : n < F) (h : q ≤ n) (hs : k = 0 ∨ k = 3 ∨ ¬ f = 2) (c : tkP (T q) = true) : conA T N F kn ((k, f) :: fs) false q = conB T N F kn k f fs false (N q) := by
  rw [conB_f]
  have go := lpF_go (ok := tkP) hN (by decide) (parD_pg (F := F) hN (8 - fs.length)) hn h c
  by_cases h0 : k = 0
  · subst h0
    rw [conA_0, go]
    congr 1
  · by_cases h3 : k = 3
    · subst h3
      rw [conA_3, go, Option.bind_assoc]
      congr 1
    · have h2 : ¬ f = 2 := by omega
      rw [conA_w h0 h3, if_neg (by
        intro z
        rcases z with z | z
        · exact absurd z (by decide)
        · exact h2 z)]
      by_cases h1 : f = 1
      · rw [if_pos h1, go, Option.bind_assoc]
        congr 1
        funext r
        rw [conA_w h0 h3, if_neg (by
          intro z
          rcases z with z | z
          · exact absurd z (by decide)
          · exact h2 z), if_pos h1]
      · rw [if_neg h1, go, Option.bind_assoc, Option.bind_assoc]
        congr 1
        funext r
        rw [conA_w h0 h3, if_neg (by
          intro z
          rcases z with z | z
          · exact absurd z (by decide)
          · exact h2 z), if_neg h1, Option.bind_assoc]
/-- a comparison -/
theorem G_cm (h0 : ¬ k = 0) (h3 : ¬ k = 3) (c : T q = 60 ∨ T q = 62 ∨ T q = 61) : conA T N F kn ((k, 0) :: fs) false q = conB T N F kn k 1 fs false (N q) := by
  have np : ¬ tkP (T q) = true := by
    rcases c with c | c | c <;> rw [c] <;> decide
  rw [conB_f, conA_w h0 h3, if_neg (by decide), if_neg (by decide), lpF_no np]
  show (cmK T N F (8 - fs.length) q).bind (conE T N F kn k fs) = _
  unfold cmK
  rw [if_pos c, sumD_eq, Option.bind_assoc]
  congr 1
  funext r
  rw [conA_w h0 h3, if_neg (by decide), if_pos rfl]
/-- no comparison -/
theorem G_nc (h0 : ¬ k = 0) (h3 : ¬ k = 3) (np : ¬ tkP (T q) = true) (c : ¬ (T q = 60 ∨ T q = 62 ∨ T q = 61)) : conA T N F kn ((k, 0) :: fs) false q = none := by
  rw [conA_w h0 h3, if_neg (by decide), if_neg (by decide), lpF_no np]
  show (cmK T N F (8 - fs.length) q).bind (conE T N F kn k fs) = _
  unfold cmK
  rw [if_neg c]
  rfl
/-- a whole test or which ends here -/
theorem G_wh (h0 : ¬ k = 0) (h3 : ¬ k = 3) (hf : f = 1 ∨ f = 2) (np : ¬ tkP (T q) = true) : conA T N F kn ((k, f) :: fs) false q = conE T N F kn k fs q := by
  rcases hf with e | e
  · subst e
    rw [conA_w h0 h3, if_neg (by decide), if_pos rfl, lpF_no np]
    rfl
  · subst e
    exact conA_2 h0 h3
/-- and, or -/
theorem G_ao (hN : NGr T N n) (hn : n < F) (h : q ≤ n) (h0 : ¬ k = 0) (h3 : ¬ k = 3) (c : tkE (T q) = true) : conE T N F kn k fs q = conB T N F kn k 0 fs true (N q) := by
  rw [conB_t h0 h3]
  unfold conE
  rw [lpF_go (ok := tkE) hN (by decide) (sngD_pg hN (fun d => atK_pg hN k d) _) hn h c, Option.bind_assoc]
/-- the end of all -/
theorem G_end (h3 : k < 3) (h0 : ¬ k = 0) (c : ¬ tkE (T q) = true) : conE T N F kn k fs q = some q := by
  unfold conE
  rw [lpF_no c]
  show (if k < 3 then some q else _) = some q
  rw [if_pos h3]
theorem G_end0 {two : Bool} (c : ¬ tkP (T q) = true) : conA T N F kn ((0, f) :: fs) two q = some q := by
  rw [conA_0, lpF_no c]
/-- a bracket closes -/
theorem G_cl (h3 : ¬ k < 3) (c : ¬ tkE (T q) = true) : conE T N F kn k fs q = (psK T N 93 q).bind (conA T N F kn fs true) := by
  unfold conE
  rw [lpF_no c]
  show (if k < 3 then some q else _) = _
  rw [if_neg h3]
theorem G_cl3 {two : Bool} (c : ¬ tkP (T q) = true) : conA T N F kn ((3, f) :: fs) two q = (psK T N 41 q).bind (conA T N F kn fs false) := by
  rw [conA_3, lpF_no c]
  rfl
/-! the beginning -/
theorem B_sum : conB T N F kn 0 0 [] true q = sumD T N F 8 q := by
  rw [conB_s (Or.inl rfl), sumD_eq]
  have e : conA T N F kn [(0, 0)] false = lpF T N tkP (parD T N F 8) F := by
    funext r
    exact conA_0
  rw [e]
  rfl
theorem B_eit (hN : NGr T N n) (hn : n < F) (h : q ≤ n) (hk : k = 1 ∨ k = 2) : conB T N F kn k 0 [] true q = eitD T N F (atK T N F kn k) 8 q := by
  rw [conB_t (by omega) (by omega), eitD_flt hN (fun d => atK_pg hN k d) hn 8 h]
  have e : conE T N F kn k [] = lpF T N tkE (sngD T N F (atK T N F kn k) 8) F := by
    funext r
    unfold conE
    have e2 : (fun r2 => if k < 3 then some r2 else (psK T N 93 r2).bind (conA T N F kn [] true)) = (some : Nat → Option Nat) := by
      funext r2
      rw [if_pos (by omega : k < 3)]
    rw [e2, Option.bind_fun_some]
    rfl
  rw [e]
  rfl
end MachR
