/-! the children, as known -/
/-- code, age, least, most, school, house, day, reports, wishes -/
abbrev CH : Type := Int × Int × Int × Int × Int × Int × Int × Int × List (List Nat)
abbrev cCode (c : CH) : Int := c.1
abbrev cAge (c : CH) : Int := c.2.1
abbrev cLst (c : CH) : Int := c.2.2.1
abbrev cMst (c : CH) : Int := c.2.2.2.1
abbrev cSch (c : CH) : Int := c.2.2.2.2.1
abbrev cHou (c : CH) : Int := c.2.2.2.2.2.1
abbrev cDay (c : CH) : Int := c.2.2.2.2.2.2.1
abbrev cRep (c : CH) : Int := c.2.2.2.2.2.2.2.1
abbrev cWsh (c : CH) : List (List Nat) := c.2.2.2.2.2.2.2.2
def wadd (ws : List (List Nat)) (w : List Nat) : List (List Nat) := if ws.length < 4 ∧ ¬ w ∈ ws then ws ++ [w] else ws
def cupd (d : Nat → Int) (wl : List (List Nat)) (c : CH) : CH := (cCode c, d 1, min (cLst c) (d 1), max (cMst c) (d 1), d 2, d 3, d 4, cRep c + 1, wl.foldl wadd (cWsh c))
def cnew (d : Nat → Int) : CH := (d 0, d 1, d 1, d 1, 0, 0, 0, 0, [])
/-- the first from k on, in f steps -/
def fndF (P : Nat → Bool) : Nat → Nat → Nat
  | 0, k => k
  | f + 1, k => if P k = true then k else fndF P f (k + 1)
def kfd (x : Int) (n : Nat) (C : Nat → CH) : Nat := fndF (fun k => decide (¬ x = 0) && decide (cCode (C k) = x)) n 0
def knwn (L : LT) (now : Int) (a : Nat) : Bool := decide ((a : Int) ≤ now) && (decide (L.2.2.2.1 a = 0) || decide (now < L.2.2.2.1 a))
/-- how many, which, whose each report is -/
abbrev KS : Type := Nat × (Nat → CH) × (Nat → Int)
def KS.no (S : KS) (a : Nat) : KS := (S.1, S.2.1, fun x => if x = a then -1 else S.2.2 x)
def KS.upd (S : KS) (a k : Nat) (c : CH) : KS := (S.1, fun i => if i = k then c else S.2.1 i, fun x => if x = a then (k : Int) else S.2.2 x)
def KS.new (S : KS) (a : Nat) (c : CH) : KS := (S.1 + 1, fun i => if i = S.1 then c else S.2.1 i, fun x => if x = a then (S.1 : Int) else S.2.2 x)
def knStep (L : LT) (now : Int) (S : KS) (a : Nat) : KS :=
  if L.2.1 a = 0 ∧ knwn L now a = true then
    (if kfd (L.2.2.1 a 0) S.1 S.2.1 < S.1 then S.upd a (kfd (L.2.2.1 a 0) S.1 S.2.1) (cupd (L.2.2.1 a) (L.2.2.2.2 a) (S.2.1 (kfd (L.2.2.1 a 0) S.1 S.2.1)))
    else if S.1 < 40 then S.new a (cupd (L.2.2.1 a) (L.2.2.2.2 a) (cnew (L.2.2.1 a))) else S.no a)
  else S.no a
def knAll (L : LT) (now : Int) : Nat → KS
  | 0 => (0, fun _ => cnew (fun _ => 0), fun _ => -1)
  | a + 1 => knStep L now (knAll L now a) (a + 1)
theorem fndF_sp {P : Nat → Bool} : ∀ f k, k ≤ fndF P f k ∧ fndF P f k ≤ k + f ∧ (fndF P f k < k + f → P (fndF P f k) = true) ∧ ∀ j, k ≤ j → j < fndF P f k → ¬ P j = true
  | 0, k => ⟨Nat.le_refl _, Nat.le_refl _, fun h => absurd h (Nat.lt_irrefl _), fun j h1 h2 => absurd h2 (by show ¬ j < k; omega)⟩
  | f + 1, k => by
    have ih := fndF_sp (P := P) f (k + 1)
    show k ≤ (if P k = true then k else fndF P f (k + 1)) ∧ (if P k = true then k else fndF P f (k + 1)) ≤ k + (f + 1) ∧ ((if P k = true then k else fndF P f (k + 1)) < k + (f + 1) → P (if P k = true then k else fndF P f (k + 1)) = true) ∧ ∀ j, k ≤ j → j < (if P k = true then k else fndF P f (k + 1)) → ¬ P j = true
    by_cases c : P k = true
    · rw [if_pos c]
      exact ⟨Nat.le_refl _, by omega, fun _ => c, fun j h1 h2 => absurd h2 (by omega)⟩
    · rw [if_neg c]
      obtain ⟨h1, h2, h3, h4⟩ := ih
      refine ⟨by omega, by omega, fun h => h3 (by omega), fun j j1 j2 => ?_⟩
      by_cases e : j = k
      · rw [e]
        exact c
      · exact h4 j (by omega) j2
theorem fndF_eq {P : Nat → Bool} {n i : Nat} (hi : i ≤ n) (h1 : i < n → P i = true) (h2 : ∀ j, j < i → ¬ P j = true) : fndF P n 0 = i := by
  obtain ⟨a1, a2, a3, a4⟩ := fndF_sp (P := P) n 0
  by_cases c : fndF P n 0 < i
  · exact absurd (a3 (by omega)) (h2 _ c)
  · by_cases d : i < fndF P n 0
    · exact absurd (h1 (by omega)) (a4 i (Nat.zero_le _) d)
    · omega
/-- one child, in the class's rows and in the reference's -/
def CX (c : CH) (k : Nat) (s : PS) : Prop := s 43 k = cCode c ∧ s 44 k = cAge c ∧ s 45 k = cLst c ∧ s 46 k = cMst c ∧ s 47 k = cSch c ∧ s 48 k = cHou c ∧ s 49 k = cDay c ∧ s 50 k = cRep c ∧ s 51 k = ((cWsh c).length : Int) ∧ ∀ (j : Nat) (h : j < (cWsh c).length), s 52 (4 * k + j) = ((e5 (cWsh c)[j] : Nat) : Int)
def CU (c : CH) (k : Nat) (s : PS) : Prop := s 26 k = cCode c ∧ s 27 k = cAge c ∧ s 28 k = cLst c ∧ s 29 k = cMst c ∧ s 30 k = cSch c ∧ s 31 k = cHou c ∧ s 32 k = cDay c ∧ s 35 k = cRep c ∧ s 33 k = ((cWsh c).length : Int) ∧ ∀ (j : Nat) (h : j < (cWsh c).length), s 34 (4 * k + j) = ((c8 (cWsh c)[j] : Nat) : Int)
def WsOk (ws : List (List Nat)) : Prop := ws.length ≤ 4 ∧ ∀ w ∈ ws, LW w ∧ ¬ w = []
/-- what is so of each child behind a acts -/
def ChOk (a : Nat) (c : CH) : Prop := (0 ≤ cCode c ∧ cCode c ≤ 9999) ∧ (0 ≤ cAge c ∧ cAge c ≤ 17) ∧ (0 ≤ cLst c ∧ cLst c ≤ cAge c) ∧ (cAge c ≤ cMst c ∧ cMst c ≤ 17) ∧ (0 ≤ cSch c ∧ cSch c ≤ 99) ∧ (0 ≤ cHou c ∧ cHou c ≤ 999) ∧ (1 ≤ cDay c ∧ cDay c ≤ 24) ∧ (0 ≤ cRep c ∧ cRep c ≤ (a : Int)) ∧ WsOk (cWsh c)
def KsOk (a : Nat) (S : KS) : Prop := S.1 ≤ 40 ∧ S.1 ≤ a ∧ (∀ k, k < S.1 → ChOk a (S.2.1 k)) ∧ (∀ k j, k < S.1 → j < S.1 → cCode (S.2.1 k) = cCode (S.2.1 j) → ¬ cCode (S.2.1 k) = 0 → k = j) ∧ ∀ x, -1 ≤ S.2.2 x ∧ S.2.2 x < (S.1 : Int)
theorem wadd_ok {ws : List (List Nat)} {w : List Nat} (h : WsOk ws) (hw : LW w ∧ ¬ w = []) : WsOk (wadd ws w) := by
  unfold wadd
  by_cases c : ws.length < 4 ∧ ¬ w ∈ ws
  · rw [if_pos c]
    refine ⟨by rw [List.length_append]; show ws.length + 1 ≤ 4; omega, fun x hx => ?_⟩
    rcases List.mem_append.mp hx with z | z
    · exact h.2 x z
    · rw [List.mem_singleton.mp z]
      exact hw
  · rw [if_neg c]
    exact h
theorem wfold_ok : ∀ (wl ws : List (List Nat)), WsOk ws → (∀ w ∈ wl, LW w ∧ ¬ w = []) → WsOk (wl.foldl wadd ws)
  | [], ws, h, _ => h
  | w :: wl, ws, h, hl => wfold_ok wl (wadd ws w) (wadd_ok h (hl w List.mem_cons_self)) (fun x hx => hl x (List.mem_cons_of_mem _ hx))
/-- what one report's numbers are -/
def DtOk (d : Nat → Int) (wl : List (List Nat)) : Prop := (0 ≤ d 0 ∧ d 0 ≤ 9999) ∧ (0 ≤ d 1 ∧ d 1 ≤ 17) ∧ (0 ≤ d 2 ∧ d 2 ≤ 99) ∧ (0 ≤ d 3 ∧ d 3 ≤ 999) ∧ (1 ≤ d 4 ∧ d 4 ≤ 24) ∧ wl.length ≤ 3 ∧ ∀ w ∈ wl, LW w ∧ ¬ w = []
theorem ChOk.mono {a b : Nat} {c : CH} (h : ChOk a c) (hb : a ≤ b) : ChOk b c := by
  obtain ⟨h1, h2, h3, h4, h5, h6, h7, h8, h9⟩ := h
  exact ⟨h1, h2, h3, h4, h5, h6, h7, ⟨h8.1, by omega⟩, h9⟩
theorem cupd_ok {a : Nat} {d : Nat → Int} {wl : List (List Nat)} {c : CH} (hd : DtOk d wl) (h1 : 0 ≤ cCode c ∧ cCode c ≤ 9999) (h2 : 0 ≤ cLst c ∧ cLst c ≤ 17) (h3 : 0 ≤ cMst c ∧ cMst c ≤ 17) (h4 : 0 ≤ cRep c ∧ cRep c ≤ (a : Int)) (h5 : WsOk (cWsh c)) : ChOk (a + 1) (cupd d wl c) := by
  obtain ⟨d0, d1, d2, d3, d4, d5, d6⟩ := hd
  refine ⟨h1, d1, ?_, ?_, d2, d3, d4, ?_, wfold_ok wl _ h5 d6⟩
  · show 0 ≤ min (cLst c) (d 1) ∧ min (cLst c) (d 1) ≤ d 1
    omega
  · show d 1 ≤ max (cMst c) (d 1) ∧ max (cMst c) (d 1) ≤ 17
    omega
  · show 0 ≤ cRep c + 1 ∧ cRep c + 1 ≤ ((a + 1 : Nat) : Int)
    omega
theorem LOk.dt {kn : Int} {L : LT} {a : Nat} (h : LOk kn L) (h1 : 1 ≤ a) (h2 : a ≤ L.1) (h0 : L.2.1 a = 0) : DtOk (L.2.2.1 a) (L.2.2.2.2 a) := (h a h1 h2).2.1 h0
theorem knStep_ok {kn : Int} {L : LT} {now : Int} {S : KS} {a : Nat} (hL : LOk kn L) (ha : a + 1 ≤ L.1) (h : KsOk a S) : KsOk (a + 1) (knStep L now S (a + 1)) := by
  obtain ⟨h1, h2, h3, h4, h5⟩ := h
  have no : KsOk (a + 1) (S.no (a + 1)) := by
    refine ⟨h1, by show S.1 ≤ a + 1; omega, fun k hk => (h3 k hk).mono (by omega), h4, fun x => ?_⟩
    show -1 ≤ (if x = a + 1 then -1 else S.2.2 x) ∧ (if x = a + 1 then -1 else S.2.2 x) < (S.1 : Int)
    split
    · omega
    · exact h5 x
  unfold knStep
  by_cases c : L.2.1 (a + 1) = 0 ∧ knwn L now (a + 1) = true
  · rw [if_pos c]
    have dt := hL.dt (by omega) ha c.1
    by_cases c2 : kfd (L.2.2.1 (a + 1) 0) S.1 S.2.1 < S.1
    · rw [if_pos c2]
      have o := h3 _ c2
      have nw : ChOk (a + 1) (cupd (L.2.2.1 (a + 1)) (L.2.2.2.2 (a + 1)) (S.2.1 (kfd (L.2.2.1 (a + 1) 0) S.1 S.2.1))) := by
        obtain ⟨o1, o2, o3, o4, o5, o6, o7, o8, o9⟩ := o
        exact cupd_ok dt o1 ⟨o3.1, by omega⟩ ⟨by omega, o4.2⟩ o8 o9
      generalize hk0 : kfd (L.2.2.1 (a + 1) 0) S.1 S.2.1 = k0 at c2 nw o ⊢
      have cc : ∀ i, cCode (if i = k0 then cupd (L.2.2.1 (a + 1)) (L.2.2.2.2 (a + 1)) (S.2.1 k0) else S.2.1 i) = cCode (S.2.1 i) := by
        intro i
        by_cases e : i = k0
        · rw [if_pos e, e]
          rfl
        · rw [if_neg e]
      refine ⟨h1, by show S.1 ≤ a + 1; omega, fun k hk => ?_, fun k j hk hj => ?_, fun x => ?_⟩
      · show ChOk (a + 1) (if k = k0 then cupd (L.2.2.1 (a + 1)) (L.2.2.2.2 (a + 1)) (S.2.1 k0) else S.2.1 k)
        by_cases e : k = k0
        · rw [if_pos e]
          exact nw
        · rw [if_neg e]
          exact (h3 k hk).mono (by omega)
      · show cCode (if k = k0 then cupd (L.2.2.1 (a + 1)) (L.2.2.2.2 (a + 1)) (S.2.1 k0) else S.2.1 k) = cCode (if j = k0 then cupd (L.2.2.1 (a + 1)) (L.2.2.2.2 (a + 1)) (S.2.1 k0) else S.2.1 j) → ¬ cCode (if k = k0 then cupd (L.2.2.1 (a + 1)) (L.2.2.2.2 (a + 1)) (S.2.1 k0) else S.2.1 k) = 0 → k = j
        rw [cc, cc]
        exact h4 k j hk hj
      · show -1 ≤ (if x = a + 1 then (k0 : Int) else S.2.2 x) ∧ (if x = a + 1 then (k0 : Int) else S.2.2 x) < (S.1 : Int)
        split
        · omega
        · exact h5 x
    · rw [if_neg c2]
      by_cases c3 : S.1 < 40
      · rw [if_pos c3]
        have nw : ChOk (a + 1) (cupd (L.2.2.1 (a + 1)) (L.2.2.2.2 (a + 1)) (cnew (L.2.2.1 (a + 1)))) := by
          have d0 := dt.1
          have d1 := dt.2.1
          exact cupd_ok dt d0 d1 d1 ⟨Int.le_refl _, by show (0 : Int) ≤ (a : Int); omega⟩ ⟨Nat.zero_le _, fun w hw => absurd hw List.not_mem_nil⟩
        have z := fndF_sp (P := fun k => decide (¬ L.2.2.1 (a + 1) 0 = 0) && decide (cCode (S.2.1 k) = L.2.2.1 (a + 1) 0)) S.1 0
        have un : ∀ k, k < S.1 → ¬ L.2.2.1 (a + 1) 0 = 0 → ¬ cCode (S.2.1 k) = L.2.2.1 (a + 1) 0 := by
          intro k hk hx hc
          have y := z.2.2.2 k (Nat.zero_le _) (by
            have : ¬ fndF (fun k => decide (¬ L.2.2.1 (a + 1) 0 = 0) && decide (cCode (S.2.1 k) = L.2.2.1 (a + 1) 0)) S.1 0 < S.1 := c2
            omega)
          apply y
          rw [decide_eq_true hx, decide_eq_true hc]
          rfl
        refine ⟨by show S.1 + 1 ≤ 40; omega, by show S.1 + 1 ≤ a + 1; omega, fun k hk => ?_, fun k j hk hj => ?_, fun x => ?_⟩
        · have hk2 : k < S.1 + 1 := hk
          show ChOk (a + 1) (if k = S.1 then cupd (L.2.2.1 (a + 1)) (L.2.2.2.2 (a + 1)) (cnew (L.2.2.1 (a + 1))) else S.2.1 k)
          by_cases e : k = S.1
          · rw [if_pos e]
            exact nw
          · rw [if_neg e]
            exact (h3 k (by omega)).mono (by omega)
        · have hk2 : k < S.1 + 1 := hk
          have hj2 : j < S.1 + 1 := hj
          show cCode (if k = S.1 then cupd (L.2.2.1 (a + 1)) (L.2.2.2.2 (a + 1)) (cnew (L.2.2.1 (a + 1))) else S.2.1 k) = cCode (if j = S.1 then cupd (L.2.2.1 (a + 1)) (L.2.2.2.2 (a + 1)) (cnew (L.2.2.1 (a + 1))) else S.2.1 j) → ¬ cCode (if k = S.1 then cupd (L.2.2.1 (a + 1)) (L.2.2.2.2 (a + 1)) (cnew (L.2.2.1 (a + 1))) else S.2.1 k) = 0 → k = j
          have en : cCode (cupd (L.2.2.1 (a + 1)) (L.2.2.2.2 (a + 1)) (cnew (L.2.2.1 (a + 1)))) = L.2.2.1 (a + 1) 0 := rfl
          by_cases e : k = S.1
          · rw [if_pos e, en]
            by_cases f : j = S.1
            · intro _ _
              omega
            · rw [if_neg f]
              intro p q
              exact absurd p.symm (un j (by omega) q)
          · rw [if_neg e]
            by_cases f : j = S.1
            · rw [if_pos f, en]
              intro p q
              exact absurd p (un k (by omega) (by rw [← p]; exact q))
            · rw [if_neg f]
              exact h4 k j (by omega) (by omega)
        · show -1 ≤ (if x = a + 1 then (S.1 : Int) else S.2.2 x) ∧ (if x = a + 1 then (S.1 : Int) else S.2.2 x) < ((S.1 + 1 : Nat) : Int)
          split
          · omega
          · have := h5 x
            omega
      · rw [if_neg c3]
        exact no
  · rw [if_neg c]
    exact no
theorem knAll_ok {kn : Int} {L : LT} {now : Int} (hL : LOk kn L) : ∀ a, a ≤ L.1 → KsOk a (knAll L now a)
  | 0, _ => ⟨Nat.zero_le _, Nat.le_refl _, fun k hk => absurd hk (Nat.not_lt_zero _), fun k j hk => absurd hk (Nat.not_lt_zero _), fun x => ⟨Int.le_refl _, by show (-1 : Int) < ((0 : Nat) : Int); decide⟩⟩
  | a + 1, h => knStep_ok hL h (knAll_ok hL a (by omega))
/-- acts that aren't known yet change nothing -/
theorem knAll_past {L : LT} {now : Int} : ∀ (k a : Nat), now ≤ (a : Int) → (knAll L now (a + k)).1 = (knAll L now a).1 ∧ (knAll L now (a + k)).2.1 = (knAll L now a).2.1 ∧ ∀ x, x ≤ a → (knAll L now (a + k)).2.2 x = (knAll L now a).2.2 x
  | 0, a, _ => ⟨rfl, rfl, fun _ _ => rfl⟩
  | k + 1, a, h => by
    obtain ⟨i1, i2, i3⟩ := knAll_past (L := L) k a h
    have e : knAll L now (a + (k + 1)) = KS.no (knAll L now (a + k)) (a + k + 1) := by
      show knStep L now (knAll L now (a + k)) (a + k + 1) = _
      unfold knStep
      rw [if_neg]
      intro c
      have c2 := c.2
      unfold knwn at c2
      rw [Bool.and_eq_true] at c2
      have c3 := of_decide_eq_true c2.1
      omega
    rw [e]
    refine ⟨i1, i2, fun x hx => ?_⟩
    show (if x = a + k + 1 then -1 else (knAll L now (a + k)).2.2 x) = _
    rw [if_neg (by omega)]
    exact i3 x hx
/-- what is known at an act depends on what is known at it alone -/
theorem knAll_cg {L L2 : LT} {now : Int} : ∀ a : Nat, (∀ x, 1 ≤ x → x ≤ a → L2.2.1 x = L.2.1 x ∧ L2.2.2.1 x = L.2.2.1 x ∧ L2.2.2.2.2 x = L.2.2.2.2 x ∧ knwn L2 now x = knwn L now x) → knAll L2 now a = knAll L now a
  | 0, _ => rfl
  | a + 1, h => by
    have ih := knAll_cg (L := L) (L2 := L2) a (fun x h1 h2 => h x h1 (by omega))
    obtain ⟨e1, e2, e3, e4⟩ := h (a + 1) (by omega) (Nat.le_refl _)
    show knStep L2 now (knAll L2 now a) (a + 1) = knStep L now (knAll L now a) (a + 1)
    rw [ih]
    unfold knStep
    rw [e1, e2, e3, e4]
