/-! the reference's reader: small ones -/
def FmM : List (Nat × Nat) → PS → Prop
  | [], _ => True
  | (k, f) :: fs, s => s 16 fs.length = (k : Int) ∧ s 17 fs.length = (f : Int) ∧ s 18 fs.length = 0 ∧ FmM fs s
/-- kinds and marks of the bank that is read into -/
def BkM (K M : List (List Nat)) (s : PS) : Prop := ∃ a : Nat, a ≤ 1 ∧ s 0 13 = (a : Int) ∧ s 2 a = (K.length : Int) ∧ s 3 a = (M.length : Int) ∧ (∀ i : Nat, (h : i < K.length) → s 6 (10 * a + i) = ((c8 K[i] : Nat) : Int)) ∧ (∀ i : Nat, (h : i < M.length) → s 7 (8 * a + i) = ((c8 M[i] : Nat) : Int)) ∧ (∀ l ∈ K, LW l) ∧ (∀ l ∈ M, LW l)
section SmallM
variable {g : Nat → Nat} {N q : Nat} {s t u : PS} {r : Int} {K M : List (List Nat)} {ms : List Nat} {fm : List (Nat × Nat)}
theorem FmM.cg : ∀ {fs : List (Nat × Nat)}, FmM fs s → (∀ i, i < fs.length → t 16 i = s 16 i ∧ t 17 i = s 17 i ∧ t 18 i = s 18 i) → FmM fs t
  | [], _, _ => True.intro
  | (k, f) :: fs, h, e => by
    obtain ⟨h1, h2, h3, h4⟩ := h
    have e0 := e fs.length (by rw [List.length_cons]; omega)
    refine ⟨e0.1.trans h1, e0.2.1.trans h2, e0.2.2.trans h3, h4.cg (fun i hi => e i (by rw [List.length_cons]; omega))⟩
theorem BkM.cg (h : BkM K M s) (e0 : t 0 13 = s 0 13) (e2 : t 2 = s 2) (e3 : t 3 = s 3) (e6 : t 6 = s 6) (e7 : t 7 = s 7) : BkM K M t := by
  obtain ⟨a, h1, h2, h3, h4, h5, h6, h7⟩ := h
  exact ⟨a, h1, e0.trans h2, by rw [e2]; exact h3, by rw [e3]; exact h4, fun i hi => by rw [e6]; exact h5 i hi, fun i hi => by rw [e7]; exact h6 i hi, h7⟩
abbrev okBk (ms : List Nat) (fm : List (Nat × Nat)) : Prop := 2 ∉ ms ∧ 3 ∉ ms ∧ 6 ∉ ms ∧ 7 ∉ ms ∧ (0 ∉ ms ∨ (0 ∈ fm.map Prod.fst ∧ (0, 13) ∉ fm))
theorem BkM.fr (h : BkM K M s) (hf : Fr intsM ms fm s t) (c : okBk ms fm) : BkM K M t := h.cg (hf.f (by decide) c.2.2.2.2) (hf.1 2 c.1) (hf.1 3 c.2.1) (hf.1 6 c.2.2.1) (hf.1 7 c.2.2.2.1)
theorem fkL {w : Int} {a : Nat} : ∀ (n i : Nat) (s : PS) (r : Int) (t : PS), It_X12_findKind n w (i : Int) s r t → a ≤ 1 → s 0 13 = (a : Int) → s 2 a = (K.length : Int) → (∀ j : Nat, j < i → ¬ s 6 (10 * a + j) = w) → t = s ∧ ((r = -1 ∧ ∀ j : Nat, j < K.length → ¬ s 6 (10 * a + j) = w) ∨ ∃ j : Nat, j < K.length ∧ r = (j : Int) ∧ s 6 (10 * a + j) = w)
  | 0, i, s, r, t, h, _, _, _, _ => False.elim h
  | n + 1, i, s, r, t, h, ha, h13, h2, hno => by
    have h := ul_X12_findKind_2 h
    unfold T_X12_findKind_2 at h
    obtain ⟨_, _, h⟩ := h
    have ei : (10 * s 0 13 + (i : Int)).toNat = 10 * a + i := by rw [h13]; omega
    have e2 : (s 0 13).toNat = a := by rw [h13]; omega
    rw [ei, e2, h2] at h
    rcases h with ⟨c1, hr, hs⟩ | ⟨c1, ⟨c2, hr, hs⟩ | ⟨c2, h⟩⟩
    · exact ⟨hs, Or.inl ⟨hr, fun j hj => hno j (by omega)⟩⟩
    · exact ⟨hs, Or.inr ⟨i, by omega, hr, c2⟩⟩
    · refine fkL n (i + 1) s r t h ha h13 h2 (fun j hj => ?_)
      by_cases e : j = i
      · rw [e]
        exact c2
      · exact hno j (by omega)
theorem fmL {w : Int} {a : Nat} : ∀ (n i : Nat) (s : PS) (r : Int) (t : PS), It_X12_findMark n w (i : Int) s r t → a ≤ 1 → s 0 13 = (a : Int) → s 3 a = (M.length : Int) → (∀ j : Nat, j < i → ¬ s 7 (8 * a + j) = w) → t = s ∧ ((r = -1 ∧ ∀ j : Nat, j < M.length → ¬ s 7 (8 * a + j) = w) ∨ ∃ j : Nat, j < M.length ∧ r = (j : Int) ∧ s 7 (8 * a + j) = w)
  | 0, i, s, r, t, h, _, _, _, _ => False.elim h
  | n + 1, i, s, r, t, h, ha, h13, h2, hno => by
    have h := ul_X12_findMark_2 h
    unfold T_X12_findMark_2 at h
    obtain ⟨_, _, h⟩ := h
    have ei : (8 * s 0 13 + (i : Int)).toNat = 8 * a + i := by rw [h13]; omega
    have e2 : (s 0 13).toNat = a := by rw [h13]; omega
    rw [ei, e2, h2] at h
    rcases h with ⟨c1, hr, hs⟩ | ⟨c1, ⟨c2, hr, hs⟩ | ⟨c2, h⟩⟩
    · exact ⟨hs, Or.inl ⟨hr, fun j hj => hno j (by omega)⟩⟩
    · exact ⟨hs, Or.inr ⟨i, by omega, hr, c2⟩⟩
    · refine fmL n (i + 1) s r t h ha h13 h2 (fun j hj => ?_)
      by_cases e : j = i
      · rw [e]
        exact c2
      · exact hno j (by omega)
theorem fkM {l : List Nat} (hl : LW l) (h : M_X12_findKind s ((c8 l : Nat) : Int) r t) (hB : BkM K M s) : t = s ∧ ((r = -1 ∧ ¬ l ∈ K) ∨ (0 ≤ r ∧ l ∈ K)) := by
  obtain ⟨n, h⟩ := h
  unfold T_X12_findKind_e at h
  obtain ⟨_, h⟩ := h
  obtain ⟨a, h1, h2, h3, h4, h5, h6, h7, h8⟩ := hB
  obtain ⟨e, k⟩ := fkL (K := K) n 0 s r t h h1 h2 h3 (fun j hj => absurd hj (by omega))
  refine ⟨e, ?_⟩
  rcases k with ⟨k1, k2⟩ | ⟨j, k1, k2, k3⟩
  · refine Or.inl ⟨k1, fun z => ?_⟩
    obtain ⟨j, hj, e2⟩ := List.getElem_of_mem z
    refine k2 j hj ?_
    rw [h5 j hj, e2]
  · refine Or.inr ⟨by omega, ?_⟩
    rw [h5 j k1] at k3
    have e2 := c8_inj (h7 _ (List.getElem_mem k1)) hl (Int.ofNat_inj.mp k3)
    exact e2 ▸ List.getElem_mem k1
theorem fmM {l : List Nat} (hl : LW l) (h : M_X12_findMark s ((c8 l : Nat) : Int) r t) (hB : BkM K M s) : t = s ∧ ((r = -1 ∧ ¬ l ∈ M) ∨ ∃ j : Nat, r = (j : Int) ∧ j < M.length ∧ M[j]? = some l) := by
  obtain ⟨n, h⟩ := h
  unfold T_X12_findMark_e at h
  obtain ⟨_, h⟩ := h
  obtain ⟨a, h1, h2, h3, h4, h5, h6, h7, h8⟩ := hB
  obtain ⟨e, k⟩ := fmL (M := M) n 0 s r t h h1 h2 h4 (fun j hj => absurd hj (by omega))
  refine ⟨e, ?_⟩
  rcases k with ⟨k1, k2⟩ | ⟨j, k1, k2, k3⟩
  · refine Or.inl ⟨k1, fun z => ?_⟩
    obtain ⟨j, hj, e2⟩ := List.getElem_of_mem z
    refine k2 j hj ?_
    rw [h6 j hj, e2]
  · refine Or.inr ⟨j, k2, k1, ?_⟩
    rw [h6 j k1] at k3
    have e2 := c8_inj (h8 _ (List.getElem_mem k1)) hl (Int.ofNat_inj.mp k3)
    rw [List.getElem?_eq_getElem k1, e2]
theorem isTestM {k : Int} (h : M_X12_isTest s k r t) : t = s ∧ ((r = 1 ∧ (k = 1 ∨ k = 4)) ∨ (r = 0 ∧ ¬ (k = 1 ∨ k = 4))) := by
  unfold M_X12_isTest T_X12_isTest_e at h
  obtain ⟨_, _, ⟨c, hr, hs⟩ | ⟨c, ⟨c2, hr, hs⟩ | ⟨c2, hr, hs⟩⟩⟩ := h
  · exact ⟨hs, Or.inl ⟨hr, Or.inl c⟩⟩
  · exact ⟨hs, Or.inl ⟨hr, Or.inr c2⟩⟩
  · exact ⟨hs, Or.inr ⟨hr, by omega⟩⟩
theorem isWhichM {k : Int} (h : M_X12_isWhich s k r t) : t = s ∧ ((r = 1 ∧ (k = 2 ∨ k = 5)) ∨ (r = 0 ∧ ¬ (k = 2 ∨ k = 5))) := by
  unfold M_X12_isWhich T_X12_isWhich_e at h
  obtain ⟨_, _, ⟨c, hr, hs⟩ | ⟨c, ⟨c2, hr, hs⟩ | ⟨c2, hr, hs⟩⟩⟩ := h
  · exact ⟨hs, Or.inl ⟨hr, Or.inl c⟩⟩
  · exact ⟨hs, Or.inl ⟨hr, Or.inr c2⟩⟩
  · exact ⟨hs, Or.inr ⟨hr, by omega⟩⟩
/-- what waits changes nothing that is looked at here -/
theorem waitsM {o : Int} (h : M_X12_waits s o r t) : (∀ k, ¬ k = 0 → ¬ k = 20 → t k = s k) ∧ ∀ j, ¬ j = 35 → t 0 j = s 0 j := by
  unfold M_X12_waits T_X12_waits_e at h
  obtain ⟨_, _, s1, e1, s2, e2, _, es⟩ := h
  rw [es, e2, e1]
  exact ⟨fun k h0 h20 => by rw [us_k h0, us_k h20], fun j hj => by rw [us_j hj, us_k (by decide)]⟩
theorem rankM {o : Int} (h : M_X12_rank s o r t) : t = s := by
  unfold M_X12_rank T_X12_rank_e at h
  obtain ⟨_, _, ⟨_, _, e⟩ | ⟨_, ⟨_, _, e⟩ | ⟨_, ⟨_, _, e⟩ | ⟨_, ⟨_, _, e⟩ | ⟨_, ⟨_, _, e⟩ | ⟨_, ⟨_, _, e⟩ | ⟨_, _, e⟩⟩⟩⟩⟩⟩⟩ := h <;> exact e
theorem addM {a b : Int} (h : M_X12_add s a b r t) : ∀ k, ¬ k = 13 → ¬ k = 14 → t k = s k := by
  unfold M_X12_add T_X12_add_e at h
  obtain ⟨_, _, s1, e1, s2, e2, s3, e3, _, es⟩ := h
  intro k h13 h14
  rw [es, e3, us_k h14, e2, us_k h13, e1, us_k h13]
theorem joinsL {x : Int} : ∀ (n : Nat) (s : PS) (r : Int) (t : PS), It_X12_joins n x s r t → (∀ k, ¬ k = 0 → ¬ k = 13 → ¬ k = 14 → t k = s k) ∧ ∀ j, ¬ j = 35 → t 0 j = s 0 j
  | 0, s, r, t, h => False.elim h
  | n + 1, s, r, t, h => by
    have h := ul_X12_joins_0 h
    unfold T_X12_joins_0 at h
    obtain ⟨_, _, ⟨_, _, e⟩ | ⟨_, r1, s1, hm, _, _, _, ⟨_, _, e⟩ | ⟨_, s2, e2, s3, hm3, _, _, h⟩⟩⟩ := h
    · rw [e]
      exact ⟨fun _ _ _ _ => rfl, fun _ _ => rfl⟩
    · rw [e, rankM hm]
      exact ⟨fun _ _ _ _ => rfl, fun _ _ => rfl⟩
    · have ih := joinsL n s3 r t h
      have a3 := addM hm3
      have r1 := rankM hm
      refine ⟨fun k h0 h13 h14 => ?_, fun j hj => ?_⟩
      · rw [ih.1 k h0 h13 h14, a3 k h13 h14, e2, us_k h0, r1]
      · rw [ih.2 j hj, a3 0 (by decide) (by decide), e2, us_j hj, r1]
theorem joinsM {x : Int} (h : M_X12_joins s x r t) : (∀ k, ¬ k = 0 → ¬ k = 13 → ¬ k = 14 → t k = s k) ∧ ∀ j, ¬ j = 35 → t 0 j = s 0 j := by
  obtain ⟨n, h⟩ := h
  unfold T_X12_joins_e at h
  obtain ⟨_, _, ⟨_, _, e⟩ | ⟨_, r1, s1, hm, _, _, _, ⟨_, _, e⟩ | ⟨_, s2, e2, s3, hm3, _, _, h⟩⟩⟩ := h
  · rw [e]
    exact ⟨fun _ _ _ _ => rfl, fun _ _ => rfl⟩
  · rw [e, rankM hm]
    exact ⟨fun _ _ _ _ => rfl, fun _ _ => rfl⟩
  · have ih := joinsL n s3 r t h
    have a3 := addM hm3
    have r1 := rankM hm
    refine ⟨fun k h0 h13 h14 => ?_, fun j hj => ?_⟩
    · rw [ih.1 k h0 h13 h14, a3 k h13 h14, e2, us_k h0, r1]
    · rw [ih.2 j hj, a3 0 (by decide) (by decide), e2, us_j hj, r1]
theorem pushM {k : Int} (h : M_X12_pushes s k r t) : t = us (us (us (us (us s 16 (s 0 32).toNat k) 17 (s 0 32).toNat 0) 18 (s 0 32).toNat 1) 19 (s 0 32).toNat (s 0 35)) 0 32 (s 0 32 + 1) := by
  unfold M_X12_pushes T_X12_pushes_e at h
  obtain ⟨_, _, s1, e1, s2, e2, s3, e3, s4, e4, s5, e5', _, es⟩ := h
  rw [es, e5', e4, e3, e2, e1]
/-- bad signs -/
def Bd (T : Nat → Nat) (S : Option Nat) : Prop := ∀ r, S = some r → T r = 257
theorem Bd.non {T : Nat → Nat} {S : Option Nat} (h : S = none) : Bd T S := fun r e => by rw [h] at e; cases e
theorem Bd.bind {T : Nat → Nat} {S : Option Nat} {f : Nat → Option Nat} (h : Bd T S) (hf : ∀ r, T r = 257 → Bd T (f r)) : Bd T (S.bind f) := by
  cases e : S with
  | none => exact Bd.non rfl
  | some r => exact hf r (h r e)
theorem bd_ps {T Nx : Nat → Nat} {c q : Nat} (hc : ¬ c = 257) (h : T q = 257) : Bd T (psK T Nx c q) := by
  apply Bd.non
  unfold psK
  rw [if_neg (by omega)]
end SmallM
section BadM
variable {T Nx : Nat → Nat} {F d q k f : Nat} {kn : Nat → Bool} {fs : List (Nat × Nat)}
theorem bad_par (h : T q = 257) : parD T Nx F d q = none := by rw [parD_l (by omega), if_neg (by omega)]
theorem bad_sum (h : T q = 257) : sumD T Nx F d q = none := by
  rw [sumD_eq]
  show (parD T Nx F d q).bind _ = none
  rw [bad_par h]
  rfl
theorem bad_at (h : T q = 257) : atK T Nx F kn k d q = none := by
  unfold atK
  split
  · unfold atT
    rw [if_neg (by omega), if_neg (by omega), bad_sum h]
    rfl
  · unfold atW
    rw [if_neg (by omega), if_neg (by omega)]
theorem bad_sng (h : T q = 257) : sngD T Nx F (atK T Nx F kn k) d q = none := by rw [sngD_no _ _ (by omega) (by omega), bad_at h]
theorem bad_conB {b : Bool} (h : T q = 257) : conB T Nx F kn k f fs b q = none := by
  unfold conB
  split
  · rw [bad_par h]
    rfl
  · rw [bad_sng h]
    rfl
theorem bad_tkP (h : T q = 257) : ¬ tkP (T q) = true := by rw [h]; decide
theorem bad_tkE (h : T q = 257) : ¬ tkE (T q) = true := by rw [h]; decide
theorem bad_ps {c : Nat} (hc : ¬ c = 257) (h : T q = 257) : psK T Nx c q = none := by
  unfold psK
  rw [if_neg (by omega)]
theorem bad_some (h : T q = 257) : Bd T (some q) := fun r e => by
  rw [← Option.some.inj e]
  exact h
theorem bad_conE (h : T q = 257) : Bd T (conE T Nx F kn k fs q) := by
  by_cases c : k < 3
  · have e2 : conE T Nx F kn k fs q = some q := by
      unfold conE
      rw [lpF_no (bad_tkE h)]
      show (if k < 3 then some q else (psK T Nx 93 q).bind (conA T Nx F kn fs true)) = some q
      rw [if_pos c]
    rw [e2]
    exact bad_some h
  · rw [G_cl c (bad_tkE h), bad_ps (by decide) h]
    exact Bd.non rfl
theorem bad_conA {two : Bool} (h : T q = 257) : Bd T (conA T Nx F kn fs two q) := by
  cases fs with
  | nil =>
    unfold conA
    exact bad_some h
  | cons x fs =>
    obtain ⟨k, f⟩ := x
    by_cases h0 : k = 0
    · subst h0
      rw [conA_0, lpF_no (bad_tkP h)]
      exact bad_some h
    · by_cases h3 : k = 3
      · subst h3
        rw [G_cl3 (bad_tkP h), bad_ps (by decide) h]
        exact Bd.non rfl
      · rw [conA_w h0 h3]
        split
        · exact bad_conE h
        · split
          · rw [lpF_no (bad_tkP h)]
            exact bad_conE h
          · rw [lpF_no (bad_tkP h)]
            have e : cmK T Nx F (8 - fs.length) q = none := by
              unfold cmK
              rw [if_neg (by omega)]
            show Bd T ((cmK T Nx F (8 - fs.length) q).bind _)
            rw [e]
            exact Bd.non rfl
end BadM
