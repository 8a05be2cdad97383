/-! the reference's reader: behind a part -/
section GoesM
variable {g : Nat → Nat} {N q k f : Nat} {s t u : PS} {r : Int} {K M : List (List Nat)} {fs : List (Nat × Nat)}
/-- what going on comes to -/
def GoR (g : Nat → Nat) (N : Nat) (K M : List (List Nat)) (S : Option Nat) (o r : Int) (t : PS) : Prop := (¬ t 0 8 = 0 ∧ Bd (tkq g N) S) ∨ (r = 1 ∧ t 0 36 = 0 ∧ ∃ k f fs b q, S = SpM g N K M k f fs b q ∧ HdM g N K M k f fs b q t) ∨ (r = 1 ∧ t 0 36 = o ∧ ∃ k f fs q, S = StM g N K M k f fs q ∧ TlM g N K M k f fs q t) ∨ (r = 0 ∧ ∃ q, S = some q ∧ MX g N q t ∧ BkM K M t)
/-- only codes, what waits, and the top frame's words are changed -/
def Nr (n : Nat) (s t : PS) : Prop := (∀ c, ¬ c = 0 → ¬ c = 13 → ¬ c = 14 → ¬ c = 20 → ¬ c = 17 → ¬ c = 18 → t c = s c) ∧ (∀ j, ¬ j = 35 → t 0 j = s 0 j) ∧ (∀ i, i < n → t 17 i = s 17 i ∧ t 18 i = s 18 i)
theorem Nr.rf {n : Nat} : Nr n s s := ⟨fun _ _ _ _ _ _ _ => rfl, fun _ _ => rfl, fun _ _ => ⟨rfl, rfl⟩⟩
theorem Nr.join {n : Nat} {x : Int} (h : Nr n s t) (hj : M_X12_joins t x r u) : Nr n s u ∧ u 17 = t 17 ∧ u 18 = t 18 := by
  obtain ⟨j1, j2⟩ := joinsM hj
  exact ⟨⟨fun c c0 c13 c14 c20 c17 c18 => (j1 c c0 c13 c14).trans (h.1 c c0 c13 c14 c20 c17 c18), fun j hj => (j2 j hj).trans (h.2.1 j hj), fun i hi => by rw [j1 17 (by decide) (by decide) (by decide), j1 18 (by decide) (by decide) (by decide)]; exact h.2.2 i hi⟩, j1 17 (by decide) (by decide) (by decide), j1 18 (by decide) (by decide) (by decide)⟩
theorem Nr.wait {n : Nat} {x : Int} (h : Nr n s t) (hj : M_X12_waits t x r u) : Nr n s u ∧ u 17 = t 17 ∧ u 18 = t 18 := by
  obtain ⟨j1, j2⟩ := waitsM hj
  exact ⟨⟨fun c c0 c13 c14 c20 c17 c18 => (j1 c c0 c20).trans (h.1 c c0 c13 c14 c20 c17 c18), fun j hj => (j2 j hj).trans (h.2.1 j hj), fun i hi => by rw [j1 17 (by decide) (by decide), j1 18 (by decide) (by decide)]; exact h.2.2 i hi⟩, j1 17 (by decide) (by decide), j1 18 (by decide) (by decide)⟩
theorem Nr.ph {n : Nat} {v : Int} (h : Nr n s t) : Nr n s (us t 17 n v) := ⟨fun c c0 c13 c14 c20 c17 c18 => by rw [us_k c17]; exact h.1 c c0 c13 c14 c20 c17 c18, fun j hj => by rw [us_k (by decide)]; exact h.2.1 j hj, fun i hi => ⟨by rw [us_j (by omega)]; exact (h.2.2 i hi).1, by rw [us_k (by decide)]; exact (h.2.2 i hi).2⟩⟩
theorem Nr.bg {n : Nat} {v : Int} (h : Nr n s t) : Nr n s (us t 18 n v) := ⟨fun c c0 c13 c14 c20 c17 c18 => by rw [us_k c18]; exact h.1 c c0 c13 c14 c20 c17 c18, fun j hj => by rw [us_k (by decide)]; exact h.2.1 j hj, fun i hi => ⟨by rw [us_k (by decide)]; exact (h.2.2 i hi).1, by rw [us_j (by omega)]; exact (h.2.2 i hi).2⟩⟩
theorem Nr.mx {n : Nat} (h : Nr n s t) (hM : MX g N q s) : MX g N q t := hM.cg (h.1 1 (by decide) (by decide) (by decide) (by decide) (by decide) (by decide)) (fun j _ _ => h.2.1 j (by omega))
theorem Nr.bk {n : Nat} (h : Nr n s t) (hB : BkM K M s) : BkM K M t := hB.cg (h.2.1 13 (by decide)) (h.1 2 (by decide) (by decide) (by decide) (by decide) (by decide) (by decide)) (h.1 3 (by decide) (by decide) (by decide) (by decide) (by decide) (by decide)) (h.1 6 (by decide) (by decide) (by decide) (by decide) (by decide) (by decide)) (h.1 7 (by decide) (by decide) (by decide) (by decide) (by decide) (by decide))
theorem Nr.fm (h : Nr fs.length s t) (hF : FmM fs s) : FmM fs t := hF.cg (fun i hi => ⟨by rw [h.1 16 (by decide) (by decide) (by decide) (by decide) (by decide) (by decide)], (h.2.2 i hi).1, (h.2.2 i hi).2⟩)
/-- the next part's beginning -/
theorem goTail (hN : N ≤ 1000) (hg : ∀ i, g i ≤ 255) {S : Option Nat} {o : Int} {s1 s2 : PS} {f2 : Nat} {b : Bool} (hT : TlM g N K M k f fs q s) (h0 : ¬ tkq g N q = 256) (h1 : Nr fs.length s s1) (e17 : s1 17 fs.length = (f2 : Int)) (e18 : s1 18 fs.length = bI b) (hS : S = SpM g N K M k f2 fs b (nxq g N q)) (hb : b = true → f2 = 0) (hw : k = 2 ∨ k = 5 → b = true) (hn : b = false → k = 0 ∨ k = 3 ∨ f2 ≤ 1) (hf2 : f2 ≤ 2) (hl : M_X12_looks s1 0 s2) (hf : Fr intsM [0] [(0, 3), (0, 4), (0, 5), (0, 6), (0, 7), (0, 8), (0, 9)] s1 s2) (hr : r = 1) (ht : t = us s2 0 36 0) : GoR g N K M S o r t := by
  obtain ⟨t1, t2, t3, t4, t5, t6, t7, t8, t9⟩ := hT
  rcases lookX hN hg ((h1.mx t1).mw h0) hl hf with ⟨j1, j2⟩ | j1
  · refine Or.inl ⟨by rw [ht, us_j (by decide)]; exact j1, ?_⟩
    rw [hS]
    exact Bd.non (bad_conB j2)
  · refine Or.inr (Or.inl ⟨hr, by rw [ht, us_at], k, f2, fs, b, _, hS, ?_⟩)
    have B1 := (h1.bk t2).fr hf (by decide)
    have F1 := (h1.fm t6.2.2.2).fr hf (by decide)
    refine ⟨?_, ?_, ?_, ?_, t5, ?_, ?_, ?_, ?_, t7, hb, hw, hn, hf2⟩
    · rw [ht]
      exact j1.cg (us_k (by decide)) (fun j _ _ => us_j (by omega) _)
    · rw [ht]
      exact B1.cg (us_j (by decide) _) (us_k (by decide)) (us_k (by decide)) (us_k (by decide)) (us_k (by decide))
    · rw [ht, us_j (by decide), hf.f (by decide) (by decide), h1.2.1 32 (by decide)]
      exact t3
    · rw [ht, us_j (by decide), hf.f (by decide) (by decide), h1.2.1 33 (by decide)]
      exact t4
    · rw [ht, us_k (by decide), hf.1 16 (by decide), h1.1 16 (by decide) (by decide) (by decide) (by decide) (by decide) (by decide)]
      exact t6.1
    · rw [ht, us_k (by decide), hf.1 17 (by decide)]
      exact e17
    · rw [ht, us_k (by decide), hf.1 18 (by decide)]
      exact e18
    · rw [ht]
      exact F1.cg (fun i _ => ⟨by rw [us_k (by decide)], by rw [us_k (by decide)], by rw [us_k (by decide)]⟩)
/-- a bracket closes -/
theorem goClose (hN : N ≤ 1000) (hg : ∀ i, g i ≤ 255) {S : Option Nat} {s1 s2 s3 : PS} {k2 f2 f3 : Nat} {fs2 : List (Nat × Nat)} (hT : TlM g N K M k f ((k2, f2) :: fs2) q s) (h0 : ¬ tkq g N q = 256) (h1 : Nr (fs2.length + 1) s s1) (e16 : ∀ c, ¬ c = 0 → ¬ c = 17 → s3 c = s1 c) (e0 : ∀ j, ¬ j = 32 → ¬ j = 33 → s3 0 j = s1 0 j) (e32 : s3 0 32 = (fs2.length : Int) + 1) (e33 : s3 0 33 = (fs2.length : Int)) (e17 : s3 17 fs2.length = (f3 : Int)) (e17b : ∀ i, i < fs2.length → s3 17 i = s1 17 i) (hf3 : f3 ≤ 2) (hw : k2 = 2 ∨ k2 = 5 → f3 = 2) (hS : S = StM g N K M k2 f3 fs2 (nxq g N q)) (hl : M_X12_looks s3 0 s2) (hf : Fr intsM [0] [(0, 3), (0, 4), (0, 5), (0, 6), (0, 7), (0, 8), (0, 9)] s3 s2) (hr : r = 1) (ht : t = s2) : GoR g N K M S (s 0 36) r t := by
  obtain ⟨t1, t2, t3, t4, t5, t6, t7, t8, t9⟩ := hT
  have m1 := h1.mx t1
  have W3 : MW g N q s3 := (m1.mw h0).cg (e16 1 (by decide) (by decide)) (e0 2 (by decide) (by decide)) (e0 5 (by decide) (by decide)) (e0 8 (by decide) (by decide))
  rcases lookX hN hg W3 hl hf with ⟨j1, j2⟩ | j1
  · refine Or.inl ⟨by rw [ht]; exact j1, ?_⟩
    rw [hS]
    exact bad_conA j2
  · refine Or.inr (Or.inr (Or.inl ⟨hr, ?_, k2, f3, fs2, _, hS, ?_⟩))
    · rw [ht, hf.f (by decide) (by decide), e0 36 (by decide) (by decide), h1.2.1 36 (by decide)]
    · have B3 : BkM K M s3 := (h1.bk t2).cg (e0 13 (by decide) (by decide)) (e16 2 (by decide) (by decide)) (e16 3 (by decide) (by decide)) (e16 6 (by decide) (by decide)) (e16 7 (by decide) (by decide))
      have l5 : fs2.length + 1 ≤ 8 := t5
      obtain ⟨_, _, _, g1, g2, g3, g4⟩ := t6
      have F3 : FmM ((k2, f3) :: fs2) s3 := by
        refine ⟨?_, e17, ?_, g4.cg (fun i hi => ⟨?_, ?_, ?_⟩)⟩
        · rw [e16 16 (by decide) (by decide), h1.1 16 (by decide) (by decide) (by decide) (by decide) (by decide) (by decide)]
          exact g1
        · rw [e16 18 (by decide) (by decide), (h1.2.2 _ (by omega)).2]
          exact g3
        · rw [e16 16 (by decide) (by decide), h1.1 16 (by decide) (by decide) (by decide) (by decide) (by decide) (by decide)]
        · rw [e17b i hi, (h1.2.2 i (by omega)).1]
        · rw [e16 18 (by decide) (by decide), (h1.2.2 i (by omega)).2]
      rw [ht]
      exact ⟨j1, B3.fr hf (by decide), (hf.f (by decide) (by decide)).trans e32, (hf.f (by decide) (by decide)).trans e33, by omega, F3.fr hf (by decide), t7.2.2, hf3, hw⟩
theorem goFlt {S : Option Nat} {o : Int} (h : ¬ t 0 8 = 0) (hS : S = none) : GoR g N K M S o r t := Or.inl ⟨h, Bd.non hS⟩
/-- a sum goes on -/
theorem go77 (hN : N ≤ 1000) (hg : ∀ i, g i ≤ 255) {n : Nat} {x3 : Int} (h : It_X12_goesOn n 77 (fs.length : Int) (k : Int) x3 s r t) (hT : TlM g N K M k f fs q s) (hs : k = 0 ∨ k = 3 ∨ ((k = 1 ∨ k = 4) ∧ f ≤ 1)) (c : tkP (tkq g N q) = true) : GoR g N K M (StM g N K M k f fs q) (s 0 36) r t := by
  have hp := tkP_iff.mp c
  have hn2 : k = 0 ∨ k = 3 ∨ ¬ f = 2 := by omega
  have h256 : ¬ tkq g N q = 256 := by omega
  have hw1 : k = 2 ∨ k = 5 → false = true := fun z => by omega
  have hn1 : false = false → k = 0 ∨ k = 3 ∨ f ≤ 1 := fun _ => by omega
  have sp : StM g N K M k f fs q = SpM g N K M k f fs false (nxq g N q) := G_pm (ngr hg) (by omega) hT.1.2.1 hn2 c
  cases n with
  | zero => exact False.elim h
  | succ n =>
    have h := ul_X12_goesOn_77 h
    unfold T_X12_goesOn_77 at h
    obtain ⟨_, _, _, _, s1, hj, _, _, r2, s2, hm2, _, _, _, h⟩ := h
    obtain ⟨n1, n17, n18⟩ := (Nr.rf (n := fs.length) (s := s)).join hj
    have m1 := n1.mx hT.1
    obtain ⟨e2, _⟩ := isSignM (c := 43) (by decide) hm2 m1
    rw [e2] at h
    have fin : ∀ (x : Int) (s3 s4 : PS), M_X12_waits s1 x 0 s3 → M_X12_looks s3 0 s4 → Fr intsM [0] [(0, 3), (0, 4), (0, 5), (0, 6), (0, 7), (0, 8), (0, 9)] s3 s4 → r = 1 → t = us s4 0 36 0 → GoR g N K M (StM g N K M k f fs q) (s 0 36) r t := by
      intro x s3 s4 hw hl hf hr ht
      obtain ⟨n3, w17, w18⟩ := n1.wait hw
      refine goTail hN hg hT h256 n3 ?_ ?_ sp (fun z => absurd z (by decide)) hw1 hn1 hT.2.2.2.2.2.2.2.1 hl hf hr ht
      · rw [w17, n17]
        exact hT.2.2.2.2.2.1.2.1
      · rw [w18, n18]
        exact hT.2.2.2.2.2.1.2.2.1
    rcases h with ⟨c3, r3, s3, hm3, _, _, _, h⟩ | ⟨c3, s3, hw, _, _, s4, hl, hf, _, s5, e5', hr, ht⟩
    · obtain ⟨e3, _⟩ := isSignM (c := 45) (by decide) hm3 m1
      rw [e3] at h
      rcases h with ⟨c4, s4, hw, _, _, s5, hl, hf, _, s6, e6, hr, ht⟩ | ⟨c4, s4, hw, _, _, s5, hl, hf, _, s6, e6, hr, ht⟩
      · exact fin _ _ _ hw hl hf hr (ht.trans e6)
      · exact fin _ _ _ hw hl hf hr (ht.trans e6)
    · exact fin _ _ _ hw hl hf hr (ht.trans e5')
theorem go170 (hN : N ≤ 1000) (hg : ∀ i, g i ≤ 255) {n : Nat} {x3 : Int} (h : It_X12_goesOn n 170 (fs.length : Int) (k : Int) x3 s r t) (hT : TlM g N K M k 0 fs q s) (hk : k = 1 ∨ k = 4) (c : tkq g N q = 60 ∨ tkq g N q = 62 ∨ tkq g N q = 61) : GoR g N K M (StM g N K M k 0 fs q) (s 0 36) r t := by
  have h256 : ¬ tkq g N q = 256 := by omega
  have hw1 : k = 2 ∨ k = 5 → false = true := fun z => by omega
  have sp : StM g N K M k 0 fs q = SpM g N K M k 1 fs false (nxq g N q) := G_cm (by omega) (by omega) c
  cases n with
  | zero => exact False.elim h
  | succ n =>
    have h := ul_X12_goesOn_170 h
    unfold T_X12_goesOn_170 at h
    obtain ⟨_, _, _, _, s1, hj, _, _, r2, s2, hm2, _, _, _, h⟩ := h
    obtain ⟨n1, n17, n18⟩ := (Nr.rf (n := fs.length) (s := s)).join hj
    have m1 := n1.mx hT.1
    obtain ⟨e2, _⟩ := isSignM (c := 60) (by decide) hm2 m1
    rw [e2] at h
    have fin : ∀ (x : Int) (s3 s4 s5 : PS), M_X12_waits s1 x 0 s3 → s4 = us s3 17 (fs.length : Int).toNat 1 → M_X12_looks s4 0 s5 → Fr intsM [0] [(0, 3), (0, 4), (0, 5), (0, 6), (0, 7), (0, 8), (0, 9)] s4 s5 → r = 1 → t = us s5 0 36 0 → GoR g N K M (StM g N K M k 0 fs q) (s 0 36) r t := by
      intro x s3 s4 s5 hw e4 hl hf hr ht
      obtain ⟨n3, w17, w18⟩ := n1.wait hw
      rw [Int.toNat_natCast] at e4
      have n4 : Nr fs.length s s4 := by
        rw [e4]
        exact n3.ph
      refine goTail hN hg hT h256 n4 (f2 := 1) ?_ ?_ sp (fun z => absurd z (by decide)) hw1 (fun _ => Or.inr (Or.inr (by decide))) (by decide) hl hf hr ht
      · rw [e4, us_at]
        rfl
      · rw [e4, us_k (by decide), w18, n18]
        exact hT.2.2.2.2.2.1.2.2.1
    rcases h with ⟨c3, r3, s3, hm3, _, _, _, h⟩ | ⟨c3, s3, hw, _, _, s4, e4, s5, hl, hf, _, s6, e6, hr, ht⟩
    · obtain ⟨e3, _⟩ := isSignM (c := 62) (by decide) hm3 m1
      rw [e3] at h
      rcases h with ⟨c4, s4, hw, _, _, s5, e5', s6, hl, hf, _, s7, e7, hr, ht⟩ | ⟨c4, s4, hw, _, _, s5, e5', s6, hl, hf, _, s7, e7, hr, ht⟩
      · exact fin _ _ _ _ hw e5' hl hf hr (ht.trans e7)
      · exact fin _ _ _ _ hw e5' hl hf hr (ht.trans e7)
    · exact fin _ _ _ _ hw e4 hl hf hr (ht.trans e6)
/-- what is known when nothing goes on -/
def Npm (g : Nat → Nat) (N k f q : Nat) : Prop := k = 0 ∨ k = 3 ∨ ((k = 1 ∨ k = 4) ∧ f ≤ 1) → ¬ tkP (tkq g N q) = true
theorem whole_c (hT : TlM g N K M k f fs q s) (hk : k = 1 ∨ k = 4 ∨ k = 2 ∨ k = 5) (h0 : ¬ f = 0) (np : Npm g N k f q) : StM g N K M k f fs q = conE (tkq g N) (nxq g N) 1001 (knK (ltq g N) K M) k fs q := by
  have f2 := hT.2.2.2.2.2.2.2.1
  have fw := hT.2.2.2.2.2.2.2.2
  by_cases c : f = 2
  · subst c
    exact conA_2 (by omega) (by omega)
  · exact G_wh (by omega) (by omega) (by omega) (np (by omega))
theorem go352 (hN : N ≤ 1000) (hg : ∀ i, g i ≤ 255) {n : Nat} {x3 : Int} (h : It_X12_goesOn n 352 (fs.length : Int) (k : Int) x3 s r t) (hT : TlM g N K M k f fs q s) (np : Npm g N k f q) (nc : (k = 1 ∨ k = 4) ∧ f = 0 → ¬ (tkq g N q = 60 ∨ tkq g N q = 62 ∨ tkq g N q = 61)) (ne : k = 1 ∨ k = 4 ∨ k = 2 ∨ k = 5 → ¬ tkE (tkq g N q) = true) : GoR g N K M (StM g N K M k f fs q) (s 0 36) r t := by
  have hk5 := low_k hT.2.2.2.2.2.2.1
  have f17 : s 17 fs.length = (f : Int) := hT.2.2.2.2.2.1.2.1
  have d32 := hT.2.2.1
  have d33 := hT.2.2.2.1
  cases n with
  | zero => exact False.elim h
  | succ n =>
    have h := ul_X12_goesOn_352 h
    unfold T_X12_goesOn_352 at h
    obtain ⟨_, _, _, _, r1, s1, hm1, _, _, _, h⟩ := h
    obtain ⟨e1, k1⟩ := isTestM hm1
    rw [e1, Int.toNat_natCast, f17] at h
    -- a round one closes
    have rd : ∀ (x : Int) (r2 : Int) (s2 s3 s4 s5 s6 : PS), k = 3 → M_X12_isSign s 41 r2 s2 → ¬ r2 = 0 → M_X12_joins s2 x 0 s3 → s4 = us s3 0 32 (s 0 32 - 1) → s5 = us s4 0 33 (s 0 33 - 1) → M_X12_looks s5 0 s6 → Fr intsM [0] [(0, 3), (0, 4), (0, 5), (0, 6), (0, 7), (0, 8), (0, 9)] s5 s6 → r = 1 → t = s6 → GoR g N K M (StM g N K M k f fs q) (s 0 36) r t := by
      intro x r2 s2 s3 s4 s5 s6 k3 hm2 c2 hj e4 e5' hl hf hr ht
      obtain ⟨e2, k2⟩ := isSignM (c := 41) (by decide) hm2 hT.1
      have e41 : tkq g N q = 41 := by rcases k2 with k | k; exact k.2; exact absurd k.1 c2
      rw [e2] at hj
      subst k3
      cases fs with
      | nil =>
        have low : (3 : Nat) = 0 ∨ (3 : Nat) = 1 ∨ (3 : Nat) = 2 := hT.2.2.2.2.2.2.1
        omega
      | cons x fs2 =>
        obtain ⟨kk, ff⟩ := x
        have low := hT.2.2.2.2.2.2.1
        obtain ⟨n1, n17, n18⟩ := (Nr.rf (n := fs2.length + 1) (s := s)).join hj
        have es : s5 = us (us s3 0 32 (s 0 32 - 1)) 0 33 (s 0 33 - 1) := by rw [e5', e4]
        rw [List.length_cons] at d32 d33
        have lw := low.1
        refine goClose hN hg hT (by omega) n1 (s3 := s5) (f3 := ff) (fun c c0 _ => by rw [es, us_k c0, us_k c0]) (fun j j1 j2 => by rw [es, us_j j2, us_j j1]) ?_ ?_ ?_ (fun i hi => by rw [es, us_k (by decide), us_k (by decide)]) low.2.1 (fun z => by omega) ?_ hl hf hr ht
        · rw [es, us_j (by decide), us_at, d32]
          omega
        · rw [es, us_at, d33]
          omega
        · rw [es, us_k (by decide), us_k (by decide), n17]
          exact hT.2.2.2.2.2.1.2.2.2.2.1
        · show conA (tkq g N) (nxq g N) 1001 (knK (ltq g N) K M) ((3, f) :: (kk, ff) :: fs2) false q = _
          rw [G_cl3 (np (Or.inr (Or.inl rfl)))]
          have ps : psK (tkq g N) (nxq g N) 41 q = some (nxq g N q) := by
            unfold psK
            rw [if_pos e41]
          rw [ps]
          rfl
    have rd0 : ∀ (r2 : Int) (s2 : PS), k = 3 → M_X12_isSign s 41 r2 s2 → r2 = 0 → StM g N K M k f fs q = none := by
      intro r2 s2 k3 hm2 c2
      obtain ⟨e2, k2⟩ := isSignM (c := 41) (by decide) hm2 hT.1
      have n41 : ¬ tkq g N q = 41 := by rcases k2 with k | k; exact absurd k.1 (by omega); exact k.2
      subst k3
      show conA (tkq g N) (nxq g N) 1001 (knK (ltq g N) K M) ((3, f) :: fs) false q = _
      rw [G_cl3 (np (Or.inr (Or.inl rfl)))]
      unfold psK
      rw [if_neg n41]
      rfl
    -- a square one
    have sq : ∀ (x : Int) (r2 : Int) (s2 s3 s4 s5 s6 s7 : PS), (k = 4 ∨ k = 5) → ¬ f = 0 → M_X12_isSign s 93 r2 s2 → ¬ r2 = 0 → M_X12_joins s2 x 0 s3 → s4 = us s3 0 32 (s 0 32 - 1) → s5 = us s4 0 33 (s 0 33 - 1) → s6 = us s5 17 (s 0 32 - 1 - 1).toNat 2 → M_X12_looks s6 0 s7 → Fr intsM [0] [(0, 3), (0, 4), (0, 5), (0, 6), (0, 7), (0, 8), (0, 9)] s6 s7 → r = 1 → t = s7 → GoR g N K M (StM g N K M k f fs q) (s 0 36) r t := by
      intro x r2 s2 s3 s4 s5 s6 s7 k45 f0 hm2 c2 hj e4 e5' e6 hl hf hr ht
      obtain ⟨e2, k2⟩ := isSignM (c := 93) (by decide) hm2 hT.1
      have e93 : tkq g N q = 93 := by rcases k2 with k | k; exact k.2; exact absurd k.1 c2
      rw [e2] at hj
      have wc := whole_c hT (by omega) f0 np
      cases fs with
      | nil =>
        have low : k = 0 ∨ k = 1 ∨ k = 2 := hT.2.2.2.2.2.2.1
        omega
      | cons x fs2 =>
        obtain ⟨kk, ff⟩ := x
        have low := hT.2.2.2.2.2.2.1
        have lw := low.1
        obtain ⟨n1, n17, n18⟩ := (Nr.rf (n := fs2.length + 1) (s := s)).join hj
        rw [List.length_cons] at d32 d33
        have ei : (s 0 32 - 1 - 1).toNat = fs2.length := by rw [d32]; omega
        rw [ei] at e6
        have es : s6 = us (us (us s3 0 32 (s 0 32 - 1)) 0 33 (s 0 33 - 1)) 17 fs2.length 2 := by rw [e6, e5', e4]
        refine goClose hN hg hT (by omega) n1 (s3 := s6) (f3 := 2) (fun c c0 c17 => by rw [es, us_k c17, us_k c0, us_k c0]) (fun j j1 j2 => by rw [es, us_k (by decide), us_j j2, us_j j1]) ?_ ?_ ?_ (fun i hi => by rw [es, us_j (by omega), us_k (by decide), us_k (by decide)]) (by decide) (fun _ => rfl) ?_ hl hf hr ht
        · rw [es, us_k (by decide), us_j (by decide), us_at, d32]
          omega
        · rw [es, us_k (by decide), us_at, d33]
          omega
        · rw [es, us_at]
          rfl
        · rw [wc, G_cl (by omega) (ne (by omega))]
          have ps : psK (tkq g N) (nxq g N) 93 q = some (nxq g N q) := by
            unfold psK
            rw [if_pos e93]
          rw [ps]
          show conA (tkq g N) (nxq g N) 1001 (knK (ltq g N) K M) ((kk, ff) :: fs2) true (nxq g N q) = conA (tkq g N) (nxq g N) 1001 (knK (ltq g N) K M) ((kk, 2) :: fs2) false (nxq g N q)
          rw [conA_t (by omega) (by omega), conA_2 (by omega) (by omega)]
    have sq0 : ∀ (r2 : Int) (s2 : PS), (k = 4 ∨ k = 5) → ¬ f = 0 → M_X12_isSign s 93 r2 s2 → r2 = 0 → StM g N K M k f fs q = none := by
      intro r2 s2 k45 f0 hm2 c2
      obtain ⟨e2, k2⟩ := isSignM (c := 93) (by decide) hm2 hT.1
      have n93 : ¬ tkq g N q = 93 := by rcases k2 with k | k; exact absurd k.1 (by omega); exact k.2
      rw [whole_c hT (by omega) f0 np, G_cl (by omega) (ne (by omega))]
      unfold psK
      rw [if_neg n93]
      rfl
    -- the end
    have en : ∀ (x : Int) (s2 : PS), k < 3 → ¬ (f = 0 ∧ (k = 1 ∨ k = 4)) → M_X12_joins s x 0 s2 → r = 0 → t = s2 → GoR g N K M (StM g N K M k f fs q) (s 0 36) r t := by
      intro x s2 k3 f0 hj hr ht
      obtain ⟨n1, n17, n18⟩ := (Nr.rf (n := fs.length) (s := s)).join hj
      refine Or.inr (Or.inr (Or.inr ⟨hr, q, ?_, by rw [ht]; exact n1.mx hT.1, by rw [ht]; exact n1.bk hT.2.1⟩))
      by_cases c0 : k = 0
      · subst c0
        exact G_end0 (np (Or.inl rfl))
      · have fw := hT.2.2.2.2.2.2.2.2
        rw [whole_c hT (by omega) (by omega) np]
        exact G_end k3 c0 (ne (by omega))
    have fw := hT.2.2.2.2.2.2.2.2
    rcases h with ⟨c1, h⟩ | ⟨c1, h⟩
    · have nt : ¬ (k = 1 ∨ k = 4) := by clear h; rcases k1 with k | k <;> omega
      rcases h with ⟨c2, h⟩ | ⟨c2, _, s2, hj, _, _, hr, ht⟩
      · rcases h with ⟨c3, r2, s2, hm2, _, _, _, h⟩ | ⟨c3, r2, s2, hm2, _, _, _, h⟩
        · rcases h with ⟨c4, s3, _, _, _, z, _, ht⟩ | ⟨c4, _, s3, hj, _, _, s4, e4, s5, e5', _, s6, hl, hf, _, hr, ht⟩
          · exact goFlt (by rw [ht]; omega) (rd0 _ _ (by omega) hm2 c4)
          · exact rd _ _ _ _ _ _ _ (by omega) hm2 c4 hj e4 e5' hl hf hr ht
        · rcases h with ⟨c4, s3, _, _, _, z, _, ht⟩ | ⟨c4, _, s3, hj, _, _, s4, e4, s5, e5', _, s6, e6, s7, hl, hf, _, hr, ht⟩
          · exact goFlt (by rw [ht]; omega) (sq0 _ _ (by omega) (by omega) hm2 c4)
          · exact sq _ _ _ _ _ _ _ _ (by omega) (by omega) hm2 c4 hj e4 e5' e6 hl hf hr ht
      · exact en _ _ (by omega) (fun z => nt z.2) hj hr ht
    · have yt : k = 1 ∨ k = 4 := by clear h; rcases k1 with k | k <;> omega
      rcases h with ⟨c2, s2, hb, hfb, _, h⟩ | ⟨c2, h⟩
      · have f0 : f = 0 := by omega
        subst f0
        have no : StM g N K M k 0 fs q = none := G_nc (by clear h; omega) (by clear h; omega) (np (Or.inr (Or.inr ⟨yt, by decide⟩))) (nc ⟨yt, rfl⟩)
        obtain ⟨b1, _, _⟩ := blameF hb (by rw [hT.1.2.2.1]; decide)
        refine goFlt ?_ no
        rcases h with ⟨_, ⟨_, r3, s3, hm3, hf3, _, _, ⟨_, s4, _, _, _, z, _, ht⟩ | ⟨_, z, _, ht⟩⟩ | ⟨_, r3, s3, hm3, hf3, _, _, ⟨_, s4, _, _, _, z, _, ht⟩ | ⟨_, z, _, ht⟩⟩⟩ | ⟨_, z, _, ht⟩
        · rw [ht]
          omega
        · rw [ht, hf3.f (by decide) (by decide)]
          exact b1
        · rw [ht]
          omega
        · rw [ht, hf3.f (by decide) (by decide)]
          exact b1
        · rw [ht]
          exact b1
      · have f0 : ¬ f = 0 := by omega
        rcases h with ⟨c3, h⟩ | ⟨c3, _, s2, hj, _, _, hr, ht⟩
        · rcases h with ⟨c4, r2, s2, hm2, _, _, _, h⟩ | ⟨c4, r2, s2, hm2, _, _, _, h⟩
          · omega
          · rcases h with ⟨c5, s3, _, _, _, z, _, ht⟩ | ⟨c5, _, s3, hj, _, _, s4, e4, s5, e5', _, s6, e6, s7, hl, hf, _, hr, ht⟩
            · exact goFlt (by rw [ht]; omega) (sq0 _ _ (by omega) f0 hm2 c5)
            · exact sq _ _ _ _ _ _ _ _ (by omega) f0 hm2 c5 hj e4 e5' e6 hl hf hr ht
        · exact en _ _ (by omega) (fun z => f0 z.1) hj hr ht
theorem go241 (hN : N ≤ 1000) (hg : ∀ i, g i ≤ 255) {n : Nat} {x3 : Int} (h : It_X12_goesOn n 241 (fs.length : Int) (k : Int) x3 s r t) (hT : TlM g N K M k f fs q s) (np : Npm g N k f q) (nc : (k = 1 ∨ k = 4) ∧ f = 0 → ¬ (tkq g N q = 60 ∨ tkq g N q = 62 ∨ tkq g N q = 61)) (hk : k = 1 ∨ k = 4 ∨ k = 2 ∨ k = 5) : GoR g N K M (StM g N K M k f fs q) (s 0 36) r t := by
  have f17 : s 17 fs.length = (f : Int) := hT.2.2.2.2.2.1.2.1
  have go261 : ∀ (n : Nat), It_X12_goesOn n 261 (fs.length : Int) (k : Int) x3 s r t → tkE (tkq g N q) = true → (tkq g N q = 273 ∨ tkq g N q = 272) → GoR g N K M (StM g N K M k f fs q) (s 0 36) r t := by
    intro n h c ct
    cases n with
    | zero => exact False.elim h
    | succ n =>
      have h := ul_X12_goesOn_261 h
      unfold T_X12_goesOn_261 at h
      obtain ⟨_, _, _, _, h⟩ := h
      rw [Int.toNat_natCast, f17] at h
      rcases h with ⟨c1, s1, _, _, _, z, _, ht⟩ | ⟨c1, _, r2, s2, hm2, _, _, _, h⟩
      · have f0 : f = 0 := by omega
        subst f0
        have fw := hT.2.2.2.2.2.2.2.2
        refine goFlt (by rw [ht]; omega) ?_
        exact G_nc (by omega) (by omega) (np (by omega)) (by omega)
      · have f0 : ¬ f = 0 := by omega
        have sp : StM g N K M k f fs q = SpM g N K M k 0 fs true (nxq g N q) := by
          rw [whole_c hT hk f0 np]
          exact G_ao (ngr hg) (by omega) hT.1.2.1 (by omega) (by omega) c
        obtain ⟨e2, _⟩ := isWordM (i := 12) hg (by decide) (by decide) hm2 hT.1
        rw [e2] at h
        have fin : ∀ (x y : Int) (s3 s4 s5 s6 s7 : PS), M_X12_joins s x 0 s3 → M_X12_waits s3 y 0 s4 → s5 = us s4 17 fs.length 0 → s6 = us s5 18 fs.length 1 → M_X12_looks s6 0 s7 → Fr intsM [0] [(0, 3), (0, 4), (0, 5), (0, 6), (0, 7), (0, 8), (0, 9)] s6 s7 → r = 1 → t = us s7 0 36 0 → GoR g N K M (StM g N K M k f fs q) (s 0 36) r t := by
          intro x y s3 s4 s5 s6 s7 hj hw e5' e6 hl hf hr ht
          obtain ⟨n1, _, _⟩ := (Nr.rf (n := fs.length) (s := s)).join hj
          obtain ⟨n2, _, _⟩ := n1.wait hw
          have n6 : Nr fs.length s s6 := by
            rw [e6, e5']
            exact n2.ph.bg
          refine goTail hN hg hT (by omega) n6 (f2 := 0) (b := true) ?_ ?_ sp (fun _ => rfl) (fun _ => rfl) (fun z => absurd z (by decide)) (by decide) hl hf hr ht
          · rw [e6, us_k (by decide), e5', us_at]
            rfl
          · rw [e6, us_at]
            rfl
        rcases h with ⟨c2, s3, hj, _, _, _, s4, hw, _, _, s5, e5', s6, e6, s7, hl, hf, _, s8, e8, hr, ht⟩ | ⟨c2, s3, hj, _, _, _, s4, hw, _, _, s5, e5', s6, e6, s7, hl, hf, _, s8, e8, hr, ht⟩
        · exact fin _ _ _ _ _ _ _ hj hw e5' e6 hl hf hr (ht.trans e8)
        · exact fin _ _ _ _ _ _ _ hj hw e5' e6 hl hf hr (ht.trans e8)
  cases n with
  | zero => exact False.elim h
  | succ n =>
    have h := ul_X12_goesOn_241 h
    unfold T_X12_goesOn_241 at h
    obtain ⟨_, _, _, _, r1, s1, hm1, _, _, _, h⟩ := h
    obtain ⟨e1, k1⟩ := isWordM (i := 12) hg (by decide) (by decide) hm1 hT.1
    rw [e1] at h
    rcases h with ⟨c1, r2, s2, hm2, _, _, _, h⟩ | ⟨c1, h⟩
    · obtain ⟨e2, k2⟩ := isWordM (i := 11) hg (by decide) (by decide) hm2 hT.1
      rw [e2] at h
      have na : ¬ tkq g N q = 261 + 12 := by rcases k1 with k | k; exact absurd k.1 (by omega); exact k.2
      rcases h with ⟨c2, h⟩ | ⟨c2, h⟩
      · have nb : ¬ tkq g N q = 261 + 11 := by rcases k2 with k | k; exact absurd k.1 (by omega); exact k.2
        refine go352 hN hg h hT np nc (fun _ => ?_)
        unfold tkE tkA tkO
        rw [Bool.or_eq_true, Nat.beq_eq, Nat.beq_eq]
        omega
      · have yb : tkq g N q = 261 + 11 := by rcases k2 with k | k; exact k.2; exact absurd k.1 c2
        exact go261 n h (by rw [yb]; decide) (Or.inr yb)
    · have ya : tkq g N q = 261 + 12 := by rcases k1 with k | k; exact k.2; exact absurd k.1 c1
      exact go261 n h (by rw [ya]; decide) (Or.inl ya)
theorem go127 (hN : N ≤ 1000) (hg : ∀ i, g i ≤ 255) {n : Nat} {x3 : Int} (h : It_X12_goesOn n 127 (fs.length : Int) (k : Int) x3 s r t) (hT : TlM g N K M k f fs q s) (np : Npm g N k f q) : GoR g N K M (StM g N K M k f fs q) (s 0 36) r t := by
  have f17 : s 17 fs.length = (f : Int) := hT.2.2.2.2.2.1.2.1
  have hk5 := low_k hT.2.2.2.2.2.2.1
  have go227 : ∀ (n : Nat), It_X12_goesOn n 227 (fs.length : Int) (k : Int) x3 s r t → ((k = 1 ∨ k = 4) ∧ f = 0 → ¬ (tkq g N q = 60 ∨ tkq g N q = 62 ∨ tkq g N q = 61)) → GoR g N K M (StM g N K M k f fs q) (s 0 36) r t := by
    intro n h nc
    cases n with
    | zero => exact False.elim h
    | succ n =>
      have h := ul_X12_goesOn_227 h
      unfold T_X12_goesOn_227 at h
      obtain ⟨_, _, _, _, r1, s1, hm1, _, _, _, h⟩ := h
      obtain ⟨e1, k1⟩ := isTestM hm1
      rw [e1] at h
      rcases h with ⟨c1, r2, s2, hm2, _, _, _, h⟩ | ⟨c1, h⟩
      · obtain ⟨e2, k2⟩ := isWhichM hm2
        rw [e2] at h
        rcases h with ⟨c2, h⟩ | ⟨c2, h⟩
        · refine go352 hN hg h hT np nc (fun z => ?_)
          rcases k1 with k | k <;> rcases k2 with j | j <;> omega
        · exact go241 hN hg h hT np nc (by rcases k2 with j | j <;> omega)
      · exact go241 hN hg h hT np nc (by clear h; rcases k1 with j | j <;> omega)
  cases n with
  | zero => exact False.elim h
  | succ n =>
    have h := ul_X12_goesOn_127 h
    unfold T_X12_goesOn_127 at h
    obtain ⟨_, _, _, _, r1, s1, hm1, _, _, _, h⟩ := h
    obtain ⟨e1, k1⟩ := isTestM hm1
    rw [e1, Int.toNat_natCast, f17] at h
    rcases h with ⟨c1, h⟩ | ⟨c1, ⟨c2, r2, s2, hm2, _, _, _, h⟩ | ⟨c2, h⟩⟩
    · exact go227 n h (fun z => by clear h; rcases k1 with j | j <;> omega)
    · have yt : k = 1 ∨ k = 4 := by clear h; rcases k1 with j | j <;> omega
      have f0 : f = 0 := by omega
      subst f0
      obtain ⟨e2, k2⟩ := isSignM (c := 60) (by decide) hm2 hT.1
      rw [e2] at h
      rcases h with ⟨c3, r3, s3, hm3, _, _, _, h⟩ | ⟨c3, h⟩
      · obtain ⟨e3, k3⟩ := isSignM (c := 62) (by decide) hm3 hT.1
        rw [e3] at h
        rcases h with ⟨c4, r4, s4, hm4, _, _, _, h⟩ | ⟨c4, h⟩
        · obtain ⟨e4, k4⟩ := isSignM (c := 61) (by decide) hm4 hT.1
          rw [e4] at h
          rcases h with ⟨c5, h⟩ | ⟨c5, h⟩
          · refine go227 n h (fun _ => ?_)
            have n1 : ¬ tkq g N q = 60 := by rcases k2 with j | j; exact absurd j.1 (by omega); exact j.2
            have n2 : ¬ tkq g N q = 62 := by rcases k3 with j | j; exact absurd j.1 (by omega); exact j.2
            have n3 : ¬ tkq g N q = 61 := by rcases k4 with j | j; exact absurd j.1 (by omega); exact j.2
            omega
          · exact go170 hN hg h hT yt (by rcases k4 with j | j; exact Or.inr (Or.inr j.2); exact absurd j.1 c5)
        · exact go170 hN hg h hT yt (by rcases k3 with j | j; exact Or.inr (Or.inl j.2); exact absurd j.1 c4)
      · exact go170 hN hg h hT yt (by rcases k2 with j | j; exact Or.inl j.2; exact absurd j.1 c3)
    · exact go227 n h (fun z => by omega)
/-- going on -/
theorem goesM (hN : N ≤ 1000) (hg : ∀ i, g i ≤ 255) (h : M_X12_goesOn s r t) (hT : TlM g N K M k f fs q s) : GoR g N K M (StM g N K M k f fs q) (s 0 36) r t := by
  have f16 : s 16 fs.length = (k : Int) := hT.2.2.2.2.2.1.1
  have f17 : s 17 fs.length = (f : Int) := hT.2.2.2.2.2.1.2.1
  have d32 := hT.2.2.1
  have ix : (s 0 32 - 1).toNat = fs.length := by rw [d32]; omega
  have iz : s 0 32 - 1 = (fs.length : Int) := by omega
  have f2 := hT.2.2.2.2.2.2.2.1
  obtain ⟨n, h⟩ := h
  unfold T_X12_goesOn_e at h
  obtain ⟨_, h⟩ := h
  rw [ix, iz, f16, f17] at h
  have three : ∀ (x3 : Int) (r1 : Int) (s1 : PS), (k = 0 ∨ k = 3 ∨ ((k = 1 ∨ k = 4) ∧ f ≤ 1)) → M_X12_isSign s 43 r1 s1 → ((r1 = 0 ∧ ∃ r2 s2, M_X12_isSign s1 45 r2 s2 ∧ ((r2 = 0 ∧ ∃ r3 s3, M_X12_isSign s2 42 r3 s3 ∧ ((r3 = 0 ∧ It_X12_goesOn n 127 (fs.length : Int) (k : Int) x3 s3 r t) ∨ (¬ r3 = 0 ∧ It_X12_goesOn n 77 (fs.length : Int) (k : Int) x3 s3 r t))) ∨ (¬ r2 = 0 ∧ It_X12_goesOn n 77 (fs.length : Int) (k : Int) x3 s2 r t))) ∨ (¬ r1 = 0 ∧ It_X12_goesOn n 77 (fs.length : Int) (k : Int) x3 s1 r t)) → GoR g N K M (StM g N K M k f fs q) (s 0 36) r t := by
    intro x3 r1 s1 hs hm1 h
    obtain ⟨e1, k1⟩ := isSignM (c := 43) (by decide) hm1 hT.1
    rw [e1] at h
    rcases h with ⟨c1, r2, s2, hm2, h⟩ | ⟨c1, h⟩
    · obtain ⟨e2, k2⟩ := isSignM (c := 45) (by decide) hm2 hT.1
      rw [e2] at h
      rcases h with ⟨c2, r3, s3, hm3, h⟩ | ⟨c2, h⟩
      · obtain ⟨e3, k3⟩ := isSignM (c := 42) (by decide) hm3 hT.1
        rw [e3] at h
        rcases h with ⟨c3, h⟩ | ⟨c3, h⟩
        · refine go127 hN hg h hT (fun _ => ?_)
          have n1 : ¬ tkq g N q = 43 := by rcases k1 with j | j; exact absurd j.1 (by omega); exact j.2
          have n2 : ¬ tkq g N q = 45 := by rcases k2 with j | j; exact absurd j.1 (by omega); exact j.2
          have n3 : ¬ tkq g N q = 42 := by rcases k3 with j | j; exact absurd j.1 (by omega); exact j.2
          rw [tkP_iff]
          omega
        · exact go77 hN hg h hT hs (tkP_iff.mpr (by rcases k3 with j | j; exact Or.inr (Or.inr j.2); exact absurd j.1 c3))
      · exact go77 hN hg h hT hs (tkP_iff.mpr (by rcases k2 with j | j; exact Or.inr (Or.inl j.2); exact absurd j.1 c2))
    · exact go77 hN hg h hT hs (tkP_iff.mpr (by rcases k1 with j | j; exact Or.inl j.2; exact absurd j.1 c1))
  rcases h with ⟨c1, r1, s1, hm1, _, _, _, h⟩ | ⟨c1, ⟨c2, r1, s1, hm1, _, _, _, h⟩ | ⟨c2, r1, s1, hm1, _, _, _, h⟩⟩
  · refine three 1 r1 s1 (Or.inl (by omega)) hm1 ?_
    rcases h with ⟨c, r2, s2, hm2, _, _, _, ⟨c2, r3, s3, hm3, _, _, _, h⟩ | ⟨c2, h⟩⟩ | ⟨c, h⟩
    · exact Or.inl ⟨c, r2, s2, hm2, Or.inl ⟨c2, r3, s3, hm3, h⟩⟩
    · exact Or.inl ⟨c, r2, s2, hm2, Or.inr ⟨c2, h⟩⟩
    · exact Or.inr ⟨c, h⟩
  · refine three 1 r1 s1 (Or.inr (Or.inl (by omega))) hm1 ?_
    rcases h with ⟨c, r2, s2, hm2, _, _, _, ⟨c2, r3, s3, hm3, _, _, _, h⟩ | ⟨c2, h⟩⟩ | ⟨c, h⟩
    · exact Or.inl ⟨c, r2, s2, hm2, Or.inl ⟨c2, r3, s3, hm3, h⟩⟩
    · exact Or.inl ⟨c, r2, s2, hm2, Or.inr ⟨c2, h⟩⟩
    · exact Or.inr ⟨c, h⟩
  · obtain ⟨e1, k1⟩ := isTestM hm1
    rw [e1] at h
    rcases h with ⟨c3, h⟩ | ⟨c3, ⟨c4, h⟩ | ⟨c4, r2, s2, hm2, _, _, _, h⟩⟩
    · refine go127 hN hg h hT (fun z => ?_)
      exfalso
      rcases k1 with j | j <;> omega
    · refine go127 hN hg h hT (fun z => ?_)
      omega
    · refine three 1 r2 s2 (by clear h; rcases k1 with j | j <;> omega) hm2 ?_
      rcases h with ⟨c, r2, s2, hm2, _, _, _, ⟨c2, r3, s3, hm3, _, _, _, h⟩ | ⟨c2, h⟩⟩ | ⟨c, h⟩
      · exact Or.inl ⟨c, r2, s2, hm2, Or.inl ⟨c2, r3, s3, hm3, h⟩⟩
      · exact Or.inl ⟨c, r2, s2, hm2, Or.inr ⟨c2, h⟩⟩
      · exact Or.inr ⟨c, h⟩
end GoesM
