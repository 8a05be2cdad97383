/-! the class's reader: what stands at a place -/
/-- kinds and marks of the book that is read -/
def BkX (K M : List (List Nat)) (s : PS) : Prop := s 16 0 = (K.length : Int) ∧ s 16 5 = (M.length : Int) ∧ (∀ i : Nat, (h : i < K.length) → s 17 i = ((e5 K[i] : Nat) : Int)) ∧ (∀ i : Nat, (h : i < M.length) → s 21 i = ((e5 M[i] : Nat) : Int)) ∧ (∀ l ∈ K, LW l) ∧ (∀ l ∈ M, LW l)
def PX (g : Nat → Nat) (N : Nat) (K M : List (List Nat)) (d q : Nat) (s : PS) : Prop := TpX g N s ∧ OWX s ∧ BkX K M s ∧ q ≤ N ∧ (s 34 4 = 8 - (d : Int) ∧ d ≤ 8) ∧ StX g N q s
/-- a reader's answer -/
def RdR (S : Option Nat) (P : Nat → PS → Prop) (r : Int) (t : PS) : Prop := (r = 1 ∧ ∃ q, S = some q ∧ P q t) ∨ (r = 0 ∧ S = none)
abbrev okRd (ms : List Nat) (fm : List (Nat × Nat)) : Prop := 31 ∉ ms ∧ 32 ∉ ms ∧ 33 ∉ ms ∧ 17 ∉ ms ∧ 21 ∉ ms ∧ (16 ∉ ms ∨ (16 ∈ fm.map Prod.fst ∧ (16, 0) ∉ fm ∧ (16, 5) ∉ fm)) ∧ (34 ∉ ms ∨ (34 ∈ fm.map Prod.fst ∧ (34, 4) ∉ fm))
abbrev okB (ms : List Nat) (fm : List (Nat × Nat)) : Prop := 32 ∉ ms ∧ 33 ∉ ms ∧ 17 ∉ ms ∧ 21 ∉ ms ∧ (16 ∉ ms ∨ (16 ∈ fm.map Prod.fst ∧ (16, 0) ∉ fm ∧ (16, 5) ∉ fm)) ∧ (31 ∉ ms ∨ (31 ∈ fm.map Prod.fst ∧ (31, 1) ∉ fm))
section ReadX
variable {g : Nat → Nat} {N q d : Nat} {K M : List (List Nat)} {s t u : PS} {r : Int} {ms : List Nat} {fm : List (Nat × Nat)}
theorem BkX.cg (h : BkX K M s) (e1 : t 16 0 = s 16 0) (e2 : t 16 5 = s 16 5) (e3 : t 17 = s 17) (e4 : t 21 = s 21) : BkX K M t := ⟨e1.trans h.1, e2.trans h.2.1, fun i hi => by rw [e3]; exact h.2.2.1 i hi, fun i hi => by rw [e4]; exact h.2.2.2.1 i hi, h.2.2.2.2⟩
theorem Fr.f {ints : List (Nat × Nat)} {k j : Nat} (h : Fr ints ms fm s t) (hi : (k, j) ∈ ints) (c : k ∉ ms ∨ (k ∈ fm.map Prod.fst ∧ (k, j) ∉ fm)) : t k j = s k j := by
  rcases c with c | c
  · rw [h.1 k c]
  · exact h.2 k j c.1 c.2 hi
theorem BkX.fr (h : BkX K M s) (hf : Fr intsX ms fm s t) (c17 : 17 ∉ ms) (c21 : 21 ∉ ms) (c : 16 ∉ ms ∨ (16 ∈ fm.map Prod.fst ∧ (16, 0) ∉ fm ∧ (16, 5) ∉ fm)) : BkX K M t := by
  refine h.cg (hf.f (by decide) ?_) (hf.f (by decide) ?_) (hf.1 17 c17) (hf.1 21 c21)
  · rcases c with c | c
    · exact Or.inl c
    · exact Or.inr ⟨c.1, c.2.1⟩
  · rcases c with c | c
    · exact Or.inl c
    · exact Or.inr ⟨c.1, c.2.2⟩
theorem StX.cg (h : StX g N q s) (e : t 31 = s 31) : StX g N q t := by
  unfold StX
  rw [e]
  exact h
/-- nothing that the reader looks at is changed -/
theorem PX.fr (h : PX g N K M d q s) (hf : Fr intsX ms fm s t) (c : okRd ms fm) : PX g N K M d q t := by
  obtain ⟨hT, hO, hB, hq, h4, hS⟩ := h
  have e31 := hf.1 31 c.1
  exact ⟨hT.cg (hf.1 32 c.2.1) (by rw [e31]), hO.cg (hf.1 33 c.2.2.1), hB.fr hf c.2.2.2.1 c.2.2.2.2.1 c.2.2.2.2.2.1, hq, ⟨(hf.f (by decide) c.2.2.2.2.2.2).trans h4.1, h4.2⟩, hS.cg e31⟩
theorem tk_bnd (hg : ∀ i, g i ≤ 255) : tkq g N q ≤ 282 := by
  unfold tkq
  split
  · omega
  · split
    · split
      · omega
      · have := wtl_ge (ltq g N q)
        have e : wtq g N q = wtl (ltq g N q) := rfl
        omega
    · split
      · split <;> omega
      · have := hg (stq g N q)
        omega
theorem tk_end_iff (hg : ∀ i, g i ≤ 255) : tkq g N q = 256 ↔ N ≤ stq g N q := by
  constructor
  · intro h
    by_cases c : N ≤ stq g N q
    · exact c
    · unfold tkq at h
      rw [if_neg c] at h
      split at h
      · split at h
        · omega
        · have := wtl_ge (ltq g N q)
          have e : wtq g N q = wtl (ltq g N q) := rfl
          omega
      · split at h
        · split at h <;> omega
        · have := hg (stq g N q)
          omega
  · intro h
    exact (tk_end rfl h).1
theorem tk_cls (hg : ∀ i, g i ≤ 255) (h1 : ¬ N ≤ stq g N q) (h2 : ¬ tkq g N q = 257) : 258 ≤ tkq g N q ↔ (bL (g (stq g N q)) = true ∨ bD (g (stq g N q)) = true) := by
  have w := wtl_ge (ltq g N q)
  have e : wtq g N q = wtl (ltq g N q) := rfl
  have b := hg (stq g N q)
  unfold tkq at h2 ⊢
  rw [if_neg h1] at h2 ⊢
  by_cases c1 : bL (g (stq g N q)) = true
  · rw [if_pos c1] at h2 ⊢
    split at h2
    · exact absurd rfl h2
    · rename_i c3
      rw [if_neg c3]
      exact ⟨fun _ => Or.inl c1, fun _ => by omega⟩
  · rw [if_neg c1] at h2 ⊢
    by_cases c2 : bD (g (stq g N q)) = true
    · rw [if_pos c2] at h2 ⊢
      split at h2
      · exact absurd rfl h2
      · rename_i c3
        rw [if_neg c3]
        exact ⟨fun _ => Or.inr c2, fun _ => by omega⟩
    · rw [if_neg c2]
      exact ⟨fun z => by omega, fun z => by rcases z with z | z; exact absurd z c1; exact absurd z c2⟩
theorem cwq_nx (hg : ∀ i, g i ≤ 255) (hq : q ≤ N) (h1 : ¬ tkq g N q = 256) (h2 : ¬ tkq g N q = 257) : 258 ≤ tkq g N q ↔ cwq g (nxq g N q) = true := by
  have ne : ¬ N ≤ stq g N q := fun z => h1 ((tk_end_iff hg).mpr z)
  have gt := nxq_gt hq ne
  rw [tk_cls hg ne h2, ← nxq_ld hq ne]
  unfold cwq
  have b1 : Nat.ble 1 (nxq g N q) = true := by rw [Nat.ble_eq]; omega
  rw [b1, Bool.true_and]
theorem ngr (hg : ∀ i, g i ≤ 255) : NGr (tkq g N) (nxq g N) N := fun q hq h => nxq_gt hq (fun z => h ((tk_end_iff hg).mpr z))
/-- a step on -/
theorem PX.step (hN : N ≤ 1000) (hg : ∀ i, g i ≤ 255) (h : PX g N K M d q s) (hm : M_X10_step s r t) (hf : Fr intsX [31] [(31, 3), (31, 4), (31, 5), (31, 6), (31, 7)] s t) (h1 : ¬ tkq g N q = 256) (h2 : ¬ tkq g N q = 257) : PX g N K M d (nxq g N q) t := by
  obtain ⟨hT, hO, hB, hq, h4, hS⟩ := h
  have ne : ¬ N ≤ stq g N q := fun z => h1 ((tk_end_iff hg).mpr z)
  have gt := nxq_gt hq ne
  have st := stepX (q := nxq g N q) hN hg hm hT hO (hS.2 h2).1 gt.2 (by rw [hS.1, ← cwq_nx hg hq h1 h2]; omega)
  exact ⟨hT.cg (hf.1 32 (by decide)) (hf.f (by decide) (by decide)), hO.cg (hf.1 33 (by decide)), hB.fr hf (by decide) (by decide) (by decide), gt.2, ⟨(hf.f (by decide) (by decide)).trans h4.1, h4.2⟩, st⟩
theorem PX.tk (h : PX g N K M d q s) : s 31 4 = (tkq g N q : Int) := h.2.2.2.2.2.1
theorem PX.opn (h : PX g N K M d q s) {d2 : Nat} {v : Int} (hv : v = 8 - (d2 : Int)) (hd : d2 ≤ 8) : PX g N K M d2 q (us s 34 4 v) := by
  obtain ⟨hT, hO, hB, hq, h4, hS⟩ := h
  refine ⟨hT.cg (us_k (by decide)) (us_j (by decide) _), hO.cg (us_k (by decide)), hB.cg (us_j (by decide) _) (us_j (by decide) _) (us_k (by decide)) (us_k (by decide)), hq, ⟨?_, hd⟩, hS.cg (us_k (by decide))⟩
  rw [us_at]
  exact hv
/-- passes -/
theorem passX (hN : N ≤ 1000) (hg : ∀ i, g i ≤ 255) {c : Nat} (hc : ¬ c = 256) (hc2 : ¬ c = 257) (h : M_X8_passes s (c : Int) r t) (hP : PX g N K M d q s) : RdR (psK (tkq g N) (nxq g N) c q) (PX g N K M d) r t := by
  unfold M_X8_passes T_X8_passes_e at h
  obtain ⟨_, _, h⟩ := h
  have tk := hP.tk
  rcases h with ⟨c1, s2, hm, hf, _, hr, hs⟩ | ⟨c1, r2, s2, hm, hf, _, _, hr, _⟩
  · have e : tkq g N q = c := by omega
    refine Or.inl ⟨hr, nxq g N q, ?_, ?_⟩
    · unfold psK
      rw [if_pos e]
    · rw [hs]
      exact hP.step hN hg hm hf (by omega) (by omega)
  · refine Or.inr ⟨hr, ?_⟩
    unfold psK
    rw [if_neg (by omega)]
/-- opens: one deeper -/
theorem openX (hN : N ≤ 1000) (hg : ∀ i, g i ≤ 255) (h : M_X8_opens s r t) (hP : PX g N K M d q s) (h1 : ¬ tkq g N q = 256) (h2 : ¬ tkq g N q = 257) : (r = 1 ∧ ∃ e, d = e + 1 ∧ PX g N K M e (nxq g N q) t) ∨ (r = 0 ∧ d = 0) := by
  unfold M_X8_opens T_X8_opens_e at h
  obtain ⟨_, h⟩ := h
  have h4 := hP.2.2.2.2.1
  rcases h with ⟨c1, s2, e2, s3, hm, hf, _, hr, hs⟩ | ⟨c1, r2, s2, hm, hf, _, _, hr, _⟩
  · obtain ⟨e, rfl⟩ : ∃ e, d = e + 1 := ⟨d - 1, by omega⟩
    refine Or.inl ⟨hr, e, rfl, ?_⟩
    rw [hs]
    have p2 : PX g N K M e q s2 := by
      rw [e2]
      exact hP.opn (by omega) (by omega)
    exact p2.step hN hg hm hf h1 h2
  · exact Or.inr ⟨hr, by omega⟩
/-- a code that is put in leaves the reader where it is -/
theorem codeX {a b : Int} (h : M_X1_addCode_at16 s a b r t) (hf : Fr intsX [16, 29] [(16, 17)] s t) (hP : PX g N K M d q s) : PX g N K M d q t := hP.fr hf (by decide)
theorem RdR.none (h : r = 0) {S : Option Nat} {P : Nat → PS → Prop} (e : S = Option.none) : RdR S P r t := Or.inr ⟨h, e⟩
/-- a number or a fact, or a sum in brackets -/
theorem partX (hN : N ≤ 1000) (hg : ∀ i, g i ≤ 255) {F : Nat} {RS : PS → Int → PS → Prop} (hRS : ∀ (e : Nat) (s : PS) (r : Int) (t : PS) (q : Nat), d = e + 1 → RS s r t → PX g N K M e q s → RdR (sumD (tkq g N) (nxq g N) F e q) (PX g N K M e) r t) (h : M_X8_readsPart RS s r t) (hP : PX g N K M d q s) : RdR (parD (tkq g N) (nxq g N) F d q) (PX g N K M d) r t := by
  unfold M_X8_readsPart T_X8_readsPart_e at h
  obtain ⟨_, h⟩ := h
  have tk := hP.tk
  rcases h with ⟨c1, r1, s1, hm, hf, _, _, h⟩ | ⟨c1, h⟩
  · have e40 : tkq g N q = 40 := by omega
    rcases openX hN hg hm hP (by omega) (by omega) with ⟨o1, e, rfl, p1⟩ | ⟨o1, o2⟩
    · rcases h with ⟨c2, _⟩ | ⟨c2, r2, s2, hm2, hf2, _, _, h⟩
      · omega
      · have sm := hRS e s1 r2 s2 _ rfl hm2 p1
        rcases h with ⟨c3, s3, e3, hr, _⟩ | ⟨c3, r3, s3, hm3, hf3, _, _, h⟩
        · rcases sm with ⟨z, _⟩ | ⟨_, z⟩
          · omega
          · exact RdR.none hr (by rw [parD_b _ e40, z]; rfl)
        · rcases sm with ⟨_, q2, z, p2⟩ | ⟨z, _⟩
          · have ps := passX (c := 41) hN hg (by decide) (by decide) hm3 p2
            rcases h with ⟨c4, s4, e4, hr, _⟩ | ⟨c4, s4, e4, hr, hs⟩
            · rcases ps with ⟨y, _⟩ | ⟨_, y⟩
              · omega
              · exact RdR.none hr (by rw [parD_b _ e40, z]; exact y)
            · rcases ps with ⟨_, q3, y, p3⟩ | ⟨y, _⟩
              · refine Or.inl ⟨hr, q3, by rw [parD_b _ e40, z]; exact y, ?_⟩
                rw [hs, e4]
                have a1 := p1.2.2.2.2.1
                exact p3.opn (by rw [a1.1, wi_id (by omega) (by omega)]; omega) hP.2.2.2.2.1.2
              · omega
          · omega
    · rcases h with ⟨c2, s3, e3, hr, _⟩ | ⟨c2, _⟩
      · exact RdR.none hr (by rw [o2, parD_0 e40])
      · omega
  · have n40 : ¬ tkq g N q = 40 := by omega
    rcases h with ⟨c2, s1, hm, hf, _, s2, hm2, hf2, _, hr, hs⟩ | ⟨c2, r1, s1, hm, hf, _, _, h⟩
    · refine Or.inl ⟨hr, nxq g N q, ?_, ?_⟩
      · rw [parD_l n40, if_pos (by omega)]
      · rw [hs]
        exact (codeX hm hf hP).step hN hg hm2 hf2 (by omega) (by omega)
    · have wi := hm
      unfold M_X11_within T_X11_within_e at wi
      obtain ⟨_, _, _, wi⟩ := wi
      have p1 := hP.fr hf (by decide)
      rcases h with ⟨c3, r2, s2, hm2, hf2, _, _, hr, _⟩ | ⟨c3, s2, hm2, hf2, _, s3, hm3, hf3, _, hr, hs⟩
      · refine RdR.none hr ?_
        rw [parD_l n40, if_neg]
        intro z
        rcases wi with ⟨w, _⟩ | ⟨w, ⟨w2, _⟩ | ⟨w2, w3, _⟩⟩ <;> omega
      · refine Or.inl ⟨hr, nxq g N q, ?_, ?_⟩
        · rw [parD_l n40, if_pos]
          rcases wi with ⟨w, w3, _⟩ | ⟨w, ⟨w2, w3, _⟩ | ⟨w2, w3, _⟩⟩ <;> omega
        · rw [hs]
          have b := tk_bnd (N := N) (q := q) hg
          exact (codeX hm2 hf2 p1).step hN hg hm3 hf3 (by omega) (by rcases wi with ⟨w, w3, _⟩ | ⟨w, ⟨w2, w3, _⟩ | ⟨w2, w3, _⟩⟩ <;> omega)
theorem tkP_iff {c : Nat} : tkP c = true ↔ c = 43 ∨ c = 45 ∨ c = 42 := by
  unfold tkP
  rw [Bool.or_eq_true, Bool.or_eq_true, Nat.beq_eq, Nat.beq_eq, Nat.beq_eq]
/-- behind a sum's part -/
theorem sumL (hN : N ≤ 1000) (hg : ∀ i, g i ≤ 255) {F : Nat} (hF : N < F) {RS : PS → Int → PS → Prop} (hRS : ∀ (e : Nat) (s : PS) (r : Int) (t : PS) (q : Nat), d = e + 1 → RS s r t → PX g N K M e q s → RdR (sumD (tkq g N) (nxq g N) F e q) (PX g N K M e) r t) : ∀ (n i q : Nat) (a b : Int) (s : PS) (r : Int) (t : PS), It_X8_readsSum RS n 11 (i : Int) a b s r t → PX g N K M d q s → i + 1 ≤ q → RdR (lpF (tkq g N) (nxq g N) tkP (parD (tkq g N) (nxq g N) F d) F q) (PX g N K M d) r t := by
  intro n
  induction n using Nat.strongRecOn with
  | ind n ih =>
  intro i q a b s r t h hP hi
  cases n with
  | zero => exact False.elim h
  | succ n =>
    have h := ul_X8_readsSum_11 h
    unfold T_X8_readsSum_11 at h
    obtain ⟨_, _, h⟩ := h
    have tk := hP.tk
    have hq := hP.2.2.2.1
    have no : ¬ tkP (tkq g N q) = true → r = 1 ∧ t = s → RdR (lpF (tkq g N) (nxq g N) tkP (parD (tkq g N) (nxq g N) F d) F q) (PX g N K M d) r t := by
      intro c e
      exact Or.inl ⟨e.1, q, lpF_no c, by rw [e.2]; exact hP⟩
    have go : ∀ (x : Int), It_X8_readsSum RS n 46 (i : Int) x 0 s r t → tkP (tkq g N q) = true → RdR (lpF (tkq g N) (nxq g N) tkP (parD (tkq g N) (nxq g N) F d) F q) (PX g N K M d) r t := by
      intro x h c
      have c2 := tkP_iff.mp c
      cases n with
      | zero => exact False.elim h
      | succ n =>
        have h := ul_X8_readsSum_46 h
        unfold T_X8_readsSum_46 at h
        obtain ⟨_, _, _, s1, hm, hf, _, r2, s2, hm2, hf2, _, _, h⟩ := h
        have p1 := hP.step hN hg hm hf (by omega) (by omega)
        have pt := partX hN hg hRS hm2 p1
        have gt := ngr hg q hq (by omega)
        have un := lpF_go (ok := tkP) (ngr hg) (by decide) (parD_pg (F := F) (ngr hg) d) hF hq c
        rcases h with ⟨c3, hr, _⟩ | ⟨c3, h⟩
        · rcases pt with ⟨z, _⟩ | ⟨_, z⟩
          · omega
          · exact RdR.none hr (by rw [un, z]; rfl)
        · rcases pt with ⟨_, q2, z, p2⟩ | ⟨z, _⟩
          · have pg := parD_pg (F := F) (ngr hg) d _ _ gt.2 z
            have k90 : ∀ y : Int, It_X8_readsSum RS n 90 (i : Int) x y s2 r t → RdR (lpF (tkq g N) (nxq g N) tkP (parD (tkq g N) (nxq g N) F d) F q) (PX g N K M d) r t := by
              intro y h
              cases n with
              | zero => exact False.elim h
              | succ n =>
                have h := ul_X8_readsSum_90 h
                unfold T_X8_readsSum_90 at h
                obtain ⟨_, _, _, _, s3, hm3, hf3, _, h⟩ := h
                have p3 := codeX hm3 hf3 p2
                have k := ih n (by omega) (i + 1) q2 0 0 s3 r t h p3 (by omega)
                rw [un, z]
                exact k
            rcases h with ⟨_, h⟩ | ⟨_, ⟨_, h⟩ | ⟨_, h⟩⟩
            · exact k90 _ h
            · exact k90 _ h
            · exact k90 _ h
          · omega
    rcases h with ⟨c1, _⟩ | ⟨c1, h⟩
    · omega
    · rcases h with ⟨c2, h⟩ | ⟨c2, h⟩
      · exact go _ h (tkP_iff.mpr (by omega))
      · rcases h with ⟨c3, h⟩ | ⟨c3, h⟩
        · exact go _ h (tkP_iff.mpr (by omega))
        · rcases h with ⟨c4, h⟩ | ⟨c4, h⟩
          · exact go _ h (tkP_iff.mpr (by omega))
          · exact no (fun z => by have := tkP_iff.mp z; omega) h
theorem sumX1 (hN : N ≤ 1000) (hg : ∀ i, g i ≤ 255) {F : Nat} (hF : N < F) {RS : PS → Int → PS → Prop} (hRS : ∀ (e : Nat) (s : PS) (r : Int) (t : PS) (q : Nat), d = e + 1 → RS s r t → PX g N K M e q s → RdR (sumD (tkq g N) (nxq g N) F e q) (PX g N K M e) r t) (h : M_X8_readsSum RS s r t) (hP : PX g N K M d q s) : RdR (sumD (tkq g N) (nxq g N) F d q) (PX g N K M d) r t := by
  obtain ⟨n, h⟩ := h
  unfold T_X8_readsSum_e at h
  obtain ⟨_, r1, s1, hm, hf, _, _, h⟩ := h
  have pt := partX hN hg hRS hm hP
  rw [sumD_eq]
  rcases h with ⟨c, hr, _⟩ | ⟨c, h⟩
  · rcases pt with ⟨z, _⟩ | ⟨_, z⟩
    · omega
    · exact RdR.none hr (by show (parD (tkq g N) (nxq g N) F d q).bind _ = _; rw [z]; rfl)
  · rcases pt with ⟨_, q2, z, p2⟩ | ⟨z, _⟩
    · have pg := parD_pg (F := F) (ngr hg) d _ _ hP.2.2.2.1 z
      have k := sumL hN hg hF hRS n 0 q2 0 0 s1 r t h p2 (by omega)
      show RdR ((parD (tkq g N) (nxq g N) F d q).bind _) _ _ _
      rw [z]
      exact k
    · omega
/-- sums, at every depth -/
theorem sumX (hN : N ≤ 1000) (hg : ∀ i, g i ≤ 255) {F : Nat} (hF : N < F) : ∀ (d q : Nat) (s : PS) (r : Int) (t : PS), M_X8_readsSum (prvS d) s r t → PX g N K M d q s → RdR (sumD (tkq g N) (nxq g N) F d q) (PX g N K M d) r t
  | 0, q, s, r, t, h, hP => sumX1 hN hg hF (fun e _ _ _ _ he => absurd he (by omega)) h hP
  | d + 1, q, s, r, t, h, hP => by
    refine sumX1 hN hg hF (fun e s r t q he hr hp => ?_) h hP
    obtain rfl : d = e := by omega
    have hr2 : M_X8_readsSumD d s r t := hr
    rw [sumD_prv] at hr2
    exact sumX hN hg hF d q s r t hr2 hp
end ReadX
