/-! the reference at a place -/
def MX (g : Nat → Nat) (N q : Nat) (s : PS) : Prop := TpM g N s ∧ q ≤ N ∧ s 0 8 = 0 ∧ SgM g N q s
/-- enough to look on -/
def MW (g : Nat → Nat) (N q : Nat) (s : PS) : Prop := TpM g N s ∧ q ≤ N ∧ s 0 8 = 0 ∧ s 0 5 = (nxq g N q : Int) ∧ ¬ tkq g N q = 256
def c8 (l : List Nat) : Nat := e8 l.reverse
theorem c8_inj {l m : List Nat} (h : LW l) (h2 : LW m) (e : c8 l = c8 m) : l = m := List.reverse_inj.mp (e8_inj (fun c hc => h.2 c (List.mem_reverse.mp hc)) (fun c hc => h2.2 c (List.mem_reverse.mp hc)) e)
theorem ownI_own : ∀ i : Fin 22, ownI (ownW[i.val]'(by have := i.isLt; show _ < 22; omega)) = i.val := by decide
section AtM
variable {g : Nat → Nat} {N q : Nat} {s t : PS} {r : Int} {K M : List (List Nat)} {ms : List Nat} {fm : List (Nat × Nat)}
theorem tk_wtl (hg : ∀ i, g i ≤ 255) (h : 258 ≤ tkq g N q) (h2 : ¬ tkq g N q = 259) : tkq g N q = wtl (ltq g N q) ∧ lnq g N q bL = rn bL g N (stq g N q) - stq g N q ∧ ltq g N q = lts g (stq g N q) (lnq g N q bL) := by
  have ne : ¬ N ≤ stq g N q := by
    intro z
    have := (tk_end_iff hg).mpr z
    omega
  have cl := (tk_cls hg ne (by omega)).mp h
  have hl : bL (g (stq g N q)) = true := by
    rcases cl with c | c
    · exact c
    · exfalso
      by_cases b : (stq g N q = q ∧ cwq g q = true) ∨ 5 < rn bD g N (stq g N q) - stq g N q
      · have := tk_numb (g := g) (N := N) (q := q) rfl ne c b
        omega
      · exact h2 (tk_num (g := g) (N := N) (q := q) rfl ne c (fun z => b (Or.inl z)) (fun z => b (Or.inr z))).1
  by_cases b : (stq g N q = q ∧ cwq g q = true) ∨ 8 < rn bL g N (stq g N q) - stq g N q
  · have := tk_wordb (g := g) (N := N) (q := q) rfl ne hl b
    omega
  · have w := tk_word (g := g) (N := N) (q := q) rfl ne hl (fun z => b (Or.inl z)) (fun z => b (Or.inr z))
    refine ⟨?_, rfl, rfl⟩
    rw [w.1, w.2.2]
theorem wtl_own {l : List Nat} {i : Nat} (hi : i < 22) : wtl l = 261 + i ↔ l = ownW[i]'(by show i < 22; exact hi) := by
  unfold wtl
  constructor
  · intro h
    split at h
    · rename_i c
      have e : ownI l = i := by omega
      have t := List.findIdx_getElem (w := (show ownW.findIdx (fun y => y == l) < ownW.length from c))
      have t2 := beq_iff_eq.mp t
      have e2 : ownW.findIdx (fun y => y == l) = i := e
      simp only [e2] at t2
      exact t2.symm
    · omega
  · intro h
    have e := ownI_own ⟨i, hi⟩
    rw [h]
    have e2 : ownI (ownW[i]'(by show i < 22; exact hi)) = i := e
    rw [e2, if_pos hi]
theorem MX.sg (h : MX g N q s) : SgM g N q s := h.2.2.2
/-- the word that stands there, in the reference's code -/
theorem MX.word (hg : ∀ i, g i ≤ 255) (h : MX g N q s) (h1 : s 0 3 = 1) : 258 ≤ tkq g N q ∧ ¬ tkq g N q = 259 ∧ s 0 7 = (c8 (ltq g N q) : Int) ∧ LW (ltq g N q) ∧ tkq g N q = wtl (ltq g N q) := by
  rcases h.sg.2.2.2 with ⟨_, k⟩ | ⟨k1, k2, _, k3⟩ | ⟨_, k, _⟩ | ⟨_, k, _⟩
  · omega
  · have w := tk_wtl hg k1 k2
    refine ⟨k1, k2, ?_, ltq_LW hg k1 k2, w.1⟩
    rw [k3, w8F_e8]
    rfl
  · omega
  · omega
theorem isWordM (hg : ∀ i, g i ≤ 255) {i : Nat} (hi : i < 22) {c : Int} (hc : c = ((c8 (ownW[i]'(by show i < 22; exact hi)) : Nat) : Int)) (h : M_X12_isWord s c r t) (hM : MX g N q s) : t = s ∧ ((r = 1 ∧ tkq g N q = 261 + i) ∨ (r = 0 ∧ ¬ tkq g N q = 261 + i)) := by
  unfold M_X12_isWord T_X12_isWord_e at h
  obtain ⟨_, ⟨c1, ⟨c2, hr, hs⟩ | ⟨c2, hr, hs⟩⟩ | ⟨c1, hr, hs⟩⟩ := h
  · obtain ⟨w1, w2, w3, w4, w5⟩ := hM.word hg c1
    refine ⟨hs, Or.inl ⟨hr, ?_⟩⟩
    rw [w5, wtl_own hi]
    rw [w3, hc] at c2
    exact c8_inj w4 (ownW_LW ⟨i, hi⟩) (Int.ofNat_inj.mp c2)
  · obtain ⟨w1, w2, w3, w4, w5⟩ := hM.word hg c1
    refine ⟨hs, Or.inr ⟨hr, ?_⟩⟩
    rw [w5, wtl_own hi]
    intro z
    apply c2
    rw [w3, hc, z]
  · refine ⟨hs, Or.inr ⟨hr, ?_⟩⟩
    rcases hM.sg.2.2.2 with ⟨k, _⟩ | ⟨_, _, k, _⟩ | ⟨k, _⟩ | ⟨k, _⟩ <;> omega
theorem isSignM {c : Nat} (hc : c < 256) (h : M_X12_isSign s (c : Int) r t) (hM : MX g N q s) : t = s ∧ ((r = 1 ∧ tkq g N q = c) ∨ (r = 0 ∧ ¬ tkq g N q = c)) := by
  unfold M_X12_isSign T_X12_isSign_e at h
  obtain ⟨_, _, ⟨c1, ⟨c2, hr, hs⟩ | ⟨c2, hr, hs⟩⟩ | ⟨c1, hr, hs⟩⟩ := h
  · refine ⟨hs, Or.inl ⟨hr, ?_⟩⟩
    rcases hM.sg.2.2.2 with ⟨_, k⟩ | ⟨_, _, k, _⟩ | ⟨_, k, _⟩ | ⟨_, _, k⟩ <;> omega
  · refine ⟨hs, Or.inr ⟨hr, ?_⟩⟩
    rcases hM.sg.2.2.2 with ⟨_, k⟩ | ⟨_, _, k, _⟩ | ⟨_, k, _⟩ | ⟨_, _, k⟩ <;> omega
  · refine ⟨hs, Or.inr ⟨hr, ?_⟩⟩
    rcases hM.sg.2.2.2 with ⟨k, _⟩ | ⟨k, k2, _⟩ | ⟨k, _⟩ | ⟨_, k, _⟩ <;> omega
/-- own words -/
theorem isOwnM (hg : ∀ i, g i ≤ 255) (h : M_X12_isOwn s (s 0 7) r t) (hM : MX g N q s) (h1 : s 0 3 = 1) : t = s ∧ ((r = 1 ∧ ¬ tkq g N q = 258) ∨ (r = 0 ∧ tkq g N q = 258)) := by
  obtain ⟨w1, w2, w3, w4, w5⟩ := hM.word hg h1
  have yes : ∀ i : Nat, (hi : i < 22) → s 0 7 = ((c8 (ownW[i]'(by show i < 22; exact hi)) : Nat) : Int) → ¬ tkq g N q = 258 := by
    intro i hi e
    rw [w3] at e
    have e2 := c8_inj w4 (ownW_LW ⟨i, hi⟩) (Int.ofNat_inj.mp e)
    have e3 := (wtl_own hi).mpr e2
    omega
  have no : (∀ i : Nat, (hi : i < 22) → ¬ s 0 7 = ((c8 (ownW[i]'(by show i < 22; exact hi)) : Nat) : Int)) → tkq g N q = 258 := by
    intro hn
    rw [w5]
    unfold wtl
    rw [if_neg]
    intro c
    have t := List.findIdx_getElem (w := (show ownW.findIdx (fun y => y == ltq g N q) < ownW.length from c))
    have t2 := beq_iff_eq.mp t
    refine hn (ownI (ltq g N q)) c ?_
    rw [w3]
    exact congrArg (fun l => ((c8 l : Nat) : Int)) t2.symm
  unfold M_X12_isOwn T_X12_isOwn_e at h
  obtain ⟨_, h⟩ := h
  rcases h with ⟨c, hr, hs⟩ | ⟨n0, h⟩
  · exact ⟨hs, Or.inl ⟨hr, yes 0 (by decide) (c.trans (by decide))⟩⟩
  rcases h with ⟨c, hr, hs⟩ | ⟨n1, h⟩
  · exact ⟨hs, Or.inl ⟨hr, yes 1 (by decide) (c.trans (by decide))⟩⟩
  rcases h with ⟨c, hr, hs⟩ | ⟨n2, h⟩
  · exact ⟨hs, Or.inl ⟨hr, yes 2 (by decide) (c.trans (by decide))⟩⟩
  rcases h with ⟨c, hr, hs⟩ | ⟨n3, h⟩
  · exact ⟨hs, Or.inl ⟨hr, yes 3 (by decide) (c.trans (by decide))⟩⟩
  rcases h with ⟨c, hr, hs⟩ | ⟨n4, h⟩
  · exact ⟨hs, Or.inl ⟨hr, yes 4 (by decide) (c.trans (by decide))⟩⟩
  rcases h with ⟨c, hr, hs⟩ | ⟨n5, h⟩
  · exact ⟨hs, Or.inl ⟨hr, yes 5 (by decide) (c.trans (by decide))⟩⟩
  rcases h with ⟨c, hr, hs⟩ | ⟨n6, h⟩
  · exact ⟨hs, Or.inl ⟨hr, yes 6 (by decide) (c.trans (by decide))⟩⟩
  rcases h with ⟨c, hr, hs⟩ | ⟨n7, h⟩
  · exact ⟨hs, Or.inl ⟨hr, yes 7 (by decide) (c.trans (by decide))⟩⟩
  rcases h with ⟨c, hr, hs⟩ | ⟨n8, h⟩
  · exact ⟨hs, Or.inl ⟨hr, yes 8 (by decide) (c.trans (by decide))⟩⟩
  rcases h with ⟨c, hr, hs⟩ | ⟨n9, h⟩
  · exact ⟨hs, Or.inl ⟨hr, yes 9 (by decide) (c.trans (by decide))⟩⟩
  rcases h with ⟨c, hr, hs⟩ | ⟨n10, h⟩
  · exact ⟨hs, Or.inl ⟨hr, yes 10 (by decide) (c.trans (by decide))⟩⟩
  rcases h with ⟨c, hr, hs⟩ | ⟨n11, h⟩
  · exact ⟨hs, Or.inl ⟨hr, yes 11 (by decide) (c.trans (by decide))⟩⟩
  rcases h with ⟨c, hr, hs⟩ | ⟨n12, h⟩
  · exact ⟨hs, Or.inl ⟨hr, yes 12 (by decide) (c.trans (by decide))⟩⟩
  rcases h with ⟨c, hr, hs⟩ | ⟨n13, h⟩
  · exact ⟨hs, Or.inl ⟨hr, yes 13 (by decide) (c.trans (by decide))⟩⟩
  rcases h with ⟨c, hr, hs⟩ | ⟨n14, h⟩
  · exact ⟨hs, Or.inl ⟨hr, yes 14 (by decide) (c.trans (by decide))⟩⟩
  rcases h with ⟨c, hr, hs⟩ | ⟨n15, h⟩
  · exact ⟨hs, Or.inl ⟨hr, yes 15 (by decide) (c.trans (by decide))⟩⟩
  rcases h with ⟨c, hr, hs⟩ | ⟨n16, h⟩
  · exact ⟨hs, Or.inl ⟨hr, yes 16 (by decide) (c.trans (by decide))⟩⟩
  rcases h with ⟨c, hr, hs⟩ | ⟨n17, h⟩
  · exact ⟨hs, Or.inl ⟨hr, yes 17 (by decide) (c.trans (by decide))⟩⟩
  rcases h with ⟨c, hr, hs⟩ | ⟨n18, h⟩
  · exact ⟨hs, Or.inl ⟨hr, yes 18 (by decide) (c.trans (by decide))⟩⟩
  rcases h with ⟨c, hr, hs⟩ | ⟨n19, h⟩
  · exact ⟨hs, Or.inl ⟨hr, yes 19 (by decide) (c.trans (by decide))⟩⟩
  rcases h with ⟨c, hr, hs⟩ | ⟨n20, h⟩
  · exact ⟨hs, Or.inl ⟨hr, yes 20 (by decide) (c.trans (by decide))⟩⟩
  rcases h with ⟨c, hr, hs⟩ | ⟨n21, h⟩
  · exact ⟨hs, Or.inl ⟨hr, yes 21 (by decide) (c.trans (by decide))⟩⟩
  obtain ⟨hr, hs⟩ := h
  refine ⟨hs, Or.inr ⟨hr, no (fun i hi e => ?_)⟩⟩
  have al : ∀ j : Fin 22, ((c8 (ownW[j.val]'(by have := j.isLt; show _ < 22; omega)) : Nat) : Int) ∈ ([1802071652, 512970880104, 482955846501, 24948, 26995, 474148660594, 6713202, 465625113971, 28518, 444149953651, 1702258030, 28530, 6385252, 7237492, 6385273, 6384748, 2003399528, 6383461, 1634166131, 126870791090028, 448546567013, 131294791492979] : List Int) := by decide
  have k := al ⟨i, hi⟩
  rw [show ((c8 (ownW[(⟨i, hi⟩ : Fin 22).val]'(by show i < 22; exact hi)) : Nat) : Int) = s 0 7 from e.symm] at k
  simp only [List.mem_cons, List.not_mem_nil, or_false] at k
  rcases k with k | k | k | k | k | k | k | k | k | k | k | k | k | k | k | k | k | k | k | k | k | k
  · exact n0 k
  · exact n1 k
  · exact n2 k
  · exact n3 k
  · exact n4 k
  · exact n5 k
  · exact n6 k
  · exact n7 k
  · exact n8 k
  · exact n9 k
  · exact n10 k
  · exact n11 k
  · exact n12 k
  · exact n13 k
  · exact n14 k
  · exact n15 k
  · exact n16 k
  · exact n17 k
  · exact n18 k
  · exact n19 k
  · exact n20 k
  · exact n21 k
theorem MX.cg (h : MX g N q s) (e1 : t 1 = s 1) (e0 : ∀ j, 2 ≤ j → j ≤ 8 → t 0 j = s 0 j) : MX g N q t := by
  obtain ⟨hT, hq, h8, hS⟩ := h
  refine ⟨hT.cg e1 (e0 2 (by decide) (by decide)), hq, (e0 8 (by decide) (by decide)).trans h8, ?_⟩
  unfold SgM
  rw [e0 4 (by decide) (by decide), e0 5 (by decide) (by decide), e0 3 (by decide) (by decide), e0 7 (by decide) (by decide), e0 6 (by decide) (by decide)]
  exact hS
theorem MX.mw (h : MX g N q s) (h0 : ¬ tkq g N q = 256) : MW g N q s := ⟨h.1, h.2.1, h.2.2.1, h.sg.2.1, h0⟩
theorem MW.cg (h : MW g N q s) (e1 : t 1 = s 1) (e2 : t 0 2 = s 0 2) (e5' : t 0 5 = s 0 5) (e8' : t 0 8 = s 0 8) : MW g N q t := ⟨h.1.cg e1 e2, h.2.1, e8'.trans h.2.2.1, e5'.trans h.2.2.2.1, h.2.2.2.2⟩
/-- a fault, or the next place -/
def NxM (g : Nat → Nat) (N q : Nat) (t : PS) : Prop := (¬ t 0 8 = 0 ∧ tkq g N q = 257) ∨ MX g N q t
theorem lookX (hN : N ≤ 1000) (hg : ∀ i, g i ≤ 255) (hM : MW g N q s) (h : M_X12_looks s r t) (hf : Fr intsM [0] [(0, 3), (0, 4), (0, 5), (0, 6), (0, 7), (0, 8), (0, 9)] s t) : NxM g N (nxq g N q) t := by
  obtain ⟨hT, hq, h8, h5, h0⟩ := hM
  have gt := ngr hg q hq h0
  have k := looksM (q := nxq g N q) hN hg h hT h5 gt.2 h8
  rcases k with ⟨k1, k2⟩ | ⟨k1, k2⟩
  · exact Or.inl ⟨k2, k1⟩
  · exact Or.inr ⟨hT.cg (hf.1 1 (by decide)) (hf.f (by decide) (by decide)), gt.2, k1, k2⟩
end AtM
