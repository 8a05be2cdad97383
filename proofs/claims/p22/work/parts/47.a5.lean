/-! the class's reader: facts, kinds, tests and whiches -/
section ReadX2
variable {g : Nat → Nat} {N q d : Nat} {K M : List (List Nat)} {s t u : PS} {r : Int}
theorem ltq_LW (hg : ∀ i, g i ≤ 255) (h : 258 ≤ tkq g N q) (h2 : ¬ tkq g N q = 259) : LW (ltq g N q) := by
  have ne : ¬ N ≤ stq g N q := by
    intro z
    have := (tk_end_iff hg).mpr z
    omega
  have cl := (tk_cls hg ne (by omega)).mp h
  have hl : bL (g (stq g N q)) = true := by
    rcases cl with c | c
    · exact c
    · exfalso
      by_cases b : (stq g N q = q ∧ cwq g q = true) ∨ 5 < rn bD g N (stq g N q) - stq g N q
      · have := tk_numb (g := g) (N := N) (q := q) rfl ne c b
        omega
      · exact h2 (tk_num (g := g) (N := N) (q := q) rfl ne c (fun z => b (Or.inl z)) (fun z => b (Or.inr z))).1
  by_cases b : (stq g N q = q ∧ cwq g q = true) ∨ 8 < rn bL g N (stq g N q) - stq g N q
  · have := tk_wordb (g := g) (N := N) (q := q) rfl ne hl b
    omega
  · have w := tk_word (g := g) (N := N) (q := q) rfl ne hl (fun z => b (Or.inl z)) (fun z => b (Or.inr z))
    rw [w.2.2]
    exact lts_run (N := N) (by omega)
/-- the kinds' names -/
theorem kindL {w : Int} : ∀ (n i : Nat) (s : PS) (r : Int) (t : PS), It_X1_kindOf_at16 n w (i : Int) s r t → BkX K M s → (∀ j : Nat, j < i → ¬ s 17 j = w) → t = s ∧ ((r = -1 ∧ ∀ j : Nat, j < K.length → ¬ s 17 j = w) ∨ ∃ j : Nat, j < K.length ∧ r = (j : Int) ∧ s 17 j = w)
  | 0, i, s, r, t, h, _, _ => False.elim h
  | n + 1, i, s, r, t, h, hB, hno => by
    have h := ul_X1_kindOf_at16_2 h
    unfold T_X1_kindOf_at16_2 at h
    obtain ⟨_, _, h⟩ := h
    rw [hB.1, Int.toNat_natCast] at h
    rcases h with ⟨c1, hr, hs⟩ | ⟨c1, ⟨c2, hr, hs⟩ | ⟨c2, h⟩⟩
    · exact ⟨hs, Or.inl ⟨hr, fun j hj => hno j (by omega)⟩⟩
    · exact ⟨hs, Or.inr ⟨i, by omega, hr, c2⟩⟩
    · refine kindL n (i + 1) s r t h hB (fun j hj => ?_)
      by_cases e : j = i
      · rw [e]
        exact c2
      · exact hno j (by omega)
theorem markL {w : Int} : ∀ (n i : Nat) (s : PS) (r : Int) (t : PS), It_X1_markOf_at16 n w (i : Int) s r t → BkX K M s → (∀ j : Nat, j < i → ¬ s 21 j = w) → t = s ∧ ((r = -1 ∧ ∀ j : Nat, j < M.length → ¬ s 21 j = w) ∨ ∃ j : Nat, j < M.length ∧ r = (j : Int) ∧ s 21 j = w)
  | 0, i, s, r, t, h, _, _ => False.elim h
  | n + 1, i, s, r, t, h, hB, hno => by
    have h := ul_X1_markOf_at16_2 h
    unfold T_X1_markOf_at16_2 at h
    obtain ⟨_, _, h⟩ := h
    rw [hB.2.1, Int.toNat_natCast] at h
    rcases h with ⟨c1, hr, hs⟩ | ⟨c1, ⟨c2, hr, hs⟩ | ⟨c2, h⟩⟩
    · exact ⟨hs, Or.inl ⟨hr, fun j hj => hno j (by omega)⟩⟩
    · exact ⟨hs, Or.inr ⟨i, by omega, hr, c2⟩⟩
    · refine markL n (i + 1) s r t h hB (fun j hj => ?_)
      by_cases e : j = i
      · rw [e]
        exact c2
      · exact hno j (by omega)
theorem kindX2 {l : List Nat} (hl : LW l) (h : M_X1_kindOf_at16 s ((e5 l : Nat) : Int) r t) (hB : BkX K M s) : t = s ∧ ((r = -1 ∧ ¬ l ∈ K) ∨ (0 ≤ r ∧ l ∈ K)) := by
  obtain ⟨n, h⟩ := h
  unfold T_X1_kindOf_at16_e at h
  obtain ⟨_, h⟩ := h
  obtain ⟨e, k⟩ := kindL n 0 s r t h hB (fun j hj => absurd hj (by omega))
  refine ⟨e, ?_⟩
  rcases k with ⟨k1, k2⟩ | ⟨j, k1, k2, k3⟩
  · refine Or.inl ⟨k1, fun z => ?_⟩
    obtain ⟨j, hj, e2⟩ := List.getElem_of_mem z
    refine k2 j hj ?_
    rw [hB.2.2.1 j hj, e2]
  · refine Or.inr ⟨by omega, ?_⟩
    rw [hB.2.2.1 j k1] at k3
    have e2 := e5_inj (hB.2.2.2.2.1 _ (List.getElem_mem k1)) hl (Int.ofNat_inj.mp k3)
    exact e2 ▸ List.getElem_mem k1
theorem markX2 {l : List Nat} (hl : LW l) (h : M_X1_markOf_at16 s ((e5 l : Nat) : Int) r t) (hB : BkX K M s) : t = s ∧ ((r = -1 ∧ ¬ l ∈ M) ∨ ∃ j : Nat, r = (j : Int) ∧ j < M.length ∧ M[j]? = some l) := by
  obtain ⟨n, h⟩ := h
  unfold T_X1_markOf_at16_e at h
  obtain ⟨_, h⟩ := h
  obtain ⟨e, k⟩ := markL n 0 s r t h hB (fun j hj => absurd hj (by omega))
  refine ⟨e, ?_⟩
  rcases k with ⟨k1, k2⟩ | ⟨j, k1, k2, k3⟩
  · refine Or.inl ⟨k1, fun z => ?_⟩
    obtain ⟨j, hj, e2⟩ := List.getElem_of_mem z
    refine k2 j hj ?_
    rw [hB.2.2.2.1 j hj, e2]
  · refine Or.inr ⟨j, k2, k1, ?_⟩
    rw [hB.2.2.2.1 j k1] at k3
    have e2 := e5_inj (hB.2.2.2.2.2 _ (List.getElem_mem k1)) hl (Int.ofNat_inj.mp k3)
    rw [List.getElem?_eq_getElem k1, e2]
theorem mem_of_get {l : List Nat} {j : Nat} (h : M[j]? = some l) : l ∈ M := List.mem_of_getElem? h
/-- a name in a which -/
theorem kindsX (hN : N ≤ 1000) (hg : ∀ i, g i ≤ 255) (h : M_X8_readsKinds s r t) (hP : PX g N K M d q s) : RdR (atW (tkq g N) (nxq g N) (knK (ltq g N) K M) d q) (PX g N K M d) r t := by
  unfold M_X8_readsKinds T_X8_readsKinds_e at h
  obtain ⟨_, h⟩ := h
  have tk := hP.tk
  have un : atW (tkq g N) (nxq g N) (knK (ltq g N) K M) d q = if tkq g N q = 275 then some (nxq g N q) else if tkq g N q = 258 ∧ knK (ltq g N) K M q = true then some (nxq g N q) else none := rfl
  rcases h with ⟨c1, s1, hm, hf, _, s2, hm2, hf2, _, hr, hs⟩ | ⟨c1, h⟩
  · refine Or.inl ⟨hr, nxq g N q, by rw [un, if_pos (by omega)], ?_⟩
    rw [hs]
    exact (codeX hm hf hP).step hN hg hm2 hf2 (by omega) (by omega)
  · rcases h with ⟨c2, r1, s1, hm, hf, _, _, r2, s2, hm2, hf2, _, _, h⟩ | ⟨c2, r1, s1, hm, hf, _, _, hr, _⟩
    · have e58 : tkq g N q = 258 := by omega
      have lw := ltq_LW hg (N := N) (q := q) (by omega) (by omega)
      have e6 := (hP.2.2.2.2.2.2 (by omega)).2.1 e58
      rw [e6] at hm hm2
      obtain ⟨x1, k1⟩ := kindX2 lw hm hP.2.2.1
      rw [x1] at hm2 hf2
      obtain ⟨x2, k2⟩ := markX2 lw hm2 hP.2.2.1
      rw [x2] at h
      rcases h with ⟨c3, ⟨c4, r3, s3, hm3, hf3, _, _, hr, _⟩ | ⟨c4, _, _, s3, hm3, hf3, _, s4, hm4, hf4, _, hr, hs⟩⟩ | ⟨c3, _, _, s3, hm3, hf3, _, s4, hm4, hf4, _, hr, hs⟩
      · refine RdR.none hr ?_
        rw [un, if_neg (by omega), if_neg]
        intro z
        have z2 := z.2
        unfold knK at z2
        rw [Bool.or_eq_true, decide_eq_true_eq, decide_eq_true_eq] at z2
        rcases z2 with z2 | z2
        · rcases k1 with k | k
          · exact k.2 z2
          · omega
        · rcases k2 with k | ⟨j, k, _⟩
          · exact k.2 z2
          · omega
      · refine Or.inl ⟨hr, nxq g N q, ?_, ?_⟩
        · rw [un, if_neg (by omega), if_pos]
          refine ⟨e58, ?_⟩
          unfold knK
          rw [Bool.or_eq_true, decide_eq_true_eq, decide_eq_true_eq]
          rcases k2 with k | ⟨j, _, _, k⟩
          · omega
          · exact Or.inr (mem_of_get k)
        · rw [hs]
          exact (codeX hm3 hf3 hP).step hN hg hm4 hf4 (by omega) (by omega)
      · refine Or.inl ⟨hr, nxq g N q, ?_, ?_⟩
        · rw [un, if_neg (by omega), if_pos]
          refine ⟨e58, ?_⟩
          unfold knK
          rw [Bool.or_eq_true, decide_eq_true_eq, decide_eq_true_eq]
          rcases k1 with k | k
          · omega
          · exact Or.inl k.2
        · rw [hs]
          exact (codeX hm3 hf3 hP).step hN hg hm4 hf4 (by omega) (by omega)
    · refine RdR.none hr ?_
      rw [un, if_neg (by omega), if_neg (fun z => by omega)]
/-- all, or a wish -/
theorem factX (hN : N ≤ 1000) (hg : ∀ i, g i ≤ 255) (h : M_X8_readsFact s r t) (hP : PX g N K M d q s) (hk : tkq g N q = 276 ∨ tkq g N q = 277) : RdR (if tkq g N q = 276 then some (nxq g N q) else if tkq g N (nxq g N q) = 258 then some (nxq g N (nxq g N q)) else none) (PX g N K M d) r t := by
  unfold M_X8_readsFact T_X8_readsFact_e at h
  obtain ⟨_, h⟩ := h
  have tk := hP.tk
  rcases h with ⟨c1, s1, hm, hf, _, s2, hm2, hf2, _, hr, hs⟩ | ⟨c1, s1, hm, hf, _, h⟩
  · refine Or.inl ⟨hr, nxq g N q, by rw [if_pos (by omega)], ?_⟩
    rw [hs]
    exact (codeX hm hf hP).step hN hg hm2 hf2 (by omega) (by omega)
  · have p1 := hP.step hN hg hm hf (by omega) (by omega)
    have tk1 := p1.tk
    rcases h with ⟨c2, s2, hm2, hf2, _, s3, hm3, hf3, _, hr, hs⟩ | ⟨c2, r2, s2, hm2, hf2, _, _, hr, _⟩
    · refine Or.inl ⟨hr, _, by rw [if_neg (by omega), if_pos (by omega)], ?_⟩
      rw [hs]
      have p2 : PX g N K M d (nxq g N q) s2 := p1.fr hf2 (by decide)
      exact p2.step hN hg hm3 hf3 (by omega) (by omega)
    · exact RdR.none hr (by rw [if_neg (by omega), if_neg (by omega)])
/-- a not more or less -/
theorem notX {x v rr : Int} {w ss : PS} (h : (x = 0 ∧ (rr = v ∧ ss = w)) ∨ (¬ (x = 0) ∧ ∃ w2 : PS, (M_X1_addCode_at16 w 7 0 0 w2) ∧ ((Fr intsX [16, 29] [(16, 17)] w w2) ∧ ((TyX w2) ∧ (rr = v ∧ ss = w2))))) : rr = v ∧ ∀ q, PX g N K M d q w → PX g N K M d q ss := by
  rcases h with ⟨_, hr, hs⟩ | ⟨_, w2, hm, hf, _, hr, hs⟩
  · exact ⟨hr, fun q p => by rw [hs]; exact p⟩
  · exact ⟨hr, fun q p => by rw [hs]; exact codeX hm hf p⟩
theorem RdR.not {S : Option Nat} {x v rr : Int} {w ss : PS} (k : RdR S (PX g N K M d) v w) (h : (x = 0 ∧ (rr = v ∧ ss = w)) ∨ (¬ (x = 0) ∧ ∃ w2 : PS, (M_X1_addCode_at16 w 7 0 0 w2) ∧ ((Fr intsX [16, 29] [(16, 17)] w w2) ∧ ((TyX w2) ∧ (rr = v ∧ ss = w2))))) : RdR S (PX g N K M d) rr ss := by
  obtain ⟨h1, h2⟩ := notX (g := g) (N := N) (K := K) (M := M) (d := d) h
  rcases k with ⟨a, q, b, c⟩ | ⟨a, b⟩
  · exact Or.inl ⟨h1.trans a, q, b, h2 q c⟩
  · exact Or.inr ⟨h1.trans a, b⟩
/-- what the smallest parts are -/
def AX (g : Nat → Nat) (N F : Nat) (K M : List (List Nat)) (p : Int) : Nat → Nat → Option Nat := if p = 0 then atT (tkq g N) (nxq g N) F else atW (tkq g N) (nxq g N) (knK (ltq g N) K M)
theorem AX_pg (hg : ∀ i, g i ≤ 255) {F : Nat} {p : Int} (d : Nat) : PGr N (AX g N F K M p d) := by
  unfold AX
  split
  · exact atT_pg (ngr hg) d
  · exact atW_pg (ngr hg) d
theorem cmpX {a : Int} (h : M_X8_comparison s a r t) : t = s ∧ ((r = -1 ∧ ¬ (a = 60 ∨ a = 62 ∨ a = 61)) ∨ (¬ r = -1 ∧ (a = 60 ∨ a = 62 ∨ a = 61))) := by
  unfold M_X8_comparison T_X8_comparison_e at h
  obtain ⟨_, ⟨c, hr, hs⟩ | ⟨c, ⟨c2, hr, hs⟩ | ⟨c2, ⟨c3, hr, hs⟩ | ⟨c3, hr, hs⟩⟩⟩⟩ := h
  · exact ⟨hs, Or.inr ⟨by omega, by omega⟩⟩
  · exact ⟨hs, Or.inr ⟨by omega, by omega⟩⟩
  · exact ⟨hs, Or.inr ⟨by omega, by omega⟩⟩
  · exact ⟨hs, Or.inl ⟨by omega, by omega⟩⟩
def SumH (g : Nat → Nat) (N F : Nat) (K M : List (List Nat)) (d : Nat) (RU : PS → Int → PS → Prop) : Prop := ∀ (q : Nat) (s : PS) (r : Int) (t : PS), RU s r t → PX g N K M d q s → RdR (sumD (tkq g N) (nxq g N) F d q) (PX g N K M d) r t
def EitH (g : Nat → Nat) (N F : Nat) (K M : List (List Nat)) (d : Nat) (RE : PS → Int → Int → PS → Prop) : Prop := ∀ (e q : Nat) (s : PS) (p r : Int) (t : PS), d = e + 1 → RE s p r t → PX g N K M e q s → RdR (eitD (tkq g N) (nxq g N) F (AX g N F K M p) e q) (PX g N K M e) r t
theorem sngL (hN : N ≤ 1000) (hg : ∀ i, g i ≤ 255) {F : Nat} (hF : N < F) {RU : PS → Int → PS → Prop} {RE : PS → Int → Int → PS → Prop} (hRU : SumH g N F K M d RU) (hRE : EitH g N F K M d RE) : ∀ (n i q : Nat) (p x : Int) (s : PS) (r : Int) (t : PS), It_X8_readsSingle RU RE n p x (i : Int) s r t → PX g N K M d q s → i ≤ q → RdR (sngD (tkq g N) (nxq g N) F (AX g N F K M p) d q) (PX g N K M d) r t
  | 0, i, q, p, x, s, r, t, h, _, _ => False.elim h
  | n + 1, i, q, p, x, s, r, t, h, hP, hi => by
    have h := ul_X8_readsSingle_4 h
    unfold T_X8_readsSingle_4 at h
    obtain ⟨_, _, _, _, h⟩ := h
    have tk := hP.tk
    have hq := hP.2.2.2.1
    rcases h with ⟨c1, _⟩ | ⟨c1, h⟩
    · omega
    · rcases h with ⟨c2, h⟩ | ⟨c2, h⟩
      · have e74 : tkq g N q = 274 := by omega
        have gt := ngr hg q hq (by omega)
        rw [sngD_go _ d (ngr hg) hF hq e74]
        rcases h with ⟨_, s1, hm, hf, _, h⟩ | ⟨_, s1, hm, hf, _, h⟩
        · exact sngL hN hg hF hRU hRE n (i + 1) _ p _ s1 r t h (hP.step hN hg hm hf (by omega) (by omega)) (by omega)
        · exact sngL hN hg hF hRU hRE n (i + 1) _ p _ s1 r t h (hP.step hN hg hm hf (by omega) (by omega)) (by omega)
      · have n74 : ¬ tkq g N q = 274 := by omega
        rcases h with ⟨c3, r1, s1, hm, hf, _, _, h⟩ | ⟨c3, h⟩
        · have e91 : tkq g N q = 91 := by omega
          rcases openX hN hg hm hP (by omega) (by omega) with ⟨o1, e, rfl, p1⟩ | ⟨o1, o2⟩
          · rcases h with ⟨z, _⟩ | ⟨_, r2, s2, hm2, hf2, _, _, h⟩
            · omega
            · have sm := hRE e _ s1 p r2 s2 rfl hm2 p1
              rcases h with ⟨c4, s3, e3, h⟩ | ⟨c4, r3, s3, hm3, hf3, _, _, h⟩
              · obtain ⟨hr, _⟩ := notX (g := g) (N := N) (K := K) (M := M) (d := e + 1) h
                rcases sm with ⟨z, _⟩ | ⟨_, z⟩
                · omega
                · exact RdR.none hr (by rw [sngD_b _ _ e91, z]; rfl)
              · rcases sm with ⟨_, q2, z, p2⟩ | ⟨z, _⟩
                · have ps := passX (c := 93) hN hg (by decide) (by decide) hm3 p2
                  rcases h with ⟨c5, s4, e4, h⟩ | ⟨c5, s4, e4, h⟩
                  · obtain ⟨hr, _⟩ := notX (g := g) (N := N) (K := K) (M := M) (d := e + 1) h
                    rcases ps with ⟨y, _⟩ | ⟨_, y⟩
                    · omega
                    · exact RdR.none hr (by rw [sngD_b _ _ e91, z]; exact y)
                  · obtain ⟨hr, ht⟩ := notX (g := g) (N := N) (K := K) (M := M) (d := e + 1) h
                    rcases ps with ⟨_, q3, y, p3⟩ | ⟨y, _⟩
                    · refine Or.inl ⟨hr, q3, by rw [sngD_b _ _ e91, z]; exact y, ht q3 ?_⟩
                      rw [e4]
                      have a1 := p1.2.2.2.2.1
                      exact p3.opn (by rw [a1.1, wi_id (by omega) (by omega)]; omega) hP.2.2.2.2.1.2
                    · omega
                · omega
          · rcases h with ⟨_, s3, e3, h⟩ | ⟨z, _⟩
            · obtain ⟨hr, _⟩ := notX (g := g) (N := N) (K := K) (M := M) (d := d) h
              exact RdR.none hr (by rw [o2, sngD_0 _ e91])
            · omega
        · have n91 : ¬ tkq g N q = 91 := by omega
          rw [sngD_no _ d n74 n91]
          rcases h with ⟨c4, h⟩ | ⟨c4, r1, s1, hm, hf, _, _, h⟩
          · have ea : AX g N F K M p d q = if tkq g N q = 276 then some (nxq g N q) else if tkq g N q = 277 then (if tkq g N (nxq g N q) = 258 then some (nxq g N (nxq g N q)) else none) else (sumD (tkq g N) (nxq g N) F d q).bind (cmK (tkq g N) (nxq g N) F d) := by
              unfold AX
              rw [if_pos c4]
              rfl
            rw [ea]
            rcases h with ⟨c5, r1, s1, hm, hf, _, _, h⟩ | ⟨c5, h⟩
            · have e76 : tkq g N q = 276 := by omega
              have k := factX hN hg hm hP (Or.inl e76)
              rw [if_pos e76] at k ⊢
              exact k.not h
            · rcases h with ⟨c6, r1, s1, hm, hf, _, _, h⟩ | ⟨c6, h⟩
              · have e77 : tkq g N q = 277 := by omega
                have k := factX hN hg hm hP (Or.inr e77)
                rw [if_neg (by omega)] at k ⊢
                rw [if_pos e77]
                exact k.not h
              · rw [if_neg (by omega), if_neg (by omega)]
                obtain ⟨r1, s1, hm, hf, _, _, r2, s2, hm2, hf2, _, _, h⟩ := h
                have k1 := hRU q s r1 s1 hm hP
                obtain ⟨x2, k2⟩ := cmpX hm2
                rcases h with ⟨c7, s3, hm3, hf3, _, h⟩ | ⟨c7, r3, s3, hm3, hf3, _, _, h⟩
                · obtain ⟨hr, _⟩ := notX (g := g) (N := N) (K := K) (M := M) (d := d) h
                  rcases k1 with ⟨z, _⟩ | ⟨_, z⟩
                  · omega
                  · exact RdR.none hr (by rw [z]; rfl)
                · rcases k1 with ⟨_, q1, z, p1⟩ | ⟨z, _⟩
                  · have tk1 := p1.tk
                    rw [z]
                    show RdR (cmK (tkq g N) (nxq g N) F d q1) _ _ _
                    have uc : cmK (tkq g N) (nxq g N) F d q1 = if tkq g N q1 = 60 ∨ tkq g N q1 = 62 ∨ tkq g N q1 = 61 then sumD (tkq g N) (nxq g N) F d (nxq g N q1) else none := rfl
                    rw [uc]
                    unfold M_X8_passesComparison T_X8_passesComparison_e at hm3
                    obtain ⟨_, _, hm3⟩ := hm3
                    rcases hm3 with ⟨d1, r9, s9, _, _, _, _, hr3, _⟩ | ⟨d1, s9, hm9, hf9, _, hr3, hs3⟩
                    · rcases h with ⟨c8, s4, hm4, hf4, _, h⟩ | ⟨c8, _⟩
                      · obtain ⟨hr, _⟩ := notX (g := g) (N := N) (K := K) (M := M) (d := d) h
                        refine RdR.none hr ?_
                        rw [if_neg]
                        rcases k2 with k | k <;> omega
                      · omega
                    · rw [if_pos (by rcases k2 with k | k <;> omega)]
                      rcases h with ⟨c8, _⟩ | ⟨c8, r4, s4, hm4, hf4, _, _, h⟩
                      · omega
                      · rw [x2] at hm9 hf9
                        have p2 := p1.step hN hg hm9 hf9 (by rcases k2 with k | k <;> omega) (by rcases k2 with k | k <;> omega)
                        rw [← hs3] at p2
                        have k4 := hRU _ s3 r4 s4 hm4 p2
                        rcases h with ⟨c9, s5, hm5, hf5, _, h⟩ | ⟨c9, s5, hm5, hf5, _, h⟩
                        · obtain ⟨hr, _⟩ := notX (g := g) (N := N) (K := K) (M := M) (d := d) h
                          rcases k4 with ⟨y, _⟩ | ⟨_, y⟩
                          · omega
                          · exact RdR.none hr y
                        · obtain ⟨hr, ht⟩ := notX (g := g) (N := N) (K := K) (M := M) (d := d) h
                          rcases k4 with ⟨_, q4, y, p4⟩ | ⟨y, _⟩
                          · exact Or.inl ⟨hr, q4, y, ht q4 (codeX hm5 hf5 p4)⟩
                          · omega
                  · omega
          · have ea : AX g N F K M p d q = atW (tkq g N) (nxq g N) (knK (ltq g N) K M) d q := by
              unfold AX
              rw [if_neg c4]
            rw [ea]
            exact (kindsX hN hg hm hP).not h
theorem sngX (hN : N ≤ 1000) (hg : ∀ i, g i ≤ 255) {F : Nat} (hF : N < F) {RU : PS → Int → PS → Prop} {RE : PS → Int → Int → PS → Prop} (hRU : SumH g N F K M d RU) (hRE : EitH g N F K M d RE) {p : Int} (h : M_X8_readsSingle RU RE s p r t) (hP : PX g N K M d q s) : RdR (sngD (tkq g N) (nxq g N) F (AX g N F K M p) d q) (PX g N K M d) r t := by
  obtain ⟨n, h⟩ := h
  unfold T_X8_readsSingle_e at h
  obtain ⟨_, _, h⟩ := h
  exact sngL hN hg hF hRU hRE n 0 q p 0 s r t h hP (by omega)
theorem botL (hN : N ≤ 1000) (hg : ∀ i, g i ≤ 255) {F : Nat} (hF : N < F) {RU : PS → Int → PS → Prop} {RE : PS → Int → Int → PS → Prop} (hRU : SumH g N F K M d RU) (hRE : EitH g N F K M d RE) {p : Int} : ∀ (n i q : Nat) (s : PS) (r : Int) (t : PS), It_X8_readsBoth RU RE n p (i : Int) s r t → PX g N K M d q s → i + 1 ≤ q → RdR (lpF (tkq g N) (nxq g N) tkA (sngD (tkq g N) (nxq g N) F (AX g N F K M p) d) F q) (PX g N K M d) r t
  | 0, i, q, s, r, t, h, _, _ => False.elim h
  | n + 1, i, q, s, r, t, h, hP, hi => by
    have h := ul_X8_readsBoth_12 h
    unfold T_X8_readsBoth_12 at h
    obtain ⟨_, _, _, h⟩ := h
    have tk := hP.tk
    have hq := hP.2.2.2.1
    have pgS : PGr N (sngD (tkq g N) (nxq g N) F (AX g N F K M p) d) := sngD_pg (ngr hg) (fun d => AX_pg hg d) d
    rcases h with ⟨c1, _⟩ | ⟨c1, ⟨c2, s1, hm, hf, _, r2, s2, hm2, hf2, _, _, h⟩ | ⟨c2, hr, hs⟩⟩
    · omega
    · have a : tkA (tkq g N q) = true := by
        unfold tkA
        rw [Nat.beq_eq]
        omega
      have gt := ngr hg q hq (by omega)
      have p1 := hP.step hN hg hm hf (by omega) (by omega)
      have k := sngX hN hg hF hRU hRE hm2 p1
      rw [lpF_go (ok := tkA) (ngr hg) (by decide) pgS hF hq a]
      rcases h with ⟨c3, hr, _⟩ | ⟨c3, s3, hm3, hf3, _, h⟩
      · rcases k with ⟨z, _⟩ | ⟨_, z⟩
        · omega
        · exact RdR.none hr (by rw [z]; rfl)
      · rcases k with ⟨_, q2, z, p2⟩ | ⟨z, _⟩
        · have pg := pgS _ _ gt.2 z
          have k2 := botL hN hg hF hRU hRE n (i + 1) q2 s3 r t h (codeX hm3 hf3 p2) (by omega)
          rw [z]
          exact k2
        · omega
    · refine Or.inl ⟨hr, q, lpF_no ?_, by rw [hs]; exact hP⟩
      unfold tkA
      rw [Nat.beq_eq]
      omega
theorem botX (hN : N ≤ 1000) (hg : ∀ i, g i ≤ 255) {F : Nat} (hF : N < F) {RU : PS → Int → PS → Prop} {RE : PS → Int → Int → PS → Prop} (hRU : SumH g N F K M d RU) (hRE : EitH g N F K M d RE) {p : Int} (h : M_X8_readsBoth RU RE s p r t) (hP : PX g N K M d q s) : RdR (botN (tkq g N) (nxq g N) F (sngD (tkq g N) (nxq g N) F (AX g N F K M p) d) q) (PX g N K M d) r t := by
  obtain ⟨n, h⟩ := h
  unfold T_X8_readsBoth_e at h
  obtain ⟨_, _, r1, s1, hm, hf, _, _, h⟩ := h
  have k := sngX hN hg hF hRU hRE hm hP
  have pgS : PGr N (sngD (tkq g N) (nxq g N) F (AX g N F K M p) d) := sngD_pg (ngr hg) (fun d => AX_pg hg d) d
  unfold botN
  rcases h with ⟨c, hr, _⟩ | ⟨c, h⟩
  · rcases k with ⟨z, _⟩ | ⟨_, z⟩
    · omega
    · exact RdR.none hr (by rw [z]; rfl)
  · rcases k with ⟨_, q2, z, p2⟩ | ⟨z, _⟩
    · have pg := pgS _ _ hP.2.2.2.1 z
      have k2 := botL hN hg hF hRU hRE n 0 q2 s1 r t h p2 (by omega)
      rw [z]
      exact k2
    · omega
theorem eitL (hN : N ≤ 1000) (hg : ∀ i, g i ≤ 255) {F : Nat} (hF : N < F) {RU : PS → Int → PS → Prop} {RE : PS → Int → Int → PS → Prop} (hRU : SumH g N F K M d RU) (hRE : EitH g N F K M d RE) {p : Int} : ∀ (n i q : Nat) (s : PS) (r : Int) (t : PS), It_X8_readsEither RU RE n p (i : Int) s r t → PX g N K M d q s → i + 1 ≤ q → RdR (lpF (tkq g N) (nxq g N) tkO (botN (tkq g N) (nxq g N) F (sngD (tkq g N) (nxq g N) F (AX g N F K M p) d)) F q) (PX g N K M d) r t
  | 0, i, q, s, r, t, h, _, _ => False.elim h
  | n + 1, i, q, s, r, t, h, hP, hi => by
    have h := ul_X8_readsEither_12 h
    unfold T_X8_readsEither_12 at h
    obtain ⟨_, _, _, h⟩ := h
    have tk := hP.tk
    have hq := hP.2.2.2.1
    have pgS : PGr N (botN (tkq g N) (nxq g N) F (sngD (tkq g N) (nxq g N) F (AX g N F K M p) d)) := botN_pg (ngr hg) (sngD_pg (ngr hg) (fun d => AX_pg hg d) d)
    rcases h with ⟨c1, _⟩ | ⟨c1, ⟨c2, s1, hm, hf, _, r2, s2, hm2, hf2, _, _, h⟩ | ⟨c2, hr, hs⟩⟩
    · omega
    · have a : tkO (tkq g N q) = true := by
        unfold tkO
        rw [Nat.beq_eq]
        omega
      have gt := ngr hg q hq (by omega)
      have p1 := hP.step hN hg hm hf (by omega) (by omega)
      have k := botX hN hg hF hRU hRE hm2 p1
      rw [lpF_go (ok := tkO) (ngr hg) (by decide) pgS hF hq a]
      rcases h with ⟨c3, hr, _⟩ | ⟨c3, s3, hm3, hf3, _, h⟩
      · rcases k with ⟨z, _⟩ | ⟨_, z⟩
        · omega
        · exact RdR.none hr (by rw [z]; rfl)
      · rcases k with ⟨_, q2, z, p2⟩ | ⟨z, _⟩
        · have pg := pgS _ _ gt.2 z
          have k2 := eitL hN hg hF hRU hRE n (i + 1) q2 s3 r t h (codeX hm3 hf3 p2) (by omega)
          rw [z]
          exact k2
        · omega
    · refine Or.inl ⟨hr, q, lpF_no ?_, by rw [hs]; exact hP⟩
      unfold tkO
      rw [Nat.beq_eq]
      omega
theorem eitX1 (hN : N ≤ 1000) (hg : ∀ i, g i ≤ 255) {F : Nat} (hF : N < F) {RU : PS → Int → PS → Prop} {RE : PS → Int → Int → PS → Prop} (hRU : SumH g N F K M d RU) (hRE : EitH g N F K M d RE) {p : Int} (h : M_X8_readsEither RU RE s p r t) (hP : PX g N K M d q s) : RdR (eitD (tkq g N) (nxq g N) F (AX g N F K M p) d q) (PX g N K M d) r t := by
  obtain ⟨n, h⟩ := h
  unfold T_X8_readsEither_e at h
  obtain ⟨_, _, r1, s1, hm, hf, _, _, h⟩ := h
  have k := botX hN hg hF hRU hRE hm hP
  have pgS : PGr N (botN (tkq g N) (nxq g N) F (sngD (tkq g N) (nxq g N) F (AX g N F K M p) d)) := botN_pg (ngr hg) (sngD_pg (ngr hg) (fun d => AX_pg hg d) d)
  rw [eitD_eq]
  unfold eitN
  rcases h with ⟨c, hr, _⟩ | ⟨c, h⟩
  · rcases k with ⟨z, _⟩ | ⟨_, z⟩
    · omega
    · exact RdR.none hr (by rw [z]; rfl)
  · rcases k with ⟨_, q2, z, p2⟩ | ⟨z, _⟩
    · have pg := pgS _ _ hP.2.2.2.1 z
      have k2 := eitL hN hg hF hRU hRE n 0 q2 s1 r t h p2 (by omega)
      rw [z]
      exact k2
    · omega
theorem sumH (hN : N ≤ 1000) (hg : ∀ i, g i ≤ 255) {F : Nat} (hF : N < F) (d : Nat) : SumH g N F K M d (M_X8_readsSum (prvS d)) := fun q s r t h hP => sumX hN hg hF d q s r t h hP
/-- tests and whiches, at every depth -/
theorem eitX (hN : N ≤ 1000) (hg : ∀ i, g i ≤ 255) {F : Nat} (hF : N < F) : ∀ (d q : Nat) (s : PS) (p r : Int) (t : PS), M_X8_readsEither (M_X8_readsSum (prvS d)) (prvE d) s p r t → PX g N K M d q s → RdR (eitD (tkq g N) (nxq g N) F (AX g N F K M p) d q) (PX g N K M d) r t
  | 0, q, s, p, r, t, h, hP => eitX1 hN hg hF (sumH hN hg hF 0) (fun e _ _ _ _ _ he => absurd he (by omega)) h hP
  | d + 1, q, s, p, r, t, h, hP => by
    refine eitX1 hN hg hF (sumH hN hg hF (d + 1)) (fun e q s p r t he hr hp => ?_) h hP
    obtain rfl : d = e := by omega
    have hr2 : M_X8_readsEitherD d s p r t := hr
    rw [eitD_prv] at hr2
    exact eitX hN hg hF d q s p r t hr2 hp
end ReadX2
