/-! the class's second reading: tests and whiches -/
theorem idx_eq {l : List (List Nat)} {w : List Nat} {j : Nat} (h : j < l.length) (h1 : l[j] = w) (h2 : ∀ i : Nat, (hi : i < j) → ¬ l[i]'(Nat.lt_trans hi h) = w) : idx l w = j := by
  unfold idx
  rw [List.findIdx_eq h]
  refine ⟨?_, fun i hi => ?_⟩
  · rw [h1]
    exact beq_self_eq_true w
  · exact beq_false_of_ne (h2 i hi)
section CodeX3
variable {g : Nat → Nat} {N q d F : Nat} {K M : List (List Nat)} {s t u : PS} {r : Int} {C : List OPc}
theorem kindL2 {w : Int} : ∀ (n i : Nat) (s : PS) (r : Int) (t : PS), It_X1_kindOf_at16 n w (i : Int) s r t → BkX K M s → (∀ j : Nat, j < i → ¬ s 17 j = w) → r = -1 ∨ ∃ j : Nat, j < K.length ∧ r = (j : Int) ∧ s 17 j = w ∧ ∀ i : Nat, i < j → ¬ s 17 i = w
  | 0, i, s, r, t, h, _, _ => False.elim h
  | n + 1, i, s, r, t, h, hB, hno => by
    have h := ul_X1_kindOf_at16_2 h
    unfold T_X1_kindOf_at16_2 at h
    obtain ⟨_, _, h⟩ := h
    rw [hB.1, Int.toNat_natCast] at h
    rcases h with ⟨c1, hr, hs⟩ | ⟨c1, ⟨c2, hr, hs⟩ | ⟨c2, h⟩⟩
    · exact Or.inl hr
    · exact Or.inr ⟨i, by omega, hr, c2, hno⟩
    · refine kindL2 n (i + 1) s r t h hB (fun j hj => ?_)
      by_cases e : j = i
      · rw [e]
        exact c2
      · exact hno j (by omega)
theorem markL2 {w : Int} : ∀ (n i : Nat) (s : PS) (r : Int) (t : PS), It_X1_markOf_at16 n w (i : Int) s r t → BkX K M s → (∀ j : Nat, j < i → ¬ s 21 j = w) → r = -1 ∨ ∃ j : Nat, j < M.length ∧ r = (j : Int) ∧ s 21 j = w ∧ ∀ i : Nat, i < j → ¬ s 21 i = w
  | 0, i, s, r, t, h, _, _ => False.elim h
  | n + 1, i, s, r, t, h, hB, hno => by
    have h := ul_X1_markOf_at16_2 h
    unfold T_X1_markOf_at16_2 at h
    obtain ⟨_, _, h⟩ := h
    rw [hB.2.1, Int.toNat_natCast] at h
    rcases h with ⟨c1, hr, hs⟩ | ⟨c1, ⟨c2, hr, hs⟩ | ⟨c2, h⟩⟩
    · exact Or.inl hr
    · exact Or.inr ⟨i, by omega, hr, c2, hno⟩
    · refine markL2 n (i + 1) s r t h hB (fun j hj => ?_)
      by_cases e : j = i
      · rw [e]
        exact c2
      · exact hno j (by omega)
theorem kindI {l : List Nat} (hl : LW l) (h : M_X1_kindOf_at16 s ((e5 l : Nat) : Int) r t) (hB : BkX K M s) : r = -1 ∨ (r = (idx K l : Int) ∧ idx K l < K.length) := by
  obtain ⟨n, h⟩ := h
  unfold T_X1_kindOf_at16_e at h
  obtain ⟨_, h⟩ := h
  rcases kindL2 n 0 s r t h hB (fun j hj => absurd hj (by omega)) with k | ⟨j, k1, k2, k3, k4⟩
  · exact Or.inl k
  · refine Or.inr ?_
    rw [hB.2.2.1 j k1] at k3
    have e1 := e5_inj (hB.2.2.2.2.1 _ (List.getElem_mem k1)) hl (Int.ofNat_inj.mp k3)
    have e2 : idx K l = j := idx_eq k1 e1 (fun i hi e => by
      have z := k4 i hi
      rw [hB.2.2.1 i (Nat.lt_trans hi k1), e] at z
      exact z rfl)
    rw [e2]
    exact ⟨k2, k1⟩
theorem markI {l : List Nat} (hl : LW l) (h : M_X1_markOf_at16 s ((e5 l : Nat) : Int) r t) (hB : BkX K M s) : r = -1 ∨ (r = (idx M l : Int) ∧ idx M l < M.length) := by
  obtain ⟨n, h⟩ := h
  unfold T_X1_markOf_at16_e at h
  obtain ⟨_, h⟩ := h
  rcases markL2 n 0 s r t h hB (fun j hj => absurd hj (by omega)) with k | ⟨j, k1, k2, k3, k4⟩
  · exact Or.inl k
  · refine Or.inr ?_
    rw [hB.2.2.2.1 j k1] at k3
    have e1 := e5_inj (hB.2.2.2.2.2 _ (List.getElem_mem k1)) hl (Int.ofNat_inj.mp k3)
    have e2 : idx M l = j := idx_eq k1 e1 (fun i hi e => by
      have z := k4 i hi
      rw [hB.2.2.2.1 i (Nat.lt_trans hi k1), e] at z
      exact z rfl)
    rw [e2]
    exact ⟨k2, k1⟩
theorem op3 (A : List (List Nat)) : OpX A (6, 0, []) 3 := ⟨0, 3, rfl, by decide, by decide, Or.inr (Or.inr (Or.inl ⟨rfl, rfl⟩))⟩
theorem op8 (A : List (List Nat)) {n : Nat} (h : n < 134217728) : OpX A (8, (n : Int), []) ((16 * n + 5 : Nat) : Int) := ⟨n, 5, rfl, h, by decide, Or.inr (Or.inr (Or.inr (Or.inr (Or.inl ⟨rfl, rfl, rfl⟩))))⟩
theorem op9 (A : List (List Nat)) {n : Nat} (h : n < 134217728) : OpX A (9, (n : Int), []) ((16 * n + 6 : Nat) : Int) := ⟨n, 6, rfl, h, by decide, Or.inr (Or.inr (Or.inr (Or.inr (Or.inr (Or.inl ⟨rfl, rfl, rfl⟩)))))⟩
theorem op7n (A : List (List Nat)) : OpX A opN 7 := ⟨0, 7, rfl, by decide, by decide, Or.inr (Or.inr (Or.inr (Or.inr (Or.inr (Or.inr (Or.inl ⟨rfl, rfl⟩))))))⟩
theorem op16 (A : List (List Nat)) (c : Nat) : OpX A (opA c) 8 := ⟨0, 8, rfl, by decide, by decide, Or.inr (Or.inr (Or.inr (Or.inr (Or.inr (Or.inr (Or.inr (Or.inl ⟨rfl, rfl⟩)))))))⟩
theorem op17 (A : List (List Nat)) (c : Nat) : OpX A (opO c) 9 := ⟨0, 9, rfl, by decide, by decide, Or.inr (Or.inr (Or.inr (Or.inr (Or.inr (Or.inr (Or.inr (Or.inr (Or.inl ⟨rfl, rfl⟩))))))))⟩
/-- a name in a which -/
theorem kindsC (hg : ∀ i, g i ≤ 255) (h : M_X8_readsKinds s 1 t) (hP : PX g N K M d q s) (hC : CdX C s) (hl : wtE C ≤ q) (hN : N ≤ 1000) (hK : K.length ≤ 20) (hM : M.length ≤ 20) : CdX (C ++ awE (tkq g N) (ltq g N) K M d q) t := by
  unfold M_X8_readsKinds T_X8_readsKinds_e at h
  obtain ⟨_, h⟩ := h
  have tk := hP.tk
  have ln := wtE_len C
  unfold awE
  rcases h with ⟨c1, s1, hm, hf, _, s2, hm2, hf2, _, hr, hs⟩ | ⟨c1, h⟩
  · have gt := hP.n hg (by omega)
    rw [if_pos (by omega), hs]
    exact stepC hf2 (addC0 hm hC (by decide) op3 (by omega))
  · rw [if_neg (by omega)]
    rcases h with ⟨c2, r1, s1, hm, hf, _, _, r2, s2, hm2, hf2, _, _, h⟩ | ⟨c2, r1, s1, hm, hf, _, _, hr, _⟩
    · have e58 : tkq g N q = 258 := by omega
      have gt := hP.n hg (by omega)
      have lw := ltq_LW hg (N := N) (q := q) (by omega) (by omega)
      have e6 := (hP.2.2.2.2.2.2 (by omega)).2.1 e58
      rw [e6] at hm hm2
      obtain ⟨x1, k1⟩ := kindX2 lw hm hP.2.2.1
      have i1 := kindI lw hm hP.2.2.1
      rw [x1] at hm2 hf2
      obtain ⟨x2, k2⟩ := markX2 lw hm2 hP.2.2.1
      have i2 := markI lw hm2 hP.2.2.1
      rw [x2] at h
      rcases h with ⟨c3, ⟨c4, r3, s3, hm3, hf3, _, _, hr, _⟩ | ⟨c4, _, _, s3, hm3, hf3, _, s4, hm4, hf4, _, hr, hs⟩⟩ | ⟨c3, _, _, s3, hm3, hf3, _, s4, hm4, hf4, _, hr, hs⟩
      · exact absurd hr (by decide)
      · rw [if_neg (by rcases k1 with k | k; exact k.2; omega), hs]
        obtain ⟨v, vl⟩ : r2 = (idx M (ltq g N q) : Int) ∧ idx M (ltq g N q) < M.length := by
          rcases i2 with k | k
          · omega
          · exact k
        rw [v] at hm3
        exact stepC hf4 (addC (k := 6) (n := idx M (ltq g N q)) hm3 hC (by omega) (by decide) (fun A => op9 A (by omega)) (by omega))
      · rw [if_pos (by rcases k1 with k | k; omega; exact k.2), hs]
        obtain ⟨v, vl⟩ : r1 = (idx K (ltq g N q) : Int) ∧ idx K (ltq g N q) < K.length := by
          rcases i1 with k | k
          · omega
          · exact k
        rw [v] at hm3
        exact stepC hf4 (addC (k := 5) (n := idx K (ltq g N q)) hm3 hC (by omega) (by decide) (fun A => op8 A (by omega)) (by omega))
    · exact absurd hr (by decide)
/-- all, or a wish -/
theorem factC (hN : N ≤ 1000) (hg : ∀ i, g i ≤ 255) (hWs : ∀ q, q ≤ N → tkq g N q = 277 → q + 4 ≤ nxq g N q) (h : M_X8_readsFact s 1 t) (hP : PX g N K M d q s) (hk : tkq g N q = 276 ∨ tkq g N q = 277) (hC : CdX C s) (hl : wtE C ≤ q) : CdX (C ++ atE (tkq g N) (nxq g N) F (nvq g N) (ltq g N) d q) t := by
  unfold M_X8_readsFact T_X8_readsFact_e at h
  obtain ⟨_, h⟩ := h
  have tk := hP.tk
  have ln := wtE_len C
  unfold atE
  rcases h with ⟨c1, s1, hm, hf, _, s2, hm2, hf2, _, hr, hs⟩ | ⟨c1, s1, hm, hf, _, h⟩
  · have gt := hP.n hg (by omega)
    rw [if_pos (by omega), hs]
    exact stepC hf2 (addC0 hm hC (by decide) op3 (by omega))
  · have e77 : tkq g N q = 277 := by
      clear h
      omega
    rw [if_neg (show ¬ tkq g N q = 276 by rw [e77]; decide), if_pos e77]
    have p1 := hP.step hN hg hm hf (by omega) (by omega)
    have tk1 := p1.tk
    have g1 := hP.n hg (by omega)
    have ws := hWs q hP.2.2.2.1 e77
    rcases h with ⟨c2, s2, hm2, hf2, _, s3, hm3, hf3, _, hr, hs⟩ | ⟨c2, r2, s2, hm2, hf2, _, _, hr, _⟩
    · have e58 : tkq g N (nxq g N q) = 258 := by omega
      have g2 := p1.n hg (by omega)
      have lw := ltq_LW hg (N := N) (q := nxq g N q) (by omega) (by omega)
      have e6 := (p1.2.2.2.2.2.2 (by omega)).2.1 e58
      rw [e6] at hm2
      rw [hs]
      exact stepC hf3 (addAskC lw hm2 (stepC hf hC) (by omega))
    · exact absurd hr (by decide)
/-- a not more or less -/
theorem notC {x : Int} {w ss : PS} {rr v : Int} {k : Nat} (h : (x = 0 ∧ (rr = v ∧ ss = w)) ∨ (¬ (x = 0) ∧ ∃ w2 : PS, (M_X1_addCode_at16 w 7 0 0 w2) ∧ ((Fr intsX [16, 29] [(16, 17)] w w2) ∧ ((TyX w2) ∧ (rr = v ∧ ss = w2))))) (hx : x = ((k % 2 : Nat) : Int)) (hC : CdX C w) (hl : C.length + k % 2 ≤ 1000) : rr = v ∧ CdX (C ++ ntX k) ss := by
  unfold ntX
  rcases h with ⟨c, hr, hs⟩ | ⟨c, w2, hm, hf, _, hr, hs⟩
  · rw [if_neg (by omega), List.append_nil, hs]
    exact ⟨hr, hC⟩
  · rw [if_pos (by omega), hs]
    exact ⟨hr, addC0 hm hC (by decide) op7n (by omega)⟩
/-- the code of the smallest parts -/
def AXE (g : Nat → Nat) (N F : Nat) (K M : List (List Nat)) (p : Int) : Nat → Nat → List OPc := if p = 0 then atE (tkq g N) (nxq g N) F (nvq g N) (ltq g N) else awE (tkq g N) (ltq g N) K M
theorem AXE_ln (hg : ∀ i, g i ≤ 255) (hWs : ∀ q, q ≤ N → tkq g N q = 277 → q + 4 ≤ nxq g N q) {p : Int} (d : Nat) : LnG N (AX g N F K M p d) (AXE g N F K M p d) := by
  unfold AX AXE
  split
  · exact atE_ln (ngr hg) hWs d
  · exact awE_ln (ngr hg) _ d
abbrev sgX (g : Nat → Nat) (N F : Nat) (K M : List (List Nat)) (p : Int) (d : Nat) : Nat → List OPc := sgE (tkq g N) (nxq g N) F ntX (AX g N F K M p) (AXE g N F K M p) d
abbrev etX (g : Nat → Nat) (N F : Nat) (K M : List (List Nat)) (p : Int) (d : Nat) : Nat → List OPc := etE (tkq g N) (nxq g N) F ntX (AX g N F K M p) (AXE g N F K M p) d
theorem cmpC {a : Int} (h : M_X8_comparison s a r t) : (r = 10 ∧ a = 60) ∨ (r = 11 ∧ a = 62) ∨ (r = 12 ∧ a = 61) ∨ r = -1 := by
  unfold M_X8_comparison T_X8_comparison_e at h
  obtain ⟨_, ⟨c, hr, hs⟩ | ⟨c, ⟨c2, hr, hs⟩ | ⟨c2, ⟨c3, hr, hs⟩ | ⟨c3, hr, hs⟩⟩⟩⟩ := h
  · exact Or.inl ⟨hr, c⟩
  · exact Or.inr (Or.inl ⟨hr, c2⟩)
  · exact Or.inr (Or.inr (Or.inl ⟨hr, c3⟩))
  · exact Or.inr (Or.inr (Or.inr hr))
def SumHC (g : Nat → Nat) (N F : Nat) (K M : List (List Nat)) (d : Nat) (RU : PS → Int → PS → Prop) : Prop := ∀ (q : Nat) (s : PS) (t : PS) (C : List OPc), RU s 1 t → PX g N K M d q s → CdX C s → wtE C ≤ q → CdX (C ++ smE (tkq g N) (nxq g N) F (nvq g N) d q) t
def EitHC (g : Nat → Nat) (N F : Nat) (K M : List (List Nat)) (d : Nat) (RE : PS → Int → Int → PS → Prop) : Prop := ∀ (e q : Nat) (s : PS) (p : Int) (t : PS) (C : List OPc), d = e + 1 → RE s p 1 t → PX g N K M e q s → CdX C s → wtE C ≤ q → CdX (C ++ etX g N F K M p e q) t
theorem ctn_len {C D : List OPc} {q : Nat} (h : wtE (C ++ D) ≤ q) : (C ++ D).length ≤ q := Nat.le_trans (wtE_len _) h
theorem notE {x v : Int} {w ss : PS} (h : (x = 0 ∧ ((1 : Int) = v ∧ ss = w)) ∨ (¬ (x = 0) ∧ ∃ w2 : PS, (M_X1_addCode_at16 w 7 0 0 w2) ∧ ((Fr intsX [16, 29] [(16, 17)] w w2) ∧ ((TyX w2) ∧ ((1 : Int) = v ∧ ss = w2))))) : v = 1 := by
  rcases h with ⟨_, hr, _⟩ | ⟨_, _, _, _, _, hr, _⟩
  · exact hr.symm
  · exact hr.symm
theorem coE_b {T N : Nat → Nat} {EE EA : Nat → List OPc} {q : Nat} (c : T q = 91) : coE T N F EE EA q = EE (N q) := by
  unfold coE
  rw [ntF_no (by omega), if_pos c]
theorem coE_n {T N : Nat → Nat} {EE EA : Nat → List OPc} {q : Nat} (c : ¬ T q = 274) (c2 : ¬ T q = 91) : coE T N F EE EA q = EA q := by
  unfold coE
  rw [ntF_no c, if_neg c2]
theorem sgX_ln (hg : ∀ i, g i ≤ 255) (hWs : ∀ q, q ≤ N → tkq g N q = 277 → q + 4 ≤ nxq g N q) {p : Int} (d : Nat) : LnG N (sngD (tkq g N) (nxq g N) F (AX g N F K M p) d) (sgX g N F K M p d) := (etE_ln (F := F) (ngr hg) (fun d => AX_pg (F := F) (K := K) (M := M) (p := p) hg d) ntX_le (fun d => AXE_ln (F := F) (K := K) (M := M) (p := p) hg hWs d) d).2
theorem etX_ln (hg : ∀ i, g i ≤ 255) (hWs : ∀ q, q ≤ N → tkq g N q = 277 → q + 4 ≤ nxq g N q) {p : Int} (d : Nat) : LnG N (eitD (tkq g N) (nxq g N) F (AX g N F K M p) d) (etX g N F K M p d) := (etE_ln (F := F) (ngr hg) (fun d => AX_pg (F := F) (K := K) (M := M) (p := p) hg d) ntX_le (fun d => AXE_ln (F := F) (K := K) (M := M) (p := p) hg hWs d) d).1
theorem sngLC (hN : N ≤ 1000) (hg : ∀ i, g i ≤ 255) (hF : N < F) (hWs : ∀ q, q ≤ N → tkq g N q = 277 → q + 4 ≤ nxq g N q) (hK : K.length ≤ 20) (hM : M.length ≤ 20) {RU : PS → Int → PS → Prop} {RE : PS → Int → Int → PS → Prop} (hRU : SumH g N F K M d RU) (hRE : EitH g N F K M d RE) (hUC : SumHC g N F K M d RU) (hEC : EitHC g N F K M d RE) : ∀ (n i q k : Nat) (p x : Int) (s : PS) (t : PS) (C : List OPc), It_X8_readsSingle RU RE n p x (i : Int) s 1 t → PX g N K M d q s → i ≤ q → x = ((k % 2 : Nat) : Int) → CdX C s → wtE C + k ≤ q → CdX (C ++ (coE (tkq g N) (nxq g N) F (inE (tkq g N) (nxq g N) F ntX (AX g N F K M p) (AXE g N F K M p) d) (AXE g N F K M p d) q ++ ntX (k + nts (tkq g N) (nxq g N) F q))) t
  | 0, i, q, k, p, x, s, t, C, h, _, _, _, _, _ => False.elim h
  | n + 1, i, q, k, p, x, s, t, C, h, hP, hi, hx, hC, hl => by
    have h := ul_X8_readsSingle_4 h
    unfold T_X8_readsSingle_4 at h
    obtain ⟨_, _, _, _, h⟩ := h
    have tk := hP.tk
    have hq := hP.2.2.2.1
    have ln := wtE_len C
    rcases h with ⟨c1, _⟩ | ⟨c1, h⟩
    · omega
    · rcases h with ⟨c2, h⟩ | ⟨c2, h⟩
      · have e74 : tkq g N q = 274 := by omega
        have gt := ngr hg q hq (by omega)
        have ek : k + (nts (tkq g N) (nxq g N) F (nxq g N q) + 1) = (k + 1) + nts (tkq g N) (nxq g N) F (nxq g N q) := by omega
        rw [coE_go (ngr hg) hF hq e74, nts_go (ngr hg) hF hq e74, ek]
        rcases h with ⟨_, s1, hm, hf, _, h⟩ | ⟨_, s1, hm, hf, _, h⟩
        · exact sngLC hN hg hF hWs hK hM hRU hRE hUC hEC n (i + 1) _ (k + 1) p _ s1 t C h (hP.step hN hg hm hf (by omega) (by omega)) (by omega) (by omega) (stepC hf hC) (by omega)
        · exact sngLC hN hg hF hWs hK hM hRU hRE hUC hEC n (i + 1) _ (k + 1) p _ s1 t C h (hP.step hN hg hm hf (by omega) (by omega)) (by omega) (by omega) (stepC hf hC) (by omega)
      · have n74 : ¬ tkq g N q = 274 := by omega
        rw [nts_no n74, Nat.add_zero]
        rcases h with ⟨c3, r1, s1, hm, hf, _, _, h⟩ | ⟨c3, h⟩
        · have e91 : tkq g N q = 91 := by omega
          have gt := ngr hg q hq (by omega)
          rw [coE_b e91]
          rcases openX hN hg hm hP (by omega) (by omega) with ⟨o1, e, rfl, p1⟩ | ⟨o1, o2⟩
          · rcases h with ⟨z, _⟩ | ⟨_, r2, s2, hm2, hf2, _, b2, h⟩
            · omega
            · have sm := hRE e _ s1 p r2 s2 rfl hm2 p1
              rcases h with ⟨c4, s3, e3, h⟩ | ⟨c4, r3, s3, hm3, hf3, _, b3, h⟩
              · exact absurd (notE h) (by decide)
              · obtain rfl : r2 = 1 := by omega
                have C2 := hEC e _ s1 p s2 C rfl hm2 p1 (hC.fr hf (by decide)) (by omega)
                rcases sm with ⟨_, q2, z, p2⟩ | ⟨z, _⟩
                · have ps := passX (c := 93) hN hg (by decide) (by decide) hm3 p2
                  rcases h with ⟨c5, s4, e4, h⟩ | ⟨c5, s4, e4, h⟩
                  · exact absurd (notE h) (by decide)
                  · have l2 := etX_ln (F := F) (K := K) (M := M) (p := p) hg hWs e _ _ gt.2 z
                    have C3 : CdX (C ++ etX g N F K M p e (nxq g N q)) s4 := by
                      rw [e4]
                      exact (C2.fr hf3 (by decide)).us (by decide)
                    have l3 := wtE_len (C ++ etX g N F K M p e (nxq g N q))
                    rw [wtE_app] at l3
                    have q2n := p2.2.2.2.1
                    have k4 := (notC h hx C3 (by omega)).2
                    rw [List.append_assoc] at k4
                    exact k4
                · omega
          · rcases h with ⟨_, s3, e3, h⟩ | ⟨z, _⟩
            · exact absurd (notE h) (by decide)
            · omega
        · have n91 : ¬ tkq g N q = 91 := by omega
          rw [coE_n n74 n91]
          rcases h with ⟨c4, h⟩ | ⟨c4, r1, s1, hm, hf, _, _, h⟩
          · have ea : AXE g N F K M p d q = atE (tkq g N) (nxq g N) F (nvq g N) (ltq g N) d q := by
              unfold AXE
              rw [if_pos c4]
            rw [ea]
            rcases h with ⟨c5, r1, s1, hm, hf, _, _, h⟩ | ⟨c5, h⟩
            · have e76 : tkq g N q = 276 := by omega
              have gt := ngr hg q hq (by omega)
              obtain rfl : r1 = 1 := notE h
              have C1 := factC (F := F) hN hg hWs hm hP (Or.inl e76) hC (by omega)
              have el : (atE (tkq g N) (nxq g N) F (nvq g N) (ltq g N) d q).length = 1 := by
                unfold atE
                rw [if_pos e76]
                rfl
              have k4 := (notC h hx C1 (by rw [List.length_append, el]; omega)).2
              rw [List.append_assoc] at k4
              exact k4
            · rcases h with ⟨c6, r1, s1, hm, hf, _, _, h⟩ | ⟨c6, h⟩
              · have e77 : tkq g N q = 277 := by omega
                have gt := ngr hg q hq (by omega)
                obtain rfl : r1 = 1 := notE h
                have C1 := factC (F := F) hN hg hWs hm hP (Or.inr e77) hC (by omega)
                have el : (atE (tkq g N) (nxq g N) F (nvq g N) (ltq g N) d q).length = 1 := by
                  unfold atE
                  rw [if_neg (by omega), if_pos e77]
                  rfl
                have k4 := (notC h hx C1 (by rw [List.length_append, el]; omega)).2
                rw [List.append_assoc] at k4
                exact k4
              · obtain ⟨r1, s1, hm, hf, _, b1, r2, s2, hm2, hf2, _, _, h⟩ := h
                have k1 := hRU q s r1 s1 hm hP
                obtain ⟨x2, k2⟩ := cmpX hm2
                have k3 := cmpC hm2
                rcases h with ⟨c7, s3, hm3, hf3, _, h⟩ | ⟨c7, r3, s3, hm3, hf3, _, _, h⟩
                · exact absurd (notE h) (by decide)
                · obtain rfl : r1 = 1 := by omega
                  rcases k1 with ⟨_, q1, z, p1⟩ | ⟨z, _⟩
                  · have C1 := hUC q s s1 C hm hP hC (by omega)
                    have l1 := (smE_ln (V := nvq g N) (ngr hg) d).1 _ _ hq z
                    have tk1 := p1.tk
                    unfold M_X8_passesComparison T_X8_passesComparison_e at hm3
                    obtain ⟨_, _, hm3⟩ := hm3
                    rcases hm3 with ⟨d1, r9, s9, _, _, _, _, hr3, _⟩ | ⟨d1, s9, hm9, hf9, _, hr3, hs3⟩
                    · rcases h with ⟨c8, s4, hm4, hf4, _, h⟩ | ⟨c8, _⟩
                      · exact absurd (notE h) (by decide)
                      · omega
                    · rcases h with ⟨c8, _⟩ | ⟨c8, r4, s4, hm4, hf4, _, b4, h⟩
                      · omega
                      · rw [x2] at hm9 hf9
                        have p2 := p1.step hN hg hm9 hf9 (by rcases k2 with k | k <;> omega) (by rcases k2 with k | k <;> omega)
                        have gt1 := p1.n hg (by rcases k2 with k | k <;> omega)
                        have C1b := stepC hf9 C1
                        rw [← hs3] at p2 C1b
                        have k4 := hRU _ s3 r4 s4 hm4 p2
                        rcases h with ⟨c9, s5, hm5, hf5, _, h⟩ | ⟨c9, s5, hm5, hf5, _, h⟩
                        · exact absurd (notE h) (by decide)
                        · obtain rfl : r4 = 1 := by omega
                          have C2 := hUC _ s3 s4 _ hm4 p2 C1b (by rw [wtE_app]; omega)
                          rcases k4 with ⟨_, q4, y, p4⟩ | ⟨y, _⟩
                          · have l4 := (smE_ln (V := nvq g N) (ngr hg) d).1 _ _ gt1.2 y
                            have q4n := p4.2.2.2.1
                            have l5 := wtE_len ((C ++ smE (tkq g N) (nxq g N) F (nvq g N) d q) ++ smE (tkq g N) (nxq g N) F (nvq g N) d (nxq g N q1))
                            rw [wtE_app, wtE_app] at l5
                            have C3 := addC0 hm5 C2 (by omega) (fun A => opC_X (c := tkq g N q1) A (by omega)) (by omega)
                            have k9 := (notC h hx C3 (by
                              rw [List.length_append]
                              show _ + 1 + k % 2 ≤ 1000
                              omega)).2
                            have ee : atE (tkq g N) (nxq g N) F (nvq g N) (ltq g N) d q = smE (tkq g N) (nxq g N) F (nvq g N) d q ++ (smE (tkq g N) (nxq g N) F (nvq g N) d (nxq g N q1) ++ [opC (tkq g N q1)]) := by
                              unfold atE
                              rw [if_neg (by omega), if_neg (by omega), ctn_s z]
                            rw [ee]
                            simp only [List.append_assoc] at k9 ⊢
                            exact k9
                          · omega
                  · omega
          · have ea : AXE g N F K M p d q = awE (tkq g N) (ltq g N) K M d q := by
              unfold AXE
              rw [if_neg c4]
            rw [ea]
            obtain rfl : r1 = 1 := notE h
            have C1 := kindsC hg hm hP hC (by omega) hN hK hM
            have el : (awE (tkq g N) (ltq g N) K M d q).length = 1 := by
              unfold awE
              split
              · rfl
              · split <;> rfl
            have kx := kindsX hN hg hm hP
            have q2 : q < N := by
              rcases kx with ⟨_, q2, z, p2⟩ | ⟨z, _⟩
              · have pg := atW_pg (ngr hg) d _ _ hq z
                omega
              · omega
            have k4 := (notC h hx C1 (by rw [List.length_append, el]; omega)).2
            rw [List.append_assoc] at k4
            exact k4
theorem sngC (hN : N ≤ 1000) (hg : ∀ i, g i ≤ 255) (hF : N < F) (hWs : ∀ q, q ≤ N → tkq g N q = 277 → q + 4 ≤ nxq g N q) (hK : K.length ≤ 20) (hM : M.length ≤ 20) {RU : PS → Int → PS → Prop} {RE : PS → Int → Int → PS → Prop} (hRU : SumH g N F K M d RU) (hRE : EitH g N F K M d RE) (hUC : SumHC g N F K M d RU) (hEC : EitHC g N F K M d RE) {p : Int} (h : M_X8_readsSingle RU RE s p 1 t) (hP : PX g N K M d q s) (hC : CdX C s) (hl : wtE C ≤ q) : CdX (C ++ sgX g N F K M p d q) t := by
  obtain ⟨n, h⟩ := h
  unfold T_X8_readsSingle_e at h
  obtain ⟨_, _, h⟩ := h
  have k := sngLC hN hg hF hWs hK hM hRU hRE hUC hEC n 0 q 0 p 0 s t C h hP (by omega) rfl hC (by omega)
  rw [Nat.zero_add] at k
  unfold sgX
  rw [sgE_eq]
  exact k
abbrev boX (g : Nat → Nat) (N F : Nat) (K M : List (List Nat)) (p : Int) (d : Nat) : Nat → List OPc := btnE (tkq g N) (nxq g N) F (sngD (tkq g N) (nxq g N) F (AX g N F K M p) d) (sgX g N F K M p d)
theorem boX_ln (hg : ∀ i, g i ≤ 255) (hWs : ∀ q, q ≤ N → tkq g N q = 277 → q + 4 ≤ nxq g N q) {p : Int} (d : Nat) : LnG N (botN (tkq g N) (nxq g N) F (sngD (tkq g N) (nxq g N) F (AX g N F K M p) d)) (boX g N F K M p d) := by
  have pgS : PGr N (sngD (tkq g N) (nxq g N) F (AX g N F K M p) d) := sngD_pg (ngr hg) (fun d => AX_pg hg d) d
  exact bindLn pgS (sgX_ln hg hWs d) (fun q r h e => lpE_ln (fun _ => rfl) (ngr hg) (by decide) pgS (sgX_ln hg hWs d) F q r h e)
theorem botLC (hN : N ≤ 1000) (hg : ∀ i, g i ≤ 255) (hF : N < F) (hWs : ∀ q, q ≤ N → tkq g N q = 277 → q + 4 ≤ nxq g N q) (hK : K.length ≤ 20) (hM : M.length ≤ 20) {RU : PS → Int → PS → Prop} {RE : PS → Int → Int → PS → Prop} (hRU : SumH g N F K M d RU) (hRE : EitH g N F K M d RE) (hUC : SumHC g N F K M d RU) (hEC : EitHC g N F K M d RE) {p : Int} : ∀ (n i q : Nat) (s : PS) (t : PS) (C : List OPc), It_X8_readsBoth RU RE n p (i : Int) s 1 t → PX g N K M d q s → i + 1 ≤ q → CdX C s → wtE C ≤ q → CdX (C ++ lpE (tkq g N) (nxq g N) tkA (sngD (tkq g N) (nxq g N) F (AX g N F K M p) d) (sgX g N F K M p d) opA F q) t
  | 0, i, q, s, t, C, h, _, _, _, _ => False.elim h
  | n + 1, i, q, s, t, C, h, hP, hi, hC, hl => by
    have h := ul_X8_readsBoth_12 h
    unfold T_X8_readsBoth_12 at h
    obtain ⟨_, _, _, h⟩ := h
    have tk := hP.tk
    have hq := hP.2.2.2.1
    have pgS : PGr N (sngD (tkq g N) (nxq g N) F (AX g N F K M p) d) := sngD_pg (ngr hg) (fun d => AX_pg hg d) d
    rcases h with ⟨c1, _⟩ | ⟨c1, ⟨c2, s1, hm, hf, _, r2, s2, hm2, hf2, _, _, h⟩ | ⟨c2, hr, hs⟩⟩
    · omega
    · have a : tkA (tkq g N q) = true := by
        unfold tkA
        rw [Nat.beq_eq]
        omega
      have gt := ngr hg q hq (by omega)
      have p1 := hP.step hN hg hm hf (by omega) (by omega)
      have k := sngX hN hg hF hRU hRE hm2 p1
      rw [lpE_go (ok := tkA) (ngr hg) (by decide) pgS hF hq a]
      rcases h with ⟨c3, hr, _⟩ | ⟨c3, s3, hm3, hf3, _, h⟩
      · exact absurd hr (by decide)
      · obtain rfl : r2 = 1 := by omega
        rcases k with ⟨_, q2, z, p2⟩ | ⟨z, _⟩
        · have pg := pgS _ _ gt.2 z
          have lw := sgX_ln (F := F) (K := K) (M := M) (p := p) hg hWs d _ _ gt.2 z
          have C2 := sngC hN hg hF hWs hK hM hRU hRE hUC hEC hm2 p1 (stepC hf hC) (by omega)
          have w2 : wtE (C ++ sgX g N F K M p d (nxq g N q)) ≤ q2 - 1 := by
            rw [wtE_app]
            omega
          have l2 := wtE_len (C ++ sgX g N F K M p d (nxq g N q))
          have C3 := addC0 hm3 C2 (by decide) (fun A => op16 A (tkq g N q)) (by omega)
          have k2 := botLC hN hg hF hWs hK hM hRU hRE hUC hEC n (i + 1) q2 s3 t _ h (codeX hm3 hf3 p2) (by omega) C3 (by
            rw [wtE_app]
            show _ + (1 + 0) ≤ q2
            omega)
          rw [z]
          rw [List.append_assoc, List.append_assoc] at k2
          exact k2
        · omega
    · rw [lpE_no, List.append_nil, hs]
      · exact hC
      · unfold tkA
        rw [Nat.beq_eq]
        omega
theorem botC (hN : N ≤ 1000) (hg : ∀ i, g i ≤ 255) (hF : N < F) (hWs : ∀ q, q ≤ N → tkq g N q = 277 → q + 4 ≤ nxq g N q) (hK : K.length ≤ 20) (hM : M.length ≤ 20) {RU : PS → Int → PS → Prop} {RE : PS → Int → Int → PS → Prop} (hRU : SumH g N F K M d RU) (hRE : EitH g N F K M d RE) (hUC : SumHC g N F K M d RU) (hEC : EitHC g N F K M d RE) {p : Int} (h : M_X8_readsBoth RU RE s p 1 t) (hP : PX g N K M d q s) (hC : CdX C s) (hl : wtE C ≤ q) : CdX (C ++ boX g N F K M p d q) t := by
  obtain ⟨n, h⟩ := h
  unfold T_X8_readsBoth_e at h
  obtain ⟨_, _, r1, s1, hm, hf, _, _, h⟩ := h
  have k := sngX hN hg hF hRU hRE hm hP
  have pgS : PGr N (sngD (tkq g N) (nxq g N) F (AX g N F K M p) d) := sngD_pg (ngr hg) (fun d => AX_pg hg d) d
  unfold boX btnE
  rcases h with ⟨c, hr, _⟩ | ⟨c, h⟩
  · exact absurd hr (by decide)
  · obtain rfl : r1 = 1 := by omega
    rcases k with ⟨_, q2, z, p2⟩ | ⟨z, _⟩
    · have pg := pgS _ _ hP.2.2.2.1 z
      have lw := sgX_ln (F := F) (K := K) (M := M) (p := p) hg hWs d _ _ hP.2.2.2.1 z
      have C2 := sngC hN hg hF hWs hK hM hRU hRE hUC hEC hm hP hC hl
      have k2 := botLC hN hg hF hWs hK hM hRU hRE hUC hEC n 0 q2 s1 t _ h p2 (by omega) C2 (by rw [wtE_app]; omega)
      rw [z]
      rw [List.append_assoc] at k2
      exact k2
    · omega
theorem eitLC (hN : N ≤ 1000) (hg : ∀ i, g i ≤ 255) (hF : N < F) (hWs : ∀ q, q ≤ N → tkq g N q = 277 → q + 4 ≤ nxq g N q) (hK : K.length ≤ 20) (hM : M.length ≤ 20) {RU : PS → Int → PS → Prop} {RE : PS → Int → Int → PS → Prop} (hRU : SumH g N F K M d RU) (hRE : EitH g N F K M d RE) (hUC : SumHC g N F K M d RU) (hEC : EitHC g N F K M d RE) {p : Int} : ∀ (n i q : Nat) (s : PS) (t : PS) (C : List OPc), It_X8_readsEither RU RE n p (i : Int) s 1 t → PX g N K M d q s → i + 1 ≤ q → CdX C s → wtE C ≤ q → CdX (C ++ lpE (tkq g N) (nxq g N) tkO (botN (tkq g N) (nxq g N) F (sngD (tkq g N) (nxq g N) F (AX g N F K M p) d)) (boX g N F K M p d) opO F q) t
  | 0, i, q, s, t, C, h, _, _, _, _ => False.elim h
  | n + 1, i, q, s, t, C, h, hP, hi, hC, hl => by
    have h := ul_X8_readsEither_12 h
    unfold T_X8_readsEither_12 at h
    obtain ⟨_, _, _, h⟩ := h
    have tk := hP.tk
    have hq := hP.2.2.2.1
    have pgS : PGr N (botN (tkq g N) (nxq g N) F (sngD (tkq g N) (nxq g N) F (AX g N F K M p) d)) := botN_pg (ngr hg) (sngD_pg (ngr hg) (fun d => AX_pg hg d) d)
    rcases h with ⟨c1, _⟩ | ⟨c1, ⟨c2, s1, hm, hf, _, r2, s2, hm2, hf2, _, _, h⟩ | ⟨c2, hr, hs⟩⟩
    · omega
    · have a : tkO (tkq g N q) = true := by
        unfold tkO
        rw [Nat.beq_eq]
        omega
      have gt := ngr hg q hq (by omega)
      have p1 := hP.step hN hg hm hf (by omega) (by omega)
      have k := botX hN hg hF hRU hRE hm2 p1
      rw [lpE_go (ok := tkO) (ngr hg) (by decide) pgS hF hq a]
      rcases h with ⟨c3, hr, _⟩ | ⟨c3, s3, hm3, hf3, _, h⟩
      · exact absurd hr (by decide)
      · obtain rfl : r2 = 1 := by omega
        rcases k with ⟨_, q2, z, p2⟩ | ⟨z, _⟩
        · have pg := pgS _ _ gt.2 z
          have lw := boX_ln (F := F) (K := K) (M := M) (p := p) hg hWs d _ _ gt.2 z
          have C2 := botC hN hg hF hWs hK hM hRU hRE hUC hEC hm2 p1 (stepC hf hC) (by omega)
          have w2 : wtE (C ++ boX g N F K M p d (nxq g N q)) ≤ q2 - 1 := by
            rw [wtE_app]
            omega
          have l2 := wtE_len (C ++ boX g N F K M p d (nxq g N q))
          have C3 := addC0 hm3 C2 (by decide) (fun A => op17 A (tkq g N q)) (by omega)
          have k2 := eitLC hN hg hF hWs hK hM hRU hRE hUC hEC n (i + 1) q2 s3 t _ h (codeX hm3 hf3 p2) (by omega) C3 (by
            rw [wtE_app]
            show _ + (1 + 0) ≤ q2
            omega)
          rw [z]
          rw [List.append_assoc, List.append_assoc] at k2
          exact k2
        · omega
    · rw [lpE_no, List.append_nil, hs]
      · exact hC
      · unfold tkO
        rw [Nat.beq_eq]
        omega
theorem eitC1 (hN : N ≤ 1000) (hg : ∀ i, g i ≤ 255) (hF : N < F) (hWs : ∀ q, q ≤ N → tkq g N q = 277 → q + 4 ≤ nxq g N q) (hK : K.length ≤ 20) (hM : M.length ≤ 20) {RU : PS → Int → PS → Prop} {RE : PS → Int → Int → PS → Prop} (hRU : SumH g N F K M d RU) (hRE : EitH g N F K M d RE) (hUC : SumHC g N F K M d RU) (hEC : EitHC g N F K M d RE) {p : Int} (h : M_X8_readsEither RU RE s p 1 t) (hP : PX g N K M d q s) (hC : CdX C s) (hl : wtE C ≤ q) : CdX (C ++ etX g N F K M p d q) t := by
  obtain ⟨n, h⟩ := h
  unfold T_X8_readsEither_e at h
  obtain ⟨_, _, r1, s1, hm, hf, _, _, h⟩ := h
  have k := botX hN hg hF hRU hRE hm hP
  have pgS : PGr N (botN (tkq g N) (nxq g N) F (sngD (tkq g N) (nxq g N) F (AX g N F K M p) d)) := botN_pg (ngr hg) (sngD_pg (ngr hg) (fun d => AX_pg hg d) d)
  unfold etX
  rw [etE_eq]
  unfold etnE
  rcases h with ⟨c, hr, _⟩ | ⟨c, h⟩
  · exact absurd hr (by decide)
  · obtain rfl : r1 = 1 := by omega
    rcases k with ⟨_, q2, z, p2⟩ | ⟨z, _⟩
    · have pg := pgS _ _ hP.2.2.2.1 z
      have lw := boX_ln (F := F) (K := K) (M := M) (p := p) hg hWs d _ _ hP.2.2.2.1 z
      have C2 := botC hN hg hF hWs hK hM hRU hRE hUC hEC hm hP hC hl
      have k2 := eitLC hN hg hF hWs hK hM hRU hRE hUC hEC n 0 q2 s1 t _ h p2 (by omega) C2 (by rw [wtE_app]; omega)
      rw [z]
      rw [List.append_assoc] at k2
      exact k2
    · omega
theorem sumHC (hN : N ≤ 1000) (hg : ∀ i, g i ≤ 255) (hF : N < F) (d : Nat) : SumHC g N F K M d (M_X8_readsSum (prvS d)) := fun q s t C h hP hC hl => sumC hN hg hF d q s t C h hP hC hl
/-- tests and whiches, at every depth -/
theorem eitC (hN : N ≤ 1000) (hg : ∀ i, g i ≤ 255) (hF : N < F) (hWs : ∀ q, q ≤ N → tkq g N q = 277 → q + 4 ≤ nxq g N q) (hK : K.length ≤ 20) (hM : M.length ≤ 20) : ∀ (d q : Nat) (s : PS) (p : Int) (t : PS) (C : List OPc), M_X8_readsEither (M_X8_readsSum (prvS d)) (prvE d) s p 1 t → PX g N K M d q s → CdX C s → wtE C ≤ q → CdX (C ++ etX g N F K M p d q) t
  | 0, q, s, p, t, C, h, hP, hC, hl => eitC1 hN hg hF hWs hK hM (sumH hN hg hF 0) (fun e _ _ _ _ _ he => absurd he (by omega)) (sumHC hN hg hF 0) (fun e _ _ _ _ _ he => absurd he (by omega)) h hP hC hl
  | d + 1, q, s, p, t, C, h, hP, hC, hl => by
    refine eitC1 hN hg hF hWs hK hM (sumH hN hg hF (d + 1)) (fun e q s p r t he hr hp => ?_) (sumHC hN hg hF (d + 1)) (fun e q s p t C he hr hp hc hw => ?_) h hP hC hl
    · obtain rfl : d = e := by omega
      have hr2 : M_X8_readsEitherD d s p r t := hr
      rw [eitD_prv] at hr2
      exact eitX hN hg hF d q s p r t hr2 hp
    · obtain rfl : d = e := by omega
      have hr2 : M_X8_readsEitherD d s p 1 t := hr
      rw [eitD_prv] at hr2
      exact eitC hN hg hF hWs hK hM d q s p t C hr2 hp hc hw
end CodeX3
