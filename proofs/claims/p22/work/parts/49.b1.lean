/-! the wishes of a report, as both read them -/
/-- up to k words, the next at q, then the end -/
def wsT (g : Nat → Nat) (N : Nat) : Nat → Nat → Option (List (List Nat))
  | 0, q => if tkq g N q = 256 then some [] else none
  | k + 1, q => if tkq g N q = 256 then some [] else if tkq g N q = 258 then (wsT g N k (nxq g N q)).map (fun l => ltq g N q :: l) else none
section Wishes
variable {g : Nat → Nat} {N q : Nat} {s t u v : PS} {r r2 : Int}
theorem ltq_ne (hg : ∀ i, g i ≤ 255) (h : tkq g N q = 258) : ¬ ltq g N q = [] := by
  have ne : ¬ N ≤ stq g N q := by
    intro z
    have := (tk_end_iff hg).mpr z
    omega
  have hl : bL (g (stq g N q)) = true := by
    rcases (tk_cls hg ne (by omega)).mp (by omega) with c | c
    · exact c
    · exfalso
      by_cases b : (stq g N q = q ∧ cwq g q = true) ∨ 5 < rn bD g N (stq g N q) - stq g N q
      · have := tk_numb (g := g) (N := N) (q := q) rfl ne c b
        omega
      · have := tk_num (g := g) (N := N) (q := q) rfl ne c (fun z => b (Or.inl z)) (fun z => b (Or.inr z))
        omega
  have e : rn bL g N (stq g N q) = rn bL g N (stq g N q + 1) := rn_go (by omega) hl
  have ge : stq g N q + 1 ≤ rn bL g N (stq g N q + 1) := rn_ge
  intro z
  have l := congrArg List.length z
  have l2 : (ltq g N q).length = lnq g N q bL := by
    unfold ltq
    rw [List.length_map, List.length_range]
  have l3 : lnq g N q bL = rn bL g N (stq g N q) - stq g N q := rfl
  rw [l2, l3, e] at l
  have l4 : rn bL g N (stq g N q + 1) - stq g N q = 0 := l
  omega
theorem wsT_LW (hg : ∀ i, g i ≤ 255) : ∀ (k q : Nat) (ws : List (List Nat)), wsT g N k q = some ws → ws.length ≤ k ∧ ∀ w ∈ ws, LW w ∧ ¬ w = []
  | 0, q, ws, h => by
    unfold wsT at h
    split at h
    · have e := Option.some.inj h
      rw [← e]
      exact ⟨Nat.le_refl _, fun w hw => absurd hw List.not_mem_nil⟩
    · cases h
  | k + 1, q, ws, h => by
    unfold wsT at h
    split at h
    · have e := Option.some.inj h
      rw [← e]
      exact ⟨Nat.zero_le _, fun w hw => absurd hw List.not_mem_nil⟩
    · split at h
      · rename_i c1 c2
        cases e : wsT g N k (nxq g N q) with
        | none =>
          rw [e] at h
          cases h
        | some l =>
          rw [e] at h
          have e2 := Option.some.inj h
          have ih := wsT_LW hg k _ l e
          rw [← e2]
          refine ⟨Nat.succ_le_succ ih.1, fun w hw => ?_⟩
          rcases List.mem_cons.mp hw with z | z
          · rw [z]
            exact ⟨ltq_LW hg (by omega) (by omega), ltq_ne hg c2⟩
          · exact ih.2 w z
      · cases h
/-- the class, ahead of a word -/
def WhX (g : Nat → Nat) (N q : Nat) (s : PS) : Prop := TpX g N s ∧ OWX s ∧ q ≤ N ∧ StX g N q s
theorem WhX.step (hN : N ≤ 1000) (hg : ∀ i, g i ≤ 255) (h : WhX g N q s) (hm : M_X10_step s r t) (hf : Fr intsX [31] [(31, 3), (31, 4), (31, 5), (31, 6), (31, 7)] s t) (h1 : ¬ tkq g N q = 256) (h2 : ¬ tkq g N q = 257) : WhX g N (nxq g N q) t := by
  obtain ⟨hT, hO, hq, hS⟩ := h
  have l := nxq_le (g := g) hq
  have k := cwq_nx (g := g) (N := N) hg hq h1 h2
  have h3 := (hS.2 h2).1
  refine ⟨hT.cg (hf.1 32 (by decide)) (hf.f (by decide) (by decide)), hO.cg (hf.1 33 (by decide)), l.2, ?_⟩
  refine stepX hN hg hm hT hO h3 l.2 ?_
  rw [hS.1]
  rw [← k]
  omega
theorem wishL (hN : N ≤ 1000) (hg : ∀ i, g i ≤ 255) : ∀ (n k i q : Nat) (s : PS) (r : Int) (t : PS) (w0 : List (List Nat)), It_X10_readWishes_41 n (i : Int) s r t → WhX g N q s → i + k = 3 → w0.length = i → (∀ (j : Nat) (h : j < w0.length), s 41 j = ((e5 w0[j] : Nat) : Int)) → (∃ ws, wsT g N k q = some ws ∧ r = ((w0 ++ ws).length : Int) ∧ ∀ (j : Nat) (h : j < (w0 ++ ws).length), t 41 j = ((e5 (w0 ++ ws)[j] : Nat) : Int)) ∨ (r = -1 ∧ wsT g N k q = none)
  | 0, k, i, q, s, r, t, w0, h, _, _, _, _ => False.elim h
  | n + 1, k, i, q, s, r, t, w0, h, hW, hk, hl, hw => by
    replace h := ul_X10_readWishes_41_6 h
    unfold T_X10_readWishes_41_6 at h
    obtain ⟨_, _, h⟩ := h
    have tk : s 31 4 = (tkq g N q : Int) := hW.2.2.2.1
    rw [tk] at h
    have fin : tkq g N q = 256 → wsT g N k q = some [] := by
      intro e
      cases k with
      | zero =>
        unfold wsT
        rw [if_pos e]
      | succ k =>
        unfold wsT
        rw [if_pos e]
    have bad : ¬ tkq g N q = 256 → ¬ (tkq g N q = 258 ∧ 1 ≤ k) → wsT g N k q = none := by
      intro e c
      cases k with
      | zero =>
        unfold wsT
        rw [if_neg e]
      | succ k =>
        unfold wsT
        rw [if_neg e, if_neg (fun z => c ⟨z, by omega⟩)]
    rcases h with ⟨c1, ⟨c2, er, es⟩ | ⟨c2, er, es⟩⟩ | ⟨c1, ⟨c2, s1, e1, s2, hm, hf, _, h⟩ | ⟨c2, ⟨c3, er, es⟩ | ⟨c3, er, es⟩⟩⟩
    · refine Or.inl ⟨[], fin (by omega), ?_, fun j hj => ?_⟩
      · rw [List.append_nil, hl, er]
        omega
      · have hj2 : j < w0.length := by
          rw [List.append_nil] at hj
          exact hj
        rw [es, hw j hj2]
        simp only [List.append_nil]
    · exact Or.inr ⟨er, bad (by omega) (by omega)⟩
    · have e58 : tkq g N q = 258 := by omega
      obtain ⟨k, rfl⟩ : ∃ k2, k = k2 + 1 := ⟨k - 1, by clear h; omega⟩
      have w6 := (hW.2.2.2.2 (by omega)).2.1 e58
      rw [w6, Int.toNat_natCast] at e1
      have hW1 : WhX g N q s1 := by
        rw [e1]
        exact ⟨hW.1.cg (us_k (by decide)) (by rw [us_k (by decide)]), hW.2.1.cg (us_k (by decide)), hW.2.2.1, hW.2.2.2.cg (us_k (by decide))⟩
      have hW2 := hW1.step hN hg hm hf (by omega) (by omega)
      have z := wishL hN hg n k (i + 1) (nxq g N q) s2 r t (w0 ++ [ltq g N q]) h hW2 (by clear h; omega) (by rw [List.length_append, hl]; rfl) (fun j hj => by
        rw [hf.1 41 (by decide), e1]
        rw [List.length_append] at hj
        have hj2 : j < i + 1 := by
          rw [← hl]
          exact hj
        by_cases y : j = i
        · subst y
          rw [us_at]
          subst hl
          rw [List.getElem_append_right (Nat.le_refl _)]
          simp
        · rw [us_j y, List.getElem_append_left (by omega)]
          exact hw j (by omega))
      have un : wsT g N (k + 1) q = (wsT g N k (nxq g N q)).map (fun l => ltq g N q :: l) := by
        show (if tkq g N q = 256 then some [] else if tkq g N q = 258 then (wsT g N k (nxq g N q)).map (fun l => ltq g N q :: l) else none) = _
        rw [if_neg (by omega), if_pos e58]
      rcases z with ⟨ws, z1, z2, z3⟩ | ⟨z1, z2⟩
      · refine Or.inl ⟨ltq g N q :: ws, by rw [un, z1]; rfl, ?_, fun j hj => ?_⟩
        · rw [z2, List.append_assoc]
          rfl
        · have e : w0 ++ [ltq g N q] ++ ws = w0 ++ ltq g N q :: ws := by
            rw [List.append_assoc]
            rfl
          have hj2 : j < (w0 ++ [ltq g N q] ++ ws).length := by
            rw [e]
            exact hj
          rw [z3 j hj2]
          simp only [e]
      · exact Or.inr ⟨z1, by rw [un, z2]; rfl⟩
    · refine Or.inl ⟨[], fin (by omega), ?_, fun j hj => ?_⟩
      · rw [List.append_nil, hl, er]
      · have hj2 : j < w0.length := by
          rw [List.append_nil] at hj
          exact hj
        rw [es, hw j hj2]
        simp only [List.append_nil]
    · exact Or.inr ⟨er, bad (by omega) (by omega)⟩
theorem wishX (hN : N ≤ 1000) (hg : ∀ i, g i ≤ 255) (h : M_X10_readWishes_41 s r t) (hT : TpX g N s) (hO : OWX s) : (∃ ws, wsT g N 3 0 = some ws ∧ r = (ws.length : Int) ∧ ∀ (j : Nat) (h : j < ws.length), t 41 j = ((e5 ws[j] : Nat) : Int)) ∨ (r = -1 ∧ wsT g N 3 0 = none) := by
  obtain ⟨n, h⟩ := h
  unfold T_X10_readWishes_41_e at h
  obtain ⟨_, s1, hm, hf, _, h⟩ := h
  unfold M_X10_rewind T_X10_rewind_e at hm
  obtain ⟨_, a1, b1, a2, b2, a3, hm, hf3, _, _, es⟩ := hm
  have hT2 : TpX g N a2 := by
    rw [b2, b1]
    exact hT.cg (by rw [us_k (by decide), us_k (by decide)]) (by rw [us_j (by decide), us_j (by decide)])
  have hO2 : OWX a2 := by
    rw [b2, b1]
    exact hO.cg (by rw [us_k (by decide), us_k (by decide)])
  have p3 : a2 31 3 = ((0 : Nat) : Int) := by
    rw [b2, us_j (by decide), b1, us_at]
    rfl
  have p4 : a2 31 4 = 256 := by rw [b2, us_at]
  have st := stepX (q := 0) hN hg hm hT2 hO2 p3 (Nat.zero_le _) (by
    rw [p4]
    exact ⟨fun z => absurd z (by decide), fun z => absurd z cwq_0x⟩)
  have hW : WhX g N 0 s1 := by
    rw [es]
    exact ⟨hT2.cg (hf3.1 32 (by decide)) (hf3.f (by decide) (by decide)), hO2.cg (hf3.1 33 (by decide)), Nat.zero_le _, st⟩
  have k := wishL hN hg n 3 0 0 s1 r t [] h hW (by decide) rfl (fun j hj => absurd hj (Nat.not_lt_zero _))
  exact k
end Wishes
