/-! the class's reader: statements -/
def BtX (M : List (List Nat)) (C : List (List (List Nat))) (s : PS) : Prop := M.Nodup ∧ (∀ c ∈ C, ∀ x ∈ c, x ∈ M) ∧ ∀ (m : Nat) (l : List Nat), M[m]? = some l → ∀ j : Nat, j < 10 → (tb (s 22 m) j = true ↔ ∃ c, C[j]? = some c ∧ l ∈ c)
def NmX (W : List (Nat × Nat × Nat)) (s : PS) : Prop := ∀ (i : Nat) (h : i < W.length), s 18 i = (W[i].1 : Int) ∧ s 19 i = (W[i].2.1 : Int) ∧ s 20 i = (W[i].2.2 : Int)
def BrX (b : BST) (s : PS) : Prop := BkX b.1 b.2.1 s ∧ BtX b.2.1 b.2.2.1 s ∧ b.2.2.1.length = b.1.length ∧ b.2.2.2.1.length = b.1.length ∧ NmX b.2.2.2.1 s ∧ s 16 8 = (b.2.2.2.2.1 : Int) ∧ s 16 9 = (b.2.2.2.2.2 : Int)
section StmtX
variable {g : Nat → Nat} {N q d : Nat} {K M : List (List Nat)} {C : List (List (List Nat))} {W : List (Nat × Nat × Nat)} {s t u : PS} {r : Int}
theorem BtX.cg (h : BtX M C s) (e : t 22 = s 22) : BtX M C t := ⟨h.1, h.2.1, fun m l hm j hj => by rw [e]; exact h.2.2 m l hm j hj⟩
theorem NmX.cg (h : NmX W s) (e1 : t 18 = s 18) (e2 : t 19 = s 19) (e3 : t 20 = s 20) : NmX W t := fun i hi => by rw [e1, e2, e3]; exact h i hi
theorem tyX_kinds (h : TyX s) : 0 ≤ s 16 0 ∧ s 16 0 ≤ 10 := h.1 (16, 0, 0, 10) (by decide)
theorem tyX_marks (h : TyX s) : 0 ≤ s 16 5 ∧ s 16 5 ≤ 8 := h.1 (16, 5, 0, 8) (by decide)
/-- cells that the reader doesn't look at -/
theorem PX.usk (h : PX g N K M d q s) {k j : Nat} {v : Int} (hk : ¬ k = 16 ∧ ¬ k = 17 ∧ ¬ k = 21 ∧ ¬ k = 31 ∧ ¬ k = 32 ∧ ¬ k = 33 ∧ ¬ k = 34) : PX g N K M d q (us s k j v) := by
  obtain ⟨hT, hO, hB, hq, h4, hS⟩ := h
  have e : ∀ k2, ¬ k = k2 → us s k j v k2 = s k2 := fun k2 c => us_k (fun z => c z.symm)
  refine ⟨hT.cg (e 32 hk.2.2.2.2.1) (by rw [e 31 hk.2.2.2.1]), hO.cg (e 33 hk.2.2.2.2.2.1), hB.cg (by rw [e 16 hk.1]) (by rw [e 16 hk.1]) (e 17 hk.2.1) (e 21 hk.2.2.1), hq, ⟨by rw [e 34 hk.2.2.2.2.2.2, h4.1], h4.2⟩, hS.cg (e 31 hk.2.2.2.1)⟩
theorem PX.us16 (h : PX g N K M d q s) {j : Nat} {v : Int} (hj : ¬ j = 0 ∧ ¬ j = 5) : PX g N K M d q (us s 16 j v) := by
  obtain ⟨hT, hO, hB, hq, h4, hS⟩ := h
  exact ⟨hT.cg (us_k (by decide)) (by rw [us_k (by decide)]), hO.cg (us_k (by decide)), hB.cg (us_j (fun z => hj.1 z.symm) _) (us_j (fun z => hj.2 z.symm) _) (us_k (by decide)) (us_k (by decide)), hq, ⟨by rw [us_k (by decide), h4.1], h4.2⟩, hS.cg (us_k (by decide))⟩
theorem nmK_un (T Nx V : Nat → Nat) (c lo hi q : Nat) : nmK T Nx V c lo hi q = if T q = c then (if T (Nx q) = 259 ∧ lo ≤ V (Nx q) ∧ V (Nx q) ≤ hi then some (Nx (Nx q)) else none) else none := by
  unfold nmK psK
  split <;> rfl
/-- an own word and a number, into the row 18 -/
theorem numX_18 (hN : N ≤ 1000) (hg : ∀ i, g i ≤ 255) {cw lo hi i : Nat} (hc : 260 ≤ cw) (h : M_X8_readsNumber_18 s ((cw : Int) - 260) (lo : Int) (hi : Int) (i : Int) r t) (hP : PX g N K M d q s) : (r = 1 ∧ ∃ q2, nmK (tkq g N) (nxq g N) (nvq g N) cw lo hi q = some q2 ∧ PX g N K M d q2 t ∧ t 18 i = (nvq g N (nxq g N q) : Int) ∧ ∀ j, ¬ j = i → t 18 j = s 18 j) ∨ (r = 0 ∧ nmK (tkq g N) (nxq g N) (nvq g N) cw lo hi q = none) := by
  unfold M_X8_readsNumber_18 T_X8_readsNumber_18_e at h
  obtain ⟨_, b1, _, _, _, r1, s1, hm, hf, _, _, h⟩ := h
  have ec : (260 + ((cw : Int) - 260)) = (cw : Int) := by omega
  rw [ec] at hm
  have ps := passX (c := cw) hN hg (by omega) (by omega) hm hP
  rw [nmK_un]
  unfold psK at ps
  rcases h with ⟨c1, hr, _⟩ | ⟨c1, h⟩
  · rcases ps with ⟨z, _⟩ | ⟨_, z⟩
    · omega
    · refine Or.inr ⟨hr, ?_⟩
      by_cases e : tkq g N q = cw
      · rw [if_pos e] at z
        cases z
      · rw [if_neg e]
  · rcases ps with ⟨_, q2, z, p1⟩ | ⟨z, _⟩
    · have e : tkq g N q = cw := by
        by_cases e : tkq g N q = cw
        · exact e
        · rw [if_neg e] at z
          cases z
      rw [if_pos e] at z ⊢
      have eq2 := Option.some.inj z
      subst eq2
      have tk1 := p1.tk
      rcases h with ⟨c2, r2, s2, hm2, hf2, _, _, h⟩ | ⟨c2, r2, s2, hm2, hf2, _, _, hr, _⟩
      · have e9 : tkq g N (nxq g N q) = 259 := by omega
        have v1 := (p1.2.2.2.2.2.2 (by omega)).2.2 e9
        rw [v1] at hm2 h
        have wi := hm2
        unfold M_X11_within T_X11_within_e at wi
        obtain ⟨_, _, _, wi⟩ := wi
        rcases h with ⟨c3, r3, s3, hm3, hf3, _, _, hr, _⟩ | ⟨c3, s3, e3, s4, hm4, hf4, _, hr, hs⟩
        · refine Or.inr ⟨hr, ?_⟩
          rw [if_neg]
          intro z
          rcases wi with ⟨w, _⟩ | ⟨w, ⟨w2, _⟩ | ⟨w2, w3, _⟩⟩ <;> omega
        · refine Or.inl ⟨hr, nxq g N (nxq g N q), ?_, ?_, ?_, ?_⟩
          · rw [if_pos]
            rcases wi with ⟨w, w3, _⟩ | ⟨w, ⟨w2, w3, _⟩ | ⟨w2, w3, _⟩⟩
            · omega
            · omega
            · exact ⟨e9, by omega, by omega⟩
          · have p2 : PX g N K M d (nxq g N q) s3 := by
              rw [e3]
              exact (p1.fr hf2 (by decide)).usk (by decide)
            rw [hs]
            exact p2.step hN hg hm4 hf4 (by omega) (by omega)
          · rw [hs, hf4.1 18 (by decide), e3, Int.toNat_natCast, us_at]
          · intro j hj
            rw [hs, hf4.1 18 (by decide), e3, Int.toNat_natCast, us_j hj, hf2.1 18 (by decide), hf.1 18 (by decide)]
      · refine Or.inr ⟨hr, ?_⟩
        rw [if_neg]
        intro z
        omega
    · exact absurd z c1
/-- an own word and a number, into the row 19 -/
theorem numX_19 (hN : N ≤ 1000) (hg : ∀ i, g i ≤ 255) {cw lo hi i : Nat} (hc : 260 ≤ cw) (h : M_X8_readsNumber_19 s ((cw : Int) - 260) (lo : Int) (hi : Int) (i : Int) r t) (hP : PX g N K M d q s) : (r = 1 ∧ ∃ q2, nmK (tkq g N) (nxq g N) (nvq g N) cw lo hi q = some q2 ∧ PX g N K M d q2 t ∧ t 19 i = (nvq g N (nxq g N q) : Int) ∧ ∀ j, ¬ j = i → t 19 j = s 19 j) ∨ (r = 0 ∧ nmK (tkq g N) (nxq g N) (nvq g N) cw lo hi q = none) := by
  unfold M_X8_readsNumber_19 T_X8_readsNumber_19_e at h
  obtain ⟨_, b1, _, _, _, r1, s1, hm, hf, _, _, h⟩ := h
  have ec : (260 + ((cw : Int) - 260)) = (cw : Int) := by omega
  rw [ec] at hm
  have ps := passX (c := cw) hN hg (by omega) (by omega) hm hP
  rw [nmK_un]
  unfold psK at ps
  rcases h with ⟨c1, hr, _⟩ | ⟨c1, h⟩
  · rcases ps with ⟨z, _⟩ | ⟨_, z⟩
    · omega
    · refine Or.inr ⟨hr, ?_⟩
      by_cases e : tkq g N q = cw
      · rw [if_pos e] at z
        cases z
      · rw [if_neg e]
  · rcases ps with ⟨_, q2, z, p1⟩ | ⟨z, _⟩
    · have e : tkq g N q = cw := by
        by_cases e : tkq g N q = cw
        · exact e
        · rw [if_neg e] at z
          cases z
      rw [if_pos e] at z ⊢
      have eq2 := Option.some.inj z
      subst eq2
      have tk1 := p1.tk
      rcases h with ⟨c2, r2, s2, hm2, hf2, _, _, h⟩ | ⟨c2, r2, s2, hm2, hf2, _, _, hr, _⟩
      · have e9 : tkq g N (nxq g N q) = 259 := by omega
        have v1 := (p1.2.2.2.2.2.2 (by omega)).2.2 e9
        rw [v1] at hm2 h
        have wi := hm2
        unfold M_X11_within T_X11_within_e at wi
        obtain ⟨_, _, _, wi⟩ := wi
        rcases h with ⟨c3, r3, s3, hm3, hf3, _, _, hr, _⟩ | ⟨c3, s3, e3, s4, hm4, hf4, _, hr, hs⟩
        · refine Or.inr ⟨hr, ?_⟩
          rw [if_neg]
          intro z
          rcases wi with ⟨w, _⟩ | ⟨w, ⟨w2, _⟩ | ⟨w2, w3, _⟩⟩ <;> omega
        · refine Or.inl ⟨hr, nxq g N (nxq g N q), ?_, ?_, ?_, ?_⟩
          · rw [if_pos]
            rcases wi with ⟨w, w3, _⟩ | ⟨w, ⟨w2, w3, _⟩ | ⟨w2, w3, _⟩⟩
            · omega
            · omega
            · exact ⟨e9, by omega, by omega⟩
          · have p2 : PX g N K M d (nxq g N q) s3 := by
              rw [e3]
              exact (p1.fr hf2 (by decide)).usk (by decide)
            rw [hs]
            exact p2.step hN hg hm4 hf4 (by omega) (by omega)
          · rw [hs, hf4.1 19 (by decide), e3, Int.toNat_natCast, us_at]
          · intro j hj
            rw [hs, hf4.1 19 (by decide), e3, Int.toNat_natCast, us_j hj, hf2.1 19 (by decide), hf.1 19 (by decide)]
      · refine Or.inr ⟨hr, ?_⟩
        rw [if_neg]
        intro z
        omega
    · exact absurd z c1
/-- an own word and a number, into the row 20 -/
theorem numX_20 (hN : N ≤ 1000) (hg : ∀ i, g i ≤ 255) {cw lo hi i : Nat} (hc : 260 ≤ cw) (h : M_X8_readsNumber_20 s ((cw : Int) - 260) (lo : Int) (hi : Int) (i : Int) r t) (hP : PX g N K M d q s) : (r = 1 ∧ ∃ q2, nmK (tkq g N) (nxq g N) (nvq g N) cw lo hi q = some q2 ∧ PX g N K M d q2 t ∧ t 20 i = (nvq g N (nxq g N q) : Int) ∧ ∀ j, ¬ j = i → t 20 j = s 20 j) ∨ (r = 0 ∧ nmK (tkq g N) (nxq g N) (nvq g N) cw lo hi q = none) := by
  unfold M_X8_readsNumber_20 T_X8_readsNumber_20_e at h
  obtain ⟨_, b1, _, _, _, r1, s1, hm, hf, _, _, h⟩ := h
  have ec : (260 + ((cw : Int) - 260)) = (cw : Int) := by omega
  rw [ec] at hm
  have ps := passX (c := cw) hN hg (by omega) (by omega) hm hP
  rw [nmK_un]
  unfold psK at ps
  rcases h with ⟨c1, hr, _⟩ | ⟨c1, h⟩
  · rcases ps with ⟨z, _⟩ | ⟨_, z⟩
    · omega
    · refine Or.inr ⟨hr, ?_⟩
      by_cases e : tkq g N q = cw
      · rw [if_pos e] at z
        cases z
      · rw [if_neg e]
  · rcases ps with ⟨_, q2, z, p1⟩ | ⟨z, _⟩
    · have e : tkq g N q = cw := by
        by_cases e : tkq g N q = cw
        · exact e
        · rw [if_neg e] at z
          cases z
      rw [if_pos e] at z ⊢
      have eq2 := Option.some.inj z
      subst eq2
      have tk1 := p1.tk
      rcases h with ⟨c2, r2, s2, hm2, hf2, _, _, h⟩ | ⟨c2, r2, s2, hm2, hf2, _, _, hr, _⟩
      · have e9 : tkq g N (nxq g N q) = 259 := by omega
        have v1 := (p1.2.2.2.2.2.2 (by omega)).2.2 e9
        rw [v1] at hm2 h
        have wi := hm2
        unfold M_X11_within T_X11_within_e at wi
        obtain ⟨_, _, _, wi⟩ := wi
        rcases h with ⟨c3, r3, s3, hm3, hf3, _, _, hr, _⟩ | ⟨c3, s3, e3, s4, hm4, hf4, _, hr, hs⟩
        · refine Or.inr ⟨hr, ?_⟩
          rw [if_neg]
          intro z
          rcases wi with ⟨w, _⟩ | ⟨w, ⟨w2, _⟩ | ⟨w2, w3, _⟩⟩ <;> omega
        · refine Or.inl ⟨hr, nxq g N (nxq g N q), ?_, ?_, ?_, ?_⟩
          · rw [if_pos]
            rcases wi with ⟨w, w3, _⟩ | ⟨w, ⟨w2, w3, _⟩ | ⟨w2, w3, _⟩⟩
            · omega
            · omega
            · exact ⟨e9, by omega, by omega⟩
          · have p2 : PX g N K M d (nxq g N q) s3 := by
              rw [e3]
              exact (p1.fr hf2 (by decide)).usk (by decide)
            rw [hs]
            exact p2.step hN hg hm4 hf4 (by omega) (by omega)
          · rw [hs, hf4.1 20 (by decide), e3, Int.toNat_natCast, us_at]
          · intro j hj
            rw [hs, hf4.1 20 (by decide), e3, Int.toNat_natCast, us_j hj, hf2.1 20 (by decide), hf.1 20 (by decide)]
      · refine Or.inr ⟨hr, ?_⟩
        rw [if_neg]
        intro z
        omega
    · exact absurd z c1
/-- an own word and a number, into the row 24 -/
theorem numX_24 (hN : N ≤ 1000) (hg : ∀ i, g i ≤ 255) {cw lo hi i : Nat} (hc : 260 ≤ cw) (h : M_X8_readsNumber_24 s ((cw : Int) - 260) (lo : Int) (hi : Int) (i : Int) r t) (hP : PX g N K M d q s) : (r = 1 ∧ ∃ q2, nmK (tkq g N) (nxq g N) (nvq g N) cw lo hi q = some q2 ∧ PX g N K M d q2 t ∧ t 24 i = (nvq g N (nxq g N q) : Int) ∧ ∀ j, ¬ j = i → t 24 j = s 24 j) ∨ (r = 0 ∧ nmK (tkq g N) (nxq g N) (nvq g N) cw lo hi q = none) := by
  unfold M_X8_readsNumber_24 T_X8_readsNumber_24_e at h
  obtain ⟨_, b1, _, _, _, r1, s1, hm, hf, _, _, h⟩ := h
  have ec : (260 + ((cw : Int) - 260)) = (cw : Int) := by omega
  rw [ec] at hm
  have ps := passX (c := cw) hN hg (by omega) (by omega) hm hP
  rw [nmK_un]
  unfold psK at ps
  rcases h with ⟨c1, hr, _⟩ | ⟨c1, h⟩
  · rcases ps with ⟨z, _⟩ | ⟨_, z⟩
    · omega
    · refine Or.inr ⟨hr, ?_⟩
      by_cases e : tkq g N q = cw
      · rw [if_pos e] at z
        cases z
      · rw [if_neg e]
  · rcases ps with ⟨_, q2, z, p1⟩ | ⟨z, _⟩
    · have e : tkq g N q = cw := by
        by_cases e : tkq g N q = cw
        · exact e
        · rw [if_neg e] at z
          cases z
      rw [if_pos e] at z ⊢
      have eq2 := Option.some.inj z
      subst eq2
      have tk1 := p1.tk
      rcases h with ⟨c2, r2, s2, hm2, hf2, _, _, h⟩ | ⟨c2, r2, s2, hm2, hf2, _, _, hr, _⟩
      · have e9 : tkq g N (nxq g N q) = 259 := by omega
        have v1 := (p1.2.2.2.2.2.2 (by omega)).2.2 e9
        rw [v1] at hm2 h
        have wi := hm2
        unfold M_X11_within T_X11_within_e at wi
        obtain ⟨_, _, _, wi⟩ := wi
        rcases h with ⟨c3, r3, s3, hm3, hf3, _, _, hr, _⟩ | ⟨c3, s3, e3, s4, hm4, hf4, _, hr, hs⟩
        · refine Or.inr ⟨hr, ?_⟩
          rw [if_neg]
          intro z
          rcases wi with ⟨w, _⟩ | ⟨w, ⟨w2, _⟩ | ⟨w2, w3, _⟩⟩ <;> omega
        · refine Or.inl ⟨hr, nxq g N (nxq g N q), ?_, ?_, ?_, ?_⟩
          · rw [if_pos]
            rcases wi with ⟨w, w3, _⟩ | ⟨w, ⟨w2, w3, _⟩ | ⟨w2, w3, _⟩⟩
            · omega
            · omega
            · exact ⟨e9, by omega, by omega⟩
          · have p2 : PX g N K M d (nxq g N q) s3 := by
              rw [e3]
              exact (p1.fr hf2 (by decide)).usk (by decide)
            rw [hs]
            exact p2.step hN hg hm4 hf4 (by omega) (by omega)
          · rw [hs, hf4.1 24 (by decide), e3, Int.toNat_natCast, us_at]
          · intro j hj
            rw [hs, hf4.1 24 (by decide), e3, Int.toNat_natCast, us_j hj, hf2.1 24 (by decide), hf.1 24 (by decide)]
      · refine Or.inr ⟨hr, ?_⟩
        rw [if_neg]
        intro z
        omega
    · exact absurd z c1
theorem nat_m1 (j : Nat) : ¬ (j : Int) = -1 := by omega
theorem app_get {α : Type} (C : List α) (x : α) (j : Nat) : (C ++ [x])[j]? = if j = C.length then some x else C[j]? := by
  by_cases h : j < C.length
  · rw [List.getElem?_append_left h, if_neg (by omega)]
  · rw [List.getElem?_append_right (by omega)]
    by_cases e : j = C.length
    · rw [if_pos e, e, Nat.sub_self]
      rfl
    · rw [if_neg e, List.getElem?_eq_none (by show 1 ≤ _; omega), List.getElem?_eq_none (by omega)]
theorem nodup_get {M : List (List Nat)} (h : M.Nodup) {i j : Nat} {l : List Nat} (h1 : M[i]? = some l) (h2 : M[j]? = some l) : i = j := by
  obtain ⟨hi, e1⟩ := List.getElem?_eq_some_iff.mp h1
  obtain ⟨hj, e2⟩ := List.getElem?_eq_some_iff.mp h2
  have pw := List.pairwise_iff_getElem.mp h
  by_cases c : i < j
  · exact absurd (e1.trans e2.symm) (pw i j hi hj c)
  · by_cases c2 : j < i
    · exact absurd (e2.trans e1.symm) (pw j i hj hi c2)
    · omega
theorem BtX.mark {kd j : Nat} {l : List Nat} {cur : List (List Nat)} (h : BtX M (C ++ [cur]) s) (hC : C.length = kd) (hk : kd < 10) (hj : M[j]? = some l) (e1 : t 22 j = iOr (s 22 j) (iShl 1 (kd : Int))) (e2 : ∀ m, ¬ m = j → t 22 m = s 22 m) : BtX M (C ++ [cur ++ [l]]) t := by
  refine ⟨h.1, fun c hc x hx => ?_, fun m l2 hm i hi => ?_⟩
  · rcases List.mem_append.mp hc with z | z
    · exact h.2.1 c (List.mem_append_left _ z) x hx
    · rw [List.mem_singleton.mp z] at hx
      rcases List.mem_append.mp hx with y | y
      · exact h.2.1 cur (List.mem_append_right _ (List.mem_singleton.mpr rfl)) x y
      · rw [List.mem_singleton.mp y]
        exact List.mem_of_getElem? hj
  · have o := h.2.2 m l2 hm i hi
    rw [app_get] at o ⊢
    by_cases em : m = j
    · subst em
      have el : l2 = l := Option.some.inj (hm.symm.trans hj)
      subst el
      rw [e1, tb_or (by omega) (by omega), Bool.or_eq_true, o, decide_eq_true_eq]
      by_cases ei : i = C.length
      · rw [if_pos ei, if_pos ei]
        exact ⟨fun _ => ⟨_, rfl, List.mem_append_right _ (List.mem_singleton.mpr rfl)⟩, fun _ => Or.inr (by omega)⟩
      · rw [if_neg ei, if_neg ei]
        exact ⟨fun z => by rcases z with z | z; exact z; exact absurd z (by omega), fun z => Or.inl z⟩
    · rw [e2 m em, o]
      by_cases ei : i = C.length
      · rw [if_pos ei, if_pos ei]
        constructor
        · rintro ⟨c, hc, hl⟩
          have ec := Option.some.inj hc
          exact ⟨_, rfl, List.mem_append_left _ (ec ▸ hl)⟩
        · rintro ⟨c, hc, hl⟩
          have ec := Option.some.inj hc
          rw [← ec] at hl
          rcases List.mem_append.mp hl with y | y
          · exact ⟨_, rfl, y⟩
          · rw [List.mem_singleton.mp y] at hm
            exact absurd (nodup_get h.1 hm hj) em
      · rw [if_neg ei, if_neg ei]
theorem BtX.add {l : List Nat} (h : BtX M C s) (hl : ¬ l ∈ M) (e1 : t 22 M.length = 0) (e2 : ∀ m, ¬ m = M.length → t 22 m = s 22 m) : BtX (M ++ [l]) C t := by
  refine ⟨?_, fun c hc x hx => List.mem_append_left _ (h.2.1 c hc x hx), fun m l2 hm i hi => ?_⟩
  · rw [List.nodup_append]
    refine ⟨h.1, List.nodup_cons.mpr ⟨List.not_mem_nil, List.nodup_nil⟩, fun a ha b hb => ?_⟩
    rw [List.mem_singleton.mp hb]
    exact fun z => hl (z ▸ ha)
  · rw [app_get] at hm
    by_cases em : m = M.length
    · rw [if_pos em] at hm
      have el := Option.some.inj hm
      rw [em, e1, tb_zero (by omega)]
      refine ⟨fun z => absurd z (by decide), ?_⟩
      rintro ⟨c, hc, hx⟩
      exact absurd (h.2.1 c (List.mem_of_getElem? hc) _ hx) (el ▸ hl)
    · rw [if_neg em] at hm
      rw [e2 m em]
      exact h.2.2 m l2 hm i hi
theorem BkX.addM {l : List Nat} (h : BkX K M s) (lw : LW l) (e0 : t 16 0 = s 16 0) (e5' : t 16 5 = (M.length : Int) + 1) (e17 : t 17 = s 17) (e21 : t 21 M.length = ((e5 l : Nat) : Int)) (e22 : ∀ i, ¬ i = M.length → t 21 i = s 21 i) : BkX K (M ++ [l]) t := by
  refine ⟨e0.trans h.1, ?_, fun i hi => by rw [e17]; exact h.2.2.1 i hi, fun i hi => ?_, h.2.2.2.2.1, fun x hx => ?_⟩
  · rw [e5', List.length_append, List.length_singleton]
    omega
  · by_cases c : i = M.length
    · subst c
      rw [e21, List.getElem_append_right (Nat.le_refl _)]
      simp
    · have hi2 : i < M.length := by
        rw [List.length_append, List.length_singleton] at hi
        omega
      rw [e22 i c, List.getElem_append_left hi2]
      exact h.2.2.2.1 i hi2
  · rcases List.mem_append.mp hx with z | z
    · exact h.2.2.2.2.2 x z
    · rw [List.mem_singleton.mp z]
      exact lw
theorem BkX.addK {l : List Nat} (h : BkX K M s) (lw : LW l) (e0 : t 16 0 = (K.length : Int) + 1) (e5' : t 16 5 = s 16 5) (e17 : t 17 K.length = ((e5 l : Nat) : Int)) (e18 : ∀ i, ¬ i = K.length → t 17 i = s 17 i) (e21 : t 21 = s 21) : BkX (K ++ [l]) M t := by
  refine ⟨?_, e5'.trans h.2.1, fun i hi => ?_, fun i hi => by rw [e21]; exact h.2.2.2.1 i hi, fun x hx => ?_, h.2.2.2.2.2⟩
  · rw [e0, List.length_append, List.length_singleton]
    omega
  · by_cases c : i = K.length
    · subst c
      rw [e17, List.getElem_append_right (Nat.le_refl _)]
      simp
    · have hi2 : i < K.length := by
        rw [List.length_append, List.length_singleton] at hi
        omega
      rw [e18 i c, List.getElem_append_left hi2]
      exact h.2.2.1 i hi2
  · rcases List.mem_append.mp hx with z | z
    · exact h.2.2.2.2.1 x z
    · rw [List.mem_singleton.mp z]
      exact lw
/-- behind the choice of a mark's place -/
theorem mark128 (hN : N ≤ 1000) (hg : ∀ i, g i ≤ 255) {kd j n : Nat} (h : It_X8_readsMark n (kd : Int) (j : Int) s r t) (hP : PX g N K M d q s) (h1 : tkq g N q = 258) : r = 1 ∧ PX g N K M d (nxq g N q) t ∧ t 22 j = iOr (s 22 j) (iShl 1 (kd : Int)) ∧ ∀ m, ¬ m = j → t 22 m = s 22 m := by
  cases n with
  | zero => exact False.elim h
  | succ n =>
    have h := ul_X8_readsMark_128 h
    unfold T_X8_readsMark_128 at h
    obtain ⟨_, _, _, s4, e4, s5, hm5, hf5, _, hr, hs⟩ := h
    rw [Int.toNat_natCast] at e4
    have p4 : PX g N K M d q s4 := by
      rw [e4]
      exact hP.usk (by decide)
    have p5 := p4.step hN hg hm5 hf5 (by omega) (by omega)
    have e22 : t 22 = s4 22 := by
      rw [hs]
      exact hf5.1 22 (by decide)
    refine ⟨hr, by rw [hs]; exact p5, ?_, fun m hm => ?_⟩
    · rw [e22, e4, us_at]
    · rw [e22, e4, us_j hm]
theorem PX.bk (h : PX g N K M d q s) {K2 M2 : List (List Nat)} (h2 : BkX K2 M2 t) (e31 : t 31 = s 31) (e32 : t 32 = s 32) (e33 : t 33 = s 33) (e34 : t 34 = s 34) : PX g N K2 M2 d q t := by
  obtain ⟨hT, hO, hB, hq, h4, hS⟩ := h
  exact ⟨hT.cg e32 (by rw [e31]), hO.cg e33, h2, hq, ⟨by rw [e34, h4.1], h4.2⟩, hS.cg e31⟩
def MkOk (g : Nat → Nat) (N : Nat) (K M cur : List (List Nat)) (q : Nat) : Prop := tkq g N q = 258 ∧ ¬ ltq g N q ∈ K ∧ ¬ ltq g N q ∈ cur ∧ (ltq g N q ∈ M ∨ M.length < 8)
/-- one mark of a kind -/
theorem markX (hN : N ≤ 1000) (hg : ∀ i, g i ≤ 255) {kd : Nat} {cur : List (List Nat)} (h : M_X8_readsMark s (kd : Int) r t) (hP : PX g N K M d q s) (hC : C.length = kd) (hk : kd < 10) (hB : BtX M (C ++ [cur]) s) :
    (r = 1 ∧ MkOk g N K M cur q ∧ PX g N K (if ltq g N q ∈ M then M else M ++ [ltq g N q]) d (nxq g N q) t ∧ BtX (if ltq g N q ∈ M then M else M ++ [ltq g N q]) (C ++ [cur ++ [ltq g N q]]) t) ∨
    (r = 0 ∧ ¬ MkOk g N K M cur q) := by
  obtain ⟨n, h⟩ := h
  unfold T_X8_readsMark_e at h
  obtain ⟨ty, _, h⟩ := h
  have tk := hP.tk
  have hBk := hP.2.2.1
  have lM := tyX_marks ty
  rcases h with ⟨c1, r1, s1, hm, hf, _, _, h⟩ | ⟨c1, r1, s1, hm, hf, _, _, hr, _⟩
  · have e58 : tkq g N q = 258 := by omega
    have lw := ltq_LW hg (N := N) (q := q) (by omega) (by omega)
    have e6 := (hP.2.2.2.2.2.2 (by omega)).2.1 e58
    rw [e6] at hm h
    obtain ⟨x1, k1⟩ := kindX2 lw hm hBk
    rw [x1] at h hf
    rcases h with ⟨c2, r2, s2, hm2, hf2, _, _, h⟩ | ⟨c2, r2, s2, hm2, hf2, _, _, hr, _⟩
    · have nK : ¬ ltq g N q ∈ K := by
        rcases k1 with k | k
        · exact k.2
        · omega
      obtain ⟨x2, k2⟩ := markX2 lw hm2 hBk
      rw [x2] at h
      rcases h with ⟨c3, h⟩ | ⟨c3, h⟩
      · have nM : ¬ ltq g N q ∈ M := by
          rcases k2 with k | ⟨j, k, _⟩
          · exact k.2
          · exact absurd (k.symm.trans c3) (nat_m1 j)
        have ncur : ¬ ltq g N q ∈ cur := fun z => nM (hB.2.1 cur (List.mem_append_right _ (List.mem_singleton.mpr rfl)) _ z)
        rw [hBk.2.1] at h lM
        rcases h with ⟨c4, s3, hm3, hf3, _, h⟩ | ⟨c4, r3, s3, hm3, hf3, _, _, hr, _⟩
        · unfold M_X1_addMark_at16 T_X1_addMark_at16_e at hm3
          obtain ⟨_, _, s5, e5', s6, e6', s7, e7', _, hs7⟩ := hm3
          rw [hBk.2.1, Int.toNat_natCast] at e5' e6'
          rw [hBk.2.1] at e7'
          have es : s3 = us (us (us s 21 M.length ((e5 (ltq g N q) : Nat) : Int)) 22 M.length 0) 16 5 ((M.length : Int) + 1) := by rw [hs7, e7', e6', e5']
          have b3 : BkX K (M ++ [ltq g N q]) s3 := by
            refine hBk.addM lw ?_ ?_ ?_ ?_ (fun i hi => ?_)
            · rw [es, us_j (by decide), us_k (by decide), us_k (by decide)]
            · rw [es, us_at]
            · rw [es, us_k (by decide), us_k (by decide), us_k (by decide)]
            · rw [es, us_k (by decide), us_k (by decide), us_at]
            · rw [es, us_k (by decide), us_k (by decide), us_j hi]
          have p3 : PX g N K (M ++ [ltq g N q]) d q s3 := by
            refine hP.bk b3 ?_ ?_ ?_ ?_ <;> rw [es, us_k (by decide), us_k (by decide), us_k (by decide)]
          have t3 : BtX (M ++ [ltq g N q]) (C ++ [cur]) s3 := by
            refine hB.add nM ?_ (fun m hm => ?_)
            · rw [es, us_k (by decide), us_at]
            · rw [es, us_k (by decide), us_j hm, us_k (by decide)]
          obtain ⟨hr, p4, f1, f2⟩ := mark128 hN hg h p3 e58
          rw [if_neg nM]
          refine Or.inl ⟨hr, ⟨e58, nK, ncur, Or.inr (by omega)⟩, p4, t3.mark hC hk ?_ f1 f2⟩
          rw [app_get, if_pos rfl]
        · refine Or.inr ⟨hr, ?_⟩
          rintro ⟨_, _, _, z | z⟩
          · exact nM z
          · clear k1 k2
            omega
      · rcases k2 with k | ⟨j, k, kj, kl⟩
        · exact absurd k.1 c3
        · have yM : ltq g N q ∈ M := List.mem_of_getElem? kl
          rw [k, Int.toNat_natCast] at h
          have o := hB.2.2 j _ kl kd hk
          rw [app_get, if_pos hC.symm] at o
          rcases h with ⟨c4, h⟩ | ⟨c4, r3, s3, hm3, hf3, _, _, hr, _⟩
          · have ncur : ¬ ltq g N q ∈ cur := by
              intro z
              have := o.mpr ⟨cur, rfl, z⟩
              unfold tb at this
              rw [decide_eq_true_eq] at this
              exact this c4
            obtain ⟨hr, p4, f1, f2⟩ := mark128 hN hg h hP e58
            rw [if_pos yM]
            exact Or.inl ⟨hr, ⟨e58, nK, ncur, Or.inl yM⟩, p4, hB.mark hC hk kl f1 f2⟩
          · refine Or.inr ⟨hr, ?_⟩
            rintro ⟨_, _, z, _⟩
            obtain ⟨c, hc, hl⟩ := o.mp (by unfold tb; rw [decide_eq_true_eq]; exact c4)
            have ec := Option.some.inj hc
            exact z (ec ▸ hl)
    · refine Or.inr ⟨hr, ?_⟩
      rintro ⟨_, z, _⟩
      rcases k1 with k | k
      · exact absurd k.1 c2
      · exact z k.2
  · exact Or.inr ⟨hr, fun z => by have := z.1; omega⟩
/-- marks, behind the 'is' or the comma -/
theorem marksL (hN : N ≤ 1000) (hg : ∀ i, g i ≤ 255) {kd : Nat} (hC : C.length = kd) (hk : kd < 10) : ∀ (n i F q : Nat) (M cur : List (List Nat)) (s : PS) (r : Int) (t : PS), It_X8_readsMarks n (kd : Int) (i : Int) s r t → PX g N K M d q s → BtX M (C ++ [cur]) s → i ≤ q → N < q + F → ¬ tkq g N q = 256 → ¬ tkq g N q = 257 → (r = 1 ∧ ∃ M2 cur2 q2, mkF (tkq g N) (nxq g N) (ltq g N) K F M cur q = some ((M2, cur2), q2) ∧ PX g N K M2 d q2 t ∧ BtX M2 (C ++ [cur2]) t) ∨ (r = 0 ∧ mkF (tkq g N) (nxq g N) (ltq g N) K F M cur q = none)
  | 0, i, F, q, M, cur, s, r, t, h, _, _, _, _, _, _ => False.elim h
  | n + 1, i, F, q, M, cur, s, r, t, h, hP, hB, hi, hF, h1, h2 => by
    have h := ul_X8_readsMarks_17 h
    unfold T_X8_readsMarks_17 at h
    obtain ⟨_, _, _, h⟩ := h
    have hq := hP.2.2.2.1
    have gt := ngr hg q hq h1
    obtain ⟨F, rfl⟩ : ∃ F2, F = F2 + 1 := ⟨F - 1, by omega⟩
    have un : mkF (tkq g N) (nxq g N) (ltq g N) K (F + 1) M cur q = if tkq g N (nxq g N q) = 258 ∧ ¬ ltq g N (nxq g N q) ∈ K ∧ ¬ ltq g N (nxq g N q) ∈ cur ∧ (ltq g N (nxq g N q) ∈ M ∨ M.length < 8) then (if tkq g N (nxq g N (nxq g N q)) = 44 then mkF (tkq g N) (nxq g N) (ltq g N) K F (if ltq g N (nxq g N q) ∈ M then M else M ++ [ltq g N (nxq g N q)]) (cur ++ [ltq g N (nxq g N q)]) (nxq g N (nxq g N q)) else some ((if ltq g N (nxq g N q) ∈ M then M else M ++ [ltq g N (nxq g N q)], cur ++ [ltq g N (nxq g N q)]), nxq g N (nxq g N q))) else none := rfl
    rw [un]
    rcases h with ⟨c1, _⟩ | ⟨c1, s1, hm, hf, _, r2, s2, hm2, hf2, _, _, h⟩
    · omega
    · have p1 := hP.step hN hg hm hf h1 h2
      have b1 : BtX M (C ++ [cur]) s1 := hB.cg (hf.1 22 (by decide))
      rcases markX hN hg hm2 p1 hC hk b1 with ⟨k1, k2, p2, b2⟩ | ⟨k1, k2⟩
      · have k3 : tkq g N (nxq g N q) = 258 ∧ ¬ ltq g N (nxq g N q) ∈ K ∧ ¬ ltq g N (nxq g N q) ∈ cur ∧ (ltq g N (nxq g N q) ∈ M ∨ M.length < 8) := k2
        have tk2 := p2.tk
        have gt2 := ngr hg (nxq g N q) gt.2 (by omega)
        rw [if_pos k3]
        rcases h with ⟨z, _⟩ | ⟨_, ⟨c2, h⟩ | ⟨c2, hr, hs⟩⟩
        · omega
        · rw [if_pos (by omega)]
          exact marksL hN hg hC hk n (i + 1) F _ _ _ s2 r t h p2 b2 (by omega) (by omega) (by omega) (by omega)
        · rw [if_neg (by omega)]
          exact Or.inl ⟨hr, _, _, _, rfl, by rw [hs]; exact p2, by rw [hs]; exact b2⟩
      · have k3 : ¬ (tkq g N (nxq g N q) = 258 ∧ ¬ ltq g N (nxq g N q) ∈ K ∧ ¬ ltq g N (nxq g N q) ∈ cur ∧ (ltq g N (nxq g N q) ∈ M ∨ M.length < 8)) := k2
        rw [if_neg k3]
        rcases h with ⟨_, hr, _⟩ | ⟨z, _⟩
        · exact Or.inr ⟨hr, rfl⟩
        · omega
end StmtX
