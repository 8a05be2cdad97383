/-! the reference's reader with its codes: a wish, a name, a whole part -/
section PartCo2
variable {g : Nat → Nat} {N q k f : Nat} {s t u : PS} {r : Int} {K M : List (List Nat)} {fs : List (Nat × Nat)} {b : Bool} {C w Tt : List OPc} {ws : List (List OPc)}
/-- a wish -/
theorem k156C (hN : N ≤ 1000) (hg : ∀ i, g i ≤ 255) {n : Nat} {x3 : Int} (h : It_X12_part n 156 (fs.length : Int) (k : Int) x3 s r t) (hM : MdM g N K M k f fs q s) (hw : ¬ (k = 2 ∨ k = 5)) (hf1 : k = 0 ∨ k = 3 ∨ f ≤ 1) {b : Bool} (h3 : (x3 = 0 ∧ (k = 0 ∨ k = 3 ∨ b = false)) ∨ (¬ x3 = 0 ∧ b = true ∧ f = 0 ∧ (k = 1 ∨ k = 4) ∧ ¬ tkq g N q = 274 ∧ ¬ tkq g N q = 91 ∧ ¬ tkq g N q = 276)) (hz : t 0 8 = 0) (hc : CdS C w ws fs s) (hlw : b = true → lowW w) (hok : ¬ SpM g N K M k f fs b q = none) (hT : Tt = C ++ CB g N K M k f w fs ws b q) : PaC g N K M Tt (SpM g N K M k f fs b q) r t := by
  cases n with
  | zero => exact False.elim h
  | succ n =>
    have h := ul_X12_part_156 h
    unfold T_X12_part_156 at h
    obtain ⟨_, _, _, _, h⟩ := h
    rcases h with ⟨c1, h⟩ | ⟨c1, r1, s1, hm, _, _, _, h⟩
    · rcases h3 with ⟨_, hb⟩ | ⟨z, _⟩
      · exact k258C hN hg h hM hw hf1 rfl hb hz hc hT
      · exact absurd c1 z
    · rcases h3 with ⟨z, _⟩ | ⟨_, hb, h0, hk, n1, n2, n3⟩
      · exact absurd z c1
      · subst hb
        subst h0
        obtain ⟨e1, k1⟩ := isWordM (i := 16) hg (by decide) (by decide) hm hM.1
        rw [e1] at h
        rcases h with ⟨c2, h⟩ | ⟨c2, s2, hl, hf, ty2, h⟩
        · have n4 : ¬ tkq g N q = 277 := by rcases k1 with k | k; exact absurd k.1 (by omega); exact k.2
          refine k258C hN hg h hM hw hf1 (b := false) (P_ts hk n1 n2 n3 n4) (Or.inr (Or.inr rfl)) hz hc ?_
          rw [hT]
          have e := E_ts (T := tkq g N) (N := nxq g N) (F := 1001) (V := nvq g N) (Lw := ltq g N) (kn := knK (ltq g N) K M) (K := K) (M := M) (k := k) (fs := fs) (w := w) (ws := ws) (q := q) hk n1 n2 n3 n4 (hlw rfl) hok
          exact congrArg (C ++ ·) e
        · have e77 : tkq g N q = 277 := by rcases k1 with k | k; exact k.2; exact absurd k.1 c2
          have sp : SpM g N K M k 0 fs true q = (if tkq g N (nxq g N q) = 258 then some (nxq g N (nxq g N q)) else none).bind (conE (tkq g N) (nxq g N) 1001 (knK (ltq g N) K M) k fs) := by
            show conB (tkq g N) (nxq g N) 1001 (knK (ltq g N) K M) k 0 fs true q = _
            rw [P_at (by omega) (by omega) n1 n2]
            unfold atK atT
            rw [if_pos hk, if_neg n3, if_pos e77]
          obtain ⟨h1, h2, h3', h4, h5, h6, h7, h8⟩ := hM
          rcases lookX hN hg (h1.mw (by omega)) hl hf with ⟨j1, j2⟩ | j1
          · have fl2 := tyM_flt ty2
            refine absurd hz ?_
            rcases h with ⟨_, r3, s3, hm3, hf3, _, _, ⟨_, ⟨z, _⟩ | ⟨_, _, ht⟩⟩ | ⟨_, s4, _, _, _, z, _, ht⟩⟩ | ⟨_, s3, _, _, _, z, _, ht⟩
            · omega
            · rw [ht, hf3.f (by decide) (by decide)]
              exact j1
            · rw [ht]
              omega
            · rw [ht]
              omega
          · have M2 : MdM g N K M k 0 fs (nxq g N q) s2 := ⟨j1, h2.fr hf (by decide), (hf.f (by decide) (by decide)).trans h3', (hf.f (by decide) (by decide)).trans h4, h5, h6.fr hf (by decide), h7, h8⟩
            rcases h with ⟨c3, r3, s3, hm3, _, _, _, h⟩ | ⟨c3, s3, _, _, _, z, _, ht⟩
            · obtain ⟨e3, k3⟩ := isOwnM hg hm3 j1 c3
              rw [e3] at h
              rcases h with ⟨c4, ⟨_, s4, e4, s5, ha, hfa, _, s6, e6, s7, hl7, hf7, _, hr, ht⟩ | ⟨z, _⟩⟩ | ⟨c4, s4, _, _, _, z, _, ht⟩
              · have e58 : tkq g N (nxq g N q) = 258 := by rcases k3 with k | k; exact absurd k.1 (by omega); exact k.2
                have M4 : MdM g N K M k 0 fs (nxq g N q) s4 := by
                  obtain ⟨i1, i2, i3, i4, i5, i6, i7⟩ := M2
                  refine ⟨i1.cg (by rw [e4, us_k (by decide)]) (fun j _ _ => by rw [e4, us_k (by decide)]), i2.cg (by rw [e4, us_k (by decide)]) (by rw [e4, us_k (by decide)]) (by rw [e4, us_k (by decide)]) (by rw [e4, us_k (by decide)]) (by rw [e4, us_k (by decide)]), by rw [e4, us_k (by decide)]; exact i3, by rw [e4, us_k (by decide)]; exact i4, i5, i6.cg (fun i _ => ⟨by rw [e4, us_k (by decide)], by rw [e4, us_k (by decide)], by rw [e4, us_k (by decide)]⟩), i7⟩
                have M6 : MdM g N K M k 2 fs (nxq g N q) s6 := by
                  rw [e6, Int.toNat_natCast]
                  exact (M4.add ha).ph (f2 := 2) (by decide)
                have c2b : CdS C w ws fs s2 := hc.fr hf (by decide)
                obtain ⟨_, _, w3, _, _⟩ := j1.word hg c3
                have C5 : CdS (C ++ [(7, 0, ltq g N (nxq g N q))]) w ws fs s5 := by
                  refine ⟨c2b.1, addWM c2b.2.1 ?_ ha, ?_⟩
                  · have e13 : s2 0 13 = s 0 13 := hf.f (by decide) (by decide)
                    rw [e4, w3, e13, hf.1 14 (by decide)]
                  · have c4b : WtM (w :: ws) s4 := by
                      rw [e4]
                      exact c2b.2.2.uk (by decide)
                    exact c4b.fr hfa (by decide)
                have C6 : CdS (C ++ [(7, 0, ltq g N (nxq g N q))]) w ws fs s6 := by
                  rw [e6]
                  exact C5.uk (by decide)
                rw [ht] at hz ⊢
                refine endC hN hg M6 (by omega) ?_ (fun _ => rfl) hl7 hf7 hr hz C6 (appT ?_)
                · rw [sp, if_pos e58]
                  exact (conA_2 (by omega) (by omega)).symm
                · rw [hT]
                  have e := E_at (T := tkq g N) (N := nxq g N) (F := 1001) (V := nvq g N) (Lw := ltq g N) (kn := knK (ltq g N) K M) (K := K) (M := M) (k := k) (fs := fs) (w := w) (ws := ws) (f := 0) (q := q) (by omega) (by omega) n1 n2
                  have e2 : aE (tkq g N) (nxq g N) 1001 (nvq g N) (ltq g N) K M k (8 - fs.length) q = [(7, 0, ltq g N (nxq g N q))] := by
                    unfold aE atE
                    rw [if_pos hk, if_neg n3, if_pos e77]
                  have e3 : atK (tkq g N) (nxq g N) 1001 (knK (ltq g N) K M) k (8 - fs.length) q = some (nxq g N (nxq g N q)) := by
                    unfold atK atT
                    rw [if_pos hk, if_neg n3, if_pos e77, if_pos e58]
                  rw [e2, e3] at e
                  have e4 := cdA_2 (T := tkq g N) (N := nxq g N) (F := 1001) (V := nvq g N) (Lw := ltq g N) (kn := knK (ltq g N) K M) (K := K) (M := M) (k := k) (fs := fs) (w := w) (ws := ws) (q := nxq g N (nxq g N q)) (two := false) (by omega : ¬ k = 0) (by omega : ¬ k = 3)
                  show C ++ cdB _ _ _ _ _ _ _ _ _ _ _ _ _ _ _ = _
                  rw [e, show CA g N K M k 2 w fs ws (nxq g N (nxq g N q)) = _ from e4]
                  rfl
              · exact absurd j1.2.2.1 (by omega)
              · rw [ht] at hz
                omega
            · rw [ht] at hz
              omega
theorem fkL2 {x : Int} {a : Nat} : ∀ (n i : Nat) (s : PS) (r : Int) (t : PS), It_X12_findKind n x (i : Int) s r t → a ≤ 1 → s 0 13 = (a : Int) → s 2 a = (K.length : Int) → (∀ j : Nat, j < i → ¬ s 6 (10 * a + j) = x) → r = -1 ∨ ∃ j : Nat, j < K.length ∧ r = (j : Int) ∧ s 6 (10 * a + j) = x ∧ ∀ i : Nat, i < j → ¬ s 6 (10 * a + i) = x
  | 0, i, s, r, t, h, _, _, _, _ => False.elim h
  | n + 1, i, s, r, t, h, ha, h13, h2, hno => by
    have h := ul_X12_findKind_2 h
    unfold T_X12_findKind_2 at h
    obtain ⟨_, _, h⟩ := h
    have ei : (10 * s 0 13 + (i : Int)).toNat = 10 * a + i := by rw [h13]; omega
    have e2 : (s 0 13).toNat = a := by rw [h13]; omega
    rw [ei, e2, h2] at h
    rcases h with ⟨c1, hr, hs⟩ | ⟨c1, ⟨c2, hr, hs⟩ | ⟨c2, h⟩⟩
    · exact Or.inl hr
    · exact Or.inr ⟨i, by omega, hr, c2, hno⟩
    · refine fkL2 n (i + 1) s r t h ha h13 h2 (fun j hj => ?_)
      by_cases e : j = i
      · rw [e]
        exact c2
      · exact hno j (by omega)
theorem fmL2 {x : Int} {a : Nat} : ∀ (n i : Nat) (s : PS) (r : Int) (t : PS), It_X12_findMark n x (i : Int) s r t → a ≤ 1 → s 0 13 = (a : Int) → s 3 a = (M.length : Int) → (∀ j : Nat, j < i → ¬ s 7 (8 * a + j) = x) → r = -1 ∨ ∃ j : Nat, j < M.length ∧ r = (j : Int) ∧ s 7 (8 * a + j) = x ∧ ∀ i : Nat, i < j → ¬ s 7 (8 * a + i) = x
  | 0, i, s, r, t, h, _, _, _, _ => False.elim h
  | n + 1, i, s, r, t, h, ha, h13, h2, hno => by
    have h := ul_X12_findMark_2 h
    unfold T_X12_findMark_2 at h
    obtain ⟨_, _, h⟩ := h
    have ei : (8 * s 0 13 + (i : Int)).toNat = 8 * a + i := by rw [h13]; omega
    have e2 : (s 0 13).toNat = a := by rw [h13]; omega
    rw [ei, e2, h2] at h
    rcases h with ⟨c1, hr, hs⟩ | ⟨c1, ⟨c2, hr, hs⟩ | ⟨c2, h⟩⟩
    · exact Or.inl hr
    · exact Or.inr ⟨i, by omega, hr, c2, hno⟩
    · refine fmL2 n (i + 1) s r t h ha h13 h2 (fun j hj => ?_)
      by_cases e : j = i
      · rw [e]
        exact c2
      · exact hno j (by omega)
theorem fkI {l : List Nat} (hl : LW l) (h : M_X12_findKind s ((c8 l : Nat) : Int) r t) (hB : BkM K M s) : r = -1 ∨ r = (idx K l : Int) := by
  obtain ⟨n, h⟩ := h
  unfold T_X12_findKind_e at h
  obtain ⟨_, h⟩ := h
  obtain ⟨a, h1, h2, h3, h4, h5, h6, h7, h8⟩ := hB
  rcases fkL2 (K := K) n 0 s r t h h1 h2 h3 (fun j hj => absurd hj (by omega)) with k | ⟨j, k1, k2, k3, k4⟩
  · exact Or.inl k
  · refine Or.inr ?_
    rw [h5 j k1] at k3
    have e1 := c8_inj (h7 _ (List.getElem_mem k1)) hl (Int.ofNat_inj.mp k3)
    have e2 : idx K l = j := idx_eq k1 e1 (fun i hi e => by
      have z := k4 i hi
      rw [h5 i (Nat.lt_trans hi k1), e] at z
      exact z rfl)
    rw [e2]
    exact k2
theorem fmI {l : List Nat} (hl : LW l) (h : M_X12_findMark s ((c8 l : Nat) : Int) r t) (hB : BkM K M s) : r = -1 ∨ r = (idx M l : Int) := by
  obtain ⟨n, h⟩ := h
  unfold T_X12_findMark_e at h
  obtain ⟨_, h⟩ := h
  obtain ⟨a, h1, h2, h3, h4, h5, h6, h7, h8⟩ := hB
  rcases fmL2 (M := M) n 0 s r t h h1 h2 h4 (fun j hj => absurd hj (by omega)) with k | ⟨j, k1, k2, k3, k4⟩
  · exact Or.inl k
  · refine Or.inr ?_
    rw [h6 j k1] at k3
    have e1 := c8_inj (h8 _ (List.getElem_mem k1)) hl (Int.ofNat_inj.mp k3)
    have e2 : idx M l = j := idx_eq k1 e1 (fun i hi e => by
      have z := k4 i hi
      rw [h6 i (Nat.lt_trans hi k1), e] at z
      exact z rfl)
    rw [e2]
    exact k2
/-- a name in a which -/
theorem atomC (hN : N ≤ 1000) (hg : ∀ i, g i ≤ 255) (h : M_X12_atom s (fs.length : Int) r t) (hM : MdM g N K M k f fs q s) (hw : k = 2 ∨ k = 5) (n1 : ¬ tkq g N q = 274) (n2 : ¬ tkq g N q = 91) (hz : t 0 8 = 0) (hc : CdS C w ws fs s) (hT : Tt = C ++ CB g N K M k f w fs ws true q) : PaC g N K M Tt (SpM g N K M k f fs true q) r t := by
  have k0 : ¬ k = 0 := by omega
  have k3' : ¬ k = 3 := by omega
  have k14 : ¬ (k = 1 ∨ k = 4) := by omega
  have sp : SpM g N K M k f fs true q = (if tkq g N q = 275 then some (nxq g N q) else if tkq g N q = 258 ∧ knK (ltq g N) K M q = true then some (nxq g N q) else none).bind (conE (tkq g N) (nxq g N) 1001 (knK (ltq g N) K M) k fs) := by
    show conB (tkq g N) (nxq g N) 1001 (knK (ltq g N) K M) k f fs true q = _
    rw [P_at (by omega) (by omega) n1 n2]
    unfold atK atW
    rw [if_neg (by omega)]
  unfold M_X12_atom T_X12_atom_e at h
  obtain ⟨_, _, r1, s1, hm, _, _, _, h⟩ := h
  have hMX := hM.1
  obtain ⟨e1, k1⟩ := isWordM (i := 14) hg (by decide) (by decide) hm hMX
  rw [e1] at h
  have ea := E_at (T := tkq g N) (N := nxq g N) (F := 1001) (V := nvq g N) (Lw := ltq g N) (kn := knK (ltq g N) K M) (K := K) (M := M) (k := k) (fs := fs) (w := w) (ws := ws) (f := f) (q := q) k0 k3' n1 n2
  have ea4 := cdA_2 (T := tkq g N) (N := nxq g N) (F := 1001) (V := nvq g N) (Lw := ltq g N) (kn := knK (ltq g N) K M) (K := K) (M := M) (k := k) (fs := fs) (w := w) (ws := ws) (q := nxq g N q) (two := false) k0 k3'
  have ok : ∀ (a c : Int) (o : OPc) (s2 s3 s4 : PS), ¬ tkq g N q = 256 → (tkq g N q = 275 ∨ (tkq g N q = 258 ∧ knK (ltq g N) K M q = true)) → awE (tkq g N) (ltq g N) K M (8 - fs.length) q = [o] → a = (o.1 : Int) → c = o.2.1 → ¬ o.1 = 7 → M_X12_add s a c 0 s2 → Fr intsM [13, 14] [] s s2 → s3 = us s2 17 (fs.length : Int).toNat 2 → M_X12_looks s3 0 s4 → Fr intsM [0] [(0, 3), (0, 4), (0, 5), (0, 6), (0, 7), (0, 8), (0, 9)] s3 s4 → r = 1 → t = s4 → PaC g N K M Tt (SpM g N K M k f fs true q) r t := by
    intro a c o s2 s3 s4 h0 hk hao ho1 ho2 ho7 ha hfa e3 hl hf hr ht
    have M3 : MdM g N K M k 2 fs q s3 := by
      rw [e3, Int.toNat_natCast]
      exact (hM.add ha).ph (f2 := 2) (by decide)
    have C3 : CdS (C ++ [o]) w ws fs s3 := by
      rw [e3]
      exact (hc.add ha hfa ho1 ho2 ho7).uk (by decide)
    rw [ht] at hz ⊢
    have fp : (if tkq g N q = 275 then some (nxq g N q) else if tkq g N q = 258 ∧ knK (ltq g N) K M q = true then some (nxq g N q) else none) = some (nxq g N q) := by
      by_cases c1 : tkq g N q = 275
      · rw [if_pos c1]
      · rcases hk with z | z
        · exact absurd z c1
        · rw [if_neg c1, if_pos z]
    refine endC hN hg M3 h0 ?_ (fun _ => rfl) hl hf hr hz C3 (appT ?_)
    · rw [sp, fp]
      exact (conA_2 (by omega) (by omega)).symm
    · rw [hT]
      have e2 : aE (tkq g N) (nxq g N) 1001 (nvq g N) (ltq g N) K M k (8 - fs.length) q = [o] := by
        unfold aE
        rw [if_neg k14]
        exact hao
      have e3 : atK (tkq g N) (nxq g N) 1001 (knK (ltq g N) K M) k (8 - fs.length) q = some (nxq g N q) := by
        unfold atK atW
        rw [if_neg k14]
        exact fp
      rw [e2, e3] at ea
      show C ++ cdB _ _ _ _ _ _ _ _ _ _ _ _ _ _ _ = _
      rw [ea, show CA g N K M k 2 w fs ws (nxq g N q) = _ from ea4]
      rfl
  rcases h with ⟨c1, h⟩ | ⟨c1, s2, ha, hfa, _, s3, e3, _, s4, hl, hf, _, hr, ht⟩
  · have n75 : ¬ tkq g N q = 275 := by rcases k1 with k | k; exact absurd k.1 (by omega); exact k.2
    rcases h with ⟨c2, r2, s2, hm2, _, _, _, h⟩ | ⟨c2, s2, _, _, _, z, _, ht⟩
    · obtain ⟨e2, k2⟩ := isOwnM hg hm2 hMX c2
      obtain ⟨w1, w2, w3, w4, w5⟩ := hMX.word hg c2
      rw [e2, w3] at h
      rcases h with ⟨c3, _, r3, s3, hm3, _, _, _, r4, s4, hm4, _, _, _, h⟩ | ⟨c3, s3, _, _, _, z, _, ht⟩
      · have e58 : tkq g N q = 258 := by rcases k2 with k | k; exact absurd k.1 (by omega); exact k.2
        obtain ⟨e3, k3⟩ := fkM w4 hm3 hM.2.1
        have i3 := fkI w4 hm3 hM.2.1
        rw [e3] at hm4
        obtain ⟨e4, k4⟩ := fmM w4 hm4 hM.2.1
        have i4 := fmI w4 hm4 hM.2.1
        rw [e4] at h
        have kk : knK (ltq g N) K M q = true ↔ (ltq g N q ∈ K ∨ ltq g N q ∈ M) := by
          unfold knK
          rw [Bool.or_eq_true, decide_eq_true_eq, decide_eq_true_eq]
        rcases h with ⟨c4, _, _, s5, ha, hfa, _, s6, e6, _, s7, hl, hf, _, hr, ht⟩ | ⟨c4, ⟨c5, _, _, s5, ha, hfa, _, s6, e6, _, s7, hl, hf, _, hr, ht⟩ | ⟨c5, s5, hb, _, _, _, _, s6, ha, hfa, _, s7, e7, z, _, ht⟩⟩
        · have yk : ltq g N q ∈ K := by
            rcases k3 with k | k
            · exact absurd k.1 (by omega)
            · exact k.2
          refine ok _ _ (8, (idx K (ltq g N q) : Int), []) _ _ _ (by omega) (Or.inr ⟨e58, kk.mpr (Or.inl yk)⟩) ?_ rfl ?_ (show ¬ (8 : Nat) = 7 by decide) ha hfa e6 hl hf hr ht
          · unfold awE
            rw [if_neg n75, if_pos yk]
          · rcases i3 with z | z
            · omega
            · exact z
        · have nk : ¬ ltq g N q ∈ K := by
            rcases k3 with k | k
            · exact k.2
            · exact absurd k.1 c4
          have ym : ltq g N q ∈ M := by
            rcases k4 with k | ⟨j, _, _, k⟩
            · exact absurd k.1 (by omega)
            · exact List.mem_of_getElem? k
          refine ok _ _ (9, (idx M (ltq g N q) : Int), []) _ _ _ (by omega) (Or.inr ⟨e58, kk.mpr (Or.inr ym)⟩) ?_ rfl ?_ (show ¬ (9 : Nat) = 7 by decide) ha hfa e6 hl hf hr ht
          · unfold awE
            rw [if_neg n75, if_neg nk]
          · rcases i4 with z | z
            · omega
            · exact z
        · rw [ht, e7, us_k (by decide), addM ha 0 (by decide) (by decide)] at hz
          exact absurd hz z
      · rw [ht] at hz
        omega
    · rw [ht] at hz
      omega
  · have e75 : tkq g N q = 275 := by rcases k1 with k | k; exact k.2; exact absurd k.1 c1
    refine ok _ _ (6, 0, []) _ _ _ (by omega) (Or.inl e75) ?_ rfl rfl (by decide) ha hfa e3 hl hf hr ht
    unfold awE
    rw [if_pos e75]
theorem partMC (hN : N ≤ 1000) (hg : ∀ i, g i ≤ 255) (h : M_X12_part s r t) (hH : HdC g N K M Tt k f fs b q s) (hz : t 0 8 = 0) (hok : ¬ SpM g N K M k f fs b q = none) : PaC g N K M Tt (SpM g N K M k f fs b q) r t := by
  obtain ⟨⟨h1, h2, h3, h4, h5, h6, h7, h8, h9, h10, h11, h12, h13, f2⟩, C, w, ws, hc, hlw, hT⟩ := hH
  have hcm : CdS C w ws fs (us s 18 fs.length 0) := hc.uk (by decide)
  have hk5 := low_k h10
  have ix : (s 0 32 - 1).toNat = fs.length := by rw [h3]; omega
  have iz : s 0 32 - 1 = (fs.length : Int) := by omega
  obtain ⟨n, hmain⟩ := h
  unfold T_X12_part_e at hmain
  obtain ⟨_, hmain⟩ := hmain
  rw [ix, iz, h6, h8] at hmain
  -- the frame's word that it begins is taken away
  have md : MdM g N K M k f fs q (us s 18 fs.length 0) := by
    refine ⟨h1.cg (us_k (by decide)) (fun j _ _ => by rw [us_k (by decide)]), h2.cg (by rw [us_k (by decide)]) (us_k (by decide)) (us_k (by decide)) (us_k (by decide)) (us_k (by decide)), by rw [us_k (by decide)]; exact h3, by rw [us_k (by decide)]; exact h4, h5, ⟨by rw [us_k (by decide)]; exact h6, by rw [us_k (by decide)]; exact h7, us_at, h9.cg (fun i hi => ⟨by rw [us_k (by decide)], by rw [us_k (by decide)], by rw [us_j (by omega)]⟩)⟩, h10, f2⟩
  have k102 : ∀ (n : Nat) (x3 : Int), It_X12_part n 102 (fs.length : Int) (k : Int) x3 s r t → ((x3 = 0 ∧ (k = 0 ∨ k = 3 ∨ b = false)) ∨ (¬ x3 = 0 ∧ b = true ∧ ¬ k = 0 ∧ ¬ k = 3 ∧ ¬ tkq g N q = 274 ∧ ¬ tkq g N q = 91)) → PaC g N K M Tt (SpM g N K M k f fs b q) r t := by
    intro n x3 h hx
    clear hmain
    cases n with
    | zero => exact False.elim h
    | succ n =>
      have h := ul_X12_part_102 h
      unfold T_X12_part_102 at h
      obtain ⟨_, _, _, _, s1, e1, r2, s2, hm2, _, _, _, h⟩ := h
      rw [Int.toNat_natCast] at e1
      rw [← e1] at md hcm
      obtain ⟨e2, k2⟩ := isWhichM hm2
      rw [e2] at h
      rcases h with ⟨c2, h⟩ | ⟨c2, r3, s3, hm3, _, _, hr3, hr, ht⟩
      · have nw : ¬ (k = 2 ∨ k = 5) := by rcases k2 with k | k <;> omega
        have hf1 : k = 0 ∨ k = 3 ∨ f ≤ 1 := by
          cases b with
          | true => have := h11 rfl; omega
          | false => exact h13 rfl
        rcases h with ⟨c3, h⟩ | ⟨c3, r3, s3, hm3, _, _, _, h⟩
        · rcases hx with ⟨_, y⟩ | ⟨y, _⟩
          · exact k156C hN hg h md nw hf1 (Or.inl ⟨c3, y⟩) hz hcm hlw hok hT
          · exact absurd c3 y
        · rcases hx with ⟨y, _⟩ | ⟨_, y1, y2, y3, y4, y5⟩
          · exact absurd y c3
          · have hb := y1
            subst hb
            have f0 := h11 rfl
            obtain ⟨e3, k3⟩ := isWordM (i := 15) hg (by decide) (by decide) hm3 md.1
            rw [e3] at h
            rcases h with ⟨c4, h⟩ | ⟨c4, s4, ha, hfa, _, s5, e5', s6, hl, hf, _, hr, ht⟩
            · have n76 : ¬ tkq g N q = 276 := by rcases k3 with k | k; exact absurd k.1 (by omega); exact k.2
              exact k156C hN hg h md nw hf1 (Or.inr ⟨c3, rfl, f0, by omega, y4, y5, n76⟩) hz hcm hlw hok hT
            · have e76 : tkq g N q = 276 := by rcases k3 with k | k; exact k.2; exact absurd k.1 c4
              have M5 : MdM g N K M k 2 fs q s5 := by
                rw [e5', Int.toNat_natCast]
                exact (md.add ha).ph (f2 := 2) (by decide)
              have C5 : CdS (C ++ [(6, 0, [])]) w ws fs s5 := by
                rw [e5']
                exact (hcm.add (o := (6, 0, [])) ha hfa rfl rfl (by decide)).uk (by decide)
              rw [ht] at hz ⊢
              refine endC hN hg M5 (by omega) ?_ (fun _ => rfl) hl hf hr hz C5 (appT ?_)
              · show conB (tkq g N) (nxq g N) 1001 (knK (ltq g N) K M) k f fs true q = _
                rw [P_at y2 y3 y4 y5]
                unfold atK atT
                rw [if_pos (by omega), if_pos e76]
                exact (conA_2 y2 y3).symm
              · rw [hT]
                have e := E_at (T := tkq g N) (N := nxq g N) (F := 1001) (V := nvq g N) (Lw := ltq g N) (kn := knK (ltq g N) K M) (K := K) (M := M) (k := k) (fs := fs) (w := w) (ws := ws) (f := f) (q := q) y2 y3 y4 y5
                have e2 : aE (tkq g N) (nxq g N) 1001 (nvq g N) (ltq g N) K M k (8 - fs.length) q = [(6, 0, [])] := by
                  unfold aE atE
                  rw [if_pos (by omega), if_pos e76]
                have e3 : atK (tkq g N) (nxq g N) 1001 (knK (ltq g N) K M) k (8 - fs.length) q = some (nxq g N q) := by
                  unfold atK atT
                  rw [if_pos (by omega), if_pos e76]
                rw [e2, e3] at e
                have e4 := cdA_2 (T := tkq g N) (N := nxq g N) (F := 1001) (V := nvq g N) (Lw := ltq g N) (kn := knK (ltq g N) K M) (K := K) (M := M) (k := k) (fs := fs) (w := w) (ws := ws) (q := nxq g N q) (two := false) y2 y3
                show C ++ cdB _ _ _ _ _ _ _ _ _ _ _ _ _ _ _ = _
                rw [e, show CA g N K M k 2 w fs ws (nxq g N q) = _ from e4]
                rfl
      · have yw : k = 2 ∨ k = 5 := by rcases k2 with k | k <;> omega
        have hb := h12 yw
        subst hb
        rcases hx with ⟨_, y⟩ | ⟨_, _, _, _, y4, y5⟩
        · rcases y with y | y | y
          · omega
          · omega
          · exact absurd y (by decide)
        · rw [ht] at hz ⊢
          have er : r = r3 := by omega
          rw [er]
          exact atomC hN hg hm3 md yw y4 y5 hz hcm hT
  have k64 : ∀ (n : Nat) (x3 : Int), It_X12_part n 64 (fs.length : Int) (k : Int) x3 s r t → ((x3 = 0 ∧ (k = 0 ∨ k = 3 ∨ b = false)) ∨ (¬ x3 = 0 ∧ b = true ∧ ¬ k = 0 ∧ ¬ k = 3 ∧ ¬ tkq g N q = 274)) → PaC g N K M Tt (SpM g N K M k f fs b q) r t := by
    intro n x3 h hx
    clear hmain
    cases n with
    | zero => exact False.elim h
    | succ n =>
      have h := ul_X12_part_64 h
      unfold T_X12_part_64 at h
      obtain ⟨_, _, _, _, r1, s1, hm1, _, _, _, h⟩ := h
      obtain ⟨e1, k1⟩ := isSignM (c := 91) (by decide) hm1 h1
      rw [e1] at h
      rcases h with ⟨c1, h⟩ | ⟨c1, ⟨c2, h⟩ | ⟨c2, s2, e2, r3, s3, hm3, _, _, _, h⟩⟩
      · refine k102 n x3 h ?_
        rcases hx with y | ⟨y1, y2, y3, y4, y5⟩
        · exact Or.inl y
        · refine Or.inr ⟨y1, y2, y3, y4, y5, ?_⟩
          rcases k1 with k | k
          · exact absurd k.1 (by omega)
          · exact k.2
      · refine k102 n x3 h ?_
        rcases hx with y | ⟨y1, _⟩
        · exact Or.inl y
        · exact absurd c2 y1
      · rcases hx with ⟨y, _⟩ | ⟨y1, y2, y3, y4, y5⟩
        · exact absurd y c2
        · have hb := y2
          subst hb
          have e91 : tkq g N q = 91 := by rcases k1 with k | k; exact k.2; exact absurd k.1 c1
          rw [Int.toNat_natCast] at e2
          rw [← e2] at md hcm
          obtain ⟨e3, k3⟩ := isTestM hm3
          rw [e3] at h
          obtain ⟨m1, m2, m3, m4, m5, m6, m7, m8⟩ := md
          rcases h with ⟨c3, s4, hm4, _, _, hr, ht⟩ | ⟨c3, s4, hm4, _, _, hr, ht⟩
          · have nt : ¬ (k = 1 ∨ k = 4) := by rcases k3 with k | k <;> omega
            rw [ht] at hz ⊢
            refine openC (k2 := 5) hN hg (fun l8 => P_sq (ngr hg) (by omega) h1.2.1 y3 y4 ⟨fun z => absurd z nt, fun z => by omega⟩ (Or.inr rfl) l8 e91) m1 (by omega) m2 m3 m4 m5 m6 ⟨Or.inr (Or.inr ⟨rfl, by omega⟩), m8, m7⟩ hm4 hr hz hcm (fun l8 => ?_)
            rw [hT]
            have e := E_sq (T := tkq g N) (N := nxq g N) (F := 1001) (V := nvq g N) (Lw := ltq g N) (kn := knK (ltq g N) K M) (K := K) (M := M) (k := k) (fs := fs) (w := w) (ws := ws) (f := f) (q := q) (k2 := 5) (ngr (N := N) hg) (by omega) h1.2.1 y3 y4 ⟨fun z => absurd z nt, fun z => by omega⟩ (Or.inr rfl) l8 e91
            exact congrArg (C ++ ·) e
          · have yt : k = 1 ∨ k = 4 := by rcases k3 with k | k <;> omega
            rw [ht] at hz ⊢
            refine openC (k2 := 4) hN hg (fun l8 => P_sq (ngr hg) (by omega) h1.2.1 y3 y4 ⟨fun _ => Or.inr rfl, fun _ => yt⟩ (Or.inl rfl) l8 e91) m1 (by omega) m2 m3 m4 m5 m6 ⟨Or.inr (Or.inl ⟨rfl, yt⟩), m8, m7⟩ hm4 hr hz hcm (fun l8 => ?_)
            rw [hT]
            have e := E_sq (T := tkq g N) (N := nxq g N) (F := 1001) (V := nvq g N) (Lw := ltq g N) (kn := knK (ltq g N) K M) (K := K) (M := M) (k := k) (fs := fs) (w := w) (ws := ws) (f := f) (q := q) (k2 := 4) (ngr (N := N) hg) (by omega) h1.2.1 y3 y4 ⟨fun _ => Or.inr rfl, fun _ => yt⟩ (Or.inl rfl) l8 e91
            exact congrArg (C ++ ·) e
  rcases hmain with ⟨c1, r1, s1, hm1, _, _, _, h⟩ | ⟨c1, h⟩
  · obtain ⟨e1, _⟩ := isWordM (i := 13) hg (by decide) (by decide) hm1 h1
    rw [e1] at h
    have hb : b = false := by
      cases b with
      | true => exact absurd c1 (by decide)
      | false => rfl
    rcases h with ⟨_, h⟩ | ⟨_, h⟩
    · exact k64 n 0 h (Or.inl ⟨rfl, Or.inr (Or.inr hb)⟩)
    · exact k64 n 0 h (Or.inl ⟨rfl, Or.inr (Or.inr hb)⟩)
  · have hb : b = true := by
      cases b with
      | true => rfl
      | false => exact absurd rfl c1
    rcases h with ⟨c2, r1, s1, hm1, _, _, _, h⟩ | ⟨c2, h⟩
    · obtain ⟨e1, _⟩ := isWordM (i := 13) hg (by decide) (by decide) hm1 h1
      rw [e1] at h
      rcases h with ⟨_, h⟩ | ⟨_, h⟩
      · exact k64 n 0 h (Or.inl ⟨rfl, by omega⟩)
      · exact k64 n 0 h (Or.inl ⟨rfl, by omega⟩)
    · rcases h with ⟨c3, r1, s1, hm1, _, _, _, h⟩ | ⟨c3, r1, s1, hm1, _, _, _, h⟩
      · obtain ⟨e1, _⟩ := isWordM (i := 13) hg (by decide) (by decide) hm1 h1
        rw [e1] at h
        rcases h with ⟨_, h⟩ | ⟨_, h⟩
        · exact k64 n 0 h (Or.inl ⟨rfl, by omega⟩)
        · exact k64 n 0 h (Or.inl ⟨rfl, by omega⟩)
      · obtain ⟨e1, k1⟩ := isWordM (i := 13) hg (by decide) (by decide) hm1 h1
        rw [e1] at h
        subst hb
        have nk0 : ¬ k = 0 := by omega
        have nk3 : ¬ k = 3 := by omega
        rcases h with ⟨c4, h⟩ | ⟨c4, s2, hw2, hf2, _, s3, hl, hf, _, hr, ht⟩
        · have n74 : ¬ tkq g N q = 274 := by rcases k1 with k | k; exact absurd k.1 (by omega); exact k.2
          exact k64 n 1 h (Or.inr ⟨by decide, rfl, nk0, nk3, n74⟩)
        · have e74 : tkq g N q = 274 := by rcases k1 with k | k; exact k.2; exact absurd k.1 c4
          obtain ⟨w1, w2⟩ := waitsM hw2
          have un := P_not (F := 1001) (kn := knK (ltq g N) K M) (k := k) (f := f) (fs := fs) (ngr (N := N) hg) (by omega) h1.2.1 nk0 nk3 e74
          have W2 : MW g N q s2 := (h1.mw (by omega)).cg (w1 1 (by decide) (by decide)) (w2 2 (by decide)) (w2 5 (by decide)) (w2 8 (by decide))
          rcases lookX hN hg W2 hl hf with ⟨j1, j2⟩ | j1
          · rw [ht] at hz
            exact absurd hz j1
          · have cw := waitsC (o := opN) rfl rfl hw2 hc.2.1 hc.2.2
            have eT : Tt = C ++ CB g N K M k f (opN :: w) fs ws true (nxq g N q) := by
              rw [hT]
              have e := E_not (T := tkq g N) (N := nxq g N) (F := 1001) (V := nvq g N) (Lw := ltq g N) (kn := knK (ltq g N) K M) (K := K) (M := M) (k := k) (fs := fs) (w := w) (ws := ws) (f := f) (q := q) (ngr (N := N) hg) (by omega) h1.2.1 nk0 nk3 e74 hok
              exact congrArg (C ++ ·) e
            have cS : CdS C (opN :: w) ws fs s2 := ⟨hc.1, cw.1, cw.2⟩
            have lw : lowW (opN :: w) := tw_stop (by decide) w
            refine Or.inl ⟨hr, k, f, fs, true, nxq g N q, un, ?_⟩
            rw [ht]
            refine ⟨?_, C, opN :: w, ws, cS.fr hf (by decide), fun _ => lw, eT⟩
            have B2 : BkM K M s2 := h2.cg (w2 13 (by decide)) (w1 2 (by decide) (by decide)) (w1 3 (by decide) (by decide)) (w1 6 (by decide) (by decide)) (w1 7 (by decide) (by decide))
            have F2 : FmM fs s2 := h9.cg (fun i _ => ⟨by rw [w1 16 (by decide) (by decide)], by rw [w1 17 (by decide) (by decide)], by rw [w1 18 (by decide) (by decide)]⟩)
            exact ⟨j1, B2.fr hf (by decide), (hf.f (by decide) (by decide)).trans ((w2 32 (by decide)).trans h3), (hf.f (by decide) (by decide)).trans ((w2 33 (by decide)).trans h4), h5, by rw [hf.1 16 (by decide), w1 16 (by decide) (by decide)]; exact h6, by rw [hf.1 17 (by decide), w1 17 (by decide) (by decide)]; exact h7, by rw [hf.1 18 (by decide), w1 18 (by decide) (by decide)]; exact h8, F2.fr hf (by decide), h10, h11, h12, h13, f2⟩
end PartCo2
