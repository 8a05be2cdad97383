/-! the reference's reader: a part -/
section PartM2
variable {g : Nat → Nat} {N q k f : Nat} {s t u : PS} {r : Int} {K M : List (List Nat)} {fs : List (Nat × Nat)} {b : Bool}
/-- a part has begun -/
def MdM (g : Nat → Nat) (N : Nat) (K M : List (List Nat)) (k f : Nat) (fs : List (Nat × Nat)) (q : Nat) (s : PS) : Prop := MX g N q s ∧ BkM K M s ∧ s 0 32 = (fs.length : Int) + 1 ∧ s 0 33 = (fs.length : Int) ∧ fs.length ≤ 8 ∧ FmM ((k, f) :: fs) s ∧ Low k fs ∧ f ≤ 2
theorem MX.nend (h : MX g N q s) {c : Nat} (h1 : tkq g N q = c) (h2 : ¬ c = 256) : ¬ tkq g N q = 256 := by omega
/-- a code is put in -/
theorem MdM.add {a c : Int} (h : MdM g N K M k f fs q s) (hm : M_X12_add s a c r t) : MdM g N K M k f fs q t := by
  obtain ⟨h1, h2, h3, h4, h5, h6, h7⟩ := h
  have e := addM hm
  refine ⟨h1.cg (e 1 (by decide) (by decide)) (fun j _ _ => by rw [e 0 (by decide) (by decide)]), h2.cg (by rw [e 0 (by decide) (by decide)]) (e 2 (by decide) (by decide)) (e 3 (by decide) (by decide)) (e 6 (by decide) (by decide)) (e 7 (by decide) (by decide)), by rw [e 0 (by decide) (by decide)]; exact h3, by rw [e 0 (by decide) (by decide)]; exact h4, h5, h6.cg (fun i _ => ⟨by rw [e 16 (by decide) (by decide)], by rw [e 17 (by decide) (by decide)], by rw [e 18 (by decide) (by decide)]⟩), h7⟩
theorem MdM.ph (h : MdM g N K M k f fs q s) {f2 : Nat} (hf2 : f2 ≤ 2) : MdM g N K M k f2 fs q (us s 17 fs.length (f2 : Int)) := by
  obtain ⟨h1, h2, h3, h4, h5, h6, h7, h8⟩ := h
  refine ⟨h1.cg (us_k (by decide)) (fun j _ _ => by rw [us_k (by decide)]), h2.cg (by rw [us_k (by decide)]) (us_k (by decide)) (us_k (by decide)) (us_k (by decide)) (us_k (by decide)), by rw [us_k (by decide)]; exact h3, by rw [us_k (by decide)]; exact h4, h5, ?_, h7, hf2⟩
  obtain ⟨g1, g2, g3, g4⟩ := h6
  refine ⟨by rw [us_k (by decide)]; exact g1, us_at, by rw [us_k (by decide)]; exact g3, g4.cg (fun i hi => ⟨by rw [us_k (by decide)], by rw [us_j (by omega)], by rw [us_k (by decide)]⟩)⟩
theorem MdM.end (hN : N ≤ 1000) (hg : ∀ i, g i ≤ 255) {S : Option Nat} (h : MdM g N K M k f fs q s) (h0 : ¬ tkq g N q = 256) (hS : S = StM g N K M k f fs (nxq g N q)) (hk : k = 2 ∨ k = 5 → f = 2) (hm : M_X12_looks s 0 t) (hf : Fr intsM [0] [(0, 3), (0, 4), (0, 5), (0, 6), (0, 7), (0, 8), (0, 9)] s t) (hr : r = 1) : PaR g N K M S r t := by
  obtain ⟨h1, h2, h3, h4, h5, h6, h7, h8⟩ := h
  exact endPart hN hg hS (h1.mw h0) h2 h3 h4 h5 h6 h7 h8 hk hm hf hr
/-- a number, a fact, a bracket -/
theorem k258 (hN : N ≤ 1000) (hg : ∀ i, g i ≤ 255) {n : Nat} {x3 : Int} (h : It_X12_part n 258 (fs.length : Int) (k : Int) x3 s r t) (hM : MdM g N K M k f fs q s) (hw : ¬ (k = 2 ∨ k = 5)) (hf1 : k = 0 ∨ k = 3 ∨ f ≤ 1) {S : Option Nat} {b : Bool} (hS : S = SpM g N K M k f fs b q) (hb : k = 0 ∨ k = 3 ∨ b = false) : PaR g N K M S r t := by
  cases n with
  | zero => exact False.elim h
  | succ n =>
    have h := ul_X12_part_258 h
    unfold T_X12_part_258 at h
    obtain ⟨_, _, _, _, r1, s1, hm, _, _, _, h⟩ := h
    have hMX := hM.1
    obtain ⟨e1, k1⟩ := isSignM (c := 40) (by decide) hm hMX
    rw [e1] at h
    have wk : ∀ (i : Nat) (hi : i < 22) (c : Int) (r2 : Int) (s2 : PS), c = ((c8 (ownW[i]'(by show i < 22; exact hi)) : Nat) : Int) → M_X12_isWord s c r2 s2 → s2 = s ∧ ((r2 = 1 ∧ tkq g N q = 261 + i) ∨ (r2 = 0 ∧ ¬ tkq g N q = 261 + i)) := fun i hi c r2 s2 hc hm => isWordM hg hi hc hm hMX
    -- a fact
    have fact : ∀ (a c : Int) (s2 s3 : PS), 278 ≤ tkq g N q → tkq g N q ≤ 282 → M_X12_add s a c 0 s2 → M_X12_looks s2 0 s3 → Fr intsM [0] [(0, 3), (0, 4), (0, 5), (0, 6), (0, 7), (0, 8), (0, 9)] s2 s3 → r = 1 → t = s3 → PaR g N K M S r t := by
      intro a c s2 s3 b1 b2 ha hl hf hr ht
      rw [ht]
      refine (hM.add ha).end hN hg (by omega) ?_ (fun z => absurd z hw) hl hf hr
      rw [hS]
      exact P_nf (by omega) (by omega) hb
    rcases h with ⟨c1, h⟩ | ⟨c1, s2, hm2, _, _, hr, ht⟩
    · have n40 : ¬ tkq g N q = 40 := by rcases k1 with k | k <;> omega
      rcases h with ⟨c2, s2, ha, _, _, _, s3, hl, hf, _, hr, ht⟩ | ⟨c2, r2, s2, hm2, _, _, _, h⟩
      · have e59 : tkq g N q = 259 := by
          rcases hMX.sg.2.2.2 with ⟨_, z⟩ | ⟨_, _, z, _⟩ | ⟨z, _, _⟩ | ⟨_, z, _⟩ <;> omega
        rw [ht]
        refine (hM.add ha).end hN hg (by omega) ?_ (fun z => absurd z hw) hl hf hr
        rw [hS]
        exact P_nf n40 (by omega) hb
      · have n59 : ¬ tkq g N q = 259 := by
          rcases hMX.sg.2.2.2 with ⟨z, _⟩ | ⟨_, z, _, _⟩ | ⟨_, z, _⟩ | ⟨z, _, _⟩ <;> omega
        obtain ⟨e2, k2⟩ := wk 17 (by decide) _ _ _ (by decide) hm2
        rw [e2] at h
        rcases h with ⟨c3, r3, s3, hm3, _, _, _, h⟩ | ⟨c3, s3, ha, _, _, _, s4, hl, hf, _, hr, ht⟩
        · obtain ⟨e3, k3⟩ := wk 18 (by decide) _ _ _ (by decide) hm3
          rw [e3] at h
          rcases h with ⟨c4, r4, s4, hm4, _, _, _, h⟩ | ⟨c4, s4, ha, _, _, _, s5, hl, hf, _, hr, ht⟩
          · obtain ⟨e4, k4⟩ := wk 19 (by decide) _ _ _ (by decide) hm4
            rw [e4] at h
            rcases h with ⟨c5, r5, s5, hm5, _, _, _, h⟩ | ⟨c5, s5, ha, _, _, _, s6, hl, hf, _, hr, ht⟩
            · obtain ⟨e5', k5⟩ := wk 20 (by decide) _ _ _ (by decide) hm5
              rw [e5'] at h
              rcases h with ⟨c6, r6, s6, hm6, _, _, _, h⟩ | ⟨c6, s6, ha, _, _, _, s7, hl, hf, _, hr, ht⟩
              · obtain ⟨e6, k6⟩ := wk 21 (by decide) _ _ _ (by decide) hm6
                rw [e6] at h
                rcases h with ⟨c7, s7, _, _, _, z, _, ht⟩ | ⟨c7, s7, ha, _, _, _, s8, hl, hf, _, hr, ht⟩
                · refine Or.inl ⟨by rw [ht]; exact z, ?_⟩
                  rw [hS]
                  apply Bd.non
                  have n2 : ¬ tkq g N q = 261 + 17 := by rcases k2 with k | k; exact absurd k.1 (by omega); exact k.2
                  have n3 : ¬ tkq g N q = 261 + 18 := by rcases k3 with k | k; exact absurd k.1 (by omega); exact k.2
                  have n4 : ¬ tkq g N q = 261 + 19 := by rcases k4 with k | k; exact absurd k.1 (by omega); exact k.2
                  have n5 : ¬ tkq g N q = 261 + 20 := by rcases k5 with k | k; exact absurd k.1 (by omega); exact k.2
                  have n6 : ¬ tkq g N q = 261 + 21 := by rcases k6 with k | k; exact absurd k.1 (by omega); exact k.2
                  exact P_no n40 (by omega) hb
                · have y : tkq g N q = 261 + 21 := by rcases k6 with k | k; exact k.2; exact absurd k.1 c7
                  exact fact _ _ _ _ (by omega) (by omega) ha hl hf hr ht
              · have y : tkq g N q = 261 + 20 := by rcases k5 with k | k; exact k.2; exact absurd k.1 c6
                exact fact _ _ _ _ (by omega) (by omega) ha hl hf hr ht
            · have y : tkq g N q = 261 + 19 := by rcases k4 with k | k; exact k.2; exact absurd k.1 c5
              exact fact _ _ _ _ (by omega) (by omega) ha hl hf hr ht
          · have y : tkq g N q = 261 + 18 := by rcases k3 with k | k; exact k.2; exact absurd k.1 c4
            exact fact _ _ _ _ (by omega) (by omega) ha hl hf hr ht
        · have y : tkq g N q = 261 + 17 := by rcases k2 with k | k; exact k.2; exact absurd k.1 c3
          exact fact _ _ _ _ (by omega) (by omega) ha hl hf hr ht
    · have e40 : tkq g N q = 40 := by rcases k1 with k | k <;> omega
      obtain ⟨h1, h2, h3, h4, h5, h6, h7, h8⟩ := hM
      have hk5 := low_k h7
      rw [ht]
      refine openM (k2 := 3) hN hg (fun l8 => ?_) (fun l8 => ?_) h1 (by omega) h2 h3 h4 h5 h6 ⟨Or.inl ⟨rfl, by omega⟩, h8, h7⟩ hm2 hr
      · rw [hS]
        exact P_rd0 l8 e40 hb
      · rw [hS]
        exact P_rd l8 e40 hb
/-- a wish -/
theorem k156 (hN : N ≤ 1000) (hg : ∀ i, g i ≤ 255) {n : Nat} {x3 : Int} (h : It_X12_part n 156 (fs.length : Int) (k : Int) x3 s r t) (hM : MdM g N K M k f fs q s) (hw : ¬ (k = 2 ∨ k = 5)) (hf1 : k = 0 ∨ k = 3 ∨ f ≤ 1) {b : Bool} (h3 : (x3 = 0 ∧ (k = 0 ∨ k = 3 ∨ b = false)) ∨ (¬ x3 = 0 ∧ b = true ∧ f = 0 ∧ (k = 1 ∨ k = 4) ∧ ¬ tkq g N q = 274 ∧ ¬ tkq g N q = 91 ∧ ¬ tkq g N q = 276)) : PaR g N K M (SpM g N K M k f fs b q) r t := by
  cases n with
  | zero => exact False.elim h
  | succ n =>
    have h := ul_X12_part_156 h
    unfold T_X12_part_156 at h
    obtain ⟨_, _, _, _, h⟩ := h
    rcases h with ⟨c1, h⟩ | ⟨c1, r1, s1, hm, _, _, _, h⟩
    · rcases h3 with ⟨_, hb⟩ | ⟨z, _⟩
      · exact k258 hN hg h hM hw hf1 rfl hb
      · exact absurd c1 z
    · rcases h3 with ⟨z, _⟩ | ⟨_, hb, h0, hk, n1, n2, n3⟩
      · exact absurd z c1
      · subst hb
        subst h0
        obtain ⟨e1, k1⟩ := isWordM (i := 16) hg (by decide) (by decide) hm hM.1
        rw [e1] at h
        rcases h with ⟨c2, h⟩ | ⟨c2, s2, hl, hf, ty2, h⟩
        · have n4 : ¬ tkq g N q = 277 := by rcases k1 with k | k; exact absurd k.1 (by omega); exact k.2
          exact k258 hN hg h hM hw hf1 (b := false) (P_ts hk n1 n2 n3 n4) (Or.inr (Or.inr rfl))
        · have e77 : tkq g N q = 277 := by rcases k1 with k | k; exact k.2; exact absurd k.1 c2
          have sp : SpM g N K M k 0 fs true q = (if tkq g N (nxq g N q) = 258 then some (nxq g N (nxq g N q)) else none).bind (conE (tkq g N) (nxq g N) 1001 (knK (ltq g N) K M) k fs) := by
            show conB (tkq g N) (nxq g N) 1001 (knK (ltq g N) K M) k 0 fs true q = _
            rw [P_at (by omega) (by omega) n1 n2]
            unfold atK atT
            rw [if_pos hk, if_neg n3, if_pos e77]
          obtain ⟨h1, h2, h3', h4, h5, h6, h7, h8⟩ := hM
          rcases lookX hN hg (h1.mw (by omega)) hl hf with ⟨j1, j2⟩ | j1
          · have no : Bd (tkq g N) (SpM g N K M k 0 fs true q) := by
              rw [sp, if_neg (by omega)]
              exact Bd.non rfl
            have fl2 := tyM_flt ty2
            have flt : ¬ t 0 8 = 0 := by
              rcases h with ⟨_, r3, s3, hm3, hf3, _, _, ⟨_, ⟨z, _⟩ | ⟨_, _, ht⟩⟩ | ⟨_, s4, _, _, _, z, _, ht⟩⟩ | ⟨_, s3, _, _, _, z, _, ht⟩
              · omega
              · rw [ht, hf3.f (by decide) (by decide)]
                exact j1
              · rw [ht]
                omega
              · rw [ht]
                omega
            exact Or.inl ⟨flt, no⟩
          · have M2 : MdM g N K M k 0 fs (nxq g N q) s2 := ⟨j1, h2.fr hf (by decide), (hf.f (by decide) (by decide)).trans h3', (hf.f (by decide) (by decide)).trans h4, h5, h6.fr hf (by decide), h7, h8⟩
            rcases h with ⟨c3, r3, s3, hm3, _, _, _, h⟩ | ⟨c3, s3, _, _, _, z, _, ht⟩
            · obtain ⟨e3, k3⟩ := isOwnM hg hm3 j1 c3
              rw [e3] at h
              rcases h with ⟨c4, ⟨_, s4, e4, s5, ha, _, _, s6, e6, s7, hl7, hf7, _, hr, ht⟩ | ⟨z, _⟩⟩ | ⟨c4, s4, _, _, _, z, _, ht⟩
              · have e58 : tkq g N (nxq g N q) = 258 := by rcases k3 with k | k; exact absurd k.1 (by omega); exact k.2
                have M4 : MdM g N K M k 0 fs (nxq g N q) s4 := by
                  obtain ⟨i1, i2, i3, i4, i5, i6, i7⟩ := M2
                  refine ⟨i1.cg (by rw [e4, us_k (by decide)]) (fun j _ _ => by rw [e4, us_k (by decide)]), i2.cg (by rw [e4, us_k (by decide)]) (by rw [e4, us_k (by decide)]) (by rw [e4, us_k (by decide)]) (by rw [e4, us_k (by decide)]) (by rw [e4, us_k (by decide)]), by rw [e4, us_k (by decide)]; exact i3, by rw [e4, us_k (by decide)]; exact i4, i5, i6.cg (fun i _ => ⟨by rw [e4, us_k (by decide)], by rw [e4, us_k (by decide)], by rw [e4, us_k (by decide)]⟩), i7⟩
                have M6 : MdM g N K M k 2 fs (nxq g N q) s6 := by
                  rw [e6, Int.toNat_natCast]
                  exact (M4.add ha).ph (f2 := 2) (by decide)
                rw [ht]
                refine M6.end hN hg (by omega) ?_ (fun _ => rfl) hl7 hf7 hr
                rw [sp, if_pos e58]
                exact (conA_2 (by omega) (by omega)).symm
              · exact absurd j1.2.2.1 (by omega)
              · refine Or.inl ⟨by rw [ht]; omega, ?_⟩
                have n58 : ¬ tkq g N (nxq g N q) = 258 := by rcases k3 with k | k; exact k.2; exact absurd k.1 c4
                rw [sp, if_neg n58]
                exact Bd.non rfl
            · refine Or.inl ⟨by rw [ht]; omega, ?_⟩
              have n58 : ¬ tkq g N (nxq g N q) = 258 := by
                rcases j1.sg.2.2.2 with ⟨y, _⟩ | ⟨_, _, y, _⟩ | ⟨y, _⟩ | ⟨y, _⟩
                · omega
                · exact absurd y c3
                · omega
                · omega
              rw [sp, if_neg n58]
              exact Bd.non rfl
/-- a name in a which -/
theorem atomM (hN : N ≤ 1000) (hg : ∀ i, g i ≤ 255) (h : M_X12_atom s (fs.length : Int) r t) (hM : MdM g N K M k f fs q s) (hw : k = 2 ∨ k = 5) (n1 : ¬ tkq g N q = 274) (n2 : ¬ tkq g N q = 91) : PaR g N K M (SpM g N K M k f fs true q) r t := by
  have sp : SpM g N K M k f fs true q = (if tkq g N q = 275 then some (nxq g N q) else if tkq g N q = 258 ∧ knK (ltq g N) K M q = true then some (nxq g N q) else none).bind (conE (tkq g N) (nxq g N) 1001 (knK (ltq g N) K M) k fs) := by
    show conB (tkq g N) (nxq g N) 1001 (knK (ltq g N) K M) k f fs true q = _
    rw [P_at (by omega) (by omega) n1 n2]
    unfold atK atW
    rw [if_neg (by omega)]
  unfold M_X12_atom T_X12_atom_e at h
  obtain ⟨_, _, r1, s1, hm, _, _, _, h⟩ := h
  have hMX := hM.1
  obtain ⟨e1, k1⟩ := isWordM (i := 14) hg (by decide) (by decide) hm hMX
  rw [e1] at h
  have ok : ∀ (a c : Int) (s2 s3 s4 : PS), ¬ tkq g N q = 256 → (tkq g N q = 275 ∨ (tkq g N q = 258 ∧ knK (ltq g N) K M q = true)) → M_X12_add s a c 0 s2 → s3 = us s2 17 (fs.length : Int).toNat 2 → M_X12_looks s3 0 s4 → Fr intsM [0] [(0, 3), (0, 4), (0, 5), (0, 6), (0, 7), (0, 8), (0, 9)] s3 s4 → r = 1 → t = s4 → PaR g N K M (SpM g N K M k f fs true q) r t := by
    intro a c s2 s3 s4 h0 hk ha e3 hl hf hr ht
    have M3 : MdM g N K M k 2 fs q s3 := by
      rw [e3, Int.toNat_natCast]
      exact (hM.add ha).ph (f2 := 2) (by decide)
    rw [ht]
    refine M3.end hN hg h0 ?_ (fun _ => rfl) hl hf hr
    rw [sp]
    by_cases c1 : tkq g N q = 275
    · rw [if_pos c1]
      exact (conA_2 (by omega) (by omega)).symm
    · rcases hk with z | z
      · exact absurd z c1
      · rw [if_neg c1, if_pos z]
        exact (conA_2 (by omega) (by omega)).symm
  have bad : ¬ t 0 8 = 0 → ¬ tkq g N q = 275 → ¬ (tkq g N q = 258 ∧ knK (ltq g N) K M q = true) → PaR g N K M (SpM g N K M k f fs true q) r t := by
    intro z c1 c2
    refine Or.inl ⟨z, ?_⟩
    rw [sp, if_neg c1, if_neg c2]
    exact Bd.non rfl
  rcases h with ⟨c1, h⟩ | ⟨c1, s2, ha, _, _, s3, e3, _, s4, hl, hf, _, hr, ht⟩
  · have n75 : ¬ tkq g N q = 275 := by rcases k1 with k | k; exact absurd k.1 (by omega); exact k.2
    rcases h with ⟨c2, r2, s2, hm2, _, _, _, h⟩ | ⟨c2, s2, _, _, _, z, _, ht⟩
    · obtain ⟨e2, k2⟩ := isOwnM hg hm2 hMX c2
      obtain ⟨w1, w2, w3, w4, w5⟩ := hMX.word hg c2
      rw [e2, w3] at h
      rcases h with ⟨c3, _, r3, s3, hm3, _, _, _, r4, s4, hm4, _, _, _, h⟩ | ⟨c3, s3, _, _, _, z, _, ht⟩
      · have e58 : tkq g N q = 258 := by rcases k2 with k | k; exact absurd k.1 (by omega); exact k.2
        obtain ⟨e3, k3⟩ := fkM w4 hm3 hM.2.1
        rw [e3] at hm4
        obtain ⟨e4, k4⟩ := fmM w4 hm4 hM.2.1
        rw [e4] at h
        have kk : knK (ltq g N) K M q = true ↔ (ltq g N q ∈ K ∨ ltq g N q ∈ M) := by
          unfold knK
          rw [Bool.or_eq_true, decide_eq_true_eq, decide_eq_true_eq]
        rcases h with ⟨c4, _, _, s5, ha, _, _, s6, e6, _, s7, hl, hf, _, hr, ht⟩ | ⟨c4, ⟨c5, _, _, s5, ha, _, _, s6, e6, _, s7, hl, hf, _, hr, ht⟩ | ⟨c5, s5, hb, _, _, _, _, s6, ha, hfa, _, s7, e7, z, _, ht⟩⟩
        · refine ok _ _ _ _ _ (by omega) (Or.inr ⟨e58, kk.mpr ?_⟩) ha e6 hl hf hr ht
          rcases k3 with k | k
          · exact absurd k.1 (by omega)
          · exact Or.inl k.2
        · refine ok _ _ _ _ _ (by omega) (Or.inr ⟨e58, kk.mpr ?_⟩) ha e6 hl hf hr ht
          rcases k4 with k | ⟨j, _, _, k⟩
          · exact absurd k.1 (by omega)
          · exact Or.inr (List.mem_of_getElem? k)
        · refine bad ?_ n75 (fun y => ?_)
          · rw [ht, e7, us_k (by decide), addM ha 0 (by decide) (by decide)]
            exact z
          · rcases kk.mp y.2 with y | y
            · rcases k3 with k | k
              · exact k.2 y
              · exact c4 k.1
            · rcases k4 with k | ⟨j, k, _⟩
              · exact k.2 y
              · exact c5 (by rw [k]; exact Int.natCast_nonneg j)
      · have n58 : ¬ tkq g N q = 258 := by rcases k2 with k | k; exact k.2; exact absurd k.1 c3
        exact bad (by rw [ht]; omega) n75 (fun y => n58 y.1)
    · have n58 : ¬ tkq g N q = 258 := by
        rcases hMX.sg.2.2.2 with ⟨y, _⟩ | ⟨_, _, y, _⟩ | ⟨y, _⟩ | ⟨y, _⟩
        · omega
        · exact absurd y c2
        · omega
        · omega
      exact bad (by rw [ht]; omega) n75 (fun y => n58 y.1)
  · have y75 : tkq g N q = 275 := by rcases k1 with k | k; exact k.2; exact absurd k.1 c1
    exact ok _ _ _ _ _ (by omega) (Or.inl y75) ha e3 hl hf hr ht
/-- a part -/
theorem partM (hN : N ≤ 1000) (hg : ∀ i, g i ≤ 255) (h : M_X12_part s r t) (hH : HdM g N K M k f fs b q s) : PaR g N K M (SpM g N K M k f fs b q) r t := by
  obtain ⟨h1, h2, h3, h4, h5, h6, h7, h8, h9, h10, h11, h12, h13, f2⟩ := hH
  have hk5 := low_k h10
  have ix : (s 0 32 - 1).toNat = fs.length := by rw [h3]; omega
  have iz : s 0 32 - 1 = (fs.length : Int) := by omega
  obtain ⟨n, hmain⟩ := h
  unfold T_X12_part_e at hmain
  obtain ⟨_, hmain⟩ := hmain
  rw [ix, iz, h6, h8] at hmain
  -- the frame's word that it begins is taken away
  have md : MdM g N K M k f fs q (us s 18 fs.length 0) := by
    refine ⟨h1.cg (us_k (by decide)) (fun j _ _ => by rw [us_k (by decide)]), h2.cg (by rw [us_k (by decide)]) (us_k (by decide)) (us_k (by decide)) (us_k (by decide)) (us_k (by decide)), by rw [us_k (by decide)]; exact h3, by rw [us_k (by decide)]; exact h4, h5, ⟨by rw [us_k (by decide)]; exact h6, by rw [us_k (by decide)]; exact h7, us_at, h9.cg (fun i hi => ⟨by rw [us_k (by decide)], by rw [us_k (by decide)], by rw [us_j (by omega)]⟩)⟩, h10, f2⟩
  have k102 : ∀ (n : Nat) (x3 : Int), It_X12_part n 102 (fs.length : Int) (k : Int) x3 s r t → ((x3 = 0 ∧ (k = 0 ∨ k = 3 ∨ b = false)) ∨ (¬ x3 = 0 ∧ b = true ∧ ¬ k = 0 ∧ ¬ k = 3 ∧ ¬ tkq g N q = 274 ∧ ¬ tkq g N q = 91)) → PaR g N K M (SpM g N K M k f fs b q) r t := by
    intro n x3 h hx
    clear hmain
    cases n with
    | zero => exact False.elim h
    | succ n =>
      have h := ul_X12_part_102 h
      unfold T_X12_part_102 at h
      obtain ⟨_, _, _, _, s1, e1, r2, s2, hm2, _, _, _, h⟩ := h
      rw [Int.toNat_natCast] at e1
      rw [← e1] at md
      obtain ⟨e2, k2⟩ := isWhichM hm2
      rw [e2] at h
      rcases h with ⟨c2, h⟩ | ⟨c2, r3, s3, hm3, _, _, hr3, hr, ht⟩
      · have nw : ¬ (k = 2 ∨ k = 5) := by rcases k2 with k | k <;> omega
        have hf1 : k = 0 ∨ k = 3 ∨ f ≤ 1 := by
          cases b with
          | true => have := h11 rfl; omega
          | false => exact h13 rfl
        rcases h with ⟨c3, h⟩ | ⟨c3, r3, s3, hm3, _, _, _, h⟩
        · rcases hx with ⟨_, y⟩ | ⟨y, _⟩
          · exact k156 hN hg h md nw hf1 (Or.inl ⟨c3, y⟩)
          · exact absurd c3 y
        · rcases hx with ⟨y, _⟩ | ⟨_, y1, y2, y3, y4, y5⟩
          · exact absurd y c3
          · have hb := y1
            subst hb
            have f0 := h11 rfl
            obtain ⟨e3, k3⟩ := isWordM (i := 15) hg (by decide) (by decide) hm3 md.1
            rw [e3] at h
            rcases h with ⟨c4, h⟩ | ⟨c4, s4, ha, _, _, s5, e5', s6, hl, hf, _, hr, ht⟩
            · have n76 : ¬ tkq g N q = 276 := by rcases k3 with k | k; exact absurd k.1 (by omega); exact k.2
              exact k156 hN hg h md nw hf1 (Or.inr ⟨c3, rfl, f0, by omega, y4, y5, n76⟩)
            · have e76 : tkq g N q = 276 := by rcases k3 with k | k; exact k.2; exact absurd k.1 c4
              have M5 : MdM g N K M k 2 fs q s5 := by
                rw [e5', Int.toNat_natCast]
                exact (md.add ha).ph (f2 := 2) (by decide)
              rw [ht]
              refine M5.end hN hg (by omega) ?_ (fun _ => rfl) hl hf hr
              show conB (tkq g N) (nxq g N) 1001 (knK (ltq g N) K M) k f fs true q = _
              rw [P_at y2 y3 y4 y5]
              unfold atK atT
              rw [if_pos (by omega), if_pos e76]
              exact (conA_2 y2 y3).symm
      · have yw : k = 2 ∨ k = 5 := by rcases k2 with k | k <;> omega
        have hb := h12 yw
        subst hb
        rcases hx with ⟨_, y⟩ | ⟨_, _, _, _, y4, y5⟩
        · rcases y with y | y | y
          · omega
          · omega
          · exact absurd y (by decide)
        · have a := atomM hN hg hm3 md yw y4 y5
          have er : r = r3 := by omega
          rw [er, ht]
          exact a
  have k64 : ∀ (n : Nat) (x3 : Int), It_X12_part n 64 (fs.length : Int) (k : Int) x3 s r t → ((x3 = 0 ∧ (k = 0 ∨ k = 3 ∨ b = false)) ∨ (¬ x3 = 0 ∧ b = true ∧ ¬ k = 0 ∧ ¬ k = 3 ∧ ¬ tkq g N q = 274)) → PaR g N K M (SpM g N K M k f fs b q) r t := by
    intro n x3 h hx
    clear hmain
    cases n with
    | zero => exact False.elim h
    | succ n =>
      have h := ul_X12_part_64 h
      unfold T_X12_part_64 at h
      obtain ⟨_, _, _, _, r1, s1, hm1, _, _, _, h⟩ := h
      obtain ⟨e1, k1⟩ := isSignM (c := 91) (by decide) hm1 h1
      rw [e1] at h
      rcases h with ⟨c1, h⟩ | ⟨c1, ⟨c2, h⟩ | ⟨c2, s2, e2, r3, s3, hm3, _, _, _, h⟩⟩
      · refine k102 n x3 h ?_
        rcases hx with y | ⟨y1, y2, y3, y4, y5⟩
        · exact Or.inl y
        · refine Or.inr ⟨y1, y2, y3, y4, y5, ?_⟩
          rcases k1 with k | k
          · exact absurd k.1 (by omega)
          · exact k.2
      · refine k102 n x3 h ?_
        rcases hx with y | ⟨y1, _⟩
        · exact Or.inl y
        · exact absurd c2 y1
      · rcases hx with ⟨y, _⟩ | ⟨y1, y2, y3, y4, y5⟩
        · exact absurd y c2
        · have hb := y2
          subst hb
          have e91 : tkq g N q = 91 := by rcases k1 with k | k; exact k.2; exact absurd k.1 c1
          rw [Int.toNat_natCast] at e2
          rw [← e2] at md
          obtain ⟨e3, k3⟩ := isTestM hm3
          rw [e3] at h
          obtain ⟨m1, m2, m3, m4, m5, m6, m7, m8⟩ := md
          rcases h with ⟨c3, s4, hm4, _, _, hr, ht⟩ | ⟨c3, s4, hm4, _, _, hr, ht⟩
          · have nt : ¬ (k = 1 ∨ k = 4) := by rcases k3 with k | k <;> omega
            rw [ht]
            refine openM (k2 := 5) hN hg (fun l8 => P_sq0 y3 y4 l8 e91) (fun l8 => P_sq (ngr hg) (by omega) h1.2.1 y3 y4 ⟨fun z => absurd z nt, fun z => by omega⟩ (Or.inr rfl) l8 e91) m1 (by omega) m2 m3 m4 m5 m6 ⟨Or.inr (Or.inr ⟨rfl, by omega⟩), m8, m7⟩ hm4 hr
          · have yt : k = 1 ∨ k = 4 := by rcases k3 with k | k <;> omega
            rw [ht]
            refine openM (k2 := 4) hN hg (fun l8 => P_sq0 y3 y4 l8 e91) (fun l8 => P_sq (ngr hg) (by omega) h1.2.1 y3 y4 ⟨fun _ => Or.inr rfl, fun _ => yt⟩ (Or.inl rfl) l8 e91) m1 (by omega) m2 m3 m4 m5 m6 ⟨Or.inr (Or.inl ⟨rfl, yt⟩), m8, m7⟩ hm4 hr
  rcases hmain with ⟨c1, r1, s1, hm1, _, _, _, h⟩ | ⟨c1, h⟩
  · obtain ⟨e1, _⟩ := isWordM (i := 13) hg (by decide) (by decide) hm1 h1
    rw [e1] at h
    have hb : b = false := by
      cases b with
      | true => exact absurd c1 (by decide)
      | false => rfl
    rcases h with ⟨_, h⟩ | ⟨_, h⟩
    · exact k64 n 0 h (Or.inl ⟨rfl, Or.inr (Or.inr hb)⟩)
    · exact k64 n 0 h (Or.inl ⟨rfl, Or.inr (Or.inr hb)⟩)
  · have hb : b = true := by
      cases b with
      | true => rfl
      | false => exact absurd rfl c1
    rcases h with ⟨c2, r1, s1, hm1, _, _, _, h⟩ | ⟨c2, h⟩
    · obtain ⟨e1, _⟩ := isWordM (i := 13) hg (by decide) (by decide) hm1 h1
      rw [e1] at h
      rcases h with ⟨_, h⟩ | ⟨_, h⟩
      · exact k64 n 0 h (Or.inl ⟨rfl, by omega⟩)
      · exact k64 n 0 h (Or.inl ⟨rfl, by omega⟩)
    · rcases h with ⟨c3, r1, s1, hm1, _, _, _, h⟩ | ⟨c3, r1, s1, hm1, _, _, _, h⟩
      · obtain ⟨e1, _⟩ := isWordM (i := 13) hg (by decide) (by decide) hm1 h1
        rw [e1] at h
        rcases h with ⟨_, h⟩ | ⟨_, h⟩
        · exact k64 n 0 h (Or.inl ⟨rfl, by omega⟩)
        · exact k64 n 0 h (Or.inl ⟨rfl, by omega⟩)
      · obtain ⟨e1, k1⟩ := isWordM (i := 13) hg (by decide) (by decide) hm1 h1
        rw [e1] at h
        subst hb
        have nk0 : ¬ k = 0 := by omega
        have nk3 : ¬ k = 3 := by omega
        rcases h with ⟨c4, h⟩ | ⟨c4, s2, hw2, hf2, _, s3, hl, hf, _, hr, ht⟩
        · have n74 : ¬ tkq g N q = 274 := by rcases k1 with k | k; exact absurd k.1 (by omega); exact k.2
          exact k64 n 1 h (Or.inr ⟨by decide, rfl, nk0, nk3, n74⟩)
        · have e74 : tkq g N q = 274 := by rcases k1 with k | k; exact k.2; exact absurd k.1 c4
          obtain ⟨w1, w2⟩ := waitsM hw2
          have un := P_not (F := 1001) (kn := knK (ltq g N) K M) (k := k) (f := f) (fs := fs) (ngr (N := N) hg) (by omega) h1.2.1 nk0 nk3 e74
          have W2 : MW g N q s2 := (h1.mw (by omega)).cg (w1 1 (by decide) (by decide)) (w2 2 (by decide)) (w2 5 (by decide)) (w2 8 (by decide))
          rcases lookX hN hg W2 hl hf with ⟨j1, j2⟩ | j1
          · refine Or.inl ⟨by rw [ht]; exact j1, ?_⟩
            show Bd _ (conB _ _ _ _ _ _ _ _ _)
            rw [un]
            exact Bd.non (bad_conB j2)
          · refine Or.inr (Or.inl ⟨hr, k, f, fs, true, nxq g N q, un, ?_⟩)
            rw [ht]
            have B2 : BkM K M s2 := h2.cg (w2 13 (by decide)) (w1 2 (by decide) (by decide)) (w1 3 (by decide) (by decide)) (w1 6 (by decide) (by decide)) (w1 7 (by decide) (by decide))
            have F2 : FmM fs s2 := h9.cg (fun i _ => ⟨by rw [w1 16 (by decide) (by decide)], by rw [w1 17 (by decide) (by decide)], by rw [w1 18 (by decide) (by decide)]⟩)
            exact ⟨j1, B2.fr hf (by decide), (hf.f (by decide) (by decide)).trans ((w2 32 (by decide)).trans h3), (hf.f (by decide) (by decide)).trans ((w2 33 (by decide)).trans h4), h5, by rw [hf.1 16 (by decide), w1 16 (by decide) (by decide)]; exact h6, by rw [hf.1 17 (by decide), w1 17 (by decide) (by decide)]; exact h7, by rw [hf.1 18 (by decide), w1 18 (by decide) (by decide)]; exact h8, F2.fr hf (by decide), h10, h11, h12, h13, f2⟩
end PartM2
