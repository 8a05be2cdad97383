/-! the reference's reader: a sum, a which, a test -/
section ReadsM
variable {g : Nat → Nat} {N q k f : Nat} {s t u : PS} {r : Int} {K M : List (List Nat)} {fs : List (Nat × Nat)} {b : Bool}
/-- what reading comes to -/
def RdE (g : Nat → Nat) (N : Nat) (K M : List (List Nat)) (S : Option Nat) (t : PS) : Prop := (¬ t 0 8 = 0 ∧ Bd (tkq g N) S) ∨ (∃ q, S = some q ∧ MX g N q t ∧ BkM K M t)
theorem HdM.op (h : HdM g N K M k f fs b q s) {v : Int} : HdM g N K M k f fs b q (us s 0 36 v) := by
  obtain ⟨h1, h2, h3, h4, h5, h6, h7, h8, h9, h10⟩ := h
  exact ⟨h1.cg (us_k (by decide)) (fun j _ _ => us_j (by omega) _), h2.cg (us_j (by decide) _) (us_k (by decide)) (us_k (by decide)) (us_k (by decide)) (us_k (by decide)), (us_j (by decide) _).trans h3, (us_j (by decide) _).trans h4, h5, by rw [us_k (by decide)]; exact h6, by rw [us_k (by decide)]; exact h7, by rw [us_k (by decide)]; exact h8, h9.cg (fun i _ => ⟨by rw [us_k (by decide)], by rw [us_k (by decide)], by rw [us_k (by decide)]⟩), h10⟩
theorem TlM.op (h : TlM g N K M k f fs q s) {v : Int} : TlM g N K M k f fs q (us s 0 36 v) := by
  obtain ⟨h1, h2, h3, h4, h5, h6, h7⟩ := h
  exact ⟨h1.cg (us_k (by decide)) (fun j _ _ => us_j (by omega) _), h2.cg (us_j (by decide) _) (us_k (by decide)) (us_k (by decide)) (us_k (by decide)) (us_k (by decide)), (us_j (by decide) _).trans h3, (us_j (by decide) _).trans h4, h5, h6.cg (fun i _ => ⟨by rw [us_k (by decide)], by rw [us_k (by decide)], by rw [us_k (by decide)]⟩), h7⟩
theorem readsL (hN : N ≤ 1000) (hg : ∀ i, g i ≤ 255) {S : Option Nat} {x1 : Int} : ∀ (n : Nat) (x : Int) (s : PS) (r : Int) (t : PS), It_X12_reads n x1 x s r t → ((x = 0 ∧ RdE g N K M S s) ∨ (¬ x = 0 ∧ s 0 36 = 0 ∧ ∃ k f fs b q, S = SpM g N K M k f fs b q ∧ HdM g N K M k f fs b q s) ∨ (¬ x = 0 ∧ ¬ s 0 36 = 0 ∧ ∃ k f fs q, S = StM g N K M k f fs q ∧ TlM g N K M k f fs q s)) → RdE g N K M S t
  | 0, x, s, r, t, h, _ => False.elim h
  | n + 1, x, s, r, t, h, hI => by
    have h := ul_X12_reads_38 h
    unfold T_X12_reads_38 at h
    obtain ⟨_, _, _, h⟩ := h
    rcases h with ⟨c1, _, ht⟩ | ⟨c1, ⟨c2, r1, s1, hm, _, _, _, s2, e2, _, h⟩ | ⟨c2, r1, s1, hm, _, _, hr1, h⟩⟩
    · rcases hI with ⟨_, k⟩ | ⟨k, _⟩ | ⟨k, _⟩
      · rw [ht]
        exact k
      · exact absurd c1 k
      · exact absurd c1 k
    · rcases hI with ⟨k, _⟩ | ⟨_, _, k, f, fs, b, q, hS, hH⟩ | ⟨_, k, _⟩
      · exact absurd k c1
      · have pr := partM hN hg hm hH
        rw [← hS] at pr
        rcases h with ⟨c3, h⟩ | ⟨c3, h⟩
        · refine readsL hN hg n 1 s2 r t h ?_
          rcases pr with ⟨z, _⟩ | ⟨z, k2, f2, fs2, b2, q2, hS2, hH2⟩ | ⟨z, k2, f2, fs2, q2, hS2, hT2⟩
          · exact absurd c3 z
          · refine Or.inr (Or.inl ⟨by decide, ?_, k2, f2, fs2, b2, q2, hS2, ?_⟩)
            · rw [e2, us_at, z]
            · rw [e2]
              exact hH2.op
          · refine Or.inr (Or.inr ⟨by decide, ?_, k2, f2, fs2, q2, hS2, ?_⟩)
            · rw [e2, us_at, z]
              decide
            · rw [e2]
              exact hT2.op
        · refine readsL hN hg n 0 s2 r t h (Or.inl ⟨rfl, Or.inl ⟨?_, ?_⟩⟩)
          · rw [e2, us_j (by decide)]
            exact c3
          · rcases pr with ⟨_, z⟩ | ⟨_, k2, f2, fs2, b2, q2, hS2, hH2⟩ | ⟨_, k2, f2, fs2, q2, hS2, hT2⟩
            · exact z
            · exact absurd hH2.1.2.2.1 c3
            · exact absurd hT2.1.2.2.1 c3
      · exact absurd c2 k
    · rcases hI with ⟨k, _⟩ | ⟨_, k, _⟩ | ⟨_, _, k, f, fs, q, hS, hT⟩
      · exact absurd k c1
      · exact absurd k c2
      · have gr := goesM hN hg hm hT
        rw [← hS] at gr
        rcases h with ⟨c3, h⟩ | ⟨c3, ⟨c4, h⟩ | ⟨c4, h⟩⟩
        · refine readsL hN hg n 0 s1 r t h (Or.inl ⟨rfl, ?_⟩)
          rcases gr with z | ⟨z, _⟩ | ⟨z, _⟩ | ⟨_, q2, z1, z2, z3⟩
          · exact Or.inl z
          · omega
          · omega
          · exact Or.inr ⟨q2, z1, z2, z3⟩
        · refine readsL hN hg n 1 s1 r t h ?_
          rcases gr with ⟨z, _⟩ | ⟨_, z, k2, f2, fs2, b2, q2, hS2, hH2⟩ | ⟨_, z, k2, f2, fs2, q2, hS2, hT2⟩ | ⟨z, _⟩
          · exact absurd c4 z
          · exact Or.inr (Or.inl ⟨by decide, z, k2, f2, fs2, b2, q2, hS2, hH2⟩)
          · exact Or.inr (Or.inr ⟨by decide, by rw [z]; exact c2, k2, f2, fs2, q2, hS2, hT2⟩)
          · exact absurd z c3
        · refine readsL hN hg n 0 s1 r t h (Or.inl ⟨rfl, ?_⟩)
          rcases gr with z | ⟨_, _, k2, f2, fs2, b2, q2, _, hH2⟩ | ⟨_, _, k2, f2, fs2, q2, _, hT2⟩ | ⟨z, _⟩
          · exact Or.inl z
          · exact absurd hH2.1.2.2.1 c4
          · exact absurd hT2.1.2.2.1 c4
          · exact absurd z c3
/-- a whole sum (0), test (1), which (2) -/
theorem readsM (hN : N ≤ 1000) (hg : ∀ i, g i ≤ 255) (hk : k ≤ 2) (h : M_X12_reads s (k : Int) r t) (hM : MX g N q s) (hB : BkM K M s) : RdE g N K M (SpM g N K M k 0 [] true q) t := by
  obtain ⟨n, h⟩ := h
  unfold T_X12_reads_e at h
  obtain ⟨_, _, s1, e1, s2, e2, s3, e3, s4, e4, s5, hm, _, _, _, h⟩ := h
  have p := pushM hm
  have z32 : s4 0 32 = 0 := by rw [e4, us_j (by decide), e3, us_j (by decide), e2, us_j (by decide), e1, us_at]
  have z33 : s4 0 33 = 0 := by rw [e4, us_j (by decide), e3, us_j (by decide), e2, us_at]
  have z36 : s4 0 36 = 0 := by rw [e4, us_at]
  have m4 : MX g N q s4 := hM.cg (by rw [e4, us_k (by decide), e3, us_k (by decide), e2, us_k (by decide), e1, us_k (by decide)]) (fun j j1 j2 => by rw [e4, us_j (by omega), e3, us_j (by omega), e2, us_j (by omega), e1, us_j (by omega)])
  have b4 : BkM K M s4 := hB.cg (by rw [e4, us_j (by decide), e3, us_j (by decide), e2, us_j (by decide), e1, us_j (by decide)]) (by rw [e4, us_k (by decide), e3, us_k (by decide), e2, us_k (by decide), e1, us_k (by decide)]) (by rw [e4, us_k (by decide), e3, us_k (by decide), e2, us_k (by decide), e1, us_k (by decide)]) (by rw [e4, us_k (by decide), e3, us_k (by decide), e2, us_k (by decide), e1, us_k (by decide)]) (by rw [e4, us_k (by decide), e3, us_k (by decide), e2, us_k (by decide), e1, us_k (by decide)])
  rw [z32] at p
  have e0 : (0 : Int).toNat = 0 := rfl
  rw [e0] at p
  refine readsL hN hg n 1 s5 r t h (Or.inr (Or.inl ⟨by decide, ?_, k, 0, [], true, q, rfl, ?_, ?_, ?_, ?_, Nat.zero_le _, ?_, ?_, ?_, True.intro, by show k = 0 ∨ k = 1 ∨ k = 2; omega, fun _ => rfl, fun _ => rfl, fun z => absurd z (by decide), by decide⟩))
  · rw [p, us_j (by decide), us_k (by decide), us_k (by decide), us_k (by decide), us_k (by decide), z36]
  · refine m4.cg (by rw [p, us_k (by decide), us_k (by decide), us_k (by decide), us_k (by decide), us_k (by decide)]) (fun j j1 j2 => ?_)
    rw [p, us_j (by omega), us_k (by decide), us_k (by decide), us_k (by decide), us_k (by decide)]
  · refine b4.cg ?_ ?_ ?_ ?_ ?_
    · rw [p, us_j (by decide), us_k (by decide), us_k (by decide), us_k (by decide), us_k (by decide)]
    · rw [p, us_k (by decide), us_k (by decide), us_k (by decide), us_k (by decide), us_k (by decide)]
    · rw [p, us_k (by decide), us_k (by decide), us_k (by decide), us_k (by decide), us_k (by decide)]
    · rw [p, us_k (by decide), us_k (by decide), us_k (by decide), us_k (by decide), us_k (by decide)]
    · rw [p, us_k (by decide), us_k (by decide), us_k (by decide), us_k (by decide), us_k (by decide)]
  · rw [p, us_at]
    rfl
  · rw [p, us_j (by decide), us_k (by decide), us_k (by decide), us_k (by decide), us_k (by decide), z33]
    rfl
  · show s5 16 0 = _
    rw [p, us_k (by decide), us_k (by decide), us_k (by decide), us_k (by decide), us_at]
  · show s5 17 0 = _
    rw [p, us_k (by decide), us_k (by decide), us_k (by decide), us_at]
    rfl
  · show s5 18 0 = _
    rw [p, us_k (by decide), us_k (by decide), us_at]
    rfl
theorem readsSum (hN : N ≤ 1000) (hg : ∀ i, g i ≤ 255) (h : M_X12_reads s 0 r t) (hM : MX g N q s) (hB : BkM K M s) : RdE g N K M (sumD (tkq g N) (nxq g N) 1001 8 q) t := by
  have k := readsM (k := 0) (K := K) (M := M) hN hg (by decide) h hM hB
  rw [show SpM g N K M 0 0 [] true q = _ from B_sum] at k
  exact k
theorem readsWhich (hN : N ≤ 1000) (hg : ∀ i, g i ≤ 255) (h : M_X12_reads s 2 r t) (hM : MX g N q s) (hB : BkM K M s) : RdE g N K M (eitD (tkq g N) (nxq g N) 1001 (atW (tkq g N) (nxq g N) (knK (ltq g N) K M)) 8 q) t := by
  have k := readsM (k := 2) (K := K) (M := M) hN hg (by decide) h hM hB
  rw [show SpM g N K M 2 0 [] true q = _ from B_eit (ngr hg) (by omega) hM.2.1 (Or.inr rfl)] at k
  have e : atK (tkq g N) (nxq g N) 1001 (knK (ltq g N) K M) 2 = atW (tkq g N) (nxq g N) (knK (ltq g N) K M) := by
    unfold atK
    rw [if_neg (by decide)]
  rw [e] at k
  exact k
theorem readsTest (hN : N ≤ 1000) (hg : ∀ i, g i ≤ 255) (h : M_X12_reads s 1 r t) (hM : MX g N q s) (hB : BkM K M s) : RdE g N K M (eitD (tkq g N) (nxq g N) 1001 (atT (tkq g N) (nxq g N) 1001) 8 q) t := by
  have k := readsM (k := 1) (K := K) (M := M) hN hg (by decide) h hM hB
  rw [show SpM g N K M 1 0 [] true q = _ from B_eit (ngr hg) (by omega) hM.2.1 (Or.inl rfl)] at k
  have e : atK (tkq g N) (nxq g N) 1001 (knK (ltq g N) K M) 1 = atT (tkq g N) (nxq g N) 1001 := by
    unfold atK
    rw [if_pos (by decide)]
  rw [e] at k
  exact k
end ReadsM
