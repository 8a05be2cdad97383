/-! the reference's reader with its codes: a sum, a which, a test -/
section ReadsCo
variable {g : Nat → Nat} {N q k f : Nat} {s t u : PS} {r : Int} {K M : List (List Nat)} {fs : List (Nat × Nat)} {b : Bool} {C Tt : List OPc}
theorem readsEnd {x1 : Int} : ∀ (n : Nat) (s : PS) (r : Int) (t : PS), It_X12_reads n x1 0 s r t → t = s
  | 0, s, r, t, h => False.elim h
  | n + 1, s, r, t, h => by
    have h := ul_X12_reads_38 h
    unfold T_X12_reads_38 at h
    obtain ⟨_, _, _, h⟩ := h
    rcases h with ⟨_, _, ht⟩ | ⟨c1, _⟩
    · exact ht
    · exact absurd rfl c1
theorem HdC.op (h : HdC g N K M Tt k f fs b q s) {v : Int} : HdC g N K M Tt k f fs b q (us s 0 36 v) := by
  obtain ⟨h1, C, w, ws, h2, h3⟩ := h
  exact ⟨h1.op, C, w, ws, h2.uq (by decide), h3⟩
theorem TlC.op (h : TlC g N K M Tt k f fs q s) {v : Int} : TlC g N K M Tt k f fs q (us s 0 36 v) := by
  obtain ⟨h1, C, w, ws, h2, h3⟩ := h
  exact ⟨h1.op, C, w, ws, h2.uq (by decide), h3⟩
def RdC (g : Nat → Nat) (N : Nat) (K M : List (List Nat)) (Tt : List OPc) (S : Option Nat) (t : PS) : Prop := ∃ q, S = some q ∧ MX g N q t ∧ BkM K M t ∧ CdM Tt t
theorem readsLC (hN : N ≤ 1000) (hg : ∀ i, g i ≤ 255) {S : Option Nat} (hok : ¬ S = none) {x1 : Int} : ∀ (n : Nat) (x : Int) (s : PS) (r : Int) (t : PS), It_X12_reads n x1 x s r t → t 0 8 = 0 → ((x = 0 ∧ RdC g N K M Tt S s) ∨ (¬ x = 0 ∧ s 0 36 = 0 ∧ ∃ k f fs b q, S = SpM g N K M k f fs b q ∧ HdC g N K M Tt k f fs b q s) ∨ (¬ x = 0 ∧ ¬ s 0 36 = 0 ∧ ∃ k f fs q, S = StM g N K M k f fs q ∧ TlC g N K M Tt k f fs q s)) → RdC g N K M Tt S t
  | 0, x, s, r, t, h, _, _ => False.elim h
  | n + 1, x, s, r, t, h, hz, hI => by
    have h := ul_X12_reads_38 h
    unfold T_X12_reads_38 at h
    obtain ⟨_, _, _, h⟩ := h
    rcases h with ⟨c1, _, ht⟩ | ⟨c1, ⟨c2, r1, s1, hm, _, _, _, s2, e2, _, h⟩ | ⟨c2, r1, s1, hm, _, _, hr1, h⟩⟩
    · rcases hI with ⟨_, k⟩ | ⟨k, _⟩ | ⟨k, _⟩
      · rw [ht]
        exact k
      · exact absurd c1 k
      · exact absurd c1 k
    · rcases hI with ⟨k, _⟩ | ⟨_, _, k, f, fs, b, q, hS, hH⟩ | ⟨_, k, _⟩
      · exact absurd k c1
      · rcases h with ⟨c3, h⟩ | ⟨c3, h⟩
        · have pr := partMC hN hg hm hH c3 (by rw [← hS]; exact hok)
          rw [← hS] at pr
          refine readsLC hN hg hok n 1 s2 r t h hz ?_
          rcases pr with ⟨z, k2, f2, fs2, b2, q2, hS2, hH2⟩ | ⟨z, k2, f2, fs2, q2, hS2, hT2⟩
          · refine Or.inr (Or.inl ⟨by decide, ?_, k2, f2, fs2, b2, q2, hS2, ?_⟩)
            · rw [e2, us_at, z]
            · rw [e2]
              exact hH2.op
          · refine Or.inr (Or.inr ⟨by decide, ?_, k2, f2, fs2, q2, hS2, ?_⟩)
            · rw [e2, us_at, z]
              decide
            · rw [e2]
              exact hT2.op
        · rw [readsEnd n s2 r t h, e2, us_j (by decide)] at hz
          exact absurd hz c3
      · exact absurd c2 k
    · rcases hI with ⟨k, _⟩ | ⟨_, k, _⟩ | ⟨_, _, k, f, fs, q, hS, hT⟩
      · exact absurd k c1
      · exact absurd k c2
      · rcases h with ⟨c3, h⟩ | ⟨c3, ⟨c4, h⟩ | ⟨c4, h⟩⟩
        · have e := readsEnd n s1 r t h
          rw [e] at hz ⊢
          have gr := goesMC hN hg hm hT hz
          rw [← hS] at gr
          rcases gr with ⟨z, _⟩ | ⟨z, _⟩ | ⟨_, q2, z⟩
          · omega
          · omega
          · exact ⟨q2, z⟩
        · have gr := goesMC hN hg hm hT c4
          rw [← hS] at gr
          refine readsLC hN hg hok n 1 s1 r t h hz ?_
          rcases gr with ⟨_, z, k2, f2, fs2, b2, q2, hS2, hH2⟩ | ⟨_, z, k2, f2, fs2, q2, hS2, hT2⟩ | ⟨z, _⟩
          · exact Or.inr (Or.inl ⟨by decide, z, k2, f2, fs2, b2, q2, hS2, hH2⟩)
          · exact Or.inr (Or.inr ⟨by decide, by rw [z]; exact c2, k2, f2, fs2, q2, hS2, hT2⟩)
          · exact absurd z c3
        · rw [readsEnd n s1 r t h] at hz
          exact absurd hz c4
/-- a whole sum (0), test (1), which (2) -/
theorem readsMC (hN : N ≤ 1000) (hg : ∀ i, g i ≤ 255) (hk : k ≤ 2) (h : M_X12_reads s (k : Int) r t) (hM : MX g N q s) (hB : BkM K M s) (hC : CdM C s) (hz : t 0 8 = 0) : RdC g N K M (C ++ CB g N K M k 0 [] [] [] true q) (SpM g N K M k 0 [] true q) t := by
  have hok : ¬ SpM g N K M k 0 [] true q = none := by
    rcases readsM hN hg hk h hM hB with ⟨z, _⟩ | ⟨q2, z, _⟩
    · exact absurd hz z
    · rw [z]
      exact fun y => by cases y
  obtain ⟨n, h⟩ := h
  unfold T_X12_reads_e at h
  obtain ⟨_, _, s1, e1, s2, e2, s3, e3, s4, e4, s5, hm, _, _, _, h⟩ := h
  have p := pushM hm
  have z32 : s4 0 32 = 0 := by rw [e4, us_j (by decide), e3, us_j (by decide), e2, us_j (by decide), e1, us_at]
  have z33 : s4 0 33 = 0 := by rw [e4, us_j (by decide), e3, us_j (by decide), e2, us_at]
  have z36 : s4 0 36 = 0 := by rw [e4, us_at]
  have m4 : MX g N q s4 := hM.cg (by rw [e4, us_k (by decide), e3, us_k (by decide), e2, us_k (by decide), e1, us_k (by decide)]) (fun j j1 j2 => by rw [e4, us_j (by omega), e3, us_j (by omega), e2, us_j (by omega), e1, us_j (by omega)])
  have b4 : BkM K M s4 := hB.cg (by rw [e4, us_j (by decide), e3, us_j (by decide), e2, us_j (by decide), e1, us_j (by decide)]) (by rw [e4, us_k (by decide), e3, us_k (by decide), e2, us_k (by decide), e1, us_k (by decide)]) (by rw [e4, us_k (by decide), e3, us_k (by decide), e2, us_k (by decide), e1, us_k (by decide)]) (by rw [e4, us_k (by decide), e3, us_k (by decide), e2, us_k (by decide), e1, us_k (by decide)]) (by rw [e4, us_k (by decide), e3, us_k (by decide), e2, us_k (by decide), e1, us_k (by decide)])
  have c4 : CdM C s4 := by
    rw [e4, e3, e2, e1]
    exact (((hC.uq (by decide)).uq (by decide)).uq (by decide)).uq (by decide)
  have w4 : WtM [] s4 := by
    refine ⟨?_, True.intro⟩
    rw [e4, us_j (by decide), e3, us_at]
    rfl
  have pc := pushC hm (show s4 0 32 = (([] : List (List OPc)).length : Int) from z32) c4 w4
  rw [z32] at p
  have e0 : (0 : Int).toNat = 0 := rfl
  rw [e0] at p
  refine readsLC hN hg hok n 1 s5 r t h hz (Or.inr (Or.inl ⟨by decide, ?_, k, 0, [], true, q, rfl, ⟨?_, ?_, ?_, ?_, Nat.zero_le _, ?_, ?_, ?_, True.intro, by show k = 0 ∨ k = 1 ∨ k = 2; omega, fun _ => rfl, fun _ => rfl, fun z => absurd z (by decide), by decide⟩, C, [], [], ⟨rfl, pc.1, pc.2⟩, fun _ => ⟨rfl, rfl⟩, rfl⟩))
  · rw [p, us_j (by decide), us_k (by decide), us_k (by decide), us_k (by decide), us_k (by decide), z36]
  · refine m4.cg (by rw [p, us_k (by decide), us_k (by decide), us_k (by decide), us_k (by decide), us_k (by decide)]) (fun j j1 j2 => ?_)
    rw [p, us_j (by omega), us_k (by decide), us_k (by decide), us_k (by decide), us_k (by decide)]
  · refine b4.cg ?_ ?_ ?_ ?_ ?_
    · rw [p, us_j (by decide), us_k (by decide), us_k (by decide), us_k (by decide), us_k (by decide)]
    · rw [p, us_k (by decide), us_k (by decide), us_k (by decide), us_k (by decide), us_k (by decide)]
    · rw [p, us_k (by decide), us_k (by decide), us_k (by decide), us_k (by decide), us_k (by decide)]
    · rw [p, us_k (by decide), us_k (by decide), us_k (by decide), us_k (by decide), us_k (by decide)]
    · rw [p, us_k (by decide), us_k (by decide), us_k (by decide), us_k (by decide), us_k (by decide)]
  · rw [p, us_at]
    rfl
  · rw [p, us_j (by decide), us_k (by decide), us_k (by decide), us_k (by decide), us_k (by decide), z33]
    rfl
  · show s5 16 0 = _
    rw [p, us_k (by decide), us_k (by decide), us_k (by decide), us_k (by decide), us_at]
  · show s5 17 0 = _
    rw [p, us_k (by decide), us_k (by decide), us_k (by decide), us_at]
    rfl
  · show s5 18 0 = _
    rw [p, us_k (by decide), us_k (by decide), us_at]
    rfl
abbrev smR (g : Nat → Nat) (N : Nat) (q : Nat) : List OPc := smE (tkq g N) (nxq g N) 1001 (nvq g N) 8 q
abbrev whR (g : Nat → Nat) (N : Nat) (K M : List (List Nat)) (q : Nat) : List OPc := etE (tkq g N) (nxq g N) 1001 ntR (atW (tkq g N) (nxq g N) (knK (ltq g N) K M)) (awE (tkq g N) (ltq g N) K M) 8 q
abbrev teR (g : Nat → Nat) (N : Nat) (q : Nat) : List OPc := etE (tkq g N) (nxq g N) 1001 ntR (atT (tkq g N) (nxq g N) 1001) (atE (tkq g N) (nxq g N) 1001 (nvq g N) (ltq g N)) 8 q
theorem readsSumC (hN : N ≤ 1000) (hg : ∀ i, g i ≤ 255) (h : M_X12_reads s 0 r t) (hM : MX g N q s) (hB : BkM K M s) (hC : CdM C s) (hz : t 0 8 = 0) : RdC g N K M (C ++ smR g N q) (sumD (tkq g N) (nxq g N) 1001 8 q) t := by
  have k := readsMC (k := 0) (K := K) (M := M) hN hg (by decide) h hM hB hC hz
  rw [show SpM g N K M 0 0 [] true q = _ from B_sum] at k
  have ok : ¬ sumD (tkq g N) (nxq g N) 1001 8 q = none := by
    obtain ⟨q2, z, _⟩ := k
    rw [z]
    exact fun y => by cases y
  have e := E_sum (T := tkq g N) (N := nxq g N) (F := 1001) (V := nvq g N) (Lw := ltq g N) (kn := knK (ltq g N) K M) (K := K) (M := M) (q := q) ok
  rw [show CB g N K M 0 0 [] [] [] true q = _ from e] at k
  exact k
theorem readsWhichC (hN : N ≤ 1000) (hg : ∀ i, g i ≤ 255) (h : M_X12_reads s 2 r t) (hM : MX g N q s) (hB : BkM K M s) (hC : CdM C s) (hz : t 0 8 = 0) : RdC g N K M (C ++ whR g N K M q) (eitD (tkq g N) (nxq g N) 1001 (atW (tkq g N) (nxq g N) (knK (ltq g N) K M)) 8 q) t := by
  have k := readsMC (k := 2) (K := K) (M := M) hN hg (by decide) h hM hB hC hz
  rw [show SpM g N K M 2 0 [] true q = _ from B_eit (ngr hg) (by omega) hM.2.1 (Or.inr rfl)] at k
  have e := E_eit (T := tkq g N) (N := nxq g N) (F := 1001) (V := nvq g N) (Lw := ltq g N) (kn := knK (ltq g N) K M) (K := K) (M := M) (q := q) (ngr (N := N) hg) (by omega) hM.2.1 (Or.inr rfl)
  rw [show CB g N K M 2 0 [] [] [] true q = _ from e] at k
  have e : atK (tkq g N) (nxq g N) 1001 (knK (ltq g N) K M) 2 = atW (tkq g N) (nxq g N) (knK (ltq g N) K M) := by
    unfold atK
    rw [if_neg (by decide)]
  have e2 : aE (tkq g N) (nxq g N) 1001 (nvq g N) (ltq g N) K M 2 = awE (tkq g N) (ltq g N) K M := by
    unfold aE
    rw [if_neg (by decide)]
  rw [e, e2] at k
  exact k
theorem readsTestC (hN : N ≤ 1000) (hg : ∀ i, g i ≤ 255) (h : M_X12_reads s 1 r t) (hM : MX g N q s) (hB : BkM K M s) (hC : CdM C s) (hz : t 0 8 = 0) : RdC g N K M (C ++ teR g N q) (eitD (tkq g N) (nxq g N) 1001 (atT (tkq g N) (nxq g N) 1001) 8 q) t := by
  have k := readsMC (k := 1) (K := K) (M := M) hN hg (by decide) h hM hB hC hz
  rw [show SpM g N K M 1 0 [] true q = _ from B_eit (ngr hg) (by omega) hM.2.1 (Or.inl rfl)] at k
  have e := E_eit (T := tkq g N) (N := nxq g N) (F := 1001) (V := nvq g N) (Lw := ltq g N) (kn := knK (ltq g N) K M) (K := K) (M := M) (q := q) (ngr (N := N) hg) (by omega) hM.2.1 (Or.inl rfl)
  rw [show CB g N K M 1 0 [] [] [] true q = _ from e] at k
  have e : atK (tkq g N) (nxq g N) 1001 (knK (ltq g N) K M) 1 = atT (tkq g N) (nxq g N) 1001 := by
    unfold atK
    rw [if_pos (by decide)]
  have e2 : aE (tkq g N) (nxq g N) 1001 (nvq g N) (ltq g N) K M 1 = atE (tkq g N) (nxq g N) 1001 (nvq g N) (ltq g N) := by
    unfold aE
    rw [if_pos (by decide)]
  rw [e, e2] at k
  exact k
end ReadsCo
