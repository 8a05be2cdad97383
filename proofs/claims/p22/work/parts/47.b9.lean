/-! the reference's reader: statements -/
theorem tb_one {v : Int} {k : Nat} (hk : k < 32) : iAnd (iShr v (k : Int)) 1 = 1 ↔ tb v k = true := by
  have h : iAnd (iShr v (k : Int)) 1 = 0 ∨ iAnd (iShr v (k : Int)) 1 = 1 := by
    have e2 : iAnd (iShr v (k : Int)) 1 = ((Int32.ofInt v >>> (Int32.ofInt (k : Int) &&& 31)) &&& 1).toInt := (z_and rfl (show (1 : Int32).toInt = 1 from by decide)).symm
    have e3 : ((Int32.ofInt v >>> (Int32.ofInt (k : Int) &&& 31)) &&& 1).toInt = ((Int32.ofInt v >>> (Int32.ofInt (k : Int) &&& 31)).toBitVec &&& 1#32).toInt := rfl
    rw [e2, e3, bit_and1]
    split
    · exact Or.inr rfl
    · exact Or.inl rfl
  unfold tb
  rw [decide_eq_true_eq]
  omega
/-- bits of one kind: which marks it has -/
def BiM (M cur : List (List Nat)) (v : Int) : Prop := ∀ m : Nat, m < 32 → (tb v m = true ↔ ∃ l, M[m]? = some l ∧ l ∈ cur)
def AxM (M : List (List Nat)) (C : List (List (List Nat))) (W : List (Nat × Nat × Nat)) (O E : Nat) (s : PS) : Prop := ∃ a : Nat, a ≤ 1 ∧ s 0 13 = (a : Int) ∧ s 4 a = (O : Int) ∧ s 5 a = (E : Int) ∧ M.Nodup ∧ (∀ c ∈ C, ∀ x ∈ c, x ∈ M) ∧ (∀ (i : Nat) (c : List (List Nat)), C[i]? = some c → BiM M c (s 11 (10 * a + i))) ∧ (∀ (i : Nat) (x : Nat × Nat × Nat), W[i]? = some x → s 8 (10 * a + i) = (x.1 : Int) ∧ s 9 (10 * a + i) = (x.2.1 : Int) ∧ s 10 (10 * a + i) = (x.2.2 : Int))
section StmtM
variable {g : Nat → Nat} {N q : Nat} {s t u : PS} {r : Int} {K M cur : List (List Nat)} {C : List (List (List Nat))} {W : List (Nat × Nat × Nat)} {O E : Nat} {ms : List Nat} {fm : List (Nat × Nat)}
abbrev okAm (ms : List Nat) (fm : List (Nat × Nat)) : Prop := 4 ∉ ms ∧ 5 ∉ ms ∧ 8 ∉ ms ∧ 9 ∉ ms ∧ 10 ∉ ms ∧ 11 ∉ ms ∧ (0 ∉ ms ∨ (0 ∈ fm.map Prod.fst ∧ (0, 13) ∉ fm))
theorem AxM.cg (h : AxM M C W O E s) (e0 : t 0 13 = s 0 13) (e4 : t 4 = s 4) (e5' : t 5 = s 5) (e8' : t 8 = s 8) (e9 : t 9 = s 9) (e10 : t 10 = s 10) (e11 : t 11 = s 11) : AxM M C W O E t := by
  obtain ⟨a, h1, h2, h3, h4, h5, h6, h7, h8⟩ := h
  exact ⟨a, h1, e0.trans h2, by rw [e4]; exact h3, by rw [e5']; exact h4, h5, h6, fun i c hc => by rw [e11]; exact h7 i c hc, fun i x hx => by rw [e8', e9, e10]; exact h8 i x hx⟩
theorem AxM.fr (h : AxM M C W O E s) (hf : Fr intsM ms fm s t) (c : okAm ms fm) : AxM M C W O E t := h.cg (hf.f (by decide) c.2.2.2.2.2.2) (hf.1 4 c.1) (hf.1 5 c.2.1) (hf.1 8 c.2.2.1) (hf.1 9 c.2.2.2.1) (hf.1 10 c.2.2.2.2.1) (hf.1 11 c.2.2.2.2.2.1)
/-- a fault or the place behind -/
def RdP (g : Nat → Nat) (N : Nat) (S : Option Nat) (t : PS) : Prop := (¬ t 0 8 = 0 ∧ Bd (tkq g N) S) ∨ (∃ q, S = some q ∧ MX g N q t)
theorem mustM (hN : N ≤ 1000) (hg : ∀ i, g i ≤ 255) {c : Nat} (hc : c < 256) (h : M_X12_must s (c : Int) r t) (hM : MX g N q s) : RdP g N (psK (tkq g N) (nxq g N) c q) t := by
  unfold M_X12_must T_X12_must_e at h
  obtain ⟨_, _, r1, s1, hm, _, _, _, h⟩ := h
  obtain ⟨e1, k1⟩ := isSignM hc hm hM
  rw [e1] at h
  rcases h with ⟨c1, s2, _, _, _, z, _, ht⟩ | ⟨c1, _, s2, hl, hf, _, _, ht⟩
  · refine Or.inl ⟨by rw [ht]; exact z, Bd.non ?_⟩
    unfold psK
    rw [if_neg (by rcases k1 with k | k; exact absurd k.1 (by omega); exact k.2)]
  · have e : tkq g N q = c := by rcases k1 with k | k; exact k.2; exact absurd k.1 c1
    have ps : psK (tkq g N) (nxq g N) c q = some (nxq g N q) := by
      unfold psK
      rw [if_pos e]
    rw [ps, ht]
    rcases lookX hN hg (hM.mw (by omega)) hl hf with ⟨j1, j2⟩ | j1
    · exact Or.inl ⟨j1, bad_some j2⟩
    · exact Or.inr ⟨_, rfl, j1⟩
theorem mustWordM (hN : N ≤ 1000) (hg : ∀ i, g i ≤ 255) {i : Nat} (hi : i < 22) {c : Int} (hc : c = ((c8 (ownW[i]'(by show i < 22; exact hi)) : Nat) : Int)) (h : M_X12_mustWord s c r t) (hM : MX g N q s) : RdP g N (psK (tkq g N) (nxq g N) (261 + i) q) t := by
  unfold M_X12_mustWord T_X12_mustWord_e at h
  obtain ⟨_, r1, s1, hm, _, _, _, h⟩ := h
  obtain ⟨e1, k1⟩ := isWordM hg hi hc hm hM
  rw [e1] at h
  rcases h with ⟨c1, s2, _, _, _, z, _, ht⟩ | ⟨c1, _, s2, hl, hf, _, _, ht⟩
  · refine Or.inl ⟨by rw [ht]; exact z, Bd.non ?_⟩
    unfold psK
    rw [if_neg (by rcases k1 with k | k; exact absurd k.1 (by omega); exact k.2)]
  · have e : tkq g N q = 261 + i := by rcases k1 with k | k; exact k.2; exact absurd k.1 c1
    have ps : psK (tkq g N) (nxq g N) (261 + i) q = some (nxq g N q) := by
      unfold psK
      rw [if_pos e]
    rw [ps, ht]
    rcases lookX hN hg (hM.mw (by omega)) hl hf with ⟨j1, j2⟩ | j1
    · exact Or.inl ⟨j1, bad_some j2⟩
    · exact Or.inr ⟨_, rfl, j1⟩
/-- a number between two others -/
def nuK (T Nx V : Nat → Nat) (lo hi q : Nat) : Option Nat := if T q = 259 ∧ lo ≤ V q ∧ V q ≤ hi then some (Nx q) else none
theorem nmK_nu (T Nx V : Nat → Nat) (c lo hi q : Nat) : nmK T Nx V c lo hi q = (psK T Nx c q).bind (nuK T Nx V lo hi) := rfl
theorem bad_nu {T Nx V : Nat → Nat} {lo hi : Nat} (h : T q = 257) : nuK T Nx V lo hi q = none := by
  unfold nuK
  rw [if_neg (by omega)]
theorem numberM (hN : N ≤ 1000) (hg : ∀ i, g i ≤ 255) {lo hi : Nat} (h : M_X12_number s (lo : Int) (hi : Int) r t) (hM : MX g N q s) : (¬ t 0 8 = 0 ∧ Bd (tkq g N) (nuK (tkq g N) (nxq g N) (nvq g N) lo hi q)) ∨ (nuK (tkq g N) (nxq g N) (nvq g N) lo hi q = some (nxq g N q) ∧ MX g N (nxq g N q) t ∧ r = (nvq g N q : Int)) := by
  unfold M_X12_number T_X12_number_e at h
  obtain ⟨_, _, _, h⟩ := h
  rcases h with ⟨c1, _, r1, s1, hm, _, _, _, h⟩ | ⟨c1, s1, _, _, _, z, _, _, ht⟩
  · have sg := hM.sg.2.2.2
    have e : tkq g N q = 259 ∧ s 0 6 = (nvq g N q : Int) := by
      rcases sg with ⟨_, z⟩ | ⟨_, _, z, _⟩ | ⟨z1, _, z2⟩ | ⟨_, z, _⟩
      · omega
      · omega
      · exact ⟨z1, z2⟩
      · omega
    unfold M_X12_is T_X12_is_e at hm
    obtain ⟨_, hm⟩ := hm
    rw [e.2] at hm h
    have is : s1 = s ∧ ((r1 = 1 ∧ lo ≤ nvq g N q ∧ nvq g N q ≤ hi) ∨ (r1 = 0 ∧ ¬ (lo ≤ nvq g N q ∧ nvq g N q ≤ hi))) := by
      rcases hm with ⟨c, hr, hs⟩ | ⟨c, ⟨c2, hr, hs⟩ | ⟨c2, hr, hs⟩⟩
      · exact ⟨hs, Or.inr ⟨hr, by omega⟩⟩
      · first | exact ⟨hs, Or.inr ⟨hr, by omega⟩⟩ | exact ⟨hs, Or.inl ⟨hr, by omega, by omega⟩⟩
      · first | exact ⟨hs, Or.inl ⟨hr, by omega, by omega⟩⟩ | exact ⟨hs, Or.inr ⟨hr, by omega⟩⟩
    rw [is.1] at h
    rcases h with ⟨c2, s2, _, _, _, z, _, ht⟩ | ⟨c2, _, s2, hl, hf, _, hr, ht⟩
    · refine Or.inl ⟨by rw [ht]; exact z, Bd.non ?_⟩
      unfold nuK
      rw [if_neg]
      intro y
      rcases is.2 with k | k
      · exact absurd k.1 (by omega)
      · exact k.2 y.2
    · have nu : nuK (tkq g N) (nxq g N) (nvq g N) lo hi q = some (nxq g N q) := by
        unfold nuK
        rw [if_pos]
        rcases is.2 with k | k
        · exact ⟨e.1, k.2⟩
        · exact absurd k.1 c2
      rw [nu, ht]
      rcases lookX hN hg (hM.mw (by omega)) hl hf with ⟨j1, j2⟩ | j1
      · exact Or.inl ⟨j1, bad_some j2⟩
      · exact Or.inr ⟨rfl, j1, hr⟩
  · refine Or.inl ⟨by rw [ht]; exact z, Bd.non ?_⟩
    unfold nuK
    rw [if_neg]
    intro y
    rcases hM.sg.2.2.2 with ⟨k, _⟩ | ⟨_, k, _⟩ | ⟨_, k, _⟩ | ⟨k, _⟩
    · omega
    · exact k y.1
    · exact c1 k
    · omega
theorem MX.cell (h : MX g N q s) {c j : Nat} {v : Int} (hc : ¬ c = 0 ∧ ¬ c = 1) : MX g N q (us s c j v) := h.cg (us_k (fun z => hc.2 z.symm)) (fun j2 _ _ => by rw [us_k (fun z => hc.1 z.symm)])
end StmtM
