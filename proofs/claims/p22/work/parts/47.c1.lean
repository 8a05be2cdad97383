/-! the reference's reader: kinds -/
/-- a kind's statement up to the sign at its end -/
def kdP (T Nx : Nat → Nat) (F : Nat) (V : Nat → Nat) (L : Nat → List Nat) (K M : List (List Nat)) (q : Nat) : Option ((List (List Nat) × List (List Nat) × (Nat × Nat × Nat)) × Nat) :=
  if K.length < 10 ∧ T (Nx q) = 258 ∧ ¬ L (Nx q) ∈ K ∧ ¬ L (Nx q) ∈ M then
    (nmK T Nx V 262 1 500 (Nx (Nx q))).bind fun a => (nmK T Nx V 263 0 1000 a).bind fun b => (nmK T Nx V 264 0 200 b).bind fun c => (if T c = 265 then mkF T Nx L (K ++ [L (Nx q)]) F M [] c else some ((M, []), c)).bind fun m => some ((m.1.1, m.1.2, (V (Nx (Nx (Nx q))), V (Nx a), V (Nx b))), m.2)
  else none
theorem kdS_P (T Nx : Nat → Nat) (F : Nat) (V : Nat → Nat) (L : Nat → List Nat) (K M : List (List Nat)) (q : Nat) : kdS T Nx F V L K M q = (kdP T Nx F V L K M q).bind fun x => (psK T Nx 59 x.2).bind fun e => some (x.1, e) := by
  unfold kdS kdP
  split
  · simp only [Option.bind_assoc, Option.bind_some]
  · rfl
theorem nm_bad {T Nx V : Nat → Nat} {c lo hi q : Nat} (hc : ¬ c = 257) (h : T q = 257) : nmK T Nx V c lo hi q = none := by rw [nmK_un, if_neg (by omega)]
section KindM
variable {g : Nat → Nat} {N q : Nat} {s t u : PS} {r : Int} {K M cur : List (List Nat)} {C : List (List (List Nat))} {W : List (Nat × Nat × Nat)} {O E : Nat} {a0 a1 a2 a3 a4 a5 a6 : Int}
/-! faults stay -/
theorem f257 {n : Nat} (h : It_X12_kind n 257 a0 a1 a2 a3 a4 a5 0 s r t) (hf : ¬ s 0 8 = 0) : ¬ t 0 8 = 0 := by
  cases n with
  | zero => exact False.elim h
  | succ n =>
    have h := ul_X12_kind_257 h
    unfold T_X12_kind_257 at h
    obtain ⟨ty, _, _, ⟨_, ⟨c, _⟩ | ⟨_, _, ht⟩⟩ | ⟨c, _⟩⟩ := h
    · have := tyM_flt ty
      omega
    · rw [ht]
      exact hf
    · exact absurd rfl c
theorem f255 {n : Nat} (h : It_X12_kind n 255 a0 a1 a2 a3 a4 a5 0 s r t) (hf : ¬ s 0 8 = 0) : ¬ t 0 8 = 0 := by
  cases n with
  | zero => exact False.elim h
  | succ n =>
    have h := ul_X12_kind_255 h
    unfold T_X12_kind_255 at h
    obtain ⟨_, _, _, _, h⟩ := h
    exact f257 h hf
theorem f254 {n : Nat} (h : It_X12_kind n 254 a0 a1 a2 a3 a4 a5 a6 s r t) (hf : ¬ s 0 8 = 0) : ¬ t 0 8 = 0 := by
  cases n with
  | zero => exact False.elim h
  | succ n =>
    have h := ul_X12_kind_254 h
    unfold T_X12_kind_254 at h
    obtain ⟨_, _, _, h⟩ := h
    exact f255 h hf
theorem f228 {n : Nat} (h : It_X12_kind n 228 a0 a1 a2 a3 a4 a5 a6 s r t) (hf : ¬ s 0 8 = 0) : ¬ t 0 8 = 0 := by
  cases n with
  | zero => exact False.elim h
  | succ n =>
    have h := ul_X12_kind_228 h
    unfold T_X12_kind_228 at h
    obtain ⟨_, _, ⟨c, _⟩ | ⟨c, h⟩⟩ := h
    · exact absurd c hf
    · exact f254 h hf
theorem f209 {n : Nat} (h : It_X12_kind n 209 a0 a1 a2 a3 a4 a5 a6 s r t) (hf : ¬ s 0 8 = 0) : ¬ t 0 8 = 0 := by
  cases n with
  | zero => exact False.elim h
  | succ n =>
    have h := ul_X12_kind_209 h
    unfold T_X12_kind_209 at h
    obtain ⟨_, _, ⟨c, _⟩ | ⟨c, h⟩⟩ := h
    · exact absurd c hf
    · exact f228 h hf
theorem f193 {n : Nat} (h : It_X12_kind n 193 a0 a1 a2 a3 a4 a5 a6 s r t) (hf : ¬ s 0 8 = 0) : ¬ t 0 8 = 0 := by
  cases n with
  | zero => exact False.elim h
  | succ n =>
    have h := ul_X12_kind_193 h
    unfold T_X12_kind_193 at h
    obtain ⟨_, _, ⟨c, _⟩ | ⟨c, h⟩⟩ := h
    · exact absurd c hf
    · exact f209 h hf
theorem f174 {n : Nat} (h : It_X12_kind n 174 a0 a1 a2 a3 a4 a5 a6 s r t) (hf : ¬ s 0 8 = 0) : ¬ t 0 8 = 0 := by
  cases n with
  | zero => exact False.elim h
  | succ n =>
    have h := ul_X12_kind_174 h
    unfold T_X12_kind_174 at h
    obtain ⟨_, _, ⟨c, _⟩ | ⟨c, h⟩⟩ := h
    · exact absurd c hf
    · exact f193 h hf
theorem f158 {n : Nat} (h : It_X12_kind n 158 a0 a1 a2 a3 a4 a5 a6 s r t) (hf : ¬ s 0 8 = 0) : ¬ t 0 8 = 0 := by
  cases n with
  | zero => exact False.elim h
  | succ n =>
    have h := ul_X12_kind_158 h
    unfold T_X12_kind_158 at h
    obtain ⟨_, _, ⟨c, _⟩ | ⟨c, h⟩⟩ := h
    · exact absurd c hf
    · exact f174 h hf
theorem f139 {n : Nat} (h : It_X12_kind n 139 a0 a1 a2 a3 a4 a5 a6 s r t) (hf : ¬ s 0 8 = 0) : ¬ t 0 8 = 0 := by
  cases n with
  | zero => exact False.elim h
  | succ n =>
    have h := ul_X12_kind_139 h
    unfold T_X12_kind_139 at h
    obtain ⟨_, _, ⟨c, _⟩ | ⟨c, h⟩⟩ := h
    · exact absurd c hf
    · exact f158 h hf
theorem f125 {n : Nat} (h : It_X12_kind n 125 a0 a1 a2 a3 a4 a5 a6 s r t) (hf : ¬ s 0 8 = 0) : ¬ t 0 8 = 0 := by
  cases n with
  | zero => exact False.elim h
  | succ n =>
    have h := ul_X12_kind_125 h
    unfold T_X12_kind_125 at h
    obtain ⟨_, _, ⟨c, _⟩ | ⟨c, h⟩⟩ := h
    · exact absurd c hf
    · exact f139 h hf
theorem f109 {n : Nat} (h : It_X12_kind n 109 a0 a1 a2 a3 a4 a5 a6 s r t) (hf : ¬ s 0 8 = 0) : ¬ t 0 8 = 0 := by
  cases n with
  | zero => exact False.elim h
  | succ n =>
    have h := ul_X12_kind_109 h
    unfold T_X12_kind_109 at h
    obtain ⟨_, _, ⟨c, _⟩ | ⟨c, h⟩⟩ := h
    · exact absurd c hf
    · exact f125 h hf
theorem f71 {n : Nat} (h : It_X12_kind n 71 a0 a1 a2 a3 a4 a5 a6 s r t) (hf : ¬ s 0 8 = 0) : ¬ t 0 8 = 0 := by
  cases n with
  | zero => exact False.elim h
  | succ n =>
    have h := ul_X12_kind_71 h
    unfold T_X12_kind_71 at h
    obtain ⟨_, _, ⟨c, _⟩ | ⟨c, h⟩⟩ := h
    · exact absurd c hf
    · exact f109 h hf
theorem f36 {n : Nat} (h : It_X12_kind n 36 a0 a1 a2 a3 a4 a5 a6 s r t) (hf : ¬ s 0 8 = 0) : ¬ t 0 8 = 0 := by
  cases n with
  | zero => exact False.elim h
  | succ n =>
    have h := ul_X12_kind_36 h
    unfold T_X12_kind_36 at h
    obtain ⟨_, _, ⟨c, _⟩ | ⟨c, h⟩⟩ := h
    · exact absurd c hf
    · exact f71 h hf
theorem f25 {n : Nat} (h : It_X12_kind n 25 a0 a1 a2 a3 a4 a5 a6 s r t) (hf : ¬ s 0 8 = 0) : ¬ t 0 8 = 0 := by
  cases n with
  | zero => exact False.elim h
  | succ n =>
    have h := ul_X12_kind_25 h
    unfold T_X12_kind_25 at h
    obtain ⟨_, _, ⟨c, _⟩ | ⟨c, h⟩⟩ := h
    · exact absurd c hf
    · exact f36 h hf
theorem f62 {n : Nat} (h : It_X12_kind n 62 a0 a1 a2 a3 a4 a5 a6 s r t) : ¬ t 0 8 = 0 := by
  cases n with
  | zero => exact False.elim h
  | succ n =>
    have h := ul_X12_kind_62 h
    unfold T_X12_kind_62 at h
    obtain ⟨ty, _, s1, hb, _, _, h⟩ := h
    exact f71 h (blameF hb (tyM_flt ty).1).1
theorem f100 {n : Nat} (h : It_X12_kind n 100 a0 a1 a2 a3 a4 a5 a6 s r t) : ¬ t 0 8 = 0 := by
  cases n with
  | zero => exact False.elim h
  | succ n =>
    have h := ul_X12_kind_100 h
    unfold T_X12_kind_100 at h
    obtain ⟨ty, _, s1, hb, _, _, h⟩ := h
    exact f109 h (blameF hb (tyM_flt ty).1).1
/-! marks -/
theorem BiM.grow {c : List (List Nat)} {v : Int} {l : List Nat} (h : BiM M c v) (hs : ∀ x ∈ c, x ∈ M) (hl : ¬ l ∈ M) : BiM (M ++ [l]) c v := by
  intro m hm
  rw [h m hm, app_get]
  by_cases e : m = M.length
  · rw [if_pos e, e, List.getElem?_eq_none (Nat.le_refl _)]
    constructor
    · rintro ⟨x, hx, _⟩
      cases hx
    · rintro ⟨x, hx, hc⟩
      have := Option.some.inj hx
      exact absurd (hs x hc) (this ▸ hl)
  · rw [if_neg e]
theorem BiM.set {v : Int} {l : List Nat} {j : Nat} (h : BiM M cur v) (hn : M.Nodup) (hj : M[j]? = some l) (hj32 : j < 32) : BiM M (cur ++ [l]) (iOr v (iShl 1 (j : Int))) := by
  intro m hm
  rw [tb_or hj32 hm, Bool.or_eq_true, h m hm, decide_eq_true_eq]
  constructor
  · rintro (⟨x, hx, hc⟩ | e)
    · exact ⟨x, hx, List.mem_append_left _ hc⟩
    · exact ⟨l, e ▸ hj, List.mem_append_right _ (List.mem_singleton.mpr rfl)⟩
  · rintro ⟨x, hx, hc⟩
    rcases List.mem_append.mp hc with z | z
    · exact Or.inl ⟨x, hx, z⟩
    · rw [List.mem_singleton.mp z] at hx
      exact Or.inr (nodup_get hn hj hx)
theorem BiM.nil : BiM M [] 0 := by
  intro m hm
  rw [tb_zero hm]
  exact ⟨fun z => absurd z (by decide), by rintro ⟨x, _, hx⟩; exact absurd hx List.not_mem_nil⟩
theorem tyM_marks (h : TyM s) (i : Nat) : 0 ≤ s 3 i ∧ s 3 i ≤ 8 := h.2 (3, 0, 8) (by decide) i
theorem nodup_app {l : List Nat} (h : M.Nodup) (hl : ¬ l ∈ M) : (M ++ [l]).Nodup := by
  rw [List.nodup_append]
  refine ⟨h, List.nodup_cons.mpr ⟨List.not_mem_nil, List.nodup_nil⟩, fun a ha b hb => ?_⟩
  rw [List.mem_singleton.mp hb]
  exact fun z => hl (z ▸ ha)
theorem AxM.grow {l : List Nat} (h : AxM M C W O E s) (hl : ¬ l ∈ M) : AxM (M ++ [l]) C W O E s := by
  obtain ⟨a, h1, h2, h3, h4, h5, h6, h7, h8⟩ := h
  exact ⟨a, h1, h2, h3, h4, nodup_app h5 hl, fun c hc x hx => List.mem_append_left _ (h6 c hc x hx), fun i c hc => (h7 i c hc).grow (h6 c (List.mem_of_getElem? hc)) hl, h8⟩
/-- one mark: a fault, or the place behind -/
theorem markM (hN : N ≤ 1000) (hg : ∀ i, g i ≤ 255) {nm : List Nat} {bits : Int} (h : M_X12_mark s ((c8 nm : Nat) : Int) bits r t) (hM : MX g N q s) (hB : BkM K M s) (hA : AxM M C W O E s) (lw0 : LW nm) (hb : BiM M cur bits) (hs : ∀ x ∈ cur, x ∈ M) : (¬ t 0 8 = 0 ∧ (¬ MkOk g N (K ++ [nm]) M cur q ∨ tkq g N (nxq g N q) = 257)) ∨ (MkOk g N (K ++ [nm]) M cur q ∧ MX g N (nxq g N q) t ∧ BkM K (if ltq g N q ∈ M then M else M ++ [ltq g N q]) t ∧ AxM (if ltq g N q ∈ M then M else M ++ [ltq g N q]) C W O E t ∧ BiM (if ltq g N q ∈ M then M else M ++ [ltq g N q]) (cur ++ [ltq g N q]) r ∧ ∀ x ∈ cur ++ [ltq g N q], x ∈ (if ltq g N q ∈ M then M else M ++ [ltq g N q])) := by
  unfold M_X12_mark T_X12_mark_e at h
  obtain ⟨ty, h⟩ := h
  rcases h with ⟨c0, h⟩ | ⟨c0, _⟩
  · rcases h with ⟨c1, r1, s1, hm1, _, _, _, h⟩ | ⟨c1, s1, _, _, _, z, _, ht⟩
    · obtain ⟨w1, w2, w3, w4, w5⟩ := hM.word hg c1
      obtain ⟨e1, k1⟩ := isOwnM hg hm1 hM c1
      rw [e1, w3] at h
      rcases h with ⟨c2, _, r2, s2, hm2, _, _, _, h⟩ | ⟨c2, s2, _, _, _, z, _, ht⟩
      · have e58 : tkq g N q = 258 := by rcases k1 with k | k; exact absurd k.1 (by omega); exact k.2
        obtain ⟨e2, k2⟩ := fmM w4 hm2 hB
        rw [e2] at h
        obtain ⟨a, a1, a2, a3, a4, a5, a6, a7, a8⟩ := hB
        have ea : (s 0 13).toNat = a := by rw [a2]; omega
        rw [ea, a4] at h
        rcases h with ⟨c3, s3, hb3, hf3, _, h⟩ | ⟨c3, r3, s3, hm3, _, _, _, h⟩
        · have en : ltq g N q = nm := c8_inj w4 lw0 (Int.ofNat_inj.mp c3)
          refine Or.inl ⟨?_, Or.inl (fun z => z.2.1 (List.mem_append_right _ (List.mem_singleton.mpr en)))⟩
          rcases h with ⟨_, z, _, ht⟩ | ⟨_, ⟨_, s4, _, _, _, z, _, ht⟩ | ⟨_, z, _, ht⟩⟩ <;> rw [ht] <;> omega
        · have nn : ¬ ltq g N q = nm := fun z => c3 (by rw [z])
          have hB2 : BkM K M s := ⟨a, a1, a2, a3, a4, a5, a6, a7, a8⟩
          obtain ⟨e3, k3⟩ := fkM w4 hm3 hB2
          rw [e3] at h
          rcases h with ⟨c4, s4, hb4, hf4, _, h⟩ | ⟨c4, h⟩
          · have yK : ltq g N q ∈ K := by rcases k3 with k | k; exact absurd k.1 (by omega); exact k.2
            refine Or.inl ⟨?_, Or.inl (fun z => z.2.1 (List.mem_append_left _ yK))⟩
            rcases h with ⟨_, z, _, ht⟩ | ⟨_, ⟨_, s5, _, _, _, z, _, ht⟩ | ⟨_, z, _, ht⟩⟩ <;> rw [ht] <;> omega
          · have nK : ¬ ltq g N q ∈ K := by rcases k3 with k | k; exact k.2; exact absurd k.1 c4
            have nKn : ¬ ltq g N q ∈ K ++ [nm] := by
              intro z
              rcases List.mem_append.mp z with z | z
              · exact nK z
              · exact nn (List.mem_singleton.mp z)
            rcases h with ⟨c5, _, h⟩ | ⟨c5, h⟩
            · have nM : ¬ ltq g N q ∈ M := by
                rcases k2 with k | ⟨j, k, _⟩
                · exact k.2
                · exact absurd k (by omega)
              have ncur : ¬ ltq g N q ∈ cur := fun z => nM (hs _ z)
              rcases h with ⟨c6, s5, _, _, _, z, _, ht⟩ | ⟨c6, _, _, s5, f5, s6, f6, s7, hl, hf, _, hr, ht⟩
              · refine Or.inl ⟨by rw [ht]; omega, Or.inl ?_⟩
                rintro ⟨_, _, _, z | z⟩
                · exact nM z
                · have : ((M.length : Nat) : Int) = 8 := c6
                  clear k1 k2 k3
                  omega
              · have l8 : M.length < 8 := by
                  have := tyM_marks ty a
                  rw [a4] at this
                  clear k1 k2 k3
                  omega
                have ei : (8 * s 0 13 + (M.length : Int)).toNat = 8 * a + M.length := by
                  rw [a2]
                  clear k1 k2 k3
                  omega
                rw [ei] at f5
                have es : s6 = us (us s 7 (8 * a + M.length) ((c8 (ltq g N q) : Nat) : Int)) 3 a ((M.length : Int) + 1) := by rw [f6, f5]
                have M6 : MX g N q s6 := hM.cg (by rw [es, us_k (by decide), us_k (by decide)]) (fun j _ _ => by rw [es, us_k (by decide), us_k (by decide)])
                have B6 : BkM K (M ++ [ltq g N q]) s6 := by
                  refine ⟨a, a1, by rw [es, us_k (by decide), us_k (by decide)]; exact a2, by rw [es, us_k (by decide), us_k (by decide)]; exact a3, ?_, fun i hi => by rw [es, us_k (by decide), us_k (by decide)]; exact a5 i hi, fun i hi => ?_, a7, fun x hx => ?_⟩
                  · rw [es, us_at, List.length_append, List.length_singleton]
                    rfl
                  · by_cases ci : i = M.length
                    · subst ci
                      rw [es, us_k (by decide), us_at, List.getElem_append_right (Nat.le_refl _)]
                      simp
                    · have hi2 : i < M.length := by
                        rw [List.length_append, List.length_singleton] at hi
                        clear k1 k2 k3
                        omega
                      rw [es, us_k (by decide), us_j (by clear k1 k2 k3; omega), List.getElem_append_left hi2]
                      exact a6 i hi2
                  · rcases List.mem_append.mp hx with z | z
                    · exact a8 x z
                    · rw [List.mem_singleton.mp z]
                      exact w4
                have A6 : AxM (M ++ [ltq g N q]) C W O E s6 := (hA.grow nM).cg (by rw [es, us_k (by decide), us_k (by decide)]) (by rw [es, us_k (by decide), us_k (by decide)]) (by rw [es, us_k (by decide), us_k (by decide)]) (by rw [es, us_k (by decide), us_k (by decide)]) (by rw [es, us_k (by decide), us_k (by decide)]) (by rw [es, us_k (by decide), us_k (by decide)]) (by rw [es, us_k (by decide), us_k (by decide)])
                have nod : M.Nodup := by
                  obtain ⟨_, _, _, _, _, z, _⟩ := hA
                  exact z
                rw [if_neg nM]
                rcases lookX hN hg (M6.mw (by rw [e58]; decide)) hl hf with ⟨j1, j2⟩ | j1
                · exact Or.inl ⟨by rw [ht]; exact j1, Or.inr j2⟩
                · refine Or.inr ⟨⟨e58, nKn, ncur, Or.inr l8⟩, by rw [ht]; exact j1, by rw [ht]; exact B6.fr hf (by decide), by rw [ht]; exact A6.fr hf (by decide), ?_, fun x hx => ?_⟩
                  · rw [hr]
                    exact (hb.grow hs nM).set (nodup_app nod nM) (by rw [app_get, if_pos rfl]) (by clear k1 k2 k3; omega)
                  · rcases List.mem_append.mp hx with z | z
                    · exact List.mem_append_left _ (hs x z)
                    · exact List.mem_append_right _ z
            · rcases k2 with k | ⟨j, k, kj, kl⟩
              · exact absurd k.1 (by omega)
              · have yM : ltq g N q ∈ M := List.mem_of_getElem? kl
                have l8 : M.length ≤ 8 := by
                  have := tyM_marks ty a
                  rw [a4] at this
                  omega
                have t1 := tb_one (v := bits) (k := j) (by omega)
                have bj := hb j (by omega)
                rw [k] at h
                rw [if_pos yM]
                rcases h with ⟨c6, s5, _, _, _, _, z, _, ht⟩ | ⟨c6, _, _, _, s5, hl, hf, _, hr, ht⟩
                · refine Or.inl ⟨by rw [ht]; omega, Or.inl (fun z2 => ?_)⟩
                  obtain ⟨x, hx, hc⟩ := bj.mp (t1.mp c6)
                  have ex := Option.some.inj (kl.symm.trans hx)
                  exact z2.2.2.1 (ex ▸ hc)
                · have ncur : ¬ ltq g N q ∈ cur := fun z => c6 (t1.mpr (bj.mpr ⟨_, kl, z⟩))
                  have nod : M.Nodup := by
                    obtain ⟨_, _, _, _, _, z, _⟩ := hA
                    exact z
                  rcases lookX hN hg (hM.mw (by rw [e58]; decide)) hl hf with ⟨j1, j2⟩ | j1
                  · exact Or.inl ⟨by rw [ht]; exact j1, Or.inr j2⟩
                  · refine Or.inr ⟨⟨e58, nKn, ncur, Or.inl yM⟩, by rw [ht]; exact j1, by rw [ht]; exact hB2.fr hf (by decide), by rw [ht]; exact hA.fr hf (by decide), ?_, fun x hx => ?_⟩
                    · rw [hr]
                      exact hb.set nod kl (by omega)
                    · rcases List.mem_append.mp hx with z | z
                      · exact hs x z
                      · rw [List.mem_singleton.mp z]
                        exact yM
      · refine Or.inl ⟨by rw [ht]; omega, Or.inl (fun y => ?_)⟩
        rcases k1 with k | k
        · exact k.2 y.1
        · exact c2 k.1
    · refine Or.inl ⟨by rw [ht]; omega, Or.inl (fun y => ?_)⟩
      have y1 := y.1
      rcases hM.sg.2.2.2 with ⟨k, _⟩ | ⟨_, _, k, _⟩ | ⟨k, _⟩ | ⟨k, _⟩
      · omega
      · exact c1 k
      · omega
      · omega
  · exact absurd hM.2.2.1 c0
/-- the kind is written -/
def FnK (g : Nat → Nat) (N : Nat) (K : List (List Nat)) (C : List (List (List Nat))) (W : List (Nat × Nat × Nat)) (O E : Nat) (nm : List Nat) (x : (List (List Nat) × List (List Nat) × (Nat × Nat × Nat)) × Nat) (t : PS) : Prop := MX g N x.2 t ∧ BkM (K ++ [nm]) x.1.1 t ∧ AxM x.1.1 (C ++ [x.1.2.1]) (W ++ [x.1.2.2]) O E t
theorem kindW {n : Nat} {nm : List Nat} {v1 v2 v3 : Nat} {bits : Int} (h : It_X12_kind n 257 (K.length : Int) ((c8 nm : Nat) : Int) (v1 : Int) (v2 : Int) (v3 : Int) bits 0 s r t) (hM : MX g N q s) (hB : BkM K M s) (hA : AxM M C W O E s) (lw0 : LW nm) (hb : BiM M cur bits) (hs : ∀ x ∈ cur, x ∈ M) (lC : C.length = K.length) (lW : W.length = K.length) : FnK g N K C W O E nm ((M, cur, (v1, v2, v3)), q) t := by
  cases n with
  | zero => exact False.elim h
  | succ n =>
    have h := ul_X12_kind_257 h
    unfold T_X12_kind_257 at h
    obtain ⟨_, _, _, ⟨_, ⟨c, s1, f1, s2, f2, s3, f3, s4, f4, s5, f5, s6, f6, _, ht⟩ | ⟨c, _⟩⟩ | ⟨c, _⟩⟩ := h
    · obtain ⟨a, a1, a2, a3, a4, a5, a6, a7, a8⟩ := hB
      obtain ⟨a', b1, b2, b3, b4, b5, b6, b7, b8⟩ := hA
      have eaa : a' = a := by omega
      subst eaa
      have ei : (10 * s 0 13 + (K.length : Int)).toNat = 10 * a' + K.length := by rw [a2]; omega
      have ea : (s 0 13).toNat = a' := by rw [a2]; omega
      rw [ei] at f1 f2 f3 f4 f5
      rw [ea, a3] at f6
      have es : t = us (us (us (us (us (us s 6 (10 * a' + K.length) ((c8 nm : Nat) : Int)) 8 (10 * a' + K.length) (v1 : Int)) 9 (10 * a' + K.length) (v2 : Int)) 10 (10 * a' + K.length) (v3 : Int)) 11 (10 * a' + K.length) bits) 2 a' ((K.length : Int) + 1) := by rw [ht, f6, f5, f4, f3, f2, f1]
      refine ⟨?_, ?_, ?_⟩
      · rw [es]
        exact (((((hM.cell (by decide)).cell (by decide)).cell (by decide)).cell (by decide)).cell (by decide)).cell (by decide)
      · refine ⟨a', a1, ?_, ?_, ?_, fun i hi => ?_, fun i hi => ?_, fun x hx => ?_, a8⟩
        · rw [es, us_k (by decide), us_k (by decide), us_k (by decide), us_k (by decide), us_k (by decide), us_k (by decide)]
          exact a2
        · rw [es, us_at, List.length_append, List.length_singleton]
          rfl
        · rw [es, us_k (by decide), us_k (by decide), us_k (by decide), us_k (by decide), us_k (by decide), us_k (by decide)]
          exact a4
        · rw [es, us_k (by decide), us_k (by decide), us_k (by decide), us_k (by decide), us_k (by decide)]
          by_cases ci : i = K.length
          · subst ci
            rw [us_at, List.getElem_append_right (Nat.le_refl _)]
            simp
          · have hi2 : i < K.length := by
              rw [List.length_append, List.length_singleton] at hi
              omega
            rw [us_j (by omega), List.getElem_append_left hi2]
            exact a5 i hi2
        · rw [es, us_k (by decide), us_k (by decide), us_k (by decide), us_k (by decide), us_k (by decide), us_k (by decide)]
          exact a6 i hi
        · rcases List.mem_append.mp hx with z | z
          · exact a7 x z
          · rw [List.mem_singleton.mp z]
            exact lw0
      · refine ⟨a', a1, ?_, ?_, ?_, b5, fun c hc x hx => ?_, fun i c hc => ?_, fun i x hx => ?_⟩
        · rw [es, us_k (by decide), us_k (by decide), us_k (by decide), us_k (by decide), us_k (by decide), us_k (by decide)]
          exact a2
        · rw [es, us_k (by decide), us_k (by decide), us_k (by decide), us_k (by decide), us_k (by decide), us_k (by decide)]
          exact b3
        · rw [es, us_k (by decide), us_k (by decide), us_k (by decide), us_k (by decide), us_k (by decide), us_k (by decide)]
          exact b4
        · rcases List.mem_append.mp hc with z | z
          · exact b6 c z x hx
          · rw [List.mem_singleton.mp z] at hx
            exact hs x hx
        · rw [app_get] at hc
          rw [es, us_k (by decide)]
          by_cases ci : i = C.length
          · rw [if_pos ci] at hc
            rw [ci, lC, us_at, ← Option.some.inj hc]
            exact hb
          · rw [if_neg ci] at hc
            have hi := (List.getElem?_eq_some_iff.mp hc).1
            rw [us_j (by omega), us_k (by decide), us_k (by decide), us_k (by decide), us_k (by decide)]
            exact b7 i c hc
        · rw [app_get] at hx
          rw [es]
          by_cases ci : i = W.length
          · rw [if_pos ci] at hx
            have ex := Option.some.inj hx
            rw [ci, lW, ← ex]
            refine ⟨?_, ?_, ?_⟩
            · rw [us_k (by decide), us_k (by decide), us_k (by decide), us_k (by decide), us_at]
            · rw [us_k (by decide), us_k (by decide), us_k (by decide), us_at]
            · rw [us_k (by decide), us_k (by decide), us_at]
          · rw [if_neg ci] at hx
            have hi := (List.getElem?_eq_some_iff.mp hx).1
            have o := b8 i x hx
            refine ⟨?_, ?_, ?_⟩
            · rw [us_k (by decide), us_k (by decide), us_k (by decide), us_k (by decide), us_j (by omega), us_k (by decide)]
              exact o.1
            · rw [us_k (by decide), us_k (by decide), us_k (by decide), us_j (by omega), us_k (by decide), us_k (by decide)]
              exact o.2.1
            · rw [us_k (by decide), us_k (by decide), us_j (by omega), us_k (by decide), us_k (by decide), us_k (by decide)]
              exact o.2.2
    · exact absurd hM.2.2.1 (by omega)
    · exact absurd rfl c
/-- marks behind the 'is' or a comma -/
theorem marksM (hN : N ≤ 1000) (hg : ∀ i, g i ≤ 255) {nm : List Nat} {v1 v2 v3 : Nat} (lw0 : LW nm) (lC : C.length = K.length) (lW : W.length = K.length) : ∀ (n F q : Nat) (M cur : List (List Nat)) (bits : Int) (s : PS) (r : Int) (t : PS), It_X12_kind n 257 (K.length : Int) ((c8 nm : Nat) : Int) (v1 : Int) (v2 : Int) (v3 : Int) bits 1 s r t → MX g N q s → BkM K M s → AxM M C W O E s → BiM M cur bits → (∀ x ∈ cur, x ∈ M) → ¬ tkq g N q = 256 → N < q + F → (¬ t 0 8 = 0 ∧ ∀ x, mkF (tkq g N) (nxq g N) (ltq g N) (K ++ [nm]) F M cur q = some x → tkq g N x.2 = 257) ∨ (∃ x, mkF (tkq g N) (nxq g N) (ltq g N) (K ++ [nm]) F M cur q = some x ∧ FnK g N K C W O E nm ((x.1.1, x.1.2, (v1, v2, v3)), x.2) t)
  | 0, F, q, M, cur, bits, s, r, t, h, _, _, _, _, _, _, _ => False.elim h
  | n + 1, F, q, M, cur, bits, s, r, t, h, hM, hB, hA, hb, hs, h0, hF => by
    have h := ul_X12_kind_257 h
    unfold T_X12_kind_257 at h
    obtain ⟨_, _, _, ⟨c, _⟩ | ⟨_, s1, hl, hf, _, r2, s2, hm2, _, ty2, h⟩⟩ := h
    · exact absurd c (by decide)
    · have gt := ngr hg q hM.2.1 h0
      obtain ⟨F, rfl⟩ : ∃ F2, F = F2 + 1 := ⟨F - 1, by have := hM.2.1; omega⟩
      have un : mkF (tkq g N) (nxq g N) (ltq g N) (K ++ [nm]) (F + 1) M cur q = if tkq g N (nxq g N q) = 258 ∧ ¬ ltq g N (nxq g N q) ∈ (K ++ [nm]) ∧ ¬ ltq g N (nxq g N q) ∈ cur ∧ (ltq g N (nxq g N q) ∈ M ∨ M.length < 8) then (if tkq g N (nxq g N (nxq g N q)) = 44 then mkF (tkq g N) (nxq g N) (ltq g N) (K ++ [nm]) F (if ltq g N (nxq g N q) ∈ M then M else M ++ [ltq g N (nxq g N q)]) (cur ++ [ltq g N (nxq g N q)]) (nxq g N (nxq g N q)) else some ((if ltq g N (nxq g N q) ∈ M then M else M ++ [ltq g N (nxq g N q)], cur ++ [ltq g N (nxq g N q)]), nxq g N (nxq g N q))) else none := rfl
      rw [un]
      rcases lookX hN hg (hM.mw h0) hl hf with ⟨j1, j2⟩ | j1
      · have no : ¬ (tkq g N (nxq g N q) = 258 ∧ ¬ ltq g N (nxq g N q) ∈ (K ++ [nm]) ∧ ¬ ltq g N (nxq g N q) ∈ cur ∧ (ltq g N (nxq g N q) ∈ M ∨ M.length < 8)) := fun z => by have := z.1; omega
        rw [if_neg no]
        refine Or.inl ⟨?_, fun x hx => by cases hx⟩
        -- mark leaves a fault
        have f2 : ¬ s2 0 8 = 0 := by
          unfold M_X12_mark T_X12_mark_e at hm2
          obtain ⟨_, ⟨z, _⟩ | ⟨_, _, _, e⟩⟩ := hm2
          · exact absurd z j1
          · rw [e]
            exact j1
        rcases h with ⟨z, _⟩ | ⟨_, h⟩
        · exact absurd z f2
        · exact f257 h f2
      · rcases markM hN hg hm2 j1 (hB.fr hf (by decide)) (hA.fr hf (by decide)) lw0 hb hs with ⟨k1, k2⟩ | ⟨k1, k2, k3, k4, k5, k6⟩
        · refine Or.inl ⟨?_, ?_⟩
          · rcases h with ⟨z, _⟩ | ⟨_, h⟩
            · exact absurd z k1
            · exact f257 h k1
          · rcases k2 with k2 | k2
            · have k2' : ¬ (tkq g N (nxq g N q) = 258 ∧ ¬ ltq g N (nxq g N q) ∈ (K ++ [nm]) ∧ ¬ ltq g N (nxq g N q) ∈ cur ∧ (ltq g N (nxq g N q) ∈ M ∨ M.length < 8)) := k2
              rw [if_neg k2']
              exact fun x hx => by cases hx
            · split
              · rw [if_neg (by omega)]
                intro x hx
                have := Option.some.inj hx
                rw [← this]
                exact k2
              · exact fun x hx => by cases hx
        · have k1' : tkq g N (nxq g N q) = 258 ∧ ¬ ltq g N (nxq g N q) ∈ (K ++ [nm]) ∧ ¬ ltq g N (nxq g N q) ∈ cur ∧ (ltq g N (nxq g N q) ∈ M ∨ M.length < 8) := k1
          rw [if_pos k1']
          have h58 := k1.1
          have gt2 := ngr hg (nxq g N q) gt.2 (by omega)
          rcases h with ⟨z, r3, s3, hm3, _, _, _, h⟩ | ⟨z, _⟩
          · obtain ⟨e3, k7⟩ := isSignM (c := 44) (by decide) hm3 k2
            rw [e3] at h
            rcases h with ⟨c3, h⟩ | ⟨c3, h⟩
            · have n44 : ¬ tkq g N (nxq g N (nxq g N q)) = 44 := by rcases k7 with k | k; exact absurd k.1 (by omega); exact k.2
              rw [if_neg n44]
              exact Or.inr ⟨_, rfl, kindW h k2 k3 k4 lw0 k5 k6 lC lW⟩
            · have y44 : tkq g N (nxq g N (nxq g N q)) = 44 := by rcases k7 with k | k; exact k.2; exact absurd k.1 c3
              rw [if_pos y44]
              exact marksM hN hg lw0 lC lW n F _ _ _ _ s2 r t h k2 k3 k4 k5 k6 (by omega) (by omega)
          · exact absurd k2.2.2.1 z
end KindM
