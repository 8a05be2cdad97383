/-! the class's second reading: which code it writes -/
section EmitN
variable {T N : Nat → Nat} {F n : Nat} {V : Nat → Nat} {Lw : Nat → List Nat} {q : Nat}
theorem prE_b (d : Nat) (c : T q = 40) : prE T N F V (d + 1) q = smE T N F V d (N q) := by
  show prtE T N V (smE T N F V d) q = _
  unfold prtE
  rw [if_pos c]
theorem prE_l (c : ¬ T q = 40) (d : Nat) : prE T N F V d q = if T q = 259 then [(0, (V q : Int), [])] else [(T q - 277, 0, [])] := by
  cases d with
  | zero =>
    show prtE T N V (fun _ => []) q = _
    unfold prtE
    rw [if_neg c]
  | succ d =>
    show prtE T N V (smE T N F V d) q = _
    unfold prtE
    rw [if_neg c]
theorem nts_fx (hN : NGr T N n) : ∀ k j q, q ≤ n → n < q + k → n < q + j → nts T N k q = nts T N j q
  | 0, _, q, h, h1, _ => absurd h1 (by omega)
  | _, 0, q, h, _, h2 => absurd h2 (by omega)
  | k + 1, j + 1, q, h, h1, h2 => by
    show (if T q = 274 then nts T N k (N q) + 1 else 0) = (if T q = 274 then nts T N j (N q) + 1 else 0)
    by_cases c : T q = 274
    · rw [if_pos c, if_pos c]
      have g := hN q h (by omega)
      rw [nts_fx hN k j (N q) g.2 (by omega) (by omega)]
    · rw [if_neg c, if_neg c]
theorem nts_go (hN : NGr T N n) (hn : n < F) (h : q ≤ n) (c : T q = 274) : nts T N F q = nts T N F (N q) + 1 := by
  have g := hN q h (by omega)
  obtain ⟨k, rfl⟩ : ∃ k, F = k + 1 := ⟨F - 1, by omega⟩
  have u : nts T N (k + 1) q = nts T N k (N q) + 1 := by
    show (if T q = 274 then nts T N k (N q) + 1 else 0) = _
    rw [if_pos c]
  rw [u, nts_fx hN k (k + 1) (N q) g.2 (by omega) (by omega)]
theorem nts_no (c : ¬ T q = 274) : nts T N F q = 0 := by
  cases F with
  | zero => rfl
  | succ k =>
    show (if T q = 274 then nts T N k (N q) + 1 else 0) = _
    rw [if_neg c]
/-- a test or which without its nots -/
def coE (T N : Nat → Nat) (F : Nat) (EE EA : Nat → List OPc) (q : Nat) : List OPc := if T (ntF T N F q) = 91 then EE (N (ntF T N F q)) else EA (ntF T N F q)
theorem coE_go {EE EA : Nat → List OPc} (hN : NGr T N n) (hn : n < F) (h : q ≤ n) (c : T q = 274) : coE T N F EE EA q = coE T N F EE EA (N q) := by
  unfold coE
  rw [ntF_go hN hn h c]
/-- the same at a depth: what is in brackets -/
def inE (T N : Nat → Nat) (F : Nat) (nt : Nat → List OPc) (A : Nat → Nat → Option Nat) (EA : Nat → Nat → List OPc) : Nat → Nat → List OPc
  | 0 => fun _ => []
  | d + 1 => etE T N F nt A EA d
theorem sgE_eq (nt : Nat → List OPc) (A : Nat → Nat → Option Nat) (EA : Nat → Nat → List OPc) (d : Nat) : sgE T N F nt A EA d = fun q => coE T N F (inE T N F nt A EA d) (EA d) q ++ nt (nts T N F q) := by
  cases d with
  | zero => rfl
  | succ d => rfl
/-- the class writes one not, if they are odd -/
def ntX (k : Nat) : List OPc := if k % 2 = 1 then [opN] else []
theorem ntX_le (k : Nat) : wtE (ntX k) ≤ k := by
  unfold ntX
  split
  · show 1 ≤ k
    omega
  · show 0 ≤ k
    omega
end EmitN
section CodeX2
variable {g : Nat → Nat} {N q d F : Nat} {K M : List (List Nat)} {s t u : PS} {r : Int} {C : List OPc}
theorem PX.n (hg : ∀ i, g i ≤ 255) (hP : PX g N K M d q s) (h : ¬ tkq g N q = 256) : q < nxq g N q ∧ nxq g N q ≤ N := ngr hg q hP.2.2.2.1 h
theorem nvq_le (hg : ∀ i, g i ≤ 255) (h : tkq g N q = 259) : nvq g N q ≤ 2300000 := by
  have ne : ¬ N ≤ stq g N q := by
    intro z
    have := (tk_end_iff (N := N) (q := q) hg).mpr z
    omega
  refine dgF_5 hg ?_
  unfold tkq at h
  rw [if_neg ne] at h
  split at h
  · split at h
    · omega
    · have w := wtl_ge (ltq g N q)
      have e : wtq g N q = wtl (ltq g N q) := rfl
      omega
  · split at h
    · split at h
      · omega
      · rename_i c
        rw [Bool.or_eq_true] at c
        have c2 : ¬ Nat.blt 5 (lnq g N q bD) = true := fun z => c (Or.inr z)
        rw [Nat.blt_eq] at c2
        omega
    · have := hg (stq g N q)
      omega
theorem op1 (A : List (List Nat)) {n : Nat} (h : n < 134217728) : OpX A (0, (n : Int), []) ((16 * n + 1 : Nat) : Int) := ⟨n, 1, rfl, h, by decide, Or.inl ⟨rfl, rfl, rfl⟩⟩
theorem op2 (A : List (List Nat)) {k : Nat} (h : 1 ≤ k ∧ k ≤ 5) : OpX A (k, 0, []) ((16 * (k - 1) + 2 : Nat) : Int) := ⟨k - 1, 2, rfl, by omega, by decide, Or.inr (Or.inl ⟨h.1, h.2, rfl, by show k - 1 + 1 = k; omega⟩)⟩
theorem partC (hN : N ≤ 1000) (hg : ∀ i, g i ≤ 255) {RS : PS → Int → PS → Prop} (hRS : ∀ (e : Nat) (s : PS) (r : Int) (t : PS) (q : Nat), d = e + 1 → RS s r t → PX g N K M e q s → RdR (sumD (tkq g N) (nxq g N) F e q) (PX g N K M e) r t) (hRC : ∀ (e : Nat) (s : PS) (t : PS) (q : Nat) (C : List OPc), d = e + 1 → RS s 1 t → PX g N K M e q s → CdX C s → wtE C ≤ q → CdX (C ++ smE (tkq g N) (nxq g N) F (nvq g N) e q) t) (h : M_X8_readsPart RS s 1 t) (hP : PX g N K M d q s) (hC : CdX C s) (hl : wtE C ≤ q) : CdX (C ++ prE (tkq g N) (nxq g N) F (nvq g N) d q) t := by
  unfold M_X8_readsPart T_X8_readsPart_e at h
  obtain ⟨_, h⟩ := h
  have tk := hP.tk
  have ln := wtE_len C
  rcases h with ⟨c1, r1, s1, hm, hf, _, _, h⟩ | ⟨c1, h⟩
  · have e40 : tkq g N q = 40 := by omega
    have gt := hP.n hg (by omega)
    rcases openX hN hg hm hP (by omega) (by omega) with ⟨o1, e, rfl, p1⟩ | ⟨o1, o2⟩
    · have C1 := hC.fr hf (by decide)
      rcases h with ⟨c2, _⟩ | ⟨c2, r2, s2, hm2, hf2, _, b2, h⟩
      · omega
      · rcases h with ⟨c3, s3, e3, hr, _⟩ | ⟨c3, r3, s3, hm3, hf3, _, _, h⟩
        · exact absurd hr (by decide)
        · obtain rfl : r2 = 1 := by omega
          have C2 := hRC e s1 s2 _ C rfl hm2 p1 C1 (by omega)
          rcases h with ⟨c4, s4, e4, hr, _⟩ | ⟨c4, s4, e4, hr, hs⟩
          · exact absurd hr (by decide)
          · rw [prE_b _ e40, hs, e4]
            exact (C2.fr hf3 (by decide)).us (by decide)
    · rcases h with ⟨c2, s3, e3, hr, _⟩ | ⟨c2, _⟩
      · exact absurd hr (by decide)
      · omega
  · have n40 : ¬ tkq g N q = 40 := by omega
    rw [prE_l n40]
    rcases h with ⟨c2, s1, hm, hf, _, s2, hm2, hf2, _, hr, hs⟩ | ⟨c2, r1, s1, hm, hf, _, _, h⟩
    · have e59 : tkq g N q = 259 := by omega
      have gt := hP.n hg (by omega)
      rw [if_pos e59, hs]
      have v := (hP.2.2.2.2.2.2 (by omega)).2.2 e59
      rw [v] at hm
      have b := nvq_le hg e59
      exact stepC hf2 (addC (k := 1) (n := nvq g N q) hm hC (by omega) (by decide) (fun A => op1 A (by omega)) (by omega))
    · have wi := hm
      unfold M_X11_within T_X11_within_e at wi
      obtain ⟨_, _, _, wi⟩ := wi
      rcases h with ⟨c3, r2, s2, hm2, hf2, _, _, hr, _⟩ | ⟨c3, s2, hm2, hf2, _, s3, hm3, hf3, _, hr, hs⟩
      · exact absurd hr (by decide)
      · have bd : 278 ≤ tkq g N q ∧ tkq g N q ≤ 282 := by
          rcases wi with ⟨w, w3, _⟩ | ⟨w, ⟨w2, w3, _⟩ | ⟨w2, w3, _⟩⟩ <;> omega
        have gt := hP.n hg (by omega)
        rw [if_neg (by omega), hs]
        have v : (s 31 4 - 260) - 18 = ((tkq g N q - 277 - 1 : Nat) : Int) := by omega
        rw [v] at hm2
        exact stepC hf3 (addC (k := 2) (n := tkq g N q - 277 - 1) hm2 (hC.fr hf (by decide)) (by omega) (by decide) (fun A => op2 A (by omega)) (by omega))
theorem opP_X (A : List (List Nat)) {c : Nat} {y : Int} (h : (c = 43 ∧ y = 13) ∨ (c = 45 ∧ y = 14) ∨ (c = 42 ∧ y = 15)) : OpX A (opP c) y := by
  unfold opP
  rcases h with ⟨rfl, rfl⟩ | ⟨rfl, rfl⟩ | ⟨rfl, rfl⟩
  · exact ⟨0, 13, rfl, by decide, by decide, Or.inr (Or.inr (Or.inr (Or.inr (Or.inr (Or.inr (Or.inr (Or.inr (Or.inr (Or.inr (Or.inr (Or.inr (Or.inl ⟨rfl, rfl⟩))))))))))))⟩
  · exact ⟨0, 14, rfl, by decide, by decide, Or.inr (Or.inr (Or.inr (Or.inr (Or.inr (Or.inr (Or.inr (Or.inr (Or.inr (Or.inr (Or.inr (Or.inr (Or.inr (Or.inl ⟨rfl, rfl⟩)))))))))))))⟩
  · exact ⟨0, 15, rfl, by decide, by decide, Or.inr (Or.inr (Or.inr (Or.inr (Or.inr (Or.inr (Or.inr (Or.inr (Or.inr (Or.inr (Or.inr (Or.inr (Or.inr (Or.inr (⟨rfl, rfl⟩))))))))))))))⟩
theorem opC_X (A : List (List Nat)) {c : Nat} {y : Int} (h : (c = 60 ∧ y = 10) ∨ (c = 62 ∧ y = 11) ∨ (c = 61 ∧ y = 12)) : OpX A (opC c) y := by
  unfold opC
  rcases h with ⟨rfl, rfl⟩ | ⟨rfl, rfl⟩ | ⟨rfl, rfl⟩
  · exact ⟨0, 10, rfl, by decide, by decide, Or.inr (Or.inr (Or.inr (Or.inr (Or.inr (Or.inr (Or.inr (Or.inr (Or.inr (Or.inl ⟨rfl, rfl⟩)))))))))⟩
  · exact ⟨0, 11, rfl, by decide, by decide, Or.inr (Or.inr (Or.inr (Or.inr (Or.inr (Or.inr (Or.inr (Or.inr (Or.inr (Or.inr (Or.inl ⟨rfl, rfl⟩))))))))))⟩
  · exact ⟨0, 12, rfl, by decide, by decide, Or.inr (Or.inr (Or.inr (Or.inr (Or.inr (Or.inr (Or.inr (Or.inr (Or.inr (Or.inr (Or.inr (Or.inl ⟨rfl, rfl⟩)))))))))))⟩
/-- a code without a number -/
theorem addC0 {y : Int} {o : OPc} (h : M_X1_addCode_at16 s y 0 r t) (hC : CdX C s) (hk : 0 ≤ y ∧ y < 16) (ho : ∀ A, OpX A o y) (hl : C.length < 1000) : CdX (C ++ [o]) t := by
  obtain ⟨k, rfl⟩ : ∃ k : Nat, y = (k : Int) := ⟨y.toNat, by omega⟩
  refine addC (k := k) (n := 0) h hC (by omega) (by omega) (fun A => ?_) hl
  have e : ((16 * 0 + k : Nat) : Int) = (k : Int) := by omega
  rw [e]
  exact ho A
theorem sumLC (hN : N ≤ 1000) (hg : ∀ i, g i ≤ 255) (hF : N < F) {RS : PS → Int → PS → Prop} (hRS : ∀ (e : Nat) (s : PS) (r : Int) (t : PS) (q : Nat), d = e + 1 → RS s r t → PX g N K M e q s → RdR (sumD (tkq g N) (nxq g N) F e q) (PX g N K M e) r t) (hRC : ∀ (e : Nat) (s : PS) (t : PS) (q : Nat) (C : List OPc), d = e + 1 → RS s 1 t → PX g N K M e q s → CdX C s → wtE C ≤ q → CdX (C ++ smE (tkq g N) (nxq g N) F (nvq g N) e q) t) : ∀ (n i q : Nat) (a b : Int) (s : PS) (t : PS) (C : List OPc), It_X8_readsSum RS n 11 (i : Int) a b s 1 t → PX g N K M d q s → i + 1 ≤ q → CdX C s → wtE C ≤ q → CdX (C ++ lpE (tkq g N) (nxq g N) tkP (parD (tkq g N) (nxq g N) F d) (prE (tkq g N) (nxq g N) F (nvq g N) d) opP F q) t := by
  intro n
  induction n using Nat.strongRecOn with
  | ind n ih =>
  intro i q a b s t C h hP hi hC hl
  cases n with
  | zero => exact False.elim h
  | succ n =>
    have h := ul_X8_readsSum_11 h
    unfold T_X8_readsSum_11 at h
    obtain ⟨_, _, h⟩ := h
    have tk := hP.tk
    have hq := hP.2.2.2.1
    have no : ¬ tkP (tkq g N q) = true → t = s → CdX (C ++ lpE (tkq g N) (nxq g N) tkP (parD (tkq g N) (nxq g N) F d) (prE (tkq g N) (nxq g N) F (nvq g N) d) opP F q) t := by
      intro c e
      rw [lpE_no c, List.append_nil, e]
      exact hC
    have go : ∀ (x : Int), x = (tkq g N q : Int) → It_X8_readsSum RS n 46 (i : Int) x 0 s 1 t → tkP (tkq g N q) = true → CdX (C ++ lpE (tkq g N) (nxq g N) tkP (parD (tkq g N) (nxq g N) F d) (prE (tkq g N) (nxq g N) F (nvq g N) d) opP F q) t := by
      intro x hx h c
      have c2 := tkP_iff.mp c
      cases n with
      | zero => exact False.elim h
      | succ n =>
        have h := ul_X8_readsSum_46 h
        unfold T_X8_readsSum_46 at h
        obtain ⟨_, _, _, s1, hm, hf, _, r2, s2, hm2, hf2, _, b2, h⟩ := h
        have p1 := hP.step hN hg hm hf (by omega) (by omega)
        have pt := partX hN hg hRS hm2 p1
        have gt := ngr hg q hq (by omega)
        have un := lpE_go (ok := tkP) (E := prE (tkq g N) (nxq g N) F (nvq g N) d) (op := opP) (ngr hg) (by decide) (parD_pg (F := F) (ngr hg) d) hF hq c
        rcases h with ⟨c3, hr, _⟩ | ⟨c3, h⟩
        · exact absurd hr (by decide)
        · obtain rfl : r2 = 1 := by omega
          rcases pt with ⟨_, q2, z, p2⟩ | ⟨z, _⟩
          · have pg := parD_pg (F := F) (ngr hg) d _ _ gt.2 z
            have lw := (smE_ln (V := nvq g N) (ngr hg) d).2 _ _ gt.2 z
            have C2 := partC hN hg hRS hRC hm2 p1 (stepC hf hC) (by omega)
            have k90 : ∀ y : Int, ((tkq g N q = 43 ∧ y = 13) ∨ (tkq g N q = 45 ∧ y = 14) ∨ (tkq g N q = 42 ∧ y = 15)) → It_X8_readsSum RS n 90 (i : Int) x y s2 1 t → CdX (C ++ lpE (tkq g N) (nxq g N) tkP (parD (tkq g N) (nxq g N) F d) (prE (tkq g N) (nxq g N) F (nvq g N) d) opP F q) t := by
              intro y hy h
              cases n with
              | zero => exact False.elim h
              | succ n =>
                have h := ul_X8_readsSum_90 h
                unfold T_X8_readsSum_90 at h
                obtain ⟨_, _, _, _, s3, hm3, hf3, _, h⟩ := h
                have p3 := codeX hm3 hf3 p2
                have w2 : wtE (C ++ prE (tkq g N) (nxq g N) F (nvq g N) d (nxq g N q)) ≤ q2 - 1 := by
                  rw [wtE_app]
                  omega
                have l2 := wtE_len (C ++ prE (tkq g N) (nxq g N) F (nvq g N) d (nxq g N q))
                have C3 := addC0 hm3 C2 (by omega) (fun A => opP_X A hy) (by omega)
                have k := ih n (by omega) (i + 1) q2 0 0 s3 t _ h p3 (by omega) C3 (by
                  rw [wtE_app]
                  have o1 := opP_w (tkq g N q)
                  show _ + (opW (opP (tkq g N q)) + 0) ≤ q2
                  omega)
                rw [un, z]
                rw [List.append_assoc, List.append_assoc] at k
                exact k
            rcases h with ⟨c4, h⟩ | ⟨c4, ⟨c5, h⟩ | ⟨c5, h⟩⟩
            · exact k90 _ (Or.inl ⟨by omega, rfl⟩) h
            · exact k90 _ (Or.inr (Or.inl ⟨by omega, rfl⟩)) h
            · exact k90 _ (Or.inr (Or.inr ⟨by omega, rfl⟩)) h
          · omega
    rcases h with ⟨c1, _⟩ | ⟨c1, h⟩
    · omega
    · rcases h with ⟨c2, h⟩ | ⟨c2, h⟩
      · exact go _ tk h (tkP_iff.mpr (by omega))
      · rcases h with ⟨c3, h⟩ | ⟨c3, h⟩
        · exact go _ tk h (tkP_iff.mpr (by omega))
        · rcases h with ⟨c4, h⟩ | ⟨c4, h⟩
          · exact go _ tk h (tkP_iff.mpr (by omega))
          · exact no (fun z => by have := tkP_iff.mp z; omega) h.2
theorem sumC1 (hN : N ≤ 1000) (hg : ∀ i, g i ≤ 255) (hF : N < F) {RS : PS → Int → PS → Prop} (hRS : ∀ (e : Nat) (s : PS) (r : Int) (t : PS) (q : Nat), d = e + 1 → RS s r t → PX g N K M e q s → RdR (sumD (tkq g N) (nxq g N) F e q) (PX g N K M e) r t) (hRC : ∀ (e : Nat) (s : PS) (t : PS) (q : Nat) (C : List OPc), d = e + 1 → RS s 1 t → PX g N K M e q s → CdX C s → wtE C ≤ q → CdX (C ++ smE (tkq g N) (nxq g N) F (nvq g N) e q) t) (h : M_X8_readsSum RS s 1 t) (hP : PX g N K M d q s) (hC : CdX C s) (hl : wtE C ≤ q) : CdX (C ++ smE (tkq g N) (nxq g N) F (nvq g N) d q) t := by
  obtain ⟨n, h⟩ := h
  unfold T_X8_readsSum_e at h
  obtain ⟨_, r1, s1, hm, hf, _, b1, h⟩ := h
  have pt := partX hN hg hRS hm hP
  rw [smE_eq]
  rcases h with ⟨c, hr, _⟩ | ⟨c, h⟩
  · exact absurd hr (by decide)
  · obtain rfl : r1 = 1 := by omega
    rcases pt with ⟨_, q2, z, p2⟩ | ⟨z, _⟩
    · have pg := parD_pg (F := F) (ngr hg) d _ _ hP.2.2.2.1 z
      have lw := (smE_ln (V := nvq g N) (ngr hg) d).2 _ _ hP.2.2.2.1 z
      have C2 := partC hN hg hRS hRC hm hP hC hl
      have k := sumLC hN hg hF hRS hRC n 0 q2 0 0 s1 t _ h p2 (by omega) C2 (by rw [wtE_app]; omega)
      rw [z]
      rw [List.append_assoc] at k
      exact k
    · omega
/-- sums, at every depth -/
theorem sumC (hN : N ≤ 1000) (hg : ∀ i, g i ≤ 255) (hF : N < F) : ∀ (d q : Nat) (s : PS) (t : PS) (C : List OPc), M_X8_readsSum (prvS d) s 1 t → PX g N K M d q s → CdX C s → wtE C ≤ q → CdX (C ++ smE (tkq g N) (nxq g N) F (nvq g N) d q) t
  | 0, q, s, t, C, h, hP, hC, hl => sumC1 hN hg hF (fun e _ _ _ _ he => absurd he (by omega)) (fun e _ _ _ _ he => absurd he (by omega)) h hP hC hl
  | d + 1, q, s, t, C, h, hP, hC, hl => by
    refine sumC1 hN hg hF (fun e s r t q he hr hp => ?_) (fun e s t q C he hr hp hc hw => ?_) h hP hC hl
    · obtain rfl : d = e := by omega
      have hr2 : M_X8_readsSumD d s r t := hr
      rw [sumD_prv] at hr2
      exact sumX hN hg hF d q s r t hr2 hp
    · obtain rfl : d = e := by omega
      have hr2 : M_X8_readsSumD d s 1 t := hr
      rw [sumD_prv] at hr2
      exact sumC hN hg hF d q s t C hr2 hp hc hw
end CodeX2
