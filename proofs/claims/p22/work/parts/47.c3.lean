/-! the reference's reader: others, the whole text -/
/-- never, likes, gifts, up to the sign at the end -/
def clP (T Nx : Nat → Nat) (F : Nat) (L : Nat → List Nat) (K M : List (List Nat)) (q : Nat) : Option Nat :=
  (if T q = 266 then some (Nx q) else sumD T Nx F 8 (Nx q)).bind fun a => (if T q = 268 then psK T Nx 269 a else some a).bind fun b => (if T q = 270 then some b else eitD T Nx F (atW T Nx (knK L K M)) 8 b).bind fun c =>
      (psK T Nx 267 c).bind fun d => eitD T Nx F (atT T Nx F) 8 d
theorem clS_P (T Nx : Nat → Nat) (F : Nat) (L : Nat → List Nat) (K M : List (List Nat)) (q : Nat) (h : T q = 266 ∨ T q = 268 ∨ T q = 270) : clS T Nx F L K M q = (clP T Nx F L K M q).bind (psK T Nx 59) := by
  unfold clS clP
  rw [if_pos h]
  simp only [Option.bind_assoc]
section BadE
variable {T Nx : Nat → Nat} {F d q k : Nat} {kn : Nat → Bool}
theorem bad_eit (h : T q = 257) : eitD T Nx F (atK T Nx F kn k) d q = none := by
  rw [eitD_eq]
  unfold eitN botN
  rw [bad_sng h]
  rfl
theorem bad_test (h : T q = 257) : eitD T Nx F (atT T Nx F) d q = none := by
  have e : atK T Nx F (fun _ => false) 1 = atT T Nx F := by
    unfold atK
    rw [if_pos (by decide)]
  rw [← e]
  exact bad_eit h
theorem bad_which (h : T q = 257) : eitD T Nx F (atW T Nx kn) d q = none := by
  have e : atK T Nx F kn 2 = atW T Nx kn := by
    unfold atK
    rw [if_neg (by decide)]
  rw [← e]
  exact bad_eit h
end BadE
section RuleM
variable {g : Nat → Nat} {N q : Nat} {s t u : PS} {r : Int} {K M : List (List Nat)} {C : List (List (List Nat))} {W : List (Nat × Nat × Nat)} {O E : Nat} {a0 a1 a2 : Int}
theorem g274 {n : Nat} (h : It_X12_rule n 274 a0 a1 a2 s r t) (hf : ¬ s 0 8 = 0) : ¬ t 0 8 = 0 := by
  cases n with
  | zero => exact False.elim h
  | succ n =>
    have h := ul_X12_rule_274 h
    unfold T_X12_rule_274 at h
    obtain ⟨_, _, _, _, s1, e1, s2, e2, _, ht⟩ := h
    rw [ht, e2, us_k (by decide), e1, us_k (by decide)]
    exact hf
theorem g240 {n : Nat} (h : It_X12_rule n 240 a0 a1 a2 s r t) (hf : ¬ s 0 8 = 0) : ¬ t 0 8 = 0 := by
  cases n with
  | zero => exact False.elim h
  | succ n =>
    have h := ul_X12_rule_240 h
    unfold T_X12_rule_240 at h
    obtain ⟨_, _, _, _, s1, e1, ⟨_, h⟩ | ⟨_, ⟨c, _⟩ | ⟨_, h⟩⟩⟩ := h
    · exact g274 h (by rw [e1, us_k (by decide)]; exact hf)
    · exact absurd c hf
    · exact g274 h (by rw [e1, us_k (by decide)]; exact hf)
theorem g204 {n : Nat} (h : It_X12_rule n 204 a0 a1 a2 s r t) (hf : ¬ s 0 8 = 0) : ¬ t 0 8 = 0 := by
  cases n with
  | zero => exact False.elim h
  | succ n =>
    have h := ul_X12_rule_204 h
    unfold T_X12_rule_204 at h
    obtain ⟨_, _, _, _, s1, e1, ⟨_, h⟩ | ⟨_, ⟨c, _⟩ | ⟨_, h⟩⟩⟩ := h
    · exact g240 h (by rw [e1, us_k (by decide)]; exact hf)
    · exact absurd c hf
    · exact g240 h (by rw [e1, us_k (by decide)]; exact hf)
theorem g170 {n : Nat} (h : It_X12_rule n 170 a0 a1 a2 s r t) (hf : ¬ s 0 8 = 0) : ¬ t 0 8 = 0 := by
  cases n with
  | zero => exact False.elim h
  | succ n =>
    have h := ul_X12_rule_170 h
    unfold T_X12_rule_170 at h
    obtain ⟨_, _, _, _, s1, e1, ⟨_, h⟩ | ⟨_, ⟨c, _⟩ | ⟨_, h⟩⟩⟩ := h
    · exact g204 h (by rw [e1, us_k (by decide)]; exact hf)
    · exact absurd c hf
    · exact g204 h (by rw [e1, us_k (by decide)]; exact hf)
theorem g134 {n : Nat} (h : It_X12_rule n 134 a0 a1 a2 s r t) (hf : ¬ s 0 8 = 0) : ¬ t 0 8 = 0 := by
  cases n with
  | zero => exact False.elim h
  | succ n =>
    have h := ul_X12_rule_134 h
    unfold T_X12_rule_134 at h
    obtain ⟨_, _, _, _, s1, e1, ⟨_, ⟨c, _⟩ | ⟨_, h⟩⟩ | ⟨_, h⟩⟩ := h
    · exact absurd c hf
    · exact g170 h (by rw [e1, us_k (by decide)]; exact hf)
    · exact g170 h (by rw [e1, us_k (by decide)]; exact hf)
theorem g88 {n : Nat} (h : It_X12_rule n 88 a0 a1 a2 s r t) (hf : ¬ s 0 8 = 0) : ¬ t 0 8 = 0 := by
  cases n with
  | zero => exact False.elim h
  | succ n =>
    have h := ul_X12_rule_88 h
    unfold T_X12_rule_88 at h
    obtain ⟨_, _, _, _, s1, e1, s2, e2, h⟩ := h
    have hf2 : ¬ s2 0 8 = 0 := by
      rw [e2, us_k (by decide), e1, us_k (by decide)]
      exact hf
    rcases h with ⟨_, ⟨c, _⟩ | ⟨_, h⟩⟩ | ⟨_, ⟨_, ⟨c, _⟩ | ⟨_, h⟩⟩ | ⟨_, h⟩⟩
    · exact absurd c hf
    · exact g134 h hf2
    · exact absurd c hf
    · exact g134 h hf2
    · exact g134 h hf2
/-- the state between two statements' parts -/
def RsM (g : Nat → Nat) (N : Nat) (K M : List (List Nat)) (C : List (List (List Nat))) (W : List (Nat × Nat × Nat)) (O E q : Nat) (s : PS) : Prop := MX g N q s ∧ BkM K M s ∧ AxM M C W O E s
theorem RsM.c12 (h : RsM g N K M C W O E q s) {j : Nat} {v : Int} : RsM g N K M C W O E q (us s 12 j v) := ⟨h.1.cell (by decide), h.2.1.cg (by rw [us_k (by decide)]) (us_k (by decide)) (us_k (by decide)) (us_k (by decide)) (us_k (by decide)), h.2.2.cg (by rw [us_k (by decide)]) (us_k (by decide)) (us_k (by decide)) (us_k (by decide)) (us_k (by decide)) (us_k (by decide)) (us_k (by decide))⟩
/-- what an other statement comes to, up to its last sign -/
def RuR (g : Nat → Nat) (N : Nat) (K M : List (List Nat)) (C : List (List (List Nat))) (W : List (Nat × Nat × Nat)) (O E : Nat) (S : Option Nat) (t : PS) : Prop := (¬ t 0 8 = 0 ∧ Bd (tkq g N) S) ∨ (∃ q, S = some q ∧ RsM g N K M C W O E q t)
theorem h274 {n : Nat} (h : It_X12_rule n 274 a0 a1 a2 s r t) (hR : RsM g N K M C W O E q s) : RsM g N K M C W (O + 1) E q t := by
  cases n with
  | zero => exact False.elim h
  | succ n =>
    have h := ul_X12_rule_274 h
    unfold T_X12_rule_274 at h
    obtain ⟨_, _, _, _, s1, e1, s2, e2, _, ht⟩ := h
    obtain ⟨m, b, a, h1, h2, h3, h4⟩ := hR
    have ea : (s 0 13).toNat = a := by rw [h2]; omega
    rw [ea] at e2 e1
    rw [h3] at e2
    have es : t = us (us s 12 (a2 + 6).toNat (s 14 a)) 4 a ((O : Int) + 1) := by rw [ht, e2, e1]
    refine ⟨?_, ?_, a, h1, ?_, ?_, ?_, ?_⟩
    · rw [es]
      exact (m.cell (by decide)).cell (by decide)
    · rw [es]
      exact b.cg (by rw [us_k (by decide), us_k (by decide)]) (by rw [us_k (by decide), us_k (by decide)]) (by rw [us_k (by decide), us_k (by decide)]) (by rw [us_k (by decide), us_k (by decide)]) (by rw [us_k (by decide), us_k (by decide)])
    · rw [es, us_k (by decide), us_k (by decide)]
      exact h2
    · rw [es, us_at]
      omega
    · rw [es, us_k (by decide), us_k (by decide)]
      exact h4.1
    · obtain ⟨_, h5, h6, h7, h8⟩ := h4
      exact ⟨h5, h6, fun i c hc => by rw [es, us_k (by decide), us_k (by decide)]; exact h7 i c hc, fun i x hx => by rw [es, us_k (by decide), us_k (by decide), us_k (by decide), us_k (by decide), us_k (by decide), us_k (by decide)]; exact h8 i x hx⟩
/-- the test -/
theorem h240 (hN : N ≤ 1000) (hg : ∀ i, g i ≤ 255) {n : Nat} (ha : ¬ 3 ≤ a0) (h : It_X12_rule n 240 a0 a1 a2 s r t) (hR : RsM g N K M C W O E q s) : RuR g N K M C W (O + 1) E (eitD (tkq g N) (nxq g N) 1001 (atT (tkq g N) (nxq g N) 1001) 8 q) t := by
  cases n with
  | zero => exact False.elim h
  | succ n =>
    have h := ul_X12_rule_240 h
    unfold T_X12_rule_240 at h
    obtain ⟨_, _, _, _, s1, e1, ⟨c, _⟩ | ⟨_, ⟨_, s2, hm, hf, _, h⟩ | ⟨c, _⟩⟩⟩ := h
    · exact absurd c ha
    · have R1 : RsM g N K M C W O E q s1 := by
        rw [e1]
        exact hR.c12
      rcases readsTest hN hg hm R1.1 R1.2.1 with ⟨k1, k2⟩ | ⟨q2, k1, k2, k3⟩
      · exact Or.inl ⟨g274 h k1, k2⟩
      · exact Or.inr ⟨q2, k1, h274 h ⟨k2, k3, R1.2.2.fr hf (by decide)⟩⟩
    · exact absurd hR.1.2.2.1 c
theorem h204 (hN : N ≤ 1000) (hg : ∀ i, g i ≤ 255) {n : Nat} (ha : ¬ 3 ≤ a0) (h : It_X12_rule n 204 a0 a1 a2 s r t) (hR : RsM g N K M C W O E q s) : RuR g N K M C W (O + 1) E ((psK (tkq g N) (nxq g N) 267 q).bind fun d => eitD (tkq g N) (nxq g N) 1001 (atT (tkq g N) (nxq g N) 1001) 8 d) t := by
  cases n with
  | zero => exact False.elim h
  | succ n =>
    have h := ul_X12_rule_204 h
    unfold T_X12_rule_204 at h
    obtain ⟨_, _, _, _, s1, e1, ⟨c, _⟩ | ⟨_, ⟨_, s2, hm, hf, _, h⟩ | ⟨c, _⟩⟩⟩ := h
    · exact absurd c ha
    · have R1 : RsM g N K M C W O E q s1 := by
        rw [e1]
        exact hR.c12
      rcases mustWordM (i := 6) hN hg (by decide) (by decide) hm R1.1 with ⟨k1, k2⟩ | ⟨q2, k1, k2⟩
      · refine Or.inl ⟨g240 h k1, ?_⟩
        have k3 : Bd (tkq g N) (psK (tkq g N) (nxq g N) 267 q) := k2
        refine k3.bind (fun z hz => ?_)
        have e : eitD (tkq g N) (nxq g N) 1001 (atT (tkq g N) (nxq g N) 1001) 8 z = none := bad_test hz
        exact Bd.non e
      · have k3 : psK (tkq g N) (nxq g N) 267 q = some q2 := k1
        rw [k3, Option.bind_some]
        exact h240 hN hg ha h ⟨k2, R1.2.1.fr hf (by decide), R1.2.2.fr hf (by decide)⟩
    · exact absurd hR.1.2.2.1 c
/-- the which -/
theorem h170 (hN : N ≤ 1000) (hg : ∀ i, g i ≤ 255) {n : Nat} (ha : ¬ 3 ≤ a0) (h : It_X12_rule n 170 a0 a1 a2 s r t) (hR : RsM g N K M C W O E q s) : RuR g N K M C W (O + 1) E ((if 2 ≤ a0 then some q else eitD (tkq g N) (nxq g N) 1001 (atW (tkq g N) (nxq g N) (knK (ltq g N) K M)) 8 q).bind fun c => (psK (tkq g N) (nxq g N) 267 c).bind fun d => eitD (tkq g N) (nxq g N) 1001 (atT (tkq g N) (nxq g N) 1001) 8 d) t := by
  cases n with
  | zero => exact False.elim h
  | succ n =>
    have h := ul_X12_rule_170 h
    unfold T_X12_rule_170 at h
    obtain ⟨_, _, _, _, s1, e1, h⟩ := h
    have R1 : RsM g N K M C W O E q s1 := by
      rw [e1]
      exact hR.c12
    rcases h with ⟨c, h⟩ | ⟨c, ⟨_, s2, hm, hf, _, h⟩ | ⟨c2, _⟩⟩
    · rw [if_pos c, Option.bind_some]
      exact h204 hN hg ha h R1
    · rw [if_neg c]
      rcases readsWhich hN hg hm R1.1 R1.2.1 with ⟨k1, k2⟩ | ⟨q2, k1, k2, k3⟩
      · refine Or.inl ⟨g204 h k1, k2.bind (fun z hz => ?_)⟩
        rw [bad_ps (by decide) hz]
        exact Bd.non rfl
      · rw [k1, Option.bind_some]
        exact h204 hN hg ha h ⟨k2, k3, R1.2.2.fr hf (by decide)⟩
    · exact absurd hR.1.2.2.1 c2
theorem h134 (hN : N ≤ 1000) (hg : ∀ i, g i ≤ 255) {n : Nat} (ha : ¬ 3 ≤ a0) (h : It_X12_rule n 134 a0 a1 a2 s r t) (hR : RsM g N K M C W O E q s) : RuR g N K M C W (O + 1) E ((if a0 = 1 then psK (tkq g N) (nxq g N) 269 q else some q).bind fun b => (if 2 ≤ a0 then some b else eitD (tkq g N) (nxq g N) 1001 (atW (tkq g N) (nxq g N) (knK (ltq g N) K M)) 8 b).bind fun c => (psK (tkq g N) (nxq g N) 267 c).bind fun d => eitD (tkq g N) (nxq g N) 1001 (atT (tkq g N) (nxq g N) 1001) 8 d) t := by
  cases n with
  | zero => exact False.elim h
  | succ n =>
    have h := ul_X12_rule_134 h
    unfold T_X12_rule_134 at h
    obtain ⟨_, _, _, _, s1, e1, h⟩ := h
    have R1 : RsM g N K M C W O E q s1 := by
      rw [e1]
      exact hR.c12
    rcases h with ⟨c, ⟨_, s2, hm, hf, _, h⟩ | ⟨c2, _⟩⟩ | ⟨c, h⟩
    · rw [if_pos c]
      rcases mustWordM (i := 8) hN hg (by decide) (by decide) hm R1.1 with ⟨k1, k2⟩ | ⟨q2, k1, k2⟩
      · have k3 : Bd (tkq g N) (psK (tkq g N) (nxq g N) 269 q) := k2
        refine Or.inl ⟨g170 h k1, k3.bind (fun z hz => ?_)⟩
        rw [if_neg (by omega)]
        have e : eitD (tkq g N) (nxq g N) 1001 (atW (tkq g N) (nxq g N) (knK (ltq g N) K M)) 8 z = none := bad_which hz
        rw [e]
        exact Bd.non rfl
      · have k3 : psK (tkq g N) (nxq g N) 269 q = some q2 := k1
        rw [k3, Option.bind_some]
        exact h170 hN hg ha h ⟨k2, R1.2.1.fr hf (by decide), R1.2.2.fr hf (by decide)⟩
    · exact absurd hR.1.2.2.1 c2
    · rw [if_neg c, Option.bind_some]
      exact h170 hN hg ha h R1
theorem h88 (hN : N ≤ 1000) (hg : ∀ i, g i ≤ 255) {n : Nat} (ha : a0 = 0 ∨ a0 = 1 ∨ a0 = 2) (h : It_X12_rule n 88 a0 a1 a2 s r t) (hR : RsM g N K M C W O E q s) : RuR g N K M C W (O + 1) E ((if a0 = 0 then some q else sumD (tkq g N) (nxq g N) 1001 8 q).bind fun a => (if a0 = 1 then psK (tkq g N) (nxq g N) 269 a else some a).bind fun b => (if 2 ≤ a0 then some b else eitD (tkq g N) (nxq g N) 1001 (atW (tkq g N) (nxq g N) (knK (ltq g N) K M)) 8 b).bind fun c => (psK (tkq g N) (nxq g N) 267 c).bind fun d => eitD (tkq g N) (nxq g N) 1001 (atT (tkq g N) (nxq g N) 1001) 8 d) t := by
  have ha3 : ¬ 3 ≤ a0 := by omega
  cases n with
  | zero => exact False.elim h
  | succ n =>
    have h := ul_X12_rule_88 h
    unfold T_X12_rule_88 at h
    obtain ⟨_, _, _, _, s1, e1, s2, e2, h⟩ := h
    have R2 : RsM g N K M C W O E q s2 := by
      rw [e2, e1]
      exact hR.c12.c12
    have sm : ∀ (s3 : PS) , ¬ a0 = 0 → M_X12_reads s2 0 0 s3 → It_X12_rule n 134 a0 a1 a2 s3 r t → AxM M C W O E s3 → RuR g N K M C W (O + 1) E ((if a0 = 0 then some q else sumD (tkq g N) (nxq g N) 1001 8 q).bind fun a => (if a0 = 1 then psK (tkq g N) (nxq g N) 269 a else some a).bind fun b => (if 2 ≤ a0 then some b else eitD (tkq g N) (nxq g N) 1001 (atW (tkq g N) (nxq g N) (knK (ltq g N) K M)) 8 b).bind fun c => (psK (tkq g N) (nxq g N) 267 c).bind fun d => eitD (tkq g N) (nxq g N) 1001 (atT (tkq g N) (nxq g N) 1001) 8 d) t := by
      intro s3 c hm h hA
      rw [if_neg c]
      rcases readsSum hN hg hm R2.1 R2.2.1 with ⟨k1, k2⟩ | ⟨q2, k1, k2, k3⟩
      · refine Or.inl ⟨g134 h k1, k2.bind (fun z hz => ?_)⟩
        by_cases c1 : a0 = 1
        · rw [if_pos c1, bad_ps (by decide) hz]
          exact Bd.non rfl
        · rw [if_neg c1, Option.bind_some, if_pos (by omega), Option.bind_some, bad_ps (by decide) hz]
          exact Bd.non rfl
      · rw [k1, Option.bind_some]
        exact h134 hN hg ha3 h ⟨k2, k3, hA⟩
    rcases h with ⟨c, ⟨_, s3, hm, hf, _, h⟩ | ⟨c2, _⟩⟩ | ⟨c, ⟨c1, ⟨_, s3, hm, hf, _, h⟩ | ⟨c2, _⟩⟩ | ⟨c1, h⟩⟩
    · exact sm s3 (by omega) hm h (R2.2.2.fr hf (by decide))
    · exact absurd hR.1.2.2.1 c2
    · exact sm s3 (by omega) hm h (R2.2.2.fr hf (by decide))
    · exact absurd hR.1.2.2.1 c2
    · rw [if_pos (by omega), Option.bind_some]
      exact h134 hN hg ha3 h R2
/-- behind even's number nothing is read -/
theorem h88e {n : Nat} (h : It_X12_rule n 88 3 a1 a2 s r t) (hR : RsM g N K M C W O E q s) : RsM g N K M C W (O + 1) E q t := by
  cases n with
  | zero => exact False.elim h
  | succ n =>
    have h := ul_X12_rule_88 h
    unfold T_X12_rule_88 at h
    obtain ⟨_, _, _, _, s1, e1, s2, e2, ⟨c, _⟩ | ⟨_, ⟨c, _⟩ | ⟨_, h⟩⟩⟩ := h
    · exact absurd c (by decide)
    · exact absurd c (by decide)
    · have R2 : RsM g N K M C W O E q s2 := by
        rw [e2, e1]
        exact hR.c12.c12
      cases n with
      | zero => exact False.elim h
      | succ n =>
        have h := ul_X12_rule_134 h
        unfold T_X12_rule_134 at h
        obtain ⟨_, _, _, _, s3, e3, ⟨c, _⟩ | ⟨_, h⟩⟩ := h
        · exact absurd c (by decide)
        · have R3 : RsM g N K M C W O E q s3 := by
            rw [e3]
            exact R2.c12
          cases n with
          | zero => exact False.elim h
          | succ n =>
            have h := ul_X12_rule_170 h
            unfold T_X12_rule_170 at h
            obtain ⟨_, _, _, _, s4, e4, ⟨_, h⟩ | ⟨c, _⟩⟩ := h
            · have R4 : RsM g N K M C W O E q s4 := by
                rw [e4]
                exact R3.c12
              cases n with
              | zero => exact False.elim h
              | succ n =>
                have h := ul_X12_rule_204 h
                unfold T_X12_rule_204 at h
                obtain ⟨_, _, _, _, s5, e5', ⟨_, h⟩ | ⟨c, _⟩⟩ := h
                · have R5 : RsM g N K M C W O E q s5 := by
                    rw [e5']
                    exact R4.c12
                  cases n with
                  | zero => exact False.elim h
                  | succ n =>
                    have h := ul_X12_rule_240 h
                    unfold T_X12_rule_240 at h
                    obtain ⟨_, _, _, _, s6, e6, ⟨_, h⟩ | ⟨c, _⟩⟩ := h
                    · have R6 : RsM g N K M C W O E q s6 := by
                        rw [e6]
                        exact R5.c12
                      exact h274 h R6
                    · exact absurd (by decide) c
                · exact absurd (by decide) c
            · exact absurd (by decide) c
end RuleM
