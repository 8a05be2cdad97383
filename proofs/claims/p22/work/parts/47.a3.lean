/-! the class's step -/
def cwq (g : Nat → Nat) (q : Nat) : Bool := Nat.ble 1 q && (bL (g (q - 1)) || bD (g (q - 1)))
def StX (g : Nat → Nat) (N q : Nat) (t : PS) : Prop := t 31 4 = (tkq g N q : Int) ∧ (¬ tkq g N q = 257 → t 31 3 = (nxq g N q : Int) ∧ (tkq g N q = 258 → t 31 6 = (e5 (ltq g N q) : Int)) ∧ (tkq g N q = 259 → t 31 7 = (nvq g N q : Int)))
section StepX
variable {g : Nat → Nat} {N q a : Nat} {s t : PS} {r x1 x2 x3 x4 : Int}
theorem clq_eq : clq g N q = (Nat.beq (stq g N q) q && cwq g q) := rfl
theorem clq_t (h1 : stq g N q = q) (h2 : cwq g q = true) : clq g N q = true := by rw [clq_eq, h1, h2, Nat.beq_refl]; rfl
theorem clq_f (h : ¬ (stq g N q = q ∧ cwq g q = true)) : clq g N q = false := by
  rw [clq_eq]
  by_cases h1 : stq g N q = q
  · have h2 : cwq g q = false := Bool.eq_false_iff.mpr (fun k => h ⟨h1, k⟩)
    rw [h2, Bool.and_false]
  · have h3 : Nat.beq (stq g N q) q = false := Bool.eq_false_iff.mpr (fun k => h1 (Nat.eq_of_beq_eq_true k))
    rw [h3, Bool.false_and]
theorem st200 : ∀ n : Nat, It_X10_step n 200 x1 x2 x3 x4 s r t → ((x1 = 0 ∨ (x3 = 0 ∧ x4 = 0) ∨ ¬ s 31 5 = x2) ∧ t = s) ∨ ((¬ x1 = 0 ∧ (¬ x3 = 0 ∨ ¬ x4 = 0) ∧ s 31 5 = x2) ∧ t = us s 31 4 257)
  | 0, h => False.elim h
  | n + 1, h => by
    have h := ul_X10_step_200 h
    unfold T_X10_step_200 at h
    obtain ⟨_, _, _, _, _, h⟩ := h
    have k213 : ∀ n : Nat, It_X10_step n 213 x1 x2 x3 x4 s r t → (s 31 5 = x2 ∧ t = us s 31 4 257) ∨ (¬ s 31 5 = x2 ∧ t = s) := by
      intro n h
      cases n with
      | zero => exact False.elim h
      | succ n =>
        have h := ul_X10_step_213 h
        unfold T_X10_step_213 at h
        obtain ⟨_, _, _, _, _, h⟩ := h
        rcases h with ⟨c, s2, e2, _, es⟩ | ⟨c, _, es⟩
        · exact Or.inl ⟨c, es.trans e2⟩
        · exact Or.inr ⟨c, es⟩
    rcases h with ⟨c1, _, es⟩ | ⟨c1, h⟩
    · exact Or.inl ⟨Or.inl c1, es⟩
    · rcases h with ⟨c2, h⟩ | ⟨c2, h⟩
      · rcases h with ⟨c3, _, es⟩ | ⟨c3, h⟩
        · exact Or.inl ⟨Or.inr (Or.inl ⟨c2, c3⟩), es⟩
        · rcases k213 n h with ⟨k, e⟩ | ⟨k, e⟩
          · exact Or.inr ⟨⟨c1, Or.inr c3, k⟩, e⟩
          · exact Or.inl ⟨Or.inr (Or.inr k), e⟩
      · rcases k213 n h with ⟨k, e⟩ | ⟨k, e⟩
        · exact Or.inr ⟨⟨c1, Or.inl c2, k⟩, e⟩
        · exact Or.inl ⟨Or.inr (Or.inr k), e⟩
theorem tk_sign (h1 : stq g N q = a) (h2 : ¬ N ≤ a) (h3 : ¬ bL (g a) = true) (h4 : ¬ bD (g a) = true) : tkq g N q = g a ∧ nxq g N q = a + 1 := by
  unfold tkq nxq
  rw [h1, if_neg h2, if_neg h3, if_neg h4, if_neg h2, if_neg h3, if_neg h4]
  exact ⟨rfl, rfl⟩
theorem tk_end (h1 : stq g N q = a) (h2 : N ≤ a) : tkq g N q = 256 ∧ nxq g N q = N := by
  unfold tkq nxq
  rw [h1, if_pos h2, if_pos h2]
  exact ⟨rfl, rfl⟩
theorem tk_wordb (h1 : stq g N q = a) (h2 : ¬ N ≤ a) (h3 : bL (g a) = true) (h4 : (stq g N q = q ∧ cwq g q = true) ∨ 8 < rn bL g N a - a) : tkq g N q = 257 := by
  unfold tkq
  rw [h1, if_neg h2, if_pos h3]
  have e : lnq g N q bL = rn bL g N a - a := by unfold lnq; rw [h1]
  have : (clq g N q || Nat.blt 8 (lnq g N q bL)) = true := by
    rcases h4 with h4 | h4
    · rw [clq_t h4.1 h4.2, Bool.true_or]
    · rw [e]
      have : Nat.blt 8 (rn bL g N a - a) = true := by rw [Nat.blt_eq]; exact h4
      rw [this, Bool.or_true]
  rw [if_pos this]
theorem tk_word (h1 : stq g N q = a) (h2 : ¬ N ≤ a) (h3 : bL (g a) = true) (h4 : ¬ (stq g N q = q ∧ cwq g q = true)) (h5 : ¬ 8 < rn bL g N a - a) : tkq g N q = wtl (lts g a (rn bL g N a - a)) ∧ nxq g N q = rn bL g N a ∧ ltq g N q = lts g a (rn bL g N a - a) := by
  have e : lnq g N q bL = rn bL g N a - a := by unfold lnq; rw [h1]
  have el : ltq g N q = lts g a (rn bL g N a - a) := by
    show lts g (stq g N q) (lnq g N q bL) = _
    rw [e, h1]
  unfold tkq nxq
  rw [h1, if_neg h2, if_pos h3, if_neg h2, if_pos h3]
  have b : ¬ (clq g N q || Nat.blt 8 (lnq g N q bL)) = true := by
    rw [clq_f h4, Bool.false_or, e, Nat.blt_eq]
    exact h5
  rw [if_neg b]
  refine ⟨?_, rfl, el⟩
  unfold wtq wtl
  rw [el]
theorem bLD {c : Nat} (h : bD c = true) : ¬ bL c = true := by
  rw [bD_iff] at h
  rw [bL_iff]
  omega
theorem tk_numb (h1 : stq g N q = a) (h2 : ¬ N ≤ a) (h3 : bD (g a) = true) (h4 : (stq g N q = q ∧ cwq g q = true) ∨ 5 < rn bD g N a - a) : tkq g N q = 257 := by
  unfold tkq
  rw [h1, if_neg h2, if_neg (bLD h3), if_pos h3]
  have e : lnq g N q bD = rn bD g N a - a := by unfold lnq; rw [h1]
  have : (clq g N q || Nat.blt 5 (lnq g N q bD)) = true := by
    rcases h4 with h4 | h4
    · rw [clq_t h4.1 h4.2, Bool.true_or]
    · rw [e]
      have : Nat.blt 5 (rn bD g N a - a) = true := by rw [Nat.blt_eq]; exact h4
      rw [this, Bool.or_true]
  rw [if_pos this]
theorem tk_num (h1 : stq g N q = a) (h2 : ¬ N ≤ a) (h3 : bD (g a) = true) (h4 : ¬ (stq g N q = q ∧ cwq g q = true)) (h5 : ¬ 5 < rn bD g N a - a) : tkq g N q = 259 ∧ nxq g N q = rn bD g N a ∧ nvq g N q = dgF g a (rn bD g N a - a) := by
  have e : lnq g N q bD = rn bD g N a - a := by unfold lnq; rw [h1]
  unfold tkq nxq nvq
  rw [e, h1, if_neg h2, if_neg (bLD h3), if_pos h3, if_neg h2, if_neg (bLD h3), if_pos h3]
  have b : ¬ (clq g N q || Nat.blt 5 (rn bD g N a - a)) = true := by
    rw [clq_f h4, Bool.false_or, Nat.blt_eq]
    exact h5
  rw [if_neg b]
  exact ⟨rfl, rfl, rfl⟩
theorem wtl_ge (l : List Nat) : 258 ≤ wtl l ∧ ¬ wtl l = 259 ∧ wtl l ≤ 282 ∧ ¬ wtl l = 260 := by
  unfold wtl
  split <;> omega
theorem st158 (hN : N ≤ 1000) (hg : ∀ i, g i ≤ 255) {n : Nat} (h : It_X10_step n 158 x1 x2 x3 x4 s r t) (hT : TpX g N s) (hO : OWX s) (h3 : s 31 3 = (a : Int)) (h5 : s 31 5 = (a : Int)) (haN : a ≤ N) (ha : stq g N q = a) (hx2 : x2 = (q : Int)) (h1 : ¬ x1 = 0 ↔ cwq g q = true) (hL : ¬ x3 = 0 ↔ (a < N ∧ bL (g a) = true)) (hD : ¬ x4 = 0 ↔ (a < N ∧ bD (g a) = true)) (h4 : s 31 4 = if N ≤ a then 256 else (g a : Int)) : StX g N q t := by
  cases n with
  | zero => exact False.elim h
  | succ n =>
    have h := ul_X10_step_158 h
    unfold T_X10_step_158 at h
    obtain ⟨_, _, _, _, _, h⟩ := h
    rcases h with ⟨c1, h⟩ | ⟨c1, h⟩
    · rcases h with ⟨c2, s2, e2, h⟩ | ⟨c2, s2, hm, hf, _, h⟩
      · have e : t = s2 := by
          rcases st200 n h with ⟨_, e⟩ | ⟨⟨_, k, _⟩, _⟩
          · exact e
          · rcases k with k | k
            · exact absurd c1 k
            · exact absurd c2 k
        have z3 : t 31 3 = min ((a : Int) + 1) (N : Int) := by rw [e, e2, us_at, h3, hT.2]
        have z4 : t 31 4 = s 31 4 := by rw [e, e2, us_j (by decide)]
        by_cases b : N ≤ a
        · have k := tk_end ha b
          rw [if_pos b] at h4
          refine ⟨by rw [z4, h4, k.1]; rfl, fun _ => ⟨by rw [z3, k.2]; omega, fun q => absurd q (by rw [k.1]; decide), fun q => absurd q (by rw [k.1]; decide)⟩⟩
        · have k := tk_sign ha b (fun z => absurd c1 (hL.mpr ⟨by omega, z⟩)) (fun z => absurd c2 (hD.mpr ⟨by omega, z⟩))
          rw [if_neg b] at h4
          have g2 := hg a
          refine ⟨by rw [z4, h4, k.1], fun _ => ⟨by rw [z3, k.2]; omega, fun q => absurd q (by omega), fun q => absurd q (by omega)⟩⟩
      · have hd := hD.mp c2
        obtain ⟨m, hm⟩ := hm
        unfold T_X10_readNumber_e at hm
        obtain ⟨_, s3, e3, hm⟩ := hm
        have rd := rdNum hN hg m a s3 0 s2 hm (hT.cg (by rw [e3, us_k (by decide)]) (by rw [e3, us_j (by decide)])) (by rw [e3, us_j (by decide), h3]) (by rw [e3, us_j (by decide), h5]) (Nat.le_refl a) haN (fun i h1 h2 => absurd h2 (by omega)) (by omega) (by rw [e3, us_at, Nat.sub_self]; rfl)
        by_cases b5 : 5 < rn bD g N a - a
        · have k := tk_numb ha (by omega) hd.2 (Or.inr b5)
          have z := rd.1 b5
          refine ⟨?_, fun q => absurd k q⟩
          rcases st200 n h with ⟨_, e⟩ | ⟨_, e⟩
          · rw [e, z, k]; rfl
          · rw [e, us_at, k]; rfl
        · obtain ⟨r4, r3, r5, r7⟩ := rd.2 b5
          rcases st200 n h with ⟨k, e⟩ | ⟨⟨k1, _, k3⟩, e⟩
          · have ncl : ¬ (stq g N q = q ∧ cwq g q = true) := by
              intro z
              rcases k with k | k | k
              · exact absurd k (h1.mpr z.2)
              · exact c2 k.2
              · exact k (by rw [r5, hx2]; rw [ha] at z; omega)
            have k2 := tk_num ha (by omega) hd.2 ncl b5
            rw [e]
            exact ⟨by rw [r4, k2.1]; rfl, fun _ => ⟨by rw [r3, k2.2.1], fun q => absurd q (by rw [k2.1]; decide), fun _ => by rw [r7, k2.2.2]⟩⟩
          · have k2 := tk_numb ha (by omega) hd.2 (Or.inl ⟨by rw [r5, hx2] at k3; omega, h1.mp k1⟩)
            exact ⟨by rw [e, us_at, k2]; rfl, fun q => absurd k2 q⟩
    · have hl := hL.mp c1
      obtain ⟨s2, hm, hf, _, h⟩ := h
      obtain ⟨m, hm⟩ := hm
      unfold T_X10_readWord_e at hm
      obtain ⟨_, s3, e3, hm⟩ := hm
      have rd := (rdWord (a := a) hN hg m).1 _ _ _ _ hm ⟨hT.cg (by rw [e3, us_k (by decide)]) (by rw [e3, us_j (by decide)]), hO.cg (by rw [e3, us_k (by decide)]), by rw [e3, us_j (by decide), h5], a, by rw [e3, us_j (by decide), h3], Nat.le_refl a, haN, fun i h1 h2 => absurd h2 (by omega), by omega, by rw [e3, us_at, Nat.sub_self]; rfl⟩
      by_cases b5 : 8 < rn bL g N a - a
      · have k := tk_wordb ha (by omega) hl.2 (Or.inr b5)
        have z := rd.1 b5
        refine ⟨?_, fun q => absurd k q⟩
        rcases st200 n h with ⟨_, e⟩ | ⟨_, e⟩
        · rw [e, z, k]; rfl
        · rw [e, us_at, k]; rfl
      · obtain ⟨r4, r3, r5, r6⟩ := rd.2 b5
        have wt := wtl_ge (lts g a (rn bL g N a - a))
        rcases st200 n h with ⟨k, e⟩ | ⟨⟨k1, _, k3⟩, e⟩
        · have ncl : ¬ (stq g N q = q ∧ cwq g q = true) := by
            intro z
            rcases k with k | k | k
            · exact absurd k (h1.mpr z.2)
            · exact c1 k.1
            · exact k (by rw [r5, hx2]; rw [ha] at z; omega)
          have k2 := tk_word ha (by omega) hl.2 ncl b5
          rw [e]
          exact ⟨by rw [r4, k2.1], fun _ => ⟨by rw [r3, k2.2.1], fun _ => by rw [r6, k2.2.2], fun q => absurd q (by rw [k2.1]; exact wt.2.1)⟩⟩
        · have k2 := tk_wordb ha (by omega) hl.2 (Or.inl ⟨by rw [r5, hx2] at k3; omega, h1.mp k1⟩)
          exact ⟨by rw [e, us_at, k2]; rfl, fun q => absurd k2 q⟩
theorem st73 (hN : N ≤ 1000) (hg : ∀ i, g i ≤ 255) {n : Nat} (h : It_X10_step n 73 x1 x2 x3 x4 s r t) (hT : TpX g N s) (hO : OWX s) (h3 : s 31 3 = (a : Int)) (haN : a ≤ N) (ha : stq g N q = a) (hx2 : x2 = (q : Int)) (h1 : ¬ x1 = 0 ↔ cwq g q = true) : StX g N q t := by
  have k158 : ∀ (n : Nat) (y z : Int) (s2 : PS), It_X10_step n 158 x1 x2 y z s2 r t → (¬ y = 0 ↔ (a < N ∧ bL (g a) = true)) → (¬ z = 0 ↔ (a < N ∧ bD (g a) = true)) → s2 = us (us s 31 5 (a : Int)) 31 4 (if N ≤ a then 256 else (g a : Int)) → StX g N q t := by
    intro n y z s2 h hL hD e
    refine st158 hN hg h (hT.cg ?_ ?_) (hO.cg ?_) ?_ ?_ haN ha hx2 h1 hL hD ?_
    · rw [e, us_k (by decide), us_k (by decide)]
    · rw [e, us_j (by decide), us_j (by decide)]
    · rw [e, us_k (by decide), us_k (by decide)]
    · rw [e, us_j (by decide), us_j (by decide), h3]
    · rw [e, us_j (by decide), us_at]
    · rw [e, us_at]
  have k134 : ∀ (n : Nat) (y : Int) (z : Int) (s2 : PS), It_X10_step n 134 x1 x2 y z s2 r t → (¬ y = 0 ↔ (a < N ∧ bL (g a) = true)) → s2 = us (us s 31 5 (a : Int)) 31 4 (if N ≤ a then 256 else (g a : Int)) → StX g N q t := by
    intro n y z s2 h hL e
    have e4 : s2 31 4 = if N ≤ a then 256 else (g a : Int) := by rw [e, us_at]
    cases n with
    | zero => exact False.elim h
    | succ n =>
      have h := ul_X10_step_134 h
      unfold T_X10_step_134 at h
      obtain ⟨_, _, _, _, h⟩ := h
      rw [e4] at h
      have nd : It_X10_step n 157 x1 x2 y 0 s2 r t → ¬ (a < N ∧ bD (g a) = true) → StX g N q t := by
        intro h hd
        cases n with
        | zero => exact False.elim h
        | succ n =>
          have h := ul_X10_step_157 h
          unfold T_X10_step_157 at h
          obtain ⟨_, _, _, _, h⟩ := h
          exact k158 n _ _ s2 h hL ⟨fun z => absurd rfl z, fun z => absurd z hd⟩ e
      rcases h with ⟨c1, h⟩ | ⟨c1, h⟩
      · refine nd h (fun z => ?_)
        rw [if_neg (by omega)] at c1
        have := bD_iff.mp z.2
        omega
      · rcases h with ⟨c2, h⟩ | ⟨c2, h⟩
        · refine nd h (fun z => ?_)
          rw [if_neg (by omega)] at c2
          have := bD_iff.mp z.2
          omega
        · refine k158 n _ _ s2 h hL ⟨fun _ => ?_, fun _ => by decide⟩ e
          by_cases b : N ≤ a
          · rw [if_pos b] at c2
            exact absurd c2 (by decide)
          · rw [if_neg b] at c1 c2
            exact ⟨by omega, bD_iff.mpr (by omega)⟩
  have k108 : ∀ (n : Nat) (y z : Int) (s2 : PS), It_X10_step n 108 x1 x2 y z s2 r t → y = (if N ≤ a then 256 else (g a : Int)) → s2 = us s 31 5 (a : Int) → StX g N q t := by
    intro n y z s2 h ey e
    cases n with
    | zero => exact False.elim h
    | succ n =>
      have h := ul_X10_step_108 h
      unfold T_X10_step_108 at h
      obtain ⟨_, _, _, _, s3, e3, h⟩ := h
      have e4 : s3 = us (us s 31 5 (a : Int)) 31 4 (if N ≤ a then 256 else (g a : Int)) := by rw [e3, e, ey]
      have nl : It_X10_step n 133 x1 x2 0 0 s3 r t → ¬ (a < N ∧ bL (g a) = true) → StX g N q t := by
        intro h hd
        cases n with
        | zero => exact False.elim h
        | succ n =>
          have h := ul_X10_step_133 h
          unfold T_X10_step_133 at h
          obtain ⟨_, _, _, h⟩ := h
          exact k134 n _ _ s3 h ⟨fun z => absurd rfl z, fun z => absurd z hd⟩ e4
      rw [ey] at h
      rcases h with ⟨c1, h⟩ | ⟨c1, h⟩
      · refine nl h (fun z => ?_)
        rw [if_neg (by omega)] at c1
        have := bL_iff.mp z.2
        omega
      · rcases h with ⟨c2, h⟩ | ⟨c2, h⟩
        · refine nl h (fun z => ?_)
          rw [if_neg (by omega)] at c2
          have := bL_iff.mp z.2
          omega
        · refine k134 n _ _ s3 h ⟨fun _ => ?_, fun _ => by decide⟩ e4
          by_cases b : N ≤ a
          · rw [if_pos b] at c2
            exact absurd c2 (by decide)
          · rw [if_neg b] at c1 c2
            exact ⟨by omega, bL_iff.mpr (by omega)⟩
  cases n with
  | zero => exact False.elim h
  | succ n =>
    have h := ul_X10_step_73 h
    unfold T_X10_step_73 at h
    obtain ⟨_, _, _, s3, e3, h⟩ := h
    rw [h3] at e3 h
    rw [hT.2, Int.toNat_natCast, hT.1 a] at h
    rcases h with ⟨c1, h⟩ | ⟨c1, h⟩
    · exact k108 n _ _ s3 h (by rw [if_pos (by omega)]) e3
    · exact k108 n _ _ s3 h (by rw [if_neg (by omega)]) e3
theorem st21 (hN : N ≤ 1000) (hg : ∀ i, g i ≤ 255) (h1 : ¬ x1 = 0 ↔ cwq g q = true) (hx2 : x2 = (q : Int)) : ∀ n : Nat, (∀ (p : Nat) (y z : Int) (s : PS), It_X10_step n 21 x1 x2 y z s r t → TpX g N s → OWX s → s 31 3 = (p : Int) → q ≤ p → p ≤ N → (∀ i, q ≤ i → i < p → i < N ∧ bB (g i) = true) → StX g N q t) ∧ (∀ (p : Nat) (y z : Int) (s : PS), It_X10_step n 60 x1 x2 y z s r t → TpX g N s → OWX s → s 31 3 = (p : Int) → q ≤ p → p < N → bB (g p) = true → (∀ i, q ≤ i → i < p → i < N ∧ bB (g i) = true) → StX g N q t)
  | 0 => ⟨fun _ _ _ _ h => False.elim h, fun _ _ _ _ h => False.elim h⟩
  | n + 1 => by
    have ih := st21 hN hg h1 hx2 n
    refine ⟨fun p y z s h hT hO h3 hqp hpN hall => ?_, fun p y z s h hT hO h3 hqp hpN hb hall => ?_⟩
    · have h := ul_X10_step_21 h
      unfold T_X10_step_21 at h
      obtain ⟨_, _, _, h⟩ := h
      rw [h3, hT.2, Int.toNat_natCast, hT.1 p] at h
      have fin : ¬ (p < N ∧ bB (g p) = true) → It_X10_step n 73 x1 x2 0 0 s r t → StX g N q t := fun hno h => st73 hN hg h hT hO h3 hpN (rn_eq hqp hall hno) hx2 h1
      rcases h with ⟨c1, h⟩ | ⟨c1, h⟩
      · exact fin (by omega) h
      · rcases h with ⟨c2, h⟩ | ⟨c2, h⟩
        · exact ih.2 p _ _ s h hT hO h3 hqp (by omega) (by rw [bB_iff]; omega) hall
        · rcases h with ⟨c3, h⟩ | ⟨c3, h⟩
          · exact ih.2 p _ _ s h hT hO h3 hqp (by omega) (by rw [bB_iff]; omega) hall
          · exact fin (by rw [bB_iff]; omega) h
    · have h := ul_X10_step_60 h
      unfold T_X10_step_60 at h
      obtain ⟨_, _, _, s2, e2, h⟩ := h
      refine ih.1 (p + 1) _ _ s2 h (hT.cg ?_ ?_) (hO.cg ?_) ?_ (by omega) (by omega) ?_
      · rw [e2, us_k (by decide)]
      · rw [e2, us_j (by decide)]
      · rw [e2, us_k (by decide)]
      · rw [e2, us_at, h3]
        omega
      · intro i i1 i2
        by_cases e : i = p
        · rw [e]
          exact ⟨by omega, hb⟩
        · exact hall i i1 (by omega)
/-- a step, from the place q -/
theorem stepX (hN : N ≤ 1000) (hg : ∀ i, g i ≤ 255) (h : M_X10_step s r t) (hT : TpX g N s) (hO : OWX s) (h3 : s 31 3 = (q : Int)) (hq : q ≤ N) (hw : 258 ≤ s 31 4 ↔ cwq g q = true) : StX g N q t := by
  obtain ⟨n, h⟩ := h
  unfold T_X10_step_e at h
  obtain ⟨_, h⟩ := h
  have k15 : ∀ (n : Nat) (y a b c : Int), It_X10_step n 15 y a b c s r t → (¬ y = 0 ↔ cwq g q = true) → StX g N q t := by
    intro n y a b c h hy
    cases n with
    | zero => exact False.elim h
    | succ n =>
      have h := ul_X10_step_15 h
      unfold T_X10_step_15 at h
      obtain ⟨_, _, h⟩ := h
      rw [h3] at h
      exact (st21 hN hg hy rfl n).1 q _ _ s h hT hO h3 (Nat.le_refl q) hq (fun i i1 i2 => absurd i2 (by omega))
  rcases h with ⟨c1, h⟩ | ⟨c1, h⟩
  · exact k15 n _ _ _ _ h ⟨fun z => absurd rfl z, fun z => absurd (hw.mpr z) (by omega)⟩
  · exact k15 n _ _ _ _ h ⟨fun _ => hw.mp (by omega), fun _ => by decide⟩
end StepX
