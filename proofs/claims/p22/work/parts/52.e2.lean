/-! the floor of the class: rows, slots, what is left; take and drop -/
def upX (X : Nat → Nat → Int) (r k : Nat) (v : Int) : Nat → Nat → Int := fun a b => if a = r ∧ b = k then v else X a b
def FlS (R K S : Nat) (sl fr : Nat → Nat) (D : Nat → Int) (al : Nat → Nat → Prop) (pt cu X : Nat → Nat → Int) (s : PS) : Prop := (s 64 0 = (K : Int) ∧ s 64 1 = (R : Int) ∧ s 64 2 = (S : Int)) ∧ (R ≤ 40 ∧ K ≤ 10 ∧ S ≤ 24) ∧ (∀ r, r < R → s 65 r = (sl r : Int) ∧ sl r < S ∧ s 68 r = D r ∧ s 71 r = sgN (X r) K) ∧ (∀ r k, r < R → k < K → (tb (s 69 r) k = true ↔ al r k) ∧ (tb (s 70 r) k = true ↔ X r k = 1) ∧ s 72 (10 * r + k) = pt r k ∧ (-2147483648 ≤ pt r k ∧ pt r k ≤ 2147483648) ∧ (X r k = 0 ∨ X r k = 1)) ∧ (∀ k t, k < K → t < S → s 73 (24 * k + t) = rStk R sl cu X k t ∧ 0 ≤ cu k t ∧ cu k t ≤ 500000) ∧ (∀ t, t ≤ S → s 66 t = (fr t : Int) ∧ fr t ≤ R) ∧ (∀ r t, r < R → t < S → ((fr t ≤ r ∧ r < fr (t + 1)) ↔ sl r = t)) ∧ ∀ r k, r < R → K ≤ k → k < 32 → tb (s 70 r) k = false
section FlSec
variable {R K S : Nat} {sl fr : Nat → Nat} {D : Nat → Int} {al : Nat → Nat → Prop} {pt cu X : Nat → Nat → Int} {s t : PS} {rr : Int}
theorem upX_at {r k : Nat} {v : Int} : upX X r k v r k = v := by
  unfold upX
  rw [if_pos ⟨rfl, rfl⟩]
theorem upX_ne {r k a b : Nat} {v : Int} (h : ¬ (a = r ∧ b = k)) : upX X r k v a b = X a b := by
  unfold upX
  rw [if_neg h]
theorem upX_sum {r k a : Nat} {v : Int} (hk : k < K) : sgN (upX X r k v a) K = if a = r then sgN (X r) K + (v - X r k) else sgN (X a) K := by
  by_cases c : a = r
  · rw [if_pos c, c, sgN_up (f := X r) (g := upX X r k v r) K k hk (fun i _ hi => upX_ne (fun q => hi q.2)), upX_at]
  · rw [if_neg c]
    exact sgN_cg K (fun i _ => upX_ne (fun q => c q.1))
theorem rStk_up {r k k2 t2 : Nat} {v : Int} (hr : r < R) : rStk R sl cu (upX X r k v) k2 t2 = rStk R sl cu X k2 t2 - (if k2 = k ∧ sl r ≤ t2 then v - X r k else 0) := by
  unfold rStk
  rw [sgN_up (f := fun a => if sl a ≤ t2 then X a k2 else 0) (g := fun a => if sl a ≤ t2 then upX X r k v a k2 else 0) R r hr (fun i _ hi => by
    show (if sl i ≤ t2 then upX X r k v i k2 else 0) = if sl i ≤ t2 then X i k2 else 0
    rw [upX_ne (fun q => hi q.1)])]
  show cu k2 t2 - (_ + ((if sl r ≤ t2 then upX X r k v r k2 else 0) - (if sl r ≤ t2 then X r k2 else 0))) = _
  by_cases c : sl r ≤ t2
  · by_cases c2 : k2 = k
    · rw [if_pos c, if_pos c, if_pos ⟨c2, c⟩, c2, upX_at]
      omega
    · rw [if_pos c, if_pos c, if_neg (fun q => c2 q.1), upX_ne (fun q => c2 q.2)]
      omega
  · rw [if_neg c, if_neg c, if_neg (fun q => c q.2)]
    omega
theorem rStk_in (hx : ∀ r k, r < R → k < K → X r k = 0 ∨ X r k = 1) {k t2 : Nat} (hk : k < K) (hR : R ≤ 40) : rStk R sl cu X k t2 ≤ cu k t2 ∧ cu k t2 - 40 ≤ rStk R sl cu X k t2 := by
  have a := sgN_nn R (f := fun r => if sl r ≤ t2 then X r k else 0) (fun r hr => by
    show 0 ≤ if sl r ≤ t2 then X r k else 0
    have z := hx r k hr hk
    split <;> omega)
  have b := sgN_le R (f := fun r => if sl r ≤ t2 then X r k else 0) (g := fun _ => 1) (fun r hr => by
    show (if sl r ≤ t2 then X r k else 0) ≤ 1
    have z := hx r k hr hk
    split <;> omega)
  have e : ∀ n : Nat, sgN (fun _ => (1 : Int)) n = (n : Int) := fun n => by
    induction n with
    | zero => rfl
    | succ n ih =>
      show sgN (fun _ => (1 : Int)) n + 1 = _
      rw [ih]
      omega
  rw [e] at b
  unfold rStk
  omega
theorem take29 {r k : Nat} (hk : k < 10) (hS : S ≤ 24) : ∀ (fu x : Nat) (s : PS) (rr : Int) (t : PS), It_X3_take fu (r : Int) (k : Int) (x : Int) s rr t → s 64 2 = (S : Int) → (∀ y, x ≤ y → y < S → -1000 ≤ s 73 (24 * k + y) ∧ s 73 (24 * k + y) ≤ 600000) → (∀ i, t 73 i = if 24 * k + x ≤ i ∧ i < 24 * k + S then s 73 i - 1 else s 73 i) ∧ ∀ c, ¬ c = 73 → t c = s c
  | 0, x, s, rr, t, h, _, _ => False.elim h
  | fu + 1, x, s, rr, t, h, h2, hb => by
    replace h := ul_X3_take_29 h
    unfold T_X3_take_29 at h
    obtain ⟨_, _, _, _, h⟩ := h
    rw [h2] at h
    rcases h with ⟨c, _, e⟩ | ⟨c, s3, e3, h⟩
    · rw [e]
      exact ⟨fun i => by rw [if_neg (by omega)], fun _ _ => rfl⟩
    · have ei : (((k : Int) * 24) + (x : Int)).toNat = 24 * k + x := by
        clear h
        omega
      have hx : x < S := by
        clear h
        omega
      have b0 := hb x (Nat.le_refl x) hx
      rw [ei, wi_id (by clear h; omega) (by clear h; omega)] at e3
      obtain ⟨w1, w2⟩ := take29 hk hS fu (x + 1) s3 rr t h (by rw [e3, us_k (by decide)]; exact h2) (fun y hy hy2 => by
        rw [e3, us_f]
        show -1000 ≤ (if 24 * k + y = 24 * k + x then s 73 (24 * k + x) - 1 else s 73 (24 * k + y)) ∧ (if 24 * k + y = 24 * k + x then s 73 (24 * k + x) - 1 else s 73 (24 * k + y)) ≤ 600000
        rw [if_neg (by omega)]
        exact hb y (by omega) hy2)
      refine ⟨fun i => ?_, fun c hc => by rw [w2 c hc, e3, us_k hc]⟩
      rw [w1 i, e3, us_if]
      by_cases q : i = 24 * k + x
      · rw [if_neg (by omega), if_pos q, if_pos (by omega), q]
      · rw [if_neg q]
        by_cases q2 : 24 * k + (x + 1) ≤ i ∧ i < 24 * k + S
        · rw [if_pos q2, if_pos (by omega)]
        · rw [if_neg q2, if_neg (by omega)]
theorem drop31 {r k : Nat} (hk : k < 10) (hS : S ≤ 24) : ∀ (fu x : Nat) (s : PS) (rr : Int) (t : PS), It_X3_drop fu (r : Int) (k : Int) (x : Int) s rr t → s 64 2 = (S : Int) → (∀ y, x ≤ y → y < S → -1000 ≤ s 73 (24 * k + y) ∧ s 73 (24 * k + y) ≤ 600000) → (∀ i, t 73 i = if 24 * k + x ≤ i ∧ i < 24 * k + S then s 73 i + 1 else s 73 i) ∧ ∀ c, ¬ c = 73 → t c = s c
  | 0, x, s, rr, t, h, _, _ => False.elim h
  | fu + 1, x, s, rr, t, h, h2, hb => by
    replace h := ul_X3_drop_31 h
    unfold T_X3_drop_31 at h
    obtain ⟨_, _, _, _, h⟩ := h
    rw [h2] at h
    rcases h with ⟨c, _, e⟩ | ⟨c, s3, e3, h⟩
    · rw [e]
      exact ⟨fun i => by rw [if_neg (by omega)], fun _ _ => rfl⟩
    · have ei : (((k : Int) * 24) + (x : Int)).toNat = 24 * k + x := by
        clear h
        omega
      have hx : x < S := by
        clear h
        omega
      have b0 := hb x (Nat.le_refl x) hx
      rw [ei, wi_id (by clear h; omega) (by clear h; omega)] at e3
      obtain ⟨w1, w2⟩ := drop31 hk hS fu (x + 1) s3 rr t h (by rw [e3, us_k (by decide)]; exact h2) (fun y hy hy2 => by
        rw [e3, us_f]
        show -1000 ≤ (if 24 * k + y = 24 * k + x then s 73 (24 * k + x) + 1 else s 73 (24 * k + y)) ∧ (if 24 * k + y = 24 * k + x then s 73 (24 * k + x) + 1 else s 73 (24 * k + y)) ≤ 600000
        rw [if_neg (by omega)]
        exact hb y (by omega) hy2)
      refine ⟨fun i => ?_, fun c hc => by rw [w2 c hc, e3, us_k hc]⟩
      rw [w1 i, e3, us_if]
      by_cases q : i = 24 * k + x
      · rw [if_neg (by omega), if_pos q, if_pos (by omega), q]
      · rw [if_neg q]
        by_cases q2 : 24 * k + (x + 1) ≤ i ∧ i < 24 * k + S
        · rw [if_pos q2, if_pos (by omega)]
        · rw [if_neg q2, if_neg (by omega)]
theorem FlS.cg (h : FlS R K S sl fr D al pt cu X s) (e : ∀ x, 64 ≤ x → x ≤ 73 → t x = s x) : FlS R K S sl fr D al pt cu X t := by
  unfold FlS at h ⊢
  rw [e 64 (by decide) (by decide), e 65 (by decide) (by decide), e 66 (by decide) (by decide), e 68 (by decide) (by decide), e 69 (by decide) (by decide), e 70 (by decide) (by decide), e 71 (by decide) (by decide), e 72 (by decide) (by decide), e 73 (by decide) (by decide)]
  exact h
/-- one pair less or more, as bits, counts and stocks say -/
theorem FlS.up (h : FlS R K S sl fr D al pt cu X s) {r k : Nat} {v : Int} (hr : r < R) (hk : k < K) (hv : v = 0 ∨ v = 1) (e0 : ∀ x, ¬ x = 70 → ¬ x = 71 → ¬ x = 73 → t x = s x) (e70 : ∀ a, ¬ a = r → t 70 a = s 70 a) (b70 : ∀ j, j < 32 → tb (t 70 r) j = if j = k then decide (v = 1) else tb (s 70 r) j) (e71 : ∀ a, t 71 a = if a = r then s 71 a + (v - X r k) else s 71 a) (e73 : ∀ i, t 73 i = if 24 * k + sl r ≤ i ∧ i < 24 * k + S then s 73 i - (v - X r k) else s 73 i) : FlS R K S sl fr D al pt cu (upX X r k v) t := by
  obtain ⟨h1, h2, h3, h4, h5, h6, h7, h8⟩ := h
  have c64 := e0 64 (by decide) (by decide) (by decide)
  have c65 := e0 65 (by decide) (by decide) (by decide)
  have c66 := e0 66 (by decide) (by decide) (by decide)
  have c68 := e0 68 (by decide) (by decide) (by decide)
  have c69 := e0 69 (by decide) (by decide) (by decide)
  have c72 := e0 72 (by decide) (by decide) (by decide)
  refine ⟨by rw [c64]; exact h1, h2, fun a ha => ?_, fun a b ha hb => ?_, fun b y hb hy => ?_, fun y hy => by rw [c66]; exact h6 y hy, h7, fun a b ha hb hb2 => ?_⟩
  · obtain ⟨q1, q2, q3, q4⟩ := h3 a ha
    refine ⟨by rw [c65]; exact q1, q2, by rw [c68]; exact q3, ?_⟩
    rw [e71 a, upX_sum hk]
    by_cases c : a = r
    · rw [if_pos c, if_pos c, q4, c]
    · rw [if_neg c, if_neg c, q4]
  · obtain ⟨q1, q2, q3, q4, q5⟩ := h4 a b ha hb
    refine ⟨by rw [c69]; exact q1, ?_, by rw [c72]; exact q3, q4, ?_⟩
    · by_cases c : a = r
      · rw [c, b70 b (by omega)]
        by_cases c2 : b = k
        · rw [if_pos c2, c2, upX_at]
          exact decide_eq_true_iff
        · rw [if_neg c2, upX_ne (fun q => c2 q.2), ← c]
          exact q2
      · rw [e70 a c, upX_ne (fun q => c q.1)]
        exact q2
    · by_cases c : a = r ∧ b = k
      · rw [c.1, c.2, upX_at]
        exact hv
      · rw [upX_ne c]
        exact q5
  · obtain ⟨q1, q2⟩ := h5 b y hb hy
    have sr := (h3 r hr).2.1
    refine ⟨?_, q2⟩
    rw [e73, rStk_up hr, q1]
    by_cases c : b = k ∧ sl r ≤ y
    · rw [if_pos (by omega), if_pos c]
    · rw [if_neg (by omega), if_neg c, Int.sub_zero]
  · by_cases c : a = r
    · rw [c, b70 b hb2, if_neg (by omega)]
      exact h8 r b hr hb hb2
    · rw [e70 a c]
      exact h8 a b ha hb hb2
theorem tb_m32 : ∀ j : Fin 32, tb (-1) j.val = true := by decide +kernel
theorem tb_clr {v : Int} {k j : Nat} (hk : k < 32) (hj : j < 32) : tb (iAnd v (iXor (iShl 1 (k : Int)) (-1))) j = if j = k then false else tb v j := by
  rw [tb_and2 hj, tb_xor2 hj, tb_shl hk hj, tb_m32 ⟨j, hj⟩]
  by_cases c : j = k
  · rw [if_pos c, decide_eq_true c.symm]
    cases tb v j <;> rfl
  · rw [if_neg c, decide_eq_false (fun q => c q.symm)]
    cases tb v j <;> rfl
theorem takeF (h : FlS R K S sl fr D al pt cu X s) {r k : Nat} (hr : r < R) (hk : k < K) (hX : X r k = 0) (m : M_X3_take s (r : Int) (k : Int) rr t) : FlS R K S sl fr D al pt cu (upX X r k 1) t ∧ ∀ x, ¬ x = 70 → ¬ x = 71 → ¬ x = 73 → t x = s x := by
  have h0 := h
  obtain ⟨h1, h2, h3, h4, h5, h6, h7, h8⟩ := h
  obtain ⟨fu, m⟩ := m
  unfold T_X3_take_e at m
  obtain ⟨_, _, _, s7, e7, s9, e9, m⟩ := m
  simp only [Int.toNat_natCast] at e7 e9 m
  obtain ⟨q1, q2, q3, q4⟩ := h3 r hr
  rw [q1] at m
  have k73 : s9 73 = s 73 := by rw [e9, us_k (by decide), e7, us_k (by decide)]
  have hx01 : ∀ a b, a < R → b < K → X a b = 0 ∨ X a b = 1 := fun a b ha hb => (h4 a b ha hb).2.2.2.2
  obtain ⟨w1, w2⟩ := take29 (S := S) (by omega) h2.2.2 fu (sl r) s9 rr t m (by rw [e9, us_k (by decide), e7, us_k (by decide)]; exact h1.2.2) (fun y hy hy2 => by
    rw [k73, (h5 k y hk hy2).1]
    have z := rStk_in (sl := sl) (cu := cu) hx01 (t2 := y) hk h2.1
    have z2 := (h5 k y hk hy2).2
    omega)
  have e0 : ∀ x, ¬ x = 70 → ¬ x = 71 → ¬ x = 73 → t x = s x := fun x a b c => by rw [w2 x c, e9, us_k b, e7, us_k a]
  have us0 : 0 ≤ sgN (X r) K ∧ sgN (X r) K ≤ 40 := by
    have a := sgN_nn K (f := X r) (fun b hb => by
      have z := hx01 r b hr hb
      omega)
    have b := sgN_le K (f := X r) (g := fun _ => 1) (fun b hb => by
      have z := hx01 r b hr hb
      show X r b ≤ 1
      omega)
    have e : ∀ n : Nat, sgN (fun _ => (1 : Int)) n = (n : Int) := fun n => by
      induction n with
      | zero => rfl
      | succ n ih =>
        show sgN (fun _ => (1 : Int)) n + 1 = _
        rw [ih]
        omega
    rw [e] at b
    omega
  refine ⟨h0.up hr hk (Or.inr rfl) e0 (fun a ha => ?_) (fun j hj => ?_) (fun a => ?_) (fun i => ?_), e0⟩
  · rw [w2 70 (by decide), e9, us_k (by decide), e7, us_if, if_neg ha]
  · rw [w2 70 (by decide), e9, us_k (by decide), e7, us_at, tb_or (by omega) hj]
    by_cases c : j = k
    · rw [if_pos c, decide_eq_true c.symm]
      cases tb (s 70 r) j <;> rfl
    · rw [if_neg c, decide_eq_false (fun q => c q.symm)]
      cases tb (s 70 r) j <;> rfl
  · rw [w2 71 (by decide), e9, us_if, hX]
    by_cases c : a = r
    · rw [if_pos c, if_pos c, c, q4, wi_id (by omega) (by omega)]
      omega
    · rw [if_neg c, if_neg c, e7, us_k (by decide)]
  · rw [w1 i, k73, hX]
    by_cases c : 24 * k + sl r ≤ i ∧ i < 24 * k + S
    · rw [if_pos c, if_pos c]
      omega
    · rw [if_neg c, if_neg c]
theorem dropF (h : FlS R K S sl fr D al pt cu X s) {r k : Nat} (hr : r < R) (hk : k < K) (hX : X r k = 1) (m : M_X3_drop s (r : Int) (k : Int) rr t) : FlS R K S sl fr D al pt cu (upX X r k 0) t ∧ ∀ x, ¬ x = 70 → ¬ x = 71 → ¬ x = 73 → t x = s x := by
  have h0 := h
  obtain ⟨h1, h2, h3, h4, h5, h6, h7, h8⟩ := h
  obtain ⟨fu, m⟩ := m
  unfold T_X3_drop_e at m
  obtain ⟨_, _, _, s7, e7, s9, e9, m⟩ := m
  simp only [Int.toNat_natCast] at e7 e9 m
  obtain ⟨q1, q2, q3, q4⟩ := h3 r hr
  rw [q1] at m
  have k73 : s9 73 = s 73 := by rw [e9, us_k (by decide), e7, us_k (by decide)]
  have hx01 : ∀ a b, a < R → b < K → X a b = 0 ∨ X a b = 1 := fun a b ha hb => (h4 a b ha hb).2.2.2.2
  obtain ⟨w1, w2⟩ := drop31 (S := S) (by omega) h2.2.2 fu (sl r) s9 rr t m (by rw [e9, us_k (by decide), e7, us_k (by decide)]; exact h1.2.2) (fun y hy hy2 => by
    rw [k73, (h5 k y hk hy2).1]
    have z := rStk_in (sl := sl) (cu := cu) hx01 (t2 := y) hk h2.1
    have z2 := (h5 k y hk hy2).2
    omega)
  have e0 : ∀ x, ¬ x = 70 → ¬ x = 71 → ¬ x = 73 → t x = s x := fun x a b c => by rw [w2 x c, e9, us_k b, e7, us_k a]
  have us0 : 0 ≤ sgN (X r) K ∧ sgN (X r) K ≤ 40 := by
    have a := sgN_nn K (f := X r) (fun b hb => by
      have z := hx01 r b hr hb
      omega)
    have b := sgN_le K (f := X r) (g := fun _ => 1) (fun b hb => by
      have z := hx01 r b hr hb
      show X r b ≤ 1
      omega)
    have e : ∀ n : Nat, sgN (fun _ => (1 : Int)) n = (n : Int) := fun n => by
      induction n with
      | zero => rfl
      | succ n ih =>
        show sgN (fun _ => (1 : Int)) n + 1 = _
        rw [ih]
        omega
    rw [e] at b
    omega
  refine ⟨h0.up hr hk (Or.inl rfl) e0 (fun a ha => ?_) (fun j hj => ?_) (fun a => ?_) (fun i => ?_), e0⟩
  · rw [w2 70 (by decide), e9, us_k (by decide), e7, us_if, if_neg ha]
  · rw [w2 70 (by decide), e9, us_k (by decide), e7, us_at, tb_clr (by omega) hj]
    rfl
  · rw [w2 71 (by decide), e9, us_if, hX]
    by_cases c : a = r
    · rw [if_pos c, if_pos c, c, q4, wi_id (by omega) (by omega)]
      omega
    · rw [if_neg c, if_neg c, e7, us_k (by decide)]
  · rw [w1 i, k73, hX]
    by_cases c : 24 * k + sl r ≤ i ∧ i < 24 * k + S
    · rw [if_pos c, if_pos c]
      omega
    · rw [if_neg c, if_neg c]
end FlSec
