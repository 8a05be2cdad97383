/-! a deal is a flow of the net; the best flow is the best deal -/
section Bridge2
variable {n K : Nat} {D : Nat → Int} {dy : Nat → Nat} {al : Nat → Nat → Bool} {cm : Nat → Nat → Int} {Pt X Y : Nat → Nat → Int} {f : Nat → Int} {v : Int}
/-- of a kind, given up to a day -/
def uD (n : Nat) (dy : Nat → Nat) (Y : Nat → Nat → Int) (k d : Nat) : Int := sgN (fun c => if dy c ≤ d then Y c k else 0) n
/-- sent on its way up to a day -/
def vD (n : Nat) (dy : Nat → Nat) (cm Y : Nat → Nat → Int) (k d : Nat) : Int := min (cuD cm k d) (uD n dy Y k 24)
def gT (n K : Nat) (dy : Nat → Nat) (cm Y : Nat → Nat → Int) (t : TAG) : Int := if t.1 = 0 then vD n dy cm Y t.2.1 t.2.2 - vD n dy cm Y t.2.1 (t.2.2 - 1) else if t.1 = 1 then vD n dy cm Y t.2.1 t.2.2 - uD n dy Y t.2.1 t.2.2 else if t.1 = 2 then sgN (Y t.2.1) K else Y t.2.1 t.2.2
def gF (n K : Nat) (dy : Nat → Nat) (al : Nat → Nat → Bool) (cm Y : Nat → Nat → Int) (j : Nat) : Int := gT n K dy cm Y (tgAt (tgG n K cm al) j)
theorem uD_mono (hY : ∀ c k, c < n → k < K → Y c k = 0 ∨ Y c k = 1) {k d e : Nat} (hk : k < K) (h : d ≤ e) : uD n dy Y k d ≤ uD n dy Y k e := by
  refine sgN_le n (fun c hc => ?_)
  have y := hY c k hc hk
  by_cases c1 : dy c ≤ d
  · rw [if_pos c1, if_pos (by omega)]
    exact Int.le_refl _
  · rw [if_neg c1]
    split
    · omega
    · exact Int.le_refl _
theorem uD_nn (hY : ∀ c k, c < n → k < K → Y c k = 0 ∨ Y c k = 1) {k d : Nat} (hk : k < K) : 0 ≤ uD n dy Y k d := by
  refine sgN_nn n (fun c hc => ?_)
  have y := hY c k hc hk
  split
  · omega
  · exact Int.le_refl _
theorem uD_le (hY : ∀ c k, c < n → k < K → Y c k = 0 ∨ Y c k = 1) {k d : Nat} (hk : k < K) : uD n dy Y k d ≤ (n : Int) := by
  have z := sgN_le (f := fun c => if dy c ≤ d then Y c k else 0) (g := fun _ => 1) n (fun c hc => by
    have y := hY c k hc hk
    split
    · omega
    · omega)
  have e : ∀ m : Nat, sgN (fun _ => (1 : Int)) m = (m : Int) := by
    intro m
    induction m with
    | zero => rfl
    | succ m ih =>
      show sgN (fun _ => (1 : Int)) m + 1 = ((m + 1 : Nat) : Int)
      rw [ih]
      omega
  rw [e] at z
  exact z
theorem uD_all (hdy : ∀ c, c < n → 1 ≤ dy c ∧ dy c ≤ 24) {k : Nat} : uD n dy Y k 24 = sgN (fun c => Y c k) n := sgN_cg n (fun c hc => if_pos (hdy c hc).2)
theorem uD_0 (hdy : ∀ c, c < n → 1 ≤ dy c ∧ dy c ≤ 24) {k : Nat} : uD n dy Y k 0 = 0 := sgN_0 n (fun c hc => if_neg (by have := hdy c hc; omega))
theorem cuD_s (k e : Nat) : cuD cm k (e + 1) = cuD cm k e + cm k (e + 1) := rfl
theorem cap_of (hn : n ≤ 40) (hcm : ∀ k e, 0 ≤ cm k e) (hY : DealOk n K D dy (fun c k => al c k = true) (cuD cm) Y) : Cap (tgG n K cm al).length (gC n K cm al D) (gF n K dy al cm Y) := by
  intro j hj
  have h01 : ∀ c k, c < n → k < K → Y c k = 0 ∨ Y c k = 1 := fun c k hc hk => (hY.1 c k hc hk).1
  have all : ∀ t ∈ tgG n K cm al, 0 ≤ gT n K dy cm Y t ∧ gT n K dy cm Y t ≤ lnC cm D t := by
    refine tg_all (fun k e hk he hp => ?_) (fun k e hk he => ?_) (fun c hc => ?_) (fun c k hc hk ha => ?_)
    · show 0 ≤ vD n dy cm Y k (e + 1) - vD n dy cm Y k e ∧ vD n dy cm Y k (e + 1) - vD n dy cm Y k e ≤ cm k (e + 1)
      have z := cuD_s (cm := cm) k e
      have y := hcm k (e + 1)
      unfold vD
      omega
    · show 0 ≤ vD n dy cm Y k (e + 1) - uD n dy Y k (e + 1) ∧ vD n dy cm Y k (e + 1) - uD n dy Y k (e + 1) ≤ 268435456
      have a := hY.2.2 k (e + 1) hk (by omega)
      have a2 : uD n dy Y k (e + 1) ≤ cuD cm k (e + 1) := a
      have b := uD_mono (dy := dy) h01 hk (show e + 1 ≤ 24 by omega)
      have c := uD_nn (dy := dy) h01 hk (d := e + 1)
      have d := uD_le (dy := dy) h01 hk (d := 24)
      unfold vD
      omega
    · show 0 ≤ sgN (Y c) K ∧ sgN (Y c) K ≤ D c
      exact ⟨sgN_nn K (fun k hk => by have := h01 c k hc hk; omega), hY.2.1 c hc⟩
    · show 0 ≤ Y c k ∧ Y c k ≤ 1
      have := h01 c k hc hk
      omega
  unfold gF gC
  rw [tgAt_lt hj]
  exact all _ (List.getElem_mem hj)
/-- what comes and waits, told by what goes -/
theorem abel {r : Nat → Int} {V U : Nat → Int} {r0 : Int} (h0 : V 0 = 0) (u0 : U 0 = 0) : ∀ d : Nat, sgN (fun e => (r (e + 1) - r0) * (V (e + 1) - V e) + (r (e + 2) - r (e + 1)) * (V (e + 1) - U (e + 1))) d = sgN (fun e => r (e + 1) * (U (e + 1) - U e)) d + r (d + 1) * (V d - U d) - r0 * V d
  | 0 => by
    rw [h0, u0]
    show (0 : Int) = 0 + r (0 + 1) * (0 - 0) - r0 * 0
    rw [Int.sub_self, Int.mul_zero, Int.mul_zero]
    rfl
  | d + 1 => by
    show sgN (fun e => (r (e + 1) - r0) * (V (e + 1) - V e) + (r (e + 2) - r (e + 1)) * (V (e + 1) - U (e + 1))) d + ((r (d + 1) - r0) * (V (d + 1) - V d) + (r (d + 2) - r (d + 1)) * (V (d + 1) - U (d + 1))) = (sgN (fun e => r (e + 1) * (U (e + 1) - U e)) d + r (d + 1) * (U (d + 1) - U d)) + r (d + 2) * (V (d + 1) - U (d + 1)) - r0 * V (d + 1)
    rw [abel h0 u0 d]
    simp only [Int.sub_mul, Int.mul_sub]
    omega
theorem bal_of (hn : n ≤ 40) (hK : K ≤ 10) (hcm : ∀ k e, 0 ≤ cm k e) (hdy : ∀ c, c < n → 1 ≤ dy c ∧ dy c ≤ 24) (hY : DealOk n K D dy (fun c k => al c k = true) (cuD cm) Y) : Bal (tgG n K cm al).length (gA n K cm al dy) (gB n K cm al) (gF n K dy al cm Y) (dSize n K Y) := by
  intro rho
  have h01 : ∀ c k, c < n → k < K → Y c k = 0 ∨ Y c k = 1 := fun c k hc hk => (hY.1 c k hc hk).1
  have e := sgN_list (F := fun t => (rho (lnB t) - rho (lnA dy t)) * gT n K dy cm Y t) (tgG n K cm al) (fun j => (rho (gB n K cm al j) - rho (gA n K cm al dy j)) * gF n K dy al cm Y j) (fun j hj => by
    unfold gF gA gB
    rw [tgAt_lt hj])
  rw [e, sum_tg]
  -- each kind's posts
  have kinds : sgN (fun k => sgN (fun e => (if 0 < cm k (e + 1) then (rho (lnB (0, k, e + 1)) - rho (lnA dy (0, k, e + 1))) * gT n K dy cm Y (0, k, e + 1) else 0) + (if e + 1 < 24 then (rho (lnB (1, k, e + 1)) - rho (lnA dy (1, k, e + 1))) * gT n K dy cm Y (1, k, e + 1) else 0)) 24) K = sgN (fun k => sgN (fun c => rho (1 + 24 * k + dy c) * Y c k - rho 0 * Y c k) n) K := by
    refine sgN_cg K (fun k hk => ?_)
    have unn := uD_nn (dy := dy) h01 hk (d := 24)
    have v0 : vD n dy cm Y k 0 = 0 := by
      unfold vD
      have z : cuD cm k 0 = 0 := rfl
      rw [z]
      omega
    have u0 : uD n dy Y k 0 = 0 := uD_0 hdy
    have v24 : vD n dy cm Y k 24 = uD n dy Y k 24 := by
      have a := hY.2.2 k 24 hk (Nat.le_refl _)
      have a2 : uD n dy Y k 24 ≤ cuD cm k 24 := a
      unfold vD
      omega
    have s1 : ∀ e, (if 0 < cm k (e + 1) then (rho (lnB (0, k, e + 1)) - rho (lnA dy (0, k, e + 1))) * gT n K dy cm Y (0, k, e + 1) else 0) = (rho (1 + 24 * k + (e + 1)) - rho 0) * (vD n dy cm Y k (e + 1) - vD n dy cm Y k e) := by
      intro e
      by_cases p : 0 < cm k (e + 1)
      · rw [if_pos p]
        rfl
      · rw [if_neg p]
        have z := cuD_s (cm := cm) k e
        have y := hcm k (e + 1)
        have q : vD n dy cm Y k (e + 1) = vD n dy cm Y k e := by
          unfold vD
          have : cuD cm k (e + 1) = cuD cm k e := by omega
          rw [this]
        rw [q, Int.sub_self, Int.mul_zero]
    have tot : sgN (fun e => (if 0 < cm k (e + 1) then (rho (lnB (0, k, e + 1)) - rho (lnA dy (0, k, e + 1))) * gT n K dy cm Y (0, k, e + 1) else 0) + (if e + 1 < 24 then (rho (lnB (1, k, e + 1)) - rho (lnA dy (1, k, e + 1))) * gT n K dy cm Y (1, k, e + 1) else 0)) (23 + 1) = sgN (fun e => rho (1 + 24 * k + (e + 1)) * (uD n dy Y k (e + 1) - uD n dy Y k e)) (23 + 1) - rho 0 * uD n dy Y k 24 := by
      show sgN (fun e => (if 0 < cm k (e + 1) then (rho (lnB (0, k, e + 1)) - rho (lnA dy (0, k, e + 1))) * gT n K dy cm Y (0, k, e + 1) else 0) + (if e + 1 < 24 then (rho (lnB (1, k, e + 1)) - rho (lnA dy (1, k, e + 1))) * gT n K dy cm Y (1, k, e + 1) else 0)) 23 + ((if 0 < cm k (23 + 1) then (rho (lnB (0, k, 23 + 1)) - rho (lnA dy (0, k, 23 + 1))) * gT n K dy cm Y (0, k, 23 + 1) else 0) + (if 23 + 1 < 24 then (rho (lnB (1, k, 23 + 1)) - rho (lnA dy (1, k, 23 + 1))) * gT n K dy cm Y (1, k, 23 + 1) else 0)) = (sgN (fun e => rho (1 + 24 * k + (e + 1)) * (uD n dy Y k (e + 1) - uD n dy Y k e)) 23 + rho (1 + 24 * k + 24) * (uD n dy Y k 24 - uD n dy Y k 23)) - rho 0 * uD n dy Y k 24
      have ab := abel (r := fun e => rho (1 + 24 * k + e)) (V := vD n dy cm Y k) (U := uD n dy Y k) (r0 := rho 0) v0 u0 23
      have cg : sgN (fun e => (if 0 < cm k (e + 1) then (rho (lnB (0, k, e + 1)) - rho (lnA dy (0, k, e + 1))) * gT n K dy cm Y (0, k, e + 1) else 0) + (if e + 1 < 24 then (rho (lnB (1, k, e + 1)) - rho (lnA dy (1, k, e + 1))) * gT n K dy cm Y (1, k, e + 1) else 0)) 23 = sgN (fun e => (rho (1 + 24 * k + (e + 1)) - rho 0) * (vD n dy cm Y k (e + 1) - vD n dy cm Y k e) + (rho (1 + 24 * k + (e + 2)) - rho (1 + 24 * k + (e + 1))) * (vD n dy cm Y k (e + 1) - uD n dy Y k (e + 1))) 23 := by
        refine sgN_cg 23 (fun e he => ?_)
        rw [s1 e, if_pos (show e + 1 < 24 by omega)]
        congr 1
        have lb : lnB (1, k, e + 1) = 1 + 24 * k + (e + 2) := by
          show 2 + 24 * k + (e + 1) = 1 + 24 * k + (e + 2)
          omega
        rw [lb]
        rfl
      rw [cg, s1 23, if_neg (show ¬ 23 + 1 < 24 by decide)]
      have ab2 : sgN (fun e => (rho (1 + 24 * k + (e + 1)) - rho 0) * (vD n dy cm Y k (e + 1) - vD n dy cm Y k e) + (rho (1 + 24 * k + (e + 2)) - rho (1 + 24 * k + (e + 1))) * (vD n dy cm Y k (e + 1) - uD n dy Y k (e + 1))) 23 = sgN (fun e => rho (1 + 24 * k + (e + 1)) * (uD n dy Y k (e + 1) - uD n dy Y k e)) 23 + rho (1 + 24 * k + (23 + 1)) * (vD n dy cm Y k 23 - uD n dy Y k 23) - rho 0 * vD n dy cm Y k 23 := ab
      rw [ab2, show 1 + 24 * k + (23 + 1) = 1 + 24 * k + 24 from rfl, show (23 + 1 : Nat) = 24 from rfl, v24]
      simp only [Int.sub_mul, Int.mul_sub]
      omega
    have tot2 := tot
    rw [show (23 + 1 : Nat) = 24 from rfl] at tot2
    rw [tot2]
    -- what goes on a day is what those of that day get
    have st : ∀ e, uD n dy Y k (e + 1) - uD n dy Y k e = sgN (fun c => if dy c = e + 1 then Y c k else 0) n := by
      intro e
      unfold uD
      rw [← sgN_sub]
      refine sgN_cg n (fun c hc => ?_)
      by_cases c1 : dy c = e + 1
      · rw [if_pos c1, if_pos (by omega), if_neg (by omega), Int.sub_zero]
      · rw [if_neg c1]
        by_cases c2 : dy c ≤ e
        · rw [if_pos c2, if_pos (by omega), Int.sub_self]
        · rw [if_neg c2, if_neg (by omega), Int.sub_self]
    have go : sgN (fun e => rho (1 + 24 * k + (e + 1)) * (uD n dy Y k (e + 1) - uD n dy Y k e)) 24 = sgN (fun c => rho (1 + 24 * k + dy c) * Y c k) n := by
      have a1 : sgN (fun e => rho (1 + 24 * k + (e + 1)) * (uD n dy Y k (e + 1) - uD n dy Y k e)) 24 = sgN (fun e => sgN (fun c => rho (1 + 24 * k + (e + 1)) * (if dy c = e + 1 then Y c k else 0)) n) 24 := sgN_cg 24 (fun e _ => by rw [st e, sgN_mul])
      rw [a1, sgN_sw]
      refine sgN_cg n (fun c hc => ?_)
      have dc := hdy c hc
      rw [sgN_one 24 (dy c - 1) (by omega) (fun e he hne => by rw [if_neg (by omega), Int.mul_zero])]
      have e1 : dy c - 1 + 1 = dy c := by omega
      rw [e1, if_pos rfl]
    rw [go, uD_all hdy, ← sgN_mul, ← sgN_sub]
  have kids : sgN (fun c => (rho (lnB (2, c, 0)) - rho (lnA dy (2, c, 0))) * gT n K dy cm Y (2, c, 0) + sgN (fun k => if al c k = true then (rho (lnB (3, c, k)) - rho (lnA dy (3, c, k))) * gT n K dy cm Y (3, c, k) else 0) K) n = sgN (fun c => sgN (fun k => rho 1 * Y c k - rho (1 + 24 * k + dy c) * Y c k) K) n := by
    refine sgN_cg n (fun c hc => ?_)
    have a1 : gT n K dy cm Y (2, c, 0) = sgN (fun k => Y c k) K := rfl
    rw [a1, ← sgN_mul, ← sgN_add]
    refine sgN_cg K (fun k hk => ?_)
    have b2 : lnB (2, c, 0) = 1 := rfl
    have b3 : lnA dy (2, c, 0) = 242 + c := rfl
    have b4 : lnB (3, c, k) = 242 + c := rfl
    have b5 : lnA dy (3, c, k) = 1 + 24 * k + dy c := rfl
    have b6 : gT n K dy cm Y (3, c, k) = Y c k := rfl
    rw [b2, b3, b4, b5, b6]
    by_cases z : al c k = true
    · rw [if_pos z]
      simp only [Int.sub_mul]
      omega
    · have y0 : Y c k = 0 := by
        rcases (hY.1 c k hc hk).1 with y | y
        · exact y
        · exact absurd ((hY.1 c k hc hk).2 y) z
      rw [if_neg z, y0, Int.mul_zero, Int.mul_zero, Int.mul_zero]
      rfl
  rw [kinds, kids, sgN_sw, ← sgN_add]
  unfold dSize
  rw [← sgN_mul]
  refine sgN_cg n (fun c _ => ?_)
  rw [← sgN_add, ← sgN_mul]
  refine sgN_cg K (fun k _ => ?_)
  rw [Int.sub_mul]
  omega
theorem cost_of (hY : DealOk n K D dy (fun c k => al c k = true) (cuD cm) Y) : cost (tgG n K cm al).length (gW n K cm al Pt) (gF n K dy al cm Y) = - dPts n K Pt Y := by
  have e := sgN_list (F := fun t => lnW Pt t * gT n K dy cm Y t) (tgG n K cm al) (fun j => gW n K cm al Pt j * gF n K dy al cm Y j) (fun j hj => by
    unfold gF gW
    rw [tgAt_lt hj])
  have z : cost (tgG n K cm al).length (gW n K cm al Pt) (gF n K dy al cm Y) = sgL (fun t => lnW Pt t * gT n K dy cm Y t) (tgG n K cm al) := e
  rw [z, sum_tg]
  have s1 : sgN (fun k => sgN (fun e => (if 0 < cm k (e + 1) then lnW Pt (0, k, e + 1) * gT n K dy cm Y (0, k, e + 1) else 0) + (if e + 1 < 24 then lnW Pt (1, k, e + 1) * gT n K dy cm Y (1, k, e + 1) else 0)) 24) K = 0 := by
    refine sgN_0 K (fun k hk => sgN_0 24 (fun e he => ?_))
    have w0 : lnW Pt (0, k, e + 1) = 0 := rfl
    have w1 : lnW Pt (1, k, e + 1) = 0 := rfl
    rw [w0, w1, Int.zero_mul, Int.zero_mul, ite_self, ite_self]
    rfl
  rw [s1, Int.zero_add]
  unfold dPts
  have q := sgN_mul (f := fun c => sgN (fun i => Pt c i * Y c i) K) (c := -1) n
  rw [show - sgN (fun c => sgN (fun i => Pt c i * Y c i) K) n = -1 * sgN (fun c => sgN (fun i => Pt c i * Y c i) K) n from by omega, ← q]
  refine sgN_cg n (fun c hc => ?_)
  have w2 : lnW Pt (2, c, 0) = 0 := rfl
  rw [w2, Int.zero_mul, Int.zero_add, ← sgN_mul]
  refine sgN_cg K (fun k hk => ?_)
  have w3 : lnW Pt (3, c, k) = - Pt c k := rfl
  have w4 : gT n K dy cm Y (3, c, k) = Y c k := rfl
  rw [w3, w4]
  by_cases a : al c k = true
  · rw [if_pos a, Int.neg_mul]
    omega
  · have y0 : Y c k = 0 := by
      rcases (hY.1 c k hc hk).1 with y | y
      · exact y
      · exact absurd ((hY.1 c k hc hk).2 y) a
    rw [if_neg a, y0, Int.mul_zero, Int.mul_zero]
/-- each pair's lane -/
def pjG (n K : Nat) (cm : Nat → Nat → Int) (al : Nat → Nat → Bool) (q : Nat) : Option Nat := if q / 10 < n ∧ q % 10 < K ∧ al (q / 10) (q % 10) = true then some (tix (3, q / 10, q % 10) (tgG n K cm al)) else none
theorem vP_deal (q : Nat) : vP (pjG n K cm al) f q = flatD n K (dealT n K cm al f) q := by
  unfold vP pjG flatD dealT
  by_cases c : q / 10 < n ∧ q % 10 < K ∧ al (q / 10) (q % 10) = true
  · rw [if_pos c, if_pos ⟨c.1, c.2.1⟩, if_pos c.2.2]
    rfl
  · rw [if_neg c]
    by_cases c2 : q / 10 < n ∧ q % 10 < K
    · rw [if_pos c2, if_neg (fun z => c ⟨c2.1, c2.2, z⟩)]
    · rw [if_neg c2]
theorem vP_flow (hY : DealOk n K D dy (fun c k => al c k = true) (cuD cm) Y) (q : Nat) : vP (pjG n K cm al) (gF n K dy al cm Y) q = flatD n K Y q := by
  unfold vP pjG flatD
  by_cases c : q / 10 < n ∧ q % 10 < K ∧ al (q / 10) (q % 10) = true
  · rw [if_pos c, if_pos ⟨c.1, c.2.1⟩]
    obtain ⟨h1, h2⟩ := tix_mem (mem_pair (n := n) (cm := cm) c.1 c.2.1 c.2.2)
    show gF n K dy al cm Y (tix (3, q / 10, q % 10) (tgG n K cm al)) = _
    unfold gF
    rw [tgAt_lt h1, h2]
    rfl
  · rw [if_neg c]
    by_cases c2 : q / 10 < n ∧ q % 10 < K
    · rw [if_pos c2]
      rcases (hY.1 _ _ c2.1 c2.2).1 with y | y
      · rw [y]
      · exact absurd ⟨c2.1, c2.2, (hY.1 _ _ c2.1 c2.2).2 y⟩ c
    · rw [if_neg c2]
/-- the best flow is the best deal -/
theorem best_of (hn : n ≤ 40) (hK : K ≤ 10) (hcm : ∀ k e, 0 ≤ cm k e) (hdy : ∀ c, c < n → 1 ≤ dy c ∧ dy c ≤ 24) (hO : OptF (tgG n K cm al).length (gA n K cm al dy) (gB n K cm al) (gC n K cm al D) (gW n K cm al Pt) f v) (hL : ∀ g, Cap (tgG n K cm al).length (gC n K cm al D) g → Bal (tgG n K cm al).length (gA n K cm al dy) (gB n K cm al) g v → cost (tgG n K cm al).length (gW n K cm al Pt) g = cost (tgG n K cm al).length (gW n K cm al Pt) f → LexM 400 (vP (pjG n K cm al) f) (vP (pjG n K cm al) g)) : BestD n K D dy (fun c k => al c k = true) (cuD cm) Pt (dealT n K cm al f) := by
  obtain ⟨o1, o2, o3⟩ := hO
  obtain ⟨d1, d2, d3⟩ := deal_of (Pt := Pt) hn hK hcm hdy o1 o2
  refine ⟨d1, fun Y hY => ?_⟩
  have c1 := cap_of hn hcm hY
  have b1 := bal_of hn hK hcm hdy hY
  have k1 := cost_of (Pt := Pt) hY
  obtain ⟨z1, z2⟩ := o3 _ _ c1 b1
  rw [d2]
  refine ⟨z1, fun e => ?_⟩
  have z3 := z2 e
  rw [k1, d3] at z3
  refine ⟨by omega, fun e2 => ?_⟩
  have lx := hL _ c1 (by rw [← e]; exact b1) (by rw [k1, d3, e2])
  rcases lx with h | ⟨k, h1, h2, h3⟩
  · exact Or.inl (fun q hq => by
      have y := h q hq
      rw [vP_deal, vP_flow hY] at y
      exact y)
  · refine Or.inr ⟨k, h1, fun i hi => ?_, ?_⟩
    · have y := h2 i hi
      rw [vP_deal, vP_flow hY] at y
      exact y
    · rw [vP_flow hY, vP_deal] at h3
      exact h3
end Bridge2
