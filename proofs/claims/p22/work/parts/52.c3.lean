/-! a flow of the net is a deal -/
section Bridge
variable {n K : Nat} {D : Nat → Int} {dy : Nat → Nat} {al : Nat → Nat → Bool} {cm : Nat → Nat → Int} {Pt X Y : Nat → Nat → Int} {f : Nat → Int} {v : Int}
/-- the net's ends, room, prices by the places of the list -/
abbrev gA (n K : Nat) (cm : Nat → Nat → Int) (al : Nat → Nat → Bool) (dy : Nat → Nat) (j : Nat) : Nat := lnA dy (tgAt (tgG n K cm al) j)
abbrev gB (n K : Nat) (cm : Nat → Nat → Int) (al : Nat → Nat → Bool) (j : Nat) : Nat := lnB (tgAt (tgG n K cm al) j)
abbrev gC (n K : Nat) (cm : Nat → Nat → Int) (al : Nat → Nat → Bool) (D : Nat → Int) (j : Nat) : Int := lnC cm D (tgAt (tgG n K cm al) j)
abbrev gW (n K : Nat) (cm : Nat → Nat → Int) (al : Nat → Nat → Bool) (Pt : Nat → Nat → Int) (j : Nat) : Int := lnW Pt (tgAt (tgG n K cm al) j)
/-- a flow by its lanes' names -/
def fT (n K : Nat) (cm : Nat → Nat → Int) (al : Nat → Nat → Bool) (f : Nat → Int) (t : TAG) : Int := f (tix t (tgG n K cm al))
/-- up to a day -/
def cuD (cm : Nat → Nat → Int) (i d : Nat) : Int := sgN (fun e => cm i (e + 1)) d
theorem fT_at (hK : K ≤ 10) {j : Nat} (hj : j < (tgG n K cm al).length) : f j = fT n K cm al f (tgAt (tgG n K cm al) j) := by
  unfold fT
  rw [tgAt_lt hj, tix_at (tgG_si hK) j hj]
theorem sum_net (hK : K ≤ 10) (G : TAG → Int → Int) : sgN (fun j => G (tgAt (tgG n K cm al) j) (f j)) (tgG n K cm al).length = sgL (fun t => G t (fT n K cm al f t)) (tgG n K cm al) := by
  refine sgN_list (F := fun t => G t (fT n K cm al f t)) _ _ (fun j hj => ?_)
  rw [fT_at (f := f) hK hj, tgAt_lt hj]
theorem cap_tag (hK : K ≤ 10) (hc : Cap (tgG n K cm al).length (gC n K cm al D) f) {t : TAG} (ht : t ∈ tgG n K cm al) : 0 ≤ fT n K cm al f t ∧ fT n K cm al f t ≤ lnC cm D t := by
  obtain ⟨h1, h2⟩ := tix_mem ht
  have z := hc _ h1
  unfold gC at z
  rw [tgAt_lt h1, h2] at z
  exact z
/-- what child c gets of kind k -/
def dealT (n K : Nat) (cm : Nat → Nat → Int) (al : Nat → Nat → Bool) (f : Nat → Int) (c k : Nat) : Int := if al c k = true then fT n K cm al f (3, c, k) else 0
theorem bal_tag (hK : K ≤ 10) (hb : Bal (tgG n K cm al).length (gA n K cm al dy) (gB n K cm al) f v) (rho : Nat → Int) : sgN (fun k => sgN (fun e => (if 0 < cm k (e + 1) then (rho (1 + 24 * k + (e + 1)) - rho 0) * fT n K cm al f (0, k, e + 1) else 0) + (if e + 1 < 24 then (rho (2 + 24 * k + (e + 1)) - rho (1 + 24 * k + (e + 1))) * fT n K cm al f (1, k, e + 1) else 0)) 24) K + sgN (fun c => (rho 1 - rho (242 + c)) * fT n K cm al f (2, c, 0) + sgN (fun k => (rho (242 + c) - rho (1 + 24 * k + dy c)) * dealT n K cm al f c k) K) n = (rho 1 - rho 0) * v := by
  have z := hb rho
  have e := sum_net (n := n) (cm := cm) (al := al) (f := f) hK (fun t x => (rho (lnB t) - rho (lnA dy t)) * x)
  have z2 : sgL (fun t => (rho (lnB t) - rho (lnA dy t)) * fT n K cm al f t) (tgG n K cm al) = (rho 1 - rho 0) * v := e.symm.trans z
  rw [sum_tg] at z2
  rw [← z2]
  congr 1
  refine sgN_cg n (fun c _ => ?_)
  congr 1
  refine sgN_cg K (fun k _ => ?_)
  unfold dealT
  split
  · rfl
  · rw [Int.mul_zero]
/-- by kinds' posts alone -/
theorem deal_day (hn : n ≤ 40) (hK : K ≤ 10) (hcm : ∀ k e, 0 ≤ cm k e) (hdy : ∀ c, c < n → 1 ≤ dy c ∧ dy c ≤ 24) (hc : Cap (tgG n K cm al).length (gC n K cm al D) f) (hb : Bal (tgG n K cm al).length (gA n K cm al dy) (gB n K cm al) f v) {i d : Nat} (hi : i < K) (hd : d ≤ 24) : sgN (fun c => if dy c ≤ d then dealT n K cm al f c i else 0) n ≤ cuD cm i d := by
  have z := bal_tag hK hb (fun x => if 1 + 24 * i + 1 ≤ x ∧ x ≤ 1 + 24 * i + d then 1 else 0)
  have e1 : (if 1 + 24 * i + 1 ≤ 1 ∧ 1 ≤ 1 + 24 * i + d then (1 : Int) else 0) = 0 := if_neg (by omega)
  have e0 : (if 1 + 24 * i + 1 ≤ 0 ∧ 0 ≤ 1 + 24 * i + d then (1 : Int) else 0) = 0 := if_neg (by omega)
  rw [e1, e0, Int.sub_self, Int.zero_mul] at z
  -- children's posts aren't among them
  have c1 : sgN (fun c => (0 - (if 1 + 24 * i + 1 ≤ 242 + c ∧ 242 + c ≤ 1 + 24 * i + d then (1 : Int) else 0)) * fT n K cm al f (2, c, 0) + sgN (fun k => ((if 1 + 24 * i + 1 ≤ 242 + c ∧ 242 + c ≤ 1 + 24 * i + d then (1 : Int) else 0) - (if 1 + 24 * i + 1 ≤ 1 + 24 * k + dy c ∧ 1 + 24 * k + dy c ≤ 1 + 24 * i + d then (1 : Int) else 0)) * dealT n K cm al f c k) K) n = - sgN (fun c => if dy c ≤ d then dealT n K cm al f c i else 0) n := by
    have q := sgN_mul (f := fun c => if dy c ≤ d then dealT n K cm al f c i else 0) (c := -1) n
    rw [show - sgN (fun c => if dy c ≤ d then dealT n K cm al f c i else 0) n = -1 * sgN (fun c => if dy c ≤ d then dealT n K cm al f c i else 0) n from by omega, ← q]
    refine sgN_cg n (fun c hcn => ?_)
    have dc := hdy c hcn
    rw [if_neg (by omega), Int.sub_self, Int.zero_mul, Int.zero_add]
    rw [sgN_one K i hi (fun k hk hne => by
      rw [if_neg (by omega), Int.sub_self, Int.zero_mul])]
    by_cases c2 : dy c ≤ d
    · rw [if_pos (by omega), if_pos c2]
      omega
    · rw [if_neg (by omega), if_neg c2, Int.sub_self, Int.zero_mul, Int.mul_zero]
  have c2 : sgN (fun k => sgN (fun e => (if 0 < cm k (e + 1) then ((if 1 + 24 * i + 1 ≤ 1 + 24 * k + (e + 1) ∧ 1 + 24 * k + (e + 1) ≤ 1 + 24 * i + d then (1 : Int) else 0) - 0) * fT n K cm al f (0, k, e + 1) else 0) + (if e + 1 < 24 then ((if 1 + 24 * i + 1 ≤ 2 + 24 * k + (e + 1) ∧ 2 + 24 * k + (e + 1) ≤ 1 + 24 * i + d then (1 : Int) else 0) - (if 1 + 24 * i + 1 ≤ 1 + 24 * k + (e + 1) ∧ 1 + 24 * k + (e + 1) ≤ 1 + 24 * i + d then (1 : Int) else 0)) * fT n K cm al f (1, k, e + 1) else 0)) 24) K ≤ cuD cm i d := by
    rw [sgN_one K i hi (fun k hk hne => sgN_0 24 (fun e he => by
      have n1 : ¬ (1 + 24 * i + 1 ≤ 1 + 24 * k + (e + 1) ∧ 1 + 24 * k + (e + 1) ≤ 1 + 24 * i + d) := by omega
      by_cases lst : e + 1 < 24
      · rw [if_neg n1, if_pos lst, if_neg (show ¬ (1 + 24 * i + 1 ≤ 2 + 24 * k + (e + 1) ∧ 2 + 24 * k + (e + 1) ≤ 1 + 24 * i + d) by omega), Int.sub_self, Int.zero_mul, Int.zero_mul, ite_self]
        rfl
      · rw [if_neg n1, if_neg lst, Int.sub_self, Int.zero_mul, ite_self]
        rfl))]
    have sp : ∀ F : Nat → Int, sgN F 24 = sgN F d + sgN (fun i => F (d + i)) (24 - d) := fun F => by
      have e := sgN_spl (f := F) d (24 - d)
      rw [Nat.add_sub_cancel' hd] at e
      exact e
    rw [sp]
    have t2 : sgN (fun e => (if 0 < cm i (d + e + 1) then ((if 1 + 24 * i + 1 ≤ 1 + 24 * i + (d + e + 1) ∧ 1 + 24 * i + (d + e + 1) ≤ 1 + 24 * i + d then (1 : Int) else 0) - 0) * fT n K cm al f (0, i, d + e + 1) else 0) + (if d + e + 1 < 24 then ((if 1 + 24 * i + 1 ≤ 2 + 24 * i + (d + e + 1) ∧ 2 + 24 * i + (d + e + 1) ≤ 1 + 24 * i + d then (1 : Int) else 0) - (if 1 + 24 * i + 1 ≤ 1 + 24 * i + (d + e + 1) ∧ 1 + 24 * i + (d + e + 1) ≤ 1 + 24 * i + d then (1 : Int) else 0)) * fT n K cm al f (1, i, d + e + 1) else 0)) (24 - d) = 0 := by
      refine sgN_0 (24 - d) (fun e he => ?_)
      rw [if_neg (show ¬ (1 + 24 * i + 1 ≤ 1 + 24 * i + (d + e + 1) ∧ 1 + 24 * i + (d + e + 1) ≤ 1 + 24 * i + d) by omega), if_neg (show ¬ (1 + 24 * i + 1 ≤ 2 + 24 * i + (d + e + 1) ∧ 2 + 24 * i + (d + e + 1) ≤ 1 + 24 * i + d) by omega), Int.sub_self, Int.zero_mul, Int.zero_mul, ite_self, ite_self]
      rfl
    rw [t2, Int.add_zero]
    unfold cuD
    refine sgN_le d (fun e he => ?_)
    have x1 : (1 + 24 * i + 1 ≤ 1 + 24 * i + (e + 1) ∧ 1 + 24 * i + (e + 1) ≤ 1 + 24 * i + d) := by omega
    rw [if_pos x1]
    have s1 : (if 0 < cm i (e + 1) then ((1 : Int) - 0) * fT n K cm al f (0, i, e + 1) else 0) ≤ cm i (e + 1) := by
      by_cases p : 0 < cm i (e + 1)
      · rw [if_pos p, Int.sub_zero, Int.one_mul]
        exact (cap_tag hK hc (mem_src hi (by omega) p)).2
      · rw [if_neg p]
        exact hcm i (e + 1)
    have s2 : (if e + 1 < 24 then ((if 1 + 24 * i + 1 ≤ 2 + 24 * i + (e + 1) ∧ 2 + 24 * i + (e + 1) ≤ 1 + 24 * i + d then (1 : Int) else 0) - 1) * fT n K cm al f (1, i, e + 1) else 0) ≤ 0 := by
      by_cases p : e + 1 < 24
      · rw [if_pos p]
        have w := (cap_tag hK hc (mem_wait (n := n) (al := al) hi (show e + 1 < 24 by omega))).1
        split
        · rw [Int.sub_self, Int.zero_mul]
          exact Int.le_refl 0
        · rw [Int.zero_sub, Int.neg_mul, Int.one_mul]
          omega
      · rw [if_neg p]
        exact Int.le_refl 0
    omega
  have z' : sgN (fun k => sgN (fun e => (if 0 < cm k (e + 1) then ((if 1 + 24 * i + 1 ≤ 1 + 24 * k + (e + 1) ∧ 1 + 24 * k + (e + 1) ≤ 1 + 24 * i + d then (1 : Int) else 0) - 0) * fT n K cm al f (0, k, e + 1) else 0) + (if e + 1 < 24 then ((if 1 + 24 * i + 1 ≤ 2 + 24 * k + (e + 1) ∧ 2 + 24 * k + (e + 1) ≤ 1 + 24 * i + d then (1 : Int) else 0) - (if 1 + 24 * i + 1 ≤ 1 + 24 * k + (e + 1) ∧ 1 + 24 * k + (e + 1) ≤ 1 + 24 * i + d then (1 : Int) else 0)) * fT n K cm al f (1, k, e + 1) else 0)) 24) K + sgN (fun c => (0 - (if 1 + 24 * i + 1 ≤ 242 + c ∧ 242 + c ≤ 1 + 24 * i + d then (1 : Int) else 0)) * fT n K cm al f (2, c, 0) + sgN (fun k => ((if 1 + 24 * i + 1 ≤ 242 + c ∧ 242 + c ≤ 1 + 24 * i + d then (1 : Int) else 0) - (if 1 + 24 * i + 1 ≤ 1 + 24 * k + dy c ∧ 1 + 24 * k + dy c ≤ 1 + 24 * i + d then (1 : Int) else 0)) * dealT n K cm al f c k) K) n = 0 := z
  rw [c1] at z'
  omega
/-- by a child's post alone -/
theorem deal_due (hn : n ≤ 40) (hK : K ≤ 10) (hdy : ∀ c, c < n → 1 ≤ dy c ∧ dy c ≤ 24) (hb : Bal (tgG n K cm al).length (gA n K cm al dy) (gB n K cm al) f v) {i : Nat} (hi : i < n) : sgN (dealT n K cm al f i) K = fT n K cm al f (2, i, 0) := by
  have z := bal_tag hK hb (fun x => if x = 242 + i then 1 else 0)
  have e1 : (if 1 = 242 + i then (1 : Int) else 0) = 0 := if_neg (by omega)
  have e0 : (if 0 = 242 + i then (1 : Int) else 0) = 0 := if_neg (by omega)
  rw [e1, e0, Int.sub_self, Int.zero_mul] at z
  have c2 : sgN (fun k => sgN (fun e => (if 0 < cm k (e + 1) then ((if 1 + 24 * k + (e + 1) = 242 + i then (1 : Int) else 0) - 0) * fT n K cm al f (0, k, e + 1) else 0) + (if e + 1 < 24 then ((if 2 + 24 * k + (e + 1) = 242 + i then (1 : Int) else 0) - (if 1 + 24 * k + (e + 1) = 242 + i then (1 : Int) else 0)) * fT n K cm al f (1, k, e + 1) else 0)) 24) K = 0 := by
    refine sgN_0 K (fun k hk => sgN_0 24 (fun e he => ?_))
    rw [if_neg (show ¬ 1 + 24 * k + (e + 1) = 242 + i by omega)]
    by_cases lst : e + 1 < 24
    · rw [if_pos lst, if_neg (show ¬ 2 + 24 * k + (e + 1) = 242 + i by omega), Int.sub_self, Int.zero_mul, Int.zero_mul, ite_self]
      rfl
    · rw [if_neg lst, Int.sub_self, Int.zero_mul, ite_self]
      rfl
  have c1 : sgN (fun c => (0 - (if 242 + c = 242 + i then (1 : Int) else 0)) * fT n K cm al f (2, c, 0) + sgN (fun k => ((if 242 + c = 242 + i then (1 : Int) else 0) - (if 1 + 24 * k + dy c = 242 + i then (1 : Int) else 0)) * dealT n K cm al f c k) K) n = - fT n K cm al f (2, i, 0) + sgN (dealT n K cm al f i) K := by
    rw [sgN_one n i hi (fun c hcn hne => by
      have dc := hdy c hcn
      rw [if_neg (by omega), Int.sub_self, Int.zero_mul, Int.zero_add]
      refine sgN_0 K (fun k hk => ?_)
      rw [if_neg (by omega), Int.sub_self, Int.zero_mul])]
    have di := hdy i hi
    rw [if_pos rfl]
    congr 1
    · rw [Int.zero_sub, Int.neg_mul, Int.one_mul]
    · refine sgN_cg K (fun k hk => ?_)
      rw [if_neg (by omega), Int.sub_zero, Int.one_mul]
  have z' : sgN (fun k => sgN (fun e => (if 0 < cm k (e + 1) then ((if 1 + 24 * k + (e + 1) = 242 + i then (1 : Int) else 0) - 0) * fT n K cm al f (0, k, e + 1) else 0) + (if e + 1 < 24 then ((if 2 + 24 * k + (e + 1) = 242 + i then (1 : Int) else 0) - (if 1 + 24 * k + (e + 1) = 242 + i then (1 : Int) else 0)) * fT n K cm al f (1, k, e + 1) else 0)) 24) K + sgN (fun c => (0 - (if 242 + c = 242 + i then (1 : Int) else 0)) * fT n K cm al f (2, c, 0) + sgN (fun k => ((if 242 + c = 242 + i then (1 : Int) else 0) - (if 1 + 24 * k + dy c = 242 + i then (1 : Int) else 0)) * dealT n K cm al f c k) K) n = 0 := z
  rw [c1, c2] at z'
  omega
/-- by the last post alone: how much -/
theorem deal_all (hn : n ≤ 40) (hK : K ≤ 10) (hdy : ∀ c, c < n → 1 ≤ dy c ∧ dy c ≤ 24) (hb : Bal (tgG n K cm al).length (gA n K cm al dy) (gB n K cm al) f v) : dSize n K (dealT n K cm al f) = v := by
  have z := bal_tag hK hb (fun x => if x = 1 then 1 else 0)
  have c2 : sgN (fun k => sgN (fun e => (if 0 < cm k (e + 1) then ((if 1 + 24 * k + (e + 1) = 1 then (1 : Int) else 0) - (if 0 = 1 then (1 : Int) else 0)) * fT n K cm al f (0, k, e + 1) else 0) + (if e + 1 < 24 then ((if 2 + 24 * k + (e + 1) = 1 then (1 : Int) else 0) - (if 1 + 24 * k + (e + 1) = 1 then (1 : Int) else 0)) * fT n K cm al f (1, k, e + 1) else 0)) 24) K = 0 := by
    refine sgN_0 K (fun k hk => sgN_0 24 (fun e he => ?_))
    rw [if_neg (show ¬ 1 + 24 * k + (e + 1) = 1 by omega), if_neg (show ¬ (0 : Nat) = 1 by decide), if_neg (show ¬ 2 + 24 * k + (e + 1) = 1 by omega), Int.sub_self, Int.zero_mul, Int.zero_mul, ite_self, ite_self]
    rfl
  have c1 : sgN (fun c => ((if 1 = 1 then (1 : Int) else 0) - (if 242 + c = 1 then (1 : Int) else 0)) * fT n K cm al f (2, c, 0) + sgN (fun k => ((if 242 + c = 1 then (1 : Int) else 0) - (if 1 + 24 * k + dy c = 1 then (1 : Int) else 0)) * dealT n K cm al f c k) K) n = dSize n K (dealT n K cm al f) := by
    unfold dSize
    refine sgN_cg n (fun c hc => ?_)
    have dc := hdy c hc
    rw [if_pos rfl, if_neg (show ¬ 242 + c = 1 by omega), Int.sub_zero, Int.one_mul, ← deal_due hn hK hdy hb hc]
    have e : sgN (fun k => ((0 : Int) - (if 1 + 24 * k + dy c = 1 then (1 : Int) else 0)) * dealT n K cm al f c k) K = 0 := by
      refine sgN_0 K (fun k hk => ?_)
      rw [if_neg (by omega), Int.sub_self, Int.zero_mul]
    rw [e, Int.add_zero]
  have z' : sgN (fun k => sgN (fun e => (if 0 < cm k (e + 1) then ((if 1 + 24 * k + (e + 1) = 1 then (1 : Int) else 0) - (if 0 = 1 then (1 : Int) else 0)) * fT n K cm al f (0, k, e + 1) else 0) + (if e + 1 < 24 then ((if 2 + 24 * k + (e + 1) = 1 then (1 : Int) else 0) - (if 1 + 24 * k + (e + 1) = 1 then (1 : Int) else 0)) * fT n K cm al f (1, k, e + 1) else 0)) 24) K + sgN (fun c => ((if 1 = 1 then (1 : Int) else 0) - (if 242 + c = 1 then (1 : Int) else 0)) * fT n K cm al f (2, c, 0) + sgN (fun k => ((if 242 + c = 1 then (1 : Int) else 0) - (if 1 + 24 * k + dy c = 1 then (1 : Int) else 0)) * dealT n K cm al f c k) K) n = ((if 1 = 1 then (1 : Int) else 0) - (if 0 = 1 then (1 : Int) else 0)) * v := z
  rw [c1, c2, if_pos rfl, if_neg (show ¬ (0 : Nat) = 1 by decide), Int.sub_zero, Int.one_mul, Int.zero_add] at z'
  exact z'
/-- a flow of the net is a deal -/
theorem deal_of (hn : n ≤ 40) (hK : K ≤ 10) (hcm : ∀ k e, 0 ≤ cm k e) (hdy : ∀ c, c < n → 1 ≤ dy c ∧ dy c ≤ 24) (hc : Cap (tgG n K cm al).length (gC n K cm al D) f) (hb : Bal (tgG n K cm al).length (gA n K cm al dy) (gB n K cm al) f v) : DealOk n K D dy (fun c k => al c k = true) (cuD cm) (dealT n K cm al f) ∧ dSize n K (dealT n K cm al f) = v ∧ cost (tgG n K cm al).length (gW n K cm al Pt) f = - dPts n K Pt (dealT n K cm al f) := by
  refine ⟨⟨fun c k hc1 hk => ?_, fun c hc1 => ?_, fun i d hi hd => deal_day hn hK hcm hdy hc hb hi hd⟩, deal_all hn hK hdy hb, ?_⟩
  · unfold dealT
    by_cases z : al c k = true
    · rw [if_pos z]
      have y := cap_tag hK hc (mem_pair (n := n) (cm := cm) hc1 hk z)
      have e : lnC cm D (3, c, k) = 1 := rfl
      rw [e] at y
      exact ⟨by omega, fun _ => z⟩
    · rw [if_neg z]
      exact ⟨Or.inl rfl, fun q => absurd q (by decide)⟩
  · rw [deal_due hn hK hdy hb hc1]
    exact (cap_tag hK hc (mem_sink hc1)).2
  · have e := sum_net (n := n) (cm := cm) (al := al) (f := f) hK (fun t x => lnW Pt t * x)
    have z : cost (tgG n K cm al).length (gW n K cm al Pt) f = sgL (fun t => lnW Pt t * fT n K cm al f t) (tgG n K cm al) := e
    rw [z, sum_tg]
    have s1 : sgN (fun k => sgN (fun e => (if 0 < cm k (e + 1) then lnW Pt (0, k, e + 1) * fT n K cm al f (0, k, e + 1) else 0) + (if e + 1 < 24 then lnW Pt (1, k, e + 1) * fT n K cm al f (1, k, e + 1) else 0)) 24) K = 0 := by
      refine sgN_0 K (fun k hk => sgN_0 24 (fun e he => ?_))
      have w0 : lnW Pt (0, k, e + 1) = 0 := rfl
      have w1 : lnW Pt (1, k, e + 1) = 0 := rfl
      rw [w0, w1, Int.zero_mul, Int.zero_mul, ite_self, ite_self]
      rfl
    rw [s1, Int.zero_add]
    unfold dPts
    have q := sgN_mul (f := fun c => sgN (fun i => Pt c i * dealT n K cm al f c i) K) (c := -1) n
    rw [show - sgN (fun c => sgN (fun i => Pt c i * dealT n K cm al f c i) K) n = -1 * sgN (fun c => sgN (fun i => Pt c i * dealT n K cm al f c i) K) n from by omega, ← q]
    refine sgN_cg n (fun c hc1 => ?_)
    have w2 : lnW Pt (2, c, 0) = 0 := rfl
    rw [w2, Int.zero_mul, Int.zero_add, ← sgN_mul]
    refine sgN_cg K (fun k hk => ?_)
    have w3 : lnW Pt (3, c, k) = - Pt c k := rfl
    unfold dealT
    rw [w3]
    split
    · rw [Int.neg_mul]
      omega
    · rw [Int.mul_zero, Int.mul_zero]
end Bridge
