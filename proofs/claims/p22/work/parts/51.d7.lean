/-! a which's smallest parts -/
section AwD
variable {lx lr : OPc → Int} {full : Int} {T N : Nat → Nat} {Lw : Nat → List Nat} {K M : List (List Nat)} {kd : Nat}
theorem awDn (hl : RelW kd (lx (6, 0, [])) (lr (6, 0, []))) (h8 : ∀ q, T q = 258 → Lw q ∈ K → RelW kd (lx (8, (idx K (Lw q) : Int), [])) (lr (8, (idx K (Lw q) : Int), []))) (h9 : ∀ q, T q = 258 → Lw q ∈ M → RelW kd (lx (9, (idx M (Lw q) : Int), [])) (lr (9, (idx M (Lw q) : Int), []))) (d q r : Nat) (e : atW T N (knK Lw K M) d q = some r) : Dn lx lr full (d + 3) (RelW kd) (awE T Lw K M d q) (awE T Lw K M d q) := by
  unfold atW at e
  unfold awE
  refine Dn.le ?_ (show 1 ≤ d + 3 by omega)
  by_cases c : T q = 275
  · rw [if_pos c]
    exact Dn.leaf (o := (6, 0, [])) (by decide) hl
  · rw [if_neg c] at e ⊢
    by_cases c2 : T q = 258 ∧ knK Lw K M q = true
    · by_cases c3 : Lw q ∈ K
      · rw [if_pos c3]
        exact Dn.leaf (o := (8, (idx K (Lw q) : Int), [])) (show (8 : Nat) ≤ 9 by decide) (h8 q c2.1 c3)
      · have c4 : Lw q ∈ M := by
          have z := c2.2
          unfold knK at z
          rw [Bool.or_eq_true, decide_eq_true_eq, decide_eq_true_eq] at z
          rcases z with z | z
          · exact absurd z c3
          · exact z
        rw [if_neg c3]
        exact Dn.leaf (o := (9, (idx M (Lw q) : Int), [])) (show (9 : Nat) ≤ 9 by decide) (h9 q c2.1 c4)
    · rw [if_neg c2] at e
      cases e
end AwD
