/-! the loop over calls keeps the giving of both -/
abbrev okGX (ms : List Nat) (fm : List (Nat × Nat)) : Prop := (∀ k ∈ [89, 90, 91, 92, 93, 94, 96], k ∉ ms) ∧ (88 ∉ ms ∨ (88 ∈ fm.map Prod.fst ∧ (88, 0) ∉ fm ∧ (88, 1) ∉ fm ∧ (88, 10) ∉ fm))
abbrev okGU (ms : List Nat) (fm : List (Nat × Nat)) : Prop := (∀ k ∈ [47, 48, 49, 50, 51, 52, 54], k ∉ ms) ∧ (0 ∉ ms ∨ (0 ∈ fm.map Prod.fst ∧ (0, 68) ∉ fm ∧ (0, 69) ∉ fm ∧ (0, 79) ∉ fm))
section Gv3
variable {K : Nat} {s t u v : PS} {r r2 : Int} {b : BST} {OL : List OT} {L : LT} {c : Int} {ms ms2 : List Nat} {fm fm2 : List (Nat × Nat)}
theorem GV.fr (h : GV K s u) (hF : Fr intsX ms fm s t) (kx : okGX ms fm) (hG : Fr intsM ms2 fm2 u v) (ku : okGU ms2 fm2) : GV K t v := by
  obtain ⟨k1, k2⟩ := kx
  obtain ⟨l1, l2⟩ := ku
  have e : ∀ j, (j = 0 ∨ j = 1 ∨ j = 10) → t 88 j = s 88 j := fun j hj => by
    rcases k2 with y | ⟨y, y0, y1, y2⟩
    · rw [hF.1 88 y]
    · rcases hj with z | z | z
      · rw [z]
        exact hF.2 88 0 y y0 (by decide)
      · rw [z]
        exact hF.2 88 1 y y1 (by decide)
      · rw [z]
        exact hF.2 88 10 y y2 (by decide)
  have f : ∀ j, (j = 68 ∨ j = 69 ∨ j = 79) → v 0 j = u 0 j := fun j hj => by
    rcases l2 with y | ⟨y, y0, y1, y2⟩
    · rw [hG.1 0 y]
    · rcases hj with z | z | z
      · rw [z]
        exact hG.2 0 68 y y0 (by decide)
      · rw [z]
        exact hG.2 0 69 y y1 (by decide)
      · rw [z]
        exact hG.2 0 79 y y2 (by decide)
  exact h.cg (e 0 (by omega)) (e 1 (by omega)) (e 10 (by omega)) (fun x hx => hF.1 x (k1 x (by simp only [List.mem_cons, List.not_mem_nil, or_false]; omega))) (f 68 (by omega)) (f 69 (by omega)) (f 79 (by omega)) (fun x hx => hG.1 x (l1 x (by simp only [List.mem_cons, List.not_mem_nil, or_false]; omega)))
theorem rulesGV (hT : TT s u) (hX : TyX s) (hM : TyM u) (hG : GV K s u) (f69 : v 0 69 = u 0 69) (f79 : v 0 79 = u 0 79) (h1 : M_X11_rules s r t) (h2 : M_X12_rules u r2 v) (e : r = r2) : (r = -1 → GV K t v) ∧ (¬ r = -1 → ∀ K2, GV K2 (sw t) v) := by
  have x := rulesX3 hX h1
  have m := rulesM3 hM h2
  refine ⟨fun q => ?_, fun q K2 => ?_⟩
  · rcases x with ⟨_, x⟩ | ⟨x, _⟩
    · rcases m with ⟨m, _⟩ | ⟨_, _, _, _, _, m68, m⟩
      · exact absurd (e.symm.trans q) (rulesNe hT hM h2 m)
      · exact hG.cg (by rw [x 88 (by omega)]) (by rw [x 88 (by omega)]) (by rw [x 88 (by omega)]) (fun y hy => x y (by omega)) m68 f69 f79 (fun y hy => m y (by omega))
    · exact absurd q x
  · rcases x with ⟨x, _⟩ | ⟨_, _, _, _, _, x⟩
    · exact absurd x q
    · rcases m with ⟨_, _, _, _, m⟩ | ⟨m, _⟩
      · exact Or.inl ⟨by rw [sw_31 (show 31 ≤ 88 by decide)]; exact x, m⟩
      · exact absurd (e.trans m) q
/-- the relation of rules, acts and codes, and the giving -/
def RQG (b : BST) (OL : List OT) (L : LT) (c : Int) (s u : PS) : Prop := RQ b OL L c s u ∧ GV b.1.length s u
theorem rq_kinds (h : RQ b OL L c s u) : u 2 (u 0 12).toNat = (b.1.length : Int) := by
  obtain ⟨a, a1, a2, a3⟩ := h.2.1.2.1
  rw [a2, Int.toNat_natCast]
  exact a3.1
theorem given3 {p1 : Int} (h : RQG b OL L c s u) (h1 : M_X11_given s p1 r t) (h2 : M_X12_given u p1 r2 v) : r = r2 := given2 h.2 (rq_kinds h.1) h1 h2
theorem left3 {p1 : Int} (hX : TyX s) (h : RQG b OL L c s u) (h1 : M_X11_left s p1 r t) (h2 : M_X12_left u p1 r2 v) : r = r2 := left2 h.2 (bx_len hX h.1.2.1.1).1 (rq_kinds h.1) h1 h2
theorem lacks3 {p1 p2 : Int} (h : RQG b OL L c s u) (h1 : M_X11_lacks s p1 p2 r t) (h2 : M_X12_lacks u p1 p2 r2 v) : r = r2 := lacks2 h.2 h1 h2
end Gv3
