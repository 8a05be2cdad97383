/-! the stamps of the ranker, as the loop over calls keeps them -/
theorem stA_of {q : Nat → Nat} {cI cJ cZ : ClassId} {bb bs bp : Nat} {w : va_W} {b : Int} (h : HT q (TX q cI cJ cZ bb bs bp) w) (hS : SB b w) : StA b (vw w) := by
  obtain ⟨s1, s2, s3⟩ := hS
  have e4 : (fI w 81 4).toInt = vw w 81 4 := h.vi (j := 4) tX_81 rfl
  refine ⟨⟨?_, by rw [← e4]; exact s3⟩, fun x hx => ?_, fun x hx => ?_⟩
  · rw [← e4]
    have z := Int32.le_toInt (fI w 81 4)
    omega
  · have z := s1 x hx
    rw [h.va tX_83 x, e4] at z
    exact z
  · have z := s2 x hx
    rw [h.va tX_85 x, e4] at z
    exact z
