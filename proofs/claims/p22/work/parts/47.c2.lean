/-! the reference's reader: a kind's statement -/
section KindM2
variable {g : Nat → Nat} {N q : Nat} {s t u : PS} {r : Int} {K M cur : List (List Nat)} {C : List (List (List Nat))} {W : List (Nat × Nat × Nat)} {O E : Nat}
abbrev KdP (g : Nat → Nat) (N : Nat) (K M : List (List Nat)) (q : Nat) := kdP (tkq g N) (nxq g N) 1001 (nvq g N) (ltq g N) K M q
/-- what a kind's statement comes to -/
def KdR (g : Nat → Nat) (N : Nat) (K M : List (List Nat)) (C : List (List (List Nat))) (W : List (Nat × Nat × Nat)) (O E : Nat) (q : Nat) (t : PS) : Prop := (¬ t 0 8 = 0 ∧ ∀ x, KdP g N K M q = some x → tkq g N x.2 = 257) ∨ (∃ x, KdP g N K M q = some x ∧ FnK g N K C W O E (ltq g N (nxq g N q)) x t)
theorem kindM (hN : N ≤ 1000) (hg : ∀ i, g i ≤ 255) (h : M_X12_kind s r t) (hM : MX g N q s) (hB : BkM K M s) (hA : AxM M C W O E s) (lC : C.length = K.length) (lW : W.length = K.length) (h0 : ¬ tkq g N q = 256) : KdR g N K M C W O E q t := by
  obtain ⟨a, a1, a2, a3, a4, a5, a6, a7, a8⟩ := id hB
  have ea : (s 0 13).toNat = a := by rw [a2]; omega
  obtain ⟨n, h⟩ := h
  unfold T_X12_kind_e at h
  obtain ⟨ty, h⟩ := h
  rw [ea, a3] at h
  have gt := ngr hg q hM.2.1 h0
  have no : ¬ t 0 8 = 0 → ¬ (K.length < 10 ∧ tkq g N (nxq g N q) = 258 ∧ ¬ ltq g N (nxq g N q) ∈ K ∧ ¬ ltq g N (nxq g N q) ∈ M) → KdR g N K M C W O E q t := by
    intro z c
    refine Or.inl ⟨z, fun x hx => ?_⟩
    have e : KdP g N K M q = none := by
      show kdP _ _ _ _ _ _ _ _ = none
      unfold kdP
      rw [if_neg c]
    rw [e] at hx
    cases hx
  rcases h with ⟨c1, s1, hb, _, _, h⟩ | ⟨c1, h⟩
  · refine no (f25 h (blameF hb (tyM_flt ty).1).1) (fun z => ?_)
    have z1 := z.1
    omega
  · cases n with
    | zero => exact False.elim h
    | succ n =>
      have h := ul_X12_kind_25 h
      unfold T_X12_kind_25 at h
      obtain ⟨_, hk10, ⟨_, s1, hl, hf, _, h⟩ | ⟨c2, _⟩⟩ := h
      · have l10 : K.length < 10 := by omega
        rcases lookX hN hg (hM.mw h0) hl hf with ⟨j1, j2⟩ | j1
        · exact no (f36 h j1) (fun z => by have := z.2.1; omega)
        · have B1 := hB.fr hf (by decide)
          have A1 := hA.fr hf (by decide)
          clear hl hf
          cases n with
          | zero => exact False.elim h
          | succ n =>
            have h := ul_X12_kind_36 h
            unfold T_X12_kind_36 at h
            obtain ⟨_, _, ⟨_, h⟩ | ⟨c2, _⟩⟩ := h
            · rcases h with ⟨c3, r2, s2, hm2, _, _, _, h⟩ | ⟨c3, h⟩
              · obtain ⟨w1, w2, w3, w4, w5⟩ := j1.word hg c3
                obtain ⟨e2, k2⟩ := isOwnM hg hm2 j1 c3
                rw [e2] at h
                rcases h with ⟨c4, h⟩ | ⟨c4, h⟩
                · have e58 : tkq g N (nxq g N q) = 258 := by rcases k2 with k | k; exact absurd k.1 (by omega); exact k.2
                  have gt1 := ngr hg (nxq g N q) gt.2 (by omega)
                  cases n with
                  | zero => exact False.elim h
                  | succ n =>
                    have h := ul_X12_kind_71 h
                    unfold T_X12_kind_71 at h
                    obtain ⟨_, _, ⟨_, r3, s3, hm3, _, _, _, h⟩ | ⟨c5, _⟩⟩ := h
                    · rw [w3] at hm3
                      obtain ⟨e3, k3⟩ := fkM w4 hm3 B1
                      rw [e3, w3] at h
                      rcases h with ⟨c5, h⟩ | ⟨c5, r4, s4, hm4, _, _, _, h⟩
                      · refine no (f100 h) (fun z => ?_)
                        rcases k3 with k | k
                        · exact absurd k.1 (by omega)
                        · exact z.2.2.1 k.2
                      · have nK : ¬ ltq g N (nxq g N q) ∈ K := by rcases k3 with k | k; exact k.2; exact absurd k.1 c5
                        obtain ⟨e4, k4⟩ := fmM w4 hm4 B1
                        rw [e4] at h
                        rcases h with ⟨c6, h⟩ | ⟨c6, h⟩
                        · have nM : ¬ ltq g N (nxq g N q) ∈ M := by
                            rcases k4 with k | ⟨j, k, _⟩
                            · exact k.2
                            · exact absurd k (by omega)
                          clear k4 k3 k2 no
                          have un : KdP g N K M q = (nmK (tkq g N) (nxq g N) (nvq g N) 262 1 500 (nxq g N (nxq g N q))).bind fun a => (nmK (tkq g N) (nxq g N) (nvq g N) 263 0 1000 a).bind fun b => (nmK (tkq g N) (nxq g N) (nvq g N) 264 0 200 b).bind fun c => (if tkq g N c = 265 then mkF (tkq g N) (nxq g N) (ltq g N) (K ++ [ltq g N (nxq g N q)]) 1001 M [] c else some ((M, []), c)).bind fun m => some ((m.1.1, m.1.2, (nvq g N (nxq g N (nxq g N (nxq g N q))), nvq g N (nxq g N a), nvq g N (nxq g N b))), m.2) := by
                            show kdP _ _ _ _ _ _ _ _ = _
                            unfold kdP
                            rw [if_pos ⟨l10, e58, nK, nM⟩]
                          have bad : ¬ t 0 8 = 0 → KdP g N K M q = none → KdR g N K M C W O E q t := fun z e => Or.inl ⟨z, fun x hx => by rw [e] at hx; cases hx⟩
                          cases n with
                          | zero => exact False.elim h
                          | succ n =>
                            have h := ul_X12_kind_109 h
                            unfold T_X12_kind_109 at h
                            obtain ⟨_, _, ⟨_, s5, hl, hf, _, h⟩ | ⟨c7, _⟩⟩ := h
                            · rw [w3] at h
                              rcases lookX hN hg (j1.mw (by omega)) hl hf with ⟨i1, i2⟩ | i1
                              · exact bad (f125 h i1) (by rw [un, nm_bad (by decide) i2]; rfl)
                              · have B5 := B1.fr hf (by decide)
                                have A5 := A1.fr hf (by decide)
                                clear hl hf
                                cases n with
                                | zero => exact False.elim h
                                | succ n =>
                                  have h := ul_X12_kind_125 h
                                  unfold T_X12_kind_125 at h
                                  obtain ⟨_, _, ⟨_, s6, hm6, hf6, _, h⟩ | ⟨c7, _⟩⟩ := h
                                  · have B6 := B5.fr hf6 (by decide)
                                    have A6 := A5.fr hf6 (by decide)
                                    rw [nmK_nu] at un
                                    rcases mustWordM (i := 1) hN hg (by decide) (by decide) hm6 i1 with ⟨y1, y2⟩ | ⟨q6, y2, y1⟩
                                    · refine bad (f139 h y1) ?_
                                      rw [un]
                                      cases e : psK (tkq g N) (nxq g N) 262 (nxq g N (nxq g N q)) with
                                      | none => rfl
                                      | some z =>
                                        have z7 : tkq g N z = 257 := y2 z e
                                        rw [Option.bind_some, bad_nu z7]
                                        rfl
                                    · have y3 : psK (tkq g N) (nxq g N) 262 (nxq g N (nxq g N q)) = some q6 := y2
                                      have eq6 : q6 = nxq g N (nxq g N (nxq g N q)) := by
                                        unfold psK at y3
                                        split at y3
                                        · exact (Option.some.inj y3).symm
                                        · cases y3
                                      rw [y3, Option.bind_some] at un
                                      cases n with
                                      | zero => exact False.elim h
                                      | succ n =>
                                        have h := ul_X12_kind_139 h
                                        unfold T_X12_kind_139 at h
                                        obtain ⟨_, _, ⟨_, r7, s7, hm7, hf7, _, h⟩ | ⟨c7, _⟩⟩ := h
                                        · have B7 := B6.fr hf7 (by decide)
                                          have A7 := A6.fr hf7 (by decide)
                                          rcases numberM (lo := 1) (hi := 500) hN hg hm7 y1 with ⟨x1, x2⟩ | ⟨x2, x1, x3⟩
                                          · refine bad (f158 h x1) ?_
                                            rw [un]
                                            cases e : nuK (tkq g N) (nxq g N) (nvq g N) 1 500 q6 with
                                            | none => rfl
                                            | some z =>
                                              have z7 : tkq g N z = 257 := x2 z e
                                              rw [Option.bind_some, nm_bad (by decide) z7]
                                              rfl
                                          · rw [x2, Option.bind_some, nmK_nu] at un
                                            rw [x3] at h
                                            cases n with
                                            | zero => exact False.elim h
                                            | succ n =>
                                              have h := ul_X12_kind_158 h
                                              unfold T_X12_kind_158 at h
                                              obtain ⟨_, _, ⟨_, s8, hm8, hf8, _, h⟩ | ⟨c7, _⟩⟩ := h
                                              · have B8 := B7.fr hf8 (by decide)
                                                have A8 := A7.fr hf8 (by decide)
                                                rcases mustWordM (i := 2) hN hg (by decide) (by decide) hm8 x1 with ⟨v1, v2⟩ | ⟨q8, v2, v1⟩
                                                · refine bad (f174 h v1) ?_
                                                  rw [un]
                                                  cases e : psK (tkq g N) (nxq g N) 263 (nxq g N q6) with
                                                  | none => rfl
                                                  | some z =>
                                                    have z7 : tkq g N z = 257 := v2 z e
                                                    rw [Option.bind_some, bad_nu z7]
                                                    rfl
                                                · have v3 : psK (tkq g N) (nxq g N) 263 (nxq g N q6) = some q8 := v2
                                                  have eq8 : q8 = nxq g N (nxq g N q6) := by
                                                    unfold psK at v3
                                                    split at v3
                                                    · exact (Option.some.inj v3).symm
                                                    · cases v3
                                                  rw [v3, Option.bind_some] at un
                                                  cases n with
                                                  | zero => exact False.elim h
                                                  | succ n =>
                                                    have h := ul_X12_kind_174 h
                                                    unfold T_X12_kind_174 at h
                                                    obtain ⟨_, _, ⟨_, r9, s9, hm9, hf9, _, h⟩ | ⟨c7, _⟩⟩ := h
                                                    · have B9 := B8.fr hf9 (by decide)
                                                      have A9 := A8.fr hf9 (by decide)
                                                      rcases numberM (lo := 0) (hi := 1000) hN hg hm9 v1 with ⟨p1, p2⟩ | ⟨p2, p1, p3⟩
                                                      · refine bad (f193 h p1) ?_
                                                        rw [un]
                                                        cases e : nuK (tkq g N) (nxq g N) (nvq g N) 0 1000 q8 with
                                                        | none => rfl
                                                        | some z =>
                                                          have z7 : tkq g N z = 257 := p2 z e
                                                          rw [Option.bind_some, nm_bad (by decide) z7]
                                                          rfl
                                                      · rw [p2, Option.bind_some, nmK_nu] at un
                                                        rw [p3] at h
                                                        cases n with
                                                        | zero => exact False.elim h
                                                        | succ n =>
                                                          have h := ul_X12_kind_193 h
                                                          unfold T_X12_kind_193 at h
                                                          obtain ⟨_, _, ⟨_, s10, hm10, hf10, _, h⟩ | ⟨c7, _⟩⟩ := h
                                                          · have B10 := B9.fr hf10 (by decide)
                                                            have A10 := A9.fr hf10 (by decide)
                                                            rcases mustWordM (i := 3) hN hg (by decide) (by decide) hm10 p1 with ⟨u1, u2⟩ | ⟨q10, u2, u1⟩
                                                            · refine bad (f209 h u1) ?_
                                                              rw [un]
                                                              cases e : psK (tkq g N) (nxq g N) 264 (nxq g N q8) with
                                                              | none => rfl
                                                              | some z =>
                                                                have z7 : tkq g N z = 257 := u2 z e
                                                                rw [Option.bind_some, bad_nu z7]
                                                                rfl
                                                            · have u3 : psK (tkq g N) (nxq g N) 264 (nxq g N q8) = some q10 := u2
                                                              have eq10 : q10 = nxq g N (nxq g N q8) := by
                                                                unfold psK at u3
                                                                split at u3
                                                                · exact (Option.some.inj u3).symm
                                                                · cases u3
                                                              rw [u3, Option.bind_some] at un
                                                              cases n with
                                                              | zero => exact False.elim h
                                                              | succ n =>
                                                                have h := ul_X12_kind_209 h
                                                                unfold T_X12_kind_209 at h
                                                                obtain ⟨_, _, ⟨_, r11, s11, hm11, hf11, _, h⟩ | ⟨c7, _⟩⟩ := h
                                                                · have B11 := B10.fr hf11 (by decide)
                                                                  have A11 := A10.fr hf11 (by decide)
                                                                  rcases numberM (lo := 0) (hi := 200) hN hg hm11 u1 with ⟨d1, d2⟩ | ⟨d2, d1, d3⟩
                                                                  · refine Or.inl ⟨f228 h d1, fun x hx => ?_⟩
                                                                    rw [un] at hx
                                                                    cases e : nuK (tkq g N) (nxq g N) (nvq g N) 0 200 q10 with
                                                                    | none =>
                                                                      rw [e] at hx
                                                                      cases hx
                                                                    | some z =>
                                                                      have z7 : tkq g N z = 257 := d2 z e
                                                                      rw [e, Option.bind_some, if_neg (by omega), Option.bind_some] at hx
                                                                      rw [← Option.some.inj hx]
                                                                      exact z7
                                                                  · rw [d2, Option.bind_some] at un
                                                                    rw [d3] at h
                                                                    rw [← eq6, ← eq8, ← eq10] at un
                                                                    cases n with
                                                                    | zero => exact False.elim h
                                                                    | succ n =>
                                                                      have h := ul_X12_kind_228 h
                                                                      unfold T_X12_kind_228 at h
                                                                      obtain ⟨_, _, ⟨_, r12, s12, hm12, _, _, _, h⟩ | ⟨c7, _⟩⟩ := h
                                                                      · obtain ⟨e12, k12⟩ := isWordM (i := 4) hg (by decide) (by decide) hm12 d1
                                                                        rw [e12] at h
                                                                        rcases h with ⟨c8, h⟩ | ⟨c8, h⟩
                                                                        · have n65 : ¬ tkq g N (nxq g N q10) = 265 := by rcases k12 with k | k; exact absurd k.1 (by omega); exact k.2
                                                                          rw [if_neg n65, Option.bind_some] at un
                                                                          cases n with
                                                                          | zero => exact False.elim h
                                                                          | succ n =>
                                                                            have h := ul_X12_kind_254 h
                                                                            unfold T_X12_kind_254 at h
                                                                            obtain ⟨_, _, _, h⟩ := h
                                                                            cases n with
                                                                            | zero => exact False.elim h
                                                                            | succ n =>
                                                                              have h := ul_X12_kind_255 h
                                                                              unfold T_X12_kind_255 at h
                                                                              obtain ⟨_, _, _, _, h⟩ := h
                                                                              exact Or.inr ⟨_, un, kindW h d1 B11 A11 w4 BiM.nil (fun x hx => absurd hx List.not_mem_nil) lC lW⟩
                                                                        · have y65 : tkq g N (nxq g N q10) = 265 := by rcases k12 with k | k; exact k.2; exact absurd k.1 c8
                                                                          rw [if_pos y65] at un
                                                                          cases n with
                                                                          | zero => exact False.elim h
                                                                          | succ n =>
                                                                            have h := ul_X12_kind_255 h
                                                                            unfold T_X12_kind_255 at h
                                                                            obtain ⟨_, _, _, _, h⟩ := h
                                                                            rcases marksM hN hg w4 lC lW n 1001 _ _ _ _ _ _ _ h d1 B11 A11 BiM.nil (fun x hx => absurd hx List.not_mem_nil) (by omega) (by omega) with ⟨m1, m2⟩ | ⟨x, m1, m2⟩
                                                                            · refine Or.inl ⟨m1, fun x hx => ?_⟩
                                                                              rw [un] at hx
                                                                              cases e : mkF (tkq g N) (nxq g N) (ltq g N) (K ++ [ltq g N (nxq g N q)]) 1001 M [] (nxq g N q10) with
                                                                              | none =>
                                                                                rw [e] at hx
                                                                                cases hx
                                                                              | some z =>
                                                                                have z7 := m2 z e
                                                                                rw [e, Option.bind_some] at hx
                                                                                rw [← Option.some.inj hx]
                                                                                exact z7
                                                                            · rw [m1, Option.bind_some] at un
                                                                              exact Or.inr ⟨_, un, m2⟩
                                                                      · exact absurd d1.2.2.1 c7
                                                                · exact absurd u1.2.2.1 c7
                                                          · exact absurd p1.2.2.1 c7
                                                    · exact absurd v1.2.2.1 c7
                                              · exact absurd x1.2.2.1 c7
                                        · exact absurd y1.2.2.1 c7
                                  · exact absurd i1.2.2.1 c7
                            · exact absurd j1.2.2.1 c7
                        · refine no (f100 h) (fun z => ?_)
                          rcases k4 with k | ⟨j, _, _, k⟩
                          · exact absurd k.1 (by omega)
                          · exact z.2.2.2 (List.mem_of_getElem? k)
                    · exact absurd j1.2.2.1 c5
                · refine no (f62 h) (fun z => ?_)
                  rcases k2 with k | k
                  · exact k.2 z.2.1
                  · exact c4 k.1
              · refine no (f62 h) (fun z => ?_)
                have z1 := z.2.1
                rcases j1.sg.2.2.2 with ⟨k, _⟩ | ⟨_, _, k, _⟩ | ⟨k, _⟩ | ⟨k, _⟩
                · omega
                · exact c3 k
                · omega
                · omega
            · exact absurd j1.2.2.1 c2
      · exact absurd hM.2.2.1 c2
end KindM2
