/-! the reference's frames as code that is still to be written -/
def ntR (k : Nat) : List OPc := List.replicate k opN
theorem ntR_s (k : Nat) : ntR (k + 1) = ntR k ++ [opN] := by
  unfold ntR
  exact List.replicate_succ'
section Mch
variable (T N : Nat → Nat) (F : Nat) (V : Nat → Nat) (Lw : Nat → List Nat) (kn : Nat → Bool) (K M : List (List Nat))
def aE (k : Nat) : Nat → Nat → List OPc := if k = 1 ∨ k = 4 then atE T N F V Lw else awE T Lw K M
def sgR (k d : Nat) : Nat → List OPc := sgE T N F ntR (atK T N F kn k) (aE T N F V Lw K M k) d
/-- behind a sum's part (two: behind a whole test or which); ws: what waits, by frames -/
def cdA : List (Nat × Nat) → List (List OPc) → Bool → Nat → List OPc
  | (k, f) :: fs, w :: ws, two, q =>
    if k = 0 then tw 5 w ++ lpT T N F tkP (parD T N F (8 - fs.length)) (prE T N F V (8 - fs.length)) opP (fun _ => dw 5 w) q
    else if k = 3 then tw 5 w ++ lpT T N F tkP (parD T N F (8 - fs.length)) (prE T N F V (8 - fs.length)) opP (fun r => dw 5 w ++ ctn (psK T N 41 r) (cdA fs ws false)) q
    else if two = true ∨ f = 2 then flT T N (sngD T N F (atK T N F kn k) (8 - fs.length)) (sgR T N F V Lw kn K M k (8 - fs.length)) (fun r2 => if k < 3 then [] else ctn (psK T N 93 r2) (cdA fs ws true)) F w q
    else if f = 1 then tw 5 w ++ lpT T N F tkP (parD T N F (8 - fs.length)) (prE T N F V (8 - fs.length)) opP (flT T N (sngD T N F (atK T N F kn k) (8 - fs.length)) (sgR T N F V Lw kn K M k (8 - fs.length)) (fun r2 => if k < 3 then [] else ctn (psK T N 93 r2) (cdA fs ws true)) F (dw 5 w)) q
    else tw 5 w ++ lpT T N F tkP (parD T N F (8 - fs.length)) (prE T N F V (8 - fs.length)) opP (fun r => smE T N F V (8 - fs.length) (N r) ++ ctn (cmK T N F (8 - fs.length) r) (flT T N (sngD T N F (atK T N F kn k) (8 - fs.length)) (sgR T N F V Lw kn K M k (8 - fs.length)) (fun r2 => if k < 3 then [] else ctn (psK T N 93 r2) (cdA fs ws true)) F (opC (T r) :: dw 5 w))) q
  | [], _, _, _ => []
  | _ :: _, [], _, _ => []
def cdE (k : Nat) (w : List OPc) (fs : List (Nat × Nat)) (ws : List (List OPc)) : Nat → List OPc := flT T N (sngD T N F (atK T N F kn k) (8 - fs.length)) (sgR T N F V Lw kn K M k (8 - fs.length)) (fun r2 => if k < 3 then [] else ctn (psK T N 93 r2) (cdA T N F V Lw kn K M fs ws true)) F w
/-- ahead of a part (b: ahead of a whole test or which) -/
def cdB (k f : Nat) (w : List OPc) (fs : List (Nat × Nat)) (ws : List (List OPc)) (b : Bool) (q : Nat) : List OPc := if k = 0 ∨ k = 3 ∨ b = false then prE T N F V (8 - fs.length) q ++ ctn (parD T N F (8 - fs.length) q) (cdA T N F V Lw kn K M ((k, f) :: fs) (w :: ws) false) else sgR T N F V Lw kn K M k (8 - fs.length) q ++ ctn (sngD T N F (atK T N F kn k) (8 - fs.length) q) (cdE T N F V Lw kn K M k w fs ws)
end Mch
section MchR
variable {T N : Nat → Nat} {F : Nat} {V : Nat → Nat} {Lw : Nat → List Nat} {kn : Nat → Bool} {K M : List (List Nat)} {n k f q d : Nat} {fs : List (Nat × Nat)} {w : List OPc} {ws : List (List OPc)}
abbrev lpQ (T N : Nat → Nat) (F : Nat) (V : Nat → Nat) (d : Nat) (R : Nat → List OPc) (q : Nat) : List OPc := lpT T N F tkP (parD T N F d) (prE T N F V d) opP R q
theorem cdA_0 {two : Bool} : cdA T N F V Lw kn K M ((0, f) :: fs) (w :: ws) two q = tw 5 w ++ lpQ T N F V (8 - fs.length) (fun _ => dw 5 w) q := by
  unfold cdA
  rw [if_pos rfl]
theorem cdA_3 {two : Bool} : cdA T N F V Lw kn K M ((3, f) :: fs) (w :: ws) two q = tw 5 w ++ lpQ T N F V (8 - fs.length) (fun r => dw 5 w ++ ctn (psK T N 41 r) (cdA T N F V Lw kn K M fs ws false)) q := by
  conv => lhs; unfold cdA
  rw [if_neg (by decide), if_pos rfl]
theorem cdA_t (h0 : ¬ k = 0) (h3 : ¬ k = 3) : cdA T N F V Lw kn K M ((k, f) :: fs) (w :: ws) true q = cdE T N F V Lw kn K M k w fs ws q := by
  conv => lhs; unfold cdA
  rw [if_neg h0, if_neg h3, if_pos (Or.inl rfl)]
  rfl
theorem cdA_2 (h0 : ¬ k = 0) (h3 : ¬ k = 3) {two : Bool} : cdA T N F V Lw kn K M ((k, 2) :: fs) (w :: ws) two q = cdE T N F V Lw kn K M k w fs ws q := by
  conv => lhs; unfold cdA
  rw [if_neg h0, if_neg h3, if_pos (Or.inr rfl)]
  rfl
theorem cdA_1 (h0 : ¬ k = 0) (h3 : ¬ k = 3) : cdA T N F V Lw kn K M ((k, 1) :: fs) (w :: ws) false q = tw 5 w ++ lpQ T N F V (8 - fs.length) (cdE T N F V Lw kn K M k (dw 5 w) fs ws) q := by
  conv => lhs; unfold cdA
  rw [if_neg h0, if_neg h3, if_neg (by decide), if_pos rfl]
  rfl
theorem cdA_z (h0 : ¬ k = 0) (h3 : ¬ k = 3) : cdA T N F V Lw kn K M ((k, 0) :: fs) (w :: ws) false q = tw 5 w ++ lpQ T N F V (8 - fs.length) (fun r => smE T N F V (8 - fs.length) (N r) ++ ctn (cmK T N F (8 - fs.length) r) (cdE T N F V Lw kn K M k (opC (T r) :: dw 5 w) fs ws)) q := by
  conv => lhs; unfold cdA
  rw [if_neg h0, if_neg h3, if_neg (by decide), if_neg (by decide)]
  rfl
theorem cdB_s {b : Bool} (hb : k = 0 ∨ k = 3 ∨ b = false) : cdB T N F V Lw kn K M k f w fs ws b q = prE T N F V (8 - fs.length) q ++ ctn (parD T N F (8 - fs.length) q) (cdA T N F V Lw kn K M ((k, f) :: fs) (w :: ws) false) := if_pos hb
theorem cdB_t (h0 : ¬ k = 0) (h3 : ¬ k = 3) : cdB T N F V Lw kn K M k f w fs ws true q = sgR T N F V Lw kn K M k (8 - fs.length) q ++ ctn (sngD T N F (atK T N F kn k) (8 - fs.length) q) (cdE T N F V Lw kn K M k w fs ws) := by
  unfold cdB
  rw [if_neg (by
    intro z
    rcases z with z | z | z
    · exact h0 z
    · exact h3 z
    · exact absurd z (by decide))]
theorem cdE_push {o : OPc} (ho : 2 ≤ rnO o) (r : Nat) : cdE T N F V Lw kn K M k (o :: w) fs ws r = o :: cdE T N F V Lw kn K M k w fs ws r := by
  unfold cdE
  cases F with
  | zero => rfl
  | succ j =>
    show (if tkA (T r) = true then tw 2 (o :: w) ++ (_ ++ ctn _ (flT T N _ _ _ j (opA 0 :: dw 2 (o :: w)))) else if tkO (T r) = true then (o :: w) ++ _ else (o :: w) ++ _) = o :: (if tkA (T r) = true then tw 2 w ++ (_ ++ ctn _ (flT T N _ _ _ j (opA 0 :: dw 2 w))) else if tkO (T r) = true then w ++ _ else w ++ _)
    rw [(tw_push ho w).1, (tw_push ho w).2]
    split
    · rfl
    · split <;> rfl
theorem aE_eq {k2 : Nat} (h : (k = 1 ∨ k = 4) ↔ (k2 = 1 ∨ k2 = 4)) : aE T N F V Lw K M k = aE T N F V Lw K M k2 := by
  unfold aE
  by_cases q : k = 1 ∨ k = 4
  · rw [if_pos q, if_pos (h.mp q)]
  · rw [if_neg q, if_neg (fun z => q (h.mpr z))]
theorem sgR_eq {k2 : Nat} (h : (k = 1 ∨ k = 4) ↔ (k2 = 1 ∨ k2 = 4)) : sgR T N F V Lw kn K M k d = sgR T N F V Lw kn K M k2 d := by
  unfold sgR
  rw [aE_eq h, atK_eq h]
/-! steps ahead of a part -/
theorem E_not (hN : NGr T N n) (hn : n < F) (h : q ≤ n) (h0 : ¬ k = 0) (h3 : ¬ k = 3) (c : T q = 274) (ok : ¬ conB T N F kn k f fs true q = none) : cdB T N F V Lw kn K M k f w fs ws true q = cdB T N F V Lw kn K M k f (opN :: w) fs ws true (N q) := by
  rw [cdB_t h0 h3, cdB_t h0 h3]
  rw [conB_t h0 h3] at ok
  have e := sngD_go (atK T N F kn k) (8 - fs.length) hN hn h c
  rw [e] at ok ⊢
  cases e2 : sngD T N F (atK T N F kn k) (8 - fs.length) (N q) with
  | none =>
    rw [e2] at ok
    exact absurd rfl ok
  | some r =>
    show sgR T N F V Lw kn K M k (8 - fs.length) q ++ cdE T N F V Lw kn K M k w fs ws r = sgR T N F V Lw kn K M k (8 - fs.length) (N q) ++ cdE T N F V Lw kn K M k (opN :: w) fs ws r
    rw [cdE_push (by decide)]
    unfold sgR
    rw [sgE_eq]
    show (coE T N F _ _ q ++ ntR (nts T N F q)) ++ _ = (coE T N F _ _ (N q) ++ ntR (nts T N F (N q))) ++ _
    rw [coE_go hN hn h c, nts_go hN hn h c, ntR_s, List.append_assoc, List.append_assoc, List.append_assoc]
    rfl
theorem sgR_sq (d : Nat) (c : T q = 91) : sgR T N F V Lw kn K M k (d + 1) q = etE T N F ntR (atK T N F kn k) (aE T N F V Lw K M k) d (N q) := by
  unfold sgR
  rw [sgE_eq]
  show coE T N F (inE T N F ntR (atK T N F kn k) (aE T N F V Lw K M k) (d + 1)) _ q ++ ntR (nts T N F q) = _
  rw [coE_b c, nts_no (by omega)]
  exact List.append_nil _
theorem E_sq {k2 : Nat} (hN : NGr T N n) (hn : n < F) (h : q ≤ n) (h0 : ¬ k = 0) (h3 : ¬ k = 3) (hk : (k = 1 ∨ k = 4) ↔ (k2 = 1 ∨ k2 = 4)) (hk2 : k2 = 4 ∨ k2 = 5) (hl : fs.length < 8) (c : T q = 91) : cdB T N F V Lw kn K M k f w fs ws true q = cdB T N F V Lw kn K M k2 0 [] ((k, f) :: fs) (w :: ws) true (N q) := by
  obtain ⟨d, hd⟩ : ∃ d, 8 - fs.length = d + 1 := ⟨7 - fs.length, by omega⟩
  have hd2 : 8 - ((k, f) :: fs).length = d := by
    rw [List.length_cons]
    omega
  have g := hN q h (by omega)
  rw [cdB_t h0 h3, cdB_t (by omega) (by omega), hd, hd2, sgR_sq d c, sngD_b _ _ c, ctn_bind, etE_eq, eitD_eq]
  have t := etT (T := T) (N := N) (F := F) (S := sngD T N F (atK T N F kn k) d) (SE := sgE T N F ntR (atK T N F kn k) (aE T N F V Lw K M k) d) (R := fun r => ctn (psK T N 93 r) (cdE T N F V Lw kn K M k w fs ws)) hN (sngD_pg hN (fun d => atK_pg hN k d) d) hn g.2
  rw [t, ← sgR_eq hk, ← atK_eq (T := T) (N := N) (kn := kn) hk]
  unfold cdE
  rw [hd2, ← sgR_eq hk, ← atK_eq (T := T) (N := N) (kn := kn) hk]
  have e : (fun r2 => if k2 < 3 then [] else ctn (psK T N 93 r2) (cdA T N F V Lw kn K M ((k, f) :: fs) (w :: ws) true)) = (fun r => ctn (psK T N 93 r) (cdE T N F V Lw kn K M k w fs ws)) := by
    funext r
    rw [if_neg (by omega)]
    congr 1
    funext r3
    exact cdA_t h0 h3
  rw [e]
  rfl
theorem E_at (h0 : ¬ k = 0) (h3 : ¬ k = 3) (h1 : ¬ T q = 274) (h2 : ¬ T q = 91) : cdB T N F V Lw kn K M k f w fs ws true q = aE T N F V Lw K M k (8 - fs.length) q ++ ctn (atK T N F kn k (8 - fs.length) q) (cdE T N F V Lw kn K M k w fs ws) := by
  rw [cdB_t h0 h3, sngD_no _ _ h1 h2]
  unfold sgR
  rw [sgE_eq]
  show (coE T N F _ _ q ++ ntR (nts T N F q)) ++ _ = _
  rw [coE_n h1 h2, nts_no h1]
  show (_ ++ []) ++ _ = _
  rw [List.append_nil]
/-- what waits ahead of a whole test ranks low -/
def lowW (w : List OPc) : Prop := tw 4 w = [] ∧ dw 4 w = w
theorem lowW.five (h : lowW w) : tw 5 w = [] ∧ dw 5 w = w := by
  cases w with
  | nil => exact ⟨rfl, rfl⟩
  | cons o w =>
    have c : ¬ 4 ≤ rnO o := by
      intro c
      have z := h.1
      rw [(tw_push c w).1] at z
      cases z
    exact tw_stop (by omega) w
theorem E_ts (hk : k = 1 ∨ k = 4) (h1 : ¬ T q = 274) (h2 : ¬ T q = 91) (h4 : ¬ T q = 276) (h5 : ¬ T q = 277) (hw : lowW w) (ok : ¬ conB T N F kn k 0 fs true q = none) : cdB T N F V Lw kn K M k 0 w fs ws true q = cdB T N F V Lw kn K M k 0 w fs ws false q := by
  rw [E_at (by omega) (by omega) h1 h2, cdB_s (Or.inr (Or.inr rfl))]
  rw [P_at (by omega) (by omega) h1 h2] at ok
  have z5 := hw.five
  have e1 : aE T N F V Lw K M k (8 - fs.length) q = smE T N F V (8 - fs.length) q ++ ctn (sumD T N F (8 - fs.length) q) (fun r => smE T N F V (8 - fs.length) (N r) ++ [opC (T r)]) := by
    unfold aE atE
    rw [if_pos hk, if_neg h4, if_neg h5]
  have e2 : atK T N F kn k (8 - fs.length) q = (sumD T N F (8 - fs.length) q).bind (cmK T N F (8 - fs.length)) := by
    unfold atK atT
    rw [if_pos hk, if_neg h4, if_neg h5]
  have e3 : cdA T N F V Lw kn K M ((k, 0) :: fs) (w :: ws) false = lpQ T N F V (8 - fs.length) (fun r => smE T N F V (8 - fs.length) (N r) ++ ctn (cmK T N F (8 - fs.length) r) (cdE T N F V Lw kn K M k (opC (T r) :: w) fs ws)) := by
    funext r
    rw [cdA_z (by omega) (by omega), z5.1, z5.2]
    rfl
  have e4 := smT (T := T) (N := N) (F := F) V (fun r => smE T N F V (8 - fs.length) (N r) ++ ctn (cmK T N F (8 - fs.length) r) (cdE T N F V Lw kn K M k (opC (T r) :: w) fs ws)) (8 - fs.length) q
  rw [e3, ← e4, e1, e2, seqT]
  rw [e2] at ok
  cases e5 : sumD T N F (8 - fs.length) q with
  | none =>
    rw [e5] at ok
    exact absurd rfl ok
  | some r =>
    rw [e5] at ok
    have ok2 : ¬ (cmK T N F (8 - fs.length) r).bind (conE T N F kn k fs) = none := ok
    cases e6 : cmK T N F (8 - fs.length) r with
    | none =>
      rw [e6] at ok2
      exact absurd rfl ok2
    | some r2 =>
      show _ ++ ((smE T N F V (8 - fs.length) (N r) ++ [opC (T r)]) ++ ctn (cmK T N F (8 - fs.length) r) (cdE T N F V Lw kn K M k w fs ws)) = _ ++ (smE T N F V (8 - fs.length) (N r) ++ ctn (cmK T N F (8 - fs.length) r) (cdE T N F V Lw kn K M k (opC (T r) :: w) fs ws))
      rw [e6]
      show _ ++ ((smE T N F V (8 - fs.length) (N r) ++ [opC (T r)]) ++ cdE T N F V Lw kn K M k w fs ws r2) = _ ++ (smE T N F V (8 - fs.length) (N r) ++ cdE T N F V Lw kn K M k (opC (T r) :: w) fs ws r2)
      rw [cdE_push (by rw [rk_C]; decide), List.append_assoc]
      rfl
theorem E_rd (hl : fs.length < 8) (c : T q = 40) {b b2 : Bool} (hb : k = 0 ∨ k = 3 ∨ b = false) : cdB T N F V Lw kn K M k f w fs ws b q = cdB T N F V Lw kn K M 3 0 [] ((k, f) :: fs) (w :: ws) b2 (N q) := by
  obtain ⟨d, hd⟩ : ∃ d, 8 - fs.length = d + 1 := ⟨7 - fs.length, by omega⟩
  have hd2 : 8 - ((k, f) :: fs).length = d := by
    rw [List.length_cons]
    omega
  rw [cdB_s hb, cdB_s (Or.inr (Or.inl rfl)), hd, hd2, prE_b _ c, parD_b _ c, ctn_bind]
  have e4 := smT (T := T) (N := N) (F := F) V (fun r => ctn (psK T N 41 r) (cdA T N F V Lw kn K M ((k, f) :: fs) (w :: ws) false)) d (N q)
  rw [e4]
  congr 1
  have e3 : cdA T N F V Lw kn K M ((3, 0) :: (k, f) :: fs) ([] :: w :: ws) false = lpQ T N F V d (fun r => ctn (psK T N 41 r) (cdA T N F V Lw kn K M ((k, f) :: fs) (w :: ws) false)) := by
    funext r
    rw [cdA_3, hd2]
    rfl
  rw [e3]
theorem E_nf (c : ¬ T q = 40) (h : T q = 259 ∨ (278 ≤ T q ∧ T q ≤ 282)) {b : Bool} (hb : k = 0 ∨ k = 3 ∨ b = false) : cdB T N F V Lw kn K M k f w fs ws b q = (if T q = 259 then (0, (V q : Int), []) else (T q - 277, 0, [])) :: cdA T N F V Lw kn K M ((k, f) :: fs) (w :: ws) false (N q) := by
  rw [cdB_s hb, parD_l c, if_pos h, prE_l c]
  show (if T q = 259 then _ else _) ++ cdA T N F V Lw kn K M ((k, f) :: fs) (w :: ws) false (N q) = _
  split <;> rfl
/-! steps behind a part -/
theorem E_pm (hN : NGr T N n) (hn : n < F) (h : q ≤ n) (hs : k = 0 ∨ k = 3 ∨ ¬ f = 2) (hf : f ≤ 2) (c : tkP (T q) = true) : cdA T N F V Lw kn K M ((k, f) :: fs) (w :: ws) false q = tw 5 w ++ cdB T N F V Lw kn K M k f (opP (T q) :: dw 5 w) fs ws false (N q) := by
  rw [cdB_s (Or.inr (Or.inr rfl))]
  have go : ∀ R : Nat → List OPc, lpQ T N F V (8 - fs.length) R q = prE T N F V (8 - fs.length) (N q) ++ ctn (parD T N F (8 - fs.length) (N q)) (fun r => opP (T q) :: lpQ T N F V (8 - fs.length) R r) := fun R => lpT_go R hN (by decide) (parD_pg (F := F) hN (8 - fs.length)) hn h c
  have t5 := tw_push (m := 5) (o := opP (T q)) (by rw [rk_P]; decide) (dw 5 w)
  have d5 := tw_self 5 w
  rw [d5.1, d5.2] at t5
  by_cases h0 : k = 0
  · subst h0
    rw [cdA_0, go]
    congr 3
    funext r
    rw [cdA_0, t5.1, t5.2]
    rfl
  · by_cases h3 : k = 3
    · subst h3
      rw [cdA_3, go]
      congr 3
      funext r
      rw [cdA_3, t5.1, t5.2]
      rfl
    · have h2 : f = 0 ∨ f = 1 := by omega
      rcases h2 with rfl | rfl
      · rw [cdA_z h0 h3, go]
        congr 3
        funext r
        rw [cdA_z h0 h3, t5.1, t5.2]
        rfl
      · rw [cdA_1 h0 h3, go]
        congr 3
        funext r
        rw [cdA_1 h0 h3, t5.1, t5.2]
        rfl
theorem E_cm (h0 : ¬ k = 0) (h3 : ¬ k = 3) (c : T q = 60 ∨ T q = 62 ∨ T q = 61) : cdA T N F V Lw kn K M ((k, 0) :: fs) (w :: ws) false q = tw 5 w ++ cdB T N F V Lw kn K M k 1 (opC (T q) :: dw 5 w) fs ws false (N q) := by
  have np : ¬ tkP (T q) = true := by
    rcases c with c | c | c <;> rw [c] <;> decide
  have t5 := tw_stop (m := 5) (o := opC (T q)) (by rw [rk_C]; decide) (dw 5 w)
  rw [cdA_z h0 h3, cdB_s (Or.inr (Or.inr rfl))]
  congr 1
  have e1 := lpT_no (T := T) (N := N) (F := F) (ok := tkP) (P := parD T N F (8 - fs.length)) (E := prE T N F V (8 - fs.length)) (op := opP) (fun r => smE T N F V (8 - fs.length) (N r) ++ ctn (cmK T N F (8 - fs.length) r) (cdE T N F V Lw kn K M k (opC (T r) :: dw 5 w) fs ws)) np
  rw [show lpQ T N F V (8 - fs.length) (fun r => smE T N F V (8 - fs.length) (N r) ++ ctn (cmK T N F (8 - fs.length) r) (cdE T N F V Lw kn K M k (opC (T r) :: dw 5 w) fs ws)) q = _ from e1]
  have e2 : cmK T N F (8 - fs.length) q = sumD T N F (8 - fs.length) (N q) := if_pos c
  show smE T N F V (8 - fs.length) (N q) ++ ctn (cmK T N F (8 - fs.length) q) (cdE T N F V Lw kn K M k (opC (T q) :: dw 5 w) fs ws) = _
  rw [e2, smT]
  congr 2
  funext r
  rw [cdA_1 h0 h3, t5.1, t5.2]
  rfl
/-- a whole test or which ends here -/
theorem E_wh (h0 : ¬ k = 0) (h3 : ¬ k = 3) (hf : f = 1 ∨ f = 2) (np : f = 1 → ¬ tkP (T q) = true) : ∃ w2, tw 2 w ++ tw 2 w2 = tw 2 w ∧ True ∧ (cdA T N F V Lw kn K M ((k, f) :: fs) (w :: ws) false q = if f = 2 then cdE T N F V Lw kn K M k w fs ws q else tw 5 w ++ cdE T N F V Lw kn K M k (dw 5 w) fs ws q) := by
  refine ⟨[], List.append_nil _, True.intro, ?_⟩
  rcases hf with rfl | rfl
  · rw [if_neg (by decide), cdA_1 h0 h3]
    congr 1
    exact lpT_no _ (np rfl)
  · rw [if_pos rfl]
    exact cdA_2 h0 h3
theorem cdE_A (hN : NGr T N n) (hn : n < F) (h : q ≤ n) (h0 : ¬ k = 0) (h3 : ¬ k = 3) (c : tkA (T q) = true) : cdE T N F V Lw kn K M k w fs ws q = tw 2 w ++ cdB T N F V Lw kn K M k 0 (opA 0 :: dw 2 w) fs ws true (N q) := by
  rw [cdB_t h0 h3]
  unfold cdE
  exact flT_A hN (sngD_pg hN (fun d => atK_pg hN k d) _) hn h c
theorem cdE_O (hN : NGr T N n) (hn : n < F) (h : q ≤ n) (h0 : ¬ k = 0) (h3 : ¬ k = 3) (a : ¬ tkA (T q) = true) (c : tkO (T q) = true) : cdE T N F V Lw kn K M k w fs ws q = w ++ cdB T N F V Lw kn K M k 0 [opO 0] fs ws true (N q) := by
  rw [cdB_t h0 h3]
  unfold cdE
  exact flT_O hN (sngD_pg hN (fun d => atK_pg hN k d) _) hn h a c
/-- and -/
theorem E_and (hN : NGr T N n) (hn : n < F) (h : q ≤ n) (h0 : ¬ k = 0) (h3 : ¬ k = 3) (hf : f = 1 ∨ f = 2) (c : tkA (T q) = true) : cdA T N F V Lw kn K M ((k, f) :: fs) (w :: ws) false q = tw 2 w ++ cdB T N F V Lw kn K M k 0 (opA 0 :: dw 2 w) fs ws true (N q) := by
  have np : f = 1 → ¬ tkP (T q) = true := by
    intro _ z
    have z2 := tkP_iff.mp z
    unfold tkA at c
    rw [Nat.beq_eq] at c
    omega
  obtain ⟨_, _, _, e⟩ := E_wh (V := V) (Lw := Lw) (kn := kn) (K := K) (M := M) (w := w) (ws := ws) (fs := fs) h0 h3 hf np
  rw [e]
  have l := tw_le (m := 2) (n := 5) (by decide) w
  rcases hf with rfl | rfl
  · rw [if_neg (by decide), cdE_A hN hn h h0 h3 c, ← List.append_assoc, l.1, l.2]
  · rw [if_pos rfl]
    exact cdE_A hN hn h h0 h3 c
/-- or -/
theorem E_or (hN : NGr T N n) (hn : n < F) (h : q ≤ n) (h0 : ¬ k = 0) (h3 : ¬ k = 3) (hf : f = 1 ∨ f = 2) (c : tkO (T q) = true) : cdA T N F V Lw kn K M ((k, f) :: fs) (w :: ws) false q = w ++ cdB T N F V Lw kn K M k 0 [opO 0] fs ws true (N q) := by
  have np : f = 1 → ¬ tkP (T q) = true := by
    intro _ z
    have z2 := tkP_iff.mp z
    unfold tkO at c
    rw [Nat.beq_eq] at c
    omega
  have a := tkA_nO c
  obtain ⟨_, _, _, e⟩ := E_wh (V := V) (Lw := Lw) (kn := kn) (K := K) (M := M) (w := w) (ws := ws) (fs := fs) h0 h3 hf np
  rw [e]
  have l := tw_dw 5 w
  rcases hf with rfl | rfl
  · rw [if_neg (by decide), cdE_O hN hn h h0 h3 a c, ← List.append_assoc, l]
  · rw [if_pos rfl]
    exact cdE_O hN hn h h0 h3 a c
theorem cdE_no (c : ¬ tkE (T q) = true) : cdE T N F V Lw kn K M k w fs ws q = w ++ (if k < 3 then [] else ctn (psK T N 93 q) (cdA T N F V Lw kn K M fs ws true)) := by
  have a : ¬ tkA (T q) = true := fun z => c (by unfold tkE; rw [z]; rfl)
  have b : ¬ tkO (T q) = true := fun z => c (by unfold tkE; rw [z, Bool.or_true])
  unfold cdE
  exact flT_no a b
/-- the end of all -/
theorem E_end (h0 : ¬ k = 0) (hk : k < 3) (hf : f = 1 ∨ f = 2) (np : f = 1 → ¬ tkP (T q) = true) (c : ¬ tkE (T q) = true) : cdA T N F V Lw kn K M ((k, f) :: fs) (w :: ws) false q = w := by
  obtain ⟨_, _, _, e⟩ := E_wh (V := V) (Lw := Lw) (kn := kn) (K := K) (M := M) (w := w) (ws := ws) (fs := fs) h0 (by omega) hf np
  rw [e]
  have l := tw_dw 5 w
  rcases hf with rfl | rfl
  · rw [if_neg (by decide), cdE_no c, if_pos hk, List.append_nil, l]
  · rw [if_pos rfl, cdE_no c, if_pos hk, List.append_nil]
theorem E_end0 {two : Bool} (c : ¬ tkP (T q) = true) : cdA T N F V Lw kn K M ((0, f) :: fs) (w :: ws) two q = w := by
  rw [cdA_0]
  have e := lpT_no (T := T) (N := N) (F := F) (ok := tkP) (P := parD T N F (8 - fs.length)) (E := prE T N F V (8 - fs.length)) (op := opP) (fun _ => dw 5 w) c
  rw [show lpQ T N F V (8 - fs.length) (fun _ => dw 5 w) q = _ from e]
  exact tw_dw 5 w
/-- a bracket closes -/
theorem E_cl (h3 : ¬ k = 3) (hk : ¬ k < 3) (hf : f = 1 ∨ f = 2) (np : f = 1 → ¬ tkP (T q) = true) (c : ¬ tkE (T q) = true) (c2 : T q = 93) : cdA T N F V Lw kn K M ((k, f) :: fs) (w :: ws) false q = w ++ cdA T N F V Lw kn K M fs ws true (N q) := by
  obtain ⟨_, _, _, e⟩ := E_wh (V := V) (Lw := Lw) (kn := kn) (K := K) (M := M) (w := w) (ws := ws) (fs := fs) (by omega) h3 hf np
  rw [e]
  have l := tw_dw 5 w
  have p : psK T N 93 q = some (N q) := if_pos c2
  rcases hf with rfl | rfl
  · rw [if_neg (by decide), cdE_no c, if_neg hk, p, ← List.append_assoc, l]
    rfl
  · rw [if_pos rfl, cdE_no c, if_neg hk, p]
    rfl
theorem E_cl3 {two : Bool} (c : ¬ tkP (T q) = true) (c2 : T q = 41) : cdA T N F V Lw kn K M ((3, f) :: fs) (w :: ws) two q = w ++ cdA T N F V Lw kn K M fs ws false (N q) := by
  rw [cdA_3]
  have e := lpT_no (T := T) (N := N) (F := F) (ok := tkP) (P := parD T N F (8 - fs.length)) (E := prE T N F V (8 - fs.length)) (op := opP) (fun r => dw 5 w ++ ctn (psK T N 41 r) (cdA T N F V Lw kn K M fs ws false)) c
  rw [show lpQ T N F V (8 - fs.length) (fun r => dw 5 w ++ ctn (psK T N 41 r) (cdA T N F V Lw kn K M fs ws false)) q = _ from e]
  have p : psK T N 41 q = some (N q) := if_pos c2
  show tw 5 w ++ (dw 5 w ++ ctn (psK T N 41 q) _) = _
  rw [p, ← List.append_assoc, tw_dw]
  rfl
/-! the beginning -/
theorem E_sum (ok : ¬ sumD T N F 8 q = none) : cdB T N F V Lw kn K M 0 0 [] [] [] true q = smE T N F V 8 q := by
  rw [cdB_s (Or.inl rfl)]
  have e : cdA T N F V Lw kn K M [(0, 0)] [[]] false = lpQ T N F V 8 (fun _ => []) := by
    funext r
    exact cdA_0
  have s := smT (T := T) (N := N) (F := F) V (fun _ => []) 8 q
  rw [e]
  show prE T N F V 8 q ++ ctn (parD T N F 8 q) (lpQ T N F V 8 (fun _ => [])) = _
  rw [← s]
  cases sumD T N F 8 q <;> exact List.append_nil _
theorem E_eit (hN : NGr T N n) (hn : n < F) (h : q ≤ n) (hk : k = 1 ∨ k = 2) : cdB T N F V Lw kn K M k 0 [] [] [] true q = etE T N F ntR (atK T N F kn k) (aE T N F V Lw K M k) 8 q := by
  rw [cdB_t (by omega) (by omega), etE_eq]
  have t := etT (T := T) (N := N) (F := F) (S := sngD T N F (atK T N F kn k) 8) (SE := sgE T N F ntR (atK T N F kn k) (aE T N F V Lw K M k) 8) (R := fun _ => []) hN (sngD_pg hN (fun d => atK_pg hN k d) 8) hn h
  have e : cdE T N F V Lw kn K M k [] [] [] = flT T N (sngD T N F (atK T N F kn k) 8) (sgE T N F ntR (atK T N F kn k) (aE T N F V Lw K M k) 8) (fun _ => []) F [] := by
    unfold cdE
    have e2 : (fun r2 => if k < 3 then [] else ctn (psK T N 93 r2) (cdA T N F V Lw kn K M [] [] true)) = (fun _ => ([] : List OPc)) := by
      funext r
      rw [if_pos (by omega)]
    rw [e2]
    rfl
  rw [e]
  show sgE T N F ntR (atK T N F kn k) (aE T N F V Lw K M k) 8 q ++ ctn (sngD T N F (atK T N F kn k) 8 q) _ = _
  rw [← t]
  cases eitN T N F (sngD T N F (atK T N F kn k) 8) q <;> exact List.append_nil _
end MchR
