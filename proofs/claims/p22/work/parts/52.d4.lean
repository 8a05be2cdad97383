/-! the reference's giving: the best deal -/
section BestM
variable {b : BST} {OL : List OT} {L : LT} {now : Nat} {s t u : PS} {r : Int} {X : Nat → Nat → Int}
/-- how many children, how many kinds -/
abbrev nG (L : LT) (now : Nat) : Nat := (knAll L now now).1
abbrev tgAll (b : BST) (OL : List OT) (L : LT) (now : Nat) : List TAG := tgG (nG L now) b.1.length (cmG L now) (alG b L now OL)
/-- the best deal, as both know it -/
def BestG (b : BST) (OL : List OT) (L : LT) (now : Nat) (X : Nat → Nat → Int) : Prop := BestD (nG L now) b.1.length (duG b L now OL) (dyG L now) (fun c k => alG b L now OL c k = true) (cuD (cmG L now)) (ptG b L now OL) X
theorem cmG_in (hH : GvH b OL L now) (k d : Nat) : 0 ≤ cmG L now k d ∧ cmG L now k d ≤ 19800 := by
  obtain ⟨hl, hL2, ⟨kn, hkn, hO⟩, _⟩ := hH
  have z := cmF_le (now := now) (k := (k : Int)) (d := (d : Int)) hO now hl
  unfold cmG
  omega
theorem duG_in (c : Nat) : 0 ≤ duG b L now OL c ∧ duG b L now OL c ≤ 3 := by
  unfold duG
  omega
theorem tgAll_mem (hH : GvH b OL L now) : ∀ t ∈ tgAll b OL L now, (lnA (dyG L now) t < 290 ∧ lnB t < 290) ∧ (0 ≤ lnC (cmG L now) (duG b L now OL) t ∧ lnC (cmG L now) (duG b L now OL) t ≤ 268435456) ∧ (-2147483648 ≤ lnW (ptG b L now OL) t ∧ lnW (ptG b L now OL) t ≤ 2147483648) ∧ 0 ≤ lnW (ptG b L now OL) t + pi0 (lnA (dyG L now) t) - pi0 (lnB t) ∧ (t.1 = 3 → t.2.1 < nG L now ∧ t.2.2 < b.1.length ∧ alG b L now OL t.2.1 t.2.2 = true) := by
  have hH0 := hH
  obtain ⟨hl, hL2, _, hS, hG, h10, _⟩ := hH0
  have hn : nG L now ≤ 40 := hS.1
  refine tg_all (fun k e hk he hp => ?_) (fun k e hk he => ?_) (fun c hc => ?_) (fun c k hc hk ha => ?_)
  · have z := cmG_in hH k (e + 1)
    show ((0 : Nat) < 290 ∧ 1 + 24 * k + (e + 1) < 290) ∧ (0 ≤ cmG L now k (e + 1) ∧ cmG L now k (e + 1) ≤ 268435456) ∧ (-2147483648 ≤ (0 : Int) ∧ (0 : Int) ≤ 2147483648) ∧ 0 ≤ 0 + pi0 0 - pi0 (1 + 24 * k + (e + 1)) ∧ ((0 : Nat) = 3 → _)
    rw [pi0_z (by omega), pi0_z (by omega)]
    exact ⟨by omega, by omega, by omega, by omega, fun q => absurd q (by decide)⟩
  · show (1 + 24 * k + (e + 1) < 290 ∧ 2 + 24 * k + (e + 1) < 290) ∧ (0 ≤ (268435456 : Int) ∧ (268435456 : Int) ≤ 268435456) ∧ (-2147483648 ≤ (0 : Int) ∧ (0 : Int) ≤ 2147483648) ∧ 0 ≤ 0 + pi0 (1 + 24 * k + (e + 1)) - pi0 (2 + 24 * k + (e + 1)) ∧ ((1 : Nat) = 3 → _)
    rw [pi0_z (by omega), pi0_z (by omega)]
    exact ⟨by omega, by omega, by omega, by omega, fun q => absurd q (by decide)⟩
  · have z := duG_in (b := b) (OL := OL) (L := L) (now := now) c
    show (242 + c < 290 ∧ 1 < 290) ∧ (0 ≤ duG b L now OL c ∧ duG b L now OL c ≤ 268435456) ∧ (-2147483648 ≤ (0 : Int) ∧ (0 : Int) ≤ 2147483648) ∧ 0 ≤ 0 + pi0 (242 + c) - pi0 1 ∧ ((2 : Nat) = 3 → _)
    rw [pi0_m (by omega), pi0_m (by omega)]
    exact ⟨by omega, by omega, by omega, by omega, fun q => absurd q (by decide)⟩
  · have z := ptG_in hH (k := k) hc
    have d := dyG_e hH hc
    show (1 + 24 * k + dyG L now c < 290 ∧ 242 + c < 290) ∧ (0 ≤ (1 : Int) ∧ (1 : Int) ≤ 268435456) ∧ (-2147483648 ≤ - ptG b L now OL c k ∧ - ptG b L now OL c k ≤ 2147483648) ∧ 0 ≤ - ptG b L now OL c k + pi0 (1 + 24 * k + dyG L now c) - pi0 (242 + c) ∧ ((3 : Nat) = 3 → _)
    rw [pi0_z (by omega), pi0_m (by omega)]
    exact ⟨by omega, by omega, by omega, by omega, fun _ => ⟨hc, hk, ha⟩⟩
/-- settles finds the best deal -/
theorem settleG (hH : GvH b OL L now) (hB : BdU b OL L now (tgAll b OL L now) s) (h : M_X12_settles s r t) : ∃ X, BestG b OL L now X ∧ (∀ q, q < 400 → t 45 q = flatD (nG L now) b.1.length X q) ∧ ∀ x, ¬ x = 40 → ¬ x = 42 → ¬ x = 43 → ¬ x = 45 → t x = s x := by
  have hH0 := hH
  obtain ⟨hl, hL2, _, hS, hG, h10, _⟩ := hH0
  have hn : nG L now ≤ 40 := hS.1
  obtain ⟨fu, h⟩ := h
  have ty : TyM s := by
    unfold T_X12_settles_e at h
    exact h.1
  obtain ⟨_, ⟨l0, l1⟩, hPr, _⟩ := hB
  have all := tgAll_mem hH
  have m2200 : 2 * (tgAll b OL L now).length ≤ 2200 := by
    have z := ty.1 (0, 62, 0, 2200) (by decide)
    have z2 : 0 ≤ s 0 62 ∧ s 0 62 ≤ 2200 := z
    omega
  have at_ : ∀ j, (hj : j < (tgAll b OL L now).length) → tgAt (tgAll b OL L now) j = (tgAll b OL L now)[j] := fun j hj => tgAt_lt hj
  have F0 : NF (tgAll b OL L now).length (gA (nG L now) b.1.length (cmG L now) (alG b L now OL) (dyG L now)) (gB (nG L now) b.1.length (cmG L now) (alG b L now OL)) (gC (nG L now) b.1.length (cmG L now) (alG b L now OL) (duG b L now OL)) (gW (nG L now) b.1.length (cmG L now) (alG b L now OL) (ptG b L now OL)) (fun _ => 0) (fun _ => False) s := by
    refine ⟨l0, m2200, fun j hj => ?_, fun j hj => ?_⟩
    · obtain ⟨z1, z2, z3, z4, z5, z6, _⟩ := l1 j hj
      unfold gA gB gW
      rw [at_ j hj]
      exact ⟨z1, z2, z3, z4, z5, z6⟩
    · obtain ⟨_, _, _, _, _, _, z7, z8⟩ := l1 j hj
      obtain ⟨_, a2, a3, _⟩ := all _ (List.getElem_mem hj)
      unfold gC gW
      rw [at_ j hj]
      refine ⟨a3, ⟨Int.le_refl 0, a2.1⟩, a2.2, fun z => z.elim, fun _ => ⟨?_, z8⟩⟩
      rw [z7, Int.sub_zero]
  have hA : ∀ j, j < (tgAll b OL L now).length → gA (nG L now) b.1.length (cmG L now) (alG b L now OL) (dyG L now) j < 290 ∧ gB (nG L now) b.1.length (cmG L now) (alG b L now OL) j < 290 := fun j hj => by
    unfold gA gB
    rw [at_ j hj]
    exact (all _ (List.getElem_mem hj)).1
  have P0 : Pot (tgAll b OL L now).length (gA (nG L now) b.1.length (cmG L now) (alG b L now OL) (dyG L now)) (gB (nG L now) b.1.length (cmG L now) (alG b L now OL)) (gC (nG L now) b.1.length (cmG L now) (alG b L now OL) (duG b L now OL)) (gW (nG L now) b.1.length (cmG L now) (alG b L now OL) (ptG b L now OL)) (fun _ => 0) (fun _ => False) pi0 := by
    intro j hj _
    unfold gA gB gW
    rw [at_ j hj]
    exact ⟨fun _ => (all _ (List.getElem_mem hj)).2.2.2.1, fun z => absurd z (Int.lt_irrefl 0)⟩
  have bal0 : Bal (tgAll b OL L now).length (gA (nG L now) b.1.length (cmG L now) (alG b L now OL) (dyG L now)) (gB (nG L now) b.1.length (cmG L now) (alG b L now OL)) (fun _ => 0) 0 := by
    intro rho
    rw [Int.mul_zero]
    exact sgN_0 _ (fun j _ => Int.mul_zero _)
  have h0 : It_X12_settles (fu + 1) 0 0 0 s r t := rl_X12_settles_0 h
  obtain ⟨fu2, f2, v2, s2, w1, w2, w3, ⟨pi, w4, w5⟩, w6⟩ := settle0 hA (fu + 1) (fun _ => 0) 0 s r t h0 F0 bal0 ⟨pi0, F0.fe P0, PB_pi0⟩
  have prok : PrOk (tgAll b OL L now).length (gC (nG L now) b.1.length (cmG L now) (alG b L now OL) (duG b L now OL)) (pjG (nG L now) b.1.length (cmG L now) (alG b L now OL)) s2 := by
    intro q hq
    rw [w6 44 (by decide) (by decide) (by decide)]
    rcases hPr q hq with ⟨z1, z2⟩ | ⟨j, j1, j2, j3⟩
    · refine Or.inl ⟨if_neg (fun z => z2 (mem_pair z.1 z.2.1 z.2.2)), z1⟩
    · have mem : (3, q / 10, q % 10) ∈ tgAll b OL L now := by
        rw [← j2]
        exact List.getElem_mem j1
      obtain ⟨c1, c2, c3⟩ := (all _ mem).2.2.2.2 rfl
      have e : pjG (nG L now) b.1.length (cmG L now) (alG b L now OL) q = some j := by
        unfold pjG
        rw [if_pos ⟨c1, c2, c3⟩, ← j2, tix_at (tgG_si h10) j j1]
      refine Or.inr ⟨j, e, j1, ?_, j3, fun i hi z => ?_⟩
      · unfold gC
        rw [at_ j j1, j2]
        rfl
      · unfold pjG at z
        by_cases ci : i / 10 < nG L now ∧ i % 10 < b.1.length ∧ alG b L now OL (i / 10) (i % 10) = true
        · rw [if_pos ci] at z
          have zi := Option.some.inj z
          obtain ⟨x1, x2⟩ := tix_mem (mem_pair (n := nG L now) (K := b.1.length) (cm := cmG L now) (al := alG b L now OL) ci.1 ci.2.1 ci.2.2)
          have x3 : (3, i / 10, i % 10) = ((3, q / 10, q % 10) : TAG) := by
            rw [← x2, ← j2]
            congr 1
          have y1 : i / 10 = q / 10 := congrArg (fun t : TAG => t.2.1) x3
          have y2 : i % 10 = q % 10 := congrArg (fun t : TAG => t.2.2) x3
          omega
        · rw [if_neg ci] at z
          cases z
  obtain ⟨f3, y1, y2⟩ := settle20 (pj := pjG (nG L now) b.1.length (cmG L now) (alG b L now OL)) (v := v2) hA fu2 0 f2 s2 r t w1 (by decide) ⟨w2.fzc (fun j => ⟨fun z => by
    obtain ⟨i, i1, _⟩ := z
    exact Nat.not_lt_zero _ i1, fun z => z.elim⟩), w3, ⟨pi, w4, w5⟩, fun i hi => absurd hi (Nat.not_lt_zero _), fun g _ _ _ => Or.inl (fun k hk => absurd hk (Nat.not_lt_zero _)), prok⟩
  obtain ⟨_, o1, _, o3, o4, _⟩ := y1
  refine ⟨dealT (nG L now) b.1.length (cmG L now) (alG b L now OL) f3, best_of hn h10 (fun k e => (cmG_in hH k e).1) (fun c hc => (dyG_e hH hc).2) o1 o4, fun q hq => ?_, fun x x1 x2 x3 x4 => (y2 x x1 x2 x3 x4).trans (w6 x x1 x2 x3)⟩
  rw [o3 q hq, vP_deal]
end BestM
