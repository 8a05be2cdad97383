/-! a word, as the class packs it: on numbers -/
theorem ln_i {v : Int64} {n : Nat} (h : v.toUInt64.toNat = n) (hn : n < 9223372036854775808) : v.toInt = (n : Int) := by
  have h1 : v.toBitVec.toNat = n := h
  show v.toBitVec.toInt = (n : Int)
  rw [BitVec.toInt_eq_toNat_cond]
  split <;> omega
theorem il_n {v : Int64} {n : Nat} (h : v.toInt = (n : Int)) : v.toUInt64.toNat = n := by
  have h1 : v.toBitVec.toInt = (n : Int) := h
  have l := v.toBitVec.isLt
  show v.toBitVec.toNat = n
  rw [BitVec.toInt_eq_toNat_cond] at h1
  split at h1 <;> omega
theorem wsI {X A k c : Nat} (hk : k < 8) (hX : X = 2 ^ (40 - 5 * k) * A) (hl : X < 1099511627776) (hc : 97 ≤ c ∧ c ≤ 122) : lOr (X : Int) (lShl ((c : Int) - 96) (35 - 5 * (k : Int))) = ((X + (c - 96) * 2 ^ (35 - 5 * k) : Nat) : Int) := by
  have hx : (Int64.ofInt (X : Int)).toInt = (X : Int) := Int64.toInt_ofInt_of_le (by omega) (by omega)
  have hb : (Int32.ofInt (c : Int)).toInt = (c : Int) := Int32.toInt_ofInt_of_le (by omega) (by omega)
  have hd : (Int32.ofInt ((c : Int) - 96)).toInt = (c : Int) - 96 := Int32.toInt_ofInt_of_le (by omega) (by omega)
  have hs : (Int32.ofInt (35 - 5 * (k : Int))).toInt = 35 - 5 * (k : Int) := Int32.toInt_ofInt_of_le (by omega) (by omega)
  have h1 : ((Int32.ofInt ((c : Int) - 96)).toInt64).toInt = (c : Int) - 96 := z_i2l hd
  have h2 := z_lshl h1 hs
  have h3 := z_lor hx h2
  rw [← h3]
  have st := ws_st (x := Int64.ofInt (X : Int)) (b := Int32.ofInt (c : Int)) (d := Int32.ofInt ((c : Int) - 96)) (sh := Int32.ofInt (35 - 5 * (k : Int))) (k := k) (A := A) (by rw [hb]; omega) hk hs (by rw [hb, hd]) rfl rfl rfl (by rw [il_n hx]; exact hX)
  rw [il_n hx, hb, Int.toNat_natCast] at st
  refine ln_i st ?_
  have le : 2 ^ (35 - 5 * k) ≤ 2 ^ 35 := Nat.pow_le_pow_right (by decide) (by omega)
  have l35 : (2 : Nat) ^ 35 = 34359738368 := by decide
  have lt1 : (c - 96) * 2 ^ (35 - 5 * k) ≤ 26 * 2 ^ 35 := Nat.mul_le_mul (by omega) le
  omega
theorem e5_lt {l : List Nat} (h : LW l) : e5 l < 1099511627776 := by
  have a0 := dg5_lt h 0
  have a1 := dg5_lt h 1
  have a2 := dg5_lt h 2
  have a3 := dg5_lt h 3
  have a4 := dg5_lt h 4
  have a5 := dg5_lt h 5
  have a6 := dg5_lt h 6
  have a7 := dg5_lt h 7
  unfold e5
  omega
theorem lts_LWb {g : Nat → Nat} {a k : Nat} (hk : k ≤ 8) (h : ∀ i, a ≤ i → i < a + k → bL (g i) = true) : LW (lts g a k) := lts_LW hk (fun i hi => by
  have q := h (a + i) (by omega) (by omega)
  rw [bL_iff] at q
  exact q)
/-- which word it is, by the class's row of own words -/
def wtl (l : List Nat) : Nat := if ownI l < 22 then 261 + ownI l else 258
theorem ownW_LW : ∀ i : Fin 22, LW (ownW[i.val]'(by have := i.isLt; show _ < 22; omega)) := by
  intro i
  have h : ∀ x ∈ ownW, x.length ≤ 8 ∧ ∀ c ∈ x, 97 ≤ c ∧ c ≤ 122 := by decide
  exact h _ (List.getElem_mem _)
theorem ownI_hit {l : List Nat} {i : Nat} (hl : LW l) (hi : i < 22) (h1 : e5 (ownW[i]'(by show i < 22; exact hi)) = e5 l) (h2 : ∀ j, (hj : j < i) → ¬ e5 (ownW[j]'(by show j < 22; omega)) = e5 l) : ownI l = i := by
  have hi2 : i < ownW.length := hi
  unfold ownI
  rw [List.findIdx_eq hi2]
  refine ⟨?_, fun j hj => ?_⟩
  · have q := e5_inj (ownW_LW ⟨i, hi⟩) hl h1
    exact beq_iff_eq.mpr q
  · refine Bool.eq_false_iff.mpr (fun q => h2 j hj ?_)
    exact congrArg e5 (beq_iff_eq.mp q)
theorem ownI_no {l : List Nat} (h2 : ∀ j, (hj : j < 22) → ¬ e5 (ownW[j]'(by show j < 22; exact hj)) = e5 l) : ¬ ownI l < 22 := by
  intro q
  have q2 : ownW.findIdx (fun y => y == l) < ownW.length := q
  have t := List.findIdx_getElem (w := q2)
  exact h2 _ q (congrArg e5 (beq_iff_eq.mp t))
section RdWord
variable {g : Nat → Nat} {N a : Nat}
def PoW (g : Nat → Nat) (N a : Nat) (t : PS) : Prop := (8 < rn bL g N a - a → t 31 4 = 257) ∧ (¬ 8 < rn bL g N a - a → t 31 4 = (wtl (lts g a (rn bL g N a - a)) : Int) ∧ t 31 3 = (rn bL g N a : Int) ∧ t 31 5 = (a : Int) ∧ t 31 6 = (e5 (lts g a (rn bL g N a - a)) : Int))
def I5W (g : Nat → Nat) (N a : Nat) (s : PS) : Prop := TpX g N s ∧ OWX s ∧ s 31 5 = (a : Int) ∧ ∃ p : Nat, s 31 3 = (p : Int) ∧ a ≤ p ∧ p ≤ N ∧ (∀ i, a ≤ i → i < p → i < N ∧ bL (g i) = true) ∧ p - a ≤ 8 ∧ s 31 6 = (w5F g a (p - a) : Int)
def I8W (g : Nat → Nat) (N a : Nat) (s : PS) : Prop := OWX s ∧ s 31 5 = (a : Int) ∧ s 31 3 = (rn bL g N a : Int) ∧ rn bL g N a - a ≤ 8 ∧ s 31 6 = (e5 (lts g a (rn bL g N a - a)) : Int)
theorem lts_run (hk : rn bL g N a - a ≤ 8) : LW (lts g a (rn bL g N a - a)) := lts_LWb hk (fun i h1 h2 => (rn_all (P := bL) (g := g) (n := N) h1 (by have := rn_ge (P := bL) (g := g) (n := N) (p := a); omega)).2)
theorem rdWord (hN : N ≤ 1000) (hg : ∀ i, g i ≤ 255) : ∀ n : Nat, (∀ (x : Int) (s : PS) (r : Int) (t : PS), It_X10_readWord n 5 x s r t → I5W g N a s → PoW g N a t) ∧ (∀ (x : Int) (s : PS) (r : Int) (t : PS), It_X10_readWord n 118 x s r t → I8W g N a s → PoW g N a t) ∧ (∀ (x : Int) (s : PS) (r : Int) (t : PS), It_X10_readWord n 127 x s r t → (I8W g N a s ∧ s 31 4 = 258 ∧ 0 ≤ x ∧ ∀ j : Nat, (j : Int) < x → ∀ hj : j < 22, ¬ e5 (ownW[j]'(by show j < 22; exact hj)) = e5 (lts g a (rn bL g N a - a))) → PoW g N a t)
  | 0 => ⟨fun _ _ _ _ h => False.elim h, fun _ _ _ _ h => False.elim h, fun _ _ _ _ h => False.elim h⟩
  | n + 1 => by
    have ih := rdWord hN hg n
    refine ⟨fun x s r t h hI => ?_, fun x s r t h hI => ?_, fun x s r t h hI => ?_⟩
    · have h := ul_X10_readWord_5 h
      unfold T_X10_readWord_5 at h
      obtain ⟨hty, h⟩ := h
      obtain ⟨hT, hO, h5, p, h3, hap, hpN, hall, hk, h6⟩ := hI
      have hb : s 32 (s 31 3).toNat = (g p : Int) := by rw [h3, Int.toNat_natCast]; exact hT.1 p
      rw [hb, hT.2, h3, h5] at h
      have fin : ¬ (p < N ∧ bL (g p) = true) → It_X10_readWord n 118 0 s r t → PoW g N a t := by
        intro hno hi
        have er : rn bL g N a = p := rn_eq hap hall hno
        refine ih.2.1 _ _ _ _ hi ⟨hO, h5, by rw [er, h3], by rw [er]; exact hk, ?_⟩
        rw [er, h6, w5F_e5 g a hk]
      rcases h with ⟨c1, h⟩ | ⟨c1, h⟩
      · exact fin (by omega) h
      · rcases h with ⟨c2, h⟩ | ⟨c2, h⟩
        · exact fin (by rw [bL_iff]; omega) h
        · rcases h with ⟨c3, h⟩ | ⟨c3, h⟩
          · exact fin (by rw [bL_iff]; omega) h
          · have hd : bL (g p) = true := by rw [bL_iff]; omega
            have hd2 := bL_iff.mp hd
            rw [wi_id (z := (p : Int) - (a : Int)) (by omega) (by omega)] at h
            rcases h with ⟨c4, s2, e2, s3, e3, _, es⟩ | ⟨c4, s2, e2, s3, e3, h⟩
            · have bad : 8 < rn bL g N a - a := by
                by_cases q : rn bL g N a ≤ p
                · by_cases r2 : rn bL g N a = p
                  · have no := rn_no (P := bL) (g := g) (n := N) (p := a)
                    rw [r2] at no
                    exact absurd ⟨by omega, hd⟩ no
                  · have ge : a ≤ rn bL g N a := rn_ge
                    have no := rn_no (P := bL) (g := g) (n := N) (p := a)
                    exact absurd (hall _ ge (by omega)) no
                · omega
              exact ⟨fun _ => by rw [es, e3, us_at], fun q => absurd bad q⟩
            · have hk8 : p - a < 8 := by omega
              obtain ⟨A, hA⟩ := w5F_mul g a (p - a) (by omega)
              have hs : p + 1 - a = (p - a) + 1 := by omega
              have hp : a + (p - a) = p := by omega
              have hl : w5F g a (p - a) < 1099511627776 := by
                rw [w5F_e5 g a hk]
                exact e5_lt (lts_LWb hk (fun i h1 h2 => (hall i h1 (by omega)).2))
              have ek : (p : Int) - (a : Int) = ((p - a : Nat) : Int) := by omega
              rw [h6, wi_id (z := 5 * ((p : Int) - (a : Int))) (by omega) (by omega), wi_id (z := 35 - 5 * ((p : Int) - (a : Int))) (by omega) (by omega), ek, wsI hk8 hA hl hd2] at e2
              refine ih.1 _ _ _ _ h ⟨hT.cg ?_ ?_, hO.cg ?_, ?_, p + 1, ?_, by omega, by omega, ?_, by omega, ?_⟩
              · rw [e3, us_k (by decide), e2, us_k (by decide)]
              · rw [e3, us_j (by decide), e2, us_j (by decide)]
              · rw [e3, us_k (by decide), e2, us_k (by decide)]
              · rw [e3, us_j (by decide), e2, us_j (by decide), h5]
              · rw [e3, us_at]
                omega
              · intro i h1 h2
                by_cases q : i = p
                · rw [q]
                  exact ⟨by omega, hd⟩
                · exact hall i h1 (by omega)
              · rw [e3, us_j (by decide), e2, us_at, hs]
                show _ = ((w5F g a (p - a) + (g (a + (p - a)) - 96) * 2 ^ (35 - 5 * (p - a)) : Nat) : Int)
                rw [hp]
    · have h := ul_X10_readWord_118 h
      unfold T_X10_readWord_118 at h
      obtain ⟨hty, s2, e2, h⟩ := h
      obtain ⟨hO, h5, h3, hk, h6⟩ := hI
      refine ih.2.2 _ _ _ _ h ⟨⟨hO.cg ?_, ?_, ?_, hk, ?_⟩, ?_, by omega, fun j hj => absurd hj (by omega)⟩
      · rw [e2, us_k (by decide)]
      · rw [e2, us_j (by decide), h5]
      · rw [e2, us_j (by decide), h3]
      · rw [e2, us_j (by decide), h6]
      · rw [e2, us_at]
    · have h := ul_X10_readWord_127 h
      unfold T_X10_readWord_127 at h
      obtain ⟨hty, hx, h⟩ := h
      obtain ⟨⟨hO, h5, h3, hk, h6⟩, h4, hx0, hno⟩ := hI
      obtain ⟨i, rfl⟩ : ∃ i : Nat, x = (i : Int) := ⟨x.toNat, by omega⟩
      rcases h with ⟨c1, _, es⟩ | ⟨c1, h⟩
      · rw [es]
        have no := ownI_no (l := lts g a (rn bL g N a - a)) (fun j hj => hno j (by omega) hj)
        refine ⟨fun q => absurd q (by omega), fun _ => ⟨?_, h3, h5, h6⟩⟩
        unfold wtl
        rw [if_neg no, h4]
        rfl
      · have hi : i < 22 := by omega
        rw [Int.toNat_natCast, hO i hi, h6] at h
        rcases h with ⟨c2, s2, e2, _, es⟩ | ⟨c2, h⟩
        · have hit := ownI_hit (lts_run hk) hi (Int.ofNat_inj.mp c2) (fun j hj => hno j (by omega) (by omega))
          rw [es, e2]
          refine ⟨fun q => absurd q (by omega), fun _ => ⟨?_, ?_, ?_, ?_⟩⟩
          · unfold wtl
            rw [us_at, hit, if_pos hi]
            omega
          · rw [us_j (by decide), h3]
          · rw [us_j (by decide), h5]
          · rw [us_j (by decide), h6]
        · refine ih.2.2 _ _ _ _ h ⟨⟨hO, h5, h3, hk, h6⟩, h4, by omega, fun j hj hj2 => ?_⟩
          by_cases q : j = i
          · subst q
            exact fun e => c2 (congrArg Int.ofNat e)
          · exact hno j (by omega) hj2
end RdWord
