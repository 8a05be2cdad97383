/-! letters of words, as both take them off -/
section Letters
theorem toI64 {z : Nat} (h : z < 9223372036854775808) : (Int64.ofInt (z : Int)).toInt = (z : Int) := Int64.toInt_ofInt_of_le (by omega) (by omega)
theorem smod64 : ∀ k : Fin 64, ((Int32.ofInt (k.val : Int)).toInt64 &&& 63).toBitVec.smod 64 = BitVec.ofNat 64 k.val := by decide +kernel
theorem lShr_n {z c : Nat} (h : z < 9223372036854775808) (hc : c < 64) : lShr (z : Int) (c : Int) = ((z / 2 ^ c : Nat) : Int) := by
  have e1 : ((Int32.ofInt (c : Int)).toInt64 &&& 63).toBitVec.smod 64 = BitVec.ofNat 64 c := smod64 ⟨c, hc⟩
  have e2 : (Int64.ofInt (z : Int)).toBitVec.toInt = (z : Int) := toI64 h
  unfold lShr
  show ((Int64.ofInt (z : Int)).toBitVec.sshiftRight (((Int32.ofInt (c : Int)).toInt64 &&& 63).toBitVec.smod 64).toNat).toInt = _
  rw [e1, BitVec.toNat_ofNat, Nat.mod_eq_of_lt (Nat.lt_of_lt_of_le hc (by decide)), BitVec.toInt_sshiftRight, e2, Int.shiftRight_eq_div_pow]
  rfl
theorem ofInt_wi (z : Int) : Int32.ofInt (wi z) = Int32.ofInt z := by
  have e : (Int32.ofInt z).toInt = wi z := by
    rw [Int32.toInt_ofInt]
    rfl
  rw [← e, Int32.ofInt_toInt]
theorem and_lo {z m : Nat} (j : Nat) (hm : m = 2 ^ j - 1) (hj : j < 31) : iAnd (wi (z : Int)) (m : Int) = ((z % 2 ^ j : Nat) : Int) := by
  unfold iAnd
  rw [ofInt_wi]
  have p1 : 2 ^ j ≤ 2 ^ 30 := Nat.pow_le_pow_right (by decide) (by omega)
  have p0 : 1 ≤ 2 ^ j := Nat.two_pow_pos j
  have p2 : (2 : Nat) ^ 30 = 1073741824 := by decide
  have e1 : (Int32.ofInt (z : Int)).toBitVec.toNat = z % 2 ^ 32 := by
    show (BitVec.ofInt 32 (z : Int)).toNat = _
    rw [BitVec.toNat_ofInt]
    rfl
  have e2 : (Int32.ofInt (m : Int)).toBitVec.toNat = m := by
    show (BitVec.ofInt 32 (m : Int)).toNat = _
    rw [BitVec.toNat_ofInt]
    show m % 2 ^ 32 = m
    exact Nat.mod_eq_of_lt (by omega)
  have e3 : (Int32.ofInt (z : Int) &&& Int32.ofInt (m : Int)).toBitVec.toNat = z % 2 ^ j := by
    show ((Int32.ofInt (z : Int)).toBitVec &&& (Int32.ofInt (m : Int)).toBitVec).toNat = _
    rw [BitVec.toNat_and, e1, e2, hm, Nat.and_two_pow_sub_one_eq_mod, Nat.mod_mod_of_dvd _ (Nat.pow_dvd_pow 2 (by omega))]
  have lt : z % 2 ^ j < 2 ^ j := Nat.mod_lt _ (Nat.two_pow_pos j)
  show (Int32.ofInt (z : Int) &&& Int32.ofInt (m : Int)).toBitVec.toInt = _
  rw [BitVec.toInt_eq_toNat_of_lt (by rw [e3]; omega), e3]
theorem um64 : ∀ k : Fin 64, ((Int32.ofInt (k.val : Int)).toInt64.toUInt64 &&& Int64.toUInt64 63).toNat % 64 = k.val := by decide +kernel
theorem lUsr_n {z c : Nat} (h : z < 9223372036854775808) (hc : c < 64) : lUsr (z : Int) (c : Int) = ((z / 2 ^ c : Nat) : Int) := by
  have e1 : ((Int32.ofInt (c : Int)).toInt64.toUInt64 &&& Int64.toUInt64 63).toNat % 64 = c := um64 ⟨c, hc⟩
  have e2 : (Int64.ofInt (z : Int)).toUInt64.toNat = z := il_n (toI64 h)
  unfold lUsr
  refine ln_i ?_ (Nat.lt_of_le_of_lt (Nat.div_le_self _ _) h)
  rw [UInt64.toUInt64_toInt64, UInt64.toNat_shiftRight, e1, e2, Nat.shiftRight_eq_div_pow]
theorem lAnd_255 {z : Nat} (h : z < 9223372036854775808) : lAnd (z : Int) 255 = ((z % 256 : Nat) : Int) := by
  have e1 : (Int64.ofInt (z : Int)).toBitVec.toNat = z := il_n (toI64 h)
  have e2 : (Int64.ofInt 255).toBitVec.toNat = 2 ^ 8 - 1 := by decide
  unfold lAnd
  refine ln_i ?_ (by omega)
  show ((Int64.ofInt (z : Int)).toBitVec &&& (Int64.ofInt 255).toBitVec).toNat = _
  rw [BitVec.toNat_and, e1, e2, Nat.and_two_pow_sub_one_eq_mod]
/-- letter p of a word -/
def lt8 (l : List Nat) (p : Int) : Int := if 0 ≤ p ∧ p < (l.length : Int) then ((l.getD p.toNat 0 : Nat) : Int) else -1
theorem e5_dgk {l : List Nat} (h : LW l) {k : Nat} (hk : k < 8) : e5 l / 2 ^ (35 - 5 * k) % 32 = dg5 l k := by
  have a0 := dg5_lt h 0
  have a1 := dg5_lt h 1
  have a2 := dg5_lt h 2
  have a3 := dg5_lt h 3
  have a4 := dg5_lt h 4
  have a5 := dg5_lt h 5
  have a6 := dg5_lt h 6
  have a7 := dg5_lt h 7
  unfold e5
  have c : k = 0 ∨ k = 1 ∨ k = 2 ∨ k = 3 ∨ k = 4 ∨ k = 5 ∨ k = 6 ∨ k = 7 := by omega
  rcases c with c | c | c | c | c | c | c | c <;> subst c <;> simp only [Nat.reduceMul, Nat.reduceSub, Nat.reducePow] <;> omega
theorem getD_in {l : List Nat} {i d : Nat} (h : i < l.length) : l.getD i d = l[i] := by
  rw [List.getD_eq_getElem?_getD, List.getElem?_eq_getElem h]
  rfl
variable {s t : PS} {r p : Int} {l : List Nat}
theorem letX (hl : LW l) (h : M_X11_letterOf s ((e5 l : Nat) : Int) p r t) : t = s ∧ r = lt8 l p := by
  unfold M_X11_letterOf T_X11_letterOf_e at h
  obtain ⟨_, h⟩ := h
  have val : ∀ k : Nat, k < 8 → p = (k : Int) → iAnd (wi (lShr ((e5 l : Nat) : Int) (35 - (5 * p)))) 31 = ((dg5 l k : Nat) : Int) := by
    intro k hk e
    have lt := e5_lt hl
    have e1 : 35 - 5 * p = ((35 - 5 * k : Nat) : Int) := by omega
    rw [e1, lShr_n (Nat.lt_trans lt (by decide)) (by omega)]
    have e2 := and_lo (z := e5 l / 2 ^ (35 - 5 * k)) (m := 31) 5 (by decide) (by decide)
    have e3 : iAnd (wi ((e5 l / 2 ^ (35 - 5 * k) : Nat) : Int)) 31 = ((e5 l / 2 ^ (35 - 5 * k) % 2 ^ 5 : Nat) : Int) := e2
    rw [e3]
    show ((e5 l / 2 ^ (35 - 5 * k) % 32 : Nat) : Int) = _
    rw [e5_dgk hl hk]
  have l8 := hl.1
  rcases h with ⟨c, er, es⟩ | ⟨c, ⟨c2, h⟩ | ⟨c2, er, es⟩⟩
  · exact ⟨es, by unfold lt8; rw [if_neg (by omega)]; exact er⟩
  · obtain ⟨k, rfl⟩ : ∃ k : Nat, p = (k : Int) := ⟨p.toNat, by clear h; omega⟩
    have v := val k (by clear h; omega) rfl
    rw [v] at h
    by_cases q : k < l.length
    · have d := dg5_in hl q
      have lw := hl.2 _ (List.getElem_mem q)
      have e : lt8 l (k : Int) = ((l[k] : Nat) : Int) := by
        unfold lt8
        rw [if_pos (by omega), Int.toNat_natCast, getD_in q]
      rcases h with ⟨c3, er, es⟩ | ⟨c3, er, es⟩
      · exact absurd c3 (by omega)
      · refine ⟨es, ?_⟩
        rw [e, er]
        omega
    · have d := dg5_out (l := l) (i := k) (by omega)
      have e : lt8 l (k : Int) = -1 := by
        unfold lt8
        rw [if_neg (by omega)]
      rcases h with ⟨c3, er, es⟩ | ⟨c3, er, es⟩
      · exact ⟨es, by rw [e]; exact er⟩
      · exact absurd (by rw [d]; rfl) c3
  · refine ⟨es, ?_⟩
    unfold lt8
    rw [if_neg (by omega)]
    exact er
theorem e8_2lt : ∀ rl : List Nat, (∀ c ∈ rl, 97 ≤ c ∧ c ≤ 122) → 2 * e8 rl < 256 ^ rl.length
  | [], _ => by
    show 2 * 0 < 256 ^ 0
    decide
  | c :: rl, h => by
    have ih := e8_2lt rl (fun x hx => h x (List.mem_cons_of_mem _ hx))
    have lc := h c List.mem_cons_self
    show 2 * (c + 256 * e8 rl) < 256 ^ (rl.length + 1)
    rw [Nat.pow_succ]
    omega
theorem e8_lt {rl : List Nat} (h : ∀ c ∈ rl, 97 ≤ c ∧ c ≤ 122) (h8 : rl.length ≤ 8) : e8 rl < 9223372036854775808 := by
  have a := e8_2lt rl h
  have b : 256 ^ rl.length ≤ 256 ^ 8 := Nat.pow_le_pow_right (by decide) h8
  have c : (256 : Nat) ^ 8 = 18446744073709551616 := by decide
  omega
theorem e8_pos {rl : List Nat} (h : ∀ c ∈ rl, 97 ≤ c ∧ c ≤ 122) (hn : ¬ rl = []) : 1 ≤ e8 rl := by
  cases rl with
  | nil => exact absurd rfl hn
  | cons c rl =>
    have := h c List.mem_cons_self
    show 1 ≤ c + 256 * e8 rl
    omega
theorem e8_div : ∀ (rl : List Nat) (i : Nat), (∀ c ∈ rl, 97 ≤ c ∧ c ≤ 122) → e8 rl / 2 ^ (8 * i) = e8 (rl.drop i)
  | rl, 0, _ => by
    rw [Nat.mul_zero, Nat.pow_zero, Nat.div_one, List.drop_zero]
  | [], i + 1, _ => by
    rw [List.drop_nil]
    exact Nat.zero_div _
  | c :: rl, i + 1, h => by
    have ih := e8_div rl i (fun x hx => h x (List.mem_cons_of_mem _ hx))
    have lc := h c List.mem_cons_self
    have e : 2 ^ (8 * (i + 1)) = 256 * 2 ^ (8 * i) := by
      rw [Nat.mul_add, Nat.pow_add, Nat.mul_comm]
    rw [e, ← Nat.div_div_eq_div_mul]
    have e2 : e8 (c :: rl) / 256 = e8 rl := by
      show (c + 256 * e8 rl) / 256 = _
      omega
    rw [e2, ih]
    rfl
theorem e8_mod {rl : List Nat} {i : Nat} (h : ∀ c ∈ rl, 97 ≤ c ∧ c ≤ 122) (hi : i < rl.length) : e8 (rl.drop i) % 256 = rl[i] := by
  have lc := h _ (List.getElem_mem hi)
  rw [List.drop_eq_getElem_cons hi]
  show (rl[i] + 256 * e8 (rl.drop (i + 1))) % 256 = _
  omega
theorem drop_in {rl : List Nat} (h : ∀ c ∈ rl, 97 ≤ c ∧ c ≤ 122) (i : Nat) : ∀ c ∈ rl.drop i, 97 ≤ c ∧ c ≤ 122 := fun c hc => h c (List.mem_of_mem_drop hc)
theorem letML {rl : List Nat} (hr : ∀ c ∈ rl, 97 ≤ c ∧ c ≤ 122) (h8 : rl.length ≤ 8) : ∀ (n i : Nat) (s : PS) (r : Int) (t : PS), It_X12_letter n ((e8 rl : Nat) : Int) p (i : Int) ((e8 (rl.drop i) : Nat) : Int) s r t → i ≤ rl.length → t = s ∧ r = if 0 ≤ p ∧ p < (rl.length : Int) then ((rl.getD (rl.length - 1 - p.toNat) 0 : Nat) : Int) else -1
  | 0, i, s, r, t, h, _ => False.elim h
  | n + 1, i, s, r, t, h, hi => by
    replace h := ul_X12_letter_5 h
    unfold T_X12_letter_5 at h
    obtain ⟨_, _, ⟨c, h⟩ | ⟨c, h⟩⟩ := h
    · have ei : i = rl.length := by
        by_cases q : i < rl.length
        · have := e8_pos (drop_in hr i) (fun e => by
            have l := congrArg List.length e
            rw [List.length_drop] at l
            have l2 : rl.length - i = 0 := l
            clear h
            omega)
          clear h
          omega
        · clear h
          omega
      subst ei
      rcases h with ⟨c1, er, es⟩ | ⟨c1, ⟨c2, er, es⟩ | ⟨c2, er, es⟩⟩
      · exact ⟨es, by rw [if_neg (by omega)]; exact er⟩
      · obtain ⟨k, rfl⟩ : ∃ k : Nat, p = (k : Int) := ⟨p.toNat, by omega⟩
        have hk : k < rl.length := by omega
        refine ⟨es, ?_⟩
        rw [if_pos (by omega), er]
        have e1 : 8 * (((rl.length : Int) - 1) - (k : Int)) = ((8 * (rl.length - 1 - k) : Nat) : Int) := by omega
        have lt := e8_lt hr h8
        have lt2 := e8_lt (drop_in hr (rl.length - 1 - k)) (by rw [List.length_drop]; omega)
        rw [e1, lUsr_n lt (by omega), e8_div rl _ hr, lAnd_255 lt2, e8_mod hr (by omega), Int.toNat_natCast, getD_in (by omega)]
        have b := hr _ (List.getElem_mem (show rl.length - 1 - k < rl.length by omega))
        exact wi_id (by omega) (by omega)
      · exact ⟨es, by rw [if_neg (by omega)]; exact er⟩
    · have hi2 : i < rl.length := by
        by_cases q : i < rl.length
        · exact q
        · exfalso
          apply c
          rw [List.drop_eq_nil_of_le (by clear h; omega)]
          rfl
      have e1 : lUsr ((e8 (rl.drop i) : Nat) : Int) 8 = ((e8 (rl.drop (i + 1)) : Nat) : Int) := by
        have lt2 := e8_lt (drop_in hr i) (by rw [List.length_drop]; clear h; omega)
        have e2 := lUsr_n lt2 (show 8 < 64 by decide)
        have e3 : lUsr ((e8 (rl.drop i) : Nat) : Int) 8 = ((e8 (rl.drop i) / 2 ^ 8 : Nat) : Int) := e2
        have e4 := e8_div (rl.drop i) 1 (drop_in hr i)
        rw [List.drop_drop] at e4
        rw [e3]
        have e5' : e8 (rl.drop i) / 2 ^ 8 = e8 (rl.drop (i + 1)) := e4
        rw [e5']
      rw [e1] at h
      exact letML hr h8 n (i + 1) s r t h (by clear h; omega)
theorem letM8 (hl : LW l) (h : M_X12_letter s ((c8 l : Nat) : Int) p r t) : t = s ∧ r = lt8 l p := by
  obtain ⟨n, h⟩ := h
  unfold T_X12_letter_e at h
  obtain ⟨_, h⟩ := h
  have hr : ∀ c ∈ l.reverse, 97 ≤ c ∧ c ≤ 122 := fun c hc => hl.2 c (List.mem_reverse.mp hc)
  have k := letML (p := p) hr (by rw [List.length_reverse]; exact hl.1) n 0 s r t h (Nat.zero_le _)
  refine ⟨k.1, ?_⟩
  rw [k.2, List.length_reverse]
  unfold lt8
  by_cases q : 0 ≤ p ∧ p < (l.length : Int)
  · rw [if_pos q, if_pos q]
    obtain ⟨i, rfl⟩ : ∃ i : Nat, p = (i : Int) := ⟨p.toNat, by omega⟩
    have hi : i < l.length := by omega
    rw [Int.toNat_natCast, List.getD_eq_getElem?_getD, List.getElem?_reverse (by omega), getD_in hi]
    have e : l.length - 1 - (l.length - 1 - i) = i := by omega
    rw [e, List.getElem?_eq_getElem hi]
    rfl
  · rw [if_neg q, if_neg q]
end Letters
