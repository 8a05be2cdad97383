/-! rows filled with one value -/
theorem fill75L {v : Int} : ∀ (fu i : Nat) (s : PS) (rr : Int) (t : PS), It_J7_fill_d0a16_75 fu v (i : Int) 40 s rr t → i ≤ 40 → (∀ q, t 75 q = if i ≤ q ∧ q < 40 then v else s 75 q) ∧ ∀ x, ¬ x = 75 → t x = s x
  | 0, i, s, rr, t, h, _ => False.elim h
  | fu + 1, i, s, rr, t, h, hi => by
    replace h := ul_J7_fill_d0a16_75_6 h
    unfold T_J7_fill_d0a16_75_6 at h
    obtain ⟨_, _, _, h⟩ := h
    rw [Int.toNat_natCast] at h
    rcases h with ⟨c, _, e⟩ | ⟨c, s2, e2, h⟩
    · rw [e]
      exact ⟨fun q => by rw [if_neg (by omega)], fun _ _ => rfl⟩
    · have hi2 : i < 40 := by
        clear h
        omega
      obtain ⟨w1, w2⟩ := fill75L fu (i + 1) s2 rr t h (by omega)
      refine ⟨fun q => ?_, fun x hx => by rw [w2 x hx, e2, us_k hx]⟩
      rw [w1 q, e2, us_if]
      by_cases y : q = i
      · rw [if_neg (by omega), if_pos y, if_pos (by omega)]
      · rw [if_neg y]
        by_cases y2 : i + 1 ≤ q ∧ q < 40
        · rw [if_pos y2, if_pos (by omega)]
        · rw [if_neg y2, if_neg (by omega)]
theorem fill75X {v rr : Int} {s t : PS} (h : M_J7_fill_d0a16_75 s v rr t) : (∀ q, q < 40 → t 75 q = v) ∧ ∀ x, ¬ x = 75 → t x = s x := by
  obtain ⟨fu, h⟩ := h
  unfold T_J7_fill_d0a16_75_e at h
  obtain ⟨_, h⟩ := h
  obtain ⟨w1, w2⟩ := fill75L fu 0 _ rr t h (Nat.zero_le _)
  exact ⟨fun q hq => by rw [w1 q, if_pos ⟨Nat.zero_le _, hq⟩], w2⟩
theorem fill77L {v : Int} : ∀ (fu i : Nat) (s : PS) (rr : Int) (t : PS), It_J7_fill_d0a16_77 fu v (i : Int) 240 s rr t → i ≤ 240 → (∀ q, t 77 q = if i ≤ q ∧ q < 240 then v else s 77 q) ∧ ∀ x, ¬ x = 77 → t x = s x
  | 0, i, s, rr, t, h, _ => False.elim h
  | fu + 1, i, s, rr, t, h, hi => by
    replace h := ul_J7_fill_d0a16_77_6 h
    unfold T_J7_fill_d0a16_77_6 at h
    obtain ⟨_, _, _, h⟩ := h
    rw [Int.toNat_natCast] at h
    rcases h with ⟨c, _, e⟩ | ⟨c, s2, e2, h⟩
    · rw [e]
      exact ⟨fun q => by rw [if_neg (by omega)], fun _ _ => rfl⟩
    · have hi2 : i < 240 := by
        clear h
        omega
      obtain ⟨w1, w2⟩ := fill77L fu (i + 1) s2 rr t h (by omega)
      refine ⟨fun q => ?_, fun x hx => by rw [w2 x hx, e2, us_k hx]⟩
      rw [w1 q, e2, us_if]
      by_cases y : q = i
      · rw [if_neg (by omega), if_pos y, if_pos (by omega)]
      · rw [if_neg y]
        by_cases y2 : i + 1 ≤ q ∧ q < 240
        · rw [if_pos y2, if_pos (by omega)]
        · rw [if_neg y2, if_neg (by omega)]
theorem fill77X {v rr : Int} {s t : PS} (h : M_J7_fill_d0a16_77 s v rr t) : (∀ q, q < 240 → t 77 q = v) ∧ ∀ x, ¬ x = 77 → t x = s x := by
  obtain ⟨fu, h⟩ := h
  unfold T_J7_fill_d0a16_77_e at h
  obtain ⟨_, h⟩ := h
  obtain ⟨w1, w2⟩ := fill77L fu 0 _ rr t h (Nat.zero_le _)
  exact ⟨fun q hq => by rw [w1 q, if_pos ⟨Nat.zero_le _, hq⟩], w2⟩
theorem fill80L {v : Int} : ∀ (fu i : Nat) (s : PS) (rr : Int) (t : PS), It_J7_fill_53178_80 fu v (i : Int) 40 s rr t → i ≤ 40 → (∀ q, t 80 q = if i ≤ q ∧ q < 40 then v else s 80 q) ∧ ∀ x, ¬ x = 80 → t x = s x
  | 0, i, s, rr, t, h, _ => False.elim h
  | fu + 1, i, s, rr, t, h, hi => by
    replace h := ul_J7_fill_53178_80_5 h
    unfold T_J7_fill_53178_80_5 at h
    obtain ⟨_, _, _, _, h⟩ := h
    rw [Int.toNat_natCast] at h
    rcases h with ⟨c, _, e⟩ | ⟨c, s2, e2, h⟩
    · rw [e]
      exact ⟨fun q => by rw [if_neg (by omega)], fun _ _ => rfl⟩
    · have hi2 : i < 40 := by
        clear h
        omega
      obtain ⟨w1, w2⟩ := fill80L fu (i + 1) s2 rr t h (by omega)
      refine ⟨fun q => ?_, fun x hx => by rw [w2 x hx, e2, us_k hx]⟩
      rw [w1 q, e2, us_if]
      by_cases y : q = i
      · rw [if_neg (by omega), if_pos y, if_pos (by omega)]
      · rw [if_neg y]
        by_cases y2 : i + 1 ≤ q ∧ q < 40
        · rw [if_pos y2, if_pos (by omega)]
        · rw [if_neg y2, if_neg (by omega)]
theorem fill80X {v rr : Int} {s t : PS} (h : M_J7_fill_53178_80 s v rr t) : (∀ q, q < 40 → t 80 q = v) ∧ ∀ x, ¬ x = 80 → t x = s x := by
  obtain ⟨fu, h⟩ := h
  unfold T_J7_fill_53178_80_e at h
  obtain ⟨_, _, h⟩ := h
  obtain ⟨w1, w2⟩ := fill80L fu 0 _ rr t h (Nat.zero_le _)
  exact ⟨fun q hq => by rw [w1 q, if_pos ⟨Nat.zero_le _, hq⟩], w2⟩
theorem fill82L {v : Int} : ∀ (fu i : Nat) (s : PS) (rr : Int) (t : PS), It_J7_fill_53178_82 fu v (i : Int) 40 s rr t → i ≤ 40 → (∀ q, t 82 q = if i ≤ q ∧ q < 40 then v else s 82 q) ∧ ∀ x, ¬ x = 82 → t x = s x
  | 0, i, s, rr, t, h, _ => False.elim h
  | fu + 1, i, s, rr, t, h, hi => by
    replace h := ul_J7_fill_53178_82_5 h
    unfold T_J7_fill_53178_82_5 at h
    obtain ⟨_, _, _, _, h⟩ := h
    rw [Int.toNat_natCast] at h
    rcases h with ⟨c, _, e⟩ | ⟨c, s2, e2, h⟩
    · rw [e]
      exact ⟨fun q => by rw [if_neg (by omega)], fun _ _ => rfl⟩
    · have hi2 : i < 40 := by
        clear h
        omega
      obtain ⟨w1, w2⟩ := fill82L fu (i + 1) s2 rr t h (by omega)
      refine ⟨fun q => ?_, fun x hx => by rw [w2 x hx, e2, us_k hx]⟩
      rw [w1 q, e2, us_if]
      by_cases y : q = i
      · rw [if_neg (by omega), if_pos y, if_pos (by omega)]
      · rw [if_neg y]
        by_cases y2 : i + 1 ≤ q ∧ q < 40
        · rw [if_pos y2, if_pos (by omega)]
        · rw [if_neg y2, if_neg (by omega)]
theorem fill82X {v rr : Int} {s t : PS} (h : M_J7_fill_53178_82 s v rr t) : (∀ q, q < 40 → t 82 q = v) ∧ ∀ x, ¬ x = 82 → t x = s x := by
  obtain ⟨fu, h⟩ := h
  unfold T_J7_fill_53178_82_e at h
  obtain ⟨_, _, h⟩ := h
  obtain ⟨w1, w2⟩ := fill82L fu 0 _ rr t h (Nat.zero_le _)
  exact ⟨fun q hq => by rw [w1 q, if_pos ⟨Nat.zero_le _, hq⟩], w2⟩
theorem fill67L {v : Int} : ∀ (fu i : Nat) (s : PS) (rr : Int) (t : PS), It_J7_fill_53178_67 fu v (i : Int) 40 s rr t → i ≤ 40 → (∀ q, t 67 q = if i ≤ q ∧ q < 40 then v else s 67 q) ∧ ∀ x, ¬ x = 67 → t x = s x
  | 0, i, s, rr, t, h, _ => False.elim h
  | fu + 1, i, s, rr, t, h, hi => by
    replace h := ul_J7_fill_53178_67_5 h
    unfold T_J7_fill_53178_67_5 at h
    obtain ⟨_, _, _, _, h⟩ := h
    rw [Int.toNat_natCast] at h
    rcases h with ⟨c, _, e⟩ | ⟨c, s2, e2, h⟩
    · rw [e]
      exact ⟨fun q => by rw [if_neg (by omega)], fun _ _ => rfl⟩
    · have hi2 : i < 40 := by
        clear h
        omega
      obtain ⟨w1, w2⟩ := fill67L fu (i + 1) s2 rr t h (by omega)
      refine ⟨fun q => ?_, fun x hx => by rw [w2 x hx, e2, us_k hx]⟩
      rw [w1 q, e2, us_if]
      by_cases y : q = i
      · rw [if_neg (by omega), if_pos y, if_pos (by omega)]
      · rw [if_neg y]
        by_cases y2 : i + 1 ≤ q ∧ q < 40
        · rw [if_pos y2, if_pos (by omega)]
        · rw [if_neg y2, if_neg (by omega)]
theorem fill67X {v rr : Int} {s t : PS} (h : M_J7_fill_53178_67 s v rr t) : (∀ q, q < 40 → t 67 q = v) ∧ ∀ x, ¬ x = 67 → t x = s x := by
  obtain ⟨fu, h⟩ := h
  unfold T_J7_fill_53178_67_e at h
  obtain ⟨_, _, h⟩ := h
  obtain ⟨w1, w2⟩ := fill67L fu 0 _ rr t h (Nat.zero_le _)
  exact ⟨fun q hq => by rw [w1 q, if_pos ⟨Nat.zero_le _, hq⟩], w2⟩
theorem fill109L {v : Int} : ∀ (fu i : Nat) (s : PS) (rr : Int) (t : PS), It_J7_fill_53178_109 fu v (i : Int) 10 s rr t → i ≤ 10 → (∀ q, t 109 q = if i ≤ q ∧ q < 10 then v else s 109 q) ∧ ∀ x, ¬ x = 109 → t x = s x
  | 0, i, s, rr, t, h, _ => False.elim h
  | fu + 1, i, s, rr, t, h, hi => by
    replace h := ul_J7_fill_53178_109_5 h
    unfold T_J7_fill_53178_109_5 at h
    obtain ⟨_, _, _, _, h⟩ := h
    rw [Int.toNat_natCast] at h
    rcases h with ⟨c, _, e⟩ | ⟨c, s2, e2, h⟩
    · rw [e]
      exact ⟨fun q => by rw [if_neg (by omega)], fun _ _ => rfl⟩
    · have hi2 : i < 10 := by
        clear h
        omega
      obtain ⟨w1, w2⟩ := fill109L fu (i + 1) s2 rr t h (by omega)
      refine ⟨fun q => ?_, fun x hx => by rw [w2 x hx, e2, us_k hx]⟩
      rw [w1 q, e2, us_if]
      by_cases y : q = i
      · rw [if_neg (by omega), if_pos y, if_pos (by omega)]
      · rw [if_neg y]
        by_cases y2 : i + 1 ≤ q ∧ q < 10
        · rw [if_pos y2, if_pos (by omega)]
        · rw [if_neg y2, if_neg (by omega)]
theorem fill109X {v rr : Int} {s t : PS} (h : M_J7_fill_53178_109 s v rr t) : (∀ q, q < 10 → t 109 q = v) ∧ ∀ x, ¬ x = 109 → t x = s x := by
  obtain ⟨fu, h⟩ := h
  unfold T_J7_fill_53178_109_e at h
  obtain ⟨_, _, h⟩ := h
  obtain ⟨w1, w2⟩ := fill109L fu 0 _ rr t h (Nat.zero_le _)
  exact ⟨fun q hq => by rw [w1 q, if_pos ⟨Nat.zero_le _, hq⟩], w2⟩
