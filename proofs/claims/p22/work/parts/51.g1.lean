/-! the class's facts of a child, and values of pieces of code -/
section GatherX
variable {b : BST} {S : KS} {k kd a n : Nat} {o : OT} {s t u : PS} {r : Int} {C : List OPc} {OL : List OT} {A : List (List Nat)} {lf : OPc → Int}
/-- the value of a piece of code, in the book in use -/
theorem value1X {l : List OPc} {i : Nat} {p2 p3 v : Int} (h : M_X5_value_1 s p2 p3 1 r t) (h2 : p2 = (i : Int)) (h3 : p3 = ((i + l.length : Nat) : Int)) (hO : ∀ (j : Nat) (h : j < l.length), OpX A l[j] (s 14 (i + j))) (hL : LfX 7 1 A lf s) (hv : evX lf 1 l [] = [v]) : r = v ∧ ∀ k, ¬ k = 63 → t k = s k := by
  obtain ⟨m, h⟩ := h
  unfold T_X5_value_1_e at h
  obtain ⟨_, _, _, _, h⟩ := h
  rw [h2] at h
  exact valueL1 l m i 0 [] s r t h hO (by rw [h3]; omega) True.intro hL hv
theorem gath69 {ws : List (List Nat)} (hk : k ≤ 39) (ok : WsOk ws) (hA : ∀ w ∈ A, LW w) : ∀ (m i : Nat) (y z : Int) (s : PS) (r : Int) (t : PS), It_X5_gatherFacts_1_42 m 69 (k : Int) (i : Int) y z s r t → WsX ws k s → s 1 19 = (A.length : Int) → (∀ (j : Nat) (h : j < A.length), s 15 j = ((e5 A[j] : Nat) : Int)) → i ≤ A.length → (∀ (j : Nat) (w : List Nat), j < i → A[j]? = some w → s 62 j = if w ∈ ws then 1 else 0) → (∀ (j : Nat) (w : List Nat), A[j]? = some w → t 62 j = if w ∈ ws then 1 else 0) ∧ ∀ m, ¬ m = 62 → t m = s m := by
  intro m
  induction m using Nat.strongRecOn with
  | ind m ih =>
  intro i y z s r t h hW hl he hi hd
  cases m with
  | zero => exact False.elim h
  | succ m =>
    replace h := ul_X5_gatherFacts_1_42_69 h
    unfold T_X5_gatherFacts_1_42_69 at h
    obtain ⟨_, _, hi200, h⟩ := h
    rw [hl, Int.toNat_natCast] at h
    rcases h with ⟨c, _, ht⟩ | ⟨c, r5, s4, m4, _, _, _, h⟩
    · rw [ht]
      refine ⟨fun j w hj => hd j w ?_ hj, fun _ _ => rfl⟩
      have z := (List.getElem?_eq_some_iff.mp hj).1
      omega
    · have hi2 : i < A.length := by
        clear h
        omega
      rw [he i hi2] at m4
      obtain ⟨q4, k4⟩ := wantsX hk (hA _ (List.getElem_mem hi2)) ok m4 hW
      rw [q4] at h
      have go : ∀ y : Int, It_X5_gatherFacts_1_42 m 104 (k : Int) (i : Int) y (i : Int) s r t → y = (if A[i] ∈ ws then 1 else 0) → (∀ (j : Nat) (w : List Nat), A[j]? = some w → t 62 j = if w ∈ ws then 1 else 0) ∧ ∀ m, ¬ m = 62 → t m = s m := by
        intro y h hy
        cases m with
        | zero => exact False.elim h
        | succ m =>
          replace h := ul_X5_gatherFacts_1_42_104 h
          unfold T_X5_gatherFacts_1_42_104 at h
          obtain ⟨_, _, _, _, _, s1, e1, h⟩ := h
          rw [Int.toNat_natCast] at e1
          have ek : ∀ m, ¬ m = 62 → s1 m = s m := fun m hm => by rw [e1, us_k hm]
          have w := ih m (by omega) (i + 1) 0 0 s1 r t h ⟨by rw [ek 51 (by decide)]; exact hW.1, fun j hj => by rw [ek 52 (by decide)]; exact hW.2 j hj⟩ (by rw [ek 1 (by decide)]; exact hl) (fun j hj => by rw [ek 15 (by decide)]; exact he j hj) (by omega) (fun j w hj hw => by
            by_cases e : j = i
            · subst e
              rw [e1, us_at, hy]
              have z := (List.getElem?_eq_some_iff.mp hw).2
              rw [z]
            · rw [e1, us_j e]
              exact hd j w (by omega) hw)
          exact ⟨w.1, fun m hm => (w.2 m hm).trans (ek m hm)⟩
      rcases h with ⟨c5, h⟩ | ⟨c5, h⟩
      · refine go 0 h ?_
        rcases k4 with ⟨x, _⟩ | ⟨_, x⟩
        · omega
        · rw [if_neg x]
      · refine go 1 h ?_
        rcases k4 with ⟨_, x⟩ | ⟨x, _⟩
        · rw [if_pos x]
        · exact absurd x c5
theorem kcx_cg (h : KCX S s) (e : ∀ m, 42 ≤ m → m ≤ 52 → t m = s m) : KCX S t := by
  refine ⟨by rw [e 42 (by decide) (by decide)]; exact h.1, fun k hk => ?_⟩
  have z := h.2 k hk
  unfold CX at z ⊢
  rw [e 43 (by decide) (by decide), e 44 (by decide) (by decide), e 45 (by decide) (by decide), e 46 (by decide) (by decide), e 47 (by decide) (by decide), e 48 (by decide) (by decide), e 49 (by decide) (by decide), e 50 (by decide) (by decide), e 51 (by decide) (by decide), e 52 (by decide) (by decide)]
  exact z
/-- the facts of a child, and its wishes among those that are asked for -/
theorem gatherX (hk : k < S.1) (hS : KsOk n S) (hK : KCX S s) (hA : ∀ w ∈ A, LW w) (hl : s 1 19 = (A.length : Int)) (he : ∀ (j : Nat) (h : j < A.length), s 15 j = ((e5 A[j] : Nat) : Int)) (h : M_X5_gatherFacts_1_42 s (k : Int) r t) : (∀ i, i < 5 → fcF S k i = t 61 i) ∧ (∀ (j : Nat) (w : List Nat), A[j]? = some w → t 62 j = grF S k w) ∧ ∀ m, ¬ m = 61 → ¬ m = 62 → t m = s m := by
  obtain ⟨m, h⟩ := h
  unfold T_X5_gatherFacts_1_42_e at h
  obtain ⟨_, _, s9, e9, s13, e13, s15, e15, r17, s16, m16, _, _, s19, e19, s21, e21, h⟩ := h
  have h40 := hS.1
  have k39 : k ≤ 39 := by
    clear h
    omega
  have cx := hK.2 k hk
  have ok := hS.2.2.1 k hk
  obtain ⟨_, x44, x45, x46, x47, _, _, _, x51, x52⟩ := id cx
  obtain ⟨_, _, o3, o4, _, _, _, _, ows⟩ := id ok
  simp only [Int.toNat_natCast] at e9 e13 e15 e21
  have q15 : ∀ m, ¬ m = 61 → s15 m = s m := fun m hm => by rw [e15, us_k hm, e13, us_k hm, e9, us_k hm]
  obtain ⟨q16, e17⟩ := matesX hk h40 (kcx_cg hK (fun m h1 h2 => q15 m (by omega))) m16
  have q21 : ∀ m, ¬ m = 61 → s21 m = s m := fun m hm => by rw [e21, us_k hm, e19, us_k hm, q16, q15 m hm]
  have v0 : s21 61 0 = cAge (S.2.1 k) := by rw [e21, us_j (by decide), e19, us_j (by decide), q16, e15, us_j (by decide), e13, us_j (by decide), e9, us_at, x44]
  have v1 : s21 61 1 = cMst (S.2.1 k) - cLst (S.2.1 k) := by
    rw [e21, us_j (by decide), e19, us_j (by decide), q16, e15, us_j (by decide), e13, us_at, x45, x46, wi_id (by omega) (by omega)]
  have v2 : s21 61 2 = cSch (S.2.1 k) := by rw [e21, us_j (by decide), e19, us_j (by decide), q16, e15, us_at, x47]
  have v3 : s21 61 3 = mtF S k := by rw [e21, us_j (by decide), e19, us_at, e17]
  have v4 : s21 61 4 = ((cWsh (S.2.1 k)).length : Int) := by rw [e21, us_at, x51]
  have w := gath69 (A := A) k39 ows hA m 0 0 0 s21 r t h ⟨by rw [q21 51 (by decide)]; exact x51, fun j hj => by rw [q21 52 (by decide)]; exact x52 j hj⟩ (by rw [q21 1 (by decide)]; exact hl) (fun j hj => by rw [q21 15 (by decide)]; exact he j hj) (Nat.zero_le _) (fun j w hj => absurd hj (Nat.not_lt_zero _))
  refine ⟨fun i hi => ?_, fun j x hj => w.1 j x hj, fun m h1 h2 => (w.2 m h2).trans (q21 m h1)⟩
  rw [w.2 61 (by decide)]
  unfold fcF
  rcases (show i = 0 ∨ i = 1 ∨ i = 2 ∨ i = 3 ∨ i = 4 by omega) with e | e | e | e | e
  · rw [e, if_pos rfl, v0]
  · rw [e, if_neg (by decide), if_pos rfl, v1]
  · rw [e, if_neg (by decide), if_neg (by decide), if_pos rfl, v2]
  · rw [e, if_neg (by decide), if_neg (by decide), if_neg (by decide), if_pos rfl, v3]
  · rw [e, if_neg (by decide), if_neg (by decide), if_neg (by decide), if_neg (by decide), v4]
end GatherX
