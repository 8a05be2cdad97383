/-! the net of a giving: its lanes, one by one -/
abbrev TAG : Type := Nat × Nat × Nat
/-- 0: a kind comes on a day; 1: it waits till the next day; 2: a child's due; 3: a child gets a kind -/
def lnA (dy : Nat → Nat) (t : TAG) : Nat := if t.1 = 0 then 0 else if t.1 = 1 then 1 + 24 * t.2.1 + t.2.2 else if t.1 = 2 then 242 + t.2.1 else 1 + 24 * t.2.2 + dy t.2.1
def lnB (t : TAG) : Nat := if t.1 = 0 then 1 + 24 * t.2.1 + t.2.2 else if t.1 = 1 then 2 + 24 * t.2.1 + t.2.2 else if t.1 = 2 then 1 else 242 + t.2.1
def lnC (cm : Nat → Nat → Int) (D : Nat → Int) (t : TAG) : Int := if t.1 = 0 then cm t.2.1 t.2.2 else if t.1 = 1 then 268435456 else if t.1 = 2 then D t.2.1 else 1
def lnW (Pt : Nat → Nat → Int) (t : TAG) : Int := if t.1 = 3 then - Pt t.2.1 t.2.2 else 0
def tgD (cm : Nat → Nat → Int) (k e : Nat) : List TAG := (if 0 < cm k (e + 1) then [(0, k, e + 1)] else []) ++ (if e + 1 < 24 then [(1, k, e + 1)] else [])
def tgK (cm : Nat → Nat → Int) (k : Nat) : List TAG := catN (tgD cm k) 24
def tgP (al : Nat → Nat → Bool) (c k : Nat) : List TAG := if al c k = true then [(3, c, k)] else []
def tgC (K : Nat) (al : Nat → Nat → Bool) (c : Nat) : List TAG := (2, c, 0) :: catN (tgP al c) K
def tgG (n K : Nat) (cm : Nat → Nat → Int) (al : Nat → Nat → Bool) : List TAG := catN (tgK cm) K ++ catN (tgC K al) n
def tix (t : TAG) : List TAG → Nat
  | [] => 0
  | x :: l => if x = t then 0 else tix t l + 1
def tgAt (l : List TAG) (j : Nat) : TAG := match l[j]? with
  | some t => t
  | none => (2, 0, 0)
/-- a list whose keys grow -/
def tSI (key : TAG → Nat) (l : List TAG) (lo hi : Nat) : Prop := lo ≤ hi ∧ l.Pairwise (fun a b => key a < key b) ∧ ∀ x ∈ l, lo ≤ key x ∧ key x < hi
def tkey (t : TAG) : Nat := if t.1 = 0 then 48 * t.2.1 + 2 * t.2.2 else if t.1 = 1 then 48 * t.2.1 + 2 * t.2.2 + 1 else if t.1 = 2 then 1000 + 20 * t.2.1 else 1001 + 20 * t.2.1 + t.2.2
section Tags
variable {n K : Nat} {D : Nat → Int} {dy : Nat → Nat} {al : Nat → Nat → Bool} {cm : Nat → Nat → Int} {Pt X Y : Nat → Nat → Int} {f : Nat → Int} {v : Int} {key : TAG → Nat}
theorem tSI.le {l : List TAG} {lo hi : Nat} (h : tSI key l lo hi) : lo ≤ hi := h.1
theorem tSI.wk {l : List TAG} {lo hi lo2 : Nat} (h : tSI key l lo hi) (h2 : lo2 ≤ lo) : tSI key l lo2 hi := ⟨Nat.le_trans h2 h.1, h.2.1, fun x hx => ⟨Nat.le_trans h2 (h.2.2 x hx).1, (h.2.2 x hx).2⟩⟩
theorem tSI.app {l k : List TAG} {lo mid hi : Nat} (h : tSI key l lo mid) (h2 : tSI key k mid hi) : tSI key (l ++ k) lo hi := by
  refine ⟨Nat.le_trans h.1 h2.1, List.pairwise_append.mpr ⟨h.2.1, h2.2.1, fun a ha b hb => ?_⟩, fun x hx => ?_⟩
  · have z := (h.2.2 a ha).2
    have y := (h2.2.2 b hb).1
    omega
  · rcases List.mem_append.mp hx with e | e
    · have z := h.2.2 x e
      have y := h2.1
      omega
    · have z := h2.2.2 x e
      have y := h.1
      omega
theorem tSI.nil {lo hi : Nat} (h : lo ≤ hi) : tSI key [] lo hi := ⟨h, List.Pairwise.nil, fun x hx => absurd hx List.not_mem_nil⟩
theorem tSI.cons {x : TAG} {l : List TAG} {lo hi lo2 : Nat} (h1 : lo ≤ key x) (h2 : key x < lo2) (h : tSI key l lo2 hi) : tSI key (x :: l) lo hi := by
  have hle := h.1
  refine ⟨by omega, List.pairwise_cons.mpr ⟨fun b hb => ?_, h.2.1⟩, fun y hy => ?_⟩
  · have z := (h.2.2 b hb).1
    omega
  · rcases List.mem_cons.mp hy with e | e
    · rw [e]
      omega
    · have z := h.2.2 y e
      omega
theorem tSI.cat {g : Nat → List TAG} {b : Nat → Nat} : ∀ n : Nat, (∀ i, i < n → tSI key (g i) (b i) (b (i + 1))) → tSI key (catN g n) (b 0) (b n)
  | 0, _ => tSI.nil (Nat.le_refl _)
  | n + 1, h => tSI.app (tSI.cat n (fun i hi => h i (by omega))) (h n (by omega))
theorem tSI.mem {l : List TAG} {lo hi : Nat} (h : tSI key l lo hi) : ∀ x ∈ l, lo ≤ key x := fun x hx => (h.2.2 x hx).1
theorem tix_pw : ∀ {l : List TAG}, l.Pairwise (fun a b => key a < key b) → ∀ (j : Nat) (h : j < l.length), tix l[j] l = j
  | [], _, j, h => absurd h (Nat.not_lt_zero _)
  | x :: l, hS, 0, h => if_pos rfl
  | x :: l, hS, j + 1, h => by
    have hj : j < l.length := by
      rw [List.length_cons] at h
      omega
    have z := (List.pairwise_cons.mp hS).1 l[j] (List.getElem_mem hj)
    show (if x = l[j] then 0 else tix l[j] l + 1) = j + 1
    rw [if_neg (fun e => by rw [← e] at z; omega), tix_pw (List.pairwise_cons.mp hS).2 j hj]
theorem tix_at {l : List TAG} {lo hi : Nat} (h : tSI key l lo hi) (j : Nat) (hj : j < l.length) : tix l[j] l = j := tix_pw h.2.1 j hj
theorem tix_mem : ∀ {l : List TAG} {t : TAG}, t ∈ l → ∃ h : tix t l < l.length, l[tix t l] = t
  | [], t, h => absurd h List.not_mem_nil
  | x :: l, t, h => by
    by_cases c : x = t
    · have e : tix t (x :: l) = 0 := if_pos c
      refine ⟨by rw [e, List.length_cons]; omega, ?_⟩
      simp only [e]
      exact c
    · have hm : t ∈ l := by
        rcases List.mem_cons.mp h with e | e
        · exact absurd e.symm c
        · exact e
      obtain ⟨h1, h2⟩ := tix_mem hm
      have e : tix t (x :: l) = tix t l + 1 := if_neg c
      refine ⟨by rw [e, List.length_cons]; omega, ?_⟩
      simp only [e]
      exact h2
theorem tgAt_lt {l : List TAG} {j : Nat} (h : j < l.length) : tgAt l j = l[j] := by
  unfold tgAt
  rw [List.getElem?_eq_getElem h]
theorem SI_if {p : Prop} [Decidable p] {x : TAG} {lo hi : Nat} (h1 : p → lo ≤ tkey x) (h2 : p → tkey x < hi) (h3 : lo ≤ hi) : tSI tkey (if p then [x] else []) lo hi := by
  by_cases c : p
  · rw [if_pos c]
    exact tSI.cons (h1 c) (h2 c) (tSI.nil (Nat.le_refl hi))
  · rw [if_neg c]
    exact tSI.nil h3
theorem tk_0 {k d : Nat} : tkey (0, k, d) = 48 * k + 2 * d := by
  unfold tkey
  rw [if_pos rfl]
theorem tk_1 {k d : Nat} : tkey (1, k, d) = 48 * k + 2 * d + 1 := by
  unfold tkey
  rw [if_neg (show ¬ (1 : Nat) = 0 by decide), if_pos rfl]
theorem tk_2 {c d : Nat} : tkey (2, c, d) = 1000 + 20 * c := by
  unfold tkey
  rw [if_neg (show ¬ (2 : Nat) = 0 by decide), if_neg (show ¬ (2 : Nat) = 1 by decide), if_pos rfl]
theorem tk_3 {c k : Nat} : tkey (3, c, k) = 1001 + 20 * c + k := by
  unfold tkey
  rw [if_neg (show ¬ (3 : Nat) = 0 by decide), if_neg (show ¬ (3 : Nat) = 1 by decide), if_neg (show ¬ (3 : Nat) = 2 by decide)]
theorem tgD_si {k e : Nat} : tSI tkey (tgD cm k e) (48 * k + 2 * e + 2) (48 * k + 2 * (e + 1) + 2) := by
  unfold tgD
  exact tSI.app (mid := 48 * k + 2 * e + 3) (SI_if (fun _ => by rw [tk_0]; omega) (fun _ => by rw [tk_0]; omega) (by omega)) (SI_if (fun _ => by rw [tk_1]; omega) (fun _ => by rw [tk_1]; omega) (by omega))
theorem tgN_si {k : Nat} (N : Nat) : tSI tkey (catN (tgD cm k) N) (48 * k + 2 * 0 + 2) (48 * k + 2 * N + 2) := tSI.cat (key := tkey) (g := tgD cm k) (b := fun e => 48 * k + 2 * e + 2) N (fun e _ => tgD_si)
theorem tgN_si2 {k N : Nat} (hN : N = 24) : tSI tkey (catN (tgD cm k) N) (48 * k + 2) (48 * (k + 1) + 2) := by
  have e1 : 48 * k + 2 * N + 2 = 48 * (k + 1) + 2 := by omega
  rw [← e1]
  exact tgN_si N
theorem tgK_si {k : Nat} : tSI tkey (tgK cm k) (48 * k + 2) (48 * (k + 1) + 2) := tgN_si2 rfl
theorem tgC_si (hK : K ≤ 10) {c : Nat} : tSI tkey (tgC K al c) (1000 + 20 * c) (1000 + 20 * (c + 1)) := by
  have w : tSI tkey (catN (tgP al c) K) (1001 + 20 * c + 0) (1001 + 20 * c + K) := tSI.cat (key := tkey) (g := tgP al c) (b := fun k => 1001 + 20 * c + k) K (fun k hk => by
    unfold tgP
    exact SI_if (fun _ => by rw [tk_3]; exact Nat.le_refl _) (fun _ => by rw [tk_3]; exact Nat.lt_succ_self _) (by show 1001 + 20 * c + k ≤ 1001 + 20 * c + (k + 1); omega))
  have q : tSI tkey ([] : List TAG) (1001 + 20 * c + K) (1000 + 20 * (c + 1)) := tSI.nil (by omega)
  have x := tSI.app w q
  rw [List.append_nil] at x
  unfold tgC
  exact tSI.cons (lo2 := 1001 + 20 * c + 0) (by rw [tk_2]; exact Nat.le_refl _) (by rw [tk_2]; omega) x
theorem tgG_si (hK : K ≤ 10) : tSI tkey (tgG n K cm al) 2 (1000 + 20 * n) := by
  have s1 : tSI tkey (catN (tgK cm) K) (48 * 0 + 2) (48 * K + 2) := tSI.cat (key := tkey) (g := tgK cm) (b := fun k => 48 * k + 2) K (fun k _ => tgK_si)
  have s2 : tSI tkey (catN (tgC K al) n) (1000 + 20 * 0) (1000 + 20 * n) := tSI.cat (key := tkey) (g := tgC K al) (b := fun c => 1000 + 20 * c) n (fun c hc => tgC_si hK)
  unfold tgG
  exact tSI.app s1 (s2.wk (by omega))
theorem sum_tg (F : TAG → Int) : sgL F (tgG n K cm al) = sgN (fun k => sgN (fun e => (if 0 < cm k (e + 1) then F (0, k, e + 1) else 0) + (if e + 1 < 24 then F (1, k, e + 1) else 0)) 24) K + sgN (fun c => F (2, c, 0) + sgN (fun k => if al c k = true then F (3, c, k) else 0) K) n := by
  have a : sgN (fun k => sgL F (tgK cm k)) K = sgN (fun k => sgN (fun e => (if 0 < cm k (e + 1) then F (0, k, e + 1) else 0) + (if e + 1 < 24 then F (1, k, e + 1) else 0)) 24) K := sgN_cg K (fun k _ => by
    unfold tgK
    rw [sgL_cat]
    exact sgN_cg 24 (fun e _ => by
      unfold tgD
      rw [sgL_app, sgL_if, sgL_if]))
  have b : sgN (fun c => sgL F (tgC K al c)) n = sgN (fun c => F (2, c, 0) + sgN (fun k => if al c k = true then F (3, c, k) else 0) K) n := sgN_cg n (fun c _ => by
    have z : sgL F (catN (tgP al c) K) = sgN (fun k => if al c k = true then F (3, c, k) else 0) K := by
      rw [sgL_cat]
      exact sgN_cg K (fun k _ => by
        unfold tgP
        rw [sgL_if])
    show F (2, c, 0) + sgL F (catN (tgP al c) K) = _
    rw [z])
  unfold tgG
  rw [sgL_app, sgL_cat, sgL_cat, a, b]
theorem mem_pair {c k : Nat} (hc : c < n) (hk : k < K) (h : al c k = true) : (3, c, k) ∈ tgG n K cm al := by
  refine List.mem_append.mpr (Or.inr ((mem_catN n).mpr ⟨c, hc, List.mem_cons.mpr (Or.inr ((mem_catN K).mpr ⟨k, hk, ?_⟩))⟩))
  unfold tgP
  rw [if_pos h]
  exact List.mem_singleton.mpr rfl
theorem mem_sink {c : Nat} (hc : c < n) : (2, c, 0) ∈ tgG n K cm al := List.mem_append.mpr (Or.inr ((mem_catN n).mpr ⟨c, hc, List.mem_cons.mpr (Or.inl rfl)⟩))
theorem mem_src {k e : Nat} (hk : k < K) (he : e < 24) (h : 0 < cm k (e + 1)) : (0, k, e + 1) ∈ tgG n K cm al := by
  refine List.mem_append.mpr (Or.inl ((mem_catN K).mpr ⟨k, hk, (mem_catN 24).mpr ⟨e, he, List.mem_append.mpr (Or.inl ?_)⟩⟩))
  rw [if_pos h]
  exact List.mem_singleton.mpr rfl
theorem mem_wait {k e : Nat} (hk : k < K) (he : e + 1 < 24) : (1, k, e + 1) ∈ tgG n K cm al := by
  refine List.mem_append.mpr (Or.inl ((mem_catN K).mpr ⟨k, hk, (mem_catN 24).mpr ⟨e, by omega, List.mem_append.mpr (Or.inr ?_)⟩⟩))
  rw [if_pos he]
  exact List.mem_singleton.mpr rfl
/-- each lane of the list is such -/
theorem tg_all {P : TAG → Prop} (h0 : ∀ k e, k < K → e < 24 → 0 < cm k (e + 1) → P (0, k, e + 1)) (h1 : ∀ k e, k < K → e + 1 < 24 → P (1, k, e + 1)) (h2 : ∀ c, c < n → P (2, c, 0)) (h3 : ∀ c k, c < n → k < K → al c k = true → P (3, c, k)) : ∀ t ∈ tgG n K cm al, P t := by
  intro t ht
  rcases List.mem_append.mp ht with h | h
  · obtain ⟨k, hk, h⟩ := (mem_catN K).mp h
    obtain ⟨e, he, h⟩ := (mem_catN 24).mp h
    rcases List.mem_append.mp h with h | h
    · by_cases c : 0 < cm k (e + 1)
      · rw [if_pos c] at h
        rw [List.mem_singleton.mp h]
        exact h0 k e hk he c
      · rw [if_neg c] at h
        exact absurd h List.not_mem_nil
    · by_cases c : e + 1 < 24
      · rw [if_pos c] at h
        rw [List.mem_singleton.mp h]
        exact h1 k e hk c
      · rw [if_neg c] at h
        exact absurd h List.not_mem_nil
  · obtain ⟨c, hc, h⟩ := (mem_catN n).mp h
    rcases List.mem_cons.mp h with h | h
    · rw [h]
      exact h2 c hc
    · obtain ⟨k, hk, h⟩ := (mem_catN K).mp h
      unfold tgP at h
      by_cases z : al c k = true
      · rw [if_pos z] at h
        rw [List.mem_singleton.mp h]
        exact h3 c k hc hk z
      · rw [if_neg z] at h
        exact absurd h List.not_mem_nil
end Tags
