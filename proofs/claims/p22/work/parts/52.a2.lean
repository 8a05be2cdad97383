/-! nets: m lanes from A to B, room C, price W; a flow is best if a price at each post says so -/
section NetP
variable {m : Nat} {A B : Nat → Nat} {C W f g : Nat → Int} {fz : Nat → Prop} {pi : Nat → Int} {v v2 : Int}
/-- what flows in and out: from post 0 to post 1, v in all -/
def Bal (m : Nat) (A B : Nat → Nat) (f : Nat → Int) (v : Int) : Prop := ∀ pi : Nat → Int, sgN (fun j => (pi (B j) - pi (A j)) * f j) m = (pi 1 - pi 0) * v
/-- within the lanes' room -/
def Cap (m : Nat) (C f : Nat → Int) : Prop := ∀ j, j < m → 0 ≤ f j ∧ f j ≤ C j
/-- the lanes of fz have their flow for good -/
def Agr (m : Nat) (fz : Nat → Prop) (f g : Nat → Int) : Prop := ∀ j, j < m → fz j → g j = f j
/-- pi is a price at each post by which no change is worth while -/
def Pot (m : Nat) (A B : Nat → Nat) (C W f : Nat → Int) (fz : Nat → Prop) (pi : Nat → Int) : Prop := ∀ j, j < m → ¬ fz j → (f j < C j → 0 ≤ W j + pi (A j) - pi (B j)) ∧ (0 < f j → W j + pi (A j) - pi (B j) ≤ 0)
def cost (m : Nat) (W f : Nat → Int) : Int := sgN (fun j => W j * f j) m
theorem mul_nn {x y : Int} (h : (0 < y → 0 ≤ x) ∧ (y < 0 → x ≤ 0)) : 0 ≤ x * y := by
  rcases Int.lt_trichotomy y 0 with c | c | c
  · have a := h.2 c
    have z := Int.mul_nonneg (a := - x) (b := - y) (by omega) (by omega)
    rw [Int.neg_mul_neg] at z
    exact z
  · rw [c, Int.mul_zero]
    exact Int.le_refl 0
  · exact Int.mul_nonneg (h.1 c) (by omega)
theorem mul_np {x y : Int} (h : (0 < y → x ≤ 0) ∧ (y < 0 → 0 ≤ x)) : x * y ≤ 0 := by
  have z := mul_nn (x := - x) (y := y) ⟨fun c => by have := h.1 c; omega, fun c => by have := h.2 c; omega⟩
  rw [Int.neg_mul] at z
  omega
theorem Bal.dif (hf : Bal m A B f v) (hg : Bal m A B g v2) (pi : Nat → Int) : sgN (fun j => (pi (B j) - pi (A j)) * (g j - f j)) m = (pi 1 - pi 0) * (v2 - v) := by
  have e : sgN (fun j => (pi (B j) - pi (A j)) * (g j - f j)) m = sgN (fun j => (pi (B j) - pi (A j)) * g j - (pi (B j) - pi (A j)) * f j) m := sgN_cg m (fun j _ => Int.mul_sub _ _ _)
  rw [e, sgN_sub, hf pi, hg pi, ← Int.mul_sub]
/-- each lane's share -/
theorem Pot.nn (hP : Pot m A B C W f fz pi) (hf : Cap m C f) (hg : Cap m C g) (ha : Agr m fz f g) (j : Nat) (hj : j < m) : 0 ≤ (W j + pi (A j) - pi (B j)) * (g j - f j) := by
  by_cases c : fz j
  · rw [ha j hj c, Int.sub_self, Int.mul_zero]
    exact Int.le_refl 0
  · have p := hP j hj c
    have a := hf j hj
    have b := hg j hj
    exact mul_nn ⟨fun z => p.1 (by omega), fun z => p.2 (by omega)⟩
theorem cost_dif (hf : Bal m A B f v) (hg : Bal m A B g v2) (pi : Nat → Int) : cost m W g - cost m W f = sgN (fun j => (W j + pi (A j) - pi (B j)) * (g j - f j)) m + (pi 1 - pi 0) * (v2 - v) := by
  rw [← hf.dif hg pi, ← sgN_add]
  unfold cost
  rw [← sgN_sub]
  refine sgN_cg m (fun j _ => ?_)
  rw [← Int.add_mul, ← Int.mul_sub]
  congr 1
  omega
/-- no flow as large is cheaper -/
theorem Pot.best (hP : Pot m A B C W f fz pi) (hf : Cap m C f) (hg : Cap m C g) (ha : Agr m fz f g) (bf : Bal m A B f v) (bg : Bal m A B g v) : cost m W f ≤ cost m W g := by
  have z := cost_dif (W := W) bf bg pi
  have y := sgN_nn m (hP.nn hf hg ha)
  rw [Int.sub_self, Int.mul_zero] at z
  omega
/-- nor as cheap, if it uses a lane that costs more than its ends -/
theorem Pot.strict (hP : Pot m A B C W f fz pi) (hf : Cap m C f) (hg : Cap m C g) (ha : Agr m fz f g) (bf : Bal m A B f v) (bg : Bal m A B g v) {j : Nat} (hj : j < m) (hr : 0 < W j + pi (A j) - pi (B j)) (hgj : f j < g j) : cost m W f < cost m W g := by
  have z := cost_dif (W := W) bf bg pi
  have y := sgN_gt hj (hP.nn hf hg ha) (Int.mul_pos hr (by omega))
  rw [Int.sub_self, Int.mul_zero] at z
  omega
/-- the posts with q = 0 can't be left: nothing more can flow out of them -/
theorem cut_le {q : Nat → Int} (hq : ∀ x, q x = 0 ∨ q x = 1) (hf : Cap m C f) (hg : Cap m C g) (ha : Agr m fz f g) (bf : Bal m A B f v) (bg : Bal m A B g v2) (hR : ∀ j, j < m → ¬ fz j → (f j < C j → q (A j) = 0 → q (B j) = 0) ∧ (0 < f j → q (B j) = 0 → q (A j) = 0)) : (q 1 - q 0) * (v2 - v) ≤ 0 ∧ ∀ j, j < m → q (A j) = 1 → q (B j) = 0 → f j < g j → (q 1 - q 0) * (v2 - v) < 0 := by
  have e := bf.dif bg q
  have nn : ∀ j, j < m → (q (B j) - q (A j)) * (g j - f j) ≤ 0 := by
    intro j hj
    by_cases c : fz j
    · rw [ha j hj c, Int.sub_self, Int.mul_zero]
      exact Int.le_refl 0
    · have p := hR j hj c
      have a := hf j hj
      have b := hg j hj
      have qa := hq (A j)
      have qb := hq (B j)
      refine mul_np ⟨fun z => ?_, fun z => ?_⟩
      · have y := p.1 (by omega)
        rcases qa with x | x
        · rw [x, y x]
          exact Int.le_refl 0
        · omega
      · have y := p.2 (by omega)
        rcases qb with x | x
        · rw [x, y x]
          exact Int.le_refl 0
        · omega
  rw [← e]
  refine ⟨sgN_np m nn, fun j hj h1 h2 h3 => sgN_lt hj nn ?_⟩
  rw [h1, h2]
  have z : (0 - 1 : Int) * (g j - f j) = - (g j - f j) := by rw [Int.zero_sub, Int.neg_mul, Int.one_mul]
  rw [z]
  omega
end NetP
