/-! the ranker: what is seen bears the stamp, or what it bore -/
def StpM (s t : PS) : Prop := t 81 4 = s 81 4 ∧ (∀ x, t 83 x = s 83 x ∨ t 83 x = s 81 4) ∧ ∀ x, t 85 x = s 85 x ∨ t 85 x = s 81 4
section StMs
variable {s t u : PS} {rr : Int}
theorem StpM.rf : StpM s s := ⟨rfl, fun _ => Or.inl rfl, fun _ => Or.inl rfl⟩
theorem StpM.tr (a : StpM s u) (b : StpM u t) : StpM s t := by
  obtain ⟨a1, a2, a3⟩ := a
  obtain ⟨b1, b2, b3⟩ := b
  refine ⟨b1.trans a1, fun x => ?_, fun x => ?_⟩
  · rcases b2 x with y | y
    · rw [y]
      exact a2 x
    · exact Or.inr (by rw [y, a1])
  · rcases b3 x with y | y
    · rw [y]
      exact a3 x
    · exact Or.inr (by rw [y, a1])
theorem StpM.on {k j : Nat} {v : Int} (e : t = us s k j v) (h3 : ¬ 83 = k) (h5 : ¬ 85 = k) (h1 : ¬ (81 = k ∧ 4 = j)) : StpM s t := by
  rw [e]
  exact ⟨us_n h1, fun x => Or.inl (us_n (fun q => h3 q.1)), fun x => Or.inl (us_n (fun q => h5 q.1))⟩
theorem StpM.o83 {j : Nat} (e : t = us s 83 j (s 81 4)) : StpM s t := by
  rw [e]
  refine ⟨us_n (fun q => absurd q.1 (by decide)), fun x => ?_, fun x => Or.inl (us_n (fun q => absurd q.1 (by decide)))⟩
  rw [us_if]
  by_cases c : x = j
  · rw [if_pos c]
    exact Or.inr rfl
  · rw [if_neg c]
    exact Or.inl rfl
theorem StpM.o85 {j : Nat} (e : t = us s 85 j (s 81 4)) : StpM s t := by
  rw [e]
  refine ⟨us_n (fun q => absurd q.1 (by decide)), fun x => Or.inl (us_n (fun q => absurd q.1 (by decide))), fun x => ?_⟩
  rw [us_if]
  by_cases c : x = j
  · rw [if_pos c]
    exact Or.inr rfl
  · rw [if_neg c]
    exact Or.inl rfl
theorem StpM.f0 (h : Fr intsX [] [] s t) : StpM s t := by
  have e : t = s := funext (fun k => h.1 k List.not_mem_nil)
  rw [e]
  exact StpM.rf
theorem seeRowSt {p1 : Int} {p2 : Int} (m : M_X9_seeRow s p1 p2 rr t) : StpM s t := by
  unfold M_X9_seeRow T_X9_seeRow_e at m
  obtain ⟨_, _, _, s1, es1, s2, es2, s3, es3, s4, es4, m⟩ := m
  rcases m with m | m
  · obtain ⟨_, m⟩ := m
    rcases m with m | m
    · obtain ⟨_, _, m⟩ := m
      rw [m]
      exact ((((StpM.rf.tr (StpM.o83 es1)).tr (StpM.on es2 (by decide) (by decide) (fun q => absurd q.1 (by decide)))).tr (StpM.on es3 (by decide) (by decide) (fun q => absurd q.1 (by decide)))).tr (StpM.on es4 (by decide) (by decide) (by decide)))
    · obtain ⟨_, m⟩ := m
      rcases m with m | m
      · obtain ⟨_, s10, es10, _, m⟩ := m
        rw [m]
        exact (((((StpM.rf.tr (StpM.o83 es1)).tr (StpM.on es2 (by decide) (by decide) (fun q => absurd q.1 (by decide)))).tr (StpM.on es3 (by decide) (by decide) (fun q => absurd q.1 (by decide)))).tr (StpM.on es4 (by decide) (by decide) (by decide))).tr (StpM.on es10 (by decide) (by decide) (by decide)))
      · obtain ⟨_, _, m⟩ := m
        rw [m]
        exact ((((StpM.rf.tr (StpM.o83 es1)).tr (StpM.on es2 (by decide) (by decide) (fun q => absurd q.1 (by decide)))).tr (StpM.on es3 (by decide) (by decide) (fun q => absurd q.1 (by decide)))).tr (StpM.on es4 (by decide) (by decide) (by decide)))
  · obtain ⟨_, _, m⟩ := m
    rw [m]
    exact ((((StpM.rf.tr (StpM.o83 es1)).tr (StpM.on es2 (by decide) (by decide) (fun q => absurd q.1 (by decide)))).tr (StpM.on es3 (by decide) (by decide) (fun q => absurd q.1 (by decide)))).tr (StpM.on es4 (by decide) (by decide) (by decide)))
theorem seeStL : ∀ (fu : Nat) (pc : Nat) (a0 a1 a2 a3 a4 a5 a6 : Int) (s : PS) (r : Int) (t : PS), It_X9_see fu pc a0 a1 a2 a3 a4 a5 a6 s r t → StpM s t
  | 0, _, _, _, _, _, _, _, _, _, _, _, m => False.elim m
  | fu + 1, pc, a0, a1, a2, a3, a4, a5, a6, s, r, t, m => by
    have h2 : (pc = 91 ∧ T_X9_see_91 (It_X9_see fu) a0 a1 a2 a3 a4 s r t) ∨ (pc = 102 ∧ T_X9_see_102 (It_X9_see fu) a0 a1 a2 a3 a4 a5 s r t) ∨ (pc = 206 ∧ T_X9_see_206 (It_X9_see fu) a0 a1 a2 a3 a4 a5 a6 s r t) := m
    rcases h2 with ⟨_, m⟩ | ⟨_, m⟩ | ⟨_, m⟩
    · unfold T_X9_see_91 at m
      obtain ⟨_, _, _, _, _, m⟩ := m
      exact StpM.rf.tr (seeStL fu _ _ _ _ _ _ _ _ _ _ _ m)
    · unfold T_X9_see_102 at m
      obtain ⟨_, _, _, _, _, _, m⟩ := m
      rcases m with m | m
      · obtain ⟨_, _, m⟩ := m
        rw [m]
        exact StpM.rf
      · obtain ⟨_, m⟩ := m
        rcases m with m | m
        · obtain ⟨_, m⟩ := m
          exact StpM.rf.tr (seeStL fu _ _ _ _ _ _ _ _ _ _ _ m)
        · obtain ⟨_, m⟩ := m
          rcases m with m | m
          · obtain ⟨_, m⟩ := m
            exact StpM.rf.tr (seeStL fu _ _ _ _ _ _ _ _ _ _ _ m)
          · obtain ⟨_, r16, s15, h1, f2, _, m⟩ := m
            rcases m with m | m
            · obtain ⟨_, s22, h3, _, _, m⟩ := m
              exact ((StpM.rf.tr (StpM.f0 f2)).tr (seeRowSt h3)).tr (seeStL fu _ _ _ _ _ _ _ _ _ _ _ m)
            · obtain ⟨_, m⟩ := m
              exact (StpM.rf.tr (StpM.f0 f2)).tr (seeStL fu _ _ _ _ _ _ _ _ _ _ _ m)
    · unfold T_X9_see_206 at m
      obtain ⟨_, _, _, _, _, _, _, m⟩ := m
      exact StpM.rf.tr (seeStL fu _ _ _ _ _ _ _ _ _ _ _ m)
theorem seeSt {p1 : Int} {p2 : Int} {p3 : Int} (m : M_X9_see s p1 p2 p3 rr t) : StpM s t := by
  obtain ⟨fu, m⟩ := m
  unfold T_X9_see_e at m
  obtain ⟨_, _, _, _, s28, es28, s29, es29, m⟩ := m
  rcases m with m | m
  · obtain ⟨_, m⟩ := m
    rcases m with m | m
    · obtain ⟨_, m⟩ := m
      rcases m with m | m
      · obtain ⟨_, m⟩ := m
        exact ((StpM.rf.tr (StpM.o85 es28)).tr (StpM.on es29 (by decide) (by decide) (fun q => absurd q.1 (by decide)))).tr (seeStL fu _ _ _ _ _ _ _ _ _ _ _ m)
      · obtain ⟨_, m⟩ := m
        rcases m with m | m
        · obtain ⟨_, s36, es36, m⟩ := m
          exact (((StpM.rf.tr (StpM.o85 es28)).tr (StpM.on es29 (by decide) (by decide) (fun q => absurd q.1 (by decide)))).tr (StpM.on es36 (by decide) (by decide) (by decide))).tr (seeStL fu _ _ _ _ _ _ _ _ _ _ _ m)
        · obtain ⟨_, m⟩ := m
          exact ((StpM.rf.tr (StpM.o85 es28)).tr (StpM.on es29 (by decide) (by decide) (fun q => absurd q.1 (by decide)))).tr (seeStL fu _ _ _ _ _ _ _ _ _ _ _ m)
    · obtain ⟨_, m⟩ := m
      exact ((StpM.rf.tr (StpM.o85 es28)).tr (StpM.on es29 (by decide) (by decide) (fun q => absurd q.1 (by decide)))).tr (seeStL fu _ _ _ _ _ _ _ _ _ _ _ m)
  · obtain ⟨_, m⟩ := m
    exact ((StpM.rf.tr (StpM.o85 es28)).tr (StpM.on es29 (by decide) (by decide) (fun q => absurd q.1 (by decide)))).tr (seeStL fu _ _ _ _ _ _ _ _ _ _ _ m)
theorem spreadStL : ∀ (fu : Nat) (pc : Nat) (a0 a1 a2 a3 a4 a5 : Int) (s : PS) (r : Int) (t : PS), It_X9_spread fu pc a0 a1 a2 a3 a4 a5 s r t → StpM s t
  | 0, _, _, _, _, _, _, _, _, _, _, m => False.elim m
  | fu + 1, pc, a0, a1, a2, a3, a4, a5, s, r, t, m => by
    have h2 : (pc = 23 ∧ T_X9_spread_23 (It_X9_spread fu) a0 a1 a2 a3 a4 a5 s r t) ∨ (pc = 56 ∧ T_X9_spread_56 (It_X9_spread fu) a0 a1 a2 a3 a4 a5 s r t) ∨ (pc = 61 ∧ T_X9_spread_61 (It_X9_spread fu) a0 a1 a2 a3 a4 a5 s r t) := m
    rcases h2 with ⟨_, m⟩ | ⟨_, m⟩ | ⟨_, m⟩
    · unfold T_X9_spread_23 at m
      obtain ⟨_, _, _, _, _, _, m⟩ := m
      rcases m with m | m
      · obtain ⟨_, m⟩ := m
        exact StpM.rf.tr (spreadStL fu _ _ _ _ _ _ _ _ _ _ m)
      · obtain ⟨_, r15, s14, h1, f2, _, _, m⟩ := m
        rcases m with m | m
        · obtain ⟨_, m⟩ := m
          exact (StpM.rf.tr (StpM.f0 f2)).tr (spreadStL fu _ _ _ _ _ _ _ _ _ _ m)
        · obtain ⟨_, s19, h3, _, _, m⟩ := m
          exact ((StpM.rf.tr (StpM.f0 f2)).tr (seeSt h3)).tr (spreadStL fu _ _ _ _ _ _ _ _ _ _ m)
    · unfold T_X9_spread_56 at m
      obtain ⟨_, _, _, _, _, _, m⟩ := m
      exact StpM.rf.tr (spreadStL fu _ _ _ _ _ _ _ _ _ _ m)
    · unfold T_X9_spread_61 at m
      obtain ⟨_, _, _, _, _, _, m⟩ := m
      rcases m with m | m
      · obtain ⟨_, _, m⟩ := m
        rw [m]
        exact StpM.rf
      · obtain ⟨_, m⟩ := m
        rcases m with m | m
        · obtain ⟨_, _, m⟩ := m
          rw [m]
          exact StpM.rf
        · obtain ⟨_, r5, s4, h5, f6, _, _, m⟩ := m
          rcases m with m | m
          · obtain ⟨_, _, m⟩ := m
            rw [m]
            exact (StpM.rf.tr (StpM.f0 f6))
          · obtain ⟨_, s9, h7, _, _, m⟩ := m
            exact ((StpM.rf.tr (StpM.f0 f6)).tr (seeSt h7)).tr (spreadStL fu _ _ _ _ _ _ _ _ _ _ m)
theorem spreadSt {p1 : Int} {p2 : Int} {p3 : Int} (m : M_X9_spread s p1 p2 p3 rr t) : StpM s t := by
  obtain ⟨fu, m⟩ := m
  unfold T_X9_spread_e at m
  obtain ⟨_, _, _, _, m⟩ := m
  exact StpM.rf.tr (spreadStL fu _ _ _ _ _ _ _ _ _ _ m)
theorem widenStL : ∀ (fu : Nat) (pc : Nat) (a0 a1 a2 : Int) (s : PS) (r : Int) (t : PS), It_X9_widen fu pc a0 a1 a2 s r t → StpM s t
  | 0, _, _, _, _, _, _, _, m => False.elim m
  | fu + 1, pc, a0, a1, a2, s, r, t, m => by
    have h2 : (pc = 23 ∧ T_X9_widen_23 (It_X9_widen fu) a0 a1 a2 s r t) ∨ (pc = 66 ∧ T_X9_widen_66 (It_X9_widen fu) a0 a1 a2 s r t) := m
    rcases h2 with ⟨_, m⟩ | ⟨_, m⟩
    · unfold T_X9_widen_23 at m
      obtain ⟨_, _, _, m⟩ := m
      rcases m with m | m
      · obtain ⟨_, _, m⟩ := m
        rw [m]
        exact StpM.rf
      · obtain ⟨_, m⟩ := m
        rcases m with m | m
        · obtain ⟨_, m⟩ := m
          exact StpM.rf.tr (widenStL fu _ _ _ _ _ _ _ m)
        · obtain ⟨_, r5, s4, h1, f2, _, _, m⟩ := m
          rcases m with m | m
          · obtain ⟨_, m⟩ := m
            exact (StpM.rf.tr (StpM.f0 f2)).tr (widenStL fu _ _ _ _ _ _ _ m)
          · obtain ⟨_, s9, h3, _, _, m⟩ := m
            exact ((StpM.rf.tr (StpM.f0 f2)).tr (spreadSt h3)).tr (widenStL fu _ _ _ _ _ _ _ m)
    · unfold T_X9_widen_66 at m
      obtain ⟨_, _, _, m⟩ := m
      exact StpM.rf.tr (widenStL fu _ _ _ _ _ _ _ m)
theorem widenSt {p1 : Int} (m : M_X9_widen s p1 rr t) : StpM s t := by
  obtain ⟨fu, m⟩ := m
  unfold T_X9_widen_e at m
  obtain ⟨_, _, m⟩ := m
  exact StpM.rf.tr (widenStL fu _ _ _ _ _ _ _ m)
theorem spreadDueStL : ∀ (fu : Nat) (pc : Nat) (a0 : Int) (s : PS) (r : Int) (t : PS), It_X9_spreadDue fu pc a0 s r t → StpM s t
  | 0, _, _, _, _, _, m => False.elim m
  | fu + 1, pc, a0, s, r, t, m => by
    have h2 : (pc = 2 ∧ T_X9_spreadDue_2 (It_X9_spreadDue fu) a0 s r t) ∨ (pc = 74 ∧ T_X9_spreadDue_74 (It_X9_spreadDue fu) a0 s r t) := m
    rcases h2 with ⟨_, m⟩ | ⟨_, m⟩
    · unfold T_X9_spreadDue_2 at m
      obtain ⟨_, _, m⟩ := m
      rcases m with m | m
      · obtain ⟨_, _, m⟩ := m
        rw [m]
        exact StpM.rf
      · obtain ⟨_, m⟩ := m
        rcases m with m | m
        · obtain ⟨_, m⟩ := m
          exact StpM.rf.tr (spreadDueStL fu _ _ _ _ _ m)
        · obtain ⟨_, m⟩ := m
          rcases m with m | m
          · obtain ⟨_, m⟩ := m
            exact StpM.rf.tr (spreadDueStL fu _ _ _ _ _ m)
          · obtain ⟨_, m⟩ := m
            rcases m with m | m
            · obtain ⟨_, s10, h1, _, _, m⟩ := m
              exact (StpM.rf.tr (seeRowSt h1)).tr (spreadDueStL fu _ _ _ _ _ m)
            · obtain ⟨_, m⟩ := m
              exact StpM.rf.tr (spreadDueStL fu _ _ _ _ _ m)
    · unfold T_X9_spreadDue_74 at m
      obtain ⟨_, _, m⟩ := m
      exact StpM.rf.tr (spreadDueStL fu _ _ _ _ _ m)
theorem spreadDueSt (m : M_X9_spreadDue s rr t) : StpM s t := by
  obtain ⟨fu, m⟩ := m
  unfold T_X9_spreadDue_e at m
  obtain ⟨_, m⟩ := m
  exact StpM.rf.tr (spreadDueStL fu _ _ _ _ _ m)
theorem spreadLeftStL : ∀ (fu : Nat) (pc : Nat) (a0 a1 : Int) (s : PS) (r : Int) (t : PS), It_X9_spreadLeft fu pc a0 a1 s r t → StpM s t
  | 0, _, _, _, _, _, _, m => False.elim m
  | fu + 1, pc, a0, a1, s, r, t, m => by
    have h2 : (pc = 12 ∧ T_X9_spreadLeft_12 (It_X9_spreadLeft fu) a0 a1 s r t) ∨ (pc = 51 ∧ T_X9_spreadLeft_51 (It_X9_spreadLeft fu) a0 a1 s r t) := m
    rcases h2 with ⟨_, m⟩ | ⟨_, m⟩
    · unfold T_X9_spreadLeft_12 at m
      obtain ⟨_, _, _, m⟩ := m
      rcases m with m | m
      · obtain ⟨_, _, m⟩ := m
        rw [m]
        exact StpM.rf
      · obtain ⟨_, r3, s2, h1, f2, _, _, m⟩ := m
        rcases m with m | m
        · obtain ⟨_, m⟩ := m
          exact (StpM.rf.tr (StpM.f0 f2)).tr (spreadLeftStL fu _ _ _ _ _ _ m)
        · obtain ⟨_, s7, h3, _, _, m⟩ := m
          exact ((StpM.rf.tr (StpM.f0 f2)).tr (spreadSt h3)).tr (spreadLeftStL fu _ _ _ _ _ _ m)
    · unfold T_X9_spreadLeft_51 at m
      obtain ⟨_, _, _, m⟩ := m
      exact StpM.rf.tr (spreadLeftStL fu _ _ _ _ _ _ m)
theorem spreadLeftSt (m : M_X9_spreadLeft s rr t) : StpM s t := by
  obtain ⟨fu, m⟩ := m
  unfold T_X9_spreadLeft_e at m
  obtain ⟨_, m⟩ := m
  exact StpM.rf.tr (spreadLeftStL fu _ _ _ _ _ _ m)
theorem findsStL : ∀ (fu : Nat) (pc : Nat) (a0 a1 : Int) (s : PS) (r : Int) (t : PS), It_X9_finds fu pc a0 a1 s r t → StpM s t
  | 0, _, _, _, _, _, _, m => False.elim m
  | fu + 1, pc, a0, a1, s, r, t, m => by
    have h2 : (pc = 23 ∧ T_X9_finds_23 (It_X9_finds fu) a0 a1 s r t) ∨ (pc = 109 ∧ T_X9_finds_109 (It_X9_finds fu) a0 a1 s r t) ∨ (pc = 138 ∧ T_X9_finds_138 (It_X9_finds fu) a0 a1 s r t) ∨ (pc = 144 ∧ T_X9_finds_144 (It_X9_finds fu) a0 a1 s r t) := m
    rcases h2 with ⟨_, m⟩ | ⟨_, m⟩ | ⟨_, m⟩ | ⟨_, m⟩
    · unfold T_X9_finds_23 at m
      obtain ⟨_, _, _, m⟩ := m
      rcases m with m | m
      · obtain ⟨_, m⟩ := m
        exact StpM.rf.tr (findsStL fu _ _ _ _ _ _ m)
      · obtain ⟨_, m⟩ := m
        rcases m with m | m
        · obtain ⟨_, m⟩ := m
          exact StpM.rf.tr (findsStL fu _ _ _ _ _ _ m)
        · obtain ⟨_, m⟩ := m
          rcases m with m | m
          · obtain ⟨_, m⟩ := m
            rcases m with m | m
            · obtain ⟨_, m⟩ := m
              exact StpM.rf.tr (findsStL fu _ _ _ _ _ _ m)
            · obtain ⟨_, m⟩ := m
              rcases m with m | m
              · obtain ⟨_, s16, es16, s17, h1, _, _, m⟩ := m
                exact ((StpM.rf.tr (StpM.on es16 (by decide) (by decide) (by decide))).tr (spreadDueSt h1)).tr (findsStL fu _ _ _ _ _ _ m)
              · obtain ⟨_, m⟩ := m
                exact StpM.rf.tr (findsStL fu _ _ _ _ _ _ m)
          · obtain ⟨_, s22, h3, _, _, s26, es26, m⟩ := m
            exact ((StpM.rf.tr (widenSt h3)).tr (StpM.on es26 (by decide) (by decide) (by decide))).tr (findsStL fu _ _ _ _ _ _ m)
    · unfold T_X9_finds_109 at m
      obtain ⟨_, _, _, m⟩ := m
      rcases m with m | m
      · obtain ⟨_, _, m⟩ := m
        rw [m]
        exact StpM.rf
      · obtain ⟨_, m⟩ := m
        rcases m with m | m
        · obtain ⟨_, s5, es5, s6, h5, _, _, m⟩ := m
          exact ((StpM.rf.tr (StpM.on es5 (by decide) (by decide) (by decide))).tr (spreadLeftSt h5)).tr (findsStL fu _ _ _ _ _ _ m)
        · obtain ⟨_, _, m⟩ := m
          rw [m]
          exact StpM.rf
    · unfold T_X9_finds_138 at m
      obtain ⟨_, _, _, m⟩ := m
      exact StpM.rf.tr (findsStL fu _ _ _ _ _ _ m)
    · unfold T_X9_finds_144 at m
      obtain ⟨_, _, _, m⟩ := m
      rcases m with m | m
      · obtain ⟨_, _, m⟩ := m
        rw [m]
        exact StpM.rf
      · obtain ⟨_, _, m⟩ := m
        rw [m]
        exact StpM.rf
theorem findsSt {p1 : Int} (m : M_X9_finds s p1 rr t) : StpM s t := by
  obtain ⟨fu, m⟩ := m
  unfold T_X9_finds_e at m
  obtain ⟨_, _, s28, h1, _, _, m⟩ := m
  exact (StpM.rf.tr (spreadSt h1)).tr (findsStL fu _ _ _ _ _ _ m)
end StMs
