def FsT : List Value → List (Value → Prop) → Prop
  | [], [] => True
  | v :: vs, P :: ps => P v ∧ FsT vs ps
  | _, _ => False
theorem FsT_n : FsT [] [] := trivial
theorem FsT_c {v : Value} {vs : List Value} {P : Value → Prop} {ps : List (Value → Prop)} (h : P v) (h2 : FsT vs ps) : FsT (v :: vs) (P :: ps) := ⟨h, h2⟩
theorem FsT_ok : ∀ (vs : List Value) (ps : List (Value → Prop)), FsT vs ps → vs.length = ps.length ∧ ∀ (j : Nat) (P : Value → Prop), ps[j]? = some P → ∃ v, vs[j]? = some v ∧ P v
  | [], [], _ => ⟨rfl, fun j P h => by simp at h⟩
  | v :: vs, P :: ps, h => by
    have ih := FsT_ok vs ps h.2
    refine ⟨by simp [ih.1], fun j Q hq => ?_⟩
    match j with
    | 0 =>
      simp at hq
      exact ⟨v, by simp, by rw [← hq]; exact h.1⟩
    | j + 1 =>
      simp at hq
      obtain ⟨u, h1, h2⟩ := ih.2 j Q hq
      exact ⟨u, by simpa using h1, h2⟩
  | [], _ :: _, h => h.elim
  | _ :: _, [], h => h.elim
theorem objT_of {ci : Nat} {fs : List Value} {ps : List (Value → Prop)} (h : FsT fs ps) : objT ci ps (.inr (ci, fs)) := by
  have q := FsT_ok fs ps h
  exact ⟨fs, rfl, q.1, q.2⟩
def fsN : Nat → List Value → List Value → List Value
  | _, l, [] => l
  | k, l, v :: vs => fsN (k + 1) (l.set k v) vs
theorem fsN_all : ∀ (vs : List Value) (k : Nat) (l : List Value), l.length = k + vs.length → fsN k l vs = l.take k ++ vs
  | [], k, l, h => by
    show l = l.take k ++ []
    rw [List.append_nil, List.take_of_length_le (by simp at h; omega)]
  | v :: vs, k, l, h => by
    show fsN (k + 1) (l.set k v) vs = _
    have hk : k < l.length := by
      rw [h]
      simp
    rw [fsN_all vs (k + 1) (l.set k v) (by simp at h ⊢; omega), List.take_set, List.take_succ_eq_append_getElem hk, List.set_append_right _ _ (by simp; omega)]
    have e : (l.take k).length = k := by
      rw [List.length_take]
      omega
    rw [e, Nat.sub_self]
    simp
theorem FsT_fs {l vs nest : List Value} {ps : List (Value → Prop)} (e : fsN 0 l vs = nest) (hl : l.length = 0 + vs.length) (h : FsT vs ps) : FsT nest ps := by
  rw [← e, fsN_all vs 0 l hl]
  exact h
theorem objT_of2 {ci : Nat} {l vs nest : List Value} {ps : List (Value → Prop)} (e : fsN 0 l vs = nest) (hl : l.length = 0 + vs.length) (h : FsT vs ps) : objT ci ps (.inr (ci, nest)) := objT_of (FsT_fs e hl h)
theorem iT_of {lo hi : Int} {x : Int32} (h : lo ≤ x.toInt ∧ x.toInt ≤ hi) : iT lo hi (.int x) := ⟨x, rfl, h⟩
theorem lT_of (x : Int64) : lT (.long x) := ⟨x, rfl⟩
theorem rT_of (a : Nat) : rT a (.ref a) := rfl
theorem arT_of {cA : ClassId} {n : Nat} {P : Int32 → Prop} {f : Nat → Int32} (h : ∀ i, P (f i)) : arrT cA n P (.inl (cA, n, .inl f)) := ⟨f, rfl, h⟩
theorem arL_of {cA : ClassId} {n : Nat} (f : Nat → Int64) : arrL cA n (.inl (cA, n, .inr (.inl f))) := ⟨f, rfl⟩
theorem okc_0 : okc 0 := ⟨fun h => absurd h (by decide), fun h => absurd h (by decide), fun h => absurd h (by decide)⟩
def HTL (q : Nat → Nat) : Nat → List (va_E → Prop) → va_W → Prop
  | _, [], [] => True
  | k, P :: ps, x :: w => x.1 = q k ∧ P x.2 ∧ HTL q (k + 1) ps w
  | _, _, _ => False
theorem HTL_n {q : Nat → Nat} {k : Nat} : HTL q k [] [] := trivial
theorem HTL_c {q : Nat → Nat} {k : Nat} {P : va_E → Prop} {ps : List (va_E → Prop)} {e : va_E} {w : va_W} (h : P e) (h2 : HTL q (k + 1) ps w) : HTL q k (P :: ps) ((q k, e) :: w) := ⟨rfl, h, h2⟩
theorem HTL_ok {q : Nat → Nat} : ∀ (k : Nat) (tab : List (va_E → Prop)) (w : va_W), HTL q k tab w → w.length = tab.length ∧ ∀ (j : Nat) (P : va_E → Prop), tab[j]? = some P → ∃ e, w[j]? = some (q (k + j), e) ∧ P e
  | _, [], [], _ => ⟨rfl, fun j P h => by simp at h⟩
  | k, P :: ps, x :: w, h => by
    have ih := HTL_ok (k + 1) ps w h.2.2
    refine ⟨by simp [ih.1], fun j Q hq => ?_⟩
    match j with
    | 0 =>
      simp at hq
      refine ⟨x.2, ?_, by rw [← hq]; exact h.2.1⟩
      show some x = some (q k, x.2)
      rw [← h.1]
    | j + 1 =>
      simp at hq
      obtain ⟨u, h1, h2⟩ := ih.2 j Q hq
      refine ⟨u, ?_, h2⟩
      have e : k + (j + 1) = k + 1 + j := by omega
      rw [e]
      simpa using h1
  | _, [], _ :: _, h => h.elim
  | _, _ :: _, [], h => h.elim
theorem HT_of {q : Nat → Nat} {tab : List (va_E → Prop)} {w : va_W} (h : HTL q 0 tab w) : HT q tab w := by
  have g := HTL_ok 0 tab w h
  refine ⟨g.1, fun k P hP => ?_⟩
  have r := g.2 k P hP
  rw [Nat.zero_add] at r
  exact r
set_option maxRecDepth 100000 in
theorem zx_0 {qx : Nat → Nat} {fx : Nat → Int64} {cI cJ cZ : ClassId} : (objT 11 [rT (qx 1), rT (qx 16), rT (qx 31), rT (qx 34), rT (qx 35), rT (qx 42), rT (qx 56), rT (qx 64), rT (qx 74), rT (qx 81), rT (qx 88), rT (qx 102), iT (-1) 200, rT (qx 109)]) (.inr (11, ((((((((((((((df_X11.set 0 (.ref (qx 1))).set 1 (.ref (qx 16))).set 2 (.ref (qx 31))).set 3 (.ref (qx 34))).set 4 (.ref (qx 35))).set 5 (.ref (qx 42))).set 6 (.ref (qx 56))).set 7 (.ref (qx 64))).set 8 (.ref (qx 74))).set 9 (.ref (qx 81))).set 10 (.ref (qx 88))).set 11 (.ref (qx 102))).set 12 (.int (-1))).set 13 (.ref (qx 109))))) := objT_of (FsT_c (rT_of _) (FsT_c (rT_of _) (FsT_c (rT_of _) (FsT_c (rT_of _) (FsT_c (rT_of _) (FsT_c (rT_of _) (FsT_c (rT_of _) (FsT_c (rT_of _) (FsT_c (rT_of _) (FsT_c (rT_of _) (FsT_c (rT_of _) (FsT_c (rT_of _) (FsT_c (iT_of (by decide)) (FsT_c (rT_of _) FsT_n))))))))))))))
set_option maxRecDepth 100000 in
theorem zx_1 {qx : Nat → Nat} {fx : Nat → Int64} {cI cJ cZ : ClassId} : (objT 1 [iT 0 10, rT (qx 2), rT (qx 3), rT (qx 4), rT (qx 5), iT 0 8, rT (qx 6), rT (qx 7), iT 0 24, iT (-2147483648) 2147483647, rT (qx 8), rT (qx 9), rT (qx 10), rT (qx 11), rT (qx 12), rT (qx 13), rT (qx 14), iT 0 1000, rT (qx 15), iT 0 200]) (.inr (1, (((((((((((((((df_X1.set 1 (.ref (qx 2))).set 2 (.ref (qx 3))).set 3 (.ref (qx 4))).set 4 (.ref (qx 5))).set 6 (.ref (qx 6))).set 7 (.ref (qx 7))).set 9 (.int 1000)).set 10 (.ref (qx 8))).set 11 (.ref (qx 9))).set 12 (.ref (qx 10))).set 13 (.ref (qx 11))).set 14 (.ref (qx 12))).set 15 (.ref (qx 13))).set 16 (.ref (qx 14))).set 18 (.ref (qx 15))))) := objT_of (FsT_c (iT_of (by decide)) (FsT_c (rT_of _) (FsT_c (rT_of _) (FsT_c (rT_of _) (FsT_c (rT_of _) (FsT_c (iT_of (by decide)) (FsT_c (rT_of _) (FsT_c (rT_of _) (FsT_c (iT_of (by decide)) (FsT_c (iT_of (by decide)) (FsT_c (rT_of _) (FsT_c (rT_of _) (FsT_c (rT_of _) (FsT_c (rT_of _) (FsT_c (rT_of _) (FsT_c (rT_of _) (FsT_c (rT_of _) (FsT_c (iT_of (by decide)) (FsT_c (rT_of _) (FsT_c (iT_of (by decide)) FsT_n))))))))))))))))))))
set_option maxRecDepth 100000 in
theorem zx_2 {qx : Nat → Nat} {fx : Nat → Int64} {cI cJ cZ : ClassId} : (arrL cJ 10) (.inl (cJ, 10, .inr (.inl (fun _ => 0)))) := arL_of _
set_option maxRecDepth 100000 in
theorem zx_3 {qx : Nat → Nat} {fx : Nat → Int64} {cI cJ cZ : ClassId} : (arrT cI 10 (In (-2147483648) 2147483647)) (.inl (cI, 10, .inl (fun _ => 0))) := arT_of (fun _ => In_any _)
set_option maxRecDepth 100000 in
theorem zx_4 {qx : Nat → Nat} {fx : Nat → Int64} {cI cJ cZ : ClassId} : (arrT cI 10 (In (-2147483648) 2147483647)) (.inl (cI, 10, .inl (fun _ => 0))) := arT_of (fun _ => In_any _)
set_option maxRecDepth 100000 in
theorem zx_5 {qx : Nat → Nat} {fx : Nat → Int64} {cI cJ cZ : ClassId} : (arrT cI 10 (In (-2147483648) 2147483647)) (.inl (cI, 10, .inl (fun _ => 0))) := arT_of (fun _ => In_any _)
set_option maxRecDepth 100000 in
theorem zx_6 {qx : Nat → Nat} {fx : Nat → Int64} {cI cJ cZ : ClassId} : (arrL cJ 8) (.inl (cJ, 8, .inr (.inl (fun _ => 0)))) := arL_of _
set_option maxRecDepth 100000 in
theorem zx_7 {qx : Nat → Nat} {fx : Nat → Int64} {cI cJ cZ : ClassId} : (arrT cI 8 (In (-2147483648) 2147483647)) (.inl (cI, 8, .inl (fun _ => 0))) := arT_of (fun _ => In_any _)
set_option maxRecDepth 100000 in
theorem zx_8 {qx : Nat → Nat} {fx : Nat → Int64} {cI cJ cZ : ClassId} : (arrT cI 24 (In (-2147483648) 2147483647)) (.inl (cI, 24, .inl (fun _ => 0))) := arT_of (fun _ => In_any _)
set_option maxRecDepth 100000 in
theorem zx_9 {qx : Nat → Nat} {fx : Nat → Int64} {cI cJ cZ : ClassId} : (arrT cI 24 (In 0 1000)) (.inl (cI, 24, .inl (fun _ => 0))) := arT_of (fun _ => In_lit (n := 0) (by decide) (by decide))
set_option maxRecDepth 100000 in
theorem zx_10 {qx : Nat → Nat} {fx : Nat → Int64} {cI cJ cZ : ClassId} : (arrT cI 24 (In 0 1000)) (.inl (cI, 24, .inl (fun _ => 0))) := arT_of (fun _ => In_lit (n := 0) (by decide) (by decide))
set_option maxRecDepth 100000 in
theorem zx_11 {qx : Nat → Nat} {fx : Nat → Int64} {cI cJ cZ : ClassId} : (arrT cI 24 (In 0 1000)) (.inl (cI, 24, .inl (fun _ => 0))) := arT_of (fun _ => In_lit (n := 0) (by decide) (by decide))
set_option maxRecDepth 100000 in
theorem zx_12 {qx : Nat → Nat} {fx : Nat → Int64} {cI cJ cZ : ClassId} : (arrT cI 24 (In 0 1000)) (.inl (cI, 24, .inl (fun _ => 0))) := arT_of (fun _ => In_lit (n := 0) (by decide) (by decide))
set_option maxRecDepth 100000 in
theorem zx_13 {qx : Nat → Nat} {fx : Nat → Int64} {cI cJ cZ : ClassId} : (arrT cI 24 (In (-2147483648) 2147483647)) (.inl (cI, 24, .inl (fun _ => 0))) := arT_of (fun _ => In_any _)
set_option maxRecDepth 100000 in
theorem zx_14 {qx : Nat → Nat} {fx : Nat → Int64} {cI cJ cZ : ClassId} : (arrT cI 1000 okc) (.inl (cI, 1000, .inl (fun _ => 0))) := arT_of (fun _ => okc_0)
set_option maxRecDepth 100000 in
theorem zx_15 {qx : Nat → Nat} {fx : Nat → Int64} {cI cJ cZ : ClassId} : (arrL cJ 200) (.inl (cJ, 200, .inr (.inl (fun _ => 0)))) := arL_of _
set_option maxRecDepth 100000 in
theorem zx_16 {qx : Nat → Nat} {fx : Nat → Int64} {cI cJ cZ : ClassId} : (objT 1 [iT 0 10, rT (qx 17), rT (qx 18), rT (qx 19), rT (qx 20), iT 0 8, rT (qx 21), rT (qx 22), iT 0 24, iT (-2147483648) 2147483647, rT (qx 23), rT (qx 24), rT (qx 25), rT (qx 26), rT (qx 27), rT (qx 28), rT (qx 29), iT 0 1000, rT (qx 30), iT 0 200]) (.inr (1, (((((((((((((((df_X1.set 1 (.ref (qx 17))).set 2 (.ref (qx 18))).set 3 (.ref (qx 19))).set 4 (.ref (qx 20))).set 6 (.ref (qx 21))).set 7 (.ref (qx 22))).set 9 (.int 1000)).set 10 (.ref (qx 23))).set 11 (.ref (qx 24))).set 12 (.ref (qx 25))).set 13 (.ref (qx 26))).set 14 (.ref (qx 27))).set 15 (.ref (qx 28))).set 16 (.ref (qx 29))).set 18 (.ref (qx 30))))) := objT_of (FsT_c (iT_of (by decide)) (FsT_c (rT_of _) (FsT_c (rT_of _) (FsT_c (rT_of _) (FsT_c (rT_of _) (FsT_c (iT_of (by decide)) (FsT_c (rT_of _) (FsT_c (rT_of _) (FsT_c (iT_of (by decide)) (FsT_c (iT_of (by decide)) (FsT_c (rT_of _) (FsT_c (rT_of _) (FsT_c (rT_of _) (FsT_c (rT_of _) (FsT_c (rT_of _) (FsT_c (rT_of _) (FsT_c (rT_of _) (FsT_c (iT_of (by decide)) (FsT_c (rT_of _) (FsT_c (iT_of (by decide)) FsT_n))))))))))))))))))))
set_option maxRecDepth 100000 in
theorem zx_17 {qx : Nat → Nat} {fx : Nat → Int64} {cI cJ cZ : ClassId} : (arrL cJ 10) (.inl (cJ, 10, .inr (.inl (fun _ => 0)))) := arL_of _
set_option maxRecDepth 100000 in
theorem zx_18 {qx : Nat → Nat} {fx : Nat → Int64} {cI cJ cZ : ClassId} : (arrT cI 10 (In (-2147483648) 2147483647)) (.inl (cI, 10, .inl (fun _ => 0))) := arT_of (fun _ => In_any _)
set_option maxRecDepth 100000 in
theorem zx_19 {qx : Nat → Nat} {fx : Nat → Int64} {cI cJ cZ : ClassId} : (arrT cI 10 (In (-2147483648) 2147483647)) (.inl (cI, 10, .inl (fun _ => 0))) := arT_of (fun _ => In_any _)
set_option maxRecDepth 100000 in
theorem zx_20 {qx : Nat → Nat} {fx : Nat → Int64} {cI cJ cZ : ClassId} : (arrT cI 10 (In (-2147483648) 2147483647)) (.inl (cI, 10, .inl (fun _ => 0))) := arT_of (fun _ => In_any _)
set_option maxRecDepth 100000 in
theorem zx_21 {qx : Nat → Nat} {fx : Nat → Int64} {cI cJ cZ : ClassId} : (arrL cJ 8) (.inl (cJ, 8, .inr (.inl (fun _ => 0)))) := arL_of _
set_option maxRecDepth 100000 in
theorem zx_22 {qx : Nat → Nat} {fx : Nat → Int64} {cI cJ cZ : ClassId} : (arrT cI 8 (In (-2147483648) 2147483647)) (.inl (cI, 8, .inl (fun _ => 0))) := arT_of (fun _ => In_any _)
set_option maxRecDepth 100000 in
theorem zx_23 {qx : Nat → Nat} {fx : Nat → Int64} {cI cJ cZ : ClassId} : (arrT cI 24 (In (-2147483648) 2147483647)) (.inl (cI, 24, .inl (fun _ => 0))) := arT_of (fun _ => In_any _)
set_option maxRecDepth 100000 in
theorem zx_24 {qx : Nat → Nat} {fx : Nat → Int64} {cI cJ cZ : ClassId} : (arrT cI 24 (In 0 1000)) (.inl (cI, 24, .inl (fun _ => 0))) := arT_of (fun _ => In_lit (n := 0) (by decide) (by decide))
set_option maxRecDepth 100000 in
theorem zx_25 {qx : Nat → Nat} {fx : Nat → Int64} {cI cJ cZ : ClassId} : (arrT cI 24 (In 0 1000)) (.inl (cI, 24, .inl (fun _ => 0))) := arT_of (fun _ => In_lit (n := 0) (by decide) (by decide))
set_option maxRecDepth 100000 in
theorem zx_26 {qx : Nat → Nat} {fx : Nat → Int64} {cI cJ cZ : ClassId} : (arrT cI 24 (In 0 1000)) (.inl (cI, 24, .inl (fun _ => 0))) := arT_of (fun _ => In_lit (n := 0) (by decide) (by decide))
set_option maxRecDepth 100000 in
theorem zx_27 {qx : Nat → Nat} {fx : Nat → Int64} {cI cJ cZ : ClassId} : (arrT cI 24 (In 0 1000)) (.inl (cI, 24, .inl (fun _ => 0))) := arT_of (fun _ => In_lit (n := 0) (by decide) (by decide))
set_option maxRecDepth 100000 in
theorem zx_28 {qx : Nat → Nat} {fx : Nat → Int64} {cI cJ cZ : ClassId} : (arrT cI 24 (In (-2147483648) 2147483647)) (.inl (cI, 24, .inl (fun _ => 0))) := arT_of (fun _ => In_any _)
set_option maxRecDepth 100000 in
theorem zx_29 {qx : Nat → Nat} {fx : Nat → Int64} {cI cJ cZ : ClassId} : (arrT cI 1000 okc) (.inl (cI, 1000, .inl (fun _ => 0))) := arT_of (fun _ => okc_0)
set_option maxRecDepth 100000 in
theorem zx_30 {qx : Nat → Nat} {fx : Nat → Int64} {cI cJ cZ : ClassId} : (arrL cJ 200) (.inl (cJ, 200, .inr (.inl (fun _ => 0)))) := arL_of _
set_option maxRecDepth 100000 in
theorem zx_31 {qx : Nat → Nat} {fx : Nat → Int64} {cI cJ cZ : ClassId} : (objT 10 [rT (qx 32), iT 0 1000, rT (qx 33), iT 0 1000, iT (-2147483648) 2147483647, iT (-2147483648) 2147483647, lT, iT (-2147483648) 2147483647]) (.inr (10, ((df_X10.set 0 (.ref (qx 32))).set 2 (.ref (qx 33))))) := objT_of (FsT_c (rT_of _) (FsT_c (iT_of (by decide)) (FsT_c (rT_of _) (FsT_c (iT_of (by decide)) (FsT_c (iT_of (by decide)) (FsT_c (iT_of (by decide)) (FsT_c (lT_of _) (FsT_c (iT_of (by decide)) FsT_n))))))))
set_option maxRecDepth 100000 in
theorem zx_32 {qx : Nat → Nat} {fx : Nat → Int64} {cI cJ cZ : ClassId} : (arrT cI 1000 (In 0 255)) (.inl (cI, 1000, .inl (fun _ => 0))) := arT_of (fun _ => In_lit (n := 0) (by decide) (by decide))
set_option maxRecDepth 100000 in
theorem zx_33 {qx : Nat → Nat} {fx : Nat → Int64} {cI cJ cZ : ClassId} : (arrL cJ 22) (.inl (cJ, 22, .inr (.inl fx))) := arL_of _
set_option maxRecDepth 100000 in
theorem zx_34 {qx : Nat → Nat} {fx : Nat → Int64} {cI cJ cZ : ClassId} : (objT 8 [rT (qx 31), rT (qx 16), iT (-2147483648) 2147483647, iT (-2147483648) 2147483647, iT (-2147483648) 2147483647]) (.inr (8, (((df_X8.set 3 (.int (-1))).set 0 (.ref (qx 31))).set 1 (.ref (qx 16))))) := objT_of (FsT_c (rT_of _) (FsT_c (rT_of _) (FsT_c (iT_of (by decide)) (FsT_c (iT_of (by decide)) (FsT_c (iT_of (by decide)) FsT_n)))))
set_option maxRecDepth 100000 in
theorem zx_35 {qx : Nat → Nat} {fx : Nat → Int64} {cI cJ cZ : ClassId} : (objT 7 [iT 0 200, iT (-2147483648) 2147483647, rT (qx 36), rT (qx 37), rT (qx 38), rT (qx 39), rT (qx 40), rT (qx 41)]) (.inr (7, ((((((df_X7.set 2 (.ref (qx 36))).set 3 (.ref (qx 37))).set 4 (.ref (qx 38))).set 5 (.ref (qx 39))).set 6 (.ref (qx 40))).set 7 (.ref (qx 41))))) := objT_of (FsT_c (iT_of (by decide)) (FsT_c (iT_of (by decide)) (FsT_c (rT_of _) (FsT_c (rT_of _) (FsT_c (rT_of _) (FsT_c (rT_of _) (FsT_c (rT_of _) (FsT_c (rT_of _) FsT_n))))))))
set_option maxRecDepth 100000 in
theorem zx_36 {qx : Nat → Nat} {fx : Nat → Int64} {cI cJ cZ : ClassId} : (arrT cI 201 (In (-2147483648) 2147483647)) (.inl (cI, 201, .inl (fun _ => 0))) := arT_of (fun _ => In_any _)
set_option maxRecDepth 100000 in
theorem zx_37 {qx : Nat → Nat} {fx : Nat → Int64} {cI cJ cZ : ClassId} : (arrT cI 1005 (In (-2147483648) 2147483647)) (.inl (cI, 1005, .inl (fun _ => 0))) := arT_of (fun _ => In_any _)
set_option maxRecDepth 100000 in
theorem zx_38 {qx : Nat → Nat} {fx : Nat → Int64} {cI cJ cZ : ClassId} : (arrL cJ 603) (.inl (cJ, 603, .inr (.inl (fun _ => 0)))) := arL_of _
set_option maxRecDepth 100000 in
theorem zx_39 {qx : Nat → Nat} {fx : Nat → Int64} {cI cJ cZ : ClassId} : (arrT cI 201 (In (-1) 3)) (.inl (cI, 201, .inl (fun _ => 0))) := arT_of (fun _ => In_lit (n := 0) (by decide) (by decide))
set_option maxRecDepth 100000 in
theorem zx_40 {qx : Nat → Nat} {fx : Nat → Int64} {cI cJ cZ : ClassId} : (arrT cI 201 (In 0 200)) (.inl (cI, 201, .inl (fun _ => 0))) := arT_of (fun _ => In_lit (n := 0) (by decide) (by decide))
set_option maxRecDepth 100000 in
theorem zx_41 {qx : Nat → Nat} {fx : Nat → Int64} {cI cJ cZ : ClassId} : (arrL cJ 3) (.inl (cJ, 3, .inr (.inl (fun _ => 0)))) := arL_of _
set_option maxRecDepth 100000 in
theorem zx_42 {qx : Nat → Nat} {fx : Nat → Int64} {cI cJ cZ : ClassId} : (objT 6 [iT (-1) 200, iT (-2147483648) 2147483647, iT 0 40, rT (qx 43), rT (qx 44), rT (qx 45), rT (qx 46), rT (qx 47), rT (qx 48), rT (qx 49), rT (qx 50), rT (qx 51), rT (qx 52), rT (qx 53), rT (qx 54), rT (qx 55)]) (.inr (6, ((((((((((((((df_X6.set 0 (.int (-1))).set 3 (.ref (qx 43))).set 4 (.ref (qx 44))).set 5 (.ref (qx 45))).set 6 (.ref (qx 46))).set 7 (.ref (qx 47))).set 8 (.ref (qx 48))).set 9 (.ref (qx 49))).set 10 (.ref (qx 50))).set 11 (.ref (qx 51))).set 12 (.ref (qx 52))).set 13 (.ref (qx 53))).set 14 (.ref (qx 54))).set 15 (.ref (qx 55))))) := objT_of (FsT_c (iT_of (by decide)) (FsT_c (iT_of (by decide)) (FsT_c (iT_of (by decide)) (FsT_c (rT_of _) (FsT_c (rT_of _) (FsT_c (rT_of _) (FsT_c (rT_of _) (FsT_c (rT_of _) (FsT_c (rT_of _) (FsT_c (rT_of _) (FsT_c (rT_of _) (FsT_c (rT_of _) (FsT_c (rT_of _) (FsT_c (rT_of _) (FsT_c (rT_of _) (FsT_c (rT_of _) FsT_n))))))))))))))))
set_option maxRecDepth 100000 in
theorem zx_43 {qx : Nat → Nat} {fx : Nat → Int64} {cI cJ cZ : ClassId} : (arrT cI 40 (In (-2147483648) 2147483647)) (.inl (cI, 40, .inl (fun _ => 0))) := arT_of (fun _ => In_any _)
set_option maxRecDepth 100000 in
theorem zx_44 {qx : Nat → Nat} {fx : Nat → Int64} {cI cJ cZ : ClassId} : (arrT cI 40 (In (-2147483648) 2147483647)) (.inl (cI, 40, .inl (fun _ => 0))) := arT_of (fun _ => In_any _)
set_option maxRecDepth 100000 in
theorem zx_45 {qx : Nat → Nat} {fx : Nat → Int64} {cI cJ cZ : ClassId} : (arrT cI 40 (In (-2147483648) 2147483647)) (.inl (cI, 40, .inl (fun _ => 0))) := arT_of (fun _ => In_any _)
set_option maxRecDepth 100000 in
theorem zx_46 {qx : Nat → Nat} {fx : Nat → Int64} {cI cJ cZ : ClassId} : (arrT cI 40 (In (-2147483648) 2147483647)) (.inl (cI, 40, .inl (fun _ => 0))) := arT_of (fun _ => In_any _)
set_option maxRecDepth 100000 in
theorem zx_47 {qx : Nat → Nat} {fx : Nat → Int64} {cI cJ cZ : ClassId} : (arrT cI 40 (In (-2147483648) 2147483647)) (.inl (cI, 40, .inl (fun _ => 0))) := arT_of (fun _ => In_any _)
set_option maxRecDepth 100000 in
theorem zx_48 {qx : Nat → Nat} {fx : Nat → Int64} {cI cJ cZ : ClassId} : (arrT cI 40 (In (-2147483648) 2147483647)) (.inl (cI, 40, .inl (fun _ => 0))) := arT_of (fun _ => In_any _)
set_option maxRecDepth 100000 in
theorem zx_49 {qx : Nat → Nat} {fx : Nat → Int64} {cI cJ cZ : ClassId} : (arrT cI 40 (In (-2147483648) 2147483647)) (.inl (cI, 40, .inl (fun _ => 0))) := arT_of (fun _ => In_any _)
set_option maxRecDepth 100000 in
theorem zx_50 {qx : Nat → Nat} {fx : Nat → Int64} {cI cJ cZ : ClassId} : (arrT cI 40 (In (-2147483648) 2147483647)) (.inl (cI, 40, .inl (fun _ => 0))) := arT_of (fun _ => In_any _)
set_option maxRecDepth 100000 in
theorem zx_51 {qx : Nat → Nat} {fx : Nat → Int64} {cI cJ cZ : ClassId} : (arrT cI 40 (In 0 4)) (.inl (cI, 40, .inl (fun _ => 0))) := arT_of (fun _ => In_lit (n := 0) (by decide) (by decide))
set_option maxRecDepth 100000 in
theorem zx_52 {qx : Nat → Nat} {fx : Nat → Int64} {cI cJ cZ : ClassId} : (arrL cJ 160) (.inl (cJ, 160, .inr (.inl (fun _ => 0)))) := arL_of _
set_option maxRecDepth 100000 in
theorem zx_53 {qx : Nat → Nat} {fx : Nat → Int64} {cI cJ cZ : ClassId} : (arrT cI 201 (In (-1) 39)) (.inl (cI, 201, .inl (fun _ => 0))) := arT_of (fun _ => In_lit (n := 0) (by decide) (by decide))
set_option maxRecDepth 100000 in
theorem zx_54 {qx : Nat → Nat} {fx : Nat → Int64} {cI cJ cZ : ClassId} : (arrT cI 250 (In (-2147483648) 2147483647)) (.inl (cI, 250, .inl (fun _ => 0))) := arT_of (fun _ => In_any _)
set_option maxRecDepth 100000 in
theorem zx_55 {qx : Nat → Nat} {fx : Nat → Int64} {cI cJ cZ : ClassId} : (arrT cI 10 (In (-2147483648) 2147483647)) (.inl (cI, 10, .inl (fun _ => 0))) := arT_of (fun _ => In_any _)
set_option maxRecDepth 100000 in
theorem zx_56 {qx : Nat → Nat} {fx : Nat → Int64} {cI cJ cZ : ClassId} : (objT 5 [rT (qx 57), rT (qx 58), rT (qx 59), rT (qx 60), rT (qx 61), rT (qx 62), rT (qx 63)]) (.inr (5, (((((((df_X5.set 0 (.ref (qx 57))).set 1 (.ref (qx 58))).set 2 (.ref (qx 59))).set 3 (.ref (qx 60))).set 4 (.ref (qx 61))).set 5 (.ref (qx 62))).set 6 (.ref (qx 63))))) := objT_of (FsT_c (rT_of _) (FsT_c (rT_of _) (FsT_c (rT_of _) (FsT_c (rT_of _) (FsT_c (rT_of _) (FsT_c (rT_of _) (FsT_c (rT_of _) FsT_n)))))))
set_option maxRecDepth 100000 in
theorem zx_57 {qx : Nat → Nat} {fx : Nat → Int64} {cI cJ cZ : ClassId} : (arrT cI 40 (In (-2147483648) 2147483647)) (.inl (cI, 40, .inl (fun _ => 0))) := arT_of (fun _ => In_any _)
set_option maxRecDepth 100000 in
theorem zx_58 {qx : Nat → Nat} {fx : Nat → Int64} {cI cJ cZ : ClassId} : (arrT cI 40 (In (-2147483648) 2147483647)) (.inl (cI, 40, .inl (fun _ => 0))) := arT_of (fun _ => In_any _)
set_option maxRecDepth 100000 in
theorem zx_59 {qx : Nat → Nat} {fx : Nat → Int64} {cI cJ cZ : ClassId} : (arrT cI 400 (In (-2147483648) 2147483647)) (.inl (cI, 400, .inl (fun _ => 0))) := arT_of (fun _ => In_any _)
set_option maxRecDepth 100000 in
theorem zx_60 {qx : Nat → Nat} {fx : Nat → Int64} {cI cJ cZ : ClassId} : (arrT cI 40 (In (-2147483648) 2147483647)) (.inl (cI, 40, .inl (fun _ => 0))) := arT_of (fun _ => In_any _)
set_option maxRecDepth 100000 in
theorem zx_61 {qx : Nat → Nat} {fx : Nat → Int64} {cI cJ cZ : ClassId} : (arrT cI 5 (In (-2147483648) 2147483647)) (.inl (cI, 5, .inl (fun _ => 0))) := arT_of (fun _ => In_any _)
set_option maxRecDepth 100000 in
theorem zx_62 {qx : Nat → Nat} {fx : Nat → Int64} {cI cJ cZ : ClassId} : (arrT cI 200 (In (-2147483648) 2147483647)) (.inl (cI, 200, .inl (fun _ => 0))) := arT_of (fun _ => In_any _)
set_option maxRecDepth 100000 in
theorem zx_63 {qx : Nat → Nat} {fx : Nat → Int64} {cI cJ cZ : ClassId} : (arrT cI 64 (In (-2147483648) 2147483647)) (.inl (cI, 64, .inl (fun _ => 0))) := arT_of (fun _ => In_any _)
set_option maxRecDepth 100000 in
theorem zx_64 {qx : Nat → Nat} {fx : Nat → Int64} {cI cJ cZ : ClassId} : (objT 3 [iT 0 10, iT 0 40, iT 0 24, rT (qx 65), rT (qx 66), rT (qx 67), rT (qx 68), rT (qx 69), rT (qx 70), rT (qx 71), rT (qx 72), rT (qx 73)]) (.inr (3, (((((((((df_X3.set 3 (.ref (qx 65))).set 4 (.ref (qx 66))).set 5 (.ref (qx 67))).set 6 (.ref (qx 68))).set 7 (.ref (qx 69))).set 8 (.ref (qx 70))).set 9 (.ref (qx 71))).set 10 (.ref (qx 72))).set 11 (.ref (qx 73))))) := objT_of (FsT_c (iT_of (by decide)) (FsT_c (iT_of (by decide)) (FsT_c (iT_of (by decide)) (FsT_c (rT_of _) (FsT_c (rT_of _) (FsT_c (rT_of _) (FsT_c (rT_of _) (FsT_c (rT_of _) (FsT_c (rT_of _) (FsT_c (rT_of _) (FsT_c (rT_of _) (FsT_c (rT_of _) FsT_n))))))))))))
set_option maxRecDepth 100000 in
theorem zx_65 {qx : Nat → Nat} {fx : Nat → Int64} {cI cJ cZ : ClassId} : (arrT cI 40 (In 0 23)) (.inl (cI, 40, .inl (fun _ => 0))) := arT_of (fun _ => In_lit (n := 0) (by decide) (by decide))
set_option maxRecDepth 100000 in
theorem zx_66 {qx : Nat → Nat} {fx : Nat → Int64} {cI cJ cZ : ClassId} : (arrT cI 25 (In 0 40)) (.inl (cI, 25, .inl (fun _ => 0))) := arT_of (fun _ => In_lit (n := 0) (by decide) (by decide))
set_option maxRecDepth 100000 in
theorem zx_67 {qx : Nat → Nat} {fx : Nat → Int64} {cI cJ cZ : ClassId} : (arrT cI 40 (In (-1) 39)) (.inl (cI, 40, .inl (fun _ => 0))) := arT_of (fun _ => In_lit (n := 0) (by decide) (by decide))
set_option maxRecDepth 100000 in
theorem zx_68 {qx : Nat → Nat} {fx : Nat → Int64} {cI cJ cZ : ClassId} : (arrT cI 40 (In (-2147483648) 2147483647)) (.inl (cI, 40, .inl (fun _ => 0))) := arT_of (fun _ => In_any _)
set_option maxRecDepth 100000 in
theorem zx_69 {qx : Nat → Nat} {fx : Nat → Int64} {cI cJ cZ : ClassId} : (arrT cI 40 (In (-2147483648) 2147483647)) (.inl (cI, 40, .inl (fun _ => 0))) := arT_of (fun _ => In_any _)
set_option maxRecDepth 100000 in
theorem zx_70 {qx : Nat → Nat} {fx : Nat → Int64} {cI cJ cZ : ClassId} : (arrT cI 40 (In (-2147483648) 2147483647)) (.inl (cI, 40, .inl (fun _ => 0))) := arT_of (fun _ => In_any _)
set_option maxRecDepth 100000 in
theorem zx_71 {qx : Nat → Nat} {fx : Nat → Int64} {cI cJ cZ : ClassId} : (arrT cI 40 (In (-2147483648) 2147483647)) (.inl (cI, 40, .inl (fun _ => 0))) := arT_of (fun _ => In_any _)
set_option maxRecDepth 100000 in
theorem zx_72 {qx : Nat → Nat} {fx : Nat → Int64} {cI cJ cZ : ClassId} : (arrT cI 400 (In (-2147483648) 2147483647)) (.inl (cI, 400, .inl (fun _ => 0))) := arT_of (fun _ => In_any _)
set_option maxRecDepth 100000 in
theorem zx_73 {qx : Nat → Nat} {fx : Nat → Int64} {cI cJ cZ : ClassId} : (arrT cI 240 (In (-2147483648) 2147483647)) (.inl (cI, 240, .inl (fun _ => 0))) := arT_of (fun _ => In_any _)
set_option maxRecDepth 100000 in
theorem zx_74 {qx : Nat → Nat} {fx : Nat → Int64} {cI cJ cZ : ClassId} : (objT 2 [rT (qx 64), rT (qx 75), rT (qx 76), rT (qx 77), rT (qx 78), lT, lT, rT (qx 79), rT (qx 80), iT (-2147483648) 2147483647, iT (-2147483648) 2147483647]) (.inr (2, (((((((df_X2.set 1 (.ref (qx 75))).set 2 (.ref (qx 76))).set 3 (.ref (qx 77))).set 4 (.ref (qx 78))).set 7 (.ref (qx 79))).set 8 (.ref (qx 80))).set 0 (.ref (qx 64))))) := objT_of (FsT_c (rT_of _) (FsT_c (rT_of _) (FsT_c (rT_of _) (FsT_c (rT_of _) (FsT_c (rT_of _) (FsT_c (lT_of _) (FsT_c (lT_of _) (FsT_c (rT_of _) (FsT_c (rT_of _) (FsT_c (iT_of (by decide)) (FsT_c (iT_of (by decide)) FsT_n)))))))))))
set_option maxRecDepth 100000 in
theorem zx_75 {qx : Nat → Nat} {fx : Nat → Int64} {cI cJ cZ : ClassId} : (arrL cJ 40) (.inl (cJ, 40, .inr (.inl (fun _ => 0)))) := arL_of _
set_option maxRecDepth 100000 in
theorem zx_76 {qx : Nat → Nat} {fx : Nat → Int64} {cI cJ cZ : ClassId} : (arrT cI 40 (In 0 9)) (.inl (cI, 40, .inl (fun _ => 0))) := arT_of (fun _ => In_lit (n := 0) (by decide) (by decide))
set_option maxRecDepth 100000 in
theorem zx_77 {qx : Nat → Nat} {fx : Nat → Int64} {cI cJ cZ : ClassId} : (arrL cJ 240) (.inl (cJ, 240, .inr (.inl (fun _ => 0)))) := arL_of _
set_option maxRecDepth 100000 in
theorem zx_78 {qx : Nat → Nat} {fx : Nat → Int64} {cI cJ cZ : ClassId} : (arrT cI 240 (In (-2) 39)) (.inl (cI, 240, .inl (fun _ => 0))) := arT_of (fun _ => In_lit (n := 0) (by decide) (by decide))
set_option maxRecDepth 100000 in
theorem zx_79 {qx : Nat → Nat} {fx : Nat → Int64} {cI cJ cZ : ClassId} : (arrT cI 64 (In 0 39)) (.inl (cI, 64, .inl (fun _ => 0))) := arT_of (fun _ => In_lit (n := 0) (by decide) (by decide))
set_option maxRecDepth 100000 in
theorem zx_80 {qx : Nat → Nat} {fx : Nat → Int64} {cI cJ cZ : ClassId} : (arrT cI 40 (In (-2147483648) 2147483647)) (.inl (cI, 40, .inl (fun _ => 0))) := arT_of (fun _ => In_any _)
set_option maxRecDepth 100000 in
theorem zx_81 {qx : Nat → Nat} {fx : Nat → Int64} {cI cJ cZ : ClassId} : (objT 9 [rT (qx 64), rT (qx 74), iT 0 39, rT (qx 82), iT (-2147483648) 2147483647, rT (qx 83), rT (qx 84), rT (qx 85), rT (qx 86), rT (qx 87), iT 0 40, iT 0 40, iT (-1) 39, iT (-1) 9, iT 0 1, iT 0 1]) (.inr (9, ((((((((df_X9.set 3 (.ref (qx 82))).set 5 (.ref (qx 83))).set 6 (.ref (qx 84))).set 7 (.ref (qx 85))).set 8 (.ref (qx 86))).set 9 (.ref (qx 87))).set 0 (.ref (qx 64))).set 1 (.ref (qx 74))))) := objT_of (FsT_c (rT_of _) (FsT_c (rT_of _) (FsT_c (iT_of (by decide)) (FsT_c (rT_of _) (FsT_c (iT_of (by decide)) (FsT_c (rT_of _) (FsT_c (rT_of _) (FsT_c (rT_of _) (FsT_c (rT_of _) (FsT_c (rT_of _) (FsT_c (iT_of (by decide)) (FsT_c (iT_of (by decide)) (FsT_c (iT_of (by decide)) (FsT_c (iT_of (by decide)) (FsT_c (iT_of (by decide)) (FsT_c (iT_of (by decide)) FsT_n))))))))))))))))
set_option maxRecDepth 100000 in
theorem zx_82 {qx : Nat → Nat} {fx : Nat → Int64} {cI cJ cZ : ClassId} : (arrT cI 40 (In (-2147483648) 2147483647)) (.inl (cI, 40, .inl (fun _ => 0))) := arT_of (fun _ => In_any _)
set_option maxRecDepth 100000 in
theorem zx_83 {qx : Nat → Nat} {fx : Nat → Int64} {cI cJ cZ : ClassId} : (arrT cI 40 (In (-2147483648) 2147483647)) (.inl (cI, 40, .inl (fun _ => 0))) := arT_of (fun _ => In_any _)
set_option maxRecDepth 100000 in
theorem zx_84 {qx : Nat → Nat} {fx : Nat → Int64} {cI cJ cZ : ClassId} : (arrT cI 40 (In (-3) 9)) (.inl (cI, 40, .inl (fun _ => 0))) := arT_of (fun _ => In_lit (n := 0) (by decide) (by decide))
set_option maxRecDepth 100000 in
theorem zx_85 {qx : Nat → Nat} {fx : Nat → Int64} {cI cJ cZ : ClassId} : (arrT cI 240 (In (-2147483648) 2147483647)) (.inl (cI, 240, .inl (fun _ => 0))) := arT_of (fun _ => In_any _)
set_option maxRecDepth 100000 in
theorem zx_86 {qx : Nat → Nat} {fx : Nat → Int64} {cI cJ cZ : ClassId} : (arrT cI 240 (In (-2) 39)) (.inl (cI, 240, .inl (fun _ => 0))) := arT_of (fun _ => In_lit (n := 0) (by decide) (by decide))
set_option maxRecDepth 100000 in
theorem zx_87 {qx : Nat → Nat} {fx : Nat → Int64} {cI cJ cZ : ClassId} : (arrT cI 40 (In 0 39)) (.inl (cI, 40, .inl (fun _ => 0))) := arT_of (fun _ => In_lit (n := 0) (by decide) (by decide))
set_option maxRecDepth 100000 in
theorem zx_88 {qx : Nat → Nat} {fx : Nat → Int64} {cI cJ cZ : ClassId} : (objT 4 [iT 0 1, iT 0 40, rT (qx 89), rT (qx 90), rT (qx 91), rT (qx 92), rT (qx 93), rT (qx 94), rT (qx 95), rT (qx 96), iT (-2147483648) 2147483647, iT (-2147483648) 2147483647, rT (qx 97), rT (qx 98), rT (qx 99), rT (qx 100), rT (qx 101)]) (.inr (4, (((((((((((((df_X4.set 2 (.ref (qx 89))).set 3 (.ref (qx 90))).set 4 (.ref (qx 91))).set 5 (.ref (qx 92))).set 6 (.ref (qx 93))).set 7 (.ref (qx 94))).set 8 (.ref (qx 95))).set 9 (.ref (qx 96))).set 12 (.ref (qx 97))).set 13 (.ref (qx 98))).set 14 (.ref (qx 99))).set 15 (.ref (qx 100))).set 16 (.ref (qx 101))))) := objT_of (FsT_c (iT_of (by decide)) (FsT_c (iT_of (by decide)) (FsT_c (rT_of _) (FsT_c (rT_of _) (FsT_c (rT_of _) (FsT_c (rT_of _) (FsT_c (rT_of _) (FsT_c (rT_of _) (FsT_c (rT_of _) (FsT_c (rT_of _) (FsT_c (iT_of (by decide)) (FsT_c (iT_of (by decide)) (FsT_c (rT_of _) (FsT_c (rT_of _) (FsT_c (rT_of _) (FsT_c (rT_of _) (FsT_c (rT_of _) FsT_n)))))))))))))))))
set_option maxRecDepth 100000 in
theorem zx_89 {qx : Nat → Nat} {fx : Nat → Int64} {cI cJ cZ : ClassId} : (arrT cI 40 (In (-2147483648) 2147483647)) (.inl (cI, 40, .inl (fun _ => 0))) := arT_of (fun _ => In_any _)
set_option maxRecDepth 100000 in
theorem zx_90 {qx : Nat → Nat} {fx : Nat → Int64} {cI cJ cZ : ClassId} : (arrT cI 40 (In (-2147483648) 2147483647)) (.inl (cI, 40, .inl (fun _ => 0))) := arT_of (fun _ => In_any _)
set_option maxRecDepth 100000 in
theorem zx_91 {qx : Nat → Nat} {fx : Nat → Int64} {cI cJ cZ : ClassId} : (arrT cI 40 (In (-2147483648) 2147483647)) (.inl (cI, 40, .inl (fun _ => 0))) := arT_of (fun _ => In_any _)
set_option maxRecDepth 100000 in
theorem zx_92 {qx : Nat → Nat} {fx : Nat → Int64} {cI cJ cZ : ClassId} : (arrT cI 40 (In (-2147483648) 2147483647)) (.inl (cI, 40, .inl (fun _ => 0))) := arT_of (fun _ => In_any _)
set_option maxRecDepth 100000 in
theorem zx_93 {qx : Nat → Nat} {fx : Nat → Int64} {cI cJ cZ : ClassId} : (arrT cI 40 (In (-2147483648) 2147483647)) (.inl (cI, 40, .inl (fun _ => 0))) := arT_of (fun _ => In_any _)
set_option maxRecDepth 100000 in
theorem zx_94 {qx : Nat → Nat} {fx : Nat → Int64} {cI cJ cZ : ClassId} : (arrT cI 40 (In (-2147483648) 2147483647)) (.inl (cI, 40, .inl (fun _ => 0))) := arT_of (fun _ => In_any _)
set_option maxRecDepth 100000 in
theorem zx_95 {qx : Nat → Nat} {fx : Nat → Int64} {cI cJ cZ : ClassId} : (arrT cI 40 (In (-2147483648) 2147483647)) (.inl (cI, 40, .inl (fun _ => 0))) := arT_of (fun _ => In_any _)
set_option maxRecDepth 100000 in
theorem zx_96 {qx : Nat → Nat} {fx : Nat → Int64} {cI cJ cZ : ClassId} : (arrT cI 10 (In (-2147483648) 2147483647)) (.inl (cI, 10, .inl (fun _ => 0))) := arT_of (fun _ => In_any _)
set_option maxRecDepth 100000 in
theorem zx_97 {qx : Nat → Nat} {fx : Nat → Int64} {cI cJ cZ : ClassId} : (arrT cI 40 (In (-2147483648) 2147483647)) (.inl (cI, 40, .inl (fun _ => 0))) := arT_of (fun _ => In_any _)
set_option maxRecDepth 100000 in
theorem zx_98 {qx : Nat → Nat} {fx : Nat → Int64} {cI cJ cZ : ClassId} : (arrT cI 40 (In (-2147483648) 2147483647)) (.inl (cI, 40, .inl (fun _ => 0))) := arT_of (fun _ => In_any _)
set_option maxRecDepth 100000 in
theorem zx_99 {qx : Nat → Nat} {fx : Nat → Int64} {cI cJ cZ : ClassId} : (arrT cI 1024 (In (-2147483648) 2147483647)) (.inl (cI, 1024, .inl (fun _ => 0))) := arT_of (fun _ => In_any _)
set_option maxRecDepth 100000 in
theorem zx_100 {qx : Nat → Nat} {fx : Nat → Int64} {cI cJ cZ : ClassId} : (arrT cI 1024 (In (-2147483648) 2147483647)) (.inl (cI, 1024, .inl (fun _ => 0))) := arT_of (fun _ => In_any _)
set_option maxRecDepth 100000 in
theorem zx_101 {qx : Nat → Nat} {fx : Nat → Int64} {cI cJ cZ : ClassId} : (arrT cI 1024 (In (-2147483648) 2147483647)) (.inl (cI, 1024, .inl (fun _ => 0))) := arT_of (fun _ => In_any _)
set_option maxRecDepth 100000 in
theorem zx_102 {qx : Nat → Nat} {fx : Nat → Int64} {cI cJ cZ : ClassId} : (objT 0 [iT 0 40, rT (qx 103), rT (qx 104), iT 0 40, rT (qx 105), rT (qx 106), rT (qx 107), iT (-2147483648) 2147483647, iT (-2147483648) 2147483647, rT (qx 108), iT 0 100]) (.inr (0, ((((((df_X0.set 1 (.ref (qx 103))).set 2 (.ref (qx 104))).set 4 (.ref (qx 105))).set 5 (.ref (qx 106))).set 6 (.ref (qx 107))).set 9 (.ref (qx 108))))) := objT_of (FsT_c (iT_of (by decide)) (FsT_c (rT_of _) (FsT_c (rT_of _) (FsT_c (iT_of (by decide)) (FsT_c (rT_of _) (FsT_c (rT_of _) (FsT_c (rT_of _) (FsT_c (iT_of (by decide)) (FsT_c (iT_of (by decide)) (FsT_c (rT_of _) (FsT_c (iT_of (by decide)) FsT_n)))))))))))
set_option maxRecDepth 100000 in
theorem zx_103 {qx : Nat → Nat} {fx : Nat → Int64} {cI cJ cZ : ClassId} : (arrT cI 40 (In 0 39)) (.inl (cI, 40, .inl (fun _ => 0))) := arT_of (fun _ => In_lit (n := 0) (by decide) (by decide))
set_option maxRecDepth 100000 in
theorem zx_104 {qx : Nat → Nat} {fx : Nat → Int64} {cI cJ cZ : ClassId} : (arrT cI 40 (In (-2147483648) 2147483647)) (.inl (cI, 40, .inl (fun _ => 0))) := arT_of (fun _ => In_any _)
set_option maxRecDepth 100000 in
theorem zx_105 {qx : Nat → Nat} {fx : Nat → Int64} {cI cJ cZ : ClassId} : (arrT cI 40 (In 0 39)) (.inl (cI, 40, .inl (fun _ => 0))) := arT_of (fun _ => In_lit (n := 0) (by decide) (by decide))
set_option maxRecDepth 100000 in
theorem zx_106 {qx : Nat → Nat} {fx : Nat → Int64} {cI cJ cZ : ClassId} : (arrT cI 40 (In (-2147483648) 2147483647)) (.inl (cI, 40, .inl (fun _ => 0))) := arT_of (fun _ => In_any _)
set_option maxRecDepth 100000 in
theorem zx_107 {qx : Nat → Nat} {fx : Nat → Int64} {cI cJ cZ : ClassId} : (arrT cI 9 (In (-2147483648) 2147483647)) (.inl (cI, 9, .inl (fun _ => 0))) := arT_of (fun _ => In_any _)
set_option maxRecDepth 100000 in
theorem zx_108 {qx : Nat → Nat} {fx : Nat → Int64} {cI cJ cZ : ClassId} : (arrT cI 100 (In (-2147483648) 2147483647)) (.inl (cI, 100, .inl (fun _ => 0))) := arT_of (fun _ => In_any _)
set_option maxRecDepth 100000 in
theorem zx_109 {qx : Nat → Nat} {fx : Nat → Int64} {cI cJ cZ : ClassId} : (arrT cI 10 (In (-2147483648) 2147483647)) (.inl (cI, 10, .inl (fun _ => 0))) := arT_of (fun _ => In_any _)
set_option maxRecDepth 100000 in
theorem zx_HT {qx : Nat → Nat} {fx : Nat → Int64} {cI cJ cZ : ClassId} : HT qx (TX qx cI cJ cZ 1 16 16) (WX qx fx cI cJ cZ) := HT_of (HTL_c (@zx_0 qx fx cI cJ cZ) (HTL_c (@zx_1 qx fx cI cJ cZ) (HTL_c (@zx_2 qx fx cI cJ cZ) (HTL_c (@zx_3 qx fx cI cJ cZ) (HTL_c (@zx_4 qx fx cI cJ cZ) (HTL_c (@zx_5 qx fx cI cJ cZ) (HTL_c (@zx_6 qx fx cI cJ cZ) (HTL_c (@zx_7 qx fx cI cJ cZ) (HTL_c (@zx_8 qx fx cI cJ cZ) (HTL_c (@zx_9 qx fx cI cJ cZ) (HTL_c (@zx_10 qx fx cI cJ cZ) (HTL_c (@zx_11 qx fx cI cJ cZ) (HTL_c (@zx_12 qx fx cI cJ cZ) (HTL_c (@zx_13 qx fx cI cJ cZ) (HTL_c (@zx_14 qx fx cI cJ cZ) (HTL_c (@zx_15 qx fx cI cJ cZ) (HTL_c (@zx_16 qx fx cI cJ cZ) (HTL_c (@zx_17 qx fx cI cJ cZ) (HTL_c (@zx_18 qx fx cI cJ cZ) (HTL_c (@zx_19 qx fx cI cJ cZ) (HTL_c (@zx_20 qx fx cI cJ cZ) (HTL_c (@zx_21 qx fx cI cJ cZ) (HTL_c (@zx_22 qx fx cI cJ cZ) (HTL_c (@zx_23 qx fx cI cJ cZ) (HTL_c (@zx_24 qx fx cI cJ cZ) (HTL_c (@zx_25 qx fx cI cJ cZ) (HTL_c (@zx_26 qx fx cI cJ cZ) (HTL_c (@zx_27 qx fx cI cJ cZ) (HTL_c (@zx_28 qx fx cI cJ cZ) (HTL_c (@zx_29 qx fx cI cJ cZ) (HTL_c (@zx_30 qx fx cI cJ cZ) (HTL_c (@zx_31 qx fx cI cJ cZ) (HTL_c (@zx_32 qx fx cI cJ cZ) (HTL_c (@zx_33 qx fx cI cJ cZ) (HTL_c (@zx_34 qx fx cI cJ cZ) (HTL_c (@zx_35 qx fx cI cJ cZ) (HTL_c (@zx_36 qx fx cI cJ cZ) (HTL_c (@zx_37 qx fx cI cJ cZ) (HTL_c (@zx_38 qx fx cI cJ cZ) (HTL_c (@zx_39 qx fx cI cJ cZ) (HTL_c (@zx_40 qx fx cI cJ cZ) (HTL_c (@zx_41 qx fx cI cJ cZ) (HTL_c (@zx_42 qx fx cI cJ cZ) (HTL_c (@zx_43 qx fx cI cJ cZ) (HTL_c (@zx_44 qx fx cI cJ cZ) (HTL_c (@zx_45 qx fx cI cJ cZ) (HTL_c (@zx_46 qx fx cI cJ cZ) (HTL_c (@zx_47 qx fx cI cJ cZ) (HTL_c (@zx_48 qx fx cI cJ cZ) (HTL_c (@zx_49 qx fx cI cJ cZ) (HTL_c (@zx_50 qx fx cI cJ cZ) (HTL_c (@zx_51 qx fx cI cJ cZ) (HTL_c (@zx_52 qx fx cI cJ cZ) (HTL_c (@zx_53 qx fx cI cJ cZ) (HTL_c (@zx_54 qx fx cI cJ cZ) (HTL_c (@zx_55 qx fx cI cJ cZ) (HTL_c (@zx_56 qx fx cI cJ cZ) (HTL_c (@zx_57 qx fx cI cJ cZ) (HTL_c (@zx_58 qx fx cI cJ cZ) (HTL_c (@zx_59 qx fx cI cJ cZ) (HTL_c (@zx_60 qx fx cI cJ cZ) (HTL_c (@zx_61 qx fx cI cJ cZ) (HTL_c (@zx_62 qx fx cI cJ cZ) (HTL_c (@zx_63 qx fx cI cJ cZ) (HTL_c (@zx_64 qx fx cI cJ cZ) (HTL_c (@zx_65 qx fx cI cJ cZ) (HTL_c (@zx_66 qx fx cI cJ cZ) (HTL_c (@zx_67 qx fx cI cJ cZ) (HTL_c (@zx_68 qx fx cI cJ cZ) (HTL_c (@zx_69 qx fx cI cJ cZ) (HTL_c (@zx_70 qx fx cI cJ cZ) (HTL_c (@zx_71 qx fx cI cJ cZ) (HTL_c (@zx_72 qx fx cI cJ cZ) (HTL_c (@zx_73 qx fx cI cJ cZ) (HTL_c (@zx_74 qx fx cI cJ cZ) (HTL_c (@zx_75 qx fx cI cJ cZ) (HTL_c (@zx_76 qx fx cI cJ cZ) (HTL_c (@zx_77 qx fx cI cJ cZ) (HTL_c (@zx_78 qx fx cI cJ cZ) (HTL_c (@zx_79 qx fx cI cJ cZ) (HTL_c (@zx_80 qx fx cI cJ cZ) (HTL_c (@zx_81 qx fx cI cJ cZ) (HTL_c (@zx_82 qx fx cI cJ cZ) (HTL_c (@zx_83 qx fx cI cJ cZ) (HTL_c (@zx_84 qx fx cI cJ cZ) (HTL_c (@zx_85 qx fx cI cJ cZ) (HTL_c (@zx_86 qx fx cI cJ cZ) (HTL_c (@zx_87 qx fx cI cJ cZ) (HTL_c (@zx_88 qx fx cI cJ cZ) (HTL_c (@zx_89 qx fx cI cJ cZ) (HTL_c (@zx_90 qx fx cI cJ cZ) (HTL_c (@zx_91 qx fx cI cJ cZ) (HTL_c (@zx_92 qx fx cI cJ cZ) (HTL_c (@zx_93 qx fx cI cJ cZ) (HTL_c (@zx_94 qx fx cI cJ cZ) (HTL_c (@zx_95 qx fx cI cJ cZ) (HTL_c (@zx_96 qx fx cI cJ cZ) (HTL_c (@zx_97 qx fx cI cJ cZ) (HTL_c (@zx_98 qx fx cI cJ cZ) (HTL_c (@zx_99 qx fx cI cJ cZ) (HTL_c (@zx_100 qx fx cI cJ cZ) (HTL_c (@zx_101 qx fx cI cJ cZ) (HTL_c (@zx_102 qx fx cI cJ cZ) (HTL_c (@zx_103 qx fx cI cJ cZ) (HTL_c (@zx_104 qx fx cI cJ cZ) (HTL_c (@zx_105 qx fx cI cJ cZ) (HTL_c (@zx_106 qx fx cI cJ cZ) (HTL_c (@zx_107 qx fx cI cJ cZ) (HTL_c (@zx_108 qx fx cI cJ cZ) (HTL_c (@zx_109 qx fx cI cJ cZ) HTL_n))))))))))))))))))))))))))))))))))))))))))))))))))))))))))))))))))))))))))))))))))))))))))))))))))))))))))))))
