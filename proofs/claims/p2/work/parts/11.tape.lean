set_option maxRecDepth 100000 in
set_option maxHeartbeats 8000000 in
theorem lp_step {D : va_G} {cI cJ cZ : ClassId} {h0 q1 : Nat} {n : Nat} {ps0 : Nat} {b1 : Int32} {f1 : Nat → Int32} (hn : n ≤ 1000) {p : Program} {l : Launch} {e : Env} {R : Room} {s : State} {m : MethodId} {args : Array Value} {below : List Frame} {meth : Method} {c : Code} {cells slots : Nat} {Q : State → Prop} {A : Nat → Prop} (hx : p.tables.exec = Jvm.exec) (hb : c.code = cX10_step) (hml : c.maxLocals = 5) (hown : s.vm.findClass RX10 = some m.cls) (hts : ∀ w ∈ BIG, w.before args s = true) (hK : va_K D vwCl (tyK cI cJ cZ) s) (hA : ∀ q, s.heap.size ≤ q → A q) (hcs : cells + 0 ≤ R.cells ∧ slots + 0 ≤ R.slots) (hroom : 0 ≤ R.frames ∧ 0 ≤ R.locals) {wr : va_W} (kk : ∀ (fs0 : List Value) (ps : Nat) (H : Heap) (locs : List Loc) (ls : Array Slot), (fs0.length = 8) → (fs0[0]? = some (.ref q1)) → (fs0[1]? = some (.int (nI n))) → (fs0[3]? = some (.int (nI ps))) → (ps ≤ n) → va_P D vwCl ([(h0, .inr (10, fs0)), (q1, .inl (cI, 1000, .inl f1))] ++ wr) H → va_D A ([(h0, .inr (10, fs0)), (q1, .inl (cI, 1000, .inl f1))] ++ wr) → va_S A s.heap H locs → lv_has ls 5 [(0, .ref h0), (1, .int b1), (2, .int (nI ps0))] → W p l e R s m args below meth c H locs cells slots Q (F0 m 73 ls [])) : ∀ (N : Nat) (fs0 : List Value) (ps : Nat) (H : Heap) (locs : List Loc) (ls : Array Slot), (fs0.length = 8) → (fs0[0]? = some (.ref q1)) → (fs0[1]? = some (.int (nI n))) → (fs0[3]? = some (.int (nI ps))) → (ps ≤ n) → n - ps < N → va_P D vwCl ([(h0, .inr (10, fs0)), (q1, .inl (cI, 1000, .inl f1))] ++ wr) H → va_D A ([(h0, .inr (10, fs0)), (q1, .inl (cI, 1000, .inl f1))] ++ wr) → va_S A s.heap H locs → lv_has ls 5 [(0, .ref h0), (1, .int b1), (2, .int (nI ps0))] → W p l e R s m args below meth c H locs cells slots Q (F0 m 21 ls []) := by
  intro N
  induction N with
  | zero =>
    intro fs0 ps H locs ls hl_fs0 hf_fs0_0 hf_fs0_1 hf_fs0_3 hp hmu
    exact absurd hmu (Nat.not_lt_zero _)
  | succ N ih =>
    intro fs0 ps H locs ls hl_fs0 hf_fs0_0 hf_fs0_1 hf_fs0_3 hp hmu hP hD hS hl
    refine lv_aload_n hx hb dX10_step_21 rfl (lv_at hl 0 rfl) ?_
    refine gt_X10 hx hb hts hown hK hP 0 rfl 3 (by decide) wd_194 rfl hf_fs0_3 dX10_step_22 ?_
    refine lv_aload_n hx hb dX10_step_25 rfl (lv_at hl 0 rfl) ?_
    refine gt_X10 hx hb hts hown hK hP 0 rfl 1 (by decide) wd_192 rfl hf_fs0_1 dX10_step_26 ?_
    refine lv_icmp_ge (tgt := 73) hx hb dX10_step_29 (by decide) (fun c_1 => ?_) (fun c_1 => ?_)
    · have c_1n := n_le (a := n) (b := ps) c_1 (by omega) (by omega)
      exact kk fs0 ps H locs ls hl_fs0 hf_fs0_0 hf_fs0_1 hf_fs0_3 (by omega) hP hD hS (lv_sub hl [0, 1, 2] rfl)
    · have c_1n := n_nle (a := n) (b := ps) c_1 (by omega) (by omega)
      refine lv_aload_n hx hb dX10_step_32 rfl (lv_at hl 0 rfl) ?_
      refine gt_X10 hx hb hts hown hK hP 0 rfl 0 (by decide) wd_190 rfl hf_fs0_0 dX10_step_33 ?_
      refine lv_aload_n hx hb dX10_step_36 rfl (lv_at hl 0 rfl) ?_
      refine gt_X10 hx hb hts hown hK hP 0 rfl 3 (by decide) wd_194 rfl hf_fs0_3 dX10_step_37 ?_
      refine va_iald hx hb hK hP 1 0 rfl rfl (vp_in_nI (n := ps) (by omega) (by decide)) dX10_step_40 ?_
      refine tov (v := (f1 ps)) (n_ld (a := ps) (by omega)) ?_
      refine lv_bipush (v := 10) hx hb dX10_step_41 (by decide) ?_
      refine lv_icmp_eq (tgt := 60) hx hb dX10_step_43 (by decide) (fun c_2 => ?_) (fun c_2 => ?_)
      · refine lv_aload_n hx hb dX10_step_60 rfl (lv_at hl 0 rfl) ?_
        refine lv_dup hx hb dX10_step_61 rfl ?_
        refine gt_X10 hx hb hts hown hK hP 0 rfl 3 (by decide) wd_194 rfl hf_fs0_3 dX10_step_62 ?_
        refine lv_iconst (v := 1) hx hb dX10_step_65 (by decide) ?_
        refine lv_iadd hx hb dX10_step_66 ?_
        refine tov (v := (nI (ps + 1))) (nI_add _ _) ?_
        refine pt_X10 hx hb hts hown hK hP hD hS 0 rfl 3 (by decide) wd_194 rfl rfl (ty := .int) (v := .int (nI (ps + 1))) (by decide +kernel) rfl rfl (ln_lt hl_fs0 (by decide)) dX10_step_67 (fun H locs hP hD hS => ?_)
        have hP : va_P D vwCl ([(h0, .inr (10, (fs0.set 3 (.int (nI (ps + 1)))))), (q1, .inl (cI, 1000, .inl f1))] ++ wr) H := hP
        have hD : va_D A ([(h0, .inr (10, (fs0.set 3 (.int (nI (ps + 1)))))), (q1, .inl (cI, 1000, .inl f1))] ++ wr) := hD
        refine lv_goto (tgt := 21) hx hb dX10_step_70 (by decide) ?_
        exact ih (fs0.set 3 (.int (nI (ps + 1)))) (ps + 1) H locs ls (ln_set hl_fs0) (gs_ne (by decide) hf_fs0_0) (gs_ne (by decide) hf_fs0_1) (gs_eq (ln_lt hl_fs0 (by decide))) (by omega) (by omega) hP hD hS (lv_sub hl [0, 1, 2] rfl)
      · refine lv_aload_n hx hb dX10_step_46 rfl (lv_at hl 0 rfl) ?_
        refine gt_X10 hx hb hts hown hK hP 0 rfl 0 (by decide) wd_190 rfl hf_fs0_0 dX10_step_47 ?_
        refine lv_aload_n hx hb dX10_step_50 rfl (lv_at hl 0 rfl) ?_
        refine gt_X10 hx hb hts hown hK hP 0 rfl 3 (by decide) wd_194 rfl hf_fs0_3 dX10_step_51 ?_
        refine va_iald hx hb hK hP 1 0 rfl rfl (vp_in_nI (n := ps) (by omega) (by decide)) dX10_step_54 ?_
        refine tov (v := (f1 ps)) (n_ld (a := ps) (by omega)) ?_
        refine lv_bipush (v := 32) hx hb dX10_step_55 (by decide) ?_
        refine lv_icmp_ne (tgt := 73) hx hb dX10_step_57 (by decide) (fun c_3 => ?_) (fun c_3 => ?_)
        · exact kk fs0 ps H locs ls hl_fs0 hf_fs0_0 hf_fs0_1 hf_fs0_3 (by omega) hP hD hS (lv_sub hl [0, 1, 2] rfl)
        · refine lv_aload_n hx hb dX10_step_60 rfl (lv_at hl 0 rfl) ?_
          refine lv_dup hx hb dX10_step_61 rfl ?_
          refine gt_X10 hx hb hts hown hK hP 0 rfl 3 (by decide) wd_194 rfl hf_fs0_3 dX10_step_62 ?_
          refine lv_iconst (v := 1) hx hb dX10_step_65 (by decide) ?_
          refine lv_iadd hx hb dX10_step_66 ?_
          refine tov (v := (nI (ps + 1))) (nI_add _ _) ?_
          refine pt_X10 hx hb hts hown hK hP hD hS 0 rfl 3 (by decide) wd_194 rfl rfl (ty := .int) (v := .int (nI (ps + 1))) (by decide +kernel) rfl rfl (ln_lt hl_fs0 (by decide)) dX10_step_67 (fun H locs hP hD hS => ?_)
          have hP : va_P D vwCl ([(h0, .inr (10, (fs0.set 3 (.int (nI (ps + 1)))))), (q1, .inl (cI, 1000, .inl f1))] ++ wr) H := hP
          have hD : va_D A ([(h0, .inr (10, (fs0.set 3 (.int (nI (ps + 1)))))), (q1, .inl (cI, 1000, .inl f1))] ++ wr) := hD
          refine lv_goto (tgt := 21) hx hb dX10_step_70 (by decide) ?_
          exact ih (fs0.set 3 (.int (nI (ps + 1)))) (ps + 1) H locs ls (ln_set hl_fs0) (gs_ne (by decide) hf_fs0_0) (gs_ne (by decide) hf_fs0_1) (gs_eq (ln_lt hl_fs0 (by decide))) (by omega) (by omega) hP hD hS (lv_sub hl [0, 1, 2] rfl)
