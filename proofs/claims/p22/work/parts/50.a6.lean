set_option maxRecDepth 100000 in
set_option maxHeartbeats 4000000 in
theorem lp_tape {D : va_G} {cI cJ cZ : ClassId} {h0 q1 q2 aK aV : Nat} {f0 : Nat → Int32} {fs1 : List Value} (hf : fs1[2]? = some (.ref q2)) {p : Program} {l : Launch} {e : Env} {s : State} {m : MethodId} {args : Array Value} {below : List Frame} {meth : Method} {c : Code} {cells slots : Nat} {Q : State → Prop} {A : Nat → Prop} (hx : p.tables.exec = Jvm.exec) (hb : c.code = cX10_init) (hml : c.maxLocals = 5) (hown : s.vm.findClass RX10 = some m.cls) (hts : ∀ w ∈ BIG, w.before args s = true) (hK : va_K D vwCl (tyK cI cJ cZ) s) (hA : ∀ q, s.heap.size ≤ q → A q) (hE : eS aK aV obf A s s.heap) (hcs : cells + 0 ≤ 2 ∧ slots + 0 ≤ 1022)
    (kk : ∀ (f : Nat → Int64) (H : Heap) (locs : List Loc) (ls : Array Slot), f = (oSt 106).2.2 → va_P D vwCl [(h0, .inr (10, fs1)), (q1, .inl (cI, 1000, .inl f0)), (q2, .inl (cJ, 22, .inr (.inl f)))] H → va_D A [(h0, .inr (10, fs1)), (q1, .inl (cI, 1000, .inl f0)), (q2, .inl (cJ, 22, .inr (.inl f)))] → va_S A s.heap H locs → W p l e ({ frames := 4, cells := 2, slots := 1022, locals := 85 } : Room) s m args below meth c H locs cells slots Q (F0 m 96 ls [])) :
    ∀ (n j c0 : Nat) (k : Int32) (f : Nat → Int64) (H : Heap) (locs : List Loc) (ls : Array Slot), j + n = 106 → c0 ≤ j → oSt j = (c0, k, f) → va_P D vwCl [(h0, .inr (10, fs1)), (q1, .inl (cI, 1000, .inl f0)), (q2, .inl (cJ, 22, .inr (.inl f)))] H → va_D A [(h0, .inr (10, fs1)), (q1, .inl (cI, 1000, .inl f0)), (q2, .inl (cJ, 22, .inr (.inl f)))] → va_S A s.heap H locs → lv_has ls 5 [(0, .ref h0), (1, .int (nI c0)), (2, .int k), (3, .int (nI j))] → W p l e ({ frames := 4, cells := 2, slots := 1022, locals := 85 } : Room) s m args below meth c H locs cells slots Q (F0 m 27 ls []) := by
  intro n
  induction n with
  | zero =>
    intro j c0 k f H locs ls hjn hcj ho hP hD hS hl
    obtain rfl : j = 106 := by omega
    refine lv_iload_n hx hb dX10_init_27 rfl (lv_at hl 3 rfl) ?_
    refine va_ldcS hx hb hown hE.1 dX10_init_28 ?_
    refine cl_i (wr := [(h0, .inr (10, fs1)), (q1, .inl (cI, 1000, .inl f0)), (q2, .inl (cJ, 22, .inr (.inl f)))]) (rn_VR (As := []) (rest := [.int (nI 106)]) hx hb hml hown hts (c_length l D cI cJ cZ aK aV obf _) ⟨rfl, rfl⟩ sv_X10_21 ⟨(Nat.le_of_ble_eq_true rfl), (Nat.le_of_ble_eq_true rfl)⟩ hcs eSx_blind (eSx_call hE hS (va_A_nil hS hA)) hK hP hD [] rfl rfl (s_recv hE hS) rfl hl.1 rfl (Nat.le_of_ble_eq_true rfl) dX10_init_30) hP hD hS hA [] [0, 1, 2] rfl rfl rfl (by decide) (fun r w1 H locs hw hP hD hS => ?_)
    obtain ⟨rfl, rfl⟩ := hw
    have hP : va_P D vwCl [(h0, .inr (10, fs1)), (q1, .inl (cI, 1000, .inl f0)), (q2, .inl (cJ, 22, .inr (.inl f)))] H := hP
    have hD : va_D A [(h0, .inr (10, fs1)), (q1, .inl (cI, 1000, .inl f0)), (q2, .inl (cJ, 22, .inr (.inl f)))] := hD
    refine lv_icmp_ge (tgt := 96) hx hb dX10_init_33 (by decide) (fun _ => ?_) (fun h => (h (by decide)).elim)
    exact kk f H locs ls (by rw [ho]) hP hD hS
  | succ n ih =>
    intro j c0 k f H locs ls hjn hcj ho hP hD hS hl
    have hj : j < 106 := by omega
    refine lv_iload_n hx hb dX10_init_27 rfl (lv_at hl 3 rfl) ?_
    refine va_ldcS hx hb hown hE.1 dX10_init_28 ?_
    refine cl_i (wr := [(h0, .inr (10, fs1)), (q1, .inl (cI, 1000, .inl f0)), (q2, .inl (cJ, 22, .inr (.inl f)))]) (rn_VR (As := []) (rest := [.int (nI j)]) hx hb hml hown hts (c_length l D cI cJ cZ aK aV obf _) ⟨rfl, rfl⟩ sv_X10_21 ⟨(Nat.le_of_ble_eq_true rfl), (Nat.le_of_ble_eq_true rfl)⟩ hcs eSx_blind (eSx_call hE hS (va_A_nil hS hA)) hK hP hD [] rfl rfl (s_recv hE hS) rfl hl.1 rfl (Nat.le_of_ble_eq_true rfl) dX10_init_30) hP hD hS hA [] [0, 1, 2] rfl rfl rfl (by decide) (fun r w1 H locs hw hP hD hS => ?_)
    obtain ⟨rfl, rfl⟩ := hw
    have hP : va_P D vwCl [(h0, .inr (10, fs1)), (q1, .inl (cI, 1000, .inl f0)), (q2, .inl (cJ, 22, .inr (.inl f)))] H := hP
    have hD : va_D A [(h0, .inr (10, fs1)), (q1, .inl (cI, 1000, .inl f0)), (q2, .inl (cJ, 22, .inr (.inl f)))] := hD
    refine lv_icmp_ge (tgt := 96) hx hb dX10_init_33 (by decide) (fun h => absurd h (nI_ge hj (by decide))) (fun _ => ?_)
    refine lv_iload_n hx hb dX10_init_36 rfl (lv_at hl 1 rfl) ?_
    refine lv_bipush (v := 22) hx hb dX10_init_37 (by decide) ?_
    have hc0 : c0 < 22 := by
      have q := oSt_lt ⟨j, hj⟩
      have q2 : (oSt j).1 < 22 := q
      rw [ho] at q2
      exact q2
    refine lv_icmp_ge (tgt := 96) hx hb dX10_init_39 (by decide) (fun hq => absurd hq (nI_ge hc0 (by decide))) (fun hc => ?_)
    refine va_ldcS hx hb hown hE.1 dX10_init_42 ?_
    refine lv_iload_n hx hb dX10_init_44 rfl (lv_at hl 3 rfl) ?_
    refine cl_i (wr := [(h0, .inr (10, fs1)), (q1, .inl (cI, 1000, .inl f0)), (q2, .inl (cJ, 22, .inr (.inl f)))]) (rn_VR (As := [.int (nI j)]) (rest := []) hx hb hml hown hts (c_charAt l D cI cJ cZ aK aV obf (nI j) (nI_pos (by omega)) (nI_lt hj (by decide)) _) ⟨rfl, rfl⟩ sv_X10_27 ⟨(Nat.le_of_ble_eq_true rfl), (Nat.le_of_ble_eq_true rfl)⟩ hcs eSx_blind (eSx_call hE hS (va_A_nil hS hA)) hK hP hD [] rfl rfl (s_recv hE hS) rfl hl.1 rfl (Nat.le_of_ble_eq_true rfl) dX10_init_45) hP hD hS hA [] [0, 1, 2] rfl rfl rfl (by decide) (fun r w1 H locs hw hP hD hS => ?_)
    obtain ⟨rfl, er⟩ := hw
    have er : r = oCh j := er
    have hP : va_P D vwCl [(h0, .inr (10, fs1)), (q1, .inl (cI, 1000, .inl f0)), (q2, .inl (cJ, 22, .inr (.inl f)))] H := hP
    have hD : va_D A [(h0, .inr (10, fs1)), (q1, .inl (cI, 1000, .inl f0)), (q2, .inl (cJ, 22, .inr (.inl f)))] := hD
    refine lv_istore (lv' := [(4, .int r), (0, .ref h0), (1, .int (nI c0)), (2, .int k), (3, .int (nI j))]) hx hb dX10_init_48 hl (by decide) rfl (fun ls hl => ?_)
    refine lv_iload hx hb dX10_init_50 (lv_at hl 0 rfl) ?_
    refine lv_bipush (v := 32) hx hb dX10_init_52 (by decide) ?_
    refine lv_icmp_ne (tgt := 65) hx hb dX10_init_54 (by decide) (fun hr => ?_) (fun hr => ?_)
    · refine lv_aload_n hx hb dX10_init_65 rfl (lv_at hl 1 rfl) ?_
      refine gt_X10 hx hb hts hown hK hP 0 rfl 2 (by decide) wd_193 rfl hf dX10_init_66 ?_
      refine lv_iload_n hx hb dX10_init_69 rfl (lv_at hl 2 rfl) ?_
      refine lv_dup2_11 hx hb dX10_init_70 rfl rfl ?_
      refine va_lald hx hb hK hP 2 1 rfl rfl (vp_in_nI hc0 (by decide)) dX10_init_71 ?_
      refine lv_iload hx hb dX10_init_72 (lv_at hl 0 rfl) ?_
      refine lv_bipush (v := 96) hx hb dX10_init_74 (by decide) ?_
      refine lv_isub hx hb dX10_init_76 ?_
      refine lv_i2l hx hb dX10_init_77 rfl ?_
      refine lv_bipush (v := 35) hx hb dX10_init_78 (by decide) ?_
      refine lv_iconst (v := 5) hx hb dX10_init_80 (by decide) ?_
      refine lv_iload_n hx hb dX10_init_81 rfl (lv_at hl 3 rfl) ?_
      refine lv_imul hx hb dX10_init_82 ?_
      refine lv_isub hx hb dX10_init_83 ?_
      refine lv_lshl hx hb dX10_init_84 rfl ?_
      refine lv_lor hx hb dX10_init_85 ?_
      refine lv_topl (fun z ez => ?_)
      refine va_last hx hb hK hP hD hS 2 1 rfl rfl (vp_in_nI hc0 (by decide)) dX10_init_86 (fun H locs hP hD hS => ?_)
      obtain ⟨f2, ef2⟩ : ∃ y, y = vp_updL f (nI c0).toNatClampNeg z := ⟨_, rfl⟩
      rw [← ef2] at hP hD
      have hP : va_P D vwCl [(h0, .inr (10, fs1)), (q1, .inl (cI, 1000, .inl f0)), (q2, .inl (cJ, 22, .inr (.inl f2)))] H := hP
      have hD : va_D A [(h0, .inr (10, fs1)), (q1, .inl (cI, 1000, .inl f0)), (q2, .inl (cJ, 22, .inr (.inl f2)))] := hD
      refine lv_iinc (v := (k + 1)) (lv' := [(2, .int (k + 1)), (4, .int r), (0, .ref h0), (1, .int (nI c0)), (3, .int (nI j))]) hx hb dX10_init_87 hl (k := 3) rfl rfl (by decide) rfl (fun ls hl => ?_)
      refine lv_iinc (v := nI (j + 1)) (lv' := [(3, .int (nI (j + 1))), (2, .int (k + 1)), (4, .int r), (0, .ref h0), (1, .int (nI c0))]) hx hb dX10_init_90 hl (k := 4) rfl (nI_inc j) (by decide) rfl (fun ls hl => ?_)
      refine lv_goto (tgt := 27) hx hb dX10_init_93 (by decide) ?_
      have ho2 : oSt (j + 1) = (c0, k + 1, f2) := by
        show (if oCh j = 32 then ((oSt j).1 + 1, 0, (oSt j).2.2) else ((oSt j).1, (oSt j).2.1 + 1, vp_updL (oSt j).2.2 (nI (oSt j).1).toNatClampNeg ((oSt j).2.2 (nI (oSt j).1).toNatClampNeg ||| ((oCh j - 96).toInt64 <<< ((35 - 5 * (oSt j).2.1).toInt64 &&& 63))))) = _
        rw [if_neg (by rw [← er]; exact hr), ho, ef2, ez, er]
      exact ih (j + 1) c0 (k + 1) f2 H locs ls (by omega) (by omega) ho2 hP hD hS (lv_sub hl [3, 4, 1, 0] rfl)
    · refine lv_iinc (v := nI (c0 + 1)) (lv' := [(1, .int (nI (c0 + 1))), (4, .int r), (0, .ref h0), (2, .int k), (3, .int (nI j))]) hx hb dX10_init_57 hl (k := 2) rfl (nI_inc c0) (by decide) rfl (fun ls hl => ?_)
      refine lv_iconst (v := 0) hx hb dX10_init_60 (by decide) ?_
      refine lv_istore_n (lv' := [(2, .int 0), (1, .int (nI (c0 + 1))), (4, .int r), (0, .ref h0), (3, .int (nI j))]) hx hb dX10_init_61 rfl hl (by decide) rfl (fun ls hl => ?_)
      refine lv_goto (tgt := 90) hx hb dX10_init_62 (by decide) ?_
      refine lv_iinc (v := nI (j + 1)) (lv' := [(3, .int (nI (j + 1))), (2, .int 0), (1, .int (nI (c0 + 1))), (4, .int r), (0, .ref h0)]) hx hb dX10_init_90 hl (k := 4) rfl (nI_inc j) (by decide) rfl (fun ls hl => ?_)
      refine lv_goto (tgt := 27) hx hb dX10_init_93 (by decide) ?_
      have ho2 : oSt (j + 1) = (c0 + 1, 0, f) := by
        show (if oCh j = 32 then ((oSt j).1 + 1, 0, (oSt j).2.2) else ((oSt j).1, (oSt j).2.1 + 1, vp_updL (oSt j).2.2 (nI (oSt j).1).toNatClampNeg ((oSt j).2.2 (nI (oSt j).1).toNatClampNeg ||| ((oCh j - 96).toInt64 <<< ((35 - 5 * (oSt j).2.1).toInt64 &&& 63))))) = _
        rw [if_pos (by rw [← er]; exact hr), ho]
      exact ih (j + 1) (c0 + 1) 0 f H locs ls (by omega) (by omega) ho2 hP hD hS (lv_sub hl [4, 2, 1, 0] rfl)
set_option maxRecDepth 100000 in
set_option maxHeartbeats 4000000 in
theorem c_X10_init (l : Launch) (D : va_G) (cI cJ cZ : ClassId) (aK aV : Nat) (h0 : Nat) (fs0 : List Value) (hl_fs0 : fs0.length = 8) : Con_v l yX10_init cX10_init 5 none ({ frames := 4, cells := 2, slots := 1022, locals := 85 } : Room) D cI cJ cZ (eSx aK aV obf [(h0, .inr (10, fs0))]) [.ref h0] [(h0, .inr (10, fs0))] (fun w => ∃ (q1 q2 : Nat) (f : Nat → Int64), OWf f ∧ w = [(h0, .inr (10, ((fs0.set 0 (.ref q1)).set 2 (.ref q2)))), (q1, .inl (cI, 1000, .inl (fun _ => 0))), (q2, .inl (cJ, 22, .inr (.inl f)))]) := by
  refine ent_vS (by decide) (Nat.le_of_ble_eq_true rfl) ?_
  intro p e s m below meth c A hx hb hml hown hts hr hlk hnm hK hE hA hP hD hS ls hl
  obtain ⟨hE, -⟩ := hE
  have hown : s.vm.findClass RX10 = some m.cls := hown
  have hl : lv_has ls 5 [(0, .ref h0)] := hl
  refine lv_aload_n hx hb dX10_init_0 rfl (lv_at hl 0 rfl) ?_
  refine W.objInit hx hb hown (hts _ wd_140) (hts _ wd_27) (hts _ wd_28) rfl (by rw [hml]; exact hl.1) rfl dX10_init_1 (Nat.le_of_ble_eq_true rfl) (Nat.le_of_ble_eq_true rfl) ?_
  refine W.eq (g2 := F0 m 4 ls []) rfl ?_
  refine lv_aload_n hx hb dX10_init_4 rfl (lv_at hl 0 rfl) ?_
  refine lv_sipush (v := 1000) hx hb dX10_init_5 (by decide) ?_
  refine nw_I hx hb (hts _ wd_134) hK hP hD hS hA (N' := 1000) (by decide) (by decide) (by decide) (Nat.le_of_ble_eq_true rfl) (Nat.le_of_ble_eq_true rfl) dX10_init_8 (fun q1 H hP hD hS => ?_)
  have hP : va_P D vwCl [(h0, .inr (10, fs0)), (q1, .inl (cI, 1000, .inl (fun _ => 0)))] H := hP
  have hD : va_D A [(h0, .inr (10, fs0)), (q1, .inl (cI, 1000, .inl (fun _ => 0)))] := hD
  refine pF_X10 hx hb hts hown hK hP hD hS 0 rfl 0 (by decide) wd_190 rfl rfl hnm rfl (ty := .array .int) (v := .ref q1) (by decide +kernel) rfl rfl (ln_lt hl_fs0 (by decide)) dX10_init_10 (fun H locs hP hD hS => ?_)
  have hP : va_P D vwCl [(h0, .inr (10, (fs0.set 0 (.ref q1)))), (q1, .inl (cI, 1000, .inl (fun _ => 0)))] H := hP
  have hD : va_D A [(h0, .inr (10, (fs0.set 0 (.ref q1)))), (q1, .inl (cI, 1000, .inl (fun _ => 0)))] := hD
  refine lv_aload_n hx hb dX10_init_13 rfl (lv_at hl 0 rfl) ?_
  refine lv_bipush (v := 22) hx hb dX10_init_14 (by decide) ?_
  refine nw_J hx hb (hts _ wd_133) hK hP hD hS hA (N' := 22) (by decide) (by decide) (by decide) (Nat.le_of_ble_eq_true rfl) (Nat.le_of_ble_eq_true rfl) dX10_init_16 (fun q2 H hP hD hS => ?_)
  have hP : va_P D vwCl [(h0, .inr (10, (fs0.set 0 (.ref q1)))), (q1, .inl (cI, 1000, .inl (fun _ => 0))), (q2, .inl (cJ, 22, .inr (.inl (fun _ => 0))))] H := hP
  have hD : va_D A [(h0, .inr (10, (fs0.set 0 (.ref q1)))), (q1, .inl (cI, 1000, .inl (fun _ => 0))), (q2, .inl (cJ, 22, .inr (.inl (fun _ => 0))))] := hD
  refine pF_X10 hx hb hts hown hK hP hD hS 0 rfl 2 (by decide) wd_193 rfl rfl hnm rfl (ty := .array .long) (v := .ref q2) (by decide +kernel) rfl rfl (ln_lt (ln_set hl_fs0) (by decide)) dX10_init_18 (fun H locs hP hD hS => ?_)
  have hP : va_P D vwCl [(h0, .inr (10, ((fs0.set 0 (.ref q1)).set 2 (.ref q2)))), (q1, .inl (cI, 1000, .inl (fun _ => 0))), (q2, .inl (cJ, 22, .inr (.inl (fun _ => 0))))] H := hP
  have hD : va_D A [(h0, .inr (10, ((fs0.set 0 (.ref q1)).set 2 (.ref q2)))), (q1, .inl (cI, 1000, .inl (fun _ => 0))), (q2, .inl (cJ, 22, .inr (.inl (fun _ => 0))))] := hD
  refine lv_iconst (v := 0) hx hb dX10_init_21 (by decide) ?_
  refine lv_istore_n (lv' := [(1, .int 0), (0, .ref h0)]) hx hb dX10_init_22 rfl hl (by decide) rfl (fun ls hl => ?_)
  refine lv_iconst (v := 0) hx hb dX10_init_23 (by decide) ?_
  refine lv_istore_n (lv' := [(2, .int 0), (1, .int 0), (0, .ref h0)]) hx hb dX10_init_24 rfl hl (by decide) rfl (fun ls hl => ?_)
  refine lv_iconst (v := 0) hx hb dX10_init_25 (by decide) ?_
  refine lv_istore_n (lv' := [(3, .int 0), (2, .int 0), (1, .int 0), (0, .ref h0)]) hx hb dX10_init_26 rfl hl (by decide) rfl (fun ls hl => ?_)
  refine lp_tape (fs1 := ((fs0.set 0 (.ref q1)).set 2 (.ref q2))) (q1 := q1) (q2 := q2) (h0 := h0) (f0 := fun _ => 0) (gs_eq (ln_lt (ln_set hl_fs0) (by decide))) hx hb hml hown hts hK hA hE ⟨(Nat.le_of_ble_eq_true rfl), (Nat.le_of_ble_eq_true rfl)⟩ (fun f H locs ls hof hP hD hS => ?_) 106 0 0 0 (fun _ => 0) _ _ ls (by omega) (by omega) rfl hP hD hS (lv_sub hl [3, 2, 1, 0] rfl)
  refine W.widen (k := 2) (n := 1022) (by decide) (by decide) ?_
  exact fin_v hx hb hr hlk hK hP hD hS dX10_init_96 ⟨q1, q2, f, by rw [hof]; exact OWf_own, rfl⟩
