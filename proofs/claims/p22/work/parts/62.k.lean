theorem oF_fs {w : va_W} {k a ci : Nat} {l vs nest : List Value} (h : w[k]? = some (a, .inr (ci, nest))) (e : fsN 0 l vs = nest) (hl : l.length = 0 + vs.length) : oF w k = vs := by
  have q : oF w k = nest := by
    unfold oF
    rw [h]
  rw [q, ← e, fsN_all vs 0 l hl]
  rfl
theorem fI_vs {w : va_W} {k j : Nat} {vs : List Value} {x : Int32} (h : oF w k = vs) (g : vs[j]? = some (.int x)) : fI w k j = x := by
  unfold fI
  rw [h, g]
set_option maxRecDepth 100000 in
theorem zmF {qm : Nat → Nat} {fm : Nat → Int32} {cI cJ cZ : ClassId} : oF (WM qm fm cI cJ cZ) 0 = ((.ref (qm 1)) :: (.int 0) :: (.int 0) :: (.int 0) :: (.int 0) :: (.int 0) :: (.int 0) :: (.long 0) :: (.int 0) :: (.int (-1)) :: (.int 0) :: (.int (-1)) :: (.int 0) :: (.int 0) :: (.ref (qm 2)) :: (.ref (qm 3)) :: (.ref (qm 4)) :: (.ref (qm 5)) :: (.ref (qm 6)) :: (.ref (qm 7)) :: (.ref (qm 8)) :: (.ref (qm 9)) :: (.ref (qm 10)) :: (.ref (qm 11)) :: (.ref (qm 12)) :: (.ref (qm 13)) :: (.ref (qm 14)) :: (.ref (qm 15)) :: (.ref (qm 16)) :: (.ref (qm 17)) :: (.ref (qm 18)) :: (.ref (qm 19)) :: (.int 0) :: (.int 0) :: (.ref (qm 20)) :: (.int 0) :: (.int 0) :: (.int 0) :: (.int 0) :: (.int (-1)) :: (.ref (qm 21)) :: (.ref (qm 22)) :: (.ref (qm 23)) :: (.ref (qm 24)) :: (.ref (qm 25)) :: (.int 0) :: (.ref (qm 26)) :: (.ref (qm 27)) :: (.ref (qm 28)) :: (.ref (qm 29)) :: (.ref (qm 30)) :: (.ref (qm 31)) :: (.ref (qm 32)) :: (.ref (qm 33)) :: (.ref (qm 34)) :: (.ref (qm 35)) :: (.ref (qm 36)) :: (.ref (qm 37)) :: (.ref (qm 38)) :: (.ref (qm 39)) :: (.ref (qm 40)) :: (.ref (qm 41)) :: (.int 0) :: (.ref (qm 42)) :: (.ref (qm 43)) :: (.ref (qm 44)) :: (.ref (qm 45)) :: (.ref (qm 46)) :: (.int 0) :: (.int 0) :: (.ref (qm 47)) :: (.ref (qm 48)) :: (.ref (qm 49)) :: (.ref (qm 50)) :: (.ref (qm 51)) :: (.ref (qm 52)) :: (.ref (qm 53)) :: (.ref (qm 54)) :: (.int 0) :: (.int 0) :: (.int 0) :: (.int 0) :: (.ref (qm 55)) :: (.int 0) :: (.ref (qm 56)) :: (.ref (qm 57)) :: (.ref (qm 58)) :: (.ref (qm 59)) :: (.int 0) :: (.ref (qm 60)) :: (.ref (qm 61)) :: (.ref (qm 62)) :: (.ref (qm 63)) :: (.int 0) :: []) := oF_fs (a := qm 0) (ci := 12) rfl (@zm_0e qm fm cI cJ cZ) (by rw [zm_0l]; rfl)
theorem LD_0 {w : va_W} (h : aF w 36 = fun _ => 0) : LD w := by
  intro a _
  rw [h]
  exact ⟨fun q => absurd (show (0 : Int32) = 2 from q) (by decide), fun q => absurd (show (0 : Int32) = 3 from q) (by decide)⟩
theorem SB_0 {w : va_W} (h1 : aF w 83 = fun _ => 0) (h2 : aF w 85 = fun _ => 0) (h3 : fI w 81 4 = 0) : SB 0 w := by
  unfold SB
  rw [h1, h2, h3]
  exact ⟨fun _ _ => Int.le_refl _, fun _ _ => Int.le_refl _, by decide⟩
theorem LM_0 {w : va_W} (h1 : aF w 21 = fun _ => 0) (h2 : aF w 22 = fun _ => 0) : LM w := by
  intro a _
  rw [h1, h2]
  exact ⟨fun _ => (In_lit (n := 0) (by decide) (by decide) : In 0 24 (0 : Int32)), fun q => absurd (show (0 : Int32) = 1 from q) (by decide)⟩
theorem LY_0 {w : va_W} (h : fI w 0 37 = 0) : LY w := by
  intro a ha hle
  have z : (0 : Int32).toInt = 0 := by decide
  rw [h] at hle
  unfold In at ha
  omega
theorem RV_0 {w : va_W} (h : aF w 4 = fun _ => 0) : RV w := by
  intro r hr
  have z : (0 : Int32).toInt = 0 := by decide
  rw [h] at hr
  have hr2 : (r : Int) < (0 : Int32).toInt := hr
  omega
theorem IX_0 {qx : Nat → Nat} {fx : Nat → Int64} {cI cJ cZ : ClassId} : IX qx cI cJ cZ 0 (WX qx fx cI cJ cZ) := ⟨⟨16, zx_HT⟩, LD_0 rfl, SB_0 rfl rfl rfl⟩
theorem IM_0 {qm : Nat → Nat} {fm : Nat → Int32} {cI cJ cZ : ClassId} : IM qm cI cJ cZ (WM qm fm cI cJ cZ) := ⟨zm_HT, LM_0 rfl rfl, LY_0 (fI_vs zmF rfl), RV_0 rfl⟩
theorem IT_00 {qx qm : Nat → Nat} {fx : Nat → Int64} {fm : Nat → Int32} {cI cJ cZ : ClassId} : fI (WX qx fx cI cJ cZ) 31 1 = fI (WM qm fm cI cJ cZ) 0 1 := (rfl : fI (WX qx fx cI cJ cZ) 31 1 = 0).trans (fI_vs zmF rfl : fI (WM qm fm cI cJ cZ) 0 1 = 0).symm
theorem RG_00 {s u : PS} (x0 : s 1 0 = 0) (x5 : s 1 5 = 0) (x8 : s 1 8 = 0) (x9 : s 1 9 = 1000) (x35 : s 35 0 = 0) (x351 : s 35 1 = 0) (x12 : s 0 12 = -1) (x42 : s 42 0 = -1) (m12 : u 0 12 = 0) (m37 : u 0 37 = 0) (m38 : u 0 38 = 0) (m39 : u 0 39 = -1) (m2 : u 2 0 = 0) (m3 : u 3 0 = 0) (m4 : u 4 0 = 0) (m5 : u 5 0 = 1000) : RG L0 s u := by
  refine ⟨⟨([], [], [], [], 0, 1000), ⟨⟨x0, x5, fun i hi => absurd hi (Nat.not_lt_zero _), fun i hi => absurd hi (Nat.not_lt_zero _), fun l hl => absurd hl List.not_mem_nil, fun l hl => absurd hl List.not_mem_nil⟩, ⟨List.nodup_nil, fun c hc => absurd hc List.not_mem_nil, fun m l hm => ?_⟩, rfl, rfl, fun i hi => absurd hi (Nat.not_lt_zero _), x8, x9⟩, 0, Nat.zero_le _, m12, m2, m3, fun i hi => absurd hi (Nat.not_lt_zero _), fun i hi => absurd hi (Nat.not_lt_zero _), m4, m5, fun i c hc => ?_, fun i x hx => ?_, rfl, rfl⟩, ⟨x12.trans m39.symm, by rw [x12]; decide, by rw [x12, x35]; decide⟩, ⟨⟨x35, fun a h1 h2 => absurd h2 (Nat.not_le.mpr h1)⟩, ⟨m37, fun a h1 h2 => absurd h2 (Nat.not_le.mpr h1)⟩, fun a h1 h2 => absurd h2 (Nat.not_le.mpr h1), x351.trans m38.symm, by rw [m38]; decide, by rw [m38]; decide⟩, Or.inl x42⟩
  · cases hm
  · cases hc
  · cases hx
set_option maxRecDepth 100000 in
theorem rg_x0 {qx : Nat → Nat} {fx : Nat → Int64} {cI cJ cZ : ClassId} : vw (WX qx fx cI cJ cZ) 1 0 = 0 := ((@zx_HT qx fx cI cJ cZ).vi (j := 0) tX_1 rfl).symm.trans ((congrArg Int32.toInt (rfl : fI (WX qx fx cI cJ cZ) 1 0 = 0)).trans (show (0 : Int32).toInt = 0 by decide))
set_option maxRecDepth 100000 in
theorem rg_x5 {qx : Nat → Nat} {fx : Nat → Int64} {cI cJ cZ : ClassId} : vw (WX qx fx cI cJ cZ) 1 5 = 0 := ((@zx_HT qx fx cI cJ cZ).vi (j := 5) tX_1 rfl).symm.trans ((congrArg Int32.toInt (rfl : fI (WX qx fx cI cJ cZ) 1 5 = 0)).trans (show (0 : Int32).toInt = 0 by decide))
set_option maxRecDepth 100000 in
theorem rg_x8 {qx : Nat → Nat} {fx : Nat → Int64} {cI cJ cZ : ClassId} : vw (WX qx fx cI cJ cZ) 1 8 = 0 := ((@zx_HT qx fx cI cJ cZ).vi (j := 8) tX_1 rfl).symm.trans ((congrArg Int32.toInt (rfl : fI (WX qx fx cI cJ cZ) 1 8 = 0)).trans (show (0 : Int32).toInt = 0 by decide))
set_option maxRecDepth 100000 in
theorem rg_x9 {qx : Nat → Nat} {fx : Nat → Int64} {cI cJ cZ : ClassId} : vw (WX qx fx cI cJ cZ) 1 9 = 1000 := ((@zx_HT qx fx cI cJ cZ).vi (j := 9) tX_1 rfl).symm.trans ((congrArg Int32.toInt (rfl : fI (WX qx fx cI cJ cZ) 1 9 = 1000)).trans (show (1000 : Int32).toInt = 1000 by decide))
set_option maxRecDepth 100000 in
theorem rg_x35 {qx : Nat → Nat} {fx : Nat → Int64} {cI cJ cZ : ClassId} : vw (WX qx fx cI cJ cZ) 35 0 = 0 := ((@zx_HT qx fx cI cJ cZ).vi (j := 0) tX_35 rfl).symm.trans ((congrArg Int32.toInt (rfl : fI (WX qx fx cI cJ cZ) 35 0 = 0)).trans (show (0 : Int32).toInt = 0 by decide))
set_option maxRecDepth 100000 in
theorem rg_x351 {qx : Nat → Nat} {fx : Nat → Int64} {cI cJ cZ : ClassId} : vw (WX qx fx cI cJ cZ) 35 1 = 0 := ((@zx_HT qx fx cI cJ cZ).vi (j := 1) tX_35 rfl).symm.trans ((congrArg Int32.toInt (rfl : fI (WX qx fx cI cJ cZ) 35 1 = 0)).trans (show (0 : Int32).toInt = 0 by decide))
set_option maxRecDepth 100000 in
theorem rg_x12 {qx : Nat → Nat} {fx : Nat → Int64} {cI cJ cZ : ClassId} : vw (WX qx fx cI cJ cZ) 0 12 = -1 := ((@zx_HT qx fx cI cJ cZ).vi (j := 12) tX_0 rfl).symm.trans ((congrArg Int32.toInt (rfl : fI (WX qx fx cI cJ cZ) 0 12 = -1)).trans (show (-1 : Int32).toInt = -1 by decide))
set_option maxRecDepth 100000 in
theorem rg_x42 {qx : Nat → Nat} {fx : Nat → Int64} {cI cJ cZ : ClassId} : vw (WX qx fx cI cJ cZ) 42 0 = -1 := ((@zx_HT qx fx cI cJ cZ).vi (j := 0) tX_42 rfl).symm.trans ((congrArg Int32.toInt (rfl : fI (WX qx fx cI cJ cZ) 42 0 = -1)).trans (show (-1 : Int32).toInt = -1 by decide))
set_option maxRecDepth 100000 in
theorem rg_m12 {qm : Nat → Nat} {fm : Nat → Int32} {cI cJ cZ : ClassId} : vw (WM qm fm cI cJ cZ) 0 12 = 0 := ((@zm_HT qm fm cI cJ cZ).vi (j := 12) tM_0 rfl).symm.trans ((congrArg Int32.toInt (fI_vs zmF rfl : fI (WM qm fm cI cJ cZ) 0 12 = 0)).trans (show (0 : Int32).toInt = 0 by decide))
set_option maxRecDepth 100000 in
theorem rg_m37 {qm : Nat → Nat} {fm : Nat → Int32} {cI cJ cZ : ClassId} : vw (WM qm fm cI cJ cZ) 0 37 = 0 := ((@zm_HT qm fm cI cJ cZ).vi (j := 37) tM_0 rfl).symm.trans ((congrArg Int32.toInt (fI_vs zmF rfl : fI (WM qm fm cI cJ cZ) 0 37 = 0)).trans (show (0 : Int32).toInt = 0 by decide))
set_option maxRecDepth 100000 in
theorem rg_m38 {qm : Nat → Nat} {fm : Nat → Int32} {cI cJ cZ : ClassId} : vw (WM qm fm cI cJ cZ) 0 38 = 0 := ((@zm_HT qm fm cI cJ cZ).vi (j := 38) tM_0 rfl).symm.trans ((congrArg Int32.toInt (fI_vs zmF rfl : fI (WM qm fm cI cJ cZ) 0 38 = 0)).trans (show (0 : Int32).toInt = 0 by decide))
set_option maxRecDepth 100000 in
theorem rg_m39 {qm : Nat → Nat} {fm : Nat → Int32} {cI cJ cZ : ClassId} : vw (WM qm fm cI cJ cZ) 0 39 = -1 := ((@zm_HT qm fm cI cJ cZ).vi (j := 39) tM_0 rfl).symm.trans ((congrArg Int32.toInt (fI_vs zmF rfl : fI (WM qm fm cI cJ cZ) 0 39 = -1)).trans (show (-1 : Int32).toInt = -1 by decide))
set_option maxRecDepth 100000 in
theorem rg_m2 {qm : Nat → Nat} {fm : Nat → Int32} {cI cJ cZ : ClassId} : vw (WM qm fm cI cJ cZ) 2 0 = 0 := ((@zm_HT qm fm cI cJ cZ).va tM_2 0).symm.trans ((congrArg Int32.toInt (rfl : aF (WM qm fm cI cJ cZ) 2 0 = 0)).trans (show (0 : Int32).toInt = 0 by decide))
set_option maxRecDepth 100000 in
theorem rg_m3 {qm : Nat → Nat} {fm : Nat → Int32} {cI cJ cZ : ClassId} : vw (WM qm fm cI cJ cZ) 3 0 = 0 := ((@zm_HT qm fm cI cJ cZ).va tM_3 0).symm.trans ((congrArg Int32.toInt (rfl : aF (WM qm fm cI cJ cZ) 3 0 = 0)).trans (show (0 : Int32).toInt = 0 by decide))
set_option maxRecDepth 100000 in
theorem rg_m4 {qm : Nat → Nat} {fm : Nat → Int32} {cI cJ cZ : ClassId} : vw (WM qm fm cI cJ cZ) 4 0 = 0 := ((@zm_HT qm fm cI cJ cZ).va tM_4 0).symm.trans ((congrArg Int32.toInt (rfl : aF (WM qm fm cI cJ cZ) 4 0 = 0)).trans (show (0 : Int32).toInt = 0 by decide))
theorem RG_0 {qx qm : Nat → Nat} {fx : Nat → Int64} {fm : Nat → Int32} {cI cJ cZ : ClassId} (hev : fm (0 : Int32).toNatClampNeg = 1000) : RG L0 (vw (WX qx fx cI cJ cZ)) (vw (WM qm fm cI cJ cZ)) := by
  have x0 := @rg_x0 qx fx cI cJ cZ
  have x5 := @rg_x5 qx fx cI cJ cZ
  have x8 := @rg_x8 qx fx cI cJ cZ
  have x9 := @rg_x9 qx fx cI cJ cZ
  have x35 := @rg_x35 qx fx cI cJ cZ
  have x351 := @rg_x351 qx fx cI cJ cZ
  have x12 := @rg_x12 qx fx cI cJ cZ
  have x42 := @rg_x42 qx fx cI cJ cZ
  have m12 := @rg_m12 qm fm cI cJ cZ
  have m37 := @rg_m37 qm fm cI cJ cZ
  have m38 := @rg_m38 qm fm cI cJ cZ
  have m39 := @rg_m39 qm fm cI cJ cZ
  have m2 := @rg_m2 qm fm cI cJ cZ
  have m3 := @rg_m3 qm fm cI cJ cZ
  have m4 := @rg_m4 qm fm cI cJ cZ
  have ev : fm 0 = 1000 := by
    have z : (0 : Int32).toNatClampNeg = 0 := by decide
    rw [z] at hev
    exact hev
  have m5 : vw (WM qm fm cI cJ cZ) 5 0 = 1000 := ((@zm_HT qm fm cI cJ cZ).va tM_5 0).symm.trans ((congrArg Int32.toInt ((rfl : aF (WM qm fm cI cJ cZ) 5 0 = fm 0).trans ev)).trans (show (1000 : Int32).toInt = 1000 by decide))
  exact RG_00 x0 x5 x8 x9 x35 x351 x12 x42 m12 m37 m38 m39 m2 m3 m4 m5
set_option maxRecDepth 100000 in
theorem rq_x17 {qx : Nat → Nat} {fx : Nat → Int64} {cI cJ cZ : ClassId} : vw (WX qx fx cI cJ cZ) 1 17 = 0 := ((@zx_HT qx fx cI cJ cZ).vi (j := 17) tX_1 rfl).symm.trans ((congrArg Int32.toInt (rfl : fI (WX qx fx cI cJ cZ) 1 17 = 0)).trans (show (0 : Int32).toInt = 0 by decide))
set_option maxRecDepth 100000 in
theorem rq_x19 {qx : Nat → Nat} {fx : Nat → Int64} {cI cJ cZ : ClassId} : vw (WX qx fx cI cJ cZ) 1 19 = 0 := ((@zx_HT qx fx cI cJ cZ).vi (j := 19) tX_1 rfl).symm.trans ((congrArg Int32.toInt (rfl : fI (WX qx fx cI cJ cZ) 1 19 = 0)).trans (show (0 : Int32).toInt = 0 by decide))
set_option maxRecDepth 100000 in
theorem rq_x421 {qx : Nat → Nat} {fx : Nat → Int64} {cI cJ cZ : ClassId} : vw (WX qx fx cI cJ cZ) 42 1 = 0 := ((@zx_HT qx fx cI cJ cZ).vi (j := 1) tX_42 rfl).symm.trans ((congrArg Int32.toInt (rfl : fI (WX qx fx cI cJ cZ) 42 1 = 0)).trans (show (0 : Int32).toInt = 0 by decide))
set_option maxRecDepth 100000 in
theorem rq_x88 {qx : Nat → Nat} {fx : Nat → Int64} {cI cJ cZ : ClassId} : vw (WX qx fx cI cJ cZ) 88 0 = 0 := ((@zx_HT qx fx cI cJ cZ).vi (j := 0) tX_88 rfl).symm.trans ((congrArg Int32.toInt (rfl : fI (WX qx fx cI cJ cZ) 88 0 = 0)).trans (show (0 : Int32).toInt = 0 by decide))
set_option maxRecDepth 100000 in
theorem rq_m68 {qm : Nat → Nat} {fm : Nat → Int32} {cI cJ cZ : ClassId} : vw (WM qm fm cI cJ cZ) 0 68 = 0 := ((@zm_HT qm fm cI cJ cZ).vi (j := 68) tM_0 rfl).symm.trans ((congrArg Int32.toInt (fI_vs zmF rfl : fI (WM qm fm cI cJ cZ) 0 68 = 0)).trans (show (0 : Int32).toInt = 0 by decide))
set_option maxRecDepth 100000 in
theorem rq_x60 {qx : Nat → Nat} {fx : Nat → Int64} {cI cJ cZ : ClassId} (k : Nat) : vw (WX qx fx cI cJ cZ) 60 k = 0 := ((@zx_HT qx fx cI cJ cZ).va tX_60 k).symm.trans ((congrArg Int32.toInt (rfl : aF (WX qx fx cI cJ cZ) 60 k = 0)).trans (show (0 : Int32).toInt = 0 by decide))
set_option maxRecDepth 100000 in
theorem rq_m14 {qm : Nat → Nat} {fm : Nat → Int32} {cI cJ cZ : ClassId} : vw (WM qm fm cI cJ cZ) 14 0 = 0 := ((@zm_HT qm fm cI cJ cZ).va tM_14 0).symm.trans ((congrArg Int32.toInt (rfl : aF (WM qm fm cI cJ cZ) 14 0 = 0)).trans (show (0 : Int32).toInt = 0 by decide))
theorem CK_00 {s u : PS} (x0 : s 1 0 = 0) (x5 : s 1 5 = 0) (x8 : s 1 8 = 0) (x9 : s 1 9 = 1000) (x17 : s 1 17 = 0) (x19 : s 1 19 = 0) (m12 : u 0 12 = 0) (m2 : u 2 0 = 0) (m3 : u 3 0 = 0) (m4 : u 4 0 = 0) (m5 : u 5 0 = 1000) (m14 : u 14 0 = 0) : CKb ([], [], [], [], 0, 1000) [] s u := by
  have e1 : sw s 16 = s 1 := sw_hi (by decide) (by decide)
  refine ⟨⟨⟨x0, x5, fun i hi => absurd hi (Nat.not_lt_zero _), fun i hi => absurd hi (Nat.not_lt_zero _), fun l hl => absurd hl List.not_mem_nil, fun l hl => absurd hl List.not_mem_nil⟩, ⟨List.nodup_nil, fun c hc => absurd hc List.not_mem_nil, fun m l hm => ?_⟩, rfl, rfl, fun i hi => absurd hi (Nat.not_lt_zero _), x8, x9⟩, ⟨0, Nat.zero_le _, m12, m2, m3, fun i hi => absurd hi (Nat.not_lt_zero _), fun i hi => absurd hi (Nat.not_lt_zero _), m4, m5, fun i c hc => ?_, fun i x hx => ?_, rfl, rfl⟩, ⟨rfl, fun o ho => absurd ho List.not_mem_nil⟩, ⟨[], ⟨by rw [e1]; exact x17, [], by rw [e1]; exact x19, Nat.le_refl _, fun j hj => absurd hj (Nat.not_lt_zero _), fun w hw => absurd hw List.not_mem_nil, fun i hi => absurd hi (Nat.not_lt_zero _)⟩, fun i o ho => ?_, fun i o ho => ?_⟩, [], 0, Nat.zero_le _, m12, ⟨m14, fun i hi => absurd hi (Nat.not_lt_zero _)⟩, fun i o ho => ?_⟩
  · cases hm
  · cases hc
  · cases hx
  · cases ho
  · cases ho
  · cases ho
theorem WG_00 {s : PS} {b : BST} {OL : List OT} {L : LT} {c : Int} (hc : 0 ≤ c) (x42 : s 42 0 = -1) (x421 : s 42 1 = 0) (x60 : ∀ k, s 60 k = 0) : WG b OL L c s := by
  refine ⟨by rw [x421]; exact ⟨Int.le_refl _, hc⟩, fun k _ => by rw [x421, x60 k]; exact Int.le_refl _, fun now h => ?_⟩
  rw [x42] at h
  omega
theorem RQ_0 {qx qm : Nat → Nat} {fx : Nat → Int64} {fm : Nat → Int32} {cI cJ cZ : ClassId} (hev : fm (0 : Int32).toNatClampNeg = 1000) : RQ ([], [], [], [], 0, 1000) [] L0 (10560 * ((0 : Nat) : Int)) (vw (WX qx fx cI cJ cZ)) (vw (WM qm fm cI cJ cZ)) := by
  have ev : fm 0 = 1000 := by
    have z : (0 : Int32).toNatClampNeg = 0 := by decide
    rw [z] at hev
    exact hev
  have m5 : vw (WM qm fm cI cJ cZ) 5 0 = 1000 := ((@zm_HT qm fm cI cJ cZ).va tM_5 0).symm.trans ((congrArg Int32.toInt ((rfl : aF (WM qm fm cI cJ cZ) 5 0 = fm 0).trans ev)).trans (show (1000 : Int32).toInt = 1000 by decide))
  exact ⟨RG_0 hev, CK_00 (@rg_x0 qx fx cI cJ cZ) (@rg_x5 qx fx cI cJ cZ) (@rg_x8 qx fx cI cJ cZ) (@rg_x9 qx fx cI cJ cZ) (@rq_x17 qx fx cI cJ cZ) (@rq_x19 qx fx cI cJ cZ) (@rg_m12 qm fm cI cJ cZ) (@rg_m2 qm fm cI cJ cZ) (@rg_m3 qm fm cI cJ cZ) (@rg_m4 qm fm cI cJ cZ) m5 (@rq_m14 qm fm cI cJ cZ), WG_00 (by decide) (@rg_x42 qx fx cI cJ cZ) (@rq_x421 qx fx cI cJ cZ) (fun k => @rq_x60 qx fx cI cJ cZ k)⟩
theorem IT_0 {qx qm : Nat → Nat} {fx : Nat → Int64} {fm : Nat → Int32} {cI cJ cZ : ClassId} (h : OWf fx) (hev : fm (0 : Int32).toNatClampNeg = 1000) : TW (10560 * ((0 : Nat) : Int)) (WX qx fx cI cJ cZ) (WM qm fm cI cJ cZ) := ⟨IT_00, rfl, fun i hi => h i hi, ([], [], [], [], 0, 1000), [], L0, RQ_0 hev, Or.inl ⟨@rq_x88 qx fx cI cJ cZ, @rq_m68 qm fm cI cJ cZ⟩⟩
