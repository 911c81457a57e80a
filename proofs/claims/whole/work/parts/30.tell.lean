/-! THE CLASS ITSELF (X6): what a pose tells -/
theorem lv_rfs {p : Program} {l : Launch} {e : Env} {R : Room} {s : State} {m : MethodId} {args : Array Value} {below : List Frame} {meth : Method} {c : Code} {H : Heap} {locs : List Loc} {cells slots : Nat} {Q : State → Prop} {pc : Nat} {ls : Array Slot} {rest : List Value} {r : Option Nat} {a : Nat} (h : r = some a) (k : W p l e R s m args below meth c H locs cells slots Q (F0 m pc ls (.ref a :: rest))) : W p l e R s m args below meth c H locs cells slots Q (F0 m pc ls (va_rf r :: rest)) := by
  subst h
  exact k
noncomputable def bFree (U V lx ly a b c y : Int32) : Bool := decide (0 ≤ tH b ly y) && (decide (fv (tE U V lx ly b y) ≠ 0) && decide (0 ≤ fv (tK U V lx ly a b c y)))
theorem bFree_t {U V lx ly a b c y : Int32} (h : tFree U V lx ly a b c y) : bFree U V lx ly a b c y = true := by
  unfold bFree
  rw [decide_eq_true h.1, decide_eq_true h.2.1, decide_eq_true h.2.2]
  rfl
theorem bFree_f {U V lx ly a b c y : Int32} (h : ¬ tFree U V lx ly a b c y) : bFree U V lx ly a b c y = false := by
  cases hb : bFree U V lx ly a b c y with
  | false => rfl
  | true =>
    unfold bFree at hb
    rw [Bool.and_eq_true, Bool.and_eq_true] at hb
    exact absurd ⟨of_decide_eq_true hb.1, of_decide_eq_true hb.2.1, of_decide_eq_true hb.2.2⟩ h
def tRoll (rx ry ix iy : UInt64) : UInt64 := FP.dadd ry (FP.ddiv (FP.dmul (FP.dsub FP.dconst0 rx) (FP.dsub iy ry)) (FP.dsub ix rx))
/-- what is told of a hanging that stands: 0 .. 10 -/
def sTell (ux uy lx ly g d sx sy f : Int32) (px py qx qy vx vy : UInt64) (w : Int32) : Int64 :=
  if w = 0 then px.toInt64 else if w = 1 then py.toInt64 else if w = 2 then qx.toInt64 else if w = 3 then qy.toInt64
  else if w = 4 then (if fv vy = 0 then -1 else (FP.ddiv vx vy).toInt64)
  else if w = 5 then (tRx g d px vx vy).toInt64 else if w = 6 then (tRy g d py vx vy).toInt64
  else if w = 10 then -2
  else if fv (tN ux uy lx ly px py qx qy) = 0 then -1
  else if w = 7 then (tIx ux uy lx ly px py qx qy).toInt64 else if w = 8 then (tIy ux uy lx ly px py qx qy).toInt64
  else if fv (FP.dsub (tIx ux uy lx ly px py qx qy) (tRx g d px vx vy)) = 0 then -1
  else (tRoll (tRx g d px vx vy) (tRy g d py vx vy) (tIx ux uy lx ly px py qx qy) (tIy ux uy lx ly px py qx qy)).toInt64
noncomputable def sTel2 (ux uy lx ly g d sx sy f : Int32) (px py qx qy vx vy : UInt64) (w : Int32) : Int64 :=
  if w = 10 then (tL lx ly sx sy f px py).toInt64 else sTell ux uy lx ly g d sx sy f px py qx qy vx vy w
set_option maxHeartbeats 4000000 in
set_option maxRecDepth 100000 in
theorem mX6_leanBits (l : Launch) (D : va_G) (cI cH : ClassId) (o st ha ca bx rd : Nat) (s0 s1 : Int32) (p0 p1 p2 p3 p4 p5 p6 p7 p8 p9 p10 p11 : UInt64)  (g4 : fGr 826 1154 p4) (g5 : fGr 872 1153 p5) (z4 : zP p4) (hvy : fv p5 ≠ 0) : Met l yX6_leanBits wsX6_leanBits ({ frames := 1, cells := 0, slots := 0, locals := 27 }) (va_Pc [.ref o] (kB D cI cH [(o, .inr (5, [.ref ha, .ref st, .ref ca, .ref bx, .ref rd])), (st, .inr (4, [.int s0, .int s1, .double p0, .double p1, .double p2, .double p3, .double p4, .double p5, .double p6, .double p7, .double p8, .double p9, .double p10, .double p11]))])) (va_Ql (fun (r : Int64) (u : Unit) => r = UInt64.toInt64 (FP.ddiv p4 p5)) (fun _ _ => True) nA) 0 0 nA := by
  refine Met.ofW (cc := cX6_leanBits) (maxL := 1) (ret := (some .long)) (by decide) rfl ?_
  intro p e s m args below meth co s₁ B hml hv
  obtain ⟨rfl, hP0, hw⟩ := hv
  have hx := B.exec
  have hb := B.bytes
  have hr := B.returns
  have hts := atoms_spec (ws := wsX6_leanBits) B.pre
  have hown : s.vm.findClass RX6 = some m.cls := findClass_of_methodNamed B.named
  have hlocks := B.notSynchronized
  have hinX5 : ∀ w ∈ wsX50, w ∈ wsX6_leanBits := by decide +kernel
  have hinX6 : ∀ w ∈ wsX60, w ∈ wsX6_leanBits := by decide +kernel
  have hS : va_S nA s.heap s.heap [] := va_S.rf
  have hR0 : va_P D vwCl [(o, .inr (5, [.ref ha, .ref st, .ref ca, .ref bx, .ref rd])), (st, .inr (4, [.int s0, .int s1, .double p0, .double p1, .double p2, .double p3, .double p4, .double p5, .double p6, .double p7, .double p8, .double p9, .double p10, .double p11]))] s.heap := hP0.sub [0, 1] rfl
  have hR := hR0
  have hnr : ∀ (k9 : Nat) (q : Nat × va_E), ([(o, .inr (5, [.ref ha, .ref st, .ref ca, .ref bx, .ref rd])), (st, .inr (4, [.int s0, .int s1, .double p0, .double p1, .double p2, .double p3, .double p4, .double p5, .double p6, .double p7, .double p8, .double p9, .double p10, .double p11]))] : va_W)[k9]? = some q → ¬ nA q.1 := fr_nA
  have hl := lv_entry ([.ref o]) (n := 1) (Nat.le_of_ble_eq_true rfl)
  rw [lg_entry_eq]
  generalize (lg_sl ([.ref o]) ++ List.replicate (1 - (lg_sl ([.ref o])).length) Slot.unset).toArray = ls at hl ⊢
  have hl : lv_has ls 1 [(0, .ref o)] := hl
  skip
  refine lv_aload_n hx hb dX6_leanBits_0 rfl (lv_at hl 0 rfl) ?_
  refine va_get (D := D) (ci := 5) (v := .ref st) (C := RX6) (T := TX6) (N := 5) hx hb hts hinX6 hown hw.1 hR 0 rfl rfl 1 (by decide) (hts (.fieldLink RX6 18 "WheelSwing" "stand" "LWheelSwing$Stand;") (by decide +kernel)) (fun _ h9 => h9) rfl dX6_leanBits_1 ?_
  refine va_getN (host := "WheelSwing") (D := D) (ci := 4) (v := .double p4) (C := RX5) (T := TX5) (N := 14) hx hb hts hinX5 hown hw.1 hR 1 rfl rfl 6 (by decide) (va_Nw.use rfl (hw.2 (.fieldLinkNest RX6 196 "WheelSwing$Stand" "vx" "D" "WheelSwing") (by decide +kernel))) (fun _ h9 => h9) rfl dX6_leanBits_4 ?_
  refine lv_dconst0 hx hb dX6_leanBits_7 ?_
  refine lv_dcmp hx hb dX6_leanBits_8 ?_
  rw [fp_cv g4.1 gf_c0.1]
  refine lv_if_ne (tgt := 32) hx hb dX6_leanBits_9 (by decide) (fun c1 => ?_) (fun c1 => ?_)
  · rw [fcv_eq] at c1
    have hvx : fv p4 ≠ 0 := by have hq := c1; rw [fv_c0] at hq; exact hq
    refine lv_aload_n hx hb dX6_leanBits_32 rfl (lv_at hl 0 rfl) ?_
    refine va_get (D := D) (ci := 5) (v := .ref st) (C := RX6) (T := TX6) (N := 5) hx hb hts hinX6 hown hw.1 hR 0 rfl rfl 1 (by decide) (hts (.fieldLink RX6 18 "WheelSwing" "stand" "LWheelSwing$Stand;") (by decide +kernel)) (fun _ h9 => h9) rfl dX6_leanBits_33 ?_
    refine va_getN (host := "WheelSwing") (D := D) (ci := 4) (v := .double p4) (C := RX5) (T := TX5) (N := 14) hx hb hts hinX5 hown hw.1 hR 1 rfl rfl 6 (by decide) (va_Nw.use rfl (hw.2 (.fieldLinkNest RX6 196 "WheelSwing$Stand" "vx" "D" "WheelSwing") (by decide +kernel))) (fun _ h9 => h9) rfl dX6_leanBits_36 ?_
    refine lv_aload_n hx hb dX6_leanBits_39 rfl (lv_at hl 0 rfl) ?_
    refine va_get (D := D) (ci := 5) (v := .ref st) (C := RX6) (T := TX6) (N := 5) hx hb hts hinX6 hown hw.1 hR 0 rfl rfl 1 (by decide) (hts (.fieldLink RX6 18 "WheelSwing" "stand" "LWheelSwing$Stand;") (by decide +kernel)) (fun _ h9 => h9) rfl dX6_leanBits_40 ?_
    refine va_getN (host := "WheelSwing") (D := D) (ci := 4) (v := .double p5) (C := RX5) (T := TX5) (N := 14) hx hb hts hinX5 hown hw.1 hR 1 rfl rfl 7 (by decide) (va_Nw.use rfl (hw.2 (.fieldLinkNest RX6 182 "WheelSwing$Stand" "vy" "D" "WheelSwing") (by decide +kernel))) (fun _ h9 => h9) rfl dX6_leanBits_43 ?_
    have gw2 := gf_div 695 1356 g4 g5 hvy (Nat.le_of_ble_eq_true rfl) (Nat.le_of_ble_eq_true rfl) (Nat.le_of_ble_eq_true rfl)
    refine lv_ddiv hx hb dX6_leanBits_46 (gf_n64 gw2) ?_
    refine lv_topd (fun v3 ev3 => ?_)
    rw [← ev3] at gw2
    have fv3 : v3 = FP.ddiv p4 p5 := by rw [ev3]; try rfl
    clear ev3 gw2
    subst fv3
    refine va_calll (va_runSN (As := [.double (FP.ddiv p4 p5)]) (rest := []) ⟨hx, hb, hml, hown, hts⟩ (mX1_bits l (FP.ddiv p4 p5) (bOk2_gr (gf_div 695 1356 g4 g5 hvy (Nat.le_of_ble_eq_true rfl) (Nat.le_of_ble_eq_true rfl) (Nat.le_of_ble_eq_true rfl)) (zp_ne (dv_ne g4 g5 hvy hvx (Nat.le_of_ble_eq_true rfl) (by omega))) (Nat.le_of_ble_eq_true rfl) (Nat.le_of_ble_eq_true rfl))) (⟨va_cnB 1 hts gX6_leanBits_X1_bits_n143 rfl rfl rfl (hw.2 (.methodLinkNest RX6 143 yX1_bits "WheelSwing") (by decide +kernel)) (hts (.initialized RX1) (by decide +kernel)) (by decide +kernel) ⟨Nat.le_of_ble_eq_true rfl, Nat.le_of_ble_eq_true rfl⟩, hts (.static yX1_bits) (by decide +kernel), trivial⟩) ⟨tB_blind, tB_go⟩ rfl rfl hl.1 rfl (lv_room (Nat.le_of_ble_eq_true rfl)) dX6_leanBits_47 ⟨Nat.le_of_ble_eq_true rfl, Nat.le_of_ble_eq_true rfl⟩) hS (fun q _ h => h.elim) (fun q h => h.elim) (fun r4 u5 t H locs ht hvm hp6 hB hz1 hk1 hS => ?_)
    have hR := fr_rd hR0 hS hnr
    subst hp6
    exact W.lret (v := UInt64.toInt64 (FP.ddiv p4 p5)) hx hb hr (fun t ht hW => ⟨⟨UInt64.toInt64 (FP.ddiv p4 p5), (), rfl, rfl, trivial⟩, hS.F ht⟩) hS.2.2 dX6_leanBits_50
  · rw [fcv_eq] at c1
    refine lv_aload_n hx hb dX6_leanBits_12 rfl (lv_at hl 0 rfl) ?_
    refine va_get (D := D) (ci := 5) (v := .ref st) (C := RX6) (T := TX6) (N := 5) hx hb hts hinX6 hown hw.1 hR 0 rfl rfl 1 (by decide) (hts (.fieldLink RX6 18 "WheelSwing" "stand" "LWheelSwing$Stand;") (by decide +kernel)) (fun _ h9 => h9) rfl dX6_leanBits_13 ?_
    refine va_getN (host := "WheelSwing") (D := D) (ci := 4) (v := .double p5) (C := RX5) (T := TX5) (N := 14) hx hb hts hinX5 hown hw.1 hR 1 rfl rfl 7 (by decide) (va_Nw.use rfl (hw.2 (.fieldLinkNest RX6 182 "WheelSwing$Stand" "vy" "D" "WheelSwing") (by decide +kernel))) (fun _ h9 => h9) rfl dX6_leanBits_16 ?_
    refine lv_dconst0 hx hb dX6_leanBits_19 ?_
    refine lv_dcmp hx hb dX6_leanBits_20 ?_
    rw [fp_cv g5.1 gf_c0.1]
    refine lv_if_ge (tgt := 30) hx hb dX6_leanBits_21 (by decide) (fun c7 => ?_) (fun c7 => ?_)
    · rw [fcv_ge] at c7
      refine lv_lconst (v := 0) hx hb dX6_leanBits_30 (by decide) ?_
      exact W.lret (v := 0) hx hb hr (fun t ht hW => ⟨⟨0, (), rfl, (by have hv : fv p4 = 0 := (by have hq := c1; rw [fv_c0] at hq; exact hq); have hlt : ¬ fv p5 < 0 := (by have hq := c7; rw [fv_c0] at hq; omega); have hd : FP.ddiv p4 p5 = 0 := (by rw [z4 hv, zq g5.1 hvy, if_neg hlt]); exact (show (0 : Int64) = UInt64.toInt64 0 by decide +kernel).trans (congrArg UInt64.toInt64 hd.symm)), trivial⟩, hS.F ht⟩) hS.2.2 dX6_leanBits_31
    · rw [fcv_ge] at c7
      refine lv_ldc2 hx hb hown (hts (.constantLong RX6 199 (-9223372036854775808)) (by decide +kernel)) dX6_leanBits_24 ?_
      refine lv_goto (tgt := 31) hx hb dX6_leanBits_27 (by decide) ?_
      exact W.lret (v := (-9223372036854775808)) hx hb hr (fun t ht hW => ⟨⟨(-9223372036854775808), (), rfl, (by have hv : fv p4 = 0 := (by have hq := c1; rw [fv_c0] at hq; exact hq); have hlt : fv p5 < 0 := (by have hq := c7; rw [fv_c0] at hq; omega); have hd : FP.ddiv p4 p5 = 9223372036854775808 := (by rw [z4 hv, zq g5.1 hvy, if_pos hlt]); exact (show (-9223372036854775808 : Int64) = UInt64.toInt64 9223372036854775808 by decide +kernel).trans (congrArg UInt64.toInt64 hd.symm)), trivial⟩, hS.F ht⟩) hS.2.2 dX6_leanBits_31
set_option maxHeartbeats 4000000 in
set_option maxRecDepth 100000 in
theorem mX6_tellWheel (l : Launch) (D : va_G) (cI cH : ClassId) (o st hg ha ca bx rd : Nat) (s0 s1 : Int32) (p0 p1 p2 p3 p4 p5 p6 p7 p8 p9 p10 p11 : UInt64) (ux uy a lx ly b c sd g d sx sy f : Int32) (wt : Int32)  (kg : cB g) (kd : cB d) (g0 : fGr 1021 1086 p0) (g1 : fGr 1074 1084 p1) (g2 : fGr 888 1153 p2) (g3 : fGr 934 1152 p3) (g4 : fGr 826 1154 p4) (g5 : fGr 872 1153 p5) (z0 : zP p0) (z1 : zP p1) (z2 : zP p2) (z3 : zP p3) (z4 : zP p4) (hwt : wt = 0 ∨ wt = 1 ∨ wt = 2 ∨ wt = 3 ∨ wt = 4 ∨ wt = 5 ∨ wt = 6) : Met l yX6_tellWheel wsX6_tellWheel ({ frames := 2, cells := 0, slots := 0, locals := 47 }) (va_Pc [.ref o, .ref hg, .int wt] (kB D cI cH [(o, .inr (5, [.ref ha, .ref st, .ref ca, .ref bx, .ref rd])), (st, .inr (4, [.int s0, .int s1, .double p0, .double p1, .double p2, .double p3, .double p4, .double p5, .double p6, .double p7, .double p8, .double p9, .double p10, .double p11])), (hg, .inr (1, [.int ux, .int uy, .int a, .int lx, .int ly, .int b, .int c, .int sd, .int g, .int d, .int sx, .int sy, .int f]))])) (va_Ql (fun (r : Int64) (u : Unit) => r = sTel2 ux uy lx ly g d sx sy f p0 p1 p2 p3 p4 p5 wt) (fun _ _ => True) nA) 0 0 nA := by
  refine Met.ofW (cc := cX6_tellWheel) (maxL := 3) (ret := (some .long)) (by decide) rfl ?_
  intro p e s m args below meth co s₁ B hml hv
  obtain ⟨rfl, hP0, hw⟩ := hv
  have hx := B.exec
  have hb := B.bytes
  have hr := B.returns
  have hts := atoms_spec (ws := wsX6_tellWheel) B.pre
  have hown : s.vm.findClass RX6 = some m.cls := findClass_of_methodNamed B.named
  have hlocks := B.notSynchronized
  have hinX2 : ∀ w ∈ wsX20, w ∈ wsX6_tellWheel := by decide +kernel
  have hinX5 : ∀ w ∈ wsX50, w ∈ wsX6_tellWheel := by decide +kernel
  have hinX6 : ∀ w ∈ wsX60, w ∈ wsX6_tellWheel := by decide +kernel
  have hS : va_S nA s.heap s.heap [] := va_S.rf
  have hR0 : va_P D vwCl [(o, .inr (5, [.ref ha, .ref st, .ref ca, .ref bx, .ref rd])), (st, .inr (4, [.int s0, .int s1, .double p0, .double p1, .double p2, .double p3, .double p4, .double p5, .double p6, .double p7, .double p8, .double p9, .double p10, .double p11])), (hg, .inr (1, [.int ux, .int uy, .int a, .int lx, .int ly, .int b, .int c, .int sd, .int g, .int d, .int sx, .int sy, .int f]))] s.heap := hP0.sub [0, 1, 2] rfl
  have hR := hR0
  have hnr : ∀ (k9 : Nat) (q : Nat × va_E), ([(o, .inr (5, [.ref ha, .ref st, .ref ca, .ref bx, .ref rd])), (st, .inr (4, [.int s0, .int s1, .double p0, .double p1, .double p2, .double p3, .double p4, .double p5, .double p6, .double p7, .double p8, .double p9, .double p10, .double p11])), (hg, .inr (1, [.int ux, .int uy, .int a, .int lx, .int ly, .int b, .int c, .int sd, .int g, .int d, .int sx, .int sy, .int f]))] : va_W)[k9]? = some q → ¬ nA q.1 := fr_nA
  have hl := lv_entry ([.ref o, .ref hg, .int wt]) (n := 3) (Nat.le_of_ble_eq_true rfl)
  rw [lg_entry_eq]
  generalize (lg_sl ([.ref o, .ref hg, .int wt]) ++ List.replicate (3 - (lg_sl ([.ref o, .ref hg, .int wt])).length) Slot.unset).toArray = ls at hl ⊢
  have hl : lv_has ls 3 [(0, .ref o), (1, .ref hg), (2, .int wt)] := hl
  skip
  rcases hwt with hwt | hwt | hwt | hwt | hwt | hwt | hwt
  · subst hwt
    refine lv_iload_n hx hb dX6_tellWheel_0 rfl (lv_at hl 2 rfl) ?_
    refine lv_tableIn (off := 39) (tgt := 40) hx hb dX6_tellWheel_1 (by decide) (by decide) (by decide) (by decide) ?_
    refine lv_aload_n hx hb dX6_tellWheel_40 rfl (lv_at hl 0 rfl) ?_
    refine va_get (D := D) (ci := 5) (v := .ref st) (C := RX6) (T := TX6) (N := 5) hx hb hts hinX6 hown hw.1 hR 0 rfl rfl 1 (by decide) (hts (.fieldLink RX6 18 "WheelSwing" "stand" "LWheelSwing$Stand;") (by decide +kernel)) (fun _ h9 => h9) rfl dX6_tellWheel_41 ?_
    refine va_getN (host := "WheelSwing") (D := D) (ci := 4) (v := .double p0) (C := RX5) (T := TX5) (N := 14) hx hb hts hinX5 hown hw.1 hR 1 rfl rfl 2 (by decide) (va_Nw.use rfl (hw.2 (.fieldLinkNest RX6 169 "WheelSwing$Stand" "px" "D" "WheelSwing") (by decide +kernel))) (fun _ h9 => h9) rfl dX6_tellWheel_44 ?_
    refine va_calll (va_runSN (As := [.double p0]) (rest := []) ⟨hx, hb, hml, hown, hts⟩ (mX1_bits l p0 (bOk2_gr g0 z0 (Nat.le_of_ble_eq_true rfl) (Nat.le_of_ble_eq_true rfl))) (⟨va_cnB 1 hts gX6_tellWheel_X1_bits_n143 rfl rfl rfl (hw.2 (.methodLinkNest RX6 143 yX1_bits "WheelSwing") (by decide +kernel)) (hts (.initialized RX1) (by decide +kernel)) (by decide +kernel) ⟨Nat.le_of_ble_eq_true rfl, Nat.le_of_ble_eq_true rfl⟩, hts (.static yX1_bits) (by decide +kernel), trivial⟩) ⟨tB_blind, tB_go⟩ rfl rfl hl.1 rfl (lv_room (Nat.le_of_ble_eq_true rfl)) dX6_tellWheel_47 ⟨Nat.le_of_ble_eq_true rfl, Nat.le_of_ble_eq_true rfl⟩) hS (fun q _ h => h.elim) (fun q h => h.elim) (fun r1 u2 t H locs ht hvm hp3 hB hz1 hk1 hS => ?_)
    have hR := fr_rd hR0 hS hnr
    subst hp3
    exact W.lret (v := UInt64.toInt64 p0) hx hb hr (fun t ht hW => ⟨⟨UInt64.toInt64 p0, (), rfl, rfl, trivial⟩, hS.F ht⟩) hS.2.2 dX6_tellWheel_50
  · subst hwt
    refine lv_iload_n hx hb dX6_tellWheel_0 rfl (lv_at hl 2 rfl) ?_
    refine lv_tableIn (off := 50) (tgt := 51) hx hb dX6_tellWheel_1 (by decide) (by decide) (by decide) (by decide) ?_
    refine lv_aload_n hx hb dX6_tellWheel_51 rfl (lv_at hl 0 rfl) ?_
    refine va_get (D := D) (ci := 5) (v := .ref st) (C := RX6) (T := TX6) (N := 5) hx hb hts hinX6 hown hw.1 hR 0 rfl rfl 1 (by decide) (hts (.fieldLink RX6 18 "WheelSwing" "stand" "LWheelSwing$Stand;") (by decide +kernel)) (fun _ h9 => h9) rfl dX6_tellWheel_52 ?_
    refine va_getN (host := "WheelSwing") (D := D) (ci := 4) (v := .double p1) (C := RX5) (T := TX5) (N := 14) hx hb hts hinX5 hown hw.1 hR 1 rfl rfl 3 (by decide) (va_Nw.use rfl (hw.2 (.fieldLinkNest RX6 173 "WheelSwing$Stand" "py" "D" "WheelSwing") (by decide +kernel))) (fun _ h9 => h9) rfl dX6_tellWheel_55 ?_
    refine va_calll (va_runSN (As := [.double p1]) (rest := []) ⟨hx, hb, hml, hown, hts⟩ (mX1_bits l p1 (bOk2_gr g1 z1 (Nat.le_of_ble_eq_true rfl) (Nat.le_of_ble_eq_true rfl))) (⟨va_cnB 1 hts gX6_tellWheel_X1_bits_n143 rfl rfl rfl (hw.2 (.methodLinkNest RX6 143 yX1_bits "WheelSwing") (by decide +kernel)) (hts (.initialized RX1) (by decide +kernel)) (by decide +kernel) ⟨Nat.le_of_ble_eq_true rfl, Nat.le_of_ble_eq_true rfl⟩, hts (.static yX1_bits) (by decide +kernel), trivial⟩) ⟨tB_blind, tB_go⟩ rfl rfl hl.1 rfl (lv_room (Nat.le_of_ble_eq_true rfl)) dX6_tellWheel_58 ⟨Nat.le_of_ble_eq_true rfl, Nat.le_of_ble_eq_true rfl⟩) hS (fun q _ h => h.elim) (fun q h => h.elim) (fun r1 u2 t H locs ht hvm hp3 hB hz1 hk1 hS => ?_)
    have hR := fr_rd hR0 hS hnr
    subst hp3
    exact W.lret (v := UInt64.toInt64 p1) hx hb hr (fun t ht hW => ⟨⟨UInt64.toInt64 p1, (), rfl, rfl, trivial⟩, hS.F ht⟩) hS.2.2 dX6_tellWheel_61
  · subst hwt
    refine lv_iload_n hx hb dX6_tellWheel_0 rfl (lv_at hl 2 rfl) ?_
    refine lv_tableIn (off := 61) (tgt := 62) hx hb dX6_tellWheel_1 (by decide) (by decide) (by decide) (by decide) ?_
    refine lv_aload_n hx hb dX6_tellWheel_62 rfl (lv_at hl 0 rfl) ?_
    refine va_get (D := D) (ci := 5) (v := .ref st) (C := RX6) (T := TX6) (N := 5) hx hb hts hinX6 hown hw.1 hR 0 rfl rfl 1 (by decide) (hts (.fieldLink RX6 18 "WheelSwing" "stand" "LWheelSwing$Stand;") (by decide +kernel)) (fun _ h9 => h9) rfl dX6_tellWheel_63 ?_
    refine va_getN (host := "WheelSwing") (D := D) (ci := 4) (v := .double p2) (C := RX5) (T := TX5) (N := 14) hx hb hts hinX5 hown hw.1 hR 1 rfl rfl 4 (by decide) (va_Nw.use rfl (hw.2 (.fieldLinkNest RX6 176 "WheelSwing$Stand" "qx" "D" "WheelSwing") (by decide +kernel))) (fun _ h9 => h9) rfl dX6_tellWheel_66 ?_
    refine va_calll (va_runSN (As := [.double p2]) (rest := []) ⟨hx, hb, hml, hown, hts⟩ (mX1_bits l p2 (bOk2_gr g2 z2 (Nat.le_of_ble_eq_true rfl) (Nat.le_of_ble_eq_true rfl))) (⟨va_cnB 1 hts gX6_tellWheel_X1_bits_n143 rfl rfl rfl (hw.2 (.methodLinkNest RX6 143 yX1_bits "WheelSwing") (by decide +kernel)) (hts (.initialized RX1) (by decide +kernel)) (by decide +kernel) ⟨Nat.le_of_ble_eq_true rfl, Nat.le_of_ble_eq_true rfl⟩, hts (.static yX1_bits) (by decide +kernel), trivial⟩) ⟨tB_blind, tB_go⟩ rfl rfl hl.1 rfl (lv_room (Nat.le_of_ble_eq_true rfl)) dX6_tellWheel_69 ⟨Nat.le_of_ble_eq_true rfl, Nat.le_of_ble_eq_true rfl⟩) hS (fun q _ h => h.elim) (fun q h => h.elim) (fun r1 u2 t H locs ht hvm hp3 hB hz1 hk1 hS => ?_)
    have hR := fr_rd hR0 hS hnr
    subst hp3
    exact W.lret (v := UInt64.toInt64 p2) hx hb hr (fun t ht hW => ⟨⟨UInt64.toInt64 p2, (), rfl, rfl, trivial⟩, hS.F ht⟩) hS.2.2 dX6_tellWheel_72
  · subst hwt
    refine lv_iload_n hx hb dX6_tellWheel_0 rfl (lv_at hl 2 rfl) ?_
    refine lv_tableIn (off := 72) (tgt := 73) hx hb dX6_tellWheel_1 (by decide) (by decide) (by decide) (by decide) ?_
    refine lv_aload_n hx hb dX6_tellWheel_73 rfl (lv_at hl 0 rfl) ?_
    refine va_get (D := D) (ci := 5) (v := .ref st) (C := RX6) (T := TX6) (N := 5) hx hb hts hinX6 hown hw.1 hR 0 rfl rfl 1 (by decide) (hts (.fieldLink RX6 18 "WheelSwing" "stand" "LWheelSwing$Stand;") (by decide +kernel)) (fun _ h9 => h9) rfl dX6_tellWheel_74 ?_
    refine va_getN (host := "WheelSwing") (D := D) (ci := 4) (v := .double p3) (C := RX5) (T := TX5) (N := 14) hx hb hts hinX5 hown hw.1 hR 1 rfl rfl 5 (by decide) (va_Nw.use rfl (hw.2 (.fieldLinkNest RX6 179 "WheelSwing$Stand" "qy" "D" "WheelSwing") (by decide +kernel))) (fun _ h9 => h9) rfl dX6_tellWheel_77 ?_
    refine va_calll (va_runSN (As := [.double p3]) (rest := []) ⟨hx, hb, hml, hown, hts⟩ (mX1_bits l p3 (bOk2_gr g3 z3 (Nat.le_of_ble_eq_true rfl) (Nat.le_of_ble_eq_true rfl))) (⟨va_cnB 1 hts gX6_tellWheel_X1_bits_n143 rfl rfl rfl (hw.2 (.methodLinkNest RX6 143 yX1_bits "WheelSwing") (by decide +kernel)) (hts (.initialized RX1) (by decide +kernel)) (by decide +kernel) ⟨Nat.le_of_ble_eq_true rfl, Nat.le_of_ble_eq_true rfl⟩, hts (.static yX1_bits) (by decide +kernel), trivial⟩) ⟨tB_blind, tB_go⟩ rfl rfl hl.1 rfl (lv_room (Nat.le_of_ble_eq_true rfl)) dX6_tellWheel_80 ⟨Nat.le_of_ble_eq_true rfl, Nat.le_of_ble_eq_true rfl⟩) hS (fun q _ h => h.elim) (fun q h => h.elim) (fun r1 u2 t H locs ht hvm hp3 hB hz1 hk1 hS => ?_)
    have hR := fr_rd hR0 hS hnr
    subst hp3
    exact W.lret (v := UInt64.toInt64 p3) hx hb hr (fun t ht hW => ⟨⟨UInt64.toInt64 p3, (), rfl, rfl, trivial⟩, hS.F ht⟩) hS.2.2 dX6_tellWheel_83
  · subst hwt
    refine lv_iload_n hx hb dX6_tellWheel_0 rfl (lv_at hl 2 rfl) ?_
    refine lv_tableIn (off := 83) (tgt := 84) hx hb dX6_tellWheel_1 (by decide) (by decide) (by decide) (by decide) ?_
    refine lv_aload_n hx hb dX6_tellWheel_84 rfl (lv_at hl 0 rfl) ?_
    refine va_get (D := D) (ci := 5) (v := .ref st) (C := RX6) (T := TX6) (N := 5) hx hb hts hinX6 hown hw.1 hR 0 rfl rfl 1 (by decide) (hts (.fieldLink RX6 18 "WheelSwing" "stand" "LWheelSwing$Stand;") (by decide +kernel)) (fun _ h9 => h9) rfl dX6_tellWheel_85 ?_
    refine va_getN (host := "WheelSwing") (D := D) (ci := 4) (v := .double p5) (C := RX5) (T := TX5) (N := 14) hx hb hts hinX5 hown hw.1 hR 1 rfl rfl 7 (by decide) (va_Nw.use rfl (hw.2 (.fieldLinkNest RX6 182 "WheelSwing$Stand" "vy" "D" "WheelSwing") (by decide +kernel))) (fun _ h9 => h9) rfl dX6_tellWheel_88 ?_
    refine lv_dconst0 hx hb dX6_tellWheel_91 ?_
    refine lv_dcmp hx hb dX6_tellWheel_92 ?_
    rw [fp_cv g5.1 gf_c0.1]
    refine lv_if_ne (tgt := 102) hx hb dX6_tellWheel_93 (by decide) (fun c1 => ?_) (fun c1 => ?_)
    · rw [fcv_eq] at c1
      have hvy : fv p5 ≠ 0 := by have hq := c1; rw [fv_c0] at hq; exact hq
      refine lv_aload_n hx hb dX6_tellWheel_102 rfl (lv_at hl 0 rfl) ?_
      have hq2 : va_P D vwCl [(o, .inr (5, [.ref ha, .ref st, .ref ca, .ref bx, .ref rd])), (st, .inr (4, [.int s0, .int s1, .double p0, .double p1, .double p2, .double p3, .double p4, .double p5, .double p6, .double p7, .double p8, .double p9, .double p10, .double p11]))] s.heap := hR.sub [0, 1] rfl
      refine va_calll (va_runV (As := []) (rest := []) ⟨hx, hb, hml, hown, hts⟩ (mX6_leanBits l D cI cH o st ha ca bx rd s0 s1 p0 p1 p2 p3 p4 p5 p6 p7 p8 p9 p10 p11 g4 g5 z4 hvy) (cwV 0 hts gX6_tellWheel_X6_leanBits rfl rfl rfl (by decide +kernel) ⟨Nat.le_of_ble_eq_true rfl, Nat.le_of_ble_eq_true rfl⟩) ⟨kB_blind, va_recv hw.1 hq2 (ci := 5) (q0 := 0) rfl rfl, kB_go hq2 hw⟩ rfl rfl hl.1 rfl (lv_room (Nat.le_of_ble_eq_true rfl)) dX6_tellWheel_103 ⟨Nat.le_of_ble_eq_true rfl, Nat.le_of_ble_eq_true rfl⟩) hS (fun q _ h => h.elim) (fun q h => h.elim) (fun r3 u4 t H locs ht hvm hp5 hB hz1 hk1 hS => ?_)
      have hR := fr_rd hR0 hS hnr
      subst hp5
      exact W.lret (v := UInt64.toInt64 (FP.ddiv p4 p5)) hx hb hr (fun t ht hW => ⟨⟨UInt64.toInt64 (FP.ddiv p4 p5), (), rfl, (by have hq := c1; rw [fv_c0] at hq; unfold sTel2 sTell; simp [hq]), trivial⟩, hS.F ht⟩) hS.2.2 dX6_tellWheel_106
    · rw [fcv_eq] at c1
      refine lv_ldc2 hx hb hown (hts (.constantLong RX6 100 (-1)) (by decide +kernel)) dX6_tellWheel_96 ?_
      refine lv_goto (tgt := 106) hx hb dX6_tellWheel_99 (by decide) ?_
      exact W.lret (v := (-1)) hx hb hr (fun t ht hW => ⟨⟨(-1), (), rfl, (by have hq := c1; rw [fv_c0] at hq; unfold sTel2 sTell; simp [hq]), trivial⟩, hS.F ht⟩) hS.2.2 dX6_tellWheel_106
  · subst hwt
    refine lv_iload_n hx hb dX6_tellWheel_0 rfl (lv_at hl 2 rfl) ?_
    refine lv_tableIn (off := 106) (tgt := 107) hx hb dX6_tellWheel_1 (by decide) (by decide) (by decide) (by decide) ?_
    refine lv_aload_n hx hb dX6_tellWheel_107 rfl (lv_at hl 0 rfl) ?_
    refine va_get (D := D) (ci := 5) (v := .ref st) (C := RX6) (T := TX6) (N := 5) hx hb hts hinX6 hown hw.1 hR 0 rfl rfl 1 (by decide) (hts (.fieldLink RX6 18 "WheelSwing" "stand" "LWheelSwing$Stand;") (by decide +kernel)) (fun _ h9 => h9) rfl dX6_tellWheel_108 ?_
    refine lv_aload_n hx hb dX6_tellWheel_111 rfl (lv_at hl 1 rfl) ?_
    have hq1 : va_P D vwCl [(st, .inr (4, [.int s0, .int s1, .double p0, .double p1, .double p2, .double p3, .double p4, .double p5, .double p6, .double p7, .double p8, .double p9, .double p10, .double p11])), (hg, .inr (1, [.int ux, .int uy, .int a, .int lx, .int ly, .int b, .int c, .int sd, .int g, .int d, .int sx, .int sy, .int f]))] s.heap := hR.sub [1, 2] rfl
    refine va_calld (va_runVN (As := [.ref hg]) (rest := []) ⟨hx, hb, hml, hown, hts⟩ (mX5_roadX l D cI cH st hg s0 s1 p0 p1 p2 p3 p4 p5 p6 p7 p8 p9 p10 p11 ux uy a lx ly b c sd g d sx sy f kg kd g0 g1 g2 g3 g4 g5) (⟨va_cnB 1 hts gX6_tellWheel_X5_roadX_n189 rfl rfl rfl (hw.2 (.methodLinkNest RX6 189 yX5_roadX "WheelSwing") (by decide +kernel)) (hts (.initialized RX5) (by decide +kernel)) (by decide +kernel) ⟨Nat.le_of_ble_eq_true rfl, Nat.le_of_ble_eq_true rfl⟩, hts (.instanceMethod yX5_roadX) (by decide +kernel), hts (.selects RX5 yX5_roadX yX5_roadX) (by decide +kernel)⟩) ⟨kB_blind, va_recv hw.1 hq1 (ci := 4) (q0 := 0) rfl rfl, kB_go hq1 hw⟩ rfl rfl hl.1 rfl (lv_room (Nat.le_of_ble_eq_true rfl)) dX6_tellWheel_112 ⟨Nat.le_of_ble_eq_true rfl, Nat.le_of_ble_eq_true rfl⟩) hS (fun q _ h => h.elim) (fun q h => h.elim) (fun r2 u3 t H locs ht hvm hp4 hB hz1 hk1 hS => ?_)
    have hR := fr_rd hR0 hS hnr
    subst hp4
    refine va_calll (va_runSN (As := [.double (tRx g d p0 p4 p5)]) (rest := []) ⟨hx, hb, hml, hown, hts⟩ (mX1_bits l (tRx g d p0 p4 p5) (bOk2_gr (gz_rx kg kd g0 g4 g5) (zz_rx kg kd g0 g4 g5 z0) (Nat.le_of_ble_eq_true rfl) (Nat.le_of_ble_eq_true rfl))) (⟨va_cnB 1 hts gX6_tellWheel_X1_bits_n143 rfl rfl rfl (hw.2 (.methodLinkNest RX6 143 yX1_bits "WheelSwing") (by decide +kernel)) (hts (.initialized RX1) (by decide +kernel)) (by decide +kernel) ⟨Nat.le_of_ble_eq_true rfl, Nat.le_of_ble_eq_true rfl⟩, hts (.static yX1_bits) (by decide +kernel), trivial⟩) ⟨tB_blind, tB_go⟩ rfl rfl hl.1 rfl (lv_room (Nat.le_of_ble_eq_true rfl)) dX6_tellWheel_115 ⟨Nat.le_of_ble_eq_true rfl, Nat.le_of_ble_eq_true rfl⟩) hS (fun q _ h => h.elim) (fun q h => h.elim) (fun r5 u6 t H locs ht hvm hp7 hB hz1 hk1 hS => ?_)
    have hR := fr_rd hR0 hS hnr
    subst hp7
    exact W.lret (v := UInt64.toInt64 (tRx g d p0 p4 p5)) hx hb hr (fun t ht hW => ⟨⟨UInt64.toInt64 (tRx g d p0 p4 p5), (), rfl, rfl, trivial⟩, hS.F ht⟩) hS.2.2 dX6_tellWheel_118
  · subst hwt
    refine lv_iload_n hx hb dX6_tellWheel_0 rfl (lv_at hl 2 rfl) ?_
    refine lv_tableOut (tgt := 119) hx hb dX6_tellWheel_1 (by decide) (by decide) ?_
    refine lv_aload_n hx hb dX6_tellWheel_119 rfl (lv_at hl 0 rfl) ?_
    refine va_get (D := D) (ci := 5) (v := .ref st) (C := RX6) (T := TX6) (N := 5) hx hb hts hinX6 hown hw.1 hR 0 rfl rfl 1 (by decide) (hts (.fieldLink RX6 18 "WheelSwing" "stand" "LWheelSwing$Stand;") (by decide +kernel)) (fun _ h9 => h9) rfl dX6_tellWheel_120 ?_
    refine lv_aload_n hx hb dX6_tellWheel_123 rfl (lv_at hl 1 rfl) ?_
    have hq1 : va_P D vwCl [(st, .inr (4, [.int s0, .int s1, .double p0, .double p1, .double p2, .double p3, .double p4, .double p5, .double p6, .double p7, .double p8, .double p9, .double p10, .double p11])), (hg, .inr (1, [.int ux, .int uy, .int a, .int lx, .int ly, .int b, .int c, .int sd, .int g, .int d, .int sx, .int sy, .int f]))] s.heap := hR.sub [1, 2] rfl
    refine va_calld (va_runVN (As := [.ref hg]) (rest := []) ⟨hx, hb, hml, hown, hts⟩ (mX5_roadY l D cI cH st hg s0 s1 p0 p1 p2 p3 p4 p5 p6 p7 p8 p9 p10 p11 ux uy a lx ly b c sd g d sx sy f kg kd g0 g1 g2 g3 g4 g5) (⟨va_cnB 1 hts gX6_tellWheel_X5_roadY_n193 rfl rfl rfl (hw.2 (.methodLinkNest RX6 193 yX5_roadY "WheelSwing") (by decide +kernel)) (hts (.initialized RX5) (by decide +kernel)) (by decide +kernel) ⟨Nat.le_of_ble_eq_true rfl, Nat.le_of_ble_eq_true rfl⟩, hts (.instanceMethod yX5_roadY) (by decide +kernel), hts (.selects RX5 yX5_roadY yX5_roadY) (by decide +kernel)⟩) ⟨kB_blind, va_recv hw.1 hq1 (ci := 4) (q0 := 0) rfl rfl, kB_go hq1 hw⟩ rfl rfl hl.1 rfl (lv_room (Nat.le_of_ble_eq_true rfl)) dX6_tellWheel_124 ⟨Nat.le_of_ble_eq_true rfl, Nat.le_of_ble_eq_true rfl⟩) hS (fun q _ h => h.elim) (fun q h => h.elim) (fun r2 u3 t H locs ht hvm hp4 hB hz1 hk1 hS => ?_)
    have hR := fr_rd hR0 hS hnr
    subst hp4
    refine va_calll (va_runSN (As := [.double (tRy g d p1 p4 p5)]) (rest := []) ⟨hx, hb, hml, hown, hts⟩ (mX1_bits l (tRy g d p1 p4 p5) (bOk2_gr (gz_ry kg kd g1 g4 g5) (zz_ry kg kd g1 g4 g5 z1) (Nat.le_of_ble_eq_true rfl) (Nat.le_of_ble_eq_true rfl))) (⟨va_cnB 1 hts gX6_tellWheel_X1_bits_n143 rfl rfl rfl (hw.2 (.methodLinkNest RX6 143 yX1_bits "WheelSwing") (by decide +kernel)) (hts (.initialized RX1) (by decide +kernel)) (by decide +kernel) ⟨Nat.le_of_ble_eq_true rfl, Nat.le_of_ble_eq_true rfl⟩, hts (.static yX1_bits) (by decide +kernel), trivial⟩) ⟨tB_blind, tB_go⟩ rfl rfl hl.1 rfl (lv_room (Nat.le_of_ble_eq_true rfl)) dX6_tellWheel_127 ⟨Nat.le_of_ble_eq_true rfl, Nat.le_of_ble_eq_true rfl⟩) hS (fun q _ h => h.elim) (fun q h => h.elim) (fun r5 u6 t H locs ht hvm hp7 hB hz1 hk1 hS => ?_)
    have hR := fr_rd hR0 hS hnr
    subst hp7
    exact W.lret (v := UInt64.toInt64 (tRy g d p1 p4 p5)) hx hb hr (fun t ht hW => ⟨⟨UInt64.toInt64 (tRy g d p1 p4 p5), (), rfl, rfl, trivial⟩, hS.F ht⟩) hS.2.2 dX6_tellWheel_130
theorem gz_roll {g d ux uy lx ly : Int32} {p0 p1 p2 p3 p4 p5 : UInt64} (kU : cB ux) (kV : cB uy) (klx : cB lx) (kly : cB ly) (kg : cB g) (kd : cB d) (g0 : fGr 1021 1086 p0) (g1 : fGr 1074 1084 p1) (g2 : fGr 888 1153 p2) (g3 : fGr 934 1152 p3) (g4 : fGr 826 1154 p4) (g5 : fGr 872 1153 p5) (hn : fv (tN ux uy lx ly p0 p1 p2 p3) ≠ 0) (hix : fv (FP.dsub (tIx ux uy lx ly p0 p1 p2 p3) (tRx g d p0 p4 p5)) ≠ 0) : fGr 136 1851 (tRoll (tRx g d p0 p4 p5) (tRy g d p1 p4 p5) (tIx ux uy lx ly p0 p1 p2 p3) (tIy ux uy lx ly p0 p1 p2 p3)) := (gf_add 136 1851 (gz_ry kg kd g1 g4 g5) (gf_div 136 1850 (gf_mul 488 1466 (gf_sub 826 1167 gf_c0 (gz_rx kg kd g0 g4 g5) (Nat.le_of_ble_eq_true rfl) (Nat.le_of_ble_eq_true rfl) (Nat.le_of_ble_eq_true rfl) (Nat.le_of_ble_eq_true rfl) (Nat.le_of_ble_eq_true rfl)) (gf_sub 736 1373 (gz_iy kU kV klx kly g0 g1 g2 g3 hn) (gz_ry kg kd g1 g4 g5) (Nat.le_of_ble_eq_true rfl) (Nat.le_of_ble_eq_true rfl) (Nat.le_of_ble_eq_true rfl) (Nat.le_of_ble_eq_true rfl) (Nat.le_of_ble_eq_true rfl)) (Nat.le_of_ble_eq_true rfl) (Nat.le_of_ble_eq_true rfl) (Nat.le_of_ble_eq_true rfl)) (gf_sub 690 1374 (gz_ix kU kV klx kly g0 g1 g2 g3 hn) (gz_rx kg kd g0 g4 g5) (Nat.le_of_ble_eq_true rfl) (Nat.le_of_ble_eq_true rfl) (Nat.le_of_ble_eq_true rfl) (Nat.le_of_ble_eq_true rfl) (Nat.le_of_ble_eq_true rfl)) hix (Nat.le_of_ble_eq_true rfl) (Nat.le_of_ble_eq_true rfl) (Nat.le_of_ble_eq_true rfl)) (Nat.le_of_ble_eq_true rfl) (Nat.le_of_ble_eq_true rfl) (Nat.le_of_ble_eq_true rfl) (Nat.le_of_ble_eq_true rfl) (Nat.le_of_ble_eq_true rfl))
set_option maxHeartbeats 4000000 in
set_option maxRecDepth 100000 in
theorem mX6_tellTravel (l : Launch) (D : va_G) (cI cH : ClassId) (o st hg ha ca bx rd : Nat) (s0 s1 : Int32) (p0 p1 p2 p3 p4 p5 p6 p7 p8 p9 p10 p11 : UInt64) (ux uy a lx ly b c sd g d sx sy f : Int32) (wt : Int32)  (hne : hg ≠ st) (hno : o ≠ st) (kU : cB s0) (kV : cB s1) (klx : cB lx) (kly : cB ly) (kg : cB g) (kd : cB d) (ksx : cB sx) (ksy : cB sy) (kf : zB f) (g0 : fGr 1021 1086 p0) (g1 : fGr 1074 1084 p1) (g2 : fGr 888 1153 p2) (g3 : fGr 934 1152 p3) (g4 : fGr 826 1154 p4) (g5 : fGr 872 1153 p5) (z1 : zP p1) (hwt : wt = 7 ∨ wt = 8 ∨ wt = 9 ∨ wt = 10) : Met l yX6_tellTravel wsX6_tellTravel ({ frames := 4, cells := 0, slots := 0, locals := 104 }) (va_Pc [.ref o, .ref hg, .int wt] (kB D cI cH [(st, .inr (4, [.int s0, .int s1, .double p0, .double p1, .double p2, .double p3, .double p4, .double p5, .double p6, .double p7, .double p8, .double p9, .double p10, .double p11])), (o, .inr (5, [.ref ha, .ref st, .ref ca, .ref bx, .ref rd])), (hg, .inr (1, [.int ux, .int uy, .int a, .int lx, .int ly, .int b, .int c, .int sd, .int g, .int d, .int sx, .int sy, .int f]))])) (va_Ql (fun (r : Int64) (u : List Value) => r = sTel2 s0 s1 lx ly g d sx sy f p0 p1 p2 p3 p4 p5 wt ∧ isSt u) (fun u t => va_at D vwCl (st, .inr (4, u)) t.heap) (aE st)) 0 0 (aE st) := by
  refine Met.ofW (cc := cX6_tellTravel) (maxL := 7) (ret := (some .long)) (by decide) rfl ?_
  intro p e s m args below meth co s₁ B hml hv
  obtain ⟨rfl, hP0, hw⟩ := hv
  have hx := B.exec
  have hb := B.bytes
  have hr := B.returns
  have hts := atoms_spec (ws := wsX6_tellTravel) B.pre
  have hown : s.vm.findClass RX6 = some m.cls := findClass_of_methodNamed B.named
  have hlocks := B.notSynchronized
  have hinX2 : ∀ w ∈ wsX20, w ∈ wsX6_tellTravel := by decide +kernel
  have hinX5 : ∀ w ∈ wsX50, w ∈ wsX6_tellTravel := by decide +kernel
  have hinX6 : ∀ w ∈ wsX60, w ∈ wsX6_tellTravel := by decide +kernel
  have hS : va_S (aE st) s.heap s.heap [] := va_S.rf
  have hP : va_P D vwCl [(st, .inr (4, [.int s0, .int s1, .double p0, .double p1, .double p2, .double p3, .double p4, .double p5, .double p6, .double p7, .double p8, .double p9, .double p10, .double p11]))] s.heap := hP0.sub [0] rfl
  have hD : va_D (aE st) [(st, .inr (4, [.int s0, .int s1, .double p0, .double p1, .double p2, .double p3, .double p4, .double p5, .double p6, .double p7, .double p8, .double p9, .double p10, .double p11]))] := D_1 rfl
  have hR0 : va_P D vwCl [(o, .inr (5, [.ref ha, .ref st, .ref ca, .ref bx, .ref rd])), (hg, .inr (1, [.int ux, .int uy, .int a, .int lx, .int ly, .int b, .int c, .int sd, .int g, .int d, .int sx, .int sy, .int f]))] s.heap := hP0.sub [1, 2] rfl
  have hR := hR0
  have hnr : ∀ (k9 : Nat) (q : Nat × va_E), ([(o, .inr (5, [.ref ha, .ref st, .ref ca, .ref bx, .ref rd])), (hg, .inr (1, [.int ux, .int uy, .int a, .int lx, .int ly, .int b, .int c, .int sd, .int g, .int d, .int sx, .int sy, .int f]))] : va_W)[k9]? = some q → ¬ (aE st) q.1 := nn_1 hno (nn_1 hne nn_0)
  have hl := lv_entry ([.ref o, .ref hg, .int wt]) (n := 7) (Nat.le_of_ble_eq_true rfl)
  rw [lg_entry_eq]
  generalize (lg_sl ([.ref o, .ref hg, .int wt]) ++ List.replicate (7 - (lg_sl ([.ref o, .ref hg, .int wt])).length) Slot.unset).toArray = ls at hl ⊢
  have hl : lv_has ls 7 [(0, .ref o), (1, .ref hg), (2, .int wt)] := hl
  skip
  rcases hwt with hwt | hwt | hwt | hwt
  · subst hwt
    refine lv_iload_n hx hb dX6_tellTravel_0 rfl (lv_at hl 2 rfl) ?_
    refine lv_bipush (v := 10) hx hb dX6_tellTravel_1 (by decide) ?_
    refine lv_icmp_ne (tgt := 18) hx hb dX6_tellTravel_3 (by decide) (fun _ => ?_) (fun c2 => absurd c2 (by decide))
    refine lv_aload_n hx hb dX6_tellTravel_18 rfl (lv_at hl 0 rfl) ?_
    refine va_get (D := D) (ci := 5) (v := .ref st) (C := RX6) (T := TX6) (N := 5) hx hb hts hinX6 hown hw.1 hR 0 rfl rfl 1 (by decide) (hts (.fieldLink RX6 18 "WheelSwing" "stand" "LWheelSwing$Stand;") (by decide +kernel)) (fun _ h9 => h9) rfl dX6_tellTravel_19 ?_
    refine lv_aload_n hx hb dX6_tellTravel_22 rfl (lv_at hl 1 rfl) ?_
    have hq3 : va_P D vwCl [(st, .inr (4, [.int s0, .int s1, .double p0, .double p1, .double p2, .double p3, .double p4, .double p5, .double p6, .double p7, .double p8, .double p9, .double p10, .double p11])), (hg, .inr (1, [.int ux, .int uy, .int a, .int lx, .int ly, .int b, .int c, .int sd, .int g, .int d, .int sx, .int sy, .int f]))] s.heap := fr_cons (hP 0 _ rfl) (fr_cons (hR 1 _ rfl) (fr_nil))
    refine va_calli (va_runVN (As := [.ref hg]) (rest := []) ⟨hx, hb, hml, hown, hts⟩ (mX5_findCentre l D cI cH st hg s0 s1 p0 p1 p2 p3 p4 p5 p6 p7 p8 p9 p10 p11 ux uy a lx ly b c sd g d sx sy f hne kU kV klx kly g0 g1 g2 g3) (⟨va_cnB 1 hts gX6_tellTravel_X5_findCentre_n204 rfl rfl rfl (hw.2 (.methodLinkNest RX6 204 yX5_findCentre "WheelSwing") (by decide +kernel)) (hts (.initialized RX5) (by decide +kernel)) (by decide +kernel) ⟨Nat.le_of_ble_eq_true rfl, Nat.le_of_ble_eq_true rfl⟩, hts (.instanceMethod yX5_findCentre) (by decide +kernel), hts (.selects RX5 yX5_findCentre yX5_findCentre) (by decide +kernel)⟩) ⟨kB_blind, va_recv hw.1 hq3 (ci := 4) (q0 := 0) rfl rfl, kB_go hq3 hw⟩ rfl rfl hl.1 rfl (lv_room (Nat.le_of_ble_eq_true rfl)) dX6_tellTravel_23 ⟨Nat.le_of_ble_eq_true rfl, Nat.le_of_ble_eq_true rfl⟩) hS (fun q _ h => h) (fun q h => h) (fun r4 u5 t H locs ht hvm hp6 hB hz1 hk1 hS => ?_)
    have hB : va_at D vwCl (st, .inr (4, u5)) t.heap := hB
    rw [ht] at hB
    have hP := fr_one hB
    have hR := fr_rd hR0 hS hnr
    rcases hp6 with ⟨rfl, hn, rfl⟩ | ⟨rfl, hn, rfl⟩
    · have hP : va_P D vwCl [(st, .inr (4, [.int s0, .int s1, .double p0, .double p1, .double p2, .double p3, .double p4, .double p5, .double (tIx s0 s1 lx ly p0 p1 p2 p3), .double (tIy s0 s1 lx ly p0 p1 p2 p3), .double p8, .double p9, .double p10, .double p11]))] H := hP
      have hD : va_D (aE st) [(st, .inr (4, [.int s0, .int s1, .double p0, .double p1, .double p2, .double p3, .double p4, .double p5, .double (tIx s0 s1 lx ly p0 p1 p2 p3), .double (tIy s0 s1 lx ly p0 p1 p2 p3), .double p8, .double p9, .double p10, .double p11]))] := D_1 rfl
      refine lv_if_ne (tgt := 33) hx hb dX6_tellTravel_26 (by decide) (fun _ => ?_) (fun c8 => absurd c8 (by decide))
      refine lv_iload_n hx hb dX6_tellTravel_33 rfl (lv_at hl 2 rfl) ?_
      refine lv_bipush (v := 7) hx hb dX6_tellTravel_34 (by decide) ?_
      refine lv_icmp_ne (tgt := 50) hx hb dX6_tellTravel_36 (by decide) (fun c10 => absurd c10 (by decide)) (fun _ => ?_)
      refine lv_aload_n hx hb dX6_tellTravel_39 rfl (lv_at hl 0 rfl) ?_
      refine va_get (D := D) (ci := 5) (v := .ref st) (C := RX6) (T := TX6) (N := 5) hx hb hts hinX6 hown hw.1 hR 0 rfl rfl 1 (by decide) (hts (.fieldLink RX6 18 "WheelSwing" "stand" "LWheelSwing$Stand;") (by decide +kernel)) (fun _ h9 => h9) rfl dX6_tellTravel_40 ?_
      refine va_getN (host := "WheelSwing") (D := D) (ci := 4) (v := .double (tIx s0 s1 lx ly p0 p1 p2 p3)) (C := RX5) (T := TX5) (N := 14) hx hb hts hinX5 hown hw.1 hP 0 rfl rfl 8 (by decide) (va_Nw.use rfl (hw.2 (.fieldLinkNest RX6 208 "WheelSwing$Stand" "ix" "D" "WheelSwing") (by decide +kernel))) (fun _ h9 => h9) rfl dX6_tellTravel_43 ?_
      refine va_calll (va_runSN (As := [.double (tIx s0 s1 lx ly p0 p1 p2 p3)]) (rest := []) ⟨hx, hb, hml, hown, hts⟩ (mX1_bits l (tIx s0 s1 lx ly p0 p1 p2 p3) (bOk2_gr (gz_ix kU kV klx kly g0 g1 g2 g3 hn) (zz_ix kU kV klx kly g0 g1 g2 g3 hn) (Nat.le_of_ble_eq_true rfl) (Nat.le_of_ble_eq_true rfl))) (⟨va_cnB 1 hts gX6_tellTravel_X1_bits_n143 rfl rfl rfl (hw.2 (.methodLinkNest RX6 143 yX1_bits "WheelSwing") (by decide +kernel)) (hts (.initialized RX1) (by decide +kernel)) (by decide +kernel) ⟨Nat.le_of_ble_eq_true rfl, Nat.le_of_ble_eq_true rfl⟩, hts (.static yX1_bits) (by decide +kernel), trivial⟩) ⟨tB_blind, tB_go⟩ rfl rfl hl.1 rfl (lv_room (Nat.le_of_ble_eq_true rfl)) dX6_tellTravel_46 ⟨Nat.le_of_ble_eq_true rfl, Nat.le_of_ble_eq_true rfl⟩) hS (fun q _ h => h.elim) (fun q h => h.elim) (fun r11 u12 t H locs ht hvm hp13 hB hz1 hk1 hS => ?_)
      have hP := fr_keep hP hk1 fr_nA
      have hR := fr_rd hR0 hS hnr
      subst hp13
      exact W.lret (v := UInt64.toInt64 (tIx s0 s1 lx ly p0 p1 p2 p3)) hx hb hr (fun t ht hW => ⟨⟨UInt64.toInt64 (tIx s0 s1 lx ly p0 p1 p2 p3), [.int s0, .int s1, .double p0, .double p1, .double p2, .double p3, .double p4, .double p5, .double (tIx s0 s1 lx ly p0 p1 p2 p3), .double (tIy s0 s1 lx ly p0 p1 p2 p3), .double p8, .double p9, .double p10, .double p11], rfl, ⟨by unfold sTel2 sTell; simp [hn], ⟨_, _, _, _, _, _, _, _, _, _, _, _, _, _, rfl⟩⟩, at_heap ht (hP 0 _ rfl)⟩, hS.F ht⟩) hS.2.2 dX6_tellTravel_49
    · have hP : va_P D vwCl [(st, .inr (4, [.int s0, .int s1, .double p0, .double p1, .double p2, .double p3, .double p4, .double p5, .double p6, .double p7, .double p8, .double p9, .double p10, .double p11]))] H := hP
      have hD : va_D (aE st) [(st, .inr (4, [.int s0, .int s1, .double p0, .double p1, .double p2, .double p3, .double p4, .double p5, .double p6, .double p7, .double p8, .double p9, .double p10, .double p11]))] := D_1 rfl
      refine lv_if_ne (tgt := 33) hx hb dX6_tellTravel_26 (by decide) (fun c15 => absurd c15 (by decide)) (fun _ => ?_)
      refine lv_ldc2 hx hb hown (hts (.constantLong RX6 100 (-1)) (by decide +kernel)) dX6_tellTravel_29 ?_
      exact W.lret (v := (-1)) hx hb hr (fun t ht hW => ⟨⟨(-1), [.int s0, .int s1, .double p0, .double p1, .double p2, .double p3, .double p4, .double p5, .double p6, .double p7, .double p8, .double p9, .double p10, .double p11], rfl, ⟨by unfold sTel2 sTell; simp [hn], ⟨_, _, _, _, _, _, _, _, _, _, _, _, _, _, rfl⟩⟩, at_heap ht (hP 0 _ rfl)⟩, hS.F ht⟩) hS.2.2 dX6_tellTravel_32
  · subst hwt
    refine lv_iload_n hx hb dX6_tellTravel_0 rfl (lv_at hl 2 rfl) ?_
    refine lv_bipush (v := 10) hx hb dX6_tellTravel_1 (by decide) ?_
    refine lv_icmp_ne (tgt := 18) hx hb dX6_tellTravel_3 (by decide) (fun _ => ?_) (fun c2 => absurd c2 (by decide))
    refine lv_aload_n hx hb dX6_tellTravel_18 rfl (lv_at hl 0 rfl) ?_
    refine va_get (D := D) (ci := 5) (v := .ref st) (C := RX6) (T := TX6) (N := 5) hx hb hts hinX6 hown hw.1 hR 0 rfl rfl 1 (by decide) (hts (.fieldLink RX6 18 "WheelSwing" "stand" "LWheelSwing$Stand;") (by decide +kernel)) (fun _ h9 => h9) rfl dX6_tellTravel_19 ?_
    refine lv_aload_n hx hb dX6_tellTravel_22 rfl (lv_at hl 1 rfl) ?_
    have hq3 : va_P D vwCl [(st, .inr (4, [.int s0, .int s1, .double p0, .double p1, .double p2, .double p3, .double p4, .double p5, .double p6, .double p7, .double p8, .double p9, .double p10, .double p11])), (hg, .inr (1, [.int ux, .int uy, .int a, .int lx, .int ly, .int b, .int c, .int sd, .int g, .int d, .int sx, .int sy, .int f]))] s.heap := fr_cons (hP 0 _ rfl) (fr_cons (hR 1 _ rfl) (fr_nil))
    refine va_calli (va_runVN (As := [.ref hg]) (rest := []) ⟨hx, hb, hml, hown, hts⟩ (mX5_findCentre l D cI cH st hg s0 s1 p0 p1 p2 p3 p4 p5 p6 p7 p8 p9 p10 p11 ux uy a lx ly b c sd g d sx sy f hne kU kV klx kly g0 g1 g2 g3) (⟨va_cnB 1 hts gX6_tellTravel_X5_findCentre_n204 rfl rfl rfl (hw.2 (.methodLinkNest RX6 204 yX5_findCentre "WheelSwing") (by decide +kernel)) (hts (.initialized RX5) (by decide +kernel)) (by decide +kernel) ⟨Nat.le_of_ble_eq_true rfl, Nat.le_of_ble_eq_true rfl⟩, hts (.instanceMethod yX5_findCentre) (by decide +kernel), hts (.selects RX5 yX5_findCentre yX5_findCentre) (by decide +kernel)⟩) ⟨kB_blind, va_recv hw.1 hq3 (ci := 4) (q0 := 0) rfl rfl, kB_go hq3 hw⟩ rfl rfl hl.1 rfl (lv_room (Nat.le_of_ble_eq_true rfl)) dX6_tellTravel_23 ⟨Nat.le_of_ble_eq_true rfl, Nat.le_of_ble_eq_true rfl⟩) hS (fun q _ h => h) (fun q h => h) (fun r4 u5 t H locs ht hvm hp6 hB hz1 hk1 hS => ?_)
    have hB : va_at D vwCl (st, .inr (4, u5)) t.heap := hB
    rw [ht] at hB
    have hP := fr_one hB
    have hR := fr_rd hR0 hS hnr
    rcases hp6 with ⟨rfl, hn, rfl⟩ | ⟨rfl, hn, rfl⟩
    · have hP : va_P D vwCl [(st, .inr (4, [.int s0, .int s1, .double p0, .double p1, .double p2, .double p3, .double p4, .double p5, .double (tIx s0 s1 lx ly p0 p1 p2 p3), .double (tIy s0 s1 lx ly p0 p1 p2 p3), .double p8, .double p9, .double p10, .double p11]))] H := hP
      have hD : va_D (aE st) [(st, .inr (4, [.int s0, .int s1, .double p0, .double p1, .double p2, .double p3, .double p4, .double p5, .double (tIx s0 s1 lx ly p0 p1 p2 p3), .double (tIy s0 s1 lx ly p0 p1 p2 p3), .double p8, .double p9, .double p10, .double p11]))] := D_1 rfl
      refine lv_if_ne (tgt := 33) hx hb dX6_tellTravel_26 (by decide) (fun _ => ?_) (fun c8 => absurd c8 (by decide))
      refine lv_iload_n hx hb dX6_tellTravel_33 rfl (lv_at hl 2 rfl) ?_
      refine lv_bipush (v := 7) hx hb dX6_tellTravel_34 (by decide) ?_
      refine lv_icmp_ne (tgt := 50) hx hb dX6_tellTravel_36 (by decide) (fun _ => ?_) (fun c10 => absurd c10 (by decide))
      refine lv_iload_n hx hb dX6_tellTravel_50 rfl (lv_at hl 2 rfl) ?_
      refine lv_bipush (v := 8) hx hb dX6_tellTravel_51 (by decide) ?_
      refine lv_icmp_ne (tgt := 67) hx hb dX6_tellTravel_53 (by decide) (fun c12 => absurd c12 (by decide)) (fun _ => ?_)
      refine lv_aload_n hx hb dX6_tellTravel_56 rfl (lv_at hl 0 rfl) ?_
      refine va_get (D := D) (ci := 5) (v := .ref st) (C := RX6) (T := TX6) (N := 5) hx hb hts hinX6 hown hw.1 hR 0 rfl rfl 1 (by decide) (hts (.fieldLink RX6 18 "WheelSwing" "stand" "LWheelSwing$Stand;") (by decide +kernel)) (fun _ h9 => h9) rfl dX6_tellTravel_57 ?_
      refine va_getN (host := "WheelSwing") (D := D) (ci := 4) (v := .double (tIy s0 s1 lx ly p0 p1 p2 p3)) (C := RX5) (T := TX5) (N := 14) hx hb hts hinX5 hown hw.1 hP 0 rfl rfl 9 (by decide) (va_Nw.use rfl (hw.2 (.fieldLinkNest RX6 211 "WheelSwing$Stand" "iy" "D" "WheelSwing") (by decide +kernel))) (fun _ h9 => h9) rfl dX6_tellTravel_60 ?_
      refine va_calll (va_runSN (As := [.double (tIy s0 s1 lx ly p0 p1 p2 p3)]) (rest := []) ⟨hx, hb, hml, hown, hts⟩ (mX1_bits l (tIy s0 s1 lx ly p0 p1 p2 p3) (bOk2_gr (gz_iy kU kV klx kly g0 g1 g2 g3 hn) (zz_iy kU kV klx kly g0 g1 g2 g3 hn) (Nat.le_of_ble_eq_true rfl) (Nat.le_of_ble_eq_true rfl))) (⟨va_cnB 1 hts gX6_tellTravel_X1_bits_n143 rfl rfl rfl (hw.2 (.methodLinkNest RX6 143 yX1_bits "WheelSwing") (by decide +kernel)) (hts (.initialized RX1) (by decide +kernel)) (by decide +kernel) ⟨Nat.le_of_ble_eq_true rfl, Nat.le_of_ble_eq_true rfl⟩, hts (.static yX1_bits) (by decide +kernel), trivial⟩) ⟨tB_blind, tB_go⟩ rfl rfl hl.1 rfl (lv_room (Nat.le_of_ble_eq_true rfl)) dX6_tellTravel_63 ⟨Nat.le_of_ble_eq_true rfl, Nat.le_of_ble_eq_true rfl⟩) hS (fun q _ h => h.elim) (fun q h => h.elim) (fun r13 u14 t H locs ht hvm hp15 hB hz1 hk1 hS => ?_)
      have hP := fr_keep hP hk1 fr_nA
      have hR := fr_rd hR0 hS hnr
      subst hp15
      exact W.lret (v := UInt64.toInt64 (tIy s0 s1 lx ly p0 p1 p2 p3)) hx hb hr (fun t ht hW => ⟨⟨UInt64.toInt64 (tIy s0 s1 lx ly p0 p1 p2 p3), [.int s0, .int s1, .double p0, .double p1, .double p2, .double p3, .double p4, .double p5, .double (tIx s0 s1 lx ly p0 p1 p2 p3), .double (tIy s0 s1 lx ly p0 p1 p2 p3), .double p8, .double p9, .double p10, .double p11], rfl, ⟨by unfold sTel2 sTell; simp [hn], ⟨_, _, _, _, _, _, _, _, _, _, _, _, _, _, rfl⟩⟩, at_heap ht (hP 0 _ rfl)⟩, hS.F ht⟩) hS.2.2 dX6_tellTravel_66
    · have hP : va_P D vwCl [(st, .inr (4, [.int s0, .int s1, .double p0, .double p1, .double p2, .double p3, .double p4, .double p5, .double p6, .double p7, .double p8, .double p9, .double p10, .double p11]))] H := hP
      have hD : va_D (aE st) [(st, .inr (4, [.int s0, .int s1, .double p0, .double p1, .double p2, .double p3, .double p4, .double p5, .double p6, .double p7, .double p8, .double p9, .double p10, .double p11]))] := D_1 rfl
      refine lv_if_ne (tgt := 33) hx hb dX6_tellTravel_26 (by decide) (fun c17 => absurd c17 (by decide)) (fun _ => ?_)
      refine lv_ldc2 hx hb hown (hts (.constantLong RX6 100 (-1)) (by decide +kernel)) dX6_tellTravel_29 ?_
      exact W.lret (v := (-1)) hx hb hr (fun t ht hW => ⟨⟨(-1), [.int s0, .int s1, .double p0, .double p1, .double p2, .double p3, .double p4, .double p5, .double p6, .double p7, .double p8, .double p9, .double p10, .double p11], rfl, ⟨by unfold sTel2 sTell; simp [hn], ⟨_, _, _, _, _, _, _, _, _, _, _, _, _, _, rfl⟩⟩, at_heap ht (hP 0 _ rfl)⟩, hS.F ht⟩) hS.2.2 dX6_tellTravel_32
  · subst hwt
    refine lv_iload_n hx hb dX6_tellTravel_0 rfl (lv_at hl 2 rfl) ?_
    refine lv_bipush (v := 10) hx hb dX6_tellTravel_1 (by decide) ?_
    refine lv_icmp_ne (tgt := 18) hx hb dX6_tellTravel_3 (by decide) (fun _ => ?_) (fun c2 => absurd c2 (by decide))
    refine lv_aload_n hx hb dX6_tellTravel_18 rfl (lv_at hl 0 rfl) ?_
    refine va_get (D := D) (ci := 5) (v := .ref st) (C := RX6) (T := TX6) (N := 5) hx hb hts hinX6 hown hw.1 hR 0 rfl rfl 1 (by decide) (hts (.fieldLink RX6 18 "WheelSwing" "stand" "LWheelSwing$Stand;") (by decide +kernel)) (fun _ h9 => h9) rfl dX6_tellTravel_19 ?_
    refine lv_aload_n hx hb dX6_tellTravel_22 rfl (lv_at hl 1 rfl) ?_
    have hq3 : va_P D vwCl [(st, .inr (4, [.int s0, .int s1, .double p0, .double p1, .double p2, .double p3, .double p4, .double p5, .double p6, .double p7, .double p8, .double p9, .double p10, .double p11])), (hg, .inr (1, [.int ux, .int uy, .int a, .int lx, .int ly, .int b, .int c, .int sd, .int g, .int d, .int sx, .int sy, .int f]))] s.heap := fr_cons (hP 0 _ rfl) (fr_cons (hR 1 _ rfl) (fr_nil))
    refine va_calli (va_runVN (As := [.ref hg]) (rest := []) ⟨hx, hb, hml, hown, hts⟩ (mX5_findCentre l D cI cH st hg s0 s1 p0 p1 p2 p3 p4 p5 p6 p7 p8 p9 p10 p11 ux uy a lx ly b c sd g d sx sy f hne kU kV klx kly g0 g1 g2 g3) (⟨va_cnB 1 hts gX6_tellTravel_X5_findCentre_n204 rfl rfl rfl (hw.2 (.methodLinkNest RX6 204 yX5_findCentre "WheelSwing") (by decide +kernel)) (hts (.initialized RX5) (by decide +kernel)) (by decide +kernel) ⟨Nat.le_of_ble_eq_true rfl, Nat.le_of_ble_eq_true rfl⟩, hts (.instanceMethod yX5_findCentre) (by decide +kernel), hts (.selects RX5 yX5_findCentre yX5_findCentre) (by decide +kernel)⟩) ⟨kB_blind, va_recv hw.1 hq3 (ci := 4) (q0 := 0) rfl rfl, kB_go hq3 hw⟩ rfl rfl hl.1 rfl (lv_room (Nat.le_of_ble_eq_true rfl)) dX6_tellTravel_23 ⟨Nat.le_of_ble_eq_true rfl, Nat.le_of_ble_eq_true rfl⟩) hS (fun q _ h => h) (fun q h => h) (fun r4 u5 t H locs ht hvm hp6 hB hz1 hk1 hS => ?_)
    have hB : va_at D vwCl (st, .inr (4, u5)) t.heap := hB
    rw [ht] at hB
    have hP := fr_one hB
    have hR := fr_rd hR0 hS hnr
    rcases hp6 with ⟨rfl, hn, rfl⟩ | ⟨rfl, hn, rfl⟩
    · have hP : va_P D vwCl [(st, .inr (4, [.int s0, .int s1, .double p0, .double p1, .double p2, .double p3, .double p4, .double p5, .double (tIx s0 s1 lx ly p0 p1 p2 p3), .double (tIy s0 s1 lx ly p0 p1 p2 p3), .double p8, .double p9, .double p10, .double p11]))] H := hP
      have hD : va_D (aE st) [(st, .inr (4, [.int s0, .int s1, .double p0, .double p1, .double p2, .double p3, .double p4, .double p5, .double (tIx s0 s1 lx ly p0 p1 p2 p3), .double (tIy s0 s1 lx ly p0 p1 p2 p3), .double p8, .double p9, .double p10, .double p11]))] := D_1 rfl
      refine lv_if_ne (tgt := 33) hx hb dX6_tellTravel_26 (by decide) (fun _ => ?_) (fun c8 => absurd c8 (by decide))
      refine lv_iload_n hx hb dX6_tellTravel_33 rfl (lv_at hl 2 rfl) ?_
      refine lv_bipush (v := 7) hx hb dX6_tellTravel_34 (by decide) ?_
      refine lv_icmp_ne (tgt := 50) hx hb dX6_tellTravel_36 (by decide) (fun _ => ?_) (fun c10 => absurd c10 (by decide))
      refine lv_iload_n hx hb dX6_tellTravel_50 rfl (lv_at hl 2 rfl) ?_
      refine lv_bipush (v := 8) hx hb dX6_tellTravel_51 (by decide) ?_
      refine lv_icmp_ne (tgt := 67) hx hb dX6_tellTravel_53 (by decide) (fun _ => ?_) (fun c12 => absurd c12 (by decide))
      refine lv_aload_n hx hb dX6_tellTravel_67 rfl (lv_at hl 0 rfl) ?_
      refine va_get (D := D) (ci := 5) (v := .ref st) (C := RX6) (T := TX6) (N := 5) hx hb hts hinX6 hown hw.1 hR 0 rfl rfl 1 (by decide) (hts (.fieldLink RX6 18 "WheelSwing" "stand" "LWheelSwing$Stand;") (by decide +kernel)) (fun _ h9 => h9) rfl dX6_tellTravel_68 ?_
      refine lv_aload_n hx hb dX6_tellTravel_71 rfl (lv_at hl 1 rfl) ?_
      have hq13 : va_P D vwCl [(st, .inr (4, [.int s0, .int s1, .double p0, .double p1, .double p2, .double p3, .double p4, .double p5, .double (tIx s0 s1 lx ly p0 p1 p2 p3), .double (tIy s0 s1 lx ly p0 p1 p2 p3), .double p8, .double p9, .double p10, .double p11])), (hg, .inr (1, [.int ux, .int uy, .int a, .int lx, .int ly, .int b, .int c, .int sd, .int g, .int d, .int sx, .int sy, .int f]))] H := fr_cons (hP 0 _ rfl) (fr_cons (hR 1 _ rfl) (fr_nil))
      refine va_calld (va_runVN (As := [.ref hg]) (rest := []) ⟨hx, hb, hml, hown, hts⟩ (mX5_roadX l D cI cH st hg s0 s1 p0 p1 p2 p3 p4 p5 (tIx s0 s1 lx ly p0 p1 p2 p3) (tIy s0 s1 lx ly p0 p1 p2 p3) p8 p9 p10 p11 ux uy a lx ly b c sd g d sx sy f kg kd g0 g1 g2 g3 g4 g5) (⟨va_cnB 1 hts gX6_tellTravel_X5_roadX_n189 rfl rfl rfl (hw.2 (.methodLinkNest RX6 189 yX5_roadX "WheelSwing") (by decide +kernel)) (hts (.initialized RX5) (by decide +kernel)) (by decide +kernel) ⟨Nat.le_of_ble_eq_true rfl, Nat.le_of_ble_eq_true rfl⟩, hts (.instanceMethod yX5_roadX) (by decide +kernel), hts (.selects RX5 yX5_roadX yX5_roadX) (by decide +kernel)⟩) ⟨kB_blind, va_recv hw.1 hq13 (ci := 4) (q0 := 0) rfl rfl, kB_go hq13 hw⟩ rfl rfl hl.1 rfl (lv_room (Nat.le_of_ble_eq_true rfl)) dX6_tellTravel_72 ⟨Nat.le_of_ble_eq_true rfl, Nat.le_of_ble_eq_true rfl⟩) hS (fun q _ h => h.elim) (fun q h => h.elim) (fun r14 u15 t H locs ht hvm hp16 hB hz1 hk1 hS => ?_)
      have hP := fr_keep hP hk1 fr_nA
      have hR := fr_rd hR0 hS hnr
      subst hp16
      refine lv_dstore_n (lv' := [(3, .double (tRx g d p0 p4 p5)), (0, .ref o), (1, .ref hg), (2, .int 9)]) hx hb dX6_tellTravel_75 rfl hl (by decide) rfl (fun ls hl => ?_)
      refine lv_aload_n hx hb dX6_tellTravel_76 rfl (lv_at hl 1 rfl) ?_
      refine va_get (D := D) (ci := 5) (v := .ref st) (C := RX6) (T := TX6) (N := 5) hx hb hts hinX6 hown hw.1 hR 0 rfl rfl 1 (by decide) (hts (.fieldLink RX6 18 "WheelSwing" "stand" "LWheelSwing$Stand;") (by decide +kernel)) (fun _ h9 => h9) rfl dX6_tellTravel_77 ?_
      refine lv_aload_n hx hb dX6_tellTravel_80 rfl (lv_at hl 2 rfl) ?_
      have hq17 : va_P D vwCl [(st, .inr (4, [.int s0, .int s1, .double p0, .double p1, .double p2, .double p3, .double p4, .double p5, .double (tIx s0 s1 lx ly p0 p1 p2 p3), .double (tIy s0 s1 lx ly p0 p1 p2 p3), .double p8, .double p9, .double p10, .double p11])), (hg, .inr (1, [.int ux, .int uy, .int a, .int lx, .int ly, .int b, .int c, .int sd, .int g, .int d, .int sx, .int sy, .int f]))] H := fr_cons (hP 0 _ rfl) (fr_cons (hR 1 _ rfl) (fr_nil))
      refine va_calld (va_runVN (As := [.ref hg]) (rest := []) ⟨hx, hb, hml, hown, hts⟩ (mX5_roadY l D cI cH st hg s0 s1 p0 p1 p2 p3 p4 p5 (tIx s0 s1 lx ly p0 p1 p2 p3) (tIy s0 s1 lx ly p0 p1 p2 p3) p8 p9 p10 p11 ux uy a lx ly b c sd g d sx sy f kg kd g0 g1 g2 g3 g4 g5) (⟨va_cnB 1 hts gX6_tellTravel_X5_roadY_n193 rfl rfl rfl (hw.2 (.methodLinkNest RX6 193 yX5_roadY "WheelSwing") (by decide +kernel)) (hts (.initialized RX5) (by decide +kernel)) (by decide +kernel) ⟨Nat.le_of_ble_eq_true rfl, Nat.le_of_ble_eq_true rfl⟩, hts (.instanceMethod yX5_roadY) (by decide +kernel), hts (.selects RX5 yX5_roadY yX5_roadY) (by decide +kernel)⟩) ⟨kB_blind, va_recv hw.1 hq17 (ci := 4) (q0 := 0) rfl rfl, kB_go hq17 hw⟩ rfl rfl hl.1 rfl (lv_room (Nat.le_of_ble_eq_true rfl)) dX6_tellTravel_81 ⟨Nat.le_of_ble_eq_true rfl, Nat.le_of_ble_eq_true rfl⟩) hS (fun q _ h => h.elim) (fun q h => h.elim) (fun r18 u19 t H locs ht hvm hp20 hB hz1 hk1 hS => ?_)
      have hP := fr_keep hP hk1 fr_nA
      have hR := fr_rd hR0 hS hnr
      subst hp20
      refine lv_dstore (lv' := [(5, .double (tRy g d p1 p4 p5)), (3, .double (tRx g d p0 p4 p5)), (0, .ref o), (1, .ref hg), (2, .int 9)]) hx hb dX6_tellTravel_84 hl (by decide) rfl (fun ls hl => ?_)
      refine lv_aload_n hx hb dX6_tellTravel_86 rfl (lv_at hl 2 rfl) ?_
      refine va_get (D := D) (ci := 5) (v := .ref st) (C := RX6) (T := TX6) (N := 5) hx hb hts hinX6 hown hw.1 hR 0 rfl rfl 1 (by decide) (hts (.fieldLink RX6 18 "WheelSwing" "stand" "LWheelSwing$Stand;") (by decide +kernel)) (fun _ h9 => h9) rfl dX6_tellTravel_87 ?_
      refine va_getN (host := "WheelSwing") (D := D) (ci := 4) (v := .double (tIx s0 s1 lx ly p0 p1 p2 p3)) (C := RX5) (T := TX5) (N := 14) hx hb hts hinX5 hown hw.1 hP 0 rfl rfl 8 (by decide) (va_Nw.use rfl (hw.2 (.fieldLinkNest RX6 208 "WheelSwing$Stand" "ix" "D" "WheelSwing") (by decide +kernel))) (fun _ h9 => h9) rfl dX6_tellTravel_90 ?_
      refine lv_dload_n hx hb dX6_tellTravel_93 rfl (lv_at hl 1 rfl) ?_
      have gw21 := gf_sub 690 1374 (gz_ix kU kV klx kly g0 g1 g2 g3 hn) (gz_rx kg kd g0 g4 g5) (Nat.le_of_ble_eq_true rfl) (Nat.le_of_ble_eq_true rfl) (Nat.le_of_ble_eq_true rfl) (Nat.le_of_ble_eq_true rfl) (Nat.le_of_ble_eq_true rfl)
      refine lv_dsub hx hb dX6_tellTravel_94 (gf_n64 gw21) ?_
      refine lv_topd (fun v22 ev22 => ?_)
      rw [← ev22] at gw21
      have fv22 : v22 = FP.dsub (tIx s0 s1 lx ly p0 p1 p2 p3) (tRx g d p0 p4 p5) := by rw [ev22]; try rfl
      clear ev22 gw21
      subst fv22
      refine lv_dconst0 hx hb dX6_tellTravel_95 ?_
      refine lv_dcmp hx hb dX6_tellTravel_96 ?_
      rw [fp_cv (gf_sub 690 1374 (gz_ix kU kV klx kly g0 g1 g2 g3 hn) (gz_rx kg kd g0 g4 g5) (Nat.le_of_ble_eq_true rfl) (Nat.le_of_ble_eq_true rfl) (Nat.le_of_ble_eq_true rfl) (Nat.le_of_ble_eq_true rfl) (Nat.le_of_ble_eq_true rfl)).1 gf_c0.1]
      refine lv_if_ne (tgt := 104) hx hb dX6_tellTravel_97 (by decide) (fun c23 => ?_) (fun c23 => ?_)
      · rw [fcv_eq] at c23
        have hix : fv (FP.dsub (tIx s0 s1 lx ly p0 p1 p2 p3) (tRx g d p0 p4 p5)) ≠ 0 := by have hq := c23; rw [fv_c0] at hq; exact hq
        refine lv_dload hx hb dX6_tellTravel_104 (lv_at hl 0 rfl) ?_
        refine lv_dconst0 hx hb dX6_tellTravel_106 ?_
        refine lv_dload_n hx hb dX6_tellTravel_107 rfl (lv_at hl 1 rfl) ?_
        have gw24 := gf_sub 826 1167 gf_c0 (gz_rx kg kd g0 g4 g5) (Nat.le_of_ble_eq_true rfl) (Nat.le_of_ble_eq_true rfl) (Nat.le_of_ble_eq_true rfl) (Nat.le_of_ble_eq_true rfl) (Nat.le_of_ble_eq_true rfl)
        refine lv_dsub hx hb dX6_tellTravel_108 (gf_n64 gw24) ?_
        refine lv_topd (fun v25 ev25 => ?_)
        rw [← ev25] at gw24
        refine lv_aload_n hx hb dX6_tellTravel_109 rfl (lv_at hl 2 rfl) ?_
        refine va_get (D := D) (ci := 5) (v := .ref st) (C := RX6) (T := TX6) (N := 5) hx hb hts hinX6 hown hw.1 hR 0 rfl rfl 1 (by decide) (hts (.fieldLink RX6 18 "WheelSwing" "stand" "LWheelSwing$Stand;") (by decide +kernel)) (fun _ h9 => h9) rfl dX6_tellTravel_110 ?_
        refine va_getN (host := "WheelSwing") (D := D) (ci := 4) (v := .double (tIy s0 s1 lx ly p0 p1 p2 p3)) (C := RX5) (T := TX5) (N := 14) hx hb hts hinX5 hown hw.1 hP 0 rfl rfl 9 (by decide) (va_Nw.use rfl (hw.2 (.fieldLinkNest RX6 211 "WheelSwing$Stand" "iy" "D" "WheelSwing") (by decide +kernel))) (fun _ h9 => h9) rfl dX6_tellTravel_113 ?_
        refine lv_dload hx hb dX6_tellTravel_116 (lv_at hl 0 rfl) ?_
        have gw26 := gf_sub 736 1373 (gz_iy kU kV klx kly g0 g1 g2 g3 hn) (gz_ry kg kd g1 g4 g5) (Nat.le_of_ble_eq_true rfl) (Nat.le_of_ble_eq_true rfl) (Nat.le_of_ble_eq_true rfl) (Nat.le_of_ble_eq_true rfl) (Nat.le_of_ble_eq_true rfl)
        refine lv_dsub hx hb dX6_tellTravel_118 (gf_n64 gw26) ?_
        refine lv_topd (fun v27 ev27 => ?_)
        rw [← ev27] at gw26
        have gw28 := gf_mul 488 1466 gw24 gw26 (Nat.le_of_ble_eq_true rfl) (Nat.le_of_ble_eq_true rfl) (Nat.le_of_ble_eq_true rfl)
        refine lv_dmul hx hb dX6_tellTravel_119 (gf_n64 gw28) ?_
        refine lv_topd (fun v29 ev29 => ?_)
        rw [← ev29] at gw28
        refine lv_aload_n hx hb dX6_tellTravel_120 rfl (lv_at hl 2 rfl) ?_
        refine va_get (D := D) (ci := 5) (v := .ref st) (C := RX6) (T := TX6) (N := 5) hx hb hts hinX6 hown hw.1 hR 0 rfl rfl 1 (by decide) (hts (.fieldLink RX6 18 "WheelSwing" "stand" "LWheelSwing$Stand;") (by decide +kernel)) (fun _ h9 => h9) rfl dX6_tellTravel_121 ?_
        refine va_getN (host := "WheelSwing") (D := D) (ci := 4) (v := .double (tIx s0 s1 lx ly p0 p1 p2 p3)) (C := RX5) (T := TX5) (N := 14) hx hb hts hinX5 hown hw.1 hP 0 rfl rfl 8 (by decide) (va_Nw.use rfl (hw.2 (.fieldLinkNest RX6 208 "WheelSwing$Stand" "ix" "D" "WheelSwing") (by decide +kernel))) (fun _ h9 => h9) rfl dX6_tellTravel_124 ?_
        refine lv_dload_n hx hb dX6_tellTravel_127 rfl (lv_at hl 1 rfl) ?_
        have gw30 := gf_sub 690 1374 (gz_ix kU kV klx kly g0 g1 g2 g3 hn) (gz_rx kg kd g0 g4 g5) (Nat.le_of_ble_eq_true rfl) (Nat.le_of_ble_eq_true rfl) (Nat.le_of_ble_eq_true rfl) (Nat.le_of_ble_eq_true rfl) (Nat.le_of_ble_eq_true rfl)
        refine lv_dsub hx hb dX6_tellTravel_128 (gf_n64 gw30) ?_
        refine lv_topd (fun v31 ev31 => ?_)
        rw [← ev31] at gw30
        have fv31 : v31 = FP.dsub (tIx s0 s1 lx ly p0 p1 p2 p3) (tRx g d p0 p4 p5) := by rw [ev31]; try rfl
        clear ev31 gw30
        subst fv31
        have gw32 := gf_div 136 1850 gw28 (gf_sub 690 1374 (gz_ix kU kV klx kly g0 g1 g2 g3 hn) (gz_rx kg kd g0 g4 g5) (Nat.le_of_ble_eq_true rfl) (Nat.le_of_ble_eq_true rfl) (Nat.le_of_ble_eq_true rfl) (Nat.le_of_ble_eq_true rfl) (Nat.le_of_ble_eq_true rfl)) hix (Nat.le_of_ble_eq_true rfl) (Nat.le_of_ble_eq_true rfl) (Nat.le_of_ble_eq_true rfl)
        refine lv_ddiv hx hb dX6_tellTravel_129 (gf_n64 gw32) ?_
        refine lv_topd (fun v33 ev33 => ?_)
        rw [← ev33] at gw32
        have gw34 := gf_add 136 1851 (gz_ry kg kd g1 g4 g5) gw32 (Nat.le_of_ble_eq_true rfl) (Nat.le_of_ble_eq_true rfl) (Nat.le_of_ble_eq_true rfl) (Nat.le_of_ble_eq_true rfl) (Nat.le_of_ble_eq_true rfl)
        refine lv_dadd hx hb dX6_tellTravel_130 (gf_n64 gw34) ?_
        refine lv_topd (fun v35 ev35 => ?_)
        rw [← ev35] at gw34
        have fv35 : v35 = tRoll (tRx g d p0 p4 p5) (tRy g d p1 p4 p5) (tIx s0 s1 lx ly p0 p1 p2 p3) (tIy s0 s1 lx ly p0 p1 p2 p3) := by rw [ev35, ev33, ev29, ev27, ev25]; try rfl
        clear ev35 gw34
        subst fv35
        refine va_calll (va_runSN (As := [.double (tRoll (tRx g d p0 p4 p5) (tRy g d p1 p4 p5) (tIx s0 s1 lx ly p0 p1 p2 p3) (tIy s0 s1 lx ly p0 p1 p2 p3))]) (rest := []) ⟨hx, hb, hml, hown, hts⟩ (mX1_bits l (tRoll (tRx g d p0 p4 p5) (tRy g d p1 p4 p5) (tIx s0 s1 lx ly p0 p1 p2 p3) (tIy s0 s1 lx ly p0 p1 p2 p3)) (bOk2_gr (gz_roll kU kV klx kly kg kd g0 g1 g2 g3 g4 g5 hn hix) (zp_add (gz_ry kg kd g1 g4 g5) (gf_div 136 1850 (gf_mul 488 1466 (gf_sub 826 1167 gf_c0 (gz_rx kg kd g0 g4 g5) (Nat.le_of_ble_eq_true rfl) (Nat.le_of_ble_eq_true rfl) (Nat.le_of_ble_eq_true rfl) (Nat.le_of_ble_eq_true rfl) (Nat.le_of_ble_eq_true rfl)) (gf_sub 736 1373 (gz_iy kU kV klx kly g0 g1 g2 g3 hn) (gz_ry kg kd g1 g4 g5) (Nat.le_of_ble_eq_true rfl) (Nat.le_of_ble_eq_true rfl) (Nat.le_of_ble_eq_true rfl) (Nat.le_of_ble_eq_true rfl) (Nat.le_of_ble_eq_true rfl)) (Nat.le_of_ble_eq_true rfl) (Nat.le_of_ble_eq_true rfl) (Nat.le_of_ble_eq_true rfl)) (gf_sub 690 1374 (gz_ix kU kV klx kly g0 g1 g2 g3 hn) (gz_rx kg kd g0 g4 g5) (Nat.le_of_ble_eq_true rfl) (Nat.le_of_ble_eq_true rfl) (Nat.le_of_ble_eq_true rfl) (Nat.le_of_ble_eq_true rfl) (Nat.le_of_ble_eq_true rfl)) hix (Nat.le_of_ble_eq_true rfl) (Nat.le_of_ble_eq_true rfl) (Nat.le_of_ble_eq_true rfl)) (Nat.le_of_ble_eq_true rfl) (Nat.le_of_ble_eq_true rfl) (zz_ry kg kd g1 g4 g5 z1)) (Nat.le_of_ble_eq_true rfl) (Nat.le_of_ble_eq_true rfl))) (⟨va_cnB 1 hts gX6_tellTravel_X1_bits_n143 rfl rfl rfl (hw.2 (.methodLinkNest RX6 143 yX1_bits "WheelSwing") (by decide +kernel)) (hts (.initialized RX1) (by decide +kernel)) (by decide +kernel) ⟨Nat.le_of_ble_eq_true rfl, Nat.le_of_ble_eq_true rfl⟩, hts (.static yX1_bits) (by decide +kernel), trivial⟩) ⟨tB_blind, tB_go⟩ rfl rfl hl.1 rfl (lv_room (Nat.le_of_ble_eq_true rfl)) dX6_tellTravel_131 ⟨Nat.le_of_ble_eq_true rfl, Nat.le_of_ble_eq_true rfl⟩) hS (fun q _ h => h.elim) (fun q h => h.elim) (fun r36 u37 t H locs ht hvm hp38 hB hz1 hk1 hS => ?_)
        have hP := fr_keep hP hk1 fr_nA
        have hR := fr_rd hR0 hS hnr
        subst hp38
        exact W.lret (v := UInt64.toInt64 (tRoll (tRx g d p0 p4 p5) (tRy g d p1 p4 p5) (tIx s0 s1 lx ly p0 p1 p2 p3) (tIy s0 s1 lx ly p0 p1 p2 p3))) hx hb hr (fun t ht hW => ⟨⟨UInt64.toInt64 (tRoll (tRx g d p0 p4 p5) (tRy g d p1 p4 p5) (tIx s0 s1 lx ly p0 p1 p2 p3) (tIy s0 s1 lx ly p0 p1 p2 p3)), [.int s0, .int s1, .double p0, .double p1, .double p2, .double p3, .double p4, .double p5, .double (tIx s0 s1 lx ly p0 p1 p2 p3), .double (tIy s0 s1 lx ly p0 p1 p2 p3), .double p8, .double p9, .double p10, .double p11], rfl, ⟨by have hq := c23; rw [fv_c0] at hq; unfold sTel2 sTell; simp [hn, hq], ⟨_, _, _, _, _, _, _, _, _, _, _, _, _, _, rfl⟩⟩, at_heap ht (hP 0 _ rfl)⟩, hS.F ht⟩) hS.2.2 dX6_tellTravel_134
      · rw [fcv_eq] at c23
        refine lv_ldc2 hx hb hown (hts (.constantLong RX6 100 (-1)) (by decide +kernel)) dX6_tellTravel_100 ?_
        exact W.lret (v := (-1)) hx hb hr (fun t ht hW => ⟨⟨(-1), [.int s0, .int s1, .double p0, .double p1, .double p2, .double p3, .double p4, .double p5, .double (tIx s0 s1 lx ly p0 p1 p2 p3), .double (tIy s0 s1 lx ly p0 p1 p2 p3), .double p8, .double p9, .double p10, .double p11], rfl, ⟨by have hq := c23; rw [fv_c0] at hq; unfold sTel2 sTell; simp [hn, hq], ⟨_, _, _, _, _, _, _, _, _, _, _, _, _, _, rfl⟩⟩, at_heap ht (hP 0 _ rfl)⟩, hS.F ht⟩) hS.2.2 dX6_tellTravel_103
    · have hP : va_P D vwCl [(st, .inr (4, [.int s0, .int s1, .double p0, .double p1, .double p2, .double p3, .double p4, .double p5, .double p6, .double p7, .double p8, .double p9, .double p10, .double p11]))] H := hP
      have hD : va_D (aE st) [(st, .inr (4, [.int s0, .int s1, .double p0, .double p1, .double p2, .double p3, .double p4, .double p5, .double p6, .double p7, .double p8, .double p9, .double p10, .double p11]))] := D_1 rfl
      refine lv_if_ne (tgt := 33) hx hb dX6_tellTravel_26 (by decide) (fun c40 => absurd c40 (by decide)) (fun _ => ?_)
      refine lv_ldc2 hx hb hown (hts (.constantLong RX6 100 (-1)) (by decide +kernel)) dX6_tellTravel_29 ?_
      exact W.lret (v := (-1)) hx hb hr (fun t ht hW => ⟨⟨(-1), [.int s0, .int s1, .double p0, .double p1, .double p2, .double p3, .double p4, .double p5, .double p6, .double p7, .double p8, .double p9, .double p10, .double p11], rfl, ⟨by unfold sTel2 sTell; simp [hn], ⟨_, _, _, _, _, _, _, _, _, _, _, _, _, _, rfl⟩⟩, at_heap ht (hP 0 _ rfl)⟩, hS.F ht⟩) hS.2.2 dX6_tellTravel_32
  · subst hwt
    refine lv_iload_n hx hb dX6_tellTravel_0 rfl (lv_at hl 2 rfl) ?_
    refine lv_bipush (v := 10) hx hb dX6_tellTravel_1 (by decide) ?_
    refine lv_icmp_ne (tgt := 18) hx hb dX6_tellTravel_3 (by decide) (fun c2 => absurd c2 (by decide)) (fun _ => ?_)
    refine lv_aload_n hx hb dX6_tellTravel_6 rfl (lv_at hl 0 rfl) ?_
    refine va_get (D := D) (ci := 5) (v := .ref st) (C := RX6) (T := TX6) (N := 5) hx hb hts hinX6 hown hw.1 hR 0 rfl rfl 1 (by decide) (hts (.fieldLink RX6 18 "WheelSwing" "stand" "LWheelSwing$Stand;") (by decide +kernel)) (fun _ h9 => h9) rfl dX6_tellTravel_7 ?_
    refine lv_aload_n hx hb dX6_tellTravel_10 rfl (lv_at hl 1 rfl) ?_
    have hq3 : va_P D vwCl [(st, .inr (4, [.int s0, .int s1, .double p0, .double p1, .double p2, .double p3, .double p4, .double p5, .double p6, .double p7, .double p8, .double p9, .double p10, .double p11])), (hg, .inr (1, [.int ux, .int uy, .int a, .int lx, .int ly, .int b, .int c, .int sd, .int g, .int d, .int sx, .int sy, .int f]))] s.heap := fr_cons (hP 0 _ rfl) (fr_cons (hR 1 _ rfl) (fr_nil))
    refine va_calld (va_runVN (As := [.ref hg]) (rest := []) ⟨hx, hb, hml, hown, hts⟩ (mX5_springLength l D cI cH st hg s0 s1 p0 p1 p2 p3 p4 p5 p6 p7 p8 p9 p10 p11 ux uy a lx ly b c sd g d sx sy f klx kly ksx ksy kf g0 g1) (⟨va_cnB 1 hts gX6_tellTravel_X5_springLength_n201 rfl rfl rfl (hw.2 (.methodLinkNest RX6 201 yX5_springLength "WheelSwing") (by decide +kernel)) (hts (.initialized RX5) (by decide +kernel)) (by decide +kernel) ⟨Nat.le_of_ble_eq_true rfl, Nat.le_of_ble_eq_true rfl⟩, hts (.instanceMethod yX5_springLength) (by decide +kernel), hts (.selects RX5 yX5_springLength yX5_springLength) (by decide +kernel)⟩) ⟨kB_blind, va_recv hw.1 hq3 (ci := 4) (q0 := 0) rfl rfl, kB_go hq3 hw⟩ rfl rfl hl.1 rfl (lv_room (Nat.le_of_ble_eq_true rfl)) dX6_tellTravel_11 ⟨Nat.le_of_ble_eq_true rfl, Nat.le_of_ble_eq_true rfl⟩) hS (fun q _ h => h.elim) (fun q h => h.elim) (fun r4 u5 t H locs ht hvm hp6 hB hz1 hk1 hS => ?_)
    have hP := fr_keep hP hk1 fr_nA
    have hR := fr_rd hR0 hS hnr
    subst hp6
    refine va_calll (va_runSN (As := [.double (tL lx ly sx sy f p0 p1)]) (rest := []) ⟨hx, hb, hml, hown, hts⟩ (mX1_bits l (tL lx ly sx sy f p0 p1) (bOk2_gr (gz_l klx kly ksx ksy kf g0 g1) (zz_l klx kly ksx ksy kf g0 g1) (Nat.le_of_ble_eq_true rfl) (Nat.le_of_ble_eq_true rfl))) (⟨va_cnB 1 hts gX6_tellTravel_X1_bits_n143 rfl rfl rfl (hw.2 (.methodLinkNest RX6 143 yX1_bits "WheelSwing") (by decide +kernel)) (hts (.initialized RX1) (by decide +kernel)) (by decide +kernel) ⟨Nat.le_of_ble_eq_true rfl, Nat.le_of_ble_eq_true rfl⟩, hts (.static yX1_bits) (by decide +kernel), trivial⟩) ⟨tB_blind, tB_go⟩ rfl rfl hl.1 rfl (lv_room (Nat.le_of_ble_eq_true rfl)) dX6_tellTravel_14 ⟨Nat.le_of_ble_eq_true rfl, Nat.le_of_ble_eq_true rfl⟩) hS (fun q _ h => h.elim) (fun q h => h.elim) (fun r7 u8 t H locs ht hvm hp9 hB hz1 hk1 hS => ?_)
    have hP := fr_keep hP hk1 fr_nA
    have hR := fr_rd hR0 hS hnr
    subst hp9
    exact W.lret (v := UInt64.toInt64 (tL lx ly sx sy f p0 p1)) hx hb hr (fun t ht hW => ⟨⟨UInt64.toInt64 (tL lx ly sx sy f p0 p1), [.int s0, .int s1, .double p0, .double p1, .double p2, .double p3, .double p4, .double p5, .double p6, .double p7, .double p8, .double p9, .double p10, .double p11], rfl, ⟨rfl, ⟨_, _, _, _, _, _, _, _, _, _, _, _, _, _, rfl⟩⟩, at_heap ht (hP 0 _ rfl)⟩, hS.F ht⟩) hS.2.2 dX6_tellTravel_17
noncomputable def sShare (ux uy a lx ly b c sx sy f y : Int32) : Int64 :=
  if bFree ux uy lx ly a b c (y - 1) && bFree ux uy lx ly a b c (y + 1) then (FP.ddiv (FP.dsub (tL lx ly sx sy f (tPx lx ly b (y - 1)) (FP.i2d (y - 1))) (tL lx ly sx sy f (tPx lx ly b (y + 1)) (FP.i2d (y + 1)))) 4611686018427387904).toInt64 else -1
set_option maxHeartbeats 4000000 in
set_option maxRecDepth 100000 in
theorem mX6_springShare (l : Launch) (D : va_G) (cI cH : ClassId) (o st hg ha ca bx rd : Nat) (s0 s1 : Int32) (p0 p1 p2 p3 p4 p5 p6 p7 p8 p9 p10 p11 : UInt64) (ux uy a lx ly b c sd g d sx sy f : Int32) (y : Int32)  (hne : hg ≠ st) (hno : o ≠ st) (hh1 : pB ux uy lx ly a b c (y - 1)) (hh2 : pB ux uy lx ly a b c (y + 1)) (klx : cB lx) (kly : cB ly) (ksx : cB sx) (ksy : cB sy) (kf : zB f) : Met l yX6_springShare wsX6_springShare ({ frames := 4, cells := 0, slots := 0, locals := 106 }) (va_Pc [.ref o, .ref hg, .int y] (kB D cI cH [(st, .inr (4, [.int s0, .int s1, .double p0, .double p1, .double p2, .double p3, .double p4, .double p5, .double p6, .double p7, .double p8, .double p9, .double p10, .double p11])), (o, .inr (5, [.ref ha, .ref st, .ref ca, .ref bx, .ref rd])), (hg, .inr (1, [.int ux, .int uy, .int a, .int lx, .int ly, .int b, .int c, .int sd, .int g, .int d, .int sx, .int sy, .int f]))])) (va_Ql (fun (r : Int64) (u : List Value) => r = sShare ux uy a lx ly b c sx sy f y ∧ isSt u) (fun u t => va_at D vwCl (st, .inr (4, u)) t.heap) (aE st)) 0 0 (aE st) := by
  refine Met.ofW (cc := cX6_springShare) (maxL := 5) (ret := (some .long)) (by decide) rfl ?_
  intro p e s m args below meth co s₁ B hml hv
  obtain ⟨rfl, hP0, hw⟩ := hv
  have hx := B.exec
  have hb := B.bytes
  have hr := B.returns
  have hts := atoms_spec (ws := wsX6_springShare) B.pre
  have hown : s.vm.findClass RX6 = some m.cls := findClass_of_methodNamed B.named
  have hlocks := B.notSynchronized
  have hinX2 : ∀ w ∈ wsX20, w ∈ wsX6_springShare := by decide +kernel
  have hinX5 : ∀ w ∈ wsX50, w ∈ wsX6_springShare := by decide +kernel
  have hinX6 : ∀ w ∈ wsX60, w ∈ wsX6_springShare := by decide +kernel
  have hS : va_S (aE st) s.heap s.heap [] := va_S.rf
  have hP : va_P D vwCl [(st, .inr (4, [.int s0, .int s1, .double p0, .double p1, .double p2, .double p3, .double p4, .double p5, .double p6, .double p7, .double p8, .double p9, .double p10, .double p11]))] s.heap := hP0.sub [0] rfl
  have hD : va_D (aE st) [(st, .inr (4, [.int s0, .int s1, .double p0, .double p1, .double p2, .double p3, .double p4, .double p5, .double p6, .double p7, .double p8, .double p9, .double p10, .double p11]))] := D_1 rfl
  have hR0 : va_P D vwCl [(o, .inr (5, [.ref ha, .ref st, .ref ca, .ref bx, .ref rd])), (hg, .inr (1, [.int ux, .int uy, .int a, .int lx, .int ly, .int b, .int c, .int sd, .int g, .int d, .int sx, .int sy, .int f]))] s.heap := hP0.sub [1, 2] rfl
  have hR := hR0
  have hnr : ∀ (k9 : Nat) (q : Nat × va_E), ([(o, .inr (5, [.ref ha, .ref st, .ref ca, .ref bx, .ref rd])), (hg, .inr (1, [.int ux, .int uy, .int a, .int lx, .int ly, .int b, .int c, .int sd, .int g, .int d, .int sx, .int sy, .int f]))] : va_W)[k9]? = some q → ¬ (aE st) q.1 := nn_1 hno (nn_1 hne nn_0)
  have hl := lv_entry ([.ref o, .ref hg, .int y]) (n := 5) (Nat.le_of_ble_eq_true rfl)
  rw [lg_entry_eq]
  generalize (lg_sl ([.ref o, .ref hg, .int y]) ++ List.replicate (5 - (lg_sl ([.ref o, .ref hg, .int y])).length) Slot.unset).toArray = ls at hl ⊢
  have hl : lv_has ls 5 [(0, .ref o), (1, .ref hg), (2, .int y)] := hl
  skip
  refine lv_aload_n hx hb dX6_springShare_0 rfl (lv_at hl 0 rfl) ?_
  refine va_get (D := D) (ci := 5) (v := .ref st) (C := RX6) (T := TX6) (N := 5) hx hb hts hinX6 hown hw.1 hR 0 rfl rfl 1 (by decide) (hts (.fieldLink RX6 18 "WheelSwing" "stand" "LWheelSwing$Stand;") (by decide +kernel)) (fun _ h9 => h9) rfl dX6_springShare_1 ?_
  refine lv_aload_n hx hb dX6_springShare_4 rfl (lv_at hl 1 rfl) ?_
  refine lv_aload_n hx hb dX6_springShare_5 rfl (lv_at hl 1 rfl) ?_
  refine va_getN (host := "WheelSwing") (D := D) (ci := 1) (v := .int ux) (C := RX2) (T := TX2) (N := 13) hx hb hts hinX2 hown hw.1 hR 1 rfl rfl 0 (by decide) (va_Nw.use rfl (hw.2 (.fieldLinkNest RX6 89 "WheelSwing$Hanging" "ux" "I" "WheelSwing") (by decide +kernel))) (fun _ h9 => h9) rfl dX6_springShare_6 ?_
  refine lv_aload_n hx hb dX6_springShare_9 rfl (lv_at hl 1 rfl) ?_
  refine va_getN (host := "WheelSwing") (D := D) (ci := 1) (v := .int uy) (C := RX2) (T := TX2) (N := 13) hx hb hts hinX2 hown hw.1 hR 1 rfl rfl 1 (by decide) (va_Nw.use rfl (hw.2 (.fieldLinkNest RX6 93 "WheelSwing$Hanging" "uy" "I" "WheelSwing") (by decide +kernel))) (fun _ h9 => h9) rfl dX6_springShare_10 ?_
  refine lv_iload_n hx hb dX6_springShare_13 rfl (lv_at hl 2 rfl) ?_
  refine lv_iconst (v := 1) hx hb dX6_springShare_14 (by decide) ?_
  refine lv_isub hx hb dX6_springShare_15 ?_
  have hq1 : va_P D vwCl [(st, .inr (4, [.int s0, .int s1, .double p0, .double p1, .double p2, .double p3, .double p4, .double p5, .double p6, .double p7, .double p8, .double p9, .double p10, .double p11])), (hg, .inr (1, [.int ux, .int uy, .int a, .int lx, .int ly, .int b, .int c, .int sd, .int g, .int d, .int sx, .int sy, .int f]))] s.heap := fr_cons (hP 0 _ rfl) (fr_cons (hR 1 _ rfl) (fr_nil))
  refine va_calli (va_runVN (As := [.ref hg, .int ux, .int uy, .int (y - 1)]) (rest := []) ⟨hx, hb, hml, hown, hts⟩ (mX5_reach l D cI cH st hg s0 s1 p0 p1 p2 p3 p4 p5 p6 p7 p8 p9 p10 p11 ux uy a lx ly b c sd g d sx sy f ux uy (y - 1) hne hh1) (⟨va_cnB 4 hts gX6_springShare_X5_reach_n96 rfl rfl rfl (hw.2 (.methodLinkNest RX6 96 yX5_reach "WheelSwing") (by decide +kernel)) (hts (.initialized RX5) (by decide +kernel)) (by decide +kernel) ⟨Nat.le_of_ble_eq_true rfl, Nat.le_of_ble_eq_true rfl⟩, hts (.instanceMethod yX5_reach) (by decide +kernel), hts (.selects RX5 yX5_reach yX5_reach) (by decide +kernel)⟩) ⟨kB_blind, va_recv hw.1 hq1 (ci := 4) (q0 := 0) rfl rfl, kB_go hq1 hw⟩ rfl rfl hl.1 rfl (lv_room (Nat.le_of_ble_eq_true rfl)) dX6_springShare_16 ⟨Nat.le_of_ble_eq_true rfl, Nat.le_of_ble_eq_true rfl⟩) hS (fun q _ h => h) (fun q h => h) (fun r2 u3 t H locs ht hvm hp4 hB hz1 hk1 hS => ?_)
  have hB : va_at D vwCl (st, .inr (4, u3)) t.heap := hB
  rw [ht] at hB
  have hP := fr_one hB
  have hR := fr_rd hR0 hS hnr
  rcases hp4 with ⟨rfl, hf1, rfl⟩ | ⟨rfl, hnf1, j5, j6, j7, j8, j9, j10, j11, j12, j13, j14, j15, j16, j17, j18, rfl⟩
  · have h01 := hf1.1
    have he1 := hf1.2.1
    have hk1 := hf1.2.2
    have hP : va_P D vwCl [(st, .inr (4, [.int ux, .int uy, .double (tPx lx ly b (y - 1)), .double (FP.i2d (y - 1)), .double p2, .double p3, .double p4, .double p5, .double p6, .double p7, .double (tDx ux lx ly b (y - 1)), .double (tDy uy (y - 1)), .double (tM ux uy lx ly a b c (y - 1)), .double (tK ux uy lx ly a b c (y - 1))]))] H := hP
    have hD : va_D (aE st) [(st, .inr (4, [.int ux, .int uy, .double (tPx lx ly b (y - 1)), .double (FP.i2d (y - 1)), .double p2, .double p3, .double p4, .double p5, .double p6, .double p7, .double (tDx ux lx ly b (y - 1)), .double (tDy uy (y - 1)), .double (tM ux uy lx ly a b c (y - 1)), .double (tK ux uy lx ly a b c (y - 1))]))] := D_1 rfl
    refine lv_if_ne (tgt := 26) hx hb dX6_springShare_19 (by decide) (fun _ => ?_) (fun c20 => absurd c20 (by decide))
    refine lv_aload_n hx hb dX6_springShare_26 rfl (lv_at hl 0 rfl) ?_
    refine va_get (D := D) (ci := 5) (v := .ref st) (C := RX6) (T := TX6) (N := 5) hx hb hts hinX6 hown hw.1 hR 0 rfl rfl 1 (by decide) (hts (.fieldLink RX6 18 "WheelSwing" "stand" "LWheelSwing$Stand;") (by decide +kernel)) (fun _ h9 => h9) rfl dX6_springShare_27 ?_
    refine lv_aload_n hx hb dX6_springShare_30 rfl (lv_at hl 1 rfl) ?_
    have hq21 : va_P D vwCl [(st, .inr (4, [.int ux, .int uy, .double (tPx lx ly b (y - 1)), .double (FP.i2d (y - 1)), .double p2, .double p3, .double p4, .double p5, .double p6, .double p7, .double (tDx ux lx ly b (y - 1)), .double (tDy uy (y - 1)), .double (tM ux uy lx ly a b c (y - 1)), .double (tK ux uy lx ly a b c (y - 1))])), (hg, .inr (1, [.int ux, .int uy, .int a, .int lx, .int ly, .int b, .int c, .int sd, .int g, .int d, .int sx, .int sy, .int f]))] H := fr_cons (hP 0 _ rfl) (fr_cons (hR 1 _ rfl) (fr_nil))
    refine va_calld (va_runVN (As := [.ref hg]) (rest := []) ⟨hx, hb, hml, hown, hts⟩ (mX5_springLength l D cI cH st hg ux uy (tPx lx ly b (y - 1)) (FP.i2d (y - 1)) p2 p3 p4 p5 p6 p7 (tDx ux lx ly b (y - 1)) (tDy uy (y - 1)) (tM ux uy lx ly a b c (y - 1)) (tK ux uy lx ly a b c (y - 1)) ux uy a lx ly b c sd g d sx sy f klx kly ksx ksy kf (gz_px hh1 h01) (gf_i2d 10 (yB_k hh1.2.2.2.2.2.2.2))) (⟨va_cnB 1 hts gX6_springShare_X5_springLength_n201 rfl rfl rfl (hw.2 (.methodLinkNest RX6 201 yX5_springLength "WheelSwing") (by decide +kernel)) (hts (.initialized RX5) (by decide +kernel)) (by decide +kernel) ⟨Nat.le_of_ble_eq_true rfl, Nat.le_of_ble_eq_true rfl⟩, hts (.instanceMethod yX5_springLength) (by decide +kernel), hts (.selects RX5 yX5_springLength yX5_springLength) (by decide +kernel)⟩) ⟨kB_blind, va_recv hw.1 hq21 (ci := 4) (q0 := 0) rfl rfl, kB_go hq21 hw⟩ rfl rfl hl.1 rfl (lv_room (Nat.le_of_ble_eq_true rfl)) dX6_springShare_31 ⟨Nat.le_of_ble_eq_true rfl, Nat.le_of_ble_eq_true rfl⟩) hS (fun q _ h => h.elim) (fun q h => h.elim) (fun r22 u23 t H locs ht hvm hp24 hB hz1 hk1 hS => ?_)
    have hP := fr_keep hP hk1 fr_nA
    have hR := fr_rd hR0 hS hnr
    subst hp24
    refine lv_dstore_n (lv' := [(3, .double (tL lx ly sx sy f (tPx lx ly b (y - 1)) (FP.i2d (y - 1)))), (0, .ref o), (1, .ref hg), (2, .int y)]) hx hb dX6_springShare_34 rfl hl (by decide) rfl (fun ls hl => ?_)
    refine lv_aload_n hx hb dX6_springShare_35 rfl (lv_at hl 1 rfl) ?_
    refine va_get (D := D) (ci := 5) (v := .ref st) (C := RX6) (T := TX6) (N := 5) hx hb hts hinX6 hown hw.1 hR 0 rfl rfl 1 (by decide) (hts (.fieldLink RX6 18 "WheelSwing" "stand" "LWheelSwing$Stand;") (by decide +kernel)) (fun _ h9 => h9) rfl dX6_springShare_36 ?_
    refine lv_aload_n hx hb dX6_springShare_39 rfl (lv_at hl 2 rfl) ?_
    refine lv_aload_n hx hb dX6_springShare_40 rfl (lv_at hl 2 rfl) ?_
    refine va_getN (host := "WheelSwing") (D := D) (ci := 1) (v := .int ux) (C := RX2) (T := TX2) (N := 13) hx hb hts hinX2 hown hw.1 hR 1 rfl rfl 0 (by decide) (va_Nw.use rfl (hw.2 (.fieldLinkNest RX6 89 "WheelSwing$Hanging" "ux" "I" "WheelSwing") (by decide +kernel))) (fun _ h9 => h9) rfl dX6_springShare_41 ?_
    refine lv_aload_n hx hb dX6_springShare_44 rfl (lv_at hl 2 rfl) ?_
    refine va_getN (host := "WheelSwing") (D := D) (ci := 1) (v := .int uy) (C := RX2) (T := TX2) (N := 13) hx hb hts hinX2 hown hw.1 hR 1 rfl rfl 1 (by decide) (va_Nw.use rfl (hw.2 (.fieldLinkNest RX6 93 "WheelSwing$Hanging" "uy" "I" "WheelSwing") (by decide +kernel))) (fun _ h9 => h9) rfl dX6_springShare_45 ?_
    refine lv_iload_n hx hb dX6_springShare_48 rfl (lv_at hl 3 rfl) ?_
    refine lv_iconst (v := 1) hx hb dX6_springShare_49 (by decide) ?_
    refine lv_iadd hx hb dX6_springShare_50 ?_
    have hq25 : va_P D vwCl [(st, .inr (4, [.int ux, .int uy, .double (tPx lx ly b (y - 1)), .double (FP.i2d (y - 1)), .double p2, .double p3, .double p4, .double p5, .double p6, .double p7, .double (tDx ux lx ly b (y - 1)), .double (tDy uy (y - 1)), .double (tM ux uy lx ly a b c (y - 1)), .double (tK ux uy lx ly a b c (y - 1))])), (hg, .inr (1, [.int ux, .int uy, .int a, .int lx, .int ly, .int b, .int c, .int sd, .int g, .int d, .int sx, .int sy, .int f]))] H := fr_cons (hP 0 _ rfl) (fr_cons (hR 1 _ rfl) (fr_nil))
    refine va_calli (va_runVN (As := [.ref hg, .int ux, .int uy, .int (y + 1)]) (rest := []) ⟨hx, hb, hml, hown, hts⟩ (mX5_reach l D cI cH st hg ux uy (tPx lx ly b (y - 1)) (FP.i2d (y - 1)) p2 p3 p4 p5 p6 p7 (tDx ux lx ly b (y - 1)) (tDy uy (y - 1)) (tM ux uy lx ly a b c (y - 1)) (tK ux uy lx ly a b c (y - 1)) ux uy a lx ly b c sd g d sx sy f ux uy (y + 1) hne hh2) (⟨va_cnB 4 hts gX6_springShare_X5_reach_n96 rfl rfl rfl (hw.2 (.methodLinkNest RX6 96 yX5_reach "WheelSwing") (by decide +kernel)) (hts (.initialized RX5) (by decide +kernel)) (by decide +kernel) ⟨Nat.le_of_ble_eq_true rfl, Nat.le_of_ble_eq_true rfl⟩, hts (.instanceMethod yX5_reach) (by decide +kernel), hts (.selects RX5 yX5_reach yX5_reach) (by decide +kernel)⟩) ⟨kB_blind, va_recv hw.1 hq25 (ci := 4) (q0 := 0) rfl rfl, kB_go hq25 hw⟩ rfl rfl hl.1 rfl (lv_room (Nat.le_of_ble_eq_true rfl)) dX6_springShare_51 ⟨Nat.le_of_ble_eq_true rfl, Nat.le_of_ble_eq_true rfl⟩) hS (fun q _ h => h) (fun q h => h) (fun r26 u27 t H locs ht hvm hp28 hB hz1 hk1 hS => ?_)
    have hB : va_at D vwCl (st, .inr (4, u27)) t.heap := hB
    rw [ht] at hB
    have hP := fr_one hB
    have hR := fr_rd hR0 hS hnr
    rcases hp28 with ⟨rfl, hf2, rfl⟩ | ⟨rfl, hnf2, j29, j30, j31, j32, j33, j34, j35, j36, j37, j38, j39, j40, j41, j42, rfl⟩
    · have h02 := hf2.1
      have he2 := hf2.2.1
      have hk2 := hf2.2.2
      have hP : va_P D vwCl [(st, .inr (4, [.int ux, .int uy, .double (tPx lx ly b (y + 1)), .double (FP.i2d (y + 1)), .double p2, .double p3, .double p4, .double p5, .double p6, .double p7, .double (tDx ux lx ly b (y + 1)), .double (tDy uy (y + 1)), .double (tM ux uy lx ly a b c (y + 1)), .double (tK ux uy lx ly a b c (y + 1))]))] H := hP
      have hD : va_D (aE st) [(st, .inr (4, [.int ux, .int uy, .double (tPx lx ly b (y + 1)), .double (FP.i2d (y + 1)), .double p2, .double p3, .double p4, .double p5, .double p6, .double p7, .double (tDx ux lx ly b (y + 1)), .double (tDy uy (y + 1)), .double (tM ux uy lx ly a b c (y + 1)), .double (tK ux uy lx ly a b c (y + 1))]))] := D_1 rfl
      refine lv_if_ne (tgt := 61) hx hb dX6_springShare_54 (by decide) (fun _ => ?_) (fun c44 => absurd c44 (by decide))
      refine lv_dload_n hx hb dX6_springShare_61 rfl (lv_at hl 0 rfl) ?_
      refine lv_aload_n hx hb dX6_springShare_62 rfl (lv_at hl 1 rfl) ?_
      refine va_get (D := D) (ci := 5) (v := .ref st) (C := RX6) (T := TX6) (N := 5) hx hb hts hinX6 hown hw.1 hR 0 rfl rfl 1 (by decide) (hts (.fieldLink RX6 18 "WheelSwing" "stand" "LWheelSwing$Stand;") (by decide +kernel)) (fun _ h9 => h9) rfl dX6_springShare_63 ?_
      refine lv_aload_n hx hb dX6_springShare_66 rfl (lv_at hl 2 rfl) ?_
      have hq45 : va_P D vwCl [(st, .inr (4, [.int ux, .int uy, .double (tPx lx ly b (y + 1)), .double (FP.i2d (y + 1)), .double p2, .double p3, .double p4, .double p5, .double p6, .double p7, .double (tDx ux lx ly b (y + 1)), .double (tDy uy (y + 1)), .double (tM ux uy lx ly a b c (y + 1)), .double (tK ux uy lx ly a b c (y + 1))])), (hg, .inr (1, [.int ux, .int uy, .int a, .int lx, .int ly, .int b, .int c, .int sd, .int g, .int d, .int sx, .int sy, .int f]))] H := fr_cons (hP 0 _ rfl) (fr_cons (hR 1 _ rfl) (fr_nil))
      refine va_calld (va_runVN (As := [.ref hg]) (rest := [.double (tL lx ly sx sy f (tPx lx ly b (y - 1)) (FP.i2d (y - 1)))]) ⟨hx, hb, hml, hown, hts⟩ (mX5_springLength l D cI cH st hg ux uy (tPx lx ly b (y + 1)) (FP.i2d (y + 1)) p2 p3 p4 p5 p6 p7 (tDx ux lx ly b (y + 1)) (tDy uy (y + 1)) (tM ux uy lx ly a b c (y + 1)) (tK ux uy lx ly a b c (y + 1)) ux uy a lx ly b c sd g d sx sy f klx kly ksx ksy kf (gz_px hh2 h02) (gf_i2d 10 (yB_k hh2.2.2.2.2.2.2.2))) (⟨va_cnB 1 hts gX6_springShare_X5_springLength_n201 rfl rfl rfl (hw.2 (.methodLinkNest RX6 201 yX5_springLength "WheelSwing") (by decide +kernel)) (hts (.initialized RX5) (by decide +kernel)) (by decide +kernel) ⟨Nat.le_of_ble_eq_true rfl, Nat.le_of_ble_eq_true rfl⟩, hts (.instanceMethod yX5_springLength) (by decide +kernel), hts (.selects RX5 yX5_springLength yX5_springLength) (by decide +kernel)⟩) ⟨kB_blind, va_recv hw.1 hq45 (ci := 4) (q0 := 0) rfl rfl, kB_go hq45 hw⟩ rfl rfl hl.1 rfl (lv_room (Nat.le_of_ble_eq_true rfl)) dX6_springShare_67 ⟨Nat.le_of_ble_eq_true rfl, Nat.le_of_ble_eq_true rfl⟩) hS (fun q _ h => h.elim) (fun q h => h.elim) (fun r46 u47 t H locs ht hvm hp48 hB hz1 hk1 hS => ?_)
      have hP := fr_keep hP hk1 fr_nA
      have hR := fr_rd hR0 hS hnr
      subst hp48
      have gw49 := gf_sub 906 1099 (gz_l klx kly ksx ksy kf (gz_px hh1 h01) (gf_i2d 10 (yB_k hh1.2.2.2.2.2.2.2))) (gz_l klx kly ksx ksy kf (gz_px hh2 h02) (gf_i2d 10 (yB_k hh2.2.2.2.2.2.2.2))) (Nat.le_of_ble_eq_true rfl) (Nat.le_of_ble_eq_true rfl) (Nat.le_of_ble_eq_true rfl) (Nat.le_of_ble_eq_true rfl) (Nat.le_of_ble_eq_true rfl)
      refine lv_dsub hx hb dX6_springShare_70 (gf_n64 gw49) ?_
      refine lv_topd (fun v50 ev50 => ?_)
      rw [← ev50] at gw49
      have fv50 : v50 = FP.dsub (tL lx ly sx sy f (tPx lx ly b (y - 1)) (FP.i2d (y - 1))) (tL lx ly sx sy f (tPx lx ly b (y + 1)) (FP.i2d (y + 1))) := by rw [ev50]; try rfl
      clear ev50 gw49
      subst fv50
      refine lv_ldc2d hx hb hown (hts (.constantDouble RX6 214 (4611686018427387904)) (by decide +kernel)) dX6_springShare_71 ?_
      have gw51 := gf_div 853 1098 (gf_sub 906 1099 (gz_l klx kly ksx ksy kf (gz_px hh1 h01) (gf_i2d 10 (yB_k hh1.2.2.2.2.2.2.2))) (gz_l klx kly ksx ksy kf (gz_px hh2 h02) (gf_i2d 10 (yB_k hh2.2.2.2.2.2.2.2))) (Nat.le_of_ble_eq_true rfl) (Nat.le_of_ble_eq_true rfl) (Nat.le_of_ble_eq_true rfl) (Nat.le_of_ble_eq_true rfl) (Nat.le_of_ble_eq_true rfl)) gf_2 ne_2 (Nat.le_of_ble_eq_true rfl) (Nat.le_of_ble_eq_true rfl) (Nat.le_of_ble_eq_true rfl)
      refine lv_ddiv hx hb dX6_springShare_74 (gf_n64 gw51) ?_
      refine lv_topd (fun v52 ev52 => ?_)
      rw [← ev52] at gw51
      have fv52 : v52 = FP.ddiv (FP.dsub (tL lx ly sx sy f (tPx lx ly b (y - 1)) (FP.i2d (y - 1))) (tL lx ly sx sy f (tPx lx ly b (y + 1)) (FP.i2d (y + 1)))) 4611686018427387904 := by rw [ev52]; try rfl
      clear ev52 gw51
      subst fv52
      refine va_calll (va_runSN (As := [.double (FP.ddiv (FP.dsub (tL lx ly sx sy f (tPx lx ly b (y - 1)) (FP.i2d (y - 1))) (tL lx ly sx sy f (tPx lx ly b (y + 1)) (FP.i2d (y + 1)))) 4611686018427387904)]) (rest := []) ⟨hx, hb, hml, hown, hts⟩ (mX1_bits l (FP.ddiv (FP.dsub (tL lx ly sx sy f (tPx lx ly b (y - 1)) (FP.i2d (y - 1))) (tL lx ly sx sy f (tPx lx ly b (y + 1)) (FP.i2d (y + 1)))) 4611686018427387904) (bOk2_gr (gf_div 853 1098 (gf_sub 906 1099 (gz_l klx kly ksx ksy kf (gz_px hh1 h01) (gf_i2d 10 (yB_k hh1.2.2.2.2.2.2.2))) (gz_l klx kly ksx ksy kf (gz_px hh2 h02) (gf_i2d 10 (yB_k hh2.2.2.2.2.2.2.2))) (Nat.le_of_ble_eq_true rfl) (Nat.le_of_ble_eq_true rfl) (Nat.le_of_ble_eq_true rfl) (Nat.le_of_ble_eq_true rfl) (Nat.le_of_ble_eq_true rfl)) gf_2 ne_2 (Nat.le_of_ble_eq_true rfl) (Nat.le_of_ble_eq_true rfl) (Nat.le_of_ble_eq_true rfl)) (zp_div (gf_sub 906 1099 (gz_l klx kly ksx ksy kf (gz_px hh1 h01) (gf_i2d 10 (yB_k hh1.2.2.2.2.2.2.2))) (gz_l klx kly ksx ksy kf (gz_px hh2 h02) (gf_i2d 10 (yB_k hh2.2.2.2.2.2.2.2))) (Nat.le_of_ble_eq_true rfl) (Nat.le_of_ble_eq_true rfl) (Nat.le_of_ble_eq_true rfl) (Nat.le_of_ble_eq_true rfl) (Nat.le_of_ble_eq_true rfl)) gf_2 (by rw [fv_2]; exact Int.natCast_pos.mpr (Nat.two_pow_pos _)) (Nat.le_of_ble_eq_true rfl) (by omega) (zp_sub (gz_l klx kly ksx ksy kf (gz_px hh1 h01) (gf_i2d 10 (yB_k hh1.2.2.2.2.2.2.2))) (gz_l klx kly ksx ksy kf (gz_px hh2 h02) (gf_i2d 10 (yB_k hh2.2.2.2.2.2.2.2))) (Nat.le_of_ble_eq_true rfl) (Nat.le_of_ble_eq_true rfl) (zz_l klx kly ksx ksy kf (gz_px hh1 h01) (gf_i2d 10 (yB_k hh1.2.2.2.2.2.2.2))))) (Nat.le_of_ble_eq_true rfl) (Nat.le_of_ble_eq_true rfl))) (⟨va_cnB 1 hts gX6_springShare_X1_bits_n143 rfl rfl rfl (hw.2 (.methodLinkNest RX6 143 yX1_bits "WheelSwing") (by decide +kernel)) (hts (.initialized RX1) (by decide +kernel)) (by decide +kernel) ⟨Nat.le_of_ble_eq_true rfl, Nat.le_of_ble_eq_true rfl⟩, hts (.static yX1_bits) (by decide +kernel), trivial⟩) ⟨tB_blind, tB_go⟩ rfl rfl hl.1 rfl (lv_room (Nat.le_of_ble_eq_true rfl)) dX6_springShare_75 ⟨Nat.le_of_ble_eq_true rfl, Nat.le_of_ble_eq_true rfl⟩) hS (fun q _ h => h.elim) (fun q h => h.elim) (fun r53 u54 t H locs ht hvm hp55 hB hz1 hk1 hS => ?_)
      have hP := fr_keep hP hk1 fr_nA
      have hR := fr_rd hR0 hS hnr
      subst hp55
      exact W.lret (v := UInt64.toInt64 (FP.ddiv (FP.dsub (tL lx ly sx sy f (tPx lx ly b (y - 1)) (FP.i2d (y - 1))) (tL lx ly sx sy f (tPx lx ly b (y + 1)) (FP.i2d (y + 1)))) 4611686018427387904)) hx hb hr (fun t ht hW => ⟨⟨UInt64.toInt64 (FP.ddiv (FP.dsub (tL lx ly sx sy f (tPx lx ly b (y - 1)) (FP.i2d (y - 1))) (tL lx ly sx sy f (tPx lx ly b (y + 1)) (FP.i2d (y + 1)))) 4611686018427387904), [.int ux, .int uy, .double (tPx lx ly b (y + 1)), .double (FP.i2d (y + 1)), .double p2, .double p3, .double p4, .double p5, .double p6, .double p7, .double (tDx ux lx ly b (y + 1)), .double (tDy uy (y + 1)), .double (tM ux uy lx ly a b c (y + 1)), .double (tK ux uy lx ly a b c (y + 1))], rfl, ⟨by unfold sShare; rw [bFree_t hf1, bFree_t hf2]; rfl, ⟨_, _, _, _, _, _, _, _, _, _, _, _, _, _, rfl⟩⟩, at_heap ht (hP 0 _ rfl)⟩, hS.F ht⟩) hS.2.2 dX6_springShare_78
    · have hP : va_P D vwCl [(st, .inr (4, [.int j29, .int j30, .double j31, .double j32, .double j33, .double j34, .double j35, .double j36, .double j37, .double j38, .double j39, .double j40, .double j41, .double j42]))] H := hP
      have hD : va_D (aE st) [(st, .inr (4, [.int j29, .int j30, .double j31, .double j32, .double j33, .double j34, .double j35, .double j36, .double j37, .double j38, .double j39, .double j40, .double j41, .double j42]))] := D_1 rfl
      refine lv_if_ne (tgt := 61) hx hb dX6_springShare_54 (by decide) (fun c57 => absurd c57 (by decide)) (fun _ => ?_)
      refine lv_ldc2 hx hb hown (hts (.constantLong RX6 100 (-1)) (by decide +kernel)) dX6_springShare_57 ?_
      exact W.lret (v := (-1)) hx hb hr (fun t ht hW => ⟨⟨(-1), [.int j29, .int j30, .double j31, .double j32, .double j33, .double j34, .double j35, .double j36, .double j37, .double j38, .double j39, .double j40, .double j41, .double j42], rfl, ⟨by unfold sShare; rw [bFree_t hf1, bFree_f hnf2]; rfl, ⟨_, _, _, _, _, _, _, _, _, _, _, _, _, _, rfl⟩⟩, at_heap ht (hP 0 _ rfl)⟩, hS.F ht⟩) hS.2.2 dX6_springShare_60
  · have hP : va_P D vwCl [(st, .inr (4, [.int j5, .int j6, .double j7, .double j8, .double j9, .double j10, .double j11, .double j12, .double j13, .double j14, .double j15, .double j16, .double j17, .double j18]))] H := hP
    have hD : va_D (aE st) [(st, .inr (4, [.int j5, .int j6, .double j7, .double j8, .double j9, .double j10, .double j11, .double j12, .double j13, .double j14, .double j15, .double j16, .double j17, .double j18]))] := D_1 rfl
    refine lv_if_ne (tgt := 26) hx hb dX6_springShare_19 (by decide) (fun c59 => absurd c59 (by decide)) (fun _ => ?_)
    refine lv_ldc2 hx hb hown (hts (.constantLong RX6 100 (-1)) (by decide +kernel)) dX6_springShare_22 ?_
    exact W.lret (v := (-1)) hx hb hr (fun t ht hW => ⟨⟨(-1), [.int j5, .int j6, .double j7, .double j8, .double j9, .double j10, .double j11, .double j12, .double j13, .double j14, .double j15, .double j16, .double j17, .double j18], rfl, ⟨by unfold sShare; rw [bFree_f hnf1]; rfl, ⟨_, _, _, _, _, _, _, _, _, _, _, _, _, _, rfl⟩⟩, at_heap ht (hP 0 _ rfl)⟩, hS.F ht⟩) hS.2.2 dX6_springShare_25
