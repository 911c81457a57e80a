/-! X6: how far a hanging is off; off, found -/
def rB (v : Int32) : Prop := -5000 ≤ v.toInt ∧ v.toInt ≤ 5000
theorem rB_k {v : Int32} (h : rB v) : v.toInt.natAbs ≤ 2 ^ 13 := by obtain ⟨h1, h2⟩ := h; omega
def tFar (vx vy : UInt64) (l : Int32) : UInt64 := FP.dsub (FP.dmul 4652007308841189376 (FP.ddiv vx vy)) (FP.i2d l)
noncomputable def oF (U V lx ly a b c sd : Int32) (f1 f2 : Nat → Int32) : Nat → Option UInt64
  | 0 => some FP.dconst0
  | n + 1 => match oF U V lx ly a b c sd f1 f2 n with
    | none => none
    | some s => if bFree U V lx ly a b c (f1 n) && decide (fv (tVy U V lx ly a b c sd (f1 n)) ≠ 0) then some (FP.dadd s (FP.dmul (tFar (tVx U V lx ly a b c sd (f1 n)) (tVy U V lx ly a b c sd (f1 n)) (f2 n)) (tFar (tVx U V lx ly a b c sd (f1 n)) (tVy U V lx ly a b c sd (f1 n)) (f2 n)))) else none
theorem oF_t {U V lx ly a b c sd : Int32} {f1 f2 : Nat → Int32} {n : Nat} {s : UInt64} (h : oF U V lx ly a b c sd f1 f2 n = some s) (h1 : tFree U V lx ly a b c (f1 n)) (h2 : fv (tVy U V lx ly a b c sd (f1 n)) ≠ 0) : oF U V lx ly a b c sd f1 f2 (n + 1) = some (FP.dadd s (FP.dmul (tFar (tVx U V lx ly a b c sd (f1 n)) (tVy U V lx ly a b c sd (f1 n)) (f2 n)) (tFar (tVx U V lx ly a b c sd (f1 n)) (tVy U V lx ly a b c sd (f1 n)) (f2 n)))) := by
  show (match oF U V lx ly a b c sd f1 f2 n with | none => none | some s => _) = _
  rw [h]
  show (if _ then _ else _) = _
  rw [bFree_t h1, decide_eq_true h2]
  rfl
theorem oF_f1 {U V lx ly a b c sd : Int32} {f1 f2 : Nat → Int32} {n : Nat} {s : UInt64} (h : oF U V lx ly a b c sd f1 f2 n = some s) (h1 : ¬ tFree U V lx ly a b c (f1 n)) : oF U V lx ly a b c sd f1 f2 (n + 1) = none := by
  show (match oF U V lx ly a b c sd f1 f2 n with | none => none | some s => _) = _
  rw [h]
  show (if _ then _ else _) = _
  rw [bFree_f h1]
  rfl
theorem oF_f2 {U V lx ly a b c sd : Int32} {f1 f2 : Nat → Int32} {n : Nat} {s : UInt64} (h : oF U V lx ly a b c sd f1 f2 n = some s) (h1 : fv (tVy U V lx ly a b c sd (f1 n)) = 0) : oF U V lx ly a b c sd f1 f2 (n + 1) = none := by
  show (match oF U V lx ly a b c sd f1 f2 n with | none => none | some s => _) = _
  rw [h]
  show (if _ then _ else _) = _
  rw [decide_eq_false (fun hc => hc h1), Bool.and_false]
  rfl
theorem oF_none {U V lx ly a b c sd : Int32} {f1 f2 : Nat → Int32} {j k : Nat} (h : oF U V lx ly a b c sd f1 f2 j = none) (hk : j ≤ k) : oF U V lx ly a b c sd f1 f2 k = none := by
  induction k with
  | zero => rw [show j = 0 by omega] at h; exact h
  | succ n ih =>
    rcases Nat.lt_or_ge n j with h1 | h1
    · rw [show j = n + 1 by omega] at h; exact h
    · have := ih h1
      show (match oF U V lx ly a b c sd f1 f2 n with | none => none | some s => _) = _
      rw [this]
noncomputable def sOff (U V lx ly a b c sd : Int32) (f1 f2 : Nat → Int32) (k : Nat) : Option UInt64 := if okP U V then oF U V lx ly a b c sd f1 f2 k else none
def offD : Option UInt64 → UInt64
  | none => 13830554455654793216
  | some s => s
theorem m1_fin : FP.Core.DFin 13830554455654793216 ∧ fv 13830554455654793216 < 0 := ⟨(FP.Core.fin_bits _).mpr (by decide +kernel), by decide +kernel⟩
theorem okP_c {x y : Int32} (h : okP x y = true) : cB x ∧ cB y := by
  unfold okP at h
  rw [Bool.and_eq_true] at h
  exact ⟨okC_c h.1, okC_c h.2⟩
/-- what an answer of howFarOff is: the number and its bounds -/
def offOk (r : UInt64) (o : Option UInt64) : Prop := r = offD o ∧ ∀ s, o = some s → fGr 322 1673 s ∧ 0 ≤ fv s ∧ zP s
theorem gz_far {vx vy : UInt64} {l : Int32} (g4 : fGr 826 1154 vx) (g5 : fGr 872 1153 vy) (hvy : fv vy ≠ 0) (kl : rB l) : fGr 698 1367 (tFar vx vy l) := (gf_sub 698 1367 (gf_mul 698 1366 gf_1000 (gf_div 695 1356 g4 g5 hvy (Nat.le_of_ble_eq_true rfl) (Nat.le_of_ble_eq_true rfl) (Nat.le_of_ble_eq_true rfl)) (Nat.le_of_ble_eq_true rfl) (Nat.le_of_ble_eq_true rfl) (Nat.le_of_ble_eq_true rfl)) (gf_i2d 13 (rB_k kl)) (Nat.le_of_ble_eq_true rfl) (Nat.le_of_ble_eq_true rfl) (Nat.le_of_ble_eq_true rfl) (Nat.le_of_ble_eq_true rfl) (Nat.le_of_ble_eq_true rfl))
set_option maxHeartbeats 4000000 in
set_option maxRecDepth 100000 in
theorem lpX6_far {p : Program} {l : Launch} {e : Env} {s : State} {m : MethodId} {args : Array Value} {below : List Frame} {meth : Method} {co : Code} {Q : State → Prop} (D : va_G) (cI cH : ClassId) (hx : p.tables.exec = Jvm.exec) (hb : co.code = cX6_howFarOff) (hml : co.maxLocals = 11) (hown : s.vm.findClass RX6 = some m.cls) (hts : ∀ w ∈ wsX6_howFarOff, w.before args s = true) (hw : wk D cI cH s) {o ha st ca bx rd hg : Nat} {ux uy a lx ly b c sd g d sx sy f : Int32} {k ht1 ln : Nat} {f1 f2 : Nat → Int32} {U V : Int32} (hno : o ≠ st) (hne : hg ≠ st) (hn1 : rd ≠ st) (hn2 : ht1 ≠ st) (hn3 : ln ≠ st) (hgb : hgB ux uy a lx ly b c sd g d sx sy f) (hk : k ≤ 12) (hrd : ∀ j, j < k → cB (f1 j) ∧ rB (f2 j)) (kU : cB U) (kV : cB V) (hR0 : va_P D vwCl [(o, .inr (5, [.ref ha, .ref st, .ref ca, .ref bx, .ref rd])), (rd, .inr (2, [.ref ht1, .ref ln, .int (nI k)])), (ht1, .inl (cI, 12, .inl f1)), (ln, .inl (cI, 12, .inl f2)), (hg, .inr (1, [.int ux, .int uy, .int a, .int lx, .int ly, .int b, .int c, .int sd, .int g, .int d, .int sx, .int sy, .int f]))] s.heap) (k1 : ∀ (H : Heap) (locs : List Loc) (ls : Array Slot) (s0 s1 : Int32) (p0 p1 p2 p3 p4 p5 p6 p7 p8 p9 p10 p11 : UInt64), va_S (aE st) s.heap H locs → va_P D vwCl [(st, .inr (4, [.int s0, .int s1, .double p0, .double p1, .double p2, .double p3, .double p4, .double p5, .double p6, .double p7, .double p8, .double p9, .double p10, .double p11]))] H → oF U V lx ly a b c sd f1 f2 k = none → W p l e ({ frames := 4, cells := 0, slots := 0, locals := 106 } : Room) s m args below meth co H locs 0 0 Q (F0 m 73 ls [])) (k2 : ∀ (H : Heap) (locs : List Loc) (ls : Array Slot) (s0 s1 : Int32) (p0 p1 p2 p3 p4 p5 p6 p7 p8 p9 p10 p11 : UInt64), va_S (aE st) s.heap H locs → va_P D vwCl [(st, .inr (4, [.int s0, .int s1, .double p0, .double p1, .double p2, .double p3, .double p4, .double p5, .double p6, .double p7, .double p8, .double p9, .double p10, .double p11]))] H → oF U V lx ly a b c sd f1 f2 k = none → W p l e ({ frames := 4, cells := 0, slots := 0, locals := 106 } : Room) s m args below meth co H locs 0 0 Q (F0 m 97 ls [])) (k3 : ∀ (H : Heap) (locs : List Loc) (ls : Array Slot) (sm : UInt64) (s0 s1 : Int32) (p0 p1 p2 p3 p4 p5 p6 p7 p8 p9 p10 p11 : UInt64), va_S (aE st) s.heap H locs → va_P D vwCl [(st, .inr (4, [.int s0, .int s1, .double p0, .double p1, .double p2, .double p3, .double p4, .double p5, .double p6, .double p7, .double p8, .double p9, .double p10, .double p11]))] H → oF U V lx ly a b c sd f1 f2 k = some sm → fGr 322 (1661 + k) sm → 0 ≤ fv sm → zP sm → lv_has ls 11 [(8, .int (nI k)), (6, .double sm), (5, .int V), (4, .int U), (1, .ref hg), (0, .ref o)] → W p l e ({ frames := 4, cells := 0, slots := 0, locals := 106 } : Room) s m args below meth co H locs 0 0 Q (F0 m 150 ls [])) : ∀ (n j : Nat) (sm : UInt64) (H : Heap) (locs : List Loc) (ls : Array Slot) (s0 s1 : Int32) (p0 p1 p2 p3 p4 p5 p6 p7 p8 p9 p10 p11 : UInt64), va_S (aE st) s.heap H locs → va_P D vwCl [(st, .inr (4, [.int s0, .int s1, .double p0, .double p1, .double p2, .double p3, .double p4, .double p5, .double p6, .double p7, .double p8, .double p9, .double p10, .double p11]))] H → j + n = k → oF U V lx ly a b c sd f1 f2 j = some sm → fGr 322 (1661 + j) sm → 0 ≤ fv sm → zP sm → lv_has ls 11 [(8, .int (nI j)), (6, .double sm), (5, .int V), (4, .int U), (1, .ref hg), (0, .ref o)] → W p l e ({ frames := 4, cells := 0, slots := 0, locals := 106 } : Room) s m args below meth co H locs 0 0 Q (F0 m 36 ls []) := by
  have hinX2 : ∀ w ∈ wsX20, w ∈ wsX6_howFarOff := by decide +kernel
  have hinX3 : ∀ w ∈ wsX30, w ∈ wsX6_howFarOff := by decide +kernel
  have hinX5 : ∀ w ∈ wsX50, w ∈ wsX6_howFarOff := by decide +kernel
  have hinX6 : ∀ w ∈ wsX60, w ∈ wsX6_howFarOff := by decide +kernel
  obtain ⟨kux, kuy, ka, klx, kly, kb, kc, hsd, kg, kd, ksx, ksy, kf⟩ := id hgb
  have hnr : ∀ (k9 : Nat) (q : Nat × va_E), ([(o, .inr (5, [.ref ha, .ref st, .ref ca, .ref bx, .ref rd])), (rd, .inr (2, [.ref ht1, .ref ln, .int (nI k)])), (ht1, .inl (cI, 12, .inl f1)), (ln, .inl (cI, 12, .inl f2)), (hg, .inr (1, [.int ux, .int uy, .int a, .int lx, .int ly, .int b, .int c, .int sd, .int g, .int d, .int sx, .int sy, .int f]))] : va_W)[k9]? = some q → ¬ (aE st) q.1 := nn_1 hno (nn_1 hn1 (nn_1 hn2 (nn_1 hn3 (nn_1 hne nn_0))))
  intro n
  induction n with
  | zero =>
    intro j sm H locs ls s0 s1 p0 p1 p2 p3 p4 p5 p6 p7 p8 p9 p10 p11 hS hP hj ho gs hs0 hzs hl
    have hjk : j = k := by omega
    subst hjk
    have hD : va_D (aE st) [(st, .inr (4, [.int s0, .int s1, .double p0, .double p1, .double p2, .double p3, .double p4, .double p5, .double p6, .double p7, .double p8, .double p9, .double p10, .double p11]))] := D_1 rfl
    have hR := fr_rd hR0 hS hnr
    refine lv_iload hx hb dX6_howFarOff_36 (lv_at hl 0 rfl) ?_
    refine lv_aload_n hx hb dX6_howFarOff_38 rfl (lv_at hl 5 rfl) ?_
    refine va_get (D := D) (ci := 5) (v := .ref rd) (C := RX6) (T := TX6) (N := 5) hx hb hts hinX6 hown hw.1 hR 0 rfl rfl 4 (by decide) (hts (.fieldLink RX6 39 "WheelSwing" "readings" "LWheelSwing$Readings;") (by decide +kernel)) (fun _ h9 => h9) rfl dX6_howFarOff_39 ?_
    refine va_getN (host := "WheelSwing") (D := D) (ci := 2) (v := .int (nI j)) (C := RX3) (T := TX3) (N := 3) hx hb hts hinX3 hown hw.1 hR 1 rfl rfl 2 (by decide) (va_Nw.use rfl (hw.2 (.fieldLinkNest RX6 136 "WheelSwing$Readings" "size" "I" "WheelSwing") (by decide +kernel))) (fun _ h9 => h9) rfl dX6_howFarOff_42 ?_
    refine lv_icmp_ge (tgt := 150) hx hb dX6_howFarOff_45 (by decide) (fun c1 => ?_) (fun c1 => ?_)
    · have iw2 := Int32.not_lt.mpr c1
      exact k3 H locs ls sm s0 s1 p0 p1 p2 p3 p4 p5 p6 p7 p8 p9 p10 p11 hS hP ho gs hs0 hzs (lv_sub hl [0, 1, 2, 3, 4, 5] rfl)
    · have iw3 := Int32.not_le.mp c1
      exact absurd (Int32.le_refl _) c1
  | succ n ih =>
    intro j sm H locs ls s0 s1 p0 p1 p2 p3 p4 p5 p6 p7 p8 p9 p10 p11 hS hP hj ho gs hs0 hzs hl
    have hD : va_D (aE st) [(st, .inr (4, [.int s0, .int s1, .double p0, .double p1, .double p2, .double p3, .double p4, .double p5, .double p6, .double p7, .double p8, .double p9, .double p10, .double p11]))] := D_1 rfl
    have hR := fr_rd hR0 hS hnr
    have hjl : j < k := by omega
    obtain ⟨hrc, hrb⟩ := hrd j hjl
    have hh : pB U V lx ly a b c (f1 j) := ⟨kU, kV, klx, kly, ka, kb, kc, (cB_y hrc).1⟩
    refine lv_iload hx hb dX6_howFarOff_36 (lv_at hl 0 rfl) ?_
    refine lv_aload_n hx hb dX6_howFarOff_38 rfl (lv_at hl 5 rfl) ?_
    refine va_get (D := D) (ci := 5) (v := .ref rd) (C := RX6) (T := TX6) (N := 5) hx hb hts hinX6 hown hw.1 hR 0 rfl rfl 4 (by decide) (hts (.fieldLink RX6 39 "WheelSwing" "readings" "LWheelSwing$Readings;") (by decide +kernel)) (fun _ h9 => h9) rfl dX6_howFarOff_39 ?_
    refine va_getN (host := "WheelSwing") (D := D) (ci := 2) (v := .int (nI k)) (C := RX3) (T := TX3) (N := 3) hx hb hts hinX3 hown hw.1 hR 1 rfl rfl 2 (by decide) (va_Nw.use rfl (hw.2 (.fieldLinkNest RX6 136 "WheelSwing$Readings" "size" "I" "WheelSwing") (by decide +kernel))) (fun _ h9 => h9) rfl dX6_howFarOff_42 ?_
    refine lv_icmp_ge (tgt := 150) hx hb dX6_howFarOff_45 (by decide) (fun c1 => ?_) (fun c1 => ?_)
    · have iw2 := Int32.not_lt.mpr c1
      exact absurd ((nI_leI (by omega) (by omega)).mp c1) (by omega)
    · have iw3 := Int32.not_le.mp c1
      refine lv_aload_n hx hb dX6_howFarOff_48 rfl (lv_at hl 5 rfl) ?_
      refine va_get (D := D) (ci := 5) (v := .ref st) (C := RX6) (T := TX6) (N := 5) hx hb hts hinX6 hown hw.1 hR 0 rfl rfl 1 (by decide) (hts (.fieldLink RX6 18 "WheelSwing" "stand" "LWheelSwing$Stand;") (by decide +kernel)) (fun _ h9 => h9) rfl dX6_howFarOff_49 ?_
      refine lv_aload_n hx hb dX6_howFarOff_52 rfl (lv_at hl 4 rfl) ?_
      refine lv_iload hx hb dX6_howFarOff_53 (lv_at hl 3 rfl) ?_
      refine lv_iload hx hb dX6_howFarOff_55 (lv_at hl 2 rfl) ?_
      refine lv_aload_n hx hb dX6_howFarOff_57 rfl (lv_at hl 5 rfl) ?_
      refine va_get (D := D) (ci := 5) (v := .ref rd) (C := RX6) (T := TX6) (N := 5) hx hb hts hinX6 hown hw.1 hR 0 rfl rfl 4 (by decide) (hts (.fieldLink RX6 39 "WheelSwing" "readings" "LWheelSwing$Readings;") (by decide +kernel)) (fun _ h9 => h9) rfl dX6_howFarOff_58 ?_
      refine va_getN (host := "WheelSwing") (D := D) (ci := 2) (v := .ref ht1) (C := RX3) (T := TX3) (N := 3) hx hb hts hinX3 hown hw.1 hR 1 rfl rfl 0 (by decide) (va_Nw.use rfl (hw.2 (.fieldLinkNest RX6 216 "WheelSwing$Readings" "heights" "[I" "WheelSwing") (by decide +kernel))) (fun _ h9 => h9) rfl dX6_howFarOff_61 ?_
      refine lv_iload hx hb dX6_howFarOff_64 (lv_at hl 0 rfl) ?_
      refine va_iald hx hb hw.1 hR 2 0 rfl rfl (ix_in hjl hk (by omega)) dX6_howFarOff_66 ?_
      rw [nI_clamp (n := j) (by omega)]
      have hq4 : va_P D vwCl [(st, .inr (4, [.int s0, .int s1, .double p0, .double p1, .double p2, .double p3, .double p4, .double p5, .double p6, .double p7, .double p8, .double p9, .double p10, .double p11])), (hg, .inr (1, [.int ux, .int uy, .int a, .int lx, .int ly, .int b, .int c, .int sd, .int g, .int d, .int sx, .int sy, .int f]))] H := fr_cons (hP 0 _ rfl) (fr_cons (hR 4 _ rfl) (fr_nil))
      refine va_calli (va_runVN (As := [.ref hg, .int U, .int V, .int (f1 j)]) (rest := []) ⟨hx, hb, hml, hown, hts⟩ (mX5_reach l D cI cH st hg s0 s1 p0 p1 p2 p3 p4 p5 p6 p7 p8 p9 p10 p11 ux uy a lx ly b c sd g d sx sy f U V (f1 j) hne hh) (⟨va_cnB 4 hts gX6_howFarOff_X5_reach_n96 rfl rfl rfl (hw.2 (.methodLinkNest RX6 96 yX5_reach "WheelSwing") (by decide +kernel)) (hts (.initialized RX5) (by decide +kernel)) (by decide +kernel) ⟨Nat.le_of_ble_eq_true rfl, Nat.le_of_ble_eq_true rfl⟩, hts (.instanceMethod yX5_reach) (by decide +kernel), hts (.selects RX5 yX5_reach yX5_reach) (by decide +kernel)⟩) ⟨kB_blind, va_recv hw.1 hq4 (ci := 4) (q0 := 0) rfl rfl, kB_go hq4 hw⟩ rfl rfl hl.1 rfl (lv_room (Nat.le_of_ble_eq_true rfl)) dX6_howFarOff_67 ⟨Nat.le_of_ble_eq_true rfl, Nat.le_of_ble_eq_true rfl⟩) hS (fun q _ h => h) (fun q h => h) (fun r5 u6 t H locs ht hvm hp7 hB hz1 hk1 hS => ?_)
      have hB : va_at D vwCl (st, .inr (4, u6)) t.heap := hB
      rw [ht] at hB
      have hP := fr_one hB
      have hR := fr_rd hR0 hS hnr
      rcases hp7 with ⟨rfl, hfA, rfl⟩ | ⟨rfl, hnfA, j8, j9, j10, j11, j12, j13, j14, j15, j16, j17, j18, j19, j20, j21, rfl⟩
      · have h0A := hfA.1
        have heA := hfA.2.1
        have hkA := hfA.2.2
        have hP : va_P D vwCl [(st, .inr (4, [.int U, .int V, .double (tPx lx ly b (f1 j)), .double (FP.i2d (f1 j)), .double p2, .double p3, .double p4, .double p5, .double p6, .double p7, .double (tDx U lx ly b (f1 j)), .double (tDy V (f1 j)), .double (tM U V lx ly a b c (f1 j)), .double (tK U V lx ly a b c (f1 j))]))] H := hP
        have hD : va_D (aE st) [(st, .inr (4, [.int U, .int V, .double (tPx lx ly b (f1 j)), .double (FP.i2d (f1 j)), .double p2, .double p3, .double p4, .double p5, .double p6, .double p7, .double (tDx U lx ly b (f1 j)), .double (tDy V (f1 j)), .double (tM U V lx ly a b c (f1 j)), .double (tK U V lx ly a b c (f1 j))]))] := D_1 rfl
        refine lv_if_ne (tgt := 77) hx hb dX6_howFarOff_70 (by decide) (fun _ => ?_) (fun c23 => absurd c23 (by decide))
        refine lv_aload_n hx hb dX6_howFarOff_77 rfl (lv_at hl 5 rfl) ?_
        refine va_get (D := D) (ci := 5) (v := .ref st) (C := RX6) (T := TX6) (N := 5) hx hb hts hinX6 hown hw.1 hR 0 rfl rfl 1 (by decide) (hts (.fieldLink RX6 18 "WheelSwing" "stand" "LWheelSwing$Stand;") (by decide +kernel)) (fun _ h9 => h9) rfl dX6_howFarOff_78 ?_
        refine lv_aload_n hx hb dX6_howFarOff_81 rfl (lv_at hl 4 rfl) ?_
        have hq24 : va_P D vwCl [(st, .inr (4, [.int U, .int V, .double (tPx lx ly b (f1 j)), .double (FP.i2d (f1 j)), .double p2, .double p3, .double p4, .double p5, .double p6, .double p7, .double (tDx U lx ly b (f1 j)), .double (tDy V (f1 j)), .double (tM U V lx ly a b c (f1 j)), .double (tK U V lx ly a b c (f1 j))])), (hg, .inr (1, [.int ux, .int uy, .int a, .int lx, .int ly, .int b, .int c, .int sd, .int g, .int d, .int sx, .int sy, .int f]))] H := fr_cons (hP 0 _ rfl) (fr_cons (hR 4 _ rfl) (fr_nil))
        refine va_callv (va_runVN (As := [.ref hg]) (rest := []) ⟨hx, hb, hml, hown, hts⟩ (mX5_placeUpright l D cI cH st hg p2 p3 p4 p5 p6 p7 ux uy a lx ly b c sd g d sx sy f U V (f1 j) hne hh hsd hfA) (⟨va_cnB 1 hts gX6_howFarOff_X5_placeUpright_n102 rfl rfl rfl (hw.2 (.methodLinkNest RX6 102 yX5_placeUpright "WheelSwing") (by decide +kernel)) (hts (.initialized RX5) (by decide +kernel)) (by decide +kernel) ⟨Nat.le_of_ble_eq_true rfl, Nat.le_of_ble_eq_true rfl⟩, hts (.instanceMethod yX5_placeUpright) (by decide +kernel), hts (.selects RX5 yX5_placeUpright yX5_placeUpright) (by decide +kernel)⟩) ⟨kB_blind, va_recv hw.1 hq24 (ci := 4) (q0 := 0) rfl rfl, kB_go hq24 hw⟩ rfl rfl hl.1 rfl (lv_room (Nat.le_of_ble_eq_true rfl)) dX6_howFarOff_82 ⟨Nat.le_of_ble_eq_true rfl, Nat.le_of_ble_eq_true rfl⟩) hS (fun q _ h => h) (fun q h => h) (fun u26 t H locs ht hvm hp27 hB hz1 hk1 hS => ?_)
        have hB : va_at D vwCl (st, .inr (4, u26)) t.heap := hB
        rw [ht] at hB
        have hP := fr_one hB
        have hR := fr_rd hR0 hS hnr
        subst hp27
        have hP : va_P D vwCl [(st, .inr (4, [.int U, .int V, .double (tPx lx ly b (f1 j)), .double (FP.i2d (f1 j)), .double (tQx U V lx ly a b c sd (f1 j)), .double (tQy U V lx ly a b c sd (f1 j)), .double (tVx U V lx ly a b c sd (f1 j)), .double (tVy U V lx ly a b c sd (f1 j)), .double p6, .double p7, .double (tDx U lx ly b (f1 j)), .double (tDy V (f1 j)), .double (tM U V lx ly a b c (f1 j)), .double (tK U V lx ly a b c (f1 j))]))] H := hP
        have hD : va_D (aE st) [(st, .inr (4, [.int U, .int V, .double (tPx lx ly b (f1 j)), .double (FP.i2d (f1 j)), .double (tQx U V lx ly a b c sd (f1 j)), .double (tQy U V lx ly a b c sd (f1 j)), .double (tVx U V lx ly a b c sd (f1 j)), .double (tVy U V lx ly a b c sd (f1 j)), .double p6, .double p7, .double (tDx U lx ly b (f1 j)), .double (tDy V (f1 j)), .double (tM U V lx ly a b c (f1 j)), .double (tK U V lx ly a b c (f1 j))]))] := D_1 rfl
        refine lv_aload_n hx hb dX6_howFarOff_85 rfl (lv_at hl 5 rfl) ?_
        refine va_get (D := D) (ci := 5) (v := .ref st) (C := RX6) (T := TX6) (N := 5) hx hb hts hinX6 hown hw.1 hR 0 rfl rfl 1 (by decide) (hts (.fieldLink RX6 18 "WheelSwing" "stand" "LWheelSwing$Stand;") (by decide +kernel)) (fun _ h9 => h9) rfl dX6_howFarOff_86 ?_
        refine va_getN (host := "WheelSwing") (D := D) (ci := 4) (v := .double (tVy U V lx ly a b c sd (f1 j))) (C := RX5) (T := TX5) (N := 14) hx hb hts hinX5 hown hw.1 hP 0 rfl rfl 7 (by decide) (va_Nw.use rfl (hw.2 (.fieldLinkNest RX6 182 "WheelSwing$Stand" "vy" "D" "WheelSwing") (by decide +kernel))) (fun _ h9 => h9) rfl dX6_howFarOff_89 ?_
        refine lv_dconst0 hx hb dX6_howFarOff_92 ?_
        refine lv_dcmp hx hb dX6_howFarOff_93 ?_
        rw [fp_cv (gz_vy hh h0A heA hkA hsd).1 gf_c0.1]
        refine lv_if_ne (tgt := 101) hx hb dX6_howFarOff_94 (by decide) (fun c28 => ?_) (fun c28 => ?_)
        · rw [fcv_eq] at c28
          have hvy : fv (tVy U V lx ly a b c sd (f1 j)) ≠ 0 := by have hq := c28; rw [fv_c0] at hq; exact hq
          refine lv_ldc2d hx hb hown (hts (.constantDouble RX6 220 (4652007308841189376)) (by decide +kernel)) dX6_howFarOff_101 ?_
          refine lv_aload_n hx hb dX6_howFarOff_104 rfl (lv_at hl 5 rfl) ?_
          refine va_get (D := D) (ci := 5) (v := .ref st) (C := RX6) (T := TX6) (N := 5) hx hb hts hinX6 hown hw.1 hR 0 rfl rfl 1 (by decide) (hts (.fieldLink RX6 18 "WheelSwing" "stand" "LWheelSwing$Stand;") (by decide +kernel)) (fun _ h9 => h9) rfl dX6_howFarOff_105 ?_
          refine va_getN (host := "WheelSwing") (D := D) (ci := 4) (v := .double (tVx U V lx ly a b c sd (f1 j))) (C := RX5) (T := TX5) (N := 14) hx hb hts hinX5 hown hw.1 hP 0 rfl rfl 6 (by decide) (va_Nw.use rfl (hw.2 (.fieldLinkNest RX6 196 "WheelSwing$Stand" "vx" "D" "WheelSwing") (by decide +kernel))) (fun _ h9 => h9) rfl dX6_howFarOff_108 ?_
          refine lv_aload_n hx hb dX6_howFarOff_111 rfl (lv_at hl 5 rfl) ?_
          refine va_get (D := D) (ci := 5) (v := .ref st) (C := RX6) (T := TX6) (N := 5) hx hb hts hinX6 hown hw.1 hR 0 rfl rfl 1 (by decide) (hts (.fieldLink RX6 18 "WheelSwing" "stand" "LWheelSwing$Stand;") (by decide +kernel)) (fun _ h9 => h9) rfl dX6_howFarOff_112 ?_
          refine va_getN (host := "WheelSwing") (D := D) (ci := 4) (v := .double (tVy U V lx ly a b c sd (f1 j))) (C := RX5) (T := TX5) (N := 14) hx hb hts hinX5 hown hw.1 hP 0 rfl rfl 7 (by decide) (va_Nw.use rfl (hw.2 (.fieldLinkNest RX6 182 "WheelSwing$Stand" "vy" "D" "WheelSwing") (by decide +kernel))) (fun _ h9 => h9) rfl dX6_howFarOff_115 ?_
          have gw29 := gf_div 695 1356 (gz_vx hh h0A heA hkA hsd) (gz_vy hh h0A heA hkA hsd) hvy (Nat.le_of_ble_eq_true rfl) (Nat.le_of_ble_eq_true rfl) (Nat.le_of_ble_eq_true rfl)
          refine lv_ddiv hx hb dX6_howFarOff_118 (gf_n64 gw29) ?_
          refine lv_topd (fun v30 ev30 => ?_)
          rw [← ev30] at gw29
          have gw31 := gf_mul 698 1366 gf_1000 gw29 (Nat.le_of_ble_eq_true rfl) (Nat.le_of_ble_eq_true rfl) (Nat.le_of_ble_eq_true rfl)
          refine lv_dmul hx hb dX6_howFarOff_119 (gf_n64 gw31) ?_
          refine lv_topd (fun v32 ev32 => ?_)
          rw [← ev32] at gw31
          refine lv_aload_n hx hb dX6_howFarOff_120 rfl (lv_at hl 5 rfl) ?_
          refine va_get (D := D) (ci := 5) (v := .ref rd) (C := RX6) (T := TX6) (N := 5) hx hb hts hinX6 hown hw.1 hR 0 rfl rfl 4 (by decide) (hts (.fieldLink RX6 39 "WheelSwing" "readings" "LWheelSwing$Readings;") (by decide +kernel)) (fun _ h9 => h9) rfl dX6_howFarOff_121 ?_
          refine va_getN (host := "WheelSwing") (D := D) (ci := 2) (v := .ref ln) (C := RX3) (T := TX3) (N := 3) hx hb hts hinX3 hown hw.1 hR 1 rfl rfl 1 (by decide) (va_Nw.use rfl (hw.2 (.fieldLinkNest RX6 222 "WheelSwing$Readings" "leans" "[I" "WheelSwing") (by decide +kernel))) (fun _ h9 => h9) rfl dX6_howFarOff_124 ?_
          refine lv_iload hx hb dX6_howFarOff_127 (lv_at hl 0 rfl) ?_
          refine va_iald hx hb hw.1 hR 3 0 rfl rfl (ix_in hjl hk (by omega)) dX6_howFarOff_129 ?_
          rw [nI_clamp (n := j) (by omega)]
          refine lv_i2d hx hb dX6_howFarOff_130 ?_
          have gw33 := gf_i2d 13 (rB_k hrb)
          have gw34 := gf_sub 698 1367 gw31 gw33 (Nat.le_of_ble_eq_true rfl) (Nat.le_of_ble_eq_true rfl) (Nat.le_of_ble_eq_true rfl) (Nat.le_of_ble_eq_true rfl) (Nat.le_of_ble_eq_true rfl)
          refine lv_dsub hx hb dX6_howFarOff_131 (gf_n64 gw34) ?_
          refine lv_topd (fun v35 ev35 => ?_)
          rw [← ev35] at gw34
          have fv35 : v35 = tFar (tVx U V lx ly a b c sd (f1 j)) (tVy U V lx ly a b c sd (f1 j)) (f2 j) := by rw [ev35, ev32, ev30]; try rfl
          clear ev35 gw34
          subst fv35
          refine lv_dstore (lv' := [(9, .double (tFar (tVx U V lx ly a b c sd (f1 j)) (tVy U V lx ly a b c sd (f1 j)) (f2 j))), (8, .int (nI j)), (6, .double sm), (5, .int V), (4, .int U), (1, .ref hg), (0, .ref o)]) hx hb dX6_howFarOff_132 hl (by decide) rfl (fun ls hl => ?_)
          refine lv_dload hx hb dX6_howFarOff_134 (lv_at hl 2 rfl) ?_
          refine lv_dload hx hb dX6_howFarOff_136 (lv_at hl 0 rfl) ?_
          refine lv_dload hx hb dX6_howFarOff_138 (lv_at hl 0 rfl) ?_
          have gw36 := gf_mul 322 1660 (gz_far (gz_vx hh h0A heA hkA hsd) (gz_vy hh h0A heA hkA hsd) hvy hrb) (gz_far (gz_vx hh h0A heA hkA hsd) (gz_vy hh h0A heA hkA hsd) hvy hrb) (Nat.le_of_ble_eq_true rfl) (Nat.le_of_ble_eq_true rfl) (Nat.le_of_ble_eq_true rfl)
          refine lv_dmul hx hb dX6_howFarOff_140 (gf_n64 gw36) ?_
          refine lv_topd (fun v37 ev37 => ?_)
          rw [← ev37] at gw36
          have fv37 : v37 = FP.dmul (tFar (tVx U V lx ly a b c sd (f1 j)) (tVy U V lx ly a b c sd (f1 j)) (f2 j)) (tFar (tVx U V lx ly a b c sd (f1 j)) (tVy U V lx ly a b c sd (f1 j)) (f2 j)) := by rw [ev37]; try rfl
          clear ev37 gw36
          subst fv37
          have gw38 := gf_add 322 (1661 + (j + 1)) gs (gf_mul 322 1660 (gz_far (gz_vx hh h0A heA hkA hsd) (gz_vy hh h0A heA hkA hsd) hvy hrb) (gz_far (gz_vx hh h0A heA hkA hsd) (gz_vy hh h0A heA hkA hsd) hvy hrb) (Nat.le_of_ble_eq_true rfl) (Nat.le_of_ble_eq_true rfl) (Nat.le_of_ble_eq_true rfl)) (by omega) (by omega) (by omega) (by omega) (by omega)
          refine lv_dadd hx hb dX6_howFarOff_141 (gf_n64 gw38) ?_
          refine lv_topd (fun v39 ev39 => ?_)
          rw [← ev39] at gw38
          have fv39 : v39 = FP.dadd sm (FP.dmul (tFar (tVx U V lx ly a b c sd (f1 j)) (tVy U V lx ly a b c sd (f1 j)) (f2 j)) (tFar (tVx U V lx ly a b c sd (f1 j)) (tVy U V lx ly a b c sd (f1 j)) (f2 j))) := by rw [ev39]; try rfl
          clear ev39 gw38
          subst fv39
          refine lv_dstore (lv' := [(6, .double (FP.dadd sm (FP.dmul (tFar (tVx U V lx ly a b c sd (f1 j)) (tVy U V lx ly a b c sd (f1 j)) (f2 j)) (tFar (tVx U V lx ly a b c sd (f1 j)) (tVy U V lx ly a b c sd (f1 j)) (f2 j))))), (9, .double (tFar (tVx U V lx ly a b c sd (f1 j)) (tVy U V lx ly a b c sd (f1 j)) (f2 j))), (8, .int (nI j)), (5, .int V), (4, .int U), (1, .ref hg), (0, .ref o)]) hx hb dX6_howFarOff_142 hl (by decide) rfl (fun ls hl => ?_)
          refine lv_iinc (v := (nI j) + 1) (lv' := [(8, .int ((nI j) + 1)), (6, .double (FP.dadd sm (FP.dmul (tFar (tVx U V lx ly a b c sd (f1 j)) (tVy U V lx ly a b c sd (f1 j)) (f2 j)) (tFar (tVx U V lx ly a b c sd (f1 j)) (tVy U V lx ly a b c sd (f1 j)) (f2 j))))), (9, .double (tFar (tVx U V lx ly a b c sd (f1 j)) (tVy U V lx ly a b c sd (f1 j)) (f2 j))), (5, .int V), (4, .int U), (1, .ref hg), (0, .ref o)]) hx hb dX6_howFarOff_144 hl (k := 2) rfl rfl (by decide) rfl (fun ls hl => ?_)
          refine lv_goto (tgt := 36) hx hb dX6_howFarOff_147 (by decide) ?_
          have ho9 := oF_t ho hfA hvy
          have h9 : lv_has ls 11 [(8, .int (nI (j + 1))), (6, .double (FP.dadd sm (FP.dmul (tFar (tVx U V lx ly a b c sd (f1 j)) (tVy U V lx ly a b c sd (f1 j)) (f2 j)) (tFar (tVx U V lx ly a b c sd (f1 j)) (tVy U V lx ly a b c sd (f1 j)) (f2 j))))), (5, .int V), (4, .int U), (1, .ref hg), (0, .ref o)] := by have h8 := (lv_sub hl [0, 1, 3, 4, 5, 6] rfl); rw [nI_1] at h8; exact h8
          exact ih (j + 1) _ H locs ls U V (tPx lx ly b (f1 j)) (FP.i2d (f1 j)) (tQx U V lx ly a b c sd (f1 j)) (tQy U V lx ly a b c sd (f1 j)) (tVx U V lx ly a b c sd (f1 j)) (tVy U V lx ly a b c sd (f1 j)) p6 p7 (tDx U lx ly b (f1 j)) (tDy V (f1 j)) (tM U V lx ly a b c (f1 j)) (tK U V lx ly a b c (f1 j)) hS hP (by omega) ho9 (gf_add 322 (1661 + (j + 1)) gs (gf_mul 322 1660 (gz_far (gz_vx hh h0A heA hkA hsd) (gz_vy hh h0A heA hkA hsd) hvy hrb) (gz_far (gz_vx hh h0A heA hkA hsd) (gz_vy hh h0A heA hkA hsd) hvy hrb) (Nat.le_of_ble_eq_true rfl) (Nat.le_of_ble_eq_true rfl) (Nat.le_of_ble_eq_true rfl)) (by omega) (by omega) (by omega) (by omega) (by omega)) (add_nn gs (gf_mul 322 1660 (gz_far (gz_vx hh h0A heA hkA hsd) (gz_vy hh h0A heA hkA hsd) hvy hrb) (gz_far (gz_vx hh h0A heA hkA hsd) (gz_vy hh h0A heA hkA hsd) hvy hrb) (Nat.le_of_ble_eq_true rfl) (Nat.le_of_ble_eq_true rfl) (Nat.le_of_ble_eq_true rfl)) hs0 (sqr_nn (gz_far (gz_vx hh h0A heA hkA hsd) (gz_vy hh h0A heA hkA hsd) hvy hrb) (by omega)) (by omega) (by omega)).1 (zp_add gs (gf_mul 322 1660 (gz_far (gz_vx hh h0A heA hkA hsd) (gz_vy hh h0A heA hkA hsd) hvy hrb) (gz_far (gz_vx hh h0A heA hkA hsd) (gz_vy hh h0A heA hkA hsd) hvy hrb) (Nat.le_of_ble_eq_true rfl) (Nat.le_of_ble_eq_true rfl) (Nat.le_of_ble_eq_true rfl)) (by omega) (Nat.le_of_ble_eq_true rfl) hzs) h9
        · rw [fcv_eq] at c28
          exact k2 H locs ls U V (tPx lx ly b (f1 j)) (FP.i2d (f1 j)) (tQx U V lx ly a b c sd (f1 j)) (tQy U V lx ly a b c sd (f1 j)) (tVx U V lx ly a b c sd (f1 j)) (tVy U V lx ly a b c sd (f1 j)) p6 p7 (tDx U lx ly b (f1 j)) (tDy V (f1 j)) (tM U V lx ly a b c (f1 j)) (tK U V lx ly a b c (f1 j)) hS hP (oF_none (oF_f2 ho (by have hq := c28; rw [fv_c0] at hq; exact hq)) (by omega))
      · have hP : va_P D vwCl [(st, .inr (4, [.int j8, .int j9, .double j10, .double j11, .double j12, .double j13, .double j14, .double j15, .double j16, .double j17, .double j18, .double j19, .double j20, .double j21]))] H := hP
        have hD : va_D (aE st) [(st, .inr (4, [.int j8, .int j9, .double j10, .double j11, .double j12, .double j13, .double j14, .double j15, .double j16, .double j17, .double j18, .double j19, .double j20, .double j21]))] := D_1 rfl
        refine lv_if_ne (tgt := 77) hx hb dX6_howFarOff_70 (by decide) (fun c41 => absurd c41 (by decide)) (fun _ => ?_)
        exact k1 H locs ls j8 j9 j10 j11 j12 j13 j14 j15 j16 j17 j18 j19 j20 j21 hS hP (oF_none (oF_f1 ho hnfA) (by omega))
set_option maxHeartbeats 4000000 in
set_option maxRecDepth 100000 in
theorem mX6_howFarOff (l : Launch) (D : va_G) (cI cH : ClassId) (o ha st ca bx rd hg ht1 ln k : Nat) (f1 f2 : Nat → Int32) (s0 s1 : Int32) (p0 p1 p2 p3 p4 p5 p6 p7 p8 p9 p10 p11 : UInt64) (ux uy a lx ly b c sd g d sx sy f : Int32) (mvx mvy : Int32)  (hno : o ≠ st) (hne : hg ≠ st) (hn1 : rd ≠ st) (hn2 : ht1 ≠ st) (hn3 : ln ≠ st) (hgb : hgB ux uy a lx ly b c sd g d sx sy f) (hk : k ≤ 12) (hrd : ∀ j, j < k → cB (f1 j) ∧ rB (f2 j)) : Met l yX6_howFarOff wsX6_howFarOff ({ frames := 4, cells := 0, slots := 0, locals := 106 }) (va_Pc [.ref o, .ref hg, .int mvx, .int mvy] (kB D cI cH [(st, .inr (4, [.int s0, .int s1, .double p0, .double p1, .double p2, .double p3, .double p4, .double p5, .double p6, .double p7, .double p8, .double p9, .double p10, .double p11])), (o, .inr (5, [.ref ha, .ref st, .ref ca, .ref bx, .ref rd])), (rd, .inr (2, [.ref ht1, .ref ln, .int (nI k)])), (ht1, .inl (cI, 12, .inl f1)), (ln, .inl (cI, 12, .inl f2)), (hg, .inr (1, [.int ux, .int uy, .int a, .int lx, .int ly, .int b, .int c, .int sd, .int g, .int d, .int sx, .int sy, .int f]))])) (va_Qd (fun (r : UInt64) (u : List Value) => offOk r (sOff (ux + mvx) (uy + mvy) lx ly a b c sd f1 f2 k) ∧ isSt u) (fun u t => va_at D vwCl (st, .inr (4, u)) t.heap) (aE st)) 0 0 (aE st) := by
  refine Met.ofW (cc := cX6_howFarOff) (maxL := 11) (ret := (some .double)) (by decide) rfl ?_
  intro p e s m args below meth co s₁ B hml hv
  obtain ⟨rfl, hP0, hw⟩ := hv
  have hx := B.exec
  have hb := B.bytes
  have hr := B.returns
  have hts := atoms_spec (ws := wsX6_howFarOff) B.pre
  have hown : s.vm.findClass RX6 = some m.cls := findClass_of_methodNamed B.named
  have hlocks := B.notSynchronized
  have hinX2 : ∀ w ∈ wsX20, w ∈ wsX6_howFarOff := by decide +kernel
  have hinX3 : ∀ w ∈ wsX30, w ∈ wsX6_howFarOff := by decide +kernel
  have hinX5 : ∀ w ∈ wsX50, w ∈ wsX6_howFarOff := by decide +kernel
  have hinX6 : ∀ w ∈ wsX60, w ∈ wsX6_howFarOff := by decide +kernel
  have hS : va_S (aE st) s.heap s.heap [] := va_S.rf
  have hP : va_P D vwCl [(st, .inr (4, [.int s0, .int s1, .double p0, .double p1, .double p2, .double p3, .double p4, .double p5, .double p6, .double p7, .double p8, .double p9, .double p10, .double p11]))] s.heap := hP0.sub [0] rfl
  have hD : va_D (aE st) [(st, .inr (4, [.int s0, .int s1, .double p0, .double p1, .double p2, .double p3, .double p4, .double p5, .double p6, .double p7, .double p8, .double p9, .double p10, .double p11]))] := D_1 rfl
  have hR0 : va_P D vwCl [(o, .inr (5, [.ref ha, .ref st, .ref ca, .ref bx, .ref rd])), (rd, .inr (2, [.ref ht1, .ref ln, .int (nI k)])), (ht1, .inl (cI, 12, .inl f1)), (ln, .inl (cI, 12, .inl f2)), (hg, .inr (1, [.int ux, .int uy, .int a, .int lx, .int ly, .int b, .int c, .int sd, .int g, .int d, .int sx, .int sy, .int f]))] s.heap := hP0.sub [1, 2, 3, 4, 5] rfl
  have hR := hR0
  have hnr : ∀ (k9 : Nat) (q : Nat × va_E), ([(o, .inr (5, [.ref ha, .ref st, .ref ca, .ref bx, .ref rd])), (rd, .inr (2, [.ref ht1, .ref ln, .int (nI k)])), (ht1, .inl (cI, 12, .inl f1)), (ln, .inl (cI, 12, .inl f2)), (hg, .inr (1, [.int ux, .int uy, .int a, .int lx, .int ly, .int b, .int c, .int sd, .int g, .int d, .int sx, .int sy, .int f]))] : va_W)[k9]? = some q → ¬ (aE st) q.1 := nn_1 hno (nn_1 hn1 (nn_1 hn2 (nn_1 hn3 (nn_1 hne nn_0))))
  obtain ⟨kux, kuy, ka, klx, kly, kb, kc, hsd, kg, kd, ksx, ksy, kf⟩ := id hgb
  have hl := lv_entry ([.ref o, .ref hg, .int mvx, .int mvy]) (n := 11) (Nat.le_of_ble_eq_true rfl)
  rw [lg_entry_eq]
  generalize (lg_sl ([.ref o, .ref hg, .int mvx, .int mvy]) ++ List.replicate (11 - (lg_sl ([.ref o, .ref hg, .int mvx, .int mvy])).length) Slot.unset).toArray = ls at hl ⊢
  have hl : lv_has ls 11 [(0, .ref o), (1, .ref hg), (2, .int mvx), (3, .int mvy)] := hl
  skip
  refine lv_aload_n hx hb dX6_howFarOff_0 rfl (lv_at hl 1 rfl) ?_
  refine va_getN (host := "WheelSwing") (D := D) (ci := 1) (v := .int ux) (C := RX2) (T := TX2) (N := 13) hx hb hts hinX2 hown hw.1 hR 4 rfl rfl 0 (by decide) (va_Nw.use rfl (hw.2 (.fieldLinkNest RX6 89 "WheelSwing$Hanging" "ux" "I" "WheelSwing") (by decide +kernel))) (fun _ h9 => h9) rfl dX6_howFarOff_1 ?_
  refine lv_iload_n hx hb dX6_howFarOff_4 rfl (lv_at hl 2 rfl) ?_
  refine lv_iadd hx hb dX6_howFarOff_5 ?_
  refine lv_istore (lv' := [(4, .int (ux + mvx)), (0, .ref o), (1, .ref hg), (2, .int mvx), (3, .int mvy)]) hx hb dX6_howFarOff_6 hl (by decide) rfl (fun ls hl => ?_)
  refine lv_aload_n hx hb dX6_howFarOff_8 rfl (lv_at hl 2 rfl) ?_
  refine va_getN (host := "WheelSwing") (D := D) (ci := 1) (v := .int uy) (C := RX2) (T := TX2) (N := 13) hx hb hts hinX2 hown hw.1 hR 4 rfl rfl 1 (by decide) (va_Nw.use rfl (hw.2 (.fieldLinkNest RX6 93 "WheelSwing$Hanging" "uy" "I" "WheelSwing") (by decide +kernel))) (fun _ h9 => h9) rfl dX6_howFarOff_9 ?_
  refine lv_iload_n hx hb dX6_howFarOff_12 rfl (lv_at hl 4 rfl) ?_
  refine lv_iadd hx hb dX6_howFarOff_13 ?_
  refine lv_istore (lv' := [(5, .int (uy + mvy)), (4, .int (ux + mvx)), (0, .ref o), (1, .ref hg), (2, .int mvx), (3, .int mvy)]) hx hb dX6_howFarOff_14 hl (by decide) rfl (fun ls hl => ?_)
  refine lv_iload hx hb dX6_howFarOff_16 (lv_at hl 1 rfl) ?_
  refine lv_iload hx hb dX6_howFarOff_18 (lv_at hl 0 rfl) ?_
  refine va_calli (va_runS (As := [.int (ux + mvx), .int (uy + mvy)]) (rest := []) ⟨hx, hb, hml, hown, hts⟩ (mX6_isPoint l (ux + mvx) (uy + mvy)) (va_cwS 2 hts gX6_howFarOff_X6_isPoint rfl rfl rfl (by decide +kernel) ⟨Nat.le_of_ble_eq_true rfl, Nat.le_of_ble_eq_true rfl⟩) ⟨tB_blind, tB_go⟩ rfl rfl hl.1 rfl (lv_room (Nat.le_of_ble_eq_true rfl)) dX6_howFarOff_20 ⟨Nat.le_of_ble_eq_true rfl, Nat.le_of_ble_eq_true rfl⟩) hS (fun q _ h => h.elim) (fun q h => h.elim) (fun r1 u2 t H locs ht hvm hp3 hB hz1 hk1 hS => ?_)
  have hP := fr_keep hP hk1 fr_nA
  have hR := fr_rd hR0 hS hnr
  subst hp3
  refine lv_if_ne (tgt := 30) hx hb dX6_howFarOff_23 (by decide) (fun c4 => ?_) (fun c4 => ?_)
  · have c4 := bI_n.mp c4
    refine lv_dconst0 hx hb dX6_howFarOff_30 ?_
    refine lv_dstore (lv' := [(6, .double FP.dconst0), (5, .int (uy + mvy)), (4, .int (ux + mvx)), (0, .ref o), (1, .ref hg), (2, .int mvx), (3, .int mvy)]) hx hb dX6_howFarOff_31 hl (by decide) rfl (fun ls hl => ?_)
    refine lv_iconst (v := 0) hx hb dX6_howFarOff_33 (by decide) ?_
    refine lv_istore (lv' := [(8, .int 0), (6, .double FP.dconst0), (5, .int (uy + mvy)), (4, .int (ux + mvx)), (0, .ref o), (1, .ref hg), (2, .int mvx), (3, .int mvy)]) hx hb dX6_howFarOff_34 hl (by decide) rfl (fun ls hl => ?_)
    obtain ⟨kU, kV⟩ := okP_c c4
    have h36 : lv_has ls 11 [(8, .int (nI 0)), (6, .double FP.dconst0), (5, .int (uy + mvy)), (4, .int (ux + mvx)), (1, .ref hg), (0, .ref o)] := (lv_sub hl [0, 1, 2, 3, 5, 4] rfl)
    refine lpX6_far D cI cH (k := k) (f1 := f1) (f2 := f2) hx hb hml hown hts hw hno hne hn1 hn2 hn3 hgb hk hrd kU kV hR0 (fun H locs ls s0 s1 p0 p1 p2 p3 p4 p5 p6 p7 p8 p9 p10 p11 hS hP hz => ?_) (fun H locs ls s0 s1 p0 p1 p2 p3 p4 p5 p6 p7 p8 p9 p10 p11 hS hP hz => ?_) (fun H locs ls sm s0 s1 p0 p1 p2 p3 p4 p5 p6 p7 p8 p9 p10 p11 hS hP hz gz hz0 hz3 hl => ?_) k 0 FP.dconst0 _ _ ls s0 s1 p0 p1 p2 p3 p4 p5 p6 p7 p8 p9 p10 p11 hS hP (by omega) rfl (gf_w gf_c0 (by omega) (by omega)) (by rw [fv_c0]; exact Int.le_refl 0) zp_c0 h36
    · refine lv_ldc2d hx hb hown (hts (.constantDouble RX6 149 (13830554455654793216)) (by decide +kernel)) dX6_howFarOff_73 ?_
      exact W.dret (v := 13830554455654793216) hx hb hr (fun t ht hW => ⟨⟨13830554455654793216, [.int s0, .int s1, .double p0, .double p1, .double p2, .double p3, .double p4, .double p5, .double p6, .double p7, .double p8, .double p9, .double p10, .double p11], rfl, ⟨by have hso : sOff (ux + mvx) (uy + mvy) lx ly a b c sd f1 f2 k = none := (by unfold sOff; rw [c4]; exact hz); rw [hso]; exact ⟨rfl, fun s h => nomatch h⟩, ⟨_, _, _, _, _, _, _, _, _, _, _, _, _, _, rfl⟩⟩, at_heap ht (hP 0 _ rfl)⟩, hS.F ht⟩) hS.2.2 dX6_howFarOff_76
    · refine lv_ldc2d hx hb hown (hts (.constantDouble RX6 149 (13830554455654793216)) (by decide +kernel)) dX6_howFarOff_97 ?_
      exact W.dret (v := 13830554455654793216) hx hb hr (fun t ht hW => ⟨⟨13830554455654793216, [.int s0, .int s1, .double p0, .double p1, .double p2, .double p3, .double p4, .double p5, .double p6, .double p7, .double p8, .double p9, .double p10, .double p11], rfl, ⟨by have hso : sOff (ux + mvx) (uy + mvy) lx ly a b c sd f1 f2 k = none := (by unfold sOff; rw [c4]; exact hz); rw [hso]; exact ⟨rfl, fun s h => nomatch h⟩, ⟨_, _, _, _, _, _, _, _, _, _, _, _, _, _, rfl⟩⟩, at_heap ht (hP 0 _ rfl)⟩, hS.F ht⟩) hS.2.2 dX6_howFarOff_100
    · refine lv_dload hx hb dX6_howFarOff_150 (lv_at hl 1 rfl) ?_
      exact W.dret (v := sm) hx hb hr (fun t ht hW => ⟨⟨sm, [.int s0, .int s1, .double p0, .double p1, .double p2, .double p3, .double p4, .double p5, .double p6, .double p7, .double p8, .double p9, .double p10, .double p11], rfl, ⟨by have hso : sOff (ux + mvx) (uy + mvy) lx ly a b c sd f1 f2 k = some sm := (by unfold sOff; rw [c4]; exact hz); rw [hso]; exact ⟨rfl, fun s h => by cases h; exact ⟨gf_w gz (by omega) (by omega), hz0, hz3⟩⟩, ⟨_, _, _, _, _, _, _, _, _, _, _, _, _, _, rfl⟩⟩, at_heap ht (hP 0 _ rfl)⟩, hS.F ht⟩) hS.2.2 dX6_howFarOff_152
  · have c4 := bI_e.mp c4
    refine lv_ldc2d hx hb hown (hts (.constantDouble RX6 149 (13830554455654793216)) (by decide +kernel)) dX6_howFarOff_26 ?_
    exact W.dret (v := 13830554455654793216) hx hb hr (fun t ht hW => ⟨⟨13830554455654793216, [.int s0, .int s1, .double p0, .double p1, .double p2, .double p3, .double p4, .double p5, .double p6, .double p7, .double p8, .double p9, .double p10, .double p11], rfl, ⟨by have hso : sOff (ux + mvx) (uy + mvy) lx ly a b c sd f1 f2 k = none := (by unfold sOff; rw [c4]; rfl); rw [hso]; exact ⟨rfl, fun s h => nomatch h⟩, ⟨_, _, _, _, _, _, _, _, _, _, _, _, _, _, rfl⟩⟩, at_heap ht (hP 0 _ rfl)⟩, hS.F ht⟩) hS.2.2 dX6_howFarOff_29
