/-! X6: lock, isClear -/
def lockF (fr : Int32 → Bool) : Nat → Int32 → Int32
  | 0, _ => -1
  | n + 1, y => if fr y then lockF fr n (y + 1) else y
theorem lockF_t {fr : Int32 → Bool} {n : Nat} {y : Int32} (h : fr y = true) : lockF fr (n + 1) y = lockF fr n (y + 1) := if_pos h
theorem lockF_f {fr : Int32 → Bool} {n : Nat} {y : Int32} (h : fr y = false) : lockF fr (n + 1) y = y := by
  show (if fr y then _ else _) = _
  rw [h]
  rfl
def clrF (ok : Int32 → Bool) : Nat → Int32 → Int32
  | 0, _ => 1
  | n + 1, y => if ok y then clrF ok n (y + 1) else 0
theorem clrF_t {fr : Int32 → Bool} {n : Nat} {y : Int32} (h : fr y = true) : clrF fr (n + 1) y = clrF fr n (y + 1) := if_pos h
theorem clrF_f {fr : Int32 → Bool} {n : Nat} {y : Int32} (h : fr y = false) : clrF fr (n + 1) y = 0 := by
  show (if fr y then _ else _) = _
  rw [h]
  rfl
noncomputable def sLock (ux uy a lx ly b c sd g d sx sy f y0 y1 : Int32) : Int32 := lockF (fun y => bFree ux uy lx ly a b c y) (y1.toInt - y0.toInt + 1).toNat y0
theorem okS_i {y0 y1 : Int32} (h : okS y0 y1 = true) : cB y0 ∧ cB y1 ∧ y0.toInt ≤ y1.toInt := by
  unfold okS at h
  rw [Bool.and_eq_true, Bool.and_eq_true] at h
  exact ⟨okC_c h.1.1, okC_c h.1.2, Int32.le_iff_toInt_le.mp (of_decide_eq_true h.2)⟩
theorem y_next {y : Int32} (h : cB y) : (y + 1).toInt = y.toInt + 1 := by
  obtain ⟨h1, h2⟩ := h
  have e1 : (1 : Int32).toInt = 1 := rfl
  rw [i3_add (by omega) (by omega), e1]
set_option maxHeartbeats 4000000 in
set_option maxRecDepth 100000 in
theorem lpX6_lock {p : Program} {l : Launch} {e : Env} {s : State} {m : MethodId} {args : Array Value} {below : List Frame} {meth : Method} {co : Code} {Q : State → Prop} (D : va_G) (cI cH : ClassId) (hx : p.tables.exec = Jvm.exec) (hb : co.code = cX6_lock) (hml : co.maxLocals = 6) (hown : s.vm.findClass RX6 = some m.cls) (hts : ∀ w ∈ wsX6_lock, w.before args s = true) (hw : wk D cI cH s) {o ha st ca bx rd hg : Nat} {fh : Nat → Option Nat} {ux uy a lx ly b c sd g d sx sy f : Int32} {y1 R0 : Int32} (hno : o ≠ st) (hna : ha ≠ st) (hne : hg ≠ st) (hgb : hgB ux uy a lx ly b c sd g d sx sy f) (hy1 : cB y1) (hR0 : va_P D vwCl [(o, .inr (5, [.ref ha, .ref st, .ref ca, .ref bx, .ref rd])), (ha, .inl (cH, 4, .inr (.inr (.inr (.inr fh))))), (hg, .inr (1, [.int ux, .int uy, .int a, .int lx, .int ly, .int b, .int c, .int sd, .int g, .int d, .int sx, .int sy, .int f]))] s.heap) (k1 : ∀ (H : Heap) (locs : List Loc) (ls : Array Slot) (s0 s1 : Int32) (p0 p1 p2 p3 p4 p5 p6 p7 p8 p9 p10 p11 : UInt64) (r : Int32), va_S (aE st) s.heap H locs → va_P D vwCl [(st, .inr (4, [.int s0, .int s1, .double p0, .double p1, .double p2, .double p3, .double p4, .double p5, .double p6, .double p7, .double p8, .double p9, .double p10, .double p11]))] H → r = R0 → W p l e ({ frames := 4, cells := 0, slots := 0, locals := 106 } : Room) s m args below meth co H locs 0 0 Q (F0 m 62 ls [.int r])) (k2 : ∀ (H : Heap) (locs : List Loc) (ls : Array Slot) (s0 s1 : Int32) (p0 p1 p2 p3 p4 p5 p6 p7 p8 p9 p10 p11 : UInt64), va_S (aE st) s.heap H locs → va_P D vwCl [(st, .inr (4, [.int s0, .int s1, .double p0, .double p1, .double p2, .double p3, .double p4, .double p5, .double p6, .double p7, .double p8, .double p9, .double p10, .double p11]))] H → -1 = R0 → W p l e ({ frames := 4, cells := 0, slots := 0, locals := 106 } : Room) s m args below meth co H locs 0 0 Q (F0 m 69 ls [])) : ∀ (n : Nat) (y : Int32) (H : Heap) (locs : List Loc) (ls : Array Slot) (s0 s1 : Int32) (p0 p1 p2 p3 p4 p5 p6 p7 p8 p9 p10 p11 : UInt64), va_S (aE st) s.heap H locs → va_P D vwCl [(st, .inr (4, [.int s0, .int s1, .double p0, .double p1, .double p2, .double p3, .double p4, .double p5, .double p6, .double p7, .double p8, .double p9, .double p10, .double p11]))] H → y.toInt + n = y1.toInt + 1 ∧ -1000 ≤ y.toInt ∧ lockF (fun y => bFree ux uy lx ly a b c y) n y = R0 → lv_has ls 6 [(5, .int y), (4, .ref hg), (3, .int y1), (0, .ref o)] → W p l e ({ frames := 4, cells := 0, slots := 0, locals := 106 } : Room) s m args below meth co H locs 0 0 Q (F0 m 30 ls []) := by
  have hinX2 : ∀ w ∈ wsX20, w ∈ wsX6_lock := by decide +kernel
  have hinX5 : ∀ w ∈ wsX50, w ∈ wsX6_lock := by decide +kernel
  have hinX6 : ∀ w ∈ wsX60, w ∈ wsX6_lock := by decide +kernel
  obtain ⟨kux, kuy, ka, klx, kly, kb, kc, hsd, kg, kd, ksx, ksy, kf⟩ := id hgb
  have hnr : ∀ (k9 : Nat) (q : Nat × va_E), ([(o, .inr (5, [.ref ha, .ref st, .ref ca, .ref bx, .ref rd])), (ha, .inl (cH, 4, .inr (.inr (.inr (.inr fh))))), (hg, .inr (1, [.int ux, .int uy, .int a, .int lx, .int ly, .int b, .int c, .int sd, .int g, .int d, .int sx, .int sy, .int f]))] : va_W)[k9]? = some q → ¬ (aE st) q.1 := nn_1 hno (nn_1 hna (nn_1 hne nn_0))
  intro n
  induction n with
  | zero =>
    intro y H locs ls s0 s1 p0 p1 p2 p3 p4 p5 p6 p7 p8 p9 p10 p11 hS hP hI hl
    obtain ⟨i1, i2, i3⟩ := hI
    have hD : va_D (aE st) [(st, .inr (4, [.int s0, .int s1, .double p0, .double p1, .double p2, .double p3, .double p4, .double p5, .double p6, .double p7, .double p8, .double p9, .double p10, .double p11]))] := D_1 rfl
    have hR := fr_rd hR0 hS hnr
    refine lv_iload hx hb dX6_lock_30 (lv_at hl 0 rfl) ?_
    refine lv_iload_n hx hb dX6_lock_32 rfl (lv_at hl 2 rfl) ?_
    refine lv_icmp_gt (tgt := 69) hx hb dX6_lock_33 (by decide) (fun c1 => ?_) (fun c1 => ?_)
    · have iw2 := Int32.not_le.mpr c1
      exact k2 H locs ls s0 s1 p0 p1 p2 p3 p4 p5 p6 p7 p8 p9 p10 p11 hS hP i3
    · have iw3 := Int32.not_lt.mp c1
      exact absurd (Int32.lt_iff_toInt_lt.mpr (by omega)) c1
  | succ n ih =>
    intro y H locs ls s0 s1 p0 p1 p2 p3 p4 p5 p6 p7 p8 p9 p10 p11 hS hP hI hl
    obtain ⟨i1, i2, i3⟩ := hI
    have hy1b : y1.toInt ≤ 1000 := hy1.2
    have hyc : cB y := ⟨i2, by omega⟩
    have hh : pB ux uy lx ly a b c y := ⟨kux, kuy, klx, kly, ka, kb, kc, (cB_y hyc).1⟩
    have hD : va_D (aE st) [(st, .inr (4, [.int s0, .int s1, .double p0, .double p1, .double p2, .double p3, .double p4, .double p5, .double p6, .double p7, .double p8, .double p9, .double p10, .double p11]))] := D_1 rfl
    have hR := fr_rd hR0 hS hnr
    refine lv_iload hx hb dX6_lock_30 (lv_at hl 0 rfl) ?_
    refine lv_iload_n hx hb dX6_lock_32 rfl (lv_at hl 2 rfl) ?_
    refine lv_icmp_gt (tgt := 69) hx hb dX6_lock_33 (by decide) (fun c1 => ?_) (fun c1 => ?_)
    · have iw2 := Int32.not_le.mpr c1
      exact absurd c1 (Int32.not_lt.mpr (Int32.le_iff_toInt_le.mpr (by omega)))
    · have iw3 := Int32.not_lt.mp c1
      refine lv_aload_n hx hb dX6_lock_36 rfl (lv_at hl 3 rfl) ?_
      refine va_get (D := D) (ci := 5) (v := .ref st) (C := RX6) (T := TX6) (N := 5) hx hb hts hinX6 hown hw.1 hR 0 rfl rfl 1 (by decide) (hts (.fieldLink RX6 18 "WheelSwing" "stand" "LWheelSwing$Stand;") (by decide +kernel)) (fun _ h9 => h9) rfl dX6_lock_37 ?_
      refine lv_aload hx hb dX6_lock_40 (lv_at hl 1 rfl) ?_
      refine lv_aload hx hb dX6_lock_42 (lv_at hl 1 rfl) ?_
      refine va_getN (host := "WheelSwing") (D := D) (ci := 1) (v := .int ux) (C := RX2) (T := TX2) (N := 13) hx hb hts hinX2 hown hw.1 hR 2 rfl rfl 0 (by decide) (va_Nw.use rfl (hw.2 (.fieldLinkNest RX6 89 "WheelSwing$Hanging" "ux" "I" "WheelSwing") (by decide +kernel))) (fun _ h9 => h9) rfl dX6_lock_44 ?_
      refine lv_aload hx hb dX6_lock_47 (lv_at hl 1 rfl) ?_
      refine va_getN (host := "WheelSwing") (D := D) (ci := 1) (v := .int uy) (C := RX2) (T := TX2) (N := 13) hx hb hts hinX2 hown hw.1 hR 2 rfl rfl 1 (by decide) (va_Nw.use rfl (hw.2 (.fieldLinkNest RX6 93 "WheelSwing$Hanging" "uy" "I" "WheelSwing") (by decide +kernel))) (fun _ h9 => h9) rfl dX6_lock_49 ?_
      refine lv_iload hx hb dX6_lock_52 (lv_at hl 0 rfl) ?_
      have hq4 : va_P D vwCl [(st, .inr (4, [.int s0, .int s1, .double p0, .double p1, .double p2, .double p3, .double p4, .double p5, .double p6, .double p7, .double p8, .double p9, .double p10, .double p11])), (hg, .inr (1, [.int ux, .int uy, .int a, .int lx, .int ly, .int b, .int c, .int sd, .int g, .int d, .int sx, .int sy, .int f]))] H := fr_cons (hP 0 _ rfl) (fr_cons (hR 2 _ rfl) (fr_nil))
      refine va_calli (va_runVN (As := [.ref hg, .int ux, .int uy, .int y]) (rest := []) ⟨hx, hb, hml, hown, hts⟩ (mX5_reach l D cI cH st hg s0 s1 p0 p1 p2 p3 p4 p5 p6 p7 p8 p9 p10 p11 ux uy a lx ly b c sd g d sx sy f ux uy y hne hh) (⟨va_cnB 4 hts gX6_lock_X5_reach_n96 rfl rfl rfl (hw.2 (.methodLinkNest RX6 96 yX5_reach "WheelSwing") (by decide +kernel)) (hts (.initialized RX5) (by decide +kernel)) (by decide +kernel) ⟨Nat.le_of_ble_eq_true rfl, Nat.le_of_ble_eq_true rfl⟩, hts (.instanceMethod yX5_reach) (by decide +kernel), hts (.selects RX5 yX5_reach yX5_reach) (by decide +kernel)⟩) ⟨kB_blind, va_recv hw.1 hq4 (ci := 4) (q0 := 0) rfl rfl, kB_go hq4 hw⟩ rfl rfl hl.1 rfl (lv_room (Nat.le_of_ble_eq_true rfl)) dX6_lock_54 ⟨Nat.le_of_ble_eq_true rfl, Nat.le_of_ble_eq_true rfl⟩) hS (fun q _ h => h) (fun q h => h) (fun r5 u6 t H locs ht hvm hp7 hB hz1 hk1 hS => ?_)
      have hB : va_at D vwCl (st, .inr (4, u6)) t.heap := hB
      rw [ht] at hB
      have hP := fr_one hB
      have hR := fr_rd hR0 hS hnr
      rcases hp7 with ⟨rfl, hfA, rfl⟩ | ⟨rfl, hnfA, j8, j9, j10, j11, j12, j13, j14, j15, j16, j17, j18, j19, j20, j21, rfl⟩
      · have h0A := hfA.1
        have heA := hfA.2.1
        have hkA := hfA.2.2
        have hP : va_P D vwCl [(st, .inr (4, [.int ux, .int uy, .double (tPx lx ly b y), .double (FP.i2d y), .double p2, .double p3, .double p4, .double p5, .double p6, .double p7, .double (tDx ux lx ly b y), .double (tDy uy y), .double (tM ux uy lx ly a b c y), .double (tK ux uy lx ly a b c y)]))] H := hP
        have hD : va_D (aE st) [(st, .inr (4, [.int ux, .int uy, .double (tPx lx ly b y), .double (FP.i2d y), .double p2, .double p3, .double p4, .double p5, .double p6, .double p7, .double (tDx ux lx ly b y), .double (tDy uy y), .double (tM ux uy lx ly a b c y), .double (tK ux uy lx ly a b c y)]))] := D_1 rfl
        refine lv_if_ne (tgt := 63) hx hb dX6_lock_57 (by decide) (fun _ => ?_) (fun c23 => absurd c23 (by decide))
        refine lv_iinc (v := y + 1) (lv' := [(5, .int (y + 1)), (4, .ref hg), (3, .int y1), (0, .ref o)]) hx hb dX6_lock_63 hl (k := 0) rfl rfl (by decide) rfl (fun ls hl => ?_)
        refine lv_goto (tgt := 30) hx hb dX6_lock_66 (by decide) ?_
        have h9 : lv_has ls 6 [(5, .int (y + 1)), (4, .ref hg), (3, .int y1), (0, .ref o)] := (lv_sub hl [0, 1, 2, 3] rfl)
        exact ih (y + 1) H locs ls ux uy (tPx lx ly b y) (FP.i2d y) p2 p3 p4 p5 p6 p7 (tDx ux lx ly b y) (tDy uy y) (tM ux uy lx ly a b c y) (tK ux uy lx ly a b c y) hS hP ⟨by rw [y_next hyc]; omega, by rw [y_next hyc]; omega, by rw [← i3]; exact (lockF_t (bFree_t hfA)).symm⟩ h9
      · have hP : va_P D vwCl [(st, .inr (4, [.int j8, .int j9, .double j10, .double j11, .double j12, .double j13, .double j14, .double j15, .double j16, .double j17, .double j18, .double j19, .double j20, .double j21]))] H := hP
        have hD : va_D (aE st) [(st, .inr (4, [.int j8, .int j9, .double j10, .double j11, .double j12, .double j13, .double j14, .double j15, .double j16, .double j17, .double j18, .double j19, .double j20, .double j21]))] := D_1 rfl
        refine lv_if_ne (tgt := 63) hx hb dX6_lock_57 (by decide) (fun c25 => absurd c25 (by decide)) (fun _ => ?_)
        refine lv_iload hx hb dX6_lock_60 (lv_at hl 0 rfl) ?_
        exact k1 H locs ls j8 j9 j10 j11 j12 j13 j14 j15 j16 j17 j18 j19 j20 j21 y hS hP (by rw [← i3]; exact (lockF_f (fr := (fun y => bFree ux uy lx ly a b c y)) (bFree_f hnfA)).symm)
set_option maxHeartbeats 4000000 in
set_option maxRecDepth 100000 in
theorem mX6_lock (l : Launch) (D : va_G) (cI cH : ClassId) (o ha st ca bx rd hg : Nat) (fh : Nat → Option Nat) (s0 s1 : Int32) (p0 p1 p2 p3 p4 p5 p6 p7 p8 p9 p10 p11 : UInt64) (ux uy a lx ly b c sd g d sx sy f : Int32) (h y0 y1 : Int32)  (hno : o ≠ st) (hna : ha ≠ st) (hne : hg ≠ st) (hgb : hgB ux uy a lx ly b c sd g d sx sy f) (hfh : okH h = true → fh h.toNatClampNeg = some hg) : Met l yX6_lock wsX6_lock ({ frames := 4, cells := 0, slots := 0, locals := 106 }) (va_Pc [.ref o, .int h, .int y0, .int y1] (kB D cI cH [(st, .inr (4, [.int s0, .int s1, .double p0, .double p1, .double p2, .double p3, .double p4, .double p5, .double p6, .double p7, .double p8, .double p9, .double p10, .double p11])), (o, .inr (5, [.ref ha, .ref st, .ref ca, .ref bx, .ref rd])), (ha, .inl (cH, 4, .inr (.inr (.inr (.inr fh))))), (hg, .inr (1, [.int ux, .int uy, .int a, .int lx, .int ly, .int b, .int c, .int sd, .int g, .int d, .int sx, .int sy, .int f]))])) (va_Qi (fun (r : Int32) (u : List Value) => r = (if okH h && okS y0 y1 then sLock ux uy a lx ly b c sd g d sx sy f y0 y1 else -2000) ∧ isSt u) (fun u t => va_at D vwCl (st, .inr (4, u)) t.heap) (aE st)) 0 0 (aE st) := by
  refine Met.ofW (cc := cX6_lock) (maxL := 6) (ret := (some .int)) (by decide) rfl ?_
  intro p e s m args below meth co s₁ B hml hv
  obtain ⟨rfl, hP0, hw⟩ := hv
  have hx := B.exec
  have hb := B.bytes
  have hr := B.returns
  have hts := atoms_spec (ws := wsX6_lock) B.pre
  have hown : s.vm.findClass RX6 = some m.cls := findClass_of_methodNamed B.named
  have hlocks := B.notSynchronized
  have hinX2 : ∀ w ∈ wsX20, w ∈ wsX6_lock := by decide +kernel
  have hinX5 : ∀ w ∈ wsX50, w ∈ wsX6_lock := by decide +kernel
  have hinX6 : ∀ w ∈ wsX60, w ∈ wsX6_lock := by decide +kernel
  have hS : va_S (aE st) s.heap s.heap [] := va_S.rf
  have hP : va_P D vwCl [(st, .inr (4, [.int s0, .int s1, .double p0, .double p1, .double p2, .double p3, .double p4, .double p5, .double p6, .double p7, .double p8, .double p9, .double p10, .double p11]))] s.heap := hP0.sub [0] rfl
  have hD : va_D (aE st) [(st, .inr (4, [.int s0, .int s1, .double p0, .double p1, .double p2, .double p3, .double p4, .double p5, .double p6, .double p7, .double p8, .double p9, .double p10, .double p11]))] := D_1 rfl
  have hR0 : va_P D vwCl [(o, .inr (5, [.ref ha, .ref st, .ref ca, .ref bx, .ref rd])), (ha, .inl (cH, 4, .inr (.inr (.inr (.inr fh))))), (hg, .inr (1, [.int ux, .int uy, .int a, .int lx, .int ly, .int b, .int c, .int sd, .int g, .int d, .int sx, .int sy, .int f]))] s.heap := hP0.sub [1, 2, 3] rfl
  have hR := hR0
  have hnr : ∀ (k9 : Nat) (q : Nat × va_E), ([(o, .inr (5, [.ref ha, .ref st, .ref ca, .ref bx, .ref rd])), (ha, .inl (cH, 4, .inr (.inr (.inr (.inr fh))))), (hg, .inr (1, [.int ux, .int uy, .int a, .int lx, .int ly, .int b, .int c, .int sd, .int g, .int d, .int sx, .int sy, .int f]))] : va_W)[k9]? = some q → ¬ (aE st) q.1 := nn_1 hno (nn_1 hna (nn_1 hne nn_0))
  obtain ⟨kux, kuy, ka, klx, kly, kb, kc, hsd, kg, kd, ksx, ksy, kf⟩ := id hgb
  have hl := lv_entry ([.ref o, .int h, .int y0, .int y1]) (n := 6) (Nat.le_of_ble_eq_true rfl)
  rw [lg_entry_eq]
  generalize (lg_sl ([.ref o, .int h, .int y0, .int y1]) ++ List.replicate (6 - (lg_sl ([.ref o, .int h, .int y0, .int y1])).length) Slot.unset).toArray = ls at hl ⊢
  have hl : lv_has ls 6 [(0, .ref o), (1, .int h), (2, .int y0), (3, .int y1)] := hl
  skip
  refine lv_iload_n hx hb dX6_lock_0 rfl (lv_at hl 1 rfl) ?_
  refine va_calli (va_runS (As := [.int h]) (rest := []) ⟨hx, hb, hml, hown, hts⟩ (mX6_isHanging l h) (va_cwS 1 hts gX6_lock_X6_isHanging rfl rfl rfl (by decide +kernel) ⟨Nat.le_of_ble_eq_true rfl, Nat.le_of_ble_eq_true rfl⟩) ⟨tB_blind, tB_go⟩ rfl rfl hl.1 rfl (lv_room (Nat.le_of_ble_eq_true rfl)) dX6_lock_1 ⟨Nat.le_of_ble_eq_true rfl, Nat.le_of_ble_eq_true rfl⟩) hS (fun q _ h => h.elim) (fun q h => h.elim) (fun r1 u2 t H locs ht hvm hp3 hB hz1 hk1 hS => ?_)
  have hP := fr_keep hP hk1 fr_nA
  have hR := fr_rd hR0 hS hnr
  subst hp3
  refine lv_if_eq (tgt := 15) hx hb dX6_lock_4 (by decide) (fun c4 => ?_) (fun c4 => ?_)
  · have c4 := bI_e.mp c4
    refine lv_sipush (v := (-2000)) hx hb dX6_lock_15 (by decide) ?_
    exact W.iret (v := (-2000)) hx hb hr (fun t ht hW => ⟨⟨(-2000), [.int s0, .int s1, .double p0, .double p1, .double p2, .double p3, .double p4, .double p5, .double p6, .double p7, .double p8, .double p9, .double p10, .double p11], rfl, ⟨by simp [c4], ⟨_, _, _, _, _, _, _, _, _, _, _, _, _, _, rfl⟩⟩, at_heap ht (hP 0 _ rfl)⟩, hS.F ht⟩) hS.2.2 dX6_lock_18
  · have c4 := bI_n.mp c4
    refine lv_iload_n hx hb dX6_lock_7 rfl (lv_at hl 2 rfl) ?_
    refine lv_iload_n hx hb dX6_lock_8 rfl (lv_at hl 3 rfl) ?_
    refine va_calli (va_runS (As := [.int y0, .int y1]) (rest := []) ⟨hx, hb, hml, hown, hts⟩ (mX6_isSpan l y0 y1) (va_cwS 2 hts gX6_lock_X6_isSpan rfl rfl rfl (by decide +kernel) ⟨Nat.le_of_ble_eq_true rfl, Nat.le_of_ble_eq_true rfl⟩) ⟨tB_blind, tB_go⟩ rfl rfl hl.1 rfl (lv_room (Nat.le_of_ble_eq_true rfl)) dX6_lock_9 ⟨Nat.le_of_ble_eq_true rfl, Nat.le_of_ble_eq_true rfl⟩) hS (fun q _ h => h.elim) (fun q h => h.elim) (fun r5 u6 t H locs ht hvm hp7 hB hz1 hk1 hS => ?_)
    have hP := fr_keep hP hk1 fr_nA
    have hR := fr_rd hR0 hS hnr
    subst hp7
    refine lv_if_ne (tgt := 19) hx hb dX6_lock_12 (by decide) (fun c8 => ?_) (fun c8 => ?_)
    · have c8 := bI_n.mp c8
      refine lv_aload_n hx hb dX6_lock_19 rfl (lv_at hl 0 rfl) ?_
      refine va_get (D := D) (ci := 5) (v := .ref ha) (C := RX6) (T := TX6) (N := 5) hx hb hts hinX6 hown hw.1 hR 0 rfl rfl 0 (by decide) (hts (.fieldLink RX6 11 "WheelSwing" "hangings" "[LWheelSwing$Hanging;") (by decide +kernel)) (fun _ h9 => h9) rfl dX6_lock_20 ?_
      refine lv_iload_n hx hb dX6_lock_23 rfl (lv_at hl 1 rfl) ?_
      have HOKH := c4
      refine va_aldq hx hb hw.1 hR 1 1 rfl rfl (okH_in c4) dX6_lock_24 ?_
      refine lv_rfs (a := hg) (hfh HOKH) ?_
      refine lv_astore (lv' := [(4, .ref hg), (0, .ref o), (1, .int h), (2, .int y0), (3, .int y1)]) hx hb dX6_lock_25 hl (by decide) rfl (fun ls hl => ?_)
      refine lv_iload_n hx hb dX6_lock_27 rfl (lv_at hl 3 rfl) ?_
      refine lv_istore (lv' := [(5, .int y0), (4, .ref hg), (0, .ref o), (1, .int h), (2, .int y0), (3, .int y1)]) hx hb dX6_lock_28 hl (by decide) rfl (fun ls hl => ?_)
      obtain ⟨hy0, hy1, hyy⟩ := okS_i c8
      have h30 : lv_has ls 6 [(5, .int y0), (4, .ref hg), (3, .int y1), (0, .ref o)] := (lv_sub hl [0, 1, 5, 2] rfl)
      refine lpX6_lock D cI cH (y1 := y1) (R0 := sLock ux uy a lx ly b c sd g d sx sy f y0 y1) hx hb hml hown hts hw hno hna hne hgb hy1 hR0 (fun H locs ls s0 s1 p0 p1 p2 p3 p4 p5 p6 p7 p8 p9 p10 p11 r hS hP hr0 => ?_) (fun H locs ls s0 s1 p0 p1 p2 p3 p4 p5 p6 p7 p8 p9 p10 p11 hS hP hr0 => ?_) (y1.toInt - y0.toInt + 1).toNat y0 _ _ ls s0 s1 p0 p1 p2 p3 p4 p5 p6 p7 p8 p9 p10 p11 hS hP ⟨by omega, hy0.1, rfl⟩ h30
      · exact W.iret (v := r) hx hb hr (fun t ht hW => ⟨⟨r, [.int s0, .int s1, .double p0, .double p1, .double p2, .double p3, .double p4, .double p5, .double p6, .double p7, .double p8, .double p9, .double p10, .double p11], rfl, ⟨by rw [show (okH h && okS y0 y1) = true by simp [c4, c8], if_pos rfl]; exact hr0, ⟨_, _, _, _, _, _, _, _, _, _, _, _, _, _, rfl⟩⟩, at_heap ht (hP 0 _ rfl)⟩, hS.F ht⟩) hS.2.2 dX6_lock_62
      · refine lv_iconst (v := (-1)) hx hb dX6_lock_69 (by decide) ?_
        exact W.iret (v := (-1)) hx hb hr (fun t ht hW => ⟨⟨(-1), [.int s0, .int s1, .double p0, .double p1, .double p2, .double p3, .double p4, .double p5, .double p6, .double p7, .double p8, .double p9, .double p10, .double p11], rfl, ⟨by rw [show (okH h && okS y0 y1) = true by simp [c4, c8], if_pos rfl]; exact hr0, ⟨_, _, _, _, _, _, _, _, _, _, _, _, _, _, rfl⟩⟩, at_heap ht (hP 0 _ rfl)⟩, hS.F ht⟩) hS.2.2 dX6_lock_70
    · have c8 := bI_e.mp c8
      refine lv_sipush (v := (-2000)) hx hb dX6_lock_15 (by decide) ?_
      exact W.iret (v := (-2000)) hx hb hr (fun t ht hW => ⟨⟨(-2000), [.int s0, .int s1, .double p0, .double p1, .double p2, .double p3, .double p4, .double p5, .double p6, .double p7, .double p8, .double p9, .double p10, .double p11], rfl, ⟨by simp [c4, c8], ⟨_, _, _, _, _, _, _, _, _, _, _, _, _, _, rfl⟩⟩, at_heap ht (hP 0 _ rfl)⟩, hS.F ht⟩) hS.2.2 dX6_lock_18
noncomputable def okSq (ux uy a lx ly b c sd g d sx sy f ox oy z y : Int32) : Bool := !(bFree ux uy lx ly a b c y) || !(decide (fv (tSq c ox oy (tPx lx ly b y) (FP.i2d y) (tQx ux uy lx ly a b c sd y) (tQy ux uy lx ly a b c sd y)) < fv (FP.i2d (z * z))))
noncomputable def sClear (ux uy a lx ly b c sd g d sx sy f ox oy z y0 y1 : Int32) : Int32 := clrF (fun y => okSq ux uy a lx ly b c sd g d sx sy f ox oy z y) (y1.toInt - y0.toInt + 1).toNat y0
theorem zz_k {z : Int32} (h : isW z 0 500 = true) : (z * z).toInt.natAbs ≤ 2 ^ 20 := by
  obtain ⟨h1, h2⟩ := isW_i h
  have e1 : (0 : Int32).toInt = 0 := rfl
  have e2 : (500 : Int32).toInt = 500 := rfl
  have q1 := z_sq (z := z.toInt) (k := 500) (by omega) (by omega)
  rw [i3_mul (by omega) (by omega)]
  omega
set_option maxHeartbeats 4000000 in
set_option maxRecDepth 100000 in
theorem lpX6_clr {p : Program} {l : Launch} {e : Env} {s : State} {m : MethodId} {args : Array Value} {below : List Frame} {meth : Method} {co : Code} {Q : State → Prop} (D : va_G) (cI cH : ClassId) (hx : p.tables.exec = Jvm.exec) (hb : co.code = cX6_isClear) (hml : co.maxLocals = 9) (hown : s.vm.findClass RX6 = some m.cls) (hts : ∀ w ∈ wsX6_isClear, w.before args s = true) (hw : wk D cI cH s) {o ha st ca bx rd hg : Nat} {fh : Nat → Option Nat} {ux uy a lx ly b c sd g d sx sy f : Int32} {ox oy z y1 R0 : Int32} (hno : o ≠ st) (hna : ha ≠ st) (hne : hg ≠ st) (hgb : hgB ux uy a lx ly b c sd g d sx sy f) (hy1 : cB y1) (kox : cB ox) (koy : cB oy) (kz : (z * z).toInt.natAbs ≤ 2 ^ 20) (hR0 : va_P D vwCl [(o, .inr (5, [.ref ha, .ref st, .ref ca, .ref bx, .ref rd])), (ha, .inl (cH, 4, .inr (.inr (.inr (.inr fh))))), (hg, .inr (1, [.int ux, .int uy, .int a, .int lx, .int ly, .int b, .int c, .int sd, .int g, .int d, .int sx, .int sy, .int f]))] s.heap) (k1 : ∀ (H : Heap) (locs : List Loc) (ls : Array Slot) (s0 s1 : Int32) (p0 p1 p2 p3 p4 p5 p6 p7 p8 p9 p10 p11 : UInt64), va_S (aE st) s.heap H locs → va_P D vwCl [(st, .inr (4, [.int s0, .int s1, .double p0, .double p1, .double p2, .double p3, .double p4, .double p5, .double p6, .double p7, .double p8, .double p9, .double p10, .double p11]))] H → 0 = R0 → W p l e ({ frames := 4, cells := 0, slots := 0, locals := 106 } : Room) s m args below meth co H locs 0 0 Q (F0 m 113 ls [])) (k2 : ∀ (H : Heap) (locs : List Loc) (ls : Array Slot) (s0 s1 : Int32) (p0 p1 p2 p3 p4 p5 p6 p7 p8 p9 p10 p11 : UInt64), va_S (aE st) s.heap H locs → va_P D vwCl [(st, .inr (4, [.int s0, .int s1, .double p0, .double p1, .double p2, .double p3, .double p4, .double p5, .double p6, .double p7, .double p8, .double p9, .double p10, .double p11]))] H → 1 = R0 → W p l e ({ frames := 4, cells := 0, slots := 0, locals := 106 } : Room) s m args below meth co H locs 0 0 Q (F0 m 121 ls [])) : ∀ (n : Nat) (y : Int32) (H : Heap) (locs : List Loc) (ls : Array Slot) (s0 s1 : Int32) (p0 p1 p2 p3 p4 p5 p6 p7 p8 p9 p10 p11 : UInt64), va_S (aE st) s.heap H locs → va_P D vwCl [(st, .inr (4, [.int s0, .int s1, .double p0, .double p1, .double p2, .double p3, .double p4, .double p5, .double p6, .double p7, .double p8, .double p9, .double p10, .double p11]))] H → y.toInt + n = y1.toInt + 1 ∧ -1000 ≤ y.toInt ∧ clrF (fun y => okSq ux uy a lx ly b c sd g d sx sy f ox oy z y) n y = R0 → lv_has ls 9 [(8, .int y), (7, .ref hg), (6, .int y1), (4, .int z), (3, .int oy), (2, .int ox), (0, .ref o)] → W p l e ({ frames := 4, cells := 0, slots := 0, locals := 106 } : Room) s m args below meth co H locs 0 0 Q (F0 m 52 ls []) := by
  have hinX2 : ∀ w ∈ wsX20, w ∈ wsX6_isClear := by decide +kernel
  have hinX5 : ∀ w ∈ wsX50, w ∈ wsX6_isClear := by decide +kernel
  have hinX6 : ∀ w ∈ wsX60, w ∈ wsX6_isClear := by decide +kernel
  obtain ⟨kux, kuy, ka, klx, kly, kb, kc, hsd, kg, kd, ksx, ksy, kf⟩ := id hgb
  have hnr : ∀ (k9 : Nat) (q : Nat × va_E), ([(o, .inr (5, [.ref ha, .ref st, .ref ca, .ref bx, .ref rd])), (ha, .inl (cH, 4, .inr (.inr (.inr (.inr fh))))), (hg, .inr (1, [.int ux, .int uy, .int a, .int lx, .int ly, .int b, .int c, .int sd, .int g, .int d, .int sx, .int sy, .int f]))] : va_W)[k9]? = some q → ¬ (aE st) q.1 := nn_1 hno (nn_1 hna (nn_1 hne nn_0))
  intro n
  induction n with
  | zero =>
    intro y H locs ls s0 s1 p0 p1 p2 p3 p4 p5 p6 p7 p8 p9 p10 p11 hS hP hI hl
    obtain ⟨i1, i2, i3⟩ := hI
    have hD : va_D (aE st) [(st, .inr (4, [.int s0, .int s1, .double p0, .double p1, .double p2, .double p3, .double p4, .double p5, .double p6, .double p7, .double p8, .double p9, .double p10, .double p11]))] := D_1 rfl
    have hR := fr_rd hR0 hS hnr
    refine lv_iload hx hb dX6_isClear_52 (lv_at hl 0 rfl) ?_
    refine lv_iload hx hb dX6_isClear_54 (lv_at hl 2 rfl) ?_
    refine lv_icmp_gt (tgt := 121) hx hb dX6_isClear_56 (by decide) (fun c1 => ?_) (fun c1 => ?_)
    · have iw2 := Int32.not_le.mpr c1
      exact k2 H locs ls s0 s1 p0 p1 p2 p3 p4 p5 p6 p7 p8 p9 p10 p11 hS hP i3
    · have iw3 := Int32.not_lt.mp c1
      exact absurd (Int32.lt_iff_toInt_lt.mpr (by omega)) c1
  | succ n ih =>
    intro y H locs ls s0 s1 p0 p1 p2 p3 p4 p5 p6 p7 p8 p9 p10 p11 hS hP hI hl
    obtain ⟨i1, i2, i3⟩ := hI
    have hy1b : y1.toInt ≤ 1000 := hy1.2
    have hyc : cB y := ⟨i2, by omega⟩
    have hh : pB ux uy lx ly a b c y := ⟨kux, kuy, klx, kly, ka, kb, kc, (cB_y hyc).1⟩
    have hD : va_D (aE st) [(st, .inr (4, [.int s0, .int s1, .double p0, .double p1, .double p2, .double p3, .double p4, .double p5, .double p6, .double p7, .double p8, .double p9, .double p10, .double p11]))] := D_1 rfl
    have hR := fr_rd hR0 hS hnr
    refine lv_iload hx hb dX6_isClear_52 (lv_at hl 0 rfl) ?_
    refine lv_iload hx hb dX6_isClear_54 (lv_at hl 2 rfl) ?_
    refine lv_icmp_gt (tgt := 121) hx hb dX6_isClear_56 (by decide) (fun c1 => ?_) (fun c1 => ?_)
    · have iw2 := Int32.not_le.mpr c1
      exact absurd c1 (Int32.not_lt.mpr (Int32.le_iff_toInt_le.mpr (by omega)))
    · have iw3 := Int32.not_lt.mp c1
      refine lv_aload_n hx hb dX6_isClear_59 rfl (lv_at hl 6 rfl) ?_
      refine va_get (D := D) (ci := 5) (v := .ref st) (C := RX6) (T := TX6) (N := 5) hx hb hts hinX6 hown hw.1 hR 0 rfl rfl 1 (by decide) (hts (.fieldLink RX6 18 "WheelSwing" "stand" "LWheelSwing$Stand;") (by decide +kernel)) (fun _ h9 => h9) rfl dX6_isClear_60 ?_
      refine lv_aload hx hb dX6_isClear_63 (lv_at hl 1 rfl) ?_
      refine lv_aload hx hb dX6_isClear_65 (lv_at hl 1 rfl) ?_
      refine va_getN (host := "WheelSwing") (D := D) (ci := 1) (v := .int ux) (C := RX2) (T := TX2) (N := 13) hx hb hts hinX2 hown hw.1 hR 2 rfl rfl 0 (by decide) (va_Nw.use rfl (hw.2 (.fieldLinkNest RX6 89 "WheelSwing$Hanging" "ux" "I" "WheelSwing") (by decide +kernel))) (fun _ h9 => h9) rfl dX6_isClear_67 ?_
      refine lv_aload hx hb dX6_isClear_70 (lv_at hl 1 rfl) ?_
      refine va_getN (host := "WheelSwing") (D := D) (ci := 1) (v := .int uy) (C := RX2) (T := TX2) (N := 13) hx hb hts hinX2 hown hw.1 hR 2 rfl rfl 1 (by decide) (va_Nw.use rfl (hw.2 (.fieldLinkNest RX6 93 "WheelSwing$Hanging" "uy" "I" "WheelSwing") (by decide +kernel))) (fun _ h9 => h9) rfl dX6_isClear_72 ?_
      refine lv_iload hx hb dX6_isClear_75 (lv_at hl 0 rfl) ?_
      have hq4 : va_P D vwCl [(st, .inr (4, [.int s0, .int s1, .double p0, .double p1, .double p2, .double p3, .double p4, .double p5, .double p6, .double p7, .double p8, .double p9, .double p10, .double p11])), (hg, .inr (1, [.int ux, .int uy, .int a, .int lx, .int ly, .int b, .int c, .int sd, .int g, .int d, .int sx, .int sy, .int f]))] H := fr_cons (hP 0 _ rfl) (fr_cons (hR 2 _ rfl) (fr_nil))
      refine va_calli (va_runVN (As := [.ref hg, .int ux, .int uy, .int y]) (rest := []) ⟨hx, hb, hml, hown, hts⟩ (mX5_reach l D cI cH st hg s0 s1 p0 p1 p2 p3 p4 p5 p6 p7 p8 p9 p10 p11 ux uy a lx ly b c sd g d sx sy f ux uy y hne hh) (⟨va_cnB 4 hts gX6_isClear_X5_reach_n96 rfl rfl rfl (hw.2 (.methodLinkNest RX6 96 yX5_reach "WheelSwing") (by decide +kernel)) (hts (.initialized RX5) (by decide +kernel)) (by decide +kernel) ⟨Nat.le_of_ble_eq_true rfl, Nat.le_of_ble_eq_true rfl⟩, hts (.instanceMethod yX5_reach) (by decide +kernel), hts (.selects RX5 yX5_reach yX5_reach) (by decide +kernel)⟩) ⟨kB_blind, va_recv hw.1 hq4 (ci := 4) (q0 := 0) rfl rfl, kB_go hq4 hw⟩ rfl rfl hl.1 rfl (lv_room (Nat.le_of_ble_eq_true rfl)) dX6_isClear_77 ⟨Nat.le_of_ble_eq_true rfl, Nat.le_of_ble_eq_true rfl⟩) hS (fun q _ h => h) (fun q h => h) (fun r5 u6 t H locs ht hvm hp7 hB hz1 hk1 hS => ?_)
      have hB : va_at D vwCl (st, .inr (4, u6)) t.heap := hB
      rw [ht] at hB
      have hP := fr_one hB
      have hR := fr_rd hR0 hS hnr
      rcases hp7 with ⟨rfl, hfA, rfl⟩ | ⟨rfl, hnfA, j8, j9, j10, j11, j12, j13, j14, j15, j16, j17, j18, j19, j20, j21, rfl⟩
      · have h0A := hfA.1
        have heA := hfA.2.1
        have hkA := hfA.2.2
        have hP : va_P D vwCl [(st, .inr (4, [.int ux, .int uy, .double (tPx lx ly b y), .double (FP.i2d y), .double p2, .double p3, .double p4, .double p5, .double p6, .double p7, .double (tDx ux lx ly b y), .double (tDy uy y), .double (tM ux uy lx ly a b c y), .double (tK ux uy lx ly a b c y)]))] H := hP
        have hD : va_D (aE st) [(st, .inr (4, [.int ux, .int uy, .double (tPx lx ly b y), .double (FP.i2d y), .double p2, .double p3, .double p4, .double p5, .double p6, .double p7, .double (tDx ux lx ly b y), .double (tDy uy y), .double (tM ux uy lx ly a b c y), .double (tK ux uy lx ly a b c y)]))] := D_1 rfl
        refine lv_if_eq (tgt := 115) hx hb dX6_isClear_80 (by decide) (fun c23 => absurd c23 (by decide)) (fun _ => ?_)
        refine lv_aload_n hx hb dX6_isClear_83 rfl (lv_at hl 6 rfl) ?_
        refine va_get (D := D) (ci := 5) (v := .ref st) (C := RX6) (T := TX6) (N := 5) hx hb hts hinX6 hown hw.1 hR 0 rfl rfl 1 (by decide) (hts (.fieldLink RX6 18 "WheelSwing" "stand" "LWheelSwing$Stand;") (by decide +kernel)) (fun _ h9 => h9) rfl dX6_isClear_84 ?_
        refine lv_aload hx hb dX6_isClear_87 (lv_at hl 1 rfl) ?_
        have hq24 : va_P D vwCl [(st, .inr (4, [.int ux, .int uy, .double (tPx lx ly b y), .double (FP.i2d y), .double p2, .double p3, .double p4, .double p5, .double p6, .double p7, .double (tDx ux lx ly b y), .double (tDy uy y), .double (tM ux uy lx ly a b c y), .double (tK ux uy lx ly a b c y)])), (hg, .inr (1, [.int ux, .int uy, .int a, .int lx, .int ly, .int b, .int c, .int sd, .int g, .int d, .int sx, .int sy, .int f]))] H := fr_cons (hP 0 _ rfl) (fr_cons (hR 2 _ rfl) (fr_nil))
        refine va_callv (va_runVN (As := [.ref hg]) (rest := []) ⟨hx, hb, hml, hown, hts⟩ (mX5_placeUpright l D cI cH st hg p2 p3 p4 p5 p6 p7 ux uy a lx ly b c sd g d sx sy f ux uy y hne hh hsd hfA) (⟨va_cnB 1 hts gX6_isClear_X5_placeUpright_n102 rfl rfl rfl (hw.2 (.methodLinkNest RX6 102 yX5_placeUpright "WheelSwing") (by decide +kernel)) (hts (.initialized RX5) (by decide +kernel)) (by decide +kernel) ⟨Nat.le_of_ble_eq_true rfl, Nat.le_of_ble_eq_true rfl⟩, hts (.instanceMethod yX5_placeUpright) (by decide +kernel), hts (.selects RX5 yX5_placeUpright yX5_placeUpright) (by decide +kernel)⟩) ⟨kB_blind, va_recv hw.1 hq24 (ci := 4) (q0 := 0) rfl rfl, kB_go hq24 hw⟩ rfl rfl hl.1 rfl (lv_room (Nat.le_of_ble_eq_true rfl)) dX6_isClear_89 ⟨Nat.le_of_ble_eq_true rfl, Nat.le_of_ble_eq_true rfl⟩) hS (fun q _ h => h) (fun q h => h) (fun u26 t H locs ht hvm hp27 hB hz1 hk1 hS => ?_)
        have hB : va_at D vwCl (st, .inr (4, u26)) t.heap := hB
        rw [ht] at hB
        have hP := fr_one hB
        have hR := fr_rd hR0 hS hnr
        subst hp27
        have hP : va_P D vwCl [(st, .inr (4, [.int ux, .int uy, .double (tPx lx ly b y), .double (FP.i2d y), .double (tQx ux uy lx ly a b c sd y), .double (tQy ux uy lx ly a b c sd y), .double (tVx ux uy lx ly a b c sd y), .double (tVy ux uy lx ly a b c sd y), .double p6, .double p7, .double (tDx ux lx ly b y), .double (tDy uy y), .double (tM ux uy lx ly a b c y), .double (tK ux uy lx ly a b c y)]))] H := hP
        have hD : va_D (aE st) [(st, .inr (4, [.int ux, .int uy, .double (tPx lx ly b y), .double (FP.i2d y), .double (tQx ux uy lx ly a b c sd y), .double (tQy ux uy lx ly a b c sd y), .double (tVx ux uy lx ly a b c sd y), .double (tVy ux uy lx ly a b c sd y), .double p6, .double p7, .double (tDx ux lx ly b y), .double (tDy uy y), .double (tM ux uy lx ly a b c y), .double (tK ux uy lx ly a b c y)]))] := D_1 rfl
        refine lv_aload_n hx hb dX6_isClear_92 rfl (lv_at hl 6 rfl) ?_
        refine va_get (D := D) (ci := 5) (v := .ref st) (C := RX6) (T := TX6) (N := 5) hx hb hts hinX6 hown hw.1 hR 0 rfl rfl 1 (by decide) (hts (.fieldLink RX6 18 "WheelSwing" "stand" "LWheelSwing$Stand;") (by decide +kernel)) (fun _ h9 => h9) rfl dX6_isClear_93 ?_
        refine lv_aload hx hb dX6_isClear_96 (lv_at hl 1 rfl) ?_
        refine lv_iload_n hx hb dX6_isClear_98 rfl (lv_at hl 5 rfl) ?_
        refine lv_iload_n hx hb dX6_isClear_99 rfl (lv_at hl 4 rfl) ?_
        have hq28 : va_P D vwCl [(st, .inr (4, [.int ux, .int uy, .double (tPx lx ly b y), .double (FP.i2d y), .double (tQx ux uy lx ly a b c sd y), .double (tQy ux uy lx ly a b c sd y), .double (tVx ux uy lx ly a b c sd y), .double (tVy ux uy lx ly a b c sd y), .double p6, .double p7, .double (tDx ux lx ly b y), .double (tDy uy y), .double (tM ux uy lx ly a b c y), .double (tK ux uy lx ly a b c y)])), (hg, .inr (1, [.int ux, .int uy, .int a, .int lx, .int ly, .int b, .int c, .int sd, .int g, .int d, .int sx, .int sy, .int f]))] H := fr_cons (hP 0 _ rfl) (fr_cons (hR 2 _ rfl) (fr_nil))
        refine va_calld (va_runVN (As := [.ref hg, .int ox, .int oy]) (rest := []) ⟨hx, hb, hml, hown, hts⟩ (mX5_squareFrom l D cI cH st hg ux uy (tPx lx ly b y) (FP.i2d y) (tQx ux uy lx ly a b c sd y) (tQy ux uy lx ly a b c sd y) (tVx ux uy lx ly a b c sd y) (tVy ux uy lx ly a b c sd y) p6 p7 (tDx ux lx ly b y) (tDy uy y) (tM ux uy lx ly a b c y) (tK ux uy lx ly a b c y) ux uy a lx ly b c sd g d sx sy f ox oy kc kox koy (gz_px hh h0A) (gf_i2d 10 (yB_k hh.2.2.2.2.2.2.2)) (gz_qx hh h0A heA hkA hsd) (gz_qy hh h0A heA hkA hsd)) (⟨va_cnB 3 hts gX6_isClear_X5_squareFrom_n151 rfl rfl rfl (hw.2 (.methodLinkNest RX6 151 yX5_squareFrom "WheelSwing") (by decide +kernel)) (hts (.initialized RX5) (by decide +kernel)) (by decide +kernel) ⟨Nat.le_of_ble_eq_true rfl, Nat.le_of_ble_eq_true rfl⟩, hts (.instanceMethod yX5_squareFrom) (by decide +kernel), hts (.selects RX5 yX5_squareFrom yX5_squareFrom) (by decide +kernel)⟩) ⟨kB_blind, va_recv hw.1 hq28 (ci := 4) (q0 := 0) rfl rfl, kB_go hq28 hw⟩ rfl rfl hl.1 rfl (lv_room (Nat.le_of_ble_eq_true rfl)) dX6_isClear_100 ⟨Nat.le_of_ble_eq_true rfl, Nat.le_of_ble_eq_true rfl⟩) hS (fun q _ h => h.elim) (fun q h => h.elim) (fun r29 u30 t H locs ht hvm hp31 hB hz1 hk1 hS => ?_)
        have hP := fr_keep hP hk1 fr_nA
        have hR := fr_rd hR0 hS hnr
        subst hp31
        refine lv_iload hx hb dX6_isClear_103 (lv_at hl 3 rfl) ?_
        refine lv_iload hx hb dX6_isClear_105 (lv_at hl 3 rfl) ?_
        refine lv_imul hx hb dX6_isClear_107 ?_
        refine lv_i2d hx hb dX6_isClear_108 ?_
        have gw32 := gf_i2d 20 kz
        refine lv_dcmp hx hb dX6_isClear_109 ?_
        rw [fp_cv (gz_sq kc kox koy (gz_px hh h0A) (gf_i2d 10 (yB_k hh.2.2.2.2.2.2.2)) (gz_qx hh h0A heA hkA hsd) (gz_qy hh h0A heA hkA hsd)).1 gw32.1]
        refine lv_if_ge (tgt := 115) hx hb dX6_isClear_110 (by decide) (fun c33 => ?_) (fun c33 => ?_)
        · rw [fcv_ge] at c33
          refine lv_iinc (v := y + 1) (lv' := [(8, .int (y + 1)), (7, .ref hg), (6, .int y1), (4, .int z), (3, .int oy), (2, .int ox), (0, .ref o)]) hx hb dX6_isClear_115 hl (k := 0) rfl rfl (by decide) rfl (fun ls hl => ?_)
          refine lv_goto (tgt := 52) hx hb dX6_isClear_118 (by decide) ?_
          have hok9 : okSq ux uy a lx ly b c sd g d sx sy f ox oy z y = true := by show (!(bFree ux uy lx ly a b c y) || !(decide (fv (tSq c ox oy (tPx lx ly b y) (FP.i2d y) (tQx ux uy lx ly a b c sd y) (tQy ux uy lx ly a b c sd y)) < fv (FP.i2d (z * z))))) = true; rw [decide_eq_false (Int.not_lt.mpr c33)]; simp
          have h9 : lv_has ls 9 [(8, .int (y + 1)), (7, .ref hg), (6, .int y1), (4, .int z), (3, .int oy), (2, .int ox), (0, .ref o)] := (lv_sub hl [0, 1, 2, 3, 4, 5, 6] rfl)
          exact ih (y + 1) H locs ls ux uy (tPx lx ly b y) (FP.i2d y) (tQx ux uy lx ly a b c sd y) (tQy ux uy lx ly a b c sd y) (tVx ux uy lx ly a b c sd y) (tVy ux uy lx ly a b c sd y) p6 p7 (tDx ux lx ly b y) (tDy uy y) (tM ux uy lx ly a b c y) (tK ux uy lx ly a b c y) hS hP ⟨by rw [y_next hyc]; omega, by rw [y_next hyc]; omega, by rw [← i3]; exact (clrF_t (fr := (fun y => okSq ux uy a lx ly b c sd g d sx sy f ox oy z y)) hok9).symm⟩ h9
        · rw [fcv_ge] at c33
          have hok9 : okSq ux uy a lx ly b c sd g d sx sy f ox oy z y = false := by show (!(bFree ux uy lx ly a b c y) || !(decide (fv (tSq c ox oy (tPx lx ly b y) (FP.i2d y) (tQx ux uy lx ly a b c sd y) (tQy ux uy lx ly a b c sd y)) < fv (FP.i2d (z * z))))) = false; rw [bFree_t hfA, decide_eq_true (Int.not_le.mp c33)]; rfl
          exact k1 H locs ls ux uy (tPx lx ly b y) (FP.i2d y) (tQx ux uy lx ly a b c sd y) (tQy ux uy lx ly a b c sd y) (tVx ux uy lx ly a b c sd y) (tVy ux uy lx ly a b c sd y) p6 p7 (tDx ux lx ly b y) (tDy uy y) (tM ux uy lx ly a b c y) (tK ux uy lx ly a b c y) hS hP (by rw [← i3]; exact (clrF_f (fr := (fun y => okSq ux uy a lx ly b c sd g d sx sy f ox oy z y)) hok9).symm)
      · have hP : va_P D vwCl [(st, .inr (4, [.int j8, .int j9, .double j10, .double j11, .double j12, .double j13, .double j14, .double j15, .double j16, .double j17, .double j18, .double j19, .double j20, .double j21]))] H := hP
        have hD : va_D (aE st) [(st, .inr (4, [.int j8, .int j9, .double j10, .double j11, .double j12, .double j13, .double j14, .double j15, .double j16, .double j17, .double j18, .double j19, .double j20, .double j21]))] := D_1 rfl
        refine lv_if_eq (tgt := 115) hx hb dX6_isClear_80 (by decide) (fun _ => ?_) (fun c35 => absurd c35 (by decide))
        refine lv_iinc (v := y + 1) (lv' := [(8, .int (y + 1)), (7, .ref hg), (6, .int y1), (4, .int z), (3, .int oy), (2, .int ox), (0, .ref o)]) hx hb dX6_isClear_115 hl (k := 0) rfl rfl (by decide) rfl (fun ls hl => ?_)
        refine lv_goto (tgt := 52) hx hb dX6_isClear_118 (by decide) ?_
        have hok9 : okSq ux uy a lx ly b c sd g d sx sy f ox oy z y = true := by show (!(bFree ux uy lx ly a b c y) || _) = true; rw [bFree_f hnfA]; rfl
        have h9 : lv_has ls 9 [(8, .int (y + 1)), (7, .ref hg), (6, .int y1), (4, .int z), (3, .int oy), (2, .int ox), (0, .ref o)] := (lv_sub hl [0, 1, 2, 3, 4, 5, 6] rfl)
        exact ih (y + 1) H locs ls j8 j9 j10 j11 j12 j13 j14 j15 j16 j17 j18 j19 j20 j21 hS hP ⟨by rw [y_next hyc]; omega, by rw [y_next hyc]; omega, by rw [← i3]; exact (clrF_t (fr := (fun y => okSq ux uy a lx ly b c sd g d sx sy f ox oy z y)) hok9).symm⟩ h9
set_option maxHeartbeats 4000000 in
set_option maxRecDepth 100000 in
theorem mX6_isClear (l : Launch) (D : va_G) (cI cH : ClassId) (o ha st ca bx rd hg : Nat) (fh : Nat → Option Nat) (s0 s1 : Int32) (p0 p1 p2 p3 p4 p5 p6 p7 p8 p9 p10 p11 : UInt64) (ux uy a lx ly b c sd g d sx sy f : Int32) (h ox oy z y0 y1 : Int32)  (hno : o ≠ st) (hna : ha ≠ st) (hne : hg ≠ st) (hgb : hgB ux uy a lx ly b c sd g d sx sy f) (hfh : okH h = true → fh h.toNatClampNeg = some hg) : Met l yX6_isClear wsX6_isClear ({ frames := 4, cells := 0, slots := 0, locals := 106 }) (va_Pc [.ref o, .int h, .int ox, .int oy, .int z, .int y0, .int y1] (kB D cI cH [(st, .inr (4, [.int s0, .int s1, .double p0, .double p1, .double p2, .double p3, .double p4, .double p5, .double p6, .double p7, .double p8, .double p9, .double p10, .double p11])), (o, .inr (5, [.ref ha, .ref st, .ref ca, .ref bx, .ref rd])), (ha, .inl (cH, 4, .inr (.inr (.inr (.inr fh))))), (hg, .inr (1, [.int ux, .int uy, .int a, .int lx, .int ly, .int b, .int c, .int sd, .int g, .int d, .int sx, .int sy, .int f]))])) (va_Qi (fun (r : Int32) (u : List Value) => r = (if okH h && (okP ox oy && (isW z 0 500 && okS y0 y1)) then sClear ux uy a lx ly b c sd g d sx sy f ox oy z y0 y1 else -2) ∧ isSt u) (fun u t => va_at D vwCl (st, .inr (4, u)) t.heap) (aE st)) 0 0 (aE st) := by
  refine Met.ofW (cc := cX6_isClear) (maxL := 9) (ret := (some .int)) (by decide) rfl ?_
  intro p e s m args below meth co s₁ B hml hv
  obtain ⟨rfl, hP0, hw⟩ := hv
  have hx := B.exec
  have hb := B.bytes
  have hr := B.returns
  have hts := atoms_spec (ws := wsX6_isClear) B.pre
  have hown : s.vm.findClass RX6 = some m.cls := findClass_of_methodNamed B.named
  have hlocks := B.notSynchronized
  have hinX2 : ∀ w ∈ wsX20, w ∈ wsX6_isClear := by decide +kernel
  have hinX5 : ∀ w ∈ wsX50, w ∈ wsX6_isClear := by decide +kernel
  have hinX6 : ∀ w ∈ wsX60, w ∈ wsX6_isClear := by decide +kernel
  have hS : va_S (aE st) s.heap s.heap [] := va_S.rf
  have hP : va_P D vwCl [(st, .inr (4, [.int s0, .int s1, .double p0, .double p1, .double p2, .double p3, .double p4, .double p5, .double p6, .double p7, .double p8, .double p9, .double p10, .double p11]))] s.heap := hP0.sub [0] rfl
  have hD : va_D (aE st) [(st, .inr (4, [.int s0, .int s1, .double p0, .double p1, .double p2, .double p3, .double p4, .double p5, .double p6, .double p7, .double p8, .double p9, .double p10, .double p11]))] := D_1 rfl
  have hR0 : va_P D vwCl [(o, .inr (5, [.ref ha, .ref st, .ref ca, .ref bx, .ref rd])), (ha, .inl (cH, 4, .inr (.inr (.inr (.inr fh))))), (hg, .inr (1, [.int ux, .int uy, .int a, .int lx, .int ly, .int b, .int c, .int sd, .int g, .int d, .int sx, .int sy, .int f]))] s.heap := hP0.sub [1, 2, 3] rfl
  have hR := hR0
  have hnr : ∀ (k9 : Nat) (q : Nat × va_E), ([(o, .inr (5, [.ref ha, .ref st, .ref ca, .ref bx, .ref rd])), (ha, .inl (cH, 4, .inr (.inr (.inr (.inr fh))))), (hg, .inr (1, [.int ux, .int uy, .int a, .int lx, .int ly, .int b, .int c, .int sd, .int g, .int d, .int sx, .int sy, .int f]))] : va_W)[k9]? = some q → ¬ (aE st) q.1 := nn_1 hno (nn_1 hna (nn_1 hne nn_0))
  obtain ⟨kux, kuy, ka, klx, kly, kb, kc, hsd, kg, kd, ksx, ksy, kf⟩ := id hgb
  have hl := lv_entry ([.ref o, .int h, .int ox, .int oy, .int z, .int y0, .int y1]) (n := 9) (Nat.le_of_ble_eq_true rfl)
  rw [lg_entry_eq]
  generalize (lg_sl ([.ref o, .int h, .int ox, .int oy, .int z, .int y0, .int y1]) ++ List.replicate (9 - (lg_sl ([.ref o, .int h, .int ox, .int oy, .int z, .int y0, .int y1])).length) Slot.unset).toArray = ls at hl ⊢
  have hl : lv_has ls 9 [(0, .ref o), (1, .int h), (2, .int ox), (3, .int oy), (4, .int z), (5, .int y0), (6, .int y1)] := hl
  skip
  refine lv_iload_n hx hb dX6_isClear_0 rfl (lv_at hl 1 rfl) ?_
  refine va_calli (va_runS (As := [.int h]) (rest := []) ⟨hx, hb, hml, hown, hts⟩ (mX6_isHanging l h) (va_cwS 1 hts gX6_isClear_X6_isHanging rfl rfl rfl (by decide +kernel) ⟨Nat.le_of_ble_eq_true rfl, Nat.le_of_ble_eq_true rfl⟩) ⟨tB_blind, tB_go⟩ rfl rfl hl.1 rfl (lv_room (Nat.le_of_ble_eq_true rfl)) dX6_isClear_1 ⟨Nat.le_of_ble_eq_true rfl, Nat.le_of_ble_eq_true rfl⟩) hS (fun q _ h => h.elim) (fun q h => h.elim) (fun r1 u2 t H locs ht hvm hp3 hB hz1 hk1 hS => ?_)
  have hP := fr_keep hP hk1 fr_nA
  have hR := fr_rd hR0 hS hnr
  subst hp3
  refine lv_if_eq (tgt := 37) hx hb dX6_isClear_4 (by decide) (fun c4 => ?_) (fun c4 => ?_)
  · have c4 := bI_e.mp c4
    refine lv_bipush (v := (-2)) hx hb dX6_isClear_37 (by decide) ?_
    exact W.iret (v := (-2)) hx hb hr (fun t ht hW => ⟨⟨(-2), [.int s0, .int s1, .double p0, .double p1, .double p2, .double p3, .double p4, .double p5, .double p6, .double p7, .double p8, .double p9, .double p10, .double p11], rfl, ⟨by simp [c4], ⟨_, _, _, _, _, _, _, _, _, _, _, _, _, _, rfl⟩⟩, at_heap ht (hP 0 _ rfl)⟩, hS.F ht⟩) hS.2.2 dX6_isClear_39
  · have c4 := bI_n.mp c4
    refine lv_iload_n hx hb dX6_isClear_7 rfl (lv_at hl 2 rfl) ?_
    refine lv_iload_n hx hb dX6_isClear_8 rfl (lv_at hl 3 rfl) ?_
    refine va_calli (va_runS (As := [.int ox, .int oy]) (rest := []) ⟨hx, hb, hml, hown, hts⟩ (mX6_isPoint l ox oy) (va_cwS 2 hts gX6_isClear_X6_isPoint rfl rfl rfl (by decide +kernel) ⟨Nat.le_of_ble_eq_true rfl, Nat.le_of_ble_eq_true rfl⟩) ⟨tB_blind, tB_go⟩ rfl rfl hl.1 rfl (lv_room (Nat.le_of_ble_eq_true rfl)) dX6_isClear_9 ⟨Nat.le_of_ble_eq_true rfl, Nat.le_of_ble_eq_true rfl⟩) hS (fun q _ h => h.elim) (fun q h => h.elim) (fun r5 u6 t H locs ht hvm hp7 hB hz1 hk1 hS => ?_)
    have hP := fr_keep hP hk1 fr_nA
    have hR := fr_rd hR0 hS hnr
    subst hp7
    refine lv_if_eq (tgt := 37) hx hb dX6_isClear_12 (by decide) (fun c8 => ?_) (fun c8 => ?_)
    · have c8 := bI_e.mp c8
      refine lv_bipush (v := (-2)) hx hb dX6_isClear_37 (by decide) ?_
      exact W.iret (v := (-2)) hx hb hr (fun t ht hW => ⟨⟨(-2), [.int s0, .int s1, .double p0, .double p1, .double p2, .double p3, .double p4, .double p5, .double p6, .double p7, .double p8, .double p9, .double p10, .double p11], rfl, ⟨by simp [c4, c8], ⟨_, _, _, _, _, _, _, _, _, _, _, _, _, _, rfl⟩⟩, at_heap ht (hP 0 _ rfl)⟩, hS.F ht⟩) hS.2.2 dX6_isClear_39
    · have c8 := bI_n.mp c8
      refine lv_iload hx hb dX6_isClear_15 (lv_at hl 4 rfl) ?_
      refine lv_iconst (v := 0) hx hb dX6_isClear_17 (by decide) ?_
      refine lv_sipush (v := 500) hx hb dX6_isClear_18 (by decide) ?_
      refine va_calli (va_runS (As := [.int z, .int 0, .int 500]) (rest := []) ⟨hx, hb, hml, hown, hts⟩ (mX6_isWithin l z 0 500) (va_cwS 3 hts gX6_isClear_X6_isWithin rfl rfl rfl (by decide +kernel) ⟨Nat.le_of_ble_eq_true rfl, Nat.le_of_ble_eq_true rfl⟩) ⟨tB_blind, tB_go⟩ rfl rfl hl.1 rfl (lv_room (Nat.le_of_ble_eq_true rfl)) dX6_isClear_21 ⟨Nat.le_of_ble_eq_true rfl, Nat.le_of_ble_eq_true rfl⟩) hS (fun q _ h => h.elim) (fun q h => h.elim) (fun r9 u10 t H locs ht hvm hp11 hB hz1 hk1 hS => ?_)
      have hP := fr_keep hP hk1 fr_nA
      have hR := fr_rd hR0 hS hnr
      subst hp11
      refine lv_if_eq (tgt := 37) hx hb dX6_isClear_24 (by decide) (fun c12 => ?_) (fun c12 => ?_)
      · have c12 := bI_e.mp c12
        refine lv_bipush (v := (-2)) hx hb dX6_isClear_37 (by decide) ?_
        exact W.iret (v := (-2)) hx hb hr (fun t ht hW => ⟨⟨(-2), [.int s0, .int s1, .double p0, .double p1, .double p2, .double p3, .double p4, .double p5, .double p6, .double p7, .double p8, .double p9, .double p10, .double p11], rfl, ⟨by simp [c4, c8, c12], ⟨_, _, _, _, _, _, _, _, _, _, _, _, _, _, rfl⟩⟩, at_heap ht (hP 0 _ rfl)⟩, hS.F ht⟩) hS.2.2 dX6_isClear_39
      · have c12 := bI_n.mp c12
        refine lv_iload hx hb dX6_isClear_27 (lv_at hl 5 rfl) ?_
        refine lv_iload hx hb dX6_isClear_29 (lv_at hl 6 rfl) ?_
        refine va_calli (va_runS (As := [.int y0, .int y1]) (rest := []) ⟨hx, hb, hml, hown, hts⟩ (mX6_isSpan l y0 y1) (va_cwS 2 hts gX6_isClear_X6_isSpan rfl rfl rfl (by decide +kernel) ⟨Nat.le_of_ble_eq_true rfl, Nat.le_of_ble_eq_true rfl⟩) ⟨tB_blind, tB_go⟩ rfl rfl hl.1 rfl (lv_room (Nat.le_of_ble_eq_true rfl)) dX6_isClear_31 ⟨Nat.le_of_ble_eq_true rfl, Nat.le_of_ble_eq_true rfl⟩) hS (fun q _ h => h.elim) (fun q h => h.elim) (fun r13 u14 t H locs ht hvm hp15 hB hz1 hk1 hS => ?_)
        have hP := fr_keep hP hk1 fr_nA
        have hR := fr_rd hR0 hS hnr
        subst hp15
        refine lv_if_ne (tgt := 40) hx hb dX6_isClear_34 (by decide) (fun c16 => ?_) (fun c16 => ?_)
        · have c16 := bI_n.mp c16
          refine lv_aload_n hx hb dX6_isClear_40 rfl (lv_at hl 0 rfl) ?_
          refine va_get (D := D) (ci := 5) (v := .ref ha) (C := RX6) (T := TX6) (N := 5) hx hb hts hinX6 hown hw.1 hR 0 rfl rfl 0 (by decide) (hts (.fieldLink RX6 11 "WheelSwing" "hangings" "[LWheelSwing$Hanging;") (by decide +kernel)) (fun _ h9 => h9) rfl dX6_isClear_41 ?_
          refine lv_iload_n hx hb dX6_isClear_44 rfl (lv_at hl 1 rfl) ?_
          have HOKH := c4
          refine va_aldq hx hb hw.1 hR 1 1 rfl rfl (okH_in c4) dX6_isClear_45 ?_
          refine lv_rfs (a := hg) (hfh HOKH) ?_
          refine lv_astore (lv' := [(7, .ref hg), (0, .ref o), (1, .int h), (2, .int ox), (3, .int oy), (4, .int z), (5, .int y0), (6, .int y1)]) hx hb dX6_isClear_46 hl (by decide) rfl (fun ls hl => ?_)
          refine lv_iload hx hb dX6_isClear_48 (lv_at hl 6 rfl) ?_
          refine lv_istore (lv' := [(8, .int y0), (7, .ref hg), (0, .ref o), (1, .int h), (2, .int ox), (3, .int oy), (4, .int z), (5, .int y0), (6, .int y1)]) hx hb dX6_isClear_50 hl (by decide) rfl (fun ls hl => ?_)
          obtain ⟨hy0, hy1, hyy⟩ := okS_i c16
          have hop := c8
          unfold okP at hop
          rw [Bool.and_eq_true] at hop
          have h30 : lv_has ls 9 [(8, .int y0), (7, .ref hg), (6, .int y1), (4, .int z), (3, .int oy), (2, .int ox), (0, .ref o)] := (lv_sub hl [0, 1, 8, 6, 5, 4, 2] rfl)
          refine lpX6_clr D cI cH (ox := ox) (oy := oy) (z := z) (y1 := y1) (R0 := sClear ux uy a lx ly b c sd g d sx sy f ox oy z y0 y1) hx hb hml hown hts hw hno hna hne hgb hy1 (okC_c hop.1) (okC_c hop.2) (zz_k c12) hR0 (fun H locs ls s0 s1 p0 p1 p2 p3 p4 p5 p6 p7 p8 p9 p10 p11 hS hP hr0 => ?_) (fun H locs ls s0 s1 p0 p1 p2 p3 p4 p5 p6 p7 p8 p9 p10 p11 hS hP hr0 => ?_) (y1.toInt - y0.toInt + 1).toNat y0 _ _ ls s0 s1 p0 p1 p2 p3 p4 p5 p6 p7 p8 p9 p10 p11 hS hP ⟨by omega, hy0.1, rfl⟩ h30
          · refine lv_iconst (v := 0) hx hb dX6_isClear_113 (by decide) ?_
            exact W.iret (v := 0) hx hb hr (fun t ht hW => ⟨⟨0, [.int s0, .int s1, .double p0, .double p1, .double p2, .double p3, .double p4, .double p5, .double p6, .double p7, .double p8, .double p9, .double p10, .double p11], rfl, ⟨by rw [show (okH h && (okP ox oy && (isW z 0 500 && okS y0 y1))) = true by simp [c4, c8, c12, c16], if_pos rfl]; exact hr0, ⟨_, _, _, _, _, _, _, _, _, _, _, _, _, _, rfl⟩⟩, at_heap ht (hP 0 _ rfl)⟩, hS.F ht⟩) hS.2.2 dX6_isClear_114
          · refine lv_iconst (v := 1) hx hb dX6_isClear_121 (by decide) ?_
            exact W.iret (v := 1) hx hb hr (fun t ht hW => ⟨⟨1, [.int s0, .int s1, .double p0, .double p1, .double p2, .double p3, .double p4, .double p5, .double p6, .double p7, .double p8, .double p9, .double p10, .double p11], rfl, ⟨by rw [show (okH h && (okP ox oy && (isW z 0 500 && okS y0 y1))) = true by simp [c4, c8, c12, c16], if_pos rfl]; exact hr0, ⟨_, _, _, _, _, _, _, _, _, _, _, _, _, _, rfl⟩⟩, at_heap ht (hP 0 _ rfl)⟩, hS.F ht⟩) hS.2.2 dX6_isClear_122
        · have c16 := bI_e.mp c16
          refine lv_bipush (v := (-2)) hx hb dX6_isClear_37 (by decide) ?_
          exact W.iret (v := (-2)) hx hb hr (fun t ht hW => ⟨⟨(-2), [.int s0, .int s1, .double p0, .double p1, .double p2, .double p3, .double p4, .double p5, .double p6, .double p7, .double p8, .double p9, .double p10, .double p11], rfl, ⟨by simp [c4, c8, c12, c16], ⟨_, _, _, _, _, _, _, _, _, _, _, _, _, _, rfl⟩⟩, at_heap ht (hP 0 _ rfl)⟩, hS.F ht⟩) hS.2.2 dX6_isClear_39
