/-! THE MODEL (X7): how far a hanging is off; off, found -/
def isMp (nu sh ra rr k k2 : Nat) (ct cp cr ctr cfs : Int32) (po : UInt64) (u : List Value) : Prop := ∃ (x0 x1 x2 x3 x4 x5 x6 x7 x8 x9 : UInt64), u = [.ref nu, .double x0, .double x1, .double x2, .double x3, .double x4, .double x5, .double x6, .double x7, .double x8, .double x9, .int ct, .int cp, .int cr, .int ctr, .int cfs, .int (nI k), .ref sh, .int (nI k2), .ref ra, .ref rr, .double po]
theorem isMp_M {nu sh ra rr k k2 : Nat} {ct cp cr ctr cfs : Int32} {po : UInt64} {u : List Value} (h : isMp nu sh ra rr k k2 ct cp cr ctr cfs po u) : isM nu sh ra rr k k2 ct cp cr ctr cfs u := by
  obtain ⟨x0, x1, x2, x3, x4, x5, x6, x7, x8, x9, rfl⟩ := h
  exact ⟨x0, x1, x2, x3, x4, x5, x6, x7, x8, x9, po, rfl⟩
set_option maxHeartbeats 4000000 in
set_option maxRecDepth 100000 in
theorem lpX7_off {p : Program} {l : Launch} {e : Env} {s : State} {m : MethodId} {args : Array Value} {below : List Frame} {meth : Method} {co : Code} {Q : State → Prop} (D : va_G) (cI cH : ClassId) (hx : p.tables.exec = Jvm.exec) (hb : co.code = cX7_isOff) (hml : co.maxLocals = 5) (hown : s.vm.findClass RX7 = some m.cls) (hts : ∀ w ∈ wsX7_isOff, w.before args s = true) (hw : wk D cI cH s) {mo nu sh ra rr k k2 q : Nat} {N : Nat → Int32} {ct cp cr ctr cfs : Int32} {U V lx ly a b c sd g d sx sy f : Int32} {f1 f2 : Nat → Int32} (hqq : q < 4) (hne : nu ≠ mo) (hN : hasN N q U V lx ly a b c sd g d sx sy f) (hgb : hgB U V a lx ly b c sd g d sx sy f)  (hra : ra ≠ mo) (hrr : rr ≠ mo) (hkk : k2 ≤ 12) (hrd : ∀ j, j < k2 → cB (f1 j) ∧ rB (f2 j)) (hR0 : va_P D vwCl [(nu, .inl (cI, 52, .inl N)), (ra, .inl (cI, 12, .inl f1)), (rr, .inl (cI, 12, .inl f2))] s.heap) (kz1 : ∀ (H : Heap) (locs : List Loc) (ls : Array Slot) (p0 p1 p2 p3 p4 p5 p6 p7 p8 p9 po : UInt64), va_S (aE mo) s.heap H locs → va_P D vwCl [(mo, .inr (6, [.ref nu, .double p0, .double p1, .double p2, .double p3, .double p4, .double p5, .double p6, .double p7, .double p8, .double p9, .int ct, .int cp, .int cr, .int ctr, .int cfs, .int (nI k), .ref sh, .int (nI k2), .ref ra, .ref rr, .double po]))] H → oF U V lx ly a b c sd f1 f2 k2 = none → W p l e ({ frames := 2, cells := 0, slots := 0, locals := 75 } : Room) s m args below meth co H locs 0 0 Q (F0 m 38 ls [])) (kz3 : ∀ (H : Heap) (locs : List Loc) (ls : Array Slot) (sm : UInt64) (p0 p1 p2 p3 p4 p5 p6 p7 p8 p9 : UInt64), va_S (aE mo) s.heap H locs → va_P D vwCl [(mo, .inr (6, [.ref nu, .double p0, .double p1, .double p2, .double p3, .double p4, .double p5, .double p6, .double p7, .double p8, .double p9, .int ct, .int cp, .int cr, .int ctr, .int cfs, .int (nI k), .ref sh, .int (nI k2), .ref ra, .ref rr, .double sm]))] H → oF U V lx ly a b c sd f1 f2 k2 = some sm → fGr 322 (1661 + k2) sm → 0 ≤ fv sm → W p l e ({ frames := 2, cells := 0, slots := 0, locals := 75 } : Room) s m args below meth co H locs 0 0 Q (F0 m 80 ls [])) : ∀ (n j : Nat) (sm : UInt64) (H : Heap) (locs : List Loc) (ls : Array Slot) (p0 p1 p2 p3 p4 p5 p6 p7 p8 p9 : UInt64), va_S (aE mo) s.heap H locs → va_P D vwCl [(mo, .inr (6, [.ref nu, .double p0, .double p1, .double p2, .double p3, .double p4, .double p5, .double p6, .double p7, .double p8, .double p9, .int ct, .int cp, .int cr, .int ctr, .int cfs, .int (nI k), .ref sh, .int (nI k2), .ref ra, .ref rr, .double sm]))] H → j + n = k2 → oF U V lx ly a b c sd f1 f2 j = some sm → fGr 322 (1661 + j) sm → 0 ≤ fv sm → lv_has ls 5 [(2, .int (nI j)), (1, .int (nI q)), (0, .ref mo)] → W p l e ({ frames := 2, cells := 0, slots := 0, locals := 75 } : Room) s m args below meth co H locs 0 0 Q (F0 m 7 ls []) := by
  have hinX7 : ∀ w ∈ wsX70, w ∈ wsX7_isOff := by decide +kernel
  obtain ⟨hN0, hN1, hN2, hN3, hN4, hN5, hN6, hN7, hN8, hN9, hN10, hN11, hN12⟩ := id hN
  obtain ⟨kU, kV, ka, klx, kly, kb, kc, hsd, kg, kd, ksx, ksy, kf⟩ := id hgb
  have hnr : ∀ (k9 : Nat) (q : Nat × va_E), ([(nu, .inl (cI, 52, .inl N)), (ra, .inl (cI, 12, .inl f1)), (rr, .inl (cI, 12, .inl f2))] : va_W)[k9]? = some q → ¬ (aE mo) q.1 := nn_1 hne (nn_1 hra (nn_1 hrr nn_0))
  intro n
  induction n with
  | zero =>
    intro j sm H locs ls p0 p1 p2 p3 p4 p5 p6 p7 p8 p9 hS hP hj ho gs hs0 hl
    have hjk : j = k2 := by omega
    subst hjk
    have hD : va_D (aE mo) [(mo, .inr (6, [.ref nu, .double p0, .double p1, .double p2, .double p3, .double p4, .double p5, .double p6, .double p7, .double p8, .double p9, .int ct, .int cp, .int cr, .int ctr, .int cfs, .int (nI k), .ref sh, .int (nI j), .ref ra, .ref rr, .double sm]))] := D_1 rfl
    have hR := fr_rd hR0 hS hnr
    refine lv_iload_n hx hb dX7_isOff_7 rfl (lv_at hl 0 rfl) ?_
    refine lv_aload_n hx hb dX7_isOff_8 rfl (lv_at hl 2 rfl) ?_
    refine va_get (D := D) (ci := 6) (v := .int (nI j)) (C := RX7) (T := TX7) (N := 22) hx hb hts hinX7 hown hw.1 hP 0 rfl rfl 18 (by decide) (hts (.fieldLink RX7 140 "WheelSwingModel" "readings" "I") (by decide +kernel)) (fun _ h9 => h9) rfl dX7_isOff_9 ?_
    refine lv_icmp_ge (tgt := 80) hx hb dX7_isOff_12 (by decide) (fun c1 => ?_) (fun c1 => ?_)
    · have iw2 := Int32.not_lt.mpr c1
      exact kz3 H locs ls sm p0 p1 p2 p3 p4 p5 p6 p7 p8 p9 hS hP ho gs hs0
    · have iw3 := Int32.not_le.mp c1
      exact absurd (Int32.le_refl _) c1
  | succ n ih =>
    intro j sm H locs ls p0 p1 p2 p3 p4 p5 p6 p7 p8 p9 hS hP hj ho gs hs0 hl
    have hD : va_D (aE mo) [(mo, .inr (6, [.ref nu, .double p0, .double p1, .double p2, .double p3, .double p4, .double p5, .double p6, .double p7, .double p8, .double p9, .int ct, .int cp, .int cr, .int ctr, .int cfs, .int (nI k), .ref sh, .int (nI k2), .ref ra, .ref rr, .double sm]))] := D_1 rfl
    have hR := fr_rd hR0 hS hnr
    have hjl : j < k2 := by omega
    obtain ⟨hrc, hrb⟩ := hrd j hjl
    have hh : pB U V lx ly a b c (f1 j) := ⟨kU, kV, klx, kly, ka, kb, kc, (cB_y hrc).1⟩
    refine lv_iload_n hx hb dX7_isOff_7 rfl (lv_at hl 0 rfl) ?_
    refine lv_aload_n hx hb dX7_isOff_8 rfl (lv_at hl 2 rfl) ?_
    refine va_get (D := D) (ci := 6) (v := .int (nI k2)) (C := RX7) (T := TX7) (N := 22) hx hb hts hinX7 hown hw.1 hP 0 rfl rfl 18 (by decide) (hts (.fieldLink RX7 140 "WheelSwingModel" "readings" "I") (by decide +kernel)) (fun _ h9 => h9) rfl dX7_isOff_9 ?_
    refine lv_icmp_ge (tgt := 80) hx hb dX7_isOff_12 (by decide) (fun c1 => ?_) (fun c1 => ?_)
    · have iw2 := Int32.not_lt.mpr c1
      exact absurd ((nI_leI (by omega) (by omega)).mp c1) (by omega)
    · have iw3 := Int32.not_le.mp c1
      refine lv_aload_n hx hb dX7_isOff_15 rfl (lv_at hl 2 rfl) ?_
      refine lv_iload_n hx hb dX7_isOff_16 rfl (lv_at hl 1 rfl) ?_
      refine lv_aload_n hx hb dX7_isOff_17 rfl (lv_at hl 2 rfl) ?_
      refine va_get (D := D) (ci := 6) (v := .ref ra) (C := RX7) (T := TX7) (N := 22) hx hb hts hinX7 hown hw.1 hP 0 rfl rfl 19 (by decide) (hts (.fieldLink RX7 28 "WheelSwingModel" "readAt" "[I") (by decide +kernel)) (fun _ h9 => h9) rfl dX7_isOff_18 ?_
      refine lv_iload_n hx hb dX7_isOff_21 rfl (lv_at hl 0 rfl) ?_
      refine va_iald hx hb hw.1 hR 1 0 rfl rfl (ix_in hjl hkk (by omega)) dX7_isOff_22 ?_
      rw [nI_clamp (n := j) (by omega)]
      have hq4 : va_P D vwCl [(mo, .inr (6, [.ref nu, .double p0, .double p1, .double p2, .double p3, .double p4, .double p5, .double p6, .double p7, .double p8, .double p9, .int ct, .int cp, .int cr, .int ctr, .int cfs, .int (nI k), .ref sh, .int (nI k2), .ref ra, .ref rr, .double sm])), (nu, .inl (cI, 52, .inl N))] H := fr_cons (hP 0 _ rfl) (fr_cons (hR 0 _ rfl) (fr_nil))
      refine va_calli (va_runV (As := [.int (nI q), .int (f1 j)]) (rest := []) ⟨hx, hb, hml, hown, hts⟩ (mX7_poses l D cI cH mo nu sh ra rr k k2 q N ct cp cr ctr cfs p0 p1 p2 p3 p4 p5 p6 p7 p8 p9 sm U V lx ly a b c sd g d sx sy f (f1 j) hqq hne hN hh hsd) (cwV 2 hts gX7_isOff_X7_poses rfl rfl rfl (by decide +kernel) ⟨Nat.le_of_ble_eq_true rfl, Nat.le_of_ble_eq_true rfl⟩) ⟨kB_blind, va_recv hw.1 hq4 (ci := 6) (q0 := 0) rfl rfl, kB_go hq4 hw⟩ rfl rfl hl.1 rfl (lv_room (Nat.le_of_ble_eq_true rfl)) dX7_isOff_23 ⟨Nat.le_of_ble_eq_true rfl, Nat.le_of_ble_eq_true rfl⟩) hS (fun q _ h => h) (fun q h => h) (fun r5 u6 t H locs ht hvm hp7 hB hz1 hk1 hS => ?_)
      have hB : va_at D vwCl (mo, .inr (6, u6)) t.heap := hB
      rw [ht] at hB
      have hP := fr_one hB
      have hR := fr_rd hR0 hS hnr
      rcases hp7 with ⟨rfl, hfA, rfl⟩ | ⟨rfl, hnfA, j8, j9, j10, j11, j12, j13, j14, j15, j16, j17, j18, rfl⟩
      · have h0A := hfA.1
        have heA := hfA.2.1
        have hkA := hfA.2.2
        have hP : va_P D vwCl [(mo, .inr (6, [.ref nu, .double (tPx lx ly b (f1 j)), .double (FP.i2d (f1 j)), .double (tQx U V lx ly a b c sd (f1 j)), .double (tQy U V lx ly a b c sd (f1 j)), .double (tVx U V lx ly a b c sd (f1 j)), .double (tVy U V lx ly a b c sd (f1 j)), .double p6, .double p7, .double p8, .double p9, .int ct, .int cp, .int cr, .int ctr, .int cfs, .int (nI k), .ref sh, .int (nI k2), .ref ra, .ref rr, .double sm]))] H := hP
        have hD : va_D (aE mo) [(mo, .inr (6, [.ref nu, .double (tPx lx ly b (f1 j)), .double (FP.i2d (f1 j)), .double (tQx U V lx ly a b c sd (f1 j)), .double (tQy U V lx ly a b c sd (f1 j)), .double (tVx U V lx ly a b c sd (f1 j)), .double (tVy U V lx ly a b c sd (f1 j)), .double p6, .double p7, .double p8, .double p9, .int ct, .int cp, .int cr, .int ctr, .int cfs, .int (nI k), .ref sh, .int (nI k2), .ref ra, .ref rr, .double sm]))] := D_1 rfl
        refine lv_if_eq (tgt := 38) hx hb dX7_isOff_26 (by decide) (fun c20 => absurd c20 (by decide)) (fun _ => ?_)
        refine lv_aload_n hx hb dX7_isOff_29 rfl (lv_at hl 2 rfl) ?_
        refine va_get (D := D) (ci := 6) (v := .double (tVy U V lx ly a b c sd (f1 j))) (C := RX7) (T := TX7) (N := 22) hx hb hts hinX7 hown hw.1 hP 0 rfl rfl 6 (by decide) (hts (.fieldLink RX7 72 "WheelSwingModel" "vy" "D") (by decide +kernel)) (fun _ h9 => h9) rfl dX7_isOff_30 ?_
        refine lv_dconst0 hx hb dX7_isOff_33 ?_
        refine lv_dcmp hx hb dX7_isOff_34 ?_
        rw [fp_cv (gz_vy hh h0A heA hkA hsd).1 gf_c0.1]
        refine lv_if_ne (tgt := 40) hx hb dX7_isOff_35 (by decide) (fun c21 => ?_) (fun c21 => ?_)
        · rw [fcv_eq] at c21
          have hvy : fv (tVy U V lx ly a b c sd (f1 j)) ≠ 0 := by have hq := c21; rw [fv_c0] at hq; exact hq
          refine lv_ldc2d hx hb hown (hts (.constantDouble RX7 87 (4652007308841189376)) (by decide +kernel)) dX7_isOff_40 ?_
          refine lv_aload_n hx hb dX7_isOff_43 rfl (lv_at hl 2 rfl) ?_
          refine va_get (D := D) (ci := 6) (v := .double (tVx U V lx ly a b c sd (f1 j))) (C := RX7) (T := TX7) (N := 22) hx hb hts hinX7 hown hw.1 hP 0 rfl rfl 5 (by decide) (hts (.fieldLink RX7 69 "WheelSwingModel" "vx" "D") (by decide +kernel)) (fun _ h9 => h9) rfl dX7_isOff_44 ?_
          refine lv_aload_n hx hb dX7_isOff_47 rfl (lv_at hl 2 rfl) ?_
          refine va_get (D := D) (ci := 6) (v := .double (tVy U V lx ly a b c sd (f1 j))) (C := RX7) (T := TX7) (N := 22) hx hb hts hinX7 hown hw.1 hP 0 rfl rfl 6 (by decide) (hts (.fieldLink RX7 72 "WheelSwingModel" "vy" "D") (by decide +kernel)) (fun _ h9 => h9) rfl dX7_isOff_48 ?_
          have gw22 := gf_div 695 1356 (gz_vx hh h0A heA hkA hsd) (gz_vy hh h0A heA hkA hsd) hvy (Nat.le_of_ble_eq_true rfl) (Nat.le_of_ble_eq_true rfl) (Nat.le_of_ble_eq_true rfl)
          refine lv_ddiv hx hb dX7_isOff_51 (gf_n64 gw22) ?_
          refine lv_topd (fun v23 ev23 => ?_)
          rw [← ev23] at gw22
          have gw24 := gf_mul 698 1366 gf_1000 gw22 (Nat.le_of_ble_eq_true rfl) (Nat.le_of_ble_eq_true rfl) (Nat.le_of_ble_eq_true rfl)
          refine lv_dmul hx hb dX7_isOff_52 (gf_n64 gw24) ?_
          refine lv_topd (fun v25 ev25 => ?_)
          rw [← ev25] at gw24
          refine lv_aload_n hx hb dX7_isOff_53 rfl (lv_at hl 2 rfl) ?_
          refine va_get (D := D) (ci := 6) (v := .ref rr) (C := RX7) (T := TX7) (N := 22) hx hb hts hinX7 hown hw.1 hP 0 rfl rfl 20 (by decide) (hts (.fieldLink RX7 31 "WheelSwingModel" "read" "[I") (by decide +kernel)) (fun _ h9 => h9) rfl dX7_isOff_54 ?_
          refine lv_iload_n hx hb dX7_isOff_57 rfl (lv_at hl 0 rfl) ?_
          refine va_iald hx hb hw.1 hR 2 0 rfl rfl (ix_in hjl hkk (by omega)) dX7_isOff_58 ?_
          rw [nI_clamp (n := j) (by omega)]
          refine lv_i2d hx hb dX7_isOff_59 ?_
          have gw26 := gf_i2d 13 (rB_k hrb)
          have gw27 := gf_sub 698 1367 gw24 gw26 (Nat.le_of_ble_eq_true rfl) (Nat.le_of_ble_eq_true rfl) (Nat.le_of_ble_eq_true rfl) (Nat.le_of_ble_eq_true rfl) (Nat.le_of_ble_eq_true rfl)
          refine lv_dsub hx hb dX7_isOff_60 (gf_n64 gw27) ?_
          refine lv_topd (fun v28 ev28 => ?_)
          rw [← ev28] at gw27
          have fv28 : v28 = tFar (tVx U V lx ly a b c sd (f1 j)) (tVy U V lx ly a b c sd (f1 j)) (f2 j) := by rw [ev28, ev25, ev23]; try rfl
          clear ev28 gw27
          subst fv28
          refine lv_dstore_n (lv' := [(3, .double (tFar (tVx U V lx ly a b c sd (f1 j)) (tVy U V lx ly a b c sd (f1 j)) (f2 j))), (2, .int (nI j)), (1, .int (nI q)), (0, .ref mo)]) hx hb dX7_isOff_61 rfl hl (by decide) rfl (fun ls hl => ?_)
          refine lv_aload_n hx hb dX7_isOff_62 rfl (lv_at hl 3 rfl) ?_
          refine lv_aload_n hx hb dX7_isOff_63 rfl (lv_at hl 3 rfl) ?_
          refine va_get (D := D) (ci := 6) (v := .double sm) (C := RX7) (T := TX7) (N := 22) hx hb hts hinX7 hown hw.1 hP 0 rfl rfl 21 (by decide) (hts (.fieldLink RX7 143 "WheelSwingModel" "off" "D") (by decide +kernel)) (fun _ h9 => h9) rfl dX7_isOff_64 ?_
          refine lv_dload_n hx hb dX7_isOff_67 rfl (lv_at hl 0 rfl) ?_
          refine lv_dload_n hx hb dX7_isOff_68 rfl (lv_at hl 0 rfl) ?_
          have gw29 := gf_mul 322 1660 (gz_far (gz_vx hh h0A heA hkA hsd) (gz_vy hh h0A heA hkA hsd) hvy hrb) (gz_far (gz_vx hh h0A heA hkA hsd) (gz_vy hh h0A heA hkA hsd) hvy hrb) (Nat.le_of_ble_eq_true rfl) (Nat.le_of_ble_eq_true rfl) (Nat.le_of_ble_eq_true rfl)
          refine lv_dmul hx hb dX7_isOff_69 (gf_n64 gw29) ?_
          refine lv_topd (fun v30 ev30 => ?_)
          rw [← ev30] at gw29
          have fv30 : v30 = FP.dmul (tFar (tVx U V lx ly a b c sd (f1 j)) (tVy U V lx ly a b c sd (f1 j)) (f2 j)) (tFar (tVx U V lx ly a b c sd (f1 j)) (tVy U V lx ly a b c sd (f1 j)) (f2 j)) := by rw [ev30]; try rfl
          clear ev30 gw29
          subst fv30
          have gw31 := gf_add 322 (1661 + (j + 1)) gs (gf_mul 322 1660 (gz_far (gz_vx hh h0A heA hkA hsd) (gz_vy hh h0A heA hkA hsd) hvy hrb) (gz_far (gz_vx hh h0A heA hkA hsd) (gz_vy hh h0A heA hkA hsd) hvy hrb) (Nat.le_of_ble_eq_true rfl) (Nat.le_of_ble_eq_true rfl) (Nat.le_of_ble_eq_true rfl)) (by omega) (by omega) (by omega) (by omega) (by omega)
          refine lv_dadd hx hb dX7_isOff_70 (gf_n64 gw31) ?_
          refine lv_topd (fun v32 ev32 => ?_)
          rw [← ev32] at gw31
          have fv32 : v32 = FP.dadd sm (FP.dmul (tFar (tVx U V lx ly a b c sd (f1 j)) (tVy U V lx ly a b c sd (f1 j)) (f2 j)) (tFar (tVx U V lx ly a b c sd (f1 j)) (tVy U V lx ly a b c sd (f1 j)) (f2 j))) := by rw [ev32]; try rfl
          clear ev32 gw31
          subst fv32
          refine va_put (D := D) (ci := 6) (v := .double (FP.dadd sm (FP.dmul (tFar (tVx U V lx ly a b c sd (f1 j)) (tVy U V lx ly a b c sd (f1 j)) (f2 j)) (tFar (tVx U V lx ly a b c sd (f1 j)) (tVy U V lx ly a b c sd (f1 j)) (f2 j))))) (ty := .double) (C := RX7) (T := TX7) (N := 22) hx hb hts hinX7 tyX7 tyX7_ok nmX7 hown hw.1 hP hD hS 0 rfl rfl 21 (by decide) (hts (.fieldLink RX7 143 "WheelSwingModel" "off" "D") (by decide +kernel)) (fun _ h9 => h9) rfl (by decide +kernel) rfl rfl (Nat.le_of_ble_eq_true rfl) dX7_isOff_71 (fun H locs hP hD hS => ?_)
          have hP : va_P D vwCl [(mo, .inr (6, [.ref nu, .double (tPx lx ly b (f1 j)), .double (FP.i2d (f1 j)), .double (tQx U V lx ly a b c sd (f1 j)), .double (tQy U V lx ly a b c sd (f1 j)), .double (tVx U V lx ly a b c sd (f1 j)), .double (tVy U V lx ly a b c sd (f1 j)), .double p6, .double p7, .double p8, .double p9, .int ct, .int cp, .int cr, .int ctr, .int cfs, .int (nI k), .ref sh, .int (nI k2), .ref ra, .ref rr, .double (FP.dadd sm (FP.dmul (tFar (tVx U V lx ly a b c sd (f1 j)) (tVy U V lx ly a b c sd (f1 j)) (f2 j)) (tFar (tVx U V lx ly a b c sd (f1 j)) (tVy U V lx ly a b c sd (f1 j)) (f2 j))))]))] H := hP
          have hD : va_D (aE mo) [(mo, .inr (6, [.ref nu, .double (tPx lx ly b (f1 j)), .double (FP.i2d (f1 j)), .double (tQx U V lx ly a b c sd (f1 j)), .double (tQy U V lx ly a b c sd (f1 j)), .double (tVx U V lx ly a b c sd (f1 j)), .double (tVy U V lx ly a b c sd (f1 j)), .double p6, .double p7, .double p8, .double p9, .int ct, .int cp, .int cr, .int ctr, .int cfs, .int (nI k), .ref sh, .int (nI k2), .ref ra, .ref rr, .double (FP.dadd sm (FP.dmul (tFar (tVx U V lx ly a b c sd (f1 j)) (tVy U V lx ly a b c sd (f1 j)) (f2 j)) (tFar (tVx U V lx ly a b c sd (f1 j)) (tVy U V lx ly a b c sd (f1 j)) (f2 j))))]))] := hD
          have hR := fr_rd hR0 hS hnr
          refine lv_iinc (v := (nI j) + 1) (lv' := [(2, .int ((nI j) + 1)), (3, .double (tFar (tVx U V lx ly a b c sd (f1 j)) (tVy U V lx ly a b c sd (f1 j)) (f2 j))), (1, .int (nI q)), (0, .ref mo)]) hx hb dX7_isOff_74 hl (k := 1) rfl rfl (by decide) rfl (fun ls hl => ?_)
          refine lv_goto (tgt := 7) hx hb dX7_isOff_77 (by decide) ?_
          have ho9 := oF_t ho hfA hvy
          have h9 : lv_has ls 5 [(2, .int (nI (j + 1))), (1, .int (nI q)), (0, .ref mo)] := by have h8 := (lv_sub hl [0, 2, 3] rfl); rw [nI_1] at h8; exact h8
          exact ih (j + 1) _ H locs ls (tPx lx ly b (f1 j)) (FP.i2d (f1 j)) (tQx U V lx ly a b c sd (f1 j)) (tQy U V lx ly a b c sd (f1 j)) (tVx U V lx ly a b c sd (f1 j)) (tVy U V lx ly a b c sd (f1 j)) p6 p7 p8 p9 hS hP (by omega) ho9 (gf_add 322 (1661 + (j + 1)) gs (gf_mul 322 1660 (gz_far (gz_vx hh h0A heA hkA hsd) (gz_vy hh h0A heA hkA hsd) hvy hrb) (gz_far (gz_vx hh h0A heA hkA hsd) (gz_vy hh h0A heA hkA hsd) hvy hrb) (Nat.le_of_ble_eq_true rfl) (Nat.le_of_ble_eq_true rfl) (Nat.le_of_ble_eq_true rfl)) (by omega) (by omega) (by omega) (by omega) (by omega)) (add_nn gs (gf_mul 322 1660 (gz_far (gz_vx hh h0A heA hkA hsd) (gz_vy hh h0A heA hkA hsd) hvy hrb) (gz_far (gz_vx hh h0A heA hkA hsd) (gz_vy hh h0A heA hkA hsd) hvy hrb) (Nat.le_of_ble_eq_true rfl) (Nat.le_of_ble_eq_true rfl) (Nat.le_of_ble_eq_true rfl)) hs0 (sqr_nn (gz_far (gz_vx hh h0A heA hkA hsd) (gz_vy hh h0A heA hkA hsd) hvy hrb) (by omega)) (by omega) (by omega)).1 h9
        · rw [fcv_eq] at c21
          exact kz1 H locs ls (tPx lx ly b (f1 j)) (FP.i2d (f1 j)) (tQx U V lx ly a b c sd (f1 j)) (tQy U V lx ly a b c sd (f1 j)) (tVx U V lx ly a b c sd (f1 j)) (tVy U V lx ly a b c sd (f1 j)) p6 p7 p8 p9 sm hS hP (oF_none (oF_f2 ho (by have hq := c21; rw [fv_c0] at hq; exact hq)) (by omega))
      · have hP : va_P D vwCl [(mo, .inr (6, [.ref nu, .double j8, .double j9, .double j10, .double j11, .double j12, .double j13, .double j14, .double j15, .double j16, .double j17, .int ct, .int cp, .int cr, .int ctr, .int cfs, .int (nI k), .ref sh, .int (nI k2), .ref ra, .ref rr, .double j18]))] H := hP
        have hD : va_D (aE mo) [(mo, .inr (6, [.ref nu, .double j8, .double j9, .double j10, .double j11, .double j12, .double j13, .double j14, .double j15, .double j16, .double j17, .int ct, .int cp, .int cr, .int ctr, .int cfs, .int (nI k), .ref sh, .int (nI k2), .ref ra, .ref rr, .double j18]))] := D_1 rfl
        refine lv_if_eq (tgt := 38) hx hb dX7_isOff_26 (by decide) (fun _ => ?_) (fun c34 => absurd c34 (by decide))
        exact kz1 H locs ls j8 j9 j10 j11 j12 j13 j14 j15 j16 j17 j18 hS hP (oF_none (oF_f1 ho hnfA) (by omega))
set_option maxHeartbeats 4000000 in
set_option maxRecDepth 100000 in
theorem mX7_isOff (l : Launch) (D : va_G) (cI cH : ClassId) (mo nu sh ra rr k k2 q : Nat) (N : Nat → Int32) (ct cp cr ctr cfs : Int32) (p0 p1 p2 p3 p4 p5 p6 p7 p8 p9 po : UInt64) (U V lx ly a b c sd g d sx sy f : Int32) (f1 f2 : Nat → Int32)  (hqq : q < 4) (hne : nu ≠ mo) (hN : hasN N q U V lx ly a b c sd g d sx sy f) (hgb : hgB U V a lx ly b c sd g d sx sy f) (hra : ra ≠ mo) (hrr : rr ≠ mo) (hkk : k2 ≤ 12) (hrd : ∀ j, j < k2 → cB (f1 j) ∧ rB (f2 j)) : Met l yX7_isOff wsX7_isOff ({ frames := 2, cells := 0, slots := 0, locals := 75 }) (va_Pc [.ref mo, .int (nI q)] (kB D cI cH [(mo, .inr (6, [.ref nu, .double p0, .double p1, .double p2, .double p3, .double p4, .double p5, .double p6, .double p7, .double p8, .double p9, .int ct, .int cp, .int cr, .int ctr, .int cfs, .int (nI k), .ref sh, .int (nI k2), .ref ra, .ref rr, .double po])), (nu, .inl (cI, 52, .inl N)), (ra, .inl (cI, 12, .inl f1)), (rr, .inl (cI, 12, .inl f2))])) (va_Qi (fun (r : Int32) (u : List Value) => (r = 1 ∧ ∃ s : UInt64, oF U V lx ly a b c sd f1 f2 k2 = some s ∧ fGr 322 1673 s ∧ 0 ≤ fv s ∧ isMp nu sh ra rr k k2 ct cp cr ctr cfs s u) ∨ (r = 0 ∧ oF U V lx ly a b c sd f1 f2 k2 = none ∧ isM nu sh ra rr k k2 ct cp cr ctr cfs u)) (fun u t => va_at D vwCl (mo, .inr (6, u)) t.heap) (aE mo)) 0 0 (aE mo) := by
  refine Met.ofW (cc := cX7_isOff) (maxL := 5) (ret := (some .boolean)) (by decide) rfl ?_
  intro p e s m args below meth co s₁ B hml hv
  obtain ⟨rfl, hP0, hw⟩ := hv
  have hx := B.exec
  have hb := B.bytes
  have hr := B.returns
  have hts := atoms_spec (ws := wsX7_isOff) B.pre
  have hown : s.vm.findClass RX7 = some m.cls := findClass_of_methodNamed B.named
  have hlocks := B.notSynchronized
  have hinX7 : ∀ w ∈ wsX70, w ∈ wsX7_isOff := by decide +kernel
  have hS : va_S (aE mo) s.heap s.heap [] := va_S.rf
  have hP : va_P D vwCl [(mo, .inr (6, [.ref nu, .double p0, .double p1, .double p2, .double p3, .double p4, .double p5, .double p6, .double p7, .double p8, .double p9, .int ct, .int cp, .int cr, .int ctr, .int cfs, .int (nI k), .ref sh, .int (nI k2), .ref ra, .ref rr, .double po]))] s.heap := hP0.sub [0] rfl
  have hD : va_D (aE mo) [(mo, .inr (6, [.ref nu, .double p0, .double p1, .double p2, .double p3, .double p4, .double p5, .double p6, .double p7, .double p8, .double p9, .int ct, .int cp, .int cr, .int ctr, .int cfs, .int (nI k), .ref sh, .int (nI k2), .ref ra, .ref rr, .double po]))] := D_1 rfl
  have hR0 : va_P D vwCl [(nu, .inl (cI, 52, .inl N)), (ra, .inl (cI, 12, .inl f1)), (rr, .inl (cI, 12, .inl f2))] s.heap := hP0.sub [1, 2, 3] rfl
  have hR := hR0
  have hnr : ∀ (k9 : Nat) (q : Nat × va_E), ([(nu, .inl (cI, 52, .inl N)), (ra, .inl (cI, 12, .inl f1)), (rr, .inl (cI, 12, .inl f2))] : va_W)[k9]? = some q → ¬ (aE mo) q.1 := nn_1 hne (nn_1 hra (nn_1 hrr nn_0))
  obtain ⟨hN0, hN1, hN2, hN3, hN4, hN5, hN6, hN7, hN8, hN9, hN10, hN11, hN12⟩ := id hN
  obtain ⟨kU, kV, ka, klx, kly, kb, kc, hsd, kg, kd, ksx, ksy, kf⟩ := id hgb
  have hl := lv_entry ([.ref mo, .int (nI q)]) (n := 5) (Nat.le_of_ble_eq_true rfl)
  rw [lg_entry_eq]
  generalize (lg_sl ([.ref mo, .int (nI q)]) ++ List.replicate (5 - (lg_sl ([.ref mo, .int (nI q)])).length) Slot.unset).toArray = ls at hl ⊢
  have hl : lv_has ls 5 [(0, .ref mo), (1, .int (nI q))] := hl
  skip
  refine lv_aload_n hx hb dX7_isOff_0 rfl (lv_at hl 0 rfl) ?_
  refine lv_dconst0 hx hb dX7_isOff_1 ?_
  refine va_put (D := D) (ci := 6) (v := .double FP.dconst0) (ty := .double) (C := RX7) (T := TX7) (N := 22) hx hb hts hinX7 tyX7 tyX7_ok nmX7 hown hw.1 hP hD hS 0 rfl rfl 21 (by decide) (hts (.fieldLink RX7 143 "WheelSwingModel" "off" "D") (by decide +kernel)) (fun _ h9 => h9) rfl (by decide +kernel) rfl rfl (Nat.le_of_ble_eq_true rfl) dX7_isOff_2 (fun H locs hP hD hS => ?_)
  have hP : va_P D vwCl [(mo, .inr (6, [.ref nu, .double p0, .double p1, .double p2, .double p3, .double p4, .double p5, .double p6, .double p7, .double p8, .double p9, .int ct, .int cp, .int cr, .int ctr, .int cfs, .int (nI k), .ref sh, .int (nI k2), .ref ra, .ref rr, .double FP.dconst0]))] H := hP
  have hD : va_D (aE mo) [(mo, .inr (6, [.ref nu, .double p0, .double p1, .double p2, .double p3, .double p4, .double p5, .double p6, .double p7, .double p8, .double p9, .int ct, .int cp, .int cr, .int ctr, .int cfs, .int (nI k), .ref sh, .int (nI k2), .ref ra, .ref rr, .double FP.dconst0]))] := hD
  have hR := fr_rd hR0 hS hnr
  refine lv_iconst (v := 0) hx hb dX7_isOff_5 (by decide) ?_
  refine lv_istore_n (lv' := [(2, .int 0), (0, .ref mo), (1, .int (nI q))]) hx hb dX7_isOff_6 rfl hl (by decide) rfl (fun ls hl => ?_)
  have h36 : lv_has ls 5 [(2, .int (nI 0)), (1, .int (nI q)), (0, .ref mo)] := (lv_sub hl [0, 2, 1] rfl)
  refine lpX7_off D cI cH (f1 := f1) (f2 := f2) hx hb hml hown hts hw hqq hne hN hgb hra hrr hkk hrd hR0 (fun H locs ls p0 p1 p2 p3 p4 p5 p6 p7 p8 p9 po hS hP hz => ?_) (fun H locs ls sm p0 p1 p2 p3 p4 p5 p6 p7 p8 p9 hS hP hz gz hz0 => ?_) k2 0 FP.dconst0 _ _ ls p0 p1 p2 p3 p4 p5 p6 p7 p8 p9 hS hP (by omega) rfl (gf_w gf_c0 (by omega) (by omega)) (by rw [fv_c0]; exact Int.le_refl 0) h36
  · refine lv_iconst (v := 0) hx hb dX7_isOff_38 (by decide) ?_
    exact W.zret (v := 0) hx hb hr rfl (fun t ht hW => ⟨⟨0, [.ref nu, .double p0, .double p1, .double p2, .double p3, .double p4, .double p5, .double p6, .double p7, .double p8, .double p9, .int ct, .int cp, .int cr, .int ctr, .int cfs, .int (nI k), .ref sh, .int (nI k2), .ref ra, .ref rr, .double po], rfl, Or.inr ⟨rfl, hz, ⟨_, _, _, _, _, _, _, _, _, _, _, rfl⟩⟩, at_heap ht (hP 0 _ rfl)⟩, hS.F ht⟩) hS.2.2 dX7_isOff_39
  · refine lv_iconst (v := 1) hx hb dX7_isOff_80 (by decide) ?_
    exact W.zret (v := 1) hx hb hr rfl (fun t ht hW => ⟨⟨1, [.ref nu, .double p0, .double p1, .double p2, .double p3, .double p4, .double p5, .double p6, .double p7, .double p8, .double p9, .int ct, .int cp, .int cr, .int ctr, .int cfs, .int (nI k), .ref sh, .int (nI k2), .ref ra, .ref rr, .double sm], rfl, Or.inl ⟨rfl, sm, hz, gf_w gz (by omega) (by omega), hz0, ⟨_, _, _, _, _, _, _, _, _, _, rfl⟩⟩, at_heap ht (hP 0 _ rfl)⟩, hS.F ht⟩) hS.2.2 dX7_isOff_81
theorem sOff_in {U V lx ly a b c sd : Int32} {f1 f2 : Nat → Int32} {k : Nat} (h1 : cB U) (h2 : cB V) : sOff U V lx ly a b c sd f1 f2 k = oF U V lx ly a b c sd f1 f2 k := by
  have hc : ∀ {v : Int32}, cB v → okC v = true := fun {v} h => by
    unfold okC isW
    rw [decide_eq_true (Int32.le_iff_toInt_le.mpr (show (-1000 : Int32).toInt ≤ v.toInt from h.1)), decide_eq_true (Int32.le_iff_toInt_le.mpr (show v.toInt ≤ (1000 : Int32).toInt from h.2))]
    rfl
  unfold sOff okP
  rw [hc h1, hc h2]
  rfl
set_option maxHeartbeats 4000000 in
set_option maxRecDepth 100000 in
theorem mX7_off (l : Launch) (D : va_G) (cI cH : ClassId) (mo nu sh ra rr k k2 q : Nat) (N : Nat → Int32) (ct cp cr ctr cfs : Int32) (p0 p1 p2 p3 p4 p5 p6 p7 p8 p9 po : UInt64) (U V lx ly a b c sd g d sx sy f : Int32) (f1 f2 : Nat → Int32) (h : Int32)  (hqq : q < 4) (hne : nu ≠ mo) (hN : hasN N q U V lx ly a b c sd g d sx sy f) (hgb : hgB U V a lx ly b c sd g d sx sy f) (hra : ra ≠ mo) (hrr : rr ≠ mo) (hkk : k2 ≤ 12) (hrd : ∀ j, j < k2 → cB (f1 j) ∧ rB (f2 j)) (hq9 : okH h = true → h = nI q) : Met l yX7_off wsX7_off ({ frames := 3, cells := 0, slots := 0, locals := 99 }) (va_Pc [.ref mo, .int h] (kB D cI cH [(mo, .inr (6, [.ref nu, .double p0, .double p1, .double p2, .double p3, .double p4, .double p5, .double p6, .double p7, .double p8, .double p9, .int ct, .int cp, .int cr, .int ctr, .int cfs, .int (nI k), .ref sh, .int (nI k2), .ref ra, .ref rr, .double po])), (nu, .inl (cI, 52, .inl N)), (ra, .inl (cI, 12, .inl f1)), (rr, .inl (cI, 12, .inl f2))])) (va_Ql (fun (r : Int64) (u : List Value) => r = (if okH h then offL (sOff U V lx ly a b c sd f1 f2 k2) else -2) ∧ isM nu sh ra rr k k2 ct cp cr ctr cfs u) (fun u t => va_at D vwCl (mo, .inr (6, u)) t.heap) (aE mo)) 0 0 (aE mo) := by
  refine Met.ofW (cc := cX7_off) (maxL := 2) (ret := (some .long)) (by decide) rfl ?_
  intro p e s m args below meth co s₁ B hml hv
  obtain ⟨rfl, hP0, hw⟩ := hv
  have hx := B.exec
  have hb := B.bytes
  have hr := B.returns
  have hts := atoms_spec (ws := wsX7_off) B.pre
  have hown : s.vm.findClass RX7 = some m.cls := findClass_of_methodNamed B.named
  have hlocks := B.notSynchronized
  have hinX7 : ∀ w ∈ wsX70, w ∈ wsX7_off := by decide +kernel
  have hS : va_S (aE mo) s.heap s.heap [] := va_S.rf
  have hP : va_P D vwCl [(mo, .inr (6, [.ref nu, .double p0, .double p1, .double p2, .double p3, .double p4, .double p5, .double p6, .double p7, .double p8, .double p9, .int ct, .int cp, .int cr, .int ctr, .int cfs, .int (nI k), .ref sh, .int (nI k2), .ref ra, .ref rr, .double po]))] s.heap := hP0.sub [0] rfl
  have hD : va_D (aE mo) [(mo, .inr (6, [.ref nu, .double p0, .double p1, .double p2, .double p3, .double p4, .double p5, .double p6, .double p7, .double p8, .double p9, .int ct, .int cp, .int cr, .int ctr, .int cfs, .int (nI k), .ref sh, .int (nI k2), .ref ra, .ref rr, .double po]))] := D_1 rfl
  have hR0 : va_P D vwCl [(nu, .inl (cI, 52, .inl N)), (ra, .inl (cI, 12, .inl f1)), (rr, .inl (cI, 12, .inl f2))] s.heap := hP0.sub [1, 2, 3] rfl
  have hR := hR0
  have hnr : ∀ (k9 : Nat) (q : Nat × va_E), ([(nu, .inl (cI, 52, .inl N)), (ra, .inl (cI, 12, .inl f1)), (rr, .inl (cI, 12, .inl f2))] : va_W)[k9]? = some q → ¬ (aE mo) q.1 := nn_1 hne (nn_1 hra (nn_1 hrr nn_0))
  obtain ⟨hN0, hN1, hN2, hN3, hN4, hN5, hN6, hN7, hN8, hN9, hN10, hN11, hN12⟩ := id hN
  obtain ⟨kU, kV, ka, klx, kly, kb, kc, hsd, kg, kd, ksx, ksy, kf⟩ := id hgb
  have hl := lv_entry ([.ref mo, .int h]) (n := 2) (Nat.le_of_ble_eq_true rfl)
  rw [lg_entry_eq]
  generalize (lg_sl ([.ref mo, .int h]) ++ List.replicate (2 - (lg_sl ([.ref mo, .int h])).length) Slot.unset).toArray = ls at hl ⊢
  have hl : lv_has ls 2 [(0, .ref mo), (1, .int h)] := hl
  skip
  refine lv_iload_n hx hb dX7_off_0 rfl (lv_at hl 1 rfl) ?_
  refine va_calli (va_runS (As := [.int h]) (rest := []) ⟨hx, hb, hml, hown, hts⟩ (mX7_isHanging l h) (va_cwS 1 hts gX7_off_X7_isHanging rfl rfl rfl (by decide +kernel) ⟨Nat.le_of_ble_eq_true rfl, Nat.le_of_ble_eq_true rfl⟩) ⟨tB_blind, tB_go⟩ rfl rfl hl.1 rfl (lv_room (Nat.le_of_ble_eq_true rfl)) dX7_off_1 ⟨Nat.le_of_ble_eq_true rfl, Nat.le_of_ble_eq_true rfl⟩) hS (fun q _ h => h.elim) (fun q h => h.elim) (fun r1 u2 t H locs ht hvm hp3 hB hz1 hk1 hS => ?_)
  have hP := fr_keep hP hk1 fr_nA
  have hR := fr_rd hR0 hS hnr
  subst hp3
  refine lv_if_ne (tgt := 13) hx hb dX7_off_4 (by decide) (fun c4 => ?_) (fun c4 => ?_)
  · have c4 := bI_n.mp c4
    have HOKH := c4
    have hh9 : h = nI q := hq9 HOKH
    rw [hh9] at hl
    refine lv_aload_n hx hb dX7_off_13 rfl (lv_at hl 0 rfl) ?_
    refine lv_iload_n hx hb dX7_off_14 rfl (lv_at hl 1 rfl) ?_
    have hq5 : va_P D vwCl [(mo, .inr (6, [.ref nu, .double p0, .double p1, .double p2, .double p3, .double p4, .double p5, .double p6, .double p7, .double p8, .double p9, .int ct, .int cp, .int cr, .int ctr, .int cfs, .int (nI k), .ref sh, .int (nI k2), .ref ra, .ref rr, .double po])), (nu, .inl (cI, 52, .inl N)), (ra, .inl (cI, 12, .inl f1)), (rr, .inl (cI, 12, .inl f2))] H := fr_cons (hP 0 _ rfl) (fr_cons (hR 0 _ rfl) (fr_cons (hR 1 _ rfl) (fr_cons (hR 2 _ rfl) (fr_nil))))
    refine va_calli (va_runV (As := [.int (nI q)]) (rest := []) ⟨hx, hb, hml, hown, hts⟩ (mX7_isOff l D cI cH mo nu sh ra rr k k2 q N ct cp cr ctr cfs p0 p1 p2 p3 p4 p5 p6 p7 p8 p9 po U V lx ly a b c sd g d sx sy f f1 f2 hqq hne hN hgb hra hrr hkk hrd) (cwV 1 hts gX7_off_X7_isOff rfl rfl rfl (by decide +kernel) ⟨Nat.le_of_ble_eq_true rfl, Nat.le_of_ble_eq_true rfl⟩) ⟨kB_blind, va_recv hw.1 hq5 (ci := 6) (q0 := 0) rfl rfl, kB_go hq5 hw⟩ rfl rfl hl.1 rfl (lv_room (Nat.le_of_ble_eq_true rfl)) dX7_off_15 ⟨Nat.le_of_ble_eq_true rfl, Nat.le_of_ble_eq_true rfl⟩) hS (fun q _ h => h) (fun q h => h) (fun r6 u7 t H locs ht hvm hp8 hB hz1 hk1 hS => ?_)
    have hB : va_at D vwCl (mo, .inr (6, u7)) t.heap := hB
    rw [ht] at hB
    have hP := fr_one hB
    have hR := fr_rd hR0 hS hnr
    rcases hp8 with ⟨rfl, s9, ho9, hg9, h09, j9, j10, j11, j12, j13, j14, j15, j16, j17, j18, rfl⟩ | ⟨rfl, ho9, j19, j20, j21, j22, j23, j24, j25, j26, j27, j28, j29, rfl⟩
    · have hP : va_P D vwCl [(mo, .inr (6, [.ref nu, .double j9, .double j10, .double j11, .double j12, .double j13, .double j14, .double j15, .double j16, .double j17, .double j18, .int ct, .int cp, .int cr, .int ctr, .int cfs, .int (nI k), .ref sh, .int (nI k2), .ref ra, .ref rr, .double s9]))] H := hP
      have hD : va_D (aE mo) [(mo, .inr (6, [.ref nu, .double j9, .double j10, .double j11, .double j12, .double j13, .double j14, .double j15, .double j16, .double j17, .double j18, .int ct, .int cp, .int cr, .int ctr, .int cfs, .int (nI k), .ref sh, .int (nI k2), .ref ra, .ref rr, .double s9]))] := D_1 rfl
      refine lv_if_eq (tgt := 31) hx hb dX7_off_18 (by decide) (fun c31 => absurd c31 (by decide)) (fun _ => ?_)
      refine lv_aload_n hx hb dX7_off_21 rfl (lv_at hl 0 rfl) ?_
      refine va_get (D := D) (ci := 6) (v := .double s9) (C := RX7) (T := TX7) (N := 22) hx hb hts hinX7 hown hw.1 hP 0 rfl rfl 21 (by decide) (hts (.fieldLink RX7 143 "WheelSwingModel" "off" "D") (by decide +kernel)) (fun _ h9 => h9) rfl dX7_off_22 ?_
      refine va_calll (va_runS (As := [.double s9]) (rest := []) ⟨hx, hb, hml, hown, hts⟩ (mX7_bitsOf l s9 (bOk_gr hg9 (Nat.le_of_ble_eq_true rfl) (Nat.le_of_ble_eq_true rfl))) (va_cwS 1 hts gX7_off_X7_bitsOf rfl rfl rfl (by decide +kernel) ⟨Nat.le_of_ble_eq_true rfl, Nat.le_of_ble_eq_true rfl⟩) ⟨tB_blind, tB_go⟩ rfl rfl hl.1 rfl (lv_room (Nat.le_of_ble_eq_true rfl)) dX7_off_25 ⟨Nat.le_of_ble_eq_true rfl, Nat.le_of_ble_eq_true rfl⟩) hS (fun q _ h => h.elim) (fun q h => h.elim) (fun r32 u33 t H locs ht hvm hp34 hB hz1 hk1 hS => ?_)
      have hP := fr_keep hP hk1 fr_nA
      have hR := fr_rd hR0 hS hnr
      subst hp34
      refine lv_goto (tgt := 34) hx hb dX7_off_28 (by decide) ?_
      exact W.lret (v := UInt64.toInt64 s9) hx hb hr (fun t ht hW => ⟨⟨UInt64.toInt64 s9, [.ref nu, .double j9, .double j10, .double j11, .double j12, .double j13, .double j14, .double j15, .double j16, .double j17, .double j18, .int ct, .int cp, .int cr, .int ctr, .int cfs, .int (nI k), .ref sh, .int (nI k2), .ref ra, .ref rr, .double s9], rfl, ⟨by rw [HOKH, if_pos rfl, sOff_in kU kV, ho9]; rfl, ⟨_, _, _, _, _, _, _, _, _, _, _, rfl⟩⟩, at_heap ht (hP 0 _ rfl)⟩, hS.F ht⟩) hS.2.2 dX7_off_34
    · have hP : va_P D vwCl [(mo, .inr (6, [.ref nu, .double j19, .double j20, .double j21, .double j22, .double j23, .double j24, .double j25, .double j26, .double j27, .double j28, .int ct, .int cp, .int cr, .int ctr, .int cfs, .int (nI k), .ref sh, .int (nI k2), .ref ra, .ref rr, .double j29]))] H := hP
      have hD : va_D (aE mo) [(mo, .inr (6, [.ref nu, .double j19, .double j20, .double j21, .double j22, .double j23, .double j24, .double j25, .double j26, .double j27, .double j28, .int ct, .int cp, .int cr, .int ctr, .int cfs, .int (nI k), .ref sh, .int (nI k2), .ref ra, .ref rr, .double j29]))] := D_1 rfl
      refine lv_if_eq (tgt := 31) hx hb dX7_off_18 (by decide) (fun _ => ?_) (fun c36 => absurd c36 (by decide))
      refine lv_ldc2 hx hb hown (hts (.constantLong RX7 93 (-1)) (by decide +kernel)) dX7_off_31 ?_
      exact W.lret (v := (-1)) hx hb hr (fun t ht hW => ⟨⟨(-1), [.ref nu, .double j19, .double j20, .double j21, .double j22, .double j23, .double j24, .double j25, .double j26, .double j27, .double j28, .int ct, .int cp, .int cr, .int ctr, .int cfs, .int (nI k), .ref sh, .int (nI k2), .ref ra, .ref rr, .double j29], rfl, ⟨by rw [HOKH, if_pos rfl, sOff_in kU kV, ho9]; rfl, ⟨_, _, _, _, _, _, _, _, _, _, _, rfl⟩⟩, at_heap ht (hP 0 _ rfl)⟩, hS.F ht⟩) hS.2.2 dX7_off_34
  · have c4 := bI_e.mp c4
    refine lv_ldc2 hx hb hown (hts (.constantLong RX7 110 (-2)) (by decide +kernel)) dX7_off_7 ?_
    refine lv_goto (tgt := 34) hx hb dX7_off_10 (by decide) ?_
    exact W.lret (v := (-2)) hx hb hr (fun t ht hW => ⟨⟨(-2), [.ref nu, .double p0, .double p1, .double p2, .double p3, .double p4, .double p5, .double p6, .double p7, .double p8, .double p9, .int ct, .int cp, .int cr, .int ctr, .int cfs, .int (nI k), .ref sh, .int (nI k2), .ref ra, .ref rr, .double po], rfl, ⟨by rw [show okH h = false from c4]; rfl, ⟨_, _, _, _, _, _, _, _, _, _, _, rfl⟩⟩, at_heap ht (hP 0 _ rfl)⟩, hS.F ht⟩) hS.2.2 dX7_off_34
def sameX (M N : Nat → Int32) (q : Nat) : Prop := ∀ i, i ≠ 13 * q → i ≠ 13 * q + 1 → M i = N i
theorem sameX_upd {M N : Nat → Int32} {q : Nat} (h : sameX M N q) (x y : Int32) : sameX (upd (upd M (13 * q) x) (13 * q + 1) y) N q := by
  intro i h1 h2
  show (if i = 13 * q + 1 then y else if i = 13 * q then x else M i) = N i
  rw [if_neg h2, if_neg h1]
  exact h i h1 h2
theorem hasN_upd {M N : Nat → Int32} {q : Nat} {U V lx ly a b c sd g d sx sy f : Int32} (hN : hasN N q U V lx ly a b c sd g d sx sy f) (h : sameX M N q) (x y : Int32) : hasN (upd (upd M (13 * q) x) (13 * q + 1) y) q x y lx ly a b c sd g d sx sy f := by
  obtain ⟨hN0, hN1, hN2, hN3, hN4, hN5, hN6, hN7, hN8, hN9, hN10, hN11, hN12⟩ := hN
  have hk : ∀ i v, N (13 * q + (i + 2)) = v → upd (upd M (13 * q) x) (13 * q + 1) y (13 * q + (i + 2)) = v := fun i v hv => by
    rw [← hv]
    exact sameX_upd h x y _ (by omega) (by omega)
  refine ⟨?_, ?_, hk 0 _ hN2, hk 1 _ hN3, hk 2 _ hN4, hk 3 _ hN5, hk 4 _ hN6, hk 5 _ hN7, hk 6 _ hN8, hk 7 _ hN9, hk 8 _ hN10, hk 9 _ hN11, hk 10 _ hN12⟩
  · show (if 13 * q = 13 * q + 1 then y else if 13 * q = 13 * q then x else M (13 * q)) = x
    rw [if_neg (by omega), if_pos rfl]
  · show (if 13 * q + 1 = 13 * q + 1 then y else _) = y
    rw [if_pos rfl]
theorem upd_back {M N : Nat → Int32} {q : Nat} (h : sameX M N q) {x y : Int32} (h0 : N (13 * q) = x) (h1 : N (13 * q + 1) = y) : upd (upd M (13 * q) x) (13 * q + 1) y = N := by
  funext i
  show (if i = 13 * q + 1 then y else if i = 13 * q then x else M i) = N i
  by_cases e1 : i = 13 * q + 1
  · rw [if_pos e1, e1, h1]
  · rw [if_neg e1]
    by_cases e0 : i = 13 * q
    · rw [if_pos e0, e0, h0]
    · rw [if_neg e0]
      exact h i e0 e1
def mRep (s : fS) (has : Int32) (least : UInt64) (a b : Int32) : Prop := match s with
  | none => has = 0 ∧ least = FP.dconst0 ∧ a = 0 ∧ b = 0
  | some q => has = 1 ∧ least = q.1 ∧ a = q.2.1 ∧ b = q.2.2 ∧ fGr 322 1673 q.1 ∧ 0 ≤ fv q.1
theorem sOff_no1 {U V lx ly a b c sd : Int32} {f1 f2 : Nat → Int32} {k : Nat} (h : okC U = false) : sOff U V lx ly a b c sd f1 f2 k = none := by
  unfold sOff okP
  rw [h]
  rfl
theorem sOff_no2 {U V lx ly a b c sd : Int32} {f1 f2 : Nat → Int32} {k : Nat} (h : okC V = false) : sOff U V lx ly a b c sd f1 f2 k = none := by
  unfold sOff okP
  rw [h, Bool.and_false]
  rfl
theorem fStep_n {s : fS} {x y : Int32} : fStep none x y s = s := rfl
set_option maxHeartbeats 4000000 in
set_option maxRecDepth 100000 in
theorem lpX7_fin {p : Program} {l : Launch} {e : Env} {s : State} {m : MethodId} {args : Array Value} {below : List Frame} {meth : Method} {co : Code} {Q : State → Prop} (D : va_G) (cI cH : ClassId) (hx : p.tables.exec = Jvm.exec) (hb : co.code = cX7_found) (hml : co.maxLocals = 13) (hown : s.vm.findClass RX7 = some m.cls) (hts : ∀ w ∈ wsX7_found, w.before args s = true) (hw : wk D cI cH s) {mo nu sh ra rr k k2 q : Nat} {N : Nat → Int32} {ct cp cr ctr cfs : Int32} {U V lx ly a b c sd g d sx sy f : Int32} {f1 f2 : Nat → Int32} {r0 wt : Int32} (hqq : q < 4) (hne : nu ≠ mo) (hN : hasN N q U V lx ly a b c sd g d sx sy f) (hgb : hgB U V a lx ly b c sd g d sx sy f) (hra : ra ≠ mo) (hrr : rr ≠ mo) (hkk : k2 ≤ 12) (hrd : ∀ j, j < k2 → cB (f1 j) ∧ rB (f2 j)) (hrn : ra ≠ nu) (hrm : rr ≠ nu) (hr0 : 0 ≤ r0.toInt ∧ r0.toInt ≤ 3)  {x : Int32} {S1 : fS} (hR0 : va_P D vwCl [(ra, .inl (cI, 12, .inl f1)), (rr, .inl (cI, 12, .inl f2))] s.heap) (kx : ∀ (H : Heap) (locs : List Loc) (ls : Array Slot) (M : Nat → Int32) (has : Int32) (least : UInt64) (ma mb : Int32) (p0 p1 p2 p3 p4 p5 p6 p7 p8 p9 po : UInt64), va_S (aE2 mo nu) s.heap H locs → va_P D vwCl [(mo, .inr (6, [.ref nu, .double p0, .double p1, .double p2, .double p3, .double p4, .double p5, .double p6, .double p7, .double p8, .double p9, .int ct, .int cp, .int cr, .int ctr, .int cfs, .int (nI k), .ref sh, .int (nI k2), .ref ra, .ref rr, .double po])), (nu, .inl (cI, 52, .inl M))] H → sameX M N q → mRep S1 has least ma mb → lv_has ls 13 [(11, .int x), (10, .int mb), (9, .int ma), (7, .double least), (6, .int has), (5, .int V), (4, .int U), (3, .int wt), (2, .int r0), (1, .int (nI q)), (0, .ref mo)] → W p l e ({ frames := 3, cells := 0, slots := 0, locals := 99 } : Room) s m args below meth co H locs 0 0 Q (F0 m 183 ls [])) : ∀ (n : Nat) (y : Int32) (S0 : fS) (H : Heap) (locs : List Loc) (ls : Array Slot) (M : Nat → Int32) (has : Int32) (least : UInt64) (ma mb : Int32) (p0 p1 p2 p3 p4 p5 p6 p7 p8 p9 po : UInt64), va_S (aE2 mo nu) s.heap H locs → va_P D vwCl [(mo, .inr (6, [.ref nu, .double p0, .double p1, .double p2, .double p3, .double p4, .double p5, .double p6, .double p7, .double p8, .double p9, .int ct, .int cp, .int cr, .int ctr, .int cfs, .int (nI k), .ref sh, .int (nI k2), .ref ra, .ref rr, .double po])), (nu, .inl (cI, 52, .inl M))] H → sameX M N q → y.toInt + n = r0.toInt + 1 ∧ -10 ≤ y.toInt → fIn (fun x y => sOff (U + x) (V + y) lx ly a b c sd f1 f2 k2) x n y S0 = S1 → mRep S0 has least ma mb → lv_has ls 13 [(12, .int y), (11, .int x), (10, .int mb), (9, .int ma), (7, .double least), (6, .int has), (5, .int V), (4, .int U), (3, .int wt), (2, .int r0), (1, .int (nI q)), (0, .ref mo)] → W p l e ({ frames := 3, cells := 0, slots := 0, locals := 99 } : Room) s m args below meth co H locs 0 0 Q (F0 m 79 ls []) := by
  have hinX7 : ∀ w ∈ wsX70, w ∈ wsX7_found := by decide +kernel
  obtain ⟨hN0, hN1, hN2, hN3, hN4, hN5, hN6, hN7, hN8, hN9, hN10, hN11, hN12⟩ := id hN
  obtain ⟨kU, kV, ka, klx, kly, kb, kc, hsd, kg, kd, ksx, ksy, kf⟩ := id hgb
  have hnr : ∀ (k9 : Nat) (q : Nat × va_E), ([(ra, .inl (cI, 12, .inl f1)), (rr, .inl (cI, 12, .inl f2))] : va_W)[k9]? = some q → ¬ (aE2 mo nu) q.1 := nn_1 (fun h => h.elim hra hrn) (nn_1 (fun h => h.elim hrr hrm) nn_0)
  intro n
  induction n with
  | zero =>
    intro y S0 H locs ls M has least ma mb p0 p1 p2 p3 p4 p5 p6 p7 p8 p9 po hS hP hM hy hF hrep hl
    obtain ⟨hy1, hy2⟩ := hy
    have hD : va_D (aE2 mo nu) [(mo, .inr (6, [.ref nu, .double p0, .double p1, .double p2, .double p3, .double p4, .double p5, .double p6, .double p7, .double p8, .double p9, .int ct, .int cp, .int cr, .int ctr, .int cfs, .int (nI k), .ref sh, .int (nI k2), .ref ra, .ref rr, .double po])), (nu, .inl (cI, 52, .inl M))] := D_cons (Or.inl rfl) (D_1 (Or.inr rfl)) (nn_1 hne nn_0)
    have hR := fr_rd hR0 hS hnr
    refine lv_iload hx hb dX7_found_79 (lv_at hl 0 rfl) ?_
    refine lv_iload_n hx hb dX7_found_81 rfl (lv_at hl 9 rfl) ?_
    refine lv_icmp_gt (tgt := 183) hx hb dX7_found_82 (by decide) (fun c1 => ?_) (fun c1 => ?_)
    · have iw2 := Int32.not_le.mpr c1
      exact kx H locs ls M has least ma mb p0 p1 p2 p3 p4 p5 p6 p7 p8 p9 po hS hP hM (by rw [← hF]; exact hrep) (lv_sub hl [1, 2, 3, 4, 5, 6, 7, 8, 9, 10, 11] rfl)
    · have iw3 := Int32.not_lt.mp c1
      exact absurd (Int32.lt_iff_toInt_lt.mpr (by omega)) c1
  | succ n ih =>
    intro y S0 H locs ls M has least ma mb p0 p1 p2 p3 p4 p5 p6 p7 p8 p9 po hS hP hM hy hF hrep hl
    obtain ⟨hy1, hy2⟩ := hy
    have hD : va_D (aE2 mo nu) [(mo, .inr (6, [.ref nu, .double p0, .double p1, .double p2, .double p3, .double p4, .double p5, .double p6, .double p7, .double p8, .double p9, .int ct, .int cp, .int cr, .int ctr, .int cfs, .int (nI k), .ref sh, .int (nI k2), .ref ra, .ref rr, .double po])), (nu, .inl (cI, 52, .inl M))] := D_cons (Or.inl rfl) (D_1 (Or.inr rfl)) (nn_1 hne nn_0)
    have hR := fr_rd hR0 hS hnr
    have hyn : (y + 1).toInt = y.toInt + 1 := by
      have e1 : (1 : Int32).toInt = 1 := rfl
      rw [i3_add (by omega) (by omega), e1]
    cases S0 with
    | none =>
      obtain ⟨rfl, rfl, rfl, rfl⟩ := hrep
      refine lv_iload hx hb dX7_found_79 (lv_at hl 0 rfl) ?_
      refine lv_iload_n hx hb dX7_found_81 rfl (lv_at hl 9 rfl) ?_
      refine lv_icmp_gt (tgt := 183) hx hb dX7_found_82 (by decide) (fun c1 => ?_) (fun c1 => ?_)
      · have iw2 := Int32.not_le.mpr c1
        exact absurd c1 (Int32.not_lt.mpr (Int32.le_iff_toInt_le.mpr (by omega)))
      · have iw3 := Int32.not_lt.mp c1
        refine lv_iload hx hb dX7_found_85 (lv_at hl 7 rfl) ?_
        refine lv_iload hx hb dX7_found_87 (lv_at hl 1 rfl) ?_
        refine lv_iadd hx hb dX7_found_89 ?_
        refine va_calli (va_runS (As := [.int (U + x)]) (rest := []) ⟨hx, hb, hml, hown, hts⟩ (mX7_isAt l (U + x)) (va_cwS 1 hts gX7_found_X7_isAt rfl rfl rfl (by decide +kernel) ⟨Nat.le_of_ble_eq_true rfl, Nat.le_of_ble_eq_true rfl⟩) ⟨tB_blind, tB_go⟩ rfl rfl hl.1 rfl (lv_room (Nat.le_of_ble_eq_true rfl)) dX7_found_90 ⟨Nat.le_of_ble_eq_true rfl, Nat.le_of_ble_eq_true rfl⟩) hS (fun q _ h => h.elim) (fun q h => h.elim) (fun r4 u5 t H locs ht hvm hp6 hB hz1 hk1 hS => ?_)
        have hP := fr_keep hP hk1 fr_nA
        have hR := fr_rd hR0 hS hnr
        subst hp6
        refine lv_if_eq (tgt := 177) hx hb dX7_found_93 (by decide) (fun c7 => ?_) (fun c7 => ?_)
        · have c7 := bI_e.mp c7
          refine lv_iinc (v := y + 1) (lv' := [(12, .int (y + 1)), (11, .int x), (10, .int 0), (9, .int 0), (7, .double FP.dconst0), (6, .int 0), (5, .int V), (4, .int U), (3, .int wt), (2, .int r0), (1, .int (nI q)), (0, .ref mo)]) hx hb dX7_found_177 hl (k := 0) rfl rfl (by decide) rfl (fun ls hl => ?_)
          refine lv_goto (tgt := 79) hx hb dX7_found_180 (by decide) ?_
          have hso : sOff (U + x) (V + y) lx ly a b c sd f1 f2 k2 = none := sOff_no1 c7
          have hst9 : fStep (sOff (U + x) (V + y) lx ly a b c sd f1 f2 k2) x y (none) = none := by show (match sOff (U + x) (V + y) lx ly a b c sd f1 f2 k2 with | none => _ | some v => _) = _; rw [hso]
          have h9 : lv_has ls 13 [(12, .int (y + 1)), (11, .int x), (10, .int 0), (9, .int 0), (7, .double FP.dconst0), (6, .int 0), (5, .int V), (4, .int U), (3, .int wt), (2, .int r0), (1, .int (nI q)), (0, .ref mo)] := (lv_sub hl [0, 1, 2, 3, 4, 5, 6, 7, 8, 9, 10, 11] rfl)
          exact ih (y + 1) (none) H locs ls M 0 (FP.dconst0) 0 0 p0 p1 p2 p3 p4 p5 p6 p7 p8 p9 po hS hP hM ⟨by omega, by omega⟩ (by rw [← hst9]; exact hF) ⟨rfl, rfl, rfl, rfl⟩ h9
        · have c7 := bI_n.mp c7
          refine lv_iload hx hb dX7_found_96 (lv_at hl 6 rfl) ?_
          refine lv_iload hx hb dX7_found_98 (lv_at hl 0 rfl) ?_
          refine lv_iadd hx hb dX7_found_100 ?_
          refine va_calli (va_runS (As := [.int (V + y)]) (rest := []) ⟨hx, hb, hml, hown, hts⟩ (mX7_isAt l (V + y)) (va_cwS 1 hts gX7_found_X7_isAt rfl rfl rfl (by decide +kernel) ⟨Nat.le_of_ble_eq_true rfl, Nat.le_of_ble_eq_true rfl⟩) ⟨tB_blind, tB_go⟩ rfl rfl hl.1 rfl (lv_room (Nat.le_of_ble_eq_true rfl)) dX7_found_101 ⟨Nat.le_of_ble_eq_true rfl, Nat.le_of_ble_eq_true rfl⟩) hS (fun q _ h => h.elim) (fun q h => h.elim) (fun r8 u9 t H locs ht hvm hp10 hB hz1 hk1 hS => ?_)
          have hP := fr_keep hP hk1 fr_nA
          have hR := fr_rd hR0 hS hnr
          subst hp10
          refine lv_if_eq (tgt := 177) hx hb dX7_found_104 (by decide) (fun c11 => ?_) (fun c11 => ?_)
          · have c11 := bI_e.mp c11
            refine lv_iinc (v := y + 1) (lv' := [(12, .int (y + 1)), (11, .int x), (10, .int 0), (9, .int 0), (7, .double FP.dconst0), (6, .int 0), (5, .int V), (4, .int U), (3, .int wt), (2, .int r0), (1, .int (nI q)), (0, .ref mo)]) hx hb dX7_found_177 hl (k := 0) rfl rfl (by decide) rfl (fun ls hl => ?_)
            refine lv_goto (tgt := 79) hx hb dX7_found_180 (by decide) ?_
            have hso : sOff (U + x) (V + y) lx ly a b c sd f1 f2 k2 = none := sOff_no2 c11
            have hst9 : fStep (sOff (U + x) (V + y) lx ly a b c sd f1 f2 k2) x y (none) = none := by show (match sOff (U + x) (V + y) lx ly a b c sd f1 f2 k2 with | none => _ | some v => _) = _; rw [hso]
            have h9 : lv_has ls 13 [(12, .int (y + 1)), (11, .int x), (10, .int 0), (9, .int 0), (7, .double FP.dconst0), (6, .int 0), (5, .int V), (4, .int U), (3, .int wt), (2, .int r0), (1, .int (nI q)), (0, .ref mo)] := (lv_sub hl [0, 1, 2, 3, 4, 5, 6, 7, 8, 9, 10, 11] rfl)
            exact ih (y + 1) (none) H locs ls M 0 (FP.dconst0) 0 0 p0 p1 p2 p3 p4 p5 p6 p7 p8 p9 po hS hP hM ⟨by omega, by omega⟩ (by rw [← hst9]; exact hF) ⟨rfl, rfl, rfl, rfl⟩ h9
          · have c11 := bI_n.mp c11
            refine lv_aload_n hx hb dX7_found_107 rfl (lv_at hl 11 rfl) ?_
            refine va_get (D := D) (ci := 6) (v := .ref nu) (C := RX7) (T := TX7) (N := 22) hx hb hts hinX7 hown hw.1 hP 0 rfl rfl 0 (by decide) (hts (.fieldLink RX7 19 "WheelSwingModel" "number" "[I") (by decide +kernel)) (fun _ h9 => h9) rfl dX7_found_108 ?_
            refine lv_bipush (v := 13) hx hb dX7_found_111 (by decide) ?_
            refine lv_iload_n hx hb dX7_found_113 rfl (lv_at hl 10 rfl) ?_
            refine lv_imul hx hb dX7_found_114 ?_
            rw [nI_m13]
            refine lv_iload hx hb dX7_found_115 (lv_at hl 7 rfl) ?_
            refine lv_iload hx hb dX7_found_117 (lv_at hl 1 rfl) ?_
            refine lv_iadd hx hb dX7_found_119 ?_
            refine va_iast hx hb hw.1 hP hD hS 1 0 rfl rfl (vp_in_nI (by omega) (by omega)) dX7_found_120 (fun H locs hP hD hS => ?_)
            rw [nI_clamp (n := 13 * q) (by omega)] at hP hD
            have hP : va_P D vwCl [(mo, .inr (6, [.ref nu, .double p0, .double p1, .double p2, .double p3, .double p4, .double p5, .double p6, .double p7, .double p8, .double p9, .int ct, .int cp, .int cr, .int ctr, .int cfs, .int (nI k), .ref sh, .int (nI k2), .ref ra, .ref rr, .double po])), (nu, .inl (cI, 52, .inl (upd M (13 * q) (U + x))))] H := hP
            have hD : va_D (aE2 mo nu) [(mo, .inr (6, [.ref nu, .double p0, .double p1, .double p2, .double p3, .double p4, .double p5, .double p6, .double p7, .double p8, .double p9, .int ct, .int cp, .int cr, .int ctr, .int cfs, .int (nI k), .ref sh, .int (nI k2), .ref ra, .ref rr, .double po])), (nu, .inl (cI, 52, .inl (upd M (13 * q) (U + x))))] := hD
            have hR := fr_rd hR0 hS hnr
            refine lv_aload_n hx hb dX7_found_121 rfl (lv_at hl 11 rfl) ?_
            refine va_get (D := D) (ci := 6) (v := .ref nu) (C := RX7) (T := TX7) (N := 22) hx hb hts hinX7 hown hw.1 hP 0 rfl rfl 0 (by decide) (hts (.fieldLink RX7 19 "WheelSwingModel" "number" "[I") (by decide +kernel)) (fun _ h9 => h9) rfl dX7_found_122 ?_
            refine lv_bipush (v := 13) hx hb dX7_found_125 (by decide) ?_
            refine lv_iload_n hx hb dX7_found_127 rfl (lv_at hl 10 rfl) ?_
            refine lv_imul hx hb dX7_found_128 ?_
            rw [nI_m13]
            refine lv_iconst (v := 1) hx hb dX7_found_129 (by decide) ?_
            refine lv_iadd hx hb dX7_found_130 ?_
            rw [nI_ad1]
            refine lv_iload hx hb dX7_found_131 (lv_at hl 6 rfl) ?_
            refine lv_iload hx hb dX7_found_133 (lv_at hl 0 rfl) ?_
            refine lv_iadd hx hb dX7_found_135 ?_
            refine va_iast hx hb hw.1 hP hD hS 1 0 rfl rfl (vp_in_nI (by omega) (by omega)) dX7_found_136 (fun H locs hP hD hS => ?_)
            rw [nI_clamp (n := 13 * q + 1) (by omega)] at hP hD
            have hP : va_P D vwCl [(mo, .inr (6, [.ref nu, .double p0, .double p1, .double p2, .double p3, .double p4, .double p5, .double p6, .double p7, .double p8, .double p9, .int ct, .int cp, .int cr, .int ctr, .int cfs, .int (nI k), .ref sh, .int (nI k2), .ref ra, .ref rr, .double po])), (nu, .inl (cI, 52, .inl (upd (upd M (13 * q) (U + x)) (13 * q + 1) (V + y))))] H := hP
            have hD : va_D (aE2 mo nu) [(mo, .inr (6, [.ref nu, .double p0, .double p1, .double p2, .double p3, .double p4, .double p5, .double p6, .double p7, .double p8, .double p9, .int ct, .int cp, .int cr, .int ctr, .int cfs, .int (nI k), .ref sh, .int (nI k2), .ref ra, .ref rr, .double po])), (nu, .inl (cI, 52, .inl (upd (upd M (13 * q) (U + x)) (13 * q + 1) (V + y))))] := hD
            have hR := fr_rd hR0 hS hnr
            refine lv_aload_n hx hb dX7_found_137 rfl (lv_at hl 11 rfl) ?_
            refine lv_iload_n hx hb dX7_found_138 rfl (lv_at hl 10 rfl) ?_
            have kU9 : cB (U + x) := okC_c c7
            have kV9 : cB (V + y) := okC_c c11
            have hN9 := hasN_upd hN hM (U + x) (V + y)
            have hgb9 : hgB (U + x) (V + y) a lx ly b c sd g d sx sy f := ⟨kU9, kV9, ka, klx, kly, kb, kc, hsd, kg, kd, ksx, ksy, kf⟩
            have hq12 : va_P D vwCl [(mo, .inr (6, [.ref nu, .double p0, .double p1, .double p2, .double p3, .double p4, .double p5, .double p6, .double p7, .double p8, .double p9, .int ct, .int cp, .int cr, .int ctr, .int cfs, .int (nI k), .ref sh, .int (nI k2), .ref ra, .ref rr, .double po])), (nu, .inl (cI, 52, .inl (upd (upd M (13 * q) (U + x)) (13 * q + 1) (V + y)))), (ra, .inl (cI, 12, .inl f1)), (rr, .inl (cI, 12, .inl f2))] H := fr_cons (hP 0 _ rfl) (fr_cons (hP 1 _ rfl) (fr_cons (hR 0 _ rfl) (fr_cons (hR 1 _ rfl) (fr_nil))))
            refine va_calli (va_runV (As := [.int (nI q)]) (rest := []) ⟨hx, hb, hml, hown, hts⟩ (mX7_isOff l D cI cH mo nu sh ra rr k k2 q (upd (upd M (13 * q) (U + x)) (13 * q + 1) (V + y)) ct cp cr ctr cfs p0 p1 p2 p3 p4 p5 p6 p7 p8 p9 po (U + x) (V + y) lx ly a b c sd g d sx sy f f1 f2 hqq hne hN9 hgb9 hra hrr hkk hrd) (cwV 1 hts gX7_found_X7_isOff rfl rfl rfl (by decide +kernel) ⟨Nat.le_of_ble_eq_true rfl, Nat.le_of_ble_eq_true rfl⟩) ⟨kB_blind, va_recv hw.1 hq12 (ci := 6) (q0 := 0) rfl rfl, kB_go hq12 hw⟩ rfl rfl hl.1 rfl (lv_room (Nat.le_of_ble_eq_true rfl)) dX7_found_139 ⟨Nat.le_of_ble_eq_true rfl, Nat.le_of_ble_eq_true rfl⟩) hS (fun q _ h => Or.inl h) (fun q h => Or.inl h) (fun r13 u14 t H locs ht hvm hp15 hB hz1 hk1 hS => ?_)
            have hB : va_at D vwCl (mo, .inr (6, u14)) t.heap := hB
            rw [ht] at hB
            have hP := fr_cons hB (fr_keep (hP.sub [1] rfl) hk1 (nn_1 hne nn_0))
            have hR := fr_rd hR0 hS hnr
            rcases hp15 with ⟨rfl, s9, ho9, hg9, h09, j16, j17, j18, j19, j20, j21, j22, j23, j24, j25, rfl⟩ | ⟨rfl, ho9, j26, j27, j28, j29, j30, j31, j32, j33, j34, j35, j36, rfl⟩
            · have hP : va_P D vwCl [(mo, .inr (6, [.ref nu, .double j16, .double j17, .double j18, .double j19, .double j20, .double j21, .double j22, .double j23, .double j24, .double j25, .int ct, .int cp, .int cr, .int ctr, .int cfs, .int (nI k), .ref sh, .int (nI k2), .ref ra, .ref rr, .double s9])), (nu, .inl (cI, 52, .inl (upd (upd M (13 * q) (U + x)) (13 * q + 1) (V + y))))] H := hP
              have hD : va_D (aE2 mo nu) [(mo, .inr (6, [.ref nu, .double j16, .double j17, .double j18, .double j19, .double j20, .double j21, .double j22, .double j23, .double j24, .double j25, .int ct, .int cp, .int cr, .int ctr, .int cfs, .int (nI k), .ref sh, .int (nI k2), .ref ra, .ref rr, .double s9])), (nu, .inl (cI, 52, .inl (upd (upd M (13 * q) (U + x)) (13 * q + 1) (V + y))))] := D_cons (Or.inl rfl) (D_1 (Or.inr rfl)) (nn_1 hne nn_0)
              refine lv_if_eq (tgt := 177) hx hb dX7_found_142 (by decide) (fun c38 => absurd c38 (by decide)) (fun _ => ?_)
              refine lv_iload hx hb dX7_found_145 (lv_at hl 5 rfl) ?_
              refine lv_if_eq (tgt := 160) hx hb dX7_found_147 (by decide) (fun _ => ?_) (fun c40 => absurd c40 (by decide))
              refine lv_iconst (v := 1) hx hb dX7_found_160 (by decide) ?_
              refine lv_istore (lv' := [(6, .int 1), (12, .int y), (11, .int x), (10, .int 0), (9, .int 0), (7, .double FP.dconst0), (5, .int V), (4, .int U), (3, .int wt), (2, .int r0), (1, .int (nI q)), (0, .ref mo)]) hx hb dX7_found_161 hl (by decide) rfl (fun ls hl => ?_)
              refine lv_aload_n hx hb dX7_found_163 rfl (lv_at hl 11 rfl) ?_
              refine va_get (D := D) (ci := 6) (v := .double s9) (C := RX7) (T := TX7) (N := 22) hx hb hts hinX7 hown hw.1 hP 0 rfl rfl 21 (by decide) (hts (.fieldLink RX7 143 "WheelSwingModel" "off" "D") (by decide +kernel)) (fun _ h9 => h9) rfl dX7_found_164 ?_
              refine lv_dstore (lv' := [(7, .double s9), (6, .int 1), (12, .int y), (11, .int x), (10, .int 0), (9, .int 0), (5, .int V), (4, .int U), (3, .int wt), (2, .int r0), (1, .int (nI q)), (0, .ref mo)]) hx hb dX7_found_167 hl (by decide) rfl (fun ls hl => ?_)
              refine lv_iload hx hb dX7_found_169 (lv_at hl 3 rfl) ?_
              refine lv_istore (lv' := [(9, .int x), (7, .double s9), (6, .int 1), (12, .int y), (11, .int x), (10, .int 0), (5, .int V), (4, .int U), (3, .int wt), (2, .int r0), (1, .int (nI q)), (0, .ref mo)]) hx hb dX7_found_171 hl (by decide) rfl (fun ls hl => ?_)
              refine lv_iload hx hb dX7_found_173 (lv_at hl 3 rfl) ?_
              refine lv_istore (lv' := [(10, .int y), (9, .int x), (7, .double s9), (6, .int 1), (12, .int y), (11, .int x), (5, .int V), (4, .int U), (3, .int wt), (2, .int r0), (1, .int (nI q)), (0, .ref mo)]) hx hb dX7_found_175 hl (by decide) rfl (fun ls hl => ?_)
              refine lv_iinc (v := y + 1) (lv' := [(12, .int (y + 1)), (10, .int y), (9, .int x), (7, .double s9), (6, .int 1), (11, .int x), (5, .int V), (4, .int U), (3, .int wt), (2, .int r0), (1, .int (nI q)), (0, .ref mo)]) hx hb dX7_found_177 hl (k := 4) rfl rfl (by decide) rfl (fun ls hl => ?_)
              refine lv_goto (tgt := 79) hx hb dX7_found_180 (by decide) ?_
              have hso : sOff (U + x) (V + y) lx ly a b c sd f1 f2 k2 = some s9 := by rw [sOff_in kU9 kV9]; exact ho9
              have hst9 : fStep (sOff (U + x) (V + y) lx ly a b c sd f1 f2 k2) x y (none) = some (s9, x, y) := by show (match sOff (U + x) (V + y) lx ly a b c sd f1 f2 k2 with | none => _ | some v => _) = _; rw [hso]
              have h9 : lv_has ls 13 [(12, .int (y + 1)), (11, .int x), (10, .int y), (9, .int x), (7, .double s9), (6, .int 1), (5, .int V), (4, .int U), (3, .int wt), (2, .int r0), (1, .int (nI q)), (0, .ref mo)] := (lv_sub hl [0, 5, 1, 2, 3, 4, 6, 7, 8, 9, 10, 11] rfl)
              exact ih (y + 1) (some (s9, x, y)) H locs ls (upd (upd M (13 * q) (U + x)) (13 * q + 1) (V + y)) 1 s9 x y j16 j17 j18 j19 j20 j21 j22 j23 j24 j25 s9 hS hP (sameX_upd hM (U + x) (V + y)) ⟨by omega, by omega⟩ (by rw [← hst9]; exact hF) ⟨rfl, rfl, rfl, rfl, hg9, h09⟩ h9
            · have hP : va_P D vwCl [(mo, .inr (6, [.ref nu, .double j26, .double j27, .double j28, .double j29, .double j30, .double j31, .double j32, .double j33, .double j34, .double j35, .int ct, .int cp, .int cr, .int ctr, .int cfs, .int (nI k), .ref sh, .int (nI k2), .ref ra, .ref rr, .double j36])), (nu, .inl (cI, 52, .inl (upd (upd M (13 * q) (U + x)) (13 * q + 1) (V + y))))] H := hP
              have hD : va_D (aE2 mo nu) [(mo, .inr (6, [.ref nu, .double j26, .double j27, .double j28, .double j29, .double j30, .double j31, .double j32, .double j33, .double j34, .double j35, .int ct, .int cp, .int cr, .int ctr, .int cfs, .int (nI k), .ref sh, .int (nI k2), .ref ra, .ref rr, .double j36])), (nu, .inl (cI, 52, .inl (upd (upd M (13 * q) (U + x)) (13 * q + 1) (V + y))))] := D_cons (Or.inl rfl) (D_1 (Or.inr rfl)) (nn_1 hne nn_0)
              refine lv_if_eq (tgt := 177) hx hb dX7_found_142 (by decide) (fun _ => ?_) (fun c42 => absurd c42 (by decide))
              refine lv_iinc (v := y + 1) (lv' := [(12, .int (y + 1)), (11, .int x), (10, .int 0), (9, .int 0), (7, .double FP.dconst0), (6, .int 0), (5, .int V), (4, .int U), (3, .int wt), (2, .int r0), (1, .int (nI q)), (0, .ref mo)]) hx hb dX7_found_177 hl (k := 0) rfl rfl (by decide) rfl (fun ls hl => ?_)
              refine lv_goto (tgt := 79) hx hb dX7_found_180 (by decide) ?_
              have hso : sOff (U + x) (V + y) lx ly a b c sd f1 f2 k2 = none := by rw [sOff_in kU9 kV9]; exact ho9
              have hst9 : fStep (sOff (U + x) (V + y) lx ly a b c sd f1 f2 k2) x y (none) = none := by show (match sOff (U + x) (V + y) lx ly a b c sd f1 f2 k2 with | none => _ | some v => _) = _; rw [hso]
              have h9 : lv_has ls 13 [(12, .int (y + 1)), (11, .int x), (10, .int 0), (9, .int 0), (7, .double FP.dconst0), (6, .int 0), (5, .int V), (4, .int U), (3, .int wt), (2, .int r0), (1, .int (nI q)), (0, .ref mo)] := (lv_sub hl [0, 1, 2, 3, 4, 5, 6, 7, 8, 9, 10, 11] rfl)
              exact ih (y + 1) (none) H locs ls (upd (upd M (13 * q) (U + x)) (13 * q + 1) (V + y)) 0 (FP.dconst0) 0 0 j26 j27 j28 j29 j30 j31 j32 j33 j34 j35 j36 hS hP (sameX_upd hM (U + x) (V + y)) ⟨by omega, by omega⟩ (by rw [← hst9]; exact hF) ⟨rfl, rfl, rfl, rfl⟩ h9
    | some q9 =>
      obtain ⟨l9, a9, b9⟩ := q9
      obtain ⟨rfl, h91, h92, h93, hg8, hg7⟩ := id hrep
      obtain rfl : l9 = least := h91.symm
      obtain rfl : a9 = ma := h92.symm
      obtain rfl : b9 = mb := h93.symm
      refine lv_iload hx hb dX7_found_79 (lv_at hl 0 rfl) ?_
      refine lv_iload_n hx hb dX7_found_81 rfl (lv_at hl 9 rfl) ?_
      refine lv_icmp_gt (tgt := 183) hx hb dX7_found_82 (by decide) (fun c1 => ?_) (fun c1 => ?_)
      · have iw2 := Int32.not_le.mpr c1
        exact absurd c1 (Int32.not_lt.mpr (Int32.le_iff_toInt_le.mpr (by omega)))
      · have iw3 := Int32.not_lt.mp c1
        refine lv_iload hx hb dX7_found_85 (lv_at hl 7 rfl) ?_
        refine lv_iload hx hb dX7_found_87 (lv_at hl 1 rfl) ?_
        refine lv_iadd hx hb dX7_found_89 ?_
        refine va_calli (va_runS (As := [.int (U + x)]) (rest := []) ⟨hx, hb, hml, hown, hts⟩ (mX7_isAt l (U + x)) (va_cwS 1 hts gX7_found_X7_isAt rfl rfl rfl (by decide +kernel) ⟨Nat.le_of_ble_eq_true rfl, Nat.le_of_ble_eq_true rfl⟩) ⟨tB_blind, tB_go⟩ rfl rfl hl.1 rfl (lv_room (Nat.le_of_ble_eq_true rfl)) dX7_found_90 ⟨Nat.le_of_ble_eq_true rfl, Nat.le_of_ble_eq_true rfl⟩) hS (fun q _ h => h.elim) (fun q h => h.elim) (fun r4 u5 t H locs ht hvm hp6 hB hz1 hk1 hS => ?_)
        have hP := fr_keep hP hk1 fr_nA
        have hR := fr_rd hR0 hS hnr
        subst hp6
        refine lv_if_eq (tgt := 177) hx hb dX7_found_93 (by decide) (fun c7 => ?_) (fun c7 => ?_)
        · have c7 := bI_e.mp c7
          refine lv_iinc (v := y + 1) (lv' := [(12, .int (y + 1)), (11, .int x), (10, .int b9), (9, .int a9), (7, .double l9), (6, .int 1), (5, .int V), (4, .int U), (3, .int wt), (2, .int r0), (1, .int (nI q)), (0, .ref mo)]) hx hb dX7_found_177 hl (k := 0) rfl rfl (by decide) rfl (fun ls hl => ?_)
          refine lv_goto (tgt := 79) hx hb dX7_found_180 (by decide) ?_
          have hso : sOff (U + x) (V + y) lx ly a b c sd f1 f2 k2 = none := sOff_no1 c7
          have hst9 : fStep (sOff (U + x) (V + y) lx ly a b c sd f1 f2 k2) x y (some (l9, a9, b9)) = some (l9, a9, b9) := by show (match sOff (U + x) (V + y) lx ly a b c sd f1 f2 k2 with | none => _ | some v => _) = _; rw [hso]
          have h9 : lv_has ls 13 [(12, .int (y + 1)), (11, .int x), (10, .int b9), (9, .int a9), (7, .double l9), (6, .int 1), (5, .int V), (4, .int U), (3, .int wt), (2, .int r0), (1, .int (nI q)), (0, .ref mo)] := (lv_sub hl [0, 1, 2, 3, 4, 5, 6, 7, 8, 9, 10, 11] rfl)
          exact ih (y + 1) (some (l9, a9, b9)) H locs ls M 1 l9 a9 b9 p0 p1 p2 p3 p4 p5 p6 p7 p8 p9 po hS hP hM ⟨by omega, by omega⟩ (by rw [← hst9]; exact hF) hrep h9
        · have c7 := bI_n.mp c7
          refine lv_iload hx hb dX7_found_96 (lv_at hl 6 rfl) ?_
          refine lv_iload hx hb dX7_found_98 (lv_at hl 0 rfl) ?_
          refine lv_iadd hx hb dX7_found_100 ?_
          refine va_calli (va_runS (As := [.int (V + y)]) (rest := []) ⟨hx, hb, hml, hown, hts⟩ (mX7_isAt l (V + y)) (va_cwS 1 hts gX7_found_X7_isAt rfl rfl rfl (by decide +kernel) ⟨Nat.le_of_ble_eq_true rfl, Nat.le_of_ble_eq_true rfl⟩) ⟨tB_blind, tB_go⟩ rfl rfl hl.1 rfl (lv_room (Nat.le_of_ble_eq_true rfl)) dX7_found_101 ⟨Nat.le_of_ble_eq_true rfl, Nat.le_of_ble_eq_true rfl⟩) hS (fun q _ h => h.elim) (fun q h => h.elim) (fun r8 u9 t H locs ht hvm hp10 hB hz1 hk1 hS => ?_)
          have hP := fr_keep hP hk1 fr_nA
          have hR := fr_rd hR0 hS hnr
          subst hp10
          refine lv_if_eq (tgt := 177) hx hb dX7_found_104 (by decide) (fun c11 => ?_) (fun c11 => ?_)
          · have c11 := bI_e.mp c11
            refine lv_iinc (v := y + 1) (lv' := [(12, .int (y + 1)), (11, .int x), (10, .int b9), (9, .int a9), (7, .double l9), (6, .int 1), (5, .int V), (4, .int U), (3, .int wt), (2, .int r0), (1, .int (nI q)), (0, .ref mo)]) hx hb dX7_found_177 hl (k := 0) rfl rfl (by decide) rfl (fun ls hl => ?_)
            refine lv_goto (tgt := 79) hx hb dX7_found_180 (by decide) ?_
            have hso : sOff (U + x) (V + y) lx ly a b c sd f1 f2 k2 = none := sOff_no2 c11
            have hst9 : fStep (sOff (U + x) (V + y) lx ly a b c sd f1 f2 k2) x y (some (l9, a9, b9)) = some (l9, a9, b9) := by show (match sOff (U + x) (V + y) lx ly a b c sd f1 f2 k2 with | none => _ | some v => _) = _; rw [hso]
            have h9 : lv_has ls 13 [(12, .int (y + 1)), (11, .int x), (10, .int b9), (9, .int a9), (7, .double l9), (6, .int 1), (5, .int V), (4, .int U), (3, .int wt), (2, .int r0), (1, .int (nI q)), (0, .ref mo)] := (lv_sub hl [0, 1, 2, 3, 4, 5, 6, 7, 8, 9, 10, 11] rfl)
            exact ih (y + 1) (some (l9, a9, b9)) H locs ls M 1 l9 a9 b9 p0 p1 p2 p3 p4 p5 p6 p7 p8 p9 po hS hP hM ⟨by omega, by omega⟩ (by rw [← hst9]; exact hF) hrep h9
          · have c11 := bI_n.mp c11
            refine lv_aload_n hx hb dX7_found_107 rfl (lv_at hl 11 rfl) ?_
            refine va_get (D := D) (ci := 6) (v := .ref nu) (C := RX7) (T := TX7) (N := 22) hx hb hts hinX7 hown hw.1 hP 0 rfl rfl 0 (by decide) (hts (.fieldLink RX7 19 "WheelSwingModel" "number" "[I") (by decide +kernel)) (fun _ h9 => h9) rfl dX7_found_108 ?_
            refine lv_bipush (v := 13) hx hb dX7_found_111 (by decide) ?_
            refine lv_iload_n hx hb dX7_found_113 rfl (lv_at hl 10 rfl) ?_
            refine lv_imul hx hb dX7_found_114 ?_
            rw [nI_m13]
            refine lv_iload hx hb dX7_found_115 (lv_at hl 7 rfl) ?_
            refine lv_iload hx hb dX7_found_117 (lv_at hl 1 rfl) ?_
            refine lv_iadd hx hb dX7_found_119 ?_
            refine va_iast hx hb hw.1 hP hD hS 1 0 rfl rfl (vp_in_nI (by omega) (by omega)) dX7_found_120 (fun H locs hP hD hS => ?_)
            rw [nI_clamp (n := 13 * q) (by omega)] at hP hD
            have hP : va_P D vwCl [(mo, .inr (6, [.ref nu, .double p0, .double p1, .double p2, .double p3, .double p4, .double p5, .double p6, .double p7, .double p8, .double p9, .int ct, .int cp, .int cr, .int ctr, .int cfs, .int (nI k), .ref sh, .int (nI k2), .ref ra, .ref rr, .double po])), (nu, .inl (cI, 52, .inl (upd M (13 * q) (U + x))))] H := hP
            have hD : va_D (aE2 mo nu) [(mo, .inr (6, [.ref nu, .double p0, .double p1, .double p2, .double p3, .double p4, .double p5, .double p6, .double p7, .double p8, .double p9, .int ct, .int cp, .int cr, .int ctr, .int cfs, .int (nI k), .ref sh, .int (nI k2), .ref ra, .ref rr, .double po])), (nu, .inl (cI, 52, .inl (upd M (13 * q) (U + x))))] := hD
            have hR := fr_rd hR0 hS hnr
            refine lv_aload_n hx hb dX7_found_121 rfl (lv_at hl 11 rfl) ?_
            refine va_get (D := D) (ci := 6) (v := .ref nu) (C := RX7) (T := TX7) (N := 22) hx hb hts hinX7 hown hw.1 hP 0 rfl rfl 0 (by decide) (hts (.fieldLink RX7 19 "WheelSwingModel" "number" "[I") (by decide +kernel)) (fun _ h9 => h9) rfl dX7_found_122 ?_
            refine lv_bipush (v := 13) hx hb dX7_found_125 (by decide) ?_
            refine lv_iload_n hx hb dX7_found_127 rfl (lv_at hl 10 rfl) ?_
            refine lv_imul hx hb dX7_found_128 ?_
            rw [nI_m13]
            refine lv_iconst (v := 1) hx hb dX7_found_129 (by decide) ?_
            refine lv_iadd hx hb dX7_found_130 ?_
            rw [nI_ad1]
            refine lv_iload hx hb dX7_found_131 (lv_at hl 6 rfl) ?_
            refine lv_iload hx hb dX7_found_133 (lv_at hl 0 rfl) ?_
            refine lv_iadd hx hb dX7_found_135 ?_
            refine va_iast hx hb hw.1 hP hD hS 1 0 rfl rfl (vp_in_nI (by omega) (by omega)) dX7_found_136 (fun H locs hP hD hS => ?_)
            rw [nI_clamp (n := 13 * q + 1) (by omega)] at hP hD
            have hP : va_P D vwCl [(mo, .inr (6, [.ref nu, .double p0, .double p1, .double p2, .double p3, .double p4, .double p5, .double p6, .double p7, .double p8, .double p9, .int ct, .int cp, .int cr, .int ctr, .int cfs, .int (nI k), .ref sh, .int (nI k2), .ref ra, .ref rr, .double po])), (nu, .inl (cI, 52, .inl (upd (upd M (13 * q) (U + x)) (13 * q + 1) (V + y))))] H := hP
            have hD : va_D (aE2 mo nu) [(mo, .inr (6, [.ref nu, .double p0, .double p1, .double p2, .double p3, .double p4, .double p5, .double p6, .double p7, .double p8, .double p9, .int ct, .int cp, .int cr, .int ctr, .int cfs, .int (nI k), .ref sh, .int (nI k2), .ref ra, .ref rr, .double po])), (nu, .inl (cI, 52, .inl (upd (upd M (13 * q) (U + x)) (13 * q + 1) (V + y))))] := hD
            have hR := fr_rd hR0 hS hnr
            refine lv_aload_n hx hb dX7_found_137 rfl (lv_at hl 11 rfl) ?_
            refine lv_iload_n hx hb dX7_found_138 rfl (lv_at hl 10 rfl) ?_
            have kU9 : cB (U + x) := okC_c c7
            have kV9 : cB (V + y) := okC_c c11
            have hN9 := hasN_upd hN hM (U + x) (V + y)
            have hgb9 : hgB (U + x) (V + y) a lx ly b c sd g d sx sy f := ⟨kU9, kV9, ka, klx, kly, kb, kc, hsd, kg, kd, ksx, ksy, kf⟩
            have hq12 : va_P D vwCl [(mo, .inr (6, [.ref nu, .double p0, .double p1, .double p2, .double p3, .double p4, .double p5, .double p6, .double p7, .double p8, .double p9, .int ct, .int cp, .int cr, .int ctr, .int cfs, .int (nI k), .ref sh, .int (nI k2), .ref ra, .ref rr, .double po])), (nu, .inl (cI, 52, .inl (upd (upd M (13 * q) (U + x)) (13 * q + 1) (V + y)))), (ra, .inl (cI, 12, .inl f1)), (rr, .inl (cI, 12, .inl f2))] H := fr_cons (hP 0 _ rfl) (fr_cons (hP 1 _ rfl) (fr_cons (hR 0 _ rfl) (fr_cons (hR 1 _ rfl) (fr_nil))))
            refine va_calli (va_runV (As := [.int (nI q)]) (rest := []) ⟨hx, hb, hml, hown, hts⟩ (mX7_isOff l D cI cH mo nu sh ra rr k k2 q (upd (upd M (13 * q) (U + x)) (13 * q + 1) (V + y)) ct cp cr ctr cfs p0 p1 p2 p3 p4 p5 p6 p7 p8 p9 po (U + x) (V + y) lx ly a b c sd g d sx sy f f1 f2 hqq hne hN9 hgb9 hra hrr hkk hrd) (cwV 1 hts gX7_found_X7_isOff rfl rfl rfl (by decide +kernel) ⟨Nat.le_of_ble_eq_true rfl, Nat.le_of_ble_eq_true rfl⟩) ⟨kB_blind, va_recv hw.1 hq12 (ci := 6) (q0 := 0) rfl rfl, kB_go hq12 hw⟩ rfl rfl hl.1 rfl (lv_room (Nat.le_of_ble_eq_true rfl)) dX7_found_139 ⟨Nat.le_of_ble_eq_true rfl, Nat.le_of_ble_eq_true rfl⟩) hS (fun q _ h => Or.inl h) (fun q h => Or.inl h) (fun r13 u14 t H locs ht hvm hp15 hB hz1 hk1 hS => ?_)
            have hB : va_at D vwCl (mo, .inr (6, u14)) t.heap := hB
            rw [ht] at hB
            have hP := fr_cons hB (fr_keep (hP.sub [1] rfl) hk1 (nn_1 hne nn_0))
            have hR := fr_rd hR0 hS hnr
            rcases hp15 with ⟨rfl, s9, ho9, hg9, h09, j16, j17, j18, j19, j20, j21, j22, j23, j24, j25, rfl⟩ | ⟨rfl, ho9, j26, j27, j28, j29, j30, j31, j32, j33, j34, j35, j36, rfl⟩
            · have hP : va_P D vwCl [(mo, .inr (6, [.ref nu, .double j16, .double j17, .double j18, .double j19, .double j20, .double j21, .double j22, .double j23, .double j24, .double j25, .int ct, .int cp, .int cr, .int ctr, .int cfs, .int (nI k), .ref sh, .int (nI k2), .ref ra, .ref rr, .double s9])), (nu, .inl (cI, 52, .inl (upd (upd M (13 * q) (U + x)) (13 * q + 1) (V + y))))] H := hP
              have hD : va_D (aE2 mo nu) [(mo, .inr (6, [.ref nu, .double j16, .double j17, .double j18, .double j19, .double j20, .double j21, .double j22, .double j23, .double j24, .double j25, .int ct, .int cp, .int cr, .int ctr, .int cfs, .int (nI k), .ref sh, .int (nI k2), .ref ra, .ref rr, .double s9])), (nu, .inl (cI, 52, .inl (upd (upd M (13 * q) (U + x)) (13 * q + 1) (V + y))))] := D_cons (Or.inl rfl) (D_1 (Or.inr rfl)) (nn_1 hne nn_0)
              refine lv_if_eq (tgt := 177) hx hb dX7_found_142 (by decide) (fun c38 => absurd c38 (by decide)) (fun _ => ?_)
              refine lv_iload hx hb dX7_found_145 (lv_at hl 5 rfl) ?_
              refine lv_if_eq (tgt := 160) hx hb dX7_found_147 (by decide) (fun c40 => absurd c40 (by decide)) (fun _ => ?_)
              refine lv_aload_n hx hb dX7_found_150 rfl (lv_at hl 11 rfl) ?_
              refine va_get (D := D) (ci := 6) (v := .double s9) (C := RX7) (T := TX7) (N := 22) hx hb hts hinX7 hown hw.1 hP 0 rfl rfl 21 (by decide) (hts (.fieldLink RX7 143 "WheelSwingModel" "off" "D") (by decide +kernel)) (fun _ h9 => h9) rfl dX7_found_151 ?_
              refine lv_dload hx hb dX7_found_154 (lv_at hl 4 rfl) ?_
              refine lv_dcmp hx hb dX7_found_156 ?_
              rw [fp_cv hg9.1 hg8.1]
              refine lv_if_ge (tgt := 177) hx hb dX7_found_157 (by decide) (fun c41 => ?_) (fun c41 => ?_)
              · rw [fcv_ge] at c41
                refine lv_iinc (v := y + 1) (lv' := [(12, .int (y + 1)), (11, .int x), (10, .int b9), (9, .int a9), (7, .double l9), (6, .int 1), (5, .int V), (4, .int U), (3, .int wt), (2, .int r0), (1, .int (nI q)), (0, .ref mo)]) hx hb dX7_found_177 hl (k := 0) rfl rfl (by decide) rfl (fun ls hl => ?_)
                refine lv_goto (tgt := 79) hx hb dX7_found_180 (by decide) ?_
                have hso : sOff (U + x) (V + y) lx ly a b c sd f1 f2 k2 = some s9 := by rw [sOff_in kU9 kV9]; exact ho9
                have hst9 : fStep (sOff (U + x) (V + y) lx ly a b c sd f1 f2 k2) x y (some (l9, a9, b9)) = some (l9, a9, b9) := by show (match sOff (U + x) (V + y) lx ly a b c sd f1 f2 k2 with | none => _ | some v => _) = _; rw [hso]; exact if_neg (Int.not_lt.mpr c41)
                have h9 : lv_has ls 13 [(12, .int (y + 1)), (11, .int x), (10, .int b9), (9, .int a9), (7, .double l9), (6, .int 1), (5, .int V), (4, .int U), (3, .int wt), (2, .int r0), (1, .int (nI q)), (0, .ref mo)] := (lv_sub hl [0, 1, 2, 3, 4, 5, 6, 7, 8, 9, 10, 11] rfl)
                exact ih (y + 1) (some (l9, a9, b9)) H locs ls (upd (upd M (13 * q) (U + x)) (13 * q + 1) (V + y)) 1 l9 a9 b9 j16 j17 j18 j19 j20 j21 j22 j23 j24 j25 s9 hS hP (sameX_upd hM (U + x) (V + y)) ⟨by omega, by omega⟩ (by rw [← hst9]; exact hF) hrep h9
              · rw [fcv_ge] at c41
                refine lv_iconst (v := 1) hx hb dX7_found_160 (by decide) ?_
                refine lv_istore (lv' := [(6, .int 1), (12, .int y), (11, .int x), (10, .int b9), (9, .int a9), (7, .double l9), (5, .int V), (4, .int U), (3, .int wt), (2, .int r0), (1, .int (nI q)), (0, .ref mo)]) hx hb dX7_found_161 hl (by decide) rfl (fun ls hl => ?_)
                refine lv_aload_n hx hb dX7_found_163 rfl (lv_at hl 11 rfl) ?_
                refine va_get (D := D) (ci := 6) (v := .double s9) (C := RX7) (T := TX7) (N := 22) hx hb hts hinX7 hown hw.1 hP 0 rfl rfl 21 (by decide) (hts (.fieldLink RX7 143 "WheelSwingModel" "off" "D") (by decide +kernel)) (fun _ h9 => h9) rfl dX7_found_164 ?_
                refine lv_dstore (lv' := [(7, .double s9), (6, .int 1), (12, .int y), (11, .int x), (10, .int b9), (9, .int a9), (5, .int V), (4, .int U), (3, .int wt), (2, .int r0), (1, .int (nI q)), (0, .ref mo)]) hx hb dX7_found_167 hl (by decide) rfl (fun ls hl => ?_)
                refine lv_iload hx hb dX7_found_169 (lv_at hl 3 rfl) ?_
                refine lv_istore (lv' := [(9, .int x), (7, .double s9), (6, .int 1), (12, .int y), (11, .int x), (10, .int b9), (5, .int V), (4, .int U), (3, .int wt), (2, .int r0), (1, .int (nI q)), (0, .ref mo)]) hx hb dX7_found_171 hl (by decide) rfl (fun ls hl => ?_)
                refine lv_iload hx hb dX7_found_173 (lv_at hl 3 rfl) ?_
                refine lv_istore (lv' := [(10, .int y), (9, .int x), (7, .double s9), (6, .int 1), (12, .int y), (11, .int x), (5, .int V), (4, .int U), (3, .int wt), (2, .int r0), (1, .int (nI q)), (0, .ref mo)]) hx hb dX7_found_175 hl (by decide) rfl (fun ls hl => ?_)
                refine lv_iinc (v := y + 1) (lv' := [(12, .int (y + 1)), (10, .int y), (9, .int x), (7, .double s9), (6, .int 1), (11, .int x), (5, .int V), (4, .int U), (3, .int wt), (2, .int r0), (1, .int (nI q)), (0, .ref mo)]) hx hb dX7_found_177 hl (k := 4) rfl rfl (by decide) rfl (fun ls hl => ?_)
                refine lv_goto (tgt := 79) hx hb dX7_found_180 (by decide) ?_
                have hso : sOff (U + x) (V + y) lx ly a b c sd f1 f2 k2 = some s9 := by rw [sOff_in kU9 kV9]; exact ho9
                have hst9 : fStep (sOff (U + x) (V + y) lx ly a b c sd f1 f2 k2) x y (some (l9, a9, b9)) = some (s9, x, y) := by show (match sOff (U + x) (V + y) lx ly a b c sd f1 f2 k2 with | none => _ | some v => _) = _; rw [hso]; exact if_pos (Int.not_le.mp c41)
                have h9 : lv_has ls 13 [(12, .int (y + 1)), (11, .int x), (10, .int y), (9, .int x), (7, .double s9), (6, .int 1), (5, .int V), (4, .int U), (3, .int wt), (2, .int r0), (1, .int (nI q)), (0, .ref mo)] := (lv_sub hl [0, 5, 1, 2, 3, 4, 6, 7, 8, 9, 10, 11] rfl)
                exact ih (y + 1) (some (s9, x, y)) H locs ls (upd (upd M (13 * q) (U + x)) (13 * q + 1) (V + y)) 1 s9 x y j16 j17 j18 j19 j20 j21 j22 j23 j24 j25 s9 hS hP (sameX_upd hM (U + x) (V + y)) ⟨by omega, by omega⟩ (by rw [← hst9]; exact hF) ⟨rfl, rfl, rfl, rfl, hg9, h09⟩ h9
            · have hP : va_P D vwCl [(mo, .inr (6, [.ref nu, .double j26, .double j27, .double j28, .double j29, .double j30, .double j31, .double j32, .double j33, .double j34, .double j35, .int ct, .int cp, .int cr, .int ctr, .int cfs, .int (nI k), .ref sh, .int (nI k2), .ref ra, .ref rr, .double j36])), (nu, .inl (cI, 52, .inl (upd (upd M (13 * q) (U + x)) (13 * q + 1) (V + y))))] H := hP
              have hD : va_D (aE2 mo nu) [(mo, .inr (6, [.ref nu, .double j26, .double j27, .double j28, .double j29, .double j30, .double j31, .double j32, .double j33, .double j34, .double j35, .int ct, .int cp, .int cr, .int ctr, .int cfs, .int (nI k), .ref sh, .int (nI k2), .ref ra, .ref rr, .double j36])), (nu, .inl (cI, 52, .inl (upd (upd M (13 * q) (U + x)) (13 * q + 1) (V + y))))] := D_cons (Or.inl rfl) (D_1 (Or.inr rfl)) (nn_1 hne nn_0)
              refine lv_if_eq (tgt := 177) hx hb dX7_found_142 (by decide) (fun _ => ?_) (fun c43 => absurd c43 (by decide))
              refine lv_iinc (v := y + 1) (lv' := [(12, .int (y + 1)), (11, .int x), (10, .int b9), (9, .int a9), (7, .double l9), (6, .int 1), (5, .int V), (4, .int U), (3, .int wt), (2, .int r0), (1, .int (nI q)), (0, .ref mo)]) hx hb dX7_found_177 hl (k := 0) rfl rfl (by decide) rfl (fun ls hl => ?_)
              refine lv_goto (tgt := 79) hx hb dX7_found_180 (by decide) ?_
              have hso : sOff (U + x) (V + y) lx ly a b c sd f1 f2 k2 = none := by rw [sOff_in kU9 kV9]; exact ho9
              have hst9 : fStep (sOff (U + x) (V + y) lx ly a b c sd f1 f2 k2) x y (some (l9, a9, b9)) = some (l9, a9, b9) := by show (match sOff (U + x) (V + y) lx ly a b c sd f1 f2 k2 with | none => _ | some v => _) = _; rw [hso]
              have h9 : lv_has ls 13 [(12, .int (y + 1)), (11, .int x), (10, .int b9), (9, .int a9), (7, .double l9), (6, .int 1), (5, .int V), (4, .int U), (3, .int wt), (2, .int r0), (1, .int (nI q)), (0, .ref mo)] := (lv_sub hl [0, 1, 2, 3, 4, 5, 6, 7, 8, 9, 10, 11] rfl)
              exact ih (y + 1) (some (l9, a9, b9)) H locs ls (upd (upd M (13 * q) (U + x)) (13 * q + 1) (V + y)) 1 l9 a9 b9 j26 j27 j28 j29 j30 j31 j32 j33 j34 j35 j36 hS hP (sameX_upd hM (U + x) (V + y)) ⟨by omega, by omega⟩ (by rw [← hst9]; exact hF) hrep h9
set_option maxHeartbeats 4000000 in
set_option maxRecDepth 100000 in
theorem lpX7_fout {p : Program} {l : Launch} {e : Env} {s : State} {m : MethodId} {args : Array Value} {below : List Frame} {meth : Method} {co : Code} {Q : State → Prop} (D : va_G) (cI cH : ClassId) (hx : p.tables.exec = Jvm.exec) (hb : co.code = cX7_found) (hml : co.maxLocals = 13) (hown : s.vm.findClass RX7 = some m.cls) (hts : ∀ w ∈ wsX7_found, w.before args s = true) (hw : wk D cI cH s) {mo nu sh ra rr k k2 q : Nat} {N : Nat → Int32} {ct cp cr ctr cfs : Int32} {U V lx ly a b c sd g d sx sy f : Int32} {f1 f2 : Nat → Int32} {r0 wt : Int32} (hqq : q < 4) (hne : nu ≠ mo) (hN : hasN N q U V lx ly a b c sd g d sx sy f) (hgb : hgB U V a lx ly b c sd g d sx sy f) (hra : ra ≠ mo) (hrr : rr ≠ mo) (hkk : k2 ≤ 12) (hrd : ∀ j, j < k2 → cB (f1 j) ∧ rB (f2 j)) (hrn : ra ≠ nu) (hrm : rr ≠ nu) (hr0 : 0 ≤ r0.toInt ∧ r0.toInt ≤ 3)  {S1 : fS} (hR0 : va_P D vwCl [(ra, .inl (cI, 12, .inl f1)), (rr, .inl (cI, 12, .inl f2))] s.heap) (kx : ∀ (H : Heap) (locs : List Loc) (ls : Array Slot) (M : Nat → Int32) (has : Int32) (least : UInt64) (ma mb : Int32) (p0 p1 p2 p3 p4 p5 p6 p7 p8 p9 po : UInt64), va_S (aE2 mo nu) s.heap H locs → va_P D vwCl [(mo, .inr (6, [.ref nu, .double p0, .double p1, .double p2, .double p3, .double p4, .double p5, .double p6, .double p7, .double p8, .double p9, .int ct, .int cp, .int cr, .int ctr, .int cfs, .int (nI k), .ref sh, .int (nI k2), .ref ra, .ref rr, .double po])), (nu, .inl (cI, 52, .inl M))] H → sameX M N q → mRep S1 has least ma mb → lv_has ls 13 [(10, .int mb), (9, .int ma), (7, .double least), (6, .int has), (5, .int V), (4, .int U), (3, .int wt), (2, .int r0), (1, .int (nI q)), (0, .ref mo)] → W p l e ({ frames := 3, cells := 0, slots := 0, locals := 99 } : Room) s m args below meth co H locs 0 0 Q (F0 m 189 ls [])) : ∀ (n : Nat) (x : Int32) (S0 : fS) (H : Heap) (locs : List Loc) (ls : Array Slot) (M : Nat → Int32) (has : Int32) (least : UInt64) (ma mb : Int32) (p0 p1 p2 p3 p4 p5 p6 p7 p8 p9 po : UInt64), va_S (aE2 mo nu) s.heap H locs → va_P D vwCl [(mo, .inr (6, [.ref nu, .double p0, .double p1, .double p2, .double p3, .double p4, .double p5, .double p6, .double p7, .double p8, .double p9, .int ct, .int cp, .int cr, .int ctr, .int cfs, .int (nI k), .ref sh, .int (nI k2), .ref ra, .ref rr, .double po])), (nu, .inl (cI, 52, .inl M))] H → sameX M N q → x.toInt + n = r0.toInt + 1 ∧ -10 ≤ x.toInt → fOut (fun x y => sOff (U + x) (V + y) lx ly a b c sd f1 f2 k2) r0 n x S0 = S1 → mRep S0 has least ma mb → lv_has ls 13 [(11, .int x), (10, .int mb), (9, .int ma), (7, .double least), (6, .int has), (5, .int V), (4, .int U), (3, .int wt), (2, .int r0), (1, .int (nI q)), (0, .ref mo)] → W p l e ({ frames := 3, cells := 0, slots := 0, locals := 99 } : Room) s m args below meth co H locs 0 0 Q (F0 m 69 ls []) := by
  have hinX7 : ∀ w ∈ wsX70, w ∈ wsX7_found := by decide +kernel
  obtain ⟨hN0, hN1, hN2, hN3, hN4, hN5, hN6, hN7, hN8, hN9, hN10, hN11, hN12⟩ := id hN
  obtain ⟨kU, kV, ka, klx, kly, kb, kc, hsd, kg, kd, ksx, ksy, kf⟩ := id hgb
  have hnr : ∀ (k9 : Nat) (q : Nat × va_E), ([(ra, .inl (cI, 12, .inl f1)), (rr, .inl (cI, 12, .inl f2))] : va_W)[k9]? = some q → ¬ (aE2 mo nu) q.1 := nn_1 (fun h => h.elim hra hrn) (nn_1 (fun h => h.elim hrr hrm) nn_0)
  intro n
  induction n with
  | zero =>
    intro x S0 H locs ls M has least ma mb p0 p1 p2 p3 p4 p5 p6 p7 p8 p9 po hS hP hM hy hF hrep hl
    obtain ⟨hy1, hy2⟩ := hy
    have hD : va_D (aE2 mo nu) [(mo, .inr (6, [.ref nu, .double p0, .double p1, .double p2, .double p3, .double p4, .double p5, .double p6, .double p7, .double p8, .double p9, .int ct, .int cp, .int cr, .int ctr, .int cfs, .int (nI k), .ref sh, .int (nI k2), .ref ra, .ref rr, .double po])), (nu, .inl (cI, 52, .inl M))] := D_cons (Or.inl rfl) (D_1 (Or.inr rfl)) (nn_1 hne nn_0)
    have hR := fr_rd hR0 hS hnr
    refine lv_iload hx hb dX7_found_69 (lv_at hl 0 rfl) ?_
    refine lv_iload_n hx hb dX7_found_71 rfl (lv_at hl 8 rfl) ?_
    refine lv_icmp_gt (tgt := 189) hx hb dX7_found_72 (by decide) (fun c1 => ?_) (fun c1 => ?_)
    · have iw2 := Int32.not_le.mpr c1
      exact kx H locs ls M has least ma mb p0 p1 p2 p3 p4 p5 p6 p7 p8 p9 po hS hP hM (by rw [← hF]; exact hrep) (lv_sub hl [1, 2, 3, 4, 5, 6, 7, 8, 9, 10] rfl)
    · have iw3 := Int32.not_lt.mp c1
      exact absurd (Int32.lt_iff_toInt_lt.mpr (by omega)) c1
  | succ n ih =>
    intro x S0 H locs ls M has least ma mb p0 p1 p2 p3 p4 p5 p6 p7 p8 p9 po hS hP hM hy hF hrep hl
    obtain ⟨hy1, hy2⟩ := hy
    have hD : va_D (aE2 mo nu) [(mo, .inr (6, [.ref nu, .double p0, .double p1, .double p2, .double p3, .double p4, .double p5, .double p6, .double p7, .double p8, .double p9, .int ct, .int cp, .int cr, .int ctr, .int cfs, .int (nI k), .ref sh, .int (nI k2), .ref ra, .ref rr, .double po])), (nu, .inl (cI, 52, .inl M))] := D_cons (Or.inl rfl) (D_1 (Or.inr rfl)) (nn_1 hne nn_0)
    have hR := fr_rd hR0 hS hnr
    have hyn : (x + 1).toInt = x.toInt + 1 := by
      have e1 : (1 : Int32).toInt = 1 := rfl
      rw [i3_add (by omega) (by omega), e1]
    have hneg : (-r0).toInt = -r0.toInt := by rw [Int32.toInt_neg]; exact Int.bmod_eq_of_le (by omega) (by omega)
    refine lv_iload hx hb dX7_found_69 (lv_at hl 0 rfl) ?_
    refine lv_iload_n hx hb dX7_found_71 rfl (lv_at hl 8 rfl) ?_
    refine lv_icmp_gt (tgt := 189) hx hb dX7_found_72 (by decide) (fun c1 => ?_) (fun c1 => ?_)
    · have iw2 := Int32.not_le.mpr c1
      exact absurd c1 (Int32.not_lt.mpr (Int32.le_iff_toInt_le.mpr (by omega)))
    · have iw3 := Int32.not_lt.mp c1
      refine lv_iload_n hx hb dX7_found_75 rfl (lv_at hl 8 rfl) ?_
      refine lv_ineg hx hb dX7_found_76 ?_
      refine lv_istore (lv' := [(12, .int (-r0)), (11, .int x), (10, .int mb), (9, .int ma), (7, .double least), (6, .int has), (5, .int V), (4, .int U), (3, .int wt), (2, .int r0), (1, .int (nI q)), (0, .ref mo)]) hx hb dX7_found_77 hl (by decide) rfl (fun ls hl => ?_)
      have h54 : lv_has ls 13 [(12, .int (-r0)), (11, .int x), (10, .int mb), (9, .int ma), (7, .double least), (6, .int has), (5, .int V), (4, .int U), (3, .int wt), (2, .int r0), (1, .int (nI q)), (0, .ref mo)] := (lv_sub hl [0, 1, 2, 3, 4, 5, 6, 7, 8, 9, 10, 11] rfl)
      refine lpX7_fin D cI cH (x := x) (S1 := fIn (fun x y => sOff (U + x) (V + y) lx ly a b c sd f1 f2 k2) x (2 * r0.toInt + 1).toNat (-r0) S0) hx hb hml hown hts hw hqq hne hN hgb hra hrr hkk hrd hrn hrm hr0 hR0 (fun H locs ls M has least ma mb p0 p1 p2 p3 p4 p5 p6 p7 p8 p9 po hS hP hM hrep hl => ?_) (2 * r0.toInt + 1).toNat (-r0) S0 H locs ls M has least ma mb p0 p1 p2 p3 p4 p5 p6 p7 p8 p9 po hS hP hM ⟨by omega, by omega⟩ rfl hrep h54
      refine lv_iinc (v := x + 1) (lv' := [(11, .int (x + 1)), (10, .int mb), (9, .int ma), (7, .double least), (6, .int has), (5, .int V), (4, .int U), (3, .int wt), (2, .int r0), (1, .int (nI q)), (0, .ref mo)]) hx hb dX7_found_183 hl (k := 0) rfl rfl (by decide) rfl (fun ls hl => ?_)
      refine lv_goto (tgt := 69) hx hb dX7_found_186 (by decide) ?_
      have h9 : lv_has ls 13 [(11, .int (x + 1)), (10, .int mb), (9, .int ma), (7, .double least), (6, .int has), (5, .int V), (4, .int U), (3, .int wt), (2, .int r0), (1, .int (nI q)), (0, .ref mo)] := (lv_sub hl [0, 1, 2, 3, 4, 5, 6, 7, 8, 9, 10] rfl)
      exact ih (x + 1) _ H locs ls M has least ma mb p0 p1 p2 p3 p4 p5 p6 p7 p8 p9 po hS hP hM ⟨by omega, by omega⟩ hF hrep h9
theorem w2_0 {wt : Int32} {q : UInt64 × Int32 × Int32} (h : wt = 0) : fTell (some q) wt = (q.2.1 + 10).toInt64 := by subst h; rfl
theorem w2_1 {wt : Int32} {q : UInt64 × Int32 × Int32} (h : wt = 1) : fTell (some q) wt = (q.2.2 + 10).toInt64 := by subst h; rfl
theorem w2_2 {wt : Int32} {q : UInt64 × Int32 × Int32} (h : isW wt 0 2 = true) (h0 : ¬ wt = 0) (h1 : ¬ wt = 1) : fTell (some q) wt = q.1.toInt64 := by
  obtain ⟨q1, q2⟩ := isW_i h
  have e0 : (0 : Int32).toInt = 0 := rfl
  have e1 : (1 : Int32).toInt = 1 := rfl
  have e2 : (2 : Int32).toInt = 2 := rfl
  have n0 : wt.toInt ≠ 0 := fun hc => h0 (i_eq hc)
  have n1 : wt.toInt ≠ 1 := fun hc => h1 (i_eq hc)
  have h2 : wt = 2 := i_eq (by omega)
  subst h2
  rfl
set_option maxHeartbeats 4000000 in
set_option maxRecDepth 100000 in
theorem mX7_found (l : Launch) (D : va_G) (cI cH : ClassId) (mo nu sh ra rr k k2 q : Nat) (N : Nat → Int32) (ct cp cr ctr cfs : Int32) (p0 p1 p2 p3 p4 p5 p6 p7 p8 p9 po : UInt64) (U V lx ly a b c sd g d sx sy f : Int32) (f1 f2 : Nat → Int32) (h r0 wt : Int32)  (hqq : q < 4) (hne : nu ≠ mo) (hN : hasN N q U V lx ly a b c sd g d sx sy f) (hgb : hgB U V a lx ly b c sd g d sx sy f) (hra : ra ≠ mo) (hrr : rr ≠ mo) (hkk : k2 ≤ 12) (hrd : ∀ j, j < k2 → cB (f1 j) ∧ rB (f2 j)) (hrn : ra ≠ nu) (hrm : rr ≠ nu) (hq9 : okH h = true → h = nI q) : Met l yX7_found wsX7_found ({ frames := 3, cells := 0, slots := 0, locals := 99 }) (va_Pc [.ref mo, .int h, .int r0, .int wt] (kB D cI cH [(mo, .inr (6, [.ref nu, .double p0, .double p1, .double p2, .double p3, .double p4, .double p5, .double p6, .double p7, .double p8, .double p9, .int ct, .int cp, .int cr, .int ctr, .int cfs, .int (nI k), .ref sh, .int (nI k2), .ref ra, .ref rr, .double po])), (nu, .inl (cI, 52, .inl N)), (ra, .inl (cI, 12, .inl f1)), (rr, .inl (cI, 12, .inl f2))])) (va_Ql (fun (r : Int64) (u : List Value × (Nat → Int32)) => r = (if okH h && (isW r0 0 3 && isW wt 0 2) then sFound U V a lx ly b c sd g d sx sy f f1 f2 k2 r0 wt else -2) ∧ isM nu sh ra rr k k2 ct cp cr ctr cfs u.1 ∧ u.2 = N) (fun u t => va_at D vwCl (mo, .inr (6, u.1)) t.heap ∧ va_at D vwCl (nu, .inl (cI, 52, .inl u.2)) t.heap) (aE2 mo nu)) 0 0 (aE2 mo nu) := by
  refine Met.ofW (cc := cX7_found) (maxL := 13) (ret := (some .long)) (by decide) rfl ?_
  intro p e s m args below meth co s₁ B hml hv
  obtain ⟨rfl, hP0, hw⟩ := hv
  have hx := B.exec
  have hb := B.bytes
  have hr := B.returns
  have hts := atoms_spec (ws := wsX7_found) B.pre
  have hown : s.vm.findClass RX7 = some m.cls := findClass_of_methodNamed B.named
  have hlocks := B.notSynchronized
  have hinX7 : ∀ w ∈ wsX70, w ∈ wsX7_found := by decide +kernel
  have hS : va_S (aE2 mo nu) s.heap s.heap [] := va_S.rf
  have hP : va_P D vwCl [(mo, .inr (6, [.ref nu, .double p0, .double p1, .double p2, .double p3, .double p4, .double p5, .double p6, .double p7, .double p8, .double p9, .int ct, .int cp, .int cr, .int ctr, .int cfs, .int (nI k), .ref sh, .int (nI k2), .ref ra, .ref rr, .double po])), (nu, .inl (cI, 52, .inl N))] s.heap := hP0.sub [0, 1] rfl
  have hD : va_D (aE2 mo nu) [(mo, .inr (6, [.ref nu, .double p0, .double p1, .double p2, .double p3, .double p4, .double p5, .double p6, .double p7, .double p8, .double p9, .int ct, .int cp, .int cr, .int ctr, .int cfs, .int (nI k), .ref sh, .int (nI k2), .ref ra, .ref rr, .double po])), (nu, .inl (cI, 52, .inl N))] := D_cons (Or.inl rfl) (D_1 (Or.inr rfl)) (nn_1 hne nn_0)
  have hR0 : va_P D vwCl [(ra, .inl (cI, 12, .inl f1)), (rr, .inl (cI, 12, .inl f2))] s.heap := hP0.sub [2, 3] rfl
  have hR := hR0
  have hnr : ∀ (k9 : Nat) (q : Nat × va_E), ([(ra, .inl (cI, 12, .inl f1)), (rr, .inl (cI, 12, .inl f2))] : va_W)[k9]? = some q → ¬ (aE2 mo nu) q.1 := nn_1 (fun h => h.elim hra hrn) (nn_1 (fun h => h.elim hrr hrm) nn_0)
  obtain ⟨hN0, hN1, hN2, hN3, hN4, hN5, hN6, hN7, hN8, hN9, hN10, hN11, hN12⟩ := id hN
  obtain ⟨kU, kV, ka, klx, kly, kb, kc, hsd, kg, kd, ksx, ksy, kf⟩ := id hgb
  have hl := lv_entry ([.ref mo, .int h, .int r0, .int wt]) (n := 13) (Nat.le_of_ble_eq_true rfl)
  rw [lg_entry_eq]
  generalize (lg_sl ([.ref mo, .int h, .int r0, .int wt]) ++ List.replicate (13 - (lg_sl ([.ref mo, .int h, .int r0, .int wt])).length) Slot.unset).toArray = ls at hl ⊢
  have hl : lv_has ls 13 [(0, .ref mo), (1, .int h), (2, .int r0), (3, .int wt)] := hl
  skip
  refine lv_iload_n hx hb dX7_found_0 rfl (lv_at hl 1 rfl) ?_
  refine va_calli (va_runS (As := [.int h]) (rest := []) ⟨hx, hb, hml, hown, hts⟩ (mX7_isHanging l h) (va_cwS 1 hts gX7_found_X7_isHanging rfl rfl rfl (by decide +kernel) ⟨Nat.le_of_ble_eq_true rfl, Nat.le_of_ble_eq_true rfl⟩) ⟨tB_blind, tB_go⟩ rfl rfl hl.1 rfl (lv_room (Nat.le_of_ble_eq_true rfl)) dX7_found_1 ⟨Nat.le_of_ble_eq_true rfl, Nat.le_of_ble_eq_true rfl⟩) hS (fun q _ h => h.elim) (fun q h => h.elim) (fun r1 u2 t H locs ht hvm hp3 hB hz1 hk1 hS => ?_)
  have hP := fr_keep hP hk1 fr_nA
  have hR := fr_rd hR0 hS hnr
  subst hp3
  refine lv_if_eq (tgt := 25) hx hb dX7_found_4 (by decide) (fun c4 => ?_) (fun c4 => ?_)
  · have c4 := bI_e.mp c4
    refine lv_ldc2 hx hb hown (hts (.constantLong RX7 110 (-2)) (by decide +kernel)) dX7_found_25 ?_
    exact W.lret (v := (-2)) hx hb hr (fun t ht hW => ⟨⟨(-2), ([.ref nu, .double p0, .double p1, .double p2, .double p3, .double p4, .double p5, .double p6, .double p7, .double p8, .double p9, .int ct, .int cp, .int cr, .int ctr, .int cfs, .int (nI k), .ref sh, .int (nI k2), .ref ra, .ref rr, .double po], N), rfl, ⟨by simp [c4], ⟨_, _, _, _, _, _, _, _, _, _, _, rfl⟩, rfl⟩, at_heap ht (hP 0 _ rfl), at_heap ht (hP 1 _ rfl)⟩, hS.F ht⟩) hS.2.2 dX7_found_28
  · have c4 := bI_n.mp c4
    refine lv_iload_n hx hb dX7_found_7 rfl (lv_at hl 2 rfl) ?_
    refine lv_iconst (v := 0) hx hb dX7_found_8 (by decide) ?_
    refine lv_iconst (v := 3) hx hb dX7_found_9 (by decide) ?_
    refine va_calli (va_runS (As := [.int r0, .int 0, .int 3]) (rest := []) ⟨hx, hb, hml, hown, hts⟩ (mX7_in l r0 0 3) (va_cwS 3 hts gX7_found_X7_in rfl rfl rfl (by decide +kernel) ⟨Nat.le_of_ble_eq_true rfl, Nat.le_of_ble_eq_true rfl⟩) ⟨tB_blind, tB_go⟩ rfl rfl hl.1 rfl (lv_room (Nat.le_of_ble_eq_true rfl)) dX7_found_10 ⟨Nat.le_of_ble_eq_true rfl, Nat.le_of_ble_eq_true rfl⟩) hS (fun q _ h => h.elim) (fun q h => h.elim) (fun r5 u6 t H locs ht hvm hp7 hB hz1 hk1 hS => ?_)
    have hP := fr_keep hP hk1 fr_nA
    have hR := fr_rd hR0 hS hnr
    subst hp7
    refine lv_if_eq (tgt := 25) hx hb dX7_found_13 (by decide) (fun c8 => ?_) (fun c8 => ?_)
    · have c8 := bI_e.mp c8
      refine lv_ldc2 hx hb hown (hts (.constantLong RX7 110 (-2)) (by decide +kernel)) dX7_found_25 ?_
      exact W.lret (v := (-2)) hx hb hr (fun t ht hW => ⟨⟨(-2), ([.ref nu, .double p0, .double p1, .double p2, .double p3, .double p4, .double p5, .double p6, .double p7, .double p8, .double p9, .int ct, .int cp, .int cr, .int ctr, .int cfs, .int (nI k), .ref sh, .int (nI k2), .ref ra, .ref rr, .double po], N), rfl, ⟨by simp [c4, c8], ⟨_, _, _, _, _, _, _, _, _, _, _, rfl⟩, rfl⟩, at_heap ht (hP 0 _ rfl), at_heap ht (hP 1 _ rfl)⟩, hS.F ht⟩) hS.2.2 dX7_found_28
    · have c8 := bI_n.mp c8
      refine lv_iload_n hx hb dX7_found_16 rfl (lv_at hl 3 rfl) ?_
      refine lv_iconst (v := 0) hx hb dX7_found_17 (by decide) ?_
      refine lv_iconst (v := 2) hx hb dX7_found_18 (by decide) ?_
      refine va_calli (va_runS (As := [.int wt, .int 0, .int 2]) (rest := []) ⟨hx, hb, hml, hown, hts⟩ (mX7_in l wt 0 2) (va_cwS 3 hts gX7_found_X7_in rfl rfl rfl (by decide +kernel) ⟨Nat.le_of_ble_eq_true rfl, Nat.le_of_ble_eq_true rfl⟩) ⟨tB_blind, tB_go⟩ rfl rfl hl.1 rfl (lv_room (Nat.le_of_ble_eq_true rfl)) dX7_found_19 ⟨Nat.le_of_ble_eq_true rfl, Nat.le_of_ble_eq_true rfl⟩) hS (fun q _ h => h.elim) (fun q h => h.elim) (fun r9 u10 t H locs ht hvm hp11 hB hz1 hk1 hS => ?_)
      have hP := fr_keep hP hk1 fr_nA
      have hR := fr_rd hR0 hS hnr
      subst hp11
      refine lv_if_ne (tgt := 29) hx hb dX7_found_22 (by decide) (fun c12 => ?_) (fun c12 => ?_)
      · have c12 := bI_n.mp c12
        have HOKH := c4
        have hh9 : h = nI q := hq9 HOKH
        rw [hh9] at hl
        refine lv_aload_n hx hb dX7_found_29 rfl (lv_at hl 0 rfl) ?_
        refine va_get (D := D) (ci := 6) (v := .ref nu) (C := RX7) (T := TX7) (N := 22) hx hb hts hinX7 hown hw.1 hP 0 rfl rfl 0 (by decide) (hts (.fieldLink RX7 19 "WheelSwingModel" "number" "[I") (by decide +kernel)) (fun _ h9 => h9) rfl dX7_found_30 ?_
        refine lv_bipush (v := 13) hx hb dX7_found_33 (by decide) ?_
        refine lv_iload_n hx hb dX7_found_35 rfl (lv_at hl 1 rfl) ?_
        refine lv_imul hx hb dX7_found_36 ?_
        rw [nI_m13]
        refine va_iald hx hb hw.1 hP 1 0 rfl rfl (vp_in_nI (by omega) (by omega)) dX7_found_37 ?_
        rw [nI_clamp (n := 13 * q) (by omega), hN0]
        refine lv_istore (lv' := [(4, .int U), (0, .ref mo), (1, .int (nI q)), (2, .int r0), (3, .int wt)]) hx hb dX7_found_38 hl (by decide) rfl (fun ls hl => ?_)
        refine lv_aload_n hx hb dX7_found_40 rfl (lv_at hl 1 rfl) ?_
        refine va_get (D := D) (ci := 6) (v := .ref nu) (C := RX7) (T := TX7) (N := 22) hx hb hts hinX7 hown hw.1 hP 0 rfl rfl 0 (by decide) (hts (.fieldLink RX7 19 "WheelSwingModel" "number" "[I") (by decide +kernel)) (fun _ h9 => h9) rfl dX7_found_41 ?_
        refine lv_bipush (v := 13) hx hb dX7_found_44 (by decide) ?_
        refine lv_iload_n hx hb dX7_found_46 rfl (lv_at hl 2 rfl) ?_
        refine lv_imul hx hb dX7_found_47 ?_
        rw [nI_m13]
        refine lv_iconst (v := 1) hx hb dX7_found_48 (by decide) ?_
        refine lv_iadd hx hb dX7_found_49 ?_
        rw [nI_ad1]
        refine va_iald hx hb hw.1 hP 1 0 rfl rfl (vp_in_nI (by omega) (by omega)) dX7_found_50 ?_
        rw [nI_clamp (n := 13 * q + 1) (by omega), hN1]
        refine lv_istore (lv' := [(5, .int V), (4, .int U), (0, .ref mo), (1, .int (nI q)), (2, .int r0), (3, .int wt)]) hx hb dX7_found_51 hl (by decide) rfl (fun ls hl => ?_)
        refine lv_iconst (v := 0) hx hb dX7_found_53 (by decide) ?_
        refine lv_istore (lv' := [(6, .int 0), (5, .int V), (4, .int U), (0, .ref mo), (1, .int (nI q)), (2, .int r0), (3, .int wt)]) hx hb dX7_found_54 hl (by decide) rfl (fun ls hl => ?_)
        refine lv_dconst0 hx hb dX7_found_56 ?_
        refine lv_dstore (lv' := [(7, .double FP.dconst0), (6, .int 0), (5, .int V), (4, .int U), (0, .ref mo), (1, .int (nI q)), (2, .int r0), (3, .int wt)]) hx hb dX7_found_57 hl (by decide) rfl (fun ls hl => ?_)
        refine lv_iconst (v := 0) hx hb dX7_found_59 (by decide) ?_
        refine lv_istore (lv' := [(9, .int 0), (7, .double FP.dconst0), (6, .int 0), (5, .int V), (4, .int U), (0, .ref mo), (1, .int (nI q)), (2, .int r0), (3, .int wt)]) hx hb dX7_found_60 hl (by decide) rfl (fun ls hl => ?_)
        refine lv_iconst (v := 0) hx hb dX7_found_62 (by decide) ?_
        refine lv_istore (lv' := [(10, .int 0), (9, .int 0), (7, .double FP.dconst0), (6, .int 0), (5, .int V), (4, .int U), (0, .ref mo), (1, .int (nI q)), (2, .int r0), (3, .int wt)]) hx hb dX7_found_63 hl (by decide) rfl (fun ls hl => ?_)
        refine lv_iload_n hx hb dX7_found_65 rfl (lv_at hl 8 rfl) ?_
        refine lv_ineg hx hb dX7_found_66 ?_
        refine lv_istore (lv' := [(11, .int (-r0)), (10, .int 0), (9, .int 0), (7, .double FP.dconst0), (6, .int 0), (5, .int V), (4, .int U), (0, .ref mo), (1, .int (nI q)), (2, .int r0), (3, .int wt)]) hx hb dX7_found_67 hl (by decide) rfl (fun ls hl => ?_)
        have HOKW := c12
        have hr0 : 0 ≤ r0.toInt ∧ r0.toInt ≤ 3 := isW_i c8
        have hneg : (-r0).toInt = -r0.toInt := by rw [Int32.toInt_neg]; exact Int.bmod_eq_of_le (by omega) (by omega)
        have hok9 : (okH h && (isW r0 0 3 && isW wt 0 2)) = true := by simp [c4, c8, c12]
        have h44 : lv_has ls 13 [(11, .int (-r0)), (10, .int 0), (9, .int 0), (7, .double FP.dconst0), (6, .int 0), (5, .int V), (4, .int U), (3, .int wt), (2, .int r0), (1, .int (nI q)), (0, .ref mo)] := (lv_sub hl [0, 1, 2, 3, 4, 5, 6, 10, 9, 8, 7] rfl)
        refine lpX7_fout D cI cH (wt := wt) (S1 := fOut (fun x y => sOff (U + x) (V + y) lx ly a b c sd f1 f2 k2) r0 (2 * r0.toInt + 1).toNat (-r0) none) hx hb hml hown hts hw hqq hne hN hgb hra hrr hkk hrd hrn hrm hr0 hR0 (fun H locs ls M has least ma mb p0 p1 p2 p3 p4 p5 p6 p7 p8 p9 po hS hP hM hrep hl => ?_) (2 * r0.toInt + 1).toNat (-r0) none _ _ ls N 0 FP.dconst0 0 0 p0 p1 p2 p3 p4 p5 p6 p7 p8 p9 po hS hP (fun _ _ _ => rfl) ⟨by omega, by omega⟩ rfl ⟨rfl, rfl, rfl, rfl⟩ h44
        have hD : va_D (aE2 mo nu) [(mo, .inr (6, [.ref nu, .double p0, .double p1, .double p2, .double p3, .double p4, .double p5, .double p6, .double p7, .double p8, .double p9, .int ct, .int cp, .int cr, .int ctr, .int cfs, .int (nI k), .ref sh, .int (nI k2), .ref ra, .ref rr, .double po])), (nu, .inl (cI, 52, .inl M))] := D_cons (Or.inl rfl) (D_1 (Or.inr rfl)) (nn_1 hne nn_0)
        have hR := fr_rd hR0 hS hnr
        rcases hS1 : fOut (fun x y => sOff (U + x) (V + y) lx ly a b c sd f1 f2 k2) r0 (2 * r0.toInt + 1).toNat (-r0) none with _ | ⟨l9, a9, b9⟩
        · rw [hS1] at hrep
          obtain ⟨rfl, rfl, rfl, rfl⟩ := hrep
          refine lv_aload_n hx hb dX7_found_189 rfl (lv_at hl 9 rfl) ?_
          refine va_get (D := D) (ci := 6) (v := .ref nu) (C := RX7) (T := TX7) (N := 22) hx hb hts hinX7 hown hw.1 hP 0 rfl rfl 0 (by decide) (hts (.fieldLink RX7 19 "WheelSwingModel" "number" "[I") (by decide +kernel)) (fun _ h9 => h9) rfl dX7_found_190 ?_
          refine lv_bipush (v := 13) hx hb dX7_found_193 (by decide) ?_
          refine lv_iload_n hx hb dX7_found_195 rfl (lv_at hl 8 rfl) ?_
          refine lv_imul hx hb dX7_found_196 ?_
          rw [nI_m13]
          refine lv_iload hx hb dX7_found_197 (lv_at hl 5 rfl) ?_
          refine va_iast hx hb hw.1 hP hD hS 1 0 rfl rfl (vp_in_nI (by omega) (by omega)) dX7_found_199 (fun H locs hP hD hS => ?_)
          rw [nI_clamp (n := 13 * q) (by omega)] at hP hD
          have hP : va_P D vwCl [(mo, .inr (6, [.ref nu, .double p0, .double p1, .double p2, .double p3, .double p4, .double p5, .double p6, .double p7, .double p8, .double p9, .int ct, .int cp, .int cr, .int ctr, .int cfs, .int (nI k), .ref sh, .int (nI k2), .ref ra, .ref rr, .double po])), (nu, .inl (cI, 52, .inl (upd M (13 * q) U)))] H := hP
          have hD : va_D (aE2 mo nu) [(mo, .inr (6, [.ref nu, .double p0, .double p1, .double p2, .double p3, .double p4, .double p5, .double p6, .double p7, .double p8, .double p9, .int ct, .int cp, .int cr, .int ctr, .int cfs, .int (nI k), .ref sh, .int (nI k2), .ref ra, .ref rr, .double po])), (nu, .inl (cI, 52, .inl (upd M (13 * q) U)))] := hD
          have hR := fr_rd hR0 hS hnr
          refine lv_aload_n hx hb dX7_found_200 rfl (lv_at hl 9 rfl) ?_
          refine va_get (D := D) (ci := 6) (v := .ref nu) (C := RX7) (T := TX7) (N := 22) hx hb hts hinX7 hown hw.1 hP 0 rfl rfl 0 (by decide) (hts (.fieldLink RX7 19 "WheelSwingModel" "number" "[I") (by decide +kernel)) (fun _ h9 => h9) rfl dX7_found_201 ?_
          refine lv_bipush (v := 13) hx hb dX7_found_204 (by decide) ?_
          refine lv_iload_n hx hb dX7_found_206 rfl (lv_at hl 8 rfl) ?_
          refine lv_imul hx hb dX7_found_207 ?_
          rw [nI_m13]
          refine lv_iconst (v := 1) hx hb dX7_found_208 (by decide) ?_
          refine lv_iadd hx hb dX7_found_209 ?_
          rw [nI_ad1]
          refine lv_iload hx hb dX7_found_210 (lv_at hl 4 rfl) ?_
          refine va_iast hx hb hw.1 hP hD hS 1 0 rfl rfl (vp_in_nI (by omega) (by omega)) dX7_found_212 (fun H locs hP hD hS => ?_)
          rw [nI_clamp (n := 13 * q + 1) (by omega)] at hP hD
          have hP : va_P D vwCl [(mo, .inr (6, [.ref nu, .double p0, .double p1, .double p2, .double p3, .double p4, .double p5, .double p6, .double p7, .double p8, .double p9, .int ct, .int cp, .int cr, .int ctr, .int cfs, .int (nI k), .ref sh, .int (nI k2), .ref ra, .ref rr, .double po])), (nu, .inl (cI, 52, .inl (upd (upd M (13 * q) U) (13 * q + 1) V)))] H := hP
          have hD : va_D (aE2 mo nu) [(mo, .inr (6, [.ref nu, .double p0, .double p1, .double p2, .double p3, .double p4, .double p5, .double p6, .double p7, .double p8, .double p9, .int ct, .int cp, .int cr, .int ctr, .int cfs, .int (nI k), .ref sh, .int (nI k2), .ref ra, .ref rr, .double po])), (nu, .inl (cI, 52, .inl (upd (upd M (13 * q) U) (13 * q + 1) V)))] := hD
          have hR := fr_rd hR0 hS hnr
          rw [upd_back hM hN0 hN1] at hP
          have hP : va_P D vwCl [(mo, .inr (6, [.ref nu, .double p0, .double p1, .double p2, .double p3, .double p4, .double p5, .double p6, .double p7, .double p8, .double p9, .int ct, .int cp, .int cr, .int ctr, .int cfs, .int (nI k), .ref sh, .int (nI k2), .ref ra, .ref rr, .double po])), (nu, .inl (cI, 52, .inl N))] H := hP
          refine lv_iload hx hb dX7_found_213 (lv_at hl 3 rfl) ?_
          refine lv_if_ne (tgt := 224) hx hb dX7_found_215 (by decide) (fun c14 => absurd c14 (by decide)) (fun _ => ?_)
          refine lv_ldc2 hx hb hown (hts (.constantLong RX7 93 (-1)) (by decide +kernel)) dX7_found_218 ?_
          refine lv_goto (tgt := 256) hx hb dX7_found_221 (by decide) ?_
          exact W.lret (v := (-1)) hx hb hr (fun t ht hW => ⟨⟨(-1), ([.ref nu, .double p0, .double p1, .double p2, .double p3, .double p4, .double p5, .double p6, .double p7, .double p8, .double p9, .int ct, .int cp, .int cr, .int ctr, .int cfs, .int (nI k), .ref sh, .int (nI k2), .ref ra, .ref rr, .double po], N), rfl, ⟨by rw [hok9, if_pos rfl]; unfold sFound; rw [hS1]; exact rfl, ⟨_, _, _, _, _, _, _, _, _, _, _, rfl⟩, rfl⟩, at_heap ht (hP 0 _ rfl), at_heap ht (hP 1 _ rfl)⟩, hS.F ht⟩) hS.2.2 dX7_found_256
        · rw [hS1] at hrep
          obtain ⟨rfl, h91, h92, h93, hg8, hg7⟩ := hrep
          obtain rfl : l9 = least := h91.symm
          obtain rfl : a9 = ma := h92.symm
          obtain rfl : b9 = mb := h93.symm
          refine lv_aload_n hx hb dX7_found_189 rfl (lv_at hl 9 rfl) ?_
          refine va_get (D := D) (ci := 6) (v := .ref nu) (C := RX7) (T := TX7) (N := 22) hx hb hts hinX7 hown hw.1 hP 0 rfl rfl 0 (by decide) (hts (.fieldLink RX7 19 "WheelSwingModel" "number" "[I") (by decide +kernel)) (fun _ h9 => h9) rfl dX7_found_190 ?_
          refine lv_bipush (v := 13) hx hb dX7_found_193 (by decide) ?_
          refine lv_iload_n hx hb dX7_found_195 rfl (lv_at hl 8 rfl) ?_
          refine lv_imul hx hb dX7_found_196 ?_
          rw [nI_m13]
          refine lv_iload hx hb dX7_found_197 (lv_at hl 5 rfl) ?_
          refine va_iast hx hb hw.1 hP hD hS 1 0 rfl rfl (vp_in_nI (by omega) (by omega)) dX7_found_199 (fun H locs hP hD hS => ?_)
          rw [nI_clamp (n := 13 * q) (by omega)] at hP hD
          have hP : va_P D vwCl [(mo, .inr (6, [.ref nu, .double p0, .double p1, .double p2, .double p3, .double p4, .double p5, .double p6, .double p7, .double p8, .double p9, .int ct, .int cp, .int cr, .int ctr, .int cfs, .int (nI k), .ref sh, .int (nI k2), .ref ra, .ref rr, .double po])), (nu, .inl (cI, 52, .inl (upd M (13 * q) U)))] H := hP
          have hD : va_D (aE2 mo nu) [(mo, .inr (6, [.ref nu, .double p0, .double p1, .double p2, .double p3, .double p4, .double p5, .double p6, .double p7, .double p8, .double p9, .int ct, .int cp, .int cr, .int ctr, .int cfs, .int (nI k), .ref sh, .int (nI k2), .ref ra, .ref rr, .double po])), (nu, .inl (cI, 52, .inl (upd M (13 * q) U)))] := hD
          have hR := fr_rd hR0 hS hnr
          refine lv_aload_n hx hb dX7_found_200 rfl (lv_at hl 9 rfl) ?_
          refine va_get (D := D) (ci := 6) (v := .ref nu) (C := RX7) (T := TX7) (N := 22) hx hb hts hinX7 hown hw.1 hP 0 rfl rfl 0 (by decide) (hts (.fieldLink RX7 19 "WheelSwingModel" "number" "[I") (by decide +kernel)) (fun _ h9 => h9) rfl dX7_found_201 ?_
          refine lv_bipush (v := 13) hx hb dX7_found_204 (by decide) ?_
          refine lv_iload_n hx hb dX7_found_206 rfl (lv_at hl 8 rfl) ?_
          refine lv_imul hx hb dX7_found_207 ?_
          rw [nI_m13]
          refine lv_iconst (v := 1) hx hb dX7_found_208 (by decide) ?_
          refine lv_iadd hx hb dX7_found_209 ?_
          rw [nI_ad1]
          refine lv_iload hx hb dX7_found_210 (lv_at hl 4 rfl) ?_
          refine va_iast hx hb hw.1 hP hD hS 1 0 rfl rfl (vp_in_nI (by omega) (by omega)) dX7_found_212 (fun H locs hP hD hS => ?_)
          rw [nI_clamp (n := 13 * q + 1) (by omega)] at hP hD
          have hP : va_P D vwCl [(mo, .inr (6, [.ref nu, .double p0, .double p1, .double p2, .double p3, .double p4, .double p5, .double p6, .double p7, .double p8, .double p9, .int ct, .int cp, .int cr, .int ctr, .int cfs, .int (nI k), .ref sh, .int (nI k2), .ref ra, .ref rr, .double po])), (nu, .inl (cI, 52, .inl (upd (upd M (13 * q) U) (13 * q + 1) V)))] H := hP
          have hD : va_D (aE2 mo nu) [(mo, .inr (6, [.ref nu, .double p0, .double p1, .double p2, .double p3, .double p4, .double p5, .double p6, .double p7, .double p8, .double p9, .int ct, .int cp, .int cr, .int ctr, .int cfs, .int (nI k), .ref sh, .int (nI k2), .ref ra, .ref rr, .double po])), (nu, .inl (cI, 52, .inl (upd (upd M (13 * q) U) (13 * q + 1) V)))] := hD
          have hR := fr_rd hR0 hS hnr
          rw [upd_back hM hN0 hN1] at hP
          have hP : va_P D vwCl [(mo, .inr (6, [.ref nu, .double p0, .double p1, .double p2, .double p3, .double p4, .double p5, .double p6, .double p7, .double p8, .double p9, .int ct, .int cp, .int cr, .int ctr, .int cfs, .int (nI k), .ref sh, .int (nI k2), .ref ra, .ref rr, .double po])), (nu, .inl (cI, 52, .inl N))] H := hP
          refine lv_iload hx hb dX7_found_213 (lv_at hl 3 rfl) ?_
          refine lv_if_ne (tgt := 224) hx hb dX7_found_215 (by decide) (fun _ => ?_) (fun c16 => absurd c16 (by decide))
          refine lv_iload_n hx hb dX7_found_224 rfl (lv_at hl 6 rfl) ?_
          refine lv_if_ne (tgt := 237) hx hb dX7_found_225 (by decide) (fun c17 => ?_) (fun c17 => ?_)
          · refine lv_iload_n hx hb dX7_found_237 rfl (lv_at hl 6 rfl) ?_
            refine lv_iconst (v := 1) hx hb dX7_found_238 (by decide) ?_
            refine lv_icmp_ne (tgt := 251) hx hb dX7_found_239 (by decide) (fun c18 => ?_) (fun c18 => ?_)
            · refine lv_dload hx hb dX7_found_251 (lv_at hl 2 rfl) ?_
              refine va_calll (va_runS (As := [.double l9]) (rest := []) ⟨hx, hb, hml, hown, hts⟩ (mX7_bitsOf l l9 (bOk_gr hg8 (Nat.le_of_ble_eq_true rfl) (Nat.le_of_ble_eq_true rfl))) (va_cwS 1 hts gX7_found_X7_bitsOf rfl rfl rfl (by decide +kernel) ⟨Nat.le_of_ble_eq_true rfl, Nat.le_of_ble_eq_true rfl⟩) ⟨tB_blind, tB_go⟩ rfl rfl hl.1 rfl (lv_room (Nat.le_of_ble_eq_true rfl)) dX7_found_253 ⟨Nat.le_of_ble_eq_true rfl, Nat.le_of_ble_eq_true rfl⟩) hS (fun q _ h => h.elim) (fun q h => h.elim) (fun r19 u20 t H locs ht hvm hp21 hB hz1 hk1 hS => ?_)
              have hP := fr_keep hP hk1 fr_nA
              have hR := fr_rd hR0 hS hnr
              subst hp21
              exact W.lret (v := UInt64.toInt64 l9) hx hb hr (fun t ht hW => ⟨⟨UInt64.toInt64 l9, ([.ref nu, .double p0, .double p1, .double p2, .double p3, .double p4, .double p5, .double p6, .double p7, .double p8, .double p9, .int ct, .int cp, .int cr, .int ctr, .int cfs, .int (nI k), .ref sh, .int (nI k2), .ref ra, .ref rr, .double po], N), rfl, ⟨by rw [hok9, if_pos rfl]; unfold sFound; rw [hS1]; exact (w2_2 (q := (l9, a9, b9)) HOKW c17 c18).symm, ⟨_, _, _, _, _, _, _, _, _, _, _, rfl⟩, rfl⟩, at_heap ht (hP 0 _ rfl), at_heap ht (hP 1 _ rfl)⟩, hS.F ht⟩) hS.2.2 dX7_found_256
            · refine lv_iload hx hb dX7_found_242 (lv_at hl 0 rfl) ?_
              refine lv_bipush (v := 10) hx hb dX7_found_244 (by decide) ?_
              refine lv_iadd hx hb dX7_found_246 ?_
              refine lv_i2l (v := Int32.toInt64 (b9 + 10)) hx hb dX7_found_247 rfl ?_
              refine lv_goto (tgt := 256) hx hb dX7_found_248 (by decide) ?_
              exact W.lret (v := Int32.toInt64 (b9 + 10)) hx hb hr (fun t ht hW => ⟨⟨Int32.toInt64 (b9 + 10), ([.ref nu, .double p0, .double p1, .double p2, .double p3, .double p4, .double p5, .double p6, .double p7, .double p8, .double p9, .int ct, .int cp, .int cr, .int ctr, .int cfs, .int (nI k), .ref sh, .int (nI k2), .ref ra, .ref rr, .double po], N), rfl, ⟨by rw [hok9, if_pos rfl]; unfold sFound; rw [hS1]; exact (w2_1 (q := (l9, a9, b9)) (by first | exact c18 | exact Decidable.not_not.mp c18)).symm, ⟨_, _, _, _, _, _, _, _, _, _, _, rfl⟩, rfl⟩, at_heap ht (hP 0 _ rfl), at_heap ht (hP 1 _ rfl)⟩, hS.F ht⟩) hS.2.2 dX7_found_256
          · refine lv_iload hx hb dX7_found_228 (lv_at hl 1 rfl) ?_
            refine lv_bipush (v := 10) hx hb dX7_found_230 (by decide) ?_
            refine lv_iadd hx hb dX7_found_232 ?_
            refine lv_i2l (v := Int32.toInt64 (a9 + 10)) hx hb dX7_found_233 rfl ?_
            refine lv_goto (tgt := 256) hx hb dX7_found_234 (by decide) ?_
            exact W.lret (v := Int32.toInt64 (a9 + 10)) hx hb hr (fun t ht hW => ⟨⟨Int32.toInt64 (a9 + 10), ([.ref nu, .double p0, .double p1, .double p2, .double p3, .double p4, .double p5, .double p6, .double p7, .double p8, .double p9, .int ct, .int cp, .int cr, .int ctr, .int cfs, .int (nI k), .ref sh, .int (nI k2), .ref ra, .ref rr, .double po], N), rfl, ⟨by rw [hok9, if_pos rfl]; unfold sFound; rw [hS1]; exact (w2_0 (q := (l9, a9, b9)) (by first | exact c17 | exact Decidable.not_not.mp c17)).symm, ⟨_, _, _, _, _, _, _, _, _, _, _, rfl⟩, rfl⟩, at_heap ht (hP 0 _ rfl), at_heap ht (hP 1 _ rfl)⟩, hS.F ht⟩) hS.2.2 dX7_found_256
      · have c12 := bI_e.mp c12
        refine lv_ldc2 hx hb hown (hts (.constantLong RX7 110 (-2)) (by decide +kernel)) dX7_found_25 ?_
        exact W.lret (v := (-2)) hx hb hr (fun t ht hW => ⟨⟨(-2), ([.ref nu, .double p0, .double p1, .double p2, .double p3, .double p4, .double p5, .double p6, .double p7, .double p8, .double p9, .int ct, .int cp, .int cr, .int ctr, .int cfs, .int (nI k), .ref sh, .int (nI k2), .ref ra, .ref rr, .double po], N), rfl, ⟨by simp [c4, c8, c12], ⟨_, _, _, _, _, _, _, _, _, _, _, rfl⟩, rfl⟩, at_heap ht (hP 0 _ rfl), at_heap ht (hP 1 _ rfl)⟩, hS.F ht⟩) hS.2.2 dX7_found_28
