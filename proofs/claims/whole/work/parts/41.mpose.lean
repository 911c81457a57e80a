/-! THE MODEL (X7): pose, lock, isClear -/
theorem w_010 {v : Int32} (h : isW v 0 11 = true) (h11 : ¬ v = 11) : v = 0 ∨ v = 1 ∨ v = 2 ∨ v = 3 ∨ v = 4 ∨ v = 5 ∨ v = 6 ∨ v = 7 ∨ v = 8 ∨ v = 9 ∨ v = 10 := by
  by_cases h7 : 7 ≤ v
  · rcases w_hi h h7 h11 with h | h | h | h <;> simp [h]
  · rcases w_lo h h7 with h | h | h | h | h | h | h <;> simp [h]
theorem okS_m {y0 y1 : Int32} : okS y0 y1 = (okC y0 && isW y1 y0 1000) := by
  unfold okS okC isW
  by_cases h1 : (-1000 : Int32) ≤ y0
  · by_cases h2 : y0 ≤ y1
    · have h3 : (-1000 : Int32) ≤ y1 := Int32.le_trans h1 h2
      rw [decide_eq_true h1, decide_eq_true h2, decide_eq_true h3]
      cases decide (y0 ≤ 1000) <;> cases decide (y1 ≤ 1000) <;> rfl
    · rw [decide_eq_false h2]
      cases decide (y0 ≤ 1000) <;> cases decide (y1 ≤ 1000) <;> cases decide ((-1000 : Int32) ≤ y0) <;> cases decide ((-1000 : Int32) ≤ y1) <;> rfl
  · rw [decide_eq_false h1]
    rfl
set_option maxHeartbeats 4000000 in
set_option maxRecDepth 100000 in
theorem mX7_told (l : Launch) (D : va_G) (cI cH : ClassId) (mo nu sh ra rr k k2 q : Nat) (N : Nat → Int32) (ct cp cr ctr cfs : Int32) (p0 p1 p2 p3 p4 p5 p6 p7 p8 p9 po : UInt64) (U V lx ly a b c sd g d sx sy f : Int32) (wt : Int32)  (hqq : q < 4) (hne : nu ≠ mo) (hN : hasN N q U V lx ly a b c sd g d sx sy f) (kU : cB U) (kV : cB V) (klx : cB lx) (kly : cB ly) (kg : cB g) (kd : cB d) (ksx : cB sx) (ksy : cB sy) (kf : zB f) (g0 : fGr 1021 1086 p0) (g1 : fGr 1074 1084 p1) (g2 : fGr 888 1153 p2) (g3 : fGr 934 1152 p3) (g4 : fGr 826 1154 p4) (g5 : fGr 872 1153 p5) (hwt : wt = 0 ∨ wt = 1 ∨ wt = 2 ∨ wt = 3 ∨ wt = 4 ∨ wt = 5 ∨ wt = 6 ∨ wt = 7 ∨ wt = 8 ∨ wt = 9 ∨ wt = 10) : Met l yX7_told wsX7_told ({ frames := 2, cells := 0, slots := 0, locals := 66 }) (va_Pc [.ref mo, .int (nI q), .int wt] (kB D cI cH [(mo, .inr (6, [.ref nu, .double p0, .double p1, .double p2, .double p3, .double p4, .double p5, .double p6, .double p7, .double p8, .double p9, .int ct, .int cp, .int cr, .int ctr, .int cfs, .int (nI k), .ref sh, .int (nI k2), .ref ra, .ref rr, .double po])), (nu, .inl (cI, 52, .inl N))])) (va_Ql (fun (r : Int64) (u : List Value) => r = sTel2 U V lx ly g d sx sy f p0 p1 p2 p3 p4 p5 wt ∧ isM nu sh ra rr k k2 ct cp cr ctr cfs u) (fun u t => va_at D vwCl (mo, .inr (6, u)) t.heap) (aE mo)) 0 0 (aE mo) := by
  refine Met.ofW (cc := cX7_told) (maxL := 3) (ret := (some .long)) (by decide) rfl ?_
  intro p e s m args below meth co s₁ B hml hv
  obtain ⟨rfl, hP0, hw⟩ := hv
  have hx := B.exec
  have hb := B.bytes
  have hr := B.returns
  have hts := atoms_spec (ws := wsX7_told) B.pre
  have hown : s.vm.findClass RX7 = some m.cls := findClass_of_methodNamed B.named
  have hlocks := B.notSynchronized
  have hinX7 : ∀ w ∈ wsX70, w ∈ wsX7_told := by decide +kernel
  have hS : va_S (aE mo) s.heap s.heap [] := va_S.rf
  have hP : va_P D vwCl [(mo, .inr (6, [.ref nu, .double p0, .double p1, .double p2, .double p3, .double p4, .double p5, .double p6, .double p7, .double p8, .double p9, .int ct, .int cp, .int cr, .int ctr, .int cfs, .int (nI k), .ref sh, .int (nI k2), .ref ra, .ref rr, .double po]))] s.heap := hP0.sub [0] rfl
  have hD : va_D (aE mo) [(mo, .inr (6, [.ref nu, .double p0, .double p1, .double p2, .double p3, .double p4, .double p5, .double p6, .double p7, .double p8, .double p9, .int ct, .int cp, .int cr, .int ctr, .int cfs, .int (nI k), .ref sh, .int (nI k2), .ref ra, .ref rr, .double po]))] := D_1 rfl
  have hR0 : va_P D vwCl [(nu, .inl (cI, 52, .inl N))] s.heap := hP0.sub [1] rfl
  have hR := hR0
  have hnr : ∀ (k9 : Nat) (q : Nat × va_E), ([(nu, .inl (cI, 52, .inl N))] : va_W)[k9]? = some q → ¬ (aE mo) q.1 := nn_1 hne nn_0
  obtain ⟨hN0, hN1, hN2, hN3, hN4, hN5, hN6, hN7, hN8, hN9, hN10, hN11, hN12⟩ := id hN
  have hl := lv_entry ([.ref mo, .int (nI q), .int wt]) (n := 3) (Nat.le_of_ble_eq_true rfl)
  rw [lg_entry_eq]
  generalize (lg_sl ([.ref mo, .int (nI q), .int wt]) ++ List.replicate (3 - (lg_sl ([.ref mo, .int (nI q), .int wt])).length) Slot.unset).toArray = ls at hl ⊢
  have hl : lv_has ls 3 [(0, .ref mo), (1, .int (nI q)), (2, .int wt)] := hl
  skip
  rcases hwt with hwt | hwt | hwt | hwt | hwt | hwt | hwt | hwt | hwt | hwt | hwt
  · subst hwt
    refine lv_aload_n hx hb dX7_told_0 rfl (lv_at hl 0 rfl) ?_
    refine lv_iload_n hx hb dX7_told_1 rfl (lv_at hl 1 rfl) ?_
    have hq1 : va_P D vwCl [(mo, .inr (6, [.ref nu, .double p0, .double p1, .double p2, .double p3, .double p4, .double p5, .double p6, .double p7, .double p8, .double p9, .int ct, .int cp, .int cr, .int ctr, .int cfs, .int (nI k), .ref sh, .int (nI k2), .ref ra, .ref rr, .double po])), (nu, .inl (cI, 52, .inl N))] s.heap := fr_cons (hP 0 _ rfl) (fr_cons (hR 0 _ rfl) (fr_nil))
    refine va_callv (va_runV (As := [.int (nI q)]) (rest := []) ⟨hx, hb, hml, hown, hts⟩ (mX7_road l D cI cH mo nu sh ra rr k k2 q N ct cp cr ctr cfs p0 p1 p2 p3 p4 p5 p6 p7 p8 p9 po U V lx ly a b c sd g d sx sy f hqq hne hN kg kd g0 g1 g2 g3 g4 g5) (cwV 1 hts gX7_told_X7_road rfl rfl rfl (by decide +kernel) ⟨Nat.le_of_ble_eq_true rfl, Nat.le_of_ble_eq_true rfl⟩) ⟨kB_blind, va_recv hw.1 hq1 (ci := 6) (q0 := 0) rfl rfl, kB_go hq1 hw⟩ rfl rfl hl.1 rfl (lv_room (Nat.le_of_ble_eq_true rfl)) dX7_told_2 ⟨Nat.le_of_ble_eq_true rfl, Nat.le_of_ble_eq_true rfl⟩) hS (fun q _ h => h) (fun q h => h) (fun u3 t H locs ht hvm hp4 hB hz1 hk1 hS => ?_)
    have hB : va_at D vwCl (mo, .inr (6, u3)) t.heap := hB
    rw [ht] at hB
    have hP := fr_one hB
    have hR := fr_rd hR0 hS hnr
    subst hp4
    have hP : va_P D vwCl [(mo, .inr (6, [.ref nu, .double p0, .double p1, .double p2, .double p3, .double p4, .double p5, .double (tRx g d p0 p4 p5), .double (tRy g d p1 p4 p5), .double p8, .double p9, .int ct, .int cp, .int cr, .int ctr, .int cfs, .int (nI k), .ref sh, .int (nI k2), .ref ra, .ref rr, .double po]))] H := hP
    have hD : va_D (aE mo) [(mo, .inr (6, [.ref nu, .double p0, .double p1, .double p2, .double p3, .double p4, .double p5, .double (tRx g d p0 p4 p5), .double (tRy g d p1 p4 p5), .double p8, .double p9, .int ct, .int cp, .int cr, .int ctr, .int cfs, .int (nI k), .ref sh, .int (nI k2), .ref ra, .ref rr, .double po]))] := D_1 rfl
    refine lv_iload_n hx hb dX7_told_5 rfl (lv_at hl 2 rfl) ?_
    refine lv_tableIn (off := 58) (tgt := 64) hx hb dX7_told_6 (by decide) (by decide) (by decide) (by decide) ?_
    refine lv_aload_n hx hb dX7_told_64 rfl (lv_at hl 0 rfl) ?_
    refine va_get (D := D) (ci := 6) (v := .double p0) (C := RX7) (T := TX7) (N := 22) hx hb hts hinX7 hown hw.1 hP 0 rfl rfl 1 (by decide) (hts (.fieldLink RX7 56 "WheelSwingModel" "px" "D") (by decide +kernel)) (fun _ h9 => h9) rfl dX7_told_65 ?_
    refine va_calll (va_runS (As := [.double p0]) (rest := []) ⟨hx, hb, hml, hown, hts⟩ (mX7_bitsOf l p0 (bOk_gr g0 (Nat.le_of_ble_eq_true rfl) (Nat.le_of_ble_eq_true rfl))) (va_cwS 1 hts gX7_told_X7_bitsOf rfl rfl rfl (by decide +kernel) ⟨Nat.le_of_ble_eq_true rfl, Nat.le_of_ble_eq_true rfl⟩) ⟨tB_blind, tB_go⟩ rfl rfl hl.1 rfl (lv_room (Nat.le_of_ble_eq_true rfl)) dX7_told_68 ⟨Nat.le_of_ble_eq_true rfl, Nat.le_of_ble_eq_true rfl⟩) hS (fun q _ h => h.elim) (fun q h => h.elim) (fun r5 u6 t H locs ht hvm hp7 hB hz1 hk1 hS => ?_)
    have hP := fr_keep hP hk1 fr_nA
    have hR := fr_rd hR0 hS hnr
    subst hp7
    exact W.lret (v := UInt64.toInt64 p0) hx hb hr (fun t ht hW => ⟨⟨UInt64.toInt64 p0, [.ref nu, .double p0, .double p1, .double p2, .double p3, .double p4, .double p5, .double (tRx g d p0 p4 p5), .double (tRy g d p1 p4 p5), .double p8, .double p9, .int ct, .int cp, .int cr, .int ctr, .int cfs, .int (nI k), .ref sh, .int (nI k2), .ref ra, .ref rr, .double po], rfl, ⟨rfl, ⟨_, _, _, _, _, _, _, _, _, _, _, rfl⟩⟩, at_heap ht (hP 0 _ rfl)⟩, hS.F ht⟩) hS.2.2 dX7_told_71
  · subst hwt
    refine lv_aload_n hx hb dX7_told_0 rfl (lv_at hl 0 rfl) ?_
    refine lv_iload_n hx hb dX7_told_1 rfl (lv_at hl 1 rfl) ?_
    have hq1 : va_P D vwCl [(mo, .inr (6, [.ref nu, .double p0, .double p1, .double p2, .double p3, .double p4, .double p5, .double p6, .double p7, .double p8, .double p9, .int ct, .int cp, .int cr, .int ctr, .int cfs, .int (nI k), .ref sh, .int (nI k2), .ref ra, .ref rr, .double po])), (nu, .inl (cI, 52, .inl N))] s.heap := fr_cons (hP 0 _ rfl) (fr_cons (hR 0 _ rfl) (fr_nil))
    refine va_callv (va_runV (As := [.int (nI q)]) (rest := []) ⟨hx, hb, hml, hown, hts⟩ (mX7_road l D cI cH mo nu sh ra rr k k2 q N ct cp cr ctr cfs p0 p1 p2 p3 p4 p5 p6 p7 p8 p9 po U V lx ly a b c sd g d sx sy f hqq hne hN kg kd g0 g1 g2 g3 g4 g5) (cwV 1 hts gX7_told_X7_road rfl rfl rfl (by decide +kernel) ⟨Nat.le_of_ble_eq_true rfl, Nat.le_of_ble_eq_true rfl⟩) ⟨kB_blind, va_recv hw.1 hq1 (ci := 6) (q0 := 0) rfl rfl, kB_go hq1 hw⟩ rfl rfl hl.1 rfl (lv_room (Nat.le_of_ble_eq_true rfl)) dX7_told_2 ⟨Nat.le_of_ble_eq_true rfl, Nat.le_of_ble_eq_true rfl⟩) hS (fun q _ h => h) (fun q h => h) (fun u3 t H locs ht hvm hp4 hB hz1 hk1 hS => ?_)
    have hB : va_at D vwCl (mo, .inr (6, u3)) t.heap := hB
    rw [ht] at hB
    have hP := fr_one hB
    have hR := fr_rd hR0 hS hnr
    subst hp4
    have hP : va_P D vwCl [(mo, .inr (6, [.ref nu, .double p0, .double p1, .double p2, .double p3, .double p4, .double p5, .double (tRx g d p0 p4 p5), .double (tRy g d p1 p4 p5), .double p8, .double p9, .int ct, .int cp, .int cr, .int ctr, .int cfs, .int (nI k), .ref sh, .int (nI k2), .ref ra, .ref rr, .double po]))] H := hP
    have hD : va_D (aE mo) [(mo, .inr (6, [.ref nu, .double p0, .double p1, .double p2, .double p3, .double p4, .double p5, .double (tRx g d p0 p4 p5), .double (tRy g d p1 p4 p5), .double p8, .double p9, .int ct, .int cp, .int cr, .int ctr, .int cfs, .int (nI k), .ref sh, .int (nI k2), .ref ra, .ref rr, .double po]))] := D_1 rfl
    refine lv_iload_n hx hb dX7_told_5 rfl (lv_at hl 2 rfl) ?_
    refine lv_tableIn (off := 66) (tgt := 72) hx hb dX7_told_6 (by decide) (by decide) (by decide) (by decide) ?_
    refine lv_aload_n hx hb dX7_told_72 rfl (lv_at hl 0 rfl) ?_
    refine va_get (D := D) (ci := 6) (v := .double p1) (C := RX7) (T := TX7) (N := 22) hx hb hts hinX7 hown hw.1 hP 0 rfl rfl 2 (by decide) (hts (.fieldLink RX7 60 "WheelSwingModel" "py" "D") (by decide +kernel)) (fun _ h9 => h9) rfl dX7_told_73 ?_
    refine va_calll (va_runS (As := [.double p1]) (rest := []) ⟨hx, hb, hml, hown, hts⟩ (mX7_bitsOf l p1 (bOk_gr g1 (Nat.le_of_ble_eq_true rfl) (Nat.le_of_ble_eq_true rfl))) (va_cwS 1 hts gX7_told_X7_bitsOf rfl rfl rfl (by decide +kernel) ⟨Nat.le_of_ble_eq_true rfl, Nat.le_of_ble_eq_true rfl⟩) ⟨tB_blind, tB_go⟩ rfl rfl hl.1 rfl (lv_room (Nat.le_of_ble_eq_true rfl)) dX7_told_76 ⟨Nat.le_of_ble_eq_true rfl, Nat.le_of_ble_eq_true rfl⟩) hS (fun q _ h => h.elim) (fun q h => h.elim) (fun r5 u6 t H locs ht hvm hp7 hB hz1 hk1 hS => ?_)
    have hP := fr_keep hP hk1 fr_nA
    have hR := fr_rd hR0 hS hnr
    subst hp7
    exact W.lret (v := UInt64.toInt64 p1) hx hb hr (fun t ht hW => ⟨⟨UInt64.toInt64 p1, [.ref nu, .double p0, .double p1, .double p2, .double p3, .double p4, .double p5, .double (tRx g d p0 p4 p5), .double (tRy g d p1 p4 p5), .double p8, .double p9, .int ct, .int cp, .int cr, .int ctr, .int cfs, .int (nI k), .ref sh, .int (nI k2), .ref ra, .ref rr, .double po], rfl, ⟨rfl, ⟨_, _, _, _, _, _, _, _, _, _, _, rfl⟩⟩, at_heap ht (hP 0 _ rfl)⟩, hS.F ht⟩) hS.2.2 dX7_told_79
  · subst hwt
    refine lv_aload_n hx hb dX7_told_0 rfl (lv_at hl 0 rfl) ?_
    refine lv_iload_n hx hb dX7_told_1 rfl (lv_at hl 1 rfl) ?_
    have hq1 : va_P D vwCl [(mo, .inr (6, [.ref nu, .double p0, .double p1, .double p2, .double p3, .double p4, .double p5, .double p6, .double p7, .double p8, .double p9, .int ct, .int cp, .int cr, .int ctr, .int cfs, .int (nI k), .ref sh, .int (nI k2), .ref ra, .ref rr, .double po])), (nu, .inl (cI, 52, .inl N))] s.heap := fr_cons (hP 0 _ rfl) (fr_cons (hR 0 _ rfl) (fr_nil))
    refine va_callv (va_runV (As := [.int (nI q)]) (rest := []) ⟨hx, hb, hml, hown, hts⟩ (mX7_road l D cI cH mo nu sh ra rr k k2 q N ct cp cr ctr cfs p0 p1 p2 p3 p4 p5 p6 p7 p8 p9 po U V lx ly a b c sd g d sx sy f hqq hne hN kg kd g0 g1 g2 g3 g4 g5) (cwV 1 hts gX7_told_X7_road rfl rfl rfl (by decide +kernel) ⟨Nat.le_of_ble_eq_true rfl, Nat.le_of_ble_eq_true rfl⟩) ⟨kB_blind, va_recv hw.1 hq1 (ci := 6) (q0 := 0) rfl rfl, kB_go hq1 hw⟩ rfl rfl hl.1 rfl (lv_room (Nat.le_of_ble_eq_true rfl)) dX7_told_2 ⟨Nat.le_of_ble_eq_true rfl, Nat.le_of_ble_eq_true rfl⟩) hS (fun q _ h => h) (fun q h => h) (fun u3 t H locs ht hvm hp4 hB hz1 hk1 hS => ?_)
    have hB : va_at D vwCl (mo, .inr (6, u3)) t.heap := hB
    rw [ht] at hB
    have hP := fr_one hB
    have hR := fr_rd hR0 hS hnr
    subst hp4
    have hP : va_P D vwCl [(mo, .inr (6, [.ref nu, .double p0, .double p1, .double p2, .double p3, .double p4, .double p5, .double (tRx g d p0 p4 p5), .double (tRy g d p1 p4 p5), .double p8, .double p9, .int ct, .int cp, .int cr, .int ctr, .int cfs, .int (nI k), .ref sh, .int (nI k2), .ref ra, .ref rr, .double po]))] H := hP
    have hD : va_D (aE mo) [(mo, .inr (6, [.ref nu, .double p0, .double p1, .double p2, .double p3, .double p4, .double p5, .double (tRx g d p0 p4 p5), .double (tRy g d p1 p4 p5), .double p8, .double p9, .int ct, .int cp, .int cr, .int ctr, .int cfs, .int (nI k), .ref sh, .int (nI k2), .ref ra, .ref rr, .double po]))] := D_1 rfl
    refine lv_iload_n hx hb dX7_told_5 rfl (lv_at hl 2 rfl) ?_
    refine lv_tableIn (off := 74) (tgt := 80) hx hb dX7_told_6 (by decide) (by decide) (by decide) (by decide) ?_
    refine lv_aload_n hx hb dX7_told_80 rfl (lv_at hl 0 rfl) ?_
    refine va_get (D := D) (ci := 6) (v := .double p2) (C := RX7) (T := TX7) (N := 22) hx hb hts hinX7 hown hw.1 hP 0 rfl rfl 3 (by decide) (hts (.fieldLink RX7 63 "WheelSwingModel" "qx" "D") (by decide +kernel)) (fun _ h9 => h9) rfl dX7_told_81 ?_
    refine va_calll (va_runS (As := [.double p2]) (rest := []) ⟨hx, hb, hml, hown, hts⟩ (mX7_bitsOf l p2 (bOk_gr g2 (Nat.le_of_ble_eq_true rfl) (Nat.le_of_ble_eq_true rfl))) (va_cwS 1 hts gX7_told_X7_bitsOf rfl rfl rfl (by decide +kernel) ⟨Nat.le_of_ble_eq_true rfl, Nat.le_of_ble_eq_true rfl⟩) ⟨tB_blind, tB_go⟩ rfl rfl hl.1 rfl (lv_room (Nat.le_of_ble_eq_true rfl)) dX7_told_84 ⟨Nat.le_of_ble_eq_true rfl, Nat.le_of_ble_eq_true rfl⟩) hS (fun q _ h => h.elim) (fun q h => h.elim) (fun r5 u6 t H locs ht hvm hp7 hB hz1 hk1 hS => ?_)
    have hP := fr_keep hP hk1 fr_nA
    have hR := fr_rd hR0 hS hnr
    subst hp7
    exact W.lret (v := UInt64.toInt64 p2) hx hb hr (fun t ht hW => ⟨⟨UInt64.toInt64 p2, [.ref nu, .double p0, .double p1, .double p2, .double p3, .double p4, .double p5, .double (tRx g d p0 p4 p5), .double (tRy g d p1 p4 p5), .double p8, .double p9, .int ct, .int cp, .int cr, .int ctr, .int cfs, .int (nI k), .ref sh, .int (nI k2), .ref ra, .ref rr, .double po], rfl, ⟨rfl, ⟨_, _, _, _, _, _, _, _, _, _, _, rfl⟩⟩, at_heap ht (hP 0 _ rfl)⟩, hS.F ht⟩) hS.2.2 dX7_told_87
  · subst hwt
    refine lv_aload_n hx hb dX7_told_0 rfl (lv_at hl 0 rfl) ?_
    refine lv_iload_n hx hb dX7_told_1 rfl (lv_at hl 1 rfl) ?_
    have hq1 : va_P D vwCl [(mo, .inr (6, [.ref nu, .double p0, .double p1, .double p2, .double p3, .double p4, .double p5, .double p6, .double p7, .double p8, .double p9, .int ct, .int cp, .int cr, .int ctr, .int cfs, .int (nI k), .ref sh, .int (nI k2), .ref ra, .ref rr, .double po])), (nu, .inl (cI, 52, .inl N))] s.heap := fr_cons (hP 0 _ rfl) (fr_cons (hR 0 _ rfl) (fr_nil))
    refine va_callv (va_runV (As := [.int (nI q)]) (rest := []) ⟨hx, hb, hml, hown, hts⟩ (mX7_road l D cI cH mo nu sh ra rr k k2 q N ct cp cr ctr cfs p0 p1 p2 p3 p4 p5 p6 p7 p8 p9 po U V lx ly a b c sd g d sx sy f hqq hne hN kg kd g0 g1 g2 g3 g4 g5) (cwV 1 hts gX7_told_X7_road rfl rfl rfl (by decide +kernel) ⟨Nat.le_of_ble_eq_true rfl, Nat.le_of_ble_eq_true rfl⟩) ⟨kB_blind, va_recv hw.1 hq1 (ci := 6) (q0 := 0) rfl rfl, kB_go hq1 hw⟩ rfl rfl hl.1 rfl (lv_room (Nat.le_of_ble_eq_true rfl)) dX7_told_2 ⟨Nat.le_of_ble_eq_true rfl, Nat.le_of_ble_eq_true rfl⟩) hS (fun q _ h => h) (fun q h => h) (fun u3 t H locs ht hvm hp4 hB hz1 hk1 hS => ?_)
    have hB : va_at D vwCl (mo, .inr (6, u3)) t.heap := hB
    rw [ht] at hB
    have hP := fr_one hB
    have hR := fr_rd hR0 hS hnr
    subst hp4
    have hP : va_P D vwCl [(mo, .inr (6, [.ref nu, .double p0, .double p1, .double p2, .double p3, .double p4, .double p5, .double (tRx g d p0 p4 p5), .double (tRy g d p1 p4 p5), .double p8, .double p9, .int ct, .int cp, .int cr, .int ctr, .int cfs, .int (nI k), .ref sh, .int (nI k2), .ref ra, .ref rr, .double po]))] H := hP
    have hD : va_D (aE mo) [(mo, .inr (6, [.ref nu, .double p0, .double p1, .double p2, .double p3, .double p4, .double p5, .double (tRx g d p0 p4 p5), .double (tRy g d p1 p4 p5), .double p8, .double p9, .int ct, .int cp, .int cr, .int ctr, .int cfs, .int (nI k), .ref sh, .int (nI k2), .ref ra, .ref rr, .double po]))] := D_1 rfl
    refine lv_iload_n hx hb dX7_told_5 rfl (lv_at hl 2 rfl) ?_
    refine lv_tableIn (off := 82) (tgt := 88) hx hb dX7_told_6 (by decide) (by decide) (by decide) (by decide) ?_
    refine lv_aload_n hx hb dX7_told_88 rfl (lv_at hl 0 rfl) ?_
    refine va_get (D := D) (ci := 6) (v := .double p3) (C := RX7) (T := TX7) (N := 22) hx hb hts hinX7 hown hw.1 hP 0 rfl rfl 4 (by decide) (hts (.fieldLink RX7 66 "WheelSwingModel" "qy" "D") (by decide +kernel)) (fun _ h9 => h9) rfl dX7_told_89 ?_
    refine va_calll (va_runS (As := [.double p3]) (rest := []) ⟨hx, hb, hml, hown, hts⟩ (mX7_bitsOf l p3 (bOk_gr g3 (Nat.le_of_ble_eq_true rfl) (Nat.le_of_ble_eq_true rfl))) (va_cwS 1 hts gX7_told_X7_bitsOf rfl rfl rfl (by decide +kernel) ⟨Nat.le_of_ble_eq_true rfl, Nat.le_of_ble_eq_true rfl⟩) ⟨tB_blind, tB_go⟩ rfl rfl hl.1 rfl (lv_room (Nat.le_of_ble_eq_true rfl)) dX7_told_92 ⟨Nat.le_of_ble_eq_true rfl, Nat.le_of_ble_eq_true rfl⟩) hS (fun q _ h => h.elim) (fun q h => h.elim) (fun r5 u6 t H locs ht hvm hp7 hB hz1 hk1 hS => ?_)
    have hP := fr_keep hP hk1 fr_nA
    have hR := fr_rd hR0 hS hnr
    subst hp7
    exact W.lret (v := UInt64.toInt64 p3) hx hb hr (fun t ht hW => ⟨⟨UInt64.toInt64 p3, [.ref nu, .double p0, .double p1, .double p2, .double p3, .double p4, .double p5, .double (tRx g d p0 p4 p5), .double (tRy g d p1 p4 p5), .double p8, .double p9, .int ct, .int cp, .int cr, .int ctr, .int cfs, .int (nI k), .ref sh, .int (nI k2), .ref ra, .ref rr, .double po], rfl, ⟨rfl, ⟨_, _, _, _, _, _, _, _, _, _, _, rfl⟩⟩, at_heap ht (hP 0 _ rfl)⟩, hS.F ht⟩) hS.2.2 dX7_told_95
  · subst hwt
    refine lv_aload_n hx hb dX7_told_0 rfl (lv_at hl 0 rfl) ?_
    refine lv_iload_n hx hb dX7_told_1 rfl (lv_at hl 1 rfl) ?_
    have hq1 : va_P D vwCl [(mo, .inr (6, [.ref nu, .double p0, .double p1, .double p2, .double p3, .double p4, .double p5, .double p6, .double p7, .double p8, .double p9, .int ct, .int cp, .int cr, .int ctr, .int cfs, .int (nI k), .ref sh, .int (nI k2), .ref ra, .ref rr, .double po])), (nu, .inl (cI, 52, .inl N))] s.heap := fr_cons (hP 0 _ rfl) (fr_cons (hR 0 _ rfl) (fr_nil))
    refine va_callv (va_runV (As := [.int (nI q)]) (rest := []) ⟨hx, hb, hml, hown, hts⟩ (mX7_road l D cI cH mo nu sh ra rr k k2 q N ct cp cr ctr cfs p0 p1 p2 p3 p4 p5 p6 p7 p8 p9 po U V lx ly a b c sd g d sx sy f hqq hne hN kg kd g0 g1 g2 g3 g4 g5) (cwV 1 hts gX7_told_X7_road rfl rfl rfl (by decide +kernel) ⟨Nat.le_of_ble_eq_true rfl, Nat.le_of_ble_eq_true rfl⟩) ⟨kB_blind, va_recv hw.1 hq1 (ci := 6) (q0 := 0) rfl rfl, kB_go hq1 hw⟩ rfl rfl hl.1 rfl (lv_room (Nat.le_of_ble_eq_true rfl)) dX7_told_2 ⟨Nat.le_of_ble_eq_true rfl, Nat.le_of_ble_eq_true rfl⟩) hS (fun q _ h => h) (fun q h => h) (fun u3 t H locs ht hvm hp4 hB hz1 hk1 hS => ?_)
    have hB : va_at D vwCl (mo, .inr (6, u3)) t.heap := hB
    rw [ht] at hB
    have hP := fr_one hB
    have hR := fr_rd hR0 hS hnr
    subst hp4
    have hP : va_P D vwCl [(mo, .inr (6, [.ref nu, .double p0, .double p1, .double p2, .double p3, .double p4, .double p5, .double (tRx g d p0 p4 p5), .double (tRy g d p1 p4 p5), .double p8, .double p9, .int ct, .int cp, .int cr, .int ctr, .int cfs, .int (nI k), .ref sh, .int (nI k2), .ref ra, .ref rr, .double po]))] H := hP
    have hD : va_D (aE mo) [(mo, .inr (6, [.ref nu, .double p0, .double p1, .double p2, .double p3, .double p4, .double p5, .double (tRx g d p0 p4 p5), .double (tRy g d p1 p4 p5), .double p8, .double p9, .int ct, .int cp, .int cr, .int ctr, .int cfs, .int (nI k), .ref sh, .int (nI k2), .ref ra, .ref rr, .double po]))] := D_1 rfl
    refine lv_iload_n hx hb dX7_told_5 rfl (lv_at hl 2 rfl) ?_
    refine lv_tableIn (off := 90) (tgt := 96) hx hb dX7_told_6 (by decide) (by decide) (by decide) (by decide) ?_
    refine lv_aload_n hx hb dX7_told_96 rfl (lv_at hl 0 rfl) ?_
    refine va_get (D := D) (ci := 6) (v := .double p5) (C := RX7) (T := TX7) (N := 22) hx hb hts hinX7 hown hw.1 hP 0 rfl rfl 6 (by decide) (hts (.fieldLink RX7 72 "WheelSwingModel" "vy" "D") (by decide +kernel)) (fun _ h9 => h9) rfl dX7_told_97 ?_
    refine lv_dconst0 hx hb dX7_told_100 ?_
    refine lv_dcmp hx hb dX7_told_101 ?_
    rw [fp_cv g5.1 gf_c0.1]
    refine lv_if_ne (tgt := 111) hx hb dX7_told_102 (by decide) (fun c5 => ?_) (fun c5 => ?_)
    · rw [fcv_eq] at c5
      have hvy : fv p5 ≠ 0 := by have hq := c5; rw [fv_c0] at hq; exact hq
      refine lv_aload_n hx hb dX7_told_111 rfl (lv_at hl 0 rfl) ?_
      refine va_get (D := D) (ci := 6) (v := .double p4) (C := RX7) (T := TX7) (N := 22) hx hb hts hinX7 hown hw.1 hP 0 rfl rfl 5 (by decide) (hts (.fieldLink RX7 69 "WheelSwingModel" "vx" "D") (by decide +kernel)) (fun _ h9 => h9) rfl dX7_told_112 ?_
      refine lv_aload_n hx hb dX7_told_115 rfl (lv_at hl 0 rfl) ?_
      refine va_get (D := D) (ci := 6) (v := .double p5) (C := RX7) (T := TX7) (N := 22) hx hb hts hinX7 hown hw.1 hP 0 rfl rfl 6 (by decide) (hts (.fieldLink RX7 72 "WheelSwingModel" "vy" "D") (by decide +kernel)) (fun _ h9 => h9) rfl dX7_told_116 ?_
      have gw6 := gf_div 695 1356 g4 g5 hvy (Nat.le_of_ble_eq_true rfl) (Nat.le_of_ble_eq_true rfl) (Nat.le_of_ble_eq_true rfl)
      refine lv_ddiv hx hb dX7_told_119 (gf_n64 gw6) ?_
      refine lv_topd (fun v7 ev7 => ?_)
      rw [← ev7] at gw6
      have fv7 : v7 = FP.ddiv p4 p5 := by rw [ev7]; try rfl
      clear ev7 gw6
      subst fv7
      refine va_calll (va_runS (As := [.double (FP.ddiv p4 p5)]) (rest := []) ⟨hx, hb, hml, hown, hts⟩ (mX7_bitsOf l (FP.ddiv p4 p5) (bOk_gr (gf_div 695 1356 g4 g5 hvy (Nat.le_of_ble_eq_true rfl) (Nat.le_of_ble_eq_true rfl) (Nat.le_of_ble_eq_true rfl)) (Nat.le_of_ble_eq_true rfl) (Nat.le_of_ble_eq_true rfl))) (va_cwS 1 hts gX7_told_X7_bitsOf rfl rfl rfl (by decide +kernel) ⟨Nat.le_of_ble_eq_true rfl, Nat.le_of_ble_eq_true rfl⟩) ⟨tB_blind, tB_go⟩ rfl rfl hl.1 rfl (lv_room (Nat.le_of_ble_eq_true rfl)) dX7_told_120 ⟨Nat.le_of_ble_eq_true rfl, Nat.le_of_ble_eq_true rfl⟩) hS (fun q _ h => h.elim) (fun q h => h.elim) (fun r8 u9 t H locs ht hvm hp10 hB hz1 hk1 hS => ?_)
      have hP := fr_keep hP hk1 fr_nA
      have hR := fr_rd hR0 hS hnr
      subst hp10
      exact W.lret (v := UInt64.toInt64 (FP.ddiv p4 p5)) hx hb hr (fun t ht hW => ⟨⟨UInt64.toInt64 (FP.ddiv p4 p5), [.ref nu, .double p0, .double p1, .double p2, .double p3, .double p4, .double p5, .double (tRx g d p0 p4 p5), .double (tRy g d p1 p4 p5), .double p8, .double p9, .int ct, .int cp, .int cr, .int ctr, .int cfs, .int (nI k), .ref sh, .int (nI k2), .ref ra, .ref rr, .double po], rfl, ⟨by have hq := c5; rw [fv_c0] at hq; unfold sTel2 sTell; simp [hq], ⟨_, _, _, _, _, _, _, _, _, _, _, rfl⟩⟩, at_heap ht (hP 0 _ rfl)⟩, hS.F ht⟩) hS.2.2 dX7_told_123
    · rw [fcv_eq] at c5
      refine lv_ldc2 hx hb hown (hts (.constantLong RX7 93 (-1)) (by decide +kernel)) dX7_told_105 ?_
      refine lv_goto (tgt := 123) hx hb dX7_told_108 (by decide) ?_
      exact W.lret (v := (-1)) hx hb hr (fun t ht hW => ⟨⟨(-1), [.ref nu, .double p0, .double p1, .double p2, .double p3, .double p4, .double p5, .double (tRx g d p0 p4 p5), .double (tRy g d p1 p4 p5), .double p8, .double p9, .int ct, .int cp, .int cr, .int ctr, .int cfs, .int (nI k), .ref sh, .int (nI k2), .ref ra, .ref rr, .double po], rfl, ⟨by have hq := c5; rw [fv_c0] at hq; unfold sTel2 sTell; simp [hq], ⟨_, _, _, _, _, _, _, _, _, _, _, rfl⟩⟩, at_heap ht (hP 0 _ rfl)⟩, hS.F ht⟩) hS.2.2 dX7_told_123
  · subst hwt
    refine lv_aload_n hx hb dX7_told_0 rfl (lv_at hl 0 rfl) ?_
    refine lv_iload_n hx hb dX7_told_1 rfl (lv_at hl 1 rfl) ?_
    have hq1 : va_P D vwCl [(mo, .inr (6, [.ref nu, .double p0, .double p1, .double p2, .double p3, .double p4, .double p5, .double p6, .double p7, .double p8, .double p9, .int ct, .int cp, .int cr, .int ctr, .int cfs, .int (nI k), .ref sh, .int (nI k2), .ref ra, .ref rr, .double po])), (nu, .inl (cI, 52, .inl N))] s.heap := fr_cons (hP 0 _ rfl) (fr_cons (hR 0 _ rfl) (fr_nil))
    refine va_callv (va_runV (As := [.int (nI q)]) (rest := []) ⟨hx, hb, hml, hown, hts⟩ (mX7_road l D cI cH mo nu sh ra rr k k2 q N ct cp cr ctr cfs p0 p1 p2 p3 p4 p5 p6 p7 p8 p9 po U V lx ly a b c sd g d sx sy f hqq hne hN kg kd g0 g1 g2 g3 g4 g5) (cwV 1 hts gX7_told_X7_road rfl rfl rfl (by decide +kernel) ⟨Nat.le_of_ble_eq_true rfl, Nat.le_of_ble_eq_true rfl⟩) ⟨kB_blind, va_recv hw.1 hq1 (ci := 6) (q0 := 0) rfl rfl, kB_go hq1 hw⟩ rfl rfl hl.1 rfl (lv_room (Nat.le_of_ble_eq_true rfl)) dX7_told_2 ⟨Nat.le_of_ble_eq_true rfl, Nat.le_of_ble_eq_true rfl⟩) hS (fun q _ h => h) (fun q h => h) (fun u3 t H locs ht hvm hp4 hB hz1 hk1 hS => ?_)
    have hB : va_at D vwCl (mo, .inr (6, u3)) t.heap := hB
    rw [ht] at hB
    have hP := fr_one hB
    have hR := fr_rd hR0 hS hnr
    subst hp4
    have hP : va_P D vwCl [(mo, .inr (6, [.ref nu, .double p0, .double p1, .double p2, .double p3, .double p4, .double p5, .double (tRx g d p0 p4 p5), .double (tRy g d p1 p4 p5), .double p8, .double p9, .int ct, .int cp, .int cr, .int ctr, .int cfs, .int (nI k), .ref sh, .int (nI k2), .ref ra, .ref rr, .double po]))] H := hP
    have hD : va_D (aE mo) [(mo, .inr (6, [.ref nu, .double p0, .double p1, .double p2, .double p3, .double p4, .double p5, .double (tRx g d p0 p4 p5), .double (tRy g d p1 p4 p5), .double p8, .double p9, .int ct, .int cp, .int cr, .int ctr, .int cfs, .int (nI k), .ref sh, .int (nI k2), .ref ra, .ref rr, .double po]))] := D_1 rfl
    refine lv_iload_n hx hb dX7_told_5 rfl (lv_at hl 2 rfl) ?_
    refine lv_tableIn (off := 118) (tgt := 124) hx hb dX7_told_6 (by decide) (by decide) (by decide) (by decide) ?_
    refine lv_aload_n hx hb dX7_told_124 rfl (lv_at hl 0 rfl) ?_
    refine va_get (D := D) (ci := 6) (v := .double (tRx g d p0 p4 p5)) (C := RX7) (T := TX7) (N := 22) hx hb hts hinX7 hown hw.1 hP 0 rfl rfl 7 (by decide) (hts (.fieldLink RX7 75 "WheelSwingModel" "rx" "D") (by decide +kernel)) (fun _ h9 => h9) rfl dX7_told_125 ?_
    refine va_calll (va_runS (As := [.double (tRx g d p0 p4 p5)]) (rest := []) ⟨hx, hb, hml, hown, hts⟩ (mX7_bitsOf l (tRx g d p0 p4 p5) (bOk_gr (gz_rx kg kd g0 g4 g5) (Nat.le_of_ble_eq_true rfl) (Nat.le_of_ble_eq_true rfl))) (va_cwS 1 hts gX7_told_X7_bitsOf rfl rfl rfl (by decide +kernel) ⟨Nat.le_of_ble_eq_true rfl, Nat.le_of_ble_eq_true rfl⟩) ⟨tB_blind, tB_go⟩ rfl rfl hl.1 rfl (lv_room (Nat.le_of_ble_eq_true rfl)) dX7_told_128 ⟨Nat.le_of_ble_eq_true rfl, Nat.le_of_ble_eq_true rfl⟩) hS (fun q _ h => h.elim) (fun q h => h.elim) (fun r5 u6 t H locs ht hvm hp7 hB hz1 hk1 hS => ?_)
    have hP := fr_keep hP hk1 fr_nA
    have hR := fr_rd hR0 hS hnr
    subst hp7
    exact W.lret (v := UInt64.toInt64 (tRx g d p0 p4 p5)) hx hb hr (fun t ht hW => ⟨⟨UInt64.toInt64 (tRx g d p0 p4 p5), [.ref nu, .double p0, .double p1, .double p2, .double p3, .double p4, .double p5, .double (tRx g d p0 p4 p5), .double (tRy g d p1 p4 p5), .double p8, .double p9, .int ct, .int cp, .int cr, .int ctr, .int cfs, .int (nI k), .ref sh, .int (nI k2), .ref ra, .ref rr, .double po], rfl, ⟨rfl, ⟨_, _, _, _, _, _, _, _, _, _, _, rfl⟩⟩, at_heap ht (hP 0 _ rfl)⟩, hS.F ht⟩) hS.2.2 dX7_told_131
  · subst hwt
    refine lv_aload_n hx hb dX7_told_0 rfl (lv_at hl 0 rfl) ?_
    refine lv_iload_n hx hb dX7_told_1 rfl (lv_at hl 1 rfl) ?_
    have hq1 : va_P D vwCl [(mo, .inr (6, [.ref nu, .double p0, .double p1, .double p2, .double p3, .double p4, .double p5, .double p6, .double p7, .double p8, .double p9, .int ct, .int cp, .int cr, .int ctr, .int cfs, .int (nI k), .ref sh, .int (nI k2), .ref ra, .ref rr, .double po])), (nu, .inl (cI, 52, .inl N))] s.heap := fr_cons (hP 0 _ rfl) (fr_cons (hR 0 _ rfl) (fr_nil))
    refine va_callv (va_runV (As := [.int (nI q)]) (rest := []) ⟨hx, hb, hml, hown, hts⟩ (mX7_road l D cI cH mo nu sh ra rr k k2 q N ct cp cr ctr cfs p0 p1 p2 p3 p4 p5 p6 p7 p8 p9 po U V lx ly a b c sd g d sx sy f hqq hne hN kg kd g0 g1 g2 g3 g4 g5) (cwV 1 hts gX7_told_X7_road rfl rfl rfl (by decide +kernel) ⟨Nat.le_of_ble_eq_true rfl, Nat.le_of_ble_eq_true rfl⟩) ⟨kB_blind, va_recv hw.1 hq1 (ci := 6) (q0 := 0) rfl rfl, kB_go hq1 hw⟩ rfl rfl hl.1 rfl (lv_room (Nat.le_of_ble_eq_true rfl)) dX7_told_2 ⟨Nat.le_of_ble_eq_true rfl, Nat.le_of_ble_eq_true rfl⟩) hS (fun q _ h => h) (fun q h => h) (fun u3 t H locs ht hvm hp4 hB hz1 hk1 hS => ?_)
    have hB : va_at D vwCl (mo, .inr (6, u3)) t.heap := hB
    rw [ht] at hB
    have hP := fr_one hB
    have hR := fr_rd hR0 hS hnr
    subst hp4
    have hP : va_P D vwCl [(mo, .inr (6, [.ref nu, .double p0, .double p1, .double p2, .double p3, .double p4, .double p5, .double (tRx g d p0 p4 p5), .double (tRy g d p1 p4 p5), .double p8, .double p9, .int ct, .int cp, .int cr, .int ctr, .int cfs, .int (nI k), .ref sh, .int (nI k2), .ref ra, .ref rr, .double po]))] H := hP
    have hD : va_D (aE mo) [(mo, .inr (6, [.ref nu, .double p0, .double p1, .double p2, .double p3, .double p4, .double p5, .double (tRx g d p0 p4 p5), .double (tRy g d p1 p4 p5), .double p8, .double p9, .int ct, .int cp, .int cr, .int ctr, .int cfs, .int (nI k), .ref sh, .int (nI k2), .ref ra, .ref rr, .double po]))] := D_1 rfl
    refine lv_iload_n hx hb dX7_told_5 rfl (lv_at hl 2 rfl) ?_
    refine lv_tableIn (off := 126) (tgt := 132) hx hb dX7_told_6 (by decide) (by decide) (by decide) (by decide) ?_
    refine lv_aload_n hx hb dX7_told_132 rfl (lv_at hl 0 rfl) ?_
    refine va_get (D := D) (ci := 6) (v := .double (tRy g d p1 p4 p5)) (C := RX7) (T := TX7) (N := 22) hx hb hts hinX7 hown hw.1 hP 0 rfl rfl 8 (by decide) (hts (.fieldLink RX7 78 "WheelSwingModel" "ry" "D") (by decide +kernel)) (fun _ h9 => h9) rfl dX7_told_133 ?_
    refine va_calll (va_runS (As := [.double (tRy g d p1 p4 p5)]) (rest := []) ⟨hx, hb, hml, hown, hts⟩ (mX7_bitsOf l (tRy g d p1 p4 p5) (bOk_gr (gz_ry kg kd g1 g4 g5) (Nat.le_of_ble_eq_true rfl) (Nat.le_of_ble_eq_true rfl))) (va_cwS 1 hts gX7_told_X7_bitsOf rfl rfl rfl (by decide +kernel) ⟨Nat.le_of_ble_eq_true rfl, Nat.le_of_ble_eq_true rfl⟩) ⟨tB_blind, tB_go⟩ rfl rfl hl.1 rfl (lv_room (Nat.le_of_ble_eq_true rfl)) dX7_told_136 ⟨Nat.le_of_ble_eq_true rfl, Nat.le_of_ble_eq_true rfl⟩) hS (fun q _ h => h.elim) (fun q h => h.elim) (fun r5 u6 t H locs ht hvm hp7 hB hz1 hk1 hS => ?_)
    have hP := fr_keep hP hk1 fr_nA
    have hR := fr_rd hR0 hS hnr
    subst hp7
    exact W.lret (v := UInt64.toInt64 (tRy g d p1 p4 p5)) hx hb hr (fun t ht hW => ⟨⟨UInt64.toInt64 (tRy g d p1 p4 p5), [.ref nu, .double p0, .double p1, .double p2, .double p3, .double p4, .double p5, .double (tRx g d p0 p4 p5), .double (tRy g d p1 p4 p5), .double p8, .double p9, .int ct, .int cp, .int cr, .int ctr, .int cfs, .int (nI k), .ref sh, .int (nI k2), .ref ra, .ref rr, .double po], rfl, ⟨rfl, ⟨_, _, _, _, _, _, _, _, _, _, _, rfl⟩⟩, at_heap ht (hP 0 _ rfl)⟩, hS.F ht⟩) hS.2.2 dX7_told_139
  · subst hwt
    refine lv_aload_n hx hb dX7_told_0 rfl (lv_at hl 0 rfl) ?_
    refine lv_iload_n hx hb dX7_told_1 rfl (lv_at hl 1 rfl) ?_
    have hq1 : va_P D vwCl [(mo, .inr (6, [.ref nu, .double p0, .double p1, .double p2, .double p3, .double p4, .double p5, .double p6, .double p7, .double p8, .double p9, .int ct, .int cp, .int cr, .int ctr, .int cfs, .int (nI k), .ref sh, .int (nI k2), .ref ra, .ref rr, .double po])), (nu, .inl (cI, 52, .inl N))] s.heap := fr_cons (hP 0 _ rfl) (fr_cons (hR 0 _ rfl) (fr_nil))
    refine va_callv (va_runV (As := [.int (nI q)]) (rest := []) ⟨hx, hb, hml, hown, hts⟩ (mX7_road l D cI cH mo nu sh ra rr k k2 q N ct cp cr ctr cfs p0 p1 p2 p3 p4 p5 p6 p7 p8 p9 po U V lx ly a b c sd g d sx sy f hqq hne hN kg kd g0 g1 g2 g3 g4 g5) (cwV 1 hts gX7_told_X7_road rfl rfl rfl (by decide +kernel) ⟨Nat.le_of_ble_eq_true rfl, Nat.le_of_ble_eq_true rfl⟩) ⟨kB_blind, va_recv hw.1 hq1 (ci := 6) (q0 := 0) rfl rfl, kB_go hq1 hw⟩ rfl rfl hl.1 rfl (lv_room (Nat.le_of_ble_eq_true rfl)) dX7_told_2 ⟨Nat.le_of_ble_eq_true rfl, Nat.le_of_ble_eq_true rfl⟩) hS (fun q _ h => h) (fun q h => h) (fun u3 t H locs ht hvm hp4 hB hz1 hk1 hS => ?_)
    have hB : va_at D vwCl (mo, .inr (6, u3)) t.heap := hB
    rw [ht] at hB
    have hP := fr_one hB
    have hR := fr_rd hR0 hS hnr
    subst hp4
    have hP : va_P D vwCl [(mo, .inr (6, [.ref nu, .double p0, .double p1, .double p2, .double p3, .double p4, .double p5, .double (tRx g d p0 p4 p5), .double (tRy g d p1 p4 p5), .double p8, .double p9, .int ct, .int cp, .int cr, .int ctr, .int cfs, .int (nI k), .ref sh, .int (nI k2), .ref ra, .ref rr, .double po]))] H := hP
    have hD : va_D (aE mo) [(mo, .inr (6, [.ref nu, .double p0, .double p1, .double p2, .double p3, .double p4, .double p5, .double (tRx g d p0 p4 p5), .double (tRy g d p1 p4 p5), .double p8, .double p9, .int ct, .int cp, .int cr, .int ctr, .int cfs, .int (nI k), .ref sh, .int (nI k2), .ref ra, .ref rr, .double po]))] := D_1 rfl
    refine lv_iload_n hx hb dX7_told_5 rfl (lv_at hl 2 rfl) ?_
    refine lv_tableIn (off := 143) (tgt := 149) hx hb dX7_told_6 (by decide) (by decide) (by decide) (by decide) ?_
    refine lv_aload_n hx hb dX7_told_149 rfl (lv_at hl 0 rfl) ?_
    refine lv_iload_n hx hb dX7_told_150 rfl (lv_at hl 1 rfl) ?_
    have hq5 : va_P D vwCl [(mo, .inr (6, [.ref nu, .double p0, .double p1, .double p2, .double p3, .double p4, .double p5, .double (tRx g d p0 p4 p5), .double (tRy g d p1 p4 p5), .double p8, .double p9, .int ct, .int cp, .int cr, .int ctr, .int cfs, .int (nI k), .ref sh, .int (nI k2), .ref ra, .ref rr, .double po])), (nu, .inl (cI, 52, .inl N))] H := fr_cons (hP 0 _ rfl) (fr_cons (hR 0 _ rfl) (fr_nil))
    refine va_calli (va_runV (As := [.int (nI q)]) (rest := []) ⟨hx, hb, hml, hown, hts⟩ (mX7_hasCentre l D cI cH mo nu sh ra rr k k2 q N ct cp cr ctr cfs p0 p1 p2 p3 p4 p5 (tRx g d p0 p4 p5) (tRy g d p1 p4 p5) p8 p9 po U V lx ly a b c sd g d sx sy f hqq hne hN kU kV klx kly g0 g1 g2 g3 g4 g5) (cwV 1 hts gX7_told_X7_hasCentre rfl rfl rfl (by decide +kernel) ⟨Nat.le_of_ble_eq_true rfl, Nat.le_of_ble_eq_true rfl⟩) ⟨kB_blind, va_recv hw.1 hq5 (ci := 6) (q0 := 0) rfl rfl, kB_go hq5 hw⟩ rfl rfl hl.1 rfl (lv_room (Nat.le_of_ble_eq_true rfl)) dX7_told_151 ⟨Nat.le_of_ble_eq_true rfl, Nat.le_of_ble_eq_true rfl⟩) hS (fun q _ h => h) (fun q h => h) (fun r6 u7 t H locs ht hvm hp8 hB hz1 hk1 hS => ?_)
    have hB : va_at D vwCl (mo, .inr (6, u7)) t.heap := hB
    rw [ht] at hB
    have hP := fr_one hB
    have hR := fr_rd hR0 hS hnr
    rcases hp8 with ⟨rfl, hn, rfl⟩ | ⟨rfl, hn, rfl⟩
    · have hP : va_P D vwCl [(mo, .inr (6, [.ref nu, .double p0, .double p1, .double p2, .double p3, .double p4, .double p5, .double (tRx g d p0 p4 p5), .double (tRy g d p1 p4 p5), .double (tIx U V lx ly p0 p1 p2 p3), .double (tIy U V lx ly p0 p1 p2 p3), .int ct, .int cp, .int cr, .int ctr, .int cfs, .int (nI k), .ref sh, .int (nI k2), .ref ra, .ref rr, .double po]))] H := hP
      have hD : va_D (aE mo) [(mo, .inr (6, [.ref nu, .double p0, .double p1, .double p2, .double p3, .double p4, .double p5, .double (tRx g d p0 p4 p5), .double (tRy g d p1 p4 p5), .double (tIx U V lx ly p0 p1 p2 p3), .double (tIy U V lx ly p0 p1 p2 p3), .int ct, .int cp, .int cr, .int ctr, .int cfs, .int (nI k), .ref sh, .int (nI k2), .ref ra, .ref rr, .double po]))] := D_1 rfl
      refine lv_if_ne (tgt := 161) hx hb dX7_told_154 (by decide) (fun _ => ?_) (fun c10 => absurd c10 (by decide))
      refine lv_iload_n hx hb dX7_told_161 rfl (lv_at hl 2 rfl) ?_
      refine lv_bipush (v := 9) hx hb dX7_told_162 (by decide) ?_
      refine lv_icmp_ge (tgt := 188) hx hb dX7_told_164 (by decide) (fun c12 => absurd c12 (by decide)) (fun _ => ?_)
      refine lv_iload_n hx hb dX7_told_167 rfl (lv_at hl 2 rfl) ?_
      refine lv_bipush (v := 7) hx hb dX7_told_168 (by decide) ?_
      refine lv_icmp_ne (tgt := 180) hx hb dX7_told_170 (by decide) (fun c14 => absurd c14 (by decide)) (fun _ => ?_)
      refine lv_aload_n hx hb dX7_told_173 rfl (lv_at hl 0 rfl) ?_
      refine va_get (D := D) (ci := 6) (v := .double (tIx U V lx ly p0 p1 p2 p3)) (C := RX7) (T := TX7) (N := 22) hx hb hts hinX7 hown hw.1 hP 0 rfl rfl 9 (by decide) (hts (.fieldLink RX7 81 "WheelSwingModel" "ix" "D") (by decide +kernel)) (fun _ h9 => h9) rfl dX7_told_174 ?_
      refine lv_goto (tgt := 184) hx hb dX7_told_177 (by decide) ?_
      refine va_calll (va_runS (As := [.double (tIx U V lx ly p0 p1 p2 p3)]) (rest := []) ⟨hx, hb, hml, hown, hts⟩ (mX7_bitsOf l (tIx U V lx ly p0 p1 p2 p3) (bOk_gr (gz_ix kU kV klx kly g0 g1 g2 g3 hn) (Nat.le_of_ble_eq_true rfl) (Nat.le_of_ble_eq_true rfl))) (va_cwS 1 hts gX7_told_X7_bitsOf rfl rfl rfl (by decide +kernel) ⟨Nat.le_of_ble_eq_true rfl, Nat.le_of_ble_eq_true rfl⟩) ⟨tB_blind, tB_go⟩ rfl rfl hl.1 rfl (lv_room (Nat.le_of_ble_eq_true rfl)) dX7_told_184 ⟨Nat.le_of_ble_eq_true rfl, Nat.le_of_ble_eq_true rfl⟩) hS (fun q _ h => h.elim) (fun q h => h.elim) (fun r15 u16 t H locs ht hvm hp17 hB hz1 hk1 hS => ?_)
      have hP := fr_keep hP hk1 fr_nA
      have hR := fr_rd hR0 hS hnr
      subst hp17
      exact W.lret (v := UInt64.toInt64 (tIx U V lx ly p0 p1 p2 p3)) hx hb hr (fun t ht hW => ⟨⟨UInt64.toInt64 (tIx U V lx ly p0 p1 p2 p3), [.ref nu, .double p0, .double p1, .double p2, .double p3, .double p4, .double p5, .double (tRx g d p0 p4 p5), .double (tRy g d p1 p4 p5), .double (tIx U V lx ly p0 p1 p2 p3), .double (tIy U V lx ly p0 p1 p2 p3), .int ct, .int cp, .int cr, .int ctr, .int cfs, .int (nI k), .ref sh, .int (nI k2), .ref ra, .ref rr, .double po], rfl, ⟨by unfold sTel2 sTell; simp [hn], ⟨_, _, _, _, _, _, _, _, _, _, _, rfl⟩⟩, at_heap ht (hP 0 _ rfl)⟩, hS.F ht⟩) hS.2.2 dX7_told_187
    · have hP : va_P D vwCl [(mo, .inr (6, [.ref nu, .double p0, .double p1, .double p2, .double p3, .double p4, .double p5, .double (tRx g d p0 p4 p5), .double (tRy g d p1 p4 p5), .double p8, .double p9, .int ct, .int cp, .int cr, .int ctr, .int cfs, .int (nI k), .ref sh, .int (nI k2), .ref ra, .ref rr, .double po]))] H := hP
      have hD : va_D (aE mo) [(mo, .inr (6, [.ref nu, .double p0, .double p1, .double p2, .double p3, .double p4, .double p5, .double (tRx g d p0 p4 p5), .double (tRy g d p1 p4 p5), .double p8, .double p9, .int ct, .int cp, .int cr, .int ctr, .int cfs, .int (nI k), .ref sh, .int (nI k2), .ref ra, .ref rr, .double po]))] := D_1 rfl
      refine lv_if_ne (tgt := 161) hx hb dX7_told_154 (by decide) (fun c19 => absurd c19 (by decide)) (fun _ => ?_)
      refine lv_ldc2 hx hb hown (hts (.constantLong RX7 93 (-1)) (by decide +kernel)) dX7_told_157 ?_
      exact W.lret (v := (-1)) hx hb hr (fun t ht hW => ⟨⟨(-1), [.ref nu, .double p0, .double p1, .double p2, .double p3, .double p4, .double p5, .double (tRx g d p0 p4 p5), .double (tRy g d p1 p4 p5), .double p8, .double p9, .int ct, .int cp, .int cr, .int ctr, .int cfs, .int (nI k), .ref sh, .int (nI k2), .ref ra, .ref rr, .double po], rfl, ⟨by unfold sTel2 sTell; simp [hn], ⟨_, _, _, _, _, _, _, _, _, _, _, rfl⟩⟩, at_heap ht (hP 0 _ rfl)⟩, hS.F ht⟩) hS.2.2 dX7_told_160
  · subst hwt
    refine lv_aload_n hx hb dX7_told_0 rfl (lv_at hl 0 rfl) ?_
    refine lv_iload_n hx hb dX7_told_1 rfl (lv_at hl 1 rfl) ?_
    have hq1 : va_P D vwCl [(mo, .inr (6, [.ref nu, .double p0, .double p1, .double p2, .double p3, .double p4, .double p5, .double p6, .double p7, .double p8, .double p9, .int ct, .int cp, .int cr, .int ctr, .int cfs, .int (nI k), .ref sh, .int (nI k2), .ref ra, .ref rr, .double po])), (nu, .inl (cI, 52, .inl N))] s.heap := fr_cons (hP 0 _ rfl) (fr_cons (hR 0 _ rfl) (fr_nil))
    refine va_callv (va_runV (As := [.int (nI q)]) (rest := []) ⟨hx, hb, hml, hown, hts⟩ (mX7_road l D cI cH mo nu sh ra rr k k2 q N ct cp cr ctr cfs p0 p1 p2 p3 p4 p5 p6 p7 p8 p9 po U V lx ly a b c sd g d sx sy f hqq hne hN kg kd g0 g1 g2 g3 g4 g5) (cwV 1 hts gX7_told_X7_road rfl rfl rfl (by decide +kernel) ⟨Nat.le_of_ble_eq_true rfl, Nat.le_of_ble_eq_true rfl⟩) ⟨kB_blind, va_recv hw.1 hq1 (ci := 6) (q0 := 0) rfl rfl, kB_go hq1 hw⟩ rfl rfl hl.1 rfl (lv_room (Nat.le_of_ble_eq_true rfl)) dX7_told_2 ⟨Nat.le_of_ble_eq_true rfl, Nat.le_of_ble_eq_true rfl⟩) hS (fun q _ h => h) (fun q h => h) (fun u3 t H locs ht hvm hp4 hB hz1 hk1 hS => ?_)
    have hB : va_at D vwCl (mo, .inr (6, u3)) t.heap := hB
    rw [ht] at hB
    have hP := fr_one hB
    have hR := fr_rd hR0 hS hnr
    subst hp4
    have hP : va_P D vwCl [(mo, .inr (6, [.ref nu, .double p0, .double p1, .double p2, .double p3, .double p4, .double p5, .double (tRx g d p0 p4 p5), .double (tRy g d p1 p4 p5), .double p8, .double p9, .int ct, .int cp, .int cr, .int ctr, .int cfs, .int (nI k), .ref sh, .int (nI k2), .ref ra, .ref rr, .double po]))] H := hP
    have hD : va_D (aE mo) [(mo, .inr (6, [.ref nu, .double p0, .double p1, .double p2, .double p3, .double p4, .double p5, .double (tRx g d p0 p4 p5), .double (tRy g d p1 p4 p5), .double p8, .double p9, .int ct, .int cp, .int cr, .int ctr, .int cfs, .int (nI k), .ref sh, .int (nI k2), .ref ra, .ref rr, .double po]))] := D_1 rfl
    refine lv_iload_n hx hb dX7_told_5 rfl (lv_at hl 2 rfl) ?_
    refine lv_tableIn (off := 143) (tgt := 149) hx hb dX7_told_6 (by decide) (by decide) (by decide) (by decide) ?_
    refine lv_aload_n hx hb dX7_told_149 rfl (lv_at hl 0 rfl) ?_
    refine lv_iload_n hx hb dX7_told_150 rfl (lv_at hl 1 rfl) ?_
    have hq5 : va_P D vwCl [(mo, .inr (6, [.ref nu, .double p0, .double p1, .double p2, .double p3, .double p4, .double p5, .double (tRx g d p0 p4 p5), .double (tRy g d p1 p4 p5), .double p8, .double p9, .int ct, .int cp, .int cr, .int ctr, .int cfs, .int (nI k), .ref sh, .int (nI k2), .ref ra, .ref rr, .double po])), (nu, .inl (cI, 52, .inl N))] H := fr_cons (hP 0 _ rfl) (fr_cons (hR 0 _ rfl) (fr_nil))
    refine va_calli (va_runV (As := [.int (nI q)]) (rest := []) ⟨hx, hb, hml, hown, hts⟩ (mX7_hasCentre l D cI cH mo nu sh ra rr k k2 q N ct cp cr ctr cfs p0 p1 p2 p3 p4 p5 (tRx g d p0 p4 p5) (tRy g d p1 p4 p5) p8 p9 po U V lx ly a b c sd g d sx sy f hqq hne hN kU kV klx kly g0 g1 g2 g3 g4 g5) (cwV 1 hts gX7_told_X7_hasCentre rfl rfl rfl (by decide +kernel) ⟨Nat.le_of_ble_eq_true rfl, Nat.le_of_ble_eq_true rfl⟩) ⟨kB_blind, va_recv hw.1 hq5 (ci := 6) (q0 := 0) rfl rfl, kB_go hq5 hw⟩ rfl rfl hl.1 rfl (lv_room (Nat.le_of_ble_eq_true rfl)) dX7_told_151 ⟨Nat.le_of_ble_eq_true rfl, Nat.le_of_ble_eq_true rfl⟩) hS (fun q _ h => h) (fun q h => h) (fun r6 u7 t H locs ht hvm hp8 hB hz1 hk1 hS => ?_)
    have hB : va_at D vwCl (mo, .inr (6, u7)) t.heap := hB
    rw [ht] at hB
    have hP := fr_one hB
    have hR := fr_rd hR0 hS hnr
    rcases hp8 with ⟨rfl, hn, rfl⟩ | ⟨rfl, hn, rfl⟩
    · have hP : va_P D vwCl [(mo, .inr (6, [.ref nu, .double p0, .double p1, .double p2, .double p3, .double p4, .double p5, .double (tRx g d p0 p4 p5), .double (tRy g d p1 p4 p5), .double (tIx U V lx ly p0 p1 p2 p3), .double (tIy U V lx ly p0 p1 p2 p3), .int ct, .int cp, .int cr, .int ctr, .int cfs, .int (nI k), .ref sh, .int (nI k2), .ref ra, .ref rr, .double po]))] H := hP
      have hD : va_D (aE mo) [(mo, .inr (6, [.ref nu, .double p0, .double p1, .double p2, .double p3, .double p4, .double p5, .double (tRx g d p0 p4 p5), .double (tRy g d p1 p4 p5), .double (tIx U V lx ly p0 p1 p2 p3), .double (tIy U V lx ly p0 p1 p2 p3), .int ct, .int cp, .int cr, .int ctr, .int cfs, .int (nI k), .ref sh, .int (nI k2), .ref ra, .ref rr, .double po]))] := D_1 rfl
      refine lv_if_ne (tgt := 161) hx hb dX7_told_154 (by decide) (fun _ => ?_) (fun c10 => absurd c10 (by decide))
      refine lv_iload_n hx hb dX7_told_161 rfl (lv_at hl 2 rfl) ?_
      refine lv_bipush (v := 9) hx hb dX7_told_162 (by decide) ?_
      refine lv_icmp_ge (tgt := 188) hx hb dX7_told_164 (by decide) (fun c12 => absurd c12 (by decide)) (fun _ => ?_)
      refine lv_iload_n hx hb dX7_told_167 rfl (lv_at hl 2 rfl) ?_
      refine lv_bipush (v := 7) hx hb dX7_told_168 (by decide) ?_
      refine lv_icmp_ne (tgt := 180) hx hb dX7_told_170 (by decide) (fun _ => ?_) (fun c14 => absurd c14 (by decide))
      refine lv_aload_n hx hb dX7_told_180 rfl (lv_at hl 0 rfl) ?_
      refine va_get (D := D) (ci := 6) (v := .double (tIy U V lx ly p0 p1 p2 p3)) (C := RX7) (T := TX7) (N := 22) hx hb hts hinX7 hown hw.1 hP 0 rfl rfl 10 (by decide) (hts (.fieldLink RX7 84 "WheelSwingModel" "iy" "D") (by decide +kernel)) (fun _ h9 => h9) rfl dX7_told_181 ?_
      refine va_calll (va_runS (As := [.double (tIy U V lx ly p0 p1 p2 p3)]) (rest := []) ⟨hx, hb, hml, hown, hts⟩ (mX7_bitsOf l (tIy U V lx ly p0 p1 p2 p3) (bOk_gr (gz_iy kU kV klx kly g0 g1 g2 g3 hn) (Nat.le_of_ble_eq_true rfl) (Nat.le_of_ble_eq_true rfl))) (va_cwS 1 hts gX7_told_X7_bitsOf rfl rfl rfl (by decide +kernel) ⟨Nat.le_of_ble_eq_true rfl, Nat.le_of_ble_eq_true rfl⟩) ⟨tB_blind, tB_go⟩ rfl rfl hl.1 rfl (lv_room (Nat.le_of_ble_eq_true rfl)) dX7_told_184 ⟨Nat.le_of_ble_eq_true rfl, Nat.le_of_ble_eq_true rfl⟩) hS (fun q _ h => h.elim) (fun q h => h.elim) (fun r15 u16 t H locs ht hvm hp17 hB hz1 hk1 hS => ?_)
      have hP := fr_keep hP hk1 fr_nA
      have hR := fr_rd hR0 hS hnr
      subst hp17
      exact W.lret (v := UInt64.toInt64 (tIy U V lx ly p0 p1 p2 p3)) hx hb hr (fun t ht hW => ⟨⟨UInt64.toInt64 (tIy U V lx ly p0 p1 p2 p3), [.ref nu, .double p0, .double p1, .double p2, .double p3, .double p4, .double p5, .double (tRx g d p0 p4 p5), .double (tRy g d p1 p4 p5), .double (tIx U V lx ly p0 p1 p2 p3), .double (tIy U V lx ly p0 p1 p2 p3), .int ct, .int cp, .int cr, .int ctr, .int cfs, .int (nI k), .ref sh, .int (nI k2), .ref ra, .ref rr, .double po], rfl, ⟨by unfold sTel2 sTell; simp [hn], ⟨_, _, _, _, _, _, _, _, _, _, _, rfl⟩⟩, at_heap ht (hP 0 _ rfl)⟩, hS.F ht⟩) hS.2.2 dX7_told_187
    · have hP : va_P D vwCl [(mo, .inr (6, [.ref nu, .double p0, .double p1, .double p2, .double p3, .double p4, .double p5, .double (tRx g d p0 p4 p5), .double (tRy g d p1 p4 p5), .double p8, .double p9, .int ct, .int cp, .int cr, .int ctr, .int cfs, .int (nI k), .ref sh, .int (nI k2), .ref ra, .ref rr, .double po]))] H := hP
      have hD : va_D (aE mo) [(mo, .inr (6, [.ref nu, .double p0, .double p1, .double p2, .double p3, .double p4, .double p5, .double (tRx g d p0 p4 p5), .double (tRy g d p1 p4 p5), .double p8, .double p9, .int ct, .int cp, .int cr, .int ctr, .int cfs, .int (nI k), .ref sh, .int (nI k2), .ref ra, .ref rr, .double po]))] := D_1 rfl
      refine lv_if_ne (tgt := 161) hx hb dX7_told_154 (by decide) (fun c19 => absurd c19 (by decide)) (fun _ => ?_)
      refine lv_ldc2 hx hb hown (hts (.constantLong RX7 93 (-1)) (by decide +kernel)) dX7_told_157 ?_
      exact W.lret (v := (-1)) hx hb hr (fun t ht hW => ⟨⟨(-1), [.ref nu, .double p0, .double p1, .double p2, .double p3, .double p4, .double p5, .double (tRx g d p0 p4 p5), .double (tRy g d p1 p4 p5), .double p8, .double p9, .int ct, .int cp, .int cr, .int ctr, .int cfs, .int (nI k), .ref sh, .int (nI k2), .ref ra, .ref rr, .double po], rfl, ⟨by unfold sTel2 sTell; simp [hn], ⟨_, _, _, _, _, _, _, _, _, _, _, rfl⟩⟩, at_heap ht (hP 0 _ rfl)⟩, hS.F ht⟩) hS.2.2 dX7_told_160
  · subst hwt
    refine lv_aload_n hx hb dX7_told_0 rfl (lv_at hl 0 rfl) ?_
    refine lv_iload_n hx hb dX7_told_1 rfl (lv_at hl 1 rfl) ?_
    have hq1 : va_P D vwCl [(mo, .inr (6, [.ref nu, .double p0, .double p1, .double p2, .double p3, .double p4, .double p5, .double p6, .double p7, .double p8, .double p9, .int ct, .int cp, .int cr, .int ctr, .int cfs, .int (nI k), .ref sh, .int (nI k2), .ref ra, .ref rr, .double po])), (nu, .inl (cI, 52, .inl N))] s.heap := fr_cons (hP 0 _ rfl) (fr_cons (hR 0 _ rfl) (fr_nil))
    refine va_callv (va_runV (As := [.int (nI q)]) (rest := []) ⟨hx, hb, hml, hown, hts⟩ (mX7_road l D cI cH mo nu sh ra rr k k2 q N ct cp cr ctr cfs p0 p1 p2 p3 p4 p5 p6 p7 p8 p9 po U V lx ly a b c sd g d sx sy f hqq hne hN kg kd g0 g1 g2 g3 g4 g5) (cwV 1 hts gX7_told_X7_road rfl rfl rfl (by decide +kernel) ⟨Nat.le_of_ble_eq_true rfl, Nat.le_of_ble_eq_true rfl⟩) ⟨kB_blind, va_recv hw.1 hq1 (ci := 6) (q0 := 0) rfl rfl, kB_go hq1 hw⟩ rfl rfl hl.1 rfl (lv_room (Nat.le_of_ble_eq_true rfl)) dX7_told_2 ⟨Nat.le_of_ble_eq_true rfl, Nat.le_of_ble_eq_true rfl⟩) hS (fun q _ h => h) (fun q h => h) (fun u3 t H locs ht hvm hp4 hB hz1 hk1 hS => ?_)
    have hB : va_at D vwCl (mo, .inr (6, u3)) t.heap := hB
    rw [ht] at hB
    have hP := fr_one hB
    have hR := fr_rd hR0 hS hnr
    subst hp4
    have hP : va_P D vwCl [(mo, .inr (6, [.ref nu, .double p0, .double p1, .double p2, .double p3, .double p4, .double p5, .double (tRx g d p0 p4 p5), .double (tRy g d p1 p4 p5), .double p8, .double p9, .int ct, .int cp, .int cr, .int ctr, .int cfs, .int (nI k), .ref sh, .int (nI k2), .ref ra, .ref rr, .double po]))] H := hP
    have hD : va_D (aE mo) [(mo, .inr (6, [.ref nu, .double p0, .double p1, .double p2, .double p3, .double p4, .double p5, .double (tRx g d p0 p4 p5), .double (tRy g d p1 p4 p5), .double p8, .double p9, .int ct, .int cp, .int cr, .int ctr, .int cfs, .int (nI k), .ref sh, .int (nI k2), .ref ra, .ref rr, .double po]))] := D_1 rfl
    refine lv_iload_n hx hb dX7_told_5 rfl (lv_at hl 2 rfl) ?_
    refine lv_tableIn (off := 143) (tgt := 149) hx hb dX7_told_6 (by decide) (by decide) (by decide) (by decide) ?_
    refine lv_aload_n hx hb dX7_told_149 rfl (lv_at hl 0 rfl) ?_
    refine lv_iload_n hx hb dX7_told_150 rfl (lv_at hl 1 rfl) ?_
    have hq5 : va_P D vwCl [(mo, .inr (6, [.ref nu, .double p0, .double p1, .double p2, .double p3, .double p4, .double p5, .double (tRx g d p0 p4 p5), .double (tRy g d p1 p4 p5), .double p8, .double p9, .int ct, .int cp, .int cr, .int ctr, .int cfs, .int (nI k), .ref sh, .int (nI k2), .ref ra, .ref rr, .double po])), (nu, .inl (cI, 52, .inl N))] H := fr_cons (hP 0 _ rfl) (fr_cons (hR 0 _ rfl) (fr_nil))
    refine va_calli (va_runV (As := [.int (nI q)]) (rest := []) ⟨hx, hb, hml, hown, hts⟩ (mX7_hasCentre l D cI cH mo nu sh ra rr k k2 q N ct cp cr ctr cfs p0 p1 p2 p3 p4 p5 (tRx g d p0 p4 p5) (tRy g d p1 p4 p5) p8 p9 po U V lx ly a b c sd g d sx sy f hqq hne hN kU kV klx kly g0 g1 g2 g3 g4 g5) (cwV 1 hts gX7_told_X7_hasCentre rfl rfl rfl (by decide +kernel) ⟨Nat.le_of_ble_eq_true rfl, Nat.le_of_ble_eq_true rfl⟩) ⟨kB_blind, va_recv hw.1 hq5 (ci := 6) (q0 := 0) rfl rfl, kB_go hq5 hw⟩ rfl rfl hl.1 rfl (lv_room (Nat.le_of_ble_eq_true rfl)) dX7_told_151 ⟨Nat.le_of_ble_eq_true rfl, Nat.le_of_ble_eq_true rfl⟩) hS (fun q _ h => h) (fun q h => h) (fun r6 u7 t H locs ht hvm hp8 hB hz1 hk1 hS => ?_)
    have hB : va_at D vwCl (mo, .inr (6, u7)) t.heap := hB
    rw [ht] at hB
    have hP := fr_one hB
    have hR := fr_rd hR0 hS hnr
    rcases hp8 with ⟨rfl, hn, rfl⟩ | ⟨rfl, hn, rfl⟩
    · have hP : va_P D vwCl [(mo, .inr (6, [.ref nu, .double p0, .double p1, .double p2, .double p3, .double p4, .double p5, .double (tRx g d p0 p4 p5), .double (tRy g d p1 p4 p5), .double (tIx U V lx ly p0 p1 p2 p3), .double (tIy U V lx ly p0 p1 p2 p3), .int ct, .int cp, .int cr, .int ctr, .int cfs, .int (nI k), .ref sh, .int (nI k2), .ref ra, .ref rr, .double po]))] H := hP
      have hD : va_D (aE mo) [(mo, .inr (6, [.ref nu, .double p0, .double p1, .double p2, .double p3, .double p4, .double p5, .double (tRx g d p0 p4 p5), .double (tRy g d p1 p4 p5), .double (tIx U V lx ly p0 p1 p2 p3), .double (tIy U V lx ly p0 p1 p2 p3), .int ct, .int cp, .int cr, .int ctr, .int cfs, .int (nI k), .ref sh, .int (nI k2), .ref ra, .ref rr, .double po]))] := D_1 rfl
      refine lv_if_ne (tgt := 161) hx hb dX7_told_154 (by decide) (fun _ => ?_) (fun c10 => absurd c10 (by decide))
      refine lv_iload_n hx hb dX7_told_161 rfl (lv_at hl 2 rfl) ?_
      refine lv_bipush (v := 9) hx hb dX7_told_162 (by decide) ?_
      refine lv_icmp_ge (tgt := 188) hx hb dX7_told_164 (by decide) (fun _ => ?_) (fun c12 => absurd c12 (by decide))
      refine lv_aload_n hx hb dX7_told_188 rfl (lv_at hl 0 rfl) ?_
      refine va_get (D := D) (ci := 6) (v := .double (tIx U V lx ly p0 p1 p2 p3)) (C := RX7) (T := TX7) (N := 22) hx hb hts hinX7 hown hw.1 hP 0 rfl rfl 9 (by decide) (hts (.fieldLink RX7 81 "WheelSwingModel" "ix" "D") (by decide +kernel)) (fun _ h9 => h9) rfl dX7_told_189 ?_
      refine lv_aload_n hx hb dX7_told_192 rfl (lv_at hl 0 rfl) ?_
      refine va_get (D := D) (ci := 6) (v := .double (tRx g d p0 p4 p5)) (C := RX7) (T := TX7) (N := 22) hx hb hts hinX7 hown hw.1 hP 0 rfl rfl 7 (by decide) (hts (.fieldLink RX7 75 "WheelSwingModel" "rx" "D") (by decide +kernel)) (fun _ h9 => h9) rfl dX7_told_193 ?_
      have gw13 := gf_sub 690 1374 (gz_ix kU kV klx kly g0 g1 g2 g3 hn) (gz_rx kg kd g0 g4 g5) (Nat.le_of_ble_eq_true rfl) (Nat.le_of_ble_eq_true rfl) (Nat.le_of_ble_eq_true rfl) (Nat.le_of_ble_eq_true rfl) (Nat.le_of_ble_eq_true rfl)
      refine lv_dsub hx hb dX7_told_196 (gf_n64 gw13) ?_
      refine lv_topd (fun v14 ev14 => ?_)
      rw [← ev14] at gw13
      have fv14 : v14 = FP.dsub (tIx U V lx ly p0 p1 p2 p3) (tRx g d p0 p4 p5) := by rw [ev14]; try rfl
      clear ev14 gw13
      subst fv14
      refine lv_dconst0 hx hb dX7_told_197 ?_
      refine lv_dcmp hx hb dX7_told_198 ?_
      rw [fp_cv (gf_sub 690 1374 (gz_ix kU kV klx kly g0 g1 g2 g3 hn) (gz_rx kg kd g0 g4 g5) (Nat.le_of_ble_eq_true rfl) (Nat.le_of_ble_eq_true rfl) (Nat.le_of_ble_eq_true rfl) (Nat.le_of_ble_eq_true rfl) (Nat.le_of_ble_eq_true rfl)).1 gf_c0.1]
      refine lv_if_ne (tgt := 208) hx hb dX7_told_199 (by decide) (fun c15 => ?_) (fun c15 => ?_)
      · rw [fcv_eq] at c15
        have hix : fv (FP.dsub (tIx U V lx ly p0 p1 p2 p3) (tRx g d p0 p4 p5)) ≠ 0 := by have hq := c15; rw [fv_c0] at hq; exact hq
        refine lv_aload_n hx hb dX7_told_208 rfl (lv_at hl 0 rfl) ?_
        refine va_get (D := D) (ci := 6) (v := .double (tRy g d p1 p4 p5)) (C := RX7) (T := TX7) (N := 22) hx hb hts hinX7 hown hw.1 hP 0 rfl rfl 8 (by decide) (hts (.fieldLink RX7 78 "WheelSwingModel" "ry" "D") (by decide +kernel)) (fun _ h9 => h9) rfl dX7_told_209 ?_
        refine lv_dconst0 hx hb dX7_told_212 ?_
        refine lv_aload_n hx hb dX7_told_213 rfl (lv_at hl 0 rfl) ?_
        refine va_get (D := D) (ci := 6) (v := .double (tRx g d p0 p4 p5)) (C := RX7) (T := TX7) (N := 22) hx hb hts hinX7 hown hw.1 hP 0 rfl rfl 7 (by decide) (hts (.fieldLink RX7 75 "WheelSwingModel" "rx" "D") (by decide +kernel)) (fun _ h9 => h9) rfl dX7_told_214 ?_
        have gw16 := gf_sub 826 1167 gf_c0 (gz_rx kg kd g0 g4 g5) (Nat.le_of_ble_eq_true rfl) (Nat.le_of_ble_eq_true rfl) (Nat.le_of_ble_eq_true rfl) (Nat.le_of_ble_eq_true rfl) (Nat.le_of_ble_eq_true rfl)
        refine lv_dsub hx hb dX7_told_217 (gf_n64 gw16) ?_
        refine lv_topd (fun v17 ev17 => ?_)
        rw [← ev17] at gw16
        refine lv_aload_n hx hb dX7_told_218 rfl (lv_at hl 0 rfl) ?_
        refine va_get (D := D) (ci := 6) (v := .double (tIy U V lx ly p0 p1 p2 p3)) (C := RX7) (T := TX7) (N := 22) hx hb hts hinX7 hown hw.1 hP 0 rfl rfl 10 (by decide) (hts (.fieldLink RX7 84 "WheelSwingModel" "iy" "D") (by decide +kernel)) (fun _ h9 => h9) rfl dX7_told_219 ?_
        refine lv_aload_n hx hb dX7_told_222 rfl (lv_at hl 0 rfl) ?_
        refine va_get (D := D) (ci := 6) (v := .double (tRy g d p1 p4 p5)) (C := RX7) (T := TX7) (N := 22) hx hb hts hinX7 hown hw.1 hP 0 rfl rfl 8 (by decide) (hts (.fieldLink RX7 78 "WheelSwingModel" "ry" "D") (by decide +kernel)) (fun _ h9 => h9) rfl dX7_told_223 ?_
        have gw18 := gf_sub 736 1373 (gz_iy kU kV klx kly g0 g1 g2 g3 hn) (gz_ry kg kd g1 g4 g5) (Nat.le_of_ble_eq_true rfl) (Nat.le_of_ble_eq_true rfl) (Nat.le_of_ble_eq_true rfl) (Nat.le_of_ble_eq_true rfl) (Nat.le_of_ble_eq_true rfl)
        refine lv_dsub hx hb dX7_told_226 (gf_n64 gw18) ?_
        refine lv_topd (fun v19 ev19 => ?_)
        rw [← ev19] at gw18
        have gw20 := gf_mul 488 1466 gw16 gw18 (Nat.le_of_ble_eq_true rfl) (Nat.le_of_ble_eq_true rfl) (Nat.le_of_ble_eq_true rfl)
        refine lv_dmul hx hb dX7_told_227 (gf_n64 gw20) ?_
        refine lv_topd (fun v21 ev21 => ?_)
        rw [← ev21] at gw20
        refine lv_aload_n hx hb dX7_told_228 rfl (lv_at hl 0 rfl) ?_
        refine va_get (D := D) (ci := 6) (v := .double (tIx U V lx ly p0 p1 p2 p3)) (C := RX7) (T := TX7) (N := 22) hx hb hts hinX7 hown hw.1 hP 0 rfl rfl 9 (by decide) (hts (.fieldLink RX7 81 "WheelSwingModel" "ix" "D") (by decide +kernel)) (fun _ h9 => h9) rfl dX7_told_229 ?_
        refine lv_aload_n hx hb dX7_told_232 rfl (lv_at hl 0 rfl) ?_
        refine va_get (D := D) (ci := 6) (v := .double (tRx g d p0 p4 p5)) (C := RX7) (T := TX7) (N := 22) hx hb hts hinX7 hown hw.1 hP 0 rfl rfl 7 (by decide) (hts (.fieldLink RX7 75 "WheelSwingModel" "rx" "D") (by decide +kernel)) (fun _ h9 => h9) rfl dX7_told_233 ?_
        have gw22 := gf_sub 690 1374 (gz_ix kU kV klx kly g0 g1 g2 g3 hn) (gz_rx kg kd g0 g4 g5) (Nat.le_of_ble_eq_true rfl) (Nat.le_of_ble_eq_true rfl) (Nat.le_of_ble_eq_true rfl) (Nat.le_of_ble_eq_true rfl) (Nat.le_of_ble_eq_true rfl)
        refine lv_dsub hx hb dX7_told_236 (gf_n64 gw22) ?_
        refine lv_topd (fun v23 ev23 => ?_)
        rw [← ev23] at gw22
        have fv23 : v23 = FP.dsub (tIx U V lx ly p0 p1 p2 p3) (tRx g d p0 p4 p5) := by rw [ev23]; try rfl
        clear ev23 gw22
        subst fv23
        have gw24 := gf_div 136 1850 gw20 (gf_sub 690 1374 (gz_ix kU kV klx kly g0 g1 g2 g3 hn) (gz_rx kg kd g0 g4 g5) (Nat.le_of_ble_eq_true rfl) (Nat.le_of_ble_eq_true rfl) (Nat.le_of_ble_eq_true rfl) (Nat.le_of_ble_eq_true rfl) (Nat.le_of_ble_eq_true rfl)) hix (Nat.le_of_ble_eq_true rfl) (Nat.le_of_ble_eq_true rfl) (Nat.le_of_ble_eq_true rfl)
        refine lv_ddiv hx hb dX7_told_237 (gf_n64 gw24) ?_
        refine lv_topd (fun v25 ev25 => ?_)
        rw [← ev25] at gw24
        have gw26 := gf_add 136 1851 (gz_ry kg kd g1 g4 g5) gw24 (Nat.le_of_ble_eq_true rfl) (Nat.le_of_ble_eq_true rfl) (Nat.le_of_ble_eq_true rfl) (Nat.le_of_ble_eq_true rfl) (Nat.le_of_ble_eq_true rfl)
        refine lv_dadd hx hb dX7_told_238 (gf_n64 gw26) ?_
        refine lv_topd (fun v27 ev27 => ?_)
        rw [← ev27] at gw26
        have fv27 : v27 = tRoll (tRx g d p0 p4 p5) (tRy g d p1 p4 p5) (tIx U V lx ly p0 p1 p2 p3) (tIy U V lx ly p0 p1 p2 p3) := by rw [ev27, ev25, ev21, ev19, ev17]; try rfl
        clear ev27 gw26
        subst fv27
        refine va_calll (va_runS (As := [.double (tRoll (tRx g d p0 p4 p5) (tRy g d p1 p4 p5) (tIx U V lx ly p0 p1 p2 p3) (tIy U V lx ly p0 p1 p2 p3))]) (rest := []) ⟨hx, hb, hml, hown, hts⟩ (mX7_bitsOf l (tRoll (tRx g d p0 p4 p5) (tRy g d p1 p4 p5) (tIx U V lx ly p0 p1 p2 p3) (tIy U V lx ly p0 p1 p2 p3)) (bOk_gr (gz_roll kU kV klx kly kg kd g0 g1 g2 g3 g4 g5 hn hix) (Nat.le_of_ble_eq_true rfl) (Nat.le_of_ble_eq_true rfl))) (va_cwS 1 hts gX7_told_X7_bitsOf rfl rfl rfl (by decide +kernel) ⟨Nat.le_of_ble_eq_true rfl, Nat.le_of_ble_eq_true rfl⟩) ⟨tB_blind, tB_go⟩ rfl rfl hl.1 rfl (lv_room (Nat.le_of_ble_eq_true rfl)) dX7_told_239 ⟨Nat.le_of_ble_eq_true rfl, Nat.le_of_ble_eq_true rfl⟩) hS (fun q _ h => h.elim) (fun q h => h.elim) (fun r28 u29 t H locs ht hvm hp30 hB hz1 hk1 hS => ?_)
        have hP := fr_keep hP hk1 fr_nA
        have hR := fr_rd hR0 hS hnr
        subst hp30
        exact W.lret (v := UInt64.toInt64 (tRoll (tRx g d p0 p4 p5) (tRy g d p1 p4 p5) (tIx U V lx ly p0 p1 p2 p3) (tIy U V lx ly p0 p1 p2 p3))) hx hb hr (fun t ht hW => ⟨⟨UInt64.toInt64 (tRoll (tRx g d p0 p4 p5) (tRy g d p1 p4 p5) (tIx U V lx ly p0 p1 p2 p3) (tIy U V lx ly p0 p1 p2 p3)), [.ref nu, .double p0, .double p1, .double p2, .double p3, .double p4, .double p5, .double (tRx g d p0 p4 p5), .double (tRy g d p1 p4 p5), .double (tIx U V lx ly p0 p1 p2 p3), .double (tIy U V lx ly p0 p1 p2 p3), .int ct, .int cp, .int cr, .int ctr, .int cfs, .int (nI k), .ref sh, .int (nI k2), .ref ra, .ref rr, .double po], rfl, ⟨by have hq := c15; rw [fv_c0] at hq; unfold sTel2 sTell; simp [hn, hq], ⟨_, _, _, _, _, _, _, _, _, _, _, rfl⟩⟩, at_heap ht (hP 0 _ rfl)⟩, hS.F ht⟩) hS.2.2 dX7_told_242
      · rw [fcv_eq] at c15
        refine lv_ldc2 hx hb hown (hts (.constantLong RX7 93 (-1)) (by decide +kernel)) dX7_told_202 ?_
        refine lv_goto (tgt := 242) hx hb dX7_told_205 (by decide) ?_
        exact W.lret (v := (-1)) hx hb hr (fun t ht hW => ⟨⟨(-1), [.ref nu, .double p0, .double p1, .double p2, .double p3, .double p4, .double p5, .double (tRx g d p0 p4 p5), .double (tRy g d p1 p4 p5), .double (tIx U V lx ly p0 p1 p2 p3), .double (tIy U V lx ly p0 p1 p2 p3), .int ct, .int cp, .int cr, .int ctr, .int cfs, .int (nI k), .ref sh, .int (nI k2), .ref ra, .ref rr, .double po], rfl, ⟨by have hq := c15; rw [fv_c0] at hq; unfold sTel2 sTell; simp [hn, hq], ⟨_, _, _, _, _, _, _, _, _, _, _, rfl⟩⟩, at_heap ht (hP 0 _ rfl)⟩, hS.F ht⟩) hS.2.2 dX7_told_242
    · have hP : va_P D vwCl [(mo, .inr (6, [.ref nu, .double p0, .double p1, .double p2, .double p3, .double p4, .double p5, .double (tRx g d p0 p4 p5), .double (tRy g d p1 p4 p5), .double p8, .double p9, .int ct, .int cp, .int cr, .int ctr, .int cfs, .int (nI k), .ref sh, .int (nI k2), .ref ra, .ref rr, .double po]))] H := hP
      have hD : va_D (aE mo) [(mo, .inr (6, [.ref nu, .double p0, .double p1, .double p2, .double p3, .double p4, .double p5, .double (tRx g d p0 p4 p5), .double (tRy g d p1 p4 p5), .double p8, .double p9, .int ct, .int cp, .int cr, .int ctr, .int cfs, .int (nI k), .ref sh, .int (nI k2), .ref ra, .ref rr, .double po]))] := D_1 rfl
      refine lv_if_ne (tgt := 161) hx hb dX7_told_154 (by decide) (fun c32 => absurd c32 (by decide)) (fun _ => ?_)
      refine lv_ldc2 hx hb hown (hts (.constantLong RX7 93 (-1)) (by decide +kernel)) dX7_told_157 ?_
      exact W.lret (v := (-1)) hx hb hr (fun t ht hW => ⟨⟨(-1), [.ref nu, .double p0, .double p1, .double p2, .double p3, .double p4, .double p5, .double (tRx g d p0 p4 p5), .double (tRy g d p1 p4 p5), .double p8, .double p9, .int ct, .int cp, .int cr, .int ctr, .int cfs, .int (nI k), .ref sh, .int (nI k2), .ref ra, .ref rr, .double po], rfl, ⟨by unfold sTel2 sTell; simp [hn], ⟨_, _, _, _, _, _, _, _, _, _, _, rfl⟩⟩, at_heap ht (hP 0 _ rfl)⟩, hS.F ht⟩) hS.2.2 dX7_told_160
  · subst hwt
    refine lv_aload_n hx hb dX7_told_0 rfl (lv_at hl 0 rfl) ?_
    refine lv_iload_n hx hb dX7_told_1 rfl (lv_at hl 1 rfl) ?_
    have hq1 : va_P D vwCl [(mo, .inr (6, [.ref nu, .double p0, .double p1, .double p2, .double p3, .double p4, .double p5, .double p6, .double p7, .double p8, .double p9, .int ct, .int cp, .int cr, .int ctr, .int cfs, .int (nI k), .ref sh, .int (nI k2), .ref ra, .ref rr, .double po])), (nu, .inl (cI, 52, .inl N))] s.heap := fr_cons (hP 0 _ rfl) (fr_cons (hR 0 _ rfl) (fr_nil))
    refine va_callv (va_runV (As := [.int (nI q)]) (rest := []) ⟨hx, hb, hml, hown, hts⟩ (mX7_road l D cI cH mo nu sh ra rr k k2 q N ct cp cr ctr cfs p0 p1 p2 p3 p4 p5 p6 p7 p8 p9 po U V lx ly a b c sd g d sx sy f hqq hne hN kg kd g0 g1 g2 g3 g4 g5) (cwV 1 hts gX7_told_X7_road rfl rfl rfl (by decide +kernel) ⟨Nat.le_of_ble_eq_true rfl, Nat.le_of_ble_eq_true rfl⟩) ⟨kB_blind, va_recv hw.1 hq1 (ci := 6) (q0 := 0) rfl rfl, kB_go hq1 hw⟩ rfl rfl hl.1 rfl (lv_room (Nat.le_of_ble_eq_true rfl)) dX7_told_2 ⟨Nat.le_of_ble_eq_true rfl, Nat.le_of_ble_eq_true rfl⟩) hS (fun q _ h => h) (fun q h => h) (fun u3 t H locs ht hvm hp4 hB hz1 hk1 hS => ?_)
    have hB : va_at D vwCl (mo, .inr (6, u3)) t.heap := hB
    rw [ht] at hB
    have hP := fr_one hB
    have hR := fr_rd hR0 hS hnr
    subst hp4
    have hP : va_P D vwCl [(mo, .inr (6, [.ref nu, .double p0, .double p1, .double p2, .double p3, .double p4, .double p5, .double (tRx g d p0 p4 p5), .double (tRy g d p1 p4 p5), .double p8, .double p9, .int ct, .int cp, .int cr, .int ctr, .int cfs, .int (nI k), .ref sh, .int (nI k2), .ref ra, .ref rr, .double po]))] H := hP
    have hD : va_D (aE mo) [(mo, .inr (6, [.ref nu, .double p0, .double p1, .double p2, .double p3, .double p4, .double p5, .double (tRx g d p0 p4 p5), .double (tRy g d p1 p4 p5), .double p8, .double p9, .int ct, .int cp, .int cr, .int ctr, .int cfs, .int (nI k), .ref sh, .int (nI k2), .ref ra, .ref rr, .double po]))] := D_1 rfl
    refine lv_iload_n hx hb dX7_told_5 rfl (lv_at hl 2 rfl) ?_
    refine lv_tableIn (off := 134) (tgt := 140) hx hb dX7_told_6 (by decide) (by decide) (by decide) (by decide) ?_
    refine lv_aload_n hx hb dX7_told_140 rfl (lv_at hl 0 rfl) ?_
    refine lv_iload_n hx hb dX7_told_141 rfl (lv_at hl 1 rfl) ?_
    have hq5 : va_P D vwCl [(mo, .inr (6, [.ref nu, .double p0, .double p1, .double p2, .double p3, .double p4, .double p5, .double (tRx g d p0 p4 p5), .double (tRy g d p1 p4 p5), .double p8, .double p9, .int ct, .int cp, .int cr, .int ctr, .int cfs, .int (nI k), .ref sh, .int (nI k2), .ref ra, .ref rr, .double po])), (nu, .inl (cI, 52, .inl N))] H := fr_cons (hP 0 _ rfl) (fr_cons (hR 0 _ rfl) (fr_nil))
    refine va_calld (va_runV (As := [.int (nI q)]) (rest := []) ⟨hx, hb, hml, hown, hts⟩ (mX7_lengthAt l D cI cH mo nu sh ra rr k k2 q N ct cp cr ctr cfs p0 p1 p2 p3 p4 p5 (tRx g d p0 p4 p5) (tRy g d p1 p4 p5) p8 p9 po U V lx ly a b c sd g d sx sy f hqq hne hN klx kly ksx ksy kf g0 g1) (cwV 1 hts gX7_told_X7_lengthAt rfl rfl rfl (by decide +kernel) ⟨Nat.le_of_ble_eq_true rfl, Nat.le_of_ble_eq_true rfl⟩) ⟨kB_blind, va_recv hw.1 hq5 (ci := 6) (q0 := 0) rfl rfl, kB_go hq5 hw⟩ rfl rfl hl.1 rfl (lv_room (Nat.le_of_ble_eq_true rfl)) dX7_told_142 ⟨Nat.le_of_ble_eq_true rfl, Nat.le_of_ble_eq_true rfl⟩) hS (fun q _ h => h.elim) (fun q h => h.elim) (fun r6 u7 t H locs ht hvm hp8 hB hz1 hk1 hS => ?_)
    have hP := fr_keep hP hk1 fr_nA
    have hR := fr_rd hR0 hS hnr
    subst hp8
    refine va_calll (va_runS (As := [.double (tL lx ly sx sy f p0 p1)]) (rest := []) ⟨hx, hb, hml, hown, hts⟩ (mX7_bitsOf l (tL lx ly sx sy f p0 p1) (bOk_gr (gz_l klx kly ksx ksy kf g0 g1) (Nat.le_of_ble_eq_true rfl) (Nat.le_of_ble_eq_true rfl))) (va_cwS 1 hts gX7_told_X7_bitsOf rfl rfl rfl (by decide +kernel) ⟨Nat.le_of_ble_eq_true rfl, Nat.le_of_ble_eq_true rfl⟩) ⟨tB_blind, tB_go⟩ rfl rfl hl.1 rfl (lv_room (Nat.le_of_ble_eq_true rfl)) dX7_told_145 ⟨Nat.le_of_ble_eq_true rfl, Nat.le_of_ble_eq_true rfl⟩) hS (fun q _ h => h.elim) (fun q h => h.elim) (fun r9 u10 t H locs ht hvm hp11 hB hz1 hk1 hS => ?_)
    have hP := fr_keep hP hk1 fr_nA
    have hR := fr_rd hR0 hS hnr
    subst hp11
    exact W.lret (v := UInt64.toInt64 (tL lx ly sx sy f p0 p1)) hx hb hr (fun t ht hW => ⟨⟨UInt64.toInt64 (tL lx ly sx sy f p0 p1), [.ref nu, .double p0, .double p1, .double p2, .double p3, .double p4, .double p5, .double (tRx g d p0 p4 p5), .double (tRy g d p1 p4 p5), .double p8, .double p9, .int ct, .int cp, .int cr, .int ctr, .int cfs, .int (nI k), .ref sh, .int (nI k2), .ref ra, .ref rr, .double po], rfl, ⟨rfl, ⟨_, _, _, _, _, _, _, _, _, _, _, rfl⟩⟩, at_heap ht (hP 0 _ rfl)⟩, hS.F ht⟩) hS.2.2 dX7_told_148
set_option maxHeartbeats 4000000 in
set_option maxRecDepth 100000 in
theorem mX7_share (l : Launch) (D : va_G) (cI cH : ClassId) (mo nu sh ra rr k k2 q : Nat) (N : Nat → Int32) (ct cp cr ctr cfs : Int32) (p0 p1 p2 p3 p4 p5 p6 p7 p8 p9 po : UInt64) (U V lx ly a b c sd g d sx sy f : Int32) (y : Int32)  (hqq : q < 4) (hne : nu ≠ mo) (hN : hasN N q U V lx ly a b c sd g d sx sy f) (hh1 : pB U V lx ly a b c (y - 1)) (hh2 : pB U V lx ly a b c (y + 1)) (hsd : sd = 1 ∨ sd = -1) (klx : cB lx) (kly : cB ly) (ksx : cB sx) (ksy : cB sy) (kf : zB f) : Met l yX7_share wsX7_share ({ frames := 2, cells := 0, slots := 0, locals := 75 }) (va_Pc [.ref mo, .int (nI q), .int y] (kB D cI cH [(mo, .inr (6, [.ref nu, .double p0, .double p1, .double p2, .double p3, .double p4, .double p5, .double p6, .double p7, .double p8, .double p9, .int ct, .int cp, .int cr, .int ctr, .int cfs, .int (nI k), .ref sh, .int (nI k2), .ref ra, .ref rr, .double po])), (nu, .inl (cI, 52, .inl N))])) (va_Ql (fun (r : Int64) (u : List Value) => r = sShare U V a lx ly b c sx sy f y ∧ isM nu sh ra rr k k2 ct cp cr ctr cfs u) (fun u t => va_at D vwCl (mo, .inr (6, u)) t.heap) (aE mo)) 0 0 (aE mo) := by
  refine Met.ofW (cc := cX7_share) (maxL := 5) (ret := (some .long)) (by decide) rfl ?_
  intro p e s m args below meth co s₁ B hml hv
  obtain ⟨rfl, hP0, hw⟩ := hv
  have hx := B.exec
  have hb := B.bytes
  have hr := B.returns
  have hts := atoms_spec (ws := wsX7_share) B.pre
  have hown : s.vm.findClass RX7 = some m.cls := findClass_of_methodNamed B.named
  have hlocks := B.notSynchronized
  have hinX7 : ∀ w ∈ wsX70, w ∈ wsX7_share := by decide +kernel
  have hS : va_S (aE mo) s.heap s.heap [] := va_S.rf
  have hP : va_P D vwCl [(mo, .inr (6, [.ref nu, .double p0, .double p1, .double p2, .double p3, .double p4, .double p5, .double p6, .double p7, .double p8, .double p9, .int ct, .int cp, .int cr, .int ctr, .int cfs, .int (nI k), .ref sh, .int (nI k2), .ref ra, .ref rr, .double po]))] s.heap := hP0.sub [0] rfl
  have hD : va_D (aE mo) [(mo, .inr (6, [.ref nu, .double p0, .double p1, .double p2, .double p3, .double p4, .double p5, .double p6, .double p7, .double p8, .double p9, .int ct, .int cp, .int cr, .int ctr, .int cfs, .int (nI k), .ref sh, .int (nI k2), .ref ra, .ref rr, .double po]))] := D_1 rfl
  have hR0 : va_P D vwCl [(nu, .inl (cI, 52, .inl N))] s.heap := hP0.sub [1] rfl
  have hR := hR0
  have hnr : ∀ (k9 : Nat) (q : Nat × va_E), ([(nu, .inl (cI, 52, .inl N))] : va_W)[k9]? = some q → ¬ (aE mo) q.1 := nn_1 hne nn_0
  obtain ⟨hN0, hN1, hN2, hN3, hN4, hN5, hN6, hN7, hN8, hN9, hN10, hN11, hN12⟩ := id hN
  have hl := lv_entry ([.ref mo, .int (nI q), .int y]) (n := 5) (Nat.le_of_ble_eq_true rfl)
  rw [lg_entry_eq]
  generalize (lg_sl ([.ref mo, .int (nI q), .int y]) ++ List.replicate (5 - (lg_sl ([.ref mo, .int (nI q), .int y])).length) Slot.unset).toArray = ls at hl ⊢
  have hl : lv_has ls 5 [(0, .ref mo), (1, .int (nI q)), (2, .int y)] := hl
  skip
  refine lv_aload_n hx hb dX7_share_0 rfl (lv_at hl 0 rfl) ?_
  refine lv_iload_n hx hb dX7_share_1 rfl (lv_at hl 1 rfl) ?_
  refine lv_iload_n hx hb dX7_share_2 rfl (lv_at hl 2 rfl) ?_
  refine lv_iconst (v := 1) hx hb dX7_share_3 (by decide) ?_
  refine lv_isub hx hb dX7_share_4 ?_
  have hq1 : va_P D vwCl [(mo, .inr (6, [.ref nu, .double p0, .double p1, .double p2, .double p3, .double p4, .double p5, .double p6, .double p7, .double p8, .double p9, .int ct, .int cp, .int cr, .int ctr, .int cfs, .int (nI k), .ref sh, .int (nI k2), .ref ra, .ref rr, .double po])), (nu, .inl (cI, 52, .inl N))] s.heap := fr_cons (hP 0 _ rfl) (fr_cons (hR 0 _ rfl) (fr_nil))
  refine va_calli (va_runV (As := [.int (nI q), .int (y - 1)]) (rest := []) ⟨hx, hb, hml, hown, hts⟩ (mX7_poses l D cI cH mo nu sh ra rr k k2 q N ct cp cr ctr cfs p0 p1 p2 p3 p4 p5 p6 p7 p8 p9 po U V lx ly a b c sd g d sx sy f (y - 1) hqq hne hN hh1 hsd) (cwV 2 hts gX7_share_X7_poses rfl rfl rfl (by decide +kernel) ⟨Nat.le_of_ble_eq_true rfl, Nat.le_of_ble_eq_true rfl⟩) ⟨kB_blind, va_recv hw.1 hq1 (ci := 6) (q0 := 0) rfl rfl, kB_go hq1 hw⟩ rfl rfl hl.1 rfl (lv_room (Nat.le_of_ble_eq_true rfl)) dX7_share_5 ⟨Nat.le_of_ble_eq_true rfl, Nat.le_of_ble_eq_true rfl⟩) hS (fun q _ h => h) (fun q h => h) (fun r2 u3 t H locs ht hvm hp4 hB hz1 hk1 hS => ?_)
  have hB : va_at D vwCl (mo, .inr (6, u3)) t.heap := hB
  rw [ht] at hB
  have hP := fr_one hB
  have hR := fr_rd hR0 hS hnr
  rcases hp4 with ⟨rfl, hf1, rfl⟩ | ⟨rfl, hnf1, j5, j6, j7, j8, j9, j10, j11, j12, j13, j14, j15, rfl⟩
  · have h01 := hf1.1
    have he1 := hf1.2.1
    have hk1 := hf1.2.2
    have hP : va_P D vwCl [(mo, .inr (6, [.ref nu, .double (tPx lx ly b (y - 1)), .double (FP.i2d (y - 1)), .double (tQx U V lx ly a b c sd (y - 1)), .double (tQy U V lx ly a b c sd (y - 1)), .double (tVx U V lx ly a b c sd (y - 1)), .double (tVy U V lx ly a b c sd (y - 1)), .double p6, .double p7, .double p8, .double p9, .int ct, .int cp, .int cr, .int ctr, .int cfs, .int (nI k), .ref sh, .int (nI k2), .ref ra, .ref rr, .double po]))] H := hP
    have hD : va_D (aE mo) [(mo, .inr (6, [.ref nu, .double (tPx lx ly b (y - 1)), .double (FP.i2d (y - 1)), .double (tQx U V lx ly a b c sd (y - 1)), .double (tQy U V lx ly a b c sd (y - 1)), .double (tVx U V lx ly a b c sd (y - 1)), .double (tVy U V lx ly a b c sd (y - 1)), .double p6, .double p7, .double p8, .double p9, .int ct, .int cp, .int cr, .int ctr, .int cfs, .int (nI k), .ref sh, .int (nI k2), .ref ra, .ref rr, .double po]))] := D_1 rfl
    refine lv_if_ne (tgt := 15) hx hb dX7_share_8 (by decide) (fun _ => ?_) (fun c17 => absurd c17 (by decide))
    refine lv_aload_n hx hb dX7_share_15 rfl (lv_at hl 0 rfl) ?_
    refine lv_iload_n hx hb dX7_share_16 rfl (lv_at hl 1 rfl) ?_
    have hq18 : va_P D vwCl [(mo, .inr (6, [.ref nu, .double (tPx lx ly b (y - 1)), .double (FP.i2d (y - 1)), .double (tQx U V lx ly a b c sd (y - 1)), .double (tQy U V lx ly a b c sd (y - 1)), .double (tVx U V lx ly a b c sd (y - 1)), .double (tVy U V lx ly a b c sd (y - 1)), .double p6, .double p7, .double p8, .double p9, .int ct, .int cp, .int cr, .int ctr, .int cfs, .int (nI k), .ref sh, .int (nI k2), .ref ra, .ref rr, .double po])), (nu, .inl (cI, 52, .inl N))] H := fr_cons (hP 0 _ rfl) (fr_cons (hR 0 _ rfl) (fr_nil))
    refine va_calld (va_runV (As := [.int (nI q)]) (rest := []) ⟨hx, hb, hml, hown, hts⟩ (mX7_lengthAt l D cI cH mo nu sh ra rr k k2 q N ct cp cr ctr cfs (tPx lx ly b (y - 1)) (FP.i2d (y - 1)) (tQx U V lx ly a b c sd (y - 1)) (tQy U V lx ly a b c sd (y - 1)) (tVx U V lx ly a b c sd (y - 1)) (tVy U V lx ly a b c sd (y - 1)) p6 p7 p8 p9 po U V lx ly a b c sd g d sx sy f hqq hne hN klx kly ksx ksy kf (gz_px hh1 h01) (gf_i2d 10 (yB_k hh1.2.2.2.2.2.2.2))) (cwV 1 hts gX7_share_X7_lengthAt rfl rfl rfl (by decide +kernel) ⟨Nat.le_of_ble_eq_true rfl, Nat.le_of_ble_eq_true rfl⟩) ⟨kB_blind, va_recv hw.1 hq18 (ci := 6) (q0 := 0) rfl rfl, kB_go hq18 hw⟩ rfl rfl hl.1 rfl (lv_room (Nat.le_of_ble_eq_true rfl)) dX7_share_17 ⟨Nat.le_of_ble_eq_true rfl, Nat.le_of_ble_eq_true rfl⟩) hS (fun q _ h => h.elim) (fun q h => h.elim) (fun r19 u20 t H locs ht hvm hp21 hB hz1 hk1 hS => ?_)
    have hP := fr_keep hP hk1 fr_nA
    have hR := fr_rd hR0 hS hnr
    subst hp21
    refine lv_dstore_n (lv' := [(3, .double (tL lx ly sx sy f (tPx lx ly b (y - 1)) (FP.i2d (y - 1)))), (0, .ref mo), (1, .int (nI q)), (2, .int y)]) hx hb dX7_share_20 rfl hl (by decide) rfl (fun ls hl => ?_)
    refine lv_aload_n hx hb dX7_share_21 rfl (lv_at hl 1 rfl) ?_
    refine lv_iload_n hx hb dX7_share_22 rfl (lv_at hl 2 rfl) ?_
    refine lv_iload_n hx hb dX7_share_23 rfl (lv_at hl 3 rfl) ?_
    refine lv_iconst (v := 1) hx hb dX7_share_24 (by decide) ?_
    refine lv_iadd hx hb dX7_share_25 ?_
    have hq22 : va_P D vwCl [(mo, .inr (6, [.ref nu, .double (tPx lx ly b (y - 1)), .double (FP.i2d (y - 1)), .double (tQx U V lx ly a b c sd (y - 1)), .double (tQy U V lx ly a b c sd (y - 1)), .double (tVx U V lx ly a b c sd (y - 1)), .double (tVy U V lx ly a b c sd (y - 1)), .double p6, .double p7, .double p8, .double p9, .int ct, .int cp, .int cr, .int ctr, .int cfs, .int (nI k), .ref sh, .int (nI k2), .ref ra, .ref rr, .double po])), (nu, .inl (cI, 52, .inl N))] H := fr_cons (hP 0 _ rfl) (fr_cons (hR 0 _ rfl) (fr_nil))
    refine va_calli (va_runV (As := [.int (nI q), .int (y + 1)]) (rest := []) ⟨hx, hb, hml, hown, hts⟩ (mX7_poses l D cI cH mo nu sh ra rr k k2 q N ct cp cr ctr cfs (tPx lx ly b (y - 1)) (FP.i2d (y - 1)) (tQx U V lx ly a b c sd (y - 1)) (tQy U V lx ly a b c sd (y - 1)) (tVx U V lx ly a b c sd (y - 1)) (tVy U V lx ly a b c sd (y - 1)) p6 p7 p8 p9 po U V lx ly a b c sd g d sx sy f (y + 1) hqq hne hN hh2 hsd) (cwV 2 hts gX7_share_X7_poses rfl rfl rfl (by decide +kernel) ⟨Nat.le_of_ble_eq_true rfl, Nat.le_of_ble_eq_true rfl⟩) ⟨kB_blind, va_recv hw.1 hq22 (ci := 6) (q0 := 0) rfl rfl, kB_go hq22 hw⟩ rfl rfl hl.1 rfl (lv_room (Nat.le_of_ble_eq_true rfl)) dX7_share_26 ⟨Nat.le_of_ble_eq_true rfl, Nat.le_of_ble_eq_true rfl⟩) hS (fun q _ h => h) (fun q h => h) (fun r23 u24 t H locs ht hvm hp25 hB hz1 hk1 hS => ?_)
    have hB : va_at D vwCl (mo, .inr (6, u24)) t.heap := hB
    rw [ht] at hB
    have hP := fr_one hB
    have hR := fr_rd hR0 hS hnr
    rcases hp25 with ⟨rfl, hf2, rfl⟩ | ⟨rfl, hnf2, j26, j27, j28, j29, j30, j31, j32, j33, j34, j35, j36, rfl⟩
    · have h02 := hf2.1
      have he2 := hf2.2.1
      have hk2 := hf2.2.2
      have hP : va_P D vwCl [(mo, .inr (6, [.ref nu, .double (tPx lx ly b (y + 1)), .double (FP.i2d (y + 1)), .double (tQx U V lx ly a b c sd (y + 1)), .double (tQy U V lx ly a b c sd (y + 1)), .double (tVx U V lx ly a b c sd (y + 1)), .double (tVy U V lx ly a b c sd (y + 1)), .double p6, .double p7, .double p8, .double p9, .int ct, .int cp, .int cr, .int ctr, .int cfs, .int (nI k), .ref sh, .int (nI k2), .ref ra, .ref rr, .double po]))] H := hP
      have hD : va_D (aE mo) [(mo, .inr (6, [.ref nu, .double (tPx lx ly b (y + 1)), .double (FP.i2d (y + 1)), .double (tQx U V lx ly a b c sd (y + 1)), .double (tQy U V lx ly a b c sd (y + 1)), .double (tVx U V lx ly a b c sd (y + 1)), .double (tVy U V lx ly a b c sd (y + 1)), .double p6, .double p7, .double p8, .double p9, .int ct, .int cp, .int cr, .int ctr, .int cfs, .int (nI k), .ref sh, .int (nI k2), .ref ra, .ref rr, .double po]))] := D_1 rfl
      refine lv_if_ne (tgt := 36) hx hb dX7_share_29 (by decide) (fun _ => ?_) (fun c38 => absurd c38 (by decide))
      refine lv_dload_n hx hb dX7_share_36 rfl (lv_at hl 0 rfl) ?_
      refine lv_aload_n hx hb dX7_share_37 rfl (lv_at hl 1 rfl) ?_
      refine lv_iload_n hx hb dX7_share_38 rfl (lv_at hl 2 rfl) ?_
      have hq39 : va_P D vwCl [(mo, .inr (6, [.ref nu, .double (tPx lx ly b (y + 1)), .double (FP.i2d (y + 1)), .double (tQx U V lx ly a b c sd (y + 1)), .double (tQy U V lx ly a b c sd (y + 1)), .double (tVx U V lx ly a b c sd (y + 1)), .double (tVy U V lx ly a b c sd (y + 1)), .double p6, .double p7, .double p8, .double p9, .int ct, .int cp, .int cr, .int ctr, .int cfs, .int (nI k), .ref sh, .int (nI k2), .ref ra, .ref rr, .double po])), (nu, .inl (cI, 52, .inl N))] H := fr_cons (hP 0 _ rfl) (fr_cons (hR 0 _ rfl) (fr_nil))
      refine va_calld (va_runV (As := [.int (nI q)]) (rest := [.double (tL lx ly sx sy f (tPx lx ly b (y - 1)) (FP.i2d (y - 1)))]) ⟨hx, hb, hml, hown, hts⟩ (mX7_lengthAt l D cI cH mo nu sh ra rr k k2 q N ct cp cr ctr cfs (tPx lx ly b (y + 1)) (FP.i2d (y + 1)) (tQx U V lx ly a b c sd (y + 1)) (tQy U V lx ly a b c sd (y + 1)) (tVx U V lx ly a b c sd (y + 1)) (tVy U V lx ly a b c sd (y + 1)) p6 p7 p8 p9 po U V lx ly a b c sd g d sx sy f hqq hne hN klx kly ksx ksy kf (gz_px hh2 h02) (gf_i2d 10 (yB_k hh2.2.2.2.2.2.2.2))) (cwV 1 hts gX7_share_X7_lengthAt rfl rfl rfl (by decide +kernel) ⟨Nat.le_of_ble_eq_true rfl, Nat.le_of_ble_eq_true rfl⟩) ⟨kB_blind, va_recv hw.1 hq39 (ci := 6) (q0 := 0) rfl rfl, kB_go hq39 hw⟩ rfl rfl hl.1 rfl (lv_room (Nat.le_of_ble_eq_true rfl)) dX7_share_39 ⟨Nat.le_of_ble_eq_true rfl, Nat.le_of_ble_eq_true rfl⟩) hS (fun q _ h => h.elim) (fun q h => h.elim) (fun r40 u41 t H locs ht hvm hp42 hB hz1 hk1 hS => ?_)
      have hP := fr_keep hP hk1 fr_nA
      have hR := fr_rd hR0 hS hnr
      subst hp42
      have gw43 := gf_sub 906 1099 (gz_l klx kly ksx ksy kf (gz_px hh1 h01) (gf_i2d 10 (yB_k hh1.2.2.2.2.2.2.2))) (gz_l klx kly ksx ksy kf (gz_px hh2 h02) (gf_i2d 10 (yB_k hh2.2.2.2.2.2.2.2))) (Nat.le_of_ble_eq_true rfl) (Nat.le_of_ble_eq_true rfl) (Nat.le_of_ble_eq_true rfl) (Nat.le_of_ble_eq_true rfl) (Nat.le_of_ble_eq_true rfl)
      refine lv_dsub hx hb dX7_share_42 (gf_n64 gw43) ?_
      refine lv_topd (fun v44 ev44 => ?_)
      rw [← ev44] at gw43
      have fv44 : v44 = FP.dsub (tL lx ly sx sy f (tPx lx ly b (y - 1)) (FP.i2d (y - 1))) (tL lx ly sx sy f (tPx lx ly b (y + 1)) (FP.i2d (y + 1))) := by rw [ev44]; try rfl
      clear ev44 gw43
      subst fv44
      refine lv_ldc2d hx hb hown (hts (.constantDouble RX7 3 (4611686018427387904)) (by decide +kernel)) dX7_share_43 ?_
      have gw45 := gf_div 853 1098 (gf_sub 906 1099 (gz_l klx kly ksx ksy kf (gz_px hh1 h01) (gf_i2d 10 (yB_k hh1.2.2.2.2.2.2.2))) (gz_l klx kly ksx ksy kf (gz_px hh2 h02) (gf_i2d 10 (yB_k hh2.2.2.2.2.2.2.2))) (Nat.le_of_ble_eq_true rfl) (Nat.le_of_ble_eq_true rfl) (Nat.le_of_ble_eq_true rfl) (Nat.le_of_ble_eq_true rfl) (Nat.le_of_ble_eq_true rfl)) gf_2 ne_2 (Nat.le_of_ble_eq_true rfl) (Nat.le_of_ble_eq_true rfl) (Nat.le_of_ble_eq_true rfl)
      refine lv_ddiv hx hb dX7_share_46 (gf_n64 gw45) ?_
      refine lv_topd (fun v46 ev46 => ?_)
      rw [← ev46] at gw45
      have fv46 : v46 = FP.ddiv (FP.dsub (tL lx ly sx sy f (tPx lx ly b (y - 1)) (FP.i2d (y - 1))) (tL lx ly sx sy f (tPx lx ly b (y + 1)) (FP.i2d (y + 1)))) 4611686018427387904 := by rw [ev46]; try rfl
      clear ev46 gw45
      subst fv46
      refine va_calll (va_runS (As := [.double (FP.ddiv (FP.dsub (tL lx ly sx sy f (tPx lx ly b (y - 1)) (FP.i2d (y - 1))) (tL lx ly sx sy f (tPx lx ly b (y + 1)) (FP.i2d (y + 1)))) 4611686018427387904)]) (rest := []) ⟨hx, hb, hml, hown, hts⟩ (mX7_bitsOf l (FP.ddiv (FP.dsub (tL lx ly sx sy f (tPx lx ly b (y - 1)) (FP.i2d (y - 1))) (tL lx ly sx sy f (tPx lx ly b (y + 1)) (FP.i2d (y + 1)))) 4611686018427387904) (bOk_gr (gf_div 853 1098 (gf_sub 906 1099 (gz_l klx kly ksx ksy kf (gz_px hh1 h01) (gf_i2d 10 (yB_k hh1.2.2.2.2.2.2.2))) (gz_l klx kly ksx ksy kf (gz_px hh2 h02) (gf_i2d 10 (yB_k hh2.2.2.2.2.2.2.2))) (Nat.le_of_ble_eq_true rfl) (Nat.le_of_ble_eq_true rfl) (Nat.le_of_ble_eq_true rfl) (Nat.le_of_ble_eq_true rfl) (Nat.le_of_ble_eq_true rfl)) gf_2 ne_2 (Nat.le_of_ble_eq_true rfl) (Nat.le_of_ble_eq_true rfl) (Nat.le_of_ble_eq_true rfl)) (Nat.le_of_ble_eq_true rfl) (Nat.le_of_ble_eq_true rfl))) (va_cwS 1 hts gX7_share_X7_bitsOf rfl rfl rfl (by decide +kernel) ⟨Nat.le_of_ble_eq_true rfl, Nat.le_of_ble_eq_true rfl⟩) ⟨tB_blind, tB_go⟩ rfl rfl hl.1 rfl (lv_room (Nat.le_of_ble_eq_true rfl)) dX7_share_47 ⟨Nat.le_of_ble_eq_true rfl, Nat.le_of_ble_eq_true rfl⟩) hS (fun q _ h => h.elim) (fun q h => h.elim) (fun r47 u48 t H locs ht hvm hp49 hB hz1 hk1 hS => ?_)
      have hP := fr_keep hP hk1 fr_nA
      have hR := fr_rd hR0 hS hnr
      subst hp49
      exact W.lret (v := UInt64.toInt64 (FP.ddiv (FP.dsub (tL lx ly sx sy f (tPx lx ly b (y - 1)) (FP.i2d (y - 1))) (tL lx ly sx sy f (tPx lx ly b (y + 1)) (FP.i2d (y + 1)))) 4611686018427387904)) hx hb hr (fun t ht hW => ⟨⟨UInt64.toInt64 (FP.ddiv (FP.dsub (tL lx ly sx sy f (tPx lx ly b (y - 1)) (FP.i2d (y - 1))) (tL lx ly sx sy f (tPx lx ly b (y + 1)) (FP.i2d (y + 1)))) 4611686018427387904), [.ref nu, .double (tPx lx ly b (y + 1)), .double (FP.i2d (y + 1)), .double (tQx U V lx ly a b c sd (y + 1)), .double (tQy U V lx ly a b c sd (y + 1)), .double (tVx U V lx ly a b c sd (y + 1)), .double (tVy U V lx ly a b c sd (y + 1)), .double p6, .double p7, .double p8, .double p9, .int ct, .int cp, .int cr, .int ctr, .int cfs, .int (nI k), .ref sh, .int (nI k2), .ref ra, .ref rr, .double po], rfl, ⟨by unfold sShare; rw [bFree_t hf1, bFree_t hf2]; rfl, ⟨_, _, _, _, _, _, _, _, _, _, _, rfl⟩⟩, at_heap ht (hP 0 _ rfl)⟩, hS.F ht⟩) hS.2.2 dX7_share_50
    · have hP : va_P D vwCl [(mo, .inr (6, [.ref nu, .double j26, .double j27, .double j28, .double j29, .double j30, .double j31, .double j32, .double j33, .double j34, .double j35, .int ct, .int cp, .int cr, .int ctr, .int cfs, .int (nI k), .ref sh, .int (nI k2), .ref ra, .ref rr, .double j36]))] H := hP
      have hD : va_D (aE mo) [(mo, .inr (6, [.ref nu, .double j26, .double j27, .double j28, .double j29, .double j30, .double j31, .double j32, .double j33, .double j34, .double j35, .int ct, .int cp, .int cr, .int ctr, .int cfs, .int (nI k), .ref sh, .int (nI k2), .ref ra, .ref rr, .double j36]))] := D_1 rfl
      refine lv_if_ne (tgt := 36) hx hb dX7_share_29 (by decide) (fun c51 => absurd c51 (by decide)) (fun _ => ?_)
      refine lv_ldc2 hx hb hown (hts (.constantLong RX7 93 (-1)) (by decide +kernel)) dX7_share_32 ?_
      exact W.lret (v := (-1)) hx hb hr (fun t ht hW => ⟨⟨(-1), [.ref nu, .double j26, .double j27, .double j28, .double j29, .double j30, .double j31, .double j32, .double j33, .double j34, .double j35, .int ct, .int cp, .int cr, .int ctr, .int cfs, .int (nI k), .ref sh, .int (nI k2), .ref ra, .ref rr, .double j36], rfl, ⟨by unfold sShare; rw [bFree_t hf1, bFree_f hnf2]; rfl, ⟨_, _, _, _, _, _, _, _, _, _, _, rfl⟩⟩, at_heap ht (hP 0 _ rfl)⟩, hS.F ht⟩) hS.2.2 dX7_share_35
  · have hP : va_P D vwCl [(mo, .inr (6, [.ref nu, .double j5, .double j6, .double j7, .double j8, .double j9, .double j10, .double j11, .double j12, .double j13, .double j14, .int ct, .int cp, .int cr, .int ctr, .int cfs, .int (nI k), .ref sh, .int (nI k2), .ref ra, .ref rr, .double j15]))] H := hP
    have hD : va_D (aE mo) [(mo, .inr (6, [.ref nu, .double j5, .double j6, .double j7, .double j8, .double j9, .double j10, .double j11, .double j12, .double j13, .double j14, .int ct, .int cp, .int cr, .int ctr, .int cfs, .int (nI k), .ref sh, .int (nI k2), .ref ra, .ref rr, .double j15]))] := D_1 rfl
    refine lv_if_ne (tgt := 15) hx hb dX7_share_8 (by decide) (fun c53 => absurd c53 (by decide)) (fun _ => ?_)
    refine lv_ldc2 hx hb hown (hts (.constantLong RX7 93 (-1)) (by decide +kernel)) dX7_share_11 ?_
    exact W.lret (v := (-1)) hx hb hr (fun t ht hW => ⟨⟨(-1), [.ref nu, .double j5, .double j6, .double j7, .double j8, .double j9, .double j10, .double j11, .double j12, .double j13, .double j14, .int ct, .int cp, .int cr, .int ctr, .int cfs, .int (nI k), .ref sh, .int (nI k2), .ref ra, .ref rr, .double j15], rfl, ⟨by unfold sShare; rw [bFree_f hnf1]; rfl, ⟨_, _, _, _, _, _, _, _, _, _, _, rfl⟩⟩, at_heap ht (hP 0 _ rfl)⟩, hS.F ht⟩) hS.2.2 dX7_share_14
set_option maxHeartbeats 4000000 in
set_option maxRecDepth 100000 in
theorem mX7_pose (l : Launch) (D : va_G) (cI cH : ClassId) (mo nu sh ra rr k k2 q : Nat) (N : Nat → Int32) (ct cp cr ctr cfs : Int32) (p0 p1 p2 p3 p4 p5 p6 p7 p8 p9 po : UInt64) (U V lx ly a b c sd g d sx sy f : Int32) (h y wt : Int32)  (hqq : q < 4) (hne : nu ≠ mo) (hN : hasN N q U V lx ly a b c sd g d sx sy f) (hgb : hgB U V a lx ly b c sd g d sx sy f) (hq9 : okH h = true → h = nI q) : Met l yX7_pose wsX7_pose ({ frames := 3, cells := 0, slots := 0, locals := 99 }) (va_Pc [.ref mo, .int h, .int y, .int wt] (kB D cI cH [(mo, .inr (6, [.ref nu, .double p0, .double p1, .double p2, .double p3, .double p4, .double p5, .double p6, .double p7, .double p8, .double p9, .int ct, .int cp, .int cr, .int ctr, .int cfs, .int (nI k), .ref sh, .int (nI k2), .ref ra, .ref rr, .double po])), (nu, .inl (cI, 52, .inl N))])) (va_Ql (fun (r : Int64) (u : List Value) => r = (if okPose h y wt then sPose U V a lx ly b c sd g d sx sy f y wt else -2) ∧ isM nu sh ra rr k k2 ct cp cr ctr cfs u) (fun u t => va_at D vwCl (mo, .inr (6, u)) t.heap) (aE mo)) 0 0 (aE mo) := by
  refine Met.ofW (cc := cX7_pose) (maxL := 4) (ret := (some .long)) (by decide) rfl ?_
  intro p e s m args below meth co s₁ B hml hv
  obtain ⟨rfl, hP0, hw⟩ := hv
  have hx := B.exec
  have hb := B.bytes
  have hr := B.returns
  have hts := atoms_spec (ws := wsX7_pose) B.pre
  have hown : s.vm.findClass RX7 = some m.cls := findClass_of_methodNamed B.named
  have hlocks := B.notSynchronized
  have hinX7 : ∀ w ∈ wsX70, w ∈ wsX7_pose := by decide +kernel
  have hS : va_S (aE mo) s.heap s.heap [] := va_S.rf
  have hP : va_P D vwCl [(mo, .inr (6, [.ref nu, .double p0, .double p1, .double p2, .double p3, .double p4, .double p5, .double p6, .double p7, .double p8, .double p9, .int ct, .int cp, .int cr, .int ctr, .int cfs, .int (nI k), .ref sh, .int (nI k2), .ref ra, .ref rr, .double po]))] s.heap := hP0.sub [0] rfl
  have hD : va_D (aE mo) [(mo, .inr (6, [.ref nu, .double p0, .double p1, .double p2, .double p3, .double p4, .double p5, .double p6, .double p7, .double p8, .double p9, .int ct, .int cp, .int cr, .int ctr, .int cfs, .int (nI k), .ref sh, .int (nI k2), .ref ra, .ref rr, .double po]))] := D_1 rfl
  have hR0 : va_P D vwCl [(nu, .inl (cI, 52, .inl N))] s.heap := hP0.sub [1] rfl
  have hR := hR0
  have hnr : ∀ (k9 : Nat) (q : Nat × va_E), ([(nu, .inl (cI, 52, .inl N))] : va_W)[k9]? = some q → ¬ (aE mo) q.1 := nn_1 hne nn_0
  obtain ⟨hN0, hN1, hN2, hN3, hN4, hN5, hN6, hN7, hN8, hN9, hN10, hN11, hN12⟩ := id hN
  obtain ⟨kU, kV, ka, klx, kly, kb, kc, hsd, kg, kd, ksx, ksy, kf⟩ := id hgb
  have hl := lv_entry ([.ref mo, .int h, .int y, .int wt]) (n := 4) (Nat.le_of_ble_eq_true rfl)
  rw [lg_entry_eq]
  generalize (lg_sl ([.ref mo, .int h, .int y, .int wt]) ++ List.replicate (4 - (lg_sl ([.ref mo, .int h, .int y, .int wt])).length) Slot.unset).toArray = ls at hl ⊢
  have hl : lv_has ls 4 [(0, .ref mo), (1, .int h), (2, .int y), (3, .int wt)] := hl
  skip
  refine lv_iload_n hx hb dX7_pose_0 rfl (lv_at hl 1 rfl) ?_
  refine va_calli (va_runS (As := [.int h]) (rest := []) ⟨hx, hb, hml, hown, hts⟩ (mX7_isHanging l h) (va_cwS 1 hts gX7_pose_X7_isHanging rfl rfl rfl (by decide +kernel) ⟨Nat.le_of_ble_eq_true rfl, Nat.le_of_ble_eq_true rfl⟩) ⟨tB_blind, tB_go⟩ rfl rfl hl.1 rfl (lv_room (Nat.le_of_ble_eq_true rfl)) dX7_pose_1 ⟨Nat.le_of_ble_eq_true rfl, Nat.le_of_ble_eq_true rfl⟩) hS (fun q _ h => h.elim) (fun q h => h.elim) (fun r1 u2 t H locs ht hvm hp3 hB hz1 hk1 hS => ?_)
  have hP := fr_keep hP hk1 fr_nA
  have hR := fr_rd hR0 hS hnr
  subst hp3
  refine lv_if_eq (tgt := 24) hx hb dX7_pose_4 (by decide) (fun c4 => ?_) (fun c4 => ?_)
  · have c4 := bI_e.mp c4
    refine lv_ldc2 hx hb hown (hts (.constantLong RX7 110 (-2)) (by decide +kernel)) dX7_pose_24 ?_
    exact W.lret (v := (-2)) hx hb hr (fun t ht hW => ⟨⟨(-2), [.ref nu, .double p0, .double p1, .double p2, .double p3, .double p4, .double p5, .double p6, .double p7, .double p8, .double p9, .int ct, .int cp, .int cr, .int ctr, .int cfs, .int (nI k), .ref sh, .int (nI k2), .ref ra, .ref rr, .double po], rfl, ⟨by unfold okPose; simp [c4], ⟨_, _, _, _, _, _, _, _, _, _, _, rfl⟩⟩, at_heap ht (hP 0 _ rfl)⟩, hS.F ht⟩) hS.2.2 dX7_pose_27
  · have c4 := bI_n.mp c4
    refine lv_iload_n hx hb dX7_pose_7 rfl (lv_at hl 2 rfl) ?_
    refine va_calli (va_runS (As := [.int y]) (rest := []) ⟨hx, hb, hml, hown, hts⟩ (mX7_isAt l y) (va_cwS 1 hts gX7_pose_X7_isAt rfl rfl rfl (by decide +kernel) ⟨Nat.le_of_ble_eq_true rfl, Nat.le_of_ble_eq_true rfl⟩) ⟨tB_blind, tB_go⟩ rfl rfl hl.1 rfl (lv_room (Nat.le_of_ble_eq_true rfl)) dX7_pose_8 ⟨Nat.le_of_ble_eq_true rfl, Nat.le_of_ble_eq_true rfl⟩) hS (fun q _ h => h.elim) (fun q h => h.elim) (fun r5 u6 t H locs ht hvm hp7 hB hz1 hk1 hS => ?_)
    have hP := fr_keep hP hk1 fr_nA
    have hR := fr_rd hR0 hS hnr
    subst hp7
    refine lv_if_eq (tgt := 24) hx hb dX7_pose_11 (by decide) (fun c8 => ?_) (fun c8 => ?_)
    · have c8 := bI_e.mp c8
      refine lv_ldc2 hx hb hown (hts (.constantLong RX7 110 (-2)) (by decide +kernel)) dX7_pose_24 ?_
      exact W.lret (v := (-2)) hx hb hr (fun t ht hW => ⟨⟨(-2), [.ref nu, .double p0, .double p1, .double p2, .double p3, .double p4, .double p5, .double p6, .double p7, .double p8, .double p9, .int ct, .int cp, .int cr, .int ctr, .int cfs, .int (nI k), .ref sh, .int (nI k2), .ref ra, .ref rr, .double po], rfl, ⟨by unfold okPose; simp [c4, c8], ⟨_, _, _, _, _, _, _, _, _, _, _, rfl⟩⟩, at_heap ht (hP 0 _ rfl)⟩, hS.F ht⟩) hS.2.2 dX7_pose_27
    · have c8 := bI_n.mp c8
      refine lv_iload_n hx hb dX7_pose_14 rfl (lv_at hl 3 rfl) ?_
      refine lv_iconst (v := 0) hx hb dX7_pose_15 (by decide) ?_
      refine lv_bipush (v := 11) hx hb dX7_pose_16 (by decide) ?_
      refine va_calli (va_runS (As := [.int wt, .int 0, .int 11]) (rest := []) ⟨hx, hb, hml, hown, hts⟩ (mX7_in l wt 0 11) (va_cwS 3 hts gX7_pose_X7_in rfl rfl rfl (by decide +kernel) ⟨Nat.le_of_ble_eq_true rfl, Nat.le_of_ble_eq_true rfl⟩) ⟨tB_blind, tB_go⟩ rfl rfl hl.1 rfl (lv_room (Nat.le_of_ble_eq_true rfl)) dX7_pose_18 ⟨Nat.le_of_ble_eq_true rfl, Nat.le_of_ble_eq_true rfl⟩) hS (fun q _ h => h.elim) (fun q h => h.elim) (fun r9 u10 t H locs ht hvm hp11 hB hz1 hk1 hS => ?_)
      have hP := fr_keep hP hk1 fr_nA
      have hR := fr_rd hR0 hS hnr
      subst hp11
      refine lv_if_ne (tgt := 28) hx hb dX7_pose_21 (by decide) (fun c12 => ?_) (fun c12 => ?_)
      · have c12 := bI_n.mp c12
        have HOKH := c4
        have hh9 : h = nI q := hq9 HOKH
        rw [hh9] at hl
        have HOKY := okC_c c8
        have hh : pB U V lx ly a b c y := ⟨kU, kV, klx, kly, ka, kb, kc, (cB_y HOKY).1⟩
        have hh1 : pB U V lx ly a b c (y - 1) := ⟨kU, kV, klx, kly, ka, kb, kc, (cB_y HOKY).2.1⟩
        have hh2 : pB U V lx ly a b c (y + 1) := ⟨kU, kV, klx, kly, ka, kb, kc, (cB_y HOKY).2.2⟩
        refine lv_iload_n hx hb dX7_pose_28 rfl (lv_at hl 3 rfl) ?_
        refine lv_bipush (v := 11) hx hb dX7_pose_29 (by decide) ?_
        refine lv_icmp_ne (tgt := 41) hx hb dX7_pose_31 (by decide) (fun c13 => ?_) (fun c13 => ?_)
        · have hwt := w_010 c12 c13
          refine lv_aload_n hx hb dX7_pose_41 rfl (lv_at hl 0 rfl) ?_
          refine lv_iload_n hx hb dX7_pose_42 rfl (lv_at hl 1 rfl) ?_
          refine lv_iload_n hx hb dX7_pose_43 rfl (lv_at hl 2 rfl) ?_
          have hq14 : va_P D vwCl [(mo, .inr (6, [.ref nu, .double p0, .double p1, .double p2, .double p3, .double p4, .double p5, .double p6, .double p7, .double p8, .double p9, .int ct, .int cp, .int cr, .int ctr, .int cfs, .int (nI k), .ref sh, .int (nI k2), .ref ra, .ref rr, .double po])), (nu, .inl (cI, 52, .inl N))] H := fr_cons (hP 0 _ rfl) (fr_cons (hR 0 _ rfl) (fr_nil))
          refine va_calli (va_runV (As := [.int (nI q), .int y]) (rest := []) ⟨hx, hb, hml, hown, hts⟩ (mX7_poses l D cI cH mo nu sh ra rr k k2 q N ct cp cr ctr cfs p0 p1 p2 p3 p4 p5 p6 p7 p8 p9 po U V lx ly a b c sd g d sx sy f y hqq hne hN hh hsd) (cwV 2 hts gX7_pose_X7_poses rfl rfl rfl (by decide +kernel) ⟨Nat.le_of_ble_eq_true rfl, Nat.le_of_ble_eq_true rfl⟩) ⟨kB_blind, va_recv hw.1 hq14 (ci := 6) (q0 := 0) rfl rfl, kB_go hq14 hw⟩ rfl rfl hl.1 rfl (lv_room (Nat.le_of_ble_eq_true rfl)) dX7_pose_44 ⟨Nat.le_of_ble_eq_true rfl, Nat.le_of_ble_eq_true rfl⟩) hS (fun q _ h => h) (fun q h => h) (fun r15 u16 t H locs ht hvm hp17 hB hz1 hk1 hS => ?_)
          have hB : va_at D vwCl (mo, .inr (6, u16)) t.heap := hB
          rw [ht] at hB
          have hP := fr_one hB
          have hR := fr_rd hR0 hS hnr
          rcases hp17 with ⟨rfl, hf, rfl⟩ | ⟨rfl, hnf, j18, j19, j20, j21, j22, j23, j24, j25, j26, j27, j28, rfl⟩
          · have h0 := hf.1
            have he := hf.2.1
            have hk := hf.2.2
            have hP : va_P D vwCl [(mo, .inr (6, [.ref nu, .double (tPx lx ly b y), .double (FP.i2d y), .double (tQx U V lx ly a b c sd y), .double (tQy U V lx ly a b c sd y), .double (tVx U V lx ly a b c sd y), .double (tVy U V lx ly a b c sd y), .double p6, .double p7, .double p8, .double p9, .int ct, .int cp, .int cr, .int ctr, .int cfs, .int (nI k), .ref sh, .int (nI k2), .ref ra, .ref rr, .double po]))] H := hP
            have hD : va_D (aE mo) [(mo, .inr (6, [.ref nu, .double (tPx lx ly b y), .double (FP.i2d y), .double (tQx U V lx ly a b c sd y), .double (tQy U V lx ly a b c sd y), .double (tVx U V lx ly a b c sd y), .double (tVy U V lx ly a b c sd y), .double p6, .double p7, .double p8, .double p9, .int ct, .int cp, .int cr, .int ctr, .int cfs, .int (nI k), .ref sh, .int (nI k2), .ref ra, .ref rr, .double po]))] := D_1 rfl
            refine lv_if_eq (tgt := 59) hx hb dX7_pose_47 (by decide) (fun c30 => absurd c30 (by decide)) (fun _ => ?_)
            refine lv_aload_n hx hb dX7_pose_50 rfl (lv_at hl 0 rfl) ?_
            refine lv_iload_n hx hb dX7_pose_51 rfl (lv_at hl 1 rfl) ?_
            refine lv_iload_n hx hb dX7_pose_52 rfl (lv_at hl 3 rfl) ?_
            have hq31 : va_P D vwCl [(mo, .inr (6, [.ref nu, .double (tPx lx ly b y), .double (FP.i2d y), .double (tQx U V lx ly a b c sd y), .double (tQy U V lx ly a b c sd y), .double (tVx U V lx ly a b c sd y), .double (tVy U V lx ly a b c sd y), .double p6, .double p7, .double p8, .double p9, .int ct, .int cp, .int cr, .int ctr, .int cfs, .int (nI k), .ref sh, .int (nI k2), .ref ra, .ref rr, .double po])), (nu, .inl (cI, 52, .inl N))] H := fr_cons (hP 0 _ rfl) (fr_cons (hR 0 _ rfl) (fr_nil))
            refine va_calll (va_runV (As := [.int (nI q), .int wt]) (rest := []) ⟨hx, hb, hml, hown, hts⟩ (mX7_told l D cI cH mo nu sh ra rr k k2 q N ct cp cr ctr cfs (tPx lx ly b y) (FP.i2d y) (tQx U V lx ly a b c sd y) (tQy U V lx ly a b c sd y) (tVx U V lx ly a b c sd y) (tVy U V lx ly a b c sd y) p6 p7 p8 p9 po U V lx ly a b c sd g d sx sy f wt hqq hne hN kU kV klx kly kg kd ksx ksy kf (gz_px hh h0) (gf_i2d 10 (yB_k hh.2.2.2.2.2.2.2)) (gz_qx hh h0 he hk hsd) (gz_qy hh h0 he hk hsd) (gz_vx hh h0 he hk hsd) (gz_vy hh h0 he hk hsd) hwt) (cwV 2 hts gX7_pose_X7_told rfl rfl rfl (by decide +kernel) ⟨Nat.le_of_ble_eq_true rfl, Nat.le_of_ble_eq_true rfl⟩) ⟨kB_blind, va_recv hw.1 hq31 (ci := 6) (q0 := 0) rfl rfl, kB_go hq31 hw⟩ rfl rfl hl.1 rfl (lv_room (Nat.le_of_ble_eq_true rfl)) dX7_pose_53 ⟨Nat.le_of_ble_eq_true rfl, Nat.le_of_ble_eq_true rfl⟩) hS (fun q _ h => h) (fun q h => h) (fun r32 u33 t H locs ht hvm hp34 hB hz1 hk1 hS => ?_)
            have hB : va_at D vwCl (mo, .inr (6, u33)) t.heap := hB
            rw [ht] at hB
            have hP := fr_one hB
            have hR := fr_rd hR0 hS hnr
            obtain ⟨rfl, j35, j36, j37, j38, j39, j40, j41, j42, j43, j44, j45, rfl⟩ := hp34
            have hP : va_P D vwCl [(mo, .inr (6, [.ref nu, .double j35, .double j36, .double j37, .double j38, .double j39, .double j40, .double j41, .double j42, .double j43, .double j44, .int ct, .int cp, .int cr, .int ctr, .int cfs, .int (nI k), .ref sh, .int (nI k2), .ref ra, .ref rr, .double j45]))] H := hP
            have hD : va_D (aE mo) [(mo, .inr (6, [.ref nu, .double j35, .double j36, .double j37, .double j38, .double j39, .double j40, .double j41, .double j42, .double j43, .double j44, .int ct, .int cp, .int cr, .int ctr, .int cfs, .int (nI k), .ref sh, .int (nI k2), .ref ra, .ref rr, .double j45]))] := D_1 rfl
            refine lv_goto (tgt := 62) hx hb dX7_pose_56 (by decide) ?_
            exact W.lret (v := sTel2 U V lx ly g d sx sy f (tPx lx ly b y) (FP.i2d y) (tQx U V lx ly a b c sd y) (tQy U V lx ly a b c sd y) (tVx U V lx ly a b c sd y) (tVy U V lx ly a b c sd y) wt) hx hb hr (fun t ht hW => ⟨⟨sTel2 U V lx ly g d sx sy f (tPx lx ly b y) (FP.i2d y) (tQx U V lx ly a b c sd y) (tQy U V lx ly a b c sd y) (tVx U V lx ly a b c sd y) (tVy U V lx ly a b c sd y) wt, [.ref nu, .double j35, .double j36, .double j37, .double j38, .double j39, .double j40, .double j41, .double j42, .double j43, .double j44, .int ct, .int cp, .int cr, .int ctr, .int cfs, .int (nI k), .ref sh, .int (nI k2), .ref ra, .ref rr, .double j45], rfl, ⟨by have hok : okPose h y wt = true := (by unfold okPose; simp [c4, c8, c12]); rw [hok, if_pos rfl]; exact (sPose_t c13 hf).symm, ⟨_, _, _, _, _, _, _, _, _, _, _, rfl⟩⟩, at_heap ht (hP 0 _ rfl)⟩, hS.F ht⟩) hS.2.2 dX7_pose_62
          · have hP : va_P D vwCl [(mo, .inr (6, [.ref nu, .double j18, .double j19, .double j20, .double j21, .double j22, .double j23, .double j24, .double j25, .double j26, .double j27, .int ct, .int cp, .int cr, .int ctr, .int cfs, .int (nI k), .ref sh, .int (nI k2), .ref ra, .ref rr, .double j28]))] H := hP
            have hD : va_D (aE mo) [(mo, .inr (6, [.ref nu, .double j18, .double j19, .double j20, .double j21, .double j22, .double j23, .double j24, .double j25, .double j26, .double j27, .int ct, .int cp, .int cr, .int ctr, .int cfs, .int (nI k), .ref sh, .int (nI k2), .ref ra, .ref rr, .double j28]))] := D_1 rfl
            refine lv_if_eq (tgt := 59) hx hb dX7_pose_47 (by decide) (fun _ => ?_) (fun c47 => absurd c47 (by decide))
            refine lv_ldc2 hx hb hown (hts (.constantLong RX7 93 (-1)) (by decide +kernel)) dX7_pose_59 ?_
            exact W.lret (v := (-1)) hx hb hr (fun t ht hW => ⟨⟨(-1), [.ref nu, .double j18, .double j19, .double j20, .double j21, .double j22, .double j23, .double j24, .double j25, .double j26, .double j27, .int ct, .int cp, .int cr, .int ctr, .int cfs, .int (nI k), .ref sh, .int (nI k2), .ref ra, .ref rr, .double j28], rfl, ⟨by have hok : okPose h y wt = true := (by unfold okPose; simp [c4, c8, c12]); rw [hok, if_pos rfl]; exact (sPose_f c13 hnf).symm, ⟨_, _, _, _, _, _, _, _, _, _, _, rfl⟩⟩, at_heap ht (hP 0 _ rfl)⟩, hS.F ht⟩) hS.2.2 dX7_pose_62
        · refine lv_aload_n hx hb dX7_pose_34 rfl (lv_at hl 0 rfl) ?_
          refine lv_iload_n hx hb dX7_pose_35 rfl (lv_at hl 1 rfl) ?_
          refine lv_iload_n hx hb dX7_pose_36 rfl (lv_at hl 2 rfl) ?_
          have hq48 : va_P D vwCl [(mo, .inr (6, [.ref nu, .double p0, .double p1, .double p2, .double p3, .double p4, .double p5, .double p6, .double p7, .double p8, .double p9, .int ct, .int cp, .int cr, .int ctr, .int cfs, .int (nI k), .ref sh, .int (nI k2), .ref ra, .ref rr, .double po])), (nu, .inl (cI, 52, .inl N))] H := fr_cons (hP 0 _ rfl) (fr_cons (hR 0 _ rfl) (fr_nil))
          refine va_calll (va_runV (As := [.int (nI q), .int y]) (rest := []) ⟨hx, hb, hml, hown, hts⟩ (mX7_share l D cI cH mo nu sh ra rr k k2 q N ct cp cr ctr cfs p0 p1 p2 p3 p4 p5 p6 p7 p8 p9 po U V lx ly a b c sd g d sx sy f y hqq hne hN hh1 hh2 hsd klx kly ksx ksy kf) (cwV 2 hts gX7_pose_X7_share rfl rfl rfl (by decide +kernel) ⟨Nat.le_of_ble_eq_true rfl, Nat.le_of_ble_eq_true rfl⟩) ⟨kB_blind, va_recv hw.1 hq48 (ci := 6) (q0 := 0) rfl rfl, kB_go hq48 hw⟩ rfl rfl hl.1 rfl (lv_room (Nat.le_of_ble_eq_true rfl)) dX7_pose_37 ⟨Nat.le_of_ble_eq_true rfl, Nat.le_of_ble_eq_true rfl⟩) hS (fun q _ h => h) (fun q h => h) (fun r49 u50 t H locs ht hvm hp51 hB hz1 hk1 hS => ?_)
          have hB : va_at D vwCl (mo, .inr (6, u50)) t.heap := hB
          rw [ht] at hB
          have hP := fr_one hB
          have hR := fr_rd hR0 hS hnr
          obtain ⟨rfl, j52, j53, j54, j55, j56, j57, j58, j59, j60, j61, j62, rfl⟩ := hp51
          have hP : va_P D vwCl [(mo, .inr (6, [.ref nu, .double j52, .double j53, .double j54, .double j55, .double j56, .double j57, .double j58, .double j59, .double j60, .double j61, .int ct, .int cp, .int cr, .int ctr, .int cfs, .int (nI k), .ref sh, .int (nI k2), .ref ra, .ref rr, .double j62]))] H := hP
          have hD : va_D (aE mo) [(mo, .inr (6, [.ref nu, .double j52, .double j53, .double j54, .double j55, .double j56, .double j57, .double j58, .double j59, .double j60, .double j61, .int ct, .int cp, .int cr, .int ctr, .int cfs, .int (nI k), .ref sh, .int (nI k2), .ref ra, .ref rr, .double j62]))] := D_1 rfl
          exact W.lret (v := sShare U V a lx ly b c sx sy f y) hx hb hr (fun t ht hW => ⟨⟨sShare U V a lx ly b c sx sy f y, [.ref nu, .double j52, .double j53, .double j54, .double j55, .double j56, .double j57, .double j58, .double j59, .double j60, .double j61, .int ct, .int cp, .int cr, .int ctr, .int cfs, .int (nI k), .ref sh, .int (nI k2), .ref ra, .ref rr, .double j62], rfl, ⟨by have hok : okPose h y wt = true := (by unfold okPose; simp [c4, c8, c12]); rw [hok, if_pos rfl]; first | exact (sPose_11 c13).symm | exact (sPose_11 (Decidable.not_not.mp c13)).symm, ⟨_, _, _, _, _, _, _, _, _, _, _, rfl⟩⟩, at_heap ht (hP 0 _ rfl)⟩, hS.F ht⟩) hS.2.2 dX7_pose_40
      · have c12 := bI_e.mp c12
        refine lv_ldc2 hx hb hown (hts (.constantLong RX7 110 (-2)) (by decide +kernel)) dX7_pose_24 ?_
        exact W.lret (v := (-2)) hx hb hr (fun t ht hW => ⟨⟨(-2), [.ref nu, .double p0, .double p1, .double p2, .double p3, .double p4, .double p5, .double p6, .double p7, .double p8, .double p9, .int ct, .int cp, .int cr, .int ctr, .int cfs, .int (nI k), .ref sh, .int (nI k2), .ref ra, .ref rr, .double po], rfl, ⟨by unfold okPose; simp [c4, c8, c12], ⟨_, _, _, _, _, _, _, _, _, _, _, rfl⟩⟩, at_heap ht (hP 0 _ rfl)⟩, hS.F ht⟩) hS.2.2 dX7_pose_27
set_option maxHeartbeats 4000000 in
set_option maxRecDepth 100000 in
theorem lpX7_lock {p : Program} {l : Launch} {e : Env} {s : State} {m : MethodId} {args : Array Value} {below : List Frame} {meth : Method} {co : Code} {Q : State → Prop} (D : va_G) (cI cH : ClassId) (hx : p.tables.exec = Jvm.exec) (hb : co.code = cX7_lock) (hml : co.maxLocals = 5) (hown : s.vm.findClass RX7 = some m.cls) (hts : ∀ w ∈ wsX7_lock, w.before args s = true) (hw : wk D cI cH s) {mo nu sh ra rr k k2 q : Nat} {N : Nat → Int32} {ct cp cr ctr cfs : Int32} {U V lx ly a b c sd g d sx sy f : Int32} {y1 R0 : Int32} (hqq : q < 4) (hne : nu ≠ mo) (hN : hasN N q U V lx ly a b c sd g d sx sy f) (hgb : hgB U V a lx ly b c sd g d sx sy f)  (hy1 : cB y1) (hR0 : va_P D vwCl [(nu, .inl (cI, 52, .inl N))] s.heap) (kz1 : ∀ (H : Heap) (locs : List Loc) (ls : Array Slot) (p0 p1 p2 p3 p4 p5 p6 p7 p8 p9 po : UInt64) (r : Int32), va_S (aE mo) s.heap H locs → va_P D vwCl [(mo, .inr (6, [.ref nu, .double p0, .double p1, .double p2, .double p3, .double p4, .double p5, .double p6, .double p7, .double p8, .double p9, .int ct, .int cp, .int cr, .int ctr, .int cfs, .int (nI k), .ref sh, .int (nI k2), .ref ra, .ref rr, .double po]))] H → r = R0 → W p l e ({ frames := 2, cells := 0, slots := 0, locals := 75 } : Room) s m args below meth co H locs 0 0 Q (F0 m 50 ls [.int r])) (kz2 : ∀ (H : Heap) (locs : List Loc) (ls : Array Slot) (p0 p1 p2 p3 p4 p5 p6 p7 p8 p9 po : UInt64), va_S (aE mo) s.heap H locs → va_P D vwCl [(mo, .inr (6, [.ref nu, .double p0, .double p1, .double p2, .double p3, .double p4, .double p5, .double p6, .double p7, .double p8, .double p9, .int ct, .int cp, .int cr, .int ctr, .int cfs, .int (nI k), .ref sh, .int (nI k2), .ref ra, .ref rr, .double po]))] H → -1 = R0 → W p l e ({ frames := 2, cells := 0, slots := 0, locals := 75 } : Room) s m args below meth co H locs 0 0 Q (F0 m 57 ls [])) : ∀ (n : Nat) (y : Int32) (H : Heap) (locs : List Loc) (ls : Array Slot) (p0 p1 p2 p3 p4 p5 p6 p7 p8 p9 po : UInt64), va_S (aE mo) s.heap H locs → va_P D vwCl [(mo, .inr (6, [.ref nu, .double p0, .double p1, .double p2, .double p3, .double p4, .double p5, .double p6, .double p7, .double p8, .double p9, .int ct, .int cp, .int cr, .int ctr, .int cfs, .int (nI k), .ref sh, .int (nI k2), .ref ra, .ref rr, .double po]))] H → y.toInt + n = y1.toInt + 1 ∧ -1000 ≤ y.toInt ∧ lockF (fun y => bFree U V lx ly a b c y) n y = R0 → lv_has ls 5 [(4, .int y), (3, .int y1), (1, .int (nI q)), (0, .ref mo)] → W p l e ({ frames := 2, cells := 0, slots := 0, locals := 75 } : Room) s m args below meth co H locs 0 0 Q (F0 m 32 ls []) := by
  have hinX7 : ∀ w ∈ wsX70, w ∈ wsX7_lock := by decide +kernel
  obtain ⟨hN0, hN1, hN2, hN3, hN4, hN5, hN6, hN7, hN8, hN9, hN10, hN11, hN12⟩ := id hN
  obtain ⟨kU, kV, ka, klx, kly, kb, kc, hsd, kg, kd, ksx, ksy, kf⟩ := id hgb
  have hnr : ∀ (k9 : Nat) (q : Nat × va_E), ([(nu, .inl (cI, 52, .inl N))] : va_W)[k9]? = some q → ¬ (aE mo) q.1 := nn_1 hne nn_0
  intro n
  induction n with
  | zero =>
    intro y H locs ls p0 p1 p2 p3 p4 p5 p6 p7 p8 p9 po hS hP hI hl
    obtain ⟨i1, i2, i3⟩ := hI
    have hD : va_D (aE mo) [(mo, .inr (6, [.ref nu, .double p0, .double p1, .double p2, .double p3, .double p4, .double p5, .double p6, .double p7, .double p8, .double p9, .int ct, .int cp, .int cr, .int ctr, .int cfs, .int (nI k), .ref sh, .int (nI k2), .ref ra, .ref rr, .double po]))] := D_1 rfl
    have hR := fr_rd hR0 hS hnr
    refine lv_iload hx hb dX7_lock_32 (lv_at hl 0 rfl) ?_
    refine lv_iload_n hx hb dX7_lock_34 rfl (lv_at hl 1 rfl) ?_
    refine lv_icmp_gt (tgt := 57) hx hb dX7_lock_35 (by decide) (fun c1 => ?_) (fun c1 => ?_)
    · have iw2 := Int32.not_le.mpr c1
      exact kz2 H locs ls p0 p1 p2 p3 p4 p5 p6 p7 p8 p9 po hS hP i3
    · have iw3 := Int32.not_lt.mp c1
      exact absurd (Int32.lt_iff_toInt_lt.mpr (by omega)) c1
  | succ n ih =>
    intro y H locs ls p0 p1 p2 p3 p4 p5 p6 p7 p8 p9 po hS hP hI hl
    obtain ⟨i1, i2, i3⟩ := hI
    have hy1b : y1.toInt ≤ 1000 := hy1.2
    have hyc : cB y := ⟨i2, by omega⟩
    have hh : pB U V lx ly a b c y := ⟨kU, kV, klx, kly, ka, kb, kc, (cB_y hyc).1⟩
    have hD : va_D (aE mo) [(mo, .inr (6, [.ref nu, .double p0, .double p1, .double p2, .double p3, .double p4, .double p5, .double p6, .double p7, .double p8, .double p9, .int ct, .int cp, .int cr, .int ctr, .int cfs, .int (nI k), .ref sh, .int (nI k2), .ref ra, .ref rr, .double po]))] := D_1 rfl
    have hR := fr_rd hR0 hS hnr
    refine lv_iload hx hb dX7_lock_32 (lv_at hl 0 rfl) ?_
    refine lv_iload_n hx hb dX7_lock_34 rfl (lv_at hl 1 rfl) ?_
    refine lv_icmp_gt (tgt := 57) hx hb dX7_lock_35 (by decide) (fun c1 => ?_) (fun c1 => ?_)
    · have iw2 := Int32.not_le.mpr c1
      exact absurd c1 (Int32.not_lt.mpr (Int32.le_iff_toInt_le.mpr (by omega)))
    · have iw3 := Int32.not_lt.mp c1
      refine lv_aload_n hx hb dX7_lock_38 rfl (lv_at hl 3 rfl) ?_
      refine lv_iload_n hx hb dX7_lock_39 rfl (lv_at hl 2 rfl) ?_
      refine lv_iload hx hb dX7_lock_40 (lv_at hl 0 rfl) ?_
      have hq4 : va_P D vwCl [(mo, .inr (6, [.ref nu, .double p0, .double p1, .double p2, .double p3, .double p4, .double p5, .double p6, .double p7, .double p8, .double p9, .int ct, .int cp, .int cr, .int ctr, .int cfs, .int (nI k), .ref sh, .int (nI k2), .ref ra, .ref rr, .double po])), (nu, .inl (cI, 52, .inl N))] H := fr_cons (hP 0 _ rfl) (fr_cons (hR 0 _ rfl) (fr_nil))
      refine va_calli (va_runV (As := [.int (nI q), .int y]) (rest := []) ⟨hx, hb, hml, hown, hts⟩ (mX7_poses l D cI cH mo nu sh ra rr k k2 q N ct cp cr ctr cfs p0 p1 p2 p3 p4 p5 p6 p7 p8 p9 po U V lx ly a b c sd g d sx sy f y hqq hne hN hh hsd) (cwV 2 hts gX7_lock_X7_poses rfl rfl rfl (by decide +kernel) ⟨Nat.le_of_ble_eq_true rfl, Nat.le_of_ble_eq_true rfl⟩) ⟨kB_blind, va_recv hw.1 hq4 (ci := 6) (q0 := 0) rfl rfl, kB_go hq4 hw⟩ rfl rfl hl.1 rfl (lv_room (Nat.le_of_ble_eq_true rfl)) dX7_lock_42 ⟨Nat.le_of_ble_eq_true rfl, Nat.le_of_ble_eq_true rfl⟩) hS (fun q _ h => h) (fun q h => h) (fun r5 u6 t H locs ht hvm hp7 hB hz1 hk1 hS => ?_)
      have hB : va_at D vwCl (mo, .inr (6, u6)) t.heap := hB
      rw [ht] at hB
      have hP := fr_one hB
      have hR := fr_rd hR0 hS hnr
      rcases hp7 with ⟨rfl, hfA, rfl⟩ | ⟨rfl, hnfA, j8, j9, j10, j11, j12, j13, j14, j15, j16, j17, j18, rfl⟩
      · have h0A := hfA.1
        have heA := hfA.2.1
        have hkA := hfA.2.2
        have hP : va_P D vwCl [(mo, .inr (6, [.ref nu, .double (tPx lx ly b y), .double (FP.i2d y), .double (tQx U V lx ly a b c sd y), .double (tQy U V lx ly a b c sd y), .double (tVx U V lx ly a b c sd y), .double (tVy U V lx ly a b c sd y), .double p6, .double p7, .double p8, .double p9, .int ct, .int cp, .int cr, .int ctr, .int cfs, .int (nI k), .ref sh, .int (nI k2), .ref ra, .ref rr, .double po]))] H := hP
        have hD : va_D (aE mo) [(mo, .inr (6, [.ref nu, .double (tPx lx ly b y), .double (FP.i2d y), .double (tQx U V lx ly a b c sd y), .double (tQy U V lx ly a b c sd y), .double (tVx U V lx ly a b c sd y), .double (tVy U V lx ly a b c sd y), .double p6, .double p7, .double p8, .double p9, .int ct, .int cp, .int cr, .int ctr, .int cfs, .int (nI k), .ref sh, .int (nI k2), .ref ra, .ref rr, .double po]))] := D_1 rfl
        refine lv_if_ne (tgt := 51) hx hb dX7_lock_45 (by decide) (fun _ => ?_) (fun c20 => absurd c20 (by decide))
        refine lv_iinc (v := y + 1) (lv' := [(4, .int (y + 1)), (3, .int y1), (1, .int (nI q)), (0, .ref mo)]) hx hb dX7_lock_51 hl (k := 0) rfl rfl (by decide) rfl (fun ls hl => ?_)
        refine lv_goto (tgt := 32) hx hb dX7_lock_54 (by decide) ?_
        have h9 : lv_has ls 5 [(4, .int (y + 1)), (3, .int y1), (1, .int (nI q)), (0, .ref mo)] := (lv_sub hl [0, 1, 2, 3] rfl)
        exact ih (y + 1) H locs ls (tPx lx ly b y) (FP.i2d y) (tQx U V lx ly a b c sd y) (tQy U V lx ly a b c sd y) (tVx U V lx ly a b c sd y) (tVy U V lx ly a b c sd y) p6 p7 p8 p9 po hS hP ⟨by rw [y_next hyc]; omega, by rw [y_next hyc]; omega, by rw [← i3]; exact (lockF_t (fr := (fun y => bFree U V lx ly a b c y)) (bFree_t hfA)).symm⟩ h9
      · have hP : va_P D vwCl [(mo, .inr (6, [.ref nu, .double j8, .double j9, .double j10, .double j11, .double j12, .double j13, .double j14, .double j15, .double j16, .double j17, .int ct, .int cp, .int cr, .int ctr, .int cfs, .int (nI k), .ref sh, .int (nI k2), .ref ra, .ref rr, .double j18]))] H := hP
        have hD : va_D (aE mo) [(mo, .inr (6, [.ref nu, .double j8, .double j9, .double j10, .double j11, .double j12, .double j13, .double j14, .double j15, .double j16, .double j17, .int ct, .int cp, .int cr, .int ctr, .int cfs, .int (nI k), .ref sh, .int (nI k2), .ref ra, .ref rr, .double j18]))] := D_1 rfl
        refine lv_if_ne (tgt := 51) hx hb dX7_lock_45 (by decide) (fun c22 => absurd c22 (by decide)) (fun _ => ?_)
        refine lv_iload hx hb dX7_lock_48 (lv_at hl 0 rfl) ?_
        exact kz1 H locs ls j8 j9 j10 j11 j12 j13 j14 j15 j16 j17 j18 y hS hP (by rw [← i3]; exact (lockF_f (fr := (fun y => bFree U V lx ly a b c y)) (bFree_f hnfA)).symm)
set_option maxHeartbeats 4000000 in
set_option maxRecDepth 100000 in
theorem mX7_lock (l : Launch) (D : va_G) (cI cH : ClassId) (mo nu sh ra rr k k2 q : Nat) (N : Nat → Int32) (ct cp cr ctr cfs : Int32) (p0 p1 p2 p3 p4 p5 p6 p7 p8 p9 po : UInt64) (U V lx ly a b c sd g d sx sy f : Int32) (h y0 y1 : Int32)  (hqq : q < 4) (hne : nu ≠ mo) (hN : hasN N q U V lx ly a b c sd g d sx sy f) (hgb : hgB U V a lx ly b c sd g d sx sy f) (hq9 : okH h = true → h = nI q) : Met l yX7_lock wsX7_lock ({ frames := 2, cells := 0, slots := 0, locals := 75 }) (va_Pc [.ref mo, .int h, .int y0, .int y1] (kB D cI cH [(mo, .inr (6, [.ref nu, .double p0, .double p1, .double p2, .double p3, .double p4, .double p5, .double p6, .double p7, .double p8, .double p9, .int ct, .int cp, .int cr, .int ctr, .int cfs, .int (nI k), .ref sh, .int (nI k2), .ref ra, .ref rr, .double po])), (nu, .inl (cI, 52, .inl N))])) (va_Qi (fun (r : Int32) (u : List Value) => r = (if okH h && okS y0 y1 then sLock U V a lx ly b c sd g d sx sy f y0 y1 else -2000) ∧ isM nu sh ra rr k k2 ct cp cr ctr cfs u) (fun u t => va_at D vwCl (mo, .inr (6, u)) t.heap) (aE mo)) 0 0 (aE mo) := by
  refine Met.ofW (cc := cX7_lock) (maxL := 5) (ret := (some .int)) (by decide) rfl ?_
  intro p e s m args below meth co s₁ B hml hv
  obtain ⟨rfl, hP0, hw⟩ := hv
  have hx := B.exec
  have hb := B.bytes
  have hr := B.returns
  have hts := atoms_spec (ws := wsX7_lock) B.pre
  have hown : s.vm.findClass RX7 = some m.cls := findClass_of_methodNamed B.named
  have hlocks := B.notSynchronized
  have hinX7 : ∀ w ∈ wsX70, w ∈ wsX7_lock := by decide +kernel
  have hS : va_S (aE mo) s.heap s.heap [] := va_S.rf
  have hP : va_P D vwCl [(mo, .inr (6, [.ref nu, .double p0, .double p1, .double p2, .double p3, .double p4, .double p5, .double p6, .double p7, .double p8, .double p9, .int ct, .int cp, .int cr, .int ctr, .int cfs, .int (nI k), .ref sh, .int (nI k2), .ref ra, .ref rr, .double po]))] s.heap := hP0.sub [0] rfl
  have hD : va_D (aE mo) [(mo, .inr (6, [.ref nu, .double p0, .double p1, .double p2, .double p3, .double p4, .double p5, .double p6, .double p7, .double p8, .double p9, .int ct, .int cp, .int cr, .int ctr, .int cfs, .int (nI k), .ref sh, .int (nI k2), .ref ra, .ref rr, .double po]))] := D_1 rfl
  have hR0 : va_P D vwCl [(nu, .inl (cI, 52, .inl N))] s.heap := hP0.sub [1] rfl
  have hR := hR0
  have hnr : ∀ (k9 : Nat) (q : Nat × va_E), ([(nu, .inl (cI, 52, .inl N))] : va_W)[k9]? = some q → ¬ (aE mo) q.1 := nn_1 hne nn_0
  obtain ⟨hN0, hN1, hN2, hN3, hN4, hN5, hN6, hN7, hN8, hN9, hN10, hN11, hN12⟩ := id hN
  obtain ⟨kU, kV, ka, klx, kly, kb, kc, hsd, kg, kd, ksx, ksy, kf⟩ := id hgb
  have hl := lv_entry ([.ref mo, .int h, .int y0, .int y1]) (n := 5) (Nat.le_of_ble_eq_true rfl)
  rw [lg_entry_eq]
  generalize (lg_sl ([.ref mo, .int h, .int y0, .int y1]) ++ List.replicate (5 - (lg_sl ([.ref mo, .int h, .int y0, .int y1])).length) Slot.unset).toArray = ls at hl ⊢
  have hl : lv_has ls 5 [(0, .ref mo), (1, .int h), (2, .int y0), (3, .int y1)] := hl
  skip
  refine lv_iload_n hx hb dX7_lock_0 rfl (lv_at hl 1 rfl) ?_
  refine va_calli (va_runS (As := [.int h]) (rest := []) ⟨hx, hb, hml, hown, hts⟩ (mX7_isHanging l h) (va_cwS 1 hts gX7_lock_X7_isHanging rfl rfl rfl (by decide +kernel) ⟨Nat.le_of_ble_eq_true rfl, Nat.le_of_ble_eq_true rfl⟩) ⟨tB_blind, tB_go⟩ rfl rfl hl.1 rfl (lv_room (Nat.le_of_ble_eq_true rfl)) dX7_lock_1 ⟨Nat.le_of_ble_eq_true rfl, Nat.le_of_ble_eq_true rfl⟩) hS (fun q _ h => h.elim) (fun q h => h.elim) (fun r1 u2 t H locs ht hvm hp3 hB hz1 hk1 hS => ?_)
  have hP := fr_keep hP hk1 fr_nA
  have hR := fr_rd hR0 hS hnr
  subst hp3
  refine lv_if_eq (tgt := 25) hx hb dX7_lock_4 (by decide) (fun c4 => ?_) (fun c4 => ?_)
  · have c4 := bI_e.mp c4
    refine lv_sipush (v := (-2000)) hx hb dX7_lock_25 (by decide) ?_
    exact W.iret (v := (-2000)) hx hb hr (fun t ht hW => ⟨⟨(-2000), [.ref nu, .double p0, .double p1, .double p2, .double p3, .double p4, .double p5, .double p6, .double p7, .double p8, .double p9, .int ct, .int cp, .int cr, .int ctr, .int cfs, .int (nI k), .ref sh, .int (nI k2), .ref ra, .ref rr, .double po], rfl, ⟨by rw [okS_m]; simp [c4], ⟨_, _, _, _, _, _, _, _, _, _, _, rfl⟩⟩, at_heap ht (hP 0 _ rfl)⟩, hS.F ht⟩) hS.2.2 dX7_lock_28
  · have c4 := bI_n.mp c4
    refine lv_iload_n hx hb dX7_lock_7 rfl (lv_at hl 2 rfl) ?_
    refine va_calli (va_runS (As := [.int y0]) (rest := []) ⟨hx, hb, hml, hown, hts⟩ (mX7_isAt l y0) (va_cwS 1 hts gX7_lock_X7_isAt rfl rfl rfl (by decide +kernel) ⟨Nat.le_of_ble_eq_true rfl, Nat.le_of_ble_eq_true rfl⟩) ⟨tB_blind, tB_go⟩ rfl rfl hl.1 rfl (lv_room (Nat.le_of_ble_eq_true rfl)) dX7_lock_8 ⟨Nat.le_of_ble_eq_true rfl, Nat.le_of_ble_eq_true rfl⟩) hS (fun q _ h => h.elim) (fun q h => h.elim) (fun r5 u6 t H locs ht hvm hp7 hB hz1 hk1 hS => ?_)
    have hP := fr_keep hP hk1 fr_nA
    have hR := fr_rd hR0 hS hnr
    subst hp7
    refine lv_if_eq (tgt := 25) hx hb dX7_lock_11 (by decide) (fun c8 => ?_) (fun c8 => ?_)
    · have c8 := bI_e.mp c8
      refine lv_sipush (v := (-2000)) hx hb dX7_lock_25 (by decide) ?_
      exact W.iret (v := (-2000)) hx hb hr (fun t ht hW => ⟨⟨(-2000), [.ref nu, .double p0, .double p1, .double p2, .double p3, .double p4, .double p5, .double p6, .double p7, .double p8, .double p9, .int ct, .int cp, .int cr, .int ctr, .int cfs, .int (nI k), .ref sh, .int (nI k2), .ref ra, .ref rr, .double po], rfl, ⟨by rw [okS_m]; simp [c4, c8], ⟨_, _, _, _, _, _, _, _, _, _, _, rfl⟩⟩, at_heap ht (hP 0 _ rfl)⟩, hS.F ht⟩) hS.2.2 dX7_lock_28
    · have c8 := bI_n.mp c8
      refine lv_iload_n hx hb dX7_lock_14 rfl (lv_at hl 3 rfl) ?_
      refine lv_iload_n hx hb dX7_lock_15 rfl (lv_at hl 2 rfl) ?_
      refine lv_sipush (v := 1000) hx hb dX7_lock_16 (by decide) ?_
      refine va_calli (va_runS (As := [.int y1, .int y0, .int 1000]) (rest := []) ⟨hx, hb, hml, hown, hts⟩ (mX7_in l y1 y0 1000) (va_cwS 3 hts gX7_lock_X7_in rfl rfl rfl (by decide +kernel) ⟨Nat.le_of_ble_eq_true rfl, Nat.le_of_ble_eq_true rfl⟩) ⟨tB_blind, tB_go⟩ rfl rfl hl.1 rfl (lv_room (Nat.le_of_ble_eq_true rfl)) dX7_lock_19 ⟨Nat.le_of_ble_eq_true rfl, Nat.le_of_ble_eq_true rfl⟩) hS (fun q _ h => h.elim) (fun q h => h.elim) (fun r9 u10 t H locs ht hvm hp11 hB hz1 hk1 hS => ?_)
      have hP := fr_keep hP hk1 fr_nA
      have hR := fr_rd hR0 hS hnr
      subst hp11
      refine lv_if_ne (tgt := 29) hx hb dX7_lock_22 (by decide) (fun c12 => ?_) (fun c12 => ?_)
      · have c12 := bI_n.mp c12
        have HOKH := c4
        have hh9 : h = nI q := hq9 HOKH
        rw [hh9] at hl
        refine lv_iload_n hx hb dX7_lock_29 rfl (lv_at hl 2 rfl) ?_
        refine lv_istore (lv' := [(4, .int y0), (0, .ref mo), (1, .int (nI q)), (2, .int y0), (3, .int y1)]) hx hb dX7_lock_30 hl (by decide) rfl (fun ls hl => ?_)
        have hoS : okS y0 y1 = true := by rw [okS_m, c8, c12]; rfl
        obtain ⟨hy0, hy1, hyy⟩ := okS_i hoS
        have h30 : lv_has ls 5 [(4, .int y0), (3, .int y1), (1, .int (nI q)), (0, .ref mo)] := (lv_sub hl [0, 4, 2, 1] rfl)
        refine lpX7_lock D cI cH (y1 := y1) (R0 := sLock U V a lx ly b c sd g d sx sy f y0 y1) hx hb hml hown hts hw hqq hne hN hgb hy1 hR0 (fun H locs ls p0 p1 p2 p3 p4 p5 p6 p7 p8 p9 po r hS hP hr0 => ?_) (fun H locs ls p0 p1 p2 p3 p4 p5 p6 p7 p8 p9 po hS hP hr0 => ?_) (y1.toInt - y0.toInt + 1).toNat y0 _ _ ls p0 p1 p2 p3 p4 p5 p6 p7 p8 p9 po hS hP ⟨by omega, hy0.1, rfl⟩ h30
        · exact W.iret (v := r) hx hb hr (fun t ht hW => ⟨⟨r, [.ref nu, .double p0, .double p1, .double p2, .double p3, .double p4, .double p5, .double p6, .double p7, .double p8, .double p9, .int ct, .int cp, .int cr, .int ctr, .int cfs, .int (nI k), .ref sh, .int (nI k2), .ref ra, .ref rr, .double po], rfl, ⟨by rw [HOKH, hoS]; exact hr0, ⟨_, _, _, _, _, _, _, _, _, _, _, rfl⟩⟩, at_heap ht (hP 0 _ rfl)⟩, hS.F ht⟩) hS.2.2 dX7_lock_50
        · refine lv_iconst (v := (-1)) hx hb dX7_lock_57 (by decide) ?_
          exact W.iret (v := (-1)) hx hb hr (fun t ht hW => ⟨⟨(-1), [.ref nu, .double p0, .double p1, .double p2, .double p3, .double p4, .double p5, .double p6, .double p7, .double p8, .double p9, .int ct, .int cp, .int cr, .int ctr, .int cfs, .int (nI k), .ref sh, .int (nI k2), .ref ra, .ref rr, .double po], rfl, ⟨by rw [HOKH, hoS]; exact hr0, ⟨_, _, _, _, _, _, _, _, _, _, _, rfl⟩⟩, at_heap ht (hP 0 _ rfl)⟩, hS.F ht⟩) hS.2.2 dX7_lock_58
      · have c12 := bI_e.mp c12
        refine lv_sipush (v := (-2000)) hx hb dX7_lock_25 (by decide) ?_
        exact W.iret (v := (-2000)) hx hb hr (fun t ht hW => ⟨⟨(-2000), [.ref nu, .double p0, .double p1, .double p2, .double p3, .double p4, .double p5, .double p6, .double p7, .double p8, .double p9, .int ct, .int cp, .int cr, .int ctr, .int cfs, .int (nI k), .ref sh, .int (nI k2), .ref ra, .ref rr, .double po], rfl, ⟨by rw [okS_m]; simp [c4, c8, c12], ⟨_, _, _, _, _, _, _, _, _, _, _, rfl⟩⟩, at_heap ht (hP 0 _ rfl)⟩, hS.F ht⟩) hS.2.2 dX7_lock_28
set_option maxHeartbeats 4000000 in
set_option maxRecDepth 100000 in
theorem mX7_isFree (l : Launch) (D : va_G) (cI cH : ClassId) (mo nu sh ra rr k k2 q : Nat) (N : Nat → Int32) (ct cp cr ctr cfs : Int32) (p0 p1 p2 p3 p4 p5 p6 p7 p8 p9 po : UInt64) (U V lx ly a b c sd g d sx sy f : Int32) (ox oy z : Int32)  (hqq : q < 4) (hne : nu ≠ mo) (hN : hasN N q U V lx ly a b c sd g d sx sy f) (kc : aB c) (kox : cB ox) (koy : cB oy) (kz : (z * z).toInt.natAbs ≤ 2 ^ 20) (g0 : fGr 1021 1086 p0) (g1 : fGr 1074 1084 p1) (g2 : fGr 888 1153 p2) (g3 : fGr 934 1152 p3) : Met l yX7_isFree wsX7_isFree ({ frames := 0, cells := 0, slots := 0, locals := 0 }) (va_Pc [.ref mo, .int (nI q), .int ox, .int oy, .int z] (kB D cI cH [(mo, .inr (6, [.ref nu, .double p0, .double p1, .double p2, .double p3, .double p4, .double p5, .double p6, .double p7, .double p8, .double p9, .int ct, .int cp, .int cr, .int ctr, .int cfs, .int (nI k), .ref sh, .int (nI k2), .ref ra, .ref rr, .double po])), (nu, .inl (cI, 52, .inl N))])) (va_Qi (fun (r : Int32) (u : Unit) => r = bI (decide (fv (FP.i2d (z * z)) ≤ fv (tSq c ox oy p0 p1 p2 p3)))) (fun _ _ => True) nA) 0 0 nA := by
  refine Met.ofW (cc := cX7_isFree) (maxL := 12) (ret := (some .boolean)) (by decide) rfl ?_
  intro p e s m args below meth co s₁ B hml hv
  obtain ⟨rfl, hP0, hw⟩ := hv
  have hx := B.exec
  have hb := B.bytes
  have hr := B.returns
  have hts := atoms_spec (ws := wsX7_isFree) B.pre
  have hown : s.vm.findClass RX7 = some m.cls := findClass_of_methodNamed B.named
  have hlocks := B.notSynchronized
  have hinX7 : ∀ w ∈ wsX70, w ∈ wsX7_isFree := by decide +kernel
  have hS : va_S nA s.heap s.heap [] := va_S.rf
  have hR0 : va_P D vwCl [(mo, .inr (6, [.ref nu, .double p0, .double p1, .double p2, .double p3, .double p4, .double p5, .double p6, .double p7, .double p8, .double p9, .int ct, .int cp, .int cr, .int ctr, .int cfs, .int (nI k), .ref sh, .int (nI k2), .ref ra, .ref rr, .double po])), (nu, .inl (cI, 52, .inl N))] s.heap := hP0.sub [0, 1] rfl
  have hR := hR0
  have hnr : ∀ (k9 : Nat) (q : Nat × va_E), ([(mo, .inr (6, [.ref nu, .double p0, .double p1, .double p2, .double p3, .double p4, .double p5, .double p6, .double p7, .double p8, .double p9, .int ct, .int cp, .int cr, .int ctr, .int cfs, .int (nI k), .ref sh, .int (nI k2), .ref ra, .ref rr, .double po])), (nu, .inl (cI, 52, .inl N))] : va_W)[k9]? = some q → ¬ nA q.1 := fr_nA
  obtain ⟨hN0, hN1, hN2, hN3, hN4, hN5, hN6, hN7, hN8, hN9, hN10, hN11, hN12⟩ := id hN
  have hl := lv_entry ([.ref mo, .int (nI q), .int ox, .int oy, .int z]) (n := 12) (Nat.le_of_ble_eq_true rfl)
  rw [lg_entry_eq]
  generalize (lg_sl ([.ref mo, .int (nI q), .int ox, .int oy, .int z]) ++ List.replicate (12 - (lg_sl ([.ref mo, .int (nI q), .int ox, .int oy, .int z])).length) Slot.unset).toArray = ls at hl ⊢
  have hl : lv_has ls 12 [(0, .ref mo), (1, .int (nI q)), (2, .int ox), (3, .int oy), (4, .int z)] := hl
  skip
  refine lv_aload_n hx hb dX7_isFree_0 rfl (lv_at hl 0 rfl) ?_
  refine va_get (D := D) (ci := 6) (v := .ref nu) (C := RX7) (T := TX7) (N := 22) hx hb hts hinX7 hown hw.1 hR 0 rfl rfl 0 (by decide) (hts (.fieldLink RX7 19 "WheelSwingModel" "number" "[I") (by decide +kernel)) (fun _ h9 => h9) rfl dX7_isFree_1 ?_
  refine lv_bipush (v := 13) hx hb dX7_isFree_4 (by decide) ?_
  refine lv_iload_n hx hb dX7_isFree_6 rfl (lv_at hl 1 rfl) ?_
  refine lv_imul hx hb dX7_isFree_7 ?_
  rw [nI_m13]
  refine lv_bipush (v := 6) hx hb dX7_isFree_8 (by decide) ?_
  refine lv_iadd hx hb dX7_isFree_10 ?_
  rw [nI_ad6]
  refine va_iald hx hb hw.1 hR 1 0 rfl rfl (vp_in_nI (by omega) (by omega)) dX7_isFree_11 ?_
  rw [nI_clamp (n := 13 * q + 6) (by omega), hN6]
  refine lv_istore (lv' := [(5, .int c), (0, .ref mo), (1, .int (nI q)), (2, .int ox), (3, .int oy), (4, .int z)]) hx hb dX7_isFree_12 hl (by decide) rfl (fun ls hl => ?_)
  refine lv_iload_n hx hb dX7_isFree_14 rfl (lv_at hl 3 rfl) ?_
  refine lv_i2d hx hb dX7_isFree_15 ?_
  have gw1 := gf_i2d 10 (cB_k kox)
  refine lv_aload_n hx hb dX7_isFree_16 rfl (lv_at hl 1 rfl) ?_
  refine va_get (D := D) (ci := 6) (v := .double p0) (C := RX7) (T := TX7) (N := 22) hx hb hts hinX7 hown hw.1 hR 0 rfl rfl 1 (by decide) (hts (.fieldLink RX7 56 "WheelSwingModel" "px" "D") (by decide +kernel)) (fun _ h9 => h9) rfl dX7_isFree_17 ?_
  have gw2 := gf_sub 1021 1087 gw1 g0 (Nat.le_of_ble_eq_true rfl) (Nat.le_of_ble_eq_true rfl) (Nat.le_of_ble_eq_true rfl) (Nat.le_of_ble_eq_true rfl) (Nat.le_of_ble_eq_true rfl)
  refine lv_dsub hx hb dX7_isFree_20 (gf_n64 gw2) ?_
  refine lv_topd (fun v3 ev3 => ?_)
  rw [← ev3] at gw2
  refine lv_aload_n hx hb dX7_isFree_21 rfl (lv_at hl 1 rfl) ?_
  refine va_get (D := D) (ci := 6) (v := .double p2) (C := RX7) (T := TX7) (N := 22) hx hb hts hinX7 hown hw.1 hR 0 rfl rfl 3 (by decide) (hts (.fieldLink RX7 63 "WheelSwingModel" "qx" "D") (by decide +kernel)) (fun _ h9 => h9) rfl dX7_isFree_22 ?_
  refine lv_aload_n hx hb dX7_isFree_25 rfl (lv_at hl 1 rfl) ?_
  refine va_get (D := D) (ci := 6) (v := .double p0) (C := RX7) (T := TX7) (N := 22) hx hb hts hinX7 hown hw.1 hR 0 rfl rfl 1 (by decide) (hts (.fieldLink RX7 56 "WheelSwingModel" "px" "D") (by decide +kernel)) (fun _ h9 => h9) rfl dX7_isFree_26 ?_
  have gw4 := gf_sub 888 1154 g2 g0 (Nat.le_of_ble_eq_true rfl) (Nat.le_of_ble_eq_true rfl) (Nat.le_of_ble_eq_true rfl) (Nat.le_of_ble_eq_true rfl) (Nat.le_of_ble_eq_true rfl)
  refine lv_dsub hx hb dX7_isFree_29 (gf_n64 gw4) ?_
  refine lv_topd (fun v5 ev5 => ?_)
  rw [← ev5] at gw4
  have gw6 := gf_mul 835 1167 gw2 gw4 (Nat.le_of_ble_eq_true rfl) (Nat.le_of_ble_eq_true rfl) (Nat.le_of_ble_eq_true rfl)
  refine lv_dmul hx hb dX7_isFree_30 (gf_n64 gw6) ?_
  refine lv_topd (fun v7 ev7 => ?_)
  rw [← ev7] at gw6
  refine lv_iload_n hx hb dX7_isFree_31 rfl (lv_at hl 4 rfl) ?_
  refine lv_i2d hx hb dX7_isFree_32 ?_
  have gw8 := gf_i2d 10 (cB_k koy)
  refine lv_aload_n hx hb dX7_isFree_33 rfl (lv_at hl 1 rfl) ?_
  refine va_get (D := D) (ci := 6) (v := .double p1) (C := RX7) (T := TX7) (N := 22) hx hb hts hinX7 hown hw.1 hR 0 rfl rfl 2 (by decide) (hts (.fieldLink RX7 60 "WheelSwingModel" "py" "D") (by decide +kernel)) (fun _ h9 => h9) rfl dX7_isFree_34 ?_
  have gw9 := gf_sub 1074 1085 gw8 g1 (Nat.le_of_ble_eq_true rfl) (Nat.le_of_ble_eq_true rfl) (Nat.le_of_ble_eq_true rfl) (Nat.le_of_ble_eq_true rfl) (Nat.le_of_ble_eq_true rfl)
  refine lv_dsub hx hb dX7_isFree_37 (gf_n64 gw9) ?_
  refine lv_topd (fun v10 ev10 => ?_)
  rw [← ev10] at gw9
  refine lv_aload_n hx hb dX7_isFree_38 rfl (lv_at hl 1 rfl) ?_
  refine va_get (D := D) (ci := 6) (v := .double p3) (C := RX7) (T := TX7) (N := 22) hx hb hts hinX7 hown hw.1 hR 0 rfl rfl 4 (by decide) (hts (.fieldLink RX7 66 "WheelSwingModel" "qy" "D") (by decide +kernel)) (fun _ h9 => h9) rfl dX7_isFree_39 ?_
  refine lv_aload_n hx hb dX7_isFree_42 rfl (lv_at hl 1 rfl) ?_
  refine va_get (D := D) (ci := 6) (v := .double p1) (C := RX7) (T := TX7) (N := 22) hx hb hts hinX7 hown hw.1 hR 0 rfl rfl 2 (by decide) (hts (.fieldLink RX7 60 "WheelSwingModel" "py" "D") (by decide +kernel)) (fun _ h9 => h9) rfl dX7_isFree_43 ?_
  have gw11 := gf_sub 934 1153 g3 g1 (Nat.le_of_ble_eq_true rfl) (Nat.le_of_ble_eq_true rfl) (Nat.le_of_ble_eq_true rfl) (Nat.le_of_ble_eq_true rfl) (Nat.le_of_ble_eq_true rfl)
  refine lv_dsub hx hb dX7_isFree_46 (gf_n64 gw11) ?_
  refine lv_topd (fun v12 ev12 => ?_)
  rw [← ev12] at gw11
  have gw13 := gf_mul 934 1164 gw9 gw11 (Nat.le_of_ble_eq_true rfl) (Nat.le_of_ble_eq_true rfl) (Nat.le_of_ble_eq_true rfl)
  refine lv_dmul hx hb dX7_isFree_47 (gf_n64 gw13) ?_
  refine lv_topd (fun v14 ev14 => ?_)
  rw [← ev14] at gw13
  have gw15 := gf_add 835 1168 gw6 gw13 (Nat.le_of_ble_eq_true rfl) (Nat.le_of_ble_eq_true rfl) (Nat.le_of_ble_eq_true rfl) (Nat.le_of_ble_eq_true rfl) (Nat.le_of_ble_eq_true rfl)
  refine lv_dadd hx hb dX7_isFree_48 (gf_n64 gw15) ?_
  refine lv_topd (fun v16 ev16 => ?_)
  rw [← ev16] at gw15
  refine lv_iload hx hb dX7_isFree_49 (lv_at hl 0 rfl) ?_
  refine lv_iload hx hb dX7_isFree_51 (lv_at hl 0 rfl) ?_
  refine lv_imul hx hb dX7_isFree_53 ?_
  refine lv_i2d hx hb dX7_isFree_54 ?_
  have gw17 := gf_i2d 20 (cc_k kc)
  have gw18 := gf_div 763 1168 gw15 gw17 (cc_ne kc) (Nat.le_of_ble_eq_true rfl) (Nat.le_of_ble_eq_true rfl) (Nat.le_of_ble_eq_true rfl)
  refine lv_ddiv hx hb dX7_isFree_55 (gf_n64 gw18) ?_
  refine lv_topd (fun v19 ev19 => ?_)
  rw [← ev19] at gw18
  have fv19 : v19 = tT0 c ox oy p0 p1 p2 p3 := by rw [ev19, ev16, ev14, ev12, ev10, ev7, ev5, ev3]; try rfl
  clear ev19 gw18
  subst fv19
  refine lv_dstore (lv' := [(6, .double (tT0 c ox oy p0 p1 p2 p3)), (5, .int c), (0, .ref mo), (1, .int (nI q)), (2, .int ox), (3, .int oy), (4, .int z)]) hx hb dX7_isFree_56 hl (by decide) rfl (fun ls hl => ?_)
  refine lv_dload hx hb dX7_isFree_58 (lv_at hl 0 rfl) ?_
  refine lv_dconst0 hx hb dX7_isFree_60 ?_
  refine lv_dcmp hx hb dX7_isFree_61 ?_
  rw [fp_cv (gz_t0 kc kox koy g0 g1 g2 g3).1 gf_c0.1]
  refine lv_if_ge (tgt := 69) hx hb dX7_isFree_62 (by decide) (fun c20 => ?_) (fun c20 => ?_)
  · rw [fcv_ge] at c20
    refine lv_dload hx hb dX7_isFree_69 (lv_at hl 0 rfl) ?_
    refine lv_dconst1 hx hb dX7_isFree_71 ?_
    refine lv_dcmp hx hb dX7_isFree_72 ?_
    rw [fp_cv (gz_t0 kc kox koy g0 g1 g2 g3).1 gf_c1.1]
    refine lv_if_le (tgt := 80) hx hb dX7_isFree_73 (by decide) (fun c21 => ?_) (fun c21 => ?_)
    · rw [fcv_le] at c21
      refine lv_dload hx hb dX7_isFree_80 (lv_at hl 0 rfl) ?_
      refine lv_topd (fun vv evv => ?_)
      have evv : vv = tI (tT0 c ox oy p0 p1 p2 p3) := evv.trans (tI_in c20 c21)
      subst evv
      refine lv_dstore (lv' := [(6, .double (tI (tT0 c ox oy p0 p1 p2 p3))), (5, .int c), (0, .ref mo), (1, .int (nI q)), (2, .int ox), (3, .int oy), (4, .int z)]) hx hb dX7_isFree_82 hl (by decide) rfl (fun ls hl => ?_)
      refine lv_iload_n hx hb dX7_isFree_84 rfl (lv_at hl 4 rfl) ?_
      refine lv_i2d hx hb dX7_isFree_85 ?_
      have gw22 := gf_i2d 10 (cB_k kox)
      refine lv_aload_n hx hb dX7_isFree_86 rfl (lv_at hl 2 rfl) ?_
      refine va_get (D := D) (ci := 6) (v := .double p0) (C := RX7) (T := TX7) (N := 22) hx hb hts hinX7 hown hw.1 hR 0 rfl rfl 1 (by decide) (hts (.fieldLink RX7 56 "WheelSwingModel" "px" "D") (by decide +kernel)) (fun _ h9 => h9) rfl dX7_isFree_87 ?_
      refine lv_dload hx hb dX7_isFree_90 (lv_at hl 0 rfl) ?_
      refine lv_aload_n hx hb dX7_isFree_92 rfl (lv_at hl 2 rfl) ?_
      refine va_get (D := D) (ci := 6) (v := .double p2) (C := RX7) (T := TX7) (N := 22) hx hb hts hinX7 hown hw.1 hR 0 rfl rfl 3 (by decide) (hts (.fieldLink RX7 63 "WheelSwingModel" "qx" "D") (by decide +kernel)) (fun _ h9 => h9) rfl dX7_isFree_93 ?_
      refine lv_aload_n hx hb dX7_isFree_96 rfl (lv_at hl 2 rfl) ?_
      refine va_get (D := D) (ci := 6) (v := .double p0) (C := RX7) (T := TX7) (N := 22) hx hb hts hinX7 hown hw.1 hR 0 rfl rfl 1 (by decide) (hts (.fieldLink RX7 56 "WheelSwingModel" "px" "D") (by decide +kernel)) (fun _ h9 => h9) rfl dX7_isFree_97 ?_
      have gw23 := gf_sub 888 1154 g2 g0 (Nat.le_of_ble_eq_true rfl) (Nat.le_of_ble_eq_true rfl) (Nat.le_of_ble_eq_true rfl) (Nat.le_of_ble_eq_true rfl) (Nat.le_of_ble_eq_true rfl)
      refine lv_dsub hx hb dX7_isFree_100 (gf_n64 gw23) ?_
      refine lv_topd (fun v24 ev24 => ?_)
      rw [← ev24] at gw23
      have gw25 := gf_mul 577 1248 (gz_ti (gz_t0 kc kox koy g0 g1 g2 g3)) gw23 (Nat.le_of_ble_eq_true rfl) (Nat.le_of_ble_eq_true rfl) (Nat.le_of_ble_eq_true rfl)
      refine lv_dmul hx hb dX7_isFree_101 (gf_n64 gw25) ?_
      refine lv_topd (fun v26 ev26 => ?_)
      rw [← ev26] at gw25
      have gw27 := gf_add 577 1249 g0 gw25 (Nat.le_of_ble_eq_true rfl) (Nat.le_of_ble_eq_true rfl) (Nat.le_of_ble_eq_true rfl) (Nat.le_of_ble_eq_true rfl) (Nat.le_of_ble_eq_true rfl)
      refine lv_dadd hx hb dX7_isFree_102 (gf_n64 gw27) ?_
      refine lv_topd (fun v28 ev28 => ?_)
      rw [← ev28] at gw27
      have gw29 := gf_sub 577 1250 gw22 gw27 (Nat.le_of_ble_eq_true rfl) (Nat.le_of_ble_eq_true rfl) (Nat.le_of_ble_eq_true rfl) (Nat.le_of_ble_eq_true rfl) (Nat.le_of_ble_eq_true rfl)
      refine lv_dsub hx hb dX7_isFree_103 (gf_n64 gw29) ?_
      refine lv_topd (fun v30 ev30 => ?_)
      rw [← ev30] at gw29
      have fv30 : v30 = tAx ox p0 p2 (tI (tT0 c ox oy p0 p1 p2 p3)) := by rw [ev30, ev28, ev26, ev24]; try rfl
      clear ev30 gw29
      subst fv30
      refine lv_dstore (lv' := [(8, .double (tAx ox p0 p2 (tI (tT0 c ox oy p0 p1 p2 p3)))), (6, .double (tI (tT0 c ox oy p0 p1 p2 p3))), (5, .int c), (0, .ref mo), (1, .int (nI q)), (2, .int ox), (3, .int oy), (4, .int z)]) hx hb dX7_isFree_104 hl (by decide) rfl (fun ls hl => ?_)
      refine lv_iload_n hx hb dX7_isFree_106 rfl (lv_at hl 6 rfl) ?_
      refine lv_i2d hx hb dX7_isFree_107 ?_
      have gw31 := gf_i2d 10 (cB_k koy)
      refine lv_aload_n hx hb dX7_isFree_108 rfl (lv_at hl 3 rfl) ?_
      refine va_get (D := D) (ci := 6) (v := .double p1) (C := RX7) (T := TX7) (N := 22) hx hb hts hinX7 hown hw.1 hR 0 rfl rfl 2 (by decide) (hts (.fieldLink RX7 60 "WheelSwingModel" "py" "D") (by decide +kernel)) (fun _ h9 => h9) rfl dX7_isFree_109 ?_
      refine lv_dload hx hb dX7_isFree_112 (lv_at hl 1 rfl) ?_
      refine lv_aload_n hx hb dX7_isFree_114 rfl (lv_at hl 3 rfl) ?_
      refine va_get (D := D) (ci := 6) (v := .double p3) (C := RX7) (T := TX7) (N := 22) hx hb hts hinX7 hown hw.1 hR 0 rfl rfl 4 (by decide) (hts (.fieldLink RX7 66 "WheelSwingModel" "qy" "D") (by decide +kernel)) (fun _ h9 => h9) rfl dX7_isFree_115 ?_
      refine lv_aload_n hx hb dX7_isFree_118 rfl (lv_at hl 3 rfl) ?_
      refine va_get (D := D) (ci := 6) (v := .double p1) (C := RX7) (T := TX7) (N := 22) hx hb hts hinX7 hown hw.1 hR 0 rfl rfl 2 (by decide) (hts (.fieldLink RX7 60 "WheelSwingModel" "py" "D") (by decide +kernel)) (fun _ h9 => h9) rfl dX7_isFree_119 ?_
      have gw32 := gf_sub 934 1153 g3 g1 (Nat.le_of_ble_eq_true rfl) (Nat.le_of_ble_eq_true rfl) (Nat.le_of_ble_eq_true rfl) (Nat.le_of_ble_eq_true rfl) (Nat.le_of_ble_eq_true rfl)
      refine lv_dsub hx hb dX7_isFree_122 (gf_n64 gw32) ?_
      refine lv_topd (fun v33 ev33 => ?_)
      rw [← ev33] at gw32
      have gw34 := gf_mul 623 1247 (gz_ti (gz_t0 kc kox koy g0 g1 g2 g3)) gw32 (Nat.le_of_ble_eq_true rfl) (Nat.le_of_ble_eq_true rfl) (Nat.le_of_ble_eq_true rfl)
      refine lv_dmul hx hb dX7_isFree_123 (gf_n64 gw34) ?_
      refine lv_topd (fun v35 ev35 => ?_)
      rw [← ev35] at gw34
      have gw36 := gf_add 623 1248 g1 gw34 (Nat.le_of_ble_eq_true rfl) (Nat.le_of_ble_eq_true rfl) (Nat.le_of_ble_eq_true rfl) (Nat.le_of_ble_eq_true rfl) (Nat.le_of_ble_eq_true rfl)
      refine lv_dadd hx hb dX7_isFree_124 (gf_n64 gw36) ?_
      refine lv_topd (fun v37 ev37 => ?_)
      rw [← ev37] at gw36
      have gw38 := gf_sub 623 1249 gw31 gw36 (Nat.le_of_ble_eq_true rfl) (Nat.le_of_ble_eq_true rfl) (Nat.le_of_ble_eq_true rfl) (Nat.le_of_ble_eq_true rfl) (Nat.le_of_ble_eq_true rfl)
      refine lv_dsub hx hb dX7_isFree_125 (gf_n64 gw38) ?_
      refine lv_topd (fun v39 ev39 => ?_)
      rw [← ev39] at gw38
      have fv39 : v39 = tAx oy p1 p3 (tI (tT0 c ox oy p0 p1 p2 p3)) := by rw [ev39, ev37, ev35, ev33]; try rfl
      clear ev39 gw38
      subst fv39
      refine lv_dstore (lv' := [(10, .double (tAx oy p1 p3 (tI (tT0 c ox oy p0 p1 p2 p3)))), (8, .double (tAx ox p0 p2 (tI (tT0 c ox oy p0 p1 p2 p3)))), (6, .double (tI (tT0 c ox oy p0 p1 p2 p3))), (5, .int c), (0, .ref mo), (1, .int (nI q)), (2, .int ox), (3, .int oy), (4, .int z)]) hx hb dX7_isFree_126 hl (by decide) rfl (fun ls hl => ?_)
      refine lv_dload hx hb dX7_isFree_128 (lv_at hl 1 rfl) ?_
      refine lv_dload hx hb dX7_isFree_130 (lv_at hl 1 rfl) ?_
      have gw40 := gf_mul 80 1426 (gz_ax0 kc kox koy g0 g1 g2 g3) (gz_ax0 kc kox koy g0 g1 g2 g3) (Nat.le_of_ble_eq_true rfl) (Nat.le_of_ble_eq_true rfl) (Nat.le_of_ble_eq_true rfl)
      refine lv_dmul hx hb dX7_isFree_132 (gf_n64 gw40) ?_
      refine lv_topd (fun v41 ev41 => ?_)
      rw [← ev41] at gw40
      refine lv_dload hx hb dX7_isFree_133 (lv_at hl 0 rfl) ?_
      refine lv_dload hx hb dX7_isFree_135 (lv_at hl 0 rfl) ?_
      have gw42 := gf_mul 172 1424 (gz_ay0 kc kox koy g0 g1 g2 g3) (gz_ay0 kc kox koy g0 g1 g2 g3) (Nat.le_of_ble_eq_true rfl) (Nat.le_of_ble_eq_true rfl) (Nat.le_of_ble_eq_true rfl)
      refine lv_dmul hx hb dX7_isFree_137 (gf_n64 gw42) ?_
      refine lv_topd (fun v43 ev43 => ?_)
      rw [← ev43] at gw42
      have gw44 := gf_add 80 1427 gw40 gw42 (Nat.le_of_ble_eq_true rfl) (Nat.le_of_ble_eq_true rfl) (Nat.le_of_ble_eq_true rfl) (Nat.le_of_ble_eq_true rfl) (Nat.le_of_ble_eq_true rfl)
      refine lv_dadd hx hb dX7_isFree_138 (gf_n64 gw44) ?_
      refine lv_topd (fun v45 ev45 => ?_)
      rw [← ev45] at gw44
      have fv45 : v45 = tSq c ox oy p0 p1 p2 p3 := by rw [ev45, ev43, ev41]; try rfl
      clear ev45 gw44
      subst fv45
      refine lv_iload hx hb dX7_isFree_139 (lv_at hl 8 rfl) ?_
      refine lv_iload hx hb dX7_isFree_141 (lv_at hl 8 rfl) ?_
      refine lv_imul hx hb dX7_isFree_143 ?_
      refine lv_i2d hx hb dX7_isFree_144 ?_
      have gw46 := gf_i2d 20 kz
      refine lv_dcmp hx hb dX7_isFree_145 ?_
      rw [fp_cv (gz_sq kc kox koy g0 g1 g2 g3).1 gw46.1]
      refine lv_if_lt (tgt := 153) hx hb dX7_isFree_146 (by decide) (fun c47 => ?_) (fun c47 => ?_)
      · rw [fcv_lt] at c47
        refine lv_iconst (v := 0) hx hb dX7_isFree_153 (by decide) ?_
        exact W.zret (v := 0) hx hb hr rfl (fun t ht hW => ⟨⟨0, (), rfl, (by dsimp only; first | rw [decide_eq_true c47]; rfl | rw [decide_eq_false c47]; rfl | (rw [decide_eq_false (Int.not_le.mpr c47)]; rfl) | (rw [decide_eq_true (Int.not_lt.mp c47)]; rfl)), trivial⟩, hS.F ht⟩) hS.2.2 dX7_isFree_154
      · rw [fcv_lt] at c47
        refine lv_iconst (v := 1) hx hb dX7_isFree_149 (by decide) ?_
        refine lv_goto (tgt := 154) hx hb dX7_isFree_150 (by decide) ?_
        exact W.zret (v := 1) hx hb hr rfl (fun t ht hW => ⟨⟨1, (), rfl, (by dsimp only; first | rw [decide_eq_true c47]; rfl | rw [decide_eq_false c47]; rfl | (rw [decide_eq_false (Int.not_le.mpr c47)]; rfl) | (rw [decide_eq_true (Int.not_lt.mp c47)]; rfl)), trivial⟩, hS.F ht⟩) hS.2.2 dX7_isFree_154
    · rw [fcv_le] at c21
      refine lv_dconst1 hx hb dX7_isFree_76 ?_
      refine lv_goto (tgt := 82) hx hb dX7_isFree_77 (by decide) ?_
      refine lv_topd (fun vv evv => ?_)
      have evv : vv = tI (tT0 c ox oy p0 p1 p2 p3) := evv.trans (tI_gt c20 c21)
      subst evv
      refine lv_dstore (lv' := [(6, .double (tI (tT0 c ox oy p0 p1 p2 p3))), (5, .int c), (0, .ref mo), (1, .int (nI q)), (2, .int ox), (3, .int oy), (4, .int z)]) hx hb dX7_isFree_82 hl (by decide) rfl (fun ls hl => ?_)
      refine lv_iload_n hx hb dX7_isFree_84 rfl (lv_at hl 4 rfl) ?_
      refine lv_i2d hx hb dX7_isFree_85 ?_
      have gw48 := gf_i2d 10 (cB_k kox)
      refine lv_aload_n hx hb dX7_isFree_86 rfl (lv_at hl 2 rfl) ?_
      refine va_get (D := D) (ci := 6) (v := .double p0) (C := RX7) (T := TX7) (N := 22) hx hb hts hinX7 hown hw.1 hR 0 rfl rfl 1 (by decide) (hts (.fieldLink RX7 56 "WheelSwingModel" "px" "D") (by decide +kernel)) (fun _ h9 => h9) rfl dX7_isFree_87 ?_
      refine lv_dload hx hb dX7_isFree_90 (lv_at hl 0 rfl) ?_
      refine lv_aload_n hx hb dX7_isFree_92 rfl (lv_at hl 2 rfl) ?_
      refine va_get (D := D) (ci := 6) (v := .double p2) (C := RX7) (T := TX7) (N := 22) hx hb hts hinX7 hown hw.1 hR 0 rfl rfl 3 (by decide) (hts (.fieldLink RX7 63 "WheelSwingModel" "qx" "D") (by decide +kernel)) (fun _ h9 => h9) rfl dX7_isFree_93 ?_
      refine lv_aload_n hx hb dX7_isFree_96 rfl (lv_at hl 2 rfl) ?_
      refine va_get (D := D) (ci := 6) (v := .double p0) (C := RX7) (T := TX7) (N := 22) hx hb hts hinX7 hown hw.1 hR 0 rfl rfl 1 (by decide) (hts (.fieldLink RX7 56 "WheelSwingModel" "px" "D") (by decide +kernel)) (fun _ h9 => h9) rfl dX7_isFree_97 ?_
      have gw49 := gf_sub 888 1154 g2 g0 (Nat.le_of_ble_eq_true rfl) (Nat.le_of_ble_eq_true rfl) (Nat.le_of_ble_eq_true rfl) (Nat.le_of_ble_eq_true rfl) (Nat.le_of_ble_eq_true rfl)
      refine lv_dsub hx hb dX7_isFree_100 (gf_n64 gw49) ?_
      refine lv_topd (fun v50 ev50 => ?_)
      rw [← ev50] at gw49
      have gw51 := gf_mul 577 1248 (gz_ti (gz_t0 kc kox koy g0 g1 g2 g3)) gw49 (Nat.le_of_ble_eq_true rfl) (Nat.le_of_ble_eq_true rfl) (Nat.le_of_ble_eq_true rfl)
      refine lv_dmul hx hb dX7_isFree_101 (gf_n64 gw51) ?_
      refine lv_topd (fun v52 ev52 => ?_)
      rw [← ev52] at gw51
      have gw53 := gf_add 577 1249 g0 gw51 (Nat.le_of_ble_eq_true rfl) (Nat.le_of_ble_eq_true rfl) (Nat.le_of_ble_eq_true rfl) (Nat.le_of_ble_eq_true rfl) (Nat.le_of_ble_eq_true rfl)
      refine lv_dadd hx hb dX7_isFree_102 (gf_n64 gw53) ?_
      refine lv_topd (fun v54 ev54 => ?_)
      rw [← ev54] at gw53
      have gw55 := gf_sub 577 1250 gw48 gw53 (Nat.le_of_ble_eq_true rfl) (Nat.le_of_ble_eq_true rfl) (Nat.le_of_ble_eq_true rfl) (Nat.le_of_ble_eq_true rfl) (Nat.le_of_ble_eq_true rfl)
      refine lv_dsub hx hb dX7_isFree_103 (gf_n64 gw55) ?_
      refine lv_topd (fun v56 ev56 => ?_)
      rw [← ev56] at gw55
      have fv56 : v56 = tAx ox p0 p2 (tI (tT0 c ox oy p0 p1 p2 p3)) := by rw [ev56, ev54, ev52, ev50]; try rfl
      clear ev56 gw55
      subst fv56
      refine lv_dstore (lv' := [(8, .double (tAx ox p0 p2 (tI (tT0 c ox oy p0 p1 p2 p3)))), (6, .double (tI (tT0 c ox oy p0 p1 p2 p3))), (5, .int c), (0, .ref mo), (1, .int (nI q)), (2, .int ox), (3, .int oy), (4, .int z)]) hx hb dX7_isFree_104 hl (by decide) rfl (fun ls hl => ?_)
      refine lv_iload_n hx hb dX7_isFree_106 rfl (lv_at hl 6 rfl) ?_
      refine lv_i2d hx hb dX7_isFree_107 ?_
      have gw57 := gf_i2d 10 (cB_k koy)
      refine lv_aload_n hx hb dX7_isFree_108 rfl (lv_at hl 3 rfl) ?_
      refine va_get (D := D) (ci := 6) (v := .double p1) (C := RX7) (T := TX7) (N := 22) hx hb hts hinX7 hown hw.1 hR 0 rfl rfl 2 (by decide) (hts (.fieldLink RX7 60 "WheelSwingModel" "py" "D") (by decide +kernel)) (fun _ h9 => h9) rfl dX7_isFree_109 ?_
      refine lv_dload hx hb dX7_isFree_112 (lv_at hl 1 rfl) ?_
      refine lv_aload_n hx hb dX7_isFree_114 rfl (lv_at hl 3 rfl) ?_
      refine va_get (D := D) (ci := 6) (v := .double p3) (C := RX7) (T := TX7) (N := 22) hx hb hts hinX7 hown hw.1 hR 0 rfl rfl 4 (by decide) (hts (.fieldLink RX7 66 "WheelSwingModel" "qy" "D") (by decide +kernel)) (fun _ h9 => h9) rfl dX7_isFree_115 ?_
      refine lv_aload_n hx hb dX7_isFree_118 rfl (lv_at hl 3 rfl) ?_
      refine va_get (D := D) (ci := 6) (v := .double p1) (C := RX7) (T := TX7) (N := 22) hx hb hts hinX7 hown hw.1 hR 0 rfl rfl 2 (by decide) (hts (.fieldLink RX7 60 "WheelSwingModel" "py" "D") (by decide +kernel)) (fun _ h9 => h9) rfl dX7_isFree_119 ?_
      have gw58 := gf_sub 934 1153 g3 g1 (Nat.le_of_ble_eq_true rfl) (Nat.le_of_ble_eq_true rfl) (Nat.le_of_ble_eq_true rfl) (Nat.le_of_ble_eq_true rfl) (Nat.le_of_ble_eq_true rfl)
      refine lv_dsub hx hb dX7_isFree_122 (gf_n64 gw58) ?_
      refine lv_topd (fun v59 ev59 => ?_)
      rw [← ev59] at gw58
      have gw60 := gf_mul 623 1247 (gz_ti (gz_t0 kc kox koy g0 g1 g2 g3)) gw58 (Nat.le_of_ble_eq_true rfl) (Nat.le_of_ble_eq_true rfl) (Nat.le_of_ble_eq_true rfl)
      refine lv_dmul hx hb dX7_isFree_123 (gf_n64 gw60) ?_
      refine lv_topd (fun v61 ev61 => ?_)
      rw [← ev61] at gw60
      have gw62 := gf_add 623 1248 g1 gw60 (Nat.le_of_ble_eq_true rfl) (Nat.le_of_ble_eq_true rfl) (Nat.le_of_ble_eq_true rfl) (Nat.le_of_ble_eq_true rfl) (Nat.le_of_ble_eq_true rfl)
      refine lv_dadd hx hb dX7_isFree_124 (gf_n64 gw62) ?_
      refine lv_topd (fun v63 ev63 => ?_)
      rw [← ev63] at gw62
      have gw64 := gf_sub 623 1249 gw57 gw62 (Nat.le_of_ble_eq_true rfl) (Nat.le_of_ble_eq_true rfl) (Nat.le_of_ble_eq_true rfl) (Nat.le_of_ble_eq_true rfl) (Nat.le_of_ble_eq_true rfl)
      refine lv_dsub hx hb dX7_isFree_125 (gf_n64 gw64) ?_
      refine lv_topd (fun v65 ev65 => ?_)
      rw [← ev65] at gw64
      have fv65 : v65 = tAx oy p1 p3 (tI (tT0 c ox oy p0 p1 p2 p3)) := by rw [ev65, ev63, ev61, ev59]; try rfl
      clear ev65 gw64
      subst fv65
      refine lv_dstore (lv' := [(10, .double (tAx oy p1 p3 (tI (tT0 c ox oy p0 p1 p2 p3)))), (8, .double (tAx ox p0 p2 (tI (tT0 c ox oy p0 p1 p2 p3)))), (6, .double (tI (tT0 c ox oy p0 p1 p2 p3))), (5, .int c), (0, .ref mo), (1, .int (nI q)), (2, .int ox), (3, .int oy), (4, .int z)]) hx hb dX7_isFree_126 hl (by decide) rfl (fun ls hl => ?_)
      refine lv_dload hx hb dX7_isFree_128 (lv_at hl 1 rfl) ?_
      refine lv_dload hx hb dX7_isFree_130 (lv_at hl 1 rfl) ?_
      have gw66 := gf_mul 80 1426 (gz_ax0 kc kox koy g0 g1 g2 g3) (gz_ax0 kc kox koy g0 g1 g2 g3) (Nat.le_of_ble_eq_true rfl) (Nat.le_of_ble_eq_true rfl) (Nat.le_of_ble_eq_true rfl)
      refine lv_dmul hx hb dX7_isFree_132 (gf_n64 gw66) ?_
      refine lv_topd (fun v67 ev67 => ?_)
      rw [← ev67] at gw66
      refine lv_dload hx hb dX7_isFree_133 (lv_at hl 0 rfl) ?_
      refine lv_dload hx hb dX7_isFree_135 (lv_at hl 0 rfl) ?_
      have gw68 := gf_mul 172 1424 (gz_ay0 kc kox koy g0 g1 g2 g3) (gz_ay0 kc kox koy g0 g1 g2 g3) (Nat.le_of_ble_eq_true rfl) (Nat.le_of_ble_eq_true rfl) (Nat.le_of_ble_eq_true rfl)
      refine lv_dmul hx hb dX7_isFree_137 (gf_n64 gw68) ?_
      refine lv_topd (fun v69 ev69 => ?_)
      rw [← ev69] at gw68
      have gw70 := gf_add 80 1427 gw66 gw68 (Nat.le_of_ble_eq_true rfl) (Nat.le_of_ble_eq_true rfl) (Nat.le_of_ble_eq_true rfl) (Nat.le_of_ble_eq_true rfl) (Nat.le_of_ble_eq_true rfl)
      refine lv_dadd hx hb dX7_isFree_138 (gf_n64 gw70) ?_
      refine lv_topd (fun v71 ev71 => ?_)
      rw [← ev71] at gw70
      have fv71 : v71 = tSq c ox oy p0 p1 p2 p3 := by rw [ev71, ev69, ev67]; try rfl
      clear ev71 gw70
      subst fv71
      refine lv_iload hx hb dX7_isFree_139 (lv_at hl 8 rfl) ?_
      refine lv_iload hx hb dX7_isFree_141 (lv_at hl 8 rfl) ?_
      refine lv_imul hx hb dX7_isFree_143 ?_
      refine lv_i2d hx hb dX7_isFree_144 ?_
      have gw72 := gf_i2d 20 kz
      refine lv_dcmp hx hb dX7_isFree_145 ?_
      rw [fp_cv (gz_sq kc kox koy g0 g1 g2 g3).1 gw72.1]
      refine lv_if_lt (tgt := 153) hx hb dX7_isFree_146 (by decide) (fun c73 => ?_) (fun c73 => ?_)
      · rw [fcv_lt] at c73
        refine lv_iconst (v := 0) hx hb dX7_isFree_153 (by decide) ?_
        exact W.zret (v := 0) hx hb hr rfl (fun t ht hW => ⟨⟨0, (), rfl, (by dsimp only; first | rw [decide_eq_true c73]; rfl | rw [decide_eq_false c73]; rfl | (rw [decide_eq_false (Int.not_le.mpr c73)]; rfl) | (rw [decide_eq_true (Int.not_lt.mp c73)]; rfl)), trivial⟩, hS.F ht⟩) hS.2.2 dX7_isFree_154
      · rw [fcv_lt] at c73
        refine lv_iconst (v := 1) hx hb dX7_isFree_149 (by decide) ?_
        refine lv_goto (tgt := 154) hx hb dX7_isFree_150 (by decide) ?_
        exact W.zret (v := 1) hx hb hr rfl (fun t ht hW => ⟨⟨1, (), rfl, (by dsimp only; first | rw [decide_eq_true c73]; rfl | rw [decide_eq_false c73]; rfl | (rw [decide_eq_false (Int.not_le.mpr c73)]; rfl) | (rw [decide_eq_true (Int.not_lt.mp c73)]; rfl)), trivial⟩, hS.F ht⟩) hS.2.2 dX7_isFree_154
  · rw [fcv_ge] at c20
    refine lv_dconst0 hx hb dX7_isFree_65 ?_
    refine lv_goto (tgt := 82) hx hb dX7_isFree_66 (by decide) ?_
    refine lv_topd (fun vv evv => ?_)
    have evv : vv = tI (tT0 c ox oy p0 p1 p2 p3) := evv.trans (tI_lt c20)
    subst evv
    refine lv_dstore (lv' := [(6, .double (tI (tT0 c ox oy p0 p1 p2 p3))), (5, .int c), (0, .ref mo), (1, .int (nI q)), (2, .int ox), (3, .int oy), (4, .int z)]) hx hb dX7_isFree_82 hl (by decide) rfl (fun ls hl => ?_)
    refine lv_iload_n hx hb dX7_isFree_84 rfl (lv_at hl 4 rfl) ?_
    refine lv_i2d hx hb dX7_isFree_85 ?_
    have gw74 := gf_i2d 10 (cB_k kox)
    refine lv_aload_n hx hb dX7_isFree_86 rfl (lv_at hl 2 rfl) ?_
    refine va_get (D := D) (ci := 6) (v := .double p0) (C := RX7) (T := TX7) (N := 22) hx hb hts hinX7 hown hw.1 hR 0 rfl rfl 1 (by decide) (hts (.fieldLink RX7 56 "WheelSwingModel" "px" "D") (by decide +kernel)) (fun _ h9 => h9) rfl dX7_isFree_87 ?_
    refine lv_dload hx hb dX7_isFree_90 (lv_at hl 0 rfl) ?_
    refine lv_aload_n hx hb dX7_isFree_92 rfl (lv_at hl 2 rfl) ?_
    refine va_get (D := D) (ci := 6) (v := .double p2) (C := RX7) (T := TX7) (N := 22) hx hb hts hinX7 hown hw.1 hR 0 rfl rfl 3 (by decide) (hts (.fieldLink RX7 63 "WheelSwingModel" "qx" "D") (by decide +kernel)) (fun _ h9 => h9) rfl dX7_isFree_93 ?_
    refine lv_aload_n hx hb dX7_isFree_96 rfl (lv_at hl 2 rfl) ?_
    refine va_get (D := D) (ci := 6) (v := .double p0) (C := RX7) (T := TX7) (N := 22) hx hb hts hinX7 hown hw.1 hR 0 rfl rfl 1 (by decide) (hts (.fieldLink RX7 56 "WheelSwingModel" "px" "D") (by decide +kernel)) (fun _ h9 => h9) rfl dX7_isFree_97 ?_
    have gw75 := gf_sub 888 1154 g2 g0 (Nat.le_of_ble_eq_true rfl) (Nat.le_of_ble_eq_true rfl) (Nat.le_of_ble_eq_true rfl) (Nat.le_of_ble_eq_true rfl) (Nat.le_of_ble_eq_true rfl)
    refine lv_dsub hx hb dX7_isFree_100 (gf_n64 gw75) ?_
    refine lv_topd (fun v76 ev76 => ?_)
    rw [← ev76] at gw75
    have gw77 := gf_mul 577 1248 (gz_ti (gz_t0 kc kox koy g0 g1 g2 g3)) gw75 (Nat.le_of_ble_eq_true rfl) (Nat.le_of_ble_eq_true rfl) (Nat.le_of_ble_eq_true rfl)
    refine lv_dmul hx hb dX7_isFree_101 (gf_n64 gw77) ?_
    refine lv_topd (fun v78 ev78 => ?_)
    rw [← ev78] at gw77
    have gw79 := gf_add 577 1249 g0 gw77 (Nat.le_of_ble_eq_true rfl) (Nat.le_of_ble_eq_true rfl) (Nat.le_of_ble_eq_true rfl) (Nat.le_of_ble_eq_true rfl) (Nat.le_of_ble_eq_true rfl)
    refine lv_dadd hx hb dX7_isFree_102 (gf_n64 gw79) ?_
    refine lv_topd (fun v80 ev80 => ?_)
    rw [← ev80] at gw79
    have gw81 := gf_sub 577 1250 gw74 gw79 (Nat.le_of_ble_eq_true rfl) (Nat.le_of_ble_eq_true rfl) (Nat.le_of_ble_eq_true rfl) (Nat.le_of_ble_eq_true rfl) (Nat.le_of_ble_eq_true rfl)
    refine lv_dsub hx hb dX7_isFree_103 (gf_n64 gw81) ?_
    refine lv_topd (fun v82 ev82 => ?_)
    rw [← ev82] at gw81
    have fv82 : v82 = tAx ox p0 p2 (tI (tT0 c ox oy p0 p1 p2 p3)) := by rw [ev82, ev80, ev78, ev76]; try rfl
    clear ev82 gw81
    subst fv82
    refine lv_dstore (lv' := [(8, .double (tAx ox p0 p2 (tI (tT0 c ox oy p0 p1 p2 p3)))), (6, .double (tI (tT0 c ox oy p0 p1 p2 p3))), (5, .int c), (0, .ref mo), (1, .int (nI q)), (2, .int ox), (3, .int oy), (4, .int z)]) hx hb dX7_isFree_104 hl (by decide) rfl (fun ls hl => ?_)
    refine lv_iload_n hx hb dX7_isFree_106 rfl (lv_at hl 6 rfl) ?_
    refine lv_i2d hx hb dX7_isFree_107 ?_
    have gw83 := gf_i2d 10 (cB_k koy)
    refine lv_aload_n hx hb dX7_isFree_108 rfl (lv_at hl 3 rfl) ?_
    refine va_get (D := D) (ci := 6) (v := .double p1) (C := RX7) (T := TX7) (N := 22) hx hb hts hinX7 hown hw.1 hR 0 rfl rfl 2 (by decide) (hts (.fieldLink RX7 60 "WheelSwingModel" "py" "D") (by decide +kernel)) (fun _ h9 => h9) rfl dX7_isFree_109 ?_
    refine lv_dload hx hb dX7_isFree_112 (lv_at hl 1 rfl) ?_
    refine lv_aload_n hx hb dX7_isFree_114 rfl (lv_at hl 3 rfl) ?_
    refine va_get (D := D) (ci := 6) (v := .double p3) (C := RX7) (T := TX7) (N := 22) hx hb hts hinX7 hown hw.1 hR 0 rfl rfl 4 (by decide) (hts (.fieldLink RX7 66 "WheelSwingModel" "qy" "D") (by decide +kernel)) (fun _ h9 => h9) rfl dX7_isFree_115 ?_
    refine lv_aload_n hx hb dX7_isFree_118 rfl (lv_at hl 3 rfl) ?_
    refine va_get (D := D) (ci := 6) (v := .double p1) (C := RX7) (T := TX7) (N := 22) hx hb hts hinX7 hown hw.1 hR 0 rfl rfl 2 (by decide) (hts (.fieldLink RX7 60 "WheelSwingModel" "py" "D") (by decide +kernel)) (fun _ h9 => h9) rfl dX7_isFree_119 ?_
    have gw84 := gf_sub 934 1153 g3 g1 (Nat.le_of_ble_eq_true rfl) (Nat.le_of_ble_eq_true rfl) (Nat.le_of_ble_eq_true rfl) (Nat.le_of_ble_eq_true rfl) (Nat.le_of_ble_eq_true rfl)
    refine lv_dsub hx hb dX7_isFree_122 (gf_n64 gw84) ?_
    refine lv_topd (fun v85 ev85 => ?_)
    rw [← ev85] at gw84
    have gw86 := gf_mul 623 1247 (gz_ti (gz_t0 kc kox koy g0 g1 g2 g3)) gw84 (Nat.le_of_ble_eq_true rfl) (Nat.le_of_ble_eq_true rfl) (Nat.le_of_ble_eq_true rfl)
    refine lv_dmul hx hb dX7_isFree_123 (gf_n64 gw86) ?_
    refine lv_topd (fun v87 ev87 => ?_)
    rw [← ev87] at gw86
    have gw88 := gf_add 623 1248 g1 gw86 (Nat.le_of_ble_eq_true rfl) (Nat.le_of_ble_eq_true rfl) (Nat.le_of_ble_eq_true rfl) (Nat.le_of_ble_eq_true rfl) (Nat.le_of_ble_eq_true rfl)
    refine lv_dadd hx hb dX7_isFree_124 (gf_n64 gw88) ?_
    refine lv_topd (fun v89 ev89 => ?_)
    rw [← ev89] at gw88
    have gw90 := gf_sub 623 1249 gw83 gw88 (Nat.le_of_ble_eq_true rfl) (Nat.le_of_ble_eq_true rfl) (Nat.le_of_ble_eq_true rfl) (Nat.le_of_ble_eq_true rfl) (Nat.le_of_ble_eq_true rfl)
    refine lv_dsub hx hb dX7_isFree_125 (gf_n64 gw90) ?_
    refine lv_topd (fun v91 ev91 => ?_)
    rw [← ev91] at gw90
    have fv91 : v91 = tAx oy p1 p3 (tI (tT0 c ox oy p0 p1 p2 p3)) := by rw [ev91, ev89, ev87, ev85]; try rfl
    clear ev91 gw90
    subst fv91
    refine lv_dstore (lv' := [(10, .double (tAx oy p1 p3 (tI (tT0 c ox oy p0 p1 p2 p3)))), (8, .double (tAx ox p0 p2 (tI (tT0 c ox oy p0 p1 p2 p3)))), (6, .double (tI (tT0 c ox oy p0 p1 p2 p3))), (5, .int c), (0, .ref mo), (1, .int (nI q)), (2, .int ox), (3, .int oy), (4, .int z)]) hx hb dX7_isFree_126 hl (by decide) rfl (fun ls hl => ?_)
    refine lv_dload hx hb dX7_isFree_128 (lv_at hl 1 rfl) ?_
    refine lv_dload hx hb dX7_isFree_130 (lv_at hl 1 rfl) ?_
    have gw92 := gf_mul 80 1426 (gz_ax0 kc kox koy g0 g1 g2 g3) (gz_ax0 kc kox koy g0 g1 g2 g3) (Nat.le_of_ble_eq_true rfl) (Nat.le_of_ble_eq_true rfl) (Nat.le_of_ble_eq_true rfl)
    refine lv_dmul hx hb dX7_isFree_132 (gf_n64 gw92) ?_
    refine lv_topd (fun v93 ev93 => ?_)
    rw [← ev93] at gw92
    refine lv_dload hx hb dX7_isFree_133 (lv_at hl 0 rfl) ?_
    refine lv_dload hx hb dX7_isFree_135 (lv_at hl 0 rfl) ?_
    have gw94 := gf_mul 172 1424 (gz_ay0 kc kox koy g0 g1 g2 g3) (gz_ay0 kc kox koy g0 g1 g2 g3) (Nat.le_of_ble_eq_true rfl) (Nat.le_of_ble_eq_true rfl) (Nat.le_of_ble_eq_true rfl)
    refine lv_dmul hx hb dX7_isFree_137 (gf_n64 gw94) ?_
    refine lv_topd (fun v95 ev95 => ?_)
    rw [← ev95] at gw94
    have gw96 := gf_add 80 1427 gw92 gw94 (Nat.le_of_ble_eq_true rfl) (Nat.le_of_ble_eq_true rfl) (Nat.le_of_ble_eq_true rfl) (Nat.le_of_ble_eq_true rfl) (Nat.le_of_ble_eq_true rfl)
    refine lv_dadd hx hb dX7_isFree_138 (gf_n64 gw96) ?_
    refine lv_topd (fun v97 ev97 => ?_)
    rw [← ev97] at gw96
    have fv97 : v97 = tSq c ox oy p0 p1 p2 p3 := by rw [ev97, ev95, ev93]; try rfl
    clear ev97 gw96
    subst fv97
    refine lv_iload hx hb dX7_isFree_139 (lv_at hl 8 rfl) ?_
    refine lv_iload hx hb dX7_isFree_141 (lv_at hl 8 rfl) ?_
    refine lv_imul hx hb dX7_isFree_143 ?_
    refine lv_i2d hx hb dX7_isFree_144 ?_
    have gw98 := gf_i2d 20 kz
    refine lv_dcmp hx hb dX7_isFree_145 ?_
    rw [fp_cv (gz_sq kc kox koy g0 g1 g2 g3).1 gw98.1]
    refine lv_if_lt (tgt := 153) hx hb dX7_isFree_146 (by decide) (fun c99 => ?_) (fun c99 => ?_)
    · rw [fcv_lt] at c99
      refine lv_iconst (v := 0) hx hb dX7_isFree_153 (by decide) ?_
      exact W.zret (v := 0) hx hb hr rfl (fun t ht hW => ⟨⟨0, (), rfl, (by dsimp only; first | rw [decide_eq_true c99]; rfl | rw [decide_eq_false c99]; rfl | (rw [decide_eq_false (Int.not_le.mpr c99)]; rfl) | (rw [decide_eq_true (Int.not_lt.mp c99)]; rfl)), trivial⟩, hS.F ht⟩) hS.2.2 dX7_isFree_154
    · rw [fcv_lt] at c99
      refine lv_iconst (v := 1) hx hb dX7_isFree_149 (by decide) ?_
      refine lv_goto (tgt := 154) hx hb dX7_isFree_150 (by decide) ?_
      exact W.zret (v := 1) hx hb hr rfl (fun t ht hW => ⟨⟨1, (), rfl, (by dsimp only; first | rw [decide_eq_true c99]; rfl | rw [decide_eq_false c99]; rfl | (rw [decide_eq_false (Int.not_le.mpr c99)]; rfl) | (rw [decide_eq_true (Int.not_lt.mp c99)]; rfl)), trivial⟩, hS.F ht⟩) hS.2.2 dX7_isFree_154
set_option maxHeartbeats 4000000 in
set_option maxRecDepth 100000 in
theorem lpX7_clr {p : Program} {l : Launch} {e : Env} {s : State} {m : MethodId} {args : Array Value} {below : List Frame} {meth : Method} {co : Code} {Q : State → Prop} (D : va_G) (cI cH : ClassId) (hx : p.tables.exec = Jvm.exec) (hb : co.code = cX7_isClear) (hml : co.maxLocals = 8) (hown : s.vm.findClass RX7 = some m.cls) (hts : ∀ w ∈ wsX7_isClear, w.before args s = true) (hw : wk D cI cH s) {mo nu sh ra rr k k2 q : Nat} {N : Nat → Int32} {ct cp cr ctr cfs : Int32} {U V lx ly a b c sd g d sx sy f : Int32} {ox oy z y1 R0 : Int32} (hqq : q < 4) (hne : nu ≠ mo) (hN : hasN N q U V lx ly a b c sd g d sx sy f) (hgb : hgB U V a lx ly b c sd g d sx sy f)  (hy1 : cB y1) (kox : cB ox) (koy : cB oy) (kz : (z * z).toInt.natAbs ≤ 2 ^ 20) (hR0 : va_P D vwCl [(nu, .inl (cI, 52, .inl N))] s.heap) (kz1 : ∀ (H : Heap) (locs : List Loc) (ls : Array Slot) (p0 p1 p2 p3 p4 p5 p6 p7 p8 p9 po : UInt64), va_S (aE mo) s.heap H locs → va_P D vwCl [(mo, .inr (6, [.ref nu, .double p0, .double p1, .double p2, .double p3, .double p4, .double p5, .double p6, .double p7, .double p8, .double p9, .int ct, .int cp, .int cr, .int ctr, .int cfs, .int (nI k), .ref sh, .int (nI k2), .ref ra, .ref rr, .double po]))] H → 0 = R0 → W p l e ({ frames := 2, cells := 0, slots := 0, locals := 75 } : Room) s m args below meth co H locs 0 0 Q (F0 m 90 ls [])) (kz2 : ∀ (H : Heap) (locs : List Loc) (ls : Array Slot) (p0 p1 p2 p3 p4 p5 p6 p7 p8 p9 po : UInt64), va_S (aE mo) s.heap H locs → va_P D vwCl [(mo, .inr (6, [.ref nu, .double p0, .double p1, .double p2, .double p3, .double p4, .double p5, .double p6, .double p7, .double p8, .double p9, .int ct, .int cp, .int cr, .int ctr, .int cfs, .int (nI k), .ref sh, .int (nI k2), .ref ra, .ref rr, .double po]))] H → 1 = R0 → W p l e ({ frames := 2, cells := 0, slots := 0, locals := 75 } : Room) s m args below meth co H locs 0 0 Q (F0 m 98 ls [])) : ∀ (n : Nat) (y : Int32) (H : Heap) (locs : List Loc) (ls : Array Slot) (p0 p1 p2 p3 p4 p5 p6 p7 p8 p9 po : UInt64), va_S (aE mo) s.heap H locs → va_P D vwCl [(mo, .inr (6, [.ref nu, .double p0, .double p1, .double p2, .double p3, .double p4, .double p5, .double p6, .double p7, .double p8, .double p9, .int ct, .int cp, .int cr, .int ctr, .int cfs, .int (nI k), .ref sh, .int (nI k2), .ref ra, .ref rr, .double po]))] H → y.toInt + n = y1.toInt + 1 ∧ -1000 ≤ y.toInt ∧ clrF (fun y => okSq U V a lx ly b c sd g d sx sy f ox oy z y) n y = R0 → lv_has ls 8 [(7, .int y), (6, .int y1), (4, .int z), (3, .int oy), (2, .int ox), (1, .int (nI q)), (0, .ref mo)] → W p l e ({ frames := 2, cells := 0, slots := 0, locals := 75 } : Room) s m args below meth co H locs 0 0 Q (F0 m 61 ls []) := by
  have hinX7 : ∀ w ∈ wsX70, w ∈ wsX7_isClear := by decide +kernel
  obtain ⟨hN0, hN1, hN2, hN3, hN4, hN5, hN6, hN7, hN8, hN9, hN10, hN11, hN12⟩ := id hN
  obtain ⟨kU, kV, ka, klx, kly, kb, kc, hsd, kg, kd, ksx, ksy, kf⟩ := id hgb
  have hnr : ∀ (k9 : Nat) (q : Nat × va_E), ([(nu, .inl (cI, 52, .inl N))] : va_W)[k9]? = some q → ¬ (aE mo) q.1 := nn_1 hne nn_0
  intro n
  induction n with
  | zero =>
    intro y H locs ls p0 p1 p2 p3 p4 p5 p6 p7 p8 p9 po hS hP hI hl
    obtain ⟨i1, i2, i3⟩ := hI
    have hD : va_D (aE mo) [(mo, .inr (6, [.ref nu, .double p0, .double p1, .double p2, .double p3, .double p4, .double p5, .double p6, .double p7, .double p8, .double p9, .int ct, .int cp, .int cr, .int ctr, .int cfs, .int (nI k), .ref sh, .int (nI k2), .ref ra, .ref rr, .double po]))] := D_1 rfl
    have hR := fr_rd hR0 hS hnr
    refine lv_iload hx hb dX7_isClear_61 (lv_at hl 0 rfl) ?_
    refine lv_iload hx hb dX7_isClear_63 (lv_at hl 1 rfl) ?_
    refine lv_icmp_gt (tgt := 98) hx hb dX7_isClear_65 (by decide) (fun c1 => ?_) (fun c1 => ?_)
    · have iw2 := Int32.not_le.mpr c1
      exact kz2 H locs ls p0 p1 p2 p3 p4 p5 p6 p7 p8 p9 po hS hP i3
    · have iw3 := Int32.not_lt.mp c1
      exact absurd (Int32.lt_iff_toInt_lt.mpr (by omega)) c1
  | succ n ih =>
    intro y H locs ls p0 p1 p2 p3 p4 p5 p6 p7 p8 p9 po hS hP hI hl
    obtain ⟨i1, i2, i3⟩ := hI
    have hy1b : y1.toInt ≤ 1000 := hy1.2
    have hyc : cB y := ⟨i2, by omega⟩
    have hh : pB U V lx ly a b c y := ⟨kU, kV, klx, kly, ka, kb, kc, (cB_y hyc).1⟩
    have hD : va_D (aE mo) [(mo, .inr (6, [.ref nu, .double p0, .double p1, .double p2, .double p3, .double p4, .double p5, .double p6, .double p7, .double p8, .double p9, .int ct, .int cp, .int cr, .int ctr, .int cfs, .int (nI k), .ref sh, .int (nI k2), .ref ra, .ref rr, .double po]))] := D_1 rfl
    have hR := fr_rd hR0 hS hnr
    refine lv_iload hx hb dX7_isClear_61 (lv_at hl 0 rfl) ?_
    refine lv_iload hx hb dX7_isClear_63 (lv_at hl 1 rfl) ?_
    refine lv_icmp_gt (tgt := 98) hx hb dX7_isClear_65 (by decide) (fun c1 => ?_) (fun c1 => ?_)
    · have iw2 := Int32.not_le.mpr c1
      exact absurd c1 (Int32.not_lt.mpr (Int32.le_iff_toInt_le.mpr (by omega)))
    · have iw3 := Int32.not_lt.mp c1
      refine lv_aload_n hx hb dX7_isClear_68 rfl (lv_at hl 6 rfl) ?_
      refine lv_iload_n hx hb dX7_isClear_69 rfl (lv_at hl 5 rfl) ?_
      refine lv_iload hx hb dX7_isClear_70 (lv_at hl 0 rfl) ?_
      have hq4 : va_P D vwCl [(mo, .inr (6, [.ref nu, .double p0, .double p1, .double p2, .double p3, .double p4, .double p5, .double p6, .double p7, .double p8, .double p9, .int ct, .int cp, .int cr, .int ctr, .int cfs, .int (nI k), .ref sh, .int (nI k2), .ref ra, .ref rr, .double po])), (nu, .inl (cI, 52, .inl N))] H := fr_cons (hP 0 _ rfl) (fr_cons (hR 0 _ rfl) (fr_nil))
      refine va_calli (va_runV (As := [.int (nI q), .int y]) (rest := []) ⟨hx, hb, hml, hown, hts⟩ (mX7_poses l D cI cH mo nu sh ra rr k k2 q N ct cp cr ctr cfs p0 p1 p2 p3 p4 p5 p6 p7 p8 p9 po U V lx ly a b c sd g d sx sy f y hqq hne hN hh hsd) (cwV 2 hts gX7_isClear_X7_poses rfl rfl rfl (by decide +kernel) ⟨Nat.le_of_ble_eq_true rfl, Nat.le_of_ble_eq_true rfl⟩) ⟨kB_blind, va_recv hw.1 hq4 (ci := 6) (q0 := 0) rfl rfl, kB_go hq4 hw⟩ rfl rfl hl.1 rfl (lv_room (Nat.le_of_ble_eq_true rfl)) dX7_isClear_72 ⟨Nat.le_of_ble_eq_true rfl, Nat.le_of_ble_eq_true rfl⟩) hS (fun q _ h => h) (fun q h => h) (fun r5 u6 t H locs ht hvm hp7 hB hz1 hk1 hS => ?_)
      have hB : va_at D vwCl (mo, .inr (6, u6)) t.heap := hB
      rw [ht] at hB
      have hP := fr_one hB
      have hR := fr_rd hR0 hS hnr
      rcases hp7 with ⟨rfl, hfA, rfl⟩ | ⟨rfl, hnfA, j8, j9, j10, j11, j12, j13, j14, j15, j16, j17, j18, rfl⟩
      · have h0A := hfA.1
        have heA := hfA.2.1
        have hkA := hfA.2.2
        have hP : va_P D vwCl [(mo, .inr (6, [.ref nu, .double (tPx lx ly b y), .double (FP.i2d y), .double (tQx U V lx ly a b c sd y), .double (tQy U V lx ly a b c sd y), .double (tVx U V lx ly a b c sd y), .double (tVy U V lx ly a b c sd y), .double p6, .double p7, .double p8, .double p9, .int ct, .int cp, .int cr, .int ctr, .int cfs, .int (nI k), .ref sh, .int (nI k2), .ref ra, .ref rr, .double po]))] H := hP
        have hD : va_D (aE mo) [(mo, .inr (6, [.ref nu, .double (tPx lx ly b y), .double (FP.i2d y), .double (tQx U V lx ly a b c sd y), .double (tQy U V lx ly a b c sd y), .double (tVx U V lx ly a b c sd y), .double (tVy U V lx ly a b c sd y), .double p6, .double p7, .double p8, .double p9, .int ct, .int cp, .int cr, .int ctr, .int cfs, .int (nI k), .ref sh, .int (nI k2), .ref ra, .ref rr, .double po]))] := D_1 rfl
        refine lv_if_eq (tgt := 92) hx hb dX7_isClear_75 (by decide) (fun c20 => absurd c20 (by decide)) (fun _ => ?_)
        refine lv_aload_n hx hb dX7_isClear_78 rfl (lv_at hl 6 rfl) ?_
        refine lv_iload_n hx hb dX7_isClear_79 rfl (lv_at hl 5 rfl) ?_
        refine lv_iload_n hx hb dX7_isClear_80 rfl (lv_at hl 4 rfl) ?_
        refine lv_iload_n hx hb dX7_isClear_81 rfl (lv_at hl 3 rfl) ?_
        refine lv_iload hx hb dX7_isClear_82 (lv_at hl 2 rfl) ?_
        have hq21 : va_P D vwCl [(mo, .inr (6, [.ref nu, .double (tPx lx ly b y), .double (FP.i2d y), .double (tQx U V lx ly a b c sd y), .double (tQy U V lx ly a b c sd y), .double (tVx U V lx ly a b c sd y), .double (tVy U V lx ly a b c sd y), .double p6, .double p7, .double p8, .double p9, .int ct, .int cp, .int cr, .int ctr, .int cfs, .int (nI k), .ref sh, .int (nI k2), .ref ra, .ref rr, .double po])), (nu, .inl (cI, 52, .inl N))] H := fr_cons (hP 0 _ rfl) (fr_cons (hR 0 _ rfl) (fr_nil))
        refine va_calli (va_runV (As := [.int (nI q), .int ox, .int oy, .int z]) (rest := []) ⟨hx, hb, hml, hown, hts⟩ (mX7_isFree l D cI cH mo nu sh ra rr k k2 q N ct cp cr ctr cfs (tPx lx ly b y) (FP.i2d y) (tQx U V lx ly a b c sd y) (tQy U V lx ly a b c sd y) (tVx U V lx ly a b c sd y) (tVy U V lx ly a b c sd y) p6 p7 p8 p9 po U V lx ly a b c sd g d sx sy f ox oy z hqq hne hN kc kox koy kz (gz_px hh h0A) (gf_i2d 10 (yB_k hh.2.2.2.2.2.2.2)) (gz_qx hh h0A heA hkA hsd) (gz_qy hh h0A heA hkA hsd)) (cwV 4 hts gX7_isClear_X7_isFree rfl rfl rfl (by decide +kernel) ⟨Nat.le_of_ble_eq_true rfl, Nat.le_of_ble_eq_true rfl⟩) ⟨kB_blind, va_recv hw.1 hq21 (ci := 6) (q0 := 0) rfl rfl, kB_go hq21 hw⟩ rfl rfl hl.1 rfl (lv_room (Nat.le_of_ble_eq_true rfl)) dX7_isClear_84 ⟨Nat.le_of_ble_eq_true rfl, Nat.le_of_ble_eq_true rfl⟩) hS (fun q _ h => h.elim) (fun q h => h.elim) (fun r22 u23 t H locs ht hvm hp24 hB hz1 hk1 hS => ?_)
        have hP := fr_keep hP hk1 fr_nA
        have hR := fr_rd hR0 hS hnr
        subst hp24
        refine lv_if_ne (tgt := 92) hx hb dX7_isClear_87 (by decide) (fun c25 => ?_) (fun c25 => ?_)
        · have c25 := bI_n.mp c25
          refine lv_iinc (v := y + 1) (lv' := [(7, .int (y + 1)), (6, .int y1), (4, .int z), (3, .int oy), (2, .int ox), (1, .int (nI q)), (0, .ref mo)]) hx hb dX7_isClear_92 hl (k := 0) rfl rfl (by decide) rfl (fun ls hl => ?_)
          refine lv_goto (tgt := 61) hx hb dX7_isClear_95 (by decide) ?_
          have hok9 : okSq U V a lx ly b c sd g d sx sy f ox oy z y = true := by show (!(bFree U V lx ly a b c y) || !(decide (fv (tSq c ox oy (tPx lx ly b y) (FP.i2d y) (tQx U V lx ly a b c sd y) (tQy U V lx ly a b c sd y)) < fv (FP.i2d (z * z))))) = true; rw [decide_eq_false (Int.not_lt.mpr (of_decide_eq_true c25))]; simp
          have h9 : lv_has ls 8 [(7, .int (y + 1)), (6, .int y1), (4, .int z), (3, .int oy), (2, .int ox), (1, .int (nI q)), (0, .ref mo)] := (lv_sub hl [0, 1, 2, 3, 4, 5, 6] rfl)
          exact ih (y + 1) H locs ls (tPx lx ly b y) (FP.i2d y) (tQx U V lx ly a b c sd y) (tQy U V lx ly a b c sd y) (tVx U V lx ly a b c sd y) (tVy U V lx ly a b c sd y) p6 p7 p8 p9 po hS hP ⟨by rw [y_next hyc]; omega, by rw [y_next hyc]; omega, by rw [← i3]; exact (clrF_t (fr := (fun y => okSq U V a lx ly b c sd g d sx sy f ox oy z y)) hok9).symm⟩ h9
        · have c25 := bI_e.mp c25
          have hok9 : okSq U V a lx ly b c sd g d sx sy f ox oy z y = false := by show (!(bFree U V lx ly a b c y) || !(decide (fv (tSq c ox oy (tPx lx ly b y) (FP.i2d y) (tQx U V lx ly a b c sd y) (tQy U V lx ly a b c sd y)) < fv (FP.i2d (z * z))))) = false; rw [bFree_t hfA, decide_eq_true (Int.not_le.mp (of_decide_eq_false c25))]; rfl
          exact kz1 H locs ls (tPx lx ly b y) (FP.i2d y) (tQx U V lx ly a b c sd y) (tQy U V lx ly a b c sd y) (tVx U V lx ly a b c sd y) (tVy U V lx ly a b c sd y) p6 p7 p8 p9 po hS hP (by rw [← i3]; exact (clrF_f (fr := (fun y => okSq U V a lx ly b c sd g d sx sy f ox oy z y)) hok9).symm)
      · have hP : va_P D vwCl [(mo, .inr (6, [.ref nu, .double j8, .double j9, .double j10, .double j11, .double j12, .double j13, .double j14, .double j15, .double j16, .double j17, .int ct, .int cp, .int cr, .int ctr, .int cfs, .int (nI k), .ref sh, .int (nI k2), .ref ra, .ref rr, .double j18]))] H := hP
        have hD : va_D (aE mo) [(mo, .inr (6, [.ref nu, .double j8, .double j9, .double j10, .double j11, .double j12, .double j13, .double j14, .double j15, .double j16, .double j17, .int ct, .int cp, .int cr, .int ctr, .int cfs, .int (nI k), .ref sh, .int (nI k2), .ref ra, .ref rr, .double j18]))] := D_1 rfl
        refine lv_if_eq (tgt := 92) hx hb dX7_isClear_75 (by decide) (fun _ => ?_) (fun c27 => absurd c27 (by decide))
        refine lv_iinc (v := y + 1) (lv' := [(7, .int (y + 1)), (6, .int y1), (4, .int z), (3, .int oy), (2, .int ox), (1, .int (nI q)), (0, .ref mo)]) hx hb dX7_isClear_92 hl (k := 0) rfl rfl (by decide) rfl (fun ls hl => ?_)
        refine lv_goto (tgt := 61) hx hb dX7_isClear_95 (by decide) ?_
        have hok9 : okSq U V a lx ly b c sd g d sx sy f ox oy z y = true := by show (!(bFree U V lx ly a b c y) || _) = true; rw [bFree_f hnfA]; rfl
        have h9 : lv_has ls 8 [(7, .int (y + 1)), (6, .int y1), (4, .int z), (3, .int oy), (2, .int ox), (1, .int (nI q)), (0, .ref mo)] := (lv_sub hl [0, 1, 2, 3, 4, 5, 6] rfl)
        exact ih (y + 1) H locs ls j8 j9 j10 j11 j12 j13 j14 j15 j16 j17 j18 hS hP ⟨by rw [y_next hyc]; omega, by rw [y_next hyc]; omega, by rw [← i3]; exact (clrF_t (fr := (fun y => okSq U V a lx ly b c sd g d sx sy f ox oy z y)) hok9).symm⟩ h9
set_option maxHeartbeats 4000000 in
set_option maxRecDepth 100000 in
theorem mX7_isClear (l : Launch) (D : va_G) (cI cH : ClassId) (mo nu sh ra rr k k2 q : Nat) (N : Nat → Int32) (ct cp cr ctr cfs : Int32) (p0 p1 p2 p3 p4 p5 p6 p7 p8 p9 po : UInt64) (U V lx ly a b c sd g d sx sy f : Int32) (h ox oy z y0 y1 : Int32)  (hqq : q < 4) (hne : nu ≠ mo) (hN : hasN N q U V lx ly a b c sd g d sx sy f) (hgb : hgB U V a lx ly b c sd g d sx sy f) (hq9 : okH h = true → h = nI q) : Met l yX7_isClear wsX7_isClear ({ frames := 2, cells := 0, slots := 0, locals := 75 }) (va_Pc [.ref mo, .int h, .int ox, .int oy, .int z, .int y0, .int y1] (kB D cI cH [(mo, .inr (6, [.ref nu, .double p0, .double p1, .double p2, .double p3, .double p4, .double p5, .double p6, .double p7, .double p8, .double p9, .int ct, .int cp, .int cr, .int ctr, .int cfs, .int (nI k), .ref sh, .int (nI k2), .ref ra, .ref rr, .double po])), (nu, .inl (cI, 52, .inl N))])) (va_Qi (fun (r : Int32) (u : List Value) => r = (if okH h && (okP ox oy && (isW z 0 500 && okS y0 y1)) then sClear U V a lx ly b c sd g d sx sy f ox oy z y0 y1 else -2) ∧ isM nu sh ra rr k k2 ct cp cr ctr cfs u) (fun u t => va_at D vwCl (mo, .inr (6, u)) t.heap) (aE mo)) 0 0 (aE mo) := by
  refine Met.ofW (cc := cX7_isClear) (maxL := 8) (ret := (some .int)) (by decide) rfl ?_
  intro p e s m args below meth co s₁ B hml hv
  obtain ⟨rfl, hP0, hw⟩ := hv
  have hx := B.exec
  have hb := B.bytes
  have hr := B.returns
  have hts := atoms_spec (ws := wsX7_isClear) B.pre
  have hown : s.vm.findClass RX7 = some m.cls := findClass_of_methodNamed B.named
  have hlocks := B.notSynchronized
  have hinX7 : ∀ w ∈ wsX70, w ∈ wsX7_isClear := by decide +kernel
  have hS : va_S (aE mo) s.heap s.heap [] := va_S.rf
  have hP : va_P D vwCl [(mo, .inr (6, [.ref nu, .double p0, .double p1, .double p2, .double p3, .double p4, .double p5, .double p6, .double p7, .double p8, .double p9, .int ct, .int cp, .int cr, .int ctr, .int cfs, .int (nI k), .ref sh, .int (nI k2), .ref ra, .ref rr, .double po]))] s.heap := hP0.sub [0] rfl
  have hD : va_D (aE mo) [(mo, .inr (6, [.ref nu, .double p0, .double p1, .double p2, .double p3, .double p4, .double p5, .double p6, .double p7, .double p8, .double p9, .int ct, .int cp, .int cr, .int ctr, .int cfs, .int (nI k), .ref sh, .int (nI k2), .ref ra, .ref rr, .double po]))] := D_1 rfl
  have hR0 : va_P D vwCl [(nu, .inl (cI, 52, .inl N))] s.heap := hP0.sub [1] rfl
  have hR := hR0
  have hnr : ∀ (k9 : Nat) (q : Nat × va_E), ([(nu, .inl (cI, 52, .inl N))] : va_W)[k9]? = some q → ¬ (aE mo) q.1 := nn_1 hne nn_0
  obtain ⟨hN0, hN1, hN2, hN3, hN4, hN5, hN6, hN7, hN8, hN9, hN10, hN11, hN12⟩ := id hN
  obtain ⟨kU, kV, ka, klx, kly, kb, kc, hsd, kg, kd, ksx, ksy, kf⟩ := id hgb
  have hl := lv_entry ([.ref mo, .int h, .int ox, .int oy, .int z, .int y0, .int y1]) (n := 8) (Nat.le_of_ble_eq_true rfl)
  rw [lg_entry_eq]
  generalize (lg_sl ([.ref mo, .int h, .int ox, .int oy, .int z, .int y0, .int y1]) ++ List.replicate (8 - (lg_sl ([.ref mo, .int h, .int ox, .int oy, .int z, .int y0, .int y1])).length) Slot.unset).toArray = ls at hl ⊢
  have hl : lv_has ls 8 [(0, .ref mo), (1, .int h), (2, .int ox), (3, .int oy), (4, .int z), (5, .int y0), (6, .int y1)] := hl
  skip
  refine lv_iload_n hx hb dX7_isClear_0 rfl (lv_at hl 1 rfl) ?_
  refine va_calli (va_runS (As := [.int h]) (rest := []) ⟨hx, hb, hml, hown, hts⟩ (mX7_isHanging l h) (va_cwS 1 hts gX7_isClear_X7_isHanging rfl rfl rfl (by decide +kernel) ⟨Nat.le_of_ble_eq_true rfl, Nat.le_of_ble_eq_true rfl⟩) ⟨tB_blind, tB_go⟩ rfl rfl hl.1 rfl (lv_room (Nat.le_of_ble_eq_true rfl)) dX7_isClear_1 ⟨Nat.le_of_ble_eq_true rfl, Nat.le_of_ble_eq_true rfl⟩) hS (fun q _ h => h.elim) (fun q h => h.elim) (fun r1 u2 t H locs ht hvm hp3 hB hz1 hk1 hS => ?_)
  have hP := fr_keep hP hk1 fr_nA
  have hR := fr_rd hR0 hS hnr
  subst hp3
  refine lv_if_eq (tgt := 54) hx hb dX7_isClear_4 (by decide) (fun c4 => ?_) (fun c4 => ?_)
  · have c4 := bI_e.mp c4
    refine lv_bipush (v := (-2)) hx hb dX7_isClear_54 (by decide) ?_
    exact W.iret (v := (-2)) hx hb hr (fun t ht hW => ⟨⟨(-2), [.ref nu, .double p0, .double p1, .double p2, .double p3, .double p4, .double p5, .double p6, .double p7, .double p8, .double p9, .int ct, .int cp, .int cr, .int ctr, .int cfs, .int (nI k), .ref sh, .int (nI k2), .ref ra, .ref rr, .double po], rfl, ⟨by rw [okS_m]; unfold okP; simp [c4], ⟨_, _, _, _, _, _, _, _, _, _, _, rfl⟩⟩, at_heap ht (hP 0 _ rfl)⟩, hS.F ht⟩) hS.2.2 dX7_isClear_56
  · have c4 := bI_n.mp c4
    refine lv_iload_n hx hb dX7_isClear_7 rfl (lv_at hl 2 rfl) ?_
    refine va_calli (va_runS (As := [.int ox]) (rest := []) ⟨hx, hb, hml, hown, hts⟩ (mX7_isAt l ox) (va_cwS 1 hts gX7_isClear_X7_isAt rfl rfl rfl (by decide +kernel) ⟨Nat.le_of_ble_eq_true rfl, Nat.le_of_ble_eq_true rfl⟩) ⟨tB_blind, tB_go⟩ rfl rfl hl.1 rfl (lv_room (Nat.le_of_ble_eq_true rfl)) dX7_isClear_8 ⟨Nat.le_of_ble_eq_true rfl, Nat.le_of_ble_eq_true rfl⟩) hS (fun q _ h => h.elim) (fun q h => h.elim) (fun r5 u6 t H locs ht hvm hp7 hB hz1 hk1 hS => ?_)
    have hP := fr_keep hP hk1 fr_nA
    have hR := fr_rd hR0 hS hnr
    subst hp7
    refine lv_if_eq (tgt := 54) hx hb dX7_isClear_11 (by decide) (fun c8 => ?_) (fun c8 => ?_)
    · have c8 := bI_e.mp c8
      refine lv_bipush (v := (-2)) hx hb dX7_isClear_54 (by decide) ?_
      exact W.iret (v := (-2)) hx hb hr (fun t ht hW => ⟨⟨(-2), [.ref nu, .double p0, .double p1, .double p2, .double p3, .double p4, .double p5, .double p6, .double p7, .double p8, .double p9, .int ct, .int cp, .int cr, .int ctr, .int cfs, .int (nI k), .ref sh, .int (nI k2), .ref ra, .ref rr, .double po], rfl, ⟨by rw [okS_m]; unfold okP; simp [c4, c8], ⟨_, _, _, _, _, _, _, _, _, _, _, rfl⟩⟩, at_heap ht (hP 0 _ rfl)⟩, hS.F ht⟩) hS.2.2 dX7_isClear_56
    · have c8 := bI_n.mp c8
      refine lv_iload_n hx hb dX7_isClear_14 rfl (lv_at hl 3 rfl) ?_
      refine va_calli (va_runS (As := [.int oy]) (rest := []) ⟨hx, hb, hml, hown, hts⟩ (mX7_isAt l oy) (va_cwS 1 hts gX7_isClear_X7_isAt rfl rfl rfl (by decide +kernel) ⟨Nat.le_of_ble_eq_true rfl, Nat.le_of_ble_eq_true rfl⟩) ⟨tB_blind, tB_go⟩ rfl rfl hl.1 rfl (lv_room (Nat.le_of_ble_eq_true rfl)) dX7_isClear_15 ⟨Nat.le_of_ble_eq_true rfl, Nat.le_of_ble_eq_true rfl⟩) hS (fun q _ h => h.elim) (fun q h => h.elim) (fun r9 u10 t H locs ht hvm hp11 hB hz1 hk1 hS => ?_)
      have hP := fr_keep hP hk1 fr_nA
      have hR := fr_rd hR0 hS hnr
      subst hp11
      refine lv_if_eq (tgt := 54) hx hb dX7_isClear_18 (by decide) (fun c12 => ?_) (fun c12 => ?_)
      · have c12 := bI_e.mp c12
        refine lv_bipush (v := (-2)) hx hb dX7_isClear_54 (by decide) ?_
        exact W.iret (v := (-2)) hx hb hr (fun t ht hW => ⟨⟨(-2), [.ref nu, .double p0, .double p1, .double p2, .double p3, .double p4, .double p5, .double p6, .double p7, .double p8, .double p9, .int ct, .int cp, .int cr, .int ctr, .int cfs, .int (nI k), .ref sh, .int (nI k2), .ref ra, .ref rr, .double po], rfl, ⟨by rw [okS_m]; unfold okP; simp [c4, c8, c12], ⟨_, _, _, _, _, _, _, _, _, _, _, rfl⟩⟩, at_heap ht (hP 0 _ rfl)⟩, hS.F ht⟩) hS.2.2 dX7_isClear_56
      · have c12 := bI_n.mp c12
        refine lv_iload hx hb dX7_isClear_21 (lv_at hl 4 rfl) ?_
        refine lv_iconst (v := 0) hx hb dX7_isClear_23 (by decide) ?_
        refine lv_sipush (v := 500) hx hb dX7_isClear_24 (by decide) ?_
        refine va_calli (va_runS (As := [.int z, .int 0, .int 500]) (rest := []) ⟨hx, hb, hml, hown, hts⟩ (mX7_in l z 0 500) (va_cwS 3 hts gX7_isClear_X7_in rfl rfl rfl (by decide +kernel) ⟨Nat.le_of_ble_eq_true rfl, Nat.le_of_ble_eq_true rfl⟩) ⟨tB_blind, tB_go⟩ rfl rfl hl.1 rfl (lv_room (Nat.le_of_ble_eq_true rfl)) dX7_isClear_27 ⟨Nat.le_of_ble_eq_true rfl, Nat.le_of_ble_eq_true rfl⟩) hS (fun q _ h => h.elim) (fun q h => h.elim) (fun r13 u14 t H locs ht hvm hp15 hB hz1 hk1 hS => ?_)
        have hP := fr_keep hP hk1 fr_nA
        have hR := fr_rd hR0 hS hnr
        subst hp15
        refine lv_if_eq (tgt := 54) hx hb dX7_isClear_30 (by decide) (fun c16 => ?_) (fun c16 => ?_)
        · have c16 := bI_e.mp c16
          refine lv_bipush (v := (-2)) hx hb dX7_isClear_54 (by decide) ?_
          exact W.iret (v := (-2)) hx hb hr (fun t ht hW => ⟨⟨(-2), [.ref nu, .double p0, .double p1, .double p2, .double p3, .double p4, .double p5, .double p6, .double p7, .double p8, .double p9, .int ct, .int cp, .int cr, .int ctr, .int cfs, .int (nI k), .ref sh, .int (nI k2), .ref ra, .ref rr, .double po], rfl, ⟨by rw [okS_m]; unfold okP; simp [c4, c8, c12, c16], ⟨_, _, _, _, _, _, _, _, _, _, _, rfl⟩⟩, at_heap ht (hP 0 _ rfl)⟩, hS.F ht⟩) hS.2.2 dX7_isClear_56
        · have c16 := bI_n.mp c16
          refine lv_iload hx hb dX7_isClear_33 (lv_at hl 5 rfl) ?_
          refine va_calli (va_runS (As := [.int y0]) (rest := []) ⟨hx, hb, hml, hown, hts⟩ (mX7_isAt l y0) (va_cwS 1 hts gX7_isClear_X7_isAt rfl rfl rfl (by decide +kernel) ⟨Nat.le_of_ble_eq_true rfl, Nat.le_of_ble_eq_true rfl⟩) ⟨tB_blind, tB_go⟩ rfl rfl hl.1 rfl (lv_room (Nat.le_of_ble_eq_true rfl)) dX7_isClear_35 ⟨Nat.le_of_ble_eq_true rfl, Nat.le_of_ble_eq_true rfl⟩) hS (fun q _ h => h.elim) (fun q h => h.elim) (fun r17 u18 t H locs ht hvm hp19 hB hz1 hk1 hS => ?_)
          have hP := fr_keep hP hk1 fr_nA
          have hR := fr_rd hR0 hS hnr
          subst hp19
          refine lv_if_eq (tgt := 54) hx hb dX7_isClear_38 (by decide) (fun c20 => ?_) (fun c20 => ?_)
          · have c20 := bI_e.mp c20
            refine lv_bipush (v := (-2)) hx hb dX7_isClear_54 (by decide) ?_
            exact W.iret (v := (-2)) hx hb hr (fun t ht hW => ⟨⟨(-2), [.ref nu, .double p0, .double p1, .double p2, .double p3, .double p4, .double p5, .double p6, .double p7, .double p8, .double p9, .int ct, .int cp, .int cr, .int ctr, .int cfs, .int (nI k), .ref sh, .int (nI k2), .ref ra, .ref rr, .double po], rfl, ⟨by rw [okS_m]; unfold okP; simp [c4, c8, c12, c16, c20], ⟨_, _, _, _, _, _, _, _, _, _, _, rfl⟩⟩, at_heap ht (hP 0 _ rfl)⟩, hS.F ht⟩) hS.2.2 dX7_isClear_56
          · have c20 := bI_n.mp c20
            refine lv_iload hx hb dX7_isClear_41 (lv_at hl 6 rfl) ?_
            refine lv_iload hx hb dX7_isClear_43 (lv_at hl 5 rfl) ?_
            refine lv_sipush (v := 1000) hx hb dX7_isClear_45 (by decide) ?_
            refine va_calli (va_runS (As := [.int y1, .int y0, .int 1000]) (rest := []) ⟨hx, hb, hml, hown, hts⟩ (mX7_in l y1 y0 1000) (va_cwS 3 hts gX7_isClear_X7_in rfl rfl rfl (by decide +kernel) ⟨Nat.le_of_ble_eq_true rfl, Nat.le_of_ble_eq_true rfl⟩) ⟨tB_blind, tB_go⟩ rfl rfl hl.1 rfl (lv_room (Nat.le_of_ble_eq_true rfl)) dX7_isClear_48 ⟨Nat.le_of_ble_eq_true rfl, Nat.le_of_ble_eq_true rfl⟩) hS (fun q _ h => h.elim) (fun q h => h.elim) (fun r21 u22 t H locs ht hvm hp23 hB hz1 hk1 hS => ?_)
            have hP := fr_keep hP hk1 fr_nA
            have hR := fr_rd hR0 hS hnr
            subst hp23
            refine lv_if_ne (tgt := 57) hx hb dX7_isClear_51 (by decide) (fun c24 => ?_) (fun c24 => ?_)
            · have c24 := bI_n.mp c24
              have HOKH := c4
              have hh9 : h = nI q := hq9 HOKH
              rw [hh9] at hl
              refine lv_iload hx hb dX7_isClear_57 (lv_at hl 5 rfl) ?_
              refine lv_istore (lv' := [(7, .int y0), (0, .ref mo), (1, .int (nI q)), (2, .int ox), (3, .int oy), (4, .int z), (5, .int y0), (6, .int y1)]) hx hb dX7_isClear_59 hl (by decide) rfl (fun ls hl => ?_)
              have hoS : okS y0 y1 = true := by rw [okS_m, c20, c24]; rfl
              obtain ⟨hy0, hy1, hyy⟩ := okS_i hoS
              have hoP : okP ox oy = true := by unfold okP; rw [c8, c12]; rfl
              have h30 : lv_has ls 8 [(7, .int y0), (6, .int y1), (4, .int z), (3, .int oy), (2, .int ox), (1, .int (nI q)), (0, .ref mo)] := (lv_sub hl [0, 7, 5, 4, 3, 2, 1] rfl)
              refine lpX7_clr D cI cH (ox := ox) (oy := oy) (z := z) (y1 := y1) (R0 := sClear U V a lx ly b c sd g d sx sy f ox oy z y0 y1) hx hb hml hown hts hw hqq hne hN hgb hy1 (okC_c c8) (okC_c c12) (zz_k c16) hR0 (fun H locs ls p0 p1 p2 p3 p4 p5 p6 p7 p8 p9 po hS hP hr0 => ?_) (fun H locs ls p0 p1 p2 p3 p4 p5 p6 p7 p8 p9 po hS hP hr0 => ?_) (y1.toInt - y0.toInt + 1).toNat y0 _ _ ls p0 p1 p2 p3 p4 p5 p6 p7 p8 p9 po hS hP ⟨by omega, hy0.1, rfl⟩ h30
              · refine lv_iconst (v := 0) hx hb dX7_isClear_90 (by decide) ?_
                exact W.iret (v := 0) hx hb hr (fun t ht hW => ⟨⟨0, [.ref nu, .double p0, .double p1, .double p2, .double p3, .double p4, .double p5, .double p6, .double p7, .double p8, .double p9, .int ct, .int cp, .int cr, .int ctr, .int cfs, .int (nI k), .ref sh, .int (nI k2), .ref ra, .ref rr, .double po], rfl, ⟨by rw [HOKH, hoP, hoS, c16]; exact hr0, ⟨_, _, _, _, _, _, _, _, _, _, _, rfl⟩⟩, at_heap ht (hP 0 _ rfl)⟩, hS.F ht⟩) hS.2.2 dX7_isClear_91
              · refine lv_iconst (v := 1) hx hb dX7_isClear_98 (by decide) ?_
                exact W.iret (v := 1) hx hb hr (fun t ht hW => ⟨⟨1, [.ref nu, .double p0, .double p1, .double p2, .double p3, .double p4, .double p5, .double p6, .double p7, .double p8, .double p9, .int ct, .int cp, .int cr, .int ctr, .int cfs, .int (nI k), .ref sh, .int (nI k2), .ref ra, .ref rr, .double po], rfl, ⟨by rw [HOKH, hoP, hoS, c16]; exact hr0, ⟨_, _, _, _, _, _, _, _, _, _, _, rfl⟩⟩, at_heap ht (hP 0 _ rfl)⟩, hS.F ht⟩) hS.2.2 dX7_isClear_99
            · have c24 := bI_e.mp c24
              refine lv_bipush (v := (-2)) hx hb dX7_isClear_54 (by decide) ?_
              exact W.iret (v := (-2)) hx hb hr (fun t ht hW => ⟨⟨(-2), [.ref nu, .double p0, .double p1, .double p2, .double p3, .double p4, .double p5, .double p6, .double p7, .double p8, .double p9, .int ct, .int cp, .int cr, .int ctr, .int cfs, .int (nI k), .ref sh, .int (nI k2), .ref ra, .ref rr, .double po], rfl, ⟨by rw [okS_m]; unfold okP; simp [c4, c8, c12, c16, c20, c24], ⟨_, _, _, _, _, _, _, _, _, _, _, rfl⟩⟩, at_heap ht (hP 0 _ rfl)⟩, hS.F ht⟩) hS.2.2 dX7_isClear_56
