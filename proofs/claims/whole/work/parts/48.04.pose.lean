/-! THE LAW'S CALLS: pose -/
set_option maxHeartbeats 400000 in
set_option maxRecDepth 100000 in
theorem br_pose {p : Program} {l : Launch} {e : Env} {s : State} {m : MethodId} {args : Array Value} {below : List Frame} {meth : Method} {co : Code} {Q : State → Prop} {A : Nat → Prop} {b L : Nat} {xs : Nat → Int32} {x3 : Int32} {H : Heap} {locs : List Loc} {cells slots : Nat} {ls : Array Slot} {D : va_G} {cI cH : ClassId} {z : Nat → Nat} {fh : Nat → Option Nat} (hc : cells ≤ 600000) (hs9 : slots ≤ 7302250) (hx : p.tables.exec = Jvm.exec) (hb : co.code = cL_law) (hml : co.maxLocals = 4) (hown : s.vm.findClass RL = some m.cls) (hts : ∀ w ∈ wsL_law, w.before args s = true) (hw : wk D cI cH s) (hX : va_X b L xs s s.heap) (hbl : b < s.heap.size) (hbA : ¬ A b) (hz : zOk A z) (hfh : ∀ j, j < 4 → fh j = some (z (9 + j))) (hin : ∀ v : Int32, isW v 0 9 = true → vp_in (x3 + v) L) (hS : va_S A s.heap H locs) (hI : inv D cI cH z fh H) (hl : lv_has ls 4 [(3, .int x3), (2, .ref (z 13)), (1, .ref (z 0)), (0, .ref b)]) (kk : ∀ (H : Heap) (locs : List Loc), inv D cI cH z fh H → va_S A s.heap H locs → W p l e room_1 s m args below meth co H locs cells slots Q (F0 m 828 ls [])) : W p l e room_1 s m args below meth co H locs cells slots Q (F0 m 360 ls []) := by
  obtain ⟨N, ft, f1, f2, k, k2, ct, cp, cr, ctr, cfs, us, um, hok, hus, hum, hP⟩ := hI
  obtain ⟨y12, y13, y0, y1, y2, y3, y4, y5, y6, y7, y8, y9, y10, y11, rfl⟩ := hus
  obtain ⟨w0, w1, w2, w3, w4, w5, w6, w7, w8, w9, w10, rfl⟩ := hum
  obtain ⟨hk, hk2, hhg, hft, hrd⟩ := id hok
  obtain ⟨v1, e1⟩ : ∃ y : Int32, xs (x3 + 1).toNatClampNeg = y := ⟨_, rfl⟩
  obtain ⟨v2, e2⟩ : ∃ y : Int32, xs (x3 + 2).toNatClampNeg = y := ⟨_, rfl⟩
  obtain ⟨v3, e3⟩ : ∃ y : Int32, xs (x3 + 3).toNatClampNeg = y := ⟨_, rfl⟩
  obtain ⟨q, hq, hq6, hq7⟩ := okH_q v1
  refine lv_aload_n hx hb dL_law_360 rfl (lv_at hl 2 rfl) ?_
  refine lv_aload_n hx hb dL_law_361 rfl (lv_at hl 3 rfl) ?_
  refine lv_iload_n hx hb dL_law_362 rfl (lv_at hl 0 rfl) ?_
  refine lv_iconst (v := 1) hx hb dL_law_363 (by decide) ?_
  refine lv_iadd hx hb dL_law_364 ?_
  refine va_sld hx hb hX hbl hbA hS (hin 1 (by decide)) dL_law_365 ?_
  rw [e1]
  refine lv_aload_n hx hb dL_law_366 rfl (lv_at hl 3 rfl) ?_
  refine lv_iload_n hx hb dL_law_367 rfl (lv_at hl 0 rfl) ?_
  refine lv_iconst (v := 2) hx hb dL_law_368 (by decide) ?_
  refine lv_iadd hx hb dL_law_369 ?_
  refine va_sld hx hb hX hbl hbA hS (hin 2 (by decide)) dL_law_370 ?_
  rw [e2]
  refine lv_aload_n hx hb dL_law_371 rfl (lv_at hl 3 rfl) ?_
  refine lv_iload_n hx hb dL_law_372 rfl (lv_at hl 0 rfl) ?_
  refine lv_iconst (v := 3) hx hb dL_law_373 (by decide) ?_
  refine lv_iadd hx hb dL_law_374 ?_
  refine va_sld hx hb hX hbl hbA hS (hin 3 (by decide)) dL_law_375 ?_
  rw [e3]
  have hq_6 : va_P D vwCl [((z 2), .inr (4, [.int y12, .int y13, .double y0, .double y1, .double y2, .double y3, .double y4, .double y5, .double y6, .double y7, .double y8, .double y9, .double y10, .double y11])), ((z 0), .inr (5, [.ref (z 1), .ref (z 2), .ref (z 3), .ref (z 4), .ref (z 6)])), ((z 1), .inl (cH, 4, .inr (.inr (.inr (.inr fh))))), ((z (9 + q)), .inr (1, [.int (N (13 * q)), .int (N (13 * q + 1)), .int (N (13 * q + 4)), .int (N (13 * q + 2)), .int (N (13 * q + 3)), .int (N (13 * q + 5)), .int (N (13 * q + 6)), .int (N (13 * q + 7)), .int (N (13 * q + 8)), .int (N (13 * q + 9)), .int (N (13 * q + 10)), .int (N (13 * q + 11)), .int (N (13 * q + 12))]))] H := fr_cons (hP.c2) (fr_cons (hP.c0) (fr_cons (hP.c1) (fr_cons ((hP.hg hq)) (fr_nil))))
  refine va_calll (va_runV (As := [.int v1, .int v2, .int v3]) (rest := []) ⟨hx, hb, hml, hown, hts⟩ (mX6_pose l D cI cH (z 0) (z 1) (z 2) (z 3) (z 4) (z 6) (z (9 + q)) fh y12 y13 y0 y1 y2 y3 y4 y5 y6 y7 y8 y9 y10 y11 (N (13 * q)) (N (13 * q + 1)) (N (13 * q + 4)) (N (13 * q + 2)) (N (13 * q + 3)) (N (13 * q + 5)) (N (13 * q + 6)) (N (13 * q + 7)) (N (13 * q + 8)) (N (13 * q + 9)) (N (13 * q + 10)) (N (13 * q + 11)) (N (13 * q + 12)) v1 v2 v3 (hz.ne 0 2 (by decide) (by decide) (by decide)) (hz.ne 1 2 (by decide) (by decide) (by decide)) (hz.ne (9 + q) 2 (by omega) (by decide) (by omega)) (hhg q hq) (fun h9 => by rw [hq6 h9]; exact hfh q hq)) (cwV 3 hts gL_law_X6_pose rfl rfl rfl (by decide +kernel) ⟨Nat.le_of_ble_eq_true rfl, Nat.le_of_ble_eq_true rfl⟩) ⟨kB_blind, va_recv hw.1 hq_6 (ci := 5) (q0 := 1) rfl rfl, kB_go hq_6 hw⟩ rfl rfl hl.1 rfl (lv_room (Nat.le_of_ble_eq_true rfl)) dL_law_376 ⟨hc, hs9⟩) hS (fun q9 _ h9 => h9 ▸ hz.2 2 (by decide)) (fun q9 h9 => h9 ▸ hz.2 2 (by decide)) (fun r1 u1 t1 H1 locs ht1 hvm1 hp1 hB1 hz11 hkh1 hS => ?_)
  have hB1 : va_at D vwCl (z 2, .inr (4, u1)) t1.heap := hB1
  rw [ht1] at hB1
  refine lv_aload_n hx hb dL_law_379 rfl (lv_at hl 1 rfl) ?_
  refine lv_aload_n hx hb dL_law_380 rfl (lv_at hl 3 rfl) ?_
  refine lv_iload_n hx hb dL_law_381 rfl (lv_at hl 0 rfl) ?_
  refine lv_iconst (v := 1) hx hb dL_law_382 (by decide) ?_
  refine lv_iadd hx hb dL_law_383 ?_
  refine va_sld hx hb hX hbl hbA hS (hin 1 (by decide)) dL_law_384 ?_
  rw [e1]
  refine lv_aload_n hx hb dL_law_385 rfl (lv_at hl 3 rfl) ?_
  refine lv_iload_n hx hb dL_law_386 rfl (lv_at hl 0 rfl) ?_
  refine lv_iconst (v := 2) hx hb dL_law_387 (by decide) ?_
  refine lv_iadd hx hb dL_law_388 ?_
  refine va_sld hx hb hX hbl hbA hS (hin 2 (by decide)) dL_law_389 ?_
  rw [e2]
  refine lv_aload_n hx hb dL_law_390 rfl (lv_at hl 3 rfl) ?_
  refine lv_iload_n hx hb dL_law_391 rfl (lv_at hl 0 rfl) ?_
  refine lv_iconst (v := 3) hx hb dL_law_392 (by decide) ?_
  refine lv_iadd hx hb dL_law_393 ?_
  refine va_sld hx hb hX hbl hbA hS (hin 3 (by decide)) dL_law_394 ?_
  rw [e3]
  have hq_7 : va_P D vwCl [((z 13), .inr (6, [.ref (z 14), .double w0, .double w1, .double w2, .double w3, .double w4, .double w5, .double w6, .double w7, .double w8, .double w9, .int ct, .int cp, .int cr, .int ctr, .int cfs, .int (nI k), .ref (z 15), .int (nI k2), .ref (z 16), .ref (z 17), .double w10])), ((z 14), .inl (cI, 52, .inl N))] H1 := fr_cons (va_at.kept (hP.c13) (hkh1 _ (va_at_lt (hP.c13)) (hz.ne 13 2 (by decide) (by decide) (by decide)))) (fr_cons (va_at.kept (hP.c14) (hkh1 _ (va_at_lt (hP.c14)) (hz.ne 14 2 (by decide) (by decide) (by decide)))) (fr_nil))
  refine va_calll (va_runV (As := [.int v1, .int v2, .int v3]) (rest := [.long r1]) ⟨hx, hb, hml, hown, hts⟩ (mX7_pose l D cI cH (z 13) (z 14) (z 15) (z 16) (z 17) k k2 q N ct cp cr ctr cfs w0 w1 w2 w3 w4 w5 w6 w7 w8 w9 w10 (N (13 * q)) (N (13 * q + 1)) (N (13 * q + 2)) (N (13 * q + 3)) (N (13 * q + 4)) (N (13 * q + 5)) (N (13 * q + 6)) (N (13 * q + 7)) (N (13 * q + 8)) (N (13 * q + 9)) (N (13 * q + 10)) (N (13 * q + 11)) (N (13 * q + 12)) v1 v2 v3 hq (hz.ne 14 13 (by decide) (by decide) (by decide)) ⟨rfl, rfl, rfl, rfl, rfl, rfl, rfl, rfl, rfl, rfl, rfl, rfl, rfl⟩ (hhg q hq) hq7) (cwV 3 hts gL_law_X7_pose rfl rfl rfl (by decide +kernel) ⟨Nat.le_of_ble_eq_true rfl, Nat.le_of_ble_eq_true rfl⟩) ⟨kB_blind, va_recv hw.1 hq_7 (ci := 6) (q0 := 0) rfl rfl, kB_go hq_7 hw⟩ rfl rfl hl.1 rfl (lv_room (Nat.le_of_ble_eq_true rfl)) dL_law_395 ⟨hc, hs9⟩) hS (fun q9 _ h9 => h9 ▸ hz.2 13 (by decide)) (fun q9 h9 => h9 ▸ hz.2 13 (by decide)) (fun r2 u2 t2 H2 locs ht2 hvm2 hp2 hB2 hz22 hkh2 hS => ?_)
  have hB2 : va_at D vwCl (z 13, .inr (6, u2)) t2.heap := hB2
  rw [ht2] at hB2
  obtain ⟨hr1, hu1⟩ := hp1
  obtain ⟨hr2, hu2⟩ := hp2
  refine W.lcmp hx hb dL_law_398 ?_
  refine lv_if_eq (tgt := 828) hx hb dL_law_399 (by decide) (fun _ => ?_) (fun c9 => absurd ((lg_cmp_eq r1 r2).mpr (hr1.trans hr2.symm)) c9)
  exact kk H2 locs ⟨N, ft, f1, f2, k, k2, ct, cp, cr, ctr, cfs, _, _, hok, hu1, hu2, fin_st hz hP hkh1 hkh2 hB1 hB2⟩ hS
