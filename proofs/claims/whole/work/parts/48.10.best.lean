/-! THE LAW'S CALLS: best -/
set_option maxHeartbeats 400000 in
set_option maxRecDepth 100000 in
theorem br_best {p : Program} {l : Launch} {e : Env} {s : State} {m : MethodId} {args : Array Value} {below : List Frame} {meth : Method} {co : Code} {Q : State → Prop} {A : Nat → Prop} {b L : Nat} {xs : Nat → Int32} {x3 : Int32} {H : Heap} {locs : List Loc} {cells slots : Nat} {ls : Array Slot} {D : va_G} {cI cH : ClassId} {z : Nat → Nat} {fh : Nat → Option Nat} (hc : cells ≤ 600000) (hs9 : slots ≤ 7302250) (hx : p.tables.exec = Jvm.exec) (hb : co.code = cL_law) (hml : co.maxLocals = 4) (hown : s.vm.findClass RL = some m.cls) (hts : ∀ w ∈ wsL_law, w.before args s = true) (hw : wk D cI cH s) (hX : va_X b L xs s s.heap) (hbl : b < s.heap.size) (hbA : ¬ A b) (hz : zOk A z) (hfh : ∀ j, j < 4 → fh j = some (z (9 + j))) (hin : ∀ v : Int32, isW v 0 9 = true → vp_in (x3 + v) L) (hS : va_S A s.heap H locs) (hI : inv D cI cH z fh H) (hl : lv_has ls 4 [(3, .int x3), (2, .ref (z 13)), (1, .ref (z 0)), (0, .ref b)]) (kk : ∀ (H : Heap) (locs : List Loc), inv D cI cH z fh H → va_S A s.heap H locs → W p l e room_1 s m args below meth co H locs cells slots Q (F0 m 828 ls [])) : W p l e room_1 s m args below meth co H locs cells slots Q (F0 m 569 ls []) := by
  obtain ⟨N, ft, f1, f2, k, k2, ct, cp, cr, ctr, cfs, us, um, hok, hus, hum, hP⟩ := hI
  obtain ⟨y12, y13, y0, y1, y2, y3, y4, y5, y6, y7, y8, y9, y10, y11, rfl⟩ := hus
  obtain ⟨w0, w1, w2, w3, w4, w5, w6, w7, w8, w9, w10, rfl⟩ := hum
  obtain ⟨hk, hk2, hhg, hft, hrd⟩ := id hok
  obtain ⟨v1, e1⟩ : ∃ y : Int32, xs (x3 + 1).toNatClampNeg = y := ⟨_, rfl⟩
  obtain ⟨v2, e2⟩ : ∃ y : Int32, xs (x3 + 2).toNatClampNeg = y := ⟨_, rfl⟩
  refine lv_aload_n hx hb dL_law_569 rfl (lv_at hl 2 rfl) ?_
  refine lv_aload_n hx hb dL_law_570 rfl (lv_at hl 3 rfl) ?_
  refine lv_iload_n hx hb dL_law_571 rfl (lv_at hl 0 rfl) ?_
  refine lv_iconst (v := 1) hx hb dL_law_572 (by decide) ?_
  refine lv_iadd hx hb dL_law_573 ?_
  refine va_sld hx hb hX hbl hbA hS (hin 1 (by decide)) dL_law_574 ?_
  rw [e1]
  refine lv_aload_n hx hb dL_law_575 rfl (lv_at hl 3 rfl) ?_
  refine lv_iload_n hx hb dL_law_576 rfl (lv_at hl 0 rfl) ?_
  refine lv_iconst (v := 2) hx hb dL_law_577 (by decide) ?_
  refine lv_iadd hx hb dL_law_578 ?_
  refine va_sld hx hb hX hbl hbA hS (hin 2 (by decide)) dL_law_579 ?_
  rw [e2]
  have hq_6 : va_P D vwCl [((z 0), .inr (5, [.ref (z 1), .ref (z 2), .ref (z 3), .ref (z 4), .ref (z 6)])), ((z 4), .inr (3, [.ref (z 5), .int (nI k)])), ((z 5), .inl (cI, 10, .inl ft))] H := fr_cons (hP.c0) (fr_cons (hP.c4) (fr_cons (hP.c5) (fr_nil)))
  refine va_calli (va_runV (As := [.int v1, .int v2]) (rest := []) ⟨hx, hb, hml, hown, hts⟩ (mX6_best l D cI cH (z 0) (z 1) (z 2) (z 3) (z 4) (z 6) (z 5) k ft v1 v2 hk) (cwV 2 hts gL_law_X6_best rfl rfl rfl (by decide +kernel) ⟨Nat.le_of_ble_eq_true rfl, Nat.le_of_ble_eq_true rfl⟩) ⟨kB_blind, va_recv hw.1 hq_6 (ci := 5) (q0 := 0) rfl rfl, kB_go hq_6 hw⟩ rfl rfl hl.1 rfl (lv_room (Nat.le_of_ble_eq_true rfl)) dL_law_580 ⟨hc, hs9⟩) hS (fun q9 _ h9 => h9.elim) (fun q9 h9 => h9.elim) (fun r1 u1 t1 H1 locs ht1 hvm1 hp1 hB1 hz11 hkh1 hS => ?_)
  refine lv_aload_n hx hb dL_law_583 rfl (lv_at hl 1 rfl) ?_
  refine lv_aload_n hx hb dL_law_584 rfl (lv_at hl 3 rfl) ?_
  refine lv_iload_n hx hb dL_law_585 rfl (lv_at hl 0 rfl) ?_
  refine lv_iconst (v := 1) hx hb dL_law_586 (by decide) ?_
  refine lv_iadd hx hb dL_law_587 ?_
  refine va_sld hx hb hX hbl hbA hS (hin 1 (by decide)) dL_law_588 ?_
  rw [e1]
  refine lv_aload_n hx hb dL_law_589 rfl (lv_at hl 3 rfl) ?_
  refine lv_iload_n hx hb dL_law_590 rfl (lv_at hl 0 rfl) ?_
  refine lv_iconst (v := 2) hx hb dL_law_591 (by decide) ?_
  refine lv_iadd hx hb dL_law_592 ?_
  refine va_sld hx hb hX hbl hbA hS (hin 2 (by decide)) dL_law_593 ?_
  rw [e2]
  have hq_7 : va_P D vwCl [((z 13), .inr (6, [.ref (z 14), .double w0, .double w1, .double w2, .double w3, .double w4, .double w5, .double w6, .double w7, .double w8, .double w9, .int ct, .int cp, .int cr, .int ctr, .int cfs, .int (nI k), .ref (z 15), .int (nI k2), .ref (z 16), .ref (z 17), .double w10])), ((z 15), .inl (cI, 10, .inl ft))] H1 := fr_cons (va_at.kept (hP.c13) (hkh1 _ (va_at_lt (hP.c13)) (fun h9 => h9))) (fr_cons (va_at.kept (hP.c15) (hkh1 _ (va_at_lt (hP.c15)) (fun h9 => h9))) (fr_nil))
  refine va_calli (va_runV (As := [.int v1, .int v2]) (rest := [.int r1]) ⟨hx, hb, hml, hown, hts⟩ (mX7_best l D cI cH (z 13) (z 14) (z 15) (z 16) (z 17) k k2 ft ct cp cr ctr cfs w0 w1 w2 w3 w4 w5 w6 w7 w8 w9 w10 v1 v2 hk hft) (cwV 2 hts gL_law_X7_best rfl rfl rfl (by decide +kernel) ⟨Nat.le_of_ble_eq_true rfl, Nat.le_of_ble_eq_true rfl⟩) ⟨kB_blind, va_recv hw.1 hq_7 (ci := 6) (q0 := 0) rfl rfl, kB_go hq_7 hw⟩ rfl rfl hl.1 rfl (lv_room (Nat.le_of_ble_eq_true rfl)) dL_law_594 ⟨hc, hs9⟩) hS (fun q9 _ h9 => h9.elim) (fun q9 h9 => h9.elim) (fun r2 u2 t2 H2 locs ht2 hvm2 hp2 hB2 hz22 hkh2 hS => ?_)
  refine lv_icmp_eq (tgt := 828) hx hb dL_law_597 (by decide) (fun _ => ?_) (fun c9 => absurd (hp1.trans hp2.symm) c9)
  exact kk H2 locs ⟨N, ft, f1, f2, k, k2, ct, cp, cr, ctr, cfs, _, _, hok, ⟨_, _, _, _, _, _, _, _, _, _, _, _, _, _, rfl⟩, ⟨_, _, _, _, _, _, _, _, _, _, _, rfl⟩, fin_no hz hP hkh1 hkh2⟩ hS
