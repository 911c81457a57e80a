/-! THE LAW'S CALLS: reading -/
set_option maxHeartbeats 400000 in
set_option maxRecDepth 100000 in
theorem br_reading {p : Program} {l : Launch} {e : Env} {s : State} {m : MethodId} {args : Array Value} {below : List Frame} {meth : Method} {co : Code} {Q : State → Prop} {A : Nat → Prop} {b L : Nat} {xs : Nat → Int32} {x3 : Int32} {H : Heap} {locs : List Loc} {cells slots : Nat} {ls : Array Slot} {D : va_G} {cI cH : ClassId} {z : Nat → Nat} {fh : Nat → Option Nat} (hc : cells ≤ 600000) (hs9 : slots ≤ 7302250) (hx : p.tables.exec = Jvm.exec) (hb : co.code = cL_law) (hml : co.maxLocals = 4) (hown : s.vm.findClass RL = some m.cls) (hts : ∀ w ∈ wsL_law, w.before args s = true) (hw : wk D cI cH s) (hX : va_X b L xs s s.heap) (hbl : b < s.heap.size) (hbA : ¬ A b) (hz : zOk A z) (hfh : ∀ j, j < 4 → fh j = some (z (9 + j))) (hin : ∀ v : Int32, isW v 0 9 = true → vp_in (x3 + v) L) (hS : va_S A s.heap H locs) (hI : inv D cI cH z fh H) (hl : lv_has ls 4 [(3, .int x3), (2, .ref (z 13)), (1, .ref (z 0)), (0, .ref b)]) (kk : ∀ (H : Heap) (locs : List Loc), inv D cI cH z fh H → va_S A s.heap H locs → W p l e room_1 s m args below meth co H locs cells slots Q (F0 m 828 ls [])) : W p l e room_1 s m args below meth co H locs cells slots Q (F0 m 602 ls []) := by
  obtain ⟨N, ft, f1, f2, k, k2, ct, cp, cr, ctr, cfs, us, um, hok, hus, hum, hP⟩ := hI
  obtain ⟨y12, y13, y0, y1, y2, y3, y4, y5, y6, y7, y8, y9, y10, y11, rfl⟩ := hus
  obtain ⟨w0, w1, w2, w3, w4, w5, w6, w7, w8, w9, w10, rfl⟩ := hum
  obtain ⟨hk, hk2, hhg, hft, hrd⟩ := id hok
  obtain ⟨v1, e1⟩ : ∃ y : Int32, xs (x3 + 1).toNatClampNeg = y := ⟨_, rfl⟩
  obtain ⟨v2, e2⟩ : ∃ y : Int32, xs (x3 + 2).toNatClampNeg = y := ⟨_, rfl⟩
  refine lv_aload_n hx hb dL_law_602 rfl (lv_at hl 2 rfl) ?_
  refine lv_aload_n hx hb dL_law_603 rfl (lv_at hl 3 rfl) ?_
  refine lv_iload_n hx hb dL_law_604 rfl (lv_at hl 0 rfl) ?_
  refine lv_iconst (v := 1) hx hb dL_law_605 (by decide) ?_
  refine lv_iadd hx hb dL_law_606 ?_
  refine va_sld hx hb hX hbl hbA hS (hin 1 (by decide)) dL_law_607 ?_
  rw [e1]
  refine lv_aload_n hx hb dL_law_608 rfl (lv_at hl 3 rfl) ?_
  refine lv_iload_n hx hb dL_law_609 rfl (lv_at hl 0 rfl) ?_
  refine lv_iconst (v := 2) hx hb dL_law_610 (by decide) ?_
  refine lv_iadd hx hb dL_law_611 ?_
  refine va_sld hx hb hX hbl hbA hS (hin 2 (by decide)) dL_law_612 ?_
  rw [e2]
  have hq_6 : va_P D vwCl [((z 6), .inr (2, [.ref (z 7), .ref (z 8), .int (nI k2)])), ((z 7), .inl (cI, 12, .inl f1)), ((z 8), .inl (cI, 12, .inl f2)), ((z 0), .inr (5, [.ref (z 1), .ref (z 2), .ref (z 3), .ref (z 4), .ref (z 6)]))] H := fr_cons (hP.c6) (fr_cons (hP.c7) (fr_cons (hP.c8) (fr_cons (hP.c0) (fr_nil))))
  refine va_calli (va_runV (As := [.int v1, .int v2]) (rest := []) ⟨hx, hb, hml, hown, hts⟩ (mX6_reading l D cI cH (z 0) (z 1) (z 2) (z 3) (z 4) (z 6) (z 7) (z 8) k2 f1 f2 v1 v2 hk2 (hz.ne 7 6 (by decide) (by decide) (by decide)) (hz.ne 8 6 (by decide) (by decide) (by decide)) (hz.ne 8 7 (by decide) (by decide) (by decide)) (hz.ne 0 6 (by decide) (by decide) (by decide)) (hz.ne 0 7 (by decide) (by decide) (by decide)) (hz.ne 0 8 (by decide) (by decide) (by decide))) (cwV 2 hts gL_law_X6_reading rfl rfl rfl (by decide +kernel) ⟨Nat.le_of_ble_eq_true rfl, Nat.le_of_ble_eq_true rfl⟩) ⟨kB_blind, va_recv hw.1 hq_6 (ci := 5) (q0 := 3) rfl rfl, kB_go hq_6 hw⟩ rfl rfl hl.1 rfl (lv_room (Nat.le_of_ble_eq_true rfl)) dL_law_613 ⟨hc, hs9⟩) hS (fun q9 _ h9 => h9.elim (fun h9 => h9 ▸ hz.2 6 (by decide)) (fun h9 => h9.elim (fun h9 => h9 ▸ hz.2 7 (by decide)) (fun h9 => h9 ▸ hz.2 8 (by decide)))) (fun q9 h9 => h9.elim (fun h9 => h9 ▸ hz.2 6 (by decide)) (fun h9 => h9.elim (fun h9 => h9 ▸ hz.2 7 (by decide)) (fun h9 => h9 ▸ hz.2 8 (by decide)))) (fun r1 u1 t1 H1 locs ht1 hvm1 hp1 hB1 hz11 hkh1 hS => ?_)
  obtain ⟨hB1, hC1, hD1⟩ := hB1
  have hB1 : va_at D vwCl (z 6, .inr (2, [.ref (z 7), .ref (z 8), .int u1.1])) t1.heap := hB1
  rw [ht1] at hB1
  have hC1 : va_at D vwCl (z 7, .inl (cI, 12, .inl u1.2.1)) t1.heap := hC1
  rw [ht1] at hC1
  have hD1 : va_at D vwCl (z 8, .inl (cI, 12, .inl u1.2.2)) t1.heap := hD1
  rw [ht1] at hD1
  refine lv_aload_n hx hb dL_law_616 rfl (lv_at hl 1 rfl) ?_
  refine lv_aload_n hx hb dL_law_617 rfl (lv_at hl 3 rfl) ?_
  refine lv_iload_n hx hb dL_law_618 rfl (lv_at hl 0 rfl) ?_
  refine lv_iconst (v := 1) hx hb dL_law_619 (by decide) ?_
  refine lv_iadd hx hb dL_law_620 ?_
  refine va_sld hx hb hX hbl hbA hS (hin 1 (by decide)) dL_law_621 ?_
  rw [e1]
  refine lv_aload_n hx hb dL_law_622 rfl (lv_at hl 3 rfl) ?_
  refine lv_iload_n hx hb dL_law_623 rfl (lv_at hl 0 rfl) ?_
  refine lv_iconst (v := 2) hx hb dL_law_624 (by decide) ?_
  refine lv_iadd hx hb dL_law_625 ?_
  refine va_sld hx hb hX hbl hbA hS (hin 2 (by decide)) dL_law_626 ?_
  rw [e2]
  have hq_7 : va_P D vwCl [((z 13), .inr (6, [.ref (z 14), .double w0, .double w1, .double w2, .double w3, .double w4, .double w5, .double w6, .double w7, .double w8, .double w9, .int ct, .int cp, .int cr, .int ctr, .int cfs, .int (nI k), .ref (z 15), .int (nI k2), .ref (z 16), .ref (z 17), .double w10])), ((z 16), .inl (cI, 12, .inl f1)), ((z 17), .inl (cI, 12, .inl f2))] H1 := fr_cons (va_at.kept (hP.c13) (hkh1 _ (va_at_lt (hP.c13)) (fun h9 => h9.elim (hz.ne 13 6 (by decide) (by decide) (by decide)) (fun h9 => h9.elim (hz.ne 13 7 (by decide) (by decide) (by decide)) (hz.ne 13 8 (by decide) (by decide) (by decide)))))) (fr_cons (va_at.kept (hP.c16) (hkh1 _ (va_at_lt (hP.c16)) (fun h9 => h9.elim (hz.ne 16 6 (by decide) (by decide) (by decide)) (fun h9 => h9.elim (hz.ne 16 7 (by decide) (by decide) (by decide)) (hz.ne 16 8 (by decide) (by decide) (by decide)))))) (fr_cons (va_at.kept (hP.c17) (hkh1 _ (va_at_lt (hP.c17)) (fun h9 => h9.elim (hz.ne 17 6 (by decide) (by decide) (by decide)) (fun h9 => h9.elim (hz.ne 17 7 (by decide) (by decide) (by decide)) (hz.ne 17 8 (by decide) (by decide) (by decide)))))) (fr_nil)))
  refine va_calli (va_runV (As := [.int v1, .int v2]) (rest := [.int r1]) ⟨hx, hb, hml, hown, hts⟩ (mX7_reading l D cI cH (z 13) (z 14) (z 15) (z 16) (z 17) k k2 ct cp cr ctr cfs w0 w1 w2 w3 w4 w5 w6 w7 w8 w9 w10 f1 f2 v1 v2 hk2 (hz.ne 16 13 (by decide) (by decide) (by decide)) (hz.ne 17 13 (by decide) (by decide) (by decide)) (hz.ne 17 16 (by decide) (by decide) (by decide))) (cwV 2 hts gL_law_X7_reading rfl rfl rfl (by decide +kernel) ⟨Nat.le_of_ble_eq_true rfl, Nat.le_of_ble_eq_true rfl⟩) ⟨kB_blind, va_recv hw.1 hq_7 (ci := 6) (q0 := 0) rfl rfl, kB_go hq_7 hw⟩ rfl rfl hl.1 rfl (lv_room (Nat.le_of_ble_eq_true rfl)) dL_law_627 ⟨hc, hs9⟩) hS (fun q9 _ h9 => h9.elim (fun h9 => h9 ▸ hz.2 13 (by decide)) (fun h9 => h9.elim (fun h9 => h9 ▸ hz.2 16 (by decide)) (fun h9 => h9 ▸ hz.2 17 (by decide)))) (fun q9 h9 => h9.elim (fun h9 => h9 ▸ hz.2 13 (by decide)) (fun h9 => h9.elim (fun h9 => h9 ▸ hz.2 16 (by decide)) (fun h9 => h9 ▸ hz.2 17 (by decide)))) (fun r2 u2 t2 H2 locs ht2 hvm2 hp2 hB2 hz22 hkh2 hS => ?_)
  obtain ⟨hB2, hC2, hD2⟩ := hB2
  have hB2 : va_at D vwCl (z 13, .inr (6, u2.1)) t2.heap := hB2
  rw [ht2] at hB2
  have hC2 : va_at D vwCl (z 16, .inl (cI, 12, .inl u2.2.1)) t2.heap := hC2
  rw [ht2] at hC2
  have hD2 : va_at D vwCl (z 17, .inl (cI, 12, .inl u2.2.2)) t2.heap := hD2
  rw [ht2] at hD2
  have eq9 : r1 = r2 := by
    by_cases hv : (okC v1 && isW v2 (-5000) 5000) = true
    · rw [if_pos hv] at hp1 hp2
      by_cases hf : k2 < 12
      · rw [if_pos hf] at hp1 hp2
        exact hp1.1.trans hp2.1.symm
      · rw [if_neg hf] at hp1 hp2
        exact hp1.1.trans hp2.1.symm
    · rw [if_neg hv] at hp1 hp2
      exact hp1.1.trans hp2.1.symm
  refine lv_icmp_eq (tgt := 828) hx hb dL_law_630 (by decide) (fun _ => ?_) (fun c9 => absurd eq9 c9)
  by_cases hv : (okC v1 && isW v2 (-5000) 5000) = true
  · rw [if_pos hv] at hp1 hp2
    by_cases hf : k2 < 12
    · rw [if_pos hf] at hp1 hp2
      obtain ⟨hr1, rfl⟩ := hp1
      obtain ⟨hr2, hu2, hn2, hm2⟩ := hp2
      rw [hn2] at hC2
      rw [hm2] at hD2
      have hrd9 : ∀ j, j < k2 + 1 → cB (upd f1 k2 v1 j) ∧ rB (upd f2 k2 v2 j) := by
        intro j hj
        rw [Bool.and_eq_true] at hv
        by_cases ej : j = k2
        · rw [ej, upd_self, upd_self]
          exact ⟨okC_c hv.1, isW_i hv.2⟩
        · rw [upd_off _ _ ej, upd_off _ _ ej]
          exact hrd j (by omega)
      exact kk H2 locs ⟨N, ft, (upd f1 k2 v1), (upd f2 k2 v2), k, (k2 + 1), ct, cp, cr, ctr, cfs, _, _, ⟨hk, by omega, hhg, hft, hrd9⟩, ⟨_, _, _, _, _, _, _, _, _, _, _, _, _, _, rfl⟩, hu2, fin_rd hz hP hkh1 hkh2 hB1 hC1 hD1 hB2 hC2 hD2⟩ hS
    · rw [if_neg hf] at hp1 hp2
      obtain ⟨hr1, rfl⟩ := hp1
      obtain ⟨hr2, hu2, hn2, hm2⟩ := hp2
      rw [hn2] at hC2
      rw [hm2] at hD2
      exact kk H2 locs ⟨N, ft, f1, f2, k, k2, ct, cp, cr, ctr, cfs, _, _, hok, ⟨_, _, _, _, _, _, _, _, _, _, _, _, _, _, rfl⟩, hu2, fin_rd hz hP hkh1 hkh2 hB1 hC1 hD1 hB2 hC2 hD2⟩ hS
  · rw [if_neg hv] at hp1 hp2
    obtain ⟨hr1, rfl⟩ := hp1
    obtain ⟨hr2, hu2, hn2, hm2⟩ := hp2
    rw [hn2] at hC2
    rw [hm2] at hD2
    exact kk H2 locs ⟨N, ft, f1, f2, k, k2, ct, cp, cr, ctr, cfs, _, _, hok, ⟨_, _, _, _, _, _, _, _, _, _, _, _, _, _, rfl⟩, hu2, fin_rd hz hP hkh1 hkh2 hB1 hC1 hD1 hB2 hC2 hD2⟩ hS
