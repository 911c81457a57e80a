/-! THE MODEL (X7): digest, best -/
set_option maxHeartbeats 4000000 in
set_option maxRecDepth 100000 in
theorem lpX7_d1 {p : Program} {l : Launch} {e : Env} {s : State} {m : MethodId} {args : Array Value} {below : List Frame} {meth : Method} {co : Code} {Q : State → Prop} (D : va_G) (cI cH : ClassId) (hx : p.tables.exec = Jvm.exec) (hb : co.code = cX7_digest) (hml : co.maxLocals = 4) (hown : s.vm.findClass RX7 = some m.cls) (hts : ∀ w ∈ wsX7_digest, w.before args s = true) (hw : wk D cI cH s)  {mo nu sh ra rr k k2 : Nat} {N ft f1 f2 : Nat → Int32} {ct cp cr ctr cfs : Int32} {p0 p1 p2 p3 p4 p5 p6 p7 p8 p9 po : UInt64} {h : Int64} (hR0 : va_P D vwCl [(mo, .inr (6, [.ref nu, .double p0, .double p1, .double p2, .double p3, .double p4, .double p5, .double p6, .double p7, .double p8, .double p9, .int ct, .int cp, .int cr, .int ctr, .int cfs, .int (nI k), .ref sh, .int (nI k2), .ref ra, .ref rr, .double po])), (nu, .inl (cI, 52, .inl N))] s.heap) (kk : ∀ (H : Heap) (locs : List Loc) (ls : Array Slot), va_S nA s.heap H locs → lv_has ls 4 [(3, .int (nI 52)), (1, .long (mxS N h 52)), (0, .ref mo)] → W p l e ({ frames := 2, cells := 0, slots := 0, locals := 47 } : Room) s m args below meth co H locs 0 0 Q (F0 m 48 ls [])) : ∀ (n j : Nat) (H : Heap) (locs : List Loc) (ls : Array Slot), va_S nA s.heap H locs → j + n = 52 → lv_has ls 4 [(3, .int (nI j)), (1, .long (mxS N h j)), (0, .ref mo)] → W p l e ({ frames := 2, cells := 0, slots := 0, locals := 47 } : Room) s m args below meth co H locs 0 0 Q (F0 m 22 ls []) := by
  have hinX7 : ∀ w ∈ wsX70, w ∈ wsX7_digest := by decide +kernel
  have hnr : ∀ (k9 : Nat) (q : Nat × va_E), ([(mo, .inr (6, [.ref nu, .double p0, .double p1, .double p2, .double p3, .double p4, .double p5, .double p6, .double p7, .double p8, .double p9, .int ct, .int cp, .int cr, .int ctr, .int cfs, .int (nI k), .ref sh, .int (nI k2), .ref ra, .ref rr, .double po])), (nu, .inl (cI, 52, .inl N))] : va_W)[k9]? = some q → ¬ nA q.1 := fr_nA
  intro n
  induction n with
  | zero =>
    intro j H locs ls hS hj hl
    have hjk : j = 52 := by omega
    subst hjk
    have hR := fr_rd hR0 hS hnr
    refine lv_iload_n hx hb dX7_digest_22 rfl (lv_at hl 0 rfl) ?_
    refine lv_bipush (v := 52) hx hb dX7_digest_23 (by decide) ?_
    refine lv_icmp_ge (tgt := 48) hx hb dX7_digest_25 (by decide) (fun c1 => ?_) (fun c1 => ?_)
    · have iw2 := Int32.not_lt.mpr c1
      exact kk H locs ls hS (lv_sub hl [0, 1, 2] rfl)
    · have iw3 := Int32.not_le.mp c1
      exact absurd (by decide) c1
  | succ n ih =>
    intro j H locs ls hS hj hl
    have hR := fr_rd hR0 hS hnr
    refine lv_iload_n hx hb dX7_digest_22 rfl (lv_at hl 0 rfl) ?_
    refine lv_bipush (v := 52) hx hb dX7_digest_23 (by decide) ?_
    refine lv_icmp_ge (tgt := 48) hx hb dX7_digest_25 (by decide) (fun c1 => ?_) (fun c1 => ?_)
    · have iw2 := Int32.not_lt.mpr c1
      exact absurd ((nI_leI (by omega) (by omega)).mp (show nI 52 ≤ nI j from c1)) (by omega)
    · have iw3 := Int32.not_le.mp c1
      refine lv_ldc2 hx hb hown (hts (.constantLong RX7 153 (31)) (by decide +kernel)) dX7_digest_28 ?_
      refine lv_lload_n hx hb dX7_digest_31 rfl (lv_at hl 1 rfl) ?_
      refine lv_lmul hx hb dX7_digest_32 ?_
      refine lv_aload_n hx hb dX7_digest_33 rfl (lv_at hl 2 rfl) ?_
      refine va_get (D := D) (ci := 6) (v := .ref nu) (C := RX7) (T := TX7) (N := 22) hx hb hts hinX7 hown hw.1 hR 0 rfl rfl 0 (by decide) (hts (.fieldLink RX7 19 "WheelSwingModel" "number" "[I") (by decide +kernel)) (fun _ h9 => h9) rfl dX7_digest_34 ?_
      refine lv_iload_n hx hb dX7_digest_37 rfl (lv_at hl 0 rfl) ?_
      refine va_iald hx hb hw.1 hR 1 0 rfl rfl (vp_in_nI (by omega) (by omega)) dX7_digest_38 ?_
      rw [nI_clamp (n := j) (by omega)]
      refine lv_i2l (v := Int32.toInt64 (N j)) hx hb dX7_digest_39 rfl ?_
      refine lv_ladd hx hb dX7_digest_40 ?_
      refine lv_topl (fun z4 ez4 => ?_)
      have ez4 : z4 = mx (mxS N h j) (N j) := ez4
      subst ez4
      refine lv_lstore_n (lv' := [(1, .long (mx (mxS N h j) (N j))), (3, .int (nI j)), (0, .ref mo)]) hx hb dX7_digest_41 rfl hl (by decide) rfl (fun ls hl => ?_)
      refine lv_iinc (v := (nI j) + 1) (lv' := [(3, .int ((nI j) + 1)), (1, .long (mx (mxS N h j) (N j))), (0, .ref mo)]) hx hb dX7_digest_42 hl (k := 1) rfl rfl (by decide) rfl (fun ls hl => ?_)
      refine lv_goto (tgt := 22) hx hb dX7_digest_45 (by decide) ?_
      have h9 : lv_has ls 4 [(3, .int (nI (j + 1))), (1, .long (mxS N h (j + 1))), (0, .ref mo)] := by have h8 := (lv_sub hl [0, 1, 2] rfl); rw [nI_1] at h8; rw [mxS_s]; exact h8
      exact ih (j + 1) _ _ ls hS (by omega) h9
set_option maxHeartbeats 4000000 in
set_option maxRecDepth 100000 in
theorem lpX7_d3 {p : Program} {l : Launch} {e : Env} {s : State} {m : MethodId} {args : Array Value} {below : List Frame} {meth : Method} {co : Code} {Q : State → Prop} (D : va_G) (cI cH : ClassId) (hx : p.tables.exec = Jvm.exec) (hb : co.code = cX7_digest) (hml : co.maxLocals = 4) (hown : s.vm.findClass RX7 = some m.cls) (hts : ∀ w ∈ wsX7_digest, w.before args s = true) (hw : wk D cI cH s)  {mo nu sh ra rr k k2 : Nat} {N ft f1 f2 : Nat → Int32} {ct cp cr ctr cfs : Int32} {p0 p1 p2 p3 p4 p5 p6 p7 p8 p9 po : UInt64} {h : Int64} (hR0 : va_P D vwCl [(mo, .inr (6, [.ref nu, .double p0, .double p1, .double p2, .double p3, .double p4, .double p5, .double p6, .double p7, .double p8, .double p9, .int ct, .int cp, .int cr, .int ctr, .int cfs, .int (nI k), .ref sh, .int (nI k2), .ref ra, .ref rr, .double po])), (sh, .inl (cI, 10, .inl ft))] s.heap) (hk : k ≤ 10) (kk : ∀ (H : Heap) (locs : List Loc) (ls : Array Slot), va_S nA s.heap H locs → lv_has ls 4 [(3, .int (nI k)), (1, .long (mxS ft h k)), (0, .ref mo)] → W p l e ({ frames := 2, cells := 0, slots := 0, locals := 47 } : Room) s m args below meth co H locs 0 0 Q (F0 m 104 ls [])) : ∀ (n j : Nat) (H : Heap) (locs : List Loc) (ls : Array Slot), va_S nA s.heap H locs → j + n = k → lv_has ls 4 [(3, .int (nI j)), (1, .long (mxS ft h j)), (0, .ref mo)] → W p l e ({ frames := 2, cells := 0, slots := 0, locals := 47 } : Room) s m args below meth co H locs 0 0 Q (F0 m 76 ls []) := by
  have hinX7 : ∀ w ∈ wsX70, w ∈ wsX7_digest := by decide +kernel
  have hnr : ∀ (k9 : Nat) (q : Nat × va_E), ([(mo, .inr (6, [.ref nu, .double p0, .double p1, .double p2, .double p3, .double p4, .double p5, .double p6, .double p7, .double p8, .double p9, .int ct, .int cp, .int cr, .int ctr, .int cfs, .int (nI k), .ref sh, .int (nI k2), .ref ra, .ref rr, .double po])), (sh, .inl (cI, 10, .inl ft))] : va_W)[k9]? = some q → ¬ nA q.1 := fr_nA
  intro n
  induction n with
  | zero =>
    intro j H locs ls hS hj hl
    have hjk : j = k := by omega
    subst hjk
    have hR := fr_rd hR0 hS hnr
    refine lv_iload_n hx hb dX7_digest_76 rfl (lv_at hl 0 rfl) ?_
    refine lv_aload_n hx hb dX7_digest_77 rfl (lv_at hl 2 rfl) ?_
    refine va_get (D := D) (ci := 6) (v := .int (nI j)) (C := RX7) (T := TX7) (N := 22) hx hb hts hinX7 hown hw.1 hR 0 rfl rfl 16 (by decide) (hts (.fieldLink RX7 137 "WheelSwingModel" "shims" "I") (by decide +kernel)) (fun _ h9 => h9) rfl dX7_digest_78 ?_
    refine lv_icmp_ge (tgt := 104) hx hb dX7_digest_81 (by decide) (fun c1 => ?_) (fun c1 => ?_)
    · have iw2 := Int32.not_lt.mpr c1
      exact kk H locs ls hS (lv_sub hl [0, 1, 2] rfl)
    · have iw3 := Int32.not_le.mp c1
      exact absurd (Int32.le_refl _) c1
  | succ n ih =>
    intro j H locs ls hS hj hl
    have hR := fr_rd hR0 hS hnr
    refine lv_iload_n hx hb dX7_digest_76 rfl (lv_at hl 0 rfl) ?_
    refine lv_aload_n hx hb dX7_digest_77 rfl (lv_at hl 2 rfl) ?_
    refine va_get (D := D) (ci := 6) (v := .int (nI k)) (C := RX7) (T := TX7) (N := 22) hx hb hts hinX7 hown hw.1 hR 0 rfl rfl 16 (by decide) (hts (.fieldLink RX7 137 "WheelSwingModel" "shims" "I") (by decide +kernel)) (fun _ h9 => h9) rfl dX7_digest_78 ?_
    refine lv_icmp_ge (tgt := 104) hx hb dX7_digest_81 (by decide) (fun c1 => ?_) (fun c1 => ?_)
    · have iw2 := Int32.not_lt.mpr c1
      exact absurd ((nI_leI (by omega) (by omega)).mp (show nI k ≤ nI j from c1)) (by omega)
    · have iw3 := Int32.not_le.mp c1
      refine lv_ldc2 hx hb hown (hts (.constantLong RX7 153 (31)) (by decide +kernel)) dX7_digest_84 ?_
      refine lv_lload_n hx hb dX7_digest_87 rfl (lv_at hl 1 rfl) ?_
      refine lv_lmul hx hb dX7_digest_88 ?_
      refine lv_aload_n hx hb dX7_digest_89 rfl (lv_at hl 2 rfl) ?_
      refine va_get (D := D) (ci := 6) (v := .ref sh) (C := RX7) (T := TX7) (N := 22) hx hb hts hinX7 hown hw.1 hR 0 rfl rfl 17 (by decide) (hts (.fieldLink RX7 25 "WheelSwingModel" "shim" "[I") (by decide +kernel)) (fun _ h9 => h9) rfl dX7_digest_90 ?_
      refine lv_iload_n hx hb dX7_digest_93 rfl (lv_at hl 0 rfl) ?_
      refine va_iald hx hb hw.1 hR 1 0 rfl rfl (ix_in (show j < k by omega) hk (by omega)) dX7_digest_94 ?_
      rw [nI_clamp (n := j) (by omega)]
      refine lv_i2l (v := Int32.toInt64 (ft j)) hx hb dX7_digest_95 rfl ?_
      refine lv_ladd hx hb dX7_digest_96 ?_
      refine lv_topl (fun z4 ez4 => ?_)
      have ez4 : z4 = mx (mxS ft h j) (ft j) := ez4
      subst ez4
      refine lv_lstore_n (lv' := [(1, .long (mx (mxS ft h j) (ft j))), (3, .int (nI j)), (0, .ref mo)]) hx hb dX7_digest_97 rfl hl (by decide) rfl (fun ls hl => ?_)
      refine lv_iinc (v := (nI j) + 1) (lv' := [(3, .int ((nI j) + 1)), (1, .long (mx (mxS ft h j) (ft j))), (0, .ref mo)]) hx hb dX7_digest_98 hl (k := 1) rfl rfl (by decide) rfl (fun ls hl => ?_)
      refine lv_goto (tgt := 76) hx hb dX7_digest_101 (by decide) ?_
      have h9 : lv_has ls 4 [(3, .int (nI (j + 1))), (1, .long (mxS ft h (j + 1))), (0, .ref mo)] := by have h8 := (lv_sub hl [0, 1, 2] rfl); rw [nI_1] at h8; rw [mxS_s]; exact h8
      exact ih (j + 1) _ _ ls hS (by omega) h9
set_option maxHeartbeats 4000000 in
set_option maxRecDepth 100000 in
theorem lpX7_d4 {p : Program} {l : Launch} {e : Env} {s : State} {m : MethodId} {args : Array Value} {below : List Frame} {meth : Method} {co : Code} {Q : State → Prop} (D : va_G) (cI cH : ClassId) (hx : p.tables.exec = Jvm.exec) (hb : co.code = cX7_digest) (hml : co.maxLocals = 4) (hown : s.vm.findClass RX7 = some m.cls) (hts : ∀ w ∈ wsX7_digest, w.before args s = true) (hw : wk D cI cH s)  {mo nu sh ra rr k k2 : Nat} {N ft f1 f2 : Nat → Int32} {ct cp cr ctr cfs : Int32} {p0 p1 p2 p3 p4 p5 p6 p7 p8 p9 po : UInt64} {h : Int64} (hR0 : va_P D vwCl [(mo, .inr (6, [.ref nu, .double p0, .double p1, .double p2, .double p3, .double p4, .double p5, .double p6, .double p7, .double p8, .double p9, .int ct, .int cp, .int cr, .int ctr, .int cfs, .int (nI k), .ref sh, .int (nI k2), .ref ra, .ref rr, .double po])), (ra, .inl (cI, 12, .inl f1)), (rr, .inl (cI, 12, .inl f2))] s.heap) (hkk : k2 ≤ 12) (kk : ∀ (H : Heap) (locs : List Loc) (ls : Array Slot), va_S nA s.heap H locs → lv_has ls 4 [(3, .int (nI k2)), (1, .long (mxR f1 f2 h k2)), (0, .ref mo)] → W p l e ({ frames := 2, cells := 0, slots := 0, locals := 47 } : Room) s m args below meth co H locs 0 0 Q (F0 m 146 ls [])) : ∀ (n j : Nat) (H : Heap) (locs : List Loc) (ls : Array Slot), va_S nA s.heap H locs → j + n = k2 → lv_has ls 4 [(3, .int (nI j)), (1, .long (mxR f1 f2 h j)), (0, .ref mo)] → W p l e ({ frames := 2, cells := 0, slots := 0, locals := 47 } : Room) s m args below meth co H locs 0 0 Q (F0 m 106 ls []) := by
  have hinX7 : ∀ w ∈ wsX70, w ∈ wsX7_digest := by decide +kernel
  have hnr : ∀ (k9 : Nat) (q : Nat × va_E), ([(mo, .inr (6, [.ref nu, .double p0, .double p1, .double p2, .double p3, .double p4, .double p5, .double p6, .double p7, .double p8, .double p9, .int ct, .int cp, .int cr, .int ctr, .int cfs, .int (nI k), .ref sh, .int (nI k2), .ref ra, .ref rr, .double po])), (ra, .inl (cI, 12, .inl f1)), (rr, .inl (cI, 12, .inl f2))] : va_W)[k9]? = some q → ¬ nA q.1 := fr_nA
  intro n
  induction n with
  | zero =>
    intro j H locs ls hS hj hl
    have hjk : j = k2 := by omega
    subst hjk
    have hR := fr_rd hR0 hS hnr
    refine lv_iload_n hx hb dX7_digest_106 rfl (lv_at hl 0 rfl) ?_
    refine lv_aload_n hx hb dX7_digest_107 rfl (lv_at hl 2 rfl) ?_
    refine va_get (D := D) (ci := 6) (v := .int (nI j)) (C := RX7) (T := TX7) (N := 22) hx hb hts hinX7 hown hw.1 hR 0 rfl rfl 18 (by decide) (hts (.fieldLink RX7 140 "WheelSwingModel" "readings" "I") (by decide +kernel)) (fun _ h9 => h9) rfl dX7_digest_108 ?_
    refine lv_icmp_ge (tgt := 146) hx hb dX7_digest_111 (by decide) (fun c1 => ?_) (fun c1 => ?_)
    · have iw2 := Int32.not_lt.mpr c1
      exact kk H locs ls hS (lv_sub hl [0, 1, 2] rfl)
    · have iw3 := Int32.not_le.mp c1
      exact absurd (Int32.le_refl _) c1
  | succ n ih =>
    intro j H locs ls hS hj hl
    have hR := fr_rd hR0 hS hnr
    refine lv_iload_n hx hb dX7_digest_106 rfl (lv_at hl 0 rfl) ?_
    refine lv_aload_n hx hb dX7_digest_107 rfl (lv_at hl 2 rfl) ?_
    refine va_get (D := D) (ci := 6) (v := .int (nI k2)) (C := RX7) (T := TX7) (N := 22) hx hb hts hinX7 hown hw.1 hR 0 rfl rfl 18 (by decide) (hts (.fieldLink RX7 140 "WheelSwingModel" "readings" "I") (by decide +kernel)) (fun _ h9 => h9) rfl dX7_digest_108 ?_
    refine lv_icmp_ge (tgt := 146) hx hb dX7_digest_111 (by decide) (fun c1 => ?_) (fun c1 => ?_)
    · have iw2 := Int32.not_lt.mpr c1
      exact absurd ((nI_leI (by omega) (by omega)).mp (show nI k2 ≤ nI j from c1)) (by omega)
    · have iw3 := Int32.not_le.mp c1
      refine lv_ldc2 hx hb hown (hts (.constantLong RX7 153 (31)) (by decide +kernel)) dX7_digest_114 ?_
      refine lv_ldc2 hx hb hown (hts (.constantLong RX7 153 (31)) (by decide +kernel)) dX7_digest_117 ?_
      refine lv_lload_n hx hb dX7_digest_120 rfl (lv_at hl 1 rfl) ?_
      refine lv_lmul hx hb dX7_digest_121 ?_
      refine lv_aload_n hx hb dX7_digest_122 rfl (lv_at hl 2 rfl) ?_
      refine va_get (D := D) (ci := 6) (v := .ref ra) (C := RX7) (T := TX7) (N := 22) hx hb hts hinX7 hown hw.1 hR 0 rfl rfl 19 (by decide) (hts (.fieldLink RX7 28 "WheelSwingModel" "readAt" "[I") (by decide +kernel)) (fun _ h9 => h9) rfl dX7_digest_123 ?_
      refine lv_iload_n hx hb dX7_digest_126 rfl (lv_at hl 0 rfl) ?_
      refine va_iald hx hb hw.1 hR 1 0 rfl rfl (ix_in (show j < k2 by omega) hkk (by omega)) dX7_digest_127 ?_
      rw [nI_clamp (n := j) (by omega)]
      refine lv_i2l (v := Int32.toInt64 (f1 j)) hx hb dX7_digest_128 rfl ?_
      refine lv_ladd hx hb dX7_digest_129 ?_
      refine lv_topl (fun z4 ez4 => ?_)
      have ez4 : z4 = mx (mxR f1 f2 h j) (f1 j) := ez4
      subst ez4
      refine lv_lmul hx hb dX7_digest_130 ?_
      refine lv_aload_n hx hb dX7_digest_131 rfl (lv_at hl 2 rfl) ?_
      refine va_get (D := D) (ci := 6) (v := .ref rr) (C := RX7) (T := TX7) (N := 22) hx hb hts hinX7 hown hw.1 hR 0 rfl rfl 20 (by decide) (hts (.fieldLink RX7 31 "WheelSwingModel" "read" "[I") (by decide +kernel)) (fun _ h9 => h9) rfl dX7_digest_132 ?_
      refine lv_iload_n hx hb dX7_digest_135 rfl (lv_at hl 0 rfl) ?_
      refine va_iald hx hb hw.1 hR 2 0 rfl rfl (ix_in (show j < k2 by omega) hkk (by omega)) dX7_digest_136 ?_
      rw [nI_clamp (n := j) (by omega)]
      refine lv_i2l (v := Int32.toInt64 (f2 j)) hx hb dX7_digest_137 rfl ?_
      refine lv_ladd hx hb dX7_digest_138 ?_
      refine lv_topl (fun z5 ez5 => ?_)
      have ez5 : z5 = mx (mx (mxR f1 f2 h j) (f1 j)) (f2 j) := ez5
      subst ez5
      refine lv_lstore_n (lv' := [(1, .long (mx (mx (mxR f1 f2 h j) (f1 j)) (f2 j))), (3, .int (nI j)), (0, .ref mo)]) hx hb dX7_digest_139 rfl hl (by decide) rfl (fun ls hl => ?_)
      refine lv_iinc (v := (nI j) + 1) (lv' := [(3, .int ((nI j) + 1)), (1, .long (mx (mx (mxR f1 f2 h j) (f1 j)) (f2 j))), (0, .ref mo)]) hx hb dX7_digest_140 hl (k := 1) rfl rfl (by decide) rfl (fun ls hl => ?_)
      refine lv_goto (tgt := 106) hx hb dX7_digest_143 (by decide) ?_
      have h9 : lv_has ls 4 [(3, .int (nI (j + 1))), (1, .long (mxR f1 f2 h (j + 1))), (0, .ref mo)] := by have h8 := (lv_sub hl [0, 1, 2] rfl); rw [nI_1] at h8; rw [mxR_s]; exact h8
      exact ih (j + 1) _ _ ls hS (by omega) h9
set_option maxHeartbeats 4000000 in
set_option maxRecDepth 100000 in
theorem mX7_digest (l : Launch) (D : va_G) (cI cH : ClassId) (mo nu sh ra rr k k2 : Nat) (N ft f1 f2 : Nat → Int32) (ct cp cr ctr cfs : Int32) (p0 p1 p2 p3 p4 p5 p6 p7 p8 p9 po : UInt64)  (hk : k ≤ 10) (hkk : k2 ≤ 12) : Met l yX7_digest wsX7_digest ({ frames := 2, cells := 0, slots := 0, locals := 47 }) (va_Pc [.ref mo] (kB D cI cH [(mo, .inr (6, [.ref nu, .double p0, .double p1, .double p2, .double p3, .double p4, .double p5, .double p6, .double p7, .double p8, .double p9, .int ct, .int cp, .int cr, .int ctr, .int cfs, .int (nI k), .ref sh, .int (nI k2), .ref ra, .ref rr, .double po])), (nu, .inl (cI, 52, .inl N)), (sh, .inl (cI, 10, .inl ft)), (ra, .inl (cI, 12, .inl f1)), (rr, .inl (cI, 12, .inl f2))])) (va_Ql (fun (r : Int64) (u : Unit) => r = digF N ct cp cr ctr cfs ft k f1 f2 k2) (fun _ _ => True) nA) 0 0 nA := by
  refine Met.ofW (cc := cX7_digest) (maxL := 4) (ret := (some .long)) (by decide) rfl ?_
  intro p e s m args below meth co s₁ B hml hv
  obtain ⟨rfl, hP0, hw⟩ := hv
  have hx := B.exec
  have hb := B.bytes
  have hr := B.returns
  have hts := atoms_spec (ws := wsX7_digest) B.pre
  have hown : s.vm.findClass RX7 = some m.cls := findClass_of_methodNamed B.named
  have hlocks := B.notSynchronized
  have hinX7 : ∀ w ∈ wsX70, w ∈ wsX7_digest := by decide +kernel
  have hS : va_S nA s.heap s.heap [] := va_S.rf
  have hR0 : va_P D vwCl [(mo, .inr (6, [.ref nu, .double p0, .double p1, .double p2, .double p3, .double p4, .double p5, .double p6, .double p7, .double p8, .double p9, .int ct, .int cp, .int cr, .int ctr, .int cfs, .int (nI k), .ref sh, .int (nI k2), .ref ra, .ref rr, .double po])), (nu, .inl (cI, 52, .inl N)), (sh, .inl (cI, 10, .inl ft)), (ra, .inl (cI, 12, .inl f1)), (rr, .inl (cI, 12, .inl f2))] s.heap := hP0.sub [0, 1, 2, 3, 4] rfl
  have hR := hR0
  have hnr : ∀ (k9 : Nat) (q : Nat × va_E), ([(mo, .inr (6, [.ref nu, .double p0, .double p1, .double p2, .double p3, .double p4, .double p5, .double p6, .double p7, .double p8, .double p9, .int ct, .int cp, .int cr, .int ctr, .int cfs, .int (nI k), .ref sh, .int (nI k2), .ref ra, .ref rr, .double po])), (nu, .inl (cI, 52, .inl N)), (sh, .inl (cI, 10, .inl ft)), (ra, .inl (cI, 12, .inl f1)), (rr, .inl (cI, 12, .inl f2))] : va_W)[k9]? = some q → ¬ nA q.1 := fr_nA
  have hl := lv_entry ([.ref mo]) (n := 4) (Nat.le_of_ble_eq_true rfl)
  rw [lg_entry_eq]
  generalize (lg_sl ([.ref mo]) ++ List.replicate (4 - (lg_sl ([.ref mo])).length) Slot.unset).toArray = ls at hl ⊢
  have hl : lv_has ls 4 [(0, .ref mo)] := hl
  skip
  refine lv_ldc2 hx hb hown (hts (.constantLong RX7 153 (31)) (by decide +kernel)) dX7_digest_0 ?_
  refine lv_ldc2 hx hb hown (hts (.constantLong RX7 155 (7099)) (by decide +kernel)) dX7_digest_3 ?_
  refine lv_aload_n hx hb dX7_digest_6 rfl (lv_at hl 0 rfl) ?_
  refine va_get (D := D) (ci := 6) (v := .int (nI k)) (C := RX7) (T := TX7) (N := 22) hx hb hts hinX7 hown hw.1 hR 0 rfl rfl 16 (by decide) (hts (.fieldLink RX7 137 "WheelSwingModel" "shims" "I") (by decide +kernel)) (fun _ h9 => h9) rfl dX7_digest_7 ?_
  refine lv_i2l (v := Int32.toInt64 (nI k)) hx hb dX7_digest_10 rfl ?_
  refine lv_ladd hx hb dX7_digest_11 ?_
  refine lv_lmul hx hb dX7_digest_12 ?_
  refine lv_aload_n hx hb dX7_digest_13 rfl (lv_at hl 0 rfl) ?_
  refine va_get (D := D) (ci := 6) (v := .int (nI k2)) (C := RX7) (T := TX7) (N := 22) hx hb hts hinX7 hown hw.1 hR 0 rfl rfl 18 (by decide) (hts (.fieldLink RX7 140 "WheelSwingModel" "readings" "I") (by decide +kernel)) (fun _ h9 => h9) rfl dX7_digest_14 ?_
  refine lv_i2l (v := Int32.toInt64 (nI k2)) hx hb dX7_digest_17 rfl ?_
  refine lv_ladd hx hb dX7_digest_18 ?_
  refine lv_topl (fun z9 ez9 => ?_)
  have ez9 : z9 = mx (mx 229 (nI k)) (nI k2) := by rw [ez9, show (7099 : Int64) = 31 * 229 by decide]; rfl
  subst ez9
  refine lv_lstore_n (lv' := [(1, .long (mx (mx 229 (nI k)) (nI k2))), (0, .ref mo)]) hx hb dX7_digest_19 rfl hl (by decide) rfl (fun ls hl => ?_)
  refine lv_iconst (v := 0) hx hb dX7_digest_20 (by decide) ?_
  refine lv_istore_n (lv' := [(3, .int 0), (1, .long (mx (mx 229 (nI k)) (nI k2))), (0, .ref mo)]) hx hb dX7_digest_21 rfl hl (by decide) rfl (fun ls hl => ?_)
  have h9 : lv_has ls 4 [(3, .int (nI 0)), (1, .long (mx (mx 229 (nI k)) (nI k2))), (0, .ref mo)] := (lv_sub hl [0, 1, 2] rfl)
  refine lpX7_d1 D cI cH (h := mx (mx 229 (nI k)) (nI k2)) (N := N) (ft := ft) (f1 := f1) (f2 := f2) hx hb hml hown hts hw (hR0.sub [0, 1] rfl) (fun H locs ls hS hl => ?_) 52 0 _ _ ls hS (by omega) h9
  have hR := fr_rd hR0 hS hnr
  refine lv_iconst (v := 0) hx hb dX7_digest_48 (by decide) ?_
  refine lv_istore_n (lv' := [(3, .int 0), (1, .long (mxS N (mx (mx 229 (nI k)) (nI k2)) 52)), (0, .ref mo)]) hx hb dX7_digest_49 rfl hl (by decide) rfl (fun ls hl => ?_)
  refine lv_iload_n hx hb dX7_digest_50 rfl (lv_at hl 0 rfl) ?_
  refine lv_iconst (v := 4) hx hb dX7_digest_51 (by decide) ?_
  refine lv_icmp_ge (tgt := 74) hx hb dX7_digest_52 (by decide) (fun c2 => absurd c2 (by decide)) (fun _ => ?_)
  refine lv_ldc2 hx hb hown (hts (.constantLong RX7 153 (31)) (by decide +kernel)) dX7_digest_55 ?_
  refine lv_lload_n hx hb dX7_digest_58 rfl (lv_at hl 1 rfl) ?_
  refine lv_lmul hx hb dX7_digest_59 ?_
  refine lv_aload_n hx hb dX7_digest_60 rfl (lv_at hl 2 rfl) ?_
  refine lv_iload_n hx hb dX7_digest_61 rfl (lv_at hl 0 rfl) ?_
  have hq3 : va_P D vwCl [(mo, .inr (6, [.ref nu, .double p0, .double p1, .double p2, .double p3, .double p4, .double p5, .double p6, .double p7, .double p8, .double p9, .int ct, .int cp, .int cr, .int ctr, .int cfs, .int (nI k), .ref sh, .int (nI k2), .ref ra, .ref rr, .double po]))] H := hR.sub [0] rfl
  refine va_calli (va_runV (As := [.int 0]) (rest := [.long (31 * (mxS N (mx (mx 229 (nI k)) (nI k2)) 52))]) ⟨hx, hb, hml, hown, hts⟩ (mX7_carries l D cI cH mo nu sh ra rr k k2 ct cp cr ctr cfs p0 p1 p2 p3 p4 p5 p6 p7 p8 p9 po 0) (cwV 1 hts gX7_digest_X7_carries rfl rfl rfl (by decide +kernel) ⟨Nat.le_of_ble_eq_true rfl, Nat.le_of_ble_eq_true rfl⟩) ⟨kB_blind, va_recv hw.1 hq3 (ci := 6) (q0 := 0) rfl rfl, kB_go hq3 hw⟩ rfl rfl hl.1 rfl (lv_room (Nat.le_of_ble_eq_true rfl)) dX7_digest_62 ⟨Nat.le_of_ble_eq_true rfl, Nat.le_of_ble_eq_true rfl⟩) hS (fun q _ h => h.elim) (fun q h => h.elim) (fun r4 u5 t H locs ht hvm hp6 hB hz1 hk1 hS => ?_)
  have hR := fr_rd hR0 hS hnr
  have hp6 : r4 = carL ct cp cr ctr cfs 0 := hp6.trans (if_pos (by decide))
  subst hp6
  refine lv_i2l (v := Int32.toInt64 (carL ct cp cr ctr cfs 0)) hx hb dX7_digest_65 rfl ?_
  refine lv_ladd hx hb dX7_digest_66 ?_
  refine lv_topl (fun z7 ez7 => ?_)
  have ez7 : z7 = mx (mxS N (mx (mx 229 (nI k)) (nI k2)) 52) (carL ct cp cr ctr cfs 0) := ez7
  subst ez7
  refine lv_lstore_n (lv' := [(1, .long (mx (mxS N (mx (mx 229 (nI k)) (nI k2)) 52) (carL ct cp cr ctr cfs 0))), (3, .int 0), (0, .ref mo)]) hx hb dX7_digest_67 rfl hl (by decide) rfl (fun ls hl => ?_)
  refine lv_iinc (v := 1) (lv' := [(3, .int 1), (1, .long (mx (mxS N (mx (mx 229 (nI k)) (nI k2)) 52) (carL ct cp cr ctr cfs 0))), (0, .ref mo)]) hx hb dX7_digest_68 hl (k := 1) rfl (by decide) (by decide) rfl (fun ls hl => ?_)
  refine lv_goto (tgt := 50) hx hb dX7_digest_71 (by decide) ?_
  refine lv_iload_n hx hb dX7_digest_50 rfl (lv_at hl 0 rfl) ?_
  refine lv_iconst (v := 4) hx hb dX7_digest_51 (by decide) ?_
  refine lv_icmp_ge (tgt := 74) hx hb dX7_digest_52 (by decide) (fun c9 => absurd c9 (by decide)) (fun _ => ?_)
  refine lv_ldc2 hx hb hown (hts (.constantLong RX7 153 (31)) (by decide +kernel)) dX7_digest_55 ?_
  refine lv_lload_n hx hb dX7_digest_58 rfl (lv_at hl 1 rfl) ?_
  refine lv_lmul hx hb dX7_digest_59 ?_
  refine lv_aload_n hx hb dX7_digest_60 rfl (lv_at hl 2 rfl) ?_
  refine lv_iload_n hx hb dX7_digest_61 rfl (lv_at hl 0 rfl) ?_
  have hq10 : va_P D vwCl [(mo, .inr (6, [.ref nu, .double p0, .double p1, .double p2, .double p3, .double p4, .double p5, .double p6, .double p7, .double p8, .double p9, .int ct, .int cp, .int cr, .int ctr, .int cfs, .int (nI k), .ref sh, .int (nI k2), .ref ra, .ref rr, .double po]))] H := hR.sub [0] rfl
  refine va_calli (va_runV (As := [.int 1]) (rest := [.long (31 * (mx (mxS N (mx (mx 229 (nI k)) (nI k2)) 52) (carL ct cp cr ctr cfs 0)))]) ⟨hx, hb, hml, hown, hts⟩ (mX7_carries l D cI cH mo nu sh ra rr k k2 ct cp cr ctr cfs p0 p1 p2 p3 p4 p5 p6 p7 p8 p9 po 1) (cwV 1 hts gX7_digest_X7_carries rfl rfl rfl (by decide +kernel) ⟨Nat.le_of_ble_eq_true rfl, Nat.le_of_ble_eq_true rfl⟩) ⟨kB_blind, va_recv hw.1 hq10 (ci := 6) (q0 := 0) rfl rfl, kB_go hq10 hw⟩ rfl rfl hl.1 rfl (lv_room (Nat.le_of_ble_eq_true rfl)) dX7_digest_62 ⟨Nat.le_of_ble_eq_true rfl, Nat.le_of_ble_eq_true rfl⟩) hS (fun q _ h => h.elim) (fun q h => h.elim) (fun r11 u12 t H locs ht hvm hp13 hB hz1 hk1 hS => ?_)
  have hR := fr_rd hR0 hS hnr
  have hp13 : r11 = carL ct cp cr ctr cfs 1 := hp13.trans (if_pos (by decide))
  subst hp13
  refine lv_i2l (v := Int32.toInt64 (carL ct cp cr ctr cfs 1)) hx hb dX7_digest_65 rfl ?_
  refine lv_ladd hx hb dX7_digest_66 ?_
  refine lv_topl (fun z14 ez14 => ?_)
  have ez14 : z14 = mx (mx (mxS N (mx (mx 229 (nI k)) (nI k2)) 52) (carL ct cp cr ctr cfs 0)) (carL ct cp cr ctr cfs 1) := ez14
  subst ez14
  refine lv_lstore_n (lv' := [(1, .long (mx (mx (mxS N (mx (mx 229 (nI k)) (nI k2)) 52) (carL ct cp cr ctr cfs 0)) (carL ct cp cr ctr cfs 1))), (3, .int 1), (0, .ref mo)]) hx hb dX7_digest_67 rfl hl (by decide) rfl (fun ls hl => ?_)
  refine lv_iinc (v := 2) (lv' := [(3, .int 2), (1, .long (mx (mx (mxS N (mx (mx 229 (nI k)) (nI k2)) 52) (carL ct cp cr ctr cfs 0)) (carL ct cp cr ctr cfs 1))), (0, .ref mo)]) hx hb dX7_digest_68 hl (k := 1) rfl (by decide) (by decide) rfl (fun ls hl => ?_)
  refine lv_goto (tgt := 50) hx hb dX7_digest_71 (by decide) ?_
  refine lv_iload_n hx hb dX7_digest_50 rfl (lv_at hl 0 rfl) ?_
  refine lv_iconst (v := 4) hx hb dX7_digest_51 (by decide) ?_
  refine lv_icmp_ge (tgt := 74) hx hb dX7_digest_52 (by decide) (fun c16 => absurd c16 (by decide)) (fun _ => ?_)
  refine lv_ldc2 hx hb hown (hts (.constantLong RX7 153 (31)) (by decide +kernel)) dX7_digest_55 ?_
  refine lv_lload_n hx hb dX7_digest_58 rfl (lv_at hl 1 rfl) ?_
  refine lv_lmul hx hb dX7_digest_59 ?_
  refine lv_aload_n hx hb dX7_digest_60 rfl (lv_at hl 2 rfl) ?_
  refine lv_iload_n hx hb dX7_digest_61 rfl (lv_at hl 0 rfl) ?_
  have hq17 : va_P D vwCl [(mo, .inr (6, [.ref nu, .double p0, .double p1, .double p2, .double p3, .double p4, .double p5, .double p6, .double p7, .double p8, .double p9, .int ct, .int cp, .int cr, .int ctr, .int cfs, .int (nI k), .ref sh, .int (nI k2), .ref ra, .ref rr, .double po]))] H := hR.sub [0] rfl
  refine va_calli (va_runV (As := [.int 2]) (rest := [.long (31 * (mx (mx (mxS N (mx (mx 229 (nI k)) (nI k2)) 52) (carL ct cp cr ctr cfs 0)) (carL ct cp cr ctr cfs 1)))]) ⟨hx, hb, hml, hown, hts⟩ (mX7_carries l D cI cH mo nu sh ra rr k k2 ct cp cr ctr cfs p0 p1 p2 p3 p4 p5 p6 p7 p8 p9 po 2) (cwV 1 hts gX7_digest_X7_carries rfl rfl rfl (by decide +kernel) ⟨Nat.le_of_ble_eq_true rfl, Nat.le_of_ble_eq_true rfl⟩) ⟨kB_blind, va_recv hw.1 hq17 (ci := 6) (q0 := 0) rfl rfl, kB_go hq17 hw⟩ rfl rfl hl.1 rfl (lv_room (Nat.le_of_ble_eq_true rfl)) dX7_digest_62 ⟨Nat.le_of_ble_eq_true rfl, Nat.le_of_ble_eq_true rfl⟩) hS (fun q _ h => h.elim) (fun q h => h.elim) (fun r18 u19 t H locs ht hvm hp20 hB hz1 hk1 hS => ?_)
  have hR := fr_rd hR0 hS hnr
  have hp20 : r18 = carL ct cp cr ctr cfs 2 := hp20.trans (if_pos (by decide))
  subst hp20
  refine lv_i2l (v := Int32.toInt64 (carL ct cp cr ctr cfs 2)) hx hb dX7_digest_65 rfl ?_
  refine lv_ladd hx hb dX7_digest_66 ?_
  refine lv_topl (fun z21 ez21 => ?_)
  have ez21 : z21 = mx (mx (mx (mxS N (mx (mx 229 (nI k)) (nI k2)) 52) (carL ct cp cr ctr cfs 0)) (carL ct cp cr ctr cfs 1)) (carL ct cp cr ctr cfs 2) := ez21
  subst ez21
  refine lv_lstore_n (lv' := [(1, .long (mx (mx (mx (mxS N (mx (mx 229 (nI k)) (nI k2)) 52) (carL ct cp cr ctr cfs 0)) (carL ct cp cr ctr cfs 1)) (carL ct cp cr ctr cfs 2))), (3, .int 2), (0, .ref mo)]) hx hb dX7_digest_67 rfl hl (by decide) rfl (fun ls hl => ?_)
  refine lv_iinc (v := 3) (lv' := [(3, .int 3), (1, .long (mx (mx (mx (mxS N (mx (mx 229 (nI k)) (nI k2)) 52) (carL ct cp cr ctr cfs 0)) (carL ct cp cr ctr cfs 1)) (carL ct cp cr ctr cfs 2))), (0, .ref mo)]) hx hb dX7_digest_68 hl (k := 1) rfl (by decide) (by decide) rfl (fun ls hl => ?_)
  refine lv_goto (tgt := 50) hx hb dX7_digest_71 (by decide) ?_
  refine lv_iload_n hx hb dX7_digest_50 rfl (lv_at hl 0 rfl) ?_
  refine lv_iconst (v := 4) hx hb dX7_digest_51 (by decide) ?_
  refine lv_icmp_ge (tgt := 74) hx hb dX7_digest_52 (by decide) (fun c23 => absurd c23 (by decide)) (fun _ => ?_)
  refine lv_ldc2 hx hb hown (hts (.constantLong RX7 153 (31)) (by decide +kernel)) dX7_digest_55 ?_
  refine lv_lload_n hx hb dX7_digest_58 rfl (lv_at hl 1 rfl) ?_
  refine lv_lmul hx hb dX7_digest_59 ?_
  refine lv_aload_n hx hb dX7_digest_60 rfl (lv_at hl 2 rfl) ?_
  refine lv_iload_n hx hb dX7_digest_61 rfl (lv_at hl 0 rfl) ?_
  have hq24 : va_P D vwCl [(mo, .inr (6, [.ref nu, .double p0, .double p1, .double p2, .double p3, .double p4, .double p5, .double p6, .double p7, .double p8, .double p9, .int ct, .int cp, .int cr, .int ctr, .int cfs, .int (nI k), .ref sh, .int (nI k2), .ref ra, .ref rr, .double po]))] H := hR.sub [0] rfl
  refine va_calli (va_runV (As := [.int 3]) (rest := [.long (31 * (mx (mx (mx (mxS N (mx (mx 229 (nI k)) (nI k2)) 52) (carL ct cp cr ctr cfs 0)) (carL ct cp cr ctr cfs 1)) (carL ct cp cr ctr cfs 2)))]) ⟨hx, hb, hml, hown, hts⟩ (mX7_carries l D cI cH mo nu sh ra rr k k2 ct cp cr ctr cfs p0 p1 p2 p3 p4 p5 p6 p7 p8 p9 po 3) (cwV 1 hts gX7_digest_X7_carries rfl rfl rfl (by decide +kernel) ⟨Nat.le_of_ble_eq_true rfl, Nat.le_of_ble_eq_true rfl⟩) ⟨kB_blind, va_recv hw.1 hq24 (ci := 6) (q0 := 0) rfl rfl, kB_go hq24 hw⟩ rfl rfl hl.1 rfl (lv_room (Nat.le_of_ble_eq_true rfl)) dX7_digest_62 ⟨Nat.le_of_ble_eq_true rfl, Nat.le_of_ble_eq_true rfl⟩) hS (fun q _ h => h.elim) (fun q h => h.elim) (fun r25 u26 t H locs ht hvm hp27 hB hz1 hk1 hS => ?_)
  have hR := fr_rd hR0 hS hnr
  have hp27 : r25 = carL ct cp cr ctr cfs 3 := hp27.trans (if_pos (by decide))
  subst hp27
  refine lv_i2l (v := Int32.toInt64 (carL ct cp cr ctr cfs 3)) hx hb dX7_digest_65 rfl ?_
  refine lv_ladd hx hb dX7_digest_66 ?_
  refine lv_topl (fun z28 ez28 => ?_)
  have ez28 : z28 = mx (mx (mx (mx (mxS N (mx (mx 229 (nI k)) (nI k2)) 52) (carL ct cp cr ctr cfs 0)) (carL ct cp cr ctr cfs 1)) (carL ct cp cr ctr cfs 2)) (carL ct cp cr ctr cfs 3) := ez28
  subst ez28
  refine lv_lstore_n (lv' := [(1, .long (mx (mx (mx (mx (mxS N (mx (mx 229 (nI k)) (nI k2)) 52) (carL ct cp cr ctr cfs 0)) (carL ct cp cr ctr cfs 1)) (carL ct cp cr ctr cfs 2)) (carL ct cp cr ctr cfs 3))), (3, .int 3), (0, .ref mo)]) hx hb dX7_digest_67 rfl hl (by decide) rfl (fun ls hl => ?_)
  refine lv_iinc (v := 4) (lv' := [(3, .int 4), (1, .long (mx (mx (mx (mx (mxS N (mx (mx 229 (nI k)) (nI k2)) 52) (carL ct cp cr ctr cfs 0)) (carL ct cp cr ctr cfs 1)) (carL ct cp cr ctr cfs 2)) (carL ct cp cr ctr cfs 3))), (0, .ref mo)]) hx hb dX7_digest_68 hl (k := 1) rfl (by decide) (by decide) rfl (fun ls hl => ?_)
  refine lv_goto (tgt := 50) hx hb dX7_digest_71 (by decide) ?_
  refine lv_iload_n hx hb dX7_digest_50 rfl (lv_at hl 0 rfl) ?_
  refine lv_iconst (v := 4) hx hb dX7_digest_51 (by decide) ?_
  refine lv_icmp_ge (tgt := 74) hx hb dX7_digest_52 (by decide) (fun _ => ?_) (fun c30 => absurd c30 (by decide))
  refine lv_iconst (v := 0) hx hb dX7_digest_74 (by decide) ?_
  refine lv_istore_n (lv' := [(3, .int 0), (1, .long (mx (mx (mx (mx (mxS N (mx (mx 229 (nI k)) (nI k2)) 52) (carL ct cp cr ctr cfs 0)) (carL ct cp cr ctr cfs 1)) (carL ct cp cr ctr cfs 2)) (carL ct cp cr ctr cfs 3))), (0, .ref mo)]) hx hb dX7_digest_75 rfl hl (by decide) rfl (fun ls hl => ?_)
  have h9 : lv_has ls 4 [(3, .int (nI 0)), (1, .long (mx (mx (mx (mx (mxS N (mx (mx 229 (nI k)) (nI k2)) 52) (carL ct cp cr ctr cfs 0)) (carL ct cp cr ctr cfs 1)) (carL ct cp cr ctr cfs 2)) (carL ct cp cr ctr cfs 3))), (0, .ref mo)] := (lv_sub hl [0, 1, 2] rfl)
  refine lpX7_d3 D cI cH (h := mx (mx (mx (mx (mxS N (mx (mx 229 (nI k)) (nI k2)) 52) (carL ct cp cr ctr cfs 0)) (carL ct cp cr ctr cfs 1)) (carL ct cp cr ctr cfs 2)) (carL ct cp cr ctr cfs 3)) (N := N) (ft := ft) (f1 := f1) (f2 := f2) hx hb hml hown hts hw (hR0.sub [0, 2] rfl) hk (fun H locs ls hS hl => ?_) k 0 _ _ ls hS (by omega) h9
  have hR := fr_rd hR0 hS hnr
  refine lv_iconst (v := 0) hx hb dX7_digest_104 (by decide) ?_
  refine lv_istore_n (lv' := [(3, .int 0), (1, .long (mxS ft (mx (mx (mx (mx (mxS N (mx (mx 229 (nI k)) (nI k2)) 52) (carL ct cp cr ctr cfs 0)) (carL ct cp cr ctr cfs 1)) (carL ct cp cr ctr cfs 2)) (carL ct cp cr ctr cfs 3)) k)), (0, .ref mo)]) hx hb dX7_digest_105 rfl hl (by decide) rfl (fun ls hl => ?_)
  have h9 : lv_has ls 4 [(3, .int (nI 0)), (1, .long (mxS ft (mx (mx (mx (mx (mxS N (mx (mx 229 (nI k)) (nI k2)) 52) (carL ct cp cr ctr cfs 0)) (carL ct cp cr ctr cfs 1)) (carL ct cp cr ctr cfs 2)) (carL ct cp cr ctr cfs 3)) k)), (0, .ref mo)] := (lv_sub hl [0, 1, 2] rfl)
  refine lpX7_d4 D cI cH (h := mxS ft (mx (mx (mx (mx (mxS N (mx (mx 229 (nI k)) (nI k2)) 52) (carL ct cp cr ctr cfs 0)) (carL ct cp cr ctr cfs 1)) (carL ct cp cr ctr cfs 2)) (carL ct cp cr ctr cfs 3)) k) (N := N) (ft := ft) (f1 := f1) (f2 := f2) hx hb hml hown hts hw (hR0.sub [0, 3, 4] rfl) hkk (fun H locs ls hS hl => ?_) k2 0 _ _ ls hS (by omega) h9
  have hR := fr_rd hR0 hS hnr
  refine lv_lload_n hx hb dX7_digest_146 rfl (lv_at hl 1 rfl) ?_
  exact W.lret (v := mxR f1 f2 (mxS ft (mx (mx (mx (mx (mxS N (mx (mx 229 (nI k)) (nI k2)) 52) (carL ct cp cr ctr cfs 0)) (carL ct cp cr ctr cfs 1)) (carL ct cp cr ctr cfs 2)) (carL ct cp cr ctr cfs 3)) k) k2) hx hb hr (fun t ht hW => ⟨⟨mxR f1 f2 (mxS ft (mx (mx (mx (mx (mxS N (mx (mx 229 (nI k)) (nI k2)) 52) (carL ct cp cr ctr cfs 0)) (carL ct cp cr ctr cfs 1)) (carL ct cp cr ctr cfs 2)) (carL ct cp cr ctr cfs 3)) k) k2, (), rfl, rfl, trivial⟩, hS.F ht⟩) hS.2.2 dX7_digest_147
def manF (set : Int32) : Nat → Int32
  | 0 => 0
  | n + 1 => manF set n + ((set >>> (nI n &&& 31)) &&& 1)
theorem manF_s (set : Int32) (n : Nat) : manF set (n + 1) = manF set n + ((set >>> (nI n &&& 31)) &&& 1) := rfl
theorem manF_bc0 : ∀ k, k < 11 → ∀ s, s < 2 ^ k → manF (nI s) k = bcF (nI s) := by decide +kernel
theorem manF_bc {k s : Nat} (hk : k ≤ 10) (hs : s < 2 ^ k) : manF (nI s) k = bcF (nI s) := manF_bc0 k (by omega) s hs
theorem sumF_b {ft : Nat → Int32} {set : Int32} {k : Nat} (h : ∀ j, j < k → 0 ≤ (ft j).toInt ∧ (ft j).toInt ≤ 500) : ∀ n, n ≤ k → k ≤ 10 → 0 ≤ (sumF ft set n).toInt ∧ (sumF ft set n).toInt ≤ 500 * n := by
  intro n
  induction n with
  | zero => exact fun _ _ => ⟨Int.le_refl 0, Int.le_refl 0⟩
  | succ n ih =>
    intro hn hk
    obtain ⟨h1, h2⟩ := ih (by omega) hk
    obtain ⟨h3, h4⟩ := h n (by omega)
    have e0 : (0 : Int32).toInt = 0 := rfl
    rw [sumF_s]
    have hv : 0 ≤ (if (set >>> (nI n &&& 31)) &&& 1 = 1 then ft n else 0).toInt ∧ (if (set >>> (nI n &&& 31)) &&& 1 = 1 then ft n else 0).toInt ≤ 500 := by
      split
      · exact ⟨h3, h4⟩
      · exact ⟨by omega, by omega⟩
    obtain ⟨h5, h6⟩ := hv
    rw [i3_add (by omega) (by omega)]
    omega
theorem abs_gt {g s : Int32} (hg : 0 ≤ g.toInt ∧ g.toInt ≤ 2000) (hs : 0 ≤ s.toInt ∧ s.toInt ≤ 5000) (h : ¬ s ≤ g) : s - g = absI (g - s) := by
  have e := i3_sub (a := g) (b := s) (by omega) (by omega)
  have e2 := i3_sub (a := s) (b := g) (by omega) (by omega)
  have e0 : (0 : Int32).toInt = 0 := rfl
  have h1 : ¬ s.toInt ≤ g.toInt := fun hc => h (Int32.le_iff_toInt_le.mpr hc)
  have h2 : ¬ (0 : Int32) ≤ g - s := fun hc => by have hq := Int32.le_iff_toInt_le.mp hc; omega
  unfold absI
  rw [if_neg h2]
  have e3 := i3_sub (a := 0) (b := g - s) (by omega) (by omega)
  exact i_eq (by omega)
theorem abs_le {g s : Int32} (hg : 0 ≤ g.toInt ∧ g.toInt ≤ 2000) (hs : 0 ≤ s.toInt ∧ s.toInt ≤ 5000) (h : s ≤ g) : g - s = absI (g - s) := by
  have e := i3_sub (a := g) (b := s) (by omega) (by omega)
  have e0 : (0 : Int32).toInt = 0 := rfl
  have h1 : s.toInt ≤ g.toInt := Int32.le_iff_toInt_le.mp h
  unfold absI
  rw [if_pos (Int32.le_iff_toInt_le.mpr (by omega))]
set_option maxHeartbeats 4000000 in
set_option maxRecDepth 100000 in
theorem lpX7_sum {p : Program} {l : Launch} {e : Env} {s : State} {m : MethodId} {args : Array Value} {below : List Frame} {meth : Method} {co : Code} {Q : State → Prop} (D : va_G) (cI cH : ClassId) (hx : p.tables.exec = Jvm.exec) (hb : co.code = cX7_best) (hml : co.maxLocals = 10) (hown : s.vm.findClass RX7 = some m.cls) (hts : ∀ w ∈ wsX7_best, w.before args s = true) (hw : wk D cI cH s) {mo nu sh ra rr k k2 : Nat} {N ft f1 f2 : Nat → Int32} {ct cp cr ctr cfs : Int32} {p0 p1 p2 p3 p4 p5 p6 p7 p8 p9 po : UInt64} {gap most : Int32} {set b1 b2 b3 : Int32} (hR0 : va_P D vwCl [(mo, .inr (6, [.ref nu, .double p0, .double p1, .double p2, .double p3, .double p4, .double p5, .double p6, .double p7, .double p8, .double p9, .int ct, .int cp, .int cr, .int ctr, .int cfs, .int (nI k), .ref sh, .int (nI k2), .ref ra, .ref rr, .double po])), (sh, .inl (cI, 10, .inl ft))] s.heap) (hk : k ≤ 10) (kk : ∀ (H : Heap) (locs : List Loc) (ls : Array Slot), va_S nA s.heap H locs → lv_has ls 10 [(9, .int (nI k)), (8, .int (manF set k)), (7, .int (sumF ft set k)), (6, .int set), (5, .int b3), (4, .int b2), (3, .int b1), (2, .int most), (1, .int gap), (0, .ref mo)] → W p l e ({ frames := 1, cells := 0, slots := 0, locals := 22 } : Room) s m args below meth co H locs 0 0 Q (F0 m 108 ls [])) : ∀ (n j : Nat) (H : Heap) (locs : List Loc) (ls : Array Slot), va_S nA s.heap H locs → j + n = k → lv_has ls 10 [(9, .int (nI j)), (8, .int (manF set j)), (7, .int (sumF ft set j)), (6, .int set), (5, .int b3), (4, .int b2), (3, .int b1), (2, .int most), (1, .int gap), (0, .ref mo)] → W p l e ({ frames := 1, cells := 0, slots := 0, locals := 22 } : Room) s m args below meth co H locs 0 0 Q (F0 m 54 ls []) := by
  have hinX7 : ∀ w ∈ wsX70, w ∈ wsX7_best := by decide +kernel
  have hnr : ∀ (k9 : Nat) (q : Nat × va_E), ([(mo, .inr (6, [.ref nu, .double p0, .double p1, .double p2, .double p3, .double p4, .double p5, .double p6, .double p7, .double p8, .double p9, .int ct, .int cp, .int cr, .int ctr, .int cfs, .int (nI k), .ref sh, .int (nI k2), .ref ra, .ref rr, .double po])), (sh, .inl (cI, 10, .inl ft))] : va_W)[k9]? = some q → ¬ nA q.1 := fr_nA
  intro n
  induction n with
  | zero =>
    intro j H locs ls hS hj hl
    have hjk : j = k := by omega
    subst hjk
    have hR := fr_rd hR0 hS hnr
    refine lv_iload hx hb dX7_best_54 (lv_at hl 0 rfl) ?_
    refine lv_aload_n hx hb dX7_best_56 rfl (lv_at hl 9 rfl) ?_
    refine va_get (D := D) (ci := 6) (v := .int (nI j)) (C := RX7) (T := TX7) (N := 22) hx hb hts hinX7 hown hw.1 hR 0 rfl rfl 16 (by decide) (hts (.fieldLink RX7 137 "WheelSwingModel" "shims" "I") (by decide +kernel)) (fun _ h9 => h9) rfl dX7_best_57 ?_
    refine lv_icmp_ge (tgt := 108) hx hb dX7_best_60 (by decide) (fun c1 => ?_) (fun c1 => ?_)
    · have iw2 := Int32.not_lt.mpr c1
      exact kk H locs ls hS (lv_sub hl [0, 1, 2, 3, 4, 5, 6, 7, 8, 9] rfl)
    · have iw3 := Int32.not_le.mp c1
      exact absurd (Int32.le_refl _) c1
  | succ n ih =>
    intro j H locs ls hS hj hl
    have hR := fr_rd hR0 hS hnr
    refine lv_iload hx hb dX7_best_54 (lv_at hl 0 rfl) ?_
    refine lv_aload_n hx hb dX7_best_56 rfl (lv_at hl 9 rfl) ?_
    refine va_get (D := D) (ci := 6) (v := .int (nI k)) (C := RX7) (T := TX7) (N := 22) hx hb hts hinX7 hown hw.1 hR 0 rfl rfl 16 (by decide) (hts (.fieldLink RX7 137 "WheelSwingModel" "shims" "I") (by decide +kernel)) (fun _ h9 => h9) rfl dX7_best_57 ?_
    refine lv_icmp_ge (tgt := 108) hx hb dX7_best_60 (by decide) (fun c1 => ?_) (fun c1 => ?_)
    · have iw2 := Int32.not_lt.mpr c1
      exact absurd ((nI_leI (by omega) (by omega)).mp c1) (by omega)
    · have iw3 := Int32.not_le.mp c1
      refine lv_iload hx hb dX7_best_63 (lv_at hl 2 rfl) ?_
      refine lv_iload hx hb dX7_best_65 (lv_at hl 3 rfl) ?_
      refine lv_iload hx hb dX7_best_67 (lv_at hl 0 rfl) ?_
      refine lv_ishr hx hb dX7_best_69 ?_
      refine lv_iconst (v := 1) hx hb dX7_best_70 (by decide) ?_
      refine lv_iand hx hb dX7_best_71 ?_
      refine lv_iconst (v := 1) hx hb dX7_best_72 (by decide) ?_
      refine lv_icmp_ne (tgt := 86) hx hb dX7_best_73 (by decide) (fun c4 => ?_) (fun c4 => ?_)
      · refine lv_iconst (v := 0) hx hb dX7_best_86 (by decide) ?_
        refine lv_iadd hx hb dX7_best_87 ?_
        refine lv_istore (lv' := [(7, .int ((sumF ft set j) + 0)), (9, .int (nI j)), (8, .int (manF set j)), (6, .int set), (5, .int b3), (4, .int b2), (3, .int b1), (2, .int most), (1, .int gap), (0, .ref mo)]) hx hb dX7_best_88 hl (by decide) rfl (fun ls hl => ?_)
        refine lv_iload hx hb dX7_best_90 (lv_at hl 2 rfl) ?_
        refine lv_iload hx hb dX7_best_92 (lv_at hl 3 rfl) ?_
        refine lv_iload hx hb dX7_best_94 (lv_at hl 1 rfl) ?_
        refine lv_ishr hx hb dX7_best_96 ?_
        refine lv_iconst (v := 1) hx hb dX7_best_97 (by decide) ?_
        refine lv_iand hx hb dX7_best_98 ?_
        refine lv_iadd hx hb dX7_best_99 ?_
        refine lv_istore (lv' := [(8, .int ((manF set j) + ((set >>> ((nI j) &&& 31)) &&& 1))), (7, .int ((sumF ft set j) + 0)), (9, .int (nI j)), (6, .int set), (5, .int b3), (4, .int b2), (3, .int b1), (2, .int most), (1, .int gap), (0, .ref mo)]) hx hb dX7_best_100 hl (by decide) rfl (fun ls hl => ?_)
        refine lv_iinc (v := (nI j) + 1) (lv' := [(9, .int ((nI j) + 1)), (8, .int ((manF set j) + ((set >>> ((nI j) &&& 31)) &&& 1))), (7, .int ((sumF ft set j) + 0)), (6, .int set), (5, .int b3), (4, .int b2), (3, .int b1), (2, .int most), (1, .int gap), (0, .ref mo)]) hx hb dX7_best_102 hl (k := 2) rfl rfl (by decide) rfl (fun ls hl => ?_)
        refine lv_goto (tgt := 54) hx hb dX7_best_105 (by decide) ?_
        have h9 : lv_has ls 10 [(9, .int (nI (j + 1))), (8, .int (manF set (j + 1))), (7, .int (sumF ft set (j + 1))), (6, .int set), (5, .int b3), (4, .int b2), (3, .int b1), (2, .int most), (1, .int gap), (0, .ref mo)] := by have h8 := (lv_sub hl [0, 1, 2, 3, 4, 5, 6, 7, 8, 9] rfl); rw [nI_1] at h8; rw [sumF_s, manF_s, if_neg c4]; exact h8
        exact ih (j + 1) _ _ ls hS (by omega) h9
      · refine lv_aload_n hx hb dX7_best_76 rfl (lv_at hl 9 rfl) ?_
        refine va_get (D := D) (ci := 6) (v := .ref sh) (C := RX7) (T := TX7) (N := 22) hx hb hts hinX7 hown hw.1 hR 0 rfl rfl 17 (by decide) (hts (.fieldLink RX7 25 "WheelSwingModel" "shim" "[I") (by decide +kernel)) (fun _ h9 => h9) rfl dX7_best_77 ?_
        refine lv_iload hx hb dX7_best_80 (lv_at hl 0 rfl) ?_
        refine va_iald hx hb hw.1 hR 1 0 rfl rfl (ix_in (show j < k by omega) hk (by omega)) dX7_best_82 ?_
        refine lv_goto (tgt := 87) hx hb dX7_best_83 (by decide) ?_
        refine lv_iadd hx hb dX7_best_87 ?_
        refine lv_istore (lv' := [(7, .int ((sumF ft set j) + (ft (nI j).toNatClampNeg))), (9, .int (nI j)), (8, .int (manF set j)), (6, .int set), (5, .int b3), (4, .int b2), (3, .int b1), (2, .int most), (1, .int gap), (0, .ref mo)]) hx hb dX7_best_88 hl (by decide) rfl (fun ls hl => ?_)
        refine lv_iload hx hb dX7_best_90 (lv_at hl 2 rfl) ?_
        refine lv_iload hx hb dX7_best_92 (lv_at hl 3 rfl) ?_
        refine lv_iload hx hb dX7_best_94 (lv_at hl 1 rfl) ?_
        refine lv_ishr hx hb dX7_best_96 ?_
        refine lv_iconst (v := 1) hx hb dX7_best_97 (by decide) ?_
        refine lv_iand hx hb dX7_best_98 ?_
        refine lv_iadd hx hb dX7_best_99 ?_
        refine lv_istore (lv' := [(8, .int ((manF set j) + ((set >>> ((nI j) &&& 31)) &&& 1))), (7, .int ((sumF ft set j) + (ft (nI j).toNatClampNeg))), (9, .int (nI j)), (6, .int set), (5, .int b3), (4, .int b2), (3, .int b1), (2, .int most), (1, .int gap), (0, .ref mo)]) hx hb dX7_best_100 hl (by decide) rfl (fun ls hl => ?_)
        refine lv_iinc (v := (nI j) + 1) (lv' := [(9, .int ((nI j) + 1)), (8, .int ((manF set j) + ((set >>> ((nI j) &&& 31)) &&& 1))), (7, .int ((sumF ft set j) + (ft (nI j).toNatClampNeg))), (6, .int set), (5, .int b3), (4, .int b2), (3, .int b1), (2, .int most), (1, .int gap), (0, .ref mo)]) hx hb dX7_best_102 hl (k := 2) rfl rfl (by decide) rfl (fun ls hl => ?_)
        refine lv_goto (tgt := 54) hx hb dX7_best_105 (by decide) ?_
        have h9 : lv_has ls 10 [(9, .int (nI (j + 1))), (8, .int (manF set (j + 1))), (7, .int (sumF ft set (j + 1))), (6, .int set), (5, .int b3), (4, .int b2), (3, .int b1), (2, .int most), (1, .int gap), (0, .ref mo)] := by have h8 := (lv_sub hl [0, 1, 2, 3, 4, 5, 6, 7, 8, 9] rfl); rw [nI_1, nI_clamp (by omega)] at h8; rw [sumF_s, manF_s, if_pos c4]; exact h8
        exact ih (j + 1) _ _ ls hS (by omega) h9
set_option maxHeartbeats 4000000 in
set_option maxRecDepth 100000 in
theorem lpX7_near {p : Program} {l : Launch} {e : Env} {s : State} {m : MethodId} {args : Array Value} {below : List Frame} {meth : Method} {co : Code} {Q : State → Prop} (D : va_G) (cI cH : ClassId) (hx : p.tables.exec = Jvm.exec) (hb : co.code = cX7_best) (hml : co.maxLocals = 10) (hown : s.vm.findClass RX7 = some m.cls) (hts : ∀ w ∈ wsX7_best, w.before args s = true) (hw : wk D cI cH s) {mo nu sh ra rr k k2 : Nat} {N ft f1 f2 : Nat → Int32} {ct cp cr ctr cfs : Int32} {p0 p1 p2 p3 p4 p5 p6 p7 p8 p9 po : UInt64} {gap most : Int32} (hR0 : va_P D vwCl [(mo, .inr (6, [.ref nu, .double p0, .double p1, .double p2, .double p3, .double p4, .double p5, .double p6, .double p7, .double p8, .double p9, .int ct, .int cp, .int cr, .int ctr, .int cfs, .int (nI k), .ref sh, .int (nI k2), .ref ra, .ref rr, .double po])), (sh, .inl (cI, 10, .inl ft))] s.heap) (hk : k ≤ 10) (hgap : 0 ≤ gap.toInt ∧ gap.toInt ≤ 2000) (hft : ∀ j, j < k → 0 ≤ (ft j).toInt ∧ (ft j).toInt ≤ 500) (kk : ∀ (H : Heap) (locs : List Loc) (ls : Array Slot), va_S nA s.heap H locs → lv_has ls 10 [(6, .int (nI (2 ^ k))), (5, .int ((nsF ft k gap most (2 ^ k - 1)).2.2)), (4, .int ((nsF ft k gap most (2 ^ k - 1)).2.1)), (3, .int ((nsF ft k gap most (2 ^ k - 1)).1)), (2, .int most), (1, .int gap), (0, .ref mo)] → W p l e ({ frames := 1, cells := 0, slots := 0, locals := 22 } : Room) s m args below meth co H locs 0 0 Q (F0 m 171 ls [])) : ∀ (n j : Nat) (H : Heap) (locs : List Loc) (ls : Array Slot), va_S nA s.heap H locs → j + 1 + n = 2 ^ k → lv_has ls 10 [(6, .int (nI (j + 1))), (5, .int ((nsF ft k gap most j).2.2)), (4, .int ((nsF ft k gap most j).2.1)), (3, .int ((nsF ft k gap most j).1)), (2, .int most), (1, .int gap), (0, .ref mo)] → W p l e ({ frames := 1, cells := 0, slots := 0, locals := 22 } : Room) s m args below meth co H locs 0 0 Q (F0 m 34 ls []) := by
  have hinX7 : ∀ w ∈ wsX70, w ∈ wsX7_best := by decide +kernel
  have hnr : ∀ (k9 : Nat) (q : Nat × va_E), ([(mo, .inr (6, [.ref nu, .double p0, .double p1, .double p2, .double p3, .double p4, .double p5, .double p6, .double p7, .double p8, .double p9, .int ct, .int cp, .int cr, .int ctr, .int cfs, .int (nI k), .ref sh, .int (nI k2), .ref ra, .ref rr, .double po])), (sh, .inl (cI, 10, .inl ft))] : va_W)[k9]? = some q → ¬ nA q.1 := fr_nA
  have hp := p2_10 hk
  intro n
  induction n with
  | zero =>
    intro j H locs ls hS hj hl
    have hj1 : nI (j + 1) = nI (2 ^ k) := by rw [show j + 1 = 2 ^ k by omega]
    have hj2 : j = 2 ^ k - 1 := by omega
    rw [hj1, hj2] at hl
    have hR := fr_rd hR0 hS hnr
    refine lv_iload hx hb dX7_best_34 (lv_at hl 0 rfl) ?_
    refine lv_iconst (v := 1) hx hb dX7_best_36 (by decide) ?_
    refine lv_aload_n hx hb dX7_best_37 rfl (lv_at hl 6 rfl) ?_
    refine va_get (D := D) (ci := 6) (v := .int (nI k)) (C := RX7) (T := TX7) (N := 22) hx hb hts hinX7 hown hw.1 hR 0 rfl rfl 16 (by decide) (hts (.fieldLink RX7 137 "WheelSwingModel" "shims" "I") (by decide +kernel)) (fun _ h9 => h9) rfl dX7_best_38 ?_
    refine lv_ishl hx hb dX7_best_41 ?_
    rw [sh1 k (by omega)]
    refine lv_icmp_ge (tgt := 171) hx hb dX7_best_42 (by decide) (fun c1 => ?_) (fun c1 => ?_)
    · have iw2 := Int32.not_lt.mpr c1
      exact kk H locs ls hS (lv_sub hl [0, 1, 2, 3, 4, 5, 6] rfl)
    · have iw3 := Int32.not_le.mp c1
      exact absurd (Int32.le_refl _) c1
  | succ n ih =>
    intro j H locs ls hS hj hl
    have hR := fr_rd hR0 hS hnr
    refine lv_iload hx hb dX7_best_34 (lv_at hl 0 rfl) ?_
    refine lv_iconst (v := 1) hx hb dX7_best_36 (by decide) ?_
    refine lv_aload_n hx hb dX7_best_37 rfl (lv_at hl 6 rfl) ?_
    refine va_get (D := D) (ci := 6) (v := .int (nI k)) (C := RX7) (T := TX7) (N := 22) hx hb hts hinX7 hown hw.1 hR 0 rfl rfl 16 (by decide) (hts (.fieldLink RX7 137 "WheelSwingModel" "shims" "I") (by decide +kernel)) (fun _ h9 => h9) rfl dX7_best_38 ?_
    refine lv_ishl hx hb dX7_best_41 ?_
    rw [sh1 k (by omega)]
    refine lv_icmp_ge (tgt := 171) hx hb dX7_best_42 (by decide) (fun c1 => ?_) (fun c1 => ?_)
    · have iw2 := Int32.not_lt.mpr c1
      exact absurd ((nI_leI (by omega) (by omega)).mp c1) (by omega)
    · have iw3 := Int32.not_le.mp c1
      refine lv_iconst (v := 0) hx hb dX7_best_45 (by decide) ?_
      refine lv_istore (lv' := [(7, .int 0), (6, .int (nI (j + 1))), (5, .int ((nsF ft k gap most j).2.2)), (4, .int ((nsF ft k gap most j).2.1)), (3, .int ((nsF ft k gap most j).1)), (2, .int most), (1, .int gap), (0, .ref mo)]) hx hb dX7_best_46 hl (by decide) rfl (fun ls hl => ?_)
      refine lv_iconst (v := 0) hx hb dX7_best_48 (by decide) ?_
      refine lv_istore (lv' := [(8, .int 0), (7, .int 0), (6, .int (nI (j + 1))), (5, .int ((nsF ft k gap most j).2.2)), (4, .int ((nsF ft k gap most j).2.1)), (3, .int ((nsF ft k gap most j).1)), (2, .int most), (1, .int gap), (0, .ref mo)]) hx hb dX7_best_49 hl (by decide) rfl (fun ls hl => ?_)
      refine lv_iconst (v := 0) hx hb dX7_best_51 (by decide) ?_
      refine lv_istore (lv' := [(9, .int 0), (8, .int 0), (7, .int 0), (6, .int (nI (j + 1))), (5, .int ((nsF ft k gap most j).2.2)), (4, .int ((nsF ft k gap most j).2.1)), (3, .int ((nsF ft k gap most j).1)), (2, .int most), (1, .int gap), (0, .ref mo)]) hx hb dX7_best_52 hl (by decide) rfl (fun ls hl => ?_)
      have h54 : lv_has ls 10 [(9, .int (nI 0)), (8, .int (manF (nI (j + 1)) 0)), (7, .int (sumF ft (nI (j + 1)) 0)), (6, .int (nI (j + 1))), (5, .int ((nsF ft k gap most j).2.2)), (4, .int ((nsF ft k gap most j).2.1)), (3, .int ((nsF ft k gap most j).1)), (2, .int most), (1, .int gap), (0, .ref mo)] := (lv_sub hl [0, 1, 2, 3, 4, 5, 6, 7, 8, 9] rfl)
      refine lpX7_sum D cI cH (N := N) (f1 := f1) (f2 := f2) (set := nI (j + 1)) hx hb hml hown hts hw hR0 hk (fun H locs ls hS hl => ?_) k 0 _ _ ls hS (by omega) h54
      have hR := fr_rd hR0 hS hnr
      rw [manF_bc hk (show j + 1 < 2 ^ k by omega)] at hl
      have hsb : 0 ≤ (sumF ft (nI (j + 1)) k).toInt ∧ (sumF ft (nI (j + 1)) k).toInt ≤ 5000 := by have hq := sumF_b (set := nI (j + 1)) hft k (Nat.le_refl k) hk; exact ⟨hq.1, by omega⟩
      refine lv_iload hx hb dX7_best_108 (lv_at hl 2 rfl) ?_
      refine lv_iload_n hx hb dX7_best_110 rfl (lv_at hl 8 rfl) ?_
      refine lv_icmp_le (tgt := 121) hx hb dX7_best_111 (by decide) (fun c4 => ?_) (fun c4 => ?_)
      · have iw5 := Int32.not_lt.mpr c4
        refine lv_iload_n hx hb dX7_best_121 rfl (lv_at hl 8 rfl) ?_
        refine lv_iload hx hb dX7_best_122 (lv_at hl 2 rfl) ?_
        refine lv_isub hx hb dX7_best_124 ?_
        refine lv_topi (fun z9 ez9 => ?_)
        have ez9 : z9 = absI (gap - sumF ft (nI (j + 1)) k) := ez9.trans (abs_le hgap hsb c4)
        subst ez9
        refine lv_istore (lv' := [(9, .int (absI (gap - sumF ft (nI (j + 1)) k))), (8, .int (bcF (nI (j + 1)))), (7, .int (sumF ft (nI (j + 1)) k)), (6, .int (nI (j + 1))), (5, .int ((nsF ft k gap most j).2.2)), (4, .int ((nsF ft k gap most j).2.1)), (3, .int ((nsF ft k gap most j).1)), (2, .int most), (1, .int gap), (0, .ref mo)]) hx hb dX7_best_125 hl (by decide) rfl (fun ls hl => ?_)
        refine lv_iload hx hb dX7_best_127 (lv_at hl 1 rfl) ?_
        refine lv_iload_n hx hb dX7_best_129 rfl (lv_at hl 7 rfl) ?_
        refine lv_icmp_gt (tgt := 165) hx hb dX7_best_130 (by decide) (fun c6 => ?_) (fun c6 => ?_)
        · have iw7 := Int32.not_le.mpr c6
          refine lv_iinc (v := (nI (j + 1)) + 1) (lv' := [(6, .int ((nI (j + 1)) + 1)), (9, .int (absI (gap - sumF ft (nI (j + 1)) k))), (8, .int (bcF (nI (j + 1)))), (7, .int (sumF ft (nI (j + 1)) k)), (5, .int ((nsF ft k gap most j).2.2)), (4, .int ((nsF ft k gap most j).2.1)), (3, .int ((nsF ft k gap most j).1)), (2, .int most), (1, .int gap), (0, .ref mo)]) hx hb dX7_best_165 hl (k := 3) rfl rfl (by decide) rfl (fun ls hl => ?_)
          refine lv_goto (tgt := 34) hx hb dX7_best_168 (by decide) ?_
          have hs9 : nsF ft k gap most (j + 1) = _ := nsF_f (fun hc => absurd hc.1 (Int32.not_le.mpr c6))
          have h9 : lv_has ls 10 [(6, .int (nI (j + 1 + 1))), (5, .int ((nsF ft k gap most (j + 1)).2.2)), (4, .int ((nsF ft k gap most (j + 1)).2.1)), (3, .int ((nsF ft k gap most (j + 1)).1)), (2, .int most), (1, .int gap), (0, .ref mo)] := by have h8 := (lv_sub hl [0, 4, 5, 6, 7, 8, 9] rfl); rw [nI_1] at h8; rw [hs9]; exact h8
          exact ih (j + 1) _ _ ls hS (by omega) h9
        · have iw8 := Int32.not_lt.mp c6
          refine lv_iload hx hb dX7_best_133 (lv_at hl 0 rfl) ?_
          refine lv_iload hx hb dX7_best_135 (lv_at hl 5 rfl) ?_
          refine lv_icmp_lt (tgt := 154) hx hb dX7_best_137 (by decide) (fun c9 => ?_) (fun c9 => ?_)
          · have iw10 := Int32.not_le.mpr c9
            refine lv_iload hx hb dX7_best_154 (lv_at hl 3 rfl) ?_
            refine lv_istore_n (lv' := [(3, .int (nI (j + 1))), (9, .int (absI (gap - sumF ft (nI (j + 1)) k))), (8, .int (bcF (nI (j + 1)))), (7, .int (sumF ft (nI (j + 1)) k)), (6, .int (nI (j + 1))), (5, .int ((nsF ft k gap most j).2.2)), (4, .int ((nsF ft k gap most j).2.1)), (2, .int most), (1, .int gap), (0, .ref mo)]) hx hb dX7_best_156 rfl hl (by decide) rfl (fun ls hl => ?_)
            refine lv_iload hx hb dX7_best_157 (lv_at hl 1 rfl) ?_
            refine lv_istore (lv' := [(4, .int (absI (gap - sumF ft (nI (j + 1)) k))), (3, .int (nI (j + 1))), (9, .int (absI (gap - sumF ft (nI (j + 1)) k))), (8, .int (bcF (nI (j + 1)))), (7, .int (sumF ft (nI (j + 1)) k)), (6, .int (nI (j + 1))), (5, .int ((nsF ft k gap most j).2.2)), (2, .int most), (1, .int gap), (0, .ref mo)]) hx hb dX7_best_159 hl (by decide) rfl (fun ls hl => ?_)
            refine lv_iload hx hb dX7_best_161 (lv_at hl 3 rfl) ?_
            refine lv_istore (lv' := [(5, .int (bcF (nI (j + 1)))), (4, .int (absI (gap - sumF ft (nI (j + 1)) k))), (3, .int (nI (j + 1))), (9, .int (absI (gap - sumF ft (nI (j + 1)) k))), (8, .int (bcF (nI (j + 1)))), (7, .int (sumF ft (nI (j + 1)) k)), (6, .int (nI (j + 1))), (2, .int most), (1, .int gap), (0, .ref mo)]) hx hb dX7_best_163 hl (by decide) rfl (fun ls hl => ?_)
            refine lv_iinc (v := (nI (j + 1)) + 1) (lv' := [(6, .int ((nI (j + 1)) + 1)), (5, .int (bcF (nI (j + 1)))), (4, .int (absI (gap - sumF ft (nI (j + 1)) k))), (3, .int (nI (j + 1))), (9, .int (absI (gap - sumF ft (nI (j + 1)) k))), (8, .int (bcF (nI (j + 1)))), (7, .int (sumF ft (nI (j + 1)) k)), (2, .int most), (1, .int gap), (0, .ref mo)]) hx hb dX7_best_165 hl (k := 6) rfl rfl (by decide) rfl (fun ls hl => ?_)
            refine lv_goto (tgt := 34) hx hb dX7_best_168 (by decide) ?_
            have hs9 : nsF ft k gap most (j + 1) = _ := nsF_t iw8 (Or.inl c9)
            have h9 : lv_has ls 10 [(6, .int (nI (j + 1 + 1))), (5, .int ((nsF ft k gap most (j + 1)).2.2)), (4, .int ((nsF ft k gap most (j + 1)).2.1)), (3, .int ((nsF ft k gap most (j + 1)).1)), (2, .int most), (1, .int gap), (0, .ref mo)] := by have h8 := (lv_sub hl [0, 1, 2, 3, 7, 8, 9] rfl); rw [nI_1] at h8; rw [hs9]; exact h8
            exact ih (j + 1) _ _ ls hS (by omega) h9
          · have iw11 := Int32.not_lt.mp c9
            refine lv_iload hx hb dX7_best_140 (lv_at hl 0 rfl) ?_
            refine lv_iload hx hb dX7_best_142 (lv_at hl 5 rfl) ?_
            refine lv_icmp_ne (tgt := 165) hx hb dX7_best_144 (by decide) (fun c12 => ?_) (fun c12 => ?_)
            · refine lv_iinc (v := (nI (j + 1)) + 1) (lv' := [(6, .int ((nI (j + 1)) + 1)), (9, .int (absI (gap - sumF ft (nI (j + 1)) k))), (8, .int (bcF (nI (j + 1)))), (7, .int (sumF ft (nI (j + 1)) k)), (5, .int ((nsF ft k gap most j).2.2)), (4, .int ((nsF ft k gap most j).2.1)), (3, .int ((nsF ft k gap most j).1)), (2, .int most), (1, .int gap), (0, .ref mo)]) hx hb dX7_best_165 hl (k := 3) rfl rfl (by decide) rfl (fun ls hl => ?_)
              refine lv_goto (tgt := 34) hx hb dX7_best_168 (by decide) ?_
              have hs9 : nsF ft k gap most (j + 1) = _ := nsF_f (fun hc => hc.2.elim (fun h => c9 h) (fun h => c12 h.1))
              have h9 : lv_has ls 10 [(6, .int (nI (j + 1 + 1))), (5, .int ((nsF ft k gap most (j + 1)).2.2)), (4, .int ((nsF ft k gap most (j + 1)).2.1)), (3, .int ((nsF ft k gap most (j + 1)).1)), (2, .int most), (1, .int gap), (0, .ref mo)] := by have h8 := (lv_sub hl [0, 4, 5, 6, 7, 8, 9] rfl); rw [nI_1] at h8; rw [hs9]; exact h8
              exact ih (j + 1) _ _ ls hS (by omega) h9
            · refine lv_iload hx hb dX7_best_147 (lv_at hl 1 rfl) ?_
              refine lv_iload hx hb dX7_best_149 (lv_at hl 4 rfl) ?_
              refine lv_icmp_ge (tgt := 165) hx hb dX7_best_151 (by decide) (fun c13 => ?_) (fun c13 => ?_)
              · have iw14 := Int32.not_lt.mpr c13
                refine lv_iinc (v := (nI (j + 1)) + 1) (lv' := [(6, .int ((nI (j + 1)) + 1)), (9, .int (absI (gap - sumF ft (nI (j + 1)) k))), (8, .int (bcF (nI (j + 1)))), (7, .int (sumF ft (nI (j + 1)) k)), (5, .int ((nsF ft k gap most j).2.2)), (4, .int ((nsF ft k gap most j).2.1)), (3, .int ((nsF ft k gap most j).1)), (2, .int most), (1, .int gap), (0, .ref mo)]) hx hb dX7_best_165 hl (k := 3) rfl rfl (by decide) rfl (fun ls hl => ?_)
                refine lv_goto (tgt := 34) hx hb dX7_best_168 (by decide) ?_
                have hs9 : nsF ft k gap most (j + 1) = _ := nsF_f (fun hc => hc.2.elim (fun h => c9 h) (fun h => absurd h.2 (Int32.not_lt.mpr c13)))
                have h9 : lv_has ls 10 [(6, .int (nI (j + 1 + 1))), (5, .int ((nsF ft k gap most (j + 1)).2.2)), (4, .int ((nsF ft k gap most (j + 1)).2.1)), (3, .int ((nsF ft k gap most (j + 1)).1)), (2, .int most), (1, .int gap), (0, .ref mo)] := by have h8 := (lv_sub hl [0, 4, 5, 6, 7, 8, 9] rfl); rw [nI_1] at h8; rw [hs9]; exact h8
                exact ih (j + 1) _ _ ls hS (by omega) h9
              · have iw15 := Int32.not_le.mp c13
                refine lv_iload hx hb dX7_best_154 (lv_at hl 3 rfl) ?_
                refine lv_istore_n (lv' := [(3, .int (nI (j + 1))), (9, .int (absI (gap - sumF ft (nI (j + 1)) k))), (8, .int (bcF (nI (j + 1)))), (7, .int (sumF ft (nI (j + 1)) k)), (6, .int (nI (j + 1))), (5, .int ((nsF ft k gap most j).2.2)), (4, .int ((nsF ft k gap most j).2.1)), (2, .int most), (1, .int gap), (0, .ref mo)]) hx hb dX7_best_156 rfl hl (by decide) rfl (fun ls hl => ?_)
                refine lv_iload hx hb dX7_best_157 (lv_at hl 1 rfl) ?_
                refine lv_istore (lv' := [(4, .int (absI (gap - sumF ft (nI (j + 1)) k))), (3, .int (nI (j + 1))), (9, .int (absI (gap - sumF ft (nI (j + 1)) k))), (8, .int (bcF (nI (j + 1)))), (7, .int (sumF ft (nI (j + 1)) k)), (6, .int (nI (j + 1))), (5, .int ((nsF ft k gap most j).2.2)), (2, .int most), (1, .int gap), (0, .ref mo)]) hx hb dX7_best_159 hl (by decide) rfl (fun ls hl => ?_)
                refine lv_iload hx hb dX7_best_161 (lv_at hl 3 rfl) ?_
                refine lv_istore (lv' := [(5, .int (bcF (nI (j + 1)))), (4, .int (absI (gap - sumF ft (nI (j + 1)) k))), (3, .int (nI (j + 1))), (9, .int (absI (gap - sumF ft (nI (j + 1)) k))), (8, .int (bcF (nI (j + 1)))), (7, .int (sumF ft (nI (j + 1)) k)), (6, .int (nI (j + 1))), (2, .int most), (1, .int gap), (0, .ref mo)]) hx hb dX7_best_163 hl (by decide) rfl (fun ls hl => ?_)
                refine lv_iinc (v := (nI (j + 1)) + 1) (lv' := [(6, .int ((nI (j + 1)) + 1)), (5, .int (bcF (nI (j + 1)))), (4, .int (absI (gap - sumF ft (nI (j + 1)) k))), (3, .int (nI (j + 1))), (9, .int (absI (gap - sumF ft (nI (j + 1)) k))), (8, .int (bcF (nI (j + 1)))), (7, .int (sumF ft (nI (j + 1)) k)), (2, .int most), (1, .int gap), (0, .ref mo)]) hx hb dX7_best_165 hl (k := 6) rfl rfl (by decide) rfl (fun ls hl => ?_)
                refine lv_goto (tgt := 34) hx hb dX7_best_168 (by decide) ?_
                have hs9 : nsF ft k gap most (j + 1) = _ := nsF_t iw8 (Or.inr ⟨(by first | exact c12 | exact Decidable.not_not.mp c12), Int32.not_le.mp c13⟩)
                have h9 : lv_has ls 10 [(6, .int (nI (j + 1 + 1))), (5, .int ((nsF ft k gap most (j + 1)).2.2)), (4, .int ((nsF ft k gap most (j + 1)).2.1)), (3, .int ((nsF ft k gap most (j + 1)).1)), (2, .int most), (1, .int gap), (0, .ref mo)] := by have h8 := (lv_sub hl [0, 1, 2, 3, 7, 8, 9] rfl); rw [nI_1] at h8; rw [hs9]; exact h8
                exact ih (j + 1) _ _ ls hS (by omega) h9
      · have iw16 := Int32.not_le.mp c4
        refine lv_iload hx hb dX7_best_114 (lv_at hl 2 rfl) ?_
        refine lv_iload_n hx hb dX7_best_116 rfl (lv_at hl 8 rfl) ?_
        refine lv_isub hx hb dX7_best_117 ?_
        refine lv_goto (tgt := 125) hx hb dX7_best_118 (by decide) ?_
        refine lv_topi (fun z9 ez9 => ?_)
        have ez9 : z9 = absI (gap - sumF ft (nI (j + 1)) k) := ez9.trans (abs_gt hgap hsb c4)
        subst ez9
        refine lv_istore (lv' := [(9, .int (absI (gap - sumF ft (nI (j + 1)) k))), (8, .int (bcF (nI (j + 1)))), (7, .int (sumF ft (nI (j + 1)) k)), (6, .int (nI (j + 1))), (5, .int ((nsF ft k gap most j).2.2)), (4, .int ((nsF ft k gap most j).2.1)), (3, .int ((nsF ft k gap most j).1)), (2, .int most), (1, .int gap), (0, .ref mo)]) hx hb dX7_best_125 hl (by decide) rfl (fun ls hl => ?_)
        refine lv_iload hx hb dX7_best_127 (lv_at hl 1 rfl) ?_
        refine lv_iload_n hx hb dX7_best_129 rfl (lv_at hl 7 rfl) ?_
        refine lv_icmp_gt (tgt := 165) hx hb dX7_best_130 (by decide) (fun c17 => ?_) (fun c17 => ?_)
        · have iw18 := Int32.not_le.mpr c17
          refine lv_iinc (v := (nI (j + 1)) + 1) (lv' := [(6, .int ((nI (j + 1)) + 1)), (9, .int (absI (gap - sumF ft (nI (j + 1)) k))), (8, .int (bcF (nI (j + 1)))), (7, .int (sumF ft (nI (j + 1)) k)), (5, .int ((nsF ft k gap most j).2.2)), (4, .int ((nsF ft k gap most j).2.1)), (3, .int ((nsF ft k gap most j).1)), (2, .int most), (1, .int gap), (0, .ref mo)]) hx hb dX7_best_165 hl (k := 3) rfl rfl (by decide) rfl (fun ls hl => ?_)
          refine lv_goto (tgt := 34) hx hb dX7_best_168 (by decide) ?_
          have hs9 : nsF ft k gap most (j + 1) = _ := nsF_f (fun hc => absurd hc.1 (Int32.not_le.mpr c17))
          have h9 : lv_has ls 10 [(6, .int (nI (j + 1 + 1))), (5, .int ((nsF ft k gap most (j + 1)).2.2)), (4, .int ((nsF ft k gap most (j + 1)).2.1)), (3, .int ((nsF ft k gap most (j + 1)).1)), (2, .int most), (1, .int gap), (0, .ref mo)] := by have h8 := (lv_sub hl [0, 4, 5, 6, 7, 8, 9] rfl); rw [nI_1] at h8; rw [hs9]; exact h8
          exact ih (j + 1) _ _ ls hS (by omega) h9
        · have iw19 := Int32.not_lt.mp c17
          refine lv_iload hx hb dX7_best_133 (lv_at hl 0 rfl) ?_
          refine lv_iload hx hb dX7_best_135 (lv_at hl 5 rfl) ?_
          refine lv_icmp_lt (tgt := 154) hx hb dX7_best_137 (by decide) (fun c20 => ?_) (fun c20 => ?_)
          · have iw21 := Int32.not_le.mpr c20
            refine lv_iload hx hb dX7_best_154 (lv_at hl 3 rfl) ?_
            refine lv_istore_n (lv' := [(3, .int (nI (j + 1))), (9, .int (absI (gap - sumF ft (nI (j + 1)) k))), (8, .int (bcF (nI (j + 1)))), (7, .int (sumF ft (nI (j + 1)) k)), (6, .int (nI (j + 1))), (5, .int ((nsF ft k gap most j).2.2)), (4, .int ((nsF ft k gap most j).2.1)), (2, .int most), (1, .int gap), (0, .ref mo)]) hx hb dX7_best_156 rfl hl (by decide) rfl (fun ls hl => ?_)
            refine lv_iload hx hb dX7_best_157 (lv_at hl 1 rfl) ?_
            refine lv_istore (lv' := [(4, .int (absI (gap - sumF ft (nI (j + 1)) k))), (3, .int (nI (j + 1))), (9, .int (absI (gap - sumF ft (nI (j + 1)) k))), (8, .int (bcF (nI (j + 1)))), (7, .int (sumF ft (nI (j + 1)) k)), (6, .int (nI (j + 1))), (5, .int ((nsF ft k gap most j).2.2)), (2, .int most), (1, .int gap), (0, .ref mo)]) hx hb dX7_best_159 hl (by decide) rfl (fun ls hl => ?_)
            refine lv_iload hx hb dX7_best_161 (lv_at hl 3 rfl) ?_
            refine lv_istore (lv' := [(5, .int (bcF (nI (j + 1)))), (4, .int (absI (gap - sumF ft (nI (j + 1)) k))), (3, .int (nI (j + 1))), (9, .int (absI (gap - sumF ft (nI (j + 1)) k))), (8, .int (bcF (nI (j + 1)))), (7, .int (sumF ft (nI (j + 1)) k)), (6, .int (nI (j + 1))), (2, .int most), (1, .int gap), (0, .ref mo)]) hx hb dX7_best_163 hl (by decide) rfl (fun ls hl => ?_)
            refine lv_iinc (v := (nI (j + 1)) + 1) (lv' := [(6, .int ((nI (j + 1)) + 1)), (5, .int (bcF (nI (j + 1)))), (4, .int (absI (gap - sumF ft (nI (j + 1)) k))), (3, .int (nI (j + 1))), (9, .int (absI (gap - sumF ft (nI (j + 1)) k))), (8, .int (bcF (nI (j + 1)))), (7, .int (sumF ft (nI (j + 1)) k)), (2, .int most), (1, .int gap), (0, .ref mo)]) hx hb dX7_best_165 hl (k := 6) rfl rfl (by decide) rfl (fun ls hl => ?_)
            refine lv_goto (tgt := 34) hx hb dX7_best_168 (by decide) ?_
            have hs9 : nsF ft k gap most (j + 1) = _ := nsF_t iw19 (Or.inl c20)
            have h9 : lv_has ls 10 [(6, .int (nI (j + 1 + 1))), (5, .int ((nsF ft k gap most (j + 1)).2.2)), (4, .int ((nsF ft k gap most (j + 1)).2.1)), (3, .int ((nsF ft k gap most (j + 1)).1)), (2, .int most), (1, .int gap), (0, .ref mo)] := by have h8 := (lv_sub hl [0, 1, 2, 3, 7, 8, 9] rfl); rw [nI_1] at h8; rw [hs9]; exact h8
            exact ih (j + 1) _ _ ls hS (by omega) h9
          · have iw22 := Int32.not_lt.mp c20
            refine lv_iload hx hb dX7_best_140 (lv_at hl 0 rfl) ?_
            refine lv_iload hx hb dX7_best_142 (lv_at hl 5 rfl) ?_
            refine lv_icmp_ne (tgt := 165) hx hb dX7_best_144 (by decide) (fun c23 => ?_) (fun c23 => ?_)
            · refine lv_iinc (v := (nI (j + 1)) + 1) (lv' := [(6, .int ((nI (j + 1)) + 1)), (9, .int (absI (gap - sumF ft (nI (j + 1)) k))), (8, .int (bcF (nI (j + 1)))), (7, .int (sumF ft (nI (j + 1)) k)), (5, .int ((nsF ft k gap most j).2.2)), (4, .int ((nsF ft k gap most j).2.1)), (3, .int ((nsF ft k gap most j).1)), (2, .int most), (1, .int gap), (0, .ref mo)]) hx hb dX7_best_165 hl (k := 3) rfl rfl (by decide) rfl (fun ls hl => ?_)
              refine lv_goto (tgt := 34) hx hb dX7_best_168 (by decide) ?_
              have hs9 : nsF ft k gap most (j + 1) = _ := nsF_f (fun hc => hc.2.elim (fun h => c20 h) (fun h => c23 h.1))
              have h9 : lv_has ls 10 [(6, .int (nI (j + 1 + 1))), (5, .int ((nsF ft k gap most (j + 1)).2.2)), (4, .int ((nsF ft k gap most (j + 1)).2.1)), (3, .int ((nsF ft k gap most (j + 1)).1)), (2, .int most), (1, .int gap), (0, .ref mo)] := by have h8 := (lv_sub hl [0, 4, 5, 6, 7, 8, 9] rfl); rw [nI_1] at h8; rw [hs9]; exact h8
              exact ih (j + 1) _ _ ls hS (by omega) h9
            · refine lv_iload hx hb dX7_best_147 (lv_at hl 1 rfl) ?_
              refine lv_iload hx hb dX7_best_149 (lv_at hl 4 rfl) ?_
              refine lv_icmp_ge (tgt := 165) hx hb dX7_best_151 (by decide) (fun c24 => ?_) (fun c24 => ?_)
              · have iw25 := Int32.not_lt.mpr c24
                refine lv_iinc (v := (nI (j + 1)) + 1) (lv' := [(6, .int ((nI (j + 1)) + 1)), (9, .int (absI (gap - sumF ft (nI (j + 1)) k))), (8, .int (bcF (nI (j + 1)))), (7, .int (sumF ft (nI (j + 1)) k)), (5, .int ((nsF ft k gap most j).2.2)), (4, .int ((nsF ft k gap most j).2.1)), (3, .int ((nsF ft k gap most j).1)), (2, .int most), (1, .int gap), (0, .ref mo)]) hx hb dX7_best_165 hl (k := 3) rfl rfl (by decide) rfl (fun ls hl => ?_)
                refine lv_goto (tgt := 34) hx hb dX7_best_168 (by decide) ?_
                have hs9 : nsF ft k gap most (j + 1) = _ := nsF_f (fun hc => hc.2.elim (fun h => c20 h) (fun h => absurd h.2 (Int32.not_lt.mpr c24)))
                have h9 : lv_has ls 10 [(6, .int (nI (j + 1 + 1))), (5, .int ((nsF ft k gap most (j + 1)).2.2)), (4, .int ((nsF ft k gap most (j + 1)).2.1)), (3, .int ((nsF ft k gap most (j + 1)).1)), (2, .int most), (1, .int gap), (0, .ref mo)] := by have h8 := (lv_sub hl [0, 4, 5, 6, 7, 8, 9] rfl); rw [nI_1] at h8; rw [hs9]; exact h8
                exact ih (j + 1) _ _ ls hS (by omega) h9
              · have iw26 := Int32.not_le.mp c24
                refine lv_iload hx hb dX7_best_154 (lv_at hl 3 rfl) ?_
                refine lv_istore_n (lv' := [(3, .int (nI (j + 1))), (9, .int (absI (gap - sumF ft (nI (j + 1)) k))), (8, .int (bcF (nI (j + 1)))), (7, .int (sumF ft (nI (j + 1)) k)), (6, .int (nI (j + 1))), (5, .int ((nsF ft k gap most j).2.2)), (4, .int ((nsF ft k gap most j).2.1)), (2, .int most), (1, .int gap), (0, .ref mo)]) hx hb dX7_best_156 rfl hl (by decide) rfl (fun ls hl => ?_)
                refine lv_iload hx hb dX7_best_157 (lv_at hl 1 rfl) ?_
                refine lv_istore (lv' := [(4, .int (absI (gap - sumF ft (nI (j + 1)) k))), (3, .int (nI (j + 1))), (9, .int (absI (gap - sumF ft (nI (j + 1)) k))), (8, .int (bcF (nI (j + 1)))), (7, .int (sumF ft (nI (j + 1)) k)), (6, .int (nI (j + 1))), (5, .int ((nsF ft k gap most j).2.2)), (2, .int most), (1, .int gap), (0, .ref mo)]) hx hb dX7_best_159 hl (by decide) rfl (fun ls hl => ?_)
                refine lv_iload hx hb dX7_best_161 (lv_at hl 3 rfl) ?_
                refine lv_istore (lv' := [(5, .int (bcF (nI (j + 1)))), (4, .int (absI (gap - sumF ft (nI (j + 1)) k))), (3, .int (nI (j + 1))), (9, .int (absI (gap - sumF ft (nI (j + 1)) k))), (8, .int (bcF (nI (j + 1)))), (7, .int (sumF ft (nI (j + 1)) k)), (6, .int (nI (j + 1))), (2, .int most), (1, .int gap), (0, .ref mo)]) hx hb dX7_best_163 hl (by decide) rfl (fun ls hl => ?_)
                refine lv_iinc (v := (nI (j + 1)) + 1) (lv' := [(6, .int ((nI (j + 1)) + 1)), (5, .int (bcF (nI (j + 1)))), (4, .int (absI (gap - sumF ft (nI (j + 1)) k))), (3, .int (nI (j + 1))), (9, .int (absI (gap - sumF ft (nI (j + 1)) k))), (8, .int (bcF (nI (j + 1)))), (7, .int (sumF ft (nI (j + 1)) k)), (2, .int most), (1, .int gap), (0, .ref mo)]) hx hb dX7_best_165 hl (k := 6) rfl rfl (by decide) rfl (fun ls hl => ?_)
                refine lv_goto (tgt := 34) hx hb dX7_best_168 (by decide) ?_
                have hs9 : nsF ft k gap most (j + 1) = _ := nsF_t iw19 (Or.inr ⟨(by first | exact c23 | exact Decidable.not_not.mp c23), Int32.not_le.mp c24⟩)
                have h9 : lv_has ls 10 [(6, .int (nI (j + 1 + 1))), (5, .int ((nsF ft k gap most (j + 1)).2.2)), (4, .int ((nsF ft k gap most (j + 1)).2.1)), (3, .int ((nsF ft k gap most (j + 1)).1)), (2, .int most), (1, .int gap), (0, .ref mo)] := by have h8 := (lv_sub hl [0, 1, 2, 3, 7, 8, 9] rfl); rw [nI_1] at h8; rw [hs9]; exact h8
                exact ih (j + 1) _ _ ls hS (by omega) h9
set_option maxHeartbeats 4000000 in
set_option maxRecDepth 100000 in
theorem mX7_best (l : Launch) (D : va_G) (cI cH : ClassId) (mo nu sh ra rr k k2 : Nat) (ft : Nat → Int32) (ct cp cr ctr cfs : Int32) (p0 p1 p2 p3 p4 p5 p6 p7 p8 p9 po : UInt64) (gap most : Int32)  (hk : k ≤ 10) (hft : ∀ j, j < k → 0 ≤ (ft j).toInt ∧ (ft j).toInt ≤ 500) : Met l yX7_best wsX7_best ({ frames := 1, cells := 0, slots := 0, locals := 22 }) (va_Pc [.ref mo, .int gap, .int most] (kB D cI cH [(mo, .inr (6, [.ref nu, .double p0, .double p1, .double p2, .double p3, .double p4, .double p5, .double p6, .double p7, .double p8, .double p9, .int ct, .int cp, .int cr, .int ctr, .int cfs, .int (nI k), .ref sh, .int (nI k2), .ref ra, .ref rr, .double po])), (sh, .inl (cI, 10, .inl ft))])) (va_Qi (fun (r : Int32) (u : Unit) => r = if isW gap 0 2000 && isW most 0 3 then (nsF ft k gap most (2 ^ k - 1)).1 else -2) (fun _ _ => True) nA) 0 0 nA := by
  refine Met.ofW (cc := cX7_best) (maxL := 10) (ret := (some .int)) (by decide) rfl ?_
  intro p e s m args below meth co s₁ B hml hv
  obtain ⟨rfl, hP0, hw⟩ := hv
  have hx := B.exec
  have hb := B.bytes
  have hr := B.returns
  have hts := atoms_spec (ws := wsX7_best) B.pre
  have hown : s.vm.findClass RX7 = some m.cls := findClass_of_methodNamed B.named
  have hlocks := B.notSynchronized
  have hinX7 : ∀ w ∈ wsX70, w ∈ wsX7_best := by decide +kernel
  have hS : va_S nA s.heap s.heap [] := va_S.rf
  have hR0 : va_P D vwCl [(mo, .inr (6, [.ref nu, .double p0, .double p1, .double p2, .double p3, .double p4, .double p5, .double p6, .double p7, .double p8, .double p9, .int ct, .int cp, .int cr, .int ctr, .int cfs, .int (nI k), .ref sh, .int (nI k2), .ref ra, .ref rr, .double po])), (sh, .inl (cI, 10, .inl ft))] s.heap := hP0.sub [0, 1] rfl
  have hR := hR0
  have hnr : ∀ (k9 : Nat) (q : Nat × va_E), ([(mo, .inr (6, [.ref nu, .double p0, .double p1, .double p2, .double p3, .double p4, .double p5, .double p6, .double p7, .double p8, .double p9, .int ct, .int cp, .int cr, .int ctr, .int cfs, .int (nI k), .ref sh, .int (nI k2), .ref ra, .ref rr, .double po])), (sh, .inl (cI, 10, .inl ft))] : va_W)[k9]? = some q → ¬ nA q.1 := fr_nA
  have hl := lv_entry ([.ref mo, .int gap, .int most]) (n := 10) (Nat.le_of_ble_eq_true rfl)
  rw [lg_entry_eq]
  generalize (lg_sl ([.ref mo, .int gap, .int most]) ++ List.replicate (10 - (lg_sl ([.ref mo, .int gap, .int most])).length) Slot.unset).toArray = ls at hl ⊢
  have hl : lv_has ls 10 [(0, .ref mo), (1, .int gap), (2, .int most)] := hl
  skip
  refine lv_iload_n hx hb dX7_best_0 rfl (lv_at hl 1 rfl) ?_
  refine lv_iconst (v := 0) hx hb dX7_best_1 (by decide) ?_
  refine lv_sipush (v := 2000) hx hb dX7_best_2 (by decide) ?_
  refine va_calli (va_runS (As := [.int gap, .int 0, .int 2000]) (rest := []) ⟨hx, hb, hml, hown, hts⟩ (mX7_in l gap 0 2000) (va_cwS 3 hts gX7_best_X7_in rfl rfl rfl (by decide +kernel) ⟨Nat.le_of_ble_eq_true rfl, Nat.le_of_ble_eq_true rfl⟩) ⟨tB_blind, tB_go⟩ rfl rfl hl.1 rfl (lv_room (Nat.le_of_ble_eq_true rfl)) dX7_best_5 ⟨Nat.le_of_ble_eq_true rfl, Nat.le_of_ble_eq_true rfl⟩) hS (fun q _ h => h.elim) (fun q h => h.elim) (fun r1 u2 t H locs ht hvm hp3 hB hz1 hk1 hS => ?_)
  have hR := fr_rd hR0 hS hnr
  subst hp3
  refine lv_if_eq (tgt := 20) hx hb dX7_best_8 (by decide) (fun c4 => ?_) (fun c4 => ?_)
  · have c4 := bI_e.mp c4
    refine lv_bipush (v := (-2)) hx hb dX7_best_20 (by decide) ?_
    exact W.iret (v := (-2)) hx hb hr (fun t ht hW => ⟨⟨(-2), (), rfl, (by dsimp only; rw [show (isW gap 0 2000 && isW most 0 3) = false from (by simp [c4]), if_neg (by decide)]), trivial⟩, hS.F ht⟩) hS.2.2 dX7_best_22
  · have c4 := bI_n.mp c4
    refine lv_iload_n hx hb dX7_best_11 rfl (lv_at hl 2 rfl) ?_
    refine lv_iconst (v := 0) hx hb dX7_best_12 (by decide) ?_
    refine lv_iconst (v := 3) hx hb dX7_best_13 (by decide) ?_
    refine va_calli (va_runS (As := [.int most, .int 0, .int 3]) (rest := []) ⟨hx, hb, hml, hown, hts⟩ (mX7_in l most 0 3) (va_cwS 3 hts gX7_best_X7_in rfl rfl rfl (by decide +kernel) ⟨Nat.le_of_ble_eq_true rfl, Nat.le_of_ble_eq_true rfl⟩) ⟨tB_blind, tB_go⟩ rfl rfl hl.1 rfl (lv_room (Nat.le_of_ble_eq_true rfl)) dX7_best_14 ⟨Nat.le_of_ble_eq_true rfl, Nat.le_of_ble_eq_true rfl⟩) hS (fun q _ h => h.elim) (fun q h => h.elim) (fun r5 u6 t H locs ht hvm hp7 hB hz1 hk1 hS => ?_)
    have hR := fr_rd hR0 hS hnr
    subst hp7
    refine lv_if_ne (tgt := 23) hx hb dX7_best_17 (by decide) (fun c8 => ?_) (fun c8 => ?_)
    · have c8 := bI_n.mp c8
      refine lv_iconst (v := 0) hx hb dX7_best_23 (by decide) ?_
      refine lv_istore_n (lv' := [(3, .int 0), (0, .ref mo), (1, .int gap), (2, .int most)]) hx hb dX7_best_24 rfl hl (by decide) rfl (fun ls hl => ?_)
      refine lv_iload_n hx hb dX7_best_25 rfl (lv_at hl 2 rfl) ?_
      refine lv_istore (lv' := [(4, .int gap), (3, .int 0), (0, .ref mo), (1, .int gap), (2, .int most)]) hx hb dX7_best_26 hl (by decide) rfl (fun ls hl => ?_)
      refine lv_iconst (v := 0) hx hb dX7_best_28 (by decide) ?_
      refine lv_istore (lv' := [(5, .int 0), (4, .int gap), (3, .int 0), (0, .ref mo), (1, .int gap), (2, .int most)]) hx hb dX7_best_29 hl (by decide) rfl (fun ls hl => ?_)
      refine lv_iconst (v := 1) hx hb dX7_best_31 (by decide) ?_
      refine lv_istore (lv' := [(6, .int 1), (5, .int 0), (4, .int gap), (3, .int 0), (0, .ref mo), (1, .int gap), (2, .int most)]) hx hb dX7_best_32 hl (by decide) rfl (fun ls hl => ?_)
      have h5 : lv_has ls 10 [(6, .int (nI (0 + 1))), (5, .int ((nsF ft k gap most 0).2.2)), (4, .int ((nsF ft k gap most 0).2.1)), (3, .int ((nsF ft k gap most 0).1)), (2, .int most), (1, .int gap), (0, .ref mo)] := (lv_sub hl [0, 1, 2, 3, 6, 5, 4] rfl)
      have hp1 := Nat.two_pow_pos k
      have hgap : 0 ≤ gap.toInt ∧ gap.toInt ≤ 2000 := isW_i c4
      refine lpX7_near D cI cH (N := ft) (f1 := ft) (f2 := ft) hx hb hml hown hts hw hR0 hk hgap hft (fun H locs ls hS hl => ?_) (2 ^ k - 1) 0 _ _ ls hS (by omega) h5
      refine lv_iload_n hx hb dX7_best_171 rfl (lv_at hl 3 rfl) ?_
      exact W.iret (v := (nsF ft k gap most (2 ^ k - 1)).1) hx hb hr (fun t ht hW => ⟨⟨(nsF ft k gap most (2 ^ k - 1)).1, (), rfl, (by dsimp only; rw [show (isW gap 0 2000 && isW most 0 3) = true from (by simp [c4, c8]), if_pos rfl]), trivial⟩, hS.F ht⟩) hS.2.2 dX7_best_172
    · have c8 := bI_e.mp c8
      refine lv_bipush (v := (-2)) hx hb dX7_best_20 (by decide) ?_
      exact W.iret (v := (-2)) hx hb hr (fun t ht hW => ⟨⟨(-2), (), rfl, (by dsimp only; rw [show (isW gap 0 2000 && isW most 0 3) = false from (by simp [c4, c8]), if_neg (by decide)]), trivial⟩, hS.F ht⟩) hS.2.2 dX7_best_22
