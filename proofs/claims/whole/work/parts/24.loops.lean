/-! LOOPS WITH CALLS over the rows: the digest's, the nearest set -/
def mxS (ft : Nat → Int32) (h : Int64) : Nat → Int64
  | 0 => h
  | n + 1 => mx (mxS ft h n) (ft n)
def mxR (f1 f2 : Nat → Int32) (h : Int64) : Nat → Int64
  | 0 => h
  | n + 1 => mx (mx (mxR f1 f2 h n) (f1 n)) (f2 n)
theorem mxS_s (ft : Nat → Int32) (h : Int64) (n : Nat) : mxS ft h (n + 1) = mx (mxS ft h n) (ft n) := rfl
theorem mxR_s (f1 f2 : Nat → Int32) (h : Int64) (n : Nat) : mxR f1 f2 h (n + 1) = mx (mx (mxR f1 f2 h n) (f1 n)) (f2 n) := rfl
set_option maxHeartbeats 4000000 in
set_option maxRecDepth 100000 in
theorem lpX4_mix {p : Program} {l : Launch} {e : Env} {s : State} {m : MethodId} {args : Array Value} {below : List Frame} {meth : Method} {co : Code} {Q : State → Prop} (D : va_G) (cI cH : ClassId) (hx : p.tables.exec = Jvm.exec) (hb : co.code = cX4_mixInto) (hml : co.maxLocals = 6) (hown : s.vm.findClass RX4 = some m.cls) (hts : ∀ w ∈ wsX4_mixInto, w.before args s = true) (hw : wk D cI cH s) {bx th k : Nat} {ft : Nat → Int32} {h : Int64} (hR0 : va_P D vwCl [(bx, .inr (3, [.ref th, .int (nI k)])), (th, .inl (cI, 10, .inl ft))] s.heap) (hk : k ≤ 10) (kk : ∀ (H : Heap) (locs : List Loc) (ls : Array Slot), va_S nA s.heap H locs → lv_has ls 6 [(5, .int (nI k)), (3, .long (mxS ft h k)), (1, .long h), (0, .ref bx)] → W p l e ({ frames := 1, cells := 0, slots := 0, locals := 22 } : Room) s m args below meth co H locs 0 0 Q (F0 m 32 ls [])) : ∀ (n j : Nat) (H : Heap) (locs : List Loc) (ls : Array Slot), va_S nA s.heap H locs → j + n = k → lv_has ls 6 [(5, .int (nI j)), (3, .long (mxS ft h j)), (1, .long h), (0, .ref bx)] → W p l e ({ frames := 1, cells := 0, slots := 0, locals := 22 } : Room) s m args below meth co H locs 0 0 Q (F0 m 5 ls []) := by
  have hinX4 : ∀ w ∈ wsX40, w ∈ wsX4_mixInto := by decide +kernel
  have hnr : ∀ (k9 : Nat) (q : Nat × va_E), ([(bx, .inr (3, [.ref th, .int (nI k)])), (th, .inl (cI, 10, .inl ft))] : va_W)[k9]? = some q → ¬ nA q.1 := fr_nA
  intro n
  induction n with
  | zero =>
    intro j H locs ls hS hI hl
    have hjk : j = k := by omega
    subst hjk
    have hR := fr_rd hR0 hS hnr
    refine lv_iload hx hb dX4_mixInto_5 (lv_at hl 0 rfl) ?_
    refine lv_aload_n hx hb dX4_mixInto_7 rfl (lv_at hl 3 rfl) ?_
    refine va_get (D := D) (ci := 3) (v := .int (nI j)) (C := RX4) (T := TX4) (N := 2) hx hb hts hinX4 hown hw.1 hR 0 rfl rfl 1 (by decide) (hts (.fieldLink RX4 15 "WheelSwing$ShimBox" "size" "I") (by decide +kernel)) (fun _ h9 => h9) rfl dX4_mixInto_8 ?_
    refine lv_icmp_ge (tgt := 32) hx hb dX4_mixInto_11 (by decide) (fun c1 => ?_) (fun c1 => ?_)
    · have i2 := Int32.not_lt.mpr c1
      exact kk _ _ ls hS (lv_sub hl [0, 1, 2, 3] rfl)
    · have i3 := Int32.not_le.mp c1
      exact absurd (Int32.le_refl _) c1
  | succ n ih =>
    intro j H locs ls hS hI hl
    have hR := fr_rd hR0 hS hnr
    refine lv_iload hx hb dX4_mixInto_5 (lv_at hl 0 rfl) ?_
    refine lv_aload_n hx hb dX4_mixInto_7 rfl (lv_at hl 3 rfl) ?_
    refine va_get (D := D) (ci := 3) (v := .int (nI k)) (C := RX4) (T := TX4) (N := 2) hx hb hts hinX4 hown hw.1 hR 0 rfl rfl 1 (by decide) (hts (.fieldLink RX4 15 "WheelSwing$ShimBox" "size" "I") (by decide +kernel)) (fun _ h9 => h9) rfl dX4_mixInto_8 ?_
    refine lv_icmp_ge (tgt := 32) hx hb dX4_mixInto_11 (by decide) (fun c1 => ?_) (fun c1 => ?_)
    · have i2 := Int32.not_lt.mpr c1
      exact absurd ((nI_leI (by omega) (by omega)).mp c1) (by omega)
    · have i3 := Int32.not_le.mp c1
      refine lv_lload_n hx hb dX4_mixInto_14 rfl (lv_at hl 1 rfl) ?_
      refine lv_aload_n hx hb dX4_mixInto_15 rfl (lv_at hl 3 rfl) ?_
      refine va_get (D := D) (ci := 3) (v := .ref th) (C := RX4) (T := TX4) (N := 2) hx hb hts hinX4 hown hw.1 hR 0 rfl rfl 0 (by decide) (hts (.fieldLink RX4 11 "WheelSwing$ShimBox" "thick" "[I") (by decide +kernel)) (fun _ h9 => h9) rfl dX4_mixInto_16 ?_
      refine lv_iload hx hb dX4_mixInto_19 (lv_at hl 0 rfl) ?_
      refine va_iald hx hb hw.1 hR 1 0 rfl rfl (ix_in (show j < k by omega) hk (by omega)) dX4_mixInto_21 ?_
      refine va_calll (va_runSN (As := [.long (mxS ft h j), .int (ft (nI j).toNatClampNeg)]) (rest := []) ⟨hx, hb, hml, hown, hts⟩ (mX6_mix l (mxS ft h j) (ft (nI j).toNatClampNeg)) (⟨va_cnB 2 hts gX4_mixInto_X6_mix_n33 rfl rfl rfl (hw.2 (.methodLinkNest RX4 33 yX6_mix "WheelSwing") (by decide +kernel)) (hts (.initialized RX6) (by decide +kernel)) (by decide +kernel) ⟨Nat.le_of_ble_eq_true rfl, Nat.le_of_ble_eq_true rfl⟩, hts (.static yX6_mix) (by decide +kernel), trivial⟩) ⟨tB_blind, tB_go⟩ rfl rfl hl.1 rfl (lv_room (Nat.le_of_ble_eq_true rfl)) dX4_mixInto_22 ⟨Nat.le_of_ble_eq_true rfl, Nat.le_of_ble_eq_true rfl⟩) hS (fun q _ h => h.elim) (fun q h => h.elim) (fun r4 u5 t H locs ht hvm hp6 hB hz1 hk1 hS => ?_)
      have hR := fr_rd hR0 hS hnr
      have hp6 : r4 = mx (mxS ft h j) (ft (nI j).toNatClampNeg) := hp6
      subst hp6
      refine lv_lstore_n (lv' := [(3, .long (mx (mxS ft h j) (ft (nI j).toNatClampNeg))), (5, .int (nI j)), (1, .long h), (0, .ref bx)]) hx hb dX4_mixInto_25 rfl hl (by decide) rfl (fun ls hl => ?_)
      refine lv_iinc (v := (nI j) + 1) (lv' := [(5, .int ((nI j) + 1)), (3, .long (mx (mxS ft h j) (ft (nI j).toNatClampNeg))), (1, .long h), (0, .ref bx)]) hx hb dX4_mixInto_26 hl (k := 1) rfl rfl (by decide) rfl (fun ls hl => ?_)
      refine lv_goto (tgt := 5) hx hb dX4_mixInto_29 (by decide) ?_
      have h9 : lv_has ls 6 [(5, .int (nI (j + 1))), (3, .long (mxS ft h (j + 1))), (1, .long h), (0, .ref bx)] := by have h8 := (lv_sub hl [0, 1, 2, 3] rfl); rw [nI_1, nI_clamp (by omega)] at h8; rw [mxS_s]; exact h8
      exact ih (j + 1) _ _ ls hS (by omega) h9
set_option maxHeartbeats 4000000 in
set_option maxRecDepth 100000 in
theorem mX4_mixInto (l : Launch) (D : va_G) (cI cH : ClassId) (bx th k : Nat) (ft : Nat → Int32) (h : Int64)  (hk : k ≤ 10) : Met l yX4_mixInto wsX4_mixInto ({ frames := 1, cells := 0, slots := 0, locals := 22 }) (va_Pc [.ref bx, .long h] (kB D cI cH [(bx, .inr (3, [.ref th, .int (nI k)])), (th, .inl (cI, 10, .inl ft))])) (va_Ql (fun (r : Int64) (u : Unit) => r = mxS ft h k) (fun _ _ => True) nA) 0 0 nA := by
  refine Met.ofW (cc := cX4_mixInto) (maxL := 6) (ret := (some .long)) (by decide) rfl ?_
  intro p e s m args below meth co s₁ B hml hv
  obtain ⟨rfl, hP0, hw⟩ := hv
  have hx := B.exec
  have hb := B.bytes
  have hr := B.returns
  have hts := atoms_spec (ws := wsX4_mixInto) B.pre
  have hown : s.vm.findClass RX4 = some m.cls := findClass_of_methodNamed B.named
  have hlocks := B.notSynchronized
  have hinX4 : ∀ w ∈ wsX40, w ∈ wsX4_mixInto := by decide +kernel
  have hS : va_S nA s.heap s.heap [] := va_S.rf
  have hR0 : va_P D vwCl [(bx, .inr (3, [.ref th, .int (nI k)])), (th, .inl (cI, 10, .inl ft))] s.heap := hP0.sub [0, 1] rfl
  have hR := hR0
  have hnr : ∀ (k9 : Nat) (q : Nat × va_E), ([(bx, .inr (3, [.ref th, .int (nI k)])), (th, .inl (cI, 10, .inl ft))] : va_W)[k9]? = some q → ¬ nA q.1 := fr_nA
  have hl := lv_entry ([.ref bx, .long h]) (n := 6) (Nat.le_of_ble_eq_true rfl)
  rw [lg_entry_eq]
  generalize (lg_sl ([.ref bx, .long h]) ++ List.replicate (6 - (lg_sl ([.ref bx, .long h])).length) Slot.unset).toArray = ls at hl ⊢
  have hl : lv_has ls 6 [(0, .ref bx), (1, .long h)] := hl
  skip
  refine lv_lload_n hx hb dX4_mixInto_0 rfl (lv_at hl 1 rfl) ?_
  refine lv_lstore_n (lv' := [(3, .long h), (0, .ref bx), (1, .long h)]) hx hb dX4_mixInto_1 rfl hl (by decide) rfl (fun ls hl => ?_)
  refine lv_iconst (v := 0) hx hb dX4_mixInto_2 (by decide) ?_
  refine lv_istore (lv' := [(5, .int 0), (3, .long h), (0, .ref bx), (1, .long h)]) hx hb dX4_mixInto_3 hl (by decide) rfl (fun ls hl => ?_)
  have h5 : lv_has ls 6 [(5, .int (nI 0)), (3, .long (mxS ft h 0)), (1, .long h), (0, .ref bx)] := (lv_sub hl [0, 1, 3, 2] rfl)
  refine lpX4_mix D cI cH hx hb hml hown hts hw hR0 hk (fun H locs ls hS hl => ?_) k 0 _ _ ls hS (by omega) h5
  refine lv_lload_n hx hb dX4_mixInto_32 rfl (lv_at hl 1 rfl) ?_
  exact W.lret (v := mxS ft h k) hx hb hr (fun t ht hW => ⟨⟨mxS ft h k, (), rfl, rfl, trivial⟩, hS.F ht⟩) hS.2.2 dX4_mixInto_33
set_option maxHeartbeats 4000000 in
set_option maxRecDepth 100000 in
theorem lpX3_mix {p : Program} {l : Launch} {e : Env} {s : State} {m : MethodId} {args : Array Value} {below : List Frame} {meth : Method} {co : Code} {Q : State → Prop} (D : va_G) (cI cH : ClassId) (hx : p.tables.exec = Jvm.exec) (hb : co.code = cX3_mixInto) (hml : co.maxLocals = 6) (hown : s.vm.findClass RX3 = some m.cls) (hts : ∀ w ∈ wsX3_mixInto, w.before args s = true) (hw : wk D cI cH s) {rd ht1 ln k : Nat} {f1 f2 : Nat → Int32} {h : Int64} (hR0 : va_P D vwCl [(rd, .inr (2, [.ref ht1, .ref ln, .int (nI k)])), (ht1, .inl (cI, 12, .inl f1)), (ln, .inl (cI, 12, .inl f2))] s.heap) (hk : k ≤ 12) (kk : ∀ (H : Heap) (locs : List Loc) (ls : Array Slot), va_S nA s.heap H locs → lv_has ls 6 [(5, .int (nI k)), (3, .long (mxR f1 f2 h k)), (1, .long h), (0, .ref rd)] → W p l e ({ frames := 1, cells := 0, slots := 0, locals := 22 } : Room) s m args below meth co H locs 0 0 Q (F0 m 42 ls [])) : ∀ (n j : Nat) (H : Heap) (locs : List Loc) (ls : Array Slot), va_S nA s.heap H locs → j + n = k → lv_has ls 6 [(5, .int (nI j)), (3, .long (mxR f1 f2 h j)), (1, .long h), (0, .ref rd)] → W p l e ({ frames := 1, cells := 0, slots := 0, locals := 22 } : Room) s m args below meth co H locs 0 0 Q (F0 m 5 ls []) := by
  have hinX3 : ∀ w ∈ wsX30, w ∈ wsX3_mixInto := by decide +kernel
  have hnr : ∀ (k9 : Nat) (q : Nat × va_E), ([(rd, .inr (2, [.ref ht1, .ref ln, .int (nI k)])), (ht1, .inl (cI, 12, .inl f1)), (ln, .inl (cI, 12, .inl f2))] : va_W)[k9]? = some q → ¬ nA q.1 := fr_nA
  intro n
  induction n with
  | zero =>
    intro j H locs ls hS hI hl
    have hjk : j = k := by omega
    subst hjk
    have hR := fr_rd hR0 hS hnr
    refine lv_iload hx hb dX3_mixInto_5 (lv_at hl 0 rfl) ?_
    refine lv_aload_n hx hb dX3_mixInto_7 rfl (lv_at hl 3 rfl) ?_
    refine va_get (D := D) (ci := 2) (v := .int (nI j)) (C := RX3) (T := TX3) (N := 3) hx hb hts hinX3 hown hw.1 hR 0 rfl rfl 2 (by decide) (hts (.fieldLink RX3 18 "WheelSwing$Readings" "size" "I") (by decide +kernel)) (fun _ h9 => h9) rfl dX3_mixInto_8 ?_
    refine lv_icmp_ge (tgt := 42) hx hb dX3_mixInto_11 (by decide) (fun c1 => ?_) (fun c1 => ?_)
    · have i2 := Int32.not_lt.mpr c1
      exact kk _ _ ls hS (lv_sub hl [0, 1, 2, 3] rfl)
    · have i3 := Int32.not_le.mp c1
      exact absurd (Int32.le_refl _) c1
  | succ n ih =>
    intro j H locs ls hS hI hl
    have hR := fr_rd hR0 hS hnr
    refine lv_iload hx hb dX3_mixInto_5 (lv_at hl 0 rfl) ?_
    refine lv_aload_n hx hb dX3_mixInto_7 rfl (lv_at hl 3 rfl) ?_
    refine va_get (D := D) (ci := 2) (v := .int (nI k)) (C := RX3) (T := TX3) (N := 3) hx hb hts hinX3 hown hw.1 hR 0 rfl rfl 2 (by decide) (hts (.fieldLink RX3 18 "WheelSwing$Readings" "size" "I") (by decide +kernel)) (fun _ h9 => h9) rfl dX3_mixInto_8 ?_
    refine lv_icmp_ge (tgt := 42) hx hb dX3_mixInto_11 (by decide) (fun c1 => ?_) (fun c1 => ?_)
    · have i2 := Int32.not_lt.mpr c1
      exact absurd ((nI_leI (by omega) (by omega)).mp c1) (by omega)
    · have i3 := Int32.not_le.mp c1
      refine lv_lload_n hx hb dX3_mixInto_14 rfl (lv_at hl 1 rfl) ?_
      refine lv_aload_n hx hb dX3_mixInto_15 rfl (lv_at hl 3 rfl) ?_
      refine va_get (D := D) (ci := 2) (v := .ref ht1) (C := RX3) (T := TX3) (N := 3) hx hb hts hinX3 hown hw.1 hR 0 rfl rfl 0 (by decide) (hts (.fieldLink RX3 11 "WheelSwing$Readings" "heights" "[I") (by decide +kernel)) (fun _ h9 => h9) rfl dX3_mixInto_16 ?_
      refine lv_iload hx hb dX3_mixInto_19 (lv_at hl 0 rfl) ?_
      refine va_iald hx hb hw.1 hR 1 0 rfl rfl (ix_in (show j < k by omega) hk (by omega)) dX3_mixInto_21 ?_
      refine va_calll (va_runSN (As := [.long (mxR f1 f2 h j), .int (f1 (nI j).toNatClampNeg)]) (rest := []) ⟨hx, hb, hml, hown, hts⟩ (mX6_mix l (mxR f1 f2 h j) (f1 (nI j).toNatClampNeg)) (⟨va_cnB 2 hts gX3_mixInto_X6_mix_n22 rfl rfl rfl (hw.2 (.methodLinkNest RX3 22 yX6_mix "WheelSwing") (by decide +kernel)) (hts (.initialized RX6) (by decide +kernel)) (by decide +kernel) ⟨Nat.le_of_ble_eq_true rfl, Nat.le_of_ble_eq_true rfl⟩, hts (.static yX6_mix) (by decide +kernel), trivial⟩) ⟨tB_blind, tB_go⟩ rfl rfl hl.1 rfl (lv_room (Nat.le_of_ble_eq_true rfl)) dX3_mixInto_22 ⟨Nat.le_of_ble_eq_true rfl, Nat.le_of_ble_eq_true rfl⟩) hS (fun q _ h => h.elim) (fun q h => h.elim) (fun r4 u5 t H locs ht hvm hp6 hB hz1 hk1 hS => ?_)
      have hR := fr_rd hR0 hS hnr
      have hp6 : r4 = mx (mxR f1 f2 h j) (f1 (nI j).toNatClampNeg) := hp6
      subst hp6
      refine lv_aload_n hx hb dX3_mixInto_25 rfl (lv_at hl 3 rfl) ?_
      refine va_get (D := D) (ci := 2) (v := .ref ln) (C := RX3) (T := TX3) (N := 3) hx hb hts hinX3 hown hw.1 hR 0 rfl rfl 1 (by decide) (hts (.fieldLink RX3 15 "WheelSwing$Readings" "leans" "[I") (by decide +kernel)) (fun _ h9 => h9) rfl dX3_mixInto_26 ?_
      refine lv_iload hx hb dX3_mixInto_29 (lv_at hl 0 rfl) ?_
      refine va_iald hx hb hw.1 hR 2 0 rfl rfl (ix_in (show j < k by omega) hk (by omega)) dX3_mixInto_31 ?_
      refine va_calll (va_runSN (As := [.long (mx (mxR f1 f2 h j) (f1 (nI j).toNatClampNeg)), .int (f2 (nI j).toNatClampNeg)]) (rest := []) ⟨hx, hb, hml, hown, hts⟩ (mX6_mix l (mx (mxR f1 f2 h j) (f1 (nI j).toNatClampNeg)) (f2 (nI j).toNatClampNeg)) (⟨va_cnB 2 hts gX3_mixInto_X6_mix_n22 rfl rfl rfl (hw.2 (.methodLinkNest RX3 22 yX6_mix "WheelSwing") (by decide +kernel)) (hts (.initialized RX6) (by decide +kernel)) (by decide +kernel) ⟨Nat.le_of_ble_eq_true rfl, Nat.le_of_ble_eq_true rfl⟩, hts (.static yX6_mix) (by decide +kernel), trivial⟩) ⟨tB_blind, tB_go⟩ rfl rfl hl.1 rfl (lv_room (Nat.le_of_ble_eq_true rfl)) dX3_mixInto_32 ⟨Nat.le_of_ble_eq_true rfl, Nat.le_of_ble_eq_true rfl⟩) hS (fun q _ h => h.elim) (fun q h => h.elim) (fun r7 u8 t H locs ht hvm hp9 hB hz1 hk1 hS => ?_)
      have hR := fr_rd hR0 hS hnr
      have hp9 : r7 = mx (mx (mxR f1 f2 h j) (f1 (nI j).toNatClampNeg)) (f2 (nI j).toNatClampNeg) := hp9
      subst hp9
      refine lv_lstore_n (lv' := [(3, .long (mx (mx (mxR f1 f2 h j) (f1 (nI j).toNatClampNeg)) (f2 (nI j).toNatClampNeg))), (5, .int (nI j)), (1, .long h), (0, .ref rd)]) hx hb dX3_mixInto_35 rfl hl (by decide) rfl (fun ls hl => ?_)
      refine lv_iinc (v := (nI j) + 1) (lv' := [(5, .int ((nI j) + 1)), (3, .long (mx (mx (mxR f1 f2 h j) (f1 (nI j).toNatClampNeg)) (f2 (nI j).toNatClampNeg))), (1, .long h), (0, .ref rd)]) hx hb dX3_mixInto_36 hl (k := 1) rfl rfl (by decide) rfl (fun ls hl => ?_)
      refine lv_goto (tgt := 5) hx hb dX3_mixInto_39 (by decide) ?_
      have h9 : lv_has ls 6 [(5, .int (nI (j + 1))), (3, .long (mxR f1 f2 h (j + 1))), (1, .long h), (0, .ref rd)] := by have h8 := (lv_sub hl [0, 1, 2, 3] rfl); rw [nI_1, nI_clamp (by omega)] at h8; rw [mxR_s]; exact h8
      exact ih (j + 1) _ _ ls hS (by omega) h9
set_option maxHeartbeats 4000000 in
set_option maxRecDepth 100000 in
theorem mX3_mixInto (l : Launch) (D : va_G) (cI cH : ClassId) (rd ht1 ln k : Nat) (f1 f2 : Nat → Int32) (h : Int64)  (hk : k ≤ 12) : Met l yX3_mixInto wsX3_mixInto ({ frames := 1, cells := 0, slots := 0, locals := 22 }) (va_Pc [.ref rd, .long h] (kB D cI cH [(rd, .inr (2, [.ref ht1, .ref ln, .int (nI k)])), (ht1, .inl (cI, 12, .inl f1)), (ln, .inl (cI, 12, .inl f2))])) (va_Ql (fun (r : Int64) (u : Unit) => r = mxR f1 f2 h k) (fun _ _ => True) nA) 0 0 nA := by
  refine Met.ofW (cc := cX3_mixInto) (maxL := 6) (ret := (some .long)) (by decide) rfl ?_
  intro p e s m args below meth co s₁ B hml hv
  obtain ⟨rfl, hP0, hw⟩ := hv
  have hx := B.exec
  have hb := B.bytes
  have hr := B.returns
  have hts := atoms_spec (ws := wsX3_mixInto) B.pre
  have hown : s.vm.findClass RX3 = some m.cls := findClass_of_methodNamed B.named
  have hlocks := B.notSynchronized
  have hinX3 : ∀ w ∈ wsX30, w ∈ wsX3_mixInto := by decide +kernel
  have hS : va_S nA s.heap s.heap [] := va_S.rf
  have hR0 : va_P D vwCl [(rd, .inr (2, [.ref ht1, .ref ln, .int (nI k)])), (ht1, .inl (cI, 12, .inl f1)), (ln, .inl (cI, 12, .inl f2))] s.heap := hP0.sub [0, 1, 2] rfl
  have hR := hR0
  have hnr : ∀ (k9 : Nat) (q : Nat × va_E), ([(rd, .inr (2, [.ref ht1, .ref ln, .int (nI k)])), (ht1, .inl (cI, 12, .inl f1)), (ln, .inl (cI, 12, .inl f2))] : va_W)[k9]? = some q → ¬ nA q.1 := fr_nA
  have hl := lv_entry ([.ref rd, .long h]) (n := 6) (Nat.le_of_ble_eq_true rfl)
  rw [lg_entry_eq]
  generalize (lg_sl ([.ref rd, .long h]) ++ List.replicate (6 - (lg_sl ([.ref rd, .long h])).length) Slot.unset).toArray = ls at hl ⊢
  have hl : lv_has ls 6 [(0, .ref rd), (1, .long h)] := hl
  skip
  refine lv_lload_n hx hb dX3_mixInto_0 rfl (lv_at hl 1 rfl) ?_
  refine lv_lstore_n (lv' := [(3, .long h), (0, .ref rd), (1, .long h)]) hx hb dX3_mixInto_1 rfl hl (by decide) rfl (fun ls hl => ?_)
  refine lv_iconst (v := 0) hx hb dX3_mixInto_2 (by decide) ?_
  refine lv_istore (lv' := [(5, .int 0), (3, .long h), (0, .ref rd), (1, .long h)]) hx hb dX3_mixInto_3 hl (by decide) rfl (fun ls hl => ?_)
  have h5 : lv_has ls 6 [(5, .int (nI 0)), (3, .long (mxR f1 f2 h 0)), (1, .long h), (0, .ref rd)] := (lv_sub hl [0, 1, 3, 2] rfl)
  refine lpX3_mix D cI cH hx hb hml hown hts hw hR0 hk (fun H locs ls hS hl => ?_) k 0 _ _ ls hS (by omega) h5
  refine lv_lload_n hx hb dX3_mixInto_42 rfl (lv_at hl 1 rfl) ?_
  exact W.lret (v := mxR f1 f2 h k) hx hb hr (fun t ht hW => ⟨⟨mxR f1 f2 h k, (), rfl, rfl, trivial⟩, hS.F ht⟩) hS.2.2 dX3_mixInto_43
def absI (x : Int32) : Int32 := if 0 ≤ x then x else 0 - x
def nsStep (ft : Nat → Int32) (k : Nat) (gap most set : Int32) (s : Int32 × Int32 × Int32) : Int32 × Int32 × Int32 :=
  if bcF set ≤ most ∧ (absI (gap - sumF ft set k) < s.2.1 ∨ (absI (gap - sumF ft set k) = s.2.1 ∧ bcF set < s.2.2)) then (set, absI (gap - sumF ft set k), bcF set) else s
def nsF (ft : Nat → Int32) (k : Nat) (gap most : Int32) : Nat → Int32 × Int32 × Int32
  | 0 => (0, gap, 0)
  | n + 1 => nsStep ft k gap most (nI (n + 1)) (nsF ft k gap most n)
theorem nsF_t {ft : Nat → Int32} {k : Nat} {gap most : Int32} {n : Nat} (h1 : bcF (nI (n + 1)) ≤ most) (h2 : absI (gap - sumF ft (nI (n + 1)) k) < (nsF ft k gap most n).2.1 ∨ (absI (gap - sumF ft (nI (n + 1)) k) = (nsF ft k gap most n).2.1 ∧ bcF (nI (n + 1)) < (nsF ft k gap most n).2.2)) : nsF ft k gap most (n + 1) = (nI (n + 1), absI (gap - sumF ft (nI (n + 1)) k), bcF (nI (n + 1))) := if_pos ⟨h1, h2⟩
theorem nsF_f {ft : Nat → Int32} {k : Nat} {gap most : Int32} {n : Nat} (h : ¬ (bcF (nI (n + 1)) ≤ most ∧ (absI (gap - sumF ft (nI (n + 1)) k) < (nsF ft k gap most n).2.1 ∨ (absI (gap - sumF ft (nI (n + 1)) k) = (nsF ft k gap most n).2.1 ∧ bcF (nI (n + 1)) < (nsF ft k gap most n).2.2)))) : nsF ft k gap most (n + 1) = nsF ft k gap most n := if_neg h
theorem sh1 : ∀ k, k < 11 → (1 : Int32) <<< (nI k &&& 31) = nI (2 ^ k) := by decide +kernel
theorem p2_10 {k : Nat} (hk : k ≤ 10) : 2 ^ k ≤ 1024 := Nat.pow_le_pow_right (n := 2) (by omega) hk
set_option maxHeartbeats 4000000 in
set_option maxRecDepth 100000 in
theorem lpX4_near {p : Program} {l : Launch} {e : Env} {s : State} {m : MethodId} {args : Array Value} {below : List Frame} {meth : Method} {co : Code} {Q : State → Prop} (D : va_G) (cI cH : ClassId) (hx : p.tables.exec = Jvm.exec) (hb : co.code = cX4_nearestSet) (hml : co.maxLocals = 9) (hown : s.vm.findClass RX4 = some m.cls) (hts : ∀ w ∈ wsX4_nearestSet, w.before args s = true) (hw : wk D cI cH s) {bx th k : Nat} {ft : Nat → Int32} {gap most : Int32} (hR0 : va_P D vwCl [(bx, .inr (3, [.ref th, .int (nI k)])), (th, .inl (cI, 10, .inl ft))] s.heap) (hk : k ≤ 10) (kk : ∀ (H : Heap) (locs : List Loc) (ls : Array Slot), va_S nA s.heap H locs → lv_has ls 9 [(6, .int (nI (2 ^ k))), (5, .int ((nsF ft k gap most (2 ^ k - 1)).2.2)), (4, .int ((nsF ft k gap most (2 ^ k - 1)).2.1)), (3, .int ((nsF ft k gap most (2 ^ k - 1)).1)), (2, .int most), (1, .int gap), (0, .ref bx)] → W p l e ({ frames := 1, cells := 0, slots := 0, locals := 23 } : Room) s m args below meth co H locs 0 0 Q (F0 m 86 ls [])) : ∀ (n j : Nat) (H : Heap) (locs : List Loc) (ls : Array Slot), va_S nA s.heap H locs → j + 1 + n = 2 ^ k → lv_has ls 9 [(6, .int (nI (j + 1))), (5, .int ((nsF ft k gap most j).2.2)), (4, .int ((nsF ft k gap most j).2.1)), (3, .int ((nsF ft k gap most j).1)), (2, .int most), (1, .int gap), (0, .ref bx)] → W p l e ({ frames := 1, cells := 0, slots := 0, locals := 23 } : Room) s m args below meth co H locs 0 0 Q (F0 m 11 ls []) := by
  have hinX4 : ∀ w ∈ wsX40, w ∈ wsX4_nearestSet := by decide +kernel
  have hnr : ∀ (k9 : Nat) (q : Nat × va_E), ([(bx, .inr (3, [.ref th, .int (nI k)])), (th, .inl (cI, 10, .inl ft))] : va_W)[k9]? = some q → ¬ nA q.1 := fr_nA
  intro n
  induction n with
  | zero =>
    intro j H locs ls hS hI hl
    have hp := p2_10 hk
    have hj1 : nI (j + 1) = nI (2 ^ k) := by rw [show j + 1 = 2 ^ k by omega]
    have hj2 : j = 2 ^ k - 1 := by omega
    rw [hj1, hj2] at hl
    have hR := fr_rd hR0 hS hnr
    refine lv_iload hx hb dX4_nearestSet_11 (lv_at hl 0 rfl) ?_
    refine lv_iconst (v := 1) hx hb dX4_nearestSet_13 (by decide) ?_
    refine lv_aload_n hx hb dX4_nearestSet_14 rfl (lv_at hl 6 rfl) ?_
    refine va_get (D := D) (ci := 3) (v := .int (nI k)) (C := RX4) (T := TX4) (N := 2) hx hb hts hinX4 hown hw.1 hR 0 rfl rfl 1 (by decide) (hts (.fieldLink RX4 15 "WheelSwing$ShimBox" "size" "I") (by decide +kernel)) (fun _ h9 => h9) rfl dX4_nearestSet_15 ?_
    refine lv_ishl hx hb dX4_nearestSet_18 ?_
    rw [sh1 k (by omega)]
    refine lv_icmp_ge (tgt := 86) hx hb dX4_nearestSet_19 (by decide) (fun c1 => ?_) (fun c1 => ?_)
    · have i2 := Int32.not_lt.mpr c1
      exact kk _ _ ls hS (lv_sub hl [0, 1, 2, 3, 4, 5, 6] rfl)
    · have i3 := Int32.not_le.mp c1
      exact absurd (Int32.le_refl _) c1
  | succ n ih =>
    intro j H locs ls hS hI hl
    have hp := p2_10 hk
    have hR := fr_rd hR0 hS hnr
    refine lv_iload hx hb dX4_nearestSet_11 (lv_at hl 0 rfl) ?_
    refine lv_iconst (v := 1) hx hb dX4_nearestSet_13 (by decide) ?_
    refine lv_aload_n hx hb dX4_nearestSet_14 rfl (lv_at hl 6 rfl) ?_
    refine va_get (D := D) (ci := 3) (v := .int (nI k)) (C := RX4) (T := TX4) (N := 2) hx hb hts hinX4 hown hw.1 hR 0 rfl rfl 1 (by decide) (hts (.fieldLink RX4 15 "WheelSwing$ShimBox" "size" "I") (by decide +kernel)) (fun _ h9 => h9) rfl dX4_nearestSet_15 ?_
    refine lv_ishl hx hb dX4_nearestSet_18 ?_
    rw [sh1 k (by omega)]
    refine lv_icmp_ge (tgt := 86) hx hb dX4_nearestSet_19 (by decide) (fun c1 => ?_) (fun c1 => ?_)
    · have i2 := Int32.not_lt.mpr c1
      exact absurd ((nI_leI (by omega) (by omega)).mp c1) (by omega)
    · have i3 := Int32.not_le.mp c1
      refine lv_iload hx hb dX4_nearestSet_22 (lv_at hl 0 rfl) ?_
      refine va_calli (va_runS (As := [.int (nI (j + 1))]) (rest := []) ⟨hx, hb, hml, hown, hts⟩ (mJ6_bitCount_0f7a4 l (nI (j + 1))) (va_cwS 1 hts gX4_nearestSet_J6_bitCount_0f7a4 rfl rfl rfl (by decide +kernel) ⟨Nat.le_of_ble_eq_true rfl, Nat.le_of_ble_eq_true rfl⟩) ⟨tB_blind, tB_go⟩ rfl rfl hl.1 rfl (lv_room (Nat.le_of_ble_eq_true rfl)) dX4_nearestSet_24 ⟨Nat.le_of_ble_eq_true rfl, Nat.le_of_ble_eq_true rfl⟩) hS (fun q _ h => h.elim) (fun q h => h.elim) (fun r4 u5 t H locs ht hvm hp6 hB hz1 hk1 hS => ?_)
      have hR := fr_rd hR0 hS hnr
      subst hp6
      refine lv_istore (lv' := [(7, .int (bcF (nI (j + 1)))), (6, .int (nI (j + 1))), (5, .int ((nsF ft k gap most j).2.2)), (4, .int ((nsF ft k gap most j).2.1)), (3, .int ((nsF ft k gap most j).1)), (2, .int most), (1, .int gap), (0, .ref bx)]) hx hb dX4_nearestSet_27 hl (by decide) rfl (fun ls hl => ?_)
      refine lv_iload_n hx hb dX4_nearestSet_29 rfl (lv_at hl 6 rfl) ?_
      refine lv_aload_n hx hb dX4_nearestSet_30 rfl (lv_at hl 7 rfl) ?_
      refine lv_iload hx hb dX4_nearestSet_31 (lv_at hl 1 rfl) ?_
      have hq7 : va_P D vwCl [(bx, .inr (3, [.ref th, .int (nI k)])), (th, .inl (cI, 10, .inl ft))] H := hR.sub [0, 1] rfl
      refine va_calli (va_runV (As := [.int (nI (j + 1))]) (rest := [.int gap]) ⟨hx, hb, hml, hown, hts⟩ (mX4_sumOf l D cI cH bx th k ft (nI (j + 1)) hk) (cwV 1 hts gX4_nearestSet_X4_sumOf rfl rfl rfl (by decide +kernel) ⟨Nat.le_of_ble_eq_true rfl, Nat.le_of_ble_eq_true rfl⟩) ⟨kB_blind, va_recv hw.1 hq7 (ci := 3) (q0 := 0) rfl rfl, kB_go hq7 hw⟩ rfl rfl hl.1 rfl (lv_room (Nat.le_of_ble_eq_true rfl)) dX4_nearestSet_33 ⟨Nat.le_of_ble_eq_true rfl, Nat.le_of_ble_eq_true rfl⟩) hS (fun q _ h => h.elim) (fun q h => h.elim) (fun r8 u9 t H locs ht hvm hp10 hB hz1 hk1 hS => ?_)
      have hR := fr_rd hR0 hS hnr
      subst hp10
      refine lv_isub hx hb dX4_nearestSet_36 ?_
      refine va_mabs hx hb (hml.trans hl.1.symm) hown (hts (.methodLink RX4 28 Lib.Math.abs.name) (by decide +kernel)) (hts (.static Lib.Math.abs.name) (by decide +kernel)) (hts (.initialized "java/lang/Math") (by decide +kernel)) (hts (.code Lib.Math.abs.name Lib.Math.abs.code 1 (some .int)) (by decide +kernel)) (Nat.le_of_ble_eq_true rfl) (Nat.le_of_ble_eq_true rfl) (Nat.le_of_ble_eq_true rfl) (Nat.le_of_ble_eq_true rfl) dX4_nearestSet_37 ?_
      refine lv_topi (fun z9 ez9 => ?_)
      have ez9 : z9 = absI (gap - sumF ft (nI (j + 1)) k) := ez9
      subst ez9
      refine lv_istore (lv' := [(8, .int (absI (gap - sumF ft (nI (j + 1)) k))), (7, .int (bcF (nI (j + 1)))), (6, .int (nI (j + 1))), (5, .int ((nsF ft k gap most j).2.2)), (4, .int ((nsF ft k gap most j).2.1)), (3, .int ((nsF ft k gap most j).1)), (2, .int most), (1, .int gap), (0, .ref bx)]) hx hb dX4_nearestSet_40 hl (by decide) rfl (fun ls hl => ?_)
      refine lv_iload hx hb dX4_nearestSet_42 (lv_at hl 1 rfl) ?_
      refine lv_iload_n hx hb dX4_nearestSet_44 rfl (lv_at hl 6 rfl) ?_
      refine lv_icmp_gt (tgt := 80) hx hb dX4_nearestSet_45 (by decide) (fun c11 => ?_) (fun c11 => ?_)
      · have i12 := Int32.not_le.mpr c11
        refine lv_iinc (v := (nI (j + 1)) + 1) (lv' := [(6, .int ((nI (j + 1)) + 1)), (8, .int (absI (gap - sumF ft (nI (j + 1)) k))), (7, .int (bcF (nI (j + 1)))), (5, .int ((nsF ft k gap most j).2.2)), (4, .int ((nsF ft k gap most j).2.1)), (3, .int ((nsF ft k gap most j).1)), (2, .int most), (1, .int gap), (0, .ref bx)]) hx hb dX4_nearestSet_80 hl (k := 2) rfl rfl (by decide) rfl (fun ls hl => ?_)
        refine lv_goto (tgt := 11) hx hb dX4_nearestSet_83 (by decide) ?_
        have hs9 := (nsF_f (fun hc => absurd hc.1 (Int32.not_le.mpr c11)) : nsF ft k gap most (j + 1) = _)
        have h9 : lv_has ls 9 [(6, .int (nI (j + 1 + 1))), (5, .int ((nsF ft k gap most (j + 1)).2.2)), (4, .int ((nsF ft k gap most (j + 1)).2.1)), (3, .int ((nsF ft k gap most (j + 1)).1)), (2, .int most), (1, .int gap), (0, .ref bx)] := by have h8 := (lv_sub hl [0, 3, 4, 5, 6, 7, 8] rfl); rw [nI_1] at h8; rw [hs9]; exact h8
        exact ih (j + 1) _ _ ls hS (by omega) h9
      · have i13 := Int32.not_lt.mp c11
        refine lv_iload hx hb dX4_nearestSet_48 (lv_at hl 0 rfl) ?_
        refine lv_iload hx hb dX4_nearestSet_50 (lv_at hl 4 rfl) ?_
        refine lv_icmp_lt (tgt := 69) hx hb dX4_nearestSet_52 (by decide) (fun c14 => ?_) (fun c14 => ?_)
        · have i15 := Int32.not_le.mpr c14
          refine lv_iload hx hb dX4_nearestSet_69 (lv_at hl 2 rfl) ?_
          refine lv_istore_n (lv' := [(3, .int (nI (j + 1))), (8, .int (absI (gap - sumF ft (nI (j + 1)) k))), (7, .int (bcF (nI (j + 1)))), (6, .int (nI (j + 1))), (5, .int ((nsF ft k gap most j).2.2)), (4, .int ((nsF ft k gap most j).2.1)), (2, .int most), (1, .int gap), (0, .ref bx)]) hx hb dX4_nearestSet_71 rfl hl (by decide) rfl (fun ls hl => ?_)
          refine lv_iload hx hb dX4_nearestSet_72 (lv_at hl 1 rfl) ?_
          refine lv_istore (lv' := [(4, .int (absI (gap - sumF ft (nI (j + 1)) k))), (3, .int (nI (j + 1))), (8, .int (absI (gap - sumF ft (nI (j + 1)) k))), (7, .int (bcF (nI (j + 1)))), (6, .int (nI (j + 1))), (5, .int ((nsF ft k gap most j).2.2)), (2, .int most), (1, .int gap), (0, .ref bx)]) hx hb dX4_nearestSet_74 hl (by decide) rfl (fun ls hl => ?_)
          refine lv_iload hx hb dX4_nearestSet_76 (lv_at hl 3 rfl) ?_
          refine lv_istore (lv' := [(5, .int (bcF (nI (j + 1)))), (4, .int (absI (gap - sumF ft (nI (j + 1)) k))), (3, .int (nI (j + 1))), (8, .int (absI (gap - sumF ft (nI (j + 1)) k))), (7, .int (bcF (nI (j + 1)))), (6, .int (nI (j + 1))), (2, .int most), (1, .int gap), (0, .ref bx)]) hx hb dX4_nearestSet_78 hl (by decide) rfl (fun ls hl => ?_)
          refine lv_iinc (v := (nI (j + 1)) + 1) (lv' := [(6, .int ((nI (j + 1)) + 1)), (5, .int (bcF (nI (j + 1)))), (4, .int (absI (gap - sumF ft (nI (j + 1)) k))), (3, .int (nI (j + 1))), (8, .int (absI (gap - sumF ft (nI (j + 1)) k))), (7, .int (bcF (nI (j + 1)))), (2, .int most), (1, .int gap), (0, .ref bx)]) hx hb dX4_nearestSet_80 hl (k := 5) rfl rfl (by decide) rfl (fun ls hl => ?_)
          refine lv_goto (tgt := 11) hx hb dX4_nearestSet_83 (by decide) ?_
          have hs9 := (nsF_t i13 (Or.inl c14) : nsF ft k gap most (j + 1) = _)
          have h9 : lv_has ls 9 [(6, .int (nI (j + 1 + 1))), (5, .int ((nsF ft k gap most (j + 1)).2.2)), (4, .int ((nsF ft k gap most (j + 1)).2.1)), (3, .int ((nsF ft k gap most (j + 1)).1)), (2, .int most), (1, .int gap), (0, .ref bx)] := by have h8 := (lv_sub hl [0, 1, 2, 3, 6, 7, 8] rfl); rw [nI_1] at h8; rw [hs9]; exact h8
          exact ih (j + 1) _ _ ls hS (by omega) h9
        · have i16 := Int32.not_lt.mp c14
          refine lv_iload hx hb dX4_nearestSet_55 (lv_at hl 0 rfl) ?_
          refine lv_iload hx hb dX4_nearestSet_57 (lv_at hl 4 rfl) ?_
          refine lv_icmp_ne (tgt := 80) hx hb dX4_nearestSet_59 (by decide) (fun c17 => ?_) (fun c17 => ?_)
          · refine lv_iinc (v := (nI (j + 1)) + 1) (lv' := [(6, .int ((nI (j + 1)) + 1)), (8, .int (absI (gap - sumF ft (nI (j + 1)) k))), (7, .int (bcF (nI (j + 1)))), (5, .int ((nsF ft k gap most j).2.2)), (4, .int ((nsF ft k gap most j).2.1)), (3, .int ((nsF ft k gap most j).1)), (2, .int most), (1, .int gap), (0, .ref bx)]) hx hb dX4_nearestSet_80 hl (k := 2) rfl rfl (by decide) rfl (fun ls hl => ?_)
            refine lv_goto (tgt := 11) hx hb dX4_nearestSet_83 (by decide) ?_
            have hs9 := (nsF_f (fun hc => hc.2.elim (fun h => c14 h) (fun h => c17 h.1)) : nsF ft k gap most (j + 1) = _)
            have h9 : lv_has ls 9 [(6, .int (nI (j + 1 + 1))), (5, .int ((nsF ft k gap most (j + 1)).2.2)), (4, .int ((nsF ft k gap most (j + 1)).2.1)), (3, .int ((nsF ft k gap most (j + 1)).1)), (2, .int most), (1, .int gap), (0, .ref bx)] := by have h8 := (lv_sub hl [0, 3, 4, 5, 6, 7, 8] rfl); rw [nI_1] at h8; rw [hs9]; exact h8
            exact ih (j + 1) _ _ ls hS (by omega) h9
          · refine lv_iload hx hb dX4_nearestSet_62 (lv_at hl 1 rfl) ?_
            refine lv_iload hx hb dX4_nearestSet_64 (lv_at hl 3 rfl) ?_
            refine lv_icmp_ge (tgt := 80) hx hb dX4_nearestSet_66 (by decide) (fun c18 => ?_) (fun c18 => ?_)
            · have i19 := Int32.not_lt.mpr c18
              refine lv_iinc (v := (nI (j + 1)) + 1) (lv' := [(6, .int ((nI (j + 1)) + 1)), (8, .int (absI (gap - sumF ft (nI (j + 1)) k))), (7, .int (bcF (nI (j + 1)))), (5, .int ((nsF ft k gap most j).2.2)), (4, .int ((nsF ft k gap most j).2.1)), (3, .int ((nsF ft k gap most j).1)), (2, .int most), (1, .int gap), (0, .ref bx)]) hx hb dX4_nearestSet_80 hl (k := 2) rfl rfl (by decide) rfl (fun ls hl => ?_)
              refine lv_goto (tgt := 11) hx hb dX4_nearestSet_83 (by decide) ?_
              have hs9 := (nsF_f (fun hc => hc.2.elim (fun h => c14 h) (fun h => absurd h.2 (Int32.not_lt.mpr c18))) : nsF ft k gap most (j + 1) = _)
              have h9 : lv_has ls 9 [(6, .int (nI (j + 1 + 1))), (5, .int ((nsF ft k gap most (j + 1)).2.2)), (4, .int ((nsF ft k gap most (j + 1)).2.1)), (3, .int ((nsF ft k gap most (j + 1)).1)), (2, .int most), (1, .int gap), (0, .ref bx)] := by have h8 := (lv_sub hl [0, 3, 4, 5, 6, 7, 8] rfl); rw [nI_1] at h8; rw [hs9]; exact h8
              exact ih (j + 1) _ _ ls hS (by omega) h9
            · have i20 := Int32.not_le.mp c18
              refine lv_iload hx hb dX4_nearestSet_69 (lv_at hl 2 rfl) ?_
              refine lv_istore_n (lv' := [(3, .int (nI (j + 1))), (8, .int (absI (gap - sumF ft (nI (j + 1)) k))), (7, .int (bcF (nI (j + 1)))), (6, .int (nI (j + 1))), (5, .int ((nsF ft k gap most j).2.2)), (4, .int ((nsF ft k gap most j).2.1)), (2, .int most), (1, .int gap), (0, .ref bx)]) hx hb dX4_nearestSet_71 rfl hl (by decide) rfl (fun ls hl => ?_)
              refine lv_iload hx hb dX4_nearestSet_72 (lv_at hl 1 rfl) ?_
              refine lv_istore (lv' := [(4, .int (absI (gap - sumF ft (nI (j + 1)) k))), (3, .int (nI (j + 1))), (8, .int (absI (gap - sumF ft (nI (j + 1)) k))), (7, .int (bcF (nI (j + 1)))), (6, .int (nI (j + 1))), (5, .int ((nsF ft k gap most j).2.2)), (2, .int most), (1, .int gap), (0, .ref bx)]) hx hb dX4_nearestSet_74 hl (by decide) rfl (fun ls hl => ?_)
              refine lv_iload hx hb dX4_nearestSet_76 (lv_at hl 3 rfl) ?_
              refine lv_istore (lv' := [(5, .int (bcF (nI (j + 1)))), (4, .int (absI (gap - sumF ft (nI (j + 1)) k))), (3, .int (nI (j + 1))), (8, .int (absI (gap - sumF ft (nI (j + 1)) k))), (7, .int (bcF (nI (j + 1)))), (6, .int (nI (j + 1))), (2, .int most), (1, .int gap), (0, .ref bx)]) hx hb dX4_nearestSet_78 hl (by decide) rfl (fun ls hl => ?_)
              refine lv_iinc (v := (nI (j + 1)) + 1) (lv' := [(6, .int ((nI (j + 1)) + 1)), (5, .int (bcF (nI (j + 1)))), (4, .int (absI (gap - sumF ft (nI (j + 1)) k))), (3, .int (nI (j + 1))), (8, .int (absI (gap - sumF ft (nI (j + 1)) k))), (7, .int (bcF (nI (j + 1)))), (2, .int most), (1, .int gap), (0, .ref bx)]) hx hb dX4_nearestSet_80 hl (k := 5) rfl rfl (by decide) rfl (fun ls hl => ?_)
              refine lv_goto (tgt := 11) hx hb dX4_nearestSet_83 (by decide) ?_
              have hs9 := (nsF_t i13 (Or.inr ⟨c17, Int32.not_le.mp c18⟩) : nsF ft k gap most (j + 1) = _)
              have h9 : lv_has ls 9 [(6, .int (nI (j + 1 + 1))), (5, .int ((nsF ft k gap most (j + 1)).2.2)), (4, .int ((nsF ft k gap most (j + 1)).2.1)), (3, .int ((nsF ft k gap most (j + 1)).1)), (2, .int most), (1, .int gap), (0, .ref bx)] := by have h8 := (lv_sub hl [0, 1, 2, 3, 6, 7, 8] rfl); rw [nI_1] at h8; rw [hs9]; exact h8
              exact ih (j + 1) _ _ ls hS (by omega) h9
set_option maxHeartbeats 4000000 in
set_option maxRecDepth 100000 in
theorem mX4_nearestSet (l : Launch) (D : va_G) (cI cH : ClassId) (bx th k : Nat) (ft : Nat → Int32) (gap most : Int32)  (hk : k ≤ 10) : Met l yX4_nearestSet wsX4_nearestSet ({ frames := 1, cells := 0, slots := 0, locals := 23 }) (va_Pc [.ref bx, .int gap, .int most] (kB D cI cH [(bx, .inr (3, [.ref th, .int (nI k)])), (th, .inl (cI, 10, .inl ft))])) (va_Qi (fun (r : Int32) (u : Unit) => r = (nsF ft k gap most (2 ^ k - 1)).1) (fun _ _ => True) nA) 0 0 nA := by
  refine Met.ofW (cc := cX4_nearestSet) (maxL := 9) (ret := (some .int)) (by decide) rfl ?_
  intro p e s m args below meth co s₁ B hml hv
  obtain ⟨rfl, hP0, hw⟩ := hv
  have hx := B.exec
  have hb := B.bytes
  have hr := B.returns
  have hts := atoms_spec (ws := wsX4_nearestSet) B.pre
  have hown : s.vm.findClass RX4 = some m.cls := findClass_of_methodNamed B.named
  have hlocks := B.notSynchronized
  have hinX4 : ∀ w ∈ wsX40, w ∈ wsX4_nearestSet := by decide +kernel
  have hS : va_S nA s.heap s.heap [] := va_S.rf
  have hR0 : va_P D vwCl [(bx, .inr (3, [.ref th, .int (nI k)])), (th, .inl (cI, 10, .inl ft))] s.heap := hP0.sub [0, 1] rfl
  have hR := hR0
  have hnr : ∀ (k9 : Nat) (q : Nat × va_E), ([(bx, .inr (3, [.ref th, .int (nI k)])), (th, .inl (cI, 10, .inl ft))] : va_W)[k9]? = some q → ¬ nA q.1 := fr_nA
  have hl := lv_entry ([.ref bx, .int gap, .int most]) (n := 9) (Nat.le_of_ble_eq_true rfl)
  rw [lg_entry_eq]
  generalize (lg_sl ([.ref bx, .int gap, .int most]) ++ List.replicate (9 - (lg_sl ([.ref bx, .int gap, .int most])).length) Slot.unset).toArray = ls at hl ⊢
  have hl : lv_has ls 9 [(0, .ref bx), (1, .int gap), (2, .int most)] := hl
  skip
  refine lv_iconst (v := 0) hx hb dX4_nearestSet_0 (by decide) ?_
  refine lv_istore_n (lv' := [(3, .int 0), (0, .ref bx), (1, .int gap), (2, .int most)]) hx hb dX4_nearestSet_1 rfl hl (by decide) rfl (fun ls hl => ?_)
  refine lv_iload_n hx hb dX4_nearestSet_2 rfl (lv_at hl 2 rfl) ?_
  refine lv_istore (lv' := [(4, .int gap), (3, .int 0), (0, .ref bx), (1, .int gap), (2, .int most)]) hx hb dX4_nearestSet_3 hl (by decide) rfl (fun ls hl => ?_)
  refine lv_iconst (v := 0) hx hb dX4_nearestSet_5 (by decide) ?_
  refine lv_istore (lv' := [(5, .int 0), (4, .int gap), (3, .int 0), (0, .ref bx), (1, .int gap), (2, .int most)]) hx hb dX4_nearestSet_6 hl (by decide) rfl (fun ls hl => ?_)
  refine lv_iconst (v := 1) hx hb dX4_nearestSet_8 (by decide) ?_
  refine lv_istore (lv' := [(6, .int 1), (5, .int 0), (4, .int gap), (3, .int 0), (0, .ref bx), (1, .int gap), (2, .int most)]) hx hb dX4_nearestSet_9 hl (by decide) rfl (fun ls hl => ?_)
  have h5 : lv_has ls 9 [(6, .int (nI (0 + 1))), (5, .int ((nsF ft k gap most 0).2.2)), (4, .int ((nsF ft k gap most 0).2.1)), (3, .int ((nsF ft k gap most 0).1)), (2, .int most), (1, .int gap), (0, .ref bx)] := (lv_sub hl [0, 1, 2, 3, 6, 5, 4] rfl)
  have hp1 := Nat.two_pow_pos k
  refine lpX4_near D cI cH hx hb hml hown hts hw hR0 hk (fun H locs ls hS hl => ?_) (2 ^ k - 1) 0 _ _ ls hS (by omega) h5
  refine lv_iload_n hx hb dX4_nearestSet_86 rfl (lv_at hl 3 rfl) ?_
  exact W.iret (v := (nsF ft k gap most (2 ^ k - 1)).1) hx hb hr (fun t ht hW => ⟨⟨(nsF ft k gap most (2 ^ k - 1)).1, (), rfl, rfl, trivial⟩, hS.F ht⟩) hS.2.2 dX4_nearestSet_87
