/-! ROWS OF SHIMS AND READINGS: what is added, summed, mixed; the nearest set -/
abbrev aE2 (a b : Nat) : Nat → Prop := fun q => q = a ∨ q = b
abbrev aE3 (a b c : Nat) : Nat → Prop := fun q => q = a ∨ q = b ∨ q = c
theorem nI_ltc {k n : Nat} {v : Int32} (h : nI k < v) (hv : v = nI n) (hk : k < 2 ^ 31) (hn : n < 2 ^ 31) : k < n := by rw [hv] at h; exact (nI_ltI hk hn).mp h
theorem nI_gec {k n : Nat} {v : Int32} (h : ¬ nI k < v) (hv : v = nI n) (hk : k < 2 ^ 31) (hn : n < 2 ^ 31) : n ≤ k := by rw [hv] at h; exact Nat.le_of_not_lt (fun hc => h ((nI_ltI hk hn).mpr hc))
set_option maxHeartbeats 4000000 in
set_option maxRecDepth 100000 in
theorem mX4_add (l : Launch) (D : va_G) (cI cH : ClassId) (bx th k : Nat) (ft : Nat → Int32) (v : Int32)  (hk : k ≤ 10) (hne : th ≠ bx) : Met l yX4_add wsX4_add ({ frames := 0, cells := 0, slots := 0, locals := 0 }) (va_Pc [.ref bx, .int v] (kB D cI cH [(bx, .inr (3, [.ref th, .int (nI k)])), (th, .inl (cI, 10, .inl ft))])) (va_Qi (fun (r : Int32) (u : Int32 × (Nat → Int32)) => if k < 10 then r = nI k ∧ u = (nI (k + 1), upd ft k v) else r = -4 ∧ u = (nI k, ft)) (fun u t => va_at D vwCl (bx, .inr (3, [.ref th, .int u.1])) t.heap ∧ va_at D vwCl (th, .inl (cI, 10, .inl u.2)) t.heap) (aE2 bx th)) 0 0 (aE2 bx th) := by
  refine Met.ofW (cc := cX4_add) (maxL := 2) (ret := (some .int)) (by decide) rfl ?_
  intro p e s m args below meth co s₁ B hml hv
  obtain ⟨rfl, hP0, hw⟩ := hv
  have hx := B.exec
  have hb := B.bytes
  have hr := B.returns
  have hts := atoms_spec (ws := wsX4_add) B.pre
  have hown : s.vm.findClass RX4 = some m.cls := findClass_of_methodNamed B.named
  have hlocks := B.notSynchronized
  have hinX4 : ∀ w ∈ wsX40, w ∈ wsX4_add := by decide +kernel
  have hS : va_S (aE2 bx th) s.heap s.heap [] := va_S.rf
  have hP : va_P D vwCl [(bx, .inr (3, [.ref th, .int (nI k)])), (th, .inl (cI, 10, .inl ft))] s.heap := hP0.sub [0, 1] rfl
  have hD : va_D (aE2 bx th) [(bx, .inr (3, [.ref th, .int (nI k)])), (th, .inl (cI, 10, .inl ft))] := D_cons (Or.inl rfl) (D_1 (Or.inr rfl)) (nn_1 hne nn_0)
  have hl := lv_entry ([.ref bx, .int v]) (n := 2) (Nat.le_of_ble_eq_true rfl)
  rw [lg_entry_eq]
  generalize (lg_sl ([.ref bx, .int v]) ++ List.replicate (2 - (lg_sl ([.ref bx, .int v])).length) Slot.unset).toArray = ls at hl ⊢
  have hl : lv_has ls 2 [(0, .ref bx), (1, .int v)] := hl
  skip
  refine lv_aload_n hx hb dX4_add_0 rfl (lv_at hl 0 rfl) ?_
  refine va_get (D := D) (ci := 3) (v := .int (nI k)) (C := RX4) (T := TX4) (N := 2) hx hb hts hinX4 hown hw.1 hP 0 rfl rfl 1 (by decide) (hts (.fieldLink RX4 15 "WheelSwing$ShimBox" "size" "I") (by decide +kernel)) (fun _ h9 => h9) rfl dX4_add_1 ?_
  refine lv_bipush (v := 10) hx hb dX4_add_4 (by decide) ?_
  refine lv_icmp_lt (tgt := 12) hx hb dX4_add_6 (by decide) (fun c1 => ?_) (fun c1 => ?_)
  · have i2 := Int32.not_le.mpr c1
    refine lv_aload_n hx hb dX4_add_12 rfl (lv_at hl 0 rfl) ?_
    refine va_get (D := D) (ci := 3) (v := .ref th) (C := RX4) (T := TX4) (N := 2) hx hb hts hinX4 hown hw.1 hP 0 rfl rfl 0 (by decide) (hts (.fieldLink RX4 11 "WheelSwing$ShimBox" "thick" "[I") (by decide +kernel)) (fun _ h9 => h9) rfl dX4_add_13 ?_
    refine lv_aload_n hx hb dX4_add_16 rfl (lv_at hl 0 rfl) ?_
    refine va_get (D := D) (ci := 3) (v := .int (nI k)) (C := RX4) (T := TX4) (N := 2) hx hb hts hinX4 hown hw.1 hP 0 rfl rfl 1 (by decide) (hts (.fieldLink RX4 15 "WheelSwing$ShimBox" "size" "I") (by decide +kernel)) (fun _ h9 => h9) rfl dX4_add_17 ?_
    refine lv_iload_n hx hb dX4_add_20 rfl (lv_at hl 1 rfl) ?_
    refine va_iast hx hb hw.1 hP hD hS 1 0 rfl rfl (vp_in_nI (nI_ltc c1 (n := 10) rfl (by omega) (by omega)) (by omega)) dX4_add_21 (fun H locs hP hD hS => ?_)
    have hP : va_P D vwCl [(bx, .inr (3, [.ref th, .int (nI k)])), (th, .inl (cI, 10, .inl (upd ft (nI k).toNatClampNeg v)))] H := hP
    have hD : va_D (aE2 bx th) [(bx, .inr (3, [.ref th, .int (nI k)])), (th, .inl (cI, 10, .inl (upd ft (nI k).toNatClampNeg v)))] := hD
    refine lv_aload_n hx hb dX4_add_22 rfl (lv_at hl 0 rfl) ?_
    refine lv_dup hx hb dX4_add_23 rfl ?_
    refine va_get (D := D) (ci := 3) (v := .int (nI k)) (C := RX4) (T := TX4) (N := 2) hx hb hts hinX4 hown hw.1 hP 0 rfl rfl 1 (by decide) (hts (.fieldLink RX4 15 "WheelSwing$ShimBox" "size" "I") (by decide +kernel)) (fun _ h9 => h9) rfl dX4_add_24 ?_
    refine lv_iconst (v := 1) hx hb dX4_add_27 (by decide) ?_
    refine lv_iadd hx hb dX4_add_28 ?_
    refine va_put (D := D) (ci := 3) (v := .int ((nI k) + 1)) (ty := .int) (C := RX4) (T := TX4) (N := 2) hx hb hts hinX4 tyX4 tyX4_ok nmX4 hown hw.1 hP hD hS 0 rfl rfl 1 (by decide) (hts (.fieldLink RX4 15 "WheelSwing$ShimBox" "size" "I") (by decide +kernel)) (fun _ h9 => h9) rfl (by decide +kernel) rfl rfl (Nat.le_of_ble_eq_true rfl) dX4_add_29 (fun H locs hP hD hS => ?_)
    have hP : va_P D vwCl [(bx, .inr (3, [.ref th, .int ((nI k) + 1)])), (th, .inl (cI, 10, .inl (upd ft (nI k).toNatClampNeg v)))] H := hP
    have hD : va_D (aE2 bx th) [(bx, .inr (3, [.ref th, .int ((nI k) + 1)])), (th, .inl (cI, 10, .inl (upd ft (nI k).toNatClampNeg v)))] := hD
    refine lv_aload_n hx hb dX4_add_32 rfl (lv_at hl 0 rfl) ?_
    refine va_get (D := D) (ci := 3) (v := .int ((nI k) + 1)) (C := RX4) (T := TX4) (N := 2) hx hb hts hinX4 hown hw.1 hP 0 rfl rfl 1 (by decide) (hts (.fieldLink RX4 15 "WheelSwing$ShimBox" "size" "I") (by decide +kernel)) (fun _ h9 => h9) rfl dX4_add_33 ?_
    refine lv_iconst (v := 1) hx hb dX4_add_36 (by decide) ?_
    refine lv_isub hx hb dX4_add_37 ?_
    exact W.iret (v := ((nI k) + 1) - 1) hx hb hr (fun t ht hW => ⟨⟨((nI k) + 1) - 1, ((nI k) + 1, (upd ft (nI k).toNatClampNeg v)), rfl, by dsimp only; rw [if_pos (nI_ltc c1 (n := 10) rfl (by omega) (by omega)), nI_clamp (by omega), nI_1]; exact ⟨nI_pred k, rfl⟩, at_heap ht (hP 0 _ rfl), at_heap ht (hP 1 _ rfl)⟩, hS.F ht⟩) hS.2.2 dX4_add_38
  · have i3 := Int32.not_lt.mp c1
    refine lv_bipush (v := (-4)) hx hb dX4_add_9 (by decide) ?_
    exact W.iret (v := (-4)) hx hb hr (fun t ht hW => ⟨⟨(-4), (nI k, ft), rfl, by dsimp only; rw [if_neg (Nat.not_lt.mpr (nI_gec c1 (n := 10) rfl (by omega) (by omega)))]; exact ⟨rfl, rfl⟩, at_heap ht (hP 0 _ rfl), at_heap ht (hP 1 _ rfl)⟩, hS.F ht⟩) hS.2.2 dX4_add_11
set_option maxHeartbeats 4000000 in
set_option maxRecDepth 100000 in
theorem mX3_add (l : Launch) (D : va_G) (cI cH : ClassId) (rd ht1 ln k : Nat) (f1 f2 : Nat → Int32) (y v : Int32)  (hk : k ≤ 12) (hne1 : ht1 ≠ rd) (hne2 : ln ≠ rd) (hne3 : ln ≠ ht1) : Met l yX3_add wsX3_add ({ frames := 0, cells := 0, slots := 0, locals := 0 }) (va_Pc [.ref rd, .int y, .int v] (kB D cI cH [(rd, .inr (2, [.ref ht1, .ref ln, .int (nI k)])), (ht1, .inl (cI, 12, .inl f1)), (ln, .inl (cI, 12, .inl f2))])) (va_Qi (fun (r : Int32) (u : Int32 × (Nat → Int32) × (Nat → Int32)) => if k < 12 then r = nI k ∧ u = (nI (k + 1), upd f1 k y, upd f2 k v) else r = -4 ∧ u = (nI k, f1, f2)) (fun u t => va_at D vwCl (rd, .inr (2, [.ref ht1, .ref ln, .int u.1])) t.heap ∧ va_at D vwCl (ht1, .inl (cI, 12, .inl u.2.1)) t.heap ∧ va_at D vwCl (ln, .inl (cI, 12, .inl u.2.2)) t.heap) (aE3 rd ht1 ln)) 0 0 (aE3 rd ht1 ln) := by
  refine Met.ofW (cc := cX3_add) (maxL := 3) (ret := (some .int)) (by decide) rfl ?_
  intro p e s m args below meth co s₁ B hml hv
  obtain ⟨rfl, hP0, hw⟩ := hv
  have hx := B.exec
  have hb := B.bytes
  have hr := B.returns
  have hts := atoms_spec (ws := wsX3_add) B.pre
  have hown : s.vm.findClass RX3 = some m.cls := findClass_of_methodNamed B.named
  have hlocks := B.notSynchronized
  have hinX3 : ∀ w ∈ wsX30, w ∈ wsX3_add := by decide +kernel
  have hS : va_S (aE3 rd ht1 ln) s.heap s.heap [] := va_S.rf
  have hP : va_P D vwCl [(rd, .inr (2, [.ref ht1, .ref ln, .int (nI k)])), (ht1, .inl (cI, 12, .inl f1)), (ln, .inl (cI, 12, .inl f2))] s.heap := hP0.sub [0, 1, 2] rfl
  have hD : va_D (aE3 rd ht1 ln) [(rd, .inr (2, [.ref ht1, .ref ln, .int (nI k)])), (ht1, .inl (cI, 12, .inl f1)), (ln, .inl (cI, 12, .inl f2))] := D_cons (Or.inl rfl) (D_cons (Or.inr (Or.inl rfl)) (D_1 (Or.inr (Or.inr rfl))) (nn_1 hne3 nn_0)) (nn_1 hne1 (nn_1 hne2 nn_0))
  have hl := lv_entry ([.ref rd, .int y, .int v]) (n := 3) (Nat.le_of_ble_eq_true rfl)
  rw [lg_entry_eq]
  generalize (lg_sl ([.ref rd, .int y, .int v]) ++ List.replicate (3 - (lg_sl ([.ref rd, .int y, .int v])).length) Slot.unset).toArray = ls at hl ⊢
  have hl : lv_has ls 3 [(0, .ref rd), (1, .int y), (2, .int v)] := hl
  skip
  refine lv_aload_n hx hb dX3_add_0 rfl (lv_at hl 0 rfl) ?_
  refine va_get (D := D) (ci := 2) (v := .int (nI k)) (C := RX3) (T := TX3) (N := 3) hx hb hts hinX3 hown hw.1 hP 0 rfl rfl 2 (by decide) (hts (.fieldLink RX3 18 "WheelSwing$Readings" "size" "I") (by decide +kernel)) (fun _ h9 => h9) rfl dX3_add_1 ?_
  refine lv_bipush (v := 12) hx hb dX3_add_4 (by decide) ?_
  refine lv_icmp_lt (tgt := 12) hx hb dX3_add_6 (by decide) (fun c1 => ?_) (fun c1 => ?_)
  · have i2 := Int32.not_le.mpr c1
    refine lv_aload_n hx hb dX3_add_12 rfl (lv_at hl 0 rfl) ?_
    refine va_get (D := D) (ci := 2) (v := .ref ht1) (C := RX3) (T := TX3) (N := 3) hx hb hts hinX3 hown hw.1 hP 0 rfl rfl 0 (by decide) (hts (.fieldLink RX3 11 "WheelSwing$Readings" "heights" "[I") (by decide +kernel)) (fun _ h9 => h9) rfl dX3_add_13 ?_
    refine lv_aload_n hx hb dX3_add_16 rfl (lv_at hl 0 rfl) ?_
    refine va_get (D := D) (ci := 2) (v := .int (nI k)) (C := RX3) (T := TX3) (N := 3) hx hb hts hinX3 hown hw.1 hP 0 rfl rfl 2 (by decide) (hts (.fieldLink RX3 18 "WheelSwing$Readings" "size" "I") (by decide +kernel)) (fun _ h9 => h9) rfl dX3_add_17 ?_
    refine lv_iload_n hx hb dX3_add_20 rfl (lv_at hl 1 rfl) ?_
    refine va_iast hx hb hw.1 hP hD hS 1 0 rfl rfl (vp_in_nI (nI_ltc c1 (n := 12) rfl (by omega) (by omega)) (by omega)) dX3_add_21 (fun H locs hP hD hS => ?_)
    have hP : va_P D vwCl [(rd, .inr (2, [.ref ht1, .ref ln, .int (nI k)])), (ht1, .inl (cI, 12, .inl (upd f1 (nI k).toNatClampNeg y))), (ln, .inl (cI, 12, .inl f2))] H := hP
    have hD : va_D (aE3 rd ht1 ln) [(rd, .inr (2, [.ref ht1, .ref ln, .int (nI k)])), (ht1, .inl (cI, 12, .inl (upd f1 (nI k).toNatClampNeg y))), (ln, .inl (cI, 12, .inl f2))] := hD
    refine lv_aload_n hx hb dX3_add_22 rfl (lv_at hl 0 rfl) ?_
    refine va_get (D := D) (ci := 2) (v := .ref ln) (C := RX3) (T := TX3) (N := 3) hx hb hts hinX3 hown hw.1 hP 0 rfl rfl 1 (by decide) (hts (.fieldLink RX3 15 "WheelSwing$Readings" "leans" "[I") (by decide +kernel)) (fun _ h9 => h9) rfl dX3_add_23 ?_
    refine lv_aload_n hx hb dX3_add_26 rfl (lv_at hl 0 rfl) ?_
    refine va_get (D := D) (ci := 2) (v := .int (nI k)) (C := RX3) (T := TX3) (N := 3) hx hb hts hinX3 hown hw.1 hP 0 rfl rfl 2 (by decide) (hts (.fieldLink RX3 18 "WheelSwing$Readings" "size" "I") (by decide +kernel)) (fun _ h9 => h9) rfl dX3_add_27 ?_
    refine lv_iload_n hx hb dX3_add_30 rfl (lv_at hl 2 rfl) ?_
    refine va_iast hx hb hw.1 hP hD hS 2 0 rfl rfl (vp_in_nI (nI_ltc c1 (n := 12) rfl (by omega) (by omega)) (by omega)) dX3_add_31 (fun H locs hP hD hS => ?_)
    have hP : va_P D vwCl [(rd, .inr (2, [.ref ht1, .ref ln, .int (nI k)])), (ht1, .inl (cI, 12, .inl (upd f1 (nI k).toNatClampNeg y))), (ln, .inl (cI, 12, .inl (upd f2 (nI k).toNatClampNeg v)))] H := hP
    have hD : va_D (aE3 rd ht1 ln) [(rd, .inr (2, [.ref ht1, .ref ln, .int (nI k)])), (ht1, .inl (cI, 12, .inl (upd f1 (nI k).toNatClampNeg y))), (ln, .inl (cI, 12, .inl (upd f2 (nI k).toNatClampNeg v)))] := hD
    refine lv_aload_n hx hb dX3_add_32 rfl (lv_at hl 0 rfl) ?_
    refine lv_dup hx hb dX3_add_33 rfl ?_
    refine va_get (D := D) (ci := 2) (v := .int (nI k)) (C := RX3) (T := TX3) (N := 3) hx hb hts hinX3 hown hw.1 hP 0 rfl rfl 2 (by decide) (hts (.fieldLink RX3 18 "WheelSwing$Readings" "size" "I") (by decide +kernel)) (fun _ h9 => h9) rfl dX3_add_34 ?_
    refine lv_iconst (v := 1) hx hb dX3_add_37 (by decide) ?_
    refine lv_iadd hx hb dX3_add_38 ?_
    refine va_put (D := D) (ci := 2) (v := .int ((nI k) + 1)) (ty := .int) (C := RX3) (T := TX3) (N := 3) hx hb hts hinX3 tyX3 tyX3_ok nmX3 hown hw.1 hP hD hS 0 rfl rfl 2 (by decide) (hts (.fieldLink RX3 18 "WheelSwing$Readings" "size" "I") (by decide +kernel)) (fun _ h9 => h9) rfl (by decide +kernel) rfl rfl (Nat.le_of_ble_eq_true rfl) dX3_add_39 (fun H locs hP hD hS => ?_)
    have hP : va_P D vwCl [(rd, .inr (2, [.ref ht1, .ref ln, .int ((nI k) + 1)])), (ht1, .inl (cI, 12, .inl (upd f1 (nI k).toNatClampNeg y))), (ln, .inl (cI, 12, .inl (upd f2 (nI k).toNatClampNeg v)))] H := hP
    have hD : va_D (aE3 rd ht1 ln) [(rd, .inr (2, [.ref ht1, .ref ln, .int ((nI k) + 1)])), (ht1, .inl (cI, 12, .inl (upd f1 (nI k).toNatClampNeg y))), (ln, .inl (cI, 12, .inl (upd f2 (nI k).toNatClampNeg v)))] := hD
    refine lv_aload_n hx hb dX3_add_42 rfl (lv_at hl 0 rfl) ?_
    refine va_get (D := D) (ci := 2) (v := .int ((nI k) + 1)) (C := RX3) (T := TX3) (N := 3) hx hb hts hinX3 hown hw.1 hP 0 rfl rfl 2 (by decide) (hts (.fieldLink RX3 18 "WheelSwing$Readings" "size" "I") (by decide +kernel)) (fun _ h9 => h9) rfl dX3_add_43 ?_
    refine lv_iconst (v := 1) hx hb dX3_add_46 (by decide) ?_
    refine lv_isub hx hb dX3_add_47 ?_
    exact W.iret (v := ((nI k) + 1) - 1) hx hb hr (fun t ht hW => ⟨⟨((nI k) + 1) - 1, ((nI k) + 1, (upd f1 (nI k).toNatClampNeg y), (upd f2 (nI k).toNatClampNeg v)), rfl, by dsimp only; rw [if_pos (nI_ltc c1 (n := 12) rfl (by omega) (by omega)), nI_clamp (by omega), nI_1]; exact ⟨nI_pred k, rfl⟩, at_heap ht (hP 0 _ rfl), at_heap ht (hP 1 _ rfl), at_heap ht (hP 2 _ rfl)⟩, hS.F ht⟩) hS.2.2 dX3_add_48
  · have i3 := Int32.not_lt.mp c1
    refine lv_bipush (v := (-4)) hx hb dX3_add_9 (by decide) ?_
    exact W.iret (v := (-4)) hx hb hr (fun t ht hW => ⟨⟨(-4), (nI k, f1, f2), rfl, by dsimp only; rw [if_neg (Nat.not_lt.mpr (nI_gec c1 (n := 12) rfl (by omega) (by omega)))]; exact ⟨rfl, rfl⟩, at_heap ht (hP 0 _ rfl), at_heap ht (hP 1 _ rfl), at_heap ht (hP 2 _ rfl)⟩, hS.F ht⟩) hS.2.2 dX3_add_11
def sumF (ft : Nat → Int32) (set : Int32) : Nat → Int32
  | 0 => 0
  | n + 1 => sumF ft set n + (if (set >>> (nI n &&& 31)) &&& 1 = 1 then ft n else 0)
theorem sumF_s (ft : Nat → Int32) (set : Int32) (n : Nat) : sumF ft set (n + 1) = sumF ft set n + (if (set >>> (nI n &&& 31)) &&& 1 = 1 then ft n else 0) := rfl
theorem ix_in {j k N : Nat} (h : j < k) (hk : k ≤ N) (hN : N < 2 ^ 20) : vp_in (nI j) N := vp_in_nI (Nat.lt_of_lt_of_le h hk) (by omega)
set_option maxHeartbeats 4000000 in
set_option maxRecDepth 100000 in
theorem lpX4_sum {p : Program} {l : Launch} {e : Env} {s : State} {m : MethodId} {args : Array Value} {below : List Frame} {meth : Method} {co : Code} {Q : State → Prop} (D : va_G) (cI cH : ClassId) (hx : p.tables.exec = Jvm.exec) (hb : co.code = cX4_sumOf) (hml : co.maxLocals = 4) (hown : s.vm.findClass RX4 = some m.cls) (hts : ∀ w ∈ wsX4_sumOf, w.before args s = true) (hw : wk D cI cH s) {H : Heap} {locs : List Loc} {bx th k : Nat} {ft : Nat → Int32} {set : Int32} (hk : k ≤ 10) (hR : va_P D vwCl [(bx, .inr (3, [.ref th, .int (nI k)])), (th, .inl (cI, 10, .inl ft))] H) (kk : ∀ ls : Array Slot, lv_has ls 4 [(3, .int (nI k)), (2, .int (sumF ft set k)), (1, .int set), (0, .ref bx)] → W p l e ({ frames := 0, cells := 0, slots := 0, locals := 0 } : Room) s m args below meth co H locs 0 0 Q (F0 m 40 ls [])) : ∀ (n j : Nat) (ls : Array Slot), j + n = k → lv_has ls 4 [(3, .int (nI j)), (2, .int (sumF ft set j)), (1, .int set), (0, .ref bx)] → W p l e ({ frames := 0, cells := 0, slots := 0, locals := 0 } : Room) s m args below meth co H locs 0 0 Q (F0 m 4 ls []) := by
  have hinX4 : ∀ w ∈ wsX40, w ∈ wsX4_sumOf := by decide +kernel
  intro n
  induction n with
  | zero =>
    intro j ls hj hl
    have hjk : j = k := by omega
    subst hjk
    refine lv_iload_n hx hb dX4_sumOf_4 rfl (lv_at hl 0 rfl) ?_
    refine lv_aload_n hx hb dX4_sumOf_5 rfl (lv_at hl 3 rfl) ?_
    refine va_get (D := D) (ci := 3) (v := .int (nI j)) (C := RX4) (T := TX4) (N := 2) hx hb hts hinX4 hown hw.1 hR 0 rfl rfl 1 (by decide) (hts (.fieldLink RX4 15 "WheelSwing$ShimBox" "size" "I") (by decide +kernel)) (fun _ h9 => h9) rfl dX4_sumOf_6 ?_
    refine lv_icmp_ge (tgt := 40) hx hb dX4_sumOf_9 (by decide) (fun c1 => ?_) (fun c1 => ?_)
    · have i2 := Int32.not_lt.mpr c1
      exact kk ls (lv_sub hl [0, 1, 2, 3] rfl)
    · have i3 := Int32.not_le.mp c1
      exact absurd (Int32.le_refl _) c1
  | succ n ih =>
    intro j ls hj hl
    refine lv_iload_n hx hb dX4_sumOf_4 rfl (lv_at hl 0 rfl) ?_
    refine lv_aload_n hx hb dX4_sumOf_5 rfl (lv_at hl 3 rfl) ?_
    refine va_get (D := D) (ci := 3) (v := .int (nI k)) (C := RX4) (T := TX4) (N := 2) hx hb hts hinX4 hown hw.1 hR 0 rfl rfl 1 (by decide) (hts (.fieldLink RX4 15 "WheelSwing$ShimBox" "size" "I") (by decide +kernel)) (fun _ h9 => h9) rfl dX4_sumOf_6 ?_
    refine lv_icmp_ge (tgt := 40) hx hb dX4_sumOf_9 (by decide) (fun c1 => ?_) (fun c1 => ?_)
    · have i2 := Int32.not_lt.mpr c1
      exact absurd ((nI_leI (by omega) (by omega)).mp c1) (by omega)
    · have i3 := Int32.not_le.mp c1
      refine lv_iload_n hx hb dX4_sumOf_12 rfl (lv_at hl 1 rfl) ?_
      refine lv_iload_n hx hb dX4_sumOf_13 rfl (lv_at hl 2 rfl) ?_
      refine lv_iload_n hx hb dX4_sumOf_14 rfl (lv_at hl 0 rfl) ?_
      refine lv_ishr hx hb dX4_sumOf_15 ?_
      refine lv_iconst (v := 1) hx hb dX4_sumOf_16 (by decide) ?_
      refine lv_iand hx hb dX4_sumOf_17 ?_
      refine lv_iconst (v := 1) hx hb dX4_sumOf_18 (by decide) ?_
      refine lv_icmp_ne (tgt := 31) hx hb dX4_sumOf_19 (by decide) (fun c4 => ?_) (fun c4 => ?_)
      · refine lv_iconst (v := 0) hx hb dX4_sumOf_31 (by decide) ?_
        refine lv_iadd hx hb dX4_sumOf_32 ?_
        refine lv_istore_n (lv' := [(2, .int ((sumF ft set j) + 0)), (3, .int (nI j)), (1, .int set), (0, .ref bx)]) hx hb dX4_sumOf_33 rfl hl (by decide) rfl (fun ls hl => ?_)
        refine lv_iinc (v := (nI j) + 1) (lv' := [(3, .int ((nI j) + 1)), (2, .int ((sumF ft set j) + 0)), (1, .int set), (0, .ref bx)]) hx hb dX4_sumOf_34 hl (k := 1) rfl rfl (by decide) rfl (fun ls hl => ?_)
        refine lv_goto (tgt := 4) hx hb dX4_sumOf_37 (by decide) ?_
        have h9 : lv_has ls 4 [(3, .int (nI (j + 1))), (2, .int (sumF ft set (j + 1))), (1, .int set), (0, .ref bx)] := by have h8 := (lv_sub hl [0, 1, 2, 3] rfl); rw [nI_1] at h8; rw [sumF_s, if_neg c4]; exact h8
        exact ih (j + 1) ls (by omega) h9
      · refine lv_aload_n hx hb dX4_sumOf_22 rfl (lv_at hl 3 rfl) ?_
        refine va_get (D := D) (ci := 3) (v := .ref th) (C := RX4) (T := TX4) (N := 2) hx hb hts hinX4 hown hw.1 hR 0 rfl rfl 0 (by decide) (hts (.fieldLink RX4 11 "WheelSwing$ShimBox" "thick" "[I") (by decide +kernel)) (fun _ h9 => h9) rfl dX4_sumOf_23 ?_
        refine lv_iload_n hx hb dX4_sumOf_26 rfl (lv_at hl 0 rfl) ?_
        refine va_iald hx hb hw.1 hR 1 0 rfl rfl (ix_in (show j < k by omega) hk (by omega)) dX4_sumOf_27 ?_
        refine lv_goto (tgt := 32) hx hb dX4_sumOf_28 (by decide) ?_
        refine lv_iadd hx hb dX4_sumOf_32 ?_
        refine lv_istore_n (lv' := [(2, .int ((sumF ft set j) + (ft (nI j).toNatClampNeg))), (3, .int (nI j)), (1, .int set), (0, .ref bx)]) hx hb dX4_sumOf_33 rfl hl (by decide) rfl (fun ls hl => ?_)
        refine lv_iinc (v := (nI j) + 1) (lv' := [(3, .int ((nI j) + 1)), (2, .int ((sumF ft set j) + (ft (nI j).toNatClampNeg))), (1, .int set), (0, .ref bx)]) hx hb dX4_sumOf_34 hl (k := 1) rfl rfl (by decide) rfl (fun ls hl => ?_)
        refine lv_goto (tgt := 4) hx hb dX4_sumOf_37 (by decide) ?_
        have h9 : lv_has ls 4 [(3, .int (nI (j + 1))), (2, .int (sumF ft set (j + 1))), (1, .int set), (0, .ref bx)] := by have h8 := (lv_sub hl [0, 1, 2, 3] rfl); rw [nI_1, nI_clamp (by omega)] at h8; rw [sumF_s, if_pos c4]; exact h8
        exact ih (j + 1) ls (by omega) h9
set_option maxHeartbeats 4000000 in
set_option maxRecDepth 100000 in
theorem mX4_sumOf (l : Launch) (D : va_G) (cI cH : ClassId) (bx th k : Nat) (ft : Nat → Int32) (set : Int32)  (hk : k ≤ 10) : Met l yX4_sumOf wsX4_sumOf ({ frames := 0, cells := 0, slots := 0, locals := 0 }) (va_Pc [.ref bx, .int set] (kB D cI cH [(bx, .inr (3, [.ref th, .int (nI k)])), (th, .inl (cI, 10, .inl ft))])) (va_Qi (fun (r : Int32) (u : Unit) => r = sumF ft set k) (fun _ _ => True) nA) 0 0 nA := by
  refine Met.ofW (cc := cX4_sumOf) (maxL := 4) (ret := (some .int)) (by decide) rfl ?_
  intro p e s m args below meth co s₁ B hml hv
  obtain ⟨rfl, hP0, hw⟩ := hv
  have hx := B.exec
  have hb := B.bytes
  have hr := B.returns
  have hts := atoms_spec (ws := wsX4_sumOf) B.pre
  have hown : s.vm.findClass RX4 = some m.cls := findClass_of_methodNamed B.named
  have hlocks := B.notSynchronized
  have hinX4 : ∀ w ∈ wsX40, w ∈ wsX4_sumOf := by decide +kernel
  have hS : va_S nA s.heap s.heap [] := va_S.rf
  have hR0 : va_P D vwCl [(bx, .inr (3, [.ref th, .int (nI k)])), (th, .inl (cI, 10, .inl ft))] s.heap := hP0.sub [0, 1] rfl
  have hR := hR0
  have hnr : ∀ (k9 : Nat) (q : Nat × va_E), ([(bx, .inr (3, [.ref th, .int (nI k)])), (th, .inl (cI, 10, .inl ft))] : va_W)[k9]? = some q → ¬ nA q.1 := fr_nA
  have hl := lv_entry ([.ref bx, .int set]) (n := 4) (Nat.le_of_ble_eq_true rfl)
  rw [lg_entry_eq]
  generalize (lg_sl ([.ref bx, .int set]) ++ List.replicate (4 - (lg_sl ([.ref bx, .int set])).length) Slot.unset).toArray = ls at hl ⊢
  have hl : lv_has ls 4 [(0, .ref bx), (1, .int set)] := hl
  skip
  refine lv_iconst (v := 0) hx hb dX4_sumOf_0 (by decide) ?_
  refine lv_istore_n (lv' := [(2, .int 0), (0, .ref bx), (1, .int set)]) hx hb dX4_sumOf_1 rfl hl (by decide) rfl (fun ls hl => ?_)
  refine lv_iconst (v := 0) hx hb dX4_sumOf_2 (by decide) ?_
  refine lv_istore_n (lv' := [(3, .int 0), (2, .int 0), (0, .ref bx), (1, .int set)]) hx hb dX4_sumOf_3 rfl hl (by decide) rfl (fun ls hl => ?_)
  have h4 : lv_has ls 4 [(3, .int (nI 0)), (2, .int (sumF ft set 0)), (1, .int set), (0, .ref bx)] := (lv_sub hl [0, 1, 3, 2] rfl)
  refine lpX4_sum D cI cH hx hb hml hown hts hw hk hR (fun ls hl => ?_) k 0 ls (by omega) h4
  refine lv_iload_n hx hb dX4_sumOf_40 rfl (lv_at hl 1 rfl) ?_
  exact W.iret (v := sumF ft set k) hx hb hr (fun t ht hW => ⟨⟨sumF ft set k, (), rfl, rfl, trivial⟩, hS.F ht⟩) hS.2.2 dX4_sumOf_41
