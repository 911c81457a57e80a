/-! THE MODEL'S CONSTRUCTOR -/
/-- what a new hanging is, laid at q -/
def iniN (N : Nat → Int32) (q : Nat) : Nat → Int32 := upd (upd (upd (upd (upd (layN N q 0 300 0 0 300 400 300 1) (13 * q + 8) (-100)) (13 * q + 9) 100) (13 * q + 10) 0) (13 * q + 11) 500) (13 * q + 12) 500
def iniA : Nat → Int32 := iniN (iniN (iniN (iniN (fun _ => 0) 0) 1) 2) 3
set_option maxHeartbeats 4000000 in
set_option maxRecDepth 100000 in
theorem mX7_init (l : Launch) (D : va_G) (cI cH : ClassId) (mo sz : Nat) : Met l yX7_init wsX7_init ({ frames := 1, cells := 4, slots := 86, locals := 30 }) (va_Pc [.ref mo] (iB D cI cH (mo, .inr (6, [.null, .double 0, .double 0, .double 0, .double 0, .double 0, .double 0, .double 0, .double 0, .double 0, .double 0, .int 0, .int 0, .int 0, .int 0, .int 0, .int 0, .null, .int 0, .null, .null, .double 0])) sz)) (va_Qv (fun u : Nat × Nat × Nat × Nat => True) (fun u t => va_P D vwCl [(mo, .inr (6, [.ref u.1, .double 0, .double 0, .double 0, .double 0, .double 0, .double 0, .double 0, .double 0, .double 0, .double 0, .int 0, .int 0, .int 0, .int 0, .int 0, .int ((nI 0)), .ref u.2.1, .int ((nI 0)), .ref u.2.2.1, .ref u.2.2.2, .double 0])), (u.1, .inl (cI, 52, .inl iniA)), (u.2.1, .inl (cI, 10, .inl (fun _ => 0))), (u.2.2.1, .inl (cI, 12, .inl (fun _ => 0))), (u.2.2.2, .inl (cI, 12, .inl (fun _ => 0)))] t.heap ∧ va_D (va_A [(mo, .inr (6, [.null, .double 0, .double 0, .double 0, .double 0, .double 0, .double 0, .double 0, .double 0, .double 0, .double 0, .int 0, .int 0, .int 0, .int 0, .int 0, .int 0, .null, .int 0, .null, .null, .double 0]))] sz) [(mo, .inr (6, [.ref u.1, .double 0, .double 0, .double 0, .double 0, .double 0, .double 0, .double 0, .double 0, .double 0, .double 0, .int 0, .int 0, .int 0, .int 0, .int 0, .int ((nI 0)), .ref u.2.1, .int ((nI 0)), .ref u.2.2.1, .ref u.2.2.2, .double 0])), (u.1, .inl (cI, 52, .inl iniA)), (u.2.1, .inl (cI, 10, .inl (fun _ => 0))), (u.2.2.1, .inl (cI, 12, .inl (fun _ => 0))), (u.2.2.2, .inl (cI, 12, .inl (fun _ => 0)))]) (va_A [(mo, .inr (6, [.null, .double 0, .double 0, .double 0, .double 0, .double 0, .double 0, .double 0, .double 0, .double 0, .double 0, .int 0, .int 0, .int 0, .int 0, .int 0, .int 0, .null, .int 0, .null, .null, .double 0]))] sz)) 4 86 (va_A [(mo, .inr (6, [.null, .double 0, .double 0, .double 0, .double 0, .double 0, .double 0, .double 0, .double 0, .double 0, .double 0, .int 0, .int 0, .int 0, .int 0, .int 0, .int 0, .null, .int 0, .null, .null, .double 0]))] sz) := by
  refine Met.ofW (cc := cX7_init) (maxL := 2) (ret := none) (by decide) rfl ?_
  intro p e s m args below meth co s₁ B hml hv
  obtain ⟨rfl, hsz, hP, hw, hD0⟩ := hv
  have hx := B.exec
  have hb := B.bytes
  have hr := B.returns
  have hts := atoms_spec (ws := wsX7_init) B.pre
  have hown : s.vm.findClass RX7 = some m.cls := findClass_of_methodNamed B.named
  have hlocks := B.notSynchronized
  have hin2 : meth.name = "<init>" := (name_of_methodNamed B.named B.method).1
  have hinX7 : ∀ w ∈ wsX70, w ∈ wsX7_init := by decide +kernel
  subst hsz
  have hD := hD0.self (sz := s.heap.size)
  generalize hAe : va_A [(mo, .inr (6, [.null, .double 0, .double 0, .double 0, .double 0, .double 0, .double 0, .double 0, .double 0, .double 0, .double 0, .int 0, .int 0, .int 0, .int 0, .int 0, .int 0, .null, .int 0, .null, .null, .double 0]))] s.heap.size = A at hD ⊢
  have hA : ∀ q : Nat, s.heap.size ≤ q → A q := fun q h => by rw [← hAe]; exact Or.inr h
  have hS : va_S A s.heap s.heap [] := va_S.rf
  have hP : va_P D vwCl [(mo, .inr (6, [.null, .double 0, .double 0, .double 0, .double 0, .double 0, .double 0, .double 0, .double 0, .double 0, .double 0, .int 0, .int 0, .int 0, .int 0, .int 0, .int 0, .null, .int 0, .null, .null, .double 0]))] s.heap := hP
  have hl := lv_entry ([.ref mo]) (n := 2) (Nat.le_of_ble_eq_true rfl)
  rw [lg_entry_eq]
  generalize (lg_sl ([.ref mo]) ++ List.replicate (2 - (lg_sl ([.ref mo])).length) Slot.unset).toArray = ls at hl ⊢
  have hl : lv_has ls 2 [(0, .ref mo)] := hl
  refine lv_aload_n hx hb dX7_init_0 rfl (lv_at hl 0 rfl) ?_
  refine W.objInit hx hb hown (hts (.methodLink RX7 13 objectInit) (by decide +kernel)) (hts (.instanceMethod objectInit) (by decide +kernel)) (hts (.code objectInit ⟨#[0xb1]⟩ 1 none) (by decide +kernel)) rfl (by rw [hml]; exact hl.1) rfl dX7_init_1 (Nat.le_of_ble_eq_true rfl) (Nat.le_of_ble_eq_true rfl) ?_
  refine W.eq (g2 := F0 m 4 ls []) rfl ?_
  refine lv_aload_n hx hb dX7_init_4 rfl (lv_at hl 0 rfl) ?_
  refine lv_bipush (v := 52) hx hb dX7_init_5 (by decide) ?_
  refine va_newa (atype := .int) (N' := 52) (a0 := (52, .inl (fun _ => 0))) hx hb (hts (.arrayClass .int) (by decide +kernel)) rfl hw.1 hP hD hS hA (fun cA => rfl) (by decide) (show (52 : Int32).toNatClampNeg = 52 by decide) (by decide) (Nat.le_of_ble_eq_true rfl) (Nat.le_of_ble_eq_true rfl) dX7_init_7 (fun a7 cA H hK9 hP hD hS => ?_)
  have ecA := cA_int hK9
  subst ecA
  have hP : va_P D vwCl [(mo, .inr (6, [.null, .double 0, .double 0, .double 0, .double 0, .double 0, .double 0, .double 0, .double 0, .double 0, .double 0, .int 0, .int 0, .int 0, .int 0, .int 0, .int 0, .null, .int 0, .null, .null, .double 0])), (a7, .inl (cI, 52, .inl (fun _ => 0)))] H := hP
  have hD : va_D A [(mo, .inr (6, [.null, .double 0, .double 0, .double 0, .double 0, .double 0, .double 0, .double 0, .double 0, .double 0, .double 0, .int 0, .int 0, .int 0, .int 0, .int 0, .int 0, .null, .int 0, .null, .null, .double 0])), (a7, .inl (cI, 52, .inl (fun _ => 0)))] := hD
  refine W.widen (k := 1) (n := 52) (by omega) (by omega) ?_
  refine va_putF (D := D) (ci := 6) (v := .ref a7) (ty := .array .int) (C := RX7) (T := TX7) (N := 22) hx hb hts hinX7 tyX7 tyX7_ok nmX7 hown hw.1 hP hD hS 0 rfl rfl 0 (by decide) (hts (.fieldLink RX7 19 "WheelSwingModel" "number" "[I") (by decide +kernel)) (fun _ h9 => h9) rfl hin2 rfl (by decide +kernel) rfl rfl (Nat.le_of_ble_eq_true rfl) dX7_init_9 (fun H locs hP hD hS => ?_)
  have hP : va_P D vwCl [(mo, .inr (6, [.ref a7, .double 0, .double 0, .double 0, .double 0, .double 0, .double 0, .double 0, .double 0, .double 0, .double 0, .int 0, .int 0, .int 0, .int 0, .int 0, .int 0, .null, .int 0, .null, .null, .double 0])), (a7, .inl (cI, 52, .inl (fun _ => 0)))] H := hP
  have hD : va_D A [(mo, .inr (6, [.ref a7, .double 0, .double 0, .double 0, .double 0, .double 0, .double 0, .double 0, .double 0, .double 0, .double 0, .int 0, .int 0, .int 0, .int 0, .int 0, .int 0, .null, .int 0, .null, .null, .double 0])), (a7, .inl (cI, 52, .inl (fun _ => 0)))] := hD
  refine lv_aload_n hx hb dX7_init_12 rfl (lv_at hl 0 rfl) ?_
  refine lv_bipush (v := 10) hx hb dX7_init_13 (by decide) ?_
  refine va_newa (atype := .int) (N' := 10) (a0 := (10, .inl (fun _ => 0))) hx hb (hts (.arrayClass .int) (by decide +kernel)) rfl hw.1 hP hD hS hA (fun cA => rfl) (by decide) (show (10 : Int32).toNatClampNeg = 10 by decide) (by decide) (Nat.le_of_ble_eq_true rfl) (Nat.le_of_ble_eq_true rfl) dX7_init_15 (fun a15 cA H hK9 hP hD hS => ?_)
  have ecA := cA_int hK9
  subst ecA
  have hP : va_P D vwCl [(mo, .inr (6, [.ref a7, .double 0, .double 0, .double 0, .double 0, .double 0, .double 0, .double 0, .double 0, .double 0, .double 0, .int 0, .int 0, .int 0, .int 0, .int 0, .int 0, .null, .int 0, .null, .null, .double 0])), (a7, .inl (cI, 52, .inl (fun _ => 0))), (a15, .inl (cI, 10, .inl (fun _ => 0)))] H := hP
  have hD : va_D A [(mo, .inr (6, [.ref a7, .double 0, .double 0, .double 0, .double 0, .double 0, .double 0, .double 0, .double 0, .double 0, .double 0, .int 0, .int 0, .int 0, .int 0, .int 0, .int 0, .null, .int 0, .null, .null, .double 0])), (a7, .inl (cI, 52, .inl (fun _ => 0))), (a15, .inl (cI, 10, .inl (fun _ => 0)))] := hD
  refine W.widen (k := 2) (n := 62) (by omega) (by omega) ?_
  refine va_putF (D := D) (ci := 6) (v := .ref a15) (ty := .array .int) (C := RX7) (T := TX7) (N := 22) hx hb hts hinX7 tyX7 tyX7_ok nmX7 hown hw.1 hP hD hS 0 rfl rfl 17 (by decide) (hts (.fieldLink RX7 25 "WheelSwingModel" "shim" "[I") (by decide +kernel)) (fun _ h9 => h9) rfl hin2 rfl (by decide +kernel) rfl rfl (Nat.le_of_ble_eq_true rfl) dX7_init_17 (fun H locs hP hD hS => ?_)
  have hP : va_P D vwCl [(mo, .inr (6, [.ref a7, .double 0, .double 0, .double 0, .double 0, .double 0, .double 0, .double 0, .double 0, .double 0, .double 0, .int 0, .int 0, .int 0, .int 0, .int 0, .int 0, .ref a15, .int 0, .null, .null, .double 0])), (a7, .inl (cI, 52, .inl (fun _ => 0))), (a15, .inl (cI, 10, .inl (fun _ => 0)))] H := hP
  have hD : va_D A [(mo, .inr (6, [.ref a7, .double 0, .double 0, .double 0, .double 0, .double 0, .double 0, .double 0, .double 0, .double 0, .double 0, .int 0, .int 0, .int 0, .int 0, .int 0, .int 0, .ref a15, .int 0, .null, .null, .double 0])), (a7, .inl (cI, 52, .inl (fun _ => 0))), (a15, .inl (cI, 10, .inl (fun _ => 0)))] := hD
  refine lv_aload_n hx hb dX7_init_20 rfl (lv_at hl 0 rfl) ?_
  refine lv_bipush (v := 12) hx hb dX7_init_21 (by decide) ?_
  refine va_newa (atype := .int) (N' := 12) (a0 := (12, .inl (fun _ => 0))) hx hb (hts (.arrayClass .int) (by decide +kernel)) rfl hw.1 hP hD hS hA (fun cA => rfl) (by decide) (show (12 : Int32).toNatClampNeg = 12 by decide) (by decide) (Nat.le_of_ble_eq_true rfl) (Nat.le_of_ble_eq_true rfl) dX7_init_23 (fun a23 cA H hK9 hP hD hS => ?_)
  have ecA := cA_int hK9
  subst ecA
  have hP : va_P D vwCl [(mo, .inr (6, [.ref a7, .double 0, .double 0, .double 0, .double 0, .double 0, .double 0, .double 0, .double 0, .double 0, .double 0, .int 0, .int 0, .int 0, .int 0, .int 0, .int 0, .ref a15, .int 0, .null, .null, .double 0])), (a7, .inl (cI, 52, .inl (fun _ => 0))), (a15, .inl (cI, 10, .inl (fun _ => 0))), (a23, .inl (cI, 12, .inl (fun _ => 0)))] H := hP
  have hD : va_D A [(mo, .inr (6, [.ref a7, .double 0, .double 0, .double 0, .double 0, .double 0, .double 0, .double 0, .double 0, .double 0, .double 0, .int 0, .int 0, .int 0, .int 0, .int 0, .int 0, .ref a15, .int 0, .null, .null, .double 0])), (a7, .inl (cI, 52, .inl (fun _ => 0))), (a15, .inl (cI, 10, .inl (fun _ => 0))), (a23, .inl (cI, 12, .inl (fun _ => 0)))] := hD
  refine W.widen (k := 3) (n := 74) (by omega) (by omega) ?_
  refine va_putF (D := D) (ci := 6) (v := .ref a23) (ty := .array .int) (C := RX7) (T := TX7) (N := 22) hx hb hts hinX7 tyX7 tyX7_ok nmX7 hown hw.1 hP hD hS 0 rfl rfl 19 (by decide) (hts (.fieldLink RX7 28 "WheelSwingModel" "readAt" "[I") (by decide +kernel)) (fun _ h9 => h9) rfl hin2 rfl (by decide +kernel) rfl rfl (Nat.le_of_ble_eq_true rfl) dX7_init_25 (fun H locs hP hD hS => ?_)
  have hP : va_P D vwCl [(mo, .inr (6, [.ref a7, .double 0, .double 0, .double 0, .double 0, .double 0, .double 0, .double 0, .double 0, .double 0, .double 0, .int 0, .int 0, .int 0, .int 0, .int 0, .int 0, .ref a15, .int 0, .ref a23, .null, .double 0])), (a7, .inl (cI, 52, .inl (fun _ => 0))), (a15, .inl (cI, 10, .inl (fun _ => 0))), (a23, .inl (cI, 12, .inl (fun _ => 0)))] H := hP
  have hD : va_D A [(mo, .inr (6, [.ref a7, .double 0, .double 0, .double 0, .double 0, .double 0, .double 0, .double 0, .double 0, .double 0, .double 0, .int 0, .int 0, .int 0, .int 0, .int 0, .int 0, .ref a15, .int 0, .ref a23, .null, .double 0])), (a7, .inl (cI, 52, .inl (fun _ => 0))), (a15, .inl (cI, 10, .inl (fun _ => 0))), (a23, .inl (cI, 12, .inl (fun _ => 0)))] := hD
  refine lv_aload_n hx hb dX7_init_28 rfl (lv_at hl 0 rfl) ?_
  refine lv_bipush (v := 12) hx hb dX7_init_29 (by decide) ?_
  refine va_newa (atype := .int) (N' := 12) (a0 := (12, .inl (fun _ => 0))) hx hb (hts (.arrayClass .int) (by decide +kernel)) rfl hw.1 hP hD hS hA (fun cA => rfl) (by decide) (show (12 : Int32).toNatClampNeg = 12 by decide) (by decide) (Nat.le_of_ble_eq_true rfl) (Nat.le_of_ble_eq_true rfl) dX7_init_31 (fun a31 cA H hK9 hP hD hS => ?_)
  have ecA := cA_int hK9
  subst ecA
  have hP : va_P D vwCl [(mo, .inr (6, [.ref a7, .double 0, .double 0, .double 0, .double 0, .double 0, .double 0, .double 0, .double 0, .double 0, .double 0, .int 0, .int 0, .int 0, .int 0, .int 0, .int 0, .ref a15, .int 0, .ref a23, .null, .double 0])), (a7, .inl (cI, 52, .inl (fun _ => 0))), (a15, .inl (cI, 10, .inl (fun _ => 0))), (a23, .inl (cI, 12, .inl (fun _ => 0))), (a31, .inl (cI, 12, .inl (fun _ => 0)))] H := hP
  have hD : va_D A [(mo, .inr (6, [.ref a7, .double 0, .double 0, .double 0, .double 0, .double 0, .double 0, .double 0, .double 0, .double 0, .double 0, .int 0, .int 0, .int 0, .int 0, .int 0, .int 0, .ref a15, .int 0, .ref a23, .null, .double 0])), (a7, .inl (cI, 52, .inl (fun _ => 0))), (a15, .inl (cI, 10, .inl (fun _ => 0))), (a23, .inl (cI, 12, .inl (fun _ => 0))), (a31, .inl (cI, 12, .inl (fun _ => 0)))] := hD
  refine W.widen (k := 4) (n := 86) (by omega) (by omega) ?_
  refine va_putF (D := D) (ci := 6) (v := .ref a31) (ty := .array .int) (C := RX7) (T := TX7) (N := 22) hx hb hts hinX7 tyX7 tyX7_ok nmX7 hown hw.1 hP hD hS 0 rfl rfl 20 (by decide) (hts (.fieldLink RX7 31 "WheelSwingModel" "read" "[I") (by decide +kernel)) (fun _ h9 => h9) rfl hin2 rfl (by decide +kernel) rfl rfl (Nat.le_of_ble_eq_true rfl) dX7_init_33 (fun H locs hP hD hS => ?_)
  have hP : va_P D vwCl [(mo, .inr (6, [.ref a7, .double 0, .double 0, .double 0, .double 0, .double 0, .double 0, .double 0, .double 0, .double 0, .double 0, .int 0, .int 0, .int 0, .int 0, .int 0, .int 0, .ref a15, .int 0, .ref a23, .ref a31, .double 0])), (a7, .inl (cI, 52, .inl (fun _ => 0))), (a15, .inl (cI, 10, .inl (fun _ => 0))), (a23, .inl (cI, 12, .inl (fun _ => 0))), (a31, .inl (cI, 12, .inl (fun _ => 0)))] H := hP
  have hD : va_D A [(mo, .inr (6, [.ref a7, .double 0, .double 0, .double 0, .double 0, .double 0, .double 0, .double 0, .double 0, .double 0, .double 0, .int 0, .int 0, .int 0, .int 0, .int 0, .int 0, .ref a15, .int 0, .ref a23, .ref a31, .double 0])), (a7, .inl (cI, 52, .inl (fun _ => 0))), (a15, .inl (cI, 10, .inl (fun _ => 0))), (a23, .inl (cI, 12, .inl (fun _ => 0))), (a31, .inl (cI, 12, .inl (fun _ => 0)))] := hD
  refine lv_iconst (v := 0) hx hb dX7_init_36 (by decide) ?_
  have hP : va_P D vwCl [(mo, .inr (6, [.ref a7, .double 0, .double 0, .double 0, .double 0, .double 0, .double 0, .double 0, .double 0, .double 0, .double 0, .int 0, .int 0, .int 0, .int 0, .int 0, .int ((nI 0)), .ref a15, .int ((nI 0)), .ref a23, .ref a31, .double 0])), (a7, .inl (cI, 52, .inl (fun _ => 0))), (a15, .inl (cI, 10, .inl (fun _ => 0))), (a23, .inl (cI, 12, .inl (fun _ => 0))), (a31, .inl (cI, 12, .inl (fun _ => 0)))] H := by rw [nI_0]; exact hP
  have hD : va_D A [(mo, .inr (6, [.ref a7, .double 0, .double 0, .double 0, .double 0, .double 0, .double 0, .double 0, .double 0, .double 0, .double 0, .int 0, .int 0, .int 0, .int 0, .int 0, .int ((nI 0)), .ref a15, .int ((nI 0)), .ref a23, .ref a31, .double 0])), (a7, .inl (cI, 52, .inl (fun _ => 0))), (a15, .inl (cI, 10, .inl (fun _ => 0))), (a23, .inl (cI, 12, .inl (fun _ => 0))), (a31, .inl (cI, 12, .inl (fun _ => 0)))] := hD.set (p := 0) rfl
  refine lv_istore_n (lv' := [(1, .int 0), (0, .ref mo)]) hx hb dX7_init_37 rfl hl (by decide) rfl (fun ls hl => ?_)
  have hmn := D_ne hD 0 1 rfl rfl (by decide)
  refine lv_iload_n hx hb dX7_init_38 rfl (lv_at hl 0 rfl) ?_
  refine lv_iconst (v := 4) hx hb dX7_init_39 (by decide) ?_
  refine lv_icmp_ge (tgt := 141) hx hb dX7_init_40 (by decide) (fun c2 => absurd c2 (by decide)) (fun _ => ?_)
  refine lv_aload_n hx hb dX7_init_43 rfl (lv_at hl 1 rfl) ?_
  refine lv_iload_n hx hb dX7_init_44 rfl (lv_at hl 0 rfl) ?_
  rw [show (0 : Int32) = nI 0 from by decide +kernel]
  refine lv_iconst (v := 0) hx hb dX7_init_45 (by decide) ?_
  refine lv_sipush (v := 300) hx hb dX7_init_46 (by decide) ?_
  refine lv_iconst (v := 0) hx hb dX7_init_49 (by decide) ?_
  refine lv_iconst (v := 0) hx hb dX7_init_50 (by decide) ?_
  refine lv_sipush (v := 300) hx hb dX7_init_51 (by decide) ?_
  refine lv_sipush (v := 400) hx hb dX7_init_54 (by decide) ?_
  refine lv_sipush (v := 300) hx hb dX7_init_57 (by decide) ?_
  refine lv_iconst (v := 1) hx hb dX7_init_60 (by decide) ?_
  have hq3 : va_P D vwCl [(a7, .inl (cI, 52, .inl (fun _ => 0))), (mo, .inr (6, [.ref a7, .double 0, .double 0, .double 0, .double 0, .double 0, .double 0, .double 0, .double 0, .double 0, .double 0, .int 0, .int 0, .int 0, .int 0, .int 0, .int ((nI 0)), .ref a15, .int ((nI 0)), .ref a23, .ref a31, .double 0]))] H := hP.sub [1, 0] rfl
  refine va_callv (va_runV (As := [.int (nI 0), .int 0, .int 300, .int 0, .int 0, .int 300, .int 400, .int 300, .int 1]) (rest := []) ⟨hx, hb, hml, hown, hts⟩ (mX7_lays l D cI cH mo a7 a15 a23 a31 0 0 0 (fun _ => 0) 0 0 0 0 0 0 0 0 0 0 0 0 0 0 0 0 0 300 0 0 300 400 300 1 (by decide) hmn) (cwV 9 hts gX7_init_X7_lays rfl rfl rfl (by decide +kernel) ⟨Nat.le_of_ble_eq_true rfl, Nat.le_of_ble_eq_true rfl⟩) ⟨kB_blind, va_recv hw.1 hq3 (ci := 6) (q0 := 1) rfl rfl, kB_go hq3 hw⟩ rfl rfl hl.1 rfl (lv_room (Nat.le_of_ble_eq_true rfl)) dX7_init_61 ⟨Nat.le_of_ble_eq_true rfl, Nat.le_of_ble_eq_true rfl⟩) hS (fun q9 _ h9 => h9 ▸ hD.2 1 _ rfl) (fun q9 h9 => h9 ▸ hD.2 1 _ rfl) (fun u t H9 locs ht hvm hp hB hz1 hk1 hS => ?_)
  subst hp
  have hB : va_at D vwCl (a7, .inl (cI, 52, .inl (layN (fun _ => 0) 0 0 300 0 0 300 400 300 1))) t.heap := hB
  rw [ht] at hB
  have hP : va_P D vwCl [(mo, .inr (6, [.ref a7, .double 0, .double 0, .double 0, .double 0, .double 0, .double 0, .double 0, .double 0, .double 0, .double 0, .int 0, .int 0, .int 0, .int 0, .int 0, .int ((nI 0)), .ref a15, .int ((nI 0)), .ref a23, .ref a31, .double 0])), (a7, .inl (cI, 52, .inl (layN (fun _ => 0) 0 0 300 0 0 300 400 300 1))), (a15, .inl (cI, 10, .inl (fun _ => 0))), (a23, .inl (cI, 12, .inl (fun _ => 0))), (a31, .inl (cI, 12, .inl (fun _ => 0)))] H9 := fr_cons (va_at.kept (hP 0 _ rfl) (hk1 _ (va_at_lt (hP 0 _ rfl)) (D_ne hD 0 1 rfl rfl (by decide)))) (fr_cons hB (fr_cons (va_at.kept (hP 2 _ rfl) (hk1 _ (va_at_lt (hP 2 _ rfl)) (D_ne hD 2 1 rfl rfl (by decide)))) (fr_cons (va_at.kept (hP 3 _ rfl) (hk1 _ (va_at_lt (hP 3 _ rfl)) (D_ne hD 3 1 rfl rfl (by decide)))) (fr_cons (va_at.kept (hP 4 _ rfl) (hk1 _ (va_at_lt (hP 4 _ rfl)) (D_ne hD 4 1 rfl rfl (by decide)))) (fr_nil)))))
  have hD : va_D A [(mo, .inr (6, [.ref a7, .double 0, .double 0, .double 0, .double 0, .double 0, .double 0, .double 0, .double 0, .double 0, .double 0, .int 0, .int 0, .int 0, .int 0, .int 0, .int ((nI 0)), .ref a15, .int ((nI 0)), .ref a23, .ref a31, .double 0])), (a7, .inl (cI, 52, .inl (layN (fun _ => 0) 0 0 300 0 0 300 400 300 1))), (a15, .inl (cI, 10, .inl (fun _ => 0))), (a23, .inl (cI, 12, .inl (fun _ => 0))), (a31, .inl (cI, 12, .inl (fun _ => 0)))] := hD.set (p := 1) rfl
  clear hk1 hB hq3
  generalize H9 = H at hP hS ⊢
  refine lv_aload_n hx hb dX7_init_64 rfl (lv_at hl 1 rfl) ?_
  refine va_get (D := D) (ci := 6) (v := .ref a7) (C := RX7) (T := TX7) (N := 22) hx hb hts hinX7 hown hw.1 hP 0 rfl rfl 0 (by decide) (hts (.fieldLink RX7 19 "WheelSwingModel" "number" "[I") (by decide +kernel)) (fun _ h9 => h9) rfl dX7_init_65 ?_
  refine lv_bipush (v := 13) hx hb dX7_init_68 (by decide) ?_
  refine lv_iload_n hx hb dX7_init_70 rfl (lv_at hl 0 rfl) ?_
  refine lv_imul hx hb dX7_init_71 ?_
  refine lv_bipush (v := 8) hx hb dX7_init_72 (by decide) ?_
  refine lv_iadd hx hb dX7_init_74 ?_
  rw [show ((13 * 0) + 8 : Int32) = nI 8 from by decide +kernel]
  refine lv_bipush (v := (-100)) hx hb dX7_init_75 (by decide) ?_
  refine va_iast hx hb hw.1 hP hD hS 1 0 rfl rfl (vp_in_nI (n := 8) (by decide) (by decide)) dX7_init_77 (fun H locs hP hD hS => ?_)
  rw [nI_clamp (n := 8) (by decide)] at hP hD
  have hP : va_P D vwCl [(mo, .inr (6, [.ref a7, .double 0, .double 0, .double 0, .double 0, .double 0, .double 0, .double 0, .double 0, .double 0, .double 0, .int 0, .int 0, .int 0, .int 0, .int 0, .int ((nI 0)), .ref a15, .int ((nI 0)), .ref a23, .ref a31, .double 0])), (a7, .inl (cI, 52, .inl (upd (layN (fun _ => 0) 0 0 300 0 0 300 400 300 1) (13 * 0 + 8) ((-100))))), (a15, .inl (cI, 10, .inl (fun _ => 0))), (a23, .inl (cI, 12, .inl (fun _ => 0))), (a31, .inl (cI, 12, .inl (fun _ => 0)))] H := hP
  have hD : va_D A [(mo, .inr (6, [.ref a7, .double 0, .double 0, .double 0, .double 0, .double 0, .double 0, .double 0, .double 0, .double 0, .double 0, .int 0, .int 0, .int 0, .int 0, .int 0, .int ((nI 0)), .ref a15, .int ((nI 0)), .ref a23, .ref a31, .double 0])), (a7, .inl (cI, 52, .inl (upd (layN (fun _ => 0) 0 0 300 0 0 300 400 300 1) (13 * 0 + 8) ((-100))))), (a15, .inl (cI, 10, .inl (fun _ => 0))), (a23, .inl (cI, 12, .inl (fun _ => 0))), (a31, .inl (cI, 12, .inl (fun _ => 0)))] := hD
  refine lv_aload_n hx hb dX7_init_78 rfl (lv_at hl 1 rfl) ?_
  refine va_get (D := D) (ci := 6) (v := .ref a7) (C := RX7) (T := TX7) (N := 22) hx hb hts hinX7 hown hw.1 hP 0 rfl rfl 0 (by decide) (hts (.fieldLink RX7 19 "WheelSwingModel" "number" "[I") (by decide +kernel)) (fun _ h9 => h9) rfl dX7_init_79 ?_
  refine lv_bipush (v := 13) hx hb dX7_init_82 (by decide) ?_
  refine lv_iload_n hx hb dX7_init_84 rfl (lv_at hl 0 rfl) ?_
  refine lv_imul hx hb dX7_init_85 ?_
  refine lv_bipush (v := 9) hx hb dX7_init_86 (by decide) ?_
  refine lv_iadd hx hb dX7_init_88 ?_
  rw [show ((13 * 0) + 9 : Int32) = nI 9 from by decide +kernel]
  refine lv_bipush (v := 100) hx hb dX7_init_89 (by decide) ?_
  refine va_iast hx hb hw.1 hP hD hS 1 0 rfl rfl (vp_in_nI (n := 9) (by decide) (by decide)) dX7_init_91 (fun H locs hP hD hS => ?_)
  rw [nI_clamp (n := 9) (by decide)] at hP hD
  have hP : va_P D vwCl [(mo, .inr (6, [.ref a7, .double 0, .double 0, .double 0, .double 0, .double 0, .double 0, .double 0, .double 0, .double 0, .double 0, .int 0, .int 0, .int 0, .int 0, .int 0, .int ((nI 0)), .ref a15, .int ((nI 0)), .ref a23, .ref a31, .double 0])), (a7, .inl (cI, 52, .inl (upd (upd (layN (fun _ => 0) 0 0 300 0 0 300 400 300 1) (13 * 0 + 8) ((-100))) (13 * 0 + 9) 100))), (a15, .inl (cI, 10, .inl (fun _ => 0))), (a23, .inl (cI, 12, .inl (fun _ => 0))), (a31, .inl (cI, 12, .inl (fun _ => 0)))] H := hP
  have hD : va_D A [(mo, .inr (6, [.ref a7, .double 0, .double 0, .double 0, .double 0, .double 0, .double 0, .double 0, .double 0, .double 0, .double 0, .int 0, .int 0, .int 0, .int 0, .int 0, .int ((nI 0)), .ref a15, .int ((nI 0)), .ref a23, .ref a31, .double 0])), (a7, .inl (cI, 52, .inl (upd (upd (layN (fun _ => 0) 0 0 300 0 0 300 400 300 1) (13 * 0 + 8) ((-100))) (13 * 0 + 9) 100))), (a15, .inl (cI, 10, .inl (fun _ => 0))), (a23, .inl (cI, 12, .inl (fun _ => 0))), (a31, .inl (cI, 12, .inl (fun _ => 0)))] := hD
  refine lv_aload_n hx hb dX7_init_92 rfl (lv_at hl 1 rfl) ?_
  refine va_get (D := D) (ci := 6) (v := .ref a7) (C := RX7) (T := TX7) (N := 22) hx hb hts hinX7 hown hw.1 hP 0 rfl rfl 0 (by decide) (hts (.fieldLink RX7 19 "WheelSwingModel" "number" "[I") (by decide +kernel)) (fun _ h9 => h9) rfl dX7_init_93 ?_
  refine lv_bipush (v := 13) hx hb dX7_init_96 (by decide) ?_
  refine lv_iload_n hx hb dX7_init_98 rfl (lv_at hl 0 rfl) ?_
  refine lv_imul hx hb dX7_init_99 ?_
  refine lv_bipush (v := 10) hx hb dX7_init_100 (by decide) ?_
  refine lv_iadd hx hb dX7_init_102 ?_
  rw [show ((13 * 0) + 10 : Int32) = nI 10 from by decide +kernel]
  refine lv_iconst (v := 0) hx hb dX7_init_103 (by decide) ?_
  refine va_iast hx hb hw.1 hP hD hS 1 0 rfl rfl (vp_in_nI (n := 10) (by decide) (by decide)) dX7_init_104 (fun H locs hP hD hS => ?_)
  rw [nI_clamp (n := 10) (by decide)] at hP hD
  have hP : va_P D vwCl [(mo, .inr (6, [.ref a7, .double 0, .double 0, .double 0, .double 0, .double 0, .double 0, .double 0, .double 0, .double 0, .double 0, .int 0, .int 0, .int 0, .int 0, .int 0, .int ((nI 0)), .ref a15, .int ((nI 0)), .ref a23, .ref a31, .double 0])), (a7, .inl (cI, 52, .inl (upd (upd (upd (layN (fun _ => 0) 0 0 300 0 0 300 400 300 1) (13 * 0 + 8) ((-100))) (13 * 0 + 9) 100) (13 * 0 + 10) 0))), (a15, .inl (cI, 10, .inl (fun _ => 0))), (a23, .inl (cI, 12, .inl (fun _ => 0))), (a31, .inl (cI, 12, .inl (fun _ => 0)))] H := hP
  have hD : va_D A [(mo, .inr (6, [.ref a7, .double 0, .double 0, .double 0, .double 0, .double 0, .double 0, .double 0, .double 0, .double 0, .double 0, .int 0, .int 0, .int 0, .int 0, .int 0, .int ((nI 0)), .ref a15, .int ((nI 0)), .ref a23, .ref a31, .double 0])), (a7, .inl (cI, 52, .inl (upd (upd (upd (layN (fun _ => 0) 0 0 300 0 0 300 400 300 1) (13 * 0 + 8) ((-100))) (13 * 0 + 9) 100) (13 * 0 + 10) 0))), (a15, .inl (cI, 10, .inl (fun _ => 0))), (a23, .inl (cI, 12, .inl (fun _ => 0))), (a31, .inl (cI, 12, .inl (fun _ => 0)))] := hD
  refine lv_aload_n hx hb dX7_init_105 rfl (lv_at hl 1 rfl) ?_
  refine va_get (D := D) (ci := 6) (v := .ref a7) (C := RX7) (T := TX7) (N := 22) hx hb hts hinX7 hown hw.1 hP 0 rfl rfl 0 (by decide) (hts (.fieldLink RX7 19 "WheelSwingModel" "number" "[I") (by decide +kernel)) (fun _ h9 => h9) rfl dX7_init_106 ?_
  refine lv_bipush (v := 13) hx hb dX7_init_109 (by decide) ?_
  refine lv_iload_n hx hb dX7_init_111 rfl (lv_at hl 0 rfl) ?_
  refine lv_imul hx hb dX7_init_112 ?_
  refine lv_bipush (v := 11) hx hb dX7_init_113 (by decide) ?_
  refine lv_iadd hx hb dX7_init_115 ?_
  rw [show ((13 * 0) + 11 : Int32) = nI 11 from by decide +kernel]
  refine lv_sipush (v := 500) hx hb dX7_init_116 (by decide) ?_
  refine va_iast hx hb hw.1 hP hD hS 1 0 rfl rfl (vp_in_nI (n := 11) (by decide) (by decide)) dX7_init_119 (fun H locs hP hD hS => ?_)
  rw [nI_clamp (n := 11) (by decide)] at hP hD
  have hP : va_P D vwCl [(mo, .inr (6, [.ref a7, .double 0, .double 0, .double 0, .double 0, .double 0, .double 0, .double 0, .double 0, .double 0, .double 0, .int 0, .int 0, .int 0, .int 0, .int 0, .int ((nI 0)), .ref a15, .int ((nI 0)), .ref a23, .ref a31, .double 0])), (a7, .inl (cI, 52, .inl (upd (upd (upd (upd (layN (fun _ => 0) 0 0 300 0 0 300 400 300 1) (13 * 0 + 8) ((-100))) (13 * 0 + 9) 100) (13 * 0 + 10) 0) (13 * 0 + 11) 500))), (a15, .inl (cI, 10, .inl (fun _ => 0))), (a23, .inl (cI, 12, .inl (fun _ => 0))), (a31, .inl (cI, 12, .inl (fun _ => 0)))] H := hP
  have hD : va_D A [(mo, .inr (6, [.ref a7, .double 0, .double 0, .double 0, .double 0, .double 0, .double 0, .double 0, .double 0, .double 0, .double 0, .int 0, .int 0, .int 0, .int 0, .int 0, .int ((nI 0)), .ref a15, .int ((nI 0)), .ref a23, .ref a31, .double 0])), (a7, .inl (cI, 52, .inl (upd (upd (upd (upd (layN (fun _ => 0) 0 0 300 0 0 300 400 300 1) (13 * 0 + 8) ((-100))) (13 * 0 + 9) 100) (13 * 0 + 10) 0) (13 * 0 + 11) 500))), (a15, .inl (cI, 10, .inl (fun _ => 0))), (a23, .inl (cI, 12, .inl (fun _ => 0))), (a31, .inl (cI, 12, .inl (fun _ => 0)))] := hD
  refine lv_aload_n hx hb dX7_init_120 rfl (lv_at hl 1 rfl) ?_
  refine va_get (D := D) (ci := 6) (v := .ref a7) (C := RX7) (T := TX7) (N := 22) hx hb hts hinX7 hown hw.1 hP 0 rfl rfl 0 (by decide) (hts (.fieldLink RX7 19 "WheelSwingModel" "number" "[I") (by decide +kernel)) (fun _ h9 => h9) rfl dX7_init_121 ?_
  refine lv_bipush (v := 13) hx hb dX7_init_124 (by decide) ?_
  refine lv_iload_n hx hb dX7_init_126 rfl (lv_at hl 0 rfl) ?_
  refine lv_imul hx hb dX7_init_127 ?_
  refine lv_bipush (v := 12) hx hb dX7_init_128 (by decide) ?_
  refine lv_iadd hx hb dX7_init_130 ?_
  rw [show ((13 * 0) + 12 : Int32) = nI 12 from by decide +kernel]
  refine lv_sipush (v := 500) hx hb dX7_init_131 (by decide) ?_
  refine va_iast hx hb hw.1 hP hD hS 1 0 rfl rfl (vp_in_nI (n := 12) (by decide) (by decide)) dX7_init_134 (fun H locs hP hD hS => ?_)
  rw [nI_clamp (n := 12) (by decide)] at hP hD
  have hP : va_P D vwCl [(mo, .inr (6, [.ref a7, .double 0, .double 0, .double 0, .double 0, .double 0, .double 0, .double 0, .double 0, .double 0, .double 0, .int 0, .int 0, .int 0, .int 0, .int 0, .int ((nI 0)), .ref a15, .int ((nI 0)), .ref a23, .ref a31, .double 0])), (a7, .inl (cI, 52, .inl (upd (upd (upd (upd (upd (layN (fun _ => 0) 0 0 300 0 0 300 400 300 1) (13 * 0 + 8) ((-100))) (13 * 0 + 9) 100) (13 * 0 + 10) 0) (13 * 0 + 11) 500) (13 * 0 + 12) 500))), (a15, .inl (cI, 10, .inl (fun _ => 0))), (a23, .inl (cI, 12, .inl (fun _ => 0))), (a31, .inl (cI, 12, .inl (fun _ => 0)))] H := hP
  have hD : va_D A [(mo, .inr (6, [.ref a7, .double 0, .double 0, .double 0, .double 0, .double 0, .double 0, .double 0, .double 0, .double 0, .double 0, .int 0, .int 0, .int 0, .int 0, .int 0, .int ((nI 0)), .ref a15, .int ((nI 0)), .ref a23, .ref a31, .double 0])), (a7, .inl (cI, 52, .inl (upd (upd (upd (upd (upd (layN (fun _ => 0) 0 0 300 0 0 300 400 300 1) (13 * 0 + 8) ((-100))) (13 * 0 + 9) 100) (13 * 0 + 10) 0) (13 * 0 + 11) 500) (13 * 0 + 12) 500))), (a15, .inl (cI, 10, .inl (fun _ => 0))), (a23, .inl (cI, 12, .inl (fun _ => 0))), (a31, .inl (cI, 12, .inl (fun _ => 0)))] := hD
  have hP : va_P D vwCl [(mo, .inr (6, [.ref a7, .double 0, .double 0, .double 0, .double 0, .double 0, .double 0, .double 0, .double 0, .double 0, .double 0, .int 0, .int 0, .int 0, .int 0, .int 0, .int ((nI 0)), .ref a15, .int ((nI 0)), .ref a23, .ref a31, .double 0])), (a7, .inl (cI, 52, .inl (iniN (fun _ => 0) 0))), (a15, .inl (cI, 10, .inl (fun _ => 0))), (a23, .inl (cI, 12, .inl (fun _ => 0))), (a31, .inl (cI, 12, .inl (fun _ => 0)))] H := hP
  have hD : va_D A [(mo, .inr (6, [.ref a7, .double 0, .double 0, .double 0, .double 0, .double 0, .double 0, .double 0, .double 0, .double 0, .double 0, .int 0, .int 0, .int 0, .int 0, .int 0, .int ((nI 0)), .ref a15, .int ((nI 0)), .ref a23, .ref a31, .double 0])), (a7, .inl (cI, 52, .inl (iniN (fun _ => 0) 0))), (a15, .inl (cI, 10, .inl (fun _ => 0))), (a23, .inl (cI, 12, .inl (fun _ => 0))), (a31, .inl (cI, 12, .inl (fun _ => 0)))] := hD
  obtain ⟨n9_0, en9_0⟩ : ∃ y9 : Nat → Int32, y9 = iniN (fun _ => 0) 0 := ⟨_, rfl⟩
  rw [← en9_0] at hP hD
  refine lv_iinc (v := 1) (lv' := [(1, .int 1), (0, .ref mo)]) hx hb dX7_init_135 hl (k := 0) rfl (by decide) (by decide) rfl (fun ls hl => ?_)
  refine lv_goto (tgt := 38) hx hb dX7_init_138 (by decide) ?_
  refine lv_iload_n hx hb dX7_init_38 rfl (lv_at hl 0 rfl) ?_
  refine lv_iconst (v := 4) hx hb dX7_init_39 (by decide) ?_
  refine lv_icmp_ge (tgt := 141) hx hb dX7_init_40 (by decide) (fun c5 => absurd c5 (by decide)) (fun _ => ?_)
  refine lv_aload_n hx hb dX7_init_43 rfl (lv_at hl 1 rfl) ?_
  refine lv_iload_n hx hb dX7_init_44 rfl (lv_at hl 0 rfl) ?_
  rw [show (1 : Int32) = nI 1 from by decide +kernel]
  refine lv_iconst (v := 0) hx hb dX7_init_45 (by decide) ?_
  refine lv_sipush (v := 300) hx hb dX7_init_46 (by decide) ?_
  refine lv_iconst (v := 0) hx hb dX7_init_49 (by decide) ?_
  refine lv_iconst (v := 0) hx hb dX7_init_50 (by decide) ?_
  refine lv_sipush (v := 300) hx hb dX7_init_51 (by decide) ?_
  refine lv_sipush (v := 400) hx hb dX7_init_54 (by decide) ?_
  refine lv_sipush (v := 300) hx hb dX7_init_57 (by decide) ?_
  refine lv_iconst (v := 1) hx hb dX7_init_60 (by decide) ?_
  have hq6 : va_P D vwCl [(a7, .inl (cI, 52, .inl n9_0)), (mo, .inr (6, [.ref a7, .double 0, .double 0, .double 0, .double 0, .double 0, .double 0, .double 0, .double 0, .double 0, .double 0, .int 0, .int 0, .int 0, .int 0, .int 0, .int ((nI 0)), .ref a15, .int ((nI 0)), .ref a23, .ref a31, .double 0]))] H := hP.sub [1, 0] rfl
  refine va_callv (va_runV (As := [.int (nI 1), .int 0, .int 300, .int 0, .int 0, .int 300, .int 400, .int 300, .int 1]) (rest := []) ⟨hx, hb, hml, hown, hts⟩ (mX7_lays l D cI cH mo a7 a15 a23 a31 0 0 1 n9_0 0 0 0 0 0 0 0 0 0 0 0 0 0 0 0 0 0 300 0 0 300 400 300 1 (by decide) hmn) (cwV 9 hts gX7_init_X7_lays rfl rfl rfl (by decide +kernel) ⟨Nat.le_of_ble_eq_true rfl, Nat.le_of_ble_eq_true rfl⟩) ⟨kB_blind, va_recv hw.1 hq6 (ci := 6) (q0 := 1) rfl rfl, kB_go hq6 hw⟩ rfl rfl hl.1 rfl (lv_room (Nat.le_of_ble_eq_true rfl)) dX7_init_61 ⟨Nat.le_of_ble_eq_true rfl, Nat.le_of_ble_eq_true rfl⟩) hS (fun q9 _ h9 => h9 ▸ hD.2 1 _ rfl) (fun q9 h9 => h9 ▸ hD.2 1 _ rfl) (fun u t H9 locs ht hvm hp hB hz1 hk1 hS => ?_)
  subst hp
  have hB : va_at D vwCl (a7, .inl (cI, 52, .inl (layN n9_0 1 0 300 0 0 300 400 300 1))) t.heap := hB
  rw [ht] at hB
  have hP : va_P D vwCl [(mo, .inr (6, [.ref a7, .double 0, .double 0, .double 0, .double 0, .double 0, .double 0, .double 0, .double 0, .double 0, .double 0, .int 0, .int 0, .int 0, .int 0, .int 0, .int ((nI 0)), .ref a15, .int ((nI 0)), .ref a23, .ref a31, .double 0])), (a7, .inl (cI, 52, .inl (layN n9_0 1 0 300 0 0 300 400 300 1))), (a15, .inl (cI, 10, .inl (fun _ => 0))), (a23, .inl (cI, 12, .inl (fun _ => 0))), (a31, .inl (cI, 12, .inl (fun _ => 0)))] H9 := fr_cons (va_at.kept (hP 0 _ rfl) (hk1 _ (va_at_lt (hP 0 _ rfl)) (D_ne hD 0 1 rfl rfl (by decide)))) (fr_cons hB (fr_cons (va_at.kept (hP 2 _ rfl) (hk1 _ (va_at_lt (hP 2 _ rfl)) (D_ne hD 2 1 rfl rfl (by decide)))) (fr_cons (va_at.kept (hP 3 _ rfl) (hk1 _ (va_at_lt (hP 3 _ rfl)) (D_ne hD 3 1 rfl rfl (by decide)))) (fr_cons (va_at.kept (hP 4 _ rfl) (hk1 _ (va_at_lt (hP 4 _ rfl)) (D_ne hD 4 1 rfl rfl (by decide)))) (fr_nil)))))
  have hD : va_D A [(mo, .inr (6, [.ref a7, .double 0, .double 0, .double 0, .double 0, .double 0, .double 0, .double 0, .double 0, .double 0, .double 0, .int 0, .int 0, .int 0, .int 0, .int 0, .int ((nI 0)), .ref a15, .int ((nI 0)), .ref a23, .ref a31, .double 0])), (a7, .inl (cI, 52, .inl (layN n9_0 1 0 300 0 0 300 400 300 1))), (a15, .inl (cI, 10, .inl (fun _ => 0))), (a23, .inl (cI, 12, .inl (fun _ => 0))), (a31, .inl (cI, 12, .inl (fun _ => 0)))] := hD.set (p := 1) rfl
  clear hk1 hB hq6
  generalize H9 = H at hP hS ⊢
  refine lv_aload_n hx hb dX7_init_64 rfl (lv_at hl 1 rfl) ?_
  refine va_get (D := D) (ci := 6) (v := .ref a7) (C := RX7) (T := TX7) (N := 22) hx hb hts hinX7 hown hw.1 hP 0 rfl rfl 0 (by decide) (hts (.fieldLink RX7 19 "WheelSwingModel" "number" "[I") (by decide +kernel)) (fun _ h9 => h9) rfl dX7_init_65 ?_
  refine lv_bipush (v := 13) hx hb dX7_init_68 (by decide) ?_
  refine lv_iload_n hx hb dX7_init_70 rfl (lv_at hl 0 rfl) ?_
  refine lv_imul hx hb dX7_init_71 ?_
  refine lv_bipush (v := 8) hx hb dX7_init_72 (by decide) ?_
  refine lv_iadd hx hb dX7_init_74 ?_
  rw [show ((13 * 1) + 8 : Int32) = nI 21 from by decide +kernel]
  refine lv_bipush (v := (-100)) hx hb dX7_init_75 (by decide) ?_
  refine va_iast hx hb hw.1 hP hD hS 1 0 rfl rfl (vp_in_nI (n := 21) (by decide) (by decide)) dX7_init_77 (fun H locs hP hD hS => ?_)
  rw [nI_clamp (n := 21) (by decide)] at hP hD
  have hP : va_P D vwCl [(mo, .inr (6, [.ref a7, .double 0, .double 0, .double 0, .double 0, .double 0, .double 0, .double 0, .double 0, .double 0, .double 0, .int 0, .int 0, .int 0, .int 0, .int 0, .int ((nI 0)), .ref a15, .int ((nI 0)), .ref a23, .ref a31, .double 0])), (a7, .inl (cI, 52, .inl (upd (layN n9_0 1 0 300 0 0 300 400 300 1) (13 * 1 + 8) ((-100))))), (a15, .inl (cI, 10, .inl (fun _ => 0))), (a23, .inl (cI, 12, .inl (fun _ => 0))), (a31, .inl (cI, 12, .inl (fun _ => 0)))] H := hP
  have hD : va_D A [(mo, .inr (6, [.ref a7, .double 0, .double 0, .double 0, .double 0, .double 0, .double 0, .double 0, .double 0, .double 0, .double 0, .int 0, .int 0, .int 0, .int 0, .int 0, .int ((nI 0)), .ref a15, .int ((nI 0)), .ref a23, .ref a31, .double 0])), (a7, .inl (cI, 52, .inl (upd (layN n9_0 1 0 300 0 0 300 400 300 1) (13 * 1 + 8) ((-100))))), (a15, .inl (cI, 10, .inl (fun _ => 0))), (a23, .inl (cI, 12, .inl (fun _ => 0))), (a31, .inl (cI, 12, .inl (fun _ => 0)))] := hD
  refine lv_aload_n hx hb dX7_init_78 rfl (lv_at hl 1 rfl) ?_
  refine va_get (D := D) (ci := 6) (v := .ref a7) (C := RX7) (T := TX7) (N := 22) hx hb hts hinX7 hown hw.1 hP 0 rfl rfl 0 (by decide) (hts (.fieldLink RX7 19 "WheelSwingModel" "number" "[I") (by decide +kernel)) (fun _ h9 => h9) rfl dX7_init_79 ?_
  refine lv_bipush (v := 13) hx hb dX7_init_82 (by decide) ?_
  refine lv_iload_n hx hb dX7_init_84 rfl (lv_at hl 0 rfl) ?_
  refine lv_imul hx hb dX7_init_85 ?_
  refine lv_bipush (v := 9) hx hb dX7_init_86 (by decide) ?_
  refine lv_iadd hx hb dX7_init_88 ?_
  rw [show ((13 * 1) + 9 : Int32) = nI 22 from by decide +kernel]
  refine lv_bipush (v := 100) hx hb dX7_init_89 (by decide) ?_
  refine va_iast hx hb hw.1 hP hD hS 1 0 rfl rfl (vp_in_nI (n := 22) (by decide) (by decide)) dX7_init_91 (fun H locs hP hD hS => ?_)
  rw [nI_clamp (n := 22) (by decide)] at hP hD
  have hP : va_P D vwCl [(mo, .inr (6, [.ref a7, .double 0, .double 0, .double 0, .double 0, .double 0, .double 0, .double 0, .double 0, .double 0, .double 0, .int 0, .int 0, .int 0, .int 0, .int 0, .int ((nI 0)), .ref a15, .int ((nI 0)), .ref a23, .ref a31, .double 0])), (a7, .inl (cI, 52, .inl (upd (upd (layN n9_0 1 0 300 0 0 300 400 300 1) (13 * 1 + 8) ((-100))) (13 * 1 + 9) 100))), (a15, .inl (cI, 10, .inl (fun _ => 0))), (a23, .inl (cI, 12, .inl (fun _ => 0))), (a31, .inl (cI, 12, .inl (fun _ => 0)))] H := hP
  have hD : va_D A [(mo, .inr (6, [.ref a7, .double 0, .double 0, .double 0, .double 0, .double 0, .double 0, .double 0, .double 0, .double 0, .double 0, .int 0, .int 0, .int 0, .int 0, .int 0, .int ((nI 0)), .ref a15, .int ((nI 0)), .ref a23, .ref a31, .double 0])), (a7, .inl (cI, 52, .inl (upd (upd (layN n9_0 1 0 300 0 0 300 400 300 1) (13 * 1 + 8) ((-100))) (13 * 1 + 9) 100))), (a15, .inl (cI, 10, .inl (fun _ => 0))), (a23, .inl (cI, 12, .inl (fun _ => 0))), (a31, .inl (cI, 12, .inl (fun _ => 0)))] := hD
  refine lv_aload_n hx hb dX7_init_92 rfl (lv_at hl 1 rfl) ?_
  refine va_get (D := D) (ci := 6) (v := .ref a7) (C := RX7) (T := TX7) (N := 22) hx hb hts hinX7 hown hw.1 hP 0 rfl rfl 0 (by decide) (hts (.fieldLink RX7 19 "WheelSwingModel" "number" "[I") (by decide +kernel)) (fun _ h9 => h9) rfl dX7_init_93 ?_
  refine lv_bipush (v := 13) hx hb dX7_init_96 (by decide) ?_
  refine lv_iload_n hx hb dX7_init_98 rfl (lv_at hl 0 rfl) ?_
  refine lv_imul hx hb dX7_init_99 ?_
  refine lv_bipush (v := 10) hx hb dX7_init_100 (by decide) ?_
  refine lv_iadd hx hb dX7_init_102 ?_
  rw [show ((13 * 1) + 10 : Int32) = nI 23 from by decide +kernel]
  refine lv_iconst (v := 0) hx hb dX7_init_103 (by decide) ?_
  refine va_iast hx hb hw.1 hP hD hS 1 0 rfl rfl (vp_in_nI (n := 23) (by decide) (by decide)) dX7_init_104 (fun H locs hP hD hS => ?_)
  rw [nI_clamp (n := 23) (by decide)] at hP hD
  have hP : va_P D vwCl [(mo, .inr (6, [.ref a7, .double 0, .double 0, .double 0, .double 0, .double 0, .double 0, .double 0, .double 0, .double 0, .double 0, .int 0, .int 0, .int 0, .int 0, .int 0, .int ((nI 0)), .ref a15, .int ((nI 0)), .ref a23, .ref a31, .double 0])), (a7, .inl (cI, 52, .inl (upd (upd (upd (layN n9_0 1 0 300 0 0 300 400 300 1) (13 * 1 + 8) ((-100))) (13 * 1 + 9) 100) (13 * 1 + 10) 0))), (a15, .inl (cI, 10, .inl (fun _ => 0))), (a23, .inl (cI, 12, .inl (fun _ => 0))), (a31, .inl (cI, 12, .inl (fun _ => 0)))] H := hP
  have hD : va_D A [(mo, .inr (6, [.ref a7, .double 0, .double 0, .double 0, .double 0, .double 0, .double 0, .double 0, .double 0, .double 0, .double 0, .int 0, .int 0, .int 0, .int 0, .int 0, .int ((nI 0)), .ref a15, .int ((nI 0)), .ref a23, .ref a31, .double 0])), (a7, .inl (cI, 52, .inl (upd (upd (upd (layN n9_0 1 0 300 0 0 300 400 300 1) (13 * 1 + 8) ((-100))) (13 * 1 + 9) 100) (13 * 1 + 10) 0))), (a15, .inl (cI, 10, .inl (fun _ => 0))), (a23, .inl (cI, 12, .inl (fun _ => 0))), (a31, .inl (cI, 12, .inl (fun _ => 0)))] := hD
  refine lv_aload_n hx hb dX7_init_105 rfl (lv_at hl 1 rfl) ?_
  refine va_get (D := D) (ci := 6) (v := .ref a7) (C := RX7) (T := TX7) (N := 22) hx hb hts hinX7 hown hw.1 hP 0 rfl rfl 0 (by decide) (hts (.fieldLink RX7 19 "WheelSwingModel" "number" "[I") (by decide +kernel)) (fun _ h9 => h9) rfl dX7_init_106 ?_
  refine lv_bipush (v := 13) hx hb dX7_init_109 (by decide) ?_
  refine lv_iload_n hx hb dX7_init_111 rfl (lv_at hl 0 rfl) ?_
  refine lv_imul hx hb dX7_init_112 ?_
  refine lv_bipush (v := 11) hx hb dX7_init_113 (by decide) ?_
  refine lv_iadd hx hb dX7_init_115 ?_
  rw [show ((13 * 1) + 11 : Int32) = nI 24 from by decide +kernel]
  refine lv_sipush (v := 500) hx hb dX7_init_116 (by decide) ?_
  refine va_iast hx hb hw.1 hP hD hS 1 0 rfl rfl (vp_in_nI (n := 24) (by decide) (by decide)) dX7_init_119 (fun H locs hP hD hS => ?_)
  rw [nI_clamp (n := 24) (by decide)] at hP hD
  have hP : va_P D vwCl [(mo, .inr (6, [.ref a7, .double 0, .double 0, .double 0, .double 0, .double 0, .double 0, .double 0, .double 0, .double 0, .double 0, .int 0, .int 0, .int 0, .int 0, .int 0, .int ((nI 0)), .ref a15, .int ((nI 0)), .ref a23, .ref a31, .double 0])), (a7, .inl (cI, 52, .inl (upd (upd (upd (upd (layN n9_0 1 0 300 0 0 300 400 300 1) (13 * 1 + 8) ((-100))) (13 * 1 + 9) 100) (13 * 1 + 10) 0) (13 * 1 + 11) 500))), (a15, .inl (cI, 10, .inl (fun _ => 0))), (a23, .inl (cI, 12, .inl (fun _ => 0))), (a31, .inl (cI, 12, .inl (fun _ => 0)))] H := hP
  have hD : va_D A [(mo, .inr (6, [.ref a7, .double 0, .double 0, .double 0, .double 0, .double 0, .double 0, .double 0, .double 0, .double 0, .double 0, .int 0, .int 0, .int 0, .int 0, .int 0, .int ((nI 0)), .ref a15, .int ((nI 0)), .ref a23, .ref a31, .double 0])), (a7, .inl (cI, 52, .inl (upd (upd (upd (upd (layN n9_0 1 0 300 0 0 300 400 300 1) (13 * 1 + 8) ((-100))) (13 * 1 + 9) 100) (13 * 1 + 10) 0) (13 * 1 + 11) 500))), (a15, .inl (cI, 10, .inl (fun _ => 0))), (a23, .inl (cI, 12, .inl (fun _ => 0))), (a31, .inl (cI, 12, .inl (fun _ => 0)))] := hD
  refine lv_aload_n hx hb dX7_init_120 rfl (lv_at hl 1 rfl) ?_
  refine va_get (D := D) (ci := 6) (v := .ref a7) (C := RX7) (T := TX7) (N := 22) hx hb hts hinX7 hown hw.1 hP 0 rfl rfl 0 (by decide) (hts (.fieldLink RX7 19 "WheelSwingModel" "number" "[I") (by decide +kernel)) (fun _ h9 => h9) rfl dX7_init_121 ?_
  refine lv_bipush (v := 13) hx hb dX7_init_124 (by decide) ?_
  refine lv_iload_n hx hb dX7_init_126 rfl (lv_at hl 0 rfl) ?_
  refine lv_imul hx hb dX7_init_127 ?_
  refine lv_bipush (v := 12) hx hb dX7_init_128 (by decide) ?_
  refine lv_iadd hx hb dX7_init_130 ?_
  rw [show ((13 * 1) + 12 : Int32) = nI 25 from by decide +kernel]
  refine lv_sipush (v := 500) hx hb dX7_init_131 (by decide) ?_
  refine va_iast hx hb hw.1 hP hD hS 1 0 rfl rfl (vp_in_nI (n := 25) (by decide) (by decide)) dX7_init_134 (fun H locs hP hD hS => ?_)
  rw [nI_clamp (n := 25) (by decide)] at hP hD
  have hP : va_P D vwCl [(mo, .inr (6, [.ref a7, .double 0, .double 0, .double 0, .double 0, .double 0, .double 0, .double 0, .double 0, .double 0, .double 0, .int 0, .int 0, .int 0, .int 0, .int 0, .int ((nI 0)), .ref a15, .int ((nI 0)), .ref a23, .ref a31, .double 0])), (a7, .inl (cI, 52, .inl (upd (upd (upd (upd (upd (layN n9_0 1 0 300 0 0 300 400 300 1) (13 * 1 + 8) ((-100))) (13 * 1 + 9) 100) (13 * 1 + 10) 0) (13 * 1 + 11) 500) (13 * 1 + 12) 500))), (a15, .inl (cI, 10, .inl (fun _ => 0))), (a23, .inl (cI, 12, .inl (fun _ => 0))), (a31, .inl (cI, 12, .inl (fun _ => 0)))] H := hP
  have hD : va_D A [(mo, .inr (6, [.ref a7, .double 0, .double 0, .double 0, .double 0, .double 0, .double 0, .double 0, .double 0, .double 0, .double 0, .int 0, .int 0, .int 0, .int 0, .int 0, .int ((nI 0)), .ref a15, .int ((nI 0)), .ref a23, .ref a31, .double 0])), (a7, .inl (cI, 52, .inl (upd (upd (upd (upd (upd (layN n9_0 1 0 300 0 0 300 400 300 1) (13 * 1 + 8) ((-100))) (13 * 1 + 9) 100) (13 * 1 + 10) 0) (13 * 1 + 11) 500) (13 * 1 + 12) 500))), (a15, .inl (cI, 10, .inl (fun _ => 0))), (a23, .inl (cI, 12, .inl (fun _ => 0))), (a31, .inl (cI, 12, .inl (fun _ => 0)))] := hD
  have hP : va_P D vwCl [(mo, .inr (6, [.ref a7, .double 0, .double 0, .double 0, .double 0, .double 0, .double 0, .double 0, .double 0, .double 0, .double 0, .int 0, .int 0, .int 0, .int 0, .int 0, .int ((nI 0)), .ref a15, .int ((nI 0)), .ref a23, .ref a31, .double 0])), (a7, .inl (cI, 52, .inl (iniN n9_0 1))), (a15, .inl (cI, 10, .inl (fun _ => 0))), (a23, .inl (cI, 12, .inl (fun _ => 0))), (a31, .inl (cI, 12, .inl (fun _ => 0)))] H := hP
  have hD : va_D A [(mo, .inr (6, [.ref a7, .double 0, .double 0, .double 0, .double 0, .double 0, .double 0, .double 0, .double 0, .double 0, .double 0, .int 0, .int 0, .int 0, .int 0, .int 0, .int ((nI 0)), .ref a15, .int ((nI 0)), .ref a23, .ref a31, .double 0])), (a7, .inl (cI, 52, .inl (iniN n9_0 1))), (a15, .inl (cI, 10, .inl (fun _ => 0))), (a23, .inl (cI, 12, .inl (fun _ => 0))), (a31, .inl (cI, 12, .inl (fun _ => 0)))] := hD
  obtain ⟨n9_1, en9_1⟩ : ∃ y9 : Nat → Int32, y9 = iniN n9_0 1 := ⟨_, rfl⟩
  rw [← en9_1] at hP hD
  refine lv_iinc (v := 2) (lv' := [(1, .int 2), (0, .ref mo)]) hx hb dX7_init_135 hl (k := 0) rfl (by decide) (by decide) rfl (fun ls hl => ?_)
  refine lv_goto (tgt := 38) hx hb dX7_init_138 (by decide) ?_
  refine lv_iload_n hx hb dX7_init_38 rfl (lv_at hl 0 rfl) ?_
  refine lv_iconst (v := 4) hx hb dX7_init_39 (by decide) ?_
  refine lv_icmp_ge (tgt := 141) hx hb dX7_init_40 (by decide) (fun c8 => absurd c8 (by decide)) (fun _ => ?_)
  refine lv_aload_n hx hb dX7_init_43 rfl (lv_at hl 1 rfl) ?_
  refine lv_iload_n hx hb dX7_init_44 rfl (lv_at hl 0 rfl) ?_
  rw [show (2 : Int32) = nI 2 from by decide +kernel]
  refine lv_iconst (v := 0) hx hb dX7_init_45 (by decide) ?_
  refine lv_sipush (v := 300) hx hb dX7_init_46 (by decide) ?_
  refine lv_iconst (v := 0) hx hb dX7_init_49 (by decide) ?_
  refine lv_iconst (v := 0) hx hb dX7_init_50 (by decide) ?_
  refine lv_sipush (v := 300) hx hb dX7_init_51 (by decide) ?_
  refine lv_sipush (v := 400) hx hb dX7_init_54 (by decide) ?_
  refine lv_sipush (v := 300) hx hb dX7_init_57 (by decide) ?_
  refine lv_iconst (v := 1) hx hb dX7_init_60 (by decide) ?_
  have hq9 : va_P D vwCl [(a7, .inl (cI, 52, .inl n9_1)), (mo, .inr (6, [.ref a7, .double 0, .double 0, .double 0, .double 0, .double 0, .double 0, .double 0, .double 0, .double 0, .double 0, .int 0, .int 0, .int 0, .int 0, .int 0, .int ((nI 0)), .ref a15, .int ((nI 0)), .ref a23, .ref a31, .double 0]))] H := hP.sub [1, 0] rfl
  refine va_callv (va_runV (As := [.int (nI 2), .int 0, .int 300, .int 0, .int 0, .int 300, .int 400, .int 300, .int 1]) (rest := []) ⟨hx, hb, hml, hown, hts⟩ (mX7_lays l D cI cH mo a7 a15 a23 a31 0 0 2 n9_1 0 0 0 0 0 0 0 0 0 0 0 0 0 0 0 0 0 300 0 0 300 400 300 1 (by decide) hmn) (cwV 9 hts gX7_init_X7_lays rfl rfl rfl (by decide +kernel) ⟨Nat.le_of_ble_eq_true rfl, Nat.le_of_ble_eq_true rfl⟩) ⟨kB_blind, va_recv hw.1 hq9 (ci := 6) (q0 := 1) rfl rfl, kB_go hq9 hw⟩ rfl rfl hl.1 rfl (lv_room (Nat.le_of_ble_eq_true rfl)) dX7_init_61 ⟨Nat.le_of_ble_eq_true rfl, Nat.le_of_ble_eq_true rfl⟩) hS (fun q9 _ h9 => h9 ▸ hD.2 1 _ rfl) (fun q9 h9 => h9 ▸ hD.2 1 _ rfl) (fun u t H9 locs ht hvm hp hB hz1 hk1 hS => ?_)
  subst hp
  have hB : va_at D vwCl (a7, .inl (cI, 52, .inl (layN n9_1 2 0 300 0 0 300 400 300 1))) t.heap := hB
  rw [ht] at hB
  have hP : va_P D vwCl [(mo, .inr (6, [.ref a7, .double 0, .double 0, .double 0, .double 0, .double 0, .double 0, .double 0, .double 0, .double 0, .double 0, .int 0, .int 0, .int 0, .int 0, .int 0, .int ((nI 0)), .ref a15, .int ((nI 0)), .ref a23, .ref a31, .double 0])), (a7, .inl (cI, 52, .inl (layN n9_1 2 0 300 0 0 300 400 300 1))), (a15, .inl (cI, 10, .inl (fun _ => 0))), (a23, .inl (cI, 12, .inl (fun _ => 0))), (a31, .inl (cI, 12, .inl (fun _ => 0)))] H9 := fr_cons (va_at.kept (hP 0 _ rfl) (hk1 _ (va_at_lt (hP 0 _ rfl)) (D_ne hD 0 1 rfl rfl (by decide)))) (fr_cons hB (fr_cons (va_at.kept (hP 2 _ rfl) (hk1 _ (va_at_lt (hP 2 _ rfl)) (D_ne hD 2 1 rfl rfl (by decide)))) (fr_cons (va_at.kept (hP 3 _ rfl) (hk1 _ (va_at_lt (hP 3 _ rfl)) (D_ne hD 3 1 rfl rfl (by decide)))) (fr_cons (va_at.kept (hP 4 _ rfl) (hk1 _ (va_at_lt (hP 4 _ rfl)) (D_ne hD 4 1 rfl rfl (by decide)))) (fr_nil)))))
  have hD : va_D A [(mo, .inr (6, [.ref a7, .double 0, .double 0, .double 0, .double 0, .double 0, .double 0, .double 0, .double 0, .double 0, .double 0, .int 0, .int 0, .int 0, .int 0, .int 0, .int ((nI 0)), .ref a15, .int ((nI 0)), .ref a23, .ref a31, .double 0])), (a7, .inl (cI, 52, .inl (layN n9_1 2 0 300 0 0 300 400 300 1))), (a15, .inl (cI, 10, .inl (fun _ => 0))), (a23, .inl (cI, 12, .inl (fun _ => 0))), (a31, .inl (cI, 12, .inl (fun _ => 0)))] := hD.set (p := 1) rfl
  clear hk1 hB hq9
  generalize H9 = H at hP hS ⊢
  refine lv_aload_n hx hb dX7_init_64 rfl (lv_at hl 1 rfl) ?_
  refine va_get (D := D) (ci := 6) (v := .ref a7) (C := RX7) (T := TX7) (N := 22) hx hb hts hinX7 hown hw.1 hP 0 rfl rfl 0 (by decide) (hts (.fieldLink RX7 19 "WheelSwingModel" "number" "[I") (by decide +kernel)) (fun _ h9 => h9) rfl dX7_init_65 ?_
  refine lv_bipush (v := 13) hx hb dX7_init_68 (by decide) ?_
  refine lv_iload_n hx hb dX7_init_70 rfl (lv_at hl 0 rfl) ?_
  refine lv_imul hx hb dX7_init_71 ?_
  refine lv_bipush (v := 8) hx hb dX7_init_72 (by decide) ?_
  refine lv_iadd hx hb dX7_init_74 ?_
  rw [show ((13 * 2) + 8 : Int32) = nI 34 from by decide +kernel]
  refine lv_bipush (v := (-100)) hx hb dX7_init_75 (by decide) ?_
  refine va_iast hx hb hw.1 hP hD hS 1 0 rfl rfl (vp_in_nI (n := 34) (by decide) (by decide)) dX7_init_77 (fun H locs hP hD hS => ?_)
  rw [nI_clamp (n := 34) (by decide)] at hP hD
  have hP : va_P D vwCl [(mo, .inr (6, [.ref a7, .double 0, .double 0, .double 0, .double 0, .double 0, .double 0, .double 0, .double 0, .double 0, .double 0, .int 0, .int 0, .int 0, .int 0, .int 0, .int ((nI 0)), .ref a15, .int ((nI 0)), .ref a23, .ref a31, .double 0])), (a7, .inl (cI, 52, .inl (upd (layN n9_1 2 0 300 0 0 300 400 300 1) (13 * 2 + 8) ((-100))))), (a15, .inl (cI, 10, .inl (fun _ => 0))), (a23, .inl (cI, 12, .inl (fun _ => 0))), (a31, .inl (cI, 12, .inl (fun _ => 0)))] H := hP
  have hD : va_D A [(mo, .inr (6, [.ref a7, .double 0, .double 0, .double 0, .double 0, .double 0, .double 0, .double 0, .double 0, .double 0, .double 0, .int 0, .int 0, .int 0, .int 0, .int 0, .int ((nI 0)), .ref a15, .int ((nI 0)), .ref a23, .ref a31, .double 0])), (a7, .inl (cI, 52, .inl (upd (layN n9_1 2 0 300 0 0 300 400 300 1) (13 * 2 + 8) ((-100))))), (a15, .inl (cI, 10, .inl (fun _ => 0))), (a23, .inl (cI, 12, .inl (fun _ => 0))), (a31, .inl (cI, 12, .inl (fun _ => 0)))] := hD
  refine lv_aload_n hx hb dX7_init_78 rfl (lv_at hl 1 rfl) ?_
  refine va_get (D := D) (ci := 6) (v := .ref a7) (C := RX7) (T := TX7) (N := 22) hx hb hts hinX7 hown hw.1 hP 0 rfl rfl 0 (by decide) (hts (.fieldLink RX7 19 "WheelSwingModel" "number" "[I") (by decide +kernel)) (fun _ h9 => h9) rfl dX7_init_79 ?_
  refine lv_bipush (v := 13) hx hb dX7_init_82 (by decide) ?_
  refine lv_iload_n hx hb dX7_init_84 rfl (lv_at hl 0 rfl) ?_
  refine lv_imul hx hb dX7_init_85 ?_
  refine lv_bipush (v := 9) hx hb dX7_init_86 (by decide) ?_
  refine lv_iadd hx hb dX7_init_88 ?_
  rw [show ((13 * 2) + 9 : Int32) = nI 35 from by decide +kernel]
  refine lv_bipush (v := 100) hx hb dX7_init_89 (by decide) ?_
  refine va_iast hx hb hw.1 hP hD hS 1 0 rfl rfl (vp_in_nI (n := 35) (by decide) (by decide)) dX7_init_91 (fun H locs hP hD hS => ?_)
  rw [nI_clamp (n := 35) (by decide)] at hP hD
  have hP : va_P D vwCl [(mo, .inr (6, [.ref a7, .double 0, .double 0, .double 0, .double 0, .double 0, .double 0, .double 0, .double 0, .double 0, .double 0, .int 0, .int 0, .int 0, .int 0, .int 0, .int ((nI 0)), .ref a15, .int ((nI 0)), .ref a23, .ref a31, .double 0])), (a7, .inl (cI, 52, .inl (upd (upd (layN n9_1 2 0 300 0 0 300 400 300 1) (13 * 2 + 8) ((-100))) (13 * 2 + 9) 100))), (a15, .inl (cI, 10, .inl (fun _ => 0))), (a23, .inl (cI, 12, .inl (fun _ => 0))), (a31, .inl (cI, 12, .inl (fun _ => 0)))] H := hP
  have hD : va_D A [(mo, .inr (6, [.ref a7, .double 0, .double 0, .double 0, .double 0, .double 0, .double 0, .double 0, .double 0, .double 0, .double 0, .int 0, .int 0, .int 0, .int 0, .int 0, .int ((nI 0)), .ref a15, .int ((nI 0)), .ref a23, .ref a31, .double 0])), (a7, .inl (cI, 52, .inl (upd (upd (layN n9_1 2 0 300 0 0 300 400 300 1) (13 * 2 + 8) ((-100))) (13 * 2 + 9) 100))), (a15, .inl (cI, 10, .inl (fun _ => 0))), (a23, .inl (cI, 12, .inl (fun _ => 0))), (a31, .inl (cI, 12, .inl (fun _ => 0)))] := hD
  refine lv_aload_n hx hb dX7_init_92 rfl (lv_at hl 1 rfl) ?_
  refine va_get (D := D) (ci := 6) (v := .ref a7) (C := RX7) (T := TX7) (N := 22) hx hb hts hinX7 hown hw.1 hP 0 rfl rfl 0 (by decide) (hts (.fieldLink RX7 19 "WheelSwingModel" "number" "[I") (by decide +kernel)) (fun _ h9 => h9) rfl dX7_init_93 ?_
  refine lv_bipush (v := 13) hx hb dX7_init_96 (by decide) ?_
  refine lv_iload_n hx hb dX7_init_98 rfl (lv_at hl 0 rfl) ?_
  refine lv_imul hx hb dX7_init_99 ?_
  refine lv_bipush (v := 10) hx hb dX7_init_100 (by decide) ?_
  refine lv_iadd hx hb dX7_init_102 ?_
  rw [show ((13 * 2) + 10 : Int32) = nI 36 from by decide +kernel]
  refine lv_iconst (v := 0) hx hb dX7_init_103 (by decide) ?_
  refine va_iast hx hb hw.1 hP hD hS 1 0 rfl rfl (vp_in_nI (n := 36) (by decide) (by decide)) dX7_init_104 (fun H locs hP hD hS => ?_)
  rw [nI_clamp (n := 36) (by decide)] at hP hD
  have hP : va_P D vwCl [(mo, .inr (6, [.ref a7, .double 0, .double 0, .double 0, .double 0, .double 0, .double 0, .double 0, .double 0, .double 0, .double 0, .int 0, .int 0, .int 0, .int 0, .int 0, .int ((nI 0)), .ref a15, .int ((nI 0)), .ref a23, .ref a31, .double 0])), (a7, .inl (cI, 52, .inl (upd (upd (upd (layN n9_1 2 0 300 0 0 300 400 300 1) (13 * 2 + 8) ((-100))) (13 * 2 + 9) 100) (13 * 2 + 10) 0))), (a15, .inl (cI, 10, .inl (fun _ => 0))), (a23, .inl (cI, 12, .inl (fun _ => 0))), (a31, .inl (cI, 12, .inl (fun _ => 0)))] H := hP
  have hD : va_D A [(mo, .inr (6, [.ref a7, .double 0, .double 0, .double 0, .double 0, .double 0, .double 0, .double 0, .double 0, .double 0, .double 0, .int 0, .int 0, .int 0, .int 0, .int 0, .int ((nI 0)), .ref a15, .int ((nI 0)), .ref a23, .ref a31, .double 0])), (a7, .inl (cI, 52, .inl (upd (upd (upd (layN n9_1 2 0 300 0 0 300 400 300 1) (13 * 2 + 8) ((-100))) (13 * 2 + 9) 100) (13 * 2 + 10) 0))), (a15, .inl (cI, 10, .inl (fun _ => 0))), (a23, .inl (cI, 12, .inl (fun _ => 0))), (a31, .inl (cI, 12, .inl (fun _ => 0)))] := hD
  refine lv_aload_n hx hb dX7_init_105 rfl (lv_at hl 1 rfl) ?_
  refine va_get (D := D) (ci := 6) (v := .ref a7) (C := RX7) (T := TX7) (N := 22) hx hb hts hinX7 hown hw.1 hP 0 rfl rfl 0 (by decide) (hts (.fieldLink RX7 19 "WheelSwingModel" "number" "[I") (by decide +kernel)) (fun _ h9 => h9) rfl dX7_init_106 ?_
  refine lv_bipush (v := 13) hx hb dX7_init_109 (by decide) ?_
  refine lv_iload_n hx hb dX7_init_111 rfl (lv_at hl 0 rfl) ?_
  refine lv_imul hx hb dX7_init_112 ?_
  refine lv_bipush (v := 11) hx hb dX7_init_113 (by decide) ?_
  refine lv_iadd hx hb dX7_init_115 ?_
  rw [show ((13 * 2) + 11 : Int32) = nI 37 from by decide +kernel]
  refine lv_sipush (v := 500) hx hb dX7_init_116 (by decide) ?_
  refine va_iast hx hb hw.1 hP hD hS 1 0 rfl rfl (vp_in_nI (n := 37) (by decide) (by decide)) dX7_init_119 (fun H locs hP hD hS => ?_)
  rw [nI_clamp (n := 37) (by decide)] at hP hD
  have hP : va_P D vwCl [(mo, .inr (6, [.ref a7, .double 0, .double 0, .double 0, .double 0, .double 0, .double 0, .double 0, .double 0, .double 0, .double 0, .int 0, .int 0, .int 0, .int 0, .int 0, .int ((nI 0)), .ref a15, .int ((nI 0)), .ref a23, .ref a31, .double 0])), (a7, .inl (cI, 52, .inl (upd (upd (upd (upd (layN n9_1 2 0 300 0 0 300 400 300 1) (13 * 2 + 8) ((-100))) (13 * 2 + 9) 100) (13 * 2 + 10) 0) (13 * 2 + 11) 500))), (a15, .inl (cI, 10, .inl (fun _ => 0))), (a23, .inl (cI, 12, .inl (fun _ => 0))), (a31, .inl (cI, 12, .inl (fun _ => 0)))] H := hP
  have hD : va_D A [(mo, .inr (6, [.ref a7, .double 0, .double 0, .double 0, .double 0, .double 0, .double 0, .double 0, .double 0, .double 0, .double 0, .int 0, .int 0, .int 0, .int 0, .int 0, .int ((nI 0)), .ref a15, .int ((nI 0)), .ref a23, .ref a31, .double 0])), (a7, .inl (cI, 52, .inl (upd (upd (upd (upd (layN n9_1 2 0 300 0 0 300 400 300 1) (13 * 2 + 8) ((-100))) (13 * 2 + 9) 100) (13 * 2 + 10) 0) (13 * 2 + 11) 500))), (a15, .inl (cI, 10, .inl (fun _ => 0))), (a23, .inl (cI, 12, .inl (fun _ => 0))), (a31, .inl (cI, 12, .inl (fun _ => 0)))] := hD
  refine lv_aload_n hx hb dX7_init_120 rfl (lv_at hl 1 rfl) ?_
  refine va_get (D := D) (ci := 6) (v := .ref a7) (C := RX7) (T := TX7) (N := 22) hx hb hts hinX7 hown hw.1 hP 0 rfl rfl 0 (by decide) (hts (.fieldLink RX7 19 "WheelSwingModel" "number" "[I") (by decide +kernel)) (fun _ h9 => h9) rfl dX7_init_121 ?_
  refine lv_bipush (v := 13) hx hb dX7_init_124 (by decide) ?_
  refine lv_iload_n hx hb dX7_init_126 rfl (lv_at hl 0 rfl) ?_
  refine lv_imul hx hb dX7_init_127 ?_
  refine lv_bipush (v := 12) hx hb dX7_init_128 (by decide) ?_
  refine lv_iadd hx hb dX7_init_130 ?_
  rw [show ((13 * 2) + 12 : Int32) = nI 38 from by decide +kernel]
  refine lv_sipush (v := 500) hx hb dX7_init_131 (by decide) ?_
  refine va_iast hx hb hw.1 hP hD hS 1 0 rfl rfl (vp_in_nI (n := 38) (by decide) (by decide)) dX7_init_134 (fun H locs hP hD hS => ?_)
  rw [nI_clamp (n := 38) (by decide)] at hP hD
  have hP : va_P D vwCl [(mo, .inr (6, [.ref a7, .double 0, .double 0, .double 0, .double 0, .double 0, .double 0, .double 0, .double 0, .double 0, .double 0, .int 0, .int 0, .int 0, .int 0, .int 0, .int ((nI 0)), .ref a15, .int ((nI 0)), .ref a23, .ref a31, .double 0])), (a7, .inl (cI, 52, .inl (upd (upd (upd (upd (upd (layN n9_1 2 0 300 0 0 300 400 300 1) (13 * 2 + 8) ((-100))) (13 * 2 + 9) 100) (13 * 2 + 10) 0) (13 * 2 + 11) 500) (13 * 2 + 12) 500))), (a15, .inl (cI, 10, .inl (fun _ => 0))), (a23, .inl (cI, 12, .inl (fun _ => 0))), (a31, .inl (cI, 12, .inl (fun _ => 0)))] H := hP
  have hD : va_D A [(mo, .inr (6, [.ref a7, .double 0, .double 0, .double 0, .double 0, .double 0, .double 0, .double 0, .double 0, .double 0, .double 0, .int 0, .int 0, .int 0, .int 0, .int 0, .int ((nI 0)), .ref a15, .int ((nI 0)), .ref a23, .ref a31, .double 0])), (a7, .inl (cI, 52, .inl (upd (upd (upd (upd (upd (layN n9_1 2 0 300 0 0 300 400 300 1) (13 * 2 + 8) ((-100))) (13 * 2 + 9) 100) (13 * 2 + 10) 0) (13 * 2 + 11) 500) (13 * 2 + 12) 500))), (a15, .inl (cI, 10, .inl (fun _ => 0))), (a23, .inl (cI, 12, .inl (fun _ => 0))), (a31, .inl (cI, 12, .inl (fun _ => 0)))] := hD
  have hP : va_P D vwCl [(mo, .inr (6, [.ref a7, .double 0, .double 0, .double 0, .double 0, .double 0, .double 0, .double 0, .double 0, .double 0, .double 0, .int 0, .int 0, .int 0, .int 0, .int 0, .int ((nI 0)), .ref a15, .int ((nI 0)), .ref a23, .ref a31, .double 0])), (a7, .inl (cI, 52, .inl (iniN n9_1 2))), (a15, .inl (cI, 10, .inl (fun _ => 0))), (a23, .inl (cI, 12, .inl (fun _ => 0))), (a31, .inl (cI, 12, .inl (fun _ => 0)))] H := hP
  have hD : va_D A [(mo, .inr (6, [.ref a7, .double 0, .double 0, .double 0, .double 0, .double 0, .double 0, .double 0, .double 0, .double 0, .double 0, .int 0, .int 0, .int 0, .int 0, .int 0, .int ((nI 0)), .ref a15, .int ((nI 0)), .ref a23, .ref a31, .double 0])), (a7, .inl (cI, 52, .inl (iniN n9_1 2))), (a15, .inl (cI, 10, .inl (fun _ => 0))), (a23, .inl (cI, 12, .inl (fun _ => 0))), (a31, .inl (cI, 12, .inl (fun _ => 0)))] := hD
  obtain ⟨n9_2, en9_2⟩ : ∃ y9 : Nat → Int32, y9 = iniN n9_1 2 := ⟨_, rfl⟩
  rw [← en9_2] at hP hD
  refine lv_iinc (v := 3) (lv' := [(1, .int 3), (0, .ref mo)]) hx hb dX7_init_135 hl (k := 0) rfl (by decide) (by decide) rfl (fun ls hl => ?_)
  refine lv_goto (tgt := 38) hx hb dX7_init_138 (by decide) ?_
  refine lv_iload_n hx hb dX7_init_38 rfl (lv_at hl 0 rfl) ?_
  refine lv_iconst (v := 4) hx hb dX7_init_39 (by decide) ?_
  refine lv_icmp_ge (tgt := 141) hx hb dX7_init_40 (by decide) (fun c11 => absurd c11 (by decide)) (fun _ => ?_)
  refine lv_aload_n hx hb dX7_init_43 rfl (lv_at hl 1 rfl) ?_
  refine lv_iload_n hx hb dX7_init_44 rfl (lv_at hl 0 rfl) ?_
  rw [show (3 : Int32) = nI 3 from by decide +kernel]
  refine lv_iconst (v := 0) hx hb dX7_init_45 (by decide) ?_
  refine lv_sipush (v := 300) hx hb dX7_init_46 (by decide) ?_
  refine lv_iconst (v := 0) hx hb dX7_init_49 (by decide) ?_
  refine lv_iconst (v := 0) hx hb dX7_init_50 (by decide) ?_
  refine lv_sipush (v := 300) hx hb dX7_init_51 (by decide) ?_
  refine lv_sipush (v := 400) hx hb dX7_init_54 (by decide) ?_
  refine lv_sipush (v := 300) hx hb dX7_init_57 (by decide) ?_
  refine lv_iconst (v := 1) hx hb dX7_init_60 (by decide) ?_
  have hq12 : va_P D vwCl [(a7, .inl (cI, 52, .inl n9_2)), (mo, .inr (6, [.ref a7, .double 0, .double 0, .double 0, .double 0, .double 0, .double 0, .double 0, .double 0, .double 0, .double 0, .int 0, .int 0, .int 0, .int 0, .int 0, .int ((nI 0)), .ref a15, .int ((nI 0)), .ref a23, .ref a31, .double 0]))] H := hP.sub [1, 0] rfl
  refine va_callv (va_runV (As := [.int (nI 3), .int 0, .int 300, .int 0, .int 0, .int 300, .int 400, .int 300, .int 1]) (rest := []) ⟨hx, hb, hml, hown, hts⟩ (mX7_lays l D cI cH mo a7 a15 a23 a31 0 0 3 n9_2 0 0 0 0 0 0 0 0 0 0 0 0 0 0 0 0 0 300 0 0 300 400 300 1 (by decide) hmn) (cwV 9 hts gX7_init_X7_lays rfl rfl rfl (by decide +kernel) ⟨Nat.le_of_ble_eq_true rfl, Nat.le_of_ble_eq_true rfl⟩) ⟨kB_blind, va_recv hw.1 hq12 (ci := 6) (q0 := 1) rfl rfl, kB_go hq12 hw⟩ rfl rfl hl.1 rfl (lv_room (Nat.le_of_ble_eq_true rfl)) dX7_init_61 ⟨Nat.le_of_ble_eq_true rfl, Nat.le_of_ble_eq_true rfl⟩) hS (fun q9 _ h9 => h9 ▸ hD.2 1 _ rfl) (fun q9 h9 => h9 ▸ hD.2 1 _ rfl) (fun u t H9 locs ht hvm hp hB hz1 hk1 hS => ?_)
  subst hp
  have hB : va_at D vwCl (a7, .inl (cI, 52, .inl (layN n9_2 3 0 300 0 0 300 400 300 1))) t.heap := hB
  rw [ht] at hB
  have hP : va_P D vwCl [(mo, .inr (6, [.ref a7, .double 0, .double 0, .double 0, .double 0, .double 0, .double 0, .double 0, .double 0, .double 0, .double 0, .int 0, .int 0, .int 0, .int 0, .int 0, .int ((nI 0)), .ref a15, .int ((nI 0)), .ref a23, .ref a31, .double 0])), (a7, .inl (cI, 52, .inl (layN n9_2 3 0 300 0 0 300 400 300 1))), (a15, .inl (cI, 10, .inl (fun _ => 0))), (a23, .inl (cI, 12, .inl (fun _ => 0))), (a31, .inl (cI, 12, .inl (fun _ => 0)))] H9 := fr_cons (va_at.kept (hP 0 _ rfl) (hk1 _ (va_at_lt (hP 0 _ rfl)) (D_ne hD 0 1 rfl rfl (by decide)))) (fr_cons hB (fr_cons (va_at.kept (hP 2 _ rfl) (hk1 _ (va_at_lt (hP 2 _ rfl)) (D_ne hD 2 1 rfl rfl (by decide)))) (fr_cons (va_at.kept (hP 3 _ rfl) (hk1 _ (va_at_lt (hP 3 _ rfl)) (D_ne hD 3 1 rfl rfl (by decide)))) (fr_cons (va_at.kept (hP 4 _ rfl) (hk1 _ (va_at_lt (hP 4 _ rfl)) (D_ne hD 4 1 rfl rfl (by decide)))) (fr_nil)))))
  have hD : va_D A [(mo, .inr (6, [.ref a7, .double 0, .double 0, .double 0, .double 0, .double 0, .double 0, .double 0, .double 0, .double 0, .double 0, .int 0, .int 0, .int 0, .int 0, .int 0, .int ((nI 0)), .ref a15, .int ((nI 0)), .ref a23, .ref a31, .double 0])), (a7, .inl (cI, 52, .inl (layN n9_2 3 0 300 0 0 300 400 300 1))), (a15, .inl (cI, 10, .inl (fun _ => 0))), (a23, .inl (cI, 12, .inl (fun _ => 0))), (a31, .inl (cI, 12, .inl (fun _ => 0)))] := hD.set (p := 1) rfl
  clear hk1 hB hq12
  generalize H9 = H at hP hS ⊢
  refine lv_aload_n hx hb dX7_init_64 rfl (lv_at hl 1 rfl) ?_
  refine va_get (D := D) (ci := 6) (v := .ref a7) (C := RX7) (T := TX7) (N := 22) hx hb hts hinX7 hown hw.1 hP 0 rfl rfl 0 (by decide) (hts (.fieldLink RX7 19 "WheelSwingModel" "number" "[I") (by decide +kernel)) (fun _ h9 => h9) rfl dX7_init_65 ?_
  refine lv_bipush (v := 13) hx hb dX7_init_68 (by decide) ?_
  refine lv_iload_n hx hb dX7_init_70 rfl (lv_at hl 0 rfl) ?_
  refine lv_imul hx hb dX7_init_71 ?_
  refine lv_bipush (v := 8) hx hb dX7_init_72 (by decide) ?_
  refine lv_iadd hx hb dX7_init_74 ?_
  rw [show ((13 * 3) + 8 : Int32) = nI 47 from by decide +kernel]
  refine lv_bipush (v := (-100)) hx hb dX7_init_75 (by decide) ?_
  refine va_iast hx hb hw.1 hP hD hS 1 0 rfl rfl (vp_in_nI (n := 47) (by decide) (by decide)) dX7_init_77 (fun H locs hP hD hS => ?_)
  rw [nI_clamp (n := 47) (by decide)] at hP hD
  have hP : va_P D vwCl [(mo, .inr (6, [.ref a7, .double 0, .double 0, .double 0, .double 0, .double 0, .double 0, .double 0, .double 0, .double 0, .double 0, .int 0, .int 0, .int 0, .int 0, .int 0, .int ((nI 0)), .ref a15, .int ((nI 0)), .ref a23, .ref a31, .double 0])), (a7, .inl (cI, 52, .inl (upd (layN n9_2 3 0 300 0 0 300 400 300 1) (13 * 3 + 8) ((-100))))), (a15, .inl (cI, 10, .inl (fun _ => 0))), (a23, .inl (cI, 12, .inl (fun _ => 0))), (a31, .inl (cI, 12, .inl (fun _ => 0)))] H := hP
  have hD : va_D A [(mo, .inr (6, [.ref a7, .double 0, .double 0, .double 0, .double 0, .double 0, .double 0, .double 0, .double 0, .double 0, .double 0, .int 0, .int 0, .int 0, .int 0, .int 0, .int ((nI 0)), .ref a15, .int ((nI 0)), .ref a23, .ref a31, .double 0])), (a7, .inl (cI, 52, .inl (upd (layN n9_2 3 0 300 0 0 300 400 300 1) (13 * 3 + 8) ((-100))))), (a15, .inl (cI, 10, .inl (fun _ => 0))), (a23, .inl (cI, 12, .inl (fun _ => 0))), (a31, .inl (cI, 12, .inl (fun _ => 0)))] := hD
  refine lv_aload_n hx hb dX7_init_78 rfl (lv_at hl 1 rfl) ?_
  refine va_get (D := D) (ci := 6) (v := .ref a7) (C := RX7) (T := TX7) (N := 22) hx hb hts hinX7 hown hw.1 hP 0 rfl rfl 0 (by decide) (hts (.fieldLink RX7 19 "WheelSwingModel" "number" "[I") (by decide +kernel)) (fun _ h9 => h9) rfl dX7_init_79 ?_
  refine lv_bipush (v := 13) hx hb dX7_init_82 (by decide) ?_
  refine lv_iload_n hx hb dX7_init_84 rfl (lv_at hl 0 rfl) ?_
  refine lv_imul hx hb dX7_init_85 ?_
  refine lv_bipush (v := 9) hx hb dX7_init_86 (by decide) ?_
  refine lv_iadd hx hb dX7_init_88 ?_
  rw [show ((13 * 3) + 9 : Int32) = nI 48 from by decide +kernel]
  refine lv_bipush (v := 100) hx hb dX7_init_89 (by decide) ?_
  refine va_iast hx hb hw.1 hP hD hS 1 0 rfl rfl (vp_in_nI (n := 48) (by decide) (by decide)) dX7_init_91 (fun H locs hP hD hS => ?_)
  rw [nI_clamp (n := 48) (by decide)] at hP hD
  have hP : va_P D vwCl [(mo, .inr (6, [.ref a7, .double 0, .double 0, .double 0, .double 0, .double 0, .double 0, .double 0, .double 0, .double 0, .double 0, .int 0, .int 0, .int 0, .int 0, .int 0, .int ((nI 0)), .ref a15, .int ((nI 0)), .ref a23, .ref a31, .double 0])), (a7, .inl (cI, 52, .inl (upd (upd (layN n9_2 3 0 300 0 0 300 400 300 1) (13 * 3 + 8) ((-100))) (13 * 3 + 9) 100))), (a15, .inl (cI, 10, .inl (fun _ => 0))), (a23, .inl (cI, 12, .inl (fun _ => 0))), (a31, .inl (cI, 12, .inl (fun _ => 0)))] H := hP
  have hD : va_D A [(mo, .inr (6, [.ref a7, .double 0, .double 0, .double 0, .double 0, .double 0, .double 0, .double 0, .double 0, .double 0, .double 0, .int 0, .int 0, .int 0, .int 0, .int 0, .int ((nI 0)), .ref a15, .int ((nI 0)), .ref a23, .ref a31, .double 0])), (a7, .inl (cI, 52, .inl (upd (upd (layN n9_2 3 0 300 0 0 300 400 300 1) (13 * 3 + 8) ((-100))) (13 * 3 + 9) 100))), (a15, .inl (cI, 10, .inl (fun _ => 0))), (a23, .inl (cI, 12, .inl (fun _ => 0))), (a31, .inl (cI, 12, .inl (fun _ => 0)))] := hD
  refine lv_aload_n hx hb dX7_init_92 rfl (lv_at hl 1 rfl) ?_
  refine va_get (D := D) (ci := 6) (v := .ref a7) (C := RX7) (T := TX7) (N := 22) hx hb hts hinX7 hown hw.1 hP 0 rfl rfl 0 (by decide) (hts (.fieldLink RX7 19 "WheelSwingModel" "number" "[I") (by decide +kernel)) (fun _ h9 => h9) rfl dX7_init_93 ?_
  refine lv_bipush (v := 13) hx hb dX7_init_96 (by decide) ?_
  refine lv_iload_n hx hb dX7_init_98 rfl (lv_at hl 0 rfl) ?_
  refine lv_imul hx hb dX7_init_99 ?_
  refine lv_bipush (v := 10) hx hb dX7_init_100 (by decide) ?_
  refine lv_iadd hx hb dX7_init_102 ?_
  rw [show ((13 * 3) + 10 : Int32) = nI 49 from by decide +kernel]
  refine lv_iconst (v := 0) hx hb dX7_init_103 (by decide) ?_
  refine va_iast hx hb hw.1 hP hD hS 1 0 rfl rfl (vp_in_nI (n := 49) (by decide) (by decide)) dX7_init_104 (fun H locs hP hD hS => ?_)
  rw [nI_clamp (n := 49) (by decide)] at hP hD
  have hP : va_P D vwCl [(mo, .inr (6, [.ref a7, .double 0, .double 0, .double 0, .double 0, .double 0, .double 0, .double 0, .double 0, .double 0, .double 0, .int 0, .int 0, .int 0, .int 0, .int 0, .int ((nI 0)), .ref a15, .int ((nI 0)), .ref a23, .ref a31, .double 0])), (a7, .inl (cI, 52, .inl (upd (upd (upd (layN n9_2 3 0 300 0 0 300 400 300 1) (13 * 3 + 8) ((-100))) (13 * 3 + 9) 100) (13 * 3 + 10) 0))), (a15, .inl (cI, 10, .inl (fun _ => 0))), (a23, .inl (cI, 12, .inl (fun _ => 0))), (a31, .inl (cI, 12, .inl (fun _ => 0)))] H := hP
  have hD : va_D A [(mo, .inr (6, [.ref a7, .double 0, .double 0, .double 0, .double 0, .double 0, .double 0, .double 0, .double 0, .double 0, .double 0, .int 0, .int 0, .int 0, .int 0, .int 0, .int ((nI 0)), .ref a15, .int ((nI 0)), .ref a23, .ref a31, .double 0])), (a7, .inl (cI, 52, .inl (upd (upd (upd (layN n9_2 3 0 300 0 0 300 400 300 1) (13 * 3 + 8) ((-100))) (13 * 3 + 9) 100) (13 * 3 + 10) 0))), (a15, .inl (cI, 10, .inl (fun _ => 0))), (a23, .inl (cI, 12, .inl (fun _ => 0))), (a31, .inl (cI, 12, .inl (fun _ => 0)))] := hD
  refine lv_aload_n hx hb dX7_init_105 rfl (lv_at hl 1 rfl) ?_
  refine va_get (D := D) (ci := 6) (v := .ref a7) (C := RX7) (T := TX7) (N := 22) hx hb hts hinX7 hown hw.1 hP 0 rfl rfl 0 (by decide) (hts (.fieldLink RX7 19 "WheelSwingModel" "number" "[I") (by decide +kernel)) (fun _ h9 => h9) rfl dX7_init_106 ?_
  refine lv_bipush (v := 13) hx hb dX7_init_109 (by decide) ?_
  refine lv_iload_n hx hb dX7_init_111 rfl (lv_at hl 0 rfl) ?_
  refine lv_imul hx hb dX7_init_112 ?_
  refine lv_bipush (v := 11) hx hb dX7_init_113 (by decide) ?_
  refine lv_iadd hx hb dX7_init_115 ?_
  rw [show ((13 * 3) + 11 : Int32) = nI 50 from by decide +kernel]
  refine lv_sipush (v := 500) hx hb dX7_init_116 (by decide) ?_
  refine va_iast hx hb hw.1 hP hD hS 1 0 rfl rfl (vp_in_nI (n := 50) (by decide) (by decide)) dX7_init_119 (fun H locs hP hD hS => ?_)
  rw [nI_clamp (n := 50) (by decide)] at hP hD
  have hP : va_P D vwCl [(mo, .inr (6, [.ref a7, .double 0, .double 0, .double 0, .double 0, .double 0, .double 0, .double 0, .double 0, .double 0, .double 0, .int 0, .int 0, .int 0, .int 0, .int 0, .int ((nI 0)), .ref a15, .int ((nI 0)), .ref a23, .ref a31, .double 0])), (a7, .inl (cI, 52, .inl (upd (upd (upd (upd (layN n9_2 3 0 300 0 0 300 400 300 1) (13 * 3 + 8) ((-100))) (13 * 3 + 9) 100) (13 * 3 + 10) 0) (13 * 3 + 11) 500))), (a15, .inl (cI, 10, .inl (fun _ => 0))), (a23, .inl (cI, 12, .inl (fun _ => 0))), (a31, .inl (cI, 12, .inl (fun _ => 0)))] H := hP
  have hD : va_D A [(mo, .inr (6, [.ref a7, .double 0, .double 0, .double 0, .double 0, .double 0, .double 0, .double 0, .double 0, .double 0, .double 0, .int 0, .int 0, .int 0, .int 0, .int 0, .int ((nI 0)), .ref a15, .int ((nI 0)), .ref a23, .ref a31, .double 0])), (a7, .inl (cI, 52, .inl (upd (upd (upd (upd (layN n9_2 3 0 300 0 0 300 400 300 1) (13 * 3 + 8) ((-100))) (13 * 3 + 9) 100) (13 * 3 + 10) 0) (13 * 3 + 11) 500))), (a15, .inl (cI, 10, .inl (fun _ => 0))), (a23, .inl (cI, 12, .inl (fun _ => 0))), (a31, .inl (cI, 12, .inl (fun _ => 0)))] := hD
  refine lv_aload_n hx hb dX7_init_120 rfl (lv_at hl 1 rfl) ?_
  refine va_get (D := D) (ci := 6) (v := .ref a7) (C := RX7) (T := TX7) (N := 22) hx hb hts hinX7 hown hw.1 hP 0 rfl rfl 0 (by decide) (hts (.fieldLink RX7 19 "WheelSwingModel" "number" "[I") (by decide +kernel)) (fun _ h9 => h9) rfl dX7_init_121 ?_
  refine lv_bipush (v := 13) hx hb dX7_init_124 (by decide) ?_
  refine lv_iload_n hx hb dX7_init_126 rfl (lv_at hl 0 rfl) ?_
  refine lv_imul hx hb dX7_init_127 ?_
  refine lv_bipush (v := 12) hx hb dX7_init_128 (by decide) ?_
  refine lv_iadd hx hb dX7_init_130 ?_
  rw [show ((13 * 3) + 12 : Int32) = nI 51 from by decide +kernel]
  refine lv_sipush (v := 500) hx hb dX7_init_131 (by decide) ?_
  refine va_iast hx hb hw.1 hP hD hS 1 0 rfl rfl (vp_in_nI (n := 51) (by decide) (by decide)) dX7_init_134 (fun H locs hP hD hS => ?_)
  rw [nI_clamp (n := 51) (by decide)] at hP hD
  have hP : va_P D vwCl [(mo, .inr (6, [.ref a7, .double 0, .double 0, .double 0, .double 0, .double 0, .double 0, .double 0, .double 0, .double 0, .double 0, .int 0, .int 0, .int 0, .int 0, .int 0, .int ((nI 0)), .ref a15, .int ((nI 0)), .ref a23, .ref a31, .double 0])), (a7, .inl (cI, 52, .inl (upd (upd (upd (upd (upd (layN n9_2 3 0 300 0 0 300 400 300 1) (13 * 3 + 8) ((-100))) (13 * 3 + 9) 100) (13 * 3 + 10) 0) (13 * 3 + 11) 500) (13 * 3 + 12) 500))), (a15, .inl (cI, 10, .inl (fun _ => 0))), (a23, .inl (cI, 12, .inl (fun _ => 0))), (a31, .inl (cI, 12, .inl (fun _ => 0)))] H := hP
  have hD : va_D A [(mo, .inr (6, [.ref a7, .double 0, .double 0, .double 0, .double 0, .double 0, .double 0, .double 0, .double 0, .double 0, .double 0, .int 0, .int 0, .int 0, .int 0, .int 0, .int ((nI 0)), .ref a15, .int ((nI 0)), .ref a23, .ref a31, .double 0])), (a7, .inl (cI, 52, .inl (upd (upd (upd (upd (upd (layN n9_2 3 0 300 0 0 300 400 300 1) (13 * 3 + 8) ((-100))) (13 * 3 + 9) 100) (13 * 3 + 10) 0) (13 * 3 + 11) 500) (13 * 3 + 12) 500))), (a15, .inl (cI, 10, .inl (fun _ => 0))), (a23, .inl (cI, 12, .inl (fun _ => 0))), (a31, .inl (cI, 12, .inl (fun _ => 0)))] := hD
  have hP : va_P D vwCl [(mo, .inr (6, [.ref a7, .double 0, .double 0, .double 0, .double 0, .double 0, .double 0, .double 0, .double 0, .double 0, .double 0, .int 0, .int 0, .int 0, .int 0, .int 0, .int ((nI 0)), .ref a15, .int ((nI 0)), .ref a23, .ref a31, .double 0])), (a7, .inl (cI, 52, .inl (iniN n9_2 3))), (a15, .inl (cI, 10, .inl (fun _ => 0))), (a23, .inl (cI, 12, .inl (fun _ => 0))), (a31, .inl (cI, 12, .inl (fun _ => 0)))] H := hP
  have hD : va_D A [(mo, .inr (6, [.ref a7, .double 0, .double 0, .double 0, .double 0, .double 0, .double 0, .double 0, .double 0, .double 0, .double 0, .int 0, .int 0, .int 0, .int 0, .int 0, .int ((nI 0)), .ref a15, .int ((nI 0)), .ref a23, .ref a31, .double 0])), (a7, .inl (cI, 52, .inl (iniN n9_2 3))), (a15, .inl (cI, 10, .inl (fun _ => 0))), (a23, .inl (cI, 12, .inl (fun _ => 0))), (a31, .inl (cI, 12, .inl (fun _ => 0)))] := hD
  obtain ⟨n9_3, en9_3⟩ : ∃ y9 : Nat → Int32, y9 = iniN n9_2 3 := ⟨_, rfl⟩
  rw [← en9_3] at hP hD
  refine lv_iinc (v := 4) (lv' := [(1, .int 4), (0, .ref mo)]) hx hb dX7_init_135 hl (k := 0) rfl (by decide) (by decide) rfl (fun ls hl => ?_)
  refine lv_goto (tgt := 38) hx hb dX7_init_138 (by decide) ?_
  refine lv_iload_n hx hb dX7_init_38 rfl (lv_at hl 0 rfl) ?_
  refine lv_iconst (v := 4) hx hb dX7_init_39 (by decide) ?_
  refine lv_icmp_ge (tgt := 141) hx hb dX7_init_40 (by decide) (fun _ => ?_) (fun c14 => absurd c14 (by decide))
  have eN : n9_3 = iniA := by rw [en9_3, en9_2, en9_1, en9_0]; try rfl
  rw [eN] at hP hD
  exact W.vret hx hb hr (fun t ht hW => ⟨⟨(a7, a15, a23, a31), rfl, trivial, by rw [ht]; exact hP, hD⟩, hS.F ht⟩) hS.2.2 dX7_init_141
