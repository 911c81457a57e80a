/-! THE LITTLE CLASSES: Car (X0), Hanging (X2), Readings (X3), ShimBox (X4) -/
def mx (h : Int64) (v : Int32) : Int64 := 31 * h + Int32.toInt64 v
def ush (x y : Int32) : Int32 := (x.toUInt32 >>> (y.toUInt32 &&& Int32.toUInt32 31)).toInt32
set_option maxHeartbeats 4000000 in
set_option maxRecDepth 100000 in
theorem mX0_load (l : Launch) (D : va_G) (cI cH : ClassId) (ca : Nat) (ct cp cr ctr cfs : Int32) (t1 t2 t3 : Int32)  : Met l yX0_load wsX0_load ({ frames := 0, cells := 0, slots := 0, locals := 0 }) (va_Pc [.ref ca, .int t1, .int t2, .int t3] (kB D cI cH [(ca, .inr (0, [.int ct, .int cp, .int cr, .int ctr, .int cfs]))])) (va_Qv (fun (u : List Value) => u = [.int t1, .int t2, .int t3, .int ctr, .int cfs]) (fun u t => va_at D vwCl (ca, .inr (0, u)) t.heap) (aE ca)) 0 0 (aE ca) := by
  refine Met.ofW (cc := cX0_load) (maxL := 4) (ret := none) (by decide) rfl ?_
  intro p e s m args below meth co s₁ B hml hv
  obtain ⟨rfl, hP0, hw⟩ := hv
  have hx := B.exec
  have hb := B.bytes
  have hr := B.returns
  have hts := atoms_spec (ws := wsX0_load) B.pre
  have hown : s.vm.findClass RX0 = some m.cls := findClass_of_methodNamed B.named
  have hlocks := B.notSynchronized
  have hinX0 : ∀ w ∈ wsX00, w ∈ wsX0_load := by decide +kernel
  have hS : va_S (aE ca) s.heap s.heap [] := va_S.rf
  have hP : va_P D vwCl [(ca, .inr (0, [.int ct, .int cp, .int cr, .int ctr, .int cfs]))] s.heap := hP0.sub [0] rfl
  have hD : va_D (aE ca) [(ca, .inr (0, [.int ct, .int cp, .int cr, .int ctr, .int cfs]))] := D_1 rfl
  have hl := lv_entry ([.ref ca, .int t1, .int t2, .int t3]) (n := 4) (Nat.le_of_ble_eq_true rfl)
  rw [lg_entry_eq]
  generalize (lg_sl ([.ref ca, .int t1, .int t2, .int t3]) ++ List.replicate (4 - (lg_sl ([.ref ca, .int t1, .int t2, .int t3])).length) Slot.unset).toArray = ls at hl ⊢
  have hl : lv_has ls 4 [(0, .ref ca), (1, .int t1), (2, .int t2), (3, .int t3)] := hl
  skip
  refine lv_aload_n hx hb dX0_load_0 rfl (lv_at hl 0 rfl) ?_
  refine lv_iload_n hx hb dX0_load_1 rfl (lv_at hl 1 rfl) ?_
  refine va_put (D := D) (ci := 0) (v := .int t1) (ty := .int) (C := RX0) (T := TX0) (N := 5) hx hb hts hinX0 tyX0 tyX0_ok nmX0 hown hw.1 hP hD hS 0 rfl rfl 0 (by decide) (hts (.fieldLink RX0 7 "WheelSwing$Car" "total" "I") (by decide +kernel)) (fun _ h9 => h9) rfl (by decide +kernel) rfl rfl (Nat.le_of_ble_eq_true rfl) dX0_load_2 (fun H locs hP hD hS => ?_)
  have hP : va_P D vwCl [(ca, .inr (0, [.int t1, .int cp, .int cr, .int ctr, .int cfs]))] H := hP
  have hD : va_D (aE ca) [(ca, .inr (0, [.int t1, .int cp, .int cr, .int ctr, .int cfs]))] := hD
  refine lv_aload_n hx hb dX0_load_5 rfl (lv_at hl 0 rfl) ?_
  refine lv_iload_n hx hb dX0_load_6 rfl (lv_at hl 2 rfl) ?_
  refine va_put (D := D) (ci := 0) (v := .int t2) (ty := .int) (C := RX0) (T := TX0) (N := 5) hx hb hts hinX0 tyX0 tyX0_ok nmX0 hown hw.1 hP hD hS 0 rfl rfl 1 (by decide) (hts (.fieldLink RX0 13 "WheelSwing$Car" "place" "I") (by decide +kernel)) (fun _ h9 => h9) rfl (by decide +kernel) rfl rfl (Nat.le_of_ble_eq_true rfl) dX0_load_7 (fun H locs hP hD hS => ?_)
  have hP : va_P D vwCl [(ca, .inr (0, [.int t1, .int t2, .int cr, .int ctr, .int cfs]))] H := hP
  have hD : va_D (aE ca) [(ca, .inr (0, [.int t1, .int t2, .int cr, .int ctr, .int cfs]))] := hD
  refine lv_aload_n hx hb dX0_load_10 rfl (lv_at hl 0 rfl) ?_
  refine lv_iload_n hx hb dX0_load_11 rfl (lv_at hl 3 rfl) ?_
  refine va_put (D := D) (ci := 0) (v := .int t3) (ty := .int) (C := RX0) (T := TX0) (N := 5) hx hb hts hinX0 tyX0 tyX0_ok nmX0 hown hw.1 hP hD hS 0 rfl rfl 2 (by decide) (hts (.fieldLink RX0 16 "WheelSwing$Car" "right" "I") (by decide +kernel)) (fun _ h9 => h9) rfl (by decide +kernel) rfl rfl (Nat.le_of_ble_eq_true rfl) dX0_load_12 (fun H locs hP hD hS => ?_)
  have hP : va_P D vwCl [(ca, .inr (0, [.int t1, .int t2, .int t3, .int ctr, .int cfs]))] H := hP
  have hD : va_D (aE ca) [(ca, .inr (0, [.int t1, .int t2, .int t3, .int ctr, .int cfs]))] := hD
  exact W.vret hx hb hr (fun t ht hW => ⟨⟨[.int t1, .int t2, .int t3, .int ctr, .int cfs], rfl, rfl, at_heap ht (hP 0 _ rfl)⟩, hS.F ht⟩) hS.2.2 dX0_load_15
set_option maxHeartbeats 4000000 in
set_option maxRecDepth 100000 in
theorem mX0_lean (l : Launch) (D : va_G) (cI cH : ClassId) (ca : Nat) (ct cp cr ctr cfs : Int32) (t1 t2 : Int32)  : Met l yX0_lean wsX0_lean ({ frames := 0, cells := 0, slots := 0, locals := 0 }) (va_Pc [.ref ca, .int t1, .int t2] (kB D cI cH [(ca, .inr (0, [.int ct, .int cp, .int cr, .int ctr, .int cfs]))])) (va_Qv (fun (u : List Value) => u = [.int ct, .int cp, .int cr, .int t1, .int t2]) (fun u t => va_at D vwCl (ca, .inr (0, u)) t.heap) (aE ca)) 0 0 (aE ca) := by
  refine Met.ofW (cc := cX0_lean) (maxL := 3) (ret := none) (by decide) rfl ?_
  intro p e s m args below meth co s₁ B hml hv
  obtain ⟨rfl, hP0, hw⟩ := hv
  have hx := B.exec
  have hb := B.bytes
  have hr := B.returns
  have hts := atoms_spec (ws := wsX0_lean) B.pre
  have hown : s.vm.findClass RX0 = some m.cls := findClass_of_methodNamed B.named
  have hlocks := B.notSynchronized
  have hinX0 : ∀ w ∈ wsX00, w ∈ wsX0_lean := by decide +kernel
  have hS : va_S (aE ca) s.heap s.heap [] := va_S.rf
  have hP : va_P D vwCl [(ca, .inr (0, [.int ct, .int cp, .int cr, .int ctr, .int cfs]))] s.heap := hP0.sub [0] rfl
  have hD : va_D (aE ca) [(ca, .inr (0, [.int ct, .int cp, .int cr, .int ctr, .int cfs]))] := D_1 rfl
  have hl := lv_entry ([.ref ca, .int t1, .int t2]) (n := 3) (Nat.le_of_ble_eq_true rfl)
  rw [lg_entry_eq]
  generalize (lg_sl ([.ref ca, .int t1, .int t2]) ++ List.replicate (3 - (lg_sl ([.ref ca, .int t1, .int t2])).length) Slot.unset).toArray = ls at hl ⊢
  have hl : lv_has ls 3 [(0, .ref ca), (1, .int t1), (2, .int t2)] := hl
  skip
  refine lv_aload_n hx hb dX0_lean_0 rfl (lv_at hl 0 rfl) ?_
  refine lv_iload_n hx hb dX0_lean_1 rfl (lv_at hl 1 rfl) ?_
  refine va_put (D := D) (ci := 0) (v := .int t1) (ty := .int) (C := RX0) (T := TX0) (N := 5) hx hb hts hinX0 tyX0 tyX0_ok nmX0 hown hw.1 hP hD hS 0 rfl rfl 3 (by decide) (hts (.fieldLink RX0 19 "WheelSwing$Car" "toRight" "I") (by decide +kernel)) (fun _ h9 => h9) rfl (by decide +kernel) rfl rfl (Nat.le_of_ble_eq_true rfl) dX0_lean_2 (fun H locs hP hD hS => ?_)
  have hP : va_P D vwCl [(ca, .inr (0, [.int ct, .int cp, .int cr, .int t1, .int cfs]))] H := hP
  have hD : va_D (aE ca) [(ca, .inr (0, [.int ct, .int cp, .int cr, .int t1, .int cfs]))] := hD
  refine lv_aload_n hx hb dX0_lean_5 rfl (lv_at hl 0 rfl) ?_
  refine lv_iload_n hx hb dX0_lean_6 rfl (lv_at hl 2 rfl) ?_
  refine va_put (D := D) (ci := 0) (v := .int t2) (ty := .int) (C := RX0) (T := TX0) (N := 5) hx hb hts hinX0 tyX0 tyX0_ok nmX0 hown hw.1 hP hD hS 0 rfl rfl 4 (by decide) (hts (.fieldLink RX0 22 "WheelSwing$Car" "frontShare" "I") (by decide +kernel)) (fun _ h9 => h9) rfl (by decide +kernel) rfl rfl (Nat.le_of_ble_eq_true rfl) dX0_lean_7 (fun H locs hP hD hS => ?_)
  have hP : va_P D vwCl [(ca, .inr (0, [.int ct, .int cp, .int cr, .int t1, .int t2]))] H := hP
  have hD : va_D (aE ca) [(ca, .inr (0, [.int ct, .int cp, .int cr, .int t1, .int t2]))] := hD
  exact W.vret hx hb hr (fun t ht hW => ⟨⟨[.int ct, .int cp, .int cr, .int t1, .int t2], rfl, rfl, at_heap ht (hP 0 _ rfl)⟩, hS.F ht⟩) hS.2.2 dX0_lean_10
set_option maxHeartbeats 4000000 in
set_option maxRecDepth 100000 in
theorem mX2_setUpperArm (l : Launch) (D : va_G) (cI cH : ClassId) (hg : Nat) (ux uy a lx ly b c sd g d sx sy f : Int32) (n1 n2 n3 : Int32)  : Met l yX2_setUpperArm wsX2_setUpperArm ({ frames := 0, cells := 0, slots := 0, locals := 0 }) (va_Pc [.ref hg, .int n1, .int n2, .int n3] (kB D cI cH [(hg, .inr (1, [.int ux, .int uy, .int a, .int lx, .int ly, .int b, .int c, .int sd, .int g, .int d, .int sx, .int sy, .int f]))])) (va_Qv (fun (u : List Value) => u = [.int n1, .int n2, .int n3, .int lx, .int ly, .int b, .int c, .int sd, .int g, .int d, .int sx, .int sy, .int f]) (fun u t => va_at D vwCl (hg, .inr (1, u)) t.heap) (aE hg)) 0 0 (aE hg) := by
  refine Met.ofW (cc := cX2_setUpperArm) (maxL := 4) (ret := none) (by decide) rfl ?_
  intro p e s m args below meth co s₁ B hml hv
  obtain ⟨rfl, hP0, hw⟩ := hv
  have hx := B.exec
  have hb := B.bytes
  have hr := B.returns
  have hts := atoms_spec (ws := wsX2_setUpperArm) B.pre
  have hown : s.vm.findClass RX2 = some m.cls := findClass_of_methodNamed B.named
  have hlocks := B.notSynchronized
  have hinX2 : ∀ w ∈ wsX20, w ∈ wsX2_setUpperArm := by decide +kernel
  have hS : va_S (aE hg) s.heap s.heap [] := va_S.rf
  have hP : va_P D vwCl [(hg, .inr (1, [.int ux, .int uy, .int a, .int lx, .int ly, .int b, .int c, .int sd, .int g, .int d, .int sx, .int sy, .int f]))] s.heap := hP0.sub [0] rfl
  have hD : va_D (aE hg) [(hg, .inr (1, [.int ux, .int uy, .int a, .int lx, .int ly, .int b, .int c, .int sd, .int g, .int d, .int sx, .int sy, .int f]))] := D_1 rfl
  have hl := lv_entry ([.ref hg, .int n1, .int n2, .int n3]) (n := 4) (Nat.le_of_ble_eq_true rfl)
  rw [lg_entry_eq]
  generalize (lg_sl ([.ref hg, .int n1, .int n2, .int n3]) ++ List.replicate (4 - (lg_sl ([.ref hg, .int n1, .int n2, .int n3])).length) Slot.unset).toArray = ls at hl ⊢
  have hl : lv_has ls 4 [(0, .ref hg), (1, .int n1), (2, .int n2), (3, .int n3)] := hl
  skip
  refine lv_aload_n hx hb dX2_setUpperArm_0 rfl (lv_at hl 0 rfl) ?_
  refine lv_iload_n hx hb dX2_setUpperArm_1 rfl (lv_at hl 1 rfl) ?_
  refine va_put (D := D) (ci := 1) (v := .int n1) (ty := .int) (C := RX2) (T := TX2) (N := 13) hx hb hts hinX2 tyX2 tyX2_ok nmX2 hown hw.1 hP hD hS 0 rfl rfl 0 (by decide) (hts (.fieldLink RX2 7 "WheelSwing$Hanging" "ux" "I") (by decide +kernel)) (fun _ h9 => h9) rfl (by decide +kernel) rfl rfl (Nat.le_of_ble_eq_true rfl) dX2_setUpperArm_2 (fun H locs hP hD hS => ?_)
  have hP : va_P D vwCl [(hg, .inr (1, [.int n1, .int uy, .int a, .int lx, .int ly, .int b, .int c, .int sd, .int g, .int d, .int sx, .int sy, .int f]))] H := hP
  have hD : va_D (aE hg) [(hg, .inr (1, [.int n1, .int uy, .int a, .int lx, .int ly, .int b, .int c, .int sd, .int g, .int d, .int sx, .int sy, .int f]))] := hD
  refine lv_aload_n hx hb dX2_setUpperArm_5 rfl (lv_at hl 0 rfl) ?_
  refine lv_iload_n hx hb dX2_setUpperArm_6 rfl (lv_at hl 2 rfl) ?_
  refine va_put (D := D) (ci := 1) (v := .int n2) (ty := .int) (C := RX2) (T := TX2) (N := 13) hx hb hts hinX2 tyX2 tyX2_ok nmX2 hown hw.1 hP hD hS 0 rfl rfl 1 (by decide) (hts (.fieldLink RX2 13 "WheelSwing$Hanging" "uy" "I") (by decide +kernel)) (fun _ h9 => h9) rfl (by decide +kernel) rfl rfl (Nat.le_of_ble_eq_true rfl) dX2_setUpperArm_7 (fun H locs hP hD hS => ?_)
  have hP : va_P D vwCl [(hg, .inr (1, [.int n1, .int n2, .int a, .int lx, .int ly, .int b, .int c, .int sd, .int g, .int d, .int sx, .int sy, .int f]))] H := hP
  have hD : va_D (aE hg) [(hg, .inr (1, [.int n1, .int n2, .int a, .int lx, .int ly, .int b, .int c, .int sd, .int g, .int d, .int sx, .int sy, .int f]))] := hD
  refine lv_aload_n hx hb dX2_setUpperArm_10 rfl (lv_at hl 0 rfl) ?_
  refine lv_iload_n hx hb dX2_setUpperArm_11 rfl (lv_at hl 3 rfl) ?_
  refine va_put (D := D) (ci := 1) (v := .int n3) (ty := .int) (C := RX2) (T := TX2) (N := 13) hx hb hts hinX2 tyX2 tyX2_ok nmX2 hown hw.1 hP hD hS 0 rfl rfl 2 (by decide) (hts (.fieldLink RX2 16 "WheelSwing$Hanging" "a" "I") (by decide +kernel)) (fun _ h9 => h9) rfl (by decide +kernel) rfl rfl (Nat.le_of_ble_eq_true rfl) dX2_setUpperArm_12 (fun H locs hP hD hS => ?_)
  have hP : va_P D vwCl [(hg, .inr (1, [.int n1, .int n2, .int n3, .int lx, .int ly, .int b, .int c, .int sd, .int g, .int d, .int sx, .int sy, .int f]))] H := hP
  have hD : va_D (aE hg) [(hg, .inr (1, [.int n1, .int n2, .int n3, .int lx, .int ly, .int b, .int c, .int sd, .int g, .int d, .int sx, .int sy, .int f]))] := hD
  exact W.vret hx hb hr (fun t ht hW => ⟨⟨[.int n1, .int n2, .int n3, .int lx, .int ly, .int b, .int c, .int sd, .int g, .int d, .int sx, .int sy, .int f], rfl, rfl, at_heap ht (hP 0 _ rfl)⟩, hS.F ht⟩) hS.2.2 dX2_setUpperArm_15
set_option maxHeartbeats 4000000 in
set_option maxRecDepth 100000 in
theorem mX2_setLowerArm (l : Launch) (D : va_G) (cI cH : ClassId) (hg : Nat) (ux uy a lx ly b c sd g d sx sy f : Int32) (n1 n2 n3 : Int32)  : Met l yX2_setLowerArm wsX2_setLowerArm ({ frames := 0, cells := 0, slots := 0, locals := 0 }) (va_Pc [.ref hg, .int n1, .int n2, .int n3] (kB D cI cH [(hg, .inr (1, [.int ux, .int uy, .int a, .int lx, .int ly, .int b, .int c, .int sd, .int g, .int d, .int sx, .int sy, .int f]))])) (va_Qv (fun (u : List Value) => u = [.int ux, .int uy, .int a, .int n1, .int n2, .int n3, .int c, .int sd, .int g, .int d, .int sx, .int sy, .int f]) (fun u t => va_at D vwCl (hg, .inr (1, u)) t.heap) (aE hg)) 0 0 (aE hg) := by
  refine Met.ofW (cc := cX2_setLowerArm) (maxL := 4) (ret := none) (by decide) rfl ?_
  intro p e s m args below meth co s₁ B hml hv
  obtain ⟨rfl, hP0, hw⟩ := hv
  have hx := B.exec
  have hb := B.bytes
  have hr := B.returns
  have hts := atoms_spec (ws := wsX2_setLowerArm) B.pre
  have hown : s.vm.findClass RX2 = some m.cls := findClass_of_methodNamed B.named
  have hlocks := B.notSynchronized
  have hinX2 : ∀ w ∈ wsX20, w ∈ wsX2_setLowerArm := by decide +kernel
  have hS : va_S (aE hg) s.heap s.heap [] := va_S.rf
  have hP : va_P D vwCl [(hg, .inr (1, [.int ux, .int uy, .int a, .int lx, .int ly, .int b, .int c, .int sd, .int g, .int d, .int sx, .int sy, .int f]))] s.heap := hP0.sub [0] rfl
  have hD : va_D (aE hg) [(hg, .inr (1, [.int ux, .int uy, .int a, .int lx, .int ly, .int b, .int c, .int sd, .int g, .int d, .int sx, .int sy, .int f]))] := D_1 rfl
  have hl := lv_entry ([.ref hg, .int n1, .int n2, .int n3]) (n := 4) (Nat.le_of_ble_eq_true rfl)
  rw [lg_entry_eq]
  generalize (lg_sl ([.ref hg, .int n1, .int n2, .int n3]) ++ List.replicate (4 - (lg_sl ([.ref hg, .int n1, .int n2, .int n3])).length) Slot.unset).toArray = ls at hl ⊢
  have hl : lv_has ls 4 [(0, .ref hg), (1, .int n1), (2, .int n2), (3, .int n3)] := hl
  skip
  refine lv_aload_n hx hb dX2_setLowerArm_0 rfl (lv_at hl 0 rfl) ?_
  refine lv_iload_n hx hb dX2_setLowerArm_1 rfl (lv_at hl 1 rfl) ?_
  refine va_put (D := D) (ci := 1) (v := .int n1) (ty := .int) (C := RX2) (T := TX2) (N := 13) hx hb hts hinX2 tyX2 tyX2_ok nmX2 hown hw.1 hP hD hS 0 rfl rfl 3 (by decide) (hts (.fieldLink RX2 19 "WheelSwing$Hanging" "lx" "I") (by decide +kernel)) (fun _ h9 => h9) rfl (by decide +kernel) rfl rfl (Nat.le_of_ble_eq_true rfl) dX2_setLowerArm_2 (fun H locs hP hD hS => ?_)
  have hP : va_P D vwCl [(hg, .inr (1, [.int ux, .int uy, .int a, .int n1, .int ly, .int b, .int c, .int sd, .int g, .int d, .int sx, .int sy, .int f]))] H := hP
  have hD : va_D (aE hg) [(hg, .inr (1, [.int ux, .int uy, .int a, .int n1, .int ly, .int b, .int c, .int sd, .int g, .int d, .int sx, .int sy, .int f]))] := hD
  refine lv_aload_n hx hb dX2_setLowerArm_5 rfl (lv_at hl 0 rfl) ?_
  refine lv_iload_n hx hb dX2_setLowerArm_6 rfl (lv_at hl 2 rfl) ?_
  refine va_put (D := D) (ci := 1) (v := .int n2) (ty := .int) (C := RX2) (T := TX2) (N := 13) hx hb hts hinX2 tyX2 tyX2_ok nmX2 hown hw.1 hP hD hS 0 rfl rfl 4 (by decide) (hts (.fieldLink RX2 22 "WheelSwing$Hanging" "ly" "I") (by decide +kernel)) (fun _ h9 => h9) rfl (by decide +kernel) rfl rfl (Nat.le_of_ble_eq_true rfl) dX2_setLowerArm_7 (fun H locs hP hD hS => ?_)
  have hP : va_P D vwCl [(hg, .inr (1, [.int ux, .int uy, .int a, .int n1, .int n2, .int b, .int c, .int sd, .int g, .int d, .int sx, .int sy, .int f]))] H := hP
  have hD : va_D (aE hg) [(hg, .inr (1, [.int ux, .int uy, .int a, .int n1, .int n2, .int b, .int c, .int sd, .int g, .int d, .int sx, .int sy, .int f]))] := hD
  refine lv_aload_n hx hb dX2_setLowerArm_10 rfl (lv_at hl 0 rfl) ?_
  refine lv_iload_n hx hb dX2_setLowerArm_11 rfl (lv_at hl 3 rfl) ?_
  refine va_put (D := D) (ci := 1) (v := .int n3) (ty := .int) (C := RX2) (T := TX2) (N := 13) hx hb hts hinX2 tyX2 tyX2_ok nmX2 hown hw.1 hP hD hS 0 rfl rfl 5 (by decide) (hts (.fieldLink RX2 25 "WheelSwing$Hanging" "b" "I") (by decide +kernel)) (fun _ h9 => h9) rfl (by decide +kernel) rfl rfl (Nat.le_of_ble_eq_true rfl) dX2_setLowerArm_12 (fun H locs hP hD hS => ?_)
  have hP : va_P D vwCl [(hg, .inr (1, [.int ux, .int uy, .int a, .int n1, .int n2, .int n3, .int c, .int sd, .int g, .int d, .int sx, .int sy, .int f]))] H := hP
  have hD : va_D (aE hg) [(hg, .inr (1, [.int ux, .int uy, .int a, .int n1, .int n2, .int n3, .int c, .int sd, .int g, .int d, .int sx, .int sy, .int f]))] := hD
  exact W.vret hx hb hr (fun t ht hW => ⟨⟨[.int ux, .int uy, .int a, .int n1, .int n2, .int n3, .int c, .int sd, .int g, .int d, .int sx, .int sy, .int f], rfl, rfl, at_heap ht (hP 0 _ rfl)⟩, hS.F ht⟩) hS.2.2 dX2_setLowerArm_15
set_option maxHeartbeats 4000000 in
set_option maxRecDepth 100000 in
theorem mX2_setUpright (l : Launch) (D : va_G) (cI cH : ClassId) (hg : Nat) (ux uy a lx ly b c sd g d sx sy f : Int32) (n1 n2 : Int32)  : Met l yX2_setUpright wsX2_setUpright ({ frames := 0, cells := 0, slots := 0, locals := 0 }) (va_Pc [.ref hg, .int n1, .int n2] (kB D cI cH [(hg, .inr (1, [.int ux, .int uy, .int a, .int lx, .int ly, .int b, .int c, .int sd, .int g, .int d, .int sx, .int sy, .int f]))])) (va_Qv (fun (u : List Value) => u = [.int ux, .int uy, .int a, .int lx, .int ly, .int b, .int n1, .int n2, .int g, .int d, .int sx, .int sy, .int f]) (fun u t => va_at D vwCl (hg, .inr (1, u)) t.heap) (aE hg)) 0 0 (aE hg) := by
  refine Met.ofW (cc := cX2_setUpright) (maxL := 3) (ret := none) (by decide) rfl ?_
  intro p e s m args below meth co s₁ B hml hv
  obtain ⟨rfl, hP0, hw⟩ := hv
  have hx := B.exec
  have hb := B.bytes
  have hr := B.returns
  have hts := atoms_spec (ws := wsX2_setUpright) B.pre
  have hown : s.vm.findClass RX2 = some m.cls := findClass_of_methodNamed B.named
  have hlocks := B.notSynchronized
  have hinX2 : ∀ w ∈ wsX20, w ∈ wsX2_setUpright := by decide +kernel
  have hS : va_S (aE hg) s.heap s.heap [] := va_S.rf
  have hP : va_P D vwCl [(hg, .inr (1, [.int ux, .int uy, .int a, .int lx, .int ly, .int b, .int c, .int sd, .int g, .int d, .int sx, .int sy, .int f]))] s.heap := hP0.sub [0] rfl
  have hD : va_D (aE hg) [(hg, .inr (1, [.int ux, .int uy, .int a, .int lx, .int ly, .int b, .int c, .int sd, .int g, .int d, .int sx, .int sy, .int f]))] := D_1 rfl
  have hl := lv_entry ([.ref hg, .int n1, .int n2]) (n := 3) (Nat.le_of_ble_eq_true rfl)
  rw [lg_entry_eq]
  generalize (lg_sl ([.ref hg, .int n1, .int n2]) ++ List.replicate (3 - (lg_sl ([.ref hg, .int n1, .int n2])).length) Slot.unset).toArray = ls at hl ⊢
  have hl : lv_has ls 3 [(0, .ref hg), (1, .int n1), (2, .int n2)] := hl
  skip
  refine lv_aload_n hx hb dX2_setUpright_0 rfl (lv_at hl 0 rfl) ?_
  refine lv_iload_n hx hb dX2_setUpright_1 rfl (lv_at hl 1 rfl) ?_
  refine va_put (D := D) (ci := 1) (v := .int n1) (ty := .int) (C := RX2) (T := TX2) (N := 13) hx hb hts hinX2 tyX2 tyX2_ok nmX2 hown hw.1 hP hD hS 0 rfl rfl 6 (by decide) (hts (.fieldLink RX2 28 "WheelSwing$Hanging" "c" "I") (by decide +kernel)) (fun _ h9 => h9) rfl (by decide +kernel) rfl rfl (Nat.le_of_ble_eq_true rfl) dX2_setUpright_2 (fun H locs hP hD hS => ?_)
  have hP : va_P D vwCl [(hg, .inr (1, [.int ux, .int uy, .int a, .int lx, .int ly, .int b, .int n1, .int sd, .int g, .int d, .int sx, .int sy, .int f]))] H := hP
  have hD : va_D (aE hg) [(hg, .inr (1, [.int ux, .int uy, .int a, .int lx, .int ly, .int b, .int n1, .int sd, .int g, .int d, .int sx, .int sy, .int f]))] := hD
  refine lv_aload_n hx hb dX2_setUpright_5 rfl (lv_at hl 0 rfl) ?_
  refine lv_iload_n hx hb dX2_setUpright_6 rfl (lv_at hl 2 rfl) ?_
  refine va_put (D := D) (ci := 1) (v := .int n2) (ty := .int) (C := RX2) (T := TX2) (N := 13) hx hb hts hinX2 tyX2 tyX2_ok nmX2 hown hw.1 hP hD hS 0 rfl rfl 7 (by decide) (hts (.fieldLink RX2 31 "WheelSwing$Hanging" "side" "I") (by decide +kernel)) (fun _ h9 => h9) rfl (by decide +kernel) rfl rfl (Nat.le_of_ble_eq_true rfl) dX2_setUpright_7 (fun H locs hP hD hS => ?_)
  have hP : va_P D vwCl [(hg, .inr (1, [.int ux, .int uy, .int a, .int lx, .int ly, .int b, .int n1, .int n2, .int g, .int d, .int sx, .int sy, .int f]))] H := hP
  have hD : va_D (aE hg) [(hg, .inr (1, [.int ux, .int uy, .int a, .int lx, .int ly, .int b, .int n1, .int n2, .int g, .int d, .int sx, .int sy, .int f]))] := hD
  exact W.vret hx hb hr (fun t ht hW => ⟨⟨[.int ux, .int uy, .int a, .int lx, .int ly, .int b, .int n1, .int n2, .int g, .int d, .int sx, .int sy, .int f], rfl, rfl, at_heap ht (hP 0 _ rfl)⟩, hS.F ht⟩) hS.2.2 dX2_setUpright_10
set_option maxHeartbeats 4000000 in
set_option maxRecDepth 100000 in
theorem mX2_setRoadPoint (l : Launch) (D : va_G) (cI cH : ClassId) (hg : Nat) (ux uy a lx ly b c sd g d sx sy f : Int32) (n1 n2 : Int32)  : Met l yX2_setRoadPoint wsX2_setRoadPoint ({ frames := 0, cells := 0, slots := 0, locals := 0 }) (va_Pc [.ref hg, .int n1, .int n2] (kB D cI cH [(hg, .inr (1, [.int ux, .int uy, .int a, .int lx, .int ly, .int b, .int c, .int sd, .int g, .int d, .int sx, .int sy, .int f]))])) (va_Qv (fun (u : List Value) => u = [.int ux, .int uy, .int a, .int lx, .int ly, .int b, .int c, .int sd, .int n1, .int n2, .int sx, .int sy, .int f]) (fun u t => va_at D vwCl (hg, .inr (1, u)) t.heap) (aE hg)) 0 0 (aE hg) := by
  refine Met.ofW (cc := cX2_setRoadPoint) (maxL := 3) (ret := none) (by decide) rfl ?_
  intro p e s m args below meth co s₁ B hml hv
  obtain ⟨rfl, hP0, hw⟩ := hv
  have hx := B.exec
  have hb := B.bytes
  have hr := B.returns
  have hts := atoms_spec (ws := wsX2_setRoadPoint) B.pre
  have hown : s.vm.findClass RX2 = some m.cls := findClass_of_methodNamed B.named
  have hlocks := B.notSynchronized
  have hinX2 : ∀ w ∈ wsX20, w ∈ wsX2_setRoadPoint := by decide +kernel
  have hS : va_S (aE hg) s.heap s.heap [] := va_S.rf
  have hP : va_P D vwCl [(hg, .inr (1, [.int ux, .int uy, .int a, .int lx, .int ly, .int b, .int c, .int sd, .int g, .int d, .int sx, .int sy, .int f]))] s.heap := hP0.sub [0] rfl
  have hD : va_D (aE hg) [(hg, .inr (1, [.int ux, .int uy, .int a, .int lx, .int ly, .int b, .int c, .int sd, .int g, .int d, .int sx, .int sy, .int f]))] := D_1 rfl
  have hl := lv_entry ([.ref hg, .int n1, .int n2]) (n := 3) (Nat.le_of_ble_eq_true rfl)
  rw [lg_entry_eq]
  generalize (lg_sl ([.ref hg, .int n1, .int n2]) ++ List.replicate (3 - (lg_sl ([.ref hg, .int n1, .int n2])).length) Slot.unset).toArray = ls at hl ⊢
  have hl : lv_has ls 3 [(0, .ref hg), (1, .int n1), (2, .int n2)] := hl
  skip
  refine lv_aload_n hx hb dX2_setRoadPoint_0 rfl (lv_at hl 0 rfl) ?_
  refine lv_iload_n hx hb dX2_setRoadPoint_1 rfl (lv_at hl 1 rfl) ?_
  refine va_put (D := D) (ci := 1) (v := .int n1) (ty := .int) (C := RX2) (T := TX2) (N := 13) hx hb hts hinX2 tyX2 tyX2_ok nmX2 hown hw.1 hP hD hS 0 rfl rfl 8 (by decide) (hts (.fieldLink RX2 34 "WheelSwing$Hanging" "g" "I") (by decide +kernel)) (fun _ h9 => h9) rfl (by decide +kernel) rfl rfl (Nat.le_of_ble_eq_true rfl) dX2_setRoadPoint_2 (fun H locs hP hD hS => ?_)
  have hP : va_P D vwCl [(hg, .inr (1, [.int ux, .int uy, .int a, .int lx, .int ly, .int b, .int c, .int sd, .int n1, .int d, .int sx, .int sy, .int f]))] H := hP
  have hD : va_D (aE hg) [(hg, .inr (1, [.int ux, .int uy, .int a, .int lx, .int ly, .int b, .int c, .int sd, .int n1, .int d, .int sx, .int sy, .int f]))] := hD
  refine lv_aload_n hx hb dX2_setRoadPoint_5 rfl (lv_at hl 0 rfl) ?_
  refine lv_iload_n hx hb dX2_setRoadPoint_6 rfl (lv_at hl 2 rfl) ?_
  refine va_put (D := D) (ci := 1) (v := .int n2) (ty := .int) (C := RX2) (T := TX2) (N := 13) hx hb hts hinX2 tyX2 tyX2_ok nmX2 hown hw.1 hP hD hS 0 rfl rfl 9 (by decide) (hts (.fieldLink RX2 37 "WheelSwing$Hanging" "d" "I") (by decide +kernel)) (fun _ h9 => h9) rfl (by decide +kernel) rfl rfl (Nat.le_of_ble_eq_true rfl) dX2_setRoadPoint_7 (fun H locs hP hD hS => ?_)
  have hP : va_P D vwCl [(hg, .inr (1, [.int ux, .int uy, .int a, .int lx, .int ly, .int b, .int c, .int sd, .int n1, .int n2, .int sx, .int sy, .int f]))] H := hP
  have hD : va_D (aE hg) [(hg, .inr (1, [.int ux, .int uy, .int a, .int lx, .int ly, .int b, .int c, .int sd, .int n1, .int n2, .int sx, .int sy, .int f]))] := hD
  exact W.vret hx hb hr (fun t ht hW => ⟨⟨[.int ux, .int uy, .int a, .int lx, .int ly, .int b, .int c, .int sd, .int n1, .int n2, .int sx, .int sy, .int f], rfl, rfl, at_heap ht (hP 0 _ rfl)⟩, hS.F ht⟩) hS.2.2 dX2_setRoadPoint_10
set_option maxHeartbeats 4000000 in
set_option maxRecDepth 100000 in
theorem mX2_setSpring (l : Launch) (D : va_G) (cI cH : ClassId) (hg : Nat) (ux uy a lx ly b c sd g d sx sy f : Int32) (n1 n2 n3 : Int32)  : Met l yX2_setSpring wsX2_setSpring ({ frames := 0, cells := 0, slots := 0, locals := 0 }) (va_Pc [.ref hg, .int n1, .int n2, .int n3] (kB D cI cH [(hg, .inr (1, [.int ux, .int uy, .int a, .int lx, .int ly, .int b, .int c, .int sd, .int g, .int d, .int sx, .int sy, .int f]))])) (va_Qv (fun (u : List Value) => u = [.int ux, .int uy, .int a, .int lx, .int ly, .int b, .int c, .int sd, .int g, .int d, .int n1, .int n2, .int n3]) (fun u t => va_at D vwCl (hg, .inr (1, u)) t.heap) (aE hg)) 0 0 (aE hg) := by
  refine Met.ofW (cc := cX2_setSpring) (maxL := 4) (ret := none) (by decide) rfl ?_
  intro p e s m args below meth co s₁ B hml hv
  obtain ⟨rfl, hP0, hw⟩ := hv
  have hx := B.exec
  have hb := B.bytes
  have hr := B.returns
  have hts := atoms_spec (ws := wsX2_setSpring) B.pre
  have hown : s.vm.findClass RX2 = some m.cls := findClass_of_methodNamed B.named
  have hlocks := B.notSynchronized
  have hinX2 : ∀ w ∈ wsX20, w ∈ wsX2_setSpring := by decide +kernel
  have hS : va_S (aE hg) s.heap s.heap [] := va_S.rf
  have hP : va_P D vwCl [(hg, .inr (1, [.int ux, .int uy, .int a, .int lx, .int ly, .int b, .int c, .int sd, .int g, .int d, .int sx, .int sy, .int f]))] s.heap := hP0.sub [0] rfl
  have hD : va_D (aE hg) [(hg, .inr (1, [.int ux, .int uy, .int a, .int lx, .int ly, .int b, .int c, .int sd, .int g, .int d, .int sx, .int sy, .int f]))] := D_1 rfl
  have hl := lv_entry ([.ref hg, .int n1, .int n2, .int n3]) (n := 4) (Nat.le_of_ble_eq_true rfl)
  rw [lg_entry_eq]
  generalize (lg_sl ([.ref hg, .int n1, .int n2, .int n3]) ++ List.replicate (4 - (lg_sl ([.ref hg, .int n1, .int n2, .int n3])).length) Slot.unset).toArray = ls at hl ⊢
  have hl : lv_has ls 4 [(0, .ref hg), (1, .int n1), (2, .int n2), (3, .int n3)] := hl
  skip
  refine lv_aload_n hx hb dX2_setSpring_0 rfl (lv_at hl 0 rfl) ?_
  refine lv_iload_n hx hb dX2_setSpring_1 rfl (lv_at hl 1 rfl) ?_
  refine va_put (D := D) (ci := 1) (v := .int n1) (ty := .int) (C := RX2) (T := TX2) (N := 13) hx hb hts hinX2 tyX2 tyX2_ok nmX2 hown hw.1 hP hD hS 0 rfl rfl 10 (by decide) (hts (.fieldLink RX2 40 "WheelSwing$Hanging" "sx" "I") (by decide +kernel)) (fun _ h9 => h9) rfl (by decide +kernel) rfl rfl (Nat.le_of_ble_eq_true rfl) dX2_setSpring_2 (fun H locs hP hD hS => ?_)
  have hP : va_P D vwCl [(hg, .inr (1, [.int ux, .int uy, .int a, .int lx, .int ly, .int b, .int c, .int sd, .int g, .int d, .int n1, .int sy, .int f]))] H := hP
  have hD : va_D (aE hg) [(hg, .inr (1, [.int ux, .int uy, .int a, .int lx, .int ly, .int b, .int c, .int sd, .int g, .int d, .int n1, .int sy, .int f]))] := hD
  refine lv_aload_n hx hb dX2_setSpring_5 rfl (lv_at hl 0 rfl) ?_
  refine lv_iload_n hx hb dX2_setSpring_6 rfl (lv_at hl 2 rfl) ?_
  refine va_put (D := D) (ci := 1) (v := .int n2) (ty := .int) (C := RX2) (T := TX2) (N := 13) hx hb hts hinX2 tyX2 tyX2_ok nmX2 hown hw.1 hP hD hS 0 rfl rfl 11 (by decide) (hts (.fieldLink RX2 43 "WheelSwing$Hanging" "sy" "I") (by decide +kernel)) (fun _ h9 => h9) rfl (by decide +kernel) rfl rfl (Nat.le_of_ble_eq_true rfl) dX2_setSpring_7 (fun H locs hP hD hS => ?_)
  have hP : va_P D vwCl [(hg, .inr (1, [.int ux, .int uy, .int a, .int lx, .int ly, .int b, .int c, .int sd, .int g, .int d, .int n1, .int n2, .int f]))] H := hP
  have hD : va_D (aE hg) [(hg, .inr (1, [.int ux, .int uy, .int a, .int lx, .int ly, .int b, .int c, .int sd, .int g, .int d, .int n1, .int n2, .int f]))] := hD
  refine lv_aload_n hx hb dX2_setSpring_10 rfl (lv_at hl 0 rfl) ?_
  refine lv_iload_n hx hb dX2_setSpring_11 rfl (lv_at hl 3 rfl) ?_
  refine va_put (D := D) (ci := 1) (v := .int n3) (ty := .int) (C := RX2) (T := TX2) (N := 13) hx hb hts hinX2 tyX2 tyX2_ok nmX2 hown hw.1 hP hD hS 0 rfl rfl 12 (by decide) (hts (.fieldLink RX2 46 "WheelSwing$Hanging" "f" "I") (by decide +kernel)) (fun _ h9 => h9) rfl (by decide +kernel) rfl rfl (Nat.le_of_ble_eq_true rfl) dX2_setSpring_12 (fun H locs hP hD hS => ?_)
  have hP : va_P D vwCl [(hg, .inr (1, [.int ux, .int uy, .int a, .int lx, .int ly, .int b, .int c, .int sd, .int g, .int d, .int n1, .int n2, .int n3]))] H := hP
  have hD : va_D (aE hg) [(hg, .inr (1, [.int ux, .int uy, .int a, .int lx, .int ly, .int b, .int c, .int sd, .int g, .int d, .int n1, .int n2, .int n3]))] := hD
  exact W.vret hx hb hr (fun t ht hW => ⟨⟨[.int ux, .int uy, .int a, .int lx, .int ly, .int b, .int c, .int sd, .int g, .int d, .int n1, .int n2, .int n3], rfl, rfl, at_heap ht (hP 0 _ rfl)⟩, hS.F ht⟩) hS.2.2 dX2_setSpring_15
def carL (ct cp cr ctr cfs w : Int32) : Int32 :=
  if (w &&& 1) = 1 then ((if w < 2 then ct - ct * cp / 1000 else ct * cp / 1000) * (500 + cr) / 1000 + (if w < 2 then ctr * cfs / 1000 else ctr - ctr * cfs / 1000))
  else (if w < 2 then ct - ct * cp / 1000 else ct * cp / 1000) - ((if w < 2 then ct - ct * cp / 1000 else ct * cp / 1000) * (500 + cr) / 1000 + (if w < 2 then ctr * cfs / 1000 else ctr - ctr * cfs / 1000))
set_option maxHeartbeats 4000000 in
set_option maxRecDepth 100000 in
theorem mX0_loadOf (l : Launch) (D : va_G) (cI cH : ClassId) (ca : Nat) (ct cp cr ctr cfs w : Int32)  : Met l yX0_loadOf wsX0_loadOf ({ frames := 0, cells := 0, slots := 0, locals := 0 }) (va_Pc [.ref ca, .int w] (kB D cI cH [(ca, .inr (0, [.int ct, .int cp, .int cr, .int ctr, .int cfs]))])) (va_Qi (fun (r : Int32) (u : Unit) => r = carL ct cp cr ctr cfs w) (fun _ _ => True) nA) 0 0 nA := by
  refine Met.ofW (cc := cX0_loadOf) (maxL := 9) (ret := (some .int)) (by decide) rfl ?_
  intro p e s m args below meth co s₁ B hml hv
  obtain ⟨rfl, hP0, hw⟩ := hv
  have hx := B.exec
  have hb := B.bytes
  have hr := B.returns
  have hts := atoms_spec (ws := wsX0_loadOf) B.pre
  have hown : s.vm.findClass RX0 = some m.cls := findClass_of_methodNamed B.named
  have hlocks := B.notSynchronized
  have hinX0 : ∀ w ∈ wsX00, w ∈ wsX0_loadOf := by decide +kernel
  have hS : va_S nA s.heap s.heap [] := va_S.rf
  have hR0 : va_P D vwCl [(ca, .inr (0, [.int ct, .int cp, .int cr, .int ctr, .int cfs]))] s.heap := hP0.sub [0] rfl
  have hR := hR0
  have hnr : ∀ (k : Nat) (q : Nat × va_E), ([(ca, .inr (0, [.int ct, .int cp, .int cr, .int ctr, .int cfs]))] : va_W)[k]? = some q → ¬ nA q.1 := fr_nA
  have hl := lv_entry ([.ref ca, .int w]) (n := 9) (Nat.le_of_ble_eq_true rfl)
  rw [lg_entry_eq]
  generalize (lg_sl ([.ref ca, .int w]) ++ List.replicate (9 - (lg_sl ([.ref ca, .int w])).length) Slot.unset).toArray = ls at hl ⊢
  have hl : lv_has ls 9 [(0, .ref ca), (1, .int w)] := hl
  skip
  refine lv_iload_n hx hb dX0_loadOf_0 rfl (lv_at hl 1 rfl) ?_
  refine lv_iconst (v := 2) hx hb dX0_loadOf_1 (by decide) ?_
  refine lv_icmp_ge (tgt := 9) hx hb dX0_loadOf_2 (by decide) (fun c1 => ?_) (fun c1 => ?_)
  · have i2 := Int32.not_lt.mpr c1
    refine lv_iconst (v := 0) hx hb dX0_loadOf_9 (by decide) ?_
    refine lv_istore_n (lv' := [(2, .int 0), (0, .ref ca), (1, .int w)]) hx hb dX0_loadOf_10 rfl hl (by decide) rfl (fun ls hl => ?_)
    refine lv_aload_n hx hb dX0_loadOf_11 rfl (lv_at hl 1 rfl) ?_
    refine va_get (D := D) (ci := 0) (v := .int ct) (C := RX0) (T := TX0) (N := 5) hx hb hts hinX0 hown hw.1 hR 0 rfl rfl 0 (by decide) (hts (.fieldLink RX0 7 "WheelSwing$Car" "total" "I") (by decide +kernel)) (fun _ h9 => h9) rfl dX0_loadOf_12 ?_
    refine lv_aload_n hx hb dX0_loadOf_15 rfl (lv_at hl 1 rfl) ?_
    refine va_get (D := D) (ci := 0) (v := .int cp) (C := RX0) (T := TX0) (N := 5) hx hb hts hinX0 hown hw.1 hR 0 rfl rfl 1 (by decide) (hts (.fieldLink RX0 13 "WheelSwing$Car" "place" "I") (by decide +kernel)) (fun _ h9 => h9) rfl dX0_loadOf_16 ?_
    refine lv_imul hx hb dX0_loadOf_19 ?_
    refine lv_sipush (v := 1000) hx hb dX0_loadOf_20 (by decide) ?_
    refine lv_idiv hx hb dX0_loadOf_23 (by decide) ?_
    refine lv_istore_n (lv' := [(3, .int ((ct * cp) / 1000)), (2, .int 0), (0, .ref ca), (1, .int w)]) hx hb dX0_loadOf_24 rfl hl (by decide) rfl (fun ls hl => ?_)
    refine lv_iload_n hx hb dX0_loadOf_25 rfl (lv_at hl 1 rfl) ?_
    refine lv_if_eq (tgt := 38) hx hb dX0_loadOf_26 (by decide) (fun _ => ?_) (fun c4 => absurd c4 (by decide))
    refine lv_iload_n hx hb dX0_loadOf_38 rfl (lv_at hl 0 rfl) ?_
    refine lv_istore (lv' := [(4, .int ((ct * cp) / 1000)), (3, .int ((ct * cp) / 1000)), (2, .int 0), (0, .ref ca), (1, .int w)]) hx hb dX0_loadOf_39 hl (by decide) rfl (fun ls hl => ?_)
    refine lv_aload_n hx hb dX0_loadOf_41 rfl (lv_at hl 3 rfl) ?_
    refine va_get (D := D) (ci := 0) (v := .int ctr) (C := RX0) (T := TX0) (N := 5) hx hb hts hinX0 hown hw.1 hR 0 rfl rfl 3 (by decide) (hts (.fieldLink RX0 19 "WheelSwing$Car" "toRight" "I") (by decide +kernel)) (fun _ h9 => h9) rfl dX0_loadOf_42 ?_
    refine lv_aload_n hx hb dX0_loadOf_45 rfl (lv_at hl 3 rfl) ?_
    refine va_get (D := D) (ci := 0) (v := .int cfs) (C := RX0) (T := TX0) (N := 5) hx hb hts hinX0 hown hw.1 hR 0 rfl rfl 4 (by decide) (hts (.fieldLink RX0 22 "WheelSwing$Car" "frontShare" "I") (by decide +kernel)) (fun _ h9 => h9) rfl dX0_loadOf_46 ?_
    refine lv_imul hx hb dX0_loadOf_49 ?_
    refine lv_sipush (v := 1000) hx hb dX0_loadOf_50 (by decide) ?_
    refine lv_idiv hx hb dX0_loadOf_53 (by decide) ?_
    refine lv_istore (lv' := [(5, .int ((ctr * cfs) / 1000)), (4, .int ((ct * cp) / 1000)), (3, .int ((ct * cp) / 1000)), (2, .int 0), (0, .ref ca), (1, .int w)]) hx hb dX0_loadOf_54 hl (by decide) rfl (fun ls hl => ?_)
    refine lv_iload_n hx hb dX0_loadOf_56 rfl (lv_at hl 3 rfl) ?_
    refine lv_if_eq (tgt := 65) hx hb dX0_loadOf_57 (by decide) (fun _ => ?_) (fun c6 => absurd c6 (by decide))
    refine lv_aload_n hx hb dX0_loadOf_65 rfl (lv_at hl 4 rfl) ?_
    refine va_get (D := D) (ci := 0) (v := .int ctr) (C := RX0) (T := TX0) (N := 5) hx hb hts hinX0 hown hw.1 hR 0 rfl rfl 3 (by decide) (hts (.fieldLink RX0 19 "WheelSwing$Car" "toRight" "I") (by decide +kernel)) (fun _ h9 => h9) rfl dX0_loadOf_66 ?_
    refine lv_iload hx hb dX0_loadOf_69 (lv_at hl 0 rfl) ?_
    refine lv_isub hx hb dX0_loadOf_71 ?_
    refine lv_istore (lv' := [(6, .int (ctr - ((ctr * cfs) / 1000))), (5, .int ((ctr * cfs) / 1000)), (4, .int ((ct * cp) / 1000)), (3, .int ((ct * cp) / 1000)), (2, .int 0), (0, .ref ca), (1, .int w)]) hx hb dX0_loadOf_72 hl (by decide) rfl (fun ls hl => ?_)
    refine lv_iload hx hb dX0_loadOf_74 (lv_at hl 2 rfl) ?_
    refine lv_sipush (v := 500) hx hb dX0_loadOf_76 (by decide) ?_
    refine lv_aload_n hx hb dX0_loadOf_79 rfl (lv_at hl 5 rfl) ?_
    refine va_get (D := D) (ci := 0) (v := .int cr) (C := RX0) (T := TX0) (N := 5) hx hb hts hinX0 hown hw.1 hR 0 rfl rfl 2 (by decide) (hts (.fieldLink RX0 16 "WheelSwing$Car" "right" "I") (by decide +kernel)) (fun _ h9 => h9) rfl dX0_loadOf_80 ?_
    refine lv_iadd hx hb dX0_loadOf_83 ?_
    refine lv_imul hx hb dX0_loadOf_84 ?_
    refine lv_sipush (v := 1000) hx hb dX0_loadOf_85 (by decide) ?_
    refine lv_idiv hx hb dX0_loadOf_88 (by decide) ?_
    refine lv_iload hx hb dX0_loadOf_89 (lv_at hl 0 rfl) ?_
    refine lv_iadd hx hb dX0_loadOf_91 ?_
    refine lv_istore (lv' := [(7, .int (((((ct * cp) / 1000) * (500 + cr)) / 1000) + (ctr - ((ctr * cfs) / 1000)))), (6, .int (ctr - ((ctr * cfs) / 1000))), (5, .int ((ctr * cfs) / 1000)), (4, .int ((ct * cp) / 1000)), (3, .int ((ct * cp) / 1000)), (2, .int 0), (0, .ref ca), (1, .int w)]) hx hb dX0_loadOf_92 hl (by decide) rfl (fun ls hl => ?_)
    refine lv_iload_n hx hb dX0_loadOf_94 rfl (lv_at hl 7 rfl) ?_
    refine lv_iconst (v := 1) hx hb dX0_loadOf_95 (by decide) ?_
    refine lv_iand hx hb dX0_loadOf_96 ?_
    refine lv_iconst (v := 1) hx hb dX0_loadOf_97 (by decide) ?_
    refine lv_icmp_ne (tgt := 105) hx hb dX0_loadOf_98 (by decide) (fun c7 => ?_) (fun c7 => ?_)
    · refine lv_iconst (v := 0) hx hb dX0_loadOf_105 (by decide) ?_
      refine lv_istore (lv' := [(8, .int 0), (7, .int (((((ct * cp) / 1000) * (500 + cr)) / 1000) + (ctr - ((ctr * cfs) / 1000)))), (6, .int (ctr - ((ctr * cfs) / 1000))), (5, .int ((ctr * cfs) / 1000)), (4, .int ((ct * cp) / 1000)), (3, .int ((ct * cp) / 1000)), (2, .int 0), (0, .ref ca), (1, .int w)]) hx hb dX0_loadOf_106 hl (by decide) rfl (fun ls hl => ?_)
      refine lv_iload hx hb dX0_loadOf_108 (lv_at hl 0 rfl) ?_
      refine lv_if_eq (tgt := 118) hx hb dX0_loadOf_110 (by decide) (fun _ => ?_) (fun c9 => absurd c9 (by decide))
      refine lv_iload hx hb dX0_loadOf_118 (lv_at hl 4 rfl) ?_
      refine lv_iload hx hb dX0_loadOf_120 (lv_at hl 1 rfl) ?_
      refine lv_isub hx hb dX0_loadOf_122 ?_
      exact W.iret (v := ((ct * cp) / 1000) - (((((ct * cp) / 1000) * (500 + cr)) / 1000) + (ctr - ((ctr * cfs) / 1000)))) hx hb hr (fun t ht hW => ⟨⟨((ct * cp) / 1000) - (((((ct * cp) / 1000) * (500 + cr)) / 1000) + (ctr - ((ctr * cfs) / 1000))), (), rfl, (by unfold carL; rw [if_neg c7]; simp only [if_neg (Int32.not_lt.mpr c1)]), trivial⟩, hS.F ht⟩) hS.2.2 dX0_loadOf_123
    · refine lv_iconst (v := 1) hx hb dX0_loadOf_101 (by decide) ?_
      refine lv_goto (tgt := 106) hx hb dX0_loadOf_102 (by decide) ?_
      refine lv_istore (lv' := [(8, .int 1), (7, .int (((((ct * cp) / 1000) * (500 + cr)) / 1000) + (ctr - ((ctr * cfs) / 1000)))), (6, .int (ctr - ((ctr * cfs) / 1000))), (5, .int ((ctr * cfs) / 1000)), (4, .int ((ct * cp) / 1000)), (3, .int ((ct * cp) / 1000)), (2, .int 0), (0, .ref ca), (1, .int w)]) hx hb dX0_loadOf_106 hl (by decide) rfl (fun ls hl => ?_)
      refine lv_iload hx hb dX0_loadOf_108 (lv_at hl 0 rfl) ?_
      refine lv_if_eq (tgt := 118) hx hb dX0_loadOf_110 (by decide) (fun c11 => absurd c11 (by decide)) (fun _ => ?_)
      refine lv_iload hx hb dX0_loadOf_113 (lv_at hl 1 rfl) ?_
      refine lv_goto (tgt := 123) hx hb dX0_loadOf_115 (by decide) ?_
      exact W.iret (v := ((((ct * cp) / 1000) * (500 + cr)) / 1000) + (ctr - ((ctr * cfs) / 1000))) hx hb hr (fun t ht hW => ⟨⟨((((ct * cp) / 1000) * (500 + cr)) / 1000) + (ctr - ((ctr * cfs) / 1000)), (), rfl, (by unfold carL; rw [if_pos c7]; simp only [if_neg (Int32.not_lt.mpr c1)]), trivial⟩, hS.F ht⟩) hS.2.2 dX0_loadOf_123
  · have i12 := Int32.not_le.mp c1
    refine lv_iconst (v := 1) hx hb dX0_loadOf_5 (by decide) ?_
    refine lv_goto (tgt := 10) hx hb dX0_loadOf_6 (by decide) ?_
    refine lv_istore_n (lv' := [(2, .int 1), (0, .ref ca), (1, .int w)]) hx hb dX0_loadOf_10 rfl hl (by decide) rfl (fun ls hl => ?_)
    refine lv_aload_n hx hb dX0_loadOf_11 rfl (lv_at hl 1 rfl) ?_
    refine va_get (D := D) (ci := 0) (v := .int ct) (C := RX0) (T := TX0) (N := 5) hx hb hts hinX0 hown hw.1 hR 0 rfl rfl 0 (by decide) (hts (.fieldLink RX0 7 "WheelSwing$Car" "total" "I") (by decide +kernel)) (fun _ h9 => h9) rfl dX0_loadOf_12 ?_
    refine lv_aload_n hx hb dX0_loadOf_15 rfl (lv_at hl 1 rfl) ?_
    refine va_get (D := D) (ci := 0) (v := .int cp) (C := RX0) (T := TX0) (N := 5) hx hb hts hinX0 hown hw.1 hR 0 rfl rfl 1 (by decide) (hts (.fieldLink RX0 13 "WheelSwing$Car" "place" "I") (by decide +kernel)) (fun _ h9 => h9) rfl dX0_loadOf_16 ?_
    refine lv_imul hx hb dX0_loadOf_19 ?_
    refine lv_sipush (v := 1000) hx hb dX0_loadOf_20 (by decide) ?_
    refine lv_idiv hx hb dX0_loadOf_23 (by decide) ?_
    refine lv_istore_n (lv' := [(3, .int ((ct * cp) / 1000)), (2, .int 1), (0, .ref ca), (1, .int w)]) hx hb dX0_loadOf_24 rfl hl (by decide) rfl (fun ls hl => ?_)
    refine lv_iload_n hx hb dX0_loadOf_25 rfl (lv_at hl 1 rfl) ?_
    refine lv_if_eq (tgt := 38) hx hb dX0_loadOf_26 (by decide) (fun c14 => absurd c14 (by decide)) (fun _ => ?_)
    refine lv_aload_n hx hb dX0_loadOf_29 rfl (lv_at hl 2 rfl) ?_
    refine va_get (D := D) (ci := 0) (v := .int ct) (C := RX0) (T := TX0) (N := 5) hx hb hts hinX0 hown hw.1 hR 0 rfl rfl 0 (by decide) (hts (.fieldLink RX0 7 "WheelSwing$Car" "total" "I") (by decide +kernel)) (fun _ h9 => h9) rfl dX0_loadOf_30 ?_
    refine lv_iload_n hx hb dX0_loadOf_33 rfl (lv_at hl 0 rfl) ?_
    refine lv_isub hx hb dX0_loadOf_34 ?_
    refine lv_goto (tgt := 39) hx hb dX0_loadOf_35 (by decide) ?_
    refine lv_istore (lv' := [(4, .int (ct - ((ct * cp) / 1000))), (3, .int ((ct * cp) / 1000)), (2, .int 1), (0, .ref ca), (1, .int w)]) hx hb dX0_loadOf_39 hl (by decide) rfl (fun ls hl => ?_)
    refine lv_aload_n hx hb dX0_loadOf_41 rfl (lv_at hl 3 rfl) ?_
    refine va_get (D := D) (ci := 0) (v := .int ctr) (C := RX0) (T := TX0) (N := 5) hx hb hts hinX0 hown hw.1 hR 0 rfl rfl 3 (by decide) (hts (.fieldLink RX0 19 "WheelSwing$Car" "toRight" "I") (by decide +kernel)) (fun _ h9 => h9) rfl dX0_loadOf_42 ?_
    refine lv_aload_n hx hb dX0_loadOf_45 rfl (lv_at hl 3 rfl) ?_
    refine va_get (D := D) (ci := 0) (v := .int cfs) (C := RX0) (T := TX0) (N := 5) hx hb hts hinX0 hown hw.1 hR 0 rfl rfl 4 (by decide) (hts (.fieldLink RX0 22 "WheelSwing$Car" "frontShare" "I") (by decide +kernel)) (fun _ h9 => h9) rfl dX0_loadOf_46 ?_
    refine lv_imul hx hb dX0_loadOf_49 ?_
    refine lv_sipush (v := 1000) hx hb dX0_loadOf_50 (by decide) ?_
    refine lv_idiv hx hb dX0_loadOf_53 (by decide) ?_
    refine lv_istore (lv' := [(5, .int ((ctr * cfs) / 1000)), (4, .int (ct - ((ct * cp) / 1000))), (3, .int ((ct * cp) / 1000)), (2, .int 1), (0, .ref ca), (1, .int w)]) hx hb dX0_loadOf_54 hl (by decide) rfl (fun ls hl => ?_)
    refine lv_iload_n hx hb dX0_loadOf_56 rfl (lv_at hl 3 rfl) ?_
    refine lv_if_eq (tgt := 65) hx hb dX0_loadOf_57 (by decide) (fun c16 => absurd c16 (by decide)) (fun _ => ?_)
    refine lv_iload hx hb dX0_loadOf_60 (lv_at hl 0 rfl) ?_
    refine lv_goto (tgt := 72) hx hb dX0_loadOf_62 (by decide) ?_
    refine lv_istore (lv' := [(6, .int ((ctr * cfs) / 1000)), (5, .int ((ctr * cfs) / 1000)), (4, .int (ct - ((ct * cp) / 1000))), (3, .int ((ct * cp) / 1000)), (2, .int 1), (0, .ref ca), (1, .int w)]) hx hb dX0_loadOf_72 hl (by decide) rfl (fun ls hl => ?_)
    refine lv_iload hx hb dX0_loadOf_74 (lv_at hl 2 rfl) ?_
    refine lv_sipush (v := 500) hx hb dX0_loadOf_76 (by decide) ?_
    refine lv_aload_n hx hb dX0_loadOf_79 rfl (lv_at hl 5 rfl) ?_
    refine va_get (D := D) (ci := 0) (v := .int cr) (C := RX0) (T := TX0) (N := 5) hx hb hts hinX0 hown hw.1 hR 0 rfl rfl 2 (by decide) (hts (.fieldLink RX0 16 "WheelSwing$Car" "right" "I") (by decide +kernel)) (fun _ h9 => h9) rfl dX0_loadOf_80 ?_
    refine lv_iadd hx hb dX0_loadOf_83 ?_
    refine lv_imul hx hb dX0_loadOf_84 ?_
    refine lv_sipush (v := 1000) hx hb dX0_loadOf_85 (by decide) ?_
    refine lv_idiv hx hb dX0_loadOf_88 (by decide) ?_
    refine lv_iload hx hb dX0_loadOf_89 (lv_at hl 0 rfl) ?_
    refine lv_iadd hx hb dX0_loadOf_91 ?_
    refine lv_istore (lv' := [(7, .int ((((ct - ((ct * cp) / 1000)) * (500 + cr)) / 1000) + ((ctr * cfs) / 1000))), (6, .int ((ctr * cfs) / 1000)), (5, .int ((ctr * cfs) / 1000)), (4, .int (ct - ((ct * cp) / 1000))), (3, .int ((ct * cp) / 1000)), (2, .int 1), (0, .ref ca), (1, .int w)]) hx hb dX0_loadOf_92 hl (by decide) rfl (fun ls hl => ?_)
    refine lv_iload_n hx hb dX0_loadOf_94 rfl (lv_at hl 7 rfl) ?_
    refine lv_iconst (v := 1) hx hb dX0_loadOf_95 (by decide) ?_
    refine lv_iand hx hb dX0_loadOf_96 ?_
    refine lv_iconst (v := 1) hx hb dX0_loadOf_97 (by decide) ?_
    refine lv_icmp_ne (tgt := 105) hx hb dX0_loadOf_98 (by decide) (fun c17 => ?_) (fun c17 => ?_)
    · refine lv_iconst (v := 0) hx hb dX0_loadOf_105 (by decide) ?_
      refine lv_istore (lv' := [(8, .int 0), (7, .int ((((ct - ((ct * cp) / 1000)) * (500 + cr)) / 1000) + ((ctr * cfs) / 1000))), (6, .int ((ctr * cfs) / 1000)), (5, .int ((ctr * cfs) / 1000)), (4, .int (ct - ((ct * cp) / 1000))), (3, .int ((ct * cp) / 1000)), (2, .int 1), (0, .ref ca), (1, .int w)]) hx hb dX0_loadOf_106 hl (by decide) rfl (fun ls hl => ?_)
      refine lv_iload hx hb dX0_loadOf_108 (lv_at hl 0 rfl) ?_
      refine lv_if_eq (tgt := 118) hx hb dX0_loadOf_110 (by decide) (fun _ => ?_) (fun c19 => absurd c19 (by decide))
      refine lv_iload hx hb dX0_loadOf_118 (lv_at hl 4 rfl) ?_
      refine lv_iload hx hb dX0_loadOf_120 (lv_at hl 1 rfl) ?_
      refine lv_isub hx hb dX0_loadOf_122 ?_
      exact W.iret (v := (ct - ((ct * cp) / 1000)) - ((((ct - ((ct * cp) / 1000)) * (500 + cr)) / 1000) + ((ctr * cfs) / 1000))) hx hb hr (fun t ht hW => ⟨⟨(ct - ((ct * cp) / 1000)) - ((((ct - ((ct * cp) / 1000)) * (500 + cr)) / 1000) + ((ctr * cfs) / 1000)), (), rfl, (by unfold carL; rw [if_neg c17]; simp only [if_pos (Int32.not_le.mp c1)]), trivial⟩, hS.F ht⟩) hS.2.2 dX0_loadOf_123
    · refine lv_iconst (v := 1) hx hb dX0_loadOf_101 (by decide) ?_
      refine lv_goto (tgt := 106) hx hb dX0_loadOf_102 (by decide) ?_
      refine lv_istore (lv' := [(8, .int 1), (7, .int ((((ct - ((ct * cp) / 1000)) * (500 + cr)) / 1000) + ((ctr * cfs) / 1000))), (6, .int ((ctr * cfs) / 1000)), (5, .int ((ctr * cfs) / 1000)), (4, .int (ct - ((ct * cp) / 1000))), (3, .int ((ct * cp) / 1000)), (2, .int 1), (0, .ref ca), (1, .int w)]) hx hb dX0_loadOf_106 hl (by decide) rfl (fun ls hl => ?_)
      refine lv_iload hx hb dX0_loadOf_108 (lv_at hl 0 rfl) ?_
      refine lv_if_eq (tgt := 118) hx hb dX0_loadOf_110 (by decide) (fun c21 => absurd c21 (by decide)) (fun _ => ?_)
      refine lv_iload hx hb dX0_loadOf_113 (lv_at hl 1 rfl) ?_
      refine lv_goto (tgt := 123) hx hb dX0_loadOf_115 (by decide) ?_
      exact W.iret (v := (((ct - ((ct * cp) / 1000)) * (500 + cr)) / 1000) + ((ctr * cfs) / 1000)) hx hb hr (fun t ht hW => ⟨⟨(((ct - ((ct * cp) / 1000)) * (500 + cr)) / 1000) + ((ctr * cfs) / 1000), (), rfl, (by unfold carL; rw [if_pos c17]; simp only [if_pos (Int32.not_le.mp c1)]), trivial⟩, hS.F ht⟩) hS.2.2 dX0_loadOf_123
set_option maxHeartbeats 4000000 in
set_option maxRecDepth 100000 in
theorem mX2_becomeMirrorOf (l : Launch) (D : va_G) (cI cH : ClassId) (h0 h1 : Nat) (ux1 uy1 a1 lx1 ly1 b1 c1 sd1 g1 d1 sx1 sy1 f1 ux uy a lx ly b c sd g d sx sy f : Int32)  (hne : h1 ≠ h0) : Met l yX2_becomeMirrorOf wsX2_becomeMirrorOf ({ frames := 1, cells := 0, slots := 0, locals := 23 }) (va_Pc [.ref h0, .ref h1] (kB D cI cH [(h0, .inr (1, [.int ux1, .int uy1, .int a1, .int lx1, .int ly1, .int b1, .int c1, .int sd1, .int g1, .int d1, .int sx1, .int sy1, .int f1])), (h1, .inr (1, [.int ux, .int uy, .int a, .int lx, .int ly, .int b, .int c, .int sd, .int g, .int d, .int sx, .int sy, .int f]))])) (va_Qv (fun (u : List Value) => u = [.int (-ux), .int uy, .int a, .int (-lx), .int ly, .int b, .int c, .int (-sd), .int g, .int d, .int (-sx), .int sy, .int f]) (fun u t => va_at D vwCl (h0, .inr (1, u)) t.heap) (aE h0)) 0 0 (aE h0) := by
  refine Met.ofW (cc := cX2_becomeMirrorOf) (maxL := 2) (ret := none) (by decide) rfl ?_
  intro p e s m args below meth co s₁ B hml hv
  obtain ⟨rfl, hP0, hw⟩ := hv
  have hx := B.exec
  have hb := B.bytes
  have hr := B.returns
  have hts := atoms_spec (ws := wsX2_becomeMirrorOf) B.pre
  have hown : s.vm.findClass RX2 = some m.cls := findClass_of_methodNamed B.named
  have hlocks := B.notSynchronized
  have hinX2 : ∀ w ∈ wsX20, w ∈ wsX2_becomeMirrorOf := by decide +kernel
  have hS : va_S (aE h0) s.heap s.heap [] := va_S.rf
  have hP : va_P D vwCl [(h0, .inr (1, [.int ux1, .int uy1, .int a1, .int lx1, .int ly1, .int b1, .int c1, .int sd1, .int g1, .int d1, .int sx1, .int sy1, .int f1]))] s.heap := hP0.sub [0] rfl
  have hD : va_D (aE h0) [(h0, .inr (1, [.int ux1, .int uy1, .int a1, .int lx1, .int ly1, .int b1, .int c1, .int sd1, .int g1, .int d1, .int sx1, .int sy1, .int f1]))] := D_1 rfl
  have hR0 : va_P D vwCl [(h1, .inr (1, [.int ux, .int uy, .int a, .int lx, .int ly, .int b, .int c, .int sd, .int g, .int d, .int sx, .int sy, .int f]))] s.heap := hP0.sub [1] rfl
  have hR := hR0
  have hnr : ∀ (k : Nat) (q : Nat × va_E), ([(h1, .inr (1, [.int ux, .int uy, .int a, .int lx, .int ly, .int b, .int c, .int sd, .int g, .int d, .int sx, .int sy, .int f]))] : va_W)[k]? = some q → ¬ (aE h0) q.1 := nn_1 hne nn_0
  have hl := lv_entry ([.ref h0, .ref h1]) (n := 2) (Nat.le_of_ble_eq_true rfl)
  rw [lg_entry_eq]
  generalize (lg_sl ([.ref h0, .ref h1]) ++ List.replicate (2 - (lg_sl ([.ref h0, .ref h1])).length) Slot.unset).toArray = ls at hl ⊢
  have hl : lv_has ls 2 [(0, .ref h0), (1, .ref h1)] := hl
  skip
  refine lv_aload_n hx hb dX2_becomeMirrorOf_0 rfl (lv_at hl 0 rfl) ?_
  refine lv_aload_n hx hb dX2_becomeMirrorOf_1 rfl (lv_at hl 1 rfl) ?_
  refine va_get (D := D) (ci := 1) (v := .int ux) (C := RX2) (T := TX2) (N := 13) hx hb hts hinX2 hown hw.1 hR 0 rfl rfl 0 (by decide) (hts (.fieldLink RX2 7 "WheelSwing$Hanging" "ux" "I") (by decide +kernel)) (fun _ h9 => h9) rfl dX2_becomeMirrorOf_2 ?_
  refine lv_ineg hx hb dX2_becomeMirrorOf_5 ?_
  refine lv_aload_n hx hb dX2_becomeMirrorOf_6 rfl (lv_at hl 1 rfl) ?_
  refine va_get (D := D) (ci := 1) (v := .int uy) (C := RX2) (T := TX2) (N := 13) hx hb hts hinX2 hown hw.1 hR 0 rfl rfl 1 (by decide) (hts (.fieldLink RX2 13 "WheelSwing$Hanging" "uy" "I") (by decide +kernel)) (fun _ h9 => h9) rfl dX2_becomeMirrorOf_7 ?_
  refine lv_aload_n hx hb dX2_becomeMirrorOf_10 rfl (lv_at hl 1 rfl) ?_
  refine va_get (D := D) (ci := 1) (v := .int a) (C := RX2) (T := TX2) (N := 13) hx hb hts hinX2 hown hw.1 hR 0 rfl rfl 2 (by decide) (hts (.fieldLink RX2 16 "WheelSwing$Hanging" "a" "I") (by decide +kernel)) (fun _ h9 => h9) rfl dX2_becomeMirrorOf_11 ?_
  have hq1 : va_P D vwCl [(h0, .inr (1, [.int ux1, .int uy1, .int a1, .int lx1, .int ly1, .int b1, .int c1, .int sd1, .int g1, .int d1, .int sx1, .int sy1, .int f1]))] s.heap := hP.sub [0] rfl
  refine va_callv (va_runV (As := [.int (-ux), .int uy, .int a]) (rest := []) ⟨hx, hb, hml, hown, hts⟩ (mX2_setUpperArm l D cI cH h0 ux1 uy1 a1 lx1 ly1 b1 c1 sd1 g1 d1 sx1 sy1 f1 (-ux) uy a) (cwV 3 hts gX2_becomeMirrorOf_X2_setUpperArm rfl rfl rfl (by decide +kernel) ⟨Nat.le_of_ble_eq_true rfl, Nat.le_of_ble_eq_true rfl⟩) ⟨kB_blind, va_recv hw.1 hq1 (ci := 1) (q0 := 0) rfl rfl, kB_go hq1 hw⟩ rfl rfl hl.1 rfl (lv_room (Nat.le_of_ble_eq_true rfl)) dX2_becomeMirrorOf_14 ⟨Nat.le_of_ble_eq_true rfl, Nat.le_of_ble_eq_true rfl⟩) hS (fun q _ h => h) (fun q h => h) (fun u3 t H locs ht hvm hp4 hB hz1 hk1 hS => ?_)
  have hB : va_at D vwCl (h0, .inr (1, u3)) t.heap := hB
  rw [ht] at hB
  have hP := fr_one hB
  have hR := fr_rd hR0 hS hnr
  subst hp4
  have hP : va_P D vwCl [(h0, .inr (1, [.int (-ux), .int uy, .int a, .int lx1, .int ly1, .int b1, .int c1, .int sd1, .int g1, .int d1, .int sx1, .int sy1, .int f1]))] H := hP
  have hD : va_D (aE h0) [(h0, .inr (1, [.int (-ux), .int uy, .int a, .int lx1, .int ly1, .int b1, .int c1, .int sd1, .int g1, .int d1, .int sx1, .int sy1, .int f1]))] := D_1 rfl
  refine lv_aload_n hx hb dX2_becomeMirrorOf_17 rfl (lv_at hl 0 rfl) ?_
  refine lv_aload_n hx hb dX2_becomeMirrorOf_18 rfl (lv_at hl 1 rfl) ?_
  refine va_get (D := D) (ci := 1) (v := .int lx) (C := RX2) (T := TX2) (N := 13) hx hb hts hinX2 hown hw.1 hR 0 rfl rfl 3 (by decide) (hts (.fieldLink RX2 19 "WheelSwing$Hanging" "lx" "I") (by decide +kernel)) (fun _ h9 => h9) rfl dX2_becomeMirrorOf_19 ?_
  refine lv_ineg hx hb dX2_becomeMirrorOf_22 ?_
  refine lv_aload_n hx hb dX2_becomeMirrorOf_23 rfl (lv_at hl 1 rfl) ?_
  refine va_get (D := D) (ci := 1) (v := .int ly) (C := RX2) (T := TX2) (N := 13) hx hb hts hinX2 hown hw.1 hR 0 rfl rfl 4 (by decide) (hts (.fieldLink RX2 22 "WheelSwing$Hanging" "ly" "I") (by decide +kernel)) (fun _ h9 => h9) rfl dX2_becomeMirrorOf_24 ?_
  refine lv_aload_n hx hb dX2_becomeMirrorOf_27 rfl (lv_at hl 1 rfl) ?_
  refine va_get (D := D) (ci := 1) (v := .int b) (C := RX2) (T := TX2) (N := 13) hx hb hts hinX2 hown hw.1 hR 0 rfl rfl 5 (by decide) (hts (.fieldLink RX2 25 "WheelSwing$Hanging" "b" "I") (by decide +kernel)) (fun _ h9 => h9) rfl dX2_becomeMirrorOf_28 ?_
  have hq5 : va_P D vwCl [(h0, .inr (1, [.int (-ux), .int uy, .int a, .int lx1, .int ly1, .int b1, .int c1, .int sd1, .int g1, .int d1, .int sx1, .int sy1, .int f1]))] H := hP.sub [0] rfl
  refine va_callv (va_runV (As := [.int (-lx), .int ly, .int b]) (rest := []) ⟨hx, hb, hml, hown, hts⟩ (mX2_setLowerArm l D cI cH h0 (-ux) uy a lx1 ly1 b1 c1 sd1 g1 d1 sx1 sy1 f1 (-lx) ly b) (cwV 3 hts gX2_becomeMirrorOf_X2_setLowerArm rfl rfl rfl (by decide +kernel) ⟨Nat.le_of_ble_eq_true rfl, Nat.le_of_ble_eq_true rfl⟩) ⟨kB_blind, va_recv hw.1 hq5 (ci := 1) (q0 := 0) rfl rfl, kB_go hq5 hw⟩ rfl rfl hl.1 rfl (lv_room (Nat.le_of_ble_eq_true rfl)) dX2_becomeMirrorOf_31 ⟨Nat.le_of_ble_eq_true rfl, Nat.le_of_ble_eq_true rfl⟩) hS (fun q _ h => h) (fun q h => h) (fun u7 t H locs ht hvm hp8 hB hz1 hk1 hS => ?_)
  have hB : va_at D vwCl (h0, .inr (1, u7)) t.heap := hB
  rw [ht] at hB
  have hP := fr_one hB
  have hR := fr_rd hR0 hS hnr
  subst hp8
  have hP : va_P D vwCl [(h0, .inr (1, [.int (-ux), .int uy, .int a, .int (-lx), .int ly, .int b, .int c1, .int sd1, .int g1, .int d1, .int sx1, .int sy1, .int f1]))] H := hP
  have hD : va_D (aE h0) [(h0, .inr (1, [.int (-ux), .int uy, .int a, .int (-lx), .int ly, .int b, .int c1, .int sd1, .int g1, .int d1, .int sx1, .int sy1, .int f1]))] := D_1 rfl
  refine lv_aload_n hx hb dX2_becomeMirrorOf_34 rfl (lv_at hl 0 rfl) ?_
  refine lv_aload_n hx hb dX2_becomeMirrorOf_35 rfl (lv_at hl 1 rfl) ?_
  refine va_get (D := D) (ci := 1) (v := .int c) (C := RX2) (T := TX2) (N := 13) hx hb hts hinX2 hown hw.1 hR 0 rfl rfl 6 (by decide) (hts (.fieldLink RX2 28 "WheelSwing$Hanging" "c" "I") (by decide +kernel)) (fun _ h9 => h9) rfl dX2_becomeMirrorOf_36 ?_
  refine lv_aload_n hx hb dX2_becomeMirrorOf_39 rfl (lv_at hl 1 rfl) ?_
  refine va_get (D := D) (ci := 1) (v := .int sd) (C := RX2) (T := TX2) (N := 13) hx hb hts hinX2 hown hw.1 hR 0 rfl rfl 7 (by decide) (hts (.fieldLink RX2 31 "WheelSwing$Hanging" "side" "I") (by decide +kernel)) (fun _ h9 => h9) rfl dX2_becomeMirrorOf_40 ?_
  refine lv_ineg hx hb dX2_becomeMirrorOf_43 ?_
  have hq9 : va_P D vwCl [(h0, .inr (1, [.int (-ux), .int uy, .int a, .int (-lx), .int ly, .int b, .int c1, .int sd1, .int g1, .int d1, .int sx1, .int sy1, .int f1]))] H := hP.sub [0] rfl
  refine va_callv (va_runV (As := [.int c, .int (-sd)]) (rest := []) ⟨hx, hb, hml, hown, hts⟩ (mX2_setUpright l D cI cH h0 (-ux) uy a (-lx) ly b c1 sd1 g1 d1 sx1 sy1 f1 c (-sd)) (cwV 2 hts gX2_becomeMirrorOf_X2_setUpright rfl rfl rfl (by decide +kernel) ⟨Nat.le_of_ble_eq_true rfl, Nat.le_of_ble_eq_true rfl⟩) ⟨kB_blind, va_recv hw.1 hq9 (ci := 1) (q0 := 0) rfl rfl, kB_go hq9 hw⟩ rfl rfl hl.1 rfl (lv_room (Nat.le_of_ble_eq_true rfl)) dX2_becomeMirrorOf_44 ⟨Nat.le_of_ble_eq_true rfl, Nat.le_of_ble_eq_true rfl⟩) hS (fun q _ h => h) (fun q h => h) (fun u11 t H locs ht hvm hp12 hB hz1 hk1 hS => ?_)
  have hB : va_at D vwCl (h0, .inr (1, u11)) t.heap := hB
  rw [ht] at hB
  have hP := fr_one hB
  have hR := fr_rd hR0 hS hnr
  subst hp12
  have hP : va_P D vwCl [(h0, .inr (1, [.int (-ux), .int uy, .int a, .int (-lx), .int ly, .int b, .int c, .int (-sd), .int g1, .int d1, .int sx1, .int sy1, .int f1]))] H := hP
  have hD : va_D (aE h0) [(h0, .inr (1, [.int (-ux), .int uy, .int a, .int (-lx), .int ly, .int b, .int c, .int (-sd), .int g1, .int d1, .int sx1, .int sy1, .int f1]))] := D_1 rfl
  refine lv_aload_n hx hb dX2_becomeMirrorOf_47 rfl (lv_at hl 0 rfl) ?_
  refine lv_aload_n hx hb dX2_becomeMirrorOf_48 rfl (lv_at hl 1 rfl) ?_
  refine va_get (D := D) (ci := 1) (v := .int g) (C := RX2) (T := TX2) (N := 13) hx hb hts hinX2 hown hw.1 hR 0 rfl rfl 8 (by decide) (hts (.fieldLink RX2 34 "WheelSwing$Hanging" "g" "I") (by decide +kernel)) (fun _ h9 => h9) rfl dX2_becomeMirrorOf_49 ?_
  refine lv_aload_n hx hb dX2_becomeMirrorOf_52 rfl (lv_at hl 1 rfl) ?_
  refine va_get (D := D) (ci := 1) (v := .int d) (C := RX2) (T := TX2) (N := 13) hx hb hts hinX2 hown hw.1 hR 0 rfl rfl 9 (by decide) (hts (.fieldLink RX2 37 "WheelSwing$Hanging" "d" "I") (by decide +kernel)) (fun _ h9 => h9) rfl dX2_becomeMirrorOf_53 ?_
  have hq13 : va_P D vwCl [(h0, .inr (1, [.int (-ux), .int uy, .int a, .int (-lx), .int ly, .int b, .int c, .int (-sd), .int g1, .int d1, .int sx1, .int sy1, .int f1]))] H := hP.sub [0] rfl
  refine va_callv (va_runV (As := [.int g, .int d]) (rest := []) ⟨hx, hb, hml, hown, hts⟩ (mX2_setRoadPoint l D cI cH h0 (-ux) uy a (-lx) ly b c (-sd) g1 d1 sx1 sy1 f1 g d) (cwV 2 hts gX2_becomeMirrorOf_X2_setRoadPoint rfl rfl rfl (by decide +kernel) ⟨Nat.le_of_ble_eq_true rfl, Nat.le_of_ble_eq_true rfl⟩) ⟨kB_blind, va_recv hw.1 hq13 (ci := 1) (q0 := 0) rfl rfl, kB_go hq13 hw⟩ rfl rfl hl.1 rfl (lv_room (Nat.le_of_ble_eq_true rfl)) dX2_becomeMirrorOf_56 ⟨Nat.le_of_ble_eq_true rfl, Nat.le_of_ble_eq_true rfl⟩) hS (fun q _ h => h) (fun q h => h) (fun u15 t H locs ht hvm hp16 hB hz1 hk1 hS => ?_)
  have hB : va_at D vwCl (h0, .inr (1, u15)) t.heap := hB
  rw [ht] at hB
  have hP := fr_one hB
  have hR := fr_rd hR0 hS hnr
  subst hp16
  have hP : va_P D vwCl [(h0, .inr (1, [.int (-ux), .int uy, .int a, .int (-lx), .int ly, .int b, .int c, .int (-sd), .int g, .int d, .int sx1, .int sy1, .int f1]))] H := hP
  have hD : va_D (aE h0) [(h0, .inr (1, [.int (-ux), .int uy, .int a, .int (-lx), .int ly, .int b, .int c, .int (-sd), .int g, .int d, .int sx1, .int sy1, .int f1]))] := D_1 rfl
  refine lv_aload_n hx hb dX2_becomeMirrorOf_59 rfl (lv_at hl 0 rfl) ?_
  refine lv_aload_n hx hb dX2_becomeMirrorOf_60 rfl (lv_at hl 1 rfl) ?_
  refine va_get (D := D) (ci := 1) (v := .int sx) (C := RX2) (T := TX2) (N := 13) hx hb hts hinX2 hown hw.1 hR 0 rfl rfl 10 (by decide) (hts (.fieldLink RX2 40 "WheelSwing$Hanging" "sx" "I") (by decide +kernel)) (fun _ h9 => h9) rfl dX2_becomeMirrorOf_61 ?_
  refine lv_ineg hx hb dX2_becomeMirrorOf_64 ?_
  refine lv_aload_n hx hb dX2_becomeMirrorOf_65 rfl (lv_at hl 1 rfl) ?_
  refine va_get (D := D) (ci := 1) (v := .int sy) (C := RX2) (T := TX2) (N := 13) hx hb hts hinX2 hown hw.1 hR 0 rfl rfl 11 (by decide) (hts (.fieldLink RX2 43 "WheelSwing$Hanging" "sy" "I") (by decide +kernel)) (fun _ h9 => h9) rfl dX2_becomeMirrorOf_66 ?_
  refine lv_aload_n hx hb dX2_becomeMirrorOf_69 rfl (lv_at hl 1 rfl) ?_
  refine va_get (D := D) (ci := 1) (v := .int f) (C := RX2) (T := TX2) (N := 13) hx hb hts hinX2 hown hw.1 hR 0 rfl rfl 12 (by decide) (hts (.fieldLink RX2 46 "WheelSwing$Hanging" "f" "I") (by decide +kernel)) (fun _ h9 => h9) rfl dX2_becomeMirrorOf_70 ?_
  have hq17 : va_P D vwCl [(h0, .inr (1, [.int (-ux), .int uy, .int a, .int (-lx), .int ly, .int b, .int c, .int (-sd), .int g, .int d, .int sx1, .int sy1, .int f1]))] H := hP.sub [0] rfl
  refine va_callv (va_runV (As := [.int (-sx), .int sy, .int f]) (rest := []) ⟨hx, hb, hml, hown, hts⟩ (mX2_setSpring l D cI cH h0 (-ux) uy a (-lx) ly b c (-sd) g d sx1 sy1 f1 (-sx) sy f) (cwV 3 hts gX2_becomeMirrorOf_X2_setSpring rfl rfl rfl (by decide +kernel) ⟨Nat.le_of_ble_eq_true rfl, Nat.le_of_ble_eq_true rfl⟩) ⟨kB_blind, va_recv hw.1 hq17 (ci := 1) (q0 := 0) rfl rfl, kB_go hq17 hw⟩ rfl rfl hl.1 rfl (lv_room (Nat.le_of_ble_eq_true rfl)) dX2_becomeMirrorOf_73 ⟨Nat.le_of_ble_eq_true rfl, Nat.le_of_ble_eq_true rfl⟩) hS (fun q _ h => h) (fun q h => h) (fun u19 t H locs ht hvm hp20 hB hz1 hk1 hS => ?_)
  have hB : va_at D vwCl (h0, .inr (1, u19)) t.heap := hB
  rw [ht] at hB
  have hP := fr_one hB
  have hR := fr_rd hR0 hS hnr
  subst hp20
  have hP : va_P D vwCl [(h0, .inr (1, [.int (-ux), .int uy, .int a, .int (-lx), .int ly, .int b, .int c, .int (-sd), .int g, .int d, .int (-sx), .int sy, .int f]))] H := hP
  have hD : va_D (aE h0) [(h0, .inr (1, [.int (-ux), .int uy, .int a, .int (-lx), .int ly, .int b, .int c, .int (-sd), .int g, .int d, .int (-sx), .int sy, .int f]))] := D_1 rfl
  exact W.vret hx hb hr (fun t ht hW => ⟨⟨[.int (-ux), .int uy, .int a, .int (-lx), .int ly, .int b, .int c, .int (-sd), .int g, .int d, .int (-sx), .int sy, .int f], rfl, rfl, at_heap ht (hP 0 _ rfl)⟩, hS.F ht⟩) hS.2.2 dX2_becomeMirrorOf_76
set_option maxHeartbeats 4000000 in
set_option maxRecDepth 100000 in
theorem mX2_mirrorSelf (l : Launch) (D : va_G) (cI cH : ClassId) (h0 : Nat) (ux uy a lx ly b c sd g d sx sy f : Int32)  : Met l yX2_becomeMirrorOf wsX2_becomeMirrorOf ({ frames := 1, cells := 0, slots := 0, locals := 23 }) (va_Pc [.ref h0, .ref h0] (kB D cI cH [(h0, .inr (1, [.int ux, .int uy, .int a, .int lx, .int ly, .int b, .int c, .int sd, .int g, .int d, .int sx, .int sy, .int f]))])) (va_Qv (fun (u : List Value) => u = [.int (-ux), .int uy, .int a, .int (-lx), .int ly, .int b, .int c, .int (-sd), .int g, .int d, .int (-sx), .int sy, .int f]) (fun u t => va_at D vwCl (h0, .inr (1, u)) t.heap) (aE h0)) 0 0 (aE h0) := by
  refine Met.ofW (cc := cX2_becomeMirrorOf) (maxL := 2) (ret := none) (by decide) rfl ?_
  intro p e s m args below meth co s₁ B hml hv
  obtain ⟨rfl, hP0, hw⟩ := hv
  have hx := B.exec
  have hb := B.bytes
  have hr := B.returns
  have hts := atoms_spec (ws := wsX2_becomeMirrorOf) B.pre
  have hown : s.vm.findClass RX2 = some m.cls := findClass_of_methodNamed B.named
  have hlocks := B.notSynchronized
  have hinX2 : ∀ w ∈ wsX20, w ∈ wsX2_becomeMirrorOf := by decide +kernel
  have hS : va_S (aE h0) s.heap s.heap [] := va_S.rf
  have hP : va_P D vwCl [(h0, .inr (1, [.int ux, .int uy, .int a, .int lx, .int ly, .int b, .int c, .int sd, .int g, .int d, .int sx, .int sy, .int f]))] s.heap := hP0.sub [0] rfl
  have hD : va_D (aE h0) [(h0, .inr (1, [.int ux, .int uy, .int a, .int lx, .int ly, .int b, .int c, .int sd, .int g, .int d, .int sx, .int sy, .int f]))] := D_1 rfl
  have hl := lv_entry ([.ref h0, .ref h0]) (n := 2) (Nat.le_of_ble_eq_true rfl)
  rw [lg_entry_eq]
  generalize (lg_sl ([.ref h0, .ref h0]) ++ List.replicate (2 - (lg_sl ([.ref h0, .ref h0])).length) Slot.unset).toArray = ls at hl ⊢
  have hl : lv_has ls 2 [(0, .ref h0), (1, .ref h0)] := hl
  skip
  refine lv_aload_n hx hb dX2_becomeMirrorOf_0 rfl (lv_at hl 0 rfl) ?_
  refine lv_aload_n hx hb dX2_becomeMirrorOf_1 rfl (lv_at hl 1 rfl) ?_
  refine va_get (D := D) (ci := 1) (v := .int ux) (C := RX2) (T := TX2) (N := 13) hx hb hts hinX2 hown hw.1 hP 0 rfl rfl 0 (by decide) (hts (.fieldLink RX2 7 "WheelSwing$Hanging" "ux" "I") (by decide +kernel)) (fun _ h9 => h9) rfl dX2_becomeMirrorOf_2 ?_
  refine lv_ineg hx hb dX2_becomeMirrorOf_5 ?_
  refine lv_aload_n hx hb dX2_becomeMirrorOf_6 rfl (lv_at hl 1 rfl) ?_
  refine va_get (D := D) (ci := 1) (v := .int uy) (C := RX2) (T := TX2) (N := 13) hx hb hts hinX2 hown hw.1 hP 0 rfl rfl 1 (by decide) (hts (.fieldLink RX2 13 "WheelSwing$Hanging" "uy" "I") (by decide +kernel)) (fun _ h9 => h9) rfl dX2_becomeMirrorOf_7 ?_
  refine lv_aload_n hx hb dX2_becomeMirrorOf_10 rfl (lv_at hl 1 rfl) ?_
  refine va_get (D := D) (ci := 1) (v := .int a) (C := RX2) (T := TX2) (N := 13) hx hb hts hinX2 hown hw.1 hP 0 rfl rfl 2 (by decide) (hts (.fieldLink RX2 16 "WheelSwing$Hanging" "a" "I") (by decide +kernel)) (fun _ h9 => h9) rfl dX2_becomeMirrorOf_11 ?_
  have hq1 : va_P D vwCl [(h0, .inr (1, [.int ux, .int uy, .int a, .int lx, .int ly, .int b, .int c, .int sd, .int g, .int d, .int sx, .int sy, .int f]))] s.heap := hP.sub [0] rfl
  refine va_callv (va_runV (As := [.int (-ux), .int uy, .int a]) (rest := []) ⟨hx, hb, hml, hown, hts⟩ (mX2_setUpperArm l D cI cH h0 ux uy a lx ly b c sd g d sx sy f (-ux) uy a) (cwV 3 hts gX2_becomeMirrorOf_X2_setUpperArm rfl rfl rfl (by decide +kernel) ⟨Nat.le_of_ble_eq_true rfl, Nat.le_of_ble_eq_true rfl⟩) ⟨kB_blind, va_recv hw.1 hq1 (ci := 1) (q0 := 0) rfl rfl, kB_go hq1 hw⟩ rfl rfl hl.1 rfl (lv_room (Nat.le_of_ble_eq_true rfl)) dX2_becomeMirrorOf_14 ⟨Nat.le_of_ble_eq_true rfl, Nat.le_of_ble_eq_true rfl⟩) hS (fun q _ h => h) (fun q h => h) (fun u3 t H locs ht hvm hp4 hB hz1 hk1 hS => ?_)
  have hB : va_at D vwCl (h0, .inr (1, u3)) t.heap := hB
  rw [ht] at hB
  have hP := fr_one hB
  subst hp4
  have hP : va_P D vwCl [(h0, .inr (1, [.int (-ux), .int uy, .int a, .int lx, .int ly, .int b, .int c, .int sd, .int g, .int d, .int sx, .int sy, .int f]))] H := hP
  have hD : va_D (aE h0) [(h0, .inr (1, [.int (-ux), .int uy, .int a, .int lx, .int ly, .int b, .int c, .int sd, .int g, .int d, .int sx, .int sy, .int f]))] := D_1 rfl
  refine lv_aload_n hx hb dX2_becomeMirrorOf_17 rfl (lv_at hl 0 rfl) ?_
  refine lv_aload_n hx hb dX2_becomeMirrorOf_18 rfl (lv_at hl 1 rfl) ?_
  refine va_get (D := D) (ci := 1) (v := .int lx) (C := RX2) (T := TX2) (N := 13) hx hb hts hinX2 hown hw.1 hP 0 rfl rfl 3 (by decide) (hts (.fieldLink RX2 19 "WheelSwing$Hanging" "lx" "I") (by decide +kernel)) (fun _ h9 => h9) rfl dX2_becomeMirrorOf_19 ?_
  refine lv_ineg hx hb dX2_becomeMirrorOf_22 ?_
  refine lv_aload_n hx hb dX2_becomeMirrorOf_23 rfl (lv_at hl 1 rfl) ?_
  refine va_get (D := D) (ci := 1) (v := .int ly) (C := RX2) (T := TX2) (N := 13) hx hb hts hinX2 hown hw.1 hP 0 rfl rfl 4 (by decide) (hts (.fieldLink RX2 22 "WheelSwing$Hanging" "ly" "I") (by decide +kernel)) (fun _ h9 => h9) rfl dX2_becomeMirrorOf_24 ?_
  refine lv_aload_n hx hb dX2_becomeMirrorOf_27 rfl (lv_at hl 1 rfl) ?_
  refine va_get (D := D) (ci := 1) (v := .int b) (C := RX2) (T := TX2) (N := 13) hx hb hts hinX2 hown hw.1 hP 0 rfl rfl 5 (by decide) (hts (.fieldLink RX2 25 "WheelSwing$Hanging" "b" "I") (by decide +kernel)) (fun _ h9 => h9) rfl dX2_becomeMirrorOf_28 ?_
  have hq5 : va_P D vwCl [(h0, .inr (1, [.int (-ux), .int uy, .int a, .int lx, .int ly, .int b, .int c, .int sd, .int g, .int d, .int sx, .int sy, .int f]))] H := hP.sub [0] rfl
  refine va_callv (va_runV (As := [.int (-lx), .int ly, .int b]) (rest := []) ⟨hx, hb, hml, hown, hts⟩ (mX2_setLowerArm l D cI cH h0 (-ux) uy a lx ly b c sd g d sx sy f (-lx) ly b) (cwV 3 hts gX2_becomeMirrorOf_X2_setLowerArm rfl rfl rfl (by decide +kernel) ⟨Nat.le_of_ble_eq_true rfl, Nat.le_of_ble_eq_true rfl⟩) ⟨kB_blind, va_recv hw.1 hq5 (ci := 1) (q0 := 0) rfl rfl, kB_go hq5 hw⟩ rfl rfl hl.1 rfl (lv_room (Nat.le_of_ble_eq_true rfl)) dX2_becomeMirrorOf_31 ⟨Nat.le_of_ble_eq_true rfl, Nat.le_of_ble_eq_true rfl⟩) hS (fun q _ h => h) (fun q h => h) (fun u7 t H locs ht hvm hp8 hB hz1 hk1 hS => ?_)
  have hB : va_at D vwCl (h0, .inr (1, u7)) t.heap := hB
  rw [ht] at hB
  have hP := fr_one hB
  subst hp8
  have hP : va_P D vwCl [(h0, .inr (1, [.int (-ux), .int uy, .int a, .int (-lx), .int ly, .int b, .int c, .int sd, .int g, .int d, .int sx, .int sy, .int f]))] H := hP
  have hD : va_D (aE h0) [(h0, .inr (1, [.int (-ux), .int uy, .int a, .int (-lx), .int ly, .int b, .int c, .int sd, .int g, .int d, .int sx, .int sy, .int f]))] := D_1 rfl
  refine lv_aload_n hx hb dX2_becomeMirrorOf_34 rfl (lv_at hl 0 rfl) ?_
  refine lv_aload_n hx hb dX2_becomeMirrorOf_35 rfl (lv_at hl 1 rfl) ?_
  refine va_get (D := D) (ci := 1) (v := .int c) (C := RX2) (T := TX2) (N := 13) hx hb hts hinX2 hown hw.1 hP 0 rfl rfl 6 (by decide) (hts (.fieldLink RX2 28 "WheelSwing$Hanging" "c" "I") (by decide +kernel)) (fun _ h9 => h9) rfl dX2_becomeMirrorOf_36 ?_
  refine lv_aload_n hx hb dX2_becomeMirrorOf_39 rfl (lv_at hl 1 rfl) ?_
  refine va_get (D := D) (ci := 1) (v := .int sd) (C := RX2) (T := TX2) (N := 13) hx hb hts hinX2 hown hw.1 hP 0 rfl rfl 7 (by decide) (hts (.fieldLink RX2 31 "WheelSwing$Hanging" "side" "I") (by decide +kernel)) (fun _ h9 => h9) rfl dX2_becomeMirrorOf_40 ?_
  refine lv_ineg hx hb dX2_becomeMirrorOf_43 ?_
  have hq9 : va_P D vwCl [(h0, .inr (1, [.int (-ux), .int uy, .int a, .int (-lx), .int ly, .int b, .int c, .int sd, .int g, .int d, .int sx, .int sy, .int f]))] H := hP.sub [0] rfl
  refine va_callv (va_runV (As := [.int c, .int (-sd)]) (rest := []) ⟨hx, hb, hml, hown, hts⟩ (mX2_setUpright l D cI cH h0 (-ux) uy a (-lx) ly b c sd g d sx sy f c (-sd)) (cwV 2 hts gX2_becomeMirrorOf_X2_setUpright rfl rfl rfl (by decide +kernel) ⟨Nat.le_of_ble_eq_true rfl, Nat.le_of_ble_eq_true rfl⟩) ⟨kB_blind, va_recv hw.1 hq9 (ci := 1) (q0 := 0) rfl rfl, kB_go hq9 hw⟩ rfl rfl hl.1 rfl (lv_room (Nat.le_of_ble_eq_true rfl)) dX2_becomeMirrorOf_44 ⟨Nat.le_of_ble_eq_true rfl, Nat.le_of_ble_eq_true rfl⟩) hS (fun q _ h => h) (fun q h => h) (fun u11 t H locs ht hvm hp12 hB hz1 hk1 hS => ?_)
  have hB : va_at D vwCl (h0, .inr (1, u11)) t.heap := hB
  rw [ht] at hB
  have hP := fr_one hB
  subst hp12
  have hP : va_P D vwCl [(h0, .inr (1, [.int (-ux), .int uy, .int a, .int (-lx), .int ly, .int b, .int c, .int (-sd), .int g, .int d, .int sx, .int sy, .int f]))] H := hP
  have hD : va_D (aE h0) [(h0, .inr (1, [.int (-ux), .int uy, .int a, .int (-lx), .int ly, .int b, .int c, .int (-sd), .int g, .int d, .int sx, .int sy, .int f]))] := D_1 rfl
  refine lv_aload_n hx hb dX2_becomeMirrorOf_47 rfl (lv_at hl 0 rfl) ?_
  refine lv_aload_n hx hb dX2_becomeMirrorOf_48 rfl (lv_at hl 1 rfl) ?_
  refine va_get (D := D) (ci := 1) (v := .int g) (C := RX2) (T := TX2) (N := 13) hx hb hts hinX2 hown hw.1 hP 0 rfl rfl 8 (by decide) (hts (.fieldLink RX2 34 "WheelSwing$Hanging" "g" "I") (by decide +kernel)) (fun _ h9 => h9) rfl dX2_becomeMirrorOf_49 ?_
  refine lv_aload_n hx hb dX2_becomeMirrorOf_52 rfl (lv_at hl 1 rfl) ?_
  refine va_get (D := D) (ci := 1) (v := .int d) (C := RX2) (T := TX2) (N := 13) hx hb hts hinX2 hown hw.1 hP 0 rfl rfl 9 (by decide) (hts (.fieldLink RX2 37 "WheelSwing$Hanging" "d" "I") (by decide +kernel)) (fun _ h9 => h9) rfl dX2_becomeMirrorOf_53 ?_
  have hq13 : va_P D vwCl [(h0, .inr (1, [.int (-ux), .int uy, .int a, .int (-lx), .int ly, .int b, .int c, .int (-sd), .int g, .int d, .int sx, .int sy, .int f]))] H := hP.sub [0] rfl
  refine va_callv (va_runV (As := [.int g, .int d]) (rest := []) ⟨hx, hb, hml, hown, hts⟩ (mX2_setRoadPoint l D cI cH h0 (-ux) uy a (-lx) ly b c (-sd) g d sx sy f g d) (cwV 2 hts gX2_becomeMirrorOf_X2_setRoadPoint rfl rfl rfl (by decide +kernel) ⟨Nat.le_of_ble_eq_true rfl, Nat.le_of_ble_eq_true rfl⟩) ⟨kB_blind, va_recv hw.1 hq13 (ci := 1) (q0 := 0) rfl rfl, kB_go hq13 hw⟩ rfl rfl hl.1 rfl (lv_room (Nat.le_of_ble_eq_true rfl)) dX2_becomeMirrorOf_56 ⟨Nat.le_of_ble_eq_true rfl, Nat.le_of_ble_eq_true rfl⟩) hS (fun q _ h => h) (fun q h => h) (fun u15 t H locs ht hvm hp16 hB hz1 hk1 hS => ?_)
  have hB : va_at D vwCl (h0, .inr (1, u15)) t.heap := hB
  rw [ht] at hB
  have hP := fr_one hB
  subst hp16
  have hP : va_P D vwCl [(h0, .inr (1, [.int (-ux), .int uy, .int a, .int (-lx), .int ly, .int b, .int c, .int (-sd), .int g, .int d, .int sx, .int sy, .int f]))] H := hP
  have hD : va_D (aE h0) [(h0, .inr (1, [.int (-ux), .int uy, .int a, .int (-lx), .int ly, .int b, .int c, .int (-sd), .int g, .int d, .int sx, .int sy, .int f]))] := D_1 rfl
  refine lv_aload_n hx hb dX2_becomeMirrorOf_59 rfl (lv_at hl 0 rfl) ?_
  refine lv_aload_n hx hb dX2_becomeMirrorOf_60 rfl (lv_at hl 1 rfl) ?_
  refine va_get (D := D) (ci := 1) (v := .int sx) (C := RX2) (T := TX2) (N := 13) hx hb hts hinX2 hown hw.1 hP 0 rfl rfl 10 (by decide) (hts (.fieldLink RX2 40 "WheelSwing$Hanging" "sx" "I") (by decide +kernel)) (fun _ h9 => h9) rfl dX2_becomeMirrorOf_61 ?_
  refine lv_ineg hx hb dX2_becomeMirrorOf_64 ?_
  refine lv_aload_n hx hb dX2_becomeMirrorOf_65 rfl (lv_at hl 1 rfl) ?_
  refine va_get (D := D) (ci := 1) (v := .int sy) (C := RX2) (T := TX2) (N := 13) hx hb hts hinX2 hown hw.1 hP 0 rfl rfl 11 (by decide) (hts (.fieldLink RX2 43 "WheelSwing$Hanging" "sy" "I") (by decide +kernel)) (fun _ h9 => h9) rfl dX2_becomeMirrorOf_66 ?_
  refine lv_aload_n hx hb dX2_becomeMirrorOf_69 rfl (lv_at hl 1 rfl) ?_
  refine va_get (D := D) (ci := 1) (v := .int f) (C := RX2) (T := TX2) (N := 13) hx hb hts hinX2 hown hw.1 hP 0 rfl rfl 12 (by decide) (hts (.fieldLink RX2 46 "WheelSwing$Hanging" "f" "I") (by decide +kernel)) (fun _ h9 => h9) rfl dX2_becomeMirrorOf_70 ?_
  have hq17 : va_P D vwCl [(h0, .inr (1, [.int (-ux), .int uy, .int a, .int (-lx), .int ly, .int b, .int c, .int (-sd), .int g, .int d, .int sx, .int sy, .int f]))] H := hP.sub [0] rfl
  refine va_callv (va_runV (As := [.int (-sx), .int sy, .int f]) (rest := []) ⟨hx, hb, hml, hown, hts⟩ (mX2_setSpring l D cI cH h0 (-ux) uy a (-lx) ly b c (-sd) g d sx sy f (-sx) sy f) (cwV 3 hts gX2_becomeMirrorOf_X2_setSpring rfl rfl rfl (by decide +kernel) ⟨Nat.le_of_ble_eq_true rfl, Nat.le_of_ble_eq_true rfl⟩) ⟨kB_blind, va_recv hw.1 hq17 (ci := 1) (q0 := 0) rfl rfl, kB_go hq17 hw⟩ rfl rfl hl.1 rfl (lv_room (Nat.le_of_ble_eq_true rfl)) dX2_becomeMirrorOf_73 ⟨Nat.le_of_ble_eq_true rfl, Nat.le_of_ble_eq_true rfl⟩) hS (fun q _ h => h) (fun q h => h) (fun u19 t H locs ht hvm hp20 hB hz1 hk1 hS => ?_)
  have hB : va_at D vwCl (h0, .inr (1, u19)) t.heap := hB
  rw [ht] at hB
  have hP := fr_one hB
  subst hp20
  have hP : va_P D vwCl [(h0, .inr (1, [.int (-ux), .int uy, .int a, .int (-lx), .int ly, .int b, .int c, .int (-sd), .int g, .int d, .int (-sx), .int sy, .int f]))] H := hP
  have hD : va_D (aE h0) [(h0, .inr (1, [.int (-ux), .int uy, .int a, .int (-lx), .int ly, .int b, .int c, .int (-sd), .int g, .int d, .int (-sx), .int sy, .int f]))] := D_1 rfl
  exact W.vret hx hb hr (fun t ht hW => ⟨⟨[.int (-ux), .int uy, .int a, .int (-lx), .int ly, .int b, .int c, .int (-sd), .int g, .int d, .int (-sx), .int sy, .int f], rfl, rfl, at_heap ht (hP 0 _ rfl)⟩, hS.F ht⟩) hS.2.2 dX2_becomeMirrorOf_76
def mxH (h : Int64) (ux uy a lx ly b c sd g d sx sy f : Int32) : Int64 := mx (mx (mx (mx (mx (mx (mx (mx (mx (mx (mx (mx (mx h ux) uy) lx) ly) a) b) c) sd) g) d) sx) sy) f
set_option maxHeartbeats 4000000 in
set_option maxRecDepth 100000 in
theorem mX2_mixInto (l : Launch) (D : va_G) (cI cH : ClassId) (hg : Nat) (ux uy a lx ly b c sd g d sx sy f : Int32) (h : Int64)  : Met l yX2_mixInto wsX2_mixInto ({ frames := 1, cells := 0, slots := 0, locals := 22 }) (va_Pc [.ref hg, .long h] (kB D cI cH [(hg, .inr (1, [.int ux, .int uy, .int a, .int lx, .int ly, .int b, .int c, .int sd, .int g, .int d, .int sx, .int sy, .int f]))])) (va_Ql (fun (r : Int64) (u : Unit) => r = mxH h ux uy a lx ly b c sd g d sx sy f) (fun _ _ => True) nA) 0 0 nA := by
  refine Met.ofW (cc := cX2_mixInto) (maxL := 5) (ret := (some .long)) (by decide) rfl ?_
  intro p e s m args below meth co s₁ B hml hv
  obtain ⟨rfl, hP0, hw⟩ := hv
  have hx := B.exec
  have hb := B.bytes
  have hr := B.returns
  have hts := atoms_spec (ws := wsX2_mixInto) B.pre
  have hown : s.vm.findClass RX2 = some m.cls := findClass_of_methodNamed B.named
  have hlocks := B.notSynchronized
  have hinX2 : ∀ w ∈ wsX20, w ∈ wsX2_mixInto := by decide +kernel
  have hS : va_S nA s.heap s.heap [] := va_S.rf
  have hR0 : va_P D vwCl [(hg, .inr (1, [.int ux, .int uy, .int a, .int lx, .int ly, .int b, .int c, .int sd, .int g, .int d, .int sx, .int sy, .int f]))] s.heap := hP0.sub [0] rfl
  have hR := hR0
  have hnr : ∀ (k : Nat) (q : Nat × va_E), ([(hg, .inr (1, [.int ux, .int uy, .int a, .int lx, .int ly, .int b, .int c, .int sd, .int g, .int d, .int sx, .int sy, .int f]))] : va_W)[k]? = some q → ¬ nA q.1 := fr_nA
  have hl := lv_entry ([.ref hg, .long h]) (n := 5) (Nat.le_of_ble_eq_true rfl)
  rw [lg_entry_eq]
  generalize (lg_sl ([.ref hg, .long h]) ++ List.replicate (5 - (lg_sl ([.ref hg, .long h])).length) Slot.unset).toArray = ls at hl ⊢
  have hl : lv_has ls 5 [(0, .ref hg), (1, .long h)] := hl
  skip
  refine lv_lload_n hx hb dX2_mixInto_0 rfl (lv_at hl 1 rfl) ?_
  refine lv_aload_n hx hb dX2_mixInto_1 rfl (lv_at hl 0 rfl) ?_
  refine va_get (D := D) (ci := 1) (v := .int ux) (C := RX2) (T := TX2) (N := 13) hx hb hts hinX2 hown hw.1 hR 0 rfl rfl 0 (by decide) (hts (.fieldLink RX2 7 "WheelSwing$Hanging" "ux" "I") (by decide +kernel)) (fun _ h9 => h9) rfl dX2_mixInto_2 ?_
  refine va_calll (va_runSN (As := [.long h, .int ux]) (rest := []) ⟨hx, hb, hml, hown, hts⟩ (mX6_mix l h ux) (⟨va_cnB 2 hts gX2_mixInto_X6_mix_n66 rfl rfl rfl (hw.2 (.methodLinkNest RX2 66 yX6_mix "WheelSwing") (by decide +kernel)) (hts (.initialized RX6) (by decide +kernel)) (by decide +kernel) ⟨Nat.le_of_ble_eq_true rfl, Nat.le_of_ble_eq_true rfl⟩, hts (.static yX6_mix) (by decide +kernel), trivial⟩) ⟨tB_blind, tB_go⟩ rfl rfl hl.1 rfl (lv_room (Nat.le_of_ble_eq_true rfl)) dX2_mixInto_5 ⟨Nat.le_of_ble_eq_true rfl, Nat.le_of_ble_eq_true rfl⟩) hS (fun q _ h => h.elim) (fun q h => h.elim) (fun r1 u2 t H locs ht hvm hp3 hB hz1 hk1 hS => ?_)
  have hR := fr_rd hR0 hS hnr
  have hp3 : r1 = mx h ux := hp3
  subst hp3
  refine lv_aload_n hx hb dX2_mixInto_8 rfl (lv_at hl 0 rfl) ?_
  refine va_get (D := D) (ci := 1) (v := .int uy) (C := RX2) (T := TX2) (N := 13) hx hb hts hinX2 hown hw.1 hR 0 rfl rfl 1 (by decide) (hts (.fieldLink RX2 13 "WheelSwing$Hanging" "uy" "I") (by decide +kernel)) (fun _ h9 => h9) rfl dX2_mixInto_9 ?_
  refine va_calll (va_runSN (As := [.long (mx h ux), .int uy]) (rest := []) ⟨hx, hb, hml, hown, hts⟩ (mX6_mix l (mx h ux) uy) (⟨va_cnB 2 hts gX2_mixInto_X6_mix_n66 rfl rfl rfl (hw.2 (.methodLinkNest RX2 66 yX6_mix "WheelSwing") (by decide +kernel)) (hts (.initialized RX6) (by decide +kernel)) (by decide +kernel) ⟨Nat.le_of_ble_eq_true rfl, Nat.le_of_ble_eq_true rfl⟩, hts (.static yX6_mix) (by decide +kernel), trivial⟩) ⟨tB_blind, tB_go⟩ rfl rfl hl.1 rfl (lv_room (Nat.le_of_ble_eq_true rfl)) dX2_mixInto_12 ⟨Nat.le_of_ble_eq_true rfl, Nat.le_of_ble_eq_true rfl⟩) hS (fun q _ h => h.elim) (fun q h => h.elim) (fun r4 u5 t H locs ht hvm hp6 hB hz1 hk1 hS => ?_)
  have hR := fr_rd hR0 hS hnr
  have hp6 : r4 = mx (mx h ux) uy := hp6
  subst hp6
  refine lv_aload_n hx hb dX2_mixInto_15 rfl (lv_at hl 0 rfl) ?_
  refine va_get (D := D) (ci := 1) (v := .int lx) (C := RX2) (T := TX2) (N := 13) hx hb hts hinX2 hown hw.1 hR 0 rfl rfl 3 (by decide) (hts (.fieldLink RX2 19 "WheelSwing$Hanging" "lx" "I") (by decide +kernel)) (fun _ h9 => h9) rfl dX2_mixInto_16 ?_
  refine va_calll (va_runSN (As := [.long (mx (mx h ux) uy), .int lx]) (rest := []) ⟨hx, hb, hml, hown, hts⟩ (mX6_mix l (mx (mx h ux) uy) lx) (⟨va_cnB 2 hts gX2_mixInto_X6_mix_n66 rfl rfl rfl (hw.2 (.methodLinkNest RX2 66 yX6_mix "WheelSwing") (by decide +kernel)) (hts (.initialized RX6) (by decide +kernel)) (by decide +kernel) ⟨Nat.le_of_ble_eq_true rfl, Nat.le_of_ble_eq_true rfl⟩, hts (.static yX6_mix) (by decide +kernel), trivial⟩) ⟨tB_blind, tB_go⟩ rfl rfl hl.1 rfl (lv_room (Nat.le_of_ble_eq_true rfl)) dX2_mixInto_19 ⟨Nat.le_of_ble_eq_true rfl, Nat.le_of_ble_eq_true rfl⟩) hS (fun q _ h => h.elim) (fun q h => h.elim) (fun r7 u8 t H locs ht hvm hp9 hB hz1 hk1 hS => ?_)
  have hR := fr_rd hR0 hS hnr
  have hp9 : r7 = mx (mx (mx h ux) uy) lx := hp9
  subst hp9
  refine lv_aload_n hx hb dX2_mixInto_22 rfl (lv_at hl 0 rfl) ?_
  refine va_get (D := D) (ci := 1) (v := .int ly) (C := RX2) (T := TX2) (N := 13) hx hb hts hinX2 hown hw.1 hR 0 rfl rfl 4 (by decide) (hts (.fieldLink RX2 22 "WheelSwing$Hanging" "ly" "I") (by decide +kernel)) (fun _ h9 => h9) rfl dX2_mixInto_23 ?_
  refine va_calll (va_runSN (As := [.long (mx (mx (mx h ux) uy) lx), .int ly]) (rest := []) ⟨hx, hb, hml, hown, hts⟩ (mX6_mix l (mx (mx (mx h ux) uy) lx) ly) (⟨va_cnB 2 hts gX2_mixInto_X6_mix_n66 rfl rfl rfl (hw.2 (.methodLinkNest RX2 66 yX6_mix "WheelSwing") (by decide +kernel)) (hts (.initialized RX6) (by decide +kernel)) (by decide +kernel) ⟨Nat.le_of_ble_eq_true rfl, Nat.le_of_ble_eq_true rfl⟩, hts (.static yX6_mix) (by decide +kernel), trivial⟩) ⟨tB_blind, tB_go⟩ rfl rfl hl.1 rfl (lv_room (Nat.le_of_ble_eq_true rfl)) dX2_mixInto_26 ⟨Nat.le_of_ble_eq_true rfl, Nat.le_of_ble_eq_true rfl⟩) hS (fun q _ h => h.elim) (fun q h => h.elim) (fun r10 u11 t H locs ht hvm hp12 hB hz1 hk1 hS => ?_)
  have hR := fr_rd hR0 hS hnr
  have hp12 : r10 = mx (mx (mx (mx h ux) uy) lx) ly := hp12
  subst hp12
  refine lv_lstore_n (lv' := [(3, .long (mx (mx (mx (mx h ux) uy) lx) ly)), (0, .ref hg), (1, .long h)]) hx hb dX2_mixInto_29 rfl hl (by decide) rfl (fun ls hl => ?_)
  refine lv_lload_n hx hb dX2_mixInto_30 rfl (lv_at hl 0 rfl) ?_
  refine lv_aload_n hx hb dX2_mixInto_31 rfl (lv_at hl 1 rfl) ?_
  refine va_get (D := D) (ci := 1) (v := .int a) (C := RX2) (T := TX2) (N := 13) hx hb hts hinX2 hown hw.1 hR 0 rfl rfl 2 (by decide) (hts (.fieldLink RX2 16 "WheelSwing$Hanging" "a" "I") (by decide +kernel)) (fun _ h9 => h9) rfl dX2_mixInto_32 ?_
  refine va_calll (va_runSN (As := [.long (mx (mx (mx (mx h ux) uy) lx) ly), .int a]) (rest := []) ⟨hx, hb, hml, hown, hts⟩ (mX6_mix l (mx (mx (mx (mx h ux) uy) lx) ly) a) (⟨va_cnB 2 hts gX2_mixInto_X6_mix_n66 rfl rfl rfl (hw.2 (.methodLinkNest RX2 66 yX6_mix "WheelSwing") (by decide +kernel)) (hts (.initialized RX6) (by decide +kernel)) (by decide +kernel) ⟨Nat.le_of_ble_eq_true rfl, Nat.le_of_ble_eq_true rfl⟩, hts (.static yX6_mix) (by decide +kernel), trivial⟩) ⟨tB_blind, tB_go⟩ rfl rfl hl.1 rfl (lv_room (Nat.le_of_ble_eq_true rfl)) dX2_mixInto_35 ⟨Nat.le_of_ble_eq_true rfl, Nat.le_of_ble_eq_true rfl⟩) hS (fun q _ h => h.elim) (fun q h => h.elim) (fun r13 u14 t H locs ht hvm hp15 hB hz1 hk1 hS => ?_)
  have hR := fr_rd hR0 hS hnr
  have hp15 : r13 = mx (mx (mx (mx (mx h ux) uy) lx) ly) a := hp15
  subst hp15
  refine lv_aload_n hx hb dX2_mixInto_38 rfl (lv_at hl 1 rfl) ?_
  refine va_get (D := D) (ci := 1) (v := .int b) (C := RX2) (T := TX2) (N := 13) hx hb hts hinX2 hown hw.1 hR 0 rfl rfl 5 (by decide) (hts (.fieldLink RX2 25 "WheelSwing$Hanging" "b" "I") (by decide +kernel)) (fun _ h9 => h9) rfl dX2_mixInto_39 ?_
  refine va_calll (va_runSN (As := [.long (mx (mx (mx (mx (mx h ux) uy) lx) ly) a), .int b]) (rest := []) ⟨hx, hb, hml, hown, hts⟩ (mX6_mix l (mx (mx (mx (mx (mx h ux) uy) lx) ly) a) b) (⟨va_cnB 2 hts gX2_mixInto_X6_mix_n66 rfl rfl rfl (hw.2 (.methodLinkNest RX2 66 yX6_mix "WheelSwing") (by decide +kernel)) (hts (.initialized RX6) (by decide +kernel)) (by decide +kernel) ⟨Nat.le_of_ble_eq_true rfl, Nat.le_of_ble_eq_true rfl⟩, hts (.static yX6_mix) (by decide +kernel), trivial⟩) ⟨tB_blind, tB_go⟩ rfl rfl hl.1 rfl (lv_room (Nat.le_of_ble_eq_true rfl)) dX2_mixInto_42 ⟨Nat.le_of_ble_eq_true rfl, Nat.le_of_ble_eq_true rfl⟩) hS (fun q _ h => h.elim) (fun q h => h.elim) (fun r16 u17 t H locs ht hvm hp18 hB hz1 hk1 hS => ?_)
  have hR := fr_rd hR0 hS hnr
  have hp18 : r16 = mx (mx (mx (mx (mx (mx h ux) uy) lx) ly) a) b := hp18
  subst hp18
  refine lv_aload_n hx hb dX2_mixInto_45 rfl (lv_at hl 1 rfl) ?_
  refine va_get (D := D) (ci := 1) (v := .int c) (C := RX2) (T := TX2) (N := 13) hx hb hts hinX2 hown hw.1 hR 0 rfl rfl 6 (by decide) (hts (.fieldLink RX2 28 "WheelSwing$Hanging" "c" "I") (by decide +kernel)) (fun _ h9 => h9) rfl dX2_mixInto_46 ?_
  refine va_calll (va_runSN (As := [.long (mx (mx (mx (mx (mx (mx h ux) uy) lx) ly) a) b), .int c]) (rest := []) ⟨hx, hb, hml, hown, hts⟩ (mX6_mix l (mx (mx (mx (mx (mx (mx h ux) uy) lx) ly) a) b) c) (⟨va_cnB 2 hts gX2_mixInto_X6_mix_n66 rfl rfl rfl (hw.2 (.methodLinkNest RX2 66 yX6_mix "WheelSwing") (by decide +kernel)) (hts (.initialized RX6) (by decide +kernel)) (by decide +kernel) ⟨Nat.le_of_ble_eq_true rfl, Nat.le_of_ble_eq_true rfl⟩, hts (.static yX6_mix) (by decide +kernel), trivial⟩) ⟨tB_blind, tB_go⟩ rfl rfl hl.1 rfl (lv_room (Nat.le_of_ble_eq_true rfl)) dX2_mixInto_49 ⟨Nat.le_of_ble_eq_true rfl, Nat.le_of_ble_eq_true rfl⟩) hS (fun q _ h => h.elim) (fun q h => h.elim) (fun r19 u20 t H locs ht hvm hp21 hB hz1 hk1 hS => ?_)
  have hR := fr_rd hR0 hS hnr
  have hp21 : r19 = mx (mx (mx (mx (mx (mx (mx h ux) uy) lx) ly) a) b) c := hp21
  subst hp21
  refine lv_aload_n hx hb dX2_mixInto_52 rfl (lv_at hl 1 rfl) ?_
  refine va_get (D := D) (ci := 1) (v := .int sd) (C := RX2) (T := TX2) (N := 13) hx hb hts hinX2 hown hw.1 hR 0 rfl rfl 7 (by decide) (hts (.fieldLink RX2 31 "WheelSwing$Hanging" "side" "I") (by decide +kernel)) (fun _ h9 => h9) rfl dX2_mixInto_53 ?_
  refine va_calll (va_runSN (As := [.long (mx (mx (mx (mx (mx (mx (mx h ux) uy) lx) ly) a) b) c), .int sd]) (rest := []) ⟨hx, hb, hml, hown, hts⟩ (mX6_mix l (mx (mx (mx (mx (mx (mx (mx h ux) uy) lx) ly) a) b) c) sd) (⟨va_cnB 2 hts gX2_mixInto_X6_mix_n66 rfl rfl rfl (hw.2 (.methodLinkNest RX2 66 yX6_mix "WheelSwing") (by decide +kernel)) (hts (.initialized RX6) (by decide +kernel)) (by decide +kernel) ⟨Nat.le_of_ble_eq_true rfl, Nat.le_of_ble_eq_true rfl⟩, hts (.static yX6_mix) (by decide +kernel), trivial⟩) ⟨tB_blind, tB_go⟩ rfl rfl hl.1 rfl (lv_room (Nat.le_of_ble_eq_true rfl)) dX2_mixInto_56 ⟨Nat.le_of_ble_eq_true rfl, Nat.le_of_ble_eq_true rfl⟩) hS (fun q _ h => h.elim) (fun q h => h.elim) (fun r22 u23 t H locs ht hvm hp24 hB hz1 hk1 hS => ?_)
  have hR := fr_rd hR0 hS hnr
  have hp24 : r22 = mx (mx (mx (mx (mx (mx (mx (mx h ux) uy) lx) ly) a) b) c) sd := hp24
  subst hp24
  refine lv_lstore_n (lv' := [(3, .long (mx (mx (mx (mx (mx (mx (mx (mx h ux) uy) lx) ly) a) b) c) sd)), (0, .ref hg), (1, .long h)]) hx hb dX2_mixInto_59 rfl hl (by decide) rfl (fun ls hl => ?_)
  refine lv_lload_n hx hb dX2_mixInto_60 rfl (lv_at hl 0 rfl) ?_
  refine lv_aload_n hx hb dX2_mixInto_61 rfl (lv_at hl 1 rfl) ?_
  refine va_get (D := D) (ci := 1) (v := .int g) (C := RX2) (T := TX2) (N := 13) hx hb hts hinX2 hown hw.1 hR 0 rfl rfl 8 (by decide) (hts (.fieldLink RX2 34 "WheelSwing$Hanging" "g" "I") (by decide +kernel)) (fun _ h9 => h9) rfl dX2_mixInto_62 ?_
  refine va_calll (va_runSN (As := [.long (mx (mx (mx (mx (mx (mx (mx (mx h ux) uy) lx) ly) a) b) c) sd), .int g]) (rest := []) ⟨hx, hb, hml, hown, hts⟩ (mX6_mix l (mx (mx (mx (mx (mx (mx (mx (mx h ux) uy) lx) ly) a) b) c) sd) g) (⟨va_cnB 2 hts gX2_mixInto_X6_mix_n66 rfl rfl rfl (hw.2 (.methodLinkNest RX2 66 yX6_mix "WheelSwing") (by decide +kernel)) (hts (.initialized RX6) (by decide +kernel)) (by decide +kernel) ⟨Nat.le_of_ble_eq_true rfl, Nat.le_of_ble_eq_true rfl⟩, hts (.static yX6_mix) (by decide +kernel), trivial⟩) ⟨tB_blind, tB_go⟩ rfl rfl hl.1 rfl (lv_room (Nat.le_of_ble_eq_true rfl)) dX2_mixInto_65 ⟨Nat.le_of_ble_eq_true rfl, Nat.le_of_ble_eq_true rfl⟩) hS (fun q _ h => h.elim) (fun q h => h.elim) (fun r25 u26 t H locs ht hvm hp27 hB hz1 hk1 hS => ?_)
  have hR := fr_rd hR0 hS hnr
  have hp27 : r25 = mx (mx (mx (mx (mx (mx (mx (mx (mx h ux) uy) lx) ly) a) b) c) sd) g := hp27
  subst hp27
  refine lv_aload_n hx hb dX2_mixInto_68 rfl (lv_at hl 1 rfl) ?_
  refine va_get (D := D) (ci := 1) (v := .int d) (C := RX2) (T := TX2) (N := 13) hx hb hts hinX2 hown hw.1 hR 0 rfl rfl 9 (by decide) (hts (.fieldLink RX2 37 "WheelSwing$Hanging" "d" "I") (by decide +kernel)) (fun _ h9 => h9) rfl dX2_mixInto_69 ?_
  refine va_calll (va_runSN (As := [.long (mx (mx (mx (mx (mx (mx (mx (mx (mx h ux) uy) lx) ly) a) b) c) sd) g), .int d]) (rest := []) ⟨hx, hb, hml, hown, hts⟩ (mX6_mix l (mx (mx (mx (mx (mx (mx (mx (mx (mx h ux) uy) lx) ly) a) b) c) sd) g) d) (⟨va_cnB 2 hts gX2_mixInto_X6_mix_n66 rfl rfl rfl (hw.2 (.methodLinkNest RX2 66 yX6_mix "WheelSwing") (by decide +kernel)) (hts (.initialized RX6) (by decide +kernel)) (by decide +kernel) ⟨Nat.le_of_ble_eq_true rfl, Nat.le_of_ble_eq_true rfl⟩, hts (.static yX6_mix) (by decide +kernel), trivial⟩) ⟨tB_blind, tB_go⟩ rfl rfl hl.1 rfl (lv_room (Nat.le_of_ble_eq_true rfl)) dX2_mixInto_72 ⟨Nat.le_of_ble_eq_true rfl, Nat.le_of_ble_eq_true rfl⟩) hS (fun q _ h => h.elim) (fun q h => h.elim) (fun r28 u29 t H locs ht hvm hp30 hB hz1 hk1 hS => ?_)
  have hR := fr_rd hR0 hS hnr
  have hp30 : r28 = mx (mx (mx (mx (mx (mx (mx (mx (mx (mx h ux) uy) lx) ly) a) b) c) sd) g) d := hp30
  subst hp30
  refine lv_lstore_n (lv' := [(3, .long (mx (mx (mx (mx (mx (mx (mx (mx (mx (mx h ux) uy) lx) ly) a) b) c) sd) g) d)), (0, .ref hg), (1, .long h)]) hx hb dX2_mixInto_75 rfl hl (by decide) rfl (fun ls hl => ?_)
  refine lv_lload_n hx hb dX2_mixInto_76 rfl (lv_at hl 0 rfl) ?_
  refine lv_aload_n hx hb dX2_mixInto_77 rfl (lv_at hl 1 rfl) ?_
  refine va_get (D := D) (ci := 1) (v := .int sx) (C := RX2) (T := TX2) (N := 13) hx hb hts hinX2 hown hw.1 hR 0 rfl rfl 10 (by decide) (hts (.fieldLink RX2 40 "WheelSwing$Hanging" "sx" "I") (by decide +kernel)) (fun _ h9 => h9) rfl dX2_mixInto_78 ?_
  refine va_calll (va_runSN (As := [.long (mx (mx (mx (mx (mx (mx (mx (mx (mx (mx h ux) uy) lx) ly) a) b) c) sd) g) d), .int sx]) (rest := []) ⟨hx, hb, hml, hown, hts⟩ (mX6_mix l (mx (mx (mx (mx (mx (mx (mx (mx (mx (mx h ux) uy) lx) ly) a) b) c) sd) g) d) sx) (⟨va_cnB 2 hts gX2_mixInto_X6_mix_n66 rfl rfl rfl (hw.2 (.methodLinkNest RX2 66 yX6_mix "WheelSwing") (by decide +kernel)) (hts (.initialized RX6) (by decide +kernel)) (by decide +kernel) ⟨Nat.le_of_ble_eq_true rfl, Nat.le_of_ble_eq_true rfl⟩, hts (.static yX6_mix) (by decide +kernel), trivial⟩) ⟨tB_blind, tB_go⟩ rfl rfl hl.1 rfl (lv_room (Nat.le_of_ble_eq_true rfl)) dX2_mixInto_81 ⟨Nat.le_of_ble_eq_true rfl, Nat.le_of_ble_eq_true rfl⟩) hS (fun q _ h => h.elim) (fun q h => h.elim) (fun r31 u32 t H locs ht hvm hp33 hB hz1 hk1 hS => ?_)
  have hR := fr_rd hR0 hS hnr
  have hp33 : r31 = mx (mx (mx (mx (mx (mx (mx (mx (mx (mx (mx h ux) uy) lx) ly) a) b) c) sd) g) d) sx := hp33
  subst hp33
  refine lv_aload_n hx hb dX2_mixInto_84 rfl (lv_at hl 1 rfl) ?_
  refine va_get (D := D) (ci := 1) (v := .int sy) (C := RX2) (T := TX2) (N := 13) hx hb hts hinX2 hown hw.1 hR 0 rfl rfl 11 (by decide) (hts (.fieldLink RX2 43 "WheelSwing$Hanging" "sy" "I") (by decide +kernel)) (fun _ h9 => h9) rfl dX2_mixInto_85 ?_
  refine va_calll (va_runSN (As := [.long (mx (mx (mx (mx (mx (mx (mx (mx (mx (mx (mx h ux) uy) lx) ly) a) b) c) sd) g) d) sx), .int sy]) (rest := []) ⟨hx, hb, hml, hown, hts⟩ (mX6_mix l (mx (mx (mx (mx (mx (mx (mx (mx (mx (mx (mx h ux) uy) lx) ly) a) b) c) sd) g) d) sx) sy) (⟨va_cnB 2 hts gX2_mixInto_X6_mix_n66 rfl rfl rfl (hw.2 (.methodLinkNest RX2 66 yX6_mix "WheelSwing") (by decide +kernel)) (hts (.initialized RX6) (by decide +kernel)) (by decide +kernel) ⟨Nat.le_of_ble_eq_true rfl, Nat.le_of_ble_eq_true rfl⟩, hts (.static yX6_mix) (by decide +kernel), trivial⟩) ⟨tB_blind, tB_go⟩ rfl rfl hl.1 rfl (lv_room (Nat.le_of_ble_eq_true rfl)) dX2_mixInto_88 ⟨Nat.le_of_ble_eq_true rfl, Nat.le_of_ble_eq_true rfl⟩) hS (fun q _ h => h.elim) (fun q h => h.elim) (fun r34 u35 t H locs ht hvm hp36 hB hz1 hk1 hS => ?_)
  have hR := fr_rd hR0 hS hnr
  have hp36 : r34 = mx (mx (mx (mx (mx (mx (mx (mx (mx (mx (mx (mx h ux) uy) lx) ly) a) b) c) sd) g) d) sx) sy := hp36
  subst hp36
  refine lv_aload_n hx hb dX2_mixInto_91 rfl (lv_at hl 1 rfl) ?_
  refine va_get (D := D) (ci := 1) (v := .int f) (C := RX2) (T := TX2) (N := 13) hx hb hts hinX2 hown hw.1 hR 0 rfl rfl 12 (by decide) (hts (.fieldLink RX2 46 "WheelSwing$Hanging" "f" "I") (by decide +kernel)) (fun _ h9 => h9) rfl dX2_mixInto_92 ?_
  refine va_calll (va_runSN (As := [.long (mx (mx (mx (mx (mx (mx (mx (mx (mx (mx (mx (mx h ux) uy) lx) ly) a) b) c) sd) g) d) sx) sy), .int f]) (rest := []) ⟨hx, hb, hml, hown, hts⟩ (mX6_mix l (mx (mx (mx (mx (mx (mx (mx (mx (mx (mx (mx (mx h ux) uy) lx) ly) a) b) c) sd) g) d) sx) sy) f) (⟨va_cnB 2 hts gX2_mixInto_X6_mix_n66 rfl rfl rfl (hw.2 (.methodLinkNest RX2 66 yX6_mix "WheelSwing") (by decide +kernel)) (hts (.initialized RX6) (by decide +kernel)) (by decide +kernel) ⟨Nat.le_of_ble_eq_true rfl, Nat.le_of_ble_eq_true rfl⟩, hts (.static yX6_mix) (by decide +kernel), trivial⟩) ⟨tB_blind, tB_go⟩ rfl rfl hl.1 rfl (lv_room (Nat.le_of_ble_eq_true rfl)) dX2_mixInto_95 ⟨Nat.le_of_ble_eq_true rfl, Nat.le_of_ble_eq_true rfl⟩) hS (fun q _ h => h.elim) (fun q h => h.elim) (fun r37 u38 t H locs ht hvm hp39 hB hz1 hk1 hS => ?_)
  have hR := fr_rd hR0 hS hnr
  have hp39 : r37 = mx (mx (mx (mx (mx (mx (mx (mx (mx (mx (mx (mx (mx h ux) uy) lx) ly) a) b) c) sd) g) d) sx) sy) f := hp39
  subst hp39
  exact W.lret (v := mx (mx (mx (mx (mx (mx (mx (mx (mx (mx (mx (mx (mx h ux) uy) lx) ly) a) b) c) sd) g) d) sx) sy) f) hx hb hr (fun t ht hW => ⟨⟨mx (mx (mx (mx (mx (mx (mx (mx (mx (mx (mx (mx (mx h ux) uy) lx) ly) a) b) c) sd) g) d) sx) sy) f, (), rfl, rfl, trivial⟩, hS.F ht⟩) hS.2.2 dX2_mixInto_98
def bcF (x : Int32) : Int32 := (((((((x - ((ush x 1) &&& 1431655765)) &&& 858993459) + ((ush (x - ((ush x 1) &&& 1431655765)) 2) &&& 858993459)) + (ush (((x - ((ush x 1) &&& 1431655765)) &&& 858993459) + ((ush (x - ((ush x 1) &&& 1431655765)) 2) &&& 858993459)) 4)) &&& 252645135) + (ush (((((x - ((ush x 1) &&& 1431655765)) &&& 858993459) + ((ush (x - ((ush x 1) &&& 1431655765)) 2) &&& 858993459)) + (ush (((x - ((ush x 1) &&& 1431655765)) &&& 858993459) + ((ush (x - ((ush x 1) &&& 1431655765)) 2) &&& 858993459)) 4)) &&& 252645135) 8)) + (ush ((((((x - ((ush x 1) &&& 1431655765)) &&& 858993459) + ((ush (x - ((ush x 1) &&& 1431655765)) 2) &&& 858993459)) + (ush (((x - ((ush x 1) &&& 1431655765)) &&& 858993459) + ((ush (x - ((ush x 1) &&& 1431655765)) 2) &&& 858993459)) 4)) &&& 252645135) + (ush (((((x - ((ush x 1) &&& 1431655765)) &&& 858993459) + ((ush (x - ((ush x 1) &&& 1431655765)) 2) &&& 858993459)) + (ush (((x - ((ush x 1) &&& 1431655765)) &&& 858993459) + ((ush (x - ((ush x 1) &&& 1431655765)) 2) &&& 858993459)) 4)) &&& 252645135) 8)) 16)) &&& 63
set_option maxHeartbeats 4000000 in
set_option maxRecDepth 100000 in
theorem mJ6_bitCount_0f7a4 (l : Launch) (x : Int32)  : Met l yJ6_bitCount_0f7a4 wsJ6_bitCount_0f7a4 ({ frames := 0, cells := 0, slots := 0, locals := 0 }) (va_Pc [.int x] (fun _ => True)) (va_Qi (fun (r : Int32) (u : Unit) => r = bcF x) (fun _ _ => True) nA) 0 0 nA := by
  refine Met.ofW (cc := cJ6_bitCount_0f7a4) (maxL := 1) (ret := (some .int)) (by decide) rfl ?_
  intro p e s m args below meth co s₁ B hml hv
  obtain ⟨rfl, -⟩ := hv
  have hx := B.exec
  have hb := B.bytes
  have hr := B.returns
  have hts := atoms_spec (ws := wsJ6_bitCount_0f7a4) B.pre
  have hown : s.vm.findClass RJ6 = some m.cls := findClass_of_methodNamed B.named
  have hlocks := B.notSynchronized
  have hS : va_S nA s.heap s.heap [] := va_S.rf
  have hl := lv_entry ([.int x]) (n := 1) (Nat.le_of_ble_eq_true rfl)
  rw [lg_entry_eq]
  generalize (lg_sl ([.int x]) ++ List.replicate (1 - (lg_sl ([.int x])).length) Slot.unset).toArray = ls at hl ⊢
  have hl : lv_has ls 1 [(0, .int x)] := hl
  skip
  refine lv_iload_n hx hb dJ6_bitCount_0f7a4_0 rfl (lv_at hl 0 rfl) ?_
  refine lv_iload_n hx hb dJ6_bitCount_0f7a4_1 rfl (lv_at hl 0 rfl) ?_
  refine lv_iconst (v := 1) hx hb dJ6_bitCount_0f7a4_2 (by decide) ?_
  refine lv_iushr (v := ush x 1) hx hb dJ6_bitCount_0f7a4_3 rfl ?_
  refine lv_ldcw hx hb hown (hts (.constant RJ6 265 (1431655765)) (by decide +kernel)) dJ6_bitCount_0f7a4_4 ?_
  refine lv_iand hx hb dJ6_bitCount_0f7a4_7 ?_
  refine lv_isub hx hb dJ6_bitCount_0f7a4_8 ?_
  refine lv_istore_n (lv' := [(0, .int (x - ((ush x 1) &&& 1431655765)))]) hx hb dJ6_bitCount_0f7a4_9 rfl hl (by decide) rfl (fun ls hl => ?_)
  refine lv_iload_n hx hb dJ6_bitCount_0f7a4_10 rfl (lv_at hl 0 rfl) ?_
  refine lv_ldcw hx hb hown (hts (.constant RJ6 266 (858993459)) (by decide +kernel)) dJ6_bitCount_0f7a4_11 ?_
  refine lv_iand hx hb dJ6_bitCount_0f7a4_14 ?_
  refine lv_iload_n hx hb dJ6_bitCount_0f7a4_15 rfl (lv_at hl 0 rfl) ?_
  refine lv_iconst (v := 2) hx hb dJ6_bitCount_0f7a4_16 (by decide) ?_
  refine lv_iushr (v := ush (x - ((ush x 1) &&& 1431655765)) 2) hx hb dJ6_bitCount_0f7a4_17 rfl ?_
  refine lv_ldcw hx hb hown (hts (.constant RJ6 266 (858993459)) (by decide +kernel)) dJ6_bitCount_0f7a4_18 ?_
  refine lv_iand hx hb dJ6_bitCount_0f7a4_21 ?_
  refine lv_iadd hx hb dJ6_bitCount_0f7a4_22 ?_
  refine lv_istore_n (lv' := [(0, .int (((x - ((ush x 1) &&& 1431655765)) &&& 858993459) + ((ush (x - ((ush x 1) &&& 1431655765)) 2) &&& 858993459)))]) hx hb dJ6_bitCount_0f7a4_23 rfl hl (by decide) rfl (fun ls hl => ?_)
  refine lv_iload_n hx hb dJ6_bitCount_0f7a4_24 rfl (lv_at hl 0 rfl) ?_
  refine lv_iload_n hx hb dJ6_bitCount_0f7a4_25 rfl (lv_at hl 0 rfl) ?_
  refine lv_iconst (v := 4) hx hb dJ6_bitCount_0f7a4_26 (by decide) ?_
  refine lv_iushr (v := ush (((x - ((ush x 1) &&& 1431655765)) &&& 858993459) + ((ush (x - ((ush x 1) &&& 1431655765)) 2) &&& 858993459)) 4) hx hb dJ6_bitCount_0f7a4_27 rfl ?_
  refine lv_iadd hx hb dJ6_bitCount_0f7a4_28 ?_
  refine lv_ldcw hx hb hown (hts (.constant RJ6 267 (252645135)) (by decide +kernel)) dJ6_bitCount_0f7a4_29 ?_
  refine lv_iand hx hb dJ6_bitCount_0f7a4_32 ?_
  refine lv_istore_n (lv' := [(0, .int (((((x - ((ush x 1) &&& 1431655765)) &&& 858993459) + ((ush (x - ((ush x 1) &&& 1431655765)) 2) &&& 858993459)) + (ush (((x - ((ush x 1) &&& 1431655765)) &&& 858993459) + ((ush (x - ((ush x 1) &&& 1431655765)) 2) &&& 858993459)) 4)) &&& 252645135))]) hx hb dJ6_bitCount_0f7a4_33 rfl hl (by decide) rfl (fun ls hl => ?_)
  refine lv_iload_n hx hb dJ6_bitCount_0f7a4_34 rfl (lv_at hl 0 rfl) ?_
  refine lv_iload_n hx hb dJ6_bitCount_0f7a4_35 rfl (lv_at hl 0 rfl) ?_
  refine lv_bipush (v := 8) hx hb dJ6_bitCount_0f7a4_36 (by decide) ?_
  refine lv_iushr (v := ush (((((x - ((ush x 1) &&& 1431655765)) &&& 858993459) + ((ush (x - ((ush x 1) &&& 1431655765)) 2) &&& 858993459)) + (ush (((x - ((ush x 1) &&& 1431655765)) &&& 858993459) + ((ush (x - ((ush x 1) &&& 1431655765)) 2) &&& 858993459)) 4)) &&& 252645135) 8) hx hb dJ6_bitCount_0f7a4_38 rfl ?_
  refine lv_iadd hx hb dJ6_bitCount_0f7a4_39 ?_
  refine lv_istore_n (lv' := [(0, .int ((((((x - ((ush x 1) &&& 1431655765)) &&& 858993459) + ((ush (x - ((ush x 1) &&& 1431655765)) 2) &&& 858993459)) + (ush (((x - ((ush x 1) &&& 1431655765)) &&& 858993459) + ((ush (x - ((ush x 1) &&& 1431655765)) 2) &&& 858993459)) 4)) &&& 252645135) + (ush (((((x - ((ush x 1) &&& 1431655765)) &&& 858993459) + ((ush (x - ((ush x 1) &&& 1431655765)) 2) &&& 858993459)) + (ush (((x - ((ush x 1) &&& 1431655765)) &&& 858993459) + ((ush (x - ((ush x 1) &&& 1431655765)) 2) &&& 858993459)) 4)) &&& 252645135) 8)))]) hx hb dJ6_bitCount_0f7a4_40 rfl hl (by decide) rfl (fun ls hl => ?_)
  refine lv_iload_n hx hb dJ6_bitCount_0f7a4_41 rfl (lv_at hl 0 rfl) ?_
  refine lv_iload_n hx hb dJ6_bitCount_0f7a4_42 rfl (lv_at hl 0 rfl) ?_
  refine lv_bipush (v := 16) hx hb dJ6_bitCount_0f7a4_43 (by decide) ?_
  refine lv_iushr (v := ush ((((((x - ((ush x 1) &&& 1431655765)) &&& 858993459) + ((ush (x - ((ush x 1) &&& 1431655765)) 2) &&& 858993459)) + (ush (((x - ((ush x 1) &&& 1431655765)) &&& 858993459) + ((ush (x - ((ush x 1) &&& 1431655765)) 2) &&& 858993459)) 4)) &&& 252645135) + (ush (((((x - ((ush x 1) &&& 1431655765)) &&& 858993459) + ((ush (x - ((ush x 1) &&& 1431655765)) 2) &&& 858993459)) + (ush (((x - ((ush x 1) &&& 1431655765)) &&& 858993459) + ((ush (x - ((ush x 1) &&& 1431655765)) 2) &&& 858993459)) 4)) &&& 252645135) 8)) 16) hx hb dJ6_bitCount_0f7a4_45 rfl ?_
  refine lv_iadd hx hb dJ6_bitCount_0f7a4_46 ?_
  refine lv_istore_n (lv' := [(0, .int (((((((x - ((ush x 1) &&& 1431655765)) &&& 858993459) + ((ush (x - ((ush x 1) &&& 1431655765)) 2) &&& 858993459)) + (ush (((x - ((ush x 1) &&& 1431655765)) &&& 858993459) + ((ush (x - ((ush x 1) &&& 1431655765)) 2) &&& 858993459)) 4)) &&& 252645135) + (ush (((((x - ((ush x 1) &&& 1431655765)) &&& 858993459) + ((ush (x - ((ush x 1) &&& 1431655765)) 2) &&& 858993459)) + (ush (((x - ((ush x 1) &&& 1431655765)) &&& 858993459) + ((ush (x - ((ush x 1) &&& 1431655765)) 2) &&& 858993459)) 4)) &&& 252645135) 8)) + (ush ((((((x - ((ush x 1) &&& 1431655765)) &&& 858993459) + ((ush (x - ((ush x 1) &&& 1431655765)) 2) &&& 858993459)) + (ush (((x - ((ush x 1) &&& 1431655765)) &&& 858993459) + ((ush (x - ((ush x 1) &&& 1431655765)) 2) &&& 858993459)) 4)) &&& 252645135) + (ush (((((x - ((ush x 1) &&& 1431655765)) &&& 858993459) + ((ush (x - ((ush x 1) &&& 1431655765)) 2) &&& 858993459)) + (ush (((x - ((ush x 1) &&& 1431655765)) &&& 858993459) + ((ush (x - ((ush x 1) &&& 1431655765)) 2) &&& 858993459)) 4)) &&& 252645135) 8)) 16)))]) hx hb dJ6_bitCount_0f7a4_47 rfl hl (by decide) rfl (fun ls hl => ?_)
  refine lv_iload_n hx hb dJ6_bitCount_0f7a4_48 rfl (lv_at hl 0 rfl) ?_
  refine lv_bipush (v := 63) hx hb dJ6_bitCount_0f7a4_49 (by decide) ?_
  refine lv_iand hx hb dJ6_bitCount_0f7a4_51 ?_
  exact W.iret (v := (((((((x - ((ush x 1) &&& 1431655765)) &&& 858993459) + ((ush (x - ((ush x 1) &&& 1431655765)) 2) &&& 858993459)) + (ush (((x - ((ush x 1) &&& 1431655765)) &&& 858993459) + ((ush (x - ((ush x 1) &&& 1431655765)) 2) &&& 858993459)) 4)) &&& 252645135) + (ush (((((x - ((ush x 1) &&& 1431655765)) &&& 858993459) + ((ush (x - ((ush x 1) &&& 1431655765)) 2) &&& 858993459)) + (ush (((x - ((ush x 1) &&& 1431655765)) &&& 858993459) + ((ush (x - ((ush x 1) &&& 1431655765)) 2) &&& 858993459)) 4)) &&& 252645135) 8)) + (ush ((((((x - ((ush x 1) &&& 1431655765)) &&& 858993459) + ((ush (x - ((ush x 1) &&& 1431655765)) 2) &&& 858993459)) + (ush (((x - ((ush x 1) &&& 1431655765)) &&& 858993459) + ((ush (x - ((ush x 1) &&& 1431655765)) 2) &&& 858993459)) 4)) &&& 252645135) + (ush (((((x - ((ush x 1) &&& 1431655765)) &&& 858993459) + ((ush (x - ((ush x 1) &&& 1431655765)) 2) &&& 858993459)) + (ush (((x - ((ush x 1) &&& 1431655765)) &&& 858993459) + ((ush (x - ((ush x 1) &&& 1431655765)) 2) &&& 858993459)) 4)) &&& 252645135) 8)) 16)) &&& 63) hx hb hr (fun t ht hW => ⟨⟨(((((((x - ((ush x 1) &&& 1431655765)) &&& 858993459) + ((ush (x - ((ush x 1) &&& 1431655765)) 2) &&& 858993459)) + (ush (((x - ((ush x 1) &&& 1431655765)) &&& 858993459) + ((ush (x - ((ush x 1) &&& 1431655765)) 2) &&& 858993459)) 4)) &&& 252645135) + (ush (((((x - ((ush x 1) &&& 1431655765)) &&& 858993459) + ((ush (x - ((ush x 1) &&& 1431655765)) 2) &&& 858993459)) + (ush (((x - ((ush x 1) &&& 1431655765)) &&& 858993459) + ((ush (x - ((ush x 1) &&& 1431655765)) 2) &&& 858993459)) 4)) &&& 252645135) 8)) + (ush ((((((x - ((ush x 1) &&& 1431655765)) &&& 858993459) + ((ush (x - ((ush x 1) &&& 1431655765)) 2) &&& 858993459)) + (ush (((x - ((ush x 1) &&& 1431655765)) &&& 858993459) + ((ush (x - ((ush x 1) &&& 1431655765)) 2) &&& 858993459)) 4)) &&& 252645135) + (ush (((((x - ((ush x 1) &&& 1431655765)) &&& 858993459) + ((ush (x - ((ush x 1) &&& 1431655765)) 2) &&& 858993459)) + (ush (((x - ((ush x 1) &&& 1431655765)) &&& 858993459) + ((ush (x - ((ush x 1) &&& 1431655765)) 2) &&& 858993459)) 4)) &&& 252645135) 8)) 16)) &&& 63, (), rfl, rfl, trivial⟩, hS.F ht⟩) hS.2.2 dJ6_bitCount_0f7a4_52
def pc10 : Nat → Nat → Nat
  | 0, _ => 0
  | n + 1, k => pc10 n k + (k >>> n) % 2
theorem bcF_pc : ∀ k, k < 1024 → bcF (nI k) = nI (pc10 10 k) := by decide +kernel
