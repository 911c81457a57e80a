/-! CONSTRUCTORS -/
abbrev iB (D : va_G) (cI cH : ClassId) (cell : Nat × va_E) (sz : Nat) : State → Prop := fun U => U.heap.size = sz ∧ va_P D vwCl [cell] U.heap ∧ wk D cI cH U ∧ va_D (fun _ => True) [cell]
theorem iB_blind {D : va_G} {cI cH : ClassId} {cell : Nat × va_E} {sz : Nat} {av : List Value} : FrameBlind (va_Pc av (iB D cI cH cell sz)) := fun a U g mk q => ⟨q.1, q.2.1, q.2.2.1, wk.same q.2.2.2.1 rfl, q.2.2.2.2⟩
theorem iB_go {D : va_G} {cI cH : ClassId} {cell : Nat × va_E} {av : List Value} {s : State} {H : Heap} {A : Nat → Prop} (hP : va_P D vwCl [cell] H) (hw : wk D cI cH s) (hD : va_D A [cell]) : ∀ U : State, U.heap = H → s.WarmedH U.vm → va_Pc av (iB D cI cH cell H.size) av.toArray U := fun U hU hW => ⟨rfl, by rw [hU], by rw [hU]; exact hP, hw.warm hW, hD.weaken (fun _ _ _ _ => trivial)⟩
abbrev iB2 (D : va_G) (cI cH : ClassId) (cell : Nat × va_E) (sz : Nat) : State → Prop := fun U => iB D cI cH cell sz U ∧ va_AO RX2 U
theorem iB2_blind {D : va_G} {cI cH : ClassId} {cell : Nat × va_E} {sz : Nat} {av : List Value} : FrameBlind (va_Pc av (iB2 D cI cH cell sz)) := fun a U g mk q => ⟨q.1, ⟨q.2.1.1, q.2.1.2.1, wk.same q.2.1.2.2.1 rfl, q.2.1.2.2.2⟩, va_AO.moved (u := U) (U := U.calling g mk a) (Vm.Alike.refl U.vm) q.2.2⟩
theorem iB2_go {D : va_G} {cI cH : ClassId} {cell : Nat × va_E} {av : List Value} {s : State} {H : Heap} {A : Nat → Prop} (hP : va_P D vwCl [cell] H) (hw : wk D cI cH s) (hD : va_D A [cell]) (hO : va_AO RX2 s) : ∀ U : State, U.heap = H → s.WarmedH U.vm → va_Pc av (iB2 D cI cH cell H.size) av.toArray U := fun U hU hW => ⟨rfl, (iB_go (av := av) hP hw hD U hU hW).2, va_AO.moved hW.alike hO⟩
theorem cA_int {D : va_G} {cI cH cA : ClassId} {s : State} (h : va_K D vwCl (tyW cI cH ++ [(cA, .int)]) s) : cI = cA := Option.some.inj ((h.2 0 _ rfl).2.symm.trans (h.2 2 _ rfl).2)
theorem cA_han {D : va_G} {cI cH cA : ClassId} {s : State} (h : va_K D vwCl (tyW cI cH ++ [(cA, .object RX2)]) s) : cH = cA := by
  obtain ⟨k1, c1, -, -, -, e1⟩ := (h.2 1 _ rfl).2
  obtain ⟨k2, c2, -, -, -, e2⟩ := (h.2 2 _ rfl).2
  exact Option.some.inj (e1.symm.trans e2)
theorem D_ne {A : Nat → Prop} {ws : va_W} (hD : va_D A ws) (i j : Nat) {p q : Nat × va_E} (hi : ws[i]? = some p) (hj : ws[j]? = some q) (h : i ≠ j) : p.1 ≠ q.1 := fun e => h (hD.1 i j p q hi hj e)
set_option maxHeartbeats 4000000 in
set_option maxRecDepth 100000 in
theorem mX0_init (l : Launch) (D : va_G) (cI cH : ClassId) (q0 : Nat)  : Met l yX0_init wsX0_init ({ frames := 1, cells := 0, slots := 0, locals := 12 }) (va_Pc [.ref q0] (kB D cI cH [])) (va_Qv (fun (u : Unit) => True) (fun _ _ => True) nA) 0 0 nA := by
  refine Met.ofW (cc := cX0_init) (maxL := 1) (ret := none) (by decide) rfl ?_
  intro p e s m args below meth co s₁ B hml hv
  obtain ⟨rfl, hP0, hw⟩ := hv
  have hx := B.exec
  have hb := B.bytes
  have hr := B.returns
  have hts := atoms_spec (ws := wsX0_init) B.pre
  have hown : s.vm.findClass RX0 = some m.cls := findClass_of_methodNamed B.named
  have hlocks := B.notSynchronized
  have hS : va_S nA s.heap s.heap [] := va_S.rf
  have hl := lv_entry ([.ref q0]) (n := 1) (Nat.le_of_ble_eq_true rfl)
  rw [lg_entry_eq]
  generalize (lg_sl ([.ref q0]) ++ List.replicate (1 - (lg_sl ([.ref q0])).length) Slot.unset).toArray = ls at hl ⊢
  have hl : lv_has ls 1 [(0, .ref q0)] := hl
  skip
  refine lv_aload_n hx hb dX0_init_0 rfl (lv_at hl 0 rfl) ?_
  refine W.objInit hx hb hown (hts (.methodLink RX0 1 objectInit) (by decide +kernel)) (hts (.instanceMethod objectInit) (by decide +kernel)) (hts (.code objectInit ⟨#[0xb1]⟩ 1 none) (by decide +kernel)) rfl (by rw [hml]; exact hl.1) rfl dX0_init_1 (Nat.le_of_ble_eq_true rfl) (Nat.le_of_ble_eq_true rfl) ?_
  refine W.eq (g2 := F0 m 4 ls []) rfl ?_
  exact W.vret hx hb hr (fun t ht hW => ⟨⟨(), rfl, trivial, trivial⟩, hS.F ht⟩) hS.2.2 dX0_init_4
set_option maxHeartbeats 4000000 in
set_option maxRecDepth 100000 in
theorem mX5_init (l : Launch) (D : va_G) (cI cH : ClassId) (q0 : Nat)  : Met l yX5_init wsX5_init ({ frames := 1, cells := 0, slots := 0, locals := 12 }) (va_Pc [.ref q0] (kB D cI cH [])) (va_Qv (fun (u : Unit) => True) (fun _ _ => True) nA) 0 0 nA := by
  refine Met.ofW (cc := cX5_init) (maxL := 1) (ret := none) (by decide) rfl ?_
  intro p e s m args below meth co s₁ B hml hv
  obtain ⟨rfl, hP0, hw⟩ := hv
  have hx := B.exec
  have hb := B.bytes
  have hr := B.returns
  have hts := atoms_spec (ws := wsX5_init) B.pre
  have hown : s.vm.findClass RX5 = some m.cls := findClass_of_methodNamed B.named
  have hlocks := B.notSynchronized
  have hS : va_S nA s.heap s.heap [] := va_S.rf
  have hl := lv_entry ([.ref q0]) (n := 1) (Nat.le_of_ble_eq_true rfl)
  rw [lg_entry_eq]
  generalize (lg_sl ([.ref q0]) ++ List.replicate (1 - (lg_sl ([.ref q0])).length) Slot.unset).toArray = ls at hl ⊢
  have hl : lv_has ls 1 [(0, .ref q0)] := hl
  skip
  refine lv_aload_n hx hb dX5_init_0 rfl (lv_at hl 0 rfl) ?_
  refine W.objInit hx hb hown (hts (.methodLink RX5 1 objectInit) (by decide +kernel)) (hts (.instanceMethod objectInit) (by decide +kernel)) (hts (.code objectInit ⟨#[0xb1]⟩ 1 none) (by decide +kernel)) rfl (by rw [hml]; exact hl.1) rfl dX5_init_1 (Nat.le_of_ble_eq_true rfl) (Nat.le_of_ble_eq_true rfl) ?_
  refine W.eq (g2 := F0 m 4 ls []) rfl ?_
  exact W.vret hx hb hr (fun t ht hW => ⟨⟨(), rfl, trivial, trivial⟩, hS.F ht⟩) hS.2.2 dX5_init_4
set_option maxHeartbeats 4000000 in
set_option maxRecDepth 100000 in
theorem mX2_init (l : Launch) (D : va_G) (cI cH : ClassId) (hg sz : Nat) : Met l yX2_init wsX2_init ({ frames := 1, cells := 0, slots := 0, locals := 12 }) (va_Pc [.ref hg] (iB D cI cH (hg, .inr (1, [.int 0, .int 0, .int 0, .int 0, .int 0, .int 0, .int 0, .int 0, .int 0, .int 0, .int 0, .int 0, .int 0])) sz)) (va_Qv (fun u : Unit => True) (fun u t => va_P D vwCl [(hg, .inr (1, [.int 0, .int 300, .int 300, .int 0, .int 0, .int 400, .int 300, .int 1, .int ((-100)), .int 100, .int 0, .int 500, .int 500]))] t.heap ∧ va_D (va_A [(hg, .inr (1, [.int 0, .int 0, .int 0, .int 0, .int 0, .int 0, .int 0, .int 0, .int 0, .int 0, .int 0, .int 0, .int 0]))] sz) [(hg, .inr (1, [.int 0, .int 300, .int 300, .int 0, .int 0, .int 400, .int 300, .int 1, .int ((-100)), .int 100, .int 0, .int 500, .int 500]))]) (va_A [(hg, .inr (1, [.int 0, .int 0, .int 0, .int 0, .int 0, .int 0, .int 0, .int 0, .int 0, .int 0, .int 0, .int 0, .int 0]))] sz)) 0 0 (va_A [(hg, .inr (1, [.int 0, .int 0, .int 0, .int 0, .int 0, .int 0, .int 0, .int 0, .int 0, .int 0, .int 0, .int 0, .int 0]))] sz) := by
  refine Met.ofW (cc := cX2_init) (maxL := 1) (ret := none) (by decide) rfl ?_
  intro p e s m args below meth co s₁ B hml hv
  obtain ⟨rfl, hsz, hP, hw, hD0⟩ := hv
  have hx := B.exec
  have hb := B.bytes
  have hr := B.returns
  have hts := atoms_spec (ws := wsX2_init) B.pre
  have hown : s.vm.findClass RX2 = some m.cls := findClass_of_methodNamed B.named
  have hlocks := B.notSynchronized
  have hin2 : meth.name = "<init>" := (name_of_methodNamed B.named B.method).1
  have hinX2 : ∀ w ∈ wsX20, w ∈ wsX2_init := by decide +kernel
  subst hsz
  have hD := hD0.self (sz := s.heap.size)
  generalize hAe : va_A [(hg, .inr (1, [.int 0, .int 0, .int 0, .int 0, .int 0, .int 0, .int 0, .int 0, .int 0, .int 0, .int 0, .int 0, .int 0]))] s.heap.size = A at hD ⊢
  have hA : ∀ q : Nat, s.heap.size ≤ q → A q := fun q h => by rw [← hAe]; exact Or.inr h
  have hS : va_S A s.heap s.heap [] := va_S.rf
  have hP : va_P D vwCl [(hg, .inr (1, [.int 0, .int 0, .int 0, .int 0, .int 0, .int 0, .int 0, .int 0, .int 0, .int 0, .int 0, .int 0, .int 0]))] s.heap := hP
  have hl := lv_entry ([.ref hg]) (n := 1) (Nat.le_of_ble_eq_true rfl)
  rw [lg_entry_eq]
  generalize (lg_sl ([.ref hg]) ++ List.replicate (1 - (lg_sl ([.ref hg])).length) Slot.unset).toArray = ls at hl ⊢
  have hl : lv_has ls 1 [(0, .ref hg)] := hl
  refine lv_aload_n hx hb dX2_init_0 rfl (lv_at hl 0 rfl) ?_
  refine W.objInit hx hb hown (hts (.methodLink RX2 1 objectInit) (by decide +kernel)) (hts (.instanceMethod objectInit) (by decide +kernel)) (hts (.code objectInit ⟨#[0xb1]⟩ 1 none) (by decide +kernel)) rfl (by rw [hml]; exact hl.1) rfl dX2_init_1 (Nat.le_of_ble_eq_true rfl) (Nat.le_of_ble_eq_true rfl) ?_
  refine W.eq (g2 := F0 m 4 ls []) rfl ?_
  refine lv_aload_n hx hb dX2_init_4 rfl (lv_at hl 0 rfl) ?_
  refine lv_iconst (v := 0) hx hb dX2_init_5 (by decide) ?_
  refine va_put (D := D) (ci := 1) (v := .int 0) (ty := .int) (C := RX2) (T := TX2) (N := 13) hx hb hts hinX2 tyX2 tyX2_ok nmX2 hown hw.1 hP hD hS 0 rfl rfl 0 (by decide) (hts (.fieldLink RX2 7 "WheelSwing$Hanging" "ux" "I") (by decide +kernel)) (fun _ h9 => h9) rfl (by decide +kernel) rfl rfl (Nat.le_of_ble_eq_true rfl) dX2_init_6 (fun H locs hP hD hS => ?_)
  have hP : va_P D vwCl [(hg, .inr (1, [.int 0, .int 0, .int 0, .int 0, .int 0, .int 0, .int 0, .int 0, .int 0, .int 0, .int 0, .int 0, .int 0]))] H := hP
  have hD : va_D A [(hg, .inr (1, [.int 0, .int 0, .int 0, .int 0, .int 0, .int 0, .int 0, .int 0, .int 0, .int 0, .int 0, .int 0, .int 0]))] := hD
  refine lv_aload_n hx hb dX2_init_9 rfl (lv_at hl 0 rfl) ?_
  refine lv_sipush (v := 300) hx hb dX2_init_10 (by decide) ?_
  refine va_put (D := D) (ci := 1) (v := .int 300) (ty := .int) (C := RX2) (T := TX2) (N := 13) hx hb hts hinX2 tyX2 tyX2_ok nmX2 hown hw.1 hP hD hS 0 rfl rfl 1 (by decide) (hts (.fieldLink RX2 13 "WheelSwing$Hanging" "uy" "I") (by decide +kernel)) (fun _ h9 => h9) rfl (by decide +kernel) rfl rfl (Nat.le_of_ble_eq_true rfl) dX2_init_13 (fun H locs hP hD hS => ?_)
  have hP : va_P D vwCl [(hg, .inr (1, [.int 0, .int 300, .int 0, .int 0, .int 0, .int 0, .int 0, .int 0, .int 0, .int 0, .int 0, .int 0, .int 0]))] H := hP
  have hD : va_D A [(hg, .inr (1, [.int 0, .int 300, .int 0, .int 0, .int 0, .int 0, .int 0, .int 0, .int 0, .int 0, .int 0, .int 0, .int 0]))] := hD
  refine lv_aload_n hx hb dX2_init_16 rfl (lv_at hl 0 rfl) ?_
  refine lv_sipush (v := 300) hx hb dX2_init_17 (by decide) ?_
  refine va_put (D := D) (ci := 1) (v := .int 300) (ty := .int) (C := RX2) (T := TX2) (N := 13) hx hb hts hinX2 tyX2 tyX2_ok nmX2 hown hw.1 hP hD hS 0 rfl rfl 2 (by decide) (hts (.fieldLink RX2 16 "WheelSwing$Hanging" "a" "I") (by decide +kernel)) (fun _ h9 => h9) rfl (by decide +kernel) rfl rfl (Nat.le_of_ble_eq_true rfl) dX2_init_20 (fun H locs hP hD hS => ?_)
  have hP : va_P D vwCl [(hg, .inr (1, [.int 0, .int 300, .int 300, .int 0, .int 0, .int 0, .int 0, .int 0, .int 0, .int 0, .int 0, .int 0, .int 0]))] H := hP
  have hD : va_D A [(hg, .inr (1, [.int 0, .int 300, .int 300, .int 0, .int 0, .int 0, .int 0, .int 0, .int 0, .int 0, .int 0, .int 0, .int 0]))] := hD
  refine lv_aload_n hx hb dX2_init_23 rfl (lv_at hl 0 rfl) ?_
  refine lv_iconst (v := 0) hx hb dX2_init_24 (by decide) ?_
  refine va_put (D := D) (ci := 1) (v := .int 0) (ty := .int) (C := RX2) (T := TX2) (N := 13) hx hb hts hinX2 tyX2 tyX2_ok nmX2 hown hw.1 hP hD hS 0 rfl rfl 3 (by decide) (hts (.fieldLink RX2 19 "WheelSwing$Hanging" "lx" "I") (by decide +kernel)) (fun _ h9 => h9) rfl (by decide +kernel) rfl rfl (Nat.le_of_ble_eq_true rfl) dX2_init_25 (fun H locs hP hD hS => ?_)
  have hP : va_P D vwCl [(hg, .inr (1, [.int 0, .int 300, .int 300, .int 0, .int 0, .int 0, .int 0, .int 0, .int 0, .int 0, .int 0, .int 0, .int 0]))] H := hP
  have hD : va_D A [(hg, .inr (1, [.int 0, .int 300, .int 300, .int 0, .int 0, .int 0, .int 0, .int 0, .int 0, .int 0, .int 0, .int 0, .int 0]))] := hD
  refine lv_aload_n hx hb dX2_init_28 rfl (lv_at hl 0 rfl) ?_
  refine lv_iconst (v := 0) hx hb dX2_init_29 (by decide) ?_
  refine va_put (D := D) (ci := 1) (v := .int 0) (ty := .int) (C := RX2) (T := TX2) (N := 13) hx hb hts hinX2 tyX2 tyX2_ok nmX2 hown hw.1 hP hD hS 0 rfl rfl 4 (by decide) (hts (.fieldLink RX2 22 "WheelSwing$Hanging" "ly" "I") (by decide +kernel)) (fun _ h9 => h9) rfl (by decide +kernel) rfl rfl (Nat.le_of_ble_eq_true rfl) dX2_init_30 (fun H locs hP hD hS => ?_)
  have hP : va_P D vwCl [(hg, .inr (1, [.int 0, .int 300, .int 300, .int 0, .int 0, .int 0, .int 0, .int 0, .int 0, .int 0, .int 0, .int 0, .int 0]))] H := hP
  have hD : va_D A [(hg, .inr (1, [.int 0, .int 300, .int 300, .int 0, .int 0, .int 0, .int 0, .int 0, .int 0, .int 0, .int 0, .int 0, .int 0]))] := hD
  refine lv_aload_n hx hb dX2_init_33 rfl (lv_at hl 0 rfl) ?_
  refine lv_sipush (v := 400) hx hb dX2_init_34 (by decide) ?_
  refine va_put (D := D) (ci := 1) (v := .int 400) (ty := .int) (C := RX2) (T := TX2) (N := 13) hx hb hts hinX2 tyX2 tyX2_ok nmX2 hown hw.1 hP hD hS 0 rfl rfl 5 (by decide) (hts (.fieldLink RX2 25 "WheelSwing$Hanging" "b" "I") (by decide +kernel)) (fun _ h9 => h9) rfl (by decide +kernel) rfl rfl (Nat.le_of_ble_eq_true rfl) dX2_init_37 (fun H locs hP hD hS => ?_)
  have hP : va_P D vwCl [(hg, .inr (1, [.int 0, .int 300, .int 300, .int 0, .int 0, .int 400, .int 0, .int 0, .int 0, .int 0, .int 0, .int 0, .int 0]))] H := hP
  have hD : va_D A [(hg, .inr (1, [.int 0, .int 300, .int 300, .int 0, .int 0, .int 400, .int 0, .int 0, .int 0, .int 0, .int 0, .int 0, .int 0]))] := hD
  refine lv_aload_n hx hb dX2_init_40 rfl (lv_at hl 0 rfl) ?_
  refine lv_sipush (v := 300) hx hb dX2_init_41 (by decide) ?_
  refine va_put (D := D) (ci := 1) (v := .int 300) (ty := .int) (C := RX2) (T := TX2) (N := 13) hx hb hts hinX2 tyX2 tyX2_ok nmX2 hown hw.1 hP hD hS 0 rfl rfl 6 (by decide) (hts (.fieldLink RX2 28 "WheelSwing$Hanging" "c" "I") (by decide +kernel)) (fun _ h9 => h9) rfl (by decide +kernel) rfl rfl (Nat.le_of_ble_eq_true rfl) dX2_init_44 (fun H locs hP hD hS => ?_)
  have hP : va_P D vwCl [(hg, .inr (1, [.int 0, .int 300, .int 300, .int 0, .int 0, .int 400, .int 300, .int 0, .int 0, .int 0, .int 0, .int 0, .int 0]))] H := hP
  have hD : va_D A [(hg, .inr (1, [.int 0, .int 300, .int 300, .int 0, .int 0, .int 400, .int 300, .int 0, .int 0, .int 0, .int 0, .int 0, .int 0]))] := hD
  refine lv_aload_n hx hb dX2_init_47 rfl (lv_at hl 0 rfl) ?_
  refine lv_iconst (v := 1) hx hb dX2_init_48 (by decide) ?_
  refine va_put (D := D) (ci := 1) (v := .int 1) (ty := .int) (C := RX2) (T := TX2) (N := 13) hx hb hts hinX2 tyX2 tyX2_ok nmX2 hown hw.1 hP hD hS 0 rfl rfl 7 (by decide) (hts (.fieldLink RX2 31 "WheelSwing$Hanging" "side" "I") (by decide +kernel)) (fun _ h9 => h9) rfl (by decide +kernel) rfl rfl (Nat.le_of_ble_eq_true rfl) dX2_init_49 (fun H locs hP hD hS => ?_)
  have hP : va_P D vwCl [(hg, .inr (1, [.int 0, .int 300, .int 300, .int 0, .int 0, .int 400, .int 300, .int 1, .int 0, .int 0, .int 0, .int 0, .int 0]))] H := hP
  have hD : va_D A [(hg, .inr (1, [.int 0, .int 300, .int 300, .int 0, .int 0, .int 400, .int 300, .int 1, .int 0, .int 0, .int 0, .int 0, .int 0]))] := hD
  refine lv_aload_n hx hb dX2_init_52 rfl (lv_at hl 0 rfl) ?_
  refine lv_bipush (v := (-100)) hx hb dX2_init_53 (by decide) ?_
  refine va_put (D := D) (ci := 1) (v := .int ((-100))) (ty := .int) (C := RX2) (T := TX2) (N := 13) hx hb hts hinX2 tyX2 tyX2_ok nmX2 hown hw.1 hP hD hS 0 rfl rfl 8 (by decide) (hts (.fieldLink RX2 34 "WheelSwing$Hanging" "g" "I") (by decide +kernel)) (fun _ h9 => h9) rfl (by decide +kernel) rfl rfl (Nat.le_of_ble_eq_true rfl) dX2_init_55 (fun H locs hP hD hS => ?_)
  have hP : va_P D vwCl [(hg, .inr (1, [.int 0, .int 300, .int 300, .int 0, .int 0, .int 400, .int 300, .int 1, .int ((-100)), .int 0, .int 0, .int 0, .int 0]))] H := hP
  have hD : va_D A [(hg, .inr (1, [.int 0, .int 300, .int 300, .int 0, .int 0, .int 400, .int 300, .int 1, .int ((-100)), .int 0, .int 0, .int 0, .int 0]))] := hD
  refine lv_aload_n hx hb dX2_init_58 rfl (lv_at hl 0 rfl) ?_
  refine lv_bipush (v := 100) hx hb dX2_init_59 (by decide) ?_
  refine va_put (D := D) (ci := 1) (v := .int 100) (ty := .int) (C := RX2) (T := TX2) (N := 13) hx hb hts hinX2 tyX2 tyX2_ok nmX2 hown hw.1 hP hD hS 0 rfl rfl 9 (by decide) (hts (.fieldLink RX2 37 "WheelSwing$Hanging" "d" "I") (by decide +kernel)) (fun _ h9 => h9) rfl (by decide +kernel) rfl rfl (Nat.le_of_ble_eq_true rfl) dX2_init_61 (fun H locs hP hD hS => ?_)
  have hP : va_P D vwCl [(hg, .inr (1, [.int 0, .int 300, .int 300, .int 0, .int 0, .int 400, .int 300, .int 1, .int ((-100)), .int 100, .int 0, .int 0, .int 0]))] H := hP
  have hD : va_D A [(hg, .inr (1, [.int 0, .int 300, .int 300, .int 0, .int 0, .int 400, .int 300, .int 1, .int ((-100)), .int 100, .int 0, .int 0, .int 0]))] := hD
  refine lv_aload_n hx hb dX2_init_64 rfl (lv_at hl 0 rfl) ?_
  refine lv_iconst (v := 0) hx hb dX2_init_65 (by decide) ?_
  refine va_put (D := D) (ci := 1) (v := .int 0) (ty := .int) (C := RX2) (T := TX2) (N := 13) hx hb hts hinX2 tyX2 tyX2_ok nmX2 hown hw.1 hP hD hS 0 rfl rfl 10 (by decide) (hts (.fieldLink RX2 40 "WheelSwing$Hanging" "sx" "I") (by decide +kernel)) (fun _ h9 => h9) rfl (by decide +kernel) rfl rfl (Nat.le_of_ble_eq_true rfl) dX2_init_66 (fun H locs hP hD hS => ?_)
  have hP : va_P D vwCl [(hg, .inr (1, [.int 0, .int 300, .int 300, .int 0, .int 0, .int 400, .int 300, .int 1, .int ((-100)), .int 100, .int 0, .int 0, .int 0]))] H := hP
  have hD : va_D A [(hg, .inr (1, [.int 0, .int 300, .int 300, .int 0, .int 0, .int 400, .int 300, .int 1, .int ((-100)), .int 100, .int 0, .int 0, .int 0]))] := hD
  refine lv_aload_n hx hb dX2_init_69 rfl (lv_at hl 0 rfl) ?_
  refine lv_sipush (v := 500) hx hb dX2_init_70 (by decide) ?_
  refine va_put (D := D) (ci := 1) (v := .int 500) (ty := .int) (C := RX2) (T := TX2) (N := 13) hx hb hts hinX2 tyX2 tyX2_ok nmX2 hown hw.1 hP hD hS 0 rfl rfl 11 (by decide) (hts (.fieldLink RX2 43 "WheelSwing$Hanging" "sy" "I") (by decide +kernel)) (fun _ h9 => h9) rfl (by decide +kernel) rfl rfl (Nat.le_of_ble_eq_true rfl) dX2_init_73 (fun H locs hP hD hS => ?_)
  have hP : va_P D vwCl [(hg, .inr (1, [.int 0, .int 300, .int 300, .int 0, .int 0, .int 400, .int 300, .int 1, .int ((-100)), .int 100, .int 0, .int 500, .int 0]))] H := hP
  have hD : va_D A [(hg, .inr (1, [.int 0, .int 300, .int 300, .int 0, .int 0, .int 400, .int 300, .int 1, .int ((-100)), .int 100, .int 0, .int 500, .int 0]))] := hD
  refine lv_aload_n hx hb dX2_init_76 rfl (lv_at hl 0 rfl) ?_
  refine lv_sipush (v := 500) hx hb dX2_init_77 (by decide) ?_
  refine va_put (D := D) (ci := 1) (v := .int 500) (ty := .int) (C := RX2) (T := TX2) (N := 13) hx hb hts hinX2 tyX2 tyX2_ok nmX2 hown hw.1 hP hD hS 0 rfl rfl 12 (by decide) (hts (.fieldLink RX2 46 "WheelSwing$Hanging" "f" "I") (by decide +kernel)) (fun _ h9 => h9) rfl (by decide +kernel) rfl rfl (Nat.le_of_ble_eq_true rfl) dX2_init_80 (fun H locs hP hD hS => ?_)
  have hP : va_P D vwCl [(hg, .inr (1, [.int 0, .int 300, .int 300, .int 0, .int 0, .int 400, .int 300, .int 1, .int ((-100)), .int 100, .int 0, .int 500, .int 500]))] H := hP
  have hD : va_D A [(hg, .inr (1, [.int 0, .int 300, .int 300, .int 0, .int 0, .int 400, .int 300, .int 1, .int ((-100)), .int 100, .int 0, .int 500, .int 500]))] := hD
  have hP9 := hP.sub (ws' := [(hg, .inr (1, [.int 0, .int 300, .int 300, .int 0, .int 0, .int 400, .int 300, .int 1, .int ((-100)), .int 100, .int 0, .int 500, .int 500]))]) [0] rfl
  have hD9 := hD.sub (ws' := [(hg, .inr (1, [.int 0, .int 300, .int 300, .int 0, .int 0, .int 400, .int 300, .int 1, .int ((-100)), .int 100, .int 0, .int 500, .int 500]))]) [0] (by decide) rfl
  exact W.vret hx hb hr (fun t ht hW => ⟨⟨(), rfl, trivial, by rw [ht]; exact hP9, hD9⟩, hS.F ht⟩) hS.2.2 dX2_init_83
set_option maxHeartbeats 4000000 in
set_option maxRecDepth 100000 in
theorem mX4_init (l : Launch) (D : va_G) (cI cH : ClassId) (bx sz : Nat) : Met l yX4_init wsX4_init ({ frames := 1, cells := 1, slots := 10, locals := 12 }) (va_Pc [.ref bx] (iB D cI cH (bx, .inr (3, [.null, .int 0])) sz)) (va_Qv (fun u : Nat => True) (fun u t => va_P D vwCl [(bx, .inr (3, [.ref u, .int 0])), (u, .inl (cI, 10, .inl (fun _ => 0)))] t.heap ∧ va_D (va_A [(bx, .inr (3, [.null, .int 0]))] sz) [(bx, .inr (3, [.ref u, .int 0])), (u, .inl (cI, 10, .inl (fun _ => 0)))]) (va_A [(bx, .inr (3, [.null, .int 0]))] sz)) 1 10 (va_A [(bx, .inr (3, [.null, .int 0]))] sz) := by
  refine Met.ofW (cc := cX4_init) (maxL := 1) (ret := none) (by decide) rfl ?_
  intro p e s m args below meth co s₁ B hml hv
  obtain ⟨rfl, hsz, hP, hw, hD0⟩ := hv
  have hx := B.exec
  have hb := B.bytes
  have hr := B.returns
  have hts := atoms_spec (ws := wsX4_init) B.pre
  have hown : s.vm.findClass RX4 = some m.cls := findClass_of_methodNamed B.named
  have hlocks := B.notSynchronized
  have hin2 : meth.name = "<init>" := (name_of_methodNamed B.named B.method).1
  have hinX4 : ∀ w ∈ wsX40, w ∈ wsX4_init := by decide +kernel
  subst hsz
  have hD := hD0.self (sz := s.heap.size)
  generalize hAe : va_A [(bx, .inr (3, [.null, .int 0]))] s.heap.size = A at hD ⊢
  have hA : ∀ q : Nat, s.heap.size ≤ q → A q := fun q h => by rw [← hAe]; exact Or.inr h
  have hS : va_S A s.heap s.heap [] := va_S.rf
  have hP : va_P D vwCl [(bx, .inr (3, [.null, .int 0]))] s.heap := hP
  have hl := lv_entry ([.ref bx]) (n := 1) (Nat.le_of_ble_eq_true rfl)
  rw [lg_entry_eq]
  generalize (lg_sl ([.ref bx]) ++ List.replicate (1 - (lg_sl ([.ref bx])).length) Slot.unset).toArray = ls at hl ⊢
  have hl : lv_has ls 1 [(0, .ref bx)] := hl
  refine lv_aload_n hx hb dX4_init_0 rfl (lv_at hl 0 rfl) ?_
  refine W.objInit hx hb hown (hts (.methodLink RX4 3 objectInit) (by decide +kernel)) (hts (.instanceMethod objectInit) (by decide +kernel)) (hts (.code objectInit ⟨#[0xb1]⟩ 1 none) (by decide +kernel)) rfl (by rw [hml]; exact hl.1) rfl dX4_init_1 (Nat.le_of_ble_eq_true rfl) (Nat.le_of_ble_eq_true rfl) ?_
  refine W.eq (g2 := F0 m 4 ls []) rfl ?_
  refine lv_aload_n hx hb dX4_init_4 rfl (lv_at hl 0 rfl) ?_
  refine lv_bipush (v := 10) hx hb dX4_init_5 (by decide) ?_
  refine va_newa (atype := .int) (N' := 10) (a0 := (10, .inl (fun _ => 0))) hx hb (hts (.arrayClass .int) (by decide +kernel)) rfl hw.1 hP hD hS hA (fun cA => rfl) (by decide) (show (10 : Int32).toNatClampNeg = 10 by decide) (by decide) (Nat.le_of_ble_eq_true rfl) (Nat.le_of_ble_eq_true rfl) dX4_init_7 (fun a7 cA H hK9 hP hD hS => ?_)
  have ecA := cA_int hK9
  subst ecA
  have hP : va_P D vwCl [(bx, .inr (3, [.null, .int 0])), (a7, .inl (cI, 10, .inl (fun _ => 0)))] H := hP
  have hD : va_D A [(bx, .inr (3, [.null, .int 0])), (a7, .inl (cI, 10, .inl (fun _ => 0)))] := hD
  refine W.widen (k := 1) (n := 10) (by omega) (by omega) ?_
  refine va_putF (D := D) (ci := 3) (v := .ref a7) (ty := .array .int) (C := RX4) (T := TX4) (N := 2) hx hb hts hinX4 tyX4 tyX4_ok nmX4 hown hw.1 hP hD hS 0 rfl rfl 0 (by decide) (hts (.fieldLink RX4 11 "WheelSwing$ShimBox" "thick" "[I") (by decide +kernel)) (fun _ h9 => h9) rfl hin2 rfl (by decide +kernel) rfl rfl (Nat.le_of_ble_eq_true rfl) dX4_init_9 (fun H locs hP hD hS => ?_)
  have hP : va_P D vwCl [(bx, .inr (3, [.ref a7, .int 0])), (a7, .inl (cI, 10, .inl (fun _ => 0)))] H := hP
  have hD : va_D A [(bx, .inr (3, [.ref a7, .int 0])), (a7, .inl (cI, 10, .inl (fun _ => 0)))] := hD
  refine lv_aload_n hx hb dX4_init_12 rfl (lv_at hl 0 rfl) ?_
  refine lv_iconst (v := 0) hx hb dX4_init_13 (by decide) ?_
  refine va_put (D := D) (ci := 3) (v := .int 0) (ty := .int) (C := RX4) (T := TX4) (N := 2) hx hb hts hinX4 tyX4 tyX4_ok nmX4 hown hw.1 hP hD hS 0 rfl rfl 1 (by decide) (hts (.fieldLink RX4 15 "WheelSwing$ShimBox" "size" "I") (by decide +kernel)) (fun _ h9 => h9) rfl (by decide +kernel) rfl rfl (Nat.le_of_ble_eq_true rfl) dX4_init_14 (fun H locs hP hD hS => ?_)
  have hP : va_P D vwCl [(bx, .inr (3, [.ref a7, .int 0])), (a7, .inl (cI, 10, .inl (fun _ => 0)))] H := hP
  have hD : va_D A [(bx, .inr (3, [.ref a7, .int 0])), (a7, .inl (cI, 10, .inl (fun _ => 0)))] := hD
  have hP9 := hP.sub (ws' := [(bx, .inr (3, [.ref a7, .int 0])), (a7, .inl (cI, 10, .inl (fun _ => 0)))]) [0, 1] rfl
  have hD9 := hD.sub (ws' := [(bx, .inr (3, [.ref a7, .int 0])), (a7, .inl (cI, 10, .inl (fun _ => 0)))]) [0, 1] (by decide) rfl
  exact W.vret hx hb hr (fun t ht hW => ⟨⟨a7, rfl, trivial, by rw [ht]; exact hP9, hD9⟩, hS.F ht⟩) hS.2.2 dX4_init_17
set_option maxHeartbeats 4000000 in
set_option maxRecDepth 100000 in
theorem mX3_init (l : Launch) (D : va_G) (cI cH : ClassId) (rd sz : Nat) : Met l yX3_init wsX3_init ({ frames := 1, cells := 2, slots := 24, locals := 12 }) (va_Pc [.ref rd] (iB D cI cH (rd, .inr (2, [.null, .null, .int 0])) sz)) (va_Qv (fun u : Nat × Nat => True) (fun u t => va_P D vwCl [(rd, .inr (2, [.ref u.1, .ref u.2, .int 0])), (u.1, .inl (cI, 12, .inl (fun _ => 0))), (u.2, .inl (cI, 12, .inl (fun _ => 0)))] t.heap ∧ va_D (va_A [(rd, .inr (2, [.null, .null, .int 0]))] sz) [(rd, .inr (2, [.ref u.1, .ref u.2, .int 0])), (u.1, .inl (cI, 12, .inl (fun _ => 0))), (u.2, .inl (cI, 12, .inl (fun _ => 0)))]) (va_A [(rd, .inr (2, [.null, .null, .int 0]))] sz)) 2 24 (va_A [(rd, .inr (2, [.null, .null, .int 0]))] sz) := by
  refine Met.ofW (cc := cX3_init) (maxL := 1) (ret := none) (by decide) rfl ?_
  intro p e s m args below meth co s₁ B hml hv
  obtain ⟨rfl, hsz, hP, hw, hD0⟩ := hv
  have hx := B.exec
  have hb := B.bytes
  have hr := B.returns
  have hts := atoms_spec (ws := wsX3_init) B.pre
  have hown : s.vm.findClass RX3 = some m.cls := findClass_of_methodNamed B.named
  have hlocks := B.notSynchronized
  have hin2 : meth.name = "<init>" := (name_of_methodNamed B.named B.method).1
  have hinX3 : ∀ w ∈ wsX30, w ∈ wsX3_init := by decide +kernel
  subst hsz
  have hD := hD0.self (sz := s.heap.size)
  generalize hAe : va_A [(rd, .inr (2, [.null, .null, .int 0]))] s.heap.size = A at hD ⊢
  have hA : ∀ q : Nat, s.heap.size ≤ q → A q := fun q h => by rw [← hAe]; exact Or.inr h
  have hS : va_S A s.heap s.heap [] := va_S.rf
  have hP : va_P D vwCl [(rd, .inr (2, [.null, .null, .int 0]))] s.heap := hP
  have hl := lv_entry ([.ref rd]) (n := 1) (Nat.le_of_ble_eq_true rfl)
  rw [lg_entry_eq]
  generalize (lg_sl ([.ref rd]) ++ List.replicate (1 - (lg_sl ([.ref rd])).length) Slot.unset).toArray = ls at hl ⊢
  have hl : lv_has ls 1 [(0, .ref rd)] := hl
  refine lv_aload_n hx hb dX3_init_0 rfl (lv_at hl 0 rfl) ?_
  refine W.objInit hx hb hown (hts (.methodLink RX3 3 objectInit) (by decide +kernel)) (hts (.instanceMethod objectInit) (by decide +kernel)) (hts (.code objectInit ⟨#[0xb1]⟩ 1 none) (by decide +kernel)) rfl (by rw [hml]; exact hl.1) rfl dX3_init_1 (Nat.le_of_ble_eq_true rfl) (Nat.le_of_ble_eq_true rfl) ?_
  refine W.eq (g2 := F0 m 4 ls []) rfl ?_
  refine lv_aload_n hx hb dX3_init_4 rfl (lv_at hl 0 rfl) ?_
  refine lv_bipush (v := 12) hx hb dX3_init_5 (by decide) ?_
  refine va_newa (atype := .int) (N' := 12) (a0 := (12, .inl (fun _ => 0))) hx hb (hts (.arrayClass .int) (by decide +kernel)) rfl hw.1 hP hD hS hA (fun cA => rfl) (by decide) (show (12 : Int32).toNatClampNeg = 12 by decide) (by decide) (Nat.le_of_ble_eq_true rfl) (Nat.le_of_ble_eq_true rfl) dX3_init_7 (fun a7 cA H hK9 hP hD hS => ?_)
  have ecA := cA_int hK9
  subst ecA
  have hP : va_P D vwCl [(rd, .inr (2, [.null, .null, .int 0])), (a7, .inl (cI, 12, .inl (fun _ => 0)))] H := hP
  have hD : va_D A [(rd, .inr (2, [.null, .null, .int 0])), (a7, .inl (cI, 12, .inl (fun _ => 0)))] := hD
  refine W.widen (k := 1) (n := 12) (by omega) (by omega) ?_
  refine va_putF (D := D) (ci := 2) (v := .ref a7) (ty := .array .int) (C := RX3) (T := TX3) (N := 3) hx hb hts hinX3 tyX3 tyX3_ok nmX3 hown hw.1 hP hD hS 0 rfl rfl 0 (by decide) (hts (.fieldLink RX3 11 "WheelSwing$Readings" "heights" "[I") (by decide +kernel)) (fun _ h9 => h9) rfl hin2 rfl (by decide +kernel) rfl rfl (Nat.le_of_ble_eq_true rfl) dX3_init_9 (fun H locs hP hD hS => ?_)
  have hP : va_P D vwCl [(rd, .inr (2, [.ref a7, .null, .int 0])), (a7, .inl (cI, 12, .inl (fun _ => 0)))] H := hP
  have hD : va_D A [(rd, .inr (2, [.ref a7, .null, .int 0])), (a7, .inl (cI, 12, .inl (fun _ => 0)))] := hD
  refine lv_aload_n hx hb dX3_init_12 rfl (lv_at hl 0 rfl) ?_
  refine lv_bipush (v := 12) hx hb dX3_init_13 (by decide) ?_
  refine va_newa (atype := .int) (N' := 12) (a0 := (12, .inl (fun _ => 0))) hx hb (hts (.arrayClass .int) (by decide +kernel)) rfl hw.1 hP hD hS hA (fun cA => rfl) (by decide) (show (12 : Int32).toNatClampNeg = 12 by decide) (by decide) (Nat.le_of_ble_eq_true rfl) (Nat.le_of_ble_eq_true rfl) dX3_init_15 (fun a15 cA H hK9 hP hD hS => ?_)
  have ecA := cA_int hK9
  subst ecA
  have hP : va_P D vwCl [(rd, .inr (2, [.ref a7, .null, .int 0])), (a7, .inl (cI, 12, .inl (fun _ => 0))), (a15, .inl (cI, 12, .inl (fun _ => 0)))] H := hP
  have hD : va_D A [(rd, .inr (2, [.ref a7, .null, .int 0])), (a7, .inl (cI, 12, .inl (fun _ => 0))), (a15, .inl (cI, 12, .inl (fun _ => 0)))] := hD
  refine W.widen (k := 2) (n := 24) (by omega) (by omega) ?_
  refine va_putF (D := D) (ci := 2) (v := .ref a15) (ty := .array .int) (C := RX3) (T := TX3) (N := 3) hx hb hts hinX3 tyX3 tyX3_ok nmX3 hown hw.1 hP hD hS 0 rfl rfl 1 (by decide) (hts (.fieldLink RX3 15 "WheelSwing$Readings" "leans" "[I") (by decide +kernel)) (fun _ h9 => h9) rfl hin2 rfl (by decide +kernel) rfl rfl (Nat.le_of_ble_eq_true rfl) dX3_init_17 (fun H locs hP hD hS => ?_)
  have hP : va_P D vwCl [(rd, .inr (2, [.ref a7, .ref a15, .int 0])), (a7, .inl (cI, 12, .inl (fun _ => 0))), (a15, .inl (cI, 12, .inl (fun _ => 0)))] H := hP
  have hD : va_D A [(rd, .inr (2, [.ref a7, .ref a15, .int 0])), (a7, .inl (cI, 12, .inl (fun _ => 0))), (a15, .inl (cI, 12, .inl (fun _ => 0)))] := hD
  refine lv_aload_n hx hb dX3_init_20 rfl (lv_at hl 0 rfl) ?_
  refine lv_iconst (v := 0) hx hb dX3_init_21 (by decide) ?_
  refine va_put (D := D) (ci := 2) (v := .int 0) (ty := .int) (C := RX3) (T := TX3) (N := 3) hx hb hts hinX3 tyX3 tyX3_ok nmX3 hown hw.1 hP hD hS 0 rfl rfl 2 (by decide) (hts (.fieldLink RX3 18 "WheelSwing$Readings" "size" "I") (by decide +kernel)) (fun _ h9 => h9) rfl (by decide +kernel) rfl rfl (Nat.le_of_ble_eq_true rfl) dX3_init_22 (fun H locs hP hD hS => ?_)
  have hP : va_P D vwCl [(rd, .inr (2, [.ref a7, .ref a15, .int 0])), (a7, .inl (cI, 12, .inl (fun _ => 0))), (a15, .inl (cI, 12, .inl (fun _ => 0)))] H := hP
  have hD : va_D A [(rd, .inr (2, [.ref a7, .ref a15, .int 0])), (a7, .inl (cI, 12, .inl (fun _ => 0))), (a15, .inl (cI, 12, .inl (fun _ => 0)))] := hD
  have hP9 := hP.sub (ws' := [(rd, .inr (2, [.ref a7, .ref a15, .int 0])), (a7, .inl (cI, 12, .inl (fun _ => 0))), (a15, .inl (cI, 12, .inl (fun _ => 0)))]) [0, 1, 2] rfl
  have hD9 := hD.sub (ws' := [(rd, .inr (2, [.ref a7, .ref a15, .int 0])), (a7, .inl (cI, 12, .inl (fun _ => 0))), (a15, .inl (cI, 12, .inl (fun _ => 0)))]) [0, 1, 2] (by decide) rfl
  exact W.vret hx hb hr (fun t ht hW => ⟨⟨(a7, a15), rfl, trivial, by rw [ht]; exact hP9, hD9⟩, hS.F ht⟩) hS.2.2 dX3_init_25
