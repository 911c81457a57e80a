/-! SMALL METHODS: what is in range, the digest's step; of the class (X6) and of the model (X7) -/
set_option maxHeartbeats 4000000 in
set_option maxRecDepth 100000 in
theorem mX6_isWithin (l : Launch) (v lo hi : Int32)  : Met l yX6_isWithin wsX6_isWithin ({ frames := 0, cells := 0, slots := 0, locals := 0 }) (va_Pc [.int v, .int lo, .int hi] (fun _ => True)) (va_Qi (fun (r : Int32) (u : Unit) => r = bI (isW v lo hi)) (fun _ _ => True) nA) 0 0 nA := by
  refine Met.ofW (cc := cX6_isWithin) (maxL := 3) (ret := (some .boolean)) (by decide) rfl ?_
  intro p e s m args below meth c s₁ B hml hv
  obtain ⟨rfl, -⟩ := hv
  have hx := B.exec
  have hb := B.bytes
  have hr := B.returns
  have hts := atoms_spec (ws := wsX6_isWithin) B.pre
  have hown : s.vm.findClass RX6 = some m.cls := findClass_of_methodNamed B.named
  have hlocks := B.notSynchronized
  have hS : va_S nA s.heap s.heap [] := va_S.rf
  have hl := lv_entry ([.int v, .int lo, .int hi]) (n := 3) (Nat.le_of_ble_eq_true rfl)
  rw [lg_entry_eq]
  generalize (lg_sl ([.int v, .int lo, .int hi]) ++ List.replicate (3 - (lg_sl ([.int v, .int lo, .int hi])).length) Slot.unset).toArray = ls at hl ⊢
  have hl : lv_has ls 3 [(0, .int v), (1, .int lo), (2, .int hi)] := hl
  skip
  refine lv_iload_n hx hb dX6_isWithin_0 rfl (lv_at hl 0 rfl) ?_
  refine lv_iload_n hx hb dX6_isWithin_1 rfl (lv_at hl 1 rfl) ?_
  refine lv_icmp_lt (tgt := 14) hx hb dX6_isWithin_2 (by decide) (fun c1 => ?_) (fun c1 => ?_)
  · have i2 := Int32.not_le.mpr c1
    refine lv_iconst (v := 0) hx hb dX6_isWithin_14 (by decide) ?_
    exact W.zret (v := 0) hx hb hr rfl (fun t ht hW => ⟨⟨0, (), rfl, (by simp [isW, bI, c1, i2]), trivial⟩, hS.F ht⟩) hS.2.2 dX6_isWithin_15
  · have i3 := Int32.not_lt.mp c1
    refine lv_iload_n hx hb dX6_isWithin_5 rfl (lv_at hl 0 rfl) ?_
    refine lv_iload_n hx hb dX6_isWithin_6 rfl (lv_at hl 2 rfl) ?_
    refine lv_icmp_gt (tgt := 14) hx hb dX6_isWithin_7 (by decide) (fun c4 => ?_) (fun c4 => ?_)
    · have i5 := Int32.not_le.mpr c4
      refine lv_iconst (v := 0) hx hb dX6_isWithin_14 (by decide) ?_
      exact W.zret (v := 0) hx hb hr rfl (fun t ht hW => ⟨⟨0, (), rfl, (by simp [isW, bI, c1, i3, c4, i5]), trivial⟩, hS.F ht⟩) hS.2.2 dX6_isWithin_15
    · have i6 := Int32.not_lt.mp c4
      refine lv_iconst (v := 1) hx hb dX6_isWithin_10 (by decide) ?_
      refine lv_goto (tgt := 15) hx hb dX6_isWithin_11 (by decide) ?_
      exact W.zret (v := 1) hx hb hr rfl (fun t ht hW => ⟨⟨1, (), rfl, (by simp [isW, bI, c1, i3, c4, i6]), trivial⟩, hS.F ht⟩) hS.2.2 dX6_isWithin_15
set_option maxHeartbeats 4000000 in
set_option maxRecDepth 100000 in
theorem mX7_in (l : Launch) (v lo hi : Int32)  : Met l yX7_in wsX7_in ({ frames := 0, cells := 0, slots := 0, locals := 0 }) (va_Pc [.int v, .int lo, .int hi] (fun _ => True)) (va_Qi (fun (r : Int32) (u : Unit) => r = bI (isW v lo hi)) (fun _ _ => True) nA) 0 0 nA := by
  refine Met.ofW (cc := cX7_in) (maxL := 3) (ret := (some .boolean)) (by decide) rfl ?_
  intro p e s m args below meth c s₁ B hml hv
  obtain ⟨rfl, -⟩ := hv
  have hx := B.exec
  have hb := B.bytes
  have hr := B.returns
  have hts := atoms_spec (ws := wsX7_in) B.pre
  have hown : s.vm.findClass RX7 = some m.cls := findClass_of_methodNamed B.named
  have hlocks := B.notSynchronized
  have hS : va_S nA s.heap s.heap [] := va_S.rf
  have hl := lv_entry ([.int v, .int lo, .int hi]) (n := 3) (Nat.le_of_ble_eq_true rfl)
  rw [lg_entry_eq]
  generalize (lg_sl ([.int v, .int lo, .int hi]) ++ List.replicate (3 - (lg_sl ([.int v, .int lo, .int hi])).length) Slot.unset).toArray = ls at hl ⊢
  have hl : lv_has ls 3 [(0, .int v), (1, .int lo), (2, .int hi)] := hl
  skip
  refine lv_iload_n hx hb dX7_in_0 rfl (lv_at hl 0 rfl) ?_
  refine lv_iload_n hx hb dX7_in_1 rfl (lv_at hl 1 rfl) ?_
  refine lv_icmp_lt (tgt := 14) hx hb dX7_in_2 (by decide) (fun c1 => ?_) (fun c1 => ?_)
  · have i2 := Int32.not_le.mpr c1
    refine lv_iconst (v := 0) hx hb dX7_in_14 (by decide) ?_
    exact W.zret (v := 0) hx hb hr rfl (fun t ht hW => ⟨⟨0, (), rfl, (by simp [isW, bI, c1, i2]), trivial⟩, hS.F ht⟩) hS.2.2 dX7_in_15
  · have i3 := Int32.not_lt.mp c1
    refine lv_iload_n hx hb dX7_in_5 rfl (lv_at hl 0 rfl) ?_
    refine lv_iload_n hx hb dX7_in_6 rfl (lv_at hl 2 rfl) ?_
    refine lv_icmp_gt (tgt := 14) hx hb dX7_in_7 (by decide) (fun c4 => ?_) (fun c4 => ?_)
    · have i5 := Int32.not_le.mpr c4
      refine lv_iconst (v := 0) hx hb dX7_in_14 (by decide) ?_
      exact W.zret (v := 0) hx hb hr rfl (fun t ht hW => ⟨⟨0, (), rfl, (by simp [isW, bI, c1, i3, c4, i5]), trivial⟩, hS.F ht⟩) hS.2.2 dX7_in_15
    · have i6 := Int32.not_lt.mp c4
      refine lv_iconst (v := 1) hx hb dX7_in_10 (by decide) ?_
      refine lv_goto (tgt := 15) hx hb dX7_in_11 (by decide) ?_
      exact W.zret (v := 1) hx hb hr rfl (fun t ht hW => ⟨⟨1, (), rfl, (by simp [isW, bI, c1, i3, c4, i6]), trivial⟩, hS.F ht⟩) hS.2.2 dX7_in_15
set_option maxHeartbeats 4000000 in
set_option maxRecDepth 100000 in
theorem mX6_isHanging (l : Launch) (v : Int32)  : Met l yX6_isHanging wsX6_isHanging ({ frames := 1, cells := 0, slots := 0, locals := 22 }) (va_Pc [.int v] (fun _ => True)) (va_Qi (fun (r : Int32) (u : Unit) => r = bI (okH v)) (fun _ _ => True) nA) 0 0 nA := by
  refine Met.ofW (cc := cX6_isHanging) (maxL := 1) (ret := (some .boolean)) (by decide) rfl ?_
  intro p e s m args below meth c s₁ B hml hv
  obtain ⟨rfl, -⟩ := hv
  have hx := B.exec
  have hb := B.bytes
  have hr := B.returns
  have hts := atoms_spec (ws := wsX6_isHanging) B.pre
  have hown : s.vm.findClass RX6 = some m.cls := findClass_of_methodNamed B.named
  have hlocks := B.notSynchronized
  have hS : va_S nA s.heap s.heap [] := va_S.rf
  have hl := lv_entry ([.int v]) (n := 1) (Nat.le_of_ble_eq_true rfl)
  rw [lg_entry_eq]
  generalize (lg_sl ([.int v]) ++ List.replicate (1 - (lg_sl ([.int v])).length) Slot.unset).toArray = ls at hl ⊢
  have hl : lv_has ls 1 [(0, .int v)] := hl
  skip
  refine lv_iload_n hx hb dX6_isHanging_0 rfl (lv_at hl 0 rfl) ?_
  refine lv_iconst (v := 0) hx hb dX6_isHanging_1 (by decide) ?_
  refine lv_iconst (v := 3) hx hb dX6_isHanging_2 (by decide) ?_
  refine va_calli (va_runS (As := [.int v, .int 0, .int 3]) (rest := []) ⟨hx, hb, hml, hown, hts⟩ (mX6_isWithin l v 0 3) (va_cwS 3 hts gX6_isHanging_X6_isWithin rfl rfl rfl (by decide +kernel) ⟨Nat.le_of_ble_eq_true rfl, Nat.le_of_ble_eq_true rfl⟩) ⟨tB_blind, tB_go⟩ rfl rfl hl.1 rfl (lv_room (Nat.le_of_ble_eq_true rfl)) dX6_isHanging_3 ⟨Nat.le_of_ble_eq_true rfl, Nat.le_of_ble_eq_true rfl⟩) hS (fun q _ h => h.elim) (fun q h => h.elim) (fun r1 u2 t H locs ht hvm hp3 hB hz1 hk1 hS => ?_)
  subst hp3
  exact W.zret (v := bI (isW v 0 3)) hx hb hr bI_nar (fun t ht hW => ⟨⟨bI (isW v 0 3), (), rfl, rfl, trivial⟩, hS.F ht⟩) hS.2.2 dX6_isHanging_6
set_option maxHeartbeats 4000000 in
set_option maxRecDepth 100000 in
theorem mX6_isCoordinate (l : Launch) (v : Int32)  : Met l yX6_isCoordinate wsX6_isCoordinate ({ frames := 1, cells := 0, slots := 0, locals := 22 }) (va_Pc [.int v] (fun _ => True)) (va_Qi (fun (r : Int32) (u : Unit) => r = bI (okC v)) (fun _ _ => True) nA) 0 0 nA := by
  refine Met.ofW (cc := cX6_isCoordinate) (maxL := 1) (ret := (some .boolean)) (by decide) rfl ?_
  intro p e s m args below meth c s₁ B hml hv
  obtain ⟨rfl, -⟩ := hv
  have hx := B.exec
  have hb := B.bytes
  have hr := B.returns
  have hts := atoms_spec (ws := wsX6_isCoordinate) B.pre
  have hown : s.vm.findClass RX6 = some m.cls := findClass_of_methodNamed B.named
  have hlocks := B.notSynchronized
  have hS : va_S nA s.heap s.heap [] := va_S.rf
  have hl := lv_entry ([.int v]) (n := 1) (Nat.le_of_ble_eq_true rfl)
  rw [lg_entry_eq]
  generalize (lg_sl ([.int v]) ++ List.replicate (1 - (lg_sl ([.int v])).length) Slot.unset).toArray = ls at hl ⊢
  have hl : lv_has ls 1 [(0, .int v)] := hl
  skip
  refine lv_iload_n hx hb dX6_isCoordinate_0 rfl (lv_at hl 0 rfl) ?_
  refine lv_sipush (v := (-1000)) hx hb dX6_isCoordinate_1 (by decide) ?_
  refine lv_sipush (v := 1000) hx hb dX6_isCoordinate_4 (by decide) ?_
  refine va_calli (va_runS (As := [.int v, .int ((-1000)), .int 1000]) (rest := []) ⟨hx, hb, hml, hown, hts⟩ (mX6_isWithin l v ((-1000)) 1000) (va_cwS 3 hts gX6_isCoordinate_X6_isWithin rfl rfl rfl (by decide +kernel) ⟨Nat.le_of_ble_eq_true rfl, Nat.le_of_ble_eq_true rfl⟩) ⟨tB_blind, tB_go⟩ rfl rfl hl.1 rfl (lv_room (Nat.le_of_ble_eq_true rfl)) dX6_isCoordinate_7 ⟨Nat.le_of_ble_eq_true rfl, Nat.le_of_ble_eq_true rfl⟩) hS (fun q _ h => h.elim) (fun q h => h.elim) (fun r1 u2 t H locs ht hvm hp3 hB hz1 hk1 hS => ?_)
  subst hp3
  exact W.zret (v := bI (isW v ((-1000)) 1000)) hx hb hr bI_nar (fun t ht hW => ⟨⟨bI (isW v ((-1000)) 1000), (), rfl, rfl, trivial⟩, hS.F ht⟩) hS.2.2 dX6_isCoordinate_10
set_option maxHeartbeats 4000000 in
set_option maxRecDepth 100000 in
theorem mX6_isArm (l : Launch) (v : Int32)  : Met l yX6_isArm wsX6_isArm ({ frames := 1, cells := 0, slots := 0, locals := 22 }) (va_Pc [.int v] (fun _ => True)) (va_Qi (fun (r : Int32) (u : Unit) => r = bI (okA v)) (fun _ _ => True) nA) 0 0 nA := by
  refine Met.ofW (cc := cX6_isArm) (maxL := 1) (ret := (some .boolean)) (by decide) rfl ?_
  intro p e s m args below meth c s₁ B hml hv
  obtain ⟨rfl, -⟩ := hv
  have hx := B.exec
  have hb := B.bytes
  have hr := B.returns
  have hts := atoms_spec (ws := wsX6_isArm) B.pre
  have hown : s.vm.findClass RX6 = some m.cls := findClass_of_methodNamed B.named
  have hlocks := B.notSynchronized
  have hS : va_S nA s.heap s.heap [] := va_S.rf
  have hl := lv_entry ([.int v]) (n := 1) (Nat.le_of_ble_eq_true rfl)
  rw [lg_entry_eq]
  generalize (lg_sl ([.int v]) ++ List.replicate (1 - (lg_sl ([.int v])).length) Slot.unset).toArray = ls at hl ⊢
  have hl : lv_has ls 1 [(0, .int v)] := hl
  skip
  refine lv_iload_n hx hb dX6_isArm_0 rfl (lv_at hl 0 rfl) ?_
  refine lv_bipush (v := 50) hx hb dX6_isArm_1 (by decide) ?_
  refine lv_sipush (v := 1000) hx hb dX6_isArm_3 (by decide) ?_
  refine va_calli (va_runS (As := [.int v, .int 50, .int 1000]) (rest := []) ⟨hx, hb, hml, hown, hts⟩ (mX6_isWithin l v 50 1000) (va_cwS 3 hts gX6_isArm_X6_isWithin rfl rfl rfl (by decide +kernel) ⟨Nat.le_of_ble_eq_true rfl, Nat.le_of_ble_eq_true rfl⟩) ⟨tB_blind, tB_go⟩ rfl rfl hl.1 rfl (lv_room (Nat.le_of_ble_eq_true rfl)) dX6_isArm_6 ⟨Nat.le_of_ble_eq_true rfl, Nat.le_of_ble_eq_true rfl⟩) hS (fun q _ h => h.elim) (fun q h => h.elim) (fun r1 u2 t H locs ht hvm hp3 hB hz1 hk1 hS => ?_)
  subst hp3
  exact W.zret (v := bI (isW v 50 1000)) hx hb hr bI_nar (fun t ht hW => ⟨⟨bI (isW v 50 1000), (), rfl, rfl, trivial⟩, hS.F ht⟩) hS.2.2 dX6_isArm_9
set_option maxHeartbeats 4000000 in
set_option maxRecDepth 100000 in
theorem mX7_isHanging (l : Launch) (v : Int32)  : Met l yX7_isHanging wsX7_isHanging ({ frames := 1, cells := 0, slots := 0, locals := 22 }) (va_Pc [.int v] (fun _ => True)) (va_Qi (fun (r : Int32) (u : Unit) => r = bI (okH v)) (fun _ _ => True) nA) 0 0 nA := by
  refine Met.ofW (cc := cX7_isHanging) (maxL := 1) (ret := (some .boolean)) (by decide) rfl ?_
  intro p e s m args below meth c s₁ B hml hv
  obtain ⟨rfl, -⟩ := hv
  have hx := B.exec
  have hb := B.bytes
  have hr := B.returns
  have hts := atoms_spec (ws := wsX7_isHanging) B.pre
  have hown : s.vm.findClass RX7 = some m.cls := findClass_of_methodNamed B.named
  have hlocks := B.notSynchronized
  have hS : va_S nA s.heap s.heap [] := va_S.rf
  have hl := lv_entry ([.int v]) (n := 1) (Nat.le_of_ble_eq_true rfl)
  rw [lg_entry_eq]
  generalize (lg_sl ([.int v]) ++ List.replicate (1 - (lg_sl ([.int v])).length) Slot.unset).toArray = ls at hl ⊢
  have hl : lv_has ls 1 [(0, .int v)] := hl
  skip
  refine lv_iload_n hx hb dX7_isHanging_0 rfl (lv_at hl 0 rfl) ?_
  refine lv_iconst (v := 0) hx hb dX7_isHanging_1 (by decide) ?_
  refine lv_iconst (v := 3) hx hb dX7_isHanging_2 (by decide) ?_
  refine va_calli (va_runS (As := [.int v, .int 0, .int 3]) (rest := []) ⟨hx, hb, hml, hown, hts⟩ (mX7_in l v 0 3) (va_cwS 3 hts gX7_isHanging_X7_in rfl rfl rfl (by decide +kernel) ⟨Nat.le_of_ble_eq_true rfl, Nat.le_of_ble_eq_true rfl⟩) ⟨tB_blind, tB_go⟩ rfl rfl hl.1 rfl (lv_room (Nat.le_of_ble_eq_true rfl)) dX7_isHanging_3 ⟨Nat.le_of_ble_eq_true rfl, Nat.le_of_ble_eq_true rfl⟩) hS (fun q _ h => h.elim) (fun q h => h.elim) (fun r1 u2 t H locs ht hvm hp3 hB hz1 hk1 hS => ?_)
  subst hp3
  exact W.zret (v := bI (isW v 0 3)) hx hb hr bI_nar (fun t ht hW => ⟨⟨bI (isW v 0 3), (), rfl, rfl, trivial⟩, hS.F ht⟩) hS.2.2 dX7_isHanging_6
set_option maxHeartbeats 4000000 in
set_option maxRecDepth 100000 in
theorem mX7_isAt (l : Launch) (v : Int32)  : Met l yX7_isAt wsX7_isAt ({ frames := 1, cells := 0, slots := 0, locals := 22 }) (va_Pc [.int v] (fun _ => True)) (va_Qi (fun (r : Int32) (u : Unit) => r = bI (okC v)) (fun _ _ => True) nA) 0 0 nA := by
  refine Met.ofW (cc := cX7_isAt) (maxL := 1) (ret := (some .boolean)) (by decide) rfl ?_
  intro p e s m args below meth c s₁ B hml hv
  obtain ⟨rfl, -⟩ := hv
  have hx := B.exec
  have hb := B.bytes
  have hr := B.returns
  have hts := atoms_spec (ws := wsX7_isAt) B.pre
  have hown : s.vm.findClass RX7 = some m.cls := findClass_of_methodNamed B.named
  have hlocks := B.notSynchronized
  have hS : va_S nA s.heap s.heap [] := va_S.rf
  have hl := lv_entry ([.int v]) (n := 1) (Nat.le_of_ble_eq_true rfl)
  rw [lg_entry_eq]
  generalize (lg_sl ([.int v]) ++ List.replicate (1 - (lg_sl ([.int v])).length) Slot.unset).toArray = ls at hl ⊢
  have hl : lv_has ls 1 [(0, .int v)] := hl
  skip
  refine lv_iload_n hx hb dX7_isAt_0 rfl (lv_at hl 0 rfl) ?_
  refine lv_sipush (v := (-1000)) hx hb dX7_isAt_1 (by decide) ?_
  refine lv_sipush (v := 1000) hx hb dX7_isAt_4 (by decide) ?_
  refine va_calli (va_runS (As := [.int v, .int ((-1000)), .int 1000]) (rest := []) ⟨hx, hb, hml, hown, hts⟩ (mX7_in l v ((-1000)) 1000) (va_cwS 3 hts gX7_isAt_X7_in rfl rfl rfl (by decide +kernel) ⟨Nat.le_of_ble_eq_true rfl, Nat.le_of_ble_eq_true rfl⟩) ⟨tB_blind, tB_go⟩ rfl rfl hl.1 rfl (lv_room (Nat.le_of_ble_eq_true rfl)) dX7_isAt_7 ⟨Nat.le_of_ble_eq_true rfl, Nat.le_of_ble_eq_true rfl⟩) hS (fun q _ h => h.elim) (fun q h => h.elim) (fun r1 u2 t H locs ht hvm hp3 hB hz1 hk1 hS => ?_)
  subst hp3
  exact W.zret (v := bI (isW v ((-1000)) 1000)) hx hb hr bI_nar (fun t ht hW => ⟨⟨bI (isW v ((-1000)) 1000), (), rfl, rfl, trivial⟩, hS.F ht⟩) hS.2.2 dX7_isAt_10
set_option maxHeartbeats 4000000 in
set_option maxRecDepth 100000 in
theorem mX7_isLong (l : Launch) (v : Int32)  : Met l yX7_isLong wsX7_isLong ({ frames := 1, cells := 0, slots := 0, locals := 22 }) (va_Pc [.int v] (fun _ => True)) (va_Qi (fun (r : Int32) (u : Unit) => r = bI (okA v)) (fun _ _ => True) nA) 0 0 nA := by
  refine Met.ofW (cc := cX7_isLong) (maxL := 1) (ret := (some .boolean)) (by decide) rfl ?_
  intro p e s m args below meth c s₁ B hml hv
  obtain ⟨rfl, -⟩ := hv
  have hx := B.exec
  have hb := B.bytes
  have hr := B.returns
  have hts := atoms_spec (ws := wsX7_isLong) B.pre
  have hown : s.vm.findClass RX7 = some m.cls := findClass_of_methodNamed B.named
  have hlocks := B.notSynchronized
  have hS : va_S nA s.heap s.heap [] := va_S.rf
  have hl := lv_entry ([.int v]) (n := 1) (Nat.le_of_ble_eq_true rfl)
  rw [lg_entry_eq]
  generalize (lg_sl ([.int v]) ++ List.replicate (1 - (lg_sl ([.int v])).length) Slot.unset).toArray = ls at hl ⊢
  have hl : lv_has ls 1 [(0, .int v)] := hl
  skip
  refine lv_iload_n hx hb dX7_isLong_0 rfl (lv_at hl 0 rfl) ?_
  refine lv_bipush (v := 50) hx hb dX7_isLong_1 (by decide) ?_
  refine lv_sipush (v := 1000) hx hb dX7_isLong_3 (by decide) ?_
  refine va_calli (va_runS (As := [.int v, .int 50, .int 1000]) (rest := []) ⟨hx, hb, hml, hown, hts⟩ (mX7_in l v 50 1000) (va_cwS 3 hts gX7_isLong_X7_in rfl rfl rfl (by decide +kernel) ⟨Nat.le_of_ble_eq_true rfl, Nat.le_of_ble_eq_true rfl⟩) ⟨tB_blind, tB_go⟩ rfl rfl hl.1 rfl (lv_room (Nat.le_of_ble_eq_true rfl)) dX7_isLong_6 ⟨Nat.le_of_ble_eq_true rfl, Nat.le_of_ble_eq_true rfl⟩) hS (fun q _ h => h.elim) (fun q h => h.elim) (fun r1 u2 t H locs ht hvm hp3 hB hz1 hk1 hS => ?_)
  subst hp3
  exact W.zret (v := bI (isW v 50 1000)) hx hb hr bI_nar (fun t ht hW => ⟨⟨bI (isW v 50 1000), (), rfl, rfl, trivial⟩, hS.F ht⟩) hS.2.2 dX7_isLong_9
set_option maxHeartbeats 4000000 in
set_option maxRecDepth 100000 in
theorem mX6_isPoint (l : Launch) (x y : Int32)  : Met l yX6_isPoint wsX6_isPoint ({ frames := 2, cells := 0, slots := 0, locals := 42 }) (va_Pc [.int x, .int y] (fun _ => True)) (va_Qi (fun (r : Int32) (u : Unit) => r = bI (okP x y)) (fun _ _ => True) nA) 0 0 nA := by
  refine Met.ofW (cc := cX6_isPoint) (maxL := 2) (ret := (some .boolean)) (by decide) rfl ?_
  intro p e s m args below meth c s₁ B hml hv
  obtain ⟨rfl, -⟩ := hv
  have hx := B.exec
  have hb := B.bytes
  have hr := B.returns
  have hts := atoms_spec (ws := wsX6_isPoint) B.pre
  have hown : s.vm.findClass RX6 = some m.cls := findClass_of_methodNamed B.named
  have hlocks := B.notSynchronized
  have hS : va_S nA s.heap s.heap [] := va_S.rf
  have hl := lv_entry ([.int x, .int y]) (n := 2) (Nat.le_of_ble_eq_true rfl)
  rw [lg_entry_eq]
  generalize (lg_sl ([.int x, .int y]) ++ List.replicate (2 - (lg_sl ([.int x, .int y])).length) Slot.unset).toArray = ls at hl ⊢
  have hl : lv_has ls 2 [(0, .int x), (1, .int y)] := hl
  skip
  refine lv_iload_n hx hb dX6_isPoint_0 rfl (lv_at hl 0 rfl) ?_
  refine va_calli (va_runS (As := [.int x]) (rest := []) ⟨hx, hb, hml, hown, hts⟩ (mX6_isCoordinate l x) (va_cwS 1 hts gX6_isPoint_X6_isCoordinate rfl rfl rfl (by decide +kernel) ⟨Nat.le_of_ble_eq_true rfl, Nat.le_of_ble_eq_true rfl⟩) ⟨tB_blind, tB_go⟩ rfl rfl hl.1 rfl (lv_room (Nat.le_of_ble_eq_true rfl)) dX6_isPoint_1 ⟨Nat.le_of_ble_eq_true rfl, Nat.le_of_ble_eq_true rfl⟩) hS (fun q _ h => h.elim) (fun q h => h.elim) (fun r1 u2 t H locs ht hvm hp3 hB hz1 hk1 hS => ?_)
  subst hp3
  refine lv_if_eq (tgt := 18) hx hb dX6_isPoint_4 (by decide) (fun c4 => ?_) (fun c4 => ?_)
  · have c4 := bI_e.mp c4
    refine lv_iconst (v := 0) hx hb dX6_isPoint_18 (by decide) ?_
    exact W.zret (v := 0) hx hb hr rfl (fun t ht hW => ⟨⟨0, (), rfl, (by simp [okP, bI, c4]), trivial⟩, hS.F ht⟩) hS.2.2 dX6_isPoint_19
  · have c4 := bI_n.mp c4
    refine lv_iload_n hx hb dX6_isPoint_7 rfl (lv_at hl 1 rfl) ?_
    refine va_calli (va_runS (As := [.int y]) (rest := []) ⟨hx, hb, hml, hown, hts⟩ (mX6_isCoordinate l y) (va_cwS 1 hts gX6_isPoint_X6_isCoordinate rfl rfl rfl (by decide +kernel) ⟨Nat.le_of_ble_eq_true rfl, Nat.le_of_ble_eq_true rfl⟩) ⟨tB_blind, tB_go⟩ rfl rfl hl.1 rfl (lv_room (Nat.le_of_ble_eq_true rfl)) dX6_isPoint_8 ⟨Nat.le_of_ble_eq_true rfl, Nat.le_of_ble_eq_true rfl⟩) hS (fun q _ h => h.elim) (fun q h => h.elim) (fun r5 u6 t H locs ht hvm hp7 hB hz1 hk1 hS => ?_)
    subst hp7
    refine lv_if_eq (tgt := 18) hx hb dX6_isPoint_11 (by decide) (fun c8 => ?_) (fun c8 => ?_)
    · have c8 := bI_e.mp c8
      refine lv_iconst (v := 0) hx hb dX6_isPoint_18 (by decide) ?_
      exact W.zret (v := 0) hx hb hr rfl (fun t ht hW => ⟨⟨0, (), rfl, (by simp [okP, bI, c4, c8]), trivial⟩, hS.F ht⟩) hS.2.2 dX6_isPoint_19
    · have c8 := bI_n.mp c8
      refine lv_iconst (v := 1) hx hb dX6_isPoint_14 (by decide) ?_
      refine lv_goto (tgt := 19) hx hb dX6_isPoint_15 (by decide) ?_
      exact W.zret (v := 1) hx hb hr rfl (fun t ht hW => ⟨⟨1, (), rfl, (by simp [okP, bI, c4, c8]), trivial⟩, hS.F ht⟩) hS.2.2 dX6_isPoint_19
set_option maxHeartbeats 4000000 in
set_option maxRecDepth 100000 in
theorem mX6_isSpan (l : Launch) (x y : Int32)  : Met l yX6_isSpan wsX6_isSpan ({ frames := 2, cells := 0, slots := 0, locals := 42 }) (va_Pc [.int x, .int y] (fun _ => True)) (va_Qi (fun (r : Int32) (u : Unit) => r = bI (okS x y)) (fun _ _ => True) nA) 0 0 nA := by
  refine Met.ofW (cc := cX6_isSpan) (maxL := 2) (ret := (some .boolean)) (by decide) rfl ?_
  intro p e s m args below meth c s₁ B hml hv
  obtain ⟨rfl, -⟩ := hv
  have hx := B.exec
  have hb := B.bytes
  have hr := B.returns
  have hts := atoms_spec (ws := wsX6_isSpan) B.pre
  have hown : s.vm.findClass RX6 = some m.cls := findClass_of_methodNamed B.named
  have hlocks := B.notSynchronized
  have hS : va_S nA s.heap s.heap [] := va_S.rf
  have hl := lv_entry ([.int x, .int y]) (n := 2) (Nat.le_of_ble_eq_true rfl)
  rw [lg_entry_eq]
  generalize (lg_sl ([.int x, .int y]) ++ List.replicate (2 - (lg_sl ([.int x, .int y])).length) Slot.unset).toArray = ls at hl ⊢
  have hl : lv_has ls 2 [(0, .int x), (1, .int y)] := hl
  skip
  refine lv_iload_n hx hb dX6_isSpan_0 rfl (lv_at hl 0 rfl) ?_
  refine va_calli (va_runS (As := [.int x]) (rest := []) ⟨hx, hb, hml, hown, hts⟩ (mX6_isCoordinate l x) (va_cwS 1 hts gX6_isSpan_X6_isCoordinate rfl rfl rfl (by decide +kernel) ⟨Nat.le_of_ble_eq_true rfl, Nat.le_of_ble_eq_true rfl⟩) ⟨tB_blind, tB_go⟩ rfl rfl hl.1 rfl (lv_room (Nat.le_of_ble_eq_true rfl)) dX6_isSpan_1 ⟨Nat.le_of_ble_eq_true rfl, Nat.le_of_ble_eq_true rfl⟩) hS (fun q _ h => h.elim) (fun q h => h.elim) (fun r1 u2 t H locs ht hvm hp3 hB hz1 hk1 hS => ?_)
  subst hp3
  refine lv_if_eq (tgt := 23) hx hb dX6_isSpan_4 (by decide) (fun c4 => ?_) (fun c4 => ?_)
  · have c4 := bI_e.mp c4
    refine lv_iconst (v := 0) hx hb dX6_isSpan_23 (by decide) ?_
    exact W.zret (v := 0) hx hb hr rfl (fun t ht hW => ⟨⟨0, (), rfl, (by simp [okS, bI, c4]), trivial⟩, hS.F ht⟩) hS.2.2 dX6_isSpan_24
  · have c4 := bI_n.mp c4
    refine lv_iload_n hx hb dX6_isSpan_7 rfl (lv_at hl 1 rfl) ?_
    refine va_calli (va_runS (As := [.int y]) (rest := []) ⟨hx, hb, hml, hown, hts⟩ (mX6_isCoordinate l y) (va_cwS 1 hts gX6_isSpan_X6_isCoordinate rfl rfl rfl (by decide +kernel) ⟨Nat.le_of_ble_eq_true rfl, Nat.le_of_ble_eq_true rfl⟩) ⟨tB_blind, tB_go⟩ rfl rfl hl.1 rfl (lv_room (Nat.le_of_ble_eq_true rfl)) dX6_isSpan_8 ⟨Nat.le_of_ble_eq_true rfl, Nat.le_of_ble_eq_true rfl⟩) hS (fun q _ h => h.elim) (fun q h => h.elim) (fun r5 u6 t H locs ht hvm hp7 hB hz1 hk1 hS => ?_)
    subst hp7
    refine lv_if_eq (tgt := 23) hx hb dX6_isSpan_11 (by decide) (fun c8 => ?_) (fun c8 => ?_)
    · have c8 := bI_e.mp c8
      refine lv_iconst (v := 0) hx hb dX6_isSpan_23 (by decide) ?_
      exact W.zret (v := 0) hx hb hr rfl (fun t ht hW => ⟨⟨0, (), rfl, (by simp [okS, bI, c4, c8]), trivial⟩, hS.F ht⟩) hS.2.2 dX6_isSpan_24
    · have c8 := bI_n.mp c8
      refine lv_iload_n hx hb dX6_isSpan_14 rfl (lv_at hl 0 rfl) ?_
      refine lv_iload_n hx hb dX6_isSpan_15 rfl (lv_at hl 1 rfl) ?_
      refine lv_icmp_gt (tgt := 23) hx hb dX6_isSpan_16 (by decide) (fun c9 => ?_) (fun c9 => ?_)
      · have i10 := Int32.not_le.mpr c9
        refine lv_iconst (v := 0) hx hb dX6_isSpan_23 (by decide) ?_
        exact W.zret (v := 0) hx hb hr rfl (fun t ht hW => ⟨⟨0, (), rfl, (by simp [okS, bI, c4, c8, c9, i10]), trivial⟩, hS.F ht⟩) hS.2.2 dX6_isSpan_24
      · have i11 := Int32.not_lt.mp c9
        refine lv_iconst (v := 1) hx hb dX6_isSpan_19 (by decide) ?_
        refine lv_goto (tgt := 24) hx hb dX6_isSpan_20 (by decide) ?_
        exact W.zret (v := 1) hx hb hr rfl (fun t ht hW => ⟨⟨1, (), rfl, (by simp [okS, bI, c4, c8, c9, i11]), trivial⟩, hS.F ht⟩) hS.2.2 dX6_isSpan_24
set_option maxHeartbeats 4000000 in
set_option maxRecDepth 100000 in
theorem mX6_mix (l : Launch) (h : Int64) (v : Int32)  : Met l yX6_mix wsX6_mix ({ frames := 0, cells := 0, slots := 0, locals := 0 }) (va_Pc [.long h, .int v] (fun _ => True)) (va_Ql (fun (r : Int64) (u : Unit) => r = 31 * h + Int32.toInt64 v) (fun _ _ => True) nA) 0 0 nA := by
  refine Met.ofW (cc := cX6_mix) (maxL := 3) (ret := (some .long)) (by decide) rfl ?_
  intro p e s m args below meth c s₁ B hml hv
  obtain ⟨rfl, -⟩ := hv
  have hx := B.exec
  have hb := B.bytes
  have hr := B.returns
  have hts := atoms_spec (ws := wsX6_mix) B.pre
  have hown : s.vm.findClass RX6 = some m.cls := findClass_of_methodNamed B.named
  have hlocks := B.notSynchronized
  have hS : va_S nA s.heap s.heap [] := va_S.rf
  have hl := lv_entry ([.long h, .int v]) (n := 3) (Nat.le_of_ble_eq_true rfl)
  rw [lg_entry_eq]
  generalize (lg_sl ([.long h, .int v]) ++ List.replicate (3 - (lg_sl ([.long h, .int v])).length) Slot.unset).toArray = ls at hl ⊢
  have hl : lv_has ls 3 [(0, .long h), (2, .int v)] := hl
  skip
  refine lv_ldc2 hx hb hown (hts (.constantLong RX6 167 (31)) (by decide +kernel)) dX6_mix_0 ?_
  refine lv_lload_n hx hb dX6_mix_3 rfl (lv_at hl 0 rfl) ?_
  refine lv_lmul hx hb dX6_mix_4 ?_
  refine lv_iload_n hx hb dX6_mix_5 rfl (lv_at hl 1 rfl) ?_
  refine lv_i2l (v := Int32.toInt64 v) hx hb dX6_mix_6 rfl ?_
  refine lv_ladd hx hb dX6_mix_7 ?_
  exact W.lret (v := (31 * h) + (Int32.toInt64 v)) hx hb hr (fun t ht hW => ⟨⟨(31 * h) + (Int32.toInt64 v), (), rfl, rfl, trivial⟩, hS.F ht⟩) hS.2.2 dX6_mix_8
