/-! THE MODEL (X7): what tells the numbers; shims, readings, digest, best -/
def layN (N : Nat → Int32) (q : Nat) (n1 n2 n3 n4 n5 n6 n7 n8 : Int32) : Nat → Int32 := (upd (upd (upd (upd (upd (upd (upd (upd N (13 * q) n1) (13 * q + 1) n2) (13 * q + 2) n3) (13 * q + 3) n4) (13 * q + 4) n5) (13 * q + 5) n6) (13 * q + 6) n7) (13 * q + 7) n8)
def whN (N : Nat → Int32) (q : Nat) (n1 n2 : Int32) : Nat → Int32 := (upd (upd N (13 * q + 8) n1) (13 * q + 9) n2)
def spN (N : Nat → Int32) (q : Nat) (n1 n2 n3 : Int32) : Nat → Int32 := (upd (upd (upd N (13 * q + 10) n1) (13 * q + 11) n2) (13 * q + 12) n3)
def mirV (j : Nat) (v : Int32) : Int32 := if nI j = 0 ∨ nI j = 2 ∨ nI j = 7 ∨ nI j = 10 then -v else v
def mirF (N : Nat → Int32) (q q2 : Nat) : Nat → Nat → Int32
  | 0 => N
  | j + 1 => upd (mirF N q q2 j) (13 * q2 + j) (mirV j (mirF N q q2 j (13 * q + j)))
theorem mirF_t {N : Nat → Int32} {q q2 j : Nat} (h : nI j = 0 ∨ nI j = 2 ∨ nI j = 7 ∨ nI j = 10) : mirF N q q2 (j + 1) = upd (mirF N q q2 j) (13 * q2 + j) (-(mirF N q q2 j (13 * q + j))) := by
  show upd _ _ (mirV _ _) = _
  unfold mirV
  rw [if_pos h]
theorem mirF_f {N : Nat → Int32} {q q2 j : Nat} (h : ¬ (nI j = 0 ∨ nI j = 2 ∨ nI j = 7 ∨ nI j = 10)) : mirF N q q2 (j + 1) = upd (mirF N q q2 j) (13 * q2 + j) (mirF N q q2 j (13 * q + j)) := by
  show upd _ _ (mirV _ _) = _
  unfold mirV
  rw [if_neg h]
set_option maxHeartbeats 4000000 in
set_option maxRecDepth 100000 in
theorem mX7_lays (l : Launch) (D : va_G) (cI cH : ClassId) (mo nu sh ra rr k k2 q : Nat) (N : Nat → Int32) (ct cp cr ctr cfs : Int32) (p0 p1 p2 p3 p4 p5 p6 p7 p8 p9 po : UInt64) (n1 n2 n3 n4 n5 n6 n7 n8 : Int32)  (hqq : q < 4) (hne2 : mo ≠ nu) : Met l yX7_lays wsX7_lays ({ frames := 0, cells := 0, slots := 0, locals := 0 }) (va_Pc [.ref mo, .int (nI q), .int n1, .int n2, .int n3, .int n4, .int n5, .int n6, .int n7, .int n8] (kB D cI cH [(nu, .inl (cI, 52, .inl N)), (mo, .inr (6, [.ref nu, .double p0, .double p1, .double p2, .double p3, .double p4, .double p5, .double p6, .double p7, .double p8, .double p9, .int ct, .int cp, .int cr, .int ctr, .int cfs, .int (nI k), .ref sh, .int (nI k2), .ref ra, .ref rr, .double po]))])) (va_Qv (fun (u : Nat → Int32) => u = layN N q n1 n2 n3 n4 n5 n6 n7 n8) (fun u t => va_at D vwCl (nu, .inl (cI, 52, .inl u)) t.heap) (aE nu)) 0 0 (aE nu) := by
  refine Met.ofW (cc := cX7_lays) (maxL := 11) (ret := none) (by decide) rfl ?_
  intro p e s m args below meth co s₁ B hml hv
  obtain ⟨rfl, hP0, hw⟩ := hv
  have hx := B.exec
  have hb := B.bytes
  have hr := B.returns
  have hts := atoms_spec (ws := wsX7_lays) B.pre
  have hown : s.vm.findClass RX7 = some m.cls := findClass_of_methodNamed B.named
  have hlocks := B.notSynchronized
  have hinX7 : ∀ w ∈ wsX70, w ∈ wsX7_lays := by decide +kernel
  have hS : va_S (aE nu) s.heap s.heap [] := va_S.rf
  have hP : va_P D vwCl [(nu, .inl (cI, 52, .inl N))] s.heap := hP0.sub [0] rfl
  have hD : va_D (aE nu) [(nu, .inl (cI, 52, .inl N))] := D_1 rfl
  have hR0 : va_P D vwCl [(mo, .inr (6, [.ref nu, .double p0, .double p1, .double p2, .double p3, .double p4, .double p5, .double p6, .double p7, .double p8, .double p9, .int ct, .int cp, .int cr, .int ctr, .int cfs, .int (nI k), .ref sh, .int (nI k2), .ref ra, .ref rr, .double po]))] s.heap := hP0.sub [1] rfl
  have hR := hR0
  have hnr : ∀ (k9 : Nat) (q : Nat × va_E), ([(mo, .inr (6, [.ref nu, .double p0, .double p1, .double p2, .double p3, .double p4, .double p5, .double p6, .double p7, .double p8, .double p9, .int ct, .int cp, .int cr, .int ctr, .int cfs, .int (nI k), .ref sh, .int (nI k2), .ref ra, .ref rr, .double po]))] : va_W)[k9]? = some q → ¬ (aE nu) q.1 := nn_1 hne2 nn_0
  have hl := lv_entry ([.ref mo, .int (nI q), .int n1, .int n2, .int n3, .int n4, .int n5, .int n6, .int n7, .int n8]) (n := 11) (Nat.le_of_ble_eq_true rfl)
  rw [lg_entry_eq]
  generalize (lg_sl ([.ref mo, .int (nI q), .int n1, .int n2, .int n3, .int n4, .int n5, .int n6, .int n7, .int n8]) ++ List.replicate (11 - (lg_sl ([.ref mo, .int (nI q), .int n1, .int n2, .int n3, .int n4, .int n5, .int n6, .int n7, .int n8])).length) Slot.unset).toArray = ls at hl ⊢
  have hl : lv_has ls 11 [(0, .ref mo), (1, .int (nI q)), (2, .int n1), (3, .int n2), (4, .int n3), (5, .int n4), (6, .int n5), (7, .int n6), (8, .int n7), (9, .int n8)] := hl
  skip
  refine lv_bipush (v := 13) hx hb dX7_lays_0 (by decide) ?_
  refine lv_iload_n hx hb dX7_lays_2 rfl (lv_at hl 1 rfl) ?_
  refine lv_imul hx hb dX7_lays_3 ?_
  rw [nI_m13]
  refine lv_istore (lv' := [(10, .int (nI (13 * q))), (0, .ref mo), (1, .int (nI q)), (2, .int n1), (3, .int n2), (4, .int n3), (5, .int n4), (6, .int n5), (7, .int n6), (8, .int n7), (9, .int n8)]) hx hb dX7_lays_4 hl (by decide) rfl (fun ls hl => ?_)
  refine lv_aload_n hx hb dX7_lays_6 rfl (lv_at hl 1 rfl) ?_
  refine va_get (D := D) (ci := 6) (v := .ref nu) (C := RX7) (T := TX7) (N := 22) hx hb hts hinX7 hown hw.1 hR 0 rfl rfl 0 (by decide) (hts (.fieldLink RX7 19 "WheelSwingModel" "number" "[I") (by decide +kernel)) (fun _ h9 => h9) rfl dX7_lays_7 ?_
  refine lv_iload hx hb dX7_lays_10 (lv_at hl 0 rfl) ?_
  refine lv_iload_n hx hb dX7_lays_12 rfl (lv_at hl 3 rfl) ?_
  refine va_iast hx hb hw.1 hP hD hS 0 0 rfl rfl (vp_in_nI (by omega) (by omega)) dX7_lays_13 (fun H locs hP hD hS => ?_)
  rw [nI_clamp (n := 13 * q) (by omega)] at hP hD
  have hP : va_P D vwCl [(nu, .inl (cI, 52, .inl (upd N (13 * q) n1)))] H := hP
  have hD : va_D (aE nu) [(nu, .inl (cI, 52, .inl (upd N (13 * q) n1)))] := hD
  have hR := fr_rd hR0 hS hnr
  refine lv_aload_n hx hb dX7_lays_14 rfl (lv_at hl 1 rfl) ?_
  refine va_get (D := D) (ci := 6) (v := .ref nu) (C := RX7) (T := TX7) (N := 22) hx hb hts hinX7 hown hw.1 hR 0 rfl rfl 0 (by decide) (hts (.fieldLink RX7 19 "WheelSwingModel" "number" "[I") (by decide +kernel)) (fun _ h9 => h9) rfl dX7_lays_15 ?_
  refine lv_iload hx hb dX7_lays_18 (lv_at hl 0 rfl) ?_
  refine lv_iconst (v := 1) hx hb dX7_lays_20 (by decide) ?_
  refine lv_iadd hx hb dX7_lays_21 ?_
  rw [nI_ad1]
  refine lv_iload_n hx hb dX7_lays_22 rfl (lv_at hl 4 rfl) ?_
  refine va_iast hx hb hw.1 hP hD hS 0 0 rfl rfl (vp_in_nI (by omega) (by omega)) dX7_lays_23 (fun H locs hP hD hS => ?_)
  rw [nI_clamp (n := 13 * q + 1) (by omega)] at hP hD
  have hP : va_P D vwCl [(nu, .inl (cI, 52, .inl (upd (upd N (13 * q) n1) (13 * q + 1) n2)))] H := hP
  have hD : va_D (aE nu) [(nu, .inl (cI, 52, .inl (upd (upd N (13 * q) n1) (13 * q + 1) n2)))] := hD
  have hR := fr_rd hR0 hS hnr
  refine lv_aload_n hx hb dX7_lays_24 rfl (lv_at hl 1 rfl) ?_
  refine va_get (D := D) (ci := 6) (v := .ref nu) (C := RX7) (T := TX7) (N := 22) hx hb hts hinX7 hown hw.1 hR 0 rfl rfl 0 (by decide) (hts (.fieldLink RX7 19 "WheelSwingModel" "number" "[I") (by decide +kernel)) (fun _ h9 => h9) rfl dX7_lays_25 ?_
  refine lv_iload hx hb dX7_lays_28 (lv_at hl 0 rfl) ?_
  refine lv_iconst (v := 2) hx hb dX7_lays_30 (by decide) ?_
  refine lv_iadd hx hb dX7_lays_31 ?_
  rw [nI_ad2]
  refine lv_iload hx hb dX7_lays_32 (lv_at hl 5 rfl) ?_
  refine va_iast hx hb hw.1 hP hD hS 0 0 rfl rfl (vp_in_nI (by omega) (by omega)) dX7_lays_34 (fun H locs hP hD hS => ?_)
  rw [nI_clamp (n := 13 * q + 2) (by omega)] at hP hD
  have hP : va_P D vwCl [(nu, .inl (cI, 52, .inl (upd (upd (upd N (13 * q) n1) (13 * q + 1) n2) (13 * q + 2) n3)))] H := hP
  have hD : va_D (aE nu) [(nu, .inl (cI, 52, .inl (upd (upd (upd N (13 * q) n1) (13 * q + 1) n2) (13 * q + 2) n3)))] := hD
  have hR := fr_rd hR0 hS hnr
  refine lv_aload_n hx hb dX7_lays_35 rfl (lv_at hl 1 rfl) ?_
  refine va_get (D := D) (ci := 6) (v := .ref nu) (C := RX7) (T := TX7) (N := 22) hx hb hts hinX7 hown hw.1 hR 0 rfl rfl 0 (by decide) (hts (.fieldLink RX7 19 "WheelSwingModel" "number" "[I") (by decide +kernel)) (fun _ h9 => h9) rfl dX7_lays_36 ?_
  refine lv_iload hx hb dX7_lays_39 (lv_at hl 0 rfl) ?_
  refine lv_iconst (v := 3) hx hb dX7_lays_41 (by decide) ?_
  refine lv_iadd hx hb dX7_lays_42 ?_
  rw [nI_ad3]
  refine lv_iload hx hb dX7_lays_43 (lv_at hl 6 rfl) ?_
  refine va_iast hx hb hw.1 hP hD hS 0 0 rfl rfl (vp_in_nI (by omega) (by omega)) dX7_lays_45 (fun H locs hP hD hS => ?_)
  rw [nI_clamp (n := 13 * q + 3) (by omega)] at hP hD
  have hP : va_P D vwCl [(nu, .inl (cI, 52, .inl (upd (upd (upd (upd N (13 * q) n1) (13 * q + 1) n2) (13 * q + 2) n3) (13 * q + 3) n4)))] H := hP
  have hD : va_D (aE nu) [(nu, .inl (cI, 52, .inl (upd (upd (upd (upd N (13 * q) n1) (13 * q + 1) n2) (13 * q + 2) n3) (13 * q + 3) n4)))] := hD
  have hR := fr_rd hR0 hS hnr
  refine lv_aload_n hx hb dX7_lays_46 rfl (lv_at hl 1 rfl) ?_
  refine va_get (D := D) (ci := 6) (v := .ref nu) (C := RX7) (T := TX7) (N := 22) hx hb hts hinX7 hown hw.1 hR 0 rfl rfl 0 (by decide) (hts (.fieldLink RX7 19 "WheelSwingModel" "number" "[I") (by decide +kernel)) (fun _ h9 => h9) rfl dX7_lays_47 ?_
  refine lv_iload hx hb dX7_lays_50 (lv_at hl 0 rfl) ?_
  refine lv_iconst (v := 4) hx hb dX7_lays_52 (by decide) ?_
  refine lv_iadd hx hb dX7_lays_53 ?_
  rw [nI_ad4]
  refine lv_iload hx hb dX7_lays_54 (lv_at hl 7 rfl) ?_
  refine va_iast hx hb hw.1 hP hD hS 0 0 rfl rfl (vp_in_nI (by omega) (by omega)) dX7_lays_56 (fun H locs hP hD hS => ?_)
  rw [nI_clamp (n := 13 * q + 4) (by omega)] at hP hD
  have hP : va_P D vwCl [(nu, .inl (cI, 52, .inl (upd (upd (upd (upd (upd N (13 * q) n1) (13 * q + 1) n2) (13 * q + 2) n3) (13 * q + 3) n4) (13 * q + 4) n5)))] H := hP
  have hD : va_D (aE nu) [(nu, .inl (cI, 52, .inl (upd (upd (upd (upd (upd N (13 * q) n1) (13 * q + 1) n2) (13 * q + 2) n3) (13 * q + 3) n4) (13 * q + 4) n5)))] := hD
  have hR := fr_rd hR0 hS hnr
  refine lv_aload_n hx hb dX7_lays_57 rfl (lv_at hl 1 rfl) ?_
  refine va_get (D := D) (ci := 6) (v := .ref nu) (C := RX7) (T := TX7) (N := 22) hx hb hts hinX7 hown hw.1 hR 0 rfl rfl 0 (by decide) (hts (.fieldLink RX7 19 "WheelSwingModel" "number" "[I") (by decide +kernel)) (fun _ h9 => h9) rfl dX7_lays_58 ?_
  refine lv_iload hx hb dX7_lays_61 (lv_at hl 0 rfl) ?_
  refine lv_iconst (v := 5) hx hb dX7_lays_63 (by decide) ?_
  refine lv_iadd hx hb dX7_lays_64 ?_
  rw [nI_ad5]
  refine lv_iload hx hb dX7_lays_65 (lv_at hl 8 rfl) ?_
  refine va_iast hx hb hw.1 hP hD hS 0 0 rfl rfl (vp_in_nI (by omega) (by omega)) dX7_lays_67 (fun H locs hP hD hS => ?_)
  rw [nI_clamp (n := 13 * q + 5) (by omega)] at hP hD
  have hP : va_P D vwCl [(nu, .inl (cI, 52, .inl (upd (upd (upd (upd (upd (upd N (13 * q) n1) (13 * q + 1) n2) (13 * q + 2) n3) (13 * q + 3) n4) (13 * q + 4) n5) (13 * q + 5) n6)))] H := hP
  have hD : va_D (aE nu) [(nu, .inl (cI, 52, .inl (upd (upd (upd (upd (upd (upd N (13 * q) n1) (13 * q + 1) n2) (13 * q + 2) n3) (13 * q + 3) n4) (13 * q + 4) n5) (13 * q + 5) n6)))] := hD
  have hR := fr_rd hR0 hS hnr
  refine lv_aload_n hx hb dX7_lays_68 rfl (lv_at hl 1 rfl) ?_
  refine va_get (D := D) (ci := 6) (v := .ref nu) (C := RX7) (T := TX7) (N := 22) hx hb hts hinX7 hown hw.1 hR 0 rfl rfl 0 (by decide) (hts (.fieldLink RX7 19 "WheelSwingModel" "number" "[I") (by decide +kernel)) (fun _ h9 => h9) rfl dX7_lays_69 ?_
  refine lv_iload hx hb dX7_lays_72 (lv_at hl 0 rfl) ?_
  refine lv_bipush (v := 6) hx hb dX7_lays_74 (by decide) ?_
  refine lv_iadd hx hb dX7_lays_76 ?_
  rw [nI_ad6]
  refine lv_iload hx hb dX7_lays_77 (lv_at hl 9 rfl) ?_
  refine va_iast hx hb hw.1 hP hD hS 0 0 rfl rfl (vp_in_nI (by omega) (by omega)) dX7_lays_79 (fun H locs hP hD hS => ?_)
  rw [nI_clamp (n := 13 * q + 6) (by omega)] at hP hD
  have hP : va_P D vwCl [(nu, .inl (cI, 52, .inl (upd (upd (upd (upd (upd (upd (upd N (13 * q) n1) (13 * q + 1) n2) (13 * q + 2) n3) (13 * q + 3) n4) (13 * q + 4) n5) (13 * q + 5) n6) (13 * q + 6) n7)))] H := hP
  have hD : va_D (aE nu) [(nu, .inl (cI, 52, .inl (upd (upd (upd (upd (upd (upd (upd N (13 * q) n1) (13 * q + 1) n2) (13 * q + 2) n3) (13 * q + 3) n4) (13 * q + 4) n5) (13 * q + 5) n6) (13 * q + 6) n7)))] := hD
  have hR := fr_rd hR0 hS hnr
  refine lv_aload_n hx hb dX7_lays_80 rfl (lv_at hl 1 rfl) ?_
  refine va_get (D := D) (ci := 6) (v := .ref nu) (C := RX7) (T := TX7) (N := 22) hx hb hts hinX7 hown hw.1 hR 0 rfl rfl 0 (by decide) (hts (.fieldLink RX7 19 "WheelSwingModel" "number" "[I") (by decide +kernel)) (fun _ h9 => h9) rfl dX7_lays_81 ?_
  refine lv_iload hx hb dX7_lays_84 (lv_at hl 0 rfl) ?_
  refine lv_bipush (v := 7) hx hb dX7_lays_86 (by decide) ?_
  refine lv_iadd hx hb dX7_lays_88 ?_
  rw [nI_ad7]
  refine lv_iload hx hb dX7_lays_89 (lv_at hl 10 rfl) ?_
  refine va_iast hx hb hw.1 hP hD hS 0 0 rfl rfl (vp_in_nI (by omega) (by omega)) dX7_lays_91 (fun H locs hP hD hS => ?_)
  rw [nI_clamp (n := 13 * q + 7) (by omega)] at hP hD
  have hP : va_P D vwCl [(nu, .inl (cI, 52, .inl (upd (upd (upd (upd (upd (upd (upd (upd N (13 * q) n1) (13 * q + 1) n2) (13 * q + 2) n3) (13 * q + 3) n4) (13 * q + 4) n5) (13 * q + 5) n6) (13 * q + 6) n7) (13 * q + 7) n8)))] H := hP
  have hD : va_D (aE nu) [(nu, .inl (cI, 52, .inl (upd (upd (upd (upd (upd (upd (upd (upd N (13 * q) n1) (13 * q + 1) n2) (13 * q + 2) n3) (13 * q + 3) n4) (13 * q + 4) n5) (13 * q + 5) n6) (13 * q + 6) n7) (13 * q + 7) n8)))] := hD
  have hR := fr_rd hR0 hS hnr
  exact W.vret hx hb hr (fun t ht hW => ⟨⟨(upd (upd (upd (upd (upd (upd (upd (upd N (13 * q) n1) (13 * q + 1) n2) (13 * q + 2) n3) (13 * q + 3) n4) (13 * q + 4) n5) (13 * q + 5) n6) (13 * q + 6) n7) (13 * q + 7) n8), rfl, rfl, at_heap ht (hP 0 _ rfl)⟩, hS.F ht⟩) hS.2.2 dX7_lays_92
set_option maxHeartbeats 4000000 in
set_option maxRecDepth 100000 in
theorem mX7_hang (l : Launch) (D : va_G) (cI cH : ClassId) (mo nu sh ra rr k k2 q : Nat) (N : Nat → Int32) (ct cp cr ctr cfs : Int32) (p0 p1 p2 p3 p4 p5 p6 p7 p8 p9 po : UInt64) (h n1 n2 n3 n4 n5 n6 n7 n8 : Int32)  (hqq : q < 4) (hne2 : mo ≠ nu) (hq9 : okH h = true → h = nI q) : Met l yX7_hang wsX7_hang ({ frames := 2, cells := 0, slots := 0, locals := 42 }) (va_Pc [.ref mo, .int h, .int n1, .int n2, .int n3, .int n4, .int n5, .int n6, .int n7, .int n8] (kB D cI cH [(nu, .inl (cI, 52, .inl N)), (mo, .inr (6, [.ref nu, .double p0, .double p1, .double p2, .double p3, .double p4, .double p5, .double p6, .double p7, .double p8, .double p9, .int ct, .int cp, .int cr, .int ctr, .int cfs, .int (nI k), .ref sh, .int (nI k2), .ref ra, .ref rr, .double po]))])) (va_Qi (fun (r : Int32) (u : Nat → Int32) => if okHang h n1 n2 n3 n4 n5 n6 n7 n8 then r = 1 ∧ u = layN N q n1 n2 n3 n4 n5 n6 n7 n8 else r = -2 ∧ u = N) (fun u t => va_at D vwCl (nu, .inl (cI, 52, .inl u)) t.heap) (aE nu)) 0 0 (aE nu) := by
  refine Met.ofW (cc := cX7_hang) (maxL := 10) (ret := (some .int)) (by decide) rfl ?_
  intro p e s m args below meth co s₁ B hml hv
  obtain ⟨rfl, hP0, hw⟩ := hv
  have hx := B.exec
  have hb := B.bytes
  have hr := B.returns
  have hts := atoms_spec (ws := wsX7_hang) B.pre
  have hown : s.vm.findClass RX7 = some m.cls := findClass_of_methodNamed B.named
  have hlocks := B.notSynchronized
  have hinX7 : ∀ w ∈ wsX70, w ∈ wsX7_hang := by decide +kernel
  have hS : va_S (aE nu) s.heap s.heap [] := va_S.rf
  have hP : va_P D vwCl [(nu, .inl (cI, 52, .inl N))] s.heap := hP0.sub [0] rfl
  have hD : va_D (aE nu) [(nu, .inl (cI, 52, .inl N))] := D_1 rfl
  have hR0 : va_P D vwCl [(mo, .inr (6, [.ref nu, .double p0, .double p1, .double p2, .double p3, .double p4, .double p5, .double p6, .double p7, .double p8, .double p9, .int ct, .int cp, .int cr, .int ctr, .int cfs, .int (nI k), .ref sh, .int (nI k2), .ref ra, .ref rr, .double po]))] s.heap := hP0.sub [1] rfl
  have hR := hR0
  have hnr : ∀ (k9 : Nat) (q : Nat × va_E), ([(mo, .inr (6, [.ref nu, .double p0, .double p1, .double p2, .double p3, .double p4, .double p5, .double p6, .double p7, .double p8, .double p9, .int ct, .int cp, .int cr, .int ctr, .int cfs, .int (nI k), .ref sh, .int (nI k2), .ref ra, .ref rr, .double po]))] : va_W)[k9]? = some q → ¬ (aE nu) q.1 := nn_1 hne2 nn_0
  have hl := lv_entry ([.ref mo, .int h, .int n1, .int n2, .int n3, .int n4, .int n5, .int n6, .int n7, .int n8]) (n := 10) (Nat.le_of_ble_eq_true rfl)
  rw [lg_entry_eq]
  generalize (lg_sl ([.ref mo, .int h, .int n1, .int n2, .int n3, .int n4, .int n5, .int n6, .int n7, .int n8]) ++ List.replicate (10 - (lg_sl ([.ref mo, .int h, .int n1, .int n2, .int n3, .int n4, .int n5, .int n6, .int n7, .int n8])).length) Slot.unset).toArray = ls at hl ⊢
  have hl : lv_has ls 10 [(0, .ref mo), (1, .int h), (2, .int n1), (3, .int n2), (4, .int n3), (5, .int n4), (6, .int n5), (7, .int n6), (8, .int n7), (9, .int n8)] := hl
  skip
  refine lv_iload_n hx hb dX7_hang_0 rfl (lv_at hl 1 rfl) ?_
  refine va_calli (va_runS (As := [.int h]) (rest := []) ⟨hx, hb, hml, hown, hts⟩ (mX7_isHanging l h) (va_cwS 1 hts gX7_hang_X7_isHanging rfl rfl rfl (by decide +kernel) ⟨Nat.le_of_ble_eq_true rfl, Nat.le_of_ble_eq_true rfl⟩) ⟨tB_blind, tB_go⟩ rfl rfl hl.1 rfl (lv_room (Nat.le_of_ble_eq_true rfl)) dX7_hang_1 ⟨Nat.le_of_ble_eq_true rfl, Nat.le_of_ble_eq_true rfl⟩) hS (fun q _ h => h.elim) (fun q h => h.elim) (fun r1 u2 t H locs ht hvm hp3 hB hz1 hk1 hS => ?_)
  have hP := fr_keep hP hk1 fr_nA
  have hR := fr_rd hR0 hS hnr
  subst hp3
  refine lv_if_eq (tgt := 73) hx hb dX7_hang_4 (by decide) (fun c4 => ?_) (fun c4 => ?_)
  · have c4 := bI_e.mp c4
    refine lv_bipush (v := (-2)) hx hb dX7_hang_73 (by decide) ?_
    exact W.iret (v := (-2)) hx hb hr (fun t ht hW => ⟨⟨(-2), N, rfl, (by dsimp only; rw [show okHang h n1 n2 n3 n4 n5 n6 n7 n8 = false from (by unfold okHang okP; simp [c4]), if_neg (by decide)]; exact ⟨rfl, rfl⟩), at_heap ht (hP 0 _ rfl)⟩, hS.F ht⟩) hS.2.2 dX7_hang_75
  · have c4 := bI_n.mp c4
    refine lv_iload_n hx hb dX7_hang_7 rfl (lv_at hl 2 rfl) ?_
    refine va_calli (va_runS (As := [.int n1]) (rest := []) ⟨hx, hb, hml, hown, hts⟩ (mX7_isAt l n1) (va_cwS 1 hts gX7_hang_X7_isAt rfl rfl rfl (by decide +kernel) ⟨Nat.le_of_ble_eq_true rfl, Nat.le_of_ble_eq_true rfl⟩) ⟨tB_blind, tB_go⟩ rfl rfl hl.1 rfl (lv_room (Nat.le_of_ble_eq_true rfl)) dX7_hang_8 ⟨Nat.le_of_ble_eq_true rfl, Nat.le_of_ble_eq_true rfl⟩) hS (fun q _ h => h.elim) (fun q h => h.elim) (fun r5 u6 t H locs ht hvm hp7 hB hz1 hk1 hS => ?_)
    have hP := fr_keep hP hk1 fr_nA
    have hR := fr_rd hR0 hS hnr
    subst hp7
    refine lv_if_eq (tgt := 73) hx hb dX7_hang_11 (by decide) (fun c8 => ?_) (fun c8 => ?_)
    · have c8 := bI_e.mp c8
      refine lv_bipush (v := (-2)) hx hb dX7_hang_73 (by decide) ?_
      exact W.iret (v := (-2)) hx hb hr (fun t ht hW => ⟨⟨(-2), N, rfl, (by dsimp only; rw [show okHang h n1 n2 n3 n4 n5 n6 n7 n8 = false from (by unfold okHang okP; simp [c4, c8]), if_neg (by decide)]; exact ⟨rfl, rfl⟩), at_heap ht (hP 0 _ rfl)⟩, hS.F ht⟩) hS.2.2 dX7_hang_75
    · have c8 := bI_n.mp c8
      refine lv_iload_n hx hb dX7_hang_14 rfl (lv_at hl 3 rfl) ?_
      refine va_calli (va_runS (As := [.int n2]) (rest := []) ⟨hx, hb, hml, hown, hts⟩ (mX7_isAt l n2) (va_cwS 1 hts gX7_hang_X7_isAt rfl rfl rfl (by decide +kernel) ⟨Nat.le_of_ble_eq_true rfl, Nat.le_of_ble_eq_true rfl⟩) ⟨tB_blind, tB_go⟩ rfl rfl hl.1 rfl (lv_room (Nat.le_of_ble_eq_true rfl)) dX7_hang_15 ⟨Nat.le_of_ble_eq_true rfl, Nat.le_of_ble_eq_true rfl⟩) hS (fun q _ h => h.elim) (fun q h => h.elim) (fun r9 u10 t H locs ht hvm hp11 hB hz1 hk1 hS => ?_)
      have hP := fr_keep hP hk1 fr_nA
      have hR := fr_rd hR0 hS hnr
      subst hp11
      refine lv_if_eq (tgt := 73) hx hb dX7_hang_18 (by decide) (fun c12 => ?_) (fun c12 => ?_)
      · have c12 := bI_e.mp c12
        refine lv_bipush (v := (-2)) hx hb dX7_hang_73 (by decide) ?_
        exact W.iret (v := (-2)) hx hb hr (fun t ht hW => ⟨⟨(-2), N, rfl, (by dsimp only; rw [show okHang h n1 n2 n3 n4 n5 n6 n7 n8 = false from (by unfold okHang okP; simp [c4, c8, c12]), if_neg (by decide)]; exact ⟨rfl, rfl⟩), at_heap ht (hP 0 _ rfl)⟩, hS.F ht⟩) hS.2.2 dX7_hang_75
      · have c12 := bI_n.mp c12
        refine lv_iload hx hb dX7_hang_21 (lv_at hl 4 rfl) ?_
        refine va_calli (va_runS (As := [.int n3]) (rest := []) ⟨hx, hb, hml, hown, hts⟩ (mX7_isAt l n3) (va_cwS 1 hts gX7_hang_X7_isAt rfl rfl rfl (by decide +kernel) ⟨Nat.le_of_ble_eq_true rfl, Nat.le_of_ble_eq_true rfl⟩) ⟨tB_blind, tB_go⟩ rfl rfl hl.1 rfl (lv_room (Nat.le_of_ble_eq_true rfl)) dX7_hang_23 ⟨Nat.le_of_ble_eq_true rfl, Nat.le_of_ble_eq_true rfl⟩) hS (fun q _ h => h.elim) (fun q h => h.elim) (fun r13 u14 t H locs ht hvm hp15 hB hz1 hk1 hS => ?_)
        have hP := fr_keep hP hk1 fr_nA
        have hR := fr_rd hR0 hS hnr
        subst hp15
        refine lv_if_eq (tgt := 73) hx hb dX7_hang_26 (by decide) (fun c16 => ?_) (fun c16 => ?_)
        · have c16 := bI_e.mp c16
          refine lv_bipush (v := (-2)) hx hb dX7_hang_73 (by decide) ?_
          exact W.iret (v := (-2)) hx hb hr (fun t ht hW => ⟨⟨(-2), N, rfl, (by dsimp only; rw [show okHang h n1 n2 n3 n4 n5 n6 n7 n8 = false from (by unfold okHang okP; simp [c4, c8, c12, c16]), if_neg (by decide)]; exact ⟨rfl, rfl⟩), at_heap ht (hP 0 _ rfl)⟩, hS.F ht⟩) hS.2.2 dX7_hang_75
        · have c16 := bI_n.mp c16
          refine lv_iload hx hb dX7_hang_29 (lv_at hl 5 rfl) ?_
          refine va_calli (va_runS (As := [.int n4]) (rest := []) ⟨hx, hb, hml, hown, hts⟩ (mX7_isAt l n4) (va_cwS 1 hts gX7_hang_X7_isAt rfl rfl rfl (by decide +kernel) ⟨Nat.le_of_ble_eq_true rfl, Nat.le_of_ble_eq_true rfl⟩) ⟨tB_blind, tB_go⟩ rfl rfl hl.1 rfl (lv_room (Nat.le_of_ble_eq_true rfl)) dX7_hang_31 ⟨Nat.le_of_ble_eq_true rfl, Nat.le_of_ble_eq_true rfl⟩) hS (fun q _ h => h.elim) (fun q h => h.elim) (fun r17 u18 t H locs ht hvm hp19 hB hz1 hk1 hS => ?_)
          have hP := fr_keep hP hk1 fr_nA
          have hR := fr_rd hR0 hS hnr
          subst hp19
          refine lv_if_eq (tgt := 73) hx hb dX7_hang_34 (by decide) (fun c20 => ?_) (fun c20 => ?_)
          · have c20 := bI_e.mp c20
            refine lv_bipush (v := (-2)) hx hb dX7_hang_73 (by decide) ?_
            exact W.iret (v := (-2)) hx hb hr (fun t ht hW => ⟨⟨(-2), N, rfl, (by dsimp only; rw [show okHang h n1 n2 n3 n4 n5 n6 n7 n8 = false from (by unfold okHang okP; simp [c4, c8, c12, c16, c20]), if_neg (by decide)]; exact ⟨rfl, rfl⟩), at_heap ht (hP 0 _ rfl)⟩, hS.F ht⟩) hS.2.2 dX7_hang_75
          · have c20 := bI_n.mp c20
            refine lv_iload hx hb dX7_hang_37 (lv_at hl 6 rfl) ?_
            refine va_calli (va_runS (As := [.int n5]) (rest := []) ⟨hx, hb, hml, hown, hts⟩ (mX7_isLong l n5) (va_cwS 1 hts gX7_hang_X7_isLong rfl rfl rfl (by decide +kernel) ⟨Nat.le_of_ble_eq_true rfl, Nat.le_of_ble_eq_true rfl⟩) ⟨tB_blind, tB_go⟩ rfl rfl hl.1 rfl (lv_room (Nat.le_of_ble_eq_true rfl)) dX7_hang_39 ⟨Nat.le_of_ble_eq_true rfl, Nat.le_of_ble_eq_true rfl⟩) hS (fun q _ h => h.elim) (fun q h => h.elim) (fun r21 u22 t H locs ht hvm hp23 hB hz1 hk1 hS => ?_)
            have hP := fr_keep hP hk1 fr_nA
            have hR := fr_rd hR0 hS hnr
            subst hp23
            refine lv_if_eq (tgt := 73) hx hb dX7_hang_42 (by decide) (fun c24 => ?_) (fun c24 => ?_)
            · have c24 := bI_e.mp c24
              refine lv_bipush (v := (-2)) hx hb dX7_hang_73 (by decide) ?_
              exact W.iret (v := (-2)) hx hb hr (fun t ht hW => ⟨⟨(-2), N, rfl, (by dsimp only; rw [show okHang h n1 n2 n3 n4 n5 n6 n7 n8 = false from (by unfold okHang okP; simp [c4, c8, c12, c16, c20, c24]), if_neg (by decide)]; exact ⟨rfl, rfl⟩), at_heap ht (hP 0 _ rfl)⟩, hS.F ht⟩) hS.2.2 dX7_hang_75
            · have c24 := bI_n.mp c24
              refine lv_iload hx hb dX7_hang_45 (lv_at hl 7 rfl) ?_
              refine va_calli (va_runS (As := [.int n6]) (rest := []) ⟨hx, hb, hml, hown, hts⟩ (mX7_isLong l n6) (va_cwS 1 hts gX7_hang_X7_isLong rfl rfl rfl (by decide +kernel) ⟨Nat.le_of_ble_eq_true rfl, Nat.le_of_ble_eq_true rfl⟩) ⟨tB_blind, tB_go⟩ rfl rfl hl.1 rfl (lv_room (Nat.le_of_ble_eq_true rfl)) dX7_hang_47 ⟨Nat.le_of_ble_eq_true rfl, Nat.le_of_ble_eq_true rfl⟩) hS (fun q _ h => h.elim) (fun q h => h.elim) (fun r25 u26 t H locs ht hvm hp27 hB hz1 hk1 hS => ?_)
              have hP := fr_keep hP hk1 fr_nA
              have hR := fr_rd hR0 hS hnr
              subst hp27
              refine lv_if_eq (tgt := 73) hx hb dX7_hang_50 (by decide) (fun c28 => ?_) (fun c28 => ?_)
              · have c28 := bI_e.mp c28
                refine lv_bipush (v := (-2)) hx hb dX7_hang_73 (by decide) ?_
                exact W.iret (v := (-2)) hx hb hr (fun t ht hW => ⟨⟨(-2), N, rfl, (by dsimp only; rw [show okHang h n1 n2 n3 n4 n5 n6 n7 n8 = false from (by unfold okHang okP; simp [c4, c8, c12, c16, c20, c24, c28]), if_neg (by decide)]; exact ⟨rfl, rfl⟩), at_heap ht (hP 0 _ rfl)⟩, hS.F ht⟩) hS.2.2 dX7_hang_75
              · have c28 := bI_n.mp c28
                refine lv_iload hx hb dX7_hang_53 (lv_at hl 8 rfl) ?_
                refine va_calli (va_runS (As := [.int n7]) (rest := []) ⟨hx, hb, hml, hown, hts⟩ (mX7_isLong l n7) (va_cwS 1 hts gX7_hang_X7_isLong rfl rfl rfl (by decide +kernel) ⟨Nat.le_of_ble_eq_true rfl, Nat.le_of_ble_eq_true rfl⟩) ⟨tB_blind, tB_go⟩ rfl rfl hl.1 rfl (lv_room (Nat.le_of_ble_eq_true rfl)) dX7_hang_55 ⟨Nat.le_of_ble_eq_true rfl, Nat.le_of_ble_eq_true rfl⟩) hS (fun q _ h => h.elim) (fun q h => h.elim) (fun r29 u30 t H locs ht hvm hp31 hB hz1 hk1 hS => ?_)
                have hP := fr_keep hP hk1 fr_nA
                have hR := fr_rd hR0 hS hnr
                subst hp31
                refine lv_if_eq (tgt := 73) hx hb dX7_hang_58 (by decide) (fun c32 => ?_) (fun c32 => ?_)
                · have c32 := bI_e.mp c32
                  refine lv_bipush (v := (-2)) hx hb dX7_hang_73 (by decide) ?_
                  exact W.iret (v := (-2)) hx hb hr (fun t ht hW => ⟨⟨(-2), N, rfl, (by dsimp only; rw [show okHang h n1 n2 n3 n4 n5 n6 n7 n8 = false from (by unfold okHang okP; simp [c4, c8, c12, c16, c20, c24, c28, c32]), if_neg (by decide)]; exact ⟨rfl, rfl⟩), at_heap ht (hP 0 _ rfl)⟩, hS.F ht⟩) hS.2.2 dX7_hang_75
                · have c32 := bI_n.mp c32
                  refine lv_iload hx hb dX7_hang_61 (lv_at hl 9 rfl) ?_
                  refine lv_iconst (v := 1) hx hb dX7_hang_63 (by decide) ?_
                  refine lv_icmp_eq (tgt := 76) hx hb dX7_hang_64 (by decide) (fun c33 => ?_) (fun c33 => ?_)
                  · have HOKH := c4
                    have hh9 : h = nI q := hq9 HOKH
                    rw [hh9] at hl
                    refine lv_aload_n hx hb dX7_hang_76 rfl (lv_at hl 0 rfl) ?_
                    refine lv_iload_n hx hb dX7_hang_77 rfl (lv_at hl 1 rfl) ?_
                    refine lv_iload_n hx hb dX7_hang_78 rfl (lv_at hl 2 rfl) ?_
                    refine lv_iload_n hx hb dX7_hang_79 rfl (lv_at hl 3 rfl) ?_
                    refine lv_iload hx hb dX7_hang_80 (lv_at hl 4 rfl) ?_
                    refine lv_iload hx hb dX7_hang_82 (lv_at hl 5 rfl) ?_
                    refine lv_iload hx hb dX7_hang_84 (lv_at hl 6 rfl) ?_
                    refine lv_iload hx hb dX7_hang_86 (lv_at hl 7 rfl) ?_
                    refine lv_iload hx hb dX7_hang_88 (lv_at hl 8 rfl) ?_
                    refine lv_iload hx hb dX7_hang_90 (lv_at hl 9 rfl) ?_
                    have hq34 : va_P D vwCl [(nu, .inl (cI, 52, .inl N)), (mo, .inr (6, [.ref nu, .double p0, .double p1, .double p2, .double p3, .double p4, .double p5, .double p6, .double p7, .double p8, .double p9, .int ct, .int cp, .int cr, .int ctr, .int cfs, .int (nI k), .ref sh, .int (nI k2), .ref ra, .ref rr, .double po]))] H := fr_cons (hP 0 _ rfl) (fr_cons (hR 0 _ rfl) (fr_nil))
                    refine va_callv (va_runV (As := [.int (nI q), .int n1, .int n2, .int n3, .int n4, .int n5, .int n6, .int n7, .int n8]) (rest := []) ⟨hx, hb, hml, hown, hts⟩ (mX7_lays l D cI cH mo nu sh ra rr k k2 q N ct cp cr ctr cfs p0 p1 p2 p3 p4 p5 p6 p7 p8 p9 po n1 n2 n3 n4 n5 n6 n7 n8 hqq hne2) (cwV 9 hts gX7_hang_X7_lays rfl rfl rfl (by decide +kernel) ⟨Nat.le_of_ble_eq_true rfl, Nat.le_of_ble_eq_true rfl⟩) ⟨kB_blind, va_recv hw.1 hq34 (ci := 6) (q0 := 1) rfl rfl, kB_go hq34 hw⟩ rfl rfl hl.1 rfl (lv_room (Nat.le_of_ble_eq_true rfl)) dX7_hang_92 ⟨Nat.le_of_ble_eq_true rfl, Nat.le_of_ble_eq_true rfl⟩) hS (fun q _ h => h) (fun q h => h) (fun u36 t H locs ht hvm hp37 hB hz1 hk1 hS => ?_)
                    subst hp37
                    have hB : va_at D vwCl (nu, .inl (cI, 52, .inl (layN N q n1 n2 n3 n4 n5 n6 n7 n8))) t.heap := hB
                    rw [ht] at hB
                    have hP := fr_one hB
                    have hP : va_P D vwCl [(nu, .inl (cI, 52, .inl (layN N q n1 n2 n3 n4 n5 n6 n7 n8)))] H := hP
                    have hD : va_D (aE nu) [(nu, .inl (cI, 52, .inl (layN N q n1 n2 n3 n4 n5 n6 n7 n8)))] := D_1 rfl
                    have hR := fr_rd hR0 hS hnr
                    refine lv_iconst (v := 1) hx hb dX7_hang_95 (by decide) ?_
                    exact W.iret (v := 1) hx hb hr (fun t ht hW => ⟨⟨1, (layN N q n1 n2 n3 n4 n5 n6 n7 n8), rfl, (by dsimp only; rw [show okHang h n1 n2 n3 n4 n5 n6 n7 n8 = true from (by unfold okHang okP; simp [c4, c8, c12, c16, c20, c24, c28, c32, c33]), if_pos rfl]; exact ⟨rfl, rfl⟩), at_heap ht (hP 0 _ rfl)⟩, hS.F ht⟩) hS.2.2 dX7_hang_96
                  · refine lv_iload hx hb dX7_hang_67 (lv_at hl 9 rfl) ?_
                    refine lv_iconst (v := (-1)) hx hb dX7_hang_69 (by decide) ?_
                    refine lv_icmp_eq (tgt := 76) hx hb dX7_hang_70 (by decide) (fun c38 => ?_) (fun c38 => ?_)
                    · have HOKH := c4
                      have hh9 : h = nI q := hq9 HOKH
                      rw [hh9] at hl
                      refine lv_aload_n hx hb dX7_hang_76 rfl (lv_at hl 0 rfl) ?_
                      refine lv_iload_n hx hb dX7_hang_77 rfl (lv_at hl 1 rfl) ?_
                      refine lv_iload_n hx hb dX7_hang_78 rfl (lv_at hl 2 rfl) ?_
                      refine lv_iload_n hx hb dX7_hang_79 rfl (lv_at hl 3 rfl) ?_
                      refine lv_iload hx hb dX7_hang_80 (lv_at hl 4 rfl) ?_
                      refine lv_iload hx hb dX7_hang_82 (lv_at hl 5 rfl) ?_
                      refine lv_iload hx hb dX7_hang_84 (lv_at hl 6 rfl) ?_
                      refine lv_iload hx hb dX7_hang_86 (lv_at hl 7 rfl) ?_
                      refine lv_iload hx hb dX7_hang_88 (lv_at hl 8 rfl) ?_
                      refine lv_iload hx hb dX7_hang_90 (lv_at hl 9 rfl) ?_
                      have hq39 : va_P D vwCl [(nu, .inl (cI, 52, .inl N)), (mo, .inr (6, [.ref nu, .double p0, .double p1, .double p2, .double p3, .double p4, .double p5, .double p6, .double p7, .double p8, .double p9, .int ct, .int cp, .int cr, .int ctr, .int cfs, .int (nI k), .ref sh, .int (nI k2), .ref ra, .ref rr, .double po]))] H := fr_cons (hP 0 _ rfl) (fr_cons (hR 0 _ rfl) (fr_nil))
                      refine va_callv (va_runV (As := [.int (nI q), .int n1, .int n2, .int n3, .int n4, .int n5, .int n6, .int n7, .int n8]) (rest := []) ⟨hx, hb, hml, hown, hts⟩ (mX7_lays l D cI cH mo nu sh ra rr k k2 q N ct cp cr ctr cfs p0 p1 p2 p3 p4 p5 p6 p7 p8 p9 po n1 n2 n3 n4 n5 n6 n7 n8 hqq hne2) (cwV 9 hts gX7_hang_X7_lays rfl rfl rfl (by decide +kernel) ⟨Nat.le_of_ble_eq_true rfl, Nat.le_of_ble_eq_true rfl⟩) ⟨kB_blind, va_recv hw.1 hq39 (ci := 6) (q0 := 1) rfl rfl, kB_go hq39 hw⟩ rfl rfl hl.1 rfl (lv_room (Nat.le_of_ble_eq_true rfl)) dX7_hang_92 ⟨Nat.le_of_ble_eq_true rfl, Nat.le_of_ble_eq_true rfl⟩) hS (fun q _ h => h) (fun q h => h) (fun u41 t H locs ht hvm hp42 hB hz1 hk1 hS => ?_)
                      subst hp42
                      have hB : va_at D vwCl (nu, .inl (cI, 52, .inl (layN N q n1 n2 n3 n4 n5 n6 n7 n8))) t.heap := hB
                      rw [ht] at hB
                      have hP := fr_one hB
                      have hP : va_P D vwCl [(nu, .inl (cI, 52, .inl (layN N q n1 n2 n3 n4 n5 n6 n7 n8)))] H := hP
                      have hD : va_D (aE nu) [(nu, .inl (cI, 52, .inl (layN N q n1 n2 n3 n4 n5 n6 n7 n8)))] := D_1 rfl
                      have hR := fr_rd hR0 hS hnr
                      refine lv_iconst (v := 1) hx hb dX7_hang_95 (by decide) ?_
                      exact W.iret (v := 1) hx hb hr (fun t ht hW => ⟨⟨1, (layN N q n1 n2 n3 n4 n5 n6 n7 n8), rfl, (by dsimp only; rw [show okHang h n1 n2 n3 n4 n5 n6 n7 n8 = true from (by unfold okHang okP; simp [c4, c8, c12, c16, c20, c24, c28, c32, c33, c38]), if_pos rfl]; exact ⟨rfl, rfl⟩), at_heap ht (hP 0 _ rfl)⟩, hS.F ht⟩) hS.2.2 dX7_hang_96
                    · refine lv_bipush (v := (-2)) hx hb dX7_hang_73 (by decide) ?_
                      exact W.iret (v := (-2)) hx hb hr (fun t ht hW => ⟨⟨(-2), N, rfl, (by dsimp only; rw [show okHang h n1 n2 n3 n4 n5 n6 n7 n8 = false from (by unfold okHang okP; simp [c4, c8, c12, c16, c20, c24, c28, c32, c33, c38]), if_neg (by decide)]; exact ⟨rfl, rfl⟩), at_heap ht (hP 0 _ rfl)⟩, hS.F ht⟩) hS.2.2 dX7_hang_75
set_option maxHeartbeats 4000000 in
set_option maxRecDepth 100000 in
theorem mX7_wheel (l : Launch) (D : va_G) (cI cH : ClassId) (mo nu sh ra rr k k2 q : Nat) (N : Nat → Int32) (ct cp cr ctr cfs : Int32) (p0 p1 p2 p3 p4 p5 p6 p7 p8 p9 po : UInt64) (h n1 n2 : Int32)  (hqq : q < 4) (hne2 : mo ≠ nu) (hq9 : okH h = true → h = nI q) : Met l yX7_wheel wsX7_wheel ({ frames := 2, cells := 0, slots := 0, locals := 42 }) (va_Pc [.ref mo, .int h, .int n1, .int n2] (kB D cI cH [(nu, .inl (cI, 52, .inl N)), (mo, .inr (6, [.ref nu, .double p0, .double p1, .double p2, .double p3, .double p4, .double p5, .double p6, .double p7, .double p8, .double p9, .int ct, .int cp, .int cr, .int ctr, .int cfs, .int (nI k), .ref sh, .int (nI k2), .ref ra, .ref rr, .double po]))])) (va_Qi (fun (r : Int32) (u : Nat → Int32) => if okWheel h n1 n2 then r = 1 ∧ u = whN N q n1 n2 else r = -2 ∧ u = N) (fun u t => va_at D vwCl (nu, .inl (cI, 52, .inl u)) t.heap) (aE nu)) 0 0 (aE nu) := by
  refine Met.ofW (cc := cX7_wheel) (maxL := 4) (ret := (some .int)) (by decide) rfl ?_
  intro p e s m args below meth co s₁ B hml hv
  obtain ⟨rfl, hP0, hw⟩ := hv
  have hx := B.exec
  have hb := B.bytes
  have hr := B.returns
  have hts := atoms_spec (ws := wsX7_wheel) B.pre
  have hown : s.vm.findClass RX7 = some m.cls := findClass_of_methodNamed B.named
  have hlocks := B.notSynchronized
  have hinX7 : ∀ w ∈ wsX70, w ∈ wsX7_wheel := by decide +kernel
  have hS : va_S (aE nu) s.heap s.heap [] := va_S.rf
  have hP : va_P D vwCl [(nu, .inl (cI, 52, .inl N))] s.heap := hP0.sub [0] rfl
  have hD : va_D (aE nu) [(nu, .inl (cI, 52, .inl N))] := D_1 rfl
  have hR0 : va_P D vwCl [(mo, .inr (6, [.ref nu, .double p0, .double p1, .double p2, .double p3, .double p4, .double p5, .double p6, .double p7, .double p8, .double p9, .int ct, .int cp, .int cr, .int ctr, .int cfs, .int (nI k), .ref sh, .int (nI k2), .ref ra, .ref rr, .double po]))] s.heap := hP0.sub [1] rfl
  have hR := hR0
  have hnr : ∀ (k9 : Nat) (q : Nat × va_E), ([(mo, .inr (6, [.ref nu, .double p0, .double p1, .double p2, .double p3, .double p4, .double p5, .double p6, .double p7, .double p8, .double p9, .int ct, .int cp, .int cr, .int ctr, .int cfs, .int (nI k), .ref sh, .int (nI k2), .ref ra, .ref rr, .double po]))] : va_W)[k9]? = some q → ¬ (aE nu) q.1 := nn_1 hne2 nn_0
  have hl := lv_entry ([.ref mo, .int h, .int n1, .int n2]) (n := 4) (Nat.le_of_ble_eq_true rfl)
  rw [lg_entry_eq]
  generalize (lg_sl ([.ref mo, .int h, .int n1, .int n2]) ++ List.replicate (4 - (lg_sl ([.ref mo, .int h, .int n1, .int n2])).length) Slot.unset).toArray = ls at hl ⊢
  have hl : lv_has ls 4 [(0, .ref mo), (1, .int h), (2, .int n1), (3, .int n2)] := hl
  skip
  refine lv_iload_n hx hb dX7_wheel_0 rfl (lv_at hl 1 rfl) ?_
  refine va_calli (va_runS (As := [.int h]) (rest := []) ⟨hx, hb, hml, hown, hts⟩ (mX7_isHanging l h) (va_cwS 1 hts gX7_wheel_X7_isHanging rfl rfl rfl (by decide +kernel) ⟨Nat.le_of_ble_eq_true rfl, Nat.le_of_ble_eq_true rfl⟩) ⟨tB_blind, tB_go⟩ rfl rfl hl.1 rfl (lv_room (Nat.le_of_ble_eq_true rfl)) dX7_wheel_1 ⟨Nat.le_of_ble_eq_true rfl, Nat.le_of_ble_eq_true rfl⟩) hS (fun q _ h => h.elim) (fun q h => h.elim) (fun r1 u2 t H locs ht hvm hp3 hB hz1 hk1 hS => ?_)
  have hP := fr_keep hP hk1 fr_nA
  have hR := fr_rd hR0 hS hnr
  subst hp3
  refine lv_if_eq (tgt := 21) hx hb dX7_wheel_4 (by decide) (fun c4 => ?_) (fun c4 => ?_)
  · have c4 := bI_e.mp c4
    refine lv_bipush (v := (-2)) hx hb dX7_wheel_21 (by decide) ?_
    exact W.iret (v := (-2)) hx hb hr (fun t ht hW => ⟨⟨(-2), N, rfl, (by dsimp only; rw [show okWheel h n1 n2 = false from (by unfold okWheel okP; simp [c4]), if_neg (by decide)]; exact ⟨rfl, rfl⟩), at_heap ht (hP 0 _ rfl)⟩, hS.F ht⟩) hS.2.2 dX7_wheel_23
  · have c4 := bI_n.mp c4
    refine lv_iload_n hx hb dX7_wheel_7 rfl (lv_at hl 2 rfl) ?_
    refine va_calli (va_runS (As := [.int n1]) (rest := []) ⟨hx, hb, hml, hown, hts⟩ (mX7_isAt l n1) (va_cwS 1 hts gX7_wheel_X7_isAt rfl rfl rfl (by decide +kernel) ⟨Nat.le_of_ble_eq_true rfl, Nat.le_of_ble_eq_true rfl⟩) ⟨tB_blind, tB_go⟩ rfl rfl hl.1 rfl (lv_room (Nat.le_of_ble_eq_true rfl)) dX7_wheel_8 ⟨Nat.le_of_ble_eq_true rfl, Nat.le_of_ble_eq_true rfl⟩) hS (fun q _ h => h.elim) (fun q h => h.elim) (fun r5 u6 t H locs ht hvm hp7 hB hz1 hk1 hS => ?_)
    have hP := fr_keep hP hk1 fr_nA
    have hR := fr_rd hR0 hS hnr
    subst hp7
    refine lv_if_eq (tgt := 21) hx hb dX7_wheel_11 (by decide) (fun c8 => ?_) (fun c8 => ?_)
    · have c8 := bI_e.mp c8
      refine lv_bipush (v := (-2)) hx hb dX7_wheel_21 (by decide) ?_
      exact W.iret (v := (-2)) hx hb hr (fun t ht hW => ⟨⟨(-2), N, rfl, (by dsimp only; rw [show okWheel h n1 n2 = false from (by unfold okWheel okP; simp [c4, c8]), if_neg (by decide)]; exact ⟨rfl, rfl⟩), at_heap ht (hP 0 _ rfl)⟩, hS.F ht⟩) hS.2.2 dX7_wheel_23
    · have c8 := bI_n.mp c8
      refine lv_iload_n hx hb dX7_wheel_14 rfl (lv_at hl 3 rfl) ?_
      refine va_calli (va_runS (As := [.int n2]) (rest := []) ⟨hx, hb, hml, hown, hts⟩ (mX7_isAt l n2) (va_cwS 1 hts gX7_wheel_X7_isAt rfl rfl rfl (by decide +kernel) ⟨Nat.le_of_ble_eq_true rfl, Nat.le_of_ble_eq_true rfl⟩) ⟨tB_blind, tB_go⟩ rfl rfl hl.1 rfl (lv_room (Nat.le_of_ble_eq_true rfl)) dX7_wheel_15 ⟨Nat.le_of_ble_eq_true rfl, Nat.le_of_ble_eq_true rfl⟩) hS (fun q _ h => h.elim) (fun q h => h.elim) (fun r9 u10 t H locs ht hvm hp11 hB hz1 hk1 hS => ?_)
      have hP := fr_keep hP hk1 fr_nA
      have hR := fr_rd hR0 hS hnr
      subst hp11
      refine lv_if_ne (tgt := 24) hx hb dX7_wheel_18 (by decide) (fun c12 => ?_) (fun c12 => ?_)
      · have c12 := bI_n.mp c12
        have HOKH := c4
        have hh9 : h = nI q := hq9 HOKH
        rw [hh9] at hl
        refine lv_aload_n hx hb dX7_wheel_24 rfl (lv_at hl 0 rfl) ?_
        refine va_get (D := D) (ci := 6) (v := .ref nu) (C := RX7) (T := TX7) (N := 22) hx hb hts hinX7 hown hw.1 hR 0 rfl rfl 0 (by decide) (hts (.fieldLink RX7 19 "WheelSwingModel" "number" "[I") (by decide +kernel)) (fun _ h9 => h9) rfl dX7_wheel_25 ?_
        refine lv_bipush (v := 13) hx hb dX7_wheel_28 (by decide) ?_
        refine lv_iload_n hx hb dX7_wheel_30 rfl (lv_at hl 1 rfl) ?_
        refine lv_imul hx hb dX7_wheel_31 ?_
        rw [nI_m13]
        refine lv_bipush (v := 8) hx hb dX7_wheel_32 (by decide) ?_
        refine lv_iadd hx hb dX7_wheel_34 ?_
        rw [nI_ad8]
        refine lv_iload_n hx hb dX7_wheel_35 rfl (lv_at hl 2 rfl) ?_
        refine va_iast hx hb hw.1 hP hD hS 0 0 rfl rfl (vp_in_nI (by omega) (by omega)) dX7_wheel_36 (fun H locs hP hD hS => ?_)
        rw [nI_clamp (n := 13 * q + 8) (by omega)] at hP hD
        have hP : va_P D vwCl [(nu, .inl (cI, 52, .inl (upd N (13 * q + 8) n1)))] H := hP
        have hD : va_D (aE nu) [(nu, .inl (cI, 52, .inl (upd N (13 * q + 8) n1)))] := hD
        have hR := fr_rd hR0 hS hnr
        refine lv_aload_n hx hb dX7_wheel_37 rfl (lv_at hl 0 rfl) ?_
        refine va_get (D := D) (ci := 6) (v := .ref nu) (C := RX7) (T := TX7) (N := 22) hx hb hts hinX7 hown hw.1 hR 0 rfl rfl 0 (by decide) (hts (.fieldLink RX7 19 "WheelSwingModel" "number" "[I") (by decide +kernel)) (fun _ h9 => h9) rfl dX7_wheel_38 ?_
        refine lv_bipush (v := 13) hx hb dX7_wheel_41 (by decide) ?_
        refine lv_iload_n hx hb dX7_wheel_43 rfl (lv_at hl 1 rfl) ?_
        refine lv_imul hx hb dX7_wheel_44 ?_
        rw [nI_m13]
        refine lv_bipush (v := 9) hx hb dX7_wheel_45 (by decide) ?_
        refine lv_iadd hx hb dX7_wheel_47 ?_
        rw [nI_ad9]
        refine lv_iload_n hx hb dX7_wheel_48 rfl (lv_at hl 3 rfl) ?_
        refine va_iast hx hb hw.1 hP hD hS 0 0 rfl rfl (vp_in_nI (by omega) (by omega)) dX7_wheel_49 (fun H locs hP hD hS => ?_)
        rw [nI_clamp (n := 13 * q + 9) (by omega)] at hP hD
        have hP : va_P D vwCl [(nu, .inl (cI, 52, .inl (upd (upd N (13 * q + 8) n1) (13 * q + 9) n2)))] H := hP
        have hD : va_D (aE nu) [(nu, .inl (cI, 52, .inl (upd (upd N (13 * q + 8) n1) (13 * q + 9) n2)))] := hD
        have hR := fr_rd hR0 hS hnr
        refine lv_iconst (v := 1) hx hb dX7_wheel_50 (by decide) ?_
        exact W.iret (v := 1) hx hb hr (fun t ht hW => ⟨⟨1, (upd (upd N (13 * q + 8) n1) (13 * q + 9) n2), rfl, (by dsimp only; rw [show okWheel h n1 n2 = true from (by unfold okWheel okP; simp [c4, c8, c12]), if_pos rfl]; exact ⟨rfl, rfl⟩), at_heap ht (hP 0 _ rfl)⟩, hS.F ht⟩) hS.2.2 dX7_wheel_51
      · have c12 := bI_e.mp c12
        refine lv_bipush (v := (-2)) hx hb dX7_wheel_21 (by decide) ?_
        exact W.iret (v := (-2)) hx hb hr (fun t ht hW => ⟨⟨(-2), N, rfl, (by dsimp only; rw [show okWheel h n1 n2 = false from (by unfold okWheel okP; simp [c4, c8, c12]), if_neg (by decide)]; exact ⟨rfl, rfl⟩), at_heap ht (hP 0 _ rfl)⟩, hS.F ht⟩) hS.2.2 dX7_wheel_23
set_option maxHeartbeats 4000000 in
set_option maxRecDepth 100000 in
theorem mX7_spring (l : Launch) (D : va_G) (cI cH : ClassId) (mo nu sh ra rr k k2 q : Nat) (N : Nat → Int32) (ct cp cr ctr cfs : Int32) (p0 p1 p2 p3 p4 p5 p6 p7 p8 p9 po : UInt64) (h n1 n2 n3 : Int32)  (hqq : q < 4) (hne2 : mo ≠ nu) (hq9 : okH h = true → h = nI q) : Met l yX7_spring wsX7_spring ({ frames := 2, cells := 0, slots := 0, locals := 42 }) (va_Pc [.ref mo, .int h, .int n1, .int n2, .int n3] (kB D cI cH [(nu, .inl (cI, 52, .inl N)), (mo, .inr (6, [.ref nu, .double p0, .double p1, .double p2, .double p3, .double p4, .double p5, .double p6, .double p7, .double p8, .double p9, .int ct, .int cp, .int cr, .int ctr, .int cfs, .int (nI k), .ref sh, .int (nI k2), .ref ra, .ref rr, .double po]))])) (va_Qi (fun (r : Int32) (u : Nat → Int32) => if okSpr h n1 n2 n3 then r = 1 ∧ u = spN N q n1 n2 n3 else r = -2 ∧ u = N) (fun u t => va_at D vwCl (nu, .inl (cI, 52, .inl u)) t.heap) (aE nu)) 0 0 (aE nu) := by
  refine Met.ofW (cc := cX7_spring) (maxL := 5) (ret := (some .int)) (by decide) rfl ?_
  intro p e s m args below meth co s₁ B hml hv
  obtain ⟨rfl, hP0, hw⟩ := hv
  have hx := B.exec
  have hb := B.bytes
  have hr := B.returns
  have hts := atoms_spec (ws := wsX7_spring) B.pre
  have hown : s.vm.findClass RX7 = some m.cls := findClass_of_methodNamed B.named
  have hlocks := B.notSynchronized
  have hinX7 : ∀ w ∈ wsX70, w ∈ wsX7_spring := by decide +kernel
  have hS : va_S (aE nu) s.heap s.heap [] := va_S.rf
  have hP : va_P D vwCl [(nu, .inl (cI, 52, .inl N))] s.heap := hP0.sub [0] rfl
  have hD : va_D (aE nu) [(nu, .inl (cI, 52, .inl N))] := D_1 rfl
  have hR0 : va_P D vwCl [(mo, .inr (6, [.ref nu, .double p0, .double p1, .double p2, .double p3, .double p4, .double p5, .double p6, .double p7, .double p8, .double p9, .int ct, .int cp, .int cr, .int ctr, .int cfs, .int (nI k), .ref sh, .int (nI k2), .ref ra, .ref rr, .double po]))] s.heap := hP0.sub [1] rfl
  have hR := hR0
  have hnr : ∀ (k9 : Nat) (q : Nat × va_E), ([(mo, .inr (6, [.ref nu, .double p0, .double p1, .double p2, .double p3, .double p4, .double p5, .double p6, .double p7, .double p8, .double p9, .int ct, .int cp, .int cr, .int ctr, .int cfs, .int (nI k), .ref sh, .int (nI k2), .ref ra, .ref rr, .double po]))] : va_W)[k9]? = some q → ¬ (aE nu) q.1 := nn_1 hne2 nn_0
  have hl := lv_entry ([.ref mo, .int h, .int n1, .int n2, .int n3]) (n := 5) (Nat.le_of_ble_eq_true rfl)
  rw [lg_entry_eq]
  generalize (lg_sl ([.ref mo, .int h, .int n1, .int n2, .int n3]) ++ List.replicate (5 - (lg_sl ([.ref mo, .int h, .int n1, .int n2, .int n3])).length) Slot.unset).toArray = ls at hl ⊢
  have hl : lv_has ls 5 [(0, .ref mo), (1, .int h), (2, .int n1), (3, .int n2), (4, .int n3)] := hl
  skip
  refine lv_iload_n hx hb dX7_spring_0 rfl (lv_at hl 1 rfl) ?_
  refine va_calli (va_runS (As := [.int h]) (rest := []) ⟨hx, hb, hml, hown, hts⟩ (mX7_isHanging l h) (va_cwS 1 hts gX7_spring_X7_isHanging rfl rfl rfl (by decide +kernel) ⟨Nat.le_of_ble_eq_true rfl, Nat.le_of_ble_eq_true rfl⟩) ⟨tB_blind, tB_go⟩ rfl rfl hl.1 rfl (lv_room (Nat.le_of_ble_eq_true rfl)) dX7_spring_1 ⟨Nat.le_of_ble_eq_true rfl, Nat.le_of_ble_eq_true rfl⟩) hS (fun q _ h => h.elim) (fun q h => h.elim) (fun r1 u2 t H locs ht hvm hp3 hB hz1 hk1 hS => ?_)
  have hP := fr_keep hP hk1 fr_nA
  have hR := fr_rd hR0 hS hnr
  subst hp3
  refine lv_if_eq (tgt := 33) hx hb dX7_spring_4 (by decide) (fun c4 => ?_) (fun c4 => ?_)
  · have c4 := bI_e.mp c4
    refine lv_bipush (v := (-2)) hx hb dX7_spring_33 (by decide) ?_
    exact W.iret (v := (-2)) hx hb hr (fun t ht hW => ⟨⟨(-2), N, rfl, (by dsimp only; rw [show okSpr h n1 n2 n3 = false from (by unfold okSpr okP; simp [c4]), if_neg (by decide)]; exact ⟨rfl, rfl⟩), at_heap ht (hP 0 _ rfl)⟩, hS.F ht⟩) hS.2.2 dX7_spring_35
  · have c4 := bI_n.mp c4
    refine lv_iload_n hx hb dX7_spring_7 rfl (lv_at hl 2 rfl) ?_
    refine va_calli (va_runS (As := [.int n1]) (rest := []) ⟨hx, hb, hml, hown, hts⟩ (mX7_isAt l n1) (va_cwS 1 hts gX7_spring_X7_isAt rfl rfl rfl (by decide +kernel) ⟨Nat.le_of_ble_eq_true rfl, Nat.le_of_ble_eq_true rfl⟩) ⟨tB_blind, tB_go⟩ rfl rfl hl.1 rfl (lv_room (Nat.le_of_ble_eq_true rfl)) dX7_spring_8 ⟨Nat.le_of_ble_eq_true rfl, Nat.le_of_ble_eq_true rfl⟩) hS (fun q _ h => h.elim) (fun q h => h.elim) (fun r5 u6 t H locs ht hvm hp7 hB hz1 hk1 hS => ?_)
    have hP := fr_keep hP hk1 fr_nA
    have hR := fr_rd hR0 hS hnr
    subst hp7
    refine lv_if_eq (tgt := 33) hx hb dX7_spring_11 (by decide) (fun c8 => ?_) (fun c8 => ?_)
    · have c8 := bI_e.mp c8
      refine lv_bipush (v := (-2)) hx hb dX7_spring_33 (by decide) ?_
      exact W.iret (v := (-2)) hx hb hr (fun t ht hW => ⟨⟨(-2), N, rfl, (by dsimp only; rw [show okSpr h n1 n2 n3 = false from (by unfold okSpr okP; simp [c4, c8]), if_neg (by decide)]; exact ⟨rfl, rfl⟩), at_heap ht (hP 0 _ rfl)⟩, hS.F ht⟩) hS.2.2 dX7_spring_35
    · have c8 := bI_n.mp c8
      refine lv_iload_n hx hb dX7_spring_14 rfl (lv_at hl 3 rfl) ?_
      refine va_calli (va_runS (As := [.int n2]) (rest := []) ⟨hx, hb, hml, hown, hts⟩ (mX7_isAt l n2) (va_cwS 1 hts gX7_spring_X7_isAt rfl rfl rfl (by decide +kernel) ⟨Nat.le_of_ble_eq_true rfl, Nat.le_of_ble_eq_true rfl⟩) ⟨tB_blind, tB_go⟩ rfl rfl hl.1 rfl (lv_room (Nat.le_of_ble_eq_true rfl)) dX7_spring_15 ⟨Nat.le_of_ble_eq_true rfl, Nat.le_of_ble_eq_true rfl⟩) hS (fun q _ h => h.elim) (fun q h => h.elim) (fun r9 u10 t H locs ht hvm hp11 hB hz1 hk1 hS => ?_)
      have hP := fr_keep hP hk1 fr_nA
      have hR := fr_rd hR0 hS hnr
      subst hp11
      refine lv_if_eq (tgt := 33) hx hb dX7_spring_18 (by decide) (fun c12 => ?_) (fun c12 => ?_)
      · have c12 := bI_e.mp c12
        refine lv_bipush (v := (-2)) hx hb dX7_spring_33 (by decide) ?_
        exact W.iret (v := (-2)) hx hb hr (fun t ht hW => ⟨⟨(-2), N, rfl, (by dsimp only; rw [show okSpr h n1 n2 n3 = false from (by unfold okSpr okP; simp [c4, c8, c12]), if_neg (by decide)]; exact ⟨rfl, rfl⟩), at_heap ht (hP 0 _ rfl)⟩, hS.F ht⟩) hS.2.2 dX7_spring_35
      · have c12 := bI_n.mp c12
        refine lv_iload hx hb dX7_spring_21 (lv_at hl 4 rfl) ?_
        refine lv_iconst (v := 0) hx hb dX7_spring_23 (by decide) ?_
        refine lv_sipush (v := 1000) hx hb dX7_spring_24 (by decide) ?_
        refine va_calli (va_runS (As := [.int n3, .int 0, .int 1000]) (rest := []) ⟨hx, hb, hml, hown, hts⟩ (mX7_in l n3 0 1000) (va_cwS 3 hts gX7_spring_X7_in rfl rfl rfl (by decide +kernel) ⟨Nat.le_of_ble_eq_true rfl, Nat.le_of_ble_eq_true rfl⟩) ⟨tB_blind, tB_go⟩ rfl rfl hl.1 rfl (lv_room (Nat.le_of_ble_eq_true rfl)) dX7_spring_27 ⟨Nat.le_of_ble_eq_true rfl, Nat.le_of_ble_eq_true rfl⟩) hS (fun q _ h => h.elim) (fun q h => h.elim) (fun r13 u14 t H locs ht hvm hp15 hB hz1 hk1 hS => ?_)
        have hP := fr_keep hP hk1 fr_nA
        have hR := fr_rd hR0 hS hnr
        subst hp15
        refine lv_if_ne (tgt := 36) hx hb dX7_spring_30 (by decide) (fun c16 => ?_) (fun c16 => ?_)
        · have c16 := bI_n.mp c16
          have HOKH := c4
          have hh9 : h = nI q := hq9 HOKH
          rw [hh9] at hl
          refine lv_aload_n hx hb dX7_spring_36 rfl (lv_at hl 0 rfl) ?_
          refine va_get (D := D) (ci := 6) (v := .ref nu) (C := RX7) (T := TX7) (N := 22) hx hb hts hinX7 hown hw.1 hR 0 rfl rfl 0 (by decide) (hts (.fieldLink RX7 19 "WheelSwingModel" "number" "[I") (by decide +kernel)) (fun _ h9 => h9) rfl dX7_spring_37 ?_
          refine lv_bipush (v := 13) hx hb dX7_spring_40 (by decide) ?_
          refine lv_iload_n hx hb dX7_spring_42 rfl (lv_at hl 1 rfl) ?_
          refine lv_imul hx hb dX7_spring_43 ?_
          rw [nI_m13]
          refine lv_bipush (v := 10) hx hb dX7_spring_44 (by decide) ?_
          refine lv_iadd hx hb dX7_spring_46 ?_
          rw [nI_ad10]
          refine lv_iload_n hx hb dX7_spring_47 rfl (lv_at hl 2 rfl) ?_
          refine va_iast hx hb hw.1 hP hD hS 0 0 rfl rfl (vp_in_nI (by omega) (by omega)) dX7_spring_48 (fun H locs hP hD hS => ?_)
          rw [nI_clamp (n := 13 * q + 10) (by omega)] at hP hD
          have hP : va_P D vwCl [(nu, .inl (cI, 52, .inl (upd N (13 * q + 10) n1)))] H := hP
          have hD : va_D (aE nu) [(nu, .inl (cI, 52, .inl (upd N (13 * q + 10) n1)))] := hD
          have hR := fr_rd hR0 hS hnr
          refine lv_aload_n hx hb dX7_spring_49 rfl (lv_at hl 0 rfl) ?_
          refine va_get (D := D) (ci := 6) (v := .ref nu) (C := RX7) (T := TX7) (N := 22) hx hb hts hinX7 hown hw.1 hR 0 rfl rfl 0 (by decide) (hts (.fieldLink RX7 19 "WheelSwingModel" "number" "[I") (by decide +kernel)) (fun _ h9 => h9) rfl dX7_spring_50 ?_
          refine lv_bipush (v := 13) hx hb dX7_spring_53 (by decide) ?_
          refine lv_iload_n hx hb dX7_spring_55 rfl (lv_at hl 1 rfl) ?_
          refine lv_imul hx hb dX7_spring_56 ?_
          rw [nI_m13]
          refine lv_bipush (v := 11) hx hb dX7_spring_57 (by decide) ?_
          refine lv_iadd hx hb dX7_spring_59 ?_
          rw [nI_ad11]
          refine lv_iload_n hx hb dX7_spring_60 rfl (lv_at hl 3 rfl) ?_
          refine va_iast hx hb hw.1 hP hD hS 0 0 rfl rfl (vp_in_nI (by omega) (by omega)) dX7_spring_61 (fun H locs hP hD hS => ?_)
          rw [nI_clamp (n := 13 * q + 11) (by omega)] at hP hD
          have hP : va_P D vwCl [(nu, .inl (cI, 52, .inl (upd (upd N (13 * q + 10) n1) (13 * q + 11) n2)))] H := hP
          have hD : va_D (aE nu) [(nu, .inl (cI, 52, .inl (upd (upd N (13 * q + 10) n1) (13 * q + 11) n2)))] := hD
          have hR := fr_rd hR0 hS hnr
          refine lv_aload_n hx hb dX7_spring_62 rfl (lv_at hl 0 rfl) ?_
          refine va_get (D := D) (ci := 6) (v := .ref nu) (C := RX7) (T := TX7) (N := 22) hx hb hts hinX7 hown hw.1 hR 0 rfl rfl 0 (by decide) (hts (.fieldLink RX7 19 "WheelSwingModel" "number" "[I") (by decide +kernel)) (fun _ h9 => h9) rfl dX7_spring_63 ?_
          refine lv_bipush (v := 13) hx hb dX7_spring_66 (by decide) ?_
          refine lv_iload_n hx hb dX7_spring_68 rfl (lv_at hl 1 rfl) ?_
          refine lv_imul hx hb dX7_spring_69 ?_
          rw [nI_m13]
          refine lv_bipush (v := 12) hx hb dX7_spring_70 (by decide) ?_
          refine lv_iadd hx hb dX7_spring_72 ?_
          rw [nI_ad12]
          refine lv_iload hx hb dX7_spring_73 (lv_at hl 4 rfl) ?_
          refine va_iast hx hb hw.1 hP hD hS 0 0 rfl rfl (vp_in_nI (by omega) (by omega)) dX7_spring_75 (fun H locs hP hD hS => ?_)
          rw [nI_clamp (n := 13 * q + 12) (by omega)] at hP hD
          have hP : va_P D vwCl [(nu, .inl (cI, 52, .inl (upd (upd (upd N (13 * q + 10) n1) (13 * q + 11) n2) (13 * q + 12) n3)))] H := hP
          have hD : va_D (aE nu) [(nu, .inl (cI, 52, .inl (upd (upd (upd N (13 * q + 10) n1) (13 * q + 11) n2) (13 * q + 12) n3)))] := hD
          have hR := fr_rd hR0 hS hnr
          refine lv_iconst (v := 1) hx hb dX7_spring_76 (by decide) ?_
          exact W.iret (v := 1) hx hb hr (fun t ht hW => ⟨⟨1, (upd (upd (upd N (13 * q + 10) n1) (13 * q + 11) n2) (13 * q + 12) n3), rfl, (by dsimp only; rw [show okSpr h n1 n2 n3 = true from (by unfold okSpr okP; simp [c4, c8, c12, c16]), if_pos rfl]; exact ⟨rfl, rfl⟩), at_heap ht (hP 0 _ rfl)⟩, hS.F ht⟩) hS.2.2 dX7_spring_77
        · have c16 := bI_e.mp c16
          refine lv_bipush (v := (-2)) hx hb dX7_spring_33 (by decide) ?_
          exact W.iret (v := (-2)) hx hb hr (fun t ht hW => ⟨⟨(-2), N, rfl, (by dsimp only; rw [show okSpr h n1 n2 n3 = false from (by unfold okSpr okP; simp [c4, c8, c12, c16]), if_neg (by decide)]; exact ⟨rfl, rfl⟩), at_heap ht (hP 0 _ rfl)⟩, hS.F ht⟩) hS.2.2 dX7_spring_35
set_option maxHeartbeats 4000000 in
set_option maxRecDepth 100000 in
theorem lpX7_mir {p : Program} {l : Launch} {e : Env} {s : State} {m : MethodId} {args : Array Value} {below : List Frame} {meth : Method} {co : Code} {Q : State → Prop} (D : va_G) (cI cH : ClassId) (hx : p.tables.exec = Jvm.exec) (hb : co.code = cX7_mirror) (hml : co.maxLocals = 5) (hown : s.vm.findClass RX7 = some m.cls) (hts : ∀ w ∈ wsX7_mirror, w.before args s = true) (hw : wk D cI cH s) {mo nu sh ra rr k k2 q q2 : Nat} {N : Nat → Int32} {ct cp cr ctr cfs : Int32} {p0 p1 p2 p3 p4 p5 p6 p7 p8 p9 po : UInt64} (hqq : q < 4) (hqr : q2 < 4) (hne2 : mo ≠ nu) (hR0 : va_P D vwCl [(mo, .inr (6, [.ref nu, .double p0, .double p1, .double p2, .double p3, .double p4, .double p5, .double p6, .double p7, .double p8, .double p9, .int ct, .int cp, .int cr, .int ctr, .int cfs, .int (nI k), .ref sh, .int (nI k2), .ref ra, .ref rr, .double po]))] s.heap) (kk : ∀ (H : Heap) (locs : List Loc) (ls : Array Slot), va_S (aE nu) s.heap H locs → va_P D vwCl [(nu, .inl (cI, 52, .inl (mirF N q q2 13)))] H → W p l e ({ frames := 2, cells := 0, slots := 0, locals := 42 } : Room) s m args below meth co H locs 0 0 Q (F0 m 84 ls [])) : ∀ (n j : Nat) (H : Heap) (locs : List Loc) (ls : Array Slot), va_S (aE nu) s.heap H locs → va_P D vwCl [(nu, .inl (cI, 52, .inl (mirF N q q2 j)))] H → j + n = 13 → lv_has ls 5 [(3, .int (nI j)), (2, .int (nI q2)), (1, .int (nI q)), (0, .ref mo)] → W p l e ({ frames := 2, cells := 0, slots := 0, locals := 42 } : Room) s m args below meth co H locs 0 0 Q (F0 m 19 ls []) := by
  have hinX7 : ∀ w ∈ wsX70, w ∈ wsX7_mirror := by decide +kernel
  have hnr : ∀ (k9 : Nat) (q : Nat × va_E), ([(mo, .inr (6, [.ref nu, .double p0, .double p1, .double p2, .double p3, .double p4, .double p5, .double p6, .double p7, .double p8, .double p9, .int ct, .int cp, .int cr, .int ctr, .int cfs, .int (nI k), .ref sh, .int (nI k2), .ref ra, .ref rr, .double po]))] : va_W)[k9]? = some q → ¬ (aE nu) q.1 := nn_1 hne2 nn_0
  intro n
  induction n with
  | zero =>
    intro j H locs ls hS hP hj hl
    have hjk : j = 13 := by omega
    subst hjk
    have hD : va_D (aE nu) [(nu, .inl (cI, 52, .inl (mirF N q q2 13)))] := D_1 rfl
    have hR := fr_rd hR0 hS hnr
    refine lv_iload_n hx hb dX7_mirror_19 rfl (lv_at hl 0 rfl) ?_
    refine lv_bipush (v := 13) hx hb dX7_mirror_20 (by decide) ?_
    refine lv_icmp_ge (tgt := 84) hx hb dX7_mirror_22 (by decide) (fun c1 => ?_) (fun c1 => ?_)
    · have iw2 := Int32.not_lt.mpr c1
      exact kk H locs ls hS hP
    · have iw3 := Int32.not_le.mp c1
      exact absurd (by decide) c1
  | succ n ih =>
    intro j H locs ls hS hP hj hl
    have hD : va_D (aE nu) [(nu, .inl (cI, 52, .inl (mirF N q q2 j)))] := D_1 rfl
    have hR := fr_rd hR0 hS hnr
    refine lv_iload_n hx hb dX7_mirror_19 rfl (lv_at hl 0 rfl) ?_
    refine lv_bipush (v := 13) hx hb dX7_mirror_20 (by decide) ?_
    refine lv_icmp_ge (tgt := 84) hx hb dX7_mirror_22 (by decide) (fun c1 => ?_) (fun c1 => ?_)
    · have iw2 := Int32.not_lt.mpr c1
      exact absurd ((nI_leI (by omega) (by omega)).mp (show nI 13 ≤ nI j from c1)) (by omega)
    · have iw3 := Int32.not_le.mp c1
      refine lv_aload_n hx hb dX7_mirror_25 rfl (lv_at hl 3 rfl) ?_
      refine va_get (D := D) (ci := 6) (v := .ref nu) (C := RX7) (T := TX7) (N := 22) hx hb hts hinX7 hown hw.1 hR 0 rfl rfl 0 (by decide) (hts (.fieldLink RX7 19 "WheelSwingModel" "number" "[I") (by decide +kernel)) (fun _ h9 => h9) rfl dX7_mirror_26 ?_
      refine lv_bipush (v := 13) hx hb dX7_mirror_29 (by decide) ?_
      refine lv_iload_n hx hb dX7_mirror_31 rfl (lv_at hl 2 rfl) ?_
      refine lv_imul hx hb dX7_mirror_32 ?_
      rw [nI_m13]
      refine lv_iload_n hx hb dX7_mirror_33 rfl (lv_at hl 0 rfl) ?_
      refine lv_iadd hx hb dX7_mirror_34 ?_
      rw [nI_add]
      refine va_iald hx hb hw.1 hP 0 0 rfl rfl (vp_in_nI (by omega) (by omega)) dX7_mirror_35 ?_
      rw [nI_clamp (n := 13 * q + j) (by omega)]
      refine lv_istore (lv' := [(4, .int (((mirF N q q2 j)) (13 * q + j))), (3, .int (nI j)), (2, .int (nI q2)), (1, .int (nI q)), (0, .ref mo)]) hx hb dX7_mirror_36 hl (by decide) rfl (fun ls hl => ?_)
      refine lv_aload_n hx hb dX7_mirror_38 rfl (lv_at hl 4 rfl) ?_
      refine va_get (D := D) (ci := 6) (v := .ref nu) (C := RX7) (T := TX7) (N := 22) hx hb hts hinX7 hown hw.1 hR 0 rfl rfl 0 (by decide) (hts (.fieldLink RX7 19 "WheelSwingModel" "number" "[I") (by decide +kernel)) (fun _ h9 => h9) rfl dX7_mirror_39 ?_
      refine lv_bipush (v := 13) hx hb dX7_mirror_42 (by decide) ?_
      refine lv_iload_n hx hb dX7_mirror_44 rfl (lv_at hl 2 rfl) ?_
      refine lv_imul hx hb dX7_mirror_45 ?_
      rw [nI_m13]
      refine lv_iload_n hx hb dX7_mirror_46 rfl (lv_at hl 1 rfl) ?_
      refine lv_iadd hx hb dX7_mirror_47 ?_
      rw [nI_add]
      refine lv_iload_n hx hb dX7_mirror_48 rfl (lv_at hl 1 rfl) ?_
      refine lv_if_eq (tgt := 69) hx hb dX7_mirror_49 (by decide) (fun c4 => ?_) (fun c4 => ?_)
      · refine lv_iload hx hb dX7_mirror_69 (lv_at hl 0 rfl) ?_
        refine lv_ineg hx hb dX7_mirror_71 ?_
        refine lv_goto (tgt := 77) hx hb dX7_mirror_72 (by decide) ?_
        refine va_iast hx hb hw.1 hP hD hS 0 0 rfl rfl (vp_in_nI (by omega) (by omega)) dX7_mirror_77 (fun H locs hP hD hS => ?_)
        rw [nI_clamp (n := 13 * q2 + j) (by omega)] at hP hD
        have hP : va_P D vwCl [(nu, .inl (cI, 52, .inl (upd (mirF N q q2 j) (13 * q2 + j) (-(((mirF N q q2 j)) (13 * q + j))))))] H := hP
        have hD : va_D (aE nu) [(nu, .inl (cI, 52, .inl (upd (mirF N q q2 j) (13 * q2 + j) (-(((mirF N q q2 j)) (13 * q + j))))))] := hD
        have hR := fr_rd hR0 hS hnr
        refine lv_iinc (v := (nI j) + 1) (lv' := [(3, .int ((nI j) + 1)), (4, .int (((mirF N q q2 j)) (13 * q + j))), (2, .int (nI q2)), (1, .int (nI q)), (0, .ref mo)]) hx hb dX7_mirror_78 hl (k := 1) rfl rfl (by decide) rfl (fun ls hl => ?_)
        refine lv_goto (tgt := 19) hx hb dX7_mirror_81 (by decide) ?_
        have hs9 : mirF N q q2 (j + 1) = (upd (mirF N q q2 j) (13 * q2 + j) (-(((mirF N q q2 j)) (13 * q + j)))) := mirF_t (by simp [c4])
        rw [← hs9] at hP
        have h9 : lv_has ls 5 [(3, .int (nI (j + 1))), (2, .int (nI q2)), (1, .int (nI q)), (0, .ref mo)] := by have h8 := (lv_sub hl [0, 2, 3, 4] rfl); rw [nI_1] at h8; exact h8
        exact ih (j + 1) H locs ls hS hP (by omega) h9
      · refine lv_iload_n hx hb dX7_mirror_52 rfl (lv_at hl 1 rfl) ?_
        refine lv_iconst (v := 2) hx hb dX7_mirror_53 (by decide) ?_
        refine lv_icmp_eq (tgt := 69) hx hb dX7_mirror_54 (by decide) (fun c5 => ?_) (fun c5 => ?_)
        · refine lv_iload hx hb dX7_mirror_69 (lv_at hl 0 rfl) ?_
          refine lv_ineg hx hb dX7_mirror_71 ?_
          refine lv_goto (tgt := 77) hx hb dX7_mirror_72 (by decide) ?_
          refine va_iast hx hb hw.1 hP hD hS 0 0 rfl rfl (vp_in_nI (by omega) (by omega)) dX7_mirror_77 (fun H locs hP hD hS => ?_)
          rw [nI_clamp (n := 13 * q2 + j) (by omega)] at hP hD
          have hP : va_P D vwCl [(nu, .inl (cI, 52, .inl (upd (mirF N q q2 j) (13 * q2 + j) (-(((mirF N q q2 j)) (13 * q + j))))))] H := hP
          have hD : va_D (aE nu) [(nu, .inl (cI, 52, .inl (upd (mirF N q q2 j) (13 * q2 + j) (-(((mirF N q q2 j)) (13 * q + j))))))] := hD
          have hR := fr_rd hR0 hS hnr
          refine lv_iinc (v := (nI j) + 1) (lv' := [(3, .int ((nI j) + 1)), (4, .int (((mirF N q q2 j)) (13 * q + j))), (2, .int (nI q2)), (1, .int (nI q)), (0, .ref mo)]) hx hb dX7_mirror_78 hl (k := 1) rfl rfl (by decide) rfl (fun ls hl => ?_)
          refine lv_goto (tgt := 19) hx hb dX7_mirror_81 (by decide) ?_
          have hs9 : mirF N q q2 (j + 1) = (upd (mirF N q q2 j) (13 * q2 + j) (-(((mirF N q q2 j)) (13 * q + j)))) := mirF_t (by simp [c5])
          rw [← hs9] at hP
          have h9 : lv_has ls 5 [(3, .int (nI (j + 1))), (2, .int (nI q2)), (1, .int (nI q)), (0, .ref mo)] := by have h8 := (lv_sub hl [0, 2, 3, 4] rfl); rw [nI_1] at h8; exact h8
          exact ih (j + 1) H locs ls hS hP (by omega) h9
        · refine lv_iload_n hx hb dX7_mirror_57 rfl (lv_at hl 1 rfl) ?_
          refine lv_bipush (v := 7) hx hb dX7_mirror_58 (by decide) ?_
          refine lv_icmp_eq (tgt := 69) hx hb dX7_mirror_60 (by decide) (fun c6 => ?_) (fun c6 => ?_)
          · refine lv_iload hx hb dX7_mirror_69 (lv_at hl 0 rfl) ?_
            refine lv_ineg hx hb dX7_mirror_71 ?_
            refine lv_goto (tgt := 77) hx hb dX7_mirror_72 (by decide) ?_
            refine va_iast hx hb hw.1 hP hD hS 0 0 rfl rfl (vp_in_nI (by omega) (by omega)) dX7_mirror_77 (fun H locs hP hD hS => ?_)
            rw [nI_clamp (n := 13 * q2 + j) (by omega)] at hP hD
            have hP : va_P D vwCl [(nu, .inl (cI, 52, .inl (upd (mirF N q q2 j) (13 * q2 + j) (-(((mirF N q q2 j)) (13 * q + j))))))] H := hP
            have hD : va_D (aE nu) [(nu, .inl (cI, 52, .inl (upd (mirF N q q2 j) (13 * q2 + j) (-(((mirF N q q2 j)) (13 * q + j))))))] := hD
            have hR := fr_rd hR0 hS hnr
            refine lv_iinc (v := (nI j) + 1) (lv' := [(3, .int ((nI j) + 1)), (4, .int (((mirF N q q2 j)) (13 * q + j))), (2, .int (nI q2)), (1, .int (nI q)), (0, .ref mo)]) hx hb dX7_mirror_78 hl (k := 1) rfl rfl (by decide) rfl (fun ls hl => ?_)
            refine lv_goto (tgt := 19) hx hb dX7_mirror_81 (by decide) ?_
            have hs9 : mirF N q q2 (j + 1) = (upd (mirF N q q2 j) (13 * q2 + j) (-(((mirF N q q2 j)) (13 * q + j)))) := mirF_t (by simp [c6])
            rw [← hs9] at hP
            have h9 : lv_has ls 5 [(3, .int (nI (j + 1))), (2, .int (nI q2)), (1, .int (nI q)), (0, .ref mo)] := by have h8 := (lv_sub hl [0, 2, 3, 4] rfl); rw [nI_1] at h8; exact h8
            exact ih (j + 1) H locs ls hS hP (by omega) h9
          · refine lv_iload_n hx hb dX7_mirror_63 rfl (lv_at hl 1 rfl) ?_
            refine lv_bipush (v := 10) hx hb dX7_mirror_64 (by decide) ?_
            refine lv_icmp_ne (tgt := 75) hx hb dX7_mirror_66 (by decide) (fun c7 => ?_) (fun c7 => ?_)
            · refine lv_iload hx hb dX7_mirror_75 (lv_at hl 0 rfl) ?_
              refine va_iast hx hb hw.1 hP hD hS 0 0 rfl rfl (vp_in_nI (by omega) (by omega)) dX7_mirror_77 (fun H locs hP hD hS => ?_)
              rw [nI_clamp (n := 13 * q2 + j) (by omega)] at hP hD
              have hP : va_P D vwCl [(nu, .inl (cI, 52, .inl (upd (mirF N q q2 j) (13 * q2 + j) (((mirF N q q2 j)) (13 * q + j)))))] H := hP
              have hD : va_D (aE nu) [(nu, .inl (cI, 52, .inl (upd (mirF N q q2 j) (13 * q2 + j) (((mirF N q q2 j)) (13 * q + j)))))] := hD
              have hR := fr_rd hR0 hS hnr
              refine lv_iinc (v := (nI j) + 1) (lv' := [(3, .int ((nI j) + 1)), (4, .int (((mirF N q q2 j)) (13 * q + j))), (2, .int (nI q2)), (1, .int (nI q)), (0, .ref mo)]) hx hb dX7_mirror_78 hl (k := 1) rfl rfl (by decide) rfl (fun ls hl => ?_)
              refine lv_goto (tgt := 19) hx hb dX7_mirror_81 (by decide) ?_
              have hs9 : mirF N q q2 (j + 1) = (upd (mirF N q q2 j) (13 * q2 + j) (((mirF N q q2 j)) (13 * q + j))) := mirF_f (fun hc => by simp [c4, c5, c6, c7] at hc)
              rw [← hs9] at hP
              have h9 : lv_has ls 5 [(3, .int (nI (j + 1))), (2, .int (nI q2)), (1, .int (nI q)), (0, .ref mo)] := by have h8 := (lv_sub hl [0, 2, 3, 4] rfl); rw [nI_1] at h8; exact h8
              exact ih (j + 1) H locs ls hS hP (by omega) h9
            · refine lv_iload hx hb dX7_mirror_69 (lv_at hl 0 rfl) ?_
              refine lv_ineg hx hb dX7_mirror_71 ?_
              refine lv_goto (tgt := 77) hx hb dX7_mirror_72 (by decide) ?_
              refine va_iast hx hb hw.1 hP hD hS 0 0 rfl rfl (vp_in_nI (by omega) (by omega)) dX7_mirror_77 (fun H locs hP hD hS => ?_)
              rw [nI_clamp (n := 13 * q2 + j) (by omega)] at hP hD
              have hP : va_P D vwCl [(nu, .inl (cI, 52, .inl (upd (mirF N q q2 j) (13 * q2 + j) (-(((mirF N q q2 j)) (13 * q + j))))))] H := hP
              have hD : va_D (aE nu) [(nu, .inl (cI, 52, .inl (upd (mirF N q q2 j) (13 * q2 + j) (-(((mirF N q q2 j)) (13 * q + j))))))] := hD
              have hR := fr_rd hR0 hS hnr
              refine lv_iinc (v := (nI j) + 1) (lv' := [(3, .int ((nI j) + 1)), (4, .int (((mirF N q q2 j)) (13 * q + j))), (2, .int (nI q2)), (1, .int (nI q)), (0, .ref mo)]) hx hb dX7_mirror_78 hl (k := 1) rfl rfl (by decide) rfl (fun ls hl => ?_)
              refine lv_goto (tgt := 19) hx hb dX7_mirror_81 (by decide) ?_
              have hs9 : mirF N q q2 (j + 1) = (upd (mirF N q q2 j) (13 * q2 + j) (-(((mirF N q q2 j)) (13 * q + j)))) := mirF_t (by simp [c7])
              rw [← hs9] at hP
              have h9 : lv_has ls 5 [(3, .int (nI (j + 1))), (2, .int (nI q2)), (1, .int (nI q)), (0, .ref mo)] := by have h8 := (lv_sub hl [0, 2, 3, 4] rfl); rw [nI_1] at h8; exact h8
              exact ih (j + 1) H locs ls hS hP (by omega) h9
set_option maxHeartbeats 4000000 in
set_option maxRecDepth 100000 in
theorem mX7_mirror (l : Launch) (D : va_G) (cI cH : ClassId) (mo nu sh ra rr k k2 q : Nat) (N : Nat → Int32) (ct cp cr ctr cfs : Int32) (p0 p1 p2 p3 p4 p5 p6 p7 p8 p9 po : UInt64) (q2 : Nat) (h h2 : Int32)  (hqq : q < 4) (hne2 : mo ≠ nu) (hqr : q2 < 4) (hq9 : okH h = true → h = nI q) (hq8 : okH h2 = true → h2 = nI q2) : Met l yX7_mirror wsX7_mirror ({ frames := 2, cells := 0, slots := 0, locals := 42 }) (va_Pc [.ref mo, .int h, .int h2] (kB D cI cH [(nu, .inl (cI, 52, .inl N)), (mo, .inr (6, [.ref nu, .double p0, .double p1, .double p2, .double p3, .double p4, .double p5, .double p6, .double p7, .double p8, .double p9, .int ct, .int cp, .int cr, .int ctr, .int cfs, .int (nI k), .ref sh, .int (nI k2), .ref ra, .ref rr, .double po]))])) (va_Qi (fun (r : Int32) (u : Nat → Int32) => if okH h && okH h2 then r = 1 ∧ u = mirF N q q2 13 else r = -2 ∧ u = N) (fun u t => va_at D vwCl (nu, .inl (cI, 52, .inl u)) t.heap) (aE nu)) 0 0 (aE nu) := by
  refine Met.ofW (cc := cX7_mirror) (maxL := 5) (ret := (some .int)) (by decide) rfl ?_
  intro p e s m args below meth co s₁ B hml hv
  obtain ⟨rfl, hP0, hw⟩ := hv
  have hx := B.exec
  have hb := B.bytes
  have hr := B.returns
  have hts := atoms_spec (ws := wsX7_mirror) B.pre
  have hown : s.vm.findClass RX7 = some m.cls := findClass_of_methodNamed B.named
  have hlocks := B.notSynchronized
  have hinX7 : ∀ w ∈ wsX70, w ∈ wsX7_mirror := by decide +kernel
  have hS : va_S (aE nu) s.heap s.heap [] := va_S.rf
  have hP : va_P D vwCl [(nu, .inl (cI, 52, .inl N))] s.heap := hP0.sub [0] rfl
  have hD : va_D (aE nu) [(nu, .inl (cI, 52, .inl N))] := D_1 rfl
  have hR0 : va_P D vwCl [(mo, .inr (6, [.ref nu, .double p0, .double p1, .double p2, .double p3, .double p4, .double p5, .double p6, .double p7, .double p8, .double p9, .int ct, .int cp, .int cr, .int ctr, .int cfs, .int (nI k), .ref sh, .int (nI k2), .ref ra, .ref rr, .double po]))] s.heap := hP0.sub [1] rfl
  have hR := hR0
  have hnr : ∀ (k9 : Nat) (q : Nat × va_E), ([(mo, .inr (6, [.ref nu, .double p0, .double p1, .double p2, .double p3, .double p4, .double p5, .double p6, .double p7, .double p8, .double p9, .int ct, .int cp, .int cr, .int ctr, .int cfs, .int (nI k), .ref sh, .int (nI k2), .ref ra, .ref rr, .double po]))] : va_W)[k9]? = some q → ¬ (aE nu) q.1 := nn_1 hne2 nn_0
  have hl := lv_entry ([.ref mo, .int h, .int h2]) (n := 5) (Nat.le_of_ble_eq_true rfl)
  rw [lg_entry_eq]
  generalize (lg_sl ([.ref mo, .int h, .int h2]) ++ List.replicate (5 - (lg_sl ([.ref mo, .int h, .int h2])).length) Slot.unset).toArray = ls at hl ⊢
  have hl : lv_has ls 5 [(0, .ref mo), (1, .int h), (2, .int h2)] := hl
  skip
  refine lv_iload_n hx hb dX7_mirror_0 rfl (lv_at hl 1 rfl) ?_
  refine va_calli (va_runS (As := [.int h]) (rest := []) ⟨hx, hb, hml, hown, hts⟩ (mX7_isHanging l h) (va_cwS 1 hts gX7_mirror_X7_isHanging rfl rfl rfl (by decide +kernel) ⟨Nat.le_of_ble_eq_true rfl, Nat.le_of_ble_eq_true rfl⟩) ⟨tB_blind, tB_go⟩ rfl rfl hl.1 rfl (lv_room (Nat.le_of_ble_eq_true rfl)) dX7_mirror_1 ⟨Nat.le_of_ble_eq_true rfl, Nat.le_of_ble_eq_true rfl⟩) hS (fun q _ h => h.elim) (fun q h => h.elim) (fun r1 u2 t H locs ht hvm hp3 hB hz1 hk1 hS => ?_)
  have hP := fr_keep hP hk1 fr_nA
  have hR := fr_rd hR0 hS hnr
  subst hp3
  refine lv_if_eq (tgt := 14) hx hb dX7_mirror_4 (by decide) (fun c4 => ?_) (fun c4 => ?_)
  · have c4 := bI_e.mp c4
    refine lv_bipush (v := (-2)) hx hb dX7_mirror_14 (by decide) ?_
    exact W.iret (v := (-2)) hx hb hr (fun t ht hW => ⟨⟨(-2), N, rfl, (by dsimp only; rw [show (okH h && okH h2) = false from (by simp [c4]), if_neg (by decide)]; exact ⟨rfl, rfl⟩), at_heap ht (hP 0 _ rfl)⟩, hS.F ht⟩) hS.2.2 dX7_mirror_16
  · have c4 := bI_n.mp c4
    refine lv_iload_n hx hb dX7_mirror_7 rfl (lv_at hl 2 rfl) ?_
    refine va_calli (va_runS (As := [.int h2]) (rest := []) ⟨hx, hb, hml, hown, hts⟩ (mX7_isHanging l h2) (va_cwS 1 hts gX7_mirror_X7_isHanging rfl rfl rfl (by decide +kernel) ⟨Nat.le_of_ble_eq_true rfl, Nat.le_of_ble_eq_true rfl⟩) ⟨tB_blind, tB_go⟩ rfl rfl hl.1 rfl (lv_room (Nat.le_of_ble_eq_true rfl)) dX7_mirror_8 ⟨Nat.le_of_ble_eq_true rfl, Nat.le_of_ble_eq_true rfl⟩) hS (fun q _ h => h.elim) (fun q h => h.elim) (fun r5 u6 t H locs ht hvm hp7 hB hz1 hk1 hS => ?_)
    have hP := fr_keep hP hk1 fr_nA
    have hR := fr_rd hR0 hS hnr
    subst hp7
    refine lv_if_ne (tgt := 17) hx hb dX7_mirror_11 (by decide) (fun c8 => ?_) (fun c8 => ?_)
    · have c8 := bI_n.mp c8
      have ehq9 : h = nI q := hq9 c4
      rw [ehq9] at hl
      have ehq8 : h2 = nI q2 := hq8 c8
      rw [ehq8] at hl
      refine lv_iconst (v := 0) hx hb dX7_mirror_17 (by decide) ?_
      refine lv_istore_n (lv' := [(3, .int 0), (0, .ref mo), (1, .int (nI q)), (2, .int (nI q2))]) hx hb dX7_mirror_18 rfl hl (by decide) rfl (fun ls hl => ?_)
      have h9 : lv_has ls 5 [(3, .int (nI 0)), (2, .int (nI q2)), (1, .int (nI q)), (0, .ref mo)] := (lv_sub hl [0, 3, 2, 1] rfl)
      refine lpX7_mir D cI cH hx hb hml hown hts hw hqq hqr hne2 hR0 (fun H locs ls hS hP => ?_) 13 0 _ _ ls hS hP (by omega) h9
      refine lv_iconst (v := 1) hx hb dX7_mirror_84 (by decide) ?_
      exact W.iret (v := 1) hx hb hr (fun t ht hW => ⟨⟨1, (mirF N q q2 13), rfl, (by dsimp only; rw [show (okH h && okH h2) = true from (by simp [c4, c8]), if_pos rfl]; exact ⟨rfl, rfl⟩), at_heap ht (hP 0 _ rfl)⟩, hS.F ht⟩) hS.2.2 dX7_mirror_85
    · have c8 := bI_e.mp c8
      refine lv_bipush (v := (-2)) hx hb dX7_mirror_14 (by decide) ?_
      exact W.iret (v := (-2)) hx hb hr (fun t ht hW => ⟨⟨(-2), N, rfl, (by dsimp only; rw [show (okH h && okH h2) = false from (by simp [c4, c8]), if_neg (by decide)]; exact ⟨rfl, rfl⟩), at_heap ht (hP 0 _ rfl)⟩, hS.F ht⟩) hS.2.2 dX7_mirror_16
set_option maxHeartbeats 4000000 in
set_option maxRecDepth 100000 in
theorem mX7_weight (l : Launch) (D : va_G) (cI cH : ClassId) (mo nu sh ra rr k k2 : Nat) (ct cp cr ctr cfs : Int32) (p0 p1 p2 p3 p4 p5 p6 p7 p8 p9 po : UInt64) (n1 n2 n3 : Int32)  : Met l yX7_weight wsX7_weight ({ frames := 1, cells := 0, slots := 0, locals := 22 }) (va_Pc [.ref mo, .int n1, .int n2, .int n3] (kB D cI cH [(mo, .inr (6, [.ref nu, .double p0, .double p1, .double p2, .double p3, .double p4, .double p5, .double p6, .double p7, .double p8, .double p9, .int ct, .int cp, .int cr, .int ctr, .int cfs, .int (nI k), .ref sh, .int (nI k2), .ref ra, .ref rr, .double po]))])) (va_Qi (fun (r : Int32) (u : List Value) => if okWt n1 n2 n3 then r = 1 ∧ isM nu sh ra rr k k2 n1 n2 n3 ctr cfs u else r = -2 ∧ isM nu sh ra rr k k2 ct cp cr ctr cfs u) (fun u t => va_at D vwCl (mo, .inr (6, u)) t.heap) (aE mo)) 0 0 (aE mo) := by
  refine Met.ofW (cc := cX7_weight) (maxL := 4) (ret := (some .int)) (by decide) rfl ?_
  intro p e s m args below meth co s₁ B hml hv
  obtain ⟨rfl, hP0, hw⟩ := hv
  have hx := B.exec
  have hb := B.bytes
  have hr := B.returns
  have hts := atoms_spec (ws := wsX7_weight) B.pre
  have hown : s.vm.findClass RX7 = some m.cls := findClass_of_methodNamed B.named
  have hlocks := B.notSynchronized
  have hinX7 : ∀ w ∈ wsX70, w ∈ wsX7_weight := by decide +kernel
  have hS : va_S (aE mo) s.heap s.heap [] := va_S.rf
  have hP : va_P D vwCl [(mo, .inr (6, [.ref nu, .double p0, .double p1, .double p2, .double p3, .double p4, .double p5, .double p6, .double p7, .double p8, .double p9, .int ct, .int cp, .int cr, .int ctr, .int cfs, .int (nI k), .ref sh, .int (nI k2), .ref ra, .ref rr, .double po]))] s.heap := hP0.sub [0] rfl
  have hD : va_D (aE mo) [(mo, .inr (6, [.ref nu, .double p0, .double p1, .double p2, .double p3, .double p4, .double p5, .double p6, .double p7, .double p8, .double p9, .int ct, .int cp, .int cr, .int ctr, .int cfs, .int (nI k), .ref sh, .int (nI k2), .ref ra, .ref rr, .double po]))] := D_1 rfl
  have hl := lv_entry ([.ref mo, .int n1, .int n2, .int n3]) (n := 4) (Nat.le_of_ble_eq_true rfl)
  rw [lg_entry_eq]
  generalize (lg_sl ([.ref mo, .int n1, .int n2, .int n3]) ++ List.replicate (4 - (lg_sl ([.ref mo, .int n1, .int n2, .int n3])).length) Slot.unset).toArray = ls at hl ⊢
  have hl : lv_has ls 4 [(0, .ref mo), (1, .int n1), (2, .int n2), (3, .int n3)] := hl
  skip
  refine lv_iload_n hx hb dX7_weight_0 rfl (lv_at hl 1 rfl) ?_
  refine lv_iconst (v := 0) hx hb dX7_weight_1 (by decide) ?_
  refine lv_ldc hx hb hown (hts (.constant RX7 119 (100000)) (by decide +kernel)) dX7_weight_2 ?_
  refine va_calli (va_runS (As := [.int n1, .int 0, .int 100000]) (rest := []) ⟨hx, hb, hml, hown, hts⟩ (mX7_in l n1 0 100000) (va_cwS 3 hts gX7_weight_X7_in rfl rfl rfl (by decide +kernel) ⟨Nat.le_of_ble_eq_true rfl, Nat.le_of_ble_eq_true rfl⟩) ⟨tB_blind, tB_go⟩ rfl rfl hl.1 rfl (lv_room (Nat.le_of_ble_eq_true rfl)) dX7_weight_4 ⟨Nat.le_of_ble_eq_true rfl, Nat.le_of_ble_eq_true rfl⟩) hS (fun q _ h => h.elim) (fun q h => h.elim) (fun r1 u2 t H locs ht hvm hp3 hB hz1 hk1 hS => ?_)
  have hP := fr_keep hP hk1 fr_nA
  subst hp3
  refine lv_if_eq (tgt := 34) hx hb dX7_weight_7 (by decide) (fun c4 => ?_) (fun c4 => ?_)
  · have c4 := bI_e.mp c4
    refine lv_bipush (v := (-2)) hx hb dX7_weight_34 (by decide) ?_
    exact W.iret (v := (-2)) hx hb hr (fun t ht hW => ⟨⟨(-2), [.ref nu, .double p0, .double p1, .double p2, .double p3, .double p4, .double p5, .double p6, .double p7, .double p8, .double p9, .int ct, .int cp, .int cr, .int ctr, .int cfs, .int (nI k), .ref sh, .int (nI k2), .ref ra, .ref rr, .double po], rfl, (by dsimp only; rw [show okWt n1 n2 n3 = false from (by unfold okWt; simp [c4]), if_neg (by decide)]; exact ⟨rfl, ⟨_, _, _, _, _, _, _, _, _, _, _, rfl⟩⟩), at_heap ht (hP 0 _ rfl)⟩, hS.F ht⟩) hS.2.2 dX7_weight_36
  · have c4 := bI_n.mp c4
    refine lv_iload_n hx hb dX7_weight_10 rfl (lv_at hl 2 rfl) ?_
    refine lv_iconst (v := 0) hx hb dX7_weight_11 (by decide) ?_
    refine lv_sipush (v := 1000) hx hb dX7_weight_12 (by decide) ?_
    refine va_calli (va_runS (As := [.int n2, .int 0, .int 1000]) (rest := []) ⟨hx, hb, hml, hown, hts⟩ (mX7_in l n2 0 1000) (va_cwS 3 hts gX7_weight_X7_in rfl rfl rfl (by decide +kernel) ⟨Nat.le_of_ble_eq_true rfl, Nat.le_of_ble_eq_true rfl⟩) ⟨tB_blind, tB_go⟩ rfl rfl hl.1 rfl (lv_room (Nat.le_of_ble_eq_true rfl)) dX7_weight_15 ⟨Nat.le_of_ble_eq_true rfl, Nat.le_of_ble_eq_true rfl⟩) hS (fun q _ h => h.elim) (fun q h => h.elim) (fun r5 u6 t H locs ht hvm hp7 hB hz1 hk1 hS => ?_)
    have hP := fr_keep hP hk1 fr_nA
    subst hp7
    refine lv_if_eq (tgt := 34) hx hb dX7_weight_18 (by decide) (fun c8 => ?_) (fun c8 => ?_)
    · have c8 := bI_e.mp c8
      refine lv_bipush (v := (-2)) hx hb dX7_weight_34 (by decide) ?_
      exact W.iret (v := (-2)) hx hb hr (fun t ht hW => ⟨⟨(-2), [.ref nu, .double p0, .double p1, .double p2, .double p3, .double p4, .double p5, .double p6, .double p7, .double p8, .double p9, .int ct, .int cp, .int cr, .int ctr, .int cfs, .int (nI k), .ref sh, .int (nI k2), .ref ra, .ref rr, .double po], rfl, (by dsimp only; rw [show okWt n1 n2 n3 = false from (by unfold okWt; simp [c4, c8]), if_neg (by decide)]; exact ⟨rfl, ⟨_, _, _, _, _, _, _, _, _, _, _, rfl⟩⟩), at_heap ht (hP 0 _ rfl)⟩, hS.F ht⟩) hS.2.2 dX7_weight_36
    · have c8 := bI_n.mp c8
      refine lv_iload_n hx hb dX7_weight_21 rfl (lv_at hl 3 rfl) ?_
      refine lv_sipush (v := (-500)) hx hb dX7_weight_22 (by decide) ?_
      refine lv_sipush (v := 500) hx hb dX7_weight_25 (by decide) ?_
      refine va_calli (va_runS (As := [.int n3, .int ((-500)), .int 500]) (rest := []) ⟨hx, hb, hml, hown, hts⟩ (mX7_in l n3 ((-500)) 500) (va_cwS 3 hts gX7_weight_X7_in rfl rfl rfl (by decide +kernel) ⟨Nat.le_of_ble_eq_true rfl, Nat.le_of_ble_eq_true rfl⟩) ⟨tB_blind, tB_go⟩ rfl rfl hl.1 rfl (lv_room (Nat.le_of_ble_eq_true rfl)) dX7_weight_28 ⟨Nat.le_of_ble_eq_true rfl, Nat.le_of_ble_eq_true rfl⟩) hS (fun q _ h => h.elim) (fun q h => h.elim) (fun r9 u10 t H locs ht hvm hp11 hB hz1 hk1 hS => ?_)
      have hP := fr_keep hP hk1 fr_nA
      subst hp11
      refine lv_if_ne (tgt := 37) hx hb dX7_weight_31 (by decide) (fun c12 => ?_) (fun c12 => ?_)
      · have c12 := bI_n.mp c12
        refine lv_aload_n hx hb dX7_weight_37 rfl (lv_at hl 0 rfl) ?_
        refine lv_iload_n hx hb dX7_weight_38 rfl (lv_at hl 1 rfl) ?_
        refine va_put (D := D) (ci := 6) (v := .int n1) (ty := .int) (C := RX7) (T := TX7) (N := 22) hx hb hts hinX7 tyX7 tyX7_ok nmX7 hown hw.1 hP hD hS 0 rfl rfl 11 (by decide) (hts (.fieldLink RX7 120 "WheelSwingModel" "heavy" "I") (by decide +kernel)) (fun _ h9 => h9) rfl (by decide +kernel) rfl rfl (Nat.le_of_ble_eq_true rfl) dX7_weight_39 (fun H locs hP hD hS => ?_)
        have hP : va_P D vwCl [(mo, .inr (6, [.ref nu, .double p0, .double p1, .double p2, .double p3, .double p4, .double p5, .double p6, .double p7, .double p8, .double p9, .int n1, .int cp, .int cr, .int ctr, .int cfs, .int (nI k), .ref sh, .int (nI k2), .ref ra, .ref rr, .double po]))] H := hP
        have hD : va_D (aE mo) [(mo, .inr (6, [.ref nu, .double p0, .double p1, .double p2, .double p3, .double p4, .double p5, .double p6, .double p7, .double p8, .double p9, .int n1, .int cp, .int cr, .int ctr, .int cfs, .int (nI k), .ref sh, .int (nI k2), .ref ra, .ref rr, .double po]))] := hD
        refine lv_aload_n hx hb dX7_weight_42 rfl (lv_at hl 0 rfl) ?_
        refine lv_iload_n hx hb dX7_weight_43 rfl (lv_at hl 2 rfl) ?_
        refine va_put (D := D) (ci := 6) (v := .int n2) (ty := .int) (C := RX7) (T := TX7) (N := 22) hx hb hts hinX7 tyX7 tyX7_ok nmX7 hown hw.1 hP hD hS 0 rfl rfl 12 (by decide) (hts (.fieldLink RX7 124 "WheelSwingModel" "place" "I") (by decide +kernel)) (fun _ h9 => h9) rfl (by decide +kernel) rfl rfl (Nat.le_of_ble_eq_true rfl) dX7_weight_44 (fun H locs hP hD hS => ?_)
        have hP : va_P D vwCl [(mo, .inr (6, [.ref nu, .double p0, .double p1, .double p2, .double p3, .double p4, .double p5, .double p6, .double p7, .double p8, .double p9, .int n1, .int n2, .int cr, .int ctr, .int cfs, .int (nI k), .ref sh, .int (nI k2), .ref ra, .ref rr, .double po]))] H := hP
        have hD : va_D (aE mo) [(mo, .inr (6, [.ref nu, .double p0, .double p1, .double p2, .double p3, .double p4, .double p5, .double p6, .double p7, .double p8, .double p9, .int n1, .int n2, .int cr, .int ctr, .int cfs, .int (nI k), .ref sh, .int (nI k2), .ref ra, .ref rr, .double po]))] := hD
        refine lv_aload_n hx hb dX7_weight_47 rfl (lv_at hl 0 rfl) ?_
        refine lv_iload_n hx hb dX7_weight_48 rfl (lv_at hl 3 rfl) ?_
        refine va_put (D := D) (ci := 6) (v := .int n3) (ty := .int) (C := RX7) (T := TX7) (N := 22) hx hb hts hinX7 tyX7 tyX7_ok nmX7 hown hw.1 hP hD hS 0 rfl rfl 13 (by decide) (hts (.fieldLink RX7 127 "WheelSwingModel" "toRight" "I") (by decide +kernel)) (fun _ h9 => h9) rfl (by decide +kernel) rfl rfl (Nat.le_of_ble_eq_true rfl) dX7_weight_49 (fun H locs hP hD hS => ?_)
        have hP : va_P D vwCl [(mo, .inr (6, [.ref nu, .double p0, .double p1, .double p2, .double p3, .double p4, .double p5, .double p6, .double p7, .double p8, .double p9, .int n1, .int n2, .int n3, .int ctr, .int cfs, .int (nI k), .ref sh, .int (nI k2), .ref ra, .ref rr, .double po]))] H := hP
        have hD : va_D (aE mo) [(mo, .inr (6, [.ref nu, .double p0, .double p1, .double p2, .double p3, .double p4, .double p5, .double p6, .double p7, .double p8, .double p9, .int n1, .int n2, .int n3, .int ctr, .int cfs, .int (nI k), .ref sh, .int (nI k2), .ref ra, .ref rr, .double po]))] := hD
        refine lv_iconst (v := 1) hx hb dX7_weight_52 (by decide) ?_
        exact W.iret (v := 1) hx hb hr (fun t ht hW => ⟨⟨1, [.ref nu, .double p0, .double p1, .double p2, .double p3, .double p4, .double p5, .double p6, .double p7, .double p8, .double p9, .int n1, .int n2, .int n3, .int ctr, .int cfs, .int (nI k), .ref sh, .int (nI k2), .ref ra, .ref rr, .double po], rfl, (by dsimp only; rw [show okWt n1 n2 n3 = true from (by unfold okWt; simp [c4, c8, c12]), if_pos rfl]; exact ⟨rfl, ⟨_, _, _, _, _, _, _, _, _, _, _, rfl⟩⟩), at_heap ht (hP 0 _ rfl)⟩, hS.F ht⟩) hS.2.2 dX7_weight_53
      · have c12 := bI_e.mp c12
        refine lv_bipush (v := (-2)) hx hb dX7_weight_34 (by decide) ?_
        exact W.iret (v := (-2)) hx hb hr (fun t ht hW => ⟨⟨(-2), [.ref nu, .double p0, .double p1, .double p2, .double p3, .double p4, .double p5, .double p6, .double p7, .double p8, .double p9, .int ct, .int cp, .int cr, .int ctr, .int cfs, .int (nI k), .ref sh, .int (nI k2), .ref ra, .ref rr, .double po], rfl, (by dsimp only; rw [show okWt n1 n2 n3 = false from (by unfold okWt; simp [c4, c8, c12]), if_neg (by decide)]; exact ⟨rfl, ⟨_, _, _, _, _, _, _, _, _, _, _, rfl⟩⟩), at_heap ht (hP 0 _ rfl)⟩, hS.F ht⟩) hS.2.2 dX7_weight_36
set_option maxHeartbeats 4000000 in
set_option maxRecDepth 100000 in
theorem mX7_push (l : Launch) (D : va_G) (cI cH : ClassId) (mo nu sh ra rr k k2 : Nat) (ct cp cr ctr cfs : Int32) (p0 p1 p2 p3 p4 p5 p6 p7 p8 p9 po : UInt64) (n1 n2 : Int32)  : Met l yX7_push wsX7_push ({ frames := 1, cells := 0, slots := 0, locals := 22 }) (va_Pc [.ref mo, .int n1, .int n2] (kB D cI cH [(mo, .inr (6, [.ref nu, .double p0, .double p1, .double p2, .double p3, .double p4, .double p5, .double p6, .double p7, .double p8, .double p9, .int ct, .int cp, .int cr, .int ctr, .int cfs, .int (nI k), .ref sh, .int (nI k2), .ref ra, .ref rr, .double po]))])) (va_Qi (fun (r : Int32) (u : List Value) => if okPu n1 n2 then r = 1 ∧ isM nu sh ra rr k k2 ct cp cr n1 n2 u else r = -2 ∧ isM nu sh ra rr k k2 ct cp cr ctr cfs u) (fun u t => va_at D vwCl (mo, .inr (6, u)) t.heap) (aE mo)) 0 0 (aE mo) := by
  refine Met.ofW (cc := cX7_push) (maxL := 3) (ret := (some .int)) (by decide) rfl ?_
  intro p e s m args below meth co s₁ B hml hv
  obtain ⟨rfl, hP0, hw⟩ := hv
  have hx := B.exec
  have hb := B.bytes
  have hr := B.returns
  have hts := atoms_spec (ws := wsX7_push) B.pre
  have hown : s.vm.findClass RX7 = some m.cls := findClass_of_methodNamed B.named
  have hlocks := B.notSynchronized
  have hinX7 : ∀ w ∈ wsX70, w ∈ wsX7_push := by decide +kernel
  have hS : va_S (aE mo) s.heap s.heap [] := va_S.rf
  have hP : va_P D vwCl [(mo, .inr (6, [.ref nu, .double p0, .double p1, .double p2, .double p3, .double p4, .double p5, .double p6, .double p7, .double p8, .double p9, .int ct, .int cp, .int cr, .int ctr, .int cfs, .int (nI k), .ref sh, .int (nI k2), .ref ra, .ref rr, .double po]))] s.heap := hP0.sub [0] rfl
  have hD : va_D (aE mo) [(mo, .inr (6, [.ref nu, .double p0, .double p1, .double p2, .double p3, .double p4, .double p5, .double p6, .double p7, .double p8, .double p9, .int ct, .int cp, .int cr, .int ctr, .int cfs, .int (nI k), .ref sh, .int (nI k2), .ref ra, .ref rr, .double po]))] := D_1 rfl
  have hl := lv_entry ([.ref mo, .int n1, .int n2]) (n := 3) (Nat.le_of_ble_eq_true rfl)
  rw [lg_entry_eq]
  generalize (lg_sl ([.ref mo, .int n1, .int n2]) ++ List.replicate (3 - (lg_sl ([.ref mo, .int n1, .int n2])).length) Slot.unset).toArray = ls at hl ⊢
  have hl : lv_has ls 3 [(0, .ref mo), (1, .int n1), (2, .int n2)] := hl
  skip
  refine lv_iload_n hx hb dX7_push_0 rfl (lv_at hl 1 rfl) ?_
  refine lv_ldc hx hb hown (hts (.constant RX7 130 (-100000)) (by decide +kernel)) dX7_push_1 ?_
  refine lv_ldc hx hb hown (hts (.constant RX7 119 (100000)) (by decide +kernel)) dX7_push_3 ?_
  refine va_calli (va_runS (As := [.int n1, .int ((-100000)), .int 100000]) (rest := []) ⟨hx, hb, hml, hown, hts⟩ (mX7_in l n1 ((-100000)) 100000) (va_cwS 3 hts gX7_push_X7_in rfl rfl rfl (by decide +kernel) ⟨Nat.le_of_ble_eq_true rfl, Nat.le_of_ble_eq_true rfl⟩) ⟨tB_blind, tB_go⟩ rfl rfl hl.1 rfl (lv_room (Nat.le_of_ble_eq_true rfl)) dX7_push_5 ⟨Nat.le_of_ble_eq_true rfl, Nat.le_of_ble_eq_true rfl⟩) hS (fun q _ h => h.elim) (fun q h => h.elim) (fun r1 u2 t H locs ht hvm hp3 hB hz1 hk1 hS => ?_)
  have hP := fr_keep hP hk1 fr_nA
  subst hp3
  refine lv_if_eq (tgt := 22) hx hb dX7_push_8 (by decide) (fun c4 => ?_) (fun c4 => ?_)
  · have c4 := bI_e.mp c4
    refine lv_bipush (v := (-2)) hx hb dX7_push_22 (by decide) ?_
    exact W.iret (v := (-2)) hx hb hr (fun t ht hW => ⟨⟨(-2), [.ref nu, .double p0, .double p1, .double p2, .double p3, .double p4, .double p5, .double p6, .double p7, .double p8, .double p9, .int ct, .int cp, .int cr, .int ctr, .int cfs, .int (nI k), .ref sh, .int (nI k2), .ref ra, .ref rr, .double po], rfl, (by dsimp only; rw [show okPu n1 n2 = false from (by unfold okPu; simp [c4]), if_neg (by decide)]; exact ⟨rfl, ⟨_, _, _, _, _, _, _, _, _, _, _, rfl⟩⟩), at_heap ht (hP 0 _ rfl)⟩, hS.F ht⟩) hS.2.2 dX7_push_24
  · have c4 := bI_n.mp c4
    refine lv_iload_n hx hb dX7_push_11 rfl (lv_at hl 2 rfl) ?_
    refine lv_iconst (v := 0) hx hb dX7_push_12 (by decide) ?_
    refine lv_sipush (v := 1000) hx hb dX7_push_13 (by decide) ?_
    refine va_calli (va_runS (As := [.int n2, .int 0, .int 1000]) (rest := []) ⟨hx, hb, hml, hown, hts⟩ (mX7_in l n2 0 1000) (va_cwS 3 hts gX7_push_X7_in rfl rfl rfl (by decide +kernel) ⟨Nat.le_of_ble_eq_true rfl, Nat.le_of_ble_eq_true rfl⟩) ⟨tB_blind, tB_go⟩ rfl rfl hl.1 rfl (lv_room (Nat.le_of_ble_eq_true rfl)) dX7_push_16 ⟨Nat.le_of_ble_eq_true rfl, Nat.le_of_ble_eq_true rfl⟩) hS (fun q _ h => h.elim) (fun q h => h.elim) (fun r5 u6 t H locs ht hvm hp7 hB hz1 hk1 hS => ?_)
    have hP := fr_keep hP hk1 fr_nA
    subst hp7
    refine lv_if_ne (tgt := 25) hx hb dX7_push_19 (by decide) (fun c8 => ?_) (fun c8 => ?_)
    · have c8 := bI_n.mp c8
      refine lv_aload_n hx hb dX7_push_25 rfl (lv_at hl 0 rfl) ?_
      refine lv_iload_n hx hb dX7_push_26 rfl (lv_at hl 1 rfl) ?_
      refine va_put (D := D) (ci := 6) (v := .int n1) (ty := .int) (C := RX7) (T := TX7) (N := 22) hx hb hts hinX7 tyX7 tyX7_ok nmX7 hown hw.1 hP hD hS 0 rfl rfl 14 (by decide) (hts (.fieldLink RX7 131 "WheelSwingModel" "push" "I") (by decide +kernel)) (fun _ h9 => h9) rfl (by decide +kernel) rfl rfl (Nat.le_of_ble_eq_true rfl) dX7_push_27 (fun H locs hP hD hS => ?_)
      have hP : va_P D vwCl [(mo, .inr (6, [.ref nu, .double p0, .double p1, .double p2, .double p3, .double p4, .double p5, .double p6, .double p7, .double p8, .double p9, .int ct, .int cp, .int cr, .int n1, .int cfs, .int (nI k), .ref sh, .int (nI k2), .ref ra, .ref rr, .double po]))] H := hP
      have hD : va_D (aE mo) [(mo, .inr (6, [.ref nu, .double p0, .double p1, .double p2, .double p3, .double p4, .double p5, .double p6, .double p7, .double p8, .double p9, .int ct, .int cp, .int cr, .int n1, .int cfs, .int (nI k), .ref sh, .int (nI k2), .ref ra, .ref rr, .double po]))] := hD
      refine lv_aload_n hx hb dX7_push_30 rfl (lv_at hl 0 rfl) ?_
      refine lv_iload_n hx hb dX7_push_31 rfl (lv_at hl 2 rfl) ?_
      refine va_put (D := D) (ci := 6) (v := .int n2) (ty := .int) (C := RX7) (T := TX7) (N := 22) hx hb hts hinX7 tyX7 tyX7_ok nmX7 hown hw.1 hP hD hS 0 rfl rfl 15 (by decide) (hts (.fieldLink RX7 134 "WheelSwingModel" "share" "I") (by decide +kernel)) (fun _ h9 => h9) rfl (by decide +kernel) rfl rfl (Nat.le_of_ble_eq_true rfl) dX7_push_32 (fun H locs hP hD hS => ?_)
      have hP : va_P D vwCl [(mo, .inr (6, [.ref nu, .double p0, .double p1, .double p2, .double p3, .double p4, .double p5, .double p6, .double p7, .double p8, .double p9, .int ct, .int cp, .int cr, .int n1, .int n2, .int (nI k), .ref sh, .int (nI k2), .ref ra, .ref rr, .double po]))] H := hP
      have hD : va_D (aE mo) [(mo, .inr (6, [.ref nu, .double p0, .double p1, .double p2, .double p3, .double p4, .double p5, .double p6, .double p7, .double p8, .double p9, .int ct, .int cp, .int cr, .int n1, .int n2, .int (nI k), .ref sh, .int (nI k2), .ref ra, .ref rr, .double po]))] := hD
      refine lv_iconst (v := 1) hx hb dX7_push_35 (by decide) ?_
      exact W.iret (v := 1) hx hb hr (fun t ht hW => ⟨⟨1, [.ref nu, .double p0, .double p1, .double p2, .double p3, .double p4, .double p5, .double p6, .double p7, .double p8, .double p9, .int ct, .int cp, .int cr, .int n1, .int n2, .int (nI k), .ref sh, .int (nI k2), .ref ra, .ref rr, .double po], rfl, (by dsimp only; rw [show okPu n1 n2 = true from (by unfold okPu; simp [c4, c8]), if_pos rfl]; exact ⟨rfl, ⟨_, _, _, _, _, _, _, _, _, _, _, rfl⟩⟩), at_heap ht (hP 0 _ rfl)⟩, hS.F ht⟩) hS.2.2 dX7_push_36
    · have c8 := bI_e.mp c8
      refine lv_bipush (v := (-2)) hx hb dX7_push_22 (by decide) ?_
      exact W.iret (v := (-2)) hx hb hr (fun t ht hW => ⟨⟨(-2), [.ref nu, .double p0, .double p1, .double p2, .double p3, .double p4, .double p5, .double p6, .double p7, .double p8, .double p9, .int ct, .int cp, .int cr, .int ctr, .int cfs, .int (nI k), .ref sh, .int (nI k2), .ref ra, .ref rr, .double po], rfl, (by dsimp only; rw [show okPu n1 n2 = false from (by unfold okPu; simp [c4, c8]), if_neg (by decide)]; exact ⟨rfl, ⟨_, _, _, _, _, _, _, _, _, _, _, rfl⟩⟩), at_heap ht (hP 0 _ rfl)⟩, hS.F ht⟩) hS.2.2 dX7_push_24
theorem w03 {w : Int32} (h : isW w 0 3 = true) : w = 0 ∨ w = 1 ∨ w = 2 ∨ w = 3 := by
  obtain ⟨j, hj, rfl⟩ := okH_j (h := w) h
  have h4 : j = 0 ∨ j = 1 ∨ j = 2 ∨ j = 3 := by omega
  rcases h4 with h | h | h | h <;> subst h <;> decide
theorem rem2 {w : Int32} (h : isW w 0 3 = true) : w - w / 2 * 2 = w &&& 1 := by
  rcases w03 h with h | h | h | h <;> subst h <;> decide
set_option maxHeartbeats 4000000 in
set_option maxRecDepth 100000 in
theorem mX7_carries (l : Launch) (D : va_G) (cI cH : ClassId) (mo nu sh ra rr k k2 : Nat) (ct cp cr ctr cfs : Int32) (p0 p1 p2 p3 p4 p5 p6 p7 p8 p9 po : UInt64) (wh : Int32)  : Met l yX7_carries wsX7_carries ({ frames := 1, cells := 0, slots := 0, locals := 22 }) (va_Pc [.ref mo, .int wh] (kB D cI cH [(mo, .inr (6, [.ref nu, .double p0, .double p1, .double p2, .double p3, .double p4, .double p5, .double p6, .double p7, .double p8, .double p9, .int ct, .int cp, .int cr, .int ctr, .int cfs, .int (nI k), .ref sh, .int (nI k2), .ref ra, .ref rr, .double po]))])) (va_Qi (fun (r : Int32) (u : Unit) => r = if isW wh 0 3 then carL ct cp cr ctr cfs wh else -2000000) (fun _ _ => True) nA) 0 0 nA := by
  refine Met.ofW (cc := cX7_carries) (maxL := 6) (ret := (some .int)) (by decide) rfl ?_
  intro p e s m args below meth co s₁ B hml hv
  obtain ⟨rfl, hP0, hw⟩ := hv
  have hx := B.exec
  have hb := B.bytes
  have hr := B.returns
  have hts := atoms_spec (ws := wsX7_carries) B.pre
  have hown : s.vm.findClass RX7 = some m.cls := findClass_of_methodNamed B.named
  have hlocks := B.notSynchronized
  have hinX7 : ∀ w ∈ wsX70, w ∈ wsX7_carries := by decide +kernel
  have hS : va_S nA s.heap s.heap [] := va_S.rf
  have hR0 : va_P D vwCl [(mo, .inr (6, [.ref nu, .double p0, .double p1, .double p2, .double p3, .double p4, .double p5, .double p6, .double p7, .double p8, .double p9, .int ct, .int cp, .int cr, .int ctr, .int cfs, .int (nI k), .ref sh, .int (nI k2), .ref ra, .ref rr, .double po]))] s.heap := hP0.sub [0] rfl
  have hR := hR0
  have hnr : ∀ (k9 : Nat) (q : Nat × va_E), ([(mo, .inr (6, [.ref nu, .double p0, .double p1, .double p2, .double p3, .double p4, .double p5, .double p6, .double p7, .double p8, .double p9, .int ct, .int cp, .int cr, .int ctr, .int cfs, .int (nI k), .ref sh, .int (nI k2), .ref ra, .ref rr, .double po]))] : va_W)[k9]? = some q → ¬ nA q.1 := fr_nA
  have hl := lv_entry ([.ref mo, .int wh]) (n := 6) (Nat.le_of_ble_eq_true rfl)
  rw [lg_entry_eq]
  generalize (lg_sl ([.ref mo, .int wh]) ++ List.replicate (6 - (lg_sl ([.ref mo, .int wh])).length) Slot.unset).toArray = ls at hl ⊢
  have hl : lv_has ls 6 [(0, .ref mo), (1, .int wh)] := hl
  skip
  refine lv_iload_n hx hb dX7_carries_0 rfl (lv_at hl 1 rfl) ?_
  refine lv_iconst (v := 0) hx hb dX7_carries_1 (by decide) ?_
  refine lv_iconst (v := 3) hx hb dX7_carries_2 (by decide) ?_
  refine va_calli (va_runS (As := [.int wh, .int 0, .int 3]) (rest := []) ⟨hx, hb, hml, hown, hts⟩ (mX7_in l wh 0 3) (va_cwS 3 hts gX7_carries_X7_in rfl rfl rfl (by decide +kernel) ⟨Nat.le_of_ble_eq_true rfl, Nat.le_of_ble_eq_true rfl⟩) ⟨tB_blind, tB_go⟩ rfl rfl hl.1 rfl (lv_room (Nat.le_of_ble_eq_true rfl)) dX7_carries_3 ⟨Nat.le_of_ble_eq_true rfl, Nat.le_of_ble_eq_true rfl⟩) hS (fun q _ h => h.elim) (fun q h => h.elim) (fun r1 u2 t H locs ht hvm hp3 hB hz1 hk1 hS => ?_)
  have hR := fr_rd hR0 hS hnr
  subst hp3
  refine lv_if_ne (tgt := 12) hx hb dX7_carries_6 (by decide) (fun c4 => ?_) (fun c4 => ?_)
  · have c4 := bI_n.mp c4
    refine lv_aload_n hx hb dX7_carries_12 rfl (lv_at hl 0 rfl) ?_
    refine va_get (D := D) (ci := 6) (v := .int ct) (C := RX7) (T := TX7) (N := 22) hx hb hts hinX7 hown hw.1 hR 0 rfl rfl 11 (by decide) (hts (.fieldLink RX7 120 "WheelSwingModel" "heavy" "I") (by decide +kernel)) (fun _ h9 => h9) rfl dX7_carries_13 ?_
    refine lv_aload_n hx hb dX7_carries_16 rfl (lv_at hl 0 rfl) ?_
    refine va_get (D := D) (ci := 6) (v := .int cp) (C := RX7) (T := TX7) (N := 22) hx hb hts hinX7 hown hw.1 hR 0 rfl rfl 12 (by decide) (hts (.fieldLink RX7 124 "WheelSwingModel" "place" "I") (by decide +kernel)) (fun _ h9 => h9) rfl dX7_carries_17 ?_
    refine lv_imul hx hb dX7_carries_20 ?_
    refine lv_sipush (v := 1000) hx hb dX7_carries_21 (by decide) ?_
    refine lv_idiv hx hb dX7_carries_24 (by decide) ?_
    refine lv_istore_n (lv' := [(2, .int ((ct * cp) / 1000)), (0, .ref mo), (1, .int wh)]) hx hb dX7_carries_25 rfl hl (by decide) rfl (fun ls hl => ?_)
    refine lv_iload_n hx hb dX7_carries_26 rfl (lv_at hl 2 rfl) ?_
    refine lv_iconst (v := 2) hx hb dX7_carries_27 (by decide) ?_
    refine lv_icmp_ge (tgt := 40) hx hb dX7_carries_28 (by decide) (fun c5 => ?_) (fun c5 => ?_)
    · have iw6 := Int32.not_lt.mpr c5
      refine lv_iload_n hx hb dX7_carries_40 rfl (lv_at hl 0 rfl) ?_
      refine lv_istore_n (lv' := [(3, .int ((ct * cp) / 1000)), (2, .int ((ct * cp) / 1000)), (0, .ref mo), (1, .int wh)]) hx hb dX7_carries_41 rfl hl (by decide) rfl (fun ls hl => ?_)
      refine lv_aload_n hx hb dX7_carries_42 rfl (lv_at hl 2 rfl) ?_
      refine va_get (D := D) (ci := 6) (v := .int ctr) (C := RX7) (T := TX7) (N := 22) hx hb hts hinX7 hown hw.1 hR 0 rfl rfl 14 (by decide) (hts (.fieldLink RX7 131 "WheelSwingModel" "push" "I") (by decide +kernel)) (fun _ h9 => h9) rfl dX7_carries_43 ?_
      refine lv_aload_n hx hb dX7_carries_46 rfl (lv_at hl 2 rfl) ?_
      refine va_get (D := D) (ci := 6) (v := .int cfs) (C := RX7) (T := TX7) (N := 22) hx hb hts hinX7 hown hw.1 hR 0 rfl rfl 15 (by decide) (hts (.fieldLink RX7 134 "WheelSwingModel" "share" "I") (by decide +kernel)) (fun _ h9 => h9) rfl dX7_carries_47 ?_
      refine lv_imul hx hb dX7_carries_50 ?_
      refine lv_sipush (v := 1000) hx hb dX7_carries_51 (by decide) ?_
      refine lv_idiv hx hb dX7_carries_54 (by decide) ?_
      refine lv_istore (lv' := [(4, .int ((ctr * cfs) / 1000)), (3, .int ((ct * cp) / 1000)), (2, .int ((ct * cp) / 1000)), (0, .ref mo), (1, .int wh)]) hx hb dX7_carries_55 hl (by decide) rfl (fun ls hl => ?_)
      refine lv_iload_n hx hb dX7_carries_57 rfl (lv_at hl 1 rfl) ?_
      refine lv_sipush (v := 500) hx hb dX7_carries_58 (by decide) ?_
      refine lv_aload_n hx hb dX7_carries_61 rfl (lv_at hl 3 rfl) ?_
      refine va_get (D := D) (ci := 6) (v := .int cr) (C := RX7) (T := TX7) (N := 22) hx hb hts hinX7 hown hw.1 hR 0 rfl rfl 13 (by decide) (hts (.fieldLink RX7 127 "WheelSwingModel" "toRight" "I") (by decide +kernel)) (fun _ h9 => h9) rfl dX7_carries_62 ?_
      refine lv_iadd hx hb dX7_carries_65 ?_
      refine lv_imul hx hb dX7_carries_66 ?_
      refine lv_sipush (v := 1000) hx hb dX7_carries_67 (by decide) ?_
      refine lv_idiv hx hb dX7_carries_70 (by decide) ?_
      refine lv_iload_n hx hb dX7_carries_71 rfl (lv_at hl 4 rfl) ?_
      refine lv_iconst (v := 2) hx hb dX7_carries_72 (by decide) ?_
      refine lv_icmp_ge (tgt := 81) hx hb dX7_carries_73 (by decide) (fun _ => ?_) (fun c8 => by first | exact absurd c8 c5 | exact absurd c5 c8)
      refine lv_aload_n hx hb dX7_carries_81 rfl (lv_at hl 3 rfl) ?_
      refine va_get (D := D) (ci := 6) (v := .int ctr) (C := RX7) (T := TX7) (N := 22) hx hb hts hinX7 hown hw.1 hR 0 rfl rfl 14 (by decide) (hts (.fieldLink RX7 131 "WheelSwingModel" "push" "I") (by decide +kernel)) (fun _ h9 => h9) rfl dX7_carries_82 ?_
      refine lv_iload hx hb dX7_carries_85 (lv_at hl 0 rfl) ?_
      refine lv_isub hx hb dX7_carries_87 ?_
      refine lv_iadd hx hb dX7_carries_88 ?_
      refine lv_istore (lv' := [(5, .int (((((ct * cp) / 1000) * (500 + cr)) / 1000) + (ctr - ((ctr * cfs) / 1000)))), (4, .int ((ctr * cfs) / 1000)), (3, .int ((ct * cp) / 1000)), (2, .int ((ct * cp) / 1000)), (0, .ref mo), (1, .int wh)]) hx hb dX7_carries_89 hl (by decide) rfl (fun ls hl => ?_)
      refine lv_iload_n hx hb dX7_carries_91 rfl (lv_at hl 5 rfl) ?_
      refine lv_iconst (v := 2) hx hb dX7_carries_92 (by decide) ?_
      refine lv_irem hx hb dX7_carries_93 (by decide) ?_
      rw [rem2 c4]
      refine lv_iconst (v := 1) hx hb dX7_carries_94 (by decide) ?_
      refine lv_icmp_ne (tgt := 103) hx hb dX7_carries_95 (by decide) (fun c9 => ?_) (fun c9 => ?_)
      · refine lv_iload_n hx hb dX7_carries_103 rfl (lv_at hl 2 rfl) ?_
        refine lv_iload hx hb dX7_carries_104 (lv_at hl 0 rfl) ?_
        refine lv_isub hx hb dX7_carries_106 ?_
        exact W.iret (v := ((ct * cp) / 1000) - (((((ct * cp) / 1000) * (500 + cr)) / 1000) + (ctr - ((ctr * cfs) / 1000)))) hx hb hr (fun t ht hW => ⟨⟨((ct * cp) / 1000) - (((((ct * cp) / 1000) * (500 + cr)) / 1000) + (ctr - ((ctr * cfs) / 1000))), (), rfl, (by dsimp only; rw [show isW wh 0 3 = true from (by simp [c4]), if_pos rfl]; unfold carL; rw [if_neg c9]; simp only [if_neg (Int32.not_lt.mpr c5)]), trivial⟩, hS.F ht⟩) hS.2.2 dX7_carries_107
      · refine lv_iload hx hb dX7_carries_98 (lv_at hl 0 rfl) ?_
        refine lv_goto (tgt := 107) hx hb dX7_carries_100 (by decide) ?_
        exact W.iret (v := ((((ct * cp) / 1000) * (500 + cr)) / 1000) + (ctr - ((ctr * cfs) / 1000))) hx hb hr (fun t ht hW => ⟨⟨((((ct * cp) / 1000) * (500 + cr)) / 1000) + (ctr - ((ctr * cfs) / 1000)), (), rfl, (by dsimp only; rw [show isW wh 0 3 = true from (by simp [c4]), if_pos rfl]; unfold carL; rw [if_pos (by first | exact c9 | exact Decidable.not_not.mp c9)]; simp only [if_neg (Int32.not_lt.mpr c5)]), trivial⟩, hS.F ht⟩) hS.2.2 dX7_carries_107
    · have iw10 := Int32.not_le.mp c5
      refine lv_aload_n hx hb dX7_carries_31 rfl (lv_at hl 1 rfl) ?_
      refine va_get (D := D) (ci := 6) (v := .int ct) (C := RX7) (T := TX7) (N := 22) hx hb hts hinX7 hown hw.1 hR 0 rfl rfl 11 (by decide) (hts (.fieldLink RX7 120 "WheelSwingModel" "heavy" "I") (by decide +kernel)) (fun _ h9 => h9) rfl dX7_carries_32 ?_
      refine lv_iload_n hx hb dX7_carries_35 rfl (lv_at hl 0 rfl) ?_
      refine lv_isub hx hb dX7_carries_36 ?_
      refine lv_goto (tgt := 41) hx hb dX7_carries_37 (by decide) ?_
      refine lv_istore_n (lv' := [(3, .int (ct - ((ct * cp) / 1000))), (2, .int ((ct * cp) / 1000)), (0, .ref mo), (1, .int wh)]) hx hb dX7_carries_41 rfl hl (by decide) rfl (fun ls hl => ?_)
      refine lv_aload_n hx hb dX7_carries_42 rfl (lv_at hl 2 rfl) ?_
      refine va_get (D := D) (ci := 6) (v := .int ctr) (C := RX7) (T := TX7) (N := 22) hx hb hts hinX7 hown hw.1 hR 0 rfl rfl 14 (by decide) (hts (.fieldLink RX7 131 "WheelSwingModel" "push" "I") (by decide +kernel)) (fun _ h9 => h9) rfl dX7_carries_43 ?_
      refine lv_aload_n hx hb dX7_carries_46 rfl (lv_at hl 2 rfl) ?_
      refine va_get (D := D) (ci := 6) (v := .int cfs) (C := RX7) (T := TX7) (N := 22) hx hb hts hinX7 hown hw.1 hR 0 rfl rfl 15 (by decide) (hts (.fieldLink RX7 134 "WheelSwingModel" "share" "I") (by decide +kernel)) (fun _ h9 => h9) rfl dX7_carries_47 ?_
      refine lv_imul hx hb dX7_carries_50 ?_
      refine lv_sipush (v := 1000) hx hb dX7_carries_51 (by decide) ?_
      refine lv_idiv hx hb dX7_carries_54 (by decide) ?_
      refine lv_istore (lv' := [(4, .int ((ctr * cfs) / 1000)), (3, .int (ct - ((ct * cp) / 1000))), (2, .int ((ct * cp) / 1000)), (0, .ref mo), (1, .int wh)]) hx hb dX7_carries_55 hl (by decide) rfl (fun ls hl => ?_)
      refine lv_iload_n hx hb dX7_carries_57 rfl (lv_at hl 1 rfl) ?_
      refine lv_sipush (v := 500) hx hb dX7_carries_58 (by decide) ?_
      refine lv_aload_n hx hb dX7_carries_61 rfl (lv_at hl 3 rfl) ?_
      refine va_get (D := D) (ci := 6) (v := .int cr) (C := RX7) (T := TX7) (N := 22) hx hb hts hinX7 hown hw.1 hR 0 rfl rfl 13 (by decide) (hts (.fieldLink RX7 127 "WheelSwingModel" "toRight" "I") (by decide +kernel)) (fun _ h9 => h9) rfl dX7_carries_62 ?_
      refine lv_iadd hx hb dX7_carries_65 ?_
      refine lv_imul hx hb dX7_carries_66 ?_
      refine lv_sipush (v := 1000) hx hb dX7_carries_67 (by decide) ?_
      refine lv_idiv hx hb dX7_carries_70 (by decide) ?_
      refine lv_iload_n hx hb dX7_carries_71 rfl (lv_at hl 4 rfl) ?_
      refine lv_iconst (v := 2) hx hb dX7_carries_72 (by decide) ?_
      refine lv_icmp_ge (tgt := 81) hx hb dX7_carries_73 (by decide) (fun c12 => by first | exact absurd c12 c5 | exact absurd c5 c12) (fun _ => ?_)
      refine lv_iload hx hb dX7_carries_76 (lv_at hl 0 rfl) ?_
      refine lv_goto (tgt := 88) hx hb dX7_carries_78 (by decide) ?_
      refine lv_iadd hx hb dX7_carries_88 ?_
      refine lv_istore (lv' := [(5, .int ((((ct - ((ct * cp) / 1000)) * (500 + cr)) / 1000) + ((ctr * cfs) / 1000))), (4, .int ((ctr * cfs) / 1000)), (3, .int (ct - ((ct * cp) / 1000))), (2, .int ((ct * cp) / 1000)), (0, .ref mo), (1, .int wh)]) hx hb dX7_carries_89 hl (by decide) rfl (fun ls hl => ?_)
      refine lv_iload_n hx hb dX7_carries_91 rfl (lv_at hl 5 rfl) ?_
      refine lv_iconst (v := 2) hx hb dX7_carries_92 (by decide) ?_
      refine lv_irem hx hb dX7_carries_93 (by decide) ?_
      rw [rem2 c4]
      refine lv_iconst (v := 1) hx hb dX7_carries_94 (by decide) ?_
      refine lv_icmp_ne (tgt := 103) hx hb dX7_carries_95 (by decide) (fun c13 => ?_) (fun c13 => ?_)
      · refine lv_iload_n hx hb dX7_carries_103 rfl (lv_at hl 2 rfl) ?_
        refine lv_iload hx hb dX7_carries_104 (lv_at hl 0 rfl) ?_
        refine lv_isub hx hb dX7_carries_106 ?_
        exact W.iret (v := (ct - ((ct * cp) / 1000)) - ((((ct - ((ct * cp) / 1000)) * (500 + cr)) / 1000) + ((ctr * cfs) / 1000))) hx hb hr (fun t ht hW => ⟨⟨(ct - ((ct * cp) / 1000)) - ((((ct - ((ct * cp) / 1000)) * (500 + cr)) / 1000) + ((ctr * cfs) / 1000)), (), rfl, (by dsimp only; rw [show isW wh 0 3 = true from (by simp [c4]), if_pos rfl]; unfold carL; rw [if_neg c13]; simp only [if_pos (Int32.not_le.mp c5)]), trivial⟩, hS.F ht⟩) hS.2.2 dX7_carries_107
      · refine lv_iload hx hb dX7_carries_98 (lv_at hl 0 rfl) ?_
        refine lv_goto (tgt := 107) hx hb dX7_carries_100 (by decide) ?_
        exact W.iret (v := (((ct - ((ct * cp) / 1000)) * (500 + cr)) / 1000) + ((ctr * cfs) / 1000)) hx hb hr (fun t ht hW => ⟨⟨(((ct - ((ct * cp) / 1000)) * (500 + cr)) / 1000) + ((ctr * cfs) / 1000), (), rfl, (by dsimp only; rw [show isW wh 0 3 = true from (by simp [c4]), if_pos rfl]; unfold carL; rw [if_pos (by first | exact c13 | exact Decidable.not_not.mp c13)]; simp only [if_pos (Int32.not_le.mp c5)]), trivial⟩, hS.F ht⟩) hS.2.2 dX7_carries_107
  · have c4 := bI_e.mp c4
    refine lv_ldc hx hb hown (hts (.constant RX7 136 (-2000000)) (by decide +kernel)) dX7_carries_9 ?_
    exact W.iret (v := (-2000000)) hx hb hr (fun t ht hW => ⟨⟨(-2000000), (), rfl, (by dsimp only; rw [show isW wh 0 3 = false from (by simp [c4]), if_neg (by decide)]), trivial⟩, hS.F ht⟩) hS.2.2 dX7_carries_11
theorem nI_eqn {k n : Nat} (h : ¬ nI k = nI n) (hk : k ≤ n) : k < n := by
  rcases Nat.lt_or_ge k n with h1 | h1
  · exact h1
  · exact absurd (by rw [show k = n by omega]) h
set_option maxHeartbeats 4000000 in
set_option maxRecDepth 100000 in
theorem mX7_shim (l : Launch) (D : va_G) (cI cH : ClassId) (mo nu sh ra rr k k2 : Nat) (ct cp cr ctr cfs : Int32) (p0 p1 p2 p3 p4 p5 p6 p7 p8 p9 po : UInt64) (ft : Nat → Int32) (v : Int32)  (hk : k ≤ 10) (hne : sh ≠ mo) : Met l yX7_shim wsX7_shim ({ frames := 1, cells := 0, slots := 0, locals := 22 }) (va_Pc [.ref mo, .int v] (kB D cI cH [(mo, .inr (6, [.ref nu, .double p0, .double p1, .double p2, .double p3, .double p4, .double p5, .double p6, .double p7, .double p8, .double p9, .int ct, .int cp, .int cr, .int ctr, .int cfs, .int (nI k), .ref sh, .int (nI k2), .ref ra, .ref rr, .double po])), (sh, .inl (cI, 10, .inl ft))])) (va_Qi (fun (r : Int32) (u : List Value × (Nat → Int32)) => if isW v 1 500 then (if k < 10 then r = nI k ∧ isM nu sh ra rr (k + 1) k2 ct cp cr ctr cfs u.1 ∧ u.2 = upd ft k v else r = -4 ∧ isM nu sh ra rr k k2 ct cp cr ctr cfs u.1 ∧ u.2 = ft) else r = -2 ∧ isM nu sh ra rr k k2 ct cp cr ctr cfs u.1 ∧ u.2 = ft) (fun u t => va_at D vwCl (mo, .inr (6, u.1)) t.heap ∧ va_at D vwCl (sh, .inl (cI, 10, .inl u.2)) t.heap) (aE2 mo sh)) 0 0 (aE2 mo sh) := by
  refine Met.ofW (cc := cX7_shim) (maxL := 2) (ret := (some .int)) (by decide) rfl ?_
  intro p e s m args below meth co s₁ B hml hv
  obtain ⟨rfl, hP0, hw⟩ := hv
  have hx := B.exec
  have hb := B.bytes
  have hr := B.returns
  have hts := atoms_spec (ws := wsX7_shim) B.pre
  have hown : s.vm.findClass RX7 = some m.cls := findClass_of_methodNamed B.named
  have hlocks := B.notSynchronized
  have hinX7 : ∀ w ∈ wsX70, w ∈ wsX7_shim := by decide +kernel
  have hS : va_S (aE2 mo sh) s.heap s.heap [] := va_S.rf
  have hP : va_P D vwCl [(mo, .inr (6, [.ref nu, .double p0, .double p1, .double p2, .double p3, .double p4, .double p5, .double p6, .double p7, .double p8, .double p9, .int ct, .int cp, .int cr, .int ctr, .int cfs, .int (nI k), .ref sh, .int (nI k2), .ref ra, .ref rr, .double po])), (sh, .inl (cI, 10, .inl ft))] s.heap := hP0.sub [0, 1] rfl
  have hD : va_D (aE2 mo sh) [(mo, .inr (6, [.ref nu, .double p0, .double p1, .double p2, .double p3, .double p4, .double p5, .double p6, .double p7, .double p8, .double p9, .int ct, .int cp, .int cr, .int ctr, .int cfs, .int (nI k), .ref sh, .int (nI k2), .ref ra, .ref rr, .double po])), (sh, .inl (cI, 10, .inl ft))] := D_cons (Or.inl rfl) (D_1 (Or.inr rfl)) (nn_1 hne nn_0)
  have hl := lv_entry ([.ref mo, .int v]) (n := 2) (Nat.le_of_ble_eq_true rfl)
  rw [lg_entry_eq]
  generalize (lg_sl ([.ref mo, .int v]) ++ List.replicate (2 - (lg_sl ([.ref mo, .int v])).length) Slot.unset).toArray = ls at hl ⊢
  have hl : lv_has ls 2 [(0, .ref mo), (1, .int v)] := hl
  skip
  refine lv_iload_n hx hb dX7_shim_0 rfl (lv_at hl 1 rfl) ?_
  refine lv_iconst (v := 1) hx hb dX7_shim_1 (by decide) ?_
  refine lv_sipush (v := 500) hx hb dX7_shim_2 (by decide) ?_
  refine va_calli (va_runS (As := [.int v, .int 1, .int 500]) (rest := []) ⟨hx, hb, hml, hown, hts⟩ (mX7_in l v 1 500) (va_cwS 3 hts gX7_shim_X7_in rfl rfl rfl (by decide +kernel) ⟨Nat.le_of_ble_eq_true rfl, Nat.le_of_ble_eq_true rfl⟩) ⟨tB_blind, tB_go⟩ rfl rfl hl.1 rfl (lv_room (Nat.le_of_ble_eq_true rfl)) dX7_shim_5 ⟨Nat.le_of_ble_eq_true rfl, Nat.le_of_ble_eq_true rfl⟩) hS (fun q _ h => h.elim) (fun q h => h.elim) (fun r1 u2 t H locs ht hvm hp3 hB hz1 hk1 hS => ?_)
  have hP := fr_keep hP hk1 fr_nA
  subst hp3
  refine lv_if_ne (tgt := 14) hx hb dX7_shim_8 (by decide) (fun c4 => ?_) (fun c4 => ?_)
  · have c4 := bI_n.mp c4
    refine lv_aload_n hx hb dX7_shim_14 rfl (lv_at hl 0 rfl) ?_
    refine va_get (D := D) (ci := 6) (v := .int (nI k)) (C := RX7) (T := TX7) (N := 22) hx hb hts hinX7 hown hw.1 hP 0 rfl rfl 16 (by decide) (hts (.fieldLink RX7 137 "WheelSwingModel" "shims" "I") (by decide +kernel)) (fun _ h9 => h9) rfl dX7_shim_15 ?_
    refine lv_bipush (v := 10) hx hb dX7_shim_18 (by decide) ?_
    refine lv_icmp_ne (tgt := 26) hx hb dX7_shim_20 (by decide) (fun c5 => ?_) (fun c5 => ?_)
    · refine lv_aload_n hx hb dX7_shim_26 rfl (lv_at hl 0 rfl) ?_
      refine va_get (D := D) (ci := 6) (v := .ref sh) (C := RX7) (T := TX7) (N := 22) hx hb hts hinX7 hown hw.1 hP 0 rfl rfl 17 (by decide) (hts (.fieldLink RX7 25 "WheelSwingModel" "shim" "[I") (by decide +kernel)) (fun _ h9 => h9) rfl dX7_shim_27 ?_
      refine lv_aload_n hx hb dX7_shim_30 rfl (lv_at hl 0 rfl) ?_
      refine va_get (D := D) (ci := 6) (v := .int (nI k)) (C := RX7) (T := TX7) (N := 22) hx hb hts hinX7 hown hw.1 hP 0 rfl rfl 16 (by decide) (hts (.fieldLink RX7 137 "WheelSwingModel" "shims" "I") (by decide +kernel)) (fun _ h9 => h9) rfl dX7_shim_31 ?_
      refine lv_iload_n hx hb dX7_shim_34 rfl (lv_at hl 1 rfl) ?_
      refine va_iast hx hb hw.1 hP hD hS 1 0 rfl rfl (vp_in_nI (nI_eqn (n := 10) c5 hk) (by omega)) dX7_shim_35 (fun H locs hP hD hS => ?_)
      have hP : va_P D vwCl [(mo, .inr (6, [.ref nu, .double p0, .double p1, .double p2, .double p3, .double p4, .double p5, .double p6, .double p7, .double p8, .double p9, .int ct, .int cp, .int cr, .int ctr, .int cfs, .int (nI k), .ref sh, .int (nI k2), .ref ra, .ref rr, .double po])), (sh, .inl (cI, 10, .inl (upd ft (nI k).toNatClampNeg v)))] H := hP
      have hD : va_D (aE2 mo sh) [(mo, .inr (6, [.ref nu, .double p0, .double p1, .double p2, .double p3, .double p4, .double p5, .double p6, .double p7, .double p8, .double p9, .int ct, .int cp, .int cr, .int ctr, .int cfs, .int (nI k), .ref sh, .int (nI k2), .ref ra, .ref rr, .double po])), (sh, .inl (cI, 10, .inl (upd ft (nI k).toNatClampNeg v)))] := hD
      refine lv_aload_n hx hb dX7_shim_36 rfl (lv_at hl 0 rfl) ?_
      refine lv_dup hx hb dX7_shim_37 rfl ?_
      refine va_get (D := D) (ci := 6) (v := .int (nI k)) (C := RX7) (T := TX7) (N := 22) hx hb hts hinX7 hown hw.1 hP 0 rfl rfl 16 (by decide) (hts (.fieldLink RX7 137 "WheelSwingModel" "shims" "I") (by decide +kernel)) (fun _ h9 => h9) rfl dX7_shim_38 ?_
      refine lv_iconst (v := 1) hx hb dX7_shim_41 (by decide) ?_
      refine lv_iadd hx hb dX7_shim_42 ?_
      refine va_put (D := D) (ci := 6) (v := .int ((nI k) + 1)) (ty := .int) (C := RX7) (T := TX7) (N := 22) hx hb hts hinX7 tyX7 tyX7_ok nmX7 hown hw.1 hP hD hS 0 rfl rfl 16 (by decide) (hts (.fieldLink RX7 137 "WheelSwingModel" "shims" "I") (by decide +kernel)) (fun _ h9 => h9) rfl (by decide +kernel) rfl rfl (Nat.le_of_ble_eq_true rfl) dX7_shim_43 (fun H locs hP hD hS => ?_)
      have hP : va_P D vwCl [(mo, .inr (6, [.ref nu, .double p0, .double p1, .double p2, .double p3, .double p4, .double p5, .double p6, .double p7, .double p8, .double p9, .int ct, .int cp, .int cr, .int ctr, .int cfs, .int ((nI k) + 1), .ref sh, .int (nI k2), .ref ra, .ref rr, .double po])), (sh, .inl (cI, 10, .inl (upd ft (nI k).toNatClampNeg v)))] H := hP
      have hD : va_D (aE2 mo sh) [(mo, .inr (6, [.ref nu, .double p0, .double p1, .double p2, .double p3, .double p4, .double p5, .double p6, .double p7, .double p8, .double p9, .int ct, .int cp, .int cr, .int ctr, .int cfs, .int ((nI k) + 1), .ref sh, .int (nI k2), .ref ra, .ref rr, .double po])), (sh, .inl (cI, 10, .inl (upd ft (nI k).toNatClampNeg v)))] := hD
      refine lv_aload_n hx hb dX7_shim_46 rfl (lv_at hl 0 rfl) ?_
      refine va_get (D := D) (ci := 6) (v := .int ((nI k) + 1)) (C := RX7) (T := TX7) (N := 22) hx hb hts hinX7 hown hw.1 hP 0 rfl rfl 16 (by decide) (hts (.fieldLink RX7 137 "WheelSwingModel" "shims" "I") (by decide +kernel)) (fun _ h9 => h9) rfl dX7_shim_47 ?_
      refine lv_iconst (v := 1) hx hb dX7_shim_50 (by decide) ?_
      refine lv_isub hx hb dX7_shim_51 ?_
      exact W.iret (v := ((nI k) + 1) - 1) hx hb hr (fun t ht hW => ⟨⟨((nI k) + 1) - 1, ([.ref nu, .double p0, .double p1, .double p2, .double p3, .double p4, .double p5, .double p6, .double p7, .double p8, .double p9, .int ct, .int cp, .int cr, .int ctr, .int cfs, .int ((nI k) + 1), .ref sh, .int (nI k2), .ref ra, .ref rr, .double po], (upd ft (nI k).toNatClampNeg v)), rfl, (by dsimp only; rw [show (isW v 1 500) = true from (by simp [c4]), if_pos rfl]; rw [if_pos (nI_eqn (n := 10) c5 hk)]; exact ⟨by rw [nI_1]; exact nI_pred k, ⟨_, _, _, _, _, _, _, _, _, _, _, by rw [nI_1]⟩, by rw [nI_clamp (by omega)]⟩), at_heap ht (hP 0 _ rfl), at_heap ht (hP 1 _ rfl)⟩, hS.F ht⟩) hS.2.2 dX7_shim_52
    · refine lv_bipush (v := (-4)) hx hb dX7_shim_23 (by decide) ?_
      exact W.iret (v := (-4)) hx hb hr (fun t ht hW => ⟨⟨(-4), ([.ref nu, .double p0, .double p1, .double p2, .double p3, .double p4, .double p5, .double p6, .double p7, .double p8, .double p9, .int ct, .int cp, .int cr, .int ctr, .int cfs, .int (nI k), .ref sh, .int (nI k2), .ref ra, .ref rr, .double po], ft), rfl, (by dsimp only; rw [show (isW v 1 500) = true from (by simp [c4]), if_pos rfl]; rw [if_neg (fun hc => by have hq := (by first | exact c5 | exact Decidable.not_not.mp c5 : nI k = nI 10); exact absurd ((nI_eq (by omega) (by omega)).mp hq) (by omega))]; exact ⟨rfl, ⟨_, _, _, _, _, _, _, _, _, _, _, rfl⟩, rfl⟩), at_heap ht (hP 0 _ rfl), at_heap ht (hP 1 _ rfl)⟩, hS.F ht⟩) hS.2.2 dX7_shim_25
  · have c4 := bI_e.mp c4
    refine lv_bipush (v := (-2)) hx hb dX7_shim_11 (by decide) ?_
    exact W.iret (v := (-2)) hx hb hr (fun t ht hW => ⟨⟨(-2), ([.ref nu, .double p0, .double p1, .double p2, .double p3, .double p4, .double p5, .double p6, .double p7, .double p8, .double p9, .int ct, .int cp, .int cr, .int ctr, .int cfs, .int (nI k), .ref sh, .int (nI k2), .ref ra, .ref rr, .double po], ft), rfl, (by dsimp only; rw [show (isW v 1 500) = false from (by simp [c4]), if_neg (by decide)]; exact ⟨rfl, ⟨_, _, _, _, _, _, _, _, _, _, _, rfl⟩, rfl⟩), at_heap ht (hP 0 _ rfl), at_heap ht (hP 1 _ rfl)⟩, hS.F ht⟩) hS.2.2 dX7_shim_13
set_option maxHeartbeats 4000000 in
set_option maxRecDepth 100000 in
theorem mX7_reading (l : Launch) (D : va_G) (cI cH : ClassId) (mo nu sh ra rr k k2 : Nat) (ct cp cr ctr cfs : Int32) (p0 p1 p2 p3 p4 p5 p6 p7 p8 p9 po : UInt64) (f1 f2 : Nat → Int32) (y v : Int32)  (hkk : k2 ≤ 12) (hra : ra ≠ mo) (hrr : rr ≠ mo) (hrx : rr ≠ ra) : Met l yX7_reading wsX7_reading ({ frames := 2, cells := 0, slots := 0, locals := 42 }) (va_Pc [.ref mo, .int y, .int v] (kB D cI cH [(mo, .inr (6, [.ref nu, .double p0, .double p1, .double p2, .double p3, .double p4, .double p5, .double p6, .double p7, .double p8, .double p9, .int ct, .int cp, .int cr, .int ctr, .int cfs, .int (nI k), .ref sh, .int (nI k2), .ref ra, .ref rr, .double po])), (ra, .inl (cI, 12, .inl f1)), (rr, .inl (cI, 12, .inl f2))])) (va_Qi (fun (r : Int32) (u : List Value × (Nat → Int32) × (Nat → Int32)) => if okC y && isW v (-5000) 5000 then (if k2 < 12 then r = nI k2 ∧ isM nu sh ra rr k (k2 + 1) ct cp cr ctr cfs u.1 ∧ u.2.1 = upd f1 k2 y ∧ u.2.2 = upd f2 k2 v else r = -4 ∧ isM nu sh ra rr k k2 ct cp cr ctr cfs u.1 ∧ u.2.1 = f1 ∧ u.2.2 = f2) else r = -2 ∧ isM nu sh ra rr k k2 ct cp cr ctr cfs u.1 ∧ u.2.1 = f1 ∧ u.2.2 = f2) (fun u t => va_at D vwCl (mo, .inr (6, u.1)) t.heap ∧ va_at D vwCl (ra, .inl (cI, 12, .inl u.2.1)) t.heap ∧ va_at D vwCl (rr, .inl (cI, 12, .inl u.2.2)) t.heap) (aE3 mo ra rr)) 0 0 (aE3 mo ra rr) := by
  refine Met.ofW (cc := cX7_reading) (maxL := 3) (ret := (some .int)) (by decide) rfl ?_
  intro p e s m args below meth co s₁ B hml hv
  obtain ⟨rfl, hP0, hw⟩ := hv
  have hx := B.exec
  have hb := B.bytes
  have hr := B.returns
  have hts := atoms_spec (ws := wsX7_reading) B.pre
  have hown : s.vm.findClass RX7 = some m.cls := findClass_of_methodNamed B.named
  have hlocks := B.notSynchronized
  have hinX7 : ∀ w ∈ wsX70, w ∈ wsX7_reading := by decide +kernel
  have hS : va_S (aE3 mo ra rr) s.heap s.heap [] := va_S.rf
  have hP : va_P D vwCl [(mo, .inr (6, [.ref nu, .double p0, .double p1, .double p2, .double p3, .double p4, .double p5, .double p6, .double p7, .double p8, .double p9, .int ct, .int cp, .int cr, .int ctr, .int cfs, .int (nI k), .ref sh, .int (nI k2), .ref ra, .ref rr, .double po])), (ra, .inl (cI, 12, .inl f1)), (rr, .inl (cI, 12, .inl f2))] s.heap := hP0.sub [0, 1, 2] rfl
  have hD : va_D (aE3 mo ra rr) [(mo, .inr (6, [.ref nu, .double p0, .double p1, .double p2, .double p3, .double p4, .double p5, .double p6, .double p7, .double p8, .double p9, .int ct, .int cp, .int cr, .int ctr, .int cfs, .int (nI k), .ref sh, .int (nI k2), .ref ra, .ref rr, .double po])), (ra, .inl (cI, 12, .inl f1)), (rr, .inl (cI, 12, .inl f2))] := D_cons (Or.inl rfl) (D_cons (Or.inr (Or.inl rfl)) (D_1 (Or.inr (Or.inr rfl))) (nn_1 hrx nn_0)) (nn_1 hra (nn_1 hrr nn_0))
  have hl := lv_entry ([.ref mo, .int y, .int v]) (n := 3) (Nat.le_of_ble_eq_true rfl)
  rw [lg_entry_eq]
  generalize (lg_sl ([.ref mo, .int y, .int v]) ++ List.replicate (3 - (lg_sl ([.ref mo, .int y, .int v])).length) Slot.unset).toArray = ls at hl ⊢
  have hl : lv_has ls 3 [(0, .ref mo), (1, .int y), (2, .int v)] := hl
  skip
  refine lv_iload_n hx hb dX7_reading_0 rfl (lv_at hl 1 rfl) ?_
  refine va_calli (va_runS (As := [.int y]) (rest := []) ⟨hx, hb, hml, hown, hts⟩ (mX7_isAt l y) (va_cwS 1 hts gX7_reading_X7_isAt rfl rfl rfl (by decide +kernel) ⟨Nat.le_of_ble_eq_true rfl, Nat.le_of_ble_eq_true rfl⟩) ⟨tB_blind, tB_go⟩ rfl rfl hl.1 rfl (lv_room (Nat.le_of_ble_eq_true rfl)) dX7_reading_1 ⟨Nat.le_of_ble_eq_true rfl, Nat.le_of_ble_eq_true rfl⟩) hS (fun q _ h => h.elim) (fun q h => h.elim) (fun r1 u2 t H locs ht hvm hp3 hB hz1 hk1 hS => ?_)
  have hP := fr_keep hP hk1 fr_nA
  subst hp3
  refine lv_if_eq (tgt := 20) hx hb dX7_reading_4 (by decide) (fun c4 => ?_) (fun c4 => ?_)
  · have c4 := bI_e.mp c4
    refine lv_bipush (v := (-2)) hx hb dX7_reading_20 (by decide) ?_
    exact W.iret (v := (-2)) hx hb hr (fun t ht hW => ⟨⟨(-2), ([.ref nu, .double p0, .double p1, .double p2, .double p3, .double p4, .double p5, .double p6, .double p7, .double p8, .double p9, .int ct, .int cp, .int cr, .int ctr, .int cfs, .int (nI k), .ref sh, .int (nI k2), .ref ra, .ref rr, .double po], f1, f2), rfl, (by dsimp only; rw [show (okC y && isW v (-5000) 5000) = false from (by simp [c4]), if_neg (by decide)]; exact ⟨rfl, ⟨_, _, _, _, _, _, _, _, _, _, _, rfl⟩, rfl, rfl⟩), at_heap ht (hP 0 _ rfl), at_heap ht (hP 1 _ rfl), at_heap ht (hP 2 _ rfl)⟩, hS.F ht⟩) hS.2.2 dX7_reading_22
  · have c4 := bI_n.mp c4
    refine lv_iload_n hx hb dX7_reading_7 rfl (lv_at hl 2 rfl) ?_
    refine lv_sipush (v := (-5000)) hx hb dX7_reading_8 (by decide) ?_
    refine lv_sipush (v := 5000) hx hb dX7_reading_11 (by decide) ?_
    refine va_calli (va_runS (As := [.int v, .int ((-5000)), .int 5000]) (rest := []) ⟨hx, hb, hml, hown, hts⟩ (mX7_in l v ((-5000)) 5000) (va_cwS 3 hts gX7_reading_X7_in rfl rfl rfl (by decide +kernel) ⟨Nat.le_of_ble_eq_true rfl, Nat.le_of_ble_eq_true rfl⟩) ⟨tB_blind, tB_go⟩ rfl rfl hl.1 rfl (lv_room (Nat.le_of_ble_eq_true rfl)) dX7_reading_14 ⟨Nat.le_of_ble_eq_true rfl, Nat.le_of_ble_eq_true rfl⟩) hS (fun q _ h => h.elim) (fun q h => h.elim) (fun r5 u6 t H locs ht hvm hp7 hB hz1 hk1 hS => ?_)
    have hP := fr_keep hP hk1 fr_nA
    subst hp7
    refine lv_if_ne (tgt := 23) hx hb dX7_reading_17 (by decide) (fun c8 => ?_) (fun c8 => ?_)
    · have c8 := bI_n.mp c8
      refine lv_aload_n hx hb dX7_reading_23 rfl (lv_at hl 0 rfl) ?_
      refine va_get (D := D) (ci := 6) (v := .int (nI k2)) (C := RX7) (T := TX7) (N := 22) hx hb hts hinX7 hown hw.1 hP 0 rfl rfl 18 (by decide) (hts (.fieldLink RX7 140 "WheelSwingModel" "readings" "I") (by decide +kernel)) (fun _ h9 => h9) rfl dX7_reading_24 ?_
      refine lv_bipush (v := 12) hx hb dX7_reading_27 (by decide) ?_
      refine lv_icmp_ne (tgt := 35) hx hb dX7_reading_29 (by decide) (fun c9 => ?_) (fun c9 => ?_)
      · refine lv_aload_n hx hb dX7_reading_35 rfl (lv_at hl 0 rfl) ?_
        refine va_get (D := D) (ci := 6) (v := .ref ra) (C := RX7) (T := TX7) (N := 22) hx hb hts hinX7 hown hw.1 hP 0 rfl rfl 19 (by decide) (hts (.fieldLink RX7 28 "WheelSwingModel" "readAt" "[I") (by decide +kernel)) (fun _ h9 => h9) rfl dX7_reading_36 ?_
        refine lv_aload_n hx hb dX7_reading_39 rfl (lv_at hl 0 rfl) ?_
        refine va_get (D := D) (ci := 6) (v := .int (nI k2)) (C := RX7) (T := TX7) (N := 22) hx hb hts hinX7 hown hw.1 hP 0 rfl rfl 18 (by decide) (hts (.fieldLink RX7 140 "WheelSwingModel" "readings" "I") (by decide +kernel)) (fun _ h9 => h9) rfl dX7_reading_40 ?_
        refine lv_iload_n hx hb dX7_reading_43 rfl (lv_at hl 1 rfl) ?_
        refine va_iast hx hb hw.1 hP hD hS 1 0 rfl rfl (vp_in_nI (nI_eqn (n := 12) c9 hkk) (by omega)) dX7_reading_44 (fun H locs hP hD hS => ?_)
        have hP : va_P D vwCl [(mo, .inr (6, [.ref nu, .double p0, .double p1, .double p2, .double p3, .double p4, .double p5, .double p6, .double p7, .double p8, .double p9, .int ct, .int cp, .int cr, .int ctr, .int cfs, .int (nI k), .ref sh, .int (nI k2), .ref ra, .ref rr, .double po])), (ra, .inl (cI, 12, .inl (upd f1 (nI k2).toNatClampNeg y))), (rr, .inl (cI, 12, .inl f2))] H := hP
        have hD : va_D (aE3 mo ra rr) [(mo, .inr (6, [.ref nu, .double p0, .double p1, .double p2, .double p3, .double p4, .double p5, .double p6, .double p7, .double p8, .double p9, .int ct, .int cp, .int cr, .int ctr, .int cfs, .int (nI k), .ref sh, .int (nI k2), .ref ra, .ref rr, .double po])), (ra, .inl (cI, 12, .inl (upd f1 (nI k2).toNatClampNeg y))), (rr, .inl (cI, 12, .inl f2))] := hD
        refine lv_aload_n hx hb dX7_reading_45 rfl (lv_at hl 0 rfl) ?_
        refine va_get (D := D) (ci := 6) (v := .ref rr) (C := RX7) (T := TX7) (N := 22) hx hb hts hinX7 hown hw.1 hP 0 rfl rfl 20 (by decide) (hts (.fieldLink RX7 31 "WheelSwingModel" "read" "[I") (by decide +kernel)) (fun _ h9 => h9) rfl dX7_reading_46 ?_
        refine lv_aload_n hx hb dX7_reading_49 rfl (lv_at hl 0 rfl) ?_
        refine va_get (D := D) (ci := 6) (v := .int (nI k2)) (C := RX7) (T := TX7) (N := 22) hx hb hts hinX7 hown hw.1 hP 0 rfl rfl 18 (by decide) (hts (.fieldLink RX7 140 "WheelSwingModel" "readings" "I") (by decide +kernel)) (fun _ h9 => h9) rfl dX7_reading_50 ?_
        refine lv_iload_n hx hb dX7_reading_53 rfl (lv_at hl 2 rfl) ?_
        refine va_iast hx hb hw.1 hP hD hS 2 0 rfl rfl (vp_in_nI (nI_eqn (n := 12) c9 hkk) (by omega)) dX7_reading_54 (fun H locs hP hD hS => ?_)
        have hP : va_P D vwCl [(mo, .inr (6, [.ref nu, .double p0, .double p1, .double p2, .double p3, .double p4, .double p5, .double p6, .double p7, .double p8, .double p9, .int ct, .int cp, .int cr, .int ctr, .int cfs, .int (nI k), .ref sh, .int (nI k2), .ref ra, .ref rr, .double po])), (ra, .inl (cI, 12, .inl (upd f1 (nI k2).toNatClampNeg y))), (rr, .inl (cI, 12, .inl (upd f2 (nI k2).toNatClampNeg v)))] H := hP
        have hD : va_D (aE3 mo ra rr) [(mo, .inr (6, [.ref nu, .double p0, .double p1, .double p2, .double p3, .double p4, .double p5, .double p6, .double p7, .double p8, .double p9, .int ct, .int cp, .int cr, .int ctr, .int cfs, .int (nI k), .ref sh, .int (nI k2), .ref ra, .ref rr, .double po])), (ra, .inl (cI, 12, .inl (upd f1 (nI k2).toNatClampNeg y))), (rr, .inl (cI, 12, .inl (upd f2 (nI k2).toNatClampNeg v)))] := hD
        refine lv_aload_n hx hb dX7_reading_55 rfl (lv_at hl 0 rfl) ?_
        refine lv_dup hx hb dX7_reading_56 rfl ?_
        refine va_get (D := D) (ci := 6) (v := .int (nI k2)) (C := RX7) (T := TX7) (N := 22) hx hb hts hinX7 hown hw.1 hP 0 rfl rfl 18 (by decide) (hts (.fieldLink RX7 140 "WheelSwingModel" "readings" "I") (by decide +kernel)) (fun _ h9 => h9) rfl dX7_reading_57 ?_
        refine lv_iconst (v := 1) hx hb dX7_reading_60 (by decide) ?_
        refine lv_iadd hx hb dX7_reading_61 ?_
        refine va_put (D := D) (ci := 6) (v := .int ((nI k2) + 1)) (ty := .int) (C := RX7) (T := TX7) (N := 22) hx hb hts hinX7 tyX7 tyX7_ok nmX7 hown hw.1 hP hD hS 0 rfl rfl 18 (by decide) (hts (.fieldLink RX7 140 "WheelSwingModel" "readings" "I") (by decide +kernel)) (fun _ h9 => h9) rfl (by decide +kernel) rfl rfl (Nat.le_of_ble_eq_true rfl) dX7_reading_62 (fun H locs hP hD hS => ?_)
        have hP : va_P D vwCl [(mo, .inr (6, [.ref nu, .double p0, .double p1, .double p2, .double p3, .double p4, .double p5, .double p6, .double p7, .double p8, .double p9, .int ct, .int cp, .int cr, .int ctr, .int cfs, .int (nI k), .ref sh, .int ((nI k2) + 1), .ref ra, .ref rr, .double po])), (ra, .inl (cI, 12, .inl (upd f1 (nI k2).toNatClampNeg y))), (rr, .inl (cI, 12, .inl (upd f2 (nI k2).toNatClampNeg v)))] H := hP
        have hD : va_D (aE3 mo ra rr) [(mo, .inr (6, [.ref nu, .double p0, .double p1, .double p2, .double p3, .double p4, .double p5, .double p6, .double p7, .double p8, .double p9, .int ct, .int cp, .int cr, .int ctr, .int cfs, .int (nI k), .ref sh, .int ((nI k2) + 1), .ref ra, .ref rr, .double po])), (ra, .inl (cI, 12, .inl (upd f1 (nI k2).toNatClampNeg y))), (rr, .inl (cI, 12, .inl (upd f2 (nI k2).toNatClampNeg v)))] := hD
        refine lv_aload_n hx hb dX7_reading_65 rfl (lv_at hl 0 rfl) ?_
        refine va_get (D := D) (ci := 6) (v := .int ((nI k2) + 1)) (C := RX7) (T := TX7) (N := 22) hx hb hts hinX7 hown hw.1 hP 0 rfl rfl 18 (by decide) (hts (.fieldLink RX7 140 "WheelSwingModel" "readings" "I") (by decide +kernel)) (fun _ h9 => h9) rfl dX7_reading_66 ?_
        refine lv_iconst (v := 1) hx hb dX7_reading_69 (by decide) ?_
        refine lv_isub hx hb dX7_reading_70 ?_
        exact W.iret (v := ((nI k2) + 1) - 1) hx hb hr (fun t ht hW => ⟨⟨((nI k2) + 1) - 1, ([.ref nu, .double p0, .double p1, .double p2, .double p3, .double p4, .double p5, .double p6, .double p7, .double p8, .double p9, .int ct, .int cp, .int cr, .int ctr, .int cfs, .int (nI k), .ref sh, .int ((nI k2) + 1), .ref ra, .ref rr, .double po], (upd f1 (nI k2).toNatClampNeg y), (upd f2 (nI k2).toNatClampNeg v)), rfl, (by dsimp only; rw [show (okC y && isW v (-5000) 5000) = true from (by simp [c4, c8]), if_pos rfl]; rw [if_pos (nI_eqn (n := 12) c9 hkk)]; exact ⟨by rw [nI_1]; exact nI_pred k2, ⟨_, _, _, _, _, _, _, _, _, _, _, by rw [nI_1]⟩, by rw [nI_clamp (by omega)], by rw [nI_clamp (by omega)]⟩), at_heap ht (hP 0 _ rfl), at_heap ht (hP 1 _ rfl), at_heap ht (hP 2 _ rfl)⟩, hS.F ht⟩) hS.2.2 dX7_reading_71
      · refine lv_bipush (v := (-4)) hx hb dX7_reading_32 (by decide) ?_
        exact W.iret (v := (-4)) hx hb hr (fun t ht hW => ⟨⟨(-4), ([.ref nu, .double p0, .double p1, .double p2, .double p3, .double p4, .double p5, .double p6, .double p7, .double p8, .double p9, .int ct, .int cp, .int cr, .int ctr, .int cfs, .int (nI k), .ref sh, .int (nI k2), .ref ra, .ref rr, .double po], f1, f2), rfl, (by dsimp only; rw [show (okC y && isW v (-5000) 5000) = true from (by simp [c4, c8]), if_pos rfl]; rw [if_neg (fun hc => by have hq := (by first | exact c9 | exact Decidable.not_not.mp c9 : nI k2 = nI 12); exact absurd ((nI_eq (by omega) (by omega)).mp hq) (by omega))]; exact ⟨rfl, ⟨_, _, _, _, _, _, _, _, _, _, _, rfl⟩, rfl, rfl⟩), at_heap ht (hP 0 _ rfl), at_heap ht (hP 1 _ rfl), at_heap ht (hP 2 _ rfl)⟩, hS.F ht⟩) hS.2.2 dX7_reading_34
    · have c8 := bI_e.mp c8
      refine lv_bipush (v := (-2)) hx hb dX7_reading_20 (by decide) ?_
      exact W.iret (v := (-2)) hx hb hr (fun t ht hW => ⟨⟨(-2), ([.ref nu, .double p0, .double p1, .double p2, .double p3, .double p4, .double p5, .double p6, .double p7, .double p8, .double p9, .int ct, .int cp, .int cr, .int ctr, .int cfs, .int (nI k), .ref sh, .int (nI k2), .ref ra, .ref rr, .double po], f1, f2), rfl, (by dsimp only; rw [show (okC y && isW v (-5000) 5000) = false from (by simp [c4, c8]), if_neg (by decide)]; exact ⟨rfl, ⟨_, _, _, _, _, _, _, _, _, _, _, rfl⟩, rfl, rfl⟩), at_heap ht (hP 0 _ rfl), at_heap ht (hP 1 _ rfl), at_heap ht (hP 2 _ rfl)⟩, hS.F ht⟩) hS.2.2 dX7_reading_22
set_option maxHeartbeats 4000000 in
set_option maxRecDepth 100000 in
theorem mX7_clear (l : Launch) (D : va_G) (cI cH : ClassId) (mo nu sh ra rr k k2 : Nat) (ct cp cr ctr cfs : Int32) (p0 p1 p2 p3 p4 p5 p6 p7 p8 p9 po : UInt64)  : Met l yX7_clear wsX7_clear ({ frames := 0, cells := 0, slots := 0, locals := 0 }) (va_Pc [.ref mo] (kB D cI cH [(mo, .inr (6, [.ref nu, .double p0, .double p1, .double p2, .double p3, .double p4, .double p5, .double p6, .double p7, .double p8, .double p9, .int ct, .int cp, .int cr, .int ctr, .int cfs, .int (nI k), .ref sh, .int (nI k2), .ref ra, .ref rr, .double po]))])) (va_Qi (fun (r : Int32) (u : List Value) => r = nI k2 ∧ isM nu sh ra rr k 0 ct cp cr ctr cfs u) (fun u t => va_at D vwCl (mo, .inr (6, u)) t.heap) (aE mo)) 0 0 (aE mo) := by
  refine Met.ofW (cc := cX7_clear) (maxL := 2) (ret := (some .int)) (by decide) rfl ?_
  intro p e s m args below meth co s₁ B hml hv
  obtain ⟨rfl, hP0, hw⟩ := hv
  have hx := B.exec
  have hb := B.bytes
  have hr := B.returns
  have hts := atoms_spec (ws := wsX7_clear) B.pre
  have hown : s.vm.findClass RX7 = some m.cls := findClass_of_methodNamed B.named
  have hlocks := B.notSynchronized
  have hinX7 : ∀ w ∈ wsX70, w ∈ wsX7_clear := by decide +kernel
  have hS : va_S (aE mo) s.heap s.heap [] := va_S.rf
  have hP : va_P D vwCl [(mo, .inr (6, [.ref nu, .double p0, .double p1, .double p2, .double p3, .double p4, .double p5, .double p6, .double p7, .double p8, .double p9, .int ct, .int cp, .int cr, .int ctr, .int cfs, .int (nI k), .ref sh, .int (nI k2), .ref ra, .ref rr, .double po]))] s.heap := hP0.sub [0] rfl
  have hD : va_D (aE mo) [(mo, .inr (6, [.ref nu, .double p0, .double p1, .double p2, .double p3, .double p4, .double p5, .double p6, .double p7, .double p8, .double p9, .int ct, .int cp, .int cr, .int ctr, .int cfs, .int (nI k), .ref sh, .int (nI k2), .ref ra, .ref rr, .double po]))] := D_1 rfl
  have hl := lv_entry ([.ref mo]) (n := 2) (Nat.le_of_ble_eq_true rfl)
  rw [lg_entry_eq]
  generalize (lg_sl ([.ref mo]) ++ List.replicate (2 - (lg_sl ([.ref mo])).length) Slot.unset).toArray = ls at hl ⊢
  have hl : lv_has ls 2 [(0, .ref mo)] := hl
  skip
  refine lv_aload_n hx hb dX7_clear_0 rfl (lv_at hl 0 rfl) ?_
  refine va_get (D := D) (ci := 6) (v := .int (nI k2)) (C := RX7) (T := TX7) (N := 22) hx hb hts hinX7 hown hw.1 hP 0 rfl rfl 18 (by decide) (hts (.fieldLink RX7 140 "WheelSwingModel" "readings" "I") (by decide +kernel)) (fun _ h9 => h9) rfl dX7_clear_1 ?_
  refine lv_istore_n (lv' := [(1, .int (nI k2)), (0, .ref mo)]) hx hb dX7_clear_4 rfl hl (by decide) rfl (fun ls hl => ?_)
  refine lv_aload_n hx hb dX7_clear_5 rfl (lv_at hl 1 rfl) ?_
  refine lv_iconst (v := 0) hx hb dX7_clear_6 (by decide) ?_
  refine va_put (D := D) (ci := 6) (v := .int 0) (ty := .int) (C := RX7) (T := TX7) (N := 22) hx hb hts hinX7 tyX7 tyX7_ok nmX7 hown hw.1 hP hD hS 0 rfl rfl 18 (by decide) (hts (.fieldLink RX7 140 "WheelSwingModel" "readings" "I") (by decide +kernel)) (fun _ h9 => h9) rfl (by decide +kernel) rfl rfl (Nat.le_of_ble_eq_true rfl) dX7_clear_7 (fun H locs hP hD hS => ?_)
  have hP : va_P D vwCl [(mo, .inr (6, [.ref nu, .double p0, .double p1, .double p2, .double p3, .double p4, .double p5, .double p6, .double p7, .double p8, .double p9, .int ct, .int cp, .int cr, .int ctr, .int cfs, .int (nI k), .ref sh, .int 0, .ref ra, .ref rr, .double po]))] H := hP
  have hD : va_D (aE mo) [(mo, .inr (6, [.ref nu, .double p0, .double p1, .double p2, .double p3, .double p4, .double p5, .double p6, .double p7, .double p8, .double p9, .int ct, .int cp, .int cr, .int ctr, .int cfs, .int (nI k), .ref sh, .int 0, .ref ra, .ref rr, .double po]))] := hD
  refine lv_iload_n hx hb dX7_clear_10 rfl (lv_at hl 0 rfl) ?_
  exact W.iret (v := nI k2) hx hb hr (fun t ht hW => ⟨⟨nI k2, [.ref nu, .double p0, .double p1, .double p2, .double p3, .double p4, .double p5, .double p6, .double p7, .double p8, .double p9, .int ct, .int cp, .int cr, .int ctr, .int cfs, .int (nI k), .ref sh, .int 0, .ref ra, .ref rr, .double po], rfl, ⟨rfl, ⟨_, _, _, _, _, _, _, _, _, _, _, rfl⟩⟩, at_heap ht (hP 0 _ rfl)⟩, hS.F ht⟩) hS.2.2 dX7_clear_11
set_option maxHeartbeats 4000000 in
set_option maxRecDepth 100000 in
theorem mX7_count (l : Launch) (D : va_G) (cI cH : ClassId) (mo nu sh ra rr k k2 : Nat) (ct cp cr ctr cfs : Int32) (p0 p1 p2 p3 p4 p5 p6 p7 p8 p9 po : UInt64) (wt : Int32)  : Met l yX7_count wsX7_count ({ frames := 0, cells := 0, slots := 0, locals := 0 }) (va_Pc [.ref mo, .int wt] (kB D cI cH [(mo, .inr (6, [.ref nu, .double p0, .double p1, .double p2, .double p3, .double p4, .double p5, .double p6, .double p7, .double p8, .double p9, .int ct, .int cp, .int cr, .int ctr, .int cfs, .int (nI k), .ref sh, .int (nI k2), .ref ra, .ref rr, .double po]))])) (va_Qi (fun (r : Int32) (u : Unit) => r = cntF wt (nI k) (nI k2)) (fun _ _ => True) nA) 0 0 nA := by
  refine Met.ofW (cc := cX7_count) (maxL := 2) (ret := (some .int)) (by decide) rfl ?_
  intro p e s m args below meth co s₁ B hml hv
  obtain ⟨rfl, hP0, hw⟩ := hv
  have hx := B.exec
  have hb := B.bytes
  have hr := B.returns
  have hts := atoms_spec (ws := wsX7_count) B.pre
  have hown : s.vm.findClass RX7 = some m.cls := findClass_of_methodNamed B.named
  have hlocks := B.notSynchronized
  have hinX7 : ∀ w ∈ wsX70, w ∈ wsX7_count := by decide +kernel
  have hS : va_S nA s.heap s.heap [] := va_S.rf
  have hR0 : va_P D vwCl [(mo, .inr (6, [.ref nu, .double p0, .double p1, .double p2, .double p3, .double p4, .double p5, .double p6, .double p7, .double p8, .double p9, .int ct, .int cp, .int cr, .int ctr, .int cfs, .int (nI k), .ref sh, .int (nI k2), .ref ra, .ref rr, .double po]))] s.heap := hP0.sub [0] rfl
  have hR := hR0
  have hnr : ∀ (k9 : Nat) (q : Nat × va_E), ([(mo, .inr (6, [.ref nu, .double p0, .double p1, .double p2, .double p3, .double p4, .double p5, .double p6, .double p7, .double p8, .double p9, .int ct, .int cp, .int cr, .int ctr, .int cfs, .int (nI k), .ref sh, .int (nI k2), .ref ra, .ref rr, .double po]))] : va_W)[k9]? = some q → ¬ nA q.1 := fr_nA
  have hl := lv_entry ([.ref mo, .int wt]) (n := 2) (Nat.le_of_ble_eq_true rfl)
  rw [lg_entry_eq]
  generalize (lg_sl ([.ref mo, .int wt]) ++ List.replicate (2 - (lg_sl ([.ref mo, .int wt])).length) Slot.unset).toArray = ls at hl ⊢
  have hl : lv_has ls 2 [(0, .ref mo), (1, .int wt)] := hl
  skip
  refine lv_iload_n hx hb dX7_count_0 rfl (lv_at hl 1 rfl) ?_
  refine lv_if_ne (tgt := 11) hx hb dX7_count_1 (by decide) (fun c1 => ?_) (fun c1 => ?_)
  · refine lv_iload_n hx hb dX7_count_11 rfl (lv_at hl 1 rfl) ?_
    refine lv_iconst (v := 1) hx hb dX7_count_12 (by decide) ?_
    refine lv_icmp_ne (tgt := 23) hx hb dX7_count_13 (by decide) (fun c2 => ?_) (fun c2 => ?_)
    · refine lv_bipush (v := (-2)) hx hb dX7_count_23 (by decide) ?_
      exact W.iret (v := (-2)) hx hb hr (fun t ht hW => ⟨⟨(-2), (), rfl, (by dsimp only; unfold cntF; rw [if_neg c1, if_neg c2]), trivial⟩, hS.F ht⟩) hS.2.2 dX7_count_25
    · refine lv_aload_n hx hb dX7_count_16 rfl (lv_at hl 0 rfl) ?_
      refine va_get (D := D) (ci := 6) (v := .int (nI k2)) (C := RX7) (T := TX7) (N := 22) hx hb hts hinX7 hown hw.1 hR 0 rfl rfl 18 (by decide) (hts (.fieldLink RX7 140 "WheelSwingModel" "readings" "I") (by decide +kernel)) (fun _ h9 => h9) rfl dX7_count_17 ?_
      refine lv_goto (tgt := 25) hx hb dX7_count_20 (by decide) ?_
      exact W.iret (v := nI k2) hx hb hr (fun t ht hW => ⟨⟨nI k2, (), rfl, (by dsimp only; unfold cntF; rw [if_neg c1, if_pos (by first | exact c2 | exact Decidable.not_not.mp c2)]), trivial⟩, hS.F ht⟩) hS.2.2 dX7_count_25
  · refine lv_aload_n hx hb dX7_count_4 rfl (lv_at hl 0 rfl) ?_
    refine va_get (D := D) (ci := 6) (v := .int (nI k)) (C := RX7) (T := TX7) (N := 22) hx hb hts hinX7 hown hw.1 hR 0 rfl rfl 16 (by decide) (hts (.fieldLink RX7 137 "WheelSwingModel" "shims" "I") (by decide +kernel)) (fun _ h9 => h9) rfl dX7_count_5 ?_
    refine lv_goto (tgt := 25) hx hb dX7_count_8 (by decide) ?_
    exact W.iret (v := nI k) hx hb hr (fun t ht hW => ⟨⟨nI k, (), rfl, (by dsimp only; unfold cntF; rw [if_pos (by first | exact c1 | exact Decidable.not_not.mp c1)]), trivial⟩, hS.F ht⟩) hS.2.2 dX7_count_25
