/-! THE MODEL (X7): where a hanging stands; road, centre, spring -/
theorem nI_m13 {n : Nat} : 13 * nI n = nI (13 * n) := (Int32.ofNat_mul 13 n).symm
theorem nI_ad1 {n : Nat} : nI n + 1 = nI (n + 1) := nI_add n 1
theorem nI_ad2 {n : Nat} : nI n + 2 = nI (n + 2) := nI_add n 2
theorem nI_ad3 {n : Nat} : nI n + 3 = nI (n + 3) := nI_add n 3
theorem nI_ad4 {n : Nat} : nI n + 4 = nI (n + 4) := nI_add n 4
theorem nI_ad5 {n : Nat} : nI n + 5 = nI (n + 5) := nI_add n 5
theorem nI_ad6 {n : Nat} : nI n + 6 = nI (n + 6) := nI_add n 6
theorem nI_ad7 {n : Nat} : nI n + 7 = nI (n + 7) := nI_add n 7
theorem nI_ad8 {n : Nat} : nI n + 8 = nI (n + 8) := nI_add n 8
theorem nI_ad9 {n : Nat} : nI n + 9 = nI (n + 9) := nI_add n 9
theorem nI_ad10 {n : Nat} : nI n + 10 = nI (n + 10) := nI_add n 10
theorem nI_ad11 {n : Nat} : nI n + 11 = nI (n + 11) := nI_add n 11
theorem nI_ad12 {n : Nat} : nI n + 12 = nI (n + 12) := nI_add n 12
/-- the thirteen numbers of hanging q -/
def hasN (N : Nat → Int32) (q : Nat) (U V lx ly a b c sd g d sx sy f : Int32) : Prop := N (13 * q) = U ∧ N (13 * q + 1) = V ∧ N (13 * q + 2) = lx ∧ N (13 * q + 3) = ly ∧ N (13 * q + 4) = a ∧ N (13 * q + 5) = b ∧ N (13 * q + 6) = c ∧ N (13 * q + 7) = sd ∧ N (13 * q + 8) = g ∧ N (13 * q + 9) = d ∧ N (13 * q + 10) = sx ∧ N (13 * q + 11) = sy ∧ N (13 * q + 12) = f
def isM (nu sh ra rr k k2 : Nat) (ct cp cr ctr cfs : Int32) (u : List Value) : Prop := ∃ (x0 x1 x2 x3 x4 x5 x6 x7 x8 x9 xo : UInt64), u = [.ref nu, .double x0, .double x1, .double x2, .double x3, .double x4, .double x5, .double x6, .double x7, .double x8, .double x9, .int ct, .int cp, .int cr, .int ctr, .int cfs, .int (nI k), .ref sh, .int (nI k2), .ref ra, .ref rr, .double xo]
set_option maxHeartbeats 4000000 in
set_option maxRecDepth 100000 in
theorem mX7_poses (l : Launch) (D : va_G) (cI cH : ClassId) (mo nu sh ra rr k k2 q : Nat) (N : Nat → Int32) (ct cp cr ctr cfs : Int32) (p0 p1 p2 p3 p4 p5 p6 p7 p8 p9 po : UInt64) (U V lx ly a b c sd g d sx sy f : Int32) (y : Int32)  (hqq : q < 4) (hne : nu ≠ mo) (hN : hasN N q U V lx ly a b c sd g d sx sy f) (hh : pB U V lx ly a b c y) (hsd : sd = 1 ∨ sd = -1) : Met l yX7_poses wsX7_poses ({ frames := 1, cells := 0, slots := 0, locals := 35 }) (va_Pc [.ref mo, .int (nI q), .int y] (kB D cI cH [(mo, .inr (6, [.ref nu, .double p0, .double p1, .double p2, .double p3, .double p4, .double p5, .double p6, .double p7, .double p8, .double p9, .int ct, .int cp, .int cr, .int ctr, .int cfs, .int (nI k), .ref sh, .int (nI k2), .ref ra, .ref rr, .double po])), (nu, .inl (cI, 52, .inl N))])) (va_Qi (fun (r : Int32) (u : List Value) => (r = 1 ∧ tFree U V lx ly a b c y ∧ u = [.ref nu, .double (tPx lx ly b y), .double (FP.i2d y), .double (tQx U V lx ly a b c sd y), .double (tQy U V lx ly a b c sd y), .double (tVx U V lx ly a b c sd y), .double (tVy U V lx ly a b c sd y), .double p6, .double p7, .double p8, .double p9, .int ct, .int cp, .int cr, .int ctr, .int cfs, .int (nI k), .ref sh, .int (nI k2), .ref ra, .ref rr, .double po]) ∨ (r = 0 ∧ ¬ tFree U V lx ly a b c y ∧ isM nu sh ra rr k k2 ct cp cr ctr cfs u)) (fun u t => va_at D vwCl (mo, .inr (6, u)) t.heap) (aE mo)) 0 0 (aE mo) := by
  refine Met.ofW (cc := cX7_poses) (maxL := 21) (ret := (some .boolean)) (by decide) rfl ?_
  intro p e s m args below meth co s₁ B hml hv
  obtain ⟨rfl, hP0, hw⟩ := hv
  have hx := B.exec
  have hb := B.bytes
  have hr := B.returns
  have hts := atoms_spec (ws := wsX7_poses) B.pre
  have hown : s.vm.findClass RX7 = some m.cls := findClass_of_methodNamed B.named
  have hlocks := B.notSynchronized
  have hinX7 : ∀ w ∈ wsX70, w ∈ wsX7_poses := by decide +kernel
  have hS : va_S (aE mo) s.heap s.heap [] := va_S.rf
  have hP : va_P D vwCl [(mo, .inr (6, [.ref nu, .double p0, .double p1, .double p2, .double p3, .double p4, .double p5, .double p6, .double p7, .double p8, .double p9, .int ct, .int cp, .int cr, .int ctr, .int cfs, .int (nI k), .ref sh, .int (nI k2), .ref ra, .ref rr, .double po]))] s.heap := hP0.sub [0] rfl
  have hD : va_D (aE mo) [(mo, .inr (6, [.ref nu, .double p0, .double p1, .double p2, .double p3, .double p4, .double p5, .double p6, .double p7, .double p8, .double p9, .int ct, .int cp, .int cr, .int ctr, .int cfs, .int (nI k), .ref sh, .int (nI k2), .ref ra, .ref rr, .double po]))] := D_1 rfl
  have hR0 : va_P D vwCl [(nu, .inl (cI, 52, .inl N))] s.heap := hP0.sub [1] rfl
  have hR := hR0
  have hnr : ∀ (k9 : Nat) (q : Nat × va_E), ([(nu, .inl (cI, 52, .inl N))] : va_W)[k9]? = some q → ¬ (aE mo) q.1 := nn_1 hne nn_0
  obtain ⟨hN0, hN1, hN2, hN3, hN4, hN5, hN6, hN7, hN8, hN9, hN10, hN11, hN12⟩ := id hN
  obtain ⟨kU, kV, klx, kly, ka, kb, kc, ky⟩ := id hh
  have hl := lv_entry ([.ref mo, .int (nI q), .int y]) (n := 21) (Nat.le_of_ble_eq_true rfl)
  rw [lg_entry_eq]
  generalize (lg_sl ([.ref mo, .int (nI q), .int y]) ++ List.replicate (21 - (lg_sl ([.ref mo, .int (nI q), .int y])).length) Slot.unset).toArray = ls at hl ⊢
  have hl : lv_has ls 21 [(0, .ref mo), (1, .int (nI q)), (2, .int y)] := hl
  skip
  refine lv_bipush (v := 13) hx hb dX7_poses_0 (by decide) ?_
  refine lv_iload_n hx hb dX7_poses_2 rfl (lv_at hl 1 rfl) ?_
  refine lv_imul hx hb dX7_poses_3 ?_
  rw [nI_m13]
  refine lv_istore_n (lv' := [(3, .int (nI (13 * q))), (0, .ref mo), (1, .int (nI q)), (2, .int y)]) hx hb dX7_poses_4 rfl hl (by decide) rfl (fun ls hl => ?_)
  refine lv_aload_n hx hb dX7_poses_5 rfl (lv_at hl 1 rfl) ?_
  refine va_get (D := D) (ci := 6) (v := .ref nu) (C := RX7) (T := TX7) (N := 22) hx hb hts hinX7 hown hw.1 hP 0 rfl rfl 0 (by decide) (hts (.fieldLink RX7 19 "WheelSwingModel" "number" "[I") (by decide +kernel)) (fun _ h9 => h9) rfl dX7_poses_6 ?_
  refine lv_iload_n hx hb dX7_poses_9 rfl (lv_at hl 0 rfl) ?_
  refine lv_iconst (v := 4) hx hb dX7_poses_10 (by decide) ?_
  refine lv_iadd hx hb dX7_poses_11 ?_
  rw [nI_ad4]
  refine va_iald hx hb hw.1 hR 0 0 rfl rfl (vp_in_nI (by omega) (by omega)) dX7_poses_12 ?_
  rw [nI_clamp (n := 13 * q + 4) (by omega), hN4]
  refine lv_istore (lv' := [(4, .int a), (3, .int (nI (13 * q))), (0, .ref mo), (1, .int (nI q)), (2, .int y)]) hx hb dX7_poses_13 hl (by decide) rfl (fun ls hl => ?_)
  refine lv_aload_n hx hb dX7_poses_15 rfl (lv_at hl 2 rfl) ?_
  refine va_get (D := D) (ci := 6) (v := .ref nu) (C := RX7) (T := TX7) (N := 22) hx hb hts hinX7 hown hw.1 hP 0 rfl rfl 0 (by decide) (hts (.fieldLink RX7 19 "WheelSwingModel" "number" "[I") (by decide +kernel)) (fun _ h9 => h9) rfl dX7_poses_16 ?_
  refine lv_iload_n hx hb dX7_poses_19 rfl (lv_at hl 1 rfl) ?_
  refine lv_iconst (v := 5) hx hb dX7_poses_20 (by decide) ?_
  refine lv_iadd hx hb dX7_poses_21 ?_
  rw [nI_ad5]
  refine va_iald hx hb hw.1 hR 0 0 rfl rfl (vp_in_nI (by omega) (by omega)) dX7_poses_22 ?_
  rw [nI_clamp (n := 13 * q + 5) (by omega), hN5]
  refine lv_istore (lv' := [(5, .int b), (4, .int a), (3, .int (nI (13 * q))), (0, .ref mo), (1, .int (nI q)), (2, .int y)]) hx hb dX7_poses_23 hl (by decide) rfl (fun ls hl => ?_)
  refine lv_aload_n hx hb dX7_poses_25 rfl (lv_at hl 3 rfl) ?_
  refine va_get (D := D) (ci := 6) (v := .ref nu) (C := RX7) (T := TX7) (N := 22) hx hb hts hinX7 hown hw.1 hP 0 rfl rfl 0 (by decide) (hts (.fieldLink RX7 19 "WheelSwingModel" "number" "[I") (by decide +kernel)) (fun _ h9 => h9) rfl dX7_poses_26 ?_
  refine lv_iload_n hx hb dX7_poses_29 rfl (lv_at hl 2 rfl) ?_
  refine lv_bipush (v := 6) hx hb dX7_poses_30 (by decide) ?_
  refine lv_iadd hx hb dX7_poses_32 ?_
  rw [nI_ad6]
  refine va_iald hx hb hw.1 hR 0 0 rfl rfl (vp_in_nI (by omega) (by omega)) dX7_poses_33 ?_
  rw [nI_clamp (n := 13 * q + 6) (by omega), hN6]
  refine lv_istore (lv' := [(6, .int c), (5, .int b), (4, .int a), (3, .int (nI (13 * q))), (0, .ref mo), (1, .int (nI q)), (2, .int y)]) hx hb dX7_poses_34 hl (by decide) rfl (fun ls hl => ?_)
  refine lv_iload_n hx hb dX7_poses_36 rfl (lv_at hl 6 rfl) ?_
  refine lv_aload_n hx hb dX7_poses_37 rfl (lv_at hl 4 rfl) ?_
  refine va_get (D := D) (ci := 6) (v := .ref nu) (C := RX7) (T := TX7) (N := 22) hx hb hts hinX7 hown hw.1 hP 0 rfl rfl 0 (by decide) (hts (.fieldLink RX7 19 "WheelSwingModel" "number" "[I") (by decide +kernel)) (fun _ h9 => h9) rfl dX7_poses_38 ?_
  refine lv_iload_n hx hb dX7_poses_41 rfl (lv_at hl 3 rfl) ?_
  refine lv_iconst (v := 3) hx hb dX7_poses_42 (by decide) ?_
  refine lv_iadd hx hb dX7_poses_43 ?_
  rw [nI_ad3]
  refine va_iald hx hb hw.1 hR 0 0 rfl rfl (vp_in_nI (by omega) (by omega)) dX7_poses_44 ?_
  rw [nI_clamp (n := 13 * q + 3) (by omega), hN3]
  refine lv_isub hx hb dX7_poses_45 ?_
  refine lv_istore (lv' := [(7, .int (y - ly)), (6, .int c), (5, .int b), (4, .int a), (3, .int (nI (13 * q))), (0, .ref mo), (1, .int (nI q)), (2, .int y)]) hx hb dX7_poses_46 hl (by decide) rfl (fun ls hl => ?_)
  refine lv_iload hx hb dX7_poses_48 (lv_at hl 2 rfl) ?_
  refine lv_iload hx hb dX7_poses_50 (lv_at hl 2 rfl) ?_
  refine lv_imul hx hb dX7_poses_52 ?_
  refine lv_iload hx hb dX7_poses_53 (lv_at hl 0 rfl) ?_
  refine lv_iload hx hb dX7_poses_55 (lv_at hl 0 rfl) ?_
  refine lv_imul hx hb dX7_poses_57 ?_
  refine lv_isub hx hb dX7_poses_58 ?_
  refine lv_topi (fun z1 ez1 => ?_)
  have ez1 : z1 = tH b ly y := ez1
  subst ez1
  refine lv_istore (lv' := [(8, .int (tH b ly y)), (7, .int (y - ly)), (6, .int c), (5, .int b), (4, .int a), (3, .int (nI (13 * q))), (0, .ref mo), (1, .int (nI q)), (2, .int y)]) hx hb dX7_poses_59 hl (by decide) rfl (fun ls hl => ?_)
  refine lv_iload hx hb dX7_poses_61 (lv_at hl 0 rfl) ?_
  refine lv_if_ge (tgt := 68) hx hb dX7_poses_63 (by decide) (fun c2 => ?_) (fun c2 => ?_)
  · have h0 := c2
    refine lv_aload_n hx hb dX7_poses_68 rfl (lv_at hl 6 rfl) ?_
    refine lv_aload_n hx hb dX7_poses_69 rfl (lv_at hl 6 rfl) ?_
    refine va_get (D := D) (ci := 6) (v := .ref nu) (C := RX7) (T := TX7) (N := 22) hx hb hts hinX7 hown hw.1 hP 0 rfl rfl 0 (by decide) (hts (.fieldLink RX7 19 "WheelSwingModel" "number" "[I") (by decide +kernel)) (fun _ h9 => h9) rfl dX7_poses_70 ?_
    refine lv_iload_n hx hb dX7_poses_73 rfl (lv_at hl 5 rfl) ?_
    refine lv_iconst (v := 2) hx hb dX7_poses_74 (by decide) ?_
    refine lv_iadd hx hb dX7_poses_75 ?_
    rw [nI_ad2]
    refine va_iald hx hb hw.1 hR 0 0 rfl rfl (vp_in_nI (by omega) (by omega)) dX7_poses_76 ?_
    rw [nI_clamp (n := 13 * q + 2) (by omega), hN2]
    refine lv_i2d hx hb dX7_poses_77 ?_
    have gw3 := gf_i2d 10 (cB_k klx)
    refine lv_iload hx hb dX7_poses_78 (lv_at hl 0 rfl) ?_
    refine lv_i2d hx hb dX7_poses_80 ?_
    have gw4 := gf_i2d 20 (tH_k kb kly ky h0)
    refine va_calld (va_runS (As := [.double (FP.i2d (tH b ly y))]) (rest := [.double (FP.i2d lx), .ref mo]) ⟨hx, hb, hml, hown, hts⟩ (mX7_root l (FP.i2d (tH b ly y)) (rt_int h0 (tH_k kb kly ky h0) (by omega))) (va_cwS 1 hts gX7_poses_X7_root rfl rfl rfl (by decide +kernel) ⟨Nat.le_of_ble_eq_true rfl, Nat.le_of_ble_eq_true rfl⟩) ⟨tB_blind, tB_go⟩ rfl rfl hl.1 rfl (lv_room (Nat.le_of_ble_eq_true rfl)) dX7_poses_81 ⟨Nat.le_of_ble_eq_true rfl, Nat.le_of_ble_eq_true rfl⟩) hS (fun q _ h => h.elim) (fun q h => h.elim) (fun r5 u6 t H locs ht hvm hp7 hB hz1 hk1 hS => ?_)
    have hP := fr_keep hP hk1 fr_nA
    have hR := fr_rd hR0 hS hnr
    obtain ⟨rfl, hi8⟩ := hp7
    have gw9 := gf_sq 1021 1085 hi8 gw4 (Nat.le_of_ble_eq_true rfl) (Nat.le_of_ble_eq_true rfl)
    have gw10 := gf_add 1021 1086 gw3 gw9 (Nat.le_of_ble_eq_true rfl) (Nat.le_of_ble_eq_true rfl) (Nat.le_of_ble_eq_true rfl) (Nat.le_of_ble_eq_true rfl) (Nat.le_of_ble_eq_true rfl)
    refine lv_dadd hx hb dX7_poses_84 (gf_n64 gw10) ?_
    refine lv_topd (fun v11 ev11 => ?_)
    rw [← ev11] at gw10
    have fv11 : v11 = tPx lx ly b y := by rw [ev11]; try rfl
    clear ev11 gw10
    subst fv11
    refine va_put (D := D) (ci := 6) (v := .double (tPx lx ly b y)) (ty := .double) (C := RX7) (T := TX7) (N := 22) hx hb hts hinX7 tyX7 tyX7_ok nmX7 hown hw.1 hP hD hS 0 rfl rfl 1 (by decide) (hts (.fieldLink RX7 56 "WheelSwingModel" "px" "D") (by decide +kernel)) (fun _ h9 => h9) rfl (by decide +kernel) rfl rfl (Nat.le_of_ble_eq_true rfl) dX7_poses_85 (fun H locs hP hD hS => ?_)
    have hP : va_P D vwCl [(mo, .inr (6, [.ref nu, .double (tPx lx ly b y), .double p1, .double p2, .double p3, .double p4, .double p5, .double p6, .double p7, .double p8, .double p9, .int ct, .int cp, .int cr, .int ctr, .int cfs, .int (nI k), .ref sh, .int (nI k2), .ref ra, .ref rr, .double po]))] H := hP
    have hD : va_D (aE mo) [(mo, .inr (6, [.ref nu, .double (tPx lx ly b y), .double p1, .double p2, .double p3, .double p4, .double p5, .double p6, .double p7, .double p8, .double p9, .int ct, .int cp, .int cr, .int ctr, .int cfs, .int (nI k), .ref sh, .int (nI k2), .ref ra, .ref rr, .double po]))] := hD
    have hR := fr_rd hR0 hS hnr
    refine lv_aload_n hx hb dX7_poses_88 rfl (lv_at hl 6 rfl) ?_
    refine lv_iload_n hx hb dX7_poses_89 rfl (lv_at hl 8 rfl) ?_
    refine lv_i2d hx hb dX7_poses_90 ?_
    have gw12 := gf_i2d 10 (yB_k ky)
    refine va_put (D := D) (ci := 6) (v := .double (FP.i2d y)) (ty := .double) (C := RX7) (T := TX7) (N := 22) hx hb hts hinX7 tyX7 tyX7_ok nmX7 hown hw.1 hP hD hS 0 rfl rfl 2 (by decide) (hts (.fieldLink RX7 60 "WheelSwingModel" "py" "D") (by decide +kernel)) (fun _ h9 => h9) rfl (by decide +kernel) rfl rfl (Nat.le_of_ble_eq_true rfl) dX7_poses_91 (fun H locs hP hD hS => ?_)
    have hP : va_P D vwCl [(mo, .inr (6, [.ref nu, .double (tPx lx ly b y), .double (FP.i2d y), .double p2, .double p3, .double p4, .double p5, .double p6, .double p7, .double p8, .double p9, .int ct, .int cp, .int cr, .int ctr, .int cfs, .int (nI k), .ref sh, .int (nI k2), .ref ra, .ref rr, .double po]))] H := hP
    have hD : va_D (aE mo) [(mo, .inr (6, [.ref nu, .double (tPx lx ly b y), .double (FP.i2d y), .double p2, .double p3, .double p4, .double p5, .double p6, .double p7, .double p8, .double p9, .int ct, .int cp, .int cr, .int ctr, .int cfs, .int (nI k), .ref sh, .int (nI k2), .ref ra, .ref rr, .double po]))] := hD
    have hR := fr_rd hR0 hS hnr
    refine lv_aload_n hx hb dX7_poses_94 rfl (lv_at hl 6 rfl) ?_
    refine va_get (D := D) (ci := 6) (v := .ref nu) (C := RX7) (T := TX7) (N := 22) hx hb hts hinX7 hown hw.1 hP 0 rfl rfl 0 (by decide) (hts (.fieldLink RX7 19 "WheelSwingModel" "number" "[I") (by decide +kernel)) (fun _ h9 => h9) rfl dX7_poses_95 ?_
    refine lv_iload_n hx hb dX7_poses_98 rfl (lv_at hl 5 rfl) ?_
    refine va_iald hx hb hw.1 hR 0 0 rfl rfl (vp_in_nI (by omega) (by omega)) dX7_poses_99 ?_
    rw [nI_clamp (n := 13 * q) (by omega), hN0]
    refine lv_i2d hx hb dX7_poses_100 ?_
    have gw13 := gf_i2d 10 (cB_k kU)
    refine lv_aload_n hx hb dX7_poses_101 rfl (lv_at hl 6 rfl) ?_
    refine va_get (D := D) (ci := 6) (v := .double (tPx lx ly b y)) (C := RX7) (T := TX7) (N := 22) hx hb hts hinX7 hown hw.1 hP 0 rfl rfl 1 (by decide) (hts (.fieldLink RX7 56 "WheelSwingModel" "px" "D") (by decide +kernel)) (fun _ h9 => h9) rfl dX7_poses_102 ?_
    have gw14 := gf_sub 1021 1087 gw13 (gz_px hh h0) (Nat.le_of_ble_eq_true rfl) (Nat.le_of_ble_eq_true rfl) (Nat.le_of_ble_eq_true rfl) (Nat.le_of_ble_eq_true rfl) (Nat.le_of_ble_eq_true rfl)
    refine lv_dsub hx hb dX7_poses_105 (gf_n64 gw14) ?_
    refine lv_topd (fun v15 ev15 => ?_)
    rw [← ev15] at gw14
    have fv15 : v15 = tDx U lx ly b y := by rw [ev15]; try rfl
    clear ev15 gw14
    subst fv15
    refine lv_dstore (lv' := [(9, .double (tDx U lx ly b y)), (8, .int (tH b ly y)), (7, .int (y - ly)), (6, .int c), (5, .int b), (4, .int a), (3, .int (nI (13 * q))), (0, .ref mo), (1, .int (nI q)), (2, .int y)]) hx hb dX7_poses_106 hl (by decide) rfl (fun ls hl => ?_)
    refine lv_aload_n hx hb dX7_poses_108 rfl (lv_at hl 7 rfl) ?_
    refine va_get (D := D) (ci := 6) (v := .ref nu) (C := RX7) (T := TX7) (N := 22) hx hb hts hinX7 hown hw.1 hP 0 rfl rfl 0 (by decide) (hts (.fieldLink RX7 19 "WheelSwingModel" "number" "[I") (by decide +kernel)) (fun _ h9 => h9) rfl dX7_poses_109 ?_
    refine lv_iload_n hx hb dX7_poses_112 rfl (lv_at hl 6 rfl) ?_
    refine lv_iconst (v := 1) hx hb dX7_poses_113 (by decide) ?_
    refine lv_iadd hx hb dX7_poses_114 ?_
    rw [nI_ad1]
    refine va_iald hx hb hw.1 hR 0 0 rfl rfl (vp_in_nI (by omega) (by omega)) dX7_poses_115 ?_
    rw [nI_clamp (n := 13 * q + 1) (by omega), hN1]
    refine lv_i2d hx hb dX7_poses_116 ?_
    have gw16 := gf_i2d 10 (cB_k kV)
    refine lv_aload_n hx hb dX7_poses_117 rfl (lv_at hl 7 rfl) ?_
    refine va_get (D := D) (ci := 6) (v := .double (FP.i2d y)) (C := RX7) (T := TX7) (N := 22) hx hb hts hinX7 hown hw.1 hP 0 rfl rfl 2 (by decide) (hts (.fieldLink RX7 60 "WheelSwingModel" "py" "D") (by decide +kernel)) (fun _ h9 => h9) rfl dX7_poses_118 ?_
    have gw17 := gf_sub 1074 1085 gw16 gw12 (Nat.le_of_ble_eq_true rfl) (Nat.le_of_ble_eq_true rfl) (Nat.le_of_ble_eq_true rfl) (Nat.le_of_ble_eq_true rfl) (Nat.le_of_ble_eq_true rfl)
    refine lv_dsub hx hb dX7_poses_121 (gf_n64 gw17) ?_
    refine lv_topd (fun v18 ev18 => ?_)
    rw [← ev18] at gw17
    have fv18 : v18 = tDy V y := by rw [ev18]; try rfl
    clear ev18 gw17
    subst fv18
    refine lv_dstore (lv' := [(11, .double (tDy V y)), (9, .double (tDx U lx ly b y)), (8, .int (tH b ly y)), (7, .int (y - ly)), (6, .int c), (5, .int b), (4, .int a), (3, .int (nI (13 * q))), (0, .ref mo), (1, .int (nI q)), (2, .int y)]) hx hb dX7_poses_122 hl (by decide) rfl (fun ls hl => ?_)
    refine lv_dload hx hb dX7_poses_124 (lv_at hl 1 rfl) ?_
    refine lv_dload hx hb dX7_poses_126 (lv_at hl 1 rfl) ?_
    have gw19 := gf_mul 968 1100 (gz_dx hh h0) (gz_dx hh h0) (Nat.le_of_ble_eq_true rfl) (Nat.le_of_ble_eq_true rfl) (Nat.le_of_ble_eq_true rfl)
    refine lv_dmul hx hb dX7_poses_128 (gf_n64 gw19) ?_
    refine lv_topd (fun v20 ev20 => ?_)
    rw [← ev20] at gw19
    refine lv_dload hx hb dX7_poses_129 (lv_at hl 0 rfl) ?_
    refine lv_dload hx hb dX7_poses_131 (lv_at hl 0 rfl) ?_
    have gw21 := gf_mul 1074 1096 (gz_dy hh h0) (gz_dy hh h0) (Nat.le_of_ble_eq_true rfl) (Nat.le_of_ble_eq_true rfl) (Nat.le_of_ble_eq_true rfl)
    refine lv_dmul hx hb dX7_poses_133 (gf_n64 gw21) ?_
    refine lv_topd (fun v22 ev22 => ?_)
    rw [← ev22] at gw21
    have gw23 := gf_add 968 1101 gw19 gw21 (Nat.le_of_ble_eq_true rfl) (Nat.le_of_ble_eq_true rfl) (Nat.le_of_ble_eq_true rfl) (Nat.le_of_ble_eq_true rfl) (Nat.le_of_ble_eq_true rfl)
    refine lv_dadd hx hb dX7_poses_134 (gf_n64 gw23) ?_
    refine lv_topd (fun v24 ev24 => ?_)
    rw [← ev24] at gw23
    have fv24 : v24 = tE U V lx ly b y := by rw [ev24, ev22, ev20]; try rfl
    clear ev24 gw23
    subst fv24
    refine lv_dstore (lv' := [(13, .double (tE U V lx ly b y)), (11, .double (tDy V y)), (9, .double (tDx U lx ly b y)), (8, .int (tH b ly y)), (7, .int (y - ly)), (6, .int c), (5, .int b), (4, .int a), (3, .int (nI (13 * q))), (0, .ref mo), (1, .int (nI q)), (2, .int y)]) hx hb dX7_poses_135 hl (by decide) rfl (fun ls hl => ?_)
    refine lv_dload hx hb dX7_poses_137 (lv_at hl 0 rfl) ?_
    refine lv_dconst0 hx hb dX7_poses_139 ?_
    refine lv_dcmp hx hb dX7_poses_140 ?_
    rw [fp_cv (gz_e hh h0).1 gf_c0.1]
    refine lv_if_ne (tgt := 146) hx hb dX7_poses_141 (by decide) (fun c25 => ?_) (fun c25 => ?_)
    · rw [fcv_eq] at c25
      have he : fv (tE U V lx ly b y) ≠ 0 := by have hq := c25; rw [fv_c0] at hq; exact hq
      refine lv_iload hx hb dX7_poses_146 (lv_at hl 5 rfl) ?_
      refine lv_iload hx hb dX7_poses_148 (lv_at hl 5 rfl) ?_
      refine lv_imul hx hb dX7_poses_150 ?_
      refine lv_iload hx hb dX7_poses_151 (lv_at hl 7 rfl) ?_
      refine lv_iload hx hb dX7_poses_153 (lv_at hl 7 rfl) ?_
      refine lv_imul hx hb dX7_poses_155 ?_
      refine lv_isub hx hb dX7_poses_156 ?_
      refine lv_i2d hx hb dX7_poses_157 ?_
      have gw26 := gf_i2d 20 (ca_k ka kc)
      refine lv_dload hx hb dX7_poses_158 (lv_at hl 0 rfl) ?_
      have gw27 := gf_add 968 1102 gw26 (gz_e hh h0) (Nat.le_of_ble_eq_true rfl) (Nat.le_of_ble_eq_true rfl) (Nat.le_of_ble_eq_true rfl) (Nat.le_of_ble_eq_true rfl) (Nat.le_of_ble_eq_true rfl)
      refine lv_dadd hx hb dX7_poses_160 (gf_n64 gw27) ?_
      refine lv_topd (fun v28 ev28 => ?_)
      rw [← ev28] at gw27
      refine lv_ldc2d hx hb hown (hts (.constantDouble RX7 3 (4611686018427387904)) (by decide +kernel)) dX7_poses_161 ?_
      refine lv_dload hx hb dX7_poses_164 (lv_at hl 0 rfl) ?_
      have gw29 := gf_mul 969 1102 gf_2 (gz_e hh h0) (Nat.le_of_ble_eq_true rfl) (Nat.le_of_ble_eq_true rfl) (Nat.le_of_ble_eq_true rfl)
      refine lv_dmul hx hb dX7_poses_166 (gf_n64 gw29) ?_
      refine lv_topd (fun v30 ev30 => ?_)
      rw [← ev30] at gw29
      have hz155 : fv v30 ≠ 0 := by rw [ev30, (dbl (gz_e hh h0) (by omega)).2]; have hq := he; omega
      have gw31 := gf_div 888 1207 gw27 gw29 hz155 (Nat.le_of_ble_eq_true rfl) (Nat.le_of_ble_eq_true rfl) (Nat.le_of_ble_eq_true rfl)
      refine lv_ddiv hx hb dX7_poses_167 (gf_n64 gw31) ?_
      refine lv_topd (fun v32 ev32 => ?_)
      rw [← ev32] at gw31
      have fv32 : v32 = tM U V lx ly a b c y := by rw [ev32, ev30, ev28]; try rfl
      clear ev32 gw31
      subst fv32
      refine lv_dstore (lv' := [(15, .double (tM U V lx ly a b c y)), (13, .double (tE U V lx ly b y)), (11, .double (tDy V y)), (9, .double (tDx U lx ly b y)), (8, .int (tH b ly y)), (7, .int (y - ly)), (6, .int c), (5, .int b), (4, .int a), (3, .int (nI (13 * q))), (0, .ref mo), (1, .int (nI q)), (2, .int y)]) hx hb dX7_poses_168 hl (by decide) rfl (fun ls hl => ?_)
      refine lv_iload hx hb dX7_poses_170 (lv_at hl 6 rfl) ?_
      refine lv_iload hx hb dX7_poses_172 (lv_at hl 6 rfl) ?_
      refine lv_imul hx hb dX7_poses_174 ?_
      refine lv_i2d hx hb dX7_poses_175 ?_
      have gw33 := gf_i2d 20 (cc_k kc)
      refine lv_dload hx hb dX7_poses_176 (lv_at hl 1 rfl) ?_
      have gw34 := gf_div 995 1200 gw33 (gz_e hh h0) he (Nat.le_of_ble_eq_true rfl) (Nat.le_of_ble_eq_true rfl) (Nat.le_of_ble_eq_true rfl)
      refine lv_ddiv hx hb dX7_poses_178 (gf_n64 gw34) ?_
      refine lv_topd (fun v35 ev35 => ?_)
      rw [← ev35] at gw34
      refine lv_dload hx hb dX7_poses_179 (lv_at hl 0 rfl) ?_
      refine lv_dload hx hb dX7_poses_181 (lv_at hl 0 rfl) ?_
      have gw36 := gf_mul 808 1340 (gz_m1 hh h0 he) (gz_m1 hh h0 he) (Nat.le_of_ble_eq_true rfl) (Nat.le_of_ble_eq_true rfl) (Nat.le_of_ble_eq_true rfl)
      refine lv_dmul hx hb dX7_poses_183 (gf_n64 gw36) ?_
      refine lv_topd (fun v37 ev37 => ?_)
      rw [← ev37] at gw36
      have gw38 := gf_sub 808 1341 gw34 gw36 (Nat.le_of_ble_eq_true rfl) (Nat.le_of_ble_eq_true rfl) (Nat.le_of_ble_eq_true rfl) (Nat.le_of_ble_eq_true rfl) (Nat.le_of_ble_eq_true rfl)
      refine lv_dsub hx hb dX7_poses_184 (gf_n64 gw38) ?_
      refine lv_topd (fun v39 ev39 => ?_)
      rw [← ev39] at gw38
      have fv39 : v39 = tK U V lx ly a b c y := by rw [ev39, ev37, ev35]; try rfl
      clear ev39 gw38
      subst fv39
      refine lv_dstore (lv' := [(17, .double (tK U V lx ly a b c y)), (15, .double (tM U V lx ly a b c y)), (13, .double (tE U V lx ly b y)), (11, .double (tDy V y)), (9, .double (tDx U lx ly b y)), (8, .int (tH b ly y)), (7, .int (y - ly)), (6, .int c), (5, .int b), (4, .int a), (3, .int (nI (13 * q))), (0, .ref mo), (1, .int (nI q)), (2, .int y)]) hx hb dX7_poses_185 hl (by decide) rfl (fun ls hl => ?_)
      refine lv_dload hx hb dX7_poses_187 (lv_at hl 0 rfl) ?_
      refine lv_dconst0 hx hb dX7_poses_189 ?_
      refine lv_dcmp hx hb dX7_poses_190 ?_
      rw [fp_cv (gz_k0 hh h0 he).1 gf_c0.1]
      refine lv_if_ge (tgt := 196) hx hb dX7_poses_191 (by decide) (fun c40 => ?_) (fun c40 => ?_)
      · rw [fcv_ge] at c40
        have hk : 0 ≤ fv (tK U V lx ly a b c y) := by have hq := c40; rw [fv_c0] at hq; exact hq
        refine lv_aload_n hx hb dX7_poses_196 rfl (lv_at hl 11 rfl) ?_
        refine va_get (D := D) (ci := 6) (v := .ref nu) (C := RX7) (T := TX7) (N := 22) hx hb hts hinX7 hown hw.1 hP 0 rfl rfl 0 (by decide) (hts (.fieldLink RX7 19 "WheelSwingModel" "number" "[I") (by decide +kernel)) (fun _ h9 => h9) rfl dX7_poses_197 ?_
        refine lv_iload_n hx hb dX7_poses_200 rfl (lv_at hl 10 rfl) ?_
        refine lv_bipush (v := 7) hx hb dX7_poses_201 (by decide) ?_
        refine lv_iadd hx hb dX7_poses_203 ?_
        rw [nI_ad7]
        refine va_iald hx hb hw.1 hR 0 0 rfl rfl (vp_in_nI (by omega) (by omega)) dX7_poses_204 ?_
        rw [nI_clamp (n := 13 * q + 7) (by omega), hN7]
        refine lv_i2d hx hb dX7_poses_205 ?_
        have gw41 := gf_i2d 0 (sd_k hsd)
        refine lv_dload hx hb dX7_poses_206 (lv_at hl 0 rfl) ?_
        refine va_calld (va_runS (As := [.double (tK U V lx ly a b c y)]) (rest := [.double (FP.i2d sd)]) ⟨hx, hb, hml, hown, hts⟩ (mX7_root l (tK U V lx ly a b c y) (gz_krt hh h0 he hk)) (va_cwS 1 hts gX7_poses_X7_root rfl rfl rfl (by decide +kernel) ⟨Nat.le_of_ble_eq_true rfl, Nat.le_of_ble_eq_true rfl⟩) ⟨tB_blind, tB_go⟩ rfl rfl hl.1 rfl (lv_room (Nat.le_of_ble_eq_true rfl)) dX7_poses_208 ⟨Nat.le_of_ble_eq_true rfl, Nat.le_of_ble_eq_true rfl⟩) hS (fun q _ h => h.elim) (fun q h => h.elim) (fun r42 u43 t H locs ht hvm hp44 hB hz1 hk1 hS => ?_)
        have hP := fr_keep hP hk1 fr_nA
        have hR := fr_rd hR0 hS hnr
        obtain ⟨rfl, hi45⟩ := hp44
        have gw46 := gf_sq 888 1209 hi45 (gz_k0 hh h0 he) (Nat.le_of_ble_eq_true rfl) (Nat.le_of_ble_eq_true rfl)
        have gw47 := gf_mul 888 1209 gw41 gw46 (Nat.le_of_ble_eq_true rfl) (Nat.le_of_ble_eq_true rfl) (Nat.le_of_ble_eq_true rfl)
        refine lv_dmul hx hb dX7_poses_211 (gf_n64 gw47) ?_
        refine lv_topd (fun v48 ev48 => ?_)
        rw [← ev48] at gw47
        have fv48 : v48 = tS U V lx ly a b c sd y := by rw [ev48]; try rfl
        clear ev48 gw47
        subst fv48
        refine lv_dstore (lv' := [(19, .double (tS U V lx ly a b c sd y)), (17, .double (tK U V lx ly a b c y)), (15, .double (tM U V lx ly a b c y)), (13, .double (tE U V lx ly b y)), (11, .double (tDy V y)), (9, .double (tDx U lx ly b y)), (8, .int (tH b ly y)), (7, .int (y - ly)), (6, .int c), (5, .int b), (4, .int a), (3, .int (nI (13 * q))), (0, .ref mo), (1, .int (nI q)), (2, .int y)]) hx hb dX7_poses_212 hl (by decide) rfl (fun ls hl => ?_)
        refine lv_aload_n hx hb dX7_poses_214 rfl (lv_at hl 12 rfl) ?_
        refine lv_aload_n hx hb dX7_poses_215 rfl (lv_at hl 12 rfl) ?_
        refine va_get (D := D) (ci := 6) (v := .double (tPx lx ly b y)) (C := RX7) (T := TX7) (N := 22) hx hb hts hinX7 hown hw.1 hP 0 rfl rfl 1 (by decide) (hts (.fieldLink RX7 56 "WheelSwingModel" "px" "D") (by decide +kernel)) (fun _ h9 => h9) rfl dX7_poses_216 ?_
        refine lv_dload hx hb dX7_poses_219 (lv_at hl 2 rfl) ?_
        refine lv_dload hx hb dX7_poses_221 (lv_at hl 5 rfl) ?_
        have gw49 := gf_mul 888 1220 (gz_m1 hh h0 he) (gz_dx hh h0) (Nat.le_of_ble_eq_true rfl) (Nat.le_of_ble_eq_true rfl) (Nat.le_of_ble_eq_true rfl)
        refine lv_dmul hx hb dX7_poses_223 (gf_n64 gw49) ?_
        refine lv_topd (fun v50 ev50 => ?_)
        rw [← ev50] at gw49
        have gw51 := gf_add 888 1221 (gz_px hh h0) gw49 (Nat.le_of_ble_eq_true rfl) (Nat.le_of_ble_eq_true rfl) (Nat.le_of_ble_eq_true rfl) (Nat.le_of_ble_eq_true rfl) (Nat.le_of_ble_eq_true rfl)
        refine lv_dadd hx hb dX7_poses_224 (gf_n64 gw51) ?_
        refine lv_topd (fun v52 ev52 => ?_)
        rw [← ev52] at gw51
        refine lv_dload hx hb dX7_poses_225 (lv_at hl 0 rfl) ?_
        refine lv_dload hx hb dX7_poses_227 (lv_at hl 4 rfl) ?_
        have gw53 := gf_mul 987 1149 (gz_s hh h0 he hk hsd) (gz_dy hh h0) (Nat.le_of_ble_eq_true rfl) (Nat.le_of_ble_eq_true rfl) (Nat.le_of_ble_eq_true rfl)
        refine lv_dmul hx hb dX7_poses_229 (gf_n64 gw53) ?_
        refine lv_topd (fun v54 ev54 => ?_)
        rw [← ev54] at gw53
        have gw55 := gf_add 888 1222 gw51 gw53 (Nat.le_of_ble_eq_true rfl) (Nat.le_of_ble_eq_true rfl) (Nat.le_of_ble_eq_true rfl) (Nat.le_of_ble_eq_true rfl) (Nat.le_of_ble_eq_true rfl)
        refine lv_dadd hx hb dX7_poses_230 (gf_n64 gw55) ?_
        refine lv_topd (fun v56 ev56 => ?_)
        rw [← ev56] at gw55
        have fv56 : v56 = tQx U V lx ly a b c sd y := by rw [ev56, ev54, ev52, ev50]; try rfl
        clear ev56 gw55
        subst fv56
        refine va_put (D := D) (ci := 6) (v := .double (tQx U V lx ly a b c sd y)) (ty := .double) (C := RX7) (T := TX7) (N := 22) hx hb hts hinX7 tyX7 tyX7_ok nmX7 hown hw.1 hP hD hS 0 rfl rfl 3 (by decide) (hts (.fieldLink RX7 63 "WheelSwingModel" "qx" "D") (by decide +kernel)) (fun _ h9 => h9) rfl (by decide +kernel) rfl rfl (Nat.le_of_ble_eq_true rfl) dX7_poses_231 (fun H locs hP hD hS => ?_)
        have hP : va_P D vwCl [(mo, .inr (6, [.ref nu, .double (tPx lx ly b y), .double (FP.i2d y), .double (tQx U V lx ly a b c sd y), .double p3, .double p4, .double p5, .double p6, .double p7, .double p8, .double p9, .int ct, .int cp, .int cr, .int ctr, .int cfs, .int (nI k), .ref sh, .int (nI k2), .ref ra, .ref rr, .double po]))] H := hP
        have hD : va_D (aE mo) [(mo, .inr (6, [.ref nu, .double (tPx lx ly b y), .double (FP.i2d y), .double (tQx U V lx ly a b c sd y), .double p3, .double p4, .double p5, .double p6, .double p7, .double p8, .double p9, .int ct, .int cp, .int cr, .int ctr, .int cfs, .int (nI k), .ref sh, .int (nI k2), .ref ra, .ref rr, .double po]))] := hD
        have hR := fr_rd hR0 hS hnr
        refine lv_aload_n hx hb dX7_poses_234 rfl (lv_at hl 12 rfl) ?_
        refine lv_aload_n hx hb dX7_poses_235 rfl (lv_at hl 12 rfl) ?_
        refine va_get (D := D) (ci := 6) (v := .double (FP.i2d y)) (C := RX7) (T := TX7) (N := 22) hx hb hts hinX7 hown hw.1 hP 0 rfl rfl 2 (by decide) (hts (.fieldLink RX7 60 "WheelSwingModel" "py" "D") (by decide +kernel)) (fun _ h9 => h9) rfl dX7_poses_236 ?_
        refine lv_dload hx hb dX7_poses_239 (lv_at hl 2 rfl) ?_
        refine lv_dload hx hb dX7_poses_241 (lv_at hl 4 rfl) ?_
        have gw57 := gf_mul 941 1218 (gz_m1 hh h0 he) (gz_dy hh h0) (Nat.le_of_ble_eq_true rfl) (Nat.le_of_ble_eq_true rfl) (Nat.le_of_ble_eq_true rfl)
        refine lv_dmul hx hb dX7_poses_243 (gf_n64 gw57) ?_
        refine lv_topd (fun v58 ev58 => ?_)
        rw [← ev58] at gw57
        have gw59 := gf_add 941 1219 gw12 gw57 (Nat.le_of_ble_eq_true rfl) (Nat.le_of_ble_eq_true rfl) (Nat.le_of_ble_eq_true rfl) (Nat.le_of_ble_eq_true rfl) (Nat.le_of_ble_eq_true rfl)
        refine lv_dadd hx hb dX7_poses_244 (gf_n64 gw59) ?_
        refine lv_topd (fun v60 ev60 => ?_)
        rw [← ev60] at gw59
        refine lv_dload hx hb dX7_poses_245 (lv_at hl 0 rfl) ?_
        refine lv_dload hx hb dX7_poses_247 (lv_at hl 5 rfl) ?_
        have gw61 := gf_mul 934 1151 (gz_s hh h0 he hk hsd) (gz_dx hh h0) (Nat.le_of_ble_eq_true rfl) (Nat.le_of_ble_eq_true rfl) (Nat.le_of_ble_eq_true rfl)
        refine lv_dmul hx hb dX7_poses_249 (gf_n64 gw61) ?_
        refine lv_topd (fun v62 ev62 => ?_)
        rw [← ev62] at gw61
        have gw63 := gf_sub 934 1220 gw59 gw61 (Nat.le_of_ble_eq_true rfl) (Nat.le_of_ble_eq_true rfl) (Nat.le_of_ble_eq_true rfl) (Nat.le_of_ble_eq_true rfl) (Nat.le_of_ble_eq_true rfl)
        refine lv_dsub hx hb dX7_poses_250 (gf_n64 gw63) ?_
        refine lv_topd (fun v64 ev64 => ?_)
        rw [← ev64] at gw63
        have fv64 : v64 = tQy U V lx ly a b c sd y := by rw [ev64, ev62, ev60, ev58]; try rfl
        clear ev64 gw63
        subst fv64
        refine va_put (D := D) (ci := 6) (v := .double (tQy U V lx ly a b c sd y)) (ty := .double) (C := RX7) (T := TX7) (N := 22) hx hb hts hinX7 tyX7 tyX7_ok nmX7 hown hw.1 hP hD hS 0 rfl rfl 4 (by decide) (hts (.fieldLink RX7 66 "WheelSwingModel" "qy" "D") (by decide +kernel)) (fun _ h9 => h9) rfl (by decide +kernel) rfl rfl (Nat.le_of_ble_eq_true rfl) dX7_poses_251 (fun H locs hP hD hS => ?_)
        have hP : va_P D vwCl [(mo, .inr (6, [.ref nu, .double (tPx lx ly b y), .double (FP.i2d y), .double (tQx U V lx ly a b c sd y), .double (tQy U V lx ly a b c sd y), .double p4, .double p5, .double p6, .double p7, .double p8, .double p9, .int ct, .int cp, .int cr, .int ctr, .int cfs, .int (nI k), .ref sh, .int (nI k2), .ref ra, .ref rr, .double po]))] H := hP
        have hD : va_D (aE mo) [(mo, .inr (6, [.ref nu, .double (tPx lx ly b y), .double (FP.i2d y), .double (tQx U V lx ly a b c sd y), .double (tQy U V lx ly a b c sd y), .double p4, .double p5, .double p6, .double p7, .double p8, .double p9, .int ct, .int cp, .int cr, .int ctr, .int cfs, .int (nI k), .ref sh, .int (nI k2), .ref ra, .ref rr, .double po]))] := hD
        have hR := fr_rd hR0 hS hnr
        refine lv_aload_n hx hb dX7_poses_254 rfl (lv_at hl 12 rfl) ?_
        refine lv_aload_n hx hb dX7_poses_255 rfl (lv_at hl 12 rfl) ?_
        refine va_get (D := D) (ci := 6) (v := .double (tQx U V lx ly a b c sd y)) (C := RX7) (T := TX7) (N := 22) hx hb hts hinX7 hown hw.1 hP 0 rfl rfl 3 (by decide) (hts (.fieldLink RX7 63 "WheelSwingModel" "qx" "D") (by decide +kernel)) (fun _ h9 => h9) rfl dX7_poses_256 ?_
        refine lv_aload_n hx hb dX7_poses_259 rfl (lv_at hl 12 rfl) ?_
        refine va_get (D := D) (ci := 6) (v := .double (tPx lx ly b y)) (C := RX7) (T := TX7) (N := 22) hx hb hts hinX7 hown hw.1 hP 0 rfl rfl 1 (by decide) (hts (.fieldLink RX7 56 "WheelSwingModel" "px" "D") (by decide +kernel)) (fun _ h9 => h9) rfl dX7_poses_260 ?_
        have gw65 := gf_sub 888 1154 (gz_qx hh h0 he hk hsd) (gz_px hh h0) (Nat.le_of_ble_eq_true rfl) (Nat.le_of_ble_eq_true rfl) (Nat.le_of_ble_eq_true rfl) (Nat.le_of_ble_eq_true rfl) (Nat.le_of_ble_eq_true rfl)
        refine lv_dsub hx hb dX7_poses_263 (gf_n64 gw65) ?_
        refine lv_topd (fun v66 ev66 => ?_)
        rw [← ev66] at gw65
        refine lv_iload hx hb dX7_poses_264 (lv_at hl 8 rfl) ?_
        refine lv_i2d hx hb dX7_poses_266 ?_
        have gw67 := gf_i2d 10 (aB_k kc)
        have gw68 := gf_div 826 1154 gw65 gw67 (c_ne kc) (Nat.le_of_ble_eq_true rfl) (Nat.le_of_ble_eq_true rfl) (Nat.le_of_ble_eq_true rfl)
        refine lv_ddiv hx hb dX7_poses_267 (gf_n64 gw68) ?_
        refine lv_topd (fun v69 ev69 => ?_)
        rw [← ev69] at gw68
        have fv69 : v69 = tVx U V lx ly a b c sd y := by rw [ev69, ev66]; try rfl
        clear ev69 gw68
        subst fv69
        refine va_put (D := D) (ci := 6) (v := .double (tVx U V lx ly a b c sd y)) (ty := .double) (C := RX7) (T := TX7) (N := 22) hx hb hts hinX7 tyX7 tyX7_ok nmX7 hown hw.1 hP hD hS 0 rfl rfl 5 (by decide) (hts (.fieldLink RX7 69 "WheelSwingModel" "vx" "D") (by decide +kernel)) (fun _ h9 => h9) rfl (by decide +kernel) rfl rfl (Nat.le_of_ble_eq_true rfl) dX7_poses_268 (fun H locs hP hD hS => ?_)
        have hP : va_P D vwCl [(mo, .inr (6, [.ref nu, .double (tPx lx ly b y), .double (FP.i2d y), .double (tQx U V lx ly a b c sd y), .double (tQy U V lx ly a b c sd y), .double (tVx U V lx ly a b c sd y), .double p5, .double p6, .double p7, .double p8, .double p9, .int ct, .int cp, .int cr, .int ctr, .int cfs, .int (nI k), .ref sh, .int (nI k2), .ref ra, .ref rr, .double po]))] H := hP
        have hD : va_D (aE mo) [(mo, .inr (6, [.ref nu, .double (tPx lx ly b y), .double (FP.i2d y), .double (tQx U V lx ly a b c sd y), .double (tQy U V lx ly a b c sd y), .double (tVx U V lx ly a b c sd y), .double p5, .double p6, .double p7, .double p8, .double p9, .int ct, .int cp, .int cr, .int ctr, .int cfs, .int (nI k), .ref sh, .int (nI k2), .ref ra, .ref rr, .double po]))] := hD
        have hR := fr_rd hR0 hS hnr
        refine lv_aload_n hx hb dX7_poses_271 rfl (lv_at hl 12 rfl) ?_
        refine lv_aload_n hx hb dX7_poses_272 rfl (lv_at hl 12 rfl) ?_
        refine va_get (D := D) (ci := 6) (v := .double (tQy U V lx ly a b c sd y)) (C := RX7) (T := TX7) (N := 22) hx hb hts hinX7 hown hw.1 hP 0 rfl rfl 4 (by decide) (hts (.fieldLink RX7 66 "WheelSwingModel" "qy" "D") (by decide +kernel)) (fun _ h9 => h9) rfl dX7_poses_273 ?_
        refine lv_aload_n hx hb dX7_poses_276 rfl (lv_at hl 12 rfl) ?_
        refine va_get (D := D) (ci := 6) (v := .double (FP.i2d y)) (C := RX7) (T := TX7) (N := 22) hx hb hts hinX7 hown hw.1 hP 0 rfl rfl 2 (by decide) (hts (.fieldLink RX7 60 "WheelSwingModel" "py" "D") (by decide +kernel)) (fun _ h9 => h9) rfl dX7_poses_277 ?_
        have gw70 := gf_sub 934 1153 (gz_qy hh h0 he hk hsd) gw12 (Nat.le_of_ble_eq_true rfl) (Nat.le_of_ble_eq_true rfl) (Nat.le_of_ble_eq_true rfl) (Nat.le_of_ble_eq_true rfl) (Nat.le_of_ble_eq_true rfl)
        refine lv_dsub hx hb dX7_poses_280 (gf_n64 gw70) ?_
        refine lv_topd (fun v71 ev71 => ?_)
        rw [← ev71] at gw70
        refine lv_iload hx hb dX7_poses_281 (lv_at hl 8 rfl) ?_
        refine lv_i2d hx hb dX7_poses_283 ?_
        have gw72 := gf_i2d 10 (aB_k kc)
        have gw73 := gf_div 872 1153 gw70 gw72 (c_ne kc) (Nat.le_of_ble_eq_true rfl) (Nat.le_of_ble_eq_true rfl) (Nat.le_of_ble_eq_true rfl)
        refine lv_ddiv hx hb dX7_poses_284 (gf_n64 gw73) ?_
        refine lv_topd (fun v74 ev74 => ?_)
        rw [← ev74] at gw73
        have fv74 : v74 = tVy U V lx ly a b c sd y := by rw [ev74, ev71]; try rfl
        clear ev74 gw73
        subst fv74
        refine va_put (D := D) (ci := 6) (v := .double (tVy U V lx ly a b c sd y)) (ty := .double) (C := RX7) (T := TX7) (N := 22) hx hb hts hinX7 tyX7 tyX7_ok nmX7 hown hw.1 hP hD hS 0 rfl rfl 6 (by decide) (hts (.fieldLink RX7 72 "WheelSwingModel" "vy" "D") (by decide +kernel)) (fun _ h9 => h9) rfl (by decide +kernel) rfl rfl (Nat.le_of_ble_eq_true rfl) dX7_poses_285 (fun H locs hP hD hS => ?_)
        have hP : va_P D vwCl [(mo, .inr (6, [.ref nu, .double (tPx lx ly b y), .double (FP.i2d y), .double (tQx U V lx ly a b c sd y), .double (tQy U V lx ly a b c sd y), .double (tVx U V lx ly a b c sd y), .double (tVy U V lx ly a b c sd y), .double p6, .double p7, .double p8, .double p9, .int ct, .int cp, .int cr, .int ctr, .int cfs, .int (nI k), .ref sh, .int (nI k2), .ref ra, .ref rr, .double po]))] H := hP
        have hD : va_D (aE mo) [(mo, .inr (6, [.ref nu, .double (tPx lx ly b y), .double (FP.i2d y), .double (tQx U V lx ly a b c sd y), .double (tQy U V lx ly a b c sd y), .double (tVx U V lx ly a b c sd y), .double (tVy U V lx ly a b c sd y), .double p6, .double p7, .double p8, .double p9, .int ct, .int cp, .int cr, .int ctr, .int cfs, .int (nI k), .ref sh, .int (nI k2), .ref ra, .ref rr, .double po]))] := hD
        have hR := fr_rd hR0 hS hnr
        refine lv_iconst (v := 1) hx hb dX7_poses_288 (by decide) ?_
        exact W.zret (v := 1) hx hb hr rfl (fun t ht hW => ⟨⟨1, [.ref nu, .double (tPx lx ly b y), .double (FP.i2d y), .double (tQx U V lx ly a b c sd y), .double (tQy U V lx ly a b c sd y), .double (tVx U V lx ly a b c sd y), .double (tVy U V lx ly a b c sd y), .double p6, .double p7, .double p8, .double p9, .int ct, .int cp, .int cr, .int ctr, .int cfs, .int (nI k), .ref sh, .int (nI k2), .ref ra, .ref rr, .double po], rfl, Or.inl ⟨rfl, ⟨h0, he, hk⟩, rfl⟩, at_heap ht (hP 0 _ rfl)⟩, hS.F ht⟩) hS.2.2 dX7_poses_289
      · rw [fcv_ge] at c40
        refine lv_iconst (v := 0) hx hb dX7_poses_194 (by decide) ?_
        exact W.zret (v := 0) hx hb hr rfl (fun t ht hW => ⟨⟨0, [.ref nu, .double (tPx lx ly b y), .double (FP.i2d y), .double p2, .double p3, .double p4, .double p5, .double p6, .double p7, .double p8, .double p9, .int ct, .int cp, .int cr, .int ctr, .int cfs, .int (nI k), .ref sh, .int (nI k2), .ref ra, .ref rr, .double po], rfl, Or.inr ⟨rfl, fun hf => absurd hf.2.2 (by have hq := c40; rw [fv_c0] at hq; exact hq), ⟨_, _, _, _, _, _, _, _, _, _, _, rfl⟩⟩, at_heap ht (hP 0 _ rfl)⟩, hS.F ht⟩) hS.2.2 dX7_poses_195
    · rw [fcv_eq] at c25
      refine lv_iconst (v := 0) hx hb dX7_poses_144 (by decide) ?_
      exact W.zret (v := 0) hx hb hr rfl (fun t ht hW => ⟨⟨0, [.ref nu, .double (tPx lx ly b y), .double (FP.i2d y), .double p2, .double p3, .double p4, .double p5, .double p6, .double p7, .double p8, .double p9, .int ct, .int cp, .int cr, .int ctr, .int cfs, .int (nI k), .ref sh, .int (nI k2), .ref ra, .ref rr, .double po], rfl, Or.inr ⟨rfl, fun hf => hf.2.1 (by have hq := c25; rw [fv_c0] at hq; exact hq), ⟨_, _, _, _, _, _, _, _, _, _, _, rfl⟩⟩, at_heap ht (hP 0 _ rfl)⟩, hS.F ht⟩) hS.2.2 dX7_poses_145
  · refine lv_iconst (v := 0) hx hb dX7_poses_66 (by decide) ?_
    exact W.zret (v := 0) hx hb hr rfl (fun t ht hW => ⟨⟨0, [.ref nu, .double p0, .double p1, .double p2, .double p3, .double p4, .double p5, .double p6, .double p7, .double p8, .double p9, .int ct, .int cp, .int cr, .int ctr, .int cfs, .int (nI k), .ref sh, .int (nI k2), .ref ra, .ref rr, .double po], rfl, Or.inr ⟨rfl, fun hf => c2 hf.1, ⟨_, _, _, _, _, _, _, _, _, _, _, rfl⟩⟩, at_heap ht (hP 0 _ rfl)⟩, hS.F ht⟩) hS.2.2 dX7_poses_67
set_option maxHeartbeats 4000000 in
set_option maxRecDepth 100000 in
theorem mX7_road (l : Launch) (D : va_G) (cI cH : ClassId) (mo nu sh ra rr k k2 q : Nat) (N : Nat → Int32) (ct cp cr ctr cfs : Int32) (p0 p1 p2 p3 p4 p5 p6 p7 p8 p9 po : UInt64) (U V lx ly a b c sd g d sx sy f : Int32)  (hqq : q < 4) (hne : nu ≠ mo) (hN : hasN N q U V lx ly a b c sd g d sx sy f) (kg : cB g) (kd : cB d) (g0 : fGr 1021 1086 p0) (g1 : fGr 1074 1084 p1) (g2 : fGr 888 1153 p2) (g3 : fGr 934 1152 p3) (g4 : fGr 826 1154 p4) (g5 : fGr 872 1153 p5) : Met l yX7_road wsX7_road ({ frames := 0, cells := 0, slots := 0, locals := 0 }) (va_Pc [.ref mo, .int (nI q)] (kB D cI cH [(mo, .inr (6, [.ref nu, .double p0, .double p1, .double p2, .double p3, .double p4, .double p5, .double p6, .double p7, .double p8, .double p9, .int ct, .int cp, .int cr, .int ctr, .int cfs, .int (nI k), .ref sh, .int (nI k2), .ref ra, .ref rr, .double po])), (nu, .inl (cI, 52, .inl N))])) (va_Qv (fun (u : List Value) => u = [.ref nu, .double p0, .double p1, .double p2, .double p3, .double p4, .double p5, .double (tRx g d p0 p4 p5), .double (tRy g d p1 p4 p5), .double p8, .double p9, .int ct, .int cp, .int cr, .int ctr, .int cfs, .int (nI k), .ref sh, .int (nI k2), .ref ra, .ref rr, .double po]) (fun u t => va_at D vwCl (mo, .inr (6, u)) t.heap) (aE mo)) 0 0 (aE mo) := by
  refine Met.ofW (cc := cX7_road) (maxL := 4) (ret := none) (by decide) rfl ?_
  intro p e s m args below meth co s₁ B hml hv
  obtain ⟨rfl, hP0, hw⟩ := hv
  have hx := B.exec
  have hb := B.bytes
  have hr := B.returns
  have hts := atoms_spec (ws := wsX7_road) B.pre
  have hown : s.vm.findClass RX7 = some m.cls := findClass_of_methodNamed B.named
  have hlocks := B.notSynchronized
  have hinX7 : ∀ w ∈ wsX70, w ∈ wsX7_road := by decide +kernel
  have hS : va_S (aE mo) s.heap s.heap [] := va_S.rf
  have hP : va_P D vwCl [(mo, .inr (6, [.ref nu, .double p0, .double p1, .double p2, .double p3, .double p4, .double p5, .double p6, .double p7, .double p8, .double p9, .int ct, .int cp, .int cr, .int ctr, .int cfs, .int (nI k), .ref sh, .int (nI k2), .ref ra, .ref rr, .double po]))] s.heap := hP0.sub [0] rfl
  have hD : va_D (aE mo) [(mo, .inr (6, [.ref nu, .double p0, .double p1, .double p2, .double p3, .double p4, .double p5, .double p6, .double p7, .double p8, .double p9, .int ct, .int cp, .int cr, .int ctr, .int cfs, .int (nI k), .ref sh, .int (nI k2), .ref ra, .ref rr, .double po]))] := D_1 rfl
  have hR0 : va_P D vwCl [(nu, .inl (cI, 52, .inl N))] s.heap := hP0.sub [1] rfl
  have hR := hR0
  have hnr : ∀ (k9 : Nat) (q : Nat × va_E), ([(nu, .inl (cI, 52, .inl N))] : va_W)[k9]? = some q → ¬ (aE mo) q.1 := nn_1 hne nn_0
  obtain ⟨hN0, hN1, hN2, hN3, hN4, hN5, hN6, hN7, hN8, hN9, hN10, hN11, hN12⟩ := id hN
  have hl := lv_entry ([.ref mo, .int (nI q)]) (n := 4) (Nat.le_of_ble_eq_true rfl)
  rw [lg_entry_eq]
  generalize (lg_sl ([.ref mo, .int (nI q)]) ++ List.replicate (4 - (lg_sl ([.ref mo, .int (nI q)])).length) Slot.unset).toArray = ls at hl ⊢
  have hl : lv_has ls 4 [(0, .ref mo), (1, .int (nI q))] := hl
  skip
  refine lv_aload_n hx hb dX7_road_0 rfl (lv_at hl 0 rfl) ?_
  refine va_get (D := D) (ci := 6) (v := .ref nu) (C := RX7) (T := TX7) (N := 22) hx hb hts hinX7 hown hw.1 hP 0 rfl rfl 0 (by decide) (hts (.fieldLink RX7 19 "WheelSwingModel" "number" "[I") (by decide +kernel)) (fun _ h9 => h9) rfl dX7_road_1 ?_
  refine lv_bipush (v := 13) hx hb dX7_road_4 (by decide) ?_
  refine lv_iload_n hx hb dX7_road_6 rfl (lv_at hl 1 rfl) ?_
  refine lv_imul hx hb dX7_road_7 ?_
  rw [nI_m13]
  refine lv_bipush (v := 8) hx hb dX7_road_8 (by decide) ?_
  refine lv_iadd hx hb dX7_road_10 ?_
  rw [nI_ad8]
  refine va_iald hx hb hw.1 hR 0 0 rfl rfl (vp_in_nI (by omega) (by omega)) dX7_road_11 ?_
  rw [nI_clamp (n := 13 * q + 8) (by omega), hN8]
  refine lv_istore_n (lv' := [(2, .int g), (0, .ref mo), (1, .int (nI q))]) hx hb dX7_road_12 rfl hl (by decide) rfl (fun ls hl => ?_)
  refine lv_aload_n hx hb dX7_road_13 rfl (lv_at hl 1 rfl) ?_
  refine va_get (D := D) (ci := 6) (v := .ref nu) (C := RX7) (T := TX7) (N := 22) hx hb hts hinX7 hown hw.1 hP 0 rfl rfl 0 (by decide) (hts (.fieldLink RX7 19 "WheelSwingModel" "number" "[I") (by decide +kernel)) (fun _ h9 => h9) rfl dX7_road_14 ?_
  refine lv_bipush (v := 13) hx hb dX7_road_17 (by decide) ?_
  refine lv_iload_n hx hb dX7_road_19 rfl (lv_at hl 2 rfl) ?_
  refine lv_imul hx hb dX7_road_20 ?_
  rw [nI_m13]
  refine lv_bipush (v := 9) hx hb dX7_road_21 (by decide) ?_
  refine lv_iadd hx hb dX7_road_23 ?_
  rw [nI_ad9]
  refine va_iald hx hb hw.1 hR 0 0 rfl rfl (vp_in_nI (by omega) (by omega)) dX7_road_24 ?_
  rw [nI_clamp (n := 13 * q + 9) (by omega), hN9]
  refine lv_istore_n (lv' := [(3, .int d), (2, .int g), (0, .ref mo), (1, .int (nI q))]) hx hb dX7_road_25 rfl hl (by decide) rfl (fun ls hl => ?_)
  refine lv_aload_n hx hb dX7_road_26 rfl (lv_at hl 2 rfl) ?_
  refine lv_aload_n hx hb dX7_road_27 rfl (lv_at hl 2 rfl) ?_
  refine va_get (D := D) (ci := 6) (v := .double p0) (C := RX7) (T := TX7) (N := 22) hx hb hts hinX7 hown hw.1 hP 0 rfl rfl 1 (by decide) (hts (.fieldLink RX7 56 "WheelSwingModel" "px" "D") (by decide +kernel)) (fun _ h9 => h9) rfl dX7_road_28 ?_
  refine lv_iload_n hx hb dX7_road_31 rfl (lv_at hl 1 rfl) ?_
  refine lv_i2d hx hb dX7_road_32 ?_
  have gw1 := gf_i2d 10 (cB_k kg)
  refine lv_aload_n hx hb dX7_road_33 rfl (lv_at hl 2 rfl) ?_
  refine va_get (D := D) (ci := 6) (v := .double p4) (C := RX7) (T := TX7) (N := 22) hx hb hts hinX7 hown hw.1 hP 0 rfl rfl 5 (by decide) (hts (.fieldLink RX7 69 "WheelSwingModel" "vx" "D") (by decide +kernel)) (fun _ h9 => h9) rfl dX7_road_34 ?_
  have gw2 := gf_mul 826 1164 gw1 g4 (Nat.le_of_ble_eq_true rfl) (Nat.le_of_ble_eq_true rfl) (Nat.le_of_ble_eq_true rfl)
  refine lv_dmul hx hb dX7_road_37 (gf_n64 gw2) ?_
  refine lv_topd (fun v3 ev3 => ?_)
  rw [← ev3] at gw2
  have gw4 := gf_add 826 1165 g0 gw2 (Nat.le_of_ble_eq_true rfl) (Nat.le_of_ble_eq_true rfl) (Nat.le_of_ble_eq_true rfl) (Nat.le_of_ble_eq_true rfl) (Nat.le_of_ble_eq_true rfl)
  refine lv_dadd hx hb dX7_road_38 (gf_n64 gw4) ?_
  refine lv_topd (fun v5 ev5 => ?_)
  rw [← ev5] at gw4
  refine lv_iload_n hx hb dX7_road_39 rfl (lv_at hl 0 rfl) ?_
  refine lv_i2d hx hb dX7_road_40 ?_
  have gw6 := gf_i2d 10 (cB_k kd)
  refine lv_aload_n hx hb dX7_road_41 rfl (lv_at hl 2 rfl) ?_
  refine va_get (D := D) (ci := 6) (v := .double p5) (C := RX7) (T := TX7) (N := 22) hx hb hts hinX7 hown hw.1 hP 0 rfl rfl 6 (by decide) (hts (.fieldLink RX7 72 "WheelSwingModel" "vy" "D") (by decide +kernel)) (fun _ h9 => h9) rfl dX7_road_42 ?_
  have gw7 := gf_mul 872 1163 gw6 g5 (Nat.le_of_ble_eq_true rfl) (Nat.le_of_ble_eq_true rfl) (Nat.le_of_ble_eq_true rfl)
  refine lv_dmul hx hb dX7_road_45 (gf_n64 gw7) ?_
  refine lv_topd (fun v8 ev8 => ?_)
  rw [← ev8] at gw7
  have gw9 := gf_add 826 1166 gw4 gw7 (Nat.le_of_ble_eq_true rfl) (Nat.le_of_ble_eq_true rfl) (Nat.le_of_ble_eq_true rfl) (Nat.le_of_ble_eq_true rfl) (Nat.le_of_ble_eq_true rfl)
  refine lv_dadd hx hb dX7_road_46 (gf_n64 gw9) ?_
  refine lv_topd (fun v10 ev10 => ?_)
  rw [← ev10] at gw9
  have fv10 : v10 = tRx g d p0 p4 p5 := by rw [ev10, ev8, ev5, ev3]; try rfl
  clear ev10 gw9
  subst fv10
  refine va_put (D := D) (ci := 6) (v := .double (tRx g d p0 p4 p5)) (ty := .double) (C := RX7) (T := TX7) (N := 22) hx hb hts hinX7 tyX7 tyX7_ok nmX7 hown hw.1 hP hD hS 0 rfl rfl 7 (by decide) (hts (.fieldLink RX7 75 "WheelSwingModel" "rx" "D") (by decide +kernel)) (fun _ h9 => h9) rfl (by decide +kernel) rfl rfl (Nat.le_of_ble_eq_true rfl) dX7_road_47 (fun H locs hP hD hS => ?_)
  have hP : va_P D vwCl [(mo, .inr (6, [.ref nu, .double p0, .double p1, .double p2, .double p3, .double p4, .double p5, .double (tRx g d p0 p4 p5), .double p7, .double p8, .double p9, .int ct, .int cp, .int cr, .int ctr, .int cfs, .int (nI k), .ref sh, .int (nI k2), .ref ra, .ref rr, .double po]))] H := hP
  have hD : va_D (aE mo) [(mo, .inr (6, [.ref nu, .double p0, .double p1, .double p2, .double p3, .double p4, .double p5, .double (tRx g d p0 p4 p5), .double p7, .double p8, .double p9, .int ct, .int cp, .int cr, .int ctr, .int cfs, .int (nI k), .ref sh, .int (nI k2), .ref ra, .ref rr, .double po]))] := hD
  have hR := fr_rd hR0 hS hnr
  refine lv_aload_n hx hb dX7_road_50 rfl (lv_at hl 2 rfl) ?_
  refine lv_aload_n hx hb dX7_road_51 rfl (lv_at hl 2 rfl) ?_
  refine va_get (D := D) (ci := 6) (v := .double p1) (C := RX7) (T := TX7) (N := 22) hx hb hts hinX7 hown hw.1 hP 0 rfl rfl 2 (by decide) (hts (.fieldLink RX7 60 "WheelSwingModel" "py" "D") (by decide +kernel)) (fun _ h9 => h9) rfl dX7_road_52 ?_
  refine lv_iload_n hx hb dX7_road_55 rfl (lv_at hl 1 rfl) ?_
  refine lv_i2d hx hb dX7_road_56 ?_
  have gw11 := gf_i2d 10 (cB_k kg)
  refine lv_aload_n hx hb dX7_road_57 rfl (lv_at hl 2 rfl) ?_
  refine va_get (D := D) (ci := 6) (v := .double p5) (C := RX7) (T := TX7) (N := 22) hx hb hts hinX7 hown hw.1 hP 0 rfl rfl 6 (by decide) (hts (.fieldLink RX7 72 "WheelSwingModel" "vy" "D") (by decide +kernel)) (fun _ h9 => h9) rfl dX7_road_58 ?_
  have gw12 := gf_mul 872 1163 gw11 g5 (Nat.le_of_ble_eq_true rfl) (Nat.le_of_ble_eq_true rfl) (Nat.le_of_ble_eq_true rfl)
  refine lv_dmul hx hb dX7_road_61 (gf_n64 gw12) ?_
  refine lv_topd (fun v13 ev13 => ?_)
  rw [← ev13] at gw12
  have gw14 := gf_add 872 1164 g1 gw12 (Nat.le_of_ble_eq_true rfl) (Nat.le_of_ble_eq_true rfl) (Nat.le_of_ble_eq_true rfl) (Nat.le_of_ble_eq_true rfl) (Nat.le_of_ble_eq_true rfl)
  refine lv_dadd hx hb dX7_road_62 (gf_n64 gw14) ?_
  refine lv_topd (fun v15 ev15 => ?_)
  rw [← ev15] at gw14
  refine lv_iload_n hx hb dX7_road_63 rfl (lv_at hl 0 rfl) ?_
  refine lv_i2d hx hb dX7_road_64 ?_
  have gw16 := gf_i2d 10 (cB_k kd)
  refine lv_aload_n hx hb dX7_road_65 rfl (lv_at hl 2 rfl) ?_
  refine va_get (D := D) (ci := 6) (v := .double p4) (C := RX7) (T := TX7) (N := 22) hx hb hts hinX7 hown hw.1 hP 0 rfl rfl 5 (by decide) (hts (.fieldLink RX7 69 "WheelSwingModel" "vx" "D") (by decide +kernel)) (fun _ h9 => h9) rfl dX7_road_66 ?_
  have gw17 := gf_mul 826 1164 gw16 g4 (Nat.le_of_ble_eq_true rfl) (Nat.le_of_ble_eq_true rfl) (Nat.le_of_ble_eq_true rfl)
  refine lv_dmul hx hb dX7_road_69 (gf_n64 gw17) ?_
  refine lv_topd (fun v18 ev18 => ?_)
  rw [← ev18] at gw17
  have gw19 := gf_sub 826 1165 gw14 gw17 (Nat.le_of_ble_eq_true rfl) (Nat.le_of_ble_eq_true rfl) (Nat.le_of_ble_eq_true rfl) (Nat.le_of_ble_eq_true rfl) (Nat.le_of_ble_eq_true rfl)
  refine lv_dsub hx hb dX7_road_70 (gf_n64 gw19) ?_
  refine lv_topd (fun v20 ev20 => ?_)
  rw [← ev20] at gw19
  have fv20 : v20 = tRy g d p1 p4 p5 := by rw [ev20, ev18, ev15, ev13]; try rfl
  clear ev20 gw19
  subst fv20
  refine va_put (D := D) (ci := 6) (v := .double (tRy g d p1 p4 p5)) (ty := .double) (C := RX7) (T := TX7) (N := 22) hx hb hts hinX7 tyX7 tyX7_ok nmX7 hown hw.1 hP hD hS 0 rfl rfl 8 (by decide) (hts (.fieldLink RX7 78 "WheelSwingModel" "ry" "D") (by decide +kernel)) (fun _ h9 => h9) rfl (by decide +kernel) rfl rfl (Nat.le_of_ble_eq_true rfl) dX7_road_71 (fun H locs hP hD hS => ?_)
  have hP : va_P D vwCl [(mo, .inr (6, [.ref nu, .double p0, .double p1, .double p2, .double p3, .double p4, .double p5, .double (tRx g d p0 p4 p5), .double (tRy g d p1 p4 p5), .double p8, .double p9, .int ct, .int cp, .int cr, .int ctr, .int cfs, .int (nI k), .ref sh, .int (nI k2), .ref ra, .ref rr, .double po]))] H := hP
  have hD : va_D (aE mo) [(mo, .inr (6, [.ref nu, .double p0, .double p1, .double p2, .double p3, .double p4, .double p5, .double (tRx g d p0 p4 p5), .double (tRy g d p1 p4 p5), .double p8, .double p9, .int ct, .int cp, .int cr, .int ctr, .int cfs, .int (nI k), .ref sh, .int (nI k2), .ref ra, .ref rr, .double po]))] := hD
  have hR := fr_rd hR0 hS hnr
  exact W.vret hx hb hr (fun t ht hW => ⟨⟨[.ref nu, .double p0, .double p1, .double p2, .double p3, .double p4, .double p5, .double (tRx g d p0 p4 p5), .double (tRy g d p1 p4 p5), .double p8, .double p9, .int ct, .int cp, .int cr, .int ctr, .int cfs, .int (nI k), .ref sh, .int (nI k2), .ref ra, .ref rr, .double po], rfl, rfl, at_heap ht (hP 0 _ rfl)⟩, hS.F ht⟩) hS.2.2 dX7_road_74
set_option maxHeartbeats 4000000 in
set_option maxRecDepth 100000 in
theorem mX7_hasCentre (l : Launch) (D : va_G) (cI cH : ClassId) (mo nu sh ra rr k k2 q : Nat) (N : Nat → Int32) (ct cp cr ctr cfs : Int32) (p0 p1 p2 p3 p4 p5 p6 p7 p8 p9 po : UInt64) (U V lx ly a b c sd g d sx sy f : Int32)  (hqq : q < 4) (hne : nu ≠ mo) (hN : hasN N q U V lx ly a b c sd g d sx sy f) (kU : cB U) (kV : cB V) (klx : cB lx) (kly : cB ly) (g0 : fGr 1021 1086 p0) (g1 : fGr 1074 1084 p1) (g2 : fGr 888 1153 p2) (g3 : fGr 934 1152 p3) (g4 : fGr 826 1154 p4) (g5 : fGr 872 1153 p5) : Met l yX7_hasCentre wsX7_hasCentre ({ frames := 0, cells := 0, slots := 0, locals := 0 }) (va_Pc [.ref mo, .int (nI q)] (kB D cI cH [(mo, .inr (6, [.ref nu, .double p0, .double p1, .double p2, .double p3, .double p4, .double p5, .double p6, .double p7, .double p8, .double p9, .int ct, .int cp, .int cr, .int ctr, .int cfs, .int (nI k), .ref sh, .int (nI k2), .ref ra, .ref rr, .double po])), (nu, .inl (cI, 52, .inl N))])) (va_Qi (fun (r : Int32) (u : List Value) => (r = 1 ∧ fv (tN U V lx ly p0 p1 p2 p3) ≠ 0 ∧ u = [.ref nu, .double p0, .double p1, .double p2, .double p3, .double p4, .double p5, .double p6, .double p7, .double (tIx U V lx ly p0 p1 p2 p3), .double (tIy U V lx ly p0 p1 p2 p3), .int ct, .int cp, .int cr, .int ctr, .int cfs, .int (nI k), .ref sh, .int (nI k2), .ref ra, .ref rr, .double po]) ∨ (r = 0 ∧ fv (tN U V lx ly p0 p1 p2 p3) = 0 ∧ u = [.ref nu, .double p0, .double p1, .double p2, .double p3, .double p4, .double p5, .double p6, .double p7, .double p8, .double p9, .int ct, .int cp, .int cr, .int ctr, .int cfs, .int (nI k), .ref sh, .int (nI k2), .ref ra, .ref rr, .double po])) (fun u t => va_at D vwCl (mo, .inr (6, u)) t.heap) (aE mo)) 0 0 (aE mo) := by
  refine Met.ofW (cc := cX7_hasCentre) (maxL := 11) (ret := (some .boolean)) (by decide) rfl ?_
  intro p e s m args below meth co s₁ B hml hv
  obtain ⟨rfl, hP0, hw⟩ := hv
  have hx := B.exec
  have hb := B.bytes
  have hr := B.returns
  have hts := atoms_spec (ws := wsX7_hasCentre) B.pre
  have hown : s.vm.findClass RX7 = some m.cls := findClass_of_methodNamed B.named
  have hlocks := B.notSynchronized
  have hinX7 : ∀ w ∈ wsX70, w ∈ wsX7_hasCentre := by decide +kernel
  have hS : va_S (aE mo) s.heap s.heap [] := va_S.rf
  have hP : va_P D vwCl [(mo, .inr (6, [.ref nu, .double p0, .double p1, .double p2, .double p3, .double p4, .double p5, .double p6, .double p7, .double p8, .double p9, .int ct, .int cp, .int cr, .int ctr, .int cfs, .int (nI k), .ref sh, .int (nI k2), .ref ra, .ref rr, .double po]))] s.heap := hP0.sub [0] rfl
  have hD : va_D (aE mo) [(mo, .inr (6, [.ref nu, .double p0, .double p1, .double p2, .double p3, .double p4, .double p5, .double p6, .double p7, .double p8, .double p9, .int ct, .int cp, .int cr, .int ctr, .int cfs, .int (nI k), .ref sh, .int (nI k2), .ref ra, .ref rr, .double po]))] := D_1 rfl
  have hR0 : va_P D vwCl [(nu, .inl (cI, 52, .inl N))] s.heap := hP0.sub [1] rfl
  have hR := hR0
  have hnr : ∀ (k9 : Nat) (q : Nat × va_E), ([(nu, .inl (cI, 52, .inl N))] : va_W)[k9]? = some q → ¬ (aE mo) q.1 := nn_1 hne nn_0
  obtain ⟨hN0, hN1, hN2, hN3, hN4, hN5, hN6, hN7, hN8, hN9, hN10, hN11, hN12⟩ := id hN
  have hl := lv_entry ([.ref mo, .int (nI q)]) (n := 11) (Nat.le_of_ble_eq_true rfl)
  rw [lg_entry_eq]
  generalize (lg_sl ([.ref mo, .int (nI q)]) ++ List.replicate (11 - (lg_sl ([.ref mo, .int (nI q)])).length) Slot.unset).toArray = ls at hl ⊢
  have hl : lv_has ls 11 [(0, .ref mo), (1, .int (nI q))] := hl
  skip
  refine lv_bipush (v := 13) hx hb dX7_hasCentre_0 (by decide) ?_
  refine lv_iload_n hx hb dX7_hasCentre_2 rfl (lv_at hl 1 rfl) ?_
  refine lv_imul hx hb dX7_hasCentre_3 ?_
  rw [nI_m13]
  refine lv_istore_n (lv' := [(2, .int (nI (13 * q))), (0, .ref mo), (1, .int (nI q))]) hx hb dX7_hasCentre_4 rfl hl (by decide) rfl (fun ls hl => ?_)
  refine lv_aload_n hx hb dX7_hasCentre_5 rfl (lv_at hl 1 rfl) ?_
  refine va_get (D := D) (ci := 6) (v := .ref nu) (C := RX7) (T := TX7) (N := 22) hx hb hts hinX7 hown hw.1 hP 0 rfl rfl 0 (by decide) (hts (.fieldLink RX7 19 "WheelSwingModel" "number" "[I") (by decide +kernel)) (fun _ h9 => h9) rfl dX7_hasCentre_6 ?_
  refine lv_iload_n hx hb dX7_hasCentre_9 rfl (lv_at hl 0 rfl) ?_
  refine va_iald hx hb hw.1 hR 0 0 rfl rfl (vp_in_nI (by omega) (by omega)) dX7_hasCentre_10 ?_
  rw [nI_clamp (n := 13 * q) (by omega), hN0]
  refine lv_istore_n (lv' := [(3, .int U), (2, .int (nI (13 * q))), (0, .ref mo), (1, .int (nI q))]) hx hb dX7_hasCentre_11 rfl hl (by decide) rfl (fun ls hl => ?_)
  refine lv_aload_n hx hb dX7_hasCentre_12 rfl (lv_at hl 2 rfl) ?_
  refine va_get (D := D) (ci := 6) (v := .ref nu) (C := RX7) (T := TX7) (N := 22) hx hb hts hinX7 hown hw.1 hP 0 rfl rfl 0 (by decide) (hts (.fieldLink RX7 19 "WheelSwingModel" "number" "[I") (by decide +kernel)) (fun _ h9 => h9) rfl dX7_hasCentre_13 ?_
  refine lv_iload_n hx hb dX7_hasCentre_16 rfl (lv_at hl 1 rfl) ?_
  refine lv_iconst (v := 1) hx hb dX7_hasCentre_17 (by decide) ?_
  refine lv_iadd hx hb dX7_hasCentre_18 ?_
  rw [nI_ad1]
  refine va_iald hx hb hw.1 hR 0 0 rfl rfl (vp_in_nI (by omega) (by omega)) dX7_hasCentre_19 ?_
  rw [nI_clamp (n := 13 * q + 1) (by omega), hN1]
  refine lv_istore (lv' := [(4, .int V), (3, .int U), (2, .int (nI (13 * q))), (0, .ref mo), (1, .int (nI q))]) hx hb dX7_hasCentre_20 hl (by decide) rfl (fun ls hl => ?_)
  refine lv_aload_n hx hb dX7_hasCentre_22 rfl (lv_at hl 3 rfl) ?_
  refine va_get (D := D) (ci := 6) (v := .ref nu) (C := RX7) (T := TX7) (N := 22) hx hb hts hinX7 hown hw.1 hP 0 rfl rfl 0 (by decide) (hts (.fieldLink RX7 19 "WheelSwingModel" "number" "[I") (by decide +kernel)) (fun _ h9 => h9) rfl dX7_hasCentre_23 ?_
  refine lv_iload_n hx hb dX7_hasCentre_26 rfl (lv_at hl 2 rfl) ?_
  refine lv_iconst (v := 2) hx hb dX7_hasCentre_27 (by decide) ?_
  refine lv_iadd hx hb dX7_hasCentre_28 ?_
  rw [nI_ad2]
  refine va_iald hx hb hw.1 hR 0 0 rfl rfl (vp_in_nI (by omega) (by omega)) dX7_hasCentre_29 ?_
  rw [nI_clamp (n := 13 * q + 2) (by omega), hN2]
  refine lv_istore (lv' := [(5, .int lx), (4, .int V), (3, .int U), (2, .int (nI (13 * q))), (0, .ref mo), (1, .int (nI q))]) hx hb dX7_hasCentre_30 hl (by decide) rfl (fun ls hl => ?_)
  refine lv_aload_n hx hb dX7_hasCentre_32 rfl (lv_at hl 4 rfl) ?_
  refine va_get (D := D) (ci := 6) (v := .ref nu) (C := RX7) (T := TX7) (N := 22) hx hb hts hinX7 hown hw.1 hP 0 rfl rfl 0 (by decide) (hts (.fieldLink RX7 19 "WheelSwingModel" "number" "[I") (by decide +kernel)) (fun _ h9 => h9) rfl dX7_hasCentre_33 ?_
  refine lv_iload_n hx hb dX7_hasCentre_36 rfl (lv_at hl 3 rfl) ?_
  refine lv_iconst (v := 3) hx hb dX7_hasCentre_37 (by decide) ?_
  refine lv_iadd hx hb dX7_hasCentre_38 ?_
  rw [nI_ad3]
  refine va_iald hx hb hw.1 hR 0 0 rfl rfl (vp_in_nI (by omega) (by omega)) dX7_hasCentre_39 ?_
  rw [nI_clamp (n := 13 * q + 3) (by omega), hN3]
  refine lv_istore (lv' := [(6, .int ly), (5, .int lx), (4, .int V), (3, .int U), (2, .int (nI (13 * q))), (0, .ref mo), (1, .int (nI q))]) hx hb dX7_hasCentre_40 hl (by decide) rfl (fun ls hl => ?_)
  refine lv_aload_n hx hb dX7_hasCentre_42 rfl (lv_at hl 5 rfl) ?_
  refine va_get (D := D) (ci := 6) (v := .double p2) (C := RX7) (T := TX7) (N := 22) hx hb hts hinX7 hown hw.1 hP 0 rfl rfl 3 (by decide) (hts (.fieldLink RX7 63 "WheelSwingModel" "qx" "D") (by decide +kernel)) (fun _ h9 => h9) rfl dX7_hasCentre_43 ?_
  refine lv_iload_n hx hb dX7_hasCentre_46 rfl (lv_at hl 3 rfl) ?_
  refine lv_i2d hx hb dX7_hasCentre_47 ?_
  have gw1 := gf_i2d 10 (cB_k kU)
  have gw2 := gf_sub 888 1154 g2 gw1 (Nat.le_of_ble_eq_true rfl) (Nat.le_of_ble_eq_true rfl) (Nat.le_of_ble_eq_true rfl) (Nat.le_of_ble_eq_true rfl) (Nat.le_of_ble_eq_true rfl)
  refine lv_dsub hx hb dX7_hasCentre_48 (gf_n64 gw2) ?_
  refine lv_topd (fun v3 ev3 => ?_)
  rw [← ev3] at gw2
  refine lv_aload_n hx hb dX7_hasCentre_49 rfl (lv_at hl 5 rfl) ?_
  refine va_get (D := D) (ci := 6) (v := .double p1) (C := RX7) (T := TX7) (N := 22) hx hb hts hinX7 hown hw.1 hP 0 rfl rfl 2 (by decide) (hts (.fieldLink RX7 60 "WheelSwingModel" "py" "D") (by decide +kernel)) (fun _ h9 => h9) rfl dX7_hasCentre_50 ?_
  refine lv_iload hx hb dX7_hasCentre_53 (lv_at hl 0 rfl) ?_
  refine lv_i2d hx hb dX7_hasCentre_55 ?_
  have gw4 := gf_i2d 10 (cB_k kly)
  have gw5 := gf_sub 1074 1085 g1 gw4 (Nat.le_of_ble_eq_true rfl) (Nat.le_of_ble_eq_true rfl) (Nat.le_of_ble_eq_true rfl) (Nat.le_of_ble_eq_true rfl) (Nat.le_of_ble_eq_true rfl)
  refine lv_dsub hx hb dX7_hasCentre_56 (gf_n64 gw5) ?_
  refine lv_topd (fun v6 ev6 => ?_)
  rw [← ev6] at gw5
  have gw7 := gf_mul 888 1165 gw2 gw5 (Nat.le_of_ble_eq_true rfl) (Nat.le_of_ble_eq_true rfl) (Nat.le_of_ble_eq_true rfl)
  refine lv_dmul hx hb dX7_hasCentre_57 (gf_n64 gw7) ?_
  refine lv_topd (fun v8 ev8 => ?_)
  rw [← ev8] at gw7
  refine lv_aload_n hx hb dX7_hasCentre_58 rfl (lv_at hl 5 rfl) ?_
  refine va_get (D := D) (ci := 6) (v := .double p3) (C := RX7) (T := TX7) (N := 22) hx hb hts hinX7 hown hw.1 hP 0 rfl rfl 4 (by decide) (hts (.fieldLink RX7 66 "WheelSwingModel" "qy" "D") (by decide +kernel)) (fun _ h9 => h9) rfl dX7_hasCentre_59 ?_
  refine lv_iload hx hb dX7_hasCentre_62 (lv_at hl 2 rfl) ?_
  refine lv_i2d hx hb dX7_hasCentre_64 ?_
  have gw9 := gf_i2d 10 (cB_k kV)
  have gw10 := gf_sub 934 1153 g3 gw9 (Nat.le_of_ble_eq_true rfl) (Nat.le_of_ble_eq_true rfl) (Nat.le_of_ble_eq_true rfl) (Nat.le_of_ble_eq_true rfl) (Nat.le_of_ble_eq_true rfl)
  refine lv_dsub hx hb dX7_hasCentre_65 (gf_n64 gw10) ?_
  refine lv_topd (fun v11 ev11 => ?_)
  rw [← ev11] at gw10
  refine lv_aload_n hx hb dX7_hasCentre_66 rfl (lv_at hl 5 rfl) ?_
  refine va_get (D := D) (ci := 6) (v := .double p0) (C := RX7) (T := TX7) (N := 22) hx hb hts hinX7 hown hw.1 hP 0 rfl rfl 1 (by decide) (hts (.fieldLink RX7 56 "WheelSwingModel" "px" "D") (by decide +kernel)) (fun _ h9 => h9) rfl dX7_hasCentre_67 ?_
  refine lv_iload hx hb dX7_hasCentre_70 (lv_at hl 1 rfl) ?_
  refine lv_i2d hx hb dX7_hasCentre_72 ?_
  have gw12 := gf_i2d 10 (cB_k klx)
  have gw13 := gf_sub 1021 1087 g0 gw12 (Nat.le_of_ble_eq_true rfl) (Nat.le_of_ble_eq_true rfl) (Nat.le_of_ble_eq_true rfl) (Nat.le_of_ble_eq_true rfl) (Nat.le_of_ble_eq_true rfl)
  refine lv_dsub hx hb dX7_hasCentre_73 (gf_n64 gw13) ?_
  refine lv_topd (fun v14 ev14 => ?_)
  rw [← ev14] at gw13
  have gw15 := gf_mul 881 1166 gw10 gw13 (Nat.le_of_ble_eq_true rfl) (Nat.le_of_ble_eq_true rfl) (Nat.le_of_ble_eq_true rfl)
  refine lv_dmul hx hb dX7_hasCentre_74 (gf_n64 gw15) ?_
  refine lv_topd (fun v16 ev16 => ?_)
  rw [← ev16] at gw15
  have gw17 := gf_sub 881 1167 gw7 gw15 (Nat.le_of_ble_eq_true rfl) (Nat.le_of_ble_eq_true rfl) (Nat.le_of_ble_eq_true rfl) (Nat.le_of_ble_eq_true rfl) (Nat.le_of_ble_eq_true rfl)
  refine lv_dsub hx hb dX7_hasCentre_75 (gf_n64 gw17) ?_
  refine lv_topd (fun v18 ev18 => ?_)
  rw [← ev18] at gw17
  have fv18 : v18 = tN U V lx ly p0 p1 p2 p3 := by rw [ev18, ev16, ev14, ev11, ev8, ev6, ev3]; try rfl
  clear ev18 gw17
  subst fv18
  refine lv_dstore (lv' := [(7, .double (tN U V lx ly p0 p1 p2 p3)), (6, .int ly), (5, .int lx), (4, .int V), (3, .int U), (2, .int (nI (13 * q))), (0, .ref mo), (1, .int (nI q))]) hx hb dX7_hasCentre_76 hl (by decide) rfl (fun ls hl => ?_)
  refine lv_dload hx hb dX7_hasCentre_78 (lv_at hl 0 rfl) ?_
  refine lv_dconst0 hx hb dX7_hasCentre_80 ?_
  refine lv_dcmp hx hb dX7_hasCentre_81 ?_
  rw [fp_cv (gz_n kU kV klx kly g0 g1 g2 g3).1 gf_c0.1]
  refine lv_if_ne (tgt := 87) hx hb dX7_hasCentre_82 (by decide) (fun c19 => ?_) (fun c19 => ?_)
  · rw [fcv_eq] at c19
    have hn : fv (tN U V lx ly p0 p1 p2 p3) ≠ 0 := by have hq := c19; rw [fv_c0] at hq; exact hq
    refine lv_iload hx hb dX7_hasCentre_87 (lv_at hl 2 rfl) ?_
    refine lv_iload_n hx hb dX7_hasCentre_89 rfl (lv_at hl 4 rfl) ?_
    refine lv_isub hx hb dX7_hasCentre_90 ?_
    refine lv_i2d hx hb dX7_hasCentre_91 ?_
    have gw20 := gf_i2d 11 (cc2_k klx kU)
    refine lv_aload_n hx hb dX7_hasCentre_92 rfl (lv_at hl 6 rfl) ?_
    refine va_get (D := D) (ci := 6) (v := .double p1) (C := RX7) (T := TX7) (N := 22) hx hb hts hinX7 hown hw.1 hP 0 rfl rfl 2 (by decide) (hts (.fieldLink RX7 60 "WheelSwingModel" "py" "D") (by decide +kernel)) (fun _ h9 => h9) rfl dX7_hasCentre_93 ?_
    refine lv_iload hx hb dX7_hasCentre_96 (lv_at hl 1 rfl) ?_
    refine lv_i2d hx hb dX7_hasCentre_98 ?_
    have gw21 := gf_i2d 10 (cB_k kly)
    have gw22 := gf_sub 1074 1085 g1 gw21 (Nat.le_of_ble_eq_true rfl) (Nat.le_of_ble_eq_true rfl) (Nat.le_of_ble_eq_true rfl) (Nat.le_of_ble_eq_true rfl) (Nat.le_of_ble_eq_true rfl)
    refine lv_dsub hx hb dX7_hasCentre_99 (gf_n64 gw22) ?_
    refine lv_topd (fun v23 ev23 => ?_)
    rw [← ev23] at gw22
    have gw24 := gf_mul 1074 1096 gw20 gw22 (Nat.le_of_ble_eq_true rfl) (Nat.le_of_ble_eq_true rfl) (Nat.le_of_ble_eq_true rfl)
    refine lv_dmul hx hb dX7_hasCentre_100 (gf_n64 gw24) ?_
    refine lv_topd (fun v25 ev25 => ?_)
    rw [← ev25] at gw24
    refine lv_iload hx hb dX7_hasCentre_101 (lv_at hl 1 rfl) ?_
    refine lv_iload hx hb dX7_hasCentre_103 (lv_at hl 3 rfl) ?_
    refine lv_isub hx hb dX7_hasCentre_105 ?_
    refine lv_i2d hx hb dX7_hasCentre_106 ?_
    have gw26 := gf_i2d 11 (cc2_k kly kV)
    refine lv_aload_n hx hb dX7_hasCentre_107 rfl (lv_at hl 6 rfl) ?_
    refine va_get (D := D) (ci := 6) (v := .double p0) (C := RX7) (T := TX7) (N := 22) hx hb hts hinX7 hown hw.1 hP 0 rfl rfl 1 (by decide) (hts (.fieldLink RX7 56 "WheelSwingModel" "px" "D") (by decide +kernel)) (fun _ h9 => h9) rfl dX7_hasCentre_108 ?_
    refine lv_iload hx hb dX7_hasCentre_111 (lv_at hl 2 rfl) ?_
    refine lv_i2d hx hb dX7_hasCentre_113 ?_
    have gw27 := gf_i2d 10 (cB_k klx)
    have gw28 := gf_sub 1021 1087 g0 gw27 (Nat.le_of_ble_eq_true rfl) (Nat.le_of_ble_eq_true rfl) (Nat.le_of_ble_eq_true rfl) (Nat.le_of_ble_eq_true rfl) (Nat.le_of_ble_eq_true rfl)
    refine lv_dsub hx hb dX7_hasCentre_114 (gf_n64 gw28) ?_
    refine lv_topd (fun v29 ev29 => ?_)
    rw [← ev29] at gw28
    have gw30 := gf_mul 1021 1098 gw26 gw28 (Nat.le_of_ble_eq_true rfl) (Nat.le_of_ble_eq_true rfl) (Nat.le_of_ble_eq_true rfl)
    refine lv_dmul hx hb dX7_hasCentre_115 (gf_n64 gw30) ?_
    refine lv_topd (fun v31 ev31 => ?_)
    rw [← ev31] at gw30
    have gw32 := gf_sub 1021 1099 gw24 gw30 (Nat.le_of_ble_eq_true rfl) (Nat.le_of_ble_eq_true rfl) (Nat.le_of_ble_eq_true rfl) (Nat.le_of_ble_eq_true rfl) (Nat.le_of_ble_eq_true rfl)
    refine lv_dsub hx hb dX7_hasCentre_116 (gf_n64 gw32) ?_
    refine lv_topd (fun v33 ev33 => ?_)
    rw [← ev33] at gw32
    refine lv_dload hx hb dX7_hasCentre_117 (lv_at hl 0 rfl) ?_
    have gw34 := gf_div 876 1292 gw32 (gz_n kU kV klx kly g0 g1 g2 g3) hn (Nat.le_of_ble_eq_true rfl) (Nat.le_of_ble_eq_true rfl) (Nat.le_of_ble_eq_true rfl)
    refine lv_ddiv hx hb dX7_hasCentre_119 (gf_n64 gw34) ?_
    refine lv_topd (fun v35 ev35 => ?_)
    rw [← ev35] at gw34
    have fv35 : v35 = tW U V lx ly p0 p1 p2 p3 := by rw [ev35, ev33, ev31, ev29, ev25, ev23]; try rfl
    clear ev35 gw34
    subst fv35
    refine lv_dstore (lv' := [(9, .double (tW U V lx ly p0 p1 p2 p3)), (7, .double (tN U V lx ly p0 p1 p2 p3)), (6, .int ly), (5, .int lx), (4, .int V), (3, .int U), (2, .int (nI (13 * q))), (0, .ref mo), (1, .int (nI q))]) hx hb dX7_hasCentre_120 hl (by decide) rfl (fun ls hl => ?_)
    refine lv_aload_n hx hb dX7_hasCentre_122 rfl (lv_at hl 7 rfl) ?_
    refine lv_iload_n hx hb dX7_hasCentre_123 rfl (lv_at hl 5 rfl) ?_
    refine lv_i2d hx hb dX7_hasCentre_124 ?_
    have gw36 := gf_i2d 10 (cB_k kU)
    refine lv_dload hx hb dX7_hasCentre_125 (lv_at hl 0 rfl) ?_
    refine lv_aload_n hx hb dX7_hasCentre_127 rfl (lv_at hl 7 rfl) ?_
    refine va_get (D := D) (ci := 6) (v := .double p2) (C := RX7) (T := TX7) (N := 22) hx hb hts hinX7 hown hw.1 hP 0 rfl rfl 3 (by decide) (hts (.fieldLink RX7 63 "WheelSwingModel" "qx" "D") (by decide +kernel)) (fun _ h9 => h9) rfl dX7_hasCentre_128 ?_
    refine lv_iload_n hx hb dX7_hasCentre_131 rfl (lv_at hl 5 rfl) ?_
    refine lv_i2d hx hb dX7_hasCentre_132 ?_
    have gw37 := gf_i2d 10 (cB_k kU)
    have gw38 := gf_sub 888 1154 g2 gw37 (Nat.le_of_ble_eq_true rfl) (Nat.le_of_ble_eq_true rfl) (Nat.le_of_ble_eq_true rfl) (Nat.le_of_ble_eq_true rfl) (Nat.le_of_ble_eq_true rfl)
    refine lv_dsub hx hb dX7_hasCentre_133 (gf_n64 gw38) ?_
    refine lv_topd (fun v39 ev39 => ?_)
    rw [← ev39] at gw38
    have gw40 := gf_mul 690 1372 (gz_w kU kV klx kly g0 g1 g2 g3 hn) gw38 (Nat.le_of_ble_eq_true rfl) (Nat.le_of_ble_eq_true rfl) (Nat.le_of_ble_eq_true rfl)
    refine lv_dmul hx hb dX7_hasCentre_134 (gf_n64 gw40) ?_
    refine lv_topd (fun v41 ev41 => ?_)
    rw [← ev41] at gw40
    have gw42 := gf_add 690 1373 gw36 gw40 (Nat.le_of_ble_eq_true rfl) (Nat.le_of_ble_eq_true rfl) (Nat.le_of_ble_eq_true rfl) (Nat.le_of_ble_eq_true rfl) (Nat.le_of_ble_eq_true rfl)
    refine lv_dadd hx hb dX7_hasCentre_135 (gf_n64 gw42) ?_
    refine lv_topd (fun v43 ev43 => ?_)
    rw [← ev43] at gw42
    have fv43 : v43 = tIx U V lx ly p0 p1 p2 p3 := by rw [ev43, ev41, ev39]; try rfl
    clear ev43 gw42
    subst fv43
    refine va_put (D := D) (ci := 6) (v := .double (tIx U V lx ly p0 p1 p2 p3)) (ty := .double) (C := RX7) (T := TX7) (N := 22) hx hb hts hinX7 tyX7 tyX7_ok nmX7 hown hw.1 hP hD hS 0 rfl rfl 9 (by decide) (hts (.fieldLink RX7 81 "WheelSwingModel" "ix" "D") (by decide +kernel)) (fun _ h9 => h9) rfl (by decide +kernel) rfl rfl (Nat.le_of_ble_eq_true rfl) dX7_hasCentre_136 (fun H locs hP hD hS => ?_)
    have hP : va_P D vwCl [(mo, .inr (6, [.ref nu, .double p0, .double p1, .double p2, .double p3, .double p4, .double p5, .double p6, .double p7, .double (tIx U V lx ly p0 p1 p2 p3), .double p9, .int ct, .int cp, .int cr, .int ctr, .int cfs, .int (nI k), .ref sh, .int (nI k2), .ref ra, .ref rr, .double po]))] H := hP
    have hD : va_D (aE mo) [(mo, .inr (6, [.ref nu, .double p0, .double p1, .double p2, .double p3, .double p4, .double p5, .double p6, .double p7, .double (tIx U V lx ly p0 p1 p2 p3), .double p9, .int ct, .int cp, .int cr, .int ctr, .int cfs, .int (nI k), .ref sh, .int (nI k2), .ref ra, .ref rr, .double po]))] := hD
    have hR := fr_rd hR0 hS hnr
    refine lv_aload_n hx hb dX7_hasCentre_139 rfl (lv_at hl 7 rfl) ?_
    refine lv_iload hx hb dX7_hasCentre_140 (lv_at hl 4 rfl) ?_
    refine lv_i2d hx hb dX7_hasCentre_142 ?_
    have gw44 := gf_i2d 10 (cB_k kV)
    refine lv_dload hx hb dX7_hasCentre_143 (lv_at hl 0 rfl) ?_
    refine lv_aload_n hx hb dX7_hasCentre_145 rfl (lv_at hl 7 rfl) ?_
    refine va_get (D := D) (ci := 6) (v := .double p3) (C := RX7) (T := TX7) (N := 22) hx hb hts hinX7 hown hw.1 hP 0 rfl rfl 4 (by decide) (hts (.fieldLink RX7 66 "WheelSwingModel" "qy" "D") (by decide +kernel)) (fun _ h9 => h9) rfl dX7_hasCentre_146 ?_
    refine lv_iload hx hb dX7_hasCentre_149 (lv_at hl 4 rfl) ?_
    refine lv_i2d hx hb dX7_hasCentre_151 ?_
    have gw45 := gf_i2d 10 (cB_k kV)
    have gw46 := gf_sub 934 1153 g3 gw45 (Nat.le_of_ble_eq_true rfl) (Nat.le_of_ble_eq_true rfl) (Nat.le_of_ble_eq_true rfl) (Nat.le_of_ble_eq_true rfl) (Nat.le_of_ble_eq_true rfl)
    refine lv_dsub hx hb dX7_hasCentre_152 (gf_n64 gw46) ?_
    refine lv_topd (fun v47 ev47 => ?_)
    rw [← ev47] at gw46
    have gw48 := gf_mul 736 1371 (gz_w kU kV klx kly g0 g1 g2 g3 hn) gw46 (Nat.le_of_ble_eq_true rfl) (Nat.le_of_ble_eq_true rfl) (Nat.le_of_ble_eq_true rfl)
    refine lv_dmul hx hb dX7_hasCentre_153 (gf_n64 gw48) ?_
    refine lv_topd (fun v49 ev49 => ?_)
    rw [← ev49] at gw48
    have gw50 := gf_add 736 1372 gw44 gw48 (Nat.le_of_ble_eq_true rfl) (Nat.le_of_ble_eq_true rfl) (Nat.le_of_ble_eq_true rfl) (Nat.le_of_ble_eq_true rfl) (Nat.le_of_ble_eq_true rfl)
    refine lv_dadd hx hb dX7_hasCentre_154 (gf_n64 gw50) ?_
    refine lv_topd (fun v51 ev51 => ?_)
    rw [← ev51] at gw50
    have fv51 : v51 = tIy U V lx ly p0 p1 p2 p3 := by rw [ev51, ev49, ev47]; try rfl
    clear ev51 gw50
    subst fv51
    refine va_put (D := D) (ci := 6) (v := .double (tIy U V lx ly p0 p1 p2 p3)) (ty := .double) (C := RX7) (T := TX7) (N := 22) hx hb hts hinX7 tyX7 tyX7_ok nmX7 hown hw.1 hP hD hS 0 rfl rfl 10 (by decide) (hts (.fieldLink RX7 84 "WheelSwingModel" "iy" "D") (by decide +kernel)) (fun _ h9 => h9) rfl (by decide +kernel) rfl rfl (Nat.le_of_ble_eq_true rfl) dX7_hasCentre_155 (fun H locs hP hD hS => ?_)
    have hP : va_P D vwCl [(mo, .inr (6, [.ref nu, .double p0, .double p1, .double p2, .double p3, .double p4, .double p5, .double p6, .double p7, .double (tIx U V lx ly p0 p1 p2 p3), .double (tIy U V lx ly p0 p1 p2 p3), .int ct, .int cp, .int cr, .int ctr, .int cfs, .int (nI k), .ref sh, .int (nI k2), .ref ra, .ref rr, .double po]))] H := hP
    have hD : va_D (aE mo) [(mo, .inr (6, [.ref nu, .double p0, .double p1, .double p2, .double p3, .double p4, .double p5, .double p6, .double p7, .double (tIx U V lx ly p0 p1 p2 p3), .double (tIy U V lx ly p0 p1 p2 p3), .int ct, .int cp, .int cr, .int ctr, .int cfs, .int (nI k), .ref sh, .int (nI k2), .ref ra, .ref rr, .double po]))] := hD
    have hR := fr_rd hR0 hS hnr
    refine lv_iconst (v := 1) hx hb dX7_hasCentre_158 (by decide) ?_
    exact W.zret (v := 1) hx hb hr rfl (fun t ht hW => ⟨⟨1, [.ref nu, .double p0, .double p1, .double p2, .double p3, .double p4, .double p5, .double p6, .double p7, .double (tIx U V lx ly p0 p1 p2 p3), .double (tIy U V lx ly p0 p1 p2 p3), .int ct, .int cp, .int cr, .int ctr, .int cfs, .int (nI k), .ref sh, .int (nI k2), .ref ra, .ref rr, .double po], rfl, Or.inl ⟨rfl, hn, rfl⟩, at_heap ht (hP 0 _ rfl)⟩, hS.F ht⟩) hS.2.2 dX7_hasCentre_159
  · rw [fcv_eq] at c19
    refine lv_iconst (v := 0) hx hb dX7_hasCentre_85 (by decide) ?_
    exact W.zret (v := 0) hx hb hr rfl (fun t ht hW => ⟨⟨0, [.ref nu, .double p0, .double p1, .double p2, .double p3, .double p4, .double p5, .double p6, .double p7, .double p8, .double p9, .int ct, .int cp, .int cr, .int ctr, .int cfs, .int (nI k), .ref sh, .int (nI k2), .ref ra, .ref rr, .double po], rfl, Or.inr ⟨rfl, by have hq := c19; rw [fv_c0] at hq; exact hq, rfl⟩, at_heap ht (hP 0 _ rfl)⟩, hS.F ht⟩) hS.2.2 dX7_hasCentre_86
set_option maxHeartbeats 4000000 in
set_option maxRecDepth 100000 in
theorem mX7_lengthAt (l : Launch) (D : va_G) (cI cH : ClassId) (mo nu sh ra rr k k2 q : Nat) (N : Nat → Int32) (ct cp cr ctr cfs : Int32) (p0 p1 p2 p3 p4 p5 p6 p7 p8 p9 po : UInt64) (U V lx ly a b c sd g d sx sy f : Int32)  (hqq : q < 4) (hne : nu ≠ mo) (hN : hasN N q U V lx ly a b c sd g d sx sy f) (klx : cB lx) (kly : cB ly) (ksx : cB sx) (ksy : cB sy) (kf : zB f) (g0 : fGr 1021 1086 p0) (g1 : fGr 1074 1084 p1) : Met l yX7_lengthAt wsX7_lengthAt ({ frames := 1, cells := 0, slots := 0, locals := 35 }) (va_Pc [.ref mo, .int (nI q)] (kB D cI cH [(mo, .inr (6, [.ref nu, .double p0, .double p1, .double p2, .double p3, .double p4, .double p5, .double p6, .double p7, .double p8, .double p9, .int ct, .int cp, .int cr, .int ctr, .int cfs, .int (nI k), .ref sh, .int (nI k2), .ref ra, .ref rr, .double po])), (nu, .inl (cI, 52, .inl N))])) (va_Qd (fun (r : UInt64) (u : Unit) => r = tL lx ly sx sy f p0 p1) (fun _ _ => True) nA) 0 0 nA := by
  refine Met.ofW (cc := cX7_lengthAt) (maxL := 12) (ret := (some .double)) (by decide) rfl ?_
  intro p e s m args below meth co s₁ B hml hv
  obtain ⟨rfl, hP0, hw⟩ := hv
  have hx := B.exec
  have hb := B.bytes
  have hr := B.returns
  have hts := atoms_spec (ws := wsX7_lengthAt) B.pre
  have hown : s.vm.findClass RX7 = some m.cls := findClass_of_methodNamed B.named
  have hlocks := B.notSynchronized
  have hinX7 : ∀ w ∈ wsX70, w ∈ wsX7_lengthAt := by decide +kernel
  have hS : va_S nA s.heap s.heap [] := va_S.rf
  have hR0 : va_P D vwCl [(mo, .inr (6, [.ref nu, .double p0, .double p1, .double p2, .double p3, .double p4, .double p5, .double p6, .double p7, .double p8, .double p9, .int ct, .int cp, .int cr, .int ctr, .int cfs, .int (nI k), .ref sh, .int (nI k2), .ref ra, .ref rr, .double po])), (nu, .inl (cI, 52, .inl N))] s.heap := hP0.sub [0, 1] rfl
  have hR := hR0
  have hnr : ∀ (k9 : Nat) (q : Nat × va_E), ([(mo, .inr (6, [.ref nu, .double p0, .double p1, .double p2, .double p3, .double p4, .double p5, .double p6, .double p7, .double p8, .double p9, .int ct, .int cp, .int cr, .int ctr, .int cfs, .int (nI k), .ref sh, .int (nI k2), .ref ra, .ref rr, .double po])), (nu, .inl (cI, 52, .inl N))] : va_W)[k9]? = some q → ¬ nA q.1 := fr_nA
  obtain ⟨hN0, hN1, hN2, hN3, hN4, hN5, hN6, hN7, hN8, hN9, hN10, hN11, hN12⟩ := id hN
  have hl := lv_entry ([.ref mo, .int (nI q)]) (n := 12) (Nat.le_of_ble_eq_true rfl)
  rw [lg_entry_eq]
  generalize (lg_sl ([.ref mo, .int (nI q)]) ++ List.replicate (12 - (lg_sl ([.ref mo, .int (nI q)])).length) Slot.unset).toArray = ls at hl ⊢
  have hl : lv_has ls 12 [(0, .ref mo), (1, .int (nI q))] := hl
  skip
  refine lv_bipush (v := 13) hx hb dX7_lengthAt_0 (by decide) ?_
  refine lv_iload_n hx hb dX7_lengthAt_2 rfl (lv_at hl 1 rfl) ?_
  refine lv_imul hx hb dX7_lengthAt_3 ?_
  rw [nI_m13]
  refine lv_istore_n (lv' := [(2, .int (nI (13 * q))), (0, .ref mo), (1, .int (nI q))]) hx hb dX7_lengthAt_4 rfl hl (by decide) rfl (fun ls hl => ?_)
  refine lv_aload_n hx hb dX7_lengthAt_5 rfl (lv_at hl 1 rfl) ?_
  refine va_get (D := D) (ci := 6) (v := .ref nu) (C := RX7) (T := TX7) (N := 22) hx hb hts hinX7 hown hw.1 hR 0 rfl rfl 0 (by decide) (hts (.fieldLink RX7 19 "WheelSwingModel" "number" "[I") (by decide +kernel)) (fun _ h9 => h9) rfl dX7_lengthAt_6 ?_
  refine lv_iload_n hx hb dX7_lengthAt_9 rfl (lv_at hl 0 rfl) ?_
  refine lv_bipush (v := 12) hx hb dX7_lengthAt_10 (by decide) ?_
  refine lv_iadd hx hb dX7_lengthAt_12 ?_
  rw [nI_ad12]
  refine va_iald hx hb hw.1 hR 1 0 rfl rfl (vp_in_nI (by omega) (by omega)) dX7_lengthAt_13 ?_
  rw [nI_clamp (n := 13 * q + 12) (by omega), hN12]
  refine lv_istore_n (lv' := [(3, .int f), (2, .int (nI (13 * q))), (0, .ref mo), (1, .int (nI q))]) hx hb dX7_lengthAt_14 rfl hl (by decide) rfl (fun ls hl => ?_)
  refine lv_aload_n hx hb dX7_lengthAt_15 rfl (lv_at hl 2 rfl) ?_
  refine va_get (D := D) (ci := 6) (v := .ref nu) (C := RX7) (T := TX7) (N := 22) hx hb hts hinX7 hown hw.1 hR 0 rfl rfl 0 (by decide) (hts (.fieldLink RX7 19 "WheelSwingModel" "number" "[I") (by decide +kernel)) (fun _ h9 => h9) rfl dX7_lengthAt_16 ?_
  refine lv_iload_n hx hb dX7_lengthAt_19 rfl (lv_at hl 1 rfl) ?_
  refine lv_iconst (v := 2) hx hb dX7_lengthAt_20 (by decide) ?_
  refine lv_iadd hx hb dX7_lengthAt_21 ?_
  rw [nI_ad2]
  refine va_iald hx hb hw.1 hR 1 0 rfl rfl (vp_in_nI (by omega) (by omega)) dX7_lengthAt_22 ?_
  rw [nI_clamp (n := 13 * q + 2) (by omega), hN2]
  refine lv_i2d hx hb dX7_lengthAt_23 ?_
  have gw1 := gf_i2d 10 (cB_k klx)
  refine lv_iload_n hx hb dX7_lengthAt_24 rfl (lv_at hl 0 rfl) ?_
  refine lv_i2d hx hb dX7_lengthAt_25 ?_
  have gw2 := gf_i2d 10 (f_k kf)
  refine lv_aload_n hx hb dX7_lengthAt_26 rfl (lv_at hl 2 rfl) ?_
  refine va_get (D := D) (ci := 6) (v := .double p0) (C := RX7) (T := TX7) (N := 22) hx hb hts hinX7 hown hw.1 hR 0 rfl rfl 1 (by decide) (hts (.fieldLink RX7 56 "WheelSwingModel" "px" "D") (by decide +kernel)) (fun _ h9 => h9) rfl dX7_lengthAt_27 ?_
  refine lv_aload_n hx hb dX7_lengthAt_30 rfl (lv_at hl 2 rfl) ?_
  refine va_get (D := D) (ci := 6) (v := .ref nu) (C := RX7) (T := TX7) (N := 22) hx hb hts hinX7 hown hw.1 hR 0 rfl rfl 0 (by decide) (hts (.fieldLink RX7 19 "WheelSwingModel" "number" "[I") (by decide +kernel)) (fun _ h9 => h9) rfl dX7_lengthAt_31 ?_
  refine lv_iload_n hx hb dX7_lengthAt_34 rfl (lv_at hl 1 rfl) ?_
  refine lv_iconst (v := 2) hx hb dX7_lengthAt_35 (by decide) ?_
  refine lv_iadd hx hb dX7_lengthAt_36 ?_
  rw [nI_ad2]
  refine va_iald hx hb hw.1 hR 1 0 rfl rfl (vp_in_nI (by omega) (by omega)) dX7_lengthAt_37 ?_
  rw [nI_clamp (n := 13 * q + 2) (by omega), hN2]
  refine lv_i2d hx hb dX7_lengthAt_38 ?_
  have gw3 := gf_i2d 10 (cB_k klx)
  have gw4 := gf_sub 1021 1087 g0 gw3 (Nat.le_of_ble_eq_true rfl) (Nat.le_of_ble_eq_true rfl) (Nat.le_of_ble_eq_true rfl) (Nat.le_of_ble_eq_true rfl) (Nat.le_of_ble_eq_true rfl)
  refine lv_dsub hx hb dX7_lengthAt_39 (gf_n64 gw4) ?_
  refine lv_topd (fun v5 ev5 => ?_)
  rw [← ev5] at gw4
  have gw6 := gf_mul 1021 1097 gw2 gw4 (Nat.le_of_ble_eq_true rfl) (Nat.le_of_ble_eq_true rfl) (Nat.le_of_ble_eq_true rfl)
  refine lv_dmul hx hb dX7_lengthAt_40 (gf_n64 gw6) ?_
  refine lv_topd (fun v7 ev7 => ?_)
  rw [← ev7] at gw6
  refine lv_ldc2d hx hb hown (hts (.constantDouble RX7 87 (4652007308841189376)) (by decide +kernel)) dX7_lengthAt_41 ?_
  have gw8 := gf_div 959 1094 gw6 gf_1000 ne_1000 (Nat.le_of_ble_eq_true rfl) (Nat.le_of_ble_eq_true rfl) (Nat.le_of_ble_eq_true rfl)
  refine lv_ddiv hx hb dX7_lengthAt_44 (gf_n64 gw8) ?_
  refine lv_topd (fun v9 ev9 => ?_)
  rw [← ev9] at gw8
  have gw10 := gf_add 959 1095 gw1 gw8 (Nat.le_of_ble_eq_true rfl) (Nat.le_of_ble_eq_true rfl) (Nat.le_of_ble_eq_true rfl) (Nat.le_of_ble_eq_true rfl) (Nat.le_of_ble_eq_true rfl)
  refine lv_dadd hx hb dX7_lengthAt_45 (gf_n64 gw10) ?_
  refine lv_topd (fun v11 ev11 => ?_)
  rw [← ev11] at gw10
  refine lv_dstore (lv' := [(4, .double v11), (3, .int f), (2, .int (nI (13 * q))), (0, .ref mo), (1, .int (nI q))]) hx hb dX7_lengthAt_46 hl (by decide) rfl (fun ls hl => ?_)
  refine lv_aload_n hx hb dX7_lengthAt_48 rfl (lv_at hl 3 rfl) ?_
  refine va_get (D := D) (ci := 6) (v := .ref nu) (C := RX7) (T := TX7) (N := 22) hx hb hts hinX7 hown hw.1 hR 0 rfl rfl 0 (by decide) (hts (.fieldLink RX7 19 "WheelSwingModel" "number" "[I") (by decide +kernel)) (fun _ h9 => h9) rfl dX7_lengthAt_49 ?_
  refine lv_iload_n hx hb dX7_lengthAt_52 rfl (lv_at hl 2 rfl) ?_
  refine lv_iconst (v := 3) hx hb dX7_lengthAt_53 (by decide) ?_
  refine lv_iadd hx hb dX7_lengthAt_54 ?_
  rw [nI_ad3]
  refine va_iald hx hb hw.1 hR 1 0 rfl rfl (vp_in_nI (by omega) (by omega)) dX7_lengthAt_55 ?_
  rw [nI_clamp (n := 13 * q + 3) (by omega), hN3]
  refine lv_i2d hx hb dX7_lengthAt_56 ?_
  have gw12 := gf_i2d 10 (cB_k kly)
  refine lv_iload_n hx hb dX7_lengthAt_57 rfl (lv_at hl 1 rfl) ?_
  refine lv_i2d hx hb dX7_lengthAt_58 ?_
  have gw13 := gf_i2d 10 (f_k kf)
  refine lv_aload_n hx hb dX7_lengthAt_59 rfl (lv_at hl 3 rfl) ?_
  refine va_get (D := D) (ci := 6) (v := .double p1) (C := RX7) (T := TX7) (N := 22) hx hb hts hinX7 hown hw.1 hR 0 rfl rfl 2 (by decide) (hts (.fieldLink RX7 60 "WheelSwingModel" "py" "D") (by decide +kernel)) (fun _ h9 => h9) rfl dX7_lengthAt_60 ?_
  refine lv_aload_n hx hb dX7_lengthAt_63 rfl (lv_at hl 3 rfl) ?_
  refine va_get (D := D) (ci := 6) (v := .ref nu) (C := RX7) (T := TX7) (N := 22) hx hb hts hinX7 hown hw.1 hR 0 rfl rfl 0 (by decide) (hts (.fieldLink RX7 19 "WheelSwingModel" "number" "[I") (by decide +kernel)) (fun _ h9 => h9) rfl dX7_lengthAt_64 ?_
  refine lv_iload_n hx hb dX7_lengthAt_67 rfl (lv_at hl 2 rfl) ?_
  refine lv_iconst (v := 3) hx hb dX7_lengthAt_68 (by decide) ?_
  refine lv_iadd hx hb dX7_lengthAt_69 ?_
  rw [nI_ad3]
  refine va_iald hx hb hw.1 hR 1 0 rfl rfl (vp_in_nI (by omega) (by omega)) dX7_lengthAt_70 ?_
  rw [nI_clamp (n := 13 * q + 3) (by omega), hN3]
  refine lv_i2d hx hb dX7_lengthAt_71 ?_
  have gw14 := gf_i2d 10 (cB_k kly)
  have gw15 := gf_sub 1074 1085 g1 gw14 (Nat.le_of_ble_eq_true rfl) (Nat.le_of_ble_eq_true rfl) (Nat.le_of_ble_eq_true rfl) (Nat.le_of_ble_eq_true rfl) (Nat.le_of_ble_eq_true rfl)
  refine lv_dsub hx hb dX7_lengthAt_72 (gf_n64 gw15) ?_
  refine lv_topd (fun v16 ev16 => ?_)
  rw [← ev16] at gw15
  have gw17 := gf_mul 1074 1095 gw13 gw15 (Nat.le_of_ble_eq_true rfl) (Nat.le_of_ble_eq_true rfl) (Nat.le_of_ble_eq_true rfl)
  refine lv_dmul hx hb dX7_lengthAt_73 (gf_n64 gw17) ?_
  refine lv_topd (fun v18 ev18 => ?_)
  rw [← ev18] at gw17
  refine lv_ldc2d hx hb hown (hts (.constantDouble RX7 87 (4652007308841189376)) (by decide +kernel)) dX7_lengthAt_74 ?_
  have gw19 := gf_div 1012 1092 gw17 gf_1000 ne_1000 (Nat.le_of_ble_eq_true rfl) (Nat.le_of_ble_eq_true rfl) (Nat.le_of_ble_eq_true rfl)
  refine lv_ddiv hx hb dX7_lengthAt_77 (gf_n64 gw19) ?_
  refine lv_topd (fun v20 ev20 => ?_)
  rw [← ev20] at gw19
  have gw21 := gf_add 1012 1093 gw12 gw19 (Nat.le_of_ble_eq_true rfl) (Nat.le_of_ble_eq_true rfl) (Nat.le_of_ble_eq_true rfl) (Nat.le_of_ble_eq_true rfl) (Nat.le_of_ble_eq_true rfl)
  refine lv_dadd hx hb dX7_lengthAt_78 (gf_n64 gw21) ?_
  refine lv_topd (fun v22 ev22 => ?_)
  rw [← ev22] at gw21
  refine lv_dstore (lv' := [(6, .double v22), (4, .double v11), (3, .int f), (2, .int (nI (13 * q))), (0, .ref mo), (1, .int (nI q))]) hx hb dX7_lengthAt_79 hl (by decide) rfl (fun ls hl => ?_)
  refine lv_dload hx hb dX7_lengthAt_81 (lv_at hl 1 rfl) ?_
  refine lv_aload_n hx hb dX7_lengthAt_83 rfl (lv_at hl 4 rfl) ?_
  refine va_get (D := D) (ci := 6) (v := .ref nu) (C := RX7) (T := TX7) (N := 22) hx hb hts hinX7 hown hw.1 hR 0 rfl rfl 0 (by decide) (hts (.fieldLink RX7 19 "WheelSwingModel" "number" "[I") (by decide +kernel)) (fun _ h9 => h9) rfl dX7_lengthAt_84 ?_
  refine lv_iload_n hx hb dX7_lengthAt_87 rfl (lv_at hl 3 rfl) ?_
  refine lv_bipush (v := 10) hx hb dX7_lengthAt_88 (by decide) ?_
  refine lv_iadd hx hb dX7_lengthAt_90 ?_
  rw [nI_ad10]
  refine va_iald hx hb hw.1 hR 1 0 rfl rfl (vp_in_nI (by omega) (by omega)) dX7_lengthAt_91 ?_
  rw [nI_clamp (n := 13 * q + 10) (by omega), hN10]
  refine lv_i2d hx hb dX7_lengthAt_92 ?_
  have gw23 := gf_i2d 10 (cB_k ksx)
  have gw24 := gf_sub 959 1096 gw10 gw23 (Nat.le_of_ble_eq_true rfl) (Nat.le_of_ble_eq_true rfl) (Nat.le_of_ble_eq_true rfl) (Nat.le_of_ble_eq_true rfl) (Nat.le_of_ble_eq_true rfl)
  refine lv_dsub hx hb dX7_lengthAt_93 (gf_n64 gw24) ?_
  refine lv_topd (fun v25 ev25 => ?_)
  rw [← ev25] at gw24
  have fv25 : v25 = tTx lx sx f p0 := by rw [ev25, ev11, ev9, ev7, ev5]; try rfl
  clear ev25 gw24
  subst fv25
  refine lv_dstore (lv' := [(8, .double (tTx lx sx f p0)), (6, .double v22), (4, .double v11), (3, .int f), (2, .int (nI (13 * q))), (0, .ref mo), (1, .int (nI q))]) hx hb dX7_lengthAt_94 hl (by decide) rfl (fun ls hl => ?_)
  refine lv_dload hx hb dX7_lengthAt_96 (lv_at hl 1 rfl) ?_
  refine lv_aload_n hx hb dX7_lengthAt_98 rfl (lv_at hl 5 rfl) ?_
  refine va_get (D := D) (ci := 6) (v := .ref nu) (C := RX7) (T := TX7) (N := 22) hx hb hts hinX7 hown hw.1 hR 0 rfl rfl 0 (by decide) (hts (.fieldLink RX7 19 "WheelSwingModel" "number" "[I") (by decide +kernel)) (fun _ h9 => h9) rfl dX7_lengthAt_99 ?_
  refine lv_iload_n hx hb dX7_lengthAt_102 rfl (lv_at hl 4 rfl) ?_
  refine lv_bipush (v := 11) hx hb dX7_lengthAt_103 (by decide) ?_
  refine lv_iadd hx hb dX7_lengthAt_105 ?_
  rw [nI_ad11]
  refine va_iald hx hb hw.1 hR 1 0 rfl rfl (vp_in_nI (by omega) (by omega)) dX7_lengthAt_106 ?_
  rw [nI_clamp (n := 13 * q + 11) (by omega), hN11]
  refine lv_i2d hx hb dX7_lengthAt_107 ?_
  have gw26 := gf_i2d 10 (cB_k ksy)
  have gw27 := gf_sub 1012 1094 gw21 gw26 (Nat.le_of_ble_eq_true rfl) (Nat.le_of_ble_eq_true rfl) (Nat.le_of_ble_eq_true rfl) (Nat.le_of_ble_eq_true rfl) (Nat.le_of_ble_eq_true rfl)
  refine lv_dsub hx hb dX7_lengthAt_108 (gf_n64 gw27) ?_
  refine lv_topd (fun v28 ev28 => ?_)
  rw [← ev28] at gw27
  have fv28 : v28 = tTx ly sy f p1 := by rw [ev28, ev22, ev20, ev18, ev16]; try rfl
  clear ev28 gw27
  subst fv28
  refine lv_dstore (lv' := [(10, .double (tTx ly sy f p1)), (8, .double (tTx lx sx f p0)), (6, .double v22), (4, .double v11), (3, .int f), (2, .int (nI (13 * q))), (0, .ref mo), (1, .int (nI q))]) hx hb dX7_lengthAt_109 hl (by decide) rfl (fun ls hl => ?_)
  refine lv_dload hx hb dX7_lengthAt_111 (lv_at hl 1 rfl) ?_
  refine lv_dload hx hb dX7_lengthAt_113 (lv_at hl 1 rfl) ?_
  have gw29 := gf_mul 844 1118 (gz_tx klx ksx kf g0) (gz_tx klx ksx kf g0) (Nat.le_of_ble_eq_true rfl) (Nat.le_of_ble_eq_true rfl) (Nat.le_of_ble_eq_true rfl)
  refine lv_dmul hx hb dX7_lengthAt_115 (gf_n64 gw29) ?_
  refine lv_topd (fun v30 ev30 => ?_)
  rw [← ev30] at gw29
  refine lv_dload hx hb dX7_lengthAt_116 (lv_at hl 0 rfl) ?_
  refine lv_dload hx hb dX7_lengthAt_118 (lv_at hl 0 rfl) ?_
  have gw31 := gf_mul 950 1114 (gz_ty kly ksy kf g1) (gz_ty kly ksy kf g1) (Nat.le_of_ble_eq_true rfl) (Nat.le_of_ble_eq_true rfl) (Nat.le_of_ble_eq_true rfl)
  refine lv_dmul hx hb dX7_lengthAt_120 (gf_n64 gw31) ?_
  refine lv_topd (fun v32 ev32 => ?_)
  rw [← ev32] at gw31
  have gw33 := gf_add 844 1119 gw29 gw31 (Nat.le_of_ble_eq_true rfl) (Nat.le_of_ble_eq_true rfl) (Nat.le_of_ble_eq_true rfl) (Nat.le_of_ble_eq_true rfl) (Nat.le_of_ble_eq_true rfl)
  refine lv_dadd hx hb dX7_lengthAt_121 (gf_n64 gw33) ?_
  refine lv_topd (fun v34 ev34 => ?_)
  rw [← ev34] at gw33
  have fv34 : v34 = tL2 lx ly sx sy f p0 p1 := by rw [ev34, ev32, ev30]; try rfl
  clear ev34 gw33
  subst fv34
  refine va_calld (va_runS (As := [.double (tL2 lx ly sx sy f p0 p1)]) (rest := []) ⟨hx, hb, hml, hown, hts⟩ (mX7_root l (tL2 lx ly sx sy f p0 p1) (gz_l2rt klx kly ksx ksy kf g0 g1)) (va_cwS 1 hts gX7_lengthAt_X7_root rfl rfl rfl (by decide +kernel) ⟨Nat.le_of_ble_eq_true rfl, Nat.le_of_ble_eq_true rfl⟩) ⟨tB_blind, tB_go⟩ rfl rfl hl.1 rfl (lv_room (Nat.le_of_ble_eq_true rfl)) dX7_lengthAt_122 ⟨Nat.le_of_ble_eq_true rfl, Nat.le_of_ble_eq_true rfl⟩) hS (fun q _ h => h.elim) (fun q h => h.elim) (fun r35 u36 t H locs ht hvm hp37 hB hz1 hk1 hS => ?_)
  have hR := fr_rd hR0 hS hnr
  obtain ⟨rfl, hi38⟩ := hp37
  have gw39 := gf_sq 906 1098 hi38 (gz_l2 klx kly ksx ksy kf g0 g1) (Nat.le_of_ble_eq_true rfl) (Nat.le_of_ble_eq_true rfl)
  exact W.dret (v := fsq (tL2 lx ly sx sy f p0 p1)) hx hb hr (fun t ht hW => ⟨⟨fsq (tL2 lx ly sx sy f p0 p1), (), rfl, rfl, trivial⟩, hS.F ht⟩) hS.2.2 dX7_lengthAt_125
