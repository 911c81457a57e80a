/-! THE STAND: where a hanging stands at one y (class X5) -/
abbrev aE (a : Nat) : Nat → Prop := fun q => q = a
theorem at_heap {D : va_G} {cl : List vw_C} {q : Nat × va_E} {H : Heap} {t : State} (ht : t.heap = H) (h : va_at D cl q H) : va_at D cl q t.heap := by rw [ht]; exact h
def isSt (u : List Value) : Prop := ∃ (i j : Int32) (x0 x1 x2 x3 x4 x5 x6 x7 x8 x9 x10 x11 : UInt64), u = [.int i, .int j, .double x0, .double x1, .double x2, .double x3, .double x4, .double x5, .double x6, .double x7, .double x8, .double x9, .double x10, .double x11]
set_option maxHeartbeats 4000000 in
set_option maxRecDepth 100000 in
theorem mX5_reach (l : Launch) (D : va_G) (cI cH : ClassId) (st hg : Nat) (s0 s1 : Int32) (p0 p1 p2 p3 p4 p5 p6 p7 p8 p9 p10 p11 : UInt64) (ux uy a lx ly b c sd g d sx sy f : Int32) (U V y : Int32)  (hne : hg ≠ st) (hh : pB U V lx ly a b c y) : Met l yX5_reach wsX5_reach ({ frames := 3, cells := 0, slots := 0, locals := 79 }) (va_Pc [.ref st, .ref hg, .int U, .int V, .int y] (kB D cI cH [(st, .inr (4, [.int s0, .int s1, .double p0, .double p1, .double p2, .double p3, .double p4, .double p5, .double p6, .double p7, .double p8, .double p9, .double p10, .double p11])), (hg, .inr (1, [.int ux, .int uy, .int a, .int lx, .int ly, .int b, .int c, .int sd, .int g, .int d, .int sx, .int sy, .int f]))])) (va_Qi (fun (r : Int32) (u : List Value) => (r = 1 ∧ tFree U V lx ly a b c y ∧ u = [.int U, .int V, .double (tPx lx ly b y), .double (FP.i2d y), .double p2, .double p3, .double p4, .double p5, .double p6, .double p7, .double (tDx U lx ly b y), .double (tDy V y), .double (tM U V lx ly a b c y), .double (tK U V lx ly a b c y)]) ∨ (r = 0 ∧ ¬ tFree U V lx ly a b c y ∧ isSt u)) (fun u t => va_at D vwCl (st, .inr (4, u)) t.heap) (aE st)) 0 0 (aE st) := by
  refine Met.ofW (cc := cX5_reach) (maxL := 8) (ret := (some .boolean)) (by decide) rfl ?_
  intro p e s m args below meth co s₁ B hml hv
  obtain ⟨rfl, hP0, hw⟩ := hv
  have hx := B.exec
  have hb := B.bytes
  have hr := B.returns
  have hts := atoms_spec (ws := wsX5_reach) B.pre
  have hown : s.vm.findClass RX5 = some m.cls := findClass_of_methodNamed B.named
  have hlocks := B.notSynchronized
  have hinX2 : ∀ w ∈ wsX20, w ∈ wsX5_reach := by decide +kernel
  have hinX5 : ∀ w ∈ wsX50, w ∈ wsX5_reach := by decide +kernel
  have hS : va_S (aE st) s.heap s.heap [] := va_S.rf
  have hP : va_P D vwCl [(st, .inr (4, [.int s0, .int s1, .double p0, .double p1, .double p2, .double p3, .double p4, .double p5, .double p6, .double p7, .double p8, .double p9, .double p10, .double p11]))] s.heap := hP0.sub [0] rfl
  have hD : va_D (aE st) [(st, .inr (4, [.int s0, .int s1, .double p0, .double p1, .double p2, .double p3, .double p4, .double p5, .double p6, .double p7, .double p8, .double p9, .double p10, .double p11]))] := D_1 rfl
  have hR0 : va_P D vwCl [(hg, .inr (1, [.int ux, .int uy, .int a, .int lx, .int ly, .int b, .int c, .int sd, .int g, .int d, .int sx, .int sy, .int f]))] s.heap := hP0.sub [1] rfl
  have hR := hR0
  have hnr : ∀ (k : Nat) (q : Nat × va_E), ([(hg, .inr (1, [.int ux, .int uy, .int a, .int lx, .int ly, .int b, .int c, .int sd, .int g, .int d, .int sx, .int sy, .int f]))] : va_W)[k]? = some q → ¬ (aE st) q.1 := nn_1 hne nn_0
  obtain ⟨kU, kV, klx, kly, ka, kb, kc, ky⟩ := id hh
  have hl := lv_entry ([.ref st, .ref hg, .int U, .int V, .int y]) (n := 8) (Nat.le_of_ble_eq_true rfl)
  rw [lg_entry_eq]
  generalize (lg_sl ([.ref st, .ref hg, .int U, .int V, .int y]) ++ List.replicate (8 - (lg_sl ([.ref st, .ref hg, .int U, .int V, .int y])).length) Slot.unset).toArray = ls at hl ⊢
  have hl : lv_has ls 8 [(0, .ref st), (1, .ref hg), (2, .int U), (3, .int V), (4, .int y)] := hl
  skip
  refine lv_aload_n hx hb dX5_reach_0 rfl (lv_at hl 1 rfl) ?_
  refine va_getN (host := "WheelSwing") (D := D) (ci := 1) (v := .int b) (C := RX2) (T := TX2) (N := 13) hx hb hts hinX2 hown hw.1 hR 0 rfl rfl 5 (by decide) (va_Nw.use rfl (hw.2 (.fieldLinkNest RX5 7 "WheelSwing$Hanging" "b" "I" "WheelSwing") (by decide +kernel))) (fun _ h9 => h9) rfl dX5_reach_1 ?_
  refine lv_aload_n hx hb dX5_reach_4 rfl (lv_at hl 1 rfl) ?_
  refine va_getN (host := "WheelSwing") (D := D) (ci := 1) (v := .int b) (C := RX2) (T := TX2) (N := 13) hx hb hts hinX2 hown hw.1 hR 0 rfl rfl 5 (by decide) (va_Nw.use rfl (hw.2 (.fieldLinkNest RX5 7 "WheelSwing$Hanging" "b" "I" "WheelSwing") (by decide +kernel))) (fun _ h9 => h9) rfl dX5_reach_5 ?_
  refine lv_imul hx hb dX5_reach_8 ?_
  refine lv_iload hx hb dX5_reach_9 (lv_at hl 4 rfl) ?_
  refine lv_aload_n hx hb dX5_reach_11 rfl (lv_at hl 1 rfl) ?_
  refine va_getN (host := "WheelSwing") (D := D) (ci := 1) (v := .int ly) (C := RX2) (T := TX2) (N := 13) hx hb hts hinX2 hown hw.1 hR 0 rfl rfl 4 (by decide) (va_Nw.use rfl (hw.2 (.fieldLinkNest RX5 13 "WheelSwing$Hanging" "ly" "I" "WheelSwing") (by decide +kernel))) (fun _ h9 => h9) rfl dX5_reach_12 ?_
  refine lv_isub hx hb dX5_reach_15 ?_
  refine lv_iload hx hb dX5_reach_16 (lv_at hl 4 rfl) ?_
  refine lv_aload_n hx hb dX5_reach_18 rfl (lv_at hl 1 rfl) ?_
  refine va_getN (host := "WheelSwing") (D := D) (ci := 1) (v := .int ly) (C := RX2) (T := TX2) (N := 13) hx hb hts hinX2 hown hw.1 hR 0 rfl rfl 4 (by decide) (va_Nw.use rfl (hw.2 (.fieldLinkNest RX5 13 "WheelSwing$Hanging" "ly" "I" "WheelSwing") (by decide +kernel))) (fun _ h9 => h9) rfl dX5_reach_19 ?_
  refine lv_isub hx hb dX5_reach_22 ?_
  refine lv_imul hx hb dX5_reach_23 ?_
  refine lv_isub hx hb dX5_reach_24 ?_
  refine lv_topi (fun z1 ez1 => ?_)
  have ez1 : z1 = tH b ly y := ez1
  subst ez1
  refine lv_istore (lv' := [(5, .int (tH b ly y)), (0, .ref st), (1, .ref hg), (2, .int U), (3, .int V), (4, .int y)]) hx hb dX5_reach_25 hl (by decide) rfl (fun ls hl => ?_)
  refine lv_iload hx hb dX5_reach_27 (lv_at hl 0 rfl) ?_
  refine lv_if_ge (tgt := 34) hx hb dX5_reach_29 (by decide) (fun c2 => ?_) (fun c2 => ?_)
  · have h0 := c2
    refine lv_aload_n hx hb dX5_reach_34 rfl (lv_at hl 1 rfl) ?_
    refine lv_iload_n hx hb dX5_reach_35 rfl (lv_at hl 3 rfl) ?_
    refine va_put (D := D) (ci := 4) (v := .int U) (ty := .int) (C := RX5) (T := TX5) (N := 14) hx hb hts hinX5 tyX5 tyX5_ok nmX5 hown hw.1 hP hD hS 0 rfl rfl 0 (by decide) (hts (.fieldLink RX5 16 "WheelSwing$Stand" "ux" "I") (by decide +kernel)) (fun _ h9 => h9) rfl (by decide +kernel) rfl rfl (Nat.le_of_ble_eq_true rfl) dX5_reach_36 (fun H locs hP hD hS => ?_)
    have hP : va_P D vwCl [(st, .inr (4, [.int U, .int s1, .double p0, .double p1, .double p2, .double p3, .double p4, .double p5, .double p6, .double p7, .double p8, .double p9, .double p10, .double p11]))] H := hP
    have hD : va_D (aE st) [(st, .inr (4, [.int U, .int s1, .double p0, .double p1, .double p2, .double p3, .double p4, .double p5, .double p6, .double p7, .double p8, .double p9, .double p10, .double p11]))] := hD
    have hR := fr_rd hR0 hS hnr
    refine lv_aload_n hx hb dX5_reach_39 rfl (lv_at hl 1 rfl) ?_
    refine lv_iload_n hx hb dX5_reach_40 rfl (lv_at hl 4 rfl) ?_
    refine va_put (D := D) (ci := 4) (v := .int V) (ty := .int) (C := RX5) (T := TX5) (N := 14) hx hb hts hinX5 tyX5 tyX5_ok nmX5 hown hw.1 hP hD hS 0 rfl rfl 1 (by decide) (hts (.fieldLink RX5 21 "WheelSwing$Stand" "uy" "I") (by decide +kernel)) (fun _ h9 => h9) rfl (by decide +kernel) rfl rfl (Nat.le_of_ble_eq_true rfl) dX5_reach_41 (fun H locs hP hD hS => ?_)
    have hP : va_P D vwCl [(st, .inr (4, [.int U, .int V, .double p0, .double p1, .double p2, .double p3, .double p4, .double p5, .double p6, .double p7, .double p8, .double p9, .double p10, .double p11]))] H := hP
    have hD : va_D (aE st) [(st, .inr (4, [.int U, .int V, .double p0, .double p1, .double p2, .double p3, .double p4, .double p5, .double p6, .double p7, .double p8, .double p9, .double p10, .double p11]))] := hD
    have hR := fr_rd hR0 hS hnr
    refine lv_aload_n hx hb dX5_reach_44 rfl (lv_at hl 1 rfl) ?_
    refine lv_aload_n hx hb dX5_reach_45 rfl (lv_at hl 2 rfl) ?_
    refine va_getN (host := "WheelSwing") (D := D) (ci := 1) (v := .int lx) (C := RX2) (T := TX2) (N := 13) hx hb hts hinX2 hown hw.1 hR 0 rfl rfl 3 (by decide) (va_Nw.use rfl (hw.2 (.fieldLinkNest RX5 24 "WheelSwing$Hanging" "lx" "I" "WheelSwing") (by decide +kernel))) (fun _ h9 => h9) rfl dX5_reach_46 ?_
    refine lv_i2d hx hb dX5_reach_49 ?_
    have gw3 := gf_i2d 10 (cB_k klx)
    refine lv_iload hx hb dX5_reach_50 (lv_at hl 0 rfl) ?_
    refine lv_i2d hx hb dX5_reach_52 ?_
    have gw4 := gf_i2d 20 (tH_k kb kly ky h0)
    refine va_calld (va_runSN (As := [.double (FP.i2d (tH b ly y))]) (rest := [.double (FP.i2d lx), .ref st]) ⟨hx, hb, hml, hown, hts⟩ (mX1_squareRoot l (FP.i2d (tH b ly y)) (rt_int h0 (tH_k kb kly ky h0) (by omega))) (⟨va_cnB 1 hts gX5_reach_X1_squareRoot_n27 rfl rfl rfl (hw.2 (.methodLinkNest RX5 27 yX1_squareRoot "WheelSwing") (by decide +kernel)) (hts (.initialized RX1) (by decide +kernel)) (by decide +kernel) ⟨Nat.le_of_ble_eq_true rfl, Nat.le_of_ble_eq_true rfl⟩, hts (.static yX1_squareRoot) (by decide +kernel), trivial⟩) ⟨tB_blind, tB_go⟩ rfl rfl hl.1 rfl (lv_room (Nat.le_of_ble_eq_true rfl)) dX5_reach_53 ⟨Nat.le_of_ble_eq_true rfl, Nat.le_of_ble_eq_true rfl⟩) hS (fun q _ h => h.elim) (fun q h => h.elim) (fun r5 u6 t H locs ht hvm hp7 hB hz1 hk1 hS => ?_)
    have hP := fr_keep hP hk1 fr_nA
    have hR := fr_rd hR0 hS hnr
    obtain ⟨rfl, hi8⟩ := hp7
    have gw9 := gf_sq 1021 1085 hi8 gw4 (Nat.le_of_ble_eq_true rfl) (Nat.le_of_ble_eq_true rfl)
    have gw10 := gf_add 1021 1086 gw3 gw9 (Nat.le_of_ble_eq_true rfl) (Nat.le_of_ble_eq_true rfl) (Nat.le_of_ble_eq_true rfl) (Nat.le_of_ble_eq_true rfl) (Nat.le_of_ble_eq_true rfl)
    refine lv_dadd hx hb dX5_reach_56 (gf_n64 gw10) ?_
    refine lv_topd (fun v11 ev11 => ?_)
    rw [← ev11] at gw10
    have fv11 : v11 = tPx lx ly b y := by rw [ev11]; rfl
    clear ev11 gw10
    subst fv11
    refine va_put (D := D) (ci := 4) (v := .double (tPx lx ly b y)) (ty := .double) (C := RX5) (T := TX5) (N := 14) hx hb hts hinX5 tyX5 tyX5_ok nmX5 hown hw.1 hP hD hS 0 rfl rfl 2 (by decide) (hts (.fieldLink RX5 33 "WheelSwing$Stand" "px" "D") (by decide +kernel)) (fun _ h9 => h9) rfl (by decide +kernel) rfl rfl (Nat.le_of_ble_eq_true rfl) dX5_reach_57 (fun H locs hP hD hS => ?_)
    have hP : va_P D vwCl [(st, .inr (4, [.int U, .int V, .double (tPx lx ly b y), .double p1, .double p2, .double p3, .double p4, .double p5, .double p6, .double p7, .double p8, .double p9, .double p10, .double p11]))] H := hP
    have hD : va_D (aE st) [(st, .inr (4, [.int U, .int V, .double (tPx lx ly b y), .double p1, .double p2, .double p3, .double p4, .double p5, .double p6, .double p7, .double p8, .double p9, .double p10, .double p11]))] := hD
    have hR := fr_rd hR0 hS hnr
    refine lv_aload_n hx hb dX5_reach_60 rfl (lv_at hl 1 rfl) ?_
    refine lv_iload hx hb dX5_reach_61 (lv_at hl 5 rfl) ?_
    refine lv_i2d hx hb dX5_reach_63 ?_
    have gw12 := gf_i2d 10 (yB_k ky)
    refine va_put (D := D) (ci := 4) (v := .double (FP.i2d y)) (ty := .double) (C := RX5) (T := TX5) (N := 14) hx hb hts hinX5 tyX5 tyX5_ok nmX5 hown hw.1 hP hD hS 0 rfl rfl 3 (by decide) (hts (.fieldLink RX5 37 "WheelSwing$Stand" "py" "D") (by decide +kernel)) (fun _ h9 => h9) rfl (by decide +kernel) rfl rfl (Nat.le_of_ble_eq_true rfl) dX5_reach_64 (fun H locs hP hD hS => ?_)
    have hP : va_P D vwCl [(st, .inr (4, [.int U, .int V, .double (tPx lx ly b y), .double (FP.i2d y), .double p2, .double p3, .double p4, .double p5, .double p6, .double p7, .double p8, .double p9, .double p10, .double p11]))] H := hP
    have hD : va_D (aE st) [(st, .inr (4, [.int U, .int V, .double (tPx lx ly b y), .double (FP.i2d y), .double p2, .double p3, .double p4, .double p5, .double p6, .double p7, .double p8, .double p9, .double p10, .double p11]))] := hD
    have hR := fr_rd hR0 hS hnr
    refine lv_aload_n hx hb dX5_reach_67 rfl (lv_at hl 1 rfl) ?_
    refine lv_aload_n hx hb dX5_reach_68 rfl (lv_at hl 1 rfl) ?_
    refine va_get (D := D) (ci := 4) (v := .int U) (C := RX5) (T := TX5) (N := 14) hx hb hts hinX5 hown hw.1 hP 0 rfl rfl 0 (by decide) (hts (.fieldLink RX5 16 "WheelSwing$Stand" "ux" "I") (by decide +kernel)) (fun _ h9 => h9) rfl dX5_reach_69 ?_
    refine lv_i2d hx hb dX5_reach_72 ?_
    have gw13 := gf_i2d 10 (cB_k kU)
    refine lv_aload_n hx hb dX5_reach_73 rfl (lv_at hl 1 rfl) ?_
    refine va_get (D := D) (ci := 4) (v := .double (tPx lx ly b y)) (C := RX5) (T := TX5) (N := 14) hx hb hts hinX5 hown hw.1 hP 0 rfl rfl 2 (by decide) (hts (.fieldLink RX5 33 "WheelSwing$Stand" "px" "D") (by decide +kernel)) (fun _ h9 => h9) rfl dX5_reach_74 ?_
    have gw14 := gf_sub 1021 1087 gw13 (gz_px hh h0) (Nat.le_of_ble_eq_true rfl) (Nat.le_of_ble_eq_true rfl) (Nat.le_of_ble_eq_true rfl) (Nat.le_of_ble_eq_true rfl) (Nat.le_of_ble_eq_true rfl)
    refine lv_dsub hx hb dX5_reach_77 (gf_n64 gw14) ?_
    refine lv_topd (fun v15 ev15 => ?_)
    rw [← ev15] at gw14
    have fv15 : v15 = tDx U lx ly b y := by rw [ev15]; rfl
    clear ev15 gw14
    subst fv15
    refine va_put (D := D) (ci := 4) (v := .double (tDx U lx ly b y)) (ty := .double) (C := RX5) (T := TX5) (N := 14) hx hb hts hinX5 tyX5 tyX5_ok nmX5 hown hw.1 hP hD hS 0 rfl rfl 10 (by decide) (hts (.fieldLink RX5 40 "WheelSwing$Stand" "dx" "D") (by decide +kernel)) (fun _ h9 => h9) rfl (by decide +kernel) rfl rfl (Nat.le_of_ble_eq_true rfl) dX5_reach_78 (fun H locs hP hD hS => ?_)
    have hP : va_P D vwCl [(st, .inr (4, [.int U, .int V, .double (tPx lx ly b y), .double (FP.i2d y), .double p2, .double p3, .double p4, .double p5, .double p6, .double p7, .double (tDx U lx ly b y), .double p9, .double p10, .double p11]))] H := hP
    have hD : va_D (aE st) [(st, .inr (4, [.int U, .int V, .double (tPx lx ly b y), .double (FP.i2d y), .double p2, .double p3, .double p4, .double p5, .double p6, .double p7, .double (tDx U lx ly b y), .double p9, .double p10, .double p11]))] := hD
    have hR := fr_rd hR0 hS hnr
    refine lv_aload_n hx hb dX5_reach_81 rfl (lv_at hl 1 rfl) ?_
    refine lv_aload_n hx hb dX5_reach_82 rfl (lv_at hl 1 rfl) ?_
    refine va_get (D := D) (ci := 4) (v := .int V) (C := RX5) (T := TX5) (N := 14) hx hb hts hinX5 hown hw.1 hP 0 rfl rfl 1 (by decide) (hts (.fieldLink RX5 21 "WheelSwing$Stand" "uy" "I") (by decide +kernel)) (fun _ h9 => h9) rfl dX5_reach_83 ?_
    refine lv_i2d hx hb dX5_reach_86 ?_
    have gw16 := gf_i2d 10 (cB_k kV)
    refine lv_aload_n hx hb dX5_reach_87 rfl (lv_at hl 1 rfl) ?_
    refine va_get (D := D) (ci := 4) (v := .double (FP.i2d y)) (C := RX5) (T := TX5) (N := 14) hx hb hts hinX5 hown hw.1 hP 0 rfl rfl 3 (by decide) (hts (.fieldLink RX5 37 "WheelSwing$Stand" "py" "D") (by decide +kernel)) (fun _ h9 => h9) rfl dX5_reach_88 ?_
    have gw17 := gf_sub 1074 1085 gw16 gw12 (Nat.le_of_ble_eq_true rfl) (Nat.le_of_ble_eq_true rfl) (Nat.le_of_ble_eq_true rfl) (Nat.le_of_ble_eq_true rfl) (Nat.le_of_ble_eq_true rfl)
    refine lv_dsub hx hb dX5_reach_91 (gf_n64 gw17) ?_
    refine lv_topd (fun v18 ev18 => ?_)
    rw [← ev18] at gw17
    have fv18 : v18 = tDy V y := by rw [ev18]; rfl
    clear ev18 gw17
    subst fv18
    refine va_put (D := D) (ci := 4) (v := .double (tDy V y)) (ty := .double) (C := RX5) (T := TX5) (N := 14) hx hb hts hinX5 tyX5 tyX5_ok nmX5 hown hw.1 hP hD hS 0 rfl rfl 11 (by decide) (hts (.fieldLink RX5 43 "WheelSwing$Stand" "dy" "D") (by decide +kernel)) (fun _ h9 => h9) rfl (by decide +kernel) rfl rfl (Nat.le_of_ble_eq_true rfl) dX5_reach_92 (fun H locs hP hD hS => ?_)
    have hP : va_P D vwCl [(st, .inr (4, [.int U, .int V, .double (tPx lx ly b y), .double (FP.i2d y), .double p2, .double p3, .double p4, .double p5, .double p6, .double p7, .double (tDx U lx ly b y), .double (tDy V y), .double p10, .double p11]))] H := hP
    have hD : va_D (aE st) [(st, .inr (4, [.int U, .int V, .double (tPx lx ly b y), .double (FP.i2d y), .double p2, .double p3, .double p4, .double p5, .double p6, .double p7, .double (tDx U lx ly b y), .double (tDy V y), .double p10, .double p11]))] := hD
    have hR := fr_rd hR0 hS hnr
    refine lv_aload_n hx hb dX5_reach_95 rfl (lv_at hl 1 rfl) ?_
    refine va_get (D := D) (ci := 4) (v := .double (tDx U lx ly b y)) (C := RX5) (T := TX5) (N := 14) hx hb hts hinX5 hown hw.1 hP 0 rfl rfl 10 (by decide) (hts (.fieldLink RX5 40 "WheelSwing$Stand" "dx" "D") (by decide +kernel)) (fun _ h9 => h9) rfl dX5_reach_96 ?_
    refine lv_aload_n hx hb dX5_reach_99 rfl (lv_at hl 1 rfl) ?_
    refine va_get (D := D) (ci := 4) (v := .double (tDx U lx ly b y)) (C := RX5) (T := TX5) (N := 14) hx hb hts hinX5 hown hw.1 hP 0 rfl rfl 10 (by decide) (hts (.fieldLink RX5 40 "WheelSwing$Stand" "dx" "D") (by decide +kernel)) (fun _ h9 => h9) rfl dX5_reach_100 ?_
    have gw19 := gf_mul 968 1100 (gz_dx hh h0) (gz_dx hh h0) (Nat.le_of_ble_eq_true rfl) (Nat.le_of_ble_eq_true rfl) (Nat.le_of_ble_eq_true rfl)
    refine lv_dmul hx hb dX5_reach_103 (gf_n64 gw19) ?_
    refine lv_topd (fun v20 ev20 => ?_)
    rw [← ev20] at gw19
    refine lv_aload_n hx hb dX5_reach_104 rfl (lv_at hl 1 rfl) ?_
    refine va_get (D := D) (ci := 4) (v := .double (tDy V y)) (C := RX5) (T := TX5) (N := 14) hx hb hts hinX5 hown hw.1 hP 0 rfl rfl 11 (by decide) (hts (.fieldLink RX5 43 "WheelSwing$Stand" "dy" "D") (by decide +kernel)) (fun _ h9 => h9) rfl dX5_reach_105 ?_
    refine lv_aload_n hx hb dX5_reach_108 rfl (lv_at hl 1 rfl) ?_
    refine va_get (D := D) (ci := 4) (v := .double (tDy V y)) (C := RX5) (T := TX5) (N := 14) hx hb hts hinX5 hown hw.1 hP 0 rfl rfl 11 (by decide) (hts (.fieldLink RX5 43 "WheelSwing$Stand" "dy" "D") (by decide +kernel)) (fun _ h9 => h9) rfl dX5_reach_109 ?_
    have gw21 := gf_mul 1074 1096 (gz_dy hh h0) (gz_dy hh h0) (Nat.le_of_ble_eq_true rfl) (Nat.le_of_ble_eq_true rfl) (Nat.le_of_ble_eq_true rfl)
    refine lv_dmul hx hb dX5_reach_112 (gf_n64 gw21) ?_
    refine lv_topd (fun v22 ev22 => ?_)
    rw [← ev22] at gw21
    have gw23 := gf_add 968 1101 gw19 gw21 (Nat.le_of_ble_eq_true rfl) (Nat.le_of_ble_eq_true rfl) (Nat.le_of_ble_eq_true rfl) (Nat.le_of_ble_eq_true rfl) (Nat.le_of_ble_eq_true rfl)
    refine lv_dadd hx hb dX5_reach_113 (gf_n64 gw23) ?_
    refine lv_topd (fun v24 ev24 => ?_)
    rw [← ev24] at gw23
    have fv24 : v24 = tE U V lx ly b y := by rw [ev24, ev22, ev20]; rfl
    clear ev24 gw23
    subst fv24
    refine lv_dstore (lv' := [(6, .double (tE U V lx ly b y)), (5, .int (tH b ly y)), (0, .ref st), (1, .ref hg), (2, .int U), (3, .int V), (4, .int y)]) hx hb dX5_reach_114 hl (by decide) rfl (fun ls hl => ?_)
    refine lv_dload hx hb dX5_reach_116 (lv_at hl 0 rfl) ?_
    refine lv_dconst0 hx hb dX5_reach_118 ?_
    refine lv_dcmp hx hb dX5_reach_119 ?_
    rw [fp_cv (gz_e hh h0).1 gf_c0.1]
    refine lv_if_ne (tgt := 125) hx hb dX5_reach_120 (by decide) (fun c25 => ?_) (fun c25 => ?_)
    · rw [fcv_eq] at c25
      have he : fv (tE U V lx ly b y) ≠ 0 := by have hq := c25; rw [fv_c0] at hq; exact hq
      refine lv_aload_n hx hb dX5_reach_125 rfl (lv_at hl 2 rfl) ?_
      refine lv_aload_n hx hb dX5_reach_126 rfl (lv_at hl 3 rfl) ?_
      refine va_getN (host := "WheelSwing") (D := D) (ci := 1) (v := .int c) (C := RX2) (T := TX2) (N := 13) hx hb hts hinX2 hown hw.1 hR 0 rfl rfl 6 (by decide) (va_Nw.use rfl (hw.2 (.fieldLinkNest RX5 46 "WheelSwing$Hanging" "c" "I" "WheelSwing") (by decide +kernel))) (fun _ h9 => h9) rfl dX5_reach_127 ?_
      refine lv_aload_n hx hb dX5_reach_130 rfl (lv_at hl 3 rfl) ?_
      refine va_getN (host := "WheelSwing") (D := D) (ci := 1) (v := .int c) (C := RX2) (T := TX2) (N := 13) hx hb hts hinX2 hown hw.1 hR 0 rfl rfl 6 (by decide) (va_Nw.use rfl (hw.2 (.fieldLinkNest RX5 46 "WheelSwing$Hanging" "c" "I" "WheelSwing") (by decide +kernel))) (fun _ h9 => h9) rfl dX5_reach_131 ?_
      refine lv_imul hx hb dX5_reach_134 ?_
      refine lv_aload_n hx hb dX5_reach_135 rfl (lv_at hl 3 rfl) ?_
      refine va_getN (host := "WheelSwing") (D := D) (ci := 1) (v := .int a) (C := RX2) (T := TX2) (N := 13) hx hb hts hinX2 hown hw.1 hR 0 rfl rfl 2 (by decide) (va_Nw.use rfl (hw.2 (.fieldLinkNest RX5 49 "WheelSwing$Hanging" "a" "I" "WheelSwing") (by decide +kernel))) (fun _ h9 => h9) rfl dX5_reach_136 ?_
      refine lv_aload_n hx hb dX5_reach_139 rfl (lv_at hl 3 rfl) ?_
      refine va_getN (host := "WheelSwing") (D := D) (ci := 1) (v := .int a) (C := RX2) (T := TX2) (N := 13) hx hb hts hinX2 hown hw.1 hR 0 rfl rfl 2 (by decide) (va_Nw.use rfl (hw.2 (.fieldLinkNest RX5 49 "WheelSwing$Hanging" "a" "I" "WheelSwing") (by decide +kernel))) (fun _ h9 => h9) rfl dX5_reach_140 ?_
      refine lv_imul hx hb dX5_reach_143 ?_
      refine lv_isub hx hb dX5_reach_144 ?_
      refine lv_i2d hx hb dX5_reach_145 ?_
      have gw26 := gf_i2d 20 (ca_k ka kc)
      refine lv_dload hx hb dX5_reach_146 (lv_at hl 0 rfl) ?_
      have gw27 := gf_add 968 1102 gw26 (gz_e hh h0) (Nat.le_of_ble_eq_true rfl) (Nat.le_of_ble_eq_true rfl) (Nat.le_of_ble_eq_true rfl) (Nat.le_of_ble_eq_true rfl) (Nat.le_of_ble_eq_true rfl)
      refine lv_dadd hx hb dX5_reach_148 (gf_n64 gw27) ?_
      refine lv_topd (fun v28 ev28 => ?_)
      rw [← ev28] at gw27
      refine lv_ldc2d hx hb hown (hts (.constantDouble RX5 52 (4611686018427387904)) (by decide +kernel)) dX5_reach_149 ?_
      refine lv_dload hx hb dX5_reach_152 (lv_at hl 0 rfl) ?_
      have gw29 := gf_mul 969 1102 gf_2 (gz_e hh h0) (Nat.le_of_ble_eq_true rfl) (Nat.le_of_ble_eq_true rfl) (Nat.le_of_ble_eq_true rfl)
      refine lv_dmul hx hb dX5_reach_154 (gf_n64 gw29) ?_
      refine lv_topd (fun v30 ev30 => ?_)
      rw [← ev30] at gw29
      have hz155 : fv v30 ≠ 0 := by rw [ev30, (dbl (gz_e hh h0) (by omega)).2]; have hq := he; omega
      have gw31 := gf_div 888 1207 gw27 gw29 hz155 (Nat.le_of_ble_eq_true rfl) (Nat.le_of_ble_eq_true rfl) (Nat.le_of_ble_eq_true rfl)
      refine lv_ddiv hx hb dX5_reach_155 (gf_n64 gw31) ?_
      refine lv_topd (fun v32 ev32 => ?_)
      rw [← ev32] at gw31
      have fv32 : v32 = tM U V lx ly a b c y := by rw [ev32, ev30, ev28]; rfl
      clear ev32 gw31
      subst fv32
      refine va_put (D := D) (ci := 4) (v := .double (tM U V lx ly a b c y)) (ty := .double) (C := RX5) (T := TX5) (N := 14) hx hb hts hinX5 tyX5 tyX5_ok nmX5 hown hw.1 hP hD hS 0 rfl rfl 12 (by decide) (hts (.fieldLink RX5 54 "WheelSwing$Stand" "m" "D") (by decide +kernel)) (fun _ h9 => h9) rfl (by decide +kernel) rfl rfl (Nat.le_of_ble_eq_true rfl) dX5_reach_156 (fun H locs hP hD hS => ?_)
      have hP : va_P D vwCl [(st, .inr (4, [.int U, .int V, .double (tPx lx ly b y), .double (FP.i2d y), .double p2, .double p3, .double p4, .double p5, .double p6, .double p7, .double (tDx U lx ly b y), .double (tDy V y), .double (tM U V lx ly a b c y), .double p11]))] H := hP
      have hD : va_D (aE st) [(st, .inr (4, [.int U, .int V, .double (tPx lx ly b y), .double (FP.i2d y), .double p2, .double p3, .double p4, .double p5, .double p6, .double p7, .double (tDx U lx ly b y), .double (tDy V y), .double (tM U V lx ly a b c y), .double p11]))] := hD
      have hR := fr_rd hR0 hS hnr
      refine lv_aload_n hx hb dX5_reach_159 rfl (lv_at hl 2 rfl) ?_
      refine lv_aload_n hx hb dX5_reach_160 rfl (lv_at hl 3 rfl) ?_
      refine va_getN (host := "WheelSwing") (D := D) (ci := 1) (v := .int c) (C := RX2) (T := TX2) (N := 13) hx hb hts hinX2 hown hw.1 hR 0 rfl rfl 6 (by decide) (va_Nw.use rfl (hw.2 (.fieldLinkNest RX5 46 "WheelSwing$Hanging" "c" "I" "WheelSwing") (by decide +kernel))) (fun _ h9 => h9) rfl dX5_reach_161 ?_
      refine lv_aload_n hx hb dX5_reach_164 rfl (lv_at hl 3 rfl) ?_
      refine va_getN (host := "WheelSwing") (D := D) (ci := 1) (v := .int c) (C := RX2) (T := TX2) (N := 13) hx hb hts hinX2 hown hw.1 hR 0 rfl rfl 6 (by decide) (va_Nw.use rfl (hw.2 (.fieldLinkNest RX5 46 "WheelSwing$Hanging" "c" "I" "WheelSwing") (by decide +kernel))) (fun _ h9 => h9) rfl dX5_reach_165 ?_
      refine lv_imul hx hb dX5_reach_168 ?_
      refine lv_i2d hx hb dX5_reach_169 ?_
      have gw33 := gf_i2d 20 (cc_k kc)
      refine lv_dload hx hb dX5_reach_170 (lv_at hl 0 rfl) ?_
      have gw34 := gf_div 995 1200 gw33 (gz_e hh h0) he (Nat.le_of_ble_eq_true rfl) (Nat.le_of_ble_eq_true rfl) (Nat.le_of_ble_eq_true rfl)
      refine lv_ddiv hx hb dX5_reach_172 (gf_n64 gw34) ?_
      refine lv_topd (fun v35 ev35 => ?_)
      rw [← ev35] at gw34
      refine lv_aload_n hx hb dX5_reach_173 rfl (lv_at hl 2 rfl) ?_
      refine va_get (D := D) (ci := 4) (v := .double (tM U V lx ly a b c y)) (C := RX5) (T := TX5) (N := 14) hx hb hts hinX5 hown hw.1 hP 0 rfl rfl 12 (by decide) (hts (.fieldLink RX5 54 "WheelSwing$Stand" "m" "D") (by decide +kernel)) (fun _ h9 => h9) rfl dX5_reach_174 ?_
      refine lv_aload_n hx hb dX5_reach_177 rfl (lv_at hl 2 rfl) ?_
      refine va_get (D := D) (ci := 4) (v := .double (tM U V lx ly a b c y)) (C := RX5) (T := TX5) (N := 14) hx hb hts hinX5 hown hw.1 hP 0 rfl rfl 12 (by decide) (hts (.fieldLink RX5 54 "WheelSwing$Stand" "m" "D") (by decide +kernel)) (fun _ h9 => h9) rfl dX5_reach_178 ?_
      have gw36 := gf_mul 808 1340 (gz_m1 hh h0 he) (gz_m1 hh h0 he) (Nat.le_of_ble_eq_true rfl) (Nat.le_of_ble_eq_true rfl) (Nat.le_of_ble_eq_true rfl)
      refine lv_dmul hx hb dX5_reach_181 (gf_n64 gw36) ?_
      refine lv_topd (fun v37 ev37 => ?_)
      rw [← ev37] at gw36
      have gw38 := gf_sub 808 1341 gw34 gw36 (Nat.le_of_ble_eq_true rfl) (Nat.le_of_ble_eq_true rfl) (Nat.le_of_ble_eq_true rfl) (Nat.le_of_ble_eq_true rfl) (Nat.le_of_ble_eq_true rfl)
      refine lv_dsub hx hb dX5_reach_182 (gf_n64 gw38) ?_
      refine lv_topd (fun v39 ev39 => ?_)
      rw [← ev39] at gw38
      have fv39 : v39 = tK U V lx ly a b c y := by rw [ev39, ev37, ev35]; rfl
      clear ev39 gw38
      subst fv39
      refine va_put (D := D) (ci := 4) (v := .double (tK U V lx ly a b c y)) (ty := .double) (C := RX5) (T := TX5) (N := 14) hx hb hts hinX5 tyX5 tyX5_ok nmX5 hown hw.1 hP hD hS 0 rfl rfl 13 (by decide) (hts (.fieldLink RX5 57 "WheelSwing$Stand" "k" "D") (by decide +kernel)) (fun _ h9 => h9) rfl (by decide +kernel) rfl rfl (Nat.le_of_ble_eq_true rfl) dX5_reach_183 (fun H locs hP hD hS => ?_)
      have hP : va_P D vwCl [(st, .inr (4, [.int U, .int V, .double (tPx lx ly b y), .double (FP.i2d y), .double p2, .double p3, .double p4, .double p5, .double p6, .double p7, .double (tDx U lx ly b y), .double (tDy V y), .double (tM U V lx ly a b c y), .double (tK U V lx ly a b c y)]))] H := hP
      have hD : va_D (aE st) [(st, .inr (4, [.int U, .int V, .double (tPx lx ly b y), .double (FP.i2d y), .double p2, .double p3, .double p4, .double p5, .double p6, .double p7, .double (tDx U lx ly b y), .double (tDy V y), .double (tM U V lx ly a b c y), .double (tK U V lx ly a b c y)]))] := hD
      have hR := fr_rd hR0 hS hnr
      refine lv_aload_n hx hb dX5_reach_186 rfl (lv_at hl 2 rfl) ?_
      refine va_get (D := D) (ci := 4) (v := .double (tK U V lx ly a b c y)) (C := RX5) (T := TX5) (N := 14) hx hb hts hinX5 hown hw.1 hP 0 rfl rfl 13 (by decide) (hts (.fieldLink RX5 57 "WheelSwing$Stand" "k" "D") (by decide +kernel)) (fun _ h9 => h9) rfl dX5_reach_187 ?_
      refine lv_dconst0 hx hb dX5_reach_190 ?_
      refine lv_dcmp hx hb dX5_reach_191 ?_
      rw [fp_cv (gz_k0 hh h0 he).1 gf_c0.1]
      refine lv_if_lt (tgt := 199) hx hb dX5_reach_192 (by decide) (fun c40 => ?_) (fun c40 => ?_)
      · rw [fcv_lt] at c40
        refine lv_iconst (v := 0) hx hb dX5_reach_199 (by decide) ?_
        exact W.zret (v := 0) hx hb hr rfl (fun t ht hW => ⟨⟨0, [.int U, .int V, .double (tPx lx ly b y), .double (FP.i2d y), .double p2, .double p3, .double p4, .double p5, .double p6, .double p7, .double (tDx U lx ly b y), .double (tDy V y), .double (tM U V lx ly a b c y), .double (tK U V lx ly a b c y)], rfl, Or.inr ⟨rfl, fun hf => absurd hf.2.2 (by have hq := c40; rw [fv_c0] at hq; exact Int.not_le.mpr hq), ⟨_, _, _, _, _, _, _, _, _, _, _, _, _, _, rfl⟩⟩, at_heap ht (hP 0 _ rfl)⟩, hS.F ht⟩) hS.2.2 dX5_reach_200
      · rw [fcv_lt] at c40
        refine lv_iconst (v := 1) hx hb dX5_reach_195 (by decide) ?_
        refine lv_goto (tgt := 200) hx hb dX5_reach_196 (by decide) ?_
        exact W.zret (v := 1) hx hb hr rfl (fun t ht hW => ⟨⟨1, [.int U, .int V, .double (tPx lx ly b y), .double (FP.i2d y), .double p2, .double p3, .double p4, .double p5, .double p6, .double p7, .double (tDx U lx ly b y), .double (tDy V y), .double (tM U V lx ly a b c y), .double (tK U V lx ly a b c y)], rfl, Or.inl ⟨rfl, ⟨h0, he, by have hq := c40; rw [fv_c0] at hq; exact Int.not_lt.mp hq⟩, rfl⟩, at_heap ht (hP 0 _ rfl)⟩, hS.F ht⟩) hS.2.2 dX5_reach_200
    · rw [fcv_eq] at c25
      refine lv_iconst (v := 0) hx hb dX5_reach_123 (by decide) ?_
      exact W.zret (v := 0) hx hb hr rfl (fun t ht hW => ⟨⟨0, [.int U, .int V, .double (tPx lx ly b y), .double (FP.i2d y), .double p2, .double p3, .double p4, .double p5, .double p6, .double p7, .double (tDx U lx ly b y), .double (tDy V y), .double p10, .double p11], rfl, Or.inr ⟨rfl, fun hf => hf.2.1 (by have hq := c25; rw [fv_c0] at hq; exact hq), ⟨_, _, _, _, _, _, _, _, _, _, _, _, _, _, rfl⟩⟩, at_heap ht (hP 0 _ rfl)⟩, hS.F ht⟩) hS.2.2 dX5_reach_124
  · refine lv_iconst (v := 0) hx hb dX5_reach_32 (by decide) ?_
    exact W.zret (v := 0) hx hb hr rfl (fun t ht hW => ⟨⟨0, [.int s0, .int s1, .double p0, .double p1, .double p2, .double p3, .double p4, .double p5, .double p6, .double p7, .double p8, .double p9, .double p10, .double p11], rfl, Or.inr ⟨rfl, fun hf => c2 hf.1, ⟨_, _, _, _, _, _, _, _, _, _, _, _, _, _, rfl⟩⟩, at_heap ht (hP 0 _ rfl)⟩, hS.F ht⟩) hS.2.2 dX5_reach_33
set_option maxHeartbeats 4000000 in
set_option maxRecDepth 100000 in
theorem mX5_placeUpright (l : Launch) (D : va_G) (cI cH : ClassId) (st hg : Nat) (p2 p3 p4 p5 p6 p7 : UInt64) (ux uy a lx ly b c sd g d sx sy f : Int32) (U V y : Int32)  (hne : hg ≠ st) (hh : pB U V lx ly a b c y) (hsd : sd = 1 ∨ sd = -1) (hf : tFree U V lx ly a b c y) : Met l yX5_placeUpright wsX5_placeUpright ({ frames := 3, cells := 0, slots := 0, locals := 79 }) (va_Pc [.ref st, .ref hg] (kB D cI cH [(st, .inr (4, [.int U, .int V, .double (tPx lx ly b y), .double (FP.i2d y), .double p2, .double p3, .double p4, .double p5, .double p6, .double p7, .double (tDx U lx ly b y), .double (tDy V y), .double (tM U V lx ly a b c y), .double (tK U V lx ly a b c y)])), (hg, .inr (1, [.int ux, .int uy, .int a, .int lx, .int ly, .int b, .int c, .int sd, .int g, .int d, .int sx, .int sy, .int f]))])) (va_Qv (fun (u : List Value) => u = [.int U, .int V, .double (tPx lx ly b y), .double (FP.i2d y), .double (tQx U V lx ly a b c sd y), .double (tQy U V lx ly a b c sd y), .double (tVx U V lx ly a b c sd y), .double (tVy U V lx ly a b c sd y), .double p6, .double p7, .double (tDx U lx ly b y), .double (tDy V y), .double (tM U V lx ly a b c y), .double (tK U V lx ly a b c y)]) (fun u t => va_at D vwCl (st, .inr (4, u)) t.heap) (aE st)) 0 0 (aE st) := by
  refine Met.ofW (cc := cX5_placeUpright) (maxL := 4) (ret := none) (by decide) rfl ?_
  intro p e s m args below meth co s₁ B hml hv
  obtain ⟨rfl, hP0, hw⟩ := hv
  have hx := B.exec
  have hb := B.bytes
  have hr := B.returns
  have hts := atoms_spec (ws := wsX5_placeUpright) B.pre
  have hown : s.vm.findClass RX5 = some m.cls := findClass_of_methodNamed B.named
  have hlocks := B.notSynchronized
  have hinX2 : ∀ w ∈ wsX20, w ∈ wsX5_placeUpright := by decide +kernel
  have hinX5 : ∀ w ∈ wsX50, w ∈ wsX5_placeUpright := by decide +kernel
  have hS : va_S (aE st) s.heap s.heap [] := va_S.rf
  have hP : va_P D vwCl [(st, .inr (4, [.int U, .int V, .double (tPx lx ly b y), .double (FP.i2d y), .double p2, .double p3, .double p4, .double p5, .double p6, .double p7, .double (tDx U lx ly b y), .double (tDy V y), .double (tM U V lx ly a b c y), .double (tK U V lx ly a b c y)]))] s.heap := hP0.sub [0] rfl
  have hD : va_D (aE st) [(st, .inr (4, [.int U, .int V, .double (tPx lx ly b y), .double (FP.i2d y), .double p2, .double p3, .double p4, .double p5, .double p6, .double p7, .double (tDx U lx ly b y), .double (tDy V y), .double (tM U V lx ly a b c y), .double (tK U V lx ly a b c y)]))] := D_1 rfl
  have hR0 : va_P D vwCl [(hg, .inr (1, [.int ux, .int uy, .int a, .int lx, .int ly, .int b, .int c, .int sd, .int g, .int d, .int sx, .int sy, .int f]))] s.heap := hP0.sub [1] rfl
  have hR := hR0
  have hnr : ∀ (k : Nat) (q : Nat × va_E), ([(hg, .inr (1, [.int ux, .int uy, .int a, .int lx, .int ly, .int b, .int c, .int sd, .int g, .int d, .int sx, .int sy, .int f]))] : va_W)[k]? = some q → ¬ (aE st) q.1 := nn_1 hne nn_0
  obtain ⟨kU, kV, klx, kly, ka, kb, kc, ky⟩ := id hh
  have h0 := hf.1
  have he := hf.2.1
  have hk := hf.2.2
  have hl := lv_entry ([.ref st, .ref hg]) (n := 4) (Nat.le_of_ble_eq_true rfl)
  rw [lg_entry_eq]
  generalize (lg_sl ([.ref st, .ref hg]) ++ List.replicate (4 - (lg_sl ([.ref st, .ref hg])).length) Slot.unset).toArray = ls at hl ⊢
  have hl : lv_has ls 4 [(0, .ref st), (1, .ref hg)] := hl
  skip
  refine lv_aload_n hx hb dX5_placeUpright_0 rfl (lv_at hl 1 rfl) ?_
  refine va_getN (host := "WheelSwing") (D := D) (ci := 1) (v := .int sd) (C := RX2) (T := TX2) (N := 13) hx hb hts hinX2 hown hw.1 hR 0 rfl rfl 7 (by decide) (va_Nw.use rfl (hw.2 (.fieldLinkNest RX5 60 "WheelSwing$Hanging" "side" "I" "WheelSwing") (by decide +kernel))) (fun _ h9 => h9) rfl dX5_placeUpright_1 ?_
  refine lv_i2d hx hb dX5_placeUpright_4 ?_
  have gw1 := gf_i2d 0 (sd_k hsd)
  refine lv_aload_n hx hb dX5_placeUpright_5 rfl (lv_at hl 0 rfl) ?_
  refine va_get (D := D) (ci := 4) (v := .double (tK U V lx ly a b c y)) (C := RX5) (T := TX5) (N := 14) hx hb hts hinX5 hown hw.1 hP 0 rfl rfl 13 (by decide) (hts (.fieldLink RX5 57 "WheelSwing$Stand" "k" "D") (by decide +kernel)) (fun _ h9 => h9) rfl dX5_placeUpright_6 ?_
  refine va_calld (va_runSN (As := [.double (tK U V lx ly a b c y)]) (rest := [.double (FP.i2d sd)]) ⟨hx, hb, hml, hown, hts⟩ (mX1_squareRoot l (tK U V lx ly a b c y) (gz_krt hh h0 he hk)) (⟨va_cnB 1 hts gX5_placeUpright_X1_squareRoot_n27 rfl rfl rfl (hw.2 (.methodLinkNest RX5 27 yX1_squareRoot "WheelSwing") (by decide +kernel)) (hts (.initialized RX1) (by decide +kernel)) (by decide +kernel) ⟨Nat.le_of_ble_eq_true rfl, Nat.le_of_ble_eq_true rfl⟩, hts (.static yX1_squareRoot) (by decide +kernel), trivial⟩) ⟨tB_blind, tB_go⟩ rfl rfl hl.1 rfl (lv_room (Nat.le_of_ble_eq_true rfl)) dX5_placeUpright_9 ⟨Nat.le_of_ble_eq_true rfl, Nat.le_of_ble_eq_true rfl⟩) hS (fun q _ h => h.elim) (fun q h => h.elim) (fun r2 u3 t H locs ht hvm hp4 hB hz1 hk1 hS => ?_)
  have hP := fr_keep hP hk1 fr_nA
  have hR := fr_rd hR0 hS hnr
  obtain ⟨rfl, hi5⟩ := hp4
  have gw6 := gf_sq 987 1138 hi5 (gz_kk hh h0 he hk).2.1 (Nat.le_of_ble_eq_true rfl) (Nat.le_of_ble_eq_true rfl)
  have gw7 := gf_mul 987 1138 gw1 gw6 (Nat.le_of_ble_eq_true rfl) (Nat.le_of_ble_eq_true rfl) (Nat.le_of_ble_eq_true rfl)
  refine lv_dmul hx hb dX5_placeUpright_12 (gf_n64 gw7) ?_
  refine lv_topd (fun v8 ev8 => ?_)
  rw [← ev8] at gw7
  have fv8 : v8 = tS U V lx ly a b c sd y := by rw [ev8]; rfl
  clear ev8 gw7
  subst fv8
  refine lv_dstore_n (lv' := [(2, .double (tS U V lx ly a b c sd y)), (0, .ref st), (1, .ref hg)]) hx hb dX5_placeUpright_13 rfl hl (by decide) rfl (fun ls hl => ?_)
  refine lv_aload_n hx hb dX5_placeUpright_14 rfl (lv_at hl 1 rfl) ?_
  refine lv_aload_n hx hb dX5_placeUpright_15 rfl (lv_at hl 1 rfl) ?_
  refine va_get (D := D) (ci := 4) (v := .double (tPx lx ly b y)) (C := RX5) (T := TX5) (N := 14) hx hb hts hinX5 hown hw.1 hP 0 rfl rfl 2 (by decide) (hts (.fieldLink RX5 33 "WheelSwing$Stand" "px" "D") (by decide +kernel)) (fun _ h9 => h9) rfl dX5_placeUpright_16 ?_
  refine lv_aload_n hx hb dX5_placeUpright_19 rfl (lv_at hl 1 rfl) ?_
  refine va_get (D := D) (ci := 4) (v := .double (tM U V lx ly a b c y)) (C := RX5) (T := TX5) (N := 14) hx hb hts hinX5 hown hw.1 hP 0 rfl rfl 12 (by decide) (hts (.fieldLink RX5 54 "WheelSwing$Stand" "m" "D") (by decide +kernel)) (fun _ h9 => h9) rfl dX5_placeUpright_20 ?_
  refine lv_aload_n hx hb dX5_placeUpright_23 rfl (lv_at hl 1 rfl) ?_
  refine va_get (D := D) (ci := 4) (v := .double (tDx U lx ly b y)) (C := RX5) (T := TX5) (N := 14) hx hb hts hinX5 hown hw.1 hP 0 rfl rfl 10 (by decide) (hts (.fieldLink RX5 40 "WheelSwing$Stand" "dx" "D") (by decide +kernel)) (fun _ h9 => h9) rfl dX5_placeUpright_24 ?_
  have gw9 := gf_mul 888 1151 (gz_m hh h0 he hk) (gz_dx hh h0) (Nat.le_of_ble_eq_true rfl) (Nat.le_of_ble_eq_true rfl) (Nat.le_of_ble_eq_true rfl)
  refine lv_dmul hx hb dX5_placeUpright_27 (gf_n64 gw9) ?_
  refine lv_topd (fun v10 ev10 => ?_)
  rw [← ev10] at gw9
  have gw11 := gf_add 888 1152 (gz_px hh h0) gw9 (Nat.le_of_ble_eq_true rfl) (Nat.le_of_ble_eq_true rfl) (Nat.le_of_ble_eq_true rfl) (Nat.le_of_ble_eq_true rfl) (Nat.le_of_ble_eq_true rfl)
  refine lv_dadd hx hb dX5_placeUpright_28 (gf_n64 gw11) ?_
  refine lv_topd (fun v12 ev12 => ?_)
  rw [← ev12] at gw11
  refine lv_dload_n hx hb dX5_placeUpright_29 rfl (lv_at hl 0 rfl) ?_
  refine lv_aload_n hx hb dX5_placeUpright_30 rfl (lv_at hl 1 rfl) ?_
  refine va_get (D := D) (ci := 4) (v := .double (tDy V y)) (C := RX5) (T := TX5) (N := 14) hx hb hts hinX5 hown hw.1 hP 0 rfl rfl 11 (by decide) (hts (.fieldLink RX5 43 "WheelSwing$Stand" "dy" "D") (by decide +kernel)) (fun _ h9 => h9) rfl dX5_placeUpright_31 ?_
  have gw13 := gf_mul 987 1149 (gz_s hh h0 he hk hsd) (gz_dy hh h0) (Nat.le_of_ble_eq_true rfl) (Nat.le_of_ble_eq_true rfl) (Nat.le_of_ble_eq_true rfl)
  refine lv_dmul hx hb dX5_placeUpright_34 (gf_n64 gw13) ?_
  refine lv_topd (fun v14 ev14 => ?_)
  rw [← ev14] at gw13
  have gw15 := gf_add 888 1153 gw11 gw13 (Nat.le_of_ble_eq_true rfl) (Nat.le_of_ble_eq_true rfl) (Nat.le_of_ble_eq_true rfl) (Nat.le_of_ble_eq_true rfl) (Nat.le_of_ble_eq_true rfl)
  refine lv_dadd hx hb dX5_placeUpright_35 (gf_n64 gw15) ?_
  refine lv_topd (fun v16 ev16 => ?_)
  rw [← ev16] at gw15
  have fv16 : v16 = tQx U V lx ly a b c sd y := by rw [ev16, ev14, ev12, ev10]; rfl
  clear ev16 gw15
  subst fv16
  refine va_put (D := D) (ci := 4) (v := .double (tQx U V lx ly a b c sd y)) (ty := .double) (C := RX5) (T := TX5) (N := 14) hx hb hts hinX5 tyX5 tyX5_ok nmX5 hown hw.1 hP hD hS 0 rfl rfl 4 (by decide) (hts (.fieldLink RX5 63 "WheelSwing$Stand" "qx" "D") (by decide +kernel)) (fun _ h9 => h9) rfl (by decide +kernel) rfl rfl (Nat.le_of_ble_eq_true rfl) dX5_placeUpright_36 (fun H locs hP hD hS => ?_)
  have hP : va_P D vwCl [(st, .inr (4, [.int U, .int V, .double (tPx lx ly b y), .double (FP.i2d y), .double (tQx U V lx ly a b c sd y), .double p3, .double p4, .double p5, .double p6, .double p7, .double (tDx U lx ly b y), .double (tDy V y), .double (tM U V lx ly a b c y), .double (tK U V lx ly a b c y)]))] H := hP
  have hD : va_D (aE st) [(st, .inr (4, [.int U, .int V, .double (tPx lx ly b y), .double (FP.i2d y), .double (tQx U V lx ly a b c sd y), .double p3, .double p4, .double p5, .double p6, .double p7, .double (tDx U lx ly b y), .double (tDy V y), .double (tM U V lx ly a b c y), .double (tK U V lx ly a b c y)]))] := hD
  have hR := fr_rd hR0 hS hnr
  refine lv_aload_n hx hb dX5_placeUpright_39 rfl (lv_at hl 1 rfl) ?_
  refine lv_aload_n hx hb dX5_placeUpright_40 rfl (lv_at hl 1 rfl) ?_
  refine va_get (D := D) (ci := 4) (v := .double (FP.i2d y)) (C := RX5) (T := TX5) (N := 14) hx hb hts hinX5 hown hw.1 hP 0 rfl rfl 3 (by decide) (hts (.fieldLink RX5 37 "WheelSwing$Stand" "py" "D") (by decide +kernel)) (fun _ h9 => h9) rfl dX5_placeUpright_41 ?_
  refine lv_aload_n hx hb dX5_placeUpright_44 rfl (lv_at hl 1 rfl) ?_
  refine va_get (D := D) (ci := 4) (v := .double (tM U V lx ly a b c y)) (C := RX5) (T := TX5) (N := 14) hx hb hts hinX5 hown hw.1 hP 0 rfl rfl 12 (by decide) (hts (.fieldLink RX5 54 "WheelSwing$Stand" "m" "D") (by decide +kernel)) (fun _ h9 => h9) rfl dX5_placeUpright_45 ?_
  refine lv_aload_n hx hb dX5_placeUpright_48 rfl (lv_at hl 1 rfl) ?_
  refine va_get (D := D) (ci := 4) (v := .double (tDy V y)) (C := RX5) (T := TX5) (N := 14) hx hb hts hinX5 hown hw.1 hP 0 rfl rfl 11 (by decide) (hts (.fieldLink RX5 43 "WheelSwing$Stand" "dy" "D") (by decide +kernel)) (fun _ h9 => h9) rfl dX5_placeUpright_49 ?_
  have gw17 := gf_mul 941 1149 (gz_m hh h0 he hk) (gz_dy hh h0) (Nat.le_of_ble_eq_true rfl) (Nat.le_of_ble_eq_true rfl) (Nat.le_of_ble_eq_true rfl)
  refine lv_dmul hx hb dX5_placeUpright_52 (gf_n64 gw17) ?_
  refine lv_topd (fun v18 ev18 => ?_)
  rw [← ev18] at gw17
  have gw19 := gf_add 941 1150 (gf_i2d 10 (yB_k ky)) gw17 (Nat.le_of_ble_eq_true rfl) (Nat.le_of_ble_eq_true rfl) (Nat.le_of_ble_eq_true rfl) (Nat.le_of_ble_eq_true rfl) (Nat.le_of_ble_eq_true rfl)
  refine lv_dadd hx hb dX5_placeUpright_53 (gf_n64 gw19) ?_
  refine lv_topd (fun v20 ev20 => ?_)
  rw [← ev20] at gw19
  refine lv_dload_n hx hb dX5_placeUpright_54 rfl (lv_at hl 0 rfl) ?_
  refine lv_aload_n hx hb dX5_placeUpright_55 rfl (lv_at hl 1 rfl) ?_
  refine va_get (D := D) (ci := 4) (v := .double (tDx U lx ly b y)) (C := RX5) (T := TX5) (N := 14) hx hb hts hinX5 hown hw.1 hP 0 rfl rfl 10 (by decide) (hts (.fieldLink RX5 40 "WheelSwing$Stand" "dx" "D") (by decide +kernel)) (fun _ h9 => h9) rfl dX5_placeUpright_56 ?_
  have gw21 := gf_mul 934 1151 (gz_s hh h0 he hk hsd) (gz_dx hh h0) (Nat.le_of_ble_eq_true rfl) (Nat.le_of_ble_eq_true rfl) (Nat.le_of_ble_eq_true rfl)
  refine lv_dmul hx hb dX5_placeUpright_59 (gf_n64 gw21) ?_
  refine lv_topd (fun v22 ev22 => ?_)
  rw [← ev22] at gw21
  have gw23 := gf_sub 934 1152 gw19 gw21 (Nat.le_of_ble_eq_true rfl) (Nat.le_of_ble_eq_true rfl) (Nat.le_of_ble_eq_true rfl) (Nat.le_of_ble_eq_true rfl) (Nat.le_of_ble_eq_true rfl)
  refine lv_dsub hx hb dX5_placeUpright_60 (gf_n64 gw23) ?_
  refine lv_topd (fun v24 ev24 => ?_)
  rw [← ev24] at gw23
  have fv24 : v24 = tQy U V lx ly a b c sd y := by rw [ev24, ev22, ev20, ev18]; rfl
  clear ev24 gw23
  subst fv24
  refine va_put (D := D) (ci := 4) (v := .double (tQy U V lx ly a b c sd y)) (ty := .double) (C := RX5) (T := TX5) (N := 14) hx hb hts hinX5 tyX5 tyX5_ok nmX5 hown hw.1 hP hD hS 0 rfl rfl 5 (by decide) (hts (.fieldLink RX5 66 "WheelSwing$Stand" "qy" "D") (by decide +kernel)) (fun _ h9 => h9) rfl (by decide +kernel) rfl rfl (Nat.le_of_ble_eq_true rfl) dX5_placeUpright_61 (fun H locs hP hD hS => ?_)
  have hP : va_P D vwCl [(st, .inr (4, [.int U, .int V, .double (tPx lx ly b y), .double (FP.i2d y), .double (tQx U V lx ly a b c sd y), .double (tQy U V lx ly a b c sd y), .double p4, .double p5, .double p6, .double p7, .double (tDx U lx ly b y), .double (tDy V y), .double (tM U V lx ly a b c y), .double (tK U V lx ly a b c y)]))] H := hP
  have hD : va_D (aE st) [(st, .inr (4, [.int U, .int V, .double (tPx lx ly b y), .double (FP.i2d y), .double (tQx U V lx ly a b c sd y), .double (tQy U V lx ly a b c sd y), .double p4, .double p5, .double p6, .double p7, .double (tDx U lx ly b y), .double (tDy V y), .double (tM U V lx ly a b c y), .double (tK U V lx ly a b c y)]))] := hD
  have hR := fr_rd hR0 hS hnr
  refine lv_aload_n hx hb dX5_placeUpright_64 rfl (lv_at hl 1 rfl) ?_
  refine lv_aload_n hx hb dX5_placeUpright_65 rfl (lv_at hl 1 rfl) ?_
  refine va_get (D := D) (ci := 4) (v := .double (tQx U V lx ly a b c sd y)) (C := RX5) (T := TX5) (N := 14) hx hb hts hinX5 hown hw.1 hP 0 rfl rfl 4 (by decide) (hts (.fieldLink RX5 63 "WheelSwing$Stand" "qx" "D") (by decide +kernel)) (fun _ h9 => h9) rfl dX5_placeUpright_66 ?_
  refine lv_aload_n hx hb dX5_placeUpright_69 rfl (lv_at hl 1 rfl) ?_
  refine va_get (D := D) (ci := 4) (v := .double (tPx lx ly b y)) (C := RX5) (T := TX5) (N := 14) hx hb hts hinX5 hown hw.1 hP 0 rfl rfl 2 (by decide) (hts (.fieldLink RX5 33 "WheelSwing$Stand" "px" "D") (by decide +kernel)) (fun _ h9 => h9) rfl dX5_placeUpright_70 ?_
  have gw25 := gf_sub 888 1154 (gz_qx hh h0 he hk hsd) (gz_px hh h0) (Nat.le_of_ble_eq_true rfl) (Nat.le_of_ble_eq_true rfl) (Nat.le_of_ble_eq_true rfl) (Nat.le_of_ble_eq_true rfl) (Nat.le_of_ble_eq_true rfl)
  refine lv_dsub hx hb dX5_placeUpright_73 (gf_n64 gw25) ?_
  refine lv_topd (fun v26 ev26 => ?_)
  rw [← ev26] at gw25
  refine lv_aload_n hx hb dX5_placeUpright_74 rfl (lv_at hl 2 rfl) ?_
  refine va_getN (host := "WheelSwing") (D := D) (ci := 1) (v := .int c) (C := RX2) (T := TX2) (N := 13) hx hb hts hinX2 hown hw.1 hR 0 rfl rfl 6 (by decide) (va_Nw.use rfl (hw.2 (.fieldLinkNest RX5 46 "WheelSwing$Hanging" "c" "I" "WheelSwing") (by decide +kernel))) (fun _ h9 => h9) rfl dX5_placeUpright_75 ?_
  refine lv_i2d hx hb dX5_placeUpright_78 ?_
  have gw27 := gf_i2d 10 (aB_k kc)
  have gw28 := gf_div 826 1154 gw25 gw27 (c_ne kc) (Nat.le_of_ble_eq_true rfl) (Nat.le_of_ble_eq_true rfl) (Nat.le_of_ble_eq_true rfl)
  refine lv_ddiv hx hb dX5_placeUpright_79 (gf_n64 gw28) ?_
  refine lv_topd (fun v29 ev29 => ?_)
  rw [← ev29] at gw28
  have fv29 : v29 = tVx U V lx ly a b c sd y := by rw [ev29, ev26]; rfl
  clear ev29 gw28
  subst fv29
  refine va_put (D := D) (ci := 4) (v := .double (tVx U V lx ly a b c sd y)) (ty := .double) (C := RX5) (T := TX5) (N := 14) hx hb hts hinX5 tyX5 tyX5_ok nmX5 hown hw.1 hP hD hS 0 rfl rfl 6 (by decide) (hts (.fieldLink RX5 69 "WheelSwing$Stand" "vx" "D") (by decide +kernel)) (fun _ h9 => h9) rfl (by decide +kernel) rfl rfl (Nat.le_of_ble_eq_true rfl) dX5_placeUpright_80 (fun H locs hP hD hS => ?_)
  have hP : va_P D vwCl [(st, .inr (4, [.int U, .int V, .double (tPx lx ly b y), .double (FP.i2d y), .double (tQx U V lx ly a b c sd y), .double (tQy U V lx ly a b c sd y), .double (tVx U V lx ly a b c sd y), .double p5, .double p6, .double p7, .double (tDx U lx ly b y), .double (tDy V y), .double (tM U V lx ly a b c y), .double (tK U V lx ly a b c y)]))] H := hP
  have hD : va_D (aE st) [(st, .inr (4, [.int U, .int V, .double (tPx lx ly b y), .double (FP.i2d y), .double (tQx U V lx ly a b c sd y), .double (tQy U V lx ly a b c sd y), .double (tVx U V lx ly a b c sd y), .double p5, .double p6, .double p7, .double (tDx U lx ly b y), .double (tDy V y), .double (tM U V lx ly a b c y), .double (tK U V lx ly a b c y)]))] := hD
  have hR := fr_rd hR0 hS hnr
  refine lv_aload_n hx hb dX5_placeUpright_83 rfl (lv_at hl 1 rfl) ?_
  refine lv_aload_n hx hb dX5_placeUpright_84 rfl (lv_at hl 1 rfl) ?_
  refine va_get (D := D) (ci := 4) (v := .double (tQy U V lx ly a b c sd y)) (C := RX5) (T := TX5) (N := 14) hx hb hts hinX5 hown hw.1 hP 0 rfl rfl 5 (by decide) (hts (.fieldLink RX5 66 "WheelSwing$Stand" "qy" "D") (by decide +kernel)) (fun _ h9 => h9) rfl dX5_placeUpright_85 ?_
  refine lv_aload_n hx hb dX5_placeUpright_88 rfl (lv_at hl 1 rfl) ?_
  refine va_get (D := D) (ci := 4) (v := .double (FP.i2d y)) (C := RX5) (T := TX5) (N := 14) hx hb hts hinX5 hown hw.1 hP 0 rfl rfl 3 (by decide) (hts (.fieldLink RX5 37 "WheelSwing$Stand" "py" "D") (by decide +kernel)) (fun _ h9 => h9) rfl dX5_placeUpright_89 ?_
  have gw30 := gf_sub 934 1153 (gz_qy hh h0 he hk hsd) (gf_i2d 10 (yB_k ky)) (Nat.le_of_ble_eq_true rfl) (Nat.le_of_ble_eq_true rfl) (Nat.le_of_ble_eq_true rfl) (Nat.le_of_ble_eq_true rfl) (Nat.le_of_ble_eq_true rfl)
  refine lv_dsub hx hb dX5_placeUpright_92 (gf_n64 gw30) ?_
  refine lv_topd (fun v31 ev31 => ?_)
  rw [← ev31] at gw30
  refine lv_aload_n hx hb dX5_placeUpright_93 rfl (lv_at hl 2 rfl) ?_
  refine va_getN (host := "WheelSwing") (D := D) (ci := 1) (v := .int c) (C := RX2) (T := TX2) (N := 13) hx hb hts hinX2 hown hw.1 hR 0 rfl rfl 6 (by decide) (va_Nw.use rfl (hw.2 (.fieldLinkNest RX5 46 "WheelSwing$Hanging" "c" "I" "WheelSwing") (by decide +kernel))) (fun _ h9 => h9) rfl dX5_placeUpright_94 ?_
  refine lv_i2d hx hb dX5_placeUpright_97 ?_
  have gw32 := gf_i2d 10 (aB_k kc)
  have gw33 := gf_div 872 1153 gw30 gw32 (c_ne kc) (Nat.le_of_ble_eq_true rfl) (Nat.le_of_ble_eq_true rfl) (Nat.le_of_ble_eq_true rfl)
  refine lv_ddiv hx hb dX5_placeUpright_98 (gf_n64 gw33) ?_
  refine lv_topd (fun v34 ev34 => ?_)
  rw [← ev34] at gw33
  have fv34 : v34 = tVy U V lx ly a b c sd y := by rw [ev34, ev31]; rfl
  clear ev34 gw33
  subst fv34
  refine va_put (D := D) (ci := 4) (v := .double (tVy U V lx ly a b c sd y)) (ty := .double) (C := RX5) (T := TX5) (N := 14) hx hb hts hinX5 tyX5 tyX5_ok nmX5 hown hw.1 hP hD hS 0 rfl rfl 7 (by decide) (hts (.fieldLink RX5 72 "WheelSwing$Stand" "vy" "D") (by decide +kernel)) (fun _ h9 => h9) rfl (by decide +kernel) rfl rfl (Nat.le_of_ble_eq_true rfl) dX5_placeUpright_99 (fun H locs hP hD hS => ?_)
  have hP : va_P D vwCl [(st, .inr (4, [.int U, .int V, .double (tPx lx ly b y), .double (FP.i2d y), .double (tQx U V lx ly a b c sd y), .double (tQy U V lx ly a b c sd y), .double (tVx U V lx ly a b c sd y), .double (tVy U V lx ly a b c sd y), .double p6, .double p7, .double (tDx U lx ly b y), .double (tDy V y), .double (tM U V lx ly a b c y), .double (tK U V lx ly a b c y)]))] H := hP
  have hD : va_D (aE st) [(st, .inr (4, [.int U, .int V, .double (tPx lx ly b y), .double (FP.i2d y), .double (tQx U V lx ly a b c sd y), .double (tQy U V lx ly a b c sd y), .double (tVx U V lx ly a b c sd y), .double (tVy U V lx ly a b c sd y), .double p6, .double p7, .double (tDx U lx ly b y), .double (tDy V y), .double (tM U V lx ly a b c y), .double (tK U V lx ly a b c y)]))] := hD
  have hR := fr_rd hR0 hS hnr
  exact W.vret hx hb hr (fun t ht hW => ⟨⟨[.int U, .int V, .double (tPx lx ly b y), .double (FP.i2d y), .double (tQx U V lx ly a b c sd y), .double (tQy U V lx ly a b c sd y), .double (tVx U V lx ly a b c sd y), .double (tVy U V lx ly a b c sd y), .double p6, .double p7, .double (tDx U lx ly b y), .double (tDy V y), .double (tM U V lx ly a b c y), .double (tK U V lx ly a b c y)], rfl, rfl, at_heap ht (hP 0 _ rfl)⟩, hS.F ht⟩) hS.2.2 dX5_placeUpright_102
def tRx (g d : Int32) (px vx vy : UInt64) : UInt64 := FP.dadd (FP.dadd px (FP.dmul (FP.i2d g) vx)) (FP.dmul (FP.i2d d) vy)
def tRy (g d : Int32) (py vx vy : UInt64) : UInt64 := FP.dsub (FP.dadd py (FP.dmul (FP.i2d g) vy)) (FP.dmul (FP.i2d d) vx)
theorem gz_rx {g d : Int32} {px vx vy : UInt64} (kg : cB g) (kd : cB d) (g1 : fGr 1021 1086 px) (g2 : fGr 826 1154 vx) (g3 : fGr 872 1153 vy) : fGr 826 1166 (tRx g d px vx vy) := gf_w (gf_add 826 1166 (gf_add 826 1165 g1 (gf_mul 826 1164 (gf_i2d 10 (cB_k kg)) g2 (Nat.le_of_ble_eq_true rfl) (Nat.le_of_ble_eq_true rfl) (Nat.le_of_ble_eq_true rfl)) (Nat.le_of_ble_eq_true rfl) (Nat.le_of_ble_eq_true rfl) (Nat.le_of_ble_eq_true rfl) (Nat.le_of_ble_eq_true rfl) (Nat.le_of_ble_eq_true rfl)) (gf_mul 872 1163 (gf_i2d 10 (cB_k kd)) g3 (Nat.le_of_ble_eq_true rfl) (Nat.le_of_ble_eq_true rfl) (Nat.le_of_ble_eq_true rfl)) (Nat.le_of_ble_eq_true rfl) (Nat.le_of_ble_eq_true rfl) (Nat.le_of_ble_eq_true rfl) (Nat.le_of_ble_eq_true rfl) (Nat.le_of_ble_eq_true rfl)) (Nat.le_of_ble_eq_true rfl) (Nat.le_of_ble_eq_true rfl)
theorem gz_ry {g d : Int32} {py vx vy : UInt64} (kg : cB g) (kd : cB d) (g1 : fGr 1074 1084 py) (g2 : fGr 826 1154 vx) (g3 : fGr 872 1153 vy) : fGr 826 1166 (tRy g d py vx vy) := gf_w (gf_sub 826 1165 (gf_add 872 1164 g1 (gf_mul 872 1163 (gf_i2d 10 (cB_k kg)) g3 (Nat.le_of_ble_eq_true rfl) (Nat.le_of_ble_eq_true rfl) (Nat.le_of_ble_eq_true rfl)) (Nat.le_of_ble_eq_true rfl) (Nat.le_of_ble_eq_true rfl) (Nat.le_of_ble_eq_true rfl) (Nat.le_of_ble_eq_true rfl) (Nat.le_of_ble_eq_true rfl)) (gf_mul 826 1164 (gf_i2d 10 (cB_k kd)) g2 (Nat.le_of_ble_eq_true rfl) (Nat.le_of_ble_eq_true rfl) (Nat.le_of_ble_eq_true rfl)) (Nat.le_of_ble_eq_true rfl) (Nat.le_of_ble_eq_true rfl) (Nat.le_of_ble_eq_true rfl) (Nat.le_of_ble_eq_true rfl) (Nat.le_of_ble_eq_true rfl)) (Nat.le_of_ble_eq_true rfl) (Nat.le_of_ble_eq_true rfl)
set_option maxHeartbeats 4000000 in
set_option maxRecDepth 100000 in
theorem mX5_roadX (l : Launch) (D : va_G) (cI cH : ClassId) (st hg : Nat) (s0 s1 : Int32) (p0 p1 p2 p3 p4 p5 p6 p7 p8 p9 p10 p11 : UInt64) (ux uy a lx ly b c sd g d sx sy f : Int32)  (kg : cB g) (kd : cB d) (g0 : fGr 1021 1086 p0) (g1 : fGr 1074 1084 p1) (g2 : fGr 888 1153 p2) (g3 : fGr 934 1152 p3) (g4 : fGr 826 1154 p4) (g5 : fGr 872 1153 p5) : Met l yX5_roadX wsX5_roadX ({ frames := 0, cells := 0, slots := 0, locals := 0 }) (va_Pc [.ref st, .ref hg] (kB D cI cH [(st, .inr (4, [.int s0, .int s1, .double p0, .double p1, .double p2, .double p3, .double p4, .double p5, .double p6, .double p7, .double p8, .double p9, .double p10, .double p11])), (hg, .inr (1, [.int ux, .int uy, .int a, .int lx, .int ly, .int b, .int c, .int sd, .int g, .int d, .int sx, .int sy, .int f]))])) (va_Qd (fun (r : UInt64) (u : Unit) => r = tRx g d p0 p4 p5) (fun _ _ => True) nA) 0 0 nA := by
  refine Met.ofW (cc := cX5_roadX) (maxL := 2) (ret := (some .double)) (by decide) rfl ?_
  intro p e s m args below meth co s₁ B hml hv
  obtain ⟨rfl, hP0, hw⟩ := hv
  have hx := B.exec
  have hb := B.bytes
  have hr := B.returns
  have hts := atoms_spec (ws := wsX5_roadX) B.pre
  have hown : s.vm.findClass RX5 = some m.cls := findClass_of_methodNamed B.named
  have hlocks := B.notSynchronized
  have hinX2 : ∀ w ∈ wsX20, w ∈ wsX5_roadX := by decide +kernel
  have hinX5 : ∀ w ∈ wsX50, w ∈ wsX5_roadX := by decide +kernel
  have hS : va_S nA s.heap s.heap [] := va_S.rf
  have hR0 : va_P D vwCl [(st, .inr (4, [.int s0, .int s1, .double p0, .double p1, .double p2, .double p3, .double p4, .double p5, .double p6, .double p7, .double p8, .double p9, .double p10, .double p11])), (hg, .inr (1, [.int ux, .int uy, .int a, .int lx, .int ly, .int b, .int c, .int sd, .int g, .int d, .int sx, .int sy, .int f]))] s.heap := hP0.sub [0, 1] rfl
  have hR := hR0
  have hnr : ∀ (k : Nat) (q : Nat × va_E), ([(st, .inr (4, [.int s0, .int s1, .double p0, .double p1, .double p2, .double p3, .double p4, .double p5, .double p6, .double p7, .double p8, .double p9, .double p10, .double p11])), (hg, .inr (1, [.int ux, .int uy, .int a, .int lx, .int ly, .int b, .int c, .int sd, .int g, .int d, .int sx, .int sy, .int f]))] : va_W)[k]? = some q → ¬ nA q.1 := fr_nA
  have hl := lv_entry ([.ref st, .ref hg]) (n := 2) (Nat.le_of_ble_eq_true rfl)
  rw [lg_entry_eq]
  generalize (lg_sl ([.ref st, .ref hg]) ++ List.replicate (2 - (lg_sl ([.ref st, .ref hg])).length) Slot.unset).toArray = ls at hl ⊢
  have hl : lv_has ls 2 [(0, .ref st), (1, .ref hg)] := hl
  skip
  refine lv_aload_n hx hb dX5_roadX_0 rfl (lv_at hl 0 rfl) ?_
  refine va_get (D := D) (ci := 4) (v := .double p0) (C := RX5) (T := TX5) (N := 14) hx hb hts hinX5 hown hw.1 hR 0 rfl rfl 2 (by decide) (hts (.fieldLink RX5 33 "WheelSwing$Stand" "px" "D") (by decide +kernel)) (fun _ h9 => h9) rfl dX5_roadX_1 ?_
  refine lv_aload_n hx hb dX5_roadX_4 rfl (lv_at hl 1 rfl) ?_
  refine va_getN (host := "WheelSwing") (D := D) (ci := 1) (v := .int g) (C := RX2) (T := TX2) (N := 13) hx hb hts hinX2 hown hw.1 hR 1 rfl rfl 8 (by decide) (va_Nw.use rfl (hw.2 (.fieldLinkNest RX5 75 "WheelSwing$Hanging" "g" "I" "WheelSwing") (by decide +kernel))) (fun _ h9 => h9) rfl dX5_roadX_5 ?_
  refine lv_i2d hx hb dX5_roadX_8 ?_
  have gw1 := gf_i2d 10 (cB_k kg)
  refine lv_aload_n hx hb dX5_roadX_9 rfl (lv_at hl 0 rfl) ?_
  refine va_get (D := D) (ci := 4) (v := .double p4) (C := RX5) (T := TX5) (N := 14) hx hb hts hinX5 hown hw.1 hR 0 rfl rfl 6 (by decide) (hts (.fieldLink RX5 69 "WheelSwing$Stand" "vx" "D") (by decide +kernel)) (fun _ h9 => h9) rfl dX5_roadX_10 ?_
  have gw2 := gf_mul 826 1164 gw1 g4 (Nat.le_of_ble_eq_true rfl) (Nat.le_of_ble_eq_true rfl) (Nat.le_of_ble_eq_true rfl)
  refine lv_dmul hx hb dX5_roadX_13 (gf_n64 gw2) ?_
  refine lv_topd (fun v3 ev3 => ?_)
  rw [← ev3] at gw2
  have gw4 := gf_add 826 1165 g0 gw2 (Nat.le_of_ble_eq_true rfl) (Nat.le_of_ble_eq_true rfl) (Nat.le_of_ble_eq_true rfl) (Nat.le_of_ble_eq_true rfl) (Nat.le_of_ble_eq_true rfl)
  refine lv_dadd hx hb dX5_roadX_14 (gf_n64 gw4) ?_
  refine lv_topd (fun v5 ev5 => ?_)
  rw [← ev5] at gw4
  refine lv_aload_n hx hb dX5_roadX_15 rfl (lv_at hl 1 rfl) ?_
  refine va_getN (host := "WheelSwing") (D := D) (ci := 1) (v := .int d) (C := RX2) (T := TX2) (N := 13) hx hb hts hinX2 hown hw.1 hR 1 rfl rfl 9 (by decide) (va_Nw.use rfl (hw.2 (.fieldLinkNest RX5 78 "WheelSwing$Hanging" "d" "I" "WheelSwing") (by decide +kernel))) (fun _ h9 => h9) rfl dX5_roadX_16 ?_
  refine lv_i2d hx hb dX5_roadX_19 ?_
  have gw6 := gf_i2d 10 (cB_k kd)
  refine lv_aload_n hx hb dX5_roadX_20 rfl (lv_at hl 0 rfl) ?_
  refine va_get (D := D) (ci := 4) (v := .double p5) (C := RX5) (T := TX5) (N := 14) hx hb hts hinX5 hown hw.1 hR 0 rfl rfl 7 (by decide) (hts (.fieldLink RX5 72 "WheelSwing$Stand" "vy" "D") (by decide +kernel)) (fun _ h9 => h9) rfl dX5_roadX_21 ?_
  have gw7 := gf_mul 872 1163 gw6 g5 (Nat.le_of_ble_eq_true rfl) (Nat.le_of_ble_eq_true rfl) (Nat.le_of_ble_eq_true rfl)
  refine lv_dmul hx hb dX5_roadX_24 (gf_n64 gw7) ?_
  refine lv_topd (fun v8 ev8 => ?_)
  rw [← ev8] at gw7
  have gw9 := gf_add 826 1166 gw4 gw7 (Nat.le_of_ble_eq_true rfl) (Nat.le_of_ble_eq_true rfl) (Nat.le_of_ble_eq_true rfl) (Nat.le_of_ble_eq_true rfl) (Nat.le_of_ble_eq_true rfl)
  refine lv_dadd hx hb dX5_roadX_25 (gf_n64 gw9) ?_
  refine lv_topd (fun v10 ev10 => ?_)
  rw [← ev10] at gw9
  have fv10 : v10 = tRx g d p0 p4 p5 := by rw [ev10, ev8, ev5, ev3]; rfl
  clear ev10 gw9
  subst fv10
  exact W.dret (v := tRx g d p0 p4 p5) hx hb hr (fun t ht hW => ⟨⟨tRx g d p0 p4 p5, (), rfl, rfl, trivial⟩, hS.F ht⟩) hS.2.2 dX5_roadX_26
set_option maxHeartbeats 4000000 in
set_option maxRecDepth 100000 in
theorem mX5_roadY (l : Launch) (D : va_G) (cI cH : ClassId) (st hg : Nat) (s0 s1 : Int32) (p0 p1 p2 p3 p4 p5 p6 p7 p8 p9 p10 p11 : UInt64) (ux uy a lx ly b c sd g d sx sy f : Int32)  (kg : cB g) (kd : cB d) (g0 : fGr 1021 1086 p0) (g1 : fGr 1074 1084 p1) (g2 : fGr 888 1153 p2) (g3 : fGr 934 1152 p3) (g4 : fGr 826 1154 p4) (g5 : fGr 872 1153 p5) : Met l yX5_roadY wsX5_roadY ({ frames := 0, cells := 0, slots := 0, locals := 0 }) (va_Pc [.ref st, .ref hg] (kB D cI cH [(st, .inr (4, [.int s0, .int s1, .double p0, .double p1, .double p2, .double p3, .double p4, .double p5, .double p6, .double p7, .double p8, .double p9, .double p10, .double p11])), (hg, .inr (1, [.int ux, .int uy, .int a, .int lx, .int ly, .int b, .int c, .int sd, .int g, .int d, .int sx, .int sy, .int f]))])) (va_Qd (fun (r : UInt64) (u : Unit) => r = tRy g d p1 p4 p5) (fun _ _ => True) nA) 0 0 nA := by
  refine Met.ofW (cc := cX5_roadY) (maxL := 2) (ret := (some .double)) (by decide) rfl ?_
  intro p e s m args below meth co s₁ B hml hv
  obtain ⟨rfl, hP0, hw⟩ := hv
  have hx := B.exec
  have hb := B.bytes
  have hr := B.returns
  have hts := atoms_spec (ws := wsX5_roadY) B.pre
  have hown : s.vm.findClass RX5 = some m.cls := findClass_of_methodNamed B.named
  have hlocks := B.notSynchronized
  have hinX2 : ∀ w ∈ wsX20, w ∈ wsX5_roadY := by decide +kernel
  have hinX5 : ∀ w ∈ wsX50, w ∈ wsX5_roadY := by decide +kernel
  have hS : va_S nA s.heap s.heap [] := va_S.rf
  have hR0 : va_P D vwCl [(st, .inr (4, [.int s0, .int s1, .double p0, .double p1, .double p2, .double p3, .double p4, .double p5, .double p6, .double p7, .double p8, .double p9, .double p10, .double p11])), (hg, .inr (1, [.int ux, .int uy, .int a, .int lx, .int ly, .int b, .int c, .int sd, .int g, .int d, .int sx, .int sy, .int f]))] s.heap := hP0.sub [0, 1] rfl
  have hR := hR0
  have hnr : ∀ (k : Nat) (q : Nat × va_E), ([(st, .inr (4, [.int s0, .int s1, .double p0, .double p1, .double p2, .double p3, .double p4, .double p5, .double p6, .double p7, .double p8, .double p9, .double p10, .double p11])), (hg, .inr (1, [.int ux, .int uy, .int a, .int lx, .int ly, .int b, .int c, .int sd, .int g, .int d, .int sx, .int sy, .int f]))] : va_W)[k]? = some q → ¬ nA q.1 := fr_nA
  have hl := lv_entry ([.ref st, .ref hg]) (n := 2) (Nat.le_of_ble_eq_true rfl)
  rw [lg_entry_eq]
  generalize (lg_sl ([.ref st, .ref hg]) ++ List.replicate (2 - (lg_sl ([.ref st, .ref hg])).length) Slot.unset).toArray = ls at hl ⊢
  have hl : lv_has ls 2 [(0, .ref st), (1, .ref hg)] := hl
  skip
  refine lv_aload_n hx hb dX5_roadY_0 rfl (lv_at hl 0 rfl) ?_
  refine va_get (D := D) (ci := 4) (v := .double p1) (C := RX5) (T := TX5) (N := 14) hx hb hts hinX5 hown hw.1 hR 0 rfl rfl 3 (by decide) (hts (.fieldLink RX5 37 "WheelSwing$Stand" "py" "D") (by decide +kernel)) (fun _ h9 => h9) rfl dX5_roadY_1 ?_
  refine lv_aload_n hx hb dX5_roadY_4 rfl (lv_at hl 1 rfl) ?_
  refine va_getN (host := "WheelSwing") (D := D) (ci := 1) (v := .int g) (C := RX2) (T := TX2) (N := 13) hx hb hts hinX2 hown hw.1 hR 1 rfl rfl 8 (by decide) (va_Nw.use rfl (hw.2 (.fieldLinkNest RX5 75 "WheelSwing$Hanging" "g" "I" "WheelSwing") (by decide +kernel))) (fun _ h9 => h9) rfl dX5_roadY_5 ?_
  refine lv_i2d hx hb dX5_roadY_8 ?_
  have gw1 := gf_i2d 10 (cB_k kg)
  refine lv_aload_n hx hb dX5_roadY_9 rfl (lv_at hl 0 rfl) ?_
  refine va_get (D := D) (ci := 4) (v := .double p5) (C := RX5) (T := TX5) (N := 14) hx hb hts hinX5 hown hw.1 hR 0 rfl rfl 7 (by decide) (hts (.fieldLink RX5 72 "WheelSwing$Stand" "vy" "D") (by decide +kernel)) (fun _ h9 => h9) rfl dX5_roadY_10 ?_
  have gw2 := gf_mul 872 1163 gw1 g5 (Nat.le_of_ble_eq_true rfl) (Nat.le_of_ble_eq_true rfl) (Nat.le_of_ble_eq_true rfl)
  refine lv_dmul hx hb dX5_roadY_13 (gf_n64 gw2) ?_
  refine lv_topd (fun v3 ev3 => ?_)
  rw [← ev3] at gw2
  have gw4 := gf_add 872 1164 g1 gw2 (Nat.le_of_ble_eq_true rfl) (Nat.le_of_ble_eq_true rfl) (Nat.le_of_ble_eq_true rfl) (Nat.le_of_ble_eq_true rfl) (Nat.le_of_ble_eq_true rfl)
  refine lv_dadd hx hb dX5_roadY_14 (gf_n64 gw4) ?_
  refine lv_topd (fun v5 ev5 => ?_)
  rw [← ev5] at gw4
  refine lv_aload_n hx hb dX5_roadY_15 rfl (lv_at hl 1 rfl) ?_
  refine va_getN (host := "WheelSwing") (D := D) (ci := 1) (v := .int d) (C := RX2) (T := TX2) (N := 13) hx hb hts hinX2 hown hw.1 hR 1 rfl rfl 9 (by decide) (va_Nw.use rfl (hw.2 (.fieldLinkNest RX5 78 "WheelSwing$Hanging" "d" "I" "WheelSwing") (by decide +kernel))) (fun _ h9 => h9) rfl dX5_roadY_16 ?_
  refine lv_i2d hx hb dX5_roadY_19 ?_
  have gw6 := gf_i2d 10 (cB_k kd)
  refine lv_aload_n hx hb dX5_roadY_20 rfl (lv_at hl 0 rfl) ?_
  refine va_get (D := D) (ci := 4) (v := .double p4) (C := RX5) (T := TX5) (N := 14) hx hb hts hinX5 hown hw.1 hR 0 rfl rfl 6 (by decide) (hts (.fieldLink RX5 69 "WheelSwing$Stand" "vx" "D") (by decide +kernel)) (fun _ h9 => h9) rfl dX5_roadY_21 ?_
  have gw7 := gf_mul 826 1164 gw6 g4 (Nat.le_of_ble_eq_true rfl) (Nat.le_of_ble_eq_true rfl) (Nat.le_of_ble_eq_true rfl)
  refine lv_dmul hx hb dX5_roadY_24 (gf_n64 gw7) ?_
  refine lv_topd (fun v8 ev8 => ?_)
  rw [← ev8] at gw7
  have gw9 := gf_sub 826 1165 gw4 gw7 (Nat.le_of_ble_eq_true rfl) (Nat.le_of_ble_eq_true rfl) (Nat.le_of_ble_eq_true rfl) (Nat.le_of_ble_eq_true rfl) (Nat.le_of_ble_eq_true rfl)
  refine lv_dsub hx hb dX5_roadY_25 (gf_n64 gw9) ?_
  refine lv_topd (fun v10 ev10 => ?_)
  rw [← ev10] at gw9
  have fv10 : v10 = tRy g d p1 p4 p5 := by rw [ev10, ev8, ev5, ev3]; rfl
  clear ev10 gw9
  subst fv10
  exact W.dret (v := tRy g d p1 p4 p5) hx hb hr (fun t ht hW => ⟨⟨tRy g d p1 p4 p5, (), rfl, rfl, trivial⟩, hS.F ht⟩) hS.2.2 dX5_roadY_26
