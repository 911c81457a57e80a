/-! X6: what tells a hanging, the car, the shims, the readings; count, digest -/
def okHang (h n1 n2 n3 n4 n5 n6 n7 n8 : Int32) : Bool := okH h && (okP n1 n2 && (okP n3 n4 && (okA n5 && (okA n6 && (okA n7 && (decide (n8 = 1) || decide (n8 = -1)))))))
def okWheel (h n1 n2 : Int32) : Bool := okH h && okP n1 n2
def okSpr (h n1 n2 n3 : Int32) : Bool := okH h && (okP n1 n2 && isW n3 0 1000)
def okWt (n1 n2 n3 : Int32) : Bool := isW n1 0 100000 && (isW n2 0 1000 && isW n3 (-500) 500)
def okPu (n1 n2 : Int32) : Bool := isW n1 (-100000) 100000 && isW n2 0 1000
def cntF (w a b : Int32) : Int32 := if w = 0 then a else if w = 1 then b else -2
set_option maxHeartbeats 4000000 in
set_option maxRecDepth 100000 in
theorem mX6_hang (l : Launch) (D : va_G) (cI cH : ClassId) (o ha st ca bx rd : Nat) (hg : Nat) (fh : Nat → Option Nat) (ux uy a lx ly b c sd g d sx sy f : Int32) (h n1 n2 n3 n4 n5 n6 n7 n8 : Int32)  (hno : o ≠ hg) (hna : ha ≠ hg) (hfh : okH h = true → fh h.toNatClampNeg = some hg) : Met l yX6_hang wsX6_hang ({ frames := 3, cells := 0, slots := 0, locals := 63 }) (va_Pc [.ref o, .int h, .int n1, .int n2, .int n3, .int n4, .int n5, .int n6, .int n7, .int n8] (kB D cI cH [(hg, .inr (1, [.int ux, .int uy, .int a, .int lx, .int ly, .int b, .int c, .int sd, .int g, .int d, .int sx, .int sy, .int f])), (o, .inr (5, [.ref ha, .ref st, .ref ca, .ref bx, .ref rd])), (ha, .inl (cH, 4, .inr (.inr (.inr (.inr fh)))))])) (va_Qi (fun (r : Int32) (u : List Value) => if okHang h n1 n2 n3 n4 n5 n6 n7 n8 then r = 1 ∧ u = [.int n1, .int n2, .int n5, .int n3, .int n4, .int n6, .int n7, .int n8, .int g, .int d, .int sx, .int sy, .int f] else r = -2 ∧ u = [.int ux, .int uy, .int a, .int lx, .int ly, .int b, .int c, .int sd, .int g, .int d, .int sx, .int sy, .int f]) (fun u t => va_at D vwCl (hg, .inr (1, u)) t.heap) (aE hg)) 0 0 (aE hg) := by
  refine Met.ofW (cc := cX6_hang) (maxL := 10) (ret := (some .int)) (by decide) rfl ?_
  intro p e s m args below meth co s₁ B hml hv
  obtain ⟨rfl, hP0, hw⟩ := hv
  have hx := B.exec
  have hb := B.bytes
  have hr := B.returns
  have hts := atoms_spec (ws := wsX6_hang) B.pre
  have hown : s.vm.findClass RX6 = some m.cls := findClass_of_methodNamed B.named
  have hlocks := B.notSynchronized
  have hinX2 : ∀ w ∈ wsX20, w ∈ wsX6_hang := by decide +kernel
  have hinX6 : ∀ w ∈ wsX60, w ∈ wsX6_hang := by decide +kernel
  have hS : va_S (aE hg) s.heap s.heap [] := va_S.rf
  have hP : va_P D vwCl [(hg, .inr (1, [.int ux, .int uy, .int a, .int lx, .int ly, .int b, .int c, .int sd, .int g, .int d, .int sx, .int sy, .int f]))] s.heap := hP0.sub [0] rfl
  have hD : va_D (aE hg) [(hg, .inr (1, [.int ux, .int uy, .int a, .int lx, .int ly, .int b, .int c, .int sd, .int g, .int d, .int sx, .int sy, .int f]))] := D_1 rfl
  have hR0 : va_P D vwCl [(o, .inr (5, [.ref ha, .ref st, .ref ca, .ref bx, .ref rd])), (ha, .inl (cH, 4, .inr (.inr (.inr (.inr fh)))))] s.heap := hP0.sub [1, 2] rfl
  have hR := hR0
  have hnr : ∀ (k9 : Nat) (q : Nat × va_E), ([(o, .inr (5, [.ref ha, .ref st, .ref ca, .ref bx, .ref rd])), (ha, .inl (cH, 4, .inr (.inr (.inr (.inr fh)))))] : va_W)[k9]? = some q → ¬ (aE hg) q.1 := nn_1 hno (nn_1 hna nn_0)
  have hl := lv_entry ([.ref o, .int h, .int n1, .int n2, .int n3, .int n4, .int n5, .int n6, .int n7, .int n8]) (n := 10) (Nat.le_of_ble_eq_true rfl)
  rw [lg_entry_eq]
  generalize (lg_sl ([.ref o, .int h, .int n1, .int n2, .int n3, .int n4, .int n5, .int n6, .int n7, .int n8]) ++ List.replicate (10 - (lg_sl ([.ref o, .int h, .int n1, .int n2, .int n3, .int n4, .int n5, .int n6, .int n7, .int n8])).length) Slot.unset).toArray = ls at hl ⊢
  have hl : lv_has ls 10 [(0, .ref o), (1, .int h), (2, .int n1), (3, .int n2), (4, .int n3), (5, .int n4), (6, .int n5), (7, .int n6), (8, .int n7), (9, .int n8)] := hl
  skip
  refine lv_iload_n hx hb dX6_hang_0 rfl (lv_at hl 1 rfl) ?_
  refine va_calli (va_runS (As := [.int h]) (rest := []) ⟨hx, hb, hml, hown, hts⟩ (mX6_isHanging l h) (va_cwS 1 hts gX6_hang_X6_isHanging rfl rfl rfl (by decide +kernel) ⟨Nat.le_of_ble_eq_true rfl, Nat.le_of_ble_eq_true rfl⟩) ⟨tB_blind, tB_go⟩ rfl rfl hl.1 rfl (lv_room (Nat.le_of_ble_eq_true rfl)) dX6_hang_1 ⟨Nat.le_of_ble_eq_true rfl, Nat.le_of_ble_eq_true rfl⟩) hS (fun q _ h => h.elim) (fun q h => h.elim) (fun r1 u2 t H locs ht hvm hp3 hB hz1 hk1 hS => ?_)
  have hP := fr_keep hP hk1 fr_nA
  have hR := fr_rd hR0 hS hnr
  subst hp3
  refine lv_if_eq (tgt := 25) hx hb dX6_hang_4 (by decide) (fun c4 => ?_) (fun c4 => ?_)
  · have c4 := bI_e.mp c4
    refine lv_bipush (v := (-2)) hx hb dX6_hang_25 (by decide) ?_
    exact W.iret (v := (-2)) hx hb hr (fun t ht hW => ⟨⟨(-2), [.int ux, .int uy, .int a, .int lx, .int ly, .int b, .int c, .int sd, .int g, .int d, .int sx, .int sy, .int f], rfl, (by dsimp only; rw [show okHang h n1 n2 n3 n4 n5 n6 n7 n8 = false from (by unfold okHang; simp [c4]), if_neg (by decide)]; exact ⟨rfl, rfl⟩), at_heap ht (hP 0 _ rfl)⟩, hS.F ht⟩) hS.2.2 dX6_hang_27
  · have c4 := bI_n.mp c4
    refine lv_iload_n hx hb dX6_hang_7 rfl (lv_at hl 2 rfl) ?_
    refine lv_iload_n hx hb dX6_hang_8 rfl (lv_at hl 3 rfl) ?_
    refine va_calli (va_runS (As := [.int n1, .int n2]) (rest := []) ⟨hx, hb, hml, hown, hts⟩ (mX6_isPoint l n1 n2) (va_cwS 2 hts gX6_hang_X6_isPoint rfl rfl rfl (by decide +kernel) ⟨Nat.le_of_ble_eq_true rfl, Nat.le_of_ble_eq_true rfl⟩) ⟨tB_blind, tB_go⟩ rfl rfl hl.1 rfl (lv_room (Nat.le_of_ble_eq_true rfl)) dX6_hang_9 ⟨Nat.le_of_ble_eq_true rfl, Nat.le_of_ble_eq_true rfl⟩) hS (fun q _ h => h.elim) (fun q h => h.elim) (fun r5 u6 t H locs ht hvm hp7 hB hz1 hk1 hS => ?_)
    have hP := fr_keep hP hk1 fr_nA
    have hR := fr_rd hR0 hS hnr
    subst hp7
    refine lv_if_eq (tgt := 25) hx hb dX6_hang_12 (by decide) (fun c8 => ?_) (fun c8 => ?_)
    · have c8 := bI_e.mp c8
      refine lv_bipush (v := (-2)) hx hb dX6_hang_25 (by decide) ?_
      exact W.iret (v := (-2)) hx hb hr (fun t ht hW => ⟨⟨(-2), [.int ux, .int uy, .int a, .int lx, .int ly, .int b, .int c, .int sd, .int g, .int d, .int sx, .int sy, .int f], rfl, (by dsimp only; rw [show okHang h n1 n2 n3 n4 n5 n6 n7 n8 = false from (by unfold okHang; simp [c4, c8]), if_neg (by decide)]; exact ⟨rfl, rfl⟩), at_heap ht (hP 0 _ rfl)⟩, hS.F ht⟩) hS.2.2 dX6_hang_27
    · have c8 := bI_n.mp c8
      refine lv_iload hx hb dX6_hang_15 (lv_at hl 4 rfl) ?_
      refine lv_iload hx hb dX6_hang_17 (lv_at hl 5 rfl) ?_
      refine va_calli (va_runS (As := [.int n3, .int n4]) (rest := []) ⟨hx, hb, hml, hown, hts⟩ (mX6_isPoint l n3 n4) (va_cwS 2 hts gX6_hang_X6_isPoint rfl rfl rfl (by decide +kernel) ⟨Nat.le_of_ble_eq_true rfl, Nat.le_of_ble_eq_true rfl⟩) ⟨tB_blind, tB_go⟩ rfl rfl hl.1 rfl (lv_room (Nat.le_of_ble_eq_true rfl)) dX6_hang_19 ⟨Nat.le_of_ble_eq_true rfl, Nat.le_of_ble_eq_true rfl⟩) hS (fun q _ h => h.elim) (fun q h => h.elim) (fun r9 u10 t H locs ht hvm hp11 hB hz1 hk1 hS => ?_)
      have hP := fr_keep hP hk1 fr_nA
      have hR := fr_rd hR0 hS hnr
      subst hp11
      refine lv_if_ne (tgt := 28) hx hb dX6_hang_22 (by decide) (fun c12 => ?_) (fun c12 => ?_)
      · have c12 := bI_n.mp c12
        refine lv_iload hx hb dX6_hang_28 (lv_at hl 6 rfl) ?_
        refine va_calli (va_runS (As := [.int n5]) (rest := []) ⟨hx, hb, hml, hown, hts⟩ (mX6_isArm l n5) (va_cwS 1 hts gX6_hang_X6_isArm rfl rfl rfl (by decide +kernel) ⟨Nat.le_of_ble_eq_true rfl, Nat.le_of_ble_eq_true rfl⟩) ⟨tB_blind, tB_go⟩ rfl rfl hl.1 rfl (lv_room (Nat.le_of_ble_eq_true rfl)) dX6_hang_30 ⟨Nat.le_of_ble_eq_true rfl, Nat.le_of_ble_eq_true rfl⟩) hS (fun q _ h => h.elim) (fun q h => h.elim) (fun r13 u14 t H locs ht hvm hp15 hB hz1 hk1 hS => ?_)
        have hP := fr_keep hP hk1 fr_nA
        have hR := fr_rd hR0 hS hnr
        subst hp15
        refine lv_if_eq (tgt := 64) hx hb dX6_hang_33 (by decide) (fun c16 => ?_) (fun c16 => ?_)
        · have c16 := bI_e.mp c16
          refine lv_bipush (v := (-2)) hx hb dX6_hang_64 (by decide) ?_
          exact W.iret (v := (-2)) hx hb hr (fun t ht hW => ⟨⟨(-2), [.int ux, .int uy, .int a, .int lx, .int ly, .int b, .int c, .int sd, .int g, .int d, .int sx, .int sy, .int f], rfl, (by dsimp only; rw [show okHang h n1 n2 n3 n4 n5 n6 n7 n8 = false from (by unfold okHang; simp [c4, c8, c12, c16]), if_neg (by decide)]; exact ⟨rfl, rfl⟩), at_heap ht (hP 0 _ rfl)⟩, hS.F ht⟩) hS.2.2 dX6_hang_66
        · have c16 := bI_n.mp c16
          refine lv_iload hx hb dX6_hang_36 (lv_at hl 7 rfl) ?_
          refine va_calli (va_runS (As := [.int n6]) (rest := []) ⟨hx, hb, hml, hown, hts⟩ (mX6_isArm l n6) (va_cwS 1 hts gX6_hang_X6_isArm rfl rfl rfl (by decide +kernel) ⟨Nat.le_of_ble_eq_true rfl, Nat.le_of_ble_eq_true rfl⟩) ⟨tB_blind, tB_go⟩ rfl rfl hl.1 rfl (lv_room (Nat.le_of_ble_eq_true rfl)) dX6_hang_38 ⟨Nat.le_of_ble_eq_true rfl, Nat.le_of_ble_eq_true rfl⟩) hS (fun q _ h => h.elim) (fun q h => h.elim) (fun r17 u18 t H locs ht hvm hp19 hB hz1 hk1 hS => ?_)
          have hP := fr_keep hP hk1 fr_nA
          have hR := fr_rd hR0 hS hnr
          subst hp19
          refine lv_if_eq (tgt := 64) hx hb dX6_hang_41 (by decide) (fun c20 => ?_) (fun c20 => ?_)
          · have c20 := bI_e.mp c20
            refine lv_bipush (v := (-2)) hx hb dX6_hang_64 (by decide) ?_
            exact W.iret (v := (-2)) hx hb hr (fun t ht hW => ⟨⟨(-2), [.int ux, .int uy, .int a, .int lx, .int ly, .int b, .int c, .int sd, .int g, .int d, .int sx, .int sy, .int f], rfl, (by dsimp only; rw [show okHang h n1 n2 n3 n4 n5 n6 n7 n8 = false from (by unfold okHang; simp [c4, c8, c12, c16, c20]), if_neg (by decide)]; exact ⟨rfl, rfl⟩), at_heap ht (hP 0 _ rfl)⟩, hS.F ht⟩) hS.2.2 dX6_hang_66
          · have c20 := bI_n.mp c20
            refine lv_iload hx hb dX6_hang_44 (lv_at hl 8 rfl) ?_
            refine va_calli (va_runS (As := [.int n7]) (rest := []) ⟨hx, hb, hml, hown, hts⟩ (mX6_isArm l n7) (va_cwS 1 hts gX6_hang_X6_isArm rfl rfl rfl (by decide +kernel) ⟨Nat.le_of_ble_eq_true rfl, Nat.le_of_ble_eq_true rfl⟩) ⟨tB_blind, tB_go⟩ rfl rfl hl.1 rfl (lv_room (Nat.le_of_ble_eq_true rfl)) dX6_hang_46 ⟨Nat.le_of_ble_eq_true rfl, Nat.le_of_ble_eq_true rfl⟩) hS (fun q _ h => h.elim) (fun q h => h.elim) (fun r21 u22 t H locs ht hvm hp23 hB hz1 hk1 hS => ?_)
            have hP := fr_keep hP hk1 fr_nA
            have hR := fr_rd hR0 hS hnr
            subst hp23
            refine lv_if_eq (tgt := 64) hx hb dX6_hang_49 (by decide) (fun c24 => ?_) (fun c24 => ?_)
            · have c24 := bI_e.mp c24
              refine lv_bipush (v := (-2)) hx hb dX6_hang_64 (by decide) ?_
              exact W.iret (v := (-2)) hx hb hr (fun t ht hW => ⟨⟨(-2), [.int ux, .int uy, .int a, .int lx, .int ly, .int b, .int c, .int sd, .int g, .int d, .int sx, .int sy, .int f], rfl, (by dsimp only; rw [show okHang h n1 n2 n3 n4 n5 n6 n7 n8 = false from (by unfold okHang; simp [c4, c8, c12, c16, c20, c24]), if_neg (by decide)]; exact ⟨rfl, rfl⟩), at_heap ht (hP 0 _ rfl)⟩, hS.F ht⟩) hS.2.2 dX6_hang_66
            · have c24 := bI_n.mp c24
              refine lv_iload hx hb dX6_hang_52 (lv_at hl 9 rfl) ?_
              refine lv_iconst (v := 1) hx hb dX6_hang_54 (by decide) ?_
              refine lv_icmp_eq (tgt := 67) hx hb dX6_hang_55 (by decide) (fun c25 => ?_) (fun c25 => ?_)
              · refine lv_aload_n hx hb dX6_hang_67 rfl (lv_at hl 0 rfl) ?_
                refine va_get (D := D) (ci := 5) (v := .ref ha) (C := RX6) (T := TX6) (N := 5) hx hb hts hinX6 hown hw.1 hR 0 rfl rfl 0 (by decide) (hts (.fieldLink RX6 11 "WheelSwing" "hangings" "[LWheelSwing$Hanging;") (by decide +kernel)) (fun _ h9 => h9) rfl dX6_hang_68 ?_
                refine lv_iload_n hx hb dX6_hang_71 rfl (lv_at hl 1 rfl) ?_
                refine va_aldq hx hb hw.1 hR 1 1 rfl rfl (okH_in c4) dX6_hang_72 ?_
                refine lv_rfs (a := hg) (hfh c4) ?_
                refine lv_iload_n hx hb dX6_hang_73 rfl (lv_at hl 2 rfl) ?_
                refine lv_iload_n hx hb dX6_hang_74 rfl (lv_at hl 3 rfl) ?_
                refine lv_iload hx hb dX6_hang_75 (lv_at hl 6 rfl) ?_
                have hq26 : va_P D vwCl [(hg, .inr (1, [.int ux, .int uy, .int a, .int lx, .int ly, .int b, .int c, .int sd, .int g, .int d, .int sx, .int sy, .int f]))] H := hP.sub [0] rfl
                refine va_callv (va_runVN (As := [.int n1, .int n2, .int n5]) (rest := []) ⟨hx, hb, hml, hown, hts⟩ (mX2_setUpperArm l D cI cH hg ux uy a lx ly b c sd g d sx sy f n1 n2 n5) (⟨va_cnB 3 hts gX6_hang_X2_setUpperArm_n55 rfl rfl rfl (hw.2 (.methodLinkNest RX6 55 yX2_setUpperArm "WheelSwing") (by decide +kernel)) (hts (.initialized RX2) (by decide +kernel)) (by decide +kernel) ⟨Nat.le_of_ble_eq_true rfl, Nat.le_of_ble_eq_true rfl⟩, hts (.instanceMethod yX2_setUpperArm) (by decide +kernel), hts (.selects RX2 yX2_setUpperArm yX2_setUpperArm) (by decide +kernel)⟩) ⟨kB_blind, va_recv hw.1 hq26 (ci := 1) (q0 := 0) rfl rfl, kB_go hq26 hw⟩ rfl rfl hl.1 rfl (lv_room (Nat.le_of_ble_eq_true rfl)) dX6_hang_77 ⟨Nat.le_of_ble_eq_true rfl, Nat.le_of_ble_eq_true rfl⟩) hS (fun q _ h => h) (fun q h => h) (fun u28 t H locs ht hvm hp29 hB hz1 hk1 hS => ?_)
                have hB : va_at D vwCl (hg, .inr (1, u28)) t.heap := hB
                rw [ht] at hB
                have hP := fr_one hB
                have hR := fr_rd hR0 hS hnr
                subst hp29
                have hP : va_P D vwCl [(hg, .inr (1, [.int n1, .int n2, .int n5, .int lx, .int ly, .int b, .int c, .int sd, .int g, .int d, .int sx, .int sy, .int f]))] H := hP
                have hD : va_D (aE hg) [(hg, .inr (1, [.int n1, .int n2, .int n5, .int lx, .int ly, .int b, .int c, .int sd, .int g, .int d, .int sx, .int sy, .int f]))] := D_1 rfl
                refine lv_aload_n hx hb dX6_hang_80 rfl (lv_at hl 0 rfl) ?_
                refine va_get (D := D) (ci := 5) (v := .ref ha) (C := RX6) (T := TX6) (N := 5) hx hb hts hinX6 hown hw.1 hR 0 rfl rfl 0 (by decide) (hts (.fieldLink RX6 11 "WheelSwing" "hangings" "[LWheelSwing$Hanging;") (by decide +kernel)) (fun _ h9 => h9) rfl dX6_hang_81 ?_
                refine lv_iload_n hx hb dX6_hang_84 rfl (lv_at hl 1 rfl) ?_
                refine va_aldq hx hb hw.1 hR 1 1 rfl rfl (okH_in c4) dX6_hang_85 ?_
                refine lv_rfs (a := hg) (hfh c4) ?_
                refine lv_iload hx hb dX6_hang_86 (lv_at hl 4 rfl) ?_
                refine lv_iload hx hb dX6_hang_88 (lv_at hl 5 rfl) ?_
                refine lv_iload hx hb dX6_hang_90 (lv_at hl 7 rfl) ?_
                have hq30 : va_P D vwCl [(hg, .inr (1, [.int n1, .int n2, .int n5, .int lx, .int ly, .int b, .int c, .int sd, .int g, .int d, .int sx, .int sy, .int f]))] H := hP.sub [0] rfl
                refine va_callv (va_runVN (As := [.int n3, .int n4, .int n6]) (rest := []) ⟨hx, hb, hml, hown, hts⟩ (mX2_setLowerArm l D cI cH hg n1 n2 n5 lx ly b c sd g d sx sy f n3 n4 n6) (⟨va_cnB 3 hts gX6_hang_X2_setLowerArm_n59 rfl rfl rfl (hw.2 (.methodLinkNest RX6 59 yX2_setLowerArm "WheelSwing") (by decide +kernel)) (hts (.initialized RX2) (by decide +kernel)) (by decide +kernel) ⟨Nat.le_of_ble_eq_true rfl, Nat.le_of_ble_eq_true rfl⟩, hts (.instanceMethod yX2_setLowerArm) (by decide +kernel), hts (.selects RX2 yX2_setLowerArm yX2_setLowerArm) (by decide +kernel)⟩) ⟨kB_blind, va_recv hw.1 hq30 (ci := 1) (q0 := 0) rfl rfl, kB_go hq30 hw⟩ rfl rfl hl.1 rfl (lv_room (Nat.le_of_ble_eq_true rfl)) dX6_hang_92 ⟨Nat.le_of_ble_eq_true rfl, Nat.le_of_ble_eq_true rfl⟩) hS (fun q _ h => h) (fun q h => h) (fun u32 t H locs ht hvm hp33 hB hz1 hk1 hS => ?_)
                have hB : va_at D vwCl (hg, .inr (1, u32)) t.heap := hB
                rw [ht] at hB
                have hP := fr_one hB
                have hR := fr_rd hR0 hS hnr
                subst hp33
                have hP : va_P D vwCl [(hg, .inr (1, [.int n1, .int n2, .int n5, .int n3, .int n4, .int n6, .int c, .int sd, .int g, .int d, .int sx, .int sy, .int f]))] H := hP
                have hD : va_D (aE hg) [(hg, .inr (1, [.int n1, .int n2, .int n5, .int n3, .int n4, .int n6, .int c, .int sd, .int g, .int d, .int sx, .int sy, .int f]))] := D_1 rfl
                refine lv_aload_n hx hb dX6_hang_95 rfl (lv_at hl 0 rfl) ?_
                refine va_get (D := D) (ci := 5) (v := .ref ha) (C := RX6) (T := TX6) (N := 5) hx hb hts hinX6 hown hw.1 hR 0 rfl rfl 0 (by decide) (hts (.fieldLink RX6 11 "WheelSwing" "hangings" "[LWheelSwing$Hanging;") (by decide +kernel)) (fun _ h9 => h9) rfl dX6_hang_96 ?_
                refine lv_iload_n hx hb dX6_hang_99 rfl (lv_at hl 1 rfl) ?_
                refine va_aldq hx hb hw.1 hR 1 1 rfl rfl (okH_in c4) dX6_hang_100 ?_
                refine lv_rfs (a := hg) (hfh c4) ?_
                refine lv_iload hx hb dX6_hang_101 (lv_at hl 8 rfl) ?_
                refine lv_iload hx hb dX6_hang_103 (lv_at hl 9 rfl) ?_
                have hq34 : va_P D vwCl [(hg, .inr (1, [.int n1, .int n2, .int n5, .int n3, .int n4, .int n6, .int c, .int sd, .int g, .int d, .int sx, .int sy, .int f]))] H := hP.sub [0] rfl
                refine va_callv (va_runVN (As := [.int n7, .int n8]) (rest := []) ⟨hx, hb, hml, hown, hts⟩ (mX2_setUpright l D cI cH hg n1 n2 n5 n3 n4 n6 c sd g d sx sy f n7 n8) (⟨va_cnB 2 hts gX6_hang_X2_setUpright_n62 rfl rfl rfl (hw.2 (.methodLinkNest RX6 62 yX2_setUpright "WheelSwing") (by decide +kernel)) (hts (.initialized RX2) (by decide +kernel)) (by decide +kernel) ⟨Nat.le_of_ble_eq_true rfl, Nat.le_of_ble_eq_true rfl⟩, hts (.instanceMethod yX2_setUpright) (by decide +kernel), hts (.selects RX2 yX2_setUpright yX2_setUpright) (by decide +kernel)⟩) ⟨kB_blind, va_recv hw.1 hq34 (ci := 1) (q0 := 0) rfl rfl, kB_go hq34 hw⟩ rfl rfl hl.1 rfl (lv_room (Nat.le_of_ble_eq_true rfl)) dX6_hang_105 ⟨Nat.le_of_ble_eq_true rfl, Nat.le_of_ble_eq_true rfl⟩) hS (fun q _ h => h) (fun q h => h) (fun u36 t H locs ht hvm hp37 hB hz1 hk1 hS => ?_)
                have hB : va_at D vwCl (hg, .inr (1, u36)) t.heap := hB
                rw [ht] at hB
                have hP := fr_one hB
                have hR := fr_rd hR0 hS hnr
                subst hp37
                have hP : va_P D vwCl [(hg, .inr (1, [.int n1, .int n2, .int n5, .int n3, .int n4, .int n6, .int n7, .int n8, .int g, .int d, .int sx, .int sy, .int f]))] H := hP
                have hD : va_D (aE hg) [(hg, .inr (1, [.int n1, .int n2, .int n5, .int n3, .int n4, .int n6, .int n7, .int n8, .int g, .int d, .int sx, .int sy, .int f]))] := D_1 rfl
                refine lv_iconst (v := 1) hx hb dX6_hang_108 (by decide) ?_
                exact W.iret (v := 1) hx hb hr (fun t ht hW => ⟨⟨1, [.int n1, .int n2, .int n5, .int n3, .int n4, .int n6, .int n7, .int n8, .int g, .int d, .int sx, .int sy, .int f], rfl, (by dsimp only; rw [show okHang h n1 n2 n3 n4 n5 n6 n7 n8 = true from (by unfold okHang; simp [c4, c8, c12, c16, c20, c24, c25]), if_pos rfl]; exact ⟨rfl, rfl⟩), at_heap ht (hP 0 _ rfl)⟩, hS.F ht⟩) hS.2.2 dX6_hang_109
              · refine lv_iload hx hb dX6_hang_58 (lv_at hl 9 rfl) ?_
                refine lv_iconst (v := (-1)) hx hb dX6_hang_60 (by decide) ?_
                refine lv_icmp_eq (tgt := 67) hx hb dX6_hang_61 (by decide) (fun c38 => ?_) (fun c38 => ?_)
                · refine lv_aload_n hx hb dX6_hang_67 rfl (lv_at hl 0 rfl) ?_
                  refine va_get (D := D) (ci := 5) (v := .ref ha) (C := RX6) (T := TX6) (N := 5) hx hb hts hinX6 hown hw.1 hR 0 rfl rfl 0 (by decide) (hts (.fieldLink RX6 11 "WheelSwing" "hangings" "[LWheelSwing$Hanging;") (by decide +kernel)) (fun _ h9 => h9) rfl dX6_hang_68 ?_
                  refine lv_iload_n hx hb dX6_hang_71 rfl (lv_at hl 1 rfl) ?_
                  refine va_aldq hx hb hw.1 hR 1 1 rfl rfl (okH_in c4) dX6_hang_72 ?_
                  refine lv_rfs (a := hg) (hfh c4) ?_
                  refine lv_iload_n hx hb dX6_hang_73 rfl (lv_at hl 2 rfl) ?_
                  refine lv_iload_n hx hb dX6_hang_74 rfl (lv_at hl 3 rfl) ?_
                  refine lv_iload hx hb dX6_hang_75 (lv_at hl 6 rfl) ?_
                  have hq39 : va_P D vwCl [(hg, .inr (1, [.int ux, .int uy, .int a, .int lx, .int ly, .int b, .int c, .int sd, .int g, .int d, .int sx, .int sy, .int f]))] H := hP.sub [0] rfl
                  refine va_callv (va_runVN (As := [.int n1, .int n2, .int n5]) (rest := []) ⟨hx, hb, hml, hown, hts⟩ (mX2_setUpperArm l D cI cH hg ux uy a lx ly b c sd g d sx sy f n1 n2 n5) (⟨va_cnB 3 hts gX6_hang_X2_setUpperArm_n55 rfl rfl rfl (hw.2 (.methodLinkNest RX6 55 yX2_setUpperArm "WheelSwing") (by decide +kernel)) (hts (.initialized RX2) (by decide +kernel)) (by decide +kernel) ⟨Nat.le_of_ble_eq_true rfl, Nat.le_of_ble_eq_true rfl⟩, hts (.instanceMethod yX2_setUpperArm) (by decide +kernel), hts (.selects RX2 yX2_setUpperArm yX2_setUpperArm) (by decide +kernel)⟩) ⟨kB_blind, va_recv hw.1 hq39 (ci := 1) (q0 := 0) rfl rfl, kB_go hq39 hw⟩ rfl rfl hl.1 rfl (lv_room (Nat.le_of_ble_eq_true rfl)) dX6_hang_77 ⟨Nat.le_of_ble_eq_true rfl, Nat.le_of_ble_eq_true rfl⟩) hS (fun q _ h => h) (fun q h => h) (fun u41 t H locs ht hvm hp42 hB hz1 hk1 hS => ?_)
                  have hB : va_at D vwCl (hg, .inr (1, u41)) t.heap := hB
                  rw [ht] at hB
                  have hP := fr_one hB
                  have hR := fr_rd hR0 hS hnr
                  subst hp42
                  have hP : va_P D vwCl [(hg, .inr (1, [.int n1, .int n2, .int n5, .int lx, .int ly, .int b, .int c, .int sd, .int g, .int d, .int sx, .int sy, .int f]))] H := hP
                  have hD : va_D (aE hg) [(hg, .inr (1, [.int n1, .int n2, .int n5, .int lx, .int ly, .int b, .int c, .int sd, .int g, .int d, .int sx, .int sy, .int f]))] := D_1 rfl
                  refine lv_aload_n hx hb dX6_hang_80 rfl (lv_at hl 0 rfl) ?_
                  refine va_get (D := D) (ci := 5) (v := .ref ha) (C := RX6) (T := TX6) (N := 5) hx hb hts hinX6 hown hw.1 hR 0 rfl rfl 0 (by decide) (hts (.fieldLink RX6 11 "WheelSwing" "hangings" "[LWheelSwing$Hanging;") (by decide +kernel)) (fun _ h9 => h9) rfl dX6_hang_81 ?_
                  refine lv_iload_n hx hb dX6_hang_84 rfl (lv_at hl 1 rfl) ?_
                  refine va_aldq hx hb hw.1 hR 1 1 rfl rfl (okH_in c4) dX6_hang_85 ?_
                  refine lv_rfs (a := hg) (hfh c4) ?_
                  refine lv_iload hx hb dX6_hang_86 (lv_at hl 4 rfl) ?_
                  refine lv_iload hx hb dX6_hang_88 (lv_at hl 5 rfl) ?_
                  refine lv_iload hx hb dX6_hang_90 (lv_at hl 7 rfl) ?_
                  have hq43 : va_P D vwCl [(hg, .inr (1, [.int n1, .int n2, .int n5, .int lx, .int ly, .int b, .int c, .int sd, .int g, .int d, .int sx, .int sy, .int f]))] H := hP.sub [0] rfl
                  refine va_callv (va_runVN (As := [.int n3, .int n4, .int n6]) (rest := []) ⟨hx, hb, hml, hown, hts⟩ (mX2_setLowerArm l D cI cH hg n1 n2 n5 lx ly b c sd g d sx sy f n3 n4 n6) (⟨va_cnB 3 hts gX6_hang_X2_setLowerArm_n59 rfl rfl rfl (hw.2 (.methodLinkNest RX6 59 yX2_setLowerArm "WheelSwing") (by decide +kernel)) (hts (.initialized RX2) (by decide +kernel)) (by decide +kernel) ⟨Nat.le_of_ble_eq_true rfl, Nat.le_of_ble_eq_true rfl⟩, hts (.instanceMethod yX2_setLowerArm) (by decide +kernel), hts (.selects RX2 yX2_setLowerArm yX2_setLowerArm) (by decide +kernel)⟩) ⟨kB_blind, va_recv hw.1 hq43 (ci := 1) (q0 := 0) rfl rfl, kB_go hq43 hw⟩ rfl rfl hl.1 rfl (lv_room (Nat.le_of_ble_eq_true rfl)) dX6_hang_92 ⟨Nat.le_of_ble_eq_true rfl, Nat.le_of_ble_eq_true rfl⟩) hS (fun q _ h => h) (fun q h => h) (fun u45 t H locs ht hvm hp46 hB hz1 hk1 hS => ?_)
                  have hB : va_at D vwCl (hg, .inr (1, u45)) t.heap := hB
                  rw [ht] at hB
                  have hP := fr_one hB
                  have hR := fr_rd hR0 hS hnr
                  subst hp46
                  have hP : va_P D vwCl [(hg, .inr (1, [.int n1, .int n2, .int n5, .int n3, .int n4, .int n6, .int c, .int sd, .int g, .int d, .int sx, .int sy, .int f]))] H := hP
                  have hD : va_D (aE hg) [(hg, .inr (1, [.int n1, .int n2, .int n5, .int n3, .int n4, .int n6, .int c, .int sd, .int g, .int d, .int sx, .int sy, .int f]))] := D_1 rfl
                  refine lv_aload_n hx hb dX6_hang_95 rfl (lv_at hl 0 rfl) ?_
                  refine va_get (D := D) (ci := 5) (v := .ref ha) (C := RX6) (T := TX6) (N := 5) hx hb hts hinX6 hown hw.1 hR 0 rfl rfl 0 (by decide) (hts (.fieldLink RX6 11 "WheelSwing" "hangings" "[LWheelSwing$Hanging;") (by decide +kernel)) (fun _ h9 => h9) rfl dX6_hang_96 ?_
                  refine lv_iload_n hx hb dX6_hang_99 rfl (lv_at hl 1 rfl) ?_
                  refine va_aldq hx hb hw.1 hR 1 1 rfl rfl (okH_in c4) dX6_hang_100 ?_
                  refine lv_rfs (a := hg) (hfh c4) ?_
                  refine lv_iload hx hb dX6_hang_101 (lv_at hl 8 rfl) ?_
                  refine lv_iload hx hb dX6_hang_103 (lv_at hl 9 rfl) ?_
                  have hq47 : va_P D vwCl [(hg, .inr (1, [.int n1, .int n2, .int n5, .int n3, .int n4, .int n6, .int c, .int sd, .int g, .int d, .int sx, .int sy, .int f]))] H := hP.sub [0] rfl
                  refine va_callv (va_runVN (As := [.int n7, .int n8]) (rest := []) ⟨hx, hb, hml, hown, hts⟩ (mX2_setUpright l D cI cH hg n1 n2 n5 n3 n4 n6 c sd g d sx sy f n7 n8) (⟨va_cnB 2 hts gX6_hang_X2_setUpright_n62 rfl rfl rfl (hw.2 (.methodLinkNest RX6 62 yX2_setUpright "WheelSwing") (by decide +kernel)) (hts (.initialized RX2) (by decide +kernel)) (by decide +kernel) ⟨Nat.le_of_ble_eq_true rfl, Nat.le_of_ble_eq_true rfl⟩, hts (.instanceMethod yX2_setUpright) (by decide +kernel), hts (.selects RX2 yX2_setUpright yX2_setUpright) (by decide +kernel)⟩) ⟨kB_blind, va_recv hw.1 hq47 (ci := 1) (q0 := 0) rfl rfl, kB_go hq47 hw⟩ rfl rfl hl.1 rfl (lv_room (Nat.le_of_ble_eq_true rfl)) dX6_hang_105 ⟨Nat.le_of_ble_eq_true rfl, Nat.le_of_ble_eq_true rfl⟩) hS (fun q _ h => h) (fun q h => h) (fun u49 t H locs ht hvm hp50 hB hz1 hk1 hS => ?_)
                  have hB : va_at D vwCl (hg, .inr (1, u49)) t.heap := hB
                  rw [ht] at hB
                  have hP := fr_one hB
                  have hR := fr_rd hR0 hS hnr
                  subst hp50
                  have hP : va_P D vwCl [(hg, .inr (1, [.int n1, .int n2, .int n5, .int n3, .int n4, .int n6, .int n7, .int n8, .int g, .int d, .int sx, .int sy, .int f]))] H := hP
                  have hD : va_D (aE hg) [(hg, .inr (1, [.int n1, .int n2, .int n5, .int n3, .int n4, .int n6, .int n7, .int n8, .int g, .int d, .int sx, .int sy, .int f]))] := D_1 rfl
                  refine lv_iconst (v := 1) hx hb dX6_hang_108 (by decide) ?_
                  exact W.iret (v := 1) hx hb hr (fun t ht hW => ⟨⟨1, [.int n1, .int n2, .int n5, .int n3, .int n4, .int n6, .int n7, .int n8, .int g, .int d, .int sx, .int sy, .int f], rfl, (by dsimp only; rw [show okHang h n1 n2 n3 n4 n5 n6 n7 n8 = true from (by unfold okHang; simp [c4, c8, c12, c16, c20, c24, c25, c38]), if_pos rfl]; exact ⟨rfl, rfl⟩), at_heap ht (hP 0 _ rfl)⟩, hS.F ht⟩) hS.2.2 dX6_hang_109
                · refine lv_bipush (v := (-2)) hx hb dX6_hang_64 (by decide) ?_
                  exact W.iret (v := (-2)) hx hb hr (fun t ht hW => ⟨⟨(-2), [.int ux, .int uy, .int a, .int lx, .int ly, .int b, .int c, .int sd, .int g, .int d, .int sx, .int sy, .int f], rfl, (by dsimp only; rw [show okHang h n1 n2 n3 n4 n5 n6 n7 n8 = false from (by unfold okHang; simp [c4, c8, c12, c16, c20, c24, c25, c38]), if_neg (by decide)]; exact ⟨rfl, rfl⟩), at_heap ht (hP 0 _ rfl)⟩, hS.F ht⟩) hS.2.2 dX6_hang_66
      · have c12 := bI_e.mp c12
        refine lv_bipush (v := (-2)) hx hb dX6_hang_25 (by decide) ?_
        exact W.iret (v := (-2)) hx hb hr (fun t ht hW => ⟨⟨(-2), [.int ux, .int uy, .int a, .int lx, .int ly, .int b, .int c, .int sd, .int g, .int d, .int sx, .int sy, .int f], rfl, (by dsimp only; rw [show okHang h n1 n2 n3 n4 n5 n6 n7 n8 = false from (by unfold okHang; simp [c4, c8, c12]), if_neg (by decide)]; exact ⟨rfl, rfl⟩), at_heap ht (hP 0 _ rfl)⟩, hS.F ht⟩) hS.2.2 dX6_hang_27
set_option maxHeartbeats 4000000 in
set_option maxRecDepth 100000 in
theorem mX6_wheel (l : Launch) (D : va_G) (cI cH : ClassId) (o ha st ca bx rd : Nat) (hg : Nat) (fh : Nat → Option Nat) (ux uy a lx ly b c sd g d sx sy f : Int32) (h n1 n2 : Int32)  (hno : o ≠ hg) (hna : ha ≠ hg) (hfh : okH h = true → fh h.toNatClampNeg = some hg) : Met l yX6_wheel wsX6_wheel ({ frames := 3, cells := 0, slots := 0, locals := 63 }) (va_Pc [.ref o, .int h, .int n1, .int n2] (kB D cI cH [(hg, .inr (1, [.int ux, .int uy, .int a, .int lx, .int ly, .int b, .int c, .int sd, .int g, .int d, .int sx, .int sy, .int f])), (o, .inr (5, [.ref ha, .ref st, .ref ca, .ref bx, .ref rd])), (ha, .inl (cH, 4, .inr (.inr (.inr (.inr fh)))))])) (va_Qi (fun (r : Int32) (u : List Value) => if okWheel h n1 n2 then r = 1 ∧ u = [.int ux, .int uy, .int a, .int lx, .int ly, .int b, .int c, .int sd, .int n1, .int n2, .int sx, .int sy, .int f] else r = -2 ∧ u = [.int ux, .int uy, .int a, .int lx, .int ly, .int b, .int c, .int sd, .int g, .int d, .int sx, .int sy, .int f]) (fun u t => va_at D vwCl (hg, .inr (1, u)) t.heap) (aE hg)) 0 0 (aE hg) := by
  refine Met.ofW (cc := cX6_wheel) (maxL := 4) (ret := (some .int)) (by decide) rfl ?_
  intro p e s m args below meth co s₁ B hml hv
  obtain ⟨rfl, hP0, hw⟩ := hv
  have hx := B.exec
  have hb := B.bytes
  have hr := B.returns
  have hts := atoms_spec (ws := wsX6_wheel) B.pre
  have hown : s.vm.findClass RX6 = some m.cls := findClass_of_methodNamed B.named
  have hlocks := B.notSynchronized
  have hinX2 : ∀ w ∈ wsX20, w ∈ wsX6_wheel := by decide +kernel
  have hinX6 : ∀ w ∈ wsX60, w ∈ wsX6_wheel := by decide +kernel
  have hS : va_S (aE hg) s.heap s.heap [] := va_S.rf
  have hP : va_P D vwCl [(hg, .inr (1, [.int ux, .int uy, .int a, .int lx, .int ly, .int b, .int c, .int sd, .int g, .int d, .int sx, .int sy, .int f]))] s.heap := hP0.sub [0] rfl
  have hD : va_D (aE hg) [(hg, .inr (1, [.int ux, .int uy, .int a, .int lx, .int ly, .int b, .int c, .int sd, .int g, .int d, .int sx, .int sy, .int f]))] := D_1 rfl
  have hR0 : va_P D vwCl [(o, .inr (5, [.ref ha, .ref st, .ref ca, .ref bx, .ref rd])), (ha, .inl (cH, 4, .inr (.inr (.inr (.inr fh)))))] s.heap := hP0.sub [1, 2] rfl
  have hR := hR0
  have hnr : ∀ (k9 : Nat) (q : Nat × va_E), ([(o, .inr (5, [.ref ha, .ref st, .ref ca, .ref bx, .ref rd])), (ha, .inl (cH, 4, .inr (.inr (.inr (.inr fh)))))] : va_W)[k9]? = some q → ¬ (aE hg) q.1 := nn_1 hno (nn_1 hna nn_0)
  have hl := lv_entry ([.ref o, .int h, .int n1, .int n2]) (n := 4) (Nat.le_of_ble_eq_true rfl)
  rw [lg_entry_eq]
  generalize (lg_sl ([.ref o, .int h, .int n1, .int n2]) ++ List.replicate (4 - (lg_sl ([.ref o, .int h, .int n1, .int n2])).length) Slot.unset).toArray = ls at hl ⊢
  have hl : lv_has ls 4 [(0, .ref o), (1, .int h), (2, .int n1), (3, .int n2)] := hl
  skip
  refine lv_iload_n hx hb dX6_wheel_0 rfl (lv_at hl 1 rfl) ?_
  refine va_calli (va_runS (As := [.int h]) (rest := []) ⟨hx, hb, hml, hown, hts⟩ (mX6_isHanging l h) (va_cwS 1 hts gX6_wheel_X6_isHanging rfl rfl rfl (by decide +kernel) ⟨Nat.le_of_ble_eq_true rfl, Nat.le_of_ble_eq_true rfl⟩) ⟨tB_blind, tB_go⟩ rfl rfl hl.1 rfl (lv_room (Nat.le_of_ble_eq_true rfl)) dX6_wheel_1 ⟨Nat.le_of_ble_eq_true rfl, Nat.le_of_ble_eq_true rfl⟩) hS (fun q _ h => h.elim) (fun q h => h.elim) (fun r1 u2 t H locs ht hvm hp3 hB hz1 hk1 hS => ?_)
  have hP := fr_keep hP hk1 fr_nA
  have hR := fr_rd hR0 hS hnr
  subst hp3
  refine lv_if_eq (tgt := 15) hx hb dX6_wheel_4 (by decide) (fun c4 => ?_) (fun c4 => ?_)
  · have c4 := bI_e.mp c4
    refine lv_bipush (v := (-2)) hx hb dX6_wheel_15 (by decide) ?_
    exact W.iret (v := (-2)) hx hb hr (fun t ht hW => ⟨⟨(-2), [.int ux, .int uy, .int a, .int lx, .int ly, .int b, .int c, .int sd, .int g, .int d, .int sx, .int sy, .int f], rfl, (by dsimp only; rw [show okWheel h n1 n2 = false from (by unfold okWheel; simp [c4]), if_neg (by decide)]; exact ⟨rfl, rfl⟩), at_heap ht (hP 0 _ rfl)⟩, hS.F ht⟩) hS.2.2 dX6_wheel_17
  · have c4 := bI_n.mp c4
    refine lv_iload_n hx hb dX6_wheel_7 rfl (lv_at hl 2 rfl) ?_
    refine lv_iload_n hx hb dX6_wheel_8 rfl (lv_at hl 3 rfl) ?_
    refine va_calli (va_runS (As := [.int n1, .int n2]) (rest := []) ⟨hx, hb, hml, hown, hts⟩ (mX6_isPoint l n1 n2) (va_cwS 2 hts gX6_wheel_X6_isPoint rfl rfl rfl (by decide +kernel) ⟨Nat.le_of_ble_eq_true rfl, Nat.le_of_ble_eq_true rfl⟩) ⟨tB_blind, tB_go⟩ rfl rfl hl.1 rfl (lv_room (Nat.le_of_ble_eq_true rfl)) dX6_wheel_9 ⟨Nat.le_of_ble_eq_true rfl, Nat.le_of_ble_eq_true rfl⟩) hS (fun q _ h => h.elim) (fun q h => h.elim) (fun r5 u6 t H locs ht hvm hp7 hB hz1 hk1 hS => ?_)
    have hP := fr_keep hP hk1 fr_nA
    have hR := fr_rd hR0 hS hnr
    subst hp7
    refine lv_if_ne (tgt := 18) hx hb dX6_wheel_12 (by decide) (fun c8 => ?_) (fun c8 => ?_)
    · have c8 := bI_n.mp c8
      refine lv_aload_n hx hb dX6_wheel_18 rfl (lv_at hl 0 rfl) ?_
      refine va_get (D := D) (ci := 5) (v := .ref ha) (C := RX6) (T := TX6) (N := 5) hx hb hts hinX6 hown hw.1 hR 0 rfl rfl 0 (by decide) (hts (.fieldLink RX6 11 "WheelSwing" "hangings" "[LWheelSwing$Hanging;") (by decide +kernel)) (fun _ h9 => h9) rfl dX6_wheel_19 ?_
      refine lv_iload_n hx hb dX6_wheel_22 rfl (lv_at hl 1 rfl) ?_
      refine va_aldq hx hb hw.1 hR 1 1 rfl rfl (okH_in c4) dX6_wheel_23 ?_
      refine lv_rfs (a := hg) (hfh c4) ?_
      refine lv_iload_n hx hb dX6_wheel_24 rfl (lv_at hl 2 rfl) ?_
      refine lv_iload_n hx hb dX6_wheel_25 rfl (lv_at hl 3 rfl) ?_
      have hq9 : va_P D vwCl [(hg, .inr (1, [.int ux, .int uy, .int a, .int lx, .int ly, .int b, .int c, .int sd, .int g, .int d, .int sx, .int sy, .int f]))] H := hP.sub [0] rfl
      refine va_callv (va_runVN (As := [.int n1, .int n2]) (rest := []) ⟨hx, hb, hml, hown, hts⟩ (mX2_setRoadPoint l D cI cH hg ux uy a lx ly b c sd g d sx sy f n1 n2) (⟨va_cnB 2 hts gX6_wheel_X2_setRoadPoint_n66 rfl rfl rfl (hw.2 (.methodLinkNest RX6 66 yX2_setRoadPoint "WheelSwing") (by decide +kernel)) (hts (.initialized RX2) (by decide +kernel)) (by decide +kernel) ⟨Nat.le_of_ble_eq_true rfl, Nat.le_of_ble_eq_true rfl⟩, hts (.instanceMethod yX2_setRoadPoint) (by decide +kernel), hts (.selects RX2 yX2_setRoadPoint yX2_setRoadPoint) (by decide +kernel)⟩) ⟨kB_blind, va_recv hw.1 hq9 (ci := 1) (q0 := 0) rfl rfl, kB_go hq9 hw⟩ rfl rfl hl.1 rfl (lv_room (Nat.le_of_ble_eq_true rfl)) dX6_wheel_26 ⟨Nat.le_of_ble_eq_true rfl, Nat.le_of_ble_eq_true rfl⟩) hS (fun q _ h => h) (fun q h => h) (fun u11 t H locs ht hvm hp12 hB hz1 hk1 hS => ?_)
      have hB : va_at D vwCl (hg, .inr (1, u11)) t.heap := hB
      rw [ht] at hB
      have hP := fr_one hB
      have hR := fr_rd hR0 hS hnr
      subst hp12
      have hP : va_P D vwCl [(hg, .inr (1, [.int ux, .int uy, .int a, .int lx, .int ly, .int b, .int c, .int sd, .int n1, .int n2, .int sx, .int sy, .int f]))] H := hP
      have hD : va_D (aE hg) [(hg, .inr (1, [.int ux, .int uy, .int a, .int lx, .int ly, .int b, .int c, .int sd, .int n1, .int n2, .int sx, .int sy, .int f]))] := D_1 rfl
      refine lv_iconst (v := 1) hx hb dX6_wheel_29 (by decide) ?_
      exact W.iret (v := 1) hx hb hr (fun t ht hW => ⟨⟨1, [.int ux, .int uy, .int a, .int lx, .int ly, .int b, .int c, .int sd, .int n1, .int n2, .int sx, .int sy, .int f], rfl, (by dsimp only; rw [show okWheel h n1 n2 = true from (by unfold okWheel; simp [c4, c8]), if_pos rfl]; exact ⟨rfl, rfl⟩), at_heap ht (hP 0 _ rfl)⟩, hS.F ht⟩) hS.2.2 dX6_wheel_30
    · have c8 := bI_e.mp c8
      refine lv_bipush (v := (-2)) hx hb dX6_wheel_15 (by decide) ?_
      exact W.iret (v := (-2)) hx hb hr (fun t ht hW => ⟨⟨(-2), [.int ux, .int uy, .int a, .int lx, .int ly, .int b, .int c, .int sd, .int g, .int d, .int sx, .int sy, .int f], rfl, (by dsimp only; rw [show okWheel h n1 n2 = false from (by unfold okWheel; simp [c4, c8]), if_neg (by decide)]; exact ⟨rfl, rfl⟩), at_heap ht (hP 0 _ rfl)⟩, hS.F ht⟩) hS.2.2 dX6_wheel_17
set_option maxHeartbeats 4000000 in
set_option maxRecDepth 100000 in
theorem mX6_spring (l : Launch) (D : va_G) (cI cH : ClassId) (o ha st ca bx rd : Nat) (hg : Nat) (fh : Nat → Option Nat) (ux uy a lx ly b c sd g d sx sy f : Int32) (h n1 n2 n3 : Int32)  (hno : o ≠ hg) (hna : ha ≠ hg) (hfh : okH h = true → fh h.toNatClampNeg = some hg) : Met l yX6_spring wsX6_spring ({ frames := 3, cells := 0, slots := 0, locals := 63 }) (va_Pc [.ref o, .int h, .int n1, .int n2, .int n3] (kB D cI cH [(hg, .inr (1, [.int ux, .int uy, .int a, .int lx, .int ly, .int b, .int c, .int sd, .int g, .int d, .int sx, .int sy, .int f])), (o, .inr (5, [.ref ha, .ref st, .ref ca, .ref bx, .ref rd])), (ha, .inl (cH, 4, .inr (.inr (.inr (.inr fh)))))])) (va_Qi (fun (r : Int32) (u : List Value) => if okSpr h n1 n2 n3 then r = 1 ∧ u = [.int ux, .int uy, .int a, .int lx, .int ly, .int b, .int c, .int sd, .int g, .int d, .int n1, .int n2, .int n3] else r = -2 ∧ u = [.int ux, .int uy, .int a, .int lx, .int ly, .int b, .int c, .int sd, .int g, .int d, .int sx, .int sy, .int f]) (fun u t => va_at D vwCl (hg, .inr (1, u)) t.heap) (aE hg)) 0 0 (aE hg) := by
  refine Met.ofW (cc := cX6_spring) (maxL := 5) (ret := (some .int)) (by decide) rfl ?_
  intro p e s m args below meth co s₁ B hml hv
  obtain ⟨rfl, hP0, hw⟩ := hv
  have hx := B.exec
  have hb := B.bytes
  have hr := B.returns
  have hts := atoms_spec (ws := wsX6_spring) B.pre
  have hown : s.vm.findClass RX6 = some m.cls := findClass_of_methodNamed B.named
  have hlocks := B.notSynchronized
  have hinX2 : ∀ w ∈ wsX20, w ∈ wsX6_spring := by decide +kernel
  have hinX6 : ∀ w ∈ wsX60, w ∈ wsX6_spring := by decide +kernel
  have hS : va_S (aE hg) s.heap s.heap [] := va_S.rf
  have hP : va_P D vwCl [(hg, .inr (1, [.int ux, .int uy, .int a, .int lx, .int ly, .int b, .int c, .int sd, .int g, .int d, .int sx, .int sy, .int f]))] s.heap := hP0.sub [0] rfl
  have hD : va_D (aE hg) [(hg, .inr (1, [.int ux, .int uy, .int a, .int lx, .int ly, .int b, .int c, .int sd, .int g, .int d, .int sx, .int sy, .int f]))] := D_1 rfl
  have hR0 : va_P D vwCl [(o, .inr (5, [.ref ha, .ref st, .ref ca, .ref bx, .ref rd])), (ha, .inl (cH, 4, .inr (.inr (.inr (.inr fh)))))] s.heap := hP0.sub [1, 2] rfl
  have hR := hR0
  have hnr : ∀ (k9 : Nat) (q : Nat × va_E), ([(o, .inr (5, [.ref ha, .ref st, .ref ca, .ref bx, .ref rd])), (ha, .inl (cH, 4, .inr (.inr (.inr (.inr fh)))))] : va_W)[k9]? = some q → ¬ (aE hg) q.1 := nn_1 hno (nn_1 hna nn_0)
  have hl := lv_entry ([.ref o, .int h, .int n1, .int n2, .int n3]) (n := 5) (Nat.le_of_ble_eq_true rfl)
  rw [lg_entry_eq]
  generalize (lg_sl ([.ref o, .int h, .int n1, .int n2, .int n3]) ++ List.replicate (5 - (lg_sl ([.ref o, .int h, .int n1, .int n2, .int n3])).length) Slot.unset).toArray = ls at hl ⊢
  have hl : lv_has ls 5 [(0, .ref o), (1, .int h), (2, .int n1), (3, .int n2), (4, .int n3)] := hl
  skip
  refine lv_iload_n hx hb dX6_spring_0 rfl (lv_at hl 1 rfl) ?_
  refine va_calli (va_runS (As := [.int h]) (rest := []) ⟨hx, hb, hml, hown, hts⟩ (mX6_isHanging l h) (va_cwS 1 hts gX6_spring_X6_isHanging rfl rfl rfl (by decide +kernel) ⟨Nat.le_of_ble_eq_true rfl, Nat.le_of_ble_eq_true rfl⟩) ⟨tB_blind, tB_go⟩ rfl rfl hl.1 rfl (lv_room (Nat.le_of_ble_eq_true rfl)) dX6_spring_1 ⟨Nat.le_of_ble_eq_true rfl, Nat.le_of_ble_eq_true rfl⟩) hS (fun q _ h => h.elim) (fun q h => h.elim) (fun r1 u2 t H locs ht hvm hp3 hB hz1 hk1 hS => ?_)
  have hP := fr_keep hP hk1 fr_nA
  have hR := fr_rd hR0 hS hnr
  subst hp3
  refine lv_if_eq (tgt := 27) hx hb dX6_spring_4 (by decide) (fun c4 => ?_) (fun c4 => ?_)
  · have c4 := bI_e.mp c4
    refine lv_bipush (v := (-2)) hx hb dX6_spring_27 (by decide) ?_
    exact W.iret (v := (-2)) hx hb hr (fun t ht hW => ⟨⟨(-2), [.int ux, .int uy, .int a, .int lx, .int ly, .int b, .int c, .int sd, .int g, .int d, .int sx, .int sy, .int f], rfl, (by dsimp only; rw [show okSpr h n1 n2 n3 = false from (by unfold okSpr; simp [c4]), if_neg (by decide)]; exact ⟨rfl, rfl⟩), at_heap ht (hP 0 _ rfl)⟩, hS.F ht⟩) hS.2.2 dX6_spring_29
  · have c4 := bI_n.mp c4
    refine lv_iload_n hx hb dX6_spring_7 rfl (lv_at hl 2 rfl) ?_
    refine lv_iload_n hx hb dX6_spring_8 rfl (lv_at hl 3 rfl) ?_
    refine va_calli (va_runS (As := [.int n1, .int n2]) (rest := []) ⟨hx, hb, hml, hown, hts⟩ (mX6_isPoint l n1 n2) (va_cwS 2 hts gX6_spring_X6_isPoint rfl rfl rfl (by decide +kernel) ⟨Nat.le_of_ble_eq_true rfl, Nat.le_of_ble_eq_true rfl⟩) ⟨tB_blind, tB_go⟩ rfl rfl hl.1 rfl (lv_room (Nat.le_of_ble_eq_true rfl)) dX6_spring_9 ⟨Nat.le_of_ble_eq_true rfl, Nat.le_of_ble_eq_true rfl⟩) hS (fun q _ h => h.elim) (fun q h => h.elim) (fun r5 u6 t H locs ht hvm hp7 hB hz1 hk1 hS => ?_)
    have hP := fr_keep hP hk1 fr_nA
    have hR := fr_rd hR0 hS hnr
    subst hp7
    refine lv_if_eq (tgt := 27) hx hb dX6_spring_12 (by decide) (fun c8 => ?_) (fun c8 => ?_)
    · have c8 := bI_e.mp c8
      refine lv_bipush (v := (-2)) hx hb dX6_spring_27 (by decide) ?_
      exact W.iret (v := (-2)) hx hb hr (fun t ht hW => ⟨⟨(-2), [.int ux, .int uy, .int a, .int lx, .int ly, .int b, .int c, .int sd, .int g, .int d, .int sx, .int sy, .int f], rfl, (by dsimp only; rw [show okSpr h n1 n2 n3 = false from (by unfold okSpr; simp [c4, c8]), if_neg (by decide)]; exact ⟨rfl, rfl⟩), at_heap ht (hP 0 _ rfl)⟩, hS.F ht⟩) hS.2.2 dX6_spring_29
    · have c8 := bI_n.mp c8
      refine lv_iload hx hb dX6_spring_15 (lv_at hl 4 rfl) ?_
      refine lv_iconst (v := 0) hx hb dX6_spring_17 (by decide) ?_
      refine lv_sipush (v := 1000) hx hb dX6_spring_18 (by decide) ?_
      refine va_calli (va_runS (As := [.int n3, .int 0, .int 1000]) (rest := []) ⟨hx, hb, hml, hown, hts⟩ (mX6_isWithin l n3 0 1000) (va_cwS 3 hts gX6_spring_X6_isWithin rfl rfl rfl (by decide +kernel) ⟨Nat.le_of_ble_eq_true rfl, Nat.le_of_ble_eq_true rfl⟩) ⟨tB_blind, tB_go⟩ rfl rfl hl.1 rfl (lv_room (Nat.le_of_ble_eq_true rfl)) dX6_spring_21 ⟨Nat.le_of_ble_eq_true rfl, Nat.le_of_ble_eq_true rfl⟩) hS (fun q _ h => h.elim) (fun q h => h.elim) (fun r9 u10 t H locs ht hvm hp11 hB hz1 hk1 hS => ?_)
      have hP := fr_keep hP hk1 fr_nA
      have hR := fr_rd hR0 hS hnr
      subst hp11
      refine lv_if_ne (tgt := 30) hx hb dX6_spring_24 (by decide) (fun c12 => ?_) (fun c12 => ?_)
      · have c12 := bI_n.mp c12
        refine lv_aload_n hx hb dX6_spring_30 rfl (lv_at hl 0 rfl) ?_
        refine va_get (D := D) (ci := 5) (v := .ref ha) (C := RX6) (T := TX6) (N := 5) hx hb hts hinX6 hown hw.1 hR 0 rfl rfl 0 (by decide) (hts (.fieldLink RX6 11 "WheelSwing" "hangings" "[LWheelSwing$Hanging;") (by decide +kernel)) (fun _ h9 => h9) rfl dX6_spring_31 ?_
        refine lv_iload_n hx hb dX6_spring_34 rfl (lv_at hl 1 rfl) ?_
        refine va_aldq hx hb hw.1 hR 1 1 rfl rfl (okH_in c4) dX6_spring_35 ?_
        refine lv_rfs (a := hg) (hfh c4) ?_
        refine lv_iload_n hx hb dX6_spring_36 rfl (lv_at hl 2 rfl) ?_
        refine lv_iload_n hx hb dX6_spring_37 rfl (lv_at hl 3 rfl) ?_
        refine lv_iload hx hb dX6_spring_38 (lv_at hl 4 rfl) ?_
        have hq13 : va_P D vwCl [(hg, .inr (1, [.int ux, .int uy, .int a, .int lx, .int ly, .int b, .int c, .int sd, .int g, .int d, .int sx, .int sy, .int f]))] H := hP.sub [0] rfl
        refine va_callv (va_runVN (As := [.int n1, .int n2, .int n3]) (rest := []) ⟨hx, hb, hml, hown, hts⟩ (mX2_setSpring l D cI cH hg ux uy a lx ly b c sd g d sx sy f n1 n2 n3) (⟨va_cnB 3 hts gX6_spring_X2_setSpring_n73 rfl rfl rfl (hw.2 (.methodLinkNest RX6 73 yX2_setSpring "WheelSwing") (by decide +kernel)) (hts (.initialized RX2) (by decide +kernel)) (by decide +kernel) ⟨Nat.le_of_ble_eq_true rfl, Nat.le_of_ble_eq_true rfl⟩, hts (.instanceMethod yX2_setSpring) (by decide +kernel), hts (.selects RX2 yX2_setSpring yX2_setSpring) (by decide +kernel)⟩) ⟨kB_blind, va_recv hw.1 hq13 (ci := 1) (q0 := 0) rfl rfl, kB_go hq13 hw⟩ rfl rfl hl.1 rfl (lv_room (Nat.le_of_ble_eq_true rfl)) dX6_spring_40 ⟨Nat.le_of_ble_eq_true rfl, Nat.le_of_ble_eq_true rfl⟩) hS (fun q _ h => h) (fun q h => h) (fun u15 t H locs ht hvm hp16 hB hz1 hk1 hS => ?_)
        have hB : va_at D vwCl (hg, .inr (1, u15)) t.heap := hB
        rw [ht] at hB
        have hP := fr_one hB
        have hR := fr_rd hR0 hS hnr
        subst hp16
        have hP : va_P D vwCl [(hg, .inr (1, [.int ux, .int uy, .int a, .int lx, .int ly, .int b, .int c, .int sd, .int g, .int d, .int n1, .int n2, .int n3]))] H := hP
        have hD : va_D (aE hg) [(hg, .inr (1, [.int ux, .int uy, .int a, .int lx, .int ly, .int b, .int c, .int sd, .int g, .int d, .int n1, .int n2, .int n3]))] := D_1 rfl
        refine lv_iconst (v := 1) hx hb dX6_spring_43 (by decide) ?_
        exact W.iret (v := 1) hx hb hr (fun t ht hW => ⟨⟨1, [.int ux, .int uy, .int a, .int lx, .int ly, .int b, .int c, .int sd, .int g, .int d, .int n1, .int n2, .int n3], rfl, (by dsimp only; rw [show okSpr h n1 n2 n3 = true from (by unfold okSpr; simp [c4, c8, c12]), if_pos rfl]; exact ⟨rfl, rfl⟩), at_heap ht (hP 0 _ rfl)⟩, hS.F ht⟩) hS.2.2 dX6_spring_44
      · have c12 := bI_e.mp c12
        refine lv_bipush (v := (-2)) hx hb dX6_spring_27 (by decide) ?_
        exact W.iret (v := (-2)) hx hb hr (fun t ht hW => ⟨⟨(-2), [.int ux, .int uy, .int a, .int lx, .int ly, .int b, .int c, .int sd, .int g, .int d, .int sx, .int sy, .int f], rfl, (by dsimp only; rw [show okSpr h n1 n2 n3 = false from (by unfold okSpr; simp [c4, c8, c12]), if_neg (by decide)]; exact ⟨rfl, rfl⟩), at_heap ht (hP 0 _ rfl)⟩, hS.F ht⟩) hS.2.2 dX6_spring_29
set_option maxHeartbeats 4000000 in
set_option maxRecDepth 100000 in
theorem mX6_mirror (l : Launch) (D : va_G) (cI cH : ClassId) (o ha st ca bx rd : Nat) (h0 h1 : Nat) (fh : Nat → Option Nat) (ux uy a lx ly b c sd g d sx sy f : Int32) (ux1 uy1 a1 lx1 ly1 b1 c1 sd1 g1 d1 sx1 sy1 f1 : Int32) (h j : Int32)  (hno : o ≠ h0) (hna : ha ≠ h0) (hne : h1 ≠ h0) (hfj : okH j = true → fh j.toNatClampNeg = some h0) (hfh : okH h = true → fh h.toNatClampNeg = some h1) : Met l yX6_mirror wsX6_mirror ({ frames := 2, cells := 0, slots := 0, locals := 44 }) (va_Pc [.ref o, .int h, .int j] (kB D cI cH [(h0, .inr (1, [.int ux1, .int uy1, .int a1, .int lx1, .int ly1, .int b1, .int c1, .int sd1, .int g1, .int d1, .int sx1, .int sy1, .int f1])), (o, .inr (5, [.ref ha, .ref st, .ref ca, .ref bx, .ref rd])), (ha, .inl (cH, 4, .inr (.inr (.inr (.inr fh))))), (h1, .inr (1, [.int ux, .int uy, .int a, .int lx, .int ly, .int b, .int c, .int sd, .int g, .int d, .int sx, .int sy, .int f]))])) (va_Qi (fun (r : Int32) (u : List Value) => if okH h && okH j then r = 1 ∧ u = [.int (-ux), .int uy, .int a, .int (-lx), .int ly, .int b, .int c, .int (-sd), .int g, .int d, .int (-sx), .int sy, .int f] else r = -2 ∧ u = [.int ux1, .int uy1, .int a1, .int lx1, .int ly1, .int b1, .int c1, .int sd1, .int g1, .int d1, .int sx1, .int sy1, .int f1]) (fun u t => va_at D vwCl (h0, .inr (1, u)) t.heap) (aE h0)) 0 0 (aE h0) := by
  refine Met.ofW (cc := cX6_mirror) (maxL := 3) (ret := (some .int)) (by decide) rfl ?_
  intro p e s m args below meth co s₁ B hml hv
  obtain ⟨rfl, hP0, hw⟩ := hv
  have hx := B.exec
  have hb := B.bytes
  have hr := B.returns
  have hts := atoms_spec (ws := wsX6_mirror) B.pre
  have hown : s.vm.findClass RX6 = some m.cls := findClass_of_methodNamed B.named
  have hlocks := B.notSynchronized
  have hinX2 : ∀ w ∈ wsX20, w ∈ wsX6_mirror := by decide +kernel
  have hinX6 : ∀ w ∈ wsX60, w ∈ wsX6_mirror := by decide +kernel
  have hS : va_S (aE h0) s.heap s.heap [] := va_S.rf
  have hP : va_P D vwCl [(h0, .inr (1, [.int ux1, .int uy1, .int a1, .int lx1, .int ly1, .int b1, .int c1, .int sd1, .int g1, .int d1, .int sx1, .int sy1, .int f1]))] s.heap := hP0.sub [0] rfl
  have hD : va_D (aE h0) [(h0, .inr (1, [.int ux1, .int uy1, .int a1, .int lx1, .int ly1, .int b1, .int c1, .int sd1, .int g1, .int d1, .int sx1, .int sy1, .int f1]))] := D_1 rfl
  have hR0 : va_P D vwCl [(o, .inr (5, [.ref ha, .ref st, .ref ca, .ref bx, .ref rd])), (ha, .inl (cH, 4, .inr (.inr (.inr (.inr fh))))), (h1, .inr (1, [.int ux, .int uy, .int a, .int lx, .int ly, .int b, .int c, .int sd, .int g, .int d, .int sx, .int sy, .int f]))] s.heap := hP0.sub [1, 2, 3] rfl
  have hR := hR0
  have hnr : ∀ (k9 : Nat) (q : Nat × va_E), ([(o, .inr (5, [.ref ha, .ref st, .ref ca, .ref bx, .ref rd])), (ha, .inl (cH, 4, .inr (.inr (.inr (.inr fh))))), (h1, .inr (1, [.int ux, .int uy, .int a, .int lx, .int ly, .int b, .int c, .int sd, .int g, .int d, .int sx, .int sy, .int f]))] : va_W)[k9]? = some q → ¬ (aE h0) q.1 := nn_1 hno (nn_1 hna (nn_1 hne nn_0))
  have hl := lv_entry ([.ref o, .int h, .int j]) (n := 3) (Nat.le_of_ble_eq_true rfl)
  rw [lg_entry_eq]
  generalize (lg_sl ([.ref o, .int h, .int j]) ++ List.replicate (3 - (lg_sl ([.ref o, .int h, .int j])).length) Slot.unset).toArray = ls at hl ⊢
  have hl : lv_has ls 3 [(0, .ref o), (1, .int h), (2, .int j)] := hl
  skip
  refine lv_iload_n hx hb dX6_mirror_0 rfl (lv_at hl 1 rfl) ?_
  refine va_calli (va_runS (As := [.int h]) (rest := []) ⟨hx, hb, hml, hown, hts⟩ (mX6_isHanging l h) (va_cwS 1 hts gX6_mirror_X6_isHanging rfl rfl rfl (by decide +kernel) ⟨Nat.le_of_ble_eq_true rfl, Nat.le_of_ble_eq_true rfl⟩) ⟨tB_blind, tB_go⟩ rfl rfl hl.1 rfl (lv_room (Nat.le_of_ble_eq_true rfl)) dX6_mirror_1 ⟨Nat.le_of_ble_eq_true rfl, Nat.le_of_ble_eq_true rfl⟩) hS (fun q _ h => h.elim) (fun q h => h.elim) (fun r1 u2 t H locs ht hvm hp3 hB hz1 hk1 hS => ?_)
  have hP := fr_keep hP hk1 fr_nA
  have hR := fr_rd hR0 hS hnr
  subst hp3
  refine lv_if_eq (tgt := 14) hx hb dX6_mirror_4 (by decide) (fun c4 => ?_) (fun c4 => ?_)
  · have c4 := bI_e.mp c4
    refine lv_bipush (v := (-2)) hx hb dX6_mirror_14 (by decide) ?_
    exact W.iret (v := (-2)) hx hb hr (fun t ht hW => ⟨⟨(-2), [.int ux1, .int uy1, .int a1, .int lx1, .int ly1, .int b1, .int c1, .int sd1, .int g1, .int d1, .int sx1, .int sy1, .int f1], rfl, (by dsimp only; rw [show (okH h && okH j) = false from (by simp [c4]), if_neg (by decide)]; exact ⟨rfl, rfl⟩), at_heap ht (hP 0 _ rfl)⟩, hS.F ht⟩) hS.2.2 dX6_mirror_16
  · have c4 := bI_n.mp c4
    refine lv_iload_n hx hb dX6_mirror_7 rfl (lv_at hl 2 rfl) ?_
    refine va_calli (va_runS (As := [.int j]) (rest := []) ⟨hx, hb, hml, hown, hts⟩ (mX6_isHanging l j) (va_cwS 1 hts gX6_mirror_X6_isHanging rfl rfl rfl (by decide +kernel) ⟨Nat.le_of_ble_eq_true rfl, Nat.le_of_ble_eq_true rfl⟩) ⟨tB_blind, tB_go⟩ rfl rfl hl.1 rfl (lv_room (Nat.le_of_ble_eq_true rfl)) dX6_mirror_8 ⟨Nat.le_of_ble_eq_true rfl, Nat.le_of_ble_eq_true rfl⟩) hS (fun q _ h => h.elim) (fun q h => h.elim) (fun r5 u6 t H locs ht hvm hp7 hB hz1 hk1 hS => ?_)
    have hP := fr_keep hP hk1 fr_nA
    have hR := fr_rd hR0 hS hnr
    subst hp7
    refine lv_if_ne (tgt := 17) hx hb dX6_mirror_11 (by decide) (fun c8 => ?_) (fun c8 => ?_)
    · have c8 := bI_n.mp c8
      refine lv_aload_n hx hb dX6_mirror_17 rfl (lv_at hl 0 rfl) ?_
      refine va_get (D := D) (ci := 5) (v := .ref ha) (C := RX6) (T := TX6) (N := 5) hx hb hts hinX6 hown hw.1 hR 0 rfl rfl 0 (by decide) (hts (.fieldLink RX6 11 "WheelSwing" "hangings" "[LWheelSwing$Hanging;") (by decide +kernel)) (fun _ h9 => h9) rfl dX6_mirror_18 ?_
      refine lv_iload_n hx hb dX6_mirror_21 rfl (lv_at hl 2 rfl) ?_
      refine va_aldq hx hb hw.1 hR 1 1 rfl rfl (okH_in c8) dX6_mirror_22 ?_
      refine lv_rfs (a := h0) (hfj c8) ?_
      refine lv_aload_n hx hb dX6_mirror_23 rfl (lv_at hl 0 rfl) ?_
      refine va_get (D := D) (ci := 5) (v := .ref ha) (C := RX6) (T := TX6) (N := 5) hx hb hts hinX6 hown hw.1 hR 0 rfl rfl 0 (by decide) (hts (.fieldLink RX6 11 "WheelSwing" "hangings" "[LWheelSwing$Hanging;") (by decide +kernel)) (fun _ h9 => h9) rfl dX6_mirror_24 ?_
      refine lv_iload_n hx hb dX6_mirror_27 rfl (lv_at hl 1 rfl) ?_
      refine va_aldq hx hb hw.1 hR 1 1 rfl rfl (okH_in c4) dX6_mirror_28 ?_
      refine lv_rfs (a := h1) (hfh c4) ?_
      have hq9 : va_P D vwCl [(h0, .inr (1, [.int ux1, .int uy1, .int a1, .int lx1, .int ly1, .int b1, .int c1, .int sd1, .int g1, .int d1, .int sx1, .int sy1, .int f1])), (h1, .inr (1, [.int ux, .int uy, .int a, .int lx, .int ly, .int b, .int c, .int sd, .int g, .int d, .int sx, .int sy, .int f]))] H := fr_cons (hP 0 _ rfl) (fr_cons (hR 2 _ rfl) (fr_nil))
      refine va_callv (va_runVN (As := [.ref h1]) (rest := []) ⟨hx, hb, hml, hown, hts⟩ (mX2_becomeMirrorOf l D cI cH h0 h1 ux1 uy1 a1 lx1 ly1 b1 c1 sd1 g1 d1 sx1 sy1 f1 ux uy a lx ly b c sd g d sx sy f hne) (⟨va_cnB 1 hts gX6_mirror_X2_becomeMirrorOf_n76 rfl rfl rfl (hw.2 (.methodLinkNest RX6 76 yX2_becomeMirrorOf "WheelSwing") (by decide +kernel)) (hts (.initialized RX2) (by decide +kernel)) (by decide +kernel) ⟨Nat.le_of_ble_eq_true rfl, Nat.le_of_ble_eq_true rfl⟩, hts (.instanceMethod yX2_becomeMirrorOf) (by decide +kernel), hts (.selects RX2 yX2_becomeMirrorOf yX2_becomeMirrorOf) (by decide +kernel)⟩) ⟨kB_blind, va_recv hw.1 hq9 (ci := 1) (q0 := 0) rfl rfl, kB_go hq9 hw⟩ rfl rfl hl.1 rfl (lv_room (Nat.le_of_ble_eq_true rfl)) dX6_mirror_29 ⟨Nat.le_of_ble_eq_true rfl, Nat.le_of_ble_eq_true rfl⟩) hS (fun q _ h => h) (fun q h => h) (fun u11 t H locs ht hvm hp12 hB hz1 hk1 hS => ?_)
      have hB : va_at D vwCl (h0, .inr (1, u11)) t.heap := hB
      rw [ht] at hB
      have hP := fr_one hB
      have hR := fr_rd hR0 hS hnr
      subst hp12
      have hP : va_P D vwCl [(h0, .inr (1, [.int (-ux), .int uy, .int a, .int (-lx), .int ly, .int b, .int c, .int (-sd), .int g, .int d, .int (-sx), .int sy, .int f]))] H := hP
      have hD : va_D (aE h0) [(h0, .inr (1, [.int (-ux), .int uy, .int a, .int (-lx), .int ly, .int b, .int c, .int (-sd), .int g, .int d, .int (-sx), .int sy, .int f]))] := D_1 rfl
      refine lv_iconst (v := 1) hx hb dX6_mirror_32 (by decide) ?_
      exact W.iret (v := 1) hx hb hr (fun t ht hW => ⟨⟨1, [.int (-ux), .int uy, .int a, .int (-lx), .int ly, .int b, .int c, .int (-sd), .int g, .int d, .int (-sx), .int sy, .int f], rfl, (by dsimp only; rw [show (okH h && okH j) = true from (by simp [c4, c8]), if_pos rfl]; exact ⟨rfl, rfl⟩), at_heap ht (hP 0 _ rfl)⟩, hS.F ht⟩) hS.2.2 dX6_mirror_33
    · have c8 := bI_e.mp c8
      refine lv_bipush (v := (-2)) hx hb dX6_mirror_14 (by decide) ?_
      exact W.iret (v := (-2)) hx hb hr (fun t ht hW => ⟨⟨(-2), [.int ux1, .int uy1, .int a1, .int lx1, .int ly1, .int b1, .int c1, .int sd1, .int g1, .int d1, .int sx1, .int sy1, .int f1], rfl, (by dsimp only; rw [show (okH h && okH j) = false from (by simp [c4, c8]), if_neg (by decide)]; exact ⟨rfl, rfl⟩), at_heap ht (hP 0 _ rfl)⟩, hS.F ht⟩) hS.2.2 dX6_mirror_16
set_option maxHeartbeats 4000000 in
set_option maxRecDepth 100000 in
theorem mX6_mirrorSelf (l : Launch) (D : va_G) (cI cH : ClassId) (o ha st ca bx rd : Nat) (h0 : Nat) (fh : Nat → Option Nat) (ux uy a lx ly b c sd g d sx sy f : Int32) (h j : Int32)  (hno : o ≠ h0) (hna : ha ≠ h0) (hfj : okH j = true → fh j.toNatClampNeg = some h0) (hfh : okH h = true → fh h.toNatClampNeg = some h0) : Met l yX6_mirror wsX6_mirror ({ frames := 2, cells := 0, slots := 0, locals := 44 }) (va_Pc [.ref o, .int h, .int j] (kB D cI cH [(h0, .inr (1, [.int ux, .int uy, .int a, .int lx, .int ly, .int b, .int c, .int sd, .int g, .int d, .int sx, .int sy, .int f])), (o, .inr (5, [.ref ha, .ref st, .ref ca, .ref bx, .ref rd])), (ha, .inl (cH, 4, .inr (.inr (.inr (.inr fh)))))])) (va_Qi (fun (r : Int32) (u : List Value) => if okH h && okH j then r = 1 ∧ u = [.int (-ux), .int uy, .int a, .int (-lx), .int ly, .int b, .int c, .int (-sd), .int g, .int d, .int (-sx), .int sy, .int f] else r = -2 ∧ u = [.int ux, .int uy, .int a, .int lx, .int ly, .int b, .int c, .int sd, .int g, .int d, .int sx, .int sy, .int f]) (fun u t => va_at D vwCl (h0, .inr (1, u)) t.heap) (aE h0)) 0 0 (aE h0) := by
  refine Met.ofW (cc := cX6_mirror) (maxL := 3) (ret := (some .int)) (by decide) rfl ?_
  intro p e s m args below meth co s₁ B hml hv
  obtain ⟨rfl, hP0, hw⟩ := hv
  have hx := B.exec
  have hb := B.bytes
  have hr := B.returns
  have hts := atoms_spec (ws := wsX6_mirror) B.pre
  have hown : s.vm.findClass RX6 = some m.cls := findClass_of_methodNamed B.named
  have hlocks := B.notSynchronized
  have hinX2 : ∀ w ∈ wsX20, w ∈ wsX6_mirror := by decide +kernel
  have hinX6 : ∀ w ∈ wsX60, w ∈ wsX6_mirror := by decide +kernel
  have hS : va_S (aE h0) s.heap s.heap [] := va_S.rf
  have hP : va_P D vwCl [(h0, .inr (1, [.int ux, .int uy, .int a, .int lx, .int ly, .int b, .int c, .int sd, .int g, .int d, .int sx, .int sy, .int f]))] s.heap := hP0.sub [0] rfl
  have hD : va_D (aE h0) [(h0, .inr (1, [.int ux, .int uy, .int a, .int lx, .int ly, .int b, .int c, .int sd, .int g, .int d, .int sx, .int sy, .int f]))] := D_1 rfl
  have hR0 : va_P D vwCl [(o, .inr (5, [.ref ha, .ref st, .ref ca, .ref bx, .ref rd])), (ha, .inl (cH, 4, .inr (.inr (.inr (.inr fh)))))] s.heap := hP0.sub [1, 2] rfl
  have hR := hR0
  have hnr : ∀ (k9 : Nat) (q : Nat × va_E), ([(o, .inr (5, [.ref ha, .ref st, .ref ca, .ref bx, .ref rd])), (ha, .inl (cH, 4, .inr (.inr (.inr (.inr fh)))))] : va_W)[k9]? = some q → ¬ (aE h0) q.1 := nn_1 hno (nn_1 hna nn_0)
  have hl := lv_entry ([.ref o, .int h, .int j]) (n := 3) (Nat.le_of_ble_eq_true rfl)
  rw [lg_entry_eq]
  generalize (lg_sl ([.ref o, .int h, .int j]) ++ List.replicate (3 - (lg_sl ([.ref o, .int h, .int j])).length) Slot.unset).toArray = ls at hl ⊢
  have hl : lv_has ls 3 [(0, .ref o), (1, .int h), (2, .int j)] := hl
  skip
  refine lv_iload_n hx hb dX6_mirror_0 rfl (lv_at hl 1 rfl) ?_
  refine va_calli (va_runS (As := [.int h]) (rest := []) ⟨hx, hb, hml, hown, hts⟩ (mX6_isHanging l h) (va_cwS 1 hts gX6_mirror_X6_isHanging rfl rfl rfl (by decide +kernel) ⟨Nat.le_of_ble_eq_true rfl, Nat.le_of_ble_eq_true rfl⟩) ⟨tB_blind, tB_go⟩ rfl rfl hl.1 rfl (lv_room (Nat.le_of_ble_eq_true rfl)) dX6_mirror_1 ⟨Nat.le_of_ble_eq_true rfl, Nat.le_of_ble_eq_true rfl⟩) hS (fun q _ h => h.elim) (fun q h => h.elim) (fun r1 u2 t H locs ht hvm hp3 hB hz1 hk1 hS => ?_)
  have hP := fr_keep hP hk1 fr_nA
  have hR := fr_rd hR0 hS hnr
  subst hp3
  refine lv_if_eq (tgt := 14) hx hb dX6_mirror_4 (by decide) (fun c4 => ?_) (fun c4 => ?_)
  · have c4 := bI_e.mp c4
    refine lv_bipush (v := (-2)) hx hb dX6_mirror_14 (by decide) ?_
    exact W.iret (v := (-2)) hx hb hr (fun t ht hW => ⟨⟨(-2), [.int ux, .int uy, .int a, .int lx, .int ly, .int b, .int c, .int sd, .int g, .int d, .int sx, .int sy, .int f], rfl, (by dsimp only; rw [show (okH h && okH j) = false from (by simp [c4]), if_neg (by decide)]; exact ⟨rfl, rfl⟩), at_heap ht (hP 0 _ rfl)⟩, hS.F ht⟩) hS.2.2 dX6_mirror_16
  · have c4 := bI_n.mp c4
    refine lv_iload_n hx hb dX6_mirror_7 rfl (lv_at hl 2 rfl) ?_
    refine va_calli (va_runS (As := [.int j]) (rest := []) ⟨hx, hb, hml, hown, hts⟩ (mX6_isHanging l j) (va_cwS 1 hts gX6_mirror_X6_isHanging rfl rfl rfl (by decide +kernel) ⟨Nat.le_of_ble_eq_true rfl, Nat.le_of_ble_eq_true rfl⟩) ⟨tB_blind, tB_go⟩ rfl rfl hl.1 rfl (lv_room (Nat.le_of_ble_eq_true rfl)) dX6_mirror_8 ⟨Nat.le_of_ble_eq_true rfl, Nat.le_of_ble_eq_true rfl⟩) hS (fun q _ h => h.elim) (fun q h => h.elim) (fun r5 u6 t H locs ht hvm hp7 hB hz1 hk1 hS => ?_)
    have hP := fr_keep hP hk1 fr_nA
    have hR := fr_rd hR0 hS hnr
    subst hp7
    refine lv_if_ne (tgt := 17) hx hb dX6_mirror_11 (by decide) (fun c8 => ?_) (fun c8 => ?_)
    · have c8 := bI_n.mp c8
      refine lv_aload_n hx hb dX6_mirror_17 rfl (lv_at hl 0 rfl) ?_
      refine va_get (D := D) (ci := 5) (v := .ref ha) (C := RX6) (T := TX6) (N := 5) hx hb hts hinX6 hown hw.1 hR 0 rfl rfl 0 (by decide) (hts (.fieldLink RX6 11 "WheelSwing" "hangings" "[LWheelSwing$Hanging;") (by decide +kernel)) (fun _ h9 => h9) rfl dX6_mirror_18 ?_
      refine lv_iload_n hx hb dX6_mirror_21 rfl (lv_at hl 2 rfl) ?_
      refine va_aldq hx hb hw.1 hR 1 1 rfl rfl (okH_in c8) dX6_mirror_22 ?_
      refine lv_rfs (a := h0) (hfj c8) ?_
      refine lv_aload_n hx hb dX6_mirror_23 rfl (lv_at hl 0 rfl) ?_
      refine va_get (D := D) (ci := 5) (v := .ref ha) (C := RX6) (T := TX6) (N := 5) hx hb hts hinX6 hown hw.1 hR 0 rfl rfl 0 (by decide) (hts (.fieldLink RX6 11 "WheelSwing" "hangings" "[LWheelSwing$Hanging;") (by decide +kernel)) (fun _ h9 => h9) rfl dX6_mirror_24 ?_
      refine lv_iload_n hx hb dX6_mirror_27 rfl (lv_at hl 1 rfl) ?_
      refine va_aldq hx hb hw.1 hR 1 1 rfl rfl (okH_in c4) dX6_mirror_28 ?_
      refine lv_rfs (a := h0) (hfh c4) ?_
      have hq9 : va_P D vwCl [(h0, .inr (1, [.int ux, .int uy, .int a, .int lx, .int ly, .int b, .int c, .int sd, .int g, .int d, .int sx, .int sy, .int f]))] H := hP.sub [0] rfl
      refine va_callv (va_runVN (As := [.ref h0]) (rest := []) ⟨hx, hb, hml, hown, hts⟩ (mX2_mirrorSelf l D cI cH h0 ux uy a lx ly b c sd g d sx sy f) (⟨va_cnB 1 hts gX6_mirror_X2_becomeMirrorOf_n76 rfl rfl rfl (hw.2 (.methodLinkNest RX6 76 yX2_becomeMirrorOf "WheelSwing") (by decide +kernel)) (hts (.initialized RX2) (by decide +kernel)) (by decide +kernel) ⟨Nat.le_of_ble_eq_true rfl, Nat.le_of_ble_eq_true rfl⟩, hts (.instanceMethod yX2_becomeMirrorOf) (by decide +kernel), hts (.selects RX2 yX2_becomeMirrorOf yX2_becomeMirrorOf) (by decide +kernel)⟩) ⟨kB_blind, va_recv hw.1 hq9 (ci := 1) (q0 := 0) rfl rfl, kB_go hq9 hw⟩ rfl rfl hl.1 rfl (lv_room (Nat.le_of_ble_eq_true rfl)) dX6_mirror_29 ⟨Nat.le_of_ble_eq_true rfl, Nat.le_of_ble_eq_true rfl⟩) hS (fun q _ h => h) (fun q h => h) (fun u11 t H locs ht hvm hp12 hB hz1 hk1 hS => ?_)
      have hB : va_at D vwCl (h0, .inr (1, u11)) t.heap := hB
      rw [ht] at hB
      have hP := fr_one hB
      have hR := fr_rd hR0 hS hnr
      subst hp12
      have hP : va_P D vwCl [(h0, .inr (1, [.int (-ux), .int uy, .int a, .int (-lx), .int ly, .int b, .int c, .int (-sd), .int g, .int d, .int (-sx), .int sy, .int f]))] H := hP
      have hD : va_D (aE h0) [(h0, .inr (1, [.int (-ux), .int uy, .int a, .int (-lx), .int ly, .int b, .int c, .int (-sd), .int g, .int d, .int (-sx), .int sy, .int f]))] := D_1 rfl
      refine lv_iconst (v := 1) hx hb dX6_mirror_32 (by decide) ?_
      exact W.iret (v := 1) hx hb hr (fun t ht hW => ⟨⟨1, [.int (-ux), .int uy, .int a, .int (-lx), .int ly, .int b, .int c, .int (-sd), .int g, .int d, .int (-sx), .int sy, .int f], rfl, (by dsimp only; rw [show (okH h && okH j) = true from (by simp [c4, c8]), if_pos rfl]; exact ⟨rfl, rfl⟩), at_heap ht (hP 0 _ rfl)⟩, hS.F ht⟩) hS.2.2 dX6_mirror_33
    · have c8 := bI_e.mp c8
      refine lv_bipush (v := (-2)) hx hb dX6_mirror_14 (by decide) ?_
      exact W.iret (v := (-2)) hx hb hr (fun t ht hW => ⟨⟨(-2), [.int ux, .int uy, .int a, .int lx, .int ly, .int b, .int c, .int sd, .int g, .int d, .int sx, .int sy, .int f], rfl, (by dsimp only; rw [show (okH h && okH j) = false from (by simp [c4, c8]), if_neg (by decide)]; exact ⟨rfl, rfl⟩), at_heap ht (hP 0 _ rfl)⟩, hS.F ht⟩) hS.2.2 dX6_mirror_16
set_option maxHeartbeats 4000000 in
set_option maxRecDepth 100000 in
theorem mX6_weight (l : Launch) (D : va_G) (cI cH : ClassId) (o ha st ca bx rd : Nat) (ct cp cr ctr cfs : Int32) (n1 n2 n3 : Int32)  (hno : o ≠ ca) : Met l yX6_weight wsX6_weight ({ frames := 1, cells := 0, slots := 0, locals := 23 }) (va_Pc [.ref o, .int n1, .int n2, .int n3] (kB D cI cH [(ca, .inr (0, [.int ct, .int cp, .int cr, .int ctr, .int cfs])), (o, .inr (5, [.ref ha, .ref st, .ref ca, .ref bx, .ref rd]))])) (va_Qi (fun (r : Int32) (u : List Value) => if okWt n1 n2 n3 then r = 1 ∧ u = [.int n1, .int n2, .int n3, .int ctr, .int cfs] else r = -2 ∧ u = [.int ct, .int cp, .int cr, .int ctr, .int cfs]) (fun u t => va_at D vwCl (ca, .inr (0, u)) t.heap) (aE ca)) 0 0 (aE ca) := by
  refine Met.ofW (cc := cX6_weight) (maxL := 4) (ret := (some .int)) (by decide) rfl ?_
  intro p e s m args below meth co s₁ B hml hv
  obtain ⟨rfl, hP0, hw⟩ := hv
  have hx := B.exec
  have hb := B.bytes
  have hr := B.returns
  have hts := atoms_spec (ws := wsX6_weight) B.pre
  have hown : s.vm.findClass RX6 = some m.cls := findClass_of_methodNamed B.named
  have hlocks := B.notSynchronized
  have hinX0 : ∀ w ∈ wsX00, w ∈ wsX6_weight := by decide +kernel
  have hinX6 : ∀ w ∈ wsX60, w ∈ wsX6_weight := by decide +kernel
  have hS : va_S (aE ca) s.heap s.heap [] := va_S.rf
  have hP : va_P D vwCl [(ca, .inr (0, [.int ct, .int cp, .int cr, .int ctr, .int cfs]))] s.heap := hP0.sub [0] rfl
  have hD : va_D (aE ca) [(ca, .inr (0, [.int ct, .int cp, .int cr, .int ctr, .int cfs]))] := D_1 rfl
  have hR0 : va_P D vwCl [(o, .inr (5, [.ref ha, .ref st, .ref ca, .ref bx, .ref rd]))] s.heap := hP0.sub [1] rfl
  have hR := hR0
  have hnr : ∀ (k9 : Nat) (q : Nat × va_E), ([(o, .inr (5, [.ref ha, .ref st, .ref ca, .ref bx, .ref rd]))] : va_W)[k9]? = some q → ¬ (aE ca) q.1 := nn_1 hno nn_0
  have hl := lv_entry ([.ref o, .int n1, .int n2, .int n3]) (n := 4) (Nat.le_of_ble_eq_true rfl)
  rw [lg_entry_eq]
  generalize (lg_sl ([.ref o, .int n1, .int n2, .int n3]) ++ List.replicate (4 - (lg_sl ([.ref o, .int n1, .int n2, .int n3])).length) Slot.unset).toArray = ls at hl ⊢
  have hl : lv_has ls 4 [(0, .ref o), (1, .int n1), (2, .int n2), (3, .int n3)] := hl
  skip
  refine lv_iload_n hx hb dX6_weight_0 rfl (lv_at hl 1 rfl) ?_
  refine lv_iconst (v := 0) hx hb dX6_weight_1 (by decide) ?_
  refine lv_ldc hx hb hown (hts (.constant RX6 114 (100000)) (by decide +kernel)) dX6_weight_2 ?_
  refine va_calli (va_runS (As := [.int n1, .int 0, .int 100000]) (rest := []) ⟨hx, hb, hml, hown, hts⟩ (mX6_isWithin l n1 0 100000) (va_cwS 3 hts gX6_weight_X6_isWithin rfl rfl rfl (by decide +kernel) ⟨Nat.le_of_ble_eq_true rfl, Nat.le_of_ble_eq_true rfl⟩) ⟨tB_blind, tB_go⟩ rfl rfl hl.1 rfl (lv_room (Nat.le_of_ble_eq_true rfl)) dX6_weight_4 ⟨Nat.le_of_ble_eq_true rfl, Nat.le_of_ble_eq_true rfl⟩) hS (fun q _ h => h.elim) (fun q h => h.elim) (fun r1 u2 t H locs ht hvm hp3 hB hz1 hk1 hS => ?_)
  have hP := fr_keep hP hk1 fr_nA
  have hR := fr_rd hR0 hS hnr
  subst hp3
  refine lv_if_eq (tgt := 34) hx hb dX6_weight_7 (by decide) (fun c4 => ?_) (fun c4 => ?_)
  · have c4 := bI_e.mp c4
    refine lv_bipush (v := (-2)) hx hb dX6_weight_34 (by decide) ?_
    exact W.iret (v := (-2)) hx hb hr (fun t ht hW => ⟨⟨(-2), [.int ct, .int cp, .int cr, .int ctr, .int cfs], rfl, (by dsimp only; rw [show okWt n1 n2 n3 = false from (by unfold okWt; simp [c4]), if_neg (by decide)]; exact ⟨rfl, rfl⟩), at_heap ht (hP 0 _ rfl)⟩, hS.F ht⟩) hS.2.2 dX6_weight_36
  · have c4 := bI_n.mp c4
    refine lv_iload_n hx hb dX6_weight_10 rfl (lv_at hl 2 rfl) ?_
    refine lv_iconst (v := 0) hx hb dX6_weight_11 (by decide) ?_
    refine lv_sipush (v := 1000) hx hb dX6_weight_12 (by decide) ?_
    refine va_calli (va_runS (As := [.int n2, .int 0, .int 1000]) (rest := []) ⟨hx, hb, hml, hown, hts⟩ (mX6_isWithin l n2 0 1000) (va_cwS 3 hts gX6_weight_X6_isWithin rfl rfl rfl (by decide +kernel) ⟨Nat.le_of_ble_eq_true rfl, Nat.le_of_ble_eq_true rfl⟩) ⟨tB_blind, tB_go⟩ rfl rfl hl.1 rfl (lv_room (Nat.le_of_ble_eq_true rfl)) dX6_weight_15 ⟨Nat.le_of_ble_eq_true rfl, Nat.le_of_ble_eq_true rfl⟩) hS (fun q _ h => h.elim) (fun q h => h.elim) (fun r5 u6 t H locs ht hvm hp7 hB hz1 hk1 hS => ?_)
    have hP := fr_keep hP hk1 fr_nA
    have hR := fr_rd hR0 hS hnr
    subst hp7
    refine lv_if_eq (tgt := 34) hx hb dX6_weight_18 (by decide) (fun c8 => ?_) (fun c8 => ?_)
    · have c8 := bI_e.mp c8
      refine lv_bipush (v := (-2)) hx hb dX6_weight_34 (by decide) ?_
      exact W.iret (v := (-2)) hx hb hr (fun t ht hW => ⟨⟨(-2), [.int ct, .int cp, .int cr, .int ctr, .int cfs], rfl, (by dsimp only; rw [show okWt n1 n2 n3 = false from (by unfold okWt; simp [c4, c8]), if_neg (by decide)]; exact ⟨rfl, rfl⟩), at_heap ht (hP 0 _ rfl)⟩, hS.F ht⟩) hS.2.2 dX6_weight_36
    · have c8 := bI_n.mp c8
      refine lv_iload_n hx hb dX6_weight_21 rfl (lv_at hl 3 rfl) ?_
      refine lv_sipush (v := (-500)) hx hb dX6_weight_22 (by decide) ?_
      refine lv_sipush (v := 500) hx hb dX6_weight_25 (by decide) ?_
      refine va_calli (va_runS (As := [.int n3, .int ((-500)), .int 500]) (rest := []) ⟨hx, hb, hml, hown, hts⟩ (mX6_isWithin l n3 ((-500)) 500) (va_cwS 3 hts gX6_weight_X6_isWithin rfl rfl rfl (by decide +kernel) ⟨Nat.le_of_ble_eq_true rfl, Nat.le_of_ble_eq_true rfl⟩) ⟨tB_blind, tB_go⟩ rfl rfl hl.1 rfl (lv_room (Nat.le_of_ble_eq_true rfl)) dX6_weight_28 ⟨Nat.le_of_ble_eq_true rfl, Nat.le_of_ble_eq_true rfl⟩) hS (fun q _ h => h.elim) (fun q h => h.elim) (fun r9 u10 t H locs ht hvm hp11 hB hz1 hk1 hS => ?_)
      have hP := fr_keep hP hk1 fr_nA
      have hR := fr_rd hR0 hS hnr
      subst hp11
      refine lv_if_ne (tgt := 37) hx hb dX6_weight_31 (by decide) (fun c12 => ?_) (fun c12 => ?_)
      · have c12 := bI_n.mp c12
        refine lv_aload_n hx hb dX6_weight_37 rfl (lv_at hl 0 rfl) ?_
        refine va_get (D := D) (ci := 5) (v := .ref ca) (C := RX6) (T := TX6) (N := 5) hx hb hts hinX6 hown hw.1 hR 0 rfl rfl 2 (by decide) (hts (.fieldLink RX6 25 "WheelSwing" "car" "LWheelSwing$Car;") (by decide +kernel)) (fun _ h9 => h9) rfl dX6_weight_38 ?_
        refine lv_iload_n hx hb dX6_weight_41 rfl (lv_at hl 1 rfl) ?_
        refine lv_iload_n hx hb dX6_weight_42 rfl (lv_at hl 2 rfl) ?_
        refine lv_iload_n hx hb dX6_weight_43 rfl (lv_at hl 3 rfl) ?_
        have hq13 : va_P D vwCl [(ca, .inr (0, [.int ct, .int cp, .int cr, .int ctr, .int cfs]))] H := hP.sub [0] rfl
        refine va_callv (va_runVN (As := [.int n1, .int n2, .int n3]) (rest := []) ⟨hx, hb, hml, hown, hts⟩ (mX0_load l D cI cH ca ct cp cr ctr cfs n1 n2 n3) (⟨va_cnB 3 hts gX6_weight_X0_load_n115 rfl rfl rfl (hw.2 (.methodLinkNest RX6 115 yX0_load "WheelSwing") (by decide +kernel)) (hts (.initialized RX0) (by decide +kernel)) (by decide +kernel) ⟨Nat.le_of_ble_eq_true rfl, Nat.le_of_ble_eq_true rfl⟩, hts (.instanceMethod yX0_load) (by decide +kernel), hts (.selects RX0 yX0_load yX0_load) (by decide +kernel)⟩) ⟨kB_blind, va_recv hw.1 hq13 (ci := 0) (q0 := 0) rfl rfl, kB_go hq13 hw⟩ rfl rfl hl.1 rfl (lv_room (Nat.le_of_ble_eq_true rfl)) dX6_weight_44 ⟨Nat.le_of_ble_eq_true rfl, Nat.le_of_ble_eq_true rfl⟩) hS (fun q _ h => h) (fun q h => h) (fun u15 t H locs ht hvm hp16 hB hz1 hk1 hS => ?_)
        have hB : va_at D vwCl (ca, .inr (0, u15)) t.heap := hB
        rw [ht] at hB
        have hP := fr_one hB
        have hR := fr_rd hR0 hS hnr
        subst hp16
        have hP : va_P D vwCl [(ca, .inr (0, [.int n1, .int n2, .int n3, .int ctr, .int cfs]))] H := hP
        have hD : va_D (aE ca) [(ca, .inr (0, [.int n1, .int n2, .int n3, .int ctr, .int cfs]))] := D_1 rfl
        refine lv_iconst (v := 1) hx hb dX6_weight_47 (by decide) ?_
        exact W.iret (v := 1) hx hb hr (fun t ht hW => ⟨⟨1, [.int n1, .int n2, .int n3, .int ctr, .int cfs], rfl, (by dsimp only; rw [show okWt n1 n2 n3 = true from (by unfold okWt; simp [c4, c8, c12]), if_pos rfl]; exact ⟨rfl, rfl⟩), at_heap ht (hP 0 _ rfl)⟩, hS.F ht⟩) hS.2.2 dX6_weight_48
      · have c12 := bI_e.mp c12
        refine lv_bipush (v := (-2)) hx hb dX6_weight_34 (by decide) ?_
        exact W.iret (v := (-2)) hx hb hr (fun t ht hW => ⟨⟨(-2), [.int ct, .int cp, .int cr, .int ctr, .int cfs], rfl, (by dsimp only; rw [show okWt n1 n2 n3 = false from (by unfold okWt; simp [c4, c8, c12]), if_neg (by decide)]; exact ⟨rfl, rfl⟩), at_heap ht (hP 0 _ rfl)⟩, hS.F ht⟩) hS.2.2 dX6_weight_36
set_option maxHeartbeats 4000000 in
set_option maxRecDepth 100000 in
theorem mX6_push (l : Launch) (D : va_G) (cI cH : ClassId) (o ha st ca bx rd : Nat) (ct cp cr ctr cfs : Int32) (n1 n2 : Int32)  (hno : o ≠ ca) : Met l yX6_push wsX6_push ({ frames := 1, cells := 0, slots := 0, locals := 22 }) (va_Pc [.ref o, .int n1, .int n2] (kB D cI cH [(ca, .inr (0, [.int ct, .int cp, .int cr, .int ctr, .int cfs])), (o, .inr (5, [.ref ha, .ref st, .ref ca, .ref bx, .ref rd]))])) (va_Qi (fun (r : Int32) (u : List Value) => if okPu n1 n2 then r = 1 ∧ u = [.int ct, .int cp, .int cr, .int n1, .int n2] else r = -2 ∧ u = [.int ct, .int cp, .int cr, .int ctr, .int cfs]) (fun u t => va_at D vwCl (ca, .inr (0, u)) t.heap) (aE ca)) 0 0 (aE ca) := by
  refine Met.ofW (cc := cX6_push) (maxL := 3) (ret := (some .int)) (by decide) rfl ?_
  intro p e s m args below meth co s₁ B hml hv
  obtain ⟨rfl, hP0, hw⟩ := hv
  have hx := B.exec
  have hb := B.bytes
  have hr := B.returns
  have hts := atoms_spec (ws := wsX6_push) B.pre
  have hown : s.vm.findClass RX6 = some m.cls := findClass_of_methodNamed B.named
  have hlocks := B.notSynchronized
  have hinX0 : ∀ w ∈ wsX00, w ∈ wsX6_push := by decide +kernel
  have hinX6 : ∀ w ∈ wsX60, w ∈ wsX6_push := by decide +kernel
  have hS : va_S (aE ca) s.heap s.heap [] := va_S.rf
  have hP : va_P D vwCl [(ca, .inr (0, [.int ct, .int cp, .int cr, .int ctr, .int cfs]))] s.heap := hP0.sub [0] rfl
  have hD : va_D (aE ca) [(ca, .inr (0, [.int ct, .int cp, .int cr, .int ctr, .int cfs]))] := D_1 rfl
  have hR0 : va_P D vwCl [(o, .inr (5, [.ref ha, .ref st, .ref ca, .ref bx, .ref rd]))] s.heap := hP0.sub [1] rfl
  have hR := hR0
  have hnr : ∀ (k9 : Nat) (q : Nat × va_E), ([(o, .inr (5, [.ref ha, .ref st, .ref ca, .ref bx, .ref rd]))] : va_W)[k9]? = some q → ¬ (aE ca) q.1 := nn_1 hno nn_0
  have hl := lv_entry ([.ref o, .int n1, .int n2]) (n := 3) (Nat.le_of_ble_eq_true rfl)
  rw [lg_entry_eq]
  generalize (lg_sl ([.ref o, .int n1, .int n2]) ++ List.replicate (3 - (lg_sl ([.ref o, .int n1, .int n2])).length) Slot.unset).toArray = ls at hl ⊢
  have hl : lv_has ls 3 [(0, .ref o), (1, .int n1), (2, .int n2)] := hl
  skip
  refine lv_iload_n hx hb dX6_push_0 rfl (lv_at hl 1 rfl) ?_
  refine lv_ldc hx hb hown (hts (.constant RX6 118 (-100000)) (by decide +kernel)) dX6_push_1 ?_
  refine lv_ldc hx hb hown (hts (.constant RX6 114 (100000)) (by decide +kernel)) dX6_push_3 ?_
  refine va_calli (va_runS (As := [.int n1, .int ((-100000)), .int 100000]) (rest := []) ⟨hx, hb, hml, hown, hts⟩ (mX6_isWithin l n1 ((-100000)) 100000) (va_cwS 3 hts gX6_push_X6_isWithin rfl rfl rfl (by decide +kernel) ⟨Nat.le_of_ble_eq_true rfl, Nat.le_of_ble_eq_true rfl⟩) ⟨tB_blind, tB_go⟩ rfl rfl hl.1 rfl (lv_room (Nat.le_of_ble_eq_true rfl)) dX6_push_5 ⟨Nat.le_of_ble_eq_true rfl, Nat.le_of_ble_eq_true rfl⟩) hS (fun q _ h => h.elim) (fun q h => h.elim) (fun r1 u2 t H locs ht hvm hp3 hB hz1 hk1 hS => ?_)
  have hP := fr_keep hP hk1 fr_nA
  have hR := fr_rd hR0 hS hnr
  subst hp3
  refine lv_if_eq (tgt := 22) hx hb dX6_push_8 (by decide) (fun c4 => ?_) (fun c4 => ?_)
  · have c4 := bI_e.mp c4
    refine lv_bipush (v := (-2)) hx hb dX6_push_22 (by decide) ?_
    exact W.iret (v := (-2)) hx hb hr (fun t ht hW => ⟨⟨(-2), [.int ct, .int cp, .int cr, .int ctr, .int cfs], rfl, (by dsimp only; rw [show okPu n1 n2 = false from (by unfold okPu; simp [c4]), if_neg (by decide)]; exact ⟨rfl, rfl⟩), at_heap ht (hP 0 _ rfl)⟩, hS.F ht⟩) hS.2.2 dX6_push_24
  · have c4 := bI_n.mp c4
    refine lv_iload_n hx hb dX6_push_11 rfl (lv_at hl 2 rfl) ?_
    refine lv_iconst (v := 0) hx hb dX6_push_12 (by decide) ?_
    refine lv_sipush (v := 1000) hx hb dX6_push_13 (by decide) ?_
    refine va_calli (va_runS (As := [.int n2, .int 0, .int 1000]) (rest := []) ⟨hx, hb, hml, hown, hts⟩ (mX6_isWithin l n2 0 1000) (va_cwS 3 hts gX6_push_X6_isWithin rfl rfl rfl (by decide +kernel) ⟨Nat.le_of_ble_eq_true rfl, Nat.le_of_ble_eq_true rfl⟩) ⟨tB_blind, tB_go⟩ rfl rfl hl.1 rfl (lv_room (Nat.le_of_ble_eq_true rfl)) dX6_push_16 ⟨Nat.le_of_ble_eq_true rfl, Nat.le_of_ble_eq_true rfl⟩) hS (fun q _ h => h.elim) (fun q h => h.elim) (fun r5 u6 t H locs ht hvm hp7 hB hz1 hk1 hS => ?_)
    have hP := fr_keep hP hk1 fr_nA
    have hR := fr_rd hR0 hS hnr
    subst hp7
    refine lv_if_ne (tgt := 25) hx hb dX6_push_19 (by decide) (fun c8 => ?_) (fun c8 => ?_)
    · have c8 := bI_n.mp c8
      refine lv_aload_n hx hb dX6_push_25 rfl (lv_at hl 0 rfl) ?_
      refine va_get (D := D) (ci := 5) (v := .ref ca) (C := RX6) (T := TX6) (N := 5) hx hb hts hinX6 hown hw.1 hR 0 rfl rfl 2 (by decide) (hts (.fieldLink RX6 25 "WheelSwing" "car" "LWheelSwing$Car;") (by decide +kernel)) (fun _ h9 => h9) rfl dX6_push_26 ?_
      refine lv_iload_n hx hb dX6_push_29 rfl (lv_at hl 1 rfl) ?_
      refine lv_iload_n hx hb dX6_push_30 rfl (lv_at hl 2 rfl) ?_
      have hq9 : va_P D vwCl [(ca, .inr (0, [.int ct, .int cp, .int cr, .int ctr, .int cfs]))] H := hP.sub [0] rfl
      refine va_callv (va_runVN (As := [.int n1, .int n2]) (rest := []) ⟨hx, hb, hml, hown, hts⟩ (mX0_lean l D cI cH ca ct cp cr ctr cfs n1 n2) (⟨va_cnB 2 hts gX6_push_X0_lean_n119 rfl rfl rfl (hw.2 (.methodLinkNest RX6 119 yX0_lean "WheelSwing") (by decide +kernel)) (hts (.initialized RX0) (by decide +kernel)) (by decide +kernel) ⟨Nat.le_of_ble_eq_true rfl, Nat.le_of_ble_eq_true rfl⟩, hts (.instanceMethod yX0_lean) (by decide +kernel), hts (.selects RX0 yX0_lean yX0_lean) (by decide +kernel)⟩) ⟨kB_blind, va_recv hw.1 hq9 (ci := 0) (q0 := 0) rfl rfl, kB_go hq9 hw⟩ rfl rfl hl.1 rfl (lv_room (Nat.le_of_ble_eq_true rfl)) dX6_push_31 ⟨Nat.le_of_ble_eq_true rfl, Nat.le_of_ble_eq_true rfl⟩) hS (fun q _ h => h) (fun q h => h) (fun u11 t H locs ht hvm hp12 hB hz1 hk1 hS => ?_)
      have hB : va_at D vwCl (ca, .inr (0, u11)) t.heap := hB
      rw [ht] at hB
      have hP := fr_one hB
      have hR := fr_rd hR0 hS hnr
      subst hp12
      have hP : va_P D vwCl [(ca, .inr (0, [.int ct, .int cp, .int cr, .int n1, .int n2]))] H := hP
      have hD : va_D (aE ca) [(ca, .inr (0, [.int ct, .int cp, .int cr, .int n1, .int n2]))] := D_1 rfl
      refine lv_iconst (v := 1) hx hb dX6_push_34 (by decide) ?_
      exact W.iret (v := 1) hx hb hr (fun t ht hW => ⟨⟨1, [.int ct, .int cp, .int cr, .int n1, .int n2], rfl, (by dsimp only; rw [show okPu n1 n2 = true from (by unfold okPu; simp [c4, c8]), if_pos rfl]; exact ⟨rfl, rfl⟩), at_heap ht (hP 0 _ rfl)⟩, hS.F ht⟩) hS.2.2 dX6_push_35
    · have c8 := bI_e.mp c8
      refine lv_bipush (v := (-2)) hx hb dX6_push_22 (by decide) ?_
      exact W.iret (v := (-2)) hx hb hr (fun t ht hW => ⟨⟨(-2), [.int ct, .int cp, .int cr, .int ctr, .int cfs], rfl, (by dsimp only; rw [show okPu n1 n2 = false from (by unfold okPu; simp [c4, c8]), if_neg (by decide)]; exact ⟨rfl, rfl⟩), at_heap ht (hP 0 _ rfl)⟩, hS.F ht⟩) hS.2.2 dX6_push_24
set_option maxHeartbeats 4000000 in
set_option maxRecDepth 100000 in
theorem mX6_carries (l : Launch) (D : va_G) (cI cH : ClassId) (o ha st ca bx rd : Nat) (ct cp cr ctr cfs : Int32) (wh : Int32)  : Met l yX6_carries wsX6_carries ({ frames := 1, cells := 0, slots := 0, locals := 28 }) (va_Pc [.ref o, .int wh] (kB D cI cH [(o, .inr (5, [.ref ha, .ref st, .ref ca, .ref bx, .ref rd])), (ca, .inr (0, [.int ct, .int cp, .int cr, .int ctr, .int cfs]))])) (va_Qi (fun (r : Int32) (u : Unit) => r = if isW wh 0 3 then carL ct cp cr ctr cfs wh else -2000000) (fun _ _ => True) nA) 0 0 nA := by
  refine Met.ofW (cc := cX6_carries) (maxL := 2) (ret := (some .int)) (by decide) rfl ?_
  intro p e s m args below meth co s₁ B hml hv
  obtain ⟨rfl, hP0, hw⟩ := hv
  have hx := B.exec
  have hb := B.bytes
  have hr := B.returns
  have hts := atoms_spec (ws := wsX6_carries) B.pre
  have hown : s.vm.findClass RX6 = some m.cls := findClass_of_methodNamed B.named
  have hlocks := B.notSynchronized
  have hinX0 : ∀ w ∈ wsX00, w ∈ wsX6_carries := by decide +kernel
  have hinX6 : ∀ w ∈ wsX60, w ∈ wsX6_carries := by decide +kernel
  have hS : va_S nA s.heap s.heap [] := va_S.rf
  have hR0 : va_P D vwCl [(o, .inr (5, [.ref ha, .ref st, .ref ca, .ref bx, .ref rd])), (ca, .inr (0, [.int ct, .int cp, .int cr, .int ctr, .int cfs]))] s.heap := hP0.sub [0, 1] rfl
  have hR := hR0
  have hnr : ∀ (k9 : Nat) (q : Nat × va_E), ([(o, .inr (5, [.ref ha, .ref st, .ref ca, .ref bx, .ref rd])), (ca, .inr (0, [.int ct, .int cp, .int cr, .int ctr, .int cfs]))] : va_W)[k9]? = some q → ¬ nA q.1 := fr_nA
  have hl := lv_entry ([.ref o, .int wh]) (n := 2) (Nat.le_of_ble_eq_true rfl)
  rw [lg_entry_eq]
  generalize (lg_sl ([.ref o, .int wh]) ++ List.replicate (2 - (lg_sl ([.ref o, .int wh])).length) Slot.unset).toArray = ls at hl ⊢
  have hl : lv_has ls 2 [(0, .ref o), (1, .int wh)] := hl
  skip
  refine lv_iload_n hx hb dX6_carries_0 rfl (lv_at hl 1 rfl) ?_
  refine lv_iconst (v := 0) hx hb dX6_carries_1 (by decide) ?_
  refine lv_iconst (v := 3) hx hb dX6_carries_2 (by decide) ?_
  refine va_calli (va_runS (As := [.int wh, .int 0, .int 3]) (rest := []) ⟨hx, hb, hml, hown, hts⟩ (mX6_isWithin l wh 0 3) (va_cwS 3 hts gX6_carries_X6_isWithin rfl rfl rfl (by decide +kernel) ⟨Nat.le_of_ble_eq_true rfl, Nat.le_of_ble_eq_true rfl⟩) ⟨tB_blind, tB_go⟩ rfl rfl hl.1 rfl (lv_room (Nat.le_of_ble_eq_true rfl)) dX6_carries_3 ⟨Nat.le_of_ble_eq_true rfl, Nat.le_of_ble_eq_true rfl⟩) hS (fun q _ h => h.elim) (fun q h => h.elim) (fun r1 u2 t H locs ht hvm hp3 hB hz1 hk1 hS => ?_)
  have hR := fr_rd hR0 hS hnr
  subst hp3
  refine lv_if_eq (tgt := 20) hx hb dX6_carries_6 (by decide) (fun c4 => ?_) (fun c4 => ?_)
  · have c4 := bI_e.mp c4
    refine lv_ldc hx hb hown (hts (.constant RX6 126 (-2000000)) (by decide +kernel)) dX6_carries_20 ?_
    exact W.iret (v := (-2000000)) hx hb hr (fun t ht hW => ⟨⟨(-2000000), (), rfl, (by dsimp only; rw [show (isW wh 0 3) = false from (by simp [c4]), if_neg (by decide)]), trivial⟩, hS.F ht⟩) hS.2.2 dX6_carries_22
  · have c4 := bI_n.mp c4
    refine lv_aload_n hx hb dX6_carries_9 rfl (lv_at hl 0 rfl) ?_
    refine va_get (D := D) (ci := 5) (v := .ref ca) (C := RX6) (T := TX6) (N := 5) hx hb hts hinX6 hown hw.1 hR 0 rfl rfl 2 (by decide) (hts (.fieldLink RX6 25 "WheelSwing" "car" "LWheelSwing$Car;") (by decide +kernel)) (fun _ h9 => h9) rfl dX6_carries_10 ?_
    refine lv_iload_n hx hb dX6_carries_13 rfl (lv_at hl 1 rfl) ?_
    have hq5 : va_P D vwCl [(ca, .inr (0, [.int ct, .int cp, .int cr, .int ctr, .int cfs]))] H := hR.sub [1] rfl
    refine va_calli (va_runVN (As := [.int wh]) (rest := []) ⟨hx, hb, hml, hown, hts⟩ (mX0_loadOf l D cI cH ca ct cp cr ctr cfs wh) (⟨va_cnB 1 hts gX6_carries_X0_loadOf_n122 rfl rfl rfl (hw.2 (.methodLinkNest RX6 122 yX0_loadOf "WheelSwing") (by decide +kernel)) (hts (.initialized RX0) (by decide +kernel)) (by decide +kernel) ⟨Nat.le_of_ble_eq_true rfl, Nat.le_of_ble_eq_true rfl⟩, hts (.instanceMethod yX0_loadOf) (by decide +kernel), hts (.selects RX0 yX0_loadOf yX0_loadOf) (by decide +kernel)⟩) ⟨kB_blind, va_recv hw.1 hq5 (ci := 0) (q0 := 0) rfl rfl, kB_go hq5 hw⟩ rfl rfl hl.1 rfl (lv_room (Nat.le_of_ble_eq_true rfl)) dX6_carries_14 ⟨Nat.le_of_ble_eq_true rfl, Nat.le_of_ble_eq_true rfl⟩) hS (fun q _ h => h.elim) (fun q h => h.elim) (fun r6 u7 t H locs ht hvm hp8 hB hz1 hk1 hS => ?_)
    have hR := fr_rd hR0 hS hnr
    subst hp8
    refine lv_goto (tgt := 22) hx hb dX6_carries_17 (by decide) ?_
    exact W.iret (v := carL ct cp cr ctr cfs wh) hx hb hr (fun t ht hW => ⟨⟨carL ct cp cr ctr cfs wh, (), rfl, (by dsimp only; rw [show (isW wh 0 3) = true from (by simp [c4]), if_pos rfl]), trivial⟩, hS.F ht⟩) hS.2.2 dX6_carries_22
set_option maxHeartbeats 4000000 in
set_option maxRecDepth 100000 in
theorem mX6_best (l : Launch) (D : va_G) (cI cH : ClassId) (o ha st ca bx rd : Nat) (th k : Nat) (ft : Nat → Int32) (v j : Int32)  (hk : k ≤ 10) : Met l yX6_best wsX6_best ({ frames := 2, cells := 0, slots := 0, locals := 51 }) (va_Pc [.ref o, .int v, .int j] (kB D cI cH [(o, .inr (5, [.ref ha, .ref st, .ref ca, .ref bx, .ref rd])), (bx, .inr (3, [.ref th, .int (nI k)])), (th, .inl (cI, 10, .inl ft))])) (va_Qi (fun (r : Int32) (u : Unit) => r = if isW v 0 2000 && isW j 0 3 then (nsF ft k v j (2 ^ k - 1)).1 else -2) (fun _ _ => True) nA) 0 0 nA := by
  refine Met.ofW (cc := cX6_best) (maxL := 3) (ret := (some .int)) (by decide) rfl ?_
  intro p e s m args below meth co s₁ B hml hv
  obtain ⟨rfl, hP0, hw⟩ := hv
  have hx := B.exec
  have hb := B.bytes
  have hr := B.returns
  have hts := atoms_spec (ws := wsX6_best) B.pre
  have hown : s.vm.findClass RX6 = some m.cls := findClass_of_methodNamed B.named
  have hlocks := B.notSynchronized
  have hinX4 : ∀ w ∈ wsX40, w ∈ wsX6_best := by decide +kernel
  have hinX6 : ∀ w ∈ wsX60, w ∈ wsX6_best := by decide +kernel
  have hS : va_S nA s.heap s.heap [] := va_S.rf
  have hR0 : va_P D vwCl [(o, .inr (5, [.ref ha, .ref st, .ref ca, .ref bx, .ref rd])), (bx, .inr (3, [.ref th, .int (nI k)])), (th, .inl (cI, 10, .inl ft))] s.heap := hP0.sub [0, 1, 2] rfl
  have hR := hR0
  have hnr : ∀ (k9 : Nat) (q : Nat × va_E), ([(o, .inr (5, [.ref ha, .ref st, .ref ca, .ref bx, .ref rd])), (bx, .inr (3, [.ref th, .int (nI k)])), (th, .inl (cI, 10, .inl ft))] : va_W)[k9]? = some q → ¬ nA q.1 := fr_nA
  have hl := lv_entry ([.ref o, .int v, .int j]) (n := 3) (Nat.le_of_ble_eq_true rfl)
  rw [lg_entry_eq]
  generalize (lg_sl ([.ref o, .int v, .int j]) ++ List.replicate (3 - (lg_sl ([.ref o, .int v, .int j])).length) Slot.unset).toArray = ls at hl ⊢
  have hl : lv_has ls 3 [(0, .ref o), (1, .int v), (2, .int j)] := hl
  skip
  refine lv_iload_n hx hb dX6_best_0 rfl (lv_at hl 1 rfl) ?_
  refine lv_iconst (v := 0) hx hb dX6_best_1 (by decide) ?_
  refine lv_sipush (v := 2000) hx hb dX6_best_2 (by decide) ?_
  refine va_calli (va_runS (As := [.int v, .int 0, .int 2000]) (rest := []) ⟨hx, hb, hml, hown, hts⟩ (mX6_isWithin l v 0 2000) (va_cwS 3 hts gX6_best_X6_isWithin rfl rfl rfl (by decide +kernel) ⟨Nat.le_of_ble_eq_true rfl, Nat.le_of_ble_eq_true rfl⟩) ⟨tB_blind, tB_go⟩ rfl rfl hl.1 rfl (lv_room (Nat.le_of_ble_eq_true rfl)) dX6_best_5 ⟨Nat.le_of_ble_eq_true rfl, Nat.le_of_ble_eq_true rfl⟩) hS (fun q _ h => h.elim) (fun q h => h.elim) (fun r1 u2 t H locs ht hvm hp3 hB hz1 hk1 hS => ?_)
  have hR := fr_rd hR0 hS hnr
  subst hp3
  refine lv_if_eq (tgt := 32) hx hb dX6_best_8 (by decide) (fun c4 => ?_) (fun c4 => ?_)
  · have c4 := bI_e.mp c4
    refine lv_bipush (v := (-2)) hx hb dX6_best_32 (by decide) ?_
    exact W.iret (v := (-2)) hx hb hr (fun t ht hW => ⟨⟨(-2), (), rfl, (by dsimp only; rw [show (isW v 0 2000 && isW j 0 3) = false from (by simp [c4]), if_neg (by decide)]), trivial⟩, hS.F ht⟩) hS.2.2 dX6_best_34
  · have c4 := bI_n.mp c4
    refine lv_iload_n hx hb dX6_best_11 rfl (lv_at hl 2 rfl) ?_
    refine lv_iconst (v := 0) hx hb dX6_best_12 (by decide) ?_
    refine lv_iconst (v := 3) hx hb dX6_best_13 (by decide) ?_
    refine va_calli (va_runS (As := [.int j, .int 0, .int 3]) (rest := []) ⟨hx, hb, hml, hown, hts⟩ (mX6_isWithin l j 0 3) (va_cwS 3 hts gX6_best_X6_isWithin rfl rfl rfl (by decide +kernel) ⟨Nat.le_of_ble_eq_true rfl, Nat.le_of_ble_eq_true rfl⟩) ⟨tB_blind, tB_go⟩ rfl rfl hl.1 rfl (lv_room (Nat.le_of_ble_eq_true rfl)) dX6_best_14 ⟨Nat.le_of_ble_eq_true rfl, Nat.le_of_ble_eq_true rfl⟩) hS (fun q _ h => h.elim) (fun q h => h.elim) (fun r5 u6 t H locs ht hvm hp7 hB hz1 hk1 hS => ?_)
    have hR := fr_rd hR0 hS hnr
    subst hp7
    refine lv_if_eq (tgt := 32) hx hb dX6_best_17 (by decide) (fun c8 => ?_) (fun c8 => ?_)
    · have c8 := bI_e.mp c8
      refine lv_bipush (v := (-2)) hx hb dX6_best_32 (by decide) ?_
      exact W.iret (v := (-2)) hx hb hr (fun t ht hW => ⟨⟨(-2), (), rfl, (by dsimp only; rw [show (isW v 0 2000 && isW j 0 3) = false from (by simp [c4, c8]), if_neg (by decide)]), trivial⟩, hS.F ht⟩) hS.2.2 dX6_best_34
    · have c8 := bI_n.mp c8
      refine lv_aload_n hx hb dX6_best_20 rfl (lv_at hl 0 rfl) ?_
      refine va_get (D := D) (ci := 5) (v := .ref bx) (C := RX6) (T := TX6) (N := 5) hx hb hts hinX6 hown hw.1 hR 0 rfl rfl 3 (by decide) (hts (.fieldLink RX6 32 "WheelSwing" "shims" "LWheelSwing$ShimBox;") (by decide +kernel)) (fun _ h9 => h9) rfl dX6_best_21 ?_
      refine lv_iload_n hx hb dX6_best_24 rfl (lv_at hl 1 rfl) ?_
      refine lv_iload_n hx hb dX6_best_25 rfl (lv_at hl 2 rfl) ?_
      have hq9 : va_P D vwCl [(bx, .inr (3, [.ref th, .int (nI k)])), (th, .inl (cI, 10, .inl ft))] H := hR.sub [1, 2] rfl
      refine va_calli (va_runVN (As := [.int v, .int j]) (rest := []) ⟨hx, hb, hml, hown, hts⟩ (mX4_nearestSet l D cI cH bx th k ft v j hk) (⟨va_cnB 2 hts gX6_best_X4_nearestSet_n130 rfl rfl rfl (hw.2 (.methodLinkNest RX6 130 yX4_nearestSet "WheelSwing") (by decide +kernel)) (hts (.initialized RX4) (by decide +kernel)) (by decide +kernel) ⟨Nat.le_of_ble_eq_true rfl, Nat.le_of_ble_eq_true rfl⟩, hts (.instanceMethod yX4_nearestSet) (by decide +kernel), hts (.selects RX4 yX4_nearestSet yX4_nearestSet) (by decide +kernel)⟩) ⟨kB_blind, va_recv hw.1 hq9 (ci := 3) (q0 := 0) rfl rfl, kB_go hq9 hw⟩ rfl rfl hl.1 rfl (lv_room (Nat.le_of_ble_eq_true rfl)) dX6_best_26 ⟨Nat.le_of_ble_eq_true rfl, Nat.le_of_ble_eq_true rfl⟩) hS (fun q _ h => h.elim) (fun q h => h.elim) (fun r10 u11 t H locs ht hvm hp12 hB hz1 hk1 hS => ?_)
      have hR := fr_rd hR0 hS hnr
      subst hp12
      refine lv_goto (tgt := 34) hx hb dX6_best_29 (by decide) ?_
      exact W.iret (v := (nsF ft k v j (2 ^ k - 1)).1) hx hb hr (fun t ht hW => ⟨⟨(nsF ft k v j (2 ^ k - 1)).1, (), rfl, (by dsimp only; rw [show (isW v 0 2000 && isW j 0 3) = true from (by simp [c4, c8]), if_pos rfl]), trivial⟩, hS.F ht⟩) hS.2.2 dX6_best_34
set_option maxHeartbeats 4000000 in
set_option maxRecDepth 100000 in
theorem mX6_shim (l : Launch) (D : va_G) (cI cH : ClassId) (o ha st ca bx rd : Nat) (th k : Nat) (ft : Nat → Int32) (v : Int32)  (hk : k ≤ 10) (hne : th ≠ bx) (hno : o ≠ bx) (hno2 : o ≠ th) : Met l yX6_shim wsX6_shim ({ frames := 1, cells := 0, slots := 0, locals := 22 }) (va_Pc [.ref o, .int v] (kB D cI cH [(bx, .inr (3, [.ref th, .int (nI k)])), (th, .inl (cI, 10, .inl ft)), (o, .inr (5, [.ref ha, .ref st, .ref ca, .ref bx, .ref rd]))])) (va_Qi (fun (r : Int32) (u : Int32 × (Nat → Int32)) => if isW v 1 500 then (if k < 10 then r = nI k ∧ u = (nI (k + 1), upd ft k v) else r = -4 ∧ u = (nI k, ft)) else r = -2 ∧ u = (nI k, ft)) (fun u t => va_at D vwCl (bx, .inr (3, [.ref th, .int u.1])) t.heap ∧ va_at D vwCl (th, .inl (cI, 10, .inl u.2)) t.heap) (aE2 bx th)) 0 0 (aE2 bx th) := by
  refine Met.ofW (cc := cX6_shim) (maxL := 2) (ret := (some .int)) (by decide) rfl ?_
  intro p e s m args below meth co s₁ B hml hv
  obtain ⟨rfl, hP0, hw⟩ := hv
  have hx := B.exec
  have hb := B.bytes
  have hr := B.returns
  have hts := atoms_spec (ws := wsX6_shim) B.pre
  have hown : s.vm.findClass RX6 = some m.cls := findClass_of_methodNamed B.named
  have hlocks := B.notSynchronized
  have hinX4 : ∀ w ∈ wsX40, w ∈ wsX6_shim := by decide +kernel
  have hinX6 : ∀ w ∈ wsX60, w ∈ wsX6_shim := by decide +kernel
  have hS : va_S (aE2 bx th) s.heap s.heap [] := va_S.rf
  have hP : va_P D vwCl [(bx, .inr (3, [.ref th, .int (nI k)])), (th, .inl (cI, 10, .inl ft))] s.heap := hP0.sub [0, 1] rfl
  have hD : va_D (aE2 bx th) [(bx, .inr (3, [.ref th, .int (nI k)])), (th, .inl (cI, 10, .inl ft))] := D_cons (Or.inl rfl) (D_1 (Or.inr rfl)) (nn_1 hne nn_0)
  have hR0 : va_P D vwCl [(o, .inr (5, [.ref ha, .ref st, .ref ca, .ref bx, .ref rd]))] s.heap := hP0.sub [2] rfl
  have hR := hR0
  have hnr : ∀ (k9 : Nat) (q : Nat × va_E), ([(o, .inr (5, [.ref ha, .ref st, .ref ca, .ref bx, .ref rd]))] : va_W)[k9]? = some q → ¬ (aE2 bx th) q.1 := nn_1 (fun h => h.elim hno hno2) nn_0
  have hl := lv_entry ([.ref o, .int v]) (n := 2) (Nat.le_of_ble_eq_true rfl)
  rw [lg_entry_eq]
  generalize (lg_sl ([.ref o, .int v]) ++ List.replicate (2 - (lg_sl ([.ref o, .int v])).length) Slot.unset).toArray = ls at hl ⊢
  have hl : lv_has ls 2 [(0, .ref o), (1, .int v)] := hl
  skip
  refine lv_iload_n hx hb dX6_shim_0 rfl (lv_at hl 1 rfl) ?_
  refine lv_iconst (v := 1) hx hb dX6_shim_1 (by decide) ?_
  refine lv_sipush (v := 500) hx hb dX6_shim_2 (by decide) ?_
  refine va_calli (va_runS (As := [.int v, .int 1, .int 500]) (rest := []) ⟨hx, hb, hml, hown, hts⟩ (mX6_isWithin l v 1 500) (va_cwS 3 hts gX6_shim_X6_isWithin rfl rfl rfl (by decide +kernel) ⟨Nat.le_of_ble_eq_true rfl, Nat.le_of_ble_eq_true rfl⟩) ⟨tB_blind, tB_go⟩ rfl rfl hl.1 rfl (lv_room (Nat.le_of_ble_eq_true rfl)) dX6_shim_5 ⟨Nat.le_of_ble_eq_true rfl, Nat.le_of_ble_eq_true rfl⟩) hS (fun q _ h => h.elim) (fun q h => h.elim) (fun r1 u2 t H locs ht hvm hp3 hB hz1 hk1 hS => ?_)
  have hP := fr_keep hP hk1 fr_nA
  have hR := fr_rd hR0 hS hnr
  subst hp3
  refine lv_if_eq (tgt := 22) hx hb dX6_shim_8 (by decide) (fun c4 => ?_) (fun c4 => ?_)
  · have c4 := bI_e.mp c4
    refine lv_bipush (v := (-2)) hx hb dX6_shim_22 (by decide) ?_
    exact W.iret (v := (-2)) hx hb hr (fun t ht hW => ⟨⟨(-2), (nI k, ft), rfl, (by dsimp only; rw [show (isW v 1 500) = false from (by simp [c4]), if_neg (by decide)]; exact ⟨rfl, rfl⟩), at_heap ht (hP 0 _ rfl), at_heap ht (hP 1 _ rfl)⟩, hS.F ht⟩) hS.2.2 dX6_shim_24
  · have c4 := bI_n.mp c4
    refine lv_aload_n hx hb dX6_shim_11 rfl (lv_at hl 0 rfl) ?_
    refine va_get (D := D) (ci := 5) (v := .ref bx) (C := RX6) (T := TX6) (N := 5) hx hb hts hinX6 hown hw.1 hR 0 rfl rfl 3 (by decide) (hts (.fieldLink RX6 32 "WheelSwing" "shims" "LWheelSwing$ShimBox;") (by decide +kernel)) (fun _ h9 => h9) rfl dX6_shim_12 ?_
    refine lv_iload_n hx hb dX6_shim_15 rfl (lv_at hl 1 rfl) ?_
    have hq5 : va_P D vwCl [(bx, .inr (3, [.ref th, .int (nI k)])), (th, .inl (cI, 10, .inl ft))] H := hP.sub [0, 1] rfl
    refine va_calli (va_runVN (As := [.int v]) (rest := []) ⟨hx, hb, hml, hown, hts⟩ (mX4_add l D cI cH bx th k ft v hk hne) (⟨va_cnB 1 hts gX6_shim_X4_add_n127 rfl rfl rfl (hw.2 (.methodLinkNest RX6 127 yX4_add "WheelSwing") (by decide +kernel)) (hts (.initialized RX4) (by decide +kernel)) (by decide +kernel) ⟨Nat.le_of_ble_eq_true rfl, Nat.le_of_ble_eq_true rfl⟩, hts (.instanceMethod yX4_add) (by decide +kernel), hts (.selects RX4 yX4_add yX4_add) (by decide +kernel)⟩) ⟨kB_blind, va_recv hw.1 hq5 (ci := 3) (q0 := 0) rfl rfl, kB_go hq5 hw⟩ rfl rfl hl.1 rfl (lv_room (Nat.le_of_ble_eq_true rfl)) dX6_shim_16 ⟨Nat.le_of_ble_eq_true rfl, Nat.le_of_ble_eq_true rfl⟩) hS (fun q _ h => h) (fun q h => h) (fun r6 u7 t H locs ht hvm hp8 hB hz1 hk1 hS => ?_)
    rw [ht] at hB
    have hP := fr_cons hB.1 (fr_one hB.2)
    have hR := fr_rd hR0 hS hnr
    refine lv_goto (tgt := 24) hx hb dX6_shim_19 (by decide) ?_
    exact W.iret (v := r6) hx hb hr (fun t ht hW => ⟨⟨r6, u7, rfl, (by dsimp only; rw [show (isW v 1 500) = true from (by simp [c4]), if_pos rfl]; exact hp8), at_heap ht (hP 0 _ rfl), at_heap ht (hP 1 _ rfl)⟩, hS.F ht⟩) hS.2.2 dX6_shim_24
set_option maxHeartbeats 4000000 in
set_option maxRecDepth 100000 in
theorem mX6_reading (l : Launch) (D : va_G) (cI cH : ClassId) (o ha st ca bx rd : Nat) (ht1 ln k : Nat) (f1 f2 : Nat → Int32) (y v : Int32)  (hk : k ≤ 12) (hne1 : ht1 ≠ rd) (hne2 : ln ≠ rd) (hne3 : ln ≠ ht1) (hno : o ≠ rd) (hno2 : o ≠ ht1) (hno3 : o ≠ ln) : Met l yX6_reading wsX6_reading ({ frames := 2, cells := 0, slots := 0, locals := 42 }) (va_Pc [.ref o, .int y, .int v] (kB D cI cH [(rd, .inr (2, [.ref ht1, .ref ln, .int (nI k)])), (ht1, .inl (cI, 12, .inl f1)), (ln, .inl (cI, 12, .inl f2)), (o, .inr (5, [.ref ha, .ref st, .ref ca, .ref bx, .ref rd]))])) (va_Qi (fun (r : Int32) (u : Int32 × (Nat → Int32) × (Nat → Int32)) => if okC y && isW v (-5000) 5000 then (if k < 12 then r = nI k ∧ u = (nI (k + 1), upd f1 k y, upd f2 k v) else r = -4 ∧ u = (nI k, f1, f2)) else r = -2 ∧ u = (nI k, f1, f2)) (fun u t => va_at D vwCl (rd, .inr (2, [.ref ht1, .ref ln, .int u.1])) t.heap ∧ va_at D vwCl (ht1, .inl (cI, 12, .inl u.2.1)) t.heap ∧ va_at D vwCl (ln, .inl (cI, 12, .inl u.2.2)) t.heap) (aE3 rd ht1 ln)) 0 0 (aE3 rd ht1 ln) := by
  refine Met.ofW (cc := cX6_reading) (maxL := 3) (ret := (some .int)) (by decide) rfl ?_
  intro p e s m args below meth co s₁ B hml hv
  obtain ⟨rfl, hP0, hw⟩ := hv
  have hx := B.exec
  have hb := B.bytes
  have hr := B.returns
  have hts := atoms_spec (ws := wsX6_reading) B.pre
  have hown : s.vm.findClass RX6 = some m.cls := findClass_of_methodNamed B.named
  have hlocks := B.notSynchronized
  have hinX3 : ∀ w ∈ wsX30, w ∈ wsX6_reading := by decide +kernel
  have hinX6 : ∀ w ∈ wsX60, w ∈ wsX6_reading := by decide +kernel
  have hS : va_S (aE3 rd ht1 ln) s.heap s.heap [] := va_S.rf
  have hP : va_P D vwCl [(rd, .inr (2, [.ref ht1, .ref ln, .int (nI k)])), (ht1, .inl (cI, 12, .inl f1)), (ln, .inl (cI, 12, .inl f2))] s.heap := hP0.sub [0, 1, 2] rfl
  have hD : va_D (aE3 rd ht1 ln) [(rd, .inr (2, [.ref ht1, .ref ln, .int (nI k)])), (ht1, .inl (cI, 12, .inl f1)), (ln, .inl (cI, 12, .inl f2))] := D_cons (Or.inl rfl) (D_cons (Or.inr (Or.inl rfl)) (D_1 (Or.inr (Or.inr rfl))) (nn_1 hne3 nn_0)) (nn_1 hne1 (nn_1 hne2 nn_0))
  have hR0 : va_P D vwCl [(o, .inr (5, [.ref ha, .ref st, .ref ca, .ref bx, .ref rd]))] s.heap := hP0.sub [3] rfl
  have hR := hR0
  have hnr : ∀ (k9 : Nat) (q : Nat × va_E), ([(o, .inr (5, [.ref ha, .ref st, .ref ca, .ref bx, .ref rd]))] : va_W)[k9]? = some q → ¬ (aE3 rd ht1 ln) q.1 := nn_1 (fun h => h.elim hno (fun h => h.elim hno2 hno3)) nn_0
  have hl := lv_entry ([.ref o, .int y, .int v]) (n := 3) (Nat.le_of_ble_eq_true rfl)
  rw [lg_entry_eq]
  generalize (lg_sl ([.ref o, .int y, .int v]) ++ List.replicate (3 - (lg_sl ([.ref o, .int y, .int v])).length) Slot.unset).toArray = ls at hl ⊢
  have hl : lv_has ls 3 [(0, .ref o), (1, .int y), (2, .int v)] := hl
  skip
  refine lv_iload_n hx hb dX6_reading_0 rfl (lv_at hl 1 rfl) ?_
  refine va_calli (va_runS (As := [.int y]) (rest := []) ⟨hx, hb, hml, hown, hts⟩ (mX6_isCoordinate l y) (va_cwS 1 hts gX6_reading_X6_isCoordinate rfl rfl rfl (by decide +kernel) ⟨Nat.le_of_ble_eq_true rfl, Nat.le_of_ble_eq_true rfl⟩) ⟨tB_blind, tB_go⟩ rfl rfl hl.1 rfl (lv_room (Nat.le_of_ble_eq_true rfl)) dX6_reading_1 ⟨Nat.le_of_ble_eq_true rfl, Nat.le_of_ble_eq_true rfl⟩) hS (fun q _ h => h.elim) (fun q h => h.elim) (fun r1 u2 t H locs ht hvm hp3 hB hz1 hk1 hS => ?_)
  have hP := fr_keep hP hk1 fr_nA
  have hR := fr_rd hR0 hS hnr
  subst hp3
  refine lv_if_eq (tgt := 32) hx hb dX6_reading_4 (by decide) (fun c4 => ?_) (fun c4 => ?_)
  · have c4 := bI_e.mp c4
    refine lv_bipush (v := (-2)) hx hb dX6_reading_32 (by decide) ?_
    exact W.iret (v := (-2)) hx hb hr (fun t ht hW => ⟨⟨(-2), (nI k, f1, f2), rfl, (by dsimp only; rw [show (okC y && isW v (-5000) 5000) = false from (by simp [c4]), if_neg (by decide)]; exact ⟨rfl, rfl⟩), at_heap ht (hP 0 _ rfl), at_heap ht (hP 1 _ rfl), at_heap ht (hP 2 _ rfl)⟩, hS.F ht⟩) hS.2.2 dX6_reading_34
  · have c4 := bI_n.mp c4
    refine lv_iload_n hx hb dX6_reading_7 rfl (lv_at hl 2 rfl) ?_
    refine lv_sipush (v := (-5000)) hx hb dX6_reading_8 (by decide) ?_
    refine lv_sipush (v := 5000) hx hb dX6_reading_11 (by decide) ?_
    refine va_calli (va_runS (As := [.int v, .int ((-5000)), .int 5000]) (rest := []) ⟨hx, hb, hml, hown, hts⟩ (mX6_isWithin l v ((-5000)) 5000) (va_cwS 3 hts gX6_reading_X6_isWithin rfl rfl rfl (by decide +kernel) ⟨Nat.le_of_ble_eq_true rfl, Nat.le_of_ble_eq_true rfl⟩) ⟨tB_blind, tB_go⟩ rfl rfl hl.1 rfl (lv_room (Nat.le_of_ble_eq_true rfl)) dX6_reading_14 ⟨Nat.le_of_ble_eq_true rfl, Nat.le_of_ble_eq_true rfl⟩) hS (fun q _ h => h.elim) (fun q h => h.elim) (fun r5 u6 t H locs ht hvm hp7 hB hz1 hk1 hS => ?_)
    have hP := fr_keep hP hk1 fr_nA
    have hR := fr_rd hR0 hS hnr
    subst hp7
    refine lv_if_eq (tgt := 32) hx hb dX6_reading_17 (by decide) (fun c8 => ?_) (fun c8 => ?_)
    · have c8 := bI_e.mp c8
      refine lv_bipush (v := (-2)) hx hb dX6_reading_32 (by decide) ?_
      exact W.iret (v := (-2)) hx hb hr (fun t ht hW => ⟨⟨(-2), (nI k, f1, f2), rfl, (by dsimp only; rw [show (okC y && isW v (-5000) 5000) = false from (by simp [c4, c8]), if_neg (by decide)]; exact ⟨rfl, rfl⟩), at_heap ht (hP 0 _ rfl), at_heap ht (hP 1 _ rfl), at_heap ht (hP 2 _ rfl)⟩, hS.F ht⟩) hS.2.2 dX6_reading_34
    · have c8 := bI_n.mp c8
      refine lv_aload_n hx hb dX6_reading_20 rfl (lv_at hl 0 rfl) ?_
      refine va_get (D := D) (ci := 5) (v := .ref rd) (C := RX6) (T := TX6) (N := 5) hx hb hts hinX6 hown hw.1 hR 0 rfl rfl 4 (by decide) (hts (.fieldLink RX6 39 "WheelSwing" "readings" "LWheelSwing$Readings;") (by decide +kernel)) (fun _ h9 => h9) rfl dX6_reading_21 ?_
      refine lv_iload_n hx hb dX6_reading_24 rfl (lv_at hl 1 rfl) ?_
      refine lv_iload_n hx hb dX6_reading_25 rfl (lv_at hl 2 rfl) ?_
      have hq9 : va_P D vwCl [(rd, .inr (2, [.ref ht1, .ref ln, .int (nI k)])), (ht1, .inl (cI, 12, .inl f1)), (ln, .inl (cI, 12, .inl f2))] H := hP.sub [0, 1, 2] rfl
      refine va_calli (va_runVN (As := [.int y, .int v]) (rest := []) ⟨hx, hb, hml, hown, hts⟩ (mX3_add l D cI cH rd ht1 ln k f1 f2 y v hk hne1 hne2 hne3) (⟨va_cnB 2 hts gX6_reading_X3_add_n134 rfl rfl rfl (hw.2 (.methodLinkNest RX6 134 yX3_add "WheelSwing") (by decide +kernel)) (hts (.initialized RX3) (by decide +kernel)) (by decide +kernel) ⟨Nat.le_of_ble_eq_true rfl, Nat.le_of_ble_eq_true rfl⟩, hts (.instanceMethod yX3_add) (by decide +kernel), hts (.selects RX3 yX3_add yX3_add) (by decide +kernel)⟩) ⟨kB_blind, va_recv hw.1 hq9 (ci := 2) (q0 := 0) rfl rfl, kB_go hq9 hw⟩ rfl rfl hl.1 rfl (lv_room (Nat.le_of_ble_eq_true rfl)) dX6_reading_26 ⟨Nat.le_of_ble_eq_true rfl, Nat.le_of_ble_eq_true rfl⟩) hS (fun q _ h => h) (fun q h => h) (fun r10 u11 t H locs ht hvm hp12 hB hz1 hk1 hS => ?_)
      rw [ht] at hB
      have hP := fr_cons hB.1 (fr_cons hB.2.1 (fr_one hB.2.2))
      have hR := fr_rd hR0 hS hnr
      refine lv_goto (tgt := 34) hx hb dX6_reading_29 (by decide) ?_
      exact W.iret (v := r10) hx hb hr (fun t ht hW => ⟨⟨r10, u11, rfl, (by dsimp only; rw [show (okC y && isW v (-5000) 5000) = true from (by simp [c4, c8]), if_pos rfl]; exact hp12), at_heap ht (hP 0 _ rfl), at_heap ht (hP 1 _ rfl), at_heap ht (hP 2 _ rfl)⟩, hS.F ht⟩) hS.2.2 dX6_reading_34
set_option maxHeartbeats 4000000 in
set_option maxRecDepth 100000 in
theorem mX6_clear (l : Launch) (D : va_G) (cI cH : ClassId) (o ha st ca bx rd : Nat) (ht1 ln k : Nat)  (hno : o ≠ rd) : Met l yX6_clear wsX6_clear ({ frames := 0, cells := 0, slots := 0, locals := 0 }) (va_Pc [.ref o] (kB D cI cH [(rd, .inr (2, [.ref ht1, .ref ln, .int (nI k)])), (o, .inr (5, [.ref ha, .ref st, .ref ca, .ref bx, .ref rd]))])) (va_Qi (fun (r : Int32) (u : List Value) => r = nI k ∧ u = [.ref ht1, .ref ln, .int 0]) (fun u t => va_at D vwCl (rd, .inr (2, u)) t.heap) (aE rd)) 0 0 (aE rd) := by
  refine Met.ofW (cc := cX6_clear) (maxL := 2) (ret := (some .int)) (by decide) rfl ?_
  intro p e s m args below meth co s₁ B hml hv
  obtain ⟨rfl, hP0, hw⟩ := hv
  have hx := B.exec
  have hb := B.bytes
  have hr := B.returns
  have hts := atoms_spec (ws := wsX6_clear) B.pre
  have hown : s.vm.findClass RX6 = some m.cls := findClass_of_methodNamed B.named
  have hlocks := B.notSynchronized
  have hinX3 : ∀ w ∈ wsX30, w ∈ wsX6_clear := by decide +kernel
  have hinX6 : ∀ w ∈ wsX60, w ∈ wsX6_clear := by decide +kernel
  have hS : va_S (aE rd) s.heap s.heap [] := va_S.rf
  have hP : va_P D vwCl [(rd, .inr (2, [.ref ht1, .ref ln, .int (nI k)]))] s.heap := hP0.sub [0] rfl
  have hD : va_D (aE rd) [(rd, .inr (2, [.ref ht1, .ref ln, .int (nI k)]))] := D_1 rfl
  have hR0 : va_P D vwCl [(o, .inr (5, [.ref ha, .ref st, .ref ca, .ref bx, .ref rd]))] s.heap := hP0.sub [1] rfl
  have hR := hR0
  have hnr : ∀ (k9 : Nat) (q : Nat × va_E), ([(o, .inr (5, [.ref ha, .ref st, .ref ca, .ref bx, .ref rd]))] : va_W)[k9]? = some q → ¬ (aE rd) q.1 := nn_1 hno nn_0
  have hl := lv_entry ([.ref o]) (n := 2) (Nat.le_of_ble_eq_true rfl)
  rw [lg_entry_eq]
  generalize (lg_sl ([.ref o]) ++ List.replicate (2 - (lg_sl ([.ref o])).length) Slot.unset).toArray = ls at hl ⊢
  have hl : lv_has ls 2 [(0, .ref o)] := hl
  skip
  refine lv_aload_n hx hb dX6_clear_0 rfl (lv_at hl 0 rfl) ?_
  refine va_get (D := D) (ci := 5) (v := .ref rd) (C := RX6) (T := TX6) (N := 5) hx hb hts hinX6 hown hw.1 hR 0 rfl rfl 4 (by decide) (hts (.fieldLink RX6 39 "WheelSwing" "readings" "LWheelSwing$Readings;") (by decide +kernel)) (fun _ h9 => h9) rfl dX6_clear_1 ?_
  refine va_getN (host := "WheelSwing") (D := D) (ci := 2) (v := .int (nI k)) (C := RX3) (T := TX3) (N := 3) hx hb hts hinX3 hown hw.1 hP 0 rfl rfl 2 (by decide) (va_Nw.use rfl (hw.2 (.fieldLinkNest RX6 136 "WheelSwing$Readings" "size" "I" "WheelSwing") (by decide +kernel))) (fun _ h9 => h9) rfl dX6_clear_4 ?_
  refine lv_istore_n (lv' := [(1, .int (nI k)), (0, .ref o)]) hx hb dX6_clear_7 rfl hl (by decide) rfl (fun ls hl => ?_)
  refine lv_aload_n hx hb dX6_clear_8 rfl (lv_at hl 1 rfl) ?_
  refine va_get (D := D) (ci := 5) (v := .ref rd) (C := RX6) (T := TX6) (N := 5) hx hb hts hinX6 hown hw.1 hR 0 rfl rfl 4 (by decide) (hts (.fieldLink RX6 39 "WheelSwing" "readings" "LWheelSwing$Readings;") (by decide +kernel)) (fun _ h9 => h9) rfl dX6_clear_9 ?_
  refine lv_iconst (v := 0) hx hb dX6_clear_12 (by decide) ?_
  refine va_putN (host := "WheelSwing") (D := D) (ci := 2) (v := .int 0) (ty := .int) (C := RX3) (T := TX3) (N := 3) hx hb hts hinX3 tyX3 tyX3_ok nmX3 hown hw.1 hP hD hS 0 rfl rfl 2 (by decide) (va_Nw.use rfl (hw.2 (.fieldLinkNest RX6 136 "WheelSwing$Readings" "size" "I" "WheelSwing") (by decide +kernel))) (fun _ h9 => h9) rfl (by decide +kernel) rfl rfl (Nat.le_of_ble_eq_true rfl) dX6_clear_13 (fun H locs hP hD hS => ?_)
  have hP : va_P D vwCl [(rd, .inr (2, [.ref ht1, .ref ln, .int 0]))] H := hP
  have hD : va_D (aE rd) [(rd, .inr (2, [.ref ht1, .ref ln, .int 0]))] := hD
  have hR := fr_rd hR0 hS hnr
  refine lv_iload_n hx hb dX6_clear_16 rfl (lv_at hl 0 rfl) ?_
  exact W.iret (v := nI k) hx hb hr (fun t ht hW => ⟨⟨nI k, [.ref ht1, .ref ln, .int 0], rfl, ⟨rfl, rfl⟩, at_heap ht (hP 0 _ rfl)⟩, hS.F ht⟩) hS.2.2 dX6_clear_17
theorem w01 {v : Int32} (h : isW v 0 1 = true) (h0 : ¬ v = 0) : v = 1 := by
  obtain ⟨h1, h2⟩ := isW_i h
  have e0 : (0 : Int32).toInt = 0 := rfl
  have e1 : (1 : Int32).toInt = 1 := rfl
  have h3 : v.toInt ≠ 0 := fun hc => h0 (i_eq hc)
  exact i_eq (by omega)
theorem w01f {v : Int32} (h : isW v 0 1 = false) : ¬ v = 0 ∧ ¬ v = 1 := by
  refine ⟨?_, ?_⟩ <;> intro hc <;> subst hc <;> exact absurd h (by decide)
set_option maxHeartbeats 4000000 in
set_option maxRecDepth 100000 in
theorem mX6_count (l : Launch) (D : va_G) (cI cH : ClassId) (o ha st ca bx rd : Nat) (th k ht1 ln k2 : Nat) (wt : Int32)  : Met l yX6_count wsX6_count ({ frames := 1, cells := 0, slots := 0, locals := 22 }) (va_Pc [.ref o, .int wt] (kB D cI cH [(o, .inr (5, [.ref ha, .ref st, .ref ca, .ref bx, .ref rd])), (bx, .inr (3, [.ref th, .int (nI k)])), (rd, .inr (2, [.ref ht1, .ref ln, .int (nI k2)]))])) (va_Qi (fun (r : Int32) (u : Unit) => r = cntF wt (nI k) (nI k2)) (fun _ _ => True) nA) 0 0 nA := by
  refine Met.ofW (cc := cX6_count) (maxL := 2) (ret := (some .int)) (by decide) rfl ?_
  intro p e s m args below meth co s₁ B hml hv
  obtain ⟨rfl, hP0, hw⟩ := hv
  have hx := B.exec
  have hb := B.bytes
  have hr := B.returns
  have hts := atoms_spec (ws := wsX6_count) B.pre
  have hown : s.vm.findClass RX6 = some m.cls := findClass_of_methodNamed B.named
  have hlocks := B.notSynchronized
  have hinX3 : ∀ w ∈ wsX30, w ∈ wsX6_count := by decide +kernel
  have hinX4 : ∀ w ∈ wsX40, w ∈ wsX6_count := by decide +kernel
  have hinX6 : ∀ w ∈ wsX60, w ∈ wsX6_count := by decide +kernel
  have hS : va_S nA s.heap s.heap [] := va_S.rf
  have hR0 : va_P D vwCl [(o, .inr (5, [.ref ha, .ref st, .ref ca, .ref bx, .ref rd])), (bx, .inr (3, [.ref th, .int (nI k)])), (rd, .inr (2, [.ref ht1, .ref ln, .int (nI k2)]))] s.heap := hP0.sub [0, 1, 2] rfl
  have hR := hR0
  have hnr : ∀ (k9 : Nat) (q : Nat × va_E), ([(o, .inr (5, [.ref ha, .ref st, .ref ca, .ref bx, .ref rd])), (bx, .inr (3, [.ref th, .int (nI k)])), (rd, .inr (2, [.ref ht1, .ref ln, .int (nI k2)]))] : va_W)[k9]? = some q → ¬ nA q.1 := fr_nA
  have hl := lv_entry ([.ref o, .int wt]) (n := 2) (Nat.le_of_ble_eq_true rfl)
  rw [lg_entry_eq]
  generalize (lg_sl ([.ref o, .int wt]) ++ List.replicate (2 - (lg_sl ([.ref o, .int wt])).length) Slot.unset).toArray = ls at hl ⊢
  have hl : lv_has ls 2 [(0, .ref o), (1, .int wt)] := hl
  skip
  refine lv_iload_n hx hb dX6_count_0 rfl (lv_at hl 1 rfl) ?_
  refine lv_iconst (v := 0) hx hb dX6_count_1 (by decide) ?_
  refine lv_iconst (v := 1) hx hb dX6_count_2 (by decide) ?_
  refine va_calli (va_runS (As := [.int wt, .int 0, .int 1]) (rest := []) ⟨hx, hb, hml, hown, hts⟩ (mX6_isWithin l wt 0 1) (va_cwS 3 hts gX6_count_X6_isWithin rfl rfl rfl (by decide +kernel) ⟨Nat.le_of_ble_eq_true rfl, Nat.le_of_ble_eq_true rfl⟩) ⟨tB_blind, tB_go⟩ rfl rfl hl.1 rfl (lv_room (Nat.le_of_ble_eq_true rfl)) dX6_count_3 ⟨Nat.le_of_ble_eq_true rfl, Nat.le_of_ble_eq_true rfl⟩) hS (fun q _ h => h.elim) (fun q h => h.elim) (fun r1 u2 t H locs ht hvm hp3 hB hz1 hk1 hS => ?_)
  have hR := fr_rd hR0 hS hnr
  subst hp3
  refine lv_if_ne (tgt := 12) hx hb dX6_count_6 (by decide) (fun c4 => ?_) (fun c4 => ?_)
  · have c4 := bI_n.mp c4
    refine lv_iload_n hx hb dX6_count_12 rfl (lv_at hl 1 rfl) ?_
    refine lv_if_ne (tgt := 26) hx hb dX6_count_13 (by decide) (fun c5 => ?_) (fun c5 => ?_)
    · refine lv_aload_n hx hb dX6_count_26 rfl (lv_at hl 0 rfl) ?_
      refine va_get (D := D) (ci := 5) (v := .ref rd) (C := RX6) (T := TX6) (N := 5) hx hb hts hinX6 hown hw.1 hR 0 rfl rfl 4 (by decide) (hts (.fieldLink RX6 39 "WheelSwing" "readings" "LWheelSwing$Readings;") (by decide +kernel)) (fun _ h9 => h9) rfl dX6_count_27 ?_
      refine va_getN (host := "WheelSwing") (D := D) (ci := 2) (v := .int (nI k2)) (C := RX3) (T := TX3) (N := 3) hx hb hts hinX3 hown hw.1 hR 2 rfl rfl 2 (by decide) (va_Nw.use rfl (hw.2 (.fieldLinkNest RX6 136 "WheelSwing$Readings" "size" "I" "WheelSwing") (by decide +kernel))) (fun _ h9 => h9) rfl dX6_count_30 ?_
      exact W.iret (v := nI k2) hx hb hr (fun t ht hW => ⟨⟨nI k2, (), rfl, (by unfold cntF; rw [if_neg c5, if_pos (w01 c4 c5)]), trivial⟩, hS.F ht⟩) hS.2.2 dX6_count_33
    · refine lv_aload_n hx hb dX6_count_16 rfl (lv_at hl 0 rfl) ?_
      refine va_get (D := D) (ci := 5) (v := .ref bx) (C := RX6) (T := TX6) (N := 5) hx hb hts hinX6 hown hw.1 hR 0 rfl rfl 3 (by decide) (hts (.fieldLink RX6 32 "WheelSwing" "shims" "LWheelSwing$ShimBox;") (by decide +kernel)) (fun _ h9 => h9) rfl dX6_count_17 ?_
      refine va_getN (host := "WheelSwing") (D := D) (ci := 3) (v := .int (nI k)) (C := RX4) (T := TX4) (N := 2) hx hb hts hinX4 hown hw.1 hR 1 rfl rfl 1 (by decide) (va_Nw.use rfl (hw.2 (.fieldLinkNest RX6 154 "WheelSwing$ShimBox" "size" "I" "WheelSwing") (by decide +kernel))) (fun _ h9 => h9) rfl dX6_count_20 ?_
      refine lv_goto (tgt := 33) hx hb dX6_count_23 (by decide) ?_
      exact W.iret (v := nI k) hx hb hr (fun t ht hW => ⟨⟨nI k, (), rfl, (by unfold cntF; first | rw [if_pos c5] | rw [if_pos (Decidable.not_not.mp c5)]), trivial⟩, hS.F ht⟩) hS.2.2 dX6_count_33
  · have c4 := bI_e.mp c4
    refine lv_bipush (v := (-2)) hx hb dX6_count_9 (by decide) ?_
    exact W.iret (v := (-2)) hx hb hr (fun t ht hW => ⟨⟨(-2), (), rfl, (by have q9 := w01f c4; unfold cntF; rw [if_neg q9.1, if_neg q9.2]), trivial⟩, hS.F ht⟩) hS.2.2 dX6_count_11
def dig4 (ct cp cr ctr cfs : Int32) (h : Int64) : Int64 := mx (mx (mx (mx h (carL ct cp cr ctr cfs 0)) (carL ct cp cr ctr cfs 1)) (carL ct cp cr ctr cfs 2)) (carL ct cp cr ctr cfs 3)
/-- the digest of all that is told -/
def digF (N : Nat → Int32) (ct cp cr ctr cfs : Int32) (ft : Nat → Int32) (k : Nat) (f1 f2 : Nat → Int32) (k2 : Nat) : Int64 :=
  mxR f1 f2 (mxS ft (dig4 ct cp cr ctr cfs (mxS N (mx (mx 229 (nI k)) (nI k2)) 52)) k) k2
theorem mxH_S (N : Nat → Int32) (h : Int64) (q : Nat) : mxH (mxS N h (13 * q)) (N (13 * q)) (N (13 * q + 1)) (N (13 * q + 4)) (N (13 * q + 2)) (N (13 * q + 3)) (N (13 * q + 5)) (N (13 * q + 6)) (N (13 * q + 7)) (N (13 * q + 8)) (N (13 * q + 9)) (N (13 * q + 10)) (N (13 * q + 11)) (N (13 * q + 12)) = mxS N h (13 * (q + 1)) := rfl
set_option maxHeartbeats 4000000 in
set_option maxRecDepth 100000 in
theorem mX6_digest (l : Launch) (D : va_G) (cI cH : ClassId) (o ha st ca bx rd : Nat) (th k ht1 ln k2 a0 a1 a2 a3 : Nat) (fh : Nat → Option Nat) (N ft f1 f2 : Nat → Int32) (ct cp cr ctr cfs : Int32)  (hk : k ≤ 10) (hk2 : k2 ≤ 12) (hf0 : fh 0 = some a0) (hf1 : fh 1 = some a1) (hf2 : fh 2 = some a2) (hf3 : fh 3 = some a3) : Met l yX6_digest wsX6_digest ({ frames := 2, cells := 0, slots := 0, locals := 47 }) (va_Pc [.ref o] (kB D cI cH [(o, .inr (5, [.ref ha, .ref st, .ref ca, .ref bx, .ref rd])), (ha, .inl (cH, 4, .inr (.inr (.inr (.inr fh))))), (a0, .inr (1, [.int (N 0), .int (N 1), .int (N 4), .int (N 2), .int (N 3), .int (N 5), .int (N 6), .int (N 7), .int (N 8), .int (N 9), .int (N 10), .int (N 11), .int (N 12)])), (a1, .inr (1, [.int (N 13), .int (N 14), .int (N 17), .int (N 15), .int (N 16), .int (N 18), .int (N 19), .int (N 20), .int (N 21), .int (N 22), .int (N 23), .int (N 24), .int (N 25)])), (a2, .inr (1, [.int (N 26), .int (N 27), .int (N 30), .int (N 28), .int (N 29), .int (N 31), .int (N 32), .int (N 33), .int (N 34), .int (N 35), .int (N 36), .int (N 37), .int (N 38)])), (a3, .inr (1, [.int (N 39), .int (N 40), .int (N 43), .int (N 41), .int (N 42), .int (N 44), .int (N 45), .int (N 46), .int (N 47), .int (N 48), .int (N 49), .int (N 50), .int (N 51)])), (ca, .inr (0, [.int ct, .int cp, .int cr, .int ctr, .int cfs])), (bx, .inr (3, [.ref th, .int (nI k)])), (th, .inl (cI, 10, .inl ft)), (rd, .inr (2, [.ref ht1, .ref ln, .int (nI k2)])), (ht1, .inl (cI, 12, .inl f1)), (ln, .inl (cI, 12, .inl f2))])) (va_Ql (fun (r : Int64) (u : Unit) => r = digF N ct cp cr ctr cfs ft k f1 f2 k2) (fun _ _ => True) nA) 0 0 nA := by
  refine Met.ofW (cc := cX6_digest) (maxL := 4) (ret := (some .long)) (by decide) rfl ?_
  intro p e s m args below meth co s₁ B hml hv
  obtain ⟨rfl, hP0, hw⟩ := hv
  have hx := B.exec
  have hb := B.bytes
  have hr := B.returns
  have hts := atoms_spec (ws := wsX6_digest) B.pre
  have hown : s.vm.findClass RX6 = some m.cls := findClass_of_methodNamed B.named
  have hlocks := B.notSynchronized
  have hinX0 : ∀ w ∈ wsX00, w ∈ wsX6_digest := by decide +kernel
  have hinX2 : ∀ w ∈ wsX20, w ∈ wsX6_digest := by decide +kernel
  have hinX3 : ∀ w ∈ wsX30, w ∈ wsX6_digest := by decide +kernel
  have hinX4 : ∀ w ∈ wsX40, w ∈ wsX6_digest := by decide +kernel
  have hinX6 : ∀ w ∈ wsX60, w ∈ wsX6_digest := by decide +kernel
  have hS : va_S nA s.heap s.heap [] := va_S.rf
  have hR0 : va_P D vwCl [(o, .inr (5, [.ref ha, .ref st, .ref ca, .ref bx, .ref rd])), (ha, .inl (cH, 4, .inr (.inr (.inr (.inr fh))))), (a0, .inr (1, [.int (N 0), .int (N 1), .int (N 4), .int (N 2), .int (N 3), .int (N 5), .int (N 6), .int (N 7), .int (N 8), .int (N 9), .int (N 10), .int (N 11), .int (N 12)])), (a1, .inr (1, [.int (N 13), .int (N 14), .int (N 17), .int (N 15), .int (N 16), .int (N 18), .int (N 19), .int (N 20), .int (N 21), .int (N 22), .int (N 23), .int (N 24), .int (N 25)])), (a2, .inr (1, [.int (N 26), .int (N 27), .int (N 30), .int (N 28), .int (N 29), .int (N 31), .int (N 32), .int (N 33), .int (N 34), .int (N 35), .int (N 36), .int (N 37), .int (N 38)])), (a3, .inr (1, [.int (N 39), .int (N 40), .int (N 43), .int (N 41), .int (N 42), .int (N 44), .int (N 45), .int (N 46), .int (N 47), .int (N 48), .int (N 49), .int (N 50), .int (N 51)])), (ca, .inr (0, [.int ct, .int cp, .int cr, .int ctr, .int cfs])), (bx, .inr (3, [.ref th, .int (nI k)])), (th, .inl (cI, 10, .inl ft)), (rd, .inr (2, [.ref ht1, .ref ln, .int (nI k2)])), (ht1, .inl (cI, 12, .inl f1)), (ln, .inl (cI, 12, .inl f2))] s.heap := hP0.sub [0, 1, 2, 3, 4, 5, 6, 7, 8, 9, 10, 11] rfl
  have hR := hR0
  have hnr : ∀ (k9 : Nat) (q : Nat × va_E), ([(o, .inr (5, [.ref ha, .ref st, .ref ca, .ref bx, .ref rd])), (ha, .inl (cH, 4, .inr (.inr (.inr (.inr fh))))), (a0, .inr (1, [.int (N 0), .int (N 1), .int (N 4), .int (N 2), .int (N 3), .int (N 5), .int (N 6), .int (N 7), .int (N 8), .int (N 9), .int (N 10), .int (N 11), .int (N 12)])), (a1, .inr (1, [.int (N 13), .int (N 14), .int (N 17), .int (N 15), .int (N 16), .int (N 18), .int (N 19), .int (N 20), .int (N 21), .int (N 22), .int (N 23), .int (N 24), .int (N 25)])), (a2, .inr (1, [.int (N 26), .int (N 27), .int (N 30), .int (N 28), .int (N 29), .int (N 31), .int (N 32), .int (N 33), .int (N 34), .int (N 35), .int (N 36), .int (N 37), .int (N 38)])), (a3, .inr (1, [.int (N 39), .int (N 40), .int (N 43), .int (N 41), .int (N 42), .int (N 44), .int (N 45), .int (N 46), .int (N 47), .int (N 48), .int (N 49), .int (N 50), .int (N 51)])), (ca, .inr (0, [.int ct, .int cp, .int cr, .int ctr, .int cfs])), (bx, .inr (3, [.ref th, .int (nI k)])), (th, .inl (cI, 10, .inl ft)), (rd, .inr (2, [.ref ht1, .ref ln, .int (nI k2)])), (ht1, .inl (cI, 12, .inl f1)), (ln, .inl (cI, 12, .inl f2))] : va_W)[k9]? = some q → ¬ nA q.1 := fr_nA
  have hl := lv_entry ([.ref o]) (n := 4) (Nat.le_of_ble_eq_true rfl)
  rw [lg_entry_eq]
  generalize (lg_sl ([.ref o]) ++ List.replicate (4 - (lg_sl ([.ref o])).length) Slot.unset).toArray = ls at hl ⊢
  have hl : lv_has ls 4 [(0, .ref o)] := hl
  skip
  refine lv_ldc2 hx hb hown (hts (.constantLong RX6 155 (229)) (by decide +kernel)) dX6_digest_0 ?_
  refine lv_aload_n hx hb dX6_digest_3 rfl (lv_at hl 0 rfl) ?_
  refine va_get (D := D) (ci := 5) (v := .ref bx) (C := RX6) (T := TX6) (N := 5) hx hb hts hinX6 hown hw.1 hR 0 rfl rfl 3 (by decide) (hts (.fieldLink RX6 32 "WheelSwing" "shims" "LWheelSwing$ShimBox;") (by decide +kernel)) (fun _ h9 => h9) rfl dX6_digest_4 ?_
  refine va_getN (host := "WheelSwing") (D := D) (ci := 3) (v := .int (nI k)) (C := RX4) (T := TX4) (N := 2) hx hb hts hinX4 hown hw.1 hR 7 rfl rfl 1 (by decide) (va_Nw.use rfl (hw.2 (.fieldLinkNest RX6 154 "WheelSwing$ShimBox" "size" "I" "WheelSwing") (by decide +kernel))) (fun _ h9 => h9) rfl dX6_digest_7 ?_
  refine va_calll (va_runS (As := [.long 229, .int (nI k)]) (rest := []) ⟨hx, hb, hml, hown, hts⟩ (mX6_mix l 229 (nI k)) (va_cwS 2 hts gX6_digest_X6_mix rfl rfl rfl (by decide +kernel) ⟨Nat.le_of_ble_eq_true rfl, Nat.le_of_ble_eq_true rfl⟩) ⟨tB_blind, tB_go⟩ rfl rfl hl.1 rfl (lv_room (Nat.le_of_ble_eq_true rfl)) dX6_digest_10 ⟨Nat.le_of_ble_eq_true rfl, Nat.le_of_ble_eq_true rfl⟩) hS (fun q _ h => h.elim) (fun q h => h.elim) (fun r1 u2 t H locs ht hvm hp3 hB hz1 hk1 hS => ?_)
  have hR := fr_rd hR0 hS hnr
  have hp3 : r1 = mx 229 (nI k) := hp3
  subst hp3
  refine lv_aload_n hx hb dX6_digest_13 rfl (lv_at hl 0 rfl) ?_
  refine va_get (D := D) (ci := 5) (v := .ref rd) (C := RX6) (T := TX6) (N := 5) hx hb hts hinX6 hown hw.1 hR 0 rfl rfl 4 (by decide) (hts (.fieldLink RX6 39 "WheelSwing" "readings" "LWheelSwing$Readings;") (by decide +kernel)) (fun _ h9 => h9) rfl dX6_digest_14 ?_
  refine va_getN (host := "WheelSwing") (D := D) (ci := 2) (v := .int (nI k2)) (C := RX3) (T := TX3) (N := 3) hx hb hts hinX3 hown hw.1 hR 9 rfl rfl 2 (by decide) (va_Nw.use rfl (hw.2 (.fieldLinkNest RX6 136 "WheelSwing$Readings" "size" "I" "WheelSwing") (by decide +kernel))) (fun _ h9 => h9) rfl dX6_digest_17 ?_
  refine va_calll (va_runS (As := [.long (mx 229 (nI k)), .int (nI k2)]) (rest := []) ⟨hx, hb, hml, hown, hts⟩ (mX6_mix l (mx 229 (nI k)) (nI k2)) (va_cwS 2 hts gX6_digest_X6_mix rfl rfl rfl (by decide +kernel) ⟨Nat.le_of_ble_eq_true rfl, Nat.le_of_ble_eq_true rfl⟩) ⟨tB_blind, tB_go⟩ rfl rfl hl.1 rfl (lv_room (Nat.le_of_ble_eq_true rfl)) dX6_digest_20 ⟨Nat.le_of_ble_eq_true rfl, Nat.le_of_ble_eq_true rfl⟩) hS (fun q _ h => h.elim) (fun q h => h.elim) (fun r4 u5 t H locs ht hvm hp6 hB hz1 hk1 hS => ?_)
  have hR := fr_rd hR0 hS hnr
  have hp6 : r4 = mx (mx 229 (nI k)) (nI k2) := hp6
  subst hp6
  refine lv_lstore_n (lv' := [(1, .long (mx (mx 229 (nI k)) (nI k2))), (0, .ref o)]) hx hb dX6_digest_23 rfl hl (by decide) rfl (fun ls hl => ?_)
  refine lv_iconst (v := 0) hx hb dX6_digest_24 (by decide) ?_
  refine lv_istore_n (lv' := [(3, .int 0), (1, .long (mx (mx 229 (nI k)) (nI k2))), (0, .ref o)]) hx hb dX6_digest_25 rfl hl (by decide) rfl (fun ls hl => ?_)
  refine lv_iload_n hx hb dX6_digest_26 rfl (lv_at hl 0 rfl) ?_
  refine lv_aload_n hx hb dX6_digest_27 rfl (lv_at hl 2 rfl) ?_
  refine va_get (D := D) (ci := 5) (v := .ref ha) (C := RX6) (T := TX6) (N := 5) hx hb hts hinX6 hown hw.1 hR 0 rfl rfl 0 (by decide) (hts (.fieldLink RX6 11 "WheelSwing" "hangings" "[LWheelSwing$Hanging;") (by decide +kernel)) (fun _ h9 => h9) rfl dX6_digest_28 ?_
  refine va_alen (v := 4) hx hb hw.1 hR 1 1 rfl rfl (show Int32.ofNat 4 = 4 by decide) dX6_digest_31 ?_
  refine lv_icmp_ge (tgt := 52) hx hb dX6_digest_32 (by decide) (fun c8 => absurd c8 (by decide)) (fun _ => ?_)
  refine lv_aload_n hx hb dX6_digest_35 rfl (lv_at hl 2 rfl) ?_
  refine va_get (D := D) (ci := 5) (v := .ref ha) (C := RX6) (T := TX6) (N := 5) hx hb hts hinX6 hown hw.1 hR 0 rfl rfl 0 (by decide) (hts (.fieldLink RX6 11 "WheelSwing" "hangings" "[LWheelSwing$Hanging;") (by decide +kernel)) (fun _ h9 => h9) rfl dX6_digest_36 ?_
  refine lv_iload_n hx hb dX6_digest_39 rfl (lv_at hl 0 rfl) ?_
  refine va_aldq hx hb hw.1 hR 1 1 rfl rfl (show vp_in (nI 0) 4 from vp_in_nI (by decide) (by decide)) dX6_digest_40 ?_
  refine lv_rfs (a := a0) (hf0) ?_
  refine lv_lload_n hx hb dX6_digest_41 rfl (lv_at hl 1 rfl) ?_
  have hq9 : va_P D vwCl [(a0, .inr (1, [.int (N 0), .int (N 1), .int (N 4), .int (N 2), .int (N 3), .int (N 5), .int (N 6), .int (N 7), .int (N 8), .int (N 9), .int (N 10), .int (N 11), .int (N 12)]))] H := hR.sub [2] rfl
  refine va_calll (va_runVN (As := [.long (mx (mx 229 (nI k)) (nI k2))]) (rest := []) ⟨hx, hb, hml, hown, hts⟩ (mX2_mixInto l D cI cH a0 (N 0) (N 1) (N 4) (N 2) (N 3) (N 5) (N 6) (N 7) (N 8) (N 9) (N 10) (N 11) (N 12) (mx (mx 229 (nI k)) (nI k2))) (⟨va_cnB 1 hts gX6_digest_X2_mixInto_n161 rfl rfl rfl (hw.2 (.methodLinkNest RX6 161 yX2_mixInto "WheelSwing") (by decide +kernel)) (hts (.initialized RX2) (by decide +kernel)) (by decide +kernel) ⟨Nat.le_of_ble_eq_true rfl, Nat.le_of_ble_eq_true rfl⟩, hts (.instanceMethod yX2_mixInto) (by decide +kernel), hts (.selects RX2 yX2_mixInto yX2_mixInto) (by decide +kernel)⟩) ⟨kB_blind, va_recv hw.1 hq9 (ci := 1) (q0 := 0) rfl rfl, kB_go hq9 hw⟩ rfl rfl hl.1 rfl (lv_room (Nat.le_of_ble_eq_true rfl)) dX6_digest_42 ⟨Nat.le_of_ble_eq_true rfl, Nat.le_of_ble_eq_true rfl⟩) hS (fun q _ h => h.elim) (fun q h => h.elim) (fun r10 u11 t H locs ht hvm hp12 hB hz1 hk1 hS => ?_)
  have hR := fr_rd hR0 hS hnr
  subst hp12
  refine lv_lstore_n (lv' := [(1, .long (mxH (mx (mx 229 (nI k)) (nI k2)) (N 0) (N 1) (N 4) (N 2) (N 3) (N 5) (N 6) (N 7) (N 8) (N 9) (N 10) (N 11) (N 12))), (3, .int 0), (0, .ref o)]) hx hb dX6_digest_45 rfl hl (by decide) rfl (fun ls hl => ?_)
  refine lv_iinc (v := 1) (lv' := [(3, .int 1), (1, .long (mxH (mx (mx 229 (nI k)) (nI k2)) (N 0) (N 1) (N 4) (N 2) (N 3) (N 5) (N 6) (N 7) (N 8) (N 9) (N 10) (N 11) (N 12))), (0, .ref o)]) hx hb dX6_digest_46 hl (k := 1) rfl (by decide) (by decide) rfl (fun ls hl => ?_)
  refine lv_goto (tgt := 26) hx hb dX6_digest_49 (by decide) ?_
  refine lv_iload_n hx hb dX6_digest_26 rfl (lv_at hl 0 rfl) ?_
  refine lv_aload_n hx hb dX6_digest_27 rfl (lv_at hl 2 rfl) ?_
  refine va_get (D := D) (ci := 5) (v := .ref ha) (C := RX6) (T := TX6) (N := 5) hx hb hts hinX6 hown hw.1 hR 0 rfl rfl 0 (by decide) (hts (.fieldLink RX6 11 "WheelSwing" "hangings" "[LWheelSwing$Hanging;") (by decide +kernel)) (fun _ h9 => h9) rfl dX6_digest_28 ?_
  refine va_alen (v := 4) hx hb hw.1 hR 1 1 rfl rfl (show Int32.ofNat 4 = 4 by decide) dX6_digest_31 ?_
  refine lv_icmp_ge (tgt := 52) hx hb dX6_digest_32 (by decide) (fun c14 => absurd c14 (by decide)) (fun _ => ?_)
  refine lv_aload_n hx hb dX6_digest_35 rfl (lv_at hl 2 rfl) ?_
  refine va_get (D := D) (ci := 5) (v := .ref ha) (C := RX6) (T := TX6) (N := 5) hx hb hts hinX6 hown hw.1 hR 0 rfl rfl 0 (by decide) (hts (.fieldLink RX6 11 "WheelSwing" "hangings" "[LWheelSwing$Hanging;") (by decide +kernel)) (fun _ h9 => h9) rfl dX6_digest_36 ?_
  refine lv_iload_n hx hb dX6_digest_39 rfl (lv_at hl 0 rfl) ?_
  refine va_aldq hx hb hw.1 hR 1 1 rfl rfl (show vp_in (nI 1) 4 from vp_in_nI (by decide) (by decide)) dX6_digest_40 ?_
  refine lv_rfs (a := a1) (hf1) ?_
  refine lv_lload_n hx hb dX6_digest_41 rfl (lv_at hl 1 rfl) ?_
  have hq15 : va_P D vwCl [(a1, .inr (1, [.int (N 13), .int (N 14), .int (N 17), .int (N 15), .int (N 16), .int (N 18), .int (N 19), .int (N 20), .int (N 21), .int (N 22), .int (N 23), .int (N 24), .int (N 25)]))] H := hR.sub [3] rfl
  refine va_calll (va_runVN (As := [.long (mxH (mx (mx 229 (nI k)) (nI k2)) (N 0) (N 1) (N 4) (N 2) (N 3) (N 5) (N 6) (N 7) (N 8) (N 9) (N 10) (N 11) (N 12))]) (rest := []) ⟨hx, hb, hml, hown, hts⟩ (mX2_mixInto l D cI cH a1 (N 13) (N 14) (N 17) (N 15) (N 16) (N 18) (N 19) (N 20) (N 21) (N 22) (N 23) (N 24) (N 25) (mxH (mx (mx 229 (nI k)) (nI k2)) (N 0) (N 1) (N 4) (N 2) (N 3) (N 5) (N 6) (N 7) (N 8) (N 9) (N 10) (N 11) (N 12))) (⟨va_cnB 1 hts gX6_digest_X2_mixInto_n161 rfl rfl rfl (hw.2 (.methodLinkNest RX6 161 yX2_mixInto "WheelSwing") (by decide +kernel)) (hts (.initialized RX2) (by decide +kernel)) (by decide +kernel) ⟨Nat.le_of_ble_eq_true rfl, Nat.le_of_ble_eq_true rfl⟩, hts (.instanceMethod yX2_mixInto) (by decide +kernel), hts (.selects RX2 yX2_mixInto yX2_mixInto) (by decide +kernel)⟩) ⟨kB_blind, va_recv hw.1 hq15 (ci := 1) (q0 := 0) rfl rfl, kB_go hq15 hw⟩ rfl rfl hl.1 rfl (lv_room (Nat.le_of_ble_eq_true rfl)) dX6_digest_42 ⟨Nat.le_of_ble_eq_true rfl, Nat.le_of_ble_eq_true rfl⟩) hS (fun q _ h => h.elim) (fun q h => h.elim) (fun r16 u17 t H locs ht hvm hp18 hB hz1 hk1 hS => ?_)
  have hR := fr_rd hR0 hS hnr
  subst hp18
  refine lv_lstore_n (lv' := [(1, .long (mxH (mxH (mx (mx 229 (nI k)) (nI k2)) (N 0) (N 1) (N 4) (N 2) (N 3) (N 5) (N 6) (N 7) (N 8) (N 9) (N 10) (N 11) (N 12)) (N 13) (N 14) (N 17) (N 15) (N 16) (N 18) (N 19) (N 20) (N 21) (N 22) (N 23) (N 24) (N 25))), (3, .int 1), (0, .ref o)]) hx hb dX6_digest_45 rfl hl (by decide) rfl (fun ls hl => ?_)
  refine lv_iinc (v := 2) (lv' := [(3, .int 2), (1, .long (mxH (mxH (mx (mx 229 (nI k)) (nI k2)) (N 0) (N 1) (N 4) (N 2) (N 3) (N 5) (N 6) (N 7) (N 8) (N 9) (N 10) (N 11) (N 12)) (N 13) (N 14) (N 17) (N 15) (N 16) (N 18) (N 19) (N 20) (N 21) (N 22) (N 23) (N 24) (N 25))), (0, .ref o)]) hx hb dX6_digest_46 hl (k := 1) rfl (by decide) (by decide) rfl (fun ls hl => ?_)
  refine lv_goto (tgt := 26) hx hb dX6_digest_49 (by decide) ?_
  refine lv_iload_n hx hb dX6_digest_26 rfl (lv_at hl 0 rfl) ?_
  refine lv_aload_n hx hb dX6_digest_27 rfl (lv_at hl 2 rfl) ?_
  refine va_get (D := D) (ci := 5) (v := .ref ha) (C := RX6) (T := TX6) (N := 5) hx hb hts hinX6 hown hw.1 hR 0 rfl rfl 0 (by decide) (hts (.fieldLink RX6 11 "WheelSwing" "hangings" "[LWheelSwing$Hanging;") (by decide +kernel)) (fun _ h9 => h9) rfl dX6_digest_28 ?_
  refine va_alen (v := 4) hx hb hw.1 hR 1 1 rfl rfl (show Int32.ofNat 4 = 4 by decide) dX6_digest_31 ?_
  refine lv_icmp_ge (tgt := 52) hx hb dX6_digest_32 (by decide) (fun c20 => absurd c20 (by decide)) (fun _ => ?_)
  refine lv_aload_n hx hb dX6_digest_35 rfl (lv_at hl 2 rfl) ?_
  refine va_get (D := D) (ci := 5) (v := .ref ha) (C := RX6) (T := TX6) (N := 5) hx hb hts hinX6 hown hw.1 hR 0 rfl rfl 0 (by decide) (hts (.fieldLink RX6 11 "WheelSwing" "hangings" "[LWheelSwing$Hanging;") (by decide +kernel)) (fun _ h9 => h9) rfl dX6_digest_36 ?_
  refine lv_iload_n hx hb dX6_digest_39 rfl (lv_at hl 0 rfl) ?_
  refine va_aldq hx hb hw.1 hR 1 1 rfl rfl (show vp_in (nI 2) 4 from vp_in_nI (by decide) (by decide)) dX6_digest_40 ?_
  refine lv_rfs (a := a2) (hf2) ?_
  refine lv_lload_n hx hb dX6_digest_41 rfl (lv_at hl 1 rfl) ?_
  have hq21 : va_P D vwCl [(a2, .inr (1, [.int (N 26), .int (N 27), .int (N 30), .int (N 28), .int (N 29), .int (N 31), .int (N 32), .int (N 33), .int (N 34), .int (N 35), .int (N 36), .int (N 37), .int (N 38)]))] H := hR.sub [4] rfl
  refine va_calll (va_runVN (As := [.long (mxH (mxH (mx (mx 229 (nI k)) (nI k2)) (N 0) (N 1) (N 4) (N 2) (N 3) (N 5) (N 6) (N 7) (N 8) (N 9) (N 10) (N 11) (N 12)) (N 13) (N 14) (N 17) (N 15) (N 16) (N 18) (N 19) (N 20) (N 21) (N 22) (N 23) (N 24) (N 25))]) (rest := []) ⟨hx, hb, hml, hown, hts⟩ (mX2_mixInto l D cI cH a2 (N 26) (N 27) (N 30) (N 28) (N 29) (N 31) (N 32) (N 33) (N 34) (N 35) (N 36) (N 37) (N 38) (mxH (mxH (mx (mx 229 (nI k)) (nI k2)) (N 0) (N 1) (N 4) (N 2) (N 3) (N 5) (N 6) (N 7) (N 8) (N 9) (N 10) (N 11) (N 12)) (N 13) (N 14) (N 17) (N 15) (N 16) (N 18) (N 19) (N 20) (N 21) (N 22) (N 23) (N 24) (N 25))) (⟨va_cnB 1 hts gX6_digest_X2_mixInto_n161 rfl rfl rfl (hw.2 (.methodLinkNest RX6 161 yX2_mixInto "WheelSwing") (by decide +kernel)) (hts (.initialized RX2) (by decide +kernel)) (by decide +kernel) ⟨Nat.le_of_ble_eq_true rfl, Nat.le_of_ble_eq_true rfl⟩, hts (.instanceMethod yX2_mixInto) (by decide +kernel), hts (.selects RX2 yX2_mixInto yX2_mixInto) (by decide +kernel)⟩) ⟨kB_blind, va_recv hw.1 hq21 (ci := 1) (q0 := 0) rfl rfl, kB_go hq21 hw⟩ rfl rfl hl.1 rfl (lv_room (Nat.le_of_ble_eq_true rfl)) dX6_digest_42 ⟨Nat.le_of_ble_eq_true rfl, Nat.le_of_ble_eq_true rfl⟩) hS (fun q _ h => h.elim) (fun q h => h.elim) (fun r22 u23 t H locs ht hvm hp24 hB hz1 hk1 hS => ?_)
  have hR := fr_rd hR0 hS hnr
  subst hp24
  refine lv_lstore_n (lv' := [(1, .long (mxH (mxH (mxH (mx (mx 229 (nI k)) (nI k2)) (N 0) (N 1) (N 4) (N 2) (N 3) (N 5) (N 6) (N 7) (N 8) (N 9) (N 10) (N 11) (N 12)) (N 13) (N 14) (N 17) (N 15) (N 16) (N 18) (N 19) (N 20) (N 21) (N 22) (N 23) (N 24) (N 25)) (N 26) (N 27) (N 30) (N 28) (N 29) (N 31) (N 32) (N 33) (N 34) (N 35) (N 36) (N 37) (N 38))), (3, .int 2), (0, .ref o)]) hx hb dX6_digest_45 rfl hl (by decide) rfl (fun ls hl => ?_)
  refine lv_iinc (v := 3) (lv' := [(3, .int 3), (1, .long (mxH (mxH (mxH (mx (mx 229 (nI k)) (nI k2)) (N 0) (N 1) (N 4) (N 2) (N 3) (N 5) (N 6) (N 7) (N 8) (N 9) (N 10) (N 11) (N 12)) (N 13) (N 14) (N 17) (N 15) (N 16) (N 18) (N 19) (N 20) (N 21) (N 22) (N 23) (N 24) (N 25)) (N 26) (N 27) (N 30) (N 28) (N 29) (N 31) (N 32) (N 33) (N 34) (N 35) (N 36) (N 37) (N 38))), (0, .ref o)]) hx hb dX6_digest_46 hl (k := 1) rfl (by decide) (by decide) rfl (fun ls hl => ?_)
  refine lv_goto (tgt := 26) hx hb dX6_digest_49 (by decide) ?_
  refine lv_iload_n hx hb dX6_digest_26 rfl (lv_at hl 0 rfl) ?_
  refine lv_aload_n hx hb dX6_digest_27 rfl (lv_at hl 2 rfl) ?_
  refine va_get (D := D) (ci := 5) (v := .ref ha) (C := RX6) (T := TX6) (N := 5) hx hb hts hinX6 hown hw.1 hR 0 rfl rfl 0 (by decide) (hts (.fieldLink RX6 11 "WheelSwing" "hangings" "[LWheelSwing$Hanging;") (by decide +kernel)) (fun _ h9 => h9) rfl dX6_digest_28 ?_
  refine va_alen (v := 4) hx hb hw.1 hR 1 1 rfl rfl (show Int32.ofNat 4 = 4 by decide) dX6_digest_31 ?_
  refine lv_icmp_ge (tgt := 52) hx hb dX6_digest_32 (by decide) (fun c26 => absurd c26 (by decide)) (fun _ => ?_)
  refine lv_aload_n hx hb dX6_digest_35 rfl (lv_at hl 2 rfl) ?_
  refine va_get (D := D) (ci := 5) (v := .ref ha) (C := RX6) (T := TX6) (N := 5) hx hb hts hinX6 hown hw.1 hR 0 rfl rfl 0 (by decide) (hts (.fieldLink RX6 11 "WheelSwing" "hangings" "[LWheelSwing$Hanging;") (by decide +kernel)) (fun _ h9 => h9) rfl dX6_digest_36 ?_
  refine lv_iload_n hx hb dX6_digest_39 rfl (lv_at hl 0 rfl) ?_
  refine va_aldq hx hb hw.1 hR 1 1 rfl rfl (show vp_in (nI 3) 4 from vp_in_nI (by decide) (by decide)) dX6_digest_40 ?_
  refine lv_rfs (a := a3) (hf3) ?_
  refine lv_lload_n hx hb dX6_digest_41 rfl (lv_at hl 1 rfl) ?_
  have hq27 : va_P D vwCl [(a3, .inr (1, [.int (N 39), .int (N 40), .int (N 43), .int (N 41), .int (N 42), .int (N 44), .int (N 45), .int (N 46), .int (N 47), .int (N 48), .int (N 49), .int (N 50), .int (N 51)]))] H := hR.sub [5] rfl
  refine va_calll (va_runVN (As := [.long (mxH (mxH (mxH (mx (mx 229 (nI k)) (nI k2)) (N 0) (N 1) (N 4) (N 2) (N 3) (N 5) (N 6) (N 7) (N 8) (N 9) (N 10) (N 11) (N 12)) (N 13) (N 14) (N 17) (N 15) (N 16) (N 18) (N 19) (N 20) (N 21) (N 22) (N 23) (N 24) (N 25)) (N 26) (N 27) (N 30) (N 28) (N 29) (N 31) (N 32) (N 33) (N 34) (N 35) (N 36) (N 37) (N 38))]) (rest := []) ⟨hx, hb, hml, hown, hts⟩ (mX2_mixInto l D cI cH a3 (N 39) (N 40) (N 43) (N 41) (N 42) (N 44) (N 45) (N 46) (N 47) (N 48) (N 49) (N 50) (N 51) (mxH (mxH (mxH (mx (mx 229 (nI k)) (nI k2)) (N 0) (N 1) (N 4) (N 2) (N 3) (N 5) (N 6) (N 7) (N 8) (N 9) (N 10) (N 11) (N 12)) (N 13) (N 14) (N 17) (N 15) (N 16) (N 18) (N 19) (N 20) (N 21) (N 22) (N 23) (N 24) (N 25)) (N 26) (N 27) (N 30) (N 28) (N 29) (N 31) (N 32) (N 33) (N 34) (N 35) (N 36) (N 37) (N 38))) (⟨va_cnB 1 hts gX6_digest_X2_mixInto_n161 rfl rfl rfl (hw.2 (.methodLinkNest RX6 161 yX2_mixInto "WheelSwing") (by decide +kernel)) (hts (.initialized RX2) (by decide +kernel)) (by decide +kernel) ⟨Nat.le_of_ble_eq_true rfl, Nat.le_of_ble_eq_true rfl⟩, hts (.instanceMethod yX2_mixInto) (by decide +kernel), hts (.selects RX2 yX2_mixInto yX2_mixInto) (by decide +kernel)⟩) ⟨kB_blind, va_recv hw.1 hq27 (ci := 1) (q0 := 0) rfl rfl, kB_go hq27 hw⟩ rfl rfl hl.1 rfl (lv_room (Nat.le_of_ble_eq_true rfl)) dX6_digest_42 ⟨Nat.le_of_ble_eq_true rfl, Nat.le_of_ble_eq_true rfl⟩) hS (fun q _ h => h.elim) (fun q h => h.elim) (fun r28 u29 t H locs ht hvm hp30 hB hz1 hk1 hS => ?_)
  have hR := fr_rd hR0 hS hnr
  subst hp30
  refine lv_lstore_n (lv' := [(1, .long (mxH (mxH (mxH (mxH (mx (mx 229 (nI k)) (nI k2)) (N 0) (N 1) (N 4) (N 2) (N 3) (N 5) (N 6) (N 7) (N 8) (N 9) (N 10) (N 11) (N 12)) (N 13) (N 14) (N 17) (N 15) (N 16) (N 18) (N 19) (N 20) (N 21) (N 22) (N 23) (N 24) (N 25)) (N 26) (N 27) (N 30) (N 28) (N 29) (N 31) (N 32) (N 33) (N 34) (N 35) (N 36) (N 37) (N 38)) (N 39) (N 40) (N 43) (N 41) (N 42) (N 44) (N 45) (N 46) (N 47) (N 48) (N 49) (N 50) (N 51))), (3, .int 3), (0, .ref o)]) hx hb dX6_digest_45 rfl hl (by decide) rfl (fun ls hl => ?_)
  refine lv_iinc (v := 4) (lv' := [(3, .int 4), (1, .long (mxH (mxH (mxH (mxH (mx (mx 229 (nI k)) (nI k2)) (N 0) (N 1) (N 4) (N 2) (N 3) (N 5) (N 6) (N 7) (N 8) (N 9) (N 10) (N 11) (N 12)) (N 13) (N 14) (N 17) (N 15) (N 16) (N 18) (N 19) (N 20) (N 21) (N 22) (N 23) (N 24) (N 25)) (N 26) (N 27) (N 30) (N 28) (N 29) (N 31) (N 32) (N 33) (N 34) (N 35) (N 36) (N 37) (N 38)) (N 39) (N 40) (N 43) (N 41) (N 42) (N 44) (N 45) (N 46) (N 47) (N 48) (N 49) (N 50) (N 51))), (0, .ref o)]) hx hb dX6_digest_46 hl (k := 1) rfl (by decide) (by decide) rfl (fun ls hl => ?_)
  refine lv_goto (tgt := 26) hx hb dX6_digest_49 (by decide) ?_
  refine lv_iload_n hx hb dX6_digest_26 rfl (lv_at hl 0 rfl) ?_
  refine lv_aload_n hx hb dX6_digest_27 rfl (lv_at hl 2 rfl) ?_
  refine va_get (D := D) (ci := 5) (v := .ref ha) (C := RX6) (T := TX6) (N := 5) hx hb hts hinX6 hown hw.1 hR 0 rfl rfl 0 (by decide) (hts (.fieldLink RX6 11 "WheelSwing" "hangings" "[LWheelSwing$Hanging;") (by decide +kernel)) (fun _ h9 => h9) rfl dX6_digest_28 ?_
  refine va_alen (v := 4) hx hb hw.1 hR 1 1 rfl rfl (show Int32.ofNat 4 = 4 by decide) dX6_digest_31 ?_
  refine lv_icmp_ge (tgt := 52) hx hb dX6_digest_32 (by decide) (fun _ => ?_) (fun c32 => absurd c32 (by decide))
  refine lv_iconst (v := 0) hx hb dX6_digest_52 (by decide) ?_
  refine lv_istore_n (lv' := [(3, .int 0), (1, .long (mxH (mxH (mxH (mxH (mx (mx 229 (nI k)) (nI k2)) (N 0) (N 1) (N 4) (N 2) (N 3) (N 5) (N 6) (N 7) (N 8) (N 9) (N 10) (N 11) (N 12)) (N 13) (N 14) (N 17) (N 15) (N 16) (N 18) (N 19) (N 20) (N 21) (N 22) (N 23) (N 24) (N 25)) (N 26) (N 27) (N 30) (N 28) (N 29) (N 31) (N 32) (N 33) (N 34) (N 35) (N 36) (N 37) (N 38)) (N 39) (N 40) (N 43) (N 41) (N 42) (N 44) (N 45) (N 46) (N 47) (N 48) (N 49) (N 50) (N 51))), (0, .ref o)]) hx hb dX6_digest_53 rfl hl (by decide) rfl (fun ls hl => ?_)
  have hz9 : mxH (mxH (mxH (mxH (mx (mx 229 (nI k)) (nI k2)) (N 0) (N 1) (N 4) (N 2) (N 3) (N 5) (N 6) (N 7) (N 8) (N 9) (N 10) (N 11) (N 12)) (N 13) (N 14) (N 17) (N 15) (N 16) (N 18) (N 19) (N 20) (N 21) (N 22) (N 23) (N 24) (N 25)) (N 26) (N 27) (N 30) (N 28) (N 29) (N 31) (N 32) (N 33) (N 34) (N 35) (N 36) (N 37) (N 38)) (N 39) (N 40) (N 43) (N 41) (N 42) (N 44) (N 45) (N 46) (N 47) (N 48) (N 49) (N 50) (N 51) = mxS N (mx (mx 229 (nI k)) (nI k2)) 52 := ((((congrArg (fun z => mxH (mxH (mxH z (N 13) (N 14) (N 17) (N 15) (N 16) (N 18) (N 19) (N 20) (N 21) (N 22) (N 23) (N 24) (N 25)) (N 26) (N 27) (N 30) (N 28) (N 29) (N 31) (N 32) (N 33) (N 34) (N 35) (N 36) (N 37) (N 38)) (N 39) (N 40) (N 43) (N 41) (N 42) (N 44) (N 45) (N 46) (N 47) (N 48) (N 49) (N 50) (N 51)) (mxH_S N (mx (mx 229 (nI k)) (nI k2)) 0)).trans (congrArg (fun z => mxH (mxH z (N 26) (N 27) (N 30) (N 28) (N 29) (N 31) (N 32) (N 33) (N 34) (N 35) (N 36) (N 37) (N 38)) (N 39) (N 40) (N 43) (N 41) (N 42) (N 44) (N 45) (N 46) (N 47) (N 48) (N 49) (N 50) (N 51)) (mxH_S N (mx (mx 229 (nI k)) (nI k2)) 1))).trans (congrArg (fun z => mxH z (N 39) (N 40) (N 43) (N 41) (N 42) (N 44) (N 45) (N 46) (N 47) (N 48) (N 49) (N 50) (N 51)) (mxH_S N (mx (mx 229 (nI k)) (nI k2)) 2))).trans (mxH_S N (mx (mx 229 (nI k)) (nI k2)) 3))
  rw [hz9] at hl
  refine lv_iload_n hx hb dX6_digest_54 rfl (lv_at hl 0 rfl) ?_
  refine lv_iconst (v := 4) hx hb dX6_digest_55 (by decide) ?_
  refine lv_icmp_ge (tgt := 78) hx hb dX6_digest_56 (by decide) (fun c34 => absurd c34 (by decide)) (fun _ => ?_)
  refine lv_lload_n hx hb dX6_digest_59 rfl (lv_at hl 1 rfl) ?_
  refine lv_aload_n hx hb dX6_digest_60 rfl (lv_at hl 2 rfl) ?_
  refine va_get (D := D) (ci := 5) (v := .ref ca) (C := RX6) (T := TX6) (N := 5) hx hb hts hinX6 hown hw.1 hR 0 rfl rfl 2 (by decide) (hts (.fieldLink RX6 25 "WheelSwing" "car" "LWheelSwing$Car;") (by decide +kernel)) (fun _ h9 => h9) rfl dX6_digest_61 ?_
  refine lv_iload_n hx hb dX6_digest_64 rfl (lv_at hl 0 rfl) ?_
  have hq35 : va_P D vwCl [(ca, .inr (0, [.int ct, .int cp, .int cr, .int ctr, .int cfs]))] H := hR.sub [6] rfl
  refine va_calli (va_runVN (As := [.int 0]) (rest := [.long (mxS N (mx (mx 229 (nI k)) (nI k2)) 52)]) ⟨hx, hb, hml, hown, hts⟩ (mX0_loadOf l D cI cH ca ct cp cr ctr cfs 0) (⟨va_cnB 1 hts gX6_digest_X0_loadOf_n122 rfl rfl rfl (hw.2 (.methodLinkNest RX6 122 yX0_loadOf "WheelSwing") (by decide +kernel)) (hts (.initialized RX0) (by decide +kernel)) (by decide +kernel) ⟨Nat.le_of_ble_eq_true rfl, Nat.le_of_ble_eq_true rfl⟩, hts (.instanceMethod yX0_loadOf) (by decide +kernel), hts (.selects RX0 yX0_loadOf yX0_loadOf) (by decide +kernel)⟩) ⟨kB_blind, va_recv hw.1 hq35 (ci := 0) (q0 := 0) rfl rfl, kB_go hq35 hw⟩ rfl rfl hl.1 rfl (lv_room (Nat.le_of_ble_eq_true rfl)) dX6_digest_65 ⟨Nat.le_of_ble_eq_true rfl, Nat.le_of_ble_eq_true rfl⟩) hS (fun q _ h => h.elim) (fun q h => h.elim) (fun r36 u37 t H locs ht hvm hp38 hB hz1 hk1 hS => ?_)
  have hR := fr_rd hR0 hS hnr
  subst hp38
  refine va_calll (va_runS (As := [.long (mxS N (mx (mx 229 (nI k)) (nI k2)) 52), .int (carL ct cp cr ctr cfs 0)]) (rest := []) ⟨hx, hb, hml, hown, hts⟩ (mX6_mix l (mxS N (mx (mx 229 (nI k)) (nI k2)) 52) (carL ct cp cr ctr cfs 0)) (va_cwS 2 hts gX6_digest_X6_mix rfl rfl rfl (by decide +kernel) ⟨Nat.le_of_ble_eq_true rfl, Nat.le_of_ble_eq_true rfl⟩) ⟨tB_blind, tB_go⟩ rfl rfl hl.1 rfl (lv_room (Nat.le_of_ble_eq_true rfl)) dX6_digest_68 ⟨Nat.le_of_ble_eq_true rfl, Nat.le_of_ble_eq_true rfl⟩) hS (fun q _ h => h.elim) (fun q h => h.elim) (fun r39 u40 t H locs ht hvm hp41 hB hz1 hk1 hS => ?_)
  have hR := fr_rd hR0 hS hnr
  have hp41 : r39 = mx (mxS N (mx (mx 229 (nI k)) (nI k2)) 52) (carL ct cp cr ctr cfs 0) := hp41
  subst hp41
  refine lv_lstore_n (lv' := [(1, .long (mx (mxS N (mx (mx 229 (nI k)) (nI k2)) 52) (carL ct cp cr ctr cfs 0))), (3, .int 0), (0, .ref o)]) hx hb dX6_digest_71 rfl hl (by decide) rfl (fun ls hl => ?_)
  refine lv_iinc (v := 1) (lv' := [(3, .int 1), (1, .long (mx (mxS N (mx (mx 229 (nI k)) (nI k2)) 52) (carL ct cp cr ctr cfs 0))), (0, .ref o)]) hx hb dX6_digest_72 hl (k := 1) rfl (by decide) (by decide) rfl (fun ls hl => ?_)
  refine lv_goto (tgt := 54) hx hb dX6_digest_75 (by decide) ?_
  refine lv_iload_n hx hb dX6_digest_54 rfl (lv_at hl 0 rfl) ?_
  refine lv_iconst (v := 4) hx hb dX6_digest_55 (by decide) ?_
  refine lv_icmp_ge (tgt := 78) hx hb dX6_digest_56 (by decide) (fun c43 => absurd c43 (by decide)) (fun _ => ?_)
  refine lv_lload_n hx hb dX6_digest_59 rfl (lv_at hl 1 rfl) ?_
  refine lv_aload_n hx hb dX6_digest_60 rfl (lv_at hl 2 rfl) ?_
  refine va_get (D := D) (ci := 5) (v := .ref ca) (C := RX6) (T := TX6) (N := 5) hx hb hts hinX6 hown hw.1 hR 0 rfl rfl 2 (by decide) (hts (.fieldLink RX6 25 "WheelSwing" "car" "LWheelSwing$Car;") (by decide +kernel)) (fun _ h9 => h9) rfl dX6_digest_61 ?_
  refine lv_iload_n hx hb dX6_digest_64 rfl (lv_at hl 0 rfl) ?_
  have hq44 : va_P D vwCl [(ca, .inr (0, [.int ct, .int cp, .int cr, .int ctr, .int cfs]))] H := hR.sub [6] rfl
  refine va_calli (va_runVN (As := [.int 1]) (rest := [.long (mx (mxS N (mx (mx 229 (nI k)) (nI k2)) 52) (carL ct cp cr ctr cfs 0))]) ⟨hx, hb, hml, hown, hts⟩ (mX0_loadOf l D cI cH ca ct cp cr ctr cfs 1) (⟨va_cnB 1 hts gX6_digest_X0_loadOf_n122 rfl rfl rfl (hw.2 (.methodLinkNest RX6 122 yX0_loadOf "WheelSwing") (by decide +kernel)) (hts (.initialized RX0) (by decide +kernel)) (by decide +kernel) ⟨Nat.le_of_ble_eq_true rfl, Nat.le_of_ble_eq_true rfl⟩, hts (.instanceMethod yX0_loadOf) (by decide +kernel), hts (.selects RX0 yX0_loadOf yX0_loadOf) (by decide +kernel)⟩) ⟨kB_blind, va_recv hw.1 hq44 (ci := 0) (q0 := 0) rfl rfl, kB_go hq44 hw⟩ rfl rfl hl.1 rfl (lv_room (Nat.le_of_ble_eq_true rfl)) dX6_digest_65 ⟨Nat.le_of_ble_eq_true rfl, Nat.le_of_ble_eq_true rfl⟩) hS (fun q _ h => h.elim) (fun q h => h.elim) (fun r45 u46 t H locs ht hvm hp47 hB hz1 hk1 hS => ?_)
  have hR := fr_rd hR0 hS hnr
  subst hp47
  refine va_calll (va_runS (As := [.long (mx (mxS N (mx (mx 229 (nI k)) (nI k2)) 52) (carL ct cp cr ctr cfs 0)), .int (carL ct cp cr ctr cfs 1)]) (rest := []) ⟨hx, hb, hml, hown, hts⟩ (mX6_mix l (mx (mxS N (mx (mx 229 (nI k)) (nI k2)) 52) (carL ct cp cr ctr cfs 0)) (carL ct cp cr ctr cfs 1)) (va_cwS 2 hts gX6_digest_X6_mix rfl rfl rfl (by decide +kernel) ⟨Nat.le_of_ble_eq_true rfl, Nat.le_of_ble_eq_true rfl⟩) ⟨tB_blind, tB_go⟩ rfl rfl hl.1 rfl (lv_room (Nat.le_of_ble_eq_true rfl)) dX6_digest_68 ⟨Nat.le_of_ble_eq_true rfl, Nat.le_of_ble_eq_true rfl⟩) hS (fun q _ h => h.elim) (fun q h => h.elim) (fun r48 u49 t H locs ht hvm hp50 hB hz1 hk1 hS => ?_)
  have hR := fr_rd hR0 hS hnr
  have hp50 : r48 = mx (mx (mxS N (mx (mx 229 (nI k)) (nI k2)) 52) (carL ct cp cr ctr cfs 0)) (carL ct cp cr ctr cfs 1) := hp50
  subst hp50
  refine lv_lstore_n (lv' := [(1, .long (mx (mx (mxS N (mx (mx 229 (nI k)) (nI k2)) 52) (carL ct cp cr ctr cfs 0)) (carL ct cp cr ctr cfs 1))), (3, .int 1), (0, .ref o)]) hx hb dX6_digest_71 rfl hl (by decide) rfl (fun ls hl => ?_)
  refine lv_iinc (v := 2) (lv' := [(3, .int 2), (1, .long (mx (mx (mxS N (mx (mx 229 (nI k)) (nI k2)) 52) (carL ct cp cr ctr cfs 0)) (carL ct cp cr ctr cfs 1))), (0, .ref o)]) hx hb dX6_digest_72 hl (k := 1) rfl (by decide) (by decide) rfl (fun ls hl => ?_)
  refine lv_goto (tgt := 54) hx hb dX6_digest_75 (by decide) ?_
  refine lv_iload_n hx hb dX6_digest_54 rfl (lv_at hl 0 rfl) ?_
  refine lv_iconst (v := 4) hx hb dX6_digest_55 (by decide) ?_
  refine lv_icmp_ge (tgt := 78) hx hb dX6_digest_56 (by decide) (fun c52 => absurd c52 (by decide)) (fun _ => ?_)
  refine lv_lload_n hx hb dX6_digest_59 rfl (lv_at hl 1 rfl) ?_
  refine lv_aload_n hx hb dX6_digest_60 rfl (lv_at hl 2 rfl) ?_
  refine va_get (D := D) (ci := 5) (v := .ref ca) (C := RX6) (T := TX6) (N := 5) hx hb hts hinX6 hown hw.1 hR 0 rfl rfl 2 (by decide) (hts (.fieldLink RX6 25 "WheelSwing" "car" "LWheelSwing$Car;") (by decide +kernel)) (fun _ h9 => h9) rfl dX6_digest_61 ?_
  refine lv_iload_n hx hb dX6_digest_64 rfl (lv_at hl 0 rfl) ?_
  have hq53 : va_P D vwCl [(ca, .inr (0, [.int ct, .int cp, .int cr, .int ctr, .int cfs]))] H := hR.sub [6] rfl
  refine va_calli (va_runVN (As := [.int 2]) (rest := [.long (mx (mx (mxS N (mx (mx 229 (nI k)) (nI k2)) 52) (carL ct cp cr ctr cfs 0)) (carL ct cp cr ctr cfs 1))]) ⟨hx, hb, hml, hown, hts⟩ (mX0_loadOf l D cI cH ca ct cp cr ctr cfs 2) (⟨va_cnB 1 hts gX6_digest_X0_loadOf_n122 rfl rfl rfl (hw.2 (.methodLinkNest RX6 122 yX0_loadOf "WheelSwing") (by decide +kernel)) (hts (.initialized RX0) (by decide +kernel)) (by decide +kernel) ⟨Nat.le_of_ble_eq_true rfl, Nat.le_of_ble_eq_true rfl⟩, hts (.instanceMethod yX0_loadOf) (by decide +kernel), hts (.selects RX0 yX0_loadOf yX0_loadOf) (by decide +kernel)⟩) ⟨kB_blind, va_recv hw.1 hq53 (ci := 0) (q0 := 0) rfl rfl, kB_go hq53 hw⟩ rfl rfl hl.1 rfl (lv_room (Nat.le_of_ble_eq_true rfl)) dX6_digest_65 ⟨Nat.le_of_ble_eq_true rfl, Nat.le_of_ble_eq_true rfl⟩) hS (fun q _ h => h.elim) (fun q h => h.elim) (fun r54 u55 t H locs ht hvm hp56 hB hz1 hk1 hS => ?_)
  have hR := fr_rd hR0 hS hnr
  subst hp56
  refine va_calll (va_runS (As := [.long (mx (mx (mxS N (mx (mx 229 (nI k)) (nI k2)) 52) (carL ct cp cr ctr cfs 0)) (carL ct cp cr ctr cfs 1)), .int (carL ct cp cr ctr cfs 2)]) (rest := []) ⟨hx, hb, hml, hown, hts⟩ (mX6_mix l (mx (mx (mxS N (mx (mx 229 (nI k)) (nI k2)) 52) (carL ct cp cr ctr cfs 0)) (carL ct cp cr ctr cfs 1)) (carL ct cp cr ctr cfs 2)) (va_cwS 2 hts gX6_digest_X6_mix rfl rfl rfl (by decide +kernel) ⟨Nat.le_of_ble_eq_true rfl, Nat.le_of_ble_eq_true rfl⟩) ⟨tB_blind, tB_go⟩ rfl rfl hl.1 rfl (lv_room (Nat.le_of_ble_eq_true rfl)) dX6_digest_68 ⟨Nat.le_of_ble_eq_true rfl, Nat.le_of_ble_eq_true rfl⟩) hS (fun q _ h => h.elim) (fun q h => h.elim) (fun r57 u58 t H locs ht hvm hp59 hB hz1 hk1 hS => ?_)
  have hR := fr_rd hR0 hS hnr
  have hp59 : r57 = mx (mx (mx (mxS N (mx (mx 229 (nI k)) (nI k2)) 52) (carL ct cp cr ctr cfs 0)) (carL ct cp cr ctr cfs 1)) (carL ct cp cr ctr cfs 2) := hp59
  subst hp59
  refine lv_lstore_n (lv' := [(1, .long (mx (mx (mx (mxS N (mx (mx 229 (nI k)) (nI k2)) 52) (carL ct cp cr ctr cfs 0)) (carL ct cp cr ctr cfs 1)) (carL ct cp cr ctr cfs 2))), (3, .int 2), (0, .ref o)]) hx hb dX6_digest_71 rfl hl (by decide) rfl (fun ls hl => ?_)
  refine lv_iinc (v := 3) (lv' := [(3, .int 3), (1, .long (mx (mx (mx (mxS N (mx (mx 229 (nI k)) (nI k2)) 52) (carL ct cp cr ctr cfs 0)) (carL ct cp cr ctr cfs 1)) (carL ct cp cr ctr cfs 2))), (0, .ref o)]) hx hb dX6_digest_72 hl (k := 1) rfl (by decide) (by decide) rfl (fun ls hl => ?_)
  refine lv_goto (tgt := 54) hx hb dX6_digest_75 (by decide) ?_
  refine lv_iload_n hx hb dX6_digest_54 rfl (lv_at hl 0 rfl) ?_
  refine lv_iconst (v := 4) hx hb dX6_digest_55 (by decide) ?_
  refine lv_icmp_ge (tgt := 78) hx hb dX6_digest_56 (by decide) (fun c61 => absurd c61 (by decide)) (fun _ => ?_)
  refine lv_lload_n hx hb dX6_digest_59 rfl (lv_at hl 1 rfl) ?_
  refine lv_aload_n hx hb dX6_digest_60 rfl (lv_at hl 2 rfl) ?_
  refine va_get (D := D) (ci := 5) (v := .ref ca) (C := RX6) (T := TX6) (N := 5) hx hb hts hinX6 hown hw.1 hR 0 rfl rfl 2 (by decide) (hts (.fieldLink RX6 25 "WheelSwing" "car" "LWheelSwing$Car;") (by decide +kernel)) (fun _ h9 => h9) rfl dX6_digest_61 ?_
  refine lv_iload_n hx hb dX6_digest_64 rfl (lv_at hl 0 rfl) ?_
  have hq62 : va_P D vwCl [(ca, .inr (0, [.int ct, .int cp, .int cr, .int ctr, .int cfs]))] H := hR.sub [6] rfl
  refine va_calli (va_runVN (As := [.int 3]) (rest := [.long (mx (mx (mx (mxS N (mx (mx 229 (nI k)) (nI k2)) 52) (carL ct cp cr ctr cfs 0)) (carL ct cp cr ctr cfs 1)) (carL ct cp cr ctr cfs 2))]) ⟨hx, hb, hml, hown, hts⟩ (mX0_loadOf l D cI cH ca ct cp cr ctr cfs 3) (⟨va_cnB 1 hts gX6_digest_X0_loadOf_n122 rfl rfl rfl (hw.2 (.methodLinkNest RX6 122 yX0_loadOf "WheelSwing") (by decide +kernel)) (hts (.initialized RX0) (by decide +kernel)) (by decide +kernel) ⟨Nat.le_of_ble_eq_true rfl, Nat.le_of_ble_eq_true rfl⟩, hts (.instanceMethod yX0_loadOf) (by decide +kernel), hts (.selects RX0 yX0_loadOf yX0_loadOf) (by decide +kernel)⟩) ⟨kB_blind, va_recv hw.1 hq62 (ci := 0) (q0 := 0) rfl rfl, kB_go hq62 hw⟩ rfl rfl hl.1 rfl (lv_room (Nat.le_of_ble_eq_true rfl)) dX6_digest_65 ⟨Nat.le_of_ble_eq_true rfl, Nat.le_of_ble_eq_true rfl⟩) hS (fun q _ h => h.elim) (fun q h => h.elim) (fun r63 u64 t H locs ht hvm hp65 hB hz1 hk1 hS => ?_)
  have hR := fr_rd hR0 hS hnr
  subst hp65
  refine va_calll (va_runS (As := [.long (mx (mx (mx (mxS N (mx (mx 229 (nI k)) (nI k2)) 52) (carL ct cp cr ctr cfs 0)) (carL ct cp cr ctr cfs 1)) (carL ct cp cr ctr cfs 2)), .int (carL ct cp cr ctr cfs 3)]) (rest := []) ⟨hx, hb, hml, hown, hts⟩ (mX6_mix l (mx (mx (mx (mxS N (mx (mx 229 (nI k)) (nI k2)) 52) (carL ct cp cr ctr cfs 0)) (carL ct cp cr ctr cfs 1)) (carL ct cp cr ctr cfs 2)) (carL ct cp cr ctr cfs 3)) (va_cwS 2 hts gX6_digest_X6_mix rfl rfl rfl (by decide +kernel) ⟨Nat.le_of_ble_eq_true rfl, Nat.le_of_ble_eq_true rfl⟩) ⟨tB_blind, tB_go⟩ rfl rfl hl.1 rfl (lv_room (Nat.le_of_ble_eq_true rfl)) dX6_digest_68 ⟨Nat.le_of_ble_eq_true rfl, Nat.le_of_ble_eq_true rfl⟩) hS (fun q _ h => h.elim) (fun q h => h.elim) (fun r66 u67 t H locs ht hvm hp68 hB hz1 hk1 hS => ?_)
  have hR := fr_rd hR0 hS hnr
  have hp68 : r66 = mx (mx (mx (mx (mxS N (mx (mx 229 (nI k)) (nI k2)) 52) (carL ct cp cr ctr cfs 0)) (carL ct cp cr ctr cfs 1)) (carL ct cp cr ctr cfs 2)) (carL ct cp cr ctr cfs 3) := hp68
  subst hp68
  refine lv_lstore_n (lv' := [(1, .long (mx (mx (mx (mx (mxS N (mx (mx 229 (nI k)) (nI k2)) 52) (carL ct cp cr ctr cfs 0)) (carL ct cp cr ctr cfs 1)) (carL ct cp cr ctr cfs 2)) (carL ct cp cr ctr cfs 3))), (3, .int 3), (0, .ref o)]) hx hb dX6_digest_71 rfl hl (by decide) rfl (fun ls hl => ?_)
  refine lv_iinc (v := 4) (lv' := [(3, .int 4), (1, .long (mx (mx (mx (mx (mxS N (mx (mx 229 (nI k)) (nI k2)) 52) (carL ct cp cr ctr cfs 0)) (carL ct cp cr ctr cfs 1)) (carL ct cp cr ctr cfs 2)) (carL ct cp cr ctr cfs 3))), (0, .ref o)]) hx hb dX6_digest_72 hl (k := 1) rfl (by decide) (by decide) rfl (fun ls hl => ?_)
  refine lv_goto (tgt := 54) hx hb dX6_digest_75 (by decide) ?_
  refine lv_iload_n hx hb dX6_digest_54 rfl (lv_at hl 0 rfl) ?_
  refine lv_iconst (v := 4) hx hb dX6_digest_55 (by decide) ?_
  refine lv_icmp_ge (tgt := 78) hx hb dX6_digest_56 (by decide) (fun _ => ?_) (fun c70 => absurd c70 (by decide))
  refine lv_aload_n hx hb dX6_digest_78 rfl (lv_at hl 2 rfl) ?_
  refine va_get (D := D) (ci := 5) (v := .ref rd) (C := RX6) (T := TX6) (N := 5) hx hb hts hinX6 hown hw.1 hR 0 rfl rfl 4 (by decide) (hts (.fieldLink RX6 39 "WheelSwing" "readings" "LWheelSwing$Readings;") (by decide +kernel)) (fun _ h9 => h9) rfl dX6_digest_79 ?_
  refine lv_aload_n hx hb dX6_digest_82 rfl (lv_at hl 2 rfl) ?_
  refine va_get (D := D) (ci := 5) (v := .ref bx) (C := RX6) (T := TX6) (N := 5) hx hb hts hinX6 hown hw.1 hR 0 rfl rfl 3 (by decide) (hts (.fieldLink RX6 32 "WheelSwing" "shims" "LWheelSwing$ShimBox;") (by decide +kernel)) (fun _ h9 => h9) rfl dX6_digest_83 ?_
  refine lv_lload_n hx hb dX6_digest_86 rfl (lv_at hl 1 rfl) ?_
  have hq71 : va_P D vwCl [(bx, .inr (3, [.ref th, .int (nI k)])), (th, .inl (cI, 10, .inl ft))] H := hR.sub [7, 8] rfl
  refine va_calll (va_runVN (As := [.long (mx (mx (mx (mx (mxS N (mx (mx 229 (nI k)) (nI k2)) 52) (carL ct cp cr ctr cfs 0)) (carL ct cp cr ctr cfs 1)) (carL ct cp cr ctr cfs 2)) (carL ct cp cr ctr cfs 3))]) (rest := [.ref rd]) ⟨hx, hb, hml, hown, hts⟩ (mX4_mixInto l D cI cH bx th k ft (mx (mx (mx (mx (mxS N (mx (mx 229 (nI k)) (nI k2)) 52) (carL ct cp cr ctr cfs 0)) (carL ct cp cr ctr cfs 1)) (carL ct cp cr ctr cfs 2)) (carL ct cp cr ctr cfs 3)) hk) (⟨va_cnB 1 hts gX6_digest_X4_mixInto_n165 rfl rfl rfl (hw.2 (.methodLinkNest RX6 165 yX4_mixInto "WheelSwing") (by decide +kernel)) (hts (.initialized RX4) (by decide +kernel)) (by decide +kernel) ⟨Nat.le_of_ble_eq_true rfl, Nat.le_of_ble_eq_true rfl⟩, hts (.instanceMethod yX4_mixInto) (by decide +kernel), hts (.selects RX4 yX4_mixInto yX4_mixInto) (by decide +kernel)⟩) ⟨kB_blind, va_recv hw.1 hq71 (ci := 3) (q0 := 0) rfl rfl, kB_go hq71 hw⟩ rfl rfl hl.1 rfl (lv_room (Nat.le_of_ble_eq_true rfl)) dX6_digest_87 ⟨Nat.le_of_ble_eq_true rfl, Nat.le_of_ble_eq_true rfl⟩) hS (fun q _ h => h.elim) (fun q h => h.elim) (fun r72 u73 t H locs ht hvm hp74 hB hz1 hk1 hS => ?_)
  have hR := fr_rd hR0 hS hnr
  subst hp74
  have hq75 : va_P D vwCl [(rd, .inr (2, [.ref ht1, .ref ln, .int (nI k2)])), (ht1, .inl (cI, 12, .inl f1)), (ln, .inl (cI, 12, .inl f2))] H := hR.sub [9, 10, 11] rfl
  refine va_calll (va_runVN (As := [.long (mxS ft (mx (mx (mx (mx (mxS N (mx (mx 229 (nI k)) (nI k2)) 52) (carL ct cp cr ctr cfs 0)) (carL ct cp cr ctr cfs 1)) (carL ct cp cr ctr cfs 2)) (carL ct cp cr ctr cfs 3)) k)]) (rest := []) ⟨hx, hb, hml, hown, hts⟩ (mX3_mixInto l D cI cH rd ht1 ln k2 f1 f2 (mxS ft (mx (mx (mx (mx (mxS N (mx (mx 229 (nI k)) (nI k2)) 52) (carL ct cp cr ctr cfs 0)) (carL ct cp cr ctr cfs 1)) (carL ct cp cr ctr cfs 2)) (carL ct cp cr ctr cfs 3)) k) hk2) (⟨va_cnB 1 hts gX6_digest_X3_mixInto_n166 rfl rfl rfl (hw.2 (.methodLinkNest RX6 166 yX3_mixInto "WheelSwing") (by decide +kernel)) (hts (.initialized RX3) (by decide +kernel)) (by decide +kernel) ⟨Nat.le_of_ble_eq_true rfl, Nat.le_of_ble_eq_true rfl⟩, hts (.instanceMethod yX3_mixInto) (by decide +kernel), hts (.selects RX3 yX3_mixInto yX3_mixInto) (by decide +kernel)⟩) ⟨kB_blind, va_recv hw.1 hq75 (ci := 2) (q0 := 0) rfl rfl, kB_go hq75 hw⟩ rfl rfl hl.1 rfl (lv_room (Nat.le_of_ble_eq_true rfl)) dX6_digest_90 ⟨Nat.le_of_ble_eq_true rfl, Nat.le_of_ble_eq_true rfl⟩) hS (fun q _ h => h.elim) (fun q h => h.elim) (fun r76 u77 t H locs ht hvm hp78 hB hz1 hk1 hS => ?_)
  have hR := fr_rd hR0 hS hnr
  subst hp78
  exact W.lret (v := mxR f1 f2 (mxS ft (mx (mx (mx (mx (mxS N (mx (mx 229 (nI k)) (nI k2)) 52) (carL ct cp cr ctr cfs 0)) (carL ct cp cr ctr cfs 1)) (carL ct cp cr ctr cfs 2)) (carL ct cp cr ctr cfs 3)) k) k2) hx hb hr (fun t ht hW => ⟨⟨mxR f1 f2 (mxS ft (mx (mx (mx (mx (mxS N (mx (mx 229 (nI k)) (nI k2)) 52) (carL ct cp cr ctr cfs 0)) (carL ct cp cr ctr cfs 1)) (carL ct cp cr ctr cfs 2)) (carL ct cp cr ctr cfs 3)) k) k2, (), rfl, rfl, trivial⟩, hS.F ht⟩) hS.2.2 dX6_digest_93
