/-! X6: pose, lock, isClear -/
def hgB (ux uy a lx ly b c sd g d sx sy f : Int32) : Prop := cB ux ∧ cB uy ∧ aB a ∧ cB lx ∧ cB ly ∧ aB b ∧ aB c ∧ (sd = 1 ∨ sd = -1) ∧ cB g ∧ cB d ∧ cB sx ∧ cB sy ∧ zB f
theorem isW_i {v lo hi : Int32} (h : isW v lo hi = true) : lo.toInt ≤ v.toInt ∧ v.toInt ≤ hi.toInt := by
  unfold isW at h
  rw [Bool.and_eq_true] at h
  exact ⟨Int32.le_iff_toInt_le.mp (of_decide_eq_true h.1), Int32.le_iff_toInt_le.mp (of_decide_eq_true h.2)⟩
theorem okC_c {v : Int32} (h : okC v = true) : cB v := isW_i h
theorem okH_j {h : Int32} (hh : okH h = true) : ∃ j : Nat, j < 4 ∧ h = nI j := by
  obtain ⟨h1, h2⟩ := isW_i hh
  have e1 : (0 : Int32).toInt = 0 := rfl
  have e2 : (3 : Int32).toInt = 3 := rfl
  refine ⟨h.toInt.toNat, by omega, Int32.toInt_inj.mp ?_⟩
  rw [nI_toInt (by omega)]
  omega
theorem okH_in {h : Int32} (hh : okH h = true) : vp_in h 4 := by
  obtain ⟨j, h1, rfl⟩ := okH_j hh
  exact vp_in_nI h1 (by omega)
theorem i_eq {v w : Int32} (h : v.toInt = w.toInt) : v = w := Int32.toInt_inj.mp h
theorem w_lo {v : Int32} (h : isW v 0 11 = true) (h7 : ¬ 7 ≤ v) : v = 0 ∨ v = 1 ∨ v = 2 ∨ v = 3 ∨ v = 4 ∨ v = 5 ∨ v = 6 := by
  obtain ⟨h1, h2⟩ := isW_i h
  have e1 : (0 : Int32).toInt = 0 := rfl
  have e2 : (7 : Int32).toInt = 7 := rfl
  have h3 : ¬ (7 : Int32).toInt ≤ v.toInt := fun hc => h7 (Int32.le_iff_toInt_le.mpr hc)
  have h4 : v.toInt = 0 ∨ v.toInt = 1 ∨ v.toInt = 2 ∨ v.toInt = 3 ∨ v.toInt = 4 ∨ v.toInt = 5 ∨ v.toInt = 6 := by omega
  rcases h4 with h | h | h | h | h | h | h
  · exact Or.inl (i_eq h)
  · exact Or.inr (Or.inl (i_eq h))
  · exact Or.inr (Or.inr (Or.inl (i_eq h)))
  · exact Or.inr (Or.inr (Or.inr (Or.inl (i_eq h))))
  · exact Or.inr (Or.inr (Or.inr (Or.inr (Or.inl (i_eq h)))))
  · exact Or.inr (Or.inr (Or.inr (Or.inr (Or.inr (Or.inl (i_eq h))))))
  · exact Or.inr (Or.inr (Or.inr (Or.inr (Or.inr (Or.inr (i_eq h))))))
theorem w_hi {v : Int32} (h : isW v 0 11 = true) (h7 : 7 ≤ v) (h11 : ¬ v = 11) : v = 7 ∨ v = 8 ∨ v = 9 ∨ v = 10 := by
  obtain ⟨h1, h2⟩ := isW_i h
  have e1 : (11 : Int32).toInt = 11 := rfl
  have e2 : (7 : Int32).toInt = 7 := rfl
  have h3 := Int32.le_iff_toInt_le.mp h7
  have h5 : v.toInt ≠ 11 := fun hc => h11 (i_eq hc)
  have h4 : v.toInt = 7 ∨ v.toInt = 8 ∨ v.toInt = 9 ∨ v.toInt = 10 := by omega
  rcases h4 with h | h | h | h
  · exact Or.inl (i_eq h)
  · exact Or.inr (Or.inl (i_eq h))
  · exact Or.inr (Or.inr (Or.inl (i_eq h)))
  · exact Or.inr (Or.inr (Or.inr (i_eq h)))
theorem cB_y {v : Int32} (h : cB v) : yB v ∧ yB (v - 1) ∧ yB (v + 1) := by
  obtain ⟨h1, h2⟩ := h
  have e1 : (1 : Int32).toInt = 1 := rfl
  refine ⟨⟨by omega, by omega⟩, ?_, ?_⟩
  · have e := i3_sub (a := v) (b := 1) (by omega) (by omega)
    exact ⟨by omega, by omega⟩
  · have e := i3_add (a := v) (b := 1) (by omega) (by omega)
    exact ⟨by omega, by omega⟩
noncomputable def sPose (ux uy a lx ly b c sd g d sx sy f y wt : Int32) : Int64 :=
  if wt = 11 then sShare ux uy a lx ly b c sx sy f y
  else if bFree ux uy lx ly a b c y then sTel2 ux uy lx ly g d sx sy f (tPx lx ly b y) (FP.i2d y) (tQx ux uy lx ly a b c sd y) (tQy ux uy lx ly a b c sd y) (tVx ux uy lx ly a b c sd y) (tVy ux uy lx ly a b c sd y) wt else -1
def okPose (h y wt : Int32) : Bool := okH h && (okC y && isW wt 0 11)
theorem sPose_11 {ux uy a lx ly b c sd g d sx sy f y wt : Int32} (h : wt = 11) : sPose ux uy a lx ly b c sd g d sx sy f y wt = sShare ux uy a lx ly b c sx sy f y := if_pos h
theorem sPose_t {ux uy a lx ly b c sd g d sx sy f y wt : Int32} (h : ¬ wt = 11) (hf : tFree ux uy lx ly a b c y) : sPose ux uy a lx ly b c sd g d sx sy f y wt = sTel2 ux uy lx ly g d sx sy f (tPx lx ly b y) (FP.i2d y) (tQx ux uy lx ly a b c sd y) (tQy ux uy lx ly a b c sd y) (tVx ux uy lx ly a b c sd y) (tVy ux uy lx ly a b c sd y) wt := by
  unfold sPose
  rw [if_neg h, bFree_t hf, if_pos rfl]
theorem sPose_f {ux uy a lx ly b c sd g d sx sy f y wt : Int32} (h : ¬ wt = 11) (hf : ¬ tFree ux uy lx ly a b c y) : sPose ux uy a lx ly b c sd g d sx sy f y wt = -1 := by
  unfold sPose
  rw [if_neg h, bFree_f hf, if_neg (by decide)]
set_option maxHeartbeats 4000000 in
set_option maxRecDepth 100000 in
theorem mX6_pose (l : Launch) (D : va_G) (cI cH : ClassId) (o ha st ca bx rd hg : Nat) (fh : Nat → Option Nat) (s0 s1 : Int32) (p0 p1 p2 p3 p4 p5 p6 p7 p8 p9 p10 p11 : UInt64) (ux uy a lx ly b c sd g d sx sy f : Int32) (h y wt : Int32)  (hno : o ≠ st) (hna : ha ≠ st) (hne : hg ≠ st) (hgb : hgB ux uy a lx ly b c sd g d sx sy f) (hfh : okH h = true → fh h.toNatClampNeg = some hg) : Met l yX6_pose wsX6_pose ({ frames := 5, cells := 0, slots := 0, locals := 130 }) (va_Pc [.ref o, .int h, .int y, .int wt] (kB D cI cH [(st, .inr (4, [.int s0, .int s1, .double p0, .double p1, .double p2, .double p3, .double p4, .double p5, .double p6, .double p7, .double p8, .double p9, .double p10, .double p11])), (o, .inr (5, [.ref ha, .ref st, .ref ca, .ref bx, .ref rd])), (ha, .inl (cH, 4, .inr (.inr (.inr (.inr fh))))), (hg, .inr (1, [.int ux, .int uy, .int a, .int lx, .int ly, .int b, .int c, .int sd, .int g, .int d, .int sx, .int sy, .int f]))])) (va_Ql (fun (r : Int64) (u : List Value) => r = (if okPose h y wt then sPose ux uy a lx ly b c sd g d sx sy f y wt else -2) ∧ isSt u) (fun u t => va_at D vwCl (st, .inr (4, u)) t.heap) (aE st)) 0 0 (aE st) := by
  refine Met.ofW (cc := cX6_pose) (maxL := 5) (ret := (some .long)) (by decide) rfl ?_
  intro p e s m args below meth co s₁ B hml hv
  obtain ⟨rfl, hP0, hw⟩ := hv
  have hx := B.exec
  have hb := B.bytes
  have hr := B.returns
  have hts := atoms_spec (ws := wsX6_pose) B.pre
  have hown : s.vm.findClass RX6 = some m.cls := findClass_of_methodNamed B.named
  have hlocks := B.notSynchronized
  have hinX2 : ∀ w ∈ wsX20, w ∈ wsX6_pose := by decide +kernel
  have hinX5 : ∀ w ∈ wsX50, w ∈ wsX6_pose := by decide +kernel
  have hinX6 : ∀ w ∈ wsX60, w ∈ wsX6_pose := by decide +kernel
  have hS : va_S (aE st) s.heap s.heap [] := va_S.rf
  have hP : va_P D vwCl [(st, .inr (4, [.int s0, .int s1, .double p0, .double p1, .double p2, .double p3, .double p4, .double p5, .double p6, .double p7, .double p8, .double p9, .double p10, .double p11]))] s.heap := hP0.sub [0] rfl
  have hD : va_D (aE st) [(st, .inr (4, [.int s0, .int s1, .double p0, .double p1, .double p2, .double p3, .double p4, .double p5, .double p6, .double p7, .double p8, .double p9, .double p10, .double p11]))] := D_1 rfl
  have hR0 : va_P D vwCl [(o, .inr (5, [.ref ha, .ref st, .ref ca, .ref bx, .ref rd])), (ha, .inl (cH, 4, .inr (.inr (.inr (.inr fh))))), (hg, .inr (1, [.int ux, .int uy, .int a, .int lx, .int ly, .int b, .int c, .int sd, .int g, .int d, .int sx, .int sy, .int f]))] s.heap := hP0.sub [1, 2, 3] rfl
  have hR := hR0
  have hnr : ∀ (k9 : Nat) (q : Nat × va_E), ([(o, .inr (5, [.ref ha, .ref st, .ref ca, .ref bx, .ref rd])), (ha, .inl (cH, 4, .inr (.inr (.inr (.inr fh))))), (hg, .inr (1, [.int ux, .int uy, .int a, .int lx, .int ly, .int b, .int c, .int sd, .int g, .int d, .int sx, .int sy, .int f]))] : va_W)[k9]? = some q → ¬ (aE st) q.1 := nn_1 hno (nn_1 hna (nn_1 hne nn_0))
  obtain ⟨kux, kuy, ka, klx, kly, kb, kc, hsd, kg, kd, ksx, ksy, kf⟩ := id hgb
  have hl := lv_entry ([.ref o, .int h, .int y, .int wt]) (n := 5) (Nat.le_of_ble_eq_true rfl)
  rw [lg_entry_eq]
  generalize (lg_sl ([.ref o, .int h, .int y, .int wt]) ++ List.replicate (5 - (lg_sl ([.ref o, .int h, .int y, .int wt])).length) Slot.unset).toArray = ls at hl ⊢
  have hl : lv_has ls 5 [(0, .ref o), (1, .int h), (2, .int y), (3, .int wt)] := hl
  skip
  refine lv_iload_n hx hb dX6_pose_0 rfl (lv_at hl 1 rfl) ?_
  refine va_calli (va_runS (As := [.int h]) (rest := []) ⟨hx, hb, hml, hown, hts⟩ (mX6_isHanging l h) (va_cwS 1 hts gX6_pose_X6_isHanging rfl rfl rfl (by decide +kernel) ⟨Nat.le_of_ble_eq_true rfl, Nat.le_of_ble_eq_true rfl⟩) ⟨tB_blind, tB_go⟩ rfl rfl hl.1 rfl (lv_room (Nat.le_of_ble_eq_true rfl)) dX6_pose_1 ⟨Nat.le_of_ble_eq_true rfl, Nat.le_of_ble_eq_true rfl⟩) hS (fun q _ h => h.elim) (fun q h => h.elim) (fun r1 u2 t H locs ht hvm hp3 hB hz1 hk1 hS => ?_)
  have hP := fr_keep hP hk1 fr_nA
  have hR := fr_rd hR0 hS hnr
  subst hp3
  refine lv_if_eq (tgt := 24) hx hb dX6_pose_4 (by decide) (fun c4 => ?_) (fun c4 => ?_)
  · have c4 := bI_e.mp c4
    refine lv_ldc2 hx hb hown (hts (.constantLong RX6 83 (-2)) (by decide +kernel)) dX6_pose_24 ?_
    exact W.lret (v := (-2)) hx hb hr (fun t ht hW => ⟨⟨(-2), [.int s0, .int s1, .double p0, .double p1, .double p2, .double p3, .double p4, .double p5, .double p6, .double p7, .double p8, .double p9, .double p10, .double p11], rfl, ⟨by unfold okPose; simp [c4], ⟨_, _, _, _, _, _, _, _, _, _, _, _, _, _, rfl⟩⟩, at_heap ht (hP 0 _ rfl)⟩, hS.F ht⟩) hS.2.2 dX6_pose_27
  · have c4 := bI_n.mp c4
    refine lv_iload_n hx hb dX6_pose_7 rfl (lv_at hl 2 rfl) ?_
    refine va_calli (va_runS (As := [.int y]) (rest := []) ⟨hx, hb, hml, hown, hts⟩ (mX6_isCoordinate l y) (va_cwS 1 hts gX6_pose_X6_isCoordinate rfl rfl rfl (by decide +kernel) ⟨Nat.le_of_ble_eq_true rfl, Nat.le_of_ble_eq_true rfl⟩) ⟨tB_blind, tB_go⟩ rfl rfl hl.1 rfl (lv_room (Nat.le_of_ble_eq_true rfl)) dX6_pose_8 ⟨Nat.le_of_ble_eq_true rfl, Nat.le_of_ble_eq_true rfl⟩) hS (fun q _ h => h.elim) (fun q h => h.elim) (fun r5 u6 t H locs ht hvm hp7 hB hz1 hk1 hS => ?_)
    have hP := fr_keep hP hk1 fr_nA
    have hR := fr_rd hR0 hS hnr
    subst hp7
    refine lv_if_eq (tgt := 24) hx hb dX6_pose_11 (by decide) (fun c8 => ?_) (fun c8 => ?_)
    · have c8 := bI_e.mp c8
      refine lv_ldc2 hx hb hown (hts (.constantLong RX6 83 (-2)) (by decide +kernel)) dX6_pose_24 ?_
      exact W.lret (v := (-2)) hx hb hr (fun t ht hW => ⟨⟨(-2), [.int s0, .int s1, .double p0, .double p1, .double p2, .double p3, .double p4, .double p5, .double p6, .double p7, .double p8, .double p9, .double p10, .double p11], rfl, ⟨by unfold okPose; simp [c4, c8], ⟨_, _, _, _, _, _, _, _, _, _, _, _, _, _, rfl⟩⟩, at_heap ht (hP 0 _ rfl)⟩, hS.F ht⟩) hS.2.2 dX6_pose_27
    · have c8 := bI_n.mp c8
      refine lv_iload_n hx hb dX6_pose_14 rfl (lv_at hl 3 rfl) ?_
      refine lv_iconst (v := 0) hx hb dX6_pose_15 (by decide) ?_
      refine lv_bipush (v := 11) hx hb dX6_pose_16 (by decide) ?_
      refine va_calli (va_runS (As := [.int wt, .int 0, .int 11]) (rest := []) ⟨hx, hb, hml, hown, hts⟩ (mX6_isWithin l wt 0 11) (va_cwS 3 hts gX6_pose_X6_isWithin rfl rfl rfl (by decide +kernel) ⟨Nat.le_of_ble_eq_true rfl, Nat.le_of_ble_eq_true rfl⟩) ⟨tB_blind, tB_go⟩ rfl rfl hl.1 rfl (lv_room (Nat.le_of_ble_eq_true rfl)) dX6_pose_18 ⟨Nat.le_of_ble_eq_true rfl, Nat.le_of_ble_eq_true rfl⟩) hS (fun q _ h => h.elim) (fun q h => h.elim) (fun r9 u10 t H locs ht hvm hp11 hB hz1 hk1 hS => ?_)
      have hP := fr_keep hP hk1 fr_nA
      have hR := fr_rd hR0 hS hnr
      subst hp11
      refine lv_if_ne (tgt := 28) hx hb dX6_pose_21 (by decide) (fun c12 => ?_) (fun c12 => ?_)
      · have c12 := bI_n.mp c12
        refine lv_aload_n hx hb dX6_pose_28 rfl (lv_at hl 0 rfl) ?_
        refine va_get (D := D) (ci := 5) (v := .ref ha) (C := RX6) (T := TX6) (N := 5) hx hb hts hinX6 hown hw.1 hR 0 rfl rfl 0 (by decide) (hts (.fieldLink RX6 11 "WheelSwing" "hangings" "[LWheelSwing$Hanging;") (by decide +kernel)) (fun _ h9 => h9) rfl dX6_pose_29 ?_
        refine lv_iload_n hx hb dX6_pose_32 rfl (lv_at hl 1 rfl) ?_
        have HOKH := c4
        have HOKY := okC_c c8
        have hh : pB ux uy lx ly a b c y := ⟨kux, kuy, klx, kly, ka, kb, kc, (cB_y HOKY).1⟩
        have hh1 : pB ux uy lx ly a b c (y - 1) := ⟨kux, kuy, klx, kly, ka, kb, kc, (cB_y HOKY).2.1⟩
        have hh2 : pB ux uy lx ly a b c (y + 1) := ⟨kux, kuy, klx, kly, ka, kb, kc, (cB_y HOKY).2.2⟩
        refine va_aldq hx hb hw.1 hR 1 1 rfl rfl (okH_in c4) dX6_pose_33 ?_
        refine lv_rfs (a := hg) (hfh HOKH) ?_
        refine lv_astore (lv' := [(4, .ref hg), (0, .ref o), (1, .int h), (2, .int y), (3, .int wt)]) hx hb dX6_pose_34 hl (by decide) rfl (fun ls hl => ?_)
        refine lv_iload_n hx hb dX6_pose_36 rfl (lv_at hl 4 rfl) ?_
        refine lv_bipush (v := 11) hx hb dX6_pose_37 (by decide) ?_
        refine lv_icmp_ne (tgt := 50) hx hb dX6_pose_39 (by decide) (fun c13 => ?_) (fun c13 => ?_)
        · refine lv_aload_n hx hb dX6_pose_50 rfl (lv_at hl 1 rfl) ?_
          refine va_get (D := D) (ci := 5) (v := .ref st) (C := RX6) (T := TX6) (N := 5) hx hb hts hinX6 hown hw.1 hR 0 rfl rfl 1 (by decide) (hts (.fieldLink RX6 18 "WheelSwing" "stand" "LWheelSwing$Stand;") (by decide +kernel)) (fun _ h9 => h9) rfl dX6_pose_51 ?_
          refine lv_aload hx hb dX6_pose_54 (lv_at hl 0 rfl) ?_
          refine lv_aload hx hb dX6_pose_56 (lv_at hl 0 rfl) ?_
          refine va_getN (host := "WheelSwing") (D := D) (ci := 1) (v := .int ux) (C := RX2) (T := TX2) (N := 13) hx hb hts hinX2 hown hw.1 hR 2 rfl rfl 0 (by decide) (va_Nw.use rfl (hw.2 (.fieldLinkNest RX6 89 "WheelSwing$Hanging" "ux" "I" "WheelSwing") (by decide +kernel))) (fun _ h9 => h9) rfl dX6_pose_58 ?_
          refine lv_aload hx hb dX6_pose_61 (lv_at hl 0 rfl) ?_
          refine va_getN (host := "WheelSwing") (D := D) (ci := 1) (v := .int uy) (C := RX2) (T := TX2) (N := 13) hx hb hts hinX2 hown hw.1 hR 2 rfl rfl 1 (by decide) (va_Nw.use rfl (hw.2 (.fieldLinkNest RX6 93 "WheelSwing$Hanging" "uy" "I" "WheelSwing") (by decide +kernel))) (fun _ h9 => h9) rfl dX6_pose_63 ?_
          refine lv_iload_n hx hb dX6_pose_66 rfl (lv_at hl 3 rfl) ?_
          have hq14 : va_P D vwCl [(st, .inr (4, [.int s0, .int s1, .double p0, .double p1, .double p2, .double p3, .double p4, .double p5, .double p6, .double p7, .double p8, .double p9, .double p10, .double p11])), (hg, .inr (1, [.int ux, .int uy, .int a, .int lx, .int ly, .int b, .int c, .int sd, .int g, .int d, .int sx, .int sy, .int f]))] H := fr_cons (hP 0 _ rfl) (fr_cons (hR 2 _ rfl) (fr_nil))
          refine va_calli (va_runVN (As := [.ref hg, .int ux, .int uy, .int y]) (rest := []) ⟨hx, hb, hml, hown, hts⟩ (mX5_reach l D cI cH st hg s0 s1 p0 p1 p2 p3 p4 p5 p6 p7 p8 p9 p10 p11 ux uy a lx ly b c sd g d sx sy f ux uy y hne hh) (⟨va_cnB 4 hts gX6_pose_X5_reach_n96 rfl rfl rfl (hw.2 (.methodLinkNest RX6 96 yX5_reach "WheelSwing") (by decide +kernel)) (hts (.initialized RX5) (by decide +kernel)) (by decide +kernel) ⟨Nat.le_of_ble_eq_true rfl, Nat.le_of_ble_eq_true rfl⟩, hts (.instanceMethod yX5_reach) (by decide +kernel), hts (.selects RX5 yX5_reach yX5_reach) (by decide +kernel)⟩) ⟨kB_blind, va_recv hw.1 hq14 (ci := 4) (q0 := 0) rfl rfl, kB_go hq14 hw⟩ rfl rfl hl.1 rfl (lv_room (Nat.le_of_ble_eq_true rfl)) dX6_pose_67 ⟨Nat.le_of_ble_eq_true rfl, Nat.le_of_ble_eq_true rfl⟩) hS (fun q _ h => h) (fun q h => h) (fun r15 u16 t H locs ht hvm hp17 hB hz1 hk1 hS => ?_)
          have hB : va_at D vwCl (st, .inr (4, u16)) t.heap := hB
          rw [ht] at hB
          have hP := fr_one hB
          have hR := fr_rd hR0 hS hnr
          rcases hp17 with ⟨rfl, hfA, rfl⟩ | ⟨rfl, hnfA, j18, j19, j20, j21, j22, j23, j24, j25, j26, j27, j28, j29, j30, j31, rfl⟩
          · have h0A := hfA.1
            have heA := hfA.2.1
            have hkA := hfA.2.2
            have hP : va_P D vwCl [(st, .inr (4, [.int ux, .int uy, .double (tPx lx ly b y), .double (FP.i2d y), .double p2, .double p3, .double p4, .double p5, .double p6, .double p7, .double (tDx ux lx ly b y), .double (tDy uy y), .double (tM ux uy lx ly a b c y), .double (tK ux uy lx ly a b c y)]))] H := hP
            have hD : va_D (aE st) [(st, .inr (4, [.int ux, .int uy, .double (tPx lx ly b y), .double (FP.i2d y), .double p2, .double p3, .double p4, .double p5, .double p6, .double p7, .double (tDx ux lx ly b y), .double (tDy uy y), .double (tM ux uy lx ly a b c y), .double (tK ux uy lx ly a b c y)]))] := D_1 rfl
            refine lv_if_ne (tgt := 77) hx hb dX6_pose_70 (by decide) (fun _ => ?_) (fun c33 => absurd c33 (by decide))
            refine lv_aload_n hx hb dX6_pose_77 rfl (lv_at hl 1 rfl) ?_
            refine va_get (D := D) (ci := 5) (v := .ref st) (C := RX6) (T := TX6) (N := 5) hx hb hts hinX6 hown hw.1 hR 0 rfl rfl 1 (by decide) (hts (.fieldLink RX6 18 "WheelSwing" "stand" "LWheelSwing$Stand;") (by decide +kernel)) (fun _ h9 => h9) rfl dX6_pose_78 ?_
            refine lv_aload hx hb dX6_pose_81 (lv_at hl 0 rfl) ?_
            have hq34 : va_P D vwCl [(st, .inr (4, [.int ux, .int uy, .double (tPx lx ly b y), .double (FP.i2d y), .double p2, .double p3, .double p4, .double p5, .double p6, .double p7, .double (tDx ux lx ly b y), .double (tDy uy y), .double (tM ux uy lx ly a b c y), .double (tK ux uy lx ly a b c y)])), (hg, .inr (1, [.int ux, .int uy, .int a, .int lx, .int ly, .int b, .int c, .int sd, .int g, .int d, .int sx, .int sy, .int f]))] H := fr_cons (hP 0 _ rfl) (fr_cons (hR 2 _ rfl) (fr_nil))
            refine va_callv (va_runVN (As := [.ref hg]) (rest := []) ⟨hx, hb, hml, hown, hts⟩ (mX5_placeUpright l D cI cH st hg p2 p3 p4 p5 p6 p7 ux uy a lx ly b c sd g d sx sy f ux uy y hne hh hsd hfA) (⟨va_cnB 1 hts gX6_pose_X5_placeUpright_n102 rfl rfl rfl (hw.2 (.methodLinkNest RX6 102 yX5_placeUpright "WheelSwing") (by decide +kernel)) (hts (.initialized RX5) (by decide +kernel)) (by decide +kernel) ⟨Nat.le_of_ble_eq_true rfl, Nat.le_of_ble_eq_true rfl⟩, hts (.instanceMethod yX5_placeUpright) (by decide +kernel), hts (.selects RX5 yX5_placeUpright yX5_placeUpright) (by decide +kernel)⟩) ⟨kB_blind, va_recv hw.1 hq34 (ci := 4) (q0 := 0) rfl rfl, kB_go hq34 hw⟩ rfl rfl hl.1 rfl (lv_room (Nat.le_of_ble_eq_true rfl)) dX6_pose_83 ⟨Nat.le_of_ble_eq_true rfl, Nat.le_of_ble_eq_true rfl⟩) hS (fun q _ h => h) (fun q h => h) (fun u36 t H locs ht hvm hp37 hB hz1 hk1 hS => ?_)
            have hB : va_at D vwCl (st, .inr (4, u36)) t.heap := hB
            rw [ht] at hB
            have hP := fr_one hB
            have hR := fr_rd hR0 hS hnr
            subst hp37
            have hP : va_P D vwCl [(st, .inr (4, [.int ux, .int uy, .double (tPx lx ly b y), .double (FP.i2d y), .double (tQx ux uy lx ly a b c sd y), .double (tQy ux uy lx ly a b c sd y), .double (tVx ux uy lx ly a b c sd y), .double (tVy ux uy lx ly a b c sd y), .double p6, .double p7, .double (tDx ux lx ly b y), .double (tDy uy y), .double (tM ux uy lx ly a b c y), .double (tK ux uy lx ly a b c y)]))] H := hP
            have hD : va_D (aE st) [(st, .inr (4, [.int ux, .int uy, .double (tPx lx ly b y), .double (FP.i2d y), .double (tQx ux uy lx ly a b c sd y), .double (tQy ux uy lx ly a b c sd y), .double (tVx ux uy lx ly a b c sd y), .double (tVy ux uy lx ly a b c sd y), .double p6, .double p7, .double (tDx ux lx ly b y), .double (tDy uy y), .double (tM ux uy lx ly a b c y), .double (tK ux uy lx ly a b c y)]))] := D_1 rfl
            refine lv_iload_n hx hb dX6_pose_86 rfl (lv_at hl 4 rfl) ?_
            refine lv_bipush (v := 7) hx hb dX6_pose_87 (by decide) ?_
            refine lv_icmp_ge (tgt := 102) hx hb dX6_pose_89 (by decide) (fun c38 => ?_) (fun c38 => ?_)
            · have iw39 := Int32.not_lt.mpr c38
              have hwt := w_hi c12 c38 c13
              refine lv_aload_n hx hb dX6_pose_102 rfl (lv_at hl 1 rfl) ?_
              refine lv_aload hx hb dX6_pose_103 (lv_at hl 0 rfl) ?_
              refine lv_iload_n hx hb dX6_pose_105 rfl (lv_at hl 4 rfl) ?_
              have hq40 : va_P D vwCl [(st, .inr (4, [.int ux, .int uy, .double (tPx lx ly b y), .double (FP.i2d y), .double (tQx ux uy lx ly a b c sd y), .double (tQy ux uy lx ly a b c sd y), .double (tVx ux uy lx ly a b c sd y), .double (tVy ux uy lx ly a b c sd y), .double p6, .double p7, .double (tDx ux lx ly b y), .double (tDy uy y), .double (tM ux uy lx ly a b c y), .double (tK ux uy lx ly a b c y)])), (o, .inr (5, [.ref ha, .ref st, .ref ca, .ref bx, .ref rd])), (hg, .inr (1, [.int ux, .int uy, .int a, .int lx, .int ly, .int b, .int c, .int sd, .int g, .int d, .int sx, .int sy, .int f]))] H := fr_cons (hP 0 _ rfl) (fr_cons (hR 0 _ rfl) (fr_cons (hR 2 _ rfl) (fr_nil)))
              refine va_calll (va_runV (As := [.ref hg, .int wt]) (rest := []) ⟨hx, hb, hml, hown, hts⟩ (mX6_tellTravel l D cI cH o st hg ha ca bx rd ux uy (tPx lx ly b y) (FP.i2d y) (tQx ux uy lx ly a b c sd y) (tQy ux uy lx ly a b c sd y) (tVx ux uy lx ly a b c sd y) (tVy ux uy lx ly a b c sd y) p6 p7 (tDx ux lx ly b y) (tDy uy y) (tM ux uy lx ly a b c y) (tK ux uy lx ly a b c y) ux uy a lx ly b c sd g d sx sy f wt hne hno kux kuy klx kly kg kd ksx ksy kf (gz_px hh h0A) (gf_i2d 10 (yB_k hh.2.2.2.2.2.2.2)) (gz_qx hh h0A heA hkA hsd) (gz_qy hh h0A heA hkA hsd) (gz_vx hh h0A heA hkA hsd) (gz_vy hh h0A heA hkA hsd) (zp_i2d _) hwt) (cwV 2 hts gX6_pose_X6_tellTravel rfl rfl rfl (by decide +kernel) ⟨Nat.le_of_ble_eq_true rfl, Nat.le_of_ble_eq_true rfl⟩) ⟨kB_blind, va_recv hw.1 hq40 (ci := 5) (q0 := 1) rfl rfl, kB_go hq40 hw⟩ rfl rfl hl.1 rfl (lv_room (Nat.le_of_ble_eq_true rfl)) dX6_pose_106 ⟨Nat.le_of_ble_eq_true rfl, Nat.le_of_ble_eq_true rfl⟩) hS (fun q _ h => h) (fun q h => h) (fun r41 u42 t H locs ht hvm hp43 hB hz1 hk1 hS => ?_)
              have hB : va_at D vwCl (st, .inr (4, u42)) t.heap := hB
              rw [ht] at hB
              have hP := fr_one hB
              have hR := fr_rd hR0 hS hnr
              obtain ⟨rfl, j44, j45, j46, j47, j48, j49, j50, j51, j52, j53, j54, j55, j56, j57, rfl⟩ := hp43
              have hP : va_P D vwCl [(st, .inr (4, [.int j44, .int j45, .double j46, .double j47, .double j48, .double j49, .double j50, .double j51, .double j52, .double j53, .double j54, .double j55, .double j56, .double j57]))] H := hP
              have hD : va_D (aE st) [(st, .inr (4, [.int j44, .int j45, .double j46, .double j47, .double j48, .double j49, .double j50, .double j51, .double j52, .double j53, .double j54, .double j55, .double j56, .double j57]))] := D_1 rfl
              exact W.lret (v := sTel2 ux uy lx ly g d sx sy f (tPx lx ly b y) (FP.i2d y) (tQx ux uy lx ly a b c sd y) (tQy ux uy lx ly a b c sd y) (tVx ux uy lx ly a b c sd y) (tVy ux uy lx ly a b c sd y) wt) hx hb hr (fun t ht hW => ⟨⟨sTel2 ux uy lx ly g d sx sy f (tPx lx ly b y) (FP.i2d y) (tQx ux uy lx ly a b c sd y) (tQy ux uy lx ly a b c sd y) (tVx ux uy lx ly a b c sd y) (tVy ux uy lx ly a b c sd y) wt, [.int j44, .int j45, .double j46, .double j47, .double j48, .double j49, .double j50, .double j51, .double j52, .double j53, .double j54, .double j55, .double j56, .double j57], rfl, ⟨by have hok : okPose h y wt = true := (by unfold okPose; simp [c4, c8, c12]); rw [hok, if_pos rfl]; exact (sPose_t c13 hfA).symm, ⟨_, _, _, _, _, _, _, _, _, _, _, _, _, _, rfl⟩⟩, at_heap ht (hP 0 _ rfl)⟩, hS.F ht⟩) hS.2.2 dX6_pose_109
            · have iw58 := Int32.not_le.mp c38
              have hwt := w_lo c12 c38
              refine lv_aload_n hx hb dX6_pose_92 rfl (lv_at hl 1 rfl) ?_
              refine lv_aload hx hb dX6_pose_93 (lv_at hl 0 rfl) ?_
              refine lv_iload_n hx hb dX6_pose_95 rfl (lv_at hl 4 rfl) ?_
              have hq59 : va_P D vwCl [(o, .inr (5, [.ref ha, .ref st, .ref ca, .ref bx, .ref rd])), (st, .inr (4, [.int ux, .int uy, .double (tPx lx ly b y), .double (FP.i2d y), .double (tQx ux uy lx ly a b c sd y), .double (tQy ux uy lx ly a b c sd y), .double (tVx ux uy lx ly a b c sd y), .double (tVy ux uy lx ly a b c sd y), .double p6, .double p7, .double (tDx ux lx ly b y), .double (tDy uy y), .double (tM ux uy lx ly a b c y), .double (tK ux uy lx ly a b c y)])), (hg, .inr (1, [.int ux, .int uy, .int a, .int lx, .int ly, .int b, .int c, .int sd, .int g, .int d, .int sx, .int sy, .int f]))] H := fr_cons (hR 0 _ rfl) (fr_cons (hP 0 _ rfl) (fr_cons (hR 2 _ rfl) (fr_nil)))
              refine va_calll (va_runV (As := [.ref hg, .int wt]) (rest := []) ⟨hx, hb, hml, hown, hts⟩ (mX6_tellWheel l D cI cH o st hg ha ca bx rd ux uy (tPx lx ly b y) (FP.i2d y) (tQx ux uy lx ly a b c sd y) (tQy ux uy lx ly a b c sd y) (tVx ux uy lx ly a b c sd y) (tVy ux uy lx ly a b c sd y) p6 p7 (tDx ux lx ly b y) (tDy uy y) (tM ux uy lx ly a b c y) (tK ux uy lx ly a b c y) ux uy a lx ly b c sd g d sx sy f wt kg kd (gz_px hh h0A) (gf_i2d 10 (yB_k hh.2.2.2.2.2.2.2)) (gz_qx hh h0A heA hkA hsd) (gz_qy hh h0A heA hkA hsd) (gz_vx hh h0A heA hkA hsd) (gz_vy hh h0A heA hkA hsd) (zz_px hh h0A) (zp_i2d _) (zz_qx hh h0A heA hkA hsd) (zz_qy hh h0A heA hkA hsd) (zz_vx hh h0A heA hkA hsd) hwt) (cwV 2 hts gX6_pose_X6_tellWheel rfl rfl rfl (by decide +kernel) ⟨Nat.le_of_ble_eq_true rfl, Nat.le_of_ble_eq_true rfl⟩) ⟨kB_blind, va_recv hw.1 hq59 (ci := 5) (q0 := 0) rfl rfl, kB_go hq59 hw⟩ rfl rfl hl.1 rfl (lv_room (Nat.le_of_ble_eq_true rfl)) dX6_pose_96 ⟨Nat.le_of_ble_eq_true rfl, Nat.le_of_ble_eq_true rfl⟩) hS (fun q _ h => h.elim) (fun q h => h.elim) (fun r60 u61 t H locs ht hvm hp62 hB hz1 hk1 hS => ?_)
              have hP := fr_keep hP hk1 fr_nA
              have hR := fr_rd hR0 hS hnr
              subst hp62
              refine lv_goto (tgt := 109) hx hb dX6_pose_99 (by decide) ?_
              exact W.lret (v := sTel2 ux uy lx ly g d sx sy f (tPx lx ly b y) (FP.i2d y) (tQx ux uy lx ly a b c sd y) (tQy ux uy lx ly a b c sd y) (tVx ux uy lx ly a b c sd y) (tVy ux uy lx ly a b c sd y) wt) hx hb hr (fun t ht hW => ⟨⟨sTel2 ux uy lx ly g d sx sy f (tPx lx ly b y) (FP.i2d y) (tQx ux uy lx ly a b c sd y) (tQy ux uy lx ly a b c sd y) (tVx ux uy lx ly a b c sd y) (tVy ux uy lx ly a b c sd y) wt, [.int ux, .int uy, .double (tPx lx ly b y), .double (FP.i2d y), .double (tQx ux uy lx ly a b c sd y), .double (tQy ux uy lx ly a b c sd y), .double (tVx ux uy lx ly a b c sd y), .double (tVy ux uy lx ly a b c sd y), .double p6, .double p7, .double (tDx ux lx ly b y), .double (tDy uy y), .double (tM ux uy lx ly a b c y), .double (tK ux uy lx ly a b c y)], rfl, ⟨by have hok : okPose h y wt = true := (by unfold okPose; simp [c4, c8, c12]); rw [hok, if_pos rfl]; exact (sPose_t c13 hfA).symm, ⟨_, _, _, _, _, _, _, _, _, _, _, _, _, _, rfl⟩⟩, at_heap ht (hP 0 _ rfl)⟩, hS.F ht⟩) hS.2.2 dX6_pose_109
          · have hP : va_P D vwCl [(st, .inr (4, [.int j18, .int j19, .double j20, .double j21, .double j22, .double j23, .double j24, .double j25, .double j26, .double j27, .double j28, .double j29, .double j30, .double j31]))] H := hP
            have hD : va_D (aE st) [(st, .inr (4, [.int j18, .int j19, .double j20, .double j21, .double j22, .double j23, .double j24, .double j25, .double j26, .double j27, .double j28, .double j29, .double j30, .double j31]))] := D_1 rfl
            refine lv_if_ne (tgt := 77) hx hb dX6_pose_70 (by decide) (fun c64 => absurd c64 (by decide)) (fun _ => ?_)
            refine lv_ldc2 hx hb hown (hts (.constantLong RX6 100 (-1)) (by decide +kernel)) dX6_pose_73 ?_
            exact W.lret (v := (-1)) hx hb hr (fun t ht hW => ⟨⟨(-1), [.int j18, .int j19, .double j20, .double j21, .double j22, .double j23, .double j24, .double j25, .double j26, .double j27, .double j28, .double j29, .double j30, .double j31], rfl, ⟨by have hok : okPose h y wt = true := (by unfold okPose; simp [c4, c8, c12]); rw [hok, if_pos rfl]; exact (sPose_f c13 hnfA).symm, ⟨_, _, _, _, _, _, _, _, _, _, _, _, _, _, rfl⟩⟩, at_heap ht (hP 0 _ rfl)⟩, hS.F ht⟩) hS.2.2 dX6_pose_76
        · refine lv_aload_n hx hb dX6_pose_42 rfl (lv_at hl 1 rfl) ?_
          refine lv_aload hx hb dX6_pose_43 (lv_at hl 0 rfl) ?_
          refine lv_iload_n hx hb dX6_pose_45 rfl (lv_at hl 3 rfl) ?_
          have hq65 : va_P D vwCl [(st, .inr (4, [.int s0, .int s1, .double p0, .double p1, .double p2, .double p3, .double p4, .double p5, .double p6, .double p7, .double p8, .double p9, .double p10, .double p11])), (o, .inr (5, [.ref ha, .ref st, .ref ca, .ref bx, .ref rd])), (hg, .inr (1, [.int ux, .int uy, .int a, .int lx, .int ly, .int b, .int c, .int sd, .int g, .int d, .int sx, .int sy, .int f]))] H := fr_cons (hP 0 _ rfl) (fr_cons (hR 0 _ rfl) (fr_cons (hR 2 _ rfl) (fr_nil)))
          refine va_calll (va_runV (As := [.ref hg, .int y]) (rest := []) ⟨hx, hb, hml, hown, hts⟩ (mX6_springShare l D cI cH o st hg ha ca bx rd s0 s1 p0 p1 p2 p3 p4 p5 p6 p7 p8 p9 p10 p11 ux uy a lx ly b c sd g d sx sy f y hne hno hh1 hh2 klx kly ksx ksy kf) (cwV 2 hts gX6_pose_X6_springShare rfl rfl rfl (by decide +kernel) ⟨Nat.le_of_ble_eq_true rfl, Nat.le_of_ble_eq_true rfl⟩) ⟨kB_blind, va_recv hw.1 hq65 (ci := 5) (q0 := 1) rfl rfl, kB_go hq65 hw⟩ rfl rfl hl.1 rfl (lv_room (Nat.le_of_ble_eq_true rfl)) dX6_pose_46 ⟨Nat.le_of_ble_eq_true rfl, Nat.le_of_ble_eq_true rfl⟩) hS (fun q _ h => h) (fun q h => h) (fun r66 u67 t H locs ht hvm hp68 hB hz1 hk1 hS => ?_)
          have hB : va_at D vwCl (st, .inr (4, u67)) t.heap := hB
          rw [ht] at hB
          have hP := fr_one hB
          have hR := fr_rd hR0 hS hnr
          obtain ⟨rfl, j69, j70, j71, j72, j73, j74, j75, j76, j77, j78, j79, j80, j81, j82, rfl⟩ := hp68
          have hP : va_P D vwCl [(st, .inr (4, [.int j69, .int j70, .double j71, .double j72, .double j73, .double j74, .double j75, .double j76, .double j77, .double j78, .double j79, .double j80, .double j81, .double j82]))] H := hP
          have hD : va_D (aE st) [(st, .inr (4, [.int j69, .int j70, .double j71, .double j72, .double j73, .double j74, .double j75, .double j76, .double j77, .double j78, .double j79, .double j80, .double j81, .double j82]))] := D_1 rfl
          exact W.lret (v := sShare ux uy a lx ly b c sx sy f y) hx hb hr (fun t ht hW => ⟨⟨sShare ux uy a lx ly b c sx sy f y, [.int j69, .int j70, .double j71, .double j72, .double j73, .double j74, .double j75, .double j76, .double j77, .double j78, .double j79, .double j80, .double j81, .double j82], rfl, ⟨by have hok : okPose h y wt = true := (by unfold okPose; simp [c4, c8, c12]); rw [hok, if_pos rfl]; exact (sPose_11 c13).symm, ⟨_, _, _, _, _, _, _, _, _, _, _, _, _, _, rfl⟩⟩, at_heap ht (hP 0 _ rfl)⟩, hS.F ht⟩) hS.2.2 dX6_pose_49
      · have c12 := bI_e.mp c12
        refine lv_ldc2 hx hb hown (hts (.constantLong RX6 83 (-2)) (by decide +kernel)) dX6_pose_24 ?_
        exact W.lret (v := (-2)) hx hb hr (fun t ht hW => ⟨⟨(-2), [.int s0, .int s1, .double p0, .double p1, .double p2, .double p3, .double p4, .double p5, .double p6, .double p7, .double p8, .double p9, .double p10, .double p11], rfl, ⟨by unfold okPose; simp [c4, c8, c12], ⟨_, _, _, _, _, _, _, _, _, _, _, _, _, _, rfl⟩⟩, at_heap ht (hP 0 _ rfl)⟩, hS.F ht⟩) hS.2.2 dX6_pose_27
