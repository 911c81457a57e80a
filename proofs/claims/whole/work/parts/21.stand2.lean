/-! THE CENTRE, THE SPRING, THE CLEARANCE: numbers, and the stand's methods -/
theorem cc2_k {v w : Int32} (hv : cB v) (hw : cB w) : (v - w).toInt.natAbs ≤ 2 ^ 11 := by
  obtain ⟨h1, h2⟩ := hv
  obtain ⟨h3, h4⟩ := hw
  rw [i3_sub (by omega) (by omega)]
  omega
def zB (v : Int32) : Prop := 0 ≤ v.toInt ∧ v.toInt ≤ 1000
theorem f_k {v : Int32} (h : zB v) : v.toInt.natAbs ≤ 2 ^ 10 := by obtain ⟨h1, h2⟩ := h; omega
def tN (ux uy lx ly : Int32) (px py qx qy : UInt64) : UInt64 := FP.dsub (FP.dmul (FP.dsub qx (FP.i2d ux)) (FP.dsub py (FP.i2d ly))) (FP.dmul (FP.dsub qy (FP.i2d uy)) (FP.dsub px (FP.i2d lx)))
def tW (ux uy lx ly : Int32) (px py qx qy : UInt64) : UInt64 := FP.ddiv (FP.dsub (FP.dmul (FP.i2d (lx - ux)) (FP.dsub py (FP.i2d ly))) (FP.dmul (FP.i2d (ly - uy)) (FP.dsub px (FP.i2d lx)))) (tN ux uy lx ly px py qx qy)
def tIx (ux uy lx ly : Int32) (px py qx qy : UInt64) : UInt64 := FP.dadd (FP.i2d ux) (FP.dmul (tW ux uy lx ly px py qx qy) (FP.dsub qx (FP.i2d ux)))
def tIy (ux uy lx ly : Int32) (px py qx qy : UInt64) : UInt64 := FP.dadd (FP.i2d uy) (FP.dmul (tW ux uy lx ly px py qx qy) (FP.dsub qy (FP.i2d uy)))
def tTx (lx sx f : Int32) (px : UInt64) : UInt64 := FP.dsub (FP.dadd (FP.i2d lx) (FP.ddiv (FP.dmul (FP.i2d f) (FP.dsub px (FP.i2d lx))) 4652007308841189376)) (FP.i2d sx)
def tL2 (lx ly sx sy f : Int32) (px py : UInt64) : UInt64 := FP.dadd (FP.dmul (tTx lx sx f px) (tTx lx sx f px)) (FP.dmul (tTx ly sy f py) (tTx ly sy f py))
noncomputable def tL (lx ly sx sy f : Int32) (px py : UInt64) : UInt64 := fsq (tL2 lx ly sx sy f px py)
def tT0 (c ox oy : Int32) (px py qx qy : UInt64) : UInt64 := FP.ddiv (FP.dadd (FP.dmul (FP.dsub (FP.i2d ox) px) (FP.dsub qx px)) (FP.dmul (FP.dsub (FP.i2d oy) py) (FP.dsub qy py))) (FP.i2d (c * c))
def tI (t : UInt64) : UInt64 := if fv t < 0 then FP.dconst0 else if ((2 ^ 1074 : Nat) : Int) < fv t then FP.dconst1 else t
def tAx (o : Int32) (p q i : UInt64) : UInt64 := FP.dsub (FP.i2d o) (FP.dadd p (FP.dmul i (FP.dsub q p)))
def tSq (c ox oy : Int32) (px py qx qy : UInt64) : UInt64 := FP.dadd (FP.dmul (tAx ox px qx (tI (tT0 c ox oy px py qx qy))) (tAx ox px qx (tI (tT0 c ox oy px py qx qy)))) (FP.dmul (tAx oy py qy (tI (tT0 c ox oy px py qx qy))) (tAx oy py qy (tI (tT0 c ox oy px py qx qy))))
theorem gz_n {ux uy lx ly : Int32} (kU : cB ux) (kV : cB uy) (klx : cB lx) (kly : cB ly) {px py qx qy : UInt64} (g0 : fGr 1021 1086 px) (g1 : fGr 1074 1084 py) (g2 : fGr 888 1153 qx) (g3 : fGr 934 1152 qy) : fGr 881 1167 (tN ux uy lx ly px py qx qy) := (gf_sub 881 1167 (gf_mul 888 1165 (gf_sub 888 1154 g2 (gf_i2d 10 (cB_k kU)) (Nat.le_of_ble_eq_true rfl) (Nat.le_of_ble_eq_true rfl) (Nat.le_of_ble_eq_true rfl) (Nat.le_of_ble_eq_true rfl) (Nat.le_of_ble_eq_true rfl)) (gf_sub 1074 1085 g1 (gf_i2d 10 (cB_k kly)) (Nat.le_of_ble_eq_true rfl) (Nat.le_of_ble_eq_true rfl) (Nat.le_of_ble_eq_true rfl) (Nat.le_of_ble_eq_true rfl) (Nat.le_of_ble_eq_true rfl)) (Nat.le_of_ble_eq_true rfl) (Nat.le_of_ble_eq_true rfl) (Nat.le_of_ble_eq_true rfl)) (gf_mul 881 1166 (gf_sub 934 1153 g3 (gf_i2d 10 (cB_k kV)) (Nat.le_of_ble_eq_true rfl) (Nat.le_of_ble_eq_true rfl) (Nat.le_of_ble_eq_true rfl) (Nat.le_of_ble_eq_true rfl) (Nat.le_of_ble_eq_true rfl)) (gf_sub 1021 1087 g0 (gf_i2d 10 (cB_k klx)) (Nat.le_of_ble_eq_true rfl) (Nat.le_of_ble_eq_true rfl) (Nat.le_of_ble_eq_true rfl) (Nat.le_of_ble_eq_true rfl) (Nat.le_of_ble_eq_true rfl)) (Nat.le_of_ble_eq_true rfl) (Nat.le_of_ble_eq_true rfl) (Nat.le_of_ble_eq_true rfl)) (Nat.le_of_ble_eq_true rfl) (Nat.le_of_ble_eq_true rfl) (Nat.le_of_ble_eq_true rfl) (Nat.le_of_ble_eq_true rfl) (Nat.le_of_ble_eq_true rfl))
theorem gz_w {ux uy lx ly : Int32} (kU : cB ux) (kV : cB uy) (klx : cB lx) (kly : cB ly) {px py qx qy : UInt64} (g0 : fGr 1021 1086 px) (g1 : fGr 1074 1084 py) (g2 : fGr 888 1153 qx) (g3 : fGr 934 1152 qy) (hn : fv (tN ux uy lx ly px py qx qy) ≠ 0) : fGr 876 1292 (tW ux uy lx ly px py qx qy) := (gf_div 876 1292 (gf_sub 1021 1099 (gf_mul 1074 1096 (gf_i2d 11 (cc2_k klx kU)) (gf_sub 1074 1085 g1 (gf_i2d 10 (cB_k kly)) (Nat.le_of_ble_eq_true rfl) (Nat.le_of_ble_eq_true rfl) (Nat.le_of_ble_eq_true rfl) (Nat.le_of_ble_eq_true rfl) (Nat.le_of_ble_eq_true rfl)) (Nat.le_of_ble_eq_true rfl) (Nat.le_of_ble_eq_true rfl) (Nat.le_of_ble_eq_true rfl)) (gf_mul 1021 1098 (gf_i2d 11 (cc2_k kly kV)) (gf_sub 1021 1087 g0 (gf_i2d 10 (cB_k klx)) (Nat.le_of_ble_eq_true rfl) (Nat.le_of_ble_eq_true rfl) (Nat.le_of_ble_eq_true rfl) (Nat.le_of_ble_eq_true rfl) (Nat.le_of_ble_eq_true rfl)) (Nat.le_of_ble_eq_true rfl) (Nat.le_of_ble_eq_true rfl) (Nat.le_of_ble_eq_true rfl)) (Nat.le_of_ble_eq_true rfl) (Nat.le_of_ble_eq_true rfl) (Nat.le_of_ble_eq_true rfl) (Nat.le_of_ble_eq_true rfl) (Nat.le_of_ble_eq_true rfl)) (gz_n kU kV klx kly g0 g1 g2 g3) hn (Nat.le_of_ble_eq_true rfl) (Nat.le_of_ble_eq_true rfl) (Nat.le_of_ble_eq_true rfl))
theorem gz_ix {ux uy lx ly : Int32} (kU : cB ux) (kV : cB uy) (klx : cB lx) (kly : cB ly) {px py qx qy : UInt64} (g0 : fGr 1021 1086 px) (g1 : fGr 1074 1084 py) (g2 : fGr 888 1153 qx) (g3 : fGr 934 1152 qy) (hn : fv (tN ux uy lx ly px py qx qy) ≠ 0) : fGr 690 1373 (tIx ux uy lx ly px py qx qy) := (gf_add 690 1373 (gf_i2d 10 (cB_k kU)) (gf_mul 690 1372 (gz_w kU kV klx kly g0 g1 g2 g3 hn) (gf_sub 888 1154 g2 (gf_i2d 10 (cB_k kU)) (Nat.le_of_ble_eq_true rfl) (Nat.le_of_ble_eq_true rfl) (Nat.le_of_ble_eq_true rfl) (Nat.le_of_ble_eq_true rfl) (Nat.le_of_ble_eq_true rfl)) (Nat.le_of_ble_eq_true rfl) (Nat.le_of_ble_eq_true rfl) (Nat.le_of_ble_eq_true rfl)) (Nat.le_of_ble_eq_true rfl) (Nat.le_of_ble_eq_true rfl) (Nat.le_of_ble_eq_true rfl) (Nat.le_of_ble_eq_true rfl) (Nat.le_of_ble_eq_true rfl))
theorem gz_iy {ux uy lx ly : Int32} (kU : cB ux) (kV : cB uy) (klx : cB lx) (kly : cB ly) {px py qx qy : UInt64} (g0 : fGr 1021 1086 px) (g1 : fGr 1074 1084 py) (g2 : fGr 888 1153 qx) (g3 : fGr 934 1152 qy) (hn : fv (tN ux uy lx ly px py qx qy) ≠ 0) : fGr 736 1372 (tIy ux uy lx ly px py qx qy) := (gf_add 736 1372 (gf_i2d 10 (cB_k kV)) (gf_mul 736 1371 (gz_w kU kV klx kly g0 g1 g2 g3 hn) (gf_sub 934 1153 g3 (gf_i2d 10 (cB_k kV)) (Nat.le_of_ble_eq_true rfl) (Nat.le_of_ble_eq_true rfl) (Nat.le_of_ble_eq_true rfl) (Nat.le_of_ble_eq_true rfl) (Nat.le_of_ble_eq_true rfl)) (Nat.le_of_ble_eq_true rfl) (Nat.le_of_ble_eq_true rfl) (Nat.le_of_ble_eq_true rfl)) (Nat.le_of_ble_eq_true rfl) (Nat.le_of_ble_eq_true rfl) (Nat.le_of_ble_eq_true rfl) (Nat.le_of_ble_eq_true rfl) (Nat.le_of_ble_eq_true rfl))
theorem gz_tx {lx sx f : Int32} {px : UInt64} (kl : cB lx) (ks : cB sx) (kf : zB f) (g : fGr 1021 1086 px) : fGr 959 1096 (tTx lx sx f px) := (gf_sub 959 1096 (gf_add 959 1095 (gf_i2d 10 (cB_k kl)) (gf_div 959 1094 (gf_mul 1021 1097 (gf_i2d 10 (f_k kf)) (gf_sub 1021 1087 g (gf_i2d 10 (cB_k kl)) (Nat.le_of_ble_eq_true rfl) (Nat.le_of_ble_eq_true rfl) (Nat.le_of_ble_eq_true rfl) (Nat.le_of_ble_eq_true rfl) (Nat.le_of_ble_eq_true rfl)) (Nat.le_of_ble_eq_true rfl) (Nat.le_of_ble_eq_true rfl) (Nat.le_of_ble_eq_true rfl)) gf_1000 ne_1000 (Nat.le_of_ble_eq_true rfl) (Nat.le_of_ble_eq_true rfl) (Nat.le_of_ble_eq_true rfl)) (Nat.le_of_ble_eq_true rfl) (Nat.le_of_ble_eq_true rfl) (Nat.le_of_ble_eq_true rfl) (Nat.le_of_ble_eq_true rfl) (Nat.le_of_ble_eq_true rfl)) (gf_i2d 10 (cB_k ks)) (Nat.le_of_ble_eq_true rfl) (Nat.le_of_ble_eq_true rfl) (Nat.le_of_ble_eq_true rfl) (Nat.le_of_ble_eq_true rfl) (Nat.le_of_ble_eq_true rfl))
theorem gz_ty {lx sx f : Int32} {px : UInt64} (kl : cB lx) (ks : cB sx) (kf : zB f) (g : fGr 1074 1084 px) : fGr 1012 1094 (tTx lx sx f px) := (gf_sub 1012 1094 (gf_add 1012 1093 (gf_i2d 10 (cB_k kl)) (gf_div 1012 1092 (gf_mul 1074 1095 (gf_i2d 10 (f_k kf)) (gf_sub 1074 1085 g (gf_i2d 10 (cB_k kl)) (Nat.le_of_ble_eq_true rfl) (Nat.le_of_ble_eq_true rfl) (Nat.le_of_ble_eq_true rfl) (Nat.le_of_ble_eq_true rfl) (Nat.le_of_ble_eq_true rfl)) (Nat.le_of_ble_eq_true rfl) (Nat.le_of_ble_eq_true rfl) (Nat.le_of_ble_eq_true rfl)) gf_1000 ne_1000 (Nat.le_of_ble_eq_true rfl) (Nat.le_of_ble_eq_true rfl) (Nat.le_of_ble_eq_true rfl)) (Nat.le_of_ble_eq_true rfl) (Nat.le_of_ble_eq_true rfl) (Nat.le_of_ble_eq_true rfl) (Nat.le_of_ble_eq_true rfl) (Nat.le_of_ble_eq_true rfl)) (gf_i2d 10 (cB_k ks)) (Nat.le_of_ble_eq_true rfl) (Nat.le_of_ble_eq_true rfl) (Nat.le_of_ble_eq_true rfl) (Nat.le_of_ble_eq_true rfl) (Nat.le_of_ble_eq_true rfl))
theorem gz_l2 {lx ly sx sy f : Int32} {px py : UInt64} (klx : cB lx) (kly : cB ly) (ksx : cB sx) (ksy : cB sy) (kf : zB f) (g0 : fGr 1021 1086 px) (g1 : fGr 1074 1084 py) : fGr 844 1119 (tL2 lx ly sx sy f px py) := (gf_add 844 1119 (gf_mul 844 1118 (gz_tx klx ksx kf g0) (gz_tx klx ksx kf g0) (Nat.le_of_ble_eq_true rfl) (Nat.le_of_ble_eq_true rfl) (Nat.le_of_ble_eq_true rfl)) (gf_mul 950 1114 (gz_ty kly ksy kf g1) (gz_ty kly ksy kf g1) (Nat.le_of_ble_eq_true rfl) (Nat.le_of_ble_eq_true rfl) (Nat.le_of_ble_eq_true rfl)) (Nat.le_of_ble_eq_true rfl) (Nat.le_of_ble_eq_true rfl) (Nat.le_of_ble_eq_true rfl) (Nat.le_of_ble_eq_true rfl) (Nat.le_of_ble_eq_true rfl))
theorem gz_l2rt {lx ly sx sy f : Int32} {px py : UInt64} (klx : cB lx) (kly : cB ly) (ksx : cB sx) (ksy : cB sy) (kf : zB f) (g0 : fGr 1021 1086 px) (g1 : fGr 1074 1084 py) : fRt (tL2 lx ly sx sy f px py) := by
  have ha := add_nn (gf_mul 844 1118 (gz_tx klx ksx kf g0) (gz_tx klx ksx kf g0) (Nat.le_of_ble_eq_true rfl) (Nat.le_of_ble_eq_true rfl) (Nat.le_of_ble_eq_true rfl)) (gf_mul 950 1114 (gz_ty kly ksy kf g1) (gz_ty kly ksy kf g1) (Nat.le_of_ble_eq_true rfl) (Nat.le_of_ble_eq_true rfl) (Nat.le_of_ble_eq_true rfl)) (sqr_nn (gz_tx klx ksx kf g0) (by omega)) (sqr_nn (gz_ty kly ksy kf g1) (by omega)) (by omega) (by omega)
  refine fRt_gr (gz_l2 klx kly ksx ksy kf g0 g1) (by omega) (by omega) ha.1 fun hz => ?_
  obtain ⟨z1, z2⟩ := ha.2 hz
  show FP.dadd (FP.dmul (tTx lx sx f px) (tTx lx sx f px)) (FP.dmul (tTx ly sy f py) (tTx ly sy f py)) = 0
  rw [mul_pz (gz_tx klx ksx kf g0) (by omega) z1, mul_pz (gz_ty kly ksy kf g1) (by omega) z2]
  decide +kernel
theorem gz_l {lx ly sx sy f : Int32} {px py : UInt64} (klx : cB lx) (kly : cB ly) (ksx : cB sx) (ksy : cB sy) (kf : zB f) (g0 : fGr 1021 1086 px) (g1 : fGr 1074 1084 py) : fGr 906 1098 (tL lx ly sx sy f px py) := (gf_sq 906 1098 (rt_ex (gz_l2rt klx kly ksx ksy kf g0 g1)) (gz_l2 klx kly ksx ksy kf g0 g1) (Nat.le_of_ble_eq_true rfl) (Nat.le_of_ble_eq_true rfl))
theorem cc_ne {c : Int32} (h : aB c) : fv (FP.i2d (c * c)) ≠ 0 := by
  obtain ⟨e1, e2, e3⟩ := sq2_k h
  rw [fv_i2d, e1]
  refine Int.mul_ne_zero (by omega) ?_
  exact fun h => absurd (Int.ofNat_eq_zero.mp h) (Nat.ne_of_gt (Nat.two_pow_pos _))
theorem gz_t0 {c ox oy : Int32} (kc : aB c) (kox : cB ox) (koy : cB oy) {px py qx qy : UInt64} (g0 : fGr 1021 1086 px) (g1 : fGr 1074 1084 py) (g2 : fGr 888 1153 qx) (g3 : fGr 934 1152 qy) : fGr 763 1168 (tT0 c ox oy px py qx qy) := (gf_div 763 1168 (gf_add 835 1168 (gf_mul 835 1167 (gf_sub 1021 1087 (gf_i2d 10 (cB_k kox)) g0 (Nat.le_of_ble_eq_true rfl) (Nat.le_of_ble_eq_true rfl) (Nat.le_of_ble_eq_true rfl) (Nat.le_of_ble_eq_true rfl) (Nat.le_of_ble_eq_true rfl)) (gf_sub 888 1154 g2 g0 (Nat.le_of_ble_eq_true rfl) (Nat.le_of_ble_eq_true rfl) (Nat.le_of_ble_eq_true rfl) (Nat.le_of_ble_eq_true rfl) (Nat.le_of_ble_eq_true rfl)) (Nat.le_of_ble_eq_true rfl) (Nat.le_of_ble_eq_true rfl) (Nat.le_of_ble_eq_true rfl)) (gf_mul 934 1164 (gf_sub 1074 1085 (gf_i2d 10 (cB_k koy)) g1 (Nat.le_of_ble_eq_true rfl) (Nat.le_of_ble_eq_true rfl) (Nat.le_of_ble_eq_true rfl) (Nat.le_of_ble_eq_true rfl) (Nat.le_of_ble_eq_true rfl)) (gf_sub 934 1153 g3 g1 (Nat.le_of_ble_eq_true rfl) (Nat.le_of_ble_eq_true rfl) (Nat.le_of_ble_eq_true rfl) (Nat.le_of_ble_eq_true rfl) (Nat.le_of_ble_eq_true rfl)) (Nat.le_of_ble_eq_true rfl) (Nat.le_of_ble_eq_true rfl) (Nat.le_of_ble_eq_true rfl)) (Nat.le_of_ble_eq_true rfl) (Nat.le_of_ble_eq_true rfl) (Nat.le_of_ble_eq_true rfl) (Nat.le_of_ble_eq_true rfl) (Nat.le_of_ble_eq_true rfl)) (gf_i2d 20 (cc_k kc)) (cc_ne kc) (Nat.le_of_ble_eq_true rfl) (Nat.le_of_ble_eq_true rfl) (Nat.le_of_ble_eq_true rfl))
theorem gz_ti {t : UInt64} (h : fGr 763 1168 t) : fGr 763 1168 (tI t) := by
  unfold tI
  split
  · exact gf_w gf_c0 (by omega) (by omega)
  · split
    · exact gf_w gf_c1 (by omega) (by omega)
    · exact h
theorem gz_sq {c ox oy : Int32} (kc : aB c) (kox : cB ox) (koy : cB oy) {px py qx qy : UInt64} (g0 : fGr 1021 1086 px) (g1 : fGr 1074 1084 py) (g2 : fGr 888 1153 qx) (g3 : fGr 934 1152 qy) : fGr 80 1427 (tSq c ox oy px py qx qy) := (gf_add 80 1427 (gf_mul 80 1426 (gf_sub 577 1250 (gf_i2d 10 (cB_k kox)) (gf_add 577 1249 g0 (gf_mul 577 1248 (gz_ti (gz_t0 kc kox koy g0 g1 g2 g3)) (gf_sub 888 1154 g2 g0 (Nat.le_of_ble_eq_true rfl) (Nat.le_of_ble_eq_true rfl) (Nat.le_of_ble_eq_true rfl) (Nat.le_of_ble_eq_true rfl) (Nat.le_of_ble_eq_true rfl)) (Nat.le_of_ble_eq_true rfl) (Nat.le_of_ble_eq_true rfl) (Nat.le_of_ble_eq_true rfl)) (Nat.le_of_ble_eq_true rfl) (Nat.le_of_ble_eq_true rfl) (Nat.le_of_ble_eq_true rfl) (Nat.le_of_ble_eq_true rfl) (Nat.le_of_ble_eq_true rfl)) (Nat.le_of_ble_eq_true rfl) (Nat.le_of_ble_eq_true rfl) (Nat.le_of_ble_eq_true rfl) (Nat.le_of_ble_eq_true rfl) (Nat.le_of_ble_eq_true rfl)) (gf_sub 577 1250 (gf_i2d 10 (cB_k kox)) (gf_add 577 1249 g0 (gf_mul 577 1248 (gz_ti (gz_t0 kc kox koy g0 g1 g2 g3)) (gf_sub 888 1154 g2 g0 (Nat.le_of_ble_eq_true rfl) (Nat.le_of_ble_eq_true rfl) (Nat.le_of_ble_eq_true rfl) (Nat.le_of_ble_eq_true rfl) (Nat.le_of_ble_eq_true rfl)) (Nat.le_of_ble_eq_true rfl) (Nat.le_of_ble_eq_true rfl) (Nat.le_of_ble_eq_true rfl)) (Nat.le_of_ble_eq_true rfl) (Nat.le_of_ble_eq_true rfl) (Nat.le_of_ble_eq_true rfl) (Nat.le_of_ble_eq_true rfl) (Nat.le_of_ble_eq_true rfl)) (Nat.le_of_ble_eq_true rfl) (Nat.le_of_ble_eq_true rfl) (Nat.le_of_ble_eq_true rfl) (Nat.le_of_ble_eq_true rfl) (Nat.le_of_ble_eq_true rfl)) (Nat.le_of_ble_eq_true rfl) (Nat.le_of_ble_eq_true rfl) (Nat.le_of_ble_eq_true rfl)) (gf_mul 172 1424 (gf_sub 623 1249 (gf_i2d 10 (cB_k koy)) (gf_add 623 1248 g1 (gf_mul 623 1247 (gz_ti (gz_t0 kc kox koy g0 g1 g2 g3)) (gf_sub 934 1153 g3 g1 (Nat.le_of_ble_eq_true rfl) (Nat.le_of_ble_eq_true rfl) (Nat.le_of_ble_eq_true rfl) (Nat.le_of_ble_eq_true rfl) (Nat.le_of_ble_eq_true rfl)) (Nat.le_of_ble_eq_true rfl) (Nat.le_of_ble_eq_true rfl) (Nat.le_of_ble_eq_true rfl)) (Nat.le_of_ble_eq_true rfl) (Nat.le_of_ble_eq_true rfl) (Nat.le_of_ble_eq_true rfl) (Nat.le_of_ble_eq_true rfl) (Nat.le_of_ble_eq_true rfl)) (Nat.le_of_ble_eq_true rfl) (Nat.le_of_ble_eq_true rfl) (Nat.le_of_ble_eq_true rfl) (Nat.le_of_ble_eq_true rfl) (Nat.le_of_ble_eq_true rfl)) (gf_sub 623 1249 (gf_i2d 10 (cB_k koy)) (gf_add 623 1248 g1 (gf_mul 623 1247 (gz_ti (gz_t0 kc kox koy g0 g1 g2 g3)) (gf_sub 934 1153 g3 g1 (Nat.le_of_ble_eq_true rfl) (Nat.le_of_ble_eq_true rfl) (Nat.le_of_ble_eq_true rfl) (Nat.le_of_ble_eq_true rfl) (Nat.le_of_ble_eq_true rfl)) (Nat.le_of_ble_eq_true rfl) (Nat.le_of_ble_eq_true rfl) (Nat.le_of_ble_eq_true rfl)) (Nat.le_of_ble_eq_true rfl) (Nat.le_of_ble_eq_true rfl) (Nat.le_of_ble_eq_true rfl) (Nat.le_of_ble_eq_true rfl) (Nat.le_of_ble_eq_true rfl)) (Nat.le_of_ble_eq_true rfl) (Nat.le_of_ble_eq_true rfl) (Nat.le_of_ble_eq_true rfl) (Nat.le_of_ble_eq_true rfl) (Nat.le_of_ble_eq_true rfl)) (Nat.le_of_ble_eq_true rfl) (Nat.le_of_ble_eq_true rfl) (Nat.le_of_ble_eq_true rfl)) (Nat.le_of_ble_eq_true rfl) (Nat.le_of_ble_eq_true rfl) (Nat.le_of_ble_eq_true rfl) (Nat.le_of_ble_eq_true rfl) (Nat.le_of_ble_eq_true rfl))
set_option maxHeartbeats 4000000 in
set_option maxRecDepth 100000 in
theorem mX5_findCentre (l : Launch) (D : va_G) (cI cH : ClassId) (st hg : Nat) (s0 s1 : Int32) (p0 p1 p2 p3 p4 p5 p6 p7 p8 p9 p10 p11 : UInt64) (ux uy a lx ly b c sd g d sx sy f : Int32)  (hne : hg ≠ st) (kU : cB s0) (kV : cB s1) (klx : cB lx) (kly : cB ly) (g0 : fGr 1021 1086 p0) (g1 : fGr 1074 1084 p1) (g2 : fGr 888 1153 p2) (g3 : fGr 934 1152 p3) : Met l yX5_findCentre wsX5_findCentre ({ frames := 0, cells := 0, slots := 0, locals := 0 }) (va_Pc [.ref st, .ref hg] (kB D cI cH [(st, .inr (4, [.int s0, .int s1, .double p0, .double p1, .double p2, .double p3, .double p4, .double p5, .double p6, .double p7, .double p8, .double p9, .double p10, .double p11])), (hg, .inr (1, [.int ux, .int uy, .int a, .int lx, .int ly, .int b, .int c, .int sd, .int g, .int d, .int sx, .int sy, .int f]))])) (va_Qi (fun (r : Int32) (u : List Value) => (r = 1 ∧ fv (tN s0 s1 lx ly p0 p1 p2 p3) ≠ 0 ∧ u = [.int s0, .int s1, .double p0, .double p1, .double p2, .double p3, .double p4, .double p5, .double (tIx s0 s1 lx ly p0 p1 p2 p3), .double (tIy s0 s1 lx ly p0 p1 p2 p3), .double p8, .double p9, .double p10, .double p11]) ∨ (r = 0 ∧ fv (tN s0 s1 lx ly p0 p1 p2 p3) = 0 ∧ u = [.int s0, .int s1, .double p0, .double p1, .double p2, .double p3, .double p4, .double p5, .double p6, .double p7, .double p8, .double p9, .double p10, .double p11])) (fun u t => va_at D vwCl (st, .inr (4, u)) t.heap) (aE st)) 0 0 (aE st) := by
  refine Met.ofW (cc := cX5_findCentre) (maxL := 6) (ret := (some .boolean)) (by decide) rfl ?_
  intro p e s m args below meth co s₁ B hml hv
  obtain ⟨rfl, hP0, hw⟩ := hv
  have hx := B.exec
  have hb := B.bytes
  have hr := B.returns
  have hts := atoms_spec (ws := wsX5_findCentre) B.pre
  have hown : s.vm.findClass RX5 = some m.cls := findClass_of_methodNamed B.named
  have hlocks := B.notSynchronized
  have hinX2 : ∀ w ∈ wsX20, w ∈ wsX5_findCentre := by decide +kernel
  have hinX5 : ∀ w ∈ wsX50, w ∈ wsX5_findCentre := by decide +kernel
  have hS : va_S (aE st) s.heap s.heap [] := va_S.rf
  have hP : va_P D vwCl [(st, .inr (4, [.int s0, .int s1, .double p0, .double p1, .double p2, .double p3, .double p4, .double p5, .double p6, .double p7, .double p8, .double p9, .double p10, .double p11]))] s.heap := hP0.sub [0] rfl
  have hD : va_D (aE st) [(st, .inr (4, [.int s0, .int s1, .double p0, .double p1, .double p2, .double p3, .double p4, .double p5, .double p6, .double p7, .double p8, .double p9, .double p10, .double p11]))] := D_1 rfl
  have hR0 : va_P D vwCl [(hg, .inr (1, [.int ux, .int uy, .int a, .int lx, .int ly, .int b, .int c, .int sd, .int g, .int d, .int sx, .int sy, .int f]))] s.heap := hP0.sub [1] rfl
  have hR := hR0
  have hnr : ∀ (k : Nat) (q : Nat × va_E), ([(hg, .inr (1, [.int ux, .int uy, .int a, .int lx, .int ly, .int b, .int c, .int sd, .int g, .int d, .int sx, .int sy, .int f]))] : va_W)[k]? = some q → ¬ (aE st) q.1 := nn_1 hne nn_0
  have hl := lv_entry ([.ref st, .ref hg]) (n := 6) (Nat.le_of_ble_eq_true rfl)
  rw [lg_entry_eq]
  generalize (lg_sl ([.ref st, .ref hg]) ++ List.replicate (6 - (lg_sl ([.ref st, .ref hg])).length) Slot.unset).toArray = ls at hl ⊢
  have hl : lv_has ls 6 [(0, .ref st), (1, .ref hg)] := hl
  skip
  refine lv_aload_n hx hb dX5_findCentre_0 rfl (lv_at hl 0 rfl) ?_
  refine va_get (D := D) (ci := 4) (v := .double p2) (C := RX5) (T := TX5) (N := 14) hx hb hts hinX5 hown hw.1 hP 0 rfl rfl 4 (by decide) (hts (.fieldLink RX5 63 "WheelSwing$Stand" "qx" "D") (by decide +kernel)) (fun _ h9 => h9) rfl dX5_findCentre_1 ?_
  refine lv_aload_n hx hb dX5_findCentre_4 rfl (lv_at hl 0 rfl) ?_
  refine va_get (D := D) (ci := 4) (v := .int s0) (C := RX5) (T := TX5) (N := 14) hx hb hts hinX5 hown hw.1 hP 0 rfl rfl 0 (by decide) (hts (.fieldLink RX5 16 "WheelSwing$Stand" "ux" "I") (by decide +kernel)) (fun _ h9 => h9) rfl dX5_findCentre_5 ?_
  refine lv_i2d hx hb dX5_findCentre_8 ?_
  have gw1 := gf_i2d 10 (cB_k kU)
  have gw2 := gf_sub 888 1154 g2 gw1 (Nat.le_of_ble_eq_true rfl) (Nat.le_of_ble_eq_true rfl) (Nat.le_of_ble_eq_true rfl) (Nat.le_of_ble_eq_true rfl) (Nat.le_of_ble_eq_true rfl)
  refine lv_dsub hx hb dX5_findCentre_9 (gf_n64 gw2) ?_
  refine lv_topd (fun v3 ev3 => ?_)
  rw [← ev3] at gw2
  refine lv_aload_n hx hb dX5_findCentre_10 rfl (lv_at hl 0 rfl) ?_
  refine va_get (D := D) (ci := 4) (v := .double p1) (C := RX5) (T := TX5) (N := 14) hx hb hts hinX5 hown hw.1 hP 0 rfl rfl 3 (by decide) (hts (.fieldLink RX5 37 "WheelSwing$Stand" "py" "D") (by decide +kernel)) (fun _ h9 => h9) rfl dX5_findCentre_11 ?_
  refine lv_aload_n hx hb dX5_findCentre_14 rfl (lv_at hl 1 rfl) ?_
  refine va_getN (host := "WheelSwing") (D := D) (ci := 1) (v := .int ly) (C := RX2) (T := TX2) (N := 13) hx hb hts hinX2 hown hw.1 hR 0 rfl rfl 4 (by decide) (va_Nw.use rfl (hw.2 (.fieldLinkNest RX5 13 "WheelSwing$Hanging" "ly" "I" "WheelSwing") (by decide +kernel))) (fun _ h9 => h9) rfl dX5_findCentre_15 ?_
  refine lv_i2d hx hb dX5_findCentre_18 ?_
  have gw4 := gf_i2d 10 (cB_k kly)
  have gw5 := gf_sub 1074 1085 g1 gw4 (Nat.le_of_ble_eq_true rfl) (Nat.le_of_ble_eq_true rfl) (Nat.le_of_ble_eq_true rfl) (Nat.le_of_ble_eq_true rfl) (Nat.le_of_ble_eq_true rfl)
  refine lv_dsub hx hb dX5_findCentre_19 (gf_n64 gw5) ?_
  refine lv_topd (fun v6 ev6 => ?_)
  rw [← ev6] at gw5
  have gw7 := gf_mul 888 1165 gw2 gw5 (Nat.le_of_ble_eq_true rfl) (Nat.le_of_ble_eq_true rfl) (Nat.le_of_ble_eq_true rfl)
  refine lv_dmul hx hb dX5_findCentre_20 (gf_n64 gw7) ?_
  refine lv_topd (fun v8 ev8 => ?_)
  rw [← ev8] at gw7
  refine lv_aload_n hx hb dX5_findCentre_21 rfl (lv_at hl 0 rfl) ?_
  refine va_get (D := D) (ci := 4) (v := .double p3) (C := RX5) (T := TX5) (N := 14) hx hb hts hinX5 hown hw.1 hP 0 rfl rfl 5 (by decide) (hts (.fieldLink RX5 66 "WheelSwing$Stand" "qy" "D") (by decide +kernel)) (fun _ h9 => h9) rfl dX5_findCentre_22 ?_
  refine lv_aload_n hx hb dX5_findCentre_25 rfl (lv_at hl 0 rfl) ?_
  refine va_get (D := D) (ci := 4) (v := .int s1) (C := RX5) (T := TX5) (N := 14) hx hb hts hinX5 hown hw.1 hP 0 rfl rfl 1 (by decide) (hts (.fieldLink RX5 21 "WheelSwing$Stand" "uy" "I") (by decide +kernel)) (fun _ h9 => h9) rfl dX5_findCentre_26 ?_
  refine lv_i2d hx hb dX5_findCentre_29 ?_
  have gw9 := gf_i2d 10 (cB_k kV)
  have gw10 := gf_sub 934 1153 g3 gw9 (Nat.le_of_ble_eq_true rfl) (Nat.le_of_ble_eq_true rfl) (Nat.le_of_ble_eq_true rfl) (Nat.le_of_ble_eq_true rfl) (Nat.le_of_ble_eq_true rfl)
  refine lv_dsub hx hb dX5_findCentre_30 (gf_n64 gw10) ?_
  refine lv_topd (fun v11 ev11 => ?_)
  rw [← ev11] at gw10
  refine lv_aload_n hx hb dX5_findCentre_31 rfl (lv_at hl 0 rfl) ?_
  refine va_get (D := D) (ci := 4) (v := .double p0) (C := RX5) (T := TX5) (N := 14) hx hb hts hinX5 hown hw.1 hP 0 rfl rfl 2 (by decide) (hts (.fieldLink RX5 33 "WheelSwing$Stand" "px" "D") (by decide +kernel)) (fun _ h9 => h9) rfl dX5_findCentre_32 ?_
  refine lv_aload_n hx hb dX5_findCentre_35 rfl (lv_at hl 1 rfl) ?_
  refine va_getN (host := "WheelSwing") (D := D) (ci := 1) (v := .int lx) (C := RX2) (T := TX2) (N := 13) hx hb hts hinX2 hown hw.1 hR 0 rfl rfl 3 (by decide) (va_Nw.use rfl (hw.2 (.fieldLinkNest RX5 24 "WheelSwing$Hanging" "lx" "I" "WheelSwing") (by decide +kernel))) (fun _ h9 => h9) rfl dX5_findCentre_36 ?_
  refine lv_i2d hx hb dX5_findCentre_39 ?_
  have gw12 := gf_i2d 10 (cB_k klx)
  have gw13 := gf_sub 1021 1087 g0 gw12 (Nat.le_of_ble_eq_true rfl) (Nat.le_of_ble_eq_true rfl) (Nat.le_of_ble_eq_true rfl) (Nat.le_of_ble_eq_true rfl) (Nat.le_of_ble_eq_true rfl)
  refine lv_dsub hx hb dX5_findCentre_40 (gf_n64 gw13) ?_
  refine lv_topd (fun v14 ev14 => ?_)
  rw [← ev14] at gw13
  have gw15 := gf_mul 881 1166 gw10 gw13 (Nat.le_of_ble_eq_true rfl) (Nat.le_of_ble_eq_true rfl) (Nat.le_of_ble_eq_true rfl)
  refine lv_dmul hx hb dX5_findCentre_41 (gf_n64 gw15) ?_
  refine lv_topd (fun v16 ev16 => ?_)
  rw [← ev16] at gw15
  have gw17 := gf_sub 881 1167 gw7 gw15 (Nat.le_of_ble_eq_true rfl) (Nat.le_of_ble_eq_true rfl) (Nat.le_of_ble_eq_true rfl) (Nat.le_of_ble_eq_true rfl) (Nat.le_of_ble_eq_true rfl)
  refine lv_dsub hx hb dX5_findCentre_42 (gf_n64 gw17) ?_
  refine lv_topd (fun v18 ev18 => ?_)
  rw [← ev18] at gw17
  have fv18 : v18 = tN s0 s1 lx ly p0 p1 p2 p3 := by rw [ev18, ev16, ev14, ev11, ev8, ev6, ev3]; rfl
  clear ev18 gw17
  subst fv18
  refine lv_dstore_n (lv' := [(2, .double (tN s0 s1 lx ly p0 p1 p2 p3)), (0, .ref st), (1, .ref hg)]) hx hb dX5_findCentre_43 rfl hl (by decide) rfl (fun ls hl => ?_)
  refine lv_dload_n hx hb dX5_findCentre_44 rfl (lv_at hl 0 rfl) ?_
  refine lv_dconst0 hx hb dX5_findCentre_45 ?_
  refine lv_dcmp hx hb dX5_findCentre_46 ?_
  rw [fp_cv (gz_n kU kV klx kly g0 g1 g2 g3).1 gf_c0.1]
  refine lv_if_ne (tgt := 52) hx hb dX5_findCentre_47 (by decide) (fun c19 => ?_) (fun c19 => ?_)
  · rw [fcv_eq] at c19
    have hn : fv (tN s0 s1 lx ly p0 p1 p2 p3) ≠ 0 := by have hq := c19; rw [fv_c0] at hq; exact hq
    refine lv_aload_n hx hb dX5_findCentre_52 rfl (lv_at hl 2 rfl) ?_
    refine va_getN (host := "WheelSwing") (D := D) (ci := 1) (v := .int lx) (C := RX2) (T := TX2) (N := 13) hx hb hts hinX2 hown hw.1 hR 0 rfl rfl 3 (by decide) (va_Nw.use rfl (hw.2 (.fieldLinkNest RX5 24 "WheelSwing$Hanging" "lx" "I" "WheelSwing") (by decide +kernel))) (fun _ h9 => h9) rfl dX5_findCentre_53 ?_
    refine lv_aload_n hx hb dX5_findCentre_56 rfl (lv_at hl 1 rfl) ?_
    refine va_get (D := D) (ci := 4) (v := .int s0) (C := RX5) (T := TX5) (N := 14) hx hb hts hinX5 hown hw.1 hP 0 rfl rfl 0 (by decide) (hts (.fieldLink RX5 16 "WheelSwing$Stand" "ux" "I") (by decide +kernel)) (fun _ h9 => h9) rfl dX5_findCentre_57 ?_
    refine lv_isub hx hb dX5_findCentre_60 ?_
    refine lv_i2d hx hb dX5_findCentre_61 ?_
    have gw20 := gf_i2d 11 (cc2_k klx kU)
    refine lv_aload_n hx hb dX5_findCentre_62 rfl (lv_at hl 1 rfl) ?_
    refine va_get (D := D) (ci := 4) (v := .double p1) (C := RX5) (T := TX5) (N := 14) hx hb hts hinX5 hown hw.1 hP 0 rfl rfl 3 (by decide) (hts (.fieldLink RX5 37 "WheelSwing$Stand" "py" "D") (by decide +kernel)) (fun _ h9 => h9) rfl dX5_findCentre_63 ?_
    refine lv_aload_n hx hb dX5_findCentre_66 rfl (lv_at hl 2 rfl) ?_
    refine va_getN (host := "WheelSwing") (D := D) (ci := 1) (v := .int ly) (C := RX2) (T := TX2) (N := 13) hx hb hts hinX2 hown hw.1 hR 0 rfl rfl 4 (by decide) (va_Nw.use rfl (hw.2 (.fieldLinkNest RX5 13 "WheelSwing$Hanging" "ly" "I" "WheelSwing") (by decide +kernel))) (fun _ h9 => h9) rfl dX5_findCentre_67 ?_
    refine lv_i2d hx hb dX5_findCentre_70 ?_
    have gw21 := gf_i2d 10 (cB_k kly)
    have gw22 := gf_sub 1074 1085 g1 gw21 (Nat.le_of_ble_eq_true rfl) (Nat.le_of_ble_eq_true rfl) (Nat.le_of_ble_eq_true rfl) (Nat.le_of_ble_eq_true rfl) (Nat.le_of_ble_eq_true rfl)
    refine lv_dsub hx hb dX5_findCentre_71 (gf_n64 gw22) ?_
    refine lv_topd (fun v23 ev23 => ?_)
    rw [← ev23] at gw22
    have gw24 := gf_mul 1074 1096 gw20 gw22 (Nat.le_of_ble_eq_true rfl) (Nat.le_of_ble_eq_true rfl) (Nat.le_of_ble_eq_true rfl)
    refine lv_dmul hx hb dX5_findCentre_72 (gf_n64 gw24) ?_
    refine lv_topd (fun v25 ev25 => ?_)
    rw [← ev25] at gw24
    refine lv_aload_n hx hb dX5_findCentre_73 rfl (lv_at hl 2 rfl) ?_
    refine va_getN (host := "WheelSwing") (D := D) (ci := 1) (v := .int ly) (C := RX2) (T := TX2) (N := 13) hx hb hts hinX2 hown hw.1 hR 0 rfl rfl 4 (by decide) (va_Nw.use rfl (hw.2 (.fieldLinkNest RX5 13 "WheelSwing$Hanging" "ly" "I" "WheelSwing") (by decide +kernel))) (fun _ h9 => h9) rfl dX5_findCentre_74 ?_
    refine lv_aload_n hx hb dX5_findCentre_77 rfl (lv_at hl 1 rfl) ?_
    refine va_get (D := D) (ci := 4) (v := .int s1) (C := RX5) (T := TX5) (N := 14) hx hb hts hinX5 hown hw.1 hP 0 rfl rfl 1 (by decide) (hts (.fieldLink RX5 21 "WheelSwing$Stand" "uy" "I") (by decide +kernel)) (fun _ h9 => h9) rfl dX5_findCentre_78 ?_
    refine lv_isub hx hb dX5_findCentre_81 ?_
    refine lv_i2d hx hb dX5_findCentre_82 ?_
    have gw26 := gf_i2d 11 (cc2_k kly kV)
    refine lv_aload_n hx hb dX5_findCentre_83 rfl (lv_at hl 1 rfl) ?_
    refine va_get (D := D) (ci := 4) (v := .double p0) (C := RX5) (T := TX5) (N := 14) hx hb hts hinX5 hown hw.1 hP 0 rfl rfl 2 (by decide) (hts (.fieldLink RX5 33 "WheelSwing$Stand" "px" "D") (by decide +kernel)) (fun _ h9 => h9) rfl dX5_findCentre_84 ?_
    refine lv_aload_n hx hb dX5_findCentre_87 rfl (lv_at hl 2 rfl) ?_
    refine va_getN (host := "WheelSwing") (D := D) (ci := 1) (v := .int lx) (C := RX2) (T := TX2) (N := 13) hx hb hts hinX2 hown hw.1 hR 0 rfl rfl 3 (by decide) (va_Nw.use rfl (hw.2 (.fieldLinkNest RX5 24 "WheelSwing$Hanging" "lx" "I" "WheelSwing") (by decide +kernel))) (fun _ h9 => h9) rfl dX5_findCentre_88 ?_
    refine lv_i2d hx hb dX5_findCentre_91 ?_
    have gw27 := gf_i2d 10 (cB_k klx)
    have gw28 := gf_sub 1021 1087 g0 gw27 (Nat.le_of_ble_eq_true rfl) (Nat.le_of_ble_eq_true rfl) (Nat.le_of_ble_eq_true rfl) (Nat.le_of_ble_eq_true rfl) (Nat.le_of_ble_eq_true rfl)
    refine lv_dsub hx hb dX5_findCentre_92 (gf_n64 gw28) ?_
    refine lv_topd (fun v29 ev29 => ?_)
    rw [← ev29] at gw28
    have gw30 := gf_mul 1021 1098 gw26 gw28 (Nat.le_of_ble_eq_true rfl) (Nat.le_of_ble_eq_true rfl) (Nat.le_of_ble_eq_true rfl)
    refine lv_dmul hx hb dX5_findCentre_93 (gf_n64 gw30) ?_
    refine lv_topd (fun v31 ev31 => ?_)
    rw [← ev31] at gw30
    have gw32 := gf_sub 1021 1099 gw24 gw30 (Nat.le_of_ble_eq_true rfl) (Nat.le_of_ble_eq_true rfl) (Nat.le_of_ble_eq_true rfl) (Nat.le_of_ble_eq_true rfl) (Nat.le_of_ble_eq_true rfl)
    refine lv_dsub hx hb dX5_findCentre_94 (gf_n64 gw32) ?_
    refine lv_topd (fun v33 ev33 => ?_)
    rw [← ev33] at gw32
    refine lv_dload_n hx hb dX5_findCentre_95 rfl (lv_at hl 0 rfl) ?_
    have gw34 := gf_div 876 1292 gw32 (gz_n kU kV klx kly g0 g1 g2 g3) hn (Nat.le_of_ble_eq_true rfl) (Nat.le_of_ble_eq_true rfl) (Nat.le_of_ble_eq_true rfl)
    refine lv_ddiv hx hb dX5_findCentre_96 (gf_n64 gw34) ?_
    refine lv_topd (fun v35 ev35 => ?_)
    rw [← ev35] at gw34
    have fv35 : v35 = tW s0 s1 lx ly p0 p1 p2 p3 := by rw [ev35, ev33, ev31, ev29, ev25, ev23]; rfl
    clear ev35 gw34
    subst fv35
    refine lv_dstore (lv' := [(4, .double (tW s0 s1 lx ly p0 p1 p2 p3)), (2, .double (tN s0 s1 lx ly p0 p1 p2 p3)), (0, .ref st), (1, .ref hg)]) hx hb dX5_findCentre_97 hl (by decide) rfl (fun ls hl => ?_)
    refine lv_aload_n hx hb dX5_findCentre_99 rfl (lv_at hl 2 rfl) ?_
    refine lv_aload_n hx hb dX5_findCentre_100 rfl (lv_at hl 2 rfl) ?_
    refine va_get (D := D) (ci := 4) (v := .int s0) (C := RX5) (T := TX5) (N := 14) hx hb hts hinX5 hown hw.1 hP 0 rfl rfl 0 (by decide) (hts (.fieldLink RX5 16 "WheelSwing$Stand" "ux" "I") (by decide +kernel)) (fun _ h9 => h9) rfl dX5_findCentre_101 ?_
    refine lv_i2d hx hb dX5_findCentre_104 ?_
    have gw36 := gf_i2d 10 (cB_k kU)
    refine lv_dload hx hb dX5_findCentre_105 (lv_at hl 0 rfl) ?_
    refine lv_aload_n hx hb dX5_findCentre_107 rfl (lv_at hl 2 rfl) ?_
    refine va_get (D := D) (ci := 4) (v := .double p2) (C := RX5) (T := TX5) (N := 14) hx hb hts hinX5 hown hw.1 hP 0 rfl rfl 4 (by decide) (hts (.fieldLink RX5 63 "WheelSwing$Stand" "qx" "D") (by decide +kernel)) (fun _ h9 => h9) rfl dX5_findCentre_108 ?_
    refine lv_aload_n hx hb dX5_findCentre_111 rfl (lv_at hl 2 rfl) ?_
    refine va_get (D := D) (ci := 4) (v := .int s0) (C := RX5) (T := TX5) (N := 14) hx hb hts hinX5 hown hw.1 hP 0 rfl rfl 0 (by decide) (hts (.fieldLink RX5 16 "WheelSwing$Stand" "ux" "I") (by decide +kernel)) (fun _ h9 => h9) rfl dX5_findCentre_112 ?_
    refine lv_i2d hx hb dX5_findCentre_115 ?_
    have gw37 := gf_i2d 10 (cB_k kU)
    have gw38 := gf_sub 888 1154 g2 gw37 (Nat.le_of_ble_eq_true rfl) (Nat.le_of_ble_eq_true rfl) (Nat.le_of_ble_eq_true rfl) (Nat.le_of_ble_eq_true rfl) (Nat.le_of_ble_eq_true rfl)
    refine lv_dsub hx hb dX5_findCentre_116 (gf_n64 gw38) ?_
    refine lv_topd (fun v39 ev39 => ?_)
    rw [← ev39] at gw38
    have gw40 := gf_mul 690 1372 (gz_w kU kV klx kly g0 g1 g2 g3 hn) gw38 (Nat.le_of_ble_eq_true rfl) (Nat.le_of_ble_eq_true rfl) (Nat.le_of_ble_eq_true rfl)
    refine lv_dmul hx hb dX5_findCentre_117 (gf_n64 gw40) ?_
    refine lv_topd (fun v41 ev41 => ?_)
    rw [← ev41] at gw40
    have gw42 := gf_add 690 1373 gw36 gw40 (Nat.le_of_ble_eq_true rfl) (Nat.le_of_ble_eq_true rfl) (Nat.le_of_ble_eq_true rfl) (Nat.le_of_ble_eq_true rfl) (Nat.le_of_ble_eq_true rfl)
    refine lv_dadd hx hb dX5_findCentre_118 (gf_n64 gw42) ?_
    refine lv_topd (fun v43 ev43 => ?_)
    rw [← ev43] at gw42
    have fv43 : v43 = tIx s0 s1 lx ly p0 p1 p2 p3 := by rw [ev43, ev41, ev39]; rfl
    clear ev43 gw42
    subst fv43
    refine va_put (D := D) (ci := 4) (v := .double (tIx s0 s1 lx ly p0 p1 p2 p3)) (ty := .double) (C := RX5) (T := TX5) (N := 14) hx hb hts hinX5 tyX5 tyX5_ok nmX5 hown hw.1 hP hD hS 0 rfl rfl 8 (by decide) (hts (.fieldLink RX5 81 "WheelSwing$Stand" "ix" "D") (by decide +kernel)) (fun _ h9 => h9) rfl (by decide +kernel) rfl rfl (Nat.le_of_ble_eq_true rfl) dX5_findCentre_119 (fun H locs hP hD hS => ?_)
    have hP : va_P D vwCl [(st, .inr (4, [.int s0, .int s1, .double p0, .double p1, .double p2, .double p3, .double p4, .double p5, .double (tIx s0 s1 lx ly p0 p1 p2 p3), .double p7, .double p8, .double p9, .double p10, .double p11]))] H := hP
    have hD : va_D (aE st) [(st, .inr (4, [.int s0, .int s1, .double p0, .double p1, .double p2, .double p3, .double p4, .double p5, .double (tIx s0 s1 lx ly p0 p1 p2 p3), .double p7, .double p8, .double p9, .double p10, .double p11]))] := hD
    have hR := fr_rd hR0 hS hnr
    refine lv_aload_n hx hb dX5_findCentre_122 rfl (lv_at hl 2 rfl) ?_
    refine lv_aload_n hx hb dX5_findCentre_123 rfl (lv_at hl 2 rfl) ?_
    refine va_get (D := D) (ci := 4) (v := .int s1) (C := RX5) (T := TX5) (N := 14) hx hb hts hinX5 hown hw.1 hP 0 rfl rfl 1 (by decide) (hts (.fieldLink RX5 21 "WheelSwing$Stand" "uy" "I") (by decide +kernel)) (fun _ h9 => h9) rfl dX5_findCentre_124 ?_
    refine lv_i2d hx hb dX5_findCentre_127 ?_
    have gw44 := gf_i2d 10 (cB_k kV)
    refine lv_dload hx hb dX5_findCentre_128 (lv_at hl 0 rfl) ?_
    refine lv_aload_n hx hb dX5_findCentre_130 rfl (lv_at hl 2 rfl) ?_
    refine va_get (D := D) (ci := 4) (v := .double p3) (C := RX5) (T := TX5) (N := 14) hx hb hts hinX5 hown hw.1 hP 0 rfl rfl 5 (by decide) (hts (.fieldLink RX5 66 "WheelSwing$Stand" "qy" "D") (by decide +kernel)) (fun _ h9 => h9) rfl dX5_findCentre_131 ?_
    refine lv_aload_n hx hb dX5_findCentre_134 rfl (lv_at hl 2 rfl) ?_
    refine va_get (D := D) (ci := 4) (v := .int s1) (C := RX5) (T := TX5) (N := 14) hx hb hts hinX5 hown hw.1 hP 0 rfl rfl 1 (by decide) (hts (.fieldLink RX5 21 "WheelSwing$Stand" "uy" "I") (by decide +kernel)) (fun _ h9 => h9) rfl dX5_findCentre_135 ?_
    refine lv_i2d hx hb dX5_findCentre_138 ?_
    have gw45 := gf_i2d 10 (cB_k kV)
    have gw46 := gf_sub 934 1153 g3 gw45 (Nat.le_of_ble_eq_true rfl) (Nat.le_of_ble_eq_true rfl) (Nat.le_of_ble_eq_true rfl) (Nat.le_of_ble_eq_true rfl) (Nat.le_of_ble_eq_true rfl)
    refine lv_dsub hx hb dX5_findCentre_139 (gf_n64 gw46) ?_
    refine lv_topd (fun v47 ev47 => ?_)
    rw [← ev47] at gw46
    have gw48 := gf_mul 736 1371 (gz_w kU kV klx kly g0 g1 g2 g3 hn) gw46 (Nat.le_of_ble_eq_true rfl) (Nat.le_of_ble_eq_true rfl) (Nat.le_of_ble_eq_true rfl)
    refine lv_dmul hx hb dX5_findCentre_140 (gf_n64 gw48) ?_
    refine lv_topd (fun v49 ev49 => ?_)
    rw [← ev49] at gw48
    have gw50 := gf_add 736 1372 gw44 gw48 (Nat.le_of_ble_eq_true rfl) (Nat.le_of_ble_eq_true rfl) (Nat.le_of_ble_eq_true rfl) (Nat.le_of_ble_eq_true rfl) (Nat.le_of_ble_eq_true rfl)
    refine lv_dadd hx hb dX5_findCentre_141 (gf_n64 gw50) ?_
    refine lv_topd (fun v51 ev51 => ?_)
    rw [← ev51] at gw50
    have fv51 : v51 = tIy s0 s1 lx ly p0 p1 p2 p3 := by rw [ev51, ev49, ev47]; rfl
    clear ev51 gw50
    subst fv51
    refine va_put (D := D) (ci := 4) (v := .double (tIy s0 s1 lx ly p0 p1 p2 p3)) (ty := .double) (C := RX5) (T := TX5) (N := 14) hx hb hts hinX5 tyX5 tyX5_ok nmX5 hown hw.1 hP hD hS 0 rfl rfl 9 (by decide) (hts (.fieldLink RX5 84 "WheelSwing$Stand" "iy" "D") (by decide +kernel)) (fun _ h9 => h9) rfl (by decide +kernel) rfl rfl (Nat.le_of_ble_eq_true rfl) dX5_findCentre_142 (fun H locs hP hD hS => ?_)
    have hP : va_P D vwCl [(st, .inr (4, [.int s0, .int s1, .double p0, .double p1, .double p2, .double p3, .double p4, .double p5, .double (tIx s0 s1 lx ly p0 p1 p2 p3), .double (tIy s0 s1 lx ly p0 p1 p2 p3), .double p8, .double p9, .double p10, .double p11]))] H := hP
    have hD : va_D (aE st) [(st, .inr (4, [.int s0, .int s1, .double p0, .double p1, .double p2, .double p3, .double p4, .double p5, .double (tIx s0 s1 lx ly p0 p1 p2 p3), .double (tIy s0 s1 lx ly p0 p1 p2 p3), .double p8, .double p9, .double p10, .double p11]))] := hD
    have hR := fr_rd hR0 hS hnr
    refine lv_iconst (v := 1) hx hb dX5_findCentre_145 (by decide) ?_
    exact W.zret (v := 1) hx hb hr rfl (fun t ht hW => ⟨⟨1, [.int s0, .int s1, .double p0, .double p1, .double p2, .double p3, .double p4, .double p5, .double (tIx s0 s1 lx ly p0 p1 p2 p3), .double (tIy s0 s1 lx ly p0 p1 p2 p3), .double p8, .double p9, .double p10, .double p11], rfl, Or.inl ⟨rfl, hn, rfl⟩, at_heap ht (hP 0 _ rfl)⟩, hS.F ht⟩) hS.2.2 dX5_findCentre_146
  · rw [fcv_eq] at c19
    refine lv_iconst (v := 0) hx hb dX5_findCentre_50 (by decide) ?_
    exact W.zret (v := 0) hx hb hr rfl (fun t ht hW => ⟨⟨0, [.int s0, .int s1, .double p0, .double p1, .double p2, .double p3, .double p4, .double p5, .double p6, .double p7, .double p8, .double p9, .double p10, .double p11], rfl, Or.inr ⟨rfl, by have hq := c19; rw [fv_c0] at hq; exact hq, rfl⟩, at_heap ht (hP 0 _ rfl)⟩, hS.F ht⟩) hS.2.2 dX5_findCentre_51
set_option maxHeartbeats 4000000 in
set_option maxRecDepth 100000 in
theorem mX5_springLength (l : Launch) (D : va_G) (cI cH : ClassId) (st hg : Nat) (s0 s1 : Int32) (p0 p1 p2 p3 p4 p5 p6 p7 p8 p9 p10 p11 : UInt64) (ux uy a lx ly b c sd g d sx sy f : Int32)  (klx : cB lx) (kly : cB ly) (ksx : cB sx) (ksy : cB sy) (kf : zB f) (g0 : fGr 1021 1086 p0) (g1 : fGr 1074 1084 p1) : Met l yX5_springLength wsX5_springLength ({ frames := 3, cells := 0, slots := 0, locals := 79 }) (va_Pc [.ref st, .ref hg] (kB D cI cH [(st, .inr (4, [.int s0, .int s1, .double p0, .double p1, .double p2, .double p3, .double p4, .double p5, .double p6, .double p7, .double p8, .double p9, .double p10, .double p11])), (hg, .inr (1, [.int ux, .int uy, .int a, .int lx, .int ly, .int b, .int c, .int sd, .int g, .int d, .int sx, .int sy, .int f]))])) (va_Qd (fun (r : UInt64) (u : Unit) => r = tL lx ly sx sy f p0 p1) (fun _ _ => True) nA) 0 0 nA := by
  refine Met.ofW (cc := cX5_springLength) (maxL := 6) (ret := (some .double)) (by decide) rfl ?_
  intro p e s m args below meth co s₁ B hml hv
  obtain ⟨rfl, hP0, hw⟩ := hv
  have hx := B.exec
  have hb := B.bytes
  have hr := B.returns
  have hts := atoms_spec (ws := wsX5_springLength) B.pre
  have hown : s.vm.findClass RX5 = some m.cls := findClass_of_methodNamed B.named
  have hlocks := B.notSynchronized
  have hinX2 : ∀ w ∈ wsX20, w ∈ wsX5_springLength := by decide +kernel
  have hinX5 : ∀ w ∈ wsX50, w ∈ wsX5_springLength := by decide +kernel
  have hS : va_S nA s.heap s.heap [] := va_S.rf
  have hR0 : va_P D vwCl [(st, .inr (4, [.int s0, .int s1, .double p0, .double p1, .double p2, .double p3, .double p4, .double p5, .double p6, .double p7, .double p8, .double p9, .double p10, .double p11])), (hg, .inr (1, [.int ux, .int uy, .int a, .int lx, .int ly, .int b, .int c, .int sd, .int g, .int d, .int sx, .int sy, .int f]))] s.heap := hP0.sub [0, 1] rfl
  have hR := hR0
  have hnr : ∀ (k : Nat) (q : Nat × va_E), ([(st, .inr (4, [.int s0, .int s1, .double p0, .double p1, .double p2, .double p3, .double p4, .double p5, .double p6, .double p7, .double p8, .double p9, .double p10, .double p11])), (hg, .inr (1, [.int ux, .int uy, .int a, .int lx, .int ly, .int b, .int c, .int sd, .int g, .int d, .int sx, .int sy, .int f]))] : va_W)[k]? = some q → ¬ nA q.1 := fr_nA
  have hl := lv_entry ([.ref st, .ref hg]) (n := 6) (Nat.le_of_ble_eq_true rfl)
  rw [lg_entry_eq]
  generalize (lg_sl ([.ref st, .ref hg]) ++ List.replicate (6 - (lg_sl ([.ref st, .ref hg])).length) Slot.unset).toArray = ls at hl ⊢
  have hl : lv_has ls 6 [(0, .ref st), (1, .ref hg)] := hl
  skip
  refine lv_aload_n hx hb dX5_springLength_0 rfl (lv_at hl 1 rfl) ?_
  refine va_getN (host := "WheelSwing") (D := D) (ci := 1) (v := .int lx) (C := RX2) (T := TX2) (N := 13) hx hb hts hinX2 hown hw.1 hR 1 rfl rfl 3 (by decide) (va_Nw.use rfl (hw.2 (.fieldLinkNest RX5 24 "WheelSwing$Hanging" "lx" "I" "WheelSwing") (by decide +kernel))) (fun _ h9 => h9) rfl dX5_springLength_1 ?_
  refine lv_i2d hx hb dX5_springLength_4 ?_
  have gw1 := gf_i2d 10 (cB_k klx)
  refine lv_aload_n hx hb dX5_springLength_5 rfl (lv_at hl 1 rfl) ?_
  refine va_getN (host := "WheelSwing") (D := D) (ci := 1) (v := .int f) (C := RX2) (T := TX2) (N := 13) hx hb hts hinX2 hown hw.1 hR 1 rfl rfl 12 (by decide) (va_Nw.use rfl (hw.2 (.fieldLinkNest RX5 87 "WheelSwing$Hanging" "f" "I" "WheelSwing") (by decide +kernel))) (fun _ h9 => h9) rfl dX5_springLength_6 ?_
  refine lv_i2d hx hb dX5_springLength_9 ?_
  have gw2 := gf_i2d 10 (f_k kf)
  refine lv_aload_n hx hb dX5_springLength_10 rfl (lv_at hl 0 rfl) ?_
  refine va_get (D := D) (ci := 4) (v := .double p0) (C := RX5) (T := TX5) (N := 14) hx hb hts hinX5 hown hw.1 hR 0 rfl rfl 2 (by decide) (hts (.fieldLink RX5 33 "WheelSwing$Stand" "px" "D") (by decide +kernel)) (fun _ h9 => h9) rfl dX5_springLength_11 ?_
  refine lv_aload_n hx hb dX5_springLength_14 rfl (lv_at hl 1 rfl) ?_
  refine va_getN (host := "WheelSwing") (D := D) (ci := 1) (v := .int lx) (C := RX2) (T := TX2) (N := 13) hx hb hts hinX2 hown hw.1 hR 1 rfl rfl 3 (by decide) (va_Nw.use rfl (hw.2 (.fieldLinkNest RX5 24 "WheelSwing$Hanging" "lx" "I" "WheelSwing") (by decide +kernel))) (fun _ h9 => h9) rfl dX5_springLength_15 ?_
  refine lv_i2d hx hb dX5_springLength_18 ?_
  have gw3 := gf_i2d 10 (cB_k klx)
  have gw4 := gf_sub 1021 1087 g0 gw3 (Nat.le_of_ble_eq_true rfl) (Nat.le_of_ble_eq_true rfl) (Nat.le_of_ble_eq_true rfl) (Nat.le_of_ble_eq_true rfl) (Nat.le_of_ble_eq_true rfl)
  refine lv_dsub hx hb dX5_springLength_19 (gf_n64 gw4) ?_
  refine lv_topd (fun v5 ev5 => ?_)
  rw [← ev5] at gw4
  have gw6 := gf_mul 1021 1097 gw2 gw4 (Nat.le_of_ble_eq_true rfl) (Nat.le_of_ble_eq_true rfl) (Nat.le_of_ble_eq_true rfl)
  refine lv_dmul hx hb dX5_springLength_20 (gf_n64 gw6) ?_
  refine lv_topd (fun v7 ev7 => ?_)
  rw [← ev7] at gw6
  refine lv_ldc2d hx hb hown (hts (.constantDouble RX5 90 (4652007308841189376)) (by decide +kernel)) dX5_springLength_21 ?_
  have gw8 := gf_div 959 1094 gw6 gf_1000 ne_1000 (Nat.le_of_ble_eq_true rfl) (Nat.le_of_ble_eq_true rfl) (Nat.le_of_ble_eq_true rfl)
  refine lv_ddiv hx hb dX5_springLength_24 (gf_n64 gw8) ?_
  refine lv_topd (fun v9 ev9 => ?_)
  rw [← ev9] at gw8
  have gw10 := gf_add 959 1095 gw1 gw8 (Nat.le_of_ble_eq_true rfl) (Nat.le_of_ble_eq_true rfl) (Nat.le_of_ble_eq_true rfl) (Nat.le_of_ble_eq_true rfl) (Nat.le_of_ble_eq_true rfl)
  refine lv_dadd hx hb dX5_springLength_25 (gf_n64 gw10) ?_
  refine lv_topd (fun v11 ev11 => ?_)
  rw [← ev11] at gw10
  refine lv_dstore_n (lv' := [(2, .double v11), (0, .ref st), (1, .ref hg)]) hx hb dX5_springLength_26 rfl hl (by decide) rfl (fun ls hl => ?_)
  refine lv_aload_n hx hb dX5_springLength_27 rfl (lv_at hl 2 rfl) ?_
  refine va_getN (host := "WheelSwing") (D := D) (ci := 1) (v := .int ly) (C := RX2) (T := TX2) (N := 13) hx hb hts hinX2 hown hw.1 hR 1 rfl rfl 4 (by decide) (va_Nw.use rfl (hw.2 (.fieldLinkNest RX5 13 "WheelSwing$Hanging" "ly" "I" "WheelSwing") (by decide +kernel))) (fun _ h9 => h9) rfl dX5_springLength_28 ?_
  refine lv_i2d hx hb dX5_springLength_31 ?_
  have gw12 := gf_i2d 10 (cB_k kly)
  refine lv_aload_n hx hb dX5_springLength_32 rfl (lv_at hl 2 rfl) ?_
  refine va_getN (host := "WheelSwing") (D := D) (ci := 1) (v := .int f) (C := RX2) (T := TX2) (N := 13) hx hb hts hinX2 hown hw.1 hR 1 rfl rfl 12 (by decide) (va_Nw.use rfl (hw.2 (.fieldLinkNest RX5 87 "WheelSwing$Hanging" "f" "I" "WheelSwing") (by decide +kernel))) (fun _ h9 => h9) rfl dX5_springLength_33 ?_
  refine lv_i2d hx hb dX5_springLength_36 ?_
  have gw13 := gf_i2d 10 (f_k kf)
  refine lv_aload_n hx hb dX5_springLength_37 rfl (lv_at hl 1 rfl) ?_
  refine va_get (D := D) (ci := 4) (v := .double p1) (C := RX5) (T := TX5) (N := 14) hx hb hts hinX5 hown hw.1 hR 0 rfl rfl 3 (by decide) (hts (.fieldLink RX5 37 "WheelSwing$Stand" "py" "D") (by decide +kernel)) (fun _ h9 => h9) rfl dX5_springLength_38 ?_
  refine lv_aload_n hx hb dX5_springLength_41 rfl (lv_at hl 2 rfl) ?_
  refine va_getN (host := "WheelSwing") (D := D) (ci := 1) (v := .int ly) (C := RX2) (T := TX2) (N := 13) hx hb hts hinX2 hown hw.1 hR 1 rfl rfl 4 (by decide) (va_Nw.use rfl (hw.2 (.fieldLinkNest RX5 13 "WheelSwing$Hanging" "ly" "I" "WheelSwing") (by decide +kernel))) (fun _ h9 => h9) rfl dX5_springLength_42 ?_
  refine lv_i2d hx hb dX5_springLength_45 ?_
  have gw14 := gf_i2d 10 (cB_k kly)
  have gw15 := gf_sub 1074 1085 g1 gw14 (Nat.le_of_ble_eq_true rfl) (Nat.le_of_ble_eq_true rfl) (Nat.le_of_ble_eq_true rfl) (Nat.le_of_ble_eq_true rfl) (Nat.le_of_ble_eq_true rfl)
  refine lv_dsub hx hb dX5_springLength_46 (gf_n64 gw15) ?_
  refine lv_topd (fun v16 ev16 => ?_)
  rw [← ev16] at gw15
  have gw17 := gf_mul 1074 1095 gw13 gw15 (Nat.le_of_ble_eq_true rfl) (Nat.le_of_ble_eq_true rfl) (Nat.le_of_ble_eq_true rfl)
  refine lv_dmul hx hb dX5_springLength_47 (gf_n64 gw17) ?_
  refine lv_topd (fun v18 ev18 => ?_)
  rw [← ev18] at gw17
  refine lv_ldc2d hx hb hown (hts (.constantDouble RX5 90 (4652007308841189376)) (by decide +kernel)) dX5_springLength_48 ?_
  have gw19 := gf_div 1012 1092 gw17 gf_1000 ne_1000 (Nat.le_of_ble_eq_true rfl) (Nat.le_of_ble_eq_true rfl) (Nat.le_of_ble_eq_true rfl)
  refine lv_ddiv hx hb dX5_springLength_51 (gf_n64 gw19) ?_
  refine lv_topd (fun v20 ev20 => ?_)
  rw [← ev20] at gw19
  have gw21 := gf_add 1012 1093 gw12 gw19 (Nat.le_of_ble_eq_true rfl) (Nat.le_of_ble_eq_true rfl) (Nat.le_of_ble_eq_true rfl) (Nat.le_of_ble_eq_true rfl) (Nat.le_of_ble_eq_true rfl)
  refine lv_dadd hx hb dX5_springLength_52 (gf_n64 gw21) ?_
  refine lv_topd (fun v22 ev22 => ?_)
  rw [← ev22] at gw21
  refine lv_dstore (lv' := [(4, .double v22), (2, .double v11), (0, .ref st), (1, .ref hg)]) hx hb dX5_springLength_53 hl (by decide) rfl (fun ls hl => ?_)
  refine lv_dload_n hx hb dX5_springLength_55 rfl (lv_at hl 1 rfl) ?_
  refine lv_aload_n hx hb dX5_springLength_56 rfl (lv_at hl 3 rfl) ?_
  refine va_getN (host := "WheelSwing") (D := D) (ci := 1) (v := .int sx) (C := RX2) (T := TX2) (N := 13) hx hb hts hinX2 hown hw.1 hR 1 rfl rfl 10 (by decide) (va_Nw.use rfl (hw.2 (.fieldLinkNest RX5 92 "WheelSwing$Hanging" "sx" "I" "WheelSwing") (by decide +kernel))) (fun _ h9 => h9) rfl dX5_springLength_57 ?_
  refine lv_i2d hx hb dX5_springLength_60 ?_
  have gw23 := gf_i2d 10 (cB_k ksx)
  have gw24 := gf_sub 959 1096 gw10 gw23 (Nat.le_of_ble_eq_true rfl) (Nat.le_of_ble_eq_true rfl) (Nat.le_of_ble_eq_true rfl) (Nat.le_of_ble_eq_true rfl) (Nat.le_of_ble_eq_true rfl)
  refine lv_dsub hx hb dX5_springLength_61 (gf_n64 gw24) ?_
  refine lv_topd (fun v25 ev25 => ?_)
  rw [← ev25] at gw24
  have fv25 : v25 = tTx lx sx f p0 := by rw [ev25, ev11, ev9, ev7, ev5]; rfl
  clear ev25 gw24
  subst fv25
  refine lv_dload_n hx hb dX5_springLength_62 rfl (lv_at hl 1 rfl) ?_
  refine lv_aload_n hx hb dX5_springLength_63 rfl (lv_at hl 3 rfl) ?_
  refine va_getN (host := "WheelSwing") (D := D) (ci := 1) (v := .int sx) (C := RX2) (T := TX2) (N := 13) hx hb hts hinX2 hown hw.1 hR 1 rfl rfl 10 (by decide) (va_Nw.use rfl (hw.2 (.fieldLinkNest RX5 92 "WheelSwing$Hanging" "sx" "I" "WheelSwing") (by decide +kernel))) (fun _ h9 => h9) rfl dX5_springLength_64 ?_
  refine lv_i2d hx hb dX5_springLength_67 ?_
  have gw26 := gf_i2d 10 (cB_k ksx)
  have gw27 := gf_sub 959 1096 gw10 gw26 (Nat.le_of_ble_eq_true rfl) (Nat.le_of_ble_eq_true rfl) (Nat.le_of_ble_eq_true rfl) (Nat.le_of_ble_eq_true rfl) (Nat.le_of_ble_eq_true rfl)
  refine lv_dsub hx hb dX5_springLength_68 (gf_n64 gw27) ?_
  refine lv_topd (fun v28 ev28 => ?_)
  rw [← ev28] at gw27
  have fv28 : v28 = tTx lx sx f p0 := by rw [ev28, ev11, ev9, ev7, ev5]; rfl
  clear ev28 gw27
  subst fv28
  have gw29 := gf_mul 844 1118 (gz_tx klx ksx kf g0) (gz_tx klx ksx kf g0) (Nat.le_of_ble_eq_true rfl) (Nat.le_of_ble_eq_true rfl) (Nat.le_of_ble_eq_true rfl)
  refine lv_dmul hx hb dX5_springLength_69 (gf_n64 gw29) ?_
  refine lv_topd (fun v30 ev30 => ?_)
  rw [← ev30] at gw29
  refine lv_dload hx hb dX5_springLength_70 (lv_at hl 0 rfl) ?_
  refine lv_aload_n hx hb dX5_springLength_72 rfl (lv_at hl 3 rfl) ?_
  refine va_getN (host := "WheelSwing") (D := D) (ci := 1) (v := .int sy) (C := RX2) (T := TX2) (N := 13) hx hb hts hinX2 hown hw.1 hR 1 rfl rfl 11 (by decide) (va_Nw.use rfl (hw.2 (.fieldLinkNest RX5 95 "WheelSwing$Hanging" "sy" "I" "WheelSwing") (by decide +kernel))) (fun _ h9 => h9) rfl dX5_springLength_73 ?_
  refine lv_i2d hx hb dX5_springLength_76 ?_
  have gw31 := gf_i2d 10 (cB_k ksy)
  have gw32 := gf_sub 1012 1094 gw21 gw31 (Nat.le_of_ble_eq_true rfl) (Nat.le_of_ble_eq_true rfl) (Nat.le_of_ble_eq_true rfl) (Nat.le_of_ble_eq_true rfl) (Nat.le_of_ble_eq_true rfl)
  refine lv_dsub hx hb dX5_springLength_77 (gf_n64 gw32) ?_
  refine lv_topd (fun v33 ev33 => ?_)
  rw [← ev33] at gw32
  have fv33 : v33 = tTx ly sy f p1 := by rw [ev33, ev22, ev20, ev18, ev16]; rfl
  clear ev33 gw32
  subst fv33
  refine lv_dload hx hb dX5_springLength_78 (lv_at hl 0 rfl) ?_
  refine lv_aload_n hx hb dX5_springLength_80 rfl (lv_at hl 3 rfl) ?_
  refine va_getN (host := "WheelSwing") (D := D) (ci := 1) (v := .int sy) (C := RX2) (T := TX2) (N := 13) hx hb hts hinX2 hown hw.1 hR 1 rfl rfl 11 (by decide) (va_Nw.use rfl (hw.2 (.fieldLinkNest RX5 95 "WheelSwing$Hanging" "sy" "I" "WheelSwing") (by decide +kernel))) (fun _ h9 => h9) rfl dX5_springLength_81 ?_
  refine lv_i2d hx hb dX5_springLength_84 ?_
  have gw34 := gf_i2d 10 (cB_k ksy)
  have gw35 := gf_sub 1012 1094 gw21 gw34 (Nat.le_of_ble_eq_true rfl) (Nat.le_of_ble_eq_true rfl) (Nat.le_of_ble_eq_true rfl) (Nat.le_of_ble_eq_true rfl) (Nat.le_of_ble_eq_true rfl)
  refine lv_dsub hx hb dX5_springLength_85 (gf_n64 gw35) ?_
  refine lv_topd (fun v36 ev36 => ?_)
  rw [← ev36] at gw35
  have fv36 : v36 = tTx ly sy f p1 := by rw [ev36, ev22, ev20, ev18, ev16]; rfl
  clear ev36 gw35
  subst fv36
  have gw37 := gf_mul 950 1114 (gz_ty kly ksy kf g1) (gz_ty kly ksy kf g1) (Nat.le_of_ble_eq_true rfl) (Nat.le_of_ble_eq_true rfl) (Nat.le_of_ble_eq_true rfl)
  refine lv_dmul hx hb dX5_springLength_86 (gf_n64 gw37) ?_
  refine lv_topd (fun v38 ev38 => ?_)
  rw [← ev38] at gw37
  have gw39 := gf_add 844 1119 gw29 gw37 (Nat.le_of_ble_eq_true rfl) (Nat.le_of_ble_eq_true rfl) (Nat.le_of_ble_eq_true rfl) (Nat.le_of_ble_eq_true rfl) (Nat.le_of_ble_eq_true rfl)
  refine lv_dadd hx hb dX5_springLength_87 (gf_n64 gw39) ?_
  refine lv_topd (fun v40 ev40 => ?_)
  rw [← ev40] at gw39
  have fv40 : v40 = tL2 lx ly sx sy f p0 p1 := by rw [ev40, ev38, ev30]; rfl
  clear ev40 gw39
  subst fv40
  refine va_calld (va_runSN (As := [.double (tL2 lx ly sx sy f p0 p1)]) (rest := []) ⟨hx, hb, hml, hown, hts⟩ (mX1_squareRoot l (tL2 lx ly sx sy f p0 p1) (gz_l2rt klx kly ksx ksy kf g0 g1)) (⟨va_cnB 1 hts gX5_springLength_X1_squareRoot_n27 rfl rfl rfl (hw.2 (.methodLinkNest RX5 27 yX1_squareRoot "WheelSwing") (by decide +kernel)) (hts (.initialized RX1) (by decide +kernel)) (by decide +kernel) ⟨Nat.le_of_ble_eq_true rfl, Nat.le_of_ble_eq_true rfl⟩, hts (.static yX1_squareRoot) (by decide +kernel), trivial⟩) ⟨tB_blind, tB_go⟩ rfl rfl hl.1 rfl (lv_room (Nat.le_of_ble_eq_true rfl)) dX5_springLength_88 ⟨Nat.le_of_ble_eq_true rfl, Nat.le_of_ble_eq_true rfl⟩) hS (fun q _ h => h.elim) (fun q h => h.elim) (fun r41 u42 t H locs ht hvm hp43 hB hz1 hk1 hS => ?_)
  have hR := fr_rd hR0 hS hnr
  obtain ⟨rfl, hi44⟩ := hp43
  have gw45 := gf_sq 906 1098 hi44 (gz_l2 klx kly ksx ksy kf g0 g1) (Nat.le_of_ble_eq_true rfl) (Nat.le_of_ble_eq_true rfl)
  exact W.dret (v := fsq (tL2 lx ly sx sy f p0 p1)) hx hb hr (fun t ht hW => ⟨⟨fsq (tL2 lx ly sx sy f p0 p1), (), rfl, rfl, trivial⟩, hS.F ht⟩) hS.2.2 dX5_springLength_91
theorem gz_ax0 {c ox oy : Int32} (kc : aB c) (kox : cB ox) (koy : cB oy) {px py qx qy : UInt64} (g0 : fGr 1021 1086 px) (g1 : fGr 1074 1084 py) (g2 : fGr 888 1153 qx) (g3 : fGr 934 1152 qy) : fGr 577 1250 (tAx ox px qx (tI (tT0 c ox oy px py qx qy))) := (gf_sub 577 1250 (gf_i2d 10 (cB_k kox)) (gf_add 577 1249 g0 (gf_mul 577 1248 (gz_ti (gz_t0 kc kox koy g0 g1 g2 g3)) (gf_sub 888 1154 g2 g0 (Nat.le_of_ble_eq_true rfl) (Nat.le_of_ble_eq_true rfl) (Nat.le_of_ble_eq_true rfl) (Nat.le_of_ble_eq_true rfl) (Nat.le_of_ble_eq_true rfl)) (Nat.le_of_ble_eq_true rfl) (Nat.le_of_ble_eq_true rfl) (Nat.le_of_ble_eq_true rfl)) (Nat.le_of_ble_eq_true rfl) (Nat.le_of_ble_eq_true rfl) (Nat.le_of_ble_eq_true rfl) (Nat.le_of_ble_eq_true rfl) (Nat.le_of_ble_eq_true rfl)) (Nat.le_of_ble_eq_true rfl) (Nat.le_of_ble_eq_true rfl) (Nat.le_of_ble_eq_true rfl) (Nat.le_of_ble_eq_true rfl) (Nat.le_of_ble_eq_true rfl))
theorem gz_ay0 {c ox oy : Int32} (kc : aB c) (kox : cB ox) (koy : cB oy) {px py qx qy : UInt64} (g0 : fGr 1021 1086 px) (g1 : fGr 1074 1084 py) (g2 : fGr 888 1153 qx) (g3 : fGr 934 1152 qy) : fGr 623 1249 (tAx oy py qy (tI (tT0 c ox oy px py qx qy))) := (gf_sub 623 1249 (gf_i2d 10 (cB_k koy)) (gf_add 623 1248 g1 (gf_mul 623 1247 (gz_ti (gz_t0 kc kox koy g0 g1 g2 g3)) (gf_sub 934 1153 g3 g1 (Nat.le_of_ble_eq_true rfl) (Nat.le_of_ble_eq_true rfl) (Nat.le_of_ble_eq_true rfl) (Nat.le_of_ble_eq_true rfl) (Nat.le_of_ble_eq_true rfl)) (Nat.le_of_ble_eq_true rfl) (Nat.le_of_ble_eq_true rfl) (Nat.le_of_ble_eq_true rfl)) (Nat.le_of_ble_eq_true rfl) (Nat.le_of_ble_eq_true rfl) (Nat.le_of_ble_eq_true rfl) (Nat.le_of_ble_eq_true rfl) (Nat.le_of_ble_eq_true rfl)) (Nat.le_of_ble_eq_true rfl) (Nat.le_of_ble_eq_true rfl) (Nat.le_of_ble_eq_true rfl) (Nat.le_of_ble_eq_true rfl) (Nat.le_of_ble_eq_true rfl))
theorem tI_lt {t : UInt64} (h : ¬ fv FP.dconst0 ≤ fv t) : FP.dconst0 = tI t := by
  rw [fv_c0] at h
  unfold tI
  rw [if_pos (Int.not_le.mp h)]
theorem tI_gt {t : UInt64} (h0 : fv FP.dconst0 ≤ fv t) (h : ¬ fv t ≤ fv FP.dconst1) : FP.dconst1 = tI t := by
  rw [fv_c0] at h0
  rw [fv_c1] at h
  unfold tI
  rw [if_neg (Int.not_lt.mpr h0), if_pos (Int.not_le.mp h)]
theorem tI_in {t : UInt64} (h0 : fv FP.dconst0 ≤ fv t) (h : fv t ≤ fv FP.dconst1) : t = tI t := by
  rw [fv_c0] at h0
  rw [fv_c1] at h
  unfold tI
  rw [if_neg (Int.not_lt.mpr h0), if_neg (Int.not_lt.mpr h)]
set_option maxHeartbeats 4000000 in
set_option maxRecDepth 100000 in
theorem mX5_squareFrom (l : Launch) (D : va_G) (cI cH : ClassId) (st hg : Nat) (s0 s1 : Int32) (p0 p1 p2 p3 p4 p5 p6 p7 p8 p9 p10 p11 : UInt64) (ux uy a lx ly b c sd g d sx sy f : Int32) (ox oy : Int32)  (kc : aB c) (kox : cB ox) (koy : cB oy) (g0 : fGr 1021 1086 p0) (g1 : fGr 1074 1084 p1) (g2 : fGr 888 1153 p2) (g3 : fGr 934 1152 p3) : Met l yX5_squareFrom wsX5_squareFrom ({ frames := 0, cells := 0, slots := 0, locals := 0 }) (va_Pc [.ref st, .ref hg, .int ox, .int oy] (kB D cI cH [(st, .inr (4, [.int s0, .int s1, .double p0, .double p1, .double p2, .double p3, .double p4, .double p5, .double p6, .double p7, .double p8, .double p9, .double p10, .double p11])), (hg, .inr (1, [.int ux, .int uy, .int a, .int lx, .int ly, .int b, .int c, .int sd, .int g, .int d, .int sx, .int sy, .int f]))])) (va_Qd (fun (r : UInt64) (u : Unit) => r = tSq c ox oy p0 p1 p2 p3) (fun _ _ => True) nA) 0 0 nA := by
  refine Met.ofW (cc := cX5_squareFrom) (maxL := 10) (ret := (some .double)) (by decide) rfl ?_
  intro p e s m args below meth co s₁ B hml hv
  obtain ⟨rfl, hP0, hw⟩ := hv
  have hx := B.exec
  have hb := B.bytes
  have hr := B.returns
  have hts := atoms_spec (ws := wsX5_squareFrom) B.pre
  have hown : s.vm.findClass RX5 = some m.cls := findClass_of_methodNamed B.named
  have hlocks := B.notSynchronized
  have hinX2 : ∀ w ∈ wsX20, w ∈ wsX5_squareFrom := by decide +kernel
  have hinX5 : ∀ w ∈ wsX50, w ∈ wsX5_squareFrom := by decide +kernel
  have hS : va_S nA s.heap s.heap [] := va_S.rf
  have hR0 : va_P D vwCl [(st, .inr (4, [.int s0, .int s1, .double p0, .double p1, .double p2, .double p3, .double p4, .double p5, .double p6, .double p7, .double p8, .double p9, .double p10, .double p11])), (hg, .inr (1, [.int ux, .int uy, .int a, .int lx, .int ly, .int b, .int c, .int sd, .int g, .int d, .int sx, .int sy, .int f]))] s.heap := hP0.sub [0, 1] rfl
  have hR := hR0
  have hnr : ∀ (k : Nat) (q : Nat × va_E), ([(st, .inr (4, [.int s0, .int s1, .double p0, .double p1, .double p2, .double p3, .double p4, .double p5, .double p6, .double p7, .double p8, .double p9, .double p10, .double p11])), (hg, .inr (1, [.int ux, .int uy, .int a, .int lx, .int ly, .int b, .int c, .int sd, .int g, .int d, .int sx, .int sy, .int f]))] : va_W)[k]? = some q → ¬ nA q.1 := fr_nA
  have hl := lv_entry ([.ref st, .ref hg, .int ox, .int oy]) (n := 10) (Nat.le_of_ble_eq_true rfl)
  rw [lg_entry_eq]
  generalize (lg_sl ([.ref st, .ref hg, .int ox, .int oy]) ++ List.replicate (10 - (lg_sl ([.ref st, .ref hg, .int ox, .int oy])).length) Slot.unset).toArray = ls at hl ⊢
  have hl : lv_has ls 10 [(0, .ref st), (1, .ref hg), (2, .int ox), (3, .int oy)] := hl
  skip
  refine lv_iload_n hx hb dX5_squareFrom_0 rfl (lv_at hl 2 rfl) ?_
  refine lv_i2d hx hb dX5_squareFrom_1 ?_
  have gw1 := gf_i2d 10 (cB_k kox)
  refine lv_aload_n hx hb dX5_squareFrom_2 rfl (lv_at hl 0 rfl) ?_
  refine va_get (D := D) (ci := 4) (v := .double p0) (C := RX5) (T := TX5) (N := 14) hx hb hts hinX5 hown hw.1 hR 0 rfl rfl 2 (by decide) (hts (.fieldLink RX5 33 "WheelSwing$Stand" "px" "D") (by decide +kernel)) (fun _ h9 => h9) rfl dX5_squareFrom_3 ?_
  have gw2 := gf_sub 1021 1087 gw1 g0 (Nat.le_of_ble_eq_true rfl) (Nat.le_of_ble_eq_true rfl) (Nat.le_of_ble_eq_true rfl) (Nat.le_of_ble_eq_true rfl) (Nat.le_of_ble_eq_true rfl)
  refine lv_dsub hx hb dX5_squareFrom_6 (gf_n64 gw2) ?_
  refine lv_topd (fun v3 ev3 => ?_)
  rw [← ev3] at gw2
  refine lv_aload_n hx hb dX5_squareFrom_7 rfl (lv_at hl 0 rfl) ?_
  refine va_get (D := D) (ci := 4) (v := .double p2) (C := RX5) (T := TX5) (N := 14) hx hb hts hinX5 hown hw.1 hR 0 rfl rfl 4 (by decide) (hts (.fieldLink RX5 63 "WheelSwing$Stand" "qx" "D") (by decide +kernel)) (fun _ h9 => h9) rfl dX5_squareFrom_8 ?_
  refine lv_aload_n hx hb dX5_squareFrom_11 rfl (lv_at hl 0 rfl) ?_
  refine va_get (D := D) (ci := 4) (v := .double p0) (C := RX5) (T := TX5) (N := 14) hx hb hts hinX5 hown hw.1 hR 0 rfl rfl 2 (by decide) (hts (.fieldLink RX5 33 "WheelSwing$Stand" "px" "D") (by decide +kernel)) (fun _ h9 => h9) rfl dX5_squareFrom_12 ?_
  have gw4 := gf_sub 888 1154 g2 g0 (Nat.le_of_ble_eq_true rfl) (Nat.le_of_ble_eq_true rfl) (Nat.le_of_ble_eq_true rfl) (Nat.le_of_ble_eq_true rfl) (Nat.le_of_ble_eq_true rfl)
  refine lv_dsub hx hb dX5_squareFrom_15 (gf_n64 gw4) ?_
  refine lv_topd (fun v5 ev5 => ?_)
  rw [← ev5] at gw4
  have gw6 := gf_mul 835 1167 gw2 gw4 (Nat.le_of_ble_eq_true rfl) (Nat.le_of_ble_eq_true rfl) (Nat.le_of_ble_eq_true rfl)
  refine lv_dmul hx hb dX5_squareFrom_16 (gf_n64 gw6) ?_
  refine lv_topd (fun v7 ev7 => ?_)
  rw [← ev7] at gw6
  refine lv_iload_n hx hb dX5_squareFrom_17 rfl (lv_at hl 3 rfl) ?_
  refine lv_i2d hx hb dX5_squareFrom_18 ?_
  have gw8 := gf_i2d 10 (cB_k koy)
  refine lv_aload_n hx hb dX5_squareFrom_19 rfl (lv_at hl 0 rfl) ?_
  refine va_get (D := D) (ci := 4) (v := .double p1) (C := RX5) (T := TX5) (N := 14) hx hb hts hinX5 hown hw.1 hR 0 rfl rfl 3 (by decide) (hts (.fieldLink RX5 37 "WheelSwing$Stand" "py" "D") (by decide +kernel)) (fun _ h9 => h9) rfl dX5_squareFrom_20 ?_
  have gw9 := gf_sub 1074 1085 gw8 g1 (Nat.le_of_ble_eq_true rfl) (Nat.le_of_ble_eq_true rfl) (Nat.le_of_ble_eq_true rfl) (Nat.le_of_ble_eq_true rfl) (Nat.le_of_ble_eq_true rfl)
  refine lv_dsub hx hb dX5_squareFrom_23 (gf_n64 gw9) ?_
  refine lv_topd (fun v10 ev10 => ?_)
  rw [← ev10] at gw9
  refine lv_aload_n hx hb dX5_squareFrom_24 rfl (lv_at hl 0 rfl) ?_
  refine va_get (D := D) (ci := 4) (v := .double p3) (C := RX5) (T := TX5) (N := 14) hx hb hts hinX5 hown hw.1 hR 0 rfl rfl 5 (by decide) (hts (.fieldLink RX5 66 "WheelSwing$Stand" "qy" "D") (by decide +kernel)) (fun _ h9 => h9) rfl dX5_squareFrom_25 ?_
  refine lv_aload_n hx hb dX5_squareFrom_28 rfl (lv_at hl 0 rfl) ?_
  refine va_get (D := D) (ci := 4) (v := .double p1) (C := RX5) (T := TX5) (N := 14) hx hb hts hinX5 hown hw.1 hR 0 rfl rfl 3 (by decide) (hts (.fieldLink RX5 37 "WheelSwing$Stand" "py" "D") (by decide +kernel)) (fun _ h9 => h9) rfl dX5_squareFrom_29 ?_
  have gw11 := gf_sub 934 1153 g3 g1 (Nat.le_of_ble_eq_true rfl) (Nat.le_of_ble_eq_true rfl) (Nat.le_of_ble_eq_true rfl) (Nat.le_of_ble_eq_true rfl) (Nat.le_of_ble_eq_true rfl)
  refine lv_dsub hx hb dX5_squareFrom_32 (gf_n64 gw11) ?_
  refine lv_topd (fun v12 ev12 => ?_)
  rw [← ev12] at gw11
  have gw13 := gf_mul 934 1164 gw9 gw11 (Nat.le_of_ble_eq_true rfl) (Nat.le_of_ble_eq_true rfl) (Nat.le_of_ble_eq_true rfl)
  refine lv_dmul hx hb dX5_squareFrom_33 (gf_n64 gw13) ?_
  refine lv_topd (fun v14 ev14 => ?_)
  rw [← ev14] at gw13
  have gw15 := gf_add 835 1168 gw6 gw13 (Nat.le_of_ble_eq_true rfl) (Nat.le_of_ble_eq_true rfl) (Nat.le_of_ble_eq_true rfl) (Nat.le_of_ble_eq_true rfl) (Nat.le_of_ble_eq_true rfl)
  refine lv_dadd hx hb dX5_squareFrom_34 (gf_n64 gw15) ?_
  refine lv_topd (fun v16 ev16 => ?_)
  rw [← ev16] at gw15
  refine lv_aload_n hx hb dX5_squareFrom_35 rfl (lv_at hl 1 rfl) ?_
  refine va_getN (host := "WheelSwing") (D := D) (ci := 1) (v := .int c) (C := RX2) (T := TX2) (N := 13) hx hb hts hinX2 hown hw.1 hR 1 rfl rfl 6 (by decide) (va_Nw.use rfl (hw.2 (.fieldLinkNest RX5 46 "WheelSwing$Hanging" "c" "I" "WheelSwing") (by decide +kernel))) (fun _ h9 => h9) rfl dX5_squareFrom_36 ?_
  refine lv_aload_n hx hb dX5_squareFrom_39 rfl (lv_at hl 1 rfl) ?_
  refine va_getN (host := "WheelSwing") (D := D) (ci := 1) (v := .int c) (C := RX2) (T := TX2) (N := 13) hx hb hts hinX2 hown hw.1 hR 1 rfl rfl 6 (by decide) (va_Nw.use rfl (hw.2 (.fieldLinkNest RX5 46 "WheelSwing$Hanging" "c" "I" "WheelSwing") (by decide +kernel))) (fun _ h9 => h9) rfl dX5_squareFrom_40 ?_
  refine lv_imul hx hb dX5_squareFrom_43 ?_
  refine lv_i2d hx hb dX5_squareFrom_44 ?_
  have gw17 := gf_i2d 20 (cc_k kc)
  have gw18 := gf_div 763 1168 gw15 gw17 (cc_ne kc) (Nat.le_of_ble_eq_true rfl) (Nat.le_of_ble_eq_true rfl) (Nat.le_of_ble_eq_true rfl)
  refine lv_ddiv hx hb dX5_squareFrom_45 (gf_n64 gw18) ?_
  refine lv_topd (fun v19 ev19 => ?_)
  rw [← ev19] at gw18
  have fv19 : v19 = tT0 c ox oy p0 p1 p2 p3 := by rw [ev19, ev16, ev14, ev12, ev10, ev7, ev5, ev3]; rfl
  clear ev19 gw18
  subst fv19
  refine lv_dstore (lv' := [(4, .double (tT0 c ox oy p0 p1 p2 p3)), (0, .ref st), (1, .ref hg), (2, .int ox), (3, .int oy)]) hx hb dX5_squareFrom_46 hl (by decide) rfl (fun ls hl => ?_)
  refine lv_dload hx hb dX5_squareFrom_48 (lv_at hl 0 rfl) ?_
  refine lv_dconst0 hx hb dX5_squareFrom_50 ?_
  refine lv_dcmp hx hb dX5_squareFrom_51 ?_
  rw [fp_cv (gz_t0 kc kox koy g0 g1 g2 g3).1 gf_c0.1]
  refine lv_if_ge (tgt := 59) hx hb dX5_squareFrom_52 (by decide) (fun c20 => ?_) (fun c20 => ?_)
  · rw [fcv_ge] at c20
    refine lv_dload hx hb dX5_squareFrom_59 (lv_at hl 0 rfl) ?_
    refine lv_dstore (lv' := [(4, .double (tT0 c ox oy p0 p1 p2 p3)), (0, .ref st), (1, .ref hg), (2, .int ox), (3, .int oy)]) hx hb dX5_squareFrom_61 hl (by decide) rfl (fun ls hl => ?_)
    refine lv_dload hx hb dX5_squareFrom_63 (lv_at hl 0 rfl) ?_
    refine lv_dconst1 hx hb dX5_squareFrom_65 ?_
    refine lv_dcmp hx hb dX5_squareFrom_66 ?_
    rw [fp_cv (gz_t0 kc kox koy g0 g1 g2 g3).1 gf_c1.1]
    refine lv_if_le (tgt := 74) hx hb dX5_squareFrom_67 (by decide) (fun c21 => ?_) (fun c21 => ?_)
    · rw [fcv_le] at c21
      refine lv_dload hx hb dX5_squareFrom_74 (lv_at hl 0 rfl) ?_
      refine lv_topd (fun vv evv => ?_)
      have evv : vv = tI (tT0 c ox oy p0 p1 p2 p3) := evv.trans (tI_in c20 c21)
      subst evv
      refine lv_dstore (lv' := [(4, .double (tI (tT0 c ox oy p0 p1 p2 p3))), (0, .ref st), (1, .ref hg), (2, .int ox), (3, .int oy)]) hx hb dX5_squareFrom_76 hl (by decide) rfl (fun ls hl => ?_)
      refine lv_iload_n hx hb dX5_squareFrom_78 rfl (lv_at hl 3 rfl) ?_
      refine lv_i2d hx hb dX5_squareFrom_79 ?_
      have gw22 := gf_i2d 10 (cB_k kox)
      refine lv_aload_n hx hb dX5_squareFrom_80 rfl (lv_at hl 1 rfl) ?_
      refine va_get (D := D) (ci := 4) (v := .double p0) (C := RX5) (T := TX5) (N := 14) hx hb hts hinX5 hown hw.1 hR 0 rfl rfl 2 (by decide) (hts (.fieldLink RX5 33 "WheelSwing$Stand" "px" "D") (by decide +kernel)) (fun _ h9 => h9) rfl dX5_squareFrom_81 ?_
      refine lv_dload hx hb dX5_squareFrom_84 (lv_at hl 0 rfl) ?_
      refine lv_aload_n hx hb dX5_squareFrom_86 rfl (lv_at hl 1 rfl) ?_
      refine va_get (D := D) (ci := 4) (v := .double p2) (C := RX5) (T := TX5) (N := 14) hx hb hts hinX5 hown hw.1 hR 0 rfl rfl 4 (by decide) (hts (.fieldLink RX5 63 "WheelSwing$Stand" "qx" "D") (by decide +kernel)) (fun _ h9 => h9) rfl dX5_squareFrom_87 ?_
      refine lv_aload_n hx hb dX5_squareFrom_90 rfl (lv_at hl 1 rfl) ?_
      refine va_get (D := D) (ci := 4) (v := .double p0) (C := RX5) (T := TX5) (N := 14) hx hb hts hinX5 hown hw.1 hR 0 rfl rfl 2 (by decide) (hts (.fieldLink RX5 33 "WheelSwing$Stand" "px" "D") (by decide +kernel)) (fun _ h9 => h9) rfl dX5_squareFrom_91 ?_
      have gw23 := gf_sub 888 1154 g2 g0 (Nat.le_of_ble_eq_true rfl) (Nat.le_of_ble_eq_true rfl) (Nat.le_of_ble_eq_true rfl) (Nat.le_of_ble_eq_true rfl) (Nat.le_of_ble_eq_true rfl)
      refine lv_dsub hx hb dX5_squareFrom_94 (gf_n64 gw23) ?_
      refine lv_topd (fun v24 ev24 => ?_)
      rw [← ev24] at gw23
      have gw25 := gf_mul 577 1248 (gz_ti (gz_t0 kc kox koy g0 g1 g2 g3)) gw23 (Nat.le_of_ble_eq_true rfl) (Nat.le_of_ble_eq_true rfl) (Nat.le_of_ble_eq_true rfl)
      refine lv_dmul hx hb dX5_squareFrom_95 (gf_n64 gw25) ?_
      refine lv_topd (fun v26 ev26 => ?_)
      rw [← ev26] at gw25
      have gw27 := gf_add 577 1249 g0 gw25 (Nat.le_of_ble_eq_true rfl) (Nat.le_of_ble_eq_true rfl) (Nat.le_of_ble_eq_true rfl) (Nat.le_of_ble_eq_true rfl) (Nat.le_of_ble_eq_true rfl)
      refine lv_dadd hx hb dX5_squareFrom_96 (gf_n64 gw27) ?_
      refine lv_topd (fun v28 ev28 => ?_)
      rw [← ev28] at gw27
      have gw29 := gf_sub 577 1250 gw22 gw27 (Nat.le_of_ble_eq_true rfl) (Nat.le_of_ble_eq_true rfl) (Nat.le_of_ble_eq_true rfl) (Nat.le_of_ble_eq_true rfl) (Nat.le_of_ble_eq_true rfl)
      refine lv_dsub hx hb dX5_squareFrom_97 (gf_n64 gw29) ?_
      refine lv_topd (fun v30 ev30 => ?_)
      rw [← ev30] at gw29
      have fv30 : v30 = tAx ox p0 p2 (tI (tT0 c ox oy p0 p1 p2 p3)) := by rw [ev30, ev28, ev26, ev24]; rfl
      clear ev30 gw29
      subst fv30
      refine lv_dstore (lv' := [(6, .double (tAx ox p0 p2 (tI (tT0 c ox oy p0 p1 p2 p3)))), (4, .double (tI (tT0 c ox oy p0 p1 p2 p3))), (0, .ref st), (1, .ref hg), (2, .int ox), (3, .int oy)]) hx hb dX5_squareFrom_98 hl (by decide) rfl (fun ls hl => ?_)
      refine lv_iload_n hx hb dX5_squareFrom_100 rfl (lv_at hl 5 rfl) ?_
      refine lv_i2d hx hb dX5_squareFrom_101 ?_
      have gw31 := gf_i2d 10 (cB_k koy)
      refine lv_aload_n hx hb dX5_squareFrom_102 rfl (lv_at hl 2 rfl) ?_
      refine va_get (D := D) (ci := 4) (v := .double p1) (C := RX5) (T := TX5) (N := 14) hx hb hts hinX5 hown hw.1 hR 0 rfl rfl 3 (by decide) (hts (.fieldLink RX5 37 "WheelSwing$Stand" "py" "D") (by decide +kernel)) (fun _ h9 => h9) rfl dX5_squareFrom_103 ?_
      refine lv_dload hx hb dX5_squareFrom_106 (lv_at hl 1 rfl) ?_
      refine lv_aload_n hx hb dX5_squareFrom_108 rfl (lv_at hl 2 rfl) ?_
      refine va_get (D := D) (ci := 4) (v := .double p3) (C := RX5) (T := TX5) (N := 14) hx hb hts hinX5 hown hw.1 hR 0 rfl rfl 5 (by decide) (hts (.fieldLink RX5 66 "WheelSwing$Stand" "qy" "D") (by decide +kernel)) (fun _ h9 => h9) rfl dX5_squareFrom_109 ?_
      refine lv_aload_n hx hb dX5_squareFrom_112 rfl (lv_at hl 2 rfl) ?_
      refine va_get (D := D) (ci := 4) (v := .double p1) (C := RX5) (T := TX5) (N := 14) hx hb hts hinX5 hown hw.1 hR 0 rfl rfl 3 (by decide) (hts (.fieldLink RX5 37 "WheelSwing$Stand" "py" "D") (by decide +kernel)) (fun _ h9 => h9) rfl dX5_squareFrom_113 ?_
      have gw32 := gf_sub 934 1153 g3 g1 (Nat.le_of_ble_eq_true rfl) (Nat.le_of_ble_eq_true rfl) (Nat.le_of_ble_eq_true rfl) (Nat.le_of_ble_eq_true rfl) (Nat.le_of_ble_eq_true rfl)
      refine lv_dsub hx hb dX5_squareFrom_116 (gf_n64 gw32) ?_
      refine lv_topd (fun v33 ev33 => ?_)
      rw [← ev33] at gw32
      have gw34 := gf_mul 623 1247 (gz_ti (gz_t0 kc kox koy g0 g1 g2 g3)) gw32 (Nat.le_of_ble_eq_true rfl) (Nat.le_of_ble_eq_true rfl) (Nat.le_of_ble_eq_true rfl)
      refine lv_dmul hx hb dX5_squareFrom_117 (gf_n64 gw34) ?_
      refine lv_topd (fun v35 ev35 => ?_)
      rw [← ev35] at gw34
      have gw36 := gf_add 623 1248 g1 gw34 (Nat.le_of_ble_eq_true rfl) (Nat.le_of_ble_eq_true rfl) (Nat.le_of_ble_eq_true rfl) (Nat.le_of_ble_eq_true rfl) (Nat.le_of_ble_eq_true rfl)
      refine lv_dadd hx hb dX5_squareFrom_118 (gf_n64 gw36) ?_
      refine lv_topd (fun v37 ev37 => ?_)
      rw [← ev37] at gw36
      have gw38 := gf_sub 623 1249 gw31 gw36 (Nat.le_of_ble_eq_true rfl) (Nat.le_of_ble_eq_true rfl) (Nat.le_of_ble_eq_true rfl) (Nat.le_of_ble_eq_true rfl) (Nat.le_of_ble_eq_true rfl)
      refine lv_dsub hx hb dX5_squareFrom_119 (gf_n64 gw38) ?_
      refine lv_topd (fun v39 ev39 => ?_)
      rw [← ev39] at gw38
      have fv39 : v39 = tAx oy p1 p3 (tI (tT0 c ox oy p0 p1 p2 p3)) := by rw [ev39, ev37, ev35, ev33]; rfl
      clear ev39 gw38
      subst fv39
      refine lv_dstore (lv' := [(8, .double (tAx oy p1 p3 (tI (tT0 c ox oy p0 p1 p2 p3)))), (6, .double (tAx ox p0 p2 (tI (tT0 c ox oy p0 p1 p2 p3)))), (4, .double (tI (tT0 c ox oy p0 p1 p2 p3))), (0, .ref st), (1, .ref hg), (2, .int ox), (3, .int oy)]) hx hb dX5_squareFrom_120 hl (by decide) rfl (fun ls hl => ?_)
      refine lv_dload hx hb dX5_squareFrom_122 (lv_at hl 1 rfl) ?_
      refine lv_dload hx hb dX5_squareFrom_124 (lv_at hl 1 rfl) ?_
      have gw40 := gf_mul 80 1426 (gz_ax0 kc kox koy g0 g1 g2 g3) (gz_ax0 kc kox koy g0 g1 g2 g3) (Nat.le_of_ble_eq_true rfl) (Nat.le_of_ble_eq_true rfl) (Nat.le_of_ble_eq_true rfl)
      refine lv_dmul hx hb dX5_squareFrom_126 (gf_n64 gw40) ?_
      refine lv_topd (fun v41 ev41 => ?_)
      rw [← ev41] at gw40
      refine lv_dload hx hb dX5_squareFrom_127 (lv_at hl 0 rfl) ?_
      refine lv_dload hx hb dX5_squareFrom_129 (lv_at hl 0 rfl) ?_
      have gw42 := gf_mul 172 1424 (gz_ay0 kc kox koy g0 g1 g2 g3) (gz_ay0 kc kox koy g0 g1 g2 g3) (Nat.le_of_ble_eq_true rfl) (Nat.le_of_ble_eq_true rfl) (Nat.le_of_ble_eq_true rfl)
      refine lv_dmul hx hb dX5_squareFrom_131 (gf_n64 gw42) ?_
      refine lv_topd (fun v43 ev43 => ?_)
      rw [← ev43] at gw42
      have gw44 := gf_add 80 1427 gw40 gw42 (Nat.le_of_ble_eq_true rfl) (Nat.le_of_ble_eq_true rfl) (Nat.le_of_ble_eq_true rfl) (Nat.le_of_ble_eq_true rfl) (Nat.le_of_ble_eq_true rfl)
      refine lv_dadd hx hb dX5_squareFrom_132 (gf_n64 gw44) ?_
      refine lv_topd (fun v45 ev45 => ?_)
      rw [← ev45] at gw44
      have fv45 : v45 = tSq c ox oy p0 p1 p2 p3 := by rw [ev45, ev43, ev41]; rfl
      clear ev45 gw44
      subst fv45
      exact W.dret (v := tSq c ox oy p0 p1 p2 p3) hx hb hr (fun t ht hW => ⟨⟨tSq c ox oy p0 p1 p2 p3, (), rfl, rfl, trivial⟩, hS.F ht⟩) hS.2.2 dX5_squareFrom_133
    · rw [fcv_le] at c21
      refine lv_dconst1 hx hb dX5_squareFrom_70 ?_
      refine lv_goto (tgt := 76) hx hb dX5_squareFrom_71 (by decide) ?_
      refine lv_topd (fun vv evv => ?_)
      have evv : vv = tI (tT0 c ox oy p0 p1 p2 p3) := evv.trans (tI_gt c20 c21)
      subst evv
      refine lv_dstore (lv' := [(4, .double (tI (tT0 c ox oy p0 p1 p2 p3))), (0, .ref st), (1, .ref hg), (2, .int ox), (3, .int oy)]) hx hb dX5_squareFrom_76 hl (by decide) rfl (fun ls hl => ?_)
      refine lv_iload_n hx hb dX5_squareFrom_78 rfl (lv_at hl 3 rfl) ?_
      refine lv_i2d hx hb dX5_squareFrom_79 ?_
      have gw46 := gf_i2d 10 (cB_k kox)
      refine lv_aload_n hx hb dX5_squareFrom_80 rfl (lv_at hl 1 rfl) ?_
      refine va_get (D := D) (ci := 4) (v := .double p0) (C := RX5) (T := TX5) (N := 14) hx hb hts hinX5 hown hw.1 hR 0 rfl rfl 2 (by decide) (hts (.fieldLink RX5 33 "WheelSwing$Stand" "px" "D") (by decide +kernel)) (fun _ h9 => h9) rfl dX5_squareFrom_81 ?_
      refine lv_dload hx hb dX5_squareFrom_84 (lv_at hl 0 rfl) ?_
      refine lv_aload_n hx hb dX5_squareFrom_86 rfl (lv_at hl 1 rfl) ?_
      refine va_get (D := D) (ci := 4) (v := .double p2) (C := RX5) (T := TX5) (N := 14) hx hb hts hinX5 hown hw.1 hR 0 rfl rfl 4 (by decide) (hts (.fieldLink RX5 63 "WheelSwing$Stand" "qx" "D") (by decide +kernel)) (fun _ h9 => h9) rfl dX5_squareFrom_87 ?_
      refine lv_aload_n hx hb dX5_squareFrom_90 rfl (lv_at hl 1 rfl) ?_
      refine va_get (D := D) (ci := 4) (v := .double p0) (C := RX5) (T := TX5) (N := 14) hx hb hts hinX5 hown hw.1 hR 0 rfl rfl 2 (by decide) (hts (.fieldLink RX5 33 "WheelSwing$Stand" "px" "D") (by decide +kernel)) (fun _ h9 => h9) rfl dX5_squareFrom_91 ?_
      have gw47 := gf_sub 888 1154 g2 g0 (Nat.le_of_ble_eq_true rfl) (Nat.le_of_ble_eq_true rfl) (Nat.le_of_ble_eq_true rfl) (Nat.le_of_ble_eq_true rfl) (Nat.le_of_ble_eq_true rfl)
      refine lv_dsub hx hb dX5_squareFrom_94 (gf_n64 gw47) ?_
      refine lv_topd (fun v48 ev48 => ?_)
      rw [← ev48] at gw47
      have gw49 := gf_mul 577 1248 (gz_ti (gz_t0 kc kox koy g0 g1 g2 g3)) gw47 (Nat.le_of_ble_eq_true rfl) (Nat.le_of_ble_eq_true rfl) (Nat.le_of_ble_eq_true rfl)
      refine lv_dmul hx hb dX5_squareFrom_95 (gf_n64 gw49) ?_
      refine lv_topd (fun v50 ev50 => ?_)
      rw [← ev50] at gw49
      have gw51 := gf_add 577 1249 g0 gw49 (Nat.le_of_ble_eq_true rfl) (Nat.le_of_ble_eq_true rfl) (Nat.le_of_ble_eq_true rfl) (Nat.le_of_ble_eq_true rfl) (Nat.le_of_ble_eq_true rfl)
      refine lv_dadd hx hb dX5_squareFrom_96 (gf_n64 gw51) ?_
      refine lv_topd (fun v52 ev52 => ?_)
      rw [← ev52] at gw51
      have gw53 := gf_sub 577 1250 gw46 gw51 (Nat.le_of_ble_eq_true rfl) (Nat.le_of_ble_eq_true rfl) (Nat.le_of_ble_eq_true rfl) (Nat.le_of_ble_eq_true rfl) (Nat.le_of_ble_eq_true rfl)
      refine lv_dsub hx hb dX5_squareFrom_97 (gf_n64 gw53) ?_
      refine lv_topd (fun v54 ev54 => ?_)
      rw [← ev54] at gw53
      have fv54 : v54 = tAx ox p0 p2 (tI (tT0 c ox oy p0 p1 p2 p3)) := by rw [ev54, ev52, ev50, ev48]; rfl
      clear ev54 gw53
      subst fv54
      refine lv_dstore (lv' := [(6, .double (tAx ox p0 p2 (tI (tT0 c ox oy p0 p1 p2 p3)))), (4, .double (tI (tT0 c ox oy p0 p1 p2 p3))), (0, .ref st), (1, .ref hg), (2, .int ox), (3, .int oy)]) hx hb dX5_squareFrom_98 hl (by decide) rfl (fun ls hl => ?_)
      refine lv_iload_n hx hb dX5_squareFrom_100 rfl (lv_at hl 5 rfl) ?_
      refine lv_i2d hx hb dX5_squareFrom_101 ?_
      have gw55 := gf_i2d 10 (cB_k koy)
      refine lv_aload_n hx hb dX5_squareFrom_102 rfl (lv_at hl 2 rfl) ?_
      refine va_get (D := D) (ci := 4) (v := .double p1) (C := RX5) (T := TX5) (N := 14) hx hb hts hinX5 hown hw.1 hR 0 rfl rfl 3 (by decide) (hts (.fieldLink RX5 37 "WheelSwing$Stand" "py" "D") (by decide +kernel)) (fun _ h9 => h9) rfl dX5_squareFrom_103 ?_
      refine lv_dload hx hb dX5_squareFrom_106 (lv_at hl 1 rfl) ?_
      refine lv_aload_n hx hb dX5_squareFrom_108 rfl (lv_at hl 2 rfl) ?_
      refine va_get (D := D) (ci := 4) (v := .double p3) (C := RX5) (T := TX5) (N := 14) hx hb hts hinX5 hown hw.1 hR 0 rfl rfl 5 (by decide) (hts (.fieldLink RX5 66 "WheelSwing$Stand" "qy" "D") (by decide +kernel)) (fun _ h9 => h9) rfl dX5_squareFrom_109 ?_
      refine lv_aload_n hx hb dX5_squareFrom_112 rfl (lv_at hl 2 rfl) ?_
      refine va_get (D := D) (ci := 4) (v := .double p1) (C := RX5) (T := TX5) (N := 14) hx hb hts hinX5 hown hw.1 hR 0 rfl rfl 3 (by decide) (hts (.fieldLink RX5 37 "WheelSwing$Stand" "py" "D") (by decide +kernel)) (fun _ h9 => h9) rfl dX5_squareFrom_113 ?_
      have gw56 := gf_sub 934 1153 g3 g1 (Nat.le_of_ble_eq_true rfl) (Nat.le_of_ble_eq_true rfl) (Nat.le_of_ble_eq_true rfl) (Nat.le_of_ble_eq_true rfl) (Nat.le_of_ble_eq_true rfl)
      refine lv_dsub hx hb dX5_squareFrom_116 (gf_n64 gw56) ?_
      refine lv_topd (fun v57 ev57 => ?_)
      rw [← ev57] at gw56
      have gw58 := gf_mul 623 1247 (gz_ti (gz_t0 kc kox koy g0 g1 g2 g3)) gw56 (Nat.le_of_ble_eq_true rfl) (Nat.le_of_ble_eq_true rfl) (Nat.le_of_ble_eq_true rfl)
      refine lv_dmul hx hb dX5_squareFrom_117 (gf_n64 gw58) ?_
      refine lv_topd (fun v59 ev59 => ?_)
      rw [← ev59] at gw58
      have gw60 := gf_add 623 1248 g1 gw58 (Nat.le_of_ble_eq_true rfl) (Nat.le_of_ble_eq_true rfl) (Nat.le_of_ble_eq_true rfl) (Nat.le_of_ble_eq_true rfl) (Nat.le_of_ble_eq_true rfl)
      refine lv_dadd hx hb dX5_squareFrom_118 (gf_n64 gw60) ?_
      refine lv_topd (fun v61 ev61 => ?_)
      rw [← ev61] at gw60
      have gw62 := gf_sub 623 1249 gw55 gw60 (Nat.le_of_ble_eq_true rfl) (Nat.le_of_ble_eq_true rfl) (Nat.le_of_ble_eq_true rfl) (Nat.le_of_ble_eq_true rfl) (Nat.le_of_ble_eq_true rfl)
      refine lv_dsub hx hb dX5_squareFrom_119 (gf_n64 gw62) ?_
      refine lv_topd (fun v63 ev63 => ?_)
      rw [← ev63] at gw62
      have fv63 : v63 = tAx oy p1 p3 (tI (tT0 c ox oy p0 p1 p2 p3)) := by rw [ev63, ev61, ev59, ev57]; rfl
      clear ev63 gw62
      subst fv63
      refine lv_dstore (lv' := [(8, .double (tAx oy p1 p3 (tI (tT0 c ox oy p0 p1 p2 p3)))), (6, .double (tAx ox p0 p2 (tI (tT0 c ox oy p0 p1 p2 p3)))), (4, .double (tI (tT0 c ox oy p0 p1 p2 p3))), (0, .ref st), (1, .ref hg), (2, .int ox), (3, .int oy)]) hx hb dX5_squareFrom_120 hl (by decide) rfl (fun ls hl => ?_)
      refine lv_dload hx hb dX5_squareFrom_122 (lv_at hl 1 rfl) ?_
      refine lv_dload hx hb dX5_squareFrom_124 (lv_at hl 1 rfl) ?_
      have gw64 := gf_mul 80 1426 (gz_ax0 kc kox koy g0 g1 g2 g3) (gz_ax0 kc kox koy g0 g1 g2 g3) (Nat.le_of_ble_eq_true rfl) (Nat.le_of_ble_eq_true rfl) (Nat.le_of_ble_eq_true rfl)
      refine lv_dmul hx hb dX5_squareFrom_126 (gf_n64 gw64) ?_
      refine lv_topd (fun v65 ev65 => ?_)
      rw [← ev65] at gw64
      refine lv_dload hx hb dX5_squareFrom_127 (lv_at hl 0 rfl) ?_
      refine lv_dload hx hb dX5_squareFrom_129 (lv_at hl 0 rfl) ?_
      have gw66 := gf_mul 172 1424 (gz_ay0 kc kox koy g0 g1 g2 g3) (gz_ay0 kc kox koy g0 g1 g2 g3) (Nat.le_of_ble_eq_true rfl) (Nat.le_of_ble_eq_true rfl) (Nat.le_of_ble_eq_true rfl)
      refine lv_dmul hx hb dX5_squareFrom_131 (gf_n64 gw66) ?_
      refine lv_topd (fun v67 ev67 => ?_)
      rw [← ev67] at gw66
      have gw68 := gf_add 80 1427 gw64 gw66 (Nat.le_of_ble_eq_true rfl) (Nat.le_of_ble_eq_true rfl) (Nat.le_of_ble_eq_true rfl) (Nat.le_of_ble_eq_true rfl) (Nat.le_of_ble_eq_true rfl)
      refine lv_dadd hx hb dX5_squareFrom_132 (gf_n64 gw68) ?_
      refine lv_topd (fun v69 ev69 => ?_)
      rw [← ev69] at gw68
      have fv69 : v69 = tSq c ox oy p0 p1 p2 p3 := by rw [ev69, ev67, ev65]; rfl
      clear ev69 gw68
      subst fv69
      exact W.dret (v := tSq c ox oy p0 p1 p2 p3) hx hb hr (fun t ht hW => ⟨⟨tSq c ox oy p0 p1 p2 p3, (), rfl, rfl, trivial⟩, hS.F ht⟩) hS.2.2 dX5_squareFrom_133
  · rw [fcv_ge] at c20
    refine lv_dconst0 hx hb dX5_squareFrom_55 ?_
    refine lv_goto (tgt := 61) hx hb dX5_squareFrom_56 (by decide) ?_
    refine lv_dstore (lv' := [(4, .double FP.dconst0), (0, .ref st), (1, .ref hg), (2, .int ox), (3, .int oy)]) hx hb dX5_squareFrom_61 hl (by decide) rfl (fun ls hl => ?_)
    refine lv_dload hx hb dX5_squareFrom_63 (lv_at hl 0 rfl) ?_
    refine lv_dconst1 hx hb dX5_squareFrom_65 ?_
    refine lv_dcmp hx hb dX5_squareFrom_66 ?_
    rw [show Op.cmpValue (FP.dcmp FP.dconst0 FP.dconst1) CmpOp.l = (-1) by decide +kernel]
    refine lv_if_le (tgt := 74) hx hb dX5_squareFrom_67 (by decide) (fun _ => ?_) (fun c71 => absurd c71 (by decide))
    refine lv_dload hx hb dX5_squareFrom_74 (lv_at hl 0 rfl) ?_
    refine lv_topd (fun vv evv => ?_)
    have evv : vv = tI (tT0 c ox oy p0 p1 p2 p3) := evv.trans (tI_lt c20)
    subst evv
    refine lv_dstore (lv' := [(4, .double (tI (tT0 c ox oy p0 p1 p2 p3))), (0, .ref st), (1, .ref hg), (2, .int ox), (3, .int oy)]) hx hb dX5_squareFrom_76 hl (by decide) rfl (fun ls hl => ?_)
    refine lv_iload_n hx hb dX5_squareFrom_78 rfl (lv_at hl 3 rfl) ?_
    refine lv_i2d hx hb dX5_squareFrom_79 ?_
    have gw72 := gf_i2d 10 (cB_k kox)
    refine lv_aload_n hx hb dX5_squareFrom_80 rfl (lv_at hl 1 rfl) ?_
    refine va_get (D := D) (ci := 4) (v := .double p0) (C := RX5) (T := TX5) (N := 14) hx hb hts hinX5 hown hw.1 hR 0 rfl rfl 2 (by decide) (hts (.fieldLink RX5 33 "WheelSwing$Stand" "px" "D") (by decide +kernel)) (fun _ h9 => h9) rfl dX5_squareFrom_81 ?_
    refine lv_dload hx hb dX5_squareFrom_84 (lv_at hl 0 rfl) ?_
    refine lv_aload_n hx hb dX5_squareFrom_86 rfl (lv_at hl 1 rfl) ?_
    refine va_get (D := D) (ci := 4) (v := .double p2) (C := RX5) (T := TX5) (N := 14) hx hb hts hinX5 hown hw.1 hR 0 rfl rfl 4 (by decide) (hts (.fieldLink RX5 63 "WheelSwing$Stand" "qx" "D") (by decide +kernel)) (fun _ h9 => h9) rfl dX5_squareFrom_87 ?_
    refine lv_aload_n hx hb dX5_squareFrom_90 rfl (lv_at hl 1 rfl) ?_
    refine va_get (D := D) (ci := 4) (v := .double p0) (C := RX5) (T := TX5) (N := 14) hx hb hts hinX5 hown hw.1 hR 0 rfl rfl 2 (by decide) (hts (.fieldLink RX5 33 "WheelSwing$Stand" "px" "D") (by decide +kernel)) (fun _ h9 => h9) rfl dX5_squareFrom_91 ?_
    have gw73 := gf_sub 888 1154 g2 g0 (Nat.le_of_ble_eq_true rfl) (Nat.le_of_ble_eq_true rfl) (Nat.le_of_ble_eq_true rfl) (Nat.le_of_ble_eq_true rfl) (Nat.le_of_ble_eq_true rfl)
    refine lv_dsub hx hb dX5_squareFrom_94 (gf_n64 gw73) ?_
    refine lv_topd (fun v74 ev74 => ?_)
    rw [← ev74] at gw73
    have gw75 := gf_mul 577 1248 (gz_ti (gz_t0 kc kox koy g0 g1 g2 g3)) gw73 (Nat.le_of_ble_eq_true rfl) (Nat.le_of_ble_eq_true rfl) (Nat.le_of_ble_eq_true rfl)
    refine lv_dmul hx hb dX5_squareFrom_95 (gf_n64 gw75) ?_
    refine lv_topd (fun v76 ev76 => ?_)
    rw [← ev76] at gw75
    have gw77 := gf_add 577 1249 g0 gw75 (Nat.le_of_ble_eq_true rfl) (Nat.le_of_ble_eq_true rfl) (Nat.le_of_ble_eq_true rfl) (Nat.le_of_ble_eq_true rfl) (Nat.le_of_ble_eq_true rfl)
    refine lv_dadd hx hb dX5_squareFrom_96 (gf_n64 gw77) ?_
    refine lv_topd (fun v78 ev78 => ?_)
    rw [← ev78] at gw77
    have gw79 := gf_sub 577 1250 gw72 gw77 (Nat.le_of_ble_eq_true rfl) (Nat.le_of_ble_eq_true rfl) (Nat.le_of_ble_eq_true rfl) (Nat.le_of_ble_eq_true rfl) (Nat.le_of_ble_eq_true rfl)
    refine lv_dsub hx hb dX5_squareFrom_97 (gf_n64 gw79) ?_
    refine lv_topd (fun v80 ev80 => ?_)
    rw [← ev80] at gw79
    have fv80 : v80 = tAx ox p0 p2 (tI (tT0 c ox oy p0 p1 p2 p3)) := by rw [ev80, ev78, ev76, ev74]; rfl
    clear ev80 gw79
    subst fv80
    refine lv_dstore (lv' := [(6, .double (tAx ox p0 p2 (tI (tT0 c ox oy p0 p1 p2 p3)))), (4, .double (tI (tT0 c ox oy p0 p1 p2 p3))), (0, .ref st), (1, .ref hg), (2, .int ox), (3, .int oy)]) hx hb dX5_squareFrom_98 hl (by decide) rfl (fun ls hl => ?_)
    refine lv_iload_n hx hb dX5_squareFrom_100 rfl (lv_at hl 5 rfl) ?_
    refine lv_i2d hx hb dX5_squareFrom_101 ?_
    have gw81 := gf_i2d 10 (cB_k koy)
    refine lv_aload_n hx hb dX5_squareFrom_102 rfl (lv_at hl 2 rfl) ?_
    refine va_get (D := D) (ci := 4) (v := .double p1) (C := RX5) (T := TX5) (N := 14) hx hb hts hinX5 hown hw.1 hR 0 rfl rfl 3 (by decide) (hts (.fieldLink RX5 37 "WheelSwing$Stand" "py" "D") (by decide +kernel)) (fun _ h9 => h9) rfl dX5_squareFrom_103 ?_
    refine lv_dload hx hb dX5_squareFrom_106 (lv_at hl 1 rfl) ?_
    refine lv_aload_n hx hb dX5_squareFrom_108 rfl (lv_at hl 2 rfl) ?_
    refine va_get (D := D) (ci := 4) (v := .double p3) (C := RX5) (T := TX5) (N := 14) hx hb hts hinX5 hown hw.1 hR 0 rfl rfl 5 (by decide) (hts (.fieldLink RX5 66 "WheelSwing$Stand" "qy" "D") (by decide +kernel)) (fun _ h9 => h9) rfl dX5_squareFrom_109 ?_
    refine lv_aload_n hx hb dX5_squareFrom_112 rfl (lv_at hl 2 rfl) ?_
    refine va_get (D := D) (ci := 4) (v := .double p1) (C := RX5) (T := TX5) (N := 14) hx hb hts hinX5 hown hw.1 hR 0 rfl rfl 3 (by decide) (hts (.fieldLink RX5 37 "WheelSwing$Stand" "py" "D") (by decide +kernel)) (fun _ h9 => h9) rfl dX5_squareFrom_113 ?_
    have gw82 := gf_sub 934 1153 g3 g1 (Nat.le_of_ble_eq_true rfl) (Nat.le_of_ble_eq_true rfl) (Nat.le_of_ble_eq_true rfl) (Nat.le_of_ble_eq_true rfl) (Nat.le_of_ble_eq_true rfl)
    refine lv_dsub hx hb dX5_squareFrom_116 (gf_n64 gw82) ?_
    refine lv_topd (fun v83 ev83 => ?_)
    rw [← ev83] at gw82
    have gw84 := gf_mul 623 1247 (gz_ti (gz_t0 kc kox koy g0 g1 g2 g3)) gw82 (Nat.le_of_ble_eq_true rfl) (Nat.le_of_ble_eq_true rfl) (Nat.le_of_ble_eq_true rfl)
    refine lv_dmul hx hb dX5_squareFrom_117 (gf_n64 gw84) ?_
    refine lv_topd (fun v85 ev85 => ?_)
    rw [← ev85] at gw84
    have gw86 := gf_add 623 1248 g1 gw84 (Nat.le_of_ble_eq_true rfl) (Nat.le_of_ble_eq_true rfl) (Nat.le_of_ble_eq_true rfl) (Nat.le_of_ble_eq_true rfl) (Nat.le_of_ble_eq_true rfl)
    refine lv_dadd hx hb dX5_squareFrom_118 (gf_n64 gw86) ?_
    refine lv_topd (fun v87 ev87 => ?_)
    rw [← ev87] at gw86
    have gw88 := gf_sub 623 1249 gw81 gw86 (Nat.le_of_ble_eq_true rfl) (Nat.le_of_ble_eq_true rfl) (Nat.le_of_ble_eq_true rfl) (Nat.le_of_ble_eq_true rfl) (Nat.le_of_ble_eq_true rfl)
    refine lv_dsub hx hb dX5_squareFrom_119 (gf_n64 gw88) ?_
    refine lv_topd (fun v89 ev89 => ?_)
    rw [← ev89] at gw88
    have fv89 : v89 = tAx oy p1 p3 (tI (tT0 c ox oy p0 p1 p2 p3)) := by rw [ev89, ev87, ev85, ev83]; rfl
    clear ev89 gw88
    subst fv89
    refine lv_dstore (lv' := [(8, .double (tAx oy p1 p3 (tI (tT0 c ox oy p0 p1 p2 p3)))), (6, .double (tAx ox p0 p2 (tI (tT0 c ox oy p0 p1 p2 p3)))), (4, .double (tI (tT0 c ox oy p0 p1 p2 p3))), (0, .ref st), (1, .ref hg), (2, .int ox), (3, .int oy)]) hx hb dX5_squareFrom_120 hl (by decide) rfl (fun ls hl => ?_)
    refine lv_dload hx hb dX5_squareFrom_122 (lv_at hl 1 rfl) ?_
    refine lv_dload hx hb dX5_squareFrom_124 (lv_at hl 1 rfl) ?_
    have gw90 := gf_mul 80 1426 (gz_ax0 kc kox koy g0 g1 g2 g3) (gz_ax0 kc kox koy g0 g1 g2 g3) (Nat.le_of_ble_eq_true rfl) (Nat.le_of_ble_eq_true rfl) (Nat.le_of_ble_eq_true rfl)
    refine lv_dmul hx hb dX5_squareFrom_126 (gf_n64 gw90) ?_
    refine lv_topd (fun v91 ev91 => ?_)
    rw [← ev91] at gw90
    refine lv_dload hx hb dX5_squareFrom_127 (lv_at hl 0 rfl) ?_
    refine lv_dload hx hb dX5_squareFrom_129 (lv_at hl 0 rfl) ?_
    have gw92 := gf_mul 172 1424 (gz_ay0 kc kox koy g0 g1 g2 g3) (gz_ay0 kc kox koy g0 g1 g2 g3) (Nat.le_of_ble_eq_true rfl) (Nat.le_of_ble_eq_true rfl) (Nat.le_of_ble_eq_true rfl)
    refine lv_dmul hx hb dX5_squareFrom_131 (gf_n64 gw92) ?_
    refine lv_topd (fun v93 ev93 => ?_)
    rw [← ev93] at gw92
    have gw94 := gf_add 80 1427 gw90 gw92 (Nat.le_of_ble_eq_true rfl) (Nat.le_of_ble_eq_true rfl) (Nat.le_of_ble_eq_true rfl) (Nat.le_of_ble_eq_true rfl) (Nat.le_of_ble_eq_true rfl)
    refine lv_dadd hx hb dX5_squareFrom_132 (gf_n64 gw94) ?_
    refine lv_topd (fun v95 ev95 => ?_)
    rw [← ev95] at gw94
    have fv95 : v95 = tSq c ox oy p0 p1 p2 p3 := by rw [ev95, ev93, ev91]; rfl
    clear ev95 gw94
    subst fv95
    exact W.dret (v := tSq c ox oy p0 p1 p2 p3) hx hb hr (fun t ht hW => ⟨⟨tSq c ox oy p0 p1 p2 p3, (), rfl, rfl, trivial⟩, hS.F ht⟩) hS.2.2 dX5_squareFrom_133
