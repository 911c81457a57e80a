/-! ZEROS: which numbers of a pose are 0.0 where they are a zero (never -0.0) -/
theorem fv_zero {x : UInt64} (h : FP.Core.DFin x) (h0 : fv x = 0) : x = 0 ∨ x = 9223372036854775808 := by
  have hz : x.toNat % 2 ^ 63 = 0 := by
    have hne : FP.Core.val64 x ≠ .nan := by obtain ⟨s, c, q, h⟩ := h; rw [h]; exact fun h => nomatch h
    have h1 := FP.Core.zmag_bits hne
    have h2 : FP.Core.zmag FP.Core.b64 (FP.Core.val64 x) = 0 := by
      have := congrArg Int.natAbs h0
      unfold fv FP.Core.zval at this
      rw [FP.Core.natAbs_signed] at this
      exact this
    rw [h2] at h1
    exact FP.Core.unitsOf_eq_zero.mp h1.symm
  have hl := x.toNat_lt
  rcases Nat.lt_or_ge x.toNat (2 ^ 63) with h3 | h3
  · exact Or.inl (UInt64.toNat_inj.mp (by show x.toNat = 0; omega))
  · exact Or.inr (UInt64.toNat_inj.mp (by show x.toNat = 9223372036854775808; omega))
theorem dneg_c {x : UInt64} (hx : FP.Core.DFin x) : FP.dneg x = FP.Core.dneg x := FP.dneg_core ((FP.Core.notNaN_iff x).mpr (by obtain ⟨s, c, q, h⟩ := hx; rw [h]; exact fun h => nomatch h))
theorem zp_ne {x : UInt64} (h : fv x ≠ 0) : zP x := fun h0 => absurd h0 h
theorem zp_c0 : zP FP.dconst0 := fun _ => rfl
theorem zp_add {x y : UInt64} {a1 b1 a2 b2 : Nat} (h1 : fGr a1 b1 x) (h2 : fGr a2 b2 y) (hb1 : b1 ≤ 2000) (hb2 : b2 ≤ 2000) (hz : zP x) : zP (FP.dadd x y) := by
  intro h0
  have k1 : 2 ^ b1 ≤ 2 ^ 2000 := Nat.pow_le_pow_right (by omega) hb1
  have k2 : 2 ^ b2 ≤ 2 ^ 2000 := Nat.pow_le_pow_right (by omega) hb2
  have k3 : (2 : Nat) ^ 2001 = 2 * 2 ^ 2000 := by rw [Nat.pow_succ, Nat.mul_comm]
  have k4 : (2 : Nat) ^ 2001 < 2 ^ 2097 := Nat.pow_lt_pow_right (by omega) (by omega)
  have k5 := h1.2.2
  have k6 := h2.2.2
  have hlt : (fv x + fv y).natAbs < 2 ^ 2097 := by
    generalize (2 : Nat) ^ 2000 = T at k1 k2 k3
    generalize (2 : Nat) ^ 2001 = T1 at k3 k4
    generalize (2 : Nat) ^ 2097 = T2 at k4 ⊢
    generalize 2 ^ b1 = T3 at k1 k5
    generalize 2 ^ b2 = T4 at k2 k6
    omega
  obtain ⟨-, f1, -⟩ := fp_add h1.1 h2.1 hlt
  rw [h0] at f1
  have hs : fv x + fv y = 0 := by
    refine Classical.byContradiction fun hc => ?_
    have := rn_nz (by omega) f1 (Int.natAbs_pos.mpr hc)
    exact absurd this (by decide)
  by_cases hx : fv x = 0
  · have hx0 := hz hx
    subst hx0
    have hy : fv y = 0 := by rw [hx, Int.zero_add] at hs; exact hs
    rcases fv_zero h2.1 hy with h | h
    · subst h; decide +kernel
    · subst h; decide +kernel
  · obtain ⟨n1, n2⟩ := fv_neg h1.1
    have hy : y = FP.dneg x := fv_inj h2.1 n1 (by rw [n2]; omega) (by rw [n2]; omega)
    subst hy
    rw [dneg_c h1.1]
    obtain ⟨s, c, q, hv⟩ := h1.1
    exact (FP.Core.dsub_eq x x).symm.trans (FP.Core.dsub_self hv)
theorem zp_sub {x y : UInt64} {a1 b1 a2 b2 : Nat} (h1 : fGr a1 b1 x) (h2 : fGr a2 b2 y) (hb1 : b1 ≤ 2000) (hb2 : b2 ≤ 2000) (hz : zP x) : zP (FP.dsub x y) := by
  have e : FP.dsub x y = FP.dadd x (FP.dneg y) := (FP.Core.dsub_eq x y).trans (congrArg (FP.Core.dadd x) (dneg_c h2.1).symm)
  rw [e]
  exact zp_add h1 (gf_neg h2) hb1 hb2 hz
theorem zq {y : UInt64} (hy : FP.Core.DFin y) (h0 : fv y ≠ 0) : FP.ddiv 0 y = if fv y < 0 then 9223372036854775808 else 0 := by
  obtain ⟨t, d, r, h2⟩ := hy
  have hfb : fv y = FP.Core.signed t (d * 2 ^ (r - FP.Core.b64.qmin).toNat) := by unfold fv; rw [h2]; rfl
  have hd : d ≠ 0 := by
    intro hd
    subst hd
    rw [Nat.zero_mul] at hfb
    refine h0 ?_
    rw [hfb]
    cases t <;> rfl
  have hp := Nat.mul_pos (Nat.pos_of_ne_zero hd) (Nat.two_pow_pos (r - FP.Core.b64.qmin).toNat)
  have hx := FP.Core.val64_ddiv 0 y
  rw [show FP.Core.val64 0 = .fin false 0 FP.Core.b64.qmin from FP.Core.val64_dconst0, h2] at hx
  have hquo : FP.Core.quotient FP.Core.b64 (.fin false 0 FP.Core.b64.qmin) (.fin t d r) = .fin (false != t) 0 FP.Core.b64.qmin := (if_neg hd).trans (if_pos rfl)
  rw [hquo] at hx
  generalize d * 2 ^ (r - FP.Core.b64.qmin).toNat = Y at hfb hp
  cases t with
  | false =>
    have hn : ¬ fv y < 0 := by rw [hfb]; show ¬ ((Y : Nat) : Int) < 0; omega
    rw [if_neg hn]
    exact FP.Core.val64_inj (by rw [hx]; exact fun h => nomatch h) (hx.trans FP.Core.val64_dconst0.symm)
  | true =>
    have hn : fv y < 0 := by rw [hfb]; show -((Y : Nat) : Int) < 0; omega
    rw [if_pos hn]
    exact FP.Core.val64_inj (by rw [hx]; exact fun h => nomatch h) (hx.trans FP.Core.val64_dzeroNeg.symm)
theorem dv_ne {x y : UInt64} {a1 b1 a2 b2 : Nat} (h1 : fGr a1 b1 x) (h2 : fGr a2 b2 y) (h0 : fv y ≠ 0) (hx : fv x ≠ 0) (ha : b2 ≤ a1 + 1074) (hb : b1 + 1074 < a2 + 2097) : fv (FP.ddiv x y) ≠ 0 := by
  have hy := fv_ne0 h2 h0
  have hxx := fv_ne0 h1 hx
  have hu : (fv x).natAbs * 2 ^ 1074 < (fv y).natAbs * 2 ^ 2097 := by
    refine Nat.lt_of_le_of_lt (Nat.mul_le_mul_right _ h1.2.2) (Nat.lt_of_lt_of_le ?_ (Nat.mul_le_mul_right _ hy))
    rw [← Nat.pow_add, ← Nat.pow_add]
    exact Nat.pow_lt_pow_right (by omega) (by omega)
  obtain ⟨-, q1, -⟩ := fp_div h1.1 h2.1 h0 hu
  rw [Int.natAbs_mul, Int.natAbs_mul, Int.natAbs_sign_of_ne_zero h0, Int.natAbs_natCast, Nat.mul_one] at q1
  have hB : 0 < (fv y).natAbs := Int.natAbs_pos.mpr h0
  have h3 := rn_nz hB q1 (by
    refine Nat.le_trans h2.2.2 (Nat.le_trans ?_ (Nat.mul_le_mul_right _ hxx))
    rw [← Nat.pow_add]
    exact Nat.pow_le_pow_right (by omega) ha)
  intro hc
  rw [hc] at h3
  exact absurd h3 (by decide)
theorem zp_div {x y : UInt64} {a1 b1 a2 b2 : Nat} (h1 : fGr a1 b1 x) (h2 : fGr a2 b2 y) (hp : 0 < fv y) (ha : b2 ≤ a1 + 1074) (hb : b1 + 1074 < a2 + 2097) (hz : zP x) : zP (FP.ddiv x y) := by
  by_cases hx : fv x = 0
  · have hx0 := hz hx
    subst hx0
    intro _
    rw [zq h2.1 (by omega), if_neg (by omega)]
  · exact zp_ne (dv_ne h1 h2 (by omega) hx ha hb)
theorem zp_i2d (v : Int32) : zP (FP.i2d v) := by
  intro h
  rw [fv_i2d] at h
  have hv : v.toInt = 0 := by
    rcases Int.mul_eq_zero.mp h with h | h
    · exact h
    · exact absurd (Int.ofNat_eq_zero.mp h) (Nat.ne_of_gt (Nat.two_pow_pos _))
  have h2 : v = 0 := Int32.toInt_inj.mp hv
  rw [h2]
  exact i2d_0
theorem zp_sq {x : UInt64} (h : fRt x) : zP (fsq x) := by
  rcases rt_ex h with ⟨-, h1⟩ | ⟨N, i, R, d1, a1, a2, a3, a4, d2⟩
  · exact fun _ => h1
  · refine zp_ne ?_
    rw [d2.2]
    have hR : R ≠ 0 := by
      intro h0
      subst h0
      omega
    have := Nat.mul_pos (Nat.pos_of_ne_zero hR) (Nat.two_pow_pos (i + 511))
    omega
theorem c_pos {c : Int32} (h : aB c) : 0 < fv (FP.i2d c) := by
  rw [fv_i2d]
  exact Int.mul_pos (by have := h.1; omega) (Int.natCast_pos.mpr (Nat.two_pow_pos _))
theorem zz_px {U V lx ly a b c y : Int32} (h : pB U V lx ly a b c y) (h0 : 0 ≤ tH b ly y) : zP (tPx lx ly b y) := by
  have hh := h
  obtain ⟨hU, hV, hlx, hly, ha, hb, hc, hy⟩ := h
  exact (zp_add (gf_i2d 10 (cB_k hlx)) (gf_sq 1021 1085 (rt_ex (rt_int h0 (tH_k hb hly hy h0) (by omega))) (gf_i2d 20 (tH_k hb hly hy h0)) (Nat.le_of_ble_eq_true rfl) (Nat.le_of_ble_eq_true rfl)) (Nat.le_of_ble_eq_true rfl) (Nat.le_of_ble_eq_true rfl) (zp_i2d _))
theorem zz_qx {U V lx ly a b c sd y : Int32} (h : pB U V lx ly a b c y) (h0 : 0 ≤ tH b ly y) (he : fv (tE U V lx ly b y) ≠ 0) (hk : 0 ≤ fv (tK U V lx ly a b c y)) (hsd : sd = 1 ∨ sd = -1) : zP (tQx U V lx ly a b c sd y) := by
  have hh := h
  obtain ⟨hU, hV, hlx, hly, ha, hb, hc, hy⟩ := h
  exact (zp_add (gf_add 888 1152 (gz_px hh h0) (gf_mul 888 1151 (gz_m hh h0 he hk) (gz_dx hh h0) (Nat.le_of_ble_eq_true rfl) (Nat.le_of_ble_eq_true rfl) (Nat.le_of_ble_eq_true rfl)) (Nat.le_of_ble_eq_true rfl) (Nat.le_of_ble_eq_true rfl) (Nat.le_of_ble_eq_true rfl) (Nat.le_of_ble_eq_true rfl) (Nat.le_of_ble_eq_true rfl)) (gf_mul 987 1149 (gz_s hh h0 he hk hsd) (gz_dy hh h0) (Nat.le_of_ble_eq_true rfl) (Nat.le_of_ble_eq_true rfl) (Nat.le_of_ble_eq_true rfl)) (Nat.le_of_ble_eq_true rfl) (Nat.le_of_ble_eq_true rfl) (zp_add (gz_px hh h0) (gf_mul 888 1151 (gz_m hh h0 he hk) (gz_dx hh h0) (Nat.le_of_ble_eq_true rfl) (Nat.le_of_ble_eq_true rfl) (Nat.le_of_ble_eq_true rfl)) (Nat.le_of_ble_eq_true rfl) (Nat.le_of_ble_eq_true rfl) (zz_px hh h0)))
theorem zz_qy {U V lx ly a b c sd y : Int32} (h : pB U V lx ly a b c y) (h0 : 0 ≤ tH b ly y) (he : fv (tE U V lx ly b y) ≠ 0) (hk : 0 ≤ fv (tK U V lx ly a b c y)) (hsd : sd = 1 ∨ sd = -1) : zP (tQy U V lx ly a b c sd y) := by
  have hh := h
  obtain ⟨hU, hV, hlx, hly, ha, hb, hc, hy⟩ := h
  exact (zp_sub (gf_add 941 1150 (gf_i2d 10 (yB_k hy)) (gf_mul 941 1149 (gz_m hh h0 he hk) (gz_dy hh h0) (Nat.le_of_ble_eq_true rfl) (Nat.le_of_ble_eq_true rfl) (Nat.le_of_ble_eq_true rfl)) (Nat.le_of_ble_eq_true rfl) (Nat.le_of_ble_eq_true rfl) (Nat.le_of_ble_eq_true rfl) (Nat.le_of_ble_eq_true rfl) (Nat.le_of_ble_eq_true rfl)) (gf_mul 934 1151 (gz_s hh h0 he hk hsd) (gz_dx hh h0) (Nat.le_of_ble_eq_true rfl) (Nat.le_of_ble_eq_true rfl) (Nat.le_of_ble_eq_true rfl)) (Nat.le_of_ble_eq_true rfl) (Nat.le_of_ble_eq_true rfl) (zp_add (gf_i2d 10 (yB_k hy)) (gf_mul 941 1149 (gz_m hh h0 he hk) (gz_dy hh h0) (Nat.le_of_ble_eq_true rfl) (Nat.le_of_ble_eq_true rfl) (Nat.le_of_ble_eq_true rfl)) (Nat.le_of_ble_eq_true rfl) (Nat.le_of_ble_eq_true rfl) (zp_i2d _)))
theorem zz_vx {U V lx ly a b c sd y : Int32} (h : pB U V lx ly a b c y) (h0 : 0 ≤ tH b ly y) (he : fv (tE U V lx ly b y) ≠ 0) (hk : 0 ≤ fv (tK U V lx ly a b c y)) (hsd : sd = 1 ∨ sd = -1) : zP (tVx U V lx ly a b c sd y) := by
  have hh := h
  obtain ⟨hU, hV, hlx, hly, ha, hb, hc, hy⟩ := h
  exact (zp_div (gf_sub 888 1154 (gz_qx hh h0 he hk hsd) (gz_px hh h0) (Nat.le_of_ble_eq_true rfl) (Nat.le_of_ble_eq_true rfl) (Nat.le_of_ble_eq_true rfl) (Nat.le_of_ble_eq_true rfl) (Nat.le_of_ble_eq_true rfl)) (gf_i2d 10 (aB_k hc)) (c_pos hc) (Nat.le_of_ble_eq_true rfl) (by omega) (zp_sub (gz_qx hh h0 he hk hsd) (gz_px hh h0) (Nat.le_of_ble_eq_true rfl) (Nat.le_of_ble_eq_true rfl) (zz_qx hh h0 he hk hsd)))
