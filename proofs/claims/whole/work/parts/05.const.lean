/-! NUMBERS THAT STAND IN THE CODE; whole numbers as doubles; scaling by powers of two -/
theorem gf_dec {a b : Nat} {x : UInt64} (h1 : x.toNat % 2 ^ 63 < 9218868437227405312) (h2 : 2 ^ a ∣ (fv x).natAbs) (h3 : (fv x).natAbs ≤ 2 ^ b) : fGr a b x := ⟨(FP.Core.fin_bits x).mpr h1, h2, h3⟩
theorem fv_c0 : fv FP.dconst0 = 0 := by decide +kernel
theorem fv_z : fv 0 = 0 := by decide +kernel
theorem fv_c1 : fv FP.dconst1 = ((2 ^ 1074 : Nat) : Int) := by decide +kernel
theorem fv_2 : fv 4611686018427387904 = ((2 ^ 1075 : Nat) : Int) := by decide +kernel
theorem fv_4 : fv 4616189618054758400 = ((2 ^ 1076 : Nat) : Int) := by decide +kernel
theorem fv_3 : fv 4613937818241073152 = ((3 * 2 ^ 1074 : Nat) : Int) := by decide +kernel
theorem fv_52 : fv 4841369599423283200 = ((2 ^ 1126 : Nat) : Int) := by decide +kernel
theorem fv_53 : fv 4845873199050653696 = ((2 ^ 1127 : Nat) : Int) := by decide +kernel
theorem fv_1000 : fv 4652007308841189376 = ((125 * 2 ^ 1077 : Nat) : Int) := by decide +kernel
theorem gf_c0 : fGr 2000 0 FP.dconst0 := gf_dec (by decide +kernel) (by rw [fv_c0]; exact Nat.dvd_zero _) (by rw [fv_c0]; exact Nat.zero_le _)
theorem gf_c1 : fGr 1074 1074 FP.dconst1 := gf_dec (by decide +kernel) (by rw [fv_c1, Int.natAbs_natCast]; exact Nat.dvd_refl _) (by rw [fv_c1, Int.natAbs_natCast]; exact Nat.le_refl _)
theorem gf_2 : fGr 1075 1075 4611686018427387904 := gf_dec (by decide +kernel) (by rw [fv_2, Int.natAbs_natCast]; exact Nat.dvd_refl _) (by rw [fv_2, Int.natAbs_natCast]; exact Nat.le_refl _)
theorem gf_4 : fGr 1076 1076 4616189618054758400 := gf_dec (by decide +kernel) (by rw [fv_4, Int.natAbs_natCast]; exact Nat.dvd_refl _) (by rw [fv_4, Int.natAbs_natCast]; exact Nat.le_refl _)
theorem gf_3 : fGr 1074 1076 4613937818241073152 := gf_dec (by decide +kernel) (by rw [fv_3, Int.natAbs_natCast]; exact Nat.dvd_mul_left _ _) (by rw [fv_3, Int.natAbs_natCast, show 1076 = 1074 + 2 from rfl, Nat.pow_add]; omega)
theorem gf_52 : fGr 1126 1126 4841369599423283200 := gf_dec (by decide +kernel) (by rw [fv_52, Int.natAbs_natCast]; exact Nat.dvd_refl _) (by rw [fv_52, Int.natAbs_natCast]; exact Nat.le_refl _)
theorem gf_53 : fGr 1127 1127 4845873199050653696 := gf_dec (by decide +kernel) (by rw [fv_53, Int.natAbs_natCast]; exact Nat.dvd_refl _) (by rw [fv_53, Int.natAbs_natCast]; exact Nat.le_refl _)
theorem gf_1000 : fGr 1077 1084 4652007308841189376 := gf_dec (by decide +kernel) (by rw [fv_1000, Int.natAbs_natCast]; exact Nat.dvd_mul_left _ _) (by rw [fv_1000, Int.natAbs_natCast, show 1084 = 1077 + 7 from rfl, Nat.pow_add]; omega)
theorem ne_pow {x : UInt64} {n : Nat} (h : fv x = ((n : Nat) : Int)) (h0 : 0 < n) : fv x ≠ 0 := by rw [h]; omega
theorem ne_2 : fv 4611686018427387904 ≠ 0 := ne_pow fv_2 (Nat.two_pow_pos _)
theorem ne_4 : fv 4616189618054758400 ≠ 0 := ne_pow fv_4 (Nat.two_pow_pos _)
theorem ne_3 : fv 4613937818241073152 ≠ 0 := ne_pow fv_3 (Nat.mul_pos (by omega) (Nat.two_pow_pos _))
theorem ne_52 : fv 4841369599423283200 ≠ 0 := ne_pow fv_52 (Nat.two_pow_pos _)
theorem ne_1000 : fv 4652007308841189376 ≠ 0 := ne_pow fv_1000 (Nat.mul_pos (by omega) (Nat.two_pow_pos _))
theorem fv_int {x : UInt64} {i : Int} (h : FP.Core.DInt i x) : FP.Core.DFin x ∧ fv x = i * ((2 ^ 1074 : Nat) : Int) := by
  unfold FP.Core.DInt at h
  cases hx : FP.Core.val64 x with
  | nan => rw [hx] at h; exact h.elim
  | inf s => rw [hx] at h; exact h.elim
  | fin s c q =>
    rw [hx] at h
    refine ⟨⟨s, c, q, hx⟩, ?_⟩
    have hq := (fp_fits hx).2.1
    rw [fp_qmin] at hq
    have hu := FP.Core.whole_units h hq
    rw [show ((-1074 : Int)).toNat = 0 by omega, show (-(-1074 : Int)).toNat = 1074 by omega] at hu
    rw [Nat.pow_zero] at hu
    have hfv : fv x = FP.Core.signed s (FP.Core.inUnits c q (-1074)) := by unfold fv; rw [hx, ← fp_qmin]; rfl
    rw [hfv]
    have e1 : ((1 : Nat) : Int) = 1 := rfl
    rw [e1, Int.mul_one] at hu
    exact hu
theorem fv_i2d (v : Int32) : fv (FP.i2d v) = v.toInt * ((2 ^ 1074 : Nat) : Int) := (fv_int (FP.Core.i2d_int v)).2
theorem fin_i2d (v : Int32) : FP.Core.DFin (FP.i2d v) := (fv_int (FP.Core.i2d_int v)).1
theorem gf_i2d (k : Nat) {v : Int32} (h : v.toInt.natAbs ≤ 2 ^ k) : fGr 1074 (1074 + k) (FP.i2d v) := by
  refine ⟨fin_i2d v, ?_, ?_⟩
  · rw [fv_i2d, Int.natAbs_mul, Int.natAbs_natCast]
    exact Nat.dvd_mul_left _ _
  · rw [fv_i2d, Int.natAbs_mul, Int.natAbs_natCast, Nat.pow_add, Nat.mul_comm]
    exact Nat.mul_le_mul_left _ h
/-- an exact division by 2^k -/
theorem sc_div {x y : UInt64} {c i k : Nat} (hx : FP.Core.DFin x) (hy : FP.Core.DFin y) (hc : c ≤ 2 ^ 53) (h : fv x = ((c * 2 ^ (i + k) : Nat) : Int)) (h2 : fv y = ((2 ^ (1074 + k) : Nat) : Int)) (hi : i ≤ 2040) : FP.Core.DFin (FP.ddiv x y) ∧ fv (FP.ddiv x y) = ((c * 2 ^ i : Nat) : Int) := by
  have hk := Nat.two_pow_pos (1074 + k)
  have h0 : fv y ≠ 0 := by rw [h2]; omega
  have hs : (fv y).sign = 1 := by rw [h2]; exact Int.sign_eq_one_of_pos (by omega)
  have hA : (fv x).natAbs * 2 ^ 1074 = (fv y).natAbs * (c * 2 ^ i) := by
    rw [h, h2, Int.natAbs_natCast, Int.natAbs_natCast, Nat.pow_add 2 i k, Nat.pow_add 2 1074 k]
    generalize (2 : Nat) ^ 1074 = T
    ac_rfl
  have hlt : (fv x).natAbs * 2 ^ 1074 < (fv y).natAbs * 2 ^ 2097 := by
    rw [hA]
    refine Nat.mul_lt_mul_of_pos_left ?_ (Int.natAbs_pos.mpr h0)
    refine Nat.lt_of_le_of_lt (Nat.mul_le_mul_right _ hc) ?_
    rw [← Nat.pow_add]
    exact Nat.pow_lt_pow_right (by omega) (by omega)
  obtain ⟨f1, f2⟩ := fp_div hx hy h0 hlt
  rw [hs, Int.mul_one] at f2
  have hnn : 0 ≤ fv x * ((2 ^ 1074 : Nat) : Int) := Int.mul_nonneg (by rw [h]; exact Int.natCast_nonneg _) (by omega)
  have h3 := f2.1
  rw [Int.natAbs_mul, Int.natAbs_natCast] at h3
  have h4 := rn_exact (Int.natAbs_pos.mpr h0) h3 hA hc
  refine ⟨f1, ?_⟩
  have := f2.2.1 hnn
  omega
/-- an exact product with 2^k -/
theorem sc_mul {x y : UInt64} {c i j k : Nat} (hx : FP.Core.DFin x) (hy : FP.Core.DFin y) (hc : c ≤ 2 ^ 53) (h : fv x = ((c * 2 ^ i : Nat) : Int)) (h2 : fv y = ((2 ^ k : Nat) : Int)) (hj : i + k = j + 1074) (hjl : j ≤ 2040) : FP.Core.DFin (FP.dmul x y) ∧ fv (FP.dmul x y) = ((c * 2 ^ j : Nat) : Int) := by
  have hA : (fv x * fv y).natAbs = 2 ^ 1074 * (c * 2 ^ j) := by
    rw [Int.natAbs_mul, h, h2, Int.natAbs_natCast, Int.natAbs_natCast]
    have e : 2 ^ i * 2 ^ k = 2 ^ j * 2 ^ 1074 := by rw [← Nat.pow_add, ← Nat.pow_add, hj]
    generalize (2 : Nat) ^ 1074 = T at e ⊢
    calc c * 2 ^ i * 2 ^ k = c * (2 ^ i * 2 ^ k) := by ac_rfl
      _ = c * (2 ^ j * T) := by rw [e]
      _ = T * (c * 2 ^ j) := by ac_rfl
  have hlt : (fv x * fv y).natAbs < 2 ^ 1074 * 2 ^ 2097 := by
    rw [hA]
    refine Nat.mul_lt_mul_of_pos_left ?_ (Nat.two_pow_pos _)
    refine Nat.lt_of_le_of_lt (Nat.mul_le_mul_right _ hc) ?_
    rw [← Nat.pow_add]
    exact Nat.pow_lt_pow_right (by omega) (by omega)
  obtain ⟨f1, f2⟩ := fp_mul hx hy hlt
  have hnn : 0 ≤ fv x * fv y := Int.mul_nonneg (by rw [h]; exact Int.natCast_nonneg _) (by rw [h2]; exact Int.natCast_nonneg _)
  have h4 := rn_exact (Nat.two_pow_pos 1074) f2.1 hA hc
  refine ⟨f1, ?_⟩
  have := f2.2.1 hnn
  omega
/-- a number that fits a long, cut to it -/
theorem fv_d2l {x : UInt64} {n : Nat} (hx : FP.Core.DFin x) (h : fv x = ((n * 2 ^ 1074 : Nat) : Int)) (hn : n < 2 ^ 62) : FP.d2l x = lN n := by
  obtain ⟨s, c, q, hv⟩ := hx
  have hq := (fp_fits hv).2.1
  rw [fp_qmin] at hq
  have hfv : fv x = FP.Core.signed s (FP.Core.inUnits c q (-1074)) := by unfold fv; rw [hv, ← fp_qmin]; rfl
  have hw : FP.Core.Whole (n : Int) (FP.Core.val64 x) := by
    rw [hv]
    show FP.Core.signed s (c * 2 ^ q.toNat) = (n : Int) * ((2 ^ (-q).toNat : Nat) : Int)
    rw [hfv] at h
    have hab : c * 2 ^ (q + 1074).toNat = n * 2 ^ 1074 := by
      have := congrArg Int.natAbs h
      rw [FP.Core.natAbs_signed, Int.natAbs_natCast] at this
      unfold FP.Core.inUnits at this
      rw [show (q - -1074) = q + 1074 by omega] at this
      exact this
    have hpos : c * 2 ^ q.toNat = n * 2 ^ (-q).toNat := by
      have e1 : (q + 1074).toNat + (-q).toNat = q.toNat + 1074 := by omega
      have e2 : 2 ^ (q + 1074).toNat * 2 ^ (-q).toNat = 2 ^ q.toNat * 2 ^ 1074 := by rw [← Nat.pow_add, ← Nat.pow_add, e1]
      have e3 : c * 2 ^ q.toNat * 2 ^ 1074 = n * 2 ^ (-q).toNat * 2 ^ 1074 := by
        calc c * 2 ^ q.toNat * 2 ^ 1074 = c * (2 ^ q.toNat * 2 ^ 1074) := Nat.mul_assoc _ _ _
          _ = c * (2 ^ (q + 1074).toNat * 2 ^ (-q).toNat) := by rw [e2]
          _ = c * 2 ^ (q + 1074).toNat * 2 ^ (-q).toNat := (Nat.mul_assoc _ _ _).symm
          _ = n * 2 ^ 1074 * 2 ^ (-q).toNat := by rw [hab]
          _ = n * 2 ^ (-q).toNat * 2 ^ 1074 := by rw [Nat.mul_assoc, Nat.mul_comm (2 ^ 1074), ← Nat.mul_assoc]
      exact Nat.eq_of_mul_eq_mul_right (Nat.two_pow_pos 1074) e3
    cases s with
    | false =>
      show ((c * 2 ^ q.toNat : Nat) : Int) = _
      rw [hpos, Int.natCast_mul]
    | true =>
      have hc0 : c * 2 ^ (q + 1074).toNat = 0 := by
        have h5 : FP.Core.signed true (FP.Core.inUnits c q (-1074)) = -((FP.Core.inUnits c q (-1074) : Nat) : Int) := rfl
        rw [h5] at h
        have h6 : FP.Core.inUnits c q (-1074) = 0 := by omega
        unfold FP.Core.inUnits at h6
        rw [show (q - -1074) = q + 1074 by omega] at h6
        exact h6
      have hn0 : n = 0 := by
        rw [hc0] at hab
        rcases Nat.mul_eq_zero.mp hab.symm with h | h
        · exact h
        · exact absurd h (Nat.ne_of_gt (Nat.two_pow_pos _))
      have hcz : c = 0 := by
        rcases Nat.mul_eq_zero.mp hc0 with h | h
        · exact h
        · exact absurd h (Nat.ne_of_gt (Nat.two_pow_pos _))
      subst hn0; subst hcz
      show -((0 * 2 ^ q.toNat : Nat) : Int) = _
      omega
  have ht : (lN n).toInt = (n : Int) := pk_lT (by omega)
  exact FP.Core.d2l_int (by unfold FP.Core.DInt; rw [ht]; exact hw)
