/-! THE ROOT: what a rounded root is; that there is one at most; Newton's steps -/
theorem fv_inj {a b : UInt64} (ha : FP.Core.DFin a) (hb : FP.Core.DFin b) (h : fv a = fv b) (h0 : fv b ≠ 0) : a = b := by
  refine FP.Core.eq_bits (fun hz => h0 hz.zval) ?_
  rw [show FP.Core.dcmp a b = some (compare (fv a) (fv b)) from fp_cmp ha hb, h]
  exact congrArg some (FP.Core.compare_self_int _)
def IsRt (x r : UInt64) : Prop := (x = 0 ∧ r = 0) ∨ ∃ N h R : Nat, dv x N (2 * h) ∧ 2 ^ 52 ≤ N ∧ N < 2 ^ 54 ∧ R * R < N * 2 ^ 52 + R ∧ N * 2 ^ 52 ≤ R * R + R ∧ dv r R (h + 511)
theorem rt_h {N N' h h' : Nat} (a1 : 2 ^ 52 ≤ N) (b2 : N' < 2 ^ 54) (e : N * 2 ^ (2 * h) = N' * 2 ^ (2 * h')) : h ≤ h' := by
  refine Nat.le_of_not_lt fun hlt => ?_
  have e2 : 2 ^ (2 * h) = 2 ^ (2 * (h - h')) * 2 ^ (2 * h') := by rw [← Nat.pow_add]; congr 1; omega
  rw [e2, ← Nat.mul_assoc] at e
  have e3 := Nat.eq_of_mul_eq_mul_right (Nat.two_pow_pos _) e
  have e4 : 2 ^ 2 ≤ 2 ^ (2 * (h - h')) := Nat.pow_le_pow_right (by omega) (by omega)
  have e5 : 2 ^ 52 * 2 ^ 2 ≤ N * 2 ^ (2 * (h - h')) := Nat.mul_le_mul a1 e4
  omega
theorem rt_R {M R R' : Nat} (h1 : M ≤ R * R + R) (h2 : R' * R' < M + R') : R' ≤ R := by
  refine Nat.le_of_not_lt fun hlt => ?_
  obtain ⟨k, rfl⟩ : ∃ k, R' = R + 1 + k := ⟨R' - (R + 1), by omega⟩
  have : (R + 1 + k) * (R + 1 + k) = R * R + 2 * R + 1 + 2 * (R * k) + 2 * k + k * k := by
    simp only [Nat.add_mul, Nat.mul_add, Nat.mul_one, Nat.one_mul, Nat.mul_comm k R]; omega
  omega
theorem rt_uniq {x r r' : UInt64} (h : IsRt x r) (h' : IsRt x r') : r = r' := by
  rcases h with ⟨hx, hr⟩ | ⟨N, h, R, d1, a1, a2, a3, a4, d2⟩
  · rcases h' with ⟨_, hr'⟩ | ⟨N', h', R', d1', a1', _⟩
    · rw [hr, hr']
    · exfalso
      have := dv_pos d1' a1'
      rw [hx, fv_z] at this
      exact absurd this (by decide)
  · rcases h' with ⟨hx, _⟩ | ⟨N', h', R', d1', a1', a2', a3', a4', d2'⟩
    · exfalso
      have := dv_pos d1 a1
      rw [hx, fv_z] at this
      exact absurd this (by decide)
    · have e : N * 2 ^ (2 * h) = N' * 2 ^ (2 * h') := by
        have := d1.2.symm.trans d1'.2
        exact Int.ofNat_inj.mp this
      have hh : h = h' := Nat.le_antisymm (rt_h a1 a2' e) (rt_h a1' a2 e.symm)
      subst hh
      have hN := Nat.eq_of_mul_eq_mul_right (Nat.two_pow_pos _) e
      subst hN
      have hR : R = R' := Nat.le_antisymm (rt_R a4' a3) (rt_R a4 a3')
      subst hR
      refine fv_inj d2.1 d2'.1 (d2.2.trans d2'.2.symm) ?_
      rw [d2'.2]
      have hR0 : R ≠ 0 := by
        intro h0
        subst h0
        omega
      have := Nat.mul_pos (Nat.pos_of_ne_zero hR0) (Nat.two_pow_pos (h + 511))
      omega
noncomputable def fsq (x : UInt64) : UInt64 := Classical.epsilon (IsRt x)
theorem fsq_eq {x r : UInt64} (h : IsRt x r) : r = fsq x := rt_uniq h (Classical.epsilon_spec ⟨r, h⟩)
theorem rt_sq_le {R M : Nat} (hM : M < 2 ^ 106) (h : R * R < M + R) : R ≤ 2 ^ 53 := by
  refine Nat.le_of_not_lt fun hl => ?_
  have h1 : (2 ^ 53 + 1) * R ≤ R * R := Nat.mul_le_mul_right _ hl
  have h2 : 2 ^ 53 * 2 ^ 53 ≤ 2 ^ 53 * R := Nat.mul_le_mul_left _ (Nat.le_of_lt hl)
  rw [Nat.add_mul, Nat.one_mul] at h1
  omega
set_option maxRecDepth 100000 in
theorem sq_b {h b b' : Nat} (k4 : 52 + 2 * h ≤ b) (h2 : b + 1076 ≤ 2 * b') : 53 + (h + 511) ≤ b' := Nat.le_of_mul_le_mul_left (by omega : 2 * (53 + (h + 511)) ≤ 2 * b') (by omega)
theorem gf_sq {x r : UInt64} {a b : Nat} (a' b' : Nat) (h : IsRt x r) (g : fGr a b x) (h1 : 2 * a' + 53 ≤ a + 1022) (h2 : b + 1076 ≤ 2 * b') : fGr a' b' r := by
  rcases h with ⟨hx, hr⟩ | ⟨N, h, R, d1, n1, n2, r1, r2, d2⟩
  · subst hr
    exact gf_dec (by decide +kernel) (by rw [fv_z]; exact Nat.dvd_zero _) (by rw [fv_z]; exact Nat.zero_le _)
  · have hx := d1.2
    have g2 := g.2.1
    have g3 := g.2.2
    rw [hx, Int.natAbs_natCast] at g2 g3
    have hpos : 0 < N * 2 ^ (2 * h) := Nat.mul_pos (by omega) (Nat.two_pow_pos _)
    have k1 : 2 ^ a < 2 ^ (54 + 2 * h) := by
      refine Nat.lt_of_le_of_lt (Nat.le_of_dvd hpos g2) ?_
      rw [Nat.pow_add]
      exact Nat.mul_lt_mul_of_pos_right n2 (Nat.two_pow_pos _)
    have k2 := rn_powlt k1
    have k3 : 2 ^ (52 + 2 * h) ≤ 2 ^ b := by
      rw [Nat.pow_add]
      exact Nat.le_trans (Nat.mul_le_mul_right _ n1) g3
    have k4 := rn_pow k3
    have hR := rt_sq_le (by omega) r1
    refine ⟨d2.1, ?_, ?_⟩
    · rw [d2.2, Int.natAbs_natCast]
      exact Nat.dvd_trans (Nat.pow_dvd_pow 2 (by omega)) (Nat.dvd_mul_left _ _)
    · rw [d2.2, Int.natAbs_natCast]
      refine Nat.le_trans (Nat.mul_le_mul_right _ hR) ?_
      rw [← Nat.pow_add]
      exact Nat.pow_le_pow_right (by decide) (sq_b k4 h2)
/-- an exact product with a power of two, of any number -/
theorem sc_up {x y : UInt64} {n k : Nat} (hx : FP.Core.DFin x) (hy : FP.Core.DFin y) (h : fv x = (n : Int)) (h2 : fv y = ((2 ^ (1074 + k) : Nat) : Int)) (hb : n * 2 ^ k < 2 ^ 2097) : FP.Core.DFin (FP.dmul x y) ∧ fv (FP.dmul x y) = ((n * 2 ^ k : Nat) : Int) := by
  obtain ⟨c, i, hc, e⟩ := fv_rep hx
  rw [h, Int.natAbs_natCast] at e
  have hA : (fv x * fv y).natAbs = 2 ^ 1074 * (c * 2 ^ (i + k)) := by
    rw [Int.natAbs_mul, h, h2, Int.natAbs_natCast, Int.natAbs_natCast, e, Nat.pow_add 2 1074 k, Nat.pow_add 2 i k]
    generalize (2 : Nat) ^ 1074 = T
    ac_rfl
  have e2 : c * 2 ^ (i + k) = n * 2 ^ k := by rw [e, Nat.pow_add]; ac_rfl
  obtain ⟨f1, f2⟩ := fp_mul hx hy (by rw [hA, e2]; exact Nat.mul_lt_mul_of_pos_left hb (Nat.two_pow_pos _))
  have h4 := rn_exact (Nat.two_pow_pos 1074) f2.1 hA (Nat.le_of_lt hc)
  refine ⟨f1, ?_⟩
  have := f2.2.1 (Int.mul_nonneg (by rw [h]; exact Int.natCast_nonneg _) (by rw [h2]; exact Int.natCast_nonneg _))
  omega
/-- an exact division by a power of two, of any number -/
theorem sc_dn {x y : UInt64} {w k : Nat} (hx : FP.Core.DFin x) (hy : FP.Core.DFin y) (h : fv x = ((w * 2 ^ k : Nat) : Int)) (h2 : fv y = ((2 ^ (1074 + k) : Nat) : Int)) (hb : w < 2 ^ 2097) : FP.Core.DFin (FP.ddiv x y) ∧ fv (FP.ddiv x y) = (w : Int) := by
  obtain ⟨c, i, hc, e⟩ := fv_rep hx
  rw [h, Int.natAbs_natCast] at e
  have hk := Nat.two_pow_pos (1074 + k)
  have h0 : fv y ≠ 0 := by rw [h2]; omega
  have hs : (fv y).sign = 1 := by rw [h2]; exact Int.sign_eq_one_of_pos (by omega)
  have hA : (fv x).natAbs * 2 ^ 1074 = (fv y).natAbs * w := by
    rw [h, h2, Int.natAbs_natCast, Int.natAbs_natCast, Nat.pow_add 2 1074 k]
    generalize (2 : Nat) ^ 1074 = T
    ac_rfl
  obtain ⟨f1, f2⟩ := fp_div hx hy h0 (by rw [hA]; exact Nat.mul_lt_mul_of_pos_left hb (Int.natAbs_pos.mpr h0))
  rw [hs, Int.mul_one] at f2
  have h3 := f2.1
  rw [Int.natAbs_mul, Int.natAbs_natCast] at h3
  have hrep : ∃ m j, w = m * 2 ^ j ∧ m ≤ 2 ^ 53 := by
    rcases Nat.le_total k i with hki | hki
    · refine ⟨c, i - k, ?_, Nat.le_of_lt hc⟩
      rw [rn_pw hki, ← Nat.mul_assoc] at e
      exact Nat.eq_of_mul_eq_mul_right (Nat.two_pow_pos k) e
    · refine ⟨w, 0, by omega, ?_⟩
      rw [rn_pw hki, ← Nat.mul_assoc] at e
      have e3 := Nat.eq_of_mul_eq_mul_right (Nat.two_pow_pos i) e
      have := Nat.le_mul_of_pos_right w (Nat.two_pow_pos (k - i))
      omega
  obtain ⟨m, j, rfl, hm⟩ := hrep
  have h4 := rn_exact (Int.natAbs_pos.mpr h0) h3 hA hm
  refine ⟨f1, ?_⟩
  have := f2.2.1 (Int.mul_nonneg (by rw [h]; exact Int.natCast_nonneg _) (by omega))
  omega
/-- rounding doesn't come below a number that can be told -/
theorem rn_ge {A B Z m i : Nat} (hB : 0 < B) (h : fRn A B Z) (hm : m ≤ 2 ^ 53) (hA : B * (m * 2 ^ i) ≤ A) : m * 2 ^ i ≤ Z := by
  obtain ⟨j, c, rfl, hc, hlt, hj, h1, h2⟩ := h
  have hM := Nat.mul_pos hB (Nat.two_pow_pos j)
  rcases Nat.lt_or_ge i j with hi | hi
  · rcases hj with hj | hj
    · omega
    · have h3 : 2 ^ 52 ≤ c := rn_c_ge hM h1 (Nat.le_trans (Nat.le_of_eq (by rw [Nat.pow_add]; ac_rfl)) hj)
      calc m * 2 ^ i ≤ 2 ^ 53 * 2 ^ i := Nat.mul_le_mul_right _ hm
        _ = 2 ^ 52 * 2 ^ (i + 1) := by rw [Nat.pow_succ 2 i]; omega
        _ ≤ c * 2 ^ j := Nat.mul_le_mul h3 (Nat.pow_le_pow_right (by omega) hi)
  · have h5 : m * 2 ^ i = m * 2 ^ (i - j) * 2 ^ j := by rw [Nat.mul_assoc, ← rn_pw hi]
    rw [h5]
    refine Nat.mul_le_mul_right _ (rn_c_ge hM h1 (Nat.le_trans (Nat.le_of_eq ?_) hA))
    rw [h5]
    ac_rfl
