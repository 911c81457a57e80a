/-! WHAT A HANGING TELLS, in doubles as the document has them; how big and how fine these numbers are -/
def cB (v : Int32) : Prop := -1000 ≤ v.toInt ∧ v.toInt ≤ 1000
def aB (v : Int32) : Prop := 50 ≤ v.toInt ∧ v.toInt ≤ 1000
def yB (v : Int32) : Prop := -1001 ≤ v.toInt ∧ v.toInt ≤ 1001
theorem i3_add {a b : Int32} (h : -2 ^ 31 ≤ a.toInt + b.toInt) (h' : a.toInt + b.toInt < 2 ^ 31) : (a + b).toInt = a.toInt + b.toInt := by
  rw [Int32.toInt_add]; exact Int.bmod_eq_of_le (by omega) (by omega)
theorem i3_sub {a b : Int32} (h : -2 ^ 31 ≤ a.toInt - b.toInt) (h' : a.toInt - b.toInt < 2 ^ 31) : (a - b).toInt = a.toInt - b.toInt := by
  rw [Int32.toInt_sub]; exact Int.bmod_eq_of_le (by omega) (by omega)
theorem i3_mul {a b : Int32} (h : -2 ^ 31 ≤ a.toInt * b.toInt) (h' : a.toInt * b.toInt < 2 ^ 31) : (a * b).toInt = a.toInt * b.toInt := by
  rw [Int32.toInt_mul]; exact Int.bmod_eq_of_le (by omega) (by omega)
theorem z_sq {z k : Int} (h1 : -k ≤ z) (h2 : z ≤ k) : z * z ≤ k * k ∧ 0 ≤ z * z := by
  have e1 : 0 ≤ (k - z) * (k + z) := Int.mul_nonneg (by omega) (by omega)
  have e2 : (k - z) * (k + z) = k * k - z * z := by rw [Int.sub_mul, Int.mul_add, Int.mul_add, Int.mul_comm z k]; omega
  have e3 : 0 ≤ z * z := by
    rcases Int.le_total 0 z with h | h
    · exact Int.mul_nonneg h h
    · exact Int.mul_nonneg_of_nonpos_of_nonpos h h
  omega
def tH (b ly y : Int32) : Int32 := b * b - (y - ly) * (y - ly)
noncomputable def tPx (lx ly b y : Int32) : UInt64 := FP.dadd (FP.i2d lx) (fsq (FP.i2d (tH b ly y)))
noncomputable def tDx (U lx ly b y : Int32) : UInt64 := FP.dsub (FP.i2d U) (tPx lx ly b y)
def tDy (V y : Int32) : UInt64 := FP.dsub (FP.i2d V) (FP.i2d y)
noncomputable def tE (U V lx ly b y : Int32) : UInt64 := FP.dadd (FP.dmul (tDx U lx ly b y) (tDx U lx ly b y)) (FP.dmul (tDy V y) (tDy V y))
noncomputable def tM (U V lx ly a b c y : Int32) : UInt64 := FP.ddiv (FP.dadd (FP.i2d (c * c - a * a)) (tE U V lx ly b y)) (FP.dmul 4611686018427387904 (tE U V lx ly b y))
noncomputable def tK (U V lx ly a b c y : Int32) : UInt64 := FP.dsub (FP.ddiv (FP.i2d (c * c)) (tE U V lx ly b y)) (FP.dmul (tM U V lx ly a b c y) (tM U V lx ly a b c y))
noncomputable def tS (U V lx ly a b c sd y : Int32) : UInt64 := FP.dmul (FP.i2d sd) (fsq (tK U V lx ly a b c y))
noncomputable def tQx (U V lx ly a b c sd y : Int32) : UInt64 := FP.dadd (FP.dadd (tPx lx ly b y) (FP.dmul (tM U V lx ly a b c y) (tDx U lx ly b y))) (FP.dmul (tS U V lx ly a b c sd y) (tDy V y))
noncomputable def tQy (U V lx ly a b c sd y : Int32) : UInt64 := FP.dsub (FP.dadd (FP.i2d y) (FP.dmul (tM U V lx ly a b c y) (tDy V y))) (FP.dmul (tS U V lx ly a b c sd y) (tDx U lx ly b y))
noncomputable def tVx (U V lx ly a b c sd y : Int32) : UInt64 := FP.ddiv (FP.dsub (tQx U V lx ly a b c sd y) (tPx lx ly b y)) (FP.i2d c)
noncomputable def tVy (U V lx ly a b c sd y : Int32) : UInt64 := FP.ddiv (FP.dsub (tQy U V lx ly a b c sd y) (FP.i2d y)) (FP.i2d c)
def tFree (U V lx ly a b c y : Int32) : Prop := 0 ≤ tH b ly y ∧ fv (tE U V lx ly b y) ≠ 0 ∧ 0 ≤ fv (tK U V lx ly a b c y)
def pB (U V lx ly a b c y : Int32) : Prop := cB U ∧ cB V ∧ cB lx ∧ cB ly ∧ aB a ∧ aB b ∧ aB c ∧ yB y
theorem cB_k {v : Int32} (h : cB v) : v.toInt.natAbs ≤ 2 ^ 10 := by obtain ⟨h1, h2⟩ := h; omega
theorem aB_k {v : Int32} (h : aB v) : v.toInt.natAbs ≤ 2 ^ 10 := by obtain ⟨h1, h2⟩ := h; omega
theorem yB_k {v : Int32} (h : yB v) : v.toInt.natAbs ≤ 2 ^ 10 := by obtain ⟨h1, h2⟩ := h; omega
theorem tH_int {b ly y : Int32} (hb : aB b) (hl : cB ly) (hy : yB y) : (tH b ly y).toInt = b.toInt * b.toInt - (y.toInt - ly.toInt) * (y.toInt - ly.toInt) ∧ (tH b ly y).toInt ≤ 2 ^ 20 := by
  obtain ⟨b1, b2⟩ := hb
  obtain ⟨l1, l2⟩ := hl
  obtain ⟨y1, y2⟩ := hy
  have e1 := i3_sub (a := y) (b := ly) (by omega) (by omega)
  have q1 := z_sq (z := b.toInt) (k := 1000) (by omega) (by omega)
  have q2 := z_sq (z := y.toInt - ly.toInt) (k := 2001) (by omega) (by omega)
  have e2 := i3_mul (a := b) (b := b) (by omega) (by omega)
  have e3 := i3_mul (a := y - ly) (b := y - ly) (by rw [e1]; omega) (by rw [e1]; omega)
  rw [e1] at e3
  have e4 := i3_sub (a := b * b) (b := (y - ly) * (y - ly)) (by rw [e2, e3]; omega) (by rw [e2, e3]; omega)
  rw [e2, e3] at e4
  unfold tH
  rw [e4]
  exact ⟨rfl, by omega⟩
theorem i_nn {x : Int32} : 0 ≤ x ↔ 0 ≤ x.toInt := Int32.le_iff_toInt_le
theorem tH_k {b ly y : Int32} (hb : aB b) (hl : cB ly) (hy : yB y) (h0 : 0 ≤ tH b ly y) : (tH b ly y).toInt.natAbs ≤ 2 ^ 20 := by
  have h1 := (tH_int hb hl hy).2
  have h2 := i_nn.mp h0
  omega
theorem sq2_k {c : Int32} (hc : aB c) : (c * c).toInt = c.toInt * c.toInt ∧ 2500 ≤ c.toInt * c.toInt ∧ c.toInt * c.toInt ≤ 1000000 := by
  obtain ⟨c1, c2⟩ := hc
  have q1 := z_sq (z := c.toInt) (k := 1000) (by omega) (by omega)
  have q2 : 50 * 50 ≤ c.toInt * c.toInt := Int.mul_le_mul c1 c1 (by omega) (by omega)
  exact ⟨i3_mul (by omega) (by omega), by omega, by omega⟩
theorem ca_k {a c : Int32} (ha : aB a) (hc : aB c) : (c * c - a * a).toInt.natAbs ≤ 2 ^ 20 := by
  obtain ⟨e1, e2, e3⟩ := sq2_k hc
  obtain ⟨f1, f2, f3⟩ := sq2_k ha
  rw [i3_sub (by rw [e1, f1]; omega) (by rw [e1, f1]; omega), e1, f1]
  omega
theorem cc_k {c : Int32} (hc : aB c) : (c * c).toInt.natAbs ≤ 2 ^ 20 := by
  obtain ⟨e1, e2, e3⟩ := sq2_k hc
  rw [e1]
  omega
/-! there is a root -/
theorem dv_ex (R i : Nat) (h1 : 2 ^ 52 ≤ R) (h2 : R ≤ 2 ^ 53) (hi : i ≤ 2000) : ∃ r, dv r R i := by
  have key : ∀ c j : Nat, 2 ^ 52 ≤ c → c < 2 ^ 53 → j ≤ 2001 → ∃ r, dv r c j := fun c j k1 k2 k3 => by
    have hf : FP.Core.fits FP.Core.b64 (.fin false c ((j : Int) - 1074)) := by
      refine ⟨k2, ?_, ?_, Or.inr ?_⟩
      · rw [fp_qmin]; omega
      · rw [fp_qmax]; omega
      · rw [fp_tails]; exact k1
    have hv := FP.Core.val64_of64 hf
    refine ⟨FP.Core.of64 (.fin false c ((j : Int) - 1074)), ⟨false, c, _, hv⟩, ?_⟩
    unfold fv
    rw [hv]
    show ((c * 2 ^ (((j : Int) - 1074) - FP.Core.b64.qmin).toNat : Nat) : Int) = _
    rw [fp_qmin, show (((j : Int) - 1074) - -1074).toNat = j by omega]
  rcases Nat.lt_or_ge R (2 ^ 53) with h | h
  · exact key R i h1 h (by omega)
  · obtain ⟨r, d1, d2⟩ := key (2 ^ 52) (i + 1) (by omega) (by omega) (by omega)
    refine ⟨r, d1, ?_⟩
    rw [d2, show R = 2 ^ 53 by omega, Nat.pow_succ 2 i]
    congr 1
    omega
set_option maxRecDepth 100000 in
theorem rt_ex {x : UInt64} (h : fRt x) : IsRt x (fsq x) := by
  refine Classical.epsilon_spec (p := IsRt x) ?_
  rcases h with h | ⟨h1, h2, -⟩
  · exact ⟨0, Or.inl ⟨h, rfl⟩⟩
  · obtain ⟨N, h, hd, hN1, hN2, hh⟩ := rt_norm h1 h2
    obtain ⟨A, a1, a2⟩ : ∃ A : Nat, A * A ≤ N * 2 ^ 52 ∧ N * 2 ^ 52 < (A + 1) * (A + 1) := ⟨_, FP.Core.sqrtFloor_spec (N * 2 ^ 52)⟩
    have e2 : (A + 1) * (A + 1) = A * A + 2 * A + 1 := by simp only [Nat.add_mul, Nat.mul_add, Nat.mul_one, Nat.one_mul]; omega
    have hA1 : 2 ^ 52 ≤ A := by
      refine Nat.le_of_not_lt fun hlt => ?_
      have := Nat.mul_le_mul (show A + 1 ≤ 2 ^ 52 by omega) (show A + 1 ≤ 2 ^ 52 by omega)
      omega
    have hM := M106 hN2
    obtain ⟨R, r1, r2, r3⟩ : ∃ R : Nat, R * R < N * 2 ^ 52 + R ∧ N * 2 ^ 52 ≤ R * R + R ∧ 2 ^ 52 ≤ R := by
      by_cases hc : N * 2 ^ 52 ≤ A * A + A
      · exact ⟨A, by omega, hc, hA1⟩
      · exact ⟨A + 1, by rw [e2]; omega, by rw [e2] at a2 ⊢; omega, by omega⟩
    obtain ⟨r, hr⟩ := dv_ex R (h + 511) r3 (rt_sq_le hM r1) (by omega)
    exact ⟨r, Or.inr ⟨N, h, R, hd, hN1, hN2, r1, r2, hr⟩⟩
/-! signs and zeros -/
theorem sqr_nn {x : UInt64} {a b : Nat} (h : fGr a b x) (hb : 2 * b ≤ 3170) : 0 ≤ fv (FP.dmul x x) := by
  have hlt : (fv x * fv x).natAbs < 2 ^ 1074 * 2 ^ 2097 := by
    rw [Int.natAbs_mul, ← Nat.pow_add]
    refine Nat.lt_of_le_of_lt (Nat.mul_le_mul h.2.2 h.2.2) ?_
    rw [← Nat.pow_add]
    exact Nat.pow_lt_pow_right (by omega) (by omega)
  obtain ⟨-, f⟩ := fp_mul h.1 h.1 hlt
  refine f.2.1 ?_
  rcases Int.le_total 0 (fv x) with h | h
  · exact Int.mul_nonneg h h
  · exact Int.mul_nonneg_of_nonpos_of_nonpos h h
theorem add_nn {x y : UInt64} {a1 b1 a2 b2 : Nat} (h1 : fGr a1 b1 x) (h2 : fGr a2 b2 y) (hx : 0 ≤ fv x) (hy : 0 ≤ fv y) (hb1 : b1 ≤ 2000) (hb2 : b2 ≤ 2000) : 0 ≤ fv (FP.dadd x y) ∧ (fv (FP.dadd x y) = 0 → fv x = 0 ∧ fv y = 0) := by
  have k1 : 2 ^ b1 ≤ 2 ^ 2000 := Nat.pow_le_pow_right (by omega) hb1
  have k2 : 2 ^ b2 ≤ 2 ^ 2000 := Nat.pow_le_pow_right (by omega) hb2
  have k3 : (2 : Nat) ^ 2001 = 2 * 2 ^ 2000 := by rw [Nat.pow_succ, Nat.mul_comm]
  have k4 : (2 : Nat) ^ 2001 < 2 ^ 2097 := Nat.pow_lt_pow_right (by omega) (by omega)
  have k5 := h1.2.2
  have k6 := h2.2.2
  have hlt : (fv x + fv y).natAbs < 2 ^ 2097 := by
    generalize (2 : Nat) ^ 2000 = T at k1 k2 k3
    generalize (2 : Nat) ^ 2001 = T1 at k3 k4
    generalize (2 : Nat) ^ 2097 = T2 at k4 ⊢
    generalize 2 ^ b1 = T3 at k1 k5
    generalize 2 ^ b2 = T4 at k2 k6
    omega
  obtain ⟨-, f1, f2, f3⟩ := fp_add h1.1 h2.1 hlt
  refine ⟨f2 (by omega), fun h0 => ?_⟩
  rw [h0] at f1
  have hz : (fv x + fv y).natAbs = 0 := by
    refine Nat.eq_zero_of_not_pos fun hp => ?_
    have := rn_lo (b := 0) (by omega) f1 (by rw [Nat.one_mul]; exact hp)
    exact absurd this (by decide)
  omega
theorem mul_pz {x : UInt64} {a b : Nat} (h : fGr a b x) (hb : 2 * b ≤ 3170) (h0 : fv (FP.dmul x x) = 0) : FP.dmul x x = 0 := by
  have hlt : (fv x * fv x).natAbs < 2 ^ 1074 * 2 ^ 2097 := by
    rw [Int.natAbs_mul, ← Nat.pow_add]
    refine Nat.lt_of_le_of_lt (Nat.mul_le_mul h.2.2 h.2.2) ?_
    rw [← Nat.pow_add]
    exact Nat.pow_lt_pow_right (by omega) (by omega)
  obtain ⟨⟨s, c, q, hv⟩, -⟩ := fp_mul h.1 h.1 hlt
  obtain ⟨s1, c1, q1, hx⟩ := h.1
  have hs : s = false := by
    have h1 := FP.Core.val64_dmul x x
    rw [hx, show FP.Core.exactProduct (.fin s1 c1 q1) (.fin s1 c1 q1) = .fin (s1 != s1) (c1 * c1) (q1 + q1) from rfl] at h1
    have h2 := congrArg FP.Core.sgn h1
    rw [show FP.Core.round FP.Core.b64 (.fin (s1 != s1) (c1 * c1) (q1 + q1)) = FP.Core.roundRatio FP.Core.b64 (s1 != s1) (c1 * c1) 1 (q1 + q1) from rfl, FP.Core.sgn_roundRatio, hv] at h2
    rw [show s = (s1 != s1) from h2]
    cases s1 <;> rfl
  subst hs
  have hc : c = 0 := by
    have : fv (FP.dmul x x) = ((c * 2 ^ (q - FP.Core.b64.qmin).toNat : Nat) : Int) := by unfold fv; rw [hv]; rfl
    rw [h0] at this
    have h2 : c * 2 ^ (q - FP.Core.b64.qmin).toNat = 0 := by omega
    rcases Nat.mul_eq_zero.mp h2 with h | h
    · exact h
    · exact absurd h (Nat.ne_of_gt (Nat.two_pow_pos _))
  subst hc
  have hq := FP.Core.fits_zero_q FP.Core.good_b64 (fp_fits hv)
  subst hq
  refine FP.Core.val64_inj ?_ (hv.trans FP.Core.val64_dconst0.symm)
  exact (fun hn => by rw [hv] at hn; exact nomatch hn)
