/-! DOUBLES AS WHOLE NUMBERS: fv is the value of a double in units of 2^-1074; fRn is rounding to nearest, on naturals -/
abbrev fB : FP.Core.Fmt := FP.Core.b64
def fv (a : UInt64) : Int := FP.Core.zval FP.Core.b64 (FP.Core.val64 a)
/-- Z is A/B rounded to a double (all in units of 2^-1074), ties left open -/
def fRn (A B Z : Nat) : Prop := ∃ j c : Nat, Z = c * 2 ^ j ∧ c ≤ 2 ^ 53 ∧ A < B * 2 ^ (j + 53) ∧ (j = 0 ∨ B * 2 ^ (j + 52) ≤ A) ∧ 2 * A ≤ (2 * c + 1) * (B * 2 ^ j) ∧ 2 * c * (B * 2 ^ j) ≤ 2 * A + B * 2 ^ j
def fRI (N : Int) (B : Nat) (z : Int) : Prop := fRn N.natAbs B z.natAbs ∧ (0 ≤ N → 0 ≤ z) ∧ (N ≤ 0 → z ≤ 0)
theorem fp_qmin : FP.Core.b64.qmin = -1074 := FP.Core.qmin_b64
theorem fp_qmax : FP.Core.b64.qmax = 971 := by decide
theorem fp_tails : FP.Core.b64.tails = 2 ^ 52 := FP.Core.tails_b64
theorem fp_core (s : Bool) {A B : Nat} (hB : 0 < B) (hlt : A < B * 2 ^ 2097) : ∃ c q, FP.Core.roundRatio FP.Core.b64 s A B (-1074) = .fin s c q ∧ fRn A B (FP.Core.zmag FP.Core.b64 (.fin s c q)) := by
  by_cases hA0 : A = 0
  · subst hA0
    refine ⟨0, FP.Core.b64.qmin, if_pos rfl, 0, 0, ?_, by omega, ?_, Or.inl rfl, by omega, by omega⟩
    · show 0 * _ = 0 * _
      omega
    · have := Nat.mul_pos hB (Nat.two_pow_pos (0 + 53))
      omega
  · have hA : 0 < A := Nat.pos_of_ne_zero hA0
    have hge := FP.Core.quantum_ge FP.Core.b64 A B (-1074)
    have hbe := FP.Core.quantum_below (f := FP.Core.b64) hA hB (-1074)
    have hnb := FP.Core.quantum_not_below (f := FP.Core.b64) hA hB (-1074)
    have hrr : FP.Core.roundRatio FP.Core.b64 s A B (-1074) = FP.Core.roundAt FP.Core.b64 s A B (-1074) (FP.Core.quantum FP.Core.b64 A B (-1074)) := if_neg hA0
    rw [hrr]
    generalize FP.Core.quantum FP.Core.b64 A B (-1074) = q at hge hbe hnb
    rw [fp_qmin] at hge hnb
    obtain ⟨j, rfl⟩ : ∃ j : Nat, q = (j : Int) - 1074 := ⟨(q + 1074).toNat, by omega⟩
    have hp : (FP.Core.b64.p : Int) = 53 := rfl
    rw [show ((j : Int) - 1074 - -1074 + (FP.Core.b64.p : Int)) = (((j + 53 : Nat) : Int) - ((0 : Nat) : Int)) by rw [hp]; omega, FP.Core.below_iff] at hbe
    rw [show ((j : Int) - 1074 - -1074 + ((FP.Core.b64.p : Int) - 1)) = (((j + 52 : Nat) : Int) - ((0 : Nat) : Int)) by rw [hp]; omega, FP.Core.below_iff] at hnb
    have hbe : A < B * 2 ^ (j + 53) := by simpa using hbe
    have hnb : j = 0 ∨ B * 2 ^ (j + 52) ≤ A := by
      rcases hnb with h | h
      · exact Or.inl (by omega)
      · exact Or.inr (by simpa using h)
    have hj : j ≤ 2044 := by
      rcases hnb with h | h
      · omega
      · have h1 : B * 2 ^ (j + 52) < B * 2 ^ 2097 := Nat.lt_of_le_of_lt h hlt
        have h2 : 2 ^ (j + 52) < 2 ^ 2097 := Nat.lt_of_mul_lt_mul_left h1
        have h3 := (Nat.pow_lt_pow_iff_right (a := 2) (by omega)).mp h2
        omega
    have hun : FP.Core.unitsNum A (-1074) ((j : Int) - 1074) = A := by
      unfold FP.Core.unitsNum
      rw [show (-1074 - ((j : Int) - 1074)).toNat = 0 by omega]
      omega
    have hud : FP.Core.unitsDen B (-1074) ((j : Int) - 1074) = B * 2 ^ j := by
      unfold FP.Core.unitsDen
      rw [show (((j : Int) - 1074) - -1074).toNat = j by omega]
    have hBj : 0 < B * 2 ^ j := Nat.mul_pos hB (Nat.two_pow_pos j)
    have hc53 : FP.Core.nearest A (B * 2 ^ j) ≤ 2 ^ 53 := FP.Core.nearest_le hBj (Nat.le_of_lt (by
      have : 2 ^ 53 * (B * 2 ^ j) = B * 2 ^ (j + 53) := by rw [Nat.pow_add]; ac_rfl
      omega))
    obtain ⟨hn1, hn2, -⟩ := FP.Core.nearest_spec A (B * 2 ^ j) hBj
    unfold FP.Core.roundAt
    rw [hun, hud]
    generalize FP.Core.nearest A (B * 2 ^ j) = c at hc53 hn1 hn2
    unfold FP.Core.settle
    have hp2 : FP.Core.b64.p = 53 := rfl
    rw [hp2]
    by_cases hc : c < 2 ^ 53
    · rw [if_pos hc]
      unfold FP.Core.bound
      rw [if_pos (by rw [fp_qmax]; omega)]
      refine ⟨c, _, rfl, j, c, ?_, hc53, hbe, hnb, hn1, hn2⟩
      show c * 2 ^ (((j : Int) - 1074) - FP.Core.b64.qmin).toNat = _
      rw [fp_qmin, show (((j : Int) - 1074) - -1074).toNat = j by omega]
    · rw [if_neg hc]
      unfold FP.Core.bound
      rw [if_pos (by rw [fp_qmax]; omega)]
      refine ⟨_, _, rfl, j, c, ?_, hc53, hbe, hnb, hn1, hn2⟩
      show FP.Core.b64.tails * 2 ^ (((j : Int) - 1074) + 1 - FP.Core.b64.qmin).toNat = _
      rw [fp_qmin, fp_tails, show (((j : Int) - 1074) + 1 - -1074).toNat = j + 1 by omega, show c = 2 ^ 53 by omega, Nat.pow_succ 2 j]
      omega
theorem fp_rn0 {B Z : Nat} (hB : 0 < B) (h : fRn 0 B Z) : Z = 0 := by
  obtain ⟨j, c, rfl, -, -, -, -, h2⟩ := h
  have hBj : 0 < B * 2 ^ j := Nat.mul_pos hB (Nat.two_pow_pos j)
  rcases Nat.eq_zero_or_pos c with h0 | h0
  · subst h0; omega
  · have : 2 * 1 * (B * 2 ^ j) ≤ 2 * c * (B * 2 ^ j) := Nat.mul_le_mul_right _ (by omega)
    omega
theorem fp_round {x : UInt64} {s : Bool} {A B : Nat} (hB : 0 < B) (hx : FP.Core.val64 x = FP.Core.roundRatio FP.Core.b64 s A B (-1074)) (hlt : A < B * 2 ^ 2097) {N : Int} (hN : FP.Core.signed s A = N) : FP.Core.DFin x ∧ fRI N B (fv x) := by
  obtain ⟨c, q, h1, h2⟩ := fp_core s hB hlt
  rw [h1] at hx
  refine ⟨⟨s, c, q, hx⟩, ?_⟩
  have hfv : fv x = FP.Core.signed s (FP.Core.zmag FP.Core.b64 (.fin s c q)) := by unfold fv; rw [hx]; rfl
  rw [hfv]
  generalize FP.Core.zmag FP.Core.b64 (.fin s c q) = Z at h2
  refine ⟨?_, ?_, ?_⟩
  · rw [FP.Core.natAbs_signed, ← hN, FP.Core.natAbs_signed]; exact h2
  · intro h
    cases s with
    | false => exact Int.natCast_nonneg Z
    | true =>
      have hA : A = 0 := by
        have : FP.Core.signed true A = -(A : Int) := rfl
        omega
      subst hA
      rw [fp_rn0 hB h2]; exact Int.le_refl 0
  · intro h
    cases s with
    | true =>
      have : FP.Core.signed true Z = -(Z : Int) := rfl
      omega
    | false =>
      have hA : A = 0 := by
        have : FP.Core.signed false A = (A : Int) := rfl
        omega
      subst hA
      rw [fp_rn0 hB h2]; exact Int.le_refl 0
theorem fp_fits {a : UInt64} {s : Bool} {c : Nat} {q : Int} (h : FP.Core.val64 a = .fin s c q) : FP.Core.fits FP.Core.b64 (.fin s c q) := h ▸ FP.Core.val64_fits a
theorem fp_sum {x : UInt64} {dx dy : FP.Core.Datum} (hx : FP.Core.val64 x = FP.Core.round FP.Core.b64 (FP.Core.exactSum dx dy)) (h1 : ∃ s c q, dx = .fin s c q) (h2 : ∃ s c q, dy = .fin s c q) (f1 : FP.Core.fits FP.Core.b64 dx) (f2 : FP.Core.fits FP.Core.b64 dy) (hlt : (FP.Core.zval FP.Core.b64 dx + FP.Core.zval FP.Core.b64 dy).natAbs < 2 ^ 2097) : FP.Core.DFin x ∧ fRI (FP.Core.zval FP.Core.b64 dx + FP.Core.zval FP.Core.b64 dy) 1 (fv x) := by
  obtain ⟨s, c, q, rfl⟩ := h1
  obtain ⟨t, d, r, rfl⟩ := h2
  obtain ⟨sg, n, e, he, hq, hs⟩ := FP.Core.sum_units f1 f2
  rw [he, ← FP.Core.round_inUnits sg n hq, fp_qmin] at hx
  rw [fp_qmin] at hs
  refine fp_round (s := sg) (A := FP.Core.inUnits n e (-1074)) (by omega) hx ?_ hs
  have := congrArg Int.natAbs hs
  rw [FP.Core.natAbs_signed] at this
  omega
theorem fp_add {a b : UInt64} (ha : FP.Core.DFin a) (hb : FP.Core.DFin b) (hlt : (fv a + fv b).natAbs < 2 ^ 2097) : FP.Core.DFin (FP.dadd a b) ∧ fRI (fv a + fv b) 1 (fv (FP.dadd a b)) :=
  fp_sum (FP.Core.val64_dadd a b) ha hb (FP.Core.val64_fits a) (FP.Core.val64_fits b) hlt
theorem fp_sub {a b : UInt64} (ha : FP.Core.DFin a) (hb : FP.Core.DFin b) (hlt : (fv a - fv b).natAbs < 2 ^ 2097) : FP.Core.DFin (FP.dsub a b) ∧ fRI (fv a - fv b) 1 (fv (FP.dsub a b)) := by
  have hz : FP.Core.zval FP.Core.b64 (FP.Core.negate (FP.Core.val64 b)) = - fv b := FP.Core.zval_negate _ _
  have h := fp_sum (FP.Core.val64_dsub a b) ha (by obtain ⟨s, c, q, h⟩ := hb; exact ⟨!s, c, q, by rw [h]; rfl⟩) (FP.Core.val64_fits a) (FP.Core.negate_fits (FP.Core.val64_fits b)) (by rw [hz]; exact hlt)
  rw [hz] at h
  exact h
theorem fp_mul {a b : UInt64} (ha : FP.Core.DFin a) (hb : FP.Core.DFin b) (hlt : (fv a * fv b).natAbs < 2 ^ 1074 * 2 ^ 2097) : FP.Core.DFin (FP.dmul a b) ∧ fRI (fv a * fv b) (2 ^ 1074) (fv (FP.dmul a b)) := by
  obtain ⟨s, c, q, h1⟩ := ha
  obtain ⟨t, d, r, h2⟩ := hb
  have hx := FP.Core.val64_dmul a b
  have hfa : fv a = FP.Core.signed s (FP.Core.zmag FP.Core.b64 (.fin s c q)) := by unfold fv; rw [h1]; rfl
  have hfb : fv b = FP.Core.signed t (FP.Core.zmag FP.Core.b64 (.fin t d r)) := by unfold fv; rw [h2]; rfl
  obtain ⟨he, hq, hu⟩ := FP.Core.product_units (fp_fits h1) (fp_fits h2)
  rw [h1, h2, he, ← FP.Core.round_inUnits _ _ hq, hu] at hx
  have hN : FP.Core.signed (s != t) (FP.Core.zmag FP.Core.b64 (.fin s c q) * FP.Core.zmag FP.Core.b64 (.fin t d r)) = fv a * fv b := by rw [FP.Core.signed_xor, hfa, hfb]
  have hab := congrArg Int.natAbs hN
  rw [FP.Core.natAbs_signed] at hab
  generalize FP.Core.zmag FP.Core.b64 (.fin s c q) * FP.Core.zmag FP.Core.b64 (.fin t d r) = A at hx hN hab
  refine fp_round (Nat.two_pow_pos 1074) (hx.trans ?_) (by rw [hab]; exact hlt) hN
  show FP.Core.roundRatio FP.Core.b64 (s != t) A 1 (2 * FP.Core.b64.qmin) = _
  rw [fp_qmin]
  refine FP.Core.roundRatio_congr (by omega) (Nat.two_pow_pos 1074) ?_
  rw [show (2 * (-1074 : Int) - -1074).toNat = 0 by omega, show ((-1074 : Int) - 2 * -1074).toNat = 1074 by omega]
  generalize (2 : Nat) ^ 1074 = T
  rw [Nat.pow_zero, Nat.mul_one, Nat.mul_one]
theorem fp_div {a b : UInt64} (ha : FP.Core.DFin a) (hb : FP.Core.DFin b) (h0 : fv b ≠ 0) (hlt : (fv a).natAbs * 2 ^ 1074 < (fv b).natAbs * 2 ^ 2097) : FP.Core.DFin (FP.ddiv a b) ∧ fRI (fv a * ((2 ^ 1074 : Nat) : Int) * (fv b).sign) (fv b).natAbs (fv (FP.ddiv a b)) := by
  obtain ⟨s, c, q, h1⟩ := ha
  obtain ⟨t, d, r, h2⟩ := hb
  have hx := FP.Core.val64_ddiv a b
  have hfa : fv a = FP.Core.signed s (c * 2 ^ (q - FP.Core.b64.qmin).toNat) := by unfold fv; rw [h1]; rfl
  have hfb : fv b = FP.Core.signed t (d * 2 ^ (r - FP.Core.b64.qmin).toNat) := by unfold fv; rw [h2]; rfl
  have hq := (fp_fits h1).2.1
  have hr := (fp_fits h2).2.1
  rw [fp_qmin] at hfa hfb hq hr
  obtain ⟨i, rfl⟩ : ∃ i : Nat, q = (i : Int) - 1074 := ⟨(q + 1074).toNat, by omega⟩
  obtain ⟨k, rfl⟩ : ∃ k : Nat, r = (k : Int) - 1074 := ⟨(r + 1074).toNat, by omega⟩
  rw [show ((i : Int) - 1074 - -1074).toNat = i by omega] at hfa
  rw [show ((k : Int) - 1074 - -1074).toNat = k by omega] at hfb
  have hna : (fv a).natAbs = c * 2 ^ i := by rw [hfa, FP.Core.natAbs_signed]
  have hnb : (fv b).natAbs = d * 2 ^ k := by rw [hfb, FP.Core.natAbs_signed]
  have hd : d ≠ 0 := by
    intro hd
    subst hd
    rw [Nat.zero_mul] at hnb
    omega
  have hd0 : 0 < d * 2 ^ k := Nat.mul_pos (Nat.pos_of_ne_zero hd) (Nat.two_pow_pos k)
  rw [h1, h2] at hx
  have hquo : FP.Core.quotient FP.Core.b64 (.fin s c ((i : Int) - 1074)) (.fin t d ((k : Int) - 1074)) = FP.Core.roundRatio FP.Core.b64 (s != t) c d ((i : Int) - 1074 - ((k : Int) - 1074)) := if_neg hd
  rw [hquo] at hx
  rw [hnb]
  rw [hna, hnb] at hlt
  refine fp_round (s := s != t) (A := c * 2 ^ i * 2 ^ 1074) hd0 (hx.trans ?_) hlt ?_
  · refine FP.Core.roundRatio_congr (Nat.pos_of_ne_zero hd) hd0 ?_
    have e1 : ((i : Int) - 1074 - ((k : Int) - 1074) - -1074).toNat + k = i + 1074 + (-1074 - ((i : Int) - 1074 - ((k : Int) - 1074))).toNat := by omega
    generalize ((i : Int) - 1074 - ((k : Int) - 1074) - -1074).toNat = u at e1 ⊢
    generalize (-1074 - ((i : Int) - 1074 - ((k : Int) - 1074))).toNat = v at e1 ⊢
    have e2 : 2 ^ u * 2 ^ k = 2 ^ i * 2 ^ 1074 * 2 ^ v := by rw [← Nat.pow_add, ← Nat.pow_add, ← Nat.pow_add, e1]
    generalize (2 : Nat) ^ 1074 = T at e2 ⊢
    calc c * (d * 2 ^ k) * 2 ^ u = c * d * (2 ^ u * 2 ^ k) := by ac_rfl
      _ = c * d * (2 ^ i * T * 2 ^ v) := by rw [e2]
      _ = c * 2 ^ i * T * d * 2 ^ v := by ac_rfl
  · have hsb : (fv b).sign = FP.Core.signed t 1 := by
      rw [hfb]
      cases t with
      | false => exact Int.sign_eq_one_of_pos (by show (0 : Int) < ((d * 2 ^ k : Nat) : Int); omega)
      | true => exact Int.sign_eq_neg_one_of_neg (by show -((d * 2 ^ k : Nat) : Int) < 0; omega)
    rw [hsb, hfa, ← FP.Core.signed_mul, ← FP.Core.signed_xor]
    generalize (2 : Nat) ^ 1074 = T
    rw [Nat.mul_one]
theorem fp_cmp {a b : UInt64} (ha : FP.Core.DFin a) (hb : FP.Core.DFin b) : FP.dcmp a b = some (compare (fv a) (fv b)) := by
  have na : FP.Core.val64 a ≠ .nan := by obtain ⟨s, c, q, h⟩ := ha; rw [h]; exact fun h => nomatch h
  have nb : FP.Core.val64 b ≠ .nan := by obtain ⟨s, c, q, h⟩ := hb; rw [h]; exact fun h => nomatch h
  exact FP.Core.order_zval FP.Core.good_b64 (FP.Core.val64_fits a) (FP.Core.val64_fits b) na nb
theorem fp_n64 {a : UInt64} (ha : FP.Core.DFin a) : vf_n64 a := by
  have h := (FP.Core.fin_bits a).mp ha
  unfold vf_n64
  rw [UInt64.le_iff_toNat_le, UInt64.toNat_and]
  have h2 : (0x7fffffffffffffff : UInt64).toNat = 2 ^ 63 - 1 := by decide +kernel
  have h3 : (0x7ff0000000000000 : UInt64).toNat = 9218868437227405312 := by decide +kernel
  rw [h2, h3, Nat.and_two_pow_sub_one_eq_mod]
  omega
