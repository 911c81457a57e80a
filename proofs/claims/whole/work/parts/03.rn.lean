/-! WHAT ROUNDING KEEPS: bounds, multiples of a power of two, exactness, error -/
theorem rn_pow {a b : Nat} (h : 2 ^ a ≤ 2 ^ b) : a ≤ b := (Nat.pow_le_pow_iff_right (a := 2) (by omega)).mp h
theorem rn_powlt {a b : Nat} (h : 2 ^ a < 2 ^ b) : a < b := (Nat.pow_lt_pow_iff_right (a := 2) (by omega)).mp h
theorem rn_pw {a b : Nat} (h : a ≤ b) : 2 ^ b = 2 ^ (b - a) * 2 ^ a := by rw [← Nat.pow_add]; congr 1; omega
theorem rn_c_le {c k M A : Nat} (hM : 0 < M) (h : 2 * c * M ≤ 2 * A + M) (hA : A ≤ k * M) : c ≤ k := by
  have h1 : (2 * c) * M ≤ (2 * k + 1) * M := by
    rw [Nat.add_mul, Nat.one_mul, Nat.mul_assoc 2 k M]
    omega
  have h2 := Nat.le_of_mul_le_mul_right h1 hM
  omega
theorem rn_c_ge {c k M A : Nat} (hM : 0 < M) (h : 2 * A ≤ (2 * c + 1) * M) (hA : k * M ≤ A) : k ≤ c := by
  have h1 : (2 * k) * M ≤ (2 * c + 1) * M := by
    rw [Nat.mul_assoc 2 k M]
    omega
  have h2 := Nat.le_of_mul_le_mul_right h1 hM
  omega
theorem rn_up {A B Z b : Nat} (hB : 0 < B) (h : fRn A B Z) (hA : A ≤ B * 2 ^ b) : Z ≤ 2 ^ b := by
  obtain ⟨j, c, rfl, hc, hlt, hj, h1, h2⟩ := h
  rcases Nat.lt_or_ge b j with hb | hb
  · exfalso
    rcases hj with hj | hj
    · omega
    · have := rn_pow (Nat.le_of_mul_le_mul_left (Nat.le_trans hj hA) hB)
      omega
  · rw [rn_pw hb]
    refine Nat.mul_le_mul_right _ (rn_c_le (Nat.mul_pos hB (Nat.two_pow_pos j)) h2 (Nat.le_trans hA ?_))
    rw [rn_pw hb]
    exact Nat.le_of_eq (by ac_rfl)
theorem rn_lo {A B Z b : Nat} (hB : 0 < B) (h : fRn A B Z) (hA : B * 2 ^ b ≤ A) : 2 ^ b ≤ Z := by
  obtain ⟨j, c, rfl, hc, hlt, hj, h1, h2⟩ := h
  have hM := Nat.mul_pos hB (Nat.two_pow_pos j)
  rcases Nat.lt_or_ge b j with hb | hb
  · rcases hj with hj | hj
    · omega
    · have h3 : 2 ^ 52 ≤ c := rn_c_ge hM h1 (Nat.le_trans (Nat.le_of_eq (by rw [Nat.pow_add]; ac_rfl)) hj)
      calc 2 ^ b ≤ 2 ^ j := Nat.pow_le_pow_right (by omega) (Nat.le_of_lt hb)
        _ = 1 * 2 ^ j := (Nat.one_mul _).symm
        _ ≤ c * 2 ^ j := Nat.mul_le_mul_right _ (by omega)
  · rw [rn_pw hb]
    refine Nat.mul_le_mul_right _ (rn_c_ge hM h1 (Nat.le_trans ?_ hA))
    rw [rn_pw hb]
    exact Nat.le_of_eq (by ac_rfl)
theorem rn_c_eq {c k M A : Nat} (hM : 0 < M) (h1 : 2 * A ≤ (2 * c + 1) * M) (h2 : 2 * c * M ≤ 2 * A + M) (hA : A = k * M) : c = k :=
  Nat.le_antisymm (rn_c_le hM h2 (Nat.le_of_eq hA)) (rn_c_ge hM h1 (Nat.le_of_eq hA.symm))
theorem rn_gran {A B Z a t : Nat} (hB : 0 < B) (h : fRn A B Z) (hA : A = B * (2 ^ a * t)) : 2 ^ a ∣ Z := by
  obtain ⟨j, c, rfl, hc, hlt, hj, h1, h2⟩ := h
  rcases Nat.lt_or_ge j a with ha | ha
  · have he := rn_c_eq (k := 2 ^ (a - j) * t) (Nat.mul_pos hB (Nat.two_pow_pos j)) h1 h2 (by rw [hA, rn_pw (Nat.le_of_lt ha)]; ac_rfl)
    rw [he, rn_pw (Nat.le_of_lt ha)]
    exact ⟨t, by ac_rfl⟩
  · exact Nat.dvd_trans (Nat.pow_dvd_pow 2 ha) (Nat.dvd_mul_left _ _)
theorem rn_err {A B Z b : Nat} (hB : 0 < B) (h : fRn A B Z) (hA : A < B * 2 ^ (b + 53)) : 2 * A ≤ 2 * (Z * B) + B * 2 ^ b ∧ 2 * (Z * B) ≤ 2 * A + B * 2 ^ b := by
  obtain ⟨j, c, rfl, hc, hlt, hj, h1, h2⟩ := h
  have hjb : j ≤ b := by
    rcases hj with hj | hj
    · omega
    · have := rn_powlt (Nat.lt_of_mul_lt_mul_left (Nat.lt_of_le_of_lt hj hA))
      omega
  have hM : B * 2 ^ j ≤ B * 2 ^ b := Nat.mul_le_mul_left _ (Nat.pow_le_pow_right (by omega) hjb)
  have e1 : c * 2 ^ j * B = c * (B * 2 ^ j) := by ac_rfl
  rw [e1]
  generalize B * 2 ^ j = M at h1 h2 hM ⊢
  rw [Nat.add_mul, Nat.one_mul, Nat.mul_assoc] at h1
  rw [Nat.mul_assoc] at h2
  omega
theorem rn_exact {A B Z m i : Nat} (hB : 0 < B) (h : fRn A B Z) (hA : A = B * (m * 2 ^ i)) (hm : m ≤ 2 ^ 53) : Z = m * 2 ^ i := by
  obtain ⟨j, c, rfl, hc, hlt, hj, h1, h2⟩ := h
  have hM := Nat.mul_pos hB (Nat.two_pow_pos j)
  rcases Nat.lt_or_ge i j with hi | hi
  · rcases hj with hj | hj
    · omega
    · rw [hA] at hj
      have h3 : 2 ^ (j + 52) ≤ m * 2 ^ i := Nat.le_of_mul_le_mul_left hj hB
      have h4 : m * 2 ^ i ≤ 2 ^ (53 + i) := by rw [Nat.pow_add]; exact Nat.mul_le_mul_right _ hm
      have h5 := rn_pow (Nat.le_trans h3 h4)
      have hj2 : j = i + 1 := by omega
      subst hj2
      have h6 : 2 ^ 53 * 2 ^ i ≤ m * 2 ^ i := by
        rw [← Nat.pow_add]
        exact Nat.le_trans (Nat.pow_le_pow_right (by omega) (by omega)) h3
      have h7 : m = 2 ^ 53 := Nat.le_antisymm hm (Nat.le_of_mul_le_mul_right h6 (Nat.two_pow_pos i))
      subst h7
      have he := rn_c_eq (k := 2 ^ 52) hM h1 h2 (by rw [hA, Nat.pow_succ 2 i]; have : (2 : Nat) ^ 53 = 2 ^ 52 * 2 := by decide
                                                    rw [this]; ac_rfl)
      rw [he, Nat.pow_succ 2 i]
      omega
  · have he := rn_c_eq (k := m * 2 ^ (i - j)) hM h1 h2 (by rw [hA, rn_pw hi]; ac_rfl)
    rw [he, rn_pw hi]
    ac_rfl
theorem rn_back {A B Z b : Nat} (hB : 0 < B) (h : fRn A B Z) (hZ : Z < 2 ^ b) : A < B * 2 ^ b :=
  Nat.lt_of_not_ge fun hA => Nat.not_le.mpr hZ (rn_lo hB h hA)
/-- x is a number, a multiple of 2^a and at most 2^b (all in units of 2^-1074) -/
def fGr (a b : Nat) (x : UInt64) : Prop := FP.Core.DFin x ∧ 2 ^ a ∣ (fv x).natAbs ∧ (fv x).natAbs ≤ 2 ^ b
theorem gf_n64 {a b : Nat} {x : UInt64} (h : fGr a b x) : vf_n64 x := fp_n64 h.1
theorem gf_w {a b a' b' : Nat} {x : UInt64} (h : fGr a b x) (ha : a' ≤ a) (hb : b ≤ b') : fGr a' b' x := ⟨h.1, Nat.dvd_trans (Nat.pow_dvd_pow 2 ha) h.2.1, Nat.le_trans h.2.2 (Nat.pow_le_pow_right (by omega) hb)⟩
theorem gf_sum {x : UInt64} {N M : Int} {a1 b1 a2 b2 : Nat} (a b : Nat) (h1 : 2 ^ a1 ∣ N.natAbs) (h2 : N.natAbs ≤ 2 ^ b1) (h3 : 2 ^ a2 ∣ M.natAbs) (h4 : M.natAbs ≤ 2 ^ b2) (ha1 : a ≤ a1) (ha2 : a ≤ a2) (hb1 : b1 + 1 ≤ b) (hb2 : b2 + 1 ≤ b) : 2 ^ a ∣ (N + M).natAbs ∧ (N + M).natAbs ≤ 2 ^ b := by
  constructor
  · have e1 : ((2 ^ a : Nat) : Int) ∣ N := Int.ofNat_dvd_left.mpr (Nat.dvd_trans (Nat.pow_dvd_pow 2 ha1) h1)
    have e2 : ((2 ^ a : Nat) : Int) ∣ M := Int.ofNat_dvd_left.mpr (Nat.dvd_trans (Nat.pow_dvd_pow 2 ha2) h3)
    exact Int.ofNat_dvd_left.mp (Int.dvd_add e1 e2)
  · have e1 := Int.natAbs_add_le N M
    have e2 : 2 ^ b1 ≤ 2 ^ (b - 1) := Nat.pow_le_pow_right (by omega) (by omega)
    have e3 : 2 ^ b2 ≤ 2 ^ (b - 1) := Nat.pow_le_pow_right (by omega) (by omega)
    have e4 : 2 ^ b = 2 * 2 ^ (b - 1) := by
      obtain ⟨k, rfl⟩ : ∃ k, b = k + 1 := ⟨b - 1, by omega⟩
      rw [Nat.pow_succ, Nat.add_sub_cancel]
      omega
    omega
theorem rn_2097 {b : Nat} {A B : Nat} (hB : 0 < B) (h : A ≤ B * 2 ^ b) (hb : b ≤ 2096) : A < B * 2 ^ 2097 := by
  refine Nat.lt_of_le_of_lt h (Nat.mul_lt_mul_of_pos_left (Nat.pow_lt_pow_right (by omega) (by omega)) hB)
theorem gf_of {x : UInt64} {N : Int} {B a b : Nat} (hB : 0 < B) (hx : FP.Core.DFin x) (h : fRI N B (fv x)) (ha : ∃ t, N.natAbs = B * (2 ^ a * t)) (hb : N.natAbs ≤ B * 2 ^ b) : fGr a b x := by
  obtain ⟨t, ht⟩ := ha
  exact ⟨hx, rn_gran hB h.1 ht, rn_up hB h.1 hb⟩
theorem gf_add {x y : UInt64} {a1 b1 a2 b2 : Nat} (a b : Nat) (h1 : fGr a1 b1 x) (h2 : fGr a2 b2 y) (ha1 : a ≤ a1) (ha2 : a ≤ a2) (hb1 : b1 + 1 ≤ b) (hb2 : b2 + 1 ≤ b) (hb : b ≤ 2096) : fGr a b (FP.dadd x y) := by
  obtain ⟨⟨t, ht⟩, hu⟩ := gf_sum (x := 0) a b h1.2.1 h1.2.2 h2.2.1 h2.2.2 ha1 ha2 hb1 hb2
  have hu1 : (fv x + fv y).natAbs ≤ 1 * 2 ^ b := by rw [Nat.one_mul]; exact hu
  have hl := rn_2097 (by omega) hu1 hb
  rw [Nat.one_mul] at hl
  obtain ⟨f1, f2⟩ := fp_add h1.1 h2.1 hl
  exact gf_of (by omega) f1 f2 ⟨t, by rw [ht, Nat.one_mul]⟩ hu1
theorem gf_sub {x y : UInt64} {a1 b1 a2 b2 : Nat} (a b : Nat) (h1 : fGr a1 b1 x) (h2 : fGr a2 b2 y) (ha1 : a ≤ a1) (ha2 : a ≤ a2) (hb1 : b1 + 1 ≤ b) (hb2 : b2 + 1 ≤ b) (hb : b ≤ 2096) : fGr a b (FP.dsub x y) := by
  obtain ⟨⟨t, ht⟩, hu⟩ := gf_sum (x := 0) a b h1.2.1 h1.2.2 (M := - fv y) (by rw [Int.natAbs_neg]; exact h2.2.1) (by rw [Int.natAbs_neg]; exact h2.2.2) ha1 ha2 hb1 hb2
  rw [← Int.sub_eq_add_neg] at ht hu
  have hu1 : (fv x - fv y).natAbs ≤ 1 * 2 ^ b := by rw [Nat.one_mul]; exact hu
  have hl := rn_2097 (by omega) hu1 hb
  rw [Nat.one_mul] at hl
  obtain ⟨f1, f2⟩ := fp_sub h1.1 h2.1 hl
  exact gf_of (by omega) f1 f2 ⟨t, by rw [ht, Nat.one_mul]⟩ hu1
theorem rn_p4 {a b c d k : Nat} (h : a + b = c + d + k) : 2 ^ a * 2 ^ b = 2 ^ c * 2 ^ d * 2 ^ k := by rw [← Nat.pow_add, ← Nat.pow_add, ← Nat.pow_add, h]
theorem gf_mul {x y : UInt64} {a1 b1 a2 b2 : Nat} (a b : Nat) (h1 : fGr a1 b1 x) (h2 : fGr a2 b2 y) (ha : a + 1074 ≤ a1 + a2) (hb : b1 + b2 ≤ b + 1074) (hm : b ≤ 2096) : fGr a b (FP.dmul x y) := by
  have hT : 0 < 2 ^ 1074 := Nat.two_pow_pos 1074
  have hu : (fv x * fv y).natAbs ≤ 2 ^ 1074 * 2 ^ b := by
    rw [Int.natAbs_mul, ← Nat.pow_add]
    refine Nat.le_trans (Nat.mul_le_mul h1.2.2 h2.2.2) ?_
    rw [← Nat.pow_add]
    exact Nat.pow_le_pow_right (by omega) (by omega)
  obtain ⟨f1, f2⟩ := fp_mul h1.1 h2.1 (rn_2097 hT hu hm)
  refine gf_of hT f1 f2 ?_ hu
  rw [Int.natAbs_mul]
  obtain ⟨t1, e1⟩ := h1.2.1
  obtain ⟨t2, e2⟩ := h2.2.1
  obtain ⟨k, hk⟩ : ∃ k, a1 + a2 = 1074 + a + k := ⟨a1 + a2 - (a + 1074), by omega⟩
  refine ⟨2 ^ k * t1 * t2, ?_⟩
  rw [e1, e2]
  have e3 := rn_p4 hk
  generalize (2 : Nat) ^ 1074 = T at e3 ⊢
  calc 2 ^ a1 * t1 * (2 ^ a2 * t2) = 2 ^ a1 * 2 ^ a2 * (t1 * t2) := by ac_rfl
    _ = T * 2 ^ a * 2 ^ k * (t1 * t2) := by rw [e3]
    _ = T * (2 ^ a * (2 ^ k * t1 * t2)) := by ac_rfl
/-- any double's value: fewer than 2^53 units of some power of two -/
theorem fv_rep {x : UInt64} (h : FP.Core.DFin x) : ∃ c i : Nat, c < 2 ^ 53 ∧ (fv x).natAbs = c * 2 ^ i := by
  obtain ⟨s, c, q, hx⟩ := h
  refine ⟨c, (q - FP.Core.b64.qmin).toNat, (fp_fits hx).1, ?_⟩
  unfold fv
  rw [hx]
  exact FP.Core.natAbs_signed s _
theorem fv_grid {x : UInt64} (h : FP.Core.DFin x) {a : Nat} (hl : 2 ^ (a + 52) ≤ (fv x).natAbs) : 2 ^ a ∣ (fv x).natAbs := by
  obtain ⟨c, i, hc, e⟩ := fv_rep h
  rw [e] at hl ⊢
  have h1 : 2 ^ (a + 52) < 2 ^ (53 + i) := by
    rw [Nat.pow_add 2 53 i]
    exact Nat.lt_of_le_of_lt hl (Nat.mul_lt_mul_of_pos_right hc (Nat.two_pow_pos i))
  have h2 := rn_powlt h1
  exact Nat.dvd_trans (Nat.pow_dvd_pow 2 (by omega : a ≤ i)) (Nat.dvd_mul_left _ _)
theorem fv_ne0 {a b : Nat} {x : UInt64} (h : fGr a b x) (h0 : fv x ≠ 0) : 2 ^ a ≤ (fv x).natAbs := Nat.le_of_dvd (Int.natAbs_pos.mpr h0) h.2.1
theorem gf_div {x y : UInt64} {a1 b1 a2 b2 : Nat} (a b : Nat) (h1 : fGr a1 b1 x) (h2 : fGr a2 b2 y) (h0 : fv y ≠ 0) (ha : a + 52 + b2 ≤ a1 + 1074) (hb : b1 + 1074 ≤ a2 + b) (hm : b ≤ 2096) : fGr a b (FP.ddiv x y) := by
  have hB : 0 < (fv y).natAbs := Int.natAbs_pos.mpr h0
  have hy := fv_ne0 h2 h0
  have hu : (fv x).natAbs * 2 ^ 1074 ≤ (fv y).natAbs * 2 ^ b := by
    refine Nat.le_trans (Nat.mul_le_mul_right _ h1.2.2) (Nat.le_trans ?_ (Nat.mul_le_mul_right _ hy))
    rw [← Nat.pow_add, ← Nat.pow_add]
    exact Nat.pow_le_pow_right (by omega) hb
  obtain ⟨f1, f2⟩ := fp_div h1.1 h2.1 h0 (rn_2097 hB hu hm)
  have hN : (fv x * ((2 ^ 1074 : Nat) : Int) * (fv y).sign).natAbs = (fv x).natAbs * 2 ^ 1074 := by
    rw [Int.natAbs_mul, Int.natAbs_mul, Int.natAbs_sign_of_ne_zero h0, Int.natAbs_natCast, Nat.mul_one]
  have h3 := f2.1
  rw [hN] at h3
  refine ⟨f1, ?_, rn_up hB h3 hu⟩
  by_cases hx0 : fv x = 0
  · rw [hx0, Int.natAbs_zero, Nat.zero_mul] at h3
    rw [fp_rn0 hB h3]
    exact Nat.dvd_zero _
  · refine fv_grid f1 (rn_lo hB h3 ?_)
    refine Nat.le_trans (Nat.mul_le_mul_right _ h2.2.2) (Nat.le_trans ?_ (Nat.mul_le_mul_right _ (fv_ne0 h1 hx0)))
    rw [← Nat.pow_add, ← Nat.pow_add]
    exact Nat.pow_le_pow_right (by omega) (by omega)
