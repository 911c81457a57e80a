/-! HOW BIG AND HOW FINE the numbers of a pose are -/
theorem i2d_0 : FP.i2d 0 = 0 := by decide +kernel
theorem rt_int {v : Int32} {k : Nat} (h0 : 0 ≤ v) (hk : v.toInt.natAbs ≤ 2 ^ k) (hk2 : k ≤ 31) : fRt (FP.i2d v) := by
  refine fRt_gr (gf_i2d k hk) (by omega) (by omega) ?_ ?_
  · rw [fv_i2d]
    exact Int.mul_nonneg (i_nn.mp h0) (Int.natCast_nonneg _)
  · intro hz
    rw [fv_i2d] at hz
    have : v.toInt = 0 := by
      rcases Int.mul_eq_zero.mp hz with h | h
      · exact h
      · exact absurd (Int.ofNat_eq_zero.mp h) (Nat.ne_of_gt (Nat.two_pow_pos _))
    have hv : v = 0 := Int32.toInt_inj.mp this
    rw [hv]
    exact i2d_0
theorem fv_grid0 {x : UInt64} (hx : FP.Core.DFin x) {a : Nat} (h : fv x = 0 ∨ 2 ^ (a + 52) ≤ (fv x).natAbs) : 2 ^ a ∣ (fv x).natAbs := by
  rcases h with h | h
  · rw [h]; exact Nat.dvd_zero _
  · exact fv_grid hx h
theorem dbl {e : UInt64} {a b : Nat} (he : fGr a b e) (hb : b ≤ 2090) : FP.Core.DFin (FP.dmul 4611686018427387904 e) ∧ fv (FP.dmul 4611686018427387904 e) = 2 * fv e := by
  have hl : (fv 4611686018427387904 * fv e).natAbs = 2 ^ 1074 * (2 * (fv e).natAbs) := by
    rw [Int.natAbs_mul, fv_2, Int.natAbs_natCast, show (1075 : Nat) = 1074 + 1 from rfl, Nat.pow_succ, Nat.mul_assoc]
  have hb2 : 2 * (fv e).natAbs ≤ 2 ^ (b + 1) := by rw [Nat.pow_succ, Nat.mul_comm]; exact Nat.mul_le_mul_right _ he.2.2
  obtain ⟨f1, f2⟩ := fp_mul gf_2.1 he.1 (by
    rw [hl]
    refine Nat.mul_lt_mul_of_pos_left (Nat.lt_of_le_of_lt hb2 (Nat.pow_lt_pow_right (by omega) (by omega))) (Nat.two_pow_pos _))
  obtain ⟨c, i, hc, e1⟩ := fv_rep he.1
  have h4 := rn_exact (m := c) (i := i + 1) (Nat.two_pow_pos 1074) f2.1 (by rw [hl, e1]; congr 1; rw [Nat.pow_succ, Nat.mul_comm 2, Nat.mul_assoc]) (Nat.le_of_lt hc)
  have e5 : c * 2 ^ (i + 1) = 2 * (fv e).natAbs := by rw [e1, Nat.pow_succ, ← Nat.mul_assoc, Nat.mul_comm]
  rw [e5] at h4
  refine ⟨f1, ?_⟩
  have g1 := f2.2.1
  have g2 := f2.2.2
  rw [fv_2] at g1 g2
  have hp : (0 : Int) ≤ ((2 ^ 1075 : Nat) : Int) := Int.natCast_nonneg _
  rcases Int.le_total 0 (fv e) with h | h
  · have := g1 (Int.mul_nonneg hp h)
    omega
  · have := g2 (Int.mul_nonpos_of_nonneg_of_nonpos hp h)
    omega
theorem rn_nz {A B Z : Nat} (hB : 0 < B) (h : fRn A B Z) (hA : B ≤ A) : 1 ≤ Z := rn_lo (b := 0) hB h (by rw [Nat.pow_zero, Nat.mul_one]; exact hA)
theorem gm_aux {C E S : Nat} {n : Int} (hE0 : 0 < E) (hE : E ≤ 2 ^ 1101) (hg : 2 ^ 1073 ≤ E → 2 ^ 1021 ∣ E) (hS : fRn (n * ((2 ^ 1074 : Nat) : Int) + (E : Int)).natAbs 1 S) (hx : n = 0 → S = E) : S = 0 ∨ 2 * E * 2 ^ 993 ≤ S * 2 ^ 1074 := by
  have p1 : (2 : Nat) ^ 1074 = 2 ^ 81 * 2 ^ 993 := by rw [← Nat.pow_add]
  by_cases hn : n = 0
  · right
    rw [hx hn, p1, ← Nat.mul_assoc]
    exact Nat.mul_le_mul_right _ (by omega)
  · rcases Nat.lt_or_ge E (2 ^ 1073) with h | h
    · right
      have p2 : (2 : Nat) ^ 1074 = 2 * 2 ^ 1073 := by rw [Nat.pow_succ, Nat.mul_comm]
      have hl : 1 * 2 ^ 1073 ≤ (n * ((2 ^ 1074 : Nat) : Int) + (E : Int)).natAbs := by
        rw [p2]
        generalize (2 : Nat) ^ 1073 = T at h ⊢
        rcases Int.lt_or_lt_of_ne hn with h1 | h1
        · have : n * ((2 * T : Nat) : Int) ≤ (-1) * ((2 * T : Nat) : Int) := Int.mul_le_mul_of_nonneg_right (by omega) (by omega)
          omega
        · have : 1 * ((2 * T : Nat) : Int) ≤ n * ((2 * T : Nat) : Int) := Int.mul_le_mul_of_nonneg_right (by omega) (by omega)
          omega
      have h2 := rn_lo (by omega) hS hl
      calc 2 * E * 2 ^ 993 ≤ 2 * 2 ^ 1073 * 2 ^ 993 := Nat.mul_le_mul_right _ (by omega)
        _ = 2 ^ 1074 * 2 ^ 993 := by rw [p2]
        _ ≤ 2 ^ 1074 * 2 ^ 1073 := Nat.mul_le_mul_left _ (Nat.pow_le_pow_right (by omega) (by omega))
        _ = 2 ^ 1073 * 2 ^ 1074 := Nat.mul_comm _ _
        _ ≤ S * 2 ^ 1074 := Nat.mul_le_mul_right _ h2
    · have d1 : ((2 ^ 1021 : Nat) : Int) ∣ (E : Int) := Int.ofNat_dvd.mpr (hg h)
      have d2 : ((2 ^ 1021 : Nat) : Int) ∣ n * ((2 ^ 1074 : Nat) : Int) := Int.dvd_mul_of_dvd_right (Int.ofNat_dvd.mpr (Nat.pow_dvd_pow 2 (by omega)))
      obtain ⟨t, ht⟩ := Int.ofNat_dvd_left.mp (Int.dvd_add d2 d1)
      have h3 := rn_gran (by omega) hS (by rw [ht, Nat.one_mul])
      by_cases h0 : S = 0
      · exact Or.inl h0
      · right
        have h4 := Nat.le_of_dvd (Nat.pos_of_ne_zero h0) h3
        have p3 : (2 : Nat) ^ 1102 = 2 * 2 ^ 1101 := by rw [Nat.pow_succ, Nat.mul_comm]
        calc 2 * E * 2 ^ 993 ≤ 2 ^ 1102 * 2 ^ 993 := Nat.mul_le_mul_right _ (by rw [p3]; exact Nat.mul_le_mul_left _ hE)
          _ = 2 ^ 1021 * 2 ^ 1074 := by rw [← Nat.pow_add, ← Nat.pow_add]
          _ ≤ S * 2 ^ 1074 := Nat.mul_le_mul_right _ h4
/-- (n + e) / (2 e): finer than its parts say -/
theorem gm_m {n : Int32} {e : UInt64} (hn : n.toInt.natAbs ≤ 2 ^ 20) (he : fGr 968 1101 e) (hp : 0 < fv e) : fGr 941 1207 (FP.ddiv (FP.dadd (FP.i2d n) e) (FP.dmul 4611686018427387904 e)) := by
  have hS := gf_add 968 1102 (gf_i2d 20 hn) he (by omega) (by omega) (by omega) (by omega) (by omega)
  obtain ⟨b1, b2⟩ := dbl he (by omega)
  have h2e := gf_mul 969 1102 gf_2 he (by omega) (by omega) (by omega)
  have hz : fv (FP.dmul 4611686018427387904 e) ≠ 0 := by rw [b2]; omega
  have hD := gf_div 888 1207 hS h2e hz (by omega) (by omega) (by omega)
  refine ⟨hD.1, ?_, hD.2.2⟩
  obtain ⟨E, hE⟩ : ∃ E : Nat, fv e = (E : Int) := ⟨(fv e).toNat, by omega⟩
  have hEn : (fv e).natAbs = E := by rw [hE, Int.natAbs_natCast]
  have hEb : E ≤ 2 ^ 1101 := by rw [← hEn]; exact he.2.2
  have hsum : fv (FP.i2d n) + fv e = n.toInt * ((2 ^ 1074 : Nat) : Int) + (E : Int) := by rw [fv_i2d, hE]
  have hlt : (fv (FP.i2d n) + fv e).natAbs < 2 ^ 2097 := by
    have h1 := (gf_i2d 20 hn).2.2
    have h2 := he.2.2
    have p1 : (2 : Nat) ^ (1074 + 20) ≤ 2 ^ 1101 := Nat.pow_le_pow_right (by omega) (by omega)
    have p2 : (2 : Nat) ^ 1102 = 2 * 2 ^ 1101 := by rw [Nat.pow_succ, Nat.mul_comm]
    have p3 : (2 : Nat) ^ 1102 < 2 ^ 2097 := Nat.pow_lt_pow_right (by omega) (by omega)
    have h3 := Int.natAbs_add_le (fv (FP.i2d n)) (fv e)
    generalize (2 : Nat) ^ (1074 + 20) = T0 at h1 p1
    generalize (2 : Nat) ^ 1101 = T1 at h2 p1 p2
    generalize (2 : Nat) ^ 1102 = T2 at p2 p3
    generalize (2 : Nat) ^ 2097 = T3 at p3 ⊢
    omega
  obtain ⟨s1, s2⟩ := fp_add (fin_i2d n) he.1 hlt
  have s3 := s2.1
  rw [hsum] at s3
  have hx : n.toInt = 0 → (fv (FP.dadd (FP.i2d n) e)).natAbs = E := fun h0 => by
    rw [h0, Int.zero_mul, Int.zero_add, Int.natAbs_natCast] at s3
    obtain ⟨c, i, hc, e1⟩ := fv_rep he.1
    rw [hEn] at e1
    have := rn_exact (m := c) (i := i) (by omega) s3 (by rw [Nat.one_mul, e1]) (Nat.le_of_lt hc)
    rw [this, e1]
  have key := gm_aux (C := 0) (E := E) (n := n.toInt) (by omega) hEb (fun h => by rw [← hEn] at h ⊢; exact fv_grid he.1 (a := 1021) h) s3 hx
  have hB : 0 < (fv (FP.dmul 4611686018427387904 e)).natAbs := Int.natAbs_pos.mpr hz
  have hBe : (fv (FP.dmul 4611686018427387904 e)).natAbs = 2 * E := by rw [b2, hE]; omega
  have hu : (fv (FP.dadd (FP.i2d n) e)).natAbs * 2 ^ 1074 < (fv (FP.dmul 4611686018427387904 e)).natAbs * 2 ^ 2097 := by
    have hy := fv_ne0 h2e hz
    refine Nat.lt_of_le_of_lt (Nat.mul_le_mul_right _ hS.2.2) (Nat.lt_of_lt_of_le ?_ (Nat.mul_le_mul_right _ hy))
    rw [← Nat.pow_add, ← Nat.pow_add]
    exact Nat.pow_lt_pow_right (by omega) (by omega)
  obtain ⟨-, q2⟩ := fp_div hS.1 h2e.1 hz hu
  have q3 := q2.1
  rw [Int.natAbs_mul, Int.natAbs_mul, Int.natAbs_sign_of_ne_zero hz, Int.natAbs_natCast, Nat.mul_one, hBe] at q3
  rw [hBe] at hB
  refine fv_grid0 hD.1 (a := 941) ?_
  rcases key with k | k
  · left
    rw [k, Nat.zero_mul] at q3
    exact Int.natAbs_eq_zero.mp (fp_rn0 hB q3)
  · right
    exact rn_lo hB q3 k
/-- a difference that isn't less than nothing, of a number that isn't small -/
theorem gm_k {P M : UInt64} {a1 a2 b2 : Nat} (hP : fGr a1 1200 P) (hM : fGr a2 b2 M) (hb2 : b2 ≤ 2000) (hp : 2 ^ 1058 ≤ fv P) (hm : 0 ≤ fv M) (hk : 0 ≤ fv (FP.dsub P M)) : fv M ≤ fv P ∧ fGr 1005 1200 (FP.dsub P M) ∧ (fv (FP.dsub P M) = 0 → FP.dsub P M = 0) := by
  have hlt : (fv P - fv M).natAbs < 2 ^ 2097 := by
    have h1 := hP.2.2
    have h2 := hM.2.2
    have p1 : (2 : Nat) ^ 1200 ≤ 2 ^ 2000 := Nat.pow_le_pow_right (by omega) (by omega)
    have p0 : (2 : Nat) ^ b2 ≤ 2 ^ 2000 := Nat.pow_le_pow_right (by omega) (by omega)
    have p2 : (2 : Nat) ^ 2001 = 2 * 2 ^ 2000 := by rw [Nat.pow_succ, Nat.mul_comm]
    have p3 : (2 : Nat) ^ 2001 < 2 ^ 2097 := Nat.pow_lt_pow_right (by omega) (by omega)
    generalize (2 : Nat) ^ 1200 = T0 at h1 p1
    generalize (2 : Nat) ^ b2 = T4 at h2 p0
    generalize (2 : Nat) ^ 2000 = T1 at p0 p1 p2
    generalize (2 : Nat) ^ 2001 = T2 at p2 p3
    generalize (2 : Nat) ^ 2097 = T3 at p3 ⊢
    omega
  obtain ⟨f1, f2, f3, f4⟩ := fp_sub hP.1 hM.1 hlt
  have hle : fv M ≤ fv P := by
    refine Int.not_lt.mp fun hc => ?_
    have h1 := f4 (by omega)
    have h2 := rn_nz (by omega) f2 (by omega)
    omega
  have hb : (fv P - fv M).natAbs ≤ 1 * 2 ^ 1200 := by
    have h1 := hP.2.2
    generalize (2 : Nat) ^ 1200 = T at h1 ⊢
    omega
  have hz : fv (FP.dsub P M) = 0 → fv P = fv M := fun h0 => by
    rw [h0] at f2
    refine Int.le_antisymm (Int.not_lt.mp fun hc => ?_) hle
    have := rn_nz (by omega) f2 (by omega)
    exact absurd this (by decide)
  refine ⟨hle, ⟨f1, ?_, rn_up (by omega) f2 hb⟩, fun h0 => ?_⟩
  · have hP52 : 2 ^ (1006 + 52) ≤ (fv P).natAbs := by
      have e : ((2 ^ (1006 + 52) : Nat) : Int) = 2 ^ 1058 := by decide +kernel
      generalize (2 : Nat) ^ (1006 + 52) = T at e ⊢
      rw [← e] at hp
      omega
    rcases Nat.lt_or_ge (fv M).natAbs (2 ^ 1057) with h | h
    · refine fv_grid f1 (a := 1005) (rn_lo (by omega) f2 ?_)
      have p2 : (2 : Nat) ^ (1006 + 52) = 2 * 2 ^ 1057 := by rw [show 1006 + 52 = 1057 + 1 from rfl, Nat.pow_succ, Nat.mul_comm]
      rw [p2] at hP52
      rw [Nat.one_mul]
      generalize (2 : Nat) ^ 1057 = T at h hP52 ⊢
      omega
    · have d1 : ((2 ^ 1005 : Nat) : Int) ∣ fv P := Int.ofNat_dvd_left.mpr (Nat.dvd_trans (Nat.pow_dvd_pow 2 (by omega)) (fv_grid hP.1 hP52))
      have d2 : ((2 ^ 1005 : Nat) : Int) ∣ fv M := Int.ofNat_dvd_left.mpr (fv_grid hM.1 (a := 1005) h)
      obtain ⟨t, ht⟩ := Int.ofNat_dvd_left.mp (Int.dvd_sub d1 d2)
      exact rn_gran (by omega) f2 (by rw [ht, Nat.one_mul])
  · have hPM := hz h0
    have hpp : fv P ≠ 0 := by
      intro hc
      rw [hc] at hp
      exact absurd hp (by decide +kernel)
    have := fv_inj hP.1 hM.1 hPM (by rw [← hPM]; exact hpp)
    subst this
    obtain ⟨s, c, q, hv⟩ := hP.1
    exact FP.Core.dsub_self hv
/-- and the root of what is taken off -/
theorem gm_m2 {m : UInt64} {b1 : Nat} (hm : fGr 941 b1 m) (hb1 : 2 * b1 ≤ 3170) (h : fv (FP.dmul m m) ≤ ((2 ^ 1200 : Nat) : Int)) : fGr 941 1138 m := by
  refine ⟨hm.1, hm.2.1, ?_⟩
  have hlt : (fv m * fv m).natAbs < 2 ^ 1074 * 2 ^ 2097 := by
    rw [Int.natAbs_mul, ← Nat.pow_add]
    refine Nat.lt_of_le_of_lt (Nat.mul_le_mul hm.2.2 hm.2.2) ?_
    rw [← Nat.pow_add]
    exact Nat.pow_lt_pow_right (by omega) (by omega)
  obtain ⟨-, f1, -⟩ := fp_mul hm.1 hm.1 hlt
  have hnn := sqr_nn hm hb1
  have h2 : (fv (FP.dmul m m)).natAbs < 2 ^ 1201 := by
    have p : (2 : Nat) ^ 1201 = 2 * 2 ^ 1200 := by rw [Nat.pow_succ, Nat.mul_comm]
    have p0 := Nat.two_pow_pos 1200
    rw [p]
    generalize (2 : Nat) ^ 1200 = T at h p0 ⊢
    omega
  have h3 := rn_back (Nat.two_pow_pos 1074) f1 h2
  rw [Int.natAbs_mul, ← Nat.pow_add] at h3
  refine Nat.le_of_not_lt fun hc => ?_
  have h4 := Nat.mul_le_mul (Nat.le_of_lt hc) (Nat.le_of_lt hc)
  rw [← Nat.pow_add] at h4
  have h5 := rn_powlt (Nat.lt_of_le_of_lt h4 h3)
  omega
theorem gz_px {U V lx ly a b c y : Int32} (h : pB U V lx ly a b c y) (h0 : 0 ≤ tH b ly y) : fGr 1021 1086 (tPx lx ly b y) := by
  obtain ⟨hU, hV, hlx, hly, ha, hb, hc, hy⟩ := h
  exact (gf_add 1021 1086 (gf_i2d 10 (cB_k hlx)) (gf_sq 1021 1085 (rt_ex (rt_int h0 (tH_k hb hly hy h0) (by omega))) (gf_i2d 20 (tH_k hb hly hy h0)) (Nat.le_of_ble_eq_true rfl) (Nat.le_of_ble_eq_true rfl)) (Nat.le_of_ble_eq_true rfl) (Nat.le_of_ble_eq_true rfl) (Nat.le_of_ble_eq_true rfl) (Nat.le_of_ble_eq_true rfl) (Nat.le_of_ble_eq_true rfl))
theorem gz_dx {U V lx ly a b c y : Int32} (h : pB U V lx ly a b c y) (h0 : 0 ≤ tH b ly y) : fGr 1021 1087 (tDx U lx ly b y) := by
  have hh := h
  obtain ⟨hU, hV, hlx, hly, ha, hb, hc, hy⟩ := h
  exact (gf_sub 1021 1087 (gf_i2d 10 (cB_k hU)) (gz_px hh h0) (Nat.le_of_ble_eq_true rfl) (Nat.le_of_ble_eq_true rfl) (Nat.le_of_ble_eq_true rfl) (Nat.le_of_ble_eq_true rfl) (Nat.le_of_ble_eq_true rfl))
theorem gz_dy {U V lx ly a b c y : Int32} (h : pB U V lx ly a b c y) (h0 : 0 ≤ tH b ly y) : fGr 1074 1085 (tDy V y) := by
  have hh := h
  obtain ⟨hU, hV, hlx, hly, ha, hb, hc, hy⟩ := h
  exact (gf_sub 1074 1085 (gf_i2d 10 (cB_k hV)) (gf_i2d 10 (yB_k hy)) (Nat.le_of_ble_eq_true rfl) (Nat.le_of_ble_eq_true rfl) (Nat.le_of_ble_eq_true rfl) (Nat.le_of_ble_eq_true rfl) (Nat.le_of_ble_eq_true rfl))
theorem gz_e {U V lx ly a b c y : Int32} (h : pB U V lx ly a b c y) (h0 : 0 ≤ tH b ly y) : fGr 968 1101 (tE U V lx ly b y) := by
  have hh := h
  obtain ⟨hU, hV, hlx, hly, ha, hb, hc, hy⟩ := h
  exact (gf_add 968 1101 (gf_mul 968 1100 (gz_dx hh h0) (gz_dx hh h0) (Nat.le_of_ble_eq_true rfl) (Nat.le_of_ble_eq_true rfl) (Nat.le_of_ble_eq_true rfl)) (gf_mul 1074 1096 (gz_dy hh h0) (gz_dy hh h0) (Nat.le_of_ble_eq_true rfl) (Nat.le_of_ble_eq_true rfl) (Nat.le_of_ble_eq_true rfl)) (Nat.le_of_ble_eq_true rfl) (Nat.le_of_ble_eq_true rfl) (Nat.le_of_ble_eq_true rfl) (Nat.le_of_ble_eq_true rfl) (Nat.le_of_ble_eq_true rfl))
theorem gz_enn {U V lx ly a b c y : Int32} (h : pB U V lx ly a b c y) (h0 : 0 ≤ tH b ly y) : 0 ≤ fv (tE U V lx ly b y) := by
  have hh := h
  obtain ⟨hU, hV, hlx, hly, ha, hb, hc, hy⟩ := h
  exact (add_nn (gf_mul 968 1100 (gz_dx hh h0) (gz_dx hh h0) (Nat.le_of_ble_eq_true rfl) (Nat.le_of_ble_eq_true rfl) (Nat.le_of_ble_eq_true rfl)) (gf_mul 1074 1096 (gz_dy hh h0) (gz_dy hh h0) (Nat.le_of_ble_eq_true rfl) (Nat.le_of_ble_eq_true rfl) (Nat.le_of_ble_eq_true rfl)) (sqr_nn (gz_dx hh h0) (by omega)) (sqr_nn (gz_dy hh h0) (by omega)) (by omega) (by omega)).1
theorem gz_m1 {U V lx ly a b c y : Int32} (h : pB U V lx ly a b c y) (h0 : 0 ≤ tH b ly y) (he : fv (tE U V lx ly b y) ≠ 0) : fGr 941 1207 (tM U V lx ly a b c y) := by
  have hh := h
  obtain ⟨hU, hV, hlx, hly, ha, hb, hc, hy⟩ := h
  have hn := gz_enn hh h0
  exact gm_m (ca_k ha hc) (gz_e hh h0) (by omega)
theorem gz_P {U V lx ly a b c y : Int32} (h : pB U V lx ly a b c y) (h0 : 0 ≤ tH b ly y) (he : fv (tE U V lx ly b y) ≠ 0) : fGr 995 1200 (FP.ddiv (FP.i2d (c * c)) (tE U V lx ly b y)) := by
  have hh := h
  obtain ⟨hU, hV, hlx, hly, ha, hb, hc, hy⟩ := h
  exact (gf_div 995 1200 (gf_i2d 20 (cc_k hc)) (gz_e hh h0) he (Nat.le_of_ble_eq_true rfl) (Nat.le_of_ble_eq_true rfl) (Nat.le_of_ble_eq_true rfl))
theorem gz_Pb {U V lx ly a b c y : Int32} (h : pB U V lx ly a b c y) (h0 : 0 ≤ tH b ly y) (he : fv (tE U V lx ly b y) ≠ 0) : 2 ^ 1058 ≤ fv (FP.ddiv (FP.i2d (c * c)) (tE U V lx ly b y)) := by
  have hh := h
  obtain ⟨hU, hV, hlx, hly, ha, hb, hc, hy⟩ := h
  have hn := gz_enn hh h0
  have hg := gz_e hh h0
  have hk := sq2_k hc
  have hi := gf_i2d 20 (cc_k hc)
  have hB : 0 < (fv (tE U V lx ly b y)).natAbs := Int.natAbs_pos.mpr he
  have hy2 := fv_ne0 hg he
  have hu : (fv (FP.i2d (c * c))).natAbs * 2 ^ 1074 < (fv (tE U V lx ly b y)).natAbs * 2 ^ 2097 := by
    refine Nat.lt_of_le_of_lt (Nat.mul_le_mul_right _ hi.2.2) (Nat.lt_of_lt_of_le ?_ (Nat.mul_le_mul_right _ hy2))
    rw [← Nat.pow_add, ← Nat.pow_add]
    exact Nat.pow_lt_pow_right (by omega) (by omega)
  obtain ⟨-, q1, q2, -⟩ := fp_div hi.1 hg.1 he hu
  have hs : (fv (tE U V lx ly b y)).sign = 1 := Int.sign_eq_one_of_pos (by omega)
  have hci : fv (FP.i2d (c * c)) = (c.toInt * c.toInt) * ((2 ^ 1074 : Nat) : Int) := by rw [fv_i2d, hk.1]
  have hnn : 0 ≤ fv (FP.i2d (c * c)) := by rw [hci]; exact Int.mul_nonneg (by omega) (Int.natCast_nonneg _)
  rw [hs, Int.mul_one, Int.natAbs_mul, Int.natAbs_natCast] at q1
  have h1 : 2 ^ 1085 ≤ (fv (FP.i2d (c * c))).natAbs := by
    rw [hci, Int.natAbs_mul, Int.natAbs_natCast, show (1085 : Nat) = 11 + 1074 from rfl, Nat.pow_add]
    exact Nat.mul_le_mul_right _ (by omega)
  have h2 := rn_lo (b := 1058) hB q1 (by
    refine Nat.le_trans (Nat.mul_le_mul_right _ hg.2.2) (Nat.le_trans ?_ (Nat.mul_le_mul_right _ h1))
    rw [← Nat.pow_add, ← Nat.pow_add]
    exact Nat.pow_le_pow_right (by omega) (by omega))
  have h3 := q2 (by rw [hs, Int.mul_one]; exact Int.mul_nonneg hnn (Int.natCast_nonneg _))
  have e : ((2 ^ 1058 : Nat) : Int) = 2 ^ 1058 := by decide +kernel
  rw [← e]
  generalize (2 : Nat) ^ 1058 = T at h2 ⊢
  omega
theorem gz_k0 {U V lx ly a b c y : Int32} (h : pB U V lx ly a b c y) (h0 : 0 ≤ tH b ly y) (he : fv (tE U V lx ly b y) ≠ 0) : fGr 808 1341 (tK U V lx ly a b c y) := by
  have hh := h
  obtain ⟨hU, hV, hlx, hly, ha, hb, hc, hy⟩ := h
  exact (gf_sub 808 1341 (gz_P hh h0 he) (gf_mul 808 1340 (gz_m1 hh h0 he) (gz_m1 hh h0 he) (Nat.le_of_ble_eq_true rfl) (Nat.le_of_ble_eq_true rfl) (Nat.le_of_ble_eq_true rfl)) (Nat.le_of_ble_eq_true rfl) (Nat.le_of_ble_eq_true rfl) (Nat.le_of_ble_eq_true rfl) (Nat.le_of_ble_eq_true rfl) (Nat.le_of_ble_eq_true rfl))
theorem gz_kk {U V lx ly a b c y : Int32} (h : pB U V lx ly a b c y) (h0 : 0 ≤ tH b ly y) (he : fv (tE U V lx ly b y) ≠ 0) (hk : 0 ≤ fv (tK U V lx ly a b c y)) : fv (FP.dmul (tM U V lx ly a b c y) (tM U V lx ly a b c y)) ≤ fv (FP.ddiv (FP.i2d (c * c)) (tE U V lx ly b y)) ∧ fGr 1005 1200 (tK U V lx ly a b c y) ∧ (fv (tK U V lx ly a b c y) = 0 → tK U V lx ly a b c y = 0) := by
  have hh := h
  obtain ⟨hU, hV, hlx, hly, ha, hb, hc, hy⟩ := h
  exact gm_k (gz_P hh h0 he) (gf_mul 808 1340 (gz_m1 hh h0 he) (gz_m1 hh h0 he) (Nat.le_of_ble_eq_true rfl) (Nat.le_of_ble_eq_true rfl) (Nat.le_of_ble_eq_true rfl)) (by omega) (gz_Pb hh h0 he) (sqr_nn (gz_m1 hh h0 he) (by omega)) hk
theorem gz_m {U V lx ly a b c y : Int32} (h : pB U V lx ly a b c y) (h0 : 0 ≤ tH b ly y) (he : fv (tE U V lx ly b y) ≠ 0) (hk : 0 ≤ fv (tK U V lx ly a b c y)) : fGr 941 1138 (tM U V lx ly a b c y) := by
  have hh := h
  obtain ⟨hU, hV, hlx, hly, ha, hb, hc, hy⟩ := h
  refine gm_m2 (gz_m1 hh h0 he) (by omega) (Int.le_trans (gz_kk hh h0 he hk).1 ?_)
  have h1 := (gz_P hh h0 he).2.2
  generalize (2 : Nat) ^ 1200 = T at h1 ⊢
  omega
theorem gz_krt {U V lx ly a b c y : Int32} (h : pB U V lx ly a b c y) (h0 : 0 ≤ tH b ly y) (he : fv (tE U V lx ly b y) ≠ 0) (hk : 0 ≤ fv (tK U V lx ly a b c y)) : fRt (tK U V lx ly a b c y) := by
  have hh := h
  obtain ⟨hU, hV, hlx, hly, ha, hb, hc, hy⟩ := h
  exact fRt_gr (gz_kk hh h0 he hk).2.1 (by omega) (by omega) hk (gz_kk hh h0 he hk).2.2
theorem sd_k {sd : Int32} (h : sd = 1 ∨ sd = -1) : sd.toInt.natAbs ≤ 2 ^ 0 := by rcases h with h | h <;> subst h <;> decide
theorem gz_s {U V lx ly a b c sd y : Int32} (h : pB U V lx ly a b c y) (h0 : 0 ≤ tH b ly y) (he : fv (tE U V lx ly b y) ≠ 0) (hk : 0 ≤ fv (tK U V lx ly a b c y)) (hsd : sd = 1 ∨ sd = -1) : fGr 987 1138 (tS U V lx ly a b c sd y) := by
  have hh := h
  obtain ⟨hU, hV, hlx, hly, ha, hb, hc, hy⟩ := h
  exact (gf_mul 987 1138 (gf_i2d 0 (sd_k hsd)) (gf_sq 987 1138 (rt_ex (gz_krt hh h0 he hk)) (gz_kk hh h0 he hk).2.1 (Nat.le_of_ble_eq_true rfl) (Nat.le_of_ble_eq_true rfl)) (Nat.le_of_ble_eq_true rfl) (Nat.le_of_ble_eq_true rfl) (Nat.le_of_ble_eq_true rfl))
theorem gz_qx {U V lx ly a b c sd y : Int32} (h : pB U V lx ly a b c y) (h0 : 0 ≤ tH b ly y) (he : fv (tE U V lx ly b y) ≠ 0) (hk : 0 ≤ fv (tK U V lx ly a b c y)) (hsd : sd = 1 ∨ sd = -1) : fGr 888 1153 (tQx U V lx ly a b c sd y) := by
  have hh := h
  obtain ⟨hU, hV, hlx, hly, ha, hb, hc, hy⟩ := h
  exact (gf_add 888 1153 (gf_add 888 1152 (gz_px hh h0) (gf_mul 888 1151 (gz_m hh h0 he hk) (gz_dx hh h0) (Nat.le_of_ble_eq_true rfl) (Nat.le_of_ble_eq_true rfl) (Nat.le_of_ble_eq_true rfl)) (Nat.le_of_ble_eq_true rfl) (Nat.le_of_ble_eq_true rfl) (Nat.le_of_ble_eq_true rfl) (Nat.le_of_ble_eq_true rfl) (Nat.le_of_ble_eq_true rfl)) (gf_mul 987 1149 (gz_s hh h0 he hk hsd) (gz_dy hh h0) (Nat.le_of_ble_eq_true rfl) (Nat.le_of_ble_eq_true rfl) (Nat.le_of_ble_eq_true rfl)) (Nat.le_of_ble_eq_true rfl) (Nat.le_of_ble_eq_true rfl) (Nat.le_of_ble_eq_true rfl) (Nat.le_of_ble_eq_true rfl) (Nat.le_of_ble_eq_true rfl))
theorem gz_qy {U V lx ly a b c sd y : Int32} (h : pB U V lx ly a b c y) (h0 : 0 ≤ tH b ly y) (he : fv (tE U V lx ly b y) ≠ 0) (hk : 0 ≤ fv (tK U V lx ly a b c y)) (hsd : sd = 1 ∨ sd = -1) : fGr 934 1152 (tQy U V lx ly a b c sd y) := by
  have hh := h
  obtain ⟨hU, hV, hlx, hly, ha, hb, hc, hy⟩ := h
  exact (gf_sub 934 1152 (gf_add 941 1150 (gf_i2d 10 (yB_k hy)) (gf_mul 941 1149 (gz_m hh h0 he hk) (gz_dy hh h0) (Nat.le_of_ble_eq_true rfl) (Nat.le_of_ble_eq_true rfl) (Nat.le_of_ble_eq_true rfl)) (Nat.le_of_ble_eq_true rfl) (Nat.le_of_ble_eq_true rfl) (Nat.le_of_ble_eq_true rfl) (Nat.le_of_ble_eq_true rfl) (Nat.le_of_ble_eq_true rfl)) (gf_mul 934 1151 (gz_s hh h0 he hk hsd) (gz_dx hh h0) (Nat.le_of_ble_eq_true rfl) (Nat.le_of_ble_eq_true rfl) (Nat.le_of_ble_eq_true rfl)) (Nat.le_of_ble_eq_true rfl) (Nat.le_of_ble_eq_true rfl) (Nat.le_of_ble_eq_true rfl) (Nat.le_of_ble_eq_true rfl) (Nat.le_of_ble_eq_true rfl))
theorem c_ne {c : Int32} (h : aB c) : fv (FP.i2d c) ≠ 0 := by
  rw [fv_i2d]
  refine Int.mul_ne_zero ?_ ?_
  · have := h.1; omega
  · exact fun h => absurd (Int.ofNat_eq_zero.mp h) (Nat.ne_of_gt (Nat.two_pow_pos _))
theorem gz_vx {U V lx ly a b c sd y : Int32} (h : pB U V lx ly a b c y) (h0 : 0 ≤ tH b ly y) (he : fv (tE U V lx ly b y) ≠ 0) (hk : 0 ≤ fv (tK U V lx ly a b c y)) (hsd : sd = 1 ∨ sd = -1) : fGr 826 1154 (tVx U V lx ly a b c sd y) := by
  have hh := h
  obtain ⟨hU, hV, hlx, hly, ha, hb, hc, hy⟩ := h
  exact (gf_div 826 1154 (gf_sub 888 1154 (gz_qx hh h0 he hk hsd) (gz_px hh h0) (Nat.le_of_ble_eq_true rfl) (Nat.le_of_ble_eq_true rfl) (Nat.le_of_ble_eq_true rfl) (Nat.le_of_ble_eq_true rfl) (Nat.le_of_ble_eq_true rfl)) (gf_i2d 10 (aB_k hc)) (c_ne hc) (Nat.le_of_ble_eq_true rfl) (Nat.le_of_ble_eq_true rfl) (Nat.le_of_ble_eq_true rfl))
theorem gz_vy {U V lx ly a b c sd y : Int32} (h : pB U V lx ly a b c y) (h0 : 0 ≤ tH b ly y) (he : fv (tE U V lx ly b y) ≠ 0) (hk : 0 ≤ fv (tK U V lx ly a b c y)) (hsd : sd = 1 ∨ sd = -1) : fGr 872 1153 (tVy U V lx ly a b c sd y) := by
  have hh := h
  obtain ⟨hU, hV, hlx, hly, ha, hb, hc, hy⟩ := h
  exact (gf_div 872 1153 (gf_sub 934 1153 (gz_qy hh h0 he hk hsd) (gf_i2d 10 (yB_k hy)) (Nat.le_of_ble_eq_true rfl) (Nat.le_of_ble_eq_true rfl) (Nat.le_of_ble_eq_true rfl) (Nat.le_of_ble_eq_true rfl) (Nat.le_of_ble_eq_true rfl)) (gf_i2d 10 (aB_k hc)) (c_ne hc) (Nat.le_of_ble_eq_true rfl) (Nat.le_of_ble_eq_true rfl) (Nat.le_of_ble_eq_true rfl))
