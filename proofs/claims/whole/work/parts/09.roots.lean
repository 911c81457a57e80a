/-! THE CLASS'S ROOT, its numbers: the first guess, four steps, the last bit -/
theorem dv_ltw {x y : UInt64} {c i k w : Nat} (hx : dv x c i) (hy : fv y = ((2 ^ k : Nat) : Int)) (hc : c < 2 ^ w) (h : w + i ≤ k) : fv x < fv y := by
  rw [hx.2, hy]
  refine Int.ofNat_lt.mpr (Nat.lt_of_lt_of_le ?_ (Nat.pow_le_pow_right (by omega) h))
  rw [Nat.pow_add]
  exact Nat.mul_lt_mul_of_pos_right hc (Nat.two_pow_pos i)
theorem rt_norm {x : UInt64} (hx : FP.Core.DFin x) (h : ((2 ^ 52 : Nat) : Int) ≤ fv x) : ∃ N h : Nat, dv x N (2 * h) ∧ 2 ^ 52 ≤ N ∧ N < 2 ^ 54 ∧ h ≤ 1022 := by
  obtain ⟨s, c, i, h1, h2, h3, h4, -⟩ := fv_norm hx (by omega)
  have hP : 0 < c * 2 ^ i := Nat.mul_pos (by omega) (Nat.two_pow_pos i)
  cases s with
  | true =>
    have h5 : fv x = -((c * 2 ^ i : Nat) : Int) := h4
    omega
  | false =>
    have h5 : fv x = ((c * 2 ^ i : Nat) : Int) := h4
    rcases Nat.mod_two_eq_zero_or_one i with h6 | h6
    · refine ⟨c, i / 2, ⟨hx, ?_⟩, h1, by omega, by omega⟩
      rw [h5, show 2 * (i / 2) = i by omega]
    · refine ⟨c * 2, i / 2, ⟨hx, ?_⟩, by omega, by omega, by omega⟩
      rw [h5, Nat.mul_assoc, ← Nat.pow_succ', show (2 * (i / 2)).succ = i by omega]
def fRt (x : UInt64) : Prop := x = 0 ∨ (FP.Core.DFin x ∧ ((2 ^ 52 : Nat) : Int) ≤ fv x ∧ fv x < ((2 ^ 2090 : Nat) : Int))
theorem fRt_gr {a b : Nat} {x : UInt64} (h : fGr a b x) (ha : 52 ≤ a) (hb : b ≤ 2089) (h0 : 0 ≤ fv x) (hz : fv x = 0 → x = 0) : fRt x := by
  by_cases h1 : fv x = 0
  · exact Or.inl (hz h1)
  · have h2 := Nat.le_trans (Nat.pow_le_pow_right (by omega) ha) (fv_ne0 h h1)
    have h3 := Nat.lt_of_le_of_lt h.2.2 (Nat.pow_lt_pow_right (show 1 < 2 by omega) (show b < 2090 by omega))
    refine Or.inr ⟨h.1, by omega, ?_⟩
    generalize (2 : Nat) ^ 2090 = T at h3 ⊢
    omega
theorem nw_sq0 {R : Nat} (h1 : 2 ^ 52 ≤ R) (h2 : R ≤ 2 ^ 53) : R * R + 2 ^ 105 ≤ 3 * 2 ^ 52 * R := by
  obtain ⟨a, rfl⟩ : ∃ a, R = 2 ^ 52 + a := ⟨R - 2 ^ 52, by omega⟩
  have e1 : (2 ^ 52 + a) * (2 ^ 52 + a) = 2 ^ 104 + 2 ^ 53 * a + a * a := by
    simp only [Nat.add_mul, Nat.mul_add, Nat.mul_comm a (2 ^ 52)]
    omega
  have e2 : a * a ≤ 2 ^ 52 * a := Nat.mul_le_mul_right _ (by omega)
  have e3 : 3 * 2 ^ 52 * (2 ^ 52 + a) = 3 * 2 ^ 104 + 3 * 2 ^ 52 * a := by rw [Nat.mul_add]
  omega
set_option maxRecDepth 100000 in
theorem nw_g0 {x : UInt64} {N : Nat} (hx : dv x N 1022) (hN1 : 2 ^ 52 ≤ N) (hN2 : N < 2 ^ 54) : FP.Core.DFin (FP.dadd x 4611686018427387904) ∧ ∃ G : Nat, dv (FP.ddiv (FP.dadd x 4611686018427387904) 4613937818241073152) G 1022 ∧ 2 ^ 52 ≤ G ∧ G < 2 ^ 54 ∧ ∀ R : Nat, R * R ≤ N * 2 ^ 52 → N * 2 ^ 52 ≤ R * R + 2 * R → 2 ^ 52 ≤ R → R + 1 ≤ 2 ^ 53 → G ≤ R + 2 ^ 49 ∧ R ≤ G + 2 ^ 49 := by
  have p74 : (2 : Nat) ^ 1074 = 2 ^ 52 * 2 ^ 1022 := by rw [← Nat.pow_add]
  have p75 : (2 : Nat) ^ 1075 = 2 ^ 53 * 2 ^ 1022 := by rw [← Nat.pow_add]
  have p76 : (2 : Nat) ^ (1023 + 53) = 2 ^ 54 * 2 ^ 1022 := by rw [← Nat.pow_add]
  have p77 : (2 : Nat) ^ (1024 + 53) = 2 ^ 55 * 2 ^ 1022 := by rw [← Nat.pow_add]
  have p23 : (2 : Nat) ^ 1023 = 2 * 2 ^ 1022 := by rw [Nat.pow_succ]; omega
  have p24 : (2 : Nat) ^ 1024 = 4 * 2 ^ 1022 := by rw [Nat.pow_succ, p23]; omega
  have hu : 0 < (2 : Nat) ^ 1022 := Nat.two_pow_pos _
  have hT : 0 < (2 : Nat) ^ 1074 := Nat.two_pow_pos _
  have hsum : fv x + fv 4611686018427387904 = ((N * 2 ^ 1022 + 2 ^ 53 * 2 ^ 1022 : Nat) : Int) := by rw [hx.2, fv_2, p75]; omega
  have hlt : N * 2 ^ 1022 + 2 ^ 53 * 2 ^ 1022 < 1 * 2 ^ (1024 + 53) := by
    rw [p77, ← Nat.add_mul, Nat.one_mul]
    exact Nat.mul_lt_mul_of_pos_right (by omega) hu
  obtain ⟨s1, s2⟩ := fp_add hx.1 gf_2.1 (by
    rw [hsum, Int.natAbs_natCast]
    refine Nat.lt_of_lt_of_le hlt ?_
    rw [Nat.one_mul]
    exact Nat.pow_le_pow_right (by omega) (by omega))
  have s4 : 0 ≤ fv (FP.dadd x 4611686018427387904) := s2.2.1 (by rw [hsum]; omega)
  obtain ⟨S, hS⟩ : ∃ S : Nat, fv (FP.dadd x 4611686018427387904) = (S : Int) := ⟨(fv (FP.dadd x 4611686018427387904)).toNat, by omega⟩
  have s3 : fRn (N * 2 ^ 1022 + 2 ^ 53 * 2 ^ 1022) 1 S := by
    have := s2.1
    rw [hsum, Int.natAbs_natCast, hS, Int.natAbs_natCast] at this
    exact this
  obtain ⟨k1, k2⟩ := rn_err (by omega) s3 (b := 1024) hlt
  rw [p24, Nat.mul_one, Nat.one_mul] at k1 k2
  have k3 : 3 * 2 ^ 1074 ≤ S := rn_ge (by omega) s3 (by omega) (by
    rw [p74, Nat.one_mul, ← Nat.add_mul, ← Nat.mul_assoc]
    exact Nat.mul_le_mul_right _ (by omega))
  have k4 : S ≤ 2 ^ (1024 + 53) := rn_up (by omega) s3 (Nat.le_of_lt hlt)
  have hsg : (fv 4613937818241073152).sign = 1 := by rw [fv_3]; exact Int.sign_eq_one_of_pos (by omega)
  have hB : 0 < 3 * 2 ^ 1074 := by omega
  have hA : S * 2 ^ 1074 < 3 * 2 ^ 1074 * 2 ^ (1023 + 53) := by
    rw [p77] at k4
    rw [p76, Nat.mul_right_comm]
    refine Nat.mul_lt_mul_of_pos_right ?_ hT
    generalize (2 : Nat) ^ 1022 = u at hu k4 ⊢
    omega
  obtain ⟨y1, y2⟩ := fp_div s1 gf_3.1 ne_3 (by
    rw [fv_3, hS, Int.natAbs_natCast, Int.natAbs_natCast]
    exact Nat.lt_of_lt_of_le hA (Nat.mul_le_mul_left _ (Nat.pow_le_pow_right (by omega) (by omega))))
  have y4 : 0 ≤ fv (FP.ddiv (FP.dadd x 4611686018427387904) 4613937818241073152) := y2.2.1 (by rw [hsg, Int.mul_one]; exact Int.mul_nonneg s4 (by omega))
  obtain ⟨Z, hZ⟩ : ∃ Z : Nat, fv (FP.ddiv (FP.dadd x 4611686018427387904) 4613937818241073152) = (Z : Int) := ⟨(fv (FP.ddiv (FP.dadd x 4611686018427387904) 4613937818241073152)).toNat, by omega⟩
  have y3 : fRn (S * 2 ^ 1074) (3 * 2 ^ 1074) Z := by
    have := y2.1
    rw [hsg, Int.mul_one, Int.natAbs_mul, Int.natAbs_natCast, hS, hZ, fv_3, Int.natAbs_natCast, Int.natAbs_natCast, Int.natAbs_natCast] at this
    exact this
  obtain ⟨j1, j2⟩ := rn_err hB y3 (b := 1023) hA
  have j3 : 2 * S ≤ 6 * Z + 3 * 2 ^ 1023 := by
    refine nw_div hT ?_
    generalize (2 : Nat) ^ 1023 = v at j1 ⊢
    generalize (2 : Nat) ^ 1074 = T at j1 ⊢
    have e1 : 2 * S * T = 2 * (S * T) := Nat.mul_assoc _ _ _
    have e2 : 6 * Z * T = 2 * (Z * (3 * T)) := by rw [show (6 : Nat) = 2 * 3 from rfl]; ac_rfl
    have e3 : 3 * v * T = 3 * T * v := Nat.mul_right_comm _ _ _
    omega
  have j4 : 6 * Z ≤ 2 * S + 3 * 2 ^ 1023 := by
    refine nw_div hT ?_
    generalize (2 : Nat) ^ 1023 = v at j2 ⊢
    generalize (2 : Nat) ^ 1074 = T at j2 ⊢
    have e1 : 2 * S * T = 2 * (S * T) := Nat.mul_assoc _ _ _
    have e2 : 6 * Z * T = 2 * (Z * (3 * T)) := by rw [show (6 : Nat) = 2 * 3 from rfl]; ac_rfl
    have e3 : 3 * v * T = 3 * T * v := Nat.mul_right_comm _ _ _
    omega
  rw [p23] at j3 j4
  have j5 : 2 ^ 1074 ≤ Z := rn_lo hB y3 (Nat.mul_le_mul_right _ k3)
  have hZn : (fv (FP.ddiv (FP.dadd x 4611686018427387904) 4613937818241073152)).natAbs = Z := by rw [hZ, Int.natAbs_natCast]
  have j6 : 2 ^ 1022 ∣ Z := by
    rw [← hZn]
    exact fv_grid y1 (a := 1022) (by rw [hZn]; exact j5)
  obtain ⟨G, hG⟩ := j6
  have hGZ : Z = G * 2 ^ 1022 := by rw [hG, Nat.mul_comm]
  have l1 : N + 2 ^ 53 ≤ 3 * G + 5 := by
    refine Nat.le_of_mul_le_mul_right (c := 2 ^ 1022) ?_ hu
    generalize (2 : Nat) ^ 1022 = u at hGZ j3 k1 ⊢
    have e1 : (N + 2 ^ 53) * u = N * u + 2 ^ 53 * u := Nat.add_mul _ _ _
    have e2 : (3 * G + 5) * u = 3 * (G * u) + 5 * u := by rw [Nat.add_mul, Nat.mul_assoc]
    omega
  have l2 : 3 * G ≤ N + 2 ^ 53 + 5 := by
    refine Nat.le_of_mul_le_mul_right (c := 2 ^ 1022) ?_ hu
    generalize (2 : Nat) ^ 1022 = u at hGZ j4 k2 ⊢
    have e1 : (N + 2 ^ 53 + 5) * u = N * u + 2 ^ 53 * u + 5 * u := by rw [Nat.add_mul, Nat.add_mul]
    have e2 : 3 * G * u = 3 * (G * u) := Nat.mul_assoc _ _ _
    omega
  have l3 : 2 ^ 52 ≤ G := by
    rw [hGZ, p74] at j5
    exact Nat.le_of_mul_le_mul_right j5 hu
  refine ⟨s1, G, ⟨y1, by rw [hZ, hGZ]⟩, l3, by omega, fun R h1 h2 h3 h4 => ⟨?_, ?_⟩⟩
  · have := nw_sq0 h3 (by omega)
    omega
  · refine Nat.le_of_not_lt fun hlt => ?_
    have h5 := nw_sq (2 * R) (3 * 2 ^ 52)
    have e1 : 2 * R * (2 * R) = 4 * (R * R) := by rw [show (4 : Nat) = 2 * 2 from rfl]; ac_rfl
    omega
set_option maxRecDepth 100000 in
theorem nw_it1 {x g : UInt64} {N G R : Nat} (hx : dv x N 1022) (hN1 : 2 ^ 52 ≤ N) (hN2 : N < 2 ^ 54) (hR1 : R * R ≤ N * 2 ^ 52) (hR2 : N * 2 ^ 52 ≤ R * R + 2 * R) (hR3 : R + 1 ≤ 2 ^ 53) (hg : dv g G 1022) (hG1 : 2 ^ 52 ≤ G) (hG2 : G < 2 ^ 54) (h1 : G ≤ R + 2 ^ 49) (h2 : R ≤ G + 2 ^ 49) :
    FP.Core.DFin (FP.ddiv x g) ∧ FP.Core.DFin (FP.dadd g (FP.ddiv x g)) ∧ ∃ G' : Nat, dv (FP.ddiv (FP.dadd g (FP.ddiv x g)) 4611686018427387904) G' 1022 ∧ 2 ^ 52 ≤ G' ∧ G' ≤ R + (2 ^ 45 + 4) ∧ R ≤ G' + 1 := by
  obtain ⟨a1, a2, G', a3, a4, a5, a6⟩ := nw_step hx hN1 hN2 hg hG1 hG2
  have := nw_D (K := 2 ^ 45) a5 hR2 h1 h2 hG1 (Nat.lt_of_succ_le hR3) (by decide)
  exact ⟨a1, a2, G', a3, a4, by omega, (a6 R hR1 hR3).1⟩
set_option maxRecDepth 100000 in
theorem nw_it {x g : UInt64} {N G R : Nat} (D K : Nat) (hx : dv x N 1022) (hN1 : 2 ^ 52 ≤ N) (hN2 : N < 2 ^ 54) (hR1 : R * R ≤ N * 2 ^ 52) (hR2 : N * 2 ^ 52 ≤ R * R + 2 * R) (hR3 : R + 1 ≤ 2 ^ 53) (hD : D ≤ 2 ^ 50) (hD1 : 1 ≤ D) (hK : D * D ≤ 2 ^ 53 * K) (hg : dv g G 1022) (hG1 : 2 ^ 52 ≤ G) (h1 : G ≤ R + D) (h2 : R ≤ G + 1) :
    FP.Core.DFin (FP.ddiv x g) ∧ FP.Core.DFin (FP.dadd g (FP.ddiv x g)) ∧ ∃ G' : Nat, dv (FP.ddiv (FP.dadd g (FP.ddiv x g)) 4611686018427387904) G' 1022 ∧ 2 ^ 52 ≤ G' ∧ G' ≤ R + (K + 4) ∧ R ≤ G' := by
  obtain ⟨a1, a2, G', a3, a4, a5, a6⟩ := nw_step hx hN1 hN2 hg hG1 (by omega)
  have := nw_D (K := K) a5 hR2 h1 (by omega) hG1 (Nat.lt_of_succ_le hR3) hK
  exact ⟨a1, a2, G', a3, a4, by omega, (a6 R hR1 hR3).2 h2⟩
set_option maxRecDepth 100000 in
/-- in units of one -/
theorem nw_unit {x : UInt64} {n : Nat} (hx : dv x n 1022) (hn : n < 2 ^ 60) : dv (FP.dmul x 4841369599423283200) n 1074 := by
  have h := sc_up (n := n * 2 ^ 1022) (k := 52) hx.1 gf_52.1 hx.2 fv_52 (by
    rw [Nat.mul_assoc, ← Nat.pow_add]
    refine Nat.lt_of_lt_of_le (Nat.mul_lt_mul_of_pos_right hn (Nat.two_pow_pos _)) ?_
    rw [← Nat.pow_add]
    exact Nat.pow_le_pow_right (by omega) (by omega))
  rw [Nat.mul_assoc, ← Nat.pow_add] at h
  exact h
set_option maxRecDepth 100000 in
theorem nw_back {R : Nat} (hR : R ≤ 2 ^ 53) : dv (FP.ddiv (FP.l2d (lN R)) 4841369599423283200) R 1022 := by
  have hT : (lN R).toInt = (R : Int) := pk_lT (by omega)
  have h1 := fv_int (FP.Core.l2d_int (a := lN R) (by rw [hT]; omega))
  rw [hT] at h1
  refine sc_dn (w := R * 2 ^ 1022) (k := 52) h1.1 gf_52.1 ?_ fv_52 ?_
  · have h2 := h1.2
    rw [Nat.mul_assoc, ← Nat.pow_add, Int.natCast_mul]
    exact h2
  · refine Nat.lt_of_le_of_lt (Nat.mul_le_mul_right _ hR) ?_
    rw [← Nat.pow_add]
    exact Nat.pow_lt_pow_right (by omega) (by omega)
theorem nw_fin {R : Nat} (hR : R ≤ 2 ^ 53) : FP.Core.DFin (FP.l2d (lN R)) := by
  have hT : (lN R).toInt = (R : Int) := pk_lT (by omega)
  exact (fv_int (FP.Core.l2d_int (a := lN R) (by rw [hT]; omega))).1
theorem iL_of (n : Nat) : lN n = Int64.ofInt (n : Int) := Int64.ofInt_eq_ofNat.symm
theorem iL_lt {z : Int} (h1 : -2 ^ 63 ≤ z) (h2 : z < 2 ^ 63) : Int64.ofInt z < 0 ↔ z < 0 := by
  rw [Int64.lt_iff_toInt_lt, Int64.toInt_ofInt_of_le h1 h2]
  exact Iff.rfl
theorem iL_gt {z : Int} {n : Nat} (h1 : -2 ^ 63 ≤ z) (h2 : z < 2 ^ 63) (hn : n < 2 ^ 62) : lN n < Int64.ofInt z ↔ (n : Int) < z := by
  rw [Int64.lt_iff_toInt_lt, Int64.toInt_ofInt_of_le h1 h2, pk_lT (by omega)]
