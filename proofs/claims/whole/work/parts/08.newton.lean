/-! NEWTON'S STEPS IN DOUBLES: from a guess of 53 bits to the root cut to a whole number, or little more -/
theorem nw_div {a b c u : Nat} (hu : 0 < u) (h : a * u ≤ b * u + c * u) : a ≤ b + c := Nat.le_of_mul_le_mul_right (by rw [Nat.add_mul]; exact h) hu
theorem nw_sq (G R : Nat) : 2 * (G * R) ≤ G * G + R * R := by
  rcases Nat.le_total G R with h | h
  · obtain ⟨d, rfl⟩ : ∃ d, R = G + d := ⟨R - G, by omega⟩
    simp only [Nat.mul_add, Nat.add_mul, Nat.mul_comm d G]
    omega
  · obtain ⟨d, rfl⟩ : ∃ d, G = R + d := ⟨G - R, by omega⟩
    simp only [Nat.mul_add, Nat.add_mul, Nat.mul_comm d R]
    omega
/-- the step, on whole numbers: u is the unit, Y and S the rounded quotient and sum -/
theorem nw_nat {M G R u Y S : Nat} (hu : 0 < u) (hG1 : 2 ^ 52 ≤ G) (hM1 : 2 ^ 104 ≤ M)
    (hY0 : M < G * 2 ^ 52 → 4 * M * u ≤ 4 * Y * G + G * u) (hY1 : M < G * 2 ^ 53 → 2 * M * u ≤ 2 * Y * G + G * u) (hY2 : 2 * M * u ≤ 2 * Y * G + 2 * G * u) (hY3 : 2 * Y * G ≤ 2 * M * u + 2 * G * u)
    (hY4 : G * 2 ^ 53 ≤ M → 2 ^ 53 * u ≤ Y) (hY5 : G * 2 ^ 52 ≤ M → 2 ^ 52 * u ≤ Y)
    (hS1 : G * u + Y < 2 ^ 54 * u → 2 * (G * u + Y) ≤ 2 * S + 2 * u) (hS2 : 2 ^ 54 * u ≤ G * u + Y → 2 ^ 54 * u ≤ S) (hS3 : 2 * S ≤ 2 * (G * u + Y) + 4 * u) (hS4 : 2 ^ 53 * u ≤ G * u + Y → 2 ^ 53 * u ≤ S) (hS5 : G * u + Y < 2 ^ 53 * u → 2 * (G * u + Y) ≤ 2 * S + u)
    (hD1 : 2 ^ 52 * u ≤ S → u ∣ S) (hD2 : 2 ^ 53 * u ≤ S → 2 * u ∣ S) :
    ∃ G' : Nat, S = G' * u * 2 ∧ 2 ^ 52 ≤ G' ∧ 2 * (G * G') ≤ G * G + M + 3 * G ∧ (R * R ≤ M → R + 1 ≤ 2 ^ 53 → R ≤ G' + 1 ∧ (R ≤ G + 1 → R ≤ G')) := by
  have hG0 : 0 < G := by omega
  have hS53 : 2 ^ 53 * u ≤ S := by
    rcases Nat.lt_or_ge M (G * 2 ^ 52) with h | h
    · rcases Nat.lt_or_ge (G * u + Y) (2 ^ 53 * u) with h2 | h2
      · have a0 := hY0 h
        have a1 := hS5 h2
        have a2 : 2 ^ 53 * G ≤ G * G + M := by
          have := nw_sq G (2 ^ 52)
          have e : (2 : Nat) ^ 52 * 2 ^ 52 = 2 ^ 104 := by decide
          omega
        have a3 : 2 ^ 55 * u ≤ 4 * (G * u + Y) + u := by
          refine Nat.le_of_mul_le_mul_right ?_ hG0
          have e1 : (4 * (G * u + Y) + u) * G = 4 * (G * G) * u + 4 * Y * G + G * u := by
            simp only [Nat.add_mul, Nat.mul_add]
            have : 4 * (G * u) * G = 4 * (G * G) * u := by ac_rfl
            have : 4 * Y * G = 4 * Y * G := rfl
            have : u * G = G * u := Nat.mul_comm _ _
            omega
          rw [e1]
          have e2 : 4 * (2 ^ 53 * G) * u ≤ 4 * (G * G + M) * u := Nat.mul_le_mul_right _ (Nat.mul_le_mul_left _ a2)
          have e3 : 2 ^ 55 * u * G = 4 * (2 ^ 53 * G) * u := by
            have : (2 : Nat) ^ 55 = 4 * 2 ^ 53 := by decide
            rw [this]
            ac_rfl
          have e4 : 4 * (G * G + M) * u = 4 * (G * G) * u + 4 * M * u := by rw [Nat.mul_add, Nat.add_mul]
          omega
        have a4 : 2 ^ 52 * u ≤ S := by omega
        obtain ⟨k, hk⟩ := hD1 a4
        have a5 : 2 ^ 55 * u ≤ 4 * S + 3 * u := by omega
        have a6 : (2 ^ 55) * u ≤ (4 * k + 3) * u := by
          rw [Nat.add_mul]
          have : 4 * k * u = 4 * S := by rw [hk, Nat.mul_assoc, Nat.mul_comm k u]
          omega
        have a7 := Nat.le_of_mul_le_mul_right a6 hu
        rw [hk, Nat.mul_comm]
        exact Nat.mul_le_mul_left _ (by omega)
      · exact hS4 h2
    · refine hS4 ?_
      have a0 := hY5 h
      have a1 : 2 ^ 52 * u ≤ G * u := Nat.mul_le_mul_right _ hG1
      omega
  obtain ⟨G', hG'⟩ := hD2 hS53
  have hSe : S = G' * u * 2 := by rw [hG']; ac_rfl
  refine ⟨G', hSe, ?_, ?_, ?_⟩
  · have : (2 ^ 52) * u ≤ G' * u := by omega
    exact Nat.le_of_mul_le_mul_right this hu
  · -- above
    refine Nat.le_of_mul_le_mul_right (c := 2 * u) ?_ (by omega)
    have b1 : 2 * (G' * u) ≤ G * u + Y + 2 * u := by omega
    have b2 : 2 * G * (2 * (G' * u)) ≤ 2 * G * (G * u + Y + 2 * u) := Nat.mul_le_mul_left _ b1
    have e1 : 2 * (G * G') * (2 * u) = 2 * G * (2 * (G' * u)) := by ac_rfl
    have e2 : 2 * G * (G * u + Y + 2 * u) = 2 * (G * G) * u + 2 * Y * G + 4 * (G * u) := by
      simp only [Nat.mul_add]
      have h1 : 2 * G * (G * u) = 2 * (G * G) * u := by ac_rfl
      have h2 : 2 * G * Y = 2 * Y * G := by ac_rfl
      have h3 : 2 * G * (2 * u) = 4 * (G * u) := by rw [show (4 : Nat) = 2 * 2 from rfl]; ac_rfl
      omega
    have e3 : (G * G + M + 3 * G) * (2 * u) = 2 * (G * G) * u + 2 * M * u + 6 * (G * u) := by
      simp only [Nat.add_mul]
      have h1 : G * G * (2 * u) = 2 * (G * G) * u := by ac_rfl
      have h2 : M * (2 * u) = 2 * M * u := by ac_rfl
      have h3 : 3 * G * (2 * u) = 6 * (G * u) := by rw [show (6 : Nat) = 3 * 2 from rfl]; ac_rfl
      omega
    have e4 : 2 * G * u = 2 * (G * u) := Nat.mul_assoc _ _ _
    omega
  · intro hR hR53
    have hsq := nw_sq G R
    have hP : ∀ {a b : Nat}, 2 * (G * a) ≤ 2 * (G * b) → a ≤ b := fun h => Nat.le_of_mul_le_mul_left (by omega : G * _ ≤ G * _) hG0
    rcases Nat.lt_or_ge (G * u + Y) (2 ^ 54 * u) with h | h
    · have c0 := hS1 h
      have c1 : G * u + Y ≤ 2 * (G' * u) + u := by omega
      have c2 : 2 * G * (G * u + Y) ≤ 2 * G * (2 * (G' * u) + u) := Nat.mul_le_mul_left _ c1
      have e2 : 2 * G * (G * u + Y) = 2 * (G * G) * u + 2 * Y * G := by
        simp only [Nat.mul_add]
        have h1 : 2 * G * (G * u) = 2 * (G * G) * u := by ac_rfl
        have h2 : 2 * G * Y = 2 * Y * G := by ac_rfl
        omega
      have e3 : 2 * G * (2 * (G' * u) + u) = 4 * (G * G') * u + 2 * (G * u) := by
        simp only [Nat.mul_add]
        have h1 : 2 * G * (2 * (G' * u)) = 4 * (G * G') * u := by rw [show (4 : Nat) = 2 * 2 from rfl]; ac_rfl
        have h2 : 2 * G * u = 2 * (G * u) := Nat.mul_assoc _ _ _
        omega
      have e4 : 2 * G * u = 2 * (G * u) := Nat.mul_assoc _ _ _
      constructor
      · have c3 : (2 * (G * G) + 2 * M) * u ≤ (4 * (G * G') + 4 * G) * u := by
          simp only [Nat.add_mul]
          have h3 : 4 * G * u = 4 * (G * u) := Nat.mul_assoc _ _ _
          omega
        have c4 := Nat.le_of_mul_le_mul_right c3 hu
        refine hP ?_
        have e5 : G * (G' + 1) = G * G' + G := by rw [Nat.mul_add, Nat.mul_one]
        omega
      · intro hRG
        rcases Nat.lt_or_ge M (G * 2 ^ 53) with h2 | h2
        · have c5 := hY1 h2
          have c3 : (2 * (G * G) + 2 * M) * u ≤ (4 * (G * G') + 3 * G) * u := by
            simp only [Nat.add_mul]
            have h3 : 3 * G * u = 3 * (G * u) := Nat.mul_assoc _ _ _
            omega
          have c4 := Nat.le_of_mul_le_mul_right c3 hu
          refine Nat.le_of_not_lt fun hlt => ?_
          have c6 : G * (G' + 1) ≤ G * R := Nat.mul_le_mul_left _ hlt
          rw [Nat.mul_add, Nat.mul_one] at c6
          omega
        · have c5 := hY4 h2
          have c6 : (G + 2 ^ 53) * u ≤ (2 * G' + 1) * u := by
            simp only [Nat.add_mul, Nat.one_mul]
            have h3 : 2 * G' * u = 2 * (G' * u) := Nat.mul_assoc _ _ _
            omega
          have c7 := Nat.le_of_mul_le_mul_right c6 hu
          omega
    · have c0 := hS2 h
      have c1 : (2 ^ 53) * u ≤ G' * u := by omega
      have c2 := Nat.le_of_mul_le_mul_right c1 hu
      exact ⟨by omega, fun _ => by omega⟩
theorem nw_D {G G' R M D K : Nat} (h : 2 * (G * G') ≤ G * G + M + 3 * G) (hM : M ≤ R * R + 2 * R) (h1 : G ≤ R + D) (h2 : R ≤ G + D) (hG : 2 ^ 52 ≤ G) (hR : R < 2 ^ 53) (hK : D * D ≤ 2 ^ 53 * K) : G' ≤ R + K + 4 := by
  refine Nat.le_of_not_lt fun hlt => ?_
  have a1 : G * (R + K + 5) ≤ G * G' := Nat.mul_le_mul_left _ hlt
  have a2 : G * (R + K + 5) = G * R + G * K + 5 * G := by simp only [Nat.mul_add]; omega
  have a3 : 2 ^ 52 * K ≤ G * K := Nat.mul_le_mul_right _ hG
  have a4 : G * G + R * R ≤ 2 * (G * R) + D * D := by
    rcases Nat.le_total G R with hh | hh
    · obtain ⟨d, rfl⟩ : ∃ d, R = G + d := ⟨R - G, by omega⟩
      have : d * d ≤ D * D := Nat.mul_le_mul (by omega) (by omega)
      simp only [Nat.mul_add, Nat.add_mul, Nat.mul_comm d G]
      omega
    · obtain ⟨d, rfl⟩ : ∃ d, G = R + d := ⟨G - R, by omega⟩
      have : d * d ≤ D * D := Nat.mul_le_mul (by omega) (by omega)
      simp only [Nat.mul_add, Nat.add_mul, Nat.mul_comm d R]
      omega
  omega
theorem nw_bnd {A B : Nat} {a : Nat} (h : A ≤ B * 2 ^ a) (ha : a ≤ 2096) (hB : 0 < B) : A < B * 2 ^ 2097 := rn_2097 hB h ha
set_option maxRecDepth 100000 in
/-- one step, in doubles -/
theorem nw_step {x g : UInt64} {N G : Nat} (hx : dv x N 1022) (hN1 : 2 ^ 52 ≤ N) (hN2 : N < 2 ^ 54) (hg : dv g G 1022) (hG1 : 2 ^ 52 ≤ G) (hG2 : G < 2 ^ 54) :
    FP.Core.DFin (FP.ddiv x g) ∧ FP.Core.DFin (FP.dadd g (FP.ddiv x g)) ∧ ∃ G' : Nat, dv (FP.ddiv (FP.dadd g (FP.ddiv x g)) 4611686018427387904) G' 1022 ∧ 2 ^ 52 ≤ G' ∧ 2 * (G * G') ≤ G * G + N * 2 ^ 52 + 3 * G ∧ ∀ R : Nat, R * R ≤ N * 2 ^ 52 → R + 1 ≤ 2 ^ 53 → R ≤ G' + 1 ∧ (R ≤ G + 1 → R ≤ G') := by
  have p74 : (2 : Nat) ^ 1074 = 2 ^ 52 * 2 ^ 1022 := by rw [← Nat.pow_add]
  have p75 : (2 : Nat) ^ (1022 + 53) = 2 ^ 53 * 2 ^ 1022 := by rw [← Nat.pow_add]
  have p76 : (2 : Nat) ^ (1023 + 53) = 2 ^ 54 * 2 ^ 1022 := by rw [← Nat.pow_add]
  have p77 : (2 : Nat) ^ (1024 + 53) = 2 ^ 55 * 2 ^ 1022 := by rw [← Nat.pow_add]
  have p21 : (2 : Nat) ^ (1021 + 53) = 2 ^ 52 * 2 ^ 1022 := by rw [← Nat.pow_add]
  have p76' : (2 : Nat) ^ 1076 = 2 ^ 54 * 2 ^ 1022 := by rw [← Nat.pow_add]
  have p75' : (2 : Nat) ^ 1075 = 2 ^ 53 * 2 ^ 1022 := by rw [← Nat.pow_add]
  have p23 : (2 : Nat) ^ 1023 = 2 * 2 ^ 1022 := by rw [Nat.pow_succ]; omega
  have p24 : (2 : Nat) ^ 1024 = 4 * 2 ^ 1022 := by rw [Nat.pow_succ, p23]; omega
  have p22 : (2 : Nat) ^ 1022 = 2 * 2 ^ 1021 := by rw [Nat.pow_succ]; omega
  have hu : 0 < (2 : Nat) ^ 1022 := Nat.two_pow_pos _
  have hgp : 0 < fv g := dv_pos hg hG1
  have hxp : 0 < fv x := dv_pos hx hN1
  have hsg : (fv g).sign = 1 := Int.sign_eq_one_of_pos hgp
  have hgn : (fv g).natAbs = G * 2 ^ 1022 := by rw [hg.2, Int.natAbs_natCast]
  have hxn : (fv x).natAbs = N * 2 ^ 1022 := by rw [hx.2, Int.natAbs_natCast]
  have hB : 0 < G * 2 ^ 1022 := Nat.mul_pos (by omega) hu
  have hA54 : N * 2 ^ 1022 * 2 ^ 1074 ≤ G * 2 ^ 1022 * 2 ^ 1076 := by
    rw [p74, p76']
    generalize (2 : Nat) ^ 1022 = u
    calc N * u * (2 ^ 52 * u) = N * 2 ^ 52 * (u * u) := by ac_rfl
      _ ≤ G * 2 ^ 54 * (u * u) := Nat.mul_le_mul_right _ (by omega)
      _ = G * u * (2 ^ 54 * u) := by ac_rfl
  obtain ⟨y1, y2⟩ := fp_div hx.1 hg.1 (by omega) (by rw [hgn, hxn]; exact nw_bnd hA54 (by omega) hB)
  have y3 : fRn (N * 2 ^ 1022 * 2 ^ 1074) (G * 2 ^ 1022) (fv (FP.ddiv x g)).natAbs := by
    have := y2.1
    rw [hsg, Int.mul_one, Int.natAbs_mul, Int.natAbs_natCast, hgn, hxn] at this
    exact this
  have y4 : 0 ≤ fv (FP.ddiv x g) := y2.2.1 (by rw [hsg, Int.mul_one]; exact Int.mul_nonneg (by omega) (by omega))
  obtain ⟨Y, hY⟩ : ∃ Y : Nat, fv (FP.ddiv x g) = (Y : Int) := ⟨(fv (FP.ddiv x g)).toNat, by omega⟩
  rw [hY, Int.natAbs_natCast] at y3
  have hYu : Y ≤ 2 ^ 1076 := rn_up hB y3 hA54
  have hsum : fv g + fv (FP.ddiv x g) = ((G * 2 ^ 1022 + Y : Nat) : Int) := by rw [hg.2, hY]; omega
  have hs54 : G * 2 ^ 1022 + Y < 1 * 2 ^ (1024 + 53) := by
    rw [p77]
    rw [p76'] at hYu
    have : G * 2 ^ 1022 < 2 ^ 54 * 2 ^ 1022 := Nat.mul_lt_mul_of_pos_right hG2 hu
    generalize (2 : Nat) ^ 1022 = u at this hYu ⊢
    omega
  obtain ⟨s1, s2⟩ := fp_add hg.1 y1 (by
    rw [hsum, Int.natAbs_natCast]
    refine Nat.lt_of_lt_of_le hs54 ?_
    rw [Nat.one_mul]
    exact Nat.pow_le_pow_right (by omega) (by omega))
  have s3 : fRn (G * 2 ^ 1022 + Y) 1 (fv (FP.dadd g (FP.ddiv x g))).natAbs := by
    have := s2.1
    rw [hsum, Int.natAbs_natCast] at this
    exact this
  have s4 : 0 ≤ fv (FP.dadd g (FP.ddiv x g)) := s2.2.1 (by rw [hsum]; omega)
  obtain ⟨S, hS⟩ : ∃ S : Nat, fv (FP.dadd g (FP.ddiv x g)) = (S : Int) := ⟨(fv (FP.dadd g (FP.ddiv x g))).toNat, by omega⟩
  have hSn : (fv (FP.dadd g (FP.ddiv x g))).natAbs = S := by rw [hS, Int.natAbs_natCast]
  rw [hSn] at s3
  have hM1 : 2 ^ 104 ≤ N * 2 ^ 52 := by omega
  have hD1 : 2 ^ 52 * 2 ^ 1022 ≤ S → 2 ^ 1022 ∣ S := fun h => by
    rw [← hSn]
    refine fv_grid s1 (a := 1022) ?_
    rw [hSn, show (1022 + 52) = 1074 from rfl, p74]
    exact h
  have hD2 : 2 ^ 53 * 2 ^ 1022 ≤ S → 2 * 2 ^ 1022 ∣ S := fun h => by
    rw [← hSn, ← p23]
    refine fv_grid s1 (a := 1023) ?_
    rw [hSn, show (1023 + 52) = 1075 from rfl, p75']
    exact h
  have hY0 : N * 2 ^ 52 < G * 2 ^ 52 → 4 * (N * 2 ^ 52) * 2 ^ 1022 ≤ 4 * Y * G + G * 2 ^ 1022 := fun h => by
    have := (rn_err hB y3 (b := 1021) (by
      rw [p21]
      generalize (2 : Nat) ^ 1022 = u at hu ⊢
      calc N * u * (2 ^ 52 * u) = N * 2 ^ 52 * (u * u) := by ac_rfl
        _ < G * 2 ^ 52 * (u * u) := Nat.mul_lt_mul_of_pos_right h (Nat.mul_pos hu hu)
        _ = G * u * (2 ^ 52 * u) := by ac_rfl)).1
    rw [p74] at this
    refine nw_div hu ?_
    have e0 : G * 2 ^ 1022 * 2 ^ 1022 = 2 * (G * 2 ^ 1022 * 2 ^ 1021) := by
      have h5 := p22
      generalize (2 : Nat) ^ 1022 = u at h5 ⊢
      generalize (2 : Nat) ^ 1021 = w at h5 ⊢
      subst h5
      ac_rfl
    rw [e0]
    generalize (2 : Nat) ^ 1021 = w at this ⊢
    generalize (2 : Nat) ^ 1022 = u at this ⊢
    have e1 : 4 * (N * 2 ^ 52) * u * u = 2 * (2 * (N * u * (2 ^ 52 * u))) := by rw [show (4 : Nat) = 2 * 2 from rfl]; ac_rfl
    have e2 : 4 * Y * G * u = 2 * (2 * (Y * (G * u))) := by rw [show (4 : Nat) = 2 * 2 from rfl]; ac_rfl
    rw [e1, e2]
    omega
  have hY1 : N * 2 ^ 52 < G * 2 ^ 53 → 2 * (N * 2 ^ 52) * 2 ^ 1022 ≤ 2 * Y * G + G * 2 ^ 1022 := fun h => by
    have := (rn_err hB y3 (b := 1022) (by
      rw [p75, p74]
      generalize (2 : Nat) ^ 1022 = u at hu ⊢
      calc N * u * (2 ^ 52 * u) = N * 2 ^ 52 * (u * u) := by ac_rfl
        _ < G * 2 ^ 53 * (u * u) := Nat.mul_lt_mul_of_pos_right h (Nat.mul_pos hu hu)
        _ = G * u * (2 ^ 53 * u) := by ac_rfl)).1
    rw [p74] at this
    refine nw_div hu ?_
    generalize (2 : Nat) ^ 1022 = u at this ⊢
    have e1 : 2 * (N * 2 ^ 52) * u * u = 2 * (N * u * (2 ^ 52 * u)) := by ac_rfl
    have e2 : 2 * Y * G * u = 2 * (Y * (G * u)) := by ac_rfl
    rw [e1, e2]
    omega
  have hlt54 : N * 2 ^ 1022 * 2 ^ 1074 < G * 2 ^ 1022 * 2 ^ (1023 + 53) := by
    rw [p76, p74]
    generalize (2 : Nat) ^ 1022 = u at hu ⊢
    calc N * u * (2 ^ 52 * u) = N * 2 ^ 52 * (u * u) := by ac_rfl
      _ < G * 2 ^ 54 * (u * u) := Nat.mul_lt_mul_of_pos_right (by omega) (Nat.mul_pos hu hu)
      _ = G * u * (2 ^ 54 * u) := by ac_rfl
  have hY23 := rn_err hB y3 (b := 1023) hlt54
  rw [p74, p23] at hY23
  have hY2 : 2 * (N * 2 ^ 52) * 2 ^ 1022 ≤ 2 * Y * G + 2 * G * 2 ^ 1022 := by
    refine nw_div hu ?_
    have := hY23.1
    generalize (2 : Nat) ^ 1022 = u at this ⊢
    have e1 : 2 * (N * 2 ^ 52) * u * u = 2 * (N * u * (2 ^ 52 * u)) := by ac_rfl
    have e2 : 2 * Y * G * u = 2 * (Y * (G * u)) := by ac_rfl
    have e3 : 2 * G * u * u = G * u * (2 * u) := by ac_rfl
    rw [e1, e2, e3]
    exact this
  have hY3 : 2 * Y * G ≤ 2 * (N * 2 ^ 52) * 2 ^ 1022 + 2 * G * 2 ^ 1022 := by
    refine nw_div hu ?_
    have := hY23.2
    generalize (2 : Nat) ^ 1022 = u at this ⊢
    have e1 : 2 * (N * 2 ^ 52) * u * u = 2 * (N * u * (2 ^ 52 * u)) := by ac_rfl
    have e2 : 2 * Y * G * u = 2 * (Y * (G * u)) := by ac_rfl
    have e3 : 2 * G * u * u = G * u * (2 * u) := by ac_rfl
    rw [e1, e2, e3]
    exact this
  have hY4 : G * 2 ^ 53 ≤ N * 2 ^ 52 → 2 ^ 53 * 2 ^ 1022 ≤ Y := fun h => by
    have := rn_lo hB y3 (b := 1075) (by
      rw [p75', p74]
      generalize (2 : Nat) ^ 1022 = u at hu ⊢
      calc G * u * (2 ^ 53 * u) = G * 2 ^ 53 * (u * u) := by ac_rfl
        _ ≤ N * 2 ^ 52 * (u * u) := Nat.mul_le_mul_right _ h
        _ = N * u * (2 ^ 52 * u) := by ac_rfl)
    rw [p75'] at this
    exact this
  have hY5 : G * 2 ^ 52 ≤ N * 2 ^ 52 → 2 ^ 52 * 2 ^ 1022 ≤ Y := fun h => by
    have := rn_lo hB y3 (b := 1074) (by
      rw [p74]
      generalize (2 : Nat) ^ 1022 = u at hu ⊢
      calc G * u * (2 ^ 52 * u) = G * 2 ^ 52 * (u * u) := by ac_rfl
        _ ≤ N * 2 ^ 52 * (u * u) := Nat.mul_le_mul_right _ h
        _ = N * u * (2 ^ 52 * u) := by ac_rfl)
    rw [p74] at this
    exact this
  have hS1 : G * 2 ^ 1022 + Y < 2 ^ 54 * 2 ^ 1022 → 2 * (G * 2 ^ 1022 + Y) ≤ 2 * S + 2 * 2 ^ 1022 := fun h => by
    have := (rn_err (by omega) s3 (b := 1023) (by rw [Nat.one_mul, p76]; exact h)).1
    rw [p23, Nat.mul_one, Nat.one_mul] at this
    exact this
  have hS2 : 2 ^ 54 * 2 ^ 1022 ≤ G * 2 ^ 1022 + Y → 2 ^ 54 * 2 ^ 1022 ≤ S := fun h => by
    have := rn_lo (by omega) s3 (b := 1076) (by rw [Nat.one_mul, p76']; exact h)
    rw [p76'] at this
    exact this
  have hS3 : 2 * S ≤ 2 * (G * 2 ^ 1022 + Y) + 4 * 2 ^ 1022 := by
    have := (rn_err (by omega) s3 (b := 1024) hs54).2
    rw [p24, Nat.mul_one, Nat.one_mul] at this
    exact this
  have hS4 : 2 ^ 53 * 2 ^ 1022 ≤ G * 2 ^ 1022 + Y → 2 ^ 53 * 2 ^ 1022 ≤ S := fun h => by
    have := rn_lo (by omega) s3 (b := 1075) (by rw [Nat.one_mul, p75']; exact h)
    rw [p75'] at this
    exact this
  have hS5 : G * 2 ^ 1022 + Y < 2 ^ 53 * 2 ^ 1022 → 2 * (G * 2 ^ 1022 + Y) ≤ 2 * S + 2 ^ 1022 := fun h => by
    have := (rn_err (by omega) s3 (b := 1022) (by rw [Nat.one_mul, p75]; exact h)).1
    rw [Nat.mul_one, Nat.one_mul] at this
    exact this
  have key := fun R : Nat => nw_nat (R := R) hu hG1 hM1 hY0 hY1 hY2 hY3 hY4 hY5 hS1 hS2 hS3 hS4 hS5 hD1 hD2
  obtain ⟨G', e1, e2, e3, -⟩ := key 0
  refine ⟨y1, s1, G', ?_, e2, e3, fun R => ?_⟩
  · refine sc_dn (w := G' * 2 ^ 1022) (k := 1) s1 gf_2.1 (by rw [hS, e1]) fv_2 ?_
    have hb : G' * 2 ^ 1022 ≤ 2 ^ 54 * 2 ^ 1022 := by
      have h1 : S ≤ 2 ^ 1077 := by
        have := rn_up (b := 1077) (by omega) s3 (Nat.le_of_lt hs54)
        exact this
      have p77' : (2 : Nat) ^ 1077 = 2 ^ 55 * 2 ^ 1022 := by rw [← Nat.pow_add]
      rw [p77'] at h1
      generalize (2 : Nat) ^ 1022 = u at e1 h1 ⊢
      omega
    refine Nat.lt_of_le_of_lt hb ?_
    rw [← Nat.pow_add]
    exact Nat.pow_lt_pow_right (by omega) (by omega)
  · obtain ⟨G2, f1, -, -, f4⟩ := key R
    have : G2 = G' := by
      rw [e1] at f1
      have h1 : G' * 2 ^ 1022 = G2 * 2 ^ 1022 := by
        generalize (2 : Nat) ^ 1022 = u at f1 ⊢
        omega
      exact (Nat.eq_of_mul_eq_mul_right hu h1).symm
    subst this
    exact f4
