/-! THE CLASS'S ROOT: roundedRoot, rootOfPart, squareRoot -/
theorem rr_z {R M n : Nat} (h1 : R * R ≤ M) (h2 : M < (R + 1) * (R + 1)) (hR : R < 2 ^ 53) (hn : n ≤ 16) : -2 ^ 63 ≤ (M : Int) - (((R + n) * (R + n) : Nat) : Int) ∧ (M : Int) - (((R + n) * (R + n) : Nat) : Int) < 2 ^ 63 ∧ (1 ≤ n → (M : Int) - (((R + n) * (R + n) : Nat) : Int) < 0) := by
  have e1 : (R + n) * (R + n) = R * R + 2 * (R * n) + n * n := by simp only [Nat.add_mul, Nat.mul_add, Nat.mul_comm n R]; omega
  have e2 : (R + 1) * (R + 1) = R * R + 2 * R + 1 := by simp only [Nat.add_mul, Nat.mul_add, Nat.mul_one, Nat.one_mul]; omega
  have e3 : R * n ≤ R * 16 := Nat.mul_le_mul_left _ hn
  have e4 : n * n ≤ 16 * 16 := Nat.mul_le_mul hn hn
  have e5 : 1 ≤ n → R * 1 ≤ R * n ∧ 1 * 1 ≤ n * n := fun h => ⟨Nat.mul_le_mul_left _ h, Nat.mul_le_mul h h⟩
  rw [e1]
  rw [e2] at h2
  generalize R * n = a at e3 e5 ⊢
  generalize n * n = b at e4 e5 ⊢
  generalize R * R = r at h1 h2 ⊢
  refine ⟨by omega, by omega, fun h => ?_⟩
  have := e5 h
  omega
theorem iL_ge {z : Int} (h1 : -2 ^ 63 ≤ z) (h2 : z < 2 ^ 63) : (0 : Int64) ≤ Int64.ofInt z ↔ 0 ≤ z := by
  rw [Int64.le_iff_toInt_le, Int64.toInt_ofInt_of_le h1 h2]
  exact Iff.rfl
theorem iL_le {z : Int} {n : Nat} (h1 : -2 ^ 63 ≤ z) (h2 : z < 2 ^ 63) (hn : n < 2 ^ 62) : Int64.ofInt z ≤ lN n ↔ z ≤ (n : Int) := by
  rw [Int64.le_iff_toInt_le, Int64.toInt_ofInt_of_le h1 h2, pk_lT (by omega)]
theorem rr_step (M a : Nat) : Int64.ofInt ((M : Int) - (((a + 1) * (a + 1) : Nat) : Int)) + ((2 * lN a) + 1) = Int64.ofInt ((M : Int) - ((a * a : Nat) : Int)) := by
  rw [show (2 : Int64) * lN a = lN (2 * a) from lN_mul 2 a, lN_1, iL_of, ← Int64.ofInt_add]
  congr 1
  have e1 : (a + 1) * (a + 1) = a * a + 2 * a + 1 := by simp only [Nat.add_mul, Nat.mul_add, Nat.mul_one, Nat.one_mul]; omega
  rw [e1]
  omega
theorem rr_endA {M R : Nat} (h1 : R * R ≤ M) (hR : 1 ≤ R) (z : (M : Int) - ((R * R : Nat) : Int) ≤ (R : Int)) : R * R < M + R ∧ M ≤ R * R + R := by
  generalize R * R = r at h1 z ⊢
  omega
theorem rr_endB {M R : Nat} (h2 : M < (R + 1) * (R + 1)) (z : ¬ (M : Int) - ((R * R : Nat) : Int) ≤ (R : Int)) : (R + 1) * (R + 1) < M + (R + 1) ∧ M ≤ (R + 1) * (R + 1) + (R + 1) := by
  have e2 : (R + 1) * (R + 1) = R * R + 2 * R + 1 := by simp only [Nat.add_mul, Nat.mul_add, Nat.mul_one, Nat.one_mul]; omega
  rw [e2] at h2 ⊢
  generalize R * R = r at h2 z ⊢
  omega
theorem rr_start (N G : Nat) : (lN N <<< (Int32.toInt64 52 &&& 63)) - (lN G * lN G) = Int64.ofInt ((((N * 2 ^ 52 : Nat)) : Int) - ((G * G : Nat) : Int)) := by
  rw [lN_shl52, lN_mul, iL_of, iL_of, ← Int64.ofInt_sub]
set_option maxHeartbeats 4000000 in
set_option maxRecDepth 100000 in
theorem lpX1_rr {p : Program} {l : Launch} {e : Env} {R : Room} {s : State} {m : MethodId} {args : Array Value} {below : List Frame} {meth : Method} {c : Code} {H : Heap} {locs : List Loc} {cells slots : Nat} {Q : State → Prop} (hx : p.tables.exec = Jvm.exec) (hb : c.code = cX1_roundedRoot) (hown : s.vm.findClass RX1 = some m.cls) (hts : ∀ w ∈ wsX1_roundedRoot, w.before args s = true) {N G A : Nat} (h1 : A * A ≤ N * 2 ^ 52) (h2 : N * 2 ^ 52 < (A + 1) * (A + 1)) (hR : A < 2 ^ 53) (k : ∀ (i : Int32) (ls : Array Slot), lv_has ls 9 [(8, .int i), (6, .long (Int64.ofInt (((N * 2 ^ 52 : Nat) : Int) - (((A) * (A) : Nat) : Int)))), (4, .long (lN A)), (2, .long (lN G)), (0, .long (lN N))] → W p l e R s m args below meth c H locs cells slots Q (F0 m 57 ls [])) : ∀ (n k0 : Nat) (ls : Array Slot), k0 + n < 16 → lv_has ls 9 [(8, .int (nI k0)), (6, .long (Int64.ofInt (((N * 2 ^ 52 : Nat) : Int) - (((A + n) * (A + n) : Nat) : Int)))), (4, .long (lN (A + n))), (2, .long (lN G)), (0, .long (lN N))] → W p l e R s m args below meth c H locs cells slots Q (F0 m 18 ls []) := by
  intro n
  induction n with
  | zero =>
    intro k0 ls hk hl
    obtain ⟨z1, z2, -⟩ := rr_z (n := 0) h1 h2 hR (by omega)
    refine lv_iload hx hb dX1_roundedRoot_18 (lv_at hl 0 rfl) ?_
    refine lv_bipush (v := 16) hx hb dX1_roundedRoot_20 (by decide) ?_
    refine lv_icmp_ge (tgt := 57) hx hb dX1_roundedRoot_22 (by decide) (fun c1 => ?_) (fun c1 => ?_)
    · have i2 := Int32.not_lt.mpr c1
      exact absurd c1 (fun h => absurd ((nI_leI (a := 16) (by omega) (by omega)).mp h) (by omega))
    · have i3 := Int32.not_le.mp c1
      refine lv_lload hx hb dX1_roundedRoot_25 (lv_at hl 1 rfl) ?_
      refine lv_lconst (v := 0) hx hb dX1_roundedRoot_27 (by decide) ?_
      refine W.lcmp hx hb dX1_roundedRoot_28 ?_
      refine lv_if_ge (tgt := 57) hx hb dX1_roundedRoot_29 (by decide) (fun c4 => ?_) (fun c4 => ?_)
      · rw [lg_cmp_ge] at c4
        exact k _ ls (lv_sub hl [0, 1, 2, 3, 4] rfl)
      · rw [lg_cmp_ge] at c4
        exact absurd ((iL_ge z1 z2).mpr (by show (0 : Int) ≤ ((N * 2 ^ 52 : Nat) : Int) - ((A * A : Nat) : Int); omega)) c4
  | succ n ih =>
    intro k0 ls hk hl
    obtain ⟨z1, z2, z3⟩ := rr_z (n := n + 1) h1 h2 hR (by omega)
    refine lv_iload hx hb dX1_roundedRoot_18 (lv_at hl 0 rfl) ?_
    refine lv_bipush (v := 16) hx hb dX1_roundedRoot_20 (by decide) ?_
    refine lv_icmp_ge (tgt := 57) hx hb dX1_roundedRoot_22 (by decide) (fun c1 => ?_) (fun c1 => ?_)
    · have i2 := Int32.not_lt.mpr c1
      exact absurd c1 (fun h => absurd ((nI_leI (a := 16) (by omega) (by omega)).mp h) (by omega))
    · have i3 := Int32.not_le.mp c1
      refine lv_lload hx hb dX1_roundedRoot_25 (lv_at hl 1 rfl) ?_
      refine lv_lconst (v := 0) hx hb dX1_roundedRoot_27 (by decide) ?_
      refine W.lcmp hx hb dX1_roundedRoot_28 ?_
      refine lv_if_ge (tgt := 57) hx hb dX1_roundedRoot_29 (by decide) (fun c4 => ?_) (fun c4 => ?_)
      · rw [lg_cmp_ge] at c4
        exact absurd ((iL_ge z1 z2).mp c4) (Int.not_le.mpr (z3 (by omega)))
      · rw [lg_cmp_ge] at c4
        refine lv_lload hx hb dX1_roundedRoot_32 (lv_at hl 2 rfl) ?_
        refine lv_lconst (v := 1) hx hb dX1_roundedRoot_34 (by decide) ?_
        refine lv_lsub hx hb dX1_roundedRoot_35 ?_
        refine lv_lstore (lv' := [(4, .long ((lN (A + (n + 1))) - 1)), (8, .int (nI k0)), (6, .long (Int64.ofInt (((N * 2 ^ 52 : Nat) : Int) - (((A + (n + 1)) * (A + (n + 1)) : Nat) : Int)))), (2, .long (lN G)), (0, .long (lN N))]) hx hb dX1_roundedRoot_36 hl (by decide) rfl (fun ls hl => ?_)
        refine lv_lload hx hb dX1_roundedRoot_38 (lv_at hl 2 rfl) ?_
        refine lv_ldc2 hx hb hown (hts (.constantLong RX1 25 (2)) (by decide +kernel)) dX1_roundedRoot_40 ?_
        refine lv_lload hx hb dX1_roundedRoot_43 (lv_at hl 0 rfl) ?_
        refine lv_lmul hx hb dX1_roundedRoot_45 ?_
        refine lv_lconst (v := 1) hx hb dX1_roundedRoot_46 (by decide) ?_
        refine lv_ladd hx hb dX1_roundedRoot_47 ?_
        refine lv_ladd hx hb dX1_roundedRoot_48 ?_
        refine lv_lstore (lv' := [(6, .long ((Int64.ofInt (((N * 2 ^ 52 : Nat) : Int) - (((A + (n + 1)) * (A + (n + 1)) : Nat) : Int))) + ((2 * ((lN (A + (n + 1))) - 1)) + 1))), (4, .long ((lN (A + (n + 1))) - 1)), (8, .int (nI k0)), (2, .long (lN G)), (0, .long (lN N))]) hx hb dX1_roundedRoot_49 hl (by decide) rfl (fun ls hl => ?_)
        refine lv_iinc (v := (nI k0) + 1) (lv' := [(8, .int ((nI k0) + 1)), (6, .long ((Int64.ofInt (((N * 2 ^ 52 : Nat) : Int) - (((A + (n + 1)) * (A + (n + 1)) : Nat) : Int))) + ((2 * ((lN (A + (n + 1))) - 1)) + 1))), (4, .long ((lN (A + (n + 1))) - 1)), (2, .long (lN G)), (0, .long (lN N))]) hx hb dX1_roundedRoot_51 hl (k := 2) rfl rfl (by decide) rfl (fun ls hl => ?_)
        refine lv_goto (tgt := 18) hx hb dX1_roundedRoot_54 (by decide) ?_
        have h9 : lv_has ls 9 [(8, .int (nI (k0 + 1))), (6, .long (Int64.ofInt (((N * 2 ^ 52 : Nat) : Int) - (((A + n) * (A + n) : Nat) : Int)))), (4, .long (lN (A + n))), (2, .long (lN G)), (0, .long (lN N))] := by
          have h8 := (lv_sub hl [0, 1, 2, 3, 4] rfl)
          rw [nI_1, show lN (A + (n + 1)) - 1 = lN (A + n) from lN_sub (a := A + n + 1) (b := 1) (by omega)] at h8
          rw [show (Int64.ofInt (((N * 2 ^ 52 : Nat) : Int) - (((A + (n + 1)) * (A + (n + 1)) : Nat) : Int))) + ((2 * (lN (A + n))) + 1) = Int64.ofInt (((N * 2 ^ 52 : Nat) : Int) - (((A + n) * (A + n) : Nat) : Int)) from rr_step (N * 2 ^ 52) (A + n)] at h8
          exact h8
        exact ih (k0 + 1) ls (by omega) h9
set_option maxHeartbeats 4000000 in
set_option maxRecDepth 100000 in
theorem mX1_roundedRoot (l : Launch) (N G R : Nat)  (hN : N < 2 ^ 54) (h1 : R * R ≤ N * 2 ^ 52) (h2 : N * 2 ^ 52 < (R + 1) * (R + 1)) (hRp : 1 ≤ R) (hR : R < 2 ^ 53) (hG1 : R ≤ G) (hG2 : G ≤ R + 10) : Met l yX1_roundedRoot wsX1_roundedRoot ({ frames := 0, cells := 0, slots := 0, locals := 0 }) (va_Pc [.long (lN N), .long (lN G)] (fun _ => True)) (va_Ql (fun (r : Int64) (u : Unit) => ∃ Q : Nat, r = lN Q ∧ Q * Q < N * 2 ^ 52 + Q ∧ N * 2 ^ 52 ≤ Q * Q + Q) (fun _ _ => True) nA) 0 0 nA := by
  refine Met.ofW (cc := cX1_roundedRoot) (maxL := 9) (ret := (some .long)) (by decide) rfl ?_
  intro p e s m args below meth c s₁ B hml hv
  obtain ⟨rfl, -⟩ := hv
  have hx := B.exec
  have hb := B.bytes
  have hr := B.returns
  have hts := atoms_spec (ws := wsX1_roundedRoot) B.pre
  have hown : s.vm.findClass RX1 = some m.cls := findClass_of_methodNamed B.named
  have hlocks := B.notSynchronized
  have hS : va_S nA s.heap s.heap [] := va_S.rf
  have hl := lv_entry ([.long (lN N), .long (lN G)]) (n := 9) (Nat.le_of_ble_eq_true rfl)
  rw [lg_entry_eq]
  generalize (lg_sl ([.long (lN N), .long (lN G)]) ++ List.replicate (9 - (lg_sl ([.long (lN N), .long (lN G)])).length) Slot.unset).toArray = ls at hl ⊢
  have hl : lv_has ls 9 [(0, .long (lN N)), (2, .long (lN G))] := hl
  skip
  refine lv_lload_n hx hb dX1_roundedRoot_0 rfl (lv_at hl 1 rfl) ?_
  refine lv_lstore (lv' := [(4, .long (lN G)), (0, .long (lN N)), (2, .long (lN G))]) hx hb dX1_roundedRoot_1 hl (by decide) rfl (fun ls hl => ?_)
  refine lv_lload_n hx hb dX1_roundedRoot_3 rfl (lv_at hl 1 rfl) ?_
  refine lv_bipush (v := 52) hx hb dX1_roundedRoot_4 (by decide) ?_
  refine lv_lshl (v := (lN N) <<< (Int32.toInt64 52 &&& 63)) hx hb dX1_roundedRoot_6 rfl ?_
  refine lv_lload hx hb dX1_roundedRoot_7 (lv_at hl 0 rfl) ?_
  refine lv_lload hx hb dX1_roundedRoot_9 (lv_at hl 0 rfl) ?_
  refine lv_lmul hx hb dX1_roundedRoot_11 ?_
  refine lv_lsub hx hb dX1_roundedRoot_12 ?_
  refine lv_lstore (lv' := [(6, .long (((lN N) <<< (Int32.toInt64 52 &&& 63)) - ((lN G) * (lN G)))), (4, .long (lN G)), (0, .long (lN N)), (2, .long (lN G))]) hx hb dX1_roundedRoot_13 hl (by decide) rfl (fun ls hl => ?_)
  refine lv_iconst (v := 0) hx hb dX1_roundedRoot_15 (by decide) ?_
  refine lv_istore (lv' := [(8, .int 0), (6, .long (((lN N) <<< (Int32.toInt64 52 &&& 63)) - ((lN G) * (lN G)))), (4, .long (lN G)), (0, .long (lN N)), (2, .long (lN G))]) hx hb dX1_roundedRoot_16 hl (by decide) rfl (fun ls hl => ?_)
  obtain ⟨n, rfl⟩ : ∃ n, G = R + n := ⟨G - R, by omega⟩
  have h18 : lv_has ls 9 [(8, .int (nI 0)), (6, .long (Int64.ofInt (((N * 2 ^ 52 : Nat) : Int) - (((R + n) * (R + n) : Nat) : Int)))), (4, .long (lN (R + n))), (2, .long (lN (R + n))), (0, .long (lN N))] := by have h8 := (lv_sub hl [0, 1, 2, 4, 3] rfl); rw [rr_start] at h8; exact h8
  refine lpX1_rr hx hb hown hts h1 h2 hR (fun i9 ls hl => ?_) n 0 ls (by omega) h18
  obtain ⟨z1, z2, -⟩ := rr_z (n := 0) h1 h2 hR (by omega)
  refine lv_lload hx hb dX1_roundedRoot_57 (lv_at hl 1 rfl) ?_
  refine lv_lload hx hb dX1_roundedRoot_59 (lv_at hl 2 rfl) ?_
  refine W.lcmp hx hb dX1_roundedRoot_61 ?_
  refine lv_if_le (tgt := 72) hx hb dX1_roundedRoot_62 (by decide) (fun c1 => ?_) (fun c1 => ?_)
  · rw [lg_cmp_le] at c1
    refine lv_lload hx hb dX1_roundedRoot_72 (lv_at hl 2 rfl) ?_
    have hcmp := c1
    have hq : ∃ Q : Nat, lN R = lN Q ∧ Q * Q < N * 2 ^ 52 + Q ∧ N * 2 ^ 52 ≤ Q * Q + Q := ⟨R, rfl, rr_endA h1 hRp ((iL_le z1 z2 (by omega)).mp hcmp)⟩
    exact W.lret (v := lN R) hx hb hr (fun t ht hW => ⟨⟨lN R, (), rfl, hq, trivial⟩, hS.F ht⟩) hS.2.2 dX1_roundedRoot_74
  · rw [lg_cmp_le] at c1
    refine lv_lload hx hb dX1_roundedRoot_65 (lv_at hl 2 rfl) ?_
    refine lv_lconst (v := 1) hx hb dX1_roundedRoot_67 (by decide) ?_
    refine lv_ladd hx hb dX1_roundedRoot_68 ?_
    refine lv_goto (tgt := 74) hx hb dX1_roundedRoot_69 (by decide) ?_
    have hcmp := c1
    have hq : ∃ Q : Nat, (lN R) + 1 = lN Q ∧ Q * Q < N * 2 ^ 52 + Q ∧ N * 2 ^ 52 ≤ Q * Q + Q := ⟨R + 1, lN_1 R, rr_endB h2 (mt (iL_le z1 z2 (by omega)).mpr hcmp)⟩
    exact W.lret (v := (lN R) + 1) hx hb hr (fun t ht hW => ⟨⟨(lN R) + 1, (), rfl, hq, trivial⟩, hS.F ht⟩) hS.2.2 dX1_roundedRoot_74
set_option maxHeartbeats 4000000 in
set_option maxRecDepth 100000 in
theorem mX1_rootOfPart (l : Launch) (x : UInt64) (N : Nat)  (hx1 : dv x N 1022) (hN1 : 2 ^ 52 ≤ N) (hN2 : N < 2 ^ 54) : Met l yX1_rootOfPart wsX1_rootOfPart ({ frames := 1, cells := 0, slots := 0, locals := 28 }) (va_Pc [.double x] (fun _ => True)) (va_Qd (fun (r : UInt64) (u : Unit) => ∃ R : Nat, R * R < N * 2 ^ 52 + R ∧ N * 2 ^ 52 ≤ R * R + R ∧ dv r R 1022) (fun _ _ => True) nA) 0 0 nA := by
  refine Met.ofW (cc := cX1_rootOfPart) (maxL := 6) (ret := (some .double)) (by decide) rfl ?_
  intro p e s m args below meth c s₁ B hml hv
  obtain ⟨rfl, -⟩ := hv
  have hx := B.exec
  have hb := B.bytes
  have hr := B.returns
  have hts := atoms_spec (ws := wsX1_rootOfPart) B.pre
  have hown : s.vm.findClass RX1 = some m.cls := findClass_of_methodNamed B.named
  have hlocks := B.notSynchronized
  have hS : va_S nA s.heap s.heap [] := va_S.rf
  obtain ⟨s0, G0, hd0, ha0, hb0, hR0⟩ := nw_g0 hx1 hN1 hN2
  obtain ⟨R, hR1, hR2⟩ : ∃ R : Nat, R * R ≤ N * 2 ^ 52 ∧ N * 2 ^ 52 < (R + 1) * (R + 1) := ⟨_, FP.Core.sqrtFloor_spec (N * 2 ^ 52)⟩
  have hee : (R + 1) * (R + 1) = R * R + 2 * R + 1 := by (simp only [Nat.add_mul, Nat.mul_add, Nat.mul_one, Nat.one_mul]; omega)
  have hR2' : N * 2 ^ 52 ≤ R * R + 2 * R := by omega
  have hR3 : 2 ^ 52 ≤ R := by
    refine Nat.le_of_not_lt fun hlt => ?_
    have := Nat.mul_le_mul (show R + 1 ≤ 2 ^ 52 by omega) (show R + 1 ≤ 2 ^ 52 by omega)
    omega
  have hR4 : R + 1 ≤ 2 ^ 53 := by
    refine Nat.le_of_not_lt fun hlt => ?_
    have := Nat.mul_le_mul (show 2 ^ 53 ≤ R by omega) (show 2 ^ 53 ≤ R by omega)
    omega
  have hl := lv_entry ([.double x]) (n := 6) (Nat.le_of_ble_eq_true rfl)
  rw [lg_entry_eq]
  generalize (lg_sl ([.double x]) ++ List.replicate (6 - (lg_sl ([.double x])).length) Slot.unset).toArray = ls at hl ⊢
  have hl : lv_has ls 6 [(0, .double x)] := hl
  skip
  refine lv_dload_n hx hb dX1_rootOfPart_0 rfl (lv_at hl 0 rfl) ?_
  refine lv_ldc2d hx hb hown (hts (.constantDouble RX1 11 (4611686018427387904)) (by decide +kernel)) dX1_rootOfPart_1 ?_
  refine lv_dadd hx hb dX1_rootOfPart_4 (fp_n64 s0) ?_
  refine lv_ldc2d hx hb hown (hts (.constantDouble RX1 17 (4613937818241073152)) (by decide +kernel)) dX1_rootOfPart_5 ?_
  refine lv_ddiv hx hb dX1_rootOfPart_8 (fp_n64 hd0.1) ?_
  refine lv_topd (fun gs0 egs0 => ?_)
  rw [← egs0] at hd0
  refine lv_dstore_n (lv' := [(2, .double gs0), (0, .double x)]) hx hb dX1_rootOfPart_9 rfl hl (by decide) rfl (fun ls hl => ?_)
  refine lv_iconst (v := 0) hx hb dX1_rootOfPart_10 (by decide) ?_
  refine lv_istore (lv' := [(4, .int 0), (2, .double gs0), (0, .double x)]) hx hb dX1_rootOfPart_11 hl (by decide) rfl (fun ls hl => ?_)
  refine lv_iload hx hb dX1_rootOfPart_13 (lv_at hl 0 rfl) ?_
  refine lv_iconst (v := 4) hx hb dX1_rootOfPart_15 (by decide) ?_
  refine lv_icmp_ge (tgt := 35) hx hb dX1_rootOfPart_16 (by decide) (fun c6 => absurd c6 (by decide)) (fun _ => ?_)
  obtain ⟨y1, s1, G1, hd1, ha1, hb1, hc1⟩ := nw_it1 hx1 hN1 hN2 hR1 hR2' (by omega) hd0 ha0 hb0 (hR0 R hR1 hR2' hR3 hR4).1 (hR0 R hR1 hR2' hR3 hR4).2
  refine lv_dload_n hx hb dX1_rootOfPart_19 rfl (lv_at hl 1 rfl) ?_
  refine lv_dload_n hx hb dX1_rootOfPart_20 rfl (lv_at hl 2 rfl) ?_
  refine lv_dload_n hx hb dX1_rootOfPart_21 rfl (lv_at hl 1 rfl) ?_
  refine lv_ddiv hx hb dX1_rootOfPart_22 (fp_n64 y1) ?_
  refine lv_dadd hx hb dX1_rootOfPart_23 (fp_n64 s1) ?_
  refine lv_ldc2d hx hb hown (hts (.constantDouble RX1 11 (4611686018427387904)) (by decide +kernel)) dX1_rootOfPart_24 ?_
  refine lv_ddiv hx hb dX1_rootOfPart_27 (fp_n64 hd1.1) ?_
  refine lv_topd (fun gs1 egs1 => ?_)
  rw [← egs1] at hd1
  refine lv_dstore_n (lv' := [(2, .double gs1), (4, .int 0), (0, .double x)]) hx hb dX1_rootOfPart_28 rfl hl (by decide) rfl (fun ls hl => ?_)
  refine lv_iinc (v := 1) (lv' := [(4, .int 1), (2, .double gs1), (0, .double x)]) hx hb dX1_rootOfPart_29 hl (k := 1) rfl (by decide) (by decide) rfl (fun ls hl => ?_)
  refine lv_goto (tgt := 13) hx hb dX1_rootOfPart_32 (by decide) ?_
  refine lv_iload hx hb dX1_rootOfPart_13 (lv_at hl 0 rfl) ?_
  refine lv_iconst (v := 4) hx hb dX1_rootOfPart_15 (by decide) ?_
  refine lv_icmp_ge (tgt := 35) hx hb dX1_rootOfPart_16 (by decide) (fun c14 => absurd c14 (by decide)) (fun _ => ?_)
  obtain ⟨y2, s2, G2, hd2, ha2, hb2, hc2⟩ := nw_it (2 ^ 45 + 4) (2 ^ 37 + 1) hx1 hN1 hN2 hR1 hR2' hR4 (by decide) (by decide) (by decide) hd1 ha1 hb1 hc1
  refine lv_dload_n hx hb dX1_rootOfPart_19 rfl (lv_at hl 1 rfl) ?_
  refine lv_dload_n hx hb dX1_rootOfPart_20 rfl (lv_at hl 2 rfl) ?_
  refine lv_dload_n hx hb dX1_rootOfPart_21 rfl (lv_at hl 1 rfl) ?_
  refine lv_ddiv hx hb dX1_rootOfPart_22 (fp_n64 y2) ?_
  refine lv_dadd hx hb dX1_rootOfPart_23 (fp_n64 s2) ?_
  refine lv_ldc2d hx hb hown (hts (.constantDouble RX1 11 (4611686018427387904)) (by decide +kernel)) dX1_rootOfPart_24 ?_
  refine lv_ddiv hx hb dX1_rootOfPart_27 (fp_n64 hd2.1) ?_
  refine lv_topd (fun gs2 egs2 => ?_)
  rw [← egs2] at hd2
  refine lv_dstore_n (lv' := [(2, .double gs2), (4, .int 1), (0, .double x)]) hx hb dX1_rootOfPart_28 rfl hl (by decide) rfl (fun ls hl => ?_)
  refine lv_iinc (v := 2) (lv' := [(4, .int 2), (2, .double gs2), (0, .double x)]) hx hb dX1_rootOfPart_29 hl (k := 1) rfl (by decide) (by decide) rfl (fun ls hl => ?_)
  refine lv_goto (tgt := 13) hx hb dX1_rootOfPart_32 (by decide) ?_
  refine lv_iload hx hb dX1_rootOfPart_13 (lv_at hl 0 rfl) ?_
  refine lv_iconst (v := 4) hx hb dX1_rootOfPart_15 (by decide) ?_
  refine lv_icmp_ge (tgt := 35) hx hb dX1_rootOfPart_16 (by decide) (fun c22 => absurd c22 (by decide)) (fun _ => ?_)
  obtain ⟨y3, s3, G3, hd3, ha3, hb3, hc3⟩ := nw_it (2 ^ 37 + 5) (2 ^ 21 + 1) hx1 hN1 hN2 hR1 hR2' hR4 (by decide) (by decide) (by decide) hd2 ha2 hb2 (Nat.le_succ_of_le hc2)
  refine lv_dload_n hx hb dX1_rootOfPart_19 rfl (lv_at hl 1 rfl) ?_
  refine lv_dload_n hx hb dX1_rootOfPart_20 rfl (lv_at hl 2 rfl) ?_
  refine lv_dload_n hx hb dX1_rootOfPart_21 rfl (lv_at hl 1 rfl) ?_
  refine lv_ddiv hx hb dX1_rootOfPart_22 (fp_n64 y3) ?_
  refine lv_dadd hx hb dX1_rootOfPart_23 (fp_n64 s3) ?_
  refine lv_ldc2d hx hb hown (hts (.constantDouble RX1 11 (4611686018427387904)) (by decide +kernel)) dX1_rootOfPart_24 ?_
  refine lv_ddiv hx hb dX1_rootOfPart_27 (fp_n64 hd3.1) ?_
  refine lv_topd (fun gs3 egs3 => ?_)
  rw [← egs3] at hd3
  refine lv_dstore_n (lv' := [(2, .double gs3), (4, .int 2), (0, .double x)]) hx hb dX1_rootOfPart_28 rfl hl (by decide) rfl (fun ls hl => ?_)
  refine lv_iinc (v := 3) (lv' := [(4, .int 3), (2, .double gs3), (0, .double x)]) hx hb dX1_rootOfPart_29 hl (k := 1) rfl (by decide) (by decide) rfl (fun ls hl => ?_)
  refine lv_goto (tgt := 13) hx hb dX1_rootOfPart_32 (by decide) ?_
  refine lv_iload hx hb dX1_rootOfPart_13 (lv_at hl 0 rfl) ?_
  refine lv_iconst (v := 4) hx hb dX1_rootOfPart_15 (by decide) ?_
  refine lv_icmp_ge (tgt := 35) hx hb dX1_rootOfPart_16 (by decide) (fun c30 => absurd c30 (by decide)) (fun _ => ?_)
  obtain ⟨y4, s4, G4, hg4, ha4, hb4, hc4⟩ := nw_it (2 ^ 21 + 5) (1) hx1 hN1 hN2 hR1 hR2' hR4 (by decide) (by decide) (by decide) hd3 ha3 hb3 (Nat.le_succ_of_le hc3)
  refine lv_dload_n hx hb dX1_rootOfPart_19 rfl (lv_at hl 1 rfl) ?_
  refine lv_dload_n hx hb dX1_rootOfPart_20 rfl (lv_at hl 2 rfl) ?_
  refine lv_dload_n hx hb dX1_rootOfPart_21 rfl (lv_at hl 1 rfl) ?_
  refine lv_ddiv hx hb dX1_rootOfPart_22 (fp_n64 y4) ?_
  refine lv_dadd hx hb dX1_rootOfPart_23 (fp_n64 s4) ?_
  refine lv_ldc2d hx hb hown (hts (.constantDouble RX1 11 (4611686018427387904)) (by decide +kernel)) dX1_rootOfPart_24 ?_
  refine lv_ddiv hx hb dX1_rootOfPart_27 (fp_n64 hg4.1) ?_
  refine lv_topd (fun gs4 egs4 => ?_)
  rw [← egs4] at hg4
  refine lv_dstore_n (lv' := [(2, .double gs4), (4, .int 3), (0, .double x)]) hx hb dX1_rootOfPart_28 rfl hl (by decide) rfl (fun ls hl => ?_)
  refine lv_iinc (v := 4) (lv' := [(4, .int 4), (2, .double gs4), (0, .double x)]) hx hb dX1_rootOfPart_29 hl (k := 1) rfl (by decide) (by decide) rfl (fun ls hl => ?_)
  refine lv_goto (tgt := 13) hx hb dX1_rootOfPart_32 (by decide) ?_
  refine lv_iload hx hb dX1_rootOfPart_13 (lv_at hl 0 rfl) ?_
  refine lv_iconst (v := 4) hx hb dX1_rootOfPart_15 (by decide) ?_
  refine lv_icmp_ge (tgt := 35) hx hb dX1_rootOfPart_16 (by decide) (fun _ => ?_) (fun c38 => absurd c38 (by decide))
  refine lv_dload_n hx hb dX1_rootOfPart_35 rfl (lv_at hl 2 rfl) ?_
  refine lv_ldc2d hx hb hown (hts (.constantDouble RX1 19 (4841369599423283200)) (by decide +kernel)) dX1_rootOfPart_36 ?_
  have g39 := nw_unit hx1 (by omega)
  refine lv_dmul hx hb dX1_rootOfPart_39 (fp_n64 g39.1) ?_
  refine lv_topd (fun v40 ev40 => ?_)
  rw [← ev40] at g39
  refine lv_d2l hx hb dX1_rootOfPart_40 ?_
  rw [fv_d2l g39.1 g39.2 (by omega)]
  refine lv_dload_n hx hb dX1_rootOfPart_41 rfl (lv_at hl 1 rfl) ?_
  refine lv_ldc2d hx hb hown (hts (.constantDouble RX1 19 (4841369599423283200)) (by decide +kernel)) dX1_rootOfPart_42 ?_
  have g41 := nw_unit hg4 (by omega)
  refine lv_dmul hx hb dX1_rootOfPart_45 (fp_n64 g41.1) ?_
  refine lv_topd (fun v42 ev42 => ?_)
  rw [← ev42] at g41
  refine lv_d2l hx hb dX1_rootOfPart_46 ?_
  rw [fv_d2l g41.1 g41.2 (by omega)]
  have hd4 : R ≤ G4 := hc4
  refine va_calll (va_runS (As := [.long (lN N), .long (lN G4)]) (rest := []) ⟨hx, hb, hml, hown, hts⟩ (mX1_roundedRoot l N G4 R hN2 hR1 hR2 (by omega) (by omega) hd4 (by omega)) (va_cwS 2 hts gX1_rootOfPart_X1_roundedRoot rfl rfl rfl (by decide +kernel) ⟨Nat.le_of_ble_eq_true rfl, Nat.le_of_ble_eq_true rfl⟩) ⟨tB_blind, tB_go⟩ rfl rfl hl.1 rfl (lv_room (Nat.le_of_ble_eq_true rfl)) dX1_rootOfPart_47 ⟨Nat.le_of_ble_eq_true rfl, Nat.le_of_ble_eq_true rfl⟩) hS (fun q _ h => h.elim) (fun q h => h.elim) (fun r43 u44 t H locs ht hvm hp45 hB hz1 hk1 hS => ?_)
  obtain ⟨R9, rfl, hq1, hq2⟩ := hp45
  have hR9 : R9 ≤ 2 ^ 53 := rt_sq_le (by omega) hq1
  have hfin : FP.Core.DFin (FP.l2d (lN R9)) ∧ True := ⟨nw_fin hR9, trivial⟩
  refine lv_lstore (lv' := [(4, .long (lN R9)), (2, .double gs4), (0, .double x)]) hx hb dX1_rootOfPart_50 hl (by decide) rfl (fun ls hl => ?_)
  refine lv_lload hx hb dX1_rootOfPart_52 (lv_at hl 0 rfl) ?_
  refine lv_l2d hx hb dX1_rootOfPart_54 ?_
  refine lv_ldc2d hx hb hown (hts (.constantDouble RX1 19 (4841369599423283200)) (by decide +kernel)) dX1_rootOfPart_55 ?_
  have g46 := nw_back hR9
  refine lv_ddiv hx hb dX1_rootOfPart_58 (fp_n64 g46.1) ?_
  refine lv_topd (fun v47 ev47 => ?_)
  rw [← ev47] at g46
  exact W.dret (v := v47) hx hb hr (fun t ht hW => ⟨⟨v47, (), rfl, ⟨R9, hq1, hq2, g46⟩, trivial⟩, hS.F ht⟩) hS.2.2 dX1_rootOfPart_59
theorem s1_dn {x : UInt64} {N n : Nat} (hd : dv x N (2 * (511 + (n + 1)))) (hN : N < 2 ^ 54) (hn : n ≤ 510) : dv (FP.ddiv x 4616189618054758400) N (2 * (511 + n)) := by
  refine sc_dn (w := N * 2 ^ (2 * (511 + n))) (k := 2) hd.1 gf_4.1 ?_ fv_4 ?_
  · rw [hd.2, Nat.mul_assoc, ← Nat.pow_add, show 2 * (511 + (n + 1)) = 2 * (511 + n) + 2 by omega]
  · refine Nat.lt_of_lt_of_le (Nat.mul_lt_mul_of_pos_right hN (Nat.two_pow_pos _)) ?_
    rw [← Nat.pow_add]
    exact Nat.pow_le_pow_right (by omega) (by omega)
theorem s1_up {x : UInt64} {N i j : Nat} (hd : dv x N (2 * i)) (hN : N < 2 ^ 54) (hij : j = i + 1) (hj : j ≤ 1000) : dv (FP.dmul x 4616189618054758400) N (2 * j) := by
  have h := sc_up (n := N * 2 ^ (2 * i)) (k := 2) hd.1 gf_4.1 hd.2 fv_4 (by
    rw [Nat.mul_assoc, ← Nat.pow_add]
    refine Nat.lt_of_lt_of_le (Nat.mul_lt_mul_of_pos_right hN (Nat.two_pow_pos _)) ?_
    rw [← Nat.pow_add]
    exact Nat.pow_le_pow_right (by omega) (by omega))
  rw [Nat.mul_assoc, ← Nat.pow_add, show 2 * i + 2 = 2 * j by omega] at h
  exact h
set_option maxHeartbeats 4000000 in
set_option maxRecDepth 100000 in
theorem lpX1_s1 {p : Program} {l : Launch} {e : Env} {R : Room} {s : State} {m : MethodId} {args : Array Value} {below : List Frame} {meth : Method} {c : Code} {H : Heap} {locs : List Loc} {cells slots : Nat} {Q : State → Prop} (hx : p.tables.exec = Jvm.exec) (hb : c.code = cX1_squareRoot) (hown : s.vm.findClass RX1 = some m.cls) (hts : ∀ w ∈ wsX1_squareRoot, w.before args s = true) {x : UInt64} {N e1 : Nat} (hN1 : 2 ^ 52 ≤ N) (hN2 : N < 2 ^ 54) (k : ∀ (part sc : UInt64) (i : Int32) (ls : Array Slot), dv part N 1022 → dv sc 1 e1 → lv_has ls 7 [(6, .int i), (4, .double sc), (2, .double part), (0, .double x)] → W p l e R s m args below meth c H locs cells slots Q (F0 m 52 ls [])) : ∀ (n k0 e0 : Nat) (part sc : UInt64) (ls : Array Slot), dv part N (2 * (511 + n)) → dv sc 1 e0 → k0 + n < 1100 → e0 + n = e1 ∧ e1 < 2000 ∧ n ≤ 511 → lv_has ls 7 [(6, .int (nI k0)), (4, .double sc), (2, .double part), (0, .double x)] → W p l e R s m args below meth c H locs cells slots Q (F0 m 16 ls []) := by
  intro n
  induction n with
  | zero =>
    intro k0 e0 part sc ls hd hs hk he hl
    have hee : e0 = e1 := by omega
    subst hee
    have hd : dv part N 1022 := hd
    refine lv_iload hx hb dX1_squareRoot_16 (lv_at hl 0 rfl) ?_
    refine lv_sipush (v := 1100) hx hb dX1_squareRoot_18 (by decide) ?_
    refine lv_icmp_ge (tgt := 52) hx hb dX1_squareRoot_21 (by decide) (fun c1 => ?_) (fun c1 => ?_)
    · have i2 := Int32.not_lt.mpr c1
      exact absurd c1 (fun h => absurd ((nI_leI (a := 1100) (by omega) (by omega)).mp h) (by omega))
    · have i3 := Int32.not_le.mp c1
      refine lv_dload_n hx hb dX1_squareRoot_24 rfl (lv_at hl 2 rfl) ?_
      refine lv_ldc2d hx hb hown (hts (.constantDouble RX1 9 (4616189618054758400)) (by decide +kernel)) dX1_squareRoot_25 ?_
      refine lv_dcmp hx hb dX1_squareRoot_28 ?_
      rw [fp_cv hd.1 gf_4.1]
      refine lv_if_lt (tgt := 52) hx hb dX1_squareRoot_29 (by decide) (fun c4 => ?_) (fun c4 => ?_)
      · rw [fcv_lt] at c4
        exact k part sc _ ls hd hs (lv_sub hl [0, 1, 2, 3] rfl)
      · rw [fcv_lt] at c4
        exact absurd (dv_ltw hd fv_4 hN2 (by omega)) c4
  | succ n ih =>
    intro k0 e0 part sc ls hd hs hk he hl
    refine lv_iload hx hb dX1_squareRoot_16 (lv_at hl 0 rfl) ?_
    refine lv_sipush (v := 1100) hx hb dX1_squareRoot_18 (by decide) ?_
    refine lv_icmp_ge (tgt := 52) hx hb dX1_squareRoot_21 (by decide) (fun c1 => ?_) (fun c1 => ?_)
    · have i2 := Int32.not_lt.mpr c1
      exact absurd c1 (fun h => absurd ((nI_leI (a := 1100) (by omega) (by omega)).mp h) (by omega))
    · have i3 := Int32.not_le.mp c1
      refine lv_dload_n hx hb dX1_squareRoot_24 rfl (lv_at hl 2 rfl) ?_
      refine lv_ldc2d hx hb hown (hts (.constantDouble RX1 9 (4616189618054758400)) (by decide +kernel)) dX1_squareRoot_25 ?_
      refine lv_dcmp hx hb dX1_squareRoot_28 ?_
      rw [fp_cv hd.1 gf_4.1]
      refine lv_if_lt (tgt := 52) hx hb dX1_squareRoot_29 (by decide) (fun c4 => ?_) (fun c4 => ?_)
      · rw [fcv_lt] at c4
        exact absurd c4 (dv_ge hd fv_4 hN1 (by omega))
      · rw [fcv_lt] at c4
        refine lv_dload_n hx hb dX1_squareRoot_32 rfl (lv_at hl 2 rfl) ?_
        refine lv_ldc2d hx hb hown (hts (.constantDouble RX1 9 (4616189618054758400)) (by decide +kernel)) dX1_squareRoot_33 ?_
        have g5 := s1_dn hd hN2 (by omega)
        refine lv_ddiv hx hb dX1_squareRoot_36 (fp_n64 g5.1) ?_
        refine lv_topd (fun v6 ev6 => ?_)
        rw [← ev6] at g5
        refine lv_dstore_n (lv' := [(2, .double v6), (6, .int (nI k0)), (4, .double sc), (0, .double x)]) hx hb dX1_squareRoot_37 rfl hl (by decide) rfl (fun ls hl => ?_)
        refine lv_dload hx hb dX1_squareRoot_38 (lv_at hl 2 rfl) ?_
        refine lv_ldc2d hx hb hown (hts (.constantDouble RX1 11 (4611686018427387904)) (by decide +kernel)) dX1_squareRoot_40 ?_
        have g7 := sc_mul (j := e0 + 1) hs.1 gf_2.1 (by omega) hs.2 fv_2 (by omega) (by omega)
        refine lv_dmul hx hb dX1_squareRoot_43 (fp_n64 g7.1) ?_
        refine lv_topd (fun v8 ev8 => ?_)
        rw [← ev8] at g7
        refine lv_dstore (lv' := [(4, .double v8), (2, .double v6), (6, .int (nI k0)), (0, .double x)]) hx hb dX1_squareRoot_44 hl (by decide) rfl (fun ls hl => ?_)
        refine lv_iinc (v := (nI k0) + 1) (lv' := [(6, .int ((nI k0) + 1)), (4, .double v8), (2, .double v6), (0, .double x)]) hx hb dX1_squareRoot_46 hl (k := 2) rfl rfl (by decide) rfl (fun ls hl => ?_)
        refine lv_goto (tgt := 16) hx hb dX1_squareRoot_49 (by decide) ?_
        have h9 : lv_has ls 7 [(6, .int (nI (k0 + 1))), (4, .double v8), (2, .double v6), (0, .double x)] := by have h8 := (lv_sub hl [0, 1, 2, 3] rfl); rw [nI_1] at h8; exact h8
        exact ih (k0 + 1) (e0 + 1) _ _ ls g5 g7 (by omega) (by omega) h9
set_option maxHeartbeats 4000000 in
set_option maxRecDepth 100000 in
theorem lpX1_s2 {p : Program} {l : Launch} {e : Env} {R : Room} {s : State} {m : MethodId} {args : Array Value} {below : List Frame} {meth : Method} {c : Code} {H : Heap} {locs : List Loc} {cells slots : Nat} {Q : State → Prop} (hx : p.tables.exec = Jvm.exec) (hb : c.code = cX1_squareRoot) (hown : s.vm.findClass RX1 = some m.cls) (hts : ∀ w ∈ wsX1_squareRoot, w.before args s = true) {x : UInt64} {N e1 : Nat} (hN1 : 2 ^ 52 ≤ N) (hN2 : N < 2 ^ 54) (k : ∀ (part sc : UInt64) (i : Int32) (ls : Array Slot), dv part N 1022 → dv sc 1 e1 → lv_has ls 7 [(6, .int i), (4, .double sc), (2, .double part), (0, .double x)] → W p l e R s m args below meth c H locs cells slots Q (F0 m 89 ls [])) : ∀ (n k0 e0 : Nat) (part sc : UInt64) (ls : Array Slot), dv part N (2 * (511 - n)) → dv sc 1 e0 → k0 + n < 1100 → e0 = e1 + n ∧ e0 < 2000 ∧ n ≤ 511 → lv_has ls 7 [(6, .int (nI k0)), (4, .double sc), (2, .double part), (0, .double x)] → W p l e R s m args below meth c H locs cells slots Q (F0 m 55 ls []) := by
  intro n
  induction n with
  | zero =>
    intro k0 e0 part sc ls hd hs hk he hl
    have hee : e0 = e1 := by omega
    subst hee
    have hd : dv part N 1022 := hd
    refine lv_iload hx hb dX1_squareRoot_55 (lv_at hl 0 rfl) ?_
    refine lv_sipush (v := 1100) hx hb dX1_squareRoot_57 (by decide) ?_
    refine lv_icmp_ge (tgt := 89) hx hb dX1_squareRoot_60 (by decide) (fun c1 => ?_) (fun c1 => ?_)
    · have i2 := Int32.not_lt.mpr c1
      exact absurd c1 (fun h => absurd ((nI_leI (a := 1100) (by omega) (by omega)).mp h) (by omega))
    · have i3 := Int32.not_le.mp c1
      refine lv_dload_n hx hb dX1_squareRoot_63 rfl (lv_at hl 2 rfl) ?_
      refine lv_dconst1 hx hb dX1_squareRoot_64 ?_
      refine lv_dcmp hx hb dX1_squareRoot_65 ?_
      rw [fp_cv hd.1 gf_c1.1]
      refine lv_if_ge (tgt := 89) hx hb dX1_squareRoot_66 (by decide) (fun c4 => ?_) (fun c4 => ?_)
      · rw [fcv_ge] at c4
        exact k part sc _ ls hd hs (lv_sub hl [0, 1, 2, 3] rfl)
      · rw [fcv_ge] at c4
        exact absurd (Int.not_lt.mp (dv_ge hd fv_c1 hN1 (by omega))) c4
  | succ n ih =>
    intro k0 e0 part sc ls hd hs hk he hl
    obtain ⟨e9, rfl⟩ : ∃ e9, e0 = e9 + 1 := ⟨e0 - 1, by omega⟩
    refine lv_iload hx hb dX1_squareRoot_55 (lv_at hl 0 rfl) ?_
    refine lv_sipush (v := 1100) hx hb dX1_squareRoot_57 (by decide) ?_
    refine lv_icmp_ge (tgt := 89) hx hb dX1_squareRoot_60 (by decide) (fun c1 => ?_) (fun c1 => ?_)
    · have i2 := Int32.not_lt.mpr c1
      exact absurd c1 (fun h => absurd ((nI_leI (a := 1100) (by omega) (by omega)).mp h) (by omega))
    · have i3 := Int32.not_le.mp c1
      refine lv_dload_n hx hb dX1_squareRoot_63 rfl (lv_at hl 2 rfl) ?_
      refine lv_dconst1 hx hb dX1_squareRoot_64 ?_
      refine lv_dcmp hx hb dX1_squareRoot_65 ?_
      rw [fp_cv hd.1 gf_c1.1]
      refine lv_if_ge (tgt := 89) hx hb dX1_squareRoot_66 (by decide) (fun c4 => ?_) (fun c4 => ?_)
      · rw [fcv_ge] at c4
        exact absurd (dv_ltw hd fv_c1 hN2 (by omega)) (Int.not_lt.mpr c4)
      · rw [fcv_ge] at c4
        refine lv_dload_n hx hb dX1_squareRoot_69 rfl (lv_at hl 2 rfl) ?_
        refine lv_ldc2d hx hb hown (hts (.constantDouble RX1 9 (4616189618054758400)) (by decide +kernel)) dX1_squareRoot_70 ?_
        have g5 := s1_up (j := 511 - n) hd hN2 (by omega) (by omega)
        refine lv_dmul hx hb dX1_squareRoot_73 (fp_n64 g5.1) ?_
        refine lv_topd (fun v6 ev6 => ?_)
        rw [← ev6] at g5
        refine lv_dstore_n (lv' := [(2, .double v6), (6, .int (nI k0)), (4, .double sc), (0, .double x)]) hx hb dX1_squareRoot_74 rfl hl (by decide) rfl (fun ls hl => ?_)
        refine lv_dload hx hb dX1_squareRoot_75 (lv_at hl 2 rfl) ?_
        refine lv_ldc2d hx hb hown (hts (.constantDouble RX1 11 (4611686018427387904)) (by decide +kernel)) dX1_squareRoot_77 ?_
        have g7 := sc_div (k := 1) (i := e9) hs.1 gf_2.1 (by omega) hs.2 fv_2 (by omega)
        refine lv_ddiv hx hb dX1_squareRoot_80 (fp_n64 g7.1) ?_
        refine lv_topd (fun v8 ev8 => ?_)
        rw [← ev8] at g7
        refine lv_dstore (lv' := [(4, .double v8), (2, .double v6), (6, .int (nI k0)), (0, .double x)]) hx hb dX1_squareRoot_81 hl (by decide) rfl (fun ls hl => ?_)
        refine lv_iinc (v := (nI k0) + 1) (lv' := [(6, .int ((nI k0) + 1)), (4, .double v8), (2, .double v6), (0, .double x)]) hx hb dX1_squareRoot_83 hl (k := 2) rfl rfl (by decide) rfl (fun ls hl => ?_)
        refine lv_goto (tgt := 55) hx hb dX1_squareRoot_86 (by decide) ?_
        have h9 : lv_has ls 7 [(6, .int (nI (k0 + 1))), (4, .double v8), (2, .double v6), (0, .double x)] := by have h8 := (lv_sub hl [0, 1, 2, 3] rfl); rw [nI_1] at h8; exact h8
        exact ih (k0 + 1) e9 _ _ ls g5 g7 (by omega) (by omega) h9
set_option maxHeartbeats 4000000 in
set_option maxRecDepth 100000 in
theorem lpX1_sz {p : Program} {l : Launch} {e : Env} {R : Room} {s : State} {m : MethodId} {args : Array Value} {below : List Frame} {meth : Method} {c : Code} {H : Heap} {locs : List Loc} {cells slots : Nat} {Q : State → Prop} (hx : p.tables.exec = Jvm.exec) (hb : c.code = cX1_squareRoot) (hown : s.vm.findClass RX1 = some m.cls) (hts : ∀ w ∈ wsX1_squareRoot, w.before args s = true) {x : UInt64} {N h : Nat} (hN2 : N < 2 ^ 54) (hh : h ≤ 511) (hd : dv x N (2 * h)) {ls : Array Slot} (hl : lv_has ls 7 [(6, .int (nI 0)), (4, .double FP.dconst1), (2, .double x), (0, .double x)]) (k : ∀ (ls : Array Slot), lv_has ls 7 [(6, .int (nI 0)), (4, .double FP.dconst1), (2, .double x), (0, .double x)] → W p l e R s m args below meth c H locs cells slots Q (F0 m 52 ls [])) : W p l e R s m args below meth c H locs cells slots Q (F0 m 16 ls []) := by
  refine lv_iload hx hb dX1_squareRoot_16 (lv_at hl 0 rfl) ?_
  refine lv_sipush (v := 1100) hx hb dX1_squareRoot_18 (by decide) ?_
  refine lv_icmp_ge (tgt := 52) hx hb dX1_squareRoot_21 (by decide) (fun c1 => ?_) (fun c1 => ?_)
  · have i2 := Int32.not_lt.mpr c1
    exact absurd c1 (by decide)
  · have i3 := Int32.not_le.mp c1
    refine lv_dload_n hx hb dX1_squareRoot_24 rfl (lv_at hl 2 rfl) ?_
    refine lv_ldc2d hx hb hown (hts (.constantDouble RX1 9 (4616189618054758400)) (by decide +kernel)) dX1_squareRoot_25 ?_
    refine lv_dcmp hx hb dX1_squareRoot_28 ?_
    rw [fp_cv hd.1 gf_4.1]
    refine lv_if_lt (tgt := 52) hx hb dX1_squareRoot_29 (by decide) (fun c4 => ?_) (fun c4 => ?_)
    · rw [fcv_lt] at c4
      exact k ls hl
    · rw [fcv_lt] at c4
      exact absurd (dv_ltw hd fv_4 hN2 (by omega)) c4
set_option maxHeartbeats 4000000 in
set_option maxRecDepth 100000 in
theorem lpX1_s {p : Program} {l : Launch} {e : Env} {R : Room} {s : State} {m : MethodId} {args : Array Value} {below : List Frame} {meth : Method} {c : Code} {H : Heap} {locs : List Loc} {cells slots : Nat} {Q : State → Prop} (hx : p.tables.exec = Jvm.exec) (hb : c.code = cX1_squareRoot) (hown : s.vm.findClass RX1 = some m.cls) (hts : ∀ w ∈ wsX1_squareRoot, w.before args s = true) {x : UInt64} {N h : Nat} (hN1 : 2 ^ 52 ≤ N) (hN2 : N < 2 ^ 54) (hh : h ≤ 1022) (hd : dv x N (2 * h)) {ls : Array Slot} (hl : lv_has ls 7 [(6, .int (nI 0)), (4, .double FP.dconst1), (2, .double x), (0, .double x)]) (k : ∀ (part sc : UInt64) (i : Int32) (ls : Array Slot), dv part N 1022 → dv sc 1 (h + 563) → lv_has ls 7 [(6, .int i), (4, .double sc), (2, .double part), (0, .double x)] → W p l e R s m args below meth c H locs cells slots Q (F0 m 89 ls [])) : W p l e R s m args below meth c H locs cells slots Q (F0 m 16 ls []) := by
  have hs : dv FP.dconst1 1 1074 := ⟨gf_c1.1, by rw [fv_c1, Nat.one_mul]⟩
  rcases Nat.le_total 511 h with h5 | h5
  · refine lpX1_s1 hx hb hown hts (e1 := h + 563) hN1 hN2 (fun part sc i9 ls hd9 hs9 hl => ?_) (h - 511) 0 1074 x FP.dconst1 ls (by rw [show 511 + (h - 511) = h by omega]; exact hd) hs (by omega) (by omega) hl
    refine lv_iconst (v := 0) hx hb dX1_squareRoot_52 (by decide) ?_
    refine lv_istore (lv' := [(6, .int 0), (4, .double sc), (2, .double part), (0, .double x)]) hx hb dX1_squareRoot_53 hl (by decide) rfl (fun ls hl => ?_)
    exact lpX1_s2 hx hb hown hts (e1 := h + 563) hN1 hN2 k 0 0 (h + 563) part sc ls hd9 hs9 (by omega) (by omega) (lv_sub hl [0, 1, 2, 3] rfl)
  · refine lpX1_sz hx hb hown hts hN2 h5 hd hl (fun ls hl => ?_)
    refine lv_iconst (v := 0) hx hb dX1_squareRoot_52 (by decide) ?_
    refine lv_istore (lv' := [(6, .int 0), (4, .double FP.dconst1), (2, .double x), (0, .double x)]) hx hb dX1_squareRoot_53 hl (by decide) rfl (fun ls hl => ?_)
    exact lpX1_s2 hx hb hown hts (e1 := h + 563) hN1 hN2 k (511 - h) 0 1074 x FP.dconst1 ls (by rw [show 511 - (511 - h) = h by omega]; exact hd) hs (by omega) (by omega) (lv_sub hl [0, 1, 2, 3] rfl)
set_option maxHeartbeats 4000000 in
set_option maxRecDepth 100000 in
theorem mX1_squareRoot (l : Launch) (x : UInt64)  (hok : fRt x) : Met l yX1_squareRoot wsX1_squareRoot ({ frames := 2, cells := 0, slots := 0, locals := 53 }) (va_Pc [.double x] (fun _ => True)) (va_Qd (fun (r : UInt64) (u : Unit) => r = fsq x ∧ IsRt x r) (fun _ _ => True) nA) 0 0 nA := by
  refine Met.ofW (cc := cX1_squareRoot) (maxL := 7) (ret := (some .double)) (by decide) rfl ?_
  intro p e s m args below meth c s₁ B hml hv
  obtain ⟨rfl, -⟩ := hv
  have hx := B.exec
  have hb := B.bytes
  have hr := B.returns
  have hts := atoms_spec (ws := wsX1_squareRoot) B.pre
  have hown : s.vm.findClass RX1 = some m.cls := findClass_of_methodNamed B.named
  have hlocks := B.notSynchronized
  have hS : va_S nA s.heap s.heap [] := va_S.rf
  have hl := lv_entry ([.double x]) (n := 7) (Nat.le_of_ble_eq_true rfl)
  rw [lg_entry_eq]
  generalize (lg_sl ([.double x]) ++ List.replicate (7 - (lg_sl ([.double x])).length) Slot.unset).toArray = ls at hl ⊢
  have hl : lv_has ls 7 [(0, .double x)] := hl
  skip
  rcases hok with h0 | ⟨hf, h0, -⟩
  · subst h0
    refine lv_dload_n hx hb dX1_squareRoot_0 rfl (lv_at hl 0 rfl) ?_
    refine lv_dconst0 hx hb dX1_squareRoot_1 ?_
    refine lv_dcmp hx hb dX1_squareRoot_2 ?_
    rw [show Op.cmpValue (FP.dcmp 0 FP.dconst0) CmpOp.g = 0 by decide +kernel]
    refine lv_if_gt (tgt := 8) hx hb dX1_squareRoot_3 (by decide) (fun c2 => absurd c2 (by decide)) (fun _ => ?_)
    refine lv_dconst0 hx hb dX1_squareRoot_6 ?_
    have hq : IsRt 0 FP.dconst0 := Or.inl ⟨rfl, rfl⟩
    exact W.dret (v := FP.dconst0) hx hb hr (fun t ht hW => ⟨⟨FP.dconst0, (), rfl, ⟨fsq_eq hq, hq⟩, trivial⟩, hS.F ht⟩) hS.2.2 dX1_squareRoot_7
  · obtain ⟨N, h, hd, hN1, hN2, hh⟩ := rt_norm hf h0
    refine lv_dload_n hx hb dX1_squareRoot_0 rfl (lv_at hl 0 rfl) ?_
    refine lv_dconst0 hx hb dX1_squareRoot_1 ?_
    refine lv_dcmp hx hb dX1_squareRoot_2 ?_
    rw [fp_cv hd.1 gf_c0.1]
    refine lv_if_gt (tgt := 8) hx hb dX1_squareRoot_3 (by decide) (fun c1 => ?_) (fun c1 => ?_)
    · rw [fcv_gt] at c1
      refine lv_dload_n hx hb dX1_squareRoot_8 rfl (lv_at hl 0 rfl) ?_
      refine lv_dstore_n (lv' := [(2, .double x), (0, .double x)]) hx hb dX1_squareRoot_9 rfl hl (by decide) rfl (fun ls hl => ?_)
      refine lv_dconst1 hx hb dX1_squareRoot_10 ?_
      refine lv_dstore (lv' := [(4, .double FP.dconst1), (2, .double x), (0, .double x)]) hx hb dX1_squareRoot_11 hl (by decide) rfl (fun ls hl => ?_)
      refine lv_iconst (v := 0) hx hb dX1_squareRoot_13 (by decide) ?_
      refine lv_istore (lv' := [(6, .int 0), (4, .double FP.dconst1), (2, .double x), (0, .double x)]) hx hb dX1_squareRoot_14 hl (by decide) rfl (fun ls hl => ?_)
      have h16 : lv_has ls 7 [(6, .int (nI 0)), (4, .double FP.dconst1), (2, .double x), (0, .double x)] := (lv_sub hl [0, 1, 2, 3] rfl)
      refine lpX1_s hx hb hown hts hN1 hN2 hh hd h16 (fun part sc i9 ls hd9 hs9 hl => ?_)
      refine lv_dload_n hx hb dX1_squareRoot_89 rfl (lv_at hl 2 rfl) ?_
      refine va_calld (va_runS (As := [.double part]) (rest := []) ⟨hx, hb, hml, hown, hts⟩ (mX1_rootOfPart l part N hd9 hN1 hN2) (va_cwS 1 hts gX1_squareRoot_X1_rootOfPart rfl rfl rfl (by decide +kernel) ⟨Nat.le_of_ble_eq_true rfl, Nat.le_of_ble_eq_true rfl⟩) ⟨tB_blind, tB_go⟩ rfl rfl hl.1 rfl (lv_room (Nat.le_of_ble_eq_true rfl)) dX1_squareRoot_90 ⟨Nat.le_of_ble_eq_true rfl, Nat.le_of_ble_eq_true rfl⟩) hS (fun q _ h => h.elim) (fun q h => h.elim) (fun r2 u3 t H locs ht hvm hp4 hB hz1 hk1 hS => ?_)
      obtain ⟨R, hq1, hq2, hq3⟩ := hp4
      refine lv_dload hx hb dX1_squareRoot_93 (lv_at hl 1 rfl) ?_
      have g5 := sc_mul (j := h + 511) hq3.1 hs9.1 (rt_sq_le (by omega) hq1) hq3.2 (by rw [hs9.2, Nat.one_mul]) (by omega) (by omega)
      refine lv_dmul hx hb dX1_squareRoot_95 (fp_n64 g5.1) ?_
      refine lv_topd (fun v6 ev6 => ?_)
      rw [← ev6] at g5
      have hq : IsRt x v6 := Or.inr ⟨N, h, R, hd, hN1, hN2, hq1, hq2, g5⟩
      exact W.dret (v := v6) hx hb hr (fun t ht hW => ⟨⟨v6, (), rfl, ⟨fsq_eq hq, hq⟩, trivial⟩, hS.F ht⟩) hS.2.2 dX1_squareRoot_96
    · rw [fcv_gt] at c1
      exact absurd (by rw [fv_c0]; exact dv_pos hd hN1) c1
