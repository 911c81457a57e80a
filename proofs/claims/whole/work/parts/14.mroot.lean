/-! THE MODEL'S ROOT, digit by digit -/
def pI (k : Nat) : Int32 := Int32.ofInt ((k : Int) - 1074)
def mI (n : Nat) : Int32 := Int32.ofInt (-(n : Int))
theorem pI_s (k : Nat) : pI k + 1 = pI (k + 1) := by
  unfold pI
  rw [show (1 : Int32) = Int32.ofInt 1 from rfl, ← Int32.ofInt_add]
  congr 1
  omega
theorem pI_p (k : Nat) : pI (k + 1) + (-1) = pI k := by
  unfold pI
  rw [show (-1 : Int32) = Int32.ofInt (-1) by decide, ← Int32.ofInt_add]
  congr 1
  omega
theorem mI_s (k : Nat) : mI (k + 1) + 1 = mI k := by
  unfold mI
  rw [show (1 : Int32) = Int32.ofInt 1 from rfl, ← Int32.ofInt_add]
  congr 1
  omega
theorem mI_neg {k : Nat} (hk : k < 2000) : mI (k + 1) < 0 := by
  unfold mI
  rw [Int32.lt_iff_toInt_lt, Int32.toInt_ofInt_of_le (by omega) (by omega)]
  show -((k + 1 : Nat) : Int) < 0
  omega
theorem pI_par : ∀ i, i < 2046 → (pI i - pI i / 2 * 2 = 0 ↔ i % 2 = 0) := by decide +kernel
theorem pI_half : ∀ h, h < 1023 → pI (2 * h) / 2 - 26 = if 563 ≤ h then nI (h - 563) else mI (563 - h) := by decide +kernel
theorem lN_n0 {n : Nat} (h0 : 0 < n) (h : n < 2 ^ 62) : ¬ lN n = 0 := fun hc => by
  have := (pk_lEQ (b := 0) (by omega) (by omega)).mp hc
  omega
theorem lN_le62 {a b : Nat} (ha : a < 2 ^ 62) (hb : b < 2 ^ 62) : lN a < lN b ↔ a < b := pk_lLT (by omega) (by omega)
theorem dg_sq (d b : Nat) : (d + b) * (d + b) = d * d + 2 * (d * b) + b * b := by simp only [Nat.add_mul, Nat.mul_add, Nat.mul_comm b d]; omega
theorem dg_take {X d r b : Nat} (h : 2 * X = 2 * (d * d) + r * (2 * b)) (ht : 2 * d + b ≤ r) (hu : X < (d + 2 * b) * (d + 2 * b)) : 2 * X = 2 * ((d + b) * (d + b)) + (r - (2 * d + b) + (r - (2 * d + b))) * b ∧ X < (d + b + b) * (d + b + b) := by
  obtain ⟨q, rfl⟩ : ∃ q, r = 2 * d + b + q := ⟨r - (2 * d + b), by omega⟩
  have e1 : (2 * d + b + q) * (2 * b) = 4 * (d * b) + 2 * (b * b) + 2 * (q * b) := by
    rw [Nat.add_mul, Nat.add_mul]
    have h1 : 2 * d * (2 * b) = 4 * (d * b) := by rw [show (4 : Nat) = 2 * 2 from rfl]; ac_rfl
    have h2 : b * (2 * b) = 2 * (b * b) := by ac_rfl
    have h3 : q * (2 * b) = 2 * (q * b) := by ac_rfl
    omega
  rw [e1] at h
  rw [dg_sq, show 2 * d + b + q - (2 * d + b) = q by omega, Nat.add_mul]
  refine ⟨by omega, ?_⟩
  rw [show d + b + b = d + 2 * b by omega]
  exact hu
theorem dg_leave {X d r b : Nat} (h : 2 * X = 2 * (d * d) + r * (2 * b)) (ht : r < 2 * d + b) (hb : 0 < b) : 2 * X = 2 * (d * d) + (r + r) * b ∧ X < (d + b) * (d + b) := by
  have e1 : r * (2 * b) = 2 * (r * b) := by ac_rfl
  have e2 : r * b < (2 * d + b) * b := Nat.mul_lt_mul_of_pos_right ht hb
  have e3 : (2 * d + b) * b = 2 * (d * b) + b * b := by rw [Nat.add_mul, Nat.mul_assoc]
  have e4 : (r + r) * b = 2 * (r * b) := by rw [Nat.add_mul]; omega
  rw [dg_sq]
  omega
theorem dg_r {X d r b : Nat} (h : 2 * X = 2 * (d * d) + r * b) (hu : X < (d + b) * (d + b)) (hb : 0 < b) : r < 4 * d + 2 * b := by
  refine Nat.lt_of_not_le fun hl => ?_
  have e1 : (4 * d + 2 * b) * b ≤ r * b := Nat.mul_le_mul_right _ hl
  have e2 : (4 * d + 2 * b) * b = 4 * (d * b) + 2 * (b * b) := by rw [Nat.add_mul, Nat.mul_assoc, Nat.mul_assoc]
  rw [dg_sq] at hu
  omega
theorem dg_end {N d r : Nat} (hN : 2 ^ 52 ≤ N) (h : 2 * (N * 2 ^ 54) = 2 * (d * d) + r) (hu : N * 2 ^ 54 < (d + 1) * (d + 1)) : (d % 2 = 0 ∨ r ≠ 0) ∧ (d + d % 2) / 2 * ((d + d % 2) / 2) < N * 2 ^ 52 + (d + d % 2) / 2 ∧ N * 2 ^ 52 ≤ (d + d % 2) / 2 * ((d + d % 2) / 2) + (d + d % 2) / 2 := by
  have hd1 : (d + 1) * (d + 1) = d * d + 2 * d + 1 := by rw [dg_sq]; omega
  rcases Nat.mod_two_eq_zero_or_one d with h2 | h2
  · obtain ⟨e, rfl⟩ : ∃ e, d = 2 * e := ⟨d / 2, by omega⟩
    have e1 : 2 * e * (2 * e) = 4 * (e * e) := by rw [show (4 : Nat) = 2 * 2 from rfl]; ac_rfl
    rw [e1] at h hd1
    rw [h2, show (2 * e + 0) / 2 = e by omega]
    have hp : 0 < e := by
      refine Nat.pos_of_ne_zero fun h0 => ?_
      subst h0
      omega
    refine ⟨Or.inl rfl, by omega, by omega⟩
  · obtain ⟨e, rfl⟩ : ∃ e, d = 2 * e + 1 := ⟨d / 2, by omega⟩
    have e1 : (2 * e + 1) * (2 * e + 1) = 4 * (e * e) + 4 * e + 1 := by
      rw [dg_sq]
      have : 2 * e * (2 * e) = 4 * (e * e) := by rw [show (4 : Nat) = 2 * 2 from rfl]; ac_rfl
      omega
    rw [e1] at h hd1
    rw [h2, show (2 * e + 1 + 1) / 2 = e + 1 by omega]
    have e2 : (e + 1) * (e + 1) = e * e + 2 * e + 1 := by rw [dg_sq]; omega
    rw [e2]
    exact ⟨Or.inr (by omega), by omega, by omega⟩
set_option maxHeartbeats 4000000 in
set_option maxRecDepth 100000 in
theorem lpX7_ra {p : Program} {l : Launch} {e : Env} {R : Room} {s : State} {m : MethodId} {args : Array Value} {below : List Frame} {meth : Method} {c : Code} {H : Heap} {locs : List Loc} {cells slots : Nat} {Q : State → Prop} (hx : p.tables.exec = Jvm.exec) (hb : c.code = cX7_root) (hown : s.vm.findClass RX7 = some m.cls) (hts : ∀ w ∈ wsX7_root, w.before args s = true) {x : UInt64} {cc p1 : Nat} (hc1 : 2 ^ 52 ≤ cc) (hc2 : cc < 2 ^ 53) (k : ∀ (y : UInt64) (ls : Array Slot), dv y cc 1074 → lv_has ls 16 [(4, .int (pI p1)), (2, .double y), (0, .double x)] → W p l e R s m args below meth c H locs cells slots Q (F0 m 33 ls [])) : ∀ (n p0 : Nat) (y : UInt64) (ls : Array Slot), dv y cc (1074 + n) → p0 + n = p1 ∧ n ≤ 964 → lv_has ls 16 [(4, .int (pI p0)), (2, .double y), (0, .double x)] → W p l e R s m args below meth c H locs cells slots Q (F0 m 13 ls []) := by
  intro n
  induction n with
  | zero =>
    intro p0 y ls hd he hl
    have hee : p0 = p1 := by omega
    subst hee
    have hd : dv y cc 1074 := hd
    refine lv_dload_n hx hb dX7_root_13 rfl (lv_at hl 1 rfl) ?_
    refine lv_ldc2d hx hb hown (hts (.constantDouble RX7 1 (4845873199050653696)) (by decide +kernel)) dX7_root_14 ?_
    refine lv_dcmp hx hb dX7_root_17 ?_
    rw [fp_cv hd.1 gf_53.1]
    refine lv_if_lt (tgt := 33) hx hb dX7_root_18 (by decide) (fun c1 => ?_) (fun c1 => ?_)
    · rw [fcv_lt] at c1
      exact k y ls hd (lv_sub hl [0, 1, 2] rfl)
    · rw [fcv_lt] at c1
      exact absurd (dv_lt hd fv_53 hc2 (by omega)) c1
  | succ n ih =>
    intro p0 y ls hd he hl
    refine lv_dload_n hx hb dX7_root_13 rfl (lv_at hl 1 rfl) ?_
    refine lv_ldc2d hx hb hown (hts (.constantDouble RX7 1 (4845873199050653696)) (by decide +kernel)) dX7_root_14 ?_
    refine lv_dcmp hx hb dX7_root_17 ?_
    rw [fp_cv hd.1 gf_53.1]
    refine lv_if_lt (tgt := 33) hx hb dX7_root_18 (by decide) (fun c1 => ?_) (fun c1 => ?_)
    · rw [fcv_lt] at c1
      exact absurd c1 (dv_ge hd fv_53 hc1 (by omega))
    · rw [fcv_lt] at c1
      refine lv_dload_n hx hb dX7_root_21 rfl (lv_at hl 1 rfl) ?_
      refine lv_ldc2d hx hb hown (hts (.constantDouble RX7 3 (4611686018427387904)) (by decide +kernel)) dX7_root_22 ?_
      have g2 := sc_div (k := 1) (i := 1074 + n) hd.1 gf_2.1 (Nat.le_of_lt hc2) hd.2 fv_2 (by omega)
      refine lv_ddiv hx hb dX7_root_25 (fp_n64 g2.1) ?_
      refine lv_topd (fun v3 ev3 => ?_)
      rw [← ev3] at g2
      refine lv_dstore_n (lv' := [(2, .double v3), (4, .int (pI p0)), (0, .double x)]) hx hb dX7_root_26 rfl hl (by decide) rfl (fun ls hl => ?_)
      refine lv_iinc (v := (pI p0) + 1) (lv' := [(4, .int ((pI p0) + 1)), (2, .double v3), (0, .double x)]) hx hb dX7_root_27 hl (k := 1) rfl rfl (by decide) rfl (fun ls hl => ?_)
      refine lv_goto (tgt := 13) hx hb dX7_root_30 (by decide) ?_
      have h9 : lv_has ls 16 [(4, .int (pI (p0 + 1))), (2, .double v3), (0, .double x)] := by have h8 := (lv_sub hl [0, 1, 2] rfl); rw [pI_s] at h8; exact h8
      exact ih (p0 + 1) _ ls g2 (by omega) h9
set_option maxHeartbeats 4000000 in
set_option maxRecDepth 100000 in
theorem lpX7_rb {p : Program} {l : Launch} {e : Env} {R : Room} {s : State} {m : MethodId} {args : Array Value} {below : List Frame} {meth : Method} {c : Code} {H : Heap} {locs : List Loc} {cells slots : Nat} {Q : State → Prop} (hx : p.tables.exec = Jvm.exec) (hb : c.code = cX7_root) (hown : s.vm.findClass RX7 = some m.cls) (hts : ∀ w ∈ wsX7_root, w.before args s = true) {x : UInt64} {cc p1 : Nat} (hc1 : 2 ^ 52 ≤ cc) (hc2 : cc < 2 ^ 53) (k : ∀ (y : UInt64) (ls : Array Slot), dv y cc 1074 → lv_has ls 16 [(4, .int (pI p1)), (2, .double y), (0, .double x)] → W p l e R s m args below meth c H locs cells slots Q (F0 m 53 ls [])) : ∀ (n p0 : Nat) (y : UInt64) (ls : Array Slot), dv y cc (1074 - n) → p0 = p1 + n ∧ n ≤ 1074 → lv_has ls 16 [(4, .int (pI p0)), (2, .double y), (0, .double x)] → W p l e R s m args below meth c H locs cells slots Q (F0 m 33 ls []) := by
  intro n
  induction n with
  | zero =>
    intro p0 y ls hd he hl
    have hee : p0 = p1 := by omega
    subst hee
    have hd : dv y cc 1074 := hd
    refine lv_dload_n hx hb dX7_root_33 rfl (lv_at hl 1 rfl) ?_
    refine lv_ldc2d hx hb hown (hts (.constantDouble RX7 5 (4841369599423283200)) (by decide +kernel)) dX7_root_34 ?_
    refine lv_dcmp hx hb dX7_root_37 ?_
    rw [fp_cv hd.1 gf_52.1]
    refine lv_if_ge (tgt := 53) hx hb dX7_root_38 (by decide) (fun c1 => ?_) (fun c1 => ?_)
    · rw [fcv_ge] at c1
      exact k y ls hd (lv_sub hl [0, 1, 2] rfl)
    · rw [fcv_ge] at c1
      exact absurd (Int.not_lt.mp (dv_ge hd fv_52 hc1 (by omega))) c1
  | succ n ih =>
    intro p0 y ls hd he hl
    obtain ⟨p9, rfl⟩ : ∃ p9, p0 = p9 + 1 := ⟨p0 - 1, by omega⟩
    refine lv_dload_n hx hb dX7_root_33 rfl (lv_at hl 1 rfl) ?_
    refine lv_ldc2d hx hb hown (hts (.constantDouble RX7 5 (4841369599423283200)) (by decide +kernel)) dX7_root_34 ?_
    refine lv_dcmp hx hb dX7_root_37 ?_
    rw [fp_cv hd.1 gf_52.1]
    refine lv_if_ge (tgt := 53) hx hb dX7_root_38 (by decide) (fun c1 => ?_) (fun c1 => ?_)
    · rw [fcv_ge] at c1
      exact absurd (dv_lt hd fv_52 hc2 (by omega)) (Int.not_lt.mpr c1)
    · rw [fcv_ge] at c1
      refine lv_dload_n hx hb dX7_root_41 rfl (lv_at hl 1 rfl) ?_
      refine lv_ldc2d hx hb hown (hts (.constantDouble RX7 3 (4611686018427387904)) (by decide +kernel)) dX7_root_42 ?_
      have g2 := sc_mul (j := 1074 - n) hd.1 gf_2.1 (Nat.le_of_lt hc2) hd.2 fv_2 (by omega) (by omega)
      refine lv_dmul hx hb dX7_root_45 (fp_n64 g2.1) ?_
      refine lv_topd (fun v3 ev3 => ?_)
      rw [← ev3] at g2
      refine lv_dstore_n (lv' := [(2, .double v3), (4, .int (pI (p9 + 1))), (0, .double x)]) hx hb dX7_root_46 rfl hl (by decide) rfl (fun ls hl => ?_)
      refine lv_iinc (v := (pI (p9 + 1)) + (-1)) (lv' := [(4, .int ((pI (p9 + 1)) + (-1))), (2, .double v3), (0, .double x)]) hx hb dX7_root_47 hl (k := 1) rfl rfl (by decide) rfl (fun ls hl => ?_)
      refine lv_goto (tgt := 33) hx hb dX7_root_50 (by decide) ?_
      have h9 : lv_has ls 16 [(4, .int (pI p9)), (2, .double v3), (0, .double x)] := by have h8 := (lv_sub hl [0, 1, 2] rfl); rw [pI_p] at h8; exact h8
      exact ih p9 _ ls g2 (by omega) h9
set_option maxHeartbeats 4000000 in
set_option maxRecDepth 100000 in
theorem lpX7_rs {p : Program} {l : Launch} {e : Env} {R : Room} {s : State} {m : MethodId} {args : Array Value} {below : List Frame} {meth : Method} {c : Code} {H : Heap} {locs : List Loc} {cells slots : Nat} {Q : State → Prop} (hx : p.tables.exec = Jvm.exec) (hb : c.code = cX7_root) (hown : s.vm.findClass RX7 = some m.cls) (hts : ∀ w ∈ wsX7_root, w.before args s = true) {x : UInt64} {cc i : Nat} (hc2 : cc < 2 ^ 53) (h : i ≤ 1074) (hd : dv x cc i) {ls : Array Slot} (hl : lv_has ls 16 [(4, .int (pI 1074)), (2, .double x), (0, .double x)]) (k : ∀ (ls : Array Slot), lv_has ls 16 [(4, .int (pI 1074)), (2, .double x), (0, .double x)] → W p l e R s m args below meth c H locs cells slots Q (F0 m 33 ls [])) : W p l e R s m args below meth c H locs cells slots Q (F0 m 13 ls []) := by
  refine lv_dload_n hx hb dX7_root_13 rfl (lv_at hl 1 rfl) ?_
  refine lv_ldc2d hx hb hown (hts (.constantDouble RX7 1 (4845873199050653696)) (by decide +kernel)) dX7_root_14 ?_
  refine lv_dcmp hx hb dX7_root_17 ?_
  rw [fp_cv hd.1 gf_53.1]
  refine lv_if_lt (tgt := 33) hx hb dX7_root_18 (by decide) (fun c1 => ?_) (fun c1 => ?_)
  · rw [fcv_lt] at c1
    exact k ls hl
  · rw [fcv_lt] at c1
    exact absurd (dv_lt hd fv_53 hc2 (by omega)) c1
set_option maxHeartbeats 4000000 in
set_option maxRecDepth 100000 in
theorem lpX7_r0 {p : Program} {l : Launch} {e : Env} {R : Room} {s : State} {m : MethodId} {args : Array Value} {below : List Frame} {meth : Method} {c : Code} {H : Heap} {locs : List Loc} {cells slots : Nat} {Q : State → Prop} (hx : p.tables.exec = Jvm.exec) (hb : c.code = cX7_root) (hown : s.vm.findClass RX7 = some m.cls) (hts : ∀ w ∈ wsX7_root, w.before args s = true) {x : UInt64} {cc i : Nat} (hc1 : 2 ^ 52 ≤ cc) (hc2 : cc < 2 ^ 53) (hi : i ≤ 2037) (hd : dv x cc i) {ls : Array Slot} (hl : lv_has ls 16 [(4, .int (pI 1074)), (2, .double x), (0, .double x)]) (k : ∀ (y : UInt64) (ls : Array Slot), dv y cc 1074 → lv_has ls 16 [(4, .int (pI i)), (2, .double y), (0, .double x)] → W p l e R s m args below meth c H locs cells slots Q (F0 m 53 ls [])) : W p l e R s m args below meth c H locs cells slots Q (F0 m 13 ls []) := by
  rcases Nat.le_total 1074 i with h | h
  · refine lpX7_ra hx hb hown hts (p1 := i) hc1 hc2 (fun y ls hd9 hl => ?_) (i - 1074) 1074 x ls (by rw [show 1074 + (i - 1074) = i by omega]; exact hd) (by omega) hl
    exact lpX7_rb hx hb hown hts (p1 := i) hc1 hc2 k 0 i y ls hd9 (by omega) hl
  · refine lpX7_rs hx hb hown hts hc2 h hd hl (fun ls hl => ?_)
    exact lpX7_rb hx hb hown hts (p1 := i) hc1 hc2 k (1074 - i) 1074 x ls (by rw [show 1074 - (1074 - i) = i by omega]; exact hd) (by omega) hl
set_option maxHeartbeats 4000000 in
set_option maxRecDepth 100000 in
theorem lpX7_rd {p : Program} {l : Launch} {e : Env} {R : Room} {s : State} {m : MethodId} {args : Array Value} {below : List Frame} {meth : Method} {c : Code} {H : Heap} {locs : List Loc} {cells slots : Nat} {Q : State → Prop} (hx : p.tables.exec = Jvm.exec) (hb : c.code = cX7_root) (hown : s.vm.findClass RX7 = some m.cls) (hts : ∀ w ∈ wsX7_root, w.before args s = true) {x : UInt64} {half : Int32} {X : Nat} (k : ∀ (d r : Nat) (ls : Array Slot), 2 * X = 2 * (d * d) + r → X < (d + 1) * (d + 1) → d < 2 ^ 54 → r < 2 ^ 60 → lv_has ls 16 [(12, .long 0), (10, .long (lN (2 * d))), (8, .long (lN d)), (7, .int half), (5, .long (lN r)), (0, .double x)] → W p l e R s m args below meth c H locs cells slots Q (F0 m 155 ls [])) : ∀ (n d r : Nat) (ls : Array Slot), n ≤ 54 → 2 * X = 2 * (d * d) + r * 2 ^ n → X < (d + 2 ^ n) * (d + 2 ^ n) → d + 2 ^ n ≤ 2 ^ 54 → lv_has ls 16 [(12, .long (lN (2 ^ n / 2))), (10, .long (lN (2 * d))), (8, .long (lN d)), (7, .int half), (5, .long (lN r)), (0, .double x)] → W p l e R s m args below meth c H locs cells slots Q (F0 m 96 ls []) := by
  intro n
  induction n with
  | zero =>
    intro d r ls hn h1 h2 h3 hl
    have h4 := dg_r h1 h2 (Nat.two_pow_pos _)
    refine lv_lload hx hb dX7_root_96 (lv_at hl 0 rfl) ?_
    refine lv_lconst (v := 0) hx hb dX7_root_98 (by decide) ?_
    refine W.lcmp hx hb dX7_root_99 ?_
    refine lv_if_eq (tgt := 155) hx hb dX7_root_100 (by decide) (fun c1 => ?_) (fun c1 => ?_)
    · rw [lg_cmp_eq] at c1
      exact k d r ls (by rw [Nat.pow_zero, Nat.mul_one] at h1; exact h1) h2 (by omega) (by omega) (lv_sub hl [0, 1, 2, 3, 4, 5] rfl)
    · rw [lg_cmp_eq] at c1
      exact absurd rfl c1
  | succ n ih =>
    intro d r ls hn h1 h2 h3 hl
    have h4 := dg_r h1 h2 (Nat.two_pow_pos _)
    have hb0 := Nat.two_pow_pos n
    have hb1 : 2 ^ (n + 1) = 2 * 2 ^ n := by rw [Nat.pow_succ]; omega
    rw [hb1] at h1 h2 h3 h4
    rw [show 2 ^ (n + 1) / 2 = 2 ^ n by omega] at hl
    refine lv_lload hx hb dX7_root_96 (lv_at hl 0 rfl) ?_
    refine lv_lconst (v := 0) hx hb dX7_root_98 (by decide) ?_
    refine W.lcmp hx hb dX7_root_99 ?_
    refine lv_if_eq (tgt := 155) hx hb dX7_root_100 (by decide) (fun c1 => ?_) (fun c1 => ?_)
    · rw [lg_cmp_eq] at c1
      exact absurd c1 (lN_n0 hb0 (by omega))
    · rw [lg_cmp_eq] at c1
      refine lv_lload hx hb dX7_root_103 (lv_at hl 1 rfl) ?_
      refine lv_lload hx hb dX7_root_105 (lv_at hl 0 rfl) ?_
      refine lv_ladd hx hb dX7_root_107 ?_
      rw [lN_add]
      refine lv_lstore (lv' := [(14, .long (lN (2 * d + 2 ^ n))), (12, .long (lN (2 ^ n))), (10, .long (lN (2 * d))), (8, .long (lN d)), (7, .int half), (5, .long (lN r)), (0, .double x)]) hx hb dX7_root_108 hl (by decide) rfl (fun ls hl => ?_)
      refine lv_lload hx hb dX7_root_110 (lv_at hl 0 rfl) ?_
      refine lv_lload hx hb dX7_root_112 (lv_at hl 5 rfl) ?_
      refine W.lcmp hx hb dX7_root_114 ?_
      refine lv_if_gt (tgt := 139) hx hb dX7_root_115 (by decide) (fun c2 => ?_) (fun c2 => ?_)
      · rw [lg_cmp_gt] at c2
        have hlt : r < 2 * d + 2 ^ n := (lN_le62 (by omega) (by omega)).mp c2
        obtain ⟨q1, q2⟩ := dg_leave h1 hlt hb0
        refine lv_lload hx hb dX7_root_139 (lv_at hl 5 rfl) ?_
        refine lv_lload hx hb dX7_root_141 (lv_at hl 5 rfl) ?_
        refine lv_ladd hx hb dX7_root_143 ?_
        rw [lN_add]
        refine lv_lstore (lv' := [(5, .long (lN (r + r))), (14, .long (lN (2 * d + 2 ^ n))), (12, .long (lN (2 ^ n))), (10, .long (lN (2 * d))), (8, .long (lN d)), (7, .int half), (0, .double x)]) hx hb dX7_root_144 hl (by decide) rfl (fun ls hl => ?_)
        refine lv_lload hx hb dX7_root_146 (lv_at hl 2 rfl) ?_
        refine lv_iconst (v := 1) hx hb dX7_root_148 (by decide) ?_
        refine lv_lshr (v := (lN (2 ^ n)) >>> (Int32.toInt64 1 &&& 63)) hx hb dX7_root_149 rfl ?_
        rw [show lN (2 ^ n) >>> (Int32.toInt64 1 &&& 63) = lN (2 ^ n / 2) from (pf_shr (d := 1) (by decide +kernel) (by omega))]
        refine lv_lstore (lv' := [(12, .long (lN (2 ^ n / 2))), (5, .long (lN (r + r))), (14, .long (lN (2 * d + 2 ^ n))), (10, .long (lN (2 * d))), (8, .long (lN d)), (7, .int half), (0, .double x)]) hx hb dX7_root_150 hl (by decide) rfl (fun ls hl => ?_)
        refine lv_goto (tgt := 96) hx hb dX7_root_152 (by decide) ?_
        exact ih (d) (r + r) ls (by omega) q1 q2 (by omega) (lv_sub hl [0, 3, 4, 5, 1, 6] rfl)
      · rw [lg_cmp_gt] at c2
        have hle : 2 * d + 2 ^ n ≤ r := Nat.le_of_not_lt (fun hc => c2 ((lN_le62 (by omega) (by omega)).mpr hc))
        obtain ⟨q1, q2⟩ := dg_take h1 hle h2
        refine lv_lload hx hb dX7_root_118 (lv_at hl 0 rfl) ?_
        refine lv_lload hx hb dX7_root_120 (lv_at hl 1 rfl) ?_
        refine lv_ladd hx hb dX7_root_122 ?_
        rw [show lN (2 * d + 2 ^ n) + lN (2 ^ n) = lN (2 * (d + 2 ^ n)) by rw [lN_add]; congr 1; omega]
        refine lv_lstore (lv' := [(10, .long (lN (2 * (d + 2 ^ n)))), (14, .long (lN (2 * d + 2 ^ n))), (12, .long (lN (2 ^ n))), (8, .long (lN d)), (7, .int half), (5, .long (lN r)), (0, .double x)]) hx hb dX7_root_123 hl (by decide) rfl (fun ls hl => ?_)
        refine lv_lload hx hb dX7_root_125 (lv_at hl 5 rfl) ?_
        refine lv_lload hx hb dX7_root_127 (lv_at hl 1 rfl) ?_
        refine lv_lsub hx hb dX7_root_129 ?_
        rw [lN_sub hle]
        refine lv_lstore (lv' := [(5, .long (lN (r - (2 * d + 2 ^ n)))), (10, .long (lN (2 * (d + 2 ^ n)))), (14, .long (lN (2 * d + 2 ^ n))), (12, .long (lN (2 ^ n))), (8, .long (lN d)), (7, .int half), (0, .double x)]) hx hb dX7_root_130 hl (by decide) rfl (fun ls hl => ?_)
        refine lv_lload hx hb dX7_root_132 (lv_at hl 4 rfl) ?_
        refine lv_lload hx hb dX7_root_134 (lv_at hl 3 rfl) ?_
        refine lv_ladd hx hb dX7_root_136 ?_
        rw [show lN d + lN (2 ^ n) = lN (d + 2 ^ n) from lN_add _ _]
        refine lv_lstore (lv' := [(8, .long (lN (d + 2 ^ n))), (5, .long (lN (r - (2 * d + 2 ^ n)))), (10, .long (lN (2 * (d + 2 ^ n)))), (14, .long (lN (2 * d + 2 ^ n))), (12, .long (lN (2 ^ n))), (7, .int half), (0, .double x)]) hx hb dX7_root_137 hl (by decide) rfl (fun ls hl => ?_)
        refine lv_lload hx hb dX7_root_139 (lv_at hl 1 rfl) ?_
        refine lv_lload hx hb dX7_root_141 (lv_at hl 1 rfl) ?_
        refine lv_ladd hx hb dX7_root_143 ?_
        rw [lN_add]
        refine lv_lstore (lv' := [(5, .long (lN (r - (2 * d + 2 ^ n) + (r - (2 * d + 2 ^ n))))), (8, .long (lN (d + 2 ^ n))), (10, .long (lN (2 * (d + 2 ^ n)))), (14, .long (lN (2 * d + 2 ^ n))), (12, .long (lN (2 ^ n))), (7, .int half), (0, .double x)]) hx hb dX7_root_144 hl (by decide) rfl (fun ls hl => ?_)
        refine lv_lload hx hb dX7_root_146 (lv_at hl 4 rfl) ?_
        refine lv_iconst (v := 1) hx hb dX7_root_148 (by decide) ?_
        refine lv_lshr (v := (lN (2 ^ n)) >>> (Int32.toInt64 1 &&& 63)) hx hb dX7_root_149 rfl ?_
        rw [show lN (2 ^ n) >>> (Int32.toInt64 1 &&& 63) = lN (2 ^ n / 2) from (pf_shr (d := 1) (by decide +kernel) (by omega))]
        refine lv_lstore (lv' := [(12, .long (lN (2 ^ n / 2))), (5, .long (lN (r - (2 * d + 2 ^ n) + (r - (2 * d + 2 ^ n))))), (8, .long (lN (d + 2 ^ n))), (10, .long (lN (2 * (d + 2 ^ n)))), (14, .long (lN (2 * d + 2 ^ n))), (7, .int half), (0, .double x)]) hx hb dX7_root_150 hl (by decide) rfl (fun ls hl => ?_)
        refine lv_goto (tgt := 96) hx hb dX7_root_152 (by decide) ?_
        exact ih (d + 2 ^ n) (r - (2 * d + 2 ^ n) + (r - (2 * d + 2 ^ n))) ls (by omega) q1 q2 (by omega) (lv_sub hl [0, 3, 2, 5, 1, 6] rfl)
set_option maxHeartbeats 4000000 in
set_option maxRecDepth 100000 in
theorem lpX7_ru {p : Program} {l : Launch} {e : Env} {R : Room} {s : State} {m : MethodId} {args : Array Value} {below : List Frame} {meth : Method} {c : Code} {H : Heap} {locs : List Loc} {cells slots : Nat} {Q : State → Prop} (hx : p.tables.exec = Jvm.exec) (hb : c.code = cX7_root) (hown : s.vm.findClass RX7 = some m.cls) (hts : ∀ w ∈ wsX7_root, w.before args s = true) {x : UInt64} {R1 e1 : Nat} (hR : R1 ≤ 2 ^ 53) (k : ∀ (r : UInt64) (ls : Array Slot), dv r R1 e1 → lv_has ls 16 [(14, .int 0), (12, .double r), (0, .double x)] → W p l e R s m args below meth c H locs cells slots Q (F0 m 210 ls [])) : ∀ (n e0 : Nat) (r : UInt64) (ls : Array Slot), dv r R1 e0 → n < 1200 → e0 + n = e1 ∧ e1 ≤ 2000 → lv_has ls 16 [(14, .int (nI n)), (12, .double r), (0, .double x)] → W p l e R s m args below meth c H locs cells slots Q (F0 m 191 ls []) := by
  intro n
  induction n with
  | zero =>
    intro e0 r ls hd hn he hl
    have hee : e0 = e1 := by omega
    subst hee
    refine lv_iload hx hb dX7_root_191 (lv_at hl 0 rfl) ?_
    refine lv_if_le (tgt := 210) hx hb dX7_root_193 (by decide) (fun c1 => ?_) (fun c1 => ?_)
    · exact k r ls hd (lv_sub hl [0, 1, 2] rfl)
    · exact absurd (show nI 0 ≤ 0 by decide) c1
  | succ n ih =>
    intro e0 r ls hd hn he hl
    refine lv_iload hx hb dX7_root_191 (lv_at hl 0 rfl) ?_
    refine lv_if_le (tgt := 210) hx hb dX7_root_193 (by decide) (fun c1 => ?_) (fun c1 => ?_)
    · exact absurd c1 (Int32.not_le.mpr (nI_lt (a := 0) (by omega) (by omega)))
    · refine lv_dload hx hb dX7_root_196 (lv_at hl 1 rfl) ?_
      refine lv_ldc2d hx hb hown (hts (.constantDouble RX7 3 (4611686018427387904)) (by decide +kernel)) dX7_root_198 ?_
      have g2 := sc_mul (j := e0 + 1) hd.1 gf_2.1 hR hd.2 fv_2 (by omega) (by omega)
      refine lv_dmul hx hb dX7_root_201 (fp_n64 g2.1) ?_
      refine lv_topd (fun v3 ev3 => ?_)
      rw [← ev3] at g2
      refine lv_dstore (lv' := [(12, .double v3), (14, .int (nI (n + 1))), (0, .double x)]) hx hb dX7_root_202 hl (by decide) rfl (fun ls hl => ?_)
      refine lv_iinc (v := (nI (n + 1)) + (-1)) (lv' := [(14, .int ((nI (n + 1)) + (-1))), (12, .double v3), (0, .double x)]) hx hb dX7_root_204 hl (k := 1) rfl rfl (by decide) rfl (fun ls hl => ?_)
      refine lv_goto (tgt := 191) hx hb dX7_root_207 (by decide) ?_
      have h9 : lv_has ls 16 [(14, .int (nI n)), (12, .double v3), (0, .double x)] := by have h8 := (lv_sub hl [0, 1, 2] rfl); rw [pk_m1] at h8; exact h8
      exact ih (e0 + 1) _ ls g2 (by omega) (by omega) h9
set_option maxHeartbeats 4000000 in
set_option maxRecDepth 100000 in
theorem lpX7_rw {p : Program} {l : Launch} {e : Env} {R : Room} {s : State} {m : MethodId} {args : Array Value} {below : List Frame} {meth : Method} {c : Code} {H : Heap} {locs : List Loc} {cells slots : Nat} {Q : State → Prop} (hx : p.tables.exec = Jvm.exec) (hb : c.code = cX7_root) (hown : s.vm.findClass RX7 = some m.cls) (hts : ∀ w ∈ wsX7_root, w.before args s = true) {x : UInt64} {R1 e1 : Nat} (hR : R1 ≤ 2 ^ 53) (k : ∀ (r : UInt64) (ls : Array Slot), dv r R1 e1 → lv_has ls 16 [(14, .int 0), (12, .double r), (0, .double x)] → W p l e R s m args below meth c H locs cells slots Q (F0 m 229 ls [])) : ∀ (n e0 : Nat) (r : UInt64) (ls : Array Slot), dv r R1 e0 → n < 1200 → e0 = e1 + n ∧ e0 ≤ 2000 → lv_has ls 16 [(14, .int (mI n)), (12, .double r), (0, .double x)] → W p l e R s m args below meth c H locs cells slots Q (F0 m 210 ls []) := by
  intro n
  induction n with
  | zero =>
    intro e0 r ls hd hn he hl
    have hee : e0 = e1 := by omega
    subst hee
    refine lv_iload hx hb dX7_root_210 (lv_at hl 0 rfl) ?_
    refine lv_if_ge (tgt := 229) hx hb dX7_root_212 (by decide) (fun c1 => ?_) (fun c1 => ?_)
    · exact k r ls hd (lv_sub hl [0, 1, 2] rfl)
    · exact absurd (show (0 : Int32) ≤ mI 0 by decide) c1
  | succ n ih =>
    intro e0 r ls hd hn he hl
    obtain ⟨e9, rfl⟩ : ∃ e9, e0 = e9 + 1 := ⟨e0 - 1, by omega⟩
    refine lv_iload hx hb dX7_root_210 (lv_at hl 0 rfl) ?_
    refine lv_if_ge (tgt := 229) hx hb dX7_root_212 (by decide) (fun c1 => ?_) (fun c1 => ?_)
    · exact absurd c1 (Int32.not_le.mpr (mI_neg (by omega)))
    · refine lv_dload hx hb dX7_root_215 (lv_at hl 1 rfl) ?_
      refine lv_ldc2d hx hb hown (hts (.constantDouble RX7 3 (4611686018427387904)) (by decide +kernel)) dX7_root_217 ?_
      have g2 := sc_div (k := 1) (i := e9) hd.1 gf_2.1 hR hd.2 fv_2 (by omega)
      refine lv_ddiv hx hb dX7_root_220 (fp_n64 g2.1) ?_
      refine lv_topd (fun v3 ev3 => ?_)
      rw [← ev3] at g2
      refine lv_dstore (lv' := [(12, .double v3), (14, .int (mI (n + 1))), (0, .double x)]) hx hb dX7_root_221 hl (by decide) rfl (fun ls hl => ?_)
      refine lv_iinc (v := (mI (n + 1)) + 1) (lv' := [(14, .int ((mI (n + 1)) + 1)), (12, .double v3), (0, .double x)]) hx hb dX7_root_223 hl (k := 1) rfl rfl (by decide) rfl (fun ls hl => ?_)
      refine lv_goto (tgt := 210) hx hb dX7_root_226 (by decide) ?_
      have h9 : lv_has ls 16 [(14, .int (mI n)), (12, .double v3), (0, .double x)] := by have h8 := (lv_sub hl [0, 1, 2] rfl); rw [mI_s] at h8; exact h8
      exact ih e9 _ ls g2 (by omega) (by omega) h9
set_option maxHeartbeats 4000000 in
set_option maxRecDepth 100000 in
theorem lpX7_rz {p : Program} {l : Launch} {e : Env} {R : Room} {s : State} {m : MethodId} {args : Array Value} {below : List Frame} {meth : Method} {c : Code} {H : Heap} {locs : List Loc} {cells slots : Nat} {Q : State → Prop} (hx : p.tables.exec = Jvm.exec) (hb : c.code = cX7_root) (hown : s.vm.findClass RX7 = some m.cls) (hts : ∀ w ∈ wsX7_root, w.before args s = true) {x r : UInt64} {n : Nat} {ls : Array Slot} (hn : n < 1200) (hl : lv_has ls 16 [(14, .int (mI (n + 1))), (12, .double r), (0, .double x)]) (k : ∀ (ls : Array Slot), lv_has ls 16 [(14, .int (mI (n + 1))), (12, .double r), (0, .double x)] → W p l e R s m args below meth c H locs cells slots Q (F0 m 210 ls [])) : W p l e R s m args below meth c H locs cells slots Q (F0 m 191 ls []) := by
  refine lv_iload hx hb dX7_root_191 (lv_at hl 0 rfl) ?_
  refine lv_if_le (tgt := 210) hx hb dX7_root_193 (by decide) (fun c1 => ?_) (fun c1 => ?_)
  · exact k ls hl
  · exact absurd (Int32.le_of_lt (mI_neg (by omega))) c1
set_option maxHeartbeats 4000000 in
set_option maxRecDepth 100000 in
theorem lpX7_re {p : Program} {l : Launch} {e : Env} {R : Room} {s : State} {m : MethodId} {args : Array Value} {below : List Frame} {meth : Method} {c : Code} {H : Heap} {locs : List Loc} {cells slots : Nat} {Q : State → Prop} (hx : p.tables.exec = Jvm.exec) (hb : c.code = cX7_root) (hown : s.vm.findClass RX7 = some m.cls) (hts : ∀ w ∈ wsX7_root, w.before args s = true) {x r : UInt64} {R1 h : Nat} (hR : R1 ≤ 2 ^ 53) (hh : h < 1023) (hd : dv r R1 1074) {ls : Array Slot} (hl : lv_has ls 16 [(14, .int (pI (2 * h) / 2 - 26)), (12, .double r), (0, .double x)]) (k : ∀ (r : UInt64) (ls : Array Slot), dv r R1 (h + 511) → lv_has ls 16 [(14, .int 0), (12, .double r), (0, .double x)] → W p l e R s m args below meth c H locs cells slots Q (F0 m 229 ls [])) : W p l e R s m args below meth c H locs cells slots Q (F0 m 191 ls []) := by
  rw [pI_half h hh] at hl
  by_cases h5 : 563 ≤ h
  · rw [if_pos h5] at hl
    refine lpX7_ru hx hb hown hts (e1 := h + 511) hR (fun r ls hd9 hl => ?_) (h - 563) 1074 r ls hd (by omega) (by omega) hl
    exact lpX7_rw hx hb hown hts (e1 := h + 511) hR k 0 (h + 511) r ls hd9 (by omega) (by omega) hl
  · rw [if_neg h5] at hl
    obtain ⟨n, hn⟩ : ∃ n, 563 - h = n + 1 := ⟨562 - h, by omega⟩
    rw [hn] at hl
    refine lpX7_rz hx hb hown hts (by omega) hl (fun ls hl => ?_)
    exact lpX7_rw hx hb hown hts (e1 := h + 511) hR k (n + 1) 1074 r ls hd (by omega) (by omega) hl
set_option maxRecDepth 100000 in
theorem M106 {N : Nat} (h : N < 2 ^ 54) : N * 2 ^ 52 < 2 ^ 106 := by omega
theorem nw_l2d {R : Nat} (hR : R ≤ 2 ^ 53) : dv (FP.l2d (lN R)) R 1074 := by
  have hT : (lN R).toInt = (R : Int) := pk_lT (by omega)
  have h1 := fv_int (FP.Core.l2d_int (a := lN R) (by rw [hT]; omega))
  rw [hT] at h1
  exact ⟨h1.1, by rw [h1.2, Int.natCast_mul]⟩
set_option maxHeartbeats 4000000 in
set_option maxRecDepth 100000 in
theorem lpX7_rt {p : Program} {l : Launch} {e : Env} {R : Room} {s : State} {m : MethodId} {args : Array Value} {below : List Frame} {meth : Method} {c : Code} {H : Heap} {locs : List Loc} {cells slots : Nat} {Q : State → Prop} (hx : p.tables.exec = Jvm.exec) (hb : c.code = cX7_root) (hown : s.vm.findClass RX7 = some m.cls) (hts : ∀ w ∈ wsX7_root, w.before args s = true) {x : UInt64} {N h : Nat} (hN1 : 2 ^ 52 ≤ N) (hN2 : N < 2 ^ 54) (hh : h < 1023) {ls : Array Slot} (hl : lv_has ls 16 [(7, .int (pI (2 * h))), (5, .long (lN N)), (0, .double x)]) (k : ∀ (A : Nat) (r : UInt64) (ls : Array Slot), A * A < N * 2 ^ 52 + A → N * 2 ^ 52 ≤ A * A + A → dv r A (h + 511) → lv_has ls 16 [(14, .int 0), (12, .double r), (0, .double x)] → W p l e R s m args below meth c H locs cells slots Q (F0 m 229 ls [])) : W p l e R s m args below meth c H locs cells slots Q (F0 m 78 ls []) := by
  refine lv_lload hx hb dX7_root_78 (lv_at hl 1 rfl) ?_
  refine lv_lload hx hb dX7_root_80 (lv_at hl 1 rfl) ?_
  refine lv_ladd hx hb dX7_root_82 ?_
  rw [lN_add]
  refine lv_lstore (lv' := [(5, .long (lN (N + N))), (7, .int (pI (2 * h))), (0, .double x)]) hx hb dX7_root_83 hl (by decide) rfl (fun ls hl => ?_)
  refine lv_lconst (v := 0) hx hb dX7_root_85 (by decide) ?_
  refine lv_lstore (lv' := [(8, .long 0), (5, .long (lN (N + N))), (7, .int (pI (2 * h))), (0, .double x)]) hx hb dX7_root_86 hl (by decide) rfl (fun ls hl => ?_)
  refine lv_lconst (v := 0) hx hb dX7_root_88 (by decide) ?_
  refine lv_lstore (lv' := [(10, .long 0), (8, .long 0), (5, .long (lN (N + N))), (7, .int (pI (2 * h))), (0, .double x)]) hx hb dX7_root_89 hl (by decide) rfl (fun ls hl => ?_)
  refine lv_ldc2 hx hb hown (hts (.constantLong RX7 11 (9007199254740992)) (by decide +kernel)) dX7_root_91 ?_
  refine lv_lstore (lv' := [(12, .long 9007199254740992), (10, .long 0), (8, .long 0), (5, .long (lN (N + N))), (7, .int (pI (2 * h))), (0, .double x)]) hx hb dX7_root_94 hl (by decide) rfl (fun ls hl => ?_)
  have h96 : lv_has ls 16 [(12, .long (lN (2 ^ 54 / 2))), (10, .long (lN (2 * 0))), (8, .long (lN 0)), (7, .int (pI (2 * h))), (5, .long (lN (N + N))), (0, .double x)] := (lv_sub hl [0, 1, 2, 4, 3, 5] rfl)
  refine lpX7_rd hx hb hown hts (X := N * 2 ^ 54) (fun d r ls q1 q2 q3 q4 hl => ?_) 54 0 (N + N) ls (by omega) (by omega) (by omega) (by omega) h96
  obtain ⟨q5, q6, q7⟩ := dg_end hN1 q1 q2
  refine lv_lload hx hb dX7_root_155 (lv_at hl 2 rfl) ?_
  refine lv_lload hx hb dX7_root_157 (lv_at hl 4 rfl) ?_
  refine lv_lconst (v := 0) hx hb dX7_root_159 (by decide) ?_
  refine W.lcmp hx hb dX7_root_160 ?_
  refine lv_if_eq (tgt := 171) hx hb dX7_root_161 (by decide) (fun c1 => ?_) (fun c1 => ?_)
  · rw [lg_cmp_eq] at c1
    have hr0 : r = 0 := (pk_lEQ (b := 0) (by omega) (by omega)).mp c1
    have hd0 : d % 2 = 0 := q5.resolve_right (fun hc => hc hr0)
    refine lv_lconst (v := 0) hx hb dX7_root_171 (by decide) ?_
    refine lv_ladd hx hb dX7_root_172 ?_
    rw [show lN d + 0 = lN (d + d % 2) by rw [hd0]; exact lN_add d 0]
    refine lv_lstore (lv' := [(8, .long (lN (d + d % 2))), (12, .long 0), (10, .long (lN (2 * d))), (7, .int (pI (2 * h))), (5, .long (lN r)), (0, .double x)]) hx hb dX7_root_173 hl (by decide) rfl (fun ls hl => ?_)
    refine lv_lload hx hb dX7_root_175 (lv_at hl 0 rfl) ?_
    refine lv_iconst (v := 1) hx hb dX7_root_177 (by decide) ?_
    refine lv_lshr (v := (lN (d + d % 2)) >>> (Int32.toInt64 1 &&& 63)) hx hb dX7_root_178 rfl ?_
    rw [show lN (d + d % 2) >>> (Int32.toInt64 1 &&& 63) = lN ((d + d % 2) / 2) from (pf_shr (d := 1) (by decide +kernel) (by omega))]
    refine lv_l2d hx hb dX7_root_179 ?_
    have hR : (d + d % 2) / 2 ≤ 2 ^ 53 := rt_sq_le (M106 hN2) q6
    have hf := nw_l2d hR
    refine lv_dstore (lv' := [(12, .double (FP.l2d (lN ((d + d % 2) / 2)))), (8, .long (lN (d + d % 2))), (10, .long (lN (2 * d))), (7, .int (pI (2 * h))), (5, .long (lN r)), (0, .double x)]) hx hb dX7_root_180 hl (by decide) rfl (fun ls hl => ?_)
    refine lv_iload hx hb dX7_root_182 (lv_at hl 3 rfl) ?_
    refine lv_iconst (v := 2) hx hb dX7_root_184 (by decide) ?_
    refine lv_idiv hx hb dX7_root_185 (by decide) ?_
    refine lv_bipush (v := 26) hx hb dX7_root_186 (by decide) ?_
    refine lv_isub hx hb dX7_root_188 ?_
    refine lv_istore (lv' := [(14, .int (((pI (2 * h)) / 2) - 26)), (12, .double (FP.l2d (lN ((d + d % 2) / 2)))), (8, .long (lN (d + d % 2))), (10, .long (lN (2 * d))), (7, .int (pI (2 * h))), (5, .long (lN r)), (0, .double x)]) hx hb dX7_root_189 hl (by decide) rfl (fun ls hl => ?_)
    have h191 : lv_has ls 16 [(14, .int (pI (2 * h) / 2 - 26)), (12, .double (FP.l2d (lN ((d + d % 2) / 2)))), (0, .double x)] := (lv_sub hl [0, 1, 6] rfl)
    exact lpX7_re hx hb hown hts hR hh hf h191 (fun r ls hd9 hl => k _ r ls q6 q7 hd9 hl)
  · rw [lg_cmp_eq] at c1
    refine lv_lload hx hb dX7_root_164 (lv_at hl 2 rfl) ?_
    refine lv_lconst (v := 1) hx hb dX7_root_166 (by decide) ?_
    refine lv_land hx hb dX7_root_167 ?_
    rw [g_and1 (by omega)]
    refine lv_goto (tgt := 172) hx hb dX7_root_168 (by decide) ?_
    refine lv_ladd hx hb dX7_root_172 ?_
    rw [lN_add]
    refine lv_lstore (lv' := [(8, .long (lN (d + d % 2))), (12, .long 0), (10, .long (lN (2 * d))), (7, .int (pI (2 * h))), (5, .long (lN r)), (0, .double x)]) hx hb dX7_root_173 hl (by decide) rfl (fun ls hl => ?_)
    refine lv_lload hx hb dX7_root_175 (lv_at hl 0 rfl) ?_
    refine lv_iconst (v := 1) hx hb dX7_root_177 (by decide) ?_
    refine lv_lshr (v := (lN (d + d % 2)) >>> (Int32.toInt64 1 &&& 63)) hx hb dX7_root_178 rfl ?_
    rw [show lN (d + d % 2) >>> (Int32.toInt64 1 &&& 63) = lN ((d + d % 2) / 2) from (pf_shr (d := 1) (by decide +kernel) (by omega))]
    refine lv_l2d hx hb dX7_root_179 ?_
    have hR : (d + d % 2) / 2 ≤ 2 ^ 53 := rt_sq_le (M106 hN2) q6
    have hf := nw_l2d hR
    refine lv_dstore (lv' := [(12, .double (FP.l2d (lN ((d + d % 2) / 2)))), (8, .long (lN (d + d % 2))), (10, .long (lN (2 * d))), (7, .int (pI (2 * h))), (5, .long (lN r)), (0, .double x)]) hx hb dX7_root_180 hl (by decide) rfl (fun ls hl => ?_)
    refine lv_iload hx hb dX7_root_182 (lv_at hl 3 rfl) ?_
    refine lv_iconst (v := 2) hx hb dX7_root_184 (by decide) ?_
    refine lv_idiv hx hb dX7_root_185 (by decide) ?_
    refine lv_bipush (v := 26) hx hb dX7_root_186 (by decide) ?_
    refine lv_isub hx hb dX7_root_188 ?_
    refine lv_istore (lv' := [(14, .int (((pI (2 * h)) / 2) - 26)), (12, .double (FP.l2d (lN ((d + d % 2) / 2)))), (8, .long (lN (d + d % 2))), (10, .long (lN (2 * d))), (7, .int (pI (2 * h))), (5, .long (lN r)), (0, .double x)]) hx hb dX7_root_189 hl (by decide) rfl (fun ls hl => ?_)
    have h191 : lv_has ls 16 [(14, .int (pI (2 * h) / 2 - 26)), (12, .double (FP.l2d (lN ((d + d % 2) / 2)))), (0, .double x)] := (lv_sub hl [0, 1, 6] rfl)
    exact lpX7_re hx hb hown hts hR hh hf h191 (fun r ls hd9 hl => k _ r ls q6 q7 hd9 hl)
set_option maxHeartbeats 4000000 in
set_option maxRecDepth 100000 in
theorem mX7_root (l : Launch) (x : UInt64)  (hok : fRt x) : Met l yX7_root wsX7_root ({ frames := 0, cells := 0, slots := 0, locals := 0 }) (va_Pc [.double x] (fun _ => True)) (va_Qd (fun (r : UInt64) (u : Unit) => r = fsq x ∧ IsRt x r) (fun _ _ => True) nA) 0 0 nA := by
  refine Met.ofW (cc := cX7_root) (maxL := 16) (ret := (some .double)) (by decide) rfl ?_
  intro p e s m args below meth c s₁ B hml hv
  obtain ⟨rfl, -⟩ := hv
  have hx := B.exec
  have hb := B.bytes
  have hr := B.returns
  have hts := atoms_spec (ws := wsX7_root) B.pre
  have hown : s.vm.findClass RX7 = some m.cls := findClass_of_methodNamed B.named
  have hlocks := B.notSynchronized
  have hS : va_S nA s.heap s.heap [] := va_S.rf
  have hl := lv_entry ([.double x]) (n := 16) (Nat.le_of_ble_eq_true rfl)
  rw [lg_entry_eq]
  generalize (lg_sl ([.double x]) ++ List.replicate (16 - (lg_sl ([.double x])).length) Slot.unset).toArray = ls at hl ⊢
  have hl : lv_has ls 16 [(0, .double x)] := hl
  skip
  rcases hok with h0 | ⟨hf, h0, hf2⟩
  · subst h0
    refine lv_dload_n hx hb dX7_root_0 rfl (lv_at hl 0 rfl) ?_
    refine lv_dconst0 hx hb dX7_root_1 ?_
    refine lv_dcmp hx hb dX7_root_2 ?_
    rw [show Op.cmpValue (FP.dcmp 0 FP.dconst0) CmpOp.l = 0 by decide +kernel]
    refine lv_if_ne (tgt := 8) hx hb dX7_root_3 (by decide) (fun c2 => absurd c2 (by decide)) (fun _ => ?_)
    refine lv_dload_n hx hb dX7_root_6 rfl (lv_at hl 0 rfl) ?_
    have hq : IsRt 0 0 := Or.inl ⟨rfl, rfl⟩
    exact W.dret (v := 0) hx hb hr (fun t ht hW => ⟨⟨0, (), rfl, ⟨fsq_eq hq, hq⟩, trivial⟩, hS.F ht⟩) hS.2.2 dX7_root_7
  · obtain ⟨sg, cc, i, hc1, hc2, hi, hv, -⟩ := fv_normb hf ⟨by omega, by generalize (2 : Nat) ^ 2090 = T at hf2 ⊢; omega⟩
    have hP0 : 0 < cc * 2 ^ i := Nat.mul_pos (by omega) (Nat.two_pow_pos i)
    have hd : dv x cc i := by
      cases sg with
      | false => exact ⟨hf, hv⟩
      | true =>
        have hv2 : fv x = -((cc * 2 ^ i : Nat) : Int) := hv
        omega
    refine lv_dload_n hx hb dX7_root_0 rfl (lv_at hl 0 rfl) ?_
    refine lv_dconst0 hx hb dX7_root_1 ?_
    refine lv_dcmp hx hb dX7_root_2 ?_
    rw [fp_cv hd.1 gf_c0.1]
    refine lv_if_ne (tgt := 8) hx hb dX7_root_3 (by decide) (fun c1 => ?_) (fun c1 => ?_)
    · rw [fcv_eq] at c1
      refine lv_dload_n hx hb dX7_root_8 rfl (lv_at hl 0 rfl) ?_
      refine lv_dstore_n (lv' := [(2, .double x), (0, .double x)]) hx hb dX7_root_9 rfl hl (by decide) rfl (fun ls hl => ?_)
      refine lv_iconst (v := 0) hx hb dX7_root_10 (by decide) ?_
      refine lv_istore (lv' := [(4, .int 0), (2, .double x), (0, .double x)]) hx hb dX7_root_11 hl (by decide) rfl (fun ls hl => ?_)
      have h13 : lv_has ls 16 [(4, .int (pI 1074)), (2, .double x), (0, .double x)] := (lv_sub hl [0, 1, 2] rfl)
      refine lpX7_r0 hx hb hown hts hc1 hc2 hi hd h13 (fun y ls hd9 hl => ?_)
      refine lv_dload_n hx hb dX7_root_53 rfl (lv_at hl 1 rfl) ?_
      refine lv_d2l hx hb dX7_root_54 ?_
      rw [fv_d2l hd9.1 hd9.2 (by omega)]
      refine lv_lstore (lv' := [(5, .long (lN cc)), (4, .int (pI i)), (2, .double y), (0, .double x)]) hx hb dX7_root_55 hl (by decide) rfl (fun ls hl => ?_)
      refine lv_iload hx hb dX7_root_57 (lv_at hl 1 rfl) ?_
      refine lv_istore (lv' := [(7, .int (pI i)), (5, .long (lN cc)), (4, .int (pI i)), (2, .double y), (0, .double x)]) hx hb dX7_root_59 hl (by decide) rfl (fun ls hl => ?_)
      refine lv_iload hx hb dX7_root_61 (lv_at hl 2 rfl) ?_
      refine lv_iconst (v := 2) hx hb dX7_root_63 (by decide) ?_
      refine lv_irem hx hb dX7_root_64 (by decide) ?_
      refine lv_if_eq (tgt := 78) hx hb dX7_root_65 (by decide) (fun c2 => ?_) (fun c2 => ?_)
      · have hpar := (pI_par i (by omega)).mp c2
        obtain ⟨h, rfl⟩ : ∃ h, i = 2 * h := ⟨i / 2, by omega⟩
        have hdN : dv x cc (2 * h) := hd
        obtain ⟨N, hNe⟩ : ∃ N, N = cc := ⟨_, rfl⟩
        have h78 : lv_has ls 16 [(7, .int (pI (2 * h))), (5, .long (lN cc)), (0, .double x)] := (lv_sub hl [0, 1, 4] rfl)
        rw [← hNe] at h78 hdN
        have hN1 : 2 ^ 52 ≤ N := by omega
        have hN2 : N < 2 ^ 54 := by omega
        refine lpX7_rt hx hb hown hts hN1 hN2 (by omega) h78 (fun R r ls hq1 hq2 hq3 hl => ?_)
        refine lv_dload hx hb dX7_root_229 (lv_at hl 1 rfl) ?_
        have hq : IsRt x r := Or.inr ⟨N, h, R, hdN, hN1, hN2, hq1, hq2, hq3⟩
        exact W.dret (v := r) hx hb hr (fun t ht hW => ⟨⟨r, (), rfl, ⟨fsq_eq hq, hq⟩, trivial⟩, hS.F ht⟩) hS.2.2 dX7_root_231
      · have hpar : i % 2 = 1 := by have := mt (pI_par i (by omega)).mpr c2; omega
        obtain ⟨h, rfl⟩ : ∃ h, i = 2 * h + 1 := ⟨i / 2, by omega⟩
        have hdN : dv x (cc + cc) (2 * h) := ⟨hd.1, by rw [hd.2, Nat.pow_succ, Nat.mul_comm (2 ^ (2 * h)) 2, ← Nat.mul_assoc]; congr 2; omega⟩
        refine lv_lload hx hb dX7_root_68 (lv_at hl 1 rfl) ?_
        refine lv_lload hx hb dX7_root_70 (lv_at hl 1 rfl) ?_
        refine lv_ladd hx hb dX7_root_72 ?_
        refine lv_lstore (lv' := [(5, .long ((lN cc) + (lN cc))), (7, .int (pI (2 * h + 1))), (4, .int (pI (2 * h + 1))), (2, .double y), (0, .double x)]) hx hb dX7_root_73 hl (by decide) rfl (fun ls hl => ?_)
        refine lv_iinc (v := (pI (2 * h + 1)) + (-1)) (lv' := [(7, .int ((pI (2 * h + 1)) + (-1))), (5, .long ((lN cc) + (lN cc))), (4, .int (pI (2 * h + 1))), (2, .double y), (0, .double x)]) hx hb dX7_root_75 hl (k := 1) rfl rfl (by decide) rfl (fun ls hl => ?_)
        obtain ⟨N, hNe⟩ : ∃ N, N = cc + cc := ⟨_, rfl⟩
        have h78 : lv_has ls 16 [(7, .int (pI (2 * h))), (5, .long (lN (cc + cc))), (0, .double x)] := by have h8 := (lv_sub hl [0, 1, 4] rfl); rw [lN_add, pI_p] at h8; exact h8
        rw [← hNe] at h78 hdN
        have hN1 : 2 ^ 52 ≤ N := by omega
        have hN2 : N < 2 ^ 54 := by omega
        refine lpX7_rt hx hb hown hts hN1 hN2 (by omega) h78 (fun R r ls hq1 hq2 hq3 hl => ?_)
        refine lv_dload hx hb dX7_root_229 (lv_at hl 1 rfl) ?_
        have hq : IsRt x r := Or.inr ⟨N, h, R, hdN, hN1, hN2, hq1, hq2, hq3⟩
        exact W.dret (v := r) hx hb hr (fun t ht hW => ⟨⟨r, (), rfl, ⟨fsq_eq hq, hq⟩, trivial⟩, hS.F ht⟩) hS.2.2 dX7_root_231
    · rw [fcv_eq] at c1
      exact absurd c1 (by rw [fv_c0]; omega)
