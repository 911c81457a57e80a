/-! THE MODEL'S BITS AND ROOT: X7.bitsOf, X7.root -/
set_option maxHeartbeats 4000000 in
set_option maxRecDepth 100000 in
theorem lpX7_ba {p : Program} {l : Launch} {e : Env} {R : Room} {s : State} {m : MethodId} {args : Array Value} {below : List Frame} {meth : Method} {c : Code} {H : Heap} {locs : List Loc} {cells slots : Nat} {Q : State → Prop} (hx : p.tables.exec = Jvm.exec) (hb : c.code = cX7_bitsOf) (hown : s.vm.findClass RX7 = some m.cls) (hts : ∀ w ∈ wsX7_bitsOf, w.before args s = true) {x : UInt64} {mi : Int32} {cc p1 : Nat} (hc1 : 2 ^ 52 ≤ cc) (hc2 : cc < 2 ^ 53) (k : ∀ (part : UInt64) (ls : Array Slot), dv part cc 1074 → lv_has ls 10 [(5, .int (nI p1)), (3, .double part), (2, .int mi), (0, .double x)] → W p l e R s m args below meth c H locs cells slots Q (F0 m 63 ls [])) : ∀ (n p0 : Nat) (part : UInt64) (ls : Array Slot), dv part cc (1074 + n) → p0 + n = p1 ∧ p1 < 2 ^ 20 ∧ n ≤ 964 → lv_has ls 10 [(5, .int (nI p0)), (3, .double part), (2, .int mi), (0, .double x)] → W p l e R s m args below meth c H locs cells slots Q (F0 m 43 ls []) := by
  intro n
  induction n with
  | zero =>
    intro p0 part ls hd he hl
    have hee : p0 = p1 := by omega
    subst hee
    have hd : dv part cc 1074 := hd
    refine lv_dload_n hx hb dX7_bitsOf_43 rfl (lv_at hl 1 rfl) ?_
    refine lv_ldc2d hx hb hown (hts (.constantDouble RX7 1 (4845873199050653696)) (by decide +kernel)) dX7_bitsOf_44 ?_
    refine lv_dcmp hx hb dX7_bitsOf_47 ?_
    rw [fp_cv hd.1 gf_53.1]
    refine lv_if_lt (tgt := 63) hx hb dX7_bitsOf_48 (by decide) (fun c1 => ?_) (fun c1 => ?_)
    · rw [fcv_lt] at c1
      exact k part ls hd (lv_sub hl [0, 1, 2, 3] rfl)
    · rw [fcv_lt] at c1
      exact absurd (dv_lt hd fv_53 hc2 (by omega)) c1
  | succ n ih =>
    intro p0 part ls hd he hl
    refine lv_dload_n hx hb dX7_bitsOf_43 rfl (lv_at hl 1 rfl) ?_
    refine lv_ldc2d hx hb hown (hts (.constantDouble RX7 1 (4845873199050653696)) (by decide +kernel)) dX7_bitsOf_44 ?_
    refine lv_dcmp hx hb dX7_bitsOf_47 ?_
    rw [fp_cv hd.1 gf_53.1]
    refine lv_if_lt (tgt := 63) hx hb dX7_bitsOf_48 (by decide) (fun c1 => ?_) (fun c1 => ?_)
    · rw [fcv_lt] at c1
      exact absurd c1 (dv_ge hd fv_53 hc1 (by omega))
    · rw [fcv_lt] at c1
      refine lv_dload_n hx hb dX7_bitsOf_51 rfl (lv_at hl 1 rfl) ?_
      refine lv_ldc2d hx hb hown (hts (.constantDouble RX7 3 (4611686018427387904)) (by decide +kernel)) dX7_bitsOf_52 ?_
      have g2 := sc_div (k := 1) (i := 1074 + n) hd.1 gf_2.1 (Nat.le_of_lt hc2) hd.2 fv_2 (by omega)
      refine lv_ddiv hx hb dX7_bitsOf_55 (fp_n64 g2.1) ?_
      refine lv_topd (fun v3 ev3 => ?_)
      rw [← ev3] at g2
      refine lv_dstore_n (lv' := [(3, .double v3), (5, .int (nI p0)), (2, .int mi), (0, .double x)]) hx hb dX7_bitsOf_56 rfl hl (by decide) rfl (fun ls hl => ?_)
      refine lv_iinc (v := (nI p0) + 1) (lv' := [(5, .int ((nI p0) + 1)), (3, .double v3), (2, .int mi), (0, .double x)]) hx hb dX7_bitsOf_57 hl (k := 1) rfl rfl (by decide) rfl (fun ls hl => ?_)
      refine lv_goto (tgt := 43) hx hb dX7_bitsOf_60 (by decide) ?_
      have h9 : lv_has ls 10 [(5, .int (nI (p0 + 1))), (3, .double v3), (2, .int mi), (0, .double x)] := by have h8 := (lv_sub hl [0, 1, 2, 3] rfl); rw [nI_1] at h8; exact h8
      exact ih (p0 + 1) _ ls g2 (by omega) h9
set_option maxHeartbeats 4000000 in
set_option maxRecDepth 100000 in
theorem lpX7_bb {p : Program} {l : Launch} {e : Env} {R : Room} {s : State} {m : MethodId} {args : Array Value} {below : List Frame} {meth : Method} {c : Code} {H : Heap} {locs : List Loc} {cells slots : Nat} {Q : State → Prop} (hx : p.tables.exec = Jvm.exec) (hb : c.code = cX7_bitsOf) (hown : s.vm.findClass RX7 = some m.cls) (hts : ∀ w ∈ wsX7_bitsOf, w.before args s = true) {x : UInt64} {mi : Int32} {cc p1 : Nat} (hc1 : 2 ^ 52 ≤ cc) (hc2 : cc < 2 ^ 53) (k : ∀ (part : UInt64) (ls : Array Slot), dv part cc 1074 → lv_has ls 10 [(5, .int (nI p1)), (3, .double part), (2, .int mi), (0, .double x)] → W p l e R s m args below meth c H locs cells slots Q (F0 m 89 ls [])) : ∀ (n p0 : Nat) (part : UInt64) (ls : Array Slot), dv part cc (1074 - n) → p0 = p1 + n ∧ p0 < 2 ^ 20 ∧ n ≤ 1074 ∧ 1 ≤ p1 → lv_has ls 10 [(5, .int (nI p0)), (3, .double part), (2, .int mi), (0, .double x)] → W p l e R s m args below meth c H locs cells slots Q (F0 m 63 ls []) := by
  intro n
  induction n with
  | zero =>
    intro p0 part ls hd he hl
    have hee : p0 = p1 := by omega
    subst hee
    have hd : dv part cc 1074 := hd
    refine lv_dload_n hx hb dX7_bitsOf_63 rfl (lv_at hl 1 rfl) ?_
    refine lv_ldc2d hx hb hown (hts (.constantDouble RX7 5 (4841369599423283200)) (by decide +kernel)) dX7_bitsOf_64 ?_
    refine lv_dcmp hx hb dX7_bitsOf_67 ?_
    rw [fp_cv hd.1 gf_52.1]
    refine lv_if_ge (tgt := 89) hx hb dX7_bitsOf_68 (by decide) (fun c1 => ?_) (fun c1 => ?_)
    · rw [fcv_ge] at c1
      exact k part ls hd (lv_sub hl [0, 1, 2, 3] rfl)
    · rw [fcv_ge] at c1
      exact absurd (Int.not_lt.mp (dv_ge hd fv_52 hc1 (by omega))) c1
  | succ n ih =>
    intro p0 part ls hd he hl
    obtain ⟨p9, rfl⟩ : ∃ p9, p0 = p9 + 1 := ⟨p0 - 1, by omega⟩
    refine lv_dload_n hx hb dX7_bitsOf_63 rfl (lv_at hl 1 rfl) ?_
    refine lv_ldc2d hx hb hown (hts (.constantDouble RX7 5 (4841369599423283200)) (by decide +kernel)) dX7_bitsOf_64 ?_
    refine lv_dcmp hx hb dX7_bitsOf_67 ?_
    rw [fp_cv hd.1 gf_52.1]
    refine lv_if_ge (tgt := 89) hx hb dX7_bitsOf_68 (by decide) (fun c1 => ?_) (fun c1 => ?_)
    · rw [fcv_ge] at c1
      exact absurd (dv_lt hd fv_52 hc2 (by omega)) (Int.not_lt.mpr c1)
    · rw [fcv_ge] at c1
      refine lv_iload hx hb dX7_bitsOf_71 (lv_at hl 0 rfl) ?_
      refine lv_iconst (v := 1) hx hb dX7_bitsOf_73 (by decide) ?_
      refine lv_icmp_le (tgt := 89) hx hb dX7_bitsOf_74 (by decide) (fun c2 => ?_) (fun c2 => ?_)
      · have i3 := Int32.not_lt.mpr c2
        exact absurd ((nI_leI (b := 1) (by omega) (by omega)).mp c2) (by omega)
      · have i4 := Int32.not_le.mp c2
        refine lv_dload_n hx hb dX7_bitsOf_77 rfl (lv_at hl 1 rfl) ?_
        refine lv_ldc2d hx hb hown (hts (.constantDouble RX7 3 (4611686018427387904)) (by decide +kernel)) dX7_bitsOf_78 ?_
        have g5 := sc_mul (j := 1074 - n) hd.1 gf_2.1 (Nat.le_of_lt hc2) hd.2 fv_2 (by omega) (by omega)
        refine lv_dmul hx hb dX7_bitsOf_81 (fp_n64 g5.1) ?_
        refine lv_topd (fun v6 ev6 => ?_)
        rw [← ev6] at g5
        refine lv_dstore_n (lv' := [(3, .double v6), (5, .int (nI (p9 + 1))), (2, .int mi), (0, .double x)]) hx hb dX7_bitsOf_82 rfl hl (by decide) rfl (fun ls hl => ?_)
        refine lv_iinc (v := (nI (p9 + 1)) + (-1)) (lv' := [(5, .int ((nI (p9 + 1)) + (-1))), (3, .double v6), (2, .int mi), (0, .double x)]) hx hb dX7_bitsOf_83 hl (k := 1) rfl rfl (by decide) rfl (fun ls hl => ?_)
        refine lv_goto (tgt := 63) hx hb dX7_bitsOf_86 (by decide) ?_
        have h9 : lv_has ls 10 [(5, .int (nI p9)), (3, .double v6), (2, .int mi), (0, .double x)] := by have h8 := (lv_sub hl [0, 1, 2, 3] rfl); rw [pk_m1] at h8; exact h8
        exact ih p9 _ ls g5 (by omega) h9
set_option maxHeartbeats 4000000 in
set_option maxRecDepth 100000 in
theorem lpX7_bz {p : Program} {l : Launch} {e : Env} {R : Room} {s : State} {m : MethodId} {args : Array Value} {below : List Frame} {meth : Method} {c : Code} {H : Heap} {locs : List Loc} {cells slots : Nat} {Q : State → Prop} (hx : p.tables.exec = Jvm.exec) (hb : c.code = cX7_bitsOf) (hown : s.vm.findClass RX7 = some m.cls) (hts : ∀ w ∈ wsX7_bitsOf, w.before args s = true) {x : UInt64} {mi : Int32} (k : ∀ (ls : Array Slot), lv_has ls 10 [(5, .int 1), (3, .double 0), (2, .int mi), (0, .double x)] → W p l e R s m args below meth c H locs cells slots Q (F0 m 89 ls [])) : ∀ (n : Nat) (ls : Array Slot), n < 2000 → lv_has ls 10 [(5, .int (nI (n + 1))), (3, .double 0), (2, .int mi), (0, .double x)] → W p l e R s m args below meth c H locs cells slots Q (F0 m 63 ls []) := by
  have hz : FP.Core.DFin 0 ∧ True := ⟨(FP.Core.fin_bits 0).mpr (by decide +kernel), trivial⟩
  intro n
  induction n with
  | zero =>
    intro ls hn hl
    refine lv_dload_n hx hb dX7_bitsOf_63 rfl (lv_at hl 1 rfl) ?_
    refine lv_ldc2d hx hb hown (hts (.constantDouble RX7 5 (4841369599423283200)) (by decide +kernel)) dX7_bitsOf_64 ?_
    refine lv_dcmp hx hb dX7_bitsOf_67 ?_
    rw [show Op.cmpValue (FP.dcmp 0 4841369599423283200) CmpOp.g = (-1) by decide +kernel]
    refine lv_if_ge (tgt := 89) hx hb dX7_bitsOf_68 (by decide) (fun c2 => absurd c2 (by decide)) (fun _ => ?_)
    refine lv_iload hx hb dX7_bitsOf_71 (lv_at hl 0 rfl) ?_
    refine lv_iconst (v := 1) hx hb dX7_bitsOf_73 (by decide) ?_
    refine lv_icmp_le (tgt := 89) hx hb dX7_bitsOf_74 (by decide) (fun c3 => ?_) (fun c3 => ?_)
    · have i4 := Int32.not_lt.mpr c3
      exact k ls (lv_sub hl [0, 1, 2, 3] rfl)
    · have i5 := Int32.not_le.mp c3
      exact absurd (show nI (0 + 1) ≤ (1 : Int32) by decide) c3
  | succ n ih =>
    intro ls hn hl
    refine lv_dload_n hx hb dX7_bitsOf_63 rfl (lv_at hl 1 rfl) ?_
    refine lv_ldc2d hx hb hown (hts (.constantDouble RX7 5 (4841369599423283200)) (by decide +kernel)) dX7_bitsOf_64 ?_
    refine lv_dcmp hx hb dX7_bitsOf_67 ?_
    rw [show Op.cmpValue (FP.dcmp 0 4841369599423283200) CmpOp.g = (-1) by decide +kernel]
    refine lv_if_ge (tgt := 89) hx hb dX7_bitsOf_68 (by decide) (fun c2 => absurd c2 (by decide)) (fun _ => ?_)
    refine lv_iload hx hb dX7_bitsOf_71 (lv_at hl 0 rfl) ?_
    refine lv_iconst (v := 1) hx hb dX7_bitsOf_73 (by decide) ?_
    refine lv_icmp_le (tgt := 89) hx hb dX7_bitsOf_74 (by decide) (fun c3 => ?_) (fun c3 => ?_)
    · have i4 := Int32.not_lt.mpr c3
      exact absurd ((nI_leI (b := 1) (by omega) (by omega)).mp c3) (by omega)
    · have i5 := Int32.not_le.mp c3
      refine lv_dload_n hx hb dX7_bitsOf_77 rfl (lv_at hl 1 rfl) ?_
      refine lv_ldc2d hx hb hown (hts (.constantDouble RX7 3 (4611686018427387904)) (by decide +kernel)) dX7_bitsOf_78 ?_
      refine lv_dmul hx hb dX7_bitsOf_81 (by unfold vf_n64; decide +kernel) ?_
      refine lv_dstore_n (lv' := [(3, .double (FP.dmul 0 4611686018427387904)), (5, .int (nI (n + 1 + 1))), (2, .int mi), (0, .double x)]) hx hb dX7_bitsOf_82 rfl hl (by decide) rfl (fun ls hl => ?_)
      refine lv_iinc (v := (nI (n + 1 + 1)) + (-1)) (lv' := [(5, .int ((nI (n + 1 + 1)) + (-1))), (3, .double (FP.dmul 0 4611686018427387904)), (2, .int mi), (0, .double x)]) hx hb dX7_bitsOf_83 hl (k := 1) rfl rfl (by decide) rfl (fun ls hl => ?_)
      refine lv_goto (tgt := 63) hx hb dX7_bitsOf_86 (by decide) ?_
      have h9 : lv_has ls 10 [(5, .int (nI (n + 1))), (3, .double 0), (2, .int mi), (0, .double x)] := by have h8 := (lv_sub hl [0, 1, 2, 3] rfl); rw [pk_m1, show FP.dmul 0 4611686018427387904 = 0 by decide +kernel] at h8; exact h8
      exact ih ls (by omega) h9
theorem sub_neg {x : UInt64} {c i : Nat} (hx : FP.Core.DFin x) (h : fv x = -((c * 2 ^ i : Nat) : Int)) (hc : c ≤ 2 ^ 53) (hi : i ≤ 2040) : dv (FP.dsub FP.dconst0 x) c i := by
  have hb : c * 2 ^ i < 2 ^ 2097 := by
    refine Nat.lt_of_le_of_lt (Nat.mul_le_mul_right _ hc) ?_
    rw [← Nat.pow_add]
    exact Nat.pow_lt_pow_right (by omega) (by omega)
  have hs : fv FP.dconst0 - fv x = ((c * 2 ^ i : Nat) : Int) := by rw [fv_c0, h]; omega
  obtain ⟨f1, f2⟩ := fp_sub gf_c0.1 hx (by rw [hs, Int.natAbs_natCast]; exact hb)
  rw [hs] at f2
  have h3 := f2.1
  rw [Int.natAbs_natCast] at h3
  have h4 := rn_exact (by omega) h3 (by rw [Nat.one_mul]) hc
  refine ⟨f1, ?_⟩
  have := f2.2.1 (by omega)
  omega
set_option maxHeartbeats 4000000 in
set_option maxRecDepth 100000 in
theorem lpX7_bs {p : Program} {l : Launch} {e : Env} {R : Room} {s : State} {m : MethodId} {args : Array Value} {below : List Frame} {meth : Method} {c : Code} {H : Heap} {locs : List Loc} {cells slots : Nat} {Q : State → Prop} (hx : p.tables.exec = Jvm.exec) (hb : c.code = cX7_bitsOf) (hown : s.vm.findClass RX7 = some m.cls) (hts : ∀ w ∈ wsX7_bitsOf, w.before args s = true) {x pp : UInt64} {mi : Int32} {cc i : Nat} (hc2 : cc < 2 ^ 53) (h : i ≤ 1074) (hd : dv pp cc i) {ls : Array Slot} (hl : lv_has ls 10 [(5, .int (nI 1075)), (3, .double pp), (2, .int mi), (0, .double x)]) (k : ∀ (ls : Array Slot), lv_has ls 10 [(5, .int (nI 1075)), (3, .double pp), (2, .int mi), (0, .double x)] → W p l e R s m args below meth c H locs cells slots Q (F0 m 63 ls [])) : W p l e R s m args below meth c H locs cells slots Q (F0 m 43 ls []) := by
  refine lv_dload_n hx hb dX7_bitsOf_43 rfl (lv_at hl 1 rfl) ?_
  refine lv_ldc2d hx hb hown (hts (.constantDouble RX7 1 (4845873199050653696)) (by decide +kernel)) dX7_bitsOf_44 ?_
  refine lv_dcmp hx hb dX7_bitsOf_47 ?_
  rw [fp_cv hd.1 gf_53.1]
  refine lv_if_lt (tgt := 63) hx hb dX7_bitsOf_48 (by decide) (fun c1 => ?_) (fun c1 => ?_)
  · rw [fcv_lt] at c1
    exact k ls hl
  · rw [fcv_lt] at c1
    exact absurd (dv_lt hd fv_53 hc2 (by omega)) c1
theorem lb_ge {n : Nat} (h : 2 ^ 52 ≤ n) (hn : n < 2 ^ 62) : (4503599627370496 : Int64) ≤ lN n := (pk_lLE (a := 2 ^ 52) (by omega) (by omega)).mpr h
theorem lb_or {a : Nat} (ha : a < 2 ^ 63) : lN a ||| (-9223372036854775808 : Int64) = lN (2 ^ 63 + a) := by
  rw [show (-9223372036854775808 : Int64) = lN (1 * 2 ^ 63) from by decide +kernel, g_or' (k := 63) (p := 2 ^ 63) rfl ha (by omega)]
  congr 1
  omega
set_option maxHeartbeats 4000000 in
set_option maxRecDepth 100000 in
theorem lpX7_b {p : Program} {l : Launch} {e : Env} {R : Room} {s : State} {m : MethodId} {args : Array Value} {below : List Frame} {meth : Method} {c : Code} {H : Heap} {locs : List Loc} {cells slots : Nat} {Q : State → Prop} (hx : p.tables.exec = Jvm.exec) (hb : c.code = cX7_bitsOf) (hown : s.vm.findClass RX7 = some m.cls) (hts : ∀ w ∈ wsX7_bitsOf, w.before args s = true) {x pp : UInt64} {mi : Int32} {cc i : Nat} (hc1 : 2 ^ 52 ≤ cc) (hc2 : cc < 2 ^ 53) (hi : i ≤ 2037) (hd : dv pp cc i) {ls : Array Slot} (hl : lv_has ls 10 [(5, .int (nI 1075)), (3, .double pp), (2, .int mi), (0, .double x)]) (k : ∀ (part : UInt64) (ls : Array Slot), dv part cc 1074 → lv_has ls 10 [(5, .int (nI (i + 1))), (3, .double part), (2, .int mi), (0, .double x)] → W p l e R s m args below meth c H locs cells slots Q (F0 m 89 ls [])) : W p l e R s m args below meth c H locs cells slots Q (F0 m 43 ls []) := by
  rcases Nat.le_total 1074 i with h | h
  · refine lpX7_ba hx hb hown hts (p1 := i + 1) hc1 hc2 (fun part ls hd9 hl => ?_) (i - 1074) 1075 pp ls (by rw [show 1074 + (i - 1074) = i by omega]; exact hd) (by omega) hl
    exact lpX7_bb hx hb hown hts (p1 := i + 1) hc1 hc2 k 0 (i + 1) part ls hd9 (by omega) hl
  · refine lpX7_bs hx hb hown hts hc2 h hd hl (fun ls hl => ?_)
    exact lpX7_bb hx hb hown hts (p1 := i + 1) hc1 hc2 k (1074 - i) 1075 pp ls (by rw [show 1074 - (1074 - i) = i by omega]; exact hd) (by omega) hl
set_option maxHeartbeats 4000000 in
set_option maxRecDepth 100000 in
theorem mX7_bitsOf (l : Launch) (x : UInt64)  (hok : bOk x) : Met l yX7_bitsOf wsX7_bitsOf ({ frames := 0, cells := 0, slots := 0, locals := 0 }) (va_Pc [.double x] (fun _ => True)) (va_Ql (fun (r : Int64) (u : Unit) => r = x.toInt64) (fun _ _ => True) nA) 0 0 nA := by
  refine Met.ofW (cc := cX7_bitsOf) (maxL := 10) (ret := (some .long)) (by decide) rfl ?_
  intro p e s m args below meth c s₁ B hml hv
  obtain ⟨rfl, -⟩ := hv
  have hx := B.exec
  have hb := B.bytes
  have hr := B.returns
  have hts := atoms_spec (ws := wsX7_bitsOf) B.pre
  have hown : s.vm.findClass RX7 = some m.cls := findClass_of_methodNamed B.named
  have hlocks := B.notSynchronized
  have hS : va_S nA s.heap s.heap [] := va_S.rf
  have hl := lv_entry ([.double x]) (n := 10) (Nat.le_of_ble_eq_true rfl)
  rw [lg_entry_eq]
  generalize (lg_sl ([.double x]) ++ List.replicate (10 - (lg_sl ([.double x])).length) Slot.unset).toArray = ls at hl ⊢
  have hl : lv_has ls 10 [(0, .double x)] := hl
  skip
  have hz : FP.Core.DFin 0 ∧ True := ⟨(FP.Core.fin_bits 0).mpr (by decide +kernel), trivial⟩
  rcases hok with h0 | h0 | ⟨hf, h0⟩
  · subst h0
    refine lv_dload_n hx hb dX7_bitsOf_0 rfl (lv_at hl 0 rfl) ?_
    refine lv_dconst0 hx hb dX7_bitsOf_1 ?_
    refine lv_dcmp hx hb dX7_bitsOf_2 ?_
    rw [show Op.cmpValue (FP.dcmp 0 FP.dconst0) CmpOp.g = 0 by decide +kernel]
    refine lv_if_lt (tgt := 20) hx hb dX7_bitsOf_3 (by decide) (fun c2 => absurd c2 (by decide)) (fun _ => ?_)
    refine lv_dload_n hx hb dX7_bitsOf_6 rfl (lv_at hl 0 rfl) ?_
    refine lv_dconst0 hx hb dX7_bitsOf_7 ?_
    refine lv_dcmp hx hb dX7_bitsOf_8 ?_
    rw [show Op.cmpValue (FP.dcmp 0 FP.dconst0) CmpOp.l = 0 by decide +kernel]
    refine lv_if_ne (tgt := 24) hx hb dX7_bitsOf_9 (by decide) (fun c4 => absurd c4 (by decide)) (fun _ => ?_)
    refine lv_dconst1 hx hb dX7_bitsOf_12 ?_
    refine lv_dload_n hx hb dX7_bitsOf_13 rfl (lv_at hl 0 rfl) ?_
    refine lv_ddiv hx hb dX7_bitsOf_14 (by unfold vf_n64; decide +kernel) ?_
    refine lv_dconst0 hx hb dX7_bitsOf_15 ?_
    refine lv_dcmp hx hb dX7_bitsOf_16 ?_
    rw [show Op.cmpValue (FP.dcmp (FP.ddiv FP.dconst1 0) FP.dconst0) CmpOp.g = 1 by decide +kernel]
    refine lv_if_ge (tgt := 24) hx hb dX7_bitsOf_17 (by decide) (fun _ => ?_) (fun c8 => absurd c8 (by decide))
    refine lv_iconst (v := 0) hx hb dX7_bitsOf_24 (by decide) ?_
    refine lv_istore_n (lv' := [(2, .int 0), (0, .double 0)]) hx hb dX7_bitsOf_25 rfl hl (by decide) rfl (fun ls hl => ?_)
    refine lv_iload_n hx hb dX7_bitsOf_26 rfl (lv_at hl 0 rfl) ?_
    refine lv_if_eq (tgt := 36) hx hb dX7_bitsOf_27 (by decide) (fun _ => ?_) (fun c10 => absurd c10 (by decide))
    refine lv_dload_n hx hb dX7_bitsOf_36 rfl (lv_at hl 1 rfl) ?_
    refine lv_dstore_n (lv' := [(3, .double 0), (2, .int 0), (0, .double 0)]) hx hb dX7_bitsOf_37 rfl hl (by decide) rfl (fun ls hl => ?_)
    refine lv_sipush (v := 1075) hx hb dX7_bitsOf_38 (by decide) ?_
    refine lv_istore (lv' := [(5, .int 1075), (3, .double 0), (2, .int 0), (0, .double 0)]) hx hb dX7_bitsOf_41 hl (by decide) rfl (fun ls hl => ?_)
    refine lv_dload_n hx hb dX7_bitsOf_43 rfl (lv_at hl 1 rfl) ?_
    refine lv_ldc2d hx hb hown (hts (.constantDouble RX7 1 (4845873199050653696)) (by decide +kernel)) dX7_bitsOf_44 ?_
    refine lv_dcmp hx hb dX7_bitsOf_47 ?_
    rw [show Op.cmpValue (FP.dcmp 0 4845873199050653696) CmpOp.l = (-1) by decide +kernel]
    refine lv_if_lt (tgt := 63) hx hb dX7_bitsOf_48 (by decide) (fun _ => ?_) (fun c12 => absurd c12 (by decide))
    have h63 : lv_has ls 10 [(5, .int (nI (1074 + 1))), (3, .double 0), (2, .int 0), (0, .double 0)] := (lv_sub hl [0, 1, 2, 3] rfl)
    refine lpX7_bz hx hb hown hts (fun ls hl => ?_) 1074 ls (by omega) h63
    refine lv_dload_n hx hb dX7_bitsOf_89 rfl (lv_at hl 1 rfl) ?_
    refine lv_d2l hx hb dX7_bitsOf_90 ?_
    rw [show FP.d2l 0 = lN 0 by decide +kernel]
    refine lv_lstore (lv' := [(6, .long (lN 0)), (5, .int 1), (3, .double 0), (2, .int 0), (0, .double 0)]) hx hb dX7_bitsOf_91 hl (by decide) rfl (fun ls hl => ?_)
    refine lv_lload hx hb dX7_bitsOf_93 (lv_at hl 0 rfl) ?_
    refine lv_ldc2 hx hb hown (hts (.constantLong RX7 7 (4503599627370496)) (by decide +kernel)) dX7_bitsOf_95 ?_
    refine W.lcmp hx hb dX7_bitsOf_98 ?_
    refine lv_if_ge (tgt := 107) hx hb dX7_bitsOf_99 (by decide) (fun c13 => ?_) (fun c13 => ?_)
    · rw [lg_cmp_ge] at c13
      exact absurd c13 (by decide)
    · rw [lg_cmp_ge] at c13
      refine lv_lload hx hb dX7_bitsOf_102 (lv_at hl 0 rfl) ?_
      refine lv_goto (tgt := 120) hx hb dX7_bitsOf_104 (by decide) ?_
      refine lv_lstore (lv' := [(8, .long (lN 0)), (6, .long (lN 0)), (5, .int 1), (3, .double 0), (2, .int 0), (0, .double 0)]) hx hb dX7_bitsOf_120 hl (by decide) rfl (fun ls hl => ?_)
      refine lv_iload_n hx hb dX7_bitsOf_122 rfl (lv_at hl 4 rfl) ?_
      refine lv_if_eq (tgt := 135) hx hb dX7_bitsOf_123 (by decide) (fun _ => ?_) (fun c15 => absurd c15 (by decide))
      refine lv_lload hx hb dX7_bitsOf_135 (lv_at hl 0 rfl) ?_
      exact W.lret (v := lN 0) hx hb hr (fun t ht hW => ⟨⟨lN 0, (), rfl, (by decide +kernel), trivial⟩, hS.F ht⟩) hS.2.2 dX7_bitsOf_137
  · subst h0
    refine lv_dload_n hx hb dX7_bitsOf_0 rfl (lv_at hl 0 rfl) ?_
    refine lv_dconst0 hx hb dX7_bitsOf_1 ?_
    refine lv_dcmp hx hb dX7_bitsOf_2 ?_
    rw [show Op.cmpValue (FP.dcmp 9223372036854775808 FP.dconst0) CmpOp.g = 0 by decide +kernel]
    refine lv_if_lt (tgt := 20) hx hb dX7_bitsOf_3 (by decide) (fun c2 => absurd c2 (by decide)) (fun _ => ?_)
    refine lv_dload_n hx hb dX7_bitsOf_6 rfl (lv_at hl 0 rfl) ?_
    refine lv_dconst0 hx hb dX7_bitsOf_7 ?_
    refine lv_dcmp hx hb dX7_bitsOf_8 ?_
    rw [show Op.cmpValue (FP.dcmp 9223372036854775808 FP.dconst0) CmpOp.l = 0 by decide +kernel]
    refine lv_if_ne (tgt := 24) hx hb dX7_bitsOf_9 (by decide) (fun c4 => absurd c4 (by decide)) (fun _ => ?_)
    refine lv_dconst1 hx hb dX7_bitsOf_12 ?_
    refine lv_dload_n hx hb dX7_bitsOf_13 rfl (lv_at hl 0 rfl) ?_
    refine lv_ddiv hx hb dX7_bitsOf_14 (by unfold vf_n64; decide +kernel) ?_
    refine lv_dconst0 hx hb dX7_bitsOf_15 ?_
    refine lv_dcmp hx hb dX7_bitsOf_16 ?_
    rw [show Op.cmpValue (FP.dcmp (FP.ddiv FP.dconst1 9223372036854775808) FP.dconst0) CmpOp.g = (-1) by decide +kernel]
    refine lv_if_ge (tgt := 24) hx hb dX7_bitsOf_17 (by decide) (fun c8 => absurd c8 (by decide)) (fun _ => ?_)
    refine lv_iconst (v := 1) hx hb dX7_bitsOf_20 (by decide) ?_
    refine lv_goto (tgt := 25) hx hb dX7_bitsOf_21 (by decide) ?_
    refine lv_istore_n (lv' := [(2, .int 1), (0, .double 9223372036854775808)]) hx hb dX7_bitsOf_25 rfl hl (by decide) rfl (fun ls hl => ?_)
    refine lv_iload_n hx hb dX7_bitsOf_26 rfl (lv_at hl 0 rfl) ?_
    refine lv_if_eq (tgt := 36) hx hb dX7_bitsOf_27 (by decide) (fun c10 => absurd c10 (by decide)) (fun _ => ?_)
    refine lv_dconst0 hx hb dX7_bitsOf_30 ?_
    refine lv_dload_n hx hb dX7_bitsOf_31 rfl (lv_at hl 1 rfl) ?_
    refine lv_dsub hx hb dX7_bitsOf_32 (by unfold vf_n64; decide +kernel) ?_
    refine lv_goto (tgt := 37) hx hb dX7_bitsOf_33 (by decide) ?_
    rw [show FP.dsub FP.dconst0 9223372036854775808 = 0 by decide +kernel]
    refine lv_dstore_n (lv' := [(3, .double 0), (2, .int 1), (0, .double 9223372036854775808)]) hx hb dX7_bitsOf_37 rfl hl (by decide) rfl (fun ls hl => ?_)
    refine lv_sipush (v := 1075) hx hb dX7_bitsOf_38 (by decide) ?_
    refine lv_istore (lv' := [(5, .int 1075), (3, .double 0), (2, .int 1), (0, .double 9223372036854775808)]) hx hb dX7_bitsOf_41 hl (by decide) rfl (fun ls hl => ?_)
    refine lv_dload_n hx hb dX7_bitsOf_43 rfl (lv_at hl 1 rfl) ?_
    refine lv_ldc2d hx hb hown (hts (.constantDouble RX7 1 (4845873199050653696)) (by decide +kernel)) dX7_bitsOf_44 ?_
    refine lv_dcmp hx hb dX7_bitsOf_47 ?_
    rw [show Op.cmpValue (FP.dcmp 0 4845873199050653696) CmpOp.l = (-1) by decide +kernel]
    refine lv_if_lt (tgt := 63) hx hb dX7_bitsOf_48 (by decide) (fun _ => ?_) (fun c14 => absurd c14 (by decide))
    have h63 : lv_has ls 10 [(5, .int (nI (1074 + 1))), (3, .double 0), (2, .int 1), (0, .double 9223372036854775808)] := (lv_sub hl [0, 1, 2, 3] rfl)
    refine lpX7_bz hx hb hown hts (fun ls hl => ?_) 1074 ls (by omega) h63
    refine lv_dload_n hx hb dX7_bitsOf_89 rfl (lv_at hl 1 rfl) ?_
    refine lv_d2l hx hb dX7_bitsOf_90 ?_
    rw [show FP.d2l 0 = lN 0 by decide +kernel]
    refine lv_lstore (lv' := [(6, .long (lN 0)), (5, .int 1), (3, .double 0), (2, .int 1), (0, .double 9223372036854775808)]) hx hb dX7_bitsOf_91 hl (by decide) rfl (fun ls hl => ?_)
    refine lv_lload hx hb dX7_bitsOf_93 (lv_at hl 0 rfl) ?_
    refine lv_ldc2 hx hb hown (hts (.constantLong RX7 7 (4503599627370496)) (by decide +kernel)) dX7_bitsOf_95 ?_
    refine W.lcmp hx hb dX7_bitsOf_98 ?_
    refine lv_if_ge (tgt := 107) hx hb dX7_bitsOf_99 (by decide) (fun c15 => ?_) (fun c15 => ?_)
    · rw [lg_cmp_ge] at c15
      exact absurd c15 (by decide)
    · rw [lg_cmp_ge] at c15
      refine lv_lload hx hb dX7_bitsOf_102 (lv_at hl 0 rfl) ?_
      refine lv_goto (tgt := 120) hx hb dX7_bitsOf_104 (by decide) ?_
      refine lv_lstore (lv' := [(8, .long (lN 0)), (6, .long (lN 0)), (5, .int 1), (3, .double 0), (2, .int 1), (0, .double 9223372036854775808)]) hx hb dX7_bitsOf_120 hl (by decide) rfl (fun ls hl => ?_)
      refine lv_iload_n hx hb dX7_bitsOf_122 rfl (lv_at hl 4 rfl) ?_
      refine lv_if_eq (tgt := 135) hx hb dX7_bitsOf_123 (by decide) (fun c17 => absurd c17 (by decide)) (fun _ => ?_)
      refine lv_lload hx hb dX7_bitsOf_126 (lv_at hl 0 rfl) ?_
      refine lv_ldc2 hx hb hown (hts (.constantLong RX7 9 (-9223372036854775808)) (by decide +kernel)) dX7_bitsOf_128 ?_
      refine lv_lor hx hb dX7_bitsOf_131 ?_
      refine lv_goto (tgt := 137) hx hb dX7_bitsOf_132 (by decide) ?_
      exact W.lret (v := (lN 0) ||| ((-9223372036854775808))) hx hb hr (fun t ht hW => ⟨⟨(lN 0) ||| ((-9223372036854775808)), (), rfl, (by decide +kernel), trivial⟩, hS.F ht⟩) hS.2.2 dX7_bitsOf_137
  · obtain ⟨sg, cc, i, hc1, hc2, hi, hv, hn⟩ := fv_normb hf h0
    have hfx : FP.Core.DFin x ∧ True := ⟨hf, trivial⟩
    have hP0 : 0 < cc * 2 ^ i := Nat.mul_pos (by omega) (Nat.two_pow_pos i)
    cases sg with
    | false =>
      have hv2 : fv x = ((cc * 2 ^ i : Nat) : Int) := hv
      have hn2 : x.toNat = 0 + (i + 1) * 2 ^ 52 + (cc - 2 ^ 52) := hn
      refine lv_dload_n hx hb dX7_bitsOf_0 rfl (lv_at hl 0 rfl) ?_
      refine lv_dconst0 hx hb dX7_bitsOf_1 ?_
      refine lv_dcmp hx hb dX7_bitsOf_2 ?_
      rw [fp_cv hfx.1 gf_c0.1]
      refine lv_if_lt (tgt := 20) hx hb dX7_bitsOf_3 (by decide) (fun c1 => ?_) (fun c1 => ?_)
      · rw [fcv_lt] at c1
        exact absurd c1 (by rw [hv2, fv_c0]; omega)
      · rw [fcv_lt] at c1
        refine lv_dload_n hx hb dX7_bitsOf_6 rfl (lv_at hl 0 rfl) ?_
        refine lv_dconst0 hx hb dX7_bitsOf_7 ?_
        refine lv_dcmp hx hb dX7_bitsOf_8 ?_
        rw [fp_cv hfx.1 gf_c0.1]
        refine lv_if_ne (tgt := 24) hx hb dX7_bitsOf_9 (by decide) (fun c2 => ?_) (fun c2 => ?_)
        · rw [fcv_eq] at c2
          refine lv_iconst (v := 0) hx hb dX7_bitsOf_24 (by decide) ?_
          refine lv_istore_n (lv' := [(2, .int 0), (0, .double x)]) hx hb dX7_bitsOf_25 rfl hl (by decide) rfl (fun ls hl => ?_)
          refine lv_iload_n hx hb dX7_bitsOf_26 rfl (lv_at hl 0 rfl) ?_
          refine lv_if_eq (tgt := 36) hx hb dX7_bitsOf_27 (by decide) (fun _ => ?_) (fun c4 => absurd c4 (by decide))
          refine lv_dload_n hx hb dX7_bitsOf_36 rfl (lv_at hl 1 rfl) ?_
          have hd : dv x cc i := ⟨hf, hv2⟩
          refine lv_topd (fun pp ep => ?_)
          rw [← ep] at hd
          refine lv_dstore_n (lv' := [(3, .double pp), (2, .int 0), (0, .double x)]) hx hb dX7_bitsOf_37 rfl hl (by decide) rfl (fun ls hl => ?_)
          refine lv_sipush (v := 1075) hx hb dX7_bitsOf_38 (by decide) ?_
          refine lv_istore (lv' := [(5, .int 1075), (3, .double pp), (2, .int 0), (0, .double x)]) hx hb dX7_bitsOf_41 hl (by decide) rfl (fun ls hl => ?_)
          have h43 : lv_has ls 10 [(5, .int (nI 1075)), (3, .double pp), (2, .int 0), (0, .double x)] := (lv_sub hl [0, 1, 2, 3] rfl)
          refine lpX7_b hx hb hown hts hc1 hc2 hi hd h43 (fun part ls hd9 hl => ?_)
          refine lv_dload_n hx hb dX7_bitsOf_89 rfl (lv_at hl 1 rfl) ?_
          refine lv_d2l hx hb dX7_bitsOf_90 ?_
          rw [fv_d2l hd9.1 hd9.2 (by omega)]
          refine lv_lstore (lv' := [(6, .long (lN cc)), (5, .int (nI (i + 1))), (3, .double part), (2, .int 0), (0, .double x)]) hx hb dX7_bitsOf_91 hl (by decide) rfl (fun ls hl => ?_)
          refine lv_lload hx hb dX7_bitsOf_93 (lv_at hl 0 rfl) ?_
          refine lv_ldc2 hx hb hown (hts (.constantLong RX7 7 (4503599627370496)) (by decide +kernel)) dX7_bitsOf_95 ?_
          refine W.lcmp hx hb dX7_bitsOf_98 ?_
          refine lv_if_ge (tgt := 107) hx hb dX7_bitsOf_99 (by decide) (fun c5 => ?_) (fun c5 => ?_)
          · rw [lg_cmp_ge] at c5
            refine lv_lload hx hb dX7_bitsOf_107 (lv_at hl 0 rfl) ?_
            refine lv_ldc2 hx hb hown (hts (.constantLong RX7 7 (4503599627370496)) (by decide +kernel)) dX7_bitsOf_109 ?_
            refine lv_lsub hx hb dX7_bitsOf_112 ?_
            refine lv_iload hx hb dX7_bitsOf_113 (lv_at hl 1 rfl) ?_
            refine lv_i2l (v := Int32.toInt64 (nI (i + 1))) hx hb dX7_bitsOf_115 rfl ?_
            refine lv_bipush (v := 52) hx hb dX7_bitsOf_116 (by decide) ?_
            refine lv_lshl (v := (Int32.toInt64 (nI (i + 1))) <<< (Int32.toInt64 52 &&& 63)) hx hb dX7_bitsOf_118 rfl ?_
            refine lv_ladd hx hb dX7_bitsOf_119 ?_
            refine lv_lstore (lv' := [(8, .long (((lN cc) - 4503599627370496) + ((Int32.toInt64 (nI (i + 1))) <<< (Int32.toInt64 52 &&& 63)))), (6, .long (lN cc)), (5, .int (nI (i + 1))), (3, .double part), (2, .int 0), (0, .double x)]) hx hb dX7_bitsOf_120 hl (by decide) rfl (fun ls hl => ?_)
            refine lv_iload_n hx hb dX7_bitsOf_122 rfl (lv_at hl 4 rfl) ?_
            refine lv_if_eq (tgt := 135) hx hb dX7_bitsOf_123 (by decide) (fun _ => ?_) (fun c7 => absurd c7 (by decide))
            refine lv_lload hx hb dX7_bitsOf_135 (lv_at hl 0 rfl) ?_
            have hq : ((lN cc) - 4503599627370496) + ((Int32.toInt64 (nI (i + 1))) <<< (Int32.toInt64 52 &&& 63)) = x.toInt64 := by
              rw [nI_l (n := i + 1) (by omega), lN_shl52, U_lN, hn2, show (4503599627370496 : Int64) = lN (2 ^ 52) from rfl, lN_sub hc1, lN_add]
              exact congrArg lN (by omega)
            exact W.lret (v := ((lN cc) - 4503599627370496) + ((Int32.toInt64 (nI (i + 1))) <<< (Int32.toInt64 52 &&& 63))) hx hb hr (fun t ht hW => ⟨⟨((lN cc) - 4503599627370496) + ((Int32.toInt64 (nI (i + 1))) <<< (Int32.toInt64 52 &&& 63)), (), rfl, hq, trivial⟩, hS.F ht⟩) hS.2.2 dX7_bitsOf_137
          · rw [lg_cmp_ge] at c5
            exact absurd (lb_ge hc1 (by omega)) c5
        · rw [fcv_eq] at c2
          exact absurd c2 (by rw [hv2, fv_c0]; omega)
    | true =>
      have hv2 : fv x = -((cc * 2 ^ i : Nat) : Int) := hv
      have hn2 : x.toNat = 2 ^ 63 + (i + 1) * 2 ^ 52 + (cc - 2 ^ 52) := hn
      refine lv_dload_n hx hb dX7_bitsOf_0 rfl (lv_at hl 0 rfl) ?_
      refine lv_dconst0 hx hb dX7_bitsOf_1 ?_
      refine lv_dcmp hx hb dX7_bitsOf_2 ?_
      rw [fp_cv hfx.1 gf_c0.1]
      refine lv_if_lt (tgt := 20) hx hb dX7_bitsOf_3 (by decide) (fun c1 => ?_) (fun c1 => ?_)
      · rw [fcv_lt] at c1
        refine lv_iconst (v := 1) hx hb dX7_bitsOf_20 (by decide) ?_
        refine lv_goto (tgt := 25) hx hb dX7_bitsOf_21 (by decide) ?_
        refine lv_istore_n (lv' := [(2, .int 1), (0, .double x)]) hx hb dX7_bitsOf_25 rfl hl (by decide) rfl (fun ls hl => ?_)
        refine lv_iload_n hx hb dX7_bitsOf_26 rfl (lv_at hl 0 rfl) ?_
        refine lv_if_eq (tgt := 36) hx hb dX7_bitsOf_27 (by decide) (fun c3 => absurd c3 (by decide)) (fun _ => ?_)
        refine lv_dconst0 hx hb dX7_bitsOf_30 ?_
        refine lv_dload_n hx hb dX7_bitsOf_31 rfl (lv_at hl 1 rfl) ?_
        have g4 := sub_neg (i := i) hf hv2 (Nat.le_of_lt hc2) (by omega)
        refine lv_dsub hx hb dX7_bitsOf_32 (fp_n64 g4.1) ?_
        refine lv_topd (fun v5 ev5 => ?_)
        rw [← ev5] at g4
        refine lv_goto (tgt := 37) hx hb dX7_bitsOf_33 (by decide) ?_
        refine lv_topd (fun pp ep => ?_)
        have hd : dv pp cc i := by rw [ep]; exact g4
        refine lv_dstore_n (lv' := [(3, .double pp), (2, .int 1), (0, .double x)]) hx hb dX7_bitsOf_37 rfl hl (by decide) rfl (fun ls hl => ?_)
        refine lv_sipush (v := 1075) hx hb dX7_bitsOf_38 (by decide) ?_
        refine lv_istore (lv' := [(5, .int 1075), (3, .double pp), (2, .int 1), (0, .double x)]) hx hb dX7_bitsOf_41 hl (by decide) rfl (fun ls hl => ?_)
        have h43 : lv_has ls 10 [(5, .int (nI 1075)), (3, .double pp), (2, .int 1), (0, .double x)] := (lv_sub hl [0, 1, 2, 3] rfl)
        refine lpX7_b hx hb hown hts hc1 hc2 hi hd h43 (fun part ls hd9 hl => ?_)
        refine lv_dload_n hx hb dX7_bitsOf_89 rfl (lv_at hl 1 rfl) ?_
        refine lv_d2l hx hb dX7_bitsOf_90 ?_
        rw [fv_d2l hd9.1 hd9.2 (by omega)]
        refine lv_lstore (lv' := [(6, .long (lN cc)), (5, .int (nI (i + 1))), (3, .double part), (2, .int 1), (0, .double x)]) hx hb dX7_bitsOf_91 hl (by decide) rfl (fun ls hl => ?_)
        refine lv_lload hx hb dX7_bitsOf_93 (lv_at hl 0 rfl) ?_
        refine lv_ldc2 hx hb hown (hts (.constantLong RX7 7 (4503599627370496)) (by decide +kernel)) dX7_bitsOf_95 ?_
        refine W.lcmp hx hb dX7_bitsOf_98 ?_
        refine lv_if_ge (tgt := 107) hx hb dX7_bitsOf_99 (by decide) (fun c6 => ?_) (fun c6 => ?_)
        · rw [lg_cmp_ge] at c6
          refine lv_lload hx hb dX7_bitsOf_107 (lv_at hl 0 rfl) ?_
          refine lv_ldc2 hx hb hown (hts (.constantLong RX7 7 (4503599627370496)) (by decide +kernel)) dX7_bitsOf_109 ?_
          refine lv_lsub hx hb dX7_bitsOf_112 ?_
          refine lv_iload hx hb dX7_bitsOf_113 (lv_at hl 1 rfl) ?_
          refine lv_i2l (v := Int32.toInt64 (nI (i + 1))) hx hb dX7_bitsOf_115 rfl ?_
          refine lv_bipush (v := 52) hx hb dX7_bitsOf_116 (by decide) ?_
          refine lv_lshl (v := (Int32.toInt64 (nI (i + 1))) <<< (Int32.toInt64 52 &&& 63)) hx hb dX7_bitsOf_118 rfl ?_
          refine lv_ladd hx hb dX7_bitsOf_119 ?_
          refine lv_lstore (lv' := [(8, .long (((lN cc) - 4503599627370496) + ((Int32.toInt64 (nI (i + 1))) <<< (Int32.toInt64 52 &&& 63)))), (6, .long (lN cc)), (5, .int (nI (i + 1))), (3, .double part), (2, .int 1), (0, .double x)]) hx hb dX7_bitsOf_120 hl (by decide) rfl (fun ls hl => ?_)
          refine lv_iload_n hx hb dX7_bitsOf_122 rfl (lv_at hl 4 rfl) ?_
          refine lv_if_eq (tgt := 135) hx hb dX7_bitsOf_123 (by decide) (fun c8 => absurd c8 (by decide)) (fun _ => ?_)
          refine lv_lload hx hb dX7_bitsOf_126 (lv_at hl 0 rfl) ?_
          refine lv_ldc2 hx hb hown (hts (.constantLong RX7 9 (-9223372036854775808)) (by decide +kernel)) dX7_bitsOf_128 ?_
          refine lv_lor hx hb dX7_bitsOf_131 ?_
          refine lv_goto (tgt := 137) hx hb dX7_bitsOf_132 (by decide) ?_
          have hq : (((lN cc) - 4503599627370496) + ((Int32.toInt64 (nI (i + 1))) <<< (Int32.toInt64 52 &&& 63))) ||| ((-9223372036854775808)) = x.toInt64 := by
            rw [nI_l (n := i + 1) (by omega), lN_shl52, U_lN, hn2, show (4503599627370496 : Int64) = lN (2 ^ 52) from rfl, lN_sub hc1, lN_add]
            exact (lb_or (by omega)).trans (congrArg lN (by omega))
          exact W.lret (v := (((lN cc) - 4503599627370496) + ((Int32.toInt64 (nI (i + 1))) <<< (Int32.toInt64 52 &&& 63))) ||| ((-9223372036854775808))) hx hb hr (fun t ht hW => ⟨⟨(((lN cc) - 4503599627370496) + ((Int32.toInt64 (nI (i + 1))) <<< (Int32.toInt64 52 &&& 63))) ||| ((-9223372036854775808)), (), rfl, hq, trivial⟩, hS.F ht⟩) hS.2.2 dX7_bitsOf_137
        · rw [lg_cmp_ge] at c6
          exact absurd (lb_ge hc1 (by omega)) c6
      · rw [fcv_lt] at c1
        exact absurd c1 (by rw [hv2, fv_c0]; omega)
