/-! THE BITS OF A DOUBLE: X1.bits answers the bits of a double that isn't -0.0 -/
/-- if it is a zero, it is 0.0 -/
def zP (x : UInt64) : Prop := fv x = 0 → x = 0
/-- a number whose bits X1.bits tells rightly: 0.0, or one that isn't less than the least normal one -/
def bOk2 (x : UInt64) : Prop := x = 0 ∨ (FP.Core.DFin x ∧ 2 ^ 52 ≤ (fv x).natAbs ∧ (fv x).natAbs < 2 ^ 2090)
theorem bOk2_gr {a b : Nat} {x : UInt64} (h : fGr a b x) (hz : zP x) (ha : 52 ≤ a) (hb : b ≤ 2089) : bOk2 x := by
  by_cases h0 : fv x = 0
  · exact Or.inl (hz h0)
  · exact Or.inr ⟨h.1, Nat.le_trans (Nat.pow_le_pow_right (by omega) ha) (fv_ne0 h h0), Nat.lt_of_le_of_lt h.2.2 (Nat.pow_lt_pow_right (by omega) (by omega))⟩
set_option maxHeartbeats 4000000 in
set_option maxRecDepth 100000 in
theorem lpX1_b1 {p : Program} {l : Launch} {e : Env} {R : Room} {s : State} {m : MethodId} {args : Array Value} {below : List Frame} {meth : Method} {c : Code} {H : Heap} {locs : List Loc} {cells slots : Nat} {Q : State → Prop} (hx : p.tables.exec = Jvm.exec) (hb : c.code = cX1_bits) (hown : s.vm.findClass RX1 = some m.cls) (hts : ∀ w ∈ wsX1_bits, w.before args s = true) {x : UInt64} {cc e1 : Nat} (hc1 : 2 ^ 52 ≤ cc) (hc2 : cc < 2 ^ 53) (k : ∀ (part : UInt64) (i : Int32) (ls : Array Slot), dv part cc 1022 → lv_has ls 8 [(6, .int i), (4, .long (lN e1)), (2, .double part), (0, .double x)] → W p l e R s m args below meth c H locs cells slots Q (F0 m 63 ls [])) : ∀ (n k0 e0 : Nat) (part : UInt64) (ls : Array Slot), dv part cc (1022 + n) → k0 + n < 1100 → e0 + n = e1 ∧ e1 < 2 ^ 20 ∧ n ≤ 1016 → lv_has ls 8 [(6, .int (nI k0)), (4, .long (lN e0)), (2, .double part), (0, .double x)] → W p l e R s m args below meth c H locs cells slots Q (F0 m 29 ls []) := by
  intro n
  induction n with
  | zero =>
    intro k0 e0 part ls hd hk he hl
    have hee : e0 = e1 := by omega
    subst hee
    refine lv_iload hx hb dX1_bits_29 (lv_at hl 0 rfl) ?_
    refine lv_sipush (v := 1100) hx hb dX1_bits_31 (by decide) ?_
    refine lv_icmp_ge (tgt := 63) hx hb dX1_bits_34 (by decide) (fun c1 => ?_) (fun c1 => ?_)
    · have iw2 := Int32.not_lt.mpr c1
      exact absurd c1 (fun h => absurd ((nI_leI (a := 1100) (by omega) (by omega)).mp h) (by omega))
    · have iw3 := Int32.not_le.mp c1
      refine lv_dload_n hx hb dX1_bits_37 rfl (lv_at hl 2 rfl) ?_
      refine lv_ldc2d hx hb hown (hts (.constantDouble RX1 11 (4611686018427387904)) (by decide +kernel)) dX1_bits_38 ?_
      refine lv_dcmp hx hb dX1_bits_41 ?_
      rw [fp_cv hd.1 gf_2.1]
      refine lv_if_lt (tgt := 63) hx hb dX1_bits_42 (by decide) (fun c4 => ?_) (fun c4 => ?_)
      · rw [fcv_lt] at c4
        exact k part _ ls hd (lv_sub hl [0, 1, 2, 3] rfl)
      · rw [fcv_lt] at c4
        exact absurd (dv_lt hd fv_2 hc2 (by omega)) c4
  | succ n ih =>
    intro k0 e0 part ls hd hk he hl
    refine lv_iload hx hb dX1_bits_29 (lv_at hl 0 rfl) ?_
    refine lv_sipush (v := 1100) hx hb dX1_bits_31 (by decide) ?_
    refine lv_icmp_ge (tgt := 63) hx hb dX1_bits_34 (by decide) (fun c1 => ?_) (fun c1 => ?_)
    · have iw2 := Int32.not_lt.mpr c1
      exact absurd c1 (fun h => absurd ((nI_leI (a := 1100) (by omega) (by omega)).mp h) (by omega))
    · have iw3 := Int32.not_le.mp c1
      refine lv_dload_n hx hb dX1_bits_37 rfl (lv_at hl 2 rfl) ?_
      refine lv_ldc2d hx hb hown (hts (.constantDouble RX1 11 (4611686018427387904)) (by decide +kernel)) dX1_bits_38 ?_
      refine lv_dcmp hx hb dX1_bits_41 ?_
      rw [fp_cv hd.1 gf_2.1]
      refine lv_if_lt (tgt := 63) hx hb dX1_bits_42 (by decide) (fun c4 => ?_) (fun c4 => ?_)
      · rw [fcv_lt] at c4
        exact absurd c4 (dv_ge hd fv_2 hc1 (by omega))
      · rw [fcv_lt] at c4
        refine lv_dload_n hx hb dX1_bits_45 rfl (lv_at hl 2 rfl) ?_
        refine lv_ldc2d hx hb hown (hts (.constantDouble RX1 11 (4611686018427387904)) (by decide +kernel)) dX1_bits_46 ?_
        have gw5 := sc_div (k := 1) (i := 1022 + n) hd.1 gf_2.1 (Nat.le_of_lt hc2) hd.2 fv_2 (by omega)
        refine lv_ddiv hx hb dX1_bits_49 (fp_n64 gw5.1) ?_
        refine lv_topd (fun v6 ev6 => ?_)
        rw [← ev6] at gw5
        refine lv_dstore_n (lv' := [(2, .double v6), (6, .int (nI k0)), (4, .long (lN e0)), (0, .double x)]) hx hb dX1_bits_50 rfl hl (by decide) rfl (fun ls hl => ?_)
        refine lv_lload hx hb dX1_bits_51 (lv_at hl 2 rfl) ?_
        refine lv_lconst (v := 1) hx hb dX1_bits_53 (by decide) ?_
        refine lv_ladd hx hb dX1_bits_54 ?_
        refine lv_lstore (lv' := [(4, .long ((lN e0) + 1)), (2, .double v6), (6, .int (nI k0)), (0, .double x)]) hx hb dX1_bits_55 hl (by decide) rfl (fun ls hl => ?_)
        refine lv_iinc (v := (nI k0) + 1) (lv' := [(6, .int ((nI k0) + 1)), (4, .long ((lN e0) + 1)), (2, .double v6), (0, .double x)]) hx hb dX1_bits_57 hl (k := 2) rfl rfl (by decide) rfl (fun ls hl => ?_)
        refine lv_goto (tgt := 29) hx hb dX1_bits_60 (by decide) ?_
        have h9 : lv_has ls 8 [(6, .int (nI (k0 + 1))), (4, .long (lN (e0 + 1))), (2, .double v6), (0, .double x)] := by have h8 := (lv_sub hl [0, 1, 2, 3] rfl); rw [nI_1, lN_1] at h8; exact h8
        exact ih (k0 + 1) (e0 + 1) _ ls gw5 (by omega) (by omega) h9
set_option maxHeartbeats 4000000 in
set_option maxRecDepth 100000 in
theorem lpX1_b2 {p : Program} {l : Launch} {e : Env} {R : Room} {s : State} {m : MethodId} {args : Array Value} {below : List Frame} {meth : Method} {c : Code} {H : Heap} {locs : List Loc} {cells slots : Nat} {Q : State → Prop} (hx : p.tables.exec = Jvm.exec) (hb : c.code = cX1_bits) (hown : s.vm.findClass RX1 = some m.cls) (hts : ∀ w ∈ wsX1_bits, w.before args s = true) {x : UInt64} {cc e1 : Nat} (hc1 : 2 ^ 52 ≤ cc) (hc2 : cc < 2 ^ 53) (k : ∀ (part : UInt64) (i : Int32) (ls : Array Slot), dv part cc 1022 → lv_has ls 8 [(6, .int i), (4, .long (lN e1)), (2, .double part), (0, .double x)] → W p l e R s m args below meth c H locs cells slots Q (F0 m 98 ls [])) : ∀ (n k0 e0 : Nat) (part : UInt64) (ls : Array Slot), dv part cc (1022 - n) → k0 + n < 1100 → e0 = e1 + n ∧ e0 < 2 ^ 20 ∧ n ≤ 1022 → lv_has ls 8 [(6, .int (nI k0)), (4, .long (lN e0)), (2, .double part), (0, .double x)] → W p l e R s m args below meth c H locs cells slots Q (F0 m 66 ls []) := by
  intro n
  induction n with
  | zero =>
    intro k0 e0 part ls hd hk he hl
    have hee : e0 = e1 := by omega
    subst hee
    refine lv_iload hx hb dX1_bits_66 (lv_at hl 0 rfl) ?_
    refine lv_sipush (v := 1100) hx hb dX1_bits_68 (by decide) ?_
    refine lv_icmp_ge (tgt := 98) hx hb dX1_bits_71 (by decide) (fun c1 => ?_) (fun c1 => ?_)
    · have iw2 := Int32.not_lt.mpr c1
      exact absurd c1 (fun h => absurd ((nI_leI (a := 1100) (by omega) (by omega)).mp h) (by omega))
    · have iw3 := Int32.not_le.mp c1
      refine lv_dload_n hx hb dX1_bits_74 rfl (lv_at hl 2 rfl) ?_
      refine lv_dconst1 hx hb dX1_bits_75 ?_
      refine lv_dcmp hx hb dX1_bits_76 ?_
      rw [fp_cv hd.1 gf_c1.1]
      refine lv_if_ge (tgt := 98) hx hb dX1_bits_77 (by decide) (fun c4 => ?_) (fun c4 => ?_)
      · rw [fcv_ge] at c4
        exact k part _ ls hd (lv_sub hl [0, 1, 2, 3] rfl)
      · rw [fcv_ge] at c4
        exact absurd (Int.not_lt.mp (dv_ge hd fv_c1 hc1 (by omega))) c4
  | succ n ih =>
    intro k0 e0 part ls hd hk he hl
    refine lv_iload hx hb dX1_bits_66 (lv_at hl 0 rfl) ?_
    refine lv_sipush (v := 1100) hx hb dX1_bits_68 (by decide) ?_
    refine lv_icmp_ge (tgt := 98) hx hb dX1_bits_71 (by decide) (fun c1 => ?_) (fun c1 => ?_)
    · have iw2 := Int32.not_lt.mpr c1
      exact absurd c1 (fun h => absurd ((nI_leI (a := 1100) (by omega) (by omega)).mp h) (by omega))
    · have iw3 := Int32.not_le.mp c1
      refine lv_dload_n hx hb dX1_bits_74 rfl (lv_at hl 2 rfl) ?_
      refine lv_dconst1 hx hb dX1_bits_75 ?_
      refine lv_dcmp hx hb dX1_bits_76 ?_
      rw [fp_cv hd.1 gf_c1.1]
      refine lv_if_ge (tgt := 98) hx hb dX1_bits_77 (by decide) (fun c4 => ?_) (fun c4 => ?_)
      · rw [fcv_ge] at c4
        exact absurd (dv_lt hd fv_c1 hc2 (by omega)) (Int.not_lt.mpr c4)
      · rw [fcv_ge] at c4
        refine lv_dload_n hx hb dX1_bits_80 rfl (lv_at hl 2 rfl) ?_
        refine lv_ldc2d hx hb hown (hts (.constantDouble RX1 11 (4611686018427387904)) (by decide +kernel)) dX1_bits_81 ?_
        have gw5 := sc_mul (j := 1022 - n) hd.1 gf_2.1 (Nat.le_of_lt hc2) hd.2 fv_2 (by omega) (by omega)
        refine lv_dmul hx hb dX1_bits_84 (fp_n64 gw5.1) ?_
        refine lv_topd (fun v6 ev6 => ?_)
        rw [← ev6] at gw5
        refine lv_dstore_n (lv' := [(2, .double v6), (6, .int (nI k0)), (4, .long (lN e0)), (0, .double x)]) hx hb dX1_bits_85 rfl hl (by decide) rfl (fun ls hl => ?_)
        refine lv_lload hx hb dX1_bits_86 (lv_at hl 2 rfl) ?_
        refine lv_lconst (v := 1) hx hb dX1_bits_88 (by decide) ?_
        refine lv_lsub hx hb dX1_bits_89 ?_
        refine lv_lstore (lv' := [(4, .long ((lN e0) - 1)), (2, .double v6), (6, .int (nI k0)), (0, .double x)]) hx hb dX1_bits_90 hl (by decide) rfl (fun ls hl => ?_)
        refine lv_iinc (v := (nI k0) + 1) (lv' := [(6, .int ((nI k0) + 1)), (4, .long ((lN e0) - 1)), (2, .double v6), (0, .double x)]) hx hb dX1_bits_92 hl (k := 2) rfl rfl (by decide) rfl (fun ls hl => ?_)
        refine lv_goto (tgt := 66) hx hb dX1_bits_95 (by decide) ?_
        obtain ⟨e9, rfl⟩ : ∃ e9, e0 = e9 + 1 := ⟨e0 - 1, by omega⟩
        have h9 : lv_has ls 8 [(6, .int (nI (k0 + 1))), (4, .long (lN e9)), (2, .double v6), (0, .double x)] := by have h8 := (lv_sub hl [0, 1, 2, 3] rfl); rw [nI_1, show lN (e9 + 1) - 1 = lN e9 from lN_sub (a := e9 + 1) (b := 1) (by omega)] at h8; exact h8
        exact ih (k0 + 1) e9 _ ls gw5 (by omega) (by omega) h9
set_option maxHeartbeats 4000000 in
set_option maxRecDepth 100000 in
theorem lpX1_z {p : Program} {l : Launch} {e : Env} {R : Room} {s : State} {m : MethodId} {args : Array Value} {below : List Frame} {meth : Method} {c : Code} {H : Heap} {locs : List Loc} {cells slots : Nat} {Q : State → Prop} (hx : p.tables.exec = Jvm.exec) (hb : c.code = cX1_bits) (hown : s.vm.findClass RX1 = some m.cls) (hts : ∀ w ∈ wsX1_bits, w.before args s = true) {x pp : UInt64} {cc i : Nat} (hc1 : 2 ^ 52 ≤ cc) (hc2 : cc < 2 ^ 53) (hi : i ≤ 1022) (hd : dv pp cc i) {ls : Array Slot} (hl : lv_has ls 8 [(6, .int (nI 0)), (4, .long (lN 1023)), (2, .double pp), (0, .double x)]) (k : ∀ (ls : Array Slot), lv_has ls 8 [(6, .int (nI 0)), (4, .long (lN 1023)), (2, .double pp), (0, .double x)] → W p l e R s m args below meth c H locs cells slots Q (F0 m 63 ls [])) : W p l e R s m args below meth c H locs cells slots Q (F0 m 29 ls []) := by
  refine lv_iload hx hb dX1_bits_29 (lv_at hl 0 rfl) ?_
  refine lv_sipush (v := 1100) hx hb dX1_bits_31 (by decide) ?_
  refine lv_icmp_ge (tgt := 63) hx hb dX1_bits_34 (by decide) (fun c1 => ?_) (fun c1 => ?_)
  · have iw2 := Int32.not_lt.mpr c1
    exact absurd c1 (by decide)
  · have iw3 := Int32.not_le.mp c1
    refine lv_dload_n hx hb dX1_bits_37 rfl (lv_at hl 2 rfl) ?_
    refine lv_ldc2d hx hb hown (hts (.constantDouble RX1 11 (4611686018427387904)) (by decide +kernel)) dX1_bits_38 ?_
    refine lv_dcmp hx hb dX1_bits_41 ?_
    rw [fp_cv hd.1 gf_2.1]
    refine lv_if_lt (tgt := 63) hx hb dX1_bits_42 (by decide) (fun c4 => ?_) (fun c4 => ?_)
    · rw [fcv_lt] at c4
      exact k ls hl
    · rw [fcv_lt] at c4
      exact absurd (dv_lt hd fv_2 hc2 (by omega)) c4
set_option maxHeartbeats 4000000 in
set_option maxRecDepth 100000 in
theorem lpX1_b {p : Program} {l : Launch} {e : Env} {R : Room} {s : State} {m : MethodId} {args : Array Value} {below : List Frame} {meth : Method} {c : Code} {H : Heap} {locs : List Loc} {cells slots : Nat} {Q : State → Prop} (hx : p.tables.exec = Jvm.exec) (hb : c.code = cX1_bits) (hown : s.vm.findClass RX1 = some m.cls) (hts : ∀ w ∈ wsX1_bits, w.before args s = true) {x pp : UInt64} {cc i : Nat} (hc1 : 2 ^ 52 ≤ cc) (hc2 : cc < 2 ^ 53) (hi : i ≤ 2037) (hd : dv pp cc i) {ls : Array Slot} (hl : lv_has ls 8 [(6, .int (nI 0)), (4, .long (lN 1023)), (2, .double pp), (0, .double x)]) (K : ∀ (part : UInt64) (i9 : Int32) (ls : Array Slot), dv part cc 1022 → lv_has ls 8 [(6, .int i9), (4, .long (lN (i + 1))), (2, .double part), (0, .double x)] → W p l e R s m args below meth c H locs cells slots Q (F0 m 98 ls [])) : W p l e R s m args below meth c H locs cells slots Q (F0 m 29 ls []) := by
  rcases Nat.le_total 1022 i with h | h
  · refine lpX1_b1 hx hb hown hts (e1 := i + 1) hc1 hc2 (fun part i9 ls hd9 hl => ?_) (i - 1022) 0 1023 pp ls (by rw [show 1022 + (i - 1022) = i by omega]; exact hd) (by omega) (by omega) hl
    refine lv_iconst (v := 0) hx hb dX1_bits_63 (by decide) ?_
    refine lv_istore (lv' := [(6, .int 0), (4, .long (lN (i + 1))), (2, .double part), (0, .double x)]) hx hb dX1_bits_64 hl (by decide) rfl (fun ls hl => ?_)
    exact lpX1_b2 hx hb hown hts (e1 := i + 1) hc1 hc2 (fun part i9 ls hd9 hl => K part i9 ls hd9 hl) 0 0 (i + 1) part ls hd9 (by omega) (by omega) (lv_sub hl [0, 1, 2, 3] rfl)
  · refine lpX1_z hx hb hown hts hc1 hc2 h hd hl (fun ls hl => ?_)
    refine lv_iconst (v := 0) hx hb dX1_bits_63 (by decide) ?_
    refine lv_istore (lv' := [(6, .int 0), (4, .long (lN 1023)), (2, .double pp), (0, .double x)]) hx hb dX1_bits_64 hl (by decide) rfl (fun ls hl => ?_)
    exact lpX1_b2 hx hb hown hts (e1 := i + 1) hc1 hc2 (fun part i9 ls hd9 hl => K part i9 ls hd9 hl) (1022 - i) 0 1023 pp ls (by rw [show 1022 - (1022 - i) = i by omega]; exact hd) (by omega) (by omega) (lv_sub hl [0, 1, 2, 3] rfl)
set_option maxHeartbeats 4000000 in
set_option maxRecDepth 100000 in
theorem mX1_bits (l : Launch) (x : UInt64)  (hok : bOk2 x) : Met l yX1_bits wsX1_bits ({ frames := 0, cells := 0, slots := 0, locals := 0 }) (va_Pc [.double x] (fun _ => True)) (va_Ql (fun (r : Int64) (u : Unit) => r = x.toInt64) (fun _ _ => True) nA) 0 0 nA := by
  refine Met.ofW (cc := cX1_bits) (maxL := 8) (ret := (some .long)) (by decide) rfl ?_
  intro p e s m args below meth co s₁ B hml hv
  obtain ⟨rfl, -⟩ := hv
  have hx := B.exec
  have hb := B.bytes
  have hr := B.returns
  have hts := atoms_spec (ws := wsX1_bits) B.pre
  have hown : s.vm.findClass RX1 = some m.cls := findClass_of_methodNamed B.named
  have hlocks := B.notSynchronized
  have hS : va_S nA s.heap s.heap [] := va_S.rf
  have hl := lv_entry ([.double x]) (n := 8) (Nat.le_of_ble_eq_true rfl)
  rw [lg_entry_eq]
  generalize (lg_sl ([.double x]) ++ List.replicate (8 - (lg_sl ([.double x])).length) Slot.unset).toArray = ls at hl ⊢
  have hl : lv_has ls 8 [(0, .double x)] := hl
  skip
  rcases hok with h0 | ⟨hf, h0⟩
  · subst h0
    refine lv_dload_n hx hb dX1_bits_0 rfl (lv_at hl 0 rfl) ?_
    refine lv_dconst0 hx hb dX1_bits_1 ?_
    refine lv_dcmp hx hb dX1_bits_2 ?_
    rw [show Op.cmpValue (FP.dcmp 0 FP.dconst0) CmpOp.l = 0 by decide +kernel]
    refine lv_if_ne (tgt := 8) hx hb dX1_bits_3 (by decide) (fun c2 => absurd c2 (by decide)) (fun _ => ?_)
    refine lv_lconst (v := 0) hx hb dX1_bits_6 (by decide) ?_
    exact W.lret (v := 0) hx hb hr (fun t ht hW => ⟨⟨0, (), rfl, (by decide +kernel), trivial⟩, hS.F ht⟩) hS.2.2 dX1_bits_7
  · obtain ⟨sg, cc, i, hc1, hc2, hi, hv, hn⟩ := fv_normb hf h0
    have hfx : FP.Core.DFin x ∧ True := ⟨hf, trivial⟩
    have hP0 : 0 < cc * 2 ^ i := Nat.mul_pos (by omega) (Nat.two_pow_pos i)
    cases sg with
    | false =>
      have hv2 : fv x = ((cc * 2 ^ i : Nat) : Int) := hv
      have hn2 : x.toNat = 0 + (i + 1) * 2 ^ 52 + (cc - 2 ^ 52) := hn
      refine lv_dload_n hx hb dX1_bits_0 rfl (lv_at hl 0 rfl) ?_
      refine lv_dconst0 hx hb dX1_bits_1 ?_
      refine lv_dcmp hx hb dX1_bits_2 ?_
      rw [fp_cv hfx.1 gf_c0.1]
      refine lv_if_ne (tgt := 8) hx hb dX1_bits_3 (by decide) (fun c1 => ?_) (fun c1 => ?_)
      · rw [fcv_eq] at c1
        refine lv_dload_n hx hb dX1_bits_8 rfl (lv_at hl 0 rfl) ?_
        refine lv_dconst0 hx hb dX1_bits_9 ?_
        refine lv_dcmp hx hb dX1_bits_10 ?_
        rw [fp_cv hfx.1 gf_c0.1]
        refine lv_if_ge (tgt := 19) hx hb dX1_bits_11 (by decide) (fun c2 => ?_) (fun c2 => ?_)
        · rw [fcv_ge] at c2
          refine lv_dload_n hx hb dX1_bits_19 rfl (lv_at hl 0 rfl) ?_
          have hd : dv x cc i := ⟨hf, hv2⟩
          refine lv_topd (fun pp ep => ?_)
          rw [← ep] at hd
          refine lv_dstore_n (lv' := [(2, .double pp), (0, .double x)]) hx hb dX1_bits_20 rfl hl (by decide) rfl (fun ls hl => ?_)
          refine lv_ldc2 hx hb hown (hts (.constantLong RX1 27 (1023)) (by decide +kernel)) dX1_bits_21 ?_
          refine lv_lstore (lv' := [(4, .long 1023), (2, .double pp), (0, .double x)]) hx hb dX1_bits_24 hl (by decide) rfl (fun ls hl => ?_)
          refine lv_iconst (v := 0) hx hb dX1_bits_26 (by decide) ?_
          refine lv_istore (lv' := [(6, .int 0), (4, .long 1023), (2, .double pp), (0, .double x)]) hx hb dX1_bits_27 hl (by decide) rfl (fun ls hl => ?_)
          have h43 : lv_has ls 8 [(6, .int (nI 0)), (4, .long (lN 1023)), (2, .double pp), (0, .double x)] := (lv_sub hl [0, 1, 2, 3] rfl)
          refine lpX1_b hx hb hown hts hc1 hc2 hi hd h43 (fun part i9 ls hd9 hl => ?_)
          refine lv_dload_n hx hb dX1_bits_98 rfl (lv_at hl 2 rfl) ?_
          refine lv_ldc2d hx hb hown (hts (.constantDouble RX1 19 (4841369599423283200)) (by decide +kernel)) dX1_bits_99 ?_
          have gw51 := sc_mul (j := 1074) hd9.1 gf_52.1 (Nat.le_of_lt hc2) hd9.2 fv_52 (by omega) (by omega)
          refine lv_dmul hx hb dX1_bits_102 (fp_n64 gw51.1) ?_
          refine lv_topd (fun v52 ev52 => ?_)
          rw [← ev52] at gw51
          refine lv_d2l hx hb dX1_bits_103 ?_
          refine lv_ldc2 hx hb hown (hts (.constantLong RX1 29 (4503599627370496)) (by decide +kernel)) dX1_bits_104 ?_
          refine lv_lsub hx hb dX1_bits_107 ?_
          refine lv_lstore (lv' := [(6, .long ((FP.d2l v52) - 4503599627370496)), (4, .long (lN (i + 1))), (2, .double part), (0, .double x)]) hx hb dX1_bits_108 hl (by decide) rfl (fun ls hl => ?_)
          refine lv_dload_n hx hb dX1_bits_110 rfl (lv_at hl 3 rfl) ?_
          refine lv_dconst0 hx hb dX1_bits_111 ?_
          refine lv_dcmp hx hb dX1_bits_112 ?_
          rw [fp_cv hfx.1 gf_c0.1]
          refine lv_if_ge (tgt := 122) hx hb dX1_bits_113 (by decide) (fun c53 => ?_) (fun c53 => ?_)
          · rw [fcv_ge] at c53
            refine lv_lconst (v := 0) hx hb dX1_bits_122 (by decide) ?_
            refine lv_lload hx hb dX1_bits_123 (lv_at hl 1 rfl) ?_
            refine lv_bipush (v := 52) hx hb dX1_bits_125 (by decide) ?_
            refine lv_lshl (v := (lN (i + 1)) <<< (Int32.toInt64 52 &&& 63)) hx hb dX1_bits_127 rfl ?_
            refine lv_ladd hx hb dX1_bits_128 ?_
            refine lv_lload hx hb dX1_bits_129 (lv_at hl 0 rfl) ?_
            refine lv_ladd hx hb dX1_bits_131 ?_
            have hq : (0 + ((lN (i + 1)) <<< (Int32.toInt64 52 &&& 63))) + ((FP.d2l v52) - 4503599627370496) = x.toInt64 := by
              rw [lN_shl52, fv_d2l (n := cc) gw51.1 gw51.2 (by omega), U_lN, hn2]
              rw [show (4503599627370496 : Int64) = lN (2 ^ 52) from rfl, lN_sub hc1]
              show lN 0 + lN ((i + 1) * 2 ^ 52) + lN (cc - 2 ^ 52) = _
              rw [lN_add, lN_add]
            exact W.lret (v := (0 + ((lN (i + 1)) <<< (Int32.toInt64 52 &&& 63))) + ((FP.d2l v52) - 4503599627370496)) hx hb hr (fun t ht hW => ⟨⟨(0 + ((lN (i + 1)) <<< (Int32.toInt64 52 &&& 63))) + ((FP.d2l v52) - 4503599627370496), (), rfl, hq, trivial⟩, hS.F ht⟩) hS.2.2 dX1_bits_132
          · rw [fcv_ge] at c53
            exact absurd c53 (by rw [hv2, fv_c0]; omega)
        · rw [fcv_ge] at c2
          exact absurd c2 (by rw [hv2, fv_c0]; omega)
      · rw [fcv_eq] at c1
        exact absurd c1 (by rw [hv2, fv_c0]; omega)
    | true =>
      have hv2 : fv x = -((cc * 2 ^ i : Nat) : Int) := hv
      have hn2 : x.toNat = 2 ^ 63 + (i + 1) * 2 ^ 52 + (cc - 2 ^ 52) := hn
      refine lv_dload_n hx hb dX1_bits_0 rfl (lv_at hl 0 rfl) ?_
      refine lv_dconst0 hx hb dX1_bits_1 ?_
      refine lv_dcmp hx hb dX1_bits_2 ?_
      rw [fp_cv hfx.1 gf_c0.1]
      refine lv_if_ne (tgt := 8) hx hb dX1_bits_3 (by decide) (fun c1 => ?_) (fun c1 => ?_)
      · rw [fcv_eq] at c1
        refine lv_dload_n hx hb dX1_bits_8 rfl (lv_at hl 0 rfl) ?_
        refine lv_dconst0 hx hb dX1_bits_9 ?_
        refine lv_dcmp hx hb dX1_bits_10 ?_
        rw [fp_cv hfx.1 gf_c0.1]
        refine lv_if_ge (tgt := 19) hx hb dX1_bits_11 (by decide) (fun c2 => ?_) (fun c2 => ?_)
        · rw [fcv_ge] at c2
          exact absurd c2 (by rw [hv2, fv_c0]; omega)
        · rw [fcv_ge] at c2
          refine lv_dload_n hx hb dX1_bits_14 rfl (lv_at hl 0 rfl) ?_
          refine lv_dneg hx hb dX1_bits_15 ?_
          refine lv_goto (tgt := 20) hx hb dX1_bits_16 (by decide) ?_
          have hd : dv (FP.dneg x) cc i := ⟨(fv_neg hf).1, by rw [(fv_neg hf).2, hv2, Int.neg_neg]⟩
          refine lv_topd (fun pp ep => ?_)
          rw [← ep] at hd
          refine lv_dstore_n (lv' := [(2, .double pp), (0, .double x)]) hx hb dX1_bits_20 rfl hl (by decide) rfl (fun ls hl => ?_)
          refine lv_ldc2 hx hb hown (hts (.constantLong RX1 27 (1023)) (by decide +kernel)) dX1_bits_21 ?_
          refine lv_lstore (lv' := [(4, .long 1023), (2, .double pp), (0, .double x)]) hx hb dX1_bits_24 hl (by decide) rfl (fun ls hl => ?_)
          refine lv_iconst (v := 0) hx hb dX1_bits_26 (by decide) ?_
          refine lv_istore (lv' := [(6, .int 0), (4, .long 1023), (2, .double pp), (0, .double x)]) hx hb dX1_bits_27 hl (by decide) rfl (fun ls hl => ?_)
          have h43 : lv_has ls 8 [(6, .int (nI 0)), (4, .long (lN 1023)), (2, .double pp), (0, .double x)] := (lv_sub hl [0, 1, 2, 3] rfl)
          refine lpX1_b hx hb hown hts hc1 hc2 hi hd h43 (fun part i9 ls hd9 hl => ?_)
          refine lv_dload_n hx hb dX1_bits_98 rfl (lv_at hl 2 rfl) ?_
          refine lv_ldc2d hx hb hown (hts (.constantDouble RX1 19 (4841369599423283200)) (by decide +kernel)) dX1_bits_99 ?_
          have gw51 := sc_mul (j := 1074) hd9.1 gf_52.1 (Nat.le_of_lt hc2) hd9.2 fv_52 (by omega) (by omega)
          refine lv_dmul hx hb dX1_bits_102 (fp_n64 gw51.1) ?_
          refine lv_topd (fun v52 ev52 => ?_)
          rw [← ev52] at gw51
          refine lv_d2l hx hb dX1_bits_103 ?_
          refine lv_ldc2 hx hb hown (hts (.constantLong RX1 29 (4503599627370496)) (by decide +kernel)) dX1_bits_104 ?_
          refine lv_lsub hx hb dX1_bits_107 ?_
          refine lv_lstore (lv' := [(6, .long ((FP.d2l v52) - 4503599627370496)), (4, .long (lN (i + 1))), (2, .double part), (0, .double x)]) hx hb dX1_bits_108 hl (by decide) rfl (fun ls hl => ?_)
          refine lv_dload_n hx hb dX1_bits_110 rfl (lv_at hl 3 rfl) ?_
          refine lv_dconst0 hx hb dX1_bits_111 ?_
          refine lv_dcmp hx hb dX1_bits_112 ?_
          rw [fp_cv hfx.1 gf_c0.1]
          refine lv_if_ge (tgt := 122) hx hb dX1_bits_113 (by decide) (fun c53 => ?_) (fun c53 => ?_)
          · rw [fcv_ge] at c53
            exact absurd c53 (by rw [hv2, fv_c0]; omega)
          · rw [fcv_ge] at c53
            refine lv_ldc2 hx hb hown (hts (.constantLong RX1 31 (-9223372036854775808)) (by decide +kernel)) dX1_bits_116 ?_
            refine lv_goto (tgt := 123) hx hb dX1_bits_119 (by decide) ?_
            refine lv_lload hx hb dX1_bits_123 (lv_at hl 1 rfl) ?_
            refine lv_bipush (v := 52) hx hb dX1_bits_125 (by decide) ?_
            refine lv_lshl (v := (lN (i + 1)) <<< (Int32.toInt64 52 &&& 63)) hx hb dX1_bits_127 rfl ?_
            refine lv_ladd hx hb dX1_bits_128 ?_
            refine lv_lload hx hb dX1_bits_129 (lv_at hl 0 rfl) ?_
            refine lv_ladd hx hb dX1_bits_131 ?_
            have hq : (((-9223372036854775808)) + ((lN (i + 1)) <<< (Int32.toInt64 52 &&& 63))) + ((FP.d2l v52) - 4503599627370496) = x.toInt64 := by
              rw [lN_shl52, fv_d2l (n := cc) gw51.1 gw51.2 (by omega), U_lN, hn2]
              rw [show (4503599627370496 : Int64) = lN (2 ^ 52) from rfl, lN_sub hc1]
              rw [show (-9223372036854775808 : Int64) = lN (2 ^ 63) from by decide +kernel]
              rw [lN_add, lN_add]
            exact W.lret (v := (((-9223372036854775808)) + ((lN (i + 1)) <<< (Int32.toInt64 52 &&& 63))) + ((FP.d2l v52) - 4503599627370496)) hx hb hr (fun t ht hW => ⟨⟨(((-9223372036854775808)) + ((lN (i + 1)) <<< (Int32.toInt64 52 &&& 63))) + ((FP.d2l v52) - 4503599627370496), (), rfl, hq, trivial⟩, hS.F ht⟩) hS.2.2 dX1_bits_132
      · rw [fcv_eq] at c1
        exact absurd c1 (by rw [hv2, fv_c0]; omega)
