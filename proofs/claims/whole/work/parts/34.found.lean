/-! X6: off, found -/
def offL : Option UInt64 → Int64
  | none => -1
  | some s => s.toInt64
abbrev fS : Type := Option (UInt64 × Int32 × Int32)
def fStep (o : Option UInt64) (x y : Int32) (s : fS) : fS := match o with
  | none => s
  | some v => match s with
    | none => some (v, x, y)
    | some q => if fv v < fv q.1 then some (v, x, y) else s
def fIn (off : Int32 → Int32 → Option UInt64) (x : Int32) : Nat → Int32 → fS → fS
  | 0, _, s => s
  | n + 1, y, s => fIn off x n (y + 1) (fStep (off x y) x y s)
def fOut (off : Int32 → Int32 → Option UInt64) (r : Int32) : Nat → Int32 → fS → fS
  | 0, _, s => s
  | n + 1, x, s => fOut off r n (x + 1) (fIn off x (2 * r.toInt + 1).toNat (-r) s)
def fRep (s : fS) (least : UInt64) (a b : Int32) : Prop := match s with
  | none => least = 13830554455654793216 ∧ a = 0 ∧ b = 0
  | some q => least = q.1 ∧ a = q.2.1 ∧ b = q.2.2 ∧ fGr 322 1673 q.1 ∧ 0 ≤ fv q.1 ∧ zP q.1
def fTell (s : fS) (wt : Int32) : Int64 := match s with
  | none => -1
  | some q => if wt = 2 then q.1.toInt64 else if wt = 0 then (q.2.1 + 10).toInt64 else (q.2.2 + 10).toInt64
noncomputable def sFound (ux uy a lx ly b c sd g d sx sy f : Int32) (f1 f2 : Nat → Int32) (k : Nat) (r wt : Int32) : Int64 := fTell (fOut (fun x y => sOff (ux + x) (uy + y) lx ly a b c sd f1 f2 k) r (2 * r.toInt + 1).toNat (-r) none) wt
theorem fRep_b {s : fS} {l : UInt64} {a b : Int32} (h : fRep s l a b) : FP.Core.DFin l ∧ True := by
  cases s with
  | none => exact ⟨by rw [h.1]; exact m1_fin.1, trivial⟩
  | some q => exact ⟨by rw [h.1]; exact h.2.2.2.1.1, trivial⟩
set_option maxHeartbeats 4000000 in
set_option maxRecDepth 100000 in
theorem mX6_off (l : Launch) (D : va_G) (cI cH : ClassId) (o ha st ca bx rd hg ht1 ln k : Nat) (fh : Nat → Option Nat) (f1 f2 : Nat → Int32) (s0 s1 : Int32) (p0 p1 p2 p3 p4 p5 p6 p7 p8 p9 p10 p11 : UInt64) (ux uy a lx ly b c sd g d sx sy f : Int32) (h : Int32)  (hno : o ≠ st) (hna : ha ≠ st) (hne : hg ≠ st) (hn1 : rd ≠ st) (hn2 : ht1 ≠ st) (hn3 : ln ≠ st) (hgb : hgB ux uy a lx ly b c sd g d sx sy f) (hk : k ≤ 12) (hrd : ∀ j, j < k → cB (f1 j) ∧ rB (f2 j)) (hfh : okH h = true → fh h.toNatClampNeg = some hg) : Met l yX6_off wsX6_off ({ frames := 5, cells := 0, slots := 0, locals := 136 }) (va_Pc [.ref o, .int h] (kB D cI cH [(st, .inr (4, [.int s0, .int s1, .double p0, .double p1, .double p2, .double p3, .double p4, .double p5, .double p6, .double p7, .double p8, .double p9, .double p10, .double p11])), (o, .inr (5, [.ref ha, .ref st, .ref ca, .ref bx, .ref rd])), (ha, .inl (cH, 4, .inr (.inr (.inr (.inr fh))))), (rd, .inr (2, [.ref ht1, .ref ln, .int (nI k)])), (ht1, .inl (cI, 12, .inl f1)), (ln, .inl (cI, 12, .inl f2)), (hg, .inr (1, [.int ux, .int uy, .int a, .int lx, .int ly, .int b, .int c, .int sd, .int g, .int d, .int sx, .int sy, .int f]))])) (va_Ql (fun (r : Int64) (u : List Value) => r = (if okH h then offL (sOff ux uy lx ly a b c sd f1 f2 k) else -2) ∧ isSt u) (fun u t => va_at D vwCl (st, .inr (4, u)) t.heap) (aE st)) 0 0 (aE st) := by
  refine Met.ofW (cc := cX6_off) (maxL := 4) (ret := (some .long)) (by decide) rfl ?_
  intro p e s m args below meth co s₁ B hml hv
  obtain ⟨rfl, hP0, hw⟩ := hv
  have hx := B.exec
  have hb := B.bytes
  have hr := B.returns
  have hts := atoms_spec (ws := wsX6_off) B.pre
  have hown : s.vm.findClass RX6 = some m.cls := findClass_of_methodNamed B.named
  have hlocks := B.notSynchronized
  have hinX2 : ∀ w ∈ wsX20, w ∈ wsX6_off := by decide +kernel
  have hinX3 : ∀ w ∈ wsX30, w ∈ wsX6_off := by decide +kernel
  have hinX5 : ∀ w ∈ wsX50, w ∈ wsX6_off := by decide +kernel
  have hinX6 : ∀ w ∈ wsX60, w ∈ wsX6_off := by decide +kernel
  have hS : va_S (aE st) s.heap s.heap [] := va_S.rf
  have hP : va_P D vwCl [(st, .inr (4, [.int s0, .int s1, .double p0, .double p1, .double p2, .double p3, .double p4, .double p5, .double p6, .double p7, .double p8, .double p9, .double p10, .double p11]))] s.heap := hP0.sub [0] rfl
  have hD : va_D (aE st) [(st, .inr (4, [.int s0, .int s1, .double p0, .double p1, .double p2, .double p3, .double p4, .double p5, .double p6, .double p7, .double p8, .double p9, .double p10, .double p11]))] := D_1 rfl
  have hR0 : va_P D vwCl [(o, .inr (5, [.ref ha, .ref st, .ref ca, .ref bx, .ref rd])), (ha, .inl (cH, 4, .inr (.inr (.inr (.inr fh))))), (rd, .inr (2, [.ref ht1, .ref ln, .int (nI k)])), (ht1, .inl (cI, 12, .inl f1)), (ln, .inl (cI, 12, .inl f2)), (hg, .inr (1, [.int ux, .int uy, .int a, .int lx, .int ly, .int b, .int c, .int sd, .int g, .int d, .int sx, .int sy, .int f]))] s.heap := hP0.sub [1, 2, 3, 4, 5, 6] rfl
  have hR := hR0
  have hnr : ∀ (k9 : Nat) (q : Nat × va_E), ([(o, .inr (5, [.ref ha, .ref st, .ref ca, .ref bx, .ref rd])), (ha, .inl (cH, 4, .inr (.inr (.inr (.inr fh))))), (rd, .inr (2, [.ref ht1, .ref ln, .int (nI k)])), (ht1, .inl (cI, 12, .inl f1)), (ln, .inl (cI, 12, .inl f2)), (hg, .inr (1, [.int ux, .int uy, .int a, .int lx, .int ly, .int b, .int c, .int sd, .int g, .int d, .int sx, .int sy, .int f]))] : va_W)[k9]? = some q → ¬ (aE st) q.1 := nn_1 hno (nn_1 hna (nn_1 hn1 (nn_1 hn2 (nn_1 hn3 (nn_1 hne nn_0)))))
  obtain ⟨kux, kuy, ka, klx, kly, kb, kc, hsd, kg, kd, ksx, ksy, kf⟩ := id hgb
  have hl := lv_entry ([.ref o, .int h]) (n := 4) (Nat.le_of_ble_eq_true rfl)
  rw [lg_entry_eq]
  generalize (lg_sl ([.ref o, .int h]) ++ List.replicate (4 - (lg_sl ([.ref o, .int h])).length) Slot.unset).toArray = ls at hl ⊢
  have hl : lv_has ls 4 [(0, .ref o), (1, .int h)] := hl
  skip
  refine lv_iload_n hx hb dX6_off_0 rfl (lv_at hl 1 rfl) ?_
  refine va_calli (va_runS (As := [.int h]) (rest := []) ⟨hx, hb, hml, hown, hts⟩ (mX6_isHanging l h) (va_cwS 1 hts gX6_off_X6_isHanging rfl rfl rfl (by decide +kernel) ⟨Nat.le_of_ble_eq_true rfl, Nat.le_of_ble_eq_true rfl⟩) ⟨tB_blind, tB_go⟩ rfl rfl hl.1 rfl (lv_room (Nat.le_of_ble_eq_true rfl)) dX6_off_1 ⟨Nat.le_of_ble_eq_true rfl, Nat.le_of_ble_eq_true rfl⟩) hS (fun q _ h => h.elim) (fun q h => h.elim) (fun r1 u2 t H locs ht hvm hp3 hB hz1 hk1 hS => ?_)
  have hP := fr_keep hP hk1 fr_nA
  have hR := fr_rd hR0 hS hnr
  subst hp3
  refine lv_if_ne (tgt := 11) hx hb dX6_off_4 (by decide) (fun c4 => ?_) (fun c4 => ?_)
  · have c4 := bI_n.mp c4
    refine lv_aload_n hx hb dX6_off_11 rfl (lv_at hl 0 rfl) ?_
    refine lv_aload_n hx hb dX6_off_12 rfl (lv_at hl 0 rfl) ?_
    refine va_get (D := D) (ci := 5) (v := .ref ha) (C := RX6) (T := TX6) (N := 5) hx hb hts hinX6 hown hw.1 hR 0 rfl rfl 0 (by decide) (hts (.fieldLink RX6 11 "WheelSwing" "hangings" "[LWheelSwing$Hanging;") (by decide +kernel)) (fun _ h9 => h9) rfl dX6_off_13 ?_
    refine lv_iload_n hx hb dX6_off_16 rfl (lv_at hl 1 rfl) ?_
    have HOKH := c4
    refine va_aldq hx hb hw.1 hR 1 1 rfl rfl (okH_in c4) dX6_off_17 ?_
    refine lv_rfs (a := hg) (hfh HOKH) ?_
    refine lv_iconst (v := 0) hx hb dX6_off_18 (by decide) ?_
    refine lv_iconst (v := 0) hx hb dX6_off_19 (by decide) ?_
    have hq5 : va_P D vwCl [(st, .inr (4, [.int s0, .int s1, .double p0, .double p1, .double p2, .double p3, .double p4, .double p5, .double p6, .double p7, .double p8, .double p9, .double p10, .double p11])), (o, .inr (5, [.ref ha, .ref st, .ref ca, .ref bx, .ref rd])), (rd, .inr (2, [.ref ht1, .ref ln, .int (nI k)])), (ht1, .inl (cI, 12, .inl f1)), (ln, .inl (cI, 12, .inl f2)), (hg, .inr (1, [.int ux, .int uy, .int a, .int lx, .int ly, .int b, .int c, .int sd, .int g, .int d, .int sx, .int sy, .int f]))] H := fr_cons (hP 0 _ rfl) (fr_cons (hR 0 _ rfl) (fr_cons (hR 2 _ rfl) (fr_cons (hR 3 _ rfl) (fr_cons (hR 4 _ rfl) (fr_cons (hR 5 _ rfl) (fr_nil))))))
    refine va_calld (va_runV (As := [.ref hg, .int 0, .int 0]) (rest := []) ⟨hx, hb, hml, hown, hts⟩ (mX6_howFarOff l D cI cH o ha st ca bx rd hg ht1 ln k f1 f2 s0 s1 p0 p1 p2 p3 p4 p5 p6 p7 p8 p9 p10 p11 ux uy a lx ly b c sd g d sx sy f 0 0 hno hne hn1 hn2 hn3 hgb hk hrd) (cwV 3 hts gX6_off_X6_howFarOff rfl rfl rfl (by decide +kernel) ⟨Nat.le_of_ble_eq_true rfl, Nat.le_of_ble_eq_true rfl⟩) ⟨kB_blind, va_recv hw.1 hq5 (ci := 5) (q0 := 1) rfl rfl, kB_go hq5 hw⟩ rfl rfl hl.1 rfl (lv_room (Nat.le_of_ble_eq_true rfl)) dX6_off_20 ⟨Nat.le_of_ble_eq_true rfl, Nat.le_of_ble_eq_true rfl⟩) hS (fun q _ h => h) (fun q h => h) (fun r6 u7 t H locs ht hvm hp8 hB hz1 hk1 hS => ?_)
    have hB : va_at D vwCl (st, .inr (4, u7)) t.heap := hB
    rw [ht] at hB
    have hP := fr_one hB
    have hR := fr_rd hR0 hS hnr
    obtain ⟨⟨hro, hrs⟩, j9, j10, j11, j12, j13, j14, j15, j16, j17, j18, j19, j20, j21, j22, rfl⟩ := hp8
    rcases hso : sOff (ux + 0) (uy + 0) lx ly a b c sd f1 f2 k with _ | s9
    · rw [hso] at hro
      have hro : r6 = 13830554455654793216 := hro
      subst hro
      have hP : va_P D vwCl [(st, .inr (4, [.int j9, .int j10, .double j11, .double j12, .double j13, .double j14, .double j15, .double j16, .double j17, .double j18, .double j19, .double j20, .double j21, .double j22]))] H := hP
      have hD : va_D (aE st) [(st, .inr (4, [.int j9, .int j10, .double j11, .double j12, .double j13, .double j14, .double j15, .double j16, .double j17, .double j18, .double j19, .double j20, .double j21, .double j22]))] := D_1 rfl
      refine lv_dstore_n (lv' := [(2, .double 13830554455654793216), (0, .ref o), (1, .int h)]) hx hb dX6_off_23 rfl hl (by decide) rfl (fun ls hl => ?_)
      refine lv_dload_n hx hb dX6_off_24 rfl (lv_at hl 0 rfl) ?_
      refine lv_dconst0 hx hb dX6_off_25 ?_
      refine lv_dcmp hx hb dX6_off_26 ?_
      rw [fp_cv m1_fin.1 gf_c0.1]
      refine lv_if_ge (tgt := 36) hx hb dX6_off_27 (by decide) (fun c23 => ?_) (fun c23 => ?_)
      · rw [fcv_ge] at c23
        exact absurd c23 (Int.not_le.mpr (by rw [fv_c0]; exact m1_fin.2))
      · rw [fcv_ge] at c23
        refine lv_ldc2 hx hb hown (hts (.constantLong RX6 100 (-1)) (by decide +kernel)) dX6_off_30 ?_
        refine lv_goto (tgt := 40) hx hb dX6_off_33 (by decide) ?_
        exact W.lret (v := (-1)) hx hb hr (fun t ht hW => ⟨⟨(-1), [.int j9, .int j10, .double j11, .double j12, .double j13, .double j14, .double j15, .double j16, .double j17, .double j18, .double j19, .double j20, .double j21, .double j22], rfl, ⟨by have hz : sOff ux uy lx ly a b c sd f1 f2 k = none := (by have hq := hso; rw [Int32.add_zero, Int32.add_zero] at hq; exact hq); rw [show okH h = true from c4, if_pos rfl, hz]; rfl, ⟨_, _, _, _, _, _, _, _, _, _, _, _, _, _, rfl⟩⟩, at_heap ht (hP 0 _ rfl)⟩, hS.F ht⟩) hS.2.2 dX6_off_40
    · have hg9 := hrs s9 hso
      rw [hso] at hro
      have hro : r6 = s9 := hro
      subst hro
      have hP : va_P D vwCl [(st, .inr (4, [.int j9, .int j10, .double j11, .double j12, .double j13, .double j14, .double j15, .double j16, .double j17, .double j18, .double j19, .double j20, .double j21, .double j22]))] H := hP
      have hD : va_D (aE st) [(st, .inr (4, [.int j9, .int j10, .double j11, .double j12, .double j13, .double j14, .double j15, .double j16, .double j17, .double j18, .double j19, .double j20, .double j21, .double j22]))] := D_1 rfl
      refine lv_dstore_n (lv' := [(2, .double r6), (0, .ref o), (1, .int h)]) hx hb dX6_off_23 rfl hl (by decide) rfl (fun ls hl => ?_)
      refine lv_dload_n hx hb dX6_off_24 rfl (lv_at hl 0 rfl) ?_
      refine lv_dconst0 hx hb dX6_off_25 ?_
      refine lv_dcmp hx hb dX6_off_26 ?_
      rw [fp_cv hg9.1.1 gf_c0.1]
      refine lv_if_ge (tgt := 36) hx hb dX6_off_27 (by decide) (fun c24 => ?_) (fun c24 => ?_)
      · rw [fcv_ge] at c24
        refine lv_dload_n hx hb dX6_off_36 rfl (lv_at hl 0 rfl) ?_
        refine va_calll (va_runSN (As := [.double r6]) (rest := []) ⟨hx, hb, hml, hown, hts⟩ (mX1_bits l r6 (bOk2_gr hg9.1 hg9.2.2 (Nat.le_of_ble_eq_true rfl) (Nat.le_of_ble_eq_true rfl))) (⟨va_cnB 1 hts gX6_off_X1_bits_n143 rfl rfl rfl (hw.2 (.methodLinkNest RX6 143 yX1_bits "WheelSwing") (by decide +kernel)) (hts (.initialized RX1) (by decide +kernel)) (by decide +kernel) ⟨Nat.le_of_ble_eq_true rfl, Nat.le_of_ble_eq_true rfl⟩, hts (.static yX1_bits) (by decide +kernel), trivial⟩) ⟨tB_blind, tB_go⟩ rfl rfl hl.1 rfl (lv_room (Nat.le_of_ble_eq_true rfl)) dX6_off_37 ⟨Nat.le_of_ble_eq_true rfl, Nat.le_of_ble_eq_true rfl⟩) hS (fun q _ h => h.elim) (fun q h => h.elim) (fun r25 u26 t H locs ht hvm hp27 hB hz1 hk1 hS => ?_)
        have hP := fr_keep hP hk1 fr_nA
        have hR := fr_rd hR0 hS hnr
        subst hp27
        exact W.lret (v := UInt64.toInt64 r6) hx hb hr (fun t ht hW => ⟨⟨UInt64.toInt64 r6, [.int j9, .int j10, .double j11, .double j12, .double j13, .double j14, .double j15, .double j16, .double j17, .double j18, .double j19, .double j20, .double j21, .double j22], rfl, ⟨by have hz : sOff ux uy lx ly a b c sd f1 f2 k = some r6 := (by have hq := hso; rw [Int32.add_zero, Int32.add_zero] at hq; exact hq); rw [show okH h = true from c4, if_pos rfl, hz]; rfl, ⟨_, _, _, _, _, _, _, _, _, _, _, _, _, _, rfl⟩⟩, at_heap ht (hP 0 _ rfl)⟩, hS.F ht⟩) hS.2.2 dX6_off_40
      · rw [fcv_ge] at c24
        exact absurd (by rw [fv_c0]; exact hg9.2.1) c24
  · have c4 := bI_e.mp c4
    refine lv_ldc2 hx hb hown (hts (.constantLong RX6 83 (-2)) (by decide +kernel)) dX6_off_7 ?_
    exact W.lret (v := (-2)) hx hb hr (fun t ht hW => ⟨⟨(-2), [.int s0, .int s1, .double p0, .double p1, .double p2, .double p3, .double p4, .double p5, .double p6, .double p7, .double p8, .double p9, .double p10, .double p11], rfl, ⟨by rw [show okH h = false from c4]; rfl, ⟨_, _, _, _, _, _, _, _, _, _, _, _, _, _, rfl⟩⟩, at_heap ht (hP 0 _ rfl)⟩, hS.F ht⟩) hS.2.2 dX6_off_10
set_option maxHeartbeats 4000000 in
set_option maxRecDepth 100000 in
theorem lpX6_fin {p : Program} {l : Launch} {e : Env} {s : State} {m : MethodId} {args : Array Value} {below : List Frame} {meth : Method} {co : Code} {Q : State → Prop} (D : va_G) (cI cH : ClassId) (hx : p.tables.exec = Jvm.exec) (hb : co.code = cX6_found) (hml : co.maxLocals = 12) (hown : s.vm.findClass RX6 = some m.cls) (hts : ∀ w ∈ wsX6_found, w.before args s = true) (hw : wk D cI cH s) {o ha st ca bx rd hg ht1 ln k : Nat} {fh : Nat → Option Nat} {f1 f2 : Nat → Int32} {ux uy a lx ly b c sd g d sx sy f h r0 wt : Int32} (hno : o ≠ st) (hna : ha ≠ st) (hne : hg ≠ st) (hn1 : rd ≠ st) (hn2 : ht1 ≠ st) (hn3 : ln ≠ st) (hgb : hgB ux uy a lx ly b c sd g d sx sy f) (hk : k ≤ 12) (hrd : ∀ j, j < k → cB (f1 j) ∧ rB (f2 j)) (HOKH : okH h = true) (hfh : okH h = true → fh h.toNatClampNeg = some hg) (hr0 : 0 ≤ r0.toInt ∧ r0.toInt ≤ 3)  {x : Int32} {S1 : fS} (hR0 : va_P D vwCl [(o, .inr (5, [.ref ha, .ref st, .ref ca, .ref bx, .ref rd])), (ha, .inl (cH, 4, .inr (.inr (.inr (.inr fh))))), (rd, .inr (2, [.ref ht1, .ref ln, .int (nI k)])), (ht1, .inl (cI, 12, .inl f1)), (ln, .inl (cI, 12, .inl f2)), (hg, .inr (1, [.int ux, .int uy, .int a, .int lx, .int ly, .int b, .int c, .int sd, .int g, .int d, .int sx, .int sy, .int f]))] s.heap) (kx : ∀ (H : Heap) (locs : List Loc) (ls : Array Slot) (least : UInt64) (ma mb : Int32) (s0 s1 : Int32) (p0 p1 p2 p3 p4 p5 p6 p7 p8 p9 p10 p11 : UInt64), va_S (aE st) s.heap H locs → va_P D vwCl [(st, .inr (4, [.int s0, .int s1, .double p0, .double p1, .double p2, .double p3, .double p4, .double p5, .double p6, .double p7, .double p8, .double p9, .double p10, .double p11]))] H → fRep S1 least ma mb → lv_has ls 12 [(8, .int x), (7, .int mb), (6, .int ma), (4, .double least), (3, .int wt), (2, .int r0), (1, .int h), (0, .ref o)] → W p l e ({ frames := 5, cells := 0, slots := 0, locals := 136 } : Room) s m args below meth co H locs 0 0 Q (F0 m 116 ls [])) : ∀ (n : Nat) (y : Int32) (S0 : fS) (H : Heap) (locs : List Loc) (ls : Array Slot) (least : UInt64) (ma mb : Int32) (s0 s1 : Int32) (p0 p1 p2 p3 p4 p5 p6 p7 p8 p9 p10 p11 : UInt64), va_S (aE st) s.heap H locs → va_P D vwCl [(st, .inr (4, [.int s0, .int s1, .double p0, .double p1, .double p2, .double p3, .double p4, .double p5, .double p6, .double p7, .double p8, .double p9, .double p10, .double p11]))] H → y.toInt + n = r0.toInt + 1 ∧ -10 ≤ y.toInt → fIn (fun x y => sOff (ux + x) (uy + y) lx ly a b c sd f1 f2 k) x n y S0 = S1 → fRep S0 least ma mb → lv_has ls 12 [(9, .int y), (8, .int x), (7, .int mb), (6, .int ma), (4, .double least), (3, .int wt), (2, .int r0), (1, .int h), (0, .ref o)] → W p l e ({ frames := 5, cells := 0, slots := 0, locals := 136 } : Room) s m args below meth co H locs 0 0 Q (F0 m 54 ls []) := by
  have hinX2 : ∀ w ∈ wsX20, w ∈ wsX6_found := by decide +kernel
  have hinX3 : ∀ w ∈ wsX30, w ∈ wsX6_found := by decide +kernel
  have hinX5 : ∀ w ∈ wsX50, w ∈ wsX6_found := by decide +kernel
  have hinX6 : ∀ w ∈ wsX60, w ∈ wsX6_found := by decide +kernel
  obtain ⟨kux, kuy, ka, klx, kly, kb, kc, hsd, kg, kd, ksx, ksy, kf⟩ := id hgb
  have hnr : ∀ (k9 : Nat) (q : Nat × va_E), ([(o, .inr (5, [.ref ha, .ref st, .ref ca, .ref bx, .ref rd])), (ha, .inl (cH, 4, .inr (.inr (.inr (.inr fh))))), (rd, .inr (2, [.ref ht1, .ref ln, .int (nI k)])), (ht1, .inl (cI, 12, .inl f1)), (ln, .inl (cI, 12, .inl f2)), (hg, .inr (1, [.int ux, .int uy, .int a, .int lx, .int ly, .int b, .int c, .int sd, .int g, .int d, .int sx, .int sy, .int f]))] : va_W)[k9]? = some q → ¬ (aE st) q.1 := nn_1 hno (nn_1 hna (nn_1 hn1 (nn_1 hn2 (nn_1 hn3 (nn_1 hne nn_0)))))
  intro n
  induction n with
  | zero =>
    intro y S0 H locs ls least ma mb s0 s1 p0 p1 p2 p3 p4 p5 p6 p7 p8 p9 p10 p11 hS hP hy hF hrep hl
    obtain ⟨hy1, hy2⟩ := hy
    have hlb := fRep_b hrep
    have hD : va_D (aE st) [(st, .inr (4, [.int s0, .int s1, .double p0, .double p1, .double p2, .double p3, .double p4, .double p5, .double p6, .double p7, .double p8, .double p9, .double p10, .double p11]))] := D_1 rfl
    have hR := fr_rd hR0 hS hnr
    refine lv_iload hx hb dX6_found_54 (lv_at hl 0 rfl) ?_
    refine lv_iload_n hx hb dX6_found_56 rfl (lv_at hl 6 rfl) ?_
    refine lv_icmp_gt (tgt := 116) hx hb dX6_found_57 (by decide) (fun c1 => ?_) (fun c1 => ?_)
    · have iw2 := Int32.not_le.mpr c1
      exact kx H locs ls least ma mb s0 s1 p0 p1 p2 p3 p4 p5 p6 p7 p8 p9 p10 p11 hS hP (by rw [← hF]; exact hrep) (lv_sub hl [1, 2, 3, 4, 5, 6, 7, 8] rfl)
    · have iw3 := Int32.not_lt.mp c1
      exact absurd (Int32.lt_iff_toInt_lt.mpr (by omega)) c1
  | succ n ih =>
    intro y S0 H locs ls least ma mb s0 s1 p0 p1 p2 p3 p4 p5 p6 p7 p8 p9 p10 p11 hS hP hy hF hrep hl
    obtain ⟨hy1, hy2⟩ := hy
    have hlb := fRep_b hrep
    have hD : va_D (aE st) [(st, .inr (4, [.int s0, .int s1, .double p0, .double p1, .double p2, .double p3, .double p4, .double p5, .double p6, .double p7, .double p8, .double p9, .double p10, .double p11]))] := D_1 rfl
    have hR := fr_rd hR0 hS hnr
    have hyn : (y + 1).toInt = y.toInt + 1 := by
      have e1 : (1 : Int32).toInt = 1 := rfl
      rw [i3_add (by omega) (by omega), e1]
    cases S0 with
    | none =>
      obtain ⟨rfl, rfl, rfl⟩ := hrep
      refine lv_iload hx hb dX6_found_54 (lv_at hl 0 rfl) ?_
      refine lv_iload_n hx hb dX6_found_56 rfl (lv_at hl 6 rfl) ?_
      refine lv_icmp_gt (tgt := 116) hx hb dX6_found_57 (by decide) (fun c1 => ?_) (fun c1 => ?_)
      · have iw2 := Int32.not_le.mpr c1
        exact absurd c1 (Int32.not_lt.mpr (Int32.le_iff_toInt_le.mpr (by omega)))
      · have iw3 := Int32.not_lt.mp c1
        refine lv_aload_n hx hb dX6_found_60 rfl (lv_at hl 8 rfl) ?_
        refine lv_aload_n hx hb dX6_found_61 rfl (lv_at hl 8 rfl) ?_
        refine va_get (D := D) (ci := 5) (v := .ref ha) (C := RX6) (T := TX6) (N := 5) hx hb hts hinX6 hown hw.1 hR 0 rfl rfl 0 (by decide) (hts (.fieldLink RX6 11 "WheelSwing" "hangings" "[LWheelSwing$Hanging;") (by decide +kernel)) (fun _ h9 => h9) rfl dX6_found_62 ?_
        refine lv_iload_n hx hb dX6_found_65 rfl (lv_at hl 7 rfl) ?_
        refine va_aldq hx hb hw.1 hR 1 1 rfl rfl (okH_in HOKH) dX6_found_66 ?_
        refine lv_rfs (a := hg) (hfh HOKH) ?_
        refine lv_iload hx hb dX6_found_67 (lv_at hl 1 rfl) ?_
        refine lv_iload hx hb dX6_found_69 (lv_at hl 0 rfl) ?_
        have hq4 : va_P D vwCl [(st, .inr (4, [.int s0, .int s1, .double p0, .double p1, .double p2, .double p3, .double p4, .double p5, .double p6, .double p7, .double p8, .double p9, .double p10, .double p11])), (o, .inr (5, [.ref ha, .ref st, .ref ca, .ref bx, .ref rd])), (rd, .inr (2, [.ref ht1, .ref ln, .int (nI k)])), (ht1, .inl (cI, 12, .inl f1)), (ln, .inl (cI, 12, .inl f2)), (hg, .inr (1, [.int ux, .int uy, .int a, .int lx, .int ly, .int b, .int c, .int sd, .int g, .int d, .int sx, .int sy, .int f]))] H := fr_cons (hP 0 _ rfl) (fr_cons (hR 0 _ rfl) (fr_cons (hR 2 _ rfl) (fr_cons (hR 3 _ rfl) (fr_cons (hR 4 _ rfl) (fr_cons (hR 5 _ rfl) (fr_nil))))))
        refine va_calld (va_runV (As := [.ref hg, .int x, .int y]) (rest := []) ⟨hx, hb, hml, hown, hts⟩ (mX6_howFarOff l D cI cH o ha st ca bx rd hg ht1 ln k f1 f2 s0 s1 p0 p1 p2 p3 p4 p5 p6 p7 p8 p9 p10 p11 ux uy a lx ly b c sd g d sx sy f x y hno hne hn1 hn2 hn3 hgb hk hrd) (cwV 3 hts gX6_found_X6_howFarOff rfl rfl rfl (by decide +kernel) ⟨Nat.le_of_ble_eq_true rfl, Nat.le_of_ble_eq_true rfl⟩) ⟨kB_blind, va_recv hw.1 hq4 (ci := 5) (q0 := 1) rfl rfl, kB_go hq4 hw⟩ rfl rfl hl.1 rfl (lv_room (Nat.le_of_ble_eq_true rfl)) dX6_found_71 ⟨Nat.le_of_ble_eq_true rfl, Nat.le_of_ble_eq_true rfl⟩) hS (fun q _ h => h) (fun q h => h) (fun r5 u6 t H locs ht hvm hp7 hB hz1 hk1 hS => ?_)
        have hB : va_at D vwCl (st, .inr (4, u6)) t.heap := hB
        rw [ht] at hB
        have hP := fr_one hB
        have hR := fr_rd hR0 hS hnr
        obtain ⟨⟨hro, hrs⟩, j8, j9, j10, j11, j12, j13, j14, j15, j16, j17, j18, j19, j20, j21, rfl⟩ := hp7
        rcases hso : sOff (ux + x) (uy + y) lx ly a b c sd f1 f2 k with _ | s9
        · rw [hso] at hro
          have hro : r5 = 13830554455654793216 := hro
          subst hro
          have hP : va_P D vwCl [(st, .inr (4, [.int j8, .int j9, .double j10, .double j11, .double j12, .double j13, .double j14, .double j15, .double j16, .double j17, .double j18, .double j19, .double j20, .double j21]))] H := hP
          have hD : va_D (aE st) [(st, .inr (4, [.int j8, .int j9, .double j10, .double j11, .double j12, .double j13, .double j14, .double j15, .double j16, .double j17, .double j18, .double j19, .double j20, .double j21]))] := D_1 rfl
          refine lv_dstore (lv' := [(10, .double 13830554455654793216), (9, .int y), (8, .int x), (7, .int 0), (6, .int 0), (4, .double 13830554455654793216), (3, .int wt), (2, .int r0), (1, .int h), (0, .ref o)]) hx hb dX6_found_74 hl (by decide) rfl (fun ls hl => ?_)
          refine lv_dload hx hb dX6_found_76 (lv_at hl 0 rfl) ?_
          refine lv_dconst0 hx hb dX6_found_78 ?_
          refine lv_dcmp hx hb dX6_found_79 ?_
          rw [fp_cv m1_fin.1 gf_c0.1]
          refine lv_if_lt (tgt := 110) hx hb dX6_found_80 (by decide) (fun c22 => ?_) (fun c22 => ?_)
          · rw [fcv_lt] at c22
            refine lv_iinc (v := y + 1) (lv' := [(9, .int (y + 1)), (10, .double 13830554455654793216), (8, .int x), (7, .int 0), (6, .int 0), (4, .double 13830554455654793216), (3, .int wt), (2, .int r0), (1, .int h), (0, .ref o)]) hx hb dX6_found_110 hl (k := 1) rfl rfl (by decide) rfl (fun ls hl => ?_)
            refine lv_goto (tgt := 54) hx hb dX6_found_113 (by decide) ?_
            have hst9 : fStep (sOff (ux + x) (uy + y) lx ly a b c sd f1 f2 k) x y (none) = none := by show (match sOff (ux + x) (uy + y) lx ly a b c sd f1 f2 k with | none => _ | some v => _) = _; rw [hso]
            have h9 : lv_has ls 12 [(9, .int (y + 1)), (8, .int x), (7, .int 0), (6, .int 0), (4, .double 13830554455654793216), (3, .int wt), (2, .int r0), (1, .int h), (0, .ref o)] := (lv_sub hl [0, 2, 3, 4, 5, 6, 7, 8, 9] rfl)
            exact ih (y + 1) (none) H locs ls 13830554455654793216 0 0 j8 j9 j10 j11 j12 j13 j14 j15 j16 j17 j18 j19 j20 j21 hS hP ⟨by omega, by omega⟩ (by rw [← hst9]; exact hF) ⟨rfl, rfl, rfl⟩ h9
          · rw [fcv_lt] at c22
            exact absurd (by rw [fv_c0]; exact m1_fin.2) c22
        · have hg9 := hrs s9 hso
          rw [hso] at hro
          have hro : r5 = s9 := hro
          subst hro
          have hP : va_P D vwCl [(st, .inr (4, [.int j8, .int j9, .double j10, .double j11, .double j12, .double j13, .double j14, .double j15, .double j16, .double j17, .double j18, .double j19, .double j20, .double j21]))] H := hP
          have hD : va_D (aE st) [(st, .inr (4, [.int j8, .int j9, .double j10, .double j11, .double j12, .double j13, .double j14, .double j15, .double j16, .double j17, .double j18, .double j19, .double j20, .double j21]))] := D_1 rfl
          refine lv_dstore (lv' := [(10, .double r5), (9, .int y), (8, .int x), (7, .int 0), (6, .int 0), (4, .double 13830554455654793216), (3, .int wt), (2, .int r0), (1, .int h), (0, .ref o)]) hx hb dX6_found_74 hl (by decide) rfl (fun ls hl => ?_)
          refine lv_dload hx hb dX6_found_76 (lv_at hl 0 rfl) ?_
          refine lv_dconst0 hx hb dX6_found_78 ?_
          refine lv_dcmp hx hb dX6_found_79 ?_
          rw [fp_cv hg9.1.1 gf_c0.1]
          refine lv_if_lt (tgt := 110) hx hb dX6_found_80 (by decide) (fun c23 => ?_) (fun c23 => ?_)
          · rw [fcv_lt] at c23
            exact absurd c23 (Int.not_lt.mpr (by rw [fv_c0]; exact hg9.2.1))
          · rw [fcv_lt] at c23
            refine lv_dload hx hb dX6_found_83 (lv_at hl 5 rfl) ?_
            refine lv_dconst0 hx hb dX6_found_85 ?_
            refine lv_dcmp hx hb dX6_found_86 ?_
            rw [fp_cv m1_fin.1 gf_c0.1]
            refine lv_if_lt (tgt := 98) hx hb dX6_found_87 (by decide) (fun c24 => ?_) (fun c24 => ?_)
            · rw [fcv_lt] at c24
              refine lv_dload hx hb dX6_found_98 (lv_at hl 0 rfl) ?_
              refine lv_dstore (lv' := [(4, .double r5), (10, .double r5), (9, .int y), (8, .int x), (7, .int 0), (6, .int 0), (3, .int wt), (2, .int r0), (1, .int h), (0, .ref o)]) hx hb dX6_found_100 hl (by decide) rfl (fun ls hl => ?_)
              refine lv_iload hx hb dX6_found_102 (lv_at hl 3 rfl) ?_
              refine lv_istore (lv' := [(6, .int x), (4, .double r5), (10, .double r5), (9, .int y), (8, .int x), (7, .int 0), (3, .int wt), (2, .int r0), (1, .int h), (0, .ref o)]) hx hb dX6_found_104 hl (by decide) rfl (fun ls hl => ?_)
              refine lv_iload hx hb dX6_found_106 (lv_at hl 3 rfl) ?_
              refine lv_istore (lv' := [(7, .int y), (6, .int x), (4, .double r5), (10, .double r5), (9, .int y), (8, .int x), (3, .int wt), (2, .int r0), (1, .int h), (0, .ref o)]) hx hb dX6_found_108 hl (by decide) rfl (fun ls hl => ?_)
              refine lv_iinc (v := y + 1) (lv' := [(9, .int (y + 1)), (7, .int y), (6, .int x), (4, .double r5), (10, .double r5), (8, .int x), (3, .int wt), (2, .int r0), (1, .int h), (0, .ref o)]) hx hb dX6_found_110 hl (k := 4) rfl rfl (by decide) rfl (fun ls hl => ?_)
              refine lv_goto (tgt := 54) hx hb dX6_found_113 (by decide) ?_
              have hst9 : fStep (sOff (ux + x) (uy + y) lx ly a b c sd f1 f2 k) x y (none) = some (r5, x, y) := by show (match sOff (ux + x) (uy + y) lx ly a b c sd f1 f2 k with | none => _ | some v => _) = _; rw [hso]
              have h9 : lv_has ls 12 [(9, .int (y + 1)), (8, .int x), (7, .int y), (6, .int x), (4, .double r5), (3, .int wt), (2, .int r0), (1, .int h), (0, .ref o)] := (lv_sub hl [0, 5, 1, 2, 3, 6, 7, 8, 9] rfl)
              exact ih (y + 1) (some (r5, x, y)) H locs ls r5 x y j8 j9 j10 j11 j12 j13 j14 j15 j16 j17 j18 j19 j20 j21 hS hP ⟨by omega, by omega⟩ (by rw [← hst9]; exact hF) ⟨rfl, rfl, rfl, hg9.1, hg9.2⟩ h9
            · rw [fcv_lt] at c24
              exact absurd (by rw [fv_c0]; exact m1_fin.2) c24
    | some q =>
      obtain ⟨l9, a9, b9⟩ := q
      obtain ⟨h91, h92, h93, hg8⟩ := id hrep
      obtain rfl : l9 = least := h91.symm
      obtain rfl : a9 = ma := h92.symm
      obtain rfl : b9 = mb := h93.symm
      refine lv_iload hx hb dX6_found_54 (lv_at hl 0 rfl) ?_
      refine lv_iload_n hx hb dX6_found_56 rfl (lv_at hl 6 rfl) ?_
      refine lv_icmp_gt (tgt := 116) hx hb dX6_found_57 (by decide) (fun c1 => ?_) (fun c1 => ?_)
      · have iw2 := Int32.not_le.mpr c1
        exact absurd c1 (Int32.not_lt.mpr (Int32.le_iff_toInt_le.mpr (by omega)))
      · have iw3 := Int32.not_lt.mp c1
        refine lv_aload_n hx hb dX6_found_60 rfl (lv_at hl 8 rfl) ?_
        refine lv_aload_n hx hb dX6_found_61 rfl (lv_at hl 8 rfl) ?_
        refine va_get (D := D) (ci := 5) (v := .ref ha) (C := RX6) (T := TX6) (N := 5) hx hb hts hinX6 hown hw.1 hR 0 rfl rfl 0 (by decide) (hts (.fieldLink RX6 11 "WheelSwing" "hangings" "[LWheelSwing$Hanging;") (by decide +kernel)) (fun _ h9 => h9) rfl dX6_found_62 ?_
        refine lv_iload_n hx hb dX6_found_65 rfl (lv_at hl 7 rfl) ?_
        refine va_aldq hx hb hw.1 hR 1 1 rfl rfl (okH_in HOKH) dX6_found_66 ?_
        refine lv_rfs (a := hg) (hfh HOKH) ?_
        refine lv_iload hx hb dX6_found_67 (lv_at hl 1 rfl) ?_
        refine lv_iload hx hb dX6_found_69 (lv_at hl 0 rfl) ?_
        have hq4 : va_P D vwCl [(st, .inr (4, [.int s0, .int s1, .double p0, .double p1, .double p2, .double p3, .double p4, .double p5, .double p6, .double p7, .double p8, .double p9, .double p10, .double p11])), (o, .inr (5, [.ref ha, .ref st, .ref ca, .ref bx, .ref rd])), (rd, .inr (2, [.ref ht1, .ref ln, .int (nI k)])), (ht1, .inl (cI, 12, .inl f1)), (ln, .inl (cI, 12, .inl f2)), (hg, .inr (1, [.int ux, .int uy, .int a, .int lx, .int ly, .int b, .int c, .int sd, .int g, .int d, .int sx, .int sy, .int f]))] H := fr_cons (hP 0 _ rfl) (fr_cons (hR 0 _ rfl) (fr_cons (hR 2 _ rfl) (fr_cons (hR 3 _ rfl) (fr_cons (hR 4 _ rfl) (fr_cons (hR 5 _ rfl) (fr_nil))))))
        refine va_calld (va_runV (As := [.ref hg, .int x, .int y]) (rest := []) ⟨hx, hb, hml, hown, hts⟩ (mX6_howFarOff l D cI cH o ha st ca bx rd hg ht1 ln k f1 f2 s0 s1 p0 p1 p2 p3 p4 p5 p6 p7 p8 p9 p10 p11 ux uy a lx ly b c sd g d sx sy f x y hno hne hn1 hn2 hn3 hgb hk hrd) (cwV 3 hts gX6_found_X6_howFarOff rfl rfl rfl (by decide +kernel) ⟨Nat.le_of_ble_eq_true rfl, Nat.le_of_ble_eq_true rfl⟩) ⟨kB_blind, va_recv hw.1 hq4 (ci := 5) (q0 := 1) rfl rfl, kB_go hq4 hw⟩ rfl rfl hl.1 rfl (lv_room (Nat.le_of_ble_eq_true rfl)) dX6_found_71 ⟨Nat.le_of_ble_eq_true rfl, Nat.le_of_ble_eq_true rfl⟩) hS (fun q _ h => h) (fun q h => h) (fun r5 u6 t H locs ht hvm hp7 hB hz1 hk1 hS => ?_)
        have hB : va_at D vwCl (st, .inr (4, u6)) t.heap := hB
        rw [ht] at hB
        have hP := fr_one hB
        have hR := fr_rd hR0 hS hnr
        obtain ⟨⟨hro, hrs⟩, j8, j9, j10, j11, j12, j13, j14, j15, j16, j17, j18, j19, j20, j21, rfl⟩ := hp7
        rcases hso : sOff (ux + x) (uy + y) lx ly a b c sd f1 f2 k with _ | s9
        · rw [hso] at hro
          have hro : r5 = 13830554455654793216 := hro
          subst hro
          have hP : va_P D vwCl [(st, .inr (4, [.int j8, .int j9, .double j10, .double j11, .double j12, .double j13, .double j14, .double j15, .double j16, .double j17, .double j18, .double j19, .double j20, .double j21]))] H := hP
          have hD : va_D (aE st) [(st, .inr (4, [.int j8, .int j9, .double j10, .double j11, .double j12, .double j13, .double j14, .double j15, .double j16, .double j17, .double j18, .double j19, .double j20, .double j21]))] := D_1 rfl
          refine lv_dstore (lv' := [(10, .double 13830554455654793216), (9, .int y), (8, .int x), (7, .int b9), (6, .int a9), (4, .double l9), (3, .int wt), (2, .int r0), (1, .int h), (0, .ref o)]) hx hb dX6_found_74 hl (by decide) rfl (fun ls hl => ?_)
          refine lv_dload hx hb dX6_found_76 (lv_at hl 0 rfl) ?_
          refine lv_dconst0 hx hb dX6_found_78 ?_
          refine lv_dcmp hx hb dX6_found_79 ?_
          rw [fp_cv m1_fin.1 gf_c0.1]
          refine lv_if_lt (tgt := 110) hx hb dX6_found_80 (by decide) (fun c22 => ?_) (fun c22 => ?_)
          · rw [fcv_lt] at c22
            refine lv_iinc (v := y + 1) (lv' := [(9, .int (y + 1)), (10, .double 13830554455654793216), (8, .int x), (7, .int b9), (6, .int a9), (4, .double l9), (3, .int wt), (2, .int r0), (1, .int h), (0, .ref o)]) hx hb dX6_found_110 hl (k := 1) rfl rfl (by decide) rfl (fun ls hl => ?_)
            refine lv_goto (tgt := 54) hx hb dX6_found_113 (by decide) ?_
            have hst9 : fStep (sOff (ux + x) (uy + y) lx ly a b c sd f1 f2 k) x y (some (l9, a9, b9)) = some (l9, a9, b9) := by show (match sOff (ux + x) (uy + y) lx ly a b c sd f1 f2 k with | none => _ | some v => _) = _; rw [hso]
            have h9 : lv_has ls 12 [(9, .int (y + 1)), (8, .int x), (7, .int b9), (6, .int a9), (4, .double l9), (3, .int wt), (2, .int r0), (1, .int h), (0, .ref o)] := (lv_sub hl [0, 2, 3, 4, 5, 6, 7, 8, 9] rfl)
            exact ih (y + 1) (some (l9, a9, b9)) H locs ls l9 a9 b9 j8 j9 j10 j11 j12 j13 j14 j15 j16 j17 j18 j19 j20 j21 hS hP ⟨by omega, by omega⟩ (by rw [← hst9]; exact hF) hrep h9
          · rw [fcv_lt] at c22
            exact absurd (by rw [fv_c0]; exact m1_fin.2) c22
        · have hg9 := hrs s9 hso
          rw [hso] at hro
          have hro : r5 = s9 := hro
          subst hro
          have hP : va_P D vwCl [(st, .inr (4, [.int j8, .int j9, .double j10, .double j11, .double j12, .double j13, .double j14, .double j15, .double j16, .double j17, .double j18, .double j19, .double j20, .double j21]))] H := hP
          have hD : va_D (aE st) [(st, .inr (4, [.int j8, .int j9, .double j10, .double j11, .double j12, .double j13, .double j14, .double j15, .double j16, .double j17, .double j18, .double j19, .double j20, .double j21]))] := D_1 rfl
          refine lv_dstore (lv' := [(10, .double r5), (9, .int y), (8, .int x), (7, .int b9), (6, .int a9), (4, .double l9), (3, .int wt), (2, .int r0), (1, .int h), (0, .ref o)]) hx hb dX6_found_74 hl (by decide) rfl (fun ls hl => ?_)
          refine lv_dload hx hb dX6_found_76 (lv_at hl 0 rfl) ?_
          refine lv_dconst0 hx hb dX6_found_78 ?_
          refine lv_dcmp hx hb dX6_found_79 ?_
          rw [fp_cv hg9.1.1 gf_c0.1]
          refine lv_if_lt (tgt := 110) hx hb dX6_found_80 (by decide) (fun c23 => ?_) (fun c23 => ?_)
          · rw [fcv_lt] at c23
            exact absurd c23 (Int.not_lt.mpr (by rw [fv_c0]; exact hg9.2.1))
          · rw [fcv_lt] at c23
            refine lv_dload hx hb dX6_found_83 (lv_at hl 5 rfl) ?_
            refine lv_dconst0 hx hb dX6_found_85 ?_
            refine lv_dcmp hx hb dX6_found_86 ?_
            rw [fp_cv hlb.1 gf_c0.1]
            refine lv_if_lt (tgt := 98) hx hb dX6_found_87 (by decide) (fun c24 => ?_) (fun c24 => ?_)
            · rw [fcv_lt] at c24
              exact absurd c24 (Int.not_lt.mpr (by rw [fv_c0]; exact hrep.2.2.2.2.1))
            · rw [fcv_lt] at c24
              refine lv_dload hx hb dX6_found_90 (lv_at hl 0 rfl) ?_
              refine lv_dload hx hb dX6_found_92 (lv_at hl 5 rfl) ?_
              refine lv_dcmp hx hb dX6_found_94 ?_
              rw [fp_cv hg9.1.1 hlb.1]
              refine lv_if_ge (tgt := 110) hx hb dX6_found_95 (by decide) (fun c25 => ?_) (fun c25 => ?_)
              · rw [fcv_ge] at c25
                refine lv_iinc (v := y + 1) (lv' := [(9, .int (y + 1)), (10, .double r5), (8, .int x), (7, .int b9), (6, .int a9), (4, .double l9), (3, .int wt), (2, .int r0), (1, .int h), (0, .ref o)]) hx hb dX6_found_110 hl (k := 1) rfl rfl (by decide) rfl (fun ls hl => ?_)
                refine lv_goto (tgt := 54) hx hb dX6_found_113 (by decide) ?_
                have hst9 : fStep (sOff (ux + x) (uy + y) lx ly a b c sd f1 f2 k) x y (some (l9, a9, b9)) = some (l9, a9, b9) := by show (match sOff (ux + x) (uy + y) lx ly a b c sd f1 f2 k with | none => _ | some v => _) = _; rw [hso]; exact if_neg (Int.not_lt.mpr c25)
                have h9 : lv_has ls 12 [(9, .int (y + 1)), (8, .int x), (7, .int b9), (6, .int a9), (4, .double l9), (3, .int wt), (2, .int r0), (1, .int h), (0, .ref o)] := (lv_sub hl [0, 2, 3, 4, 5, 6, 7, 8, 9] rfl)
                exact ih (y + 1) (some (l9, a9, b9)) H locs ls l9 a9 b9 j8 j9 j10 j11 j12 j13 j14 j15 j16 j17 j18 j19 j20 j21 hS hP ⟨by omega, by omega⟩ (by rw [← hst9]; exact hF) hrep h9
              · rw [fcv_ge] at c25
                refine lv_dload hx hb dX6_found_98 (lv_at hl 0 rfl) ?_
                refine lv_dstore (lv' := [(4, .double r5), (10, .double r5), (9, .int y), (8, .int x), (7, .int b9), (6, .int a9), (3, .int wt), (2, .int r0), (1, .int h), (0, .ref o)]) hx hb dX6_found_100 hl (by decide) rfl (fun ls hl => ?_)
                refine lv_iload hx hb dX6_found_102 (lv_at hl 3 rfl) ?_
                refine lv_istore (lv' := [(6, .int x), (4, .double r5), (10, .double r5), (9, .int y), (8, .int x), (7, .int b9), (3, .int wt), (2, .int r0), (1, .int h), (0, .ref o)]) hx hb dX6_found_104 hl (by decide) rfl (fun ls hl => ?_)
                refine lv_iload hx hb dX6_found_106 (lv_at hl 3 rfl) ?_
                refine lv_istore (lv' := [(7, .int y), (6, .int x), (4, .double r5), (10, .double r5), (9, .int y), (8, .int x), (3, .int wt), (2, .int r0), (1, .int h), (0, .ref o)]) hx hb dX6_found_108 hl (by decide) rfl (fun ls hl => ?_)
                refine lv_iinc (v := y + 1) (lv' := [(9, .int (y + 1)), (7, .int y), (6, .int x), (4, .double r5), (10, .double r5), (8, .int x), (3, .int wt), (2, .int r0), (1, .int h), (0, .ref o)]) hx hb dX6_found_110 hl (k := 4) rfl rfl (by decide) rfl (fun ls hl => ?_)
                refine lv_goto (tgt := 54) hx hb dX6_found_113 (by decide) ?_
                have hst9 : fStep (sOff (ux + x) (uy + y) lx ly a b c sd f1 f2 k) x y (some (l9, a9, b9)) = some (r5, x, y) := by show (match sOff (ux + x) (uy + y) lx ly a b c sd f1 f2 k with | none => _ | some v => _) = _; rw [hso]; exact if_pos (Int.not_le.mp c25)
                have h9 : lv_has ls 12 [(9, .int (y + 1)), (8, .int x), (7, .int y), (6, .int x), (4, .double r5), (3, .int wt), (2, .int r0), (1, .int h), (0, .ref o)] := (lv_sub hl [0, 5, 1, 2, 3, 6, 7, 8, 9] rfl)
                exact ih (y + 1) (some (r5, x, y)) H locs ls r5 x y j8 j9 j10 j11 j12 j13 j14 j15 j16 j17 j18 j19 j20 j21 hS hP ⟨by omega, by omega⟩ (by rw [← hst9]; exact hF) ⟨rfl, rfl, rfl, hg9.1, hg9.2⟩ h9
set_option maxHeartbeats 4000000 in
set_option maxRecDepth 100000 in
theorem lpX6_fout {p : Program} {l : Launch} {e : Env} {s : State} {m : MethodId} {args : Array Value} {below : List Frame} {meth : Method} {co : Code} {Q : State → Prop} (D : va_G) (cI cH : ClassId) (hx : p.tables.exec = Jvm.exec) (hb : co.code = cX6_found) (hml : co.maxLocals = 12) (hown : s.vm.findClass RX6 = some m.cls) (hts : ∀ w ∈ wsX6_found, w.before args s = true) (hw : wk D cI cH s) {o ha st ca bx rd hg ht1 ln k : Nat} {fh : Nat → Option Nat} {f1 f2 : Nat → Int32} {ux uy a lx ly b c sd g d sx sy f h r0 wt : Int32} (hno : o ≠ st) (hna : ha ≠ st) (hne : hg ≠ st) (hn1 : rd ≠ st) (hn2 : ht1 ≠ st) (hn3 : ln ≠ st) (hgb : hgB ux uy a lx ly b c sd g d sx sy f) (hk : k ≤ 12) (hrd : ∀ j, j < k → cB (f1 j) ∧ rB (f2 j)) (HOKH : okH h = true) (hfh : okH h = true → fh h.toNatClampNeg = some hg) (hr0 : 0 ≤ r0.toInt ∧ r0.toInt ≤ 3)  {S1 : fS} (hR0 : va_P D vwCl [(o, .inr (5, [.ref ha, .ref st, .ref ca, .ref bx, .ref rd])), (ha, .inl (cH, 4, .inr (.inr (.inr (.inr fh))))), (rd, .inr (2, [.ref ht1, .ref ln, .int (nI k)])), (ht1, .inl (cI, 12, .inl f1)), (ln, .inl (cI, 12, .inl f2)), (hg, .inr (1, [.int ux, .int uy, .int a, .int lx, .int ly, .int b, .int c, .int sd, .int g, .int d, .int sx, .int sy, .int f]))] s.heap) (kx : ∀ (H : Heap) (locs : List Loc) (ls : Array Slot) (least : UInt64) (ma mb : Int32) (s0 s1 : Int32) (p0 p1 p2 p3 p4 p5 p6 p7 p8 p9 p10 p11 : UInt64), va_S (aE st) s.heap H locs → va_P D vwCl [(st, .inr (4, [.int s0, .int s1, .double p0, .double p1, .double p2, .double p3, .double p4, .double p5, .double p6, .double p7, .double p8, .double p9, .double p10, .double p11]))] H → fRep S1 least ma mb → lv_has ls 12 [(7, .int mb), (6, .int ma), (4, .double least), (3, .int wt), (2, .int r0), (1, .int h), (0, .ref o)] → W p l e ({ frames := 5, cells := 0, slots := 0, locals := 136 } : Room) s m args below meth co H locs 0 0 Q (F0 m 122 ls [])) : ∀ (n : Nat) (x : Int32) (S0 : fS) (H : Heap) (locs : List Loc) (ls : Array Slot) (least : UInt64) (ma mb : Int32) (s0 s1 : Int32) (p0 p1 p2 p3 p4 p5 p6 p7 p8 p9 p10 p11 : UInt64), va_S (aE st) s.heap H locs → va_P D vwCl [(st, .inr (4, [.int s0, .int s1, .double p0, .double p1, .double p2, .double p3, .double p4, .double p5, .double p6, .double p7, .double p8, .double p9, .double p10, .double p11]))] H → x.toInt + n = r0.toInt + 1 ∧ -10 ≤ x.toInt → fOut (fun x y => sOff (ux + x) (uy + y) lx ly a b c sd f1 f2 k) r0 n x S0 = S1 → fRep S0 least ma mb → lv_has ls 12 [(8, .int x), (7, .int mb), (6, .int ma), (4, .double least), (3, .int wt), (2, .int r0), (1, .int h), (0, .ref o)] → W p l e ({ frames := 5, cells := 0, slots := 0, locals := 136 } : Room) s m args below meth co H locs 0 0 Q (F0 m 44 ls []) := by
  have hinX2 : ∀ w ∈ wsX20, w ∈ wsX6_found := by decide +kernel
  have hinX3 : ∀ w ∈ wsX30, w ∈ wsX6_found := by decide +kernel
  have hinX5 : ∀ w ∈ wsX50, w ∈ wsX6_found := by decide +kernel
  have hinX6 : ∀ w ∈ wsX60, w ∈ wsX6_found := by decide +kernel
  obtain ⟨kux, kuy, ka, klx, kly, kb, kc, hsd, kg, kd, ksx, ksy, kf⟩ := id hgb
  have hnr : ∀ (k9 : Nat) (q : Nat × va_E), ([(o, .inr (5, [.ref ha, .ref st, .ref ca, .ref bx, .ref rd])), (ha, .inl (cH, 4, .inr (.inr (.inr (.inr fh))))), (rd, .inr (2, [.ref ht1, .ref ln, .int (nI k)])), (ht1, .inl (cI, 12, .inl f1)), (ln, .inl (cI, 12, .inl f2)), (hg, .inr (1, [.int ux, .int uy, .int a, .int lx, .int ly, .int b, .int c, .int sd, .int g, .int d, .int sx, .int sy, .int f]))] : va_W)[k9]? = some q → ¬ (aE st) q.1 := nn_1 hno (nn_1 hna (nn_1 hn1 (nn_1 hn2 (nn_1 hn3 (nn_1 hne nn_0)))))
  intro n
  induction n with
  | zero =>
    intro x S0 H locs ls least ma mb s0 s1 p0 p1 p2 p3 p4 p5 p6 p7 p8 p9 p10 p11 hS hP hy hF hrep hl
    obtain ⟨hy1, hy2⟩ := hy
    have hlb := fRep_b hrep
    have hD : va_D (aE st) [(st, .inr (4, [.int s0, .int s1, .double p0, .double p1, .double p2, .double p3, .double p4, .double p5, .double p6, .double p7, .double p8, .double p9, .double p10, .double p11]))] := D_1 rfl
    have hR := fr_rd hR0 hS hnr
    refine lv_iload hx hb dX6_found_44 (lv_at hl 0 rfl) ?_
    refine lv_iload_n hx hb dX6_found_46 rfl (lv_at hl 5 rfl) ?_
    refine lv_icmp_gt (tgt := 122) hx hb dX6_found_47 (by decide) (fun c1 => ?_) (fun c1 => ?_)
    · have iw2 := Int32.not_le.mpr c1
      exact kx H locs ls least ma mb s0 s1 p0 p1 p2 p3 p4 p5 p6 p7 p8 p9 p10 p11 hS hP (by rw [← hF]; exact hrep) (lv_sub hl [1, 2, 3, 4, 5, 6, 7] rfl)
    · have iw3 := Int32.not_lt.mp c1
      exact absurd (Int32.lt_iff_toInt_lt.mpr (by omega)) c1
  | succ n ih =>
    intro x S0 H locs ls least ma mb s0 s1 p0 p1 p2 p3 p4 p5 p6 p7 p8 p9 p10 p11 hS hP hy hF hrep hl
    obtain ⟨hy1, hy2⟩ := hy
    have hlb := fRep_b hrep
    have hD : va_D (aE st) [(st, .inr (4, [.int s0, .int s1, .double p0, .double p1, .double p2, .double p3, .double p4, .double p5, .double p6, .double p7, .double p8, .double p9, .double p10, .double p11]))] := D_1 rfl
    have hR := fr_rd hR0 hS hnr
    have hyn : (x + 1).toInt = x.toInt + 1 := by
      have e1 : (1 : Int32).toInt = 1 := rfl
      rw [i3_add (by omega) (by omega), e1]
    have hneg : (-r0).toInt = -r0.toInt := by rw [Int32.toInt_neg]; exact Int.bmod_eq_of_le (by omega) (by omega)
    refine lv_iload hx hb dX6_found_44 (lv_at hl 0 rfl) ?_
    refine lv_iload_n hx hb dX6_found_46 rfl (lv_at hl 5 rfl) ?_
    refine lv_icmp_gt (tgt := 122) hx hb dX6_found_47 (by decide) (fun c1 => ?_) (fun c1 => ?_)
    · have iw2 := Int32.not_le.mpr c1
      exact absurd c1 (Int32.not_lt.mpr (Int32.le_iff_toInt_le.mpr (by omega)))
    · have iw3 := Int32.not_lt.mp c1
      refine lv_iload_n hx hb dX6_found_50 rfl (lv_at hl 5 rfl) ?_
      refine lv_ineg hx hb dX6_found_51 ?_
      refine lv_istore (lv' := [(9, .int (-r0)), (8, .int x), (7, .int mb), (6, .int ma), (4, .double least), (3, .int wt), (2, .int r0), (1, .int h), (0, .ref o)]) hx hb dX6_found_52 hl (by decide) rfl (fun ls hl => ?_)
      have h54 : lv_has ls 12 [(9, .int (-r0)), (8, .int x), (7, .int mb), (6, .int ma), (4, .double least), (3, .int wt), (2, .int r0), (1, .int h), (0, .ref o)] := (lv_sub hl [0, 1, 2, 3, 4, 5, 6, 7, 8] rfl)
      refine lpX6_fin D cI cH (x := x) (S1 := fIn (fun x y => sOff (ux + x) (uy + y) lx ly a b c sd f1 f2 k) x (2 * r0.toInt + 1).toNat (-r0) S0) hx hb hml hown hts hw hno hna hne hn1 hn2 hn3 hgb hk hrd HOKH hfh hr0 hR0 (fun H locs ls least ma mb s0 s1 p0 p1 p2 p3 p4 p5 p6 p7 p8 p9 p10 p11 hS hP hrep hl => ?_) (2 * r0.toInt + 1).toNat (-r0) S0 H locs ls least ma mb s0 s1 p0 p1 p2 p3 p4 p5 p6 p7 p8 p9 p10 p11 hS hP ⟨by omega, by omega⟩ rfl hrep h54
      refine lv_iinc (v := x + 1) (lv' := [(8, .int (x + 1)), (7, .int mb), (6, .int ma), (4, .double least), (3, .int wt), (2, .int r0), (1, .int h), (0, .ref o)]) hx hb dX6_found_116 hl (k := 0) rfl rfl (by decide) rfl (fun ls hl => ?_)
      refine lv_goto (tgt := 44) hx hb dX6_found_119 (by decide) ?_
      have h9 : lv_has ls 12 [(8, .int (x + 1)), (7, .int mb), (6, .int ma), (4, .double least), (3, .int wt), (2, .int r0), (1, .int h), (0, .ref o)] := (lv_sub hl [0, 1, 2, 3, 4, 5, 6, 7] rfl)
      exact ih (x + 1) _ H locs ls least ma mb s0 s1 p0 p1 p2 p3 p4 p5 p6 p7 p8 p9 p10 p11 hS hP ⟨by omega, by omega⟩ hF hrep h9
set_option maxHeartbeats 4000000 in
set_option maxRecDepth 100000 in
theorem mX6_found (l : Launch) (D : va_G) (cI cH : ClassId) (o ha st ca bx rd hg ht1 ln k : Nat) (fh : Nat → Option Nat) (f1 f2 : Nat → Int32) (s0 s1 : Int32) (p0 p1 p2 p3 p4 p5 p6 p7 p8 p9 p10 p11 : UInt64) (ux uy a lx ly b c sd g d sx sy f : Int32) (h r0 wt : Int32)  (hno : o ≠ st) (hna : ha ≠ st) (hne : hg ≠ st) (hn1 : rd ≠ st) (hn2 : ht1 ≠ st) (hn3 : ln ≠ st) (hgb : hgB ux uy a lx ly b c sd g d sx sy f) (hk : k ≤ 12) (hrd : ∀ j, j < k → cB (f1 j) ∧ rB (f2 j)) (hfh : okH h = true → fh h.toNatClampNeg = some hg) : Met l yX6_found wsX6_found ({ frames := 5, cells := 0, slots := 0, locals := 136 }) (va_Pc [.ref o, .int h, .int r0, .int wt] (kB D cI cH [(st, .inr (4, [.int s0, .int s1, .double p0, .double p1, .double p2, .double p3, .double p4, .double p5, .double p6, .double p7, .double p8, .double p9, .double p10, .double p11])), (o, .inr (5, [.ref ha, .ref st, .ref ca, .ref bx, .ref rd])), (ha, .inl (cH, 4, .inr (.inr (.inr (.inr fh))))), (rd, .inr (2, [.ref ht1, .ref ln, .int (nI k)])), (ht1, .inl (cI, 12, .inl f1)), (ln, .inl (cI, 12, .inl f2)), (hg, .inr (1, [.int ux, .int uy, .int a, .int lx, .int ly, .int b, .int c, .int sd, .int g, .int d, .int sx, .int sy, .int f]))])) (va_Ql (fun (r : Int64) (u : List Value) => r = (if okH h && (isW r0 0 3 && isW wt 0 2) then sFound ux uy a lx ly b c sd g d sx sy f f1 f2 k r0 wt else -2) ∧ isSt u) (fun u t => va_at D vwCl (st, .inr (4, u)) t.heap) (aE st)) 0 0 (aE st) := by
  refine Met.ofW (cc := cX6_found) (maxL := 12) (ret := (some .long)) (by decide) rfl ?_
  intro p e s m args below meth co s₁ B hml hv
  obtain ⟨rfl, hP0, hw⟩ := hv
  have hx := B.exec
  have hb := B.bytes
  have hr := B.returns
  have hts := atoms_spec (ws := wsX6_found) B.pre
  have hown : s.vm.findClass RX6 = some m.cls := findClass_of_methodNamed B.named
  have hlocks := B.notSynchronized
  have hinX2 : ∀ w ∈ wsX20, w ∈ wsX6_found := by decide +kernel
  have hinX3 : ∀ w ∈ wsX30, w ∈ wsX6_found := by decide +kernel
  have hinX5 : ∀ w ∈ wsX50, w ∈ wsX6_found := by decide +kernel
  have hinX6 : ∀ w ∈ wsX60, w ∈ wsX6_found := by decide +kernel
  have hS : va_S (aE st) s.heap s.heap [] := va_S.rf
  have hP : va_P D vwCl [(st, .inr (4, [.int s0, .int s1, .double p0, .double p1, .double p2, .double p3, .double p4, .double p5, .double p6, .double p7, .double p8, .double p9, .double p10, .double p11]))] s.heap := hP0.sub [0] rfl
  have hD : va_D (aE st) [(st, .inr (4, [.int s0, .int s1, .double p0, .double p1, .double p2, .double p3, .double p4, .double p5, .double p6, .double p7, .double p8, .double p9, .double p10, .double p11]))] := D_1 rfl
  have hR0 : va_P D vwCl [(o, .inr (5, [.ref ha, .ref st, .ref ca, .ref bx, .ref rd])), (ha, .inl (cH, 4, .inr (.inr (.inr (.inr fh))))), (rd, .inr (2, [.ref ht1, .ref ln, .int (nI k)])), (ht1, .inl (cI, 12, .inl f1)), (ln, .inl (cI, 12, .inl f2)), (hg, .inr (1, [.int ux, .int uy, .int a, .int lx, .int ly, .int b, .int c, .int sd, .int g, .int d, .int sx, .int sy, .int f]))] s.heap := hP0.sub [1, 2, 3, 4, 5, 6] rfl
  have hR := hR0
  have hnr : ∀ (k9 : Nat) (q : Nat × va_E), ([(o, .inr (5, [.ref ha, .ref st, .ref ca, .ref bx, .ref rd])), (ha, .inl (cH, 4, .inr (.inr (.inr (.inr fh))))), (rd, .inr (2, [.ref ht1, .ref ln, .int (nI k)])), (ht1, .inl (cI, 12, .inl f1)), (ln, .inl (cI, 12, .inl f2)), (hg, .inr (1, [.int ux, .int uy, .int a, .int lx, .int ly, .int b, .int c, .int sd, .int g, .int d, .int sx, .int sy, .int f]))] : va_W)[k9]? = some q → ¬ (aE st) q.1 := nn_1 hno (nn_1 hna (nn_1 hn1 (nn_1 hn2 (nn_1 hn3 (nn_1 hne nn_0)))))
  obtain ⟨kux, kuy, ka, klx, kly, kb, kc, hsd, kg, kd, ksx, ksy, kf⟩ := id hgb
  have hl := lv_entry ([.ref o, .int h, .int r0, .int wt]) (n := 12) (Nat.le_of_ble_eq_true rfl)
  rw [lg_entry_eq]
  generalize (lg_sl ([.ref o, .int h, .int r0, .int wt]) ++ List.replicate (12 - (lg_sl ([.ref o, .int h, .int r0, .int wt])).length) Slot.unset).toArray = ls at hl ⊢
  have hl : lv_has ls 12 [(0, .ref o), (1, .int h), (2, .int r0), (3, .int wt)] := hl
  skip
  refine lv_iload_n hx hb dX6_found_0 rfl (lv_at hl 1 rfl) ?_
  refine va_calli (va_runS (As := [.int h]) (rest := []) ⟨hx, hb, hml, hown, hts⟩ (mX6_isHanging l h) (va_cwS 1 hts gX6_found_X6_isHanging rfl rfl rfl (by decide +kernel) ⟨Nat.le_of_ble_eq_true rfl, Nat.le_of_ble_eq_true rfl⟩) ⟨tB_blind, tB_go⟩ rfl rfl hl.1 rfl (lv_room (Nat.le_of_ble_eq_true rfl)) dX6_found_1 ⟨Nat.le_of_ble_eq_true rfl, Nat.le_of_ble_eq_true rfl⟩) hS (fun q _ h => h.elim) (fun q h => h.elim) (fun r1 u2 t H locs ht hvm hp3 hB hz1 hk1 hS => ?_)
  have hP := fr_keep hP hk1 fr_nA
  have hR := fr_rd hR0 hS hnr
  subst hp3
  refine lv_if_eq (tgt := 25) hx hb dX6_found_4 (by decide) (fun c4 => ?_) (fun c4 => ?_)
  · have c4 := bI_e.mp c4
    refine lv_ldc2 hx hb hown (hts (.constantLong RX6 83 (-2)) (by decide +kernel)) dX6_found_25 ?_
    exact W.lret (v := (-2)) hx hb hr (fun t ht hW => ⟨⟨(-2), [.int s0, .int s1, .double p0, .double p1, .double p2, .double p3, .double p4, .double p5, .double p6, .double p7, .double p8, .double p9, .double p10, .double p11], rfl, ⟨by simp [c4], ⟨_, _, _, _, _, _, _, _, _, _, _, _, _, _, rfl⟩⟩, at_heap ht (hP 0 _ rfl)⟩, hS.F ht⟩) hS.2.2 dX6_found_28
  · have c4 := bI_n.mp c4
    refine lv_iload_n hx hb dX6_found_7 rfl (lv_at hl 2 rfl) ?_
    refine lv_iconst (v := 0) hx hb dX6_found_8 (by decide) ?_
    refine lv_iconst (v := 3) hx hb dX6_found_9 (by decide) ?_
    refine va_calli (va_runS (As := [.int r0, .int 0, .int 3]) (rest := []) ⟨hx, hb, hml, hown, hts⟩ (mX6_isWithin l r0 0 3) (va_cwS 3 hts gX6_found_X6_isWithin rfl rfl rfl (by decide +kernel) ⟨Nat.le_of_ble_eq_true rfl, Nat.le_of_ble_eq_true rfl⟩) ⟨tB_blind, tB_go⟩ rfl rfl hl.1 rfl (lv_room (Nat.le_of_ble_eq_true rfl)) dX6_found_10 ⟨Nat.le_of_ble_eq_true rfl, Nat.le_of_ble_eq_true rfl⟩) hS (fun q _ h => h.elim) (fun q h => h.elim) (fun r5 u6 t H locs ht hvm hp7 hB hz1 hk1 hS => ?_)
    have hP := fr_keep hP hk1 fr_nA
    have hR := fr_rd hR0 hS hnr
    subst hp7
    refine lv_if_eq (tgt := 25) hx hb dX6_found_13 (by decide) (fun c8 => ?_) (fun c8 => ?_)
    · have c8 := bI_e.mp c8
      refine lv_ldc2 hx hb hown (hts (.constantLong RX6 83 (-2)) (by decide +kernel)) dX6_found_25 ?_
      exact W.lret (v := (-2)) hx hb hr (fun t ht hW => ⟨⟨(-2), [.int s0, .int s1, .double p0, .double p1, .double p2, .double p3, .double p4, .double p5, .double p6, .double p7, .double p8, .double p9, .double p10, .double p11], rfl, ⟨by simp [c4, c8], ⟨_, _, _, _, _, _, _, _, _, _, _, _, _, _, rfl⟩⟩, at_heap ht (hP 0 _ rfl)⟩, hS.F ht⟩) hS.2.2 dX6_found_28
    · have c8 := bI_n.mp c8
      refine lv_iload_n hx hb dX6_found_16 rfl (lv_at hl 3 rfl) ?_
      refine lv_iconst (v := 0) hx hb dX6_found_17 (by decide) ?_
      refine lv_iconst (v := 2) hx hb dX6_found_18 (by decide) ?_
      refine va_calli (va_runS (As := [.int wt, .int 0, .int 2]) (rest := []) ⟨hx, hb, hml, hown, hts⟩ (mX6_isWithin l wt 0 2) (va_cwS 3 hts gX6_found_X6_isWithin rfl rfl rfl (by decide +kernel) ⟨Nat.le_of_ble_eq_true rfl, Nat.le_of_ble_eq_true rfl⟩) ⟨tB_blind, tB_go⟩ rfl rfl hl.1 rfl (lv_room (Nat.le_of_ble_eq_true rfl)) dX6_found_19 ⟨Nat.le_of_ble_eq_true rfl, Nat.le_of_ble_eq_true rfl⟩) hS (fun q _ h => h.elim) (fun q h => h.elim) (fun r9 u10 t H locs ht hvm hp11 hB hz1 hk1 hS => ?_)
      have hP := fr_keep hP hk1 fr_nA
      have hR := fr_rd hR0 hS hnr
      subst hp11
      refine lv_if_ne (tgt := 29) hx hb dX6_found_22 (by decide) (fun c12 => ?_) (fun c12 => ?_)
      · have c12 := bI_n.mp c12
        refine lv_ldc2d hx hb hown (hts (.constantDouble RX6 149 (13830554455654793216)) (by decide +kernel)) dX6_found_29 ?_
        refine lv_dstore (lv' := [(4, .double 13830554455654793216), (0, .ref o), (1, .int h), (2, .int r0), (3, .int wt)]) hx hb dX6_found_32 hl (by decide) rfl (fun ls hl => ?_)
        refine lv_iconst (v := 0) hx hb dX6_found_34 (by decide) ?_
        refine lv_istore (lv' := [(6, .int 0), (4, .double 13830554455654793216), (0, .ref o), (1, .int h), (2, .int r0), (3, .int wt)]) hx hb dX6_found_35 hl (by decide) rfl (fun ls hl => ?_)
        refine lv_iconst (v := 0) hx hb dX6_found_37 (by decide) ?_
        refine lv_istore (lv' := [(7, .int 0), (6, .int 0), (4, .double 13830554455654793216), (0, .ref o), (1, .int h), (2, .int r0), (3, .int wt)]) hx hb dX6_found_38 hl (by decide) rfl (fun ls hl => ?_)
        refine lv_iload_n hx hb dX6_found_40 rfl (lv_at hl 5 rfl) ?_
        refine lv_ineg hx hb dX6_found_41 ?_
        refine lv_istore (lv' := [(8, .int (-r0)), (7, .int 0), (6, .int 0), (4, .double 13830554455654793216), (0, .ref o), (1, .int h), (2, .int r0), (3, .int wt)]) hx hb dX6_found_42 hl (by decide) rfl (fun ls hl => ?_)
        have HOKH := c4
        have HOKW := c12
        have hr0 : 0 ≤ r0.toInt ∧ r0.toInt ≤ 3 := isW_i c8
        have hneg : (-r0).toInt = -r0.toInt := by rw [Int32.toInt_neg]; exact Int.bmod_eq_of_le (by omega) (by omega)
        have hok9 : (okH h && (isW r0 0 3 && isW wt 0 2)) = true := by simp [c4, c8, c12]
        have h44 : lv_has ls 12 [(8, .int (-r0)), (7, .int 0), (6, .int 0), (4, .double 13830554455654793216), (3, .int wt), (2, .int r0), (1, .int h), (0, .ref o)] := (lv_sub hl [0, 1, 2, 3, 7, 6, 5, 4] rfl)
        refine lpX6_fout D cI cH (S1 := fOut (fun x y => sOff (ux + x) (uy + y) lx ly a b c sd f1 f2 k) r0 (2 * r0.toInt + 1).toNat (-r0) none) hx hb hml hown hts hw hno hna hne hn1 hn2 hn3 hgb hk hrd HOKH hfh hr0 hR0 (fun H locs ls least ma mb s0 s1 p0 p1 p2 p3 p4 p5 p6 p7 p8 p9 p10 p11 hS hP hrep hl => ?_) (2 * r0.toInt + 1).toNat (-r0) none _ _ ls 13830554455654793216 0 0 s0 s1 p0 p1 p2 p3 p4 p5 p6 p7 p8 p9 p10 p11 hS hP ⟨by omega, by omega⟩ rfl ⟨rfl, rfl, rfl⟩ h44
        have hlb := fRep_b hrep
        rcases hS1 : fOut (fun x y => sOff (ux + x) (uy + y) lx ly a b c sd f1 f2 k) r0 (2 * r0.toInt + 1).toNat (-r0) none with _ | ⟨l9, a9, b9⟩
        · rw [hS1] at hrep
          obtain ⟨rfl, rfl, rfl⟩ := hrep
          refine lv_dload hx hb dX6_found_122 (lv_at hl 2 rfl) ?_
          refine lv_dconst0 hx hb dX6_found_124 ?_
          refine lv_dcmp hx hb dX6_found_125 ?_
          rw [fp_cv m1_fin.1 gf_c0.1]
          refine lv_if_ge (tgt := 133) hx hb dX6_found_126 (by decide) (fun c13 => ?_) (fun c13 => ?_)
          · rw [fcv_ge] at c13
            exact absurd c13 (Int.not_le.mpr (by rw [fv_c0]; exact m1_fin.2))
          · rw [fcv_ge] at c13
            refine lv_ldc2 hx hb hown (hts (.constantLong RX6 100 (-1)) (by decide +kernel)) dX6_found_129 ?_
            exact W.lret (v := (-1)) hx hb hr (fun t ht hW => ⟨⟨(-1), [.int s0, .int s1, .double p0, .double p1, .double p2, .double p3, .double p4, .double p5, .double p6, .double p7, .double p8, .double p9, .double p10, .double p11], rfl, ⟨by rw [hok9, if_pos rfl]; unfold sFound; rw [hS1]; rfl, ⟨_, _, _, _, _, _, _, _, _, _, _, _, _, _, rfl⟩⟩, at_heap ht (hP 0 _ rfl)⟩, hS.F ht⟩) hS.2.2 dX6_found_132
        · rw [hS1] at hrep
          obtain ⟨h91, h92, h93, hg8, hg7⟩ := hrep
          obtain rfl : l9 = least := h91.symm
          obtain rfl : a9 = ma := h92.symm
          obtain rfl : b9 = mb := h93.symm
          refine lv_dload hx hb dX6_found_122 (lv_at hl 2 rfl) ?_
          refine lv_dconst0 hx hb dX6_found_124 ?_
          refine lv_dcmp hx hb dX6_found_125 ?_
          rw [fp_cv hg8.1 gf_c0.1]
          refine lv_if_ge (tgt := 133) hx hb dX6_found_126 (by decide) (fun c14 => ?_) (fun c14 => ?_)
          · rw [fcv_ge] at c14
            refine lv_iload_n hx hb dX6_found_133 rfl (lv_at hl 3 rfl) ?_
            refine lv_iconst (v := 2) hx hb dX6_found_134 (by decide) ?_
            refine lv_icmp_ne (tgt := 144) hx hb dX6_found_135 (by decide) (fun c15 => ?_) (fun c15 => ?_)
            · refine lv_iload_n hx hb dX6_found_144 rfl (lv_at hl 3 rfl) ?_
              refine lv_if_ne (tgt := 153) hx hb dX6_found_145 (by decide) (fun c16 => ?_) (fun c16 => ?_)
              · refine lv_iload hx hb dX6_found_153 (lv_at hl 0 rfl) ?_
                refine lv_bipush (v := 10) hx hb dX6_found_155 (by decide) ?_
                refine lv_iadd hx hb dX6_found_157 ?_
                refine lv_i2l (v := Int32.toInt64 (b9 + 10)) hx hb dX6_found_158 rfl ?_
                exact W.lret (v := Int32.toInt64 (b9 + 10)) hx hb hr (fun t ht hW => ⟨⟨Int32.toInt64 (b9 + 10), [.int s0, .int s1, .double p0, .double p1, .double p2, .double p3, .double p4, .double p5, .double p6, .double p7, .double p8, .double p9, .double p10, .double p11], rfl, ⟨by rw [hok9, if_pos rfl]; unfold sFound; rw [hS1]; show _ = (if wt = 2 then _ else if wt = 0 then _ else _); rw [if_neg c15, if_neg c16], ⟨_, _, _, _, _, _, _, _, _, _, _, _, _, _, rfl⟩⟩, at_heap ht (hP 0 _ rfl)⟩, hS.F ht⟩) hS.2.2 dX6_found_159
              · refine lv_iload hx hb dX6_found_148 (lv_at hl 1 rfl) ?_
                refine lv_goto (tgt := 155) hx hb dX6_found_150 (by decide) ?_
                refine lv_bipush (v := 10) hx hb dX6_found_155 (by decide) ?_
                refine lv_iadd hx hb dX6_found_157 ?_
                refine lv_i2l (v := Int32.toInt64 (a9 + 10)) hx hb dX6_found_158 rfl ?_
                exact W.lret (v := Int32.toInt64 (a9 + 10)) hx hb hr (fun t ht hW => ⟨⟨Int32.toInt64 (a9 + 10), [.int s0, .int s1, .double p0, .double p1, .double p2, .double p3, .double p4, .double p5, .double p6, .double p7, .double p8, .double p9, .double p10, .double p11], rfl, ⟨by rw [hok9, if_pos rfl]; unfold sFound; rw [hS1]; show _ = (if wt = 2 then _ else if wt = 0 then _ else _); rw [if_neg c15, if_pos c16], ⟨_, _, _, _, _, _, _, _, _, _, _, _, _, _, rfl⟩⟩, at_heap ht (hP 0 _ rfl)⟩, hS.F ht⟩) hS.2.2 dX6_found_159
            · refine lv_dload hx hb dX6_found_138 (lv_at hl 2 rfl) ?_
              refine va_calll (va_runSN (As := [.double l9]) (rest := []) ⟨hx, hb, hml, hown, hts⟩ (mX1_bits l l9 (bOk2_gr hg8 hg7.2 (Nat.le_of_ble_eq_true rfl) (Nat.le_of_ble_eq_true rfl))) (⟨va_cnB 1 hts gX6_found_X1_bits_n143 rfl rfl rfl (hw.2 (.methodLinkNest RX6 143 yX1_bits "WheelSwing") (by decide +kernel)) (hts (.initialized RX1) (by decide +kernel)) (by decide +kernel) ⟨Nat.le_of_ble_eq_true rfl, Nat.le_of_ble_eq_true rfl⟩, hts (.static yX1_bits) (by decide +kernel), trivial⟩) ⟨tB_blind, tB_go⟩ rfl rfl hl.1 rfl (lv_room (Nat.le_of_ble_eq_true rfl)) dX6_found_140 ⟨Nat.le_of_ble_eq_true rfl, Nat.le_of_ble_eq_true rfl⟩) hS (fun q _ h => h.elim) (fun q h => h.elim) (fun r17 u18 t H locs ht hvm hp19 hB hz1 hk1 hS => ?_)
              have hP := fr_keep hP hk1 fr_nA
              have hR := fr_rd hR0 hS hnr
              subst hp19
              exact W.lret (v := UInt64.toInt64 l9) hx hb hr (fun t ht hW => ⟨⟨UInt64.toInt64 l9, [.int s0, .int s1, .double p0, .double p1, .double p2, .double p3, .double p4, .double p5, .double p6, .double p7, .double p8, .double p9, .double p10, .double p11], rfl, ⟨by rw [hok9, if_pos rfl]; unfold sFound; rw [hS1]; exact (if_pos c15).symm, ⟨_, _, _, _, _, _, _, _, _, _, _, _, _, _, rfl⟩⟩, at_heap ht (hP 0 _ rfl)⟩, hS.F ht⟩) hS.2.2 dX6_found_143
          · rw [fcv_ge] at c14
            exact absurd (by rw [fv_c0]; exact hg7.1) c14
      · have c12 := bI_e.mp c12
        refine lv_ldc2 hx hb hown (hts (.constantLong RX6 83 (-2)) (by decide +kernel)) dX6_found_25 ?_
        exact W.lret (v := (-2)) hx hb hr (fun t ht hW => ⟨⟨(-2), [.int s0, .int s1, .double p0, .double p1, .double p2, .double p3, .double p4, .double p5, .double p6, .double p7, .double p8, .double p9, .double p10, .double p11], rfl, ⟨by simp [c4, c8, c12], ⟨_, _, _, _, _, _, _, _, _, _, _, _, _, _, rfl⟩⟩, at_heap ht (hP 0 _ rfl)⟩, hS.F ht⟩) hS.2.2 dX6_found_28
