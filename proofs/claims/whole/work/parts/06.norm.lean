/-! ===== lN n to 2^64: shifts, and, or, masks, one bit ===== -/
theorem wb_tb (n : Nat) : (lN n).toBitVec = BitVec.ofNat 64 n := rfl
theorem wb_inj {a b : Int64} (h : a.toBitVec = b.toBitVec) : a = b := Int64.toBitVec_inj.mp h
theorem wb_tn {n : Nat} (h : n < 2 ^ 64) : (lN n).toBitVec.toNat = n := by rw [wb_tb, BitVec.toNat_ofNat, Nat.mod_eq_of_lt h]
theorem wb_of (x : Int64) : ∃ n, n < 2 ^ 64 ∧ x = lN n := ⟨x.toBitVec.toNat, x.toBitVec.isLt, wb_inj (by rw [wb_tb]; simp)⟩
theorem wb_of32 (x : Int32) : ∃ n, n < 2 ^ 32 ∧ x = nI n := ⟨x.toBitVec.toNat, x.toBitVec.isLt, Int32.toBitVec_inj.mp (by show _ = BitVec.ofNat 32 _; simp)⟩
theorem wb_c : ∀ k, k < 64 → ((nI k).toInt64 &&& 63) = lN k := by decide +kernel
theorem wb_cu : ∀ k, k < 64 → ((nI k).toInt64.toUInt64 &&& Int64.toUInt64 63) = UInt64.ofNat k := by decide +kernel
theorem wb_sm : ∀ k, k < 64 → (BitVec.ofNat 64 k).smod 64 = BitVec.ofNat 64 k := by decide +kernel
theorem wb_pw {a b : Nat} (h : a ≤ b) : 2 ^ b = 2 ^ a * 2 ^ (b - a) := by rw [← Nat.pow_add]; congr 1; omega
theorem wb_lt2 {a b : Nat} (h : a < b) : 2 ^ a < 2 ^ b := Nat.pow_lt_pow_right (by decide) h
theorem wb_mod (n : Nat) : lN n = lN (n % 2 ^ 64) := wb_inj (by rw [wb_tb, wb_tb]; apply BitVec.eq_of_toNat_eq; rw [BitVec.toNat_ofNat, BitVec.toNat_ofNat, Nat.mod_mod])
theorem wb_shr {n k : Nat} (hn : n < 2 ^ 64) (hk : k < 64) : ((lN n).toUInt64 >>> ((nI k).toInt64.toUInt64 &&& Int64.toUInt64 63)).toInt64 = lN (n / 2 ^ k) := by
  rw [wb_cu k hk]
  apply wb_inj
  apply BitVec.eq_of_toNat_eq
  show ((lN n).toUInt64 >>> UInt64.ofNat k).toNat = (BitVec.ofNat 64 _).toNat
  have h1 : (UInt64.ofNat k).toNat = k := by
    show (BitVec.ofNat 64 k).toNat = k
    rw [BitVec.toNat_ofNat, Nat.mod_eq_of_lt (by omega)]
  have h2 : (lN n).toUInt64.toNat = n := wb_tn hn
  rw [UInt64.toNat_shiftRight, h1, h2, Nat.mod_eq_of_lt hk, Nat.shiftRight_eq_div_pow, BitVec.toNat_ofNat, Nat.mod_eq_of_lt (Nat.lt_of_le_of_lt (Nat.div_le_self _ _) hn)]
theorem wb_shl (n : Nat) {k : Nat} (hk : k < 64) : lN n <<< ((nI k).toInt64 &&& 63) = lN (n * 2 ^ k) := by
  rw [wb_c k hk]
  apply wb_inj
  rw [Int64.toBitVec_shiftLeft, wb_tb, wb_tb, wb_tb, wb_sm k hk]
  apply BitVec.eq_of_toNat_eq
  rw [BitVec.shiftLeft_eq', BitVec.toNat_shiftLeft, BitVec.toNat_ofNat, BitVec.toNat_ofNat, BitVec.toNat_ofNat, Nat.mod_eq_of_lt (show k < 2 ^ 64 by omega), Nat.shiftLeft_eq, Nat.mul_mod, Nat.mod_mod, ← Nat.mul_mod]
theorem wb_and {a b : Nat} (ha : a < 2 ^ 64) (hb : b < 2 ^ 64) : lN a &&& lN b = lN (a &&& b) := by
  apply wb_inj
  rw [Int64.toBitVec_and, wb_tb, wb_tb, wb_tb]
  apply BitVec.eq_of_toNat_eq
  rw [BitVec.toNat_and, BitVec.toNat_ofNat, BitVec.toNat_ofNat, BitVec.toNat_ofNat, Nat.mod_eq_of_lt ha, Nat.mod_eq_of_lt hb, Nat.mod_eq_of_lt (Nat.and_lt_two_pow _ hb)]
theorem wb_or {a b : Nat} (ha : a < 2 ^ 64) (hb : b < 2 ^ 64) : lN a ||| lN b = lN (a ||| b) := by
  apply wb_inj
  rw [Int64.toBitVec_or, wb_tb, wb_tb, wb_tb]
  apply BitVec.eq_of_toNat_eq
  rw [BitVec.toNat_or, BitVec.toNat_ofNat, BitVec.toNat_ofNat, BitVec.toNat_ofNat, Nat.mod_eq_of_lt ha, Nat.mod_eq_of_lt hb, Nat.mod_eq_of_lt (Nat.or_lt_two_pow ha hb)]
theorem wb_mask {n k : Nat} (hn : n < 2 ^ 64) (hk : k < 64) : lN n &&& lN (2 ^ k - 1) = lN (n % 2 ^ k) := by
  rw [wb_and hn (by have := wb_lt2 hk; omega), Nat.and_two_pow_sub_one_eq_mod]
theorem wb_a1 {n : Nat} (hn : n < 2 ^ 64) : lN n &&& 1 = lN (n % 2) := wb_mask (k := 1) hn (by decide)
theorem wb_bit {n k : Nat} (hn : n < 2 ^ 64) (hk : k < 64) : ((lN n).toUInt64 >>> ((nI k).toInt64.toUInt64 &&& Int64.toUInt64 63)).toInt64 &&& 1 = lN (n / 2 ^ k % 2) := by
  rw [wb_shr hn hk, wb_a1 (Nat.lt_of_le_of_lt (Nat.div_le_self _ _) hn)]
theorem wb_xor {q k : Nat} (hk : k < 63) (h : 2 ^ k ≤ q) (h2 : q < 2 ^ (k + 1)) : lN q ^^^ lN (2 ^ k) = lN (q - 2 ^ k) := by
  obtain ⟨r, rfl⟩ : ∃ r, q = 2 ^ k + r := ⟨q - 2 ^ k, by omega⟩
  have hr : r < 2 ^ k := by rw [Nat.pow_succ] at h2; omega
  have hx : (2 ^ k + r) ^^^ 2 ^ k = r := by
    apply Nat.eq_of_testBit_eq
    intro i
    rw [Nat.testBit_xor, Nat.testBit_two_pow]
    rcases Nat.lt_trichotomy i k with h | h | h
    · rw [Nat.testBit_two_pow_add_gt h]
      simp [show ¬ k = i by omega]
    · subst h
      rw [Nat.testBit_two_pow_add_eq]
      simp
    · have a1 : 2 ^ (k + 1) ≤ 2 ^ i := Nat.pow_le_pow_right (by decide) h
      rw [Nat.testBit_lt_two_pow (show 2 ^ k + r < 2 ^ i by omega), Nat.testBit_lt_two_pow (show r < 2 ^ i by omega)]
      simp [show ¬ k = i by omega]
  have b1 := wb_lt2 (show k + 1 < 64 by omega)
  have b2 := wb_lt2 (show k < 64 by omega)
  apply wb_inj
  rw [Int64.toBitVec_xor, wb_tb, wb_tb, wb_tb]
  apply BitVec.eq_of_toNat_eq
  rw [BitVec.toNat_xor, BitVec.toNat_ofNat, BitVec.toNat_ofNat, BitVec.toNat_ofNat, Nat.mod_eq_of_lt (by omega : 2 ^ k + r < 2 ^ 64), Nat.mod_eq_of_lt b2, hx, Nat.add_sub_cancel_left, Nat.mod_eq_of_lt (by omega)]
/-! ===== lN: masks, 'or' of parts that don't overlap is a sum ===== -/
theorem u_tn {n : Nat} (h : n < 2 ^ 64) : (UInt64.ofNat n).toNat = n := Nat.mod_eq_of_lt h
theorem g_and {a b c : Nat} (ha : a < 2 ^ 64) (hb : b < 2 ^ 64) (hc : a &&& b = c) : lN a &&& lN b = lN c := by
  subst hc
  have h : UInt64.ofNat a &&& UInt64.ofNat b = UInt64.ofNat (a &&& b) := UInt64.toNat_inj.mp (by rw [UInt64.toNat_and, u_tn ha, u_tn hb, u_tn (Nat.and_lt_two_pow a hb)])
  have h2 := congrArg UInt64.toInt64 h
  exact h2
theorem g_and1 {a : Nat} (ha : a < 2 ^ 64) : lN a &&& 1 = lN (a % 2) := g_and (b := 1) ha (by decide) (Nat.and_two_pow_sub_one_eq_mod a 1)
theorem g_mask {a s p : Nat} (hp : 2 ^ s = p) (hs : s < 64) (ha : a < 2 ^ 64) : lN a &&& lN (p - 1) = lN (a % p) := by
  subst hp
  have := Nat.pow_lt_pow_right (show 1 < 2 by decide) hs
  exact g_and ha (by omega) (Nat.and_two_pow_sub_one_eq_mod a s)
theorem g_or {k p a b : Nat} (hp : 2 ^ k = p) (ha : a < p) (h : b * p + a < 2 ^ 64) : lN (b * p) ||| lN a = lN (b * p + a) := by
  subst hp
  have h1 : b * 2 ^ k ||| a = b * 2 ^ k + a := by rw [← Nat.shiftLeft_eq, Nat.shiftLeft_add_eq_or_of_lt ha]
  have h3 : UInt64.ofNat (b * 2 ^ k) ||| UInt64.ofNat a = UInt64.ofNat (b * 2 ^ k + a) := UInt64.toNat_inj.mp (by rw [UInt64.toNat_or, u_tn (by omega), u_tn (by omega), u_tn h, h1])
  have h2 := congrArg UInt64.toInt64 h3
  exact h2
theorem g_or' {k p a b : Nat} (hp : 2 ^ k = p) (ha : a < p) (h : a + b * p < 2 ^ 64) : lN a ||| lN (b * p) = lN (a + b * p) := by
  rw [Int64.or_comm, g_or hp ha (by omega), Nat.add_comm]
theorem g_ushr {a k p : Nat} {y : UInt64} (hy : y = UInt64.ofNat k) (hk : k < 64) (hp : 2 ^ k = p) (ha : a < 2 ^ 64) : ((lN a).toUInt64 >>> y).toInt64 = lN (a / p) := by
  subst hy hp
  have h : UInt64.ofNat a >>> UInt64.ofNat k = UInt64.ofNat (a / 2 ^ k) := UInt64.toNat_inj.mp (by rw [UInt64.toNat_shiftRight, u_tn ha, u_tn (by omega), u_tn (Nat.lt_of_le_of_lt (Nat.div_le_self _ _) ha), Nat.mod_eq_of_lt hk, Nat.shiftRight_eq_div_pow])
  have h2 := congrArg UInt64.toInt64 h
  exact h2
theorem g_shl {a k p : Nat} {y : Int64} (hy : y.toBitVec.smod 64 = BitVec.ofNat 64 k) (hk : k < 64) (hp : 2 ^ k = p) (ha : a < 2 ^ 64) : lN a <<< y = lN (a * p) := by
  subst hp
  apply Int64.toBitVec_inj.mp
  rw [Int64.toBitVec_shiftLeft, hy]
  apply BitVec.eq_of_toNat_eq
  have hb : (lN a).toBitVec.toNat = a := Nat.mod_eq_of_lt ha
  have hk' : (BitVec.ofNat 64 k).toNat = k := Nat.mod_eq_of_lt (by omega)
  have h : ((lN a).toBitVec <<< BitVec.ofNat 64 k).toNat = (a * 2 ^ k) % 2 ^ 64 := by simp only [BitVec.shiftLeft_eq', BitVec.toNat_shiftLeft, hb, hk', Nat.shiftLeft_eq]
  exact h
/-! ===== lN to 2^62 under >> and >>> ===== -/
theorem pf_lI {a : Nat} (h : a < 2 ^ 63) : (lN a).toInt = (a : Int) := lg_ofNat_toInt h
theorem pf_shr {a d : Nat} {D : Int64} (hD : (D.toBitVec.smod 64).toNat = d) (h : a < 2 ^ 62) : lN a >>> D = lN (a / 2 ^ d) := by
  have hd : a / 2 ^ d ≤ a := Nat.div_le_self _ _
  apply Int64.toInt_inj.mp
  have e : (lN a >>> D).toInt = (lN a).toInt >>> d := by
    rw [← hD]
    exact BitVec.toInt_sshiftRight ..
  rw [e, Int.shiftRight_eq_div_pow, pf_lI (by omega), pf_lI (by omega)]
  rfl
theorem pf_ushr {a d : Nat} {D : UInt64} (hD : D.toNat % 64 = d) (h : a < 2 ^ 62) : ((lN a).toUInt64 >>> D).toInt64 = lN (a / 2 ^ d) := by
  have hd : a / 2 ^ d ≤ a := Nat.div_le_self _ _
  have e : (lN a).toUInt64 >>> D = UInt64.ofNat (a / 2 ^ d) := UInt64.toNat_inj.mp (by
    rw [UInt64.toNat_shiftRight, hD, Nat.shiftRight_eq_div_pow, UInt64.toNat_ofNat']
    show (UInt64.ofNat a).toNat / 2 ^ d = _
    rw [UInt64.toNat_ofNat', Nat.mod_eq_of_lt (by omega), Nat.mod_eq_of_lt (by omega)])
  rw [e]
  rfl
theorem pf_andw (x : Int64) : ∃ m, m < 2 ^ 32 ∧ x &&& 4294967295 = lN m := ⟨x.toBitVec.toNat % 2 ^ 32, Nat.mod_lt _ (by decide), Int64.toBitVec_inj.mp (BitVec.eq_of_toNat_eq (by
  show (x.toBitVec &&& 4294967295#64).toNat = (BitVec.ofNat 64 (x.toBitVec.toNat % 2 ^ 32)).toNat
  rw [BitVec.toNat_and, show (4294967295#64).toNat = 2 ^ 32 - 1 from by decide, Nat.and_two_pow_sub_one_eq_mod, BitVec.toNat_ofNat]
  omega))⟩
/-! A DOUBLE IN ITS NORMAL FORM, and its bits -/
abbrev dv (x : UInt64) (c i : Nat) : Prop := FP.Core.DFin x ∧ fv x = ((c * 2 ^ i : Nat) : Int)
theorem fv_norm {x : UInt64} (hx : FP.Core.DFin x) (h : 2 ^ 52 ≤ (fv x).natAbs) : ∃ (s : Bool) (c i : Nat), 2 ^ 52 ≤ c ∧ c < 2 ^ 53 ∧ i ≤ 2045 ∧ fv x = FP.Core.signed s (c * 2 ^ i) ∧ x.toNat = (if s = true then 2 ^ 63 else 0) + (i + 1) * 2 ^ 52 + (c - 2 ^ 52) := by
  obtain ⟨s, c, q, hv⟩ := hx
  obtain ⟨h1, h2, h3, h4⟩ := fp_fits hv
  have hfv : fv x = FP.Core.signed s (c * 2 ^ (q - FP.Core.b64.qmin).toNat) := by unfold fv; rw [hv]; rfl
  rw [fp_qmin] at hfv h2 h4
  rw [fp_qmax] at h3
  rw [fp_tails] at h4
  obtain ⟨i, rfl⟩ : ∃ i : Nat, q = (i : Int) - 1074 := ⟨(q + 1074).toNat, by omega⟩
  rw [show ((i : Int) - 1074 - -1074).toNat = i by omega] at hfv
  have hc : 2 ^ 52 ≤ c := by
    rcases h4 with h4 | h4
    · have hi : i = 0 := by omega
      subst hi
      rw [hfv, FP.Core.natAbs_signed, Nat.pow_zero, Nat.mul_one] at h
      exact h
    · exact h4
  have hc2 : c < 2 ^ 53 := h1
  refine ⟨s, c, i, hc, hc2, by omega, hfv, ?_⟩
  have hne : FP.Core.val64 x ≠ .nan := by rw [hv]; exact fun h => nomatch h
  have hxe : x = FP.Core.of64 (.fin s c ((i : Int) - 1074)) := by rw [← hv, FP.Core.of64_val64 hne]
  have hn : x.toNat = FP.Core.encode FP.Core.b64 (.fin s c ((i : Int) - 1074)) := by
    rw [← FP.Core.toNat_of64 (fp_fits hv), ← hxe]
  rw [hn]
  have he : FP.Core.encode FP.Core.b64 (.fin s c ((i : Int) - 1074)) = FP.Core.assemble FP.Core.b64 s (((i : Int) - 1074 - FP.Core.b64.qmin).toNat + 1) (c - FP.Core.b64.tails) := if_neg (by rw [fp_tails]; omega)
  rw [he, fp_qmin, fp_tails, show ((i : Int) - 1074 - -1074).toNat = i by omega]
  unfold FP.Core.assemble
  rw [fp_tails, show FP.Core.b64.exps = 2 ^ 11 from rfl]
  cases s with
  | false =>
    rw [if_neg (by decide)]
    show (0 * 2 ^ 11 + (i + 1)) * 2 ^ 52 + (c - 2 ^ 52) = _
    omega
  | true =>
    rw [if_pos rfl]
    show (1 * 2 ^ 11 + (i + 1)) * 2 ^ 52 + (c - 2 ^ 52) = _
    omega
theorem fv_neg {x : UInt64} (hx : FP.Core.DFin x) : FP.Core.DFin (FP.dneg x) ∧ fv (FP.dneg x) = - fv x := by
  have hn : FP.dIsNaN x = false := (FP.Core.notNaN_iff x).mpr (by obtain ⟨s, c, q, h⟩ := hx; rw [h]; exact fun h => nomatch h)
  rw [FP.dneg_core hn]
  constructor
  · obtain ⟨s, c, q, h⟩ := hx
    exact ⟨!s, c, q, by rw [FP.Core.val64_dneg, h]; rfl⟩
  · unfold fv
    rw [FP.Core.val64_dneg, FP.Core.zval_negate]
theorem gf_neg {a b : Nat} {x : UInt64} (h : fGr a b x) : fGr a b (FP.dneg x) := by
  obtain ⟨h1, h2⟩ := fv_neg h.1
  exact ⟨h1, by rw [h2, Int.natAbs_neg]; exact h.2.1, by rw [h2, Int.natAbs_neg]; exact h.2.2⟩
theorem dv_ge {x y : UInt64} {c i k : Nat} (hx : dv x c i) (hy : fv y = ((2 ^ k : Nat) : Int)) (hc : 2 ^ 52 ≤ c) (h : k ≤ 52 + i) : ¬ fv x < fv y := by
  rw [hx.2, hy]
  refine Int.not_lt.mpr (Int.ofNat_le.mpr ?_)
  refine Nat.le_trans (Nat.pow_le_pow_right (by omega) h) ?_
  rw [Nat.pow_add]
  exact Nat.mul_le_mul_right _ hc
theorem dv_lt {x y : UInt64} {c i k : Nat} (hx : dv x c i) (hy : fv y = ((2 ^ k : Nat) : Int)) (hc : c < 2 ^ 53) (h : 53 + i ≤ k) : fv x < fv y := by
  rw [hx.2, hy]
  refine Int.ofNat_lt.mpr (Nat.lt_of_lt_of_le ?_ (Nat.pow_le_pow_right (by omega) h))
  rw [Nat.pow_add]
  exact Nat.mul_lt_mul_of_pos_right hc (Nat.two_pow_pos i)
theorem dv_pos {x : UInt64} {c i : Nat} (hx : dv x c i) (hc : 2 ^ 52 ≤ c) : 0 < fv x := by
  rw [hx.2]
  have := Nat.mul_pos (show 0 < c by omega) (Nat.two_pow_pos i)
  omega
/-- a number whose bits the methods tell rightly: a zero, or one that isn't less than the least normal one -/
def bOk (x : UInt64) : Prop := x = 0 ∨ x = 9223372036854775808 ∨ (FP.Core.DFin x ∧ 2 ^ 52 ≤ (fv x).natAbs ∧ (fv x).natAbs < 2 ^ 2090)
theorem bOk_gr {a b : Nat} {x : UInt64} (h : fGr a b x) (ha : 52 ≤ a) (hb : b ≤ 2089) : bOk x := by
  by_cases h0 : fv x = 0
  · have hz : x.toNat % 2 ^ 63 = 0 := by
      have hne : FP.Core.val64 x ≠ .nan := by obtain ⟨s, c, q, h⟩ := h.1; rw [h]; exact fun h => nomatch h
      have h1 := FP.Core.zmag_bits hne
      have h2 : FP.Core.zmag FP.Core.b64 (FP.Core.val64 x) = 0 := by
        have := congrArg Int.natAbs h0
        unfold fv FP.Core.zval at this
        rw [FP.Core.natAbs_signed] at this
        exact this
      rw [h2] at h1
      exact FP.Core.unitsOf_eq_zero.mp h1.symm
    have hl := x.toNat_lt
    rcases Nat.lt_or_ge x.toNat (2 ^ 63) with h3 | h3
    · exact Or.inl (UInt64.toNat_inj.mp (by show x.toNat = 0; omega))
    · exact Or.inr (Or.inl (UInt64.toNat_inj.mp (by show x.toNat = 9223372036854775808; omega)))
  · exact Or.inr (Or.inr ⟨h.1, Nat.le_trans (Nat.pow_le_pow_right (by omega) ha) (fv_ne0 h h0), Nat.lt_of_le_of_lt h.2.2 (Nat.pow_lt_pow_right (by omega) (by omega))⟩)
theorem fv_normb {x : UInt64} (hx : FP.Core.DFin x) (h : 2 ^ 52 ≤ (fv x).natAbs ∧ (fv x).natAbs < 2 ^ 2090) : ∃ (s : Bool) (c i : Nat), 2 ^ 52 ≤ c ∧ c < 2 ^ 53 ∧ i ≤ 2037 ∧ fv x = FP.Core.signed s (c * 2 ^ i) ∧ x.toNat = (if s = true then 2 ^ 63 else 0) + (i + 1) * 2 ^ 52 + (c - 2 ^ 52) := by
  obtain ⟨s, c, i, h1, h2, h3, h4, h5⟩ := fv_norm hx h.1
  refine ⟨s, c, i, h1, h2, ?_, h4, h5⟩
  have h6 := h.2
  rw [h4, FP.Core.natAbs_signed] at h6
  have h7 : 2 ^ (52 + i) < 2 ^ 2090 := by
    rw [Nat.pow_add]
    exact Nat.lt_of_le_of_lt (Nat.mul_le_mul_right _ h1) h6
  have := rn_powlt h7
  omega
theorem lN_bv (n : Nat) : (lN n).toBitVec = BitVec.ofNat 64 n := rfl
theorem L_inj {a b : Int64} (h : a.toBitVec = b.toBitVec) : a = b := Int64.toBitVec_inj.mp h
theorem U_lN (x : UInt64) : x.toInt64 = lN x.toNat := by
  apply L_inj
  rw [lN_bv]
  show x.toBitVec = BitVec.ofNat 64 x.toBitVec.toNat
  rw [BitVec.ofNat_toNat, BitVec.setWidth_eq]
theorem lN_shl52 (n : Nat) : lN n <<< (Int32.toInt64 52 &&& 63) = lN (n * 2 ^ 52) := wb_shl n (k := 52) (by decide)
