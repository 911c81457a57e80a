/-! THE LAW'S CALLS: hang -/
set_option maxHeartbeats 400000 in
set_option maxRecDepth 100000 in
theorem br_hang {p : Program} {l : Launch} {e : Env} {s : State} {m : MethodId} {args : Array Value} {below : List Frame} {meth : Method} {co : Code} {Q : State → Prop} {A : Nat → Prop} {b L : Nat} {xs : Nat → Int32} {x3 : Int32} {H : Heap} {locs : List Loc} {cells slots : Nat} {ls : Array Slot} {D : va_G} {cI cH : ClassId} {z : Nat → Nat} {fh : Nat → Option Nat} (hc : cells ≤ 600000) (hs9 : slots ≤ 7302250) (hx : p.tables.exec = Jvm.exec) (hb : co.code = cL_law) (hml : co.maxLocals = 4) (hown : s.vm.findClass RL = some m.cls) (hts : ∀ w ∈ wsL_law, w.before args s = true) (hw : wk D cI cH s) (hX : va_X b L xs s s.heap) (hbl : b < s.heap.size) (hbA : ¬ A b) (hz : zOk A z) (hfh : ∀ j, j < 4 → fh j = some (z (9 + j))) (hin : ∀ v : Int32, isW v 0 9 = true → vp_in (x3 + v) L) (hS : va_S A s.heap H locs) (hI : inv D cI cH z fh H) (hl : lv_has ls 4 [(3, .int x3), (2, .ref (z 13)), (1, .ref (z 0)), (0, .ref b)]) (kk : ∀ (H : Heap) (locs : List Loc), inv D cI cH z fh H → va_S A s.heap H locs → W p l e room_1 s m args below meth co H locs cells slots Q (F0 m 828 ls [])) : W p l e room_1 s m args below meth co H locs cells slots Q (F0 m 120 ls []) := by
  obtain ⟨N, ft, f1, f2, k, k2, ct, cp, cr, ctr, cfs, us, um, hok, hus, hum, hP⟩ := hI
  obtain ⟨y12, y13, y0, y1, y2, y3, y4, y5, y6, y7, y8, y9, y10, y11, rfl⟩ := hus
  obtain ⟨w0, w1, w2, w3, w4, w5, w6, w7, w8, w9, w10, rfl⟩ := hum
  obtain ⟨hk, hk2, hhg, hft, hrd⟩ := id hok
  obtain ⟨v1, e1⟩ : ∃ y : Int32, xs (x3 + 1).toNatClampNeg = y := ⟨_, rfl⟩
  obtain ⟨v2, e2⟩ : ∃ y : Int32, xs (x3 + 2).toNatClampNeg = y := ⟨_, rfl⟩
  obtain ⟨v3, e3⟩ : ∃ y : Int32, xs (x3 + 3).toNatClampNeg = y := ⟨_, rfl⟩
  obtain ⟨v4, e4⟩ : ∃ y : Int32, xs (x3 + 4).toNatClampNeg = y := ⟨_, rfl⟩
  obtain ⟨v5, e5⟩ : ∃ y : Int32, xs (x3 + 5).toNatClampNeg = y := ⟨_, rfl⟩
  obtain ⟨v6, e6⟩ : ∃ y : Int32, xs (x3 + 6).toNatClampNeg = y := ⟨_, rfl⟩
  obtain ⟨v7, e7⟩ : ∃ y : Int32, xs (x3 + 7).toNatClampNeg = y := ⟨_, rfl⟩
  obtain ⟨v8, e8⟩ : ∃ y : Int32, xs (x3 + 8).toNatClampNeg = y := ⟨_, rfl⟩
  obtain ⟨v9, e9⟩ : ∃ y : Int32, xs (x3 + 9).toNatClampNeg = y := ⟨_, rfl⟩
  obtain ⟨q, hq, hq6, hq7⟩ := okH_q v1
  refine lv_aload_n hx hb dL_law_120 rfl (lv_at hl 2 rfl) ?_
  refine lv_aload_n hx hb dL_law_121 rfl (lv_at hl 3 rfl) ?_
  refine lv_iload_n hx hb dL_law_122 rfl (lv_at hl 0 rfl) ?_
  refine lv_iconst (v := 1) hx hb dL_law_123 (by decide) ?_
  refine lv_iadd hx hb dL_law_124 ?_
  refine va_sld hx hb hX hbl hbA hS (hin 1 (by decide)) dL_law_125 ?_
  rw [e1]
  refine lv_aload_n hx hb dL_law_126 rfl (lv_at hl 3 rfl) ?_
  refine lv_iload_n hx hb dL_law_127 rfl (lv_at hl 0 rfl) ?_
  refine lv_iconst (v := 2) hx hb dL_law_128 (by decide) ?_
  refine lv_iadd hx hb dL_law_129 ?_
  refine va_sld hx hb hX hbl hbA hS (hin 2 (by decide)) dL_law_130 ?_
  rw [e2]
  refine lv_aload_n hx hb dL_law_131 rfl (lv_at hl 3 rfl) ?_
  refine lv_iload_n hx hb dL_law_132 rfl (lv_at hl 0 rfl) ?_
  refine lv_iconst (v := 3) hx hb dL_law_133 (by decide) ?_
  refine lv_iadd hx hb dL_law_134 ?_
  refine va_sld hx hb hX hbl hbA hS (hin 3 (by decide)) dL_law_135 ?_
  rw [e3]
  refine lv_aload_n hx hb dL_law_136 rfl (lv_at hl 3 rfl) ?_
  refine lv_iload_n hx hb dL_law_137 rfl (lv_at hl 0 rfl) ?_
  refine lv_iconst (v := 4) hx hb dL_law_138 (by decide) ?_
  refine lv_iadd hx hb dL_law_139 ?_
  refine va_sld hx hb hX hbl hbA hS (hin 4 (by decide)) dL_law_140 ?_
  rw [e4]
  refine lv_aload_n hx hb dL_law_141 rfl (lv_at hl 3 rfl) ?_
  refine lv_iload_n hx hb dL_law_142 rfl (lv_at hl 0 rfl) ?_
  refine lv_iconst (v := 5) hx hb dL_law_143 (by decide) ?_
  refine lv_iadd hx hb dL_law_144 ?_
  refine va_sld hx hb hX hbl hbA hS (hin 5 (by decide)) dL_law_145 ?_
  rw [e5]
  refine lv_aload_n hx hb dL_law_146 rfl (lv_at hl 3 rfl) ?_
  refine lv_iload_n hx hb dL_law_147 rfl (lv_at hl 0 rfl) ?_
  refine lv_bipush (v := 6) hx hb dL_law_148 (by decide) ?_
  refine lv_iadd hx hb dL_law_150 ?_
  refine va_sld hx hb hX hbl hbA hS (hin 6 (by decide)) dL_law_151 ?_
  rw [e6]
  refine lv_aload_n hx hb dL_law_152 rfl (lv_at hl 3 rfl) ?_
  refine lv_iload_n hx hb dL_law_153 rfl (lv_at hl 0 rfl) ?_
  refine lv_bipush (v := 7) hx hb dL_law_154 (by decide) ?_
  refine lv_iadd hx hb dL_law_156 ?_
  refine va_sld hx hb hX hbl hbA hS (hin 7 (by decide)) dL_law_157 ?_
  rw [e7]
  refine lv_aload_n hx hb dL_law_158 rfl (lv_at hl 3 rfl) ?_
  refine lv_iload_n hx hb dL_law_159 rfl (lv_at hl 0 rfl) ?_
  refine lv_bipush (v := 8) hx hb dL_law_160 (by decide) ?_
  refine lv_iadd hx hb dL_law_162 ?_
  refine va_sld hx hb hX hbl hbA hS (hin 8 (by decide)) dL_law_163 ?_
  rw [e8]
  refine lv_aload_n hx hb dL_law_164 rfl (lv_at hl 3 rfl) ?_
  refine lv_iload_n hx hb dL_law_165 rfl (lv_at hl 0 rfl) ?_
  refine lv_bipush (v := 9) hx hb dL_law_166 (by decide) ?_
  refine lv_iadd hx hb dL_law_168 ?_
  refine va_sld hx hb hX hbl hbA hS (hin 9 (by decide)) dL_law_169 ?_
  rw [e9]
  have hq_6 : va_P D vwCl [((z (9 + q)), .inr (1, [.int (N (13 * q)), .int (N (13 * q + 1)), .int (N (13 * q + 4)), .int (N (13 * q + 2)), .int (N (13 * q + 3)), .int (N (13 * q + 5)), .int (N (13 * q + 6)), .int (N (13 * q + 7)), .int (N (13 * q + 8)), .int (N (13 * q + 9)), .int (N (13 * q + 10)), .int (N (13 * q + 11)), .int (N (13 * q + 12))])), ((z 0), .inr (5, [.ref (z 1), .ref (z 2), .ref (z 3), .ref (z 4), .ref (z 6)])), ((z 1), .inl (cH, 4, .inr (.inr (.inr (.inr fh)))))] H := fr_cons ((hP.hg hq)) (fr_cons (hP.c0) (fr_cons (hP.c1) (fr_nil)))
  refine va_calli (va_runV (As := [.int v1, .int v2, .int v3, .int v4, .int v5, .int v6, .int v7, .int v8, .int v9]) (rest := []) ⟨hx, hb, hml, hown, hts⟩ (mX6_hang l D cI cH (z 0) (z 1) (z 2) (z 3) (z 4) (z 6) (z (9 + q)) fh (N (13 * q)) (N (13 * q + 1)) (N (13 * q + 4)) (N (13 * q + 2)) (N (13 * q + 3)) (N (13 * q + 5)) (N (13 * q + 6)) (N (13 * q + 7)) (N (13 * q + 8)) (N (13 * q + 9)) (N (13 * q + 10)) (N (13 * q + 11)) (N (13 * q + 12)) v1 v2 v3 v4 v5 v6 v7 v8 v9 (hz.ne 0 (9 + q) (by decide) (by omega) (by omega)) (hz.ne 1 (9 + q) (by decide) (by omega) (by omega)) (fun h9 => by rw [hq6 h9]; exact hfh q hq)) (cwV 9 hts gL_law_X6_hang rfl rfl rfl (by decide +kernel) ⟨Nat.le_of_ble_eq_true rfl, Nat.le_of_ble_eq_true rfl⟩) ⟨kB_blind, va_recv hw.1 hq_6 (ci := 5) (q0 := 1) rfl rfl, kB_go hq_6 hw⟩ rfl rfl hl.1 rfl (lv_room (Nat.le_of_ble_eq_true rfl)) dL_law_170 ⟨hc, hs9⟩) hS (fun q9 _ h9 => h9 ▸ hz.2 (9 + q) (by omega)) (fun q9 h9 => h9 ▸ hz.2 (9 + q) (by omega)) (fun r1 u1 t1 H1 locs ht1 hvm1 hp1 hB1 hz11 hkh1 hS => ?_)
  have hB1 : va_at D vwCl (z (9 + q), .inr (1, u1)) t1.heap := hB1
  rw [ht1] at hB1
  refine lv_aload_n hx hb dL_law_173 rfl (lv_at hl 1 rfl) ?_
  refine lv_aload_n hx hb dL_law_174 rfl (lv_at hl 3 rfl) ?_
  refine lv_iload_n hx hb dL_law_175 rfl (lv_at hl 0 rfl) ?_
  refine lv_iconst (v := 1) hx hb dL_law_176 (by decide) ?_
  refine lv_iadd hx hb dL_law_177 ?_
  refine va_sld hx hb hX hbl hbA hS (hin 1 (by decide)) dL_law_178 ?_
  rw [e1]
  refine lv_aload_n hx hb dL_law_179 rfl (lv_at hl 3 rfl) ?_
  refine lv_iload_n hx hb dL_law_180 rfl (lv_at hl 0 rfl) ?_
  refine lv_iconst (v := 2) hx hb dL_law_181 (by decide) ?_
  refine lv_iadd hx hb dL_law_182 ?_
  refine va_sld hx hb hX hbl hbA hS (hin 2 (by decide)) dL_law_183 ?_
  rw [e2]
  refine lv_aload_n hx hb dL_law_184 rfl (lv_at hl 3 rfl) ?_
  refine lv_iload_n hx hb dL_law_185 rfl (lv_at hl 0 rfl) ?_
  refine lv_iconst (v := 3) hx hb dL_law_186 (by decide) ?_
  refine lv_iadd hx hb dL_law_187 ?_
  refine va_sld hx hb hX hbl hbA hS (hin 3 (by decide)) dL_law_188 ?_
  rw [e3]
  refine lv_aload_n hx hb dL_law_189 rfl (lv_at hl 3 rfl) ?_
  refine lv_iload_n hx hb dL_law_190 rfl (lv_at hl 0 rfl) ?_
  refine lv_iconst (v := 4) hx hb dL_law_191 (by decide) ?_
  refine lv_iadd hx hb dL_law_192 ?_
  refine va_sld hx hb hX hbl hbA hS (hin 4 (by decide)) dL_law_193 ?_
  rw [e4]
  refine lv_aload_n hx hb dL_law_194 rfl (lv_at hl 3 rfl) ?_
  refine lv_iload_n hx hb dL_law_195 rfl (lv_at hl 0 rfl) ?_
  refine lv_iconst (v := 5) hx hb dL_law_196 (by decide) ?_
  refine lv_iadd hx hb dL_law_197 ?_
  refine va_sld hx hb hX hbl hbA hS (hin 5 (by decide)) dL_law_198 ?_
  rw [e5]
  refine lv_aload_n hx hb dL_law_199 rfl (lv_at hl 3 rfl) ?_
  refine lv_iload_n hx hb dL_law_200 rfl (lv_at hl 0 rfl) ?_
  refine lv_bipush (v := 6) hx hb dL_law_201 (by decide) ?_
  refine lv_iadd hx hb dL_law_203 ?_
  refine va_sld hx hb hX hbl hbA hS (hin 6 (by decide)) dL_law_204 ?_
  rw [e6]
  refine lv_aload_n hx hb dL_law_205 rfl (lv_at hl 3 rfl) ?_
  refine lv_iload_n hx hb dL_law_206 rfl (lv_at hl 0 rfl) ?_
  refine lv_bipush (v := 7) hx hb dL_law_207 (by decide) ?_
  refine lv_iadd hx hb dL_law_209 ?_
  refine va_sld hx hb hX hbl hbA hS (hin 7 (by decide)) dL_law_210 ?_
  rw [e7]
  refine lv_aload_n hx hb dL_law_211 rfl (lv_at hl 3 rfl) ?_
  refine lv_iload_n hx hb dL_law_212 rfl (lv_at hl 0 rfl) ?_
  refine lv_bipush (v := 8) hx hb dL_law_213 (by decide) ?_
  refine lv_iadd hx hb dL_law_215 ?_
  refine va_sld hx hb hX hbl hbA hS (hin 8 (by decide)) dL_law_216 ?_
  rw [e8]
  refine lv_aload_n hx hb dL_law_217 rfl (lv_at hl 3 rfl) ?_
  refine lv_iload_n hx hb dL_law_218 rfl (lv_at hl 0 rfl) ?_
  refine lv_bipush (v := 9) hx hb dL_law_219 (by decide) ?_
  refine lv_iadd hx hb dL_law_221 ?_
  refine va_sld hx hb hX hbl hbA hS (hin 9 (by decide)) dL_law_222 ?_
  rw [e9]
  have hq_7 : va_P D vwCl [((z 14), .inl (cI, 52, .inl N)), ((z 13), .inr (6, [.ref (z 14), .double w0, .double w1, .double w2, .double w3, .double w4, .double w5, .double w6, .double w7, .double w8, .double w9, .int ct, .int cp, .int cr, .int ctr, .int cfs, .int (nI k), .ref (z 15), .int (nI k2), .ref (z 16), .ref (z 17), .double w10]))] H1 := fr_cons (va_at.kept (hP.c14) (hkh1 _ (va_at_lt (hP.c14)) (hz.ne 14 (9 + q) (by decide) (by omega) (by omega)))) (fr_cons (va_at.kept (hP.c13) (hkh1 _ (va_at_lt (hP.c13)) (hz.ne 13 (9 + q) (by decide) (by omega) (by omega)))) (fr_nil))
  refine va_calli (va_runV (As := [.int v1, .int v2, .int v3, .int v4, .int v5, .int v6, .int v7, .int v8, .int v9]) (rest := [.int r1]) ⟨hx, hb, hml, hown, hts⟩ (mX7_hang l D cI cH (z 13) (z 14) (z 15) (z 16) (z 17) k k2 q N ct cp cr ctr cfs w0 w1 w2 w3 w4 w5 w6 w7 w8 w9 w10 v1 v2 v3 v4 v5 v6 v7 v8 v9 hq (hz.ne 13 14 (by decide) (by decide) (by decide)) hq7) (cwV 9 hts gL_law_X7_hang rfl rfl rfl (by decide +kernel) ⟨Nat.le_of_ble_eq_true rfl, Nat.le_of_ble_eq_true rfl⟩) ⟨kB_blind, va_recv hw.1 hq_7 (ci := 6) (q0 := 1) rfl rfl, kB_go hq_7 hw⟩ rfl rfl hl.1 rfl (lv_room (Nat.le_of_ble_eq_true rfl)) dL_law_223 ⟨hc, hs9⟩) hS (fun q9 _ h9 => h9 ▸ hz.2 14 (by decide)) (fun q9 h9 => h9 ▸ hz.2 14 (by decide)) (fun r2 u2 t2 H2 locs ht2 hvm2 hp2 hB2 hz22 hkh2 hS => ?_)
  have hB2 : va_at D vwCl (z 14, .inl (cI, 52, .inl u2)) t2.heap := hB2
  rw [ht2] at hB2
  obtain ⟨hr1, hu1⟩ := pk hp1
  obtain ⟨hr2, hu2⟩ := pk hp2
  refine lv_icmp_eq (tgt := 828) hx hb dL_law_226 (by decide) (fun _ => ?_) (fun c9 => absurd (hr1.trans hr2.symm) c9)
  by_cases hv : okHang v1 v2 v3 v4 v5 v6 v7 v8 v9 = true
  · rw [if_pos hv] at hu1 hu2
    rw [hu1] at hB1
    rw [hu2] at hB2
    have hv9 := hv
    unfold okHang okP at hv9
    simp only [Bool.and_eq_true, Bool.or_eq_true, decide_eq_true_eq] at hv9
    obtain ⟨g0, ⟨g1, g2⟩, ⟨g3, g4⟩, g5, g6, g7, g8⟩ := hv9
    exact kk H2 locs ⟨(layN N q v2 v3 v4 v5 v6 v7 v8 v9), ft, f1, f2, k, k2, ct, cp, cr, ctr, cfs, _, _, hok.set ly_only (ly_N (hhg q hq) (okC_c g1) (okC_c g2) (okC_c g3) (okC_c g4) (isW_i g5) (isW_i g6) (isW_i g7) g8), ⟨_, _, _, _, _, _, _, _, _, _, _, _, _, _, rfl⟩, ⟨_, _, _, _, _, _, _, _, _, _, _, rfl⟩, fin_hg hz hq ly_only hP hkh1 hkh2 (by rw [ly_L]; exact hB1) hB2⟩ hS
  · rw [if_neg hv] at hu1 hu2
    rw [hu1] at hB1
    rw [hu2] at hB2
    exact kk H2 locs ⟨N, ft, f1, f2, k, k2, ct, cp, cr, ctr, cfs, _, _, hok, ⟨_, _, _, _, _, _, _, _, _, _, _, _, _, _, rfl⟩, ⟨_, _, _, _, _, _, _, _, _, _, _, rfl⟩, fin_hg hz hq only_self hP hkh1 hkh2 hB1 hB2⟩ hS
