/-! THE LAW'S CALLS -/
set_option maxHeartbeats 4000000 in
set_option maxRecDepth 100000 in
theorem br_hang {p : Program} {l : Launch} {e : Env} {s : State} {m : MethodId} {args : Array Value} {below : List Frame} {meth : Method} {co : Code} {Q : State → Prop} {A : Nat → Prop} {b L : Nat} {xs : Nat → Int32} {x3 : Int32} {H : Heap} {locs : List Loc} {cells slots : Nat} {ls : Array Slot} {D : va_G} {cI cH : ClassId} {z : Nat → Nat} {fh : Nat → Option Nat} (hc : cells ≤ 600000) (hs9 : slots ≤ 7302250) (hx : p.tables.exec = Jvm.exec) (hb : co.code = cL_law) (hml : co.maxLocals = 4) (hown : s.vm.findClass RL = some m.cls) (hts : ∀ w ∈ wsL_law, w.before args s = true) (hw : wk D cI cH s) (hX : va_X b L xs s s.heap) (hbl : b < s.heap.size) (hbA : ¬ A b) (hz : zOk A z) (hfh : ∀ j, j < 4 → fh j = some (z (9 + j))) (hin : ∀ v : Int32, isW v 0 9 = true → vp_in (x3 + v) L) (hS : va_S A s.heap H locs) (hI : inv D cI cH z fh H) (hl : lv_has ls 4 [(3, .int x3), (2, .ref (z 13)), (1, .ref (z 0)), (0, .ref b)]) (kk : ∀ (H : Heap) (locs : List Loc), inv D cI cH z fh H → va_S A s.heap H locs → W p l e room_1 s m args below meth co H locs cells slots Q (F0 m 828 ls [])) : W p l e room_1 s m args below meth co H locs cells slots Q (F0 m 120 ls []) := by
  obtain ⟨N, ft, f1, f2, k, k2, ct, cp, cr, ctr, cfs, us, um, hok, hus, hum, hP⟩ := hI
  obtain ⟨y12, y13, y0, y1, y2, y3, y4, y5, y6, y7, y8, y9, y10, y11, rfl⟩ := hus
  obtain ⟨w0, w1, w2, w3, w4, w5, w6, w7, w8, w9, w10, rfl⟩ := hum
  obtain ⟨hk, hk2, hhg, hft, hrd⟩ := id hok
  obtain ⟨v1, e1⟩ : ∃ y : Int32, xs (x3 + 1).toNatClampNeg = y := ⟨_, rfl⟩
  obtain ⟨v2, e2⟩ : ∃ y : Int32, xs (x3 + 2).toNatClampNeg = y := ⟨_, rfl⟩
  obtain ⟨v3, e3⟩ : ∃ y : Int32, xs (x3 + 3).toNatClampNeg = y := ⟨_, rfl⟩
  obtain ⟨v4, e4⟩ : ∃ y : Int32, xs (x3 + 4).toNatClampNeg = y := ⟨_, rfl⟩
  obtain ⟨v5, e5⟩ : ∃ y : Int32, xs (x3 + 5).toNatClampNeg = y := ⟨_, rfl⟩
  obtain ⟨v6, e6⟩ : ∃ y : Int32, xs (x3 + 6).toNatClampNeg = y := ⟨_, rfl⟩
  obtain ⟨v7, e7⟩ : ∃ y : Int32, xs (x3 + 7).toNatClampNeg = y := ⟨_, rfl⟩
  obtain ⟨v8, e8⟩ : ∃ y : Int32, xs (x3 + 8).toNatClampNeg = y := ⟨_, rfl⟩
  obtain ⟨v9, e9⟩ : ∃ y : Int32, xs (x3 + 9).toNatClampNeg = y := ⟨_, rfl⟩
  obtain ⟨q, hq, hq6, hq7⟩ := okH_q v1
  refine lv_aload_n hx hb dL_law_120 rfl (lv_at hl 2 rfl) ?_
  refine lv_aload_n hx hb dL_law_121 rfl (lv_at hl 3 rfl) ?_
  refine lv_iload_n hx hb dL_law_122 rfl (lv_at hl 0 rfl) ?_
  refine lv_iconst (v := 1) hx hb dL_law_123 (by decide) ?_
  refine lv_iadd hx hb dL_law_124 ?_
  refine va_sld hx hb hX hbl hbA hS (hin 1 (by decide)) dL_law_125 ?_
  rw [e1]
  refine lv_aload_n hx hb dL_law_126 rfl (lv_at hl 3 rfl) ?_
  refine lv_iload_n hx hb dL_law_127 rfl (lv_at hl 0 rfl) ?_
  refine lv_iconst (v := 2) hx hb dL_law_128 (by decide) ?_
  refine lv_iadd hx hb dL_law_129 ?_
  refine va_sld hx hb hX hbl hbA hS (hin 2 (by decide)) dL_law_130 ?_
  rw [e2]
  refine lv_aload_n hx hb dL_law_131 rfl (lv_at hl 3 rfl) ?_
  refine lv_iload_n hx hb dL_law_132 rfl (lv_at hl 0 rfl) ?_
  refine lv_iconst (v := 3) hx hb dL_law_133 (by decide) ?_
  refine lv_iadd hx hb dL_law_134 ?_
  refine va_sld hx hb hX hbl hbA hS (hin 3 (by decide)) dL_law_135 ?_
  rw [e3]
  refine lv_aload_n hx hb dL_law_136 rfl (lv_at hl 3 rfl) ?_
  refine lv_iload_n hx hb dL_law_137 rfl (lv_at hl 0 rfl) ?_
  refine lv_iconst (v := 4) hx hb dL_law_138 (by decide) ?_
  refine lv_iadd hx hb dL_law_139 ?_
  refine va_sld hx hb hX hbl hbA hS (hin 4 (by decide)) dL_law_140 ?_
  rw [e4]
  refine lv_aload_n hx hb dL_law_141 rfl (lv_at hl 3 rfl) ?_
  refine lv_iload_n hx hb dL_law_142 rfl (lv_at hl 0 rfl) ?_
  refine lv_iconst (v := 5) hx hb dL_law_143 (by decide) ?_
  refine lv_iadd hx hb dL_law_144 ?_
  refine va_sld hx hb hX hbl hbA hS (hin 5 (by decide)) dL_law_145 ?_
  rw [e5]
  refine lv_aload_n hx hb dL_law_146 rfl (lv_at hl 3 rfl) ?_
  refine lv_iload_n hx hb dL_law_147 rfl (lv_at hl 0 rfl) ?_
  refine lv_bipush (v := 6) hx hb dL_law_148 (by decide) ?_
  refine lv_iadd hx hb dL_law_150 ?_
  refine va_sld hx hb hX hbl hbA hS (hin 6 (by decide)) dL_law_151 ?_
  rw [e6]
  refine lv_aload_n hx hb dL_law_152 rfl (lv_at hl 3 rfl) ?_
  refine lv_iload_n hx hb dL_law_153 rfl (lv_at hl 0 rfl) ?_
  refine lv_bipush (v := 7) hx hb dL_law_154 (by decide) ?_
  refine lv_iadd hx hb dL_law_156 ?_
  refine va_sld hx hb hX hbl hbA hS (hin 7 (by decide)) dL_law_157 ?_
  rw [e7]
  refine lv_aload_n hx hb dL_law_158 rfl (lv_at hl 3 rfl) ?_
  refine lv_iload_n hx hb dL_law_159 rfl (lv_at hl 0 rfl) ?_
  refine lv_bipush (v := 8) hx hb dL_law_160 (by decide) ?_
  refine lv_iadd hx hb dL_law_162 ?_
  refine va_sld hx hb hX hbl hbA hS (hin 8 (by decide)) dL_law_163 ?_
  rw [e8]
  refine lv_aload_n hx hb dL_law_164 rfl (lv_at hl 3 rfl) ?_
  refine lv_iload_n hx hb dL_law_165 rfl (lv_at hl 0 rfl) ?_
  refine lv_bipush (v := 9) hx hb dL_law_166 (by decide) ?_
  refine lv_iadd hx hb dL_law_168 ?_
  refine va_sld hx hb hX hbl hbA hS (hin 9 (by decide)) dL_law_169 ?_
  rw [e9]
  have hq_6 : va_P D vwCl [((z (9 + q)), .inr (1, [.int (N (13 * q)), .int (N (13 * q + 1)), .int (N (13 * q + 4)), .int (N (13 * q + 2)), .int (N (13 * q + 3)), .int (N (13 * q + 5)), .int (N (13 * q + 6)), .int (N (13 * q + 7)), .int (N (13 * q + 8)), .int (N (13 * q + 9)), .int (N (13 * q + 10)), .int (N (13 * q + 11)), .int (N (13 * q + 12))])), ((z 0), .inr (5, [.ref (z 1), .ref (z 2), .ref (z 3), .ref (z 4), .ref (z 6)])), ((z 1), .inl (cH, 4, .inr (.inr (.inr (.inr fh)))))] H := fr_cons ((hP.hg hq)) (fr_cons (hP.c0) (fr_cons (hP.c1) (fr_nil)))
  refine va_calli (va_runV (As := [.int v1, .int v2, .int v3, .int v4, .int v5, .int v6, .int v7, .int v8, .int v9]) (rest := []) ⟨hx, hb, hml, hown, hts⟩ (mX6_hang l D cI cH (z 0) (z 1) (z 2) (z 3) (z 4) (z 6) (z (9 + q)) fh (N (13 * q)) (N (13 * q + 1)) (N (13 * q + 4)) (N (13 * q + 2)) (N (13 * q + 3)) (N (13 * q + 5)) (N (13 * q + 6)) (N (13 * q + 7)) (N (13 * q + 8)) (N (13 * q + 9)) (N (13 * q + 10)) (N (13 * q + 11)) (N (13 * q + 12)) v1 v2 v3 v4 v5 v6 v7 v8 v9 (hz.ne 0 (9 + q) (by decide) (by omega) (by omega)) (hz.ne 1 (9 + q) (by decide) (by omega) (by omega)) (fun h9 => by rw [hq6 h9]; exact hfh q hq)) (cwV 9 hts gL_law_X6_hang rfl rfl rfl (by decide +kernel) ⟨Nat.le_of_ble_eq_true rfl, Nat.le_of_ble_eq_true rfl⟩) ⟨kB_blind, va_recv hw.1 hq_6 (ci := 5) (q0 := 1) rfl rfl, kB_go hq_6 hw⟩ rfl rfl hl.1 rfl (lv_room (Nat.le_of_ble_eq_true rfl)) dL_law_170 ⟨hc, hs9⟩) hS (fun q9 _ h9 => h9 ▸ hz.2 (9 + q) (by omega)) (fun q9 h9 => h9 ▸ hz.2 (9 + q) (by omega)) (fun r1 u1 t1 H1 locs ht1 hvm1 hp1 hB1 hz11 hkh1 hS => ?_)
  have hB1 : va_at D vwCl (z (9 + q), .inr (1, u1)) t1.heap := hB1
  rw [ht1] at hB1
  refine lv_aload_n hx hb dL_law_173 rfl (lv_at hl 1 rfl) ?_
  refine lv_aload_n hx hb dL_law_174 rfl (lv_at hl 3 rfl) ?_
  refine lv_iload_n hx hb dL_law_175 rfl (lv_at hl 0 rfl) ?_
  refine lv_iconst (v := 1) hx hb dL_law_176 (by decide) ?_
  refine lv_iadd hx hb dL_law_177 ?_
  refine va_sld hx hb hX hbl hbA hS (hin 1 (by decide)) dL_law_178 ?_
  rw [e1]
  refine lv_aload_n hx hb dL_law_179 rfl (lv_at hl 3 rfl) ?_
  refine lv_iload_n hx hb dL_law_180 rfl (lv_at hl 0 rfl) ?_
  refine lv_iconst (v := 2) hx hb dL_law_181 (by decide) ?_
  refine lv_iadd hx hb dL_law_182 ?_
  refine va_sld hx hb hX hbl hbA hS (hin 2 (by decide)) dL_law_183 ?_
  rw [e2]
  refine lv_aload_n hx hb dL_law_184 rfl (lv_at hl 3 rfl) ?_
  refine lv_iload_n hx hb dL_law_185 rfl (lv_at hl 0 rfl) ?_
  refine lv_iconst (v := 3) hx hb dL_law_186 (by decide) ?_
  refine lv_iadd hx hb dL_law_187 ?_
  refine va_sld hx hb hX hbl hbA hS (hin 3 (by decide)) dL_law_188 ?_
  rw [e3]
  refine lv_aload_n hx hb dL_law_189 rfl (lv_at hl 3 rfl) ?_
  refine lv_iload_n hx hb dL_law_190 rfl (lv_at hl 0 rfl) ?_
  refine lv_iconst (v := 4) hx hb dL_law_191 (by decide) ?_
  refine lv_iadd hx hb dL_law_192 ?_
  refine va_sld hx hb hX hbl hbA hS (hin 4 (by decide)) dL_law_193 ?_
  rw [e4]
  refine lv_aload_n hx hb dL_law_194 rfl (lv_at hl 3 rfl) ?_
  refine lv_iload_n hx hb dL_law_195 rfl (lv_at hl 0 rfl) ?_
  refine lv_iconst (v := 5) hx hb dL_law_196 (by decide) ?_
  refine lv_iadd hx hb dL_law_197 ?_
  refine va_sld hx hb hX hbl hbA hS (hin 5 (by decide)) dL_law_198 ?_
  rw [e5]
  refine lv_aload_n hx hb dL_law_199 rfl (lv_at hl 3 rfl) ?_
  refine lv_iload_n hx hb dL_law_200 rfl (lv_at hl 0 rfl) ?_
  refine lv_bipush (v := 6) hx hb dL_law_201 (by decide) ?_
  refine lv_iadd hx hb dL_law_203 ?_
  refine va_sld hx hb hX hbl hbA hS (hin 6 (by decide)) dL_law_204 ?_
  rw [e6]
  refine lv_aload_n hx hb dL_law_205 rfl (lv_at hl 3 rfl) ?_
  refine lv_iload_n hx hb dL_law_206 rfl (lv_at hl 0 rfl) ?_
  refine lv_bipush (v := 7) hx hb dL_law_207 (by decide) ?_
  refine lv_iadd hx hb dL_law_209 ?_
  refine va_sld hx hb hX hbl hbA hS (hin 7 (by decide)) dL_law_210 ?_
  rw [e7]
  refine lv_aload_n hx hb dL_law_211 rfl (lv_at hl 3 rfl) ?_
  refine lv_iload_n hx hb dL_law_212 rfl (lv_at hl 0 rfl) ?_
  refine lv_bipush (v := 8) hx hb dL_law_213 (by decide) ?_
  refine lv_iadd hx hb dL_law_215 ?_
  refine va_sld hx hb hX hbl hbA hS (hin 8 (by decide)) dL_law_216 ?_
  rw [e8]
  refine lv_aload_n hx hb dL_law_217 rfl (lv_at hl 3 rfl) ?_
  refine lv_iload_n hx hb dL_law_218 rfl (lv_at hl 0 rfl) ?_
  refine lv_bipush (v := 9) hx hb dL_law_219 (by decide) ?_
  refine lv_iadd hx hb dL_law_221 ?_
  refine va_sld hx hb hX hbl hbA hS (hin 9 (by decide)) dL_law_222 ?_
  rw [e9]
  have hq_7 : va_P D vwCl [((z 14), .inl (cI, 52, .inl N)), ((z 13), .inr (6, [.ref (z 14), .double w0, .double w1, .double w2, .double w3, .double w4, .double w5, .double w6, .double w7, .double w8, .double w9, .int ct, .int cp, .int cr, .int ctr, .int cfs, .int (nI k), .ref (z 15), .int (nI k2), .ref (z 16), .ref (z 17), .double w10]))] H1 := fr_cons (va_at.kept (hP.c14) (hkh1 _ (va_at_lt (hP.c14)) (hz.ne 14 (9 + q) (by decide) (by omega) (by omega)))) (fr_cons (va_at.kept (hP.c13) (hkh1 _ (va_at_lt (hP.c13)) (hz.ne 13 (9 + q) (by decide) (by omega) (by omega)))) (fr_nil))
  refine va_calli (va_runV (As := [.int v1, .int v2, .int v3, .int v4, .int v5, .int v6, .int v7, .int v8, .int v9]) (rest := [.int r1]) ⟨hx, hb, hml, hown, hts⟩ (mX7_hang l D cI cH (z 13) (z 14) (z 15) (z 16) (z 17) k k2 q N ct cp cr ctr cfs w0 w1 w2 w3 w4 w5 w6 w7 w8 w9 w10 v1 v2 v3 v4 v5 v6 v7 v8 v9 hq (hz.ne 13 14 (by decide) (by decide) (by decide)) hq7) (cwV 9 hts gL_law_X7_hang rfl rfl rfl (by decide +kernel) ⟨Nat.le_of_ble_eq_true rfl, Nat.le_of_ble_eq_true rfl⟩) ⟨kB_blind, va_recv hw.1 hq_7 (ci := 6) (q0 := 1) rfl rfl, kB_go hq_7 hw⟩ rfl rfl hl.1 rfl (lv_room (Nat.le_of_ble_eq_true rfl)) dL_law_223 ⟨hc, hs9⟩) hS (fun q9 _ h9 => h9 ▸ hz.2 14 (by decide)) (fun q9 h9 => h9 ▸ hz.2 14 (by decide)) (fun r2 u2 t2 H2 locs ht2 hvm2 hp2 hB2 hz22 hkh2 hS => ?_)
  have hB2 : va_at D vwCl (z 14, .inl (cI, 52, .inl u2)) t2.heap := hB2
  rw [ht2] at hB2
  obtain ⟨hr1, hu1⟩ := pk hp1
  obtain ⟨hr2, hu2⟩ := pk hp2
  refine lv_icmp_eq (tgt := 828) hx hb dL_law_226 (by decide) (fun _ => ?_) (fun c9 => absurd (hr1.trans hr2.symm) c9)
  by_cases hv : okHang v1 v2 v3 v4 v5 v6 v7 v8 v9 = true
  · rw [if_pos hv] at hu1 hu2
    subst hu1
    subst hu2
    have hv9 := hv
    unfold okHang okP at hv9
    simp only [Bool.and_eq_true, Bool.or_eq_true, decide_eq_true_eq] at hv9
    obtain ⟨g0, ⟨g1, g2⟩, ⟨g3, g4⟩, g5, g6, g7, g8⟩ := hv9
    exact kk H2 locs ⟨(layN N q v2 v3 v4 v5 v6 v7 v8 v9), ft, f1, f2, k, k2, ct, cp, cr, ctr, cfs, _, _, hok.set ly_only (ly_N (hhg q hq) (okC_c g1) (okC_c g2) (okC_c g3) (okC_c g4) (isW_i g5) (isW_i g6) (isW_i g7) g8), ⟨_, _, _, _, _, _, _, _, _, _, _, _, _, _, rfl⟩, ⟨_, _, _, _, _, _, _, _, _, _, _, rfl⟩, fin_hg hz hq ly_only hP hkh1 hkh2 (by rw [ly_L]; exact hB1) hB2⟩ hS
  · rw [if_neg hv] at hu1 hu2
    subst hu1
    subst hu2
    exact kk H2 locs ⟨N, ft, f1, f2, k, k2, ct, cp, cr, ctr, cfs, _, _, hok, ⟨_, _, _, _, _, _, _, _, _, _, _, _, _, _, rfl⟩, ⟨_, _, _, _, _, _, _, _, _, _, _, rfl⟩, fin_hg hz hq only_self hP hkh1 hkh2 hB1 hB2⟩ hS
set_option maxHeartbeats 4000000 in
set_option maxRecDepth 100000 in
theorem br_wheel {p : Program} {l : Launch} {e : Env} {s : State} {m : MethodId} {args : Array Value} {below : List Frame} {meth : Method} {co : Code} {Q : State → Prop} {A : Nat → Prop} {b L : Nat} {xs : Nat → Int32} {x3 : Int32} {H : Heap} {locs : List Loc} {cells slots : Nat} {ls : Array Slot} {D : va_G} {cI cH : ClassId} {z : Nat → Nat} {fh : Nat → Option Nat} (hc : cells ≤ 600000) (hs9 : slots ≤ 7302250) (hx : p.tables.exec = Jvm.exec) (hb : co.code = cL_law) (hml : co.maxLocals = 4) (hown : s.vm.findClass RL = some m.cls) (hts : ∀ w ∈ wsL_law, w.before args s = true) (hw : wk D cI cH s) (hX : va_X b L xs s s.heap) (hbl : b < s.heap.size) (hbA : ¬ A b) (hz : zOk A z) (hfh : ∀ j, j < 4 → fh j = some (z (9 + j))) (hin : ∀ v : Int32, isW v 0 9 = true → vp_in (x3 + v) L) (hS : va_S A s.heap H locs) (hI : inv D cI cH z fh H) (hl : lv_has ls 4 [(3, .int x3), (2, .ref (z 13)), (1, .ref (z 0)), (0, .ref b)]) (kk : ∀ (H : Heap) (locs : List Loc), inv D cI cH z fh H → va_S A s.heap H locs → W p l e room_1 s m args below meth co H locs cells slots Q (F0 m 828 ls [])) : W p l e room_1 s m args below meth co H locs cells slots Q (F0 m 231 ls []) := by
  obtain ⟨N, ft, f1, f2, k, k2, ct, cp, cr, ctr, cfs, us, um, hok, hus, hum, hP⟩ := hI
  obtain ⟨y12, y13, y0, y1, y2, y3, y4, y5, y6, y7, y8, y9, y10, y11, rfl⟩ := hus
  obtain ⟨w0, w1, w2, w3, w4, w5, w6, w7, w8, w9, w10, rfl⟩ := hum
  obtain ⟨hk, hk2, hhg, hft, hrd⟩ := id hok
  obtain ⟨v1, e1⟩ : ∃ y : Int32, xs (x3 + 1).toNatClampNeg = y := ⟨_, rfl⟩
  obtain ⟨v2, e2⟩ : ∃ y : Int32, xs (x3 + 2).toNatClampNeg = y := ⟨_, rfl⟩
  obtain ⟨v3, e3⟩ : ∃ y : Int32, xs (x3 + 3).toNatClampNeg = y := ⟨_, rfl⟩
  obtain ⟨q, hq, hq6, hq7⟩ := okH_q v1
  refine lv_aload_n hx hb dL_law_231 rfl (lv_at hl 2 rfl) ?_
  refine lv_aload_n hx hb dL_law_232 rfl (lv_at hl 3 rfl) ?_
  refine lv_iload_n hx hb dL_law_233 rfl (lv_at hl 0 rfl) ?_
  refine lv_iconst (v := 1) hx hb dL_law_234 (by decide) ?_
  refine lv_iadd hx hb dL_law_235 ?_
  refine va_sld hx hb hX hbl hbA hS (hin 1 (by decide)) dL_law_236 ?_
  rw [e1]
  refine lv_aload_n hx hb dL_law_237 rfl (lv_at hl 3 rfl) ?_
  refine lv_iload_n hx hb dL_law_238 rfl (lv_at hl 0 rfl) ?_
  refine lv_iconst (v := 2) hx hb dL_law_239 (by decide) ?_
  refine lv_iadd hx hb dL_law_240 ?_
  refine va_sld hx hb hX hbl hbA hS (hin 2 (by decide)) dL_law_241 ?_
  rw [e2]
  refine lv_aload_n hx hb dL_law_242 rfl (lv_at hl 3 rfl) ?_
  refine lv_iload_n hx hb dL_law_243 rfl (lv_at hl 0 rfl) ?_
  refine lv_iconst (v := 3) hx hb dL_law_244 (by decide) ?_
  refine lv_iadd hx hb dL_law_245 ?_
  refine va_sld hx hb hX hbl hbA hS (hin 3 (by decide)) dL_law_246 ?_
  rw [e3]
  have hq_6 : va_P D vwCl [((z (9 + q)), .inr (1, [.int (N (13 * q)), .int (N (13 * q + 1)), .int (N (13 * q + 4)), .int (N (13 * q + 2)), .int (N (13 * q + 3)), .int (N (13 * q + 5)), .int (N (13 * q + 6)), .int (N (13 * q + 7)), .int (N (13 * q + 8)), .int (N (13 * q + 9)), .int (N (13 * q + 10)), .int (N (13 * q + 11)), .int (N (13 * q + 12))])), ((z 0), .inr (5, [.ref (z 1), .ref (z 2), .ref (z 3), .ref (z 4), .ref (z 6)])), ((z 1), .inl (cH, 4, .inr (.inr (.inr (.inr fh)))))] H := fr_cons ((hP.hg hq)) (fr_cons (hP.c0) (fr_cons (hP.c1) (fr_nil)))
  refine va_calli (va_runV (As := [.int v1, .int v2, .int v3]) (rest := []) ⟨hx, hb, hml, hown, hts⟩ (mX6_wheel l D cI cH (z 0) (z 1) (z 2) (z 3) (z 4) (z 6) (z (9 + q)) fh (N (13 * q)) (N (13 * q + 1)) (N (13 * q + 4)) (N (13 * q + 2)) (N (13 * q + 3)) (N (13 * q + 5)) (N (13 * q + 6)) (N (13 * q + 7)) (N (13 * q + 8)) (N (13 * q + 9)) (N (13 * q + 10)) (N (13 * q + 11)) (N (13 * q + 12)) v1 v2 v3 (hz.ne 0 (9 + q) (by decide) (by omega) (by omega)) (hz.ne 1 (9 + q) (by decide) (by omega) (by omega)) (fun h9 => by rw [hq6 h9]; exact hfh q hq)) (cwV 3 hts gL_law_X6_wheel rfl rfl rfl (by decide +kernel) ⟨Nat.le_of_ble_eq_true rfl, Nat.le_of_ble_eq_true rfl⟩) ⟨kB_blind, va_recv hw.1 hq_6 (ci := 5) (q0 := 1) rfl rfl, kB_go hq_6 hw⟩ rfl rfl hl.1 rfl (lv_room (Nat.le_of_ble_eq_true rfl)) dL_law_247 ⟨hc, hs9⟩) hS (fun q9 _ h9 => h9 ▸ hz.2 (9 + q) (by omega)) (fun q9 h9 => h9 ▸ hz.2 (9 + q) (by omega)) (fun r1 u1 t1 H1 locs ht1 hvm1 hp1 hB1 hz11 hkh1 hS => ?_)
  have hB1 : va_at D vwCl (z (9 + q), .inr (1, u1)) t1.heap := hB1
  rw [ht1] at hB1
  refine lv_aload_n hx hb dL_law_250 rfl (lv_at hl 1 rfl) ?_
  refine lv_aload_n hx hb dL_law_251 rfl (lv_at hl 3 rfl) ?_
  refine lv_iload_n hx hb dL_law_252 rfl (lv_at hl 0 rfl) ?_
  refine lv_iconst (v := 1) hx hb dL_law_253 (by decide) ?_
  refine lv_iadd hx hb dL_law_254 ?_
  refine va_sld hx hb hX hbl hbA hS (hin 1 (by decide)) dL_law_255 ?_
  rw [e1]
  refine lv_aload_n hx hb dL_law_256 rfl (lv_at hl 3 rfl) ?_
  refine lv_iload_n hx hb dL_law_257 rfl (lv_at hl 0 rfl) ?_
  refine lv_iconst (v := 2) hx hb dL_law_258 (by decide) ?_
  refine lv_iadd hx hb dL_law_259 ?_
  refine va_sld hx hb hX hbl hbA hS (hin 2 (by decide)) dL_law_260 ?_
  rw [e2]
  refine lv_aload_n hx hb dL_law_261 rfl (lv_at hl 3 rfl) ?_
  refine lv_iload_n hx hb dL_law_262 rfl (lv_at hl 0 rfl) ?_
  refine lv_iconst (v := 3) hx hb dL_law_263 (by decide) ?_
  refine lv_iadd hx hb dL_law_264 ?_
  refine va_sld hx hb hX hbl hbA hS (hin 3 (by decide)) dL_law_265 ?_
  rw [e3]
  have hq_7 : va_P D vwCl [((z 14), .inl (cI, 52, .inl N)), ((z 13), .inr (6, [.ref (z 14), .double w0, .double w1, .double w2, .double w3, .double w4, .double w5, .double w6, .double w7, .double w8, .double w9, .int ct, .int cp, .int cr, .int ctr, .int cfs, .int (nI k), .ref (z 15), .int (nI k2), .ref (z 16), .ref (z 17), .double w10]))] H1 := fr_cons (va_at.kept (hP.c14) (hkh1 _ (va_at_lt (hP.c14)) (hz.ne 14 (9 + q) (by decide) (by omega) (by omega)))) (fr_cons (va_at.kept (hP.c13) (hkh1 _ (va_at_lt (hP.c13)) (hz.ne 13 (9 + q) (by decide) (by omega) (by omega)))) (fr_nil))
  refine va_calli (va_runV (As := [.int v1, .int v2, .int v3]) (rest := [.int r1]) ⟨hx, hb, hml, hown, hts⟩ (mX7_wheel l D cI cH (z 13) (z 14) (z 15) (z 16) (z 17) k k2 q N ct cp cr ctr cfs w0 w1 w2 w3 w4 w5 w6 w7 w8 w9 w10 v1 v2 v3 hq (hz.ne 13 14 (by decide) (by decide) (by decide)) hq7) (cwV 3 hts gL_law_X7_wheel rfl rfl rfl (by decide +kernel) ⟨Nat.le_of_ble_eq_true rfl, Nat.le_of_ble_eq_true rfl⟩) ⟨kB_blind, va_recv hw.1 hq_7 (ci := 6) (q0 := 1) rfl rfl, kB_go hq_7 hw⟩ rfl rfl hl.1 rfl (lv_room (Nat.le_of_ble_eq_true rfl)) dL_law_266 ⟨hc, hs9⟩) hS (fun q9 _ h9 => h9 ▸ hz.2 14 (by decide)) (fun q9 h9 => h9 ▸ hz.2 14 (by decide)) (fun r2 u2 t2 H2 locs ht2 hvm2 hp2 hB2 hz22 hkh2 hS => ?_)
  have hB2 : va_at D vwCl (z 14, .inl (cI, 52, .inl u2)) t2.heap := hB2
  rw [ht2] at hB2
  obtain ⟨hr1, hu1⟩ := pk hp1
  obtain ⟨hr2, hu2⟩ := pk hp2
  refine lv_icmp_eq (tgt := 828) hx hb dL_law_269 (by decide) (fun _ => ?_) (fun c9 => absurd (hr1.trans hr2.symm) c9)
  by_cases hv : okWheel v1 v2 v3 = true
  · rw [if_pos hv] at hu1 hu2
    subst hu1
    subst hu2
    have hv9 := hv
    unfold okWheel okP at hv9
    simp only [Bool.and_eq_true] at hv9
    obtain ⟨g0, g1, g2⟩ := hv9
    exact kk H2 locs ⟨(whN N q v2 v3), ft, f1, f2, k, k2, ct, cp, cr, ctr, cfs, _, _, hok.set wh_only (wh_N (hhg q hq) (okC_c g1) (okC_c g2)), ⟨_, _, _, _, _, _, _, _, _, _, _, _, _, _, rfl⟩, ⟨_, _, _, _, _, _, _, _, _, _, _, rfl⟩, fin_hg hz hq wh_only hP hkh1 hkh2 (by rw [wh_L]; exact hB1) hB2⟩ hS
  · rw [if_neg hv] at hu1 hu2
    subst hu1
    subst hu2
    exact kk H2 locs ⟨N, ft, f1, f2, k, k2, ct, cp, cr, ctr, cfs, _, _, hok, ⟨_, _, _, _, _, _, _, _, _, _, _, _, _, _, rfl⟩, ⟨_, _, _, _, _, _, _, _, _, _, _, rfl⟩, fin_hg hz hq only_self hP hkh1 hkh2 hB1 hB2⟩ hS
set_option maxHeartbeats 4000000 in
set_option maxRecDepth 100000 in
theorem br_spring {p : Program} {l : Launch} {e : Env} {s : State} {m : MethodId} {args : Array Value} {below : List Frame} {meth : Method} {co : Code} {Q : State → Prop} {A : Nat → Prop} {b L : Nat} {xs : Nat → Int32} {x3 : Int32} {H : Heap} {locs : List Loc} {cells slots : Nat} {ls : Array Slot} {D : va_G} {cI cH : ClassId} {z : Nat → Nat} {fh : Nat → Option Nat} (hc : cells ≤ 600000) (hs9 : slots ≤ 7302250) (hx : p.tables.exec = Jvm.exec) (hb : co.code = cL_law) (hml : co.maxLocals = 4) (hown : s.vm.findClass RL = some m.cls) (hts : ∀ w ∈ wsL_law, w.before args s = true) (hw : wk D cI cH s) (hX : va_X b L xs s s.heap) (hbl : b < s.heap.size) (hbA : ¬ A b) (hz : zOk A z) (hfh : ∀ j, j < 4 → fh j = some (z (9 + j))) (hin : ∀ v : Int32, isW v 0 9 = true → vp_in (x3 + v) L) (hS : va_S A s.heap H locs) (hI : inv D cI cH z fh H) (hl : lv_has ls 4 [(3, .int x3), (2, .ref (z 13)), (1, .ref (z 0)), (0, .ref b)]) (kk : ∀ (H : Heap) (locs : List Loc), inv D cI cH z fh H → va_S A s.heap H locs → W p l e room_1 s m args below meth co H locs cells slots Q (F0 m 828 ls [])) : W p l e room_1 s m args below meth co H locs cells slots Q (F0 m 274 ls []) := by
  obtain ⟨N, ft, f1, f2, k, k2, ct, cp, cr, ctr, cfs, us, um, hok, hus, hum, hP⟩ := hI
  obtain ⟨y12, y13, y0, y1, y2, y3, y4, y5, y6, y7, y8, y9, y10, y11, rfl⟩ := hus
  obtain ⟨w0, w1, w2, w3, w4, w5, w6, w7, w8, w9, w10, rfl⟩ := hum
  obtain ⟨hk, hk2, hhg, hft, hrd⟩ := id hok
  obtain ⟨v1, e1⟩ : ∃ y : Int32, xs (x3 + 1).toNatClampNeg = y := ⟨_, rfl⟩
  obtain ⟨v2, e2⟩ : ∃ y : Int32, xs (x3 + 2).toNatClampNeg = y := ⟨_, rfl⟩
  obtain ⟨v3, e3⟩ : ∃ y : Int32, xs (x3 + 3).toNatClampNeg = y := ⟨_, rfl⟩
  obtain ⟨v4, e4⟩ : ∃ y : Int32, xs (x3 + 4).toNatClampNeg = y := ⟨_, rfl⟩
  obtain ⟨q, hq, hq6, hq7⟩ := okH_q v1
  refine lv_aload_n hx hb dL_law_274 rfl (lv_at hl 2 rfl) ?_
  refine lv_aload_n hx hb dL_law_275 rfl (lv_at hl 3 rfl) ?_
  refine lv_iload_n hx hb dL_law_276 rfl (lv_at hl 0 rfl) ?_
  refine lv_iconst (v := 1) hx hb dL_law_277 (by decide) ?_
  refine lv_iadd hx hb dL_law_278 ?_
  refine va_sld hx hb hX hbl hbA hS (hin 1 (by decide)) dL_law_279 ?_
  rw [e1]
  refine lv_aload_n hx hb dL_law_280 rfl (lv_at hl 3 rfl) ?_
  refine lv_iload_n hx hb dL_law_281 rfl (lv_at hl 0 rfl) ?_
  refine lv_iconst (v := 2) hx hb dL_law_282 (by decide) ?_
  refine lv_iadd hx hb dL_law_283 ?_
  refine va_sld hx hb hX hbl hbA hS (hin 2 (by decide)) dL_law_284 ?_
  rw [e2]
  refine lv_aload_n hx hb dL_law_285 rfl (lv_at hl 3 rfl) ?_
  refine lv_iload_n hx hb dL_law_286 rfl (lv_at hl 0 rfl) ?_
  refine lv_iconst (v := 3) hx hb dL_law_287 (by decide) ?_
  refine lv_iadd hx hb dL_law_288 ?_
  refine va_sld hx hb hX hbl hbA hS (hin 3 (by decide)) dL_law_289 ?_
  rw [e3]
  refine lv_aload_n hx hb dL_law_290 rfl (lv_at hl 3 rfl) ?_
  refine lv_iload_n hx hb dL_law_291 rfl (lv_at hl 0 rfl) ?_
  refine lv_iconst (v := 4) hx hb dL_law_292 (by decide) ?_
  refine lv_iadd hx hb dL_law_293 ?_
  refine va_sld hx hb hX hbl hbA hS (hin 4 (by decide)) dL_law_294 ?_
  rw [e4]
  have hq_6 : va_P D vwCl [((z (9 + q)), .inr (1, [.int (N (13 * q)), .int (N (13 * q + 1)), .int (N (13 * q + 4)), .int (N (13 * q + 2)), .int (N (13 * q + 3)), .int (N (13 * q + 5)), .int (N (13 * q + 6)), .int (N (13 * q + 7)), .int (N (13 * q + 8)), .int (N (13 * q + 9)), .int (N (13 * q + 10)), .int (N (13 * q + 11)), .int (N (13 * q + 12))])), ((z 0), .inr (5, [.ref (z 1), .ref (z 2), .ref (z 3), .ref (z 4), .ref (z 6)])), ((z 1), .inl (cH, 4, .inr (.inr (.inr (.inr fh)))))] H := fr_cons ((hP.hg hq)) (fr_cons (hP.c0) (fr_cons (hP.c1) (fr_nil)))
  refine va_calli (va_runV (As := [.int v1, .int v2, .int v3, .int v4]) (rest := []) ⟨hx, hb, hml, hown, hts⟩ (mX6_spring l D cI cH (z 0) (z 1) (z 2) (z 3) (z 4) (z 6) (z (9 + q)) fh (N (13 * q)) (N (13 * q + 1)) (N (13 * q + 4)) (N (13 * q + 2)) (N (13 * q + 3)) (N (13 * q + 5)) (N (13 * q + 6)) (N (13 * q + 7)) (N (13 * q + 8)) (N (13 * q + 9)) (N (13 * q + 10)) (N (13 * q + 11)) (N (13 * q + 12)) v1 v2 v3 v4 (hz.ne 0 (9 + q) (by decide) (by omega) (by omega)) (hz.ne 1 (9 + q) (by decide) (by omega) (by omega)) (fun h9 => by rw [hq6 h9]; exact hfh q hq)) (cwV 4 hts gL_law_X6_spring rfl rfl rfl (by decide +kernel) ⟨Nat.le_of_ble_eq_true rfl, Nat.le_of_ble_eq_true rfl⟩) ⟨kB_blind, va_recv hw.1 hq_6 (ci := 5) (q0 := 1) rfl rfl, kB_go hq_6 hw⟩ rfl rfl hl.1 rfl (lv_room (Nat.le_of_ble_eq_true rfl)) dL_law_295 ⟨hc, hs9⟩) hS (fun q9 _ h9 => h9 ▸ hz.2 (9 + q) (by omega)) (fun q9 h9 => h9 ▸ hz.2 (9 + q) (by omega)) (fun r1 u1 t1 H1 locs ht1 hvm1 hp1 hB1 hz11 hkh1 hS => ?_)
  have hB1 : va_at D vwCl (z (9 + q), .inr (1, u1)) t1.heap := hB1
  rw [ht1] at hB1
  refine lv_aload_n hx hb dL_law_298 rfl (lv_at hl 1 rfl) ?_
  refine lv_aload_n hx hb dL_law_299 rfl (lv_at hl 3 rfl) ?_
  refine lv_iload_n hx hb dL_law_300 rfl (lv_at hl 0 rfl) ?_
  refine lv_iconst (v := 1) hx hb dL_law_301 (by decide) ?_
  refine lv_iadd hx hb dL_law_302 ?_
  refine va_sld hx hb hX hbl hbA hS (hin 1 (by decide)) dL_law_303 ?_
  rw [e1]
  refine lv_aload_n hx hb dL_law_304 rfl (lv_at hl 3 rfl) ?_
  refine lv_iload_n hx hb dL_law_305 rfl (lv_at hl 0 rfl) ?_
  refine lv_iconst (v := 2) hx hb dL_law_306 (by decide) ?_
  refine lv_iadd hx hb dL_law_307 ?_
  refine va_sld hx hb hX hbl hbA hS (hin 2 (by decide)) dL_law_308 ?_
  rw [e2]
  refine lv_aload_n hx hb dL_law_309 rfl (lv_at hl 3 rfl) ?_
  refine lv_iload_n hx hb dL_law_310 rfl (lv_at hl 0 rfl) ?_
  refine lv_iconst (v := 3) hx hb dL_law_311 (by decide) ?_
  refine lv_iadd hx hb dL_law_312 ?_
  refine va_sld hx hb hX hbl hbA hS (hin 3 (by decide)) dL_law_313 ?_
  rw [e3]
  refine lv_aload_n hx hb dL_law_314 rfl (lv_at hl 3 rfl) ?_
  refine lv_iload_n hx hb dL_law_315 rfl (lv_at hl 0 rfl) ?_
  refine lv_iconst (v := 4) hx hb dL_law_316 (by decide) ?_
  refine lv_iadd hx hb dL_law_317 ?_
  refine va_sld hx hb hX hbl hbA hS (hin 4 (by decide)) dL_law_318 ?_
  rw [e4]
  have hq_7 : va_P D vwCl [((z 14), .inl (cI, 52, .inl N)), ((z 13), .inr (6, [.ref (z 14), .double w0, .double w1, .double w2, .double w3, .double w4, .double w5, .double w6, .double w7, .double w8, .double w9, .int ct, .int cp, .int cr, .int ctr, .int cfs, .int (nI k), .ref (z 15), .int (nI k2), .ref (z 16), .ref (z 17), .double w10]))] H1 := fr_cons (va_at.kept (hP.c14) (hkh1 _ (va_at_lt (hP.c14)) (hz.ne 14 (9 + q) (by decide) (by omega) (by omega)))) (fr_cons (va_at.kept (hP.c13) (hkh1 _ (va_at_lt (hP.c13)) (hz.ne 13 (9 + q) (by decide) (by omega) (by omega)))) (fr_nil))
  refine va_calli (va_runV (As := [.int v1, .int v2, .int v3, .int v4]) (rest := [.int r1]) ⟨hx, hb, hml, hown, hts⟩ (mX7_spring l D cI cH (z 13) (z 14) (z 15) (z 16) (z 17) k k2 q N ct cp cr ctr cfs w0 w1 w2 w3 w4 w5 w6 w7 w8 w9 w10 v1 v2 v3 v4 hq (hz.ne 13 14 (by decide) (by decide) (by decide)) hq7) (cwV 4 hts gL_law_X7_spring rfl rfl rfl (by decide +kernel) ⟨Nat.le_of_ble_eq_true rfl, Nat.le_of_ble_eq_true rfl⟩) ⟨kB_blind, va_recv hw.1 hq_7 (ci := 6) (q0 := 1) rfl rfl, kB_go hq_7 hw⟩ rfl rfl hl.1 rfl (lv_room (Nat.le_of_ble_eq_true rfl)) dL_law_319 ⟨hc, hs9⟩) hS (fun q9 _ h9 => h9 ▸ hz.2 14 (by decide)) (fun q9 h9 => h9 ▸ hz.2 14 (by decide)) (fun r2 u2 t2 H2 locs ht2 hvm2 hp2 hB2 hz22 hkh2 hS => ?_)
  have hB2 : va_at D vwCl (z 14, .inl (cI, 52, .inl u2)) t2.heap := hB2
  rw [ht2] at hB2
  obtain ⟨hr1, hu1⟩ := pk hp1
  obtain ⟨hr2, hu2⟩ := pk hp2
  refine lv_icmp_eq (tgt := 828) hx hb dL_law_322 (by decide) (fun _ => ?_) (fun c9 => absurd (hr1.trans hr2.symm) c9)
  by_cases hv : okSpr v1 v2 v3 v4 = true
  · rw [if_pos hv] at hu1 hu2
    subst hu1
    subst hu2
    have hv9 := hv
    unfold okSpr okP at hv9
    simp only [Bool.and_eq_true] at hv9
    obtain ⟨g0, ⟨g1, g2⟩, g3⟩ := hv9
    exact kk H2 locs ⟨(spN N q v2 v3 v4), ft, f1, f2, k, k2, ct, cp, cr, ctr, cfs, _, _, hok.set sp_only (sp_N (hhg q hq) (okC_c g1) (okC_c g2) (isW_i g3)), ⟨_, _, _, _, _, _, _, _, _, _, _, _, _, _, rfl⟩, ⟨_, _, _, _, _, _, _, _, _, _, _, rfl⟩, fin_hg hz hq sp_only hP hkh1 hkh2 (by rw [sp_L]; exact hB1) hB2⟩ hS
  · rw [if_neg hv] at hu1 hu2
    subst hu1
    subst hu2
    exact kk H2 locs ⟨N, ft, f1, f2, k, k2, ct, cp, cr, ctr, cfs, _, _, hok, ⟨_, _, _, _, _, _, _, _, _, _, _, _, _, _, rfl⟩, ⟨_, _, _, _, _, _, _, _, _, _, _, rfl⟩, fin_hg hz hq only_self hP hkh1 hkh2 hB1 hB2⟩ hS
set_option maxHeartbeats 4000000 in
set_option maxRecDepth 100000 in
theorem br_mirror {p : Program} {l : Launch} {e : Env} {s : State} {m : MethodId} {args : Array Value} {below : List Frame} {meth : Method} {co : Code} {Q : State → Prop} {A : Nat → Prop} {b L : Nat} {xs : Nat → Int32} {x3 : Int32} {H : Heap} {locs : List Loc} {cells slots : Nat} {ls : Array Slot} {D : va_G} {cI cH : ClassId} {z : Nat → Nat} {fh : Nat → Option Nat} (hc : cells ≤ 600000) (hs9 : slots ≤ 7302250) (hx : p.tables.exec = Jvm.exec) (hb : co.code = cL_law) (hml : co.maxLocals = 4) (hown : s.vm.findClass RL = some m.cls) (hts : ∀ w ∈ wsL_law, w.before args s = true) (hw : wk D cI cH s) (hX : va_X b L xs s s.heap) (hbl : b < s.heap.size) (hbA : ¬ A b) (hz : zOk A z) (hfh : ∀ j, j < 4 → fh j = some (z (9 + j))) (hin : ∀ v : Int32, isW v 0 9 = true → vp_in (x3 + v) L) (hS : va_S A s.heap H locs) (hI : inv D cI cH z fh H) (hl : lv_has ls 4 [(3, .int x3), (2, .ref (z 13)), (1, .ref (z 0)), (0, .ref b)]) (kk : ∀ (H : Heap) (locs : List Loc), inv D cI cH z fh H → va_S A s.heap H locs → W p l e room_1 s m args below meth co H locs cells slots Q (F0 m 828 ls [])) : W p l e room_1 s m args below meth co H locs cells slots Q (F0 m 327 ls []) := by
  obtain ⟨N, ft, f1, f2, k, k2, ct, cp, cr, ctr, cfs, us, um, hok, hus, hum, hP⟩ := hI
  obtain ⟨y12, y13, y0, y1, y2, y3, y4, y5, y6, y7, y8, y9, y10, y11, rfl⟩ := hus
  obtain ⟨w0, w1, w2, w3, w4, w5, w6, w7, w8, w9, w10, rfl⟩ := hum
  obtain ⟨hk, hk2, hhg, hft, hrd⟩ := id hok
  obtain ⟨v1, e1⟩ : ∃ y : Int32, xs (x3 + 1).toNatClampNeg = y := ⟨_, rfl⟩
  obtain ⟨v2, e2⟩ : ∃ y : Int32, xs (x3 + 2).toNatClampNeg = y := ⟨_, rfl⟩
  obtain ⟨q, hq, hq6, hq7⟩ := okH_q v1
  obtain ⟨q2, hqr, hr6, hr7⟩ := okH_q v2
  by_cases hqe : q2 = q
  · subst hqe
    refine lv_aload_n hx hb dL_law_327 rfl (lv_at hl 2 rfl) ?_
    refine lv_aload_n hx hb dL_law_328 rfl (lv_at hl 3 rfl) ?_
    refine lv_iload_n hx hb dL_law_329 rfl (lv_at hl 0 rfl) ?_
    refine lv_iconst (v := 1) hx hb dL_law_330 (by decide) ?_
    refine lv_iadd hx hb dL_law_331 ?_
    refine va_sld hx hb hX hbl hbA hS (hin 1 (by decide)) dL_law_332 ?_
    rw [e1]
    refine lv_aload_n hx hb dL_law_333 rfl (lv_at hl 3 rfl) ?_
    refine lv_iload_n hx hb dL_law_334 rfl (lv_at hl 0 rfl) ?_
    refine lv_iconst (v := 2) hx hb dL_law_335 (by decide) ?_
    refine lv_iadd hx hb dL_law_336 ?_
    refine va_sld hx hb hX hbl hbA hS (hin 2 (by decide)) dL_law_337 ?_
    rw [e2]
    have hq_6 : va_P D vwCl [((z (9 + q2)), .inr (1, [.int (N (13 * q2)), .int (N (13 * q2 + 1)), .int (N (13 * q2 + 4)), .int (N (13 * q2 + 2)), .int (N (13 * q2 + 3)), .int (N (13 * q2 + 5)), .int (N (13 * q2 + 6)), .int (N (13 * q2 + 7)), .int (N (13 * q2 + 8)), .int (N (13 * q2 + 9)), .int (N (13 * q2 + 10)), .int (N (13 * q2 + 11)), .int (N (13 * q2 + 12))])), ((z 0), .inr (5, [.ref (z 1), .ref (z 2), .ref (z 3), .ref (z 4), .ref (z 6)])), ((z 1), .inl (cH, 4, .inr (.inr (.inr (.inr fh)))))] H := fr_cons ((hP.hg hqr)) (fr_cons (hP.c0) (fr_cons (hP.c1) (fr_nil)))
    refine va_calli (va_runV (As := [.int v1, .int v2]) (rest := []) ⟨hx, hb, hml, hown, hts⟩ (mX6_mirrorSelf l D cI cH (z 0) (z 1) (z 2) (z 3) (z 4) (z 6) (z (9 + q2)) fh (N (13 * q2)) (N (13 * q2 + 1)) (N (13 * q2 + 4)) (N (13 * q2 + 2)) (N (13 * q2 + 3)) (N (13 * q2 + 5)) (N (13 * q2 + 6)) (N (13 * q2 + 7)) (N (13 * q2 + 8)) (N (13 * q2 + 9)) (N (13 * q2 + 10)) (N (13 * q2 + 11)) (N (13 * q2 + 12)) v1 v2 (hz.ne 0 (9 + q2) (by decide) (by omega) (by omega)) (hz.ne 1 (9 + q2) (by decide) (by omega) (by omega)) (fun h9 => by rw [hr6 h9]; exact hfh q2 hqr) (fun h9 => by rw [hq6 h9]; exact hfh q2 hq)) (cwV 2 hts gL_law_X6_mirror rfl rfl rfl (by decide +kernel) ⟨Nat.le_of_ble_eq_true rfl, Nat.le_of_ble_eq_true rfl⟩) ⟨kB_blind, va_recv hw.1 hq_6 (ci := 5) (q0 := 1) rfl rfl, kB_go hq_6 hw⟩ rfl rfl hl.1 rfl (lv_room (Nat.le_of_ble_eq_true rfl)) dL_law_338 ⟨hc, hs9⟩) hS (fun q9 _ h9 => h9 ▸ hz.2 (9 + q2) (by omega)) (fun q9 h9 => h9 ▸ hz.2 (9 + q2) (by omega)) (fun r1 u1 t1 H1 locs ht1 hvm1 hp1 hB1 hz11 hkh1 hS => ?_)
    have hB1 : va_at D vwCl (z (9 + q2), .inr (1, u1)) t1.heap := hB1
    rw [ht1] at hB1
    refine lv_aload_n hx hb dL_law_341 rfl (lv_at hl 1 rfl) ?_
    refine lv_aload_n hx hb dL_law_342 rfl (lv_at hl 3 rfl) ?_
    refine lv_iload_n hx hb dL_law_343 rfl (lv_at hl 0 rfl) ?_
    refine lv_iconst (v := 1) hx hb dL_law_344 (by decide) ?_
    refine lv_iadd hx hb dL_law_345 ?_
    refine va_sld hx hb hX hbl hbA hS (hin 1 (by decide)) dL_law_346 ?_
    rw [e1]
    refine lv_aload_n hx hb dL_law_347 rfl (lv_at hl 3 rfl) ?_
    refine lv_iload_n hx hb dL_law_348 rfl (lv_at hl 0 rfl) ?_
    refine lv_iconst (v := 2) hx hb dL_law_349 (by decide) ?_
    refine lv_iadd hx hb dL_law_350 ?_
    refine va_sld hx hb hX hbl hbA hS (hin 2 (by decide)) dL_law_351 ?_
    rw [e2]
    have hq_7 : va_P D vwCl [((z 14), .inl (cI, 52, .inl N)), ((z 13), .inr (6, [.ref (z 14), .double w0, .double w1, .double w2, .double w3, .double w4, .double w5, .double w6, .double w7, .double w8, .double w9, .int ct, .int cp, .int cr, .int ctr, .int cfs, .int (nI k), .ref (z 15), .int (nI k2), .ref (z 16), .ref (z 17), .double w10]))] H1 := fr_cons (va_at.kept (hP.c14) (hkh1 _ (va_at_lt (hP.c14)) (hz.ne 14 (9 + q2) (by decide) (by omega) (by omega)))) (fr_cons (va_at.kept (hP.c13) (hkh1 _ (va_at_lt (hP.c13)) (hz.ne 13 (9 + q2) (by decide) (by omega) (by omega)))) (fr_nil))
    refine va_calli (va_runV (As := [.int v1, .int v2]) (rest := [.int r1]) ⟨hx, hb, hml, hown, hts⟩ (mX7_mirror l D cI cH (z 13) (z 14) (z 15) (z 16) (z 17) k k2 q2 N ct cp cr ctr cfs w0 w1 w2 w3 w4 w5 w6 w7 w8 w9 w10 q2 v1 v2 hq (hz.ne 13 14 (by decide) (by decide) (by decide)) hqr hq7 hr7) (cwV 2 hts gL_law_X7_mirror rfl rfl rfl (by decide +kernel) ⟨Nat.le_of_ble_eq_true rfl, Nat.le_of_ble_eq_true rfl⟩) ⟨kB_blind, va_recv hw.1 hq_7 (ci := 6) (q0 := 1) rfl rfl, kB_go hq_7 hw⟩ rfl rfl hl.1 rfl (lv_room (Nat.le_of_ble_eq_true rfl)) dL_law_352 ⟨hc, hs9⟩) hS (fun q9 _ h9 => h9 ▸ hz.2 14 (by decide)) (fun q9 h9 => h9 ▸ hz.2 14 (by decide)) (fun r2 u2 t2 H2 locs ht2 hvm2 hp2 hB2 hz22 hkh2 hS => ?_)
    have hB2 : va_at D vwCl (z 14, .inl (cI, 52, .inl u2)) t2.heap := hB2
    rw [ht2] at hB2
    obtain ⟨hr1, hu1⟩ := pk hp1
    obtain ⟨hr2, hu2⟩ := pk hp2
    refine lv_icmp_eq (tgt := 828) hx hb dL_law_355 (by decide) (fun _ => ?_) (fun c9 => absurd (hr1.trans hr2.symm) c9)
    by_cases hv : (okH v1 && okH v2) = true
    · rw [if_pos hv] at hu1 hu2
      subst hu1
      subst hu2
      exact kk H2 locs ⟨(mirF N q2 q2 13), ft, f1, f2, k, k2, ct, cp, cr, ctr, cfs, _, _, hok.set (mi_only hq hq) (mi_N hq hq (hhg q2 hq)), ⟨_, _, _, _, _, _, _, _, _, _, _, _, _, _, rfl⟩, ⟨_, _, _, _, _, _, _, _, _, _, _, rfl⟩, fin_hg hz hq (mi_only hq hq) hP hkh1 hkh2 (by rw [mi_L hq hq]; exact hB1) hB2⟩ hS
    · rw [if_neg hv] at hu1 hu2
      subst hu1
      subst hu2
      exact kk H2 locs ⟨N, ft, f1, f2, k, k2, ct, cp, cr, ctr, cfs, _, _, hok, ⟨_, _, _, _, _, _, _, _, _, _, _, _, _, _, rfl⟩, ⟨_, _, _, _, _, _, _, _, _, _, _, rfl⟩, fin_hg hz hq only_self hP hkh1 hkh2 hB1 hB2⟩ hS
  · skip
    refine lv_aload_n hx hb dL_law_327 rfl (lv_at hl 2 rfl) ?_
    refine lv_aload_n hx hb dL_law_328 rfl (lv_at hl 3 rfl) ?_
    refine lv_iload_n hx hb dL_law_329 rfl (lv_at hl 0 rfl) ?_
    refine lv_iconst (v := 1) hx hb dL_law_330 (by decide) ?_
    refine lv_iadd hx hb dL_law_331 ?_
    refine va_sld hx hb hX hbl hbA hS (hin 1 (by decide)) dL_law_332 ?_
    rw [e1]
    refine lv_aload_n hx hb dL_law_333 rfl (lv_at hl 3 rfl) ?_
    refine lv_iload_n hx hb dL_law_334 rfl (lv_at hl 0 rfl) ?_
    refine lv_iconst (v := 2) hx hb dL_law_335 (by decide) ?_
    refine lv_iadd hx hb dL_law_336 ?_
    refine va_sld hx hb hX hbl hbA hS (hin 2 (by decide)) dL_law_337 ?_
    rw [e2]
    have hq_6 : va_P D vwCl [((z (9 + q2)), .inr (1, [.int (N (13 * q2)), .int (N (13 * q2 + 1)), .int (N (13 * q2 + 4)), .int (N (13 * q2 + 2)), .int (N (13 * q2 + 3)), .int (N (13 * q2 + 5)), .int (N (13 * q2 + 6)), .int (N (13 * q2 + 7)), .int (N (13 * q2 + 8)), .int (N (13 * q2 + 9)), .int (N (13 * q2 + 10)), .int (N (13 * q2 + 11)), .int (N (13 * q2 + 12))])), ((z 0), .inr (5, [.ref (z 1), .ref (z 2), .ref (z 3), .ref (z 4), .ref (z 6)])), ((z 1), .inl (cH, 4, .inr (.inr (.inr (.inr fh))))), ((z (9 + q)), .inr (1, [.int (N (13 * q)), .int (N (13 * q + 1)), .int (N (13 * q + 4)), .int (N (13 * q + 2)), .int (N (13 * q + 3)), .int (N (13 * q + 5)), .int (N (13 * q + 6)), .int (N (13 * q + 7)), .int (N (13 * q + 8)), .int (N (13 * q + 9)), .int (N (13 * q + 10)), .int (N (13 * q + 11)), .int (N (13 * q + 12))]))] H := fr_cons ((hP.hg hqr)) (fr_cons (hP.c0) (fr_cons (hP.c1) (fr_cons ((hP.hg hq)) (fr_nil))))
    refine va_calli (va_runV (As := [.int v1, .int v2]) (rest := []) ⟨hx, hb, hml, hown, hts⟩ (mX6_mirror l D cI cH (z 0) (z 1) (z 2) (z 3) (z 4) (z 6) (z (9 + q2)) (z (9 + q)) fh (N (13 * q)) (N (13 * q + 1)) (N (13 * q + 4)) (N (13 * q + 2)) (N (13 * q + 3)) (N (13 * q + 5)) (N (13 * q + 6)) (N (13 * q + 7)) (N (13 * q + 8)) (N (13 * q + 9)) (N (13 * q + 10)) (N (13 * q + 11)) (N (13 * q + 12)) (N (13 * q2)) (N (13 * q2 + 1)) (N (13 * q2 + 4)) (N (13 * q2 + 2)) (N (13 * q2 + 3)) (N (13 * q2 + 5)) (N (13 * q2 + 6)) (N (13 * q2 + 7)) (N (13 * q2 + 8)) (N (13 * q2 + 9)) (N (13 * q2 + 10)) (N (13 * q2 + 11)) (N (13 * q2 + 12)) v1 v2 (hz.ne 0 (9 + q2) (by decide) (by omega) (by omega)) (hz.ne 1 (9 + q2) (by decide) (by omega) (by omega)) (hz.ne (9 + q) (9 + q2) (by omega) (by omega) (by omega)) (fun h9 => by rw [hr6 h9]; exact hfh q2 hqr) (fun h9 => by rw [hq6 h9]; exact hfh q hq)) (cwV 2 hts gL_law_X6_mirror rfl rfl rfl (by decide +kernel) ⟨Nat.le_of_ble_eq_true rfl, Nat.le_of_ble_eq_true rfl⟩) ⟨kB_blind, va_recv hw.1 hq_6 (ci := 5) (q0 := 1) rfl rfl, kB_go hq_6 hw⟩ rfl rfl hl.1 rfl (lv_room (Nat.le_of_ble_eq_true rfl)) dL_law_338 ⟨hc, hs9⟩) hS (fun q9 _ h9 => h9 ▸ hz.2 (9 + q2) (by omega)) (fun q9 h9 => h9 ▸ hz.2 (9 + q2) (by omega)) (fun r1 u1 t1 H1 locs ht1 hvm1 hp1 hB1 hz11 hkh1 hS => ?_)
    have hB1 : va_at D vwCl (z (9 + q2), .inr (1, u1)) t1.heap := hB1
    rw [ht1] at hB1
    refine lv_aload_n hx hb dL_law_341 rfl (lv_at hl 1 rfl) ?_
    refine lv_aload_n hx hb dL_law_342 rfl (lv_at hl 3 rfl) ?_
    refine lv_iload_n hx hb dL_law_343 rfl (lv_at hl 0 rfl) ?_
    refine lv_iconst (v := 1) hx hb dL_law_344 (by decide) ?_
    refine lv_iadd hx hb dL_law_345 ?_
    refine va_sld hx hb hX hbl hbA hS (hin 1 (by decide)) dL_law_346 ?_
    rw [e1]
    refine lv_aload_n hx hb dL_law_347 rfl (lv_at hl 3 rfl) ?_
    refine lv_iload_n hx hb dL_law_348 rfl (lv_at hl 0 rfl) ?_
    refine lv_iconst (v := 2) hx hb dL_law_349 (by decide) ?_
    refine lv_iadd hx hb dL_law_350 ?_
    refine va_sld hx hb hX hbl hbA hS (hin 2 (by decide)) dL_law_351 ?_
    rw [e2]
    have hq_7 : va_P D vwCl [((z 14), .inl (cI, 52, .inl N)), ((z 13), .inr (6, [.ref (z 14), .double w0, .double w1, .double w2, .double w3, .double w4, .double w5, .double w6, .double w7, .double w8, .double w9, .int ct, .int cp, .int cr, .int ctr, .int cfs, .int (nI k), .ref (z 15), .int (nI k2), .ref (z 16), .ref (z 17), .double w10]))] H1 := fr_cons (va_at.kept (hP.c14) (hkh1 _ (va_at_lt (hP.c14)) (hz.ne 14 (9 + q2) (by decide) (by omega) (by omega)))) (fr_cons (va_at.kept (hP.c13) (hkh1 _ (va_at_lt (hP.c13)) (hz.ne 13 (9 + q2) (by decide) (by omega) (by omega)))) (fr_nil))
    refine va_calli (va_runV (As := [.int v1, .int v2]) (rest := [.int r1]) ⟨hx, hb, hml, hown, hts⟩ (mX7_mirror l D cI cH (z 13) (z 14) (z 15) (z 16) (z 17) k k2 q N ct cp cr ctr cfs w0 w1 w2 w3 w4 w5 w6 w7 w8 w9 w10 q2 v1 v2 hq (hz.ne 13 14 (by decide) (by decide) (by decide)) hqr hq7 hr7) (cwV 2 hts gL_law_X7_mirror rfl rfl rfl (by decide +kernel) ⟨Nat.le_of_ble_eq_true rfl, Nat.le_of_ble_eq_true rfl⟩) ⟨kB_blind, va_recv hw.1 hq_7 (ci := 6) (q0 := 1) rfl rfl, kB_go hq_7 hw⟩ rfl rfl hl.1 rfl (lv_room (Nat.le_of_ble_eq_true rfl)) dL_law_352 ⟨hc, hs9⟩) hS (fun q9 _ h9 => h9 ▸ hz.2 14 (by decide)) (fun q9 h9 => h9 ▸ hz.2 14 (by decide)) (fun r2 u2 t2 H2 locs ht2 hvm2 hp2 hB2 hz22 hkh2 hS => ?_)
    have hB2 : va_at D vwCl (z 14, .inl (cI, 52, .inl u2)) t2.heap := hB2
    rw [ht2] at hB2
    obtain ⟨hr1, hu1⟩ := pk hp1
    obtain ⟨hr2, hu2⟩ := pk hp2
    refine lv_icmp_eq (tgt := 828) hx hb dL_law_355 (by decide) (fun _ => ?_) (fun c9 => absurd (hr1.trans hr2.symm) c9)
    by_cases hv : (okH v1 && okH v2) = true
    · rw [if_pos hv] at hu1 hu2
      subst hu1
      subst hu2
      exact kk H2 locs ⟨(mirF N q q2 13), ft, f1, f2, k, k2, ct, cp, cr, ctr, cfs, _, _, hok.set (mi_only hq hqr) (mi_N hq hqr (hhg q hq)), ⟨_, _, _, _, _, _, _, _, _, _, _, _, _, _, rfl⟩, ⟨_, _, _, _, _, _, _, _, _, _, _, rfl⟩, fin_hg hz hqr (mi_only hq hqr) hP hkh1 hkh2 (by rw [mi_L hq hqr]; exact hB1) hB2⟩ hS
    · rw [if_neg hv] at hu1 hu2
      subst hu1
      subst hu2
      exact kk H2 locs ⟨N, ft, f1, f2, k, k2, ct, cp, cr, ctr, cfs, _, _, hok, ⟨_, _, _, _, _, _, _, _, _, _, _, _, _, _, rfl⟩, ⟨_, _, _, _, _, _, _, _, _, _, _, rfl⟩, fin_hg hz hqr only_self hP hkh1 hkh2 hB1 hB2⟩ hS
set_option maxHeartbeats 4000000 in
set_option maxRecDepth 100000 in
theorem br_pose {p : Program} {l : Launch} {e : Env} {s : State} {m : MethodId} {args : Array Value} {below : List Frame} {meth : Method} {co : Code} {Q : State → Prop} {A : Nat → Prop} {b L : Nat} {xs : Nat → Int32} {x3 : Int32} {H : Heap} {locs : List Loc} {cells slots : Nat} {ls : Array Slot} {D : va_G} {cI cH : ClassId} {z : Nat → Nat} {fh : Nat → Option Nat} (hc : cells ≤ 600000) (hs9 : slots ≤ 7302250) (hx : p.tables.exec = Jvm.exec) (hb : co.code = cL_law) (hml : co.maxLocals = 4) (hown : s.vm.findClass RL = some m.cls) (hts : ∀ w ∈ wsL_law, w.before args s = true) (hw : wk D cI cH s) (hX : va_X b L xs s s.heap) (hbl : b < s.heap.size) (hbA : ¬ A b) (hz : zOk A z) (hfh : ∀ j, j < 4 → fh j = some (z (9 + j))) (hin : ∀ v : Int32, isW v 0 9 = true → vp_in (x3 + v) L) (hS : va_S A s.heap H locs) (hI : inv D cI cH z fh H) (hl : lv_has ls 4 [(3, .int x3), (2, .ref (z 13)), (1, .ref (z 0)), (0, .ref b)]) (kk : ∀ (H : Heap) (locs : List Loc), inv D cI cH z fh H → va_S A s.heap H locs → W p l e room_1 s m args below meth co H locs cells slots Q (F0 m 828 ls [])) : W p l e room_1 s m args below meth co H locs cells slots Q (F0 m 360 ls []) := by
  obtain ⟨N, ft, f1, f2, k, k2, ct, cp, cr, ctr, cfs, us, um, hok, hus, hum, hP⟩ := hI
  obtain ⟨y12, y13, y0, y1, y2, y3, y4, y5, y6, y7, y8, y9, y10, y11, rfl⟩ := hus
  obtain ⟨w0, w1, w2, w3, w4, w5, w6, w7, w8, w9, w10, rfl⟩ := hum
  obtain ⟨hk, hk2, hhg, hft, hrd⟩ := id hok
  obtain ⟨v1, e1⟩ : ∃ y : Int32, xs (x3 + 1).toNatClampNeg = y := ⟨_, rfl⟩
  obtain ⟨v2, e2⟩ : ∃ y : Int32, xs (x3 + 2).toNatClampNeg = y := ⟨_, rfl⟩
  obtain ⟨v3, e3⟩ : ∃ y : Int32, xs (x3 + 3).toNatClampNeg = y := ⟨_, rfl⟩
  obtain ⟨q, hq, hq6, hq7⟩ := okH_q v1
  refine lv_aload_n hx hb dL_law_360 rfl (lv_at hl 2 rfl) ?_
  refine lv_aload_n hx hb dL_law_361 rfl (lv_at hl 3 rfl) ?_
  refine lv_iload_n hx hb dL_law_362 rfl (lv_at hl 0 rfl) ?_
  refine lv_iconst (v := 1) hx hb dL_law_363 (by decide) ?_
  refine lv_iadd hx hb dL_law_364 ?_
  refine va_sld hx hb hX hbl hbA hS (hin 1 (by decide)) dL_law_365 ?_
  rw [e1]
  refine lv_aload_n hx hb dL_law_366 rfl (lv_at hl 3 rfl) ?_
  refine lv_iload_n hx hb dL_law_367 rfl (lv_at hl 0 rfl) ?_
  refine lv_iconst (v := 2) hx hb dL_law_368 (by decide) ?_
  refine lv_iadd hx hb dL_law_369 ?_
  refine va_sld hx hb hX hbl hbA hS (hin 2 (by decide)) dL_law_370 ?_
  rw [e2]
  refine lv_aload_n hx hb dL_law_371 rfl (lv_at hl 3 rfl) ?_
  refine lv_iload_n hx hb dL_law_372 rfl (lv_at hl 0 rfl) ?_
  refine lv_iconst (v := 3) hx hb dL_law_373 (by decide) ?_
  refine lv_iadd hx hb dL_law_374 ?_
  refine va_sld hx hb hX hbl hbA hS (hin 3 (by decide)) dL_law_375 ?_
  rw [e3]
  have hq_6 : va_P D vwCl [((z 2), .inr (4, [.int y12, .int y13, .double y0, .double y1, .double y2, .double y3, .double y4, .double y5, .double y6, .double y7, .double y8, .double y9, .double y10, .double y11])), ((z 0), .inr (5, [.ref (z 1), .ref (z 2), .ref (z 3), .ref (z 4), .ref (z 6)])), ((z 1), .inl (cH, 4, .inr (.inr (.inr (.inr fh))))), ((z (9 + q)), .inr (1, [.int (N (13 * q)), .int (N (13 * q + 1)), .int (N (13 * q + 4)), .int (N (13 * q + 2)), .int (N (13 * q + 3)), .int (N (13 * q + 5)), .int (N (13 * q + 6)), .int (N (13 * q + 7)), .int (N (13 * q + 8)), .int (N (13 * q + 9)), .int (N (13 * q + 10)), .int (N (13 * q + 11)), .int (N (13 * q + 12))]))] H := fr_cons (hP.c2) (fr_cons (hP.c0) (fr_cons (hP.c1) (fr_cons ((hP.hg hq)) (fr_nil))))
  refine va_calll (va_runV (As := [.int v1, .int v2, .int v3]) (rest := []) ⟨hx, hb, hml, hown, hts⟩ (mX6_pose l D cI cH (z 0) (z 1) (z 2) (z 3) (z 4) (z 6) (z (9 + q)) fh y12 y13 y0 y1 y2 y3 y4 y5 y6 y7 y8 y9 y10 y11 (N (13 * q)) (N (13 * q + 1)) (N (13 * q + 4)) (N (13 * q + 2)) (N (13 * q + 3)) (N (13 * q + 5)) (N (13 * q + 6)) (N (13 * q + 7)) (N (13 * q + 8)) (N (13 * q + 9)) (N (13 * q + 10)) (N (13 * q + 11)) (N (13 * q + 12)) v1 v2 v3 (hz.ne 0 2 (by decide) (by decide) (by decide)) (hz.ne 1 2 (by decide) (by decide) (by decide)) (hz.ne (9 + q) 2 (by omega) (by decide) (by omega)) (hhg q hq) (fun h9 => by rw [hq6 h9]; exact hfh q hq)) (cwV 3 hts gL_law_X6_pose rfl rfl rfl (by decide +kernel) ⟨Nat.le_of_ble_eq_true rfl, Nat.le_of_ble_eq_true rfl⟩) ⟨kB_blind, va_recv hw.1 hq_6 (ci := 5) (q0 := 1) rfl rfl, kB_go hq_6 hw⟩ rfl rfl hl.1 rfl (lv_room (Nat.le_of_ble_eq_true rfl)) dL_law_376 ⟨hc, hs9⟩) hS (fun q9 _ h9 => h9 ▸ hz.2 2 (by decide)) (fun q9 h9 => h9 ▸ hz.2 2 (by decide)) (fun r1 u1 t1 H1 locs ht1 hvm1 hp1 hB1 hz11 hkh1 hS => ?_)
  have hB1 : va_at D vwCl (z 2, .inr (4, u1)) t1.heap := hB1
  rw [ht1] at hB1
  refine lv_aload_n hx hb dL_law_379 rfl (lv_at hl 1 rfl) ?_
  refine lv_aload_n hx hb dL_law_380 rfl (lv_at hl 3 rfl) ?_
  refine lv_iload_n hx hb dL_law_381 rfl (lv_at hl 0 rfl) ?_
  refine lv_iconst (v := 1) hx hb dL_law_382 (by decide) ?_
  refine lv_iadd hx hb dL_law_383 ?_
  refine va_sld hx hb hX hbl hbA hS (hin 1 (by decide)) dL_law_384 ?_
  rw [e1]
  refine lv_aload_n hx hb dL_law_385 rfl (lv_at hl 3 rfl) ?_
  refine lv_iload_n hx hb dL_law_386 rfl (lv_at hl 0 rfl) ?_
  refine lv_iconst (v := 2) hx hb dL_law_387 (by decide) ?_
  refine lv_iadd hx hb dL_law_388 ?_
  refine va_sld hx hb hX hbl hbA hS (hin 2 (by decide)) dL_law_389 ?_
  rw [e2]
  refine lv_aload_n hx hb dL_law_390 rfl (lv_at hl 3 rfl) ?_
  refine lv_iload_n hx hb dL_law_391 rfl (lv_at hl 0 rfl) ?_
  refine lv_iconst (v := 3) hx hb dL_law_392 (by decide) ?_
  refine lv_iadd hx hb dL_law_393 ?_
  refine va_sld hx hb hX hbl hbA hS (hin 3 (by decide)) dL_law_394 ?_
  rw [e3]
  have hq_7 : va_P D vwCl [((z 13), .inr (6, [.ref (z 14), .double w0, .double w1, .double w2, .double w3, .double w4, .double w5, .double w6, .double w7, .double w8, .double w9, .int ct, .int cp, .int cr, .int ctr, .int cfs, .int (nI k), .ref (z 15), .int (nI k2), .ref (z 16), .ref (z 17), .double w10])), ((z 14), .inl (cI, 52, .inl N))] H1 := fr_cons (va_at.kept (hP.c13) (hkh1 _ (va_at_lt (hP.c13)) (hz.ne 13 2 (by decide) (by decide) (by decide)))) (fr_cons (va_at.kept (hP.c14) (hkh1 _ (va_at_lt (hP.c14)) (hz.ne 14 2 (by decide) (by decide) (by decide)))) (fr_nil))
  refine va_calll (va_runV (As := [.int v1, .int v2, .int v3]) (rest := [.long r1]) ⟨hx, hb, hml, hown, hts⟩ (mX7_pose l D cI cH (z 13) (z 14) (z 15) (z 16) (z 17) k k2 q N ct cp cr ctr cfs w0 w1 w2 w3 w4 w5 w6 w7 w8 w9 w10 (N (13 * q)) (N (13 * q + 1)) (N (13 * q + 2)) (N (13 * q + 3)) (N (13 * q + 4)) (N (13 * q + 5)) (N (13 * q + 6)) (N (13 * q + 7)) (N (13 * q + 8)) (N (13 * q + 9)) (N (13 * q + 10)) (N (13 * q + 11)) (N (13 * q + 12)) v1 v2 v3 hq (hz.ne 14 13 (by decide) (by decide) (by decide)) ⟨rfl, rfl, rfl, rfl, rfl, rfl, rfl, rfl, rfl, rfl, rfl, rfl, rfl⟩ (hhg q hq) hq7) (cwV 3 hts gL_law_X7_pose rfl rfl rfl (by decide +kernel) ⟨Nat.le_of_ble_eq_true rfl, Nat.le_of_ble_eq_true rfl⟩) ⟨kB_blind, va_recv hw.1 hq_7 (ci := 6) (q0 := 0) rfl rfl, kB_go hq_7 hw⟩ rfl rfl hl.1 rfl (lv_room (Nat.le_of_ble_eq_true rfl)) dL_law_395 ⟨hc, hs9⟩) hS (fun q9 _ h9 => h9 ▸ hz.2 13 (by decide)) (fun q9 h9 => h9 ▸ hz.2 13 (by decide)) (fun r2 u2 t2 H2 locs ht2 hvm2 hp2 hB2 hz22 hkh2 hS => ?_)
  have hB2 : va_at D vwCl (z 13, .inr (6, u2)) t2.heap := hB2
  rw [ht2] at hB2
  obtain ⟨hr1, hu1⟩ := hp1
  obtain ⟨hr2, hu2⟩ := hp2
  refine W.lcmp hx hb dL_law_398 ?_
  refine lv_if_eq (tgt := 828) hx hb dL_law_399 (by decide) (fun _ => ?_) (fun c9 => absurd ((lg_cmp_eq r1 r2).mpr (hr1.trans hr2.symm)) c9)
  exact kk H2 locs ⟨N, ft, f1, f2, k, k2, ct, cp, cr, ctr, cfs, _, _, hok, hu1, hu2, fin_st hz hP hkh1 hkh2 hB1 hB2⟩ hS
set_option maxHeartbeats 4000000 in
set_option maxRecDepth 100000 in
theorem br_lock {p : Program} {l : Launch} {e : Env} {s : State} {m : MethodId} {args : Array Value} {below : List Frame} {meth : Method} {co : Code} {Q : State → Prop} {A : Nat → Prop} {b L : Nat} {xs : Nat → Int32} {x3 : Int32} {H : Heap} {locs : List Loc} {cells slots : Nat} {ls : Array Slot} {D : va_G} {cI cH : ClassId} {z : Nat → Nat} {fh : Nat → Option Nat} (hc : cells ≤ 600000) (hs9 : slots ≤ 7302250) (hx : p.tables.exec = Jvm.exec) (hb : co.code = cL_law) (hml : co.maxLocals = 4) (hown : s.vm.findClass RL = some m.cls) (hts : ∀ w ∈ wsL_law, w.before args s = true) (hw : wk D cI cH s) (hX : va_X b L xs s s.heap) (hbl : b < s.heap.size) (hbA : ¬ A b) (hz : zOk A z) (hfh : ∀ j, j < 4 → fh j = some (z (9 + j))) (hin : ∀ v : Int32, isW v 0 9 = true → vp_in (x3 + v) L) (hS : va_S A s.heap H locs) (hI : inv D cI cH z fh H) (hl : lv_has ls 4 [(3, .int x3), (2, .ref (z 13)), (1, .ref (z 0)), (0, .ref b)]) (kk : ∀ (H : Heap) (locs : List Loc), inv D cI cH z fh H → va_S A s.heap H locs → W p l e room_1 s m args below meth co H locs cells slots Q (F0 m 828 ls [])) : W p l e room_1 s m args below meth co H locs cells slots Q (F0 m 404 ls []) := by
  obtain ⟨N, ft, f1, f2, k, k2, ct, cp, cr, ctr, cfs, us, um, hok, hus, hum, hP⟩ := hI
  obtain ⟨y12, y13, y0, y1, y2, y3, y4, y5, y6, y7, y8, y9, y10, y11, rfl⟩ := hus
  obtain ⟨w0, w1, w2, w3, w4, w5, w6, w7, w8, w9, w10, rfl⟩ := hum
  obtain ⟨hk, hk2, hhg, hft, hrd⟩ := id hok
  obtain ⟨v1, e1⟩ : ∃ y : Int32, xs (x3 + 1).toNatClampNeg = y := ⟨_, rfl⟩
  obtain ⟨v2, e2⟩ : ∃ y : Int32, xs (x3 + 2).toNatClampNeg = y := ⟨_, rfl⟩
  obtain ⟨v3, e3⟩ : ∃ y : Int32, xs (x3 + 3).toNatClampNeg = y := ⟨_, rfl⟩
  obtain ⟨q, hq, hq6, hq7⟩ := okH_q v1
  refine lv_aload_n hx hb dL_law_404 rfl (lv_at hl 2 rfl) ?_
  refine lv_aload_n hx hb dL_law_405 rfl (lv_at hl 3 rfl) ?_
  refine lv_iload_n hx hb dL_law_406 rfl (lv_at hl 0 rfl) ?_
  refine lv_iconst (v := 1) hx hb dL_law_407 (by decide) ?_
  refine lv_iadd hx hb dL_law_408 ?_
  refine va_sld hx hb hX hbl hbA hS (hin 1 (by decide)) dL_law_409 ?_
  rw [e1]
  refine lv_aload_n hx hb dL_law_410 rfl (lv_at hl 3 rfl) ?_
  refine lv_iload_n hx hb dL_law_411 rfl (lv_at hl 0 rfl) ?_
  refine lv_iconst (v := 2) hx hb dL_law_412 (by decide) ?_
  refine lv_iadd hx hb dL_law_413 ?_
  refine va_sld hx hb hX hbl hbA hS (hin 2 (by decide)) dL_law_414 ?_
  rw [e2]
  refine lv_aload_n hx hb dL_law_415 rfl (lv_at hl 3 rfl) ?_
  refine lv_iload_n hx hb dL_law_416 rfl (lv_at hl 0 rfl) ?_
  refine lv_iconst (v := 3) hx hb dL_law_417 (by decide) ?_
  refine lv_iadd hx hb dL_law_418 ?_
  refine va_sld hx hb hX hbl hbA hS (hin 3 (by decide)) dL_law_419 ?_
  rw [e3]
  have hq_6 : va_P D vwCl [((z 2), .inr (4, [.int y12, .int y13, .double y0, .double y1, .double y2, .double y3, .double y4, .double y5, .double y6, .double y7, .double y8, .double y9, .double y10, .double y11])), ((z 0), .inr (5, [.ref (z 1), .ref (z 2), .ref (z 3), .ref (z 4), .ref (z 6)])), ((z 1), .inl (cH, 4, .inr (.inr (.inr (.inr fh))))), ((z (9 + q)), .inr (1, [.int (N (13 * q)), .int (N (13 * q + 1)), .int (N (13 * q + 4)), .int (N (13 * q + 2)), .int (N (13 * q + 3)), .int (N (13 * q + 5)), .int (N (13 * q + 6)), .int (N (13 * q + 7)), .int (N (13 * q + 8)), .int (N (13 * q + 9)), .int (N (13 * q + 10)), .int (N (13 * q + 11)), .int (N (13 * q + 12))]))] H := fr_cons (hP.c2) (fr_cons (hP.c0) (fr_cons (hP.c1) (fr_cons ((hP.hg hq)) (fr_nil))))
  refine va_calli (va_runV (As := [.int v1, .int v2, .int v3]) (rest := []) ⟨hx, hb, hml, hown, hts⟩ (mX6_lock l D cI cH (z 0) (z 1) (z 2) (z 3) (z 4) (z 6) (z (9 + q)) fh y12 y13 y0 y1 y2 y3 y4 y5 y6 y7 y8 y9 y10 y11 (N (13 * q)) (N (13 * q + 1)) (N (13 * q + 4)) (N (13 * q + 2)) (N (13 * q + 3)) (N (13 * q + 5)) (N (13 * q + 6)) (N (13 * q + 7)) (N (13 * q + 8)) (N (13 * q + 9)) (N (13 * q + 10)) (N (13 * q + 11)) (N (13 * q + 12)) v1 v2 v3 (hz.ne 0 2 (by decide) (by decide) (by decide)) (hz.ne 1 2 (by decide) (by decide) (by decide)) (hz.ne (9 + q) 2 (by omega) (by decide) (by omega)) (hhg q hq) (fun h9 => by rw [hq6 h9]; exact hfh q hq)) (cwV 3 hts gL_law_X6_lock rfl rfl rfl (by decide +kernel) ⟨Nat.le_of_ble_eq_true rfl, Nat.le_of_ble_eq_true rfl⟩) ⟨kB_blind, va_recv hw.1 hq_6 (ci := 5) (q0 := 1) rfl rfl, kB_go hq_6 hw⟩ rfl rfl hl.1 rfl (lv_room (Nat.le_of_ble_eq_true rfl)) dL_law_420 ⟨hc, hs9⟩) hS (fun q9 _ h9 => h9 ▸ hz.2 2 (by decide)) (fun q9 h9 => h9 ▸ hz.2 2 (by decide)) (fun r1 u1 t1 H1 locs ht1 hvm1 hp1 hB1 hz11 hkh1 hS => ?_)
  have hB1 : va_at D vwCl (z 2, .inr (4, u1)) t1.heap := hB1
  rw [ht1] at hB1
  refine lv_aload_n hx hb dL_law_423 rfl (lv_at hl 1 rfl) ?_
  refine lv_aload_n hx hb dL_law_424 rfl (lv_at hl 3 rfl) ?_
  refine lv_iload_n hx hb dL_law_425 rfl (lv_at hl 0 rfl) ?_
  refine lv_iconst (v := 1) hx hb dL_law_426 (by decide) ?_
  refine lv_iadd hx hb dL_law_427 ?_
  refine va_sld hx hb hX hbl hbA hS (hin 1 (by decide)) dL_law_428 ?_
  rw [e1]
  refine lv_aload_n hx hb dL_law_429 rfl (lv_at hl 3 rfl) ?_
  refine lv_iload_n hx hb dL_law_430 rfl (lv_at hl 0 rfl) ?_
  refine lv_iconst (v := 2) hx hb dL_law_431 (by decide) ?_
  refine lv_iadd hx hb dL_law_432 ?_
  refine va_sld hx hb hX hbl hbA hS (hin 2 (by decide)) dL_law_433 ?_
  rw [e2]
  refine lv_aload_n hx hb dL_law_434 rfl (lv_at hl 3 rfl) ?_
  refine lv_iload_n hx hb dL_law_435 rfl (lv_at hl 0 rfl) ?_
  refine lv_iconst (v := 3) hx hb dL_law_436 (by decide) ?_
  refine lv_iadd hx hb dL_law_437 ?_
  refine va_sld hx hb hX hbl hbA hS (hin 3 (by decide)) dL_law_438 ?_
  rw [e3]
  have hq_7 : va_P D vwCl [((z 13), .inr (6, [.ref (z 14), .double w0, .double w1, .double w2, .double w3, .double w4, .double w5, .double w6, .double w7, .double w8, .double w9, .int ct, .int cp, .int cr, .int ctr, .int cfs, .int (nI k), .ref (z 15), .int (nI k2), .ref (z 16), .ref (z 17), .double w10])), ((z 14), .inl (cI, 52, .inl N))] H1 := fr_cons (va_at.kept (hP.c13) (hkh1 _ (va_at_lt (hP.c13)) (hz.ne 13 2 (by decide) (by decide) (by decide)))) (fr_cons (va_at.kept (hP.c14) (hkh1 _ (va_at_lt (hP.c14)) (hz.ne 14 2 (by decide) (by decide) (by decide)))) (fr_nil))
  refine va_calli (va_runV (As := [.int v1, .int v2, .int v3]) (rest := [.int r1]) ⟨hx, hb, hml, hown, hts⟩ (mX7_lock l D cI cH (z 13) (z 14) (z 15) (z 16) (z 17) k k2 q N ct cp cr ctr cfs w0 w1 w2 w3 w4 w5 w6 w7 w8 w9 w10 (N (13 * q)) (N (13 * q + 1)) (N (13 * q + 2)) (N (13 * q + 3)) (N (13 * q + 4)) (N (13 * q + 5)) (N (13 * q + 6)) (N (13 * q + 7)) (N (13 * q + 8)) (N (13 * q + 9)) (N (13 * q + 10)) (N (13 * q + 11)) (N (13 * q + 12)) v1 v2 v3 hq (hz.ne 14 13 (by decide) (by decide) (by decide)) ⟨rfl, rfl, rfl, rfl, rfl, rfl, rfl, rfl, rfl, rfl, rfl, rfl, rfl⟩ (hhg q hq) hq7) (cwV 3 hts gL_law_X7_lock rfl rfl rfl (by decide +kernel) ⟨Nat.le_of_ble_eq_true rfl, Nat.le_of_ble_eq_true rfl⟩) ⟨kB_blind, va_recv hw.1 hq_7 (ci := 6) (q0 := 0) rfl rfl, kB_go hq_7 hw⟩ rfl rfl hl.1 rfl (lv_room (Nat.le_of_ble_eq_true rfl)) dL_law_439 ⟨hc, hs9⟩) hS (fun q9 _ h9 => h9 ▸ hz.2 13 (by decide)) (fun q9 h9 => h9 ▸ hz.2 13 (by decide)) (fun r2 u2 t2 H2 locs ht2 hvm2 hp2 hB2 hz22 hkh2 hS => ?_)
  have hB2 : va_at D vwCl (z 13, .inr (6, u2)) t2.heap := hB2
  rw [ht2] at hB2
  obtain ⟨hr1, hu1⟩ := hp1
  obtain ⟨hr2, hu2⟩ := hp2
  refine lv_icmp_eq (tgt := 828) hx hb dL_law_442 (by decide) (fun _ => ?_) (fun c9 => absurd (hr1.trans hr2.symm) c9)
  exact kk H2 locs ⟨N, ft, f1, f2, k, k2, ct, cp, cr, ctr, cfs, _, _, hok, hu1, hu2, fin_st hz hP hkh1 hkh2 hB1 hB2⟩ hS
set_option maxHeartbeats 4000000 in
set_option maxRecDepth 100000 in
theorem br_weight {p : Program} {l : Launch} {e : Env} {s : State} {m : MethodId} {args : Array Value} {below : List Frame} {meth : Method} {co : Code} {Q : State → Prop} {A : Nat → Prop} {b L : Nat} {xs : Nat → Int32} {x3 : Int32} {H : Heap} {locs : List Loc} {cells slots : Nat} {ls : Array Slot} {D : va_G} {cI cH : ClassId} {z : Nat → Nat} {fh : Nat → Option Nat} (hc : cells ≤ 600000) (hs9 : slots ≤ 7302250) (hx : p.tables.exec = Jvm.exec) (hb : co.code = cL_law) (hml : co.maxLocals = 4) (hown : s.vm.findClass RL = some m.cls) (hts : ∀ w ∈ wsL_law, w.before args s = true) (hw : wk D cI cH s) (hX : va_X b L xs s s.heap) (hbl : b < s.heap.size) (hbA : ¬ A b) (hz : zOk A z) (hfh : ∀ j, j < 4 → fh j = some (z (9 + j))) (hin : ∀ v : Int32, isW v 0 9 = true → vp_in (x3 + v) L) (hS : va_S A s.heap H locs) (hI : inv D cI cH z fh H) (hl : lv_has ls 4 [(3, .int x3), (2, .ref (z 13)), (1, .ref (z 0)), (0, .ref b)]) (kk : ∀ (H : Heap) (locs : List Loc), inv D cI cH z fh H → va_S A s.heap H locs → W p l e room_1 s m args below meth co H locs cells slots Q (F0 m 828 ls [])) : W p l e room_1 s m args below meth co H locs cells slots Q (F0 m 447 ls []) := by
  obtain ⟨N, ft, f1, f2, k, k2, ct, cp, cr, ctr, cfs, us, um, hok, hus, hum, hP⟩ := hI
  obtain ⟨y12, y13, y0, y1, y2, y3, y4, y5, y6, y7, y8, y9, y10, y11, rfl⟩ := hus
  obtain ⟨w0, w1, w2, w3, w4, w5, w6, w7, w8, w9, w10, rfl⟩ := hum
  obtain ⟨hk, hk2, hhg, hft, hrd⟩ := id hok
  obtain ⟨v1, e1⟩ : ∃ y : Int32, xs (x3 + 1).toNatClampNeg = y := ⟨_, rfl⟩
  obtain ⟨v2, e2⟩ : ∃ y : Int32, xs (x3 + 2).toNatClampNeg = y := ⟨_, rfl⟩
  obtain ⟨v3, e3⟩ : ∃ y : Int32, xs (x3 + 3).toNatClampNeg = y := ⟨_, rfl⟩
  refine lv_aload_n hx hb dL_law_447 rfl (lv_at hl 2 rfl) ?_
  refine lv_aload_n hx hb dL_law_448 rfl (lv_at hl 3 rfl) ?_
  refine lv_iload_n hx hb dL_law_449 rfl (lv_at hl 0 rfl) ?_
  refine lv_iconst (v := 1) hx hb dL_law_450 (by decide) ?_
  refine lv_iadd hx hb dL_law_451 ?_
  refine va_sld hx hb hX hbl hbA hS (hin 1 (by decide)) dL_law_452 ?_
  rw [e1]
  refine lv_aload_n hx hb dL_law_453 rfl (lv_at hl 3 rfl) ?_
  refine lv_iload_n hx hb dL_law_454 rfl (lv_at hl 0 rfl) ?_
  refine lv_iconst (v := 2) hx hb dL_law_455 (by decide) ?_
  refine lv_iadd hx hb dL_law_456 ?_
  refine va_sld hx hb hX hbl hbA hS (hin 2 (by decide)) dL_law_457 ?_
  rw [e2]
  refine lv_aload_n hx hb dL_law_458 rfl (lv_at hl 3 rfl) ?_
  refine lv_iload_n hx hb dL_law_459 rfl (lv_at hl 0 rfl) ?_
  refine lv_iconst (v := 3) hx hb dL_law_460 (by decide) ?_
  refine lv_iadd hx hb dL_law_461 ?_
  refine va_sld hx hb hX hbl hbA hS (hin 3 (by decide)) dL_law_462 ?_
  rw [e3]
  have hq_6 : va_P D vwCl [((z 3), .inr (0, [.int ct, .int cp, .int cr, .int ctr, .int cfs])), ((z 0), .inr (5, [.ref (z 1), .ref (z 2), .ref (z 3), .ref (z 4), .ref (z 6)]))] H := fr_cons (hP.c3) (fr_cons (hP.c0) (fr_nil))
  refine va_calli (va_runV (As := [.int v1, .int v2, .int v3]) (rest := []) ⟨hx, hb, hml, hown, hts⟩ (mX6_weight l D cI cH (z 0) (z 1) (z 2) (z 3) (z 4) (z 6) ct cp cr ctr cfs v1 v2 v3 (hz.ne 0 3 (by decide) (by decide) (by decide))) (cwV 3 hts gL_law_X6_weight rfl rfl rfl (by decide +kernel) ⟨Nat.le_of_ble_eq_true rfl, Nat.le_of_ble_eq_true rfl⟩) ⟨kB_blind, va_recv hw.1 hq_6 (ci := 5) (q0 := 1) rfl rfl, kB_go hq_6 hw⟩ rfl rfl hl.1 rfl (lv_room (Nat.le_of_ble_eq_true rfl)) dL_law_463 ⟨hc, hs9⟩) hS (fun q9 _ h9 => h9 ▸ hz.2 3 (by decide)) (fun q9 h9 => h9 ▸ hz.2 3 (by decide)) (fun r1 u1 t1 H1 locs ht1 hvm1 hp1 hB1 hz11 hkh1 hS => ?_)
  have hB1 : va_at D vwCl (z 3, .inr (0, u1)) t1.heap := hB1
  rw [ht1] at hB1
  refine lv_aload_n hx hb dL_law_466 rfl (lv_at hl 1 rfl) ?_
  refine lv_aload_n hx hb dL_law_467 rfl (lv_at hl 3 rfl) ?_
  refine lv_iload_n hx hb dL_law_468 rfl (lv_at hl 0 rfl) ?_
  refine lv_iconst (v := 1) hx hb dL_law_469 (by decide) ?_
  refine lv_iadd hx hb dL_law_470 ?_
  refine va_sld hx hb hX hbl hbA hS (hin 1 (by decide)) dL_law_471 ?_
  rw [e1]
  refine lv_aload_n hx hb dL_law_472 rfl (lv_at hl 3 rfl) ?_
  refine lv_iload_n hx hb dL_law_473 rfl (lv_at hl 0 rfl) ?_
  refine lv_iconst (v := 2) hx hb dL_law_474 (by decide) ?_
  refine lv_iadd hx hb dL_law_475 ?_
  refine va_sld hx hb hX hbl hbA hS (hin 2 (by decide)) dL_law_476 ?_
  rw [e2]
  refine lv_aload_n hx hb dL_law_477 rfl (lv_at hl 3 rfl) ?_
  refine lv_iload_n hx hb dL_law_478 rfl (lv_at hl 0 rfl) ?_
  refine lv_iconst (v := 3) hx hb dL_law_479 (by decide) ?_
  refine lv_iadd hx hb dL_law_480 ?_
  refine va_sld hx hb hX hbl hbA hS (hin 3 (by decide)) dL_law_481 ?_
  rw [e3]
  have hq_7 : va_P D vwCl [((z 13), .inr (6, [.ref (z 14), .double w0, .double w1, .double w2, .double w3, .double w4, .double w5, .double w6, .double w7, .double w8, .double w9, .int ct, .int cp, .int cr, .int ctr, .int cfs, .int (nI k), .ref (z 15), .int (nI k2), .ref (z 16), .ref (z 17), .double w10]))] H1 := fr_cons (va_at.kept (hP.c13) (hkh1 _ (va_at_lt (hP.c13)) (hz.ne 13 3 (by decide) (by decide) (by decide)))) (fr_nil)
  refine va_calli (va_runV (As := [.int v1, .int v2, .int v3]) (rest := [.int r1]) ⟨hx, hb, hml, hown, hts⟩ (mX7_weight l D cI cH (z 13) (z 14) (z 15) (z 16) (z 17) k k2 ct cp cr ctr cfs w0 w1 w2 w3 w4 w5 w6 w7 w8 w9 w10 v1 v2 v3) (cwV 3 hts gL_law_X7_weight rfl rfl rfl (by decide +kernel) ⟨Nat.le_of_ble_eq_true rfl, Nat.le_of_ble_eq_true rfl⟩) ⟨kB_blind, va_recv hw.1 hq_7 (ci := 6) (q0 := 0) rfl rfl, kB_go hq_7 hw⟩ rfl rfl hl.1 rfl (lv_room (Nat.le_of_ble_eq_true rfl)) dL_law_482 ⟨hc, hs9⟩) hS (fun q9 _ h9 => h9 ▸ hz.2 13 (by decide)) (fun q9 h9 => h9 ▸ hz.2 13 (by decide)) (fun r2 u2 t2 H2 locs ht2 hvm2 hp2 hB2 hz22 hkh2 hS => ?_)
  have hB2 : va_at D vwCl (z 13, .inr (6, u2)) t2.heap := hB2
  rw [ht2] at hB2
  obtain ⟨hr1, hu1⟩ := pk hp1
  have hp2 : r2 = (if okWt v1 v2 v3 = true then 1 else -2) ∧ (if okWt v1 v2 v3 = true then isM (z 14) (z 15) (z 16) (z 17) k k2 v1 v2 v3 ctr cfs u2 else isM (z 14) (z 15) (z 16) (z 17) k k2 ct cp cr ctr cfs u2) := by
    by_cases hv : okWt v1 v2 v3 = true
    · rw [if_pos hv] at hp2; rw [if_pos hv, if_pos hv]; exact hp2
    · rw [if_neg hv] at hp2; rw [if_neg hv, if_neg hv]; exact hp2
  obtain ⟨hr2, hu2⟩ := hp2
  refine lv_icmp_eq (tgt := 828) hx hb dL_law_485 (by decide) (fun _ => ?_) (fun c9 => absurd (hr1.trans hr2.symm) c9)
  by_cases hv : okWt v1 v2 v3 = true
  · rw [if_pos hv] at hu1 hu2
    rw [hu1] at hB1
    exact kk H2 locs ⟨N, ft, f1, f2, k, k2, v1, v2, v3, ctr, cfs, _, _, hok, ⟨_, _, _, _, _, _, _, _, _, _, _, _, _, _, rfl⟩, hu2, fin_car hz hP hkh1 hkh2 hB1 hB2⟩ hS
  · rw [if_neg hv] at hu1 hu2
    rw [hu1] at hB1
    exact kk H2 locs ⟨N, ft, f1, f2, k, k2, ct, cp, cr, ctr, cfs, _, _, hok, ⟨_, _, _, _, _, _, _, _, _, _, _, _, _, _, rfl⟩, hu2, fin_car hz hP hkh1 hkh2 hB1 hB2⟩ hS
set_option maxHeartbeats 4000000 in
set_option maxRecDepth 100000 in
theorem br_push {p : Program} {l : Launch} {e : Env} {s : State} {m : MethodId} {args : Array Value} {below : List Frame} {meth : Method} {co : Code} {Q : State → Prop} {A : Nat → Prop} {b L : Nat} {xs : Nat → Int32} {x3 : Int32} {H : Heap} {locs : List Loc} {cells slots : Nat} {ls : Array Slot} {D : va_G} {cI cH : ClassId} {z : Nat → Nat} {fh : Nat → Option Nat} (hc : cells ≤ 600000) (hs9 : slots ≤ 7302250) (hx : p.tables.exec = Jvm.exec) (hb : co.code = cL_law) (hml : co.maxLocals = 4) (hown : s.vm.findClass RL = some m.cls) (hts : ∀ w ∈ wsL_law, w.before args s = true) (hw : wk D cI cH s) (hX : va_X b L xs s s.heap) (hbl : b < s.heap.size) (hbA : ¬ A b) (hz : zOk A z) (hfh : ∀ j, j < 4 → fh j = some (z (9 + j))) (hin : ∀ v : Int32, isW v 0 9 = true → vp_in (x3 + v) L) (hS : va_S A s.heap H locs) (hI : inv D cI cH z fh H) (hl : lv_has ls 4 [(3, .int x3), (2, .ref (z 13)), (1, .ref (z 0)), (0, .ref b)]) (kk : ∀ (H : Heap) (locs : List Loc), inv D cI cH z fh H → va_S A s.heap H locs → W p l e room_1 s m args below meth co H locs cells slots Q (F0 m 828 ls [])) : W p l e room_1 s m args below meth co H locs cells slots Q (F0 m 490 ls []) := by
  obtain ⟨N, ft, f1, f2, k, k2, ct, cp, cr, ctr, cfs, us, um, hok, hus, hum, hP⟩ := hI
  obtain ⟨y12, y13, y0, y1, y2, y3, y4, y5, y6, y7, y8, y9, y10, y11, rfl⟩ := hus
  obtain ⟨w0, w1, w2, w3, w4, w5, w6, w7, w8, w9, w10, rfl⟩ := hum
  obtain ⟨hk, hk2, hhg, hft, hrd⟩ := id hok
  obtain ⟨v1, e1⟩ : ∃ y : Int32, xs (x3 + 1).toNatClampNeg = y := ⟨_, rfl⟩
  obtain ⟨v2, e2⟩ : ∃ y : Int32, xs (x3 + 2).toNatClampNeg = y := ⟨_, rfl⟩
  refine lv_aload_n hx hb dL_law_490 rfl (lv_at hl 2 rfl) ?_
  refine lv_aload_n hx hb dL_law_491 rfl (lv_at hl 3 rfl) ?_
  refine lv_iload_n hx hb dL_law_492 rfl (lv_at hl 0 rfl) ?_
  refine lv_iconst (v := 1) hx hb dL_law_493 (by decide) ?_
  refine lv_iadd hx hb dL_law_494 ?_
  refine va_sld hx hb hX hbl hbA hS (hin 1 (by decide)) dL_law_495 ?_
  rw [e1]
  refine lv_aload_n hx hb dL_law_496 rfl (lv_at hl 3 rfl) ?_
  refine lv_iload_n hx hb dL_law_497 rfl (lv_at hl 0 rfl) ?_
  refine lv_iconst (v := 2) hx hb dL_law_498 (by decide) ?_
  refine lv_iadd hx hb dL_law_499 ?_
  refine va_sld hx hb hX hbl hbA hS (hin 2 (by decide)) dL_law_500 ?_
  rw [e2]
  have hq_6 : va_P D vwCl [((z 3), .inr (0, [.int ct, .int cp, .int cr, .int ctr, .int cfs])), ((z 0), .inr (5, [.ref (z 1), .ref (z 2), .ref (z 3), .ref (z 4), .ref (z 6)]))] H := fr_cons (hP.c3) (fr_cons (hP.c0) (fr_nil))
  refine va_calli (va_runV (As := [.int v1, .int v2]) (rest := []) ⟨hx, hb, hml, hown, hts⟩ (mX6_push l D cI cH (z 0) (z 1) (z 2) (z 3) (z 4) (z 6) ct cp cr ctr cfs v1 v2 (hz.ne 0 3 (by decide) (by decide) (by decide))) (cwV 2 hts gL_law_X6_push rfl rfl rfl (by decide +kernel) ⟨Nat.le_of_ble_eq_true rfl, Nat.le_of_ble_eq_true rfl⟩) ⟨kB_blind, va_recv hw.1 hq_6 (ci := 5) (q0 := 1) rfl rfl, kB_go hq_6 hw⟩ rfl rfl hl.1 rfl (lv_room (Nat.le_of_ble_eq_true rfl)) dL_law_501 ⟨hc, hs9⟩) hS (fun q9 _ h9 => h9 ▸ hz.2 3 (by decide)) (fun q9 h9 => h9 ▸ hz.2 3 (by decide)) (fun r1 u1 t1 H1 locs ht1 hvm1 hp1 hB1 hz11 hkh1 hS => ?_)
  have hB1 : va_at D vwCl (z 3, .inr (0, u1)) t1.heap := hB1
  rw [ht1] at hB1
  refine lv_aload_n hx hb dL_law_504 rfl (lv_at hl 1 rfl) ?_
  refine lv_aload_n hx hb dL_law_505 rfl (lv_at hl 3 rfl) ?_
  refine lv_iload_n hx hb dL_law_506 rfl (lv_at hl 0 rfl) ?_
  refine lv_iconst (v := 1) hx hb dL_law_507 (by decide) ?_
  refine lv_iadd hx hb dL_law_508 ?_
  refine va_sld hx hb hX hbl hbA hS (hin 1 (by decide)) dL_law_509 ?_
  rw [e1]
  refine lv_aload_n hx hb dL_law_510 rfl (lv_at hl 3 rfl) ?_
  refine lv_iload_n hx hb dL_law_511 rfl (lv_at hl 0 rfl) ?_
  refine lv_iconst (v := 2) hx hb dL_law_512 (by decide) ?_
  refine lv_iadd hx hb dL_law_513 ?_
  refine va_sld hx hb hX hbl hbA hS (hin 2 (by decide)) dL_law_514 ?_
  rw [e2]
  have hq_7 : va_P D vwCl [((z 13), .inr (6, [.ref (z 14), .double w0, .double w1, .double w2, .double w3, .double w4, .double w5, .double w6, .double w7, .double w8, .double w9, .int ct, .int cp, .int cr, .int ctr, .int cfs, .int (nI k), .ref (z 15), .int (nI k2), .ref (z 16), .ref (z 17), .double w10]))] H1 := fr_cons (va_at.kept (hP.c13) (hkh1 _ (va_at_lt (hP.c13)) (hz.ne 13 3 (by decide) (by decide) (by decide)))) (fr_nil)
  refine va_calli (va_runV (As := [.int v1, .int v2]) (rest := [.int r1]) ⟨hx, hb, hml, hown, hts⟩ (mX7_push l D cI cH (z 13) (z 14) (z 15) (z 16) (z 17) k k2 ct cp cr ctr cfs w0 w1 w2 w3 w4 w5 w6 w7 w8 w9 w10 v1 v2) (cwV 2 hts gL_law_X7_push rfl rfl rfl (by decide +kernel) ⟨Nat.le_of_ble_eq_true rfl, Nat.le_of_ble_eq_true rfl⟩) ⟨kB_blind, va_recv hw.1 hq_7 (ci := 6) (q0 := 0) rfl rfl, kB_go hq_7 hw⟩ rfl rfl hl.1 rfl (lv_room (Nat.le_of_ble_eq_true rfl)) dL_law_515 ⟨hc, hs9⟩) hS (fun q9 _ h9 => h9 ▸ hz.2 13 (by decide)) (fun q9 h9 => h9 ▸ hz.2 13 (by decide)) (fun r2 u2 t2 H2 locs ht2 hvm2 hp2 hB2 hz22 hkh2 hS => ?_)
  have hB2 : va_at D vwCl (z 13, .inr (6, u2)) t2.heap := hB2
  rw [ht2] at hB2
  obtain ⟨hr1, hu1⟩ := pk hp1
  have hp2 : r2 = (if okPu v1 v2 = true then 1 else -2) ∧ (if okPu v1 v2 = true then isM (z 14) (z 15) (z 16) (z 17) k k2 ct cp cr v1 v2 u2 else isM (z 14) (z 15) (z 16) (z 17) k k2 ct cp cr ctr cfs u2) := by
    by_cases hv : okPu v1 v2 = true
    · rw [if_pos hv] at hp2; rw [if_pos hv, if_pos hv]; exact hp2
    · rw [if_neg hv] at hp2; rw [if_neg hv, if_neg hv]; exact hp2
  obtain ⟨hr2, hu2⟩ := hp2
  refine lv_icmp_eq (tgt := 828) hx hb dL_law_518 (by decide) (fun _ => ?_) (fun c9 => absurd (hr1.trans hr2.symm) c9)
  by_cases hv : okPu v1 v2 = true
  · rw [if_pos hv] at hu1 hu2
    rw [hu1] at hB1
    exact kk H2 locs ⟨N, ft, f1, f2, k, k2, ct, cp, cr, v1, v2, _, _, hok, ⟨_, _, _, _, _, _, _, _, _, _, _, _, _, _, rfl⟩, hu2, fin_car hz hP hkh1 hkh2 hB1 hB2⟩ hS
  · rw [if_neg hv] at hu1 hu2
    rw [hu1] at hB1
    exact kk H2 locs ⟨N, ft, f1, f2, k, k2, ct, cp, cr, ctr, cfs, _, _, hok, ⟨_, _, _, _, _, _, _, _, _, _, _, _, _, _, rfl⟩, hu2, fin_car hz hP hkh1 hkh2 hB1 hB2⟩ hS
set_option maxHeartbeats 4000000 in
set_option maxRecDepth 100000 in
theorem br_carries {p : Program} {l : Launch} {e : Env} {s : State} {m : MethodId} {args : Array Value} {below : List Frame} {meth : Method} {co : Code} {Q : State → Prop} {A : Nat → Prop} {b L : Nat} {xs : Nat → Int32} {x3 : Int32} {H : Heap} {locs : List Loc} {cells slots : Nat} {ls : Array Slot} {D : va_G} {cI cH : ClassId} {z : Nat → Nat} {fh : Nat → Option Nat} (hc : cells ≤ 600000) (hs9 : slots ≤ 7302250) (hx : p.tables.exec = Jvm.exec) (hb : co.code = cL_law) (hml : co.maxLocals = 4) (hown : s.vm.findClass RL = some m.cls) (hts : ∀ w ∈ wsL_law, w.before args s = true) (hw : wk D cI cH s) (hX : va_X b L xs s s.heap) (hbl : b < s.heap.size) (hbA : ¬ A b) (hz : zOk A z) (hfh : ∀ j, j < 4 → fh j = some (z (9 + j))) (hin : ∀ v : Int32, isW v 0 9 = true → vp_in (x3 + v) L) (hS : va_S A s.heap H locs) (hI : inv D cI cH z fh H) (hl : lv_has ls 4 [(3, .int x3), (2, .ref (z 13)), (1, .ref (z 0)), (0, .ref b)]) (kk : ∀ (H : Heap) (locs : List Loc), inv D cI cH z fh H → va_S A s.heap H locs → W p l e room_1 s m args below meth co H locs cells slots Q (F0 m 828 ls [])) : W p l e room_1 s m args below meth co H locs cells slots Q (F0 m 523 ls []) := by
  obtain ⟨N, ft, f1, f2, k, k2, ct, cp, cr, ctr, cfs, us, um, hok, hus, hum, hP⟩ := hI
  obtain ⟨y12, y13, y0, y1, y2, y3, y4, y5, y6, y7, y8, y9, y10, y11, rfl⟩ := hus
  obtain ⟨w0, w1, w2, w3, w4, w5, w6, w7, w8, w9, w10, rfl⟩ := hum
  obtain ⟨hk, hk2, hhg, hft, hrd⟩ := id hok
  obtain ⟨v1, e1⟩ : ∃ y : Int32, xs (x3 + 1).toNatClampNeg = y := ⟨_, rfl⟩
  refine lv_aload_n hx hb dL_law_523 rfl (lv_at hl 2 rfl) ?_
  refine lv_aload_n hx hb dL_law_524 rfl (lv_at hl 3 rfl) ?_
  refine lv_iload_n hx hb dL_law_525 rfl (lv_at hl 0 rfl) ?_
  refine lv_iconst (v := 1) hx hb dL_law_526 (by decide) ?_
  refine lv_iadd hx hb dL_law_527 ?_
  refine va_sld hx hb hX hbl hbA hS (hin 1 (by decide)) dL_law_528 ?_
  rw [e1]
  have hq_6 : va_P D vwCl [((z 0), .inr (5, [.ref (z 1), .ref (z 2), .ref (z 3), .ref (z 4), .ref (z 6)])), ((z 3), .inr (0, [.int ct, .int cp, .int cr, .int ctr, .int cfs]))] H := fr_cons (hP.c0) (fr_cons (hP.c3) (fr_nil))
  refine va_calli (va_runV (As := [.int v1]) (rest := []) ⟨hx, hb, hml, hown, hts⟩ (mX6_carries l D cI cH (z 0) (z 1) (z 2) (z 3) (z 4) (z 6) ct cp cr ctr cfs v1) (cwV 1 hts gL_law_X6_carries rfl rfl rfl (by decide +kernel) ⟨Nat.le_of_ble_eq_true rfl, Nat.le_of_ble_eq_true rfl⟩) ⟨kB_blind, va_recv hw.1 hq_6 (ci := 5) (q0 := 0) rfl rfl, kB_go hq_6 hw⟩ rfl rfl hl.1 rfl (lv_room (Nat.le_of_ble_eq_true rfl)) dL_law_529 ⟨hc, hs9⟩) hS (fun q9 _ h9 => h9.elim) (fun q9 h9 => h9.elim) (fun r1 u1 t1 H1 locs ht1 hvm1 hp1 hB1 hz11 hkh1 hS => ?_)
  refine lv_aload_n hx hb dL_law_532 rfl (lv_at hl 1 rfl) ?_
  refine lv_aload_n hx hb dL_law_533 rfl (lv_at hl 3 rfl) ?_
  refine lv_iload_n hx hb dL_law_534 rfl (lv_at hl 0 rfl) ?_
  refine lv_iconst (v := 1) hx hb dL_law_535 (by decide) ?_
  refine lv_iadd hx hb dL_law_536 ?_
  refine va_sld hx hb hX hbl hbA hS (hin 1 (by decide)) dL_law_537 ?_
  rw [e1]
  have hq_7 : va_P D vwCl [((z 13), .inr (6, [.ref (z 14), .double w0, .double w1, .double w2, .double w3, .double w4, .double w5, .double w6, .double w7, .double w8, .double w9, .int ct, .int cp, .int cr, .int ctr, .int cfs, .int (nI k), .ref (z 15), .int (nI k2), .ref (z 16), .ref (z 17), .double w10]))] H1 := fr_cons (va_at.kept (hP.c13) (hkh1 _ (va_at_lt (hP.c13)) (fun h9 => h9))) (fr_nil)
  refine va_calli (va_runV (As := [.int v1]) (rest := [.int r1]) ⟨hx, hb, hml, hown, hts⟩ (mX7_carries l D cI cH (z 13) (z 14) (z 15) (z 16) (z 17) k k2 ct cp cr ctr cfs w0 w1 w2 w3 w4 w5 w6 w7 w8 w9 w10 v1) (cwV 1 hts gL_law_X7_carries rfl rfl rfl (by decide +kernel) ⟨Nat.le_of_ble_eq_true rfl, Nat.le_of_ble_eq_true rfl⟩) ⟨kB_blind, va_recv hw.1 hq_7 (ci := 6) (q0 := 0) rfl rfl, kB_go hq_7 hw⟩ rfl rfl hl.1 rfl (lv_room (Nat.le_of_ble_eq_true rfl)) dL_law_538 ⟨hc, hs9⟩) hS (fun q9 _ h9 => h9.elim) (fun q9 h9 => h9.elim) (fun r2 u2 t2 H2 locs ht2 hvm2 hp2 hB2 hz22 hkh2 hS => ?_)
  refine lv_icmp_eq (tgt := 828) hx hb dL_law_541 (by decide) (fun _ => ?_) (fun c9 => absurd (hp1.trans hp2.symm) c9)
  exact kk H2 locs ⟨N, ft, f1, f2, k, k2, ct, cp, cr, ctr, cfs, _, _, hok, ⟨_, _, _, _, _, _, _, _, _, _, _, _, _, _, rfl⟩, ⟨_, _, _, _, _, _, _, _, _, _, _, rfl⟩, fin_no hz hP hkh1 hkh2⟩ hS
set_option maxHeartbeats 4000000 in
set_option maxRecDepth 100000 in
theorem br_shim {p : Program} {l : Launch} {e : Env} {s : State} {m : MethodId} {args : Array Value} {below : List Frame} {meth : Method} {co : Code} {Q : State → Prop} {A : Nat → Prop} {b L : Nat} {xs : Nat → Int32} {x3 : Int32} {H : Heap} {locs : List Loc} {cells slots : Nat} {ls : Array Slot} {D : va_G} {cI cH : ClassId} {z : Nat → Nat} {fh : Nat → Option Nat} (hc : cells ≤ 600000) (hs9 : slots ≤ 7302250) (hx : p.tables.exec = Jvm.exec) (hb : co.code = cL_law) (hml : co.maxLocals = 4) (hown : s.vm.findClass RL = some m.cls) (hts : ∀ w ∈ wsL_law, w.before args s = true) (hw : wk D cI cH s) (hX : va_X b L xs s s.heap) (hbl : b < s.heap.size) (hbA : ¬ A b) (hz : zOk A z) (hfh : ∀ j, j < 4 → fh j = some (z (9 + j))) (hin : ∀ v : Int32, isW v 0 9 = true → vp_in (x3 + v) L) (hS : va_S A s.heap H locs) (hI : inv D cI cH z fh H) (hl : lv_has ls 4 [(3, .int x3), (2, .ref (z 13)), (1, .ref (z 0)), (0, .ref b)]) (kk : ∀ (H : Heap) (locs : List Loc), inv D cI cH z fh H → va_S A s.heap H locs → W p l e room_1 s m args below meth co H locs cells slots Q (F0 m 828 ls [])) : W p l e room_1 s m args below meth co H locs cells slots Q (F0 m 546 ls []) := by
  obtain ⟨N, ft, f1, f2, k, k2, ct, cp, cr, ctr, cfs, us, um, hok, hus, hum, hP⟩ := hI
  obtain ⟨y12, y13, y0, y1, y2, y3, y4, y5, y6, y7, y8, y9, y10, y11, rfl⟩ := hus
  obtain ⟨w0, w1, w2, w3, w4, w5, w6, w7, w8, w9, w10, rfl⟩ := hum
  obtain ⟨hk, hk2, hhg, hft, hrd⟩ := id hok
  obtain ⟨v1, e1⟩ : ∃ y : Int32, xs (x3 + 1).toNatClampNeg = y := ⟨_, rfl⟩
  refine lv_aload_n hx hb dL_law_546 rfl (lv_at hl 2 rfl) ?_
  refine lv_aload_n hx hb dL_law_547 rfl (lv_at hl 3 rfl) ?_
  refine lv_iload_n hx hb dL_law_548 rfl (lv_at hl 0 rfl) ?_
  refine lv_iconst (v := 1) hx hb dL_law_549 (by decide) ?_
  refine lv_iadd hx hb dL_law_550 ?_
  refine va_sld hx hb hX hbl hbA hS (hin 1 (by decide)) dL_law_551 ?_
  rw [e1]
  have hq_6 : va_P D vwCl [((z 4), .inr (3, [.ref (z 5), .int (nI k)])), ((z 5), .inl (cI, 10, .inl ft)), ((z 0), .inr (5, [.ref (z 1), .ref (z 2), .ref (z 3), .ref (z 4), .ref (z 6)]))] H := fr_cons (hP.c4) (fr_cons (hP.c5) (fr_cons (hP.c0) (fr_nil)))
  refine va_calli (va_runV (As := [.int v1]) (rest := []) ⟨hx, hb, hml, hown, hts⟩ (mX6_shim l D cI cH (z 0) (z 1) (z 2) (z 3) (z 4) (z 6) (z 5) k ft v1 hk (hz.ne 5 4 (by decide) (by decide) (by decide)) (hz.ne 0 4 (by decide) (by decide) (by decide)) (hz.ne 0 5 (by decide) (by decide) (by decide))) (cwV 1 hts gL_law_X6_shim rfl rfl rfl (by decide +kernel) ⟨Nat.le_of_ble_eq_true rfl, Nat.le_of_ble_eq_true rfl⟩) ⟨kB_blind, va_recv hw.1 hq_6 (ci := 5) (q0 := 2) rfl rfl, kB_go hq_6 hw⟩ rfl rfl hl.1 rfl (lv_room (Nat.le_of_ble_eq_true rfl)) dL_law_552 ⟨hc, hs9⟩) hS (fun q9 _ h9 => h9.elim (fun h9 => h9 ▸ hz.2 4 (by decide)) (fun h9 => h9 ▸ hz.2 5 (by decide))) (fun q9 h9 => h9.elim (fun h9 => h9 ▸ hz.2 4 (by decide)) (fun h9 => h9 ▸ hz.2 5 (by decide))) (fun r1 u1 t1 H1 locs ht1 hvm1 hp1 hB1 hz11 hkh1 hS => ?_)
  obtain ⟨hB1, hC1⟩ := hB1
  have hB1 : va_at D vwCl (z 4, .inr (3, [.ref (z 5), .int u1.1])) t1.heap := hB1
  rw [ht1] at hB1
  have hC1 : va_at D vwCl (z 5, .inl (cI, 10, .inl u1.2)) t1.heap := hC1
  rw [ht1] at hC1
  refine lv_aload_n hx hb dL_law_555 rfl (lv_at hl 1 rfl) ?_
  refine lv_aload_n hx hb dL_law_556 rfl (lv_at hl 3 rfl) ?_
  refine lv_iload_n hx hb dL_law_557 rfl (lv_at hl 0 rfl) ?_
  refine lv_iconst (v := 1) hx hb dL_law_558 (by decide) ?_
  refine lv_iadd hx hb dL_law_559 ?_
  refine va_sld hx hb hX hbl hbA hS (hin 1 (by decide)) dL_law_560 ?_
  rw [e1]
  have hq_7 : va_P D vwCl [((z 13), .inr (6, [.ref (z 14), .double w0, .double w1, .double w2, .double w3, .double w4, .double w5, .double w6, .double w7, .double w8, .double w9, .int ct, .int cp, .int cr, .int ctr, .int cfs, .int (nI k), .ref (z 15), .int (nI k2), .ref (z 16), .ref (z 17), .double w10])), ((z 15), .inl (cI, 10, .inl ft))] H1 := fr_cons (va_at.kept (hP.c13) (hkh1 _ (va_at_lt (hP.c13)) (fun h9 => h9.elim (hz.ne 13 4 (by decide) (by decide) (by decide)) (hz.ne 13 5 (by decide) (by decide) (by decide))))) (fr_cons (va_at.kept (hP.c15) (hkh1 _ (va_at_lt (hP.c15)) (fun h9 => h9.elim (hz.ne 15 4 (by decide) (by decide) (by decide)) (hz.ne 15 5 (by decide) (by decide) (by decide))))) (fr_nil))
  refine va_calli (va_runV (As := [.int v1]) (rest := [.int r1]) ⟨hx, hb, hml, hown, hts⟩ (mX7_shim l D cI cH (z 13) (z 14) (z 15) (z 16) (z 17) k k2 ct cp cr ctr cfs w0 w1 w2 w3 w4 w5 w6 w7 w8 w9 w10 ft v1 hk (hz.ne 15 13 (by decide) (by decide) (by decide))) (cwV 1 hts gL_law_X7_shim rfl rfl rfl (by decide +kernel) ⟨Nat.le_of_ble_eq_true rfl, Nat.le_of_ble_eq_true rfl⟩) ⟨kB_blind, va_recv hw.1 hq_7 (ci := 6) (q0 := 0) rfl rfl, kB_go hq_7 hw⟩ rfl rfl hl.1 rfl (lv_room (Nat.le_of_ble_eq_true rfl)) dL_law_561 ⟨hc, hs9⟩) hS (fun q9 _ h9 => h9.elim (fun h9 => h9 ▸ hz.2 13 (by decide)) (fun h9 => h9 ▸ hz.2 15 (by decide))) (fun q9 h9 => h9.elim (fun h9 => h9 ▸ hz.2 13 (by decide)) (fun h9 => h9 ▸ hz.2 15 (by decide))) (fun r2 u2 t2 H2 locs ht2 hvm2 hp2 hB2 hz22 hkh2 hS => ?_)
  obtain ⟨hB2, hC2⟩ := hB2
  have hB2 : va_at D vwCl (z 13, .inr (6, u2.1)) t2.heap := hB2
  rw [ht2] at hB2
  have hC2 : va_at D vwCl (z 15, .inl (cI, 10, .inl u2.2)) t2.heap := hC2
  rw [ht2] at hC2
  have eq9 : r1 = r2 := by
    by_cases hv : isW v1 1 500 = true
    · rw [if_pos hv] at hp1 hp2
      by_cases hf : k < 10
      · rw [if_pos hf] at hp1 hp2
        exact hp1.1.trans hp2.1.symm
      · rw [if_neg hf] at hp1 hp2
        exact hp1.1.trans hp2.1.symm
    · rw [if_neg hv] at hp1 hp2
      exact hp1.1.trans hp2.1.symm
  refine lv_icmp_eq (tgt := 828) hx hb dL_law_564 (by decide) (fun _ => ?_) (fun c9 => absurd eq9 c9)
  by_cases hv : isW v1 1 500 = true
  · rw [if_pos hv] at hp1 hp2
    by_cases hf : k < 10
    · rw [if_pos hf] at hp1 hp2
      obtain ⟨hr1, rfl⟩ := hp1
      obtain ⟨hr2, hu2, hn2⟩ := hp2
      rw [hn2] at hC2
      have hft9 : ∀ j, j < k + 1 → 0 ≤ (upd ft k v1 j).toInt ∧ (upd ft k v1 j).toInt ≤ 500 := by
        intro j hj
        by_cases ej : j = k
        · rw [ej, upd_self]
          obtain ⟨a1, a2⟩ := isW_i hv
          have b1 : (1 : Int32).toInt = 1 := rfl
          have b2 : (500 : Int32).toInt = 500 := rfl
          exact ⟨by omega, by omega⟩
        · rw [upd_off _ _ ej]
          exact hft j (by omega)
      exact kk H2 locs ⟨N, (upd ft k v1), f1, f2, (k + 1), k2, ct, cp, cr, ctr, cfs, _, _, ⟨by omega, hk2, hhg, hft9, hrd⟩, ⟨_, _, _, _, _, _, _, _, _, _, _, _, _, _, rfl⟩, hu2, fin_sh hz hP hkh1 hkh2 hB1 hC1 hB2 hC2⟩ hS
    · rw [if_neg hf] at hp1 hp2
      obtain ⟨hr1, rfl⟩ := hp1
      obtain ⟨hr2, hu2, hn2⟩ := hp2
      rw [hn2] at hC2
      exact kk H2 locs ⟨N, ft, f1, f2, k, k2, ct, cp, cr, ctr, cfs, _, _, hok, ⟨_, _, _, _, _, _, _, _, _, _, _, _, _, _, rfl⟩, hu2, fin_sh hz hP hkh1 hkh2 hB1 hC1 hB2 hC2⟩ hS
  · rw [if_neg hv] at hp1 hp2
    obtain ⟨hr1, rfl⟩ := hp1
    obtain ⟨hr2, hu2, hn2⟩ := hp2
    rw [hn2] at hC2
    exact kk H2 locs ⟨N, ft, f1, f2, k, k2, ct, cp, cr, ctr, cfs, _, _, hok, ⟨_, _, _, _, _, _, _, _, _, _, _, _, _, _, rfl⟩, hu2, fin_sh hz hP hkh1 hkh2 hB1 hC1 hB2 hC2⟩ hS
set_option maxHeartbeats 4000000 in
set_option maxRecDepth 100000 in
theorem br_best {p : Program} {l : Launch} {e : Env} {s : State} {m : MethodId} {args : Array Value} {below : List Frame} {meth : Method} {co : Code} {Q : State → Prop} {A : Nat → Prop} {b L : Nat} {xs : Nat → Int32} {x3 : Int32} {H : Heap} {locs : List Loc} {cells slots : Nat} {ls : Array Slot} {D : va_G} {cI cH : ClassId} {z : Nat → Nat} {fh : Nat → Option Nat} (hc : cells ≤ 600000) (hs9 : slots ≤ 7302250) (hx : p.tables.exec = Jvm.exec) (hb : co.code = cL_law) (hml : co.maxLocals = 4) (hown : s.vm.findClass RL = some m.cls) (hts : ∀ w ∈ wsL_law, w.before args s = true) (hw : wk D cI cH s) (hX : va_X b L xs s s.heap) (hbl : b < s.heap.size) (hbA : ¬ A b) (hz : zOk A z) (hfh : ∀ j, j < 4 → fh j = some (z (9 + j))) (hin : ∀ v : Int32, isW v 0 9 = true → vp_in (x3 + v) L) (hS : va_S A s.heap H locs) (hI : inv D cI cH z fh H) (hl : lv_has ls 4 [(3, .int x3), (2, .ref (z 13)), (1, .ref (z 0)), (0, .ref b)]) (kk : ∀ (H : Heap) (locs : List Loc), inv D cI cH z fh H → va_S A s.heap H locs → W p l e room_1 s m args below meth co H locs cells slots Q (F0 m 828 ls [])) : W p l e room_1 s m args below meth co H locs cells slots Q (F0 m 569 ls []) := by
  obtain ⟨N, ft, f1, f2, k, k2, ct, cp, cr, ctr, cfs, us, um, hok, hus, hum, hP⟩ := hI
  obtain ⟨y12, y13, y0, y1, y2, y3, y4, y5, y6, y7, y8, y9, y10, y11, rfl⟩ := hus
  obtain ⟨w0, w1, w2, w3, w4, w5, w6, w7, w8, w9, w10, rfl⟩ := hum
  obtain ⟨hk, hk2, hhg, hft, hrd⟩ := id hok
  obtain ⟨v1, e1⟩ : ∃ y : Int32, xs (x3 + 1).toNatClampNeg = y := ⟨_, rfl⟩
  obtain ⟨v2, e2⟩ : ∃ y : Int32, xs (x3 + 2).toNatClampNeg = y := ⟨_, rfl⟩
  refine lv_aload_n hx hb dL_law_569 rfl (lv_at hl 2 rfl) ?_
  refine lv_aload_n hx hb dL_law_570 rfl (lv_at hl 3 rfl) ?_
  refine lv_iload_n hx hb dL_law_571 rfl (lv_at hl 0 rfl) ?_
  refine lv_iconst (v := 1) hx hb dL_law_572 (by decide) ?_
  refine lv_iadd hx hb dL_law_573 ?_
  refine va_sld hx hb hX hbl hbA hS (hin 1 (by decide)) dL_law_574 ?_
  rw [e1]
  refine lv_aload_n hx hb dL_law_575 rfl (lv_at hl 3 rfl) ?_
  refine lv_iload_n hx hb dL_law_576 rfl (lv_at hl 0 rfl) ?_
  refine lv_iconst (v := 2) hx hb dL_law_577 (by decide) ?_
  refine lv_iadd hx hb dL_law_578 ?_
  refine va_sld hx hb hX hbl hbA hS (hin 2 (by decide)) dL_law_579 ?_
  rw [e2]
  have hq_6 : va_P D vwCl [((z 0), .inr (5, [.ref (z 1), .ref (z 2), .ref (z 3), .ref (z 4), .ref (z 6)])), ((z 4), .inr (3, [.ref (z 5), .int (nI k)])), ((z 5), .inl (cI, 10, .inl ft))] H := fr_cons (hP.c0) (fr_cons (hP.c4) (fr_cons (hP.c5) (fr_nil)))
  refine va_calli (va_runV (As := [.int v1, .int v2]) (rest := []) ⟨hx, hb, hml, hown, hts⟩ (mX6_best l D cI cH (z 0) (z 1) (z 2) (z 3) (z 4) (z 6) (z 5) k ft v1 v2 hk) (cwV 2 hts gL_law_X6_best rfl rfl rfl (by decide +kernel) ⟨Nat.le_of_ble_eq_true rfl, Nat.le_of_ble_eq_true rfl⟩) ⟨kB_blind, va_recv hw.1 hq_6 (ci := 5) (q0 := 0) rfl rfl, kB_go hq_6 hw⟩ rfl rfl hl.1 rfl (lv_room (Nat.le_of_ble_eq_true rfl)) dL_law_580 ⟨hc, hs9⟩) hS (fun q9 _ h9 => h9.elim) (fun q9 h9 => h9.elim) (fun r1 u1 t1 H1 locs ht1 hvm1 hp1 hB1 hz11 hkh1 hS => ?_)
  refine lv_aload_n hx hb dL_law_583 rfl (lv_at hl 1 rfl) ?_
  refine lv_aload_n hx hb dL_law_584 rfl (lv_at hl 3 rfl) ?_
  refine lv_iload_n hx hb dL_law_585 rfl (lv_at hl 0 rfl) ?_
  refine lv_iconst (v := 1) hx hb dL_law_586 (by decide) ?_
  refine lv_iadd hx hb dL_law_587 ?_
  refine va_sld hx hb hX hbl hbA hS (hin 1 (by decide)) dL_law_588 ?_
  rw [e1]
  refine lv_aload_n hx hb dL_law_589 rfl (lv_at hl 3 rfl) ?_
  refine lv_iload_n hx hb dL_law_590 rfl (lv_at hl 0 rfl) ?_
  refine lv_iconst (v := 2) hx hb dL_law_591 (by decide) ?_
  refine lv_iadd hx hb dL_law_592 ?_
  refine va_sld hx hb hX hbl hbA hS (hin 2 (by decide)) dL_law_593 ?_
  rw [e2]
  have hq_7 : va_P D vwCl [((z 13), .inr (6, [.ref (z 14), .double w0, .double w1, .double w2, .double w3, .double w4, .double w5, .double w6, .double w7, .double w8, .double w9, .int ct, .int cp, .int cr, .int ctr, .int cfs, .int (nI k), .ref (z 15), .int (nI k2), .ref (z 16), .ref (z 17), .double w10])), ((z 15), .inl (cI, 10, .inl ft))] H1 := fr_cons (va_at.kept (hP.c13) (hkh1 _ (va_at_lt (hP.c13)) (fun h9 => h9))) (fr_cons (va_at.kept (hP.c15) (hkh1 _ (va_at_lt (hP.c15)) (fun h9 => h9))) (fr_nil))
  refine va_calli (va_runV (As := [.int v1, .int v2]) (rest := [.int r1]) ⟨hx, hb, hml, hown, hts⟩ (mX7_best l D cI cH (z 13) (z 14) (z 15) (z 16) (z 17) k k2 ft ct cp cr ctr cfs w0 w1 w2 w3 w4 w5 w6 w7 w8 w9 w10 v1 v2 hk hft) (cwV 2 hts gL_law_X7_best rfl rfl rfl (by decide +kernel) ⟨Nat.le_of_ble_eq_true rfl, Nat.le_of_ble_eq_true rfl⟩) ⟨kB_blind, va_recv hw.1 hq_7 (ci := 6) (q0 := 0) rfl rfl, kB_go hq_7 hw⟩ rfl rfl hl.1 rfl (lv_room (Nat.le_of_ble_eq_true rfl)) dL_law_594 ⟨hc, hs9⟩) hS (fun q9 _ h9 => h9.elim) (fun q9 h9 => h9.elim) (fun r2 u2 t2 H2 locs ht2 hvm2 hp2 hB2 hz22 hkh2 hS => ?_)
  refine lv_icmp_eq (tgt := 828) hx hb dL_law_597 (by decide) (fun _ => ?_) (fun c9 => absurd (hp1.trans hp2.symm) c9)
  exact kk H2 locs ⟨N, ft, f1, f2, k, k2, ct, cp, cr, ctr, cfs, _, _, hok, ⟨_, _, _, _, _, _, _, _, _, _, _, _, _, _, rfl⟩, ⟨_, _, _, _, _, _, _, _, _, _, _, rfl⟩, fin_no hz hP hkh1 hkh2⟩ hS
set_option maxHeartbeats 4000000 in
set_option maxRecDepth 100000 in
theorem br_reading {p : Program} {l : Launch} {e : Env} {s : State} {m : MethodId} {args : Array Value} {below : List Frame} {meth : Method} {co : Code} {Q : State → Prop} {A : Nat → Prop} {b L : Nat} {xs : Nat → Int32} {x3 : Int32} {H : Heap} {locs : List Loc} {cells slots : Nat} {ls : Array Slot} {D : va_G} {cI cH : ClassId} {z : Nat → Nat} {fh : Nat → Option Nat} (hc : cells ≤ 600000) (hs9 : slots ≤ 7302250) (hx : p.tables.exec = Jvm.exec) (hb : co.code = cL_law) (hml : co.maxLocals = 4) (hown : s.vm.findClass RL = some m.cls) (hts : ∀ w ∈ wsL_law, w.before args s = true) (hw : wk D cI cH s) (hX : va_X b L xs s s.heap) (hbl : b < s.heap.size) (hbA : ¬ A b) (hz : zOk A z) (hfh : ∀ j, j < 4 → fh j = some (z (9 + j))) (hin : ∀ v : Int32, isW v 0 9 = true → vp_in (x3 + v) L) (hS : va_S A s.heap H locs) (hI : inv D cI cH z fh H) (hl : lv_has ls 4 [(3, .int x3), (2, .ref (z 13)), (1, .ref (z 0)), (0, .ref b)]) (kk : ∀ (H : Heap) (locs : List Loc), inv D cI cH z fh H → va_S A s.heap H locs → W p l e room_1 s m args below meth co H locs cells slots Q (F0 m 828 ls [])) : W p l e room_1 s m args below meth co H locs cells slots Q (F0 m 602 ls []) := by
  obtain ⟨N, ft, f1, f2, k, k2, ct, cp, cr, ctr, cfs, us, um, hok, hus, hum, hP⟩ := hI
  obtain ⟨y12, y13, y0, y1, y2, y3, y4, y5, y6, y7, y8, y9, y10, y11, rfl⟩ := hus
  obtain ⟨w0, w1, w2, w3, w4, w5, w6, w7, w8, w9, w10, rfl⟩ := hum
  obtain ⟨hk, hk2, hhg, hft, hrd⟩ := id hok
  obtain ⟨v1, e1⟩ : ∃ y : Int32, xs (x3 + 1).toNatClampNeg = y := ⟨_, rfl⟩
  obtain ⟨v2, e2⟩ : ∃ y : Int32, xs (x3 + 2).toNatClampNeg = y := ⟨_, rfl⟩
  refine lv_aload_n hx hb dL_law_602 rfl (lv_at hl 2 rfl) ?_
  refine lv_aload_n hx hb dL_law_603 rfl (lv_at hl 3 rfl) ?_
  refine lv_iload_n hx hb dL_law_604 rfl (lv_at hl 0 rfl) ?_
  refine lv_iconst (v := 1) hx hb dL_law_605 (by decide) ?_
  refine lv_iadd hx hb dL_law_606 ?_
  refine va_sld hx hb hX hbl hbA hS (hin 1 (by decide)) dL_law_607 ?_
  rw [e1]
  refine lv_aload_n hx hb dL_law_608 rfl (lv_at hl 3 rfl) ?_
  refine lv_iload_n hx hb dL_law_609 rfl (lv_at hl 0 rfl) ?_
  refine lv_iconst (v := 2) hx hb dL_law_610 (by decide) ?_
  refine lv_iadd hx hb dL_law_611 ?_
  refine va_sld hx hb hX hbl hbA hS (hin 2 (by decide)) dL_law_612 ?_
  rw [e2]
  have hq_6 : va_P D vwCl [((z 6), .inr (2, [.ref (z 7), .ref (z 8), .int (nI k2)])), ((z 7), .inl (cI, 12, .inl f1)), ((z 8), .inl (cI, 12, .inl f2)), ((z 0), .inr (5, [.ref (z 1), .ref (z 2), .ref (z 3), .ref (z 4), .ref (z 6)]))] H := fr_cons (hP.c6) (fr_cons (hP.c7) (fr_cons (hP.c8) (fr_cons (hP.c0) (fr_nil))))
  refine va_calli (va_runV (As := [.int v1, .int v2]) (rest := []) ⟨hx, hb, hml, hown, hts⟩ (mX6_reading l D cI cH (z 0) (z 1) (z 2) (z 3) (z 4) (z 6) (z 7) (z 8) k2 f1 f2 v1 v2 hk2 (hz.ne 7 6 (by decide) (by decide) (by decide)) (hz.ne 8 6 (by decide) (by decide) (by decide)) (hz.ne 8 7 (by decide) (by decide) (by decide)) (hz.ne 0 6 (by decide) (by decide) (by decide)) (hz.ne 0 7 (by decide) (by decide) (by decide)) (hz.ne 0 8 (by decide) (by decide) (by decide))) (cwV 2 hts gL_law_X6_reading rfl rfl rfl (by decide +kernel) ⟨Nat.le_of_ble_eq_true rfl, Nat.le_of_ble_eq_true rfl⟩) ⟨kB_blind, va_recv hw.1 hq_6 (ci := 5) (q0 := 3) rfl rfl, kB_go hq_6 hw⟩ rfl rfl hl.1 rfl (lv_room (Nat.le_of_ble_eq_true rfl)) dL_law_613 ⟨hc, hs9⟩) hS (fun q9 _ h9 => h9.elim (fun h9 => h9 ▸ hz.2 6 (by decide)) (fun h9 => h9.elim (fun h9 => h9 ▸ hz.2 7 (by decide)) (fun h9 => h9 ▸ hz.2 8 (by decide)))) (fun q9 h9 => h9.elim (fun h9 => h9 ▸ hz.2 6 (by decide)) (fun h9 => h9.elim (fun h9 => h9 ▸ hz.2 7 (by decide)) (fun h9 => h9 ▸ hz.2 8 (by decide)))) (fun r1 u1 t1 H1 locs ht1 hvm1 hp1 hB1 hz11 hkh1 hS => ?_)
  obtain ⟨hB1, hC1, hD1⟩ := hB1
  have hB1 : va_at D vwCl (z 6, .inr (2, [.ref (z 7), .ref (z 8), .int u1.1])) t1.heap := hB1
  rw [ht1] at hB1
  have hC1 : va_at D vwCl (z 7, .inl (cI, 12, .inl u1.2.1)) t1.heap := hC1
  rw [ht1] at hC1
  have hD1 : va_at D vwCl (z 8, .inl (cI, 12, .inl u1.2.2)) t1.heap := hD1
  rw [ht1] at hD1
  refine lv_aload_n hx hb dL_law_616 rfl (lv_at hl 1 rfl) ?_
  refine lv_aload_n hx hb dL_law_617 rfl (lv_at hl 3 rfl) ?_
  refine lv_iload_n hx hb dL_law_618 rfl (lv_at hl 0 rfl) ?_
  refine lv_iconst (v := 1) hx hb dL_law_619 (by decide) ?_
  refine lv_iadd hx hb dL_law_620 ?_
  refine va_sld hx hb hX hbl hbA hS (hin 1 (by decide)) dL_law_621 ?_
  rw [e1]
  refine lv_aload_n hx hb dL_law_622 rfl (lv_at hl 3 rfl) ?_
  refine lv_iload_n hx hb dL_law_623 rfl (lv_at hl 0 rfl) ?_
  refine lv_iconst (v := 2) hx hb dL_law_624 (by decide) ?_
  refine lv_iadd hx hb dL_law_625 ?_
  refine va_sld hx hb hX hbl hbA hS (hin 2 (by decide)) dL_law_626 ?_
  rw [e2]
  have hq_7 : va_P D vwCl [((z 13), .inr (6, [.ref (z 14), .double w0, .double w1, .double w2, .double w3, .double w4, .double w5, .double w6, .double w7, .double w8, .double w9, .int ct, .int cp, .int cr, .int ctr, .int cfs, .int (nI k), .ref (z 15), .int (nI k2), .ref (z 16), .ref (z 17), .double w10])), ((z 16), .inl (cI, 12, .inl f1)), ((z 17), .inl (cI, 12, .inl f2))] H1 := fr_cons (va_at.kept (hP.c13) (hkh1 _ (va_at_lt (hP.c13)) (fun h9 => h9.elim (hz.ne 13 6 (by decide) (by decide) (by decide)) (fun h9 => h9.elim (hz.ne 13 7 (by decide) (by decide) (by decide)) (hz.ne 13 8 (by decide) (by decide) (by decide)))))) (fr_cons (va_at.kept (hP.c16) (hkh1 _ (va_at_lt (hP.c16)) (fun h9 => h9.elim (hz.ne 16 6 (by decide) (by decide) (by decide)) (fun h9 => h9.elim (hz.ne 16 7 (by decide) (by decide) (by decide)) (hz.ne 16 8 (by decide) (by decide) (by decide)))))) (fr_cons (va_at.kept (hP.c17) (hkh1 _ (va_at_lt (hP.c17)) (fun h9 => h9.elim (hz.ne 17 6 (by decide) (by decide) (by decide)) (fun h9 => h9.elim (hz.ne 17 7 (by decide) (by decide) (by decide)) (hz.ne 17 8 (by decide) (by decide) (by decide)))))) (fr_nil)))
  refine va_calli (va_runV (As := [.int v1, .int v2]) (rest := [.int r1]) ⟨hx, hb, hml, hown, hts⟩ (mX7_reading l D cI cH (z 13) (z 14) (z 15) (z 16) (z 17) k k2 ct cp cr ctr cfs w0 w1 w2 w3 w4 w5 w6 w7 w8 w9 w10 f1 f2 v1 v2 hk2 (hz.ne 16 13 (by decide) (by decide) (by decide)) (hz.ne 17 13 (by decide) (by decide) (by decide)) (hz.ne 17 16 (by decide) (by decide) (by decide))) (cwV 2 hts gL_law_X7_reading rfl rfl rfl (by decide +kernel) ⟨Nat.le_of_ble_eq_true rfl, Nat.le_of_ble_eq_true rfl⟩) ⟨kB_blind, va_recv hw.1 hq_7 (ci := 6) (q0 := 0) rfl rfl, kB_go hq_7 hw⟩ rfl rfl hl.1 rfl (lv_room (Nat.le_of_ble_eq_true rfl)) dL_law_627 ⟨hc, hs9⟩) hS (fun q9 _ h9 => h9.elim (fun h9 => h9 ▸ hz.2 13 (by decide)) (fun h9 => h9.elim (fun h9 => h9 ▸ hz.2 16 (by decide)) (fun h9 => h9 ▸ hz.2 17 (by decide)))) (fun q9 h9 => h9.elim (fun h9 => h9 ▸ hz.2 13 (by decide)) (fun h9 => h9.elim (fun h9 => h9 ▸ hz.2 16 (by decide)) (fun h9 => h9 ▸ hz.2 17 (by decide)))) (fun r2 u2 t2 H2 locs ht2 hvm2 hp2 hB2 hz22 hkh2 hS => ?_)
  obtain ⟨hB2, hC2, hD2⟩ := hB2
  have hB2 : va_at D vwCl (z 13, .inr (6, u2.1)) t2.heap := hB2
  rw [ht2] at hB2
  have hC2 : va_at D vwCl (z 16, .inl (cI, 12, .inl u2.2.1)) t2.heap := hC2
  rw [ht2] at hC2
  have hD2 : va_at D vwCl (z 17, .inl (cI, 12, .inl u2.2.2)) t2.heap := hD2
  rw [ht2] at hD2
  have eq9 : r1 = r2 := by
    by_cases hv : (okC v1 && isW v2 (-5000) 5000) = true
    · rw [if_pos hv] at hp1 hp2
      by_cases hf : k2 < 12
      · rw [if_pos hf] at hp1 hp2
        exact hp1.1.trans hp2.1.symm
      · rw [if_neg hf] at hp1 hp2
        exact hp1.1.trans hp2.1.symm
    · rw [if_neg hv] at hp1 hp2
      exact hp1.1.trans hp2.1.symm
  refine lv_icmp_eq (tgt := 828) hx hb dL_law_630 (by decide) (fun _ => ?_) (fun c9 => absurd eq9 c9)
  by_cases hv : (okC v1 && isW v2 (-5000) 5000) = true
  · rw [if_pos hv] at hp1 hp2
    by_cases hf : k2 < 12
    · rw [if_pos hf] at hp1 hp2
      obtain ⟨hr1, rfl⟩ := hp1
      obtain ⟨hr2, hu2, hn2, hm2⟩ := hp2
      rw [hn2] at hC2
      rw [hm2] at hD2
      have hrd9 : ∀ j, j < k2 + 1 → cB (upd f1 k2 v1 j) ∧ rB (upd f2 k2 v2 j) := by
        intro j hj
        rw [Bool.and_eq_true] at hv
        by_cases ej : j = k2
        · rw [ej, upd_self, upd_self]
          exact ⟨okC_c hv.1, isW_i hv.2⟩
        · rw [upd_off _ _ ej, upd_off _ _ ej]
          exact hrd j (by omega)
      exact kk H2 locs ⟨N, ft, (upd f1 k2 v1), (upd f2 k2 v2), k, (k2 + 1), ct, cp, cr, ctr, cfs, _, _, ⟨hk, by omega, hhg, hft, hrd9⟩, ⟨_, _, _, _, _, _, _, _, _, _, _, _, _, _, rfl⟩, hu2, fin_rd hz hP hkh1 hkh2 hB1 hC1 hD1 hB2 hC2 hD2⟩ hS
    · rw [if_neg hf] at hp1 hp2
      obtain ⟨hr1, rfl⟩ := hp1
      obtain ⟨hr2, hu2, hn2, hm2⟩ := hp2
      rw [hn2] at hC2
      rw [hm2] at hD2
      exact kk H2 locs ⟨N, ft, f1, f2, k, k2, ct, cp, cr, ctr, cfs, _, _, hok, ⟨_, _, _, _, _, _, _, _, _, _, _, _, _, _, rfl⟩, hu2, fin_rd hz hP hkh1 hkh2 hB1 hC1 hD1 hB2 hC2 hD2⟩ hS
  · rw [if_neg hv] at hp1 hp2
    obtain ⟨hr1, rfl⟩ := hp1
    obtain ⟨hr2, hu2, hn2, hm2⟩ := hp2
    rw [hn2] at hC2
    rw [hm2] at hD2
    exact kk H2 locs ⟨N, ft, f1, f2, k, k2, ct, cp, cr, ctr, cfs, _, _, hok, ⟨_, _, _, _, _, _, _, _, _, _, _, _, _, _, rfl⟩, hu2, fin_rd hz hP hkh1 hkh2 hB1 hC1 hD1 hB2 hC2 hD2⟩ hS
set_option maxHeartbeats 4000000 in
set_option maxRecDepth 100000 in
theorem br_clear {p : Program} {l : Launch} {e : Env} {s : State} {m : MethodId} {args : Array Value} {below : List Frame} {meth : Method} {co : Code} {Q : State → Prop} {A : Nat → Prop} {b L : Nat} {xs : Nat → Int32} {x3 : Int32} {H : Heap} {locs : List Loc} {cells slots : Nat} {ls : Array Slot} {D : va_G} {cI cH : ClassId} {z : Nat → Nat} {fh : Nat → Option Nat} (hc : cells ≤ 600000) (hs9 : slots ≤ 7302250) (hx : p.tables.exec = Jvm.exec) (hb : co.code = cL_law) (hml : co.maxLocals = 4) (hown : s.vm.findClass RL = some m.cls) (hts : ∀ w ∈ wsL_law, w.before args s = true) (hw : wk D cI cH s) (hX : va_X b L xs s s.heap) (hbl : b < s.heap.size) (hbA : ¬ A b) (hz : zOk A z) (hfh : ∀ j, j < 4 → fh j = some (z (9 + j))) (hin : ∀ v : Int32, isW v 0 9 = true → vp_in (x3 + v) L) (hS : va_S A s.heap H locs) (hI : inv D cI cH z fh H) (hl : lv_has ls 4 [(3, .int x3), (2, .ref (z 13)), (1, .ref (z 0)), (0, .ref b)]) (kk : ∀ (H : Heap) (locs : List Loc), inv D cI cH z fh H → va_S A s.heap H locs → W p l e room_1 s m args below meth co H locs cells slots Q (F0 m 828 ls [])) : W p l e room_1 s m args below meth co H locs cells slots Q (F0 m 635 ls []) := by
  obtain ⟨N, ft, f1, f2, k, k2, ct, cp, cr, ctr, cfs, us, um, hok, hus, hum, hP⟩ := hI
  obtain ⟨y12, y13, y0, y1, y2, y3, y4, y5, y6, y7, y8, y9, y10, y11, rfl⟩ := hus
  obtain ⟨w0, w1, w2, w3, w4, w5, w6, w7, w8, w9, w10, rfl⟩ := hum
  obtain ⟨hk, hk2, hhg, hft, hrd⟩ := id hok
  refine lv_aload_n hx hb dL_law_635 rfl (lv_at hl 2 rfl) ?_
  have hq_6 : va_P D vwCl [((z 6), .inr (2, [.ref (z 7), .ref (z 8), .int (nI k2)])), ((z 0), .inr (5, [.ref (z 1), .ref (z 2), .ref (z 3), .ref (z 4), .ref (z 6)]))] H := fr_cons (hP.c6) (fr_cons (hP.c0) (fr_nil))
  refine va_calli (va_runV (As := []) (rest := []) ⟨hx, hb, hml, hown, hts⟩ (mX6_clear l D cI cH (z 0) (z 1) (z 2) (z 3) (z 4) (z 6) (z 7) (z 8) k2 (hz.ne 0 6 (by decide) (by decide) (by decide))) (cwV 0 hts gL_law_X6_clear rfl rfl rfl (by decide +kernel) ⟨Nat.le_of_ble_eq_true rfl, Nat.le_of_ble_eq_true rfl⟩) ⟨kB_blind, va_recv hw.1 hq_6 (ci := 5) (q0 := 1) rfl rfl, kB_go hq_6 hw⟩ rfl rfl hl.1 rfl (lv_room (Nat.le_of_ble_eq_true rfl)) dL_law_636 ⟨hc, hs9⟩) hS (fun q9 _ h9 => h9 ▸ hz.2 6 (by decide)) (fun q9 h9 => h9 ▸ hz.2 6 (by decide)) (fun r1 u1 t1 H1 locs ht1 hvm1 hp1 hB1 hz11 hkh1 hS => ?_)
  have hB1 : va_at D vwCl (z 6, .inr (2, u1)) t1.heap := hB1
  rw [ht1] at hB1
  refine lv_aload_n hx hb dL_law_639 rfl (lv_at hl 1 rfl) ?_
  have hq_7 : va_P D vwCl [((z 13), .inr (6, [.ref (z 14), .double w0, .double w1, .double w2, .double w3, .double w4, .double w5, .double w6, .double w7, .double w8, .double w9, .int ct, .int cp, .int cr, .int ctr, .int cfs, .int (nI k), .ref (z 15), .int (nI k2), .ref (z 16), .ref (z 17), .double w10]))] H1 := fr_cons (va_at.kept (hP.c13) (hkh1 _ (va_at_lt (hP.c13)) (hz.ne 13 6 (by decide) (by decide) (by decide)))) (fr_nil)
  refine va_calli (va_runV (As := []) (rest := [.int r1]) ⟨hx, hb, hml, hown, hts⟩ (mX7_clear l D cI cH (z 13) (z 14) (z 15) (z 16) (z 17) k k2 ct cp cr ctr cfs w0 w1 w2 w3 w4 w5 w6 w7 w8 w9 w10) (cwV 0 hts gL_law_X7_clear rfl rfl rfl (by decide +kernel) ⟨Nat.le_of_ble_eq_true rfl, Nat.le_of_ble_eq_true rfl⟩) ⟨kB_blind, va_recv hw.1 hq_7 (ci := 6) (q0 := 0) rfl rfl, kB_go hq_7 hw⟩ rfl rfl hl.1 rfl (lv_room (Nat.le_of_ble_eq_true rfl)) dL_law_640 ⟨hc, hs9⟩) hS (fun q9 _ h9 => h9 ▸ hz.2 13 (by decide)) (fun q9 h9 => h9 ▸ hz.2 13 (by decide)) (fun r2 u2 t2 H2 locs ht2 hvm2 hp2 hB2 hz22 hkh2 hS => ?_)
  have hB2 : va_at D vwCl (z 13, .inr (6, u2)) t2.heap := hB2
  rw [ht2] at hB2
  obtain ⟨hr1, hu1⟩ := hp1
  obtain ⟨hr2, hu2⟩ := hp2
  refine lv_icmp_eq (tgt := 828) hx hb dL_law_643 (by decide) (fun _ => ?_) (fun c9 => absurd (hr1.trans hr2.symm) c9)
  rw [hu1] at hB1
  have hB1 : va_at D vwCl (z 6, .inr (2, [.ref (z 7), .ref (z 8), .int (nI 0)])) H1 := by rw [nI_0]; exact hB1
  exact kk H2 locs ⟨N, ft, f1, f2, k, 0, ct, cp, cr, ctr, cfs, _, _, ⟨hk, by omega, hhg, hft, fun j hj => absurd hj (by omega)⟩, ⟨_, _, _, _, _, _, _, _, _, _, _, _, _, _, rfl⟩, hu2, fin_cl hz hP hkh1 hkh2 hB1 hB2⟩ hS
set_option maxHeartbeats 4000000 in
set_option maxRecDepth 100000 in
theorem br_off {p : Program} {l : Launch} {e : Env} {s : State} {m : MethodId} {args : Array Value} {below : List Frame} {meth : Method} {co : Code} {Q : State → Prop} {A : Nat → Prop} {b L : Nat} {xs : Nat → Int32} {x3 : Int32} {H : Heap} {locs : List Loc} {cells slots : Nat} {ls : Array Slot} {D : va_G} {cI cH : ClassId} {z : Nat → Nat} {fh : Nat → Option Nat} (hc : cells ≤ 600000) (hs9 : slots ≤ 7302250) (hx : p.tables.exec = Jvm.exec) (hb : co.code = cL_law) (hml : co.maxLocals = 4) (hown : s.vm.findClass RL = some m.cls) (hts : ∀ w ∈ wsL_law, w.before args s = true) (hw : wk D cI cH s) (hX : va_X b L xs s s.heap) (hbl : b < s.heap.size) (hbA : ¬ A b) (hz : zOk A z) (hfh : ∀ j, j < 4 → fh j = some (z (9 + j))) (hin : ∀ v : Int32, isW v 0 9 = true → vp_in (x3 + v) L) (hS : va_S A s.heap H locs) (hI : inv D cI cH z fh H) (hl : lv_has ls 4 [(3, .int x3), (2, .ref (z 13)), (1, .ref (z 0)), (0, .ref b)]) (kk : ∀ (H : Heap) (locs : List Loc), inv D cI cH z fh H → va_S A s.heap H locs → W p l e room_1 s m args below meth co H locs cells slots Q (F0 m 828 ls [])) : W p l e room_1 s m args below meth co H locs cells slots Q (F0 m 648 ls []) := by
  obtain ⟨N, ft, f1, f2, k, k2, ct, cp, cr, ctr, cfs, us, um, hok, hus, hum, hP⟩ := hI
  obtain ⟨y12, y13, y0, y1, y2, y3, y4, y5, y6, y7, y8, y9, y10, y11, rfl⟩ := hus
  obtain ⟨w0, w1, w2, w3, w4, w5, w6, w7, w8, w9, w10, rfl⟩ := hum
  obtain ⟨hk, hk2, hhg, hft, hrd⟩ := id hok
  obtain ⟨v1, e1⟩ : ∃ y : Int32, xs (x3 + 1).toNatClampNeg = y := ⟨_, rfl⟩
  obtain ⟨q, hq, hq6, hq7⟩ := okH_q v1
  refine lv_aload_n hx hb dL_law_648 rfl (lv_at hl 2 rfl) ?_
  refine lv_aload_n hx hb dL_law_649 rfl (lv_at hl 3 rfl) ?_
  refine lv_iload_n hx hb dL_law_650 rfl (lv_at hl 0 rfl) ?_
  refine lv_iconst (v := 1) hx hb dL_law_651 (by decide) ?_
  refine lv_iadd hx hb dL_law_652 ?_
  refine va_sld hx hb hX hbl hbA hS (hin 1 (by decide)) dL_law_653 ?_
  rw [e1]
  have hq_6 : va_P D vwCl [((z 2), .inr (4, [.int y12, .int y13, .double y0, .double y1, .double y2, .double y3, .double y4, .double y5, .double y6, .double y7, .double y8, .double y9, .double y10, .double y11])), ((z 0), .inr (5, [.ref (z 1), .ref (z 2), .ref (z 3), .ref (z 4), .ref (z 6)])), ((z 1), .inl (cH, 4, .inr (.inr (.inr (.inr fh))))), ((z 6), .inr (2, [.ref (z 7), .ref (z 8), .int (nI k2)])), ((z 7), .inl (cI, 12, .inl f1)), ((z 8), .inl (cI, 12, .inl f2)), ((z (9 + q)), .inr (1, [.int (N (13 * q)), .int (N (13 * q + 1)), .int (N (13 * q + 4)), .int (N (13 * q + 2)), .int (N (13 * q + 3)), .int (N (13 * q + 5)), .int (N (13 * q + 6)), .int (N (13 * q + 7)), .int (N (13 * q + 8)), .int (N (13 * q + 9)), .int (N (13 * q + 10)), .int (N (13 * q + 11)), .int (N (13 * q + 12))]))] H := fr_cons (hP.c2) (fr_cons (hP.c0) (fr_cons (hP.c1) (fr_cons (hP.c6) (fr_cons (hP.c7) (fr_cons (hP.c8) (fr_cons ((hP.hg hq)) (fr_nil)))))))
  refine va_calll (va_runV (As := [.int v1]) (rest := []) ⟨hx, hb, hml, hown, hts⟩ (mX6_off l D cI cH (z 0) (z 1) (z 2) (z 3) (z 4) (z 6) (z (9 + q)) (z 7) (z 8) k2 fh f1 f2 y12 y13 y0 y1 y2 y3 y4 y5 y6 y7 y8 y9 y10 y11 (N (13 * q)) (N (13 * q + 1)) (N (13 * q + 4)) (N (13 * q + 2)) (N (13 * q + 3)) (N (13 * q + 5)) (N (13 * q + 6)) (N (13 * q + 7)) (N (13 * q + 8)) (N (13 * q + 9)) (N (13 * q + 10)) (N (13 * q + 11)) (N (13 * q + 12)) v1 (hz.ne 0 2 (by decide) (by decide) (by decide)) (hz.ne 1 2 (by decide) (by decide) (by decide)) (hz.ne (9 + q) 2 (by omega) (by decide) (by omega)) (hz.ne 6 2 (by decide) (by decide) (by decide)) (hz.ne 7 2 (by decide) (by decide) (by decide)) (hz.ne 8 2 (by decide) (by decide) (by decide)) (hhg q hq) hk2 hrd (fun h9 => by rw [hq6 h9]; exact hfh q hq)) (cwV 1 hts gL_law_X6_off rfl rfl rfl (by decide +kernel) ⟨Nat.le_of_ble_eq_true rfl, Nat.le_of_ble_eq_true rfl⟩) ⟨kB_blind, va_recv hw.1 hq_6 (ci := 5) (q0 := 1) rfl rfl, kB_go hq_6 hw⟩ rfl rfl hl.1 rfl (lv_room (Nat.le_of_ble_eq_true rfl)) dL_law_654 ⟨hc, hs9⟩) hS (fun q9 _ h9 => h9 ▸ hz.2 2 (by decide)) (fun q9 h9 => h9 ▸ hz.2 2 (by decide)) (fun r1 u1 t1 H1 locs ht1 hvm1 hp1 hB1 hz11 hkh1 hS => ?_)
  have hB1 : va_at D vwCl (z 2, .inr (4, u1)) t1.heap := hB1
  rw [ht1] at hB1
  refine lv_aload_n hx hb dL_law_657 rfl (lv_at hl 1 rfl) ?_
  refine lv_aload_n hx hb dL_law_658 rfl (lv_at hl 3 rfl) ?_
  refine lv_iload_n hx hb dL_law_659 rfl (lv_at hl 0 rfl) ?_
  refine lv_iconst (v := 1) hx hb dL_law_660 (by decide) ?_
  refine lv_iadd hx hb dL_law_661 ?_
  refine va_sld hx hb hX hbl hbA hS (hin 1 (by decide)) dL_law_662 ?_
  rw [e1]
  have hq_7 : va_P D vwCl [((z 13), .inr (6, [.ref (z 14), .double w0, .double w1, .double w2, .double w3, .double w4, .double w5, .double w6, .double w7, .double w8, .double w9, .int ct, .int cp, .int cr, .int ctr, .int cfs, .int (nI k), .ref (z 15), .int (nI k2), .ref (z 16), .ref (z 17), .double w10])), ((z 14), .inl (cI, 52, .inl N)), ((z 16), .inl (cI, 12, .inl f1)), ((z 17), .inl (cI, 12, .inl f2))] H1 := fr_cons (va_at.kept (hP.c13) (hkh1 _ (va_at_lt (hP.c13)) (hz.ne 13 2 (by decide) (by decide) (by decide)))) (fr_cons (va_at.kept (hP.c14) (hkh1 _ (va_at_lt (hP.c14)) (hz.ne 14 2 (by decide) (by decide) (by decide)))) (fr_cons (va_at.kept (hP.c16) (hkh1 _ (va_at_lt (hP.c16)) (hz.ne 16 2 (by decide) (by decide) (by decide)))) (fr_cons (va_at.kept (hP.c17) (hkh1 _ (va_at_lt (hP.c17)) (hz.ne 17 2 (by decide) (by decide) (by decide)))) (fr_nil))))
  refine va_calll (va_runV (As := [.int v1]) (rest := [.long r1]) ⟨hx, hb, hml, hown, hts⟩ (mX7_off l D cI cH (z 13) (z 14) (z 15) (z 16) (z 17) k k2 q N ct cp cr ctr cfs w0 w1 w2 w3 w4 w5 w6 w7 w8 w9 w10 (N (13 * q)) (N (13 * q + 1)) (N (13 * q + 2)) (N (13 * q + 3)) (N (13 * q + 4)) (N (13 * q + 5)) (N (13 * q + 6)) (N (13 * q + 7)) (N (13 * q + 8)) (N (13 * q + 9)) (N (13 * q + 10)) (N (13 * q + 11)) (N (13 * q + 12)) f1 f2 v1 hq (hz.ne 14 13 (by decide) (by decide) (by decide)) ⟨rfl, rfl, rfl, rfl, rfl, rfl, rfl, rfl, rfl, rfl, rfl, rfl, rfl⟩ (hhg q hq) (hz.ne 16 13 (by decide) (by decide) (by decide)) (hz.ne 17 13 (by decide) (by decide) (by decide)) hk2 hrd hq7) (cwV 1 hts gL_law_X7_off rfl rfl rfl (by decide +kernel) ⟨Nat.le_of_ble_eq_true rfl, Nat.le_of_ble_eq_true rfl⟩) ⟨kB_blind, va_recv hw.1 hq_7 (ci := 6) (q0 := 0) rfl rfl, kB_go hq_7 hw⟩ rfl rfl hl.1 rfl (lv_room (Nat.le_of_ble_eq_true rfl)) dL_law_663 ⟨hc, hs9⟩) hS (fun q9 _ h9 => h9 ▸ hz.2 13 (by decide)) (fun q9 h9 => h9 ▸ hz.2 13 (by decide)) (fun r2 u2 t2 H2 locs ht2 hvm2 hp2 hB2 hz22 hkh2 hS => ?_)
  have hB2 : va_at D vwCl (z 13, .inr (6, u2)) t2.heap := hB2
  rw [ht2] at hB2
  obtain ⟨hr1, hu1⟩ := hp1
  obtain ⟨hr2, hu2⟩ := hp2
  refine W.lcmp hx hb dL_law_666 ?_
  refine lv_if_eq (tgt := 828) hx hb dL_law_667 (by decide) (fun _ => ?_) (fun c9 => absurd ((lg_cmp_eq r1 r2).mpr (hr1.trans hr2.symm)) c9)
  exact kk H2 locs ⟨N, ft, f1, f2, k, k2, ct, cp, cr, ctr, cfs, _, _, hok, hu1, hu2, fin_st hz hP hkh1 hkh2 hB1 hB2⟩ hS
set_option maxHeartbeats 4000000 in
set_option maxRecDepth 100000 in
theorem br_found {p : Program} {l : Launch} {e : Env} {s : State} {m : MethodId} {args : Array Value} {below : List Frame} {meth : Method} {co : Code} {Q : State → Prop} {A : Nat → Prop} {b L : Nat} {xs : Nat → Int32} {x3 : Int32} {H : Heap} {locs : List Loc} {cells slots : Nat} {ls : Array Slot} {D : va_G} {cI cH : ClassId} {z : Nat → Nat} {fh : Nat → Option Nat} (hc : cells ≤ 600000) (hs9 : slots ≤ 7302250) (hx : p.tables.exec = Jvm.exec) (hb : co.code = cL_law) (hml : co.maxLocals = 4) (hown : s.vm.findClass RL = some m.cls) (hts : ∀ w ∈ wsL_law, w.before args s = true) (hw : wk D cI cH s) (hX : va_X b L xs s s.heap) (hbl : b < s.heap.size) (hbA : ¬ A b) (hz : zOk A z) (hfh : ∀ j, j < 4 → fh j = some (z (9 + j))) (hin : ∀ v : Int32, isW v 0 9 = true → vp_in (x3 + v) L) (hS : va_S A s.heap H locs) (hI : inv D cI cH z fh H) (hl : lv_has ls 4 [(3, .int x3), (2, .ref (z 13)), (1, .ref (z 0)), (0, .ref b)]) (kk : ∀ (H : Heap) (locs : List Loc), inv D cI cH z fh H → va_S A s.heap H locs → W p l e room_1 s m args below meth co H locs cells slots Q (F0 m 828 ls [])) : W p l e room_1 s m args below meth co H locs cells slots Q (F0 m 672 ls []) := by
  obtain ⟨N, ft, f1, f2, k, k2, ct, cp, cr, ctr, cfs, us, um, hok, hus, hum, hP⟩ := hI
  obtain ⟨y12, y13, y0, y1, y2, y3, y4, y5, y6, y7, y8, y9, y10, y11, rfl⟩ := hus
  obtain ⟨w0, w1, w2, w3, w4, w5, w6, w7, w8, w9, w10, rfl⟩ := hum
  obtain ⟨hk, hk2, hhg, hft, hrd⟩ := id hok
  obtain ⟨v1, e1⟩ : ∃ y : Int32, xs (x3 + 1).toNatClampNeg = y := ⟨_, rfl⟩
  obtain ⟨v2, e2⟩ : ∃ y : Int32, xs (x3 + 2).toNatClampNeg = y := ⟨_, rfl⟩
  obtain ⟨v3, e3⟩ : ∃ y : Int32, xs (x3 + 3).toNatClampNeg = y := ⟨_, rfl⟩
  obtain ⟨q, hq, hq6, hq7⟩ := okH_q v1
  refine lv_aload_n hx hb dL_law_672 rfl (lv_at hl 2 rfl) ?_
  refine lv_aload_n hx hb dL_law_673 rfl (lv_at hl 3 rfl) ?_
  refine lv_iload_n hx hb dL_law_674 rfl (lv_at hl 0 rfl) ?_
  refine lv_iconst (v := 1) hx hb dL_law_675 (by decide) ?_
  refine lv_iadd hx hb dL_law_676 ?_
  refine va_sld hx hb hX hbl hbA hS (hin 1 (by decide)) dL_law_677 ?_
  rw [e1]
  refine lv_aload_n hx hb dL_law_678 rfl (lv_at hl 3 rfl) ?_
  refine lv_iload_n hx hb dL_law_679 rfl (lv_at hl 0 rfl) ?_
  refine lv_iconst (v := 2) hx hb dL_law_680 (by decide) ?_
  refine lv_iadd hx hb dL_law_681 ?_
  refine va_sld hx hb hX hbl hbA hS (hin 2 (by decide)) dL_law_682 ?_
  rw [e2]
  refine lv_aload_n hx hb dL_law_683 rfl (lv_at hl 3 rfl) ?_
  refine lv_iload_n hx hb dL_law_684 rfl (lv_at hl 0 rfl) ?_
  refine lv_iconst (v := 3) hx hb dL_law_685 (by decide) ?_
  refine lv_iadd hx hb dL_law_686 ?_
  refine va_sld hx hb hX hbl hbA hS (hin 3 (by decide)) dL_law_687 ?_
  rw [e3]
  have hq_6 : va_P D vwCl [((z 2), .inr (4, [.int y12, .int y13, .double y0, .double y1, .double y2, .double y3, .double y4, .double y5, .double y6, .double y7, .double y8, .double y9, .double y10, .double y11])), ((z 0), .inr (5, [.ref (z 1), .ref (z 2), .ref (z 3), .ref (z 4), .ref (z 6)])), ((z 1), .inl (cH, 4, .inr (.inr (.inr (.inr fh))))), ((z 6), .inr (2, [.ref (z 7), .ref (z 8), .int (nI k2)])), ((z 7), .inl (cI, 12, .inl f1)), ((z 8), .inl (cI, 12, .inl f2)), ((z (9 + q)), .inr (1, [.int (N (13 * q)), .int (N (13 * q + 1)), .int (N (13 * q + 4)), .int (N (13 * q + 2)), .int (N (13 * q + 3)), .int (N (13 * q + 5)), .int (N (13 * q + 6)), .int (N (13 * q + 7)), .int (N (13 * q + 8)), .int (N (13 * q + 9)), .int (N (13 * q + 10)), .int (N (13 * q + 11)), .int (N (13 * q + 12))]))] H := fr_cons (hP.c2) (fr_cons (hP.c0) (fr_cons (hP.c1) (fr_cons (hP.c6) (fr_cons (hP.c7) (fr_cons (hP.c8) (fr_cons ((hP.hg hq)) (fr_nil)))))))
  refine va_calll (va_runV (As := [.int v1, .int v2, .int v3]) (rest := []) ⟨hx, hb, hml, hown, hts⟩ (mX6_found l D cI cH (z 0) (z 1) (z 2) (z 3) (z 4) (z 6) (z (9 + q)) (z 7) (z 8) k2 fh f1 f2 y12 y13 y0 y1 y2 y3 y4 y5 y6 y7 y8 y9 y10 y11 (N (13 * q)) (N (13 * q + 1)) (N (13 * q + 4)) (N (13 * q + 2)) (N (13 * q + 3)) (N (13 * q + 5)) (N (13 * q + 6)) (N (13 * q + 7)) (N (13 * q + 8)) (N (13 * q + 9)) (N (13 * q + 10)) (N (13 * q + 11)) (N (13 * q + 12)) v1 v2 v3 (hz.ne 0 2 (by decide) (by decide) (by decide)) (hz.ne 1 2 (by decide) (by decide) (by decide)) (hz.ne (9 + q) 2 (by omega) (by decide) (by omega)) (hz.ne 6 2 (by decide) (by decide) (by decide)) (hz.ne 7 2 (by decide) (by decide) (by decide)) (hz.ne 8 2 (by decide) (by decide) (by decide)) (hhg q hq) hk2 hrd (fun h9 => by rw [hq6 h9]; exact hfh q hq)) (cwV 3 hts gL_law_X6_found rfl rfl rfl (by decide +kernel) ⟨Nat.le_of_ble_eq_true rfl, Nat.le_of_ble_eq_true rfl⟩) ⟨kB_blind, va_recv hw.1 hq_6 (ci := 5) (q0 := 1) rfl rfl, kB_go hq_6 hw⟩ rfl rfl hl.1 rfl (lv_room (Nat.le_of_ble_eq_true rfl)) dL_law_688 ⟨hc, hs9⟩) hS (fun q9 _ h9 => h9 ▸ hz.2 2 (by decide)) (fun q9 h9 => h9 ▸ hz.2 2 (by decide)) (fun r1 u1 t1 H1 locs ht1 hvm1 hp1 hB1 hz11 hkh1 hS => ?_)
  have hB1 : va_at D vwCl (z 2, .inr (4, u1)) t1.heap := hB1
  rw [ht1] at hB1
  refine lv_aload_n hx hb dL_law_691 rfl (lv_at hl 1 rfl) ?_
  refine lv_aload_n hx hb dL_law_692 rfl (lv_at hl 3 rfl) ?_
  refine lv_iload_n hx hb dL_law_693 rfl (lv_at hl 0 rfl) ?_
  refine lv_iconst (v := 1) hx hb dL_law_694 (by decide) ?_
  refine lv_iadd hx hb dL_law_695 ?_
  refine va_sld hx hb hX hbl hbA hS (hin 1 (by decide)) dL_law_696 ?_
  rw [e1]
  refine lv_aload_n hx hb dL_law_697 rfl (lv_at hl 3 rfl) ?_
  refine lv_iload_n hx hb dL_law_698 rfl (lv_at hl 0 rfl) ?_
  refine lv_iconst (v := 2) hx hb dL_law_699 (by decide) ?_
  refine lv_iadd hx hb dL_law_700 ?_
  refine va_sld hx hb hX hbl hbA hS (hin 2 (by decide)) dL_law_701 ?_
  rw [e2]
  refine lv_aload_n hx hb dL_law_702 rfl (lv_at hl 3 rfl) ?_
  refine lv_iload_n hx hb dL_law_703 rfl (lv_at hl 0 rfl) ?_
  refine lv_iconst (v := 3) hx hb dL_law_704 (by decide) ?_
  refine lv_iadd hx hb dL_law_705 ?_
  refine va_sld hx hb hX hbl hbA hS (hin 3 (by decide)) dL_law_706 ?_
  rw [e3]
  have hq_7 : va_P D vwCl [((z 13), .inr (6, [.ref (z 14), .double w0, .double w1, .double w2, .double w3, .double w4, .double w5, .double w6, .double w7, .double w8, .double w9, .int ct, .int cp, .int cr, .int ctr, .int cfs, .int (nI k), .ref (z 15), .int (nI k2), .ref (z 16), .ref (z 17), .double w10])), ((z 14), .inl (cI, 52, .inl N)), ((z 16), .inl (cI, 12, .inl f1)), ((z 17), .inl (cI, 12, .inl f2))] H1 := fr_cons (va_at.kept (hP.c13) (hkh1 _ (va_at_lt (hP.c13)) (hz.ne 13 2 (by decide) (by decide) (by decide)))) (fr_cons (va_at.kept (hP.c14) (hkh1 _ (va_at_lt (hP.c14)) (hz.ne 14 2 (by decide) (by decide) (by decide)))) (fr_cons (va_at.kept (hP.c16) (hkh1 _ (va_at_lt (hP.c16)) (hz.ne 16 2 (by decide) (by decide) (by decide)))) (fr_cons (va_at.kept (hP.c17) (hkh1 _ (va_at_lt (hP.c17)) (hz.ne 17 2 (by decide) (by decide) (by decide)))) (fr_nil))))
  refine va_calll (va_runV (As := [.int v1, .int v2, .int v3]) (rest := [.long r1]) ⟨hx, hb, hml, hown, hts⟩ (mX7_found l D cI cH (z 13) (z 14) (z 15) (z 16) (z 17) k k2 q N ct cp cr ctr cfs w0 w1 w2 w3 w4 w5 w6 w7 w8 w9 w10 (N (13 * q)) (N (13 * q + 1)) (N (13 * q + 2)) (N (13 * q + 3)) (N (13 * q + 4)) (N (13 * q + 5)) (N (13 * q + 6)) (N (13 * q + 7)) (N (13 * q + 8)) (N (13 * q + 9)) (N (13 * q + 10)) (N (13 * q + 11)) (N (13 * q + 12)) f1 f2 v1 v2 v3 hq (hz.ne 14 13 (by decide) (by decide) (by decide)) ⟨rfl, rfl, rfl, rfl, rfl, rfl, rfl, rfl, rfl, rfl, rfl, rfl, rfl⟩ (hhg q hq) (hz.ne 16 13 (by decide) (by decide) (by decide)) (hz.ne 17 13 (by decide) (by decide) (by decide)) hk2 hrd (hz.ne 16 14 (by decide) (by decide) (by decide)) (hz.ne 17 14 (by decide) (by decide) (by decide)) hq7) (cwV 3 hts gL_law_X7_found rfl rfl rfl (by decide +kernel) ⟨Nat.le_of_ble_eq_true rfl, Nat.le_of_ble_eq_true rfl⟩) ⟨kB_blind, va_recv hw.1 hq_7 (ci := 6) (q0 := 0) rfl rfl, kB_go hq_7 hw⟩ rfl rfl hl.1 rfl (lv_room (Nat.le_of_ble_eq_true rfl)) dL_law_707 ⟨hc, hs9⟩) hS (fun q9 _ h9 => h9.elim (fun h9 => h9 ▸ hz.2 13 (by decide)) (fun h9 => h9 ▸ hz.2 14 (by decide))) (fun q9 h9 => h9.elim (fun h9 => h9 ▸ hz.2 13 (by decide)) (fun h9 => h9 ▸ hz.2 14 (by decide))) (fun r2 u2 t2 H2 locs ht2 hvm2 hp2 hB2 hz22 hkh2 hS => ?_)
  obtain ⟨hB2, hC2⟩ := hB2
  have hB2 : va_at D vwCl (z 13, .inr (6, u2.1)) t2.heap := hB2
  rw [ht2] at hB2
  have hC2 : va_at D vwCl (z 14, .inl (cI, 52, .inl u2.2)) t2.heap := hC2
  rw [ht2] at hC2
  obtain ⟨hr1, hu1⟩ := hp1
  obtain ⟨hr2, hu2, hn2⟩ := hp2
  refine W.lcmp hx hb dL_law_710 ?_
  refine lv_if_eq (tgt := 828) hx hb dL_law_711 (by decide) (fun _ => ?_) (fun c9 => absurd ((lg_cmp_eq r1 r2).mpr (hr1.trans hr2.symm)) c9)
  rw [hn2] at hC2
  exact kk H2 locs ⟨N, ft, f1, f2, k, k2, ct, cp, cr, ctr, cfs, _, _, hok, hu1, hu2, fin_fd hz hP hkh1 hkh2 hB1 hB2 hC2⟩ hS
set_option maxHeartbeats 4000000 in
set_option maxRecDepth 100000 in
theorem br_isClear {p : Program} {l : Launch} {e : Env} {s : State} {m : MethodId} {args : Array Value} {below : List Frame} {meth : Method} {co : Code} {Q : State → Prop} {A : Nat → Prop} {b L : Nat} {xs : Nat → Int32} {x3 : Int32} {H : Heap} {locs : List Loc} {cells slots : Nat} {ls : Array Slot} {D : va_G} {cI cH : ClassId} {z : Nat → Nat} {fh : Nat → Option Nat} (hc : cells ≤ 600000) (hs9 : slots ≤ 7302250) (hx : p.tables.exec = Jvm.exec) (hb : co.code = cL_law) (hml : co.maxLocals = 4) (hown : s.vm.findClass RL = some m.cls) (hts : ∀ w ∈ wsL_law, w.before args s = true) (hw : wk D cI cH s) (hX : va_X b L xs s s.heap) (hbl : b < s.heap.size) (hbA : ¬ A b) (hz : zOk A z) (hfh : ∀ j, j < 4 → fh j = some (z (9 + j))) (hin : ∀ v : Int32, isW v 0 9 = true → vp_in (x3 + v) L) (hS : va_S A s.heap H locs) (hI : inv D cI cH z fh H) (hl : lv_has ls 4 [(3, .int x3), (2, .ref (z 13)), (1, .ref (z 0)), (0, .ref b)]) (kk : ∀ (H : Heap) (locs : List Loc), inv D cI cH z fh H → va_S A s.heap H locs → W p l e room_1 s m args below meth co H locs cells slots Q (F0 m 828 ls [])) : W p l e room_1 s m args below meth co H locs cells slots Q (F0 m 716 ls []) := by
  obtain ⟨N, ft, f1, f2, k, k2, ct, cp, cr, ctr, cfs, us, um, hok, hus, hum, hP⟩ := hI
  obtain ⟨y12, y13, y0, y1, y2, y3, y4, y5, y6, y7, y8, y9, y10, y11, rfl⟩ := hus
  obtain ⟨w0, w1, w2, w3, w4, w5, w6, w7, w8, w9, w10, rfl⟩ := hum
  obtain ⟨hk, hk2, hhg, hft, hrd⟩ := id hok
  obtain ⟨v1, e1⟩ : ∃ y : Int32, xs (x3 + 1).toNatClampNeg = y := ⟨_, rfl⟩
  obtain ⟨v2, e2⟩ : ∃ y : Int32, xs (x3 + 2).toNatClampNeg = y := ⟨_, rfl⟩
  obtain ⟨v3, e3⟩ : ∃ y : Int32, xs (x3 + 3).toNatClampNeg = y := ⟨_, rfl⟩
  obtain ⟨v4, e4⟩ : ∃ y : Int32, xs (x3 + 4).toNatClampNeg = y := ⟨_, rfl⟩
  obtain ⟨v5, e5⟩ : ∃ y : Int32, xs (x3 + 5).toNatClampNeg = y := ⟨_, rfl⟩
  obtain ⟨v6, e6⟩ : ∃ y : Int32, xs (x3 + 6).toNatClampNeg = y := ⟨_, rfl⟩
  obtain ⟨q, hq, hq6, hq7⟩ := okH_q v1
  refine lv_aload_n hx hb dL_law_716 rfl (lv_at hl 2 rfl) ?_
  refine lv_aload_n hx hb dL_law_717 rfl (lv_at hl 3 rfl) ?_
  refine lv_iload_n hx hb dL_law_718 rfl (lv_at hl 0 rfl) ?_
  refine lv_iconst (v := 1) hx hb dL_law_719 (by decide) ?_
  refine lv_iadd hx hb dL_law_720 ?_
  refine va_sld hx hb hX hbl hbA hS (hin 1 (by decide)) dL_law_721 ?_
  rw [e1]
  refine lv_aload_n hx hb dL_law_722 rfl (lv_at hl 3 rfl) ?_
  refine lv_iload_n hx hb dL_law_723 rfl (lv_at hl 0 rfl) ?_
  refine lv_iconst (v := 2) hx hb dL_law_724 (by decide) ?_
  refine lv_iadd hx hb dL_law_725 ?_
  refine va_sld hx hb hX hbl hbA hS (hin 2 (by decide)) dL_law_726 ?_
  rw [e2]
  refine lv_aload_n hx hb dL_law_727 rfl (lv_at hl 3 rfl) ?_
  refine lv_iload_n hx hb dL_law_728 rfl (lv_at hl 0 rfl) ?_
  refine lv_iconst (v := 3) hx hb dL_law_729 (by decide) ?_
  refine lv_iadd hx hb dL_law_730 ?_
  refine va_sld hx hb hX hbl hbA hS (hin 3 (by decide)) dL_law_731 ?_
  rw [e3]
  refine lv_aload_n hx hb dL_law_732 rfl (lv_at hl 3 rfl) ?_
  refine lv_iload_n hx hb dL_law_733 rfl (lv_at hl 0 rfl) ?_
  refine lv_iconst (v := 4) hx hb dL_law_734 (by decide) ?_
  refine lv_iadd hx hb dL_law_735 ?_
  refine va_sld hx hb hX hbl hbA hS (hin 4 (by decide)) dL_law_736 ?_
  rw [e4]
  refine lv_aload_n hx hb dL_law_737 rfl (lv_at hl 3 rfl) ?_
  refine lv_iload_n hx hb dL_law_738 rfl (lv_at hl 0 rfl) ?_
  refine lv_iconst (v := 5) hx hb dL_law_739 (by decide) ?_
  refine lv_iadd hx hb dL_law_740 ?_
  refine va_sld hx hb hX hbl hbA hS (hin 5 (by decide)) dL_law_741 ?_
  rw [e5]
  refine lv_aload_n hx hb dL_law_742 rfl (lv_at hl 3 rfl) ?_
  refine lv_iload_n hx hb dL_law_743 rfl (lv_at hl 0 rfl) ?_
  refine lv_bipush (v := 6) hx hb dL_law_744 (by decide) ?_
  refine lv_iadd hx hb dL_law_746 ?_
  refine va_sld hx hb hX hbl hbA hS (hin 6 (by decide)) dL_law_747 ?_
  rw [e6]
  have hq_6 : va_P D vwCl [((z 2), .inr (4, [.int y12, .int y13, .double y0, .double y1, .double y2, .double y3, .double y4, .double y5, .double y6, .double y7, .double y8, .double y9, .double y10, .double y11])), ((z 0), .inr (5, [.ref (z 1), .ref (z 2), .ref (z 3), .ref (z 4), .ref (z 6)])), ((z 1), .inl (cH, 4, .inr (.inr (.inr (.inr fh))))), ((z (9 + q)), .inr (1, [.int (N (13 * q)), .int (N (13 * q + 1)), .int (N (13 * q + 4)), .int (N (13 * q + 2)), .int (N (13 * q + 3)), .int (N (13 * q + 5)), .int (N (13 * q + 6)), .int (N (13 * q + 7)), .int (N (13 * q + 8)), .int (N (13 * q + 9)), .int (N (13 * q + 10)), .int (N (13 * q + 11)), .int (N (13 * q + 12))]))] H := fr_cons (hP.c2) (fr_cons (hP.c0) (fr_cons (hP.c1) (fr_cons ((hP.hg hq)) (fr_nil))))
  refine va_calli (va_runV (As := [.int v1, .int v2, .int v3, .int v4, .int v5, .int v6]) (rest := []) ⟨hx, hb, hml, hown, hts⟩ (mX6_isClear l D cI cH (z 0) (z 1) (z 2) (z 3) (z 4) (z 6) (z (9 + q)) fh y12 y13 y0 y1 y2 y3 y4 y5 y6 y7 y8 y9 y10 y11 (N (13 * q)) (N (13 * q + 1)) (N (13 * q + 4)) (N (13 * q + 2)) (N (13 * q + 3)) (N (13 * q + 5)) (N (13 * q + 6)) (N (13 * q + 7)) (N (13 * q + 8)) (N (13 * q + 9)) (N (13 * q + 10)) (N (13 * q + 11)) (N (13 * q + 12)) v1 v2 v3 v4 v5 v6 (hz.ne 0 2 (by decide) (by decide) (by decide)) (hz.ne 1 2 (by decide) (by decide) (by decide)) (hz.ne (9 + q) 2 (by omega) (by decide) (by omega)) (hhg q hq) (fun h9 => by rw [hq6 h9]; exact hfh q hq)) (cwV 6 hts gL_law_X6_isClear rfl rfl rfl (by decide +kernel) ⟨Nat.le_of_ble_eq_true rfl, Nat.le_of_ble_eq_true rfl⟩) ⟨kB_blind, va_recv hw.1 hq_6 (ci := 5) (q0 := 1) rfl rfl, kB_go hq_6 hw⟩ rfl rfl hl.1 rfl (lv_room (Nat.le_of_ble_eq_true rfl)) dL_law_748 ⟨hc, hs9⟩) hS (fun q9 _ h9 => h9 ▸ hz.2 2 (by decide)) (fun q9 h9 => h9 ▸ hz.2 2 (by decide)) (fun r1 u1 t1 H1 locs ht1 hvm1 hp1 hB1 hz11 hkh1 hS => ?_)
  have hB1 : va_at D vwCl (z 2, .inr (4, u1)) t1.heap := hB1
  rw [ht1] at hB1
  refine lv_aload_n hx hb dL_law_751 rfl (lv_at hl 1 rfl) ?_
  refine lv_aload_n hx hb dL_law_752 rfl (lv_at hl 3 rfl) ?_
  refine lv_iload_n hx hb dL_law_753 rfl (lv_at hl 0 rfl) ?_
  refine lv_iconst (v := 1) hx hb dL_law_754 (by decide) ?_
  refine lv_iadd hx hb dL_law_755 ?_
  refine va_sld hx hb hX hbl hbA hS (hin 1 (by decide)) dL_law_756 ?_
  rw [e1]
  refine lv_aload_n hx hb dL_law_757 rfl (lv_at hl 3 rfl) ?_
  refine lv_iload_n hx hb dL_law_758 rfl (lv_at hl 0 rfl) ?_
  refine lv_iconst (v := 2) hx hb dL_law_759 (by decide) ?_
  refine lv_iadd hx hb dL_law_760 ?_
  refine va_sld hx hb hX hbl hbA hS (hin 2 (by decide)) dL_law_761 ?_
  rw [e2]
  refine lv_aload_n hx hb dL_law_762 rfl (lv_at hl 3 rfl) ?_
  refine lv_iload_n hx hb dL_law_763 rfl (lv_at hl 0 rfl) ?_
  refine lv_iconst (v := 3) hx hb dL_law_764 (by decide) ?_
  refine lv_iadd hx hb dL_law_765 ?_
  refine va_sld hx hb hX hbl hbA hS (hin 3 (by decide)) dL_law_766 ?_
  rw [e3]
  refine lv_aload_n hx hb dL_law_767 rfl (lv_at hl 3 rfl) ?_
  refine lv_iload_n hx hb dL_law_768 rfl (lv_at hl 0 rfl) ?_
  refine lv_iconst (v := 4) hx hb dL_law_769 (by decide) ?_
  refine lv_iadd hx hb dL_law_770 ?_
  refine va_sld hx hb hX hbl hbA hS (hin 4 (by decide)) dL_law_771 ?_
  rw [e4]
  refine lv_aload_n hx hb dL_law_772 rfl (lv_at hl 3 rfl) ?_
  refine lv_iload_n hx hb dL_law_773 rfl (lv_at hl 0 rfl) ?_
  refine lv_iconst (v := 5) hx hb dL_law_774 (by decide) ?_
  refine lv_iadd hx hb dL_law_775 ?_
  refine va_sld hx hb hX hbl hbA hS (hin 5 (by decide)) dL_law_776 ?_
  rw [e5]
  refine lv_aload_n hx hb dL_law_777 rfl (lv_at hl 3 rfl) ?_
  refine lv_iload_n hx hb dL_law_778 rfl (lv_at hl 0 rfl) ?_
  refine lv_bipush (v := 6) hx hb dL_law_779 (by decide) ?_
  refine lv_iadd hx hb dL_law_781 ?_
  refine va_sld hx hb hX hbl hbA hS (hin 6 (by decide)) dL_law_782 ?_
  rw [e6]
  have hq_7 : va_P D vwCl [((z 13), .inr (6, [.ref (z 14), .double w0, .double w1, .double w2, .double w3, .double w4, .double w5, .double w6, .double w7, .double w8, .double w9, .int ct, .int cp, .int cr, .int ctr, .int cfs, .int (nI k), .ref (z 15), .int (nI k2), .ref (z 16), .ref (z 17), .double w10])), ((z 14), .inl (cI, 52, .inl N))] H1 := fr_cons (va_at.kept (hP.c13) (hkh1 _ (va_at_lt (hP.c13)) (hz.ne 13 2 (by decide) (by decide) (by decide)))) (fr_cons (va_at.kept (hP.c14) (hkh1 _ (va_at_lt (hP.c14)) (hz.ne 14 2 (by decide) (by decide) (by decide)))) (fr_nil))
  refine va_calli (va_runV (As := [.int v1, .int v2, .int v3, .int v4, .int v5, .int v6]) (rest := [.int r1]) ⟨hx, hb, hml, hown, hts⟩ (mX7_isClear l D cI cH (z 13) (z 14) (z 15) (z 16) (z 17) k k2 q N ct cp cr ctr cfs w0 w1 w2 w3 w4 w5 w6 w7 w8 w9 w10 (N (13 * q)) (N (13 * q + 1)) (N (13 * q + 2)) (N (13 * q + 3)) (N (13 * q + 4)) (N (13 * q + 5)) (N (13 * q + 6)) (N (13 * q + 7)) (N (13 * q + 8)) (N (13 * q + 9)) (N (13 * q + 10)) (N (13 * q + 11)) (N (13 * q + 12)) v1 v2 v3 v4 v5 v6 hq (hz.ne 14 13 (by decide) (by decide) (by decide)) ⟨rfl, rfl, rfl, rfl, rfl, rfl, rfl, rfl, rfl, rfl, rfl, rfl, rfl⟩ (hhg q hq) hq7) (cwV 6 hts gL_law_X7_isClear rfl rfl rfl (by decide +kernel) ⟨Nat.le_of_ble_eq_true rfl, Nat.le_of_ble_eq_true rfl⟩) ⟨kB_blind, va_recv hw.1 hq_7 (ci := 6) (q0 := 0) rfl rfl, kB_go hq_7 hw⟩ rfl rfl hl.1 rfl (lv_room (Nat.le_of_ble_eq_true rfl)) dL_law_783 ⟨hc, hs9⟩) hS (fun q9 _ h9 => h9 ▸ hz.2 13 (by decide)) (fun q9 h9 => h9 ▸ hz.2 13 (by decide)) (fun r2 u2 t2 H2 locs ht2 hvm2 hp2 hB2 hz22 hkh2 hS => ?_)
  have hB2 : va_at D vwCl (z 13, .inr (6, u2)) t2.heap := hB2
  rw [ht2] at hB2
  obtain ⟨hr1, hu1⟩ := hp1
  obtain ⟨hr2, hu2⟩ := hp2
  refine lv_icmp_eq (tgt := 828) hx hb dL_law_786 (by decide) (fun _ => ?_) (fun c9 => absurd (hr1.trans hr2.symm) c9)
  exact kk H2 locs ⟨N, ft, f1, f2, k, k2, ct, cp, cr, ctr, cfs, _, _, hok, hu1, hu2, fin_st hz hP hkh1 hkh2 hB1 hB2⟩ hS
set_option maxHeartbeats 4000000 in
set_option maxRecDepth 100000 in
theorem br_count {p : Program} {l : Launch} {e : Env} {s : State} {m : MethodId} {args : Array Value} {below : List Frame} {meth : Method} {co : Code} {Q : State → Prop} {A : Nat → Prop} {b L : Nat} {xs : Nat → Int32} {x3 : Int32} {H : Heap} {locs : List Loc} {cells slots : Nat} {ls : Array Slot} {D : va_G} {cI cH : ClassId} {z : Nat → Nat} {fh : Nat → Option Nat} (hc : cells ≤ 600000) (hs9 : slots ≤ 7302250) (hx : p.tables.exec = Jvm.exec) (hb : co.code = cL_law) (hml : co.maxLocals = 4) (hown : s.vm.findClass RL = some m.cls) (hts : ∀ w ∈ wsL_law, w.before args s = true) (hw : wk D cI cH s) (hX : va_X b L xs s s.heap) (hbl : b < s.heap.size) (hbA : ¬ A b) (hz : zOk A z) (hfh : ∀ j, j < 4 → fh j = some (z (9 + j))) (hin : ∀ v : Int32, isW v 0 9 = true → vp_in (x3 + v) L) (hS : va_S A s.heap H locs) (hI : inv D cI cH z fh H) (hl : lv_has ls 4 [(3, .int x3), (2, .ref (z 13)), (1, .ref (z 0)), (0, .ref b)]) (kk : ∀ (H : Heap) (locs : List Loc), inv D cI cH z fh H → va_S A s.heap H locs → W p l e room_1 s m args below meth co H locs cells slots Q (F0 m 828 ls [])) : W p l e room_1 s m args below meth co H locs cells slots Q (F0 m 791 ls []) := by
  obtain ⟨N, ft, f1, f2, k, k2, ct, cp, cr, ctr, cfs, us, um, hok, hus, hum, hP⟩ := hI
  obtain ⟨y12, y13, y0, y1, y2, y3, y4, y5, y6, y7, y8, y9, y10, y11, rfl⟩ := hus
  obtain ⟨w0, w1, w2, w3, w4, w5, w6, w7, w8, w9, w10, rfl⟩ := hum
  obtain ⟨hk, hk2, hhg, hft, hrd⟩ := id hok
  obtain ⟨v1, e1⟩ : ∃ y : Int32, xs (x3 + 1).toNatClampNeg = y := ⟨_, rfl⟩
  refine lv_aload_n hx hb dL_law_791 rfl (lv_at hl 2 rfl) ?_
  refine lv_aload_n hx hb dL_law_792 rfl (lv_at hl 3 rfl) ?_
  refine lv_iload_n hx hb dL_law_793 rfl (lv_at hl 0 rfl) ?_
  refine lv_iconst (v := 1) hx hb dL_law_794 (by decide) ?_
  refine lv_iadd hx hb dL_law_795 ?_
  refine va_sld hx hb hX hbl hbA hS (hin 1 (by decide)) dL_law_796 ?_
  rw [e1]
  have hq_6 : va_P D vwCl [((z 0), .inr (5, [.ref (z 1), .ref (z 2), .ref (z 3), .ref (z 4), .ref (z 6)])), ((z 4), .inr (3, [.ref (z 5), .int (nI k)])), ((z 6), .inr (2, [.ref (z 7), .ref (z 8), .int (nI k2)]))] H := fr_cons (hP.c0) (fr_cons (hP.c4) (fr_cons (hP.c6) (fr_nil)))
  refine va_calli (va_runV (As := [.int v1]) (rest := []) ⟨hx, hb, hml, hown, hts⟩ (mX6_count l D cI cH (z 0) (z 1) (z 2) (z 3) (z 4) (z 6) (z 5) k (z 7) (z 8) k2 v1) (cwV 1 hts gL_law_X6_count rfl rfl rfl (by decide +kernel) ⟨Nat.le_of_ble_eq_true rfl, Nat.le_of_ble_eq_true rfl⟩) ⟨kB_blind, va_recv hw.1 hq_6 (ci := 5) (q0 := 0) rfl rfl, kB_go hq_6 hw⟩ rfl rfl hl.1 rfl (lv_room (Nat.le_of_ble_eq_true rfl)) dL_law_797 ⟨hc, hs9⟩) hS (fun q9 _ h9 => h9.elim) (fun q9 h9 => h9.elim) (fun r1 u1 t1 H1 locs ht1 hvm1 hp1 hB1 hz11 hkh1 hS => ?_)
  refine lv_aload_n hx hb dL_law_800 rfl (lv_at hl 1 rfl) ?_
  refine lv_aload_n hx hb dL_law_801 rfl (lv_at hl 3 rfl) ?_
  refine lv_iload_n hx hb dL_law_802 rfl (lv_at hl 0 rfl) ?_
  refine lv_iconst (v := 1) hx hb dL_law_803 (by decide) ?_
  refine lv_iadd hx hb dL_law_804 ?_
  refine va_sld hx hb hX hbl hbA hS (hin 1 (by decide)) dL_law_805 ?_
  rw [e1]
  have hq_7 : va_P D vwCl [((z 13), .inr (6, [.ref (z 14), .double w0, .double w1, .double w2, .double w3, .double w4, .double w5, .double w6, .double w7, .double w8, .double w9, .int ct, .int cp, .int cr, .int ctr, .int cfs, .int (nI k), .ref (z 15), .int (nI k2), .ref (z 16), .ref (z 17), .double w10]))] H1 := fr_cons (va_at.kept (hP.c13) (hkh1 _ (va_at_lt (hP.c13)) (fun h9 => h9))) (fr_nil)
  refine va_calli (va_runV (As := [.int v1]) (rest := [.int r1]) ⟨hx, hb, hml, hown, hts⟩ (mX7_count l D cI cH (z 13) (z 14) (z 15) (z 16) (z 17) k k2 ct cp cr ctr cfs w0 w1 w2 w3 w4 w5 w6 w7 w8 w9 w10 v1) (cwV 1 hts gL_law_X7_count rfl rfl rfl (by decide +kernel) ⟨Nat.le_of_ble_eq_true rfl, Nat.le_of_ble_eq_true rfl⟩) ⟨kB_blind, va_recv hw.1 hq_7 (ci := 6) (q0 := 0) rfl rfl, kB_go hq_7 hw⟩ rfl rfl hl.1 rfl (lv_room (Nat.le_of_ble_eq_true rfl)) dL_law_806 ⟨hc, hs9⟩) hS (fun q9 _ h9 => h9.elim) (fun q9 h9 => h9.elim) (fun r2 u2 t2 H2 locs ht2 hvm2 hp2 hB2 hz22 hkh2 hS => ?_)
  refine lv_icmp_eq (tgt := 828) hx hb dL_law_809 (by decide) (fun _ => ?_) (fun c9 => absurd (hp1.trans hp2.symm) c9)
  exact kk H2 locs ⟨N, ft, f1, f2, k, k2, ct, cp, cr, ctr, cfs, _, _, hok, ⟨_, _, _, _, _, _, _, _, _, _, _, _, _, _, rfl⟩, ⟨_, _, _, _, _, _, _, _, _, _, _, rfl⟩, fin_no hz hP hkh1 hkh2⟩ hS
set_option maxHeartbeats 4000000 in
set_option maxRecDepth 100000 in
theorem br_digest {p : Program} {l : Launch} {e : Env} {s : State} {m : MethodId} {args : Array Value} {below : List Frame} {meth : Method} {co : Code} {Q : State → Prop} {A : Nat → Prop} {b L : Nat} {xs : Nat → Int32} {x3 : Int32} {H : Heap} {locs : List Loc} {cells slots : Nat} {ls : Array Slot} {D : va_G} {cI cH : ClassId} {z : Nat → Nat} {fh : Nat → Option Nat} (hc : cells ≤ 600000) (hs9 : slots ≤ 7302250) (hx : p.tables.exec = Jvm.exec) (hb : co.code = cL_law) (hml : co.maxLocals = 4) (hown : s.vm.findClass RL = some m.cls) (hts : ∀ w ∈ wsL_law, w.before args s = true) (hw : wk D cI cH s) (hX : va_X b L xs s s.heap) (hbl : b < s.heap.size) (hbA : ¬ A b) (hz : zOk A z) (hfh : ∀ j, j < 4 → fh j = some (z (9 + j))) (hin : ∀ v : Int32, isW v 0 9 = true → vp_in (x3 + v) L) (hS : va_S A s.heap H locs) (hI : inv D cI cH z fh H) (hl : lv_has ls 4 [(3, .int x3), (2, .ref (z 13)), (1, .ref (z 0)), (0, .ref b)]) (kk : ∀ (H : Heap) (locs : List Loc), inv D cI cH z fh H → va_S A s.heap H locs → W p l e room_1 s m args below meth co H locs cells slots Q (F0 m 828 ls [])) : W p l e room_1 s m args below meth co H locs cells slots Q (F0 m 814 ls []) := by
  obtain ⟨N, ft, f1, f2, k, k2, ct, cp, cr, ctr, cfs, us, um, hok, hus, hum, hP⟩ := hI
  obtain ⟨y12, y13, y0, y1, y2, y3, y4, y5, y6, y7, y8, y9, y10, y11, rfl⟩ := hus
  obtain ⟨w0, w1, w2, w3, w4, w5, w6, w7, w8, w9, w10, rfl⟩ := hum
  obtain ⟨hk, hk2, hhg, hft, hrd⟩ := id hok
  refine lv_aload_n hx hb dL_law_814 rfl (lv_at hl 2 rfl) ?_
  have hq_6 : va_P D vwCl [((z 0), .inr (5, [.ref (z 1), .ref (z 2), .ref (z 3), .ref (z 4), .ref (z 6)])), ((z 1), .inl (cH, 4, .inr (.inr (.inr (.inr fh))))), ((z 9), .inr (1, [.int (N 0), .int (N 1), .int (N 4), .int (N 2), .int (N 3), .int (N 5), .int (N 6), .int (N 7), .int (N 8), .int (N 9), .int (N 10), .int (N 11), .int (N 12)])), ((z 10), .inr (1, [.int (N 13), .int (N 14), .int (N 17), .int (N 15), .int (N 16), .int (N 18), .int (N 19), .int (N 20), .int (N 21), .int (N 22), .int (N 23), .int (N 24), .int (N 25)])), ((z 11), .inr (1, [.int (N 26), .int (N 27), .int (N 30), .int (N 28), .int (N 29), .int (N 31), .int (N 32), .int (N 33), .int (N 34), .int (N 35), .int (N 36), .int (N 37), .int (N 38)])), ((z 12), .inr (1, [.int (N 39), .int (N 40), .int (N 43), .int (N 41), .int (N 42), .int (N 44), .int (N 45), .int (N 46), .int (N 47), .int (N 48), .int (N 49), .int (N 50), .int (N 51)])), ((z 3), .inr (0, [.int ct, .int cp, .int cr, .int ctr, .int cfs])), ((z 4), .inr (3, [.ref (z 5), .int (nI k)])), ((z 5), .inl (cI, 10, .inl ft)), ((z 6), .inr (2, [.ref (z 7), .ref (z 8), .int (nI k2)])), ((z 7), .inl (cI, 12, .inl f1)), ((z 8), .inl (cI, 12, .inl f2))] H := fr_cons (hP.c0) (fr_cons (hP.c1) (fr_cons (hP.c9) (fr_cons (hP.c10) (fr_cons (hP.c11) (fr_cons (hP.c12) (fr_cons (hP.c3) (fr_cons (hP.c4) (fr_cons (hP.c5) (fr_cons (hP.c6) (fr_cons (hP.c7) (fr_cons (hP.c8) (fr_nil))))))))))))
  refine va_calll (va_runV (As := []) (rest := []) ⟨hx, hb, hml, hown, hts⟩ (mX6_digest l D cI cH (z 0) (z 1) (z 2) (z 3) (z 4) (z 6) (z 5) k (z 7) (z 8) k2 (z 9) (z 10) (z 11) (z 12) fh N ft f1 f2 ct cp cr ctr cfs hk hk2 (hfh 0 (by decide)) (hfh 1 (by decide)) (hfh 2 (by decide)) (hfh 3 (by decide))) (cwV 0 hts gL_law_X6_digest rfl rfl rfl (by decide +kernel) ⟨Nat.le_of_ble_eq_true rfl, Nat.le_of_ble_eq_true rfl⟩) ⟨kB_blind, va_recv hw.1 hq_6 (ci := 5) (q0 := 0) rfl rfl, kB_go hq_6 hw⟩ rfl rfl hl.1 rfl (lv_room (Nat.le_of_ble_eq_true rfl)) dL_law_815 ⟨hc, hs9⟩) hS (fun q9 _ h9 => h9.elim) (fun q9 h9 => h9.elim) (fun r1 u1 t1 H1 locs ht1 hvm1 hp1 hB1 hz11 hkh1 hS => ?_)
  refine lv_aload_n hx hb dL_law_818 rfl (lv_at hl 1 rfl) ?_
  have hq_7 : va_P D vwCl [((z 13), .inr (6, [.ref (z 14), .double w0, .double w1, .double w2, .double w3, .double w4, .double w5, .double w6, .double w7, .double w8, .double w9, .int ct, .int cp, .int cr, .int ctr, .int cfs, .int (nI k), .ref (z 15), .int (nI k2), .ref (z 16), .ref (z 17), .double w10])), ((z 14), .inl (cI, 52, .inl N)), ((z 15), .inl (cI, 10, .inl ft)), ((z 16), .inl (cI, 12, .inl f1)), ((z 17), .inl (cI, 12, .inl f2))] H1 := fr_cons (va_at.kept (hP.c13) (hkh1 _ (va_at_lt (hP.c13)) (fun h9 => h9))) (fr_cons (va_at.kept (hP.c14) (hkh1 _ (va_at_lt (hP.c14)) (fun h9 => h9))) (fr_cons (va_at.kept (hP.c15) (hkh1 _ (va_at_lt (hP.c15)) (fun h9 => h9))) (fr_cons (va_at.kept (hP.c16) (hkh1 _ (va_at_lt (hP.c16)) (fun h9 => h9))) (fr_cons (va_at.kept (hP.c17) (hkh1 _ (va_at_lt (hP.c17)) (fun h9 => h9))) (fr_nil)))))
  refine va_calll (va_runV (As := []) (rest := [.long r1]) ⟨hx, hb, hml, hown, hts⟩ (mX7_digest l D cI cH (z 13) (z 14) (z 15) (z 16) (z 17) k k2 N ft f1 f2 ct cp cr ctr cfs w0 w1 w2 w3 w4 w5 w6 w7 w8 w9 w10 hk hk2) (cwV 0 hts gL_law_X7_digest rfl rfl rfl (by decide +kernel) ⟨Nat.le_of_ble_eq_true rfl, Nat.le_of_ble_eq_true rfl⟩) ⟨kB_blind, va_recv hw.1 hq_7 (ci := 6) (q0 := 0) rfl rfl, kB_go hq_7 hw⟩ rfl rfl hl.1 rfl (lv_room (Nat.le_of_ble_eq_true rfl)) dL_law_819 ⟨hc, hs9⟩) hS (fun q9 _ h9 => h9.elim) (fun q9 h9 => h9.elim) (fun r2 u2 t2 H2 locs ht2 hvm2 hp2 hB2 hz22 hkh2 hS => ?_)
  refine W.lcmp hx hb dL_law_822 ?_
  refine lv_if_eq (tgt := 828) hx hb dL_law_823 (by decide) (fun _ => ?_) (fun c9 => absurd ((lg_cmp_eq r1 r2).mpr (hp1.trans hp2.symm)) c9)
  exact kk H2 locs ⟨N, ft, f1, f2, k, k2, ct, cp, cr, ctr, cfs, _, _, hok, ⟨_, _, _, _, _, _, _, _, _, _, _, _, _, _, rfl⟩, ⟨_, _, _, _, _, _, _, _, _, _, _, rfl⟩, fin_no hz hP hkh1 hkh2⟩ hS
