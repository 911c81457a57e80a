/-! THE LAW: its tables at the start, its loop, its entry -/
theorem nw_0 : (Cond.fieldLinkNest "WheelSwing" 136 "WheelSwing$Readings" "size" "I" "WheelSwing" : Cond) ∈ lw_tbl := List.mem_append_right _ (List.mem_of_getElem? (i := 126) (by decide +kernel))
theorem nw_1 : (Cond.fieldLinkNest "WheelSwing" 154 "WheelSwing$ShimBox" "size" "I" "WheelSwing" : Cond) ∈ lw_tbl := List.mem_append_right _ (List.mem_of_getElem? (i := 108) (by decide +kernel))
theorem nw_2 : (Cond.fieldLinkNest "WheelSwing" 169 "WheelSwing$Stand" "px" "D" "WheelSwing" : Cond) ∈ lw_tbl := List.mem_append_right _ (List.mem_of_getElem? (i := 30) (by decide +kernel))
theorem nw_3 : (Cond.fieldLinkNest "WheelSwing" 173 "WheelSwing$Stand" "py" "D" "WheelSwing" : Cond) ∈ lw_tbl := List.mem_append_right _ (List.mem_of_getElem? (i := 32) (by decide +kernel))
theorem nw_4 : (Cond.fieldLinkNest "WheelSwing" 176 "WheelSwing$Stand" "qx" "D" "WheelSwing" : Cond) ∈ lw_tbl := List.mem_append_right _ (List.mem_of_getElem? (i := 34) (by decide +kernel))
theorem nw_5 : (Cond.fieldLinkNest "WheelSwing" 179 "WheelSwing$Stand" "qy" "D" "WheelSwing" : Cond) ∈ lw_tbl := List.mem_append_right _ (List.mem_of_getElem? (i := 36) (by decide +kernel))
theorem nw_6 : (Cond.fieldLinkNest "WheelSwing" 182 "WheelSwing$Stand" "vy" "D" "WheelSwing" : Cond) ∈ lw_tbl := List.mem_append_right _ (List.mem_of_getElem? (i := 40) (by decide +kernel))
theorem nw_7 : (Cond.fieldLinkNest "WheelSwing" 196 "WheelSwing$Stand" "vx" "D" "WheelSwing" : Cond) ∈ lw_tbl := List.mem_append_right _ (List.mem_of_getElem? (i := 38) (by decide +kernel))
theorem nw_8 : (Cond.fieldLinkNest "WheelSwing" 208 "WheelSwing$Stand" "ix" "D" "WheelSwing" : Cond) ∈ lw_tbl := List.mem_append_right _ (List.mem_of_getElem? (i := 42) (by decide +kernel))
theorem nw_9 : (Cond.fieldLinkNest "WheelSwing" 211 "WheelSwing$Stand" "iy" "D" "WheelSwing" : Cond) ∈ lw_tbl := List.mem_append_right _ (List.mem_of_getElem? (i := 44) (by decide +kernel))
theorem nw_10 : (Cond.fieldLinkNest "WheelSwing" 216 "WheelSwing$Readings" "heights" "[I" "WheelSwing" : Cond) ∈ lw_tbl := List.mem_append_right _ (List.mem_of_getElem? (i := 122) (by decide +kernel))
theorem nw_11 : (Cond.fieldLinkNest "WheelSwing" 222 "WheelSwing$Readings" "leans" "[I" "WheelSwing" : Cond) ∈ lw_tbl := List.mem_append_right _ (List.mem_of_getElem? (i := 124) (by decide +kernel))
theorem nw_12 : (Cond.fieldLinkNest "WheelSwing" 89 "WheelSwing$Hanging" "ux" "I" "WheelSwing" : Cond) ∈ lw_tbl := List.mem_append_right _ (List.mem_of_getElem? (i := 140) (by decide +kernel))
theorem nw_13 : (Cond.fieldLinkNest "WheelSwing" 93 "WheelSwing$Hanging" "uy" "I" "WheelSwing" : Cond) ∈ lw_tbl := List.mem_append_right _ (List.mem_of_getElem? (i := 142) (by decide +kernel))
theorem nw_14 : (Cond.fieldLinkNest "WheelSwing$Stand" 13 "WheelSwing$Hanging" "ly" "I" "WheelSwing" : Cond) ∈ lw_tbl := List.mem_append_right _ (List.mem_of_getElem? (i := 148) (by decide +kernel))
theorem nw_15 : (Cond.fieldLinkNest "WheelSwing$Stand" 24 "WheelSwing$Hanging" "lx" "I" "WheelSwing" : Cond) ∈ lw_tbl := List.mem_append_right _ (List.mem_of_getElem? (i := 146) (by decide +kernel))
theorem nw_16 : (Cond.fieldLinkNest "WheelSwing$Stand" 46 "WheelSwing$Hanging" "c" "I" "WheelSwing" : Cond) ∈ lw_tbl := List.mem_append_right _ (List.mem_of_getElem? (i := 152) (by decide +kernel))
theorem nw_17 : (Cond.fieldLinkNest "WheelSwing$Stand" 49 "WheelSwing$Hanging" "a" "I" "WheelSwing" : Cond) ∈ lw_tbl := List.mem_append_right _ (List.mem_of_getElem? (i := 144) (by decide +kernel))
theorem nw_18 : (Cond.fieldLinkNest "WheelSwing$Stand" 60 "WheelSwing$Hanging" "side" "I" "WheelSwing" : Cond) ∈ lw_tbl := List.mem_append_right _ (List.mem_of_getElem? (i := 154) (by decide +kernel))
theorem nw_19 : (Cond.fieldLinkNest "WheelSwing$Stand" 7 "WheelSwing$Hanging" "b" "I" "WheelSwing" : Cond) ∈ lw_tbl := List.mem_append_right _ (List.mem_of_getElem? (i := 150) (by decide +kernel))
theorem nw_20 : (Cond.fieldLinkNest "WheelSwing$Stand" 75 "WheelSwing$Hanging" "g" "I" "WheelSwing" : Cond) ∈ lw_tbl := List.mem_append_right _ (List.mem_of_getElem? (i := 156) (by decide +kernel))
theorem nw_21 : (Cond.fieldLinkNest "WheelSwing$Stand" 78 "WheelSwing$Hanging" "d" "I" "WheelSwing" : Cond) ∈ lw_tbl := List.mem_append_right _ (List.mem_of_getElem? (i := 158) (by decide +kernel))
theorem nw_22 : (Cond.fieldLinkNest "WheelSwing$Stand" 87 "WheelSwing$Hanging" "f" "I" "WheelSwing" : Cond) ∈ lw_tbl := List.mem_append_right _ (List.mem_of_getElem? (i := 164) (by decide +kernel))
theorem nw_23 : (Cond.fieldLinkNest "WheelSwing$Stand" 92 "WheelSwing$Hanging" "sx" "I" "WheelSwing" : Cond) ∈ lw_tbl := List.mem_append_right _ (List.mem_of_getElem? (i := 160) (by decide +kernel))
theorem nw_24 : (Cond.fieldLinkNest "WheelSwing$Stand" 95 "WheelSwing$Hanging" "sy" "I" "WheelSwing" : Cond) ∈ lw_tbl := List.mem_append_right _ (List.mem_of_getElem? (i := 162) (by decide +kernel))
theorem nw_25 : (Cond.methodLinkNest "WheelSwing" 102 ⟨"WheelSwing$Stand", "placeUpright", "(LWheelSwing$Hanging;)V"⟩ "WheelSwing" : Cond) ∈ lw_tbl := List.mem_append_right _ (List.mem_of_getElem? (i := 309) (by decide +kernel))
theorem nw_26 : (Cond.methodLinkNest "WheelSwing" 115 ⟨"WheelSwing$Car", "load", "(III)V"⟩ "WheelSwing" : Cond) ∈ lw_tbl := List.mem_append_right _ (List.mem_of_getElem? (i := 350) (by decide +kernel))
theorem nw_27 : (Cond.methodLinkNest "WheelSwing" 119 ⟨"WheelSwing$Car", "lean", "(II)V"⟩ "WheelSwing" : Cond) ∈ lw_tbl := List.mem_append_right _ (List.mem_of_getElem? (i := 359) (by decide +kernel))
theorem nw_28 : (Cond.methodLinkNest "WheelSwing" 122 ⟨"WheelSwing$Car", "loadOf", "(I)I"⟩ "WheelSwing" : Cond) ∈ lw_tbl := List.mem_append_right _ (List.mem_of_getElem? (i := 367) (by decide +kernel))
theorem nw_29 : (Cond.methodLinkNest "WheelSwing" 127 ⟨"WheelSwing$ShimBox", "add", "(I)I"⟩ "WheelSwing" : Cond) ∈ lw_tbl := List.mem_append_right _ (List.mem_of_getElem? (i := 376) (by decide +kernel))
theorem nw_30 : (Cond.methodLinkNest "WheelSwing" 130 ⟨"WheelSwing$ShimBox", "nearestSet", "(II)I"⟩ "WheelSwing" : Cond) ∈ lw_tbl := List.mem_append_right _ (List.mem_of_getElem? (i := 384) (by decide +kernel))
theorem nw_31 : (Cond.methodLinkNest "WheelSwing" 134 ⟨"WheelSwing$Readings", "add", "(II)I"⟩ "WheelSwing" : Cond) ∈ lw_tbl := List.mem_append_right _ (List.mem_of_getElem? (i := 405) (by decide +kernel))
theorem nw_32 : (Cond.methodLinkNest "WheelSwing" 143 ⟨"WheelSwing$Doubles", "bits", "(D)J"⟩ "WheelSwing" : Cond) ∈ lw_tbl := List.mem_append_right _ (List.mem_of_getElem? (i := 303) (by decide +kernel))
theorem nw_33 : (Cond.methodLinkNest "WheelSwing" 151 ⟨"WheelSwing$Stand", "squareFrom", "(LWheelSwing$Hanging;II)D"⟩ "WheelSwing" : Cond) ∈ lw_tbl := List.mem_append_right _ (List.mem_of_getElem? (i := 431) (by decide +kernel))
theorem nw_34 : (Cond.methodLinkNest "WheelSwing" 161 ⟨"WheelSwing$Hanging", "mixInto", "(J)J"⟩ "WheelSwing" : Cond) ∈ lw_tbl := List.mem_append_right _ (List.mem_of_getElem? (i := 448) (by decide +kernel))
theorem nw_35 : (Cond.methodLinkNest "WheelSwing" 165 ⟨"WheelSwing$ShimBox", "mixInto", "(J)J"⟩ "WheelSwing" : Cond) ∈ lw_tbl := List.mem_append_right _ (List.mem_of_getElem? (i := 453) (by decide +kernel))
theorem nw_36 : (Cond.methodLinkNest "WheelSwing" 166 ⟨"WheelSwing$Readings", "mixInto", "(J)J"⟩ "WheelSwing" : Cond) ∈ lw_tbl := List.mem_append_right _ (List.mem_of_getElem? (i := 458) (by decide +kernel))
theorem nw_37 : (Cond.methodLinkNest "WheelSwing" 17 ⟨"WheelSwing$Stand", "<init>", "()V"⟩ "WheelSwing" : Cond) ∈ lw_tbl := List.mem_append_right _ (List.mem_of_getElem? (i := 23) (by decide +kernel))
theorem nw_38 : (Cond.methodLinkNest "WheelSwing" 189 ⟨"WheelSwing$Stand", "roadX", "(LWheelSwing$Hanging;)D"⟩ "WheelSwing" : Cond) ∈ lw_tbl := List.mem_append_right _ (List.mem_of_getElem? (i := 322) (by decide +kernel))
theorem nw_39 : (Cond.methodLinkNest "WheelSwing" 193 ⟨"WheelSwing$Stand", "roadY", "(LWheelSwing$Hanging;)D"⟩ "WheelSwing" : Cond) ∈ lw_tbl := List.mem_append_right _ (List.mem_of_getElem? (i := 326) (by decide +kernel))
theorem nw_40 : (Cond.methodLinkNest "WheelSwing" 201 ⟨"WheelSwing$Stand", "springLength", "(LWheelSwing$Hanging;)D"⟩ "WheelSwing" : Cond) ∈ lw_tbl := List.mem_append_right _ (List.mem_of_getElem? (i := 297) (by decide +kernel))
theorem nw_41 : (Cond.methodLinkNest "WheelSwing" 204 ⟨"WheelSwing$Stand", "findCentre", "(LWheelSwing$Hanging;)Z"⟩ "WheelSwing" : Cond) ∈ lw_tbl := List.mem_append_right _ (List.mem_of_getElem? (i := 334) (by decide +kernel))
theorem nw_42 : (Cond.methodLinkNest "WheelSwing" 24 ⟨"WheelSwing$Car", "<init>", "()V"⟩ "WheelSwing" : Cond) ∈ lw_tbl := List.mem_append_right _ (List.mem_of_getElem? (i := 80) (by decide +kernel))
theorem nw_43 : (Cond.methodLinkNest "WheelSwing" 31 ⟨"WheelSwing$ShimBox", "<init>", "()V"⟩ "WheelSwing" : Cond) ∈ lw_tbl := List.mem_append_right _ (List.mem_of_getElem? (i := 102) (by decide +kernel))
theorem nw_44 : (Cond.methodLinkNest "WheelSwing" 38 ⟨"WheelSwing$Readings", "<init>", "()V"⟩ "WheelSwing" : Cond) ∈ lw_tbl := List.mem_append_right _ (List.mem_of_getElem? (i := 117) (by decide +kernel))
theorem nw_45 : (Cond.methodLinkNest "WheelSwing" 43 ⟨"WheelSwing$Hanging", "<init>", "()V"⟩ "WheelSwing" : Cond) ∈ lw_tbl := List.mem_append_right _ (List.mem_of_getElem? (i := 135) (by decide +kernel))
theorem nw_46 : (Cond.methodLinkNest "WheelSwing" 55 ⟨"WheelSwing$Hanging", "setUpperArm", "(III)V"⟩ "WheelSwing" : Cond) ∈ lw_tbl := List.mem_append_right _ (List.mem_of_getElem? (i := 227) (by decide +kernel))
theorem nw_47 : (Cond.methodLinkNest "WheelSwing" 59 ⟨"WheelSwing$Hanging", "setLowerArm", "(III)V"⟩ "WheelSwing" : Cond) ∈ lw_tbl := List.mem_append_right _ (List.mem_of_getElem? (i := 231) (by decide +kernel))
theorem nw_48 : (Cond.methodLinkNest "WheelSwing" 62 ⟨"WheelSwing$Hanging", "setUpright", "(II)V"⟩ "WheelSwing" : Cond) ∈ lw_tbl := List.mem_append_right _ (List.mem_of_getElem? (i := 235) (by decide +kernel))
theorem nw_49 : (Cond.methodLinkNest "WheelSwing" 66 ⟨"WheelSwing$Hanging", "setRoadPoint", "(II)V"⟩ "WheelSwing" : Cond) ∈ lw_tbl := List.mem_append_right _ (List.mem_of_getElem? (i := 243) (by decide +kernel))
theorem nw_50 : (Cond.methodLinkNest "WheelSwing" 73 ⟨"WheelSwing$Hanging", "setSpring", "(III)V"⟩ "WheelSwing" : Cond) ∈ lw_tbl := List.mem_append_right _ (List.mem_of_getElem? (i := 251) (by decide +kernel))
theorem nw_51 : (Cond.methodLinkNest "WheelSwing" 76 ⟨"WheelSwing$Hanging", "becomeMirrorOf", "(LWheelSwing$Hanging;)V"⟩ "WheelSwing" : Cond) ∈ lw_tbl := List.mem_append_right _ (List.mem_of_getElem? (i := 259) (by decide +kernel))
theorem nw_52 : (Cond.methodLinkNest "WheelSwing" 96 ⟨"WheelSwing$Stand", "reach", "(LWheelSwing$Hanging;III)Z"⟩ "WheelSwing" : Cond) ∈ lw_tbl := List.mem_append_right _ (List.mem_of_getElem? (i := 277) (by decide +kernel))
theorem nw_53 : (Cond.methodLinkNest "WheelSwing$Hanging" 66 ⟨"WheelSwing", "mix", "(JI)J"⟩ "WheelSwing" : Cond) ∈ lw_tbl := List.mem_append_right _ (List.mem_of_getElem? (i := 452) (by decide +kernel))
theorem nw_54 : (Cond.methodLinkNest "WheelSwing$Readings" 22 ⟨"WheelSwing", "mix", "(JI)J"⟩ "WheelSwing" : Cond) ∈ lw_tbl := List.mem_append_right _ (List.mem_of_getElem? (i := 462) (by decide +kernel))
theorem nw_55 : (Cond.methodLinkNest "WheelSwing$ShimBox" 33 ⟨"WheelSwing", "mix", "(JI)J"⟩ "WheelSwing" : Cond) ∈ lw_tbl := List.mem_append_right _ (List.mem_of_getElem? (i := 457) (by decide +kernel))
theorem nw_56 : (Cond.methodLinkNest "WheelSwing$Stand" 27 ⟨"WheelSwing$Doubles", "squareRoot", "(D)D"⟩ "WheelSwing" : Cond) ∈ lw_tbl := List.mem_append_right _ (List.mem_of_getElem? (i := 281) (by decide +kernel))
theorem nwL_in : ∀ w ∈ nwL, w ∈ lw_tbl := List.forall_mem_cons.mpr ⟨nw_0, List.forall_mem_cons.mpr ⟨nw_1, List.forall_mem_cons.mpr ⟨nw_2, List.forall_mem_cons.mpr ⟨nw_3, List.forall_mem_cons.mpr ⟨nw_4, List.forall_mem_cons.mpr ⟨nw_5, List.forall_mem_cons.mpr ⟨nw_6, List.forall_mem_cons.mpr ⟨nw_7, List.forall_mem_cons.mpr ⟨nw_8, List.forall_mem_cons.mpr ⟨nw_9, List.forall_mem_cons.mpr ⟨nw_10, List.forall_mem_cons.mpr ⟨nw_11, List.forall_mem_cons.mpr ⟨nw_12, List.forall_mem_cons.mpr ⟨nw_13, List.forall_mem_cons.mpr ⟨nw_14, List.forall_mem_cons.mpr ⟨nw_15, List.forall_mem_cons.mpr ⟨nw_16, List.forall_mem_cons.mpr ⟨nw_17, List.forall_mem_cons.mpr ⟨nw_18, List.forall_mem_cons.mpr ⟨nw_19, List.forall_mem_cons.mpr ⟨nw_20, List.forall_mem_cons.mpr ⟨nw_21, List.forall_mem_cons.mpr ⟨nw_22, List.forall_mem_cons.mpr ⟨nw_23, List.forall_mem_cons.mpr ⟨nw_24, List.forall_mem_cons.mpr ⟨nw_25, List.forall_mem_cons.mpr ⟨nw_26, List.forall_mem_cons.mpr ⟨nw_27, List.forall_mem_cons.mpr ⟨nw_28, List.forall_mem_cons.mpr ⟨nw_29, List.forall_mem_cons.mpr ⟨nw_30, List.forall_mem_cons.mpr ⟨nw_31, List.forall_mem_cons.mpr ⟨nw_32, List.forall_mem_cons.mpr ⟨nw_33, List.forall_mem_cons.mpr ⟨nw_34, List.forall_mem_cons.mpr ⟨nw_35, List.forall_mem_cons.mpr ⟨nw_36, List.forall_mem_cons.mpr ⟨nw_37, List.forall_mem_cons.mpr ⟨nw_38, List.forall_mem_cons.mpr ⟨nw_39, List.forall_mem_cons.mpr ⟨nw_40, List.forall_mem_cons.mpr ⟨nw_41, List.forall_mem_cons.mpr ⟨nw_42, List.forall_mem_cons.mpr ⟨nw_43, List.forall_mem_cons.mpr ⟨nw_44, List.forall_mem_cons.mpr ⟨nw_45, List.forall_mem_cons.mpr ⟨nw_46, List.forall_mem_cons.mpr ⟨nw_47, List.forall_mem_cons.mpr ⟨nw_48, List.forall_mem_cons.mpr ⟨nw_49, List.forall_mem_cons.mpr ⟨nw_50, List.forall_mem_cons.mpr ⟨nw_51, List.forall_mem_cons.mpr ⟨nw_52, List.forall_mem_cons.mpr ⟨nw_53, List.forall_mem_cons.mpr ⟨nw_54, List.forall_mem_cons.mpr ⟨nw_55, List.forall_mem_cons.mpr ⟨nw_56, fun _ h => absurd h List.not_mem_nil⟩⟩⟩⟩⟩⟩⟩⟩⟩⟩⟩⟩⟩⟩⟩⟩⟩⟩⟩⟩⟩⟩⟩⟩⟩⟩⟩⟩⟩⟩⟩⟩⟩⟩⟩⟩⟩⟩⟩⟩⟩⟩⟩⟩⟩⟩⟩⟩⟩⟩⟩⟩⟩⟩⟩⟩⟩
theorem nwL_on : ∀ w ∈ nwL, w.onTables = true := by decide +kernel
set_option maxHeartbeats 4000000 in
set_option maxRecDepth 100000 in
theorem wk_start {s : State} {args : Array Value} (hts : ∀ w ∈ lw_tbl, w.before args s = true) : ∃ (D : va_G) (cI cH : ClassId), wk D cI cH s ∧ va_AO RX2 s := by
  obtain ⟨cX0, iX0, kX0⟩ := u_known (C := RX0) (T := TX0) (N := 5) (n := 5) hts inX0 (hts (.instantiable RX0 5) (List.mem_append_right _ (List.mem_of_getElem? (i := 79) (by decide +kernel))))
  obtain ⟨cX2, iX2, kX2⟩ := u_known (C := RX2) (T := TX2) (N := 13) (n := 13) hts inX2 (hts (.instantiable RX2 13) (List.mem_append_right _ (List.mem_of_getElem? (i := 134) (by decide +kernel))))
  obtain ⟨cX3, iX3, kX3⟩ := u_known (C := RX3) (T := TX3) (N := 3) (n := 3) hts inX3 (hts (.instantiable RX3 3) (List.mem_append_right _ (List.mem_of_getElem? (i := 116) (by decide +kernel))))
  obtain ⟨cX4, iX4, kX4⟩ := u_known (C := RX4) (T := TX4) (N := 2) (n := 2) hts inX4 (hts (.instantiable RX4 2) (List.mem_append_right _ (List.mem_of_getElem? (i := 101) (by decide +kernel))))
  obtain ⟨cX5, iX5, kX5⟩ := u_known (C := RX5) (T := TX5) (N := 14) (n := 14) hts inX5 (hts (.instantiable RX5 14) (List.mem_append_right _ (List.mem_of_getElem? (i := 22) (by decide +kernel))))
  obtain ⟨cX6, iX6, kX6⟩ := u_known (C := RX6) (T := TX6) (N := 5) (n := 5) hts inX6 (hts (.instantiable RX6 5) (List.mem_append_right _ (List.mem_of_getElem? (i := 12) (by decide +kernel))))
  obtain ⟨cX7, iX7, kX7⟩ := u_known (C := RX7) (T := TX7) (N := 22) (n := 22) hts inX7 (hts (.instantiable RX7 22) (List.mem_append_right _ (List.mem_of_getElem? (i := 464) (by decide +kernel))))
  obtain ⟨cA, kA, comp, f1, f2, f3⟩ := Cond.arrayClass_spec (hts (.arrayClass .int) (List.mem_append_right _ (List.mem_of_getElem? (i := 114) (by decide +kernel))))
  have hO : (Cond.arrayOver (.object RX2)).before args s = true := hts _ (List.mem_append_right _ (List.mem_of_getElem? (i := 20) (by decide +kernel)))
  obtain ⟨comp2, cH, kH, g1, g2, g3, g4, g5⟩ := Cond.arrayOver_spec hO
  refine ⟨((fun k => match k with | 0 => cX0 | 1 => cX2 | 2 => cX3 | 3 => cX4 | 4 => cX5 | 5 => cX6 | _ => cX7), (fun k => match k with | 0 => iX0 | 1 => iX2 | 2 => iX3 | 3 => iX4 | 4 => iX5 | 5 => iX6 | _ => iX7)), cA, cH, ⟨⟨?_, ?_⟩, ?_⟩, va_AO.of hO⟩
  · intro k q hq
    match k, hq with
    | 0, hq => cases hq; exact kX0
    | 1, hq => cases hq; exact kX2
    | 2, hq => cases hq; exact kX3
    | 3, hq => cases hq; exact kX4
    | 4, hq => cases hq; exact kX5
    | 5, hq => cases hq; exact kX6
    | 6, hq => cases hq; exact kX7
    | k + 7, hq => simp [vwCl] at hq
  · intro k q hq
    match k, hq with
    | 0, hq => cases hq; exact ⟨fun n z => ⟨fun k h => (by cases h), kA, f2, comp, f3⟩, f1⟩
    | 1, hq => cases hq; exact ⟨fun n z => ⟨fun k h => (by cases h), kH, g3, comp2, g4⟩, kH, comp2, g3, g4, g1, g5⟩
    | k + 2, hq => simp [tyW] at hq
  · exact fun w hw => va_Nw.of (nwL_on w hw) (hts w (nwL_in w hw))
theorem law_past {L i : Nat} (hL : L ≤ 5120) (hi : i ≤ 6000) (h : L < i + 10) : nI i > Int32.ofNat L - 10 := by
  have e1 : (10 : Int32).toInt = 10 := rfl
  have e2 : (nI i).toInt = i := nI_toInt (by omega)
  have e3 : (Int32.ofNat L).toInt = L := nI_toInt (n := L) (by omega)
  refine Int32.lt_iff_toInt_lt.mpr ?_
  rw [i3_sub (by omega) (by omega)]
  omega
theorem law_within {L i : Nat} (hL : L ≤ 5120) (hi : i ≤ 6000) (h : ¬ nI i > Int32.ofNat L - 10) : i + 10 ≤ L := by
  have e1 : (10 : Int32).toInt = 10 := rfl
  rcases Nat.lt_or_ge L (i + 10) with hc | hc
  · exact absurd (law_past hL hi hc) h
  · exact hc
theorem law_in {L i : Nat} (hL : L ≤ 5120) (hi : i + 10 ≤ L) (v : Int32) (hv : isW v 0 9 = true) : vp_in (nI i + v) L := by
  obtain ⟨a1, a2⟩ := isW_i hv
  have e1 : (0 : Int32).toInt = 0 := rfl
  have e2 : (9 : Int32).toInt = 9 := rfl
  have e3 : (nI i).toInt = i := nI_toInt (by omega)
  rw [vp_in_iff, i3_add (by omega) (by omega)]
  omega
set_option maxHeartbeats 4000000 in
set_option maxRecDepth 100000 in
theorem law_loop {p : Program} {l : Launch} {e : Env} {s : State} {m : MethodId} {below : List Frame} {meth : Method} {co : Code} {Q : State → Prop} {b L : Nat} {xs : Nat → Int32} {cells slots : Nat} {D : va_G} {cI cH : ClassId} {z : Nat → Nat} {fh : Nat → Option Nat} (hc : cells ≤ 600000) (hs9 : slots ≤ 7302250) (hx : p.tables.exec = Jvm.exec) (hb : co.code = cL_law) (hml : co.maxLocals = 4) (hown : s.vm.findClass RL = some m.cls) (hts : ∀ w ∈ wsL_law, w.before #[Value.ref b] s = true) (hw : wk D cI cH s) (hX : va_X b L xs s s.heap) (hbl : b < s.heap.size) (hbA : ¬ (fun q : Nat => s.heap.size ≤ q) b) (hz : zOk (fun q : Nat => s.heap.size ≤ q) z) (hfh : ∀ j, j < 4 → fh j = some (z (9 + j))) (hL : L ≤ 5120) (hend : ∀ (H : Heap) (ls : Array Slot), W p l e room_1 s m #[Value.ref b] below meth co H [] 600000 7302250 Q (F0 m 835 ls [.int 1])) : ∀ (n i : Nat) (H : Heap) (locs : List Loc) (ls : Array Slot), L + 10 ≤ n + i → i ≤ 6000 → inv D cI cH z fh H → va_S (fun q : Nat => s.heap.size ≤ q) s.heap H locs → lv_has ls 4 [(3, .int (nI i)), (2, .ref (z 13)), (1, .ref (z 0)), (0, .ref b)] → W p l e room_1 s m #[Value.ref b] below meth co H locs cells slots Q (F0 m 18 ls []) := by
  intro n
  induction n with
  | zero =>
    intro i H locs ls hn hi hI hS hl
    refine lv_iload_n hx hb dL_law_18 rfl (lv_at hl 0 rfl) ?_
    refine lv_aload_n hx hb dL_law_19 rfl (lv_at hl 3 rfl) ?_
    refine va_slen hx hb hX hbl hbA hS dL_law_20 ?_
    refine lv_bipush (v := 10) hx hb dL_law_21 (by decide) ?_
    refine lv_isub hx hb dL_law_23 ?_
    refine lv_icmp_gt (tgt := 834) hx hb dL_law_24 (by decide) (fun _ => ?_) (fun c9 => absurd (law_past hL hi (by omega)) c9)
    refine lv_iconst (v := 1) hx hb dL_law_834 (by decide) ?_
    exact va_forget hS.2.2 (W.widen hc hs9 (hend H ls))
  | succ n ih =>
    intro i H locs ls hn hi hI hS hl
    refine lv_iload_n hx hb dL_law_18 rfl (lv_at hl 0 rfl) ?_
    refine lv_aload_n hx hb dL_law_19 rfl (lv_at hl 3 rfl) ?_
    refine va_slen hx hb hX hbl hbA hS dL_law_20 ?_
    refine lv_bipush (v := 10) hx hb dL_law_21 (by decide) ?_
    refine lv_isub hx hb dL_law_23 ?_
    refine lv_icmp_gt (tgt := 834) hx hb dL_law_24 (by decide) (fun _ => ?_) (fun c9 => ?_)
    · refine lv_iconst (v := 1) hx hb dL_law_834 (by decide) ?_
      exact va_forget hS.2.2 (W.widen hc hs9 (hend H ls))
    · have hi9 : i + 10 ≤ L := law_within hL hi c9
      have hin : ∀ v : Int32, isW v 0 9 = true → vp_in (nI i + v) L := law_in hL hi9
      have kk : ∀ (H : Heap) (locs : List Loc), inv D cI cH z fh H → va_S (fun q : Nat => s.heap.size ≤ q) s.heap H locs → W p l e room_1 s m #[Value.ref b] below meth co H locs cells slots Q (F0 m 828 ls []) := by
        intro H locs hI hS
        refine lv_iinc (v := nI (i + 10)) (lv' := [(3, .int (nI (i + 10))), (2, .ref (z 13)), (1, .ref (z 0)), (0, .ref b)]) hx hb dL_law_828 hl (k := 0) rfl (by rw [show Int32.ofInt 10 = nI 10 from by decide +kernel]; exact nI_add i 10) (by decide) rfl (fun ls hl => ?_)
        refine lv_goto (tgt := 18) hx hb dL_law_831 (by decide) ?_
        exact ih (i + 10) H locs ls (by omega) (by omega) hI hS hl
      refine lv_aload_n hx hb dL_law_27 rfl (lv_at hl 3 rfl) ?_
      refine lv_iload_n hx hb dL_law_28 rfl (lv_at hl 0 rfl) ?_
      refine va_sld hx hb hX hbl hbA hS (vp_in_nI (by omega) (by omega)) dL_law_29 ?_
      refine lv_bipush (v := 31) hx hb dL_law_30 (by decide) ?_
      refine lv_iand hx hb dL_law_32 ?_
      refine lv_topi (fun v ev => ?_)
      by_cases h0 : v = 0
      · rw [h0]
        refine lv_tableIn (off := 87) (tgt := 120) hx hb dL_law_33 (by decide) (by decide) (by decide) (by decide) ?_
        exact br_hang (A := fun q : Nat => s.heap.size ≤ q) hc hs9 hx hb hml hown hts hw hX hbl hbA hz hfh hin hS hI hl kk
      by_cases h1 : v = 1
      · rw [h1]
        refine lv_tableIn (off := 198) (tgt := 231) hx hb dL_law_33 (by decide) (by decide) (by decide) (by decide) ?_
        exact br_wheel (A := fun q : Nat => s.heap.size ≤ q) hc hs9 hx hb hml hown hts hw hX hbl hbA hz hfh hin hS hI hl kk
      by_cases h2 : v = 2
      · rw [h2]
        refine lv_tableIn (off := 241) (tgt := 274) hx hb dL_law_33 (by decide) (by decide) (by decide) (by decide) ?_
        exact br_spring (A := fun q : Nat => s.heap.size ≤ q) hc hs9 hx hb hml hown hts hw hX hbl hbA hz hfh hin hS hI hl kk
      by_cases h3 : v = 3
      · rw [h3]
        refine lv_tableIn (off := 294) (tgt := 327) hx hb dL_law_33 (by decide) (by decide) (by decide) (by decide) ?_
        exact br_mirror (A := fun q : Nat => s.heap.size ≤ q) hc hs9 hx hb hml hown hts hw hX hbl hbA hz hfh hin hS hI hl kk
      by_cases h4 : v = 4
      · rw [h4]
        refine lv_tableIn (off := 327) (tgt := 360) hx hb dL_law_33 (by decide) (by decide) (by decide) (by decide) ?_
        exact br_pose (A := fun q : Nat => s.heap.size ≤ q) hc hs9 hx hb hml hown hts hw hX hbl hbA hz hfh hin hS hI hl kk
      by_cases h5 : v = 5
      · rw [h5]
        refine lv_tableIn (off := 371) (tgt := 404) hx hb dL_law_33 (by decide) (by decide) (by decide) (by decide) ?_
        exact br_lock (A := fun q : Nat => s.heap.size ≤ q) hc hs9 hx hb hml hown hts hw hX hbl hbA hz hfh hin hS hI hl kk
      by_cases h6 : v = 6
      · rw [h6]
        refine lv_tableIn (off := 414) (tgt := 447) hx hb dL_law_33 (by decide) (by decide) (by decide) (by decide) ?_
        exact br_weight (A := fun q : Nat => s.heap.size ≤ q) hc hs9 hx hb hml hown hts hw hX hbl hbA hz hfh hin hS hI hl kk
      by_cases h7 : v = 7
      · rw [h7]
        refine lv_tableIn (off := 457) (tgt := 490) hx hb dL_law_33 (by decide) (by decide) (by decide) (by decide) ?_
        exact br_push (A := fun q : Nat => s.heap.size ≤ q) hc hs9 hx hb hml hown hts hw hX hbl hbA hz hfh hin hS hI hl kk
      by_cases h8 : v = 8
      · rw [h8]
        refine lv_tableIn (off := 490) (tgt := 523) hx hb dL_law_33 (by decide) (by decide) (by decide) (by decide) ?_
        exact br_carries (A := fun q : Nat => s.heap.size ≤ q) hc hs9 hx hb hml hown hts hw hX hbl hbA hz hfh hin hS hI hl kk
      by_cases h9 : v = 9
      · rw [h9]
        refine lv_tableIn (off := 513) (tgt := 546) hx hb dL_law_33 (by decide) (by decide) (by decide) (by decide) ?_
        exact br_shim (A := fun q : Nat => s.heap.size ≤ q) hc hs9 hx hb hml hown hts hw hX hbl hbA hz hfh hin hS hI hl kk
      by_cases h10 : v = 10
      · rw [h10]
        refine lv_tableIn (off := 536) (tgt := 569) hx hb dL_law_33 (by decide) (by decide) (by decide) (by decide) ?_
        exact br_best (A := fun q : Nat => s.heap.size ≤ q) hc hs9 hx hb hml hown hts hw hX hbl hbA hz hfh hin hS hI hl kk
      by_cases h11 : v = 11
      · rw [h11]
        refine lv_tableIn (off := 569) (tgt := 602) hx hb dL_law_33 (by decide) (by decide) (by decide) (by decide) ?_
        exact br_reading (A := fun q : Nat => s.heap.size ≤ q) hc hs9 hx hb hml hown hts hw hX hbl hbA hz hfh hin hS hI hl kk
      by_cases h12 : v = 12
      · rw [h12]
        refine lv_tableIn (off := 602) (tgt := 635) hx hb dL_law_33 (by decide) (by decide) (by decide) (by decide) ?_
        exact br_clear (A := fun q : Nat => s.heap.size ≤ q) hc hs9 hx hb hml hown hts hw hX hbl hbA hz hfh hin hS hI hl kk
      by_cases h13 : v = 13
      · rw [h13]
        refine lv_tableIn (off := 615) (tgt := 648) hx hb dL_law_33 (by decide) (by decide) (by decide) (by decide) ?_
        exact br_off (A := fun q : Nat => s.heap.size ≤ q) hc hs9 hx hb hml hown hts hw hX hbl hbA hz hfh hin hS hI hl kk
      by_cases h14 : v = 14
      · rw [h14]
        refine lv_tableIn (off := 639) (tgt := 672) hx hb dL_law_33 (by decide) (by decide) (by decide) (by decide) ?_
        exact br_found (A := fun q : Nat => s.heap.size ≤ q) hc hs9 hx hb hml hown hts hw hX hbl hbA hz hfh hin hS hI hl kk
      by_cases h15 : v = 15
      · rw [h15]
        refine lv_tableIn (off := 683) (tgt := 716) hx hb dL_law_33 (by decide) (by decide) (by decide) (by decide) ?_
        exact br_isClear (A := fun q : Nat => s.heap.size ≤ q) hc hs9 hx hb hml hown hts hw hX hbl hbA hz hfh hin hS hI hl kk
      by_cases h16 : v = 16
      · rw [h16]
        refine lv_tableIn (off := 758) (tgt := 791) hx hb dL_law_33 (by decide) (by decide) (by decide) (by decide) ?_
        exact br_count (A := fun q : Nat => s.heap.size ≤ q) hc hs9 hx hb hml hown hts hw hX hbl hbA hz hfh hin hS hI hl kk
      by_cases h17 : v = 17
      · rw [h17]
        refine lv_tableIn (off := 781) (tgt := 814) hx hb dL_law_33 (by decide) (by decide) (by decide) (by decide) ?_
        exact br_digest (A := fun q : Nat => s.heap.size ≤ q) hc hs9 hx hb hml hown hts hw hX hbl hbA hz hfh hin hS hI hl kk
      have hv : v.toInt < 0 ∨ 17 < v.toInt := by
        have g0 : v.toInt ≠ 0 := fun h => h0 (i_eq h)
        have g1 : v.toInt ≠ 1 := fun h => h1 (i_eq h)
        have g2 : v.toInt ≠ 2 := fun h => h2 (i_eq h)
        have g3 : v.toInt ≠ 3 := fun h => h3 (i_eq h)
        have g4 : v.toInt ≠ 4 := fun h => h4 (i_eq h)
        have g5 : v.toInt ≠ 5 := fun h => h5 (i_eq h)
        have g6 : v.toInt ≠ 6 := fun h => h6 (i_eq h)
        have g7 : v.toInt ≠ 7 := fun h => h7 (i_eq h)
        have g8 : v.toInt ≠ 8 := fun h => h8 (i_eq h)
        have g9 : v.toInt ≠ 9 := fun h => h9 (i_eq h)
        have g10 : v.toInt ≠ 10 := fun h => h10 (i_eq h)
        have g11 : v.toInt ≠ 11 := fun h => h11 (i_eq h)
        have g12 : v.toInt ≠ 12 := fun h => h12 (i_eq h)
        have g13 : v.toInt ≠ 13 := fun h => h13 (i_eq h)
        have g14 : v.toInt ≠ 14 := fun h => h14 (i_eq h)
        have g15 : v.toInt ≠ 15 := fun h => h15 (i_eq h)
        have g16 : v.toInt ≠ 16 := fun h => h16 (i_eq h)
        have g17 : v.toInt ≠ 17 := fun h => h17 (i_eq h)
        omega
      refine lv_tableOut (tgt := 828) hx hb dL_law_33 hv (by decide) ?_
      exact kk H locs hI hS
theorem iniA_0 : hL iniA 0 = [.int 0, .int 300, .int 300, .int 0, .int 0, .int 400, .int 300, .int 1, .int (-100), .int 100, .int 0, .int 500, .int 500] := rfl
theorem iniA_1 : hL iniA 1 = [.int 0, .int 300, .int 300, .int 0, .int 0, .int 400, .int 300, .int 1, .int (-100), .int 100, .int 0, .int 500, .int 500] := rfl
theorem iniA_2 : hL iniA 2 = [.int 0, .int 300, .int 300, .int 0, .int 0, .int 400, .int 300, .int 1, .int (-100), .int 100, .int 0, .int 500, .int 500] := rfl
theorem iniA_3 : hL iniA 3 = [.int 0, .int 300, .int 300, .int 0, .int 0, .int 400, .int 300, .int 1, .int (-100), .int 100, .int 0, .int 500, .int 500] := rfl
theorem iniB : hgB 0 300 300 0 0 400 300 1 (-100) 100 0 500 500 := ⟨⟨by decide, by decide⟩, ⟨by decide, by decide⟩, ⟨by decide, by decide⟩, ⟨by decide, by decide⟩, ⟨by decide, by decide⟩, ⟨by decide, by decide⟩, ⟨by decide, by decide⟩, Or.inl rfl, ⟨by decide, by decide⟩, ⟨by decide, by decide⟩, ⟨by decide, by decide⟩, ⟨by decide, by decide⟩, ⟨by decide, by decide⟩⟩
theorem iniOk : okI iniA (fun _ => 0) (fun _ => 0) (fun _ => 0) 0 0 := by
  refine ⟨by omega, by omega, fun q hq => ?_, fun j hj => absurd hj (by omega), fun j hj => absurd hj (by omega)⟩
  rcases (show q = 0 ∨ q = 1 ∨ q = 2 ∨ q = 3 by omega) with rfl | rfl | rfl | rfl
  · exact iniB
  · exact iniB
  · exact iniB
  · exact iniB
set_option maxHeartbeats 4000000 in
set_option maxRecDepth 100000 in
theorem law_start {p : Program} {l : Launch} {e : Env} {s : State} {m : MethodId} {below : List Frame} {meth : Method} {co : Code} {Q : State → Prop} {b L : Nat} {xs : Nat → Int32} {D : va_G} {cI cH : ClassId} (hx : p.tables.exec = Jvm.exec) (hb : co.code = cL_law) (hml : co.maxLocals = 4) (hown : s.vm.findClass RL = some m.cls) (hts : ∀ w ∈ wsL_law, w.before #[Value.ref b] s = true) (hw : wk D cI cH s) (hO : va_AO RX2 s) (hX : va_X b L xs s s.heap) (hbl : b < s.heap.size) (hLn : L ≤ 5120) (hend : ∀ (H : Heap) (ls : Array Slot), W p l e room_1 s m #[Value.ref b] below meth co H [] 600000 7302250 Q (F0 m 835 ls [.int 1])) : W p l e room_1 s m #[Value.ref b] below meth co s.heap [] 0 0 Q (entryFrame m ([Value.ref b] : List Value).toArray 4) := by
  have hA : ∀ q : Nat, s.heap.size ≤ q → (fun q : Nat => s.heap.size ≤ q) q := fun _ h => h
  have hbA : ¬ (fun q : Nat => s.heap.size ≤ q) b := Nat.not_le.mpr hbl
  have hS : va_S (fun q : Nat => s.heap.size ≤ q) s.heap s.heap [] := va_S.rf
  have hP : va_P D vwCl [] s.heap := fr_nil
  have hD : va_D (fun q : Nat => s.heap.size ≤ q) [] := D_0
  have hl := lv_entry ([.ref b]) (n := 4) (Nat.le_of_ble_eq_true rfl)
  rw [lg_entry_eq]
  generalize (lg_sl ([.ref b]) ++ List.replicate (4 - (lg_sl ([.ref b])).length) Slot.unset).toArray = ls at hl ⊢
  have hl : lv_has ls 4 [(0, .ref b)] := hl
  refine va_new (ci := 5) (fs := [.null, .null, .null, .null, .null]) (C := RX6) (T := TX6) (N := 5) hx hb hts inlX6 tyX6 tyX6_ok hown (hts (.classLink RL 7 RX6) (by decide +kernel)) (hts (.instantiable RX6 5) (by decide +kernel)) (hts (.initialized RX6) (by decide +kernel)) hw.1 hP hD hS hA rfl (fun j hj => by rcases (show j = 0 ∨ j = 1 ∨ j = 2 ∨ j = 3 ∨ j = 4 by omega) with rfl | rfl | rfl | rfl | rfl <;> rfl) (Nat.le_of_ble_eq_true rfl) (Nat.le_of_ble_eq_true rfl) dL_law_0 (fun o H hP hD hS => ?_)
  have hP : va_P D vwCl [(o, .inr (5, [.null, .null, .null, .null, .null]))] H := hP
  have hD : va_D (fun q : Nat => s.heap.size ≤ q) [(o, .inr (5, [.null, .null, .null, .null, .null]))] := hD
  refine W.widen (k := 1) (n := 5) (by omega) (by omega) ?_
  refine lv_dup hx hb dL_law_3 rfl ?_
  have hPc := hP.sub (ws' := [(o, .inr (5, [.null, .null, .null, .null, .null]))]) [0] rfl
  have hDc := hD.sub (ws' := [(o, .inr (5, [.null, .null, .null, .null, .null]))]) [0] (by decide) rfl
  have hFc := va_free (wc := [(o, .inr (5, [.null, .null, .null, .null, .null]))]) hD hS hA [0] rfl
  refine va_callv (va_runI (As := []) (rest := [.ref o]) ⟨hx, hb, hml, hown, hts⟩ (mX6_init l D cI cH o H.size) (cwI 0 hts gL_law_X6_init rfl rfl rfl (hts (.initialized RX6) (by decide +kernel)) (hts (.methodLink RL 9 yX6_init) (by decide +kernel)) (hts (.instanceMethod yX6_init) (by decide +kernel)) rfl (by decide +kernel) ⟨Nat.le_of_ble_eq_true rfl, Nat.le_of_ble_eq_true rfl⟩) ⟨iB2_blind, iB2_go hPc hw hDc hO⟩ rfl rfl hl.1 rfl (lv_room (Nat.le_of_ble_eq_true rfl)) dL_law_4 ⟨Nat.le_of_ble_eq_true rfl, Nat.le_of_ble_eq_true rfl⟩) hS (fun q _ h => hFc q h) hFc (fun u t H9 locs ht hvm hp hB hz1 hk1 hS => ?_)
  obtain ⟨hP9, hD9⟩ := hB
  rw [ht] at hP9
  obtain ⟨hP, hD⟩ := va_join (wr := []) (w1 := [(o, .inr (5, [.ref ((u 1)), .ref ((u 2)), .ref ((u 3)), .ref ((u 4)), .ref ((u 6))])), ((u 1), .inl (cH, 4, .inr (.inr (.inr (.inr (va_up (va_up (va_up (va_up (fun _ => none) (0 : Int32).toNatClampNeg (some (u 9))) (1 : Int32).toNatClampNeg (some (u 10))) (2 : Int32).toNatClampNeg (some (u 11))) (3 : Int32).toNatClampNeg (some (u 12)))))))), ((u 2), .inr (4, [.int 0, .int 0, .double 0, .double 0, .double 0, .double 0, .double 0, .double 0, .double 0, .double 0, .double 0, .double 0, .double 0, .double 0])), ((u 3), .inr (0, [.int 0, .int 0, .int 0, .int 0, .int 0])), ((u 4), .inr (3, [.ref ((u 5)), .int 0])), ((u 5), .inl (cI, 10, .inl (fun _ => 0))), ((u 6), .inr (2, [.ref ((u 7)), .ref ((u 8)), .int 0])), ((u 7), .inl (cI, 12, .inl (fun _ => 0))), ((u 8), .inl (cI, 12, .inl (fun _ => 0))), ((u 9), .inr (1, [.int 0, .int 300, .int 300, .int 0, .int 0, .int 400, .int 300, .int 1, .int ((-100)), .int 100, .int 0, .int 500, .int 500])), ((u 10), .inr (1, [.int 0, .int 300, .int 300, .int 0, .int 0, .int 400, .int 300, .int 1, .int ((-100)), .int 100, .int 0, .int 500, .int 500])), ((u 11), .inr (1, [.int 0, .int 300, .int 300, .int 0, .int 0, .int 400, .int 300, .int 1, .int ((-100)), .int 100, .int 0, .int 500, .int 500])), ((u 12), .inr (1, [.int 0, .int 300, .int 300, .int 0, .int 0, .int 400, .int 300, .int 1, .int ((-100)), .int 100, .int 0, .int 500, .int 500]))]) hP hD [0] [] rfl rfl (by decide) (by decide) hk1 hFc hP9 hD9
  clear hk1 hPc hDc hFc hP9 hD9
  generalize H9 = H at hP hS ⊢
  have hP : va_P D vwCl [(o, .inr (5, [.ref ((u 1)), .ref ((u 2)), .ref ((u 3)), .ref ((u 4)), .ref ((u 6))])), ((u 1), .inl (cH, 4, .inr (.inr (.inr (.inr (va_up (va_up (va_up (va_up (fun _ => none) (0 : Int32).toNatClampNeg (some (u 9))) (1 : Int32).toNatClampNeg (some (u 10))) (2 : Int32).toNatClampNeg (some (u 11))) (3 : Int32).toNatClampNeg (some (u 12)))))))), ((u 2), .inr (4, [.int 0, .int 0, .double 0, .double 0, .double 0, .double 0, .double 0, .double 0, .double 0, .double 0, .double 0, .double 0, .double 0, .double 0])), ((u 3), .inr (0, [.int 0, .int 0, .int 0, .int 0, .int 0])), ((u 4), .inr (3, [.ref ((u 5)), .int 0])), ((u 5), .inl (cI, 10, .inl (fun _ => 0))), ((u 6), .inr (2, [.ref ((u 7)), .ref ((u 8)), .int 0])), ((u 7), .inl (cI, 12, .inl (fun _ => 0))), ((u 8), .inl (cI, 12, .inl (fun _ => 0))), ((u 9), .inr (1, [.int 0, .int 300, .int 300, .int 0, .int 0, .int 400, .int 300, .int 1, .int ((-100)), .int 100, .int 0, .int 500, .int 500])), ((u 10), .inr (1, [.int 0, .int 300, .int 300, .int 0, .int 0, .int 400, .int 300, .int 1, .int ((-100)), .int 100, .int 0, .int 500, .int 500])), ((u 11), .inr (1, [.int 0, .int 300, .int 300, .int 0, .int 0, .int 400, .int 300, .int 1, .int ((-100)), .int 100, .int 0, .int 500, .int 500])), ((u 12), .inr (1, [.int 0, .int 300, .int 300, .int 0, .int 0, .int 400, .int 300, .int 1, .int ((-100)), .int 100, .int 0, .int 500, .int 500]))] H := hP
  have hD : va_D (fun q : Nat => s.heap.size ≤ q) [(o, .inr (5, [.ref ((u 1)), .ref ((u 2)), .ref ((u 3)), .ref ((u 4)), .ref ((u 6))])), ((u 1), .inl (cH, 4, .inr (.inr (.inr (.inr (va_up (va_up (va_up (va_up (fun _ => none) (0 : Int32).toNatClampNeg (some (u 9))) (1 : Int32).toNatClampNeg (some (u 10))) (2 : Int32).toNatClampNeg (some (u 11))) (3 : Int32).toNatClampNeg (some (u 12)))))))), ((u 2), .inr (4, [.int 0, .int 0, .double 0, .double 0, .double 0, .double 0, .double 0, .double 0, .double 0, .double 0, .double 0, .double 0, .double 0, .double 0])), ((u 3), .inr (0, [.int 0, .int 0, .int 0, .int 0, .int 0])), ((u 4), .inr (3, [.ref ((u 5)), .int 0])), ((u 5), .inl (cI, 10, .inl (fun _ => 0))), ((u 6), .inr (2, [.ref ((u 7)), .ref ((u 8)), .int 0])), ((u 7), .inl (cI, 12, .inl (fun _ => 0))), ((u 8), .inl (cI, 12, .inl (fun _ => 0))), ((u 9), .inr (1, [.int 0, .int 300, .int 300, .int 0, .int 0, .int 400, .int 300, .int 1, .int ((-100)), .int 100, .int 0, .int 500, .int 500])), ((u 10), .inr (1, [.int 0, .int 300, .int 300, .int 0, .int 0, .int 400, .int 300, .int 1, .int ((-100)), .int 100, .int 0, .int 500, .int 500])), ((u 11), .inr (1, [.int 0, .int 300, .int 300, .int 0, .int 0, .int 400, .int 300, .int 1, .int ((-100)), .int 100, .int 0, .int 500, .int 500])), ((u 12), .inr (1, [.int 0, .int 300, .int 300, .int 0, .int 0, .int 400, .int 300, .int 1, .int ((-100)), .int 100, .int 0, .int 500, .int 500]))] := hD
  refine W.widen (k := 13) (n := 119) (by omega) (by omega) ?_
  refine lv_astore_n (lv' := [(1, .ref o), (0, .ref b)]) hx hb dL_law_7 rfl hl (by decide) rfl (fun ls hl => ?_)
  refine va_new (ci := 6) (fs := [.null, .double 0, .double 0, .double 0, .double 0, .double 0, .double 0, .double 0, .double 0, .double 0, .double 0, .int 0, .int 0, .int 0, .int 0, .int 0, .int 0, .null, .int 0, .null, .null, .double 0]) (C := RX7) (T := TX7) (N := 22) hx hb hts inlX7 tyX7 tyX7_ok hown (hts (.classLink RL 10 RX7) (by decide +kernel)) (hts (.instantiable RX7 22) (by decide +kernel)) (hts (.initialized RX7) (by decide +kernel)) hw.1 hP hD hS hA rfl (fun j hj => by rcases (show j = 0 ∨ j = 1 ∨ j = 2 ∨ j = 3 ∨ j = 4 ∨ j = 5 ∨ j = 6 ∨ j = 7 ∨ j = 8 ∨ j = 9 ∨ j = 10 ∨ j = 11 ∨ j = 12 ∨ j = 13 ∨ j = 14 ∨ j = 15 ∨ j = 16 ∨ j = 17 ∨ j = 18 ∨ j = 19 ∨ j = 20 ∨ j = 21 by omega) with rfl | rfl | rfl | rfl | rfl | rfl | rfl | rfl | rfl | rfl | rfl | rfl | rfl | rfl | rfl | rfl | rfl | rfl | rfl | rfl | rfl | rfl <;> rfl) (Nat.le_of_ble_eq_true rfl) (Nat.le_of_ble_eq_true rfl) dL_law_8 (fun mo H hP hD hS => ?_)
  have hP : va_P D vwCl [(o, .inr (5, [.ref ((u 1)), .ref ((u 2)), .ref ((u 3)), .ref ((u 4)), .ref ((u 6))])), ((u 1), .inl (cH, 4, .inr (.inr (.inr (.inr (va_up (va_up (va_up (va_up (fun _ => none) (0 : Int32).toNatClampNeg (some (u 9))) (1 : Int32).toNatClampNeg (some (u 10))) (2 : Int32).toNatClampNeg (some (u 11))) (3 : Int32).toNatClampNeg (some (u 12)))))))), ((u 2), .inr (4, [.int 0, .int 0, .double 0, .double 0, .double 0, .double 0, .double 0, .double 0, .double 0, .double 0, .double 0, .double 0, .double 0, .double 0])), ((u 3), .inr (0, [.int 0, .int 0, .int 0, .int 0, .int 0])), ((u 4), .inr (3, [.ref ((u 5)), .int 0])), ((u 5), .inl (cI, 10, .inl (fun _ => 0))), ((u 6), .inr (2, [.ref ((u 7)), .ref ((u 8)), .int 0])), ((u 7), .inl (cI, 12, .inl (fun _ => 0))), ((u 8), .inl (cI, 12, .inl (fun _ => 0))), ((u 9), .inr (1, [.int 0, .int 300, .int 300, .int 0, .int 0, .int 400, .int 300, .int 1, .int ((-100)), .int 100, .int 0, .int 500, .int 500])), ((u 10), .inr (1, [.int 0, .int 300, .int 300, .int 0, .int 0, .int 400, .int 300, .int 1, .int ((-100)), .int 100, .int 0, .int 500, .int 500])), ((u 11), .inr (1, [.int 0, .int 300, .int 300, .int 0, .int 0, .int 400, .int 300, .int 1, .int ((-100)), .int 100, .int 0, .int 500, .int 500])), ((u 12), .inr (1, [.int 0, .int 300, .int 300, .int 0, .int 0, .int 400, .int 300, .int 1, .int ((-100)), .int 100, .int 0, .int 500, .int 500])), (mo, .inr (6, [.null, .double 0, .double 0, .double 0, .double 0, .double 0, .double 0, .double 0, .double 0, .double 0, .double 0, .int 0, .int 0, .int 0, .int 0, .int 0, .int 0, .null, .int 0, .null, .null, .double 0]))] H := hP
  have hD : va_D (fun q : Nat => s.heap.size ≤ q) [(o, .inr (5, [.ref ((u 1)), .ref ((u 2)), .ref ((u 3)), .ref ((u 4)), .ref ((u 6))])), ((u 1), .inl (cH, 4, .inr (.inr (.inr (.inr (va_up (va_up (va_up (va_up (fun _ => none) (0 : Int32).toNatClampNeg (some (u 9))) (1 : Int32).toNatClampNeg (some (u 10))) (2 : Int32).toNatClampNeg (some (u 11))) (3 : Int32).toNatClampNeg (some (u 12)))))))), ((u 2), .inr (4, [.int 0, .int 0, .double 0, .double 0, .double 0, .double 0, .double 0, .double 0, .double 0, .double 0, .double 0, .double 0, .double 0, .double 0])), ((u 3), .inr (0, [.int 0, .int 0, .int 0, .int 0, .int 0])), ((u 4), .inr (3, [.ref ((u 5)), .int 0])), ((u 5), .inl (cI, 10, .inl (fun _ => 0))), ((u 6), .inr (2, [.ref ((u 7)), .ref ((u 8)), .int 0])), ((u 7), .inl (cI, 12, .inl (fun _ => 0))), ((u 8), .inl (cI, 12, .inl (fun _ => 0))), ((u 9), .inr (1, [.int 0, .int 300, .int 300, .int 0, .int 0, .int 400, .int 300, .int 1, .int ((-100)), .int 100, .int 0, .int 500, .int 500])), ((u 10), .inr (1, [.int 0, .int 300, .int 300, .int 0, .int 0, .int 400, .int 300, .int 1, .int ((-100)), .int 100, .int 0, .int 500, .int 500])), ((u 11), .inr (1, [.int 0, .int 300, .int 300, .int 0, .int 0, .int 400, .int 300, .int 1, .int ((-100)), .int 100, .int 0, .int 500, .int 500])), ((u 12), .inr (1, [.int 0, .int 300, .int 300, .int 0, .int 0, .int 400, .int 300, .int 1, .int ((-100)), .int 100, .int 0, .int 500, .int 500])), (mo, .inr (6, [.null, .double 0, .double 0, .double 0, .double 0, .double 0, .double 0, .double 0, .double 0, .double 0, .double 0, .int 0, .int 0, .int 0, .int 0, .int 0, .int 0, .null, .int 0, .null, .null, .double 0]))] := hD
  refine W.widen (k := 14) (n := 141) (by omega) (by omega) ?_
  refine lv_dup hx hb dL_law_11 rfl ?_
  have hPc := hP.sub (ws' := [(mo, .inr (6, [.null, .double 0, .double 0, .double 0, .double 0, .double 0, .double 0, .double 0, .double 0, .double 0, .double 0, .int 0, .int 0, .int 0, .int 0, .int 0, .int 0, .null, .int 0, .null, .null, .double 0]))]) [13] rfl
  have hDc := hD.sub (ws' := [(mo, .inr (6, [.null, .double 0, .double 0, .double 0, .double 0, .double 0, .double 0, .double 0, .double 0, .double 0, .double 0, .int 0, .int 0, .int 0, .int 0, .int 0, .int 0, .null, .int 0, .null, .null, .double 0]))]) [13] (by decide) rfl
  have hFc := va_free (wc := [(mo, .inr (6, [.null, .double 0, .double 0, .double 0, .double 0, .double 0, .double 0, .double 0, .double 0, .double 0, .double 0, .int 0, .int 0, .int 0, .int 0, .int 0, .int 0, .null, .int 0, .null, .null, .double 0]))]) hD hS hA [13] rfl
  refine va_callv (va_runI (As := []) (rest := [.ref mo]) ⟨hx, hb, hml, hown, hts⟩ (mX7_init l D cI cH mo H.size) (cwI 0 hts gL_law_X7_init rfl rfl rfl (hts (.initialized RX7) (by decide +kernel)) (hts (.methodLink RL 12 yX7_init) (by decide +kernel)) (hts (.instanceMethod yX7_init) (by decide +kernel)) rfl (by decide +kernel) ⟨Nat.le_of_ble_eq_true rfl, Nat.le_of_ble_eq_true rfl⟩) ⟨iB_blind, iB_go hPc hw hDc⟩ rfl rfl hl.1 rfl (lv_room (Nat.le_of_ble_eq_true rfl)) dL_law_12 ⟨Nat.le_of_ble_eq_true rfl, Nat.le_of_ble_eq_true rfl⟩) hS (fun q _ h => hFc q h) hFc (fun w t H9 locs ht hvm hp hB hz1 hk1 hS => ?_)
  obtain ⟨hP9, hD9⟩ := hB
  rw [ht] at hP9
  obtain ⟨hP, hD⟩ := va_join (wr := [(o, .inr (5, [.ref ((u 1)), .ref ((u 2)), .ref ((u 3)), .ref ((u 4)), .ref ((u 6))])), ((u 1), .inl (cH, 4, .inr (.inr (.inr (.inr (va_up (va_up (va_up (va_up (fun _ => none) (0 : Int32).toNatClampNeg (some (u 9))) (1 : Int32).toNatClampNeg (some (u 10))) (2 : Int32).toNatClampNeg (some (u 11))) (3 : Int32).toNatClampNeg (some (u 12)))))))), ((u 2), .inr (4, [.int 0, .int 0, .double 0, .double 0, .double 0, .double 0, .double 0, .double 0, .double 0, .double 0, .double 0, .double 0, .double 0, .double 0])), ((u 3), .inr (0, [.int 0, .int 0, .int 0, .int 0, .int 0])), ((u 4), .inr (3, [.ref ((u 5)), .int 0])), ((u 5), .inl (cI, 10, .inl (fun _ => 0))), ((u 6), .inr (2, [.ref ((u 7)), .ref ((u 8)), .int 0])), ((u 7), .inl (cI, 12, .inl (fun _ => 0))), ((u 8), .inl (cI, 12, .inl (fun _ => 0))), ((u 9), .inr (1, [.int 0, .int 300, .int 300, .int 0, .int 0, .int 400, .int 300, .int 1, .int ((-100)), .int 100, .int 0, .int 500, .int 500])), ((u 10), .inr (1, [.int 0, .int 300, .int 300, .int 0, .int 0, .int 400, .int 300, .int 1, .int ((-100)), .int 100, .int 0, .int 500, .int 500])), ((u 11), .inr (1, [.int 0, .int 300, .int 300, .int 0, .int 0, .int 400, .int 300, .int 1, .int ((-100)), .int 100, .int 0, .int 500, .int 500])), ((u 12), .inr (1, [.int 0, .int 300, .int 300, .int 0, .int 0, .int 400, .int 300, .int 1, .int ((-100)), .int 100, .int 0, .int 500, .int 500]))]) (w1 := [(mo, .inr (6, [.ref w.1, .double 0, .double 0, .double 0, .double 0, .double 0, .double 0, .double 0, .double 0, .double 0, .double 0, .int 0, .int 0, .int 0, .int 0, .int 0, .int ((nI 0)), .ref w.2.1, .int ((nI 0)), .ref w.2.2.1, .ref w.2.2.2, .double 0])), (w.1, .inl (cI, 52, .inl iniA)), (w.2.1, .inl (cI, 10, .inl (fun _ => 0))), (w.2.2.1, .inl (cI, 12, .inl (fun _ => 0))), (w.2.2.2, .inl (cI, 12, .inl (fun _ => 0)))]) hP hD [13] [0, 1, 2, 3, 4, 5, 6, 7, 8, 9, 10, 11, 12] rfl rfl (by decide) (by decide) hk1 hFc hP9 hD9
  clear hk1 hPc hDc hFc hP9 hD9
  generalize H9 = H at hP hS ⊢
  have hP : va_P D vwCl [(o, .inr (5, [.ref ((u 1)), .ref ((u 2)), .ref ((u 3)), .ref ((u 4)), .ref ((u 6))])), ((u 1), .inl (cH, 4, .inr (.inr (.inr (.inr (va_up (va_up (va_up (va_up (fun _ => none) (0 : Int32).toNatClampNeg (some (u 9))) (1 : Int32).toNatClampNeg (some (u 10))) (2 : Int32).toNatClampNeg (some (u 11))) (3 : Int32).toNatClampNeg (some (u 12)))))))), ((u 2), .inr (4, [.int 0, .int 0, .double 0, .double 0, .double 0, .double 0, .double 0, .double 0, .double 0, .double 0, .double 0, .double 0, .double 0, .double 0])), ((u 3), .inr (0, [.int 0, .int 0, .int 0, .int 0, .int 0])), ((u 4), .inr (3, [.ref ((u 5)), .int 0])), ((u 5), .inl (cI, 10, .inl (fun _ => 0))), ((u 6), .inr (2, [.ref ((u 7)), .ref ((u 8)), .int 0])), ((u 7), .inl (cI, 12, .inl (fun _ => 0))), ((u 8), .inl (cI, 12, .inl (fun _ => 0))), ((u 9), .inr (1, [.int 0, .int 300, .int 300, .int 0, .int 0, .int 400, .int 300, .int 1, .int ((-100)), .int 100, .int 0, .int 500, .int 500])), ((u 10), .inr (1, [.int 0, .int 300, .int 300, .int 0, .int 0, .int 400, .int 300, .int 1, .int ((-100)), .int 100, .int 0, .int 500, .int 500])), ((u 11), .inr (1, [.int 0, .int 300, .int 300, .int 0, .int 0, .int 400, .int 300, .int 1, .int ((-100)), .int 100, .int 0, .int 500, .int 500])), ((u 12), .inr (1, [.int 0, .int 300, .int 300, .int 0, .int 0, .int 400, .int 300, .int 1, .int ((-100)), .int 100, .int 0, .int 500, .int 500])), (mo, .inr (6, [.ref w.1, .double 0, .double 0, .double 0, .double 0, .double 0, .double 0, .double 0, .double 0, .double 0, .double 0, .int 0, .int 0, .int 0, .int 0, .int 0, .int ((nI 0)), .ref w.2.1, .int ((nI 0)), .ref w.2.2.1, .ref w.2.2.2, .double 0])), (w.1, .inl (cI, 52, .inl iniA)), (w.2.1, .inl (cI, 10, .inl (fun _ => 0))), (w.2.2.1, .inl (cI, 12, .inl (fun _ => 0))), (w.2.2.2, .inl (cI, 12, .inl (fun _ => 0)))] H := hP
  have hD : va_D (fun q : Nat => s.heap.size ≤ q) [(o, .inr (5, [.ref ((u 1)), .ref ((u 2)), .ref ((u 3)), .ref ((u 4)), .ref ((u 6))])), ((u 1), .inl (cH, 4, .inr (.inr (.inr (.inr (va_up (va_up (va_up (va_up (fun _ => none) (0 : Int32).toNatClampNeg (some (u 9))) (1 : Int32).toNatClampNeg (some (u 10))) (2 : Int32).toNatClampNeg (some (u 11))) (3 : Int32).toNatClampNeg (some (u 12)))))))), ((u 2), .inr (4, [.int 0, .int 0, .double 0, .double 0, .double 0, .double 0, .double 0, .double 0, .double 0, .double 0, .double 0, .double 0, .double 0, .double 0])), ((u 3), .inr (0, [.int 0, .int 0, .int 0, .int 0, .int 0])), ((u 4), .inr (3, [.ref ((u 5)), .int 0])), ((u 5), .inl (cI, 10, .inl (fun _ => 0))), ((u 6), .inr (2, [.ref ((u 7)), .ref ((u 8)), .int 0])), ((u 7), .inl (cI, 12, .inl (fun _ => 0))), ((u 8), .inl (cI, 12, .inl (fun _ => 0))), ((u 9), .inr (1, [.int 0, .int 300, .int 300, .int 0, .int 0, .int 400, .int 300, .int 1, .int ((-100)), .int 100, .int 0, .int 500, .int 500])), ((u 10), .inr (1, [.int 0, .int 300, .int 300, .int 0, .int 0, .int 400, .int 300, .int 1, .int ((-100)), .int 100, .int 0, .int 500, .int 500])), ((u 11), .inr (1, [.int 0, .int 300, .int 300, .int 0, .int 0, .int 400, .int 300, .int 1, .int ((-100)), .int 100, .int 0, .int 500, .int 500])), ((u 12), .inr (1, [.int 0, .int 300, .int 300, .int 0, .int 0, .int 400, .int 300, .int 1, .int ((-100)), .int 100, .int 0, .int 500, .int 500])), (mo, .inr (6, [.ref w.1, .double 0, .double 0, .double 0, .double 0, .double 0, .double 0, .double 0, .double 0, .double 0, .double 0, .int 0, .int 0, .int 0, .int 0, .int 0, .int ((nI 0)), .ref w.2.1, .int ((nI 0)), .ref w.2.2.1, .ref w.2.2.2, .double 0])), (w.1, .inl (cI, 52, .inl iniA)), (w.2.1, .inl (cI, 10, .inl (fun _ => 0))), (w.2.2.1, .inl (cI, 12, .inl (fun _ => 0))), (w.2.2.2, .inl (cI, 12, .inl (fun _ => 0)))] := hD
  refine W.widen (k := 18) (n := 227) (by omega) (by omega) ?_
  obtain ⟨z, ez⟩ : ∃ z : Nat → Nat, z = (fun i => match i with | 0 => o | 1 => u 1 | 2 => u 2 | 3 => u 3 | 4 => u 4 | 5 => u 5 | 6 => u 6 | 7 => u 7 | 8 => u 8 | 9 => u 9 | 10 => u 10 | 11 => u 11 | 12 => u 12 | 13 => mo | 14 => w.1 | 15 => w.2.1 | 16 => w.2.2.1 | _ => w.2.2.2) := ⟨_, rfl⟩
  have hget : ∀ i, i < 18 → ∃ e9 : va_E, ([(o, .inr (5, [.ref ((u 1)), .ref ((u 2)), .ref ((u 3)), .ref ((u 4)), .ref ((u 6))])), ((u 1), .inl (cH, 4, .inr (.inr (.inr (.inr (va_up (va_up (va_up (va_up (fun _ => none) (0 : Int32).toNatClampNeg (some (u 9))) (1 : Int32).toNatClampNeg (some (u 10))) (2 : Int32).toNatClampNeg (some (u 11))) (3 : Int32).toNatClampNeg (some (u 12)))))))), ((u 2), .inr (4, [.int 0, .int 0, .double 0, .double 0, .double 0, .double 0, .double 0, .double 0, .double 0, .double 0, .double 0, .double 0, .double 0, .double 0])), ((u 3), .inr (0, [.int 0, .int 0, .int 0, .int 0, .int 0])), ((u 4), .inr (3, [.ref ((u 5)), .int 0])), ((u 5), .inl (cI, 10, .inl (fun _ => 0))), ((u 6), .inr (2, [.ref ((u 7)), .ref ((u 8)), .int 0])), ((u 7), .inl (cI, 12, .inl (fun _ => 0))), ((u 8), .inl (cI, 12, .inl (fun _ => 0))), ((u 9), .inr (1, [.int 0, .int 300, .int 300, .int 0, .int 0, .int 400, .int 300, .int 1, .int ((-100)), .int 100, .int 0, .int 500, .int 500])), ((u 10), .inr (1, [.int 0, .int 300, .int 300, .int 0, .int 0, .int 400, .int 300, .int 1, .int ((-100)), .int 100, .int 0, .int 500, .int 500])), ((u 11), .inr (1, [.int 0, .int 300, .int 300, .int 0, .int 0, .int 400, .int 300, .int 1, .int ((-100)), .int 100, .int 0, .int 500, .int 500])), ((u 12), .inr (1, [.int 0, .int 300, .int 300, .int 0, .int 0, .int 400, .int 300, .int 1, .int ((-100)), .int 100, .int 0, .int 500, .int 500])), (mo, .inr (6, [.ref w.1, .double 0, .double 0, .double 0, .double 0, .double 0, .double 0, .double 0, .double 0, .double 0, .double 0, .int 0, .int 0, .int 0, .int 0, .int 0, .int ((nI 0)), .ref w.2.1, .int ((nI 0)), .ref w.2.2.1, .ref w.2.2.2, .double 0])), (w.1, .inl (cI, 52, .inl iniA)), (w.2.1, .inl (cI, 10, .inl (fun _ => 0))), (w.2.2.1, .inl (cI, 12, .inl (fun _ => 0))), (w.2.2.2, .inl (cI, 12, .inl (fun _ => 0)))] : va_W)[i]? = some (z i, e9) := by
    intro i hi
    rw [ez]
    rcases (show i = 0 ∨ i = 1 ∨ i = 2 ∨ i = 3 ∨ i = 4 ∨ i = 5 ∨ i = 6 ∨ i = 7 ∨ i = 8 ∨ i = 9 ∨ i = 10 ∨ i = 11 ∨ i = 12 ∨ i = 13 ∨ i = 14 ∨ i = 15 ∨ i = 16 ∨ i = 17 by omega) with rfl | rfl | rfl | rfl | rfl | rfl | rfl | rfl | rfl | rfl | rfl | rfl | rfl | rfl | rfl | rfl | rfl | rfl
    · exact ⟨_, rfl⟩
    · exact ⟨_, rfl⟩
    · exact ⟨_, rfl⟩
    · exact ⟨_, rfl⟩
    · exact ⟨_, rfl⟩
    · exact ⟨_, rfl⟩
    · exact ⟨_, rfl⟩
    · exact ⟨_, rfl⟩
    · exact ⟨_, rfl⟩
    · exact ⟨_, rfl⟩
    · exact ⟨_, rfl⟩
    · exact ⟨_, rfl⟩
    · exact ⟨_, rfl⟩
    · exact ⟨_, rfl⟩
    · exact ⟨_, rfl⟩
    · exact ⟨_, rfl⟩
    · exact ⟨_, rfl⟩
    · exact ⟨_, rfl⟩
  have hz : zOk (fun q : Nat => s.heap.size ≤ q) z := by
    refine ⟨fun i j hi hj e9 => ?_, fun i hi => ?_⟩
    · obtain ⟨e1, h1⟩ := hget i hi
      obtain ⟨e2, h2⟩ := hget j hj
      exact hD.1 i j _ _ h1 h2 e9
    · obtain ⟨e1, h1⟩ := hget i hi
      exact hD.2 i _ h1
  have hW : wP D cI cH z (va_up (va_up (va_up (va_up (fun _ => none) (0 : Int32).toNatClampNeg (some (u 9))) (1 : Int32).toNatClampNeg (some (u 10))) (2 : Int32).toNatClampNeg (some (u 11))) (3 : Int32).toNatClampNeg (some (u 12))) iniA (fun _ => 0) (fun _ => 0) (fun _ => 0) 0 0 [.int 0, .int 0, .double 0, .double 0, .double 0, .double 0, .double 0, .double 0, .double 0, .double 0, .double 0, .double 0, .double 0, .double 0] [.int 0, .int 0, .int 0, .int 0, .int 0] [.ref (z 14), .double 0, .double 0, .double 0, .double 0, .double 0, .double 0, .double 0, .double 0, .double 0, .double 0, .int 0, .int 0, .int 0, .int 0, .int 0, .int (nI 0), .ref (z 15), .int (nI 0), .ref (z 16), .ref (z 17), .double 0] H := by
    rw [ez]
    intro i hi
    rcases (show i = 0 ∨ i = 1 ∨ i = 2 ∨ i = 3 ∨ i = 4 ∨ i = 5 ∨ i = 6 ∨ i = 7 ∨ i = 8 ∨ i = 9 ∨ i = 10 ∨ i = 11 ∨ i = 12 ∨ i = 13 ∨ i = 14 ∨ i = 15 ∨ i = 16 ∨ i = 17 by omega) with rfl | rfl | rfl | rfl | rfl | rfl | rfl | rfl | rfl | rfl | rfl | rfl | rfl | rfl | rfl | rfl | rfl | rfl
    · exact hP 0 _ rfl
    · exact hP 1 _ rfl
    · exact hP 2 _ rfl
    · exact hP 3 _ rfl
    · show va_at D vwCl (u 4, .inr (3, [.ref (u 5), .int (nI 0)])) H
      rw [nI_0]
      exact hP 4 _ rfl
    · exact hP 5 _ rfl
    · show va_at D vwCl (u 6, .inr (2, [.ref (u 7), .ref (u 8), .int (nI 0)])) H
      rw [nI_0]
      exact hP 6 _ rfl
    · exact hP 7 _ rfl
    · exact hP 8 _ rfl
    · show va_at D vwCl (u 9, .inr (1, hL iniA 0)) H
      rw [iniA_0]
      exact hP 9 _ rfl
    · show va_at D vwCl (u 10, .inr (1, hL iniA 1)) H
      rw [iniA_1]
      exact hP 10 _ rfl
    · show va_at D vwCl (u 11, .inr (1, hL iniA 2)) H
      rw [iniA_2]
      exact hP 11 _ rfl
    · show va_at D vwCl (u 12, .inr (1, hL iniA 3)) H
      rw [iniA_3]
      exact hP 12 _ rfl
    · exact hP 13 _ rfl
    · exact hP 14 _ rfl
    · exact hP 15 _ rfl
    · exact hP 16 _ rfl
    · exact hP 17 _ rfl
  have hfh : ∀ j, j < 4 → (va_up (va_up (va_up (va_up (fun _ => none) (0 : Int32).toNatClampNeg (some (u 9))) (1 : Int32).toNatClampNeg (some (u 10))) (2 : Int32).toNatClampNeg (some (u 11))) (3 : Int32).toNatClampNeg (some (u 12))) j = some (z (9 + j)) := by
    intro j hj
    rw [ez]
    rcases (show j = 0 ∨ j = 1 ∨ j = 2 ∨ j = 3 by omega) with rfl | rfl | rfl | rfl
    · rfl
    · rfl
    · rfl
    · rfl
  have hI : inv D cI cH z (va_up (va_up (va_up (va_up (fun _ => none) (0 : Int32).toNatClampNeg (some (u 9))) (1 : Int32).toNatClampNeg (some (u 10))) (2 : Int32).toNatClampNeg (some (u 11))) (3 : Int32).toNatClampNeg (some (u 12))) H := ⟨iniA, fun _ => 0, fun _ => 0, fun _ => 0, 0, 0, 0, 0, 0, 0, 0, _, _, iniOk, ⟨0, 0, 0, 0, 0, 0, 0, 0, 0, 0, 0, 0, 0, 0, rfl⟩, ⟨0, 0, 0, 0, 0, 0, 0, 0, 0, 0, 0, rfl⟩, hW⟩
  have ho : o = z 0 := (congrFun ez 0).symm
  have hm : mo = z 13 := (congrFun ez 13).symm
  refine lv_astore_n (lv' := [(2, .ref mo), (1, .ref o), (0, .ref b)]) hx hb dL_law_15 rfl hl (by decide) rfl (fun ls hl => ?_)
  refine lv_iconst (v := 0) hx hb dL_law_16 (by decide) ?_
  refine lv_istore_n (lv' := [(3, .int 0), (2, .ref mo), (1, .ref o), (0, .ref b)]) hx hb dL_law_17 rfl hl (by decide) rfl (fun ls hl => ?_)
  rw [ho, hm, ← nI_0] at hl
  exact law_loop (cells := 18) (slots := 227) (Nat.le_of_ble_eq_true rfl) (Nat.le_of_ble_eq_true rfl) hx hb hml hown hts hw hX hbl hbA hz hfh hLn hend (L + 10) 0 H locs ls (by omega) (by omega) hI hS hl
