section
-- ===== PART A: goes FIRST, ahead of the names: the tables' words, and 'selects' of the private methods out of them =====
/-- a private method of a class that the tables say can be made, by its rows of tables_1 -/
def lw_okq (q : MethodName × Nat) : Prop := (q.1.cls ≠ "java/lang/invoke/MethodHandle" ∧ q.1.cls ≠ "java/lang/invoke/VarHandle") ∧ Cond.instantiable q.1.cls q.2 ∈ tables_1 ∧ Cond.privateMethod q.1 ∈ tables_1 ∧ Cond.instanceMethod q.1 ∈ tables_1
theorem lw_p0 : lw_okq (⟨"WheelSwing$Hanging", "setUpperArm", "(III)V"⟩, 13) := ⟨⟨by decide +kernel, by decide +kernel⟩, List.mem_of_getElem? (i := 134) (by decide +kernel), List.mem_of_getElem? (i := 228) (by decide +kernel), List.mem_of_getElem? (i := 229) (by decide +kernel)⟩
theorem lw_p1 : lw_okq (⟨"WheelSwing$Hanging", "setLowerArm", "(III)V"⟩, 13) := ⟨⟨by decide +kernel, by decide +kernel⟩, List.mem_of_getElem? (i := 134) (by decide +kernel), List.mem_of_getElem? (i := 232) (by decide +kernel), List.mem_of_getElem? (i := 233) (by decide +kernel)⟩
theorem lw_p2 : lw_okq (⟨"WheelSwing$Hanging", "setUpright", "(II)V"⟩, 13) := ⟨⟨by decide +kernel, by decide +kernel⟩, List.mem_of_getElem? (i := 134) (by decide +kernel), List.mem_of_getElem? (i := 236) (by decide +kernel), List.mem_of_getElem? (i := 237) (by decide +kernel)⟩
theorem lw_p3 : lw_okq (⟨"WheelSwing$Hanging", "setRoadPoint", "(II)V"⟩, 13) := ⟨⟨by decide +kernel, by decide +kernel⟩, List.mem_of_getElem? (i := 134) (by decide +kernel), List.mem_of_getElem? (i := 244) (by decide +kernel), List.mem_of_getElem? (i := 245) (by decide +kernel)⟩
theorem lw_p4 : lw_okq (⟨"WheelSwing$Hanging", "setSpring", "(III)V"⟩, 13) := ⟨⟨by decide +kernel, by decide +kernel⟩, List.mem_of_getElem? (i := 134) (by decide +kernel), List.mem_of_getElem? (i := 252) (by decide +kernel), List.mem_of_getElem? (i := 253) (by decide +kernel)⟩
theorem lw_p5 : lw_okq (⟨"WheelSwing$Hanging", "becomeMirrorOf", "(LWheelSwing$Hanging;)V"⟩, 13) := ⟨⟨by decide +kernel, by decide +kernel⟩, List.mem_of_getElem? (i := 134) (by decide +kernel), List.mem_of_getElem? (i := 260) (by decide +kernel), List.mem_of_getElem? (i := 261) (by decide +kernel)⟩
theorem lw_p6 : lw_okq (⟨"WheelSwing", "springShare", "(LWheelSwing$Hanging;I)J"⟩, 5) := ⟨⟨by decide +kernel, by decide +kernel⟩, List.mem_of_getElem? (i := 12) (by decide +kernel), List.mem_of_getElem? (i := 274) (by decide +kernel), List.mem_of_getElem? (i := 275) (by decide +kernel)⟩
theorem lw_p7 : lw_okq (⟨"WheelSwing$Stand", "reach", "(LWheelSwing$Hanging;III)Z"⟩, 14) := ⟨⟨by decide +kernel, by decide +kernel⟩, List.mem_of_getElem? (i := 22) (by decide +kernel), List.mem_of_getElem? (i := 278) (by decide +kernel), List.mem_of_getElem? (i := 279) (by decide +kernel)⟩
theorem lw_p8 : lw_okq (⟨"WheelSwing$Stand", "springLength", "(LWheelSwing$Hanging;)D"⟩, 14) := ⟨⟨by decide +kernel, by decide +kernel⟩, List.mem_of_getElem? (i := 22) (by decide +kernel), List.mem_of_getElem? (i := 298) (by decide +kernel), List.mem_of_getElem? (i := 299) (by decide +kernel)⟩
theorem lw_p9 : lw_okq (⟨"WheelSwing$Stand", "placeUpright", "(LWheelSwing$Hanging;)V"⟩, 14) := ⟨⟨by decide +kernel, by decide +kernel⟩, List.mem_of_getElem? (i := 22) (by decide +kernel), List.mem_of_getElem? (i := 310) (by decide +kernel), List.mem_of_getElem? (i := 311) (by decide +kernel)⟩
theorem lw_p10 : lw_okq (⟨"WheelSwing", "tellWheel", "(LWheelSwing$Hanging;I)J"⟩, 5) := ⟨⟨by decide +kernel, by decide +kernel⟩, List.mem_of_getElem? (i := 12) (by decide +kernel), List.mem_of_getElem? (i := 314) (by decide +kernel), List.mem_of_getElem? (i := 315) (by decide +kernel)⟩
theorem lw_p11 : lw_okq (⟨"WheelSwing$Stand", "roadX", "(LWheelSwing$Hanging;)D"⟩, 14) := ⟨⟨by decide +kernel, by decide +kernel⟩, List.mem_of_getElem? (i := 22) (by decide +kernel), List.mem_of_getElem? (i := 318) (by decide +kernel), List.mem_of_getElem? (i := 319) (by decide +kernel)⟩
theorem lw_p12 : lw_okq (⟨"WheelSwing$Stand", "roadY", "(LWheelSwing$Hanging;)D"⟩, 14) := ⟨⟨by decide +kernel, by decide +kernel⟩, List.mem_of_getElem? (i := 22) (by decide +kernel), List.mem_of_getElem? (i := 322) (by decide +kernel), List.mem_of_getElem? (i := 323) (by decide +kernel)⟩
theorem lw_p13 : lw_okq (⟨"WheelSwing", "tellTravel", "(LWheelSwing$Hanging;I)J"⟩, 5) := ⟨⟨by decide +kernel, by decide +kernel⟩, List.mem_of_getElem? (i := 12) (by decide +kernel), List.mem_of_getElem? (i := 326) (by decide +kernel), List.mem_of_getElem? (i := 327) (by decide +kernel)⟩
theorem lw_p14 : lw_okq (⟨"WheelSwing$Stand", "findCentre", "(LWheelSwing$Hanging;)Z"⟩, 14) := ⟨⟨by decide +kernel, by decide +kernel⟩, List.mem_of_getElem? (i := 22) (by decide +kernel), List.mem_of_getElem? (i := 330) (by decide +kernel), List.mem_of_getElem? (i := 331) (by decide +kernel)⟩
theorem lw_p15 : lw_okq (⟨"WheelSwing$Car", "load", "(III)V"⟩, 5) := ⟨⟨by decide +kernel, by decide +kernel⟩, List.mem_of_getElem? (i := 79) (by decide +kernel), List.mem_of_getElem? (i := 346) (by decide +kernel), List.mem_of_getElem? (i := 347) (by decide +kernel)⟩
def lw_privs_1 : List (MethodName × Nat) := [(⟨"WheelSwing$Hanging", "setUpperArm", "(III)V"⟩, 13), (⟨"WheelSwing$Hanging", "setLowerArm", "(III)V"⟩, 13), (⟨"WheelSwing$Hanging", "setUpright", "(II)V"⟩, 13), (⟨"WheelSwing$Hanging", "setRoadPoint", "(II)V"⟩, 13), (⟨"WheelSwing$Hanging", "setSpring", "(III)V"⟩, 13), (⟨"WheelSwing$Hanging", "becomeMirrorOf", "(LWheelSwing$Hanging;)V"⟩, 13), (⟨"WheelSwing", "springShare", "(LWheelSwing$Hanging;I)J"⟩, 5), (⟨"WheelSwing$Stand", "reach", "(LWheelSwing$Hanging;III)Z"⟩, 14), (⟨"WheelSwing$Stand", "springLength", "(LWheelSwing$Hanging;)D"⟩, 14), (⟨"WheelSwing$Stand", "placeUpright", "(LWheelSwing$Hanging;)V"⟩, 14), (⟨"WheelSwing", "tellWheel", "(LWheelSwing$Hanging;I)J"⟩, 5), (⟨"WheelSwing$Stand", "roadX", "(LWheelSwing$Hanging;)D"⟩, 14), (⟨"WheelSwing$Stand", "roadY", "(LWheelSwing$Hanging;)D"⟩, 14), (⟨"WheelSwing", "tellTravel", "(LWheelSwing$Hanging;I)J"⟩, 5), (⟨"WheelSwing$Stand", "findCentre", "(LWheelSwing$Hanging;)Z"⟩, 14), (⟨"WheelSwing$Car", "load", "(III)V"⟩, 5)]
theorem lw_r1 : ∀ q ∈ lw_privs_1, lw_okq q := List.forall_mem_cons.mpr ⟨lw_p0, List.forall_mem_cons.mpr ⟨lw_p1, List.forall_mem_cons.mpr ⟨lw_p2, List.forall_mem_cons.mpr ⟨lw_p3, List.forall_mem_cons.mpr ⟨lw_p4, List.forall_mem_cons.mpr ⟨lw_p5, List.forall_mem_cons.mpr ⟨lw_p6, List.forall_mem_cons.mpr ⟨lw_p7, List.forall_mem_cons.mpr ⟨lw_p8, List.forall_mem_cons.mpr ⟨lw_p9, List.forall_mem_cons.mpr ⟨lw_p10, List.forall_mem_cons.mpr ⟨lw_p11, List.forall_mem_cons.mpr ⟨lw_p12, List.forall_mem_cons.mpr ⟨lw_p13, List.forall_mem_cons.mpr ⟨lw_p14, List.forall_mem_cons.mpr ⟨lw_p15, fun _ h => absurd h List.not_mem_nil⟩⟩⟩⟩⟩⟩⟩⟩⟩⟩⟩⟩⟩⟩⟩⟩
theorem lw_p16 : lw_okq (⟨"WheelSwing$Car", "lean", "(II)V"⟩, 5) := ⟨⟨by decide +kernel, by decide +kernel⟩, List.mem_of_getElem? (i := 79) (by decide +kernel), List.mem_of_getElem? (i := 355) (by decide +kernel), List.mem_of_getElem? (i := 356) (by decide +kernel)⟩
theorem lw_p17 : lw_okq (⟨"WheelSwing$Car", "loadOf", "(I)I"⟩, 5) := ⟨⟨by decide +kernel, by decide +kernel⟩, List.mem_of_getElem? (i := 79) (by decide +kernel), List.mem_of_getElem? (i := 363) (by decide +kernel), List.mem_of_getElem? (i := 364) (by decide +kernel)⟩
theorem lw_p18 : lw_okq (⟨"WheelSwing$ShimBox", "add", "(I)I"⟩, 2) := ⟨⟨by decide +kernel, by decide +kernel⟩, List.mem_of_getElem? (i := 101) (by decide +kernel), List.mem_of_getElem? (i := 372) (by decide +kernel), List.mem_of_getElem? (i := 373) (by decide +kernel)⟩
theorem lw_p19 : lw_okq (⟨"WheelSwing$ShimBox", "nearestSet", "(II)I"⟩, 2) := ⟨⟨by decide +kernel, by decide +kernel⟩, List.mem_of_getElem? (i := 101) (by decide +kernel), List.mem_of_getElem? (i := 380) (by decide +kernel), List.mem_of_getElem? (i := 381) (by decide +kernel)⟩
theorem lw_p20 : lw_okq (⟨"WheelSwing$ShimBox", "sumOf", "(I)I"⟩, 2) := ⟨⟨by decide +kernel, by decide +kernel⟩, List.mem_of_getElem? (i := 101) (by decide +kernel), List.mem_of_getElem? (i := 390) (by decide +kernel), List.mem_of_getElem? (i := 391) (by decide +kernel)⟩
theorem lw_p21 : lw_okq (⟨"WheelSwing$Readings", "add", "(II)I"⟩, 3) := ⟨⟨by decide +kernel, by decide +kernel⟩, List.mem_of_getElem? (i := 116) (by decide +kernel), List.mem_of_getElem? (i := 401) (by decide +kernel), List.mem_of_getElem? (i := 402) (by decide +kernel)⟩
theorem lw_p22 : lw_okq (⟨"WheelSwing", "howFarOff", "(LWheelSwing$Hanging;II)D"⟩, 5) := ⟨⟨by decide +kernel, by decide +kernel⟩, List.mem_of_getElem? (i := 12) (by decide +kernel), List.mem_of_getElem? (i := 413) (by decide +kernel), List.mem_of_getElem? (i := 414) (by decide +kernel)⟩
theorem lw_p23 : lw_okq (⟨"WheelSwing$Stand", "squareFrom", "(LWheelSwing$Hanging;II)D"⟩, 14) := ⟨⟨by decide +kernel, by decide +kernel⟩, List.mem_of_getElem? (i := 22) (by decide +kernel), List.mem_of_getElem? (i := 427) (by decide +kernel), List.mem_of_getElem? (i := 428) (by decide +kernel)⟩
theorem lw_p24 : lw_okq (⟨"WheelSwing$Hanging", "mixInto", "(J)J"⟩, 13) := ⟨⟨by decide +kernel, by decide +kernel⟩, List.mem_of_getElem? (i := 134) (by decide +kernel), List.mem_of_getElem? (i := 444) (by decide +kernel), List.mem_of_getElem? (i := 445) (by decide +kernel)⟩
theorem lw_p25 : lw_okq (⟨"WheelSwing$ShimBox", "mixInto", "(J)J"⟩, 2) := ⟨⟨by decide +kernel, by decide +kernel⟩, List.mem_of_getElem? (i := 101) (by decide +kernel), List.mem_of_getElem? (i := 449) (by decide +kernel), List.mem_of_getElem? (i := 450) (by decide +kernel)⟩
theorem lw_p26 : lw_okq (⟨"WheelSwing$Readings", "mixInto", "(J)J"⟩, 3) := ⟨⟨by decide +kernel, by decide +kernel⟩, List.mem_of_getElem? (i := 116) (by decide +kernel), List.mem_of_getElem? (i := 454) (by decide +kernel), List.mem_of_getElem? (i := 455) (by decide +kernel)⟩
theorem lw_p27 : lw_okq (⟨"WheelSwingModel", "lays", "(IIIIIIIII)V"⟩, 22) := ⟨⟨by decide +kernel, by decide +kernel⟩, List.mem_of_getElem? (i := 459) (by decide +kernel), List.mem_of_getElem? (i := 465) (by decide +kernel), List.mem_of_getElem? (i := 466) (by decide +kernel)⟩
theorem lw_p28 : lw_okq (⟨"WheelSwingModel", "share", "(II)J"⟩, 22) := ⟨⟨by decide +kernel, by decide +kernel⟩, List.mem_of_getElem? (i := 459) (by decide +kernel), List.mem_of_getElem? (i := 569) (by decide +kernel), List.mem_of_getElem? (i := 570) (by decide +kernel)⟩
theorem lw_p29 : lw_okq (⟨"WheelSwingModel", "poses", "(II)Z"⟩, 22) := ⟨⟨by decide +kernel, by decide +kernel⟩, List.mem_of_getElem? (i := 459) (by decide +kernel), List.mem_of_getElem? (i := 573) (by decide +kernel), List.mem_of_getElem? (i := 574) (by decide +kernel)⟩
theorem lw_p30 : lw_okq (⟨"WheelSwingModel", "lengthAt", "(I)D"⟩, 22) := ⟨⟨by decide +kernel, by decide +kernel⟩, List.mem_of_getElem? (i := 459) (by decide +kernel), List.mem_of_getElem? (i := 585) (by decide +kernel), List.mem_of_getElem? (i := 586) (by decide +kernel)⟩
theorem lw_p31 : lw_okq (⟨"WheelSwingModel", "told", "(II)J"⟩, 22) := ⟨⟨by decide +kernel, by decide +kernel⟩, List.mem_of_getElem? (i := 459) (by decide +kernel), List.mem_of_getElem? (i := 595) (by decide +kernel), List.mem_of_getElem? (i := 596) (by decide +kernel)⟩
def lw_privs_2 : List (MethodName × Nat) := [(⟨"WheelSwing$Car", "lean", "(II)V"⟩, 5), (⟨"WheelSwing$Car", "loadOf", "(I)I"⟩, 5), (⟨"WheelSwing$ShimBox", "add", "(I)I"⟩, 2), (⟨"WheelSwing$ShimBox", "nearestSet", "(II)I"⟩, 2), (⟨"WheelSwing$ShimBox", "sumOf", "(I)I"⟩, 2), (⟨"WheelSwing$Readings", "add", "(II)I"⟩, 3), (⟨"WheelSwing", "howFarOff", "(LWheelSwing$Hanging;II)D"⟩, 5), (⟨"WheelSwing$Stand", "squareFrom", "(LWheelSwing$Hanging;II)D"⟩, 14), (⟨"WheelSwing$Hanging", "mixInto", "(J)J"⟩, 13), (⟨"WheelSwing$ShimBox", "mixInto", "(J)J"⟩, 2), (⟨"WheelSwing$Readings", "mixInto", "(J)J"⟩, 3), (⟨"WheelSwingModel", "lays", "(IIIIIIIII)V"⟩, 22), (⟨"WheelSwingModel", "share", "(II)J"⟩, 22), (⟨"WheelSwingModel", "poses", "(II)Z"⟩, 22), (⟨"WheelSwingModel", "lengthAt", "(I)D"⟩, 22), (⟨"WheelSwingModel", "told", "(II)J"⟩, 22)]
theorem lw_r2 : ∀ q ∈ lw_privs_2, lw_okq q := List.forall_mem_cons.mpr ⟨lw_p16, List.forall_mem_cons.mpr ⟨lw_p17, List.forall_mem_cons.mpr ⟨lw_p18, List.forall_mem_cons.mpr ⟨lw_p19, List.forall_mem_cons.mpr ⟨lw_p20, List.forall_mem_cons.mpr ⟨lw_p21, List.forall_mem_cons.mpr ⟨lw_p22, List.forall_mem_cons.mpr ⟨lw_p23, List.forall_mem_cons.mpr ⟨lw_p24, List.forall_mem_cons.mpr ⟨lw_p25, List.forall_mem_cons.mpr ⟨lw_p26, List.forall_mem_cons.mpr ⟨lw_p27, List.forall_mem_cons.mpr ⟨lw_p28, List.forall_mem_cons.mpr ⟨lw_p29, List.forall_mem_cons.mpr ⟨lw_p30, List.forall_mem_cons.mpr ⟨lw_p31, fun _ h => absurd h List.not_mem_nil⟩⟩⟩⟩⟩⟩⟩⟩⟩⟩⟩⟩⟩⟩⟩⟩
theorem lw_p32 : lw_okq (⟨"WheelSwingModel", "road", "(I)V"⟩, 22) := ⟨⟨by decide +kernel, by decide +kernel⟩, List.mem_of_getElem? (i := 459) (by decide +kernel), List.mem_of_getElem? (i := 599) (by decide +kernel), List.mem_of_getElem? (i := 600) (by decide +kernel)⟩
theorem lw_p33 : lw_okq (⟨"WheelSwingModel", "hasCentre", "(I)Z"⟩, 22) := ⟨⟨by decide +kernel, by decide +kernel⟩, List.mem_of_getElem? (i := 459) (by decide +kernel), List.mem_of_getElem? (i := 603) (by decide +kernel), List.mem_of_getElem? (i := 604) (by decide +kernel)⟩
theorem lw_p34 : lw_okq (⟨"WheelSwingModel", "isOff", "(I)Z"⟩, 22) := ⟨⟨by decide +kernel, by decide +kernel⟩, List.mem_of_getElem? (i := 459) (by decide +kernel), List.mem_of_getElem? (i := 646) (by decide +kernel), List.mem_of_getElem? (i := 647) (by decide +kernel)⟩
theorem lw_p35 : lw_okq (⟨"WheelSwingModel", "isFree", "(IIII)Z"⟩, 22) := ⟨⟨by decide +kernel, by decide +kernel⟩, List.mem_of_getElem? (i := 459) (by decide +kernel), List.mem_of_getElem? (i := 658) (by decide +kernel), List.mem_of_getElem? (i := 659) (by decide +kernel)⟩
def lw_privs_3 : List (MethodName × Nat) := [(⟨"WheelSwingModel", "road", "(I)V"⟩, 22), (⟨"WheelSwingModel", "hasCentre", "(I)Z"⟩, 22), (⟨"WheelSwingModel", "isOff", "(I)Z"⟩, 22), (⟨"WheelSwingModel", "isFree", "(IIII)Z"⟩, 22)]
theorem lw_r3 : ∀ q ∈ lw_privs_3, lw_okq q := List.forall_mem_cons.mpr ⟨lw_p32, List.forall_mem_cons.mpr ⟨lw_p33, List.forall_mem_cons.mpr ⟨lw_p34, List.forall_mem_cons.mpr ⟨lw_p35, fun _ h => absurd h List.not_mem_nil⟩⟩⟩⟩
def lw_privs : List (MethodName × Nat) := lw_privs_1 ++ (lw_privs_2 ++ (lw_privs_3))
def lw_tbl : List Cond := k2_sels lw_privs ++ tables_1
theorem lw_privs_ok : ∀ q ∈ lw_privs, lw_okq q := by
  show ∀ q ∈ lw_privs_1 ++ (lw_privs_2 ++ (lw_privs_3)), lw_okq q
  exact List.forall_mem_append.mpr ⟨lw_r1, List.forall_mem_append.mpr ⟨lw_r2, lw_r3⟩⟩
/-- the streams that the claim lets the run draw from -/
abbrev lw_cs : List Choice := [Jvm.Choice.named "NaN.bits"]
theorem lw_bits : nanBits ∈ lw_cs := by first | decide | exact List.mem_cons_self | simp [lw_cs, nanBits]
-- ===== end of PART A; then your names; then what follows =====
/-! ===== BEGIN words of one list among another's, by their places ===== -/
theorem goodIn_r {big : List Cond} (ws : List Cond) (ps : List Nat) (hp : ws = ps.filterMap (fun i => big[i]?)) (h : ws.all goodWord = true) : GoodIn big ws := by
  intro w hw
  have h1 := List.all_eq_true.mp h w hw
  rw [hp] at hw
  obtain ⟨i, -, hi⟩ := List.mem_filterMap.mp hw
  have hm : w ∈ big := by first | exact List.mem_of_getElem? hi | exact List.getElem?_mem hi
  exact ⟨hm, good_of_word h1⟩
theorem goodIn_app {big a b : List Cond} (ha : GoodIn big a) (hb : GoodIn big b) : GoodIn big (a ++ b) := fun w h => (List.mem_append.mp h).elim (ha w) (hb w)
theorem goodIn_ca {big a b : List Cond} {c : Cond} (ha : GoodIn big (c :: a)) (hb : GoodIn big b) : GoodIn big (c :: (a ++ b)) := fun w h => (List.mem_cons.mp h).elim (fun e => ha w (List.mem_cons.mpr (Or.inl e))) (fun h => (List.mem_append.mp h).elim (fun h => ha w (List.mem_cons.mpr (Or.inr h))) (hb w))
theorem goodIn_sub {big ws : List Cond} (hm : ∀ w ∈ ws, w ∈ big) (h : ws.all goodWord = true) : GoodIn big ws := fun w hw => ⟨hm w hw, good_of_word (List.all_eq_true.mp h w hw)⟩
/-! ===== END ===== -/

/-! ===== BEGIN printed: names, fields, word lists, decode rows ===== -/
def RX0 : String := "WheelSwing$Car"
def TX0 : u_T := fun k => match k with
  | 0 => ("WheelSwing$Car", "total", "I", false)
  | 1 => ("WheelSwing$Car", "place", "I", false)
  | 2 => ("WheelSwing$Car", "right", "I", false)
  | 3 => ("WheelSwing$Car", "toRight", "I", false)
  | _ => ("WheelSwing$Car", "frontShare", "I", false)
def tyX0 : Nat → FieldType := fun k => match k with
  | 0 => .int
  | 1 => .int
  | 2 => .int
  | 3 => .int
  | _ => .int
abbrev wsX00 : List Cond := u_ws RX0 TX0 5
theorem nmX0 : ∀ a, a < 5 → ∀ b, b < 5 → a ≠ b → (TX0 a).2.1 ≠ (TX0 b).2.1 := by decide +kernel
theorem tyX0_ok : ∀ k, k < 5 → parseFieldDescriptor (TX0 k).2.2.1 = some (tyX0 k) := by decide +kernel
abbrev cX0_init : ByteArray := prog_2_method_1_code
def yX0_init : MethodName := ⟨RX0, "<init>", "()V"⟩
abbrev cX0_load : ByteArray := prog_2_method_2_code
def yX0_load : MethodName := ⟨RX0, "load", "(III)V"⟩
abbrev cX0_lean : ByteArray := prog_2_method_3_code
def yX0_lean : MethodName := ⟨RX0, "lean", "(II)V"⟩
abbrev cX0_loadOf : ByteArray := prog_2_method_4_code
def yX0_loadOf : MethodName := ⟨RX0, "loadOf", "(I)I"⟩
def RX1 : String := "WheelSwing$Doubles"
def TX1 : u_T := fun k => match k with
  | _ => ("", "", "", false)
def tyX1 : Nat → FieldType := fun k => match k with
  | _ => .int
abbrev wsX10 : List Cond := u_ws RX1 TX1 0
theorem nmX1 : ∀ a, a < 0 → ∀ b, b < 0 → a ≠ b → (TX1 a).2.1 ≠ (TX1 b).2.1 := by decide +kernel
theorem tyX1_ok : ∀ k, k < 0 → parseFieldDescriptor (TX1 k).2.2.1 = some (tyX1 k) := by decide +kernel
abbrev cX1_squareRoot : ByteArray := prog_3_method_2_code
def yX1_squareRoot : MethodName := ⟨RX1, "squareRoot", "(D)D"⟩
abbrev cX1_rootOfPart : ByteArray := prog_3_method_3_code
def yX1_rootOfPart : MethodName := ⟨RX1, "rootOfPart", "(D)D"⟩
abbrev cX1_roundedRoot : ByteArray := prog_3_method_4_code
def yX1_roundedRoot : MethodName := ⟨RX1, "roundedRoot", "(JJ)J"⟩
abbrev cX1_bits : ByteArray := prog_3_method_5_code
def yX1_bits : MethodName := ⟨RX1, "bits", "(D)J"⟩
def RX2 : String := "WheelSwing$Hanging"
def TX2 : u_T := fun k => match k with
  | 0 => ("WheelSwing$Hanging", "ux", "I", false)
  | 1 => ("WheelSwing$Hanging", "uy", "I", false)
  | 2 => ("WheelSwing$Hanging", "a", "I", false)
  | 3 => ("WheelSwing$Hanging", "lx", "I", false)
  | 4 => ("WheelSwing$Hanging", "ly", "I", false)
  | 5 => ("WheelSwing$Hanging", "b", "I", false)
  | 6 => ("WheelSwing$Hanging", "c", "I", false)
  | 7 => ("WheelSwing$Hanging", "side", "I", false)
  | 8 => ("WheelSwing$Hanging", "g", "I", false)
  | 9 => ("WheelSwing$Hanging", "d", "I", false)
  | 10 => ("WheelSwing$Hanging", "sx", "I", false)
  | 11 => ("WheelSwing$Hanging", "sy", "I", false)
  | _ => ("WheelSwing$Hanging", "f", "I", false)
def tyX2 : Nat → FieldType := fun k => match k with
  | 0 => .int
  | 1 => .int
  | 2 => .int
  | 3 => .int
  | 4 => .int
  | 5 => .int
  | 6 => .int
  | 7 => .int
  | 8 => .int
  | 9 => .int
  | 10 => .int
  | 11 => .int
  | _ => .int
abbrev wsX20 : List Cond := u_ws RX2 TX2 13
theorem nmX2 : ∀ a, a < 13 → ∀ b, b < 13 → a ≠ b → (TX2 a).2.1 ≠ (TX2 b).2.1 := by decide +kernel
theorem tyX2_ok : ∀ k, k < 13 → parseFieldDescriptor (TX2 k).2.2.1 = some (tyX2 k) := by decide +kernel
abbrev cX2_init : ByteArray := prog_4_method_1_code
def yX2_init : MethodName := ⟨RX2, "<init>", "()V"⟩
abbrev cX2_setUpperArm : ByteArray := prog_4_method_2_code
def yX2_setUpperArm : MethodName := ⟨RX2, "setUpperArm", "(III)V"⟩
abbrev cX2_setLowerArm : ByteArray := prog_4_method_3_code
def yX2_setLowerArm : MethodName := ⟨RX2, "setLowerArm", "(III)V"⟩
abbrev cX2_setUpright : ByteArray := prog_4_method_4_code
def yX2_setUpright : MethodName := ⟨RX2, "setUpright", "(II)V"⟩
abbrev cX2_setRoadPoint : ByteArray := prog_4_method_5_code
def yX2_setRoadPoint : MethodName := ⟨RX2, "setRoadPoint", "(II)V"⟩
abbrev cX2_setSpring : ByteArray := prog_4_method_6_code
def yX2_setSpring : MethodName := ⟨RX2, "setSpring", "(III)V"⟩
abbrev cX2_becomeMirrorOf : ByteArray := prog_4_method_7_code
def yX2_becomeMirrorOf : MethodName := ⟨RX2, "becomeMirrorOf", "(LWheelSwing$Hanging;)V"⟩
abbrev cX2_mixInto : ByteArray := prog_4_method_8_code
def yX2_mixInto : MethodName := ⟨RX2, "mixInto", "(J)J"⟩
def RX3 : String := "WheelSwing$Readings"
def TX3 : u_T := fun k => match k with
  | 0 => ("WheelSwing$Readings", "heights", "[I", true)
  | 1 => ("WheelSwing$Readings", "leans", "[I", true)
  | _ => ("WheelSwing$Readings", "size", "I", false)
def tyX3 : Nat → FieldType := fun k => match k with
  | 0 => .array .int
  | 1 => .array .int
  | _ => .int
abbrev wsX30 : List Cond := u_ws RX3 TX3 3
theorem nmX3 : ∀ a, a < 3 → ∀ b, b < 3 → a ≠ b → (TX3 a).2.1 ≠ (TX3 b).2.1 := by decide +kernel
theorem tyX3_ok : ∀ k, k < 3 → parseFieldDescriptor (TX3 k).2.2.1 = some (tyX3 k) := by decide +kernel
abbrev cX3_init : ByteArray := prog_5_method_1_code
def yX3_init : MethodName := ⟨RX3, "<init>", "()V"⟩
abbrev cX3_add : ByteArray := prog_5_method_2_code
def yX3_add : MethodName := ⟨RX3, "add", "(II)I"⟩
abbrev cX3_mixInto : ByteArray := prog_5_method_3_code
def yX3_mixInto : MethodName := ⟨RX3, "mixInto", "(J)J"⟩
def RX4 : String := "WheelSwing$ShimBox"
def TX4 : u_T := fun k => match k with
  | 0 => ("WheelSwing$ShimBox", "thick", "[I", true)
  | _ => ("WheelSwing$ShimBox", "size", "I", false)
def tyX4 : Nat → FieldType := fun k => match k with
  | 0 => .array .int
  | _ => .int
abbrev wsX40 : List Cond := u_ws RX4 TX4 2
theorem nmX4 : ∀ a, a < 2 → ∀ b, b < 2 → a ≠ b → (TX4 a).2.1 ≠ (TX4 b).2.1 := by decide +kernel
theorem tyX4_ok : ∀ k, k < 2 → parseFieldDescriptor (TX4 k).2.2.1 = some (tyX4 k) := by decide +kernel
abbrev cX4_init : ByteArray := prog_6_method_1_code
def yX4_init : MethodName := ⟨RX4, "<init>", "()V"⟩
abbrev cX4_add : ByteArray := prog_6_method_2_code
def yX4_add : MethodName := ⟨RX4, "add", "(I)I"⟩
abbrev cX4_nearestSet : ByteArray := prog_6_method_3_code
def yX4_nearestSet : MethodName := ⟨RX4, "nearestSet", "(II)I"⟩
abbrev cX4_sumOf : ByteArray := prog_6_method_4_code
def yX4_sumOf : MethodName := ⟨RX4, "sumOf", "(I)I"⟩
abbrev cX4_mixInto : ByteArray := prog_6_method_5_code
def yX4_mixInto : MethodName := ⟨RX4, "mixInto", "(J)J"⟩
def RX5 : String := "WheelSwing$Stand"
def TX5 : u_T := fun k => match k with
  | 0 => ("WheelSwing$Stand", "ux", "I", false)
  | 1 => ("WheelSwing$Stand", "uy", "I", false)
  | 2 => ("WheelSwing$Stand", "px", "D", false)
  | 3 => ("WheelSwing$Stand", "py", "D", false)
  | 4 => ("WheelSwing$Stand", "qx", "D", false)
  | 5 => ("WheelSwing$Stand", "qy", "D", false)
  | 6 => ("WheelSwing$Stand", "vx", "D", false)
  | 7 => ("WheelSwing$Stand", "vy", "D", false)
  | 8 => ("WheelSwing$Stand", "ix", "D", false)
  | 9 => ("WheelSwing$Stand", "iy", "D", false)
  | 10 => ("WheelSwing$Stand", "dx", "D", false)
  | 11 => ("WheelSwing$Stand", "dy", "D", false)
  | 12 => ("WheelSwing$Stand", "m", "D", false)
  | _ => ("WheelSwing$Stand", "k", "D", false)
def tyX5 : Nat → FieldType := fun k => match k with
  | 0 => .int
  | 1 => .int
  | 2 => .double
  | 3 => .double
  | 4 => .double
  | 5 => .double
  | 6 => .double
  | 7 => .double
  | 8 => .double
  | 9 => .double
  | 10 => .double
  | 11 => .double
  | 12 => .double
  | _ => .double
abbrev wsX50 : List Cond := u_ws RX5 TX5 14
theorem nmX5 : ∀ a, a < 14 → ∀ b, b < 14 → a ≠ b → (TX5 a).2.1 ≠ (TX5 b).2.1 := by decide +kernel
theorem tyX5_ok : ∀ k, k < 14 → parseFieldDescriptor (TX5 k).2.2.1 = some (tyX5 k) := by decide +kernel
abbrev cX5_init : ByteArray := prog_7_method_1_code
def yX5_init : MethodName := ⟨RX5, "<init>", "()V"⟩
abbrev cX5_reach : ByteArray := prog_7_method_2_code
def yX5_reach : MethodName := ⟨RX5, "reach", "(LWheelSwing$Hanging;III)Z"⟩
abbrev cX5_placeUpright : ByteArray := prog_7_method_3_code
def yX5_placeUpright : MethodName := ⟨RX5, "placeUpright", "(LWheelSwing$Hanging;)V"⟩
abbrev cX5_roadX : ByteArray := prog_7_method_4_code
def yX5_roadX : MethodName := ⟨RX5, "roadX", "(LWheelSwing$Hanging;)D"⟩
abbrev cX5_roadY : ByteArray := prog_7_method_5_code
def yX5_roadY : MethodName := ⟨RX5, "roadY", "(LWheelSwing$Hanging;)D"⟩
abbrev cX5_findCentre : ByteArray := prog_7_method_6_code
def yX5_findCentre : MethodName := ⟨RX5, "findCentre", "(LWheelSwing$Hanging;)Z"⟩
abbrev cX5_springLength : ByteArray := prog_7_method_7_code
def yX5_springLength : MethodName := ⟨RX5, "springLength", "(LWheelSwing$Hanging;)D"⟩
abbrev cX5_squareFrom : ByteArray := prog_7_method_8_code
def yX5_squareFrom : MethodName := ⟨RX5, "squareFrom", "(LWheelSwing$Hanging;II)D"⟩
def RX6 : String := "WheelSwing"
def TX6 : u_T := fun k => match k with
  | 0 => ("WheelSwing", "hangings", "[LWheelSwing$Hanging;", true)
  | 1 => ("WheelSwing", "stand", "LWheelSwing$Stand;", true)
  | 2 => ("WheelSwing", "car", "LWheelSwing$Car;", true)
  | 3 => ("WheelSwing", "shims", "LWheelSwing$ShimBox;", true)
  | _ => ("WheelSwing", "readings", "LWheelSwing$Readings;", true)
def tyX6 : Nat → FieldType := fun k => match k with
  | 0 => .array (.object "WheelSwing$Hanging")
  | 1 => .object "WheelSwing$Stand"
  | 2 => .object "WheelSwing$Car"
  | 3 => .object "WheelSwing$ShimBox"
  | _ => .object "WheelSwing$Readings"
abbrev wsX60 : List Cond := u_ws RX6 TX6 5
theorem nmX6 : ∀ a, a < 5 → ∀ b, b < 5 → a ≠ b → (TX6 a).2.1 ≠ (TX6 b).2.1 := by decide +kernel
theorem tyX6_ok : ∀ k, k < 5 → parseFieldDescriptor (TX6 k).2.2.1 = some (tyX6 k) := by decide +kernel
abbrev cX6_init : ByteArray := prog_1_method_1_code
def yX6_init : MethodName := ⟨RX6, "<init>", "()V"⟩
abbrev cX6_hang : ByteArray := prog_1_method_2_code
def yX6_hang : MethodName := ⟨RX6, "hang", "(IIIIIIIII)I"⟩
abbrev cX6_wheel : ByteArray := prog_1_method_3_code
def yX6_wheel : MethodName := ⟨RX6, "wheel", "(III)I"⟩
abbrev cX6_spring : ByteArray := prog_1_method_4_code
def yX6_spring : MethodName := ⟨RX6, "spring", "(IIII)I"⟩
abbrev cX6_mirror : ByteArray := prog_1_method_5_code
def yX6_mirror : MethodName := ⟨RX6, "mirror", "(II)I"⟩
abbrev cX6_pose : ByteArray := prog_1_method_6_code
def yX6_pose : MethodName := ⟨RX6, "pose", "(III)J"⟩
abbrev cX6_lock : ByteArray := prog_1_method_7_code
def yX6_lock : MethodName := ⟨RX6, "lock", "(III)I"⟩
abbrev cX6_weight : ByteArray := prog_1_method_8_code
def yX6_weight : MethodName := ⟨RX6, "weight", "(III)I"⟩
abbrev cX6_push : ByteArray := prog_1_method_9_code
def yX6_push : MethodName := ⟨RX6, "push", "(II)I"⟩
abbrev cX6_carries : ByteArray := prog_1_method_10_code
def yX6_carries : MethodName := ⟨RX6, "carries", "(I)I"⟩
abbrev cX6_shim : ByteArray := prog_1_method_11_code
def yX6_shim : MethodName := ⟨RX6, "shim", "(I)I"⟩
abbrev cX6_best : ByteArray := prog_1_method_12_code
def yX6_best : MethodName := ⟨RX6, "best", "(II)I"⟩
abbrev cX6_reading : ByteArray := prog_1_method_13_code
def yX6_reading : MethodName := ⟨RX6, "reading", "(II)I"⟩
abbrev cX6_clear : ByteArray := prog_1_method_14_code
def yX6_clear : MethodName := ⟨RX6, "clear", "()I"⟩
abbrev cX6_off : ByteArray := prog_1_method_15_code
def yX6_off : MethodName := ⟨RX6, "off", "(I)J"⟩
abbrev cX6_found : ByteArray := prog_1_method_16_code
def yX6_found : MethodName := ⟨RX6, "found", "(III)J"⟩
abbrev cX6_isClear : ByteArray := prog_1_method_17_code
def yX6_isClear : MethodName := ⟨RX6, "isClear", "(IIIIII)I"⟩
abbrev cX6_count : ByteArray := prog_1_method_18_code
def yX6_count : MethodName := ⟨RX6, "count", "(I)I"⟩
abbrev cX6_digest : ByteArray := prog_1_method_19_code
def yX6_digest : MethodName := ⟨RX6, "digest", "()J"⟩
abbrev cX6_mix : ByteArray := prog_1_method_20_code
def yX6_mix : MethodName := ⟨RX6, "mix", "(JI)J"⟩
abbrev cX6_isWithin : ByteArray := prog_1_method_21_code
def yX6_isWithin : MethodName := ⟨RX6, "isWithin", "(III)Z"⟩
abbrev cX6_isHanging : ByteArray := prog_1_method_22_code
def yX6_isHanging : MethodName := ⟨RX6, "isHanging", "(I)Z"⟩
abbrev cX6_isCoordinate : ByteArray := prog_1_method_23_code
def yX6_isCoordinate : MethodName := ⟨RX6, "isCoordinate", "(I)Z"⟩
abbrev cX6_isPoint : ByteArray := prog_1_method_24_code
def yX6_isPoint : MethodName := ⟨RX6, "isPoint", "(II)Z"⟩
abbrev cX6_isArm : ByteArray := prog_1_method_25_code
def yX6_isArm : MethodName := ⟨RX6, "isArm", "(I)Z"⟩
abbrev cX6_isSpan : ByteArray := prog_1_method_26_code
def yX6_isSpan : MethodName := ⟨RX6, "isSpan", "(II)Z"⟩
abbrev cX6_tellWheel : ByteArray := prog_1_method_27_code
def yX6_tellWheel : MethodName := ⟨RX6, "tellWheel", "(LWheelSwing$Hanging;I)J"⟩
abbrev cX6_tellTravel : ByteArray := prog_1_method_28_code
def yX6_tellTravel : MethodName := ⟨RX6, "tellTravel", "(LWheelSwing$Hanging;I)J"⟩
abbrev cX6_springShare : ByteArray := prog_1_method_29_code
def yX6_springShare : MethodName := ⟨RX6, "springShare", "(LWheelSwing$Hanging;I)J"⟩
abbrev cX6_howFarOff : ByteArray := prog_1_method_30_code
def yX6_howFarOff : MethodName := ⟨RX6, "howFarOff", "(LWheelSwing$Hanging;II)D"⟩
def RX7 : String := "WheelSwingModel"
def TX7 : u_T := fun k => match k with
  | 0 => ("WheelSwingModel", "number", "[I", true)
  | 1 => ("WheelSwingModel", "px", "D", false)
  | 2 => ("WheelSwingModel", "py", "D", false)
  | 3 => ("WheelSwingModel", "qx", "D", false)
  | 4 => ("WheelSwingModel", "qy", "D", false)
  | 5 => ("WheelSwingModel", "vx", "D", false)
  | 6 => ("WheelSwingModel", "vy", "D", false)
  | 7 => ("WheelSwingModel", "rx", "D", false)
  | 8 => ("WheelSwingModel", "ry", "D", false)
  | 9 => ("WheelSwingModel", "ix", "D", false)
  | 10 => ("WheelSwingModel", "iy", "D", false)
  | 11 => ("WheelSwingModel", "heavy", "I", false)
  | 12 => ("WheelSwingModel", "place", "I", false)
  | 13 => ("WheelSwingModel", "toRight", "I", false)
  | 14 => ("WheelSwingModel", "push", "I", false)
  | 15 => ("WheelSwingModel", "share", "I", false)
  | 16 => ("WheelSwingModel", "shims", "I", false)
  | 17 => ("WheelSwingModel", "shim", "[I", true)
  | 18 => ("WheelSwingModel", "readings", "I", false)
  | 19 => ("WheelSwingModel", "readAt", "[I", true)
  | 20 => ("WheelSwingModel", "read", "[I", true)
  | _ => ("WheelSwingModel", "off", "D", false)
def tyX7 : Nat → FieldType := fun k => match k with
  | 0 => .array .int
  | 1 => .double
  | 2 => .double
  | 3 => .double
  | 4 => .double
  | 5 => .double
  | 6 => .double
  | 7 => .double
  | 8 => .double
  | 9 => .double
  | 10 => .double
  | 11 => .int
  | 12 => .int
  | 13 => .int
  | 14 => .int
  | 15 => .int
  | 16 => .int
  | 17 => .array .int
  | 18 => .int
  | 19 => .array .int
  | 20 => .array .int
  | _ => .double
abbrev wsX70 : List Cond := u_ws RX7 TX7 22
theorem nmX7 : ∀ a, a < 22 → ∀ b, b < 22 → a ≠ b → (TX7 a).2.1 ≠ (TX7 b).2.1 := by decide +kernel
theorem tyX7_ok : ∀ k, k < 22 → parseFieldDescriptor (TX7 k).2.2.1 = some (tyX7 k) := by decide +kernel
abbrev cX7_in : ByteArray := prog_9_method_2_code
def yX7_in : MethodName := ⟨RX7, "in", "(III)Z"⟩
abbrev cX7_bitsOf : ByteArray := prog_9_method_3_code
def yX7_bitsOf : MethodName := ⟨RX7, "bitsOf", "(D)J"⟩
abbrev cX7_root : ByteArray := prog_9_method_4_code
def yX7_root : MethodName := ⟨RX7, "root", "(D)D"⟩
abbrev cX7_init : ByteArray := prog_9_method_5_code
def yX7_init : MethodName := ⟨RX7, "<init>", "()V"⟩
abbrev cX7_lays : ByteArray := prog_9_method_6_code
def yX7_lays : MethodName := ⟨RX7, "lays", "(IIIIIIIII)V"⟩
abbrev cX7_isHanging : ByteArray := prog_9_method_7_code
def yX7_isHanging : MethodName := ⟨RX7, "isHanging", "(I)Z"⟩
abbrev cX7_isAt : ByteArray := prog_9_method_8_code
def yX7_isAt : MethodName := ⟨RX7, "isAt", "(I)Z"⟩
abbrev cX7_isLong : ByteArray := prog_9_method_9_code
def yX7_isLong : MethodName := ⟨RX7, "isLong", "(I)Z"⟩
abbrev cX7_hang : ByteArray := prog_9_method_10_code
def yX7_hang : MethodName := ⟨RX7, "hang", "(IIIIIIIII)I"⟩
abbrev cX7_wheel : ByteArray := prog_9_method_11_code
def yX7_wheel : MethodName := ⟨RX7, "wheel", "(III)I"⟩
abbrev cX7_spring : ByteArray := prog_9_method_12_code
def yX7_spring : MethodName := ⟨RX7, "spring", "(IIII)I"⟩
abbrev cX7_mirror : ByteArray := prog_9_method_13_code
def yX7_mirror : MethodName := ⟨RX7, "mirror", "(II)I"⟩
abbrev cX7_poses : ByteArray := prog_9_method_14_code
def yX7_poses : MethodName := ⟨RX7, "poses", "(II)Z"⟩
abbrev cX7_road : ByteArray := prog_9_method_15_code
def yX7_road : MethodName := ⟨RX7, "road", "(I)V"⟩
abbrev cX7_hasCentre : ByteArray := prog_9_method_16_code
def yX7_hasCentre : MethodName := ⟨RX7, "hasCentre", "(I)Z"⟩
abbrev cX7_lengthAt : ByteArray := prog_9_method_17_code
def yX7_lengthAt : MethodName := ⟨RX7, "lengthAt", "(I)D"⟩
abbrev cX7_share : ByteArray := prog_9_method_18_code
def yX7_share : MethodName := ⟨RX7, "share", "(II)J"⟩
abbrev cX7_told : ByteArray := prog_9_method_19_code
def yX7_told : MethodName := ⟨RX7, "told", "(II)J"⟩
abbrev cX7_pose : ByteArray := prog_9_method_20_code
def yX7_pose : MethodName := ⟨RX7, "pose", "(III)J"⟩
abbrev cX7_lock : ByteArray := prog_9_method_21_code
def yX7_lock : MethodName := ⟨RX7, "lock", "(III)I"⟩
abbrev cX7_weight : ByteArray := prog_9_method_22_code
def yX7_weight : MethodName := ⟨RX7, "weight", "(III)I"⟩
abbrev cX7_push : ByteArray := prog_9_method_23_code
def yX7_push : MethodName := ⟨RX7, "push", "(II)I"⟩
abbrev cX7_carries : ByteArray := prog_9_method_24_code
def yX7_carries : MethodName := ⟨RX7, "carries", "(I)I"⟩
abbrev cX7_shim : ByteArray := prog_9_method_25_code
def yX7_shim : MethodName := ⟨RX7, "shim", "(I)I"⟩
abbrev cX7_best : ByteArray := prog_9_method_26_code
def yX7_best : MethodName := ⟨RX7, "best", "(II)I"⟩
abbrev cX7_reading : ByteArray := prog_9_method_27_code
def yX7_reading : MethodName := ⟨RX7, "reading", "(II)I"⟩
abbrev cX7_clear : ByteArray := prog_9_method_28_code
def yX7_clear : MethodName := ⟨RX7, "clear", "()I"⟩
abbrev cX7_isOff : ByteArray := prog_9_method_29_code
def yX7_isOff : MethodName := ⟨RX7, "isOff", "(I)Z"⟩
abbrev cX7_off : ByteArray := prog_9_method_30_code
def yX7_off : MethodName := ⟨RX7, "off", "(I)J"⟩
abbrev cX7_found : ByteArray := prog_9_method_31_code
def yX7_found : MethodName := ⟨RX7, "found", "(III)J"⟩
abbrev cX7_isFree : ByteArray := prog_9_method_32_code
def yX7_isFree : MethodName := ⟨RX7, "isFree", "(IIII)Z"⟩
abbrev cX7_isClear : ByteArray := prog_9_method_33_code
def yX7_isClear : MethodName := ⟨RX7, "isClear", "(IIIIII)I"⟩
abbrev cX7_count : ByteArray := prog_9_method_34_code
def yX7_count : MethodName := ⟨RX7, "count", "(I)I"⟩
abbrev cX7_digest : ByteArray := prog_9_method_35_code
def yX7_digest : MethodName := ⟨RX7, "digest", "()J"⟩
def RJ6 : String := "java/lang/Integer"
def TJ6 : u_T := fun k => match k with
  | _ => ("", "", "", false)
def tyJ6 : Nat → FieldType := fun k => match k with
  | _ => .int
abbrev wsJ60 : List Cond := u_ws RJ6 TJ6 0
theorem nmJ6 : ∀ a, a < 0 → ∀ b, b < 0 → a ≠ b → (TJ6 a).2.1 ≠ (TJ6 b).2.1 := by decide +kernel
theorem tyJ6_ok : ∀ k, k < 0 → parseFieldDescriptor (TJ6 k).2.2.1 = some (tyJ6 k) := by decide +kernel
abbrev cJ6_bitCount_0f7a4 : ByteArray := prog_10_method_49_code
def yJ6_bitCount_0f7a4 : MethodName := ⟨RJ6, "bitCount", "(I)I"⟩
def RJ9 : String := "java/lang/Math"
def TJ9 : u_T := fun k => match k with
  | _ => ("", "", "", false)
def tyJ9 : Nat → FieldType := fun k => match k with
  | _ => .int
abbrev wsJ90 : List Cond := u_ws RJ9 TJ9 0
theorem nmJ9 : ∀ a, a < 0 → ∀ b, b < 0 → a ≠ b → (TJ9 a).2.1 ≠ (TJ9 b).2.1 := by decide +kernel
theorem tyJ9_ok : ∀ k, k < 0 → parseFieldDescriptor (TJ9 k).2.2.1 = some (tyJ9 k) := by decide +kernel
abbrev cJ9_abs_0f7a4 : ByteArray := prog_11_method_59_code
def yJ9_abs_0f7a4 : MethodName := ⟨RJ9, "abs", "(I)I"⟩
def RL : String := "WheelSwingLaw"
abbrev cL_law : ByteArray := code
def yL_law : MethodName := ⟨RL, "law", "([I)Z"⟩
def wsX0_init : List Cond := .code yX0_init cX0_init 1 none :: ([.methodLink RX0 1 objectInit, .instanceMethod objectInit, .code objectInit ⟨#[0xb1]⟩ 1 none])
def wsX0_load : List Cond := .code yX0_load cX0_load 4 none :: ([.fieldLink RX0 7 "WheelSwing$Car" "total" "I", .fieldLink RX0 13 "WheelSwing$Car" "place" "I", .fieldLink RX0 16 "WheelSwing$Car" "right" "I"] ++ wsX00)
def wsX0_lean : List Cond := .code yX0_lean cX0_lean 3 none :: ([.fieldLink RX0 19 "WheelSwing$Car" "toRight" "I", .fieldLink RX0 22 "WheelSwing$Car" "frontShare" "I"] ++ wsX00)
def wsX0_loadOf : List Cond := .code yX0_loadOf cX0_loadOf 9 (some .int) :: ([.fieldLink RX0 7 "WheelSwing$Car" "total" "I", .fieldLink RX0 13 "WheelSwing$Car" "place" "I", .fieldLink RX0 19 "WheelSwing$Car" "toRight" "I", .fieldLink RX0 22 "WheelSwing$Car" "frontShare" "I", .fieldLink RX0 16 "WheelSwing$Car" "right" "I"] ++ wsX00)
def wsX1_roundedRoot : List Cond := .code yX1_roundedRoot cX1_roundedRoot 9 (some .long) :: ([.constantLong RX1 25 (2)])
def wsX1_rootOfPart : List Cond := .code yX1_rootOfPart cX1_rootOfPart 6 (some .double) :: ([.constantDouble RX1 11 (4611686018427387904), .constantDouble RX1 17 (4613937818241073152), .constantDouble RX1 19 (4841369599423283200), .methodLink RX1 21 yX1_roundedRoot, .static yX1_roundedRoot, .initialized RX1, .code yX1_roundedRoot cX1_roundedRoot 9 (some .long), .constantLong RX1 25 (2)])
def wsX1_squareRoot : List Cond := .code yX1_squareRoot cX1_squareRoot 7 (some .double) :: ([.constantDouble RX1 9 (4616189618054758400), .constantDouble RX1 11 (4611686018427387904), .methodLink RX1 13 yX1_rootOfPart, .static yX1_rootOfPart, .initialized RX1, .code yX1_rootOfPart cX1_rootOfPart 6 (some .double), .constantDouble RX1 17 (4613937818241073152), .constantDouble RX1 19 (4841369599423283200), .methodLink RX1 21 yX1_roundedRoot, .static yX1_roundedRoot, .code yX1_roundedRoot cX1_roundedRoot 9 (some .long), .constantLong RX1 25 (2)])
def wsX1_bits : List Cond := .code yX1_bits cX1_bits 8 (some .long) :: ([.constantLong RX1 27 (-9223372036854775808), .constantLong RX1 29 (1023), .constantDouble RX1 11 (4611686018427387904), .constantDouble RX1 19 (4841369599423283200), .constantLong RX1 31 (4503599627370496)])
def wsX2_init : List Cond := .code yX2_init cX2_init 1 none :: ([.methodLink RX2 1 objectInit, .instanceMethod objectInit, .code objectInit ⟨#[0xb1]⟩ 1 none, .fieldLink RX2 7 "WheelSwing$Hanging" "ux" "I", .fieldLink RX2 13 "WheelSwing$Hanging" "uy" "I", .fieldLink RX2 16 "WheelSwing$Hanging" "a" "I", .fieldLink RX2 19 "WheelSwing$Hanging" "lx" "I", .fieldLink RX2 22 "WheelSwing$Hanging" "ly" "I", .fieldLink RX2 25 "WheelSwing$Hanging" "b" "I", .fieldLink RX2 28 "WheelSwing$Hanging" "c" "I", .fieldLink RX2 31 "WheelSwing$Hanging" "side" "I", .fieldLink RX2 34 "WheelSwing$Hanging" "g" "I", .fieldLink RX2 37 "WheelSwing$Hanging" "d" "I", .fieldLink RX2 40 "WheelSwing$Hanging" "sx" "I", .fieldLink RX2 43 "WheelSwing$Hanging" "sy" "I", .fieldLink RX2 46 "WheelSwing$Hanging" "f" "I"] ++ wsX20)
def wsX2_setUpperArm : List Cond := .code yX2_setUpperArm cX2_setUpperArm 4 none :: ([.fieldLink RX2 7 "WheelSwing$Hanging" "ux" "I", .fieldLink RX2 13 "WheelSwing$Hanging" "uy" "I", .fieldLink RX2 16 "WheelSwing$Hanging" "a" "I"] ++ wsX20)
def wsX2_setLowerArm : List Cond := .code yX2_setLowerArm cX2_setLowerArm 4 none :: ([.fieldLink RX2 19 "WheelSwing$Hanging" "lx" "I", .fieldLink RX2 22 "WheelSwing$Hanging" "ly" "I", .fieldLink RX2 25 "WheelSwing$Hanging" "b" "I"] ++ wsX20)
def wsX2_setUpright : List Cond := .code yX2_setUpright cX2_setUpright 3 none :: ([.fieldLink RX2 28 "WheelSwing$Hanging" "c" "I", .fieldLink RX2 31 "WheelSwing$Hanging" "side" "I"] ++ wsX20)
def wsX2_setRoadPoint : List Cond := .code yX2_setRoadPoint cX2_setRoadPoint 3 none :: ([.fieldLink RX2 34 "WheelSwing$Hanging" "g" "I", .fieldLink RX2 37 "WheelSwing$Hanging" "d" "I"] ++ wsX20)
def wsX2_setSpring : List Cond := .code yX2_setSpring cX2_setSpring 4 none :: ([.fieldLink RX2 40 "WheelSwing$Hanging" "sx" "I", .fieldLink RX2 43 "WheelSwing$Hanging" "sy" "I", .fieldLink RX2 46 "WheelSwing$Hanging" "f" "I"] ++ wsX20)
def wsX2_becomeMirrorOf_r1 : List Cond := [Cond.fieldLink RX2 7 "WheelSwing$Hanging" "ux" "I", Cond.fieldLink RX2 13 "WheelSwing$Hanging" "uy" "I", Cond.fieldLink RX2 16 "WheelSwing$Hanging" "a" "I", Cond.fieldLink RX2 19 "WheelSwing$Hanging" "lx" "I", Cond.fieldLink RX2 22 "WheelSwing$Hanging" "ly" "I", Cond.fieldLink RX2 25 "WheelSwing$Hanging" "b" "I", Cond.fieldLink RX2 28 "WheelSwing$Hanging" "c" "I", Cond.fieldLink RX2 31 "WheelSwing$Hanging" "side" "I", Cond.fieldLink RX2 34 "WheelSwing$Hanging" "g" "I", Cond.fieldLink RX2 37 "WheelSwing$Hanging" "d" "I", Cond.fieldLink RX2 40 "WheelSwing$Hanging" "sx" "I", Cond.fieldLink RX2 43 "WheelSwing$Hanging" "sy" "I", Cond.fieldLink RX2 46 "WheelSwing$Hanging" "f" "I", Cond.methodLink RX2 49 yX2_setUpperArm, Cond.instanceMethod yX2_setUpperArm, Cond.selects RX2 yX2_setUpperArm yX2_setUpperArm, Cond.initialized RX2, Cond.code yX2_setUpperArm cX2_setUpperArm 4 none, Cond.methodLink RX2 53 yX2_setLowerArm, Cond.instanceMethod yX2_setLowerArm, Cond.selects RX2 yX2_setLowerArm yX2_setLowerArm, Cond.code yX2_setLowerArm cX2_setLowerArm 4 none, Cond.methodLink RX2 56 yX2_setUpright, Cond.instanceMethod yX2_setUpright]
def wsX2_becomeMirrorOf_r2 : List Cond := [Cond.selects RX2 yX2_setUpright yX2_setUpright, Cond.code yX2_setUpright cX2_setUpright 3 none, Cond.methodLink RX2 60 yX2_setRoadPoint, Cond.instanceMethod yX2_setRoadPoint, Cond.selects RX2 yX2_setRoadPoint yX2_setRoadPoint, Cond.code yX2_setRoadPoint cX2_setRoadPoint 3 none, Cond.methodLink RX2 63 yX2_setSpring, Cond.instanceMethod yX2_setSpring, Cond.selects RX2 yX2_setSpring yX2_setSpring, Cond.code yX2_setSpring cX2_setSpring 4 none]
def wsX2_becomeMirrorOf : List Cond := .code yX2_becomeMirrorOf cX2_becomeMirrorOf 2 none :: ((wsX2_becomeMirrorOf_r1 ++ wsX2_becomeMirrorOf_r2) ++ wsX20)
def wsX6_mix : List Cond := .code yX6_mix cX6_mix 3 (some .long) :: ([.constantLong RX6 167 (31)])
def wsX2_mixInto : List Cond := .code yX2_mixInto cX2_mixInto 5 (some .long) :: ([.fieldLink RX2 7 "WheelSwing$Hanging" "ux" "I", .fieldLink RX2 13 "WheelSwing$Hanging" "uy" "I", .fieldLink RX2 19 "WheelSwing$Hanging" "lx" "I", .fieldLink RX2 22 "WheelSwing$Hanging" "ly" "I", .fieldLink RX2 16 "WheelSwing$Hanging" "a" "I", .fieldLink RX2 25 "WheelSwing$Hanging" "b" "I", .fieldLink RX2 28 "WheelSwing$Hanging" "c" "I", .fieldLink RX2 31 "WheelSwing$Hanging" "side" "I", .fieldLink RX2 34 "WheelSwing$Hanging" "g" "I", .fieldLink RX2 37 "WheelSwing$Hanging" "d" "I", .fieldLink RX2 40 "WheelSwing$Hanging" "sx" "I", .fieldLink RX2 43 "WheelSwing$Hanging" "sy" "I", .fieldLink RX2 46 "WheelSwing$Hanging" "f" "I", .static yX6_mix, .initialized RX6, .code yX6_mix cX6_mix 3 (some .long), .constantLong RX6 167 (31)] ++ wsX20)
def wsX3_init : List Cond := .code yX3_init cX3_init 1 none :: ([.methodLink RX3 3 objectInit, .instanceMethod objectInit, .code objectInit ⟨#[0xb1]⟩ 1 none, .arrayClass .int, .fieldLink RX3 11 "WheelSwing$Readings" "heights" "[I", .fieldLink RX3 15 "WheelSwing$Readings" "leans" "[I", .fieldLink RX3 18 "WheelSwing$Readings" "size" "I"] ++ wsX30)
def wsX3_add : List Cond := .code yX3_add cX3_add 3 (some .int) :: ([.fieldLink RX3 18 "WheelSwing$Readings" "size" "I", .fieldLink RX3 11 "WheelSwing$Readings" "heights" "[I", .fieldLink RX3 15 "WheelSwing$Readings" "leans" "[I"] ++ wsX30)
def wsX3_mixInto : List Cond := .code yX3_mixInto cX3_mixInto 6 (some .long) :: ([.fieldLink RX3 18 "WheelSwing$Readings" "size" "I", .fieldLink RX3 11 "WheelSwing$Readings" "heights" "[I", .fieldLink RX3 15 "WheelSwing$Readings" "leans" "[I", .static yX6_mix, .initialized RX6, .code yX6_mix cX6_mix 3 (some .long), .constantLong RX6 167 (31)] ++ wsX30)
def wsX4_init : List Cond := .code yX4_init cX4_init 1 none :: ([.methodLink RX4 3 objectInit, .instanceMethod objectInit, .code objectInit ⟨#[0xb1]⟩ 1 none, .arrayClass .int, .fieldLink RX4 11 "WheelSwing$ShimBox" "thick" "[I", .fieldLink RX4 15 "WheelSwing$ShimBox" "size" "I"] ++ wsX40)
def wsX4_add : List Cond := .code yX4_add cX4_add 2 (some .int) :: ([.fieldLink RX4 15 "WheelSwing$ShimBox" "size" "I", .fieldLink RX4 11 "WheelSwing$ShimBox" "thick" "[I"] ++ wsX40)
def wsJ6_bitCount_0f7a4 : List Cond := .code yJ6_bitCount_0f7a4 cJ6_bitCount_0f7a4 1 (some .int) :: ([.constant RJ6 265 (1431655765), .constant RJ6 266 (858993459), .constant RJ6 267 (252645135)])
def wsX4_sumOf : List Cond := .code yX4_sumOf cX4_sumOf 4 (some .int) :: ([.fieldLink RX4 15 "WheelSwing$ShimBox" "size" "I", .fieldLink RX4 11 "WheelSwing$ShimBox" "thick" "[I"] ++ wsX40)
def wsX4_nearestSet : List Cond := .code yX4_nearestSet cX4_nearestSet 9 (some .int) :: ([.fieldLink RX4 15 "WheelSwing$ShimBox" "size" "I", .methodLink RX4 28 Lib.Math.abs.name, .static Lib.Math.abs.name, .initialized "java/lang/Math", .code Lib.Math.abs.name Lib.Math.abs.code 1 (some .int), .methodLink RX4 19 yJ6_bitCount_0f7a4, .static yJ6_bitCount_0f7a4, .initialized RJ6, .code yJ6_bitCount_0f7a4 cJ6_bitCount_0f7a4 1 (some .int), .constant RJ6 265 (1431655765), .constant RJ6 266 (858993459), .constant RJ6 267 (252645135), .methodLink RX4 25 yX4_sumOf, .instanceMethod yX4_sumOf, .selects RX4 yX4_sumOf yX4_sumOf, .initialized RX4, .code yX4_sumOf cX4_sumOf 4 (some .int), .fieldLink RX4 11 "WheelSwing$ShimBox" "thick" "[I"] ++ wsX40)
def wsX4_mixInto : List Cond := .code yX4_mixInto cX4_mixInto 6 (some .long) :: ([.fieldLink RX4 15 "WheelSwing$ShimBox" "size" "I", .fieldLink RX4 11 "WheelSwing$ShimBox" "thick" "[I", .static yX6_mix, .initialized RX6, .code yX6_mix cX6_mix 3 (some .long), .constantLong RX6 167 (31)] ++ wsX40)
def wsX5_init : List Cond := .code yX5_init cX5_init 1 none :: ([.methodLink RX5 1 objectInit, .instanceMethod objectInit, .code objectInit ⟨#[0xb1]⟩ 1 none])
def wsX5_reach : List Cond := .code yX5_reach cX5_reach 8 (some .boolean) :: ([.fieldLink RX5 16 "WheelSwing$Stand" "ux" "I", .fieldLink RX5 21 "WheelSwing$Stand" "uy" "I", .fieldLink RX5 33 "WheelSwing$Stand" "px" "D", .fieldLink RX5 37 "WheelSwing$Stand" "py" "D", .fieldLink RX5 40 "WheelSwing$Stand" "dx" "D", .fieldLink RX5 43 "WheelSwing$Stand" "dy" "D", .constantDouble RX5 52 (4611686018427387904), .fieldLink RX5 54 "WheelSwing$Stand" "m" "D", .fieldLink RX5 57 "WheelSwing$Stand" "k" "D", .static yX1_squareRoot, .initialized RX1, .code yX1_squareRoot cX1_squareRoot 7 (some .double), .constantDouble RX1 9 (4616189618054758400), .constantDouble RX1 11 (4611686018427387904), .methodLink RX1 13 yX1_rootOfPart, .static yX1_rootOfPart, .code yX1_rootOfPart cX1_rootOfPart 6 (some .double), .constantDouble RX1 17 (4613937818241073152), .constantDouble RX1 19 (4841369599423283200), .methodLink RX1 21 yX1_roundedRoot, .static yX1_roundedRoot, .code yX1_roundedRoot cX1_roundedRoot 9 (some .long), .constantLong RX1 25 (2)] ++ wsX20 ++ wsX50)
def wsX5_placeUpright : List Cond := .code yX5_placeUpright cX5_placeUpright 4 none :: ([.fieldLink RX5 57 "WheelSwing$Stand" "k" "D", .fieldLink RX5 33 "WheelSwing$Stand" "px" "D", .fieldLink RX5 54 "WheelSwing$Stand" "m" "D", .fieldLink RX5 40 "WheelSwing$Stand" "dx" "D", .fieldLink RX5 43 "WheelSwing$Stand" "dy" "D", .fieldLink RX5 63 "WheelSwing$Stand" "qx" "D", .fieldLink RX5 37 "WheelSwing$Stand" "py" "D", .fieldLink RX5 66 "WheelSwing$Stand" "qy" "D", .fieldLink RX5 69 "WheelSwing$Stand" "vx" "D", .fieldLink RX5 72 "WheelSwing$Stand" "vy" "D", .static yX1_squareRoot, .initialized RX1, .code yX1_squareRoot cX1_squareRoot 7 (some .double), .constantDouble RX1 9 (4616189618054758400), .constantDouble RX1 11 (4611686018427387904), .methodLink RX1 13 yX1_rootOfPart, .static yX1_rootOfPart, .code yX1_rootOfPart cX1_rootOfPart 6 (some .double), .constantDouble RX1 17 (4613937818241073152), .constantDouble RX1 19 (4841369599423283200), .methodLink RX1 21 yX1_roundedRoot, .static yX1_roundedRoot, .code yX1_roundedRoot cX1_roundedRoot 9 (some .long), .constantLong RX1 25 (2)] ++ wsX20 ++ wsX50)
def wsX5_roadX : List Cond := .code yX5_roadX cX5_roadX 2 (some .double) :: ([.fieldLink RX5 33 "WheelSwing$Stand" "px" "D", .fieldLink RX5 69 "WheelSwing$Stand" "vx" "D", .fieldLink RX5 72 "WheelSwing$Stand" "vy" "D"] ++ wsX50 ++ wsX20)
def wsX5_roadY : List Cond := .code yX5_roadY cX5_roadY 2 (some .double) :: ([.fieldLink RX5 37 "WheelSwing$Stand" "py" "D", .fieldLink RX5 72 "WheelSwing$Stand" "vy" "D", .fieldLink RX5 69 "WheelSwing$Stand" "vx" "D"] ++ wsX50 ++ wsX20)
def wsX5_findCentre : List Cond := .code yX5_findCentre cX5_findCentre 6 (some .boolean) :: ([.fieldLink RX5 63 "WheelSwing$Stand" "qx" "D", .fieldLink RX5 16 "WheelSwing$Stand" "ux" "I", .fieldLink RX5 37 "WheelSwing$Stand" "py" "D", .fieldLink RX5 66 "WheelSwing$Stand" "qy" "D", .fieldLink RX5 21 "WheelSwing$Stand" "uy" "I", .fieldLink RX5 33 "WheelSwing$Stand" "px" "D", .fieldLink RX5 81 "WheelSwing$Stand" "ix" "D", .fieldLink RX5 84 "WheelSwing$Stand" "iy" "D"] ++ wsX50 ++ wsX20)
def wsX5_springLength : List Cond := .code yX5_springLength cX5_springLength 6 (some .double) :: ([.fieldLink RX5 33 "WheelSwing$Stand" "px" "D", .constantDouble RX5 90 (4652007308841189376), .fieldLink RX5 37 "WheelSwing$Stand" "py" "D", .static yX1_squareRoot, .initialized RX1, .code yX1_squareRoot cX1_squareRoot 7 (some .double), .constantDouble RX1 9 (4616189618054758400), .constantDouble RX1 11 (4611686018427387904), .methodLink RX1 13 yX1_rootOfPart, .static yX1_rootOfPart, .code yX1_rootOfPart cX1_rootOfPart 6 (some .double), .constantDouble RX1 17 (4613937818241073152), .constantDouble RX1 19 (4841369599423283200), .methodLink RX1 21 yX1_roundedRoot, .static yX1_roundedRoot, .code yX1_roundedRoot cX1_roundedRoot 9 (some .long), .constantLong RX1 25 (2)] ++ wsX20 ++ wsX50)
def wsX5_squareFrom : List Cond := .code yX5_squareFrom cX5_squareFrom 10 (some .double) :: ([.fieldLink RX5 33 "WheelSwing$Stand" "px" "D", .fieldLink RX5 63 "WheelSwing$Stand" "qx" "D", .fieldLink RX5 37 "WheelSwing$Stand" "py" "D", .fieldLink RX5 66 "WheelSwing$Stand" "qy" "D"] ++ wsX50 ++ wsX20)
def wsX6_init_r1 : List Cond := [Cond.methodLink RX6 1 objectInit, Cond.instanceMethod objectInit, Cond.code objectInit ⟨#[0xb1]⟩ 1 none, Cond.classLink RX6 9 RX2, Cond.fieldLink RX6 11 "WheelSwing" "hangings" "[LWheelSwing$Hanging;", Cond.classLink RX6 15 RX5, Cond.instantiable RX5 14, Cond.initialized RX5, Cond.fieldLink RX6 18 "WheelSwing" "stand" "LWheelSwing$Stand;", Cond.classLink RX6 22 RX0, Cond.instantiable RX0 5, Cond.initialized RX0, Cond.fieldLink RX6 25 "WheelSwing" "car" "LWheelSwing$Car;", Cond.classLink RX6 29 RX4, Cond.instantiable RX4 2, Cond.initialized RX4, Cond.fieldLink RX6 32 "WheelSwing" "shims" "LWheelSwing$ShimBox;", Cond.classLink RX6 36 RX3, Cond.instantiable RX3 3, Cond.initialized RX3, Cond.fieldLink RX6 39 "WheelSwing" "readings" "LWheelSwing$Readings;", Cond.instantiable RX2 13, Cond.initialized RX2, Cond.instanceMethod yX5_init]
def wsX6_init_r2 : List Cond := [Cond.code yX5_init cX5_init 1 none, Cond.methodLink RX5 1 objectInit, Cond.instanceMethod yX0_init, Cond.code yX0_init cX0_init 1 none, Cond.methodLink RX0 1 objectInit, Cond.instanceMethod yX4_init, Cond.code yX4_init cX4_init 1 none, Cond.methodLink RX4 3 objectInit, Cond.arrayClass .int, Cond.fieldLink RX4 11 "WheelSwing$ShimBox" "thick" "[I", Cond.fieldLink RX4 15 "WheelSwing$ShimBox" "size" "I", Cond.instanceMethod yX3_init, Cond.code yX3_init cX3_init 1 none, Cond.methodLink RX3 3 objectInit, Cond.fieldLink RX3 11 "WheelSwing$Readings" "heights" "[I", Cond.fieldLink RX3 15 "WheelSwing$Readings" "leans" "[I", Cond.fieldLink RX3 18 "WheelSwing$Readings" "size" "I", Cond.instanceMethod yX2_init, Cond.code yX2_init cX2_init 1 none, Cond.methodLink RX2 1 objectInit, Cond.fieldLink RX2 7 "WheelSwing$Hanging" "ux" "I", Cond.fieldLink RX2 13 "WheelSwing$Hanging" "uy" "I", Cond.fieldLink RX2 16 "WheelSwing$Hanging" "a" "I", Cond.fieldLink RX2 19 "WheelSwing$Hanging" "lx" "I"]
def wsX6_init_r3 : List Cond := [Cond.fieldLink RX2 22 "WheelSwing$Hanging" "ly" "I", Cond.fieldLink RX2 25 "WheelSwing$Hanging" "b" "I", Cond.fieldLink RX2 28 "WheelSwing$Hanging" "c" "I", Cond.fieldLink RX2 31 "WheelSwing$Hanging" "side" "I", Cond.fieldLink RX2 34 "WheelSwing$Hanging" "g" "I", Cond.fieldLink RX2 37 "WheelSwing$Hanging" "d" "I", Cond.fieldLink RX2 40 "WheelSwing$Hanging" "sx" "I", Cond.fieldLink RX2 43 "WheelSwing$Hanging" "sy" "I", Cond.fieldLink RX2 46 "WheelSwing$Hanging" "f" "I"]
def wsX6_init : List Cond := .code yX6_init cX6_init 2 none :: ((wsX6_init_r1 ++ (wsX6_init_r2 ++ wsX6_init_r3)) ++ wsX60 ++ wsX50 ++ wsX00 ++ wsX40 ++ wsX30 ++ wsX20)
def wsX6_isWithin : List Cond := .code yX6_isWithin cX6_isWithin 3 (some .boolean) :: ([])
def wsX6_isHanging : List Cond := .code yX6_isHanging cX6_isHanging 1 (some .boolean) :: ([.methodLink RX6 69 yX6_isWithin, .static yX6_isWithin, .initialized RX6, .code yX6_isWithin cX6_isWithin 3 (some .boolean)])
def wsX6_isCoordinate : List Cond := .code yX6_isCoordinate cX6_isCoordinate 1 (some .boolean) :: ([.methodLink RX6 69 yX6_isWithin, .static yX6_isWithin, .initialized RX6, .code yX6_isWithin cX6_isWithin 3 (some .boolean)])
def wsX6_isPoint : List Cond := .code yX6_isPoint cX6_isPoint 2 (some .boolean) :: ([.methodLink RX6 80 yX6_isCoordinate, .static yX6_isCoordinate, .initialized RX6, .code yX6_isCoordinate cX6_isCoordinate 1 (some .boolean), .methodLink RX6 69 yX6_isWithin, .static yX6_isWithin, .code yX6_isWithin cX6_isWithin 3 (some .boolean)])
def wsX6_isArm : List Cond := .code yX6_isArm cX6_isArm 1 (some .boolean) :: ([.methodLink RX6 69 yX6_isWithin, .static yX6_isWithin, .initialized RX6, .code yX6_isWithin cX6_isWithin 3 (some .boolean)])
def wsX6_hang_r1 : List Cond := [Cond.fieldLink RX6 11 "WheelSwing" "hangings" "[LWheelSwing$Hanging;", Cond.methodLink RX6 44 yX6_isHanging, Cond.static yX6_isHanging, Cond.initialized RX6, Cond.code yX6_isHanging cX6_isHanging 1 (some .boolean), Cond.methodLink RX6 69 yX6_isWithin, Cond.static yX6_isWithin, Cond.code yX6_isWithin cX6_isWithin 3 (some .boolean), Cond.methodLink RX6 48 yX6_isPoint, Cond.static yX6_isPoint, Cond.code yX6_isPoint cX6_isPoint 2 (some .boolean), Cond.methodLink RX6 80 yX6_isCoordinate, Cond.static yX6_isCoordinate, Cond.code yX6_isCoordinate cX6_isCoordinate 1 (some .boolean), Cond.methodLink RX6 52 yX6_isArm, Cond.static yX6_isArm, Cond.code yX6_isArm cX6_isArm 1 (some .boolean), Cond.instanceMethod yX2_setUpperArm, Cond.initialized RX2, Cond.selects RX2 yX2_setUpperArm yX2_setUpperArm, Cond.code yX2_setUpperArm cX2_setUpperArm 4 none, Cond.fieldLink RX2 7 "WheelSwing$Hanging" "ux" "I", Cond.fieldLink RX2 13 "WheelSwing$Hanging" "uy" "I", Cond.fieldLink RX2 16 "WheelSwing$Hanging" "a" "I"]
def wsX6_hang_r2 : List Cond := [Cond.instanceMethod yX2_setLowerArm, Cond.selects RX2 yX2_setLowerArm yX2_setLowerArm, Cond.code yX2_setLowerArm cX2_setLowerArm 4 none, Cond.fieldLink RX2 19 "WheelSwing$Hanging" "lx" "I", Cond.fieldLink RX2 22 "WheelSwing$Hanging" "ly" "I", Cond.fieldLink RX2 25 "WheelSwing$Hanging" "b" "I", Cond.instanceMethod yX2_setUpright, Cond.selects RX2 yX2_setUpright yX2_setUpright, Cond.code yX2_setUpright cX2_setUpright 3 none, Cond.fieldLink RX2 28 "WheelSwing$Hanging" "c" "I", Cond.fieldLink RX2 31 "WheelSwing$Hanging" "side" "I"]
def wsX6_hang : List Cond := .code yX6_hang cX6_hang 10 (some .int) :: ((wsX6_hang_r1 ++ wsX6_hang_r2) ++ wsX60 ++ wsX20)
def wsX6_wheel : List Cond := .code yX6_wheel cX6_wheel 4 (some .int) :: ([.fieldLink RX6 11 "WheelSwing" "hangings" "[LWheelSwing$Hanging;", .methodLink RX6 44 yX6_isHanging, .static yX6_isHanging, .initialized RX6, .code yX6_isHanging cX6_isHanging 1 (some .boolean), .methodLink RX6 69 yX6_isWithin, .static yX6_isWithin, .code yX6_isWithin cX6_isWithin 3 (some .boolean), .methodLink RX6 48 yX6_isPoint, .static yX6_isPoint, .code yX6_isPoint cX6_isPoint 2 (some .boolean), .methodLink RX6 80 yX6_isCoordinate, .static yX6_isCoordinate, .code yX6_isCoordinate cX6_isCoordinate 1 (some .boolean), .instanceMethod yX2_setRoadPoint, .initialized RX2, .selects RX2 yX2_setRoadPoint yX2_setRoadPoint, .code yX2_setRoadPoint cX2_setRoadPoint 3 none, .fieldLink RX2 34 "WheelSwing$Hanging" "g" "I", .fieldLink RX2 37 "WheelSwing$Hanging" "d" "I"] ++ wsX60 ++ wsX20)
def wsX6_spring : List Cond := .code yX6_spring cX6_spring 5 (some .int) :: ([.fieldLink RX6 11 "WheelSwing" "hangings" "[LWheelSwing$Hanging;", .methodLink RX6 44 yX6_isHanging, .static yX6_isHanging, .initialized RX6, .code yX6_isHanging cX6_isHanging 1 (some .boolean), .methodLink RX6 69 yX6_isWithin, .static yX6_isWithin, .code yX6_isWithin cX6_isWithin 3 (some .boolean), .methodLink RX6 48 yX6_isPoint, .static yX6_isPoint, .code yX6_isPoint cX6_isPoint 2 (some .boolean), .methodLink RX6 80 yX6_isCoordinate, .static yX6_isCoordinate, .code yX6_isCoordinate cX6_isCoordinate 1 (some .boolean), .instanceMethod yX2_setSpring, .initialized RX2, .selects RX2 yX2_setSpring yX2_setSpring, .code yX2_setSpring cX2_setSpring 4 none, .fieldLink RX2 40 "WheelSwing$Hanging" "sx" "I", .fieldLink RX2 43 "WheelSwing$Hanging" "sy" "I", .fieldLink RX2 46 "WheelSwing$Hanging" "f" "I"] ++ wsX60 ++ wsX20)
def wsX6_mirror_r1 : List Cond := [Cond.fieldLink RX6 11 "WheelSwing" "hangings" "[LWheelSwing$Hanging;", Cond.methodLink RX6 44 yX6_isHanging, Cond.static yX6_isHanging, Cond.initialized RX6, Cond.code yX6_isHanging cX6_isHanging 1 (some .boolean), Cond.methodLink RX6 69 yX6_isWithin, Cond.static yX6_isWithin, Cond.code yX6_isWithin cX6_isWithin 3 (some .boolean), Cond.instanceMethod yX2_becomeMirrorOf, Cond.initialized RX2, Cond.selects RX2 yX2_becomeMirrorOf yX2_becomeMirrorOf, Cond.code yX2_becomeMirrorOf cX2_becomeMirrorOf 2 none, Cond.fieldLink RX2 7 "WheelSwing$Hanging" "ux" "I", Cond.fieldLink RX2 13 "WheelSwing$Hanging" "uy" "I", Cond.fieldLink RX2 16 "WheelSwing$Hanging" "a" "I", Cond.fieldLink RX2 19 "WheelSwing$Hanging" "lx" "I", Cond.fieldLink RX2 22 "WheelSwing$Hanging" "ly" "I", Cond.fieldLink RX2 25 "WheelSwing$Hanging" "b" "I", Cond.fieldLink RX2 28 "WheelSwing$Hanging" "c" "I", Cond.fieldLink RX2 31 "WheelSwing$Hanging" "side" "I", Cond.fieldLink RX2 34 "WheelSwing$Hanging" "g" "I", Cond.fieldLink RX2 37 "WheelSwing$Hanging" "d" "I", Cond.fieldLink RX2 40 "WheelSwing$Hanging" "sx" "I", Cond.fieldLink RX2 43 "WheelSwing$Hanging" "sy" "I"]
def wsX6_mirror_r2 : List Cond := [Cond.fieldLink RX2 46 "WheelSwing$Hanging" "f" "I", Cond.methodLink RX2 49 yX2_setUpperArm, Cond.instanceMethod yX2_setUpperArm, Cond.selects RX2 yX2_setUpperArm yX2_setUpperArm, Cond.code yX2_setUpperArm cX2_setUpperArm 4 none, Cond.methodLink RX2 53 yX2_setLowerArm, Cond.instanceMethod yX2_setLowerArm, Cond.selects RX2 yX2_setLowerArm yX2_setLowerArm, Cond.code yX2_setLowerArm cX2_setLowerArm 4 none, Cond.methodLink RX2 56 yX2_setUpright, Cond.instanceMethod yX2_setUpright, Cond.selects RX2 yX2_setUpright yX2_setUpright, Cond.code yX2_setUpright cX2_setUpright 3 none, Cond.methodLink RX2 60 yX2_setRoadPoint, Cond.instanceMethod yX2_setRoadPoint, Cond.selects RX2 yX2_setRoadPoint yX2_setRoadPoint, Cond.code yX2_setRoadPoint cX2_setRoadPoint 3 none, Cond.methodLink RX2 63 yX2_setSpring, Cond.instanceMethod yX2_setSpring, Cond.selects RX2 yX2_setSpring yX2_setSpring, Cond.code yX2_setSpring cX2_setSpring 4 none]
def wsX6_mirror : List Cond := .code yX6_mirror cX6_mirror 3 (some .int) :: ((wsX6_mirror_r1 ++ wsX6_mirror_r2) ++ wsX60 ++ wsX20)
def wsX6_springShare_r1 : List Cond := [Cond.fieldLink RX6 18 "WheelSwing" "stand" "LWheelSwing$Stand;", Cond.constantLong RX6 100 (-1), Cond.constantDouble RX6 208 (4611686018427387904), Cond.instanceMethod yX5_reach, Cond.initialized RX5, Cond.selects RX5 yX5_reach yX5_reach, Cond.code yX5_reach cX5_reach 8 (some .boolean), Cond.fieldLink RX5 16 "WheelSwing$Stand" "ux" "I", Cond.fieldLink RX5 21 "WheelSwing$Stand" "uy" "I", Cond.fieldLink RX5 33 "WheelSwing$Stand" "px" "D", Cond.fieldLink RX5 37 "WheelSwing$Stand" "py" "D", Cond.fieldLink RX5 40 "WheelSwing$Stand" "dx" "D", Cond.fieldLink RX5 43 "WheelSwing$Stand" "dy" "D", Cond.constantDouble RX5 52 (4611686018427387904), Cond.fieldLink RX5 54 "WheelSwing$Stand" "m" "D", Cond.fieldLink RX5 57 "WheelSwing$Stand" "k" "D", Cond.static yX1_squareRoot, Cond.initialized RX1, Cond.code yX1_squareRoot cX1_squareRoot 7 (some .double), Cond.constantDouble RX1 9 (4616189618054758400), Cond.constantDouble RX1 11 (4611686018427387904), Cond.methodLink RX1 13 yX1_rootOfPart, Cond.static yX1_rootOfPart, Cond.code yX1_rootOfPart cX1_rootOfPart 6 (some .double)]
def wsX6_springShare_r2 : List Cond := [Cond.constantDouble RX1 17 (4613937818241073152), Cond.constantDouble RX1 19 (4841369599423283200), Cond.methodLink RX1 21 yX1_roundedRoot, Cond.static yX1_roundedRoot, Cond.code yX1_roundedRoot cX1_roundedRoot 9 (some .long), Cond.constantLong RX1 25 (2), Cond.instanceMethod yX5_springLength, Cond.selects RX5 yX5_springLength yX5_springLength, Cond.code yX5_springLength cX5_springLength 6 (some .double), Cond.constantDouble RX5 90 (4652007308841189376), Cond.static yX1_bits, Cond.code yX1_bits cX1_bits 8 (some .long), Cond.constantLong RX1 27 (-9223372036854775808), Cond.constantLong RX1 29 (1023), Cond.constantLong RX1 31 (4503599627370496)]
def wsX6_springShare : List Cond := .code yX6_springShare cX6_springShare 5 (some .long) :: ((wsX6_springShare_r1 ++ wsX6_springShare_r2) ++ wsX60 ++ wsX20 ++ wsX50)
def wsX6_tellWheel : List Cond := .code yX6_tellWheel cX6_tellWheel 3 (some .long) :: ([.fieldLink RX6 18 "WheelSwing" "stand" "LWheelSwing$Stand;", .constantLong RX6 100 (-1), .static yX1_bits, .initialized RX1, .code yX1_bits cX1_bits 8 (some .long), .constantLong RX1 27 (-9223372036854775808), .constantLong RX1 29 (1023), .constantDouble RX1 11 (4611686018427387904), .constantDouble RX1 19 (4841369599423283200), .constantLong RX1 31 (4503599627370496), .instanceMethod yX5_roadX, .initialized RX5, .selects RX5 yX5_roadX yX5_roadX, .code yX5_roadX cX5_roadX 2 (some .double), .fieldLink RX5 33 "WheelSwing$Stand" "px" "D", .fieldLink RX5 69 "WheelSwing$Stand" "vx" "D", .fieldLink RX5 72 "WheelSwing$Stand" "vy" "D", .instanceMethod yX5_roadY, .selects RX5 yX5_roadY yX5_roadY, .code yX5_roadY cX5_roadY 2 (some .double), .fieldLink RX5 37 "WheelSwing$Stand" "py" "D"] ++ wsX60 ++ wsX50 ++ wsX20)
def wsX6_tellTravel_r1 : List Cond := [Cond.fieldLink RX6 18 "WheelSwing" "stand" "LWheelSwing$Stand;", Cond.constantLong RX6 100 (-1), Cond.instanceMethod yX5_springLength, Cond.initialized RX5, Cond.selects RX5 yX5_springLength yX5_springLength, Cond.code yX5_springLength cX5_springLength 6 (some .double), Cond.fieldLink RX5 33 "WheelSwing$Stand" "px" "D", Cond.constantDouble RX5 90 (4652007308841189376), Cond.fieldLink RX5 37 "WheelSwing$Stand" "py" "D", Cond.static yX1_squareRoot, Cond.initialized RX1, Cond.code yX1_squareRoot cX1_squareRoot 7 (some .double), Cond.constantDouble RX1 9 (4616189618054758400), Cond.constantDouble RX1 11 (4611686018427387904), Cond.methodLink RX1 13 yX1_rootOfPart, Cond.static yX1_rootOfPart, Cond.code yX1_rootOfPart cX1_rootOfPart 6 (some .double), Cond.constantDouble RX1 17 (4613937818241073152), Cond.constantDouble RX1 19 (4841369599423283200), Cond.methodLink RX1 21 yX1_roundedRoot, Cond.static yX1_roundedRoot, Cond.code yX1_roundedRoot cX1_roundedRoot 9 (some .long), Cond.constantLong RX1 25 (2), Cond.static yX1_bits]
def wsX6_tellTravel_r2 : List Cond := [Cond.code yX1_bits cX1_bits 8 (some .long), Cond.constantLong RX1 27 (-9223372036854775808), Cond.constantLong RX1 29 (1023), Cond.constantLong RX1 31 (4503599627370496), Cond.instanceMethod yX5_findCentre, Cond.selects RX5 yX5_findCentre yX5_findCentre, Cond.code yX5_findCentre cX5_findCentre 6 (some .boolean), Cond.fieldLink RX5 63 "WheelSwing$Stand" "qx" "D", Cond.fieldLink RX5 16 "WheelSwing$Stand" "ux" "I", Cond.fieldLink RX5 66 "WheelSwing$Stand" "qy" "D", Cond.fieldLink RX5 21 "WheelSwing$Stand" "uy" "I", Cond.fieldLink RX5 81 "WheelSwing$Stand" "ix" "D", Cond.fieldLink RX5 84 "WheelSwing$Stand" "iy" "D", Cond.instanceMethod yX5_roadX, Cond.selects RX5 yX5_roadX yX5_roadX, Cond.code yX5_roadX cX5_roadX 2 (some .double), Cond.fieldLink RX5 69 "WheelSwing$Stand" "vx" "D", Cond.fieldLink RX5 72 "WheelSwing$Stand" "vy" "D", Cond.instanceMethod yX5_roadY, Cond.selects RX5 yX5_roadY yX5_roadY, Cond.code yX5_roadY cX5_roadY 2 (some .double)]
def wsX6_tellTravel : List Cond := .code yX6_tellTravel cX6_tellTravel 7 (some .long) :: ((wsX6_tellTravel_r1 ++ wsX6_tellTravel_r2) ++ wsX60 ++ wsX50 ++ wsX20)
def wsX6_pose_r1 : List Cond := [Cond.constantLong RX6 83 (-2), Cond.fieldLink RX6 11 "WheelSwing" "hangings" "[LWheelSwing$Hanging;", Cond.fieldLink RX6 18 "WheelSwing" "stand" "LWheelSwing$Stand;", Cond.constantLong RX6 100 (-1), Cond.methodLink RX6 44 yX6_isHanging, Cond.static yX6_isHanging, Cond.initialized RX6, Cond.code yX6_isHanging cX6_isHanging 1 (some .boolean), Cond.methodLink RX6 69 yX6_isWithin, Cond.static yX6_isWithin, Cond.code yX6_isWithin cX6_isWithin 3 (some .boolean), Cond.methodLink RX6 80 yX6_isCoordinate, Cond.static yX6_isCoordinate, Cond.code yX6_isCoordinate cX6_isCoordinate 1 (some .boolean), Cond.methodLink RX6 85 yX6_springShare, Cond.instanceMethod yX6_springShare, Cond.selects RX6 yX6_springShare yX6_springShare, Cond.code yX6_springShare cX6_springShare 5 (some .long), Cond.constantDouble RX6 208 (4611686018427387904), Cond.instanceMethod yX5_reach, Cond.initialized RX5, Cond.selects RX5 yX5_reach yX5_reach, Cond.code yX5_reach cX5_reach 8 (some .boolean), Cond.fieldLink RX5 16 "WheelSwing$Stand" "ux" "I"]
def wsX6_pose_r2 : List Cond := [Cond.fieldLink RX5 21 "WheelSwing$Stand" "uy" "I", Cond.fieldLink RX5 33 "WheelSwing$Stand" "px" "D", Cond.fieldLink RX5 37 "WheelSwing$Stand" "py" "D", Cond.fieldLink RX5 40 "WheelSwing$Stand" "dx" "D", Cond.fieldLink RX5 43 "WheelSwing$Stand" "dy" "D", Cond.constantDouble RX5 52 (4611686018427387904), Cond.fieldLink RX5 54 "WheelSwing$Stand" "m" "D", Cond.fieldLink RX5 57 "WheelSwing$Stand" "k" "D", Cond.static yX1_squareRoot, Cond.initialized RX1, Cond.code yX1_squareRoot cX1_squareRoot 7 (some .double), Cond.constantDouble RX1 9 (4616189618054758400), Cond.constantDouble RX1 11 (4611686018427387904), Cond.methodLink RX1 13 yX1_rootOfPart, Cond.static yX1_rootOfPart, Cond.code yX1_rootOfPart cX1_rootOfPart 6 (some .double), Cond.constantDouble RX1 17 (4613937818241073152), Cond.constantDouble RX1 19 (4841369599423283200), Cond.methodLink RX1 21 yX1_roundedRoot, Cond.static yX1_roundedRoot, Cond.code yX1_roundedRoot cX1_roundedRoot 9 (some .long), Cond.constantLong RX1 25 (2), Cond.instanceMethod yX5_springLength, Cond.selects RX5 yX5_springLength yX5_springLength]
def wsX6_pose_r3 : List Cond := [Cond.code yX5_springLength cX5_springLength 6 (some .double), Cond.constantDouble RX5 90 (4652007308841189376), Cond.static yX1_bits, Cond.code yX1_bits cX1_bits 8 (some .long), Cond.constantLong RX1 27 (-9223372036854775808), Cond.constantLong RX1 29 (1023), Cond.constantLong RX1 31 (4503599627370496), Cond.instanceMethod yX5_placeUpright, Cond.selects RX5 yX5_placeUpright yX5_placeUpright, Cond.code yX5_placeUpright cX5_placeUpright 4 none, Cond.fieldLink RX5 63 "WheelSwing$Stand" "qx" "D", Cond.fieldLink RX5 66 "WheelSwing$Stand" "qy" "D", Cond.fieldLink RX5 69 "WheelSwing$Stand" "vx" "D", Cond.fieldLink RX5 72 "WheelSwing$Stand" "vy" "D", Cond.methodLink RX6 105 yX6_tellWheel, Cond.instanceMethod yX6_tellWheel, Cond.selects RX6 yX6_tellWheel yX6_tellWheel, Cond.code yX6_tellWheel cX6_tellWheel 3 (some .long), Cond.instanceMethod yX5_roadX, Cond.selects RX5 yX5_roadX yX5_roadX, Cond.code yX5_roadX cX5_roadX 2 (some .double), Cond.instanceMethod yX5_roadY, Cond.selects RX5 yX5_roadY yX5_roadY, Cond.code yX5_roadY cX5_roadY 2 (some .double)]
def wsX6_pose_r4 : List Cond := [Cond.methodLink RX6 108 yX6_tellTravel, Cond.instanceMethod yX6_tellTravel, Cond.selects RX6 yX6_tellTravel yX6_tellTravel, Cond.code yX6_tellTravel cX6_tellTravel 7 (some .long), Cond.instanceMethod yX5_findCentre, Cond.selects RX5 yX5_findCentre yX5_findCentre, Cond.code yX5_findCentre cX5_findCentre 6 (some .boolean), Cond.fieldLink RX5 81 "WheelSwing$Stand" "ix" "D", Cond.fieldLink RX5 84 "WheelSwing$Stand" "iy" "D"]
def wsX6_pose : List Cond := .code yX6_pose cX6_pose 5 (some .long) :: ((wsX6_pose_r1 ++ (wsX6_pose_r2 ++ (wsX6_pose_r3 ++ wsX6_pose_r4))) ++ wsX60 ++ wsX20 ++ wsX50)
def wsX6_isSpan : List Cond := .code yX6_isSpan cX6_isSpan 2 (some .boolean) :: ([.methodLink RX6 80 yX6_isCoordinate, .static yX6_isCoordinate, .initialized RX6, .code yX6_isCoordinate cX6_isCoordinate 1 (some .boolean), .methodLink RX6 69 yX6_isWithin, .static yX6_isWithin, .code yX6_isWithin cX6_isWithin 3 (some .boolean)])
def wsX6_lock_r1 : List Cond := [Cond.fieldLink RX6 11 "WheelSwing" "hangings" "[LWheelSwing$Hanging;", Cond.fieldLink RX6 18 "WheelSwing" "stand" "LWheelSwing$Stand;", Cond.methodLink RX6 44 yX6_isHanging, Cond.static yX6_isHanging, Cond.initialized RX6, Cond.code yX6_isHanging cX6_isHanging 1 (some .boolean), Cond.methodLink RX6 69 yX6_isWithin, Cond.static yX6_isWithin, Cond.code yX6_isWithin cX6_isWithin 3 (some .boolean), Cond.methodLink RX6 111 yX6_isSpan, Cond.static yX6_isSpan, Cond.code yX6_isSpan cX6_isSpan 2 (some .boolean), Cond.methodLink RX6 80 yX6_isCoordinate, Cond.static yX6_isCoordinate, Cond.code yX6_isCoordinate cX6_isCoordinate 1 (some .boolean), Cond.instanceMethod yX5_reach, Cond.initialized RX5, Cond.selects RX5 yX5_reach yX5_reach, Cond.code yX5_reach cX5_reach 8 (some .boolean), Cond.fieldLink RX5 16 "WheelSwing$Stand" "ux" "I", Cond.fieldLink RX5 21 "WheelSwing$Stand" "uy" "I", Cond.fieldLink RX5 33 "WheelSwing$Stand" "px" "D", Cond.fieldLink RX5 37 "WheelSwing$Stand" "py" "D", Cond.fieldLink RX5 40 "WheelSwing$Stand" "dx" "D"]
def wsX6_lock_r2 : List Cond := [Cond.fieldLink RX5 43 "WheelSwing$Stand" "dy" "D", Cond.constantDouble RX5 52 (4611686018427387904), Cond.fieldLink RX5 54 "WheelSwing$Stand" "m" "D", Cond.fieldLink RX5 57 "WheelSwing$Stand" "k" "D", Cond.static yX1_squareRoot, Cond.initialized RX1, Cond.code yX1_squareRoot cX1_squareRoot 7 (some .double), Cond.constantDouble RX1 9 (4616189618054758400), Cond.constantDouble RX1 11 (4611686018427387904), Cond.methodLink RX1 13 yX1_rootOfPart, Cond.static yX1_rootOfPart, Cond.code yX1_rootOfPart cX1_rootOfPart 6 (some .double), Cond.constantDouble RX1 17 (4613937818241073152), Cond.constantDouble RX1 19 (4841369599423283200), Cond.methodLink RX1 21 yX1_roundedRoot, Cond.static yX1_roundedRoot, Cond.code yX1_roundedRoot cX1_roundedRoot 9 (some .long), Cond.constantLong RX1 25 (2)]
def wsX6_lock : List Cond := .code yX6_lock cX6_lock 6 (some .int) :: ((wsX6_lock_r1 ++ wsX6_lock_r2) ++ wsX60 ++ wsX20 ++ wsX50)
def wsX6_weight : List Cond := .code yX6_weight cX6_weight 4 (some .int) :: ([.constant RX6 114 (100000), .fieldLink RX6 25 "WheelSwing" "car" "LWheelSwing$Car;", .methodLink RX6 69 yX6_isWithin, .static yX6_isWithin, .initialized RX6, .code yX6_isWithin cX6_isWithin 3 (some .boolean), .instanceMethod yX0_load, .initialized RX0, .selects RX0 yX0_load yX0_load, .code yX0_load cX0_load 4 none, .fieldLink RX0 7 "WheelSwing$Car" "total" "I", .fieldLink RX0 13 "WheelSwing$Car" "place" "I", .fieldLink RX0 16 "WheelSwing$Car" "right" "I"] ++ wsX60 ++ wsX00)
def wsX6_push : List Cond := .code yX6_push cX6_push 3 (some .int) :: ([.constant RX6 118 (-100000), .constant RX6 114 (100000), .fieldLink RX6 25 "WheelSwing" "car" "LWheelSwing$Car;", .methodLink RX6 69 yX6_isWithin, .static yX6_isWithin, .initialized RX6, .code yX6_isWithin cX6_isWithin 3 (some .boolean), .instanceMethod yX0_lean, .initialized RX0, .selects RX0 yX0_lean yX0_lean, .code yX0_lean cX0_lean 3 none, .fieldLink RX0 19 "WheelSwing$Car" "toRight" "I", .fieldLink RX0 22 "WheelSwing$Car" "frontShare" "I"] ++ wsX60 ++ wsX00)
def wsX6_carries : List Cond := .code yX6_carries cX6_carries 2 (some .int) :: ([.fieldLink RX6 25 "WheelSwing" "car" "LWheelSwing$Car;", .constant RX6 126 (-2000000), .methodLink RX6 69 yX6_isWithin, .static yX6_isWithin, .initialized RX6, .code yX6_isWithin cX6_isWithin 3 (some .boolean), .instanceMethod yX0_loadOf, .initialized RX0, .selects RX0 yX0_loadOf yX0_loadOf, .code yX0_loadOf cX0_loadOf 9 (some .int), .fieldLink RX0 7 "WheelSwing$Car" "total" "I", .fieldLink RX0 13 "WheelSwing$Car" "place" "I", .fieldLink RX0 19 "WheelSwing$Car" "toRight" "I", .fieldLink RX0 22 "WheelSwing$Car" "frontShare" "I", .fieldLink RX0 16 "WheelSwing$Car" "right" "I"] ++ wsX60 ++ wsX00)
def wsX6_shim : List Cond := .code yX6_shim cX6_shim 2 (some .int) :: ([.fieldLink RX6 32 "WheelSwing" "shims" "LWheelSwing$ShimBox;", .methodLink RX6 69 yX6_isWithin, .static yX6_isWithin, .initialized RX6, .code yX6_isWithin cX6_isWithin 3 (some .boolean), .instanceMethod yX4_add, .initialized RX4, .selects RX4 yX4_add yX4_add, .code yX4_add cX4_add 2 (some .int), .fieldLink RX4 15 "WheelSwing$ShimBox" "size" "I", .fieldLink RX4 11 "WheelSwing$ShimBox" "thick" "[I"] ++ wsX60 ++ wsX40)
def wsX6_best_r1 : List Cond := [Cond.fieldLink RX6 32 "WheelSwing" "shims" "LWheelSwing$ShimBox;", Cond.methodLink RX6 69 yX6_isWithin, Cond.static yX6_isWithin, Cond.initialized RX6, Cond.code yX6_isWithin cX6_isWithin 3 (some .boolean), Cond.instanceMethod yX4_nearestSet, Cond.initialized RX4, Cond.selects RX4 yX4_nearestSet yX4_nearestSet, Cond.code yX4_nearestSet cX4_nearestSet 9 (some .int), Cond.fieldLink RX4 15 "WheelSwing$ShimBox" "size" "I", Cond.methodLink RX4 28 Lib.Math.abs.name, Cond.static Lib.Math.abs.name, Cond.initialized "java/lang/Math", Cond.code Lib.Math.abs.name Lib.Math.abs.code 1 (some .int), Cond.methodLink RX4 19 yJ6_bitCount_0f7a4, Cond.static yJ6_bitCount_0f7a4, Cond.initialized RJ6, Cond.code yJ6_bitCount_0f7a4 cJ6_bitCount_0f7a4 1 (some .int), Cond.constant RJ6 265 (1431655765), Cond.constant RJ6 266 (858993459), Cond.constant RJ6 267 (252645135), Cond.methodLink RX4 25 yX4_sumOf, Cond.instanceMethod yX4_sumOf, Cond.selects RX4 yX4_sumOf yX4_sumOf]
def wsX6_best_r2 : List Cond := [Cond.code yX4_sumOf cX4_sumOf 4 (some .int), Cond.fieldLink RX4 11 "WheelSwing$ShimBox" "thick" "[I"]
def wsX6_best : List Cond := .code yX6_best cX6_best 3 (some .int) :: ((wsX6_best_r1 ++ wsX6_best_r2) ++ wsX60 ++ wsX40)
def wsX6_reading : List Cond := .code yX6_reading cX6_reading 3 (some .int) :: ([.fieldLink RX6 39 "WheelSwing" "readings" "LWheelSwing$Readings;", .methodLink RX6 80 yX6_isCoordinate, .static yX6_isCoordinate, .initialized RX6, .code yX6_isCoordinate cX6_isCoordinate 1 (some .boolean), .methodLink RX6 69 yX6_isWithin, .static yX6_isWithin, .code yX6_isWithin cX6_isWithin 3 (some .boolean), .instanceMethod yX3_add, .initialized RX3, .selects RX3 yX3_add yX3_add, .code yX3_add cX3_add 3 (some .int), .fieldLink RX3 18 "WheelSwing$Readings" "size" "I", .fieldLink RX3 11 "WheelSwing$Readings" "heights" "[I", .fieldLink RX3 15 "WheelSwing$Readings" "leans" "[I"] ++ wsX60 ++ wsX30)
def wsX6_clear : List Cond := .code yX6_clear cX6_clear 2 (some .int) :: ([.fieldLink RX6 39 "WheelSwing" "readings" "LWheelSwing$Readings;"] ++ wsX60 ++ wsX30)
def wsX6_howFarOff_r1 : List Cond := [Cond.constantDouble RX6 149 (13830554455654793216), Cond.fieldLink RX6 39 "WheelSwing" "readings" "LWheelSwing$Readings;", Cond.fieldLink RX6 18 "WheelSwing" "stand" "LWheelSwing$Stand;", Cond.constantDouble RX6 214 (4652007308841189376), Cond.methodLink RX6 48 yX6_isPoint, Cond.static yX6_isPoint, Cond.initialized RX6, Cond.code yX6_isPoint cX6_isPoint 2 (some .boolean), Cond.methodLink RX6 80 yX6_isCoordinate, Cond.static yX6_isCoordinate, Cond.code yX6_isCoordinate cX6_isCoordinate 1 (some .boolean), Cond.methodLink RX6 69 yX6_isWithin, Cond.static yX6_isWithin, Cond.code yX6_isWithin cX6_isWithin 3 (some .boolean), Cond.instanceMethod yX5_reach, Cond.initialized RX5, Cond.selects RX5 yX5_reach yX5_reach, Cond.code yX5_reach cX5_reach 8 (some .boolean), Cond.fieldLink RX5 16 "WheelSwing$Stand" "ux" "I", Cond.fieldLink RX5 21 "WheelSwing$Stand" "uy" "I", Cond.fieldLink RX5 33 "WheelSwing$Stand" "px" "D", Cond.fieldLink RX5 37 "WheelSwing$Stand" "py" "D", Cond.fieldLink RX5 40 "WheelSwing$Stand" "dx" "D", Cond.fieldLink RX5 43 "WheelSwing$Stand" "dy" "D"]
def wsX6_howFarOff_r2 : List Cond := [Cond.constantDouble RX5 52 (4611686018427387904), Cond.fieldLink RX5 54 "WheelSwing$Stand" "m" "D", Cond.fieldLink RX5 57 "WheelSwing$Stand" "k" "D", Cond.static yX1_squareRoot, Cond.initialized RX1, Cond.code yX1_squareRoot cX1_squareRoot 7 (some .double), Cond.constantDouble RX1 9 (4616189618054758400), Cond.constantDouble RX1 11 (4611686018427387904), Cond.methodLink RX1 13 yX1_rootOfPart, Cond.static yX1_rootOfPart, Cond.code yX1_rootOfPart cX1_rootOfPart 6 (some .double), Cond.constantDouble RX1 17 (4613937818241073152), Cond.constantDouble RX1 19 (4841369599423283200), Cond.methodLink RX1 21 yX1_roundedRoot, Cond.static yX1_roundedRoot, Cond.code yX1_roundedRoot cX1_roundedRoot 9 (some .long), Cond.constantLong RX1 25 (2), Cond.instanceMethod yX5_placeUpright, Cond.selects RX5 yX5_placeUpright yX5_placeUpright, Cond.code yX5_placeUpright cX5_placeUpright 4 none, Cond.fieldLink RX5 63 "WheelSwing$Stand" "qx" "D", Cond.fieldLink RX5 66 "WheelSwing$Stand" "qy" "D", Cond.fieldLink RX5 69 "WheelSwing$Stand" "vx" "D", Cond.fieldLink RX5 72 "WheelSwing$Stand" "vy" "D"]
def wsX6_howFarOff : List Cond := .code yX6_howFarOff cX6_howFarOff 11 (some .double) :: ((wsX6_howFarOff_r1 ++ wsX6_howFarOff_r2) ++ wsX20 ++ wsX60 ++ wsX30 ++ wsX50)
def wsX6_off_r1 : List Cond := [Cond.constantLong RX6 83 (-2), Cond.fieldLink RX6 11 "WheelSwing" "hangings" "[LWheelSwing$Hanging;", Cond.constantLong RX6 100 (-1), Cond.methodLink RX6 44 yX6_isHanging, Cond.static yX6_isHanging, Cond.initialized RX6, Cond.code yX6_isHanging cX6_isHanging 1 (some .boolean), Cond.methodLink RX6 69 yX6_isWithin, Cond.static yX6_isWithin, Cond.code yX6_isWithin cX6_isWithin 3 (some .boolean), Cond.methodLink RX6 139 yX6_howFarOff, Cond.instanceMethod yX6_howFarOff, Cond.selects RX6 yX6_howFarOff yX6_howFarOff, Cond.code yX6_howFarOff cX6_howFarOff 11 (some .double), Cond.constantDouble RX6 149 (13830554455654793216), Cond.fieldLink RX6 39 "WheelSwing" "readings" "LWheelSwing$Readings;", Cond.fieldLink RX6 18 "WheelSwing" "stand" "LWheelSwing$Stand;", Cond.constantDouble RX6 214 (4652007308841189376), Cond.methodLink RX6 48 yX6_isPoint, Cond.static yX6_isPoint, Cond.code yX6_isPoint cX6_isPoint 2 (some .boolean), Cond.methodLink RX6 80 yX6_isCoordinate, Cond.static yX6_isCoordinate, Cond.code yX6_isCoordinate cX6_isCoordinate 1 (some .boolean)]
def wsX6_off_r2 : List Cond := [Cond.instanceMethod yX5_reach, Cond.initialized RX5, Cond.selects RX5 yX5_reach yX5_reach, Cond.code yX5_reach cX5_reach 8 (some .boolean), Cond.fieldLink RX5 16 "WheelSwing$Stand" "ux" "I", Cond.fieldLink RX5 21 "WheelSwing$Stand" "uy" "I", Cond.fieldLink RX5 33 "WheelSwing$Stand" "px" "D", Cond.fieldLink RX5 37 "WheelSwing$Stand" "py" "D", Cond.fieldLink RX5 40 "WheelSwing$Stand" "dx" "D", Cond.fieldLink RX5 43 "WheelSwing$Stand" "dy" "D", Cond.constantDouble RX5 52 (4611686018427387904), Cond.fieldLink RX5 54 "WheelSwing$Stand" "m" "D", Cond.fieldLink RX5 57 "WheelSwing$Stand" "k" "D", Cond.static yX1_squareRoot, Cond.initialized RX1, Cond.code yX1_squareRoot cX1_squareRoot 7 (some .double), Cond.constantDouble RX1 9 (4616189618054758400), Cond.constantDouble RX1 11 (4611686018427387904), Cond.methodLink RX1 13 yX1_rootOfPart, Cond.static yX1_rootOfPart, Cond.code yX1_rootOfPart cX1_rootOfPart 6 (some .double), Cond.constantDouble RX1 17 (4613937818241073152), Cond.constantDouble RX1 19 (4841369599423283200), Cond.methodLink RX1 21 yX1_roundedRoot]
def wsX6_off_r3 : List Cond := [Cond.static yX1_roundedRoot, Cond.code yX1_roundedRoot cX1_roundedRoot 9 (some .long), Cond.constantLong RX1 25 (2), Cond.instanceMethod yX5_placeUpright, Cond.selects RX5 yX5_placeUpright yX5_placeUpright, Cond.code yX5_placeUpright cX5_placeUpright 4 none, Cond.fieldLink RX5 63 "WheelSwing$Stand" "qx" "D", Cond.fieldLink RX5 66 "WheelSwing$Stand" "qy" "D", Cond.fieldLink RX5 69 "WheelSwing$Stand" "vx" "D", Cond.fieldLink RX5 72 "WheelSwing$Stand" "vy" "D", Cond.static yX1_bits, Cond.code yX1_bits cX1_bits 8 (some .long), Cond.constantLong RX1 27 (-9223372036854775808), Cond.constantLong RX1 29 (1023), Cond.constantLong RX1 31 (4503599627370496)]
def wsX6_off : List Cond := .code yX6_off cX6_off 4 (some .long) :: ((wsX6_off_r1 ++ (wsX6_off_r2 ++ wsX6_off_r3)) ++ wsX60 ++ wsX20 ++ wsX30 ++ wsX50)
def wsX6_found_r1 : List Cond := [Cond.constantLong RX6 83 (-2), Cond.constantDouble RX6 149 (13830554455654793216), Cond.fieldLink RX6 11 "WheelSwing" "hangings" "[LWheelSwing$Hanging;", Cond.constantLong RX6 100 (-1), Cond.methodLink RX6 44 yX6_isHanging, Cond.static yX6_isHanging, Cond.initialized RX6, Cond.code yX6_isHanging cX6_isHanging 1 (some .boolean), Cond.methodLink RX6 69 yX6_isWithin, Cond.static yX6_isWithin, Cond.code yX6_isWithin cX6_isWithin 3 (some .boolean), Cond.methodLink RX6 139 yX6_howFarOff, Cond.instanceMethod yX6_howFarOff, Cond.selects RX6 yX6_howFarOff yX6_howFarOff, Cond.code yX6_howFarOff cX6_howFarOff 11 (some .double), Cond.fieldLink RX6 39 "WheelSwing" "readings" "LWheelSwing$Readings;", Cond.fieldLink RX6 18 "WheelSwing" "stand" "LWheelSwing$Stand;", Cond.constantDouble RX6 214 (4652007308841189376), Cond.methodLink RX6 48 yX6_isPoint, Cond.static yX6_isPoint, Cond.code yX6_isPoint cX6_isPoint 2 (some .boolean), Cond.methodLink RX6 80 yX6_isCoordinate, Cond.static yX6_isCoordinate, Cond.code yX6_isCoordinate cX6_isCoordinate 1 (some .boolean)]
def wsX6_found_r2 : List Cond := [Cond.instanceMethod yX5_reach, Cond.initialized RX5, Cond.selects RX5 yX5_reach yX5_reach, Cond.code yX5_reach cX5_reach 8 (some .boolean), Cond.fieldLink RX5 16 "WheelSwing$Stand" "ux" "I", Cond.fieldLink RX5 21 "WheelSwing$Stand" "uy" "I", Cond.fieldLink RX5 33 "WheelSwing$Stand" "px" "D", Cond.fieldLink RX5 37 "WheelSwing$Stand" "py" "D", Cond.fieldLink RX5 40 "WheelSwing$Stand" "dx" "D", Cond.fieldLink RX5 43 "WheelSwing$Stand" "dy" "D", Cond.constantDouble RX5 52 (4611686018427387904), Cond.fieldLink RX5 54 "WheelSwing$Stand" "m" "D", Cond.fieldLink RX5 57 "WheelSwing$Stand" "k" "D", Cond.static yX1_squareRoot, Cond.initialized RX1, Cond.code yX1_squareRoot cX1_squareRoot 7 (some .double), Cond.constantDouble RX1 9 (4616189618054758400), Cond.constantDouble RX1 11 (4611686018427387904), Cond.methodLink RX1 13 yX1_rootOfPart, Cond.static yX1_rootOfPart, Cond.code yX1_rootOfPart cX1_rootOfPart 6 (some .double), Cond.constantDouble RX1 17 (4613937818241073152), Cond.constantDouble RX1 19 (4841369599423283200), Cond.methodLink RX1 21 yX1_roundedRoot]
def wsX6_found_r3 : List Cond := [Cond.static yX1_roundedRoot, Cond.code yX1_roundedRoot cX1_roundedRoot 9 (some .long), Cond.constantLong RX1 25 (2), Cond.instanceMethod yX5_placeUpright, Cond.selects RX5 yX5_placeUpright yX5_placeUpright, Cond.code yX5_placeUpright cX5_placeUpright 4 none, Cond.fieldLink RX5 63 "WheelSwing$Stand" "qx" "D", Cond.fieldLink RX5 66 "WheelSwing$Stand" "qy" "D", Cond.fieldLink RX5 69 "WheelSwing$Stand" "vx" "D", Cond.fieldLink RX5 72 "WheelSwing$Stand" "vy" "D", Cond.static yX1_bits, Cond.code yX1_bits cX1_bits 8 (some .long), Cond.constantLong RX1 27 (-9223372036854775808), Cond.constantLong RX1 29 (1023), Cond.constantLong RX1 31 (4503599627370496)]
def wsX6_found : List Cond := .code yX6_found cX6_found 12 (some .long) :: ((wsX6_found_r1 ++ (wsX6_found_r2 ++ wsX6_found_r3)) ++ wsX60 ++ wsX20 ++ wsX30 ++ wsX50)
def wsX6_isClear_r1 : List Cond := [Cond.fieldLink RX6 11 "WheelSwing" "hangings" "[LWheelSwing$Hanging;", Cond.fieldLink RX6 18 "WheelSwing" "stand" "LWheelSwing$Stand;", Cond.methodLink RX6 44 yX6_isHanging, Cond.static yX6_isHanging, Cond.initialized RX6, Cond.code yX6_isHanging cX6_isHanging 1 (some .boolean), Cond.methodLink RX6 69 yX6_isWithin, Cond.static yX6_isWithin, Cond.code yX6_isWithin cX6_isWithin 3 (some .boolean), Cond.methodLink RX6 48 yX6_isPoint, Cond.static yX6_isPoint, Cond.code yX6_isPoint cX6_isPoint 2 (some .boolean), Cond.methodLink RX6 80 yX6_isCoordinate, Cond.static yX6_isCoordinate, Cond.code yX6_isCoordinate cX6_isCoordinate 1 (some .boolean), Cond.methodLink RX6 111 yX6_isSpan, Cond.static yX6_isSpan, Cond.code yX6_isSpan cX6_isSpan 2 (some .boolean), Cond.instanceMethod yX5_reach, Cond.initialized RX5, Cond.selects RX5 yX5_reach yX5_reach, Cond.code yX5_reach cX5_reach 8 (some .boolean), Cond.fieldLink RX5 16 "WheelSwing$Stand" "ux" "I", Cond.fieldLink RX5 21 "WheelSwing$Stand" "uy" "I"]
def wsX6_isClear_r2 : List Cond := [Cond.fieldLink RX5 33 "WheelSwing$Stand" "px" "D", Cond.fieldLink RX5 37 "WheelSwing$Stand" "py" "D", Cond.fieldLink RX5 40 "WheelSwing$Stand" "dx" "D", Cond.fieldLink RX5 43 "WheelSwing$Stand" "dy" "D", Cond.constantDouble RX5 52 (4611686018427387904), Cond.fieldLink RX5 54 "WheelSwing$Stand" "m" "D", Cond.fieldLink RX5 57 "WheelSwing$Stand" "k" "D", Cond.static yX1_squareRoot, Cond.initialized RX1, Cond.code yX1_squareRoot cX1_squareRoot 7 (some .double), Cond.constantDouble RX1 9 (4616189618054758400), Cond.constantDouble RX1 11 (4611686018427387904), Cond.methodLink RX1 13 yX1_rootOfPart, Cond.static yX1_rootOfPart, Cond.code yX1_rootOfPart cX1_rootOfPart 6 (some .double), Cond.constantDouble RX1 17 (4613937818241073152), Cond.constantDouble RX1 19 (4841369599423283200), Cond.methodLink RX1 21 yX1_roundedRoot, Cond.static yX1_roundedRoot, Cond.code yX1_roundedRoot cX1_roundedRoot 9 (some .long), Cond.constantLong RX1 25 (2), Cond.instanceMethod yX5_placeUpright, Cond.selects RX5 yX5_placeUpright yX5_placeUpright, Cond.code yX5_placeUpright cX5_placeUpright 4 none]
def wsX6_isClear_r3 : List Cond := [Cond.fieldLink RX5 63 "WheelSwing$Stand" "qx" "D", Cond.fieldLink RX5 66 "WheelSwing$Stand" "qy" "D", Cond.fieldLink RX5 69 "WheelSwing$Stand" "vx" "D", Cond.fieldLink RX5 72 "WheelSwing$Stand" "vy" "D", Cond.instanceMethod yX5_squareFrom, Cond.selects RX5 yX5_squareFrom yX5_squareFrom, Cond.code yX5_squareFrom cX5_squareFrom 10 (some .double)]
def wsX6_isClear : List Cond := .code yX6_isClear cX6_isClear 9 (some .int) :: ((wsX6_isClear_r1 ++ (wsX6_isClear_r2 ++ wsX6_isClear_r3)) ++ wsX60 ++ wsX20 ++ wsX50)
def wsX6_count : List Cond := .code yX6_count cX6_count 2 (some .int) :: ([.fieldLink RX6 32 "WheelSwing" "shims" "LWheelSwing$ShimBox;", .fieldLink RX6 39 "WheelSwing" "readings" "LWheelSwing$Readings;", .methodLink RX6 69 yX6_isWithin, .static yX6_isWithin, .initialized RX6, .code yX6_isWithin cX6_isWithin 3 (some .boolean)] ++ wsX60 ++ wsX40 ++ wsX30)
def wsX6_digest_r1 : List Cond := [Cond.constantLong RX6 155 (229), Cond.fieldLink RX6 32 "WheelSwing" "shims" "LWheelSwing$ShimBox;", Cond.fieldLink RX6 39 "WheelSwing" "readings" "LWheelSwing$Readings;", Cond.fieldLink RX6 11 "WheelSwing" "hangings" "[LWheelSwing$Hanging;", Cond.fieldLink RX6 25 "WheelSwing" "car" "LWheelSwing$Car;", Cond.methodLink RX6 157 yX6_mix, Cond.static yX6_mix, Cond.initialized RX6, Cond.code yX6_mix cX6_mix 3 (some .long), Cond.constantLong RX6 167 (31), Cond.instanceMethod yX2_mixInto, Cond.initialized RX2, Cond.selects RX2 yX2_mixInto yX2_mixInto, Cond.code yX2_mixInto cX2_mixInto 5 (some .long), Cond.fieldLink RX2 7 "WheelSwing$Hanging" "ux" "I", Cond.fieldLink RX2 13 "WheelSwing$Hanging" "uy" "I", Cond.fieldLink RX2 19 "WheelSwing$Hanging" "lx" "I", Cond.fieldLink RX2 22 "WheelSwing$Hanging" "ly" "I", Cond.fieldLink RX2 16 "WheelSwing$Hanging" "a" "I", Cond.fieldLink RX2 25 "WheelSwing$Hanging" "b" "I", Cond.fieldLink RX2 28 "WheelSwing$Hanging" "c" "I", Cond.fieldLink RX2 31 "WheelSwing$Hanging" "side" "I", Cond.fieldLink RX2 34 "WheelSwing$Hanging" "g" "I", Cond.fieldLink RX2 37 "WheelSwing$Hanging" "d" "I"]
def wsX6_digest_r2 : List Cond := [Cond.fieldLink RX2 40 "WheelSwing$Hanging" "sx" "I", Cond.fieldLink RX2 43 "WheelSwing$Hanging" "sy" "I", Cond.fieldLink RX2 46 "WheelSwing$Hanging" "f" "I", Cond.instanceMethod yX0_loadOf, Cond.initialized RX0, Cond.selects RX0 yX0_loadOf yX0_loadOf, Cond.code yX0_loadOf cX0_loadOf 9 (some .int), Cond.fieldLink RX0 7 "WheelSwing$Car" "total" "I", Cond.fieldLink RX0 13 "WheelSwing$Car" "place" "I", Cond.fieldLink RX0 19 "WheelSwing$Car" "toRight" "I", Cond.fieldLink RX0 22 "WheelSwing$Car" "frontShare" "I", Cond.fieldLink RX0 16 "WheelSwing$Car" "right" "I", Cond.instanceMethod yX4_mixInto, Cond.initialized RX4, Cond.selects RX4 yX4_mixInto yX4_mixInto, Cond.code yX4_mixInto cX4_mixInto 6 (some .long), Cond.fieldLink RX4 15 "WheelSwing$ShimBox" "size" "I", Cond.fieldLink RX4 11 "WheelSwing$ShimBox" "thick" "[I", Cond.instanceMethod yX3_mixInto, Cond.initialized RX3, Cond.selects RX3 yX3_mixInto yX3_mixInto, Cond.code yX3_mixInto cX3_mixInto 6 (some .long), Cond.fieldLink RX3 18 "WheelSwing$Readings" "size" "I", Cond.fieldLink RX3 11 "WheelSwing$Readings" "heights" "[I"]
def wsX6_digest_r3 : List Cond := [Cond.fieldLink RX3 15 "WheelSwing$Readings" "leans" "[I"]
def wsX6_digest : List Cond := .code yX6_digest cX6_digest 4 (some .long) :: ((wsX6_digest_r1 ++ (wsX6_digest_r2 ++ wsX6_digest_r3)) ++ wsX60 ++ wsX40 ++ wsX30 ++ wsX20 ++ wsX00)
def wsX7_in : List Cond := .code yX7_in cX7_in 3 (some .boolean) :: ([])
def wsX7_bitsOf : List Cond := .code yX7_bitsOf cX7_bitsOf 10 (some .long) :: ([.constantDouble RX7 1 (4845873199050653696), .constantDouble RX7 3 (4611686018427387904), .constantDouble RX7 5 (4841369599423283200), .constantLong RX7 7 (4503599627370496), .constantLong RX7 9 (-9223372036854775808)])
def wsX7_root : List Cond := .code yX7_root cX7_root 16 (some .double) :: ([.constantDouble RX7 1 (4845873199050653696), .constantDouble RX7 3 (4611686018427387904), .constantDouble RX7 5 (4841369599423283200), .constantLong RX7 11 (9007199254740992)])
def wsX7_lays : List Cond := .code yX7_lays cX7_lays 11 none :: ([.fieldLink RX7 19 "WheelSwingModel" "number" "[I"] ++ wsX70)
def wsX7_init : List Cond := .code yX7_init cX7_init 2 none :: ([.methodLink RX7 13 objectInit, .instanceMethod objectInit, .code objectInit ⟨#[0xb1]⟩ 1 none, .arrayClass .int, .fieldLink RX7 19 "WheelSwingModel" "number" "[I", .fieldLink RX7 25 "WheelSwingModel" "shim" "[I", .fieldLink RX7 28 "WheelSwingModel" "readAt" "[I", .fieldLink RX7 31 "WheelSwingModel" "read" "[I", .methodLink RX7 34 yX7_lays, .instanceMethod yX7_lays, .selects RX7 yX7_lays yX7_lays, .initialized RX7, .code yX7_lays cX7_lays 11 none] ++ wsX70)
def wsX7_isHanging : List Cond := .code yX7_isHanging cX7_isHanging 1 (some .boolean) :: ([.methodLink RX7 38 yX7_in, .static yX7_in, .initialized RX7, .code yX7_in cX7_in 3 (some .boolean)])
def wsX7_isAt : List Cond := .code yX7_isAt cX7_isAt 1 (some .boolean) :: ([.methodLink RX7 38 yX7_in, .static yX7_in, .initialized RX7, .code yX7_in cX7_in 3 (some .boolean)])
def wsX7_isLong : List Cond := .code yX7_isLong cX7_isLong 1 (some .boolean) :: ([.methodLink RX7 38 yX7_in, .static yX7_in, .initialized RX7, .code yX7_in cX7_in 3 (some .boolean)])
def wsX7_hang : List Cond := .code yX7_hang cX7_hang 10 (some .int) :: ([.methodLink RX7 42 yX7_isHanging, .static yX7_isHanging, .initialized RX7, .code yX7_isHanging cX7_isHanging 1 (some .boolean), .methodLink RX7 38 yX7_in, .static yX7_in, .code yX7_in cX7_in 3 (some .boolean), .methodLink RX7 46 yX7_isAt, .static yX7_isAt, .code yX7_isAt cX7_isAt 1 (some .boolean), .methodLink RX7 49 yX7_isLong, .static yX7_isLong, .code yX7_isLong cX7_isLong 1 (some .boolean), .methodLink RX7 34 yX7_lays, .instanceMethod yX7_lays, .selects RX7 yX7_lays yX7_lays, .code yX7_lays cX7_lays 11 none, .fieldLink RX7 19 "WheelSwingModel" "number" "[I"] ++ wsX70)
def wsX7_wheel : List Cond := .code yX7_wheel cX7_wheel 4 (some .int) :: ([.fieldLink RX7 19 "WheelSwingModel" "number" "[I", .methodLink RX7 42 yX7_isHanging, .static yX7_isHanging, .initialized RX7, .code yX7_isHanging cX7_isHanging 1 (some .boolean), .methodLink RX7 38 yX7_in, .static yX7_in, .code yX7_in cX7_in 3 (some .boolean), .methodLink RX7 46 yX7_isAt, .static yX7_isAt, .code yX7_isAt cX7_isAt 1 (some .boolean)] ++ wsX70)
def wsX7_spring : List Cond := .code yX7_spring cX7_spring 5 (some .int) :: ([.fieldLink RX7 19 "WheelSwingModel" "number" "[I", .methodLink RX7 42 yX7_isHanging, .static yX7_isHanging, .initialized RX7, .code yX7_isHanging cX7_isHanging 1 (some .boolean), .methodLink RX7 38 yX7_in, .static yX7_in, .code yX7_in cX7_in 3 (some .boolean), .methodLink RX7 46 yX7_isAt, .static yX7_isAt, .code yX7_isAt cX7_isAt 1 (some .boolean)] ++ wsX70)
def wsX7_mirror : List Cond := .code yX7_mirror cX7_mirror 5 (some .int) :: ([.fieldLink RX7 19 "WheelSwingModel" "number" "[I", .methodLink RX7 42 yX7_isHanging, .static yX7_isHanging, .initialized RX7, .code yX7_isHanging cX7_isHanging 1 (some .boolean), .methodLink RX7 38 yX7_in, .static yX7_in, .code yX7_in cX7_in 3 (some .boolean)] ++ wsX70)
def wsX7_poses : List Cond := .code yX7_poses cX7_poses 21 (some .boolean) :: ([.fieldLink RX7 19 "WheelSwingModel" "number" "[I", .fieldLink RX7 56 "WheelSwingModel" "px" "D", .fieldLink RX7 60 "WheelSwingModel" "py" "D", .constantDouble RX7 3 (4611686018427387904), .fieldLink RX7 63 "WheelSwingModel" "qx" "D", .fieldLink RX7 66 "WheelSwingModel" "qy" "D", .fieldLink RX7 69 "WheelSwingModel" "vx" "D", .fieldLink RX7 72 "WheelSwingModel" "vy" "D", .methodLink RX7 52 yX7_root, .static yX7_root, .initialized RX7, .code yX7_root cX7_root 16 (some .double), .constantDouble RX7 1 (4845873199050653696), .constantDouble RX7 5 (4841369599423283200), .constantLong RX7 11 (9007199254740992)] ++ wsX70)
def wsX7_road : List Cond := .code yX7_road cX7_road 4 none :: ([.fieldLink RX7 19 "WheelSwingModel" "number" "[I", .fieldLink RX7 56 "WheelSwingModel" "px" "D", .fieldLink RX7 69 "WheelSwingModel" "vx" "D", .fieldLink RX7 72 "WheelSwingModel" "vy" "D", .fieldLink RX7 75 "WheelSwingModel" "rx" "D", .fieldLink RX7 60 "WheelSwingModel" "py" "D", .fieldLink RX7 78 "WheelSwingModel" "ry" "D"] ++ wsX70)
def wsX7_hasCentre : List Cond := .code yX7_hasCentre cX7_hasCentre 11 (some .boolean) :: ([.fieldLink RX7 19 "WheelSwingModel" "number" "[I", .fieldLink RX7 63 "WheelSwingModel" "qx" "D", .fieldLink RX7 60 "WheelSwingModel" "py" "D", .fieldLink RX7 66 "WheelSwingModel" "qy" "D", .fieldLink RX7 56 "WheelSwingModel" "px" "D", .fieldLink RX7 81 "WheelSwingModel" "ix" "D", .fieldLink RX7 84 "WheelSwingModel" "iy" "D"] ++ wsX70)
def wsX7_lengthAt : List Cond := .code yX7_lengthAt cX7_lengthAt 12 (some .double) :: ([.fieldLink RX7 19 "WheelSwingModel" "number" "[I", .fieldLink RX7 56 "WheelSwingModel" "px" "D", .constantDouble RX7 87 (4652007308841189376), .fieldLink RX7 60 "WheelSwingModel" "py" "D", .methodLink RX7 52 yX7_root, .static yX7_root, .initialized RX7, .code yX7_root cX7_root 16 (some .double), .constantDouble RX7 1 (4845873199050653696), .constantDouble RX7 3 (4611686018427387904), .constantDouble RX7 5 (4841369599423283200), .constantLong RX7 11 (9007199254740992)] ++ wsX70)
def wsX7_share_r1 : List Cond := [Cond.constantLong RX7 93 (-1), Cond.constantDouble RX7 3 (4611686018427387904), Cond.methodLink RX7 89 yX7_poses, Cond.instanceMethod yX7_poses, Cond.selects RX7 yX7_poses yX7_poses, Cond.initialized RX7, Cond.code yX7_poses cX7_poses 21 (some .boolean), Cond.fieldLink RX7 19 "WheelSwingModel" "number" "[I", Cond.fieldLink RX7 56 "WheelSwingModel" "px" "D", Cond.fieldLink RX7 60 "WheelSwingModel" "py" "D", Cond.fieldLink RX7 63 "WheelSwingModel" "qx" "D", Cond.fieldLink RX7 66 "WheelSwingModel" "qy" "D", Cond.fieldLink RX7 69 "WheelSwingModel" "vx" "D", Cond.fieldLink RX7 72 "WheelSwingModel" "vy" "D", Cond.methodLink RX7 52 yX7_root, Cond.static yX7_root, Cond.code yX7_root cX7_root 16 (some .double), Cond.constantDouble RX7 1 (4845873199050653696), Cond.constantDouble RX7 5 (4841369599423283200), Cond.constantLong RX7 11 (9007199254740992), Cond.methodLink RX7 95 yX7_lengthAt, Cond.instanceMethod yX7_lengthAt, Cond.selects RX7 yX7_lengthAt yX7_lengthAt, Cond.code yX7_lengthAt cX7_lengthAt 12 (some .double)]
def wsX7_share_r2 : List Cond := [Cond.constantDouble RX7 87 (4652007308841189376), Cond.methodLink RX7 99 yX7_bitsOf, Cond.static yX7_bitsOf, Cond.code yX7_bitsOf cX7_bitsOf 10 (some .long), Cond.constantLong RX7 7 (4503599627370496), Cond.constantLong RX7 9 (-9223372036854775808)]
def wsX7_share : List Cond := .code yX7_share cX7_share 5 (some .long) :: ((wsX7_share_r1 ++ wsX7_share_r2) ++ wsX70)
def wsX7_told_r1 : List Cond := [Cond.fieldLink RX7 56 "WheelSwingModel" "px" "D", Cond.fieldLink RX7 60 "WheelSwingModel" "py" "D", Cond.fieldLink RX7 63 "WheelSwingModel" "qx" "D", Cond.fieldLink RX7 66 "WheelSwingModel" "qy" "D", Cond.fieldLink RX7 72 "WheelSwingModel" "vy" "D", Cond.constantLong RX7 93 (-1), Cond.fieldLink RX7 69 "WheelSwingModel" "vx" "D", Cond.fieldLink RX7 75 "WheelSwingModel" "rx" "D", Cond.fieldLink RX7 78 "WheelSwingModel" "ry" "D", Cond.fieldLink RX7 81 "WheelSwingModel" "ix" "D", Cond.fieldLink RX7 84 "WheelSwingModel" "iy" "D", Cond.methodLink RX7 103 yX7_road, Cond.instanceMethod yX7_road, Cond.selects RX7 yX7_road yX7_road, Cond.initialized RX7, Cond.code yX7_road cX7_road 4 none, Cond.fieldLink RX7 19 "WheelSwingModel" "number" "[I", Cond.methodLink RX7 99 yX7_bitsOf, Cond.static yX7_bitsOf, Cond.code yX7_bitsOf cX7_bitsOf 10 (some .long), Cond.constantDouble RX7 1 (4845873199050653696), Cond.constantDouble RX7 3 (4611686018427387904), Cond.constantDouble RX7 5 (4841369599423283200), Cond.constantLong RX7 7 (4503599627370496)]
def wsX7_told_r2 : List Cond := [Cond.constantLong RX7 9 (-9223372036854775808), Cond.methodLink RX7 95 yX7_lengthAt, Cond.instanceMethod yX7_lengthAt, Cond.selects RX7 yX7_lengthAt yX7_lengthAt, Cond.code yX7_lengthAt cX7_lengthAt 12 (some .double), Cond.constantDouble RX7 87 (4652007308841189376), Cond.methodLink RX7 52 yX7_root, Cond.static yX7_root, Cond.code yX7_root cX7_root 16 (some .double), Cond.constantLong RX7 11 (9007199254740992), Cond.methodLink RX7 107 yX7_hasCentre, Cond.instanceMethod yX7_hasCentre, Cond.selects RX7 yX7_hasCentre yX7_hasCentre, Cond.code yX7_hasCentre cX7_hasCentre 11 (some .boolean)]
def wsX7_told : List Cond := .code yX7_told cX7_told 3 (some .long) :: ((wsX7_told_r1 ++ wsX7_told_r2) ++ wsX70)
def wsX7_pose_r1 : List Cond := [Cond.constantLong RX7 110 (-2), Cond.constantLong RX7 93 (-1), Cond.methodLink RX7 42 yX7_isHanging, Cond.static yX7_isHanging, Cond.initialized RX7, Cond.code yX7_isHanging cX7_isHanging 1 (some .boolean), Cond.methodLink RX7 38 yX7_in, Cond.static yX7_in, Cond.code yX7_in cX7_in 3 (some .boolean), Cond.methodLink RX7 46 yX7_isAt, Cond.static yX7_isAt, Cond.code yX7_isAt cX7_isAt 1 (some .boolean), Cond.methodLink RX7 112 yX7_share, Cond.instanceMethod yX7_share, Cond.selects RX7 yX7_share yX7_share, Cond.code yX7_share cX7_share 5 (some .long), Cond.constantDouble RX7 3 (4611686018427387904), Cond.methodLink RX7 89 yX7_poses, Cond.instanceMethod yX7_poses, Cond.selects RX7 yX7_poses yX7_poses, Cond.code yX7_poses cX7_poses 21 (some .boolean), Cond.fieldLink RX7 19 "WheelSwingModel" "number" "[I", Cond.fieldLink RX7 56 "WheelSwingModel" "px" "D", Cond.fieldLink RX7 60 "WheelSwingModel" "py" "D"]
def wsX7_pose_r2 : List Cond := [Cond.fieldLink RX7 63 "WheelSwingModel" "qx" "D", Cond.fieldLink RX7 66 "WheelSwingModel" "qy" "D", Cond.fieldLink RX7 69 "WheelSwingModel" "vx" "D", Cond.fieldLink RX7 72 "WheelSwingModel" "vy" "D", Cond.methodLink RX7 52 yX7_root, Cond.static yX7_root, Cond.code yX7_root cX7_root 16 (some .double), Cond.constantDouble RX7 1 (4845873199050653696), Cond.constantDouble RX7 5 (4841369599423283200), Cond.constantLong RX7 11 (9007199254740992), Cond.methodLink RX7 95 yX7_lengthAt, Cond.instanceMethod yX7_lengthAt, Cond.selects RX7 yX7_lengthAt yX7_lengthAt, Cond.code yX7_lengthAt cX7_lengthAt 12 (some .double), Cond.constantDouble RX7 87 (4652007308841189376), Cond.methodLink RX7 99 yX7_bitsOf, Cond.static yX7_bitsOf, Cond.code yX7_bitsOf cX7_bitsOf 10 (some .long), Cond.constantLong RX7 7 (4503599627370496), Cond.constantLong RX7 9 (-9223372036854775808), Cond.methodLink RX7 116 yX7_told, Cond.instanceMethod yX7_told, Cond.selects RX7 yX7_told yX7_told, Cond.code yX7_told cX7_told 3 (some .long)]
def wsX7_pose_r3 : List Cond := [Cond.fieldLink RX7 75 "WheelSwingModel" "rx" "D", Cond.fieldLink RX7 78 "WheelSwingModel" "ry" "D", Cond.fieldLink RX7 81 "WheelSwingModel" "ix" "D", Cond.fieldLink RX7 84 "WheelSwingModel" "iy" "D", Cond.methodLink RX7 103 yX7_road, Cond.instanceMethod yX7_road, Cond.selects RX7 yX7_road yX7_road, Cond.code yX7_road cX7_road 4 none, Cond.methodLink RX7 107 yX7_hasCentre, Cond.instanceMethod yX7_hasCentre, Cond.selects RX7 yX7_hasCentre yX7_hasCentre, Cond.code yX7_hasCentre cX7_hasCentre 11 (some .boolean)]
def wsX7_pose : List Cond := .code yX7_pose cX7_pose 4 (some .long) :: ((wsX7_pose_r1 ++ (wsX7_pose_r2 ++ wsX7_pose_r3)) ++ wsX70)
def wsX7_lock_r1 : List Cond := [Cond.methodLink RX7 42 yX7_isHanging, Cond.static yX7_isHanging, Cond.initialized RX7, Cond.code yX7_isHanging cX7_isHanging 1 (some .boolean), Cond.methodLink RX7 38 yX7_in, Cond.static yX7_in, Cond.code yX7_in cX7_in 3 (some .boolean), Cond.methodLink RX7 46 yX7_isAt, Cond.static yX7_isAt, Cond.code yX7_isAt cX7_isAt 1 (some .boolean), Cond.methodLink RX7 89 yX7_poses, Cond.instanceMethod yX7_poses, Cond.selects RX7 yX7_poses yX7_poses, Cond.code yX7_poses cX7_poses 21 (some .boolean), Cond.fieldLink RX7 19 "WheelSwingModel" "number" "[I", Cond.fieldLink RX7 56 "WheelSwingModel" "px" "D", Cond.fieldLink RX7 60 "WheelSwingModel" "py" "D", Cond.constantDouble RX7 3 (4611686018427387904), Cond.fieldLink RX7 63 "WheelSwingModel" "qx" "D", Cond.fieldLink RX7 66 "WheelSwingModel" "qy" "D", Cond.fieldLink RX7 69 "WheelSwingModel" "vx" "D", Cond.fieldLink RX7 72 "WheelSwingModel" "vy" "D", Cond.methodLink RX7 52 yX7_root, Cond.static yX7_root]
def wsX7_lock_r2 : List Cond := [Cond.code yX7_root cX7_root 16 (some .double), Cond.constantDouble RX7 1 (4845873199050653696), Cond.constantDouble RX7 5 (4841369599423283200), Cond.constantLong RX7 11 (9007199254740992)]
def wsX7_lock : List Cond := .code yX7_lock cX7_lock 5 (some .int) :: ((wsX7_lock_r1 ++ wsX7_lock_r2) ++ wsX70)
def wsX7_weight : List Cond := .code yX7_weight cX7_weight 4 (some .int) :: ([.constant RX7 119 (100000), .fieldLink RX7 120 "WheelSwingModel" "heavy" "I", .fieldLink RX7 124 "WheelSwingModel" "place" "I", .fieldLink RX7 127 "WheelSwingModel" "toRight" "I", .methodLink RX7 38 yX7_in, .static yX7_in, .initialized RX7, .code yX7_in cX7_in 3 (some .boolean)] ++ wsX70)
def wsX7_push : List Cond := .code yX7_push cX7_push 3 (some .int) :: ([.constant RX7 130 (-100000), .constant RX7 119 (100000), .fieldLink RX7 131 "WheelSwingModel" "push" "I", .fieldLink RX7 134 "WheelSwingModel" "share" "I", .methodLink RX7 38 yX7_in, .static yX7_in, .initialized RX7, .code yX7_in cX7_in 3 (some .boolean)] ++ wsX70)
def wsX7_carries : List Cond := .code yX7_carries cX7_carries 6 (some .int) :: ([.constant RX7 136 (-2000000), .fieldLink RX7 120 "WheelSwingModel" "heavy" "I", .fieldLink RX7 124 "WheelSwingModel" "place" "I", .fieldLink RX7 131 "WheelSwingModel" "push" "I", .fieldLink RX7 134 "WheelSwingModel" "share" "I", .fieldLink RX7 127 "WheelSwingModel" "toRight" "I", .methodLink RX7 38 yX7_in, .static yX7_in, .initialized RX7, .code yX7_in cX7_in 3 (some .boolean)] ++ wsX70)
def wsX7_shim : List Cond := .code yX7_shim cX7_shim 2 (some .int) :: ([.fieldLink RX7 137 "WheelSwingModel" "shims" "I", .fieldLink RX7 25 "WheelSwingModel" "shim" "[I", .methodLink RX7 38 yX7_in, .static yX7_in, .initialized RX7, .code yX7_in cX7_in 3 (some .boolean)] ++ wsX70)
def wsX7_best : List Cond := .code yX7_best cX7_best 10 (some .int) :: ([.fieldLink RX7 137 "WheelSwingModel" "shims" "I", .fieldLink RX7 25 "WheelSwingModel" "shim" "[I", .methodLink RX7 38 yX7_in, .static yX7_in, .initialized RX7, .code yX7_in cX7_in 3 (some .boolean)] ++ wsX70)
def wsX7_reading : List Cond := .code yX7_reading cX7_reading 3 (some .int) :: ([.fieldLink RX7 140 "WheelSwingModel" "readings" "I", .fieldLink RX7 28 "WheelSwingModel" "readAt" "[I", .fieldLink RX7 31 "WheelSwingModel" "read" "[I", .methodLink RX7 46 yX7_isAt, .static yX7_isAt, .initialized RX7, .code yX7_isAt cX7_isAt 1 (some .boolean), .methodLink RX7 38 yX7_in, .static yX7_in, .code yX7_in cX7_in 3 (some .boolean)] ++ wsX70)
def wsX7_clear : List Cond := .code yX7_clear cX7_clear 2 (some .int) :: ([.fieldLink RX7 140 "WheelSwingModel" "readings" "I"] ++ wsX70)
def wsX7_isOff : List Cond := .code yX7_isOff cX7_isOff 5 (some .boolean) :: ([.fieldLink RX7 143 "WheelSwingModel" "off" "D", .fieldLink RX7 140 "WheelSwingModel" "readings" "I", .fieldLink RX7 28 "WheelSwingModel" "readAt" "[I", .fieldLink RX7 72 "WheelSwingModel" "vy" "D", .constantDouble RX7 87 (4652007308841189376), .fieldLink RX7 69 "WheelSwingModel" "vx" "D", .fieldLink RX7 31 "WheelSwingModel" "read" "[I", .methodLink RX7 89 yX7_poses, .instanceMethod yX7_poses, .selects RX7 yX7_poses yX7_poses, .initialized RX7, .code yX7_poses cX7_poses 21 (some .boolean), .fieldLink RX7 19 "WheelSwingModel" "number" "[I", .fieldLink RX7 56 "WheelSwingModel" "px" "D", .fieldLink RX7 60 "WheelSwingModel" "py" "D", .constantDouble RX7 3 (4611686018427387904), .fieldLink RX7 63 "WheelSwingModel" "qx" "D", .fieldLink RX7 66 "WheelSwingModel" "qy" "D", .methodLink RX7 52 yX7_root, .static yX7_root, .code yX7_root cX7_root 16 (some .double), .constantDouble RX7 1 (4845873199050653696), .constantDouble RX7 5 (4841369599423283200), .constantLong RX7 11 (9007199254740992)] ++ wsX70)
def wsX7_off_r1 : List Cond := [Cond.constantLong RX7 110 (-2), Cond.fieldLink RX7 143 "WheelSwingModel" "off" "D", Cond.constantLong RX7 93 (-1), Cond.methodLink RX7 42 yX7_isHanging, Cond.static yX7_isHanging, Cond.initialized RX7, Cond.code yX7_isHanging cX7_isHanging 1 (some .boolean), Cond.methodLink RX7 38 yX7_in, Cond.static yX7_in, Cond.code yX7_in cX7_in 3 (some .boolean), Cond.methodLink RX7 146 yX7_isOff, Cond.instanceMethod yX7_isOff, Cond.selects RX7 yX7_isOff yX7_isOff, Cond.code yX7_isOff cX7_isOff 5 (some .boolean), Cond.fieldLink RX7 140 "WheelSwingModel" "readings" "I", Cond.fieldLink RX7 28 "WheelSwingModel" "readAt" "[I", Cond.fieldLink RX7 72 "WheelSwingModel" "vy" "D", Cond.constantDouble RX7 87 (4652007308841189376), Cond.fieldLink RX7 69 "WheelSwingModel" "vx" "D", Cond.fieldLink RX7 31 "WheelSwingModel" "read" "[I", Cond.methodLink RX7 89 yX7_poses, Cond.instanceMethod yX7_poses, Cond.selects RX7 yX7_poses yX7_poses, Cond.code yX7_poses cX7_poses 21 (some .boolean)]
def wsX7_off_r2 : List Cond := [Cond.fieldLink RX7 19 "WheelSwingModel" "number" "[I", Cond.fieldLink RX7 56 "WheelSwingModel" "px" "D", Cond.fieldLink RX7 60 "WheelSwingModel" "py" "D", Cond.constantDouble RX7 3 (4611686018427387904), Cond.fieldLink RX7 63 "WheelSwingModel" "qx" "D", Cond.fieldLink RX7 66 "WheelSwingModel" "qy" "D", Cond.methodLink RX7 52 yX7_root, Cond.static yX7_root, Cond.code yX7_root cX7_root 16 (some .double), Cond.constantDouble RX7 1 (4845873199050653696), Cond.constantDouble RX7 5 (4841369599423283200), Cond.constantLong RX7 11 (9007199254740992), Cond.methodLink RX7 99 yX7_bitsOf, Cond.static yX7_bitsOf, Cond.code yX7_bitsOf cX7_bitsOf 10 (some .long), Cond.constantLong RX7 7 (4503599627370496), Cond.constantLong RX7 9 (-9223372036854775808)]
def wsX7_off : List Cond := .code yX7_off cX7_off 2 (some .long) :: ((wsX7_off_r1 ++ wsX7_off_r2) ++ wsX70)
def wsX7_found_r1 : List Cond := [Cond.constantLong RX7 110 (-2), Cond.fieldLink RX7 19 "WheelSwingModel" "number" "[I", Cond.fieldLink RX7 143 "WheelSwingModel" "off" "D", Cond.constantLong RX7 93 (-1), Cond.methodLink RX7 42 yX7_isHanging, Cond.static yX7_isHanging, Cond.initialized RX7, Cond.code yX7_isHanging cX7_isHanging 1 (some .boolean), Cond.methodLink RX7 38 yX7_in, Cond.static yX7_in, Cond.code yX7_in cX7_in 3 (some .boolean), Cond.methodLink RX7 46 yX7_isAt, Cond.static yX7_isAt, Cond.code yX7_isAt cX7_isAt 1 (some .boolean), Cond.methodLink RX7 146 yX7_isOff, Cond.instanceMethod yX7_isOff, Cond.selects RX7 yX7_isOff yX7_isOff, Cond.code yX7_isOff cX7_isOff 5 (some .boolean), Cond.fieldLink RX7 140 "WheelSwingModel" "readings" "I", Cond.fieldLink RX7 28 "WheelSwingModel" "readAt" "[I", Cond.fieldLink RX7 72 "WheelSwingModel" "vy" "D", Cond.constantDouble RX7 87 (4652007308841189376), Cond.fieldLink RX7 69 "WheelSwingModel" "vx" "D", Cond.fieldLink RX7 31 "WheelSwingModel" "read" "[I"]
def wsX7_found_r2 : List Cond := [Cond.methodLink RX7 89 yX7_poses, Cond.instanceMethod yX7_poses, Cond.selects RX7 yX7_poses yX7_poses, Cond.code yX7_poses cX7_poses 21 (some .boolean), Cond.fieldLink RX7 56 "WheelSwingModel" "px" "D", Cond.fieldLink RX7 60 "WheelSwingModel" "py" "D", Cond.constantDouble RX7 3 (4611686018427387904), Cond.fieldLink RX7 63 "WheelSwingModel" "qx" "D", Cond.fieldLink RX7 66 "WheelSwingModel" "qy" "D", Cond.methodLink RX7 52 yX7_root, Cond.static yX7_root, Cond.code yX7_root cX7_root 16 (some .double), Cond.constantDouble RX7 1 (4845873199050653696), Cond.constantDouble RX7 5 (4841369599423283200), Cond.constantLong RX7 11 (9007199254740992), Cond.methodLink RX7 99 yX7_bitsOf, Cond.static yX7_bitsOf, Cond.code yX7_bitsOf cX7_bitsOf 10 (some .long), Cond.constantLong RX7 7 (4503599627370496), Cond.constantLong RX7 9 (-9223372036854775808)]
def wsX7_found : List Cond := .code yX7_found cX7_found 13 (some .long) :: ((wsX7_found_r1 ++ wsX7_found_r2) ++ wsX70)
def wsX7_isFree : List Cond := .code yX7_isFree cX7_isFree 12 (some .boolean) :: ([.fieldLink RX7 19 "WheelSwingModel" "number" "[I", .fieldLink RX7 56 "WheelSwingModel" "px" "D", .fieldLink RX7 63 "WheelSwingModel" "qx" "D", .fieldLink RX7 60 "WheelSwingModel" "py" "D", .fieldLink RX7 66 "WheelSwingModel" "qy" "D"] ++ wsX70)
def wsX7_isClear_r1 : List Cond := [Cond.methodLink RX7 42 yX7_isHanging, Cond.static yX7_isHanging, Cond.initialized RX7, Cond.code yX7_isHanging cX7_isHanging 1 (some .boolean), Cond.methodLink RX7 38 yX7_in, Cond.static yX7_in, Cond.code yX7_in cX7_in 3 (some .boolean), Cond.methodLink RX7 46 yX7_isAt, Cond.static yX7_isAt, Cond.code yX7_isAt cX7_isAt 1 (some .boolean), Cond.methodLink RX7 89 yX7_poses, Cond.instanceMethod yX7_poses, Cond.selects RX7 yX7_poses yX7_poses, Cond.code yX7_poses cX7_poses 21 (some .boolean), Cond.fieldLink RX7 19 "WheelSwingModel" "number" "[I", Cond.fieldLink RX7 56 "WheelSwingModel" "px" "D", Cond.fieldLink RX7 60 "WheelSwingModel" "py" "D", Cond.constantDouble RX7 3 (4611686018427387904), Cond.fieldLink RX7 63 "WheelSwingModel" "qx" "D", Cond.fieldLink RX7 66 "WheelSwingModel" "qy" "D", Cond.fieldLink RX7 69 "WheelSwingModel" "vx" "D", Cond.fieldLink RX7 72 "WheelSwingModel" "vy" "D", Cond.methodLink RX7 52 yX7_root, Cond.static yX7_root]
def wsX7_isClear_r2 : List Cond := [Cond.code yX7_root cX7_root 16 (some .double), Cond.constantDouble RX7 1 (4845873199050653696), Cond.constantDouble RX7 5 (4841369599423283200), Cond.constantLong RX7 11 (9007199254740992), Cond.methodLink RX7 149 yX7_isFree, Cond.instanceMethod yX7_isFree, Cond.selects RX7 yX7_isFree yX7_isFree, Cond.code yX7_isFree cX7_isFree 12 (some .boolean)]
def wsX7_isClear : List Cond := .code yX7_isClear cX7_isClear 8 (some .int) :: ((wsX7_isClear_r1 ++ wsX7_isClear_r2) ++ wsX70)
def wsX7_count : List Cond := .code yX7_count cX7_count 2 (some .int) :: ([.fieldLink RX7 137 "WheelSwingModel" "shims" "I", .fieldLink RX7 140 "WheelSwingModel" "readings" "I"] ++ wsX70)
def wsX7_digest : List Cond := .code yX7_digest cX7_digest 4 (some .long) :: ([.constantLong RX7 153 (31), .constantLong RX7 155 (7099), .fieldLink RX7 137 "WheelSwingModel" "shims" "I", .fieldLink RX7 140 "WheelSwingModel" "readings" "I", .fieldLink RX7 19 "WheelSwingModel" "number" "[I", .fieldLink RX7 25 "WheelSwingModel" "shim" "[I", .fieldLink RX7 28 "WheelSwingModel" "readAt" "[I", .fieldLink RX7 31 "WheelSwingModel" "read" "[I", .methodLink RX7 157 yX7_carries, .instanceMethod yX7_carries, .selects RX7 yX7_carries yX7_carries, .initialized RX7, .code yX7_carries cX7_carries 6 (some .int), .constant RX7 136 (-2000000), .fieldLink RX7 120 "WheelSwingModel" "heavy" "I", .fieldLink RX7 124 "WheelSwingModel" "place" "I", .fieldLink RX7 131 "WheelSwingModel" "push" "I", .fieldLink RX7 134 "WheelSwingModel" "share" "I", .fieldLink RX7 127 "WheelSwingModel" "toRight" "I", .methodLink RX7 38 yX7_in, .static yX7_in, .code yX7_in cX7_in 3 (some .boolean)] ++ wsX70)
def wsJ9_abs_0f7a4 : List Cond := .code yJ9_abs_0f7a4 cJ9_abs_0f7a4 1 (some .int) :: ([])
def wsL_law_r1 : List Cond := [Cond.classLink RL 7 RX6, Cond.instantiable RX6 5, Cond.initialized RX6, Cond.classLink RL 10 RX7, Cond.instantiable RX7 22, Cond.initialized RX7, Cond.methodLink RL 9 yX6_init, Cond.instanceMethod yX6_init, Cond.code yX6_init cX6_init 2 none, Cond.methodLink RX6 1 objectInit, Cond.instanceMethod objectInit, Cond.code objectInit ⟨#[0xb1]⟩ 1 none, Cond.classLink RX6 9 RX2, Cond.fieldLink RX6 11 "WheelSwing" "hangings" "[LWheelSwing$Hanging;", Cond.classLink RX6 15 RX5, Cond.instantiable RX5 14, Cond.initialized RX5, Cond.fieldLink RX6 18 "WheelSwing" "stand" "LWheelSwing$Stand;", Cond.classLink RX6 22 RX0, Cond.instantiable RX0 5, Cond.initialized RX0, Cond.fieldLink RX6 25 "WheelSwing" "car" "LWheelSwing$Car;", Cond.classLink RX6 29 RX4, Cond.instantiable RX4 2]
def wsL_law_r2 : List Cond := [Cond.initialized RX4, Cond.fieldLink RX6 32 "WheelSwing" "shims" "LWheelSwing$ShimBox;", Cond.classLink RX6 36 RX3, Cond.instantiable RX3 3, Cond.initialized RX3, Cond.fieldLink RX6 39 "WheelSwing" "readings" "LWheelSwing$Readings;", Cond.instantiable RX2 13, Cond.initialized RX2, Cond.instanceMethod yX5_init, Cond.code yX5_init cX5_init 1 none, Cond.methodLink RX5 1 objectInit, Cond.instanceMethod yX0_init, Cond.code yX0_init cX0_init 1 none, Cond.methodLink RX0 1 objectInit, Cond.instanceMethod yX4_init, Cond.code yX4_init cX4_init 1 none, Cond.methodLink RX4 3 objectInit, Cond.arrayClass .int, Cond.fieldLink RX4 11 "WheelSwing$ShimBox" "thick" "[I", Cond.fieldLink RX4 15 "WheelSwing$ShimBox" "size" "I", Cond.instanceMethod yX3_init, Cond.code yX3_init cX3_init 1 none, Cond.methodLink RX3 3 objectInit, Cond.fieldLink RX3 11 "WheelSwing$Readings" "heights" "[I"]
def wsL_law_r3 : List Cond := [Cond.fieldLink RX3 15 "WheelSwing$Readings" "leans" "[I", Cond.fieldLink RX3 18 "WheelSwing$Readings" "size" "I", Cond.instanceMethod yX2_init, Cond.code yX2_init cX2_init 1 none, Cond.methodLink RX2 1 objectInit, Cond.fieldLink RX2 7 "WheelSwing$Hanging" "ux" "I", Cond.fieldLink RX2 13 "WheelSwing$Hanging" "uy" "I", Cond.fieldLink RX2 16 "WheelSwing$Hanging" "a" "I", Cond.fieldLink RX2 19 "WheelSwing$Hanging" "lx" "I", Cond.fieldLink RX2 22 "WheelSwing$Hanging" "ly" "I", Cond.fieldLink RX2 25 "WheelSwing$Hanging" "b" "I", Cond.fieldLink RX2 28 "WheelSwing$Hanging" "c" "I", Cond.fieldLink RX2 31 "WheelSwing$Hanging" "side" "I", Cond.fieldLink RX2 34 "WheelSwing$Hanging" "g" "I", Cond.fieldLink RX2 37 "WheelSwing$Hanging" "d" "I", Cond.fieldLink RX2 40 "WheelSwing$Hanging" "sx" "I", Cond.fieldLink RX2 43 "WheelSwing$Hanging" "sy" "I", Cond.fieldLink RX2 46 "WheelSwing$Hanging" "f" "I", Cond.methodLink RL 12 yX7_init, Cond.instanceMethod yX7_init, Cond.code yX7_init cX7_init 2 none, Cond.methodLink RX7 13 objectInit, Cond.fieldLink RX7 19 "WheelSwingModel" "number" "[I", Cond.fieldLink RX7 25 "WheelSwingModel" "shim" "[I"]
def wsL_law_r4 : List Cond := [Cond.fieldLink RX7 28 "WheelSwingModel" "readAt" "[I", Cond.fieldLink RX7 31 "WheelSwingModel" "read" "[I", Cond.methodLink RX7 34 yX7_lays, Cond.instanceMethod yX7_lays, Cond.selects RX7 yX7_lays yX7_lays, Cond.code yX7_lays cX7_lays 11 none, Cond.methodLink RL 13 yX6_hang, Cond.instanceMethod yX6_hang, Cond.selects RX6 yX6_hang yX6_hang, Cond.code yX6_hang cX6_hang 10 (some .int), Cond.methodLink RX6 44 yX6_isHanging, Cond.static yX6_isHanging, Cond.code yX6_isHanging cX6_isHanging 1 (some .boolean), Cond.methodLink RX6 69 yX6_isWithin, Cond.static yX6_isWithin, Cond.code yX6_isWithin cX6_isWithin 3 (some .boolean), Cond.methodLink RX6 48 yX6_isPoint, Cond.static yX6_isPoint, Cond.code yX6_isPoint cX6_isPoint 2 (some .boolean), Cond.methodLink RX6 80 yX6_isCoordinate, Cond.static yX6_isCoordinate, Cond.code yX6_isCoordinate cX6_isCoordinate 1 (some .boolean), Cond.methodLink RX6 52 yX6_isArm, Cond.static yX6_isArm]
def wsL_law_r5 : List Cond := [Cond.code yX6_isArm cX6_isArm 1 (some .boolean), Cond.instanceMethod yX2_setUpperArm, Cond.selects RX2 yX2_setUpperArm yX2_setUpperArm, Cond.code yX2_setUpperArm cX2_setUpperArm 4 none, Cond.instanceMethod yX2_setLowerArm, Cond.selects RX2 yX2_setLowerArm yX2_setLowerArm, Cond.code yX2_setLowerArm cX2_setLowerArm 4 none, Cond.instanceMethod yX2_setUpright, Cond.selects RX2 yX2_setUpright yX2_setUpright, Cond.code yX2_setUpright cX2_setUpright 3 none, Cond.methodLink RL 17 yX7_hang, Cond.instanceMethod yX7_hang, Cond.selects RX7 yX7_hang yX7_hang, Cond.code yX7_hang cX7_hang 10 (some .int), Cond.methodLink RX7 42 yX7_isHanging, Cond.static yX7_isHanging, Cond.code yX7_isHanging cX7_isHanging 1 (some .boolean), Cond.methodLink RX7 38 yX7_in, Cond.static yX7_in, Cond.code yX7_in cX7_in 3 (some .boolean), Cond.methodLink RX7 46 yX7_isAt, Cond.static yX7_isAt, Cond.code yX7_isAt cX7_isAt 1 (some .boolean), Cond.methodLink RX7 49 yX7_isLong]
def wsL_law_r6 : List Cond := [Cond.static yX7_isLong, Cond.code yX7_isLong cX7_isLong 1 (some .boolean), Cond.methodLink RL 18 yX6_wheel, Cond.instanceMethod yX6_wheel, Cond.selects RX6 yX6_wheel yX6_wheel, Cond.code yX6_wheel cX6_wheel 4 (some .int), Cond.instanceMethod yX2_setRoadPoint, Cond.selects RX2 yX2_setRoadPoint yX2_setRoadPoint, Cond.code yX2_setRoadPoint cX2_setRoadPoint 3 none, Cond.methodLink RL 22 yX7_wheel, Cond.instanceMethod yX7_wheel, Cond.selects RX7 yX7_wheel yX7_wheel, Cond.code yX7_wheel cX7_wheel 4 (some .int), Cond.methodLink RL 23 yX6_spring, Cond.instanceMethod yX6_spring, Cond.selects RX6 yX6_spring yX6_spring, Cond.code yX6_spring cX6_spring 5 (some .int), Cond.instanceMethod yX2_setSpring, Cond.selects RX2 yX2_setSpring yX2_setSpring, Cond.code yX2_setSpring cX2_setSpring 4 none, Cond.methodLink RL 27 yX7_spring, Cond.instanceMethod yX7_spring, Cond.selects RX7 yX7_spring yX7_spring, Cond.code yX7_spring cX7_spring 5 (some .int)]
def wsL_law_r7 : List Cond := [Cond.methodLink RL 28 yX6_mirror, Cond.instanceMethod yX6_mirror, Cond.selects RX6 yX6_mirror yX6_mirror, Cond.code yX6_mirror cX6_mirror 3 (some .int), Cond.instanceMethod yX2_becomeMirrorOf, Cond.selects RX2 yX2_becomeMirrorOf yX2_becomeMirrorOf, Cond.code yX2_becomeMirrorOf cX2_becomeMirrorOf 2 none, Cond.methodLink RX2 49 yX2_setUpperArm, Cond.methodLink RX2 53 yX2_setLowerArm, Cond.methodLink RX2 56 yX2_setUpright, Cond.methodLink RX2 60 yX2_setRoadPoint, Cond.methodLink RX2 63 yX2_setSpring, Cond.methodLink RL 32 yX7_mirror, Cond.instanceMethod yX7_mirror, Cond.selects RX7 yX7_mirror yX7_mirror, Cond.code yX7_mirror cX7_mirror 5 (some .int), Cond.methodLink RL 33 yX6_pose, Cond.instanceMethod yX6_pose, Cond.selects RX6 yX6_pose yX6_pose, Cond.code yX6_pose cX6_pose 5 (some .long), Cond.constantLong RX6 83 (-2), Cond.constantLong RX6 100 (-1), Cond.methodLink RX6 85 yX6_springShare, Cond.instanceMethod yX6_springShare]
def wsL_law_r8 : List Cond := [Cond.selects RX6 yX6_springShare yX6_springShare, Cond.code yX6_springShare cX6_springShare 5 (some .long), Cond.constantDouble RX6 208 (4611686018427387904), Cond.instanceMethod yX5_reach, Cond.selects RX5 yX5_reach yX5_reach, Cond.code yX5_reach cX5_reach 8 (some .boolean), Cond.fieldLink RX5 16 "WheelSwing$Stand" "ux" "I", Cond.fieldLink RX5 21 "WheelSwing$Stand" "uy" "I", Cond.fieldLink RX5 33 "WheelSwing$Stand" "px" "D", Cond.fieldLink RX5 37 "WheelSwing$Stand" "py" "D", Cond.fieldLink RX5 40 "WheelSwing$Stand" "dx" "D", Cond.fieldLink RX5 43 "WheelSwing$Stand" "dy" "D", Cond.constantDouble RX5 52 (4611686018427387904), Cond.fieldLink RX5 54 "WheelSwing$Stand" "m" "D", Cond.fieldLink RX5 57 "WheelSwing$Stand" "k" "D", Cond.static yX1_squareRoot, Cond.initialized RX1, Cond.code yX1_squareRoot cX1_squareRoot 7 (some .double), Cond.constantDouble RX1 9 (4616189618054758400), Cond.constantDouble RX1 11 (4611686018427387904), Cond.methodLink RX1 13 yX1_rootOfPart, Cond.static yX1_rootOfPart, Cond.code yX1_rootOfPart cX1_rootOfPart 6 (some .double), Cond.constantDouble RX1 17 (4613937818241073152)]
def wsL_law_r9 : List Cond := [Cond.constantDouble RX1 19 (4841369599423283200), Cond.methodLink RX1 21 yX1_roundedRoot, Cond.static yX1_roundedRoot, Cond.code yX1_roundedRoot cX1_roundedRoot 9 (some .long), Cond.constantLong RX1 25 (2), Cond.instanceMethod yX5_springLength, Cond.selects RX5 yX5_springLength yX5_springLength, Cond.code yX5_springLength cX5_springLength 6 (some .double), Cond.constantDouble RX5 90 (4652007308841189376), Cond.static yX1_bits, Cond.code yX1_bits cX1_bits 8 (some .long), Cond.constantLong RX1 27 (-9223372036854775808), Cond.constantLong RX1 29 (1023), Cond.constantLong RX1 31 (4503599627370496), Cond.instanceMethod yX5_placeUpright, Cond.selects RX5 yX5_placeUpright yX5_placeUpright, Cond.code yX5_placeUpright cX5_placeUpright 4 none, Cond.fieldLink RX5 63 "WheelSwing$Stand" "qx" "D", Cond.fieldLink RX5 66 "WheelSwing$Stand" "qy" "D", Cond.fieldLink RX5 69 "WheelSwing$Stand" "vx" "D", Cond.fieldLink RX5 72 "WheelSwing$Stand" "vy" "D", Cond.methodLink RX6 105 yX6_tellWheel, Cond.instanceMethod yX6_tellWheel, Cond.selects RX6 yX6_tellWheel yX6_tellWheel]
def wsL_law_r10 : List Cond := [Cond.code yX6_tellWheel cX6_tellWheel 3 (some .long), Cond.instanceMethod yX5_roadX, Cond.selects RX5 yX5_roadX yX5_roadX, Cond.code yX5_roadX cX5_roadX 2 (some .double), Cond.instanceMethod yX5_roadY, Cond.selects RX5 yX5_roadY yX5_roadY, Cond.code yX5_roadY cX5_roadY 2 (some .double), Cond.methodLink RX6 108 yX6_tellTravel, Cond.instanceMethod yX6_tellTravel, Cond.selects RX6 yX6_tellTravel yX6_tellTravel, Cond.code yX6_tellTravel cX6_tellTravel 7 (some .long), Cond.instanceMethod yX5_findCentre, Cond.selects RX5 yX5_findCentre yX5_findCentre, Cond.code yX5_findCentre cX5_findCentre 6 (some .boolean), Cond.fieldLink RX5 81 "WheelSwing$Stand" "ix" "D", Cond.fieldLink RX5 84 "WheelSwing$Stand" "iy" "D", Cond.methodLink RL 37 yX7_pose, Cond.instanceMethod yX7_pose, Cond.selects RX7 yX7_pose yX7_pose, Cond.code yX7_pose cX7_pose 4 (some .long), Cond.constantLong RX7 110 (-2), Cond.constantLong RX7 93 (-1), Cond.methodLink RX7 112 yX7_share, Cond.instanceMethod yX7_share]
def wsL_law_r11 : List Cond := [Cond.selects RX7 yX7_share yX7_share, Cond.code yX7_share cX7_share 5 (some .long), Cond.constantDouble RX7 3 (4611686018427387904), Cond.methodLink RX7 89 yX7_poses, Cond.instanceMethod yX7_poses, Cond.selects RX7 yX7_poses yX7_poses, Cond.code yX7_poses cX7_poses 21 (some .boolean), Cond.fieldLink RX7 56 "WheelSwingModel" "px" "D", Cond.fieldLink RX7 60 "WheelSwingModel" "py" "D", Cond.fieldLink RX7 63 "WheelSwingModel" "qx" "D", Cond.fieldLink RX7 66 "WheelSwingModel" "qy" "D", Cond.fieldLink RX7 69 "WheelSwingModel" "vx" "D", Cond.fieldLink RX7 72 "WheelSwingModel" "vy" "D", Cond.methodLink RX7 52 yX7_root, Cond.static yX7_root, Cond.code yX7_root cX7_root 16 (some .double), Cond.constantDouble RX7 1 (4845873199050653696), Cond.constantDouble RX7 5 (4841369599423283200), Cond.constantLong RX7 11 (9007199254740992), Cond.methodLink RX7 95 yX7_lengthAt, Cond.instanceMethod yX7_lengthAt, Cond.selects RX7 yX7_lengthAt yX7_lengthAt, Cond.code yX7_lengthAt cX7_lengthAt 12 (some .double), Cond.constantDouble RX7 87 (4652007308841189376)]
def wsL_law_r12 : List Cond := [Cond.methodLink RX7 99 yX7_bitsOf, Cond.static yX7_bitsOf, Cond.code yX7_bitsOf cX7_bitsOf 10 (some .long), Cond.constantLong RX7 7 (4503599627370496), Cond.constantLong RX7 9 (-9223372036854775808), Cond.methodLink RX7 116 yX7_told, Cond.instanceMethod yX7_told, Cond.selects RX7 yX7_told yX7_told, Cond.code yX7_told cX7_told 3 (some .long), Cond.fieldLink RX7 75 "WheelSwingModel" "rx" "D", Cond.fieldLink RX7 78 "WheelSwingModel" "ry" "D", Cond.fieldLink RX7 81 "WheelSwingModel" "ix" "D", Cond.fieldLink RX7 84 "WheelSwingModel" "iy" "D", Cond.methodLink RX7 103 yX7_road, Cond.instanceMethod yX7_road, Cond.selects RX7 yX7_road yX7_road, Cond.code yX7_road cX7_road 4 none, Cond.methodLink RX7 107 yX7_hasCentre, Cond.instanceMethod yX7_hasCentre, Cond.selects RX7 yX7_hasCentre yX7_hasCentre, Cond.code yX7_hasCentre cX7_hasCentre 11 (some .boolean), Cond.methodLink RL 38 yX6_lock, Cond.instanceMethod yX6_lock, Cond.selects RX6 yX6_lock yX6_lock]
def wsL_law_r13 : List Cond := [Cond.code yX6_lock cX6_lock 6 (some .int), Cond.methodLink RX6 111 yX6_isSpan, Cond.static yX6_isSpan, Cond.code yX6_isSpan cX6_isSpan 2 (some .boolean), Cond.methodLink RL 41 yX7_lock, Cond.instanceMethod yX7_lock, Cond.selects RX7 yX7_lock yX7_lock, Cond.code yX7_lock cX7_lock 5 (some .int), Cond.methodLink RL 42 yX6_weight, Cond.instanceMethod yX6_weight, Cond.selects RX6 yX6_weight yX6_weight, Cond.code yX6_weight cX6_weight 4 (some .int), Cond.constant RX6 114 (100000), Cond.instanceMethod yX0_load, Cond.selects RX0 yX0_load yX0_load, Cond.code yX0_load cX0_load 4 none, Cond.fieldLink RX0 7 "WheelSwing$Car" "total" "I", Cond.fieldLink RX0 13 "WheelSwing$Car" "place" "I", Cond.fieldLink RX0 16 "WheelSwing$Car" "right" "I", Cond.methodLink RL 45 yX7_weight, Cond.instanceMethod yX7_weight, Cond.selects RX7 yX7_weight yX7_weight, Cond.code yX7_weight cX7_weight 4 (some .int), Cond.constant RX7 119 (100000)]
def wsL_law_r14 : List Cond := [Cond.fieldLink RX7 120 "WheelSwingModel" "heavy" "I", Cond.fieldLink RX7 124 "WheelSwingModel" "place" "I", Cond.fieldLink RX7 127 "WheelSwingModel" "toRight" "I", Cond.methodLink RL 46 yX6_push, Cond.instanceMethod yX6_push, Cond.selects RX6 yX6_push yX6_push, Cond.code yX6_push cX6_push 3 (some .int), Cond.constant RX6 118 (-100000), Cond.instanceMethod yX0_lean, Cond.selects RX0 yX0_lean yX0_lean, Cond.code yX0_lean cX0_lean 3 none, Cond.fieldLink RX0 19 "WheelSwing$Car" "toRight" "I", Cond.fieldLink RX0 22 "WheelSwing$Car" "frontShare" "I", Cond.methodLink RL 49 yX7_push, Cond.instanceMethod yX7_push, Cond.selects RX7 yX7_push yX7_push, Cond.code yX7_push cX7_push 3 (some .int), Cond.constant RX7 130 (-100000), Cond.fieldLink RX7 131 "WheelSwingModel" "push" "I", Cond.fieldLink RX7 134 "WheelSwingModel" "share" "I", Cond.methodLink RL 50 yX6_carries, Cond.instanceMethod yX6_carries, Cond.selects RX6 yX6_carries yX6_carries, Cond.code yX6_carries cX6_carries 2 (some .int)]
def wsL_law_r15 : List Cond := [Cond.constant RX6 126 (-2000000), Cond.instanceMethod yX0_loadOf, Cond.selects RX0 yX0_loadOf yX0_loadOf, Cond.code yX0_loadOf cX0_loadOf 9 (some .int), Cond.methodLink RL 54 yX7_carries, Cond.instanceMethod yX7_carries, Cond.selects RX7 yX7_carries yX7_carries, Cond.code yX7_carries cX7_carries 6 (some .int), Cond.constant RX7 136 (-2000000), Cond.methodLink RL 55 yX6_shim, Cond.instanceMethod yX6_shim, Cond.selects RX6 yX6_shim yX6_shim, Cond.code yX6_shim cX6_shim 2 (some .int), Cond.instanceMethod yX4_add, Cond.selects RX4 yX4_add yX4_add, Cond.code yX4_add cX4_add 2 (some .int), Cond.methodLink RL 58 yX7_shim, Cond.instanceMethod yX7_shim, Cond.selects RX7 yX7_shim yX7_shim, Cond.code yX7_shim cX7_shim 2 (some .int), Cond.fieldLink RX7 137 "WheelSwingModel" "shims" "I", Cond.methodLink RL 59 yX6_best, Cond.instanceMethod yX6_best, Cond.selects RX6 yX6_best yX6_best]
def wsL_law_r16 : List Cond := [Cond.code yX6_best cX6_best 3 (some .int), Cond.instanceMethod yX4_nearestSet, Cond.selects RX4 yX4_nearestSet yX4_nearestSet, Cond.code yX4_nearestSet cX4_nearestSet 9 (some .int), Cond.methodLink RX4 28 Lib.Math.abs.name, Cond.static Lib.Math.abs.name, Cond.initialized "java/lang/Math", Cond.code Lib.Math.abs.name Lib.Math.abs.code 1 (some .int), Cond.methodLink RX4 19 yJ6_bitCount_0f7a4, Cond.static yJ6_bitCount_0f7a4, Cond.initialized RJ6, Cond.code yJ6_bitCount_0f7a4 cJ6_bitCount_0f7a4 1 (some .int), Cond.constant RJ6 265 (1431655765), Cond.constant RJ6 266 (858993459), Cond.constant RJ6 267 (252645135), Cond.methodLink RX4 25 yX4_sumOf, Cond.instanceMethod yX4_sumOf, Cond.selects RX4 yX4_sumOf yX4_sumOf, Cond.code yX4_sumOf cX4_sumOf 4 (some .int), Cond.methodLink RL 62 yX7_best, Cond.instanceMethod yX7_best, Cond.selects RX7 yX7_best yX7_best, Cond.code yX7_best cX7_best 10 (some .int), Cond.methodLink RL 63 yX6_reading]
def wsL_law_r17 : List Cond := [Cond.instanceMethod yX6_reading, Cond.selects RX6 yX6_reading yX6_reading, Cond.code yX6_reading cX6_reading 3 (some .int), Cond.instanceMethod yX3_add, Cond.selects RX3 yX3_add yX3_add, Cond.code yX3_add cX3_add 3 (some .int), Cond.methodLink RL 66 yX7_reading, Cond.instanceMethod yX7_reading, Cond.selects RX7 yX7_reading yX7_reading, Cond.code yX7_reading cX7_reading 3 (some .int), Cond.fieldLink RX7 140 "WheelSwingModel" "readings" "I", Cond.methodLink RL 67 yX6_clear, Cond.instanceMethod yX6_clear, Cond.selects RX6 yX6_clear yX6_clear, Cond.code yX6_clear cX6_clear 2 (some .int), Cond.methodLink RL 71 yX7_clear, Cond.instanceMethod yX7_clear, Cond.selects RX7 yX7_clear yX7_clear, Cond.code yX7_clear cX7_clear 2 (some .int), Cond.methodLink RL 72 yX6_off, Cond.instanceMethod yX6_off, Cond.selects RX6 yX6_off yX6_off, Cond.code yX6_off cX6_off 4 (some .long), Cond.methodLink RX6 139 yX6_howFarOff]
def wsL_law_r18 : List Cond := [Cond.instanceMethod yX6_howFarOff, Cond.selects RX6 yX6_howFarOff yX6_howFarOff, Cond.code yX6_howFarOff cX6_howFarOff 11 (some .double), Cond.constantDouble RX6 149 (13830554455654793216), Cond.constantDouble RX6 214 (4652007308841189376), Cond.methodLink RL 76 yX7_off, Cond.instanceMethod yX7_off, Cond.selects RX7 yX7_off yX7_off, Cond.code yX7_off cX7_off 2 (some .long), Cond.fieldLink RX7 143 "WheelSwingModel" "off" "D", Cond.methodLink RX7 146 yX7_isOff, Cond.instanceMethod yX7_isOff, Cond.selects RX7 yX7_isOff yX7_isOff, Cond.code yX7_isOff cX7_isOff 5 (some .boolean), Cond.methodLink RL 77 yX6_found, Cond.instanceMethod yX6_found, Cond.selects RX6 yX6_found yX6_found, Cond.code yX6_found cX6_found 12 (some .long), Cond.methodLink RL 80 yX7_found, Cond.instanceMethod yX7_found, Cond.selects RX7 yX7_found yX7_found, Cond.code yX7_found cX7_found 13 (some .long), Cond.methodLink RL 81 yX6_isClear, Cond.instanceMethod yX6_isClear]
def wsL_law_r19 : List Cond := [Cond.selects RX6 yX6_isClear yX6_isClear, Cond.code yX6_isClear cX6_isClear 9 (some .int), Cond.instanceMethod yX5_squareFrom, Cond.selects RX5 yX5_squareFrom yX5_squareFrom, Cond.code yX5_squareFrom cX5_squareFrom 10 (some .double), Cond.methodLink RL 85 yX7_isClear, Cond.instanceMethod yX7_isClear, Cond.selects RX7 yX7_isClear yX7_isClear, Cond.code yX7_isClear cX7_isClear 8 (some .int), Cond.methodLink RX7 149 yX7_isFree, Cond.instanceMethod yX7_isFree, Cond.selects RX7 yX7_isFree yX7_isFree, Cond.code yX7_isFree cX7_isFree 12 (some .boolean), Cond.methodLink RL 86 yX6_count, Cond.instanceMethod yX6_count, Cond.selects RX6 yX6_count yX6_count, Cond.code yX6_count cX6_count 2 (some .int), Cond.methodLink RL 89 yX7_count, Cond.instanceMethod yX7_count, Cond.selects RX7 yX7_count yX7_count, Cond.code yX7_count cX7_count 2 (some .int), Cond.methodLink RL 90 yX6_digest, Cond.instanceMethod yX6_digest, Cond.selects RX6 yX6_digest yX6_digest]
def wsL_law_r20 : List Cond := [Cond.code yX6_digest cX6_digest 4 (some .long), Cond.constantLong RX6 155 (229), Cond.methodLink RX6 157 yX6_mix, Cond.static yX6_mix, Cond.code yX6_mix cX6_mix 3 (some .long), Cond.constantLong RX6 167 (31), Cond.instanceMethod yX2_mixInto, Cond.selects RX2 yX2_mixInto yX2_mixInto, Cond.code yX2_mixInto cX2_mixInto 5 (some .long), Cond.instanceMethod yX4_mixInto, Cond.selects RX4 yX4_mixInto yX4_mixInto, Cond.code yX4_mixInto cX4_mixInto 6 (some .long), Cond.instanceMethod yX3_mixInto, Cond.selects RX3 yX3_mixInto yX3_mixInto, Cond.code yX3_mixInto cX3_mixInto 6 (some .long), Cond.methodLink RL 94 yX7_digest, Cond.instanceMethod yX7_digest, Cond.selects RX7 yX7_digest yX7_digest, Cond.code yX7_digest cX7_digest 4 (some .long), Cond.constantLong RX7 153 (31), Cond.constantLong RX7 155 (7099), Cond.methodLink RX7 157 yX7_carries]
def wsL_law : List Cond := (wsL_law_r1 ++ (wsL_law_r2 ++ (wsL_law_r3 ++ (wsL_law_r4 ++ (wsL_law_r5 ++ (wsL_law_r6 ++ (wsL_law_r7 ++ (wsL_law_r8 ++ (wsL_law_r9 ++ (wsL_law_r10 ++ (wsL_law_r11 ++ (wsL_law_r12 ++ (wsL_law_r13 ++ (wsL_law_r14 ++ (wsL_law_r15 ++ (wsL_law_r16 ++ (wsL_law_r17 ++ (wsL_law_r18 ++ (wsL_law_r19 ++ wsL_law_r20))))))))))))))))))) ++ wsX60 ++ wsX70 ++ wsX50 ++ wsX00 ++ wsX40 ++ wsX30 ++ wsX20 ++ ([] : List Cond)
end
section
set_option maxRecDepth 20000 in
theorem wsL_in_r1 : GoodIn lw_tbl wsL_law_r1 := goodIn_p wsL_law_r1 [51, 54] (by decide +kernel) (by decide +kernel)
set_option maxRecDepth 20000 in
theorem wsL_in_r2 : GoodIn lw_tbl wsL_law_r2 := goodIn_p wsL_law_r2 [61, 118, 140, 155] (by decide +kernel) (by decide +kernel)
set_option maxRecDepth 20000 in
theorem wsL_in_r3 : GoodIn lw_tbl wsL_law_r3 := goodIn_p wsL_law_r3 [173, 498] (by decide +kernel) (by decide +kernel)
set_option maxRecDepth 20000 in
theorem wsL_in_r4 : GoodIn lw_tbl wsL_law_r4 := goodIn_p wsL_law_r4 [503, 247, 250, 253, 256, 259] (by decide +kernel) (by decide +kernel)
set_option maxRecDepth 20000 in
theorem wsL_in_r5 : GoodIn lw_tbl wsL_law_r5 := goodIn_p wsL_law_r5 [262, 266, 270, 274, 574, 577, 580, 583] (by decide +kernel) (by decide +kernel)
set_option maxRecDepth 20000 in
theorem wsL_in_r6 : GoodIn lw_tbl wsL_law_r6 := goodIn_p wsL_law_r6 [586, 278, 282, 590, 286, 290, 594] (by decide +kernel) (by decide +kernel)
set_option maxRecDepth 20000 in
theorem wsL_in_r7 : GoodIn lw_tbl wsL_law_r7 := goodIn_p wsL_law_r7 [294, 298, 598, 307] (by decide +kernel) (by decide +kernel)
set_option maxRecDepth 20000 in
theorem wsL_in_r8 : GoodIn lw_tbl wsL_law_r8 := goodIn_p wsL_law_r8 [312, 316, 319, 324] (by decide +kernel) (by decide +kernel)
set_option maxRecDepth 20000 in
theorem wsL_in_r9 : GoodIn lw_tbl wsL_law_r9 := goodIn_p wsL_law_r9 [329, 336, 341, 348] (by decide +kernel) (by decide +kernel)
set_option maxRecDepth 20000 in
theorem wsL_in_r10 : GoodIn lw_tbl wsL_law_r10 := goodIn_p wsL_law_r10 [352, 356, 360, 364, 368, 602] (by decide +kernel) (by decide +kernel)
set_option maxRecDepth 20000 in
theorem wsL_in_r11 : GoodIn lw_tbl wsL_law_r11 := goodIn_p wsL_law_r11 [607, 611, 614, 623] (by decide +kernel) (by decide +kernel)
set_option maxRecDepth 20000 in
theorem wsL_in_r12 : GoodIn lw_tbl wsL_law_r12 := goodIn_p wsL_law_r12 [627, 633, 637, 641] (by decide +kernel) (by decide +kernel)
set_option maxRecDepth 20000 in
theorem wsL_in_r13 : GoodIn lw_tbl wsL_law_r13 := goodIn_p wsL_law_r13 [372, 375, 645, 379, 384, 649] (by decide +kernel) (by decide +kernel)
set_option maxRecDepth 20000 in
theorem wsL_in_r14 : GoodIn lw_tbl wsL_law_r14 := goodIn_p wsL_law_r14 [388, 393, 654, 397] (by decide +kernel) (by decide +kernel)
set_option maxRecDepth 20000 in
theorem wsL_in_r15 : GoodIn lw_tbl wsL_law_r15 := goodIn_p wsL_law_r15 [401, 659, 406, 410, 664] (by decide +kernel) (by decide +kernel)
set_option maxRecDepth 20000 in
theorem wsL_in_r16 : GoodIn lw_tbl wsL_law_r16 := goodIn_p wsL_law_r16 [414, 418, 431, 421, 428, 668] (by decide +kernel) (by decide +kernel)
set_option maxRecDepth 20000 in
theorem wsL_in_r17 : GoodIn lw_tbl wsL_law_r17 := goodIn_p wsL_law_r17 [435, 439, 672, 443, 676, 447] (by decide +kernel) (by decide +kernel)
set_option maxRecDepth 20000 in
theorem wsL_in_r18 : GoodIn lw_tbl wsL_law_r18 := goodIn_p wsL_law_r18 [451, 680, 684, 457, 688] (by decide +kernel) (by decide +kernel)
set_option maxRecDepth 20000 in
theorem wsL_in_r19 : GoodIn lw_tbl wsL_law_r19 := goodIn_p wsL_law_r19 [461, 465, 692, 696, 469, 700] (by decide +kernel) (by decide +kernel)
set_option maxRecDepth 20000 in
theorem wsL_in_r20 : GoodIn lw_tbl wsL_law_r20 := goodIn_p wsL_law_r20 [473, 477, 482, 487, 492, 704] (by decide +kernel) (by decide +kernel)
set_option maxRecDepth 20000 in
theorem wsL_in_X6 : GoodIn lw_tbl wsX60 := goodIn_p wsX60 [] (by decide +kernel) (by decide +kernel)
set_option maxRecDepth 20000 in
theorem wsL_in_X7 : GoodIn lw_tbl wsX70 := goodIn_p wsX70 [] (by decide +kernel) (by decide +kernel)
set_option maxRecDepth 20000 in
theorem wsL_in_X5 : GoodIn lw_tbl wsX50 := goodIn_p wsX50 [] (by decide +kernel) (by decide +kernel)
set_option maxRecDepth 20000 in
theorem wsL_in_X0 : GoodIn lw_tbl wsX00 := goodIn_p wsX00 [] (by decide +kernel) (by decide +kernel)
set_option maxRecDepth 20000 in
theorem wsL_in_X4 : GoodIn lw_tbl wsX40 := goodIn_p wsX40 [] (by decide +kernel) (by decide +kernel)
set_option maxRecDepth 20000 in
theorem wsL_in_X3 : GoodIn lw_tbl wsX30 := goodIn_p wsX30 [] (by decide +kernel) (by decide +kernel)
set_option maxRecDepth 20000 in
theorem wsL_in_X2 : GoodIn lw_tbl wsX20 := goodIn_p wsX20 [] (by decide +kernel) (by decide +kernel)
theorem wsL_law_in : ∀ w ∈ wsL_law, w ∈ lw_tbl := fun w h => ((goodIn_app (goodIn_app (goodIn_app (goodIn_app (goodIn_app (goodIn_app (goodIn_app (goodIn_app (goodIn_app wsL_in_r1 (goodIn_app wsL_in_r2 (goodIn_app wsL_in_r3 (goodIn_app wsL_in_r4 (goodIn_app wsL_in_r5 (goodIn_app wsL_in_r6 (goodIn_app wsL_in_r7 (goodIn_app wsL_in_r8 (goodIn_app wsL_in_r9 (goodIn_app wsL_in_r10 (goodIn_app wsL_in_r11 (goodIn_app wsL_in_r12 (goodIn_app wsL_in_r13 (goodIn_app wsL_in_r14 (goodIn_app wsL_in_r15 (goodIn_app wsL_in_r16 (goodIn_app wsL_in_r17 (goodIn_app wsL_in_r18 (goodIn_app wsL_in_r19 (wsL_in_r20)))))))))))))))))))) wsL_in_X6) wsL_in_X7) wsL_in_X5) wsL_in_X0) wsL_in_X4) wsL_in_X3) wsL_in_X2) (fun _ h => absurd h List.not_mem_nil)) w h).1
theorem inlX0 : ∀ w ∈ wsX00, w ∈ wsL_law := fun _ h => List.mem_append_left _ (List.mem_append_left _ (List.mem_append_left _ (List.mem_append_left _ (List.mem_append_right _ h))))
theorem inX0 : ∀ w ∈ wsX00, w ∈ lw_tbl := fun w h => wsL_law_in w (inlX0 w h)
theorem inX1 : ∀ w ∈ wsX10, w ∈ lw_tbl := by decide +kernel
theorem inlX2 : ∀ w ∈ wsX20, w ∈ wsL_law := fun _ h => List.mem_append_left _ (List.mem_append_right _ h)
theorem inX2 : ∀ w ∈ wsX20, w ∈ lw_tbl := fun w h => wsL_law_in w (inlX2 w h)
theorem inlX3 : ∀ w ∈ wsX30, w ∈ wsL_law := fun _ h => List.mem_append_left _ (List.mem_append_left _ (List.mem_append_right _ h))
theorem inX3 : ∀ w ∈ wsX30, w ∈ lw_tbl := fun w h => wsL_law_in w (inlX3 w h)
theorem inlX4 : ∀ w ∈ wsX40, w ∈ wsL_law := fun _ h => List.mem_append_left _ (List.mem_append_left _ (List.mem_append_left _ (List.mem_append_right _ h)))
theorem inX4 : ∀ w ∈ wsX40, w ∈ lw_tbl := fun w h => wsL_law_in w (inlX4 w h)
theorem inlX5 : ∀ w ∈ wsX50, w ∈ wsL_law := fun _ h => List.mem_append_left _ (List.mem_append_left _ (List.mem_append_left _ (List.mem_append_left _ (List.mem_append_left _ (List.mem_append_right _ h)))))
theorem inX5 : ∀ w ∈ wsX50, w ∈ lw_tbl := fun w h => wsL_law_in w (inlX5 w h)
theorem inlX6 : ∀ w ∈ wsX60, w ∈ wsL_law := fun _ h => List.mem_append_left _ (List.mem_append_left _ (List.mem_append_left _ (List.mem_append_left _ (List.mem_append_left _ (List.mem_append_left _ (List.mem_append_left _ (List.mem_append_right _ h)))))))
theorem inX6 : ∀ w ∈ wsX60, w ∈ lw_tbl := fun w h => wsL_law_in w (inlX6 w h)
theorem inlX7 : ∀ w ∈ wsX70, w ∈ wsL_law := fun _ h => List.mem_append_left _ (List.mem_append_left _ (List.mem_append_left _ (List.mem_append_left _ (List.mem_append_left _ (List.mem_append_left _ (List.mem_append_right _ h))))))
theorem inX7 : ∀ w ∈ wsX70, w ∈ lw_tbl := fun w h => wsL_law_in w (inlX7 w h)
theorem inJ6 : ∀ w ∈ wsJ60, w ∈ lw_tbl := by decide +kernel
theorem inJ9 : ∀ w ∈ wsJ90, w ∈ lw_tbl := by decide +kernel
end
section
theorem dX0_init_0 : decode cX0_init 0 = .ok (.aload_n 0, 1) := by decide +kernel
theorem dX0_init_1 : decode cX0_init 1 = .ok (.invokespecial 1, 3) := by decide +kernel
theorem dX0_init_4 : decode cX0_init 4 = .ok (.return_, 1) := by decide +kernel
theorem dX0_load_0 : decode cX0_load 0 = .ok (.aload_n 0, 1) := by decide +kernel
theorem dX0_load_1 : decode cX0_load 1 = .ok (.iload_n 1, 1) := by decide +kernel
theorem dX0_load_2 : decode cX0_load 2 = .ok (.putfield 7, 3) := by decide +kernel
theorem dX0_load_5 : decode cX0_load 5 = .ok (.aload_n 0, 1) := by decide +kernel
theorem dX0_load_6 : decode cX0_load 6 = .ok (.iload_n 2, 1) := by decide +kernel
theorem dX0_load_7 : decode cX0_load 7 = .ok (.putfield 13, 3) := by decide +kernel
theorem dX0_load_10 : decode cX0_load 10 = .ok (.aload_n 0, 1) := by decide +kernel
theorem dX0_load_11 : decode cX0_load 11 = .ok (.iload_n 3, 1) := by decide +kernel
theorem dX0_load_12 : decode cX0_load 12 = .ok (.putfield 16, 3) := by decide +kernel
theorem dX0_load_15 : decode cX0_load 15 = .ok (.return_, 1) := by decide +kernel
theorem dX0_lean_0 : decode cX0_lean 0 = .ok (.aload_n 0, 1) := by decide +kernel
theorem dX0_lean_1 : decode cX0_lean 1 = .ok (.iload_n 1, 1) := by decide +kernel
theorem dX0_lean_2 : decode cX0_lean 2 = .ok (.putfield 19, 3) := by decide +kernel
theorem dX0_lean_5 : decode cX0_lean 5 = .ok (.aload_n 0, 1) := by decide +kernel
theorem dX0_lean_6 : decode cX0_lean 6 = .ok (.iload_n 2, 1) := by decide +kernel
theorem dX0_lean_7 : decode cX0_lean 7 = .ok (.putfield 22, 3) := by decide +kernel
theorem dX0_lean_10 : decode cX0_lean 10 = .ok (.return_, 1) := by decide +kernel
theorem dX0_loadOf_0 : decode cX0_loadOf 0 = .ok (.iload_n 1, 1) := by decide +kernel
theorem dX0_loadOf_1 : decode cX0_loadOf 1 = .ok (.iconst 2, 1) := by decide +kernel
theorem dX0_loadOf_2 : decode cX0_loadOf 2 = .ok (.if_icmp .ge 7, 3) := by decide +kernel
theorem dX0_loadOf_5 : decode cX0_loadOf 5 = .ok (.iconst 1, 1) := by decide +kernel
theorem dX0_loadOf_6 : decode cX0_loadOf 6 = .ok (.goto 4, 3) := by decide +kernel
theorem dX0_loadOf_9 : decode cX0_loadOf 9 = .ok (.iconst 0, 1) := by decide +kernel
theorem dX0_loadOf_10 : decode cX0_loadOf 10 = .ok (.istore_n 2, 1) := by decide +kernel
theorem dX0_loadOf_11 : decode cX0_loadOf 11 = .ok (.aload_n 0, 1) := by decide +kernel
theorem dX0_loadOf_12 : decode cX0_loadOf 12 = .ok (.getfield 7, 3) := by decide +kernel
theorem dX0_loadOf_15 : decode cX0_loadOf 15 = .ok (.aload_n 0, 1) := by decide +kernel
theorem dX0_loadOf_16 : decode cX0_loadOf 16 = .ok (.getfield 13, 3) := by decide +kernel
theorem dX0_loadOf_19 : decode cX0_loadOf 19 = .ok (.imul, 1) := by decide +kernel
theorem dX0_loadOf_20 : decode cX0_loadOf 20 = .ok (.sipush 1000, 3) := by decide +kernel
theorem dX0_loadOf_23 : decode cX0_loadOf 23 = .ok (.idiv, 1) := by decide +kernel
theorem dX0_loadOf_24 : decode cX0_loadOf 24 = .ok (.istore_n 3, 1) := by decide +kernel
theorem dX0_loadOf_25 : decode cX0_loadOf 25 = .ok (.iload_n 2, 1) := by decide +kernel
theorem dX0_loadOf_26 : decode cX0_loadOf 26 = .ok (.ifCond .eq 12, 3) := by decide +kernel
theorem dX0_loadOf_29 : decode cX0_loadOf 29 = .ok (.aload_n 0, 1) := by decide +kernel
theorem dX0_loadOf_30 : decode cX0_loadOf 30 = .ok (.getfield 7, 3) := by decide +kernel
theorem dX0_loadOf_33 : decode cX0_loadOf 33 = .ok (.iload_n 3, 1) := by decide +kernel
theorem dX0_loadOf_34 : decode cX0_loadOf 34 = .ok (.isub, 1) := by decide +kernel
theorem dX0_loadOf_35 : decode cX0_loadOf 35 = .ok (.goto 4, 3) := by decide +kernel
theorem dX0_loadOf_38 : decode cX0_loadOf 38 = .ok (.iload_n 3, 1) := by decide +kernel
theorem dX0_loadOf_39 : decode cX0_loadOf 39 = .ok (.istore 4, 2) := by decide +kernel
theorem dX0_loadOf_41 : decode cX0_loadOf 41 = .ok (.aload_n 0, 1) := by decide +kernel
theorem dX0_loadOf_42 : decode cX0_loadOf 42 = .ok (.getfield 19, 3) := by decide +kernel
theorem dX0_loadOf_45 : decode cX0_loadOf 45 = .ok (.aload_n 0, 1) := by decide +kernel
theorem dX0_loadOf_46 : decode cX0_loadOf 46 = .ok (.getfield 22, 3) := by decide +kernel
theorem dX0_loadOf_49 : decode cX0_loadOf 49 = .ok (.imul, 1) := by decide +kernel
theorem dX0_loadOf_50 : decode cX0_loadOf 50 = .ok (.sipush 1000, 3) := by decide +kernel
theorem dX0_loadOf_53 : decode cX0_loadOf 53 = .ok (.idiv, 1) := by decide +kernel
theorem dX0_loadOf_54 : decode cX0_loadOf 54 = .ok (.istore 5, 2) := by decide +kernel
theorem dX0_loadOf_56 : decode cX0_loadOf 56 = .ok (.iload_n 2, 1) := by decide +kernel
theorem dX0_loadOf_57 : decode cX0_loadOf 57 = .ok (.ifCond .eq 8, 3) := by decide +kernel
theorem dX0_loadOf_60 : decode cX0_loadOf 60 = .ok (.iload 5, 2) := by decide +kernel
theorem dX0_loadOf_62 : decode cX0_loadOf 62 = .ok (.goto 10, 3) := by decide +kernel
theorem dX0_loadOf_65 : decode cX0_loadOf 65 = .ok (.aload_n 0, 1) := by decide +kernel
theorem dX0_loadOf_66 : decode cX0_loadOf 66 = .ok (.getfield 19, 3) := by decide +kernel
theorem dX0_loadOf_69 : decode cX0_loadOf 69 = .ok (.iload 5, 2) := by decide +kernel
theorem dX0_loadOf_71 : decode cX0_loadOf 71 = .ok (.isub, 1) := by decide +kernel
theorem dX0_loadOf_72 : decode cX0_loadOf 72 = .ok (.istore 6, 2) := by decide +kernel
theorem dX0_loadOf_74 : decode cX0_loadOf 74 = .ok (.iload 4, 2) := by decide +kernel
theorem dX0_loadOf_76 : decode cX0_loadOf 76 = .ok (.sipush 500, 3) := by decide +kernel
theorem dX0_loadOf_79 : decode cX0_loadOf 79 = .ok (.aload_n 0, 1) := by decide +kernel
theorem dX0_loadOf_80 : decode cX0_loadOf 80 = .ok (.getfield 16, 3) := by decide +kernel
theorem dX0_loadOf_83 : decode cX0_loadOf 83 = .ok (.iadd, 1) := by decide +kernel
theorem dX0_loadOf_84 : decode cX0_loadOf 84 = .ok (.imul, 1) := by decide +kernel
theorem dX0_loadOf_85 : decode cX0_loadOf 85 = .ok (.sipush 1000, 3) := by decide +kernel
theorem dX0_loadOf_88 : decode cX0_loadOf 88 = .ok (.idiv, 1) := by decide +kernel
theorem dX0_loadOf_89 : decode cX0_loadOf 89 = .ok (.iload 6, 2) := by decide +kernel
theorem dX0_loadOf_91 : decode cX0_loadOf 91 = .ok (.iadd, 1) := by decide +kernel
theorem dX0_loadOf_92 : decode cX0_loadOf 92 = .ok (.istore 7, 2) := by decide +kernel
theorem dX0_loadOf_94 : decode cX0_loadOf 94 = .ok (.iload_n 1, 1) := by decide +kernel
theorem dX0_loadOf_95 : decode cX0_loadOf 95 = .ok (.iconst 1, 1) := by decide +kernel
theorem dX0_loadOf_96 : decode cX0_loadOf 96 = .ok (.iand, 1) := by decide +kernel
theorem dX0_loadOf_97 : decode cX0_loadOf 97 = .ok (.iconst 1, 1) := by decide +kernel
theorem dX0_loadOf_98 : decode cX0_loadOf 98 = .ok (.if_icmp .ne 7, 3) := by decide +kernel
theorem dX0_loadOf_101 : decode cX0_loadOf 101 = .ok (.iconst 1, 1) := by decide +kernel
theorem dX0_loadOf_102 : decode cX0_loadOf 102 = .ok (.goto 4, 3) := by decide +kernel
theorem dX0_loadOf_105 : decode cX0_loadOf 105 = .ok (.iconst 0, 1) := by decide +kernel
theorem dX0_loadOf_106 : decode cX0_loadOf 106 = .ok (.istore 8, 2) := by decide +kernel
theorem dX0_loadOf_108 : decode cX0_loadOf 108 = .ok (.iload 8, 2) := by decide +kernel
theorem dX0_loadOf_110 : decode cX0_loadOf 110 = .ok (.ifCond .eq 8, 3) := by decide +kernel
theorem dX0_loadOf_113 : decode cX0_loadOf 113 = .ok (.iload 7, 2) := by decide +kernel
theorem dX0_loadOf_115 : decode cX0_loadOf 115 = .ok (.goto 8, 3) := by decide +kernel
theorem dX0_loadOf_118 : decode cX0_loadOf 118 = .ok (.iload 4, 2) := by decide +kernel
theorem dX0_loadOf_120 : decode cX0_loadOf 120 = .ok (.iload 7, 2) := by decide +kernel
theorem dX0_loadOf_122 : decode cX0_loadOf 122 = .ok (.isub, 1) := by decide +kernel
theorem dX0_loadOf_123 : decode cX0_loadOf 123 = .ok (.ireturn, 1) := by decide +kernel
set_option maxRecDepth 20000 in
theorem ggX1_squareRoot_X1_rootOfPart : GoodIn wsX1_squareRoot wsX1_rootOfPart := goodIn_r _ [6, 2, 7, 8, 9, 10, 5, 11, 12] (by decide +kernel) (by decide +kernel)
set_option maxRecDepth 20000 in
theorem gX1_squareRoot_X1_rootOfPart : GoodIn wsX1_squareRoot (va_wsS RX1 13 yX1_rootOfPart wsX1_rootOfPart) := goodIn_app (goodIn_of _ (by decide +kernel)) ggX1_squareRoot_X1_rootOfPart
theorem dX1_squareRoot_0 : decode cX1_squareRoot 0 = .ok (.dload_n 0, 1) := by decide +kernel
theorem dX1_squareRoot_1 : decode cX1_squareRoot 1 = .ok (.dconst 0, 1) := by decide +kernel
theorem dX1_squareRoot_2 : decode cX1_squareRoot 2 = .ok (.dcmp .g, 1) := by decide +kernel
theorem dX1_squareRoot_3 : decode cX1_squareRoot 3 = .ok (.ifCond .gt 5, 3) := by decide +kernel
theorem dX1_squareRoot_6 : decode cX1_squareRoot 6 = .ok (.dconst 0, 1) := by decide +kernel
theorem dX1_squareRoot_7 : decode cX1_squareRoot 7 = .ok (.dreturn, 1) := by decide +kernel
theorem dX1_squareRoot_8 : decode cX1_squareRoot 8 = .ok (.dload_n 0, 1) := by decide +kernel
theorem dX1_squareRoot_9 : decode cX1_squareRoot 9 = .ok (.dstore_n 2, 1) := by decide +kernel
theorem dX1_squareRoot_10 : decode cX1_squareRoot 10 = .ok (.dconst 1, 1) := by decide +kernel
theorem dX1_squareRoot_11 : decode cX1_squareRoot 11 = .ok (.dstore 4, 2) := by decide +kernel
theorem dX1_squareRoot_13 : decode cX1_squareRoot 13 = .ok (.iconst 0, 1) := by decide +kernel
theorem dX1_squareRoot_14 : decode cX1_squareRoot 14 = .ok (.istore 6, 2) := by decide +kernel
theorem dX1_squareRoot_16 : decode cX1_squareRoot 16 = .ok (.iload 6, 2) := by decide +kernel
theorem dX1_squareRoot_18 : decode cX1_squareRoot 18 = .ok (.sipush 1100, 3) := by decide +kernel
theorem dX1_squareRoot_21 : decode cX1_squareRoot 21 = .ok (.if_icmp .ge 31, 3) := by decide +kernel
theorem dX1_squareRoot_24 : decode cX1_squareRoot 24 = .ok (.dload_n 2, 1) := by decide +kernel
theorem dX1_squareRoot_25 : decode cX1_squareRoot 25 = .ok (.ldc2_w 9, 3) := by decide +kernel
theorem dX1_squareRoot_28 : decode cX1_squareRoot 28 = .ok (.dcmp .l, 1) := by decide +kernel
theorem dX1_squareRoot_29 : decode cX1_squareRoot 29 = .ok (.ifCond .lt 23, 3) := by decide +kernel
theorem dX1_squareRoot_32 : decode cX1_squareRoot 32 = .ok (.dload_n 2, 1) := by decide +kernel
theorem dX1_squareRoot_33 : decode cX1_squareRoot 33 = .ok (.ldc2_w 9, 3) := by decide +kernel
theorem dX1_squareRoot_36 : decode cX1_squareRoot 36 = .ok (.ddiv, 1) := by decide +kernel
theorem dX1_squareRoot_37 : decode cX1_squareRoot 37 = .ok (.dstore_n 2, 1) := by decide +kernel
theorem dX1_squareRoot_38 : decode cX1_squareRoot 38 = .ok (.dload 4, 2) := by decide +kernel
theorem dX1_squareRoot_40 : decode cX1_squareRoot 40 = .ok (.ldc2_w 11, 3) := by decide +kernel
theorem dX1_squareRoot_43 : decode cX1_squareRoot 43 = .ok (.dmul, 1) := by decide +kernel
theorem dX1_squareRoot_44 : decode cX1_squareRoot 44 = .ok (.dstore 4, 2) := by decide +kernel
theorem dX1_squareRoot_46 : decode cX1_squareRoot 46 = .ok (.iinc 6 1, 3) := by decide +kernel
theorem dX1_squareRoot_49 : decode cX1_squareRoot 49 = .ok (.goto (-33), 3) := by decide +kernel
theorem dX1_squareRoot_52 : decode cX1_squareRoot 52 = .ok (.iconst 0, 1) := by decide +kernel
theorem dX1_squareRoot_53 : decode cX1_squareRoot 53 = .ok (.istore 6, 2) := by decide +kernel
theorem dX1_squareRoot_55 : decode cX1_squareRoot 55 = .ok (.iload 6, 2) := by decide +kernel
theorem dX1_squareRoot_57 : decode cX1_squareRoot 57 = .ok (.sipush 1100, 3) := by decide +kernel
theorem dX1_squareRoot_60 : decode cX1_squareRoot 60 = .ok (.if_icmp .ge 29, 3) := by decide +kernel
theorem dX1_squareRoot_63 : decode cX1_squareRoot 63 = .ok (.dload_n 2, 1) := by decide +kernel
theorem dX1_squareRoot_64 : decode cX1_squareRoot 64 = .ok (.dconst 1, 1) := by decide +kernel
theorem dX1_squareRoot_65 : decode cX1_squareRoot 65 = .ok (.dcmp .g, 1) := by decide +kernel
theorem dX1_squareRoot_66 : decode cX1_squareRoot 66 = .ok (.ifCond .ge 23, 3) := by decide +kernel
theorem dX1_squareRoot_69 : decode cX1_squareRoot 69 = .ok (.dload_n 2, 1) := by decide +kernel
theorem dX1_squareRoot_70 : decode cX1_squareRoot 70 = .ok (.ldc2_w 9, 3) := by decide +kernel
theorem dX1_squareRoot_73 : decode cX1_squareRoot 73 = .ok (.dmul, 1) := by decide +kernel
theorem dX1_squareRoot_74 : decode cX1_squareRoot 74 = .ok (.dstore_n 2, 1) := by decide +kernel
theorem dX1_squareRoot_75 : decode cX1_squareRoot 75 = .ok (.dload 4, 2) := by decide +kernel
theorem dX1_squareRoot_77 : decode cX1_squareRoot 77 = .ok (.ldc2_w 11, 3) := by decide +kernel
theorem dX1_squareRoot_80 : decode cX1_squareRoot 80 = .ok (.ddiv, 1) := by decide +kernel
theorem dX1_squareRoot_81 : decode cX1_squareRoot 81 = .ok (.dstore 4, 2) := by decide +kernel
theorem dX1_squareRoot_83 : decode cX1_squareRoot 83 = .ok (.iinc 6 1, 3) := by decide +kernel
theorem dX1_squareRoot_86 : decode cX1_squareRoot 86 = .ok (.goto (-31), 3) := by decide +kernel
theorem dX1_squareRoot_89 : decode cX1_squareRoot 89 = .ok (.dload_n 2, 1) := by decide +kernel
theorem dX1_squareRoot_90 : decode cX1_squareRoot 90 = .ok (.invokestatic 13, 3) := by decide +kernel
theorem dX1_squareRoot_93 : decode cX1_squareRoot 93 = .ok (.dload 4, 2) := by decide +kernel
theorem dX1_squareRoot_95 : decode cX1_squareRoot 95 = .ok (.dmul, 1) := by decide +kernel
theorem dX1_squareRoot_96 : decode cX1_squareRoot 96 = .ok (.dreturn, 1) := by decide +kernel
set_option maxRecDepth 20000 in
theorem ggX1_rootOfPart_X1_roundedRoot : GoodIn wsX1_rootOfPart wsX1_roundedRoot := goodIn_r _ [7, 8] (by decide +kernel) (by decide +kernel)
set_option maxRecDepth 20000 in
theorem gX1_rootOfPart_X1_roundedRoot : GoodIn wsX1_rootOfPart (va_wsS RX1 21 yX1_roundedRoot wsX1_roundedRoot) := goodIn_app (goodIn_of _ (by decide +kernel)) ggX1_rootOfPart_X1_roundedRoot
theorem dX1_rootOfPart_0 : decode cX1_rootOfPart 0 = .ok (.dload_n 0, 1) := by decide +kernel
theorem dX1_rootOfPart_1 : decode cX1_rootOfPart 1 = .ok (.ldc2_w 11, 3) := by decide +kernel
theorem dX1_rootOfPart_4 : decode cX1_rootOfPart 4 = .ok (.dadd, 1) := by decide +kernel
theorem dX1_rootOfPart_5 : decode cX1_rootOfPart 5 = .ok (.ldc2_w 17, 3) := by decide +kernel
theorem dX1_rootOfPart_8 : decode cX1_rootOfPart 8 = .ok (.ddiv, 1) := by decide +kernel
theorem dX1_rootOfPart_9 : decode cX1_rootOfPart 9 = .ok (.dstore_n 2, 1) := by decide +kernel
theorem dX1_rootOfPart_10 : decode cX1_rootOfPart 10 = .ok (.iconst 0, 1) := by decide +kernel
theorem dX1_rootOfPart_11 : decode cX1_rootOfPart 11 = .ok (.istore 4, 2) := by decide +kernel
theorem dX1_rootOfPart_13 : decode cX1_rootOfPart 13 = .ok (.iload 4, 2) := by decide +kernel
theorem dX1_rootOfPart_15 : decode cX1_rootOfPart 15 = .ok (.iconst 4, 1) := by decide +kernel
theorem dX1_rootOfPart_16 : decode cX1_rootOfPart 16 = .ok (.if_icmp .ge 19, 3) := by decide +kernel
theorem dX1_rootOfPart_19 : decode cX1_rootOfPart 19 = .ok (.dload_n 2, 1) := by decide +kernel
theorem dX1_rootOfPart_20 : decode cX1_rootOfPart 20 = .ok (.dload_n 0, 1) := by decide +kernel
theorem dX1_rootOfPart_21 : decode cX1_rootOfPart 21 = .ok (.dload_n 2, 1) := by decide +kernel
theorem dX1_rootOfPart_22 : decode cX1_rootOfPart 22 = .ok (.ddiv, 1) := by decide +kernel
theorem dX1_rootOfPart_23 : decode cX1_rootOfPart 23 = .ok (.dadd, 1) := by decide +kernel
theorem dX1_rootOfPart_24 : decode cX1_rootOfPart 24 = .ok (.ldc2_w 11, 3) := by decide +kernel
theorem dX1_rootOfPart_27 : decode cX1_rootOfPart 27 = .ok (.ddiv, 1) := by decide +kernel
theorem dX1_rootOfPart_28 : decode cX1_rootOfPart 28 = .ok (.dstore_n 2, 1) := by decide +kernel
theorem dX1_rootOfPart_29 : decode cX1_rootOfPart 29 = .ok (.iinc 4 1, 3) := by decide +kernel
theorem dX1_rootOfPart_32 : decode cX1_rootOfPart 32 = .ok (.goto (-19), 3) := by decide +kernel
theorem dX1_rootOfPart_35 : decode cX1_rootOfPart 35 = .ok (.dload_n 0, 1) := by decide +kernel
theorem dX1_rootOfPart_36 : decode cX1_rootOfPart 36 = .ok (.ldc2_w 19, 3) := by decide +kernel
theorem dX1_rootOfPart_39 : decode cX1_rootOfPart 39 = .ok (.dmul, 1) := by decide +kernel
theorem dX1_rootOfPart_40 : decode cX1_rootOfPart 40 = .ok (.d2l, 1) := by decide +kernel
theorem dX1_rootOfPart_41 : decode cX1_rootOfPart 41 = .ok (.dload_n 2, 1) := by decide +kernel
theorem dX1_rootOfPart_42 : decode cX1_rootOfPart 42 = .ok (.ldc2_w 19, 3) := by decide +kernel
theorem dX1_rootOfPart_45 : decode cX1_rootOfPart 45 = .ok (.dmul, 1) := by decide +kernel
theorem dX1_rootOfPart_46 : decode cX1_rootOfPart 46 = .ok (.d2l, 1) := by decide +kernel
theorem dX1_rootOfPart_47 : decode cX1_rootOfPart 47 = .ok (.invokestatic 21, 3) := by decide +kernel
theorem dX1_rootOfPart_50 : decode cX1_rootOfPart 50 = .ok (.lstore 4, 2) := by decide +kernel
theorem dX1_rootOfPart_52 : decode cX1_rootOfPart 52 = .ok (.lload 4, 2) := by decide +kernel
theorem dX1_rootOfPart_54 : decode cX1_rootOfPart 54 = .ok (.l2d, 1) := by decide +kernel
theorem dX1_rootOfPart_55 : decode cX1_rootOfPart 55 = .ok (.ldc2_w 19, 3) := by decide +kernel
theorem dX1_rootOfPart_58 : decode cX1_rootOfPart 58 = .ok (.ddiv, 1) := by decide +kernel
theorem dX1_rootOfPart_59 : decode cX1_rootOfPart 59 = .ok (.dreturn, 1) := by decide +kernel
theorem dX1_roundedRoot_0 : decode cX1_roundedRoot 0 = .ok (.lload_n 2, 1) := by decide +kernel
theorem dX1_roundedRoot_1 : decode cX1_roundedRoot 1 = .ok (.lstore 4, 2) := by decide +kernel
theorem dX1_roundedRoot_3 : decode cX1_roundedRoot 3 = .ok (.lload_n 0, 1) := by decide +kernel
theorem dX1_roundedRoot_4 : decode cX1_roundedRoot 4 = .ok (.bipush 52, 2) := by decide +kernel
theorem dX1_roundedRoot_6 : decode cX1_roundedRoot 6 = .ok (.lshl, 1) := by decide +kernel
theorem dX1_roundedRoot_7 : decode cX1_roundedRoot 7 = .ok (.lload 4, 2) := by decide +kernel
theorem dX1_roundedRoot_9 : decode cX1_roundedRoot 9 = .ok (.lload 4, 2) := by decide +kernel
theorem dX1_roundedRoot_11 : decode cX1_roundedRoot 11 = .ok (.lmul, 1) := by decide +kernel
theorem dX1_roundedRoot_12 : decode cX1_roundedRoot 12 = .ok (.lsub, 1) := by decide +kernel
theorem dX1_roundedRoot_13 : decode cX1_roundedRoot 13 = .ok (.lstore 6, 2) := by decide +kernel
theorem dX1_roundedRoot_15 : decode cX1_roundedRoot 15 = .ok (.iconst 0, 1) := by decide +kernel
theorem dX1_roundedRoot_16 : decode cX1_roundedRoot 16 = .ok (.istore 8, 2) := by decide +kernel
theorem dX1_roundedRoot_18 : decode cX1_roundedRoot 18 = .ok (.iload 8, 2) := by decide +kernel
theorem dX1_roundedRoot_20 : decode cX1_roundedRoot 20 = .ok (.bipush 16, 2) := by decide +kernel
theorem dX1_roundedRoot_22 : decode cX1_roundedRoot 22 = .ok (.if_icmp .ge 35, 3) := by decide +kernel
theorem dX1_roundedRoot_25 : decode cX1_roundedRoot 25 = .ok (.lload 6, 2) := by decide +kernel
theorem dX1_roundedRoot_27 : decode cX1_roundedRoot 27 = .ok (.lconst 0, 1) := by decide +kernel
theorem dX1_roundedRoot_28 : decode cX1_roundedRoot 28 = .ok (.lcmp, 1) := by decide +kernel
theorem dX1_roundedRoot_29 : decode cX1_roundedRoot 29 = .ok (.ifCond .ge 28, 3) := by decide +kernel
theorem dX1_roundedRoot_32 : decode cX1_roundedRoot 32 = .ok (.lload 4, 2) := by decide +kernel
theorem dX1_roundedRoot_34 : decode cX1_roundedRoot 34 = .ok (.lconst 1, 1) := by decide +kernel
theorem dX1_roundedRoot_35 : decode cX1_roundedRoot 35 = .ok (.lsub, 1) := by decide +kernel
theorem dX1_roundedRoot_36 : decode cX1_roundedRoot 36 = .ok (.lstore 4, 2) := by decide +kernel
theorem dX1_roundedRoot_38 : decode cX1_roundedRoot 38 = .ok (.lload 6, 2) := by decide +kernel
theorem dX1_roundedRoot_40 : decode cX1_roundedRoot 40 = .ok (.ldc2_w 25, 3) := by decide +kernel
theorem dX1_roundedRoot_43 : decode cX1_roundedRoot 43 = .ok (.lload 4, 2) := by decide +kernel
theorem dX1_roundedRoot_45 : decode cX1_roundedRoot 45 = .ok (.lmul, 1) := by decide +kernel
theorem dX1_roundedRoot_46 : decode cX1_roundedRoot 46 = .ok (.lconst 1, 1) := by decide +kernel
theorem dX1_roundedRoot_47 : decode cX1_roundedRoot 47 = .ok (.ladd, 1) := by decide +kernel
theorem dX1_roundedRoot_48 : decode cX1_roundedRoot 48 = .ok (.ladd, 1) := by decide +kernel
theorem dX1_roundedRoot_49 : decode cX1_roundedRoot 49 = .ok (.lstore 6, 2) := by decide +kernel
theorem dX1_roundedRoot_51 : decode cX1_roundedRoot 51 = .ok (.iinc 8 1, 3) := by decide +kernel
theorem dX1_roundedRoot_54 : decode cX1_roundedRoot 54 = .ok (.goto (-36), 3) := by decide +kernel
theorem dX1_roundedRoot_57 : decode cX1_roundedRoot 57 = .ok (.lload 6, 2) := by decide +kernel
theorem dX1_roundedRoot_59 : decode cX1_roundedRoot 59 = .ok (.lload 4, 2) := by decide +kernel
theorem dX1_roundedRoot_61 : decode cX1_roundedRoot 61 = .ok (.lcmp, 1) := by decide +kernel
theorem dX1_roundedRoot_62 : decode cX1_roundedRoot 62 = .ok (.ifCond .le 10, 3) := by decide +kernel
theorem dX1_roundedRoot_65 : decode cX1_roundedRoot 65 = .ok (.lload 4, 2) := by decide +kernel
theorem dX1_roundedRoot_67 : decode cX1_roundedRoot 67 = .ok (.lconst 1, 1) := by decide +kernel
theorem dX1_roundedRoot_68 : decode cX1_roundedRoot 68 = .ok (.ladd, 1) := by decide +kernel
theorem dX1_roundedRoot_69 : decode cX1_roundedRoot 69 = .ok (.goto 5, 3) := by decide +kernel
theorem dX1_roundedRoot_72 : decode cX1_roundedRoot 72 = .ok (.lload 4, 2) := by decide +kernel
theorem dX1_roundedRoot_74 : decode cX1_roundedRoot 74 = .ok (.lreturn, 1) := by decide +kernel
theorem dX1_bits_0 : decode cX1_bits 0 = .ok (.dload_n 0, 1) := by decide +kernel
theorem dX1_bits_1 : decode cX1_bits 1 = .ok (.dconst 0, 1) := by decide +kernel
theorem dX1_bits_2 : decode cX1_bits 2 = .ok (.dcmp .l, 1) := by decide +kernel
theorem dX1_bits_3 : decode cX1_bits 3 = .ok (.ifCond .ne 19, 3) := by decide +kernel
theorem dX1_bits_6 : decode cX1_bits 6 = .ok (.dconst 1, 1) := by decide +kernel
theorem dX1_bits_7 : decode cX1_bits 7 = .ok (.dload_n 0, 1) := by decide +kernel
theorem dX1_bits_8 : decode cX1_bits 8 = .ok (.ddiv, 1) := by decide +kernel
theorem dX1_bits_9 : decode cX1_bits 9 = .ok (.dconst 0, 1) := by decide +kernel
theorem dX1_bits_10 : decode cX1_bits 10 = .ok (.dcmp .g, 1) := by decide +kernel
theorem dX1_bits_11 : decode cX1_bits 11 = .ok (.ifCond .ge 9, 3) := by decide +kernel
theorem dX1_bits_14 : decode cX1_bits 14 = .ok (.ldc2_w 27, 3) := by decide +kernel
theorem dX1_bits_17 : decode cX1_bits 17 = .ok (.goto 4, 3) := by decide +kernel
theorem dX1_bits_20 : decode cX1_bits 20 = .ok (.lconst 0, 1) := by decide +kernel
theorem dX1_bits_21 : decode cX1_bits 21 = .ok (.lreturn, 1) := by decide +kernel
theorem dX1_bits_22 : decode cX1_bits 22 = .ok (.dload_n 0, 1) := by decide +kernel
theorem dX1_bits_23 : decode cX1_bits 23 = .ok (.dconst 0, 1) := by decide +kernel
theorem dX1_bits_24 : decode cX1_bits 24 = .ok (.dcmp .g, 1) := by decide +kernel
theorem dX1_bits_25 : decode cX1_bits 25 = .ok (.ifCond .ge 8, 3) := by decide +kernel
theorem dX1_bits_28 : decode cX1_bits 28 = .ok (.dload_n 0, 1) := by decide +kernel
theorem dX1_bits_29 : decode cX1_bits 29 = .ok (.dneg, 1) := by decide +kernel
theorem dX1_bits_30 : decode cX1_bits 30 = .ok (.goto 4, 3) := by decide +kernel
theorem dX1_bits_33 : decode cX1_bits 33 = .ok (.dload_n 0, 1) := by decide +kernel
theorem dX1_bits_34 : decode cX1_bits 34 = .ok (.dstore_n 2, 1) := by decide +kernel
theorem dX1_bits_35 : decode cX1_bits 35 = .ok (.ldc2_w 29, 3) := by decide +kernel
theorem dX1_bits_38 : decode cX1_bits 38 = .ok (.lstore 4, 2) := by decide +kernel
theorem dX1_bits_40 : decode cX1_bits 40 = .ok (.iconst 0, 1) := by decide +kernel
theorem dX1_bits_41 : decode cX1_bits 41 = .ok (.istore 6, 2) := by decide +kernel
theorem dX1_bits_43 : decode cX1_bits 43 = .ok (.iload 6, 2) := by decide +kernel
theorem dX1_bits_45 : decode cX1_bits 45 = .ok (.sipush 1100, 3) := by decide +kernel
theorem dX1_bits_48 : decode cX1_bits 48 = .ok (.if_icmp .ge 29, 3) := by decide +kernel
theorem dX1_bits_51 : decode cX1_bits 51 = .ok (.dload_n 2, 1) := by decide +kernel
theorem dX1_bits_52 : decode cX1_bits 52 = .ok (.ldc2_w 11, 3) := by decide +kernel
theorem dX1_bits_55 : decode cX1_bits 55 = .ok (.dcmp .l, 1) := by decide +kernel
theorem dX1_bits_56 : decode cX1_bits 56 = .ok (.ifCond .lt 21, 3) := by decide +kernel
theorem dX1_bits_59 : decode cX1_bits 59 = .ok (.dload_n 2, 1) := by decide +kernel
theorem dX1_bits_60 : decode cX1_bits 60 = .ok (.ldc2_w 11, 3) := by decide +kernel
theorem dX1_bits_63 : decode cX1_bits 63 = .ok (.ddiv, 1) := by decide +kernel
theorem dX1_bits_64 : decode cX1_bits 64 = .ok (.dstore_n 2, 1) := by decide +kernel
theorem dX1_bits_65 : decode cX1_bits 65 = .ok (.lload 4, 2) := by decide +kernel
theorem dX1_bits_67 : decode cX1_bits 67 = .ok (.lconst 1, 1) := by decide +kernel
theorem dX1_bits_68 : decode cX1_bits 68 = .ok (.ladd, 1) := by decide +kernel
theorem dX1_bits_69 : decode cX1_bits 69 = .ok (.lstore 4, 2) := by decide +kernel
theorem dX1_bits_71 : decode cX1_bits 71 = .ok (.iinc 6 1, 3) := by decide +kernel
theorem dX1_bits_74 : decode cX1_bits 74 = .ok (.goto (-31), 3) := by decide +kernel
theorem dX1_bits_77 : decode cX1_bits 77 = .ok (.iconst 0, 1) := by decide +kernel
theorem dX1_bits_78 : decode cX1_bits 78 = .ok (.istore 6, 2) := by decide +kernel
theorem dX1_bits_80 : decode cX1_bits 80 = .ok (.iload 6, 2) := by decide +kernel
theorem dX1_bits_82 : decode cX1_bits 82 = .ok (.sipush 1100, 3) := by decide +kernel
theorem dX1_bits_85 : decode cX1_bits 85 = .ok (.if_icmp .ge 27, 3) := by decide +kernel
theorem dX1_bits_88 : decode cX1_bits 88 = .ok (.dload_n 2, 1) := by decide +kernel
theorem dX1_bits_89 : decode cX1_bits 89 = .ok (.dconst 1, 1) := by decide +kernel
theorem dX1_bits_90 : decode cX1_bits 90 = .ok (.dcmp .g, 1) := by decide +kernel
theorem dX1_bits_91 : decode cX1_bits 91 = .ok (.ifCond .ge 21, 3) := by decide +kernel
theorem dX1_bits_94 : decode cX1_bits 94 = .ok (.dload_n 2, 1) := by decide +kernel
theorem dX1_bits_95 : decode cX1_bits 95 = .ok (.ldc2_w 11, 3) := by decide +kernel
theorem dX1_bits_98 : decode cX1_bits 98 = .ok (.dmul, 1) := by decide +kernel
theorem dX1_bits_99 : decode cX1_bits 99 = .ok (.dstore_n 2, 1) := by decide +kernel
theorem dX1_bits_100 : decode cX1_bits 100 = .ok (.lload 4, 2) := by decide +kernel
theorem dX1_bits_102 : decode cX1_bits 102 = .ok (.lconst 1, 1) := by decide +kernel
theorem dX1_bits_103 : decode cX1_bits 103 = .ok (.lsub, 1) := by decide +kernel
theorem dX1_bits_104 : decode cX1_bits 104 = .ok (.lstore 4, 2) := by decide +kernel
theorem dX1_bits_106 : decode cX1_bits 106 = .ok (.iinc 6 1, 3) := by decide +kernel
theorem dX1_bits_109 : decode cX1_bits 109 = .ok (.goto (-29), 3) := by decide +kernel
theorem dX1_bits_112 : decode cX1_bits 112 = .ok (.dload_n 2, 1) := by decide +kernel
theorem dX1_bits_113 : decode cX1_bits 113 = .ok (.ldc2_w 19, 3) := by decide +kernel
theorem dX1_bits_116 : decode cX1_bits 116 = .ok (.dmul, 1) := by decide +kernel
theorem dX1_bits_117 : decode cX1_bits 117 = .ok (.d2l, 1) := by decide +kernel
theorem dX1_bits_118 : decode cX1_bits 118 = .ok (.ldc2_w 31, 3) := by decide +kernel
theorem dX1_bits_121 : decode cX1_bits 121 = .ok (.lsub, 1) := by decide +kernel
theorem dX1_bits_122 : decode cX1_bits 122 = .ok (.lstore 6, 2) := by decide +kernel
theorem dX1_bits_124 : decode cX1_bits 124 = .ok (.dload_n 0, 1) := by decide +kernel
theorem dX1_bits_125 : decode cX1_bits 125 = .ok (.dconst 0, 1) := by decide +kernel
theorem dX1_bits_126 : decode cX1_bits 126 = .ok (.dcmp .g, 1) := by decide +kernel
theorem dX1_bits_127 : decode cX1_bits 127 = .ok (.ifCond .ge 9, 3) := by decide +kernel
theorem dX1_bits_130 : decode cX1_bits 130 = .ok (.ldc2_w 27, 3) := by decide +kernel
theorem dX1_bits_133 : decode cX1_bits 133 = .ok (.goto 4, 3) := by decide +kernel
theorem dX1_bits_136 : decode cX1_bits 136 = .ok (.lconst 0, 1) := by decide +kernel
theorem dX1_bits_137 : decode cX1_bits 137 = .ok (.lload 4, 2) := by decide +kernel
theorem dX1_bits_139 : decode cX1_bits 139 = .ok (.bipush 52, 2) := by decide +kernel
theorem dX1_bits_141 : decode cX1_bits 141 = .ok (.lshl, 1) := by decide +kernel
theorem dX1_bits_142 : decode cX1_bits 142 = .ok (.ladd, 1) := by decide +kernel
theorem dX1_bits_143 : decode cX1_bits 143 = .ok (.lload 6, 2) := by decide +kernel
theorem dX1_bits_145 : decode cX1_bits 145 = .ok (.ladd, 1) := by decide +kernel
theorem dX1_bits_146 : decode cX1_bits 146 = .ok (.lreturn, 1) := by decide +kernel
theorem dX2_init_0 : decode cX2_init 0 = .ok (.aload_n 0, 1) := by decide +kernel
theorem dX2_init_1 : decode cX2_init 1 = .ok (.invokespecial 1, 3) := by decide +kernel
theorem dX2_init_4 : decode cX2_init 4 = .ok (.aload_n 0, 1) := by decide +kernel
theorem dX2_init_5 : decode cX2_init 5 = .ok (.iconst 0, 1) := by decide +kernel
theorem dX2_init_6 : decode cX2_init 6 = .ok (.putfield 7, 3) := by decide +kernel
theorem dX2_init_9 : decode cX2_init 9 = .ok (.aload_n 0, 1) := by decide +kernel
theorem dX2_init_10 : decode cX2_init 10 = .ok (.sipush 300, 3) := by decide +kernel
theorem dX2_init_13 : decode cX2_init 13 = .ok (.putfield 13, 3) := by decide +kernel
theorem dX2_init_16 : decode cX2_init 16 = .ok (.aload_n 0, 1) := by decide +kernel
theorem dX2_init_17 : decode cX2_init 17 = .ok (.sipush 300, 3) := by decide +kernel
theorem dX2_init_20 : decode cX2_init 20 = .ok (.putfield 16, 3) := by decide +kernel
theorem dX2_init_23 : decode cX2_init 23 = .ok (.aload_n 0, 1) := by decide +kernel
theorem dX2_init_24 : decode cX2_init 24 = .ok (.iconst 0, 1) := by decide +kernel
theorem dX2_init_25 : decode cX2_init 25 = .ok (.putfield 19, 3) := by decide +kernel
theorem dX2_init_28 : decode cX2_init 28 = .ok (.aload_n 0, 1) := by decide +kernel
theorem dX2_init_29 : decode cX2_init 29 = .ok (.iconst 0, 1) := by decide +kernel
theorem dX2_init_30 : decode cX2_init 30 = .ok (.putfield 22, 3) := by decide +kernel
theorem dX2_init_33 : decode cX2_init 33 = .ok (.aload_n 0, 1) := by decide +kernel
theorem dX2_init_34 : decode cX2_init 34 = .ok (.sipush 400, 3) := by decide +kernel
theorem dX2_init_37 : decode cX2_init 37 = .ok (.putfield 25, 3) := by decide +kernel
theorem dX2_init_40 : decode cX2_init 40 = .ok (.aload_n 0, 1) := by decide +kernel
theorem dX2_init_41 : decode cX2_init 41 = .ok (.sipush 300, 3) := by decide +kernel
theorem dX2_init_44 : decode cX2_init 44 = .ok (.putfield 28, 3) := by decide +kernel
theorem dX2_init_47 : decode cX2_init 47 = .ok (.aload_n 0, 1) := by decide +kernel
theorem dX2_init_48 : decode cX2_init 48 = .ok (.iconst 1, 1) := by decide +kernel
theorem dX2_init_49 : decode cX2_init 49 = .ok (.putfield 31, 3) := by decide +kernel
theorem dX2_init_52 : decode cX2_init 52 = .ok (.aload_n 0, 1) := by decide +kernel
theorem dX2_init_53 : decode cX2_init 53 = .ok (.bipush (-100), 2) := by decide +kernel
theorem dX2_init_55 : decode cX2_init 55 = .ok (.putfield 34, 3) := by decide +kernel
theorem dX2_init_58 : decode cX2_init 58 = .ok (.aload_n 0, 1) := by decide +kernel
theorem dX2_init_59 : decode cX2_init 59 = .ok (.bipush 100, 2) := by decide +kernel
theorem dX2_init_61 : decode cX2_init 61 = .ok (.putfield 37, 3) := by decide +kernel
theorem dX2_init_64 : decode cX2_init 64 = .ok (.aload_n 0, 1) := by decide +kernel
theorem dX2_init_65 : decode cX2_init 65 = .ok (.iconst 0, 1) := by decide +kernel
theorem dX2_init_66 : decode cX2_init 66 = .ok (.putfield 40, 3) := by decide +kernel
theorem dX2_init_69 : decode cX2_init 69 = .ok (.aload_n 0, 1) := by decide +kernel
theorem dX2_init_70 : decode cX2_init 70 = .ok (.sipush 500, 3) := by decide +kernel
theorem dX2_init_73 : decode cX2_init 73 = .ok (.putfield 43, 3) := by decide +kernel
theorem dX2_init_76 : decode cX2_init 76 = .ok (.aload_n 0, 1) := by decide +kernel
theorem dX2_init_77 : decode cX2_init 77 = .ok (.sipush 500, 3) := by decide +kernel
theorem dX2_init_80 : decode cX2_init 80 = .ok (.putfield 46, 3) := by decide +kernel
theorem dX2_init_83 : decode cX2_init 83 = .ok (.return_, 1) := by decide +kernel
theorem dX2_setUpperArm_0 : decode cX2_setUpperArm 0 = .ok (.aload_n 0, 1) := by decide +kernel
theorem dX2_setUpperArm_1 : decode cX2_setUpperArm 1 = .ok (.iload_n 1, 1) := by decide +kernel
theorem dX2_setUpperArm_2 : decode cX2_setUpperArm 2 = .ok (.putfield 7, 3) := by decide +kernel
theorem dX2_setUpperArm_5 : decode cX2_setUpperArm 5 = .ok (.aload_n 0, 1) := by decide +kernel
theorem dX2_setUpperArm_6 : decode cX2_setUpperArm 6 = .ok (.iload_n 2, 1) := by decide +kernel
theorem dX2_setUpperArm_7 : decode cX2_setUpperArm 7 = .ok (.putfield 13, 3) := by decide +kernel
theorem dX2_setUpperArm_10 : decode cX2_setUpperArm 10 = .ok (.aload_n 0, 1) := by decide +kernel
theorem dX2_setUpperArm_11 : decode cX2_setUpperArm 11 = .ok (.iload_n 3, 1) := by decide +kernel
theorem dX2_setUpperArm_12 : decode cX2_setUpperArm 12 = .ok (.putfield 16, 3) := by decide +kernel
theorem dX2_setUpperArm_15 : decode cX2_setUpperArm 15 = .ok (.return_, 1) := by decide +kernel
theorem dX2_setLowerArm_0 : decode cX2_setLowerArm 0 = .ok (.aload_n 0, 1) := by decide +kernel
theorem dX2_setLowerArm_1 : decode cX2_setLowerArm 1 = .ok (.iload_n 1, 1) := by decide +kernel
theorem dX2_setLowerArm_2 : decode cX2_setLowerArm 2 = .ok (.putfield 19, 3) := by decide +kernel
theorem dX2_setLowerArm_5 : decode cX2_setLowerArm 5 = .ok (.aload_n 0, 1) := by decide +kernel
theorem dX2_setLowerArm_6 : decode cX2_setLowerArm 6 = .ok (.iload_n 2, 1) := by decide +kernel
theorem dX2_setLowerArm_7 : decode cX2_setLowerArm 7 = .ok (.putfield 22, 3) := by decide +kernel
theorem dX2_setLowerArm_10 : decode cX2_setLowerArm 10 = .ok (.aload_n 0, 1) := by decide +kernel
theorem dX2_setLowerArm_11 : decode cX2_setLowerArm 11 = .ok (.iload_n 3, 1) := by decide +kernel
theorem dX2_setLowerArm_12 : decode cX2_setLowerArm 12 = .ok (.putfield 25, 3) := by decide +kernel
theorem dX2_setLowerArm_15 : decode cX2_setLowerArm 15 = .ok (.return_, 1) := by decide +kernel
theorem dX2_setUpright_0 : decode cX2_setUpright 0 = .ok (.aload_n 0, 1) := by decide +kernel
theorem dX2_setUpright_1 : decode cX2_setUpright 1 = .ok (.iload_n 1, 1) := by decide +kernel
theorem dX2_setUpright_2 : decode cX2_setUpright 2 = .ok (.putfield 28, 3) := by decide +kernel
theorem dX2_setUpright_5 : decode cX2_setUpright 5 = .ok (.aload_n 0, 1) := by decide +kernel
theorem dX2_setUpright_6 : decode cX2_setUpright 6 = .ok (.iload_n 2, 1) := by decide +kernel
theorem dX2_setUpright_7 : decode cX2_setUpright 7 = .ok (.putfield 31, 3) := by decide +kernel
theorem dX2_setUpright_10 : decode cX2_setUpright 10 = .ok (.return_, 1) := by decide +kernel
theorem dX2_setRoadPoint_0 : decode cX2_setRoadPoint 0 = .ok (.aload_n 0, 1) := by decide +kernel
theorem dX2_setRoadPoint_1 : decode cX2_setRoadPoint 1 = .ok (.iload_n 1, 1) := by decide +kernel
theorem dX2_setRoadPoint_2 : decode cX2_setRoadPoint 2 = .ok (.putfield 34, 3) := by decide +kernel
theorem dX2_setRoadPoint_5 : decode cX2_setRoadPoint 5 = .ok (.aload_n 0, 1) := by decide +kernel
theorem dX2_setRoadPoint_6 : decode cX2_setRoadPoint 6 = .ok (.iload_n 2, 1) := by decide +kernel
theorem dX2_setRoadPoint_7 : decode cX2_setRoadPoint 7 = .ok (.putfield 37, 3) := by decide +kernel
theorem dX2_setRoadPoint_10 : decode cX2_setRoadPoint 10 = .ok (.return_, 1) := by decide +kernel
theorem dX2_setSpring_0 : decode cX2_setSpring 0 = .ok (.aload_n 0, 1) := by decide +kernel
theorem dX2_setSpring_1 : decode cX2_setSpring 1 = .ok (.iload_n 1, 1) := by decide +kernel
theorem dX2_setSpring_2 : decode cX2_setSpring 2 = .ok (.putfield 40, 3) := by decide +kernel
theorem dX2_setSpring_5 : decode cX2_setSpring 5 = .ok (.aload_n 0, 1) := by decide +kernel
theorem dX2_setSpring_6 : decode cX2_setSpring 6 = .ok (.iload_n 2, 1) := by decide +kernel
theorem dX2_setSpring_7 : decode cX2_setSpring 7 = .ok (.putfield 43, 3) := by decide +kernel
theorem dX2_setSpring_10 : decode cX2_setSpring 10 = .ok (.aload_n 0, 1) := by decide +kernel
theorem dX2_setSpring_11 : decode cX2_setSpring 11 = .ok (.iload_n 3, 1) := by decide +kernel
theorem dX2_setSpring_12 : decode cX2_setSpring 12 = .ok (.putfield 46, 3) := by decide +kernel
theorem dX2_setSpring_15 : decode cX2_setSpring 15 = .ok (.return_, 1) := by decide +kernel
set_option maxRecDepth 20000 in
theorem ggX2_becomeMirrorOf_X2_setUpperArm : GoodIn wsX2_becomeMirrorOf wsX2_setUpperArm := goodIn_r _ [18, 1, 2, 3, 35, 36, 37, 38, 39, 40, 41, 42, 43, 44, 45, 46, 47] (by decide +kernel) (by decide +kernel)
set_option maxRecDepth 20000 in
theorem gX2_becomeMirrorOf_X2_setUpperArm : GoodIn wsX2_becomeMirrorOf (wsV RX2 49 RX2 yX2_setUpperArm wsX2_setUpperArm) := goodIn_app (goodIn_of _ (by decide +kernel)) ggX2_becomeMirrorOf_X2_setUpperArm
set_option maxRecDepth 20000 in
theorem ggX2_becomeMirrorOf_X2_setLowerArm : GoodIn wsX2_becomeMirrorOf wsX2_setLowerArm := goodIn_r _ [22, 4, 5, 6, 35, 36, 37, 38, 39, 40, 41, 42, 43, 44, 45, 46, 47] (by decide +kernel) (by decide +kernel)
set_option maxRecDepth 20000 in
theorem gX2_becomeMirrorOf_X2_setLowerArm : GoodIn wsX2_becomeMirrorOf (wsV RX2 53 RX2 yX2_setLowerArm wsX2_setLowerArm) := goodIn_app (goodIn_of _ (by decide +kernel)) ggX2_becomeMirrorOf_X2_setLowerArm
set_option maxRecDepth 20000 in
theorem ggX2_becomeMirrorOf_X2_setUpright : GoodIn wsX2_becomeMirrorOf wsX2_setUpright := goodIn_r _ [26, 7, 8, 35, 36, 37, 38, 39, 40, 41, 42, 43, 44, 45, 46, 47] (by decide +kernel) (by decide +kernel)
set_option maxRecDepth 20000 in
theorem gX2_becomeMirrorOf_X2_setUpright : GoodIn wsX2_becomeMirrorOf (wsV RX2 56 RX2 yX2_setUpright wsX2_setUpright) := goodIn_app (goodIn_of _ (by decide +kernel)) ggX2_becomeMirrorOf_X2_setUpright
set_option maxRecDepth 20000 in
theorem ggX2_becomeMirrorOf_X2_setRoadPoint : GoodIn wsX2_becomeMirrorOf wsX2_setRoadPoint := goodIn_r _ [30, 9, 10, 35, 36, 37, 38, 39, 40, 41, 42, 43, 44, 45, 46, 47] (by decide +kernel) (by decide +kernel)
set_option maxRecDepth 20000 in
theorem gX2_becomeMirrorOf_X2_setRoadPoint : GoodIn wsX2_becomeMirrorOf (wsV RX2 60 RX2 yX2_setRoadPoint wsX2_setRoadPoint) := goodIn_app (goodIn_of _ (by decide +kernel)) ggX2_becomeMirrorOf_X2_setRoadPoint
set_option maxRecDepth 20000 in
theorem ggX2_becomeMirrorOf_X2_setSpring : GoodIn wsX2_becomeMirrorOf wsX2_setSpring := goodIn_r _ [34, 11, 12, 13, 35, 36, 37, 38, 39, 40, 41, 42, 43, 44, 45, 46, 47] (by decide +kernel) (by decide +kernel)
set_option maxRecDepth 20000 in
theorem gX2_becomeMirrorOf_X2_setSpring : GoodIn wsX2_becomeMirrorOf (wsV RX2 63 RX2 yX2_setSpring wsX2_setSpring) := goodIn_app (goodIn_of _ (by decide +kernel)) ggX2_becomeMirrorOf_X2_setSpring
theorem dX2_becomeMirrorOf_0 : decode cX2_becomeMirrorOf 0 = .ok (.aload_n 0, 1) := by decide +kernel
theorem dX2_becomeMirrorOf_1 : decode cX2_becomeMirrorOf 1 = .ok (.aload_n 1, 1) := by decide +kernel
theorem dX2_becomeMirrorOf_2 : decode cX2_becomeMirrorOf 2 = .ok (.getfield 7, 3) := by decide +kernel
theorem dX2_becomeMirrorOf_5 : decode cX2_becomeMirrorOf 5 = .ok (.ineg, 1) := by decide +kernel
theorem dX2_becomeMirrorOf_6 : decode cX2_becomeMirrorOf 6 = .ok (.aload_n 1, 1) := by decide +kernel
theorem dX2_becomeMirrorOf_7 : decode cX2_becomeMirrorOf 7 = .ok (.getfield 13, 3) := by decide +kernel
theorem dX2_becomeMirrorOf_10 : decode cX2_becomeMirrorOf 10 = .ok (.aload_n 1, 1) := by decide +kernel
theorem dX2_becomeMirrorOf_11 : decode cX2_becomeMirrorOf 11 = .ok (.getfield 16, 3) := by decide +kernel
theorem dX2_becomeMirrorOf_14 : decode cX2_becomeMirrorOf 14 = .ok (.invokevirtual 49, 3) := by decide +kernel
theorem dX2_becomeMirrorOf_17 : decode cX2_becomeMirrorOf 17 = .ok (.aload_n 0, 1) := by decide +kernel
theorem dX2_becomeMirrorOf_18 : decode cX2_becomeMirrorOf 18 = .ok (.aload_n 1, 1) := by decide +kernel
theorem dX2_becomeMirrorOf_19 : decode cX2_becomeMirrorOf 19 = .ok (.getfield 19, 3) := by decide +kernel
theorem dX2_becomeMirrorOf_22 : decode cX2_becomeMirrorOf 22 = .ok (.ineg, 1) := by decide +kernel
theorem dX2_becomeMirrorOf_23 : decode cX2_becomeMirrorOf 23 = .ok (.aload_n 1, 1) := by decide +kernel
theorem dX2_becomeMirrorOf_24 : decode cX2_becomeMirrorOf 24 = .ok (.getfield 22, 3) := by decide +kernel
theorem dX2_becomeMirrorOf_27 : decode cX2_becomeMirrorOf 27 = .ok (.aload_n 1, 1) := by decide +kernel
theorem dX2_becomeMirrorOf_28 : decode cX2_becomeMirrorOf 28 = .ok (.getfield 25, 3) := by decide +kernel
theorem dX2_becomeMirrorOf_31 : decode cX2_becomeMirrorOf 31 = .ok (.invokevirtual 53, 3) := by decide +kernel
theorem dX2_becomeMirrorOf_34 : decode cX2_becomeMirrorOf 34 = .ok (.aload_n 0, 1) := by decide +kernel
theorem dX2_becomeMirrorOf_35 : decode cX2_becomeMirrorOf 35 = .ok (.aload_n 1, 1) := by decide +kernel
theorem dX2_becomeMirrorOf_36 : decode cX2_becomeMirrorOf 36 = .ok (.getfield 28, 3) := by decide +kernel
theorem dX2_becomeMirrorOf_39 : decode cX2_becomeMirrorOf 39 = .ok (.aload_n 1, 1) := by decide +kernel
theorem dX2_becomeMirrorOf_40 : decode cX2_becomeMirrorOf 40 = .ok (.getfield 31, 3) := by decide +kernel
theorem dX2_becomeMirrorOf_43 : decode cX2_becomeMirrorOf 43 = .ok (.ineg, 1) := by decide +kernel
theorem dX2_becomeMirrorOf_44 : decode cX2_becomeMirrorOf 44 = .ok (.invokevirtual 56, 3) := by decide +kernel
theorem dX2_becomeMirrorOf_47 : decode cX2_becomeMirrorOf 47 = .ok (.aload_n 0, 1) := by decide +kernel
theorem dX2_becomeMirrorOf_48 : decode cX2_becomeMirrorOf 48 = .ok (.aload_n 1, 1) := by decide +kernel
theorem dX2_becomeMirrorOf_49 : decode cX2_becomeMirrorOf 49 = .ok (.getfield 34, 3) := by decide +kernel
theorem dX2_becomeMirrorOf_52 : decode cX2_becomeMirrorOf 52 = .ok (.aload_n 1, 1) := by decide +kernel
theorem dX2_becomeMirrorOf_53 : decode cX2_becomeMirrorOf 53 = .ok (.getfield 37, 3) := by decide +kernel
theorem dX2_becomeMirrorOf_56 : decode cX2_becomeMirrorOf 56 = .ok (.invokevirtual 60, 3) := by decide +kernel
theorem dX2_becomeMirrorOf_59 : decode cX2_becomeMirrorOf 59 = .ok (.aload_n 0, 1) := by decide +kernel
theorem dX2_becomeMirrorOf_60 : decode cX2_becomeMirrorOf 60 = .ok (.aload_n 1, 1) := by decide +kernel
theorem dX2_becomeMirrorOf_61 : decode cX2_becomeMirrorOf 61 = .ok (.getfield 40, 3) := by decide +kernel
theorem dX2_becomeMirrorOf_64 : decode cX2_becomeMirrorOf 64 = .ok (.ineg, 1) := by decide +kernel
theorem dX2_becomeMirrorOf_65 : decode cX2_becomeMirrorOf 65 = .ok (.aload_n 1, 1) := by decide +kernel
theorem dX2_becomeMirrorOf_66 : decode cX2_becomeMirrorOf 66 = .ok (.getfield 43, 3) := by decide +kernel
theorem dX2_becomeMirrorOf_69 : decode cX2_becomeMirrorOf 69 = .ok (.aload_n 1, 1) := by decide +kernel
theorem dX2_becomeMirrorOf_70 : decode cX2_becomeMirrorOf 70 = .ok (.getfield 46, 3) := by decide +kernel
theorem dX2_becomeMirrorOf_73 : decode cX2_becomeMirrorOf 73 = .ok (.invokevirtual 63, 3) := by decide +kernel
theorem dX2_becomeMirrorOf_76 : decode cX2_becomeMirrorOf 76 = .ok (.return_, 1) := by decide +kernel
set_option maxRecDepth 20000 in
theorem ggX2_mixInto_X6_mix : GoodIn wsX2_mixInto wsX6_mix := goodIn_r _ [16, 17] (by decide +kernel) (by decide +kernel)
set_option maxRecDepth 20000 in
theorem gX2_mixInto_X6_mix_n66 : GoodIn wsX2_mixInto (wsX6_mix) := ggX2_mixInto_X6_mix
theorem dX2_mixInto_0 : decode cX2_mixInto 0 = .ok (.lload_n 1, 1) := by decide +kernel
theorem dX2_mixInto_1 : decode cX2_mixInto 1 = .ok (.aload_n 0, 1) := by decide +kernel
theorem dX2_mixInto_2 : decode cX2_mixInto 2 = .ok (.getfield 7, 3) := by decide +kernel
theorem dX2_mixInto_5 : decode cX2_mixInto 5 = .ok (.invokestatic 66, 3) := by decide +kernel
theorem dX2_mixInto_8 : decode cX2_mixInto 8 = .ok (.aload_n 0, 1) := by decide +kernel
theorem dX2_mixInto_9 : decode cX2_mixInto 9 = .ok (.getfield 13, 3) := by decide +kernel
theorem dX2_mixInto_12 : decode cX2_mixInto 12 = .ok (.invokestatic 66, 3) := by decide +kernel
theorem dX2_mixInto_15 : decode cX2_mixInto 15 = .ok (.aload_n 0, 1) := by decide +kernel
theorem dX2_mixInto_16 : decode cX2_mixInto 16 = .ok (.getfield 19, 3) := by decide +kernel
theorem dX2_mixInto_19 : decode cX2_mixInto 19 = .ok (.invokestatic 66, 3) := by decide +kernel
theorem dX2_mixInto_22 : decode cX2_mixInto 22 = .ok (.aload_n 0, 1) := by decide +kernel
theorem dX2_mixInto_23 : decode cX2_mixInto 23 = .ok (.getfield 22, 3) := by decide +kernel
theorem dX2_mixInto_26 : decode cX2_mixInto 26 = .ok (.invokestatic 66, 3) := by decide +kernel
theorem dX2_mixInto_29 : decode cX2_mixInto 29 = .ok (.lstore_n 3, 1) := by decide +kernel
theorem dX2_mixInto_30 : decode cX2_mixInto 30 = .ok (.lload_n 3, 1) := by decide +kernel
theorem dX2_mixInto_31 : decode cX2_mixInto 31 = .ok (.aload_n 0, 1) := by decide +kernel
theorem dX2_mixInto_32 : decode cX2_mixInto 32 = .ok (.getfield 16, 3) := by decide +kernel
theorem dX2_mixInto_35 : decode cX2_mixInto 35 = .ok (.invokestatic 66, 3) := by decide +kernel
theorem dX2_mixInto_38 : decode cX2_mixInto 38 = .ok (.aload_n 0, 1) := by decide +kernel
theorem dX2_mixInto_39 : decode cX2_mixInto 39 = .ok (.getfield 25, 3) := by decide +kernel
theorem dX2_mixInto_42 : decode cX2_mixInto 42 = .ok (.invokestatic 66, 3) := by decide +kernel
theorem dX2_mixInto_45 : decode cX2_mixInto 45 = .ok (.aload_n 0, 1) := by decide +kernel
theorem dX2_mixInto_46 : decode cX2_mixInto 46 = .ok (.getfield 28, 3) := by decide +kernel
theorem dX2_mixInto_49 : decode cX2_mixInto 49 = .ok (.invokestatic 66, 3) := by decide +kernel
theorem dX2_mixInto_52 : decode cX2_mixInto 52 = .ok (.aload_n 0, 1) := by decide +kernel
theorem dX2_mixInto_53 : decode cX2_mixInto 53 = .ok (.getfield 31, 3) := by decide +kernel
theorem dX2_mixInto_56 : decode cX2_mixInto 56 = .ok (.invokestatic 66, 3) := by decide +kernel
theorem dX2_mixInto_59 : decode cX2_mixInto 59 = .ok (.lstore_n 3, 1) := by decide +kernel
theorem dX2_mixInto_60 : decode cX2_mixInto 60 = .ok (.lload_n 3, 1) := by decide +kernel
theorem dX2_mixInto_61 : decode cX2_mixInto 61 = .ok (.aload_n 0, 1) := by decide +kernel
theorem dX2_mixInto_62 : decode cX2_mixInto 62 = .ok (.getfield 34, 3) := by decide +kernel
theorem dX2_mixInto_65 : decode cX2_mixInto 65 = .ok (.invokestatic 66, 3) := by decide +kernel
theorem dX2_mixInto_68 : decode cX2_mixInto 68 = .ok (.aload_n 0, 1) := by decide +kernel
theorem dX2_mixInto_69 : decode cX2_mixInto 69 = .ok (.getfield 37, 3) := by decide +kernel
theorem dX2_mixInto_72 : decode cX2_mixInto 72 = .ok (.invokestatic 66, 3) := by decide +kernel
theorem dX2_mixInto_75 : decode cX2_mixInto 75 = .ok (.lstore_n 3, 1) := by decide +kernel
theorem dX2_mixInto_76 : decode cX2_mixInto 76 = .ok (.lload_n 3, 1) := by decide +kernel
theorem dX2_mixInto_77 : decode cX2_mixInto 77 = .ok (.aload_n 0, 1) := by decide +kernel
theorem dX2_mixInto_78 : decode cX2_mixInto 78 = .ok (.getfield 40, 3) := by decide +kernel
theorem dX2_mixInto_81 : decode cX2_mixInto 81 = .ok (.invokestatic 66, 3) := by decide +kernel
theorem dX2_mixInto_84 : decode cX2_mixInto 84 = .ok (.aload_n 0, 1) := by decide +kernel
theorem dX2_mixInto_85 : decode cX2_mixInto 85 = .ok (.getfield 43, 3) := by decide +kernel
theorem dX2_mixInto_88 : decode cX2_mixInto 88 = .ok (.invokestatic 66, 3) := by decide +kernel
theorem dX2_mixInto_91 : decode cX2_mixInto 91 = .ok (.aload_n 0, 1) := by decide +kernel
theorem dX2_mixInto_92 : decode cX2_mixInto 92 = .ok (.getfield 46, 3) := by decide +kernel
theorem dX2_mixInto_95 : decode cX2_mixInto 95 = .ok (.invokestatic 66, 3) := by decide +kernel
theorem dX2_mixInto_98 : decode cX2_mixInto 98 = .ok (.lreturn, 1) := by decide +kernel
theorem dX3_init_0 : decode cX3_init 0 = .ok (.aload_n 0, 1) := by decide +kernel
theorem dX3_init_1 : decode cX3_init 1 = .ok (.invokespecial 3, 3) := by decide +kernel
theorem dX3_init_4 : decode cX3_init 4 = .ok (.aload_n 0, 1) := by decide +kernel
theorem dX3_init_5 : decode cX3_init 5 = .ok (.bipush 12, 2) := by decide +kernel
theorem dX3_init_7 : decode cX3_init 7 = .ok (.newarray .int, 2) := by decide +kernel
theorem dX3_init_9 : decode cX3_init 9 = .ok (.putfield 11, 3) := by decide +kernel
theorem dX3_init_12 : decode cX3_init 12 = .ok (.aload_n 0, 1) := by decide +kernel
theorem dX3_init_13 : decode cX3_init 13 = .ok (.bipush 12, 2) := by decide +kernel
theorem dX3_init_15 : decode cX3_init 15 = .ok (.newarray .int, 2) := by decide +kernel
theorem dX3_init_17 : decode cX3_init 17 = .ok (.putfield 15, 3) := by decide +kernel
theorem dX3_init_20 : decode cX3_init 20 = .ok (.aload_n 0, 1) := by decide +kernel
theorem dX3_init_21 : decode cX3_init 21 = .ok (.iconst 0, 1) := by decide +kernel
theorem dX3_init_22 : decode cX3_init 22 = .ok (.putfield 18, 3) := by decide +kernel
theorem dX3_init_25 : decode cX3_init 25 = .ok (.return_, 1) := by decide +kernel
theorem dX3_add_0 : decode cX3_add 0 = .ok (.aload_n 0, 1) := by decide +kernel
theorem dX3_add_1 : decode cX3_add 1 = .ok (.getfield 18, 3) := by decide +kernel
theorem dX3_add_4 : decode cX3_add 4 = .ok (.bipush 12, 2) := by decide +kernel
theorem dX3_add_6 : decode cX3_add 6 = .ok (.if_icmp .lt 6, 3) := by decide +kernel
theorem dX3_add_9 : decode cX3_add 9 = .ok (.bipush (-4), 2) := by decide +kernel
theorem dX3_add_11 : decode cX3_add 11 = .ok (.ireturn, 1) := by decide +kernel
theorem dX3_add_12 : decode cX3_add 12 = .ok (.aload_n 0, 1) := by decide +kernel
theorem dX3_add_13 : decode cX3_add 13 = .ok (.getfield 11, 3) := by decide +kernel
theorem dX3_add_16 : decode cX3_add 16 = .ok (.aload_n 0, 1) := by decide +kernel
theorem dX3_add_17 : decode cX3_add 17 = .ok (.getfield 18, 3) := by decide +kernel
theorem dX3_add_20 : decode cX3_add 20 = .ok (.iload_n 1, 1) := by decide +kernel
theorem dX3_add_21 : decode cX3_add 21 = .ok (.iastore, 1) := by decide +kernel
theorem dX3_add_22 : decode cX3_add 22 = .ok (.aload_n 0, 1) := by decide +kernel
theorem dX3_add_23 : decode cX3_add 23 = .ok (.getfield 15, 3) := by decide +kernel
theorem dX3_add_26 : decode cX3_add 26 = .ok (.aload_n 0, 1) := by decide +kernel
theorem dX3_add_27 : decode cX3_add 27 = .ok (.getfield 18, 3) := by decide +kernel
theorem dX3_add_30 : decode cX3_add 30 = .ok (.iload_n 2, 1) := by decide +kernel
theorem dX3_add_31 : decode cX3_add 31 = .ok (.iastore, 1) := by decide +kernel
theorem dX3_add_32 : decode cX3_add 32 = .ok (.aload_n 0, 1) := by decide +kernel
theorem dX3_add_33 : decode cX3_add 33 = .ok (.dup, 1) := by decide +kernel
theorem dX3_add_34 : decode cX3_add 34 = .ok (.getfield 18, 3) := by decide +kernel
theorem dX3_add_37 : decode cX3_add 37 = .ok (.iconst 1, 1) := by decide +kernel
theorem dX3_add_38 : decode cX3_add 38 = .ok (.iadd, 1) := by decide +kernel
theorem dX3_add_39 : decode cX3_add 39 = .ok (.putfield 18, 3) := by decide +kernel
theorem dX3_add_42 : decode cX3_add 42 = .ok (.aload_n 0, 1) := by decide +kernel
theorem dX3_add_43 : decode cX3_add 43 = .ok (.getfield 18, 3) := by decide +kernel
theorem dX3_add_46 : decode cX3_add 46 = .ok (.iconst 1, 1) := by decide +kernel
theorem dX3_add_47 : decode cX3_add 47 = .ok (.isub, 1) := by decide +kernel
theorem dX3_add_48 : decode cX3_add 48 = .ok (.ireturn, 1) := by decide +kernel
set_option maxRecDepth 20000 in
theorem ggX3_mixInto_X6_mix : GoodIn wsX3_mixInto wsX6_mix := goodIn_r _ [6, 7] (by decide +kernel) (by decide +kernel)
set_option maxRecDepth 20000 in
theorem gX3_mixInto_X6_mix_n22 : GoodIn wsX3_mixInto (wsX6_mix) := ggX3_mixInto_X6_mix
theorem dX3_mixInto_0 : decode cX3_mixInto 0 = .ok (.lload_n 1, 1) := by decide +kernel
theorem dX3_mixInto_1 : decode cX3_mixInto 1 = .ok (.lstore_n 3, 1) := by decide +kernel
theorem dX3_mixInto_2 : decode cX3_mixInto 2 = .ok (.iconst 0, 1) := by decide +kernel
theorem dX3_mixInto_3 : decode cX3_mixInto 3 = .ok (.istore 5, 2) := by decide +kernel
theorem dX3_mixInto_5 : decode cX3_mixInto 5 = .ok (.iload 5, 2) := by decide +kernel
theorem dX3_mixInto_7 : decode cX3_mixInto 7 = .ok (.aload_n 0, 1) := by decide +kernel
theorem dX3_mixInto_8 : decode cX3_mixInto 8 = .ok (.getfield 18, 3) := by decide +kernel
theorem dX3_mixInto_11 : decode cX3_mixInto 11 = .ok (.if_icmp .ge 31, 3) := by decide +kernel
theorem dX3_mixInto_14 : decode cX3_mixInto 14 = .ok (.lload_n 3, 1) := by decide +kernel
theorem dX3_mixInto_15 : decode cX3_mixInto 15 = .ok (.aload_n 0, 1) := by decide +kernel
theorem dX3_mixInto_16 : decode cX3_mixInto 16 = .ok (.getfield 11, 3) := by decide +kernel
theorem dX3_mixInto_19 : decode cX3_mixInto 19 = .ok (.iload 5, 2) := by decide +kernel
theorem dX3_mixInto_21 : decode cX3_mixInto 21 = .ok (.iaload, 1) := by decide +kernel
theorem dX3_mixInto_22 : decode cX3_mixInto 22 = .ok (.invokestatic 22, 3) := by decide +kernel
theorem dX3_mixInto_25 : decode cX3_mixInto 25 = .ok (.aload_n 0, 1) := by decide +kernel
theorem dX3_mixInto_26 : decode cX3_mixInto 26 = .ok (.getfield 15, 3) := by decide +kernel
theorem dX3_mixInto_29 : decode cX3_mixInto 29 = .ok (.iload 5, 2) := by decide +kernel
theorem dX3_mixInto_31 : decode cX3_mixInto 31 = .ok (.iaload, 1) := by decide +kernel
theorem dX3_mixInto_32 : decode cX3_mixInto 32 = .ok (.invokestatic 22, 3) := by decide +kernel
theorem dX3_mixInto_35 : decode cX3_mixInto 35 = .ok (.lstore_n 3, 1) := by decide +kernel
theorem dX3_mixInto_36 : decode cX3_mixInto 36 = .ok (.iinc 5 1, 3) := by decide +kernel
theorem dX3_mixInto_39 : decode cX3_mixInto 39 = .ok (.goto (-34), 3) := by decide +kernel
theorem dX3_mixInto_42 : decode cX3_mixInto 42 = .ok (.lload_n 3, 1) := by decide +kernel
theorem dX3_mixInto_43 : decode cX3_mixInto 43 = .ok (.lreturn, 1) := by decide +kernel
theorem dX4_init_0 : decode cX4_init 0 = .ok (.aload_n 0, 1) := by decide +kernel
theorem dX4_init_1 : decode cX4_init 1 = .ok (.invokespecial 3, 3) := by decide +kernel
theorem dX4_init_4 : decode cX4_init 4 = .ok (.aload_n 0, 1) := by decide +kernel
theorem dX4_init_5 : decode cX4_init 5 = .ok (.bipush 10, 2) := by decide +kernel
theorem dX4_init_7 : decode cX4_init 7 = .ok (.newarray .int, 2) := by decide +kernel
theorem dX4_init_9 : decode cX4_init 9 = .ok (.putfield 11, 3) := by decide +kernel
theorem dX4_init_12 : decode cX4_init 12 = .ok (.aload_n 0, 1) := by decide +kernel
theorem dX4_init_13 : decode cX4_init 13 = .ok (.iconst 0, 1) := by decide +kernel
theorem dX4_init_14 : decode cX4_init 14 = .ok (.putfield 15, 3) := by decide +kernel
theorem dX4_init_17 : decode cX4_init 17 = .ok (.return_, 1) := by decide +kernel
theorem dX4_add_0 : decode cX4_add 0 = .ok (.aload_n 0, 1) := by decide +kernel
theorem dX4_add_1 : decode cX4_add 1 = .ok (.getfield 15, 3) := by decide +kernel
theorem dX4_add_4 : decode cX4_add 4 = .ok (.bipush 10, 2) := by decide +kernel
theorem dX4_add_6 : decode cX4_add 6 = .ok (.if_icmp .lt 6, 3) := by decide +kernel
theorem dX4_add_9 : decode cX4_add 9 = .ok (.bipush (-4), 2) := by decide +kernel
theorem dX4_add_11 : decode cX4_add 11 = .ok (.ireturn, 1) := by decide +kernel
theorem dX4_add_12 : decode cX4_add 12 = .ok (.aload_n 0, 1) := by decide +kernel
theorem dX4_add_13 : decode cX4_add 13 = .ok (.getfield 11, 3) := by decide +kernel
theorem dX4_add_16 : decode cX4_add 16 = .ok (.aload_n 0, 1) := by decide +kernel
theorem dX4_add_17 : decode cX4_add 17 = .ok (.getfield 15, 3) := by decide +kernel
theorem dX4_add_20 : decode cX4_add 20 = .ok (.iload_n 1, 1) := by decide +kernel
theorem dX4_add_21 : decode cX4_add 21 = .ok (.iastore, 1) := by decide +kernel
theorem dX4_add_22 : decode cX4_add 22 = .ok (.aload_n 0, 1) := by decide +kernel
theorem dX4_add_23 : decode cX4_add 23 = .ok (.dup, 1) := by decide +kernel
theorem dX4_add_24 : decode cX4_add 24 = .ok (.getfield 15, 3) := by decide +kernel
theorem dX4_add_27 : decode cX4_add 27 = .ok (.iconst 1, 1) := by decide +kernel
theorem dX4_add_28 : decode cX4_add 28 = .ok (.iadd, 1) := by decide +kernel
theorem dX4_add_29 : decode cX4_add 29 = .ok (.putfield 15, 3) := by decide +kernel
theorem dX4_add_32 : decode cX4_add 32 = .ok (.aload_n 0, 1) := by decide +kernel
theorem dX4_add_33 : decode cX4_add 33 = .ok (.getfield 15, 3) := by decide +kernel
theorem dX4_add_36 : decode cX4_add 36 = .ok (.iconst 1, 1) := by decide +kernel
theorem dX4_add_37 : decode cX4_add 37 = .ok (.isub, 1) := by decide +kernel
theorem dX4_add_38 : decode cX4_add 38 = .ok (.ireturn, 1) := by decide +kernel
set_option maxRecDepth 20000 in
theorem ggX4_nearestSet_J6_bitCount_0f7a4 : GoodIn wsX4_nearestSet wsJ6_bitCount_0f7a4 := goodIn_r _ [9, 10, 11, 12] (by decide +kernel) (by decide +kernel)
set_option maxRecDepth 20000 in
theorem gX4_nearestSet_J6_bitCount_0f7a4 : GoodIn wsX4_nearestSet (va_wsS RX4 19 yJ6_bitCount_0f7a4 wsJ6_bitCount_0f7a4) := goodIn_app (goodIn_of _ (by decide +kernel)) ggX4_nearestSet_J6_bitCount_0f7a4
set_option maxRecDepth 20000 in
theorem ggX4_nearestSet_X4_sumOf : GoodIn wsX4_nearestSet wsX4_sumOf := goodIn_r _ [17, 1, 18, 19, 20] (by decide +kernel) (by decide +kernel)
set_option maxRecDepth 20000 in
theorem gX4_nearestSet_X4_sumOf : GoodIn wsX4_nearestSet (wsV RX4 25 RX4 yX4_sumOf wsX4_sumOf) := goodIn_app (goodIn_of _ (by decide +kernel)) ggX4_nearestSet_X4_sumOf
theorem dX4_nearestSet_0 : decode cX4_nearestSet 0 = .ok (.iconst 0, 1) := by decide +kernel
theorem dX4_nearestSet_1 : decode cX4_nearestSet 1 = .ok (.istore_n 3, 1) := by decide +kernel
theorem dX4_nearestSet_2 : decode cX4_nearestSet 2 = .ok (.iload_n 1, 1) := by decide +kernel
theorem dX4_nearestSet_3 : decode cX4_nearestSet 3 = .ok (.istore 4, 2) := by decide +kernel
theorem dX4_nearestSet_5 : decode cX4_nearestSet 5 = .ok (.iconst 0, 1) := by decide +kernel
theorem dX4_nearestSet_6 : decode cX4_nearestSet 6 = .ok (.istore 5, 2) := by decide +kernel
theorem dX4_nearestSet_8 : decode cX4_nearestSet 8 = .ok (.iconst 1, 1) := by decide +kernel
theorem dX4_nearestSet_9 : decode cX4_nearestSet 9 = .ok (.istore 6, 2) := by decide +kernel
theorem dX4_nearestSet_11 : decode cX4_nearestSet 11 = .ok (.iload 6, 2) := by decide +kernel
theorem dX4_nearestSet_13 : decode cX4_nearestSet 13 = .ok (.iconst 1, 1) := by decide +kernel
theorem dX4_nearestSet_14 : decode cX4_nearestSet 14 = .ok (.aload_n 0, 1) := by decide +kernel
theorem dX4_nearestSet_15 : decode cX4_nearestSet 15 = .ok (.getfield 15, 3) := by decide +kernel
theorem dX4_nearestSet_18 : decode cX4_nearestSet 18 = .ok (.ishl, 1) := by decide +kernel
theorem dX4_nearestSet_19 : decode cX4_nearestSet 19 = .ok (.if_icmp .ge 67, 3) := by decide +kernel
theorem dX4_nearestSet_22 : decode cX4_nearestSet 22 = .ok (.iload 6, 2) := by decide +kernel
theorem dX4_nearestSet_24 : decode cX4_nearestSet 24 = .ok (.invokestatic 19, 3) := by decide +kernel
theorem dX4_nearestSet_27 : decode cX4_nearestSet 27 = .ok (.istore 7, 2) := by decide +kernel
theorem dX4_nearestSet_29 : decode cX4_nearestSet 29 = .ok (.iload_n 1, 1) := by decide +kernel
theorem dX4_nearestSet_30 : decode cX4_nearestSet 30 = .ok (.aload_n 0, 1) := by decide +kernel
theorem dX4_nearestSet_31 : decode cX4_nearestSet 31 = .ok (.iload 6, 2) := by decide +kernel
theorem dX4_nearestSet_33 : decode cX4_nearestSet 33 = .ok (.invokevirtual 25, 3) := by decide +kernel
theorem dX4_nearestSet_36 : decode cX4_nearestSet 36 = .ok (.isub, 1) := by decide +kernel
theorem dX4_nearestSet_37 : decode cX4_nearestSet 37 = .ok (.invokestatic 28, 3) := by decide +kernel
theorem dX4_nearestSet_40 : decode cX4_nearestSet 40 = .ok (.istore 8, 2) := by decide +kernel
theorem dX4_nearestSet_42 : decode cX4_nearestSet 42 = .ok (.iload 7, 2) := by decide +kernel
theorem dX4_nearestSet_44 : decode cX4_nearestSet 44 = .ok (.iload_n 2, 1) := by decide +kernel
theorem dX4_nearestSet_45 : decode cX4_nearestSet 45 = .ok (.if_icmp .gt 35, 3) := by decide +kernel
theorem dX4_nearestSet_48 : decode cX4_nearestSet 48 = .ok (.iload 8, 2) := by decide +kernel
theorem dX4_nearestSet_50 : decode cX4_nearestSet 50 = .ok (.iload 4, 2) := by decide +kernel
theorem dX4_nearestSet_52 : decode cX4_nearestSet 52 = .ok (.if_icmp .lt 17, 3) := by decide +kernel
theorem dX4_nearestSet_55 : decode cX4_nearestSet 55 = .ok (.iload 8, 2) := by decide +kernel
theorem dX4_nearestSet_57 : decode cX4_nearestSet 57 = .ok (.iload 4, 2) := by decide +kernel
theorem dX4_nearestSet_59 : decode cX4_nearestSet 59 = .ok (.if_icmp .ne 21, 3) := by decide +kernel
theorem dX4_nearestSet_62 : decode cX4_nearestSet 62 = .ok (.iload 7, 2) := by decide +kernel
theorem dX4_nearestSet_64 : decode cX4_nearestSet 64 = .ok (.iload 5, 2) := by decide +kernel
theorem dX4_nearestSet_66 : decode cX4_nearestSet 66 = .ok (.if_icmp .ge 14, 3) := by decide +kernel
theorem dX4_nearestSet_69 : decode cX4_nearestSet 69 = .ok (.iload 6, 2) := by decide +kernel
theorem dX4_nearestSet_71 : decode cX4_nearestSet 71 = .ok (.istore_n 3, 1) := by decide +kernel
theorem dX4_nearestSet_72 : decode cX4_nearestSet 72 = .ok (.iload 8, 2) := by decide +kernel
theorem dX4_nearestSet_74 : decode cX4_nearestSet 74 = .ok (.istore 4, 2) := by decide +kernel
theorem dX4_nearestSet_76 : decode cX4_nearestSet 76 = .ok (.iload 7, 2) := by decide +kernel
theorem dX4_nearestSet_78 : decode cX4_nearestSet 78 = .ok (.istore 5, 2) := by decide +kernel
theorem dX4_nearestSet_80 : decode cX4_nearestSet 80 = .ok (.iinc 6 1, 3) := by decide +kernel
theorem dX4_nearestSet_83 : decode cX4_nearestSet 83 = .ok (.goto (-72), 3) := by decide +kernel
theorem dX4_nearestSet_86 : decode cX4_nearestSet 86 = .ok (.iload_n 3, 1) := by decide +kernel
theorem dX4_nearestSet_87 : decode cX4_nearestSet 87 = .ok (.ireturn, 1) := by decide +kernel
theorem dX4_sumOf_0 : decode cX4_sumOf 0 = .ok (.iconst 0, 1) := by decide +kernel
theorem dX4_sumOf_1 : decode cX4_sumOf 1 = .ok (.istore_n 2, 1) := by decide +kernel
theorem dX4_sumOf_2 : decode cX4_sumOf 2 = .ok (.iconst 0, 1) := by decide +kernel
theorem dX4_sumOf_3 : decode cX4_sumOf 3 = .ok (.istore_n 3, 1) := by decide +kernel
theorem dX4_sumOf_4 : decode cX4_sumOf 4 = .ok (.iload_n 3, 1) := by decide +kernel
theorem dX4_sumOf_5 : decode cX4_sumOf 5 = .ok (.aload_n 0, 1) := by decide +kernel
theorem dX4_sumOf_6 : decode cX4_sumOf 6 = .ok (.getfield 15, 3) := by decide +kernel
theorem dX4_sumOf_9 : decode cX4_sumOf 9 = .ok (.if_icmp .ge 31, 3) := by decide +kernel
theorem dX4_sumOf_12 : decode cX4_sumOf 12 = .ok (.iload_n 2, 1) := by decide +kernel
theorem dX4_sumOf_13 : decode cX4_sumOf 13 = .ok (.iload_n 1, 1) := by decide +kernel
theorem dX4_sumOf_14 : decode cX4_sumOf 14 = .ok (.iload_n 3, 1) := by decide +kernel
theorem dX4_sumOf_15 : decode cX4_sumOf 15 = .ok (.ishr, 1) := by decide +kernel
theorem dX4_sumOf_16 : decode cX4_sumOf 16 = .ok (.iconst 1, 1) := by decide +kernel
theorem dX4_sumOf_17 : decode cX4_sumOf 17 = .ok (.iand, 1) := by decide +kernel
theorem dX4_sumOf_18 : decode cX4_sumOf 18 = .ok (.iconst 1, 1) := by decide +kernel
theorem dX4_sumOf_19 : decode cX4_sumOf 19 = .ok (.if_icmp .ne 12, 3) := by decide +kernel
theorem dX4_sumOf_22 : decode cX4_sumOf 22 = .ok (.aload_n 0, 1) := by decide +kernel
theorem dX4_sumOf_23 : decode cX4_sumOf 23 = .ok (.getfield 11, 3) := by decide +kernel
theorem dX4_sumOf_26 : decode cX4_sumOf 26 = .ok (.iload_n 3, 1) := by decide +kernel
theorem dX4_sumOf_27 : decode cX4_sumOf 27 = .ok (.iaload, 1) := by decide +kernel
theorem dX4_sumOf_28 : decode cX4_sumOf 28 = .ok (.goto 4, 3) := by decide +kernel
theorem dX4_sumOf_31 : decode cX4_sumOf 31 = .ok (.iconst 0, 1) := by decide +kernel
theorem dX4_sumOf_32 : decode cX4_sumOf 32 = .ok (.iadd, 1) := by decide +kernel
theorem dX4_sumOf_33 : decode cX4_sumOf 33 = .ok (.istore_n 2, 1) := by decide +kernel
theorem dX4_sumOf_34 : decode cX4_sumOf 34 = .ok (.iinc 3 1, 3) := by decide +kernel
theorem dX4_sumOf_37 : decode cX4_sumOf 37 = .ok (.goto (-33), 3) := by decide +kernel
theorem dX4_sumOf_40 : decode cX4_sumOf 40 = .ok (.iload_n 2, 1) := by decide +kernel
theorem dX4_sumOf_41 : decode cX4_sumOf 41 = .ok (.ireturn, 1) := by decide +kernel
set_option maxRecDepth 20000 in
theorem ggX4_mixInto_X6_mix : GoodIn wsX4_mixInto wsX6_mix := goodIn_r _ [5, 6] (by decide +kernel) (by decide +kernel)
set_option maxRecDepth 20000 in
theorem gX4_mixInto_X6_mix_n33 : GoodIn wsX4_mixInto (wsX6_mix) := ggX4_mixInto_X6_mix
theorem dX4_mixInto_0 : decode cX4_mixInto 0 = .ok (.lload_n 1, 1) := by decide +kernel
theorem dX4_mixInto_1 : decode cX4_mixInto 1 = .ok (.lstore_n 3, 1) := by decide +kernel
theorem dX4_mixInto_2 : decode cX4_mixInto 2 = .ok (.iconst 0, 1) := by decide +kernel
theorem dX4_mixInto_3 : decode cX4_mixInto 3 = .ok (.istore 5, 2) := by decide +kernel
theorem dX4_mixInto_5 : decode cX4_mixInto 5 = .ok (.iload 5, 2) := by decide +kernel
theorem dX4_mixInto_7 : decode cX4_mixInto 7 = .ok (.aload_n 0, 1) := by decide +kernel
theorem dX4_mixInto_8 : decode cX4_mixInto 8 = .ok (.getfield 15, 3) := by decide +kernel
theorem dX4_mixInto_11 : decode cX4_mixInto 11 = .ok (.if_icmp .ge 21, 3) := by decide +kernel
theorem dX4_mixInto_14 : decode cX4_mixInto 14 = .ok (.lload_n 3, 1) := by decide +kernel
theorem dX4_mixInto_15 : decode cX4_mixInto 15 = .ok (.aload_n 0, 1) := by decide +kernel
theorem dX4_mixInto_16 : decode cX4_mixInto 16 = .ok (.getfield 11, 3) := by decide +kernel
theorem dX4_mixInto_19 : decode cX4_mixInto 19 = .ok (.iload 5, 2) := by decide +kernel
theorem dX4_mixInto_21 : decode cX4_mixInto 21 = .ok (.iaload, 1) := by decide +kernel
theorem dX4_mixInto_22 : decode cX4_mixInto 22 = .ok (.invokestatic 33, 3) := by decide +kernel
theorem dX4_mixInto_25 : decode cX4_mixInto 25 = .ok (.lstore_n 3, 1) := by decide +kernel
theorem dX4_mixInto_26 : decode cX4_mixInto 26 = .ok (.iinc 5 1, 3) := by decide +kernel
theorem dX4_mixInto_29 : decode cX4_mixInto 29 = .ok (.goto (-24), 3) := by decide +kernel
theorem dX4_mixInto_32 : decode cX4_mixInto 32 = .ok (.lload_n 3, 1) := by decide +kernel
theorem dX4_mixInto_33 : decode cX4_mixInto 33 = .ok (.lreturn, 1) := by decide +kernel
theorem dX5_init_0 : decode cX5_init 0 = .ok (.aload_n 0, 1) := by decide +kernel
theorem dX5_init_1 : decode cX5_init 1 = .ok (.invokespecial 1, 3) := by decide +kernel
theorem dX5_init_4 : decode cX5_init 4 = .ok (.return_, 1) := by decide +kernel
set_option maxRecDepth 20000 in
theorem ggX5_reach_X1_squareRoot : GoodIn wsX5_reach wsX1_squareRoot := goodIn_r _ [12, 13, 14, 15, 16, 11, 17, 18, 19, 20, 21, 22, 23] (by decide +kernel) (by decide +kernel)
set_option maxRecDepth 20000 in
theorem gX5_reach_X1_squareRoot_n27 : GoodIn wsX5_reach (wsX1_squareRoot) := ggX5_reach_X1_squareRoot
theorem dX5_reach_0 : decode cX5_reach 0 = .ok (.aload_n 1, 1) := by decide +kernel
theorem dX5_reach_1 : decode cX5_reach 1 = .ok (.getfield 7, 3) := by decide +kernel
theorem dX5_reach_4 : decode cX5_reach 4 = .ok (.aload_n 1, 1) := by decide +kernel
theorem dX5_reach_5 : decode cX5_reach 5 = .ok (.getfield 7, 3) := by decide +kernel
theorem dX5_reach_8 : decode cX5_reach 8 = .ok (.imul, 1) := by decide +kernel
theorem dX5_reach_9 : decode cX5_reach 9 = .ok (.iload 4, 2) := by decide +kernel
theorem dX5_reach_11 : decode cX5_reach 11 = .ok (.aload_n 1, 1) := by decide +kernel
theorem dX5_reach_12 : decode cX5_reach 12 = .ok (.getfield 13, 3) := by decide +kernel
theorem dX5_reach_15 : decode cX5_reach 15 = .ok (.isub, 1) := by decide +kernel
theorem dX5_reach_16 : decode cX5_reach 16 = .ok (.iload 4, 2) := by decide +kernel
theorem dX5_reach_18 : decode cX5_reach 18 = .ok (.aload_n 1, 1) := by decide +kernel
theorem dX5_reach_19 : decode cX5_reach 19 = .ok (.getfield 13, 3) := by decide +kernel
theorem dX5_reach_22 : decode cX5_reach 22 = .ok (.isub, 1) := by decide +kernel
theorem dX5_reach_23 : decode cX5_reach 23 = .ok (.imul, 1) := by decide +kernel
theorem dX5_reach_24 : decode cX5_reach 24 = .ok (.isub, 1) := by decide +kernel
theorem dX5_reach_25 : decode cX5_reach 25 = .ok (.istore 5, 2) := by decide +kernel
theorem dX5_reach_27 : decode cX5_reach 27 = .ok (.iload 5, 2) := by decide +kernel
theorem dX5_reach_29 : decode cX5_reach 29 = .ok (.ifCond .ge 5, 3) := by decide +kernel
theorem dX5_reach_32 : decode cX5_reach 32 = .ok (.iconst 0, 1) := by decide +kernel
theorem dX5_reach_33 : decode cX5_reach 33 = .ok (.ireturn, 1) := by decide +kernel
theorem dX5_reach_34 : decode cX5_reach 34 = .ok (.aload_n 0, 1) := by decide +kernel
theorem dX5_reach_35 : decode cX5_reach 35 = .ok (.iload_n 2, 1) := by decide +kernel
theorem dX5_reach_36 : decode cX5_reach 36 = .ok (.putfield 16, 3) := by decide +kernel
theorem dX5_reach_39 : decode cX5_reach 39 = .ok (.aload_n 0, 1) := by decide +kernel
theorem dX5_reach_40 : decode cX5_reach 40 = .ok (.iload_n 3, 1) := by decide +kernel
theorem dX5_reach_41 : decode cX5_reach 41 = .ok (.putfield 21, 3) := by decide +kernel
theorem dX5_reach_44 : decode cX5_reach 44 = .ok (.aload_n 0, 1) := by decide +kernel
theorem dX5_reach_45 : decode cX5_reach 45 = .ok (.aload_n 1, 1) := by decide +kernel
theorem dX5_reach_46 : decode cX5_reach 46 = .ok (.getfield 24, 3) := by decide +kernel
theorem dX5_reach_49 : decode cX5_reach 49 = .ok (.i2d, 1) := by decide +kernel
theorem dX5_reach_50 : decode cX5_reach 50 = .ok (.iload 5, 2) := by decide +kernel
theorem dX5_reach_52 : decode cX5_reach 52 = .ok (.i2d, 1) := by decide +kernel
theorem dX5_reach_53 : decode cX5_reach 53 = .ok (.invokestatic 27, 3) := by decide +kernel
theorem dX5_reach_56 : decode cX5_reach 56 = .ok (.dadd, 1) := by decide +kernel
theorem dX5_reach_57 : decode cX5_reach 57 = .ok (.putfield 33, 3) := by decide +kernel
theorem dX5_reach_60 : decode cX5_reach 60 = .ok (.aload_n 0, 1) := by decide +kernel
theorem dX5_reach_61 : decode cX5_reach 61 = .ok (.iload 4, 2) := by decide +kernel
theorem dX5_reach_63 : decode cX5_reach 63 = .ok (.i2d, 1) := by decide +kernel
theorem dX5_reach_64 : decode cX5_reach 64 = .ok (.putfield 37, 3) := by decide +kernel
theorem dX5_reach_67 : decode cX5_reach 67 = .ok (.aload_n 0, 1) := by decide +kernel
theorem dX5_reach_68 : decode cX5_reach 68 = .ok (.aload_n 0, 1) := by decide +kernel
theorem dX5_reach_69 : decode cX5_reach 69 = .ok (.getfield 16, 3) := by decide +kernel
theorem dX5_reach_72 : decode cX5_reach 72 = .ok (.i2d, 1) := by decide +kernel
theorem dX5_reach_73 : decode cX5_reach 73 = .ok (.aload_n 0, 1) := by decide +kernel
theorem dX5_reach_74 : decode cX5_reach 74 = .ok (.getfield 33, 3) := by decide +kernel
theorem dX5_reach_77 : decode cX5_reach 77 = .ok (.dsub, 1) := by decide +kernel
theorem dX5_reach_78 : decode cX5_reach 78 = .ok (.putfield 40, 3) := by decide +kernel
theorem dX5_reach_81 : decode cX5_reach 81 = .ok (.aload_n 0, 1) := by decide +kernel
theorem dX5_reach_82 : decode cX5_reach 82 = .ok (.aload_n 0, 1) := by decide +kernel
theorem dX5_reach_83 : decode cX5_reach 83 = .ok (.getfield 21, 3) := by decide +kernel
theorem dX5_reach_86 : decode cX5_reach 86 = .ok (.i2d, 1) := by decide +kernel
theorem dX5_reach_87 : decode cX5_reach 87 = .ok (.aload_n 0, 1) := by decide +kernel
theorem dX5_reach_88 : decode cX5_reach 88 = .ok (.getfield 37, 3) := by decide +kernel
theorem dX5_reach_91 : decode cX5_reach 91 = .ok (.dsub, 1) := by decide +kernel
theorem dX5_reach_92 : decode cX5_reach 92 = .ok (.putfield 43, 3) := by decide +kernel
theorem dX5_reach_95 : decode cX5_reach 95 = .ok (.aload_n 0, 1) := by decide +kernel
theorem dX5_reach_96 : decode cX5_reach 96 = .ok (.getfield 40, 3) := by decide +kernel
theorem dX5_reach_99 : decode cX5_reach 99 = .ok (.aload_n 0, 1) := by decide +kernel
theorem dX5_reach_100 : decode cX5_reach 100 = .ok (.getfield 40, 3) := by decide +kernel
theorem dX5_reach_103 : decode cX5_reach 103 = .ok (.dmul, 1) := by decide +kernel
theorem dX5_reach_104 : decode cX5_reach 104 = .ok (.aload_n 0, 1) := by decide +kernel
theorem dX5_reach_105 : decode cX5_reach 105 = .ok (.getfield 43, 3) := by decide +kernel
theorem dX5_reach_108 : decode cX5_reach 108 = .ok (.aload_n 0, 1) := by decide +kernel
theorem dX5_reach_109 : decode cX5_reach 109 = .ok (.getfield 43, 3) := by decide +kernel
theorem dX5_reach_112 : decode cX5_reach 112 = .ok (.dmul, 1) := by decide +kernel
theorem dX5_reach_113 : decode cX5_reach 113 = .ok (.dadd, 1) := by decide +kernel
theorem dX5_reach_114 : decode cX5_reach 114 = .ok (.dstore 6, 2) := by decide +kernel
theorem dX5_reach_116 : decode cX5_reach 116 = .ok (.dload 6, 2) := by decide +kernel
theorem dX5_reach_118 : decode cX5_reach 118 = .ok (.dconst 0, 1) := by decide +kernel
theorem dX5_reach_119 : decode cX5_reach 119 = .ok (.dcmp .l, 1) := by decide +kernel
theorem dX5_reach_120 : decode cX5_reach 120 = .ok (.ifCond .ne 5, 3) := by decide +kernel
theorem dX5_reach_123 : decode cX5_reach 123 = .ok (.iconst 0, 1) := by decide +kernel
theorem dX5_reach_124 : decode cX5_reach 124 = .ok (.ireturn, 1) := by decide +kernel
theorem dX5_reach_125 : decode cX5_reach 125 = .ok (.aload_n 0, 1) := by decide +kernel
theorem dX5_reach_126 : decode cX5_reach 126 = .ok (.aload_n 1, 1) := by decide +kernel
theorem dX5_reach_127 : decode cX5_reach 127 = .ok (.getfield 46, 3) := by decide +kernel
theorem dX5_reach_130 : decode cX5_reach 130 = .ok (.aload_n 1, 1) := by decide +kernel
theorem dX5_reach_131 : decode cX5_reach 131 = .ok (.getfield 46, 3) := by decide +kernel
theorem dX5_reach_134 : decode cX5_reach 134 = .ok (.imul, 1) := by decide +kernel
theorem dX5_reach_135 : decode cX5_reach 135 = .ok (.aload_n 1, 1) := by decide +kernel
theorem dX5_reach_136 : decode cX5_reach 136 = .ok (.getfield 49, 3) := by decide +kernel
theorem dX5_reach_139 : decode cX5_reach 139 = .ok (.aload_n 1, 1) := by decide +kernel
theorem dX5_reach_140 : decode cX5_reach 140 = .ok (.getfield 49, 3) := by decide +kernel
theorem dX5_reach_143 : decode cX5_reach 143 = .ok (.imul, 1) := by decide +kernel
theorem dX5_reach_144 : decode cX5_reach 144 = .ok (.isub, 1) := by decide +kernel
theorem dX5_reach_145 : decode cX5_reach 145 = .ok (.i2d, 1) := by decide +kernel
theorem dX5_reach_146 : decode cX5_reach 146 = .ok (.dload 6, 2) := by decide +kernel
theorem dX5_reach_148 : decode cX5_reach 148 = .ok (.dadd, 1) := by decide +kernel
theorem dX5_reach_149 : decode cX5_reach 149 = .ok (.ldc2_w 52, 3) := by decide +kernel
theorem dX5_reach_152 : decode cX5_reach 152 = .ok (.dload 6, 2) := by decide +kernel
theorem dX5_reach_154 : decode cX5_reach 154 = .ok (.dmul, 1) := by decide +kernel
theorem dX5_reach_155 : decode cX5_reach 155 = .ok (.ddiv, 1) := by decide +kernel
theorem dX5_reach_156 : decode cX5_reach 156 = .ok (.putfield 54, 3) := by decide +kernel
theorem dX5_reach_159 : decode cX5_reach 159 = .ok (.aload_n 0, 1) := by decide +kernel
theorem dX5_reach_160 : decode cX5_reach 160 = .ok (.aload_n 1, 1) := by decide +kernel
theorem dX5_reach_161 : decode cX5_reach 161 = .ok (.getfield 46, 3) := by decide +kernel
theorem dX5_reach_164 : decode cX5_reach 164 = .ok (.aload_n 1, 1) := by decide +kernel
theorem dX5_reach_165 : decode cX5_reach 165 = .ok (.getfield 46, 3) := by decide +kernel
theorem dX5_reach_168 : decode cX5_reach 168 = .ok (.imul, 1) := by decide +kernel
theorem dX5_reach_169 : decode cX5_reach 169 = .ok (.i2d, 1) := by decide +kernel
theorem dX5_reach_170 : decode cX5_reach 170 = .ok (.dload 6, 2) := by decide +kernel
theorem dX5_reach_172 : decode cX5_reach 172 = .ok (.ddiv, 1) := by decide +kernel
theorem dX5_reach_173 : decode cX5_reach 173 = .ok (.aload_n 0, 1) := by decide +kernel
theorem dX5_reach_174 : decode cX5_reach 174 = .ok (.getfield 54, 3) := by decide +kernel
theorem dX5_reach_177 : decode cX5_reach 177 = .ok (.aload_n 0, 1) := by decide +kernel
theorem dX5_reach_178 : decode cX5_reach 178 = .ok (.getfield 54, 3) := by decide +kernel
theorem dX5_reach_181 : decode cX5_reach 181 = .ok (.dmul, 1) := by decide +kernel
theorem dX5_reach_182 : decode cX5_reach 182 = .ok (.dsub, 1) := by decide +kernel
theorem dX5_reach_183 : decode cX5_reach 183 = .ok (.putfield 57, 3) := by decide +kernel
theorem dX5_reach_186 : decode cX5_reach 186 = .ok (.aload_n 0, 1) := by decide +kernel
theorem dX5_reach_187 : decode cX5_reach 187 = .ok (.getfield 57, 3) := by decide +kernel
theorem dX5_reach_190 : decode cX5_reach 190 = .ok (.dconst 0, 1) := by decide +kernel
theorem dX5_reach_191 : decode cX5_reach 191 = .ok (.dcmp .l, 1) := by decide +kernel
theorem dX5_reach_192 : decode cX5_reach 192 = .ok (.ifCond .lt 7, 3) := by decide +kernel
theorem dX5_reach_195 : decode cX5_reach 195 = .ok (.iconst 1, 1) := by decide +kernel
theorem dX5_reach_196 : decode cX5_reach 196 = .ok (.goto 4, 3) := by decide +kernel
theorem dX5_reach_199 : decode cX5_reach 199 = .ok (.iconst 0, 1) := by decide +kernel
theorem dX5_reach_200 : decode cX5_reach 200 = .ok (.ireturn, 1) := by decide +kernel
set_option maxRecDepth 20000 in
theorem ggX5_placeUpright_X1_squareRoot : GoodIn wsX5_placeUpright wsX1_squareRoot := goodIn_r _ [13, 14, 15, 16, 17, 12, 18, 19, 20, 21, 22, 23, 24] (by decide +kernel) (by decide +kernel)
set_option maxRecDepth 20000 in
theorem gX5_placeUpright_X1_squareRoot_n27 : GoodIn wsX5_placeUpright (wsX1_squareRoot) := ggX5_placeUpright_X1_squareRoot
theorem dX5_placeUpright_0 : decode cX5_placeUpright 0 = .ok (.aload_n 1, 1) := by decide +kernel
theorem dX5_placeUpright_1 : decode cX5_placeUpright 1 = .ok (.getfield 60, 3) := by decide +kernel
theorem dX5_placeUpright_4 : decode cX5_placeUpright 4 = .ok (.i2d, 1) := by decide +kernel
theorem dX5_placeUpright_5 : decode cX5_placeUpright 5 = .ok (.aload_n 0, 1) := by decide +kernel
theorem dX5_placeUpright_6 : decode cX5_placeUpright 6 = .ok (.getfield 57, 3) := by decide +kernel
theorem dX5_placeUpright_9 : decode cX5_placeUpright 9 = .ok (.invokestatic 27, 3) := by decide +kernel
theorem dX5_placeUpright_12 : decode cX5_placeUpright 12 = .ok (.dmul, 1) := by decide +kernel
theorem dX5_placeUpright_13 : decode cX5_placeUpright 13 = .ok (.dstore_n 2, 1) := by decide +kernel
theorem dX5_placeUpright_14 : decode cX5_placeUpright 14 = .ok (.aload_n 0, 1) := by decide +kernel
theorem dX5_placeUpright_15 : decode cX5_placeUpright 15 = .ok (.aload_n 0, 1) := by decide +kernel
theorem dX5_placeUpright_16 : decode cX5_placeUpright 16 = .ok (.getfield 33, 3) := by decide +kernel
theorem dX5_placeUpright_19 : decode cX5_placeUpright 19 = .ok (.aload_n 0, 1) := by decide +kernel
theorem dX5_placeUpright_20 : decode cX5_placeUpright 20 = .ok (.getfield 54, 3) := by decide +kernel
theorem dX5_placeUpright_23 : decode cX5_placeUpright 23 = .ok (.aload_n 0, 1) := by decide +kernel
theorem dX5_placeUpright_24 : decode cX5_placeUpright 24 = .ok (.getfield 40, 3) := by decide +kernel
theorem dX5_placeUpright_27 : decode cX5_placeUpright 27 = .ok (.dmul, 1) := by decide +kernel
theorem dX5_placeUpright_28 : decode cX5_placeUpright 28 = .ok (.dadd, 1) := by decide +kernel
theorem dX5_placeUpright_29 : decode cX5_placeUpright 29 = .ok (.dload_n 2, 1) := by decide +kernel
theorem dX5_placeUpright_30 : decode cX5_placeUpright 30 = .ok (.aload_n 0, 1) := by decide +kernel
theorem dX5_placeUpright_31 : decode cX5_placeUpright 31 = .ok (.getfield 43, 3) := by decide +kernel
theorem dX5_placeUpright_34 : decode cX5_placeUpright 34 = .ok (.dmul, 1) := by decide +kernel
theorem dX5_placeUpright_35 : decode cX5_placeUpright 35 = .ok (.dadd, 1) := by decide +kernel
theorem dX5_placeUpright_36 : decode cX5_placeUpright 36 = .ok (.putfield 63, 3) := by decide +kernel
theorem dX5_placeUpright_39 : decode cX5_placeUpright 39 = .ok (.aload_n 0, 1) := by decide +kernel
theorem dX5_placeUpright_40 : decode cX5_placeUpright 40 = .ok (.aload_n 0, 1) := by decide +kernel
theorem dX5_placeUpright_41 : decode cX5_placeUpright 41 = .ok (.getfield 37, 3) := by decide +kernel
theorem dX5_placeUpright_44 : decode cX5_placeUpright 44 = .ok (.aload_n 0, 1) := by decide +kernel
theorem dX5_placeUpright_45 : decode cX5_placeUpright 45 = .ok (.getfield 54, 3) := by decide +kernel
theorem dX5_placeUpright_48 : decode cX5_placeUpright 48 = .ok (.aload_n 0, 1) := by decide +kernel
theorem dX5_placeUpright_49 : decode cX5_placeUpright 49 = .ok (.getfield 43, 3) := by decide +kernel
theorem dX5_placeUpright_52 : decode cX5_placeUpright 52 = .ok (.dmul, 1) := by decide +kernel
theorem dX5_placeUpright_53 : decode cX5_placeUpright 53 = .ok (.dadd, 1) := by decide +kernel
theorem dX5_placeUpright_54 : decode cX5_placeUpright 54 = .ok (.dload_n 2, 1) := by decide +kernel
theorem dX5_placeUpright_55 : decode cX5_placeUpright 55 = .ok (.aload_n 0, 1) := by decide +kernel
theorem dX5_placeUpright_56 : decode cX5_placeUpright 56 = .ok (.getfield 40, 3) := by decide +kernel
theorem dX5_placeUpright_59 : decode cX5_placeUpright 59 = .ok (.dmul, 1) := by decide +kernel
theorem dX5_placeUpright_60 : decode cX5_placeUpright 60 = .ok (.dsub, 1) := by decide +kernel
theorem dX5_placeUpright_61 : decode cX5_placeUpright 61 = .ok (.putfield 66, 3) := by decide +kernel
theorem dX5_placeUpright_64 : decode cX5_placeUpright 64 = .ok (.aload_n 0, 1) := by decide +kernel
theorem dX5_placeUpright_65 : decode cX5_placeUpright 65 = .ok (.aload_n 0, 1) := by decide +kernel
theorem dX5_placeUpright_66 : decode cX5_placeUpright 66 = .ok (.getfield 63, 3) := by decide +kernel
theorem dX5_placeUpright_69 : decode cX5_placeUpright 69 = .ok (.aload_n 0, 1) := by decide +kernel
theorem dX5_placeUpright_70 : decode cX5_placeUpright 70 = .ok (.getfield 33, 3) := by decide +kernel
theorem dX5_placeUpright_73 : decode cX5_placeUpright 73 = .ok (.dsub, 1) := by decide +kernel
theorem dX5_placeUpright_74 : decode cX5_placeUpright 74 = .ok (.aload_n 1, 1) := by decide +kernel
theorem dX5_placeUpright_75 : decode cX5_placeUpright 75 = .ok (.getfield 46, 3) := by decide +kernel
theorem dX5_placeUpright_78 : decode cX5_placeUpright 78 = .ok (.i2d, 1) := by decide +kernel
theorem dX5_placeUpright_79 : decode cX5_placeUpright 79 = .ok (.ddiv, 1) := by decide +kernel
theorem dX5_placeUpright_80 : decode cX5_placeUpright 80 = .ok (.putfield 69, 3) := by decide +kernel
theorem dX5_placeUpright_83 : decode cX5_placeUpright 83 = .ok (.aload_n 0, 1) := by decide +kernel
theorem dX5_placeUpright_84 : decode cX5_placeUpright 84 = .ok (.aload_n 0, 1) := by decide +kernel
theorem dX5_placeUpright_85 : decode cX5_placeUpright 85 = .ok (.getfield 66, 3) := by decide +kernel
theorem dX5_placeUpright_88 : decode cX5_placeUpright 88 = .ok (.aload_n 0, 1) := by decide +kernel
theorem dX5_placeUpright_89 : decode cX5_placeUpright 89 = .ok (.getfield 37, 3) := by decide +kernel
theorem dX5_placeUpright_92 : decode cX5_placeUpright 92 = .ok (.dsub, 1) := by decide +kernel
theorem dX5_placeUpright_93 : decode cX5_placeUpright 93 = .ok (.aload_n 1, 1) := by decide +kernel
theorem dX5_placeUpright_94 : decode cX5_placeUpright 94 = .ok (.getfield 46, 3) := by decide +kernel
theorem dX5_placeUpright_97 : decode cX5_placeUpright 97 = .ok (.i2d, 1) := by decide +kernel
theorem dX5_placeUpright_98 : decode cX5_placeUpright 98 = .ok (.ddiv, 1) := by decide +kernel
theorem dX5_placeUpright_99 : decode cX5_placeUpright 99 = .ok (.putfield 72, 3) := by decide +kernel
theorem dX5_placeUpright_102 : decode cX5_placeUpright 102 = .ok (.return_, 1) := by decide +kernel
theorem dX5_roadX_0 : decode cX5_roadX 0 = .ok (.aload_n 0, 1) := by decide +kernel
theorem dX5_roadX_1 : decode cX5_roadX 1 = .ok (.getfield 33, 3) := by decide +kernel
theorem dX5_roadX_4 : decode cX5_roadX 4 = .ok (.aload_n 1, 1) := by decide +kernel
theorem dX5_roadX_5 : decode cX5_roadX 5 = .ok (.getfield 75, 3) := by decide +kernel
theorem dX5_roadX_8 : decode cX5_roadX 8 = .ok (.i2d, 1) := by decide +kernel
theorem dX5_roadX_9 : decode cX5_roadX 9 = .ok (.aload_n 0, 1) := by decide +kernel
theorem dX5_roadX_10 : decode cX5_roadX 10 = .ok (.getfield 69, 3) := by decide +kernel
theorem dX5_roadX_13 : decode cX5_roadX 13 = .ok (.dmul, 1) := by decide +kernel
theorem dX5_roadX_14 : decode cX5_roadX 14 = .ok (.dadd, 1) := by decide +kernel
theorem dX5_roadX_15 : decode cX5_roadX 15 = .ok (.aload_n 1, 1) := by decide +kernel
theorem dX5_roadX_16 : decode cX5_roadX 16 = .ok (.getfield 78, 3) := by decide +kernel
theorem dX5_roadX_19 : decode cX5_roadX 19 = .ok (.i2d, 1) := by decide +kernel
theorem dX5_roadX_20 : decode cX5_roadX 20 = .ok (.aload_n 0, 1) := by decide +kernel
theorem dX5_roadX_21 : decode cX5_roadX 21 = .ok (.getfield 72, 3) := by decide +kernel
theorem dX5_roadX_24 : decode cX5_roadX 24 = .ok (.dmul, 1) := by decide +kernel
theorem dX5_roadX_25 : decode cX5_roadX 25 = .ok (.dadd, 1) := by decide +kernel
theorem dX5_roadX_26 : decode cX5_roadX 26 = .ok (.dreturn, 1) := by decide +kernel
theorem dX5_roadY_0 : decode cX5_roadY 0 = .ok (.aload_n 0, 1) := by decide +kernel
theorem dX5_roadY_1 : decode cX5_roadY 1 = .ok (.getfield 37, 3) := by decide +kernel
theorem dX5_roadY_4 : decode cX5_roadY 4 = .ok (.aload_n 1, 1) := by decide +kernel
theorem dX5_roadY_5 : decode cX5_roadY 5 = .ok (.getfield 75, 3) := by decide +kernel
theorem dX5_roadY_8 : decode cX5_roadY 8 = .ok (.i2d, 1) := by decide +kernel
theorem dX5_roadY_9 : decode cX5_roadY 9 = .ok (.aload_n 0, 1) := by decide +kernel
theorem dX5_roadY_10 : decode cX5_roadY 10 = .ok (.getfield 72, 3) := by decide +kernel
theorem dX5_roadY_13 : decode cX5_roadY 13 = .ok (.dmul, 1) := by decide +kernel
theorem dX5_roadY_14 : decode cX5_roadY 14 = .ok (.dadd, 1) := by decide +kernel
theorem dX5_roadY_15 : decode cX5_roadY 15 = .ok (.aload_n 1, 1) := by decide +kernel
theorem dX5_roadY_16 : decode cX5_roadY 16 = .ok (.getfield 78, 3) := by decide +kernel
theorem dX5_roadY_19 : decode cX5_roadY 19 = .ok (.i2d, 1) := by decide +kernel
theorem dX5_roadY_20 : decode cX5_roadY 20 = .ok (.aload_n 0, 1) := by decide +kernel
theorem dX5_roadY_21 : decode cX5_roadY 21 = .ok (.getfield 69, 3) := by decide +kernel
theorem dX5_roadY_24 : decode cX5_roadY 24 = .ok (.dmul, 1) := by decide +kernel
theorem dX5_roadY_25 : decode cX5_roadY 25 = .ok (.dsub, 1) := by decide +kernel
theorem dX5_roadY_26 : decode cX5_roadY 26 = .ok (.dreturn, 1) := by decide +kernel
theorem dX5_findCentre_0 : decode cX5_findCentre 0 = .ok (.aload_n 0, 1) := by decide +kernel
theorem dX5_findCentre_1 : decode cX5_findCentre 1 = .ok (.getfield 63, 3) := by decide +kernel
theorem dX5_findCentre_4 : decode cX5_findCentre 4 = .ok (.aload_n 0, 1) := by decide +kernel
theorem dX5_findCentre_5 : decode cX5_findCentre 5 = .ok (.getfield 16, 3) := by decide +kernel
theorem dX5_findCentre_8 : decode cX5_findCentre 8 = .ok (.i2d, 1) := by decide +kernel
theorem dX5_findCentre_9 : decode cX5_findCentre 9 = .ok (.dsub, 1) := by decide +kernel
theorem dX5_findCentre_10 : decode cX5_findCentre 10 = .ok (.aload_n 0, 1) := by decide +kernel
theorem dX5_findCentre_11 : decode cX5_findCentre 11 = .ok (.getfield 37, 3) := by decide +kernel
theorem dX5_findCentre_14 : decode cX5_findCentre 14 = .ok (.aload_n 1, 1) := by decide +kernel
theorem dX5_findCentre_15 : decode cX5_findCentre 15 = .ok (.getfield 13, 3) := by decide +kernel
theorem dX5_findCentre_18 : decode cX5_findCentre 18 = .ok (.i2d, 1) := by decide +kernel
theorem dX5_findCentre_19 : decode cX5_findCentre 19 = .ok (.dsub, 1) := by decide +kernel
theorem dX5_findCentre_20 : decode cX5_findCentre 20 = .ok (.dmul, 1) := by decide +kernel
theorem dX5_findCentre_21 : decode cX5_findCentre 21 = .ok (.aload_n 0, 1) := by decide +kernel
theorem dX5_findCentre_22 : decode cX5_findCentre 22 = .ok (.getfield 66, 3) := by decide +kernel
theorem dX5_findCentre_25 : decode cX5_findCentre 25 = .ok (.aload_n 0, 1) := by decide +kernel
theorem dX5_findCentre_26 : decode cX5_findCentre 26 = .ok (.getfield 21, 3) := by decide +kernel
theorem dX5_findCentre_29 : decode cX5_findCentre 29 = .ok (.i2d, 1) := by decide +kernel
theorem dX5_findCentre_30 : decode cX5_findCentre 30 = .ok (.dsub, 1) := by decide +kernel
theorem dX5_findCentre_31 : decode cX5_findCentre 31 = .ok (.aload_n 0, 1) := by decide +kernel
theorem dX5_findCentre_32 : decode cX5_findCentre 32 = .ok (.getfield 33, 3) := by decide +kernel
theorem dX5_findCentre_35 : decode cX5_findCentre 35 = .ok (.aload_n 1, 1) := by decide +kernel
theorem dX5_findCentre_36 : decode cX5_findCentre 36 = .ok (.getfield 24, 3) := by decide +kernel
theorem dX5_findCentre_39 : decode cX5_findCentre 39 = .ok (.i2d, 1) := by decide +kernel
theorem dX5_findCentre_40 : decode cX5_findCentre 40 = .ok (.dsub, 1) := by decide +kernel
theorem dX5_findCentre_41 : decode cX5_findCentre 41 = .ok (.dmul, 1) := by decide +kernel
theorem dX5_findCentre_42 : decode cX5_findCentre 42 = .ok (.dsub, 1) := by decide +kernel
theorem dX5_findCentre_43 : decode cX5_findCentre 43 = .ok (.dstore_n 2, 1) := by decide +kernel
theorem dX5_findCentre_44 : decode cX5_findCentre 44 = .ok (.dload_n 2, 1) := by decide +kernel
theorem dX5_findCentre_45 : decode cX5_findCentre 45 = .ok (.dconst 0, 1) := by decide +kernel
theorem dX5_findCentre_46 : decode cX5_findCentre 46 = .ok (.dcmp .l, 1) := by decide +kernel
theorem dX5_findCentre_47 : decode cX5_findCentre 47 = .ok (.ifCond .ne 5, 3) := by decide +kernel
theorem dX5_findCentre_50 : decode cX5_findCentre 50 = .ok (.iconst 0, 1) := by decide +kernel
theorem dX5_findCentre_51 : decode cX5_findCentre 51 = .ok (.ireturn, 1) := by decide +kernel
theorem dX5_findCentre_52 : decode cX5_findCentre 52 = .ok (.aload_n 1, 1) := by decide +kernel
theorem dX5_findCentre_53 : decode cX5_findCentre 53 = .ok (.getfield 24, 3) := by decide +kernel
theorem dX5_findCentre_56 : decode cX5_findCentre 56 = .ok (.aload_n 0, 1) := by decide +kernel
theorem dX5_findCentre_57 : decode cX5_findCentre 57 = .ok (.getfield 16, 3) := by decide +kernel
theorem dX5_findCentre_60 : decode cX5_findCentre 60 = .ok (.isub, 1) := by decide +kernel
theorem dX5_findCentre_61 : decode cX5_findCentre 61 = .ok (.i2d, 1) := by decide +kernel
theorem dX5_findCentre_62 : decode cX5_findCentre 62 = .ok (.aload_n 0, 1) := by decide +kernel
theorem dX5_findCentre_63 : decode cX5_findCentre 63 = .ok (.getfield 37, 3) := by decide +kernel
theorem dX5_findCentre_66 : decode cX5_findCentre 66 = .ok (.aload_n 1, 1) := by decide +kernel
theorem dX5_findCentre_67 : decode cX5_findCentre 67 = .ok (.getfield 13, 3) := by decide +kernel
theorem dX5_findCentre_70 : decode cX5_findCentre 70 = .ok (.i2d, 1) := by decide +kernel
theorem dX5_findCentre_71 : decode cX5_findCentre 71 = .ok (.dsub, 1) := by decide +kernel
theorem dX5_findCentre_72 : decode cX5_findCentre 72 = .ok (.dmul, 1) := by decide +kernel
theorem dX5_findCentre_73 : decode cX5_findCentre 73 = .ok (.aload_n 1, 1) := by decide +kernel
theorem dX5_findCentre_74 : decode cX5_findCentre 74 = .ok (.getfield 13, 3) := by decide +kernel
theorem dX5_findCentre_77 : decode cX5_findCentre 77 = .ok (.aload_n 0, 1) := by decide +kernel
theorem dX5_findCentre_78 : decode cX5_findCentre 78 = .ok (.getfield 21, 3) := by decide +kernel
theorem dX5_findCentre_81 : decode cX5_findCentre 81 = .ok (.isub, 1) := by decide +kernel
theorem dX5_findCentre_82 : decode cX5_findCentre 82 = .ok (.i2d, 1) := by decide +kernel
theorem dX5_findCentre_83 : decode cX5_findCentre 83 = .ok (.aload_n 0, 1) := by decide +kernel
theorem dX5_findCentre_84 : decode cX5_findCentre 84 = .ok (.getfield 33, 3) := by decide +kernel
theorem dX5_findCentre_87 : decode cX5_findCentre 87 = .ok (.aload_n 1, 1) := by decide +kernel
theorem dX5_findCentre_88 : decode cX5_findCentre 88 = .ok (.getfield 24, 3) := by decide +kernel
theorem dX5_findCentre_91 : decode cX5_findCentre 91 = .ok (.i2d, 1) := by decide +kernel
theorem dX5_findCentre_92 : decode cX5_findCentre 92 = .ok (.dsub, 1) := by decide +kernel
theorem dX5_findCentre_93 : decode cX5_findCentre 93 = .ok (.dmul, 1) := by decide +kernel
theorem dX5_findCentre_94 : decode cX5_findCentre 94 = .ok (.dsub, 1) := by decide +kernel
theorem dX5_findCentre_95 : decode cX5_findCentre 95 = .ok (.dload_n 2, 1) := by decide +kernel
theorem dX5_findCentre_96 : decode cX5_findCentre 96 = .ok (.ddiv, 1) := by decide +kernel
theorem dX5_findCentre_97 : decode cX5_findCentre 97 = .ok (.dstore 4, 2) := by decide +kernel
theorem dX5_findCentre_99 : decode cX5_findCentre 99 = .ok (.aload_n 0, 1) := by decide +kernel
theorem dX5_findCentre_100 : decode cX5_findCentre 100 = .ok (.aload_n 0, 1) := by decide +kernel
theorem dX5_findCentre_101 : decode cX5_findCentre 101 = .ok (.getfield 16, 3) := by decide +kernel
theorem dX5_findCentre_104 : decode cX5_findCentre 104 = .ok (.i2d, 1) := by decide +kernel
theorem dX5_findCentre_105 : decode cX5_findCentre 105 = .ok (.dload 4, 2) := by decide +kernel
theorem dX5_findCentre_107 : decode cX5_findCentre 107 = .ok (.aload_n 0, 1) := by decide +kernel
theorem dX5_findCentre_108 : decode cX5_findCentre 108 = .ok (.getfield 63, 3) := by decide +kernel
theorem dX5_findCentre_111 : decode cX5_findCentre 111 = .ok (.aload_n 0, 1) := by decide +kernel
theorem dX5_findCentre_112 : decode cX5_findCentre 112 = .ok (.getfield 16, 3) := by decide +kernel
theorem dX5_findCentre_115 : decode cX5_findCentre 115 = .ok (.i2d, 1) := by decide +kernel
theorem dX5_findCentre_116 : decode cX5_findCentre 116 = .ok (.dsub, 1) := by decide +kernel
theorem dX5_findCentre_117 : decode cX5_findCentre 117 = .ok (.dmul, 1) := by decide +kernel
theorem dX5_findCentre_118 : decode cX5_findCentre 118 = .ok (.dadd, 1) := by decide +kernel
theorem dX5_findCentre_119 : decode cX5_findCentre 119 = .ok (.putfield 81, 3) := by decide +kernel
theorem dX5_findCentre_122 : decode cX5_findCentre 122 = .ok (.aload_n 0, 1) := by decide +kernel
theorem dX5_findCentre_123 : decode cX5_findCentre 123 = .ok (.aload_n 0, 1) := by decide +kernel
theorem dX5_findCentre_124 : decode cX5_findCentre 124 = .ok (.getfield 21, 3) := by decide +kernel
theorem dX5_findCentre_127 : decode cX5_findCentre 127 = .ok (.i2d, 1) := by decide +kernel
theorem dX5_findCentre_128 : decode cX5_findCentre 128 = .ok (.dload 4, 2) := by decide +kernel
theorem dX5_findCentre_130 : decode cX5_findCentre 130 = .ok (.aload_n 0, 1) := by decide +kernel
theorem dX5_findCentre_131 : decode cX5_findCentre 131 = .ok (.getfield 66, 3) := by decide +kernel
theorem dX5_findCentre_134 : decode cX5_findCentre 134 = .ok (.aload_n 0, 1) := by decide +kernel
theorem dX5_findCentre_135 : decode cX5_findCentre 135 = .ok (.getfield 21, 3) := by decide +kernel
theorem dX5_findCentre_138 : decode cX5_findCentre 138 = .ok (.i2d, 1) := by decide +kernel
theorem dX5_findCentre_139 : decode cX5_findCentre 139 = .ok (.dsub, 1) := by decide +kernel
theorem dX5_findCentre_140 : decode cX5_findCentre 140 = .ok (.dmul, 1) := by decide +kernel
theorem dX5_findCentre_141 : decode cX5_findCentre 141 = .ok (.dadd, 1) := by decide +kernel
theorem dX5_findCentre_142 : decode cX5_findCentre 142 = .ok (.putfield 84, 3) := by decide +kernel
theorem dX5_findCentre_145 : decode cX5_findCentre 145 = .ok (.iconst 1, 1) := by decide +kernel
theorem dX5_findCentre_146 : decode cX5_findCentre 146 = .ok (.ireturn, 1) := by decide +kernel
set_option maxRecDepth 20000 in
theorem ggX5_springLength_X1_squareRoot : GoodIn wsX5_springLength wsX1_squareRoot := goodIn_r _ [6, 7, 8, 9, 10, 5, 11, 12, 13, 14, 15, 16, 17] (by decide +kernel) (by decide +kernel)
set_option maxRecDepth 20000 in
theorem gX5_springLength_X1_squareRoot_n27 : GoodIn wsX5_springLength (wsX1_squareRoot) := ggX5_springLength_X1_squareRoot
theorem dX5_springLength_0 : decode cX5_springLength 0 = .ok (.aload_n 1, 1) := by decide +kernel
theorem dX5_springLength_1 : decode cX5_springLength 1 = .ok (.getfield 24, 3) := by decide +kernel
theorem dX5_springLength_4 : decode cX5_springLength 4 = .ok (.i2d, 1) := by decide +kernel
theorem dX5_springLength_5 : decode cX5_springLength 5 = .ok (.aload_n 1, 1) := by decide +kernel
theorem dX5_springLength_6 : decode cX5_springLength 6 = .ok (.getfield 87, 3) := by decide +kernel
theorem dX5_springLength_9 : decode cX5_springLength 9 = .ok (.i2d, 1) := by decide +kernel
theorem dX5_springLength_10 : decode cX5_springLength 10 = .ok (.aload_n 0, 1) := by decide +kernel
theorem dX5_springLength_11 : decode cX5_springLength 11 = .ok (.getfield 33, 3) := by decide +kernel
theorem dX5_springLength_14 : decode cX5_springLength 14 = .ok (.aload_n 1, 1) := by decide +kernel
theorem dX5_springLength_15 : decode cX5_springLength 15 = .ok (.getfield 24, 3) := by decide +kernel
theorem dX5_springLength_18 : decode cX5_springLength 18 = .ok (.i2d, 1) := by decide +kernel
theorem dX5_springLength_19 : decode cX5_springLength 19 = .ok (.dsub, 1) := by decide +kernel
theorem dX5_springLength_20 : decode cX5_springLength 20 = .ok (.dmul, 1) := by decide +kernel
theorem dX5_springLength_21 : decode cX5_springLength 21 = .ok (.ldc2_w 90, 3) := by decide +kernel
theorem dX5_springLength_24 : decode cX5_springLength 24 = .ok (.ddiv, 1) := by decide +kernel
theorem dX5_springLength_25 : decode cX5_springLength 25 = .ok (.dadd, 1) := by decide +kernel
theorem dX5_springLength_26 : decode cX5_springLength 26 = .ok (.dstore_n 2, 1) := by decide +kernel
theorem dX5_springLength_27 : decode cX5_springLength 27 = .ok (.aload_n 1, 1) := by decide +kernel
theorem dX5_springLength_28 : decode cX5_springLength 28 = .ok (.getfield 13, 3) := by decide +kernel
theorem dX5_springLength_31 : decode cX5_springLength 31 = .ok (.i2d, 1) := by decide +kernel
theorem dX5_springLength_32 : decode cX5_springLength 32 = .ok (.aload_n 1, 1) := by decide +kernel
theorem dX5_springLength_33 : decode cX5_springLength 33 = .ok (.getfield 87, 3) := by decide +kernel
theorem dX5_springLength_36 : decode cX5_springLength 36 = .ok (.i2d, 1) := by decide +kernel
theorem dX5_springLength_37 : decode cX5_springLength 37 = .ok (.aload_n 0, 1) := by decide +kernel
theorem dX5_springLength_38 : decode cX5_springLength 38 = .ok (.getfield 37, 3) := by decide +kernel
theorem dX5_springLength_41 : decode cX5_springLength 41 = .ok (.aload_n 1, 1) := by decide +kernel
theorem dX5_springLength_42 : decode cX5_springLength 42 = .ok (.getfield 13, 3) := by decide +kernel
theorem dX5_springLength_45 : decode cX5_springLength 45 = .ok (.i2d, 1) := by decide +kernel
theorem dX5_springLength_46 : decode cX5_springLength 46 = .ok (.dsub, 1) := by decide +kernel
theorem dX5_springLength_47 : decode cX5_springLength 47 = .ok (.dmul, 1) := by decide +kernel
theorem dX5_springLength_48 : decode cX5_springLength 48 = .ok (.ldc2_w 90, 3) := by decide +kernel
theorem dX5_springLength_51 : decode cX5_springLength 51 = .ok (.ddiv, 1) := by decide +kernel
theorem dX5_springLength_52 : decode cX5_springLength 52 = .ok (.dadd, 1) := by decide +kernel
theorem dX5_springLength_53 : decode cX5_springLength 53 = .ok (.dstore 4, 2) := by decide +kernel
theorem dX5_springLength_55 : decode cX5_springLength 55 = .ok (.dload_n 2, 1) := by decide +kernel
theorem dX5_springLength_56 : decode cX5_springLength 56 = .ok (.aload_n 1, 1) := by decide +kernel
theorem dX5_springLength_57 : decode cX5_springLength 57 = .ok (.getfield 92, 3) := by decide +kernel
theorem dX5_springLength_60 : decode cX5_springLength 60 = .ok (.i2d, 1) := by decide +kernel
theorem dX5_springLength_61 : decode cX5_springLength 61 = .ok (.dsub, 1) := by decide +kernel
theorem dX5_springLength_62 : decode cX5_springLength 62 = .ok (.dload_n 2, 1) := by decide +kernel
theorem dX5_springLength_63 : decode cX5_springLength 63 = .ok (.aload_n 1, 1) := by decide +kernel
theorem dX5_springLength_64 : decode cX5_springLength 64 = .ok (.getfield 92, 3) := by decide +kernel
theorem dX5_springLength_67 : decode cX5_springLength 67 = .ok (.i2d, 1) := by decide +kernel
theorem dX5_springLength_68 : decode cX5_springLength 68 = .ok (.dsub, 1) := by decide +kernel
theorem dX5_springLength_69 : decode cX5_springLength 69 = .ok (.dmul, 1) := by decide +kernel
theorem dX5_springLength_70 : decode cX5_springLength 70 = .ok (.dload 4, 2) := by decide +kernel
theorem dX5_springLength_72 : decode cX5_springLength 72 = .ok (.aload_n 1, 1) := by decide +kernel
theorem dX5_springLength_73 : decode cX5_springLength 73 = .ok (.getfield 95, 3) := by decide +kernel
theorem dX5_springLength_76 : decode cX5_springLength 76 = .ok (.i2d, 1) := by decide +kernel
theorem dX5_springLength_77 : decode cX5_springLength 77 = .ok (.dsub, 1) := by decide +kernel
theorem dX5_springLength_78 : decode cX5_springLength 78 = .ok (.dload 4, 2) := by decide +kernel
theorem dX5_springLength_80 : decode cX5_springLength 80 = .ok (.aload_n 1, 1) := by decide +kernel
theorem dX5_springLength_81 : decode cX5_springLength 81 = .ok (.getfield 95, 3) := by decide +kernel
theorem dX5_springLength_84 : decode cX5_springLength 84 = .ok (.i2d, 1) := by decide +kernel
theorem dX5_springLength_85 : decode cX5_springLength 85 = .ok (.dsub, 1) := by decide +kernel
theorem dX5_springLength_86 : decode cX5_springLength 86 = .ok (.dmul, 1) := by decide +kernel
theorem dX5_springLength_87 : decode cX5_springLength 87 = .ok (.dadd, 1) := by decide +kernel
theorem dX5_springLength_88 : decode cX5_springLength 88 = .ok (.invokestatic 27, 3) := by decide +kernel
theorem dX5_springLength_91 : decode cX5_springLength 91 = .ok (.dreturn, 1) := by decide +kernel
theorem dX5_squareFrom_0 : decode cX5_squareFrom 0 = .ok (.iload_n 2, 1) := by decide +kernel
theorem dX5_squareFrom_1 : decode cX5_squareFrom 1 = .ok (.i2d, 1) := by decide +kernel
theorem dX5_squareFrom_2 : decode cX5_squareFrom 2 = .ok (.aload_n 0, 1) := by decide +kernel
theorem dX5_squareFrom_3 : decode cX5_squareFrom 3 = .ok (.getfield 33, 3) := by decide +kernel
theorem dX5_squareFrom_6 : decode cX5_squareFrom 6 = .ok (.dsub, 1) := by decide +kernel
theorem dX5_squareFrom_7 : decode cX5_squareFrom 7 = .ok (.aload_n 0, 1) := by decide +kernel
theorem dX5_squareFrom_8 : decode cX5_squareFrom 8 = .ok (.getfield 63, 3) := by decide +kernel
theorem dX5_squareFrom_11 : decode cX5_squareFrom 11 = .ok (.aload_n 0, 1) := by decide +kernel
theorem dX5_squareFrom_12 : decode cX5_squareFrom 12 = .ok (.getfield 33, 3) := by decide +kernel
theorem dX5_squareFrom_15 : decode cX5_squareFrom 15 = .ok (.dsub, 1) := by decide +kernel
theorem dX5_squareFrom_16 : decode cX5_squareFrom 16 = .ok (.dmul, 1) := by decide +kernel
theorem dX5_squareFrom_17 : decode cX5_squareFrom 17 = .ok (.iload_n 3, 1) := by decide +kernel
theorem dX5_squareFrom_18 : decode cX5_squareFrom 18 = .ok (.i2d, 1) := by decide +kernel
theorem dX5_squareFrom_19 : decode cX5_squareFrom 19 = .ok (.aload_n 0, 1) := by decide +kernel
theorem dX5_squareFrom_20 : decode cX5_squareFrom 20 = .ok (.getfield 37, 3) := by decide +kernel
theorem dX5_squareFrom_23 : decode cX5_squareFrom 23 = .ok (.dsub, 1) := by decide +kernel
theorem dX5_squareFrom_24 : decode cX5_squareFrom 24 = .ok (.aload_n 0, 1) := by decide +kernel
theorem dX5_squareFrom_25 : decode cX5_squareFrom 25 = .ok (.getfield 66, 3) := by decide +kernel
theorem dX5_squareFrom_28 : decode cX5_squareFrom 28 = .ok (.aload_n 0, 1) := by decide +kernel
theorem dX5_squareFrom_29 : decode cX5_squareFrom 29 = .ok (.getfield 37, 3) := by decide +kernel
theorem dX5_squareFrom_32 : decode cX5_squareFrom 32 = .ok (.dsub, 1) := by decide +kernel
theorem dX5_squareFrom_33 : decode cX5_squareFrom 33 = .ok (.dmul, 1) := by decide +kernel
theorem dX5_squareFrom_34 : decode cX5_squareFrom 34 = .ok (.dadd, 1) := by decide +kernel
theorem dX5_squareFrom_35 : decode cX5_squareFrom 35 = .ok (.aload_n 1, 1) := by decide +kernel
theorem dX5_squareFrom_36 : decode cX5_squareFrom 36 = .ok (.getfield 46, 3) := by decide +kernel
theorem dX5_squareFrom_39 : decode cX5_squareFrom 39 = .ok (.aload_n 1, 1) := by decide +kernel
theorem dX5_squareFrom_40 : decode cX5_squareFrom 40 = .ok (.getfield 46, 3) := by decide +kernel
theorem dX5_squareFrom_43 : decode cX5_squareFrom 43 = .ok (.imul, 1) := by decide +kernel
theorem dX5_squareFrom_44 : decode cX5_squareFrom 44 = .ok (.i2d, 1) := by decide +kernel
theorem dX5_squareFrom_45 : decode cX5_squareFrom 45 = .ok (.ddiv, 1) := by decide +kernel
theorem dX5_squareFrom_46 : decode cX5_squareFrom 46 = .ok (.dstore 4, 2) := by decide +kernel
theorem dX5_squareFrom_48 : decode cX5_squareFrom 48 = .ok (.dload 4, 2) := by decide +kernel
theorem dX5_squareFrom_50 : decode cX5_squareFrom 50 = .ok (.dconst 0, 1) := by decide +kernel
theorem dX5_squareFrom_51 : decode cX5_squareFrom 51 = .ok (.dcmp .g, 1) := by decide +kernel
theorem dX5_squareFrom_52 : decode cX5_squareFrom 52 = .ok (.ifCond .ge 7, 3) := by decide +kernel
theorem dX5_squareFrom_55 : decode cX5_squareFrom 55 = .ok (.dconst 0, 1) := by decide +kernel
theorem dX5_squareFrom_56 : decode cX5_squareFrom 56 = .ok (.goto 5, 3) := by decide +kernel
theorem dX5_squareFrom_59 : decode cX5_squareFrom 59 = .ok (.dload 4, 2) := by decide +kernel
theorem dX5_squareFrom_61 : decode cX5_squareFrom 61 = .ok (.dstore 4, 2) := by decide +kernel
theorem dX5_squareFrom_63 : decode cX5_squareFrom 63 = .ok (.dload 4, 2) := by decide +kernel
theorem dX5_squareFrom_65 : decode cX5_squareFrom 65 = .ok (.dconst 1, 1) := by decide +kernel
theorem dX5_squareFrom_66 : decode cX5_squareFrom 66 = .ok (.dcmp .l, 1) := by decide +kernel
theorem dX5_squareFrom_67 : decode cX5_squareFrom 67 = .ok (.ifCond .le 7, 3) := by decide +kernel
theorem dX5_squareFrom_70 : decode cX5_squareFrom 70 = .ok (.dconst 1, 1) := by decide +kernel
theorem dX5_squareFrom_71 : decode cX5_squareFrom 71 = .ok (.goto 5, 3) := by decide +kernel
theorem dX5_squareFrom_74 : decode cX5_squareFrom 74 = .ok (.dload 4, 2) := by decide +kernel
theorem dX5_squareFrom_76 : decode cX5_squareFrom 76 = .ok (.dstore 4, 2) := by decide +kernel
theorem dX5_squareFrom_78 : decode cX5_squareFrom 78 = .ok (.iload_n 2, 1) := by decide +kernel
theorem dX5_squareFrom_79 : decode cX5_squareFrom 79 = .ok (.i2d, 1) := by decide +kernel
theorem dX5_squareFrom_80 : decode cX5_squareFrom 80 = .ok (.aload_n 0, 1) := by decide +kernel
theorem dX5_squareFrom_81 : decode cX5_squareFrom 81 = .ok (.getfield 33, 3) := by decide +kernel
theorem dX5_squareFrom_84 : decode cX5_squareFrom 84 = .ok (.dload 4, 2) := by decide +kernel
theorem dX5_squareFrom_86 : decode cX5_squareFrom 86 = .ok (.aload_n 0, 1) := by decide +kernel
theorem dX5_squareFrom_87 : decode cX5_squareFrom 87 = .ok (.getfield 63, 3) := by decide +kernel
theorem dX5_squareFrom_90 : decode cX5_squareFrom 90 = .ok (.aload_n 0, 1) := by decide +kernel
theorem dX5_squareFrom_91 : decode cX5_squareFrom 91 = .ok (.getfield 33, 3) := by decide +kernel
theorem dX5_squareFrom_94 : decode cX5_squareFrom 94 = .ok (.dsub, 1) := by decide +kernel
theorem dX5_squareFrom_95 : decode cX5_squareFrom 95 = .ok (.dmul, 1) := by decide +kernel
theorem dX5_squareFrom_96 : decode cX5_squareFrom 96 = .ok (.dadd, 1) := by decide +kernel
theorem dX5_squareFrom_97 : decode cX5_squareFrom 97 = .ok (.dsub, 1) := by decide +kernel
theorem dX5_squareFrom_98 : decode cX5_squareFrom 98 = .ok (.dstore 6, 2) := by decide +kernel
theorem dX5_squareFrom_100 : decode cX5_squareFrom 100 = .ok (.iload_n 3, 1) := by decide +kernel
theorem dX5_squareFrom_101 : decode cX5_squareFrom 101 = .ok (.i2d, 1) := by decide +kernel
theorem dX5_squareFrom_102 : decode cX5_squareFrom 102 = .ok (.aload_n 0, 1) := by decide +kernel
theorem dX5_squareFrom_103 : decode cX5_squareFrom 103 = .ok (.getfield 37, 3) := by decide +kernel
theorem dX5_squareFrom_106 : decode cX5_squareFrom 106 = .ok (.dload 4, 2) := by decide +kernel
theorem dX5_squareFrom_108 : decode cX5_squareFrom 108 = .ok (.aload_n 0, 1) := by decide +kernel
theorem dX5_squareFrom_109 : decode cX5_squareFrom 109 = .ok (.getfield 66, 3) := by decide +kernel
theorem dX5_squareFrom_112 : decode cX5_squareFrom 112 = .ok (.aload_n 0, 1) := by decide +kernel
theorem dX5_squareFrom_113 : decode cX5_squareFrom 113 = .ok (.getfield 37, 3) := by decide +kernel
theorem dX5_squareFrom_116 : decode cX5_squareFrom 116 = .ok (.dsub, 1) := by decide +kernel
theorem dX5_squareFrom_117 : decode cX5_squareFrom 117 = .ok (.dmul, 1) := by decide +kernel
theorem dX5_squareFrom_118 : decode cX5_squareFrom 118 = .ok (.dadd, 1) := by decide +kernel
theorem dX5_squareFrom_119 : decode cX5_squareFrom 119 = .ok (.dsub, 1) := by decide +kernel
theorem dX5_squareFrom_120 : decode cX5_squareFrom 120 = .ok (.dstore 8, 2) := by decide +kernel
theorem dX5_squareFrom_122 : decode cX5_squareFrom 122 = .ok (.dload 6, 2) := by decide +kernel
theorem dX5_squareFrom_124 : decode cX5_squareFrom 124 = .ok (.dload 6, 2) := by decide +kernel
theorem dX5_squareFrom_126 : decode cX5_squareFrom 126 = .ok (.dmul, 1) := by decide +kernel
theorem dX5_squareFrom_127 : decode cX5_squareFrom 127 = .ok (.dload 8, 2) := by decide +kernel
theorem dX5_squareFrom_129 : decode cX5_squareFrom 129 = .ok (.dload 8, 2) := by decide +kernel
theorem dX5_squareFrom_131 : decode cX5_squareFrom 131 = .ok (.dmul, 1) := by decide +kernel
theorem dX5_squareFrom_132 : decode cX5_squareFrom 132 = .ok (.dadd, 1) := by decide +kernel
theorem dX5_squareFrom_133 : decode cX5_squareFrom 133 = .ok (.dreturn, 1) := by decide +kernel
set_option maxRecDepth 20000 in
theorem ggX6_init_X5_init : GoodIn wsX6_init wsX5_init := goodIn_r _ [25, 26, 2, 3] (by decide +kernel) (by decide +kernel)
set_option maxRecDepth 20000 in
theorem gX6_init_X5_init_n17 : GoodIn wsX6_init (wsX5_init) := ggX6_init_X5_init
set_option maxRecDepth 20000 in
theorem ggX6_init_X0_init : GoodIn wsX6_init wsX0_init := goodIn_r _ [28, 29, 2, 3] (by decide +kernel) (by decide +kernel)
set_option maxRecDepth 20000 in
theorem gX6_init_X0_init_n24 : GoodIn wsX6_init (wsX0_init) := ggX6_init_X0_init
set_option maxRecDepth 20000 in
theorem ggX6_init_X4_init : GoodIn wsX6_init wsX4_init := goodIn_r _ [31, 32, 2, 3, 33, 34, 35, 82, 83] (by decide +kernel) (by decide +kernel)
set_option maxRecDepth 20000 in
theorem gX6_init_X4_init_n31 : GoodIn wsX6_init (wsX4_init) := ggX6_init_X4_init
set_option maxRecDepth 20000 in
theorem ggX6_init_X3_init : GoodIn wsX6_init wsX3_init := goodIn_r _ [37, 38, 2, 3, 33, 39, 40, 41, 84, 85, 86] (by decide +kernel) (by decide +kernel)
set_option maxRecDepth 20000 in
theorem gX6_init_X3_init_n38 : GoodIn wsX6_init (wsX3_init) := ggX6_init_X3_init
set_option maxRecDepth 20000 in
theorem ggX6_init_X2_init : GoodIn wsX6_init wsX2_init := goodIn_r _ [43, 44, 2, 3, 45, 46, 47, 48, 49, 50, 51, 52, 53, 54, 55, 56, 57, 87, 88, 89, 90, 91, 92, 93, 94, 95, 96, 97, 98, 99] (by decide +kernel) (by decide +kernel)
set_option maxRecDepth 20000 in
theorem gX6_init_X2_init_n43 : GoodIn wsX6_init (wsX2_init) := ggX6_init_X2_init
theorem dX6_init_0 : decode cX6_init 0 = .ok (.aload_n 0, 1) := by decide +kernel
theorem dX6_init_1 : decode cX6_init 1 = .ok (.invokespecial 1, 3) := by decide +kernel
theorem dX6_init_4 : decode cX6_init 4 = .ok (.aload_n 0, 1) := by decide +kernel
theorem dX6_init_5 : decode cX6_init 5 = .ok (.iconst 4, 1) := by decide +kernel
theorem dX6_init_6 : decode cX6_init 6 = .ok (.anewarray 9, 3) := by decide +kernel
theorem dX6_init_9 : decode cX6_init 9 = .ok (.putfield 11, 3) := by decide +kernel
theorem dX6_init_12 : decode cX6_init 12 = .ok (.aload_n 0, 1) := by decide +kernel
theorem dX6_init_13 : decode cX6_init 13 = .ok (.new 15, 3) := by decide +kernel
theorem dX6_init_16 : decode cX6_init 16 = .ok (.dup, 1) := by decide +kernel
theorem dX6_init_17 : decode cX6_init 17 = .ok (.invokespecial 17, 3) := by decide +kernel
theorem dX6_init_20 : decode cX6_init 20 = .ok (.putfield 18, 3) := by decide +kernel
theorem dX6_init_23 : decode cX6_init 23 = .ok (.aload_n 0, 1) := by decide +kernel
theorem dX6_init_24 : decode cX6_init 24 = .ok (.new 22, 3) := by decide +kernel
theorem dX6_init_27 : decode cX6_init 27 = .ok (.dup, 1) := by decide +kernel
theorem dX6_init_28 : decode cX6_init 28 = .ok (.invokespecial 24, 3) := by decide +kernel
theorem dX6_init_31 : decode cX6_init 31 = .ok (.putfield 25, 3) := by decide +kernel
theorem dX6_init_34 : decode cX6_init 34 = .ok (.aload_n 0, 1) := by decide +kernel
theorem dX6_init_35 : decode cX6_init 35 = .ok (.new 29, 3) := by decide +kernel
theorem dX6_init_38 : decode cX6_init 38 = .ok (.dup, 1) := by decide +kernel
theorem dX6_init_39 : decode cX6_init 39 = .ok (.invokespecial 31, 3) := by decide +kernel
theorem dX6_init_42 : decode cX6_init 42 = .ok (.putfield 32, 3) := by decide +kernel
theorem dX6_init_45 : decode cX6_init 45 = .ok (.aload_n 0, 1) := by decide +kernel
theorem dX6_init_46 : decode cX6_init 46 = .ok (.new 36, 3) := by decide +kernel
theorem dX6_init_49 : decode cX6_init 49 = .ok (.dup, 1) := by decide +kernel
theorem dX6_init_50 : decode cX6_init 50 = .ok (.invokespecial 38, 3) := by decide +kernel
theorem dX6_init_53 : decode cX6_init 53 = .ok (.putfield 39, 3) := by decide +kernel
theorem dX6_init_56 : decode cX6_init 56 = .ok (.iconst 0, 1) := by decide +kernel
theorem dX6_init_57 : decode cX6_init 57 = .ok (.istore_n 1, 1) := by decide +kernel
theorem dX6_init_58 : decode cX6_init 58 = .ok (.iload_n 1, 1) := by decide +kernel
theorem dX6_init_59 : decode cX6_init 59 = .ok (.aload_n 0, 1) := by decide +kernel
theorem dX6_init_60 : decode cX6_init 60 = .ok (.getfield 11, 3) := by decide +kernel
theorem dX6_init_63 : decode cX6_init 63 = .ok (.arraylength, 1) := by decide +kernel
theorem dX6_init_64 : decode cX6_init 64 = .ok (.if_icmp .ge 22, 3) := by decide +kernel
theorem dX6_init_67 : decode cX6_init 67 = .ok (.aload_n 0, 1) := by decide +kernel
theorem dX6_init_68 : decode cX6_init 68 = .ok (.getfield 11, 3) := by decide +kernel
theorem dX6_init_71 : decode cX6_init 71 = .ok (.iload_n 1, 1) := by decide +kernel
theorem dX6_init_72 : decode cX6_init 72 = .ok (.new 9, 3) := by decide +kernel
theorem dX6_init_75 : decode cX6_init 75 = .ok (.dup, 1) := by decide +kernel
theorem dX6_init_76 : decode cX6_init 76 = .ok (.invokespecial 43, 3) := by decide +kernel
theorem dX6_init_79 : decode cX6_init 79 = .ok (.aastore, 1) := by decide +kernel
theorem dX6_init_80 : decode cX6_init 80 = .ok (.iinc 1 1, 3) := by decide +kernel
theorem dX6_init_83 : decode cX6_init 83 = .ok (.goto (-25), 3) := by decide +kernel
theorem dX6_init_86 : decode cX6_init 86 = .ok (.return_, 1) := by decide +kernel
set_option maxRecDepth 20000 in
theorem ggX6_hang_X6_isHanging : GoodIn wsX6_hang wsX6_isHanging := goodIn_r _ [5, 6, 7, 4, 8] (by decide +kernel) (by decide +kernel)
set_option maxRecDepth 20000 in
theorem gX6_hang_X6_isHanging : GoodIn wsX6_hang (va_wsS RX6 44 yX6_isHanging wsX6_isHanging) := goodIn_app (goodIn_of _ (by decide +kernel)) ggX6_hang_X6_isHanging
set_option maxRecDepth 20000 in
theorem ggX6_hang_X6_isPoint : GoodIn wsX6_hang wsX6_isPoint := goodIn_r _ [11, 12, 13, 4, 14, 6, 7, 8] (by decide +kernel) (by decide +kernel)
set_option maxRecDepth 20000 in
theorem gX6_hang_X6_isPoint : GoodIn wsX6_hang (va_wsS RX6 48 yX6_isPoint wsX6_isPoint) := goodIn_app (goodIn_of _ (by decide +kernel)) ggX6_hang_X6_isPoint
set_option maxRecDepth 20000 in
theorem ggX6_hang_X6_isArm : GoodIn wsX6_hang wsX6_isArm := goodIn_r _ [17, 6, 7, 4, 8] (by decide +kernel) (by decide +kernel)
set_option maxRecDepth 20000 in
theorem gX6_hang_X6_isArm : GoodIn wsX6_hang (va_wsS RX6 52 yX6_isArm wsX6_isArm) := goodIn_app (goodIn_of _ (by decide +kernel)) ggX6_hang_X6_isArm
set_option maxRecDepth 20000 in
theorem ggX6_hang_X2_setUpperArm : GoodIn wsX6_hang wsX2_setUpperArm := goodIn_r _ [21, 22, 23, 24, 41, 42, 43, 44, 45, 46, 47, 48, 49, 50, 51, 52, 53] (by decide +kernel) (by decide +kernel)
set_option maxRecDepth 20000 in
theorem gX6_hang_X2_setUpperArm_n55 : GoodIn wsX6_hang (wsX2_setUpperArm) := ggX6_hang_X2_setUpperArm
set_option maxRecDepth 20000 in
theorem ggX6_hang_X2_setLowerArm : GoodIn wsX6_hang wsX2_setLowerArm := goodIn_r _ [27, 28, 29, 30, 41, 42, 43, 44, 45, 46, 47, 48, 49, 50, 51, 52, 53] (by decide +kernel) (by decide +kernel)
set_option maxRecDepth 20000 in
theorem gX6_hang_X2_setLowerArm_n59 : GoodIn wsX6_hang (wsX2_setLowerArm) := ggX6_hang_X2_setLowerArm
set_option maxRecDepth 20000 in
theorem ggX6_hang_X2_setUpright : GoodIn wsX6_hang wsX2_setUpright := goodIn_r _ [33, 34, 35, 41, 42, 43, 44, 45, 46, 47, 48, 49, 50, 51, 52, 53] (by decide +kernel) (by decide +kernel)
set_option maxRecDepth 20000 in
theorem gX6_hang_X2_setUpright_n62 : GoodIn wsX6_hang (wsX2_setUpright) := ggX6_hang_X2_setUpright
theorem dX6_hang_0 : decode cX6_hang 0 = .ok (.iload_n 1, 1) := by decide +kernel
theorem dX6_hang_1 : decode cX6_hang 1 = .ok (.invokestatic 44, 3) := by decide +kernel
theorem dX6_hang_4 : decode cX6_hang 4 = .ok (.ifCond .eq 21, 3) := by decide +kernel
theorem dX6_hang_7 : decode cX6_hang 7 = .ok (.iload_n 2, 1) := by decide +kernel
theorem dX6_hang_8 : decode cX6_hang 8 = .ok (.iload_n 3, 1) := by decide +kernel
theorem dX6_hang_9 : decode cX6_hang 9 = .ok (.invokestatic 48, 3) := by decide +kernel
theorem dX6_hang_12 : decode cX6_hang 12 = .ok (.ifCond .eq 13, 3) := by decide +kernel
theorem dX6_hang_15 : decode cX6_hang 15 = .ok (.iload 4, 2) := by decide +kernel
theorem dX6_hang_17 : decode cX6_hang 17 = .ok (.iload 5, 2) := by decide +kernel
theorem dX6_hang_19 : decode cX6_hang 19 = .ok (.invokestatic 48, 3) := by decide +kernel
theorem dX6_hang_22 : decode cX6_hang 22 = .ok (.ifCond .ne 6, 3) := by decide +kernel
theorem dX6_hang_25 : decode cX6_hang 25 = .ok (.bipush (-2), 2) := by decide +kernel
theorem dX6_hang_27 : decode cX6_hang 27 = .ok (.ireturn, 1) := by decide +kernel
theorem dX6_hang_28 : decode cX6_hang 28 = .ok (.iload 6, 2) := by decide +kernel
theorem dX6_hang_30 : decode cX6_hang 30 = .ok (.invokestatic 52, 3) := by decide +kernel
theorem dX6_hang_33 : decode cX6_hang 33 = .ok (.ifCond .eq 31, 3) := by decide +kernel
theorem dX6_hang_36 : decode cX6_hang 36 = .ok (.iload 7, 2) := by decide +kernel
theorem dX6_hang_38 : decode cX6_hang 38 = .ok (.invokestatic 52, 3) := by decide +kernel
theorem dX6_hang_41 : decode cX6_hang 41 = .ok (.ifCond .eq 23, 3) := by decide +kernel
theorem dX6_hang_44 : decode cX6_hang 44 = .ok (.iload 8, 2) := by decide +kernel
theorem dX6_hang_46 : decode cX6_hang 46 = .ok (.invokestatic 52, 3) := by decide +kernel
theorem dX6_hang_49 : decode cX6_hang 49 = .ok (.ifCond .eq 15, 3) := by decide +kernel
theorem dX6_hang_52 : decode cX6_hang 52 = .ok (.iload 9, 2) := by decide +kernel
theorem dX6_hang_54 : decode cX6_hang 54 = .ok (.iconst 1, 1) := by decide +kernel
end
section
theorem dX6_hang_55 : decode cX6_hang 55 = .ok (.if_icmp .eq 12, 3) := by decide +kernel
theorem dX6_hang_58 : decode cX6_hang 58 = .ok (.iload 9, 2) := by decide +kernel
theorem dX6_hang_60 : decode cX6_hang 60 = .ok (.iconst (-1), 1) := by decide +kernel
theorem dX6_hang_61 : decode cX6_hang 61 = .ok (.if_icmp .eq 6, 3) := by decide +kernel
theorem dX6_hang_64 : decode cX6_hang 64 = .ok (.bipush (-2), 2) := by decide +kernel
theorem dX6_hang_66 : decode cX6_hang 66 = .ok (.ireturn, 1) := by decide +kernel
theorem dX6_hang_67 : decode cX6_hang 67 = .ok (.aload_n 0, 1) := by decide +kernel
theorem dX6_hang_68 : decode cX6_hang 68 = .ok (.getfield 11, 3) := by decide +kernel
theorem dX6_hang_71 : decode cX6_hang 71 = .ok (.iload_n 1, 1) := by decide +kernel
theorem dX6_hang_72 : decode cX6_hang 72 = .ok (.aaload, 1) := by decide +kernel
theorem dX6_hang_73 : decode cX6_hang 73 = .ok (.iload_n 2, 1) := by decide +kernel
theorem dX6_hang_74 : decode cX6_hang 74 = .ok (.iload_n 3, 1) := by decide +kernel
theorem dX6_hang_75 : decode cX6_hang 75 = .ok (.iload 6, 2) := by decide +kernel
theorem dX6_hang_77 : decode cX6_hang 77 = .ok (.invokevirtual 55, 3) := by decide +kernel
theorem dX6_hang_80 : decode cX6_hang 80 = .ok (.aload_n 0, 1) := by decide +kernel
theorem dX6_hang_81 : decode cX6_hang 81 = .ok (.getfield 11, 3) := by decide +kernel
theorem dX6_hang_84 : decode cX6_hang 84 = .ok (.iload_n 1, 1) := by decide +kernel
theorem dX6_hang_85 : decode cX6_hang 85 = .ok (.aaload, 1) := by decide +kernel
theorem dX6_hang_86 : decode cX6_hang 86 = .ok (.iload 4, 2) := by decide +kernel
theorem dX6_hang_88 : decode cX6_hang 88 = .ok (.iload 5, 2) := by decide +kernel
theorem dX6_hang_90 : decode cX6_hang 90 = .ok (.iload 7, 2) := by decide +kernel
theorem dX6_hang_92 : decode cX6_hang 92 = .ok (.invokevirtual 59, 3) := by decide +kernel
theorem dX6_hang_95 : decode cX6_hang 95 = .ok (.aload_n 0, 1) := by decide +kernel
theorem dX6_hang_96 : decode cX6_hang 96 = .ok (.getfield 11, 3) := by decide +kernel
theorem dX6_hang_99 : decode cX6_hang 99 = .ok (.iload_n 1, 1) := by decide +kernel
theorem dX6_hang_100 : decode cX6_hang 100 = .ok (.aaload, 1) := by decide +kernel
theorem dX6_hang_101 : decode cX6_hang 101 = .ok (.iload 8, 2) := by decide +kernel
theorem dX6_hang_103 : decode cX6_hang 103 = .ok (.iload 9, 2) := by decide +kernel
theorem dX6_hang_105 : decode cX6_hang 105 = .ok (.invokevirtual 62, 3) := by decide +kernel
theorem dX6_hang_108 : decode cX6_hang 108 = .ok (.iconst 1, 1) := by decide +kernel
theorem dX6_hang_109 : decode cX6_hang 109 = .ok (.ireturn, 1) := by decide +kernel
set_option maxRecDepth 20000 in
theorem ggX6_wheel_X6_isHanging : GoodIn wsX6_wheel wsX6_isHanging := goodIn_r _ [5, 6, 7, 4, 8] (by decide +kernel) (by decide +kernel)
set_option maxRecDepth 20000 in
theorem gX6_wheel_X6_isHanging : GoodIn wsX6_wheel (va_wsS RX6 44 yX6_isHanging wsX6_isHanging) := goodIn_app (goodIn_of _ (by decide +kernel)) ggX6_wheel_X6_isHanging
set_option maxRecDepth 20000 in
theorem ggX6_wheel_X6_isPoint : GoodIn wsX6_wheel wsX6_isPoint := goodIn_r _ [11, 12, 13, 4, 14, 6, 7, 8] (by decide +kernel) (by decide +kernel)
set_option maxRecDepth 20000 in
theorem gX6_wheel_X6_isPoint : GoodIn wsX6_wheel (va_wsS RX6 48 yX6_isPoint wsX6_isPoint) := goodIn_app (goodIn_of _ (by decide +kernel)) ggX6_wheel_X6_isPoint
set_option maxRecDepth 20000 in
theorem ggX6_wheel_X2_setRoadPoint : GoodIn wsX6_wheel wsX2_setRoadPoint := goodIn_r _ [18, 19, 20, 26, 27, 28, 29, 30, 31, 32, 33, 34, 35, 36, 37, 38] (by decide +kernel) (by decide +kernel)
set_option maxRecDepth 20000 in
theorem gX6_wheel_X2_setRoadPoint_n66 : GoodIn wsX6_wheel (wsX2_setRoadPoint) := ggX6_wheel_X2_setRoadPoint
theorem dX6_wheel_0 : decode cX6_wheel 0 = .ok (.iload_n 1, 1) := by decide +kernel
theorem dX6_wheel_1 : decode cX6_wheel 1 = .ok (.invokestatic 44, 3) := by decide +kernel
theorem dX6_wheel_4 : decode cX6_wheel 4 = .ok (.ifCond .eq 11, 3) := by decide +kernel
theorem dX6_wheel_7 : decode cX6_wheel 7 = .ok (.iload_n 2, 1) := by decide +kernel
theorem dX6_wheel_8 : decode cX6_wheel 8 = .ok (.iload_n 3, 1) := by decide +kernel
theorem dX6_wheel_9 : decode cX6_wheel 9 = .ok (.invokestatic 48, 3) := by decide +kernel
theorem dX6_wheel_12 : decode cX6_wheel 12 = .ok (.ifCond .ne 6, 3) := by decide +kernel
theorem dX6_wheel_15 : decode cX6_wheel 15 = .ok (.bipush (-2), 2) := by decide +kernel
theorem dX6_wheel_17 : decode cX6_wheel 17 = .ok (.ireturn, 1) := by decide +kernel
theorem dX6_wheel_18 : decode cX6_wheel 18 = .ok (.aload_n 0, 1) := by decide +kernel
theorem dX6_wheel_19 : decode cX6_wheel 19 = .ok (.getfield 11, 3) := by decide +kernel
theorem dX6_wheel_22 : decode cX6_wheel 22 = .ok (.iload_n 1, 1) := by decide +kernel
theorem dX6_wheel_23 : decode cX6_wheel 23 = .ok (.aaload, 1) := by decide +kernel
theorem dX6_wheel_24 : decode cX6_wheel 24 = .ok (.iload_n 2, 1) := by decide +kernel
theorem dX6_wheel_25 : decode cX6_wheel 25 = .ok (.iload_n 3, 1) := by decide +kernel
theorem dX6_wheel_26 : decode cX6_wheel 26 = .ok (.invokevirtual 66, 3) := by decide +kernel
theorem dX6_wheel_29 : decode cX6_wheel 29 = .ok (.iconst 1, 1) := by decide +kernel
theorem dX6_wheel_30 : decode cX6_wheel 30 = .ok (.ireturn, 1) := by decide +kernel
set_option maxRecDepth 20000 in
theorem ggX6_spring_X6_isHanging : GoodIn wsX6_spring wsX6_isHanging := goodIn_r _ [5, 6, 7, 4, 8] (by decide +kernel) (by decide +kernel)
set_option maxRecDepth 20000 in
theorem gX6_spring_X6_isHanging : GoodIn wsX6_spring (va_wsS RX6 44 yX6_isHanging wsX6_isHanging) := goodIn_app (goodIn_of _ (by decide +kernel)) ggX6_spring_X6_isHanging
set_option maxRecDepth 20000 in
theorem ggX6_spring_X6_isPoint : GoodIn wsX6_spring wsX6_isPoint := goodIn_r _ [11, 12, 13, 4, 14, 6, 7, 8] (by decide +kernel) (by decide +kernel)
set_option maxRecDepth 20000 in
theorem gX6_spring_X6_isPoint : GoodIn wsX6_spring (va_wsS RX6 48 yX6_isPoint wsX6_isPoint) := goodIn_app (goodIn_of _ (by decide +kernel)) ggX6_spring_X6_isPoint
set_option maxRecDepth 20000 in
theorem ggX6_spring_X6_isWithin : GoodIn wsX6_spring wsX6_isWithin := goodIn_r _ [8] (by decide +kernel) (by decide +kernel)
set_option maxRecDepth 20000 in
theorem gX6_spring_X6_isWithin : GoodIn wsX6_spring (va_wsS RX6 69 yX6_isWithin wsX6_isWithin) := goodIn_app (goodIn_of _ (by decide +kernel)) ggX6_spring_X6_isWithin
set_option maxRecDepth 20000 in
theorem ggX6_spring_X2_setSpring : GoodIn wsX6_spring wsX2_setSpring := goodIn_r _ [18, 19, 20, 21, 27, 28, 29, 30, 31, 32, 33, 34, 35, 36, 37, 38, 39] (by decide +kernel) (by decide +kernel)
set_option maxRecDepth 20000 in
theorem gX6_spring_X2_setSpring_n73 : GoodIn wsX6_spring (wsX2_setSpring) := ggX6_spring_X2_setSpring
theorem dX6_spring_0 : decode cX6_spring 0 = .ok (.iload_n 1, 1) := by decide +kernel
theorem dX6_spring_1 : decode cX6_spring 1 = .ok (.invokestatic 44, 3) := by decide +kernel
theorem dX6_spring_4 : decode cX6_spring 4 = .ok (.ifCond .eq 23, 3) := by decide +kernel
theorem dX6_spring_7 : decode cX6_spring 7 = .ok (.iload_n 2, 1) := by decide +kernel
theorem dX6_spring_8 : decode cX6_spring 8 = .ok (.iload_n 3, 1) := by decide +kernel
theorem dX6_spring_9 : decode cX6_spring 9 = .ok (.invokestatic 48, 3) := by decide +kernel
theorem dX6_spring_12 : decode cX6_spring 12 = .ok (.ifCond .eq 15, 3) := by decide +kernel
theorem dX6_spring_15 : decode cX6_spring 15 = .ok (.iload 4, 2) := by decide +kernel
theorem dX6_spring_17 : decode cX6_spring 17 = .ok (.iconst 0, 1) := by decide +kernel
theorem dX6_spring_18 : decode cX6_spring 18 = .ok (.sipush 1000, 3) := by decide +kernel
theorem dX6_spring_21 : decode cX6_spring 21 = .ok (.invokestatic 69, 3) := by decide +kernel
theorem dX6_spring_24 : decode cX6_spring 24 = .ok (.ifCond .ne 6, 3) := by decide +kernel
theorem dX6_spring_27 : decode cX6_spring 27 = .ok (.bipush (-2), 2) := by decide +kernel
theorem dX6_spring_29 : decode cX6_spring 29 = .ok (.ireturn, 1) := by decide +kernel
theorem dX6_spring_30 : decode cX6_spring 30 = .ok (.aload_n 0, 1) := by decide +kernel
theorem dX6_spring_31 : decode cX6_spring 31 = .ok (.getfield 11, 3) := by decide +kernel
theorem dX6_spring_34 : decode cX6_spring 34 = .ok (.iload_n 1, 1) := by decide +kernel
theorem dX6_spring_35 : decode cX6_spring 35 = .ok (.aaload, 1) := by decide +kernel
theorem dX6_spring_36 : decode cX6_spring 36 = .ok (.iload_n 2, 1) := by decide +kernel
theorem dX6_spring_37 : decode cX6_spring 37 = .ok (.iload_n 3, 1) := by decide +kernel
theorem dX6_spring_38 : decode cX6_spring 38 = .ok (.iload 4, 2) := by decide +kernel
theorem dX6_spring_40 : decode cX6_spring 40 = .ok (.invokevirtual 73, 3) := by decide +kernel
theorem dX6_spring_43 : decode cX6_spring 43 = .ok (.iconst 1, 1) := by decide +kernel
theorem dX6_spring_44 : decode cX6_spring 44 = .ok (.ireturn, 1) := by decide +kernel
set_option maxRecDepth 20000 in
theorem ggX6_mirror_X6_isHanging : GoodIn wsX6_mirror wsX6_isHanging := goodIn_r _ [5, 6, 7, 4, 8] (by decide +kernel) (by decide +kernel)
set_option maxRecDepth 20000 in
theorem gX6_mirror_X6_isHanging : GoodIn wsX6_mirror (va_wsS RX6 44 yX6_isHanging wsX6_isHanging) := goodIn_app (goodIn_of _ (by decide +kernel)) ggX6_mirror_X6_isHanging
set_option maxRecDepth 20000 in
theorem ggX6_mirror_X2_becomeMirrorOf : GoodIn wsX6_mirror wsX2_becomeMirrorOf := goodIn_r _ [12, 13, 14, 15, 16, 17, 18, 19, 20, 21, 22, 23, 24, 25, 26, 27, 28, 10, 29, 30, 31, 32, 33, 34, 35, 36, 37, 38, 39, 40, 41, 42, 43, 44, 45, 51, 52, 53, 54, 55, 56, 57, 58, 59, 60, 61, 62, 63] (by decide +kernel) (by decide +kernel)
set_option maxRecDepth 20000 in
theorem gX6_mirror_X2_becomeMirrorOf_n76 : GoodIn wsX6_mirror (wsX2_becomeMirrorOf) := ggX6_mirror_X2_becomeMirrorOf
theorem dX6_mirror_0 : decode cX6_mirror 0 = .ok (.iload_n 1, 1) := by decide +kernel
theorem dX6_mirror_1 : decode cX6_mirror 1 = .ok (.invokestatic 44, 3) := by decide +kernel
theorem dX6_mirror_4 : decode cX6_mirror 4 = .ok (.ifCond .eq 10, 3) := by decide +kernel
theorem dX6_mirror_7 : decode cX6_mirror 7 = .ok (.iload_n 2, 1) := by decide +kernel
theorem dX6_mirror_8 : decode cX6_mirror 8 = .ok (.invokestatic 44, 3) := by decide +kernel
theorem dX6_mirror_11 : decode cX6_mirror 11 = .ok (.ifCond .ne 6, 3) := by decide +kernel
theorem dX6_mirror_14 : decode cX6_mirror 14 = .ok (.bipush (-2), 2) := by decide +kernel
theorem dX6_mirror_16 : decode cX6_mirror 16 = .ok (.ireturn, 1) := by decide +kernel
theorem dX6_mirror_17 : decode cX6_mirror 17 = .ok (.aload_n 0, 1) := by decide +kernel
theorem dX6_mirror_18 : decode cX6_mirror 18 = .ok (.getfield 11, 3) := by decide +kernel
theorem dX6_mirror_21 : decode cX6_mirror 21 = .ok (.iload_n 2, 1) := by decide +kernel
theorem dX6_mirror_22 : decode cX6_mirror 22 = .ok (.aaload, 1) := by decide +kernel
theorem dX6_mirror_23 : decode cX6_mirror 23 = .ok (.aload_n 0, 1) := by decide +kernel
theorem dX6_mirror_24 : decode cX6_mirror 24 = .ok (.getfield 11, 3) := by decide +kernel
theorem dX6_mirror_27 : decode cX6_mirror 27 = .ok (.iload_n 1, 1) := by decide +kernel
theorem dX6_mirror_28 : decode cX6_mirror 28 = .ok (.aaload, 1) := by decide +kernel
theorem dX6_mirror_29 : decode cX6_mirror 29 = .ok (.invokevirtual 76, 3) := by decide +kernel
theorem dX6_mirror_32 : decode cX6_mirror 32 = .ok (.iconst 1, 1) := by decide +kernel
theorem dX6_mirror_33 : decode cX6_mirror 33 = .ok (.ireturn, 1) := by decide +kernel
set_option maxRecDepth 20000 in
theorem ggX6_pose_X6_isHanging : GoodIn wsX6_pose wsX6_isHanging := goodIn_r _ [8, 9, 10, 7, 11] (by decide +kernel) (by decide +kernel)
set_option maxRecDepth 20000 in
theorem gX6_pose_X6_isHanging : GoodIn wsX6_pose (va_wsS RX6 44 yX6_isHanging wsX6_isHanging) := goodIn_app (goodIn_of _ (by decide +kernel)) ggX6_pose_X6_isHanging
set_option maxRecDepth 20000 in
theorem ggX6_pose_X6_isCoordinate : GoodIn wsX6_pose wsX6_isCoordinate := goodIn_r _ [14, 9, 10, 7, 11] (by decide +kernel) (by decide +kernel)
set_option maxRecDepth 20000 in
theorem gX6_pose_X6_isCoordinate : GoodIn wsX6_pose (va_wsS RX6 80 yX6_isCoordinate wsX6_isCoordinate) := goodIn_app (goodIn_of _ (by decide +kernel)) ggX6_pose_X6_isCoordinate
set_option maxRecDepth 20000 in
theorem ggX6_pose_X6_isWithin : GoodIn wsX6_pose wsX6_isWithin := goodIn_r _ [11] (by decide +kernel) (by decide +kernel)
set_option maxRecDepth 20000 in
theorem gX6_pose_X6_isWithin : GoodIn wsX6_pose (va_wsS RX6 69 yX6_isWithin wsX6_isWithin) := goodIn_app (goodIn_of _ (by decide +kernel)) ggX6_pose_X6_isWithin
set_option maxRecDepth 20000 in
theorem ggX6_pose_X6_springShare : GoodIn wsX6_pose wsX6_springShare := goodIn_r _ [18, 3, 4, 19, 20, 21, 22, 23, 24, 25, 26, 27, 28, 29, 30, 31, 32, 33, 34, 35, 36, 37, 38, 39, 40, 41, 42, 43, 44, 45, 46, 47, 48, 49, 50, 51, 52, 53, 54, 55, 82, 83, 84, 85, 86, 87, 88, 89, 90, 91, 92, 93, 94, 95, 96, 97, 98, 99, 100, 101, 102, 103, 104, 105, 106, 107, 108, 109, 110, 111, 112, 113] (by decide +kernel) (by decide +kernel)
set_option maxRecDepth 20000 in
theorem gX6_pose_X6_springShare : GoodIn wsX6_pose (wsV RX6 85 RX6 yX6_springShare wsX6_springShare) := goodIn_app (goodIn_of _ (by decide +kernel)) ggX6_pose_X6_springShare
set_option maxRecDepth 20000 in
theorem ggX6_pose_X5_reach : GoodIn wsX6_pose wsX5_reach := goodIn_r _ [23, 24, 25, 26, 27, 28, 29, 30, 31, 32, 33, 34, 35, 36, 37, 38, 39, 40, 41, 42, 43, 44, 45, 46, 87, 88, 89, 90, 91, 92, 93, 94, 95, 96, 97, 98, 99, 100, 101, 102, 103, 104, 105, 106, 107, 108, 109, 110, 111, 112, 113] (by decide +kernel) (by decide +kernel)
set_option maxRecDepth 20000 in
theorem gX6_pose_X5_reach_n96 : GoodIn wsX6_pose (wsX5_reach) := ggX6_pose_X5_reach
set_option maxRecDepth 20000 in
theorem ggX6_pose_X5_placeUpright : GoodIn wsX6_pose wsX5_placeUpright := goodIn_r _ [58, 32, 26, 31, 28, 29, 59, 27, 60, 61, 62, 33, 34, 35, 36, 37, 38, 39, 40, 41, 42, 43, 44, 45, 46, 87, 88, 89, 90, 91, 92, 93, 94, 95, 96, 97, 98, 99, 100, 101, 102, 103, 104, 105, 106, 107, 108, 109, 110, 111, 112, 113] (by decide +kernel) (by decide +kernel)
set_option maxRecDepth 20000 in
theorem gX6_pose_X5_placeUpright_n102 : GoodIn wsX6_pose (wsX5_placeUpright) := ggX6_pose_X5_placeUpright
set_option maxRecDepth 20000 in
theorem ggX6_pose_X6_tellWheel : GoodIn wsX6_pose wsX6_tellWheel := goodIn_r _ [66, 3, 4, 51, 34, 52, 53, 54, 37, 42, 55, 67, 21, 68, 69, 26, 61, 62, 70, 71, 72, 27, 82, 83, 84, 85, 86, 100, 101, 102, 103, 104, 105, 106, 107, 108, 109, 110, 111, 112, 113, 87, 88, 89, 90, 91, 92, 93, 94, 95, 96, 97, 98, 99] (by decide +kernel) (by decide +kernel)
set_option maxRecDepth 20000 in
theorem gX6_pose_X6_tellWheel : GoodIn wsX6_pose (wsV RX6 105 RX6 yX6_tellWheel wsX6_tellWheel) := goodIn_app (goodIn_of _ (by decide +kernel)) ggX6_pose_X6_tellWheel
set_option maxRecDepth 20000 in
theorem ggX6_pose_X6_tellTravel : GoodIn wsX6_pose wsX6_tellTravel := goodIn_r _ [76, 3, 4, 47, 21, 48, 49, 26, 50, 27, 33, 34, 35, 36, 37, 38, 39, 40, 41, 42, 43, 44, 45, 46, 51, 52, 53, 54, 55, 77, 78, 79, 59, 24, 60, 25, 80, 81, 67, 68, 69, 61, 62, 70, 71, 72, 82, 83, 84, 85, 86, 100, 101, 102, 103, 104, 105, 106, 107, 108, 109, 110, 111, 112, 113, 87, 88, 89, 90, 91, 92, 93, 94, 95, 96, 97, 98, 99] (by decide +kernel) (by decide +kernel)
set_option maxRecDepth 20000 in
theorem gX6_pose_X6_tellTravel : GoodIn wsX6_pose (wsV RX6 108 RX6 yX6_tellTravel wsX6_tellTravel) := goodIn_app (goodIn_of _ (by decide +kernel)) ggX6_pose_X6_tellTravel
theorem dX6_pose_0 : decode cX6_pose 0 = .ok (.iload_n 1, 1) := by decide +kernel
theorem dX6_pose_1 : decode cX6_pose 1 = .ok (.invokestatic 44, 3) := by decide +kernel
theorem dX6_pose_4 : decode cX6_pose 4 = .ok (.ifCond .eq 20, 3) := by decide +kernel
theorem dX6_pose_7 : decode cX6_pose 7 = .ok (.iload_n 2, 1) := by decide +kernel
theorem dX6_pose_8 : decode cX6_pose 8 = .ok (.invokestatic 80, 3) := by decide +kernel
theorem dX6_pose_11 : decode cX6_pose 11 = .ok (.ifCond .eq 13, 3) := by decide +kernel
theorem dX6_pose_14 : decode cX6_pose 14 = .ok (.iload_n 3, 1) := by decide +kernel
theorem dX6_pose_15 : decode cX6_pose 15 = .ok (.iconst 0, 1) := by decide +kernel
theorem dX6_pose_16 : decode cX6_pose 16 = .ok (.bipush 11, 2) := by decide +kernel
theorem dX6_pose_18 : decode cX6_pose 18 = .ok (.invokestatic 69, 3) := by decide +kernel
theorem dX6_pose_21 : decode cX6_pose 21 = .ok (.ifCond .ne 7, 3) := by decide +kernel
theorem dX6_pose_24 : decode cX6_pose 24 = .ok (.ldc2_w 83, 3) := by decide +kernel
theorem dX6_pose_27 : decode cX6_pose 27 = .ok (.lreturn, 1) := by decide +kernel
theorem dX6_pose_28 : decode cX6_pose 28 = .ok (.aload_n 0, 1) := by decide +kernel
theorem dX6_pose_29 : decode cX6_pose 29 = .ok (.getfield 11, 3) := by decide +kernel
theorem dX6_pose_32 : decode cX6_pose 32 = .ok (.iload_n 1, 1) := by decide +kernel
theorem dX6_pose_33 : decode cX6_pose 33 = .ok (.aaload, 1) := by decide +kernel
theorem dX6_pose_34 : decode cX6_pose 34 = .ok (.astore 4, 2) := by decide +kernel
theorem dX6_pose_36 : decode cX6_pose 36 = .ok (.iload_n 3, 1) := by decide +kernel
theorem dX6_pose_37 : decode cX6_pose 37 = .ok (.bipush 11, 2) := by decide +kernel
theorem dX6_pose_39 : decode cX6_pose 39 = .ok (.if_icmp .ne 11, 3) := by decide +kernel
theorem dX6_pose_42 : decode cX6_pose 42 = .ok (.aload_n 0, 1) := by decide +kernel
theorem dX6_pose_43 : decode cX6_pose 43 = .ok (.aload 4, 2) := by decide +kernel
theorem dX6_pose_45 : decode cX6_pose 45 = .ok (.iload_n 2, 1) := by decide +kernel
theorem dX6_pose_46 : decode cX6_pose 46 = .ok (.invokevirtual 85, 3) := by decide +kernel
theorem dX6_pose_49 : decode cX6_pose 49 = .ok (.lreturn, 1) := by decide +kernel
theorem dX6_pose_50 : decode cX6_pose 50 = .ok (.aload_n 0, 1) := by decide +kernel
theorem dX6_pose_51 : decode cX6_pose 51 = .ok (.getfield 18, 3) := by decide +kernel
theorem dX6_pose_54 : decode cX6_pose 54 = .ok (.aload 4, 2) := by decide +kernel
theorem dX6_pose_56 : decode cX6_pose 56 = .ok (.aload 4, 2) := by decide +kernel
theorem dX6_pose_58 : decode cX6_pose 58 = .ok (.getfield 89, 3) := by decide +kernel
theorem dX6_pose_61 : decode cX6_pose 61 = .ok (.aload 4, 2) := by decide +kernel
theorem dX6_pose_63 : decode cX6_pose 63 = .ok (.getfield 93, 3) := by decide +kernel
theorem dX6_pose_66 : decode cX6_pose 66 = .ok (.iload_n 2, 1) := by decide +kernel
theorem dX6_pose_67 : decode cX6_pose 67 = .ok (.invokevirtual 96, 3) := by decide +kernel
theorem dX6_pose_70 : decode cX6_pose 70 = .ok (.ifCond .ne 7, 3) := by decide +kernel
theorem dX6_pose_73 : decode cX6_pose 73 = .ok (.ldc2_w 100, 3) := by decide +kernel
theorem dX6_pose_76 : decode cX6_pose 76 = .ok (.lreturn, 1) := by decide +kernel
theorem dX6_pose_77 : decode cX6_pose 77 = .ok (.aload_n 0, 1) := by decide +kernel
theorem dX6_pose_78 : decode cX6_pose 78 = .ok (.getfield 18, 3) := by decide +kernel
theorem dX6_pose_81 : decode cX6_pose 81 = .ok (.aload 4, 2) := by decide +kernel
theorem dX6_pose_83 : decode cX6_pose 83 = .ok (.invokevirtual 102, 3) := by decide +kernel
theorem dX6_pose_86 : decode cX6_pose 86 = .ok (.iload_n 3, 1) := by decide +kernel
theorem dX6_pose_87 : decode cX6_pose 87 = .ok (.bipush 7, 2) := by decide +kernel
theorem dX6_pose_89 : decode cX6_pose 89 = .ok (.if_icmp .ge 13, 3) := by decide +kernel
theorem dX6_pose_92 : decode cX6_pose 92 = .ok (.aload_n 0, 1) := by decide +kernel
theorem dX6_pose_93 : decode cX6_pose 93 = .ok (.aload 4, 2) := by decide +kernel
theorem dX6_pose_95 : decode cX6_pose 95 = .ok (.iload_n 3, 1) := by decide +kernel
theorem dX6_pose_96 : decode cX6_pose 96 = .ok (.invokevirtual 105, 3) := by decide +kernel
theorem dX6_pose_99 : decode cX6_pose 99 = .ok (.goto 10, 3) := by decide +kernel
theorem dX6_pose_102 : decode cX6_pose 102 = .ok (.aload_n 0, 1) := by decide +kernel
theorem dX6_pose_103 : decode cX6_pose 103 = .ok (.aload 4, 2) := by decide +kernel
theorem dX6_pose_105 : decode cX6_pose 105 = .ok (.iload_n 3, 1) := by decide +kernel
theorem dX6_pose_106 : decode cX6_pose 106 = .ok (.invokevirtual 108, 3) := by decide +kernel
theorem dX6_pose_109 : decode cX6_pose 109 = .ok (.lreturn, 1) := by decide +kernel
set_option maxRecDepth 20000 in
theorem ggX6_lock_X6_isHanging : GoodIn wsX6_lock wsX6_isHanging := goodIn_r _ [6, 7, 8, 5, 9] (by decide +kernel) (by decide +kernel)
set_option maxRecDepth 20000 in
theorem gX6_lock_X6_isHanging : GoodIn wsX6_lock (va_wsS RX6 44 yX6_isHanging wsX6_isHanging) := goodIn_app (goodIn_of _ (by decide +kernel)) ggX6_lock_X6_isHanging
set_option maxRecDepth 20000 in
theorem ggX6_lock_X6_isSpan : GoodIn wsX6_lock wsX6_isSpan := goodIn_r _ [12, 13, 14, 5, 15, 7, 8, 9] (by decide +kernel) (by decide +kernel)
set_option maxRecDepth 20000 in
theorem gX6_lock_X6_isSpan : GoodIn wsX6_lock (va_wsS RX6 111 yX6_isSpan wsX6_isSpan) := goodIn_app (goodIn_of _ (by decide +kernel)) ggX6_lock_X6_isSpan
set_option maxRecDepth 20000 in
theorem ggX6_lock_X5_reach : GoodIn wsX6_lock wsX5_reach := goodIn_r _ [19, 20, 21, 22, 23, 24, 25, 26, 27, 28, 29, 30, 31, 32, 33, 34, 35, 36, 37, 38, 39, 40, 41, 42, 48, 49, 50, 51, 52, 53, 54, 55, 56, 57, 58, 59, 60, 61, 62, 63, 64, 65, 66, 67, 68, 69, 70, 71, 72, 73, 74] (by decide +kernel) (by decide +kernel)
set_option maxRecDepth 20000 in
theorem gX6_lock_X5_reach_n96 : GoodIn wsX6_lock (wsX5_reach) := ggX6_lock_X5_reach
theorem dX6_lock_0 : decode cX6_lock 0 = .ok (.iload_n 1, 1) := by decide +kernel
theorem dX6_lock_1 : decode cX6_lock 1 = .ok (.invokestatic 44, 3) := by decide +kernel
theorem dX6_lock_4 : decode cX6_lock 4 = .ok (.ifCond .eq 11, 3) := by decide +kernel
theorem dX6_lock_7 : decode cX6_lock 7 = .ok (.iload_n 2, 1) := by decide +kernel
theorem dX6_lock_8 : decode cX6_lock 8 = .ok (.iload_n 3, 1) := by decide +kernel
theorem dX6_lock_9 : decode cX6_lock 9 = .ok (.invokestatic 111, 3) := by decide +kernel
theorem dX6_lock_12 : decode cX6_lock 12 = .ok (.ifCond .ne 7, 3) := by decide +kernel
theorem dX6_lock_15 : decode cX6_lock 15 = .ok (.sipush (-2000), 3) := by decide +kernel
theorem dX6_lock_18 : decode cX6_lock 18 = .ok (.ireturn, 1) := by decide +kernel
theorem dX6_lock_19 : decode cX6_lock 19 = .ok (.aload_n 0, 1) := by decide +kernel
theorem dX6_lock_20 : decode cX6_lock 20 = .ok (.getfield 11, 3) := by decide +kernel
theorem dX6_lock_23 : decode cX6_lock 23 = .ok (.iload_n 1, 1) := by decide +kernel
theorem dX6_lock_24 : decode cX6_lock 24 = .ok (.aaload, 1) := by decide +kernel
theorem dX6_lock_25 : decode cX6_lock 25 = .ok (.astore 4, 2) := by decide +kernel
theorem dX6_lock_27 : decode cX6_lock 27 = .ok (.iload_n 2, 1) := by decide +kernel
theorem dX6_lock_28 : decode cX6_lock 28 = .ok (.istore 5, 2) := by decide +kernel
theorem dX6_lock_30 : decode cX6_lock 30 = .ok (.iload 5, 2) := by decide +kernel
theorem dX6_lock_32 : decode cX6_lock 32 = .ok (.iload_n 3, 1) := by decide +kernel
theorem dX6_lock_33 : decode cX6_lock 33 = .ok (.if_icmp .gt 36, 3) := by decide +kernel
theorem dX6_lock_36 : decode cX6_lock 36 = .ok (.aload_n 0, 1) := by decide +kernel
theorem dX6_lock_37 : decode cX6_lock 37 = .ok (.getfield 18, 3) := by decide +kernel
theorem dX6_lock_40 : decode cX6_lock 40 = .ok (.aload 4, 2) := by decide +kernel
theorem dX6_lock_42 : decode cX6_lock 42 = .ok (.aload 4, 2) := by decide +kernel
theorem dX6_lock_44 : decode cX6_lock 44 = .ok (.getfield 89, 3) := by decide +kernel
theorem dX6_lock_47 : decode cX6_lock 47 = .ok (.aload 4, 2) := by decide +kernel
theorem dX6_lock_49 : decode cX6_lock 49 = .ok (.getfield 93, 3) := by decide +kernel
theorem dX6_lock_52 : decode cX6_lock 52 = .ok (.iload 5, 2) := by decide +kernel
theorem dX6_lock_54 : decode cX6_lock 54 = .ok (.invokevirtual 96, 3) := by decide +kernel
theorem dX6_lock_57 : decode cX6_lock 57 = .ok (.ifCond .ne 6, 3) := by decide +kernel
theorem dX6_lock_60 : decode cX6_lock 60 = .ok (.iload 5, 2) := by decide +kernel
theorem dX6_lock_62 : decode cX6_lock 62 = .ok (.ireturn, 1) := by decide +kernel
theorem dX6_lock_63 : decode cX6_lock 63 = .ok (.iinc 5 1, 3) := by decide +kernel
theorem dX6_lock_66 : decode cX6_lock 66 = .ok (.goto (-36), 3) := by decide +kernel
theorem dX6_lock_69 : decode cX6_lock 69 = .ok (.iconst (-1), 1) := by decide +kernel
theorem dX6_lock_70 : decode cX6_lock 70 = .ok (.ireturn, 1) := by decide +kernel
set_option maxRecDepth 20000 in
theorem ggX6_weight_X6_isWithin : GoodIn wsX6_weight wsX6_isWithin := goodIn_r _ [6] (by decide +kernel) (by decide +kernel)
set_option maxRecDepth 20000 in
theorem gX6_weight_X6_isWithin : GoodIn wsX6_weight (va_wsS RX6 69 yX6_isWithin wsX6_isWithin) := goodIn_app (goodIn_of _ (by decide +kernel)) ggX6_weight_X6_isWithin
set_option maxRecDepth 20000 in
theorem ggX6_weight_X0_load : GoodIn wsX6_weight wsX0_load := goodIn_r _ [10, 11, 12, 13, 19, 20, 21, 22, 23] (by decide +kernel) (by decide +kernel)
set_option maxRecDepth 20000 in
theorem gX6_weight_X0_load_n115 : GoodIn wsX6_weight (wsX0_load) := ggX6_weight_X0_load
theorem dX6_weight_0 : decode cX6_weight 0 = .ok (.iload_n 1, 1) := by decide +kernel
theorem dX6_weight_1 : decode cX6_weight 1 = .ok (.iconst 0, 1) := by decide +kernel
theorem dX6_weight_2 : decode cX6_weight 2 = .ok (.ldc 114, 2) := by decide +kernel
theorem dX6_weight_4 : decode cX6_weight 4 = .ok (.invokestatic 69, 3) := by decide +kernel
theorem dX6_weight_7 : decode cX6_weight 7 = .ok (.ifCond .eq 27, 3) := by decide +kernel
theorem dX6_weight_10 : decode cX6_weight 10 = .ok (.iload_n 2, 1) := by decide +kernel
theorem dX6_weight_11 : decode cX6_weight 11 = .ok (.iconst 0, 1) := by decide +kernel
theorem dX6_weight_12 : decode cX6_weight 12 = .ok (.sipush 1000, 3) := by decide +kernel
theorem dX6_weight_15 : decode cX6_weight 15 = .ok (.invokestatic 69, 3) := by decide +kernel
theorem dX6_weight_18 : decode cX6_weight 18 = .ok (.ifCond .eq 16, 3) := by decide +kernel
theorem dX6_weight_21 : decode cX6_weight 21 = .ok (.iload_n 3, 1) := by decide +kernel
theorem dX6_weight_22 : decode cX6_weight 22 = .ok (.sipush (-500), 3) := by decide +kernel
theorem dX6_weight_25 : decode cX6_weight 25 = .ok (.sipush 500, 3) := by decide +kernel
theorem dX6_weight_28 : decode cX6_weight 28 = .ok (.invokestatic 69, 3) := by decide +kernel
theorem dX6_weight_31 : decode cX6_weight 31 = .ok (.ifCond .ne 6, 3) := by decide +kernel
theorem dX6_weight_34 : decode cX6_weight 34 = .ok (.bipush (-2), 2) := by decide +kernel
theorem dX6_weight_36 : decode cX6_weight 36 = .ok (.ireturn, 1) := by decide +kernel
theorem dX6_weight_37 : decode cX6_weight 37 = .ok (.aload_n 0, 1) := by decide +kernel
theorem dX6_weight_38 : decode cX6_weight 38 = .ok (.getfield 25, 3) := by decide +kernel
theorem dX6_weight_41 : decode cX6_weight 41 = .ok (.iload_n 1, 1) := by decide +kernel
theorem dX6_weight_42 : decode cX6_weight 42 = .ok (.iload_n 2, 1) := by decide +kernel
theorem dX6_weight_43 : decode cX6_weight 43 = .ok (.iload_n 3, 1) := by decide +kernel
theorem dX6_weight_44 : decode cX6_weight 44 = .ok (.invokevirtual 115, 3) := by decide +kernel
theorem dX6_weight_47 : decode cX6_weight 47 = .ok (.iconst 1, 1) := by decide +kernel
theorem dX6_weight_48 : decode cX6_weight 48 = .ok (.ireturn, 1) := by decide +kernel
set_option maxRecDepth 20000 in
theorem ggX6_push_X6_isWithin : GoodIn wsX6_push wsX6_isWithin := goodIn_r _ [7] (by decide +kernel) (by decide +kernel)
set_option maxRecDepth 20000 in
theorem gX6_push_X6_isWithin : GoodIn wsX6_push (va_wsS RX6 69 yX6_isWithin wsX6_isWithin) := goodIn_app (goodIn_of _ (by decide +kernel)) ggX6_push_X6_isWithin
set_option maxRecDepth 20000 in
theorem ggX6_push_X0_lean : GoodIn wsX6_push wsX0_lean := goodIn_r _ [11, 12, 13, 19, 20, 21, 22, 23] (by decide +kernel) (by decide +kernel)
set_option maxRecDepth 20000 in
theorem gX6_push_X0_lean_n119 : GoodIn wsX6_push (wsX0_lean) := ggX6_push_X0_lean
theorem dX6_push_0 : decode cX6_push 0 = .ok (.iload_n 1, 1) := by decide +kernel
theorem dX6_push_1 : decode cX6_push 1 = .ok (.ldc 118, 2) := by decide +kernel
theorem dX6_push_3 : decode cX6_push 3 = .ok (.ldc 114, 2) := by decide +kernel
theorem dX6_push_5 : decode cX6_push 5 = .ok (.invokestatic 69, 3) := by decide +kernel
theorem dX6_push_8 : decode cX6_push 8 = .ok (.ifCond .eq 14, 3) := by decide +kernel
theorem dX6_push_11 : decode cX6_push 11 = .ok (.iload_n 2, 1) := by decide +kernel
theorem dX6_push_12 : decode cX6_push 12 = .ok (.iconst 0, 1) := by decide +kernel
theorem dX6_push_13 : decode cX6_push 13 = .ok (.sipush 1000, 3) := by decide +kernel
theorem dX6_push_16 : decode cX6_push 16 = .ok (.invokestatic 69, 3) := by decide +kernel
theorem dX6_push_19 : decode cX6_push 19 = .ok (.ifCond .ne 6, 3) := by decide +kernel
theorem dX6_push_22 : decode cX6_push 22 = .ok (.bipush (-2), 2) := by decide +kernel
theorem dX6_push_24 : decode cX6_push 24 = .ok (.ireturn, 1) := by decide +kernel
theorem dX6_push_25 : decode cX6_push 25 = .ok (.aload_n 0, 1) := by decide +kernel
theorem dX6_push_26 : decode cX6_push 26 = .ok (.getfield 25, 3) := by decide +kernel
theorem dX6_push_29 : decode cX6_push 29 = .ok (.iload_n 1, 1) := by decide +kernel
theorem dX6_push_30 : decode cX6_push 30 = .ok (.iload_n 2, 1) := by decide +kernel
theorem dX6_push_31 : decode cX6_push 31 = .ok (.invokevirtual 119, 3) := by decide +kernel
theorem dX6_push_34 : decode cX6_push 34 = .ok (.iconst 1, 1) := by decide +kernel
theorem dX6_push_35 : decode cX6_push 35 = .ok (.ireturn, 1) := by decide +kernel
set_option maxRecDepth 20000 in
theorem ggX6_carries_X6_isWithin : GoodIn wsX6_carries wsX6_isWithin := goodIn_r _ [6] (by decide +kernel) (by decide +kernel)
set_option maxRecDepth 20000 in
theorem gX6_carries_X6_isWithin : GoodIn wsX6_carries (va_wsS RX6 69 yX6_isWithin wsX6_isWithin) := goodIn_app (goodIn_of _ (by decide +kernel)) ggX6_carries_X6_isWithin
set_option maxRecDepth 20000 in
theorem ggX6_carries_X0_loadOf : GoodIn wsX6_carries wsX0_loadOf := goodIn_r _ [10, 11, 12, 13, 14, 15, 21, 22, 23, 24, 25] (by decide +kernel) (by decide +kernel)
set_option maxRecDepth 20000 in
theorem gX6_carries_X0_loadOf_n122 : GoodIn wsX6_carries (wsX0_loadOf) := ggX6_carries_X0_loadOf
theorem dX6_carries_0 : decode cX6_carries 0 = .ok (.iload_n 1, 1) := by decide +kernel
theorem dX6_carries_1 : decode cX6_carries 1 = .ok (.iconst 0, 1) := by decide +kernel
theorem dX6_carries_2 : decode cX6_carries 2 = .ok (.iconst 3, 1) := by decide +kernel
theorem dX6_carries_3 : decode cX6_carries 3 = .ok (.invokestatic 69, 3) := by decide +kernel
theorem dX6_carries_6 : decode cX6_carries 6 = .ok (.ifCond .eq 14, 3) := by decide +kernel
theorem dX6_carries_9 : decode cX6_carries 9 = .ok (.aload_n 0, 1) := by decide +kernel
theorem dX6_carries_10 : decode cX6_carries 10 = .ok (.getfield 25, 3) := by decide +kernel
theorem dX6_carries_13 : decode cX6_carries 13 = .ok (.iload_n 1, 1) := by decide +kernel
theorem dX6_carries_14 : decode cX6_carries 14 = .ok (.invokevirtual 122, 3) := by decide +kernel
theorem dX6_carries_17 : decode cX6_carries 17 = .ok (.goto 5, 3) := by decide +kernel
theorem dX6_carries_20 : decode cX6_carries 20 = .ok (.ldc 126, 2) := by decide +kernel
theorem dX6_carries_22 : decode cX6_carries 22 = .ok (.ireturn, 1) := by decide +kernel
set_option maxRecDepth 20000 in
theorem ggX6_shim_X6_isWithin : GoodIn wsX6_shim wsX6_isWithin := goodIn_r _ [5] (by decide +kernel) (by decide +kernel)
set_option maxRecDepth 20000 in
theorem gX6_shim_X6_isWithin : GoodIn wsX6_shim (va_wsS RX6 69 yX6_isWithin wsX6_isWithin) := goodIn_app (goodIn_of _ (by decide +kernel)) ggX6_shim_X6_isWithin
set_option maxRecDepth 20000 in
theorem ggX6_shim_X4_add : GoodIn wsX6_shim wsX4_add := goodIn_r _ [9, 10, 11, 17, 18] (by decide +kernel) (by decide +kernel)
set_option maxRecDepth 20000 in
theorem gX6_shim_X4_add_n127 : GoodIn wsX6_shim (wsX4_add) := ggX6_shim_X4_add
theorem dX6_shim_0 : decode cX6_shim 0 = .ok (.iload_n 1, 1) := by decide +kernel
theorem dX6_shim_1 : decode cX6_shim 1 = .ok (.iconst 1, 1) := by decide +kernel
theorem dX6_shim_2 : decode cX6_shim 2 = .ok (.sipush 500, 3) := by decide +kernel
theorem dX6_shim_5 : decode cX6_shim 5 = .ok (.invokestatic 69, 3) := by decide +kernel
theorem dX6_shim_8 : decode cX6_shim 8 = .ok (.ifCond .eq 14, 3) := by decide +kernel
theorem dX6_shim_11 : decode cX6_shim 11 = .ok (.aload_n 0, 1) := by decide +kernel
theorem dX6_shim_12 : decode cX6_shim 12 = .ok (.getfield 32, 3) := by decide +kernel
theorem dX6_shim_15 : decode cX6_shim 15 = .ok (.iload_n 1, 1) := by decide +kernel
theorem dX6_shim_16 : decode cX6_shim 16 = .ok (.invokevirtual 127, 3) := by decide +kernel
theorem dX6_shim_19 : decode cX6_shim 19 = .ok (.goto 5, 3) := by decide +kernel
theorem dX6_shim_22 : decode cX6_shim 22 = .ok (.bipush (-2), 2) := by decide +kernel
theorem dX6_shim_24 : decode cX6_shim 24 = .ok (.ireturn, 1) := by decide +kernel
set_option maxRecDepth 20000 in
theorem ggX6_best_X6_isWithin : GoodIn wsX6_best wsX6_isWithin := goodIn_r _ [5] (by decide +kernel) (by decide +kernel)
set_option maxRecDepth 20000 in
theorem gX6_best_X6_isWithin : GoodIn wsX6_best (va_wsS RX6 69 yX6_isWithin wsX6_isWithin) := goodIn_app (goodIn_of _ (by decide +kernel)) ggX6_best_X6_isWithin
set_option maxRecDepth 20000 in
theorem ggX6_best_X4_nearestSet : GoodIn wsX6_best wsX4_nearestSet := goodIn_r _ [9, 10, 11, 12, 13, 14, 15, 16, 17, 18, 19, 20, 21, 22, 23, 24, 7, 25, 26, 32, 33] (by decide +kernel) (by decide +kernel)
set_option maxRecDepth 20000 in
theorem gX6_best_X4_nearestSet_n130 : GoodIn wsX6_best (wsX4_nearestSet) := ggX6_best_X4_nearestSet
theorem dX6_best_0 : decode cX6_best 0 = .ok (.iload_n 1, 1) := by decide +kernel
theorem dX6_best_1 : decode cX6_best 1 = .ok (.iconst 0, 1) := by decide +kernel
theorem dX6_best_2 : decode cX6_best 2 = .ok (.sipush 2000, 3) := by decide +kernel
theorem dX6_best_5 : decode cX6_best 5 = .ok (.invokestatic 69, 3) := by decide +kernel
theorem dX6_best_8 : decode cX6_best 8 = .ok (.ifCond .eq 24, 3) := by decide +kernel
theorem dX6_best_11 : decode cX6_best 11 = .ok (.iload_n 2, 1) := by decide +kernel
theorem dX6_best_12 : decode cX6_best 12 = .ok (.iconst 0, 1) := by decide +kernel
theorem dX6_best_13 : decode cX6_best 13 = .ok (.iconst 3, 1) := by decide +kernel
theorem dX6_best_14 : decode cX6_best 14 = .ok (.invokestatic 69, 3) := by decide +kernel
theorem dX6_best_17 : decode cX6_best 17 = .ok (.ifCond .eq 15, 3) := by decide +kernel
theorem dX6_best_20 : decode cX6_best 20 = .ok (.aload_n 0, 1) := by decide +kernel
theorem dX6_best_21 : decode cX6_best 21 = .ok (.getfield 32, 3) := by decide +kernel
theorem dX6_best_24 : decode cX6_best 24 = .ok (.iload_n 1, 1) := by decide +kernel
theorem dX6_best_25 : decode cX6_best 25 = .ok (.iload_n 2, 1) := by decide +kernel
theorem dX6_best_26 : decode cX6_best 26 = .ok (.invokevirtual 130, 3) := by decide +kernel
theorem dX6_best_29 : decode cX6_best 29 = .ok (.goto 5, 3) := by decide +kernel
theorem dX6_best_32 : decode cX6_best 32 = .ok (.bipush (-2), 2) := by decide +kernel
theorem dX6_best_34 : decode cX6_best 34 = .ok (.ireturn, 1) := by decide +kernel
set_option maxRecDepth 20000 in
theorem ggX6_reading_X6_isCoordinate : GoodIn wsX6_reading wsX6_isCoordinate := goodIn_r _ [5, 6, 7, 4, 8] (by decide +kernel) (by decide +kernel)
set_option maxRecDepth 20000 in
theorem gX6_reading_X6_isCoordinate : GoodIn wsX6_reading (va_wsS RX6 80 yX6_isCoordinate wsX6_isCoordinate) := goodIn_app (goodIn_of _ (by decide +kernel)) ggX6_reading_X6_isCoordinate
set_option maxRecDepth 20000 in
theorem ggX6_reading_X6_isWithin : GoodIn wsX6_reading wsX6_isWithin := goodIn_r _ [8] (by decide +kernel) (by decide +kernel)
set_option maxRecDepth 20000 in
theorem gX6_reading_X6_isWithin : GoodIn wsX6_reading (va_wsS RX6 69 yX6_isWithin wsX6_isWithin) := goodIn_app (goodIn_of _ (by decide +kernel)) ggX6_reading_X6_isWithin
set_option maxRecDepth 20000 in
theorem ggX6_reading_X3_add : GoodIn wsX6_reading wsX3_add := goodIn_r _ [12, 13, 14, 15, 21, 22, 23] (by decide +kernel) (by decide +kernel)
set_option maxRecDepth 20000 in
theorem gX6_reading_X3_add_n134 : GoodIn wsX6_reading (wsX3_add) := ggX6_reading_X3_add
theorem dX6_reading_0 : decode cX6_reading 0 = .ok (.iload_n 1, 1) := by decide +kernel
theorem dX6_reading_1 : decode cX6_reading 1 = .ok (.invokestatic 80, 3) := by decide +kernel
theorem dX6_reading_4 : decode cX6_reading 4 = .ok (.ifCond .eq 28, 3) := by decide +kernel
theorem dX6_reading_7 : decode cX6_reading 7 = .ok (.iload_n 2, 1) := by decide +kernel
theorem dX6_reading_8 : decode cX6_reading 8 = .ok (.sipush (-5000), 3) := by decide +kernel
theorem dX6_reading_11 : decode cX6_reading 11 = .ok (.sipush 5000, 3) := by decide +kernel
theorem dX6_reading_14 : decode cX6_reading 14 = .ok (.invokestatic 69, 3) := by decide +kernel
theorem dX6_reading_17 : decode cX6_reading 17 = .ok (.ifCond .eq 15, 3) := by decide +kernel
theorem dX6_reading_20 : decode cX6_reading 20 = .ok (.aload_n 0, 1) := by decide +kernel
theorem dX6_reading_21 : decode cX6_reading 21 = .ok (.getfield 39, 3) := by decide +kernel
theorem dX6_reading_24 : decode cX6_reading 24 = .ok (.iload_n 1, 1) := by decide +kernel
theorem dX6_reading_25 : decode cX6_reading 25 = .ok (.iload_n 2, 1) := by decide +kernel
theorem dX6_reading_26 : decode cX6_reading 26 = .ok (.invokevirtual 134, 3) := by decide +kernel
theorem dX6_reading_29 : decode cX6_reading 29 = .ok (.goto 5, 3) := by decide +kernel
theorem dX6_reading_32 : decode cX6_reading 32 = .ok (.bipush (-2), 2) := by decide +kernel
theorem dX6_reading_34 : decode cX6_reading 34 = .ok (.ireturn, 1) := by decide +kernel
theorem dX6_clear_0 : decode cX6_clear 0 = .ok (.aload_n 0, 1) := by decide +kernel
theorem dX6_clear_1 : decode cX6_clear 1 = .ok (.getfield 39, 3) := by decide +kernel
theorem dX6_clear_4 : decode cX6_clear 4 = .ok (.getfield 136, 3) := by decide +kernel
theorem dX6_clear_7 : decode cX6_clear 7 = .ok (.istore_n 1, 1) := by decide +kernel
theorem dX6_clear_8 : decode cX6_clear 8 = .ok (.aload_n 0, 1) := by decide +kernel
theorem dX6_clear_9 : decode cX6_clear 9 = .ok (.getfield 39, 3) := by decide +kernel
theorem dX6_clear_12 : decode cX6_clear 12 = .ok (.iconst 0, 1) := by decide +kernel
theorem dX6_clear_13 : decode cX6_clear 13 = .ok (.putfield 136, 3) := by decide +kernel
theorem dX6_clear_16 : decode cX6_clear 16 = .ok (.iload_n 1, 1) := by decide +kernel
theorem dX6_clear_17 : decode cX6_clear 17 = .ok (.ireturn, 1) := by decide +kernel
set_option maxRecDepth 20000 in
theorem ggX6_off_X6_isHanging : GoodIn wsX6_off wsX6_isHanging := goodIn_r _ [7, 8, 9, 6, 10] (by decide +kernel) (by decide +kernel)
set_option maxRecDepth 20000 in
theorem gX6_off_X6_isHanging : GoodIn wsX6_off (va_wsS RX6 44 yX6_isHanging wsX6_isHanging) := goodIn_app (goodIn_of _ (by decide +kernel)) ggX6_off_X6_isHanging
set_option maxRecDepth 20000 in
theorem ggX6_off_X6_howFarOff : GoodIn wsX6_off wsX6_howFarOff := goodIn_r _ [14, 15, 16, 17, 18, 19, 20, 6, 21, 22, 23, 24, 8, 9, 10, 25, 26, 27, 28, 29, 30, 31, 32, 33, 34, 35, 36, 37, 38, 39, 40, 41, 42, 43, 44, 45, 46, 47, 48, 49, 50, 51, 52, 53, 54, 55, 56, 57, 58, 69, 70, 71, 72, 73, 74, 75, 76, 77, 78, 79, 80, 81, 64, 65, 66, 67, 68, 82, 83, 84, 85, 86, 87, 88, 89, 90, 91, 92, 93, 94, 95, 96, 97, 98] (by decide +kernel) (by decide +kernel)
set_option maxRecDepth 20000 in
theorem gX6_off_X6_howFarOff : GoodIn wsX6_off (wsV RX6 139 RX6 yX6_howFarOff wsX6_howFarOff) := goodIn_app (goodIn_of _ (by decide +kernel)) ggX6_off_X6_howFarOff
set_option maxRecDepth 20000 in
theorem ggX6_off_X1_bits : GoodIn wsX6_off wsX1_bits := goodIn_r _ [60, 61, 62, 42, 47, 63] (by decide +kernel) (by decide +kernel)
set_option maxRecDepth 20000 in
theorem gX6_off_X1_bits_n143 : GoodIn wsX6_off (wsX1_bits) := ggX6_off_X1_bits
theorem dX6_off_0 : decode cX6_off 0 = .ok (.iload_n 1, 1) := by decide +kernel
theorem dX6_off_1 : decode cX6_off 1 = .ok (.invokestatic 44, 3) := by decide +kernel
theorem dX6_off_4 : decode cX6_off 4 = .ok (.ifCond .ne 7, 3) := by decide +kernel
theorem dX6_off_7 : decode cX6_off 7 = .ok (.ldc2_w 83, 3) := by decide +kernel
theorem dX6_off_10 : decode cX6_off 10 = .ok (.lreturn, 1) := by decide +kernel
theorem dX6_off_11 : decode cX6_off 11 = .ok (.aload_n 0, 1) := by decide +kernel
theorem dX6_off_12 : decode cX6_off 12 = .ok (.aload_n 0, 1) := by decide +kernel
theorem dX6_off_13 : decode cX6_off 13 = .ok (.getfield 11, 3) := by decide +kernel
theorem dX6_off_16 : decode cX6_off 16 = .ok (.iload_n 1, 1) := by decide +kernel
theorem dX6_off_17 : decode cX6_off 17 = .ok (.aaload, 1) := by decide +kernel
theorem dX6_off_18 : decode cX6_off 18 = .ok (.iconst 0, 1) := by decide +kernel
theorem dX6_off_19 : decode cX6_off 19 = .ok (.iconst 0, 1) := by decide +kernel
theorem dX6_off_20 : decode cX6_off 20 = .ok (.invokevirtual 139, 3) := by decide +kernel
theorem dX6_off_23 : decode cX6_off 23 = .ok (.dstore_n 2, 1) := by decide +kernel
theorem dX6_off_24 : decode cX6_off 24 = .ok (.dload_n 2, 1) := by decide +kernel
theorem dX6_off_25 : decode cX6_off 25 = .ok (.dconst 0, 1) := by decide +kernel
theorem dX6_off_26 : decode cX6_off 26 = .ok (.dcmp .g, 1) := by decide +kernel
theorem dX6_off_27 : decode cX6_off 27 = .ok (.ifCond .ge 9, 3) := by decide +kernel
theorem dX6_off_30 : decode cX6_off 30 = .ok (.ldc2_w 100, 3) := by decide +kernel
theorem dX6_off_33 : decode cX6_off 33 = .ok (.goto 7, 3) := by decide +kernel
theorem dX6_off_36 : decode cX6_off 36 = .ok (.dload_n 2, 1) := by decide +kernel
theorem dX6_off_37 : decode cX6_off 37 = .ok (.invokestatic 143, 3) := by decide +kernel
theorem dX6_off_40 : decode cX6_off 40 = .ok (.lreturn, 1) := by decide +kernel
set_option maxRecDepth 20000 in
theorem ggX6_found_X6_isHanging : GoodIn wsX6_found wsX6_isHanging := goodIn_r _ [8, 9, 10, 7, 11] (by decide +kernel) (by decide +kernel)
set_option maxRecDepth 20000 in
theorem gX6_found_X6_isHanging : GoodIn wsX6_found (va_wsS RX6 44 yX6_isHanging wsX6_isHanging) := goodIn_app (goodIn_of _ (by decide +kernel)) ggX6_found_X6_isHanging
set_option maxRecDepth 20000 in
theorem ggX6_found_X6_isWithin : GoodIn wsX6_found wsX6_isWithin := goodIn_r _ [11] (by decide +kernel) (by decide +kernel)
set_option maxRecDepth 20000 in
theorem gX6_found_X6_isWithin : GoodIn wsX6_found (va_wsS RX6 69 yX6_isWithin wsX6_isWithin) := goodIn_app (goodIn_of _ (by decide +kernel)) ggX6_found_X6_isWithin
set_option maxRecDepth 20000 in
theorem ggX6_found_X6_howFarOff : GoodIn wsX6_found wsX6_howFarOff := goodIn_r _ [15, 2, 16, 17, 18, 19, 20, 7, 21, 22, 23, 24, 9, 10, 11, 25, 26, 27, 28, 29, 30, 31, 32, 33, 34, 35, 36, 37, 38, 39, 40, 41, 42, 43, 44, 45, 46, 47, 48, 49, 50, 51, 52, 53, 54, 55, 56, 57, 58, 69, 70, 71, 72, 73, 74, 75, 76, 77, 78, 79, 80, 81, 64, 65, 66, 67, 68, 82, 83, 84, 85, 86, 87, 88, 89, 90, 91, 92, 93, 94, 95, 96, 97, 98] (by decide +kernel) (by decide +kernel)
set_option maxRecDepth 20000 in
theorem gX6_found_X6_howFarOff : GoodIn wsX6_found (wsV RX6 139 RX6 yX6_howFarOff wsX6_howFarOff) := goodIn_app (goodIn_of _ (by decide +kernel)) ggX6_found_X6_howFarOff
set_option maxRecDepth 20000 in
theorem ggX6_found_X1_bits : GoodIn wsX6_found wsX1_bits := goodIn_r _ [60, 61, 62, 42, 47, 63] (by decide +kernel) (by decide +kernel)
set_option maxRecDepth 20000 in
theorem gX6_found_X1_bits_n143 : GoodIn wsX6_found (wsX1_bits) := ggX6_found_X1_bits
theorem dX6_found_0 : decode cX6_found 0 = .ok (.iload_n 1, 1) := by decide +kernel
theorem dX6_found_1 : decode cX6_found 1 = .ok (.invokestatic 44, 3) := by decide +kernel
theorem dX6_found_4 : decode cX6_found 4 = .ok (.ifCond .eq 21, 3) := by decide +kernel
theorem dX6_found_7 : decode cX6_found 7 = .ok (.iload_n 2, 1) := by decide +kernel
theorem dX6_found_8 : decode cX6_found 8 = .ok (.iconst 0, 1) := by decide +kernel
theorem dX6_found_9 : decode cX6_found 9 = .ok (.iconst 3, 1) := by decide +kernel
theorem dX6_found_10 : decode cX6_found 10 = .ok (.invokestatic 69, 3) := by decide +kernel
theorem dX6_found_13 : decode cX6_found 13 = .ok (.ifCond .eq 12, 3) := by decide +kernel
theorem dX6_found_16 : decode cX6_found 16 = .ok (.iload_n 3, 1) := by decide +kernel
theorem dX6_found_17 : decode cX6_found 17 = .ok (.iconst 0, 1) := by decide +kernel
theorem dX6_found_18 : decode cX6_found 18 = .ok (.iconst 2, 1) := by decide +kernel
theorem dX6_found_19 : decode cX6_found 19 = .ok (.invokestatic 69, 3) := by decide +kernel
theorem dX6_found_22 : decode cX6_found 22 = .ok (.ifCond .ne 7, 3) := by decide +kernel
theorem dX6_found_25 : decode cX6_found 25 = .ok (.ldc2_w 83, 3) := by decide +kernel
theorem dX6_found_28 : decode cX6_found 28 = .ok (.lreturn, 1) := by decide +kernel
theorem dX6_found_29 : decode cX6_found 29 = .ok (.ldc2_w 149, 3) := by decide +kernel
theorem dX6_found_32 : decode cX6_found 32 = .ok (.dstore 4, 2) := by decide +kernel
theorem dX6_found_34 : decode cX6_found 34 = .ok (.iconst 0, 1) := by decide +kernel
theorem dX6_found_35 : decode cX6_found 35 = .ok (.istore 6, 2) := by decide +kernel
theorem dX6_found_37 : decode cX6_found 37 = .ok (.iconst 0, 1) := by decide +kernel
theorem dX6_found_38 : decode cX6_found 38 = .ok (.istore 7, 2) := by decide +kernel
theorem dX6_found_40 : decode cX6_found 40 = .ok (.iload_n 2, 1) := by decide +kernel
theorem dX6_found_41 : decode cX6_found 41 = .ok (.ineg, 1) := by decide +kernel
theorem dX6_found_42 : decode cX6_found 42 = .ok (.istore 8, 2) := by decide +kernel
theorem dX6_found_44 : decode cX6_found 44 = .ok (.iload 8, 2) := by decide +kernel
theorem dX6_found_46 : decode cX6_found 46 = .ok (.iload_n 2, 1) := by decide +kernel
theorem dX6_found_47 : decode cX6_found 47 = .ok (.if_icmp .gt 75, 3) := by decide +kernel
theorem dX6_found_50 : decode cX6_found 50 = .ok (.iload_n 2, 1) := by decide +kernel
theorem dX6_found_51 : decode cX6_found 51 = .ok (.ineg, 1) := by decide +kernel
theorem dX6_found_52 : decode cX6_found 52 = .ok (.istore 9, 2) := by decide +kernel
theorem dX6_found_54 : decode cX6_found 54 = .ok (.iload 9, 2) := by decide +kernel
theorem dX6_found_56 : decode cX6_found 56 = .ok (.iload_n 2, 1) := by decide +kernel
theorem dX6_found_57 : decode cX6_found 57 = .ok (.if_icmp .gt 59, 3) := by decide +kernel
theorem dX6_found_60 : decode cX6_found 60 = .ok (.aload_n 0, 1) := by decide +kernel
theorem dX6_found_61 : decode cX6_found 61 = .ok (.aload_n 0, 1) := by decide +kernel
theorem dX6_found_62 : decode cX6_found 62 = .ok (.getfield 11, 3) := by decide +kernel
theorem dX6_found_65 : decode cX6_found 65 = .ok (.iload_n 1, 1) := by decide +kernel
theorem dX6_found_66 : decode cX6_found 66 = .ok (.aaload, 1) := by decide +kernel
theorem dX6_found_67 : decode cX6_found 67 = .ok (.iload 8, 2) := by decide +kernel
theorem dX6_found_69 : decode cX6_found 69 = .ok (.iload 9, 2) := by decide +kernel
theorem dX6_found_71 : decode cX6_found 71 = .ok (.invokevirtual 139, 3) := by decide +kernel
theorem dX6_found_74 : decode cX6_found 74 = .ok (.dstore 10, 2) := by decide +kernel
theorem dX6_found_76 : decode cX6_found 76 = .ok (.dload 10, 2) := by decide +kernel
theorem dX6_found_78 : decode cX6_found 78 = .ok (.dconst 0, 1) := by decide +kernel
theorem dX6_found_79 : decode cX6_found 79 = .ok (.dcmp .l, 1) := by decide +kernel
theorem dX6_found_80 : decode cX6_found 80 = .ok (.ifCond .lt 30, 3) := by decide +kernel
theorem dX6_found_83 : decode cX6_found 83 = .ok (.dload 4, 2) := by decide +kernel
theorem dX6_found_85 : decode cX6_found 85 = .ok (.dconst 0, 1) := by decide +kernel
theorem dX6_found_86 : decode cX6_found 86 = .ok (.dcmp .g, 1) := by decide +kernel
theorem dX6_found_87 : decode cX6_found 87 = .ok (.ifCond .lt 11, 3) := by decide +kernel
theorem dX6_found_90 : decode cX6_found 90 = .ok (.dload 10, 2) := by decide +kernel
theorem dX6_found_92 : decode cX6_found 92 = .ok (.dload 4, 2) := by decide +kernel
theorem dX6_found_94 : decode cX6_found 94 = .ok (.dcmp .g, 1) := by decide +kernel
theorem dX6_found_95 : decode cX6_found 95 = .ok (.ifCond .ge 15, 3) := by decide +kernel
theorem dX6_found_98 : decode cX6_found 98 = .ok (.dload 10, 2) := by decide +kernel
theorem dX6_found_100 : decode cX6_found 100 = .ok (.dstore 4, 2) := by decide +kernel
theorem dX6_found_102 : decode cX6_found 102 = .ok (.iload 8, 2) := by decide +kernel
theorem dX6_found_104 : decode cX6_found 104 = .ok (.istore 6, 2) := by decide +kernel
theorem dX6_found_106 : decode cX6_found 106 = .ok (.iload 9, 2) := by decide +kernel
theorem dX6_found_108 : decode cX6_found 108 = .ok (.istore 7, 2) := by decide +kernel
theorem dX6_found_110 : decode cX6_found 110 = .ok (.iinc 9 1, 3) := by decide +kernel
theorem dX6_found_113 : decode cX6_found 113 = .ok (.goto (-59), 3) := by decide +kernel
theorem dX6_found_116 : decode cX6_found 116 = .ok (.iinc 8 1, 3) := by decide +kernel
theorem dX6_found_119 : decode cX6_found 119 = .ok (.goto (-75), 3) := by decide +kernel
theorem dX6_found_122 : decode cX6_found 122 = .ok (.dload 4, 2) := by decide +kernel
theorem dX6_found_124 : decode cX6_found 124 = .ok (.dconst 0, 1) := by decide +kernel
theorem dX6_found_125 : decode cX6_found 125 = .ok (.dcmp .g, 1) := by decide +kernel
theorem dX6_found_126 : decode cX6_found 126 = .ok (.ifCond .ge 7, 3) := by decide +kernel
theorem dX6_found_129 : decode cX6_found 129 = .ok (.ldc2_w 100, 3) := by decide +kernel
theorem dX6_found_132 : decode cX6_found 132 = .ok (.lreturn, 1) := by decide +kernel
theorem dX6_found_133 : decode cX6_found 133 = .ok (.iload_n 3, 1) := by decide +kernel
theorem dX6_found_134 : decode cX6_found 134 = .ok (.iconst 2, 1) := by decide +kernel
theorem dX6_found_135 : decode cX6_found 135 = .ok (.if_icmp .ne 9, 3) := by decide +kernel
theorem dX6_found_138 : decode cX6_found 138 = .ok (.dload 4, 2) := by decide +kernel
theorem dX6_found_140 : decode cX6_found 140 = .ok (.invokestatic 143, 3) := by decide +kernel
theorem dX6_found_143 : decode cX6_found 143 = .ok (.lreturn, 1) := by decide +kernel
theorem dX6_found_144 : decode cX6_found 144 = .ok (.iload_n 3, 1) := by decide +kernel
theorem dX6_found_145 : decode cX6_found 145 = .ok (.ifCond .ne 8, 3) := by decide +kernel
theorem dX6_found_148 : decode cX6_found 148 = .ok (.iload 6, 2) := by decide +kernel
theorem dX6_found_150 : decode cX6_found 150 = .ok (.goto 5, 3) := by decide +kernel
theorem dX6_found_153 : decode cX6_found 153 = .ok (.iload 7, 2) := by decide +kernel
theorem dX6_found_155 : decode cX6_found 155 = .ok (.bipush 10, 2) := by decide +kernel
theorem dX6_found_157 : decode cX6_found 157 = .ok (.iadd, 1) := by decide +kernel
theorem dX6_found_158 : decode cX6_found 158 = .ok (.i2l, 1) := by decide +kernel
theorem dX6_found_159 : decode cX6_found 159 = .ok (.lreturn, 1) := by decide +kernel
set_option maxRecDepth 20000 in
theorem ggX6_isClear_X6_isHanging : GoodIn wsX6_isClear wsX6_isHanging := goodIn_r _ [6, 7, 8, 5, 9] (by decide +kernel) (by decide +kernel)
set_option maxRecDepth 20000 in
theorem gX6_isClear_X6_isHanging : GoodIn wsX6_isClear (va_wsS RX6 44 yX6_isHanging wsX6_isHanging) := goodIn_app (goodIn_of _ (by decide +kernel)) ggX6_isClear_X6_isHanging
set_option maxRecDepth 20000 in
theorem ggX6_isClear_X6_isPoint : GoodIn wsX6_isClear wsX6_isPoint := goodIn_r _ [12, 13, 14, 5, 15, 7, 8, 9] (by decide +kernel) (by decide +kernel)
set_option maxRecDepth 20000 in
theorem gX6_isClear_X6_isPoint : GoodIn wsX6_isClear (va_wsS RX6 48 yX6_isPoint wsX6_isPoint) := goodIn_app (goodIn_of _ (by decide +kernel)) ggX6_isClear_X6_isPoint
set_option maxRecDepth 20000 in
theorem ggX6_isClear_X6_isWithin : GoodIn wsX6_isClear wsX6_isWithin := goodIn_r _ [9] (by decide +kernel) (by decide +kernel)
set_option maxRecDepth 20000 in
theorem gX6_isClear_X6_isWithin : GoodIn wsX6_isClear (va_wsS RX6 69 yX6_isWithin wsX6_isWithin) := goodIn_app (goodIn_of _ (by decide +kernel)) ggX6_isClear_X6_isWithin
set_option maxRecDepth 20000 in
theorem ggX6_isClear_X6_isSpan : GoodIn wsX6_isClear wsX6_isSpan := goodIn_r _ [18, 13, 14, 5, 15, 7, 8, 9] (by decide +kernel) (by decide +kernel)
set_option maxRecDepth 20000 in
theorem gX6_isClear_X6_isSpan : GoodIn wsX6_isClear (va_wsS RX6 111 yX6_isSpan wsX6_isSpan) := goodIn_app (goodIn_of _ (by decide +kernel)) ggX6_isClear_X6_isSpan
set_option maxRecDepth 20000 in
theorem ggX6_isClear_X5_reach : GoodIn wsX6_isClear wsX5_reach := goodIn_r _ [22, 23, 24, 25, 26, 27, 28, 29, 30, 31, 32, 33, 34, 35, 36, 37, 38, 39, 40, 41, 42, 43, 44, 45, 61, 62, 63, 64, 65, 66, 67, 68, 69, 70, 71, 72, 73, 74, 75, 76, 77, 78, 79, 80, 81, 82, 83, 84, 85, 86, 87] (by decide +kernel) (by decide +kernel)
set_option maxRecDepth 20000 in
theorem gX6_isClear_X5_reach_n96 : GoodIn wsX6_isClear (wsX5_reach) := ggX6_isClear_X5_reach
set_option maxRecDepth 20000 in
theorem ggX6_isClear_X5_placeUpright : GoodIn wsX6_isClear wsX5_placeUpright := goodIn_r _ [48, 31, 25, 30, 27, 28, 49, 26, 50, 51, 52, 32, 33, 34, 35, 36, 37, 38, 39, 40, 41, 42, 43, 44, 45, 61, 62, 63, 64, 65, 66, 67, 68, 69, 70, 71, 72, 73, 74, 75, 76, 77, 78, 79, 80, 81, 82, 83, 84, 85, 86, 87] (by decide +kernel) (by decide +kernel)
set_option maxRecDepth 20000 in
theorem gX6_isClear_X5_placeUpright_n102 : GoodIn wsX6_isClear (wsX5_placeUpright) := ggX6_isClear_X5_placeUpright
set_option maxRecDepth 20000 in
theorem ggX6_isClear_X5_squareFrom : GoodIn wsX6_isClear wsX5_squareFrom := goodIn_r _ [55, 25, 49, 26, 50, 74, 75, 76, 77, 78, 79, 80, 81, 82, 83, 84, 85, 86, 87, 61, 62, 63, 64, 65, 66, 67, 68, 69, 70, 71, 72, 73] (by decide +kernel) (by decide +kernel)
set_option maxRecDepth 20000 in
theorem gX6_isClear_X5_squareFrom_n151 : GoodIn wsX6_isClear (wsX5_squareFrom) := ggX6_isClear_X5_squareFrom
theorem dX6_isClear_0 : decode cX6_isClear 0 = .ok (.iload_n 1, 1) := by decide +kernel
theorem dX6_isClear_1 : decode cX6_isClear 1 = .ok (.invokestatic 44, 3) := by decide +kernel
theorem dX6_isClear_4 : decode cX6_isClear 4 = .ok (.ifCond .eq 33, 3) := by decide +kernel
theorem dX6_isClear_7 : decode cX6_isClear 7 = .ok (.iload_n 2, 1) := by decide +kernel
theorem dX6_isClear_8 : decode cX6_isClear 8 = .ok (.iload_n 3, 1) := by decide +kernel
theorem dX6_isClear_9 : decode cX6_isClear 9 = .ok (.invokestatic 48, 3) := by decide +kernel
theorem dX6_isClear_12 : decode cX6_isClear 12 = .ok (.ifCond .eq 25, 3) := by decide +kernel
theorem dX6_isClear_15 : decode cX6_isClear 15 = .ok (.iload 4, 2) := by decide +kernel
theorem dX6_isClear_17 : decode cX6_isClear 17 = .ok (.iconst 0, 1) := by decide +kernel
theorem dX6_isClear_18 : decode cX6_isClear 18 = .ok (.sipush 500, 3) := by decide +kernel
theorem dX6_isClear_21 : decode cX6_isClear 21 = .ok (.invokestatic 69, 3) := by decide +kernel
theorem dX6_isClear_24 : decode cX6_isClear 24 = .ok (.ifCond .eq 13, 3) := by decide +kernel
theorem dX6_isClear_27 : decode cX6_isClear 27 = .ok (.iload 5, 2) := by decide +kernel
theorem dX6_isClear_29 : decode cX6_isClear 29 = .ok (.iload 6, 2) := by decide +kernel
theorem dX6_isClear_31 : decode cX6_isClear 31 = .ok (.invokestatic 111, 3) := by decide +kernel
theorem dX6_isClear_34 : decode cX6_isClear 34 = .ok (.ifCond .ne 6, 3) := by decide +kernel
theorem dX6_isClear_37 : decode cX6_isClear 37 = .ok (.bipush (-2), 2) := by decide +kernel
theorem dX6_isClear_39 : decode cX6_isClear 39 = .ok (.ireturn, 1) := by decide +kernel
theorem dX6_isClear_40 : decode cX6_isClear 40 = .ok (.aload_n 0, 1) := by decide +kernel
theorem dX6_isClear_41 : decode cX6_isClear 41 = .ok (.getfield 11, 3) := by decide +kernel
theorem dX6_isClear_44 : decode cX6_isClear 44 = .ok (.iload_n 1, 1) := by decide +kernel
theorem dX6_isClear_45 : decode cX6_isClear 45 = .ok (.aaload, 1) := by decide +kernel
theorem dX6_isClear_46 : decode cX6_isClear 46 = .ok (.astore 7, 2) := by decide +kernel
theorem dX6_isClear_48 : decode cX6_isClear 48 = .ok (.iload 5, 2) := by decide +kernel
theorem dX6_isClear_50 : decode cX6_isClear 50 = .ok (.istore 8, 2) := by decide +kernel
theorem dX6_isClear_52 : decode cX6_isClear 52 = .ok (.iload 8, 2) := by decide +kernel
theorem dX6_isClear_54 : decode cX6_isClear 54 = .ok (.iload 6, 2) := by decide +kernel
theorem dX6_isClear_56 : decode cX6_isClear 56 = .ok (.if_icmp .gt 65, 3) := by decide +kernel
theorem dX6_isClear_59 : decode cX6_isClear 59 = .ok (.aload_n 0, 1) := by decide +kernel
theorem dX6_isClear_60 : decode cX6_isClear 60 = .ok (.getfield 18, 3) := by decide +kernel
theorem dX6_isClear_63 : decode cX6_isClear 63 = .ok (.aload 7, 2) := by decide +kernel
theorem dX6_isClear_65 : decode cX6_isClear 65 = .ok (.aload 7, 2) := by decide +kernel
theorem dX6_isClear_67 : decode cX6_isClear 67 = .ok (.getfield 89, 3) := by decide +kernel
theorem dX6_isClear_70 : decode cX6_isClear 70 = .ok (.aload 7, 2) := by decide +kernel
theorem dX6_isClear_72 : decode cX6_isClear 72 = .ok (.getfield 93, 3) := by decide +kernel
theorem dX6_isClear_75 : decode cX6_isClear 75 = .ok (.iload 8, 2) := by decide +kernel
theorem dX6_isClear_77 : decode cX6_isClear 77 = .ok (.invokevirtual 96, 3) := by decide +kernel
theorem dX6_isClear_80 : decode cX6_isClear 80 = .ok (.ifCond .eq 35, 3) := by decide +kernel
theorem dX6_isClear_83 : decode cX6_isClear 83 = .ok (.aload_n 0, 1) := by decide +kernel
theorem dX6_isClear_84 : decode cX6_isClear 84 = .ok (.getfield 18, 3) := by decide +kernel
theorem dX6_isClear_87 : decode cX6_isClear 87 = .ok (.aload 7, 2) := by decide +kernel
theorem dX6_isClear_89 : decode cX6_isClear 89 = .ok (.invokevirtual 102, 3) := by decide +kernel
theorem dX6_isClear_92 : decode cX6_isClear 92 = .ok (.aload_n 0, 1) := by decide +kernel
theorem dX6_isClear_93 : decode cX6_isClear 93 = .ok (.getfield 18, 3) := by decide +kernel
theorem dX6_isClear_96 : decode cX6_isClear 96 = .ok (.aload 7, 2) := by decide +kernel
theorem dX6_isClear_98 : decode cX6_isClear 98 = .ok (.iload_n 2, 1) := by decide +kernel
theorem dX6_isClear_99 : decode cX6_isClear 99 = .ok (.iload_n 3, 1) := by decide +kernel
theorem dX6_isClear_100 : decode cX6_isClear 100 = .ok (.invokevirtual 151, 3) := by decide +kernel
theorem dX6_isClear_103 : decode cX6_isClear 103 = .ok (.iload 4, 2) := by decide +kernel
theorem dX6_isClear_105 : decode cX6_isClear 105 = .ok (.iload 4, 2) := by decide +kernel
theorem dX6_isClear_107 : decode cX6_isClear 107 = .ok (.imul, 1) := by decide +kernel
theorem dX6_isClear_108 : decode cX6_isClear 108 = .ok (.i2d, 1) := by decide +kernel
theorem dX6_isClear_109 : decode cX6_isClear 109 = .ok (.dcmp .g, 1) := by decide +kernel
theorem dX6_isClear_110 : decode cX6_isClear 110 = .ok (.ifCond .ge 5, 3) := by decide +kernel
theorem dX6_isClear_113 : decode cX6_isClear 113 = .ok (.iconst 0, 1) := by decide +kernel
theorem dX6_isClear_114 : decode cX6_isClear 114 = .ok (.ireturn, 1) := by decide +kernel
theorem dX6_isClear_115 : decode cX6_isClear 115 = .ok (.iinc 8 1, 3) := by decide +kernel
theorem dX6_isClear_118 : decode cX6_isClear 118 = .ok (.goto (-66), 3) := by decide +kernel
theorem dX6_isClear_121 : decode cX6_isClear 121 = .ok (.iconst 1, 1) := by decide +kernel
theorem dX6_isClear_122 : decode cX6_isClear 122 = .ok (.ireturn, 1) := by decide +kernel
set_option maxRecDepth 20000 in
theorem ggX6_count_X6_isWithin : GoodIn wsX6_count wsX6_isWithin := goodIn_r _ [6] (by decide +kernel) (by decide +kernel)
set_option maxRecDepth 20000 in
theorem gX6_count_X6_isWithin : GoodIn wsX6_count (va_wsS RX6 69 yX6_isWithin wsX6_isWithin) := goodIn_app (goodIn_of _ (by decide +kernel)) ggX6_count_X6_isWithin
theorem dX6_count_0 : decode cX6_count 0 = .ok (.iload_n 1, 1) := by decide +kernel
theorem dX6_count_1 : decode cX6_count 1 = .ok (.iconst 0, 1) := by decide +kernel
theorem dX6_count_2 : decode cX6_count 2 = .ok (.iconst 1, 1) := by decide +kernel
theorem dX6_count_3 : decode cX6_count 3 = .ok (.invokestatic 69, 3) := by decide +kernel
theorem dX6_count_6 : decode cX6_count 6 = .ok (.ifCond .ne 6, 3) := by decide +kernel
theorem dX6_count_9 : decode cX6_count 9 = .ok (.bipush (-2), 2) := by decide +kernel
theorem dX6_count_11 : decode cX6_count 11 = .ok (.ireturn, 1) := by decide +kernel
theorem dX6_count_12 : decode cX6_count 12 = .ok (.iload_n 1, 1) := by decide +kernel
theorem dX6_count_13 : decode cX6_count 13 = .ok (.ifCond .ne 13, 3) := by decide +kernel
theorem dX6_count_16 : decode cX6_count 16 = .ok (.aload_n 0, 1) := by decide +kernel
theorem dX6_count_17 : decode cX6_count 17 = .ok (.getfield 32, 3) := by decide +kernel
theorem dX6_count_20 : decode cX6_count 20 = .ok (.getfield 154, 3) := by decide +kernel
theorem dX6_count_23 : decode cX6_count 23 = .ok (.goto 10, 3) := by decide +kernel
theorem dX6_count_26 : decode cX6_count 26 = .ok (.aload_n 0, 1) := by decide +kernel
theorem dX6_count_27 : decode cX6_count 27 = .ok (.getfield 39, 3) := by decide +kernel
theorem dX6_count_30 : decode cX6_count 30 = .ok (.getfield 136, 3) := by decide +kernel
theorem dX6_count_33 : decode cX6_count 33 = .ok (.ireturn, 1) := by decide +kernel
set_option maxRecDepth 20000 in
theorem ggX6_digest_X6_mix : GoodIn wsX6_digest wsX6_mix := goodIn_r _ [9, 10] (by decide +kernel) (by decide +kernel)
set_option maxRecDepth 20000 in
theorem gX6_digest_X6_mix : GoodIn wsX6_digest (va_wsS RX6 157 yX6_mix wsX6_mix) := goodIn_app (goodIn_of _ (by decide +kernel)) ggX6_digest_X6_mix
set_option maxRecDepth 20000 in
theorem ggX6_digest_X2_mixInto : GoodIn wsX6_digest wsX2_mixInto := goodIn_r _ [14, 15, 16, 17, 18, 19, 20, 21, 22, 23, 24, 25, 26, 27, 7, 8, 9, 10, 60, 61, 62, 63, 64, 65, 66, 67, 68, 69, 70, 71, 72] (by decide +kernel) (by decide +kernel)
set_option maxRecDepth 20000 in
theorem gX6_digest_X2_mixInto_n161 : GoodIn wsX6_digest (wsX2_mixInto) := ggX6_digest_X2_mixInto
set_option maxRecDepth 20000 in
theorem ggX6_digest_X0_loadOf : GoodIn wsX6_digest wsX0_loadOf := goodIn_r _ [31, 32, 33, 34, 35, 36, 73, 74, 75, 76, 77] (by decide +kernel) (by decide +kernel)
set_option maxRecDepth 20000 in
theorem gX6_digest_X0_loadOf_n122 : GoodIn wsX6_digest (wsX0_loadOf) := ggX6_digest_X0_loadOf
set_option maxRecDepth 20000 in
theorem ggX6_digest_X4_mixInto : GoodIn wsX6_digest wsX4_mixInto := goodIn_r _ [40, 41, 42, 7, 8, 9, 10, 55, 56] (by decide +kernel) (by decide +kernel)
set_option maxRecDepth 20000 in
theorem gX6_digest_X4_mixInto_n165 : GoodIn wsX6_digest (wsX4_mixInto) := ggX6_digest_X4_mixInto
set_option maxRecDepth 20000 in
theorem ggX6_digest_X3_mixInto : GoodIn wsX6_digest wsX3_mixInto := goodIn_r _ [46, 47, 48, 49, 7, 8, 9, 10, 57, 58, 59] (by decide +kernel) (by decide +kernel)
set_option maxRecDepth 20000 in
theorem gX6_digest_X3_mixInto_n166 : GoodIn wsX6_digest (wsX3_mixInto) := ggX6_digest_X3_mixInto
theorem dX6_digest_0 : decode cX6_digest 0 = .ok (.ldc2_w 155, 3) := by decide +kernel
theorem dX6_digest_3 : decode cX6_digest 3 = .ok (.aload_n 0, 1) := by decide +kernel
theorem dX6_digest_4 : decode cX6_digest 4 = .ok (.getfield 32, 3) := by decide +kernel
theorem dX6_digest_7 : decode cX6_digest 7 = .ok (.getfield 154, 3) := by decide +kernel
theorem dX6_digest_10 : decode cX6_digest 10 = .ok (.invokestatic 157, 3) := by decide +kernel
theorem dX6_digest_13 : decode cX6_digest 13 = .ok (.aload_n 0, 1) := by decide +kernel
theorem dX6_digest_14 : decode cX6_digest 14 = .ok (.getfield 39, 3) := by decide +kernel
theorem dX6_digest_17 : decode cX6_digest 17 = .ok (.getfield 136, 3) := by decide +kernel
theorem dX6_digest_20 : decode cX6_digest 20 = .ok (.invokestatic 157, 3) := by decide +kernel
theorem dX6_digest_23 : decode cX6_digest 23 = .ok (.lstore_n 1, 1) := by decide +kernel
theorem dX6_digest_24 : decode cX6_digest 24 = .ok (.iconst 0, 1) := by decide +kernel
theorem dX6_digest_25 : decode cX6_digest 25 = .ok (.istore_n 3, 1) := by decide +kernel
theorem dX6_digest_26 : decode cX6_digest 26 = .ok (.iload_n 3, 1) := by decide +kernel
theorem dX6_digest_27 : decode cX6_digest 27 = .ok (.aload_n 0, 1) := by decide +kernel
theorem dX6_digest_28 : decode cX6_digest 28 = .ok (.getfield 11, 3) := by decide +kernel
theorem dX6_digest_31 : decode cX6_digest 31 = .ok (.arraylength, 1) := by decide +kernel
theorem dX6_digest_32 : decode cX6_digest 32 = .ok (.if_icmp .ge 20, 3) := by decide +kernel
theorem dX6_digest_35 : decode cX6_digest 35 = .ok (.aload_n 0, 1) := by decide +kernel
theorem dX6_digest_36 : decode cX6_digest 36 = .ok (.getfield 11, 3) := by decide +kernel
theorem dX6_digest_39 : decode cX6_digest 39 = .ok (.iload_n 3, 1) := by decide +kernel
theorem dX6_digest_40 : decode cX6_digest 40 = .ok (.aaload, 1) := by decide +kernel
theorem dX6_digest_41 : decode cX6_digest 41 = .ok (.lload_n 1, 1) := by decide +kernel
theorem dX6_digest_42 : decode cX6_digest 42 = .ok (.invokevirtual 161, 3) := by decide +kernel
theorem dX6_digest_45 : decode cX6_digest 45 = .ok (.lstore_n 1, 1) := by decide +kernel
theorem dX6_digest_46 : decode cX6_digest 46 = .ok (.iinc 3 1, 3) := by decide +kernel
theorem dX6_digest_49 : decode cX6_digest 49 = .ok (.goto (-23), 3) := by decide +kernel
theorem dX6_digest_52 : decode cX6_digest 52 = .ok (.iconst 0, 1) := by decide +kernel
theorem dX6_digest_53 : decode cX6_digest 53 = .ok (.istore_n 3, 1) := by decide +kernel
theorem dX6_digest_54 : decode cX6_digest 54 = .ok (.iload_n 3, 1) := by decide +kernel
theorem dX6_digest_55 : decode cX6_digest 55 = .ok (.iconst 4, 1) := by decide +kernel
theorem dX6_digest_56 : decode cX6_digest 56 = .ok (.if_icmp .ge 22, 3) := by decide +kernel
theorem dX6_digest_59 : decode cX6_digest 59 = .ok (.lload_n 1, 1) := by decide +kernel
theorem dX6_digest_60 : decode cX6_digest 60 = .ok (.aload_n 0, 1) := by decide +kernel
theorem dX6_digest_61 : decode cX6_digest 61 = .ok (.getfield 25, 3) := by decide +kernel
theorem dX6_digest_64 : decode cX6_digest 64 = .ok (.iload_n 3, 1) := by decide +kernel
theorem dX6_digest_65 : decode cX6_digest 65 = .ok (.invokevirtual 122, 3) := by decide +kernel
theorem dX6_digest_68 : decode cX6_digest 68 = .ok (.invokestatic 157, 3) := by decide +kernel
theorem dX6_digest_71 : decode cX6_digest 71 = .ok (.lstore_n 1, 1) := by decide +kernel
theorem dX6_digest_72 : decode cX6_digest 72 = .ok (.iinc 3 1, 3) := by decide +kernel
theorem dX6_digest_75 : decode cX6_digest 75 = .ok (.goto (-21), 3) := by decide +kernel
theorem dX6_digest_78 : decode cX6_digest 78 = .ok (.aload_n 0, 1) := by decide +kernel
theorem dX6_digest_79 : decode cX6_digest 79 = .ok (.getfield 39, 3) := by decide +kernel
theorem dX6_digest_82 : decode cX6_digest 82 = .ok (.aload_n 0, 1) := by decide +kernel
theorem dX6_digest_83 : decode cX6_digest 83 = .ok (.getfield 32, 3) := by decide +kernel
theorem dX6_digest_86 : decode cX6_digest 86 = .ok (.lload_n 1, 1) := by decide +kernel
theorem dX6_digest_87 : decode cX6_digest 87 = .ok (.invokevirtual 165, 3) := by decide +kernel
theorem dX6_digest_90 : decode cX6_digest 90 = .ok (.invokevirtual 166, 3) := by decide +kernel
theorem dX6_digest_93 : decode cX6_digest 93 = .ok (.lreturn, 1) := by decide +kernel
theorem dX6_mix_0 : decode cX6_mix 0 = .ok (.ldc2_w 167, 3) := by decide +kernel
theorem dX6_mix_3 : decode cX6_mix 3 = .ok (.lload_n 0, 1) := by decide +kernel
theorem dX6_mix_4 : decode cX6_mix 4 = .ok (.lmul, 1) := by decide +kernel
theorem dX6_mix_5 : decode cX6_mix 5 = .ok (.iload_n 2, 1) := by decide +kernel
theorem dX6_mix_6 : decode cX6_mix 6 = .ok (.i2l, 1) := by decide +kernel
theorem dX6_mix_7 : decode cX6_mix 7 = .ok (.ladd, 1) := by decide +kernel
theorem dX6_mix_8 : decode cX6_mix 8 = .ok (.lreturn, 1) := by decide +kernel
theorem dX6_isWithin_0 : decode cX6_isWithin 0 = .ok (.iload_n 0, 1) := by decide +kernel
theorem dX6_isWithin_1 : decode cX6_isWithin 1 = .ok (.iload_n 1, 1) := by decide +kernel
theorem dX6_isWithin_2 : decode cX6_isWithin 2 = .ok (.if_icmp .lt 12, 3) := by decide +kernel
theorem dX6_isWithin_5 : decode cX6_isWithin 5 = .ok (.iload_n 0, 1) := by decide +kernel
theorem dX6_isWithin_6 : decode cX6_isWithin 6 = .ok (.iload_n 2, 1) := by decide +kernel
theorem dX6_isWithin_7 : decode cX6_isWithin 7 = .ok (.if_icmp .gt 7, 3) := by decide +kernel
theorem dX6_isWithin_10 : decode cX6_isWithin 10 = .ok (.iconst 1, 1) := by decide +kernel
theorem dX6_isWithin_11 : decode cX6_isWithin 11 = .ok (.goto 4, 3) := by decide +kernel
theorem dX6_isWithin_14 : decode cX6_isWithin 14 = .ok (.iconst 0, 1) := by decide +kernel
theorem dX6_isWithin_15 : decode cX6_isWithin 15 = .ok (.ireturn, 1) := by decide +kernel
set_option maxRecDepth 20000 in
theorem ggX6_isHanging_X6_isWithin : GoodIn wsX6_isHanging wsX6_isWithin := goodIn_r _ [4] (by decide +kernel) (by decide +kernel)
set_option maxRecDepth 20000 in
theorem gX6_isHanging_X6_isWithin : GoodIn wsX6_isHanging (va_wsS RX6 69 yX6_isWithin wsX6_isWithin) := goodIn_app (goodIn_of _ (by decide +kernel)) ggX6_isHanging_X6_isWithin
theorem dX6_isHanging_0 : decode cX6_isHanging 0 = .ok (.iload_n 0, 1) := by decide +kernel
theorem dX6_isHanging_1 : decode cX6_isHanging 1 = .ok (.iconst 0, 1) := by decide +kernel
theorem dX6_isHanging_2 : decode cX6_isHanging 2 = .ok (.iconst 3, 1) := by decide +kernel
theorem dX6_isHanging_3 : decode cX6_isHanging 3 = .ok (.invokestatic 69, 3) := by decide +kernel
theorem dX6_isHanging_6 : decode cX6_isHanging 6 = .ok (.ireturn, 1) := by decide +kernel
set_option maxRecDepth 20000 in
theorem ggX6_isCoordinate_X6_isWithin : GoodIn wsX6_isCoordinate wsX6_isWithin := goodIn_r _ [4] (by decide +kernel) (by decide +kernel)
set_option maxRecDepth 20000 in
theorem gX6_isCoordinate_X6_isWithin : GoodIn wsX6_isCoordinate (va_wsS RX6 69 yX6_isWithin wsX6_isWithin) := goodIn_app (goodIn_of _ (by decide +kernel)) ggX6_isCoordinate_X6_isWithin
theorem dX6_isCoordinate_0 : decode cX6_isCoordinate 0 = .ok (.iload_n 0, 1) := by decide +kernel
theorem dX6_isCoordinate_1 : decode cX6_isCoordinate 1 = .ok (.sipush (-1000), 3) := by decide +kernel
theorem dX6_isCoordinate_4 : decode cX6_isCoordinate 4 = .ok (.sipush 1000, 3) := by decide +kernel
theorem dX6_isCoordinate_7 : decode cX6_isCoordinate 7 = .ok (.invokestatic 69, 3) := by decide +kernel
theorem dX6_isCoordinate_10 : decode cX6_isCoordinate 10 = .ok (.ireturn, 1) := by decide +kernel
set_option maxRecDepth 20000 in
theorem ggX6_isPoint_X6_isCoordinate : GoodIn wsX6_isPoint wsX6_isCoordinate := goodIn_r _ [4, 5, 6, 3, 7] (by decide +kernel) (by decide +kernel)
set_option maxRecDepth 20000 in
theorem gX6_isPoint_X6_isCoordinate : GoodIn wsX6_isPoint (va_wsS RX6 80 yX6_isCoordinate wsX6_isCoordinate) := goodIn_app (goodIn_of _ (by decide +kernel)) ggX6_isPoint_X6_isCoordinate
theorem dX6_isPoint_0 : decode cX6_isPoint 0 = .ok (.iload_n 0, 1) := by decide +kernel
theorem dX6_isPoint_1 : decode cX6_isPoint 1 = .ok (.invokestatic 80, 3) := by decide +kernel
theorem dX6_isPoint_4 : decode cX6_isPoint 4 = .ok (.ifCond .eq 14, 3) := by decide +kernel
theorem dX6_isPoint_7 : decode cX6_isPoint 7 = .ok (.iload_n 1, 1) := by decide +kernel
theorem dX6_isPoint_8 : decode cX6_isPoint 8 = .ok (.invokestatic 80, 3) := by decide +kernel
theorem dX6_isPoint_11 : decode cX6_isPoint 11 = .ok (.ifCond .eq 7, 3) := by decide +kernel
theorem dX6_isPoint_14 : decode cX6_isPoint 14 = .ok (.iconst 1, 1) := by decide +kernel
theorem dX6_isPoint_15 : decode cX6_isPoint 15 = .ok (.goto 4, 3) := by decide +kernel
theorem dX6_isPoint_18 : decode cX6_isPoint 18 = .ok (.iconst 0, 1) := by decide +kernel
theorem dX6_isPoint_19 : decode cX6_isPoint 19 = .ok (.ireturn, 1) := by decide +kernel
set_option maxRecDepth 20000 in
theorem ggX6_isArm_X6_isWithin : GoodIn wsX6_isArm wsX6_isWithin := goodIn_r _ [4] (by decide +kernel) (by decide +kernel)
set_option maxRecDepth 20000 in
theorem gX6_isArm_X6_isWithin : GoodIn wsX6_isArm (va_wsS RX6 69 yX6_isWithin wsX6_isWithin) := goodIn_app (goodIn_of _ (by decide +kernel)) ggX6_isArm_X6_isWithin
theorem dX6_isArm_0 : decode cX6_isArm 0 = .ok (.iload_n 0, 1) := by decide +kernel
theorem dX6_isArm_1 : decode cX6_isArm 1 = .ok (.bipush 50, 2) := by decide +kernel
theorem dX6_isArm_3 : decode cX6_isArm 3 = .ok (.sipush 1000, 3) := by decide +kernel
theorem dX6_isArm_6 : decode cX6_isArm 6 = .ok (.invokestatic 69, 3) := by decide +kernel
theorem dX6_isArm_9 : decode cX6_isArm 9 = .ok (.ireturn, 1) := by decide +kernel
set_option maxRecDepth 20000 in
theorem ggX6_isSpan_X6_isCoordinate : GoodIn wsX6_isSpan wsX6_isCoordinate := goodIn_r _ [4, 5, 6, 3, 7] (by decide +kernel) (by decide +kernel)
set_option maxRecDepth 20000 in
theorem gX6_isSpan_X6_isCoordinate : GoodIn wsX6_isSpan (va_wsS RX6 80 yX6_isCoordinate wsX6_isCoordinate) := goodIn_app (goodIn_of _ (by decide +kernel)) ggX6_isSpan_X6_isCoordinate
theorem dX6_isSpan_0 : decode cX6_isSpan 0 = .ok (.iload_n 0, 1) := by decide +kernel
theorem dX6_isSpan_1 : decode cX6_isSpan 1 = .ok (.invokestatic 80, 3) := by decide +kernel
theorem dX6_isSpan_4 : decode cX6_isSpan 4 = .ok (.ifCond .eq 19, 3) := by decide +kernel
theorem dX6_isSpan_7 : decode cX6_isSpan 7 = .ok (.iload_n 1, 1) := by decide +kernel
theorem dX6_isSpan_8 : decode cX6_isSpan 8 = .ok (.invokestatic 80, 3) := by decide +kernel
theorem dX6_isSpan_11 : decode cX6_isSpan 11 = .ok (.ifCond .eq 12, 3) := by decide +kernel
theorem dX6_isSpan_14 : decode cX6_isSpan 14 = .ok (.iload_n 0, 1) := by decide +kernel
theorem dX6_isSpan_15 : decode cX6_isSpan 15 = .ok (.iload_n 1, 1) := by decide +kernel
theorem dX6_isSpan_16 : decode cX6_isSpan 16 = .ok (.if_icmp .gt 7, 3) := by decide +kernel
theorem dX6_isSpan_19 : decode cX6_isSpan 19 = .ok (.iconst 1, 1) := by decide +kernel
theorem dX6_isSpan_20 : decode cX6_isSpan 20 = .ok (.goto 4, 3) := by decide +kernel
theorem dX6_isSpan_23 : decode cX6_isSpan 23 = .ok (.iconst 0, 1) := by decide +kernel
theorem dX6_isSpan_24 : decode cX6_isSpan 24 = .ok (.ireturn, 1) := by decide +kernel
set_option maxRecDepth 20000 in
theorem ggX6_tellWheel_X1_bits : GoodIn wsX6_tellWheel wsX1_bits := goodIn_r _ [5, 6, 7, 8, 9, 10] (by decide +kernel) (by decide +kernel)
set_option maxRecDepth 20000 in
theorem gX6_tellWheel_X1_bits_n143 : GoodIn wsX6_tellWheel (wsX1_bits) := ggX6_tellWheel_X1_bits
set_option maxRecDepth 20000 in
theorem ggX6_tellWheel_X5_roadX : GoodIn wsX6_tellWheel wsX5_roadX := goodIn_r _ [14, 15, 16, 17, 27, 28, 29, 30, 31, 32, 33, 34, 35, 36, 37, 38, 39, 40, 41, 42, 43, 44, 45, 46, 47, 48, 49, 50, 51, 52, 53] (by decide +kernel) (by decide +kernel)
set_option maxRecDepth 20000 in
theorem gX6_tellWheel_X5_roadX_n188 : GoodIn wsX6_tellWheel (wsX5_roadX) := ggX6_tellWheel_X5_roadX
set_option maxRecDepth 20000 in
theorem ggX6_tellWheel_X5_roadY : GoodIn wsX6_tellWheel wsX5_roadY := goodIn_r _ [20, 21, 17, 16, 27, 28, 29, 30, 31, 32, 33, 34, 35, 36, 37, 38, 39, 40, 41, 42, 43, 44, 45, 46, 47, 48, 49, 50, 51, 52, 53] (by decide +kernel) (by decide +kernel)
set_option maxRecDepth 20000 in
theorem gX6_tellWheel_X5_roadY_n192 : GoodIn wsX6_tellWheel (wsX5_roadY) := ggX6_tellWheel_X5_roadY
theorem dX6_tellWheel_0 : decode cX6_tellWheel 0 = .ok (.iload_n 2, 1) := by decide +kernel
theorem dX6_tellWheel_1 : decode cX6_tellWheel 1 = .ok (.tableswitch 132 0 5 #[39, 50, 61, 72, 83, 120], 39) := by decide +kernel
theorem dX6_tellWheel_40 : decode cX6_tellWheel 40 = .ok (.aload_n 0, 1) := by decide +kernel
theorem dX6_tellWheel_41 : decode cX6_tellWheel 41 = .ok (.getfield 18, 3) := by decide +kernel
theorem dX6_tellWheel_44 : decode cX6_tellWheel 44 = .ok (.getfield 169, 3) := by decide +kernel
theorem dX6_tellWheel_47 : decode cX6_tellWheel 47 = .ok (.invokestatic 143, 3) := by decide +kernel
theorem dX6_tellWheel_50 : decode cX6_tellWheel 50 = .ok (.lreturn, 1) := by decide +kernel
theorem dX6_tellWheel_51 : decode cX6_tellWheel 51 = .ok (.aload_n 0, 1) := by decide +kernel
theorem dX6_tellWheel_52 : decode cX6_tellWheel 52 = .ok (.getfield 18, 3) := by decide +kernel
theorem dX6_tellWheel_55 : decode cX6_tellWheel 55 = .ok (.getfield 173, 3) := by decide +kernel
theorem dX6_tellWheel_58 : decode cX6_tellWheel 58 = .ok (.invokestatic 143, 3) := by decide +kernel
theorem dX6_tellWheel_61 : decode cX6_tellWheel 61 = .ok (.lreturn, 1) := by decide +kernel
theorem dX6_tellWheel_62 : decode cX6_tellWheel 62 = .ok (.aload_n 0, 1) := by decide +kernel
theorem dX6_tellWheel_63 : decode cX6_tellWheel 63 = .ok (.getfield 18, 3) := by decide +kernel
theorem dX6_tellWheel_66 : decode cX6_tellWheel 66 = .ok (.getfield 176, 3) := by decide +kernel
theorem dX6_tellWheel_69 : decode cX6_tellWheel 69 = .ok (.invokestatic 143, 3) := by decide +kernel
theorem dX6_tellWheel_72 : decode cX6_tellWheel 72 = .ok (.lreturn, 1) := by decide +kernel
theorem dX6_tellWheel_73 : decode cX6_tellWheel 73 = .ok (.aload_n 0, 1) := by decide +kernel
theorem dX6_tellWheel_74 : decode cX6_tellWheel 74 = .ok (.getfield 18, 3) := by decide +kernel
theorem dX6_tellWheel_77 : decode cX6_tellWheel 77 = .ok (.getfield 179, 3) := by decide +kernel
theorem dX6_tellWheel_80 : decode cX6_tellWheel 80 = .ok (.invokestatic 143, 3) := by decide +kernel
theorem dX6_tellWheel_83 : decode cX6_tellWheel 83 = .ok (.lreturn, 1) := by decide +kernel
theorem dX6_tellWheel_84 : decode cX6_tellWheel 84 = .ok (.aload_n 0, 1) := by decide +kernel
theorem dX6_tellWheel_85 : decode cX6_tellWheel 85 = .ok (.getfield 18, 3) := by decide +kernel
theorem dX6_tellWheel_88 : decode cX6_tellWheel 88 = .ok (.getfield 182, 3) := by decide +kernel
theorem dX6_tellWheel_91 : decode cX6_tellWheel 91 = .ok (.dconst 0, 1) := by decide +kernel
theorem dX6_tellWheel_92 : decode cX6_tellWheel 92 = .ok (.dcmp .l, 1) := by decide +kernel
theorem dX6_tellWheel_93 : decode cX6_tellWheel 93 = .ok (.ifCond .ne 9, 3) := by decide +kernel
theorem dX6_tellWheel_96 : decode cX6_tellWheel 96 = .ok (.ldc2_w 100, 3) := by decide +kernel
theorem dX6_tellWheel_99 : decode cX6_tellWheel 99 = .ok (.goto 21, 3) := by decide +kernel
theorem dX6_tellWheel_102 : decode cX6_tellWheel 102 = .ok (.aload_n 0, 1) := by decide +kernel
theorem dX6_tellWheel_103 : decode cX6_tellWheel 103 = .ok (.getfield 18, 3) := by decide +kernel
theorem dX6_tellWheel_106 : decode cX6_tellWheel 106 = .ok (.getfield 185, 3) := by decide +kernel
theorem dX6_tellWheel_109 : decode cX6_tellWheel 109 = .ok (.aload_n 0, 1) := by decide +kernel
theorem dX6_tellWheel_110 : decode cX6_tellWheel 110 = .ok (.getfield 18, 3) := by decide +kernel
theorem dX6_tellWheel_113 : decode cX6_tellWheel 113 = .ok (.getfield 182, 3) := by decide +kernel
theorem dX6_tellWheel_116 : decode cX6_tellWheel 116 = .ok (.ddiv, 1) := by decide +kernel
theorem dX6_tellWheel_117 : decode cX6_tellWheel 117 = .ok (.invokestatic 143, 3) := by decide +kernel
theorem dX6_tellWheel_120 : decode cX6_tellWheel 120 = .ok (.lreturn, 1) := by decide +kernel
theorem dX6_tellWheel_121 : decode cX6_tellWheel 121 = .ok (.aload_n 0, 1) := by decide +kernel
theorem dX6_tellWheel_122 : decode cX6_tellWheel 122 = .ok (.getfield 18, 3) := by decide +kernel
theorem dX6_tellWheel_125 : decode cX6_tellWheel 125 = .ok (.aload_n 1, 1) := by decide +kernel
theorem dX6_tellWheel_126 : decode cX6_tellWheel 126 = .ok (.invokevirtual 188, 3) := by decide +kernel
theorem dX6_tellWheel_129 : decode cX6_tellWheel 129 = .ok (.invokestatic 143, 3) := by decide +kernel
theorem dX6_tellWheel_132 : decode cX6_tellWheel 132 = .ok (.lreturn, 1) := by decide +kernel
theorem dX6_tellWheel_133 : decode cX6_tellWheel 133 = .ok (.aload_n 0, 1) := by decide +kernel
theorem dX6_tellWheel_134 : decode cX6_tellWheel 134 = .ok (.getfield 18, 3) := by decide +kernel
theorem dX6_tellWheel_137 : decode cX6_tellWheel 137 = .ok (.aload_n 1, 1) := by decide +kernel
theorem dX6_tellWheel_138 : decode cX6_tellWheel 138 = .ok (.invokevirtual 192, 3) := by decide +kernel
theorem dX6_tellWheel_141 : decode cX6_tellWheel 141 = .ok (.invokestatic 143, 3) := by decide +kernel
theorem dX6_tellWheel_144 : decode cX6_tellWheel 144 = .ok (.lreturn, 1) := by decide +kernel
set_option maxRecDepth 20000 in
theorem ggX6_tellTravel_X5_springLength : GoodIn wsX6_tellTravel wsX5_springLength := goodIn_r _ [6, 7, 8, 9, 10, 11, 12, 13, 14, 15, 16, 17, 18, 19, 20, 21, 22, 23, 65, 66, 67, 68, 69, 70, 71, 72, 73, 74, 75, 76, 77, 51, 52, 53, 54, 55, 56, 57, 58, 59, 60, 61, 62, 63, 64] (by decide +kernel) (by decide +kernel)
set_option maxRecDepth 20000 in
theorem gX6_tellTravel_X5_springLength_n195 : GoodIn wsX6_tellTravel (wsX5_springLength) := ggX6_tellTravel_X5_springLength
set_option maxRecDepth 20000 in
theorem ggX6_tellTravel_X1_bits : GoodIn wsX6_tellTravel wsX1_bits := goodIn_r _ [25, 26, 27, 14, 19, 28] (by decide +kernel) (by decide +kernel)
set_option maxRecDepth 20000 in
theorem gX6_tellTravel_X1_bits_n143 : GoodIn wsX6_tellTravel (wsX1_bits) := ggX6_tellTravel_X1_bits
set_option maxRecDepth 20000 in
theorem ggX6_tellTravel_X5_findCentre : GoodIn wsX6_tellTravel wsX5_findCentre := goodIn_r _ [31, 32, 33, 9, 34, 35, 7, 36, 37, 51, 52, 53, 54, 55, 56, 57, 58, 59, 60, 61, 62, 63, 64, 65, 66, 67, 68, 69, 70, 71, 72, 73, 74, 75, 76, 77] (by decide +kernel) (by decide +kernel)
set_option maxRecDepth 20000 in
theorem gX6_tellTravel_X5_findCentre_n198 : GoodIn wsX6_tellTravel (wsX5_findCentre) := ggX6_tellTravel_X5_findCentre
set_option maxRecDepth 20000 in
theorem ggX6_tellTravel_X5_roadX : GoodIn wsX6_tellTravel wsX5_roadX := goodIn_r _ [40, 7, 41, 42, 51, 52, 53, 54, 55, 56, 57, 58, 59, 60, 61, 62, 63, 64, 65, 66, 67, 68, 69, 70, 71, 72, 73, 74, 75, 76, 77] (by decide +kernel) (by decide +kernel)
set_option maxRecDepth 20000 in
theorem gX6_tellTravel_X5_roadX_n188 : GoodIn wsX6_tellTravel (wsX5_roadX) := ggX6_tellTravel_X5_roadX
set_option maxRecDepth 20000 in
theorem ggX6_tellTravel_X5_roadY : GoodIn wsX6_tellTravel wsX5_roadY := goodIn_r _ [45, 9, 42, 41, 51, 52, 53, 54, 55, 56, 57, 58, 59, 60, 61, 62, 63, 64, 65, 66, 67, 68, 69, 70, 71, 72, 73, 74, 75, 76, 77] (by decide +kernel) (by decide +kernel)
set_option maxRecDepth 20000 in
theorem gX6_tellTravel_X5_roadY_n192 : GoodIn wsX6_tellTravel (wsX5_roadY) := ggX6_tellTravel_X5_roadY
theorem dX6_tellTravel_0 : decode cX6_tellTravel 0 = .ok (.iload_n 2, 1) := by decide +kernel
theorem dX6_tellTravel_1 : decode cX6_tellTravel 1 = .ok (.bipush 10, 2) := by decide +kernel
theorem dX6_tellTravel_3 : decode cX6_tellTravel 3 = .ok (.if_icmp .ne 15, 3) := by decide +kernel
theorem dX6_tellTravel_6 : decode cX6_tellTravel 6 = .ok (.aload_n 0, 1) := by decide +kernel
theorem dX6_tellTravel_7 : decode cX6_tellTravel 7 = .ok (.getfield 18, 3) := by decide +kernel
theorem dX6_tellTravel_10 : decode cX6_tellTravel 10 = .ok (.aload_n 1, 1) := by decide +kernel
theorem dX6_tellTravel_11 : decode cX6_tellTravel 11 = .ok (.invokevirtual 195, 3) := by decide +kernel
theorem dX6_tellTravel_14 : decode cX6_tellTravel 14 = .ok (.invokestatic 143, 3) := by decide +kernel
theorem dX6_tellTravel_17 : decode cX6_tellTravel 17 = .ok (.lreturn, 1) := by decide +kernel
theorem dX6_tellTravel_18 : decode cX6_tellTravel 18 = .ok (.aload_n 0, 1) := by decide +kernel
theorem dX6_tellTravel_19 : decode cX6_tellTravel 19 = .ok (.getfield 18, 3) := by decide +kernel
theorem dX6_tellTravel_22 : decode cX6_tellTravel 22 = .ok (.aload_n 1, 1) := by decide +kernel
theorem dX6_tellTravel_23 : decode cX6_tellTravel 23 = .ok (.invokevirtual 198, 3) := by decide +kernel
theorem dX6_tellTravel_26 : decode cX6_tellTravel 26 = .ok (.ifCond .ne 7, 3) := by decide +kernel
theorem dX6_tellTravel_29 : decode cX6_tellTravel 29 = .ok (.ldc2_w 100, 3) := by decide +kernel
theorem dX6_tellTravel_32 : decode cX6_tellTravel 32 = .ok (.lreturn, 1) := by decide +kernel
theorem dX6_tellTravel_33 : decode cX6_tellTravel 33 = .ok (.iload_n 2, 1) := by decide +kernel
theorem dX6_tellTravel_34 : decode cX6_tellTravel 34 = .ok (.bipush 7, 2) := by decide +kernel
theorem dX6_tellTravel_36 : decode cX6_tellTravel 36 = .ok (.if_icmp .ne 14, 3) := by decide +kernel
theorem dX6_tellTravel_39 : decode cX6_tellTravel 39 = .ok (.aload_n 0, 1) := by decide +kernel
theorem dX6_tellTravel_40 : decode cX6_tellTravel 40 = .ok (.getfield 18, 3) := by decide +kernel
theorem dX6_tellTravel_43 : decode cX6_tellTravel 43 = .ok (.getfield 202, 3) := by decide +kernel
theorem dX6_tellTravel_46 : decode cX6_tellTravel 46 = .ok (.invokestatic 143, 3) := by decide +kernel
theorem dX6_tellTravel_49 : decode cX6_tellTravel 49 = .ok (.lreturn, 1) := by decide +kernel
theorem dX6_tellTravel_50 : decode cX6_tellTravel 50 = .ok (.iload_n 2, 1) := by decide +kernel
theorem dX6_tellTravel_51 : decode cX6_tellTravel 51 = .ok (.bipush 8, 2) := by decide +kernel
theorem dX6_tellTravel_53 : decode cX6_tellTravel 53 = .ok (.if_icmp .ne 14, 3) := by decide +kernel
theorem dX6_tellTravel_56 : decode cX6_tellTravel 56 = .ok (.aload_n 0, 1) := by decide +kernel
theorem dX6_tellTravel_57 : decode cX6_tellTravel 57 = .ok (.getfield 18, 3) := by decide +kernel
theorem dX6_tellTravel_60 : decode cX6_tellTravel 60 = .ok (.getfield 205, 3) := by decide +kernel
theorem dX6_tellTravel_63 : decode cX6_tellTravel 63 = .ok (.invokestatic 143, 3) := by decide +kernel
theorem dX6_tellTravel_66 : decode cX6_tellTravel 66 = .ok (.lreturn, 1) := by decide +kernel
theorem dX6_tellTravel_67 : decode cX6_tellTravel 67 = .ok (.aload_n 0, 1) := by decide +kernel
theorem dX6_tellTravel_68 : decode cX6_tellTravel 68 = .ok (.getfield 18, 3) := by decide +kernel
theorem dX6_tellTravel_71 : decode cX6_tellTravel 71 = .ok (.aload_n 1, 1) := by decide +kernel
theorem dX6_tellTravel_72 : decode cX6_tellTravel 72 = .ok (.invokevirtual 188, 3) := by decide +kernel
theorem dX6_tellTravel_75 : decode cX6_tellTravel 75 = .ok (.dstore_n 3, 1) := by decide +kernel
theorem dX6_tellTravel_76 : decode cX6_tellTravel 76 = .ok (.aload_n 0, 1) := by decide +kernel
theorem dX6_tellTravel_77 : decode cX6_tellTravel 77 = .ok (.getfield 18, 3) := by decide +kernel
theorem dX6_tellTravel_80 : decode cX6_tellTravel 80 = .ok (.aload_n 1, 1) := by decide +kernel
theorem dX6_tellTravel_81 : decode cX6_tellTravel 81 = .ok (.invokevirtual 192, 3) := by decide +kernel
theorem dX6_tellTravel_84 : decode cX6_tellTravel 84 = .ok (.dstore 5, 2) := by decide +kernel
theorem dX6_tellTravel_86 : decode cX6_tellTravel 86 = .ok (.aload_n 0, 1) := by decide +kernel
theorem dX6_tellTravel_87 : decode cX6_tellTravel 87 = .ok (.getfield 18, 3) := by decide +kernel
theorem dX6_tellTravel_90 : decode cX6_tellTravel 90 = .ok (.getfield 202, 3) := by decide +kernel
theorem dX6_tellTravel_93 : decode cX6_tellTravel 93 = .ok (.dload_n 3, 1) := by decide +kernel
theorem dX6_tellTravel_94 : decode cX6_tellTravel 94 = .ok (.dsub, 1) := by decide +kernel
theorem dX6_tellTravel_95 : decode cX6_tellTravel 95 = .ok (.dconst 0, 1) := by decide +kernel
theorem dX6_tellTravel_96 : decode cX6_tellTravel 96 = .ok (.dcmp .l, 1) := by decide +kernel
theorem dX6_tellTravel_97 : decode cX6_tellTravel 97 = .ok (.ifCond .ne 7, 3) := by decide +kernel
theorem dX6_tellTravel_100 : decode cX6_tellTravel 100 = .ok (.ldc2_w 100, 3) := by decide +kernel
theorem dX6_tellTravel_103 : decode cX6_tellTravel 103 = .ok (.lreturn, 1) := by decide +kernel
theorem dX6_tellTravel_104 : decode cX6_tellTravel 104 = .ok (.dload 5, 2) := by decide +kernel
theorem dX6_tellTravel_106 : decode cX6_tellTravel 106 = .ok (.dconst 0, 1) := by decide +kernel
theorem dX6_tellTravel_107 : decode cX6_tellTravel 107 = .ok (.dload_n 3, 1) := by decide +kernel
theorem dX6_tellTravel_108 : decode cX6_tellTravel 108 = .ok (.dsub, 1) := by decide +kernel
theorem dX6_tellTravel_109 : decode cX6_tellTravel 109 = .ok (.aload_n 0, 1) := by decide +kernel
theorem dX6_tellTravel_110 : decode cX6_tellTravel 110 = .ok (.getfield 18, 3) := by decide +kernel
theorem dX6_tellTravel_113 : decode cX6_tellTravel 113 = .ok (.getfield 205, 3) := by decide +kernel
theorem dX6_tellTravel_116 : decode cX6_tellTravel 116 = .ok (.dload 5, 2) := by decide +kernel
theorem dX6_tellTravel_118 : decode cX6_tellTravel 118 = .ok (.dsub, 1) := by decide +kernel
theorem dX6_tellTravel_119 : decode cX6_tellTravel 119 = .ok (.dmul, 1) := by decide +kernel
theorem dX6_tellTravel_120 : decode cX6_tellTravel 120 = .ok (.aload_n 0, 1) := by decide +kernel
theorem dX6_tellTravel_121 : decode cX6_tellTravel 121 = .ok (.getfield 18, 3) := by decide +kernel
theorem dX6_tellTravel_124 : decode cX6_tellTravel 124 = .ok (.getfield 202, 3) := by decide +kernel
theorem dX6_tellTravel_127 : decode cX6_tellTravel 127 = .ok (.dload_n 3, 1) := by decide +kernel
theorem dX6_tellTravel_128 : decode cX6_tellTravel 128 = .ok (.dsub, 1) := by decide +kernel
theorem dX6_tellTravel_129 : decode cX6_tellTravel 129 = .ok (.ddiv, 1) := by decide +kernel
theorem dX6_tellTravel_130 : decode cX6_tellTravel 130 = .ok (.dadd, 1) := by decide +kernel
theorem dX6_tellTravel_131 : decode cX6_tellTravel 131 = .ok (.invokestatic 143, 3) := by decide +kernel
theorem dX6_tellTravel_134 : decode cX6_tellTravel 134 = .ok (.lreturn, 1) := by decide +kernel
set_option maxRecDepth 20000 in
theorem ggX6_springShare_X5_reach : GoodIn wsX6_springShare wsX5_reach := goodIn_r _ [7, 8, 9, 10, 11, 12, 13, 14, 15, 16, 17, 18, 19, 20, 21, 22, 23, 24, 25, 26, 27, 28, 29, 30, 45, 46, 47, 48, 49, 50, 51, 52, 53, 54, 55, 56, 57, 58, 59, 60, 61, 62, 63, 64, 65, 66, 67, 68, 69, 70, 71] (by decide +kernel) (by decide +kernel)
set_option maxRecDepth 20000 in
theorem gX6_springShare_X5_reach_n96 : GoodIn wsX6_springShare (wsX5_reach) := ggX6_springShare_X5_reach
set_option maxRecDepth 20000 in
theorem ggX6_springShare_X5_springLength : GoodIn wsX6_springShare wsX5_springLength := goodIn_r _ [33, 10, 34, 11, 17, 18, 19, 20, 21, 22, 23, 24, 25, 26, 27, 28, 29, 30, 45, 46, 47, 48, 49, 50, 51, 52, 53, 54, 55, 56, 57, 58, 59, 60, 61, 62, 63, 64, 65, 66, 67, 68, 69, 70, 71] (by decide +kernel) (by decide +kernel)
set_option maxRecDepth 20000 in
theorem gX6_springShare_X5_springLength_n195 : GoodIn wsX6_springShare (wsX5_springLength) := ggX6_springShare_X5_springLength
set_option maxRecDepth 20000 in
theorem ggX6_springShare_X1_bits : GoodIn wsX6_springShare wsX1_bits := goodIn_r _ [36, 37, 38, 21, 26, 39] (by decide +kernel) (by decide +kernel)
set_option maxRecDepth 20000 in
theorem gX6_springShare_X1_bits_n143 : GoodIn wsX6_springShare (wsX1_bits) := ggX6_springShare_X1_bits
theorem dX6_springShare_0 : decode cX6_springShare 0 = .ok (.aload_n 0, 1) := by decide +kernel
theorem dX6_springShare_1 : decode cX6_springShare 1 = .ok (.getfield 18, 3) := by decide +kernel
theorem dX6_springShare_4 : decode cX6_springShare 4 = .ok (.aload_n 1, 1) := by decide +kernel
theorem dX6_springShare_5 : decode cX6_springShare 5 = .ok (.aload_n 1, 1) := by decide +kernel
theorem dX6_springShare_6 : decode cX6_springShare 6 = .ok (.getfield 89, 3) := by decide +kernel
theorem dX6_springShare_9 : decode cX6_springShare 9 = .ok (.aload_n 1, 1) := by decide +kernel
theorem dX6_springShare_10 : decode cX6_springShare 10 = .ok (.getfield 93, 3) := by decide +kernel
theorem dX6_springShare_13 : decode cX6_springShare 13 = .ok (.iload_n 2, 1) := by decide +kernel
theorem dX6_springShare_14 : decode cX6_springShare 14 = .ok (.iconst 1, 1) := by decide +kernel
theorem dX6_springShare_15 : decode cX6_springShare 15 = .ok (.isub, 1) := by decide +kernel
theorem dX6_springShare_16 : decode cX6_springShare 16 = .ok (.invokevirtual 96, 3) := by decide +kernel
theorem dX6_springShare_19 : decode cX6_springShare 19 = .ok (.ifCond .ne 7, 3) := by decide +kernel
theorem dX6_springShare_22 : decode cX6_springShare 22 = .ok (.ldc2_w 100, 3) := by decide +kernel
theorem dX6_springShare_25 : decode cX6_springShare 25 = .ok (.lreturn, 1) := by decide +kernel
theorem dX6_springShare_26 : decode cX6_springShare 26 = .ok (.aload_n 0, 1) := by decide +kernel
theorem dX6_springShare_27 : decode cX6_springShare 27 = .ok (.getfield 18, 3) := by decide +kernel
theorem dX6_springShare_30 : decode cX6_springShare 30 = .ok (.aload_n 1, 1) := by decide +kernel
theorem dX6_springShare_31 : decode cX6_springShare 31 = .ok (.invokevirtual 195, 3) := by decide +kernel
theorem dX6_springShare_34 : decode cX6_springShare 34 = .ok (.dstore_n 3, 1) := by decide +kernel
theorem dX6_springShare_35 : decode cX6_springShare 35 = .ok (.aload_n 0, 1) := by decide +kernel
theorem dX6_springShare_36 : decode cX6_springShare 36 = .ok (.getfield 18, 3) := by decide +kernel
theorem dX6_springShare_39 : decode cX6_springShare 39 = .ok (.aload_n 1, 1) := by decide +kernel
theorem dX6_springShare_40 : decode cX6_springShare 40 = .ok (.aload_n 1, 1) := by decide +kernel
theorem dX6_springShare_41 : decode cX6_springShare 41 = .ok (.getfield 89, 3) := by decide +kernel
theorem dX6_springShare_44 : decode cX6_springShare 44 = .ok (.aload_n 1, 1) := by decide +kernel
theorem dX6_springShare_45 : decode cX6_springShare 45 = .ok (.getfield 93, 3) := by decide +kernel
theorem dX6_springShare_48 : decode cX6_springShare 48 = .ok (.iload_n 2, 1) := by decide +kernel
theorem dX6_springShare_49 : decode cX6_springShare 49 = .ok (.iconst 1, 1) := by decide +kernel
theorem dX6_springShare_50 : decode cX6_springShare 50 = .ok (.iadd, 1) := by decide +kernel
theorem dX6_springShare_51 : decode cX6_springShare 51 = .ok (.invokevirtual 96, 3) := by decide +kernel
theorem dX6_springShare_54 : decode cX6_springShare 54 = .ok (.ifCond .ne 7, 3) := by decide +kernel
theorem dX6_springShare_57 : decode cX6_springShare 57 = .ok (.ldc2_w 100, 3) := by decide +kernel
theorem dX6_springShare_60 : decode cX6_springShare 60 = .ok (.lreturn, 1) := by decide +kernel
theorem dX6_springShare_61 : decode cX6_springShare 61 = .ok (.dload_n 3, 1) := by decide +kernel
theorem dX6_springShare_62 : decode cX6_springShare 62 = .ok (.aload_n 0, 1) := by decide +kernel
theorem dX6_springShare_63 : decode cX6_springShare 63 = .ok (.getfield 18, 3) := by decide +kernel
theorem dX6_springShare_66 : decode cX6_springShare 66 = .ok (.aload_n 1, 1) := by decide +kernel
theorem dX6_springShare_67 : decode cX6_springShare 67 = .ok (.invokevirtual 195, 3) := by decide +kernel
theorem dX6_springShare_70 : decode cX6_springShare 70 = .ok (.dsub, 1) := by decide +kernel
theorem dX6_springShare_71 : decode cX6_springShare 71 = .ok (.ldc2_w 208, 3) := by decide +kernel
theorem dX6_springShare_74 : decode cX6_springShare 74 = .ok (.ddiv, 1) := by decide +kernel
theorem dX6_springShare_75 : decode cX6_springShare 75 = .ok (.invokestatic 143, 3) := by decide +kernel
theorem dX6_springShare_78 : decode cX6_springShare 78 = .ok (.lreturn, 1) := by decide +kernel
set_option maxRecDepth 20000 in
theorem ggX6_howFarOff_X6_isPoint : GoodIn wsX6_howFarOff wsX6_isPoint := goodIn_r _ [8, 9, 10, 7, 11, 12, 13, 14] (by decide +kernel) (by decide +kernel)
set_option maxRecDepth 20000 in
theorem gX6_howFarOff_X6_isPoint : GoodIn wsX6_howFarOff (va_wsS RX6 48 yX6_isPoint wsX6_isPoint) := goodIn_app (goodIn_of _ (by decide +kernel)) ggX6_howFarOff_X6_isPoint
set_option maxRecDepth 20000 in
theorem ggX6_howFarOff_X5_reach : GoodIn wsX6_howFarOff wsX5_reach := goodIn_r _ [18, 19, 20, 21, 22, 23, 24, 25, 26, 27, 28, 29, 30, 31, 32, 33, 34, 35, 36, 37, 38, 39, 40, 41, 49, 50, 51, 52, 53, 54, 55, 56, 57, 58, 59, 60, 61, 70, 71, 72, 73, 74, 75, 76, 77, 78, 79, 80, 81, 82, 83] (by decide +kernel) (by decide +kernel)
set_option maxRecDepth 20000 in
theorem gX6_howFarOff_X5_reach_n96 : GoodIn wsX6_howFarOff (wsX5_reach) := ggX6_howFarOff_X5_reach
set_option maxRecDepth 20000 in
theorem ggX6_howFarOff_X5_placeUpright : GoodIn wsX6_howFarOff wsX5_placeUpright := goodIn_r _ [44, 27, 21, 26, 23, 24, 45, 22, 46, 47, 48, 28, 29, 30, 31, 32, 33, 34, 35, 36, 37, 38, 39, 40, 41, 49, 50, 51, 52, 53, 54, 55, 56, 57, 58, 59, 60, 61, 70, 71, 72, 73, 74, 75, 76, 77, 78, 79, 80, 81, 82, 83] (by decide +kernel) (by decide +kernel)
set_option maxRecDepth 20000 in
theorem gX6_howFarOff_X5_placeUpright_n102 : GoodIn wsX6_howFarOff (wsX5_placeUpright) := ggX6_howFarOff_X5_placeUpright
theorem dX6_howFarOff_0 : decode cX6_howFarOff 0 = .ok (.aload_n 1, 1) := by decide +kernel
theorem dX6_howFarOff_1 : decode cX6_howFarOff 1 = .ok (.getfield 89, 3) := by decide +kernel
theorem dX6_howFarOff_4 : decode cX6_howFarOff 4 = .ok (.iload_n 2, 1) := by decide +kernel
theorem dX6_howFarOff_5 : decode cX6_howFarOff 5 = .ok (.iadd, 1) := by decide +kernel
theorem dX6_howFarOff_6 : decode cX6_howFarOff 6 = .ok (.istore 4, 2) := by decide +kernel
theorem dX6_howFarOff_8 : decode cX6_howFarOff 8 = .ok (.aload_n 1, 1) := by decide +kernel
theorem dX6_howFarOff_9 : decode cX6_howFarOff 9 = .ok (.getfield 93, 3) := by decide +kernel
theorem dX6_howFarOff_12 : decode cX6_howFarOff 12 = .ok (.iload_n 3, 1) := by decide +kernel
theorem dX6_howFarOff_13 : decode cX6_howFarOff 13 = .ok (.iadd, 1) := by decide +kernel
theorem dX6_howFarOff_14 : decode cX6_howFarOff 14 = .ok (.istore 5, 2) := by decide +kernel
theorem dX6_howFarOff_16 : decode cX6_howFarOff 16 = .ok (.iload 4, 2) := by decide +kernel
theorem dX6_howFarOff_18 : decode cX6_howFarOff 18 = .ok (.iload 5, 2) := by decide +kernel
theorem dX6_howFarOff_20 : decode cX6_howFarOff 20 = .ok (.invokestatic 48, 3) := by decide +kernel
theorem dX6_howFarOff_23 : decode cX6_howFarOff 23 = .ok (.ifCond .ne 7, 3) := by decide +kernel
theorem dX6_howFarOff_26 : decode cX6_howFarOff 26 = .ok (.ldc2_w 149, 3) := by decide +kernel
theorem dX6_howFarOff_29 : decode cX6_howFarOff 29 = .ok (.dreturn, 1) := by decide +kernel
theorem dX6_howFarOff_30 : decode cX6_howFarOff 30 = .ok (.dconst 0, 1) := by decide +kernel
theorem dX6_howFarOff_31 : decode cX6_howFarOff 31 = .ok (.dstore 6, 2) := by decide +kernel
theorem dX6_howFarOff_33 : decode cX6_howFarOff 33 = .ok (.iconst 0, 1) := by decide +kernel
theorem dX6_howFarOff_34 : decode cX6_howFarOff 34 = .ok (.istore 8, 2) := by decide +kernel
theorem dX6_howFarOff_36 : decode cX6_howFarOff 36 = .ok (.iload 8, 2) := by decide +kernel
theorem dX6_howFarOff_38 : decode cX6_howFarOff 38 = .ok (.aload_n 0, 1) := by decide +kernel
theorem dX6_howFarOff_39 : decode cX6_howFarOff 39 = .ok (.getfield 39, 3) := by decide +kernel
theorem dX6_howFarOff_42 : decode cX6_howFarOff 42 = .ok (.getfield 136, 3) := by decide +kernel
theorem dX6_howFarOff_45 : decode cX6_howFarOff 45 = .ok (.if_icmp .ge 105, 3) := by decide +kernel
theorem dX6_howFarOff_48 : decode cX6_howFarOff 48 = .ok (.aload_n 0, 1) := by decide +kernel
theorem dX6_howFarOff_49 : decode cX6_howFarOff 49 = .ok (.getfield 18, 3) := by decide +kernel
theorem dX6_howFarOff_52 : decode cX6_howFarOff 52 = .ok (.aload_n 1, 1) := by decide +kernel
theorem dX6_howFarOff_53 : decode cX6_howFarOff 53 = .ok (.iload 4, 2) := by decide +kernel
theorem dX6_howFarOff_55 : decode cX6_howFarOff 55 = .ok (.iload 5, 2) := by decide +kernel
theorem dX6_howFarOff_57 : decode cX6_howFarOff 57 = .ok (.aload_n 0, 1) := by decide +kernel
theorem dX6_howFarOff_58 : decode cX6_howFarOff 58 = .ok (.getfield 39, 3) := by decide +kernel
theorem dX6_howFarOff_61 : decode cX6_howFarOff 61 = .ok (.getfield 210, 3) := by decide +kernel
theorem dX6_howFarOff_64 : decode cX6_howFarOff 64 = .ok (.iload 8, 2) := by decide +kernel
theorem dX6_howFarOff_66 : decode cX6_howFarOff 66 = .ok (.iaload, 1) := by decide +kernel
theorem dX6_howFarOff_67 : decode cX6_howFarOff 67 = .ok (.invokevirtual 96, 3) := by decide +kernel
theorem dX6_howFarOff_70 : decode cX6_howFarOff 70 = .ok (.ifCond .ne 7, 3) := by decide +kernel
theorem dX6_howFarOff_73 : decode cX6_howFarOff 73 = .ok (.ldc2_w 149, 3) := by decide +kernel
theorem dX6_howFarOff_76 : decode cX6_howFarOff 76 = .ok (.dreturn, 1) := by decide +kernel
theorem dX6_howFarOff_77 : decode cX6_howFarOff 77 = .ok (.aload_n 0, 1) := by decide +kernel
theorem dX6_howFarOff_78 : decode cX6_howFarOff 78 = .ok (.getfield 18, 3) := by decide +kernel
theorem dX6_howFarOff_81 : decode cX6_howFarOff 81 = .ok (.aload_n 1, 1) := by decide +kernel
theorem dX6_howFarOff_82 : decode cX6_howFarOff 82 = .ok (.invokevirtual 102, 3) := by decide +kernel
theorem dX6_howFarOff_85 : decode cX6_howFarOff 85 = .ok (.aload_n 0, 1) := by decide +kernel
theorem dX6_howFarOff_86 : decode cX6_howFarOff 86 = .ok (.getfield 18, 3) := by decide +kernel
theorem dX6_howFarOff_89 : decode cX6_howFarOff 89 = .ok (.getfield 182, 3) := by decide +kernel
theorem dX6_howFarOff_92 : decode cX6_howFarOff 92 = .ok (.dconst 0, 1) := by decide +kernel
theorem dX6_howFarOff_93 : decode cX6_howFarOff 93 = .ok (.dcmp .l, 1) := by decide +kernel
theorem dX6_howFarOff_94 : decode cX6_howFarOff 94 = .ok (.ifCond .ne 7, 3) := by decide +kernel
theorem dX6_howFarOff_97 : decode cX6_howFarOff 97 = .ok (.ldc2_w 149, 3) := by decide +kernel
theorem dX6_howFarOff_100 : decode cX6_howFarOff 100 = .ok (.dreturn, 1) := by decide +kernel
theorem dX6_howFarOff_101 : decode cX6_howFarOff 101 = .ok (.ldc2_w 214, 3) := by decide +kernel
theorem dX6_howFarOff_104 : decode cX6_howFarOff 104 = .ok (.aload_n 0, 1) := by decide +kernel
theorem dX6_howFarOff_105 : decode cX6_howFarOff 105 = .ok (.getfield 18, 3) := by decide +kernel
theorem dX6_howFarOff_108 : decode cX6_howFarOff 108 = .ok (.getfield 185, 3) := by decide +kernel
theorem dX6_howFarOff_111 : decode cX6_howFarOff 111 = .ok (.aload_n 0, 1) := by decide +kernel
theorem dX6_howFarOff_112 : decode cX6_howFarOff 112 = .ok (.getfield 18, 3) := by decide +kernel
theorem dX6_howFarOff_115 : decode cX6_howFarOff 115 = .ok (.getfield 182, 3) := by decide +kernel
theorem dX6_howFarOff_118 : decode cX6_howFarOff 118 = .ok (.ddiv, 1) := by decide +kernel
theorem dX6_howFarOff_119 : decode cX6_howFarOff 119 = .ok (.dmul, 1) := by decide +kernel
theorem dX6_howFarOff_120 : decode cX6_howFarOff 120 = .ok (.aload_n 0, 1) := by decide +kernel
theorem dX6_howFarOff_121 : decode cX6_howFarOff 121 = .ok (.getfield 39, 3) := by decide +kernel
theorem dX6_howFarOff_124 : decode cX6_howFarOff 124 = .ok (.getfield 216, 3) := by decide +kernel
theorem dX6_howFarOff_127 : decode cX6_howFarOff 127 = .ok (.iload 8, 2) := by decide +kernel
theorem dX6_howFarOff_129 : decode cX6_howFarOff 129 = .ok (.iaload, 1) := by decide +kernel
theorem dX6_howFarOff_130 : decode cX6_howFarOff 130 = .ok (.i2d, 1) := by decide +kernel
theorem dX6_howFarOff_131 : decode cX6_howFarOff 131 = .ok (.dsub, 1) := by decide +kernel
theorem dX6_howFarOff_132 : decode cX6_howFarOff 132 = .ok (.dstore 9, 2) := by decide +kernel
theorem dX6_howFarOff_134 : decode cX6_howFarOff 134 = .ok (.dload 6, 2) := by decide +kernel
theorem dX6_howFarOff_136 : decode cX6_howFarOff 136 = .ok (.dload 9, 2) := by decide +kernel
theorem dX6_howFarOff_138 : decode cX6_howFarOff 138 = .ok (.dload 9, 2) := by decide +kernel
theorem dX6_howFarOff_140 : decode cX6_howFarOff 140 = .ok (.dmul, 1) := by decide +kernel
theorem dX6_howFarOff_141 : decode cX6_howFarOff 141 = .ok (.dadd, 1) := by decide +kernel
theorem dX6_howFarOff_142 : decode cX6_howFarOff 142 = .ok (.dstore 6, 2) := by decide +kernel
theorem dX6_howFarOff_144 : decode cX6_howFarOff 144 = .ok (.iinc 8 1, 3) := by decide +kernel
theorem dX6_howFarOff_147 : decode cX6_howFarOff 147 = .ok (.goto (-111), 3) := by decide +kernel
theorem dX6_howFarOff_150 : decode cX6_howFarOff 150 = .ok (.dload 6, 2) := by decide +kernel
theorem dX6_howFarOff_152 : decode cX6_howFarOff 152 = .ok (.dreturn, 1) := by decide +kernel
theorem dX7_in_0 : decode cX7_in 0 = .ok (.iload_n 0, 1) := by decide +kernel
theorem dX7_in_1 : decode cX7_in 1 = .ok (.iload_n 1, 1) := by decide +kernel
theorem dX7_in_2 : decode cX7_in 2 = .ok (.if_icmp .lt 12, 3) := by decide +kernel
theorem dX7_in_5 : decode cX7_in 5 = .ok (.iload_n 0, 1) := by decide +kernel
theorem dX7_in_6 : decode cX7_in 6 = .ok (.iload_n 2, 1) := by decide +kernel
theorem dX7_in_7 : decode cX7_in 7 = .ok (.if_icmp .gt 7, 3) := by decide +kernel
theorem dX7_in_10 : decode cX7_in 10 = .ok (.iconst 1, 1) := by decide +kernel
theorem dX7_in_11 : decode cX7_in 11 = .ok (.goto 4, 3) := by decide +kernel
theorem dX7_in_14 : decode cX7_in 14 = .ok (.iconst 0, 1) := by decide +kernel
theorem dX7_in_15 : decode cX7_in 15 = .ok (.ireturn, 1) := by decide +kernel
theorem dX7_bitsOf_0 : decode cX7_bitsOf 0 = .ok (.dload_n 0, 1) := by decide +kernel
theorem dX7_bitsOf_1 : decode cX7_bitsOf 1 = .ok (.dconst 0, 1) := by decide +kernel
theorem dX7_bitsOf_2 : decode cX7_bitsOf 2 = .ok (.dcmp .g, 1) := by decide +kernel
theorem dX7_bitsOf_3 : decode cX7_bitsOf 3 = .ok (.ifCond .lt 17, 3) := by decide +kernel
theorem dX7_bitsOf_6 : decode cX7_bitsOf 6 = .ok (.dload_n 0, 1) := by decide +kernel
theorem dX7_bitsOf_7 : decode cX7_bitsOf 7 = .ok (.dconst 0, 1) := by decide +kernel
theorem dX7_bitsOf_8 : decode cX7_bitsOf 8 = .ok (.dcmp .l, 1) := by decide +kernel
theorem dX7_bitsOf_9 : decode cX7_bitsOf 9 = .ok (.ifCond .ne 15, 3) := by decide +kernel
theorem dX7_bitsOf_12 : decode cX7_bitsOf 12 = .ok (.dconst 1, 1) := by decide +kernel
theorem dX7_bitsOf_13 : decode cX7_bitsOf 13 = .ok (.dload_n 0, 1) := by decide +kernel
theorem dX7_bitsOf_14 : decode cX7_bitsOf 14 = .ok (.ddiv, 1) := by decide +kernel
theorem dX7_bitsOf_15 : decode cX7_bitsOf 15 = .ok (.dconst 0, 1) := by decide +kernel
theorem dX7_bitsOf_16 : decode cX7_bitsOf 16 = .ok (.dcmp .g, 1) := by decide +kernel
theorem dX7_bitsOf_17 : decode cX7_bitsOf 17 = .ok (.ifCond .ge 7, 3) := by decide +kernel
theorem dX7_bitsOf_20 : decode cX7_bitsOf 20 = .ok (.iconst 1, 1) := by decide +kernel
theorem dX7_bitsOf_21 : decode cX7_bitsOf 21 = .ok (.goto 4, 3) := by decide +kernel
theorem dX7_bitsOf_24 : decode cX7_bitsOf 24 = .ok (.iconst 0, 1) := by decide +kernel
theorem dX7_bitsOf_25 : decode cX7_bitsOf 25 = .ok (.istore_n 2, 1) := by decide +kernel
theorem dX7_bitsOf_26 : decode cX7_bitsOf 26 = .ok (.iload_n 2, 1) := by decide +kernel
theorem dX7_bitsOf_27 : decode cX7_bitsOf 27 = .ok (.ifCond .eq 9, 3) := by decide +kernel
theorem dX7_bitsOf_30 : decode cX7_bitsOf 30 = .ok (.dconst 0, 1) := by decide +kernel
theorem dX7_bitsOf_31 : decode cX7_bitsOf 31 = .ok (.dload_n 0, 1) := by decide +kernel
theorem dX7_bitsOf_32 : decode cX7_bitsOf 32 = .ok (.dsub, 1) := by decide +kernel
theorem dX7_bitsOf_33 : decode cX7_bitsOf 33 = .ok (.goto 4, 3) := by decide +kernel
theorem dX7_bitsOf_36 : decode cX7_bitsOf 36 = .ok (.dload_n 0, 1) := by decide +kernel
theorem dX7_bitsOf_37 : decode cX7_bitsOf 37 = .ok (.dstore_n 3, 1) := by decide +kernel
theorem dX7_bitsOf_38 : decode cX7_bitsOf 38 = .ok (.sipush 1075, 3) := by decide +kernel
theorem dX7_bitsOf_41 : decode cX7_bitsOf 41 = .ok (.istore 5, 2) := by decide +kernel
theorem dX7_bitsOf_43 : decode cX7_bitsOf 43 = .ok (.dload_n 3, 1) := by decide +kernel
theorem dX7_bitsOf_44 : decode cX7_bitsOf 44 = .ok (.ldc2_w 1, 3) := by decide +kernel
theorem dX7_bitsOf_47 : decode cX7_bitsOf 47 = .ok (.dcmp .l, 1) := by decide +kernel
theorem dX7_bitsOf_48 : decode cX7_bitsOf 48 = .ok (.ifCond .lt 15, 3) := by decide +kernel
theorem dX7_bitsOf_51 : decode cX7_bitsOf 51 = .ok (.dload_n 3, 1) := by decide +kernel
theorem dX7_bitsOf_52 : decode cX7_bitsOf 52 = .ok (.ldc2_w 3, 3) := by decide +kernel
theorem dX7_bitsOf_55 : decode cX7_bitsOf 55 = .ok (.ddiv, 1) := by decide +kernel
theorem dX7_bitsOf_56 : decode cX7_bitsOf 56 = .ok (.dstore_n 3, 1) := by decide +kernel
theorem dX7_bitsOf_57 : decode cX7_bitsOf 57 = .ok (.iinc 5 1, 3) := by decide +kernel
theorem dX7_bitsOf_60 : decode cX7_bitsOf 60 = .ok (.goto (-17), 3) := by decide +kernel
theorem dX7_bitsOf_63 : decode cX7_bitsOf 63 = .ok (.dload_n 3, 1) := by decide +kernel
theorem dX7_bitsOf_64 : decode cX7_bitsOf 64 = .ok (.ldc2_w 5, 3) := by decide +kernel
theorem dX7_bitsOf_67 : decode cX7_bitsOf 67 = .ok (.dcmp .g, 1) := by decide +kernel
theorem dX7_bitsOf_68 : decode cX7_bitsOf 68 = .ok (.ifCond .ge 21, 3) := by decide +kernel
theorem dX7_bitsOf_71 : decode cX7_bitsOf 71 = .ok (.iload 5, 2) := by decide +kernel
theorem dX7_bitsOf_73 : decode cX7_bitsOf 73 = .ok (.iconst 1, 1) := by decide +kernel
theorem dX7_bitsOf_74 : decode cX7_bitsOf 74 = .ok (.if_icmp .le 15, 3) := by decide +kernel
theorem dX7_bitsOf_77 : decode cX7_bitsOf 77 = .ok (.dload_n 3, 1) := by decide +kernel
theorem dX7_bitsOf_78 : decode cX7_bitsOf 78 = .ok (.ldc2_w 3, 3) := by decide +kernel
theorem dX7_bitsOf_81 : decode cX7_bitsOf 81 = .ok (.dmul, 1) := by decide +kernel
theorem dX7_bitsOf_82 : decode cX7_bitsOf 82 = .ok (.dstore_n 3, 1) := by decide +kernel
theorem dX7_bitsOf_83 : decode cX7_bitsOf 83 = .ok (.iinc 5 (-1), 3) := by decide +kernel
theorem dX7_bitsOf_86 : decode cX7_bitsOf 86 = .ok (.goto (-23), 3) := by decide +kernel
theorem dX7_bitsOf_89 : decode cX7_bitsOf 89 = .ok (.dload_n 3, 1) := by decide +kernel
theorem dX7_bitsOf_90 : decode cX7_bitsOf 90 = .ok (.d2l, 1) := by decide +kernel
theorem dX7_bitsOf_91 : decode cX7_bitsOf 91 = .ok (.lstore 6, 2) := by decide +kernel
theorem dX7_bitsOf_93 : decode cX7_bitsOf 93 = .ok (.lload 6, 2) := by decide +kernel
theorem dX7_bitsOf_95 : decode cX7_bitsOf 95 = .ok (.ldc2_w 7, 3) := by decide +kernel
theorem dX7_bitsOf_98 : decode cX7_bitsOf 98 = .ok (.lcmp, 1) := by decide +kernel
theorem dX7_bitsOf_99 : decode cX7_bitsOf 99 = .ok (.ifCond .ge 8, 3) := by decide +kernel
theorem dX7_bitsOf_102 : decode cX7_bitsOf 102 = .ok (.lload 6, 2) := by decide +kernel
theorem dX7_bitsOf_104 : decode cX7_bitsOf 104 = .ok (.goto 16, 3) := by decide +kernel
theorem dX7_bitsOf_107 : decode cX7_bitsOf 107 = .ok (.lload 6, 2) := by decide +kernel
theorem dX7_bitsOf_109 : decode cX7_bitsOf 109 = .ok (.ldc2_w 7, 3) := by decide +kernel
theorem dX7_bitsOf_112 : decode cX7_bitsOf 112 = .ok (.lsub, 1) := by decide +kernel
theorem dX7_bitsOf_113 : decode cX7_bitsOf 113 = .ok (.iload 5, 2) := by decide +kernel
theorem dX7_bitsOf_115 : decode cX7_bitsOf 115 = .ok (.i2l, 1) := by decide +kernel
theorem dX7_bitsOf_116 : decode cX7_bitsOf 116 = .ok (.bipush 52, 2) := by decide +kernel
theorem dX7_bitsOf_118 : decode cX7_bitsOf 118 = .ok (.lshl, 1) := by decide +kernel
theorem dX7_bitsOf_119 : decode cX7_bitsOf 119 = .ok (.ladd, 1) := by decide +kernel
theorem dX7_bitsOf_120 : decode cX7_bitsOf 120 = .ok (.lstore 8, 2) := by decide +kernel
theorem dX7_bitsOf_122 : decode cX7_bitsOf 122 = .ok (.iload_n 2, 1) := by decide +kernel
theorem dX7_bitsOf_123 : decode cX7_bitsOf 123 = .ok (.ifCond .eq 12, 3) := by decide +kernel
theorem dX7_bitsOf_126 : decode cX7_bitsOf 126 = .ok (.lload 8, 2) := by decide +kernel
theorem dX7_bitsOf_128 : decode cX7_bitsOf 128 = .ok (.ldc2_w 9, 3) := by decide +kernel
theorem dX7_bitsOf_131 : decode cX7_bitsOf 131 = .ok (.lor, 1) := by decide +kernel
theorem dX7_bitsOf_132 : decode cX7_bitsOf 132 = .ok (.goto 5, 3) := by decide +kernel
theorem dX7_bitsOf_135 : decode cX7_bitsOf 135 = .ok (.lload 8, 2) := by decide +kernel
theorem dX7_bitsOf_137 : decode cX7_bitsOf 137 = .ok (.lreturn, 1) := by decide +kernel
theorem dX7_root_0 : decode cX7_root 0 = .ok (.dload_n 0, 1) := by decide +kernel
theorem dX7_root_1 : decode cX7_root 1 = .ok (.dconst 0, 1) := by decide +kernel
theorem dX7_root_2 : decode cX7_root 2 = .ok (.dcmp .l, 1) := by decide +kernel
theorem dX7_root_3 : decode cX7_root 3 = .ok (.ifCond .ne 5, 3) := by decide +kernel
theorem dX7_root_6 : decode cX7_root 6 = .ok (.dload_n 0, 1) := by decide +kernel
theorem dX7_root_7 : decode cX7_root 7 = .ok (.dreturn, 1) := by decide +kernel
theorem dX7_root_8 : decode cX7_root 8 = .ok (.dload_n 0, 1) := by decide +kernel
theorem dX7_root_9 : decode cX7_root 9 = .ok (.dstore_n 2, 1) := by decide +kernel
theorem dX7_root_10 : decode cX7_root 10 = .ok (.iconst 0, 1) := by decide +kernel
theorem dX7_root_11 : decode cX7_root 11 = .ok (.istore 4, 2) := by decide +kernel
theorem dX7_root_13 : decode cX7_root 13 = .ok (.dload_n 2, 1) := by decide +kernel
theorem dX7_root_14 : decode cX7_root 14 = .ok (.ldc2_w 1, 3) := by decide +kernel
theorem dX7_root_17 : decode cX7_root 17 = .ok (.dcmp .l, 1) := by decide +kernel
theorem dX7_root_18 : decode cX7_root 18 = .ok (.ifCond .lt 15, 3) := by decide +kernel
theorem dX7_root_21 : decode cX7_root 21 = .ok (.dload_n 2, 1) := by decide +kernel
theorem dX7_root_22 : decode cX7_root 22 = .ok (.ldc2_w 3, 3) := by decide +kernel
theorem dX7_root_25 : decode cX7_root 25 = .ok (.ddiv, 1) := by decide +kernel
theorem dX7_root_26 : decode cX7_root 26 = .ok (.dstore_n 2, 1) := by decide +kernel
theorem dX7_root_27 : decode cX7_root 27 = .ok (.iinc 4 1, 3) := by decide +kernel
theorem dX7_root_30 : decode cX7_root 30 = .ok (.goto (-17), 3) := by decide +kernel
theorem dX7_root_33 : decode cX7_root 33 = .ok (.dload_n 2, 1) := by decide +kernel
theorem dX7_root_34 : decode cX7_root 34 = .ok (.ldc2_w 5, 3) := by decide +kernel
theorem dX7_root_37 : decode cX7_root 37 = .ok (.dcmp .g, 1) := by decide +kernel
theorem dX7_root_38 : decode cX7_root 38 = .ok (.ifCond .ge 15, 3) := by decide +kernel
theorem dX7_root_41 : decode cX7_root 41 = .ok (.dload_n 2, 1) := by decide +kernel
theorem dX7_root_42 : decode cX7_root 42 = .ok (.ldc2_w 3, 3) := by decide +kernel
theorem dX7_root_45 : decode cX7_root 45 = .ok (.dmul, 1) := by decide +kernel
theorem dX7_root_46 : decode cX7_root 46 = .ok (.dstore_n 2, 1) := by decide +kernel
theorem dX7_root_47 : decode cX7_root 47 = .ok (.iinc 4 (-1), 3) := by decide +kernel
theorem dX7_root_50 : decode cX7_root 50 = .ok (.goto (-17), 3) := by decide +kernel
theorem dX7_root_53 : decode cX7_root 53 = .ok (.dload_n 2, 1) := by decide +kernel
theorem dX7_root_54 : decode cX7_root 54 = .ok (.d2l, 1) := by decide +kernel
theorem dX7_root_55 : decode cX7_root 55 = .ok (.lstore 5, 2) := by decide +kernel
theorem dX7_root_57 : decode cX7_root 57 = .ok (.iload 4, 2) := by decide +kernel
theorem dX7_root_59 : decode cX7_root 59 = .ok (.istore 7, 2) := by decide +kernel
theorem dX7_root_61 : decode cX7_root 61 = .ok (.iload 4, 2) := by decide +kernel
theorem dX7_root_63 : decode cX7_root 63 = .ok (.iconst 2, 1) := by decide +kernel
theorem dX7_root_64 : decode cX7_root 64 = .ok (.irem, 1) := by decide +kernel
theorem dX7_root_65 : decode cX7_root 65 = .ok (.ifCond .eq 13, 3) := by decide +kernel
theorem dX7_root_68 : decode cX7_root 68 = .ok (.lload 5, 2) := by decide +kernel
theorem dX7_root_70 : decode cX7_root 70 = .ok (.lload 5, 2) := by decide +kernel
theorem dX7_root_72 : decode cX7_root 72 = .ok (.ladd, 1) := by decide +kernel
theorem dX7_root_73 : decode cX7_root 73 = .ok (.lstore 5, 2) := by decide +kernel
theorem dX7_root_75 : decode cX7_root 75 = .ok (.iinc 7 (-1), 3) := by decide +kernel
theorem dX7_root_78 : decode cX7_root 78 = .ok (.lload 5, 2) := by decide +kernel
theorem dX7_root_80 : decode cX7_root 80 = .ok (.lload 5, 2) := by decide +kernel
theorem dX7_root_82 : decode cX7_root 82 = .ok (.ladd, 1) := by decide +kernel
theorem dX7_root_83 : decode cX7_root 83 = .ok (.lstore 5, 2) := by decide +kernel
theorem dX7_root_85 : decode cX7_root 85 = .ok (.lconst 0, 1) := by decide +kernel
theorem dX7_root_86 : decode cX7_root 86 = .ok (.lstore 8, 2) := by decide +kernel
theorem dX7_root_88 : decode cX7_root 88 = .ok (.lconst 0, 1) := by decide +kernel
theorem dX7_root_89 : decode cX7_root 89 = .ok (.lstore 10, 2) := by decide +kernel
theorem dX7_root_91 : decode cX7_root 91 = .ok (.ldc2_w 11, 3) := by decide +kernel
theorem dX7_root_94 : decode cX7_root 94 = .ok (.lstore 12, 2) := by decide +kernel
theorem dX7_root_96 : decode cX7_root 96 = .ok (.lload 12, 2) := by decide +kernel
theorem dX7_root_98 : decode cX7_root 98 = .ok (.lconst 0, 1) := by decide +kernel
theorem dX7_root_99 : decode cX7_root 99 = .ok (.lcmp, 1) := by decide +kernel
theorem dX7_root_100 : decode cX7_root 100 = .ok (.ifCond .eq 55, 3) := by decide +kernel
theorem dX7_root_103 : decode cX7_root 103 = .ok (.lload 10, 2) := by decide +kernel
theorem dX7_root_105 : decode cX7_root 105 = .ok (.lload 12, 2) := by decide +kernel
theorem dX7_root_107 : decode cX7_root 107 = .ok (.ladd, 1) := by decide +kernel
theorem dX7_root_108 : decode cX7_root 108 = .ok (.lstore 14, 2) := by decide +kernel
theorem dX7_root_110 : decode cX7_root 110 = .ok (.lload 14, 2) := by decide +kernel
theorem dX7_root_112 : decode cX7_root 112 = .ok (.lload 5, 2) := by decide +kernel
theorem dX7_root_114 : decode cX7_root 114 = .ok (.lcmp, 1) := by decide +kernel
theorem dX7_root_115 : decode cX7_root 115 = .ok (.ifCond .gt 24, 3) := by decide +kernel
theorem dX7_root_118 : decode cX7_root 118 = .ok (.lload 14, 2) := by decide +kernel
theorem dX7_root_120 : decode cX7_root 120 = .ok (.lload 12, 2) := by decide +kernel
theorem dX7_root_122 : decode cX7_root 122 = .ok (.ladd, 1) := by decide +kernel
theorem dX7_root_123 : decode cX7_root 123 = .ok (.lstore 10, 2) := by decide +kernel
theorem dX7_root_125 : decode cX7_root 125 = .ok (.lload 5, 2) := by decide +kernel
theorem dX7_root_127 : decode cX7_root 127 = .ok (.lload 14, 2) := by decide +kernel
theorem dX7_root_129 : decode cX7_root 129 = .ok (.lsub, 1) := by decide +kernel
theorem dX7_root_130 : decode cX7_root 130 = .ok (.lstore 5, 2) := by decide +kernel
theorem dX7_root_132 : decode cX7_root 132 = .ok (.lload 8, 2) := by decide +kernel
theorem dX7_root_134 : decode cX7_root 134 = .ok (.lload 12, 2) := by decide +kernel
theorem dX7_root_136 : decode cX7_root 136 = .ok (.ladd, 1) := by decide +kernel
theorem dX7_root_137 : decode cX7_root 137 = .ok (.lstore 8, 2) := by decide +kernel
theorem dX7_root_139 : decode cX7_root 139 = .ok (.lload 5, 2) := by decide +kernel
theorem dX7_root_141 : decode cX7_root 141 = .ok (.lload 5, 2) := by decide +kernel
theorem dX7_root_143 : decode cX7_root 143 = .ok (.ladd, 1) := by decide +kernel
theorem dX7_root_144 : decode cX7_root 144 = .ok (.lstore 5, 2) := by decide +kernel
theorem dX7_root_146 : decode cX7_root 146 = .ok (.lload 12, 2) := by decide +kernel
theorem dX7_root_148 : decode cX7_root 148 = .ok (.iconst 1, 1) := by decide +kernel
theorem dX7_root_149 : decode cX7_root 149 = .ok (.lshr, 1) := by decide +kernel
theorem dX7_root_150 : decode cX7_root 150 = .ok (.lstore 12, 2) := by decide +kernel
theorem dX7_root_152 : decode cX7_root 152 = .ok (.goto (-56), 3) := by decide +kernel
theorem dX7_root_155 : decode cX7_root 155 = .ok (.lload 8, 2) := by decide +kernel
theorem dX7_root_157 : decode cX7_root 157 = .ok (.lload 5, 2) := by decide +kernel
theorem dX7_root_159 : decode cX7_root 159 = .ok (.lconst 0, 1) := by decide +kernel
theorem dX7_root_160 : decode cX7_root 160 = .ok (.lcmp, 1) := by decide +kernel
theorem dX7_root_161 : decode cX7_root 161 = .ok (.ifCond .eq 10, 3) := by decide +kernel
theorem dX7_root_164 : decode cX7_root 164 = .ok (.lload 8, 2) := by decide +kernel
theorem dX7_root_166 : decode cX7_root 166 = .ok (.lconst 1, 1) := by decide +kernel
theorem dX7_root_167 : decode cX7_root 167 = .ok (.land, 1) := by decide +kernel
theorem dX7_root_168 : decode cX7_root 168 = .ok (.goto 4, 3) := by decide +kernel
theorem dX7_root_171 : decode cX7_root 171 = .ok (.lconst 0, 1) := by decide +kernel
theorem dX7_root_172 : decode cX7_root 172 = .ok (.ladd, 1) := by decide +kernel
theorem dX7_root_173 : decode cX7_root 173 = .ok (.lstore 8, 2) := by decide +kernel
theorem dX7_root_175 : decode cX7_root 175 = .ok (.lload 8, 2) := by decide +kernel
theorem dX7_root_177 : decode cX7_root 177 = .ok (.iconst 1, 1) := by decide +kernel
theorem dX7_root_178 : decode cX7_root 178 = .ok (.lshr, 1) := by decide +kernel
theorem dX7_root_179 : decode cX7_root 179 = .ok (.l2d, 1) := by decide +kernel
theorem dX7_root_180 : decode cX7_root 180 = .ok (.dstore 12, 2) := by decide +kernel
theorem dX7_root_182 : decode cX7_root 182 = .ok (.iload 7, 2) := by decide +kernel
theorem dX7_root_184 : decode cX7_root 184 = .ok (.iconst 2, 1) := by decide +kernel
theorem dX7_root_185 : decode cX7_root 185 = .ok (.idiv, 1) := by decide +kernel
theorem dX7_root_186 : decode cX7_root 186 = .ok (.bipush 26, 2) := by decide +kernel
theorem dX7_root_188 : decode cX7_root 188 = .ok (.isub, 1) := by decide +kernel
theorem dX7_root_189 : decode cX7_root 189 = .ok (.istore 14, 2) := by decide +kernel
theorem dX7_root_191 : decode cX7_root 191 = .ok (.iload 14, 2) := by decide +kernel
theorem dX7_root_193 : decode cX7_root 193 = .ok (.ifCond .le 17, 3) := by decide +kernel
theorem dX7_root_196 : decode cX7_root 196 = .ok (.dload 12, 2) := by decide +kernel
theorem dX7_root_198 : decode cX7_root 198 = .ok (.ldc2_w 3, 3) := by decide +kernel
theorem dX7_root_201 : decode cX7_root 201 = .ok (.dmul, 1) := by decide +kernel
theorem dX7_root_202 : decode cX7_root 202 = .ok (.dstore 12, 2) := by decide +kernel
theorem dX7_root_204 : decode cX7_root 204 = .ok (.iinc 14 (-1), 3) := by decide +kernel
theorem dX7_root_207 : decode cX7_root 207 = .ok (.goto (-16), 3) := by decide +kernel
theorem dX7_root_210 : decode cX7_root 210 = .ok (.iload 14, 2) := by decide +kernel
theorem dX7_root_212 : decode cX7_root 212 = .ok (.ifCond .ge 17, 3) := by decide +kernel
theorem dX7_root_215 : decode cX7_root 215 = .ok (.dload 12, 2) := by decide +kernel
theorem dX7_root_217 : decode cX7_root 217 = .ok (.ldc2_w 3, 3) := by decide +kernel
theorem dX7_root_220 : decode cX7_root 220 = .ok (.ddiv, 1) := by decide +kernel
theorem dX7_root_221 : decode cX7_root 221 = .ok (.dstore 12, 2) := by decide +kernel
theorem dX7_root_223 : decode cX7_root 223 = .ok (.iinc 14 1, 3) := by decide +kernel
theorem dX7_root_226 : decode cX7_root 226 = .ok (.goto (-16), 3) := by decide +kernel
theorem dX7_root_229 : decode cX7_root 229 = .ok (.dload 12, 2) := by decide +kernel
theorem dX7_root_231 : decode cX7_root 231 = .ok (.dreturn, 1) := by decide +kernel
set_option maxRecDepth 20000 in
theorem ggX7_init_X7_lays : GoodIn wsX7_init wsX7_lays := goodIn_r _ [13, 5, 14, 15, 16, 17, 18, 19, 20, 21, 22, 23, 24, 25, 26, 27, 28, 29, 30, 31, 32, 33, 34, 35] (by decide +kernel) (by decide +kernel)
set_option maxRecDepth 20000 in
theorem gX7_init_X7_lays : GoodIn wsX7_init (wsV RX7 34 RX7 yX7_lays wsX7_lays) := goodIn_app (goodIn_of _ (by decide +kernel)) ggX7_init_X7_lays
theorem dX7_init_0 : decode cX7_init 0 = .ok (.aload_n 0, 1) := by decide +kernel
theorem dX7_init_1 : decode cX7_init 1 = .ok (.invokespecial 13, 3) := by decide +kernel
theorem dX7_init_4 : decode cX7_init 4 = .ok (.aload_n 0, 1) := by decide +kernel
theorem dX7_init_5 : decode cX7_init 5 = .ok (.bipush 52, 2) := by decide +kernel
theorem dX7_init_7 : decode cX7_init 7 = .ok (.newarray .int, 2) := by decide +kernel
theorem dX7_init_9 : decode cX7_init 9 = .ok (.putfield 19, 3) := by decide +kernel
theorem dX7_init_12 : decode cX7_init 12 = .ok (.aload_n 0, 1) := by decide +kernel
theorem dX7_init_13 : decode cX7_init 13 = .ok (.bipush 10, 2) := by decide +kernel
theorem dX7_init_15 : decode cX7_init 15 = .ok (.newarray .int, 2) := by decide +kernel
theorem dX7_init_17 : decode cX7_init 17 = .ok (.putfield 25, 3) := by decide +kernel
theorem dX7_init_20 : decode cX7_init 20 = .ok (.aload_n 0, 1) := by decide +kernel
theorem dX7_init_21 : decode cX7_init 21 = .ok (.bipush 12, 2) := by decide +kernel
theorem dX7_init_23 : decode cX7_init 23 = .ok (.newarray .int, 2) := by decide +kernel
theorem dX7_init_25 : decode cX7_init 25 = .ok (.putfield 28, 3) := by decide +kernel
theorem dX7_init_28 : decode cX7_init 28 = .ok (.aload_n 0, 1) := by decide +kernel
theorem dX7_init_29 : decode cX7_init 29 = .ok (.bipush 12, 2) := by decide +kernel
theorem dX7_init_31 : decode cX7_init 31 = .ok (.newarray .int, 2) := by decide +kernel
theorem dX7_init_33 : decode cX7_init 33 = .ok (.putfield 31, 3) := by decide +kernel
theorem dX7_init_36 : decode cX7_init 36 = .ok (.iconst 0, 1) := by decide +kernel
theorem dX7_init_37 : decode cX7_init 37 = .ok (.istore_n 1, 1) := by decide +kernel
theorem dX7_init_38 : decode cX7_init 38 = .ok (.iload_n 1, 1) := by decide +kernel
theorem dX7_init_39 : decode cX7_init 39 = .ok (.iconst 4, 1) := by decide +kernel
theorem dX7_init_40 : decode cX7_init 40 = .ok (.if_icmp .ge 101, 3) := by decide +kernel
theorem dX7_init_43 : decode cX7_init 43 = .ok (.aload_n 0, 1) := by decide +kernel
theorem dX7_init_44 : decode cX7_init 44 = .ok (.iload_n 1, 1) := by decide +kernel
theorem dX7_init_45 : decode cX7_init 45 = .ok (.iconst 0, 1) := by decide +kernel
theorem dX7_init_46 : decode cX7_init 46 = .ok (.sipush 300, 3) := by decide +kernel
theorem dX7_init_49 : decode cX7_init 49 = .ok (.iconst 0, 1) := by decide +kernel
theorem dX7_init_50 : decode cX7_init 50 = .ok (.iconst 0, 1) := by decide +kernel
theorem dX7_init_51 : decode cX7_init 51 = .ok (.sipush 300, 3) := by decide +kernel
theorem dX7_init_54 : decode cX7_init 54 = .ok (.sipush 400, 3) := by decide +kernel
theorem dX7_init_57 : decode cX7_init 57 = .ok (.sipush 300, 3) := by decide +kernel
theorem dX7_init_60 : decode cX7_init 60 = .ok (.iconst 1, 1) := by decide +kernel
theorem dX7_init_61 : decode cX7_init 61 = .ok (.invokevirtual 34, 3) := by decide +kernel
theorem dX7_init_64 : decode cX7_init 64 = .ok (.aload_n 0, 1) := by decide +kernel
theorem dX7_init_65 : decode cX7_init 65 = .ok (.getfield 19, 3) := by decide +kernel
theorem dX7_init_68 : decode cX7_init 68 = .ok (.bipush 13, 2) := by decide +kernel
theorem dX7_init_70 : decode cX7_init 70 = .ok (.iload_n 1, 1) := by decide +kernel
theorem dX7_init_71 : decode cX7_init 71 = .ok (.imul, 1) := by decide +kernel
theorem dX7_init_72 : decode cX7_init 72 = .ok (.bipush 8, 2) := by decide +kernel
theorem dX7_init_74 : decode cX7_init 74 = .ok (.iadd, 1) := by decide +kernel
theorem dX7_init_75 : decode cX7_init 75 = .ok (.bipush (-100), 2) := by decide +kernel
theorem dX7_init_77 : decode cX7_init 77 = .ok (.iastore, 1) := by decide +kernel
theorem dX7_init_78 : decode cX7_init 78 = .ok (.aload_n 0, 1) := by decide +kernel
theorem dX7_init_79 : decode cX7_init 79 = .ok (.getfield 19, 3) := by decide +kernel
theorem dX7_init_82 : decode cX7_init 82 = .ok (.bipush 13, 2) := by decide +kernel
theorem dX7_init_84 : decode cX7_init 84 = .ok (.iload_n 1, 1) := by decide +kernel
theorem dX7_init_85 : decode cX7_init 85 = .ok (.imul, 1) := by decide +kernel
theorem dX7_init_86 : decode cX7_init 86 = .ok (.bipush 9, 2) := by decide +kernel
theorem dX7_init_88 : decode cX7_init 88 = .ok (.iadd, 1) := by decide +kernel
theorem dX7_init_89 : decode cX7_init 89 = .ok (.bipush 100, 2) := by decide +kernel
theorem dX7_init_91 : decode cX7_init 91 = .ok (.iastore, 1) := by decide +kernel
theorem dX7_init_92 : decode cX7_init 92 = .ok (.aload_n 0, 1) := by decide +kernel
theorem dX7_init_93 : decode cX7_init 93 = .ok (.getfield 19, 3) := by decide +kernel
theorem dX7_init_96 : decode cX7_init 96 = .ok (.bipush 13, 2) := by decide +kernel
theorem dX7_init_98 : decode cX7_init 98 = .ok (.iload_n 1, 1) := by decide +kernel
theorem dX7_init_99 : decode cX7_init 99 = .ok (.imul, 1) := by decide +kernel
end
section
theorem dX7_init_100 : decode cX7_init 100 = .ok (.bipush 10, 2) := by decide +kernel
theorem dX7_init_102 : decode cX7_init 102 = .ok (.iadd, 1) := by decide +kernel
theorem dX7_init_103 : decode cX7_init 103 = .ok (.iconst 0, 1) := by decide +kernel
theorem dX7_init_104 : decode cX7_init 104 = .ok (.iastore, 1) := by decide +kernel
theorem dX7_init_105 : decode cX7_init 105 = .ok (.aload_n 0, 1) := by decide +kernel
theorem dX7_init_106 : decode cX7_init 106 = .ok (.getfield 19, 3) := by decide +kernel
theorem dX7_init_109 : decode cX7_init 109 = .ok (.bipush 13, 2) := by decide +kernel
theorem dX7_init_111 : decode cX7_init 111 = .ok (.iload_n 1, 1) := by decide +kernel
theorem dX7_init_112 : decode cX7_init 112 = .ok (.imul, 1) := by decide +kernel
theorem dX7_init_113 : decode cX7_init 113 = .ok (.bipush 11, 2) := by decide +kernel
theorem dX7_init_115 : decode cX7_init 115 = .ok (.iadd, 1) := by decide +kernel
theorem dX7_init_116 : decode cX7_init 116 = .ok (.sipush 500, 3) := by decide +kernel
theorem dX7_init_119 : decode cX7_init 119 = .ok (.iastore, 1) := by decide +kernel
theorem dX7_init_120 : decode cX7_init 120 = .ok (.aload_n 0, 1) := by decide +kernel
theorem dX7_init_121 : decode cX7_init 121 = .ok (.getfield 19, 3) := by decide +kernel
theorem dX7_init_124 : decode cX7_init 124 = .ok (.bipush 13, 2) := by decide +kernel
theorem dX7_init_126 : decode cX7_init 126 = .ok (.iload_n 1, 1) := by decide +kernel
theorem dX7_init_127 : decode cX7_init 127 = .ok (.imul, 1) := by decide +kernel
theorem dX7_init_128 : decode cX7_init 128 = .ok (.bipush 12, 2) := by decide +kernel
theorem dX7_init_130 : decode cX7_init 130 = .ok (.iadd, 1) := by decide +kernel
theorem dX7_init_131 : decode cX7_init 131 = .ok (.sipush 500, 3) := by decide +kernel
theorem dX7_init_134 : decode cX7_init 134 = .ok (.iastore, 1) := by decide +kernel
theorem dX7_init_135 : decode cX7_init 135 = .ok (.iinc 1 1, 3) := by decide +kernel
theorem dX7_init_138 : decode cX7_init 138 = .ok (.goto (-100), 3) := by decide +kernel
theorem dX7_init_141 : decode cX7_init 141 = .ok (.return_, 1) := by decide +kernel
theorem dX7_lays_0 : decode cX7_lays 0 = .ok (.bipush 13, 2) := by decide +kernel
theorem dX7_lays_2 : decode cX7_lays 2 = .ok (.iload_n 1, 1) := by decide +kernel
theorem dX7_lays_3 : decode cX7_lays 3 = .ok (.imul, 1) := by decide +kernel
theorem dX7_lays_4 : decode cX7_lays 4 = .ok (.istore 10, 2) := by decide +kernel
theorem dX7_lays_6 : decode cX7_lays 6 = .ok (.aload_n 0, 1) := by decide +kernel
theorem dX7_lays_7 : decode cX7_lays 7 = .ok (.getfield 19, 3) := by decide +kernel
theorem dX7_lays_10 : decode cX7_lays 10 = .ok (.iload 10, 2) := by decide +kernel
theorem dX7_lays_12 : decode cX7_lays 12 = .ok (.iload_n 2, 1) := by decide +kernel
theorem dX7_lays_13 : decode cX7_lays 13 = .ok (.iastore, 1) := by decide +kernel
theorem dX7_lays_14 : decode cX7_lays 14 = .ok (.aload_n 0, 1) := by decide +kernel
theorem dX7_lays_15 : decode cX7_lays 15 = .ok (.getfield 19, 3) := by decide +kernel
theorem dX7_lays_18 : decode cX7_lays 18 = .ok (.iload 10, 2) := by decide +kernel
theorem dX7_lays_20 : decode cX7_lays 20 = .ok (.iconst 1, 1) := by decide +kernel
theorem dX7_lays_21 : decode cX7_lays 21 = .ok (.iadd, 1) := by decide +kernel
theorem dX7_lays_22 : decode cX7_lays 22 = .ok (.iload_n 3, 1) := by decide +kernel
theorem dX7_lays_23 : decode cX7_lays 23 = .ok (.iastore, 1) := by decide +kernel
theorem dX7_lays_24 : decode cX7_lays 24 = .ok (.aload_n 0, 1) := by decide +kernel
theorem dX7_lays_25 : decode cX7_lays 25 = .ok (.getfield 19, 3) := by decide +kernel
theorem dX7_lays_28 : decode cX7_lays 28 = .ok (.iload 10, 2) := by decide +kernel
theorem dX7_lays_30 : decode cX7_lays 30 = .ok (.iconst 2, 1) := by decide +kernel
theorem dX7_lays_31 : decode cX7_lays 31 = .ok (.iadd, 1) := by decide +kernel
theorem dX7_lays_32 : decode cX7_lays 32 = .ok (.iload 4, 2) := by decide +kernel
theorem dX7_lays_34 : decode cX7_lays 34 = .ok (.iastore, 1) := by decide +kernel
theorem dX7_lays_35 : decode cX7_lays 35 = .ok (.aload_n 0, 1) := by decide +kernel
theorem dX7_lays_36 : decode cX7_lays 36 = .ok (.getfield 19, 3) := by decide +kernel
theorem dX7_lays_39 : decode cX7_lays 39 = .ok (.iload 10, 2) := by decide +kernel
theorem dX7_lays_41 : decode cX7_lays 41 = .ok (.iconst 3, 1) := by decide +kernel
theorem dX7_lays_42 : decode cX7_lays 42 = .ok (.iadd, 1) := by decide +kernel
theorem dX7_lays_43 : decode cX7_lays 43 = .ok (.iload 5, 2) := by decide +kernel
theorem dX7_lays_45 : decode cX7_lays 45 = .ok (.iastore, 1) := by decide +kernel
theorem dX7_lays_46 : decode cX7_lays 46 = .ok (.aload_n 0, 1) := by decide +kernel
theorem dX7_lays_47 : decode cX7_lays 47 = .ok (.getfield 19, 3) := by decide +kernel
theorem dX7_lays_50 : decode cX7_lays 50 = .ok (.iload 10, 2) := by decide +kernel
theorem dX7_lays_52 : decode cX7_lays 52 = .ok (.iconst 4, 1) := by decide +kernel
theorem dX7_lays_53 : decode cX7_lays 53 = .ok (.iadd, 1) := by decide +kernel
theorem dX7_lays_54 : decode cX7_lays 54 = .ok (.iload 6, 2) := by decide +kernel
theorem dX7_lays_56 : decode cX7_lays 56 = .ok (.iastore, 1) := by decide +kernel
theorem dX7_lays_57 : decode cX7_lays 57 = .ok (.aload_n 0, 1) := by decide +kernel
theorem dX7_lays_58 : decode cX7_lays 58 = .ok (.getfield 19, 3) := by decide +kernel
theorem dX7_lays_61 : decode cX7_lays 61 = .ok (.iload 10, 2) := by decide +kernel
theorem dX7_lays_63 : decode cX7_lays 63 = .ok (.iconst 5, 1) := by decide +kernel
theorem dX7_lays_64 : decode cX7_lays 64 = .ok (.iadd, 1) := by decide +kernel
theorem dX7_lays_65 : decode cX7_lays 65 = .ok (.iload 7, 2) := by decide +kernel
theorem dX7_lays_67 : decode cX7_lays 67 = .ok (.iastore, 1) := by decide +kernel
theorem dX7_lays_68 : decode cX7_lays 68 = .ok (.aload_n 0, 1) := by decide +kernel
theorem dX7_lays_69 : decode cX7_lays 69 = .ok (.getfield 19, 3) := by decide +kernel
theorem dX7_lays_72 : decode cX7_lays 72 = .ok (.iload 10, 2) := by decide +kernel
theorem dX7_lays_74 : decode cX7_lays 74 = .ok (.bipush 6, 2) := by decide +kernel
theorem dX7_lays_76 : decode cX7_lays 76 = .ok (.iadd, 1) := by decide +kernel
theorem dX7_lays_77 : decode cX7_lays 77 = .ok (.iload 8, 2) := by decide +kernel
theorem dX7_lays_79 : decode cX7_lays 79 = .ok (.iastore, 1) := by decide +kernel
theorem dX7_lays_80 : decode cX7_lays 80 = .ok (.aload_n 0, 1) := by decide +kernel
theorem dX7_lays_81 : decode cX7_lays 81 = .ok (.getfield 19, 3) := by decide +kernel
theorem dX7_lays_84 : decode cX7_lays 84 = .ok (.iload 10, 2) := by decide +kernel
theorem dX7_lays_86 : decode cX7_lays 86 = .ok (.bipush 7, 2) := by decide +kernel
theorem dX7_lays_88 : decode cX7_lays 88 = .ok (.iadd, 1) := by decide +kernel
theorem dX7_lays_89 : decode cX7_lays 89 = .ok (.iload 9, 2) := by decide +kernel
theorem dX7_lays_91 : decode cX7_lays 91 = .ok (.iastore, 1) := by decide +kernel
theorem dX7_lays_92 : decode cX7_lays 92 = .ok (.return_, 1) := by decide +kernel
set_option maxRecDepth 20000 in
theorem ggX7_isHanging_X7_in : GoodIn wsX7_isHanging wsX7_in := goodIn_r _ [4] (by decide +kernel) (by decide +kernel)
set_option maxRecDepth 20000 in
theorem gX7_isHanging_X7_in : GoodIn wsX7_isHanging (va_wsS RX7 38 yX7_in wsX7_in) := goodIn_app (goodIn_of _ (by decide +kernel)) ggX7_isHanging_X7_in
theorem dX7_isHanging_0 : decode cX7_isHanging 0 = .ok (.iload_n 0, 1) := by decide +kernel
theorem dX7_isHanging_1 : decode cX7_isHanging 1 = .ok (.iconst 0, 1) := by decide +kernel
theorem dX7_isHanging_2 : decode cX7_isHanging 2 = .ok (.iconst 3, 1) := by decide +kernel
theorem dX7_isHanging_3 : decode cX7_isHanging 3 = .ok (.invokestatic 38, 3) := by decide +kernel
theorem dX7_isHanging_6 : decode cX7_isHanging 6 = .ok (.ireturn, 1) := by decide +kernel
set_option maxRecDepth 20000 in
theorem ggX7_isAt_X7_in : GoodIn wsX7_isAt wsX7_in := goodIn_r _ [4] (by decide +kernel) (by decide +kernel)
set_option maxRecDepth 20000 in
theorem gX7_isAt_X7_in : GoodIn wsX7_isAt (va_wsS RX7 38 yX7_in wsX7_in) := goodIn_app (goodIn_of _ (by decide +kernel)) ggX7_isAt_X7_in
theorem dX7_isAt_0 : decode cX7_isAt 0 = .ok (.iload_n 0, 1) := by decide +kernel
theorem dX7_isAt_1 : decode cX7_isAt 1 = .ok (.sipush (-1000), 3) := by decide +kernel
theorem dX7_isAt_4 : decode cX7_isAt 4 = .ok (.sipush 1000, 3) := by decide +kernel
theorem dX7_isAt_7 : decode cX7_isAt 7 = .ok (.invokestatic 38, 3) := by decide +kernel
theorem dX7_isAt_10 : decode cX7_isAt 10 = .ok (.ireturn, 1) := by decide +kernel
set_option maxRecDepth 20000 in
theorem ggX7_isLong_X7_in : GoodIn wsX7_isLong wsX7_in := goodIn_r _ [4] (by decide +kernel) (by decide +kernel)
set_option maxRecDepth 20000 in
theorem gX7_isLong_X7_in : GoodIn wsX7_isLong (va_wsS RX7 38 yX7_in wsX7_in) := goodIn_app (goodIn_of _ (by decide +kernel)) ggX7_isLong_X7_in
theorem dX7_isLong_0 : decode cX7_isLong 0 = .ok (.iload_n 0, 1) := by decide +kernel
theorem dX7_isLong_1 : decode cX7_isLong 1 = .ok (.bipush 50, 2) := by decide +kernel
theorem dX7_isLong_3 : decode cX7_isLong 3 = .ok (.sipush 1000, 3) := by decide +kernel
theorem dX7_isLong_6 : decode cX7_isLong 6 = .ok (.invokestatic 38, 3) := by decide +kernel
theorem dX7_isLong_9 : decode cX7_isLong 9 = .ok (.ireturn, 1) := by decide +kernel
set_option maxRecDepth 20000 in
theorem ggX7_hang_X7_isHanging : GoodIn wsX7_hang wsX7_isHanging := goodIn_r _ [4, 5, 6, 3, 7] (by decide +kernel) (by decide +kernel)
set_option maxRecDepth 20000 in
theorem gX7_hang_X7_isHanging : GoodIn wsX7_hang (va_wsS RX7 42 yX7_isHanging wsX7_isHanging) := goodIn_app (goodIn_of _ (by decide +kernel)) ggX7_hang_X7_isHanging
set_option maxRecDepth 20000 in
theorem ggX7_hang_X7_isAt : GoodIn wsX7_hang wsX7_isAt := goodIn_r _ [10, 5, 6, 3, 7] (by decide +kernel) (by decide +kernel)
set_option maxRecDepth 20000 in
theorem gX7_hang_X7_isAt : GoodIn wsX7_hang (va_wsS RX7 46 yX7_isAt wsX7_isAt) := goodIn_app (goodIn_of _ (by decide +kernel)) ggX7_hang_X7_isAt
set_option maxRecDepth 20000 in
theorem ggX7_hang_X7_isLong : GoodIn wsX7_hang wsX7_isLong := goodIn_r _ [13, 5, 6, 3, 7] (by decide +kernel) (by decide +kernel)
set_option maxRecDepth 20000 in
theorem gX7_hang_X7_isLong : GoodIn wsX7_hang (va_wsS RX7 49 yX7_isLong wsX7_isLong) := goodIn_app (goodIn_of _ (by decide +kernel)) ggX7_hang_X7_isLong
set_option maxRecDepth 20000 in
theorem ggX7_hang_X7_lays : GoodIn wsX7_hang wsX7_lays := goodIn_r _ [17, 18, 19, 20, 21, 22, 23, 24, 25, 26, 27, 28, 29, 30, 31, 32, 33, 34, 35, 36, 37, 38, 39, 40] (by decide +kernel) (by decide +kernel)
set_option maxRecDepth 20000 in
theorem gX7_hang_X7_lays : GoodIn wsX7_hang (wsV RX7 34 RX7 yX7_lays wsX7_lays) := goodIn_app (goodIn_of _ (by decide +kernel)) ggX7_hang_X7_lays
theorem dX7_hang_0 : decode cX7_hang 0 = .ok (.iload_n 1, 1) := by decide +kernel
theorem dX7_hang_1 : decode cX7_hang 1 = .ok (.invokestatic 42, 3) := by decide +kernel
theorem dX7_hang_4 : decode cX7_hang 4 = .ok (.ifCond .eq 69, 3) := by decide +kernel
theorem dX7_hang_7 : decode cX7_hang 7 = .ok (.iload_n 2, 1) := by decide +kernel
theorem dX7_hang_8 : decode cX7_hang 8 = .ok (.invokestatic 46, 3) := by decide +kernel
theorem dX7_hang_11 : decode cX7_hang 11 = .ok (.ifCond .eq 62, 3) := by decide +kernel
theorem dX7_hang_14 : decode cX7_hang 14 = .ok (.iload_n 3, 1) := by decide +kernel
theorem dX7_hang_15 : decode cX7_hang 15 = .ok (.invokestatic 46, 3) := by decide +kernel
theorem dX7_hang_18 : decode cX7_hang 18 = .ok (.ifCond .eq 55, 3) := by decide +kernel
theorem dX7_hang_21 : decode cX7_hang 21 = .ok (.iload 4, 2) := by decide +kernel
theorem dX7_hang_23 : decode cX7_hang 23 = .ok (.invokestatic 46, 3) := by decide +kernel
theorem dX7_hang_26 : decode cX7_hang 26 = .ok (.ifCond .eq 47, 3) := by decide +kernel
theorem dX7_hang_29 : decode cX7_hang 29 = .ok (.iload 5, 2) := by decide +kernel
theorem dX7_hang_31 : decode cX7_hang 31 = .ok (.invokestatic 46, 3) := by decide +kernel
theorem dX7_hang_34 : decode cX7_hang 34 = .ok (.ifCond .eq 39, 3) := by decide +kernel
theorem dX7_hang_37 : decode cX7_hang 37 = .ok (.iload 6, 2) := by decide +kernel
theorem dX7_hang_39 : decode cX7_hang 39 = .ok (.invokestatic 49, 3) := by decide +kernel
theorem dX7_hang_42 : decode cX7_hang 42 = .ok (.ifCond .eq 31, 3) := by decide +kernel
theorem dX7_hang_45 : decode cX7_hang 45 = .ok (.iload 7, 2) := by decide +kernel
theorem dX7_hang_47 : decode cX7_hang 47 = .ok (.invokestatic 49, 3) := by decide +kernel
theorem dX7_hang_50 : decode cX7_hang 50 = .ok (.ifCond .eq 23, 3) := by decide +kernel
theorem dX7_hang_53 : decode cX7_hang 53 = .ok (.iload 8, 2) := by decide +kernel
theorem dX7_hang_55 : decode cX7_hang 55 = .ok (.invokestatic 49, 3) := by decide +kernel
theorem dX7_hang_58 : decode cX7_hang 58 = .ok (.ifCond .eq 15, 3) := by decide +kernel
theorem dX7_hang_61 : decode cX7_hang 61 = .ok (.iload 9, 2) := by decide +kernel
theorem dX7_hang_63 : decode cX7_hang 63 = .ok (.iconst 1, 1) := by decide +kernel
theorem dX7_hang_64 : decode cX7_hang 64 = .ok (.if_icmp .eq 12, 3) := by decide +kernel
theorem dX7_hang_67 : decode cX7_hang 67 = .ok (.iload 9, 2) := by decide +kernel
theorem dX7_hang_69 : decode cX7_hang 69 = .ok (.iconst (-1), 1) := by decide +kernel
theorem dX7_hang_70 : decode cX7_hang 70 = .ok (.if_icmp .eq 6, 3) := by decide +kernel
theorem dX7_hang_73 : decode cX7_hang 73 = .ok (.bipush (-2), 2) := by decide +kernel
theorem dX7_hang_75 : decode cX7_hang 75 = .ok (.ireturn, 1) := by decide +kernel
theorem dX7_hang_76 : decode cX7_hang 76 = .ok (.aload_n 0, 1) := by decide +kernel
theorem dX7_hang_77 : decode cX7_hang 77 = .ok (.iload_n 1, 1) := by decide +kernel
theorem dX7_hang_78 : decode cX7_hang 78 = .ok (.iload_n 2, 1) := by decide +kernel
theorem dX7_hang_79 : decode cX7_hang 79 = .ok (.iload_n 3, 1) := by decide +kernel
theorem dX7_hang_80 : decode cX7_hang 80 = .ok (.iload 4, 2) := by decide +kernel
theorem dX7_hang_82 : decode cX7_hang 82 = .ok (.iload 5, 2) := by decide +kernel
theorem dX7_hang_84 : decode cX7_hang 84 = .ok (.iload 6, 2) := by decide +kernel
theorem dX7_hang_86 : decode cX7_hang 86 = .ok (.iload 7, 2) := by decide +kernel
theorem dX7_hang_88 : decode cX7_hang 88 = .ok (.iload 8, 2) := by decide +kernel
theorem dX7_hang_90 : decode cX7_hang 90 = .ok (.iload 9, 2) := by decide +kernel
theorem dX7_hang_92 : decode cX7_hang 92 = .ok (.invokevirtual 34, 3) := by decide +kernel
theorem dX7_hang_95 : decode cX7_hang 95 = .ok (.iconst 1, 1) := by decide +kernel
theorem dX7_hang_96 : decode cX7_hang 96 = .ok (.ireturn, 1) := by decide +kernel
set_option maxRecDepth 20000 in
theorem ggX7_wheel_X7_isHanging : GoodIn wsX7_wheel wsX7_isHanging := goodIn_r _ [5, 6, 7, 4, 8] (by decide +kernel) (by decide +kernel)
set_option maxRecDepth 20000 in
theorem gX7_wheel_X7_isHanging : GoodIn wsX7_wheel (va_wsS RX7 42 yX7_isHanging wsX7_isHanging) := goodIn_app (goodIn_of _ (by decide +kernel)) ggX7_wheel_X7_isHanging
set_option maxRecDepth 20000 in
theorem ggX7_wheel_X7_isAt : GoodIn wsX7_wheel wsX7_isAt := goodIn_r _ [11, 6, 7, 4, 8] (by decide +kernel) (by decide +kernel)
set_option maxRecDepth 20000 in
theorem gX7_wheel_X7_isAt : GoodIn wsX7_wheel (va_wsS RX7 46 yX7_isAt wsX7_isAt) := goodIn_app (goodIn_of _ (by decide +kernel)) ggX7_wheel_X7_isAt
theorem dX7_wheel_0 : decode cX7_wheel 0 = .ok (.iload_n 1, 1) := by decide +kernel
theorem dX7_wheel_1 : decode cX7_wheel 1 = .ok (.invokestatic 42, 3) := by decide +kernel
theorem dX7_wheel_4 : decode cX7_wheel 4 = .ok (.ifCond .eq 17, 3) := by decide +kernel
theorem dX7_wheel_7 : decode cX7_wheel 7 = .ok (.iload_n 2, 1) := by decide +kernel
theorem dX7_wheel_8 : decode cX7_wheel 8 = .ok (.invokestatic 46, 3) := by decide +kernel
theorem dX7_wheel_11 : decode cX7_wheel 11 = .ok (.ifCond .eq 10, 3) := by decide +kernel
theorem dX7_wheel_14 : decode cX7_wheel 14 = .ok (.iload_n 3, 1) := by decide +kernel
theorem dX7_wheel_15 : decode cX7_wheel 15 = .ok (.invokestatic 46, 3) := by decide +kernel
theorem dX7_wheel_18 : decode cX7_wheel 18 = .ok (.ifCond .ne 6, 3) := by decide +kernel
theorem dX7_wheel_21 : decode cX7_wheel 21 = .ok (.bipush (-2), 2) := by decide +kernel
theorem dX7_wheel_23 : decode cX7_wheel 23 = .ok (.ireturn, 1) := by decide +kernel
theorem dX7_wheel_24 : decode cX7_wheel 24 = .ok (.aload_n 0, 1) := by decide +kernel
theorem dX7_wheel_25 : decode cX7_wheel 25 = .ok (.getfield 19, 3) := by decide +kernel
theorem dX7_wheel_28 : decode cX7_wheel 28 = .ok (.bipush 13, 2) := by decide +kernel
theorem dX7_wheel_30 : decode cX7_wheel 30 = .ok (.iload_n 1, 1) := by decide +kernel
theorem dX7_wheel_31 : decode cX7_wheel 31 = .ok (.imul, 1) := by decide +kernel
theorem dX7_wheel_32 : decode cX7_wheel 32 = .ok (.bipush 8, 2) := by decide +kernel
theorem dX7_wheel_34 : decode cX7_wheel 34 = .ok (.iadd, 1) := by decide +kernel
theorem dX7_wheel_35 : decode cX7_wheel 35 = .ok (.iload_n 2, 1) := by decide +kernel
theorem dX7_wheel_36 : decode cX7_wheel 36 = .ok (.iastore, 1) := by decide +kernel
theorem dX7_wheel_37 : decode cX7_wheel 37 = .ok (.aload_n 0, 1) := by decide +kernel
theorem dX7_wheel_38 : decode cX7_wheel 38 = .ok (.getfield 19, 3) := by decide +kernel
theorem dX7_wheel_41 : decode cX7_wheel 41 = .ok (.bipush 13, 2) := by decide +kernel
theorem dX7_wheel_43 : decode cX7_wheel 43 = .ok (.iload_n 1, 1) := by decide +kernel
theorem dX7_wheel_44 : decode cX7_wheel 44 = .ok (.imul, 1) := by decide +kernel
theorem dX7_wheel_45 : decode cX7_wheel 45 = .ok (.bipush 9, 2) := by decide +kernel
theorem dX7_wheel_47 : decode cX7_wheel 47 = .ok (.iadd, 1) := by decide +kernel
theorem dX7_wheel_48 : decode cX7_wheel 48 = .ok (.iload_n 3, 1) := by decide +kernel
theorem dX7_wheel_49 : decode cX7_wheel 49 = .ok (.iastore, 1) := by decide +kernel
theorem dX7_wheel_50 : decode cX7_wheel 50 = .ok (.iconst 1, 1) := by decide +kernel
theorem dX7_wheel_51 : decode cX7_wheel 51 = .ok (.ireturn, 1) := by decide +kernel
set_option maxRecDepth 20000 in
theorem ggX7_spring_X7_isHanging : GoodIn wsX7_spring wsX7_isHanging := goodIn_r _ [5, 6, 7, 4, 8] (by decide +kernel) (by decide +kernel)
set_option maxRecDepth 20000 in
theorem gX7_spring_X7_isHanging : GoodIn wsX7_spring (va_wsS RX7 42 yX7_isHanging wsX7_isHanging) := goodIn_app (goodIn_of _ (by decide +kernel)) ggX7_spring_X7_isHanging
set_option maxRecDepth 20000 in
theorem ggX7_spring_X7_isAt : GoodIn wsX7_spring wsX7_isAt := goodIn_r _ [11, 6, 7, 4, 8] (by decide +kernel) (by decide +kernel)
set_option maxRecDepth 20000 in
theorem gX7_spring_X7_isAt : GoodIn wsX7_spring (va_wsS RX7 46 yX7_isAt wsX7_isAt) := goodIn_app (goodIn_of _ (by decide +kernel)) ggX7_spring_X7_isAt
set_option maxRecDepth 20000 in
theorem ggX7_spring_X7_in : GoodIn wsX7_spring wsX7_in := goodIn_r _ [8] (by decide +kernel) (by decide +kernel)
set_option maxRecDepth 20000 in
theorem gX7_spring_X7_in : GoodIn wsX7_spring (va_wsS RX7 38 yX7_in wsX7_in) := goodIn_app (goodIn_of _ (by decide +kernel)) ggX7_spring_X7_in
theorem dX7_spring_0 : decode cX7_spring 0 = .ok (.iload_n 1, 1) := by decide +kernel
theorem dX7_spring_1 : decode cX7_spring 1 = .ok (.invokestatic 42, 3) := by decide +kernel
theorem dX7_spring_4 : decode cX7_spring 4 = .ok (.ifCond .eq 29, 3) := by decide +kernel
theorem dX7_spring_7 : decode cX7_spring 7 = .ok (.iload_n 2, 1) := by decide +kernel
theorem dX7_spring_8 : decode cX7_spring 8 = .ok (.invokestatic 46, 3) := by decide +kernel
theorem dX7_spring_11 : decode cX7_spring 11 = .ok (.ifCond .eq 22, 3) := by decide +kernel
theorem dX7_spring_14 : decode cX7_spring 14 = .ok (.iload_n 3, 1) := by decide +kernel
theorem dX7_spring_15 : decode cX7_spring 15 = .ok (.invokestatic 46, 3) := by decide +kernel
theorem dX7_spring_18 : decode cX7_spring 18 = .ok (.ifCond .eq 15, 3) := by decide +kernel
theorem dX7_spring_21 : decode cX7_spring 21 = .ok (.iload 4, 2) := by decide +kernel
theorem dX7_spring_23 : decode cX7_spring 23 = .ok (.iconst 0, 1) := by decide +kernel
theorem dX7_spring_24 : decode cX7_spring 24 = .ok (.sipush 1000, 3) := by decide +kernel
theorem dX7_spring_27 : decode cX7_spring 27 = .ok (.invokestatic 38, 3) := by decide +kernel
theorem dX7_spring_30 : decode cX7_spring 30 = .ok (.ifCond .ne 6, 3) := by decide +kernel
theorem dX7_spring_33 : decode cX7_spring 33 = .ok (.bipush (-2), 2) := by decide +kernel
theorem dX7_spring_35 : decode cX7_spring 35 = .ok (.ireturn, 1) := by decide +kernel
theorem dX7_spring_36 : decode cX7_spring 36 = .ok (.aload_n 0, 1) := by decide +kernel
theorem dX7_spring_37 : decode cX7_spring 37 = .ok (.getfield 19, 3) := by decide +kernel
theorem dX7_spring_40 : decode cX7_spring 40 = .ok (.bipush 13, 2) := by decide +kernel
theorem dX7_spring_42 : decode cX7_spring 42 = .ok (.iload_n 1, 1) := by decide +kernel
theorem dX7_spring_43 : decode cX7_spring 43 = .ok (.imul, 1) := by decide +kernel
theorem dX7_spring_44 : decode cX7_spring 44 = .ok (.bipush 10, 2) := by decide +kernel
theorem dX7_spring_46 : decode cX7_spring 46 = .ok (.iadd, 1) := by decide +kernel
theorem dX7_spring_47 : decode cX7_spring 47 = .ok (.iload_n 2, 1) := by decide +kernel
theorem dX7_spring_48 : decode cX7_spring 48 = .ok (.iastore, 1) := by decide +kernel
theorem dX7_spring_49 : decode cX7_spring 49 = .ok (.aload_n 0, 1) := by decide +kernel
theorem dX7_spring_50 : decode cX7_spring 50 = .ok (.getfield 19, 3) := by decide +kernel
theorem dX7_spring_53 : decode cX7_spring 53 = .ok (.bipush 13, 2) := by decide +kernel
theorem dX7_spring_55 : decode cX7_spring 55 = .ok (.iload_n 1, 1) := by decide +kernel
theorem dX7_spring_56 : decode cX7_spring 56 = .ok (.imul, 1) := by decide +kernel
theorem dX7_spring_57 : decode cX7_spring 57 = .ok (.bipush 11, 2) := by decide +kernel
theorem dX7_spring_59 : decode cX7_spring 59 = .ok (.iadd, 1) := by decide +kernel
theorem dX7_spring_60 : decode cX7_spring 60 = .ok (.iload_n 3, 1) := by decide +kernel
theorem dX7_spring_61 : decode cX7_spring 61 = .ok (.iastore, 1) := by decide +kernel
theorem dX7_spring_62 : decode cX7_spring 62 = .ok (.aload_n 0, 1) := by decide +kernel
theorem dX7_spring_63 : decode cX7_spring 63 = .ok (.getfield 19, 3) := by decide +kernel
theorem dX7_spring_66 : decode cX7_spring 66 = .ok (.bipush 13, 2) := by decide +kernel
theorem dX7_spring_68 : decode cX7_spring 68 = .ok (.iload_n 1, 1) := by decide +kernel
theorem dX7_spring_69 : decode cX7_spring 69 = .ok (.imul, 1) := by decide +kernel
theorem dX7_spring_70 : decode cX7_spring 70 = .ok (.bipush 12, 2) := by decide +kernel
theorem dX7_spring_72 : decode cX7_spring 72 = .ok (.iadd, 1) := by decide +kernel
theorem dX7_spring_73 : decode cX7_spring 73 = .ok (.iload 4, 2) := by decide +kernel
theorem dX7_spring_75 : decode cX7_spring 75 = .ok (.iastore, 1) := by decide +kernel
theorem dX7_spring_76 : decode cX7_spring 76 = .ok (.iconst 1, 1) := by decide +kernel
theorem dX7_spring_77 : decode cX7_spring 77 = .ok (.ireturn, 1) := by decide +kernel
set_option maxRecDepth 20000 in
theorem ggX7_mirror_X7_isHanging : GoodIn wsX7_mirror wsX7_isHanging := goodIn_r _ [5, 6, 7, 4, 8] (by decide +kernel) (by decide +kernel)
set_option maxRecDepth 20000 in
theorem gX7_mirror_X7_isHanging : GoodIn wsX7_mirror (va_wsS RX7 42 yX7_isHanging wsX7_isHanging) := goodIn_app (goodIn_of _ (by decide +kernel)) ggX7_mirror_X7_isHanging
theorem dX7_mirror_0 : decode cX7_mirror 0 = .ok (.iload_n 1, 1) := by decide +kernel
theorem dX7_mirror_1 : decode cX7_mirror 1 = .ok (.invokestatic 42, 3) := by decide +kernel
theorem dX7_mirror_4 : decode cX7_mirror 4 = .ok (.ifCond .eq 10, 3) := by decide +kernel
theorem dX7_mirror_7 : decode cX7_mirror 7 = .ok (.iload_n 2, 1) := by decide +kernel
theorem dX7_mirror_8 : decode cX7_mirror 8 = .ok (.invokestatic 42, 3) := by decide +kernel
theorem dX7_mirror_11 : decode cX7_mirror 11 = .ok (.ifCond .ne 6, 3) := by decide +kernel
theorem dX7_mirror_14 : decode cX7_mirror 14 = .ok (.bipush (-2), 2) := by decide +kernel
theorem dX7_mirror_16 : decode cX7_mirror 16 = .ok (.ireturn, 1) := by decide +kernel
theorem dX7_mirror_17 : decode cX7_mirror 17 = .ok (.iconst 0, 1) := by decide +kernel
theorem dX7_mirror_18 : decode cX7_mirror 18 = .ok (.istore_n 3, 1) := by decide +kernel
theorem dX7_mirror_19 : decode cX7_mirror 19 = .ok (.iload_n 3, 1) := by decide +kernel
theorem dX7_mirror_20 : decode cX7_mirror 20 = .ok (.bipush 13, 2) := by decide +kernel
theorem dX7_mirror_22 : decode cX7_mirror 22 = .ok (.if_icmp .ge 62, 3) := by decide +kernel
theorem dX7_mirror_25 : decode cX7_mirror 25 = .ok (.aload_n 0, 1) := by decide +kernel
theorem dX7_mirror_26 : decode cX7_mirror 26 = .ok (.getfield 19, 3) := by decide +kernel
theorem dX7_mirror_29 : decode cX7_mirror 29 = .ok (.bipush 13, 2) := by decide +kernel
theorem dX7_mirror_31 : decode cX7_mirror 31 = .ok (.iload_n 1, 1) := by decide +kernel
theorem dX7_mirror_32 : decode cX7_mirror 32 = .ok (.imul, 1) := by decide +kernel
theorem dX7_mirror_33 : decode cX7_mirror 33 = .ok (.iload_n 3, 1) := by decide +kernel
theorem dX7_mirror_34 : decode cX7_mirror 34 = .ok (.iadd, 1) := by decide +kernel
theorem dX7_mirror_35 : decode cX7_mirror 35 = .ok (.iaload, 1) := by decide +kernel
theorem dX7_mirror_36 : decode cX7_mirror 36 = .ok (.istore 4, 2) := by decide +kernel
theorem dX7_mirror_38 : decode cX7_mirror 38 = .ok (.aload_n 0, 1) := by decide +kernel
theorem dX7_mirror_39 : decode cX7_mirror 39 = .ok (.getfield 19, 3) := by decide +kernel
theorem dX7_mirror_42 : decode cX7_mirror 42 = .ok (.bipush 13, 2) := by decide +kernel
theorem dX7_mirror_44 : decode cX7_mirror 44 = .ok (.iload_n 2, 1) := by decide +kernel
theorem dX7_mirror_45 : decode cX7_mirror 45 = .ok (.imul, 1) := by decide +kernel
theorem dX7_mirror_46 : decode cX7_mirror 46 = .ok (.iload_n 3, 1) := by decide +kernel
theorem dX7_mirror_47 : decode cX7_mirror 47 = .ok (.iadd, 1) := by decide +kernel
theorem dX7_mirror_48 : decode cX7_mirror 48 = .ok (.iload_n 3, 1) := by decide +kernel
theorem dX7_mirror_49 : decode cX7_mirror 49 = .ok (.ifCond .eq 20, 3) := by decide +kernel
theorem dX7_mirror_52 : decode cX7_mirror 52 = .ok (.iload_n 3, 1) := by decide +kernel
theorem dX7_mirror_53 : decode cX7_mirror 53 = .ok (.iconst 2, 1) := by decide +kernel
theorem dX7_mirror_54 : decode cX7_mirror 54 = .ok (.if_icmp .eq 15, 3) := by decide +kernel
theorem dX7_mirror_57 : decode cX7_mirror 57 = .ok (.iload_n 3, 1) := by decide +kernel
theorem dX7_mirror_58 : decode cX7_mirror 58 = .ok (.bipush 7, 2) := by decide +kernel
theorem dX7_mirror_60 : decode cX7_mirror 60 = .ok (.if_icmp .eq 9, 3) := by decide +kernel
theorem dX7_mirror_63 : decode cX7_mirror 63 = .ok (.iload_n 3, 1) := by decide +kernel
theorem dX7_mirror_64 : decode cX7_mirror 64 = .ok (.bipush 10, 2) := by decide +kernel
theorem dX7_mirror_66 : decode cX7_mirror 66 = .ok (.if_icmp .ne 9, 3) := by decide +kernel
theorem dX7_mirror_69 : decode cX7_mirror 69 = .ok (.iload 4, 2) := by decide +kernel
theorem dX7_mirror_71 : decode cX7_mirror 71 = .ok (.ineg, 1) := by decide +kernel
theorem dX7_mirror_72 : decode cX7_mirror 72 = .ok (.goto 5, 3) := by decide +kernel
theorem dX7_mirror_75 : decode cX7_mirror 75 = .ok (.iload 4, 2) := by decide +kernel
theorem dX7_mirror_77 : decode cX7_mirror 77 = .ok (.iastore, 1) := by decide +kernel
theorem dX7_mirror_78 : decode cX7_mirror 78 = .ok (.iinc 3 1, 3) := by decide +kernel
theorem dX7_mirror_81 : decode cX7_mirror 81 = .ok (.goto (-62), 3) := by decide +kernel
theorem dX7_mirror_84 : decode cX7_mirror 84 = .ok (.iconst 1, 1) := by decide +kernel
theorem dX7_mirror_85 : decode cX7_mirror 85 = .ok (.ireturn, 1) := by decide +kernel
set_option maxRecDepth 20000 in
theorem ggX7_poses_X7_root : GoodIn wsX7_poses wsX7_root := goodIn_r _ [12, 13, 4, 14, 15] (by decide +kernel) (by decide +kernel)
set_option maxRecDepth 20000 in
theorem gX7_poses_X7_root : GoodIn wsX7_poses (va_wsS RX7 52 yX7_root wsX7_root) := goodIn_app (goodIn_of _ (by decide +kernel)) ggX7_poses_X7_root
theorem dX7_poses_0 : decode cX7_poses 0 = .ok (.bipush 13, 2) := by decide +kernel
theorem dX7_poses_2 : decode cX7_poses 2 = .ok (.iload_n 1, 1) := by decide +kernel
theorem dX7_poses_3 : decode cX7_poses 3 = .ok (.imul, 1) := by decide +kernel
theorem dX7_poses_4 : decode cX7_poses 4 = .ok (.istore_n 3, 1) := by decide +kernel
theorem dX7_poses_5 : decode cX7_poses 5 = .ok (.aload_n 0, 1) := by decide +kernel
theorem dX7_poses_6 : decode cX7_poses 6 = .ok (.getfield 19, 3) := by decide +kernel
theorem dX7_poses_9 : decode cX7_poses 9 = .ok (.iload_n 3, 1) := by decide +kernel
theorem dX7_poses_10 : decode cX7_poses 10 = .ok (.iconst 4, 1) := by decide +kernel
theorem dX7_poses_11 : decode cX7_poses 11 = .ok (.iadd, 1) := by decide +kernel
theorem dX7_poses_12 : decode cX7_poses 12 = .ok (.iaload, 1) := by decide +kernel
theorem dX7_poses_13 : decode cX7_poses 13 = .ok (.istore 4, 2) := by decide +kernel
theorem dX7_poses_15 : decode cX7_poses 15 = .ok (.aload_n 0, 1) := by decide +kernel
theorem dX7_poses_16 : decode cX7_poses 16 = .ok (.getfield 19, 3) := by decide +kernel
theorem dX7_poses_19 : decode cX7_poses 19 = .ok (.iload_n 3, 1) := by decide +kernel
theorem dX7_poses_20 : decode cX7_poses 20 = .ok (.iconst 5, 1) := by decide +kernel
theorem dX7_poses_21 : decode cX7_poses 21 = .ok (.iadd, 1) := by decide +kernel
theorem dX7_poses_22 : decode cX7_poses 22 = .ok (.iaload, 1) := by decide +kernel
theorem dX7_poses_23 : decode cX7_poses 23 = .ok (.istore 5, 2) := by decide +kernel
theorem dX7_poses_25 : decode cX7_poses 25 = .ok (.aload_n 0, 1) := by decide +kernel
theorem dX7_poses_26 : decode cX7_poses 26 = .ok (.getfield 19, 3) := by decide +kernel
theorem dX7_poses_29 : decode cX7_poses 29 = .ok (.iload_n 3, 1) := by decide +kernel
theorem dX7_poses_30 : decode cX7_poses 30 = .ok (.bipush 6, 2) := by decide +kernel
theorem dX7_poses_32 : decode cX7_poses 32 = .ok (.iadd, 1) := by decide +kernel
theorem dX7_poses_33 : decode cX7_poses 33 = .ok (.iaload, 1) := by decide +kernel
theorem dX7_poses_34 : decode cX7_poses 34 = .ok (.istore 6, 2) := by decide +kernel
theorem dX7_poses_36 : decode cX7_poses 36 = .ok (.iload_n 2, 1) := by decide +kernel
theorem dX7_poses_37 : decode cX7_poses 37 = .ok (.aload_n 0, 1) := by decide +kernel
theorem dX7_poses_38 : decode cX7_poses 38 = .ok (.getfield 19, 3) := by decide +kernel
theorem dX7_poses_41 : decode cX7_poses 41 = .ok (.iload_n 3, 1) := by decide +kernel
theorem dX7_poses_42 : decode cX7_poses 42 = .ok (.iconst 3, 1) := by decide +kernel
theorem dX7_poses_43 : decode cX7_poses 43 = .ok (.iadd, 1) := by decide +kernel
theorem dX7_poses_44 : decode cX7_poses 44 = .ok (.iaload, 1) := by decide +kernel
theorem dX7_poses_45 : decode cX7_poses 45 = .ok (.isub, 1) := by decide +kernel
theorem dX7_poses_46 : decode cX7_poses 46 = .ok (.istore 7, 2) := by decide +kernel
theorem dX7_poses_48 : decode cX7_poses 48 = .ok (.iload 5, 2) := by decide +kernel
theorem dX7_poses_50 : decode cX7_poses 50 = .ok (.iload 5, 2) := by decide +kernel
theorem dX7_poses_52 : decode cX7_poses 52 = .ok (.imul, 1) := by decide +kernel
theorem dX7_poses_53 : decode cX7_poses 53 = .ok (.iload 7, 2) := by decide +kernel
theorem dX7_poses_55 : decode cX7_poses 55 = .ok (.iload 7, 2) := by decide +kernel
theorem dX7_poses_57 : decode cX7_poses 57 = .ok (.imul, 1) := by decide +kernel
theorem dX7_poses_58 : decode cX7_poses 58 = .ok (.isub, 1) := by decide +kernel
theorem dX7_poses_59 : decode cX7_poses 59 = .ok (.istore 8, 2) := by decide +kernel
theorem dX7_poses_61 : decode cX7_poses 61 = .ok (.iload 8, 2) := by decide +kernel
theorem dX7_poses_63 : decode cX7_poses 63 = .ok (.ifCond .ge 5, 3) := by decide +kernel
theorem dX7_poses_66 : decode cX7_poses 66 = .ok (.iconst 0, 1) := by decide +kernel
theorem dX7_poses_67 : decode cX7_poses 67 = .ok (.ireturn, 1) := by decide +kernel
theorem dX7_poses_68 : decode cX7_poses 68 = .ok (.aload_n 0, 1) := by decide +kernel
theorem dX7_poses_69 : decode cX7_poses 69 = .ok (.aload_n 0, 1) := by decide +kernel
theorem dX7_poses_70 : decode cX7_poses 70 = .ok (.getfield 19, 3) := by decide +kernel
theorem dX7_poses_73 : decode cX7_poses 73 = .ok (.iload_n 3, 1) := by decide +kernel
theorem dX7_poses_74 : decode cX7_poses 74 = .ok (.iconst 2, 1) := by decide +kernel
theorem dX7_poses_75 : decode cX7_poses 75 = .ok (.iadd, 1) := by decide +kernel
theorem dX7_poses_76 : decode cX7_poses 76 = .ok (.iaload, 1) := by decide +kernel
theorem dX7_poses_77 : decode cX7_poses 77 = .ok (.i2d, 1) := by decide +kernel
theorem dX7_poses_78 : decode cX7_poses 78 = .ok (.iload 8, 2) := by decide +kernel
theorem dX7_poses_80 : decode cX7_poses 80 = .ok (.i2d, 1) := by decide +kernel
theorem dX7_poses_81 : decode cX7_poses 81 = .ok (.invokestatic 52, 3) := by decide +kernel
theorem dX7_poses_84 : decode cX7_poses 84 = .ok (.dadd, 1) := by decide +kernel
theorem dX7_poses_85 : decode cX7_poses 85 = .ok (.putfield 56, 3) := by decide +kernel
theorem dX7_poses_88 : decode cX7_poses 88 = .ok (.aload_n 0, 1) := by decide +kernel
theorem dX7_poses_89 : decode cX7_poses 89 = .ok (.iload_n 2, 1) := by decide +kernel
theorem dX7_poses_90 : decode cX7_poses 90 = .ok (.i2d, 1) := by decide +kernel
theorem dX7_poses_91 : decode cX7_poses 91 = .ok (.putfield 60, 3) := by decide +kernel
theorem dX7_poses_94 : decode cX7_poses 94 = .ok (.aload_n 0, 1) := by decide +kernel
theorem dX7_poses_95 : decode cX7_poses 95 = .ok (.getfield 19, 3) := by decide +kernel
theorem dX7_poses_98 : decode cX7_poses 98 = .ok (.iload_n 3, 1) := by decide +kernel
theorem dX7_poses_99 : decode cX7_poses 99 = .ok (.iaload, 1) := by decide +kernel
theorem dX7_poses_100 : decode cX7_poses 100 = .ok (.i2d, 1) := by decide +kernel
theorem dX7_poses_101 : decode cX7_poses 101 = .ok (.aload_n 0, 1) := by decide +kernel
theorem dX7_poses_102 : decode cX7_poses 102 = .ok (.getfield 56, 3) := by decide +kernel
theorem dX7_poses_105 : decode cX7_poses 105 = .ok (.dsub, 1) := by decide +kernel
theorem dX7_poses_106 : decode cX7_poses 106 = .ok (.dstore 9, 2) := by decide +kernel
theorem dX7_poses_108 : decode cX7_poses 108 = .ok (.aload_n 0, 1) := by decide +kernel
theorem dX7_poses_109 : decode cX7_poses 109 = .ok (.getfield 19, 3) := by decide +kernel
theorem dX7_poses_112 : decode cX7_poses 112 = .ok (.iload_n 3, 1) := by decide +kernel
theorem dX7_poses_113 : decode cX7_poses 113 = .ok (.iconst 1, 1) := by decide +kernel
theorem dX7_poses_114 : decode cX7_poses 114 = .ok (.iadd, 1) := by decide +kernel
theorem dX7_poses_115 : decode cX7_poses 115 = .ok (.iaload, 1) := by decide +kernel
theorem dX7_poses_116 : decode cX7_poses 116 = .ok (.i2d, 1) := by decide +kernel
theorem dX7_poses_117 : decode cX7_poses 117 = .ok (.aload_n 0, 1) := by decide +kernel
theorem dX7_poses_118 : decode cX7_poses 118 = .ok (.getfield 60, 3) := by decide +kernel
theorem dX7_poses_121 : decode cX7_poses 121 = .ok (.dsub, 1) := by decide +kernel
theorem dX7_poses_122 : decode cX7_poses 122 = .ok (.dstore 11, 2) := by decide +kernel
theorem dX7_poses_124 : decode cX7_poses 124 = .ok (.dload 9, 2) := by decide +kernel
theorem dX7_poses_126 : decode cX7_poses 126 = .ok (.dload 9, 2) := by decide +kernel
theorem dX7_poses_128 : decode cX7_poses 128 = .ok (.dmul, 1) := by decide +kernel
theorem dX7_poses_129 : decode cX7_poses 129 = .ok (.dload 11, 2) := by decide +kernel
theorem dX7_poses_131 : decode cX7_poses 131 = .ok (.dload 11, 2) := by decide +kernel
theorem dX7_poses_133 : decode cX7_poses 133 = .ok (.dmul, 1) := by decide +kernel
theorem dX7_poses_134 : decode cX7_poses 134 = .ok (.dadd, 1) := by decide +kernel
theorem dX7_poses_135 : decode cX7_poses 135 = .ok (.dstore 13, 2) := by decide +kernel
theorem dX7_poses_137 : decode cX7_poses 137 = .ok (.dload 13, 2) := by decide +kernel
theorem dX7_poses_139 : decode cX7_poses 139 = .ok (.dconst 0, 1) := by decide +kernel
theorem dX7_poses_140 : decode cX7_poses 140 = .ok (.dcmp .l, 1) := by decide +kernel
theorem dX7_poses_141 : decode cX7_poses 141 = .ok (.ifCond .ne 5, 3) := by decide +kernel
theorem dX7_poses_144 : decode cX7_poses 144 = .ok (.iconst 0, 1) := by decide +kernel
theorem dX7_poses_145 : decode cX7_poses 145 = .ok (.ireturn, 1) := by decide +kernel
theorem dX7_poses_146 : decode cX7_poses 146 = .ok (.iload 6, 2) := by decide +kernel
theorem dX7_poses_148 : decode cX7_poses 148 = .ok (.iload 6, 2) := by decide +kernel
theorem dX7_poses_150 : decode cX7_poses 150 = .ok (.imul, 1) := by decide +kernel
theorem dX7_poses_151 : decode cX7_poses 151 = .ok (.iload 4, 2) := by decide +kernel
theorem dX7_poses_153 : decode cX7_poses 153 = .ok (.iload 4, 2) := by decide +kernel
theorem dX7_poses_155 : decode cX7_poses 155 = .ok (.imul, 1) := by decide +kernel
theorem dX7_poses_156 : decode cX7_poses 156 = .ok (.isub, 1) := by decide +kernel
theorem dX7_poses_157 : decode cX7_poses 157 = .ok (.i2d, 1) := by decide +kernel
theorem dX7_poses_158 : decode cX7_poses 158 = .ok (.dload 13, 2) := by decide +kernel
theorem dX7_poses_160 : decode cX7_poses 160 = .ok (.dadd, 1) := by decide +kernel
theorem dX7_poses_161 : decode cX7_poses 161 = .ok (.ldc2_w 3, 3) := by decide +kernel
theorem dX7_poses_164 : decode cX7_poses 164 = .ok (.dload 13, 2) := by decide +kernel
theorem dX7_poses_166 : decode cX7_poses 166 = .ok (.dmul, 1) := by decide +kernel
theorem dX7_poses_167 : decode cX7_poses 167 = .ok (.ddiv, 1) := by decide +kernel
theorem dX7_poses_168 : decode cX7_poses 168 = .ok (.dstore 15, 2) := by decide +kernel
theorem dX7_poses_170 : decode cX7_poses 170 = .ok (.iload 6, 2) := by decide +kernel
theorem dX7_poses_172 : decode cX7_poses 172 = .ok (.iload 6, 2) := by decide +kernel
theorem dX7_poses_174 : decode cX7_poses 174 = .ok (.imul, 1) := by decide +kernel
theorem dX7_poses_175 : decode cX7_poses 175 = .ok (.i2d, 1) := by decide +kernel
theorem dX7_poses_176 : decode cX7_poses 176 = .ok (.dload 13, 2) := by decide +kernel
theorem dX7_poses_178 : decode cX7_poses 178 = .ok (.ddiv, 1) := by decide +kernel
theorem dX7_poses_179 : decode cX7_poses 179 = .ok (.dload 15, 2) := by decide +kernel
theorem dX7_poses_181 : decode cX7_poses 181 = .ok (.dload 15, 2) := by decide +kernel
theorem dX7_poses_183 : decode cX7_poses 183 = .ok (.dmul, 1) := by decide +kernel
theorem dX7_poses_184 : decode cX7_poses 184 = .ok (.dsub, 1) := by decide +kernel
theorem dX7_poses_185 : decode cX7_poses 185 = .ok (.dstore 17, 2) := by decide +kernel
theorem dX7_poses_187 : decode cX7_poses 187 = .ok (.dload 17, 2) := by decide +kernel
theorem dX7_poses_189 : decode cX7_poses 189 = .ok (.dconst 0, 1) := by decide +kernel
theorem dX7_poses_190 : decode cX7_poses 190 = .ok (.dcmp .g, 1) := by decide +kernel
theorem dX7_poses_191 : decode cX7_poses 191 = .ok (.ifCond .ge 5, 3) := by decide +kernel
theorem dX7_poses_194 : decode cX7_poses 194 = .ok (.iconst 0, 1) := by decide +kernel
theorem dX7_poses_195 : decode cX7_poses 195 = .ok (.ireturn, 1) := by decide +kernel
theorem dX7_poses_196 : decode cX7_poses 196 = .ok (.aload_n 0, 1) := by decide +kernel
theorem dX7_poses_197 : decode cX7_poses 197 = .ok (.getfield 19, 3) := by decide +kernel
theorem dX7_poses_200 : decode cX7_poses 200 = .ok (.iload_n 3, 1) := by decide +kernel
theorem dX7_poses_201 : decode cX7_poses 201 = .ok (.bipush 7, 2) := by decide +kernel
theorem dX7_poses_203 : decode cX7_poses 203 = .ok (.iadd, 1) := by decide +kernel
theorem dX7_poses_204 : decode cX7_poses 204 = .ok (.iaload, 1) := by decide +kernel
theorem dX7_poses_205 : decode cX7_poses 205 = .ok (.i2d, 1) := by decide +kernel
theorem dX7_poses_206 : decode cX7_poses 206 = .ok (.dload 17, 2) := by decide +kernel
theorem dX7_poses_208 : decode cX7_poses 208 = .ok (.invokestatic 52, 3) := by decide +kernel
theorem dX7_poses_211 : decode cX7_poses 211 = .ok (.dmul, 1) := by decide +kernel
theorem dX7_poses_212 : decode cX7_poses 212 = .ok (.dstore 19, 2) := by decide +kernel
theorem dX7_poses_214 : decode cX7_poses 214 = .ok (.aload_n 0, 1) := by decide +kernel
theorem dX7_poses_215 : decode cX7_poses 215 = .ok (.aload_n 0, 1) := by decide +kernel
theorem dX7_poses_216 : decode cX7_poses 216 = .ok (.getfield 56, 3) := by decide +kernel
theorem dX7_poses_219 : decode cX7_poses 219 = .ok (.dload 15, 2) := by decide +kernel
theorem dX7_poses_221 : decode cX7_poses 221 = .ok (.dload 9, 2) := by decide +kernel
theorem dX7_poses_223 : decode cX7_poses 223 = .ok (.dmul, 1) := by decide +kernel
theorem dX7_poses_224 : decode cX7_poses 224 = .ok (.dadd, 1) := by decide +kernel
theorem dX7_poses_225 : decode cX7_poses 225 = .ok (.dload 19, 2) := by decide +kernel
theorem dX7_poses_227 : decode cX7_poses 227 = .ok (.dload 11, 2) := by decide +kernel
theorem dX7_poses_229 : decode cX7_poses 229 = .ok (.dmul, 1) := by decide +kernel
theorem dX7_poses_230 : decode cX7_poses 230 = .ok (.dadd, 1) := by decide +kernel
theorem dX7_poses_231 : decode cX7_poses 231 = .ok (.putfield 63, 3) := by decide +kernel
theorem dX7_poses_234 : decode cX7_poses 234 = .ok (.aload_n 0, 1) := by decide +kernel
theorem dX7_poses_235 : decode cX7_poses 235 = .ok (.aload_n 0, 1) := by decide +kernel
theorem dX7_poses_236 : decode cX7_poses 236 = .ok (.getfield 60, 3) := by decide +kernel
theorem dX7_poses_239 : decode cX7_poses 239 = .ok (.dload 15, 2) := by decide +kernel
theorem dX7_poses_241 : decode cX7_poses 241 = .ok (.dload 11, 2) := by decide +kernel
theorem dX7_poses_243 : decode cX7_poses 243 = .ok (.dmul, 1) := by decide +kernel
theorem dX7_poses_244 : decode cX7_poses 244 = .ok (.dadd, 1) := by decide +kernel
theorem dX7_poses_245 : decode cX7_poses 245 = .ok (.dload 19, 2) := by decide +kernel
theorem dX7_poses_247 : decode cX7_poses 247 = .ok (.dload 9, 2) := by decide +kernel
theorem dX7_poses_249 : decode cX7_poses 249 = .ok (.dmul, 1) := by decide +kernel
theorem dX7_poses_250 : decode cX7_poses 250 = .ok (.dsub, 1) := by decide +kernel
theorem dX7_poses_251 : decode cX7_poses 251 = .ok (.putfield 66, 3) := by decide +kernel
theorem dX7_poses_254 : decode cX7_poses 254 = .ok (.aload_n 0, 1) := by decide +kernel
theorem dX7_poses_255 : decode cX7_poses 255 = .ok (.aload_n 0, 1) := by decide +kernel
theorem dX7_poses_256 : decode cX7_poses 256 = .ok (.getfield 63, 3) := by decide +kernel
theorem dX7_poses_259 : decode cX7_poses 259 = .ok (.aload_n 0, 1) := by decide +kernel
theorem dX7_poses_260 : decode cX7_poses 260 = .ok (.getfield 56, 3) := by decide +kernel
theorem dX7_poses_263 : decode cX7_poses 263 = .ok (.dsub, 1) := by decide +kernel
theorem dX7_poses_264 : decode cX7_poses 264 = .ok (.iload 6, 2) := by decide +kernel
theorem dX7_poses_266 : decode cX7_poses 266 = .ok (.i2d, 1) := by decide +kernel
theorem dX7_poses_267 : decode cX7_poses 267 = .ok (.ddiv, 1) := by decide +kernel
theorem dX7_poses_268 : decode cX7_poses 268 = .ok (.putfield 69, 3) := by decide +kernel
theorem dX7_poses_271 : decode cX7_poses 271 = .ok (.aload_n 0, 1) := by decide +kernel
theorem dX7_poses_272 : decode cX7_poses 272 = .ok (.aload_n 0, 1) := by decide +kernel
theorem dX7_poses_273 : decode cX7_poses 273 = .ok (.getfield 66, 3) := by decide +kernel
theorem dX7_poses_276 : decode cX7_poses 276 = .ok (.aload_n 0, 1) := by decide +kernel
theorem dX7_poses_277 : decode cX7_poses 277 = .ok (.getfield 60, 3) := by decide +kernel
theorem dX7_poses_280 : decode cX7_poses 280 = .ok (.dsub, 1) := by decide +kernel
theorem dX7_poses_281 : decode cX7_poses 281 = .ok (.iload 6, 2) := by decide +kernel
theorem dX7_poses_283 : decode cX7_poses 283 = .ok (.i2d, 1) := by decide +kernel
theorem dX7_poses_284 : decode cX7_poses 284 = .ok (.ddiv, 1) := by decide +kernel
theorem dX7_poses_285 : decode cX7_poses 285 = .ok (.putfield 72, 3) := by decide +kernel
theorem dX7_poses_288 : decode cX7_poses 288 = .ok (.iconst 1, 1) := by decide +kernel
theorem dX7_poses_289 : decode cX7_poses 289 = .ok (.ireturn, 1) := by decide +kernel
theorem dX7_road_0 : decode cX7_road 0 = .ok (.aload_n 0, 1) := by decide +kernel
theorem dX7_road_1 : decode cX7_road 1 = .ok (.getfield 19, 3) := by decide +kernel
theorem dX7_road_4 : decode cX7_road 4 = .ok (.bipush 13, 2) := by decide +kernel
theorem dX7_road_6 : decode cX7_road 6 = .ok (.iload_n 1, 1) := by decide +kernel
theorem dX7_road_7 : decode cX7_road 7 = .ok (.imul, 1) := by decide +kernel
theorem dX7_road_8 : decode cX7_road 8 = .ok (.bipush 8, 2) := by decide +kernel
theorem dX7_road_10 : decode cX7_road 10 = .ok (.iadd, 1) := by decide +kernel
theorem dX7_road_11 : decode cX7_road 11 = .ok (.iaload, 1) := by decide +kernel
theorem dX7_road_12 : decode cX7_road 12 = .ok (.istore_n 2, 1) := by decide +kernel
theorem dX7_road_13 : decode cX7_road 13 = .ok (.aload_n 0, 1) := by decide +kernel
theorem dX7_road_14 : decode cX7_road 14 = .ok (.getfield 19, 3) := by decide +kernel
theorem dX7_road_17 : decode cX7_road 17 = .ok (.bipush 13, 2) := by decide +kernel
theorem dX7_road_19 : decode cX7_road 19 = .ok (.iload_n 1, 1) := by decide +kernel
theorem dX7_road_20 : decode cX7_road 20 = .ok (.imul, 1) := by decide +kernel
theorem dX7_road_21 : decode cX7_road 21 = .ok (.bipush 9, 2) := by decide +kernel
theorem dX7_road_23 : decode cX7_road 23 = .ok (.iadd, 1) := by decide +kernel
theorem dX7_road_24 : decode cX7_road 24 = .ok (.iaload, 1) := by decide +kernel
theorem dX7_road_25 : decode cX7_road 25 = .ok (.istore_n 3, 1) := by decide +kernel
theorem dX7_road_26 : decode cX7_road 26 = .ok (.aload_n 0, 1) := by decide +kernel
theorem dX7_road_27 : decode cX7_road 27 = .ok (.aload_n 0, 1) := by decide +kernel
theorem dX7_road_28 : decode cX7_road 28 = .ok (.getfield 56, 3) := by decide +kernel
theorem dX7_road_31 : decode cX7_road 31 = .ok (.iload_n 2, 1) := by decide +kernel
theorem dX7_road_32 : decode cX7_road 32 = .ok (.i2d, 1) := by decide +kernel
theorem dX7_road_33 : decode cX7_road 33 = .ok (.aload_n 0, 1) := by decide +kernel
theorem dX7_road_34 : decode cX7_road 34 = .ok (.getfield 69, 3) := by decide +kernel
theorem dX7_road_37 : decode cX7_road 37 = .ok (.dmul, 1) := by decide +kernel
theorem dX7_road_38 : decode cX7_road 38 = .ok (.dadd, 1) := by decide +kernel
theorem dX7_road_39 : decode cX7_road 39 = .ok (.iload_n 3, 1) := by decide +kernel
theorem dX7_road_40 : decode cX7_road 40 = .ok (.i2d, 1) := by decide +kernel
theorem dX7_road_41 : decode cX7_road 41 = .ok (.aload_n 0, 1) := by decide +kernel
theorem dX7_road_42 : decode cX7_road 42 = .ok (.getfield 72, 3) := by decide +kernel
theorem dX7_road_45 : decode cX7_road 45 = .ok (.dmul, 1) := by decide +kernel
theorem dX7_road_46 : decode cX7_road 46 = .ok (.dadd, 1) := by decide +kernel
theorem dX7_road_47 : decode cX7_road 47 = .ok (.putfield 75, 3) := by decide +kernel
theorem dX7_road_50 : decode cX7_road 50 = .ok (.aload_n 0, 1) := by decide +kernel
theorem dX7_road_51 : decode cX7_road 51 = .ok (.aload_n 0, 1) := by decide +kernel
theorem dX7_road_52 : decode cX7_road 52 = .ok (.getfield 60, 3) := by decide +kernel
theorem dX7_road_55 : decode cX7_road 55 = .ok (.iload_n 2, 1) := by decide +kernel
theorem dX7_road_56 : decode cX7_road 56 = .ok (.i2d, 1) := by decide +kernel
theorem dX7_road_57 : decode cX7_road 57 = .ok (.aload_n 0, 1) := by decide +kernel
theorem dX7_road_58 : decode cX7_road 58 = .ok (.getfield 72, 3) := by decide +kernel
theorem dX7_road_61 : decode cX7_road 61 = .ok (.dmul, 1) := by decide +kernel
theorem dX7_road_62 : decode cX7_road 62 = .ok (.dadd, 1) := by decide +kernel
theorem dX7_road_63 : decode cX7_road 63 = .ok (.iload_n 3, 1) := by decide +kernel
theorem dX7_road_64 : decode cX7_road 64 = .ok (.i2d, 1) := by decide +kernel
theorem dX7_road_65 : decode cX7_road 65 = .ok (.aload_n 0, 1) := by decide +kernel
theorem dX7_road_66 : decode cX7_road 66 = .ok (.getfield 69, 3) := by decide +kernel
theorem dX7_road_69 : decode cX7_road 69 = .ok (.dmul, 1) := by decide +kernel
theorem dX7_road_70 : decode cX7_road 70 = .ok (.dsub, 1) := by decide +kernel
theorem dX7_road_71 : decode cX7_road 71 = .ok (.putfield 78, 3) := by decide +kernel
theorem dX7_road_74 : decode cX7_road 74 = .ok (.return_, 1) := by decide +kernel
theorem dX7_hasCentre_0 : decode cX7_hasCentre 0 = .ok (.bipush 13, 2) := by decide +kernel
theorem dX7_hasCentre_2 : decode cX7_hasCentre 2 = .ok (.iload_n 1, 1) := by decide +kernel
theorem dX7_hasCentre_3 : decode cX7_hasCentre 3 = .ok (.imul, 1) := by decide +kernel
theorem dX7_hasCentre_4 : decode cX7_hasCentre 4 = .ok (.istore_n 2, 1) := by decide +kernel
theorem dX7_hasCentre_5 : decode cX7_hasCentre 5 = .ok (.aload_n 0, 1) := by decide +kernel
theorem dX7_hasCentre_6 : decode cX7_hasCentre 6 = .ok (.getfield 19, 3) := by decide +kernel
theorem dX7_hasCentre_9 : decode cX7_hasCentre 9 = .ok (.iload_n 2, 1) := by decide +kernel
theorem dX7_hasCentre_10 : decode cX7_hasCentre 10 = .ok (.iaload, 1) := by decide +kernel
theorem dX7_hasCentre_11 : decode cX7_hasCentre 11 = .ok (.istore_n 3, 1) := by decide +kernel
theorem dX7_hasCentre_12 : decode cX7_hasCentre 12 = .ok (.aload_n 0, 1) := by decide +kernel
theorem dX7_hasCentre_13 : decode cX7_hasCentre 13 = .ok (.getfield 19, 3) := by decide +kernel
theorem dX7_hasCentre_16 : decode cX7_hasCentre 16 = .ok (.iload_n 2, 1) := by decide +kernel
theorem dX7_hasCentre_17 : decode cX7_hasCentre 17 = .ok (.iconst 1, 1) := by decide +kernel
theorem dX7_hasCentre_18 : decode cX7_hasCentre 18 = .ok (.iadd, 1) := by decide +kernel
theorem dX7_hasCentre_19 : decode cX7_hasCentre 19 = .ok (.iaload, 1) := by decide +kernel
theorem dX7_hasCentre_20 : decode cX7_hasCentre 20 = .ok (.istore 4, 2) := by decide +kernel
theorem dX7_hasCentre_22 : decode cX7_hasCentre 22 = .ok (.aload_n 0, 1) := by decide +kernel
theorem dX7_hasCentre_23 : decode cX7_hasCentre 23 = .ok (.getfield 19, 3) := by decide +kernel
theorem dX7_hasCentre_26 : decode cX7_hasCentre 26 = .ok (.iload_n 2, 1) := by decide +kernel
theorem dX7_hasCentre_27 : decode cX7_hasCentre 27 = .ok (.iconst 2, 1) := by decide +kernel
theorem dX7_hasCentre_28 : decode cX7_hasCentre 28 = .ok (.iadd, 1) := by decide +kernel
theorem dX7_hasCentre_29 : decode cX7_hasCentre 29 = .ok (.iaload, 1) := by decide +kernel
theorem dX7_hasCentre_30 : decode cX7_hasCentre 30 = .ok (.istore 5, 2) := by decide +kernel
theorem dX7_hasCentre_32 : decode cX7_hasCentre 32 = .ok (.aload_n 0, 1) := by decide +kernel
theorem dX7_hasCentre_33 : decode cX7_hasCentre 33 = .ok (.getfield 19, 3) := by decide +kernel
theorem dX7_hasCentre_36 : decode cX7_hasCentre 36 = .ok (.iload_n 2, 1) := by decide +kernel
theorem dX7_hasCentre_37 : decode cX7_hasCentre 37 = .ok (.iconst 3, 1) := by decide +kernel
theorem dX7_hasCentre_38 : decode cX7_hasCentre 38 = .ok (.iadd, 1) := by decide +kernel
theorem dX7_hasCentre_39 : decode cX7_hasCentre 39 = .ok (.iaload, 1) := by decide +kernel
theorem dX7_hasCentre_40 : decode cX7_hasCentre 40 = .ok (.istore 6, 2) := by decide +kernel
theorem dX7_hasCentre_42 : decode cX7_hasCentre 42 = .ok (.aload_n 0, 1) := by decide +kernel
theorem dX7_hasCentre_43 : decode cX7_hasCentre 43 = .ok (.getfield 63, 3) := by decide +kernel
theorem dX7_hasCentre_46 : decode cX7_hasCentre 46 = .ok (.iload_n 3, 1) := by decide +kernel
theorem dX7_hasCentre_47 : decode cX7_hasCentre 47 = .ok (.i2d, 1) := by decide +kernel
theorem dX7_hasCentre_48 : decode cX7_hasCentre 48 = .ok (.dsub, 1) := by decide +kernel
theorem dX7_hasCentre_49 : decode cX7_hasCentre 49 = .ok (.aload_n 0, 1) := by decide +kernel
theorem dX7_hasCentre_50 : decode cX7_hasCentre 50 = .ok (.getfield 60, 3) := by decide +kernel
theorem dX7_hasCentre_53 : decode cX7_hasCentre 53 = .ok (.iload 6, 2) := by decide +kernel
theorem dX7_hasCentre_55 : decode cX7_hasCentre 55 = .ok (.i2d, 1) := by decide +kernel
theorem dX7_hasCentre_56 : decode cX7_hasCentre 56 = .ok (.dsub, 1) := by decide +kernel
theorem dX7_hasCentre_57 : decode cX7_hasCentre 57 = .ok (.dmul, 1) := by decide +kernel
theorem dX7_hasCentre_58 : decode cX7_hasCentre 58 = .ok (.aload_n 0, 1) := by decide +kernel
theorem dX7_hasCentre_59 : decode cX7_hasCentre 59 = .ok (.getfield 66, 3) := by decide +kernel
theorem dX7_hasCentre_62 : decode cX7_hasCentre 62 = .ok (.iload 4, 2) := by decide +kernel
theorem dX7_hasCentre_64 : decode cX7_hasCentre 64 = .ok (.i2d, 1) := by decide +kernel
theorem dX7_hasCentre_65 : decode cX7_hasCentre 65 = .ok (.dsub, 1) := by decide +kernel
theorem dX7_hasCentre_66 : decode cX7_hasCentre 66 = .ok (.aload_n 0, 1) := by decide +kernel
theorem dX7_hasCentre_67 : decode cX7_hasCentre 67 = .ok (.getfield 56, 3) := by decide +kernel
theorem dX7_hasCentre_70 : decode cX7_hasCentre 70 = .ok (.iload 5, 2) := by decide +kernel
theorem dX7_hasCentre_72 : decode cX7_hasCentre 72 = .ok (.i2d, 1) := by decide +kernel
theorem dX7_hasCentre_73 : decode cX7_hasCentre 73 = .ok (.dsub, 1) := by decide +kernel
theorem dX7_hasCentre_74 : decode cX7_hasCentre 74 = .ok (.dmul, 1) := by decide +kernel
theorem dX7_hasCentre_75 : decode cX7_hasCentre 75 = .ok (.dsub, 1) := by decide +kernel
theorem dX7_hasCentre_76 : decode cX7_hasCentre 76 = .ok (.dstore 7, 2) := by decide +kernel
theorem dX7_hasCentre_78 : decode cX7_hasCentre 78 = .ok (.dload 7, 2) := by decide +kernel
theorem dX7_hasCentre_80 : decode cX7_hasCentre 80 = .ok (.dconst 0, 1) := by decide +kernel
theorem dX7_hasCentre_81 : decode cX7_hasCentre 81 = .ok (.dcmp .l, 1) := by decide +kernel
theorem dX7_hasCentre_82 : decode cX7_hasCentre 82 = .ok (.ifCond .ne 5, 3) := by decide +kernel
theorem dX7_hasCentre_85 : decode cX7_hasCentre 85 = .ok (.iconst 0, 1) := by decide +kernel
theorem dX7_hasCentre_86 : decode cX7_hasCentre 86 = .ok (.ireturn, 1) := by decide +kernel
theorem dX7_hasCentre_87 : decode cX7_hasCentre 87 = .ok (.iload 5, 2) := by decide +kernel
theorem dX7_hasCentre_89 : decode cX7_hasCentre 89 = .ok (.iload_n 3, 1) := by decide +kernel
theorem dX7_hasCentre_90 : decode cX7_hasCentre 90 = .ok (.isub, 1) := by decide +kernel
theorem dX7_hasCentre_91 : decode cX7_hasCentre 91 = .ok (.i2d, 1) := by decide +kernel
theorem dX7_hasCentre_92 : decode cX7_hasCentre 92 = .ok (.aload_n 0, 1) := by decide +kernel
theorem dX7_hasCentre_93 : decode cX7_hasCentre 93 = .ok (.getfield 60, 3) := by decide +kernel
theorem dX7_hasCentre_96 : decode cX7_hasCentre 96 = .ok (.iload 6, 2) := by decide +kernel
theorem dX7_hasCentre_98 : decode cX7_hasCentre 98 = .ok (.i2d, 1) := by decide +kernel
theorem dX7_hasCentre_99 : decode cX7_hasCentre 99 = .ok (.dsub, 1) := by decide +kernel
theorem dX7_hasCentre_100 : decode cX7_hasCentre 100 = .ok (.dmul, 1) := by decide +kernel
theorem dX7_hasCentre_101 : decode cX7_hasCentre 101 = .ok (.iload 6, 2) := by decide +kernel
theorem dX7_hasCentre_103 : decode cX7_hasCentre 103 = .ok (.iload 4, 2) := by decide +kernel
theorem dX7_hasCentre_105 : decode cX7_hasCentre 105 = .ok (.isub, 1) := by decide +kernel
theorem dX7_hasCentre_106 : decode cX7_hasCentre 106 = .ok (.i2d, 1) := by decide +kernel
theorem dX7_hasCentre_107 : decode cX7_hasCentre 107 = .ok (.aload_n 0, 1) := by decide +kernel
theorem dX7_hasCentre_108 : decode cX7_hasCentre 108 = .ok (.getfield 56, 3) := by decide +kernel
theorem dX7_hasCentre_111 : decode cX7_hasCentre 111 = .ok (.iload 5, 2) := by decide +kernel
theorem dX7_hasCentre_113 : decode cX7_hasCentre 113 = .ok (.i2d, 1) := by decide +kernel
theorem dX7_hasCentre_114 : decode cX7_hasCentre 114 = .ok (.dsub, 1) := by decide +kernel
theorem dX7_hasCentre_115 : decode cX7_hasCentre 115 = .ok (.dmul, 1) := by decide +kernel
theorem dX7_hasCentre_116 : decode cX7_hasCentre 116 = .ok (.dsub, 1) := by decide +kernel
theorem dX7_hasCentre_117 : decode cX7_hasCentre 117 = .ok (.dload 7, 2) := by decide +kernel
theorem dX7_hasCentre_119 : decode cX7_hasCentre 119 = .ok (.ddiv, 1) := by decide +kernel
theorem dX7_hasCentre_120 : decode cX7_hasCentre 120 = .ok (.dstore 9, 2) := by decide +kernel
theorem dX7_hasCentre_122 : decode cX7_hasCentre 122 = .ok (.aload_n 0, 1) := by decide +kernel
theorem dX7_hasCentre_123 : decode cX7_hasCentre 123 = .ok (.iload_n 3, 1) := by decide +kernel
theorem dX7_hasCentre_124 : decode cX7_hasCentre 124 = .ok (.i2d, 1) := by decide +kernel
theorem dX7_hasCentre_125 : decode cX7_hasCentre 125 = .ok (.dload 9, 2) := by decide +kernel
theorem dX7_hasCentre_127 : decode cX7_hasCentre 127 = .ok (.aload_n 0, 1) := by decide +kernel
theorem dX7_hasCentre_128 : decode cX7_hasCentre 128 = .ok (.getfield 63, 3) := by decide +kernel
theorem dX7_hasCentre_131 : decode cX7_hasCentre 131 = .ok (.iload_n 3, 1) := by decide +kernel
theorem dX7_hasCentre_132 : decode cX7_hasCentre 132 = .ok (.i2d, 1) := by decide +kernel
theorem dX7_hasCentre_133 : decode cX7_hasCentre 133 = .ok (.dsub, 1) := by decide +kernel
theorem dX7_hasCentre_134 : decode cX7_hasCentre 134 = .ok (.dmul, 1) := by decide +kernel
theorem dX7_hasCentre_135 : decode cX7_hasCentre 135 = .ok (.dadd, 1) := by decide +kernel
theorem dX7_hasCentre_136 : decode cX7_hasCentre 136 = .ok (.putfield 81, 3) := by decide +kernel
theorem dX7_hasCentre_139 : decode cX7_hasCentre 139 = .ok (.aload_n 0, 1) := by decide +kernel
theorem dX7_hasCentre_140 : decode cX7_hasCentre 140 = .ok (.iload 4, 2) := by decide +kernel
theorem dX7_hasCentre_142 : decode cX7_hasCentre 142 = .ok (.i2d, 1) := by decide +kernel
theorem dX7_hasCentre_143 : decode cX7_hasCentre 143 = .ok (.dload 9, 2) := by decide +kernel
theorem dX7_hasCentre_145 : decode cX7_hasCentre 145 = .ok (.aload_n 0, 1) := by decide +kernel
theorem dX7_hasCentre_146 : decode cX7_hasCentre 146 = .ok (.getfield 66, 3) := by decide +kernel
theorem dX7_hasCentre_149 : decode cX7_hasCentre 149 = .ok (.iload 4, 2) := by decide +kernel
theorem dX7_hasCentre_151 : decode cX7_hasCentre 151 = .ok (.i2d, 1) := by decide +kernel
theorem dX7_hasCentre_152 : decode cX7_hasCentre 152 = .ok (.dsub, 1) := by decide +kernel
theorem dX7_hasCentre_153 : decode cX7_hasCentre 153 = .ok (.dmul, 1) := by decide +kernel
theorem dX7_hasCentre_154 : decode cX7_hasCentre 154 = .ok (.dadd, 1) := by decide +kernel
theorem dX7_hasCentre_155 : decode cX7_hasCentre 155 = .ok (.putfield 84, 3) := by decide +kernel
theorem dX7_hasCentre_158 : decode cX7_hasCentre 158 = .ok (.iconst 1, 1) := by decide +kernel
theorem dX7_hasCentre_159 : decode cX7_hasCentre 159 = .ok (.ireturn, 1) := by decide +kernel
set_option maxRecDepth 20000 in
theorem ggX7_lengthAt_X7_root : GoodIn wsX7_lengthAt wsX7_root := goodIn_r _ [8, 9, 10, 11, 12] (by decide +kernel) (by decide +kernel)
set_option maxRecDepth 20000 in
theorem gX7_lengthAt_X7_root : GoodIn wsX7_lengthAt (va_wsS RX7 52 yX7_root wsX7_root) := goodIn_app (goodIn_of _ (by decide +kernel)) ggX7_lengthAt_X7_root
theorem dX7_lengthAt_0 : decode cX7_lengthAt 0 = .ok (.bipush 13, 2) := by decide +kernel
theorem dX7_lengthAt_2 : decode cX7_lengthAt 2 = .ok (.iload_n 1, 1) := by decide +kernel
theorem dX7_lengthAt_3 : decode cX7_lengthAt 3 = .ok (.imul, 1) := by decide +kernel
theorem dX7_lengthAt_4 : decode cX7_lengthAt 4 = .ok (.istore_n 2, 1) := by decide +kernel
theorem dX7_lengthAt_5 : decode cX7_lengthAt 5 = .ok (.aload_n 0, 1) := by decide +kernel
theorem dX7_lengthAt_6 : decode cX7_lengthAt 6 = .ok (.getfield 19, 3) := by decide +kernel
theorem dX7_lengthAt_9 : decode cX7_lengthAt 9 = .ok (.iload_n 2, 1) := by decide +kernel
theorem dX7_lengthAt_10 : decode cX7_lengthAt 10 = .ok (.bipush 12, 2) := by decide +kernel
theorem dX7_lengthAt_12 : decode cX7_lengthAt 12 = .ok (.iadd, 1) := by decide +kernel
theorem dX7_lengthAt_13 : decode cX7_lengthAt 13 = .ok (.iaload, 1) := by decide +kernel
theorem dX7_lengthAt_14 : decode cX7_lengthAt 14 = .ok (.istore_n 3, 1) := by decide +kernel
theorem dX7_lengthAt_15 : decode cX7_lengthAt 15 = .ok (.aload_n 0, 1) := by decide +kernel
theorem dX7_lengthAt_16 : decode cX7_lengthAt 16 = .ok (.getfield 19, 3) := by decide +kernel
theorem dX7_lengthAt_19 : decode cX7_lengthAt 19 = .ok (.iload_n 2, 1) := by decide +kernel
theorem dX7_lengthAt_20 : decode cX7_lengthAt 20 = .ok (.iconst 2, 1) := by decide +kernel
theorem dX7_lengthAt_21 : decode cX7_lengthAt 21 = .ok (.iadd, 1) := by decide +kernel
theorem dX7_lengthAt_22 : decode cX7_lengthAt 22 = .ok (.iaload, 1) := by decide +kernel
theorem dX7_lengthAt_23 : decode cX7_lengthAt 23 = .ok (.i2d, 1) := by decide +kernel
theorem dX7_lengthAt_24 : decode cX7_lengthAt 24 = .ok (.iload_n 3, 1) := by decide +kernel
theorem dX7_lengthAt_25 : decode cX7_lengthAt 25 = .ok (.i2d, 1) := by decide +kernel
theorem dX7_lengthAt_26 : decode cX7_lengthAt 26 = .ok (.aload_n 0, 1) := by decide +kernel
theorem dX7_lengthAt_27 : decode cX7_lengthAt 27 = .ok (.getfield 56, 3) := by decide +kernel
theorem dX7_lengthAt_30 : decode cX7_lengthAt 30 = .ok (.aload_n 0, 1) := by decide +kernel
theorem dX7_lengthAt_31 : decode cX7_lengthAt 31 = .ok (.getfield 19, 3) := by decide +kernel
theorem dX7_lengthAt_34 : decode cX7_lengthAt 34 = .ok (.iload_n 2, 1) := by decide +kernel
theorem dX7_lengthAt_35 : decode cX7_lengthAt 35 = .ok (.iconst 2, 1) := by decide +kernel
theorem dX7_lengthAt_36 : decode cX7_lengthAt 36 = .ok (.iadd, 1) := by decide +kernel
theorem dX7_lengthAt_37 : decode cX7_lengthAt 37 = .ok (.iaload, 1) := by decide +kernel
theorem dX7_lengthAt_38 : decode cX7_lengthAt 38 = .ok (.i2d, 1) := by decide +kernel
theorem dX7_lengthAt_39 : decode cX7_lengthAt 39 = .ok (.dsub, 1) := by decide +kernel
theorem dX7_lengthAt_40 : decode cX7_lengthAt 40 = .ok (.dmul, 1) := by decide +kernel
theorem dX7_lengthAt_41 : decode cX7_lengthAt 41 = .ok (.ldc2_w 87, 3) := by decide +kernel
theorem dX7_lengthAt_44 : decode cX7_lengthAt 44 = .ok (.ddiv, 1) := by decide +kernel
theorem dX7_lengthAt_45 : decode cX7_lengthAt 45 = .ok (.dadd, 1) := by decide +kernel
theorem dX7_lengthAt_46 : decode cX7_lengthAt 46 = .ok (.dstore 4, 2) := by decide +kernel
theorem dX7_lengthAt_48 : decode cX7_lengthAt 48 = .ok (.aload_n 0, 1) := by decide +kernel
theorem dX7_lengthAt_49 : decode cX7_lengthAt 49 = .ok (.getfield 19, 3) := by decide +kernel
theorem dX7_lengthAt_52 : decode cX7_lengthAt 52 = .ok (.iload_n 2, 1) := by decide +kernel
theorem dX7_lengthAt_53 : decode cX7_lengthAt 53 = .ok (.iconst 3, 1) := by decide +kernel
theorem dX7_lengthAt_54 : decode cX7_lengthAt 54 = .ok (.iadd, 1) := by decide +kernel
theorem dX7_lengthAt_55 : decode cX7_lengthAt 55 = .ok (.iaload, 1) := by decide +kernel
theorem dX7_lengthAt_56 : decode cX7_lengthAt 56 = .ok (.i2d, 1) := by decide +kernel
theorem dX7_lengthAt_57 : decode cX7_lengthAt 57 = .ok (.iload_n 3, 1) := by decide +kernel
theorem dX7_lengthAt_58 : decode cX7_lengthAt 58 = .ok (.i2d, 1) := by decide +kernel
theorem dX7_lengthAt_59 : decode cX7_lengthAt 59 = .ok (.aload_n 0, 1) := by decide +kernel
theorem dX7_lengthAt_60 : decode cX7_lengthAt 60 = .ok (.getfield 60, 3) := by decide +kernel
theorem dX7_lengthAt_63 : decode cX7_lengthAt 63 = .ok (.aload_n 0, 1) := by decide +kernel
theorem dX7_lengthAt_64 : decode cX7_lengthAt 64 = .ok (.getfield 19, 3) := by decide +kernel
theorem dX7_lengthAt_67 : decode cX7_lengthAt 67 = .ok (.iload_n 2, 1) := by decide +kernel
theorem dX7_lengthAt_68 : decode cX7_lengthAt 68 = .ok (.iconst 3, 1) := by decide +kernel
theorem dX7_lengthAt_69 : decode cX7_lengthAt 69 = .ok (.iadd, 1) := by decide +kernel
theorem dX7_lengthAt_70 : decode cX7_lengthAt 70 = .ok (.iaload, 1) := by decide +kernel
theorem dX7_lengthAt_71 : decode cX7_lengthAt 71 = .ok (.i2d, 1) := by decide +kernel
theorem dX7_lengthAt_72 : decode cX7_lengthAt 72 = .ok (.dsub, 1) := by decide +kernel
theorem dX7_lengthAt_73 : decode cX7_lengthAt 73 = .ok (.dmul, 1) := by decide +kernel
theorem dX7_lengthAt_74 : decode cX7_lengthAt 74 = .ok (.ldc2_w 87, 3) := by decide +kernel
theorem dX7_lengthAt_77 : decode cX7_lengthAt 77 = .ok (.ddiv, 1) := by decide +kernel
theorem dX7_lengthAt_78 : decode cX7_lengthAt 78 = .ok (.dadd, 1) := by decide +kernel
theorem dX7_lengthAt_79 : decode cX7_lengthAt 79 = .ok (.dstore 6, 2) := by decide +kernel
theorem dX7_lengthAt_81 : decode cX7_lengthAt 81 = .ok (.dload 4, 2) := by decide +kernel
theorem dX7_lengthAt_83 : decode cX7_lengthAt 83 = .ok (.aload_n 0, 1) := by decide +kernel
theorem dX7_lengthAt_84 : decode cX7_lengthAt 84 = .ok (.getfield 19, 3) := by decide +kernel
theorem dX7_lengthAt_87 : decode cX7_lengthAt 87 = .ok (.iload_n 2, 1) := by decide +kernel
theorem dX7_lengthAt_88 : decode cX7_lengthAt 88 = .ok (.bipush 10, 2) := by decide +kernel
theorem dX7_lengthAt_90 : decode cX7_lengthAt 90 = .ok (.iadd, 1) := by decide +kernel
theorem dX7_lengthAt_91 : decode cX7_lengthAt 91 = .ok (.iaload, 1) := by decide +kernel
theorem dX7_lengthAt_92 : decode cX7_lengthAt 92 = .ok (.i2d, 1) := by decide +kernel
theorem dX7_lengthAt_93 : decode cX7_lengthAt 93 = .ok (.dsub, 1) := by decide +kernel
theorem dX7_lengthAt_94 : decode cX7_lengthAt 94 = .ok (.dstore 8, 2) := by decide +kernel
theorem dX7_lengthAt_96 : decode cX7_lengthAt 96 = .ok (.dload 6, 2) := by decide +kernel
theorem dX7_lengthAt_98 : decode cX7_lengthAt 98 = .ok (.aload_n 0, 1) := by decide +kernel
theorem dX7_lengthAt_99 : decode cX7_lengthAt 99 = .ok (.getfield 19, 3) := by decide +kernel
theorem dX7_lengthAt_102 : decode cX7_lengthAt 102 = .ok (.iload_n 2, 1) := by decide +kernel
theorem dX7_lengthAt_103 : decode cX7_lengthAt 103 = .ok (.bipush 11, 2) := by decide +kernel
theorem dX7_lengthAt_105 : decode cX7_lengthAt 105 = .ok (.iadd, 1) := by decide +kernel
theorem dX7_lengthAt_106 : decode cX7_lengthAt 106 = .ok (.iaload, 1) := by decide +kernel
theorem dX7_lengthAt_107 : decode cX7_lengthAt 107 = .ok (.i2d, 1) := by decide +kernel
theorem dX7_lengthAt_108 : decode cX7_lengthAt 108 = .ok (.dsub, 1) := by decide +kernel
theorem dX7_lengthAt_109 : decode cX7_lengthAt 109 = .ok (.dstore 10, 2) := by decide +kernel
theorem dX7_lengthAt_111 : decode cX7_lengthAt 111 = .ok (.dload 8, 2) := by decide +kernel
theorem dX7_lengthAt_113 : decode cX7_lengthAt 113 = .ok (.dload 8, 2) := by decide +kernel
theorem dX7_lengthAt_115 : decode cX7_lengthAt 115 = .ok (.dmul, 1) := by decide +kernel
theorem dX7_lengthAt_116 : decode cX7_lengthAt 116 = .ok (.dload 10, 2) := by decide +kernel
theorem dX7_lengthAt_118 : decode cX7_lengthAt 118 = .ok (.dload 10, 2) := by decide +kernel
theorem dX7_lengthAt_120 : decode cX7_lengthAt 120 = .ok (.dmul, 1) := by decide +kernel
theorem dX7_lengthAt_121 : decode cX7_lengthAt 121 = .ok (.dadd, 1) := by decide +kernel
theorem dX7_lengthAt_122 : decode cX7_lengthAt 122 = .ok (.invokestatic 52, 3) := by decide +kernel
theorem dX7_lengthAt_125 : decode cX7_lengthAt 125 = .ok (.dreturn, 1) := by decide +kernel
set_option maxRecDepth 20000 in
theorem ggX7_share_X7_poses : GoodIn wsX7_share wsX7_poses := goodIn_r _ [7, 8, 9, 10, 2, 11, 12, 13, 14, 15, 16, 6, 17, 18, 19, 20, 31, 32, 33, 34, 35, 36, 37, 38, 39, 40, 41, 42, 43, 44, 45, 46, 47, 48, 49, 50, 51, 52] (by decide +kernel) (by decide +kernel)
set_option maxRecDepth 20000 in
theorem gX7_share_X7_poses : GoodIn wsX7_share (wsV RX7 89 RX7 yX7_poses wsX7_poses) := goodIn_app (goodIn_of _ (by decide +kernel)) ggX7_share_X7_poses
set_option maxRecDepth 20000 in
theorem ggX7_share_X7_lengthAt : GoodIn wsX7_share wsX7_lengthAt := goodIn_r _ [24, 8, 9, 25, 10, 15, 16, 6, 17, 18, 2, 19, 20, 31, 32, 33, 34, 35, 36, 37, 38, 39, 40, 41, 42, 43, 44, 45, 46, 47, 48, 49, 50, 51, 52] (by decide +kernel) (by decide +kernel)
set_option maxRecDepth 20000 in
theorem gX7_share_X7_lengthAt : GoodIn wsX7_share (wsV RX7 95 RX7 yX7_lengthAt wsX7_lengthAt) := goodIn_app (goodIn_of _ (by decide +kernel)) ggX7_share_X7_lengthAt
set_option maxRecDepth 20000 in
theorem ggX7_share_X7_bitsOf : GoodIn wsX7_share wsX7_bitsOf := goodIn_r _ [28, 18, 2, 19, 29, 30] (by decide +kernel) (by decide +kernel)
set_option maxRecDepth 20000 in
theorem gX7_share_X7_bitsOf : GoodIn wsX7_share (va_wsS RX7 99 yX7_bitsOf wsX7_bitsOf) := goodIn_app (goodIn_of _ (by decide +kernel)) ggX7_share_X7_bitsOf
theorem dX7_share_0 : decode cX7_share 0 = .ok (.aload_n 0, 1) := by decide +kernel
theorem dX7_share_1 : decode cX7_share 1 = .ok (.iload_n 1, 1) := by decide +kernel
theorem dX7_share_2 : decode cX7_share 2 = .ok (.iload_n 2, 1) := by decide +kernel
theorem dX7_share_3 : decode cX7_share 3 = .ok (.iconst 1, 1) := by decide +kernel
theorem dX7_share_4 : decode cX7_share 4 = .ok (.isub, 1) := by decide +kernel
theorem dX7_share_5 : decode cX7_share 5 = .ok (.invokevirtual 89, 3) := by decide +kernel
theorem dX7_share_8 : decode cX7_share 8 = .ok (.ifCond .ne 7, 3) := by decide +kernel
theorem dX7_share_11 : decode cX7_share 11 = .ok (.ldc2_w 93, 3) := by decide +kernel
theorem dX7_share_14 : decode cX7_share 14 = .ok (.lreturn, 1) := by decide +kernel
theorem dX7_share_15 : decode cX7_share 15 = .ok (.aload_n 0, 1) := by decide +kernel
theorem dX7_share_16 : decode cX7_share 16 = .ok (.iload_n 1, 1) := by decide +kernel
theorem dX7_share_17 : decode cX7_share 17 = .ok (.invokevirtual 95, 3) := by decide +kernel
theorem dX7_share_20 : decode cX7_share 20 = .ok (.dstore_n 3, 1) := by decide +kernel
theorem dX7_share_21 : decode cX7_share 21 = .ok (.aload_n 0, 1) := by decide +kernel
theorem dX7_share_22 : decode cX7_share 22 = .ok (.iload_n 1, 1) := by decide +kernel
theorem dX7_share_23 : decode cX7_share 23 = .ok (.iload_n 2, 1) := by decide +kernel
theorem dX7_share_24 : decode cX7_share 24 = .ok (.iconst 1, 1) := by decide +kernel
theorem dX7_share_25 : decode cX7_share 25 = .ok (.iadd, 1) := by decide +kernel
theorem dX7_share_26 : decode cX7_share 26 = .ok (.invokevirtual 89, 3) := by decide +kernel
theorem dX7_share_29 : decode cX7_share 29 = .ok (.ifCond .ne 7, 3) := by decide +kernel
theorem dX7_share_32 : decode cX7_share 32 = .ok (.ldc2_w 93, 3) := by decide +kernel
theorem dX7_share_35 : decode cX7_share 35 = .ok (.lreturn, 1) := by decide +kernel
theorem dX7_share_36 : decode cX7_share 36 = .ok (.dload_n 3, 1) := by decide +kernel
theorem dX7_share_37 : decode cX7_share 37 = .ok (.aload_n 0, 1) := by decide +kernel
theorem dX7_share_38 : decode cX7_share 38 = .ok (.iload_n 1, 1) := by decide +kernel
theorem dX7_share_39 : decode cX7_share 39 = .ok (.invokevirtual 95, 3) := by decide +kernel
theorem dX7_share_42 : decode cX7_share 42 = .ok (.dsub, 1) := by decide +kernel
theorem dX7_share_43 : decode cX7_share 43 = .ok (.ldc2_w 3, 3) := by decide +kernel
theorem dX7_share_46 : decode cX7_share 46 = .ok (.ddiv, 1) := by decide +kernel
theorem dX7_share_47 : decode cX7_share 47 = .ok (.invokestatic 99, 3) := by decide +kernel
theorem dX7_share_50 : decode cX7_share 50 = .ok (.lreturn, 1) := by decide +kernel
set_option maxRecDepth 20000 in
theorem ggX7_told_X7_road : GoodIn wsX7_told wsX7_road := goodIn_r _ [16, 17, 1, 7, 5, 8, 2, 9, 39, 40, 41, 42, 43, 44, 45, 46, 47, 48, 49, 50, 51, 52, 53, 54, 55, 56, 57, 58, 59, 60] (by decide +kernel) (by decide +kernel)
set_option maxRecDepth 20000 in
theorem gX7_told_X7_road : GoodIn wsX7_told (wsV RX7 103 RX7 yX7_road wsX7_road) := goodIn_app (goodIn_of _ (by decide +kernel)) ggX7_told_X7_road
set_option maxRecDepth 20000 in
theorem ggX7_told_X7_bitsOf : GoodIn wsX7_told wsX7_bitsOf := goodIn_r _ [20, 21, 22, 23, 24, 25] (by decide +kernel) (by decide +kernel)
set_option maxRecDepth 20000 in
theorem gX7_told_X7_bitsOf : GoodIn wsX7_told (va_wsS RX7 99 yX7_bitsOf wsX7_bitsOf) := goodIn_app (goodIn_of _ (by decide +kernel)) ggX7_told_X7_bitsOf
set_option maxRecDepth 20000 in
theorem ggX7_told_X7_lengthAt : GoodIn wsX7_told wsX7_lengthAt := goodIn_r _ [29, 17, 1, 30, 2, 31, 32, 15, 33, 21, 22, 23, 34, 39, 40, 41, 42, 43, 44, 45, 46, 47, 48, 49, 50, 51, 52, 53, 54, 55, 56, 57, 58, 59, 60] (by decide +kernel) (by decide +kernel)
set_option maxRecDepth 20000 in
theorem gX7_told_X7_lengthAt : GoodIn wsX7_told (wsV RX7 95 RX7 yX7_lengthAt wsX7_lengthAt) := goodIn_app (goodIn_of _ (by decide +kernel)) ggX7_told_X7_lengthAt
set_option maxRecDepth 20000 in
theorem ggX7_told_X7_hasCentre : GoodIn wsX7_told wsX7_hasCentre := goodIn_r _ [38, 17, 3, 2, 4, 1, 10, 11, 39, 40, 41, 42, 43, 44, 45, 46, 47, 48, 49, 50, 51, 52, 53, 54, 55, 56, 57, 58, 59, 60] (by decide +kernel) (by decide +kernel)
set_option maxRecDepth 20000 in
theorem gX7_told_X7_hasCentre : GoodIn wsX7_told (wsV RX7 107 RX7 yX7_hasCentre wsX7_hasCentre) := goodIn_app (goodIn_of _ (by decide +kernel)) ggX7_told_X7_hasCentre
theorem dX7_told_0 : decode cX7_told 0 = .ok (.aload_n 0, 1) := by decide +kernel
theorem dX7_told_1 : decode cX7_told 1 = .ok (.iload_n 1, 1) := by decide +kernel
theorem dX7_told_2 : decode cX7_told 2 = .ok (.invokevirtual 103, 3) := by decide +kernel
theorem dX7_told_5 : decode cX7_told 5 = .ok (.iload_n 2, 1) := by decide +kernel
theorem dX7_told_6 : decode cX7_told 6 = .ok (.tableswitch 143 0 10 #[58, 66, 74, 82, 90, 118, 126, 143, 143, 143, 134], 58) := by decide +kernel
theorem dX7_told_64 : decode cX7_told 64 = .ok (.aload_n 0, 1) := by decide +kernel
theorem dX7_told_65 : decode cX7_told 65 = .ok (.getfield 56, 3) := by decide +kernel
theorem dX7_told_68 : decode cX7_told 68 = .ok (.invokestatic 99, 3) := by decide +kernel
theorem dX7_told_71 : decode cX7_told 71 = .ok (.lreturn, 1) := by decide +kernel
theorem dX7_told_72 : decode cX7_told 72 = .ok (.aload_n 0, 1) := by decide +kernel
theorem dX7_told_73 : decode cX7_told 73 = .ok (.getfield 60, 3) := by decide +kernel
theorem dX7_told_76 : decode cX7_told 76 = .ok (.invokestatic 99, 3) := by decide +kernel
theorem dX7_told_79 : decode cX7_told 79 = .ok (.lreturn, 1) := by decide +kernel
theorem dX7_told_80 : decode cX7_told 80 = .ok (.aload_n 0, 1) := by decide +kernel
theorem dX7_told_81 : decode cX7_told 81 = .ok (.getfield 63, 3) := by decide +kernel
theorem dX7_told_84 : decode cX7_told 84 = .ok (.invokestatic 99, 3) := by decide +kernel
theorem dX7_told_87 : decode cX7_told 87 = .ok (.lreturn, 1) := by decide +kernel
theorem dX7_told_88 : decode cX7_told 88 = .ok (.aload_n 0, 1) := by decide +kernel
theorem dX7_told_89 : decode cX7_told 89 = .ok (.getfield 66, 3) := by decide +kernel
theorem dX7_told_92 : decode cX7_told 92 = .ok (.invokestatic 99, 3) := by decide +kernel
theorem dX7_told_95 : decode cX7_told 95 = .ok (.lreturn, 1) := by decide +kernel
theorem dX7_told_96 : decode cX7_told 96 = .ok (.aload_n 0, 1) := by decide +kernel
theorem dX7_told_97 : decode cX7_told 97 = .ok (.getfield 72, 3) := by decide +kernel
theorem dX7_told_100 : decode cX7_told 100 = .ok (.dconst 0, 1) := by decide +kernel
theorem dX7_told_101 : decode cX7_told 101 = .ok (.dcmp .l, 1) := by decide +kernel
theorem dX7_told_102 : decode cX7_told 102 = .ok (.ifCond .ne 9, 3) := by decide +kernel
theorem dX7_told_105 : decode cX7_told 105 = .ok (.ldc2_w 93, 3) := by decide +kernel
theorem dX7_told_108 : decode cX7_told 108 = .ok (.goto 15, 3) := by decide +kernel
theorem dX7_told_111 : decode cX7_told 111 = .ok (.aload_n 0, 1) := by decide +kernel
theorem dX7_told_112 : decode cX7_told 112 = .ok (.getfield 69, 3) := by decide +kernel
theorem dX7_told_115 : decode cX7_told 115 = .ok (.aload_n 0, 1) := by decide +kernel
theorem dX7_told_116 : decode cX7_told 116 = .ok (.getfield 72, 3) := by decide +kernel
theorem dX7_told_119 : decode cX7_told 119 = .ok (.ddiv, 1) := by decide +kernel
theorem dX7_told_120 : decode cX7_told 120 = .ok (.invokestatic 99, 3) := by decide +kernel
theorem dX7_told_123 : decode cX7_told 123 = .ok (.lreturn, 1) := by decide +kernel
theorem dX7_told_124 : decode cX7_told 124 = .ok (.aload_n 0, 1) := by decide +kernel
theorem dX7_told_125 : decode cX7_told 125 = .ok (.getfield 75, 3) := by decide +kernel
theorem dX7_told_128 : decode cX7_told 128 = .ok (.invokestatic 99, 3) := by decide +kernel
theorem dX7_told_131 : decode cX7_told 131 = .ok (.lreturn, 1) := by decide +kernel
theorem dX7_told_132 : decode cX7_told 132 = .ok (.aload_n 0, 1) := by decide +kernel
theorem dX7_told_133 : decode cX7_told 133 = .ok (.getfield 78, 3) := by decide +kernel
theorem dX7_told_136 : decode cX7_told 136 = .ok (.invokestatic 99, 3) := by decide +kernel
theorem dX7_told_139 : decode cX7_told 139 = .ok (.lreturn, 1) := by decide +kernel
theorem dX7_told_140 : decode cX7_told 140 = .ok (.aload_n 0, 1) := by decide +kernel
theorem dX7_told_141 : decode cX7_told 141 = .ok (.iload_n 1, 1) := by decide +kernel
theorem dX7_told_142 : decode cX7_told 142 = .ok (.invokevirtual 95, 3) := by decide +kernel
theorem dX7_told_145 : decode cX7_told 145 = .ok (.invokestatic 99, 3) := by decide +kernel
theorem dX7_told_148 : decode cX7_told 148 = .ok (.lreturn, 1) := by decide +kernel
theorem dX7_told_149 : decode cX7_told 149 = .ok (.aload_n 0, 1) := by decide +kernel
theorem dX7_told_150 : decode cX7_told 150 = .ok (.iload_n 1, 1) := by decide +kernel
theorem dX7_told_151 : decode cX7_told 151 = .ok (.invokevirtual 107, 3) := by decide +kernel
theorem dX7_told_154 : decode cX7_told 154 = .ok (.ifCond .ne 7, 3) := by decide +kernel
theorem dX7_told_157 : decode cX7_told 157 = .ok (.ldc2_w 93, 3) := by decide +kernel
theorem dX7_told_160 : decode cX7_told 160 = .ok (.lreturn, 1) := by decide +kernel
theorem dX7_told_161 : decode cX7_told 161 = .ok (.iload_n 2, 1) := by decide +kernel
theorem dX7_told_162 : decode cX7_told 162 = .ok (.bipush 9, 2) := by decide +kernel
theorem dX7_told_164 : decode cX7_told 164 = .ok (.if_icmp .ge 24, 3) := by decide +kernel
theorem dX7_told_167 : decode cX7_told 167 = .ok (.iload_n 2, 1) := by decide +kernel
theorem dX7_told_168 : decode cX7_told 168 = .ok (.bipush 7, 2) := by decide +kernel
theorem dX7_told_170 : decode cX7_told 170 = .ok (.if_icmp .ne 10, 3) := by decide +kernel
theorem dX7_told_173 : decode cX7_told 173 = .ok (.aload_n 0, 1) := by decide +kernel
theorem dX7_told_174 : decode cX7_told 174 = .ok (.getfield 81, 3) := by decide +kernel
theorem dX7_told_177 : decode cX7_told 177 = .ok (.goto 7, 3) := by decide +kernel
theorem dX7_told_180 : decode cX7_told 180 = .ok (.aload_n 0, 1) := by decide +kernel
theorem dX7_told_181 : decode cX7_told 181 = .ok (.getfield 84, 3) := by decide +kernel
theorem dX7_told_184 : decode cX7_told 184 = .ok (.invokestatic 99, 3) := by decide +kernel
theorem dX7_told_187 : decode cX7_told 187 = .ok (.lreturn, 1) := by decide +kernel
theorem dX7_told_188 : decode cX7_told 188 = .ok (.aload_n 0, 1) := by decide +kernel
theorem dX7_told_189 : decode cX7_told 189 = .ok (.getfield 81, 3) := by decide +kernel
theorem dX7_told_192 : decode cX7_told 192 = .ok (.aload_n 0, 1) := by decide +kernel
theorem dX7_told_193 : decode cX7_told 193 = .ok (.getfield 75, 3) := by decide +kernel
theorem dX7_told_196 : decode cX7_told 196 = .ok (.dsub, 1) := by decide +kernel
theorem dX7_told_197 : decode cX7_told 197 = .ok (.dconst 0, 1) := by decide +kernel
theorem dX7_told_198 : decode cX7_told 198 = .ok (.dcmp .l, 1) := by decide +kernel
theorem dX7_told_199 : decode cX7_told 199 = .ok (.ifCond .ne 9, 3) := by decide +kernel
theorem dX7_told_202 : decode cX7_told 202 = .ok (.ldc2_w 93, 3) := by decide +kernel
theorem dX7_told_205 : decode cX7_told 205 = .ok (.goto 37, 3) := by decide +kernel
theorem dX7_told_208 : decode cX7_told 208 = .ok (.aload_n 0, 1) := by decide +kernel
theorem dX7_told_209 : decode cX7_told 209 = .ok (.getfield 78, 3) := by decide +kernel
theorem dX7_told_212 : decode cX7_told 212 = .ok (.dconst 0, 1) := by decide +kernel
theorem dX7_told_213 : decode cX7_told 213 = .ok (.aload_n 0, 1) := by decide +kernel
theorem dX7_told_214 : decode cX7_told 214 = .ok (.getfield 75, 3) := by decide +kernel
theorem dX7_told_217 : decode cX7_told 217 = .ok (.dsub, 1) := by decide +kernel
theorem dX7_told_218 : decode cX7_told 218 = .ok (.aload_n 0, 1) := by decide +kernel
theorem dX7_told_219 : decode cX7_told 219 = .ok (.getfield 84, 3) := by decide +kernel
theorem dX7_told_222 : decode cX7_told 222 = .ok (.aload_n 0, 1) := by decide +kernel
theorem dX7_told_223 : decode cX7_told 223 = .ok (.getfield 78, 3) := by decide +kernel
theorem dX7_told_226 : decode cX7_told 226 = .ok (.dsub, 1) := by decide +kernel
theorem dX7_told_227 : decode cX7_told 227 = .ok (.dmul, 1) := by decide +kernel
theorem dX7_told_228 : decode cX7_told 228 = .ok (.aload_n 0, 1) := by decide +kernel
theorem dX7_told_229 : decode cX7_told 229 = .ok (.getfield 81, 3) := by decide +kernel
theorem dX7_told_232 : decode cX7_told 232 = .ok (.aload_n 0, 1) := by decide +kernel
theorem dX7_told_233 : decode cX7_told 233 = .ok (.getfield 75, 3) := by decide +kernel
theorem dX7_told_236 : decode cX7_told 236 = .ok (.dsub, 1) := by decide +kernel
theorem dX7_told_237 : decode cX7_told 237 = .ok (.ddiv, 1) := by decide +kernel
theorem dX7_told_238 : decode cX7_told 238 = .ok (.dadd, 1) := by decide +kernel
theorem dX7_told_239 : decode cX7_told 239 = .ok (.invokestatic 99, 3) := by decide +kernel
theorem dX7_told_242 : decode cX7_told 242 = .ok (.lreturn, 1) := by decide +kernel
set_option maxRecDepth 20000 in
theorem ggX7_pose_X7_isHanging : GoodIn wsX7_pose wsX7_isHanging := goodIn_r _ [6, 7, 8, 5, 9] (by decide +kernel) (by decide +kernel)
set_option maxRecDepth 20000 in
theorem gX7_pose_X7_isHanging : GoodIn wsX7_pose (va_wsS RX7 42 yX7_isHanging wsX7_isHanging) := goodIn_app (goodIn_of _ (by decide +kernel)) ggX7_pose_X7_isHanging
set_option maxRecDepth 20000 in
theorem ggX7_pose_X7_isAt : GoodIn wsX7_pose wsX7_isAt := goodIn_r _ [12, 7, 8, 5, 9] (by decide +kernel) (by decide +kernel)
set_option maxRecDepth 20000 in
theorem gX7_pose_X7_isAt : GoodIn wsX7_pose (va_wsS RX7 46 yX7_isAt wsX7_isAt) := goodIn_app (goodIn_of _ (by decide +kernel)) ggX7_pose_X7_isAt
set_option maxRecDepth 20000 in
theorem ggX7_pose_X7_in : GoodIn wsX7_pose wsX7_in := goodIn_r _ [9] (by decide +kernel) (by decide +kernel)
set_option maxRecDepth 20000 in
theorem gX7_pose_X7_in : GoodIn wsX7_pose (va_wsS RX7 38 yX7_in wsX7_in) := goodIn_app (goodIn_of _ (by decide +kernel)) ggX7_pose_X7_in
set_option maxRecDepth 20000 in
theorem ggX7_pose_X7_share : GoodIn wsX7_pose wsX7_share := goodIn_r _ [16, 2, 17, 18, 19, 20, 5, 21, 22, 23, 24, 25, 26, 27, 28, 29, 30, 31, 32, 33, 34, 35, 36, 37, 38, 39, 40, 41, 42, 43, 44, 61, 62, 63, 64, 65, 66, 67, 68, 69, 70, 71, 72, 73, 74, 75, 76, 77, 78, 79, 80, 81, 82] (by decide +kernel) (by decide +kernel)
set_option maxRecDepth 20000 in
theorem gX7_pose_X7_share : GoodIn wsX7_pose (wsV RX7 112 RX7 yX7_share wsX7_share) := goodIn_app (goodIn_of _ (by decide +kernel)) ggX7_pose_X7_share
set_option maxRecDepth 20000 in
theorem ggX7_pose_X7_poses : GoodIn wsX7_pose wsX7_poses := goodIn_r _ [21, 22, 23, 24, 17, 25, 26, 27, 28, 29, 30, 5, 31, 32, 33, 34, 61, 62, 63, 64, 65, 66, 67, 68, 69, 70, 71, 72, 73, 74, 75, 76, 77, 78, 79, 80, 81, 82] (by decide +kernel) (by decide +kernel)
set_option maxRecDepth 20000 in
theorem gX7_pose_X7_poses : GoodIn wsX7_pose (wsV RX7 89 RX7 yX7_poses wsX7_poses) := goodIn_app (goodIn_of _ (by decide +kernel)) ggX7_pose_X7_poses
set_option maxRecDepth 20000 in
theorem ggX7_pose_X7_told : GoodIn wsX7_pose wsX7_told := goodIn_r _ [48, 23, 24, 25, 26, 28, 2, 27, 49, 50, 51, 52, 53, 54, 55, 5, 56, 22, 40, 41, 42, 32, 17, 33, 43, 44, 35, 36, 37, 38, 39, 29, 30, 31, 34, 57, 58, 59, 60, 61, 62, 63, 64, 65, 66, 67, 68, 69, 70, 71, 72, 73, 74, 75, 76, 77, 78, 79, 80, 81, 82] (by decide +kernel) (by decide +kernel)
set_option maxRecDepth 20000 in
theorem gX7_pose_X7_told : GoodIn wsX7_pose (wsV RX7 116 RX7 yX7_told wsX7_told) := goodIn_app (goodIn_of _ (by decide +kernel)) ggX7_pose_X7_told
theorem dX7_pose_0 : decode cX7_pose 0 = .ok (.iload_n 1, 1) := by decide +kernel
theorem dX7_pose_1 : decode cX7_pose 1 = .ok (.invokestatic 42, 3) := by decide +kernel
theorem dX7_pose_4 : decode cX7_pose 4 = .ok (.ifCond .eq 20, 3) := by decide +kernel
theorem dX7_pose_7 : decode cX7_pose 7 = .ok (.iload_n 2, 1) := by decide +kernel
theorem dX7_pose_8 : decode cX7_pose 8 = .ok (.invokestatic 46, 3) := by decide +kernel
theorem dX7_pose_11 : decode cX7_pose 11 = .ok (.ifCond .eq 13, 3) := by decide +kernel
theorem dX7_pose_14 : decode cX7_pose 14 = .ok (.iload_n 3, 1) := by decide +kernel
theorem dX7_pose_15 : decode cX7_pose 15 = .ok (.iconst 0, 1) := by decide +kernel
theorem dX7_pose_16 : decode cX7_pose 16 = .ok (.bipush 11, 2) := by decide +kernel
theorem dX7_pose_18 : decode cX7_pose 18 = .ok (.invokestatic 38, 3) := by decide +kernel
theorem dX7_pose_21 : decode cX7_pose 21 = .ok (.ifCond .ne 7, 3) := by decide +kernel
theorem dX7_pose_24 : decode cX7_pose 24 = .ok (.ldc2_w 110, 3) := by decide +kernel
theorem dX7_pose_27 : decode cX7_pose 27 = .ok (.lreturn, 1) := by decide +kernel
theorem dX7_pose_28 : decode cX7_pose 28 = .ok (.iload_n 3, 1) := by decide +kernel
theorem dX7_pose_29 : decode cX7_pose 29 = .ok (.bipush 11, 2) := by decide +kernel
theorem dX7_pose_31 : decode cX7_pose 31 = .ok (.if_icmp .ne 10, 3) := by decide +kernel
theorem dX7_pose_34 : decode cX7_pose 34 = .ok (.aload_n 0, 1) := by decide +kernel
theorem dX7_pose_35 : decode cX7_pose 35 = .ok (.iload_n 1, 1) := by decide +kernel
theorem dX7_pose_36 : decode cX7_pose 36 = .ok (.iload_n 2, 1) := by decide +kernel
theorem dX7_pose_37 : decode cX7_pose 37 = .ok (.invokevirtual 112, 3) := by decide +kernel
theorem dX7_pose_40 : decode cX7_pose 40 = .ok (.lreturn, 1) := by decide +kernel
theorem dX7_pose_41 : decode cX7_pose 41 = .ok (.aload_n 0, 1) := by decide +kernel
theorem dX7_pose_42 : decode cX7_pose 42 = .ok (.iload_n 1, 1) := by decide +kernel
theorem dX7_pose_43 : decode cX7_pose 43 = .ok (.iload_n 2, 1) := by decide +kernel
theorem dX7_pose_44 : decode cX7_pose 44 = .ok (.invokevirtual 89, 3) := by decide +kernel
theorem dX7_pose_47 : decode cX7_pose 47 = .ok (.ifCond .eq 12, 3) := by decide +kernel
theorem dX7_pose_50 : decode cX7_pose 50 = .ok (.aload_n 0, 1) := by decide +kernel
theorem dX7_pose_51 : decode cX7_pose 51 = .ok (.iload_n 1, 1) := by decide +kernel
theorem dX7_pose_52 : decode cX7_pose 52 = .ok (.iload_n 3, 1) := by decide +kernel
theorem dX7_pose_53 : decode cX7_pose 53 = .ok (.invokevirtual 116, 3) := by decide +kernel
theorem dX7_pose_56 : decode cX7_pose 56 = .ok (.goto 6, 3) := by decide +kernel
theorem dX7_pose_59 : decode cX7_pose 59 = .ok (.ldc2_w 93, 3) := by decide +kernel
theorem dX7_pose_62 : decode cX7_pose 62 = .ok (.lreturn, 1) := by decide +kernel
set_option maxRecDepth 20000 in
theorem ggX7_lock_X7_isHanging : GoodIn wsX7_lock wsX7_isHanging := goodIn_r _ [4, 5, 6, 3, 7] (by decide +kernel) (by decide +kernel)
set_option maxRecDepth 20000 in
theorem gX7_lock_X7_isHanging : GoodIn wsX7_lock (va_wsS RX7 42 yX7_isHanging wsX7_isHanging) := goodIn_app (goodIn_of _ (by decide +kernel)) ggX7_lock_X7_isHanging
set_option maxRecDepth 20000 in
theorem ggX7_lock_X7_isAt : GoodIn wsX7_lock wsX7_isAt := goodIn_r _ [10, 5, 6, 3, 7] (by decide +kernel) (by decide +kernel)
set_option maxRecDepth 20000 in
theorem gX7_lock_X7_isAt : GoodIn wsX7_lock (va_wsS RX7 46 yX7_isAt wsX7_isAt) := goodIn_app (goodIn_of _ (by decide +kernel)) ggX7_lock_X7_isAt
set_option maxRecDepth 20000 in
theorem ggX7_lock_X7_in : GoodIn wsX7_lock wsX7_in := goodIn_r _ [7] (by decide +kernel) (by decide +kernel)
set_option maxRecDepth 20000 in
theorem gX7_lock_X7_in : GoodIn wsX7_lock (va_wsS RX7 38 yX7_in wsX7_in) := goodIn_app (goodIn_of _ (by decide +kernel)) ggX7_lock_X7_in
set_option maxRecDepth 20000 in
theorem ggX7_lock_X7_poses : GoodIn wsX7_lock wsX7_poses := goodIn_r _ [14, 15, 16, 17, 18, 19, 20, 21, 22, 23, 24, 3, 25, 26, 27, 28, 29, 30, 31, 32, 33, 34, 35, 36, 37, 38, 39, 40, 41, 42, 43, 44, 45, 46, 47, 48, 49, 50] (by decide +kernel) (by decide +kernel)
set_option maxRecDepth 20000 in
theorem gX7_lock_X7_poses : GoodIn wsX7_lock (wsV RX7 89 RX7 yX7_poses wsX7_poses) := goodIn_app (goodIn_of _ (by decide +kernel)) ggX7_lock_X7_poses
theorem dX7_lock_0 : decode cX7_lock 0 = .ok (.iload_n 1, 1) := by decide +kernel
theorem dX7_lock_1 : decode cX7_lock 1 = .ok (.invokestatic 42, 3) := by decide +kernel
theorem dX7_lock_4 : decode cX7_lock 4 = .ok (.ifCond .eq 21, 3) := by decide +kernel
theorem dX7_lock_7 : decode cX7_lock 7 = .ok (.iload_n 2, 1) := by decide +kernel
theorem dX7_lock_8 : decode cX7_lock 8 = .ok (.invokestatic 46, 3) := by decide +kernel
theorem dX7_lock_11 : decode cX7_lock 11 = .ok (.ifCond .eq 14, 3) := by decide +kernel
theorem dX7_lock_14 : decode cX7_lock 14 = .ok (.iload_n 3, 1) := by decide +kernel
theorem dX7_lock_15 : decode cX7_lock 15 = .ok (.iload_n 2, 1) := by decide +kernel
theorem dX7_lock_16 : decode cX7_lock 16 = .ok (.sipush 1000, 3) := by decide +kernel
theorem dX7_lock_19 : decode cX7_lock 19 = .ok (.invokestatic 38, 3) := by decide +kernel
theorem dX7_lock_22 : decode cX7_lock 22 = .ok (.ifCond .ne 7, 3) := by decide +kernel
theorem dX7_lock_25 : decode cX7_lock 25 = .ok (.sipush (-2000), 3) := by decide +kernel
theorem dX7_lock_28 : decode cX7_lock 28 = .ok (.ireturn, 1) := by decide +kernel
theorem dX7_lock_29 : decode cX7_lock 29 = .ok (.iload_n 2, 1) := by decide +kernel
theorem dX7_lock_30 : decode cX7_lock 30 = .ok (.istore 4, 2) := by decide +kernel
theorem dX7_lock_32 : decode cX7_lock 32 = .ok (.iload 4, 2) := by decide +kernel
theorem dX7_lock_34 : decode cX7_lock 34 = .ok (.iload_n 3, 1) := by decide +kernel
theorem dX7_lock_35 : decode cX7_lock 35 = .ok (.if_icmp .gt 22, 3) := by decide +kernel
theorem dX7_lock_38 : decode cX7_lock 38 = .ok (.aload_n 0, 1) := by decide +kernel
theorem dX7_lock_39 : decode cX7_lock 39 = .ok (.iload_n 1, 1) := by decide +kernel
theorem dX7_lock_40 : decode cX7_lock 40 = .ok (.iload 4, 2) := by decide +kernel
theorem dX7_lock_42 : decode cX7_lock 42 = .ok (.invokevirtual 89, 3) := by decide +kernel
theorem dX7_lock_45 : decode cX7_lock 45 = .ok (.ifCond .ne 6, 3) := by decide +kernel
theorem dX7_lock_48 : decode cX7_lock 48 = .ok (.iload 4, 2) := by decide +kernel
theorem dX7_lock_50 : decode cX7_lock 50 = .ok (.ireturn, 1) := by decide +kernel
theorem dX7_lock_51 : decode cX7_lock 51 = .ok (.iinc 4 1, 3) := by decide +kernel
theorem dX7_lock_54 : decode cX7_lock 54 = .ok (.goto (-22), 3) := by decide +kernel
theorem dX7_lock_57 : decode cX7_lock 57 = .ok (.iconst (-1), 1) := by decide +kernel
theorem dX7_lock_58 : decode cX7_lock 58 = .ok (.ireturn, 1) := by decide +kernel
set_option maxRecDepth 20000 in
theorem ggX7_weight_X7_in : GoodIn wsX7_weight wsX7_in := goodIn_r _ [8] (by decide +kernel) (by decide +kernel)
set_option maxRecDepth 20000 in
theorem gX7_weight_X7_in : GoodIn wsX7_weight (va_wsS RX7 38 yX7_in wsX7_in) := goodIn_app (goodIn_of _ (by decide +kernel)) ggX7_weight_X7_in
theorem dX7_weight_0 : decode cX7_weight 0 = .ok (.iload_n 1, 1) := by decide +kernel
theorem dX7_weight_1 : decode cX7_weight 1 = .ok (.iconst 0, 1) := by decide +kernel
theorem dX7_weight_2 : decode cX7_weight 2 = .ok (.ldc 119, 2) := by decide +kernel
theorem dX7_weight_4 : decode cX7_weight 4 = .ok (.invokestatic 38, 3) := by decide +kernel
theorem dX7_weight_7 : decode cX7_weight 7 = .ok (.ifCond .eq 27, 3) := by decide +kernel
theorem dX7_weight_10 : decode cX7_weight 10 = .ok (.iload_n 2, 1) := by decide +kernel
theorem dX7_weight_11 : decode cX7_weight 11 = .ok (.iconst 0, 1) := by decide +kernel
theorem dX7_weight_12 : decode cX7_weight 12 = .ok (.sipush 1000, 3) := by decide +kernel
theorem dX7_weight_15 : decode cX7_weight 15 = .ok (.invokestatic 38, 3) := by decide +kernel
theorem dX7_weight_18 : decode cX7_weight 18 = .ok (.ifCond .eq 16, 3) := by decide +kernel
theorem dX7_weight_21 : decode cX7_weight 21 = .ok (.iload_n 3, 1) := by decide +kernel
theorem dX7_weight_22 : decode cX7_weight 22 = .ok (.sipush (-500), 3) := by decide +kernel
theorem dX7_weight_25 : decode cX7_weight 25 = .ok (.sipush 500, 3) := by decide +kernel
theorem dX7_weight_28 : decode cX7_weight 28 = .ok (.invokestatic 38, 3) := by decide +kernel
theorem dX7_weight_31 : decode cX7_weight 31 = .ok (.ifCond .ne 6, 3) := by decide +kernel
theorem dX7_weight_34 : decode cX7_weight 34 = .ok (.bipush (-2), 2) := by decide +kernel
theorem dX7_weight_36 : decode cX7_weight 36 = .ok (.ireturn, 1) := by decide +kernel
theorem dX7_weight_37 : decode cX7_weight 37 = .ok (.aload_n 0, 1) := by decide +kernel
theorem dX7_weight_38 : decode cX7_weight 38 = .ok (.iload_n 1, 1) := by decide +kernel
theorem dX7_weight_39 : decode cX7_weight 39 = .ok (.putfield 120, 3) := by decide +kernel
theorem dX7_weight_42 : decode cX7_weight 42 = .ok (.aload_n 0, 1) := by decide +kernel
theorem dX7_weight_43 : decode cX7_weight 43 = .ok (.iload_n 2, 1) := by decide +kernel
theorem dX7_weight_44 : decode cX7_weight 44 = .ok (.putfield 124, 3) := by decide +kernel
theorem dX7_weight_47 : decode cX7_weight 47 = .ok (.aload_n 0, 1) := by decide +kernel
theorem dX7_weight_48 : decode cX7_weight 48 = .ok (.iload_n 3, 1) := by decide +kernel
theorem dX7_weight_49 : decode cX7_weight 49 = .ok (.putfield 127, 3) := by decide +kernel
theorem dX7_weight_52 : decode cX7_weight 52 = .ok (.iconst 1, 1) := by decide +kernel
theorem dX7_weight_53 : decode cX7_weight 53 = .ok (.ireturn, 1) := by decide +kernel
set_option maxRecDepth 20000 in
theorem ggX7_push_X7_in : GoodIn wsX7_push wsX7_in := goodIn_r _ [8] (by decide +kernel) (by decide +kernel)
set_option maxRecDepth 20000 in
theorem gX7_push_X7_in : GoodIn wsX7_push (va_wsS RX7 38 yX7_in wsX7_in) := goodIn_app (goodIn_of _ (by decide +kernel)) ggX7_push_X7_in
theorem dX7_push_0 : decode cX7_push 0 = .ok (.iload_n 1, 1) := by decide +kernel
theorem dX7_push_1 : decode cX7_push 1 = .ok (.ldc 130, 2) := by decide +kernel
theorem dX7_push_3 : decode cX7_push 3 = .ok (.ldc 119, 2) := by decide +kernel
theorem dX7_push_5 : decode cX7_push 5 = .ok (.invokestatic 38, 3) := by decide +kernel
theorem dX7_push_8 : decode cX7_push 8 = .ok (.ifCond .eq 14, 3) := by decide +kernel
theorem dX7_push_11 : decode cX7_push 11 = .ok (.iload_n 2, 1) := by decide +kernel
theorem dX7_push_12 : decode cX7_push 12 = .ok (.iconst 0, 1) := by decide +kernel
theorem dX7_push_13 : decode cX7_push 13 = .ok (.sipush 1000, 3) := by decide +kernel
theorem dX7_push_16 : decode cX7_push 16 = .ok (.invokestatic 38, 3) := by decide +kernel
theorem dX7_push_19 : decode cX7_push 19 = .ok (.ifCond .ne 6, 3) := by decide +kernel
theorem dX7_push_22 : decode cX7_push 22 = .ok (.bipush (-2), 2) := by decide +kernel
theorem dX7_push_24 : decode cX7_push 24 = .ok (.ireturn, 1) := by decide +kernel
theorem dX7_push_25 : decode cX7_push 25 = .ok (.aload_n 0, 1) := by decide +kernel
theorem dX7_push_26 : decode cX7_push 26 = .ok (.iload_n 1, 1) := by decide +kernel
theorem dX7_push_27 : decode cX7_push 27 = .ok (.putfield 131, 3) := by decide +kernel
theorem dX7_push_30 : decode cX7_push 30 = .ok (.aload_n 0, 1) := by decide +kernel
theorem dX7_push_31 : decode cX7_push 31 = .ok (.iload_n 2, 1) := by decide +kernel
theorem dX7_push_32 : decode cX7_push 32 = .ok (.putfield 134, 3) := by decide +kernel
theorem dX7_push_35 : decode cX7_push 35 = .ok (.iconst 1, 1) := by decide +kernel
theorem dX7_push_36 : decode cX7_push 36 = .ok (.ireturn, 1) := by decide +kernel
set_option maxRecDepth 20000 in
theorem ggX7_carries_X7_in : GoodIn wsX7_carries wsX7_in := goodIn_r _ [10] (by decide +kernel) (by decide +kernel)
set_option maxRecDepth 20000 in
theorem gX7_carries_X7_in : GoodIn wsX7_carries (va_wsS RX7 38 yX7_in wsX7_in) := goodIn_app (goodIn_of _ (by decide +kernel)) ggX7_carries_X7_in
theorem dX7_carries_0 : decode cX7_carries 0 = .ok (.iload_n 1, 1) := by decide +kernel
theorem dX7_carries_1 : decode cX7_carries 1 = .ok (.iconst 0, 1) := by decide +kernel
theorem dX7_carries_2 : decode cX7_carries 2 = .ok (.iconst 3, 1) := by decide +kernel
theorem dX7_carries_3 : decode cX7_carries 3 = .ok (.invokestatic 38, 3) := by decide +kernel
theorem dX7_carries_6 : decode cX7_carries 6 = .ok (.ifCond .ne 6, 3) := by decide +kernel
theorem dX7_carries_9 : decode cX7_carries 9 = .ok (.ldc 136, 2) := by decide +kernel
theorem dX7_carries_11 : decode cX7_carries 11 = .ok (.ireturn, 1) := by decide +kernel
theorem dX7_carries_12 : decode cX7_carries 12 = .ok (.aload_n 0, 1) := by decide +kernel
theorem dX7_carries_13 : decode cX7_carries 13 = .ok (.getfield 120, 3) := by decide +kernel
theorem dX7_carries_16 : decode cX7_carries 16 = .ok (.aload_n 0, 1) := by decide +kernel
theorem dX7_carries_17 : decode cX7_carries 17 = .ok (.getfield 124, 3) := by decide +kernel
theorem dX7_carries_20 : decode cX7_carries 20 = .ok (.imul, 1) := by decide +kernel
theorem dX7_carries_21 : decode cX7_carries 21 = .ok (.sipush 1000, 3) := by decide +kernel
theorem dX7_carries_24 : decode cX7_carries 24 = .ok (.idiv, 1) := by decide +kernel
theorem dX7_carries_25 : decode cX7_carries 25 = .ok (.istore_n 2, 1) := by decide +kernel
theorem dX7_carries_26 : decode cX7_carries 26 = .ok (.iload_n 1, 1) := by decide +kernel
theorem dX7_carries_27 : decode cX7_carries 27 = .ok (.iconst 2, 1) := by decide +kernel
theorem dX7_carries_28 : decode cX7_carries 28 = .ok (.if_icmp .ge 12, 3) := by decide +kernel
theorem dX7_carries_31 : decode cX7_carries 31 = .ok (.aload_n 0, 1) := by decide +kernel
theorem dX7_carries_32 : decode cX7_carries 32 = .ok (.getfield 120, 3) := by decide +kernel
theorem dX7_carries_35 : decode cX7_carries 35 = .ok (.iload_n 2, 1) := by decide +kernel
theorem dX7_carries_36 : decode cX7_carries 36 = .ok (.isub, 1) := by decide +kernel
theorem dX7_carries_37 : decode cX7_carries 37 = .ok (.goto 4, 3) := by decide +kernel
theorem dX7_carries_40 : decode cX7_carries 40 = .ok (.iload_n 2, 1) := by decide +kernel
theorem dX7_carries_41 : decode cX7_carries 41 = .ok (.istore_n 3, 1) := by decide +kernel
theorem dX7_carries_42 : decode cX7_carries 42 = .ok (.aload_n 0, 1) := by decide +kernel
theorem dX7_carries_43 : decode cX7_carries 43 = .ok (.getfield 131, 3) := by decide +kernel
theorem dX7_carries_46 : decode cX7_carries 46 = .ok (.aload_n 0, 1) := by decide +kernel
theorem dX7_carries_47 : decode cX7_carries 47 = .ok (.getfield 134, 3) := by decide +kernel
theorem dX7_carries_50 : decode cX7_carries 50 = .ok (.imul, 1) := by decide +kernel
theorem dX7_carries_51 : decode cX7_carries 51 = .ok (.sipush 1000, 3) := by decide +kernel
theorem dX7_carries_54 : decode cX7_carries 54 = .ok (.idiv, 1) := by decide +kernel
theorem dX7_carries_55 : decode cX7_carries 55 = .ok (.istore 4, 2) := by decide +kernel
theorem dX7_carries_57 : decode cX7_carries 57 = .ok (.iload_n 3, 1) := by decide +kernel
theorem dX7_carries_58 : decode cX7_carries 58 = .ok (.sipush 500, 3) := by decide +kernel
theorem dX7_carries_61 : decode cX7_carries 61 = .ok (.aload_n 0, 1) := by decide +kernel
theorem dX7_carries_62 : decode cX7_carries 62 = .ok (.getfield 127, 3) := by decide +kernel
theorem dX7_carries_65 : decode cX7_carries 65 = .ok (.iadd, 1) := by decide +kernel
theorem dX7_carries_66 : decode cX7_carries 66 = .ok (.imul, 1) := by decide +kernel
theorem dX7_carries_67 : decode cX7_carries 67 = .ok (.sipush 1000, 3) := by decide +kernel
theorem dX7_carries_70 : decode cX7_carries 70 = .ok (.idiv, 1) := by decide +kernel
theorem dX7_carries_71 : decode cX7_carries 71 = .ok (.iload_n 1, 1) := by decide +kernel
theorem dX7_carries_72 : decode cX7_carries 72 = .ok (.iconst 2, 1) := by decide +kernel
theorem dX7_carries_73 : decode cX7_carries 73 = .ok (.if_icmp .ge 8, 3) := by decide +kernel
theorem dX7_carries_76 : decode cX7_carries 76 = .ok (.iload 4, 2) := by decide +kernel
theorem dX7_carries_78 : decode cX7_carries 78 = .ok (.goto 10, 3) := by decide +kernel
theorem dX7_carries_81 : decode cX7_carries 81 = .ok (.aload_n 0, 1) := by decide +kernel
theorem dX7_carries_82 : decode cX7_carries 82 = .ok (.getfield 131, 3) := by decide +kernel
theorem dX7_carries_85 : decode cX7_carries 85 = .ok (.iload 4, 2) := by decide +kernel
theorem dX7_carries_87 : decode cX7_carries 87 = .ok (.isub, 1) := by decide +kernel
theorem dX7_carries_88 : decode cX7_carries 88 = .ok (.iadd, 1) := by decide +kernel
theorem dX7_carries_89 : decode cX7_carries 89 = .ok (.istore 5, 2) := by decide +kernel
theorem dX7_carries_91 : decode cX7_carries 91 = .ok (.iload_n 1, 1) := by decide +kernel
theorem dX7_carries_92 : decode cX7_carries 92 = .ok (.iconst 2, 1) := by decide +kernel
theorem dX7_carries_93 : decode cX7_carries 93 = .ok (.irem, 1) := by decide +kernel
theorem dX7_carries_94 : decode cX7_carries 94 = .ok (.iconst 1, 1) := by decide +kernel
theorem dX7_carries_95 : decode cX7_carries 95 = .ok (.if_icmp .ne 8, 3) := by decide +kernel
theorem dX7_carries_98 : decode cX7_carries 98 = .ok (.iload 5, 2) := by decide +kernel
theorem dX7_carries_100 : decode cX7_carries 100 = .ok (.goto 7, 3) := by decide +kernel
theorem dX7_carries_103 : decode cX7_carries 103 = .ok (.iload_n 3, 1) := by decide +kernel
theorem dX7_carries_104 : decode cX7_carries 104 = .ok (.iload 5, 2) := by decide +kernel
theorem dX7_carries_106 : decode cX7_carries 106 = .ok (.isub, 1) := by decide +kernel
theorem dX7_carries_107 : decode cX7_carries 107 = .ok (.ireturn, 1) := by decide +kernel
set_option maxRecDepth 20000 in
theorem ggX7_shim_X7_in : GoodIn wsX7_shim wsX7_in := goodIn_r _ [6] (by decide +kernel) (by decide +kernel)
set_option maxRecDepth 20000 in
theorem gX7_shim_X7_in : GoodIn wsX7_shim (va_wsS RX7 38 yX7_in wsX7_in) := goodIn_app (goodIn_of _ (by decide +kernel)) ggX7_shim_X7_in
theorem dX7_shim_0 : decode cX7_shim 0 = .ok (.iload_n 1, 1) := by decide +kernel
theorem dX7_shim_1 : decode cX7_shim 1 = .ok (.iconst 1, 1) := by decide +kernel
theorem dX7_shim_2 : decode cX7_shim 2 = .ok (.sipush 500, 3) := by decide +kernel
theorem dX7_shim_5 : decode cX7_shim 5 = .ok (.invokestatic 38, 3) := by decide +kernel
theorem dX7_shim_8 : decode cX7_shim 8 = .ok (.ifCond .ne 6, 3) := by decide +kernel
theorem dX7_shim_11 : decode cX7_shim 11 = .ok (.bipush (-2), 2) := by decide +kernel
theorem dX7_shim_13 : decode cX7_shim 13 = .ok (.ireturn, 1) := by decide +kernel
theorem dX7_shim_14 : decode cX7_shim 14 = .ok (.aload_n 0, 1) := by decide +kernel
theorem dX7_shim_15 : decode cX7_shim 15 = .ok (.getfield 137, 3) := by decide +kernel
theorem dX7_shim_18 : decode cX7_shim 18 = .ok (.bipush 10, 2) := by decide +kernel
theorem dX7_shim_20 : decode cX7_shim 20 = .ok (.if_icmp .ne 6, 3) := by decide +kernel
theorem dX7_shim_23 : decode cX7_shim 23 = .ok (.bipush (-4), 2) := by decide +kernel
theorem dX7_shim_25 : decode cX7_shim 25 = .ok (.ireturn, 1) := by decide +kernel
theorem dX7_shim_26 : decode cX7_shim 26 = .ok (.aload_n 0, 1) := by decide +kernel
theorem dX7_shim_27 : decode cX7_shim 27 = .ok (.getfield 25, 3) := by decide +kernel
theorem dX7_shim_30 : decode cX7_shim 30 = .ok (.aload_n 0, 1) := by decide +kernel
theorem dX7_shim_31 : decode cX7_shim 31 = .ok (.getfield 137, 3) := by decide +kernel
theorem dX7_shim_34 : decode cX7_shim 34 = .ok (.iload_n 1, 1) := by decide +kernel
theorem dX7_shim_35 : decode cX7_shim 35 = .ok (.iastore, 1) := by decide +kernel
theorem dX7_shim_36 : decode cX7_shim 36 = .ok (.aload_n 0, 1) := by decide +kernel
theorem dX7_shim_37 : decode cX7_shim 37 = .ok (.dup, 1) := by decide +kernel
theorem dX7_shim_38 : decode cX7_shim 38 = .ok (.getfield 137, 3) := by decide +kernel
theorem dX7_shim_41 : decode cX7_shim 41 = .ok (.iconst 1, 1) := by decide +kernel
theorem dX7_shim_42 : decode cX7_shim 42 = .ok (.iadd, 1) := by decide +kernel
theorem dX7_shim_43 : decode cX7_shim 43 = .ok (.putfield 137, 3) := by decide +kernel
theorem dX7_shim_46 : decode cX7_shim 46 = .ok (.aload_n 0, 1) := by decide +kernel
theorem dX7_shim_47 : decode cX7_shim 47 = .ok (.getfield 137, 3) := by decide +kernel
theorem dX7_shim_50 : decode cX7_shim 50 = .ok (.iconst 1, 1) := by decide +kernel
theorem dX7_shim_51 : decode cX7_shim 51 = .ok (.isub, 1) := by decide +kernel
theorem dX7_shim_52 : decode cX7_shim 52 = .ok (.ireturn, 1) := by decide +kernel
set_option maxRecDepth 20000 in
theorem ggX7_best_X7_in : GoodIn wsX7_best wsX7_in := goodIn_r _ [6] (by decide +kernel) (by decide +kernel)
set_option maxRecDepth 20000 in
theorem gX7_best_X7_in : GoodIn wsX7_best (va_wsS RX7 38 yX7_in wsX7_in) := goodIn_app (goodIn_of _ (by decide +kernel)) ggX7_best_X7_in
theorem dX7_best_0 : decode cX7_best 0 = .ok (.iload_n 1, 1) := by decide +kernel
theorem dX7_best_1 : decode cX7_best 1 = .ok (.iconst 0, 1) := by decide +kernel
theorem dX7_best_2 : decode cX7_best 2 = .ok (.sipush 2000, 3) := by decide +kernel
theorem dX7_best_5 : decode cX7_best 5 = .ok (.invokestatic 38, 3) := by decide +kernel
theorem dX7_best_8 : decode cX7_best 8 = .ok (.ifCond .eq 12, 3) := by decide +kernel
theorem dX7_best_11 : decode cX7_best 11 = .ok (.iload_n 2, 1) := by decide +kernel
theorem dX7_best_12 : decode cX7_best 12 = .ok (.iconst 0, 1) := by decide +kernel
theorem dX7_best_13 : decode cX7_best 13 = .ok (.iconst 3, 1) := by decide +kernel
theorem dX7_best_14 : decode cX7_best 14 = .ok (.invokestatic 38, 3) := by decide +kernel
theorem dX7_best_17 : decode cX7_best 17 = .ok (.ifCond .ne 6, 3) := by decide +kernel
theorem dX7_best_20 : decode cX7_best 20 = .ok (.bipush (-2), 2) := by decide +kernel
theorem dX7_best_22 : decode cX7_best 22 = .ok (.ireturn, 1) := by decide +kernel
theorem dX7_best_23 : decode cX7_best 23 = .ok (.iconst 0, 1) := by decide +kernel
theorem dX7_best_24 : decode cX7_best 24 = .ok (.istore_n 3, 1) := by decide +kernel
theorem dX7_best_25 : decode cX7_best 25 = .ok (.iload_n 1, 1) := by decide +kernel
theorem dX7_best_26 : decode cX7_best 26 = .ok (.istore 4, 2) := by decide +kernel
theorem dX7_best_28 : decode cX7_best 28 = .ok (.iconst 0, 1) := by decide +kernel
theorem dX7_best_29 : decode cX7_best 29 = .ok (.istore 5, 2) := by decide +kernel
theorem dX7_best_31 : decode cX7_best 31 = .ok (.iconst 1, 1) := by decide +kernel
theorem dX7_best_32 : decode cX7_best 32 = .ok (.istore 6, 2) := by decide +kernel
theorem dX7_best_34 : decode cX7_best 34 = .ok (.iload 6, 2) := by decide +kernel
theorem dX7_best_36 : decode cX7_best 36 = .ok (.iconst 1, 1) := by decide +kernel
theorem dX7_best_37 : decode cX7_best 37 = .ok (.aload_n 0, 1) := by decide +kernel
theorem dX7_best_38 : decode cX7_best 38 = .ok (.getfield 137, 3) := by decide +kernel
theorem dX7_best_41 : decode cX7_best 41 = .ok (.ishl, 1) := by decide +kernel
theorem dX7_best_42 : decode cX7_best 42 = .ok (.if_icmp .ge 129, 3) := by decide +kernel
theorem dX7_best_45 : decode cX7_best 45 = .ok (.iconst 0, 1) := by decide +kernel
theorem dX7_best_46 : decode cX7_best 46 = .ok (.istore 7, 2) := by decide +kernel
theorem dX7_best_48 : decode cX7_best 48 = .ok (.iconst 0, 1) := by decide +kernel
theorem dX7_best_49 : decode cX7_best 49 = .ok (.istore 8, 2) := by decide +kernel
theorem dX7_best_51 : decode cX7_best 51 = .ok (.iconst 0, 1) := by decide +kernel
theorem dX7_best_52 : decode cX7_best 52 = .ok (.istore 9, 2) := by decide +kernel
theorem dX7_best_54 : decode cX7_best 54 = .ok (.iload 9, 2) := by decide +kernel
theorem dX7_best_56 : decode cX7_best 56 = .ok (.aload_n 0, 1) := by decide +kernel
theorem dX7_best_57 : decode cX7_best 57 = .ok (.getfield 137, 3) := by decide +kernel
theorem dX7_best_60 : decode cX7_best 60 = .ok (.if_icmp .ge 48, 3) := by decide +kernel
theorem dX7_best_63 : decode cX7_best 63 = .ok (.iload 7, 2) := by decide +kernel
theorem dX7_best_65 : decode cX7_best 65 = .ok (.iload 6, 2) := by decide +kernel
theorem dX7_best_67 : decode cX7_best 67 = .ok (.iload 9, 2) := by decide +kernel
theorem dX7_best_69 : decode cX7_best 69 = .ok (.ishr, 1) := by decide +kernel
theorem dX7_best_70 : decode cX7_best 70 = .ok (.iconst 1, 1) := by decide +kernel
theorem dX7_best_71 : decode cX7_best 71 = .ok (.iand, 1) := by decide +kernel
theorem dX7_best_72 : decode cX7_best 72 = .ok (.iconst 1, 1) := by decide +kernel
theorem dX7_best_73 : decode cX7_best 73 = .ok (.if_icmp .ne 13, 3) := by decide +kernel
theorem dX7_best_76 : decode cX7_best 76 = .ok (.aload_n 0, 1) := by decide +kernel
theorem dX7_best_77 : decode cX7_best 77 = .ok (.getfield 25, 3) := by decide +kernel
theorem dX7_best_80 : decode cX7_best 80 = .ok (.iload 9, 2) := by decide +kernel
theorem dX7_best_82 : decode cX7_best 82 = .ok (.iaload, 1) := by decide +kernel
theorem dX7_best_83 : decode cX7_best 83 = .ok (.goto 4, 3) := by decide +kernel
theorem dX7_best_86 : decode cX7_best 86 = .ok (.iconst 0, 1) := by decide +kernel
theorem dX7_best_87 : decode cX7_best 87 = .ok (.iadd, 1) := by decide +kernel
theorem dX7_best_88 : decode cX7_best 88 = .ok (.istore 7, 2) := by decide +kernel
theorem dX7_best_90 : decode cX7_best 90 = .ok (.iload 8, 2) := by decide +kernel
theorem dX7_best_92 : decode cX7_best 92 = .ok (.iload 6, 2) := by decide +kernel
theorem dX7_best_94 : decode cX7_best 94 = .ok (.iload 9, 2) := by decide +kernel
theorem dX7_best_96 : decode cX7_best 96 = .ok (.ishr, 1) := by decide +kernel
theorem dX7_best_97 : decode cX7_best 97 = .ok (.iconst 1, 1) := by decide +kernel
theorem dX7_best_98 : decode cX7_best 98 = .ok (.iand, 1) := by decide +kernel
theorem dX7_best_99 : decode cX7_best 99 = .ok (.iadd, 1) := by decide +kernel
theorem dX7_best_100 : decode cX7_best 100 = .ok (.istore 8, 2) := by decide +kernel
theorem dX7_best_102 : decode cX7_best 102 = .ok (.iinc 9 1, 3) := by decide +kernel
theorem dX7_best_105 : decode cX7_best 105 = .ok (.goto (-51), 3) := by decide +kernel
theorem dX7_best_108 : decode cX7_best 108 = .ok (.iload 7, 2) := by decide +kernel
theorem dX7_best_110 : decode cX7_best 110 = .ok (.iload_n 1, 1) := by decide +kernel
theorem dX7_best_111 : decode cX7_best 111 = .ok (.if_icmp .le 10, 3) := by decide +kernel
theorem dX7_best_114 : decode cX7_best 114 = .ok (.iload 7, 2) := by decide +kernel
theorem dX7_best_116 : decode cX7_best 116 = .ok (.iload_n 1, 1) := by decide +kernel
theorem dX7_best_117 : decode cX7_best 117 = .ok (.isub, 1) := by decide +kernel
theorem dX7_best_118 : decode cX7_best 118 = .ok (.goto 7, 3) := by decide +kernel
theorem dX7_best_121 : decode cX7_best 121 = .ok (.iload_n 1, 1) := by decide +kernel
theorem dX7_best_122 : decode cX7_best 122 = .ok (.iload 7, 2) := by decide +kernel
theorem dX7_best_124 : decode cX7_best 124 = .ok (.isub, 1) := by decide +kernel
theorem dX7_best_125 : decode cX7_best 125 = .ok (.istore 9, 2) := by decide +kernel
theorem dX7_best_127 : decode cX7_best 127 = .ok (.iload 8, 2) := by decide +kernel
theorem dX7_best_129 : decode cX7_best 129 = .ok (.iload_n 2, 1) := by decide +kernel
theorem dX7_best_130 : decode cX7_best 130 = .ok (.if_icmp .gt 35, 3) := by decide +kernel
theorem dX7_best_133 : decode cX7_best 133 = .ok (.iload 9, 2) := by decide +kernel
theorem dX7_best_135 : decode cX7_best 135 = .ok (.iload 4, 2) := by decide +kernel
theorem dX7_best_137 : decode cX7_best 137 = .ok (.if_icmp .lt 17, 3) := by decide +kernel
theorem dX7_best_140 : decode cX7_best 140 = .ok (.iload 9, 2) := by decide +kernel
theorem dX7_best_142 : decode cX7_best 142 = .ok (.iload 4, 2) := by decide +kernel
theorem dX7_best_144 : decode cX7_best 144 = .ok (.if_icmp .ne 21, 3) := by decide +kernel
theorem dX7_best_147 : decode cX7_best 147 = .ok (.iload 8, 2) := by decide +kernel
theorem dX7_best_149 : decode cX7_best 149 = .ok (.iload 5, 2) := by decide +kernel
theorem dX7_best_151 : decode cX7_best 151 = .ok (.if_icmp .ge 14, 3) := by decide +kernel
theorem dX7_best_154 : decode cX7_best 154 = .ok (.iload 6, 2) := by decide +kernel
theorem dX7_best_156 : decode cX7_best 156 = .ok (.istore_n 3, 1) := by decide +kernel
theorem dX7_best_157 : decode cX7_best 157 = .ok (.iload 9, 2) := by decide +kernel
theorem dX7_best_159 : decode cX7_best 159 = .ok (.istore 4, 2) := by decide +kernel
theorem dX7_best_161 : decode cX7_best 161 = .ok (.iload 8, 2) := by decide +kernel
theorem dX7_best_163 : decode cX7_best 163 = .ok (.istore 5, 2) := by decide +kernel
theorem dX7_best_165 : decode cX7_best 165 = .ok (.iinc 6 1, 3) := by decide +kernel
theorem dX7_best_168 : decode cX7_best 168 = .ok (.goto (-134), 3) := by decide +kernel
theorem dX7_best_171 : decode cX7_best 171 = .ok (.iload_n 3, 1) := by decide +kernel
theorem dX7_best_172 : decode cX7_best 172 = .ok (.ireturn, 1) := by decide +kernel
set_option maxRecDepth 20000 in
theorem ggX7_reading_X7_isAt : GoodIn wsX7_reading wsX7_isAt := goodIn_r _ [7, 8, 9, 6, 10] (by decide +kernel) (by decide +kernel)
set_option maxRecDepth 20000 in
theorem gX7_reading_X7_isAt : GoodIn wsX7_reading (va_wsS RX7 46 yX7_isAt wsX7_isAt) := goodIn_app (goodIn_of _ (by decide +kernel)) ggX7_reading_X7_isAt
set_option maxRecDepth 20000 in
theorem ggX7_reading_X7_in : GoodIn wsX7_reading wsX7_in := goodIn_r _ [10] (by decide +kernel) (by decide +kernel)
set_option maxRecDepth 20000 in
theorem gX7_reading_X7_in : GoodIn wsX7_reading (va_wsS RX7 38 yX7_in wsX7_in) := goodIn_app (goodIn_of _ (by decide +kernel)) ggX7_reading_X7_in
theorem dX7_reading_0 : decode cX7_reading 0 = .ok (.iload_n 1, 1) := by decide +kernel
theorem dX7_reading_1 : decode cX7_reading 1 = .ok (.invokestatic 46, 3) := by decide +kernel
theorem dX7_reading_4 : decode cX7_reading 4 = .ok (.ifCond .eq 16, 3) := by decide +kernel
theorem dX7_reading_7 : decode cX7_reading 7 = .ok (.iload_n 2, 1) := by decide +kernel
theorem dX7_reading_8 : decode cX7_reading 8 = .ok (.sipush (-5000), 3) := by decide +kernel
theorem dX7_reading_11 : decode cX7_reading 11 = .ok (.sipush 5000, 3) := by decide +kernel
theorem dX7_reading_14 : decode cX7_reading 14 = .ok (.invokestatic 38, 3) := by decide +kernel
theorem dX7_reading_17 : decode cX7_reading 17 = .ok (.ifCond .ne 6, 3) := by decide +kernel
theorem dX7_reading_20 : decode cX7_reading 20 = .ok (.bipush (-2), 2) := by decide +kernel
theorem dX7_reading_22 : decode cX7_reading 22 = .ok (.ireturn, 1) := by decide +kernel
theorem dX7_reading_23 : decode cX7_reading 23 = .ok (.aload_n 0, 1) := by decide +kernel
theorem dX7_reading_24 : decode cX7_reading 24 = .ok (.getfield 140, 3) := by decide +kernel
theorem dX7_reading_27 : decode cX7_reading 27 = .ok (.bipush 12, 2) := by decide +kernel
theorem dX7_reading_29 : decode cX7_reading 29 = .ok (.if_icmp .ne 6, 3) := by decide +kernel
theorem dX7_reading_32 : decode cX7_reading 32 = .ok (.bipush (-4), 2) := by decide +kernel
theorem dX7_reading_34 : decode cX7_reading 34 = .ok (.ireturn, 1) := by decide +kernel
theorem dX7_reading_35 : decode cX7_reading 35 = .ok (.aload_n 0, 1) := by decide +kernel
theorem dX7_reading_36 : decode cX7_reading 36 = .ok (.getfield 28, 3) := by decide +kernel
theorem dX7_reading_39 : decode cX7_reading 39 = .ok (.aload_n 0, 1) := by decide +kernel
theorem dX7_reading_40 : decode cX7_reading 40 = .ok (.getfield 140, 3) := by decide +kernel
theorem dX7_reading_43 : decode cX7_reading 43 = .ok (.iload_n 1, 1) := by decide +kernel
theorem dX7_reading_44 : decode cX7_reading 44 = .ok (.iastore, 1) := by decide +kernel
theorem dX7_reading_45 : decode cX7_reading 45 = .ok (.aload_n 0, 1) := by decide +kernel
theorem dX7_reading_46 : decode cX7_reading 46 = .ok (.getfield 31, 3) := by decide +kernel
theorem dX7_reading_49 : decode cX7_reading 49 = .ok (.aload_n 0, 1) := by decide +kernel
theorem dX7_reading_50 : decode cX7_reading 50 = .ok (.getfield 140, 3) := by decide +kernel
theorem dX7_reading_53 : decode cX7_reading 53 = .ok (.iload_n 2, 1) := by decide +kernel
theorem dX7_reading_54 : decode cX7_reading 54 = .ok (.iastore, 1) := by decide +kernel
theorem dX7_reading_55 : decode cX7_reading 55 = .ok (.aload_n 0, 1) := by decide +kernel
theorem dX7_reading_56 : decode cX7_reading 56 = .ok (.dup, 1) := by decide +kernel
theorem dX7_reading_57 : decode cX7_reading 57 = .ok (.getfield 140, 3) := by decide +kernel
theorem dX7_reading_60 : decode cX7_reading 60 = .ok (.iconst 1, 1) := by decide +kernel
theorem dX7_reading_61 : decode cX7_reading 61 = .ok (.iadd, 1) := by decide +kernel
theorem dX7_reading_62 : decode cX7_reading 62 = .ok (.putfield 140, 3) := by decide +kernel
end
section
theorem dX7_reading_65 : decode cX7_reading 65 = .ok (.aload_n 0, 1) := by decide +kernel
theorem dX7_reading_66 : decode cX7_reading 66 = .ok (.getfield 140, 3) := by decide +kernel
theorem dX7_reading_69 : decode cX7_reading 69 = .ok (.iconst 1, 1) := by decide +kernel
theorem dX7_reading_70 : decode cX7_reading 70 = .ok (.isub, 1) := by decide +kernel
theorem dX7_reading_71 : decode cX7_reading 71 = .ok (.ireturn, 1) := by decide +kernel
theorem dX7_clear_0 : decode cX7_clear 0 = .ok (.aload_n 0, 1) := by decide +kernel
theorem dX7_clear_1 : decode cX7_clear 1 = .ok (.getfield 140, 3) := by decide +kernel
theorem dX7_clear_4 : decode cX7_clear 4 = .ok (.istore_n 1, 1) := by decide +kernel
theorem dX7_clear_5 : decode cX7_clear 5 = .ok (.aload_n 0, 1) := by decide +kernel
theorem dX7_clear_6 : decode cX7_clear 6 = .ok (.iconst 0, 1) := by decide +kernel
theorem dX7_clear_7 : decode cX7_clear 7 = .ok (.putfield 140, 3) := by decide +kernel
theorem dX7_clear_10 : decode cX7_clear 10 = .ok (.iload_n 1, 1) := by decide +kernel
theorem dX7_clear_11 : decode cX7_clear 11 = .ok (.ireturn, 1) := by decide +kernel
set_option maxRecDepth 20000 in
theorem ggX7_isOff_X7_poses : GoodIn wsX7_isOff wsX7_poses := goodIn_r _ [12, 13, 14, 15, 16, 17, 18, 6, 4, 19, 20, 11, 21, 22, 23, 24, 25, 26, 27, 28, 29, 30, 31, 32, 33, 34, 35, 36, 37, 38, 39, 40, 41, 42, 43, 44, 45, 46] (by decide +kernel) (by decide +kernel)
set_option maxRecDepth 20000 in
theorem gX7_isOff_X7_poses : GoodIn wsX7_isOff (wsV RX7 89 RX7 yX7_poses wsX7_poses) := goodIn_app (goodIn_of _ (by decide +kernel)) ggX7_isOff_X7_poses
theorem dX7_isOff_0 : decode cX7_isOff 0 = .ok (.aload_n 0, 1) := by decide +kernel
theorem dX7_isOff_1 : decode cX7_isOff 1 = .ok (.dconst 0, 1) := by decide +kernel
theorem dX7_isOff_2 : decode cX7_isOff 2 = .ok (.putfield 143, 3) := by decide +kernel
theorem dX7_isOff_5 : decode cX7_isOff 5 = .ok (.iconst 0, 1) := by decide +kernel
theorem dX7_isOff_6 : decode cX7_isOff 6 = .ok (.istore_n 2, 1) := by decide +kernel
theorem dX7_isOff_7 : decode cX7_isOff 7 = .ok (.iload_n 2, 1) := by decide +kernel
theorem dX7_isOff_8 : decode cX7_isOff 8 = .ok (.aload_n 0, 1) := by decide +kernel
theorem dX7_isOff_9 : decode cX7_isOff 9 = .ok (.getfield 140, 3) := by decide +kernel
theorem dX7_isOff_12 : decode cX7_isOff 12 = .ok (.if_icmp .ge 68, 3) := by decide +kernel
theorem dX7_isOff_15 : decode cX7_isOff 15 = .ok (.aload_n 0, 1) := by decide +kernel
theorem dX7_isOff_16 : decode cX7_isOff 16 = .ok (.iload_n 1, 1) := by decide +kernel
theorem dX7_isOff_17 : decode cX7_isOff 17 = .ok (.aload_n 0, 1) := by decide +kernel
theorem dX7_isOff_18 : decode cX7_isOff 18 = .ok (.getfield 28, 3) := by decide +kernel
theorem dX7_isOff_21 : decode cX7_isOff 21 = .ok (.iload_n 2, 1) := by decide +kernel
theorem dX7_isOff_22 : decode cX7_isOff 22 = .ok (.iaload, 1) := by decide +kernel
theorem dX7_isOff_23 : decode cX7_isOff 23 = .ok (.invokevirtual 89, 3) := by decide +kernel
theorem dX7_isOff_26 : decode cX7_isOff 26 = .ok (.ifCond .eq 12, 3) := by decide +kernel
theorem dX7_isOff_29 : decode cX7_isOff 29 = .ok (.aload_n 0, 1) := by decide +kernel
theorem dX7_isOff_30 : decode cX7_isOff 30 = .ok (.getfield 72, 3) := by decide +kernel
theorem dX7_isOff_33 : decode cX7_isOff 33 = .ok (.dconst 0, 1) := by decide +kernel
theorem dX7_isOff_34 : decode cX7_isOff 34 = .ok (.dcmp .l, 1) := by decide +kernel
theorem dX7_isOff_35 : decode cX7_isOff 35 = .ok (.ifCond .ne 5, 3) := by decide +kernel
theorem dX7_isOff_38 : decode cX7_isOff 38 = .ok (.iconst 0, 1) := by decide +kernel
theorem dX7_isOff_39 : decode cX7_isOff 39 = .ok (.ireturn, 1) := by decide +kernel
theorem dX7_isOff_40 : decode cX7_isOff 40 = .ok (.ldc2_w 87, 3) := by decide +kernel
theorem dX7_isOff_43 : decode cX7_isOff 43 = .ok (.aload_n 0, 1) := by decide +kernel
theorem dX7_isOff_44 : decode cX7_isOff 44 = .ok (.getfield 69, 3) := by decide +kernel
theorem dX7_isOff_47 : decode cX7_isOff 47 = .ok (.aload_n 0, 1) := by decide +kernel
theorem dX7_isOff_48 : decode cX7_isOff 48 = .ok (.getfield 72, 3) := by decide +kernel
theorem dX7_isOff_51 : decode cX7_isOff 51 = .ok (.ddiv, 1) := by decide +kernel
theorem dX7_isOff_52 : decode cX7_isOff 52 = .ok (.dmul, 1) := by decide +kernel
theorem dX7_isOff_53 : decode cX7_isOff 53 = .ok (.aload_n 0, 1) := by decide +kernel
theorem dX7_isOff_54 : decode cX7_isOff 54 = .ok (.getfield 31, 3) := by decide +kernel
theorem dX7_isOff_57 : decode cX7_isOff 57 = .ok (.iload_n 2, 1) := by decide +kernel
theorem dX7_isOff_58 : decode cX7_isOff 58 = .ok (.iaload, 1) := by decide +kernel
theorem dX7_isOff_59 : decode cX7_isOff 59 = .ok (.i2d, 1) := by decide +kernel
theorem dX7_isOff_60 : decode cX7_isOff 60 = .ok (.dsub, 1) := by decide +kernel
theorem dX7_isOff_61 : decode cX7_isOff 61 = .ok (.dstore_n 3, 1) := by decide +kernel
theorem dX7_isOff_62 : decode cX7_isOff 62 = .ok (.aload_n 0, 1) := by decide +kernel
theorem dX7_isOff_63 : decode cX7_isOff 63 = .ok (.aload_n 0, 1) := by decide +kernel
theorem dX7_isOff_64 : decode cX7_isOff 64 = .ok (.getfield 143, 3) := by decide +kernel
theorem dX7_isOff_67 : decode cX7_isOff 67 = .ok (.dload_n 3, 1) := by decide +kernel
theorem dX7_isOff_68 : decode cX7_isOff 68 = .ok (.dload_n 3, 1) := by decide +kernel
theorem dX7_isOff_69 : decode cX7_isOff 69 = .ok (.dmul, 1) := by decide +kernel
theorem dX7_isOff_70 : decode cX7_isOff 70 = .ok (.dadd, 1) := by decide +kernel
theorem dX7_isOff_71 : decode cX7_isOff 71 = .ok (.putfield 143, 3) := by decide +kernel
theorem dX7_isOff_74 : decode cX7_isOff 74 = .ok (.iinc 2 1, 3) := by decide +kernel
theorem dX7_isOff_77 : decode cX7_isOff 77 = .ok (.goto (-70), 3) := by decide +kernel
theorem dX7_isOff_80 : decode cX7_isOff 80 = .ok (.iconst 1, 1) := by decide +kernel
theorem dX7_isOff_81 : decode cX7_isOff 81 = .ok (.ireturn, 1) := by decide +kernel
set_option maxRecDepth 20000 in
theorem ggX7_off_X7_isHanging : GoodIn wsX7_off wsX7_isHanging := goodIn_r _ [7, 8, 9, 6, 10] (by decide +kernel) (by decide +kernel)
set_option maxRecDepth 20000 in
theorem gX7_off_X7_isHanging : GoodIn wsX7_off (va_wsS RX7 42 yX7_isHanging wsX7_isHanging) := goodIn_app (goodIn_of _ (by decide +kernel)) ggX7_off_X7_isHanging
set_option maxRecDepth 20000 in
theorem ggX7_off_X7_isOff : GoodIn wsX7_off wsX7_isOff := goodIn_r _ [14, 2, 15, 16, 17, 18, 19, 20, 21, 22, 23, 6, 24, 25, 26, 27, 28, 29, 30, 31, 32, 33, 34, 35, 36, 42, 43, 44, 45, 46, 47, 48, 49, 50, 51, 52, 53, 54, 55, 56, 57, 58, 59, 60, 61, 62, 63] (by decide +kernel) (by decide +kernel)
set_option maxRecDepth 20000 in
theorem gX7_off_X7_isOff : GoodIn wsX7_off (wsV RX7 146 RX7 yX7_isOff wsX7_isOff) := goodIn_app (goodIn_of _ (by decide +kernel)) ggX7_off_X7_isOff
set_option maxRecDepth 20000 in
theorem ggX7_off_X7_bitsOf : GoodIn wsX7_off wsX7_bitsOf := goodIn_r _ [39, 34, 28, 35, 40, 41] (by decide +kernel) (by decide +kernel)
set_option maxRecDepth 20000 in
theorem gX7_off_X7_bitsOf : GoodIn wsX7_off (va_wsS RX7 99 yX7_bitsOf wsX7_bitsOf) := goodIn_app (goodIn_of _ (by decide +kernel)) ggX7_off_X7_bitsOf
theorem dX7_off_0 : decode cX7_off 0 = .ok (.iload_n 1, 1) := by decide +kernel
theorem dX7_off_1 : decode cX7_off 1 = .ok (.invokestatic 42, 3) := by decide +kernel
theorem dX7_off_4 : decode cX7_off 4 = .ok (.ifCond .ne 9, 3) := by decide +kernel
theorem dX7_off_7 : decode cX7_off 7 = .ok (.ldc2_w 110, 3) := by decide +kernel
theorem dX7_off_10 : decode cX7_off 10 = .ok (.goto 24, 3) := by decide +kernel
theorem dX7_off_13 : decode cX7_off 13 = .ok (.aload_n 0, 1) := by decide +kernel
theorem dX7_off_14 : decode cX7_off 14 = .ok (.iload_n 1, 1) := by decide +kernel
theorem dX7_off_15 : decode cX7_off 15 = .ok (.invokevirtual 146, 3) := by decide +kernel
theorem dX7_off_18 : decode cX7_off 18 = .ok (.ifCond .eq 13, 3) := by decide +kernel
theorem dX7_off_21 : decode cX7_off 21 = .ok (.aload_n 0, 1) := by decide +kernel
theorem dX7_off_22 : decode cX7_off 22 = .ok (.getfield 143, 3) := by decide +kernel
theorem dX7_off_25 : decode cX7_off 25 = .ok (.invokestatic 99, 3) := by decide +kernel
theorem dX7_off_28 : decode cX7_off 28 = .ok (.goto 6, 3) := by decide +kernel
theorem dX7_off_31 : decode cX7_off 31 = .ok (.ldc2_w 93, 3) := by decide +kernel
theorem dX7_off_34 : decode cX7_off 34 = .ok (.lreturn, 1) := by decide +kernel
set_option maxRecDepth 20000 in
theorem ggX7_found_X7_isHanging : GoodIn wsX7_found wsX7_isHanging := goodIn_r _ [8, 9, 10, 7, 11] (by decide +kernel) (by decide +kernel)
set_option maxRecDepth 20000 in
theorem gX7_found_X7_isHanging : GoodIn wsX7_found (va_wsS RX7 42 yX7_isHanging wsX7_isHanging) := goodIn_app (goodIn_of _ (by decide +kernel)) ggX7_found_X7_isHanging
set_option maxRecDepth 20000 in
theorem ggX7_found_X7_in : GoodIn wsX7_found wsX7_in := goodIn_r _ [11] (by decide +kernel) (by decide +kernel)
set_option maxRecDepth 20000 in
theorem gX7_found_X7_in : GoodIn wsX7_found (va_wsS RX7 38 yX7_in wsX7_in) := goodIn_app (goodIn_of _ (by decide +kernel)) ggX7_found_X7_in
set_option maxRecDepth 20000 in
theorem ggX7_found_X7_isAt : GoodIn wsX7_found wsX7_isAt := goodIn_r _ [14, 9, 10, 7, 11] (by decide +kernel) (by decide +kernel)
set_option maxRecDepth 20000 in
theorem gX7_found_X7_isAt : GoodIn wsX7_found (va_wsS RX7 46 yX7_isAt wsX7_isAt) := goodIn_app (goodIn_of _ (by decide +kernel)) ggX7_found_X7_isAt
set_option maxRecDepth 20000 in
theorem ggX7_found_X7_isOff : GoodIn wsX7_found wsX7_isOff := goodIn_r _ [18, 3, 19, 20, 21, 22, 23, 24, 25, 26, 27, 7, 28, 2, 29, 30, 31, 32, 33, 34, 35, 36, 37, 38, 39, 45, 46, 47, 48, 49, 50, 51, 52, 53, 54, 55, 56, 57, 58, 59, 60, 61, 62, 63, 64, 65, 66] (by decide +kernel) (by decide +kernel)
set_option maxRecDepth 20000 in
theorem gX7_found_X7_isOff : GoodIn wsX7_found (wsV RX7 146 RX7 yX7_isOff wsX7_isOff) := goodIn_app (goodIn_of _ (by decide +kernel)) ggX7_found_X7_isOff
set_option maxRecDepth 20000 in
theorem ggX7_found_X7_bitsOf : GoodIn wsX7_found wsX7_bitsOf := goodIn_r _ [42, 37, 31, 38, 43, 44] (by decide +kernel) (by decide +kernel)
set_option maxRecDepth 20000 in
theorem gX7_found_X7_bitsOf : GoodIn wsX7_found (va_wsS RX7 99 yX7_bitsOf wsX7_bitsOf) := goodIn_app (goodIn_of _ (by decide +kernel)) ggX7_found_X7_bitsOf
theorem dX7_found_0 : decode cX7_found 0 = .ok (.iload_n 1, 1) := by decide +kernel
theorem dX7_found_1 : decode cX7_found 1 = .ok (.invokestatic 42, 3) := by decide +kernel
theorem dX7_found_4 : decode cX7_found 4 = .ok (.ifCond .eq 21, 3) := by decide +kernel
theorem dX7_found_7 : decode cX7_found 7 = .ok (.iload_n 2, 1) := by decide +kernel
theorem dX7_found_8 : decode cX7_found 8 = .ok (.iconst 0, 1) := by decide +kernel
theorem dX7_found_9 : decode cX7_found 9 = .ok (.iconst 3, 1) := by decide +kernel
theorem dX7_found_10 : decode cX7_found 10 = .ok (.invokestatic 38, 3) := by decide +kernel
theorem dX7_found_13 : decode cX7_found 13 = .ok (.ifCond .eq 12, 3) := by decide +kernel
theorem dX7_found_16 : decode cX7_found 16 = .ok (.iload_n 3, 1) := by decide +kernel
theorem dX7_found_17 : decode cX7_found 17 = .ok (.iconst 0, 1) := by decide +kernel
theorem dX7_found_18 : decode cX7_found 18 = .ok (.iconst 2, 1) := by decide +kernel
theorem dX7_found_19 : decode cX7_found 19 = .ok (.invokestatic 38, 3) := by decide +kernel
theorem dX7_found_22 : decode cX7_found 22 = .ok (.ifCond .ne 7, 3) := by decide +kernel
theorem dX7_found_25 : decode cX7_found 25 = .ok (.ldc2_w 110, 3) := by decide +kernel
theorem dX7_found_28 : decode cX7_found 28 = .ok (.lreturn, 1) := by decide +kernel
theorem dX7_found_29 : decode cX7_found 29 = .ok (.aload_n 0, 1) := by decide +kernel
theorem dX7_found_30 : decode cX7_found 30 = .ok (.getfield 19, 3) := by decide +kernel
theorem dX7_found_33 : decode cX7_found 33 = .ok (.bipush 13, 2) := by decide +kernel
theorem dX7_found_35 : decode cX7_found 35 = .ok (.iload_n 1, 1) := by decide +kernel
theorem dX7_found_36 : decode cX7_found 36 = .ok (.imul, 1) := by decide +kernel
theorem dX7_found_37 : decode cX7_found 37 = .ok (.iaload, 1) := by decide +kernel
theorem dX7_found_38 : decode cX7_found 38 = .ok (.istore 4, 2) := by decide +kernel
theorem dX7_found_40 : decode cX7_found 40 = .ok (.aload_n 0, 1) := by decide +kernel
theorem dX7_found_41 : decode cX7_found 41 = .ok (.getfield 19, 3) := by decide +kernel
theorem dX7_found_44 : decode cX7_found 44 = .ok (.bipush 13, 2) := by decide +kernel
theorem dX7_found_46 : decode cX7_found 46 = .ok (.iload_n 1, 1) := by decide +kernel
theorem dX7_found_47 : decode cX7_found 47 = .ok (.imul, 1) := by decide +kernel
theorem dX7_found_48 : decode cX7_found 48 = .ok (.iconst 1, 1) := by decide +kernel
theorem dX7_found_49 : decode cX7_found 49 = .ok (.iadd, 1) := by decide +kernel
theorem dX7_found_50 : decode cX7_found 50 = .ok (.iaload, 1) := by decide +kernel
theorem dX7_found_51 : decode cX7_found 51 = .ok (.istore 5, 2) := by decide +kernel
theorem dX7_found_53 : decode cX7_found 53 = .ok (.iconst 0, 1) := by decide +kernel
theorem dX7_found_54 : decode cX7_found 54 = .ok (.istore 6, 2) := by decide +kernel
theorem dX7_found_56 : decode cX7_found 56 = .ok (.dconst 0, 1) := by decide +kernel
theorem dX7_found_57 : decode cX7_found 57 = .ok (.dstore 7, 2) := by decide +kernel
theorem dX7_found_59 : decode cX7_found 59 = .ok (.iconst 0, 1) := by decide +kernel
theorem dX7_found_60 : decode cX7_found 60 = .ok (.istore 9, 2) := by decide +kernel
theorem dX7_found_62 : decode cX7_found 62 = .ok (.iconst 0, 1) := by decide +kernel
theorem dX7_found_63 : decode cX7_found 63 = .ok (.istore 10, 2) := by decide +kernel
theorem dX7_found_65 : decode cX7_found 65 = .ok (.iload_n 2, 1) := by decide +kernel
theorem dX7_found_66 : decode cX7_found 66 = .ok (.ineg, 1) := by decide +kernel
theorem dX7_found_67 : decode cX7_found 67 = .ok (.istore 11, 2) := by decide +kernel
theorem dX7_found_69 : decode cX7_found 69 = .ok (.iload 11, 2) := by decide +kernel
theorem dX7_found_71 : decode cX7_found 71 = .ok (.iload_n 2, 1) := by decide +kernel
theorem dX7_found_72 : decode cX7_found 72 = .ok (.if_icmp .gt 117, 3) := by decide +kernel
theorem dX7_found_75 : decode cX7_found 75 = .ok (.iload_n 2, 1) := by decide +kernel
theorem dX7_found_76 : decode cX7_found 76 = .ok (.ineg, 1) := by decide +kernel
theorem dX7_found_77 : decode cX7_found 77 = .ok (.istore 12, 2) := by decide +kernel
theorem dX7_found_79 : decode cX7_found 79 = .ok (.iload 12, 2) := by decide +kernel
theorem dX7_found_81 : decode cX7_found 81 = .ok (.iload_n 2, 1) := by decide +kernel
theorem dX7_found_82 : decode cX7_found 82 = .ok (.if_icmp .gt 101, 3) := by decide +kernel
theorem dX7_found_85 : decode cX7_found 85 = .ok (.iload 4, 2) := by decide +kernel
theorem dX7_found_87 : decode cX7_found 87 = .ok (.iload 11, 2) := by decide +kernel
theorem dX7_found_89 : decode cX7_found 89 = .ok (.iadd, 1) := by decide +kernel
theorem dX7_found_90 : decode cX7_found 90 = .ok (.invokestatic 46, 3) := by decide +kernel
theorem dX7_found_93 : decode cX7_found 93 = .ok (.ifCond .eq 84, 3) := by decide +kernel
theorem dX7_found_96 : decode cX7_found 96 = .ok (.iload 5, 2) := by decide +kernel
theorem dX7_found_98 : decode cX7_found 98 = .ok (.iload 12, 2) := by decide +kernel
theorem dX7_found_100 : decode cX7_found 100 = .ok (.iadd, 1) := by decide +kernel
theorem dX7_found_101 : decode cX7_found 101 = .ok (.invokestatic 46, 3) := by decide +kernel
theorem dX7_found_104 : decode cX7_found 104 = .ok (.ifCond .eq 73, 3) := by decide +kernel
theorem dX7_found_107 : decode cX7_found 107 = .ok (.aload_n 0, 1) := by decide +kernel
theorem dX7_found_108 : decode cX7_found 108 = .ok (.getfield 19, 3) := by decide +kernel
theorem dX7_found_111 : decode cX7_found 111 = .ok (.bipush 13, 2) := by decide +kernel
theorem dX7_found_113 : decode cX7_found 113 = .ok (.iload_n 1, 1) := by decide +kernel
theorem dX7_found_114 : decode cX7_found 114 = .ok (.imul, 1) := by decide +kernel
theorem dX7_found_115 : decode cX7_found 115 = .ok (.iload 4, 2) := by decide +kernel
theorem dX7_found_117 : decode cX7_found 117 = .ok (.iload 11, 2) := by decide +kernel
theorem dX7_found_119 : decode cX7_found 119 = .ok (.iadd, 1) := by decide +kernel
theorem dX7_found_120 : decode cX7_found 120 = .ok (.iastore, 1) := by decide +kernel
theorem dX7_found_121 : decode cX7_found 121 = .ok (.aload_n 0, 1) := by decide +kernel
theorem dX7_found_122 : decode cX7_found 122 = .ok (.getfield 19, 3) := by decide +kernel
theorem dX7_found_125 : decode cX7_found 125 = .ok (.bipush 13, 2) := by decide +kernel
theorem dX7_found_127 : decode cX7_found 127 = .ok (.iload_n 1, 1) := by decide +kernel
theorem dX7_found_128 : decode cX7_found 128 = .ok (.imul, 1) := by decide +kernel
theorem dX7_found_129 : decode cX7_found 129 = .ok (.iconst 1, 1) := by decide +kernel
theorem dX7_found_130 : decode cX7_found 130 = .ok (.iadd, 1) := by decide +kernel
theorem dX7_found_131 : decode cX7_found 131 = .ok (.iload 5, 2) := by decide +kernel
theorem dX7_found_133 : decode cX7_found 133 = .ok (.iload 12, 2) := by decide +kernel
theorem dX7_found_135 : decode cX7_found 135 = .ok (.iadd, 1) := by decide +kernel
theorem dX7_found_136 : decode cX7_found 136 = .ok (.iastore, 1) := by decide +kernel
theorem dX7_found_137 : decode cX7_found 137 = .ok (.aload_n 0, 1) := by decide +kernel
theorem dX7_found_138 : decode cX7_found 138 = .ok (.iload_n 1, 1) := by decide +kernel
theorem dX7_found_139 : decode cX7_found 139 = .ok (.invokevirtual 146, 3) := by decide +kernel
theorem dX7_found_142 : decode cX7_found 142 = .ok (.ifCond .eq 35, 3) := by decide +kernel
theorem dX7_found_145 : decode cX7_found 145 = .ok (.iload 6, 2) := by decide +kernel
theorem dX7_found_147 : decode cX7_found 147 = .ok (.ifCond .eq 13, 3) := by decide +kernel
theorem dX7_found_150 : decode cX7_found 150 = .ok (.aload_n 0, 1) := by decide +kernel
theorem dX7_found_151 : decode cX7_found 151 = .ok (.getfield 143, 3) := by decide +kernel
theorem dX7_found_154 : decode cX7_found 154 = .ok (.dload 7, 2) := by decide +kernel
theorem dX7_found_156 : decode cX7_found 156 = .ok (.dcmp .g, 1) := by decide +kernel
theorem dX7_found_157 : decode cX7_found 157 = .ok (.ifCond .ge 20, 3) := by decide +kernel
theorem dX7_found_160 : decode cX7_found 160 = .ok (.iconst 1, 1) := by decide +kernel
theorem dX7_found_161 : decode cX7_found 161 = .ok (.istore 6, 2) := by decide +kernel
theorem dX7_found_163 : decode cX7_found 163 = .ok (.aload_n 0, 1) := by decide +kernel
theorem dX7_found_164 : decode cX7_found 164 = .ok (.getfield 143, 3) := by decide +kernel
theorem dX7_found_167 : decode cX7_found 167 = .ok (.dstore 7, 2) := by decide +kernel
theorem dX7_found_169 : decode cX7_found 169 = .ok (.iload 11, 2) := by decide +kernel
theorem dX7_found_171 : decode cX7_found 171 = .ok (.istore 9, 2) := by decide +kernel
theorem dX7_found_173 : decode cX7_found 173 = .ok (.iload 12, 2) := by decide +kernel
theorem dX7_found_175 : decode cX7_found 175 = .ok (.istore 10, 2) := by decide +kernel
theorem dX7_found_177 : decode cX7_found 177 = .ok (.iinc 12 1, 3) := by decide +kernel
theorem dX7_found_180 : decode cX7_found 180 = .ok (.goto (-101), 3) := by decide +kernel
theorem dX7_found_183 : decode cX7_found 183 = .ok (.iinc 11 1, 3) := by decide +kernel
theorem dX7_found_186 : decode cX7_found 186 = .ok (.goto (-117), 3) := by decide +kernel
theorem dX7_found_189 : decode cX7_found 189 = .ok (.aload_n 0, 1) := by decide +kernel
theorem dX7_found_190 : decode cX7_found 190 = .ok (.getfield 19, 3) := by decide +kernel
theorem dX7_found_193 : decode cX7_found 193 = .ok (.bipush 13, 2) := by decide +kernel
theorem dX7_found_195 : decode cX7_found 195 = .ok (.iload_n 1, 1) := by decide +kernel
theorem dX7_found_196 : decode cX7_found 196 = .ok (.imul, 1) := by decide +kernel
theorem dX7_found_197 : decode cX7_found 197 = .ok (.iload 4, 2) := by decide +kernel
theorem dX7_found_199 : decode cX7_found 199 = .ok (.iastore, 1) := by decide +kernel
theorem dX7_found_200 : decode cX7_found 200 = .ok (.aload_n 0, 1) := by decide +kernel
theorem dX7_found_201 : decode cX7_found 201 = .ok (.getfield 19, 3) := by decide +kernel
theorem dX7_found_204 : decode cX7_found 204 = .ok (.bipush 13, 2) := by decide +kernel
theorem dX7_found_206 : decode cX7_found 206 = .ok (.iload_n 1, 1) := by decide +kernel
theorem dX7_found_207 : decode cX7_found 207 = .ok (.imul, 1) := by decide +kernel
theorem dX7_found_208 : decode cX7_found 208 = .ok (.iconst 1, 1) := by decide +kernel
theorem dX7_found_209 : decode cX7_found 209 = .ok (.iadd, 1) := by decide +kernel
theorem dX7_found_210 : decode cX7_found 210 = .ok (.iload 5, 2) := by decide +kernel
theorem dX7_found_212 : decode cX7_found 212 = .ok (.iastore, 1) := by decide +kernel
theorem dX7_found_213 : decode cX7_found 213 = .ok (.iload 6, 2) := by decide +kernel
theorem dX7_found_215 : decode cX7_found 215 = .ok (.ifCond .ne 9, 3) := by decide +kernel
theorem dX7_found_218 : decode cX7_found 218 = .ok (.ldc2_w 93, 3) := by decide +kernel
theorem dX7_found_221 : decode cX7_found 221 = .ok (.goto 35, 3) := by decide +kernel
theorem dX7_found_224 : decode cX7_found 224 = .ok (.iload_n 3, 1) := by decide +kernel
theorem dX7_found_225 : decode cX7_found 225 = .ok (.ifCond .ne 12, 3) := by decide +kernel
theorem dX7_found_228 : decode cX7_found 228 = .ok (.iload 9, 2) := by decide +kernel
theorem dX7_found_230 : decode cX7_found 230 = .ok (.bipush 10, 2) := by decide +kernel
theorem dX7_found_232 : decode cX7_found 232 = .ok (.iadd, 1) := by decide +kernel
theorem dX7_found_233 : decode cX7_found 233 = .ok (.i2l, 1) := by decide +kernel
theorem dX7_found_234 : decode cX7_found 234 = .ok (.goto 22, 3) := by decide +kernel
theorem dX7_found_237 : decode cX7_found 237 = .ok (.iload_n 3, 1) := by decide +kernel
theorem dX7_found_238 : decode cX7_found 238 = .ok (.iconst 1, 1) := by decide +kernel
theorem dX7_found_239 : decode cX7_found 239 = .ok (.if_icmp .ne 12, 3) := by decide +kernel
theorem dX7_found_242 : decode cX7_found 242 = .ok (.iload 10, 2) := by decide +kernel
theorem dX7_found_244 : decode cX7_found 244 = .ok (.bipush 10, 2) := by decide +kernel
theorem dX7_found_246 : decode cX7_found 246 = .ok (.iadd, 1) := by decide +kernel
theorem dX7_found_247 : decode cX7_found 247 = .ok (.i2l, 1) := by decide +kernel
theorem dX7_found_248 : decode cX7_found 248 = .ok (.goto 8, 3) := by decide +kernel
theorem dX7_found_251 : decode cX7_found 251 = .ok (.dload 7, 2) := by decide +kernel
theorem dX7_found_253 : decode cX7_found 253 = .ok (.invokestatic 99, 3) := by decide +kernel
theorem dX7_found_256 : decode cX7_found 256 = .ok (.lreturn, 1) := by decide +kernel
theorem dX7_isFree_0 : decode cX7_isFree 0 = .ok (.aload_n 0, 1) := by decide +kernel
theorem dX7_isFree_1 : decode cX7_isFree 1 = .ok (.getfield 19, 3) := by decide +kernel
theorem dX7_isFree_4 : decode cX7_isFree 4 = .ok (.bipush 13, 2) := by decide +kernel
theorem dX7_isFree_6 : decode cX7_isFree 6 = .ok (.iload_n 1, 1) := by decide +kernel
theorem dX7_isFree_7 : decode cX7_isFree 7 = .ok (.imul, 1) := by decide +kernel
theorem dX7_isFree_8 : decode cX7_isFree 8 = .ok (.bipush 6, 2) := by decide +kernel
theorem dX7_isFree_10 : decode cX7_isFree 10 = .ok (.iadd, 1) := by decide +kernel
theorem dX7_isFree_11 : decode cX7_isFree 11 = .ok (.iaload, 1) := by decide +kernel
theorem dX7_isFree_12 : decode cX7_isFree 12 = .ok (.istore 5, 2) := by decide +kernel
theorem dX7_isFree_14 : decode cX7_isFree 14 = .ok (.iload_n 2, 1) := by decide +kernel
theorem dX7_isFree_15 : decode cX7_isFree 15 = .ok (.i2d, 1) := by decide +kernel
theorem dX7_isFree_16 : decode cX7_isFree 16 = .ok (.aload_n 0, 1) := by decide +kernel
theorem dX7_isFree_17 : decode cX7_isFree 17 = .ok (.getfield 56, 3) := by decide +kernel
theorem dX7_isFree_20 : decode cX7_isFree 20 = .ok (.dsub, 1) := by decide +kernel
theorem dX7_isFree_21 : decode cX7_isFree 21 = .ok (.aload_n 0, 1) := by decide +kernel
theorem dX7_isFree_22 : decode cX7_isFree 22 = .ok (.getfield 63, 3) := by decide +kernel
theorem dX7_isFree_25 : decode cX7_isFree 25 = .ok (.aload_n 0, 1) := by decide +kernel
theorem dX7_isFree_26 : decode cX7_isFree 26 = .ok (.getfield 56, 3) := by decide +kernel
theorem dX7_isFree_29 : decode cX7_isFree 29 = .ok (.dsub, 1) := by decide +kernel
theorem dX7_isFree_30 : decode cX7_isFree 30 = .ok (.dmul, 1) := by decide +kernel
theorem dX7_isFree_31 : decode cX7_isFree 31 = .ok (.iload_n 3, 1) := by decide +kernel
theorem dX7_isFree_32 : decode cX7_isFree 32 = .ok (.i2d, 1) := by decide +kernel
theorem dX7_isFree_33 : decode cX7_isFree 33 = .ok (.aload_n 0, 1) := by decide +kernel
theorem dX7_isFree_34 : decode cX7_isFree 34 = .ok (.getfield 60, 3) := by decide +kernel
theorem dX7_isFree_37 : decode cX7_isFree 37 = .ok (.dsub, 1) := by decide +kernel
theorem dX7_isFree_38 : decode cX7_isFree 38 = .ok (.aload_n 0, 1) := by decide +kernel
theorem dX7_isFree_39 : decode cX7_isFree 39 = .ok (.getfield 66, 3) := by decide +kernel
theorem dX7_isFree_42 : decode cX7_isFree 42 = .ok (.aload_n 0, 1) := by decide +kernel
theorem dX7_isFree_43 : decode cX7_isFree 43 = .ok (.getfield 60, 3) := by decide +kernel
theorem dX7_isFree_46 : decode cX7_isFree 46 = .ok (.dsub, 1) := by decide +kernel
theorem dX7_isFree_47 : decode cX7_isFree 47 = .ok (.dmul, 1) := by decide +kernel
theorem dX7_isFree_48 : decode cX7_isFree 48 = .ok (.dadd, 1) := by decide +kernel
theorem dX7_isFree_49 : decode cX7_isFree 49 = .ok (.iload 5, 2) := by decide +kernel
theorem dX7_isFree_51 : decode cX7_isFree 51 = .ok (.iload 5, 2) := by decide +kernel
theorem dX7_isFree_53 : decode cX7_isFree 53 = .ok (.imul, 1) := by decide +kernel
theorem dX7_isFree_54 : decode cX7_isFree 54 = .ok (.i2d, 1) := by decide +kernel
theorem dX7_isFree_55 : decode cX7_isFree 55 = .ok (.ddiv, 1) := by decide +kernel
theorem dX7_isFree_56 : decode cX7_isFree 56 = .ok (.dstore 6, 2) := by decide +kernel
theorem dX7_isFree_58 : decode cX7_isFree 58 = .ok (.dload 6, 2) := by decide +kernel
theorem dX7_isFree_60 : decode cX7_isFree 60 = .ok (.dconst 0, 1) := by decide +kernel
theorem dX7_isFree_61 : decode cX7_isFree 61 = .ok (.dcmp .g, 1) := by decide +kernel
theorem dX7_isFree_62 : decode cX7_isFree 62 = .ok (.ifCond .ge 7, 3) := by decide +kernel
theorem dX7_isFree_65 : decode cX7_isFree 65 = .ok (.dconst 0, 1) := by decide +kernel
theorem dX7_isFree_66 : decode cX7_isFree 66 = .ok (.goto 16, 3) := by decide +kernel
theorem dX7_isFree_69 : decode cX7_isFree 69 = .ok (.dload 6, 2) := by decide +kernel
theorem dX7_isFree_71 : decode cX7_isFree 71 = .ok (.dconst 1, 1) := by decide +kernel
theorem dX7_isFree_72 : decode cX7_isFree 72 = .ok (.dcmp .l, 1) := by decide +kernel
theorem dX7_isFree_73 : decode cX7_isFree 73 = .ok (.ifCond .le 7, 3) := by decide +kernel
theorem dX7_isFree_76 : decode cX7_isFree 76 = .ok (.dconst 1, 1) := by decide +kernel
theorem dX7_isFree_77 : decode cX7_isFree 77 = .ok (.goto 5, 3) := by decide +kernel
theorem dX7_isFree_80 : decode cX7_isFree 80 = .ok (.dload 6, 2) := by decide +kernel
theorem dX7_isFree_82 : decode cX7_isFree 82 = .ok (.dstore 6, 2) := by decide +kernel
theorem dX7_isFree_84 : decode cX7_isFree 84 = .ok (.iload_n 2, 1) := by decide +kernel
theorem dX7_isFree_85 : decode cX7_isFree 85 = .ok (.i2d, 1) := by decide +kernel
theorem dX7_isFree_86 : decode cX7_isFree 86 = .ok (.aload_n 0, 1) := by decide +kernel
theorem dX7_isFree_87 : decode cX7_isFree 87 = .ok (.getfield 56, 3) := by decide +kernel
theorem dX7_isFree_90 : decode cX7_isFree 90 = .ok (.dload 6, 2) := by decide +kernel
theorem dX7_isFree_92 : decode cX7_isFree 92 = .ok (.aload_n 0, 1) := by decide +kernel
theorem dX7_isFree_93 : decode cX7_isFree 93 = .ok (.getfield 63, 3) := by decide +kernel
theorem dX7_isFree_96 : decode cX7_isFree 96 = .ok (.aload_n 0, 1) := by decide +kernel
theorem dX7_isFree_97 : decode cX7_isFree 97 = .ok (.getfield 56, 3) := by decide +kernel
theorem dX7_isFree_100 : decode cX7_isFree 100 = .ok (.dsub, 1) := by decide +kernel
theorem dX7_isFree_101 : decode cX7_isFree 101 = .ok (.dmul, 1) := by decide +kernel
theorem dX7_isFree_102 : decode cX7_isFree 102 = .ok (.dadd, 1) := by decide +kernel
theorem dX7_isFree_103 : decode cX7_isFree 103 = .ok (.dsub, 1) := by decide +kernel
theorem dX7_isFree_104 : decode cX7_isFree 104 = .ok (.dstore 8, 2) := by decide +kernel
theorem dX7_isFree_106 : decode cX7_isFree 106 = .ok (.iload_n 3, 1) := by decide +kernel
theorem dX7_isFree_107 : decode cX7_isFree 107 = .ok (.i2d, 1) := by decide +kernel
theorem dX7_isFree_108 : decode cX7_isFree 108 = .ok (.aload_n 0, 1) := by decide +kernel
theorem dX7_isFree_109 : decode cX7_isFree 109 = .ok (.getfield 60, 3) := by decide +kernel
theorem dX7_isFree_112 : decode cX7_isFree 112 = .ok (.dload 6, 2) := by decide +kernel
theorem dX7_isFree_114 : decode cX7_isFree 114 = .ok (.aload_n 0, 1) := by decide +kernel
theorem dX7_isFree_115 : decode cX7_isFree 115 = .ok (.getfield 66, 3) := by decide +kernel
theorem dX7_isFree_118 : decode cX7_isFree 118 = .ok (.aload_n 0, 1) := by decide +kernel
theorem dX7_isFree_119 : decode cX7_isFree 119 = .ok (.getfield 60, 3) := by decide +kernel
theorem dX7_isFree_122 : decode cX7_isFree 122 = .ok (.dsub, 1) := by decide +kernel
theorem dX7_isFree_123 : decode cX7_isFree 123 = .ok (.dmul, 1) := by decide +kernel
theorem dX7_isFree_124 : decode cX7_isFree 124 = .ok (.dadd, 1) := by decide +kernel
theorem dX7_isFree_125 : decode cX7_isFree 125 = .ok (.dsub, 1) := by decide +kernel
theorem dX7_isFree_126 : decode cX7_isFree 126 = .ok (.dstore 10, 2) := by decide +kernel
theorem dX7_isFree_128 : decode cX7_isFree 128 = .ok (.dload 8, 2) := by decide +kernel
theorem dX7_isFree_130 : decode cX7_isFree 130 = .ok (.dload 8, 2) := by decide +kernel
theorem dX7_isFree_132 : decode cX7_isFree 132 = .ok (.dmul, 1) := by decide +kernel
theorem dX7_isFree_133 : decode cX7_isFree 133 = .ok (.dload 10, 2) := by decide +kernel
theorem dX7_isFree_135 : decode cX7_isFree 135 = .ok (.dload 10, 2) := by decide +kernel
theorem dX7_isFree_137 : decode cX7_isFree 137 = .ok (.dmul, 1) := by decide +kernel
theorem dX7_isFree_138 : decode cX7_isFree 138 = .ok (.dadd, 1) := by decide +kernel
theorem dX7_isFree_139 : decode cX7_isFree 139 = .ok (.iload 4, 2) := by decide +kernel
theorem dX7_isFree_141 : decode cX7_isFree 141 = .ok (.iload 4, 2) := by decide +kernel
theorem dX7_isFree_143 : decode cX7_isFree 143 = .ok (.imul, 1) := by decide +kernel
theorem dX7_isFree_144 : decode cX7_isFree 144 = .ok (.i2d, 1) := by decide +kernel
theorem dX7_isFree_145 : decode cX7_isFree 145 = .ok (.dcmp .l, 1) := by decide +kernel
theorem dX7_isFree_146 : decode cX7_isFree 146 = .ok (.ifCond .lt 7, 3) := by decide +kernel
theorem dX7_isFree_149 : decode cX7_isFree 149 = .ok (.iconst 1, 1) := by decide +kernel
theorem dX7_isFree_150 : decode cX7_isFree 150 = .ok (.goto 4, 3) := by decide +kernel
theorem dX7_isFree_153 : decode cX7_isFree 153 = .ok (.iconst 0, 1) := by decide +kernel
theorem dX7_isFree_154 : decode cX7_isFree 154 = .ok (.ireturn, 1) := by decide +kernel
set_option maxRecDepth 20000 in
theorem ggX7_isClear_X7_isHanging : GoodIn wsX7_isClear wsX7_isHanging := goodIn_r _ [4, 5, 6, 3, 7] (by decide +kernel) (by decide +kernel)
set_option maxRecDepth 20000 in
theorem gX7_isClear_X7_isHanging : GoodIn wsX7_isClear (va_wsS RX7 42 yX7_isHanging wsX7_isHanging) := goodIn_app (goodIn_of _ (by decide +kernel)) ggX7_isClear_X7_isHanging
set_option maxRecDepth 20000 in
theorem ggX7_isClear_X7_isAt : GoodIn wsX7_isClear wsX7_isAt := goodIn_r _ [10, 5, 6, 3, 7] (by decide +kernel) (by decide +kernel)
set_option maxRecDepth 20000 in
theorem gX7_isClear_X7_isAt : GoodIn wsX7_isClear (va_wsS RX7 46 yX7_isAt wsX7_isAt) := goodIn_app (goodIn_of _ (by decide +kernel)) ggX7_isClear_X7_isAt
set_option maxRecDepth 20000 in
theorem ggX7_isClear_X7_in : GoodIn wsX7_isClear wsX7_in := goodIn_r _ [7] (by decide +kernel) (by decide +kernel)
set_option maxRecDepth 20000 in
theorem gX7_isClear_X7_in : GoodIn wsX7_isClear (va_wsS RX7 38 yX7_in wsX7_in) := goodIn_app (goodIn_of _ (by decide +kernel)) ggX7_isClear_X7_in
set_option maxRecDepth 20000 in
theorem ggX7_isClear_X7_poses : GoodIn wsX7_isClear wsX7_poses := goodIn_r _ [14, 15, 16, 17, 18, 19, 20, 21, 22, 23, 24, 3, 25, 26, 27, 28, 33, 34, 35, 36, 37, 38, 39, 40, 41, 42, 43, 44, 45, 46, 47, 48, 49, 50, 51, 52, 53, 54] (by decide +kernel) (by decide +kernel)
set_option maxRecDepth 20000 in
theorem gX7_isClear_X7_poses : GoodIn wsX7_isClear (wsV RX7 89 RX7 yX7_poses wsX7_poses) := goodIn_app (goodIn_of _ (by decide +kernel)) ggX7_isClear_X7_poses
set_option maxRecDepth 20000 in
theorem ggX7_isClear_X7_isFree : GoodIn wsX7_isClear wsX7_isFree := goodIn_r _ [32, 15, 16, 19, 17, 20, 33, 34, 35, 36, 37, 38, 39, 40, 41, 42, 43, 44, 45, 46, 47, 48, 49, 50, 51, 52, 53, 54] (by decide +kernel) (by decide +kernel)
set_option maxRecDepth 20000 in
theorem gX7_isClear_X7_isFree : GoodIn wsX7_isClear (wsV RX7 149 RX7 yX7_isFree wsX7_isFree) := goodIn_app (goodIn_of _ (by decide +kernel)) ggX7_isClear_X7_isFree
theorem dX7_isClear_0 : decode cX7_isClear 0 = .ok (.iload_n 1, 1) := by decide +kernel
theorem dX7_isClear_1 : decode cX7_isClear 1 = .ok (.invokestatic 42, 3) := by decide +kernel
theorem dX7_isClear_4 : decode cX7_isClear 4 = .ok (.ifCond .eq 50, 3) := by decide +kernel
theorem dX7_isClear_7 : decode cX7_isClear 7 = .ok (.iload_n 2, 1) := by decide +kernel
theorem dX7_isClear_8 : decode cX7_isClear 8 = .ok (.invokestatic 46, 3) := by decide +kernel
theorem dX7_isClear_11 : decode cX7_isClear 11 = .ok (.ifCond .eq 43, 3) := by decide +kernel
theorem dX7_isClear_14 : decode cX7_isClear 14 = .ok (.iload_n 3, 1) := by decide +kernel
theorem dX7_isClear_15 : decode cX7_isClear 15 = .ok (.invokestatic 46, 3) := by decide +kernel
theorem dX7_isClear_18 : decode cX7_isClear 18 = .ok (.ifCond .eq 36, 3) := by decide +kernel
theorem dX7_isClear_21 : decode cX7_isClear 21 = .ok (.iload 4, 2) := by decide +kernel
theorem dX7_isClear_23 : decode cX7_isClear 23 = .ok (.iconst 0, 1) := by decide +kernel
theorem dX7_isClear_24 : decode cX7_isClear 24 = .ok (.sipush 500, 3) := by decide +kernel
theorem dX7_isClear_27 : decode cX7_isClear 27 = .ok (.invokestatic 38, 3) := by decide +kernel
theorem dX7_isClear_30 : decode cX7_isClear 30 = .ok (.ifCond .eq 24, 3) := by decide +kernel
theorem dX7_isClear_33 : decode cX7_isClear 33 = .ok (.iload 5, 2) := by decide +kernel
theorem dX7_isClear_35 : decode cX7_isClear 35 = .ok (.invokestatic 46, 3) := by decide +kernel
theorem dX7_isClear_38 : decode cX7_isClear 38 = .ok (.ifCond .eq 16, 3) := by decide +kernel
theorem dX7_isClear_41 : decode cX7_isClear 41 = .ok (.iload 6, 2) := by decide +kernel
theorem dX7_isClear_43 : decode cX7_isClear 43 = .ok (.iload 5, 2) := by decide +kernel
theorem dX7_isClear_45 : decode cX7_isClear 45 = .ok (.sipush 1000, 3) := by decide +kernel
theorem dX7_isClear_48 : decode cX7_isClear 48 = .ok (.invokestatic 38, 3) := by decide +kernel
theorem dX7_isClear_51 : decode cX7_isClear 51 = .ok (.ifCond .ne 6, 3) := by decide +kernel
theorem dX7_isClear_54 : decode cX7_isClear 54 = .ok (.bipush (-2), 2) := by decide +kernel
theorem dX7_isClear_56 : decode cX7_isClear 56 = .ok (.ireturn, 1) := by decide +kernel
theorem dX7_isClear_57 : decode cX7_isClear 57 = .ok (.iload 5, 2) := by decide +kernel
theorem dX7_isClear_59 : decode cX7_isClear 59 = .ok (.istore 7, 2) := by decide +kernel
theorem dX7_isClear_61 : decode cX7_isClear 61 = .ok (.iload 7, 2) := by decide +kernel
theorem dX7_isClear_63 : decode cX7_isClear 63 = .ok (.iload 6, 2) := by decide +kernel
theorem dX7_isClear_65 : decode cX7_isClear 65 = .ok (.if_icmp .gt 33, 3) := by decide +kernel
theorem dX7_isClear_68 : decode cX7_isClear 68 = .ok (.aload_n 0, 1) := by decide +kernel
theorem dX7_isClear_69 : decode cX7_isClear 69 = .ok (.iload_n 1, 1) := by decide +kernel
theorem dX7_isClear_70 : decode cX7_isClear 70 = .ok (.iload 7, 2) := by decide +kernel
theorem dX7_isClear_72 : decode cX7_isClear 72 = .ok (.invokevirtual 89, 3) := by decide +kernel
theorem dX7_isClear_75 : decode cX7_isClear 75 = .ok (.ifCond .eq 17, 3) := by decide +kernel
theorem dX7_isClear_78 : decode cX7_isClear 78 = .ok (.aload_n 0, 1) := by decide +kernel
theorem dX7_isClear_79 : decode cX7_isClear 79 = .ok (.iload_n 1, 1) := by decide +kernel
theorem dX7_isClear_80 : decode cX7_isClear 80 = .ok (.iload_n 2, 1) := by decide +kernel
theorem dX7_isClear_81 : decode cX7_isClear 81 = .ok (.iload_n 3, 1) := by decide +kernel
theorem dX7_isClear_82 : decode cX7_isClear 82 = .ok (.iload 4, 2) := by decide +kernel
theorem dX7_isClear_84 : decode cX7_isClear 84 = .ok (.invokevirtual 149, 3) := by decide +kernel
theorem dX7_isClear_87 : decode cX7_isClear 87 = .ok (.ifCond .ne 5, 3) := by decide +kernel
theorem dX7_isClear_90 : decode cX7_isClear 90 = .ok (.iconst 0, 1) := by decide +kernel
theorem dX7_isClear_91 : decode cX7_isClear 91 = .ok (.ireturn, 1) := by decide +kernel
theorem dX7_isClear_92 : decode cX7_isClear 92 = .ok (.iinc 7 1, 3) := by decide +kernel
theorem dX7_isClear_95 : decode cX7_isClear 95 = .ok (.goto (-34), 3) := by decide +kernel
theorem dX7_isClear_98 : decode cX7_isClear 98 = .ok (.iconst 1, 1) := by decide +kernel
theorem dX7_isClear_99 : decode cX7_isClear 99 = .ok (.ireturn, 1) := by decide +kernel
theorem dX7_count_0 : decode cX7_count 0 = .ok (.iload_n 1, 1) := by decide +kernel
theorem dX7_count_1 : decode cX7_count 1 = .ok (.ifCond .ne 10, 3) := by decide +kernel
theorem dX7_count_4 : decode cX7_count 4 = .ok (.aload_n 0, 1) := by decide +kernel
theorem dX7_count_5 : decode cX7_count 5 = .ok (.getfield 137, 3) := by decide +kernel
theorem dX7_count_8 : decode cX7_count 8 = .ok (.goto 17, 3) := by decide +kernel
theorem dX7_count_11 : decode cX7_count 11 = .ok (.iload_n 1, 1) := by decide +kernel
theorem dX7_count_12 : decode cX7_count 12 = .ok (.iconst 1, 1) := by decide +kernel
theorem dX7_count_13 : decode cX7_count 13 = .ok (.if_icmp .ne 10, 3) := by decide +kernel
theorem dX7_count_16 : decode cX7_count 16 = .ok (.aload_n 0, 1) := by decide +kernel
theorem dX7_count_17 : decode cX7_count 17 = .ok (.getfield 140, 3) := by decide +kernel
theorem dX7_count_20 : decode cX7_count 20 = .ok (.goto 5, 3) := by decide +kernel
theorem dX7_count_23 : decode cX7_count 23 = .ok (.bipush (-2), 2) := by decide +kernel
theorem dX7_count_25 : decode cX7_count 25 = .ok (.ireturn, 1) := by decide +kernel
set_option maxRecDepth 20000 in
theorem ggX7_digest_X7_carries : GoodIn wsX7_digest wsX7_carries := goodIn_r _ [13, 14, 15, 16, 17, 18, 19, 20, 21, 12, 22, 23, 24, 25, 26, 27, 28, 29, 30, 31, 32, 33, 34, 35, 36, 37, 38, 39, 40, 41, 42, 43, 44] (by decide +kernel) (by decide +kernel)
set_option maxRecDepth 20000 in
theorem gX7_digest_X7_carries : GoodIn wsX7_digest (wsV RX7 157 RX7 yX7_carries wsX7_carries) := goodIn_app (goodIn_of _ (by decide +kernel)) ggX7_digest_X7_carries
theorem dX7_digest_0 : decode cX7_digest 0 = .ok (.ldc2_w 153, 3) := by decide +kernel
theorem dX7_digest_3 : decode cX7_digest 3 = .ok (.ldc2_w 155, 3) := by decide +kernel
theorem dX7_digest_6 : decode cX7_digest 6 = .ok (.aload_n 0, 1) := by decide +kernel
theorem dX7_digest_7 : decode cX7_digest 7 = .ok (.getfield 137, 3) := by decide +kernel
theorem dX7_digest_10 : decode cX7_digest 10 = .ok (.i2l, 1) := by decide +kernel
theorem dX7_digest_11 : decode cX7_digest 11 = .ok (.ladd, 1) := by decide +kernel
theorem dX7_digest_12 : decode cX7_digest 12 = .ok (.lmul, 1) := by decide +kernel
theorem dX7_digest_13 : decode cX7_digest 13 = .ok (.aload_n 0, 1) := by decide +kernel
theorem dX7_digest_14 : decode cX7_digest 14 = .ok (.getfield 140, 3) := by decide +kernel
theorem dX7_digest_17 : decode cX7_digest 17 = .ok (.i2l, 1) := by decide +kernel
theorem dX7_digest_18 : decode cX7_digest 18 = .ok (.ladd, 1) := by decide +kernel
theorem dX7_digest_19 : decode cX7_digest 19 = .ok (.lstore_n 1, 1) := by decide +kernel
theorem dX7_digest_20 : decode cX7_digest 20 = .ok (.iconst 0, 1) := by decide +kernel
theorem dX7_digest_21 : decode cX7_digest 21 = .ok (.istore_n 3, 1) := by decide +kernel
theorem dX7_digest_22 : decode cX7_digest 22 = .ok (.iload_n 3, 1) := by decide +kernel
theorem dX7_digest_23 : decode cX7_digest 23 = .ok (.bipush 52, 2) := by decide +kernel
theorem dX7_digest_25 : decode cX7_digest 25 = .ok (.if_icmp .ge 23, 3) := by decide +kernel
theorem dX7_digest_28 : decode cX7_digest 28 = .ok (.ldc2_w 153, 3) := by decide +kernel
theorem dX7_digest_31 : decode cX7_digest 31 = .ok (.lload_n 1, 1) := by decide +kernel
theorem dX7_digest_32 : decode cX7_digest 32 = .ok (.lmul, 1) := by decide +kernel
theorem dX7_digest_33 : decode cX7_digest 33 = .ok (.aload_n 0, 1) := by decide +kernel
theorem dX7_digest_34 : decode cX7_digest 34 = .ok (.getfield 19, 3) := by decide +kernel
theorem dX7_digest_37 : decode cX7_digest 37 = .ok (.iload_n 3, 1) := by decide +kernel
theorem dX7_digest_38 : decode cX7_digest 38 = .ok (.iaload, 1) := by decide +kernel
theorem dX7_digest_39 : decode cX7_digest 39 = .ok (.i2l, 1) := by decide +kernel
theorem dX7_digest_40 : decode cX7_digest 40 = .ok (.ladd, 1) := by decide +kernel
theorem dX7_digest_41 : decode cX7_digest 41 = .ok (.lstore_n 1, 1) := by decide +kernel
theorem dX7_digest_42 : decode cX7_digest 42 = .ok (.iinc 3 1, 3) := by decide +kernel
theorem dX7_digest_45 : decode cX7_digest 45 = .ok (.goto (-23), 3) := by decide +kernel
theorem dX7_digest_48 : decode cX7_digest 48 = .ok (.iconst 0, 1) := by decide +kernel
theorem dX7_digest_49 : decode cX7_digest 49 = .ok (.istore_n 3, 1) := by decide +kernel
theorem dX7_digest_50 : decode cX7_digest 50 = .ok (.iload_n 3, 1) := by decide +kernel
theorem dX7_digest_51 : decode cX7_digest 51 = .ok (.iconst 4, 1) := by decide +kernel
theorem dX7_digest_52 : decode cX7_digest 52 = .ok (.if_icmp .ge 22, 3) := by decide +kernel
theorem dX7_digest_55 : decode cX7_digest 55 = .ok (.ldc2_w 153, 3) := by decide +kernel
theorem dX7_digest_58 : decode cX7_digest 58 = .ok (.lload_n 1, 1) := by decide +kernel
theorem dX7_digest_59 : decode cX7_digest 59 = .ok (.lmul, 1) := by decide +kernel
theorem dX7_digest_60 : decode cX7_digest 60 = .ok (.aload_n 0, 1) := by decide +kernel
theorem dX7_digest_61 : decode cX7_digest 61 = .ok (.iload_n 3, 1) := by decide +kernel
theorem dX7_digest_62 : decode cX7_digest 62 = .ok (.invokevirtual 157, 3) := by decide +kernel
theorem dX7_digest_65 : decode cX7_digest 65 = .ok (.i2l, 1) := by decide +kernel
theorem dX7_digest_66 : decode cX7_digest 66 = .ok (.ladd, 1) := by decide +kernel
theorem dX7_digest_67 : decode cX7_digest 67 = .ok (.lstore_n 1, 1) := by decide +kernel
theorem dX7_digest_68 : decode cX7_digest 68 = .ok (.iinc 3 1, 3) := by decide +kernel
theorem dX7_digest_71 : decode cX7_digest 71 = .ok (.goto (-21), 3) := by decide +kernel
theorem dX7_digest_74 : decode cX7_digest 74 = .ok (.iconst 0, 1) := by decide +kernel
theorem dX7_digest_75 : decode cX7_digest 75 = .ok (.istore_n 3, 1) := by decide +kernel
theorem dX7_digest_76 : decode cX7_digest 76 = .ok (.iload_n 3, 1) := by decide +kernel
theorem dX7_digest_77 : decode cX7_digest 77 = .ok (.aload_n 0, 1) := by decide +kernel
theorem dX7_digest_78 : decode cX7_digest 78 = .ok (.getfield 137, 3) := by decide +kernel
theorem dX7_digest_81 : decode cX7_digest 81 = .ok (.if_icmp .ge 23, 3) := by decide +kernel
theorem dX7_digest_84 : decode cX7_digest 84 = .ok (.ldc2_w 153, 3) := by decide +kernel
theorem dX7_digest_87 : decode cX7_digest 87 = .ok (.lload_n 1, 1) := by decide +kernel
theorem dX7_digest_88 : decode cX7_digest 88 = .ok (.lmul, 1) := by decide +kernel
theorem dX7_digest_89 : decode cX7_digest 89 = .ok (.aload_n 0, 1) := by decide +kernel
theorem dX7_digest_90 : decode cX7_digest 90 = .ok (.getfield 25, 3) := by decide +kernel
theorem dX7_digest_93 : decode cX7_digest 93 = .ok (.iload_n 3, 1) := by decide +kernel
theorem dX7_digest_94 : decode cX7_digest 94 = .ok (.iaload, 1) := by decide +kernel
theorem dX7_digest_95 : decode cX7_digest 95 = .ok (.i2l, 1) := by decide +kernel
theorem dX7_digest_96 : decode cX7_digest 96 = .ok (.ladd, 1) := by decide +kernel
theorem dX7_digest_97 : decode cX7_digest 97 = .ok (.lstore_n 1, 1) := by decide +kernel
theorem dX7_digest_98 : decode cX7_digest 98 = .ok (.iinc 3 1, 3) := by decide +kernel
theorem dX7_digest_101 : decode cX7_digest 101 = .ok (.goto (-25), 3) := by decide +kernel
theorem dX7_digest_104 : decode cX7_digest 104 = .ok (.iconst 0, 1) := by decide +kernel
theorem dX7_digest_105 : decode cX7_digest 105 = .ok (.istore_n 3, 1) := by decide +kernel
theorem dX7_digest_106 : decode cX7_digest 106 = .ok (.iload_n 3, 1) := by decide +kernel
theorem dX7_digest_107 : decode cX7_digest 107 = .ok (.aload_n 0, 1) := by decide +kernel
theorem dX7_digest_108 : decode cX7_digest 108 = .ok (.getfield 140, 3) := by decide +kernel
theorem dX7_digest_111 : decode cX7_digest 111 = .ok (.if_icmp .ge 35, 3) := by decide +kernel
theorem dX7_digest_114 : decode cX7_digest 114 = .ok (.ldc2_w 153, 3) := by decide +kernel
theorem dX7_digest_117 : decode cX7_digest 117 = .ok (.ldc2_w 153, 3) := by decide +kernel
theorem dX7_digest_120 : decode cX7_digest 120 = .ok (.lload_n 1, 1) := by decide +kernel
theorem dX7_digest_121 : decode cX7_digest 121 = .ok (.lmul, 1) := by decide +kernel
theorem dX7_digest_122 : decode cX7_digest 122 = .ok (.aload_n 0, 1) := by decide +kernel
theorem dX7_digest_123 : decode cX7_digest 123 = .ok (.getfield 28, 3) := by decide +kernel
theorem dX7_digest_126 : decode cX7_digest 126 = .ok (.iload_n 3, 1) := by decide +kernel
theorem dX7_digest_127 : decode cX7_digest 127 = .ok (.iaload, 1) := by decide +kernel
theorem dX7_digest_128 : decode cX7_digest 128 = .ok (.i2l, 1) := by decide +kernel
theorem dX7_digest_129 : decode cX7_digest 129 = .ok (.ladd, 1) := by decide +kernel
theorem dX7_digest_130 : decode cX7_digest 130 = .ok (.lmul, 1) := by decide +kernel
theorem dX7_digest_131 : decode cX7_digest 131 = .ok (.aload_n 0, 1) := by decide +kernel
theorem dX7_digest_132 : decode cX7_digest 132 = .ok (.getfield 31, 3) := by decide +kernel
theorem dX7_digest_135 : decode cX7_digest 135 = .ok (.iload_n 3, 1) := by decide +kernel
theorem dX7_digest_136 : decode cX7_digest 136 = .ok (.iaload, 1) := by decide +kernel
theorem dX7_digest_137 : decode cX7_digest 137 = .ok (.i2l, 1) := by decide +kernel
theorem dX7_digest_138 : decode cX7_digest 138 = .ok (.ladd, 1) := by decide +kernel
theorem dX7_digest_139 : decode cX7_digest 139 = .ok (.lstore_n 1, 1) := by decide +kernel
theorem dX7_digest_140 : decode cX7_digest 140 = .ok (.iinc 3 1, 3) := by decide +kernel
theorem dX7_digest_143 : decode cX7_digest 143 = .ok (.goto (-37), 3) := by decide +kernel
theorem dX7_digest_146 : decode cX7_digest 146 = .ok (.lload_n 1, 1) := by decide +kernel
theorem dX7_digest_147 : decode cX7_digest 147 = .ok (.lreturn, 1) := by decide +kernel
theorem dJ6_bitCount_0f7a4_0 : decode cJ6_bitCount_0f7a4 0 = .ok (.iload_n 0, 1) := by decide +kernel
theorem dJ6_bitCount_0f7a4_1 : decode cJ6_bitCount_0f7a4 1 = .ok (.iload_n 0, 1) := by decide +kernel
theorem dJ6_bitCount_0f7a4_2 : decode cJ6_bitCount_0f7a4 2 = .ok (.iconst 1, 1) := by decide +kernel
theorem dJ6_bitCount_0f7a4_3 : decode cJ6_bitCount_0f7a4 3 = .ok (.iushr, 1) := by decide +kernel
theorem dJ6_bitCount_0f7a4_4 : decode cJ6_bitCount_0f7a4 4 = .ok (.ldc_w 265, 3) := by decide +kernel
theorem dJ6_bitCount_0f7a4_7 : decode cJ6_bitCount_0f7a4 7 = .ok (.iand, 1) := by decide +kernel
theorem dJ6_bitCount_0f7a4_8 : decode cJ6_bitCount_0f7a4 8 = .ok (.isub, 1) := by decide +kernel
theorem dJ6_bitCount_0f7a4_9 : decode cJ6_bitCount_0f7a4 9 = .ok (.istore_n 0, 1) := by decide +kernel
theorem dJ6_bitCount_0f7a4_10 : decode cJ6_bitCount_0f7a4 10 = .ok (.iload_n 0, 1) := by decide +kernel
theorem dJ6_bitCount_0f7a4_11 : decode cJ6_bitCount_0f7a4 11 = .ok (.ldc_w 266, 3) := by decide +kernel
theorem dJ6_bitCount_0f7a4_14 : decode cJ6_bitCount_0f7a4 14 = .ok (.iand, 1) := by decide +kernel
theorem dJ6_bitCount_0f7a4_15 : decode cJ6_bitCount_0f7a4 15 = .ok (.iload_n 0, 1) := by decide +kernel
theorem dJ6_bitCount_0f7a4_16 : decode cJ6_bitCount_0f7a4 16 = .ok (.iconst 2, 1) := by decide +kernel
theorem dJ6_bitCount_0f7a4_17 : decode cJ6_bitCount_0f7a4 17 = .ok (.iushr, 1) := by decide +kernel
theorem dJ6_bitCount_0f7a4_18 : decode cJ6_bitCount_0f7a4 18 = .ok (.ldc_w 266, 3) := by decide +kernel
theorem dJ6_bitCount_0f7a4_21 : decode cJ6_bitCount_0f7a4 21 = .ok (.iand, 1) := by decide +kernel
theorem dJ6_bitCount_0f7a4_22 : decode cJ6_bitCount_0f7a4 22 = .ok (.iadd, 1) := by decide +kernel
theorem dJ6_bitCount_0f7a4_23 : decode cJ6_bitCount_0f7a4 23 = .ok (.istore_n 0, 1) := by decide +kernel
theorem dJ6_bitCount_0f7a4_24 : decode cJ6_bitCount_0f7a4 24 = .ok (.iload_n 0, 1) := by decide +kernel
theorem dJ6_bitCount_0f7a4_25 : decode cJ6_bitCount_0f7a4 25 = .ok (.iload_n 0, 1) := by decide +kernel
theorem dJ6_bitCount_0f7a4_26 : decode cJ6_bitCount_0f7a4 26 = .ok (.iconst 4, 1) := by decide +kernel
theorem dJ6_bitCount_0f7a4_27 : decode cJ6_bitCount_0f7a4 27 = .ok (.iushr, 1) := by decide +kernel
theorem dJ6_bitCount_0f7a4_28 : decode cJ6_bitCount_0f7a4 28 = .ok (.iadd, 1) := by decide +kernel
theorem dJ6_bitCount_0f7a4_29 : decode cJ6_bitCount_0f7a4 29 = .ok (.ldc_w 267, 3) := by decide +kernel
theorem dJ6_bitCount_0f7a4_32 : decode cJ6_bitCount_0f7a4 32 = .ok (.iand, 1) := by decide +kernel
theorem dJ6_bitCount_0f7a4_33 : decode cJ6_bitCount_0f7a4 33 = .ok (.istore_n 0, 1) := by decide +kernel
theorem dJ6_bitCount_0f7a4_34 : decode cJ6_bitCount_0f7a4 34 = .ok (.iload_n 0, 1) := by decide +kernel
theorem dJ6_bitCount_0f7a4_35 : decode cJ6_bitCount_0f7a4 35 = .ok (.iload_n 0, 1) := by decide +kernel
theorem dJ6_bitCount_0f7a4_36 : decode cJ6_bitCount_0f7a4 36 = .ok (.bipush 8, 2) := by decide +kernel
theorem dJ6_bitCount_0f7a4_38 : decode cJ6_bitCount_0f7a4 38 = .ok (.iushr, 1) := by decide +kernel
theorem dJ6_bitCount_0f7a4_39 : decode cJ6_bitCount_0f7a4 39 = .ok (.iadd, 1) := by decide +kernel
theorem dJ6_bitCount_0f7a4_40 : decode cJ6_bitCount_0f7a4 40 = .ok (.istore_n 0, 1) := by decide +kernel
theorem dJ6_bitCount_0f7a4_41 : decode cJ6_bitCount_0f7a4 41 = .ok (.iload_n 0, 1) := by decide +kernel
theorem dJ6_bitCount_0f7a4_42 : decode cJ6_bitCount_0f7a4 42 = .ok (.iload_n 0, 1) := by decide +kernel
theorem dJ6_bitCount_0f7a4_43 : decode cJ6_bitCount_0f7a4 43 = .ok (.bipush 16, 2) := by decide +kernel
theorem dJ6_bitCount_0f7a4_45 : decode cJ6_bitCount_0f7a4 45 = .ok (.iushr, 1) := by decide +kernel
theorem dJ6_bitCount_0f7a4_46 : decode cJ6_bitCount_0f7a4 46 = .ok (.iadd, 1) := by decide +kernel
theorem dJ6_bitCount_0f7a4_47 : decode cJ6_bitCount_0f7a4 47 = .ok (.istore_n 0, 1) := by decide +kernel
theorem dJ6_bitCount_0f7a4_48 : decode cJ6_bitCount_0f7a4 48 = .ok (.iload_n 0, 1) := by decide +kernel
theorem dJ6_bitCount_0f7a4_49 : decode cJ6_bitCount_0f7a4 49 = .ok (.bipush 63, 2) := by decide +kernel
theorem dJ6_bitCount_0f7a4_51 : decode cJ6_bitCount_0f7a4 51 = .ok (.iand, 1) := by decide +kernel
theorem dJ6_bitCount_0f7a4_52 : decode cJ6_bitCount_0f7a4 52 = .ok (.ireturn, 1) := by decide +kernel
theorem dJ9_abs_0f7a4_0 : decode cJ9_abs_0f7a4 0 = .ok (.iload_n 0, 1) := by decide +kernel
theorem dJ9_abs_0f7a4_1 : decode cJ9_abs_0f7a4 1 = .ok (.ifCond .ge 8, 3) := by decide +kernel
theorem dJ9_abs_0f7a4_4 : decode cJ9_abs_0f7a4 4 = .ok (.iload_n 0, 1) := by decide +kernel
theorem dJ9_abs_0f7a4_5 : decode cJ9_abs_0f7a4 5 = .ok (.ineg, 1) := by decide +kernel
theorem dJ9_abs_0f7a4_6 : decode cJ9_abs_0f7a4 6 = .ok (.goto 4, 3) := by decide +kernel
theorem dJ9_abs_0f7a4_9 : decode cJ9_abs_0f7a4 9 = .ok (.iload_n 0, 1) := by decide +kernel
theorem dJ9_abs_0f7a4_10 : decode cJ9_abs_0f7a4 10 = .ok (.ireturn, 1) := by decide +kernel
set_option maxRecDepth 20000 in
theorem ggL_law_X6_init : GoodIn wsL_law wsX6_init := goodIn_r _ [8, 9, 10, 11, 12, 13, 14, 15, 16, 17, 18, 19, 20, 21, 22, 23, 24, 25, 26, 27, 28, 29, 30, 31, 32, 33, 34, 35, 36, 37, 38, 39, 40, 41, 42, 43, 44, 45, 46, 47, 48, 49, 50, 51, 52, 53, 54, 55, 56, 57, 58, 59, 60, 61, 62, 63, 64, 65, 478, 479, 480, 481, 482, 505, 506, 507, 508, 509, 510, 511, 512, 513, 514, 515, 516, 517, 518, 519, 520, 521, 522, 523, 524, 525, 526, 527, 528, 529, 530, 531, 532, 533, 534, 535, 536, 537, 538, 539, 540, 541] (by decide +kernel) (by decide +kernel)
set_option maxRecDepth 20000 in
theorem gL_law_X6_init : GoodIn wsL_law (wsX6_init) := ggL_law_X6_init
set_option maxRecDepth 20000 in
theorem ggL_law_X7_init : GoodIn wsL_law wsX7_init := goodIn_r _ [68, 69, 10, 11, 41, 70, 71, 72, 73, 74, 75, 76, 5, 77, 483, 484, 485, 486, 487, 488, 489, 490, 491, 492, 493, 494, 495, 496, 497, 498, 499, 500, 501, 502, 503, 504] (by decide +kernel) (by decide +kernel)
set_option maxRecDepth 20000 in
theorem gL_law_X7_init : GoodIn wsL_law (wsX7_init) := ggL_law_X7_init
set_option maxRecDepth 20000 in
theorem ggL_law_X6_hang : GoodIn wsL_law wsX6_hang := goodIn_r _ [81, 13, 82, 83, 2, 84, 85, 86, 87, 88, 89, 90, 91, 92, 93, 94, 95, 96, 97, 31, 98, 99, 53, 54, 55, 100, 101, 102, 56, 57, 58, 103, 104, 105, 59, 60, 478, 479, 480, 481, 482, 529, 530, 531, 532, 533, 534, 535, 536, 537, 538, 539, 540, 541] (by decide +kernel) (by decide +kernel)
set_option maxRecDepth 20000 in
theorem gL_law_X6_hang : GoodIn wsL_law (wsV RL 13 RX6 yX6_hang wsX6_hang) := goodIn_app (goodIn_of _ (by decide +kernel)) ggL_law_X6_hang
set_option maxRecDepth 20000 in
theorem ggL_law_X7_hang : GoodIn wsL_law wsX7_hang := goodIn_r _ [109, 110, 111, 5, 112, 113, 114, 115, 116, 117, 118, 119, 120, 121, 74, 75, 76, 77, 70, 483, 484, 485, 486, 487, 488, 489, 490, 491, 492, 493, 494, 495, 496, 497, 498, 499, 500, 501, 502, 503, 504] (by decide +kernel) (by decide +kernel)
set_option maxRecDepth 20000 in
theorem gL_law_X7_hang : GoodIn wsL_law (wsV RL 17 RX7 yX7_hang wsX7_hang) := goodIn_app (goodIn_of _ (by decide +kernel)) ggL_law_X7_hang
set_option maxRecDepth 20000 in
theorem ggL_law_X6_wheel : GoodIn wsL_law wsX6_wheel := goodIn_r _ [125, 13, 82, 83, 2, 84, 85, 86, 87, 88, 89, 90, 91, 92, 93, 126, 31, 127, 128, 61, 62, 478, 479, 480, 481, 482, 529, 530, 531, 532, 533, 534, 535, 536, 537, 538, 539, 540, 541] (by decide +kernel) (by decide +kernel)
set_option maxRecDepth 20000 in
theorem gL_law_X6_wheel : GoodIn wsL_law (wsV RL 18 RX6 yX6_wheel wsX6_wheel) := goodIn_app (goodIn_of _ (by decide +kernel)) ggL_law_X6_wheel
set_option maxRecDepth 20000 in
theorem ggL_law_X7_wheel : GoodIn wsL_law wsX7_wheel := goodIn_r _ [132, 70, 110, 111, 5, 112, 113, 114, 115, 116, 117, 118, 483, 484, 485, 486, 487, 488, 489, 490, 491, 492, 493, 494, 495, 496, 497, 498, 499, 500, 501, 502, 503, 504] (by decide +kernel) (by decide +kernel)
set_option maxRecDepth 20000 in
theorem gL_law_X7_wheel : GoodIn wsL_law (wsV RL 22 RX7 yX7_wheel wsX7_wheel) := goodIn_app (goodIn_of _ (by decide +kernel)) ggL_law_X7_wheel
set_option maxRecDepth 20000 in
theorem ggL_law_X6_spring : GoodIn wsL_law wsX6_spring := goodIn_r _ [136, 13, 82, 83, 2, 84, 85, 86, 87, 88, 89, 90, 91, 92, 93, 137, 31, 138, 139, 63, 64, 65, 478, 479, 480, 481, 482, 529, 530, 531, 532, 533, 534, 535, 536, 537, 538, 539, 540, 541] (by decide +kernel) (by decide +kernel)
set_option maxRecDepth 20000 in
theorem gL_law_X6_spring : GoodIn wsL_law (wsV RL 23 RX6 yX6_spring wsX6_spring) := goodIn_app (goodIn_of _ (by decide +kernel)) ggL_law_X6_spring
set_option maxRecDepth 20000 in
theorem ggL_law_X7_spring : GoodIn wsL_law wsX7_spring := goodIn_r _ [143, 70, 110, 111, 5, 112, 113, 114, 115, 116, 117, 118, 483, 484, 485, 486, 487, 488, 489, 490, 491, 492, 493, 494, 495, 496, 497, 498, 499, 500, 501, 502, 503, 504] (by decide +kernel) (by decide +kernel)
set_option maxRecDepth 20000 in
theorem gL_law_X7_spring : GoodIn wsL_law (wsV RL 27 RX7 yX7_spring wsX7_spring) := goodIn_app (goodIn_of _ (by decide +kernel)) ggL_law_X7_spring
set_option maxRecDepth 20000 in
theorem ggL_law_X6_mirror : GoodIn wsL_law wsX6_mirror := goodIn_r _ [147, 13, 82, 83, 2, 84, 85, 86, 87, 148, 31, 149, 150, 53, 54, 55, 56, 57, 58, 59, 60, 61, 62, 63, 64, 65, 151, 97, 98, 99, 152, 100, 101, 102, 153, 103, 104, 105, 154, 126, 127, 128, 155, 137, 138, 139, 478, 479, 480, 481, 482, 529, 530, 531, 532, 533, 534, 535, 536, 537, 538, 539, 540, 541] (by decide +kernel) (by decide +kernel)
set_option maxRecDepth 20000 in
theorem gL_law_X6_mirror : GoodIn wsL_law (wsV RL 28 RX6 yX6_mirror wsX6_mirror) := goodIn_app (goodIn_of _ (by decide +kernel)) ggL_law_X6_mirror
set_option maxRecDepth 20000 in
theorem ggL_law_X7_mirror : GoodIn wsL_law wsX7_mirror := goodIn_r _ [159, 70, 110, 111, 5, 112, 113, 114, 115, 483, 484, 485, 486, 487, 488, 489, 490, 491, 492, 493, 494, 495, 496, 497, 498, 499, 500, 501, 502, 503, 504] (by decide +kernel) (by decide +kernel)
set_option maxRecDepth 20000 in
theorem gL_law_X7_mirror : GoodIn wsL_law (wsV RL 32 RX7 yX7_mirror wsX7_mirror) := goodIn_app (goodIn_of _ (by decide +kernel)) ggL_law_X7_mirror
set_option maxRecDepth 20000 in
theorem ggL_law_X6_pose : GoodIn wsL_law wsX6_pose := goodIn_r _ [163, 164, 13, 17, 165, 82, 83, 2, 84, 85, 86, 87, 91, 92, 93, 166, 167, 168, 169, 170, 171, 16, 172, 173, 174, 175, 176, 177, 178, 179, 180, 181, 182, 183, 184, 185, 186, 187, 188, 189, 190, 191, 192, 193, 194, 195, 196, 197, 198, 199, 200, 201, 202, 203, 204, 205, 206, 207, 208, 209, 210, 211, 212, 213, 214, 215, 216, 217, 218, 219, 220, 221, 222, 223, 224, 225, 226, 227, 228, 229, 230, 231, 478, 479, 480, 481, 482, 529, 530, 531, 532, 533, 534, 535, 536, 537, 538, 539, 540, 541, 505, 506, 507, 508, 509, 510, 511, 512, 513, 514, 515, 516, 517, 518] (by decide +kernel) (by decide +kernel)
set_option maxRecDepth 20000 in
theorem gL_law_X6_pose : GoodIn wsL_law (wsV RL 33 RX6 yX6_pose wsX6_pose) := goodIn_app (goodIn_of _ (by decide +kernel)) ggL_law_X6_pose
set_option maxRecDepth 20000 in
theorem ggL_law_X7_pose : GoodIn wsL_law wsX7_pose := goodIn_r _ [235, 236, 237, 110, 111, 5, 112, 113, 114, 115, 116, 117, 118, 238, 239, 240, 241, 242, 243, 244, 245, 246, 70, 247, 248, 249, 250, 251, 252, 253, 254, 255, 256, 257, 258, 259, 260, 261, 262, 263, 264, 265, 266, 267, 268, 269, 270, 271, 272, 273, 274, 275, 276, 277, 278, 279, 280, 281, 282, 283, 284, 483, 484, 485, 486, 487, 488, 489, 490, 491, 492, 493, 494, 495, 496, 497, 498, 499, 500, 501, 502, 503, 504] (by decide +kernel) (by decide +kernel)
set_option maxRecDepth 20000 in
theorem gL_law_X7_pose : GoodIn wsL_law (wsV RL 37 RX7 yX7_pose wsX7_pose) := goodIn_app (goodIn_of _ (by decide +kernel)) ggL_law_X7_pose
set_option maxRecDepth 20000 in
theorem ggL_law_X6_lock : GoodIn wsL_law wsX6_lock := goodIn_r _ [288, 13, 17, 82, 83, 2, 84, 85, 86, 87, 289, 290, 291, 91, 92, 93, 171, 16, 172, 173, 174, 175, 176, 177, 178, 179, 180, 181, 182, 183, 184, 185, 186, 187, 188, 189, 190, 191, 192, 193, 194, 195, 196, 478, 479, 480, 481, 482, 529, 530, 531, 532, 533, 534, 535, 536, 537, 538, 539, 540, 541, 505, 506, 507, 508, 509, 510, 511, 512, 513, 514, 515, 516, 517, 518] (by decide +kernel) (by decide +kernel)
set_option maxRecDepth 20000 in
theorem gL_law_X6_lock : GoodIn wsL_law (wsV RL 38 RX6 yX6_lock wsX6_lock) := goodIn_app (goodIn_of _ (by decide +kernel)) ggL_law_X6_lock
set_option maxRecDepth 20000 in
theorem ggL_law_X7_lock : GoodIn wsL_law wsX7_lock := goodIn_r _ [295, 110, 111, 5, 112, 113, 114, 115, 116, 117, 118, 243, 244, 245, 246, 70, 247, 248, 242, 249, 250, 251, 252, 253, 254, 255, 256, 257, 258, 483, 484, 485, 486, 487, 488, 489, 490, 491, 492, 493, 494, 495, 496, 497, 498, 499, 500, 501, 502, 503, 504] (by decide +kernel) (by decide +kernel)
set_option maxRecDepth 20000 in
theorem gL_law_X7_lock : GoodIn wsL_law (wsV RL 41 RX7 yX7_lock wsX7_lock) := goodIn_app (goodIn_of _ (by decide +kernel)) ggL_law_X7_lock
set_option maxRecDepth 20000 in
theorem ggL_law_X6_weight : GoodIn wsL_law wsX6_weight := goodIn_r _ [299, 300, 21, 85, 86, 2, 87, 301, 20, 302, 303, 304, 305, 306, 478, 479, 480, 481, 482, 519, 520, 521, 522, 523] (by decide +kernel) (by decide +kernel)
set_option maxRecDepth 20000 in
theorem gL_law_X6_weight : GoodIn wsL_law (wsV RL 42 RX6 yX6_weight wsX6_weight) := goodIn_app (goodIn_of _ (by decide +kernel)) ggL_law_X6_weight
set_option maxRecDepth 20000 in
theorem ggL_law_X7_weight : GoodIn wsL_law wsX7_weight := goodIn_r _ [310, 311, 312, 313, 314, 113, 114, 5, 115, 483, 484, 485, 486, 487, 488, 489, 490, 491, 492, 493, 494, 495, 496, 497, 498, 499, 500, 501, 502, 503, 504] (by decide +kernel) (by decide +kernel)
set_option maxRecDepth 20000 in
theorem gL_law_X7_weight : GoodIn wsL_law (wsV RL 45 RX7 yX7_weight wsX7_weight) := goodIn_app (goodIn_of _ (by decide +kernel)) ggL_law_X7_weight
set_option maxRecDepth 20000 in
theorem ggL_law_X6_push : GoodIn wsL_law wsX6_push := goodIn_r _ [318, 319, 300, 21, 85, 86, 2, 87, 320, 20, 321, 322, 323, 324, 478, 479, 480, 481, 482, 519, 520, 521, 522, 523] (by decide +kernel) (by decide +kernel)
set_option maxRecDepth 20000 in
theorem gL_law_X6_push : GoodIn wsL_law (wsV RL 46 RX6 yX6_push wsX6_push) := goodIn_app (goodIn_of _ (by decide +kernel)) ggL_law_X6_push
set_option maxRecDepth 20000 in
theorem ggL_law_X7_push : GoodIn wsL_law wsX7_push := goodIn_r _ [328, 329, 311, 330, 331, 113, 114, 5, 115, 483, 484, 485, 486, 487, 488, 489, 490, 491, 492, 493, 494, 495, 496, 497, 498, 499, 500, 501, 502, 503, 504] (by decide +kernel) (by decide +kernel)
set_option maxRecDepth 20000 in
theorem gL_law_X7_push : GoodIn wsL_law (wsV RL 49 RX7 yX7_push wsX7_push) := goodIn_app (goodIn_of _ (by decide +kernel)) ggL_law_X7_push
set_option maxRecDepth 20000 in
theorem ggL_law_X6_carries : GoodIn wsL_law wsX6_carries := goodIn_r _ [335, 21, 336, 85, 86, 2, 87, 337, 20, 338, 339, 304, 305, 323, 324, 306, 478, 479, 480, 481, 482, 519, 520, 521, 522, 523] (by decide +kernel) (by decide +kernel)
set_option maxRecDepth 20000 in
theorem gL_law_X6_carries : GoodIn wsL_law (wsV RL 50 RX6 yX6_carries wsX6_carries) := goodIn_app (goodIn_of _ (by decide +kernel)) ggL_law_X6_carries
set_option maxRecDepth 20000 in
theorem ggL_law_X7_carries : GoodIn wsL_law wsX7_carries := goodIn_r _ [343, 344, 312, 313, 330, 331, 314, 113, 114, 5, 115, 483, 484, 485, 486, 487, 488, 489, 490, 491, 492, 493, 494, 495, 496, 497, 498, 499, 500, 501, 502, 503, 504] (by decide +kernel) (by decide +kernel)
set_option maxRecDepth 20000 in
theorem gL_law_X7_carries : GoodIn wsL_law (wsV RL 54 RX7 yX7_carries wsX7_carries) := goodIn_app (goodIn_of _ (by decide +kernel)) ggL_law_X7_carries
set_option maxRecDepth 20000 in
theorem ggL_law_X6_shim : GoodIn wsL_law wsX6_shim := goodIn_r _ [348, 25, 85, 86, 2, 87, 349, 24, 350, 351, 43, 42, 478, 479, 480, 481, 482, 524, 525] (by decide +kernel) (by decide +kernel)
set_option maxRecDepth 20000 in
theorem gL_law_X6_shim : GoodIn wsL_law (wsV RL 55 RX6 yX6_shim wsX6_shim) := goodIn_app (goodIn_of _ (by decide +kernel)) ggL_law_X6_shim
set_option maxRecDepth 20000 in
theorem ggL_law_X7_shim : GoodIn wsL_law wsX7_shim := goodIn_r _ [355, 356, 71, 113, 114, 5, 115, 483, 484, 485, 486, 487, 488, 489, 490, 491, 492, 493, 494, 495, 496, 497, 498, 499, 500, 501, 502, 503, 504] (by decide +kernel) (by decide +kernel)
set_option maxRecDepth 20000 in
theorem gL_law_X7_shim : GoodIn wsL_law (wsV RL 58 RX7 yX7_shim wsX7_shim) := goodIn_app (goodIn_of _ (by decide +kernel)) ggL_law_X7_shim
set_option maxRecDepth 20000 in
theorem ggL_law_X6_best : GoodIn wsL_law wsX6_best := goodIn_r _ [360, 25, 85, 86, 2, 87, 361, 24, 362, 363, 43, 364, 365, 366, 367, 368, 369, 370, 371, 372, 373, 374, 375, 376, 377, 378, 42, 478, 479, 480, 481, 482, 524, 525] (by decide +kernel) (by decide +kernel)
set_option maxRecDepth 20000 in
theorem gL_law_X6_best : GoodIn wsL_law (wsV RL 59 RX6 yX6_best wsX6_best) := goodIn_app (goodIn_of _ (by decide +kernel)) ggL_law_X6_best
set_option maxRecDepth 20000 in
theorem ggL_law_X7_best : GoodIn wsL_law wsX7_best := goodIn_r _ [382, 356, 71, 113, 114, 5, 115, 483, 484, 485, 486, 487, 488, 489, 490, 491, 492, 493, 494, 495, 496, 497, 498, 499, 500, 501, 502, 503, 504] (by decide +kernel) (by decide +kernel)
set_option maxRecDepth 20000 in
theorem gL_law_X7_best : GoodIn wsL_law (wsV RL 62 RX7 yX7_best wsX7_best) := goodIn_app (goodIn_of _ (by decide +kernel)) ggL_law_X7_best
set_option maxRecDepth 20000 in
theorem ggL_law_X6_reading : GoodIn wsL_law wsX6_reading := goodIn_r _ [386, 29, 91, 92, 2, 93, 85, 86, 87, 387, 28, 388, 389, 49, 47, 48, 478, 479, 480, 481, 482, 526, 527, 528] (by decide +kernel) (by decide +kernel)
set_option maxRecDepth 20000 in
theorem gL_law_X6_reading : GoodIn wsL_law (wsV RL 63 RX6 yX6_reading wsX6_reading) := goodIn_app (goodIn_of _ (by decide +kernel)) ggL_law_X6_reading
set_option maxRecDepth 20000 in
theorem ggL_law_X7_reading : GoodIn wsL_law wsX7_reading := goodIn_r _ [393, 394, 72, 73, 116, 117, 5, 118, 113, 114, 115, 483, 484, 485, 486, 487, 488, 489, 490, 491, 492, 493, 494, 495, 496, 497, 498, 499, 500, 501, 502, 503, 504] (by decide +kernel) (by decide +kernel)
set_option maxRecDepth 20000 in
theorem gL_law_X7_reading : GoodIn wsL_law (wsV RL 66 RX7 yX7_reading wsX7_reading) := goodIn_app (goodIn_of _ (by decide +kernel)) ggL_law_X7_reading
set_option maxRecDepth 20000 in
theorem ggL_law_X6_clear : GoodIn wsL_law wsX6_clear := goodIn_r _ [398, 29, 478, 479, 480, 481, 482, 526, 527, 528] (by decide +kernel) (by decide +kernel)
set_option maxRecDepth 20000 in
theorem gL_law_X6_clear : GoodIn wsL_law (wsV RL 67 RX6 yX6_clear wsX6_clear) := goodIn_app (goodIn_of _ (by decide +kernel)) ggL_law_X6_clear
set_option maxRecDepth 20000 in
theorem ggL_law_X7_clear : GoodIn wsL_law wsX7_clear := goodIn_r _ [402, 394, 483, 484, 485, 486, 487, 488, 489, 490, 491, 492, 493, 494, 495, 496, 497, 498, 499, 500, 501, 502, 503, 504] (by decide +kernel) (by decide +kernel)
set_option maxRecDepth 20000 in
theorem gL_law_X7_clear : GoodIn wsL_law (wsV RL 71 RX7 yX7_clear wsX7_clear) := goodIn_app (goodIn_of _ (by decide +kernel)) ggL_law_X7_clear
set_option maxRecDepth 20000 in
theorem ggL_law_X6_off : GoodIn wsL_law wsX6_off := goodIn_r _ [406, 164, 13, 165, 82, 83, 2, 84, 85, 86, 87, 407, 408, 409, 410, 411, 29, 17, 412, 88, 89, 90, 91, 92, 93, 171, 16, 172, 173, 174, 175, 176, 177, 178, 179, 180, 181, 182, 183, 184, 185, 186, 187, 188, 189, 190, 191, 192, 193, 194, 195, 196, 206, 207, 208, 209, 210, 211, 212, 201, 202, 203, 204, 205, 478, 479, 480, 481, 482, 529, 530, 531, 532, 533, 534, 535, 536, 537, 538, 539, 540, 541, 526, 527, 528, 505, 506, 507, 508, 509, 510, 511, 512, 513, 514, 515, 516, 517, 518] (by decide +kernel) (by decide +kernel)
set_option maxRecDepth 20000 in
theorem gL_law_X6_off : GoodIn wsL_law (wsV RL 72 RX6 yX6_off wsX6_off) := goodIn_app (goodIn_of _ (by decide +kernel)) ggL_law_X6_off
set_option maxRecDepth 20000 in
theorem ggL_law_X7_off : GoodIn wsL_law wsX7_off := goodIn_r _ [416, 236, 417, 237, 110, 111, 5, 112, 113, 114, 115, 418, 419, 420, 421, 394, 72, 252, 263, 251, 73, 243, 244, 245, 246, 70, 247, 248, 242, 249, 250, 253, 254, 255, 256, 257, 258, 264, 265, 266, 267, 268, 483, 484, 485, 486, 487, 488, 489, 490, 491, 492, 493, 494, 495, 496, 497, 498, 499, 500, 501, 502, 503, 504] (by decide +kernel) (by decide +kernel)
set_option maxRecDepth 20000 in
theorem gL_law_X7_off : GoodIn wsL_law (wsV RL 76 RX7 yX7_off wsX7_off) := goodIn_app (goodIn_of _ (by decide +kernel)) ggL_law_X7_off
set_option maxRecDepth 20000 in
theorem ggL_law_X6_found : GoodIn wsL_law wsX6_found := goodIn_r _ [425, 164, 411, 13, 165, 82, 83, 2, 84, 85, 86, 87, 407, 408, 409, 410, 29, 17, 412, 88, 89, 90, 91, 92, 93, 171, 16, 172, 173, 174, 175, 176, 177, 178, 179, 180, 181, 182, 183, 184, 185, 186, 187, 188, 189, 190, 191, 192, 193, 194, 195, 196, 206, 207, 208, 209, 210, 211, 212, 201, 202, 203, 204, 205, 478, 479, 480, 481, 482, 529, 530, 531, 532, 533, 534, 535, 536, 537, 538, 539, 540, 541, 526, 527, 528, 505, 506, 507, 508, 509, 510, 511, 512, 513, 514, 515, 516, 517, 518] (by decide +kernel) (by decide +kernel)
set_option maxRecDepth 20000 in
theorem gL_law_X6_found : GoodIn wsL_law (wsV RL 77 RX6 yX6_found wsX6_found) := goodIn_app (goodIn_of _ (by decide +kernel)) ggL_law_X6_found
set_option maxRecDepth 20000 in
theorem ggL_law_X7_found : GoodIn wsL_law wsX7_found := goodIn_r _ [429, 236, 70, 417, 237, 110, 111, 5, 112, 113, 114, 115, 116, 117, 118, 418, 419, 420, 421, 394, 72, 252, 263, 251, 73, 243, 244, 245, 246, 247, 248, 242, 249, 250, 253, 254, 255, 256, 257, 258, 264, 265, 266, 267, 268, 483, 484, 485, 486, 487, 488, 489, 490, 491, 492, 493, 494, 495, 496, 497, 498, 499, 500, 501, 502, 503, 504] (by decide +kernel) (by decide +kernel)
set_option maxRecDepth 20000 in
theorem gL_law_X7_found : GoodIn wsL_law (wsV RL 80 RX7 yX7_found wsX7_found) := goodIn_app (goodIn_of _ (by decide +kernel)) ggL_law_X7_found
set_option maxRecDepth 20000 in
theorem ggL_law_X6_isClear : GoodIn wsL_law wsX6_isClear := goodIn_r _ [433, 13, 17, 82, 83, 2, 84, 85, 86, 87, 88, 89, 90, 91, 92, 93, 289, 290, 291, 171, 16, 172, 173, 174, 175, 176, 177, 178, 179, 180, 181, 182, 183, 184, 185, 186, 187, 188, 189, 190, 191, 192, 193, 194, 195, 196, 206, 207, 208, 209, 210, 211, 212, 434, 435, 436, 478, 479, 480, 481, 482, 529, 530, 531, 532, 533, 534, 535, 536, 537, 538, 539, 540, 541, 505, 506, 507, 508, 509, 510, 511, 512, 513, 514, 515, 516, 517, 518] (by decide +kernel) (by decide +kernel)
set_option maxRecDepth 20000 in
theorem gL_law_X6_isClear : GoodIn wsL_law (wsV RL 81 RX6 yX6_isClear wsX6_isClear) := goodIn_app (goodIn_of _ (by decide +kernel)) ggL_law_X6_isClear
set_option maxRecDepth 20000 in
theorem ggL_law_X7_isClear : GoodIn wsL_law wsX7_isClear := goodIn_r _ [440, 110, 111, 5, 112, 113, 114, 115, 116, 117, 118, 243, 244, 245, 246, 70, 247, 248, 242, 249, 250, 251, 252, 253, 254, 255, 256, 257, 258, 441, 442, 443, 444, 483, 484, 485, 486, 487, 488, 489, 490, 491, 492, 493, 494, 495, 496, 497, 498, 499, 500, 501, 502, 503, 504] (by decide +kernel) (by decide +kernel)
set_option maxRecDepth 20000 in
theorem gL_law_X7_isClear : GoodIn wsL_law (wsV RL 85 RX7 yX7_isClear wsX7_isClear) := goodIn_app (goodIn_of _ (by decide +kernel)) ggL_law_X7_isClear
set_option maxRecDepth 20000 in
theorem ggL_law_X6_count : GoodIn wsL_law wsX6_count := goodIn_r _ [448, 25, 29, 85, 86, 2, 87, 478, 479, 480, 481, 482, 524, 525, 526, 527, 528] (by decide +kernel) (by decide +kernel)
set_option maxRecDepth 20000 in
theorem gL_law_X6_count : GoodIn wsL_law (wsV RL 86 RX6 yX6_count wsX6_count) := goodIn_app (goodIn_of _ (by decide +kernel)) ggL_law_X6_count
set_option maxRecDepth 20000 in
theorem ggL_law_X7_count : GoodIn wsL_law wsX7_count := goodIn_r _ [452, 356, 394, 483, 484, 485, 486, 487, 488, 489, 490, 491, 492, 493, 494, 495, 496, 497, 498, 499, 500, 501, 502, 503, 504] (by decide +kernel) (by decide +kernel)
set_option maxRecDepth 20000 in
theorem gL_law_X7_count : GoodIn wsL_law (wsV RL 89 RX7 yX7_count wsX7_count) := goodIn_app (goodIn_of _ (by decide +kernel)) ggL_law_X7_count
set_option maxRecDepth 20000 in
theorem ggL_law_X6_digest : GoodIn wsL_law wsX6_digest := goodIn_r _ [456, 457, 25, 29, 13, 21, 458, 459, 2, 460, 461, 462, 31, 463, 464, 53, 54, 56, 57, 55, 58, 59, 60, 61, 62, 63, 64, 65, 337, 20, 338, 339, 304, 305, 323, 324, 306, 465, 24, 466, 467, 43, 42, 468, 28, 469, 470, 49, 47, 48, 478, 479, 480, 481, 482, 524, 525, 526, 527, 528, 529, 530, 531, 532, 533, 534, 535, 536, 537, 538, 539, 540, 541, 519, 520, 521, 522, 523] (by decide +kernel) (by decide +kernel)
set_option maxRecDepth 20000 in
theorem gL_law_X6_digest : GoodIn wsL_law (wsV RL 90 RX6 yX6_digest wsX6_digest) := goodIn_app (goodIn_of _ (by decide +kernel)) ggL_law_X6_digest
set_option maxRecDepth 20000 in
theorem ggL_law_X7_digest : GoodIn wsL_law wsX7_digest := goodIn_r _ [474, 475, 476, 356, 394, 70, 71, 72, 73, 477, 341, 342, 5, 343, 344, 312, 313, 330, 331, 314, 113, 114, 115, 483, 484, 485, 486, 487, 488, 489, 490, 491, 492, 493, 494, 495, 496, 497, 498, 499, 500, 501, 502, 503, 504] (by decide +kernel) (by decide +kernel)
set_option maxRecDepth 20000 in
theorem gL_law_X7_digest : GoodIn wsL_law (wsV RL 94 RX7 yX7_digest wsX7_digest) := goodIn_app (goodIn_of _ (by decide +kernel)) ggL_law_X7_digest
theorem dL_law_0 : decode cL_law 0 = .ok (.new 7, 3) := by decide +kernel
theorem dL_law_3 : decode cL_law 3 = .ok (.dup, 1) := by decide +kernel
theorem dL_law_4 : decode cL_law 4 = .ok (.invokespecial 9, 3) := by decide +kernel
theorem dL_law_7 : decode cL_law 7 = .ok (.astore_n 1, 1) := by decide +kernel
theorem dL_law_8 : decode cL_law 8 = .ok (.new 10, 3) := by decide +kernel
theorem dL_law_11 : decode cL_law 11 = .ok (.dup, 1) := by decide +kernel
theorem dL_law_12 : decode cL_law 12 = .ok (.invokespecial 12, 3) := by decide +kernel
theorem dL_law_15 : decode cL_law 15 = .ok (.astore_n 2, 1) := by decide +kernel
theorem dL_law_16 : decode cL_law 16 = .ok (.iconst 0, 1) := by decide +kernel
theorem dL_law_17 : decode cL_law 17 = .ok (.istore_n 3, 1) := by decide +kernel
theorem dL_law_18 : decode cL_law 18 = .ok (.iload_n 3, 1) := by decide +kernel
theorem dL_law_19 : decode cL_law 19 = .ok (.aload_n 0, 1) := by decide +kernel
theorem dL_law_20 : decode cL_law 20 = .ok (.arraylength, 1) := by decide +kernel
theorem dL_law_21 : decode cL_law 21 = .ok (.bipush 10, 2) := by decide +kernel
theorem dL_law_23 : decode cL_law 23 = .ok (.isub, 1) := by decide +kernel
theorem dL_law_24 : decode cL_law 24 = .ok (.if_icmp .gt 810, 3) := by decide +kernel
theorem dL_law_27 : decode cL_law 27 = .ok (.aload_n 0, 1) := by decide +kernel
theorem dL_law_28 : decode cL_law 28 = .ok (.iload_n 3, 1) := by decide +kernel
theorem dL_law_29 : decode cL_law 29 = .ok (.iaload, 1) := by decide +kernel
theorem dL_law_30 : decode cL_law 30 = .ok (.bipush 31, 2) := by decide +kernel
theorem dL_law_32 : decode cL_law 32 = .ok (.iand, 1) := by decide +kernel
theorem dL_law_33 : decode cL_law 33 = .ok (.tableswitch 795 0 17 #[87, 198, 241, 294, 327, 371, 414, 457, 490, 513, 536, 569, 602, 615, 639, 683, 758, 781], 87) := by decide +kernel
theorem dL_law_120 : decode cL_law 120 = .ok (.aload_n 1, 1) := by decide +kernel
theorem dL_law_121 : decode cL_law 121 = .ok (.aload_n 0, 1) := by decide +kernel
theorem dL_law_122 : decode cL_law 122 = .ok (.iload_n 3, 1) := by decide +kernel
theorem dL_law_123 : decode cL_law 123 = .ok (.iconst 1, 1) := by decide +kernel
theorem dL_law_124 : decode cL_law 124 = .ok (.iadd, 1) := by decide +kernel
theorem dL_law_125 : decode cL_law 125 = .ok (.iaload, 1) := by decide +kernel
theorem dL_law_126 : decode cL_law 126 = .ok (.aload_n 0, 1) := by decide +kernel
theorem dL_law_127 : decode cL_law 127 = .ok (.iload_n 3, 1) := by decide +kernel
theorem dL_law_128 : decode cL_law 128 = .ok (.iconst 2, 1) := by decide +kernel
theorem dL_law_129 : decode cL_law 129 = .ok (.iadd, 1) := by decide +kernel
theorem dL_law_130 : decode cL_law 130 = .ok (.iaload, 1) := by decide +kernel
theorem dL_law_131 : decode cL_law 131 = .ok (.aload_n 0, 1) := by decide +kernel
theorem dL_law_132 : decode cL_law 132 = .ok (.iload_n 3, 1) := by decide +kernel
theorem dL_law_133 : decode cL_law 133 = .ok (.iconst 3, 1) := by decide +kernel
theorem dL_law_134 : decode cL_law 134 = .ok (.iadd, 1) := by decide +kernel
theorem dL_law_135 : decode cL_law 135 = .ok (.iaload, 1) := by decide +kernel
theorem dL_law_136 : decode cL_law 136 = .ok (.aload_n 0, 1) := by decide +kernel
theorem dL_law_137 : decode cL_law 137 = .ok (.iload_n 3, 1) := by decide +kernel
theorem dL_law_138 : decode cL_law 138 = .ok (.iconst 4, 1) := by decide +kernel
theorem dL_law_139 : decode cL_law 139 = .ok (.iadd, 1) := by decide +kernel
theorem dL_law_140 : decode cL_law 140 = .ok (.iaload, 1) := by decide +kernel
theorem dL_law_141 : decode cL_law 141 = .ok (.aload_n 0, 1) := by decide +kernel
theorem dL_law_142 : decode cL_law 142 = .ok (.iload_n 3, 1) := by decide +kernel
theorem dL_law_143 : decode cL_law 143 = .ok (.iconst 5, 1) := by decide +kernel
theorem dL_law_144 : decode cL_law 144 = .ok (.iadd, 1) := by decide +kernel
theorem dL_law_145 : decode cL_law 145 = .ok (.iaload, 1) := by decide +kernel
theorem dL_law_146 : decode cL_law 146 = .ok (.aload_n 0, 1) := by decide +kernel
theorem dL_law_147 : decode cL_law 147 = .ok (.iload_n 3, 1) := by decide +kernel
theorem dL_law_148 : decode cL_law 148 = .ok (.bipush 6, 2) := by decide +kernel
theorem dL_law_150 : decode cL_law 150 = .ok (.iadd, 1) := by decide +kernel
theorem dL_law_151 : decode cL_law 151 = .ok (.iaload, 1) := by decide +kernel
theorem dL_law_152 : decode cL_law 152 = .ok (.aload_n 0, 1) := by decide +kernel
theorem dL_law_153 : decode cL_law 153 = .ok (.iload_n 3, 1) := by decide +kernel
theorem dL_law_154 : decode cL_law 154 = .ok (.bipush 7, 2) := by decide +kernel
theorem dL_law_156 : decode cL_law 156 = .ok (.iadd, 1) := by decide +kernel
theorem dL_law_157 : decode cL_law 157 = .ok (.iaload, 1) := by decide +kernel
theorem dL_law_158 : decode cL_law 158 = .ok (.aload_n 0, 1) := by decide +kernel
theorem dL_law_159 : decode cL_law 159 = .ok (.iload_n 3, 1) := by decide +kernel
theorem dL_law_160 : decode cL_law 160 = .ok (.bipush 8, 2) := by decide +kernel
theorem dL_law_162 : decode cL_law 162 = .ok (.iadd, 1) := by decide +kernel
theorem dL_law_163 : decode cL_law 163 = .ok (.iaload, 1) := by decide +kernel
theorem dL_law_164 : decode cL_law 164 = .ok (.aload_n 0, 1) := by decide +kernel
theorem dL_law_165 : decode cL_law 165 = .ok (.iload_n 3, 1) := by decide +kernel
theorem dL_law_166 : decode cL_law 166 = .ok (.bipush 9, 2) := by decide +kernel
theorem dL_law_168 : decode cL_law 168 = .ok (.iadd, 1) := by decide +kernel
theorem dL_law_169 : decode cL_law 169 = .ok (.iaload, 1) := by decide +kernel
theorem dL_law_170 : decode cL_law 170 = .ok (.invokevirtual 13, 3) := by decide +kernel
theorem dL_law_173 : decode cL_law 173 = .ok (.aload_n 2, 1) := by decide +kernel
theorem dL_law_174 : decode cL_law 174 = .ok (.aload_n 0, 1) := by decide +kernel
theorem dL_law_175 : decode cL_law 175 = .ok (.iload_n 3, 1) := by decide +kernel
theorem dL_law_176 : decode cL_law 176 = .ok (.iconst 1, 1) := by decide +kernel
theorem dL_law_177 : decode cL_law 177 = .ok (.iadd, 1) := by decide +kernel
theorem dL_law_178 : decode cL_law 178 = .ok (.iaload, 1) := by decide +kernel
theorem dL_law_179 : decode cL_law 179 = .ok (.aload_n 0, 1) := by decide +kernel
theorem dL_law_180 : decode cL_law 180 = .ok (.iload_n 3, 1) := by decide +kernel
theorem dL_law_181 : decode cL_law 181 = .ok (.iconst 2, 1) := by decide +kernel
theorem dL_law_182 : decode cL_law 182 = .ok (.iadd, 1) := by decide +kernel
theorem dL_law_183 : decode cL_law 183 = .ok (.iaload, 1) := by decide +kernel
theorem dL_law_184 : decode cL_law 184 = .ok (.aload_n 0, 1) := by decide +kernel
theorem dL_law_185 : decode cL_law 185 = .ok (.iload_n 3, 1) := by decide +kernel
theorem dL_law_186 : decode cL_law 186 = .ok (.iconst 3, 1) := by decide +kernel
theorem dL_law_187 : decode cL_law 187 = .ok (.iadd, 1) := by decide +kernel
theorem dL_law_188 : decode cL_law 188 = .ok (.iaload, 1) := by decide +kernel
theorem dL_law_189 : decode cL_law 189 = .ok (.aload_n 0, 1) := by decide +kernel
theorem dL_law_190 : decode cL_law 190 = .ok (.iload_n 3, 1) := by decide +kernel
theorem dL_law_191 : decode cL_law 191 = .ok (.iconst 4, 1) := by decide +kernel
theorem dL_law_192 : decode cL_law 192 = .ok (.iadd, 1) := by decide +kernel
theorem dL_law_193 : decode cL_law 193 = .ok (.iaload, 1) := by decide +kernel
theorem dL_law_194 : decode cL_law 194 = .ok (.aload_n 0, 1) := by decide +kernel
theorem dL_law_195 : decode cL_law 195 = .ok (.iload_n 3, 1) := by decide +kernel
theorem dL_law_196 : decode cL_law 196 = .ok (.iconst 5, 1) := by decide +kernel
theorem dL_law_197 : decode cL_law 197 = .ok (.iadd, 1) := by decide +kernel
theorem dL_law_198 : decode cL_law 198 = .ok (.iaload, 1) := by decide +kernel
theorem dL_law_199 : decode cL_law 199 = .ok (.aload_n 0, 1) := by decide +kernel
theorem dL_law_200 : decode cL_law 200 = .ok (.iload_n 3, 1) := by decide +kernel
theorem dL_law_201 : decode cL_law 201 = .ok (.bipush 6, 2) := by decide +kernel
theorem dL_law_203 : decode cL_law 203 = .ok (.iadd, 1) := by decide +kernel
theorem dL_law_204 : decode cL_law 204 = .ok (.iaload, 1) := by decide +kernel
theorem dL_law_205 : decode cL_law 205 = .ok (.aload_n 0, 1) := by decide +kernel
theorem dL_law_206 : decode cL_law 206 = .ok (.iload_n 3, 1) := by decide +kernel
theorem dL_law_207 : decode cL_law 207 = .ok (.bipush 7, 2) := by decide +kernel
theorem dL_law_209 : decode cL_law 209 = .ok (.iadd, 1) := by decide +kernel
theorem dL_law_210 : decode cL_law 210 = .ok (.iaload, 1) := by decide +kernel
theorem dL_law_211 : decode cL_law 211 = .ok (.aload_n 0, 1) := by decide +kernel
theorem dL_law_212 : decode cL_law 212 = .ok (.iload_n 3, 1) := by decide +kernel
theorem dL_law_213 : decode cL_law 213 = .ok (.bipush 8, 2) := by decide +kernel
theorem dL_law_215 : decode cL_law 215 = .ok (.iadd, 1) := by decide +kernel
theorem dL_law_216 : decode cL_law 216 = .ok (.iaload, 1) := by decide +kernel
theorem dL_law_217 : decode cL_law 217 = .ok (.aload_n 0, 1) := by decide +kernel
theorem dL_law_218 : decode cL_law 218 = .ok (.iload_n 3, 1) := by decide +kernel
theorem dL_law_219 : decode cL_law 219 = .ok (.bipush 9, 2) := by decide +kernel
theorem dL_law_221 : decode cL_law 221 = .ok (.iadd, 1) := by decide +kernel
theorem dL_law_222 : decode cL_law 222 = .ok (.iaload, 1) := by decide +kernel
theorem dL_law_223 : decode cL_law 223 = .ok (.invokevirtual 17, 3) := by decide +kernel
theorem dL_law_226 : decode cL_law 226 = .ok (.if_icmp .eq 602, 3) := by decide +kernel
theorem dL_law_229 : decode cL_law 229 = .ok (.iconst 0, 1) := by decide +kernel
theorem dL_law_230 : decode cL_law 230 = .ok (.ireturn, 1) := by decide +kernel
theorem dL_law_231 : decode cL_law 231 = .ok (.aload_n 1, 1) := by decide +kernel
theorem dL_law_232 : decode cL_law 232 = .ok (.aload_n 0, 1) := by decide +kernel
theorem dL_law_233 : decode cL_law 233 = .ok (.iload_n 3, 1) := by decide +kernel
theorem dL_law_234 : decode cL_law 234 = .ok (.iconst 1, 1) := by decide +kernel
theorem dL_law_235 : decode cL_law 235 = .ok (.iadd, 1) := by decide +kernel
theorem dL_law_236 : decode cL_law 236 = .ok (.iaload, 1) := by decide +kernel
theorem dL_law_237 : decode cL_law 237 = .ok (.aload_n 0, 1) := by decide +kernel
theorem dL_law_238 : decode cL_law 238 = .ok (.iload_n 3, 1) := by decide +kernel
theorem dL_law_239 : decode cL_law 239 = .ok (.iconst 2, 1) := by decide +kernel
theorem dL_law_240 : decode cL_law 240 = .ok (.iadd, 1) := by decide +kernel
theorem dL_law_241 : decode cL_law 241 = .ok (.iaload, 1) := by decide +kernel
theorem dL_law_242 : decode cL_law 242 = .ok (.aload_n 0, 1) := by decide +kernel
theorem dL_law_243 : decode cL_law 243 = .ok (.iload_n 3, 1) := by decide +kernel
theorem dL_law_244 : decode cL_law 244 = .ok (.iconst 3, 1) := by decide +kernel
theorem dL_law_245 : decode cL_law 245 = .ok (.iadd, 1) := by decide +kernel
theorem dL_law_246 : decode cL_law 246 = .ok (.iaload, 1) := by decide +kernel
theorem dL_law_247 : decode cL_law 247 = .ok (.invokevirtual 18, 3) := by decide +kernel
theorem dL_law_250 : decode cL_law 250 = .ok (.aload_n 2, 1) := by decide +kernel
theorem dL_law_251 : decode cL_law 251 = .ok (.aload_n 0, 1) := by decide +kernel
theorem dL_law_252 : decode cL_law 252 = .ok (.iload_n 3, 1) := by decide +kernel
theorem dL_law_253 : decode cL_law 253 = .ok (.iconst 1, 1) := by decide +kernel
theorem dL_law_254 : decode cL_law 254 = .ok (.iadd, 1) := by decide +kernel
theorem dL_law_255 : decode cL_law 255 = .ok (.iaload, 1) := by decide +kernel
theorem dL_law_256 : decode cL_law 256 = .ok (.aload_n 0, 1) := by decide +kernel
theorem dL_law_257 : decode cL_law 257 = .ok (.iload_n 3, 1) := by decide +kernel
theorem dL_law_258 : decode cL_law 258 = .ok (.iconst 2, 1) := by decide +kernel
theorem dL_law_259 : decode cL_law 259 = .ok (.iadd, 1) := by decide +kernel
theorem dL_law_260 : decode cL_law 260 = .ok (.iaload, 1) := by decide +kernel
theorem dL_law_261 : decode cL_law 261 = .ok (.aload_n 0, 1) := by decide +kernel
theorem dL_law_262 : decode cL_law 262 = .ok (.iload_n 3, 1) := by decide +kernel
theorem dL_law_263 : decode cL_law 263 = .ok (.iconst 3, 1) := by decide +kernel
theorem dL_law_264 : decode cL_law 264 = .ok (.iadd, 1) := by decide +kernel
theorem dL_law_265 : decode cL_law 265 = .ok (.iaload, 1) := by decide +kernel
theorem dL_law_266 : decode cL_law 266 = .ok (.invokevirtual 22, 3) := by decide +kernel
theorem dL_law_269 : decode cL_law 269 = .ok (.if_icmp .eq 559, 3) := by decide +kernel
theorem dL_law_272 : decode cL_law 272 = .ok (.iconst 0, 1) := by decide +kernel
theorem dL_law_273 : decode cL_law 273 = .ok (.ireturn, 1) := by decide +kernel
theorem dL_law_274 : decode cL_law 274 = .ok (.aload_n 1, 1) := by decide +kernel
theorem dL_law_275 : decode cL_law 275 = .ok (.aload_n 0, 1) := by decide +kernel
theorem dL_law_276 : decode cL_law 276 = .ok (.iload_n 3, 1) := by decide +kernel
theorem dL_law_277 : decode cL_law 277 = .ok (.iconst 1, 1) := by decide +kernel
theorem dL_law_278 : decode cL_law 278 = .ok (.iadd, 1) := by decide +kernel
theorem dL_law_279 : decode cL_law 279 = .ok (.iaload, 1) := by decide +kernel
theorem dL_law_280 : decode cL_law 280 = .ok (.aload_n 0, 1) := by decide +kernel
theorem dL_law_281 : decode cL_law 281 = .ok (.iload_n 3, 1) := by decide +kernel
theorem dL_law_282 : decode cL_law 282 = .ok (.iconst 2, 1) := by decide +kernel
theorem dL_law_283 : decode cL_law 283 = .ok (.iadd, 1) := by decide +kernel
theorem dL_law_284 : decode cL_law 284 = .ok (.iaload, 1) := by decide +kernel
theorem dL_law_285 : decode cL_law 285 = .ok (.aload_n 0, 1) := by decide +kernel
theorem dL_law_286 : decode cL_law 286 = .ok (.iload_n 3, 1) := by decide +kernel
theorem dL_law_287 : decode cL_law 287 = .ok (.iconst 3, 1) := by decide +kernel
theorem dL_law_288 : decode cL_law 288 = .ok (.iadd, 1) := by decide +kernel
theorem dL_law_289 : decode cL_law 289 = .ok (.iaload, 1) := by decide +kernel
theorem dL_law_290 : decode cL_law 290 = .ok (.aload_n 0, 1) := by decide +kernel
theorem dL_law_291 : decode cL_law 291 = .ok (.iload_n 3, 1) := by decide +kernel
theorem dL_law_292 : decode cL_law 292 = .ok (.iconst 4, 1) := by decide +kernel
theorem dL_law_293 : decode cL_law 293 = .ok (.iadd, 1) := by decide +kernel
theorem dL_law_294 : decode cL_law 294 = .ok (.iaload, 1) := by decide +kernel
theorem dL_law_295 : decode cL_law 295 = .ok (.invokevirtual 23, 3) := by decide +kernel
theorem dL_law_298 : decode cL_law 298 = .ok (.aload_n 2, 1) := by decide +kernel
theorem dL_law_299 : decode cL_law 299 = .ok (.aload_n 0, 1) := by decide +kernel
theorem dL_law_300 : decode cL_law 300 = .ok (.iload_n 3, 1) := by decide +kernel
theorem dL_law_301 : decode cL_law 301 = .ok (.iconst 1, 1) := by decide +kernel
theorem dL_law_302 : decode cL_law 302 = .ok (.iadd, 1) := by decide +kernel
theorem dL_law_303 : decode cL_law 303 = .ok (.iaload, 1) := by decide +kernel
theorem dL_law_304 : decode cL_law 304 = .ok (.aload_n 0, 1) := by decide +kernel
theorem dL_law_305 : decode cL_law 305 = .ok (.iload_n 3, 1) := by decide +kernel
theorem dL_law_306 : decode cL_law 306 = .ok (.iconst 2, 1) := by decide +kernel
theorem dL_law_307 : decode cL_law 307 = .ok (.iadd, 1) := by decide +kernel
theorem dL_law_308 : decode cL_law 308 = .ok (.iaload, 1) := by decide +kernel
theorem dL_law_309 : decode cL_law 309 = .ok (.aload_n 0, 1) := by decide +kernel
theorem dL_law_310 : decode cL_law 310 = .ok (.iload_n 3, 1) := by decide +kernel
theorem dL_law_311 : decode cL_law 311 = .ok (.iconst 3, 1) := by decide +kernel
theorem dL_law_312 : decode cL_law 312 = .ok (.iadd, 1) := by decide +kernel
theorem dL_law_313 : decode cL_law 313 = .ok (.iaload, 1) := by decide +kernel
theorem dL_law_314 : decode cL_law 314 = .ok (.aload_n 0, 1) := by decide +kernel
theorem dL_law_315 : decode cL_law 315 = .ok (.iload_n 3, 1) := by decide +kernel
theorem dL_law_316 : decode cL_law 316 = .ok (.iconst 4, 1) := by decide +kernel
theorem dL_law_317 : decode cL_law 317 = .ok (.iadd, 1) := by decide +kernel
theorem dL_law_318 : decode cL_law 318 = .ok (.iaload, 1) := by decide +kernel
theorem dL_law_319 : decode cL_law 319 = .ok (.invokevirtual 27, 3) := by decide +kernel
theorem dL_law_322 : decode cL_law 322 = .ok (.if_icmp .eq 506, 3) := by decide +kernel
theorem dL_law_325 : decode cL_law 325 = .ok (.iconst 0, 1) := by decide +kernel
theorem dL_law_326 : decode cL_law 326 = .ok (.ireturn, 1) := by decide +kernel
theorem dL_law_327 : decode cL_law 327 = .ok (.aload_n 1, 1) := by decide +kernel
theorem dL_law_328 : decode cL_law 328 = .ok (.aload_n 0, 1) := by decide +kernel
theorem dL_law_329 : decode cL_law 329 = .ok (.iload_n 3, 1) := by decide +kernel
theorem dL_law_330 : decode cL_law 330 = .ok (.iconst 1, 1) := by decide +kernel
theorem dL_law_331 : decode cL_law 331 = .ok (.iadd, 1) := by decide +kernel
theorem dL_law_332 : decode cL_law 332 = .ok (.iaload, 1) := by decide +kernel
theorem dL_law_333 : decode cL_law 333 = .ok (.aload_n 0, 1) := by decide +kernel
theorem dL_law_334 : decode cL_law 334 = .ok (.iload_n 3, 1) := by decide +kernel
theorem dL_law_335 : decode cL_law 335 = .ok (.iconst 2, 1) := by decide +kernel
theorem dL_law_336 : decode cL_law 336 = .ok (.iadd, 1) := by decide +kernel
theorem dL_law_337 : decode cL_law 337 = .ok (.iaload, 1) := by decide +kernel
theorem dL_law_338 : decode cL_law 338 = .ok (.invokevirtual 28, 3) := by decide +kernel
theorem dL_law_341 : decode cL_law 341 = .ok (.aload_n 2, 1) := by decide +kernel
theorem dL_law_342 : decode cL_law 342 = .ok (.aload_n 0, 1) := by decide +kernel
theorem dL_law_343 : decode cL_law 343 = .ok (.iload_n 3, 1) := by decide +kernel
theorem dL_law_344 : decode cL_law 344 = .ok (.iconst 1, 1) := by decide +kernel
theorem dL_law_345 : decode cL_law 345 = .ok (.iadd, 1) := by decide +kernel
theorem dL_law_346 : decode cL_law 346 = .ok (.iaload, 1) := by decide +kernel
theorem dL_law_347 : decode cL_law 347 = .ok (.aload_n 0, 1) := by decide +kernel
theorem dL_law_348 : decode cL_law 348 = .ok (.iload_n 3, 1) := by decide +kernel
theorem dL_law_349 : decode cL_law 349 = .ok (.iconst 2, 1) := by decide +kernel
theorem dL_law_350 : decode cL_law 350 = .ok (.iadd, 1) := by decide +kernel
theorem dL_law_351 : decode cL_law 351 = .ok (.iaload, 1) := by decide +kernel
theorem dL_law_352 : decode cL_law 352 = .ok (.invokevirtual 32, 3) := by decide +kernel
theorem dL_law_355 : decode cL_law 355 = .ok (.if_icmp .eq 473, 3) := by decide +kernel
theorem dL_law_358 : decode cL_law 358 = .ok (.iconst 0, 1) := by decide +kernel
theorem dL_law_359 : decode cL_law 359 = .ok (.ireturn, 1) := by decide +kernel
theorem dL_law_360 : decode cL_law 360 = .ok (.aload_n 1, 1) := by decide +kernel
theorem dL_law_361 : decode cL_law 361 = .ok (.aload_n 0, 1) := by decide +kernel
theorem dL_law_362 : decode cL_law 362 = .ok (.iload_n 3, 1) := by decide +kernel
theorem dL_law_363 : decode cL_law 363 = .ok (.iconst 1, 1) := by decide +kernel
theorem dL_law_364 : decode cL_law 364 = .ok (.iadd, 1) := by decide +kernel
theorem dL_law_365 : decode cL_law 365 = .ok (.iaload, 1) := by decide +kernel
theorem dL_law_366 : decode cL_law 366 = .ok (.aload_n 0, 1) := by decide +kernel
theorem dL_law_367 : decode cL_law 367 = .ok (.iload_n 3, 1) := by decide +kernel
theorem dL_law_368 : decode cL_law 368 = .ok (.iconst 2, 1) := by decide +kernel
theorem dL_law_369 : decode cL_law 369 = .ok (.iadd, 1) := by decide +kernel
theorem dL_law_370 : decode cL_law 370 = .ok (.iaload, 1) := by decide +kernel
theorem dL_law_371 : decode cL_law 371 = .ok (.aload_n 0, 1) := by decide +kernel
theorem dL_law_372 : decode cL_law 372 = .ok (.iload_n 3, 1) := by decide +kernel
theorem dL_law_373 : decode cL_law 373 = .ok (.iconst 3, 1) := by decide +kernel
theorem dL_law_374 : decode cL_law 374 = .ok (.iadd, 1) := by decide +kernel
theorem dL_law_375 : decode cL_law 375 = .ok (.iaload, 1) := by decide +kernel
theorem dL_law_376 : decode cL_law 376 = .ok (.invokevirtual 33, 3) := by decide +kernel
theorem dL_law_379 : decode cL_law 379 = .ok (.aload_n 2, 1) := by decide +kernel
theorem dL_law_380 : decode cL_law 380 = .ok (.aload_n 0, 1) := by decide +kernel
theorem dL_law_381 : decode cL_law 381 = .ok (.iload_n 3, 1) := by decide +kernel
theorem dL_law_382 : decode cL_law 382 = .ok (.iconst 1, 1) := by decide +kernel
theorem dL_law_383 : decode cL_law 383 = .ok (.iadd, 1) := by decide +kernel
theorem dL_law_384 : decode cL_law 384 = .ok (.iaload, 1) := by decide +kernel
theorem dL_law_385 : decode cL_law 385 = .ok (.aload_n 0, 1) := by decide +kernel
theorem dL_law_386 : decode cL_law 386 = .ok (.iload_n 3, 1) := by decide +kernel
theorem dL_law_387 : decode cL_law 387 = .ok (.iconst 2, 1) := by decide +kernel
theorem dL_law_388 : decode cL_law 388 = .ok (.iadd, 1) := by decide +kernel
theorem dL_law_389 : decode cL_law 389 = .ok (.iaload, 1) := by decide +kernel
theorem dL_law_390 : decode cL_law 390 = .ok (.aload_n 0, 1) := by decide +kernel
theorem dL_law_391 : decode cL_law 391 = .ok (.iload_n 3, 1) := by decide +kernel
theorem dL_law_392 : decode cL_law 392 = .ok (.iconst 3, 1) := by decide +kernel
theorem dL_law_393 : decode cL_law 393 = .ok (.iadd, 1) := by decide +kernel
theorem dL_law_394 : decode cL_law 394 = .ok (.iaload, 1) := by decide +kernel
theorem dL_law_395 : decode cL_law 395 = .ok (.invokevirtual 37, 3) := by decide +kernel
theorem dL_law_398 : decode cL_law 398 = .ok (.lcmp, 1) := by decide +kernel
theorem dL_law_399 : decode cL_law 399 = .ok (.ifCond .eq 429, 3) := by decide +kernel
theorem dL_law_402 : decode cL_law 402 = .ok (.iconst 0, 1) := by decide +kernel
theorem dL_law_403 : decode cL_law 403 = .ok (.ireturn, 1) := by decide +kernel
theorem dL_law_404 : decode cL_law 404 = .ok (.aload_n 1, 1) := by decide +kernel
theorem dL_law_405 : decode cL_law 405 = .ok (.aload_n 0, 1) := by decide +kernel
theorem dL_law_406 : decode cL_law 406 = .ok (.iload_n 3, 1) := by decide +kernel
theorem dL_law_407 : decode cL_law 407 = .ok (.iconst 1, 1) := by decide +kernel
theorem dL_law_408 : decode cL_law 408 = .ok (.iadd, 1) := by decide +kernel
theorem dL_law_409 : decode cL_law 409 = .ok (.iaload, 1) := by decide +kernel
theorem dL_law_410 : decode cL_law 410 = .ok (.aload_n 0, 1) := by decide +kernel
theorem dL_law_411 : decode cL_law 411 = .ok (.iload_n 3, 1) := by decide +kernel
theorem dL_law_412 : decode cL_law 412 = .ok (.iconst 2, 1) := by decide +kernel
theorem dL_law_413 : decode cL_law 413 = .ok (.iadd, 1) := by decide +kernel
theorem dL_law_414 : decode cL_law 414 = .ok (.iaload, 1) := by decide +kernel
theorem dL_law_415 : decode cL_law 415 = .ok (.aload_n 0, 1) := by decide +kernel
theorem dL_law_416 : decode cL_law 416 = .ok (.iload_n 3, 1) := by decide +kernel
theorem dL_law_417 : decode cL_law 417 = .ok (.iconst 3, 1) := by decide +kernel
theorem dL_law_418 : decode cL_law 418 = .ok (.iadd, 1) := by decide +kernel
theorem dL_law_419 : decode cL_law 419 = .ok (.iaload, 1) := by decide +kernel
theorem dL_law_420 : decode cL_law 420 = .ok (.invokevirtual 38, 3) := by decide +kernel
theorem dL_law_423 : decode cL_law 423 = .ok (.aload_n 2, 1) := by decide +kernel
theorem dL_law_424 : decode cL_law 424 = .ok (.aload_n 0, 1) := by decide +kernel
theorem dL_law_425 : decode cL_law 425 = .ok (.iload_n 3, 1) := by decide +kernel
theorem dL_law_426 : decode cL_law 426 = .ok (.iconst 1, 1) := by decide +kernel
theorem dL_law_427 : decode cL_law 427 = .ok (.iadd, 1) := by decide +kernel
theorem dL_law_428 : decode cL_law 428 = .ok (.iaload, 1) := by decide +kernel
theorem dL_law_429 : decode cL_law 429 = .ok (.aload_n 0, 1) := by decide +kernel
theorem dL_law_430 : decode cL_law 430 = .ok (.iload_n 3, 1) := by decide +kernel
theorem dL_law_431 : decode cL_law 431 = .ok (.iconst 2, 1) := by decide +kernel
theorem dL_law_432 : decode cL_law 432 = .ok (.iadd, 1) := by decide +kernel
theorem dL_law_433 : decode cL_law 433 = .ok (.iaload, 1) := by decide +kernel
theorem dL_law_434 : decode cL_law 434 = .ok (.aload_n 0, 1) := by decide +kernel
theorem dL_law_435 : decode cL_law 435 = .ok (.iload_n 3, 1) := by decide +kernel
theorem dL_law_436 : decode cL_law 436 = .ok (.iconst 3, 1) := by decide +kernel
theorem dL_law_437 : decode cL_law 437 = .ok (.iadd, 1) := by decide +kernel
theorem dL_law_438 : decode cL_law 438 = .ok (.iaload, 1) := by decide +kernel
theorem dL_law_439 : decode cL_law 439 = .ok (.invokevirtual 41, 3) := by decide +kernel
theorem dL_law_442 : decode cL_law 442 = .ok (.if_icmp .eq 386, 3) := by decide +kernel
theorem dL_law_445 : decode cL_law 445 = .ok (.iconst 0, 1) := by decide +kernel
theorem dL_law_446 : decode cL_law 446 = .ok (.ireturn, 1) := by decide +kernel
theorem dL_law_447 : decode cL_law 447 = .ok (.aload_n 1, 1) := by decide +kernel
theorem dL_law_448 : decode cL_law 448 = .ok (.aload_n 0, 1) := by decide +kernel
theorem dL_law_449 : decode cL_law 449 = .ok (.iload_n 3, 1) := by decide +kernel
theorem dL_law_450 : decode cL_law 450 = .ok (.iconst 1, 1) := by decide +kernel
theorem dL_law_451 : decode cL_law 451 = .ok (.iadd, 1) := by decide +kernel
theorem dL_law_452 : decode cL_law 452 = .ok (.iaload, 1) := by decide +kernel
theorem dL_law_453 : decode cL_law 453 = .ok (.aload_n 0, 1) := by decide +kernel
theorem dL_law_454 : decode cL_law 454 = .ok (.iload_n 3, 1) := by decide +kernel
theorem dL_law_455 : decode cL_law 455 = .ok (.iconst 2, 1) := by decide +kernel
theorem dL_law_456 : decode cL_law 456 = .ok (.iadd, 1) := by decide +kernel
theorem dL_law_457 : decode cL_law 457 = .ok (.iaload, 1) := by decide +kernel
theorem dL_law_458 : decode cL_law 458 = .ok (.aload_n 0, 1) := by decide +kernel
theorem dL_law_459 : decode cL_law 459 = .ok (.iload_n 3, 1) := by decide +kernel
theorem dL_law_460 : decode cL_law 460 = .ok (.iconst 3, 1) := by decide +kernel
theorem dL_law_461 : decode cL_law 461 = .ok (.iadd, 1) := by decide +kernel
theorem dL_law_462 : decode cL_law 462 = .ok (.iaload, 1) := by decide +kernel
theorem dL_law_463 : decode cL_law 463 = .ok (.invokevirtual 42, 3) := by decide +kernel
theorem dL_law_466 : decode cL_law 466 = .ok (.aload_n 2, 1) := by decide +kernel
theorem dL_law_467 : decode cL_law 467 = .ok (.aload_n 0, 1) := by decide +kernel
theorem dL_law_468 : decode cL_law 468 = .ok (.iload_n 3, 1) := by decide +kernel
theorem dL_law_469 : decode cL_law 469 = .ok (.iconst 1, 1) := by decide +kernel
theorem dL_law_470 : decode cL_law 470 = .ok (.iadd, 1) := by decide +kernel
theorem dL_law_471 : decode cL_law 471 = .ok (.iaload, 1) := by decide +kernel
theorem dL_law_472 : decode cL_law 472 = .ok (.aload_n 0, 1) := by decide +kernel
theorem dL_law_473 : decode cL_law 473 = .ok (.iload_n 3, 1) := by decide +kernel
theorem dL_law_474 : decode cL_law 474 = .ok (.iconst 2, 1) := by decide +kernel
theorem dL_law_475 : decode cL_law 475 = .ok (.iadd, 1) := by decide +kernel
theorem dL_law_476 : decode cL_law 476 = .ok (.iaload, 1) := by decide +kernel
theorem dL_law_477 : decode cL_law 477 = .ok (.aload_n 0, 1) := by decide +kernel
theorem dL_law_478 : decode cL_law 478 = .ok (.iload_n 3, 1) := by decide +kernel
theorem dL_law_479 : decode cL_law 479 = .ok (.iconst 3, 1) := by decide +kernel
theorem dL_law_480 : decode cL_law 480 = .ok (.iadd, 1) := by decide +kernel
theorem dL_law_481 : decode cL_law 481 = .ok (.iaload, 1) := by decide +kernel
theorem dL_law_482 : decode cL_law 482 = .ok (.invokevirtual 45, 3) := by decide +kernel
theorem dL_law_485 : decode cL_law 485 = .ok (.if_icmp .eq 343, 3) := by decide +kernel
theorem dL_law_488 : decode cL_law 488 = .ok (.iconst 0, 1) := by decide +kernel
theorem dL_law_489 : decode cL_law 489 = .ok (.ireturn, 1) := by decide +kernel
theorem dL_law_490 : decode cL_law 490 = .ok (.aload_n 1, 1) := by decide +kernel
theorem dL_law_491 : decode cL_law 491 = .ok (.aload_n 0, 1) := by decide +kernel
theorem dL_law_492 : decode cL_law 492 = .ok (.iload_n 3, 1) := by decide +kernel
theorem dL_law_493 : decode cL_law 493 = .ok (.iconst 1, 1) := by decide +kernel
theorem dL_law_494 : decode cL_law 494 = .ok (.iadd, 1) := by decide +kernel
theorem dL_law_495 : decode cL_law 495 = .ok (.iaload, 1) := by decide +kernel
theorem dL_law_496 : decode cL_law 496 = .ok (.aload_n 0, 1) := by decide +kernel
theorem dL_law_497 : decode cL_law 497 = .ok (.iload_n 3, 1) := by decide +kernel
theorem dL_law_498 : decode cL_law 498 = .ok (.iconst 2, 1) := by decide +kernel
theorem dL_law_499 : decode cL_law 499 = .ok (.iadd, 1) := by decide +kernel
theorem dL_law_500 : decode cL_law 500 = .ok (.iaload, 1) := by decide +kernel
theorem dL_law_501 : decode cL_law 501 = .ok (.invokevirtual 46, 3) := by decide +kernel
theorem dL_law_504 : decode cL_law 504 = .ok (.aload_n 2, 1) := by decide +kernel
theorem dL_law_505 : decode cL_law 505 = .ok (.aload_n 0, 1) := by decide +kernel
theorem dL_law_506 : decode cL_law 506 = .ok (.iload_n 3, 1) := by decide +kernel
theorem dL_law_507 : decode cL_law 507 = .ok (.iconst 1, 1) := by decide +kernel
theorem dL_law_508 : decode cL_law 508 = .ok (.iadd, 1) := by decide +kernel
theorem dL_law_509 : decode cL_law 509 = .ok (.iaload, 1) := by decide +kernel
theorem dL_law_510 : decode cL_law 510 = .ok (.aload_n 0, 1) := by decide +kernel
theorem dL_law_511 : decode cL_law 511 = .ok (.iload_n 3, 1) := by decide +kernel
theorem dL_law_512 : decode cL_law 512 = .ok (.iconst 2, 1) := by decide +kernel
theorem dL_law_513 : decode cL_law 513 = .ok (.iadd, 1) := by decide +kernel
theorem dL_law_514 : decode cL_law 514 = .ok (.iaload, 1) := by decide +kernel
theorem dL_law_515 : decode cL_law 515 = .ok (.invokevirtual 49, 3) := by decide +kernel
theorem dL_law_518 : decode cL_law 518 = .ok (.if_icmp .eq 310, 3) := by decide +kernel
theorem dL_law_521 : decode cL_law 521 = .ok (.iconst 0, 1) := by decide +kernel
theorem dL_law_522 : decode cL_law 522 = .ok (.ireturn, 1) := by decide +kernel
theorem dL_law_523 : decode cL_law 523 = .ok (.aload_n 1, 1) := by decide +kernel
theorem dL_law_524 : decode cL_law 524 = .ok (.aload_n 0, 1) := by decide +kernel
theorem dL_law_525 : decode cL_law 525 = .ok (.iload_n 3, 1) := by decide +kernel
theorem dL_law_526 : decode cL_law 526 = .ok (.iconst 1, 1) := by decide +kernel
theorem dL_law_527 : decode cL_law 527 = .ok (.iadd, 1) := by decide +kernel
theorem dL_law_528 : decode cL_law 528 = .ok (.iaload, 1) := by decide +kernel
theorem dL_law_529 : decode cL_law 529 = .ok (.invokevirtual 50, 3) := by decide +kernel
theorem dL_law_532 : decode cL_law 532 = .ok (.aload_n 2, 1) := by decide +kernel
theorem dL_law_533 : decode cL_law 533 = .ok (.aload_n 0, 1) := by decide +kernel
theorem dL_law_534 : decode cL_law 534 = .ok (.iload_n 3, 1) := by decide +kernel
theorem dL_law_535 : decode cL_law 535 = .ok (.iconst 1, 1) := by decide +kernel
theorem dL_law_536 : decode cL_law 536 = .ok (.iadd, 1) := by decide +kernel
theorem dL_law_537 : decode cL_law 537 = .ok (.iaload, 1) := by decide +kernel
theorem dL_law_538 : decode cL_law 538 = .ok (.invokevirtual 54, 3) := by decide +kernel
theorem dL_law_541 : decode cL_law 541 = .ok (.if_icmp .eq 287, 3) := by decide +kernel
theorem dL_law_544 : decode cL_law 544 = .ok (.iconst 0, 1) := by decide +kernel
theorem dL_law_545 : decode cL_law 545 = .ok (.ireturn, 1) := by decide +kernel
theorem dL_law_546 : decode cL_law 546 = .ok (.aload_n 1, 1) := by decide +kernel
theorem dL_law_547 : decode cL_law 547 = .ok (.aload_n 0, 1) := by decide +kernel
theorem dL_law_548 : decode cL_law 548 = .ok (.iload_n 3, 1) := by decide +kernel
theorem dL_law_549 : decode cL_law 549 = .ok (.iconst 1, 1) := by decide +kernel
theorem dL_law_550 : decode cL_law 550 = .ok (.iadd, 1) := by decide +kernel
theorem dL_law_551 : decode cL_law 551 = .ok (.iaload, 1) := by decide +kernel
theorem dL_law_552 : decode cL_law 552 = .ok (.invokevirtual 55, 3) := by decide +kernel
theorem dL_law_555 : decode cL_law 555 = .ok (.aload_n 2, 1) := by decide +kernel
theorem dL_law_556 : decode cL_law 556 = .ok (.aload_n 0, 1) := by decide +kernel
theorem dL_law_557 : decode cL_law 557 = .ok (.iload_n 3, 1) := by decide +kernel
theorem dL_law_558 : decode cL_law 558 = .ok (.iconst 1, 1) := by decide +kernel
theorem dL_law_559 : decode cL_law 559 = .ok (.iadd, 1) := by decide +kernel
theorem dL_law_560 : decode cL_law 560 = .ok (.iaload, 1) := by decide +kernel
theorem dL_law_561 : decode cL_law 561 = .ok (.invokevirtual 58, 3) := by decide +kernel
theorem dL_law_564 : decode cL_law 564 = .ok (.if_icmp .eq 264, 3) := by decide +kernel
theorem dL_law_567 : decode cL_law 567 = .ok (.iconst 0, 1) := by decide +kernel
theorem dL_law_568 : decode cL_law 568 = .ok (.ireturn, 1) := by decide +kernel
theorem dL_law_569 : decode cL_law 569 = .ok (.aload_n 1, 1) := by decide +kernel
theorem dL_law_570 : decode cL_law 570 = .ok (.aload_n 0, 1) := by decide +kernel
theorem dL_law_571 : decode cL_law 571 = .ok (.iload_n 3, 1) := by decide +kernel
theorem dL_law_572 : decode cL_law 572 = .ok (.iconst 1, 1) := by decide +kernel
theorem dL_law_573 : decode cL_law 573 = .ok (.iadd, 1) := by decide +kernel
theorem dL_law_574 : decode cL_law 574 = .ok (.iaload, 1) := by decide +kernel
theorem dL_law_575 : decode cL_law 575 = .ok (.aload_n 0, 1) := by decide +kernel
theorem dL_law_576 : decode cL_law 576 = .ok (.iload_n 3, 1) := by decide +kernel
theorem dL_law_577 : decode cL_law 577 = .ok (.iconst 2, 1) := by decide +kernel
theorem dL_law_578 : decode cL_law 578 = .ok (.iadd, 1) := by decide +kernel
theorem dL_law_579 : decode cL_law 579 = .ok (.iaload, 1) := by decide +kernel
theorem dL_law_580 : decode cL_law 580 = .ok (.invokevirtual 59, 3) := by decide +kernel
theorem dL_law_583 : decode cL_law 583 = .ok (.aload_n 2, 1) := by decide +kernel
theorem dL_law_584 : decode cL_law 584 = .ok (.aload_n 0, 1) := by decide +kernel
theorem dL_law_585 : decode cL_law 585 = .ok (.iload_n 3, 1) := by decide +kernel
theorem dL_law_586 : decode cL_law 586 = .ok (.iconst 1, 1) := by decide +kernel
theorem dL_law_587 : decode cL_law 587 = .ok (.iadd, 1) := by decide +kernel
theorem dL_law_588 : decode cL_law 588 = .ok (.iaload, 1) := by decide +kernel
theorem dL_law_589 : decode cL_law 589 = .ok (.aload_n 0, 1) := by decide +kernel
theorem dL_law_590 : decode cL_law 590 = .ok (.iload_n 3, 1) := by decide +kernel
theorem dL_law_591 : decode cL_law 591 = .ok (.iconst 2, 1) := by decide +kernel
theorem dL_law_592 : decode cL_law 592 = .ok (.iadd, 1) := by decide +kernel
theorem dL_law_593 : decode cL_law 593 = .ok (.iaload, 1) := by decide +kernel
theorem dL_law_594 : decode cL_law 594 = .ok (.invokevirtual 62, 3) := by decide +kernel
theorem dL_law_597 : decode cL_law 597 = .ok (.if_icmp .eq 231, 3) := by decide +kernel
theorem dL_law_600 : decode cL_law 600 = .ok (.iconst 0, 1) := by decide +kernel
theorem dL_law_601 : decode cL_law 601 = .ok (.ireturn, 1) := by decide +kernel
theorem dL_law_602 : decode cL_law 602 = .ok (.aload_n 1, 1) := by decide +kernel
theorem dL_law_603 : decode cL_law 603 = .ok (.aload_n 0, 1) := by decide +kernel
theorem dL_law_604 : decode cL_law 604 = .ok (.iload_n 3, 1) := by decide +kernel
theorem dL_law_605 : decode cL_law 605 = .ok (.iconst 1, 1) := by decide +kernel
theorem dL_law_606 : decode cL_law 606 = .ok (.iadd, 1) := by decide +kernel
theorem dL_law_607 : decode cL_law 607 = .ok (.iaload, 1) := by decide +kernel
theorem dL_law_608 : decode cL_law 608 = .ok (.aload_n 0, 1) := by decide +kernel
theorem dL_law_609 : decode cL_law 609 = .ok (.iload_n 3, 1) := by decide +kernel
theorem dL_law_610 : decode cL_law 610 = .ok (.iconst 2, 1) := by decide +kernel
theorem dL_law_611 : decode cL_law 611 = .ok (.iadd, 1) := by decide +kernel
theorem dL_law_612 : decode cL_law 612 = .ok (.iaload, 1) := by decide +kernel
theorem dL_law_613 : decode cL_law 613 = .ok (.invokevirtual 63, 3) := by decide +kernel
theorem dL_law_616 : decode cL_law 616 = .ok (.aload_n 2, 1) := by decide +kernel
theorem dL_law_617 : decode cL_law 617 = .ok (.aload_n 0, 1) := by decide +kernel
theorem dL_law_618 : decode cL_law 618 = .ok (.iload_n 3, 1) := by decide +kernel
theorem dL_law_619 : decode cL_law 619 = .ok (.iconst 1, 1) := by decide +kernel
theorem dL_law_620 : decode cL_law 620 = .ok (.iadd, 1) := by decide +kernel
theorem dL_law_621 : decode cL_law 621 = .ok (.iaload, 1) := by decide +kernel
theorem dL_law_622 : decode cL_law 622 = .ok (.aload_n 0, 1) := by decide +kernel
theorem dL_law_623 : decode cL_law 623 = .ok (.iload_n 3, 1) := by decide +kernel
theorem dL_law_624 : decode cL_law 624 = .ok (.iconst 2, 1) := by decide +kernel
theorem dL_law_625 : decode cL_law 625 = .ok (.iadd, 1) := by decide +kernel
theorem dL_law_626 : decode cL_law 626 = .ok (.iaload, 1) := by decide +kernel
theorem dL_law_627 : decode cL_law 627 = .ok (.invokevirtual 66, 3) := by decide +kernel
theorem dL_law_630 : decode cL_law 630 = .ok (.if_icmp .eq 198, 3) := by decide +kernel
theorem dL_law_633 : decode cL_law 633 = .ok (.iconst 0, 1) := by decide +kernel
theorem dL_law_634 : decode cL_law 634 = .ok (.ireturn, 1) := by decide +kernel
theorem dL_law_635 : decode cL_law 635 = .ok (.aload_n 1, 1) := by decide +kernel
theorem dL_law_636 : decode cL_law 636 = .ok (.invokevirtual 67, 3) := by decide +kernel
theorem dL_law_639 : decode cL_law 639 = .ok (.aload_n 2, 1) := by decide +kernel
theorem dL_law_640 : decode cL_law 640 = .ok (.invokevirtual 71, 3) := by decide +kernel
theorem dL_law_643 : decode cL_law 643 = .ok (.if_icmp .eq 185, 3) := by decide +kernel
theorem dL_law_646 : decode cL_law 646 = .ok (.iconst 0, 1) := by decide +kernel
theorem dL_law_647 : decode cL_law 647 = .ok (.ireturn, 1) := by decide +kernel
theorem dL_law_648 : decode cL_law 648 = .ok (.aload_n 1, 1) := by decide +kernel
theorem dL_law_649 : decode cL_law 649 = .ok (.aload_n 0, 1) := by decide +kernel
theorem dL_law_650 : decode cL_law 650 = .ok (.iload_n 3, 1) := by decide +kernel
theorem dL_law_651 : decode cL_law 651 = .ok (.iconst 1, 1) := by decide +kernel
theorem dL_law_652 : decode cL_law 652 = .ok (.iadd, 1) := by decide +kernel
theorem dL_law_653 : decode cL_law 653 = .ok (.iaload, 1) := by decide +kernel
theorem dL_law_654 : decode cL_law 654 = .ok (.invokevirtual 72, 3) := by decide +kernel
theorem dL_law_657 : decode cL_law 657 = .ok (.aload_n 2, 1) := by decide +kernel
theorem dL_law_658 : decode cL_law 658 = .ok (.aload_n 0, 1) := by decide +kernel
theorem dL_law_659 : decode cL_law 659 = .ok (.iload_n 3, 1) := by decide +kernel
theorem dL_law_660 : decode cL_law 660 = .ok (.iconst 1, 1) := by decide +kernel
theorem dL_law_661 : decode cL_law 661 = .ok (.iadd, 1) := by decide +kernel
theorem dL_law_662 : decode cL_law 662 = .ok (.iaload, 1) := by decide +kernel
theorem dL_law_663 : decode cL_law 663 = .ok (.invokevirtual 76, 3) := by decide +kernel
theorem dL_law_666 : decode cL_law 666 = .ok (.lcmp, 1) := by decide +kernel
theorem dL_law_667 : decode cL_law 667 = .ok (.ifCond .eq 161, 3) := by decide +kernel
theorem dL_law_670 : decode cL_law 670 = .ok (.iconst 0, 1) := by decide +kernel
theorem dL_law_671 : decode cL_law 671 = .ok (.ireturn, 1) := by decide +kernel
theorem dL_law_672 : decode cL_law 672 = .ok (.aload_n 1, 1) := by decide +kernel
theorem dL_law_673 : decode cL_law 673 = .ok (.aload_n 0, 1) := by decide +kernel
theorem dL_law_674 : decode cL_law 674 = .ok (.iload_n 3, 1) := by decide +kernel
theorem dL_law_675 : decode cL_law 675 = .ok (.iconst 1, 1) := by decide +kernel
theorem dL_law_676 : decode cL_law 676 = .ok (.iadd, 1) := by decide +kernel
theorem dL_law_677 : decode cL_law 677 = .ok (.iaload, 1) := by decide +kernel
theorem dL_law_678 : decode cL_law 678 = .ok (.aload_n 0, 1) := by decide +kernel
theorem dL_law_679 : decode cL_law 679 = .ok (.iload_n 3, 1) := by decide +kernel
theorem dL_law_680 : decode cL_law 680 = .ok (.iconst 2, 1) := by decide +kernel
theorem dL_law_681 : decode cL_law 681 = .ok (.iadd, 1) := by decide +kernel
theorem dL_law_682 : decode cL_law 682 = .ok (.iaload, 1) := by decide +kernel
theorem dL_law_683 : decode cL_law 683 = .ok (.aload_n 0, 1) := by decide +kernel
theorem dL_law_684 : decode cL_law 684 = .ok (.iload_n 3, 1) := by decide +kernel
theorem dL_law_685 : decode cL_law 685 = .ok (.iconst 3, 1) := by decide +kernel
theorem dL_law_686 : decode cL_law 686 = .ok (.iadd, 1) := by decide +kernel
theorem dL_law_687 : decode cL_law 687 = .ok (.iaload, 1) := by decide +kernel
theorem dL_law_688 : decode cL_law 688 = .ok (.invokevirtual 77, 3) := by decide +kernel
theorem dL_law_691 : decode cL_law 691 = .ok (.aload_n 2, 1) := by decide +kernel
theorem dL_law_692 : decode cL_law 692 = .ok (.aload_n 0, 1) := by decide +kernel
theorem dL_law_693 : decode cL_law 693 = .ok (.iload_n 3, 1) := by decide +kernel
theorem dL_law_694 : decode cL_law 694 = .ok (.iconst 1, 1) := by decide +kernel
theorem dL_law_695 : decode cL_law 695 = .ok (.iadd, 1) := by decide +kernel
theorem dL_law_696 : decode cL_law 696 = .ok (.iaload, 1) := by decide +kernel
theorem dL_law_697 : decode cL_law 697 = .ok (.aload_n 0, 1) := by decide +kernel
theorem dL_law_698 : decode cL_law 698 = .ok (.iload_n 3, 1) := by decide +kernel
theorem dL_law_699 : decode cL_law 699 = .ok (.iconst 2, 1) := by decide +kernel
theorem dL_law_700 : decode cL_law 700 = .ok (.iadd, 1) := by decide +kernel
theorem dL_law_701 : decode cL_law 701 = .ok (.iaload, 1) := by decide +kernel
theorem dL_law_702 : decode cL_law 702 = .ok (.aload_n 0, 1) := by decide +kernel
theorem dL_law_703 : decode cL_law 703 = .ok (.iload_n 3, 1) := by decide +kernel
theorem dL_law_704 : decode cL_law 704 = .ok (.iconst 3, 1) := by decide +kernel
theorem dL_law_705 : decode cL_law 705 = .ok (.iadd, 1) := by decide +kernel
theorem dL_law_706 : decode cL_law 706 = .ok (.iaload, 1) := by decide +kernel
theorem dL_law_707 : decode cL_law 707 = .ok (.invokevirtual 80, 3) := by decide +kernel
theorem dL_law_710 : decode cL_law 710 = .ok (.lcmp, 1) := by decide +kernel
theorem dL_law_711 : decode cL_law 711 = .ok (.ifCond .eq 117, 3) := by decide +kernel
theorem dL_law_714 : decode cL_law 714 = .ok (.iconst 0, 1) := by decide +kernel
theorem dL_law_715 : decode cL_law 715 = .ok (.ireturn, 1) := by decide +kernel
theorem dL_law_716 : decode cL_law 716 = .ok (.aload_n 1, 1) := by decide +kernel
theorem dL_law_717 : decode cL_law 717 = .ok (.aload_n 0, 1) := by decide +kernel
theorem dL_law_718 : decode cL_law 718 = .ok (.iload_n 3, 1) := by decide +kernel
theorem dL_law_719 : decode cL_law 719 = .ok (.iconst 1, 1) := by decide +kernel
theorem dL_law_720 : decode cL_law 720 = .ok (.iadd, 1) := by decide +kernel
theorem dL_law_721 : decode cL_law 721 = .ok (.iaload, 1) := by decide +kernel
theorem dL_law_722 : decode cL_law 722 = .ok (.aload_n 0, 1) := by decide +kernel
theorem dL_law_723 : decode cL_law 723 = .ok (.iload_n 3, 1) := by decide +kernel
theorem dL_law_724 : decode cL_law 724 = .ok (.iconst 2, 1) := by decide +kernel
theorem dL_law_725 : decode cL_law 725 = .ok (.iadd, 1) := by decide +kernel
theorem dL_law_726 : decode cL_law 726 = .ok (.iaload, 1) := by decide +kernel
theorem dL_law_727 : decode cL_law 727 = .ok (.aload_n 0, 1) := by decide +kernel
theorem dL_law_728 : decode cL_law 728 = .ok (.iload_n 3, 1) := by decide +kernel
theorem dL_law_729 : decode cL_law 729 = .ok (.iconst 3, 1) := by decide +kernel
theorem dL_law_730 : decode cL_law 730 = .ok (.iadd, 1) := by decide +kernel
theorem dL_law_731 : decode cL_law 731 = .ok (.iaload, 1) := by decide +kernel
theorem dL_law_732 : decode cL_law 732 = .ok (.aload_n 0, 1) := by decide +kernel
theorem dL_law_733 : decode cL_law 733 = .ok (.iload_n 3, 1) := by decide +kernel
theorem dL_law_734 : decode cL_law 734 = .ok (.iconst 4, 1) := by decide +kernel
theorem dL_law_735 : decode cL_law 735 = .ok (.iadd, 1) := by decide +kernel
theorem dL_law_736 : decode cL_law 736 = .ok (.iaload, 1) := by decide +kernel
theorem dL_law_737 : decode cL_law 737 = .ok (.aload_n 0, 1) := by decide +kernel
theorem dL_law_738 : decode cL_law 738 = .ok (.iload_n 3, 1) := by decide +kernel
theorem dL_law_739 : decode cL_law 739 = .ok (.iconst 5, 1) := by decide +kernel
theorem dL_law_740 : decode cL_law 740 = .ok (.iadd, 1) := by decide +kernel
theorem dL_law_741 : decode cL_law 741 = .ok (.iaload, 1) := by decide +kernel
theorem dL_law_742 : decode cL_law 742 = .ok (.aload_n 0, 1) := by decide +kernel
theorem dL_law_743 : decode cL_law 743 = .ok (.iload_n 3, 1) := by decide +kernel
theorem dL_law_744 : decode cL_law 744 = .ok (.bipush 6, 2) := by decide +kernel
theorem dL_law_746 : decode cL_law 746 = .ok (.iadd, 1) := by decide +kernel
theorem dL_law_747 : decode cL_law 747 = .ok (.iaload, 1) := by decide +kernel
theorem dL_law_748 : decode cL_law 748 = .ok (.invokevirtual 81, 3) := by decide +kernel
theorem dL_law_751 : decode cL_law 751 = .ok (.aload_n 2, 1) := by decide +kernel
theorem dL_law_752 : decode cL_law 752 = .ok (.aload_n 0, 1) := by decide +kernel
theorem dL_law_753 : decode cL_law 753 = .ok (.iload_n 3, 1) := by decide +kernel
theorem dL_law_754 : decode cL_law 754 = .ok (.iconst 1, 1) := by decide +kernel
theorem dL_law_755 : decode cL_law 755 = .ok (.iadd, 1) := by decide +kernel
theorem dL_law_756 : decode cL_law 756 = .ok (.iaload, 1) := by decide +kernel
theorem dL_law_757 : decode cL_law 757 = .ok (.aload_n 0, 1) := by decide +kernel
theorem dL_law_758 : decode cL_law 758 = .ok (.iload_n 3, 1) := by decide +kernel
theorem dL_law_759 : decode cL_law 759 = .ok (.iconst 2, 1) := by decide +kernel
theorem dL_law_760 : decode cL_law 760 = .ok (.iadd, 1) := by decide +kernel
theorem dL_law_761 : decode cL_law 761 = .ok (.iaload, 1) := by decide +kernel
theorem dL_law_762 : decode cL_law 762 = .ok (.aload_n 0, 1) := by decide +kernel
theorem dL_law_763 : decode cL_law 763 = .ok (.iload_n 3, 1) := by decide +kernel
theorem dL_law_764 : decode cL_law 764 = .ok (.iconst 3, 1) := by decide +kernel
theorem dL_law_765 : decode cL_law 765 = .ok (.iadd, 1) := by decide +kernel
theorem dL_law_766 : decode cL_law 766 = .ok (.iaload, 1) := by decide +kernel
theorem dL_law_767 : decode cL_law 767 = .ok (.aload_n 0, 1) := by decide +kernel
theorem dL_law_768 : decode cL_law 768 = .ok (.iload_n 3, 1) := by decide +kernel
theorem dL_law_769 : decode cL_law 769 = .ok (.iconst 4, 1) := by decide +kernel
theorem dL_law_770 : decode cL_law 770 = .ok (.iadd, 1) := by decide +kernel
theorem dL_law_771 : decode cL_law 771 = .ok (.iaload, 1) := by decide +kernel
theorem dL_law_772 : decode cL_law 772 = .ok (.aload_n 0, 1) := by decide +kernel
theorem dL_law_773 : decode cL_law 773 = .ok (.iload_n 3, 1) := by decide +kernel
theorem dL_law_774 : decode cL_law 774 = .ok (.iconst 5, 1) := by decide +kernel
theorem dL_law_775 : decode cL_law 775 = .ok (.iadd, 1) := by decide +kernel
theorem dL_law_776 : decode cL_law 776 = .ok (.iaload, 1) := by decide +kernel
theorem dL_law_777 : decode cL_law 777 = .ok (.aload_n 0, 1) := by decide +kernel
theorem dL_law_778 : decode cL_law 778 = .ok (.iload_n 3, 1) := by decide +kernel
theorem dL_law_779 : decode cL_law 779 = .ok (.bipush 6, 2) := by decide +kernel
theorem dL_law_781 : decode cL_law 781 = .ok (.iadd, 1) := by decide +kernel
theorem dL_law_782 : decode cL_law 782 = .ok (.iaload, 1) := by decide +kernel
theorem dL_law_783 : decode cL_law 783 = .ok (.invokevirtual 85, 3) := by decide +kernel
theorem dL_law_786 : decode cL_law 786 = .ok (.if_icmp .eq 42, 3) := by decide +kernel
theorem dL_law_789 : decode cL_law 789 = .ok (.iconst 0, 1) := by decide +kernel
theorem dL_law_790 : decode cL_law 790 = .ok (.ireturn, 1) := by decide +kernel
theorem dL_law_791 : decode cL_law 791 = .ok (.aload_n 1, 1) := by decide +kernel
theorem dL_law_792 : decode cL_law 792 = .ok (.aload_n 0, 1) := by decide +kernel
theorem dL_law_793 : decode cL_law 793 = .ok (.iload_n 3, 1) := by decide +kernel
theorem dL_law_794 : decode cL_law 794 = .ok (.iconst 1, 1) := by decide +kernel
theorem dL_law_795 : decode cL_law 795 = .ok (.iadd, 1) := by decide +kernel
theorem dL_law_796 : decode cL_law 796 = .ok (.iaload, 1) := by decide +kernel
theorem dL_law_797 : decode cL_law 797 = .ok (.invokevirtual 86, 3) := by decide +kernel
theorem dL_law_800 : decode cL_law 800 = .ok (.aload_n 2, 1) := by decide +kernel
theorem dL_law_801 : decode cL_law 801 = .ok (.aload_n 0, 1) := by decide +kernel
theorem dL_law_802 : decode cL_law 802 = .ok (.iload_n 3, 1) := by decide +kernel
theorem dL_law_803 : decode cL_law 803 = .ok (.iconst 1, 1) := by decide +kernel
theorem dL_law_804 : decode cL_law 804 = .ok (.iadd, 1) := by decide +kernel
theorem dL_law_805 : decode cL_law 805 = .ok (.iaload, 1) := by decide +kernel
theorem dL_law_806 : decode cL_law 806 = .ok (.invokevirtual 89, 3) := by decide +kernel
theorem dL_law_809 : decode cL_law 809 = .ok (.if_icmp .eq 19, 3) := by decide +kernel
theorem dL_law_812 : decode cL_law 812 = .ok (.iconst 0, 1) := by decide +kernel
theorem dL_law_813 : decode cL_law 813 = .ok (.ireturn, 1) := by decide +kernel
theorem dL_law_814 : decode cL_law 814 = .ok (.aload_n 1, 1) := by decide +kernel
theorem dL_law_815 : decode cL_law 815 = .ok (.invokevirtual 90, 3) := by decide +kernel
theorem dL_law_818 : decode cL_law 818 = .ok (.aload_n 2, 1) := by decide +kernel
theorem dL_law_819 : decode cL_law 819 = .ok (.invokevirtual 94, 3) := by decide +kernel
theorem dL_law_822 : decode cL_law 822 = .ok (.lcmp, 1) := by decide +kernel
theorem dL_law_823 : decode cL_law 823 = .ok (.ifCond .eq 5, 3) := by decide +kernel
theorem dL_law_826 : decode cL_law 826 = .ok (.iconst 0, 1) := by decide +kernel
theorem dL_law_827 : decode cL_law 827 = .ok (.ireturn, 1) := by decide +kernel
theorem dL_law_828 : decode cL_law 828 = .ok (.iinc 3 10, 3) := by decide +kernel
theorem dL_law_831 : decode cL_law 831 = .ok (.goto (-813), 3) := by decide +kernel
theorem dL_law_834 : decode cL_law 834 = .ok (.iconst 1, 1) := by decide +kernel
theorem dL_law_835 : decode cL_law 835 = .ok (.ireturn, 1) := by decide +kernel
abbrev vwCl : List vw_C := [(RX0, TX0, 5), (RX2, TX2, 13), (RX3, TX3, 3), (RX4, TX4, 2), (RX5, TX5, 14), (RX6, TX6, 5), (RX7, TX7, 22)]
end
section
/-! DOUBLES AS WHOLE NUMBERS: fv is the value of a double in units of 2^-1074; fRn is rounding to nearest, on naturals -/
abbrev fB : FP.Core.Fmt := FP.Core.b64
def fv (a : UInt64) : Int := FP.Core.zval FP.Core.b64 (FP.Core.val64 a)
/-- Z is A/B rounded to a double (all in units of 2^-1074), ties left open -/
def fRn (A B Z : Nat) : Prop := ∃ j c : Nat, Z = c * 2 ^ j ∧ c ≤ 2 ^ 53 ∧ A < B * 2 ^ (j + 53) ∧ (j = 0 ∨ B * 2 ^ (j + 52) ≤ A) ∧ 2 * A ≤ (2 * c + 1) * (B * 2 ^ j) ∧ 2 * c * (B * 2 ^ j) ≤ 2 * A + B * 2 ^ j
def fRI (N : Int) (B : Nat) (z : Int) : Prop := fRn N.natAbs B z.natAbs ∧ (0 ≤ N → 0 ≤ z) ∧ (N ≤ 0 → z ≤ 0)
theorem fp_qmin : FP.Core.b64.qmin = -1074 := FP.Core.qmin_b64
theorem fp_qmax : FP.Core.b64.qmax = 971 := by decide
theorem fp_tails : FP.Core.b64.tails = 2 ^ 52 := FP.Core.tails_b64
theorem fp_core (s : Bool) {A B : Nat} (hB : 0 < B) (hlt : A < B * 2 ^ 2097) : ∃ c q, FP.Core.roundRatio FP.Core.b64 s A B (-1074) = .fin s c q ∧ fRn A B (FP.Core.zmag FP.Core.b64 (.fin s c q)) := by
  by_cases hA0 : A = 0
  · subst hA0
    refine ⟨0, FP.Core.b64.qmin, if_pos rfl, 0, 0, ?_, by omega, ?_, Or.inl rfl, by omega, by omega⟩
    · show 0 * _ = 0 * _
      omega
    · have := Nat.mul_pos hB (Nat.two_pow_pos (0 + 53))
      omega
  · have hA : 0 < A := Nat.pos_of_ne_zero hA0
    have hge := FP.Core.quantum_ge FP.Core.b64 A B (-1074)
    have hbe := FP.Core.quantum_below (f := FP.Core.b64) hA hB (-1074)
    have hnb := FP.Core.quantum_not_below (f := FP.Core.b64) hA hB (-1074)
    have hrr : FP.Core.roundRatio FP.Core.b64 s A B (-1074) = FP.Core.roundAt FP.Core.b64 s A B (-1074) (FP.Core.quantum FP.Core.b64 A B (-1074)) := if_neg hA0
    rw [hrr]
    generalize FP.Core.quantum FP.Core.b64 A B (-1074) = q at hge hbe hnb
    rw [fp_qmin] at hge hnb
    obtain ⟨j, rfl⟩ : ∃ j : Nat, q = (j : Int) - 1074 := ⟨(q + 1074).toNat, by omega⟩
    have hp : (FP.Core.b64.p : Int) = 53 := rfl
    rw [show ((j : Int) - 1074 - -1074 + (FP.Core.b64.p : Int)) = (((j + 53 : Nat) : Int) - ((0 : Nat) : Int)) by rw [hp]; omega, FP.Core.below_iff] at hbe
    rw [show ((j : Int) - 1074 - -1074 + ((FP.Core.b64.p : Int) - 1)) = (((j + 52 : Nat) : Int) - ((0 : Nat) : Int)) by rw [hp]; omega, FP.Core.below_iff] at hnb
    have hbe : A < B * 2 ^ (j + 53) := by simpa using hbe
    have hnb : j = 0 ∨ B * 2 ^ (j + 52) ≤ A := by
      rcases hnb with h | h
      · exact Or.inl (by omega)
      · exact Or.inr (by simpa using h)
    have hj : j ≤ 2044 := by
      rcases hnb with h | h
      · omega
      · have h1 : B * 2 ^ (j + 52) < B * 2 ^ 2097 := Nat.lt_of_le_of_lt h hlt
        have h2 : 2 ^ (j + 52) < 2 ^ 2097 := Nat.lt_of_mul_lt_mul_left h1
        have h3 := (Nat.pow_lt_pow_iff_right (a := 2) (by omega)).mp h2
        omega
    have hun : FP.Core.unitsNum A (-1074) ((j : Int) - 1074) = A := by
      unfold FP.Core.unitsNum
      rw [show (-1074 - ((j : Int) - 1074)).toNat = 0 by omega]
      omega
    have hud : FP.Core.unitsDen B (-1074) ((j : Int) - 1074) = B * 2 ^ j := by
      unfold FP.Core.unitsDen
      rw [show (((j : Int) - 1074) - -1074).toNat = j by omega]
    have hBj : 0 < B * 2 ^ j := Nat.mul_pos hB (Nat.two_pow_pos j)
    have hc53 : FP.Core.nearest A (B * 2 ^ j) ≤ 2 ^ 53 := FP.Core.nearest_le hBj (Nat.le_of_lt (by
      have : 2 ^ 53 * (B * 2 ^ j) = B * 2 ^ (j + 53) := by rw [Nat.pow_add]; ac_rfl
      omega))
    obtain ⟨hn1, hn2, -⟩ := FP.Core.nearest_spec A (B * 2 ^ j) hBj
    unfold FP.Core.roundAt
    rw [hun, hud]
    generalize FP.Core.nearest A (B * 2 ^ j) = c at hc53 hn1 hn2
    unfold FP.Core.settle
    have hp2 : FP.Core.b64.p = 53 := rfl
    rw [hp2]
    by_cases hc : c < 2 ^ 53
    · rw [if_pos hc]
      unfold FP.Core.bound
      rw [if_pos (by rw [fp_qmax]; omega)]
      refine ⟨c, _, rfl, j, c, ?_, hc53, hbe, hnb, hn1, hn2⟩
      show c * 2 ^ (((j : Int) - 1074) - FP.Core.b64.qmin).toNat = _
      rw [fp_qmin, show (((j : Int) - 1074) - -1074).toNat = j by omega]
    · rw [if_neg hc]
      unfold FP.Core.bound
      rw [if_pos (by rw [fp_qmax]; omega)]
      refine ⟨_, _, rfl, j, c, ?_, hc53, hbe, hnb, hn1, hn2⟩
      show FP.Core.b64.tails * 2 ^ (((j : Int) - 1074) + 1 - FP.Core.b64.qmin).toNat = _
      rw [fp_qmin, fp_tails, show (((j : Int) - 1074) + 1 - -1074).toNat = j + 1 by omega, show c = 2 ^ 53 by omega, Nat.pow_succ 2 j]
      omega
theorem fp_rn0 {B Z : Nat} (hB : 0 < B) (h : fRn 0 B Z) : Z = 0 := by
  obtain ⟨j, c, rfl, -, -, -, -, h2⟩ := h
  have hBj : 0 < B * 2 ^ j := Nat.mul_pos hB (Nat.two_pow_pos j)
  rcases Nat.eq_zero_or_pos c with h0 | h0
  · subst h0; omega
  · have : 2 * 1 * (B * 2 ^ j) ≤ 2 * c * (B * 2 ^ j) := Nat.mul_le_mul_right _ (by omega)
    omega
theorem fp_round {x : UInt64} {s : Bool} {A B : Nat} (hB : 0 < B) (hx : FP.Core.val64 x = FP.Core.roundRatio FP.Core.b64 s A B (-1074)) (hlt : A < B * 2 ^ 2097) {N : Int} (hN : FP.Core.signed s A = N) : FP.Core.DFin x ∧ fRI N B (fv x) := by
  obtain ⟨c, q, h1, h2⟩ := fp_core s hB hlt
  rw [h1] at hx
  refine ⟨⟨s, c, q, hx⟩, ?_⟩
  have hfv : fv x = FP.Core.signed s (FP.Core.zmag FP.Core.b64 (.fin s c q)) := by unfold fv; rw [hx]; rfl
  rw [hfv]
  generalize FP.Core.zmag FP.Core.b64 (.fin s c q) = Z at h2
  refine ⟨?_, ?_, ?_⟩
  · rw [FP.Core.natAbs_signed, ← hN, FP.Core.natAbs_signed]; exact h2
  · intro h
    cases s with
    | false => exact Int.natCast_nonneg Z
    | true =>
      have hA : A = 0 := by
        have : FP.Core.signed true A = -(A : Int) := rfl
        omega
      subst hA
      rw [fp_rn0 hB h2]; exact Int.le_refl 0
  · intro h
    cases s with
    | true =>
      have : FP.Core.signed true Z = -(Z : Int) := rfl
      omega
    | false =>
      have hA : A = 0 := by
        have : FP.Core.signed false A = (A : Int) := rfl
        omega
      subst hA
      rw [fp_rn0 hB h2]; exact Int.le_refl 0
theorem fp_fits {a : UInt64} {s : Bool} {c : Nat} {q : Int} (h : FP.Core.val64 a = .fin s c q) : FP.Core.fits FP.Core.b64 (.fin s c q) := h ▸ FP.Core.val64_fits a
theorem fp_sum {x : UInt64} {dx dy : FP.Core.Datum} (hx : FP.Core.val64 x = FP.Core.round FP.Core.b64 (FP.Core.exactSum dx dy)) (h1 : ∃ s c q, dx = .fin s c q) (h2 : ∃ s c q, dy = .fin s c q) (f1 : FP.Core.fits FP.Core.b64 dx) (f2 : FP.Core.fits FP.Core.b64 dy) (hlt : (FP.Core.zval FP.Core.b64 dx + FP.Core.zval FP.Core.b64 dy).natAbs < 2 ^ 2097) : FP.Core.DFin x ∧ fRI (FP.Core.zval FP.Core.b64 dx + FP.Core.zval FP.Core.b64 dy) 1 (fv x) := by
  obtain ⟨s, c, q, rfl⟩ := h1
  obtain ⟨t, d, r, rfl⟩ := h2
  obtain ⟨sg, n, e, he, hq, hs⟩ := FP.Core.sum_units f1 f2
  rw [he, ← FP.Core.round_inUnits sg n hq, fp_qmin] at hx
  rw [fp_qmin] at hs
  refine fp_round (s := sg) (A := FP.Core.inUnits n e (-1074)) (by omega) hx ?_ hs
  have := congrArg Int.natAbs hs
  rw [FP.Core.natAbs_signed] at this
  omega
theorem fp_add {a b : UInt64} (ha : FP.Core.DFin a) (hb : FP.Core.DFin b) (hlt : (fv a + fv b).natAbs < 2 ^ 2097) : FP.Core.DFin (FP.dadd a b) ∧ fRI (fv a + fv b) 1 (fv (FP.dadd a b)) :=
  fp_sum (FP.Core.val64_dadd a b) ha hb (FP.Core.val64_fits a) (FP.Core.val64_fits b) hlt
theorem fp_sub {a b : UInt64} (ha : FP.Core.DFin a) (hb : FP.Core.DFin b) (hlt : (fv a - fv b).natAbs < 2 ^ 2097) : FP.Core.DFin (FP.dsub a b) ∧ fRI (fv a - fv b) 1 (fv (FP.dsub a b)) := by
  have hz : FP.Core.zval FP.Core.b64 (FP.Core.negate (FP.Core.val64 b)) = - fv b := FP.Core.zval_negate _ _
  have h := fp_sum (FP.Core.val64_dsub a b) ha (by obtain ⟨s, c, q, h⟩ := hb; exact ⟨!s, c, q, by rw [h]; rfl⟩) (FP.Core.val64_fits a) (FP.Core.negate_fits (FP.Core.val64_fits b)) (by rw [hz]; exact hlt)
  rw [hz] at h
  exact h
theorem fp_mul {a b : UInt64} (ha : FP.Core.DFin a) (hb : FP.Core.DFin b) (hlt : (fv a * fv b).natAbs < 2 ^ 1074 * 2 ^ 2097) : FP.Core.DFin (FP.dmul a b) ∧ fRI (fv a * fv b) (2 ^ 1074) (fv (FP.dmul a b)) := by
  obtain ⟨s, c, q, h1⟩ := ha
  obtain ⟨t, d, r, h2⟩ := hb
  have hx := FP.Core.val64_dmul a b
  have hfa : fv a = FP.Core.signed s (FP.Core.zmag FP.Core.b64 (.fin s c q)) := by unfold fv; rw [h1]; rfl
  have hfb : fv b = FP.Core.signed t (FP.Core.zmag FP.Core.b64 (.fin t d r)) := by unfold fv; rw [h2]; rfl
  obtain ⟨he, hq, hu⟩ := FP.Core.product_units (fp_fits h1) (fp_fits h2)
  rw [h1, h2, he, ← FP.Core.round_inUnits _ _ hq, hu] at hx
  have hN : FP.Core.signed (s != t) (FP.Core.zmag FP.Core.b64 (.fin s c q) * FP.Core.zmag FP.Core.b64 (.fin t d r)) = fv a * fv b := by rw [FP.Core.signed_xor, hfa, hfb]
  have hab := congrArg Int.natAbs hN
  rw [FP.Core.natAbs_signed] at hab
  generalize FP.Core.zmag FP.Core.b64 (.fin s c q) * FP.Core.zmag FP.Core.b64 (.fin t d r) = A at hx hN hab
  refine fp_round (Nat.two_pow_pos 1074) (hx.trans ?_) (by rw [hab]; exact hlt) hN
  show FP.Core.roundRatio FP.Core.b64 (s != t) A 1 (2 * FP.Core.b64.qmin) = _
  rw [fp_qmin]
  refine FP.Core.roundRatio_congr (by omega) (Nat.two_pow_pos 1074) ?_
  rw [show (2 * (-1074 : Int) - -1074).toNat = 0 by omega, show ((-1074 : Int) - 2 * -1074).toNat = 1074 by omega]
  generalize (2 : Nat) ^ 1074 = T
  rw [Nat.pow_zero, Nat.mul_one, Nat.mul_one]
theorem fp_div {a b : UInt64} (ha : FP.Core.DFin a) (hb : FP.Core.DFin b) (h0 : fv b ≠ 0) (hlt : (fv a).natAbs * 2 ^ 1074 < (fv b).natAbs * 2 ^ 2097) : FP.Core.DFin (FP.ddiv a b) ∧ fRI (fv a * ((2 ^ 1074 : Nat) : Int) * (fv b).sign) (fv b).natAbs (fv (FP.ddiv a b)) := by
  obtain ⟨s, c, q, h1⟩ := ha
  obtain ⟨t, d, r, h2⟩ := hb
  have hx := FP.Core.val64_ddiv a b
  have hfa : fv a = FP.Core.signed s (c * 2 ^ (q - FP.Core.b64.qmin).toNat) := by unfold fv; rw [h1]; rfl
  have hfb : fv b = FP.Core.signed t (d * 2 ^ (r - FP.Core.b64.qmin).toNat) := by unfold fv; rw [h2]; rfl
  have hq := (fp_fits h1).2.1
  have hr := (fp_fits h2).2.1
  rw [fp_qmin] at hfa hfb hq hr
  obtain ⟨i, rfl⟩ : ∃ i : Nat, q = (i : Int) - 1074 := ⟨(q + 1074).toNat, by omega⟩
  obtain ⟨k, rfl⟩ : ∃ k : Nat, r = (k : Int) - 1074 := ⟨(r + 1074).toNat, by omega⟩
  rw [show ((i : Int) - 1074 - -1074).toNat = i by omega] at hfa
  rw [show ((k : Int) - 1074 - -1074).toNat = k by omega] at hfb
  have hna : (fv a).natAbs = c * 2 ^ i := by rw [hfa, FP.Core.natAbs_signed]
  have hnb : (fv b).natAbs = d * 2 ^ k := by rw [hfb, FP.Core.natAbs_signed]
  have hd : d ≠ 0 := by
    intro hd
    subst hd
    rw [Nat.zero_mul] at hnb
    omega
  have hd0 : 0 < d * 2 ^ k := Nat.mul_pos (Nat.pos_of_ne_zero hd) (Nat.two_pow_pos k)
  rw [h1, h2] at hx
  have hquo : FP.Core.quotient FP.Core.b64 (.fin s c ((i : Int) - 1074)) (.fin t d ((k : Int) - 1074)) = FP.Core.roundRatio FP.Core.b64 (s != t) c d ((i : Int) - 1074 - ((k : Int) - 1074)) := if_neg hd
  rw [hquo] at hx
  rw [hnb]
  rw [hna, hnb] at hlt
  refine fp_round (s := s != t) (A := c * 2 ^ i * 2 ^ 1074) hd0 (hx.trans ?_) hlt ?_
  · refine FP.Core.roundRatio_congr (Nat.pos_of_ne_zero hd) hd0 ?_
    have e1 : ((i : Int) - 1074 - ((k : Int) - 1074) - -1074).toNat + k = i + 1074 + (-1074 - ((i : Int) - 1074 - ((k : Int) - 1074))).toNat := by omega
    generalize ((i : Int) - 1074 - ((k : Int) - 1074) - -1074).toNat = u at e1 ⊢
    generalize (-1074 - ((i : Int) - 1074 - ((k : Int) - 1074))).toNat = v at e1 ⊢
    have e2 : 2 ^ u * 2 ^ k = 2 ^ i * 2 ^ 1074 * 2 ^ v := by rw [← Nat.pow_add, ← Nat.pow_add, ← Nat.pow_add, e1]
    generalize (2 : Nat) ^ 1074 = T at e2 ⊢
    calc c * (d * 2 ^ k) * 2 ^ u = c * d * (2 ^ u * 2 ^ k) := by ac_rfl
      _ = c * d * (2 ^ i * T * 2 ^ v) := by rw [e2]
      _ = c * 2 ^ i * T * d * 2 ^ v := by ac_rfl
  · have hsb : (fv b).sign = FP.Core.signed t 1 := by
      rw [hfb]
      cases t with
      | false => exact Int.sign_eq_one_of_pos (by show (0 : Int) < ((d * 2 ^ k : Nat) : Int); omega)
      | true => exact Int.sign_eq_neg_one_of_neg (by show -((d * 2 ^ k : Nat) : Int) < 0; omega)
    rw [hsb, hfa, ← FP.Core.signed_mul, ← FP.Core.signed_xor]
    generalize (2 : Nat) ^ 1074 = T
    rw [Nat.mul_one]
theorem fp_cmp {a b : UInt64} (ha : FP.Core.DFin a) (hb : FP.Core.DFin b) : FP.dcmp a b = some (compare (fv a) (fv b)) := by
  have na : FP.Core.val64 a ≠ .nan := by obtain ⟨s, c, q, h⟩ := ha; rw [h]; exact fun h => nomatch h
  have nb : FP.Core.val64 b ≠ .nan := by obtain ⟨s, c, q, h⟩ := hb; rw [h]; exact fun h => nomatch h
  exact FP.Core.order_zval FP.Core.good_b64 (FP.Core.val64_fits a) (FP.Core.val64_fits b) na nb
theorem fp_n64 {a : UInt64} (ha : FP.Core.DFin a) : vf_n64 a := by
  have h := (FP.Core.fin_bits a).mp ha
  unfold vf_n64
  rw [UInt64.le_iff_toNat_le, UInt64.toNat_and]
  have h2 : (0x7fffffffffffffff : UInt64).toNat = 2 ^ 63 - 1 := by decide +kernel
  have h3 : (0x7ff0000000000000 : UInt64).toNat = 9218868437227405312 := by decide +kernel
  rw [h2, h3, Nat.and_two_pow_sub_one_eq_mod]
  omega
end
section
/-! WHAT ROUNDING KEEPS: bounds, multiples of a power of two, exactness, error -/
theorem rn_pow {a b : Nat} (h : 2 ^ a ≤ 2 ^ b) : a ≤ b := (Nat.pow_le_pow_iff_right (a := 2) (by omega)).mp h
theorem rn_powlt {a b : Nat} (h : 2 ^ a < 2 ^ b) : a < b := (Nat.pow_lt_pow_iff_right (a := 2) (by omega)).mp h
theorem rn_pw {a b : Nat} (h : a ≤ b) : 2 ^ b = 2 ^ (b - a) * 2 ^ a := by rw [← Nat.pow_add]; congr 1; omega
theorem rn_c_le {c k M A : Nat} (hM : 0 < M) (h : 2 * c * M ≤ 2 * A + M) (hA : A ≤ k * M) : c ≤ k := by
  have h1 : (2 * c) * M ≤ (2 * k + 1) * M := by
    rw [Nat.add_mul, Nat.one_mul, Nat.mul_assoc 2 k M]
    omega
  have h2 := Nat.le_of_mul_le_mul_right h1 hM
  omega
theorem rn_c_ge {c k M A : Nat} (hM : 0 < M) (h : 2 * A ≤ (2 * c + 1) * M) (hA : k * M ≤ A) : k ≤ c := by
  have h1 : (2 * k) * M ≤ (2 * c + 1) * M := by
    rw [Nat.mul_assoc 2 k M]
    omega
  have h2 := Nat.le_of_mul_le_mul_right h1 hM
  omega
theorem rn_up {A B Z b : Nat} (hB : 0 < B) (h : fRn A B Z) (hA : A ≤ B * 2 ^ b) : Z ≤ 2 ^ b := by
  obtain ⟨j, c, rfl, hc, hlt, hj, h1, h2⟩ := h
  rcases Nat.lt_or_ge b j with hb | hb
  · exfalso
    rcases hj with hj | hj
    · omega
    · have := rn_pow (Nat.le_of_mul_le_mul_left (Nat.le_trans hj hA) hB)
      omega
  · rw [rn_pw hb]
    refine Nat.mul_le_mul_right _ (rn_c_le (Nat.mul_pos hB (Nat.two_pow_pos j)) h2 (Nat.le_trans hA ?_))
    rw [rn_pw hb]
    exact Nat.le_of_eq (by ac_rfl)
theorem rn_lo {A B Z b : Nat} (hB : 0 < B) (h : fRn A B Z) (hA : B * 2 ^ b ≤ A) : 2 ^ b ≤ Z := by
  obtain ⟨j, c, rfl, hc, hlt, hj, h1, h2⟩ := h
  have hM := Nat.mul_pos hB (Nat.two_pow_pos j)
  rcases Nat.lt_or_ge b j with hb | hb
  · rcases hj with hj | hj
    · omega
    · have h3 : 2 ^ 52 ≤ c := rn_c_ge hM h1 (Nat.le_trans (Nat.le_of_eq (by rw [Nat.pow_add]; ac_rfl)) hj)
      calc 2 ^ b ≤ 2 ^ j := Nat.pow_le_pow_right (by omega) (Nat.le_of_lt hb)
        _ = 1 * 2 ^ j := (Nat.one_mul _).symm
        _ ≤ c * 2 ^ j := Nat.mul_le_mul_right _ (by omega)
  · rw [rn_pw hb]
    refine Nat.mul_le_mul_right _ (rn_c_ge hM h1 (Nat.le_trans ?_ hA))
    rw [rn_pw hb]
    exact Nat.le_of_eq (by ac_rfl)
theorem rn_c_eq {c k M A : Nat} (hM : 0 < M) (h1 : 2 * A ≤ (2 * c + 1) * M) (h2 : 2 * c * M ≤ 2 * A + M) (hA : A = k * M) : c = k :=
  Nat.le_antisymm (rn_c_le hM h2 (Nat.le_of_eq hA)) (rn_c_ge hM h1 (Nat.le_of_eq hA.symm))
theorem rn_gran {A B Z a t : Nat} (hB : 0 < B) (h : fRn A B Z) (hA : A = B * (2 ^ a * t)) : 2 ^ a ∣ Z := by
  obtain ⟨j, c, rfl, hc, hlt, hj, h1, h2⟩ := h
  rcases Nat.lt_or_ge j a with ha | ha
  · have he := rn_c_eq (k := 2 ^ (a - j) * t) (Nat.mul_pos hB (Nat.two_pow_pos j)) h1 h2 (by rw [hA, rn_pw (Nat.le_of_lt ha)]; ac_rfl)
    rw [he, rn_pw (Nat.le_of_lt ha)]
    exact ⟨t, by ac_rfl⟩
  · exact Nat.dvd_trans (Nat.pow_dvd_pow 2 ha) (Nat.dvd_mul_left _ _)
theorem rn_err {A B Z b : Nat} (hB : 0 < B) (h : fRn A B Z) (hA : A < B * 2 ^ (b + 53)) : 2 * A ≤ 2 * (Z * B) + B * 2 ^ b ∧ 2 * (Z * B) ≤ 2 * A + B * 2 ^ b := by
  obtain ⟨j, c, rfl, hc, hlt, hj, h1, h2⟩ := h
  have hjb : j ≤ b := by
    rcases hj with hj | hj
    · omega
    · have := rn_powlt (Nat.lt_of_mul_lt_mul_left (Nat.lt_of_le_of_lt hj hA))
      omega
  have hM : B * 2 ^ j ≤ B * 2 ^ b := Nat.mul_le_mul_left _ (Nat.pow_le_pow_right (by omega) hjb)
  have e1 : c * 2 ^ j * B = c * (B * 2 ^ j) := by ac_rfl
  rw [e1]
  generalize B * 2 ^ j = M at h1 h2 hM ⊢
  rw [Nat.add_mul, Nat.one_mul, Nat.mul_assoc] at h1
  rw [Nat.mul_assoc] at h2
  omega
theorem rn_exact {A B Z m i : Nat} (hB : 0 < B) (h : fRn A B Z) (hA : A = B * (m * 2 ^ i)) (hm : m ≤ 2 ^ 53) : Z = m * 2 ^ i := by
  obtain ⟨j, c, rfl, hc, hlt, hj, h1, h2⟩ := h
  have hM := Nat.mul_pos hB (Nat.two_pow_pos j)
  rcases Nat.lt_or_ge i j with hi | hi
  · rcases hj with hj | hj
    · omega
    · rw [hA] at hj
      have h3 : 2 ^ (j + 52) ≤ m * 2 ^ i := Nat.le_of_mul_le_mul_left hj hB
      have h4 : m * 2 ^ i ≤ 2 ^ (53 + i) := by rw [Nat.pow_add]; exact Nat.mul_le_mul_right _ hm
      have h5 := rn_pow (Nat.le_trans h3 h4)
      have hj2 : j = i + 1 := by omega
      subst hj2
      have h6 : 2 ^ 53 * 2 ^ i ≤ m * 2 ^ i := by
        rw [← Nat.pow_add]
        exact Nat.le_trans (Nat.pow_le_pow_right (by omega) (by omega)) h3
      have h7 : m = 2 ^ 53 := Nat.le_antisymm hm (Nat.le_of_mul_le_mul_right h6 (Nat.two_pow_pos i))
      subst h7
      have he := rn_c_eq (k := 2 ^ 52) hM h1 h2 (by rw [hA, Nat.pow_succ 2 i]; have : (2 : Nat) ^ 53 = 2 ^ 52 * 2 := by decide
                                                    rw [this]; ac_rfl)
      rw [he, Nat.pow_succ 2 i]
      omega
  · have he := rn_c_eq (k := m * 2 ^ (i - j)) hM h1 h2 (by rw [hA, rn_pw hi]; ac_rfl)
    rw [he, rn_pw hi]
    ac_rfl
theorem rn_back {A B Z b : Nat} (hB : 0 < B) (h : fRn A B Z) (hZ : Z < 2 ^ b) : A < B * 2 ^ b :=
  Nat.lt_of_not_ge fun hA => Nat.not_le.mpr hZ (rn_lo hB h hA)
/-- x is a number, a multiple of 2^a and at most 2^b (all in units of 2^-1074) -/
def fGr (a b : Nat) (x : UInt64) : Prop := FP.Core.DFin x ∧ 2 ^ a ∣ (fv x).natAbs ∧ (fv x).natAbs ≤ 2 ^ b
theorem gf_n64 {a b : Nat} {x : UInt64} (h : fGr a b x) : vf_n64 x := fp_n64 h.1
theorem gf_w {a b a' b' : Nat} {x : UInt64} (h : fGr a b x) (ha : a' ≤ a) (hb : b ≤ b') : fGr a' b' x := ⟨h.1, Nat.dvd_trans (Nat.pow_dvd_pow 2 ha) h.2.1, Nat.le_trans h.2.2 (Nat.pow_le_pow_right (by omega) hb)⟩
theorem gf_sum {x : UInt64} {N M : Int} {a1 b1 a2 b2 : Nat} (a b : Nat) (h1 : 2 ^ a1 ∣ N.natAbs) (h2 : N.natAbs ≤ 2 ^ b1) (h3 : 2 ^ a2 ∣ M.natAbs) (h4 : M.natAbs ≤ 2 ^ b2) (ha1 : a ≤ a1) (ha2 : a ≤ a2) (hb1 : b1 + 1 ≤ b) (hb2 : b2 + 1 ≤ b) : 2 ^ a ∣ (N + M).natAbs ∧ (N + M).natAbs ≤ 2 ^ b := by
  constructor
  · have e1 : ((2 ^ a : Nat) : Int) ∣ N := Int.ofNat_dvd_left.mpr (Nat.dvd_trans (Nat.pow_dvd_pow 2 ha1) h1)
    have e2 : ((2 ^ a : Nat) : Int) ∣ M := Int.ofNat_dvd_left.mpr (Nat.dvd_trans (Nat.pow_dvd_pow 2 ha2) h3)
    exact Int.ofNat_dvd_left.mp (Int.dvd_add e1 e2)
  · have e1 := Int.natAbs_add_le N M
    have e2 : 2 ^ b1 ≤ 2 ^ (b - 1) := Nat.pow_le_pow_right (by omega) (by omega)
    have e3 : 2 ^ b2 ≤ 2 ^ (b - 1) := Nat.pow_le_pow_right (by omega) (by omega)
    have e4 : 2 ^ b = 2 * 2 ^ (b - 1) := by
      obtain ⟨k, rfl⟩ : ∃ k, b = k + 1 := ⟨b - 1, by omega⟩
      rw [Nat.pow_succ, Nat.add_sub_cancel]
      omega
    omega
theorem rn_2097 {b : Nat} {A B : Nat} (hB : 0 < B) (h : A ≤ B * 2 ^ b) (hb : b ≤ 2096) : A < B * 2 ^ 2097 := by
  refine Nat.lt_of_le_of_lt h (Nat.mul_lt_mul_of_pos_left (Nat.pow_lt_pow_right (by omega) (by omega)) hB)
theorem gf_of {x : UInt64} {N : Int} {B a b : Nat} (hB : 0 < B) (hx : FP.Core.DFin x) (h : fRI N B (fv x)) (ha : ∃ t, N.natAbs = B * (2 ^ a * t)) (hb : N.natAbs ≤ B * 2 ^ b) : fGr a b x := by
  obtain ⟨t, ht⟩ := ha
  exact ⟨hx, rn_gran hB h.1 ht, rn_up hB h.1 hb⟩
theorem gf_add {x y : UInt64} {a1 b1 a2 b2 : Nat} (a b : Nat) (h1 : fGr a1 b1 x) (h2 : fGr a2 b2 y) (ha1 : a ≤ a1) (ha2 : a ≤ a2) (hb1 : b1 + 1 ≤ b) (hb2 : b2 + 1 ≤ b) (hb : b ≤ 2096) : fGr a b (FP.dadd x y) := by
  obtain ⟨⟨t, ht⟩, hu⟩ := gf_sum (x := 0) a b h1.2.1 h1.2.2 h2.2.1 h2.2.2 ha1 ha2 hb1 hb2
  have hu1 : (fv x + fv y).natAbs ≤ 1 * 2 ^ b := by rw [Nat.one_mul]; exact hu
  have hl := rn_2097 (by omega) hu1 hb
  rw [Nat.one_mul] at hl
  obtain ⟨f1, f2⟩ := fp_add h1.1 h2.1 hl
  exact gf_of (by omega) f1 f2 ⟨t, by rw [ht, Nat.one_mul]⟩ hu1
theorem gf_sub {x y : UInt64} {a1 b1 a2 b2 : Nat} (a b : Nat) (h1 : fGr a1 b1 x) (h2 : fGr a2 b2 y) (ha1 : a ≤ a1) (ha2 : a ≤ a2) (hb1 : b1 + 1 ≤ b) (hb2 : b2 + 1 ≤ b) (hb : b ≤ 2096) : fGr a b (FP.dsub x y) := by
  obtain ⟨⟨t, ht⟩, hu⟩ := gf_sum (x := 0) a b h1.2.1 h1.2.2 (M := - fv y) (by rw [Int.natAbs_neg]; exact h2.2.1) (by rw [Int.natAbs_neg]; exact h2.2.2) ha1 ha2 hb1 hb2
  rw [← Int.sub_eq_add_neg] at ht hu
  have hu1 : (fv x - fv y).natAbs ≤ 1 * 2 ^ b := by rw [Nat.one_mul]; exact hu
  have hl := rn_2097 (by omega) hu1 hb
  rw [Nat.one_mul] at hl
  obtain ⟨f1, f2⟩ := fp_sub h1.1 h2.1 hl
  exact gf_of (by omega) f1 f2 ⟨t, by rw [ht, Nat.one_mul]⟩ hu1
theorem rn_p4 {a b c d k : Nat} (h : a + b = c + d + k) : 2 ^ a * 2 ^ b = 2 ^ c * 2 ^ d * 2 ^ k := by rw [← Nat.pow_add, ← Nat.pow_add, ← Nat.pow_add, h]
theorem gf_mul {x y : UInt64} {a1 b1 a2 b2 : Nat} (a b : Nat) (h1 : fGr a1 b1 x) (h2 : fGr a2 b2 y) (ha : a + 1074 ≤ a1 + a2) (hb : b1 + b2 ≤ b + 1074) (hm : b ≤ 2096) : fGr a b (FP.dmul x y) := by
  have hT : 0 < 2 ^ 1074 := Nat.two_pow_pos 1074
  have hu : (fv x * fv y).natAbs ≤ 2 ^ 1074 * 2 ^ b := by
    rw [Int.natAbs_mul, ← Nat.pow_add]
    refine Nat.le_trans (Nat.mul_le_mul h1.2.2 h2.2.2) ?_
    rw [← Nat.pow_add]
    exact Nat.pow_le_pow_right (by omega) (by omega)
  obtain ⟨f1, f2⟩ := fp_mul h1.1 h2.1 (rn_2097 hT hu hm)
  refine gf_of hT f1 f2 ?_ hu
  rw [Int.natAbs_mul]
  obtain ⟨t1, e1⟩ := h1.2.1
  obtain ⟨t2, e2⟩ := h2.2.1
  obtain ⟨k, hk⟩ : ∃ k, a1 + a2 = 1074 + a + k := ⟨a1 + a2 - (a + 1074), by omega⟩
  refine ⟨2 ^ k * t1 * t2, ?_⟩
  rw [e1, e2]
  have e3 := rn_p4 hk
  generalize (2 : Nat) ^ 1074 = T at e3 ⊢
  calc 2 ^ a1 * t1 * (2 ^ a2 * t2) = 2 ^ a1 * 2 ^ a2 * (t1 * t2) := by ac_rfl
    _ = T * 2 ^ a * 2 ^ k * (t1 * t2) := by rw [e3]
    _ = T * (2 ^ a * (2 ^ k * t1 * t2)) := by ac_rfl
/-- any double's value: fewer than 2^53 units of some power of two -/
theorem fv_rep {x : UInt64} (h : FP.Core.DFin x) : ∃ c i : Nat, c < 2 ^ 53 ∧ (fv x).natAbs = c * 2 ^ i := by
  obtain ⟨s, c, q, hx⟩ := h
  refine ⟨c, (q - FP.Core.b64.qmin).toNat, (fp_fits hx).1, ?_⟩
  unfold fv
  rw [hx]
  exact FP.Core.natAbs_signed s _
theorem fv_grid {x : UInt64} (h : FP.Core.DFin x) {a : Nat} (hl : 2 ^ (a + 52) ≤ (fv x).natAbs) : 2 ^ a ∣ (fv x).natAbs := by
  obtain ⟨c, i, hc, e⟩ := fv_rep h
  rw [e] at hl ⊢
  have h1 : 2 ^ (a + 52) < 2 ^ (53 + i) := by
    rw [Nat.pow_add 2 53 i]
    exact Nat.lt_of_le_of_lt hl (Nat.mul_lt_mul_of_pos_right hc (Nat.two_pow_pos i))
  have h2 := rn_powlt h1
  exact Nat.dvd_trans (Nat.pow_dvd_pow 2 (by omega : a ≤ i)) (Nat.dvd_mul_left _ _)
theorem fv_ne0 {a b : Nat} {x : UInt64} (h : fGr a b x) (h0 : fv x ≠ 0) : 2 ^ a ≤ (fv x).natAbs := Nat.le_of_dvd (Int.natAbs_pos.mpr h0) h.2.1
theorem gf_div {x y : UInt64} {a1 b1 a2 b2 : Nat} (a b : Nat) (h1 : fGr a1 b1 x) (h2 : fGr a2 b2 y) (h0 : fv y ≠ 0) (ha : a + 52 + b2 ≤ a1 + 1074) (hb : b1 + 1074 ≤ a2 + b) (hm : b ≤ 2096) : fGr a b (FP.ddiv x y) := by
  have hB : 0 < (fv y).natAbs := Int.natAbs_pos.mpr h0
  have hy := fv_ne0 h2 h0
  have hu : (fv x).natAbs * 2 ^ 1074 ≤ (fv y).natAbs * 2 ^ b := by
    refine Nat.le_trans (Nat.mul_le_mul_right _ h1.2.2) (Nat.le_trans ?_ (Nat.mul_le_mul_right _ hy))
    rw [← Nat.pow_add, ← Nat.pow_add]
    exact Nat.pow_le_pow_right (by omega) hb
  obtain ⟨f1, f2⟩ := fp_div h1.1 h2.1 h0 (rn_2097 hB hu hm)
  have hN : (fv x * ((2 ^ 1074 : Nat) : Int) * (fv y).sign).natAbs = (fv x).natAbs * 2 ^ 1074 := by
    rw [Int.natAbs_mul, Int.natAbs_mul, Int.natAbs_sign_of_ne_zero h0, Int.natAbs_natCast, Nat.mul_one]
  have h3 := f2.1
  rw [hN] at h3
  refine ⟨f1, ?_, rn_up hB h3 hu⟩
  by_cases hx0 : fv x = 0
  · rw [hx0, Int.natAbs_zero, Nat.zero_mul] at h3
    rw [fp_rn0 hB h3]
    exact Nat.dvd_zero _
  · refine fv_grid f1 (rn_lo hB h3 ?_)
    refine Nat.le_trans (Nat.mul_le_mul_right _ h2.2.2) (Nat.le_trans ?_ (Nat.mul_le_mul_right _ (fv_ne0 h1 hx0)))
    rw [← Nat.pow_add, ← Nat.pow_add]
    exact Nat.pow_le_pow_right (by omega) (by omega)
end
section
/-! THE BASE OF ALL WALKS: the tables' words of nest mates, what a contract asks and answers -/
abbrev tyW (cI cH : ClassId) : List (ClassId × FieldType) := [(cI, .int), (cH, .object "WheelSwing$Hanging")]
def nwL : List Cond := [
  .fieldLinkNest "WheelSwing" 136 "WheelSwing$Readings" "size" "I" "WheelSwing",
  .fieldLinkNest "WheelSwing" 154 "WheelSwing$ShimBox" "size" "I" "WheelSwing",
  .fieldLinkNest "WheelSwing" 169 "WheelSwing$Stand" "px" "D" "WheelSwing",
  .fieldLinkNest "WheelSwing" 173 "WheelSwing$Stand" "py" "D" "WheelSwing",
  .fieldLinkNest "WheelSwing" 176 "WheelSwing$Stand" "qx" "D" "WheelSwing",
  .fieldLinkNest "WheelSwing" 179 "WheelSwing$Stand" "qy" "D" "WheelSwing",
  .fieldLinkNest "WheelSwing" 182 "WheelSwing$Stand" "vy" "D" "WheelSwing",
  .fieldLinkNest "WheelSwing" 185 "WheelSwing$Stand" "vx" "D" "WheelSwing",
  .fieldLinkNest "WheelSwing" 202 "WheelSwing$Stand" "ix" "D" "WheelSwing",
  .fieldLinkNest "WheelSwing" 205 "WheelSwing$Stand" "iy" "D" "WheelSwing",
  .fieldLinkNest "WheelSwing" 210 "WheelSwing$Readings" "heights" "[I" "WheelSwing",
  .fieldLinkNest "WheelSwing" 216 "WheelSwing$Readings" "leans" "[I" "WheelSwing",
  .fieldLinkNest "WheelSwing" 89 "WheelSwing$Hanging" "ux" "I" "WheelSwing",
  .fieldLinkNest "WheelSwing" 93 "WheelSwing$Hanging" "uy" "I" "WheelSwing",
  .fieldLinkNest "WheelSwing$Stand" 13 "WheelSwing$Hanging" "ly" "I" "WheelSwing",
  .fieldLinkNest "WheelSwing$Stand" 24 "WheelSwing$Hanging" "lx" "I" "WheelSwing",
  .fieldLinkNest "WheelSwing$Stand" 46 "WheelSwing$Hanging" "c" "I" "WheelSwing",
  .fieldLinkNest "WheelSwing$Stand" 49 "WheelSwing$Hanging" "a" "I" "WheelSwing",
  .fieldLinkNest "WheelSwing$Stand" 60 "WheelSwing$Hanging" "side" "I" "WheelSwing",
  .fieldLinkNest "WheelSwing$Stand" 7 "WheelSwing$Hanging" "b" "I" "WheelSwing",
  .fieldLinkNest "WheelSwing$Stand" 75 "WheelSwing$Hanging" "g" "I" "WheelSwing",
  .fieldLinkNest "WheelSwing$Stand" 78 "WheelSwing$Hanging" "d" "I" "WheelSwing",
  .fieldLinkNest "WheelSwing$Stand" 87 "WheelSwing$Hanging" "f" "I" "WheelSwing",
  .fieldLinkNest "WheelSwing$Stand" 92 "WheelSwing$Hanging" "sx" "I" "WheelSwing",
  .fieldLinkNest "WheelSwing$Stand" 95 "WheelSwing$Hanging" "sy" "I" "WheelSwing",
  .methodLinkNest "WheelSwing" 102 ⟨"WheelSwing$Stand", "placeUpright", "(LWheelSwing$Hanging;)V"⟩ "WheelSwing",
  .methodLinkNest "WheelSwing" 115 ⟨"WheelSwing$Car", "load", "(III)V"⟩ "WheelSwing",
  .methodLinkNest "WheelSwing" 119 ⟨"WheelSwing$Car", "lean", "(II)V"⟩ "WheelSwing",
  .methodLinkNest "WheelSwing" 122 ⟨"WheelSwing$Car", "loadOf", "(I)I"⟩ "WheelSwing",
  .methodLinkNest "WheelSwing" 127 ⟨"WheelSwing$ShimBox", "add", "(I)I"⟩ "WheelSwing",
  .methodLinkNest "WheelSwing" 130 ⟨"WheelSwing$ShimBox", "nearestSet", "(II)I"⟩ "WheelSwing",
  .methodLinkNest "WheelSwing" 134 ⟨"WheelSwing$Readings", "add", "(II)I"⟩ "WheelSwing",
  .methodLinkNest "WheelSwing" 143 ⟨"WheelSwing$Doubles", "bits", "(D)J"⟩ "WheelSwing",
  .methodLinkNest "WheelSwing" 151 ⟨"WheelSwing$Stand", "squareFrom", "(LWheelSwing$Hanging;II)D"⟩ "WheelSwing",
  .methodLinkNest "WheelSwing" 161 ⟨"WheelSwing$Hanging", "mixInto", "(J)J"⟩ "WheelSwing",
  .methodLinkNest "WheelSwing" 165 ⟨"WheelSwing$ShimBox", "mixInto", "(J)J"⟩ "WheelSwing",
  .methodLinkNest "WheelSwing" 166 ⟨"WheelSwing$Readings", "mixInto", "(J)J"⟩ "WheelSwing",
  .methodLinkNest "WheelSwing" 17 ⟨"WheelSwing$Stand", "<init>", "()V"⟩ "WheelSwing",
  .methodLinkNest "WheelSwing" 188 ⟨"WheelSwing$Stand", "roadX", "(LWheelSwing$Hanging;)D"⟩ "WheelSwing",
  .methodLinkNest "WheelSwing" 192 ⟨"WheelSwing$Stand", "roadY", "(LWheelSwing$Hanging;)D"⟩ "WheelSwing",
  .methodLinkNest "WheelSwing" 195 ⟨"WheelSwing$Stand", "springLength", "(LWheelSwing$Hanging;)D"⟩ "WheelSwing",
  .methodLinkNest "WheelSwing" 198 ⟨"WheelSwing$Stand", "findCentre", "(LWheelSwing$Hanging;)Z"⟩ "WheelSwing",
  .methodLinkNest "WheelSwing" 24 ⟨"WheelSwing$Car", "<init>", "()V"⟩ "WheelSwing",
  .methodLinkNest "WheelSwing" 31 ⟨"WheelSwing$ShimBox", "<init>", "()V"⟩ "WheelSwing",
  .methodLinkNest "WheelSwing" 38 ⟨"WheelSwing$Readings", "<init>", "()V"⟩ "WheelSwing",
  .methodLinkNest "WheelSwing" 43 ⟨"WheelSwing$Hanging", "<init>", "()V"⟩ "WheelSwing",
  .methodLinkNest "WheelSwing" 55 ⟨"WheelSwing$Hanging", "setUpperArm", "(III)V"⟩ "WheelSwing",
  .methodLinkNest "WheelSwing" 59 ⟨"WheelSwing$Hanging", "setLowerArm", "(III)V"⟩ "WheelSwing",
  .methodLinkNest "WheelSwing" 62 ⟨"WheelSwing$Hanging", "setUpright", "(II)V"⟩ "WheelSwing",
  .methodLinkNest "WheelSwing" 66 ⟨"WheelSwing$Hanging", "setRoadPoint", "(II)V"⟩ "WheelSwing",
  .methodLinkNest "WheelSwing" 73 ⟨"WheelSwing$Hanging", "setSpring", "(III)V"⟩ "WheelSwing",
  .methodLinkNest "WheelSwing" 76 ⟨"WheelSwing$Hanging", "becomeMirrorOf", "(LWheelSwing$Hanging;)V"⟩ "WheelSwing",
  .methodLinkNest "WheelSwing" 96 ⟨"WheelSwing$Stand", "reach", "(LWheelSwing$Hanging;III)Z"⟩ "WheelSwing",
  .methodLinkNest "WheelSwing$Hanging" 66 ⟨"WheelSwing", "mix", "(JI)J"⟩ "WheelSwing",
  .methodLinkNest "WheelSwing$Readings" 22 ⟨"WheelSwing", "mix", "(JI)J"⟩ "WheelSwing",
  .methodLinkNest "WheelSwing$ShimBox" 33 ⟨"WheelSwing", "mix", "(JI)J"⟩ "WheelSwing",
  .methodLinkNest "WheelSwing$Stand" 27 ⟨"WheelSwing$Doubles", "squareRoot", "(D)D"⟩ "WheelSwing"]
def nw_ok : Cond → Bool
  | .fieldLinkNest .. => true
  | .methodLinkNest .. => true
  | _ => false
theorem nwL_ok : ∀ w ∈ nwL, nw_ok w = true := by decide +kernel
/-- what every method asks of the tables -/
def wk (D : va_G) (cI cH : ClassId) (U : State) : Prop := va_K D vwCl (tyW cI cH) U ∧ ∀ w ∈ nwL, va_Nw w U
theorem nw_warm {w : Cond} (hw : nw_ok w = true) {s U : State} (hW : s.WarmedH U.vm) (h : va_Nw w s) : va_Nw w U := by
  cases w <;> first | exact va_Nw.warmF hW h | exact va_Nw.warmM hW h | (exact absurd hw (by simp [nw_ok]))
theorem nw_same {w : Cond} (hw : nw_ok w = true) {s U : State} (hv : s.vm = U.vm) (h : va_Nw w s) : va_Nw w U := by
  cases w <;> first | exact va_Nw.same rfl hv h | (exact absurd hw (by simp [nw_ok]))
theorem wk.warm {D : va_G} {cI cH : ClassId} {s U : State} (h : wk D cI cH s) (hW : s.WarmedH U.vm) : wk D cI cH U := ⟨va_K.moved hW.alike h.1, fun w hw => nw_warm (nwL_ok w hw) hW (h.2 w hw)⟩
theorem wk.same {D : va_G} {cI cH : ClassId} {s U : State} (h : wk D cI cH s) (hv : s.vm = U.vm) : wk D cI cH U := ⟨va_K.moved (by rw [← hv]; exact Vm.Alike.refl s.vm) h.1, fun w hw => nw_same (nwL_ok w hw) hv (h.2 w hw)⟩
/-- nothing that was there before is changed -/
abbrev nA : Nat → Prop := fun _ => False
abbrev kB (D : va_G) (cI cH : ClassId) (ws : va_W) : State → Prop := fun U => va_P D vwCl ws U.heap ∧ wk D cI cH U
theorem kB_blind {D : va_G} {cI cH : ClassId} {ws : va_W} {av : List Value} : FrameBlind (va_Pc av (kB D cI cH ws)) := fun a U g mk q => ⟨q.1, q.2.1, wk.same q.2.2 rfl⟩
theorem kB_go {D : va_G} {cI cH : ClassId} {ws : va_W} {av : List Value} {s : State} {H : Heap} (hP : va_P D vwCl ws H) (hw : wk D cI cH s) : ∀ U : State, U.heap = H → s.WarmedH U.vm → va_Pc av (kB D cI cH ws) av.toArray U := fun U hU hW => ⟨rfl, by rw [hU]; exact hP, hw.warm hW⟩
theorem tB_blind {av : List Value} : FrameBlind (va_Pc av (fun _ => True)) := fun a U g mk q => q
theorem tB_go {av : List Value} {s : State} {H : Heap} : ∀ U : State, U.heap = H → s.WarmedH U.vm → va_Pc av (fun _ => True) av.toArray U := fun U hU hW => ⟨rfl, trivial⟩
theorem va_at_lt {D : va_G} {cl : List vw_C} {q : Nat × va_E} {H : Heap} (h : va_at D cl q H) : q.1 < H.size := by
  obtain ⟨a, e⟩ := q
  cases e with
  | inl x => exact (Array.getElem?_eq_some_iff.mp (show H[a]? = some _ from h)).1
  | inr o =>
    obtain ⟨r, -, cell, h3, -⟩ := h
    exact (Array.getElem?_eq_some_iff.mp h3).1
/-- cells that a method only reads, at any heap later on -/
theorem fr_rd {D : va_G} {cl : List vw_C} {A : Nat → Prop} {wr : va_W} {H0 H : Heap} {locs : List Loc} (hP : va_P D cl wr H0) (hS : va_S A H0 H locs) (hn : ∀ (k : Nat) (q : Nat × va_E), wr[k]? = some q → ¬ A q.1) : va_P D cl wr H :=
  fun k q hk => va_at.kept (hP k q hk) (hS.2.1 q.1 (va_at_lt (hP k q hk)) (hn k q hk))
/-- behind a call that wrote at A1 alone -/
theorem fr_keep {D : va_G} {cl : List vw_C} {A1 : Nat → Prop} {ws : va_W} {H H1 : Heap} (hP : va_P D cl ws H) (hk : ∀ q : Nat, q < H.size → ¬ A1 q → H1[q]? = H[q]?) (hn : ∀ (k : Nat) (q : Nat × va_E), ws[k]? = some q → ¬ A1 q.1) : va_P D cl ws H1 :=
  fun k q hq => va_at.kept (hP k q hq) (hk q.1 (va_at_lt (hP k q hq)) (hn k q hq))
theorem fr_nA {ws : va_W} : ∀ (k : Nat) (q : Nat × va_E), ws[k]? = some q → ¬ nA q.1 := fun _ _ _ h => h
theorem fr_one {D : va_G} {cl : List vw_C} {q : Nat × va_E} {H : Heap} (h : va_at D cl q H) : va_P D cl [q] H := by
  intro k x hk
  cases k with
  | zero => exact Option.some.inj hk ▸ h
  | succ n => exact absurd hk (by simp)
theorem fr_nil {D : va_G} {cl : List vw_C} {H : Heap} : va_P D cl [] H := fun k q h => by simp at h
theorem fr_cons {D : va_G} {cl : List vw_C} {q : Nat × va_E} {ws : va_W} {H : Heap} (h : va_at D cl q H) (hP : va_P D cl ws H) : va_P D cl (q :: ws) H := by
  intro k x hk
  cases k with
  | zero => exact Option.some.inj hk ▸ h
  | succ n => exact hP n x hk
theorem fr_app {D : va_G} {cl : List vw_C} {w1 w2 : va_W} {H : Heap} (h1 : va_P D cl w1 H) (h2 : va_P D cl w2 H) : va_P D cl (w1 ++ w2) H := by
  intro k x hk
  rcases List.mem_append.mp (List.mem_of_getElem? hk) with h | h
  · obtain ⟨i, hi⟩ := List.getElem?_of_mem h; exact h1 i x hi
  · obtain ⟨i, hi⟩ := List.getElem?_of_mem h; exact h2 i x hi
theorem D_0 {A : Nat → Prop} : va_D A [] := ⟨fun i j p q h => by simp at h, fun k q h => by simp at h⟩
theorem D_1 {A : Nat → Prop} {a : Nat} {e : va_E} (h : A a) : va_D A [(a, e)] := by
  refine ⟨fun i j p q hi hj _ => ?_, fun k q hk => ?_⟩
  · have h1 : i < 1 := (List.getElem?_eq_some_iff.mp hi).1
    have h2 : j < 1 := (List.getElem?_eq_some_iff.mp hj).1
    omega
  · cases k with
    | zero => exact Option.some.inj hk ▸ h
    | succ n => exact absurd hk (by simp)
theorem D_cons {A : Nat → Prop} {a : Nat} {e : va_E} {ws : va_W} (h : A a) (hD : va_D A ws) (hn : ∀ (k : Nat) (q : Nat × va_E), ws[k]? = some q → q.1 ≠ a) : va_D A ((a, e) :: ws) := by
  refine ⟨fun i j p q hi hj hpq => ?_, fun k q hk => ?_⟩
  · cases i with
    | zero =>
      cases j with
      | zero => rfl
      | succ j =>
        have h1 : p = (a, e) := (Option.some.inj hi).symm
        subst h1
        exact absurd hpq.symm (hn j q hj)
    | succ i =>
      cases j with
      | zero =>
        have h1 : q = (a, e) := (Option.some.inj hj).symm
        subst h1
        exact absurd hpq (hn i p hi)
      | succ j => rw [hD.1 i j p q hi hj hpq]
  · cases k with
    | zero => exact Option.some.inj hk ▸ h
    | succ n => exact hD.2 n q hk
theorem nn_0 {P : Nat × va_E → Prop} : ∀ (k : Nat) (q : Nat × va_E), ([] : va_W)[k]? = some q → P q := fun k q h => by simp at h
theorem nn_1 {P : Nat × va_E → Prop} {x : Nat × va_E} {ws : va_W} (h : P x) (ht : ∀ (k : Nat) (q : Nat × va_E), ws[k]? = some q → P q) : ∀ (k : Nat) (q : Nat × va_E), (x :: ws)[k]? = some q → P q := by
  intro k q hk
  cases k with
  | zero => exact Option.some.inj hk ▸ h
  | succ n => exact ht n q hk
/-- a truth as an int -/
def bI (b : Bool) : Int32 := if b then 1 else 0
theorem bI_1 : bI true = 1 := rfl
theorem bI_0 : bI false = 0 := rfl
theorem bI_e {b : Bool} : bI b = 0 ↔ b = false := by cases b <;> simp [bI]
theorem bI_n {b : Bool} : ¬ bI b = 0 ↔ b = true := by cases b <;> simp [bI]
theorem bI_d {p : Prop} [Decidable p] (h : p) : (1 : Int32) = bI (decide p) := by simp [bI, h]
theorem bI_nar {b : Bool} : narrow .boolean (.int (bI b)) = .int (bI b) := by cases b <;> rfl
def isW (v lo hi : Int32) : Bool := decide (lo ≤ v) && decide (v ≤ hi)
def okH (h : Int32) : Bool := isW h 0 3
def okC (v : Int32) : Bool := isW v (-1000) 1000
def okA (v : Int32) : Bool := isW v 50 1000
def okP (x y : Int32) : Bool := okC x && okC y
def okS (y0 y1 : Int32) : Bool := okC y0 && okC y1 && decide (y0 ≤ y1)
/-- what a comparison of two numbers pushes -/
def fcv (a b : Int) : Int32 := if a < b then -1 else if a = b then 0 else 1
theorem fp_cv {x y : UInt64} {op : CmpOp} (hx : FP.Core.DFin x) (hy : FP.Core.DFin y) : Op.cmpValue (FP.dcmp x y) op = fcv (fv x) (fv y) := by
  rw [fp_cmp hx hy]
  unfold fcv
  by_cases h1 : fv x < fv y
  · rw [if_pos h1, show compare (fv x) (fv y) = .lt from by rw [Int.compare_eq_lt.mpr h1]]; rfl
  · rw [if_neg h1]
    by_cases h2 : fv x = fv y
    · rw [if_pos h2, show compare (fv x) (fv y) = .eq from by rw [Int.compare_eq_eq.mpr h2]]; rfl
    · rw [if_neg h2, show compare (fv x) (fv y) = .gt from by rw [Int.compare_eq_gt.mpr (by omega)]]; rfl
theorem fcv_lt {a b : Int} : fcv a b < 0 ↔ a < b := by
  unfold fcv
  split
  · exact ⟨fun _ => by omega, fun _ => by decide⟩
  · split
    · exact ⟨fun h => absurd h (by decide), fun _ => by omega⟩
    · exact ⟨fun h => absurd h (by decide), fun _ => by omega⟩
theorem fcv_le {a b : Int} : fcv a b ≤ 0 ↔ a ≤ b := by
  unfold fcv
  split
  · exact ⟨fun _ => by omega, fun _ => by decide⟩
  · split
    · exact ⟨fun _ => by omega, fun _ => by decide⟩
    · exact ⟨fun h => absurd h (by decide), fun _ => by omega⟩
theorem fcv_gt {a b : Int} : 0 < fcv a b ↔ b < a := by
  unfold fcv
  split
  · exact ⟨fun h => absurd h (by decide), fun _ => by omega⟩
  · split
    · exact ⟨fun h => absurd h (by decide), fun _ => by omega⟩
    · exact ⟨fun _ => by omega, fun _ => by decide⟩
theorem fcv_ge {a b : Int} : 0 ≤ fcv a b ↔ b ≤ a := by
  unfold fcv
  split
  · exact ⟨fun h => absurd h (by decide), fun _ => by omega⟩
  · split
    · exact ⟨fun _ => by omega, fun _ => by decide⟩
    · exact ⟨fun _ => by omega, fun _ => by decide⟩
theorem fcv_eq {a b : Int} : fcv a b = 0 ↔ a = b := by
  unfold fcv
  split
  · exact ⟨fun h => absurd h (by decide), fun _ => by omega⟩
  · split
    · exact ⟨fun _ => by omega, fun _ => by decide⟩
    · exact ⟨fun h => absurd h (by decide), fun _ => by omega⟩
end
section
/-! NUMBERS THAT STAND IN THE CODE; whole numbers as doubles; scaling by powers of two -/
theorem gf_dec {a b : Nat} {x : UInt64} (h1 : x.toNat % 2 ^ 63 < 9218868437227405312) (h2 : 2 ^ a ∣ (fv x).natAbs) (h3 : (fv x).natAbs ≤ 2 ^ b) : fGr a b x := ⟨(FP.Core.fin_bits x).mpr h1, h2, h3⟩
theorem fv_c0 : fv FP.dconst0 = 0 := by decide +kernel
theorem fv_z : fv 0 = 0 := by decide +kernel
theorem fv_c1 : fv FP.dconst1 = ((2 ^ 1074 : Nat) : Int) := by decide +kernel
theorem fv_2 : fv 4611686018427387904 = ((2 ^ 1075 : Nat) : Int) := by decide +kernel
theorem fv_4 : fv 4616189618054758400 = ((2 ^ 1076 : Nat) : Int) := by decide +kernel
theorem fv_3 : fv 4613937818241073152 = ((3 * 2 ^ 1074 : Nat) : Int) := by decide +kernel
theorem fv_52 : fv 4841369599423283200 = ((2 ^ 1126 : Nat) : Int) := by decide +kernel
theorem fv_53 : fv 4845873199050653696 = ((2 ^ 1127 : Nat) : Int) := by decide +kernel
theorem fv_1000 : fv 4652007308841189376 = ((125 * 2 ^ 1077 : Nat) : Int) := by decide +kernel
theorem gf_c0 : fGr 2000 0 FP.dconst0 := gf_dec (by decide +kernel) (by rw [fv_c0]; exact Nat.dvd_zero _) (by rw [fv_c0]; exact Nat.zero_le _)
theorem gf_c1 : fGr 1074 1074 FP.dconst1 := gf_dec (by decide +kernel) (by rw [fv_c1, Int.natAbs_natCast]; exact Nat.dvd_refl _) (by rw [fv_c1, Int.natAbs_natCast]; exact Nat.le_refl _)
theorem gf_2 : fGr 1075 1075 4611686018427387904 := gf_dec (by decide +kernel) (by rw [fv_2, Int.natAbs_natCast]; exact Nat.dvd_refl _) (by rw [fv_2, Int.natAbs_natCast]; exact Nat.le_refl _)
theorem gf_4 : fGr 1076 1076 4616189618054758400 := gf_dec (by decide +kernel) (by rw [fv_4, Int.natAbs_natCast]; exact Nat.dvd_refl _) (by rw [fv_4, Int.natAbs_natCast]; exact Nat.le_refl _)
theorem gf_3 : fGr 1074 1076 4613937818241073152 := gf_dec (by decide +kernel) (by rw [fv_3, Int.natAbs_natCast]; exact Nat.dvd_mul_left _ _) (by rw [fv_3, Int.natAbs_natCast, show 1076 = 1074 + 2 from rfl, Nat.pow_add]; omega)
theorem gf_52 : fGr 1126 1126 4841369599423283200 := gf_dec (by decide +kernel) (by rw [fv_52, Int.natAbs_natCast]; exact Nat.dvd_refl _) (by rw [fv_52, Int.natAbs_natCast]; exact Nat.le_refl _)
theorem gf_53 : fGr 1127 1127 4845873199050653696 := gf_dec (by decide +kernel) (by rw [fv_53, Int.natAbs_natCast]; exact Nat.dvd_refl _) (by rw [fv_53, Int.natAbs_natCast]; exact Nat.le_refl _)
theorem gf_1000 : fGr 1077 1084 4652007308841189376 := gf_dec (by decide +kernel) (by rw [fv_1000, Int.natAbs_natCast]; exact Nat.dvd_mul_left _ _) (by rw [fv_1000, Int.natAbs_natCast, show 1084 = 1077 + 7 from rfl, Nat.pow_add]; omega)
theorem ne_pow {x : UInt64} {n : Nat} (h : fv x = ((n : Nat) : Int)) (h0 : 0 < n) : fv x ≠ 0 := by rw [h]; omega
theorem ne_2 : fv 4611686018427387904 ≠ 0 := ne_pow fv_2 (Nat.two_pow_pos _)
theorem ne_4 : fv 4616189618054758400 ≠ 0 := ne_pow fv_4 (Nat.two_pow_pos _)
theorem ne_3 : fv 4613937818241073152 ≠ 0 := ne_pow fv_3 (Nat.mul_pos (by omega) (Nat.two_pow_pos _))
theorem ne_52 : fv 4841369599423283200 ≠ 0 := ne_pow fv_52 (Nat.two_pow_pos _)
theorem ne_1000 : fv 4652007308841189376 ≠ 0 := ne_pow fv_1000 (Nat.mul_pos (by omega) (Nat.two_pow_pos _))
theorem fv_int {x : UInt64} {i : Int} (h : FP.Core.DInt i x) : FP.Core.DFin x ∧ fv x = i * ((2 ^ 1074 : Nat) : Int) := by
  unfold FP.Core.DInt at h
  cases hx : FP.Core.val64 x with
  | nan => rw [hx] at h; exact h.elim
  | inf s => rw [hx] at h; exact h.elim
  | fin s c q =>
    rw [hx] at h
    refine ⟨⟨s, c, q, hx⟩, ?_⟩
    have hq := (fp_fits hx).2.1
    rw [fp_qmin] at hq
    have hu := FP.Core.whole_units h hq
    rw [show ((-1074 : Int)).toNat = 0 by omega, show (-(-1074 : Int)).toNat = 1074 by omega] at hu
    rw [Nat.pow_zero] at hu
    have hfv : fv x = FP.Core.signed s (FP.Core.inUnits c q (-1074)) := by unfold fv; rw [hx, ← fp_qmin]; rfl
    rw [hfv]
    have e1 : ((1 : Nat) : Int) = 1 := rfl
    rw [e1, Int.mul_one] at hu
    exact hu
theorem fv_i2d (v : Int32) : fv (FP.i2d v) = v.toInt * ((2 ^ 1074 : Nat) : Int) := (fv_int (FP.Core.i2d_int v)).2
theorem fin_i2d (v : Int32) : FP.Core.DFin (FP.i2d v) := (fv_int (FP.Core.i2d_int v)).1
theorem gf_i2d (k : Nat) {v : Int32} (h : v.toInt.natAbs ≤ 2 ^ k) : fGr 1074 (1074 + k) (FP.i2d v) := by
  refine ⟨fin_i2d v, ?_, ?_⟩
  · rw [fv_i2d, Int.natAbs_mul, Int.natAbs_natCast]
    exact Nat.dvd_mul_left _ _
  · rw [fv_i2d, Int.natAbs_mul, Int.natAbs_natCast, Nat.pow_add, Nat.mul_comm]
    exact Nat.mul_le_mul_left _ h
/-- an exact division by 2^k -/
theorem sc_div {x y : UInt64} {c i k : Nat} (hx : FP.Core.DFin x) (hy : FP.Core.DFin y) (hc : c ≤ 2 ^ 53) (h : fv x = ((c * 2 ^ (i + k) : Nat) : Int)) (h2 : fv y = ((2 ^ (1074 + k) : Nat) : Int)) (hi : i ≤ 2040) : FP.Core.DFin (FP.ddiv x y) ∧ fv (FP.ddiv x y) = ((c * 2 ^ i : Nat) : Int) := by
  have hk := Nat.two_pow_pos (1074 + k)
  have h0 : fv y ≠ 0 := by rw [h2]; omega
  have hs : (fv y).sign = 1 := by rw [h2]; exact Int.sign_eq_one_of_pos (by omega)
  have hA : (fv x).natAbs * 2 ^ 1074 = (fv y).natAbs * (c * 2 ^ i) := by
    rw [h, h2, Int.natAbs_natCast, Int.natAbs_natCast, Nat.pow_add 2 i k, Nat.pow_add 2 1074 k]
    generalize (2 : Nat) ^ 1074 = T
    ac_rfl
  have hlt : (fv x).natAbs * 2 ^ 1074 < (fv y).natAbs * 2 ^ 2097 := by
    rw [hA]
    refine Nat.mul_lt_mul_of_pos_left ?_ (Int.natAbs_pos.mpr h0)
    refine Nat.lt_of_le_of_lt (Nat.mul_le_mul_right _ hc) ?_
    rw [← Nat.pow_add]
    exact Nat.pow_lt_pow_right (by omega) (by omega)
  obtain ⟨f1, f2⟩ := fp_div hx hy h0 hlt
  rw [hs, Int.mul_one] at f2
  have hnn : 0 ≤ fv x * ((2 ^ 1074 : Nat) : Int) := Int.mul_nonneg (by rw [h]; exact Int.natCast_nonneg _) (by omega)
  have h3 := f2.1
  rw [Int.natAbs_mul, Int.natAbs_natCast] at h3
  have h4 := rn_exact (Int.natAbs_pos.mpr h0) h3 hA hc
  refine ⟨f1, ?_⟩
  have := f2.2.1 hnn
  omega
/-- an exact product with 2^k -/
theorem sc_mul {x y : UInt64} {c i j k : Nat} (hx : FP.Core.DFin x) (hy : FP.Core.DFin y) (hc : c ≤ 2 ^ 53) (h : fv x = ((c * 2 ^ i : Nat) : Int)) (h2 : fv y = ((2 ^ k : Nat) : Int)) (hj : i + k = j + 1074) (hjl : j ≤ 2040) : FP.Core.DFin (FP.dmul x y) ∧ fv (FP.dmul x y) = ((c * 2 ^ j : Nat) : Int) := by
  have hA : (fv x * fv y).natAbs = 2 ^ 1074 * (c * 2 ^ j) := by
    rw [Int.natAbs_mul, h, h2, Int.natAbs_natCast, Int.natAbs_natCast]
    have e : 2 ^ i * 2 ^ k = 2 ^ j * 2 ^ 1074 := by rw [← Nat.pow_add, ← Nat.pow_add, hj]
    generalize (2 : Nat) ^ 1074 = T at e ⊢
    calc c * 2 ^ i * 2 ^ k = c * (2 ^ i * 2 ^ k) := by ac_rfl
      _ = c * (2 ^ j * T) := by rw [e]
      _ = T * (c * 2 ^ j) := by ac_rfl
  have hlt : (fv x * fv y).natAbs < 2 ^ 1074 * 2 ^ 2097 := by
    rw [hA]
    refine Nat.mul_lt_mul_of_pos_left ?_ (Nat.two_pow_pos _)
    refine Nat.lt_of_le_of_lt (Nat.mul_le_mul_right _ hc) ?_
    rw [← Nat.pow_add]
    exact Nat.pow_lt_pow_right (by omega) (by omega)
  obtain ⟨f1, f2⟩ := fp_mul hx hy hlt
  have hnn : 0 ≤ fv x * fv y := Int.mul_nonneg (by rw [h]; exact Int.natCast_nonneg _) (by rw [h2]; exact Int.natCast_nonneg _)
  have h4 := rn_exact (Nat.two_pow_pos 1074) f2.1 hA hc
  refine ⟨f1, ?_⟩
  have := f2.2.1 hnn
  omega
/-- a number that fits a long, cut to it -/
theorem fv_d2l {x : UInt64} {n : Nat} (hx : FP.Core.DFin x) (h : fv x = ((n * 2 ^ 1074 : Nat) : Int)) (hn : n < 2 ^ 62) : FP.d2l x = lN n := by
  obtain ⟨s, c, q, hv⟩ := hx
  have hq := (fp_fits hv).2.1
  rw [fp_qmin] at hq
  have hfv : fv x = FP.Core.signed s (FP.Core.inUnits c q (-1074)) := by unfold fv; rw [hv, ← fp_qmin]; rfl
  have hw : FP.Core.Whole (n : Int) (FP.Core.val64 x) := by
    rw [hv]
    show FP.Core.signed s (c * 2 ^ q.toNat) = (n : Int) * ((2 ^ (-q).toNat : Nat) : Int)
    rw [hfv] at h
    have hab : c * 2 ^ (q + 1074).toNat = n * 2 ^ 1074 := by
      have := congrArg Int.natAbs h
      rw [FP.Core.natAbs_signed, Int.natAbs_natCast] at this
      unfold FP.Core.inUnits at this
      rw [show (q - -1074) = q + 1074 by omega] at this
      exact this
    have hpos : c * 2 ^ q.toNat = n * 2 ^ (-q).toNat := by
      have e1 : (q + 1074).toNat + (-q).toNat = q.toNat + 1074 := by omega
      have e2 : 2 ^ (q + 1074).toNat * 2 ^ (-q).toNat = 2 ^ q.toNat * 2 ^ 1074 := by rw [← Nat.pow_add, ← Nat.pow_add, e1]
      have e3 : c * 2 ^ q.toNat * 2 ^ 1074 = n * 2 ^ (-q).toNat * 2 ^ 1074 := by
        calc c * 2 ^ q.toNat * 2 ^ 1074 = c * (2 ^ q.toNat * 2 ^ 1074) := Nat.mul_assoc _ _ _
          _ = c * (2 ^ (q + 1074).toNat * 2 ^ (-q).toNat) := by rw [e2]
          _ = c * 2 ^ (q + 1074).toNat * 2 ^ (-q).toNat := (Nat.mul_assoc _ _ _).symm
          _ = n * 2 ^ 1074 * 2 ^ (-q).toNat := by rw [hab]
          _ = n * 2 ^ (-q).toNat * 2 ^ 1074 := by rw [Nat.mul_assoc, Nat.mul_comm (2 ^ 1074), ← Nat.mul_assoc]
      exact Nat.eq_of_mul_eq_mul_right (Nat.two_pow_pos 1074) e3
    cases s with
    | false =>
      show ((c * 2 ^ q.toNat : Nat) : Int) = _
      rw [hpos, Int.natCast_mul]
    | true =>
      have hc0 : c * 2 ^ (q + 1074).toNat = 0 := by
        have h5 : FP.Core.signed true (FP.Core.inUnits c q (-1074)) = -((FP.Core.inUnits c q (-1074) : Nat) : Int) := rfl
        rw [h5] at h
        have h6 : FP.Core.inUnits c q (-1074) = 0 := by omega
        unfold FP.Core.inUnits at h6
        rw [show (q - -1074) = q + 1074 by omega] at h6
        exact h6
      have hn0 : n = 0 := by
        rw [hc0] at hab
        rcases Nat.mul_eq_zero.mp hab.symm with h | h
        · exact h
        · exact absurd h (Nat.ne_of_gt (Nat.two_pow_pos _))
      have hcz : c = 0 := by
        rcases Nat.mul_eq_zero.mp hc0 with h | h
        · exact h
        · exact absurd h (Nat.ne_of_gt (Nat.two_pow_pos _))
      subst hn0; subst hcz
      show -((0 * 2 ^ q.toNat : Nat) : Int) = _
      omega
  have ht : (lN n).toInt = (n : Int) := pk_lT (by omega)
  exact FP.Core.d2l_int (by unfold FP.Core.DInt; rw [ht]; exact hw)
end
section
/-! ===== lN n to 2^64: shifts, and, or, masks, one bit ===== -/
theorem wb_tb (n : Nat) : (lN n).toBitVec = BitVec.ofNat 64 n := rfl
theorem wb_inj {a b : Int64} (h : a.toBitVec = b.toBitVec) : a = b := Int64.toBitVec_inj.mp h
theorem wb_tn {n : Nat} (h : n < 2 ^ 64) : (lN n).toBitVec.toNat = n := by rw [wb_tb, BitVec.toNat_ofNat, Nat.mod_eq_of_lt h]
theorem wb_of (x : Int64) : ∃ n, n < 2 ^ 64 ∧ x = lN n := ⟨x.toBitVec.toNat, x.toBitVec.isLt, wb_inj (by rw [wb_tb]; simp)⟩
theorem wb_of32 (x : Int32) : ∃ n, n < 2 ^ 32 ∧ x = nI n := ⟨x.toBitVec.toNat, x.toBitVec.isLt, Int32.toBitVec_inj.mp (by show _ = BitVec.ofNat 32 _; simp)⟩
theorem wb_c : ∀ k, k < 64 → ((nI k).toInt64 &&& 63) = lN k := by decide +kernel
theorem wb_cu : ∀ k, k < 64 → ((nI k).toInt64.toUInt64 &&& Int64.toUInt64 63) = UInt64.ofNat k := by decide +kernel
theorem wb_sm : ∀ k, k < 64 → (BitVec.ofNat 64 k).smod 64 = BitVec.ofNat 64 k := by decide +kernel
theorem wb_pw {a b : Nat} (h : a ≤ b) : 2 ^ b = 2 ^ a * 2 ^ (b - a) := by rw [← Nat.pow_add]; congr 1; omega
theorem wb_lt2 {a b : Nat} (h : a < b) : 2 ^ a < 2 ^ b := Nat.pow_lt_pow_right (by decide) h
theorem wb_mod (n : Nat) : lN n = lN (n % 2 ^ 64) := wb_inj (by rw [wb_tb, wb_tb]; apply BitVec.eq_of_toNat_eq; rw [BitVec.toNat_ofNat, BitVec.toNat_ofNat, Nat.mod_mod])
theorem wb_shr {n k : Nat} (hn : n < 2 ^ 64) (hk : k < 64) : ((lN n).toUInt64 >>> ((nI k).toInt64.toUInt64 &&& Int64.toUInt64 63)).toInt64 = lN (n / 2 ^ k) := by
  rw [wb_cu k hk]
  apply wb_inj
  apply BitVec.eq_of_toNat_eq
  show ((lN n).toUInt64 >>> UInt64.ofNat k).toNat = (BitVec.ofNat 64 _).toNat
  have h1 : (UInt64.ofNat k).toNat = k := by
    show (BitVec.ofNat 64 k).toNat = k
    rw [BitVec.toNat_ofNat, Nat.mod_eq_of_lt (by omega)]
  have h2 : (lN n).toUInt64.toNat = n := wb_tn hn
  rw [UInt64.toNat_shiftRight, h1, h2, Nat.mod_eq_of_lt hk, Nat.shiftRight_eq_div_pow, BitVec.toNat_ofNat, Nat.mod_eq_of_lt (Nat.lt_of_le_of_lt (Nat.div_le_self _ _) hn)]
theorem wb_shl (n : Nat) {k : Nat} (hk : k < 64) : lN n <<< ((nI k).toInt64 &&& 63) = lN (n * 2 ^ k) := by
  rw [wb_c k hk]
  apply wb_inj
  rw [Int64.toBitVec_shiftLeft, wb_tb, wb_tb, wb_tb, wb_sm k hk]
  apply BitVec.eq_of_toNat_eq
  rw [BitVec.shiftLeft_eq', BitVec.toNat_shiftLeft, BitVec.toNat_ofNat, BitVec.toNat_ofNat, BitVec.toNat_ofNat, Nat.mod_eq_of_lt (show k < 2 ^ 64 by omega), Nat.shiftLeft_eq, Nat.mul_mod, Nat.mod_mod, ← Nat.mul_mod]
theorem wb_and {a b : Nat} (ha : a < 2 ^ 64) (hb : b < 2 ^ 64) : lN a &&& lN b = lN (a &&& b) := by
  apply wb_inj
  rw [Int64.toBitVec_and, wb_tb, wb_tb, wb_tb]
  apply BitVec.eq_of_toNat_eq
  rw [BitVec.toNat_and, BitVec.toNat_ofNat, BitVec.toNat_ofNat, BitVec.toNat_ofNat, Nat.mod_eq_of_lt ha, Nat.mod_eq_of_lt hb, Nat.mod_eq_of_lt (Nat.and_lt_two_pow _ hb)]
theorem wb_or {a b : Nat} (ha : a < 2 ^ 64) (hb : b < 2 ^ 64) : lN a ||| lN b = lN (a ||| b) := by
  apply wb_inj
  rw [Int64.toBitVec_or, wb_tb, wb_tb, wb_tb]
  apply BitVec.eq_of_toNat_eq
  rw [BitVec.toNat_or, BitVec.toNat_ofNat, BitVec.toNat_ofNat, BitVec.toNat_ofNat, Nat.mod_eq_of_lt ha, Nat.mod_eq_of_lt hb, Nat.mod_eq_of_lt (Nat.or_lt_two_pow ha hb)]
theorem wb_mask {n k : Nat} (hn : n < 2 ^ 64) (hk : k < 64) : lN n &&& lN (2 ^ k - 1) = lN (n % 2 ^ k) := by
  rw [wb_and hn (by have := wb_lt2 hk; omega), Nat.and_two_pow_sub_one_eq_mod]
theorem wb_a1 {n : Nat} (hn : n < 2 ^ 64) : lN n &&& 1 = lN (n % 2) := wb_mask (k := 1) hn (by decide)
theorem wb_bit {n k : Nat} (hn : n < 2 ^ 64) (hk : k < 64) : ((lN n).toUInt64 >>> ((nI k).toInt64.toUInt64 &&& Int64.toUInt64 63)).toInt64 &&& 1 = lN (n / 2 ^ k % 2) := by
  rw [wb_shr hn hk, wb_a1 (Nat.lt_of_le_of_lt (Nat.div_le_self _ _) hn)]
theorem wb_xor {q k : Nat} (hk : k < 63) (h : 2 ^ k ≤ q) (h2 : q < 2 ^ (k + 1)) : lN q ^^^ lN (2 ^ k) = lN (q - 2 ^ k) := by
  obtain ⟨r, rfl⟩ : ∃ r, q = 2 ^ k + r := ⟨q - 2 ^ k, by omega⟩
  have hr : r < 2 ^ k := by rw [Nat.pow_succ] at h2; omega
  have hx : (2 ^ k + r) ^^^ 2 ^ k = r := by
    apply Nat.eq_of_testBit_eq
    intro i
    rw [Nat.testBit_xor, Nat.testBit_two_pow]
    rcases Nat.lt_trichotomy i k with h | h | h
    · rw [Nat.testBit_two_pow_add_gt h]
      simp [show ¬ k = i by omega]
    · subst h
      rw [Nat.testBit_two_pow_add_eq]
      simp
    · have a1 : 2 ^ (k + 1) ≤ 2 ^ i := Nat.pow_le_pow_right (by decide) h
      rw [Nat.testBit_lt_two_pow (show 2 ^ k + r < 2 ^ i by omega), Nat.testBit_lt_two_pow (show r < 2 ^ i by omega)]
      simp [show ¬ k = i by omega]
  have b1 := wb_lt2 (show k + 1 < 64 by omega)
  have b2 := wb_lt2 (show k < 64 by omega)
  apply wb_inj
  rw [Int64.toBitVec_xor, wb_tb, wb_tb, wb_tb]
  apply BitVec.eq_of_toNat_eq
  rw [BitVec.toNat_xor, BitVec.toNat_ofNat, BitVec.toNat_ofNat, BitVec.toNat_ofNat, Nat.mod_eq_of_lt (by omega : 2 ^ k + r < 2 ^ 64), Nat.mod_eq_of_lt b2, hx, Nat.add_sub_cancel_left, Nat.mod_eq_of_lt (by omega)]
/-! ===== lN: masks, 'or' of parts that don't overlap is a sum ===== -/
theorem u_tn {n : Nat} (h : n < 2 ^ 64) : (UInt64.ofNat n).toNat = n := Nat.mod_eq_of_lt h
theorem g_and {a b c : Nat} (ha : a < 2 ^ 64) (hb : b < 2 ^ 64) (hc : a &&& b = c) : lN a &&& lN b = lN c := by
  subst hc
  have h : UInt64.ofNat a &&& UInt64.ofNat b = UInt64.ofNat (a &&& b) := UInt64.toNat_inj.mp (by rw [UInt64.toNat_and, u_tn ha, u_tn hb, u_tn (Nat.and_lt_two_pow a hb)])
  have h2 := congrArg UInt64.toInt64 h
  exact h2
theorem g_and1 {a : Nat} (ha : a < 2 ^ 64) : lN a &&& 1 = lN (a % 2) := g_and (b := 1) ha (by decide) (Nat.and_two_pow_sub_one_eq_mod a 1)
theorem g_mask {a s p : Nat} (hp : 2 ^ s = p) (hs : s < 64) (ha : a < 2 ^ 64) : lN a &&& lN (p - 1) = lN (a % p) := by
  subst hp
  have := Nat.pow_lt_pow_right (show 1 < 2 by decide) hs
  exact g_and ha (by omega) (Nat.and_two_pow_sub_one_eq_mod a s)
theorem g_or {k p a b : Nat} (hp : 2 ^ k = p) (ha : a < p) (h : b * p + a < 2 ^ 64) : lN (b * p) ||| lN a = lN (b * p + a) := by
  subst hp
  have h1 : b * 2 ^ k ||| a = b * 2 ^ k + a := by rw [← Nat.shiftLeft_eq, Nat.shiftLeft_add_eq_or_of_lt ha]
  have h3 : UInt64.ofNat (b * 2 ^ k) ||| UInt64.ofNat a = UInt64.ofNat (b * 2 ^ k + a) := UInt64.toNat_inj.mp (by rw [UInt64.toNat_or, u_tn (by omega), u_tn (by omega), u_tn h, h1])
  have h2 := congrArg UInt64.toInt64 h3
  exact h2
theorem g_or' {k p a b : Nat} (hp : 2 ^ k = p) (ha : a < p) (h : a + b * p < 2 ^ 64) : lN a ||| lN (b * p) = lN (a + b * p) := by
  rw [Int64.or_comm, g_or hp ha (by omega), Nat.add_comm]
theorem g_ushr {a k p : Nat} {y : UInt64} (hy : y = UInt64.ofNat k) (hk : k < 64) (hp : 2 ^ k = p) (ha : a < 2 ^ 64) : ((lN a).toUInt64 >>> y).toInt64 = lN (a / p) := by
  subst hy hp
  have h : UInt64.ofNat a >>> UInt64.ofNat k = UInt64.ofNat (a / 2 ^ k) := UInt64.toNat_inj.mp (by rw [UInt64.toNat_shiftRight, u_tn ha, u_tn (by omega), u_tn (Nat.lt_of_le_of_lt (Nat.div_le_self _ _) ha), Nat.mod_eq_of_lt hk, Nat.shiftRight_eq_div_pow])
  have h2 := congrArg UInt64.toInt64 h
  exact h2
theorem g_shl {a k p : Nat} {y : Int64} (hy : y.toBitVec.smod 64 = BitVec.ofNat 64 k) (hk : k < 64) (hp : 2 ^ k = p) (ha : a < 2 ^ 64) : lN a <<< y = lN (a * p) := by
  subst hp
  apply Int64.toBitVec_inj.mp
  rw [Int64.toBitVec_shiftLeft, hy]
  apply BitVec.eq_of_toNat_eq
  have hb : (lN a).toBitVec.toNat = a := Nat.mod_eq_of_lt ha
  have hk' : (BitVec.ofNat 64 k).toNat = k := Nat.mod_eq_of_lt (by omega)
  have h : ((lN a).toBitVec <<< BitVec.ofNat 64 k).toNat = (a * 2 ^ k) % 2 ^ 64 := by simp only [BitVec.shiftLeft_eq', BitVec.toNat_shiftLeft, hb, hk', Nat.shiftLeft_eq]
  exact h
/-! ===== lN to 2^62 under >> and >>> ===== -/
theorem pf_lI {a : Nat} (h : a < 2 ^ 63) : (lN a).toInt = (a : Int) := lg_ofNat_toInt h
theorem pf_shr {a d : Nat} {D : Int64} (hD : (D.toBitVec.smod 64).toNat = d) (h : a < 2 ^ 62) : lN a >>> D = lN (a / 2 ^ d) := by
  have hd : a / 2 ^ d ≤ a := Nat.div_le_self _ _
  apply Int64.toInt_inj.mp
  have e : (lN a >>> D).toInt = (lN a).toInt >>> d := by
    rw [← hD]
    exact BitVec.toInt_sshiftRight ..
  rw [e, Int.shiftRight_eq_div_pow, pf_lI (by omega), pf_lI (by omega)]
  rfl
theorem pf_ushr {a d : Nat} {D : UInt64} (hD : D.toNat % 64 = d) (h : a < 2 ^ 62) : ((lN a).toUInt64 >>> D).toInt64 = lN (a / 2 ^ d) := by
  have hd : a / 2 ^ d ≤ a := Nat.div_le_self _ _
  have e : (lN a).toUInt64 >>> D = UInt64.ofNat (a / 2 ^ d) := UInt64.toNat_inj.mp (by
    rw [UInt64.toNat_shiftRight, hD, Nat.shiftRight_eq_div_pow, UInt64.toNat_ofNat']
    show (UInt64.ofNat a).toNat / 2 ^ d = _
    rw [UInt64.toNat_ofNat', Nat.mod_eq_of_lt (by omega), Nat.mod_eq_of_lt (by omega)])
  rw [e]
  rfl
theorem pf_andw (x : Int64) : ∃ m, m < 2 ^ 32 ∧ x &&& 4294967295 = lN m := ⟨x.toBitVec.toNat % 2 ^ 32, Nat.mod_lt _ (by decide), Int64.toBitVec_inj.mp (BitVec.eq_of_toNat_eq (by
  show (x.toBitVec &&& 4294967295#64).toNat = (BitVec.ofNat 64 (x.toBitVec.toNat % 2 ^ 32)).toNat
  rw [BitVec.toNat_and, show (4294967295#64).toNat = 2 ^ 32 - 1 from by decide, Nat.and_two_pow_sub_one_eq_mod, BitVec.toNat_ofNat]
  omega))⟩
/-! A DOUBLE IN ITS NORMAL FORM, and its bits -/
abbrev dv (x : UInt64) (c i : Nat) : Prop := FP.Core.DFin x ∧ fv x = ((c * 2 ^ i : Nat) : Int)
theorem fv_norm {x : UInt64} (hx : FP.Core.DFin x) (h : 2 ^ 52 ≤ (fv x).natAbs) : ∃ (s : Bool) (c i : Nat), 2 ^ 52 ≤ c ∧ c < 2 ^ 53 ∧ i ≤ 2045 ∧ fv x = FP.Core.signed s (c * 2 ^ i) ∧ x.toNat = (if s = true then 2 ^ 63 else 0) + (i + 1) * 2 ^ 52 + (c - 2 ^ 52) := by
  obtain ⟨s, c, q, hv⟩ := hx
  obtain ⟨h1, h2, h3, h4⟩ := fp_fits hv
  have hfv : fv x = FP.Core.signed s (c * 2 ^ (q - FP.Core.b64.qmin).toNat) := by unfold fv; rw [hv]; rfl
  rw [fp_qmin] at hfv h2 h4
  rw [fp_qmax] at h3
  rw [fp_tails] at h4
  obtain ⟨i, rfl⟩ : ∃ i : Nat, q = (i : Int) - 1074 := ⟨(q + 1074).toNat, by omega⟩
  rw [show ((i : Int) - 1074 - -1074).toNat = i by omega] at hfv
  have hc : 2 ^ 52 ≤ c := by
    rcases h4 with h4 | h4
    · have hi : i = 0 := by omega
      subst hi
      rw [hfv, FP.Core.natAbs_signed, Nat.pow_zero, Nat.mul_one] at h
      exact h
    · exact h4
  have hc2 : c < 2 ^ 53 := h1
  refine ⟨s, c, i, hc, hc2, by omega, hfv, ?_⟩
  have hne : FP.Core.val64 x ≠ .nan := by rw [hv]; exact fun h => nomatch h
  have hxe : x = FP.Core.of64 (.fin s c ((i : Int) - 1074)) := by rw [← hv, FP.Core.of64_val64 hne]
  have hn : x.toNat = FP.Core.encode FP.Core.b64 (.fin s c ((i : Int) - 1074)) := by
    rw [← FP.Core.toNat_of64 (fp_fits hv), ← hxe]
  rw [hn]
  have he : FP.Core.encode FP.Core.b64 (.fin s c ((i : Int) - 1074)) = FP.Core.assemble FP.Core.b64 s (((i : Int) - 1074 - FP.Core.b64.qmin).toNat + 1) (c - FP.Core.b64.tails) := if_neg (by rw [fp_tails]; omega)
  rw [he, fp_qmin, fp_tails, show ((i : Int) - 1074 - -1074).toNat = i by omega]
  unfold FP.Core.assemble
  rw [fp_tails, show FP.Core.b64.exps = 2 ^ 11 from rfl]
  cases s with
  | false =>
    rw [if_neg (by decide)]
    show (0 * 2 ^ 11 + (i + 1)) * 2 ^ 52 + (c - 2 ^ 52) = _
    omega
  | true =>
    rw [if_pos rfl]
    show (1 * 2 ^ 11 + (i + 1)) * 2 ^ 52 + (c - 2 ^ 52) = _
    omega
theorem fv_neg {x : UInt64} (hx : FP.Core.DFin x) : FP.Core.DFin (FP.dneg x) ∧ fv (FP.dneg x) = - fv x := by
  have hn : FP.dIsNaN x = false := (FP.Core.notNaN_iff x).mpr (by obtain ⟨s, c, q, h⟩ := hx; rw [h]; exact fun h => nomatch h)
  rw [FP.dneg_core hn]
  constructor
  · obtain ⟨s, c, q, h⟩ := hx
    exact ⟨!s, c, q, by rw [FP.Core.val64_dneg, h]; rfl⟩
  · unfold fv
    rw [FP.Core.val64_dneg, FP.Core.zval_negate]
theorem gf_neg {a b : Nat} {x : UInt64} (h : fGr a b x) : fGr a b (FP.dneg x) := by
  obtain ⟨h1, h2⟩ := fv_neg h.1
  exact ⟨h1, by rw [h2, Int.natAbs_neg]; exact h.2.1, by rw [h2, Int.natAbs_neg]; exact h.2.2⟩
theorem dv_ge {x y : UInt64} {c i k : Nat} (hx : dv x c i) (hy : fv y = ((2 ^ k : Nat) : Int)) (hc : 2 ^ 52 ≤ c) (h : k ≤ 52 + i) : ¬ fv x < fv y := by
  rw [hx.2, hy]
  refine Int.not_lt.mpr (Int.ofNat_le.mpr ?_)
  refine Nat.le_trans (Nat.pow_le_pow_right (by omega) h) ?_
  rw [Nat.pow_add]
  exact Nat.mul_le_mul_right _ hc
theorem dv_lt {x y : UInt64} {c i k : Nat} (hx : dv x c i) (hy : fv y = ((2 ^ k : Nat) : Int)) (hc : c < 2 ^ 53) (h : 53 + i ≤ k) : fv x < fv y := by
  rw [hx.2, hy]
  refine Int.ofNat_lt.mpr (Nat.lt_of_lt_of_le ?_ (Nat.pow_le_pow_right (by omega) h))
  rw [Nat.pow_add]
  exact Nat.mul_lt_mul_of_pos_right hc (Nat.two_pow_pos i)
theorem dv_pos {x : UInt64} {c i : Nat} (hx : dv x c i) (hc : 2 ^ 52 ≤ c) : 0 < fv x := by
  rw [hx.2]
  have := Nat.mul_pos (show 0 < c by omega) (Nat.two_pow_pos i)
  omega
/-- a number whose bits the methods tell rightly: a zero, or one that isn't less than the least normal one -/
def bOk (x : UInt64) : Prop := x = 0 ∨ x = 9223372036854775808 ∨ (FP.Core.DFin x ∧ 2 ^ 52 ≤ (fv x).natAbs ∧ (fv x).natAbs < 2 ^ 2090)
theorem bOk_gr {a b : Nat} {x : UInt64} (h : fGr a b x) (ha : 52 ≤ a) (hb : b ≤ 2089) : bOk x := by
  by_cases h0 : fv x = 0
  · have hz : x.toNat % 2 ^ 63 = 0 := by
      have hne : FP.Core.val64 x ≠ .nan := by obtain ⟨s, c, q, h⟩ := h.1; rw [h]; exact fun h => nomatch h
      have h1 := FP.Core.zmag_bits hne
      have h2 : FP.Core.zmag FP.Core.b64 (FP.Core.val64 x) = 0 := by
        have := congrArg Int.natAbs h0
        unfold fv FP.Core.zval at this
        rw [FP.Core.natAbs_signed] at this
        exact this
      rw [h2] at h1
      exact FP.Core.unitsOf_eq_zero.mp h1.symm
    have hl := x.toNat_lt
    rcases Nat.lt_or_ge x.toNat (2 ^ 63) with h3 | h3
    · exact Or.inl (UInt64.toNat_inj.mp (by show x.toNat = 0; omega))
    · exact Or.inr (Or.inl (UInt64.toNat_inj.mp (by show x.toNat = 9223372036854775808; omega)))
  · exact Or.inr (Or.inr ⟨h.1, Nat.le_trans (Nat.pow_le_pow_right (by omega) ha) (fv_ne0 h h0), Nat.lt_of_le_of_lt h.2.2 (Nat.pow_lt_pow_right (by omega) (by omega))⟩)
theorem fv_normb {x : UInt64} (hx : FP.Core.DFin x) (h : 2 ^ 52 ≤ (fv x).natAbs ∧ (fv x).natAbs < 2 ^ 2090) : ∃ (s : Bool) (c i : Nat), 2 ^ 52 ≤ c ∧ c < 2 ^ 53 ∧ i ≤ 2037 ∧ fv x = FP.Core.signed s (c * 2 ^ i) ∧ x.toNat = (if s = true then 2 ^ 63 else 0) + (i + 1) * 2 ^ 52 + (c - 2 ^ 52) := by
  obtain ⟨s, c, i, h1, h2, h3, h4, h5⟩ := fv_norm hx h.1
  refine ⟨s, c, i, h1, h2, ?_, h4, h5⟩
  have h6 := h.2
  rw [h4, FP.Core.natAbs_signed] at h6
  have h7 : 2 ^ (52 + i) < 2 ^ 2090 := by
    rw [Nat.pow_add]
    exact Nat.lt_of_le_of_lt (Nat.mul_le_mul_right _ h1) h6
  have := rn_powlt h7
  omega
theorem lN_bv (n : Nat) : (lN n).toBitVec = BitVec.ofNat 64 n := rfl
theorem L_inj {a b : Int64} (h : a.toBitVec = b.toBitVec) : a = b := Int64.toBitVec_inj.mp h
theorem U_lN (x : UInt64) : x.toInt64 = lN x.toNat := by
  apply L_inj
  rw [lN_bv]
  show x.toBitVec = BitVec.ofNat 64 x.toBitVec.toNat
  rw [BitVec.ofNat_toNat, BitVec.setWidth_eq]
theorem lN_shl52 (n : Nat) : lN n <<< (Int32.toInt64 52 &&& 63) = lN (n * 2 ^ 52) := wb_shl n (k := 52) (by decide)
end
section
/-! THE ROOT: what a rounded root is; that there is one at most; Newton's steps -/
theorem fv_inj {a b : UInt64} (ha : FP.Core.DFin a) (hb : FP.Core.DFin b) (h : fv a = fv b) (h0 : fv b ≠ 0) : a = b := by
  refine FP.Core.eq_bits (fun hz => h0 hz.zval) ?_
  rw [show FP.Core.dcmp a b = some (compare (fv a) (fv b)) from fp_cmp ha hb, h]
  exact congrArg some (FP.Core.compare_self_int _)
def IsRt (x r : UInt64) : Prop := (x = 0 ∧ r = 0) ∨ ∃ N h R : Nat, dv x N (2 * h) ∧ 2 ^ 52 ≤ N ∧ N < 2 ^ 54 ∧ R * R < N * 2 ^ 52 + R ∧ N * 2 ^ 52 ≤ R * R + R ∧ dv r R (h + 511)
theorem rt_h {N N' h h' : Nat} (a1 : 2 ^ 52 ≤ N) (b2 : N' < 2 ^ 54) (e : N * 2 ^ (2 * h) = N' * 2 ^ (2 * h')) : h ≤ h' := by
  refine Nat.le_of_not_lt fun hlt => ?_
  have e2 : 2 ^ (2 * h) = 2 ^ (2 * (h - h')) * 2 ^ (2 * h') := by rw [← Nat.pow_add]; congr 1; omega
  rw [e2, ← Nat.mul_assoc] at e
  have e3 := Nat.eq_of_mul_eq_mul_right (Nat.two_pow_pos _) e
  have e4 : 2 ^ 2 ≤ 2 ^ (2 * (h - h')) := Nat.pow_le_pow_right (by omega) (by omega)
  have e5 : 2 ^ 52 * 2 ^ 2 ≤ N * 2 ^ (2 * (h - h')) := Nat.mul_le_mul a1 e4
  omega
theorem rt_R {M R R' : Nat} (h1 : M ≤ R * R + R) (h2 : R' * R' < M + R') : R' ≤ R := by
  refine Nat.le_of_not_lt fun hlt => ?_
  obtain ⟨k, rfl⟩ : ∃ k, R' = R + 1 + k := ⟨R' - (R + 1), by omega⟩
  have : (R + 1 + k) * (R + 1 + k) = R * R + 2 * R + 1 + 2 * (R * k) + 2 * k + k * k := by
    simp only [Nat.add_mul, Nat.mul_add, Nat.mul_one, Nat.one_mul, Nat.mul_comm k R]; omega
  omega
theorem rt_uniq {x r r' : UInt64} (h : IsRt x r) (h' : IsRt x r') : r = r' := by
  rcases h with ⟨hx, hr⟩ | ⟨N, h, R, d1, a1, a2, a3, a4, d2⟩
  · rcases h' with ⟨_, hr'⟩ | ⟨N', h', R', d1', a1', _⟩
    · rw [hr, hr']
    · exfalso
      have := dv_pos d1' a1'
      rw [hx, fv_z] at this
      exact absurd this (by decide)
  · rcases h' with ⟨hx, _⟩ | ⟨N', h', R', d1', a1', a2', a3', a4', d2'⟩
    · exfalso
      have := dv_pos d1 a1
      rw [hx, fv_z] at this
      exact absurd this (by decide)
    · have e : N * 2 ^ (2 * h) = N' * 2 ^ (2 * h') := by
        have := d1.2.symm.trans d1'.2
        exact Int.ofNat_inj.mp this
      have hh : h = h' := Nat.le_antisymm (rt_h a1 a2' e) (rt_h a1' a2 e.symm)
      subst hh
      have hN := Nat.eq_of_mul_eq_mul_right (Nat.two_pow_pos _) e
      subst hN
      have hR : R = R' := Nat.le_antisymm (rt_R a4' a3) (rt_R a4 a3')
      subst hR
      refine fv_inj d2.1 d2'.1 (d2.2.trans d2'.2.symm) ?_
      rw [d2'.2]
      have hR0 : R ≠ 0 := by
        intro h0
        subst h0
        omega
      have := Nat.mul_pos (Nat.pos_of_ne_zero hR0) (Nat.two_pow_pos (h + 511))
      omega
noncomputable def fsq (x : UInt64) : UInt64 := Classical.epsilon (IsRt x)
theorem fsq_eq {x r : UInt64} (h : IsRt x r) : r = fsq x := rt_uniq h (Classical.epsilon_spec ⟨r, h⟩)
theorem rt_sq_le {R M : Nat} (hM : M < 2 ^ 106) (h : R * R < M + R) : R ≤ 2 ^ 53 := by
  refine Nat.le_of_not_lt fun hl => ?_
  have h1 : (2 ^ 53 + 1) * R ≤ R * R := Nat.mul_le_mul_right _ hl
  have h2 : 2 ^ 53 * 2 ^ 53 ≤ 2 ^ 53 * R := Nat.mul_le_mul_left _ (Nat.le_of_lt hl)
  rw [Nat.add_mul, Nat.one_mul] at h1
  omega
set_option maxRecDepth 100000 in
theorem sq_b {h b b' : Nat} (k4 : 52 + 2 * h ≤ b) (h2 : b + 1076 ≤ 2 * b') : 53 + (h + 511) ≤ b' := Nat.le_of_mul_le_mul_left (by omega : 2 * (53 + (h + 511)) ≤ 2 * b') (by omega)
theorem gf_sq {x r : UInt64} {a b : Nat} (a' b' : Nat) (h : IsRt x r) (g : fGr a b x) (h1 : 2 * a' + 53 ≤ a + 1022) (h2 : b + 1076 ≤ 2 * b') : fGr a' b' r := by
  rcases h with ⟨hx, hr⟩ | ⟨N, h, R, d1, n1, n2, r1, r2, d2⟩
  · subst hr
    exact gf_dec (by decide +kernel) (by rw [fv_z]; exact Nat.dvd_zero _) (by rw [fv_z]; exact Nat.zero_le _)
  · have hx := d1.2
    have g2 := g.2.1
    have g3 := g.2.2
    rw [hx, Int.natAbs_natCast] at g2 g3
    have hpos : 0 < N * 2 ^ (2 * h) := Nat.mul_pos (by omega) (Nat.two_pow_pos _)
    have k1 : 2 ^ a < 2 ^ (54 + 2 * h) := by
      refine Nat.lt_of_le_of_lt (Nat.le_of_dvd hpos g2) ?_
      rw [Nat.pow_add]
      exact Nat.mul_lt_mul_of_pos_right n2 (Nat.two_pow_pos _)
    have k2 := rn_powlt k1
    have k3 : 2 ^ (52 + 2 * h) ≤ 2 ^ b := by
      rw [Nat.pow_add]
      exact Nat.le_trans (Nat.mul_le_mul_right _ n1) g3
    have k4 := rn_pow k3
    have hR := rt_sq_le (by omega) r1
    refine ⟨d2.1, ?_, ?_⟩
    · rw [d2.2, Int.natAbs_natCast]
      exact Nat.dvd_trans (Nat.pow_dvd_pow 2 (by omega)) (Nat.dvd_mul_left _ _)
    · rw [d2.2, Int.natAbs_natCast]
      refine Nat.le_trans (Nat.mul_le_mul_right _ hR) ?_
      rw [← Nat.pow_add]
      exact Nat.pow_le_pow_right (by decide) (sq_b k4 h2)
/-- an exact product with a power of two, of any number -/
theorem sc_up {x y : UInt64} {n k : Nat} (hx : FP.Core.DFin x) (hy : FP.Core.DFin y) (h : fv x = (n : Int)) (h2 : fv y = ((2 ^ (1074 + k) : Nat) : Int)) (hb : n * 2 ^ k < 2 ^ 2097) : FP.Core.DFin (FP.dmul x y) ∧ fv (FP.dmul x y) = ((n * 2 ^ k : Nat) : Int) := by
  obtain ⟨c, i, hc, e⟩ := fv_rep hx
  rw [h, Int.natAbs_natCast] at e
  have hA : (fv x * fv y).natAbs = 2 ^ 1074 * (c * 2 ^ (i + k)) := by
    rw [Int.natAbs_mul, h, h2, Int.natAbs_natCast, Int.natAbs_natCast, e, Nat.pow_add 2 1074 k, Nat.pow_add 2 i k]
    generalize (2 : Nat) ^ 1074 = T
    ac_rfl
  have e2 : c * 2 ^ (i + k) = n * 2 ^ k := by rw [e, Nat.pow_add]; ac_rfl
  obtain ⟨f1, f2⟩ := fp_mul hx hy (by rw [hA, e2]; exact Nat.mul_lt_mul_of_pos_left hb (Nat.two_pow_pos _))
  have h4 := rn_exact (Nat.two_pow_pos 1074) f2.1 hA (Nat.le_of_lt hc)
  refine ⟨f1, ?_⟩
  have := f2.2.1 (Int.mul_nonneg (by rw [h]; exact Int.natCast_nonneg _) (by rw [h2]; exact Int.natCast_nonneg _))
  omega
/-- an exact division by a power of two, of any number -/
theorem sc_dn {x y : UInt64} {w k : Nat} (hx : FP.Core.DFin x) (hy : FP.Core.DFin y) (h : fv x = ((w * 2 ^ k : Nat) : Int)) (h2 : fv y = ((2 ^ (1074 + k) : Nat) : Int)) (hb : w < 2 ^ 2097) : FP.Core.DFin (FP.ddiv x y) ∧ fv (FP.ddiv x y) = (w : Int) := by
  obtain ⟨c, i, hc, e⟩ := fv_rep hx
  rw [h, Int.natAbs_natCast] at e
  have hk := Nat.two_pow_pos (1074 + k)
  have h0 : fv y ≠ 0 := by rw [h2]; omega
  have hs : (fv y).sign = 1 := by rw [h2]; exact Int.sign_eq_one_of_pos (by omega)
  have hA : (fv x).natAbs * 2 ^ 1074 = (fv y).natAbs * w := by
    rw [h, h2, Int.natAbs_natCast, Int.natAbs_natCast, Nat.pow_add 2 1074 k]
    generalize (2 : Nat) ^ 1074 = T
    ac_rfl
  obtain ⟨f1, f2⟩ := fp_div hx hy h0 (by rw [hA]; exact Nat.mul_lt_mul_of_pos_left hb (Int.natAbs_pos.mpr h0))
  rw [hs, Int.mul_one] at f2
  have h3 := f2.1
  rw [Int.natAbs_mul, Int.natAbs_natCast] at h3
  have hrep : ∃ m j, w = m * 2 ^ j ∧ m ≤ 2 ^ 53 := by
    rcases Nat.le_total k i with hki | hki
    · refine ⟨c, i - k, ?_, Nat.le_of_lt hc⟩
      rw [rn_pw hki, ← Nat.mul_assoc] at e
      exact Nat.eq_of_mul_eq_mul_right (Nat.two_pow_pos k) e
    · refine ⟨w, 0, by omega, ?_⟩
      rw [rn_pw hki, ← Nat.mul_assoc] at e
      have e3 := Nat.eq_of_mul_eq_mul_right (Nat.two_pow_pos i) e
      have := Nat.le_mul_of_pos_right w (Nat.two_pow_pos (k - i))
      omega
  obtain ⟨m, j, rfl, hm⟩ := hrep
  have h4 := rn_exact (Int.natAbs_pos.mpr h0) h3 hA hm
  refine ⟨f1, ?_⟩
  have := f2.2.1 (Int.mul_nonneg (by rw [h]; exact Int.natCast_nonneg _) (by omega))
  omega
/-- rounding doesn't come below a number that can be told -/
theorem rn_ge {A B Z m i : Nat} (hB : 0 < B) (h : fRn A B Z) (hm : m ≤ 2 ^ 53) (hA : B * (m * 2 ^ i) ≤ A) : m * 2 ^ i ≤ Z := by
  obtain ⟨j, c, rfl, hc, hlt, hj, h1, h2⟩ := h
  have hM := Nat.mul_pos hB (Nat.two_pow_pos j)
  rcases Nat.lt_or_ge i j with hi | hi
  · rcases hj with hj | hj
    · omega
    · have h3 : 2 ^ 52 ≤ c := rn_c_ge hM h1 (Nat.le_trans (Nat.le_of_eq (by rw [Nat.pow_add]; ac_rfl)) hj)
      calc m * 2 ^ i ≤ 2 ^ 53 * 2 ^ i := Nat.mul_le_mul_right _ hm
        _ = 2 ^ 52 * 2 ^ (i + 1) := by rw [Nat.pow_succ 2 i]; omega
        _ ≤ c * 2 ^ j := Nat.mul_le_mul h3 (Nat.pow_le_pow_right (by omega) hi)
  · have h5 : m * 2 ^ i = m * 2 ^ (i - j) * 2 ^ j := by rw [Nat.mul_assoc, ← rn_pw hi]
    rw [h5]
    refine Nat.mul_le_mul_right _ (rn_c_ge hM h1 (Nat.le_trans (Nat.le_of_eq ?_) hA))
    rw [h5]
    ac_rfl
end
section
/-! NEWTON'S STEPS IN DOUBLES: from a guess of 53 bits to the root cut to a whole number, or little more -/
theorem nw_div {a b c u : Nat} (hu : 0 < u) (h : a * u ≤ b * u + c * u) : a ≤ b + c := Nat.le_of_mul_le_mul_right (by rw [Nat.add_mul]; exact h) hu
theorem nw_sq (G R : Nat) : 2 * (G * R) ≤ G * G + R * R := by
  rcases Nat.le_total G R with h | h
  · obtain ⟨d, rfl⟩ : ∃ d, R = G + d := ⟨R - G, by omega⟩
    simp only [Nat.mul_add, Nat.add_mul, Nat.mul_comm d G]
    omega
  · obtain ⟨d, rfl⟩ : ∃ d, G = R + d := ⟨G - R, by omega⟩
    simp only [Nat.mul_add, Nat.add_mul, Nat.mul_comm d R]
    omega
/-- the step, on whole numbers: u is the unit, Y and S the rounded quotient and sum -/
theorem nw_nat {M G R u Y S : Nat} (hu : 0 < u) (hG1 : 2 ^ 52 ≤ G) (hM1 : 2 ^ 104 ≤ M)
    (hY0 : M < G * 2 ^ 52 → 4 * M * u ≤ 4 * Y * G + G * u) (hY1 : M < G * 2 ^ 53 → 2 * M * u ≤ 2 * Y * G + G * u) (hY2 : 2 * M * u ≤ 2 * Y * G + 2 * G * u) (hY3 : 2 * Y * G ≤ 2 * M * u + 2 * G * u)
    (hY4 : G * 2 ^ 53 ≤ M → 2 ^ 53 * u ≤ Y) (hY5 : G * 2 ^ 52 ≤ M → 2 ^ 52 * u ≤ Y)
    (hS1 : G * u + Y < 2 ^ 54 * u → 2 * (G * u + Y) ≤ 2 * S + 2 * u) (hS2 : 2 ^ 54 * u ≤ G * u + Y → 2 ^ 54 * u ≤ S) (hS3 : 2 * S ≤ 2 * (G * u + Y) + 4 * u) (hS4 : 2 ^ 53 * u ≤ G * u + Y → 2 ^ 53 * u ≤ S) (hS5 : G * u + Y < 2 ^ 53 * u → 2 * (G * u + Y) ≤ 2 * S + u)
    (hD1 : 2 ^ 52 * u ≤ S → u ∣ S) (hD2 : 2 ^ 53 * u ≤ S → 2 * u ∣ S) :
    ∃ G' : Nat, S = G' * u * 2 ∧ 2 ^ 52 ≤ G' ∧ 2 * (G * G') ≤ G * G + M + 3 * G ∧ (R * R ≤ M → R + 1 ≤ 2 ^ 53 → R ≤ G' + 1 ∧ (R ≤ G + 1 → R ≤ G')) := by
  have hG0 : 0 < G := by omega
  have hS53 : 2 ^ 53 * u ≤ S := by
    rcases Nat.lt_or_ge M (G * 2 ^ 52) with h | h
    · rcases Nat.lt_or_ge (G * u + Y) (2 ^ 53 * u) with h2 | h2
      · have a0 := hY0 h
        have a1 := hS5 h2
        have a2 : 2 ^ 53 * G ≤ G * G + M := by
          have := nw_sq G (2 ^ 52)
          have e : (2 : Nat) ^ 52 * 2 ^ 52 = 2 ^ 104 := by decide
          omega
        have a3 : 2 ^ 55 * u ≤ 4 * (G * u + Y) + u := by
          refine Nat.le_of_mul_le_mul_right ?_ hG0
          have e1 : (4 * (G * u + Y) + u) * G = 4 * (G * G) * u + 4 * Y * G + G * u := by
            simp only [Nat.add_mul, Nat.mul_add]
            have : 4 * (G * u) * G = 4 * (G * G) * u := by ac_rfl
            have : 4 * Y * G = 4 * Y * G := rfl
            have : u * G = G * u := Nat.mul_comm _ _
            omega
          rw [e1]
          have e2 : 4 * (2 ^ 53 * G) * u ≤ 4 * (G * G + M) * u := Nat.mul_le_mul_right _ (Nat.mul_le_mul_left _ a2)
          have e3 : 2 ^ 55 * u * G = 4 * (2 ^ 53 * G) * u := by
            have : (2 : Nat) ^ 55 = 4 * 2 ^ 53 := by decide
            rw [this]
            ac_rfl
          have e4 : 4 * (G * G + M) * u = 4 * (G * G) * u + 4 * M * u := by rw [Nat.mul_add, Nat.add_mul]
          omega
        have a4 : 2 ^ 52 * u ≤ S := by omega
        obtain ⟨k, hk⟩ := hD1 a4
        have a5 : 2 ^ 55 * u ≤ 4 * S + 3 * u := by omega
        have a6 : (2 ^ 55) * u ≤ (4 * k + 3) * u := by
          rw [Nat.add_mul]
          have : 4 * k * u = 4 * S := by rw [hk, Nat.mul_assoc, Nat.mul_comm k u]
          omega
        have a7 := Nat.le_of_mul_le_mul_right a6 hu
        rw [hk, Nat.mul_comm]
        exact Nat.mul_le_mul_left _ (by omega)
      · exact hS4 h2
    · refine hS4 ?_
      have a0 := hY5 h
      have a1 : 2 ^ 52 * u ≤ G * u := Nat.mul_le_mul_right _ hG1
      omega
  obtain ⟨G', hG'⟩ := hD2 hS53
  have hSe : S = G' * u * 2 := by rw [hG']; ac_rfl
  refine ⟨G', hSe, ?_, ?_, ?_⟩
  · have : (2 ^ 52) * u ≤ G' * u := by omega
    exact Nat.le_of_mul_le_mul_right this hu
  · -- above
    refine Nat.le_of_mul_le_mul_right (c := 2 * u) ?_ (by omega)
    have b1 : 2 * (G' * u) ≤ G * u + Y + 2 * u := by omega
    have b2 : 2 * G * (2 * (G' * u)) ≤ 2 * G * (G * u + Y + 2 * u) := Nat.mul_le_mul_left _ b1
    have e1 : 2 * (G * G') * (2 * u) = 2 * G * (2 * (G' * u)) := by ac_rfl
    have e2 : 2 * G * (G * u + Y + 2 * u) = 2 * (G * G) * u + 2 * Y * G + 4 * (G * u) := by
      simp only [Nat.mul_add]
      have h1 : 2 * G * (G * u) = 2 * (G * G) * u := by ac_rfl
      have h2 : 2 * G * Y = 2 * Y * G := by ac_rfl
      have h3 : 2 * G * (2 * u) = 4 * (G * u) := by rw [show (4 : Nat) = 2 * 2 from rfl]; ac_rfl
      omega
    have e3 : (G * G + M + 3 * G) * (2 * u) = 2 * (G * G) * u + 2 * M * u + 6 * (G * u) := by
      simp only [Nat.add_mul]
      have h1 : G * G * (2 * u) = 2 * (G * G) * u := by ac_rfl
      have h2 : M * (2 * u) = 2 * M * u := by ac_rfl
      have h3 : 3 * G * (2 * u) = 6 * (G * u) := by rw [show (6 : Nat) = 3 * 2 from rfl]; ac_rfl
      omega
    have e4 : 2 * G * u = 2 * (G * u) := Nat.mul_assoc _ _ _
    omega
  · intro hR hR53
    have hsq := nw_sq G R
    have hP : ∀ {a b : Nat}, 2 * (G * a) ≤ 2 * (G * b) → a ≤ b := fun h => Nat.le_of_mul_le_mul_left (by omega : G * _ ≤ G * _) hG0
    rcases Nat.lt_or_ge (G * u + Y) (2 ^ 54 * u) with h | h
    · have c0 := hS1 h
      have c1 : G * u + Y ≤ 2 * (G' * u) + u := by omega
      have c2 : 2 * G * (G * u + Y) ≤ 2 * G * (2 * (G' * u) + u) := Nat.mul_le_mul_left _ c1
      have e2 : 2 * G * (G * u + Y) = 2 * (G * G) * u + 2 * Y * G := by
        simp only [Nat.mul_add]
        have h1 : 2 * G * (G * u) = 2 * (G * G) * u := by ac_rfl
        have h2 : 2 * G * Y = 2 * Y * G := by ac_rfl
        omega
      have e3 : 2 * G * (2 * (G' * u) + u) = 4 * (G * G') * u + 2 * (G * u) := by
        simp only [Nat.mul_add]
        have h1 : 2 * G * (2 * (G' * u)) = 4 * (G * G') * u := by rw [show (4 : Nat) = 2 * 2 from rfl]; ac_rfl
        have h2 : 2 * G * u = 2 * (G * u) := Nat.mul_assoc _ _ _
        omega
      have e4 : 2 * G * u = 2 * (G * u) := Nat.mul_assoc _ _ _
      constructor
      · have c3 : (2 * (G * G) + 2 * M) * u ≤ (4 * (G * G') + 4 * G) * u := by
          simp only [Nat.add_mul]
          have h3 : 4 * G * u = 4 * (G * u) := Nat.mul_assoc _ _ _
          omega
        have c4 := Nat.le_of_mul_le_mul_right c3 hu
        refine hP ?_
        have e5 : G * (G' + 1) = G * G' + G := by rw [Nat.mul_add, Nat.mul_one]
        omega
      · intro hRG
        rcases Nat.lt_or_ge M (G * 2 ^ 53) with h2 | h2
        · have c5 := hY1 h2
          have c3 : (2 * (G * G) + 2 * M) * u ≤ (4 * (G * G') + 3 * G) * u := by
            simp only [Nat.add_mul]
            have h3 : 3 * G * u = 3 * (G * u) := Nat.mul_assoc _ _ _
            omega
          have c4 := Nat.le_of_mul_le_mul_right c3 hu
          refine Nat.le_of_not_lt fun hlt => ?_
          have c6 : G * (G' + 1) ≤ G * R := Nat.mul_le_mul_left _ hlt
          rw [Nat.mul_add, Nat.mul_one] at c6
          omega
        · have c5 := hY4 h2
          have c6 : (G + 2 ^ 53) * u ≤ (2 * G' + 1) * u := by
            simp only [Nat.add_mul, Nat.one_mul]
            have h3 : 2 * G' * u = 2 * (G' * u) := Nat.mul_assoc _ _ _
            omega
          have c7 := Nat.le_of_mul_le_mul_right c6 hu
          omega
    · have c0 := hS2 h
      have c1 : (2 ^ 53) * u ≤ G' * u := by omega
      have c2 := Nat.le_of_mul_le_mul_right c1 hu
      exact ⟨by omega, fun _ => by omega⟩
theorem nw_D {G G' R M D K : Nat} (h : 2 * (G * G') ≤ G * G + M + 3 * G) (hM : M ≤ R * R + 2 * R) (h1 : G ≤ R + D) (h2 : R ≤ G + D) (hG : 2 ^ 52 ≤ G) (hR : R < 2 ^ 53) (hK : D * D ≤ 2 ^ 53 * K) : G' ≤ R + K + 4 := by
  refine Nat.le_of_not_lt fun hlt => ?_
  have a1 : G * (R + K + 5) ≤ G * G' := Nat.mul_le_mul_left _ hlt
  have a2 : G * (R + K + 5) = G * R + G * K + 5 * G := by simp only [Nat.mul_add]; omega
  have a3 : 2 ^ 52 * K ≤ G * K := Nat.mul_le_mul_right _ hG
  have a4 : G * G + R * R ≤ 2 * (G * R) + D * D := by
    rcases Nat.le_total G R with hh | hh
    · obtain ⟨d, rfl⟩ : ∃ d, R = G + d := ⟨R - G, by omega⟩
      have : d * d ≤ D * D := Nat.mul_le_mul (by omega) (by omega)
      simp only [Nat.mul_add, Nat.add_mul, Nat.mul_comm d G]
      omega
    · obtain ⟨d, rfl⟩ : ∃ d, G = R + d := ⟨G - R, by omega⟩
      have : d * d ≤ D * D := Nat.mul_le_mul (by omega) (by omega)
      simp only [Nat.mul_add, Nat.add_mul, Nat.mul_comm d R]
      omega
  omega
theorem nw_bnd {A B : Nat} {a : Nat} (h : A ≤ B * 2 ^ a) (ha : a ≤ 2096) (hB : 0 < B) : A < B * 2 ^ 2097 := rn_2097 hB h ha
set_option maxRecDepth 100000 in
/-- one step, in doubles -/
theorem nw_step {x g : UInt64} {N G : Nat} (hx : dv x N 1022) (hN1 : 2 ^ 52 ≤ N) (hN2 : N < 2 ^ 54) (hg : dv g G 1022) (hG1 : 2 ^ 52 ≤ G) (hG2 : G < 2 ^ 54) :
    FP.Core.DFin (FP.ddiv x g) ∧ FP.Core.DFin (FP.dadd g (FP.ddiv x g)) ∧ ∃ G' : Nat, dv (FP.ddiv (FP.dadd g (FP.ddiv x g)) 4611686018427387904) G' 1022 ∧ 2 ^ 52 ≤ G' ∧ 2 * (G * G') ≤ G * G + N * 2 ^ 52 + 3 * G ∧ ∀ R : Nat, R * R ≤ N * 2 ^ 52 → R + 1 ≤ 2 ^ 53 → R ≤ G' + 1 ∧ (R ≤ G + 1 → R ≤ G') := by
  have p74 : (2 : Nat) ^ 1074 = 2 ^ 52 * 2 ^ 1022 := by rw [← Nat.pow_add]
  have p75 : (2 : Nat) ^ (1022 + 53) = 2 ^ 53 * 2 ^ 1022 := by rw [← Nat.pow_add]
  have p76 : (2 : Nat) ^ (1023 + 53) = 2 ^ 54 * 2 ^ 1022 := by rw [← Nat.pow_add]
  have p77 : (2 : Nat) ^ (1024 + 53) = 2 ^ 55 * 2 ^ 1022 := by rw [← Nat.pow_add]
  have p21 : (2 : Nat) ^ (1021 + 53) = 2 ^ 52 * 2 ^ 1022 := by rw [← Nat.pow_add]
  have p76' : (2 : Nat) ^ 1076 = 2 ^ 54 * 2 ^ 1022 := by rw [← Nat.pow_add]
  have p75' : (2 : Nat) ^ 1075 = 2 ^ 53 * 2 ^ 1022 := by rw [← Nat.pow_add]
  have p23 : (2 : Nat) ^ 1023 = 2 * 2 ^ 1022 := by rw [Nat.pow_succ]; omega
  have p24 : (2 : Nat) ^ 1024 = 4 * 2 ^ 1022 := by rw [Nat.pow_succ, p23]; omega
  have p22 : (2 : Nat) ^ 1022 = 2 * 2 ^ 1021 := by rw [Nat.pow_succ]; omega
  have hu : 0 < (2 : Nat) ^ 1022 := Nat.two_pow_pos _
  have hgp : 0 < fv g := dv_pos hg hG1
  have hxp : 0 < fv x := dv_pos hx hN1
  have hsg : (fv g).sign = 1 := Int.sign_eq_one_of_pos hgp
  have hgn : (fv g).natAbs = G * 2 ^ 1022 := by rw [hg.2, Int.natAbs_natCast]
  have hxn : (fv x).natAbs = N * 2 ^ 1022 := by rw [hx.2, Int.natAbs_natCast]
  have hB : 0 < G * 2 ^ 1022 := Nat.mul_pos (by omega) hu
  have hA54 : N * 2 ^ 1022 * 2 ^ 1074 ≤ G * 2 ^ 1022 * 2 ^ 1076 := by
    rw [p74, p76']
    generalize (2 : Nat) ^ 1022 = u
    calc N * u * (2 ^ 52 * u) = N * 2 ^ 52 * (u * u) := by ac_rfl
      _ ≤ G * 2 ^ 54 * (u * u) := Nat.mul_le_mul_right _ (by omega)
      _ = G * u * (2 ^ 54 * u) := by ac_rfl
  obtain ⟨y1, y2⟩ := fp_div hx.1 hg.1 (by omega) (by rw [hgn, hxn]; exact nw_bnd hA54 (by omega) hB)
  have y3 : fRn (N * 2 ^ 1022 * 2 ^ 1074) (G * 2 ^ 1022) (fv (FP.ddiv x g)).natAbs := by
    have := y2.1
    rw [hsg, Int.mul_one, Int.natAbs_mul, Int.natAbs_natCast, hgn, hxn] at this
    exact this
  have y4 : 0 ≤ fv (FP.ddiv x g) := y2.2.1 (by rw [hsg, Int.mul_one]; exact Int.mul_nonneg (by omega) (by omega))
  obtain ⟨Y, hY⟩ : ∃ Y : Nat, fv (FP.ddiv x g) = (Y : Int) := ⟨(fv (FP.ddiv x g)).toNat, by omega⟩
  rw [hY, Int.natAbs_natCast] at y3
  have hYu : Y ≤ 2 ^ 1076 := rn_up hB y3 hA54
  have hsum : fv g + fv (FP.ddiv x g) = ((G * 2 ^ 1022 + Y : Nat) : Int) := by rw [hg.2, hY]; omega
  have hs54 : G * 2 ^ 1022 + Y < 1 * 2 ^ (1024 + 53) := by
    rw [p77]
    rw [p76'] at hYu
    have : G * 2 ^ 1022 < 2 ^ 54 * 2 ^ 1022 := Nat.mul_lt_mul_of_pos_right hG2 hu
    generalize (2 : Nat) ^ 1022 = u at this hYu ⊢
    omega
  obtain ⟨s1, s2⟩ := fp_add hg.1 y1 (by
    rw [hsum, Int.natAbs_natCast]
    refine Nat.lt_of_lt_of_le hs54 ?_
    rw [Nat.one_mul]
    exact Nat.pow_le_pow_right (by omega) (by omega))
  have s3 : fRn (G * 2 ^ 1022 + Y) 1 (fv (FP.dadd g (FP.ddiv x g))).natAbs := by
    have := s2.1
    rw [hsum, Int.natAbs_natCast] at this
    exact this
  have s4 : 0 ≤ fv (FP.dadd g (FP.ddiv x g)) := s2.2.1 (by rw [hsum]; omega)
  obtain ⟨S, hS⟩ : ∃ S : Nat, fv (FP.dadd g (FP.ddiv x g)) = (S : Int) := ⟨(fv (FP.dadd g (FP.ddiv x g))).toNat, by omega⟩
  have hSn : (fv (FP.dadd g (FP.ddiv x g))).natAbs = S := by rw [hS, Int.natAbs_natCast]
  rw [hSn] at s3
  have hM1 : 2 ^ 104 ≤ N * 2 ^ 52 := by omega
  have hD1 : 2 ^ 52 * 2 ^ 1022 ≤ S → 2 ^ 1022 ∣ S := fun h => by
    rw [← hSn]
    refine fv_grid s1 (a := 1022) ?_
    rw [hSn, show (1022 + 52) = 1074 from rfl, p74]
    exact h
  have hD2 : 2 ^ 53 * 2 ^ 1022 ≤ S → 2 * 2 ^ 1022 ∣ S := fun h => by
    rw [← hSn, ← p23]
    refine fv_grid s1 (a := 1023) ?_
    rw [hSn, show (1023 + 52) = 1075 from rfl, p75']
    exact h
  have hY0 : N * 2 ^ 52 < G * 2 ^ 52 → 4 * (N * 2 ^ 52) * 2 ^ 1022 ≤ 4 * Y * G + G * 2 ^ 1022 := fun h => by
    have := (rn_err hB y3 (b := 1021) (by
      rw [p21]
      generalize (2 : Nat) ^ 1022 = u at hu ⊢
      calc N * u * (2 ^ 52 * u) = N * 2 ^ 52 * (u * u) := by ac_rfl
        _ < G * 2 ^ 52 * (u * u) := Nat.mul_lt_mul_of_pos_right h (Nat.mul_pos hu hu)
        _ = G * u * (2 ^ 52 * u) := by ac_rfl)).1
    rw [p74] at this
    refine nw_div hu ?_
    have e0 : G * 2 ^ 1022 * 2 ^ 1022 = 2 * (G * 2 ^ 1022 * 2 ^ 1021) := by
      have h5 := p22
      generalize (2 : Nat) ^ 1022 = u at h5 ⊢
      generalize (2 : Nat) ^ 1021 = w at h5 ⊢
      subst h5
      ac_rfl
    rw [e0]
    generalize (2 : Nat) ^ 1021 = w at this ⊢
    generalize (2 : Nat) ^ 1022 = u at this ⊢
    have e1 : 4 * (N * 2 ^ 52) * u * u = 2 * (2 * (N * u * (2 ^ 52 * u))) := by rw [show (4 : Nat) = 2 * 2 from rfl]; ac_rfl
    have e2 : 4 * Y * G * u = 2 * (2 * (Y * (G * u))) := by rw [show (4 : Nat) = 2 * 2 from rfl]; ac_rfl
    rw [e1, e2]
    omega
  have hY1 : N * 2 ^ 52 < G * 2 ^ 53 → 2 * (N * 2 ^ 52) * 2 ^ 1022 ≤ 2 * Y * G + G * 2 ^ 1022 := fun h => by
    have := (rn_err hB y3 (b := 1022) (by
      rw [p75, p74]
      generalize (2 : Nat) ^ 1022 = u at hu ⊢
      calc N * u * (2 ^ 52 * u) = N * 2 ^ 52 * (u * u) := by ac_rfl
        _ < G * 2 ^ 53 * (u * u) := Nat.mul_lt_mul_of_pos_right h (Nat.mul_pos hu hu)
        _ = G * u * (2 ^ 53 * u) := by ac_rfl)).1
    rw [p74] at this
    refine nw_div hu ?_
    generalize (2 : Nat) ^ 1022 = u at this ⊢
    have e1 : 2 * (N * 2 ^ 52) * u * u = 2 * (N * u * (2 ^ 52 * u)) := by ac_rfl
    have e2 : 2 * Y * G * u = 2 * (Y * (G * u)) := by ac_rfl
    rw [e1, e2]
    omega
  have hlt54 : N * 2 ^ 1022 * 2 ^ 1074 < G * 2 ^ 1022 * 2 ^ (1023 + 53) := by
    rw [p76, p74]
    generalize (2 : Nat) ^ 1022 = u at hu ⊢
    calc N * u * (2 ^ 52 * u) = N * 2 ^ 52 * (u * u) := by ac_rfl
      _ < G * 2 ^ 54 * (u * u) := Nat.mul_lt_mul_of_pos_right (by omega) (Nat.mul_pos hu hu)
      _ = G * u * (2 ^ 54 * u) := by ac_rfl
  have hY23 := rn_err hB y3 (b := 1023) hlt54
  rw [p74, p23] at hY23
  have hY2 : 2 * (N * 2 ^ 52) * 2 ^ 1022 ≤ 2 * Y * G + 2 * G * 2 ^ 1022 := by
    refine nw_div hu ?_
    have := hY23.1
    generalize (2 : Nat) ^ 1022 = u at this ⊢
    have e1 : 2 * (N * 2 ^ 52) * u * u = 2 * (N * u * (2 ^ 52 * u)) := by ac_rfl
    have e2 : 2 * Y * G * u = 2 * (Y * (G * u)) := by ac_rfl
    have e3 : 2 * G * u * u = G * u * (2 * u) := by ac_rfl
    rw [e1, e2, e3]
    exact this
  have hY3 : 2 * Y * G ≤ 2 * (N * 2 ^ 52) * 2 ^ 1022 + 2 * G * 2 ^ 1022 := by
    refine nw_div hu ?_
    have := hY23.2
    generalize (2 : Nat) ^ 1022 = u at this ⊢
    have e1 : 2 * (N * 2 ^ 52) * u * u = 2 * (N * u * (2 ^ 52 * u)) := by ac_rfl
    have e2 : 2 * Y * G * u = 2 * (Y * (G * u)) := by ac_rfl
    have e3 : 2 * G * u * u = G * u * (2 * u) := by ac_rfl
    rw [e1, e2, e3]
    exact this
  have hY4 : G * 2 ^ 53 ≤ N * 2 ^ 52 → 2 ^ 53 * 2 ^ 1022 ≤ Y := fun h => by
    have := rn_lo hB y3 (b := 1075) (by
      rw [p75', p74]
      generalize (2 : Nat) ^ 1022 = u at hu ⊢
      calc G * u * (2 ^ 53 * u) = G * 2 ^ 53 * (u * u) := by ac_rfl
        _ ≤ N * 2 ^ 52 * (u * u) := Nat.mul_le_mul_right _ h
        _ = N * u * (2 ^ 52 * u) := by ac_rfl)
    rw [p75'] at this
    exact this
  have hY5 : G * 2 ^ 52 ≤ N * 2 ^ 52 → 2 ^ 52 * 2 ^ 1022 ≤ Y := fun h => by
    have := rn_lo hB y3 (b := 1074) (by
      rw [p74]
      generalize (2 : Nat) ^ 1022 = u at hu ⊢
      calc G * u * (2 ^ 52 * u) = G * 2 ^ 52 * (u * u) := by ac_rfl
        _ ≤ N * 2 ^ 52 * (u * u) := Nat.mul_le_mul_right _ h
        _ = N * u * (2 ^ 52 * u) := by ac_rfl)
    rw [p74] at this
    exact this
  have hS1 : G * 2 ^ 1022 + Y < 2 ^ 54 * 2 ^ 1022 → 2 * (G * 2 ^ 1022 + Y) ≤ 2 * S + 2 * 2 ^ 1022 := fun h => by
    have := (rn_err (by omega) s3 (b := 1023) (by rw [Nat.one_mul, p76]; exact h)).1
    rw [p23, Nat.mul_one, Nat.one_mul] at this
    exact this
  have hS2 : 2 ^ 54 * 2 ^ 1022 ≤ G * 2 ^ 1022 + Y → 2 ^ 54 * 2 ^ 1022 ≤ S := fun h => by
    have := rn_lo (by omega) s3 (b := 1076) (by rw [Nat.one_mul, p76']; exact h)
    rw [p76'] at this
    exact this
  have hS3 : 2 * S ≤ 2 * (G * 2 ^ 1022 + Y) + 4 * 2 ^ 1022 := by
    have := (rn_err (by omega) s3 (b := 1024) hs54).2
    rw [p24, Nat.mul_one, Nat.one_mul] at this
    exact this
  have hS4 : 2 ^ 53 * 2 ^ 1022 ≤ G * 2 ^ 1022 + Y → 2 ^ 53 * 2 ^ 1022 ≤ S := fun h => by
    have := rn_lo (by omega) s3 (b := 1075) (by rw [Nat.one_mul, p75']; exact h)
    rw [p75'] at this
    exact this
  have hS5 : G * 2 ^ 1022 + Y < 2 ^ 53 * 2 ^ 1022 → 2 * (G * 2 ^ 1022 + Y) ≤ 2 * S + 2 ^ 1022 := fun h => by
    have := (rn_err (by omega) s3 (b := 1022) (by rw [Nat.one_mul, p75]; exact h)).1
    rw [Nat.mul_one, Nat.one_mul] at this
    exact this
  have key := fun R : Nat => nw_nat (R := R) hu hG1 hM1 hY0 hY1 hY2 hY3 hY4 hY5 hS1 hS2 hS3 hS4 hS5 hD1 hD2
  obtain ⟨G', e1, e2, e3, -⟩ := key 0
  refine ⟨y1, s1, G', ?_, e2, e3, fun R => ?_⟩
  · refine sc_dn (w := G' * 2 ^ 1022) (k := 1) s1 gf_2.1 (by rw [hS, e1]) fv_2 ?_
    have hb : G' * 2 ^ 1022 ≤ 2 ^ 54 * 2 ^ 1022 := by
      have h1 : S ≤ 2 ^ 1077 := by
        have := rn_up (b := 1077) (by omega) s3 (Nat.le_of_lt hs54)
        exact this
      have p77' : (2 : Nat) ^ 1077 = 2 ^ 55 * 2 ^ 1022 := by rw [← Nat.pow_add]
      rw [p77'] at h1
      generalize (2 : Nat) ^ 1022 = u at e1 h1 ⊢
      omega
    refine Nat.lt_of_le_of_lt hb ?_
    rw [← Nat.pow_add]
    exact Nat.pow_lt_pow_right (by omega) (by omega)
  · obtain ⟨G2, f1, -, -, f4⟩ := key R
    have : G2 = G' := by
      rw [e1] at f1
      have h1 : G' * 2 ^ 1022 = G2 * 2 ^ 1022 := by
        generalize (2 : Nat) ^ 1022 = u at f1 ⊢
        omega
      exact (Nat.eq_of_mul_eq_mul_right hu h1).symm
    subst this
    exact f4
end
section
/-! THE CLASS'S ROOT, its numbers: the first guess, four steps, the last bit -/
theorem dv_ltw {x y : UInt64} {c i k w : Nat} (hx : dv x c i) (hy : fv y = ((2 ^ k : Nat) : Int)) (hc : c < 2 ^ w) (h : w + i ≤ k) : fv x < fv y := by
  rw [hx.2, hy]
  refine Int.ofNat_lt.mpr (Nat.lt_of_lt_of_le ?_ (Nat.pow_le_pow_right (by omega) h))
  rw [Nat.pow_add]
  exact Nat.mul_lt_mul_of_pos_right hc (Nat.two_pow_pos i)
theorem rt_norm {x : UInt64} (hx : FP.Core.DFin x) (h : ((2 ^ 52 : Nat) : Int) ≤ fv x) : ∃ N h : Nat, dv x N (2 * h) ∧ 2 ^ 52 ≤ N ∧ N < 2 ^ 54 ∧ h ≤ 1022 := by
  obtain ⟨s, c, i, h1, h2, h3, h4, -⟩ := fv_norm hx (by omega)
  have hP : 0 < c * 2 ^ i := Nat.mul_pos (by omega) (Nat.two_pow_pos i)
  cases s with
  | true =>
    have h5 : fv x = -((c * 2 ^ i : Nat) : Int) := h4
    omega
  | false =>
    have h5 : fv x = ((c * 2 ^ i : Nat) : Int) := h4
    rcases Nat.mod_two_eq_zero_or_one i with h6 | h6
    · refine ⟨c, i / 2, ⟨hx, ?_⟩, h1, by omega, by omega⟩
      rw [h5, show 2 * (i / 2) = i by omega]
    · refine ⟨c * 2, i / 2, ⟨hx, ?_⟩, by omega, by omega, by omega⟩
      rw [h5, Nat.mul_assoc, ← Nat.pow_succ', show (2 * (i / 2)).succ = i by omega]
def fRt (x : UInt64) : Prop := x = 0 ∨ (FP.Core.DFin x ∧ ((2 ^ 52 : Nat) : Int) ≤ fv x ∧ fv x < ((2 ^ 2090 : Nat) : Int))
theorem fRt_gr {a b : Nat} {x : UInt64} (h : fGr a b x) (ha : 52 ≤ a) (hb : b ≤ 2089) (h0 : 0 ≤ fv x) (hz : fv x = 0 → x = 0) : fRt x := by
  by_cases h1 : fv x = 0
  · exact Or.inl (hz h1)
  · have h2 := Nat.le_trans (Nat.pow_le_pow_right (by omega) ha) (fv_ne0 h h1)
    have h3 := Nat.lt_of_le_of_lt h.2.2 (Nat.pow_lt_pow_right (show 1 < 2 by omega) (show b < 2090 by omega))
    refine Or.inr ⟨h.1, by omega, ?_⟩
    generalize (2 : Nat) ^ 2090 = T at h3 ⊢
    omega
theorem nw_sq0 {R : Nat} (h1 : 2 ^ 52 ≤ R) (h2 : R ≤ 2 ^ 53) : R * R + 2 ^ 105 ≤ 3 * 2 ^ 52 * R := by
  obtain ⟨a, rfl⟩ : ∃ a, R = 2 ^ 52 + a := ⟨R - 2 ^ 52, by omega⟩
  have e1 : (2 ^ 52 + a) * (2 ^ 52 + a) = 2 ^ 104 + 2 ^ 53 * a + a * a := by
    simp only [Nat.add_mul, Nat.mul_add, Nat.mul_comm a (2 ^ 52)]
    omega
  have e2 : a * a ≤ 2 ^ 52 * a := Nat.mul_le_mul_right _ (by omega)
  have e3 : 3 * 2 ^ 52 * (2 ^ 52 + a) = 3 * 2 ^ 104 + 3 * 2 ^ 52 * a := by rw [Nat.mul_add]
  omega
set_option maxRecDepth 100000 in
theorem nw_g0 {x : UInt64} {N : Nat} (hx : dv x N 1022) (hN1 : 2 ^ 52 ≤ N) (hN2 : N < 2 ^ 54) : FP.Core.DFin (FP.dadd x 4611686018427387904) ∧ ∃ G : Nat, dv (FP.ddiv (FP.dadd x 4611686018427387904) 4613937818241073152) G 1022 ∧ 2 ^ 52 ≤ G ∧ G < 2 ^ 54 ∧ ∀ R : Nat, R * R ≤ N * 2 ^ 52 → N * 2 ^ 52 ≤ R * R + 2 * R → 2 ^ 52 ≤ R → R + 1 ≤ 2 ^ 53 → G ≤ R + 2 ^ 49 ∧ R ≤ G + 2 ^ 49 := by
  have p74 : (2 : Nat) ^ 1074 = 2 ^ 52 * 2 ^ 1022 := by rw [← Nat.pow_add]
  have p75 : (2 : Nat) ^ 1075 = 2 ^ 53 * 2 ^ 1022 := by rw [← Nat.pow_add]
  have p76 : (2 : Nat) ^ (1023 + 53) = 2 ^ 54 * 2 ^ 1022 := by rw [← Nat.pow_add]
  have p77 : (2 : Nat) ^ (1024 + 53) = 2 ^ 55 * 2 ^ 1022 := by rw [← Nat.pow_add]
  have p23 : (2 : Nat) ^ 1023 = 2 * 2 ^ 1022 := by rw [Nat.pow_succ]; omega
  have p24 : (2 : Nat) ^ 1024 = 4 * 2 ^ 1022 := by rw [Nat.pow_succ, p23]; omega
  have hu : 0 < (2 : Nat) ^ 1022 := Nat.two_pow_pos _
  have hT : 0 < (2 : Nat) ^ 1074 := Nat.two_pow_pos _
  have hsum : fv x + fv 4611686018427387904 = ((N * 2 ^ 1022 + 2 ^ 53 * 2 ^ 1022 : Nat) : Int) := by rw [hx.2, fv_2, p75]; omega
  have hlt : N * 2 ^ 1022 + 2 ^ 53 * 2 ^ 1022 < 1 * 2 ^ (1024 + 53) := by
    rw [p77, ← Nat.add_mul, Nat.one_mul]
    exact Nat.mul_lt_mul_of_pos_right (by omega) hu
  obtain ⟨s1, s2⟩ := fp_add hx.1 gf_2.1 (by
    rw [hsum, Int.natAbs_natCast]
    refine Nat.lt_of_lt_of_le hlt ?_
    rw [Nat.one_mul]
    exact Nat.pow_le_pow_right (by omega) (by omega))
  have s4 : 0 ≤ fv (FP.dadd x 4611686018427387904) := s2.2.1 (by rw [hsum]; omega)
  obtain ⟨S, hS⟩ : ∃ S : Nat, fv (FP.dadd x 4611686018427387904) = (S : Int) := ⟨(fv (FP.dadd x 4611686018427387904)).toNat, by omega⟩
  have s3 : fRn (N * 2 ^ 1022 + 2 ^ 53 * 2 ^ 1022) 1 S := by
    have := s2.1
    rw [hsum, Int.natAbs_natCast, hS, Int.natAbs_natCast] at this
    exact this
  obtain ⟨k1, k2⟩ := rn_err (by omega) s3 (b := 1024) hlt
  rw [p24, Nat.mul_one, Nat.one_mul] at k1 k2
  have k3 : 3 * 2 ^ 1074 ≤ S := rn_ge (by omega) s3 (by omega) (by
    rw [p74, Nat.one_mul, ← Nat.add_mul, ← Nat.mul_assoc]
    exact Nat.mul_le_mul_right _ (by omega))
  have k4 : S ≤ 2 ^ (1024 + 53) := rn_up (by omega) s3 (Nat.le_of_lt hlt)
  have hsg : (fv 4613937818241073152).sign = 1 := by rw [fv_3]; exact Int.sign_eq_one_of_pos (by omega)
  have hB : 0 < 3 * 2 ^ 1074 := by omega
  have hA : S * 2 ^ 1074 < 3 * 2 ^ 1074 * 2 ^ (1023 + 53) := by
    rw [p77] at k4
    rw [p76, Nat.mul_right_comm]
    refine Nat.mul_lt_mul_of_pos_right ?_ hT
    generalize (2 : Nat) ^ 1022 = u at hu k4 ⊢
    omega
  obtain ⟨y1, y2⟩ := fp_div s1 gf_3.1 ne_3 (by
    rw [fv_3, hS, Int.natAbs_natCast, Int.natAbs_natCast]
    exact Nat.lt_of_lt_of_le hA (Nat.mul_le_mul_left _ (Nat.pow_le_pow_right (by omega) (by omega))))
  have y4 : 0 ≤ fv (FP.ddiv (FP.dadd x 4611686018427387904) 4613937818241073152) := y2.2.1 (by rw [hsg, Int.mul_one]; exact Int.mul_nonneg s4 (by omega))
  obtain ⟨Z, hZ⟩ : ∃ Z : Nat, fv (FP.ddiv (FP.dadd x 4611686018427387904) 4613937818241073152) = (Z : Int) := ⟨(fv (FP.ddiv (FP.dadd x 4611686018427387904) 4613937818241073152)).toNat, by omega⟩
  have y3 : fRn (S * 2 ^ 1074) (3 * 2 ^ 1074) Z := by
    have := y2.1
    rw [hsg, Int.mul_one, Int.natAbs_mul, Int.natAbs_natCast, hS, hZ, fv_3, Int.natAbs_natCast, Int.natAbs_natCast, Int.natAbs_natCast] at this
    exact this
  obtain ⟨j1, j2⟩ := rn_err hB y3 (b := 1023) hA
  have j3 : 2 * S ≤ 6 * Z + 3 * 2 ^ 1023 := by
    refine nw_div hT ?_
    generalize (2 : Nat) ^ 1023 = v at j1 ⊢
    generalize (2 : Nat) ^ 1074 = T at j1 ⊢
    have e1 : 2 * S * T = 2 * (S * T) := Nat.mul_assoc _ _ _
    have e2 : 6 * Z * T = 2 * (Z * (3 * T)) := by rw [show (6 : Nat) = 2 * 3 from rfl]; ac_rfl
    have e3 : 3 * v * T = 3 * T * v := Nat.mul_right_comm _ _ _
    omega
  have j4 : 6 * Z ≤ 2 * S + 3 * 2 ^ 1023 := by
    refine nw_div hT ?_
    generalize (2 : Nat) ^ 1023 = v at j2 ⊢
    generalize (2 : Nat) ^ 1074 = T at j2 ⊢
    have e1 : 2 * S * T = 2 * (S * T) := Nat.mul_assoc _ _ _
    have e2 : 6 * Z * T = 2 * (Z * (3 * T)) := by rw [show (6 : Nat) = 2 * 3 from rfl]; ac_rfl
    have e3 : 3 * v * T = 3 * T * v := Nat.mul_right_comm _ _ _
    omega
  rw [p23] at j3 j4
  have j5 : 2 ^ 1074 ≤ Z := rn_lo hB y3 (Nat.mul_le_mul_right _ k3)
  have hZn : (fv (FP.ddiv (FP.dadd x 4611686018427387904) 4613937818241073152)).natAbs = Z := by rw [hZ, Int.natAbs_natCast]
  have j6 : 2 ^ 1022 ∣ Z := by
    rw [← hZn]
    exact fv_grid y1 (a := 1022) (by rw [hZn]; exact j5)
  obtain ⟨G, hG⟩ := j6
  have hGZ : Z = G * 2 ^ 1022 := by rw [hG, Nat.mul_comm]
  have l1 : N + 2 ^ 53 ≤ 3 * G + 5 := by
    refine Nat.le_of_mul_le_mul_right (c := 2 ^ 1022) ?_ hu
    generalize (2 : Nat) ^ 1022 = u at hGZ j3 k1 ⊢
    have e1 : (N + 2 ^ 53) * u = N * u + 2 ^ 53 * u := Nat.add_mul _ _ _
    have e2 : (3 * G + 5) * u = 3 * (G * u) + 5 * u := by rw [Nat.add_mul, Nat.mul_assoc]
    omega
  have l2 : 3 * G ≤ N + 2 ^ 53 + 5 := by
    refine Nat.le_of_mul_le_mul_right (c := 2 ^ 1022) ?_ hu
    generalize (2 : Nat) ^ 1022 = u at hGZ j4 k2 ⊢
    have e1 : (N + 2 ^ 53 + 5) * u = N * u + 2 ^ 53 * u + 5 * u := by rw [Nat.add_mul, Nat.add_mul]
    have e2 : 3 * G * u = 3 * (G * u) := Nat.mul_assoc _ _ _
    omega
  have l3 : 2 ^ 52 ≤ G := by
    rw [hGZ, p74] at j5
    exact Nat.le_of_mul_le_mul_right j5 hu
  refine ⟨s1, G, ⟨y1, by rw [hZ, hGZ]⟩, l3, by omega, fun R h1 h2 h3 h4 => ⟨?_, ?_⟩⟩
  · have := nw_sq0 h3 (by omega)
    omega
  · refine Nat.le_of_not_lt fun hlt => ?_
    have h5 := nw_sq (2 * R) (3 * 2 ^ 52)
    have e1 : 2 * R * (2 * R) = 4 * (R * R) := by rw [show (4 : Nat) = 2 * 2 from rfl]; ac_rfl
    omega
set_option maxRecDepth 100000 in
theorem nw_it1 {x g : UInt64} {N G R : Nat} (hx : dv x N 1022) (hN1 : 2 ^ 52 ≤ N) (hN2 : N < 2 ^ 54) (hR1 : R * R ≤ N * 2 ^ 52) (hR2 : N * 2 ^ 52 ≤ R * R + 2 * R) (hR3 : R + 1 ≤ 2 ^ 53) (hg : dv g G 1022) (hG1 : 2 ^ 52 ≤ G) (hG2 : G < 2 ^ 54) (h1 : G ≤ R + 2 ^ 49) (h2 : R ≤ G + 2 ^ 49) :
    FP.Core.DFin (FP.ddiv x g) ∧ FP.Core.DFin (FP.dadd g (FP.ddiv x g)) ∧ ∃ G' : Nat, dv (FP.ddiv (FP.dadd g (FP.ddiv x g)) 4611686018427387904) G' 1022 ∧ 2 ^ 52 ≤ G' ∧ G' ≤ R + (2 ^ 45 + 4) ∧ R ≤ G' + 1 := by
  obtain ⟨a1, a2, G', a3, a4, a5, a6⟩ := nw_step hx hN1 hN2 hg hG1 hG2
  have := nw_D (K := 2 ^ 45) a5 hR2 h1 h2 hG1 (Nat.lt_of_succ_le hR3) (by decide)
  exact ⟨a1, a2, G', a3, a4, by omega, (a6 R hR1 hR3).1⟩
set_option maxRecDepth 100000 in
theorem nw_it {x g : UInt64} {N G R : Nat} (D K : Nat) (hx : dv x N 1022) (hN1 : 2 ^ 52 ≤ N) (hN2 : N < 2 ^ 54) (hR1 : R * R ≤ N * 2 ^ 52) (hR2 : N * 2 ^ 52 ≤ R * R + 2 * R) (hR3 : R + 1 ≤ 2 ^ 53) (hD : D ≤ 2 ^ 50) (hD1 : 1 ≤ D) (hK : D * D ≤ 2 ^ 53 * K) (hg : dv g G 1022) (hG1 : 2 ^ 52 ≤ G) (h1 : G ≤ R + D) (h2 : R ≤ G + 1) :
    FP.Core.DFin (FP.ddiv x g) ∧ FP.Core.DFin (FP.dadd g (FP.ddiv x g)) ∧ ∃ G' : Nat, dv (FP.ddiv (FP.dadd g (FP.ddiv x g)) 4611686018427387904) G' 1022 ∧ 2 ^ 52 ≤ G' ∧ G' ≤ R + (K + 4) ∧ R ≤ G' := by
  obtain ⟨a1, a2, G', a3, a4, a5, a6⟩ := nw_step hx hN1 hN2 hg hG1 (by omega)
  have := nw_D (K := K) a5 hR2 h1 (by omega) hG1 (Nat.lt_of_succ_le hR3) hK
  exact ⟨a1, a2, G', a3, a4, by omega, (a6 R hR1 hR3).2 h2⟩
set_option maxRecDepth 100000 in
/-- in units of one -/
theorem nw_unit {x : UInt64} {n : Nat} (hx : dv x n 1022) (hn : n < 2 ^ 60) : dv (FP.dmul x 4841369599423283200) n 1074 := by
  have h := sc_up (n := n * 2 ^ 1022) (k := 52) hx.1 gf_52.1 hx.2 fv_52 (by
    rw [Nat.mul_assoc, ← Nat.pow_add]
    refine Nat.lt_of_lt_of_le (Nat.mul_lt_mul_of_pos_right hn (Nat.two_pow_pos _)) ?_
    rw [← Nat.pow_add]
    exact Nat.pow_le_pow_right (by omega) (by omega))
  rw [Nat.mul_assoc, ← Nat.pow_add] at h
  exact h
set_option maxRecDepth 100000 in
theorem nw_back {R : Nat} (hR : R ≤ 2 ^ 53) : dv (FP.ddiv (FP.l2d (lN R)) 4841369599423283200) R 1022 := by
  have hT : (lN R).toInt = (R : Int) := pk_lT (by omega)
  have h1 := fv_int (FP.Core.l2d_int (a := lN R) (by rw [hT]; omega))
  rw [hT] at h1
  refine sc_dn (w := R * 2 ^ 1022) (k := 52) h1.1 gf_52.1 ?_ fv_52 ?_
  · have h2 := h1.2
    rw [Nat.mul_assoc, ← Nat.pow_add, Int.natCast_mul]
    exact h2
  · refine Nat.lt_of_le_of_lt (Nat.mul_le_mul_right _ hR) ?_
    rw [← Nat.pow_add]
    exact Nat.pow_lt_pow_right (by omega) (by omega)
theorem nw_fin {R : Nat} (hR : R ≤ 2 ^ 53) : FP.Core.DFin (FP.l2d (lN R)) := by
  have hT : (lN R).toInt = (R : Int) := pk_lT (by omega)
  exact (fv_int (FP.Core.l2d_int (a := lN R) (by rw [hT]; omega))).1
theorem iL_of (n : Nat) : lN n = Int64.ofInt (n : Int) := Int64.ofInt_eq_ofNat.symm
theorem iL_lt {z : Int} (h1 : -2 ^ 63 ≤ z) (h2 : z < 2 ^ 63) : Int64.ofInt z < 0 ↔ z < 0 := by
  rw [Int64.lt_iff_toInt_lt, Int64.toInt_ofInt_of_le h1 h2]
  exact Iff.rfl
theorem iL_gt {z : Int} {n : Nat} (h1 : -2 ^ 63 ≤ z) (h2 : z < 2 ^ 63) (hn : n < 2 ^ 62) : lN n < Int64.ofInt z ↔ (n : Int) < z := by
  rw [Int64.lt_iff_toInt_lt, Int64.toInt_ofInt_of_le h1 h2, pk_lT (by omega)]
end
section
/-! SMALL METHODS: what is in range, the digest's step; of the class (X6) and of the model (X7) -/
set_option maxHeartbeats 4000000 in
set_option maxRecDepth 100000 in
theorem mX6_isWithin (l : Launch) (v lo hi : Int32)  : Met l yX6_isWithin wsX6_isWithin ({ frames := 0, cells := 0, slots := 0, locals := 0 }) (va_Pc [.int v, .int lo, .int hi] (fun _ => True)) (va_Qi (fun (r : Int32) (u : Unit) => r = bI (isW v lo hi)) (fun _ _ => True) nA) 0 0 nA := by
  refine Met.ofW (cc := cX6_isWithin) (maxL := 3) (ret := (some .boolean)) (by decide) rfl ?_
  intro p e s m args below meth c s₁ B hml hv
  obtain ⟨rfl, -⟩ := hv
  have hx := B.exec
  have hb := B.bytes
  have hr := B.returns
  have hts := atoms_spec (ws := wsX6_isWithin) B.pre
  have hown : s.vm.findClass RX6 = some m.cls := findClass_of_methodNamed B.named
  have hlocks := B.notSynchronized
  have hS : va_S nA s.heap s.heap [] := va_S.rf
  have hl := lv_entry ([.int v, .int lo, .int hi]) (n := 3) (Nat.le_of_ble_eq_true rfl)
  rw [lg_entry_eq]
  generalize (lg_sl ([.int v, .int lo, .int hi]) ++ List.replicate (3 - (lg_sl ([.int v, .int lo, .int hi])).length) Slot.unset).toArray = ls at hl ⊢
  have hl : lv_has ls 3 [(0, .int v), (1, .int lo), (2, .int hi)] := hl
  skip
  refine lv_iload_n hx hb dX6_isWithin_0 rfl (lv_at hl 0 rfl) ?_
  refine lv_iload_n hx hb dX6_isWithin_1 rfl (lv_at hl 1 rfl) ?_
  refine lv_icmp_lt (tgt := 14) hx hb dX6_isWithin_2 (by decide) (fun c1 => ?_) (fun c1 => ?_)
  · have i2 := Int32.not_le.mpr c1
    refine lv_iconst (v := 0) hx hb dX6_isWithin_14 (by decide) ?_
    exact W.zret (v := 0) hx hb hr rfl (fun t ht hW => ⟨⟨0, (), rfl, (by simp [isW, bI, c1, i2]), trivial⟩, hS.F ht⟩) hS.2.2 dX6_isWithin_15
  · have i3 := Int32.not_lt.mp c1
    refine lv_iload_n hx hb dX6_isWithin_5 rfl (lv_at hl 0 rfl) ?_
    refine lv_iload_n hx hb dX6_isWithin_6 rfl (lv_at hl 2 rfl) ?_
    refine lv_icmp_gt (tgt := 14) hx hb dX6_isWithin_7 (by decide) (fun c4 => ?_) (fun c4 => ?_)
    · have i5 := Int32.not_le.mpr c4
      refine lv_iconst (v := 0) hx hb dX6_isWithin_14 (by decide) ?_
      exact W.zret (v := 0) hx hb hr rfl (fun t ht hW => ⟨⟨0, (), rfl, (by simp [isW, bI, c1, i3, c4, i5]), trivial⟩, hS.F ht⟩) hS.2.2 dX6_isWithin_15
    · have i6 := Int32.not_lt.mp c4
      refine lv_iconst (v := 1) hx hb dX6_isWithin_10 (by decide) ?_
      refine lv_goto (tgt := 15) hx hb dX6_isWithin_11 (by decide) ?_
      exact W.zret (v := 1) hx hb hr rfl (fun t ht hW => ⟨⟨1, (), rfl, (by simp [isW, bI, c1, i3, c4, i6]), trivial⟩, hS.F ht⟩) hS.2.2 dX6_isWithin_15
set_option maxHeartbeats 4000000 in
set_option maxRecDepth 100000 in
theorem mX7_in (l : Launch) (v lo hi : Int32)  : Met l yX7_in wsX7_in ({ frames := 0, cells := 0, slots := 0, locals := 0 }) (va_Pc [.int v, .int lo, .int hi] (fun _ => True)) (va_Qi (fun (r : Int32) (u : Unit) => r = bI (isW v lo hi)) (fun _ _ => True) nA) 0 0 nA := by
  refine Met.ofW (cc := cX7_in) (maxL := 3) (ret := (some .boolean)) (by decide) rfl ?_
  intro p e s m args below meth c s₁ B hml hv
  obtain ⟨rfl, -⟩ := hv
  have hx := B.exec
  have hb := B.bytes
  have hr := B.returns
  have hts := atoms_spec (ws := wsX7_in) B.pre
  have hown : s.vm.findClass RX7 = some m.cls := findClass_of_methodNamed B.named
  have hlocks := B.notSynchronized
  have hS : va_S nA s.heap s.heap [] := va_S.rf
  have hl := lv_entry ([.int v, .int lo, .int hi]) (n := 3) (Nat.le_of_ble_eq_true rfl)
  rw [lg_entry_eq]
  generalize (lg_sl ([.int v, .int lo, .int hi]) ++ List.replicate (3 - (lg_sl ([.int v, .int lo, .int hi])).length) Slot.unset).toArray = ls at hl ⊢
  have hl : lv_has ls 3 [(0, .int v), (1, .int lo), (2, .int hi)] := hl
  skip
  refine lv_iload_n hx hb dX7_in_0 rfl (lv_at hl 0 rfl) ?_
  refine lv_iload_n hx hb dX7_in_1 rfl (lv_at hl 1 rfl) ?_
  refine lv_icmp_lt (tgt := 14) hx hb dX7_in_2 (by decide) (fun c1 => ?_) (fun c1 => ?_)
  · have i2 := Int32.not_le.mpr c1
    refine lv_iconst (v := 0) hx hb dX7_in_14 (by decide) ?_
    exact W.zret (v := 0) hx hb hr rfl (fun t ht hW => ⟨⟨0, (), rfl, (by simp [isW, bI, c1, i2]), trivial⟩, hS.F ht⟩) hS.2.2 dX7_in_15
  · have i3 := Int32.not_lt.mp c1
    refine lv_iload_n hx hb dX7_in_5 rfl (lv_at hl 0 rfl) ?_
    refine lv_iload_n hx hb dX7_in_6 rfl (lv_at hl 2 rfl) ?_
    refine lv_icmp_gt (tgt := 14) hx hb dX7_in_7 (by decide) (fun c4 => ?_) (fun c4 => ?_)
    · have i5 := Int32.not_le.mpr c4
      refine lv_iconst (v := 0) hx hb dX7_in_14 (by decide) ?_
      exact W.zret (v := 0) hx hb hr rfl (fun t ht hW => ⟨⟨0, (), rfl, (by simp [isW, bI, c1, i3, c4, i5]), trivial⟩, hS.F ht⟩) hS.2.2 dX7_in_15
    · have i6 := Int32.not_lt.mp c4
      refine lv_iconst (v := 1) hx hb dX7_in_10 (by decide) ?_
      refine lv_goto (tgt := 15) hx hb dX7_in_11 (by decide) ?_
      exact W.zret (v := 1) hx hb hr rfl (fun t ht hW => ⟨⟨1, (), rfl, (by simp [isW, bI, c1, i3, c4, i6]), trivial⟩, hS.F ht⟩) hS.2.2 dX7_in_15
set_option maxHeartbeats 4000000 in
set_option maxRecDepth 100000 in
theorem mX6_isHanging (l : Launch) (v : Int32)  : Met l yX6_isHanging wsX6_isHanging ({ frames := 1, cells := 0, slots := 0, locals := 22 }) (va_Pc [.int v] (fun _ => True)) (va_Qi (fun (r : Int32) (u : Unit) => r = bI (okH v)) (fun _ _ => True) nA) 0 0 nA := by
  refine Met.ofW (cc := cX6_isHanging) (maxL := 1) (ret := (some .boolean)) (by decide) rfl ?_
  intro p e s m args below meth c s₁ B hml hv
  obtain ⟨rfl, -⟩ := hv
  have hx := B.exec
  have hb := B.bytes
  have hr := B.returns
  have hts := atoms_spec (ws := wsX6_isHanging) B.pre
  have hown : s.vm.findClass RX6 = some m.cls := findClass_of_methodNamed B.named
  have hlocks := B.notSynchronized
  have hS : va_S nA s.heap s.heap [] := va_S.rf
  have hl := lv_entry ([.int v]) (n := 1) (Nat.le_of_ble_eq_true rfl)
  rw [lg_entry_eq]
  generalize (lg_sl ([.int v]) ++ List.replicate (1 - (lg_sl ([.int v])).length) Slot.unset).toArray = ls at hl ⊢
  have hl : lv_has ls 1 [(0, .int v)] := hl
  skip
  refine lv_iload_n hx hb dX6_isHanging_0 rfl (lv_at hl 0 rfl) ?_
  refine lv_iconst (v := 0) hx hb dX6_isHanging_1 (by decide) ?_
  refine lv_iconst (v := 3) hx hb dX6_isHanging_2 (by decide) ?_
  refine va_calli (va_runS (As := [.int v, .int 0, .int 3]) (rest := []) ⟨hx, hb, hml, hown, hts⟩ (mX6_isWithin l v 0 3) (va_cwS 3 hts gX6_isHanging_X6_isWithin rfl rfl rfl (by decide +kernel) ⟨Nat.le_of_ble_eq_true rfl, Nat.le_of_ble_eq_true rfl⟩) ⟨tB_blind, tB_go⟩ rfl rfl hl.1 rfl (lv_room (Nat.le_of_ble_eq_true rfl)) dX6_isHanging_3 ⟨Nat.le_of_ble_eq_true rfl, Nat.le_of_ble_eq_true rfl⟩) hS (fun q _ h => h.elim) (fun q h => h.elim) (fun r1 u2 t H locs ht hvm hp3 hB hz1 hk1 hS => ?_)
  subst hp3
  exact W.zret (v := bI (isW v 0 3)) hx hb hr bI_nar (fun t ht hW => ⟨⟨bI (isW v 0 3), (), rfl, rfl, trivial⟩, hS.F ht⟩) hS.2.2 dX6_isHanging_6
set_option maxHeartbeats 4000000 in
set_option maxRecDepth 100000 in
theorem mX6_isCoordinate (l : Launch) (v : Int32)  : Met l yX6_isCoordinate wsX6_isCoordinate ({ frames := 1, cells := 0, slots := 0, locals := 22 }) (va_Pc [.int v] (fun _ => True)) (va_Qi (fun (r : Int32) (u : Unit) => r = bI (okC v)) (fun _ _ => True) nA) 0 0 nA := by
  refine Met.ofW (cc := cX6_isCoordinate) (maxL := 1) (ret := (some .boolean)) (by decide) rfl ?_
  intro p e s m args below meth c s₁ B hml hv
  obtain ⟨rfl, -⟩ := hv
  have hx := B.exec
  have hb := B.bytes
  have hr := B.returns
  have hts := atoms_spec (ws := wsX6_isCoordinate) B.pre
  have hown : s.vm.findClass RX6 = some m.cls := findClass_of_methodNamed B.named
  have hlocks := B.notSynchronized
  have hS : va_S nA s.heap s.heap [] := va_S.rf
  have hl := lv_entry ([.int v]) (n := 1) (Nat.le_of_ble_eq_true rfl)
  rw [lg_entry_eq]
  generalize (lg_sl ([.int v]) ++ List.replicate (1 - (lg_sl ([.int v])).length) Slot.unset).toArray = ls at hl ⊢
  have hl : lv_has ls 1 [(0, .int v)] := hl
  skip
  refine lv_iload_n hx hb dX6_isCoordinate_0 rfl (lv_at hl 0 rfl) ?_
  refine lv_sipush (v := (-1000)) hx hb dX6_isCoordinate_1 (by decide) ?_
  refine lv_sipush (v := 1000) hx hb dX6_isCoordinate_4 (by decide) ?_
  refine va_calli (va_runS (As := [.int v, .int ((-1000)), .int 1000]) (rest := []) ⟨hx, hb, hml, hown, hts⟩ (mX6_isWithin l v ((-1000)) 1000) (va_cwS 3 hts gX6_isCoordinate_X6_isWithin rfl rfl rfl (by decide +kernel) ⟨Nat.le_of_ble_eq_true rfl, Nat.le_of_ble_eq_true rfl⟩) ⟨tB_blind, tB_go⟩ rfl rfl hl.1 rfl (lv_room (Nat.le_of_ble_eq_true rfl)) dX6_isCoordinate_7 ⟨Nat.le_of_ble_eq_true rfl, Nat.le_of_ble_eq_true rfl⟩) hS (fun q _ h => h.elim) (fun q h => h.elim) (fun r1 u2 t H locs ht hvm hp3 hB hz1 hk1 hS => ?_)
  subst hp3
  exact W.zret (v := bI (isW v ((-1000)) 1000)) hx hb hr bI_nar (fun t ht hW => ⟨⟨bI (isW v ((-1000)) 1000), (), rfl, rfl, trivial⟩, hS.F ht⟩) hS.2.2 dX6_isCoordinate_10
set_option maxHeartbeats 4000000 in
set_option maxRecDepth 100000 in
theorem mX6_isArm (l : Launch) (v : Int32)  : Met l yX6_isArm wsX6_isArm ({ frames := 1, cells := 0, slots := 0, locals := 22 }) (va_Pc [.int v] (fun _ => True)) (va_Qi (fun (r : Int32) (u : Unit) => r = bI (okA v)) (fun _ _ => True) nA) 0 0 nA := by
  refine Met.ofW (cc := cX6_isArm) (maxL := 1) (ret := (some .boolean)) (by decide) rfl ?_
  intro p e s m args below meth c s₁ B hml hv
  obtain ⟨rfl, -⟩ := hv
  have hx := B.exec
  have hb := B.bytes
  have hr := B.returns
  have hts := atoms_spec (ws := wsX6_isArm) B.pre
  have hown : s.vm.findClass RX6 = some m.cls := findClass_of_methodNamed B.named
  have hlocks := B.notSynchronized
  have hS : va_S nA s.heap s.heap [] := va_S.rf
  have hl := lv_entry ([.int v]) (n := 1) (Nat.le_of_ble_eq_true rfl)
  rw [lg_entry_eq]
  generalize (lg_sl ([.int v]) ++ List.replicate (1 - (lg_sl ([.int v])).length) Slot.unset).toArray = ls at hl ⊢
  have hl : lv_has ls 1 [(0, .int v)] := hl
  skip
  refine lv_iload_n hx hb dX6_isArm_0 rfl (lv_at hl 0 rfl) ?_
  refine lv_bipush (v := 50) hx hb dX6_isArm_1 (by decide) ?_
  refine lv_sipush (v := 1000) hx hb dX6_isArm_3 (by decide) ?_
  refine va_calli (va_runS (As := [.int v, .int 50, .int 1000]) (rest := []) ⟨hx, hb, hml, hown, hts⟩ (mX6_isWithin l v 50 1000) (va_cwS 3 hts gX6_isArm_X6_isWithin rfl rfl rfl (by decide +kernel) ⟨Nat.le_of_ble_eq_true rfl, Nat.le_of_ble_eq_true rfl⟩) ⟨tB_blind, tB_go⟩ rfl rfl hl.1 rfl (lv_room (Nat.le_of_ble_eq_true rfl)) dX6_isArm_6 ⟨Nat.le_of_ble_eq_true rfl, Nat.le_of_ble_eq_true rfl⟩) hS (fun q _ h => h.elim) (fun q h => h.elim) (fun r1 u2 t H locs ht hvm hp3 hB hz1 hk1 hS => ?_)
  subst hp3
  exact W.zret (v := bI (isW v 50 1000)) hx hb hr bI_nar (fun t ht hW => ⟨⟨bI (isW v 50 1000), (), rfl, rfl, trivial⟩, hS.F ht⟩) hS.2.2 dX6_isArm_9
set_option maxHeartbeats 4000000 in
set_option maxRecDepth 100000 in
theorem mX7_isHanging (l : Launch) (v : Int32)  : Met l yX7_isHanging wsX7_isHanging ({ frames := 1, cells := 0, slots := 0, locals := 22 }) (va_Pc [.int v] (fun _ => True)) (va_Qi (fun (r : Int32) (u : Unit) => r = bI (okH v)) (fun _ _ => True) nA) 0 0 nA := by
  refine Met.ofW (cc := cX7_isHanging) (maxL := 1) (ret := (some .boolean)) (by decide) rfl ?_
  intro p e s m args below meth c s₁ B hml hv
  obtain ⟨rfl, -⟩ := hv
  have hx := B.exec
  have hb := B.bytes
  have hr := B.returns
  have hts := atoms_spec (ws := wsX7_isHanging) B.pre
  have hown : s.vm.findClass RX7 = some m.cls := findClass_of_methodNamed B.named
  have hlocks := B.notSynchronized
  have hS : va_S nA s.heap s.heap [] := va_S.rf
  have hl := lv_entry ([.int v]) (n := 1) (Nat.le_of_ble_eq_true rfl)
  rw [lg_entry_eq]
  generalize (lg_sl ([.int v]) ++ List.replicate (1 - (lg_sl ([.int v])).length) Slot.unset).toArray = ls at hl ⊢
  have hl : lv_has ls 1 [(0, .int v)] := hl
  skip
  refine lv_iload_n hx hb dX7_isHanging_0 rfl (lv_at hl 0 rfl) ?_
  refine lv_iconst (v := 0) hx hb dX7_isHanging_1 (by decide) ?_
  refine lv_iconst (v := 3) hx hb dX7_isHanging_2 (by decide) ?_
  refine va_calli (va_runS (As := [.int v, .int 0, .int 3]) (rest := []) ⟨hx, hb, hml, hown, hts⟩ (mX7_in l v 0 3) (va_cwS 3 hts gX7_isHanging_X7_in rfl rfl rfl (by decide +kernel) ⟨Nat.le_of_ble_eq_true rfl, Nat.le_of_ble_eq_true rfl⟩) ⟨tB_blind, tB_go⟩ rfl rfl hl.1 rfl (lv_room (Nat.le_of_ble_eq_true rfl)) dX7_isHanging_3 ⟨Nat.le_of_ble_eq_true rfl, Nat.le_of_ble_eq_true rfl⟩) hS (fun q _ h => h.elim) (fun q h => h.elim) (fun r1 u2 t H locs ht hvm hp3 hB hz1 hk1 hS => ?_)
  subst hp3
  exact W.zret (v := bI (isW v 0 3)) hx hb hr bI_nar (fun t ht hW => ⟨⟨bI (isW v 0 3), (), rfl, rfl, trivial⟩, hS.F ht⟩) hS.2.2 dX7_isHanging_6
set_option maxHeartbeats 4000000 in
set_option maxRecDepth 100000 in
theorem mX7_isAt (l : Launch) (v : Int32)  : Met l yX7_isAt wsX7_isAt ({ frames := 1, cells := 0, slots := 0, locals := 22 }) (va_Pc [.int v] (fun _ => True)) (va_Qi (fun (r : Int32) (u : Unit) => r = bI (okC v)) (fun _ _ => True) nA) 0 0 nA := by
  refine Met.ofW (cc := cX7_isAt) (maxL := 1) (ret := (some .boolean)) (by decide) rfl ?_
  intro p e s m args below meth c s₁ B hml hv
  obtain ⟨rfl, -⟩ := hv
  have hx := B.exec
  have hb := B.bytes
  have hr := B.returns
  have hts := atoms_spec (ws := wsX7_isAt) B.pre
  have hown : s.vm.findClass RX7 = some m.cls := findClass_of_methodNamed B.named
  have hlocks := B.notSynchronized
  have hS : va_S nA s.heap s.heap [] := va_S.rf
  have hl := lv_entry ([.int v]) (n := 1) (Nat.le_of_ble_eq_true rfl)
  rw [lg_entry_eq]
  generalize (lg_sl ([.int v]) ++ List.replicate (1 - (lg_sl ([.int v])).length) Slot.unset).toArray = ls at hl ⊢
  have hl : lv_has ls 1 [(0, .int v)] := hl
  skip
  refine lv_iload_n hx hb dX7_isAt_0 rfl (lv_at hl 0 rfl) ?_
  refine lv_sipush (v := (-1000)) hx hb dX7_isAt_1 (by decide) ?_
  refine lv_sipush (v := 1000) hx hb dX7_isAt_4 (by decide) ?_
  refine va_calli (va_runS (As := [.int v, .int ((-1000)), .int 1000]) (rest := []) ⟨hx, hb, hml, hown, hts⟩ (mX7_in l v ((-1000)) 1000) (va_cwS 3 hts gX7_isAt_X7_in rfl rfl rfl (by decide +kernel) ⟨Nat.le_of_ble_eq_true rfl, Nat.le_of_ble_eq_true rfl⟩) ⟨tB_blind, tB_go⟩ rfl rfl hl.1 rfl (lv_room (Nat.le_of_ble_eq_true rfl)) dX7_isAt_7 ⟨Nat.le_of_ble_eq_true rfl, Nat.le_of_ble_eq_true rfl⟩) hS (fun q _ h => h.elim) (fun q h => h.elim) (fun r1 u2 t H locs ht hvm hp3 hB hz1 hk1 hS => ?_)
  subst hp3
  exact W.zret (v := bI (isW v ((-1000)) 1000)) hx hb hr bI_nar (fun t ht hW => ⟨⟨bI (isW v ((-1000)) 1000), (), rfl, rfl, trivial⟩, hS.F ht⟩) hS.2.2 dX7_isAt_10
set_option maxHeartbeats 4000000 in
set_option maxRecDepth 100000 in
theorem mX7_isLong (l : Launch) (v : Int32)  : Met l yX7_isLong wsX7_isLong ({ frames := 1, cells := 0, slots := 0, locals := 22 }) (va_Pc [.int v] (fun _ => True)) (va_Qi (fun (r : Int32) (u : Unit) => r = bI (okA v)) (fun _ _ => True) nA) 0 0 nA := by
  refine Met.ofW (cc := cX7_isLong) (maxL := 1) (ret := (some .boolean)) (by decide) rfl ?_
  intro p e s m args below meth c s₁ B hml hv
  obtain ⟨rfl, -⟩ := hv
  have hx := B.exec
  have hb := B.bytes
  have hr := B.returns
  have hts := atoms_spec (ws := wsX7_isLong) B.pre
  have hown : s.vm.findClass RX7 = some m.cls := findClass_of_methodNamed B.named
  have hlocks := B.notSynchronized
  have hS : va_S nA s.heap s.heap [] := va_S.rf
  have hl := lv_entry ([.int v]) (n := 1) (Nat.le_of_ble_eq_true rfl)
  rw [lg_entry_eq]
  generalize (lg_sl ([.int v]) ++ List.replicate (1 - (lg_sl ([.int v])).length) Slot.unset).toArray = ls at hl ⊢
  have hl : lv_has ls 1 [(0, .int v)] := hl
  skip
  refine lv_iload_n hx hb dX7_isLong_0 rfl (lv_at hl 0 rfl) ?_
  refine lv_bipush (v := 50) hx hb dX7_isLong_1 (by decide) ?_
  refine lv_sipush (v := 1000) hx hb dX7_isLong_3 (by decide) ?_
  refine va_calli (va_runS (As := [.int v, .int 50, .int 1000]) (rest := []) ⟨hx, hb, hml, hown, hts⟩ (mX7_in l v 50 1000) (va_cwS 3 hts gX7_isLong_X7_in rfl rfl rfl (by decide +kernel) ⟨Nat.le_of_ble_eq_true rfl, Nat.le_of_ble_eq_true rfl⟩) ⟨tB_blind, tB_go⟩ rfl rfl hl.1 rfl (lv_room (Nat.le_of_ble_eq_true rfl)) dX7_isLong_6 ⟨Nat.le_of_ble_eq_true rfl, Nat.le_of_ble_eq_true rfl⟩) hS (fun q _ h => h.elim) (fun q h => h.elim) (fun r1 u2 t H locs ht hvm hp3 hB hz1 hk1 hS => ?_)
  subst hp3
  exact W.zret (v := bI (isW v 50 1000)) hx hb hr bI_nar (fun t ht hW => ⟨⟨bI (isW v 50 1000), (), rfl, rfl, trivial⟩, hS.F ht⟩) hS.2.2 dX7_isLong_9
set_option maxHeartbeats 4000000 in
set_option maxRecDepth 100000 in
theorem mX6_isPoint (l : Launch) (x y : Int32)  : Met l yX6_isPoint wsX6_isPoint ({ frames := 2, cells := 0, slots := 0, locals := 42 }) (va_Pc [.int x, .int y] (fun _ => True)) (va_Qi (fun (r : Int32) (u : Unit) => r = bI (okP x y)) (fun _ _ => True) nA) 0 0 nA := by
  refine Met.ofW (cc := cX6_isPoint) (maxL := 2) (ret := (some .boolean)) (by decide) rfl ?_
  intro p e s m args below meth c s₁ B hml hv
  obtain ⟨rfl, -⟩ := hv
  have hx := B.exec
  have hb := B.bytes
  have hr := B.returns
  have hts := atoms_spec (ws := wsX6_isPoint) B.pre
  have hown : s.vm.findClass RX6 = some m.cls := findClass_of_methodNamed B.named
  have hlocks := B.notSynchronized
  have hS : va_S nA s.heap s.heap [] := va_S.rf
  have hl := lv_entry ([.int x, .int y]) (n := 2) (Nat.le_of_ble_eq_true rfl)
  rw [lg_entry_eq]
  generalize (lg_sl ([.int x, .int y]) ++ List.replicate (2 - (lg_sl ([.int x, .int y])).length) Slot.unset).toArray = ls at hl ⊢
  have hl : lv_has ls 2 [(0, .int x), (1, .int y)] := hl
  skip
  refine lv_iload_n hx hb dX6_isPoint_0 rfl (lv_at hl 0 rfl) ?_
  refine va_calli (va_runS (As := [.int x]) (rest := []) ⟨hx, hb, hml, hown, hts⟩ (mX6_isCoordinate l x) (va_cwS 1 hts gX6_isPoint_X6_isCoordinate rfl rfl rfl (by decide +kernel) ⟨Nat.le_of_ble_eq_true rfl, Nat.le_of_ble_eq_true rfl⟩) ⟨tB_blind, tB_go⟩ rfl rfl hl.1 rfl (lv_room (Nat.le_of_ble_eq_true rfl)) dX6_isPoint_1 ⟨Nat.le_of_ble_eq_true rfl, Nat.le_of_ble_eq_true rfl⟩) hS (fun q _ h => h.elim) (fun q h => h.elim) (fun r1 u2 t H locs ht hvm hp3 hB hz1 hk1 hS => ?_)
  subst hp3
  refine lv_if_eq (tgt := 18) hx hb dX6_isPoint_4 (by decide) (fun c4 => ?_) (fun c4 => ?_)
  · have c4 := bI_e.mp c4
    refine lv_iconst (v := 0) hx hb dX6_isPoint_18 (by decide) ?_
    exact W.zret (v := 0) hx hb hr rfl (fun t ht hW => ⟨⟨0, (), rfl, (by simp [okP, bI, c4]), trivial⟩, hS.F ht⟩) hS.2.2 dX6_isPoint_19
  · have c4 := bI_n.mp c4
    refine lv_iload_n hx hb dX6_isPoint_7 rfl (lv_at hl 1 rfl) ?_
    refine va_calli (va_runS (As := [.int y]) (rest := []) ⟨hx, hb, hml, hown, hts⟩ (mX6_isCoordinate l y) (va_cwS 1 hts gX6_isPoint_X6_isCoordinate rfl rfl rfl (by decide +kernel) ⟨Nat.le_of_ble_eq_true rfl, Nat.le_of_ble_eq_true rfl⟩) ⟨tB_blind, tB_go⟩ rfl rfl hl.1 rfl (lv_room (Nat.le_of_ble_eq_true rfl)) dX6_isPoint_8 ⟨Nat.le_of_ble_eq_true rfl, Nat.le_of_ble_eq_true rfl⟩) hS (fun q _ h => h.elim) (fun q h => h.elim) (fun r5 u6 t H locs ht hvm hp7 hB hz1 hk1 hS => ?_)
    subst hp7
    refine lv_if_eq (tgt := 18) hx hb dX6_isPoint_11 (by decide) (fun c8 => ?_) (fun c8 => ?_)
    · have c8 := bI_e.mp c8
      refine lv_iconst (v := 0) hx hb dX6_isPoint_18 (by decide) ?_
      exact W.zret (v := 0) hx hb hr rfl (fun t ht hW => ⟨⟨0, (), rfl, (by simp [okP, bI, c4, c8]), trivial⟩, hS.F ht⟩) hS.2.2 dX6_isPoint_19
    · have c8 := bI_n.mp c8
      refine lv_iconst (v := 1) hx hb dX6_isPoint_14 (by decide) ?_
      refine lv_goto (tgt := 19) hx hb dX6_isPoint_15 (by decide) ?_
      exact W.zret (v := 1) hx hb hr rfl (fun t ht hW => ⟨⟨1, (), rfl, (by simp [okP, bI, c4, c8]), trivial⟩, hS.F ht⟩) hS.2.2 dX6_isPoint_19
set_option maxHeartbeats 4000000 in
set_option maxRecDepth 100000 in
theorem mX6_isSpan (l : Launch) (x y : Int32)  : Met l yX6_isSpan wsX6_isSpan ({ frames := 2, cells := 0, slots := 0, locals := 42 }) (va_Pc [.int x, .int y] (fun _ => True)) (va_Qi (fun (r : Int32) (u : Unit) => r = bI (okS x y)) (fun _ _ => True) nA) 0 0 nA := by
  refine Met.ofW (cc := cX6_isSpan) (maxL := 2) (ret := (some .boolean)) (by decide) rfl ?_
  intro p e s m args below meth c s₁ B hml hv
  obtain ⟨rfl, -⟩ := hv
  have hx := B.exec
  have hb := B.bytes
  have hr := B.returns
  have hts := atoms_spec (ws := wsX6_isSpan) B.pre
  have hown : s.vm.findClass RX6 = some m.cls := findClass_of_methodNamed B.named
  have hlocks := B.notSynchronized
  have hS : va_S nA s.heap s.heap [] := va_S.rf
  have hl := lv_entry ([.int x, .int y]) (n := 2) (Nat.le_of_ble_eq_true rfl)
  rw [lg_entry_eq]
  generalize (lg_sl ([.int x, .int y]) ++ List.replicate (2 - (lg_sl ([.int x, .int y])).length) Slot.unset).toArray = ls at hl ⊢
  have hl : lv_has ls 2 [(0, .int x), (1, .int y)] := hl
  skip
  refine lv_iload_n hx hb dX6_isSpan_0 rfl (lv_at hl 0 rfl) ?_
  refine va_calli (va_runS (As := [.int x]) (rest := []) ⟨hx, hb, hml, hown, hts⟩ (mX6_isCoordinate l x) (va_cwS 1 hts gX6_isSpan_X6_isCoordinate rfl rfl rfl (by decide +kernel) ⟨Nat.le_of_ble_eq_true rfl, Nat.le_of_ble_eq_true rfl⟩) ⟨tB_blind, tB_go⟩ rfl rfl hl.1 rfl (lv_room (Nat.le_of_ble_eq_true rfl)) dX6_isSpan_1 ⟨Nat.le_of_ble_eq_true rfl, Nat.le_of_ble_eq_true rfl⟩) hS (fun q _ h => h.elim) (fun q h => h.elim) (fun r1 u2 t H locs ht hvm hp3 hB hz1 hk1 hS => ?_)
  subst hp3
  refine lv_if_eq (tgt := 23) hx hb dX6_isSpan_4 (by decide) (fun c4 => ?_) (fun c4 => ?_)
  · have c4 := bI_e.mp c4
    refine lv_iconst (v := 0) hx hb dX6_isSpan_23 (by decide) ?_
    exact W.zret (v := 0) hx hb hr rfl (fun t ht hW => ⟨⟨0, (), rfl, (by simp [okS, bI, c4]), trivial⟩, hS.F ht⟩) hS.2.2 dX6_isSpan_24
  · have c4 := bI_n.mp c4
    refine lv_iload_n hx hb dX6_isSpan_7 rfl (lv_at hl 1 rfl) ?_
    refine va_calli (va_runS (As := [.int y]) (rest := []) ⟨hx, hb, hml, hown, hts⟩ (mX6_isCoordinate l y) (va_cwS 1 hts gX6_isSpan_X6_isCoordinate rfl rfl rfl (by decide +kernel) ⟨Nat.le_of_ble_eq_true rfl, Nat.le_of_ble_eq_true rfl⟩) ⟨tB_blind, tB_go⟩ rfl rfl hl.1 rfl (lv_room (Nat.le_of_ble_eq_true rfl)) dX6_isSpan_8 ⟨Nat.le_of_ble_eq_true rfl, Nat.le_of_ble_eq_true rfl⟩) hS (fun q _ h => h.elim) (fun q h => h.elim) (fun r5 u6 t H locs ht hvm hp7 hB hz1 hk1 hS => ?_)
    subst hp7
    refine lv_if_eq (tgt := 23) hx hb dX6_isSpan_11 (by decide) (fun c8 => ?_) (fun c8 => ?_)
    · have c8 := bI_e.mp c8
      refine lv_iconst (v := 0) hx hb dX6_isSpan_23 (by decide) ?_
      exact W.zret (v := 0) hx hb hr rfl (fun t ht hW => ⟨⟨0, (), rfl, (by simp [okS, bI, c4, c8]), trivial⟩, hS.F ht⟩) hS.2.2 dX6_isSpan_24
    · have c8 := bI_n.mp c8
      refine lv_iload_n hx hb dX6_isSpan_14 rfl (lv_at hl 0 rfl) ?_
      refine lv_iload_n hx hb dX6_isSpan_15 rfl (lv_at hl 1 rfl) ?_
      refine lv_icmp_gt (tgt := 23) hx hb dX6_isSpan_16 (by decide) (fun c9 => ?_) (fun c9 => ?_)
      · have i10 := Int32.not_le.mpr c9
        refine lv_iconst (v := 0) hx hb dX6_isSpan_23 (by decide) ?_
        exact W.zret (v := 0) hx hb hr rfl (fun t ht hW => ⟨⟨0, (), rfl, (by simp [okS, bI, c4, c8, c9, i10]), trivial⟩, hS.F ht⟩) hS.2.2 dX6_isSpan_24
      · have i11 := Int32.not_lt.mp c9
        refine lv_iconst (v := 1) hx hb dX6_isSpan_19 (by decide) ?_
        refine lv_goto (tgt := 24) hx hb dX6_isSpan_20 (by decide) ?_
        exact W.zret (v := 1) hx hb hr rfl (fun t ht hW => ⟨⟨1, (), rfl, (by simp [okS, bI, c4, c8, c9, i11]), trivial⟩, hS.F ht⟩) hS.2.2 dX6_isSpan_24
set_option maxHeartbeats 4000000 in
set_option maxRecDepth 100000 in
theorem mX6_mix (l : Launch) (h : Int64) (v : Int32)  : Met l yX6_mix wsX6_mix ({ frames := 0, cells := 0, slots := 0, locals := 0 }) (va_Pc [.long h, .int v] (fun _ => True)) (va_Ql (fun (r : Int64) (u : Unit) => r = 31 * h + Int32.toInt64 v) (fun _ _ => True) nA) 0 0 nA := by
  refine Met.ofW (cc := cX6_mix) (maxL := 3) (ret := (some .long)) (by decide) rfl ?_
  intro p e s m args below meth c s₁ B hml hv
  obtain ⟨rfl, -⟩ := hv
  have hx := B.exec
  have hb := B.bytes
  have hr := B.returns
  have hts := atoms_spec (ws := wsX6_mix) B.pre
  have hown : s.vm.findClass RX6 = some m.cls := findClass_of_methodNamed B.named
  have hlocks := B.notSynchronized
  have hS : va_S nA s.heap s.heap [] := va_S.rf
  have hl := lv_entry ([.long h, .int v]) (n := 3) (Nat.le_of_ble_eq_true rfl)
  rw [lg_entry_eq]
  generalize (lg_sl ([.long h, .int v]) ++ List.replicate (3 - (lg_sl ([.long h, .int v])).length) Slot.unset).toArray = ls at hl ⊢
  have hl : lv_has ls 3 [(0, .long h), (2, .int v)] := hl
  skip
  refine lv_ldc2 hx hb hown (hts (.constantLong RX6 167 (31)) (by decide +kernel)) dX6_mix_0 ?_
  refine lv_lload_n hx hb dX6_mix_3 rfl (lv_at hl 0 rfl) ?_
  refine lv_lmul hx hb dX6_mix_4 ?_
  refine lv_iload_n hx hb dX6_mix_5 rfl (lv_at hl 1 rfl) ?_
  refine lv_i2l (v := Int32.toInt64 v) hx hb dX6_mix_6 rfl ?_
  refine lv_ladd hx hb dX6_mix_7 ?_
  exact W.lret (v := (31 * h) + (Int32.toInt64 v)) hx hb hr (fun t ht hW => ⟨⟨(31 * h) + (Int32.toInt64 v), (), rfl, rfl, trivial⟩, hS.F ht⟩) hS.2.2 dX6_mix_8
end
section
/-! THE BITS OF A DOUBLE: X1.bits and X7.bitsOf answer the double's own bits -/
set_option maxHeartbeats 4000000 in
set_option maxRecDepth 100000 in
theorem lpX1_b1 {p : Program} {l : Launch} {e : Env} {R : Room} {s : State} {m : MethodId} {args : Array Value} {below : List Frame} {meth : Method} {c : Code} {H : Heap} {locs : List Loc} {cells slots : Nat} {Q : State → Prop} (hx : p.tables.exec = Jvm.exec) (hb : c.code = cX1_bits) (hown : s.vm.findClass RX1 = some m.cls) (hts : ∀ w ∈ wsX1_bits, w.before args s = true) {x : UInt64} {cc e1 : Nat} (hc1 : 2 ^ 52 ≤ cc) (hc2 : cc < 2 ^ 53) (k : ∀ (part : UInt64) (i : Int32) (ls : Array Slot), dv part cc 1022 → lv_has ls 8 [(6, .int i), (4, .long (lN e1)), (2, .double part), (0, .double x)] → W p l e R s m args below meth c H locs cells slots Q (F0 m 77 ls [])) : ∀ (n k0 e0 : Nat) (part : UInt64) (ls : Array Slot), dv part cc (1022 + n) → k0 + n < 1100 → e0 + n = e1 ∧ e1 < 2 ^ 20 ∧ n ≤ 1016 → lv_has ls 8 [(6, .int (nI k0)), (4, .long (lN e0)), (2, .double part), (0, .double x)] → W p l e R s m args below meth c H locs cells slots Q (F0 m 43 ls []) := by
  intro n
  induction n with
  | zero =>
    intro k0 e0 part ls hd hk he hl
    have hee : e0 = e1 := by omega
    subst hee
    refine lv_iload hx hb dX1_bits_43 (lv_at hl 0 rfl) ?_
    refine lv_sipush (v := 1100) hx hb dX1_bits_45 (by decide) ?_
    refine lv_icmp_ge (tgt := 77) hx hb dX1_bits_48 (by decide) (fun c1 => ?_) (fun c1 => ?_)
    · have i2 := Int32.not_lt.mpr c1
      exact absurd c1 (fun h => absurd ((nI_leI (a := 1100) (by omega) (by omega)).mp h) (by omega))
    · have i3 := Int32.not_le.mp c1
      refine lv_dload_n hx hb dX1_bits_51 rfl (lv_at hl 2 rfl) ?_
      refine lv_ldc2d hx hb hown (hts (.constantDouble RX1 11 (4611686018427387904)) (by decide +kernel)) dX1_bits_52 ?_
      refine lv_dcmp hx hb dX1_bits_55 ?_
      rw [fp_cv hd.1 gf_2.1]
      refine lv_if_lt (tgt := 77) hx hb dX1_bits_56 (by decide) (fun c4 => ?_) (fun c4 => ?_)
      · rw [fcv_lt] at c4
        exact k part _ ls hd (lv_sub hl [0, 1, 2, 3] rfl)
      · rw [fcv_lt] at c4
        exact absurd (dv_lt hd fv_2 hc2 (by omega)) c4
  | succ n ih =>
    intro k0 e0 part ls hd hk he hl
    refine lv_iload hx hb dX1_bits_43 (lv_at hl 0 rfl) ?_
    refine lv_sipush (v := 1100) hx hb dX1_bits_45 (by decide) ?_
    refine lv_icmp_ge (tgt := 77) hx hb dX1_bits_48 (by decide) (fun c1 => ?_) (fun c1 => ?_)
    · have i2 := Int32.not_lt.mpr c1
      exact absurd c1 (fun h => absurd ((nI_leI (a := 1100) (by omega) (by omega)).mp h) (by omega))
    · have i3 := Int32.not_le.mp c1
      refine lv_dload_n hx hb dX1_bits_51 rfl (lv_at hl 2 rfl) ?_
      refine lv_ldc2d hx hb hown (hts (.constantDouble RX1 11 (4611686018427387904)) (by decide +kernel)) dX1_bits_52 ?_
      refine lv_dcmp hx hb dX1_bits_55 ?_
      rw [fp_cv hd.1 gf_2.1]
      refine lv_if_lt (tgt := 77) hx hb dX1_bits_56 (by decide) (fun c4 => ?_) (fun c4 => ?_)
      · rw [fcv_lt] at c4
        exact absurd c4 (dv_ge hd fv_2 hc1 (by omega))
      · rw [fcv_lt] at c4
        refine lv_dload_n hx hb dX1_bits_59 rfl (lv_at hl 2 rfl) ?_
        refine lv_ldc2d hx hb hown (hts (.constantDouble RX1 11 (4611686018427387904)) (by decide +kernel)) dX1_bits_60 ?_
        have g5 := sc_div (k := 1) (i := 1022 + n) hd.1 gf_2.1 (Nat.le_of_lt hc2) hd.2 fv_2 (by omega)
        refine lv_ddiv hx hb dX1_bits_63 (fp_n64 g5.1) ?_
        refine lv_topd (fun v6 ev6 => ?_)
        rw [← ev6] at g5
        refine lv_dstore_n (lv' := [(2, .double v6), (6, .int (nI k0)), (4, .long (lN e0)), (0, .double x)]) hx hb dX1_bits_64 rfl hl (by decide) rfl (fun ls hl => ?_)
        refine lv_lload hx hb dX1_bits_65 (lv_at hl 2 rfl) ?_
        refine lv_lconst (v := 1) hx hb dX1_bits_67 (by decide) ?_
        refine lv_ladd hx hb dX1_bits_68 ?_
        refine lv_lstore (lv' := [(4, .long ((lN e0) + 1)), (2, .double v6), (6, .int (nI k0)), (0, .double x)]) hx hb dX1_bits_69 hl (by decide) rfl (fun ls hl => ?_)
        refine lv_iinc (v := (nI k0) + 1) (lv' := [(6, .int ((nI k0) + 1)), (4, .long ((lN e0) + 1)), (2, .double v6), (0, .double x)]) hx hb dX1_bits_71 hl (k := 2) rfl rfl (by decide) rfl (fun ls hl => ?_)
        refine lv_goto (tgt := 43) hx hb dX1_bits_74 (by decide) ?_
        have h9 : lv_has ls 8 [(6, .int (nI (k0 + 1))), (4, .long (lN (e0 + 1))), (2, .double v6), (0, .double x)] := by have h8 := (lv_sub hl [0, 1, 2, 3] rfl); rw [nI_1, lN_1] at h8; exact h8
        exact ih (k0 + 1) (e0 + 1) _ ls g5 (by omega) (by omega) h9
set_option maxHeartbeats 4000000 in
set_option maxRecDepth 100000 in
theorem lpX1_b2 {p : Program} {l : Launch} {e : Env} {R : Room} {s : State} {m : MethodId} {args : Array Value} {below : List Frame} {meth : Method} {c : Code} {H : Heap} {locs : List Loc} {cells slots : Nat} {Q : State → Prop} (hx : p.tables.exec = Jvm.exec) (hb : c.code = cX1_bits) (hown : s.vm.findClass RX1 = some m.cls) (hts : ∀ w ∈ wsX1_bits, w.before args s = true) {x : UInt64} {cc e1 : Nat} (hc1 : 2 ^ 52 ≤ cc) (hc2 : cc < 2 ^ 53) (k : ∀ (part : UInt64) (i : Int32) (ls : Array Slot), dv part cc 1022 → lv_has ls 8 [(6, .int i), (4, .long (lN e1)), (2, .double part), (0, .double x)] → W p l e R s m args below meth c H locs cells slots Q (F0 m 112 ls [])) : ∀ (n k0 e0 : Nat) (part : UInt64) (ls : Array Slot), dv part cc (1022 - n) → k0 + n < 1100 → e0 = e1 + n ∧ e0 < 2 ^ 20 ∧ n ≤ 1022 → lv_has ls 8 [(6, .int (nI k0)), (4, .long (lN e0)), (2, .double part), (0, .double x)] → W p l e R s m args below meth c H locs cells slots Q (F0 m 80 ls []) := by
  intro n
  induction n with
  | zero =>
    intro k0 e0 part ls hd hk he hl
    have hee : e0 = e1 := by omega
    subst hee
    refine lv_iload hx hb dX1_bits_80 (lv_at hl 0 rfl) ?_
    refine lv_sipush (v := 1100) hx hb dX1_bits_82 (by decide) ?_
    refine lv_icmp_ge (tgt := 112) hx hb dX1_bits_85 (by decide) (fun c1 => ?_) (fun c1 => ?_)
    · have i2 := Int32.not_lt.mpr c1
      exact absurd c1 (fun h => absurd ((nI_leI (a := 1100) (by omega) (by omega)).mp h) (by omega))
    · have i3 := Int32.not_le.mp c1
      refine lv_dload_n hx hb dX1_bits_88 rfl (lv_at hl 2 rfl) ?_
      refine lv_dconst1 hx hb dX1_bits_89 ?_
      refine lv_dcmp hx hb dX1_bits_90 ?_
      rw [fp_cv hd.1 gf_c1.1]
      refine lv_if_ge (tgt := 112) hx hb dX1_bits_91 (by decide) (fun c4 => ?_) (fun c4 => ?_)
      · rw [fcv_ge] at c4
        exact k part _ ls hd (lv_sub hl [0, 1, 2, 3] rfl)
      · rw [fcv_ge] at c4
        exact absurd (Int.not_lt.mp (dv_ge hd fv_c1 hc1 (by omega))) c4
  | succ n ih =>
    intro k0 e0 part ls hd hk he hl
    refine lv_iload hx hb dX1_bits_80 (lv_at hl 0 rfl) ?_
    refine lv_sipush (v := 1100) hx hb dX1_bits_82 (by decide) ?_
    refine lv_icmp_ge (tgt := 112) hx hb dX1_bits_85 (by decide) (fun c1 => ?_) (fun c1 => ?_)
    · have i2 := Int32.not_lt.mpr c1
      exact absurd c1 (fun h => absurd ((nI_leI (a := 1100) (by omega) (by omega)).mp h) (by omega))
    · have i3 := Int32.not_le.mp c1
      refine lv_dload_n hx hb dX1_bits_88 rfl (lv_at hl 2 rfl) ?_
      refine lv_dconst1 hx hb dX1_bits_89 ?_
      refine lv_dcmp hx hb dX1_bits_90 ?_
      rw [fp_cv hd.1 gf_c1.1]
      refine lv_if_ge (tgt := 112) hx hb dX1_bits_91 (by decide) (fun c4 => ?_) (fun c4 => ?_)
      · rw [fcv_ge] at c4
        exact absurd (dv_lt hd fv_c1 hc2 (by omega)) (Int.not_lt.mpr c4)
      · rw [fcv_ge] at c4
        refine lv_dload_n hx hb dX1_bits_94 rfl (lv_at hl 2 rfl) ?_
        refine lv_ldc2d hx hb hown (hts (.constantDouble RX1 11 (4611686018427387904)) (by decide +kernel)) dX1_bits_95 ?_
        have g5 := sc_mul (j := 1022 - n) hd.1 gf_2.1 (Nat.le_of_lt hc2) hd.2 fv_2 (by omega) (by omega)
        refine lv_dmul hx hb dX1_bits_98 (fp_n64 g5.1) ?_
        refine lv_topd (fun v6 ev6 => ?_)
        rw [← ev6] at g5
        refine lv_dstore_n (lv' := [(2, .double v6), (6, .int (nI k0)), (4, .long (lN e0)), (0, .double x)]) hx hb dX1_bits_99 rfl hl (by decide) rfl (fun ls hl => ?_)
        refine lv_lload hx hb dX1_bits_100 (lv_at hl 2 rfl) ?_
        refine lv_lconst (v := 1) hx hb dX1_bits_102 (by decide) ?_
        refine lv_lsub hx hb dX1_bits_103 ?_
        refine lv_lstore (lv' := [(4, .long ((lN e0) - 1)), (2, .double v6), (6, .int (nI k0)), (0, .double x)]) hx hb dX1_bits_104 hl (by decide) rfl (fun ls hl => ?_)
        refine lv_iinc (v := (nI k0) + 1) (lv' := [(6, .int ((nI k0) + 1)), (4, .long ((lN e0) - 1)), (2, .double v6), (0, .double x)]) hx hb dX1_bits_106 hl (k := 2) rfl rfl (by decide) rfl (fun ls hl => ?_)
        refine lv_goto (tgt := 80) hx hb dX1_bits_109 (by decide) ?_
        obtain ⟨e9, rfl⟩ : ∃ e9, e0 = e9 + 1 := ⟨e0 - 1, by omega⟩
        have h9 : lv_has ls 8 [(6, .int (nI (k0 + 1))), (4, .long (lN e9)), (2, .double v6), (0, .double x)] := by have h8 := (lv_sub hl [0, 1, 2, 3] rfl); rw [nI_1, show lN (e9 + 1) - 1 = lN e9 from lN_sub (a := e9 + 1) (b := 1) (by omega)] at h8; exact h8
        exact ih (k0 + 1) e9 _ ls g5 (by omega) (by omega) h9
set_option maxHeartbeats 4000000 in
set_option maxRecDepth 100000 in
theorem lpX1_z {p : Program} {l : Launch} {e : Env} {R : Room} {s : State} {m : MethodId} {args : Array Value} {below : List Frame} {meth : Method} {c : Code} {H : Heap} {locs : List Loc} {cells slots : Nat} {Q : State → Prop} (hx : p.tables.exec = Jvm.exec) (hb : c.code = cX1_bits) (hown : s.vm.findClass RX1 = some m.cls) (hts : ∀ w ∈ wsX1_bits, w.before args s = true) {x pp : UInt64} {cc i : Nat} (hc1 : 2 ^ 52 ≤ cc) (hc2 : cc < 2 ^ 53) (hi : i ≤ 1022) (hd : dv pp cc i) {ls : Array Slot} (hl : lv_has ls 8 [(6, .int (nI 0)), (4, .long (lN 1023)), (2, .double pp), (0, .double x)]) (k : ∀ (ls : Array Slot), lv_has ls 8 [(6, .int (nI 0)), (4, .long (lN 1023)), (2, .double pp), (0, .double x)] → W p l e R s m args below meth c H locs cells slots Q (F0 m 77 ls [])) : W p l e R s m args below meth c H locs cells slots Q (F0 m 43 ls []) := by
  refine lv_iload hx hb dX1_bits_43 (lv_at hl 0 rfl) ?_
  refine lv_sipush (v := 1100) hx hb dX1_bits_45 (by decide) ?_
  refine lv_icmp_ge (tgt := 77) hx hb dX1_bits_48 (by decide) (fun c1 => ?_) (fun c1 => ?_)
  · have i2 := Int32.not_lt.mpr c1
    exact absurd c1 (by decide)
  · have i3 := Int32.not_le.mp c1
    refine lv_dload_n hx hb dX1_bits_51 rfl (lv_at hl 2 rfl) ?_
    refine lv_ldc2d hx hb hown (hts (.constantDouble RX1 11 (4611686018427387904)) (by decide +kernel)) dX1_bits_52 ?_
    refine lv_dcmp hx hb dX1_bits_55 ?_
    rw [fp_cv hd.1 gf_2.1]
    refine lv_if_lt (tgt := 77) hx hb dX1_bits_56 (by decide) (fun c4 => ?_) (fun c4 => ?_)
    · rw [fcv_lt] at c4
      exact k ls hl
    · rw [fcv_lt] at c4
      exact absurd (dv_lt hd fv_2 hc2 (by omega)) c4
set_option maxHeartbeats 4000000 in
set_option maxRecDepth 100000 in
theorem lpX1_b {p : Program} {l : Launch} {e : Env} {R : Room} {s : State} {m : MethodId} {args : Array Value} {below : List Frame} {meth : Method} {c : Code} {H : Heap} {locs : List Loc} {cells slots : Nat} {Q : State → Prop} (hx : p.tables.exec = Jvm.exec) (hb : c.code = cX1_bits) (hown : s.vm.findClass RX1 = some m.cls) (hts : ∀ w ∈ wsX1_bits, w.before args s = true) {x pp : UInt64} {cc i : Nat} (hc1 : 2 ^ 52 ≤ cc) (hc2 : cc < 2 ^ 53) (hi : i ≤ 2037) (hd : dv pp cc i) {ls : Array Slot} (hl : lv_has ls 8 [(6, .int (nI 0)), (4, .long (lN 1023)), (2, .double pp), (0, .double x)]) (K : ∀ (part : UInt64) (i9 : Int32) (ls : Array Slot), dv part cc 1022 → lv_has ls 8 [(6, .int i9), (4, .long (lN (i + 1))), (2, .double part), (0, .double x)] → W p l e R s m args below meth c H locs cells slots Q (F0 m 112 ls [])) : W p l e R s m args below meth c H locs cells slots Q (F0 m 43 ls []) := by
  rcases Nat.le_total 1022 i with h | h
  · refine lpX1_b1 hx hb hown hts (e1 := i + 1) hc1 hc2 (fun part i9 ls hd9 hl => ?_) (i - 1022) 0 1023 pp ls (by rw [show 1022 + (i - 1022) = i by omega]; exact hd) (by omega) (by omega) hl
    refine lv_iconst (v := 0) hx hb dX1_bits_77 (by decide) ?_
    refine lv_istore (lv' := [(6, .int 0), (4, .long (lN (i + 1))), (2, .double part), (0, .double x)]) hx hb dX1_bits_78 hl (by decide) rfl (fun ls hl => ?_)
    exact lpX1_b2 hx hb hown hts (e1 := i + 1) hc1 hc2 (fun part i9 ls hd9 hl => K part i9 ls hd9 hl) 0 0 (i + 1) part ls hd9 (by omega) (by omega) (lv_sub hl [0, 1, 2, 3] rfl)
  · refine lpX1_z hx hb hown hts hc1 hc2 h hd hl (fun ls hl => ?_)
    refine lv_iconst (v := 0) hx hb dX1_bits_77 (by decide) ?_
    refine lv_istore (lv' := [(6, .int 0), (4, .long (lN 1023)), (2, .double pp), (0, .double x)]) hx hb dX1_bits_78 hl (by decide) rfl (fun ls hl => ?_)
    exact lpX1_b2 hx hb hown hts (e1 := i + 1) hc1 hc2 (fun part i9 ls hd9 hl => K part i9 ls hd9 hl) (1022 - i) 0 1023 pp ls (by rw [show 1022 - (1022 - i) = i by omega]; exact hd) (by omega) (by omega) (lv_sub hl [0, 1, 2, 3] rfl)
set_option maxHeartbeats 4000000 in
set_option maxRecDepth 100000 in
theorem mX1_bits (l : Launch) (x : UInt64)  (hok : bOk x) : Met l yX1_bits wsX1_bits ({ frames := 0, cells := 0, slots := 0, locals := 0 }) (va_Pc [.double x] (fun _ => True)) (va_Ql (fun (r : Int64) (u : Unit) => r = x.toInt64) (fun _ _ => True) nA) 0 0 nA := by
  refine Met.ofW (cc := cX1_bits) (maxL := 8) (ret := (some .long)) (by decide) rfl ?_
  intro p e s m args below meth c s₁ B hml hv
  obtain ⟨rfl, -⟩ := hv
  have hx := B.exec
  have hb := B.bytes
  have hr := B.returns
  have hts := atoms_spec (ws := wsX1_bits) B.pre
  have hown : s.vm.findClass RX1 = some m.cls := findClass_of_methodNamed B.named
  have hlocks := B.notSynchronized
  have hS : va_S nA s.heap s.heap [] := va_S.rf
  have hl := lv_entry ([.double x]) (n := 8) (Nat.le_of_ble_eq_true rfl)
  rw [lg_entry_eq]
  generalize (lg_sl ([.double x]) ++ List.replicate (8 - (lg_sl ([.double x])).length) Slot.unset).toArray = ls at hl ⊢
  have hl : lv_has ls 8 [(0, .double x)] := hl
  skip
  rcases hok with h0 | h0 | ⟨hf, h0⟩
  · subst h0
    refine lv_dload_n hx hb dX1_bits_0 rfl (lv_at hl 0 rfl) ?_
    refine lv_dconst0 hx hb dX1_bits_1 ?_
    refine lv_dcmp hx hb dX1_bits_2 ?_
    rw [show Op.cmpValue (FP.dcmp 0 FP.dconst0) CmpOp.l = 0 by decide +kernel]
    refine lv_if_ne (tgt := 22) hx hb dX1_bits_3 (by decide) (fun c2 => absurd c2 (by decide)) (fun _ => ?_)
    refine lv_dconst1 hx hb dX1_bits_6 ?_
    refine lv_dload_n hx hb dX1_bits_7 rfl (lv_at hl 0 rfl) ?_
    refine lv_ddiv hx hb dX1_bits_8 (by unfold vf_n64; decide +kernel) ?_
    refine lv_dconst0 hx hb dX1_bits_9 ?_
    refine lv_dcmp hx hb dX1_bits_10 ?_
    rw [show Op.cmpValue (FP.dcmp (FP.ddiv FP.dconst1 0) FP.dconst0) CmpOp.g = 1 by decide +kernel]
    refine lv_if_ge (tgt := 20) hx hb dX1_bits_11 (by decide) (fun _ => ?_) (fun c6 => absurd c6 (by decide))
    refine lv_lconst (v := 0) hx hb dX1_bits_20 (by decide) ?_
    exact W.lret (v := 0) hx hb hr (fun t ht hW => ⟨⟨0, (), rfl, (by decide +kernel), trivial⟩, hS.F ht⟩) hS.2.2 dX1_bits_21
  · subst h0
    refine lv_dload_n hx hb dX1_bits_0 rfl (lv_at hl 0 rfl) ?_
    refine lv_dconst0 hx hb dX1_bits_1 ?_
    refine lv_dcmp hx hb dX1_bits_2 ?_
    rw [show Op.cmpValue (FP.dcmp 9223372036854775808 FP.dconst0) CmpOp.l = 0 by decide +kernel]
    refine lv_if_ne (tgt := 22) hx hb dX1_bits_3 (by decide) (fun c2 => absurd c2 (by decide)) (fun _ => ?_)
    refine lv_dconst1 hx hb dX1_bits_6 ?_
    refine lv_dload_n hx hb dX1_bits_7 rfl (lv_at hl 0 rfl) ?_
    refine lv_ddiv hx hb dX1_bits_8 (by unfold vf_n64; decide +kernel) ?_
    refine lv_dconst0 hx hb dX1_bits_9 ?_
    refine lv_dcmp hx hb dX1_bits_10 ?_
    rw [show Op.cmpValue (FP.dcmp (FP.ddiv FP.dconst1 9223372036854775808) FP.dconst0) CmpOp.g = (-1) by decide +kernel]
    refine lv_if_ge (tgt := 20) hx hb dX1_bits_11 (by decide) (fun c6 => absurd c6 (by decide)) (fun _ => ?_)
    refine lv_ldc2 hx hb hown (hts (.constantLong RX1 27 (-9223372036854775808)) (by decide +kernel)) dX1_bits_14 ?_
    refine lv_goto (tgt := 21) hx hb dX1_bits_17 (by decide) ?_
    exact W.lret (v := (-9223372036854775808)) hx hb hr (fun t ht hW => ⟨⟨(-9223372036854775808), (), rfl, (by decide +kernel), trivial⟩, hS.F ht⟩) hS.2.2 dX1_bits_21
  · obtain ⟨sg, cc, i, hc1, hc2, hi, hv, hn⟩ := fv_normb hf h0
    have hfx : FP.Core.DFin x ∧ True := ⟨hf, trivial⟩
    have hP0 : 0 < cc * 2 ^ i := Nat.mul_pos (by omega) (Nat.two_pow_pos i)
    cases sg with
    | false =>
      have hv2 : fv x = ((cc * 2 ^ i : Nat) : Int) := hv
      have hn2 : x.toNat = 0 + (i + 1) * 2 ^ 52 + (cc - 2 ^ 52) := hn
      refine lv_dload_n hx hb dX1_bits_0 rfl (lv_at hl 0 rfl) ?_
      refine lv_dconst0 hx hb dX1_bits_1 ?_
      refine lv_dcmp hx hb dX1_bits_2 ?_
      rw [fp_cv hfx.1 gf_c0.1]
      refine lv_if_ne (tgt := 22) hx hb dX1_bits_3 (by decide) (fun c1 => ?_) (fun c1 => ?_)
      · rw [fcv_eq] at c1
        refine lv_dload_n hx hb dX1_bits_22 rfl (lv_at hl 0 rfl) ?_
        refine lv_dconst0 hx hb dX1_bits_23 ?_
        refine lv_dcmp hx hb dX1_bits_24 ?_
        rw [fp_cv hfx.1 gf_c0.1]
        refine lv_if_ge (tgt := 33) hx hb dX1_bits_25 (by decide) (fun c2 => ?_) (fun c2 => ?_)
        · rw [fcv_ge] at c2
          refine lv_dload_n hx hb dX1_bits_33 rfl (lv_at hl 0 rfl) ?_
          have hd : dv x cc i := ⟨hf, hv2⟩
          refine lv_topd (fun pp ep => ?_)
          rw [← ep] at hd
          refine lv_dstore_n (lv' := [(2, .double pp), (0, .double x)]) hx hb dX1_bits_34 rfl hl (by decide) rfl (fun ls hl => ?_)
          refine lv_ldc2 hx hb hown (hts (.constantLong RX1 29 (1023)) (by decide +kernel)) dX1_bits_35 ?_
          refine lv_lstore (lv' := [(4, .long 1023), (2, .double pp), (0, .double x)]) hx hb dX1_bits_38 hl (by decide) rfl (fun ls hl => ?_)
          refine lv_iconst (v := 0) hx hb dX1_bits_40 (by decide) ?_
          refine lv_istore (lv' := [(6, .int 0), (4, .long 1023), (2, .double pp), (0, .double x)]) hx hb dX1_bits_41 hl (by decide) rfl (fun ls hl => ?_)
          have h43 : lv_has ls 8 [(6, .int (nI 0)), (4, .long (lN 1023)), (2, .double pp), (0, .double x)] := (lv_sub hl [0, 1, 2, 3] rfl)
          refine lpX1_b hx hb hown hts hc1 hc2 hi hd h43 (fun part i9 ls hd9 hl => ?_)
          refine lv_dload_n hx hb dX1_bits_112 rfl (lv_at hl 2 rfl) ?_
          refine lv_ldc2d hx hb hown (hts (.constantDouble RX1 19 (4841369599423283200)) (by decide +kernel)) dX1_bits_113 ?_
          have g51 := sc_mul (j := 1074) hd9.1 gf_52.1 (Nat.le_of_lt hc2) hd9.2 fv_52 (by omega) (by omega)
          refine lv_dmul hx hb dX1_bits_116 (fp_n64 g51.1) ?_
          refine lv_topd (fun v52 ev52 => ?_)
          rw [← ev52] at g51
          refine lv_d2l hx hb dX1_bits_117 ?_
          refine lv_ldc2 hx hb hown (hts (.constantLong RX1 31 (4503599627370496)) (by decide +kernel)) dX1_bits_118 ?_
          refine lv_lsub hx hb dX1_bits_121 ?_
          refine lv_lstore (lv' := [(6, .long ((FP.d2l v52) - 4503599627370496)), (4, .long (lN (i + 1))), (2, .double part), (0, .double x)]) hx hb dX1_bits_122 hl (by decide) rfl (fun ls hl => ?_)
          refine lv_dload_n hx hb dX1_bits_124 rfl (lv_at hl 3 rfl) ?_
          refine lv_dconst0 hx hb dX1_bits_125 ?_
          refine lv_dcmp hx hb dX1_bits_126 ?_
          rw [fp_cv hfx.1 gf_c0.1]
          refine lv_if_ge (tgt := 136) hx hb dX1_bits_127 (by decide) (fun c53 => ?_) (fun c53 => ?_)
          · rw [fcv_ge] at c53
            refine lv_lconst (v := 0) hx hb dX1_bits_136 (by decide) ?_
            refine lv_lload hx hb dX1_bits_137 (lv_at hl 1 rfl) ?_
            refine lv_bipush (v := 52) hx hb dX1_bits_139 (by decide) ?_
            refine lv_lshl (v := (lN (i + 1)) <<< (Int32.toInt64 52 &&& 63)) hx hb dX1_bits_141 rfl ?_
            refine lv_ladd hx hb dX1_bits_142 ?_
            refine lv_lload hx hb dX1_bits_143 (lv_at hl 0 rfl) ?_
            refine lv_ladd hx hb dX1_bits_145 ?_
            have hq : (0 + ((lN (i + 1)) <<< (Int32.toInt64 52 &&& 63))) + ((FP.d2l v52) - 4503599627370496) = x.toInt64 := by
              rw [lN_shl52, fv_d2l (n := cc) g51.1 g51.2 (by omega), U_lN, hn2]
              rw [show (4503599627370496 : Int64) = lN (2 ^ 52) from rfl, lN_sub hc1]
              show lN 0 + lN ((i + 1) * 2 ^ 52) + lN (cc - 2 ^ 52) = _
              rw [lN_add, lN_add]
            exact W.lret (v := (0 + ((lN (i + 1)) <<< (Int32.toInt64 52 &&& 63))) + ((FP.d2l v52) - 4503599627370496)) hx hb hr (fun t ht hW => ⟨⟨(0 + ((lN (i + 1)) <<< (Int32.toInt64 52 &&& 63))) + ((FP.d2l v52) - 4503599627370496), (), rfl, hq, trivial⟩, hS.F ht⟩) hS.2.2 dX1_bits_146
          · rw [fcv_ge] at c53
            exact absurd c53 (by rw [hv2, fv_c0]; omega)
        · rw [fcv_ge] at c2
          exact absurd c2 (by rw [hv2, fv_c0]; omega)
      · rw [fcv_eq] at c1
        exact absurd c1 (by rw [hv2, fv_c0]; omega)
    | true =>
      have hv2 : fv x = -((cc * 2 ^ i : Nat) : Int) := hv
      have hn2 : x.toNat = 2 ^ 63 + (i + 1) * 2 ^ 52 + (cc - 2 ^ 52) := hn
      refine lv_dload_n hx hb dX1_bits_0 rfl (lv_at hl 0 rfl) ?_
      refine lv_dconst0 hx hb dX1_bits_1 ?_
      refine lv_dcmp hx hb dX1_bits_2 ?_
      rw [fp_cv hfx.1 gf_c0.1]
      refine lv_if_ne (tgt := 22) hx hb dX1_bits_3 (by decide) (fun c1 => ?_) (fun c1 => ?_)
      · rw [fcv_eq] at c1
        refine lv_dload_n hx hb dX1_bits_22 rfl (lv_at hl 0 rfl) ?_
        refine lv_dconst0 hx hb dX1_bits_23 ?_
        refine lv_dcmp hx hb dX1_bits_24 ?_
        rw [fp_cv hfx.1 gf_c0.1]
        refine lv_if_ge (tgt := 33) hx hb dX1_bits_25 (by decide) (fun c2 => ?_) (fun c2 => ?_)
        · rw [fcv_ge] at c2
          exact absurd c2 (by rw [hv2, fv_c0]; omega)
        · rw [fcv_ge] at c2
          refine lv_dload_n hx hb dX1_bits_28 rfl (lv_at hl 0 rfl) ?_
          refine lv_dneg hx hb dX1_bits_29 ?_
          refine lv_goto (tgt := 34) hx hb dX1_bits_30 (by decide) ?_
          have hd : dv (FP.dneg x) cc i := ⟨(fv_neg hf).1, by rw [(fv_neg hf).2, hv2, Int.neg_neg]⟩
          refine lv_topd (fun pp ep => ?_)
          rw [← ep] at hd
          refine lv_dstore_n (lv' := [(2, .double pp), (0, .double x)]) hx hb dX1_bits_34 rfl hl (by decide) rfl (fun ls hl => ?_)
          refine lv_ldc2 hx hb hown (hts (.constantLong RX1 29 (1023)) (by decide +kernel)) dX1_bits_35 ?_
          refine lv_lstore (lv' := [(4, .long 1023), (2, .double pp), (0, .double x)]) hx hb dX1_bits_38 hl (by decide) rfl (fun ls hl => ?_)
          refine lv_iconst (v := 0) hx hb dX1_bits_40 (by decide) ?_
          refine lv_istore (lv' := [(6, .int 0), (4, .long 1023), (2, .double pp), (0, .double x)]) hx hb dX1_bits_41 hl (by decide) rfl (fun ls hl => ?_)
          have h43 : lv_has ls 8 [(6, .int (nI 0)), (4, .long (lN 1023)), (2, .double pp), (0, .double x)] := (lv_sub hl [0, 1, 2, 3] rfl)
          refine lpX1_b hx hb hown hts hc1 hc2 hi hd h43 (fun part i9 ls hd9 hl => ?_)
          refine lv_dload_n hx hb dX1_bits_112 rfl (lv_at hl 2 rfl) ?_
          refine lv_ldc2d hx hb hown (hts (.constantDouble RX1 19 (4841369599423283200)) (by decide +kernel)) dX1_bits_113 ?_
          have g51 := sc_mul (j := 1074) hd9.1 gf_52.1 (Nat.le_of_lt hc2) hd9.2 fv_52 (by omega) (by omega)
          refine lv_dmul hx hb dX1_bits_116 (fp_n64 g51.1) ?_
          refine lv_topd (fun v52 ev52 => ?_)
          rw [← ev52] at g51
          refine lv_d2l hx hb dX1_bits_117 ?_
          refine lv_ldc2 hx hb hown (hts (.constantLong RX1 31 (4503599627370496)) (by decide +kernel)) dX1_bits_118 ?_
          refine lv_lsub hx hb dX1_bits_121 ?_
          refine lv_lstore (lv' := [(6, .long ((FP.d2l v52) - 4503599627370496)), (4, .long (lN (i + 1))), (2, .double part), (0, .double x)]) hx hb dX1_bits_122 hl (by decide) rfl (fun ls hl => ?_)
          refine lv_dload_n hx hb dX1_bits_124 rfl (lv_at hl 3 rfl) ?_
          refine lv_dconst0 hx hb dX1_bits_125 ?_
          refine lv_dcmp hx hb dX1_bits_126 ?_
          rw [fp_cv hfx.1 gf_c0.1]
          refine lv_if_ge (tgt := 136) hx hb dX1_bits_127 (by decide) (fun c53 => ?_) (fun c53 => ?_)
          · rw [fcv_ge] at c53
            exact absurd c53 (by rw [hv2, fv_c0]; omega)
          · rw [fcv_ge] at c53
            refine lv_ldc2 hx hb hown (hts (.constantLong RX1 27 (-9223372036854775808)) (by decide +kernel)) dX1_bits_130 ?_
            refine lv_goto (tgt := 137) hx hb dX1_bits_133 (by decide) ?_
            refine lv_lload hx hb dX1_bits_137 (lv_at hl 1 rfl) ?_
            refine lv_bipush (v := 52) hx hb dX1_bits_139 (by decide) ?_
            refine lv_lshl (v := (lN (i + 1)) <<< (Int32.toInt64 52 &&& 63)) hx hb dX1_bits_141 rfl ?_
            refine lv_ladd hx hb dX1_bits_142 ?_
            refine lv_lload hx hb dX1_bits_143 (lv_at hl 0 rfl) ?_
            refine lv_ladd hx hb dX1_bits_145 ?_
            have hq : (((-9223372036854775808)) + ((lN (i + 1)) <<< (Int32.toInt64 52 &&& 63))) + ((FP.d2l v52) - 4503599627370496) = x.toInt64 := by
              rw [lN_shl52, fv_d2l (n := cc) g51.1 g51.2 (by omega), U_lN, hn2]
              rw [show (4503599627370496 : Int64) = lN (2 ^ 52) from rfl, lN_sub hc1]
              rw [show (-9223372036854775808 : Int64) = lN (2 ^ 63) from by decide +kernel]
              rw [lN_add, lN_add]
            exact W.lret (v := (((-9223372036854775808)) + ((lN (i + 1)) <<< (Int32.toInt64 52 &&& 63))) + ((FP.d2l v52) - 4503599627370496)) hx hb hr (fun t ht hW => ⟨⟨(((-9223372036854775808)) + ((lN (i + 1)) <<< (Int32.toInt64 52 &&& 63))) + ((FP.d2l v52) - 4503599627370496), (), rfl, hq, trivial⟩, hS.F ht⟩) hS.2.2 dX1_bits_146
      · rw [fcv_eq] at c1
        exact absurd c1 (by rw [hv2, fv_c0]; omega)
end
section
/-! THE CLASS'S ROOT: roundedRoot, rootOfPart, squareRoot -/
theorem rr_z {R M n : Nat} (h1 : R * R ≤ M) (h2 : M < (R + 1) * (R + 1)) (hR : R < 2 ^ 53) (hn : n ≤ 16) : -2 ^ 63 ≤ (M : Int) - (((R + n) * (R + n) : Nat) : Int) ∧ (M : Int) - (((R + n) * (R + n) : Nat) : Int) < 2 ^ 63 ∧ (1 ≤ n → (M : Int) - (((R + n) * (R + n) : Nat) : Int) < 0) := by
  have e1 : (R + n) * (R + n) = R * R + 2 * (R * n) + n * n := by simp only [Nat.add_mul, Nat.mul_add, Nat.mul_comm n R]; omega
  have e2 : (R + 1) * (R + 1) = R * R + 2 * R + 1 := by simp only [Nat.add_mul, Nat.mul_add, Nat.mul_one, Nat.one_mul]; omega
  have e3 : R * n ≤ R * 16 := Nat.mul_le_mul_left _ hn
  have e4 : n * n ≤ 16 * 16 := Nat.mul_le_mul hn hn
  have e5 : 1 ≤ n → R * 1 ≤ R * n ∧ 1 * 1 ≤ n * n := fun h => ⟨Nat.mul_le_mul_left _ h, Nat.mul_le_mul h h⟩
  rw [e1]
  rw [e2] at h2
  generalize R * n = a at e3 e5 ⊢
  generalize n * n = b at e4 e5 ⊢
  generalize R * R = r at h1 h2 ⊢
  refine ⟨by omega, by omega, fun h => ?_⟩
  have := e5 h
  omega
theorem iL_ge {z : Int} (h1 : -2 ^ 63 ≤ z) (h2 : z < 2 ^ 63) : (0 : Int64) ≤ Int64.ofInt z ↔ 0 ≤ z := by
  rw [Int64.le_iff_toInt_le, Int64.toInt_ofInt_of_le h1 h2]
  exact Iff.rfl
theorem iL_le {z : Int} {n : Nat} (h1 : -2 ^ 63 ≤ z) (h2 : z < 2 ^ 63) (hn : n < 2 ^ 62) : Int64.ofInt z ≤ lN n ↔ z ≤ (n : Int) := by
  rw [Int64.le_iff_toInt_le, Int64.toInt_ofInt_of_le h1 h2, pk_lT (by omega)]
theorem rr_step (M a : Nat) : Int64.ofInt ((M : Int) - (((a + 1) * (a + 1) : Nat) : Int)) + ((2 * lN a) + 1) = Int64.ofInt ((M : Int) - ((a * a : Nat) : Int)) := by
  rw [show (2 : Int64) * lN a = lN (2 * a) from lN_mul 2 a, lN_1, iL_of, ← Int64.ofInt_add]
  congr 1
  have e1 : (a + 1) * (a + 1) = a * a + 2 * a + 1 := by simp only [Nat.add_mul, Nat.mul_add, Nat.mul_one, Nat.one_mul]; omega
  rw [e1]
  omega
theorem rr_endA {M R : Nat} (h1 : R * R ≤ M) (hR : 1 ≤ R) (z : (M : Int) - ((R * R : Nat) : Int) ≤ (R : Int)) : R * R < M + R ∧ M ≤ R * R + R := by
  generalize R * R = r at h1 z ⊢
  omega
theorem rr_endB {M R : Nat} (h2 : M < (R + 1) * (R + 1)) (z : ¬ (M : Int) - ((R * R : Nat) : Int) ≤ (R : Int)) : (R + 1) * (R + 1) < M + (R + 1) ∧ M ≤ (R + 1) * (R + 1) + (R + 1) := by
  have e2 : (R + 1) * (R + 1) = R * R + 2 * R + 1 := by simp only [Nat.add_mul, Nat.mul_add, Nat.mul_one, Nat.one_mul]; omega
  rw [e2] at h2 ⊢
  generalize R * R = r at h2 z ⊢
  omega
theorem rr_start (N G : Nat) : (lN N <<< (Int32.toInt64 52 &&& 63)) - (lN G * lN G) = Int64.ofInt ((((N * 2 ^ 52 : Nat)) : Int) - ((G * G : Nat) : Int)) := by
  rw [lN_shl52, lN_mul, iL_of, iL_of, ← Int64.ofInt_sub]
set_option maxHeartbeats 4000000 in
set_option maxRecDepth 100000 in
theorem lpX1_rr {p : Program} {l : Launch} {e : Env} {R : Room} {s : State} {m : MethodId} {args : Array Value} {below : List Frame} {meth : Method} {c : Code} {H : Heap} {locs : List Loc} {cells slots : Nat} {Q : State → Prop} (hx : p.tables.exec = Jvm.exec) (hb : c.code = cX1_roundedRoot) (hown : s.vm.findClass RX1 = some m.cls) (hts : ∀ w ∈ wsX1_roundedRoot, w.before args s = true) {N G A : Nat} (h1 : A * A ≤ N * 2 ^ 52) (h2 : N * 2 ^ 52 < (A + 1) * (A + 1)) (hR : A < 2 ^ 53) (k : ∀ (i : Int32) (ls : Array Slot), lv_has ls 9 [(8, .int i), (6, .long (Int64.ofInt (((N * 2 ^ 52 : Nat) : Int) - (((A) * (A) : Nat) : Int)))), (4, .long (lN A)), (2, .long (lN G)), (0, .long (lN N))] → W p l e R s m args below meth c H locs cells slots Q (F0 m 57 ls [])) : ∀ (n k0 : Nat) (ls : Array Slot), k0 + n < 16 → lv_has ls 9 [(8, .int (nI k0)), (6, .long (Int64.ofInt (((N * 2 ^ 52 : Nat) : Int) - (((A + n) * (A + n) : Nat) : Int)))), (4, .long (lN (A + n))), (2, .long (lN G)), (0, .long (lN N))] → W p l e R s m args below meth c H locs cells slots Q (F0 m 18 ls []) := by
  intro n
  induction n with
  | zero =>
    intro k0 ls hk hl
    obtain ⟨z1, z2, -⟩ := rr_z (n := 0) h1 h2 hR (by omega)
    refine lv_iload hx hb dX1_roundedRoot_18 (lv_at hl 0 rfl) ?_
    refine lv_bipush (v := 16) hx hb dX1_roundedRoot_20 (by decide) ?_
    refine lv_icmp_ge (tgt := 57) hx hb dX1_roundedRoot_22 (by decide) (fun c1 => ?_) (fun c1 => ?_)
    · have i2 := Int32.not_lt.mpr c1
      exact absurd c1 (fun h => absurd ((nI_leI (a := 16) (by omega) (by omega)).mp h) (by omega))
    · have i3 := Int32.not_le.mp c1
      refine lv_lload hx hb dX1_roundedRoot_25 (lv_at hl 1 rfl) ?_
      refine lv_lconst (v := 0) hx hb dX1_roundedRoot_27 (by decide) ?_
      refine W.lcmp hx hb dX1_roundedRoot_28 ?_
      refine lv_if_ge (tgt := 57) hx hb dX1_roundedRoot_29 (by decide) (fun c4 => ?_) (fun c4 => ?_)
      · rw [lg_cmp_ge] at c4
        exact k _ ls (lv_sub hl [0, 1, 2, 3, 4] rfl)
      · rw [lg_cmp_ge] at c4
        exact absurd ((iL_ge z1 z2).mpr (by show (0 : Int) ≤ ((N * 2 ^ 52 : Nat) : Int) - ((A * A : Nat) : Int); omega)) c4
  | succ n ih =>
    intro k0 ls hk hl
    obtain ⟨z1, z2, z3⟩ := rr_z (n := n + 1) h1 h2 hR (by omega)
    refine lv_iload hx hb dX1_roundedRoot_18 (lv_at hl 0 rfl) ?_
    refine lv_bipush (v := 16) hx hb dX1_roundedRoot_20 (by decide) ?_
    refine lv_icmp_ge (tgt := 57) hx hb dX1_roundedRoot_22 (by decide) (fun c1 => ?_) (fun c1 => ?_)
    · have i2 := Int32.not_lt.mpr c1
      exact absurd c1 (fun h => absurd ((nI_leI (a := 16) (by omega) (by omega)).mp h) (by omega))
    · have i3 := Int32.not_le.mp c1
      refine lv_lload hx hb dX1_roundedRoot_25 (lv_at hl 1 rfl) ?_
      refine lv_lconst (v := 0) hx hb dX1_roundedRoot_27 (by decide) ?_
      refine W.lcmp hx hb dX1_roundedRoot_28 ?_
      refine lv_if_ge (tgt := 57) hx hb dX1_roundedRoot_29 (by decide) (fun c4 => ?_) (fun c4 => ?_)
      · rw [lg_cmp_ge] at c4
        exact absurd ((iL_ge z1 z2).mp c4) (Int.not_le.mpr (z3 (by omega)))
      · rw [lg_cmp_ge] at c4
        refine lv_lload hx hb dX1_roundedRoot_32 (lv_at hl 2 rfl) ?_
        refine lv_lconst (v := 1) hx hb dX1_roundedRoot_34 (by decide) ?_
        refine lv_lsub hx hb dX1_roundedRoot_35 ?_
        refine lv_lstore (lv' := [(4, .long ((lN (A + (n + 1))) - 1)), (8, .int (nI k0)), (6, .long (Int64.ofInt (((N * 2 ^ 52 : Nat) : Int) - (((A + (n + 1)) * (A + (n + 1)) : Nat) : Int)))), (2, .long (lN G)), (0, .long (lN N))]) hx hb dX1_roundedRoot_36 hl (by decide) rfl (fun ls hl => ?_)
        refine lv_lload hx hb dX1_roundedRoot_38 (lv_at hl 2 rfl) ?_
        refine lv_ldc2 hx hb hown (hts (.constantLong RX1 25 (2)) (by decide +kernel)) dX1_roundedRoot_40 ?_
        refine lv_lload hx hb dX1_roundedRoot_43 (lv_at hl 0 rfl) ?_
        refine lv_lmul hx hb dX1_roundedRoot_45 ?_
        refine lv_lconst (v := 1) hx hb dX1_roundedRoot_46 (by decide) ?_
        refine lv_ladd hx hb dX1_roundedRoot_47 ?_
        refine lv_ladd hx hb dX1_roundedRoot_48 ?_
        refine lv_lstore (lv' := [(6, .long ((Int64.ofInt (((N * 2 ^ 52 : Nat) : Int) - (((A + (n + 1)) * (A + (n + 1)) : Nat) : Int))) + ((2 * ((lN (A + (n + 1))) - 1)) + 1))), (4, .long ((lN (A + (n + 1))) - 1)), (8, .int (nI k0)), (2, .long (lN G)), (0, .long (lN N))]) hx hb dX1_roundedRoot_49 hl (by decide) rfl (fun ls hl => ?_)
        refine lv_iinc (v := (nI k0) + 1) (lv' := [(8, .int ((nI k0) + 1)), (6, .long ((Int64.ofInt (((N * 2 ^ 52 : Nat) : Int) - (((A + (n + 1)) * (A + (n + 1)) : Nat) : Int))) + ((2 * ((lN (A + (n + 1))) - 1)) + 1))), (4, .long ((lN (A + (n + 1))) - 1)), (2, .long (lN G)), (0, .long (lN N))]) hx hb dX1_roundedRoot_51 hl (k := 2) rfl rfl (by decide) rfl (fun ls hl => ?_)
        refine lv_goto (tgt := 18) hx hb dX1_roundedRoot_54 (by decide) ?_
        have h9 : lv_has ls 9 [(8, .int (nI (k0 + 1))), (6, .long (Int64.ofInt (((N * 2 ^ 52 : Nat) : Int) - (((A + n) * (A + n) : Nat) : Int)))), (4, .long (lN (A + n))), (2, .long (lN G)), (0, .long (lN N))] := by
          have h8 := (lv_sub hl [0, 1, 2, 3, 4] rfl)
          rw [nI_1, show lN (A + (n + 1)) - 1 = lN (A + n) from lN_sub (a := A + n + 1) (b := 1) (by omega)] at h8
          rw [show (Int64.ofInt (((N * 2 ^ 52 : Nat) : Int) - (((A + (n + 1)) * (A + (n + 1)) : Nat) : Int))) + ((2 * (lN (A + n))) + 1) = Int64.ofInt (((N * 2 ^ 52 : Nat) : Int) - (((A + n) * (A + n) : Nat) : Int)) from rr_step (N * 2 ^ 52) (A + n)] at h8
          exact h8
        exact ih (k0 + 1) ls (by omega) h9
set_option maxHeartbeats 4000000 in
set_option maxRecDepth 100000 in
theorem mX1_roundedRoot (l : Launch) (N G R : Nat)  (hN : N < 2 ^ 54) (h1 : R * R ≤ N * 2 ^ 52) (h2 : N * 2 ^ 52 < (R + 1) * (R + 1)) (hRp : 1 ≤ R) (hR : R < 2 ^ 53) (hG1 : R ≤ G) (hG2 : G ≤ R + 10) : Met l yX1_roundedRoot wsX1_roundedRoot ({ frames := 0, cells := 0, slots := 0, locals := 0 }) (va_Pc [.long (lN N), .long (lN G)] (fun _ => True)) (va_Ql (fun (r : Int64) (u : Unit) => ∃ Q : Nat, r = lN Q ∧ Q * Q < N * 2 ^ 52 + Q ∧ N * 2 ^ 52 ≤ Q * Q + Q) (fun _ _ => True) nA) 0 0 nA := by
  refine Met.ofW (cc := cX1_roundedRoot) (maxL := 9) (ret := (some .long)) (by decide) rfl ?_
  intro p e s m args below meth c s₁ B hml hv
  obtain ⟨rfl, -⟩ := hv
  have hx := B.exec
  have hb := B.bytes
  have hr := B.returns
  have hts := atoms_spec (ws := wsX1_roundedRoot) B.pre
  have hown : s.vm.findClass RX1 = some m.cls := findClass_of_methodNamed B.named
  have hlocks := B.notSynchronized
  have hS : va_S nA s.heap s.heap [] := va_S.rf
  have hl := lv_entry ([.long (lN N), .long (lN G)]) (n := 9) (Nat.le_of_ble_eq_true rfl)
  rw [lg_entry_eq]
  generalize (lg_sl ([.long (lN N), .long (lN G)]) ++ List.replicate (9 - (lg_sl ([.long (lN N), .long (lN G)])).length) Slot.unset).toArray = ls at hl ⊢
  have hl : lv_has ls 9 [(0, .long (lN N)), (2, .long (lN G))] := hl
  skip
  refine lv_lload_n hx hb dX1_roundedRoot_0 rfl (lv_at hl 1 rfl) ?_
  refine lv_lstore (lv' := [(4, .long (lN G)), (0, .long (lN N)), (2, .long (lN G))]) hx hb dX1_roundedRoot_1 hl (by decide) rfl (fun ls hl => ?_)
  refine lv_lload_n hx hb dX1_roundedRoot_3 rfl (lv_at hl 1 rfl) ?_
  refine lv_bipush (v := 52) hx hb dX1_roundedRoot_4 (by decide) ?_
  refine lv_lshl (v := (lN N) <<< (Int32.toInt64 52 &&& 63)) hx hb dX1_roundedRoot_6 rfl ?_
  refine lv_lload hx hb dX1_roundedRoot_7 (lv_at hl 0 rfl) ?_
  refine lv_lload hx hb dX1_roundedRoot_9 (lv_at hl 0 rfl) ?_
  refine lv_lmul hx hb dX1_roundedRoot_11 ?_
  refine lv_lsub hx hb dX1_roundedRoot_12 ?_
  refine lv_lstore (lv' := [(6, .long (((lN N) <<< (Int32.toInt64 52 &&& 63)) - ((lN G) * (lN G)))), (4, .long (lN G)), (0, .long (lN N)), (2, .long (lN G))]) hx hb dX1_roundedRoot_13 hl (by decide) rfl (fun ls hl => ?_)
  refine lv_iconst (v := 0) hx hb dX1_roundedRoot_15 (by decide) ?_
  refine lv_istore (lv' := [(8, .int 0), (6, .long (((lN N) <<< (Int32.toInt64 52 &&& 63)) - ((lN G) * (lN G)))), (4, .long (lN G)), (0, .long (lN N)), (2, .long (lN G))]) hx hb dX1_roundedRoot_16 hl (by decide) rfl (fun ls hl => ?_)
  obtain ⟨n, rfl⟩ : ∃ n, G = R + n := ⟨G - R, by omega⟩
  have h18 : lv_has ls 9 [(8, .int (nI 0)), (6, .long (Int64.ofInt (((N * 2 ^ 52 : Nat) : Int) - (((R + n) * (R + n) : Nat) : Int)))), (4, .long (lN (R + n))), (2, .long (lN (R + n))), (0, .long (lN N))] := by have h8 := (lv_sub hl [0, 1, 2, 4, 3] rfl); rw [rr_start] at h8; exact h8
  refine lpX1_rr hx hb hown hts h1 h2 hR (fun i9 ls hl => ?_) n 0 ls (by omega) h18
  obtain ⟨z1, z2, -⟩ := rr_z (n := 0) h1 h2 hR (by omega)
  refine lv_lload hx hb dX1_roundedRoot_57 (lv_at hl 1 rfl) ?_
  refine lv_lload hx hb dX1_roundedRoot_59 (lv_at hl 2 rfl) ?_
  refine W.lcmp hx hb dX1_roundedRoot_61 ?_
  refine lv_if_le (tgt := 72) hx hb dX1_roundedRoot_62 (by decide) (fun c1 => ?_) (fun c1 => ?_)
  · rw [lg_cmp_le] at c1
    refine lv_lload hx hb dX1_roundedRoot_72 (lv_at hl 2 rfl) ?_
    have hcmp := c1
    have hq : ∃ Q : Nat, lN R = lN Q ∧ Q * Q < N * 2 ^ 52 + Q ∧ N * 2 ^ 52 ≤ Q * Q + Q := ⟨R, rfl, rr_endA h1 hRp ((iL_le z1 z2 (by omega)).mp hcmp)⟩
    exact W.lret (v := lN R) hx hb hr (fun t ht hW => ⟨⟨lN R, (), rfl, hq, trivial⟩, hS.F ht⟩) hS.2.2 dX1_roundedRoot_74
  · rw [lg_cmp_le] at c1
    refine lv_lload hx hb dX1_roundedRoot_65 (lv_at hl 2 rfl) ?_
    refine lv_lconst (v := 1) hx hb dX1_roundedRoot_67 (by decide) ?_
    refine lv_ladd hx hb dX1_roundedRoot_68 ?_
    refine lv_goto (tgt := 74) hx hb dX1_roundedRoot_69 (by decide) ?_
    have hcmp := c1
    have hq : ∃ Q : Nat, (lN R) + 1 = lN Q ∧ Q * Q < N * 2 ^ 52 + Q ∧ N * 2 ^ 52 ≤ Q * Q + Q := ⟨R + 1, lN_1 R, rr_endB h2 (mt (iL_le z1 z2 (by omega)).mpr hcmp)⟩
    exact W.lret (v := (lN R) + 1) hx hb hr (fun t ht hW => ⟨⟨(lN R) + 1, (), rfl, hq, trivial⟩, hS.F ht⟩) hS.2.2 dX1_roundedRoot_74
set_option maxHeartbeats 4000000 in
set_option maxRecDepth 100000 in
theorem mX1_rootOfPart (l : Launch) (x : UInt64) (N : Nat)  (hx1 : dv x N 1022) (hN1 : 2 ^ 52 ≤ N) (hN2 : N < 2 ^ 54) : Met l yX1_rootOfPart wsX1_rootOfPart ({ frames := 1, cells := 0, slots := 0, locals := 28 }) (va_Pc [.double x] (fun _ => True)) (va_Qd (fun (r : UInt64) (u : Unit) => ∃ R : Nat, R * R < N * 2 ^ 52 + R ∧ N * 2 ^ 52 ≤ R * R + R ∧ dv r R 1022) (fun _ _ => True) nA) 0 0 nA := by
  refine Met.ofW (cc := cX1_rootOfPart) (maxL := 6) (ret := (some .double)) (by decide) rfl ?_
  intro p e s m args below meth c s₁ B hml hv
  obtain ⟨rfl, -⟩ := hv
  have hx := B.exec
  have hb := B.bytes
  have hr := B.returns
  have hts := atoms_spec (ws := wsX1_rootOfPart) B.pre
  have hown : s.vm.findClass RX1 = some m.cls := findClass_of_methodNamed B.named
  have hlocks := B.notSynchronized
  have hS : va_S nA s.heap s.heap [] := va_S.rf
  obtain ⟨s0, G0, hd0, ha0, hb0, hR0⟩ := nw_g0 hx1 hN1 hN2
  obtain ⟨R, hR1, hR2⟩ : ∃ R : Nat, R * R ≤ N * 2 ^ 52 ∧ N * 2 ^ 52 < (R + 1) * (R + 1) := ⟨_, FP.Core.sqrtFloor_spec (N * 2 ^ 52)⟩
  have hee : (R + 1) * (R + 1) = R * R + 2 * R + 1 := by (simp only [Nat.add_mul, Nat.mul_add, Nat.mul_one, Nat.one_mul]; omega)
  have hR2' : N * 2 ^ 52 ≤ R * R + 2 * R := by omega
  have hR3 : 2 ^ 52 ≤ R := by
    refine Nat.le_of_not_lt fun hlt => ?_
    have := Nat.mul_le_mul (show R + 1 ≤ 2 ^ 52 by omega) (show R + 1 ≤ 2 ^ 52 by omega)
    omega
  have hR4 : R + 1 ≤ 2 ^ 53 := by
    refine Nat.le_of_not_lt fun hlt => ?_
    have := Nat.mul_le_mul (show 2 ^ 53 ≤ R by omega) (show 2 ^ 53 ≤ R by omega)
    omega
  have hl := lv_entry ([.double x]) (n := 6) (Nat.le_of_ble_eq_true rfl)
  rw [lg_entry_eq]
  generalize (lg_sl ([.double x]) ++ List.replicate (6 - (lg_sl ([.double x])).length) Slot.unset).toArray = ls at hl ⊢
  have hl : lv_has ls 6 [(0, .double x)] := hl
  skip
  refine lv_dload_n hx hb dX1_rootOfPart_0 rfl (lv_at hl 0 rfl) ?_
  refine lv_ldc2d hx hb hown (hts (.constantDouble RX1 11 (4611686018427387904)) (by decide +kernel)) dX1_rootOfPart_1 ?_
  refine lv_dadd hx hb dX1_rootOfPart_4 (fp_n64 s0) ?_
  refine lv_ldc2d hx hb hown (hts (.constantDouble RX1 17 (4613937818241073152)) (by decide +kernel)) dX1_rootOfPart_5 ?_
  refine lv_ddiv hx hb dX1_rootOfPart_8 (fp_n64 hd0.1) ?_
  refine lv_topd (fun gs0 egs0 => ?_)
  rw [← egs0] at hd0
  refine lv_dstore_n (lv' := [(2, .double gs0), (0, .double x)]) hx hb dX1_rootOfPart_9 rfl hl (by decide) rfl (fun ls hl => ?_)
  refine lv_iconst (v := 0) hx hb dX1_rootOfPart_10 (by decide) ?_
  refine lv_istore (lv' := [(4, .int 0), (2, .double gs0), (0, .double x)]) hx hb dX1_rootOfPart_11 hl (by decide) rfl (fun ls hl => ?_)
  refine lv_iload hx hb dX1_rootOfPart_13 (lv_at hl 0 rfl) ?_
  refine lv_iconst (v := 4) hx hb dX1_rootOfPart_15 (by decide) ?_
  refine lv_icmp_ge (tgt := 35) hx hb dX1_rootOfPart_16 (by decide) (fun c6 => absurd c6 (by decide)) (fun _ => ?_)
  obtain ⟨y1, s1, G1, hd1, ha1, hb1, hc1⟩ := nw_it1 hx1 hN1 hN2 hR1 hR2' (by omega) hd0 ha0 hb0 (hR0 R hR1 hR2' hR3 hR4).1 (hR0 R hR1 hR2' hR3 hR4).2
  refine lv_dload_n hx hb dX1_rootOfPart_19 rfl (lv_at hl 1 rfl) ?_
  refine lv_dload_n hx hb dX1_rootOfPart_20 rfl (lv_at hl 2 rfl) ?_
  refine lv_dload_n hx hb dX1_rootOfPart_21 rfl (lv_at hl 1 rfl) ?_
  refine lv_ddiv hx hb dX1_rootOfPart_22 (fp_n64 y1) ?_
  refine lv_dadd hx hb dX1_rootOfPart_23 (fp_n64 s1) ?_
  refine lv_ldc2d hx hb hown (hts (.constantDouble RX1 11 (4611686018427387904)) (by decide +kernel)) dX1_rootOfPart_24 ?_
  refine lv_ddiv hx hb dX1_rootOfPart_27 (fp_n64 hd1.1) ?_
  refine lv_topd (fun gs1 egs1 => ?_)
  rw [← egs1] at hd1
  refine lv_dstore_n (lv' := [(2, .double gs1), (4, .int 0), (0, .double x)]) hx hb dX1_rootOfPart_28 rfl hl (by decide) rfl (fun ls hl => ?_)
  refine lv_iinc (v := 1) (lv' := [(4, .int 1), (2, .double gs1), (0, .double x)]) hx hb dX1_rootOfPart_29 hl (k := 1) rfl (by decide) (by decide) rfl (fun ls hl => ?_)
  refine lv_goto (tgt := 13) hx hb dX1_rootOfPart_32 (by decide) ?_
  refine lv_iload hx hb dX1_rootOfPart_13 (lv_at hl 0 rfl) ?_
  refine lv_iconst (v := 4) hx hb dX1_rootOfPart_15 (by decide) ?_
  refine lv_icmp_ge (tgt := 35) hx hb dX1_rootOfPart_16 (by decide) (fun c14 => absurd c14 (by decide)) (fun _ => ?_)
  obtain ⟨y2, s2, G2, hd2, ha2, hb2, hc2⟩ := nw_it (2 ^ 45 + 4) (2 ^ 37 + 1) hx1 hN1 hN2 hR1 hR2' hR4 (by decide) (by decide) (by decide) hd1 ha1 hb1 hc1
  refine lv_dload_n hx hb dX1_rootOfPart_19 rfl (lv_at hl 1 rfl) ?_
  refine lv_dload_n hx hb dX1_rootOfPart_20 rfl (lv_at hl 2 rfl) ?_
  refine lv_dload_n hx hb dX1_rootOfPart_21 rfl (lv_at hl 1 rfl) ?_
  refine lv_ddiv hx hb dX1_rootOfPart_22 (fp_n64 y2) ?_
  refine lv_dadd hx hb dX1_rootOfPart_23 (fp_n64 s2) ?_
  refine lv_ldc2d hx hb hown (hts (.constantDouble RX1 11 (4611686018427387904)) (by decide +kernel)) dX1_rootOfPart_24 ?_
  refine lv_ddiv hx hb dX1_rootOfPart_27 (fp_n64 hd2.1) ?_
  refine lv_topd (fun gs2 egs2 => ?_)
  rw [← egs2] at hd2
  refine lv_dstore_n (lv' := [(2, .double gs2), (4, .int 1), (0, .double x)]) hx hb dX1_rootOfPart_28 rfl hl (by decide) rfl (fun ls hl => ?_)
  refine lv_iinc (v := 2) (lv' := [(4, .int 2), (2, .double gs2), (0, .double x)]) hx hb dX1_rootOfPart_29 hl (k := 1) rfl (by decide) (by decide) rfl (fun ls hl => ?_)
  refine lv_goto (tgt := 13) hx hb dX1_rootOfPart_32 (by decide) ?_
  refine lv_iload hx hb dX1_rootOfPart_13 (lv_at hl 0 rfl) ?_
  refine lv_iconst (v := 4) hx hb dX1_rootOfPart_15 (by decide) ?_
  refine lv_icmp_ge (tgt := 35) hx hb dX1_rootOfPart_16 (by decide) (fun c22 => absurd c22 (by decide)) (fun _ => ?_)
  obtain ⟨y3, s3, G3, hd3, ha3, hb3, hc3⟩ := nw_it (2 ^ 37 + 5) (2 ^ 21 + 1) hx1 hN1 hN2 hR1 hR2' hR4 (by decide) (by decide) (by decide) hd2 ha2 hb2 (Nat.le_succ_of_le hc2)
  refine lv_dload_n hx hb dX1_rootOfPart_19 rfl (lv_at hl 1 rfl) ?_
  refine lv_dload_n hx hb dX1_rootOfPart_20 rfl (lv_at hl 2 rfl) ?_
  refine lv_dload_n hx hb dX1_rootOfPart_21 rfl (lv_at hl 1 rfl) ?_
  refine lv_ddiv hx hb dX1_rootOfPart_22 (fp_n64 y3) ?_
  refine lv_dadd hx hb dX1_rootOfPart_23 (fp_n64 s3) ?_
  refine lv_ldc2d hx hb hown (hts (.constantDouble RX1 11 (4611686018427387904)) (by decide +kernel)) dX1_rootOfPart_24 ?_
  refine lv_ddiv hx hb dX1_rootOfPart_27 (fp_n64 hd3.1) ?_
  refine lv_topd (fun gs3 egs3 => ?_)
  rw [← egs3] at hd3
  refine lv_dstore_n (lv' := [(2, .double gs3), (4, .int 2), (0, .double x)]) hx hb dX1_rootOfPart_28 rfl hl (by decide) rfl (fun ls hl => ?_)
  refine lv_iinc (v := 3) (lv' := [(4, .int 3), (2, .double gs3), (0, .double x)]) hx hb dX1_rootOfPart_29 hl (k := 1) rfl (by decide) (by decide) rfl (fun ls hl => ?_)
  refine lv_goto (tgt := 13) hx hb dX1_rootOfPart_32 (by decide) ?_
  refine lv_iload hx hb dX1_rootOfPart_13 (lv_at hl 0 rfl) ?_
  refine lv_iconst (v := 4) hx hb dX1_rootOfPart_15 (by decide) ?_
  refine lv_icmp_ge (tgt := 35) hx hb dX1_rootOfPart_16 (by decide) (fun c30 => absurd c30 (by decide)) (fun _ => ?_)
  obtain ⟨y4, s4, G4, hg4, ha4, hb4, hc4⟩ := nw_it (2 ^ 21 + 5) (1) hx1 hN1 hN2 hR1 hR2' hR4 (by decide) (by decide) (by decide) hd3 ha3 hb3 (Nat.le_succ_of_le hc3)
  refine lv_dload_n hx hb dX1_rootOfPart_19 rfl (lv_at hl 1 rfl) ?_
  refine lv_dload_n hx hb dX1_rootOfPart_20 rfl (lv_at hl 2 rfl) ?_
  refine lv_dload_n hx hb dX1_rootOfPart_21 rfl (lv_at hl 1 rfl) ?_
  refine lv_ddiv hx hb dX1_rootOfPart_22 (fp_n64 y4) ?_
  refine lv_dadd hx hb dX1_rootOfPart_23 (fp_n64 s4) ?_
  refine lv_ldc2d hx hb hown (hts (.constantDouble RX1 11 (4611686018427387904)) (by decide +kernel)) dX1_rootOfPart_24 ?_
  refine lv_ddiv hx hb dX1_rootOfPart_27 (fp_n64 hg4.1) ?_
  refine lv_topd (fun gs4 egs4 => ?_)
  rw [← egs4] at hg4
  refine lv_dstore_n (lv' := [(2, .double gs4), (4, .int 3), (0, .double x)]) hx hb dX1_rootOfPart_28 rfl hl (by decide) rfl (fun ls hl => ?_)
  refine lv_iinc (v := 4) (lv' := [(4, .int 4), (2, .double gs4), (0, .double x)]) hx hb dX1_rootOfPart_29 hl (k := 1) rfl (by decide) (by decide) rfl (fun ls hl => ?_)
  refine lv_goto (tgt := 13) hx hb dX1_rootOfPart_32 (by decide) ?_
  refine lv_iload hx hb dX1_rootOfPart_13 (lv_at hl 0 rfl) ?_
  refine lv_iconst (v := 4) hx hb dX1_rootOfPart_15 (by decide) ?_
  refine lv_icmp_ge (tgt := 35) hx hb dX1_rootOfPart_16 (by decide) (fun _ => ?_) (fun c38 => absurd c38 (by decide))
  refine lv_dload_n hx hb dX1_rootOfPart_35 rfl (lv_at hl 2 rfl) ?_
  refine lv_ldc2d hx hb hown (hts (.constantDouble RX1 19 (4841369599423283200)) (by decide +kernel)) dX1_rootOfPart_36 ?_
  have g39 := nw_unit hx1 (by omega)
  refine lv_dmul hx hb dX1_rootOfPart_39 (fp_n64 g39.1) ?_
  refine lv_topd (fun v40 ev40 => ?_)
  rw [← ev40] at g39
  refine lv_d2l hx hb dX1_rootOfPart_40 ?_
  rw [fv_d2l g39.1 g39.2 (by omega)]
  refine lv_dload_n hx hb dX1_rootOfPart_41 rfl (lv_at hl 1 rfl) ?_
  refine lv_ldc2d hx hb hown (hts (.constantDouble RX1 19 (4841369599423283200)) (by decide +kernel)) dX1_rootOfPart_42 ?_
  have g41 := nw_unit hg4 (by omega)
  refine lv_dmul hx hb dX1_rootOfPart_45 (fp_n64 g41.1) ?_
  refine lv_topd (fun v42 ev42 => ?_)
  rw [← ev42] at g41
  refine lv_d2l hx hb dX1_rootOfPart_46 ?_
  rw [fv_d2l g41.1 g41.2 (by omega)]
  have hd4 : R ≤ G4 := hc4
  refine va_calll (va_runS (As := [.long (lN N), .long (lN G4)]) (rest := []) ⟨hx, hb, hml, hown, hts⟩ (mX1_roundedRoot l N G4 R hN2 hR1 hR2 (by omega) (by omega) hd4 (by omega)) (va_cwS 2 hts gX1_rootOfPart_X1_roundedRoot rfl rfl rfl (by decide +kernel) ⟨Nat.le_of_ble_eq_true rfl, Nat.le_of_ble_eq_true rfl⟩) ⟨tB_blind, tB_go⟩ rfl rfl hl.1 rfl (lv_room (Nat.le_of_ble_eq_true rfl)) dX1_rootOfPart_47 ⟨Nat.le_of_ble_eq_true rfl, Nat.le_of_ble_eq_true rfl⟩) hS (fun q _ h => h.elim) (fun q h => h.elim) (fun r43 u44 t H locs ht hvm hp45 hB hz1 hk1 hS => ?_)
  obtain ⟨R9, rfl, hq1, hq2⟩ := hp45
  have hR9 : R9 ≤ 2 ^ 53 := rt_sq_le (by omega) hq1
  have hfin : FP.Core.DFin (FP.l2d (lN R9)) ∧ True := ⟨nw_fin hR9, trivial⟩
  refine lv_lstore (lv' := [(4, .long (lN R9)), (2, .double gs4), (0, .double x)]) hx hb dX1_rootOfPart_50 hl (by decide) rfl (fun ls hl => ?_)
  refine lv_lload hx hb dX1_rootOfPart_52 (lv_at hl 0 rfl) ?_
  refine lv_l2d hx hb dX1_rootOfPart_54 ?_
  refine lv_ldc2d hx hb hown (hts (.constantDouble RX1 19 (4841369599423283200)) (by decide +kernel)) dX1_rootOfPart_55 ?_
  have g46 := nw_back hR9
  refine lv_ddiv hx hb dX1_rootOfPart_58 (fp_n64 g46.1) ?_
  refine lv_topd (fun v47 ev47 => ?_)
  rw [← ev47] at g46
  exact W.dret (v := v47) hx hb hr (fun t ht hW => ⟨⟨v47, (), rfl, ⟨R9, hq1, hq2, g46⟩, trivial⟩, hS.F ht⟩) hS.2.2 dX1_rootOfPart_59
theorem s1_dn {x : UInt64} {N n : Nat} (hd : dv x N (2 * (511 + (n + 1)))) (hN : N < 2 ^ 54) (hn : n ≤ 510) : dv (FP.ddiv x 4616189618054758400) N (2 * (511 + n)) := by
  refine sc_dn (w := N * 2 ^ (2 * (511 + n))) (k := 2) hd.1 gf_4.1 ?_ fv_4 ?_
  · rw [hd.2, Nat.mul_assoc, ← Nat.pow_add, show 2 * (511 + (n + 1)) = 2 * (511 + n) + 2 by omega]
  · refine Nat.lt_of_lt_of_le (Nat.mul_lt_mul_of_pos_right hN (Nat.two_pow_pos _)) ?_
    rw [← Nat.pow_add]
    exact Nat.pow_le_pow_right (by omega) (by omega)
theorem s1_up {x : UInt64} {N i j : Nat} (hd : dv x N (2 * i)) (hN : N < 2 ^ 54) (hij : j = i + 1) (hj : j ≤ 1000) : dv (FP.dmul x 4616189618054758400) N (2 * j) := by
  have h := sc_up (n := N * 2 ^ (2 * i)) (k := 2) hd.1 gf_4.1 hd.2 fv_4 (by
    rw [Nat.mul_assoc, ← Nat.pow_add]
    refine Nat.lt_of_lt_of_le (Nat.mul_lt_mul_of_pos_right hN (Nat.two_pow_pos _)) ?_
    rw [← Nat.pow_add]
    exact Nat.pow_le_pow_right (by omega) (by omega))
  rw [Nat.mul_assoc, ← Nat.pow_add, show 2 * i + 2 = 2 * j by omega] at h
  exact h
set_option maxHeartbeats 4000000 in
set_option maxRecDepth 100000 in
theorem lpX1_s1 {p : Program} {l : Launch} {e : Env} {R : Room} {s : State} {m : MethodId} {args : Array Value} {below : List Frame} {meth : Method} {c : Code} {H : Heap} {locs : List Loc} {cells slots : Nat} {Q : State → Prop} (hx : p.tables.exec = Jvm.exec) (hb : c.code = cX1_squareRoot) (hown : s.vm.findClass RX1 = some m.cls) (hts : ∀ w ∈ wsX1_squareRoot, w.before args s = true) {x : UInt64} {N e1 : Nat} (hN1 : 2 ^ 52 ≤ N) (hN2 : N < 2 ^ 54) (k : ∀ (part sc : UInt64) (i : Int32) (ls : Array Slot), dv part N 1022 → dv sc 1 e1 → lv_has ls 7 [(6, .int i), (4, .double sc), (2, .double part), (0, .double x)] → W p l e R s m args below meth c H locs cells slots Q (F0 m 52 ls [])) : ∀ (n k0 e0 : Nat) (part sc : UInt64) (ls : Array Slot), dv part N (2 * (511 + n)) → dv sc 1 e0 → k0 + n < 1100 → e0 + n = e1 ∧ e1 < 2000 ∧ n ≤ 511 → lv_has ls 7 [(6, .int (nI k0)), (4, .double sc), (2, .double part), (0, .double x)] → W p l e R s m args below meth c H locs cells slots Q (F0 m 16 ls []) := by
  intro n
  induction n with
  | zero =>
    intro k0 e0 part sc ls hd hs hk he hl
    have hee : e0 = e1 := by omega
    subst hee
    have hd : dv part N 1022 := hd
    refine lv_iload hx hb dX1_squareRoot_16 (lv_at hl 0 rfl) ?_
    refine lv_sipush (v := 1100) hx hb dX1_squareRoot_18 (by decide) ?_
    refine lv_icmp_ge (tgt := 52) hx hb dX1_squareRoot_21 (by decide) (fun c1 => ?_) (fun c1 => ?_)
    · have i2 := Int32.not_lt.mpr c1
      exact absurd c1 (fun h => absurd ((nI_leI (a := 1100) (by omega) (by omega)).mp h) (by omega))
    · have i3 := Int32.not_le.mp c1
      refine lv_dload_n hx hb dX1_squareRoot_24 rfl (lv_at hl 2 rfl) ?_
      refine lv_ldc2d hx hb hown (hts (.constantDouble RX1 9 (4616189618054758400)) (by decide +kernel)) dX1_squareRoot_25 ?_
      refine lv_dcmp hx hb dX1_squareRoot_28 ?_
      rw [fp_cv hd.1 gf_4.1]
      refine lv_if_lt (tgt := 52) hx hb dX1_squareRoot_29 (by decide) (fun c4 => ?_) (fun c4 => ?_)
      · rw [fcv_lt] at c4
        exact k part sc _ ls hd hs (lv_sub hl [0, 1, 2, 3] rfl)
      · rw [fcv_lt] at c4
        exact absurd (dv_ltw hd fv_4 hN2 (by omega)) c4
  | succ n ih =>
    intro k0 e0 part sc ls hd hs hk he hl
    refine lv_iload hx hb dX1_squareRoot_16 (lv_at hl 0 rfl) ?_
    refine lv_sipush (v := 1100) hx hb dX1_squareRoot_18 (by decide) ?_
    refine lv_icmp_ge (tgt := 52) hx hb dX1_squareRoot_21 (by decide) (fun c1 => ?_) (fun c1 => ?_)
    · have i2 := Int32.not_lt.mpr c1
      exact absurd c1 (fun h => absurd ((nI_leI (a := 1100) (by omega) (by omega)).mp h) (by omega))
    · have i3 := Int32.not_le.mp c1
      refine lv_dload_n hx hb dX1_squareRoot_24 rfl (lv_at hl 2 rfl) ?_
      refine lv_ldc2d hx hb hown (hts (.constantDouble RX1 9 (4616189618054758400)) (by decide +kernel)) dX1_squareRoot_25 ?_
      refine lv_dcmp hx hb dX1_squareRoot_28 ?_
      rw [fp_cv hd.1 gf_4.1]
      refine lv_if_lt (tgt := 52) hx hb dX1_squareRoot_29 (by decide) (fun c4 => ?_) (fun c4 => ?_)
      · rw [fcv_lt] at c4
        exact absurd c4 (dv_ge hd fv_4 hN1 (by omega))
      · rw [fcv_lt] at c4
        refine lv_dload_n hx hb dX1_squareRoot_32 rfl (lv_at hl 2 rfl) ?_
        refine lv_ldc2d hx hb hown (hts (.constantDouble RX1 9 (4616189618054758400)) (by decide +kernel)) dX1_squareRoot_33 ?_
        have g5 := s1_dn hd hN2 (by omega)
        refine lv_ddiv hx hb dX1_squareRoot_36 (fp_n64 g5.1) ?_
        refine lv_topd (fun v6 ev6 => ?_)
        rw [← ev6] at g5
        refine lv_dstore_n (lv' := [(2, .double v6), (6, .int (nI k0)), (4, .double sc), (0, .double x)]) hx hb dX1_squareRoot_37 rfl hl (by decide) rfl (fun ls hl => ?_)
        refine lv_dload hx hb dX1_squareRoot_38 (lv_at hl 2 rfl) ?_
        refine lv_ldc2d hx hb hown (hts (.constantDouble RX1 11 (4611686018427387904)) (by decide +kernel)) dX1_squareRoot_40 ?_
        have g7 := sc_mul (j := e0 + 1) hs.1 gf_2.1 (by omega) hs.2 fv_2 (by omega) (by omega)
        refine lv_dmul hx hb dX1_squareRoot_43 (fp_n64 g7.1) ?_
        refine lv_topd (fun v8 ev8 => ?_)
        rw [← ev8] at g7
        refine lv_dstore (lv' := [(4, .double v8), (2, .double v6), (6, .int (nI k0)), (0, .double x)]) hx hb dX1_squareRoot_44 hl (by decide) rfl (fun ls hl => ?_)
        refine lv_iinc (v := (nI k0) + 1) (lv' := [(6, .int ((nI k0) + 1)), (4, .double v8), (2, .double v6), (0, .double x)]) hx hb dX1_squareRoot_46 hl (k := 2) rfl rfl (by decide) rfl (fun ls hl => ?_)
        refine lv_goto (tgt := 16) hx hb dX1_squareRoot_49 (by decide) ?_
        have h9 : lv_has ls 7 [(6, .int (nI (k0 + 1))), (4, .double v8), (2, .double v6), (0, .double x)] := by have h8 := (lv_sub hl [0, 1, 2, 3] rfl); rw [nI_1] at h8; exact h8
        exact ih (k0 + 1) (e0 + 1) _ _ ls g5 g7 (by omega) (by omega) h9
set_option maxHeartbeats 4000000 in
set_option maxRecDepth 100000 in
theorem lpX1_s2 {p : Program} {l : Launch} {e : Env} {R : Room} {s : State} {m : MethodId} {args : Array Value} {below : List Frame} {meth : Method} {c : Code} {H : Heap} {locs : List Loc} {cells slots : Nat} {Q : State → Prop} (hx : p.tables.exec = Jvm.exec) (hb : c.code = cX1_squareRoot) (hown : s.vm.findClass RX1 = some m.cls) (hts : ∀ w ∈ wsX1_squareRoot, w.before args s = true) {x : UInt64} {N e1 : Nat} (hN1 : 2 ^ 52 ≤ N) (hN2 : N < 2 ^ 54) (k : ∀ (part sc : UInt64) (i : Int32) (ls : Array Slot), dv part N 1022 → dv sc 1 e1 → lv_has ls 7 [(6, .int i), (4, .double sc), (2, .double part), (0, .double x)] → W p l e R s m args below meth c H locs cells slots Q (F0 m 89 ls [])) : ∀ (n k0 e0 : Nat) (part sc : UInt64) (ls : Array Slot), dv part N (2 * (511 - n)) → dv sc 1 e0 → k0 + n < 1100 → e0 = e1 + n ∧ e0 < 2000 ∧ n ≤ 511 → lv_has ls 7 [(6, .int (nI k0)), (4, .double sc), (2, .double part), (0, .double x)] → W p l e R s m args below meth c H locs cells slots Q (F0 m 55 ls []) := by
  intro n
  induction n with
  | zero =>
    intro k0 e0 part sc ls hd hs hk he hl
    have hee : e0 = e1 := by omega
    subst hee
    have hd : dv part N 1022 := hd
    refine lv_iload hx hb dX1_squareRoot_55 (lv_at hl 0 rfl) ?_
    refine lv_sipush (v := 1100) hx hb dX1_squareRoot_57 (by decide) ?_
    refine lv_icmp_ge (tgt := 89) hx hb dX1_squareRoot_60 (by decide) (fun c1 => ?_) (fun c1 => ?_)
    · have i2 := Int32.not_lt.mpr c1
      exact absurd c1 (fun h => absurd ((nI_leI (a := 1100) (by omega) (by omega)).mp h) (by omega))
    · have i3 := Int32.not_le.mp c1
      refine lv_dload_n hx hb dX1_squareRoot_63 rfl (lv_at hl 2 rfl) ?_
      refine lv_dconst1 hx hb dX1_squareRoot_64 ?_
      refine lv_dcmp hx hb dX1_squareRoot_65 ?_
      rw [fp_cv hd.1 gf_c1.1]
      refine lv_if_ge (tgt := 89) hx hb dX1_squareRoot_66 (by decide) (fun c4 => ?_) (fun c4 => ?_)
      · rw [fcv_ge] at c4
        exact k part sc _ ls hd hs (lv_sub hl [0, 1, 2, 3] rfl)
      · rw [fcv_ge] at c4
        exact absurd (Int.not_lt.mp (dv_ge hd fv_c1 hN1 (by omega))) c4
  | succ n ih =>
    intro k0 e0 part sc ls hd hs hk he hl
    obtain ⟨e9, rfl⟩ : ∃ e9, e0 = e9 + 1 := ⟨e0 - 1, by omega⟩
    refine lv_iload hx hb dX1_squareRoot_55 (lv_at hl 0 rfl) ?_
    refine lv_sipush (v := 1100) hx hb dX1_squareRoot_57 (by decide) ?_
    refine lv_icmp_ge (tgt := 89) hx hb dX1_squareRoot_60 (by decide) (fun c1 => ?_) (fun c1 => ?_)
    · have i2 := Int32.not_lt.mpr c1
      exact absurd c1 (fun h => absurd ((nI_leI (a := 1100) (by omega) (by omega)).mp h) (by omega))
    · have i3 := Int32.not_le.mp c1
      refine lv_dload_n hx hb dX1_squareRoot_63 rfl (lv_at hl 2 rfl) ?_
      refine lv_dconst1 hx hb dX1_squareRoot_64 ?_
      refine lv_dcmp hx hb dX1_squareRoot_65 ?_
      rw [fp_cv hd.1 gf_c1.1]
      refine lv_if_ge (tgt := 89) hx hb dX1_squareRoot_66 (by decide) (fun c4 => ?_) (fun c4 => ?_)
      · rw [fcv_ge] at c4
        exact absurd (dv_ltw hd fv_c1 hN2 (by omega)) (Int.not_lt.mpr c4)
      · rw [fcv_ge] at c4
        refine lv_dload_n hx hb dX1_squareRoot_69 rfl (lv_at hl 2 rfl) ?_
        refine lv_ldc2d hx hb hown (hts (.constantDouble RX1 9 (4616189618054758400)) (by decide +kernel)) dX1_squareRoot_70 ?_
        have g5 := s1_up (j := 511 - n) hd hN2 (by omega) (by omega)
        refine lv_dmul hx hb dX1_squareRoot_73 (fp_n64 g5.1) ?_
        refine lv_topd (fun v6 ev6 => ?_)
        rw [← ev6] at g5
        refine lv_dstore_n (lv' := [(2, .double v6), (6, .int (nI k0)), (4, .double sc), (0, .double x)]) hx hb dX1_squareRoot_74 rfl hl (by decide) rfl (fun ls hl => ?_)
        refine lv_dload hx hb dX1_squareRoot_75 (lv_at hl 2 rfl) ?_
        refine lv_ldc2d hx hb hown (hts (.constantDouble RX1 11 (4611686018427387904)) (by decide +kernel)) dX1_squareRoot_77 ?_
        have g7 := sc_div (k := 1) (i := e9) hs.1 gf_2.1 (by omega) hs.2 fv_2 (by omega)
        refine lv_ddiv hx hb dX1_squareRoot_80 (fp_n64 g7.1) ?_
        refine lv_topd (fun v8 ev8 => ?_)
        rw [← ev8] at g7
        refine lv_dstore (lv' := [(4, .double v8), (2, .double v6), (6, .int (nI k0)), (0, .double x)]) hx hb dX1_squareRoot_81 hl (by decide) rfl (fun ls hl => ?_)
        refine lv_iinc (v := (nI k0) + 1) (lv' := [(6, .int ((nI k0) + 1)), (4, .double v8), (2, .double v6), (0, .double x)]) hx hb dX1_squareRoot_83 hl (k := 2) rfl rfl (by decide) rfl (fun ls hl => ?_)
        refine lv_goto (tgt := 55) hx hb dX1_squareRoot_86 (by decide) ?_
        have h9 : lv_has ls 7 [(6, .int (nI (k0 + 1))), (4, .double v8), (2, .double v6), (0, .double x)] := by have h8 := (lv_sub hl [0, 1, 2, 3] rfl); rw [nI_1] at h8; exact h8
        exact ih (k0 + 1) e9 _ _ ls g5 g7 (by omega) (by omega) h9
set_option maxHeartbeats 4000000 in
set_option maxRecDepth 100000 in
theorem lpX1_sz {p : Program} {l : Launch} {e : Env} {R : Room} {s : State} {m : MethodId} {args : Array Value} {below : List Frame} {meth : Method} {c : Code} {H : Heap} {locs : List Loc} {cells slots : Nat} {Q : State → Prop} (hx : p.tables.exec = Jvm.exec) (hb : c.code = cX1_squareRoot) (hown : s.vm.findClass RX1 = some m.cls) (hts : ∀ w ∈ wsX1_squareRoot, w.before args s = true) {x : UInt64} {N h : Nat} (hN2 : N < 2 ^ 54) (hh : h ≤ 511) (hd : dv x N (2 * h)) {ls : Array Slot} (hl : lv_has ls 7 [(6, .int (nI 0)), (4, .double FP.dconst1), (2, .double x), (0, .double x)]) (k : ∀ (ls : Array Slot), lv_has ls 7 [(6, .int (nI 0)), (4, .double FP.dconst1), (2, .double x), (0, .double x)] → W p l e R s m args below meth c H locs cells slots Q (F0 m 52 ls [])) : W p l e R s m args below meth c H locs cells slots Q (F0 m 16 ls []) := by
  refine lv_iload hx hb dX1_squareRoot_16 (lv_at hl 0 rfl) ?_
  refine lv_sipush (v := 1100) hx hb dX1_squareRoot_18 (by decide) ?_
  refine lv_icmp_ge (tgt := 52) hx hb dX1_squareRoot_21 (by decide) (fun c1 => ?_) (fun c1 => ?_)
  · have i2 := Int32.not_lt.mpr c1
    exact absurd c1 (by decide)
  · have i3 := Int32.not_le.mp c1
    refine lv_dload_n hx hb dX1_squareRoot_24 rfl (lv_at hl 2 rfl) ?_
    refine lv_ldc2d hx hb hown (hts (.constantDouble RX1 9 (4616189618054758400)) (by decide +kernel)) dX1_squareRoot_25 ?_
    refine lv_dcmp hx hb dX1_squareRoot_28 ?_
    rw [fp_cv hd.1 gf_4.1]
    refine lv_if_lt (tgt := 52) hx hb dX1_squareRoot_29 (by decide) (fun c4 => ?_) (fun c4 => ?_)
    · rw [fcv_lt] at c4
      exact k ls hl
    · rw [fcv_lt] at c4
      exact absurd (dv_ltw hd fv_4 hN2 (by omega)) c4
set_option maxHeartbeats 4000000 in
set_option maxRecDepth 100000 in
theorem lpX1_s {p : Program} {l : Launch} {e : Env} {R : Room} {s : State} {m : MethodId} {args : Array Value} {below : List Frame} {meth : Method} {c : Code} {H : Heap} {locs : List Loc} {cells slots : Nat} {Q : State → Prop} (hx : p.tables.exec = Jvm.exec) (hb : c.code = cX1_squareRoot) (hown : s.vm.findClass RX1 = some m.cls) (hts : ∀ w ∈ wsX1_squareRoot, w.before args s = true) {x : UInt64} {N h : Nat} (hN1 : 2 ^ 52 ≤ N) (hN2 : N < 2 ^ 54) (hh : h ≤ 1022) (hd : dv x N (2 * h)) {ls : Array Slot} (hl : lv_has ls 7 [(6, .int (nI 0)), (4, .double FP.dconst1), (2, .double x), (0, .double x)]) (k : ∀ (part sc : UInt64) (i : Int32) (ls : Array Slot), dv part N 1022 → dv sc 1 (h + 563) → lv_has ls 7 [(6, .int i), (4, .double sc), (2, .double part), (0, .double x)] → W p l e R s m args below meth c H locs cells slots Q (F0 m 89 ls [])) : W p l e R s m args below meth c H locs cells slots Q (F0 m 16 ls []) := by
  have hs : dv FP.dconst1 1 1074 := ⟨gf_c1.1, by rw [fv_c1, Nat.one_mul]⟩
  rcases Nat.le_total 511 h with h5 | h5
  · refine lpX1_s1 hx hb hown hts (e1 := h + 563) hN1 hN2 (fun part sc i9 ls hd9 hs9 hl => ?_) (h - 511) 0 1074 x FP.dconst1 ls (by rw [show 511 + (h - 511) = h by omega]; exact hd) hs (by omega) (by omega) hl
    refine lv_iconst (v := 0) hx hb dX1_squareRoot_52 (by decide) ?_
    refine lv_istore (lv' := [(6, .int 0), (4, .double sc), (2, .double part), (0, .double x)]) hx hb dX1_squareRoot_53 hl (by decide) rfl (fun ls hl => ?_)
    exact lpX1_s2 hx hb hown hts (e1 := h + 563) hN1 hN2 k 0 0 (h + 563) part sc ls hd9 hs9 (by omega) (by omega) (lv_sub hl [0, 1, 2, 3] rfl)
  · refine lpX1_sz hx hb hown hts hN2 h5 hd hl (fun ls hl => ?_)
    refine lv_iconst (v := 0) hx hb dX1_squareRoot_52 (by decide) ?_
    refine lv_istore (lv' := [(6, .int 0), (4, .double FP.dconst1), (2, .double x), (0, .double x)]) hx hb dX1_squareRoot_53 hl (by decide) rfl (fun ls hl => ?_)
    exact lpX1_s2 hx hb hown hts (e1 := h + 563) hN1 hN2 k (511 - h) 0 1074 x FP.dconst1 ls (by rw [show 511 - (511 - h) = h by omega]; exact hd) hs (by omega) (by omega) (lv_sub hl [0, 1, 2, 3] rfl)
set_option maxHeartbeats 4000000 in
set_option maxRecDepth 100000 in
theorem mX1_squareRoot (l : Launch) (x : UInt64)  (hok : fRt x) : Met l yX1_squareRoot wsX1_squareRoot ({ frames := 2, cells := 0, slots := 0, locals := 53 }) (va_Pc [.double x] (fun _ => True)) (va_Qd (fun (r : UInt64) (u : Unit) => r = fsq x ∧ IsRt x r) (fun _ _ => True) nA) 0 0 nA := by
  refine Met.ofW (cc := cX1_squareRoot) (maxL := 7) (ret := (some .double)) (by decide) rfl ?_
  intro p e s m args below meth c s₁ B hml hv
  obtain ⟨rfl, -⟩ := hv
  have hx := B.exec
  have hb := B.bytes
  have hr := B.returns
  have hts := atoms_spec (ws := wsX1_squareRoot) B.pre
  have hown : s.vm.findClass RX1 = some m.cls := findClass_of_methodNamed B.named
  have hlocks := B.notSynchronized
  have hS : va_S nA s.heap s.heap [] := va_S.rf
  have hl := lv_entry ([.double x]) (n := 7) (Nat.le_of_ble_eq_true rfl)
  rw [lg_entry_eq]
  generalize (lg_sl ([.double x]) ++ List.replicate (7 - (lg_sl ([.double x])).length) Slot.unset).toArray = ls at hl ⊢
  have hl : lv_has ls 7 [(0, .double x)] := hl
  skip
  rcases hok with h0 | ⟨hf, h0, -⟩
  · subst h0
    refine lv_dload_n hx hb dX1_squareRoot_0 rfl (lv_at hl 0 rfl) ?_
    refine lv_dconst0 hx hb dX1_squareRoot_1 ?_
    refine lv_dcmp hx hb dX1_squareRoot_2 ?_
    rw [show Op.cmpValue (FP.dcmp 0 FP.dconst0) CmpOp.g = 0 by decide +kernel]
    refine lv_if_gt (tgt := 8) hx hb dX1_squareRoot_3 (by decide) (fun c2 => absurd c2 (by decide)) (fun _ => ?_)
    refine lv_dconst0 hx hb dX1_squareRoot_6 ?_
    have hq : IsRt 0 FP.dconst0 := Or.inl ⟨rfl, rfl⟩
    exact W.dret (v := FP.dconst0) hx hb hr (fun t ht hW => ⟨⟨FP.dconst0, (), rfl, ⟨fsq_eq hq, hq⟩, trivial⟩, hS.F ht⟩) hS.2.2 dX1_squareRoot_7
  · obtain ⟨N, h, hd, hN1, hN2, hh⟩ := rt_norm hf h0
    refine lv_dload_n hx hb dX1_squareRoot_0 rfl (lv_at hl 0 rfl) ?_
    refine lv_dconst0 hx hb dX1_squareRoot_1 ?_
    refine lv_dcmp hx hb dX1_squareRoot_2 ?_
    rw [fp_cv hd.1 gf_c0.1]
    refine lv_if_gt (tgt := 8) hx hb dX1_squareRoot_3 (by decide) (fun c1 => ?_) (fun c1 => ?_)
    · rw [fcv_gt] at c1
      refine lv_dload_n hx hb dX1_squareRoot_8 rfl (lv_at hl 0 rfl) ?_
      refine lv_dstore_n (lv' := [(2, .double x), (0, .double x)]) hx hb dX1_squareRoot_9 rfl hl (by decide) rfl (fun ls hl => ?_)
      refine lv_dconst1 hx hb dX1_squareRoot_10 ?_
      refine lv_dstore (lv' := [(4, .double FP.dconst1), (2, .double x), (0, .double x)]) hx hb dX1_squareRoot_11 hl (by decide) rfl (fun ls hl => ?_)
      refine lv_iconst (v := 0) hx hb dX1_squareRoot_13 (by decide) ?_
      refine lv_istore (lv' := [(6, .int 0), (4, .double FP.dconst1), (2, .double x), (0, .double x)]) hx hb dX1_squareRoot_14 hl (by decide) rfl (fun ls hl => ?_)
      have h16 : lv_has ls 7 [(6, .int (nI 0)), (4, .double FP.dconst1), (2, .double x), (0, .double x)] := (lv_sub hl [0, 1, 2, 3] rfl)
      refine lpX1_s hx hb hown hts hN1 hN2 hh hd h16 (fun part sc i9 ls hd9 hs9 hl => ?_)
      refine lv_dload_n hx hb dX1_squareRoot_89 rfl (lv_at hl 2 rfl) ?_
      refine va_calld (va_runS (As := [.double part]) (rest := []) ⟨hx, hb, hml, hown, hts⟩ (mX1_rootOfPart l part N hd9 hN1 hN2) (va_cwS 1 hts gX1_squareRoot_X1_rootOfPart rfl rfl rfl (by decide +kernel) ⟨Nat.le_of_ble_eq_true rfl, Nat.le_of_ble_eq_true rfl⟩) ⟨tB_blind, tB_go⟩ rfl rfl hl.1 rfl (lv_room (Nat.le_of_ble_eq_true rfl)) dX1_squareRoot_90 ⟨Nat.le_of_ble_eq_true rfl, Nat.le_of_ble_eq_true rfl⟩) hS (fun q _ h => h.elim) (fun q h => h.elim) (fun r2 u3 t H locs ht hvm hp4 hB hz1 hk1 hS => ?_)
      obtain ⟨R, hq1, hq2, hq3⟩ := hp4
      refine lv_dload hx hb dX1_squareRoot_93 (lv_at hl 1 rfl) ?_
      have g5 := sc_mul (j := h + 511) hq3.1 hs9.1 (rt_sq_le (by omega) hq1) hq3.2 (by rw [hs9.2, Nat.one_mul]) (by omega) (by omega)
      refine lv_dmul hx hb dX1_squareRoot_95 (fp_n64 g5.1) ?_
      refine lv_topd (fun v6 ev6 => ?_)
      rw [← ev6] at g5
      have hq : IsRt x v6 := Or.inr ⟨N, h, R, hd, hN1, hN2, hq1, hq2, g5⟩
      exact W.dret (v := v6) hx hb hr (fun t ht hW => ⟨⟨v6, (), rfl, ⟨fsq_eq hq, hq⟩, trivial⟩, hS.F ht⟩) hS.2.2 dX1_squareRoot_96
    · rw [fcv_gt] at c1
      exact absurd (by rw [fv_c0]; exact dv_pos hd hN1) c1
end
section
/-! THE MODEL'S BITS AND ROOT: X7.bitsOf, X7.root -/
set_option maxHeartbeats 4000000 in
set_option maxRecDepth 100000 in
theorem lpX7_ba {p : Program} {l : Launch} {e : Env} {R : Room} {s : State} {m : MethodId} {args : Array Value} {below : List Frame} {meth : Method} {c : Code} {H : Heap} {locs : List Loc} {cells slots : Nat} {Q : State → Prop} (hx : p.tables.exec = Jvm.exec) (hb : c.code = cX7_bitsOf) (hown : s.vm.findClass RX7 = some m.cls) (hts : ∀ w ∈ wsX7_bitsOf, w.before args s = true) {x : UInt64} {mi : Int32} {cc p1 : Nat} (hc1 : 2 ^ 52 ≤ cc) (hc2 : cc < 2 ^ 53) (k : ∀ (part : UInt64) (ls : Array Slot), dv part cc 1074 → lv_has ls 10 [(5, .int (nI p1)), (3, .double part), (2, .int mi), (0, .double x)] → W p l e R s m args below meth c H locs cells slots Q (F0 m 63 ls [])) : ∀ (n p0 : Nat) (part : UInt64) (ls : Array Slot), dv part cc (1074 + n) → p0 + n = p1 ∧ p1 < 2 ^ 20 ∧ n ≤ 964 → lv_has ls 10 [(5, .int (nI p0)), (3, .double part), (2, .int mi), (0, .double x)] → W p l e R s m args below meth c H locs cells slots Q (F0 m 43 ls []) := by
  intro n
  induction n with
  | zero =>
    intro p0 part ls hd he hl
    have hee : p0 = p1 := by omega
    subst hee
    have hd : dv part cc 1074 := hd
    refine lv_dload_n hx hb dX7_bitsOf_43 rfl (lv_at hl 1 rfl) ?_
    refine lv_ldc2d hx hb hown (hts (.constantDouble RX7 1 (4845873199050653696)) (by decide +kernel)) dX7_bitsOf_44 ?_
    refine lv_dcmp hx hb dX7_bitsOf_47 ?_
    rw [fp_cv hd.1 gf_53.1]
    refine lv_if_lt (tgt := 63) hx hb dX7_bitsOf_48 (by decide) (fun c1 => ?_) (fun c1 => ?_)
    · rw [fcv_lt] at c1
      exact k part ls hd (lv_sub hl [0, 1, 2, 3] rfl)
    · rw [fcv_lt] at c1
      exact absurd (dv_lt hd fv_53 hc2 (by omega)) c1
  | succ n ih =>
    intro p0 part ls hd he hl
    refine lv_dload_n hx hb dX7_bitsOf_43 rfl (lv_at hl 1 rfl) ?_
    refine lv_ldc2d hx hb hown (hts (.constantDouble RX7 1 (4845873199050653696)) (by decide +kernel)) dX7_bitsOf_44 ?_
    refine lv_dcmp hx hb dX7_bitsOf_47 ?_
    rw [fp_cv hd.1 gf_53.1]
    refine lv_if_lt (tgt := 63) hx hb dX7_bitsOf_48 (by decide) (fun c1 => ?_) (fun c1 => ?_)
    · rw [fcv_lt] at c1
      exact absurd c1 (dv_ge hd fv_53 hc1 (by omega))
    · rw [fcv_lt] at c1
      refine lv_dload_n hx hb dX7_bitsOf_51 rfl (lv_at hl 1 rfl) ?_
      refine lv_ldc2d hx hb hown (hts (.constantDouble RX7 3 (4611686018427387904)) (by decide +kernel)) dX7_bitsOf_52 ?_
      have g2 := sc_div (k := 1) (i := 1074 + n) hd.1 gf_2.1 (Nat.le_of_lt hc2) hd.2 fv_2 (by omega)
      refine lv_ddiv hx hb dX7_bitsOf_55 (fp_n64 g2.1) ?_
      refine lv_topd (fun v3 ev3 => ?_)
      rw [← ev3] at g2
      refine lv_dstore_n (lv' := [(3, .double v3), (5, .int (nI p0)), (2, .int mi), (0, .double x)]) hx hb dX7_bitsOf_56 rfl hl (by decide) rfl (fun ls hl => ?_)
      refine lv_iinc (v := (nI p0) + 1) (lv' := [(5, .int ((nI p0) + 1)), (3, .double v3), (2, .int mi), (0, .double x)]) hx hb dX7_bitsOf_57 hl (k := 1) rfl rfl (by decide) rfl (fun ls hl => ?_)
      refine lv_goto (tgt := 43) hx hb dX7_bitsOf_60 (by decide) ?_
      have h9 : lv_has ls 10 [(5, .int (nI (p0 + 1))), (3, .double v3), (2, .int mi), (0, .double x)] := by have h8 := (lv_sub hl [0, 1, 2, 3] rfl); rw [nI_1] at h8; exact h8
      exact ih (p0 + 1) _ ls g2 (by omega) h9
set_option maxHeartbeats 4000000 in
set_option maxRecDepth 100000 in
theorem lpX7_bb {p : Program} {l : Launch} {e : Env} {R : Room} {s : State} {m : MethodId} {args : Array Value} {below : List Frame} {meth : Method} {c : Code} {H : Heap} {locs : List Loc} {cells slots : Nat} {Q : State → Prop} (hx : p.tables.exec = Jvm.exec) (hb : c.code = cX7_bitsOf) (hown : s.vm.findClass RX7 = some m.cls) (hts : ∀ w ∈ wsX7_bitsOf, w.before args s = true) {x : UInt64} {mi : Int32} {cc p1 : Nat} (hc1 : 2 ^ 52 ≤ cc) (hc2 : cc < 2 ^ 53) (k : ∀ (part : UInt64) (ls : Array Slot), dv part cc 1074 → lv_has ls 10 [(5, .int (nI p1)), (3, .double part), (2, .int mi), (0, .double x)] → W p l e R s m args below meth c H locs cells slots Q (F0 m 89 ls [])) : ∀ (n p0 : Nat) (part : UInt64) (ls : Array Slot), dv part cc (1074 - n) → p0 = p1 + n ∧ p0 < 2 ^ 20 ∧ n ≤ 1074 ∧ 1 ≤ p1 → lv_has ls 10 [(5, .int (nI p0)), (3, .double part), (2, .int mi), (0, .double x)] → W p l e R s m args below meth c H locs cells slots Q (F0 m 63 ls []) := by
  intro n
  induction n with
  | zero =>
    intro p0 part ls hd he hl
    have hee : p0 = p1 := by omega
    subst hee
    have hd : dv part cc 1074 := hd
    refine lv_dload_n hx hb dX7_bitsOf_63 rfl (lv_at hl 1 rfl) ?_
    refine lv_ldc2d hx hb hown (hts (.constantDouble RX7 5 (4841369599423283200)) (by decide +kernel)) dX7_bitsOf_64 ?_
    refine lv_dcmp hx hb dX7_bitsOf_67 ?_
    rw [fp_cv hd.1 gf_52.1]
    refine lv_if_ge (tgt := 89) hx hb dX7_bitsOf_68 (by decide) (fun c1 => ?_) (fun c1 => ?_)
    · rw [fcv_ge] at c1
      exact k part ls hd (lv_sub hl [0, 1, 2, 3] rfl)
    · rw [fcv_ge] at c1
      exact absurd (Int.not_lt.mp (dv_ge hd fv_52 hc1 (by omega))) c1
  | succ n ih =>
    intro p0 part ls hd he hl
    obtain ⟨p9, rfl⟩ : ∃ p9, p0 = p9 + 1 := ⟨p0 - 1, by omega⟩
    refine lv_dload_n hx hb dX7_bitsOf_63 rfl (lv_at hl 1 rfl) ?_
    refine lv_ldc2d hx hb hown (hts (.constantDouble RX7 5 (4841369599423283200)) (by decide +kernel)) dX7_bitsOf_64 ?_
    refine lv_dcmp hx hb dX7_bitsOf_67 ?_
    rw [fp_cv hd.1 gf_52.1]
    refine lv_if_ge (tgt := 89) hx hb dX7_bitsOf_68 (by decide) (fun c1 => ?_) (fun c1 => ?_)
    · rw [fcv_ge] at c1
      exact absurd (dv_lt hd fv_52 hc2 (by omega)) (Int.not_lt.mpr c1)
    · rw [fcv_ge] at c1
      refine lv_iload hx hb dX7_bitsOf_71 (lv_at hl 0 rfl) ?_
      refine lv_iconst (v := 1) hx hb dX7_bitsOf_73 (by decide) ?_
      refine lv_icmp_le (tgt := 89) hx hb dX7_bitsOf_74 (by decide) (fun c2 => ?_) (fun c2 => ?_)
      · have i3 := Int32.not_lt.mpr c2
        exact absurd ((nI_leI (b := 1) (by omega) (by omega)).mp c2) (by omega)
      · have i4 := Int32.not_le.mp c2
        refine lv_dload_n hx hb dX7_bitsOf_77 rfl (lv_at hl 1 rfl) ?_
        refine lv_ldc2d hx hb hown (hts (.constantDouble RX7 3 (4611686018427387904)) (by decide +kernel)) dX7_bitsOf_78 ?_
        have g5 := sc_mul (j := 1074 - n) hd.1 gf_2.1 (Nat.le_of_lt hc2) hd.2 fv_2 (by omega) (by omega)
        refine lv_dmul hx hb dX7_bitsOf_81 (fp_n64 g5.1) ?_
        refine lv_topd (fun v6 ev6 => ?_)
        rw [← ev6] at g5
        refine lv_dstore_n (lv' := [(3, .double v6), (5, .int (nI (p9 + 1))), (2, .int mi), (0, .double x)]) hx hb dX7_bitsOf_82 rfl hl (by decide) rfl (fun ls hl => ?_)
        refine lv_iinc (v := (nI (p9 + 1)) + (-1)) (lv' := [(5, .int ((nI (p9 + 1)) + (-1))), (3, .double v6), (2, .int mi), (0, .double x)]) hx hb dX7_bitsOf_83 hl (k := 1) rfl rfl (by decide) rfl (fun ls hl => ?_)
        refine lv_goto (tgt := 63) hx hb dX7_bitsOf_86 (by decide) ?_
        have h9 : lv_has ls 10 [(5, .int (nI p9)), (3, .double v6), (2, .int mi), (0, .double x)] := by have h8 := (lv_sub hl [0, 1, 2, 3] rfl); rw [pk_m1] at h8; exact h8
        exact ih p9 _ ls g5 (by omega) h9
set_option maxHeartbeats 4000000 in
set_option maxRecDepth 100000 in
theorem lpX7_bz {p : Program} {l : Launch} {e : Env} {R : Room} {s : State} {m : MethodId} {args : Array Value} {below : List Frame} {meth : Method} {c : Code} {H : Heap} {locs : List Loc} {cells slots : Nat} {Q : State → Prop} (hx : p.tables.exec = Jvm.exec) (hb : c.code = cX7_bitsOf) (hown : s.vm.findClass RX7 = some m.cls) (hts : ∀ w ∈ wsX7_bitsOf, w.before args s = true) {x : UInt64} {mi : Int32} (k : ∀ (ls : Array Slot), lv_has ls 10 [(5, .int 1), (3, .double 0), (2, .int mi), (0, .double x)] → W p l e R s m args below meth c H locs cells slots Q (F0 m 89 ls [])) : ∀ (n : Nat) (ls : Array Slot), n < 2000 → lv_has ls 10 [(5, .int (nI (n + 1))), (3, .double 0), (2, .int mi), (0, .double x)] → W p l e R s m args below meth c H locs cells slots Q (F0 m 63 ls []) := by
  have hz : FP.Core.DFin 0 ∧ True := ⟨(FP.Core.fin_bits 0).mpr (by decide +kernel), trivial⟩
  intro n
  induction n with
  | zero =>
    intro ls hn hl
    refine lv_dload_n hx hb dX7_bitsOf_63 rfl (lv_at hl 1 rfl) ?_
    refine lv_ldc2d hx hb hown (hts (.constantDouble RX7 5 (4841369599423283200)) (by decide +kernel)) dX7_bitsOf_64 ?_
    refine lv_dcmp hx hb dX7_bitsOf_67 ?_
    rw [show Op.cmpValue (FP.dcmp 0 4841369599423283200) CmpOp.g = (-1) by decide +kernel]
    refine lv_if_ge (tgt := 89) hx hb dX7_bitsOf_68 (by decide) (fun c2 => absurd c2 (by decide)) (fun _ => ?_)
    refine lv_iload hx hb dX7_bitsOf_71 (lv_at hl 0 rfl) ?_
    refine lv_iconst (v := 1) hx hb dX7_bitsOf_73 (by decide) ?_
    refine lv_icmp_le (tgt := 89) hx hb dX7_bitsOf_74 (by decide) (fun c3 => ?_) (fun c3 => ?_)
    · have i4 := Int32.not_lt.mpr c3
      exact k ls (lv_sub hl [0, 1, 2, 3] rfl)
    · have i5 := Int32.not_le.mp c3
      exact absurd (show nI (0 + 1) ≤ (1 : Int32) by decide) c3
  | succ n ih =>
    intro ls hn hl
    refine lv_dload_n hx hb dX7_bitsOf_63 rfl (lv_at hl 1 rfl) ?_
    refine lv_ldc2d hx hb hown (hts (.constantDouble RX7 5 (4841369599423283200)) (by decide +kernel)) dX7_bitsOf_64 ?_
    refine lv_dcmp hx hb dX7_bitsOf_67 ?_
    rw [show Op.cmpValue (FP.dcmp 0 4841369599423283200) CmpOp.g = (-1) by decide +kernel]
    refine lv_if_ge (tgt := 89) hx hb dX7_bitsOf_68 (by decide) (fun c2 => absurd c2 (by decide)) (fun _ => ?_)
    refine lv_iload hx hb dX7_bitsOf_71 (lv_at hl 0 rfl) ?_
    refine lv_iconst (v := 1) hx hb dX7_bitsOf_73 (by decide) ?_
    refine lv_icmp_le (tgt := 89) hx hb dX7_bitsOf_74 (by decide) (fun c3 => ?_) (fun c3 => ?_)
    · have i4 := Int32.not_lt.mpr c3
      exact absurd ((nI_leI (b := 1) (by omega) (by omega)).mp c3) (by omega)
    · have i5 := Int32.not_le.mp c3
      refine lv_dload_n hx hb dX7_bitsOf_77 rfl (lv_at hl 1 rfl) ?_
      refine lv_ldc2d hx hb hown (hts (.constantDouble RX7 3 (4611686018427387904)) (by decide +kernel)) dX7_bitsOf_78 ?_
      refine lv_dmul hx hb dX7_bitsOf_81 (by unfold vf_n64; decide +kernel) ?_
      refine lv_dstore_n (lv' := [(3, .double (FP.dmul 0 4611686018427387904)), (5, .int (nI (n + 1 + 1))), (2, .int mi), (0, .double x)]) hx hb dX7_bitsOf_82 rfl hl (by decide) rfl (fun ls hl => ?_)
      refine lv_iinc (v := (nI (n + 1 + 1)) + (-1)) (lv' := [(5, .int ((nI (n + 1 + 1)) + (-1))), (3, .double (FP.dmul 0 4611686018427387904)), (2, .int mi), (0, .double x)]) hx hb dX7_bitsOf_83 hl (k := 1) rfl rfl (by decide) rfl (fun ls hl => ?_)
      refine lv_goto (tgt := 63) hx hb dX7_bitsOf_86 (by decide) ?_
      have h9 : lv_has ls 10 [(5, .int (nI (n + 1))), (3, .double 0), (2, .int mi), (0, .double x)] := by have h8 := (lv_sub hl [0, 1, 2, 3] rfl); rw [pk_m1, show FP.dmul 0 4611686018427387904 = 0 by decide +kernel] at h8; exact h8
      exact ih ls (by omega) h9
theorem sub_neg {x : UInt64} {c i : Nat} (hx : FP.Core.DFin x) (h : fv x = -((c * 2 ^ i : Nat) : Int)) (hc : c ≤ 2 ^ 53) (hi : i ≤ 2040) : dv (FP.dsub FP.dconst0 x) c i := by
  have hb : c * 2 ^ i < 2 ^ 2097 := by
    refine Nat.lt_of_le_of_lt (Nat.mul_le_mul_right _ hc) ?_
    rw [← Nat.pow_add]
    exact Nat.pow_lt_pow_right (by omega) (by omega)
  have hs : fv FP.dconst0 - fv x = ((c * 2 ^ i : Nat) : Int) := by rw [fv_c0, h]; omega
  obtain ⟨f1, f2⟩ := fp_sub gf_c0.1 hx (by rw [hs, Int.natAbs_natCast]; exact hb)
  rw [hs] at f2
  have h3 := f2.1
  rw [Int.natAbs_natCast] at h3
  have h4 := rn_exact (by omega) h3 (by rw [Nat.one_mul]) hc
  refine ⟨f1, ?_⟩
  have := f2.2.1 (by omega)
  omega
set_option maxHeartbeats 4000000 in
set_option maxRecDepth 100000 in
theorem lpX7_bs {p : Program} {l : Launch} {e : Env} {R : Room} {s : State} {m : MethodId} {args : Array Value} {below : List Frame} {meth : Method} {c : Code} {H : Heap} {locs : List Loc} {cells slots : Nat} {Q : State → Prop} (hx : p.tables.exec = Jvm.exec) (hb : c.code = cX7_bitsOf) (hown : s.vm.findClass RX7 = some m.cls) (hts : ∀ w ∈ wsX7_bitsOf, w.before args s = true) {x pp : UInt64} {mi : Int32} {cc i : Nat} (hc2 : cc < 2 ^ 53) (h : i ≤ 1074) (hd : dv pp cc i) {ls : Array Slot} (hl : lv_has ls 10 [(5, .int (nI 1075)), (3, .double pp), (2, .int mi), (0, .double x)]) (k : ∀ (ls : Array Slot), lv_has ls 10 [(5, .int (nI 1075)), (3, .double pp), (2, .int mi), (0, .double x)] → W p l e R s m args below meth c H locs cells slots Q (F0 m 63 ls [])) : W p l e R s m args below meth c H locs cells slots Q (F0 m 43 ls []) := by
  refine lv_dload_n hx hb dX7_bitsOf_43 rfl (lv_at hl 1 rfl) ?_
  refine lv_ldc2d hx hb hown (hts (.constantDouble RX7 1 (4845873199050653696)) (by decide +kernel)) dX7_bitsOf_44 ?_
  refine lv_dcmp hx hb dX7_bitsOf_47 ?_
  rw [fp_cv hd.1 gf_53.1]
  refine lv_if_lt (tgt := 63) hx hb dX7_bitsOf_48 (by decide) (fun c1 => ?_) (fun c1 => ?_)
  · rw [fcv_lt] at c1
    exact k ls hl
  · rw [fcv_lt] at c1
    exact absurd (dv_lt hd fv_53 hc2 (by omega)) c1
theorem lb_ge {n : Nat} (h : 2 ^ 52 ≤ n) (hn : n < 2 ^ 62) : (4503599627370496 : Int64) ≤ lN n := (pk_lLE (a := 2 ^ 52) (by omega) (by omega)).mpr h
theorem lb_or {a : Nat} (ha : a < 2 ^ 63) : lN a ||| (-9223372036854775808 : Int64) = lN (2 ^ 63 + a) := by
  rw [show (-9223372036854775808 : Int64) = lN (1 * 2 ^ 63) from by decide +kernel, g_or' (k := 63) (p := 2 ^ 63) rfl ha (by omega)]
  congr 1
  omega
set_option maxHeartbeats 4000000 in
set_option maxRecDepth 100000 in
theorem lpX7_b {p : Program} {l : Launch} {e : Env} {R : Room} {s : State} {m : MethodId} {args : Array Value} {below : List Frame} {meth : Method} {c : Code} {H : Heap} {locs : List Loc} {cells slots : Nat} {Q : State → Prop} (hx : p.tables.exec = Jvm.exec) (hb : c.code = cX7_bitsOf) (hown : s.vm.findClass RX7 = some m.cls) (hts : ∀ w ∈ wsX7_bitsOf, w.before args s = true) {x pp : UInt64} {mi : Int32} {cc i : Nat} (hc1 : 2 ^ 52 ≤ cc) (hc2 : cc < 2 ^ 53) (hi : i ≤ 2037) (hd : dv pp cc i) {ls : Array Slot} (hl : lv_has ls 10 [(5, .int (nI 1075)), (3, .double pp), (2, .int mi), (0, .double x)]) (k : ∀ (part : UInt64) (ls : Array Slot), dv part cc 1074 → lv_has ls 10 [(5, .int (nI (i + 1))), (3, .double part), (2, .int mi), (0, .double x)] → W p l e R s m args below meth c H locs cells slots Q (F0 m 89 ls [])) : W p l e R s m args below meth c H locs cells slots Q (F0 m 43 ls []) := by
  rcases Nat.le_total 1074 i with h | h
  · refine lpX7_ba hx hb hown hts (p1 := i + 1) hc1 hc2 (fun part ls hd9 hl => ?_) (i - 1074) 1075 pp ls (by rw [show 1074 + (i - 1074) = i by omega]; exact hd) (by omega) hl
    exact lpX7_bb hx hb hown hts (p1 := i + 1) hc1 hc2 k 0 (i + 1) part ls hd9 (by omega) hl
  · refine lpX7_bs hx hb hown hts hc2 h hd hl (fun ls hl => ?_)
    exact lpX7_bb hx hb hown hts (p1 := i + 1) hc1 hc2 k (1074 - i) 1075 pp ls (by rw [show 1074 - (1074 - i) = i by omega]; exact hd) (by omega) hl
set_option maxHeartbeats 4000000 in
set_option maxRecDepth 100000 in
theorem mX7_bitsOf (l : Launch) (x : UInt64)  (hok : bOk x) : Met l yX7_bitsOf wsX7_bitsOf ({ frames := 0, cells := 0, slots := 0, locals := 0 }) (va_Pc [.double x] (fun _ => True)) (va_Ql (fun (r : Int64) (u : Unit) => r = x.toInt64) (fun _ _ => True) nA) 0 0 nA := by
  refine Met.ofW (cc := cX7_bitsOf) (maxL := 10) (ret := (some .long)) (by decide) rfl ?_
  intro p e s m args below meth c s₁ B hml hv
  obtain ⟨rfl, -⟩ := hv
  have hx := B.exec
  have hb := B.bytes
  have hr := B.returns
  have hts := atoms_spec (ws := wsX7_bitsOf) B.pre
  have hown : s.vm.findClass RX7 = some m.cls := findClass_of_methodNamed B.named
  have hlocks := B.notSynchronized
  have hS : va_S nA s.heap s.heap [] := va_S.rf
  have hl := lv_entry ([.double x]) (n := 10) (Nat.le_of_ble_eq_true rfl)
  rw [lg_entry_eq]
  generalize (lg_sl ([.double x]) ++ List.replicate (10 - (lg_sl ([.double x])).length) Slot.unset).toArray = ls at hl ⊢
  have hl : lv_has ls 10 [(0, .double x)] := hl
  skip
  have hz : FP.Core.DFin 0 ∧ True := ⟨(FP.Core.fin_bits 0).mpr (by decide +kernel), trivial⟩
  rcases hok with h0 | h0 | ⟨hf, h0⟩
  · subst h0
    refine lv_dload_n hx hb dX7_bitsOf_0 rfl (lv_at hl 0 rfl) ?_
    refine lv_dconst0 hx hb dX7_bitsOf_1 ?_
    refine lv_dcmp hx hb dX7_bitsOf_2 ?_
    rw [show Op.cmpValue (FP.dcmp 0 FP.dconst0) CmpOp.g = 0 by decide +kernel]
    refine lv_if_lt (tgt := 20) hx hb dX7_bitsOf_3 (by decide) (fun c2 => absurd c2 (by decide)) (fun _ => ?_)
    refine lv_dload_n hx hb dX7_bitsOf_6 rfl (lv_at hl 0 rfl) ?_
    refine lv_dconst0 hx hb dX7_bitsOf_7 ?_
    refine lv_dcmp hx hb dX7_bitsOf_8 ?_
    rw [show Op.cmpValue (FP.dcmp 0 FP.dconst0) CmpOp.l = 0 by decide +kernel]
    refine lv_if_ne (tgt := 24) hx hb dX7_bitsOf_9 (by decide) (fun c4 => absurd c4 (by decide)) (fun _ => ?_)
    refine lv_dconst1 hx hb dX7_bitsOf_12 ?_
    refine lv_dload_n hx hb dX7_bitsOf_13 rfl (lv_at hl 0 rfl) ?_
    refine lv_ddiv hx hb dX7_bitsOf_14 (by unfold vf_n64; decide +kernel) ?_
    refine lv_dconst0 hx hb dX7_bitsOf_15 ?_
    refine lv_dcmp hx hb dX7_bitsOf_16 ?_
    rw [show Op.cmpValue (FP.dcmp (FP.ddiv FP.dconst1 0) FP.dconst0) CmpOp.g = 1 by decide +kernel]
    refine lv_if_ge (tgt := 24) hx hb dX7_bitsOf_17 (by decide) (fun _ => ?_) (fun c8 => absurd c8 (by decide))
    refine lv_iconst (v := 0) hx hb dX7_bitsOf_24 (by decide) ?_
    refine lv_istore_n (lv' := [(2, .int 0), (0, .double 0)]) hx hb dX7_bitsOf_25 rfl hl (by decide) rfl (fun ls hl => ?_)
    refine lv_iload_n hx hb dX7_bitsOf_26 rfl (lv_at hl 0 rfl) ?_
    refine lv_if_eq (tgt := 36) hx hb dX7_bitsOf_27 (by decide) (fun _ => ?_) (fun c10 => absurd c10 (by decide))
    refine lv_dload_n hx hb dX7_bitsOf_36 rfl (lv_at hl 1 rfl) ?_
    refine lv_dstore_n (lv' := [(3, .double 0), (2, .int 0), (0, .double 0)]) hx hb dX7_bitsOf_37 rfl hl (by decide) rfl (fun ls hl => ?_)
    refine lv_sipush (v := 1075) hx hb dX7_bitsOf_38 (by decide) ?_
    refine lv_istore (lv' := [(5, .int 1075), (3, .double 0), (2, .int 0), (0, .double 0)]) hx hb dX7_bitsOf_41 hl (by decide) rfl (fun ls hl => ?_)
    refine lv_dload_n hx hb dX7_bitsOf_43 rfl (lv_at hl 1 rfl) ?_
    refine lv_ldc2d hx hb hown (hts (.constantDouble RX7 1 (4845873199050653696)) (by decide +kernel)) dX7_bitsOf_44 ?_
    refine lv_dcmp hx hb dX7_bitsOf_47 ?_
    rw [show Op.cmpValue (FP.dcmp 0 4845873199050653696) CmpOp.l = (-1) by decide +kernel]
    refine lv_if_lt (tgt := 63) hx hb dX7_bitsOf_48 (by decide) (fun _ => ?_) (fun c12 => absurd c12 (by decide))
    have h63 : lv_has ls 10 [(5, .int (nI (1074 + 1))), (3, .double 0), (2, .int 0), (0, .double 0)] := (lv_sub hl [0, 1, 2, 3] rfl)
    refine lpX7_bz hx hb hown hts (fun ls hl => ?_) 1074 ls (by omega) h63
    refine lv_dload_n hx hb dX7_bitsOf_89 rfl (lv_at hl 1 rfl) ?_
    refine lv_d2l hx hb dX7_bitsOf_90 ?_
    rw [show FP.d2l 0 = lN 0 by decide +kernel]
    refine lv_lstore (lv' := [(6, .long (lN 0)), (5, .int 1), (3, .double 0), (2, .int 0), (0, .double 0)]) hx hb dX7_bitsOf_91 hl (by decide) rfl (fun ls hl => ?_)
    refine lv_lload hx hb dX7_bitsOf_93 (lv_at hl 0 rfl) ?_
    refine lv_ldc2 hx hb hown (hts (.constantLong RX7 7 (4503599627370496)) (by decide +kernel)) dX7_bitsOf_95 ?_
    refine W.lcmp hx hb dX7_bitsOf_98 ?_
    refine lv_if_ge (tgt := 107) hx hb dX7_bitsOf_99 (by decide) (fun c13 => ?_) (fun c13 => ?_)
    · rw [lg_cmp_ge] at c13
      exact absurd c13 (by decide)
    · rw [lg_cmp_ge] at c13
      refine lv_lload hx hb dX7_bitsOf_102 (lv_at hl 0 rfl) ?_
      refine lv_goto (tgt := 120) hx hb dX7_bitsOf_104 (by decide) ?_
      refine lv_lstore (lv' := [(8, .long (lN 0)), (6, .long (lN 0)), (5, .int 1), (3, .double 0), (2, .int 0), (0, .double 0)]) hx hb dX7_bitsOf_120 hl (by decide) rfl (fun ls hl => ?_)
      refine lv_iload_n hx hb dX7_bitsOf_122 rfl (lv_at hl 4 rfl) ?_
      refine lv_if_eq (tgt := 135) hx hb dX7_bitsOf_123 (by decide) (fun _ => ?_) (fun c15 => absurd c15 (by decide))
      refine lv_lload hx hb dX7_bitsOf_135 (lv_at hl 0 rfl) ?_
      exact W.lret (v := lN 0) hx hb hr (fun t ht hW => ⟨⟨lN 0, (), rfl, (by decide +kernel), trivial⟩, hS.F ht⟩) hS.2.2 dX7_bitsOf_137
  · subst h0
    refine lv_dload_n hx hb dX7_bitsOf_0 rfl (lv_at hl 0 rfl) ?_
    refine lv_dconst0 hx hb dX7_bitsOf_1 ?_
    refine lv_dcmp hx hb dX7_bitsOf_2 ?_
    rw [show Op.cmpValue (FP.dcmp 9223372036854775808 FP.dconst0) CmpOp.g = 0 by decide +kernel]
    refine lv_if_lt (tgt := 20) hx hb dX7_bitsOf_3 (by decide) (fun c2 => absurd c2 (by decide)) (fun _ => ?_)
    refine lv_dload_n hx hb dX7_bitsOf_6 rfl (lv_at hl 0 rfl) ?_
    refine lv_dconst0 hx hb dX7_bitsOf_7 ?_
    refine lv_dcmp hx hb dX7_bitsOf_8 ?_
    rw [show Op.cmpValue (FP.dcmp 9223372036854775808 FP.dconst0) CmpOp.l = 0 by decide +kernel]
    refine lv_if_ne (tgt := 24) hx hb dX7_bitsOf_9 (by decide) (fun c4 => absurd c4 (by decide)) (fun _ => ?_)
    refine lv_dconst1 hx hb dX7_bitsOf_12 ?_
    refine lv_dload_n hx hb dX7_bitsOf_13 rfl (lv_at hl 0 rfl) ?_
    refine lv_ddiv hx hb dX7_bitsOf_14 (by unfold vf_n64; decide +kernel) ?_
    refine lv_dconst0 hx hb dX7_bitsOf_15 ?_
    refine lv_dcmp hx hb dX7_bitsOf_16 ?_
    rw [show Op.cmpValue (FP.dcmp (FP.ddiv FP.dconst1 9223372036854775808) FP.dconst0) CmpOp.g = (-1) by decide +kernel]
    refine lv_if_ge (tgt := 24) hx hb dX7_bitsOf_17 (by decide) (fun c8 => absurd c8 (by decide)) (fun _ => ?_)
    refine lv_iconst (v := 1) hx hb dX7_bitsOf_20 (by decide) ?_
    refine lv_goto (tgt := 25) hx hb dX7_bitsOf_21 (by decide) ?_
    refine lv_istore_n (lv' := [(2, .int 1), (0, .double 9223372036854775808)]) hx hb dX7_bitsOf_25 rfl hl (by decide) rfl (fun ls hl => ?_)
    refine lv_iload_n hx hb dX7_bitsOf_26 rfl (lv_at hl 0 rfl) ?_
    refine lv_if_eq (tgt := 36) hx hb dX7_bitsOf_27 (by decide) (fun c10 => absurd c10 (by decide)) (fun _ => ?_)
    refine lv_dconst0 hx hb dX7_bitsOf_30 ?_
    refine lv_dload_n hx hb dX7_bitsOf_31 rfl (lv_at hl 1 rfl) ?_
    refine lv_dsub hx hb dX7_bitsOf_32 (by unfold vf_n64; decide +kernel) ?_
    refine lv_goto (tgt := 37) hx hb dX7_bitsOf_33 (by decide) ?_
    rw [show FP.dsub FP.dconst0 9223372036854775808 = 0 by decide +kernel]
    refine lv_dstore_n (lv' := [(3, .double 0), (2, .int 1), (0, .double 9223372036854775808)]) hx hb dX7_bitsOf_37 rfl hl (by decide) rfl (fun ls hl => ?_)
    refine lv_sipush (v := 1075) hx hb dX7_bitsOf_38 (by decide) ?_
    refine lv_istore (lv' := [(5, .int 1075), (3, .double 0), (2, .int 1), (0, .double 9223372036854775808)]) hx hb dX7_bitsOf_41 hl (by decide) rfl (fun ls hl => ?_)
    refine lv_dload_n hx hb dX7_bitsOf_43 rfl (lv_at hl 1 rfl) ?_
    refine lv_ldc2d hx hb hown (hts (.constantDouble RX7 1 (4845873199050653696)) (by decide +kernel)) dX7_bitsOf_44 ?_
    refine lv_dcmp hx hb dX7_bitsOf_47 ?_
    rw [show Op.cmpValue (FP.dcmp 0 4845873199050653696) CmpOp.l = (-1) by decide +kernel]
    refine lv_if_lt (tgt := 63) hx hb dX7_bitsOf_48 (by decide) (fun _ => ?_) (fun c14 => absurd c14 (by decide))
    have h63 : lv_has ls 10 [(5, .int (nI (1074 + 1))), (3, .double 0), (2, .int 1), (0, .double 9223372036854775808)] := (lv_sub hl [0, 1, 2, 3] rfl)
    refine lpX7_bz hx hb hown hts (fun ls hl => ?_) 1074 ls (by omega) h63
    refine lv_dload_n hx hb dX7_bitsOf_89 rfl (lv_at hl 1 rfl) ?_
    refine lv_d2l hx hb dX7_bitsOf_90 ?_
    rw [show FP.d2l 0 = lN 0 by decide +kernel]
    refine lv_lstore (lv' := [(6, .long (lN 0)), (5, .int 1), (3, .double 0), (2, .int 1), (0, .double 9223372036854775808)]) hx hb dX7_bitsOf_91 hl (by decide) rfl (fun ls hl => ?_)
    refine lv_lload hx hb dX7_bitsOf_93 (lv_at hl 0 rfl) ?_
    refine lv_ldc2 hx hb hown (hts (.constantLong RX7 7 (4503599627370496)) (by decide +kernel)) dX7_bitsOf_95 ?_
    refine W.lcmp hx hb dX7_bitsOf_98 ?_
    refine lv_if_ge (tgt := 107) hx hb dX7_bitsOf_99 (by decide) (fun c15 => ?_) (fun c15 => ?_)
    · rw [lg_cmp_ge] at c15
      exact absurd c15 (by decide)
    · rw [lg_cmp_ge] at c15
      refine lv_lload hx hb dX7_bitsOf_102 (lv_at hl 0 rfl) ?_
      refine lv_goto (tgt := 120) hx hb dX7_bitsOf_104 (by decide) ?_
      refine lv_lstore (lv' := [(8, .long (lN 0)), (6, .long (lN 0)), (5, .int 1), (3, .double 0), (2, .int 1), (0, .double 9223372036854775808)]) hx hb dX7_bitsOf_120 hl (by decide) rfl (fun ls hl => ?_)
      refine lv_iload_n hx hb dX7_bitsOf_122 rfl (lv_at hl 4 rfl) ?_
      refine lv_if_eq (tgt := 135) hx hb dX7_bitsOf_123 (by decide) (fun c17 => absurd c17 (by decide)) (fun _ => ?_)
      refine lv_lload hx hb dX7_bitsOf_126 (lv_at hl 0 rfl) ?_
      refine lv_ldc2 hx hb hown (hts (.constantLong RX7 9 (-9223372036854775808)) (by decide +kernel)) dX7_bitsOf_128 ?_
      refine lv_lor hx hb dX7_bitsOf_131 ?_
      refine lv_goto (tgt := 137) hx hb dX7_bitsOf_132 (by decide) ?_
      exact W.lret (v := (lN 0) ||| ((-9223372036854775808))) hx hb hr (fun t ht hW => ⟨⟨(lN 0) ||| ((-9223372036854775808)), (), rfl, (by decide +kernel), trivial⟩, hS.F ht⟩) hS.2.2 dX7_bitsOf_137
  · obtain ⟨sg, cc, i, hc1, hc2, hi, hv, hn⟩ := fv_normb hf h0
    have hfx : FP.Core.DFin x ∧ True := ⟨hf, trivial⟩
    have hP0 : 0 < cc * 2 ^ i := Nat.mul_pos (by omega) (Nat.two_pow_pos i)
    cases sg with
    | false =>
      have hv2 : fv x = ((cc * 2 ^ i : Nat) : Int) := hv
      have hn2 : x.toNat = 0 + (i + 1) * 2 ^ 52 + (cc - 2 ^ 52) := hn
      refine lv_dload_n hx hb dX7_bitsOf_0 rfl (lv_at hl 0 rfl) ?_
      refine lv_dconst0 hx hb dX7_bitsOf_1 ?_
      refine lv_dcmp hx hb dX7_bitsOf_2 ?_
      rw [fp_cv hfx.1 gf_c0.1]
      refine lv_if_lt (tgt := 20) hx hb dX7_bitsOf_3 (by decide) (fun c1 => ?_) (fun c1 => ?_)
      · rw [fcv_lt] at c1
        exact absurd c1 (by rw [hv2, fv_c0]; omega)
      · rw [fcv_lt] at c1
        refine lv_dload_n hx hb dX7_bitsOf_6 rfl (lv_at hl 0 rfl) ?_
        refine lv_dconst0 hx hb dX7_bitsOf_7 ?_
        refine lv_dcmp hx hb dX7_bitsOf_8 ?_
        rw [fp_cv hfx.1 gf_c0.1]
        refine lv_if_ne (tgt := 24) hx hb dX7_bitsOf_9 (by decide) (fun c2 => ?_) (fun c2 => ?_)
        · rw [fcv_eq] at c2
          refine lv_iconst (v := 0) hx hb dX7_bitsOf_24 (by decide) ?_
          refine lv_istore_n (lv' := [(2, .int 0), (0, .double x)]) hx hb dX7_bitsOf_25 rfl hl (by decide) rfl (fun ls hl => ?_)
          refine lv_iload_n hx hb dX7_bitsOf_26 rfl (lv_at hl 0 rfl) ?_
          refine lv_if_eq (tgt := 36) hx hb dX7_bitsOf_27 (by decide) (fun _ => ?_) (fun c4 => absurd c4 (by decide))
          refine lv_dload_n hx hb dX7_bitsOf_36 rfl (lv_at hl 1 rfl) ?_
          have hd : dv x cc i := ⟨hf, hv2⟩
          refine lv_topd (fun pp ep => ?_)
          rw [← ep] at hd
          refine lv_dstore_n (lv' := [(3, .double pp), (2, .int 0), (0, .double x)]) hx hb dX7_bitsOf_37 rfl hl (by decide) rfl (fun ls hl => ?_)
          refine lv_sipush (v := 1075) hx hb dX7_bitsOf_38 (by decide) ?_
          refine lv_istore (lv' := [(5, .int 1075), (3, .double pp), (2, .int 0), (0, .double x)]) hx hb dX7_bitsOf_41 hl (by decide) rfl (fun ls hl => ?_)
          have h43 : lv_has ls 10 [(5, .int (nI 1075)), (3, .double pp), (2, .int 0), (0, .double x)] := (lv_sub hl [0, 1, 2, 3] rfl)
          refine lpX7_b hx hb hown hts hc1 hc2 hi hd h43 (fun part ls hd9 hl => ?_)
          refine lv_dload_n hx hb dX7_bitsOf_89 rfl (lv_at hl 1 rfl) ?_
          refine lv_d2l hx hb dX7_bitsOf_90 ?_
          rw [fv_d2l hd9.1 hd9.2 (by omega)]
          refine lv_lstore (lv' := [(6, .long (lN cc)), (5, .int (nI (i + 1))), (3, .double part), (2, .int 0), (0, .double x)]) hx hb dX7_bitsOf_91 hl (by decide) rfl (fun ls hl => ?_)
          refine lv_lload hx hb dX7_bitsOf_93 (lv_at hl 0 rfl) ?_
          refine lv_ldc2 hx hb hown (hts (.constantLong RX7 7 (4503599627370496)) (by decide +kernel)) dX7_bitsOf_95 ?_
          refine W.lcmp hx hb dX7_bitsOf_98 ?_
          refine lv_if_ge (tgt := 107) hx hb dX7_bitsOf_99 (by decide) (fun c5 => ?_) (fun c5 => ?_)
          · rw [lg_cmp_ge] at c5
            refine lv_lload hx hb dX7_bitsOf_107 (lv_at hl 0 rfl) ?_
            refine lv_ldc2 hx hb hown (hts (.constantLong RX7 7 (4503599627370496)) (by decide +kernel)) dX7_bitsOf_109 ?_
            refine lv_lsub hx hb dX7_bitsOf_112 ?_
            refine lv_iload hx hb dX7_bitsOf_113 (lv_at hl 1 rfl) ?_
            refine lv_i2l (v := Int32.toInt64 (nI (i + 1))) hx hb dX7_bitsOf_115 rfl ?_
            refine lv_bipush (v := 52) hx hb dX7_bitsOf_116 (by decide) ?_
            refine lv_lshl (v := (Int32.toInt64 (nI (i + 1))) <<< (Int32.toInt64 52 &&& 63)) hx hb dX7_bitsOf_118 rfl ?_
            refine lv_ladd hx hb dX7_bitsOf_119 ?_
            refine lv_lstore (lv' := [(8, .long (((lN cc) - 4503599627370496) + ((Int32.toInt64 (nI (i + 1))) <<< (Int32.toInt64 52 &&& 63)))), (6, .long (lN cc)), (5, .int (nI (i + 1))), (3, .double part), (2, .int 0), (0, .double x)]) hx hb dX7_bitsOf_120 hl (by decide) rfl (fun ls hl => ?_)
            refine lv_iload_n hx hb dX7_bitsOf_122 rfl (lv_at hl 4 rfl) ?_
            refine lv_if_eq (tgt := 135) hx hb dX7_bitsOf_123 (by decide) (fun _ => ?_) (fun c7 => absurd c7 (by decide))
            refine lv_lload hx hb dX7_bitsOf_135 (lv_at hl 0 rfl) ?_
            have hq : ((lN cc) - 4503599627370496) + ((Int32.toInt64 (nI (i + 1))) <<< (Int32.toInt64 52 &&& 63)) = x.toInt64 := by
              rw [nI_l (n := i + 1) (by omega), lN_shl52, U_lN, hn2, show (4503599627370496 : Int64) = lN (2 ^ 52) from rfl, lN_sub hc1, lN_add]
              exact congrArg lN (by omega)
            exact W.lret (v := ((lN cc) - 4503599627370496) + ((Int32.toInt64 (nI (i + 1))) <<< (Int32.toInt64 52 &&& 63))) hx hb hr (fun t ht hW => ⟨⟨((lN cc) - 4503599627370496) + ((Int32.toInt64 (nI (i + 1))) <<< (Int32.toInt64 52 &&& 63)), (), rfl, hq, trivial⟩, hS.F ht⟩) hS.2.2 dX7_bitsOf_137
          · rw [lg_cmp_ge] at c5
            exact absurd (lb_ge hc1 (by omega)) c5
        · rw [fcv_eq] at c2
          exact absurd c2 (by rw [hv2, fv_c0]; omega)
    | true =>
      have hv2 : fv x = -((cc * 2 ^ i : Nat) : Int) := hv
      have hn2 : x.toNat = 2 ^ 63 + (i + 1) * 2 ^ 52 + (cc - 2 ^ 52) := hn
      refine lv_dload_n hx hb dX7_bitsOf_0 rfl (lv_at hl 0 rfl) ?_
      refine lv_dconst0 hx hb dX7_bitsOf_1 ?_
      refine lv_dcmp hx hb dX7_bitsOf_2 ?_
      rw [fp_cv hfx.1 gf_c0.1]
      refine lv_if_lt (tgt := 20) hx hb dX7_bitsOf_3 (by decide) (fun c1 => ?_) (fun c1 => ?_)
      · rw [fcv_lt] at c1
        refine lv_iconst (v := 1) hx hb dX7_bitsOf_20 (by decide) ?_
        refine lv_goto (tgt := 25) hx hb dX7_bitsOf_21 (by decide) ?_
        refine lv_istore_n (lv' := [(2, .int 1), (0, .double x)]) hx hb dX7_bitsOf_25 rfl hl (by decide) rfl (fun ls hl => ?_)
        refine lv_iload_n hx hb dX7_bitsOf_26 rfl (lv_at hl 0 rfl) ?_
        refine lv_if_eq (tgt := 36) hx hb dX7_bitsOf_27 (by decide) (fun c3 => absurd c3 (by decide)) (fun _ => ?_)
        refine lv_dconst0 hx hb dX7_bitsOf_30 ?_
        refine lv_dload_n hx hb dX7_bitsOf_31 rfl (lv_at hl 1 rfl) ?_
        have g4 := sub_neg (i := i) hf hv2 (Nat.le_of_lt hc2) (by omega)
        refine lv_dsub hx hb dX7_bitsOf_32 (fp_n64 g4.1) ?_
        refine lv_topd (fun v5 ev5 => ?_)
        rw [← ev5] at g4
        refine lv_goto (tgt := 37) hx hb dX7_bitsOf_33 (by decide) ?_
        refine lv_topd (fun pp ep => ?_)
        have hd : dv pp cc i := by rw [ep]; exact g4
        refine lv_dstore_n (lv' := [(3, .double pp), (2, .int 1), (0, .double x)]) hx hb dX7_bitsOf_37 rfl hl (by decide) rfl (fun ls hl => ?_)
        refine lv_sipush (v := 1075) hx hb dX7_bitsOf_38 (by decide) ?_
        refine lv_istore (lv' := [(5, .int 1075), (3, .double pp), (2, .int 1), (0, .double x)]) hx hb dX7_bitsOf_41 hl (by decide) rfl (fun ls hl => ?_)
        have h43 : lv_has ls 10 [(5, .int (nI 1075)), (3, .double pp), (2, .int 1), (0, .double x)] := (lv_sub hl [0, 1, 2, 3] rfl)
        refine lpX7_b hx hb hown hts hc1 hc2 hi hd h43 (fun part ls hd9 hl => ?_)
        refine lv_dload_n hx hb dX7_bitsOf_89 rfl (lv_at hl 1 rfl) ?_
        refine lv_d2l hx hb dX7_bitsOf_90 ?_
        rw [fv_d2l hd9.1 hd9.2 (by omega)]
        refine lv_lstore (lv' := [(6, .long (lN cc)), (5, .int (nI (i + 1))), (3, .double part), (2, .int 1), (0, .double x)]) hx hb dX7_bitsOf_91 hl (by decide) rfl (fun ls hl => ?_)
        refine lv_lload hx hb dX7_bitsOf_93 (lv_at hl 0 rfl) ?_
        refine lv_ldc2 hx hb hown (hts (.constantLong RX7 7 (4503599627370496)) (by decide +kernel)) dX7_bitsOf_95 ?_
        refine W.lcmp hx hb dX7_bitsOf_98 ?_
        refine lv_if_ge (tgt := 107) hx hb dX7_bitsOf_99 (by decide) (fun c6 => ?_) (fun c6 => ?_)
        · rw [lg_cmp_ge] at c6
          refine lv_lload hx hb dX7_bitsOf_107 (lv_at hl 0 rfl) ?_
          refine lv_ldc2 hx hb hown (hts (.constantLong RX7 7 (4503599627370496)) (by decide +kernel)) dX7_bitsOf_109 ?_
          refine lv_lsub hx hb dX7_bitsOf_112 ?_
          refine lv_iload hx hb dX7_bitsOf_113 (lv_at hl 1 rfl) ?_
          refine lv_i2l (v := Int32.toInt64 (nI (i + 1))) hx hb dX7_bitsOf_115 rfl ?_
          refine lv_bipush (v := 52) hx hb dX7_bitsOf_116 (by decide) ?_
          refine lv_lshl (v := (Int32.toInt64 (nI (i + 1))) <<< (Int32.toInt64 52 &&& 63)) hx hb dX7_bitsOf_118 rfl ?_
          refine lv_ladd hx hb dX7_bitsOf_119 ?_
          refine lv_lstore (lv' := [(8, .long (((lN cc) - 4503599627370496) + ((Int32.toInt64 (nI (i + 1))) <<< (Int32.toInt64 52 &&& 63)))), (6, .long (lN cc)), (5, .int (nI (i + 1))), (3, .double part), (2, .int 1), (0, .double x)]) hx hb dX7_bitsOf_120 hl (by decide) rfl (fun ls hl => ?_)
          refine lv_iload_n hx hb dX7_bitsOf_122 rfl (lv_at hl 4 rfl) ?_
          refine lv_if_eq (tgt := 135) hx hb dX7_bitsOf_123 (by decide) (fun c8 => absurd c8 (by decide)) (fun _ => ?_)
          refine lv_lload hx hb dX7_bitsOf_126 (lv_at hl 0 rfl) ?_
          refine lv_ldc2 hx hb hown (hts (.constantLong RX7 9 (-9223372036854775808)) (by decide +kernel)) dX7_bitsOf_128 ?_
          refine lv_lor hx hb dX7_bitsOf_131 ?_
          refine lv_goto (tgt := 137) hx hb dX7_bitsOf_132 (by decide) ?_
          have hq : (((lN cc) - 4503599627370496) + ((Int32.toInt64 (nI (i + 1))) <<< (Int32.toInt64 52 &&& 63))) ||| ((-9223372036854775808)) = x.toInt64 := by
            rw [nI_l (n := i + 1) (by omega), lN_shl52, U_lN, hn2, show (4503599627370496 : Int64) = lN (2 ^ 52) from rfl, lN_sub hc1, lN_add]
            exact (lb_or (by omega)).trans (congrArg lN (by omega))
          exact W.lret (v := (((lN cc) - 4503599627370496) + ((Int32.toInt64 (nI (i + 1))) <<< (Int32.toInt64 52 &&& 63))) ||| ((-9223372036854775808))) hx hb hr (fun t ht hW => ⟨⟨(((lN cc) - 4503599627370496) + ((Int32.toInt64 (nI (i + 1))) <<< (Int32.toInt64 52 &&& 63))) ||| ((-9223372036854775808)), (), rfl, hq, trivial⟩, hS.F ht⟩) hS.2.2 dX7_bitsOf_137
        · rw [lg_cmp_ge] at c6
          exact absurd (lb_ge hc1 (by omega)) c6
      · rw [fcv_lt] at c1
        exact absurd c1 (by rw [hv2, fv_c0]; omega)
end
section
/-! THE MODEL'S ROOT, digit by digit -/
def pI (k : Nat) : Int32 := Int32.ofInt ((k : Int) - 1074)
def mI (n : Nat) : Int32 := Int32.ofInt (-(n : Int))
theorem pI_s (k : Nat) : pI k + 1 = pI (k + 1) := by
  unfold pI
  rw [show (1 : Int32) = Int32.ofInt 1 from rfl, ← Int32.ofInt_add]
  congr 1
  omega
theorem pI_p (k : Nat) : pI (k + 1) + (-1) = pI k := by
  unfold pI
  rw [show (-1 : Int32) = Int32.ofInt (-1) by decide, ← Int32.ofInt_add]
  congr 1
  omega
theorem mI_s (k : Nat) : mI (k + 1) + 1 = mI k := by
  unfold mI
  rw [show (1 : Int32) = Int32.ofInt 1 from rfl, ← Int32.ofInt_add]
  congr 1
  omega
theorem mI_neg {k : Nat} (hk : k < 2000) : mI (k + 1) < 0 := by
  unfold mI
  rw [Int32.lt_iff_toInt_lt, Int32.toInt_ofInt_of_le (by omega) (by omega)]
  show -((k + 1 : Nat) : Int) < 0
  omega
theorem pI_par : ∀ i, i < 2046 → (pI i - pI i / 2 * 2 = 0 ↔ i % 2 = 0) := by decide +kernel
theorem pI_half : ∀ h, h < 1023 → pI (2 * h) / 2 - 26 = if 563 ≤ h then nI (h - 563) else mI (563 - h) := by decide +kernel
theorem lN_n0 {n : Nat} (h0 : 0 < n) (h : n < 2 ^ 62) : ¬ lN n = 0 := fun hc => by
  have := (pk_lEQ (b := 0) (by omega) (by omega)).mp hc
  omega
theorem lN_le62 {a b : Nat} (ha : a < 2 ^ 62) (hb : b < 2 ^ 62) : lN a < lN b ↔ a < b := pk_lLT (by omega) (by omega)
theorem dg_sq (d b : Nat) : (d + b) * (d + b) = d * d + 2 * (d * b) + b * b := by simp only [Nat.add_mul, Nat.mul_add, Nat.mul_comm b d]; omega
theorem dg_take {X d r b : Nat} (h : 2 * X = 2 * (d * d) + r * (2 * b)) (ht : 2 * d + b ≤ r) (hu : X < (d + 2 * b) * (d + 2 * b)) : 2 * X = 2 * ((d + b) * (d + b)) + (r - (2 * d + b) + (r - (2 * d + b))) * b ∧ X < (d + b + b) * (d + b + b) := by
  obtain ⟨q, rfl⟩ : ∃ q, r = 2 * d + b + q := ⟨r - (2 * d + b), by omega⟩
  have e1 : (2 * d + b + q) * (2 * b) = 4 * (d * b) + 2 * (b * b) + 2 * (q * b) := by
    rw [Nat.add_mul, Nat.add_mul]
    have h1 : 2 * d * (2 * b) = 4 * (d * b) := by rw [show (4 : Nat) = 2 * 2 from rfl]; ac_rfl
    have h2 : b * (2 * b) = 2 * (b * b) := by ac_rfl
    have h3 : q * (2 * b) = 2 * (q * b) := by ac_rfl
    omega
  rw [e1] at h
  rw [dg_sq, show 2 * d + b + q - (2 * d + b) = q by omega, Nat.add_mul]
  refine ⟨by omega, ?_⟩
  rw [show d + b + b = d + 2 * b by omega]
  exact hu
theorem dg_leave {X d r b : Nat} (h : 2 * X = 2 * (d * d) + r * (2 * b)) (ht : r < 2 * d + b) (hb : 0 < b) : 2 * X = 2 * (d * d) + (r + r) * b ∧ X < (d + b) * (d + b) := by
  have e1 : r * (2 * b) = 2 * (r * b) := by ac_rfl
  have e2 : r * b < (2 * d + b) * b := Nat.mul_lt_mul_of_pos_right ht hb
  have e3 : (2 * d + b) * b = 2 * (d * b) + b * b := by rw [Nat.add_mul, Nat.mul_assoc]
  have e4 : (r + r) * b = 2 * (r * b) := by rw [Nat.add_mul]; omega
  rw [dg_sq]
  omega
theorem dg_r {X d r b : Nat} (h : 2 * X = 2 * (d * d) + r * b) (hu : X < (d + b) * (d + b)) (hb : 0 < b) : r < 4 * d + 2 * b := by
  refine Nat.lt_of_not_le fun hl => ?_
  have e1 : (4 * d + 2 * b) * b ≤ r * b := Nat.mul_le_mul_right _ hl
  have e2 : (4 * d + 2 * b) * b = 4 * (d * b) + 2 * (b * b) := by rw [Nat.add_mul, Nat.mul_assoc, Nat.mul_assoc]
  rw [dg_sq] at hu
  omega
theorem dg_end {N d r : Nat} (hN : 2 ^ 52 ≤ N) (h : 2 * (N * 2 ^ 54) = 2 * (d * d) + r) (hu : N * 2 ^ 54 < (d + 1) * (d + 1)) : (d % 2 = 0 ∨ r ≠ 0) ∧ (d + d % 2) / 2 * ((d + d % 2) / 2) < N * 2 ^ 52 + (d + d % 2) / 2 ∧ N * 2 ^ 52 ≤ (d + d % 2) / 2 * ((d + d % 2) / 2) + (d + d % 2) / 2 := by
  have hd1 : (d + 1) * (d + 1) = d * d + 2 * d + 1 := by rw [dg_sq]; omega
  rcases Nat.mod_two_eq_zero_or_one d with h2 | h2
  · obtain ⟨e, rfl⟩ : ∃ e, d = 2 * e := ⟨d / 2, by omega⟩
    have e1 : 2 * e * (2 * e) = 4 * (e * e) := by rw [show (4 : Nat) = 2 * 2 from rfl]; ac_rfl
    rw [e1] at h hd1
    rw [h2, show (2 * e + 0) / 2 = e by omega]
    have hp : 0 < e := by
      refine Nat.pos_of_ne_zero fun h0 => ?_
      subst h0
      omega
    refine ⟨Or.inl rfl, by omega, by omega⟩
  · obtain ⟨e, rfl⟩ : ∃ e, d = 2 * e + 1 := ⟨d / 2, by omega⟩
    have e1 : (2 * e + 1) * (2 * e + 1) = 4 * (e * e) + 4 * e + 1 := by
      rw [dg_sq]
      have : 2 * e * (2 * e) = 4 * (e * e) := by rw [show (4 : Nat) = 2 * 2 from rfl]; ac_rfl
      omega
    rw [e1] at h hd1
    rw [h2, show (2 * e + 1 + 1) / 2 = e + 1 by omega]
    have e2 : (e + 1) * (e + 1) = e * e + 2 * e + 1 := by rw [dg_sq]; omega
    rw [e2]
    exact ⟨Or.inr (by omega), by omega, by omega⟩
set_option maxHeartbeats 4000000 in
set_option maxRecDepth 100000 in
theorem lpX7_ra {p : Program} {l : Launch} {e : Env} {R : Room} {s : State} {m : MethodId} {args : Array Value} {below : List Frame} {meth : Method} {c : Code} {H : Heap} {locs : List Loc} {cells slots : Nat} {Q : State → Prop} (hx : p.tables.exec = Jvm.exec) (hb : c.code = cX7_root) (hown : s.vm.findClass RX7 = some m.cls) (hts : ∀ w ∈ wsX7_root, w.before args s = true) {x : UInt64} {cc p1 : Nat} (hc1 : 2 ^ 52 ≤ cc) (hc2 : cc < 2 ^ 53) (k : ∀ (y : UInt64) (ls : Array Slot), dv y cc 1074 → lv_has ls 16 [(4, .int (pI p1)), (2, .double y), (0, .double x)] → W p l e R s m args below meth c H locs cells slots Q (F0 m 33 ls [])) : ∀ (n p0 : Nat) (y : UInt64) (ls : Array Slot), dv y cc (1074 + n) → p0 + n = p1 ∧ n ≤ 964 → lv_has ls 16 [(4, .int (pI p0)), (2, .double y), (0, .double x)] → W p l e R s m args below meth c H locs cells slots Q (F0 m 13 ls []) := by
  intro n
  induction n with
  | zero =>
    intro p0 y ls hd he hl
    have hee : p0 = p1 := by omega
    subst hee
    have hd : dv y cc 1074 := hd
    refine lv_dload_n hx hb dX7_root_13 rfl (lv_at hl 1 rfl) ?_
    refine lv_ldc2d hx hb hown (hts (.constantDouble RX7 1 (4845873199050653696)) (by decide +kernel)) dX7_root_14 ?_
    refine lv_dcmp hx hb dX7_root_17 ?_
    rw [fp_cv hd.1 gf_53.1]
    refine lv_if_lt (tgt := 33) hx hb dX7_root_18 (by decide) (fun c1 => ?_) (fun c1 => ?_)
    · rw [fcv_lt] at c1
      exact k y ls hd (lv_sub hl [0, 1, 2] rfl)
    · rw [fcv_lt] at c1
      exact absurd (dv_lt hd fv_53 hc2 (by omega)) c1
  | succ n ih =>
    intro p0 y ls hd he hl
    refine lv_dload_n hx hb dX7_root_13 rfl (lv_at hl 1 rfl) ?_
    refine lv_ldc2d hx hb hown (hts (.constantDouble RX7 1 (4845873199050653696)) (by decide +kernel)) dX7_root_14 ?_
    refine lv_dcmp hx hb dX7_root_17 ?_
    rw [fp_cv hd.1 gf_53.1]
    refine lv_if_lt (tgt := 33) hx hb dX7_root_18 (by decide) (fun c1 => ?_) (fun c1 => ?_)
    · rw [fcv_lt] at c1
      exact absurd c1 (dv_ge hd fv_53 hc1 (by omega))
    · rw [fcv_lt] at c1
      refine lv_dload_n hx hb dX7_root_21 rfl (lv_at hl 1 rfl) ?_
      refine lv_ldc2d hx hb hown (hts (.constantDouble RX7 3 (4611686018427387904)) (by decide +kernel)) dX7_root_22 ?_
      have g2 := sc_div (k := 1) (i := 1074 + n) hd.1 gf_2.1 (Nat.le_of_lt hc2) hd.2 fv_2 (by omega)
      refine lv_ddiv hx hb dX7_root_25 (fp_n64 g2.1) ?_
      refine lv_topd (fun v3 ev3 => ?_)
      rw [← ev3] at g2
      refine lv_dstore_n (lv' := [(2, .double v3), (4, .int (pI p0)), (0, .double x)]) hx hb dX7_root_26 rfl hl (by decide) rfl (fun ls hl => ?_)
      refine lv_iinc (v := (pI p0) + 1) (lv' := [(4, .int ((pI p0) + 1)), (2, .double v3), (0, .double x)]) hx hb dX7_root_27 hl (k := 1) rfl rfl (by decide) rfl (fun ls hl => ?_)
      refine lv_goto (tgt := 13) hx hb dX7_root_30 (by decide) ?_
      have h9 : lv_has ls 16 [(4, .int (pI (p0 + 1))), (2, .double v3), (0, .double x)] := by have h8 := (lv_sub hl [0, 1, 2] rfl); rw [pI_s] at h8; exact h8
      exact ih (p0 + 1) _ ls g2 (by omega) h9
set_option maxHeartbeats 4000000 in
set_option maxRecDepth 100000 in
theorem lpX7_rb {p : Program} {l : Launch} {e : Env} {R : Room} {s : State} {m : MethodId} {args : Array Value} {below : List Frame} {meth : Method} {c : Code} {H : Heap} {locs : List Loc} {cells slots : Nat} {Q : State → Prop} (hx : p.tables.exec = Jvm.exec) (hb : c.code = cX7_root) (hown : s.vm.findClass RX7 = some m.cls) (hts : ∀ w ∈ wsX7_root, w.before args s = true) {x : UInt64} {cc p1 : Nat} (hc1 : 2 ^ 52 ≤ cc) (hc2 : cc < 2 ^ 53) (k : ∀ (y : UInt64) (ls : Array Slot), dv y cc 1074 → lv_has ls 16 [(4, .int (pI p1)), (2, .double y), (0, .double x)] → W p l e R s m args below meth c H locs cells slots Q (F0 m 53 ls [])) : ∀ (n p0 : Nat) (y : UInt64) (ls : Array Slot), dv y cc (1074 - n) → p0 = p1 + n ∧ n ≤ 1074 → lv_has ls 16 [(4, .int (pI p0)), (2, .double y), (0, .double x)] → W p l e R s m args below meth c H locs cells slots Q (F0 m 33 ls []) := by
  intro n
  induction n with
  | zero =>
    intro p0 y ls hd he hl
    have hee : p0 = p1 := by omega
    subst hee
    have hd : dv y cc 1074 := hd
    refine lv_dload_n hx hb dX7_root_33 rfl (lv_at hl 1 rfl) ?_
    refine lv_ldc2d hx hb hown (hts (.constantDouble RX7 5 (4841369599423283200)) (by decide +kernel)) dX7_root_34 ?_
    refine lv_dcmp hx hb dX7_root_37 ?_
    rw [fp_cv hd.1 gf_52.1]
    refine lv_if_ge (tgt := 53) hx hb dX7_root_38 (by decide) (fun c1 => ?_) (fun c1 => ?_)
    · rw [fcv_ge] at c1
      exact k y ls hd (lv_sub hl [0, 1, 2] rfl)
    · rw [fcv_ge] at c1
      exact absurd (Int.not_lt.mp (dv_ge hd fv_52 hc1 (by omega))) c1
  | succ n ih =>
    intro p0 y ls hd he hl
    obtain ⟨p9, rfl⟩ : ∃ p9, p0 = p9 + 1 := ⟨p0 - 1, by omega⟩
    refine lv_dload_n hx hb dX7_root_33 rfl (lv_at hl 1 rfl) ?_
    refine lv_ldc2d hx hb hown (hts (.constantDouble RX7 5 (4841369599423283200)) (by decide +kernel)) dX7_root_34 ?_
    refine lv_dcmp hx hb dX7_root_37 ?_
    rw [fp_cv hd.1 gf_52.1]
    refine lv_if_ge (tgt := 53) hx hb dX7_root_38 (by decide) (fun c1 => ?_) (fun c1 => ?_)
    · rw [fcv_ge] at c1
      exact absurd (dv_lt hd fv_52 hc2 (by omega)) (Int.not_lt.mpr c1)
    · rw [fcv_ge] at c1
      refine lv_dload_n hx hb dX7_root_41 rfl (lv_at hl 1 rfl) ?_
      refine lv_ldc2d hx hb hown (hts (.constantDouble RX7 3 (4611686018427387904)) (by decide +kernel)) dX7_root_42 ?_
      have g2 := sc_mul (j := 1074 - n) hd.1 gf_2.1 (Nat.le_of_lt hc2) hd.2 fv_2 (by omega) (by omega)
      refine lv_dmul hx hb dX7_root_45 (fp_n64 g2.1) ?_
      refine lv_topd (fun v3 ev3 => ?_)
      rw [← ev3] at g2
      refine lv_dstore_n (lv' := [(2, .double v3), (4, .int (pI (p9 + 1))), (0, .double x)]) hx hb dX7_root_46 rfl hl (by decide) rfl (fun ls hl => ?_)
      refine lv_iinc (v := (pI (p9 + 1)) + (-1)) (lv' := [(4, .int ((pI (p9 + 1)) + (-1))), (2, .double v3), (0, .double x)]) hx hb dX7_root_47 hl (k := 1) rfl rfl (by decide) rfl (fun ls hl => ?_)
      refine lv_goto (tgt := 33) hx hb dX7_root_50 (by decide) ?_
      have h9 : lv_has ls 16 [(4, .int (pI p9)), (2, .double v3), (0, .double x)] := by have h8 := (lv_sub hl [0, 1, 2] rfl); rw [pI_p] at h8; exact h8
      exact ih p9 _ ls g2 (by omega) h9
set_option maxHeartbeats 4000000 in
set_option maxRecDepth 100000 in
theorem lpX7_rs {p : Program} {l : Launch} {e : Env} {R : Room} {s : State} {m : MethodId} {args : Array Value} {below : List Frame} {meth : Method} {c : Code} {H : Heap} {locs : List Loc} {cells slots : Nat} {Q : State → Prop} (hx : p.tables.exec = Jvm.exec) (hb : c.code = cX7_root) (hown : s.vm.findClass RX7 = some m.cls) (hts : ∀ w ∈ wsX7_root, w.before args s = true) {x : UInt64} {cc i : Nat} (hc2 : cc < 2 ^ 53) (h : i ≤ 1074) (hd : dv x cc i) {ls : Array Slot} (hl : lv_has ls 16 [(4, .int (pI 1074)), (2, .double x), (0, .double x)]) (k : ∀ (ls : Array Slot), lv_has ls 16 [(4, .int (pI 1074)), (2, .double x), (0, .double x)] → W p l e R s m args below meth c H locs cells slots Q (F0 m 33 ls [])) : W p l e R s m args below meth c H locs cells slots Q (F0 m 13 ls []) := by
  refine lv_dload_n hx hb dX7_root_13 rfl (lv_at hl 1 rfl) ?_
  refine lv_ldc2d hx hb hown (hts (.constantDouble RX7 1 (4845873199050653696)) (by decide +kernel)) dX7_root_14 ?_
  refine lv_dcmp hx hb dX7_root_17 ?_
  rw [fp_cv hd.1 gf_53.1]
  refine lv_if_lt (tgt := 33) hx hb dX7_root_18 (by decide) (fun c1 => ?_) (fun c1 => ?_)
  · rw [fcv_lt] at c1
    exact k ls hl
  · rw [fcv_lt] at c1
    exact absurd (dv_lt hd fv_53 hc2 (by omega)) c1
set_option maxHeartbeats 4000000 in
set_option maxRecDepth 100000 in
theorem lpX7_r0 {p : Program} {l : Launch} {e : Env} {R : Room} {s : State} {m : MethodId} {args : Array Value} {below : List Frame} {meth : Method} {c : Code} {H : Heap} {locs : List Loc} {cells slots : Nat} {Q : State → Prop} (hx : p.tables.exec = Jvm.exec) (hb : c.code = cX7_root) (hown : s.vm.findClass RX7 = some m.cls) (hts : ∀ w ∈ wsX7_root, w.before args s = true) {x : UInt64} {cc i : Nat} (hc1 : 2 ^ 52 ≤ cc) (hc2 : cc < 2 ^ 53) (hi : i ≤ 2037) (hd : dv x cc i) {ls : Array Slot} (hl : lv_has ls 16 [(4, .int (pI 1074)), (2, .double x), (0, .double x)]) (k : ∀ (y : UInt64) (ls : Array Slot), dv y cc 1074 → lv_has ls 16 [(4, .int (pI i)), (2, .double y), (0, .double x)] → W p l e R s m args below meth c H locs cells slots Q (F0 m 53 ls [])) : W p l e R s m args below meth c H locs cells slots Q (F0 m 13 ls []) := by
  rcases Nat.le_total 1074 i with h | h
  · refine lpX7_ra hx hb hown hts (p1 := i) hc1 hc2 (fun y ls hd9 hl => ?_) (i - 1074) 1074 x ls (by rw [show 1074 + (i - 1074) = i by omega]; exact hd) (by omega) hl
    exact lpX7_rb hx hb hown hts (p1 := i) hc1 hc2 k 0 i y ls hd9 (by omega) hl
  · refine lpX7_rs hx hb hown hts hc2 h hd hl (fun ls hl => ?_)
    exact lpX7_rb hx hb hown hts (p1 := i) hc1 hc2 k (1074 - i) 1074 x ls (by rw [show 1074 - (1074 - i) = i by omega]; exact hd) (by omega) hl
set_option maxHeartbeats 4000000 in
set_option maxRecDepth 100000 in
theorem lpX7_rd {p : Program} {l : Launch} {e : Env} {R : Room} {s : State} {m : MethodId} {args : Array Value} {below : List Frame} {meth : Method} {c : Code} {H : Heap} {locs : List Loc} {cells slots : Nat} {Q : State → Prop} (hx : p.tables.exec = Jvm.exec) (hb : c.code = cX7_root) (hown : s.vm.findClass RX7 = some m.cls) (hts : ∀ w ∈ wsX7_root, w.before args s = true) {x : UInt64} {half : Int32} {X : Nat} (k : ∀ (d r : Nat) (ls : Array Slot), 2 * X = 2 * (d * d) + r → X < (d + 1) * (d + 1) → d < 2 ^ 54 → r < 2 ^ 60 → lv_has ls 16 [(12, .long 0), (10, .long (lN (2 * d))), (8, .long (lN d)), (7, .int half), (5, .long (lN r)), (0, .double x)] → W p l e R s m args below meth c H locs cells slots Q (F0 m 155 ls [])) : ∀ (n d r : Nat) (ls : Array Slot), n ≤ 54 → 2 * X = 2 * (d * d) + r * 2 ^ n → X < (d + 2 ^ n) * (d + 2 ^ n) → d + 2 ^ n ≤ 2 ^ 54 → lv_has ls 16 [(12, .long (lN (2 ^ n / 2))), (10, .long (lN (2 * d))), (8, .long (lN d)), (7, .int half), (5, .long (lN r)), (0, .double x)] → W p l e R s m args below meth c H locs cells slots Q (F0 m 96 ls []) := by
  intro n
  induction n with
  | zero =>
    intro d r ls hn h1 h2 h3 hl
    have h4 := dg_r h1 h2 (Nat.two_pow_pos _)
    refine lv_lload hx hb dX7_root_96 (lv_at hl 0 rfl) ?_
    refine lv_lconst (v := 0) hx hb dX7_root_98 (by decide) ?_
    refine W.lcmp hx hb dX7_root_99 ?_
    refine lv_if_eq (tgt := 155) hx hb dX7_root_100 (by decide) (fun c1 => ?_) (fun c1 => ?_)
    · rw [lg_cmp_eq] at c1
      exact k d r ls (by rw [Nat.pow_zero, Nat.mul_one] at h1; exact h1) h2 (by omega) (by omega) (lv_sub hl [0, 1, 2, 3, 4, 5] rfl)
    · rw [lg_cmp_eq] at c1
      exact absurd rfl c1
  | succ n ih =>
    intro d r ls hn h1 h2 h3 hl
    have h4 := dg_r h1 h2 (Nat.two_pow_pos _)
    have hb0 := Nat.two_pow_pos n
    have hb1 : 2 ^ (n + 1) = 2 * 2 ^ n := by rw [Nat.pow_succ]; omega
    rw [hb1] at h1 h2 h3 h4
    rw [show 2 ^ (n + 1) / 2 = 2 ^ n by omega] at hl
    refine lv_lload hx hb dX7_root_96 (lv_at hl 0 rfl) ?_
    refine lv_lconst (v := 0) hx hb dX7_root_98 (by decide) ?_
    refine W.lcmp hx hb dX7_root_99 ?_
    refine lv_if_eq (tgt := 155) hx hb dX7_root_100 (by decide) (fun c1 => ?_) (fun c1 => ?_)
    · rw [lg_cmp_eq] at c1
      exact absurd c1 (lN_n0 hb0 (by omega))
    · rw [lg_cmp_eq] at c1
      refine lv_lload hx hb dX7_root_103 (lv_at hl 1 rfl) ?_
      refine lv_lload hx hb dX7_root_105 (lv_at hl 0 rfl) ?_
      refine lv_ladd hx hb dX7_root_107 ?_
      rw [lN_add]
      refine lv_lstore (lv' := [(14, .long (lN (2 * d + 2 ^ n))), (12, .long (lN (2 ^ n))), (10, .long (lN (2 * d))), (8, .long (lN d)), (7, .int half), (5, .long (lN r)), (0, .double x)]) hx hb dX7_root_108 hl (by decide) rfl (fun ls hl => ?_)
      refine lv_lload hx hb dX7_root_110 (lv_at hl 0 rfl) ?_
      refine lv_lload hx hb dX7_root_112 (lv_at hl 5 rfl) ?_
      refine W.lcmp hx hb dX7_root_114 ?_
      refine lv_if_gt (tgt := 139) hx hb dX7_root_115 (by decide) (fun c2 => ?_) (fun c2 => ?_)
      · rw [lg_cmp_gt] at c2
        have hlt : r < 2 * d + 2 ^ n := (lN_le62 (by omega) (by omega)).mp c2
        obtain ⟨q1, q2⟩ := dg_leave h1 hlt hb0
        refine lv_lload hx hb dX7_root_139 (lv_at hl 5 rfl) ?_
        refine lv_lload hx hb dX7_root_141 (lv_at hl 5 rfl) ?_
        refine lv_ladd hx hb dX7_root_143 ?_
        rw [lN_add]
        refine lv_lstore (lv' := [(5, .long (lN (r + r))), (14, .long (lN (2 * d + 2 ^ n))), (12, .long (lN (2 ^ n))), (10, .long (lN (2 * d))), (8, .long (lN d)), (7, .int half), (0, .double x)]) hx hb dX7_root_144 hl (by decide) rfl (fun ls hl => ?_)
        refine lv_lload hx hb dX7_root_146 (lv_at hl 2 rfl) ?_
        refine lv_iconst (v := 1) hx hb dX7_root_148 (by decide) ?_
        refine lv_lshr (v := (lN (2 ^ n)) >>> (Int32.toInt64 1 &&& 63)) hx hb dX7_root_149 rfl ?_
        rw [show lN (2 ^ n) >>> (Int32.toInt64 1 &&& 63) = lN (2 ^ n / 2) from (pf_shr (d := 1) (by decide +kernel) (by omega))]
        refine lv_lstore (lv' := [(12, .long (lN (2 ^ n / 2))), (5, .long (lN (r + r))), (14, .long (lN (2 * d + 2 ^ n))), (10, .long (lN (2 * d))), (8, .long (lN d)), (7, .int half), (0, .double x)]) hx hb dX7_root_150 hl (by decide) rfl (fun ls hl => ?_)
        refine lv_goto (tgt := 96) hx hb dX7_root_152 (by decide) ?_
        exact ih (d) (r + r) ls (by omega) q1 q2 (by omega) (lv_sub hl [0, 3, 4, 5, 1, 6] rfl)
      · rw [lg_cmp_gt] at c2
        have hle : 2 * d + 2 ^ n ≤ r := Nat.le_of_not_lt (fun hc => c2 ((lN_le62 (by omega) (by omega)).mpr hc))
        obtain ⟨q1, q2⟩ := dg_take h1 hle h2
        refine lv_lload hx hb dX7_root_118 (lv_at hl 0 rfl) ?_
        refine lv_lload hx hb dX7_root_120 (lv_at hl 1 rfl) ?_
        refine lv_ladd hx hb dX7_root_122 ?_
        rw [show lN (2 * d + 2 ^ n) + lN (2 ^ n) = lN (2 * (d + 2 ^ n)) by rw [lN_add]; congr 1; omega]
        refine lv_lstore (lv' := [(10, .long (lN (2 * (d + 2 ^ n)))), (14, .long (lN (2 * d + 2 ^ n))), (12, .long (lN (2 ^ n))), (8, .long (lN d)), (7, .int half), (5, .long (lN r)), (0, .double x)]) hx hb dX7_root_123 hl (by decide) rfl (fun ls hl => ?_)
        refine lv_lload hx hb dX7_root_125 (lv_at hl 5 rfl) ?_
        refine lv_lload hx hb dX7_root_127 (lv_at hl 1 rfl) ?_
        refine lv_lsub hx hb dX7_root_129 ?_
        rw [lN_sub hle]
        refine lv_lstore (lv' := [(5, .long (lN (r - (2 * d + 2 ^ n)))), (10, .long (lN (2 * (d + 2 ^ n)))), (14, .long (lN (2 * d + 2 ^ n))), (12, .long (lN (2 ^ n))), (8, .long (lN d)), (7, .int half), (0, .double x)]) hx hb dX7_root_130 hl (by decide) rfl (fun ls hl => ?_)
        refine lv_lload hx hb dX7_root_132 (lv_at hl 4 rfl) ?_
        refine lv_lload hx hb dX7_root_134 (lv_at hl 3 rfl) ?_
        refine lv_ladd hx hb dX7_root_136 ?_
        rw [show lN d + lN (2 ^ n) = lN (d + 2 ^ n) from lN_add _ _]
        refine lv_lstore (lv' := [(8, .long (lN (d + 2 ^ n))), (5, .long (lN (r - (2 * d + 2 ^ n)))), (10, .long (lN (2 * (d + 2 ^ n)))), (14, .long (lN (2 * d + 2 ^ n))), (12, .long (lN (2 ^ n))), (7, .int half), (0, .double x)]) hx hb dX7_root_137 hl (by decide) rfl (fun ls hl => ?_)
        refine lv_lload hx hb dX7_root_139 (lv_at hl 1 rfl) ?_
        refine lv_lload hx hb dX7_root_141 (lv_at hl 1 rfl) ?_
        refine lv_ladd hx hb dX7_root_143 ?_
        rw [lN_add]
        refine lv_lstore (lv' := [(5, .long (lN (r - (2 * d + 2 ^ n) + (r - (2 * d + 2 ^ n))))), (8, .long (lN (d + 2 ^ n))), (10, .long (lN (2 * (d + 2 ^ n)))), (14, .long (lN (2 * d + 2 ^ n))), (12, .long (lN (2 ^ n))), (7, .int half), (0, .double x)]) hx hb dX7_root_144 hl (by decide) rfl (fun ls hl => ?_)
        refine lv_lload hx hb dX7_root_146 (lv_at hl 4 rfl) ?_
        refine lv_iconst (v := 1) hx hb dX7_root_148 (by decide) ?_
        refine lv_lshr (v := (lN (2 ^ n)) >>> (Int32.toInt64 1 &&& 63)) hx hb dX7_root_149 rfl ?_
        rw [show lN (2 ^ n) >>> (Int32.toInt64 1 &&& 63) = lN (2 ^ n / 2) from (pf_shr (d := 1) (by decide +kernel) (by omega))]
        refine lv_lstore (lv' := [(12, .long (lN (2 ^ n / 2))), (5, .long (lN (r - (2 * d + 2 ^ n) + (r - (2 * d + 2 ^ n))))), (8, .long (lN (d + 2 ^ n))), (10, .long (lN (2 * (d + 2 ^ n)))), (14, .long (lN (2 * d + 2 ^ n))), (7, .int half), (0, .double x)]) hx hb dX7_root_150 hl (by decide) rfl (fun ls hl => ?_)
        refine lv_goto (tgt := 96) hx hb dX7_root_152 (by decide) ?_
        exact ih (d + 2 ^ n) (r - (2 * d + 2 ^ n) + (r - (2 * d + 2 ^ n))) ls (by omega) q1 q2 (by omega) (lv_sub hl [0, 3, 2, 5, 1, 6] rfl)
set_option maxHeartbeats 4000000 in
set_option maxRecDepth 100000 in
theorem lpX7_ru {p : Program} {l : Launch} {e : Env} {R : Room} {s : State} {m : MethodId} {args : Array Value} {below : List Frame} {meth : Method} {c : Code} {H : Heap} {locs : List Loc} {cells slots : Nat} {Q : State → Prop} (hx : p.tables.exec = Jvm.exec) (hb : c.code = cX7_root) (hown : s.vm.findClass RX7 = some m.cls) (hts : ∀ w ∈ wsX7_root, w.before args s = true) {x : UInt64} {R1 e1 : Nat} (hR : R1 ≤ 2 ^ 53) (k : ∀ (r : UInt64) (ls : Array Slot), dv r R1 e1 → lv_has ls 16 [(14, .int 0), (12, .double r), (0, .double x)] → W p l e R s m args below meth c H locs cells slots Q (F0 m 210 ls [])) : ∀ (n e0 : Nat) (r : UInt64) (ls : Array Slot), dv r R1 e0 → n < 1200 → e0 + n = e1 ∧ e1 ≤ 2000 → lv_has ls 16 [(14, .int (nI n)), (12, .double r), (0, .double x)] → W p l e R s m args below meth c H locs cells slots Q (F0 m 191 ls []) := by
  intro n
  induction n with
  | zero =>
    intro e0 r ls hd hn he hl
    have hee : e0 = e1 := by omega
    subst hee
    refine lv_iload hx hb dX7_root_191 (lv_at hl 0 rfl) ?_
    refine lv_if_le (tgt := 210) hx hb dX7_root_193 (by decide) (fun c1 => ?_) (fun c1 => ?_)
    · exact k r ls hd (lv_sub hl [0, 1, 2] rfl)
    · exact absurd (show nI 0 ≤ 0 by decide) c1
  | succ n ih =>
    intro e0 r ls hd hn he hl
    refine lv_iload hx hb dX7_root_191 (lv_at hl 0 rfl) ?_
    refine lv_if_le (tgt := 210) hx hb dX7_root_193 (by decide) (fun c1 => ?_) (fun c1 => ?_)
    · exact absurd c1 (Int32.not_le.mpr (nI_lt (a := 0) (by omega) (by omega)))
    · refine lv_dload hx hb dX7_root_196 (lv_at hl 1 rfl) ?_
      refine lv_ldc2d hx hb hown (hts (.constantDouble RX7 3 (4611686018427387904)) (by decide +kernel)) dX7_root_198 ?_
      have g2 := sc_mul (j := e0 + 1) hd.1 gf_2.1 hR hd.2 fv_2 (by omega) (by omega)
      refine lv_dmul hx hb dX7_root_201 (fp_n64 g2.1) ?_
      refine lv_topd (fun v3 ev3 => ?_)
      rw [← ev3] at g2
      refine lv_dstore (lv' := [(12, .double v3), (14, .int (nI (n + 1))), (0, .double x)]) hx hb dX7_root_202 hl (by decide) rfl (fun ls hl => ?_)
      refine lv_iinc (v := (nI (n + 1)) + (-1)) (lv' := [(14, .int ((nI (n + 1)) + (-1))), (12, .double v3), (0, .double x)]) hx hb dX7_root_204 hl (k := 1) rfl rfl (by decide) rfl (fun ls hl => ?_)
      refine lv_goto (tgt := 191) hx hb dX7_root_207 (by decide) ?_
      have h9 : lv_has ls 16 [(14, .int (nI n)), (12, .double v3), (0, .double x)] := by have h8 := (lv_sub hl [0, 1, 2] rfl); rw [pk_m1] at h8; exact h8
      exact ih (e0 + 1) _ ls g2 (by omega) (by omega) h9
set_option maxHeartbeats 4000000 in
set_option maxRecDepth 100000 in
theorem lpX7_rw {p : Program} {l : Launch} {e : Env} {R : Room} {s : State} {m : MethodId} {args : Array Value} {below : List Frame} {meth : Method} {c : Code} {H : Heap} {locs : List Loc} {cells slots : Nat} {Q : State → Prop} (hx : p.tables.exec = Jvm.exec) (hb : c.code = cX7_root) (hown : s.vm.findClass RX7 = some m.cls) (hts : ∀ w ∈ wsX7_root, w.before args s = true) {x : UInt64} {R1 e1 : Nat} (hR : R1 ≤ 2 ^ 53) (k : ∀ (r : UInt64) (ls : Array Slot), dv r R1 e1 → lv_has ls 16 [(14, .int 0), (12, .double r), (0, .double x)] → W p l e R s m args below meth c H locs cells slots Q (F0 m 229 ls [])) : ∀ (n e0 : Nat) (r : UInt64) (ls : Array Slot), dv r R1 e0 → n < 1200 → e0 = e1 + n ∧ e0 ≤ 2000 → lv_has ls 16 [(14, .int (mI n)), (12, .double r), (0, .double x)] → W p l e R s m args below meth c H locs cells slots Q (F0 m 210 ls []) := by
  intro n
  induction n with
  | zero =>
    intro e0 r ls hd hn he hl
    have hee : e0 = e1 := by omega
    subst hee
    refine lv_iload hx hb dX7_root_210 (lv_at hl 0 rfl) ?_
    refine lv_if_ge (tgt := 229) hx hb dX7_root_212 (by decide) (fun c1 => ?_) (fun c1 => ?_)
    · exact k r ls hd (lv_sub hl [0, 1, 2] rfl)
    · exact absurd (show (0 : Int32) ≤ mI 0 by decide) c1
  | succ n ih =>
    intro e0 r ls hd hn he hl
    obtain ⟨e9, rfl⟩ : ∃ e9, e0 = e9 + 1 := ⟨e0 - 1, by omega⟩
    refine lv_iload hx hb dX7_root_210 (lv_at hl 0 rfl) ?_
    refine lv_if_ge (tgt := 229) hx hb dX7_root_212 (by decide) (fun c1 => ?_) (fun c1 => ?_)
    · exact absurd c1 (Int32.not_le.mpr (mI_neg (by omega)))
    · refine lv_dload hx hb dX7_root_215 (lv_at hl 1 rfl) ?_
      refine lv_ldc2d hx hb hown (hts (.constantDouble RX7 3 (4611686018427387904)) (by decide +kernel)) dX7_root_217 ?_
      have g2 := sc_div (k := 1) (i := e9) hd.1 gf_2.1 hR hd.2 fv_2 (by omega)
      refine lv_ddiv hx hb dX7_root_220 (fp_n64 g2.1) ?_
      refine lv_topd (fun v3 ev3 => ?_)
      rw [← ev3] at g2
      refine lv_dstore (lv' := [(12, .double v3), (14, .int (mI (n + 1))), (0, .double x)]) hx hb dX7_root_221 hl (by decide) rfl (fun ls hl => ?_)
      refine lv_iinc (v := (mI (n + 1)) + 1) (lv' := [(14, .int ((mI (n + 1)) + 1)), (12, .double v3), (0, .double x)]) hx hb dX7_root_223 hl (k := 1) rfl rfl (by decide) rfl (fun ls hl => ?_)
      refine lv_goto (tgt := 210) hx hb dX7_root_226 (by decide) ?_
      have h9 : lv_has ls 16 [(14, .int (mI n)), (12, .double v3), (0, .double x)] := by have h8 := (lv_sub hl [0, 1, 2] rfl); rw [mI_s] at h8; exact h8
      exact ih e9 _ ls g2 (by omega) (by omega) h9
set_option maxHeartbeats 4000000 in
set_option maxRecDepth 100000 in
theorem lpX7_rz {p : Program} {l : Launch} {e : Env} {R : Room} {s : State} {m : MethodId} {args : Array Value} {below : List Frame} {meth : Method} {c : Code} {H : Heap} {locs : List Loc} {cells slots : Nat} {Q : State → Prop} (hx : p.tables.exec = Jvm.exec) (hb : c.code = cX7_root) (hown : s.vm.findClass RX7 = some m.cls) (hts : ∀ w ∈ wsX7_root, w.before args s = true) {x r : UInt64} {n : Nat} {ls : Array Slot} (hn : n < 1200) (hl : lv_has ls 16 [(14, .int (mI (n + 1))), (12, .double r), (0, .double x)]) (k : ∀ (ls : Array Slot), lv_has ls 16 [(14, .int (mI (n + 1))), (12, .double r), (0, .double x)] → W p l e R s m args below meth c H locs cells slots Q (F0 m 210 ls [])) : W p l e R s m args below meth c H locs cells slots Q (F0 m 191 ls []) := by
  refine lv_iload hx hb dX7_root_191 (lv_at hl 0 rfl) ?_
  refine lv_if_le (tgt := 210) hx hb dX7_root_193 (by decide) (fun c1 => ?_) (fun c1 => ?_)
  · exact k ls hl
  · exact absurd (Int32.le_of_lt (mI_neg (by omega))) c1
set_option maxHeartbeats 4000000 in
set_option maxRecDepth 100000 in
theorem lpX7_re {p : Program} {l : Launch} {e : Env} {R : Room} {s : State} {m : MethodId} {args : Array Value} {below : List Frame} {meth : Method} {c : Code} {H : Heap} {locs : List Loc} {cells slots : Nat} {Q : State → Prop} (hx : p.tables.exec = Jvm.exec) (hb : c.code = cX7_root) (hown : s.vm.findClass RX7 = some m.cls) (hts : ∀ w ∈ wsX7_root, w.before args s = true) {x r : UInt64} {R1 h : Nat} (hR : R1 ≤ 2 ^ 53) (hh : h < 1023) (hd : dv r R1 1074) {ls : Array Slot} (hl : lv_has ls 16 [(14, .int (pI (2 * h) / 2 - 26)), (12, .double r), (0, .double x)]) (k : ∀ (r : UInt64) (ls : Array Slot), dv r R1 (h + 511) → lv_has ls 16 [(14, .int 0), (12, .double r), (0, .double x)] → W p l e R s m args below meth c H locs cells slots Q (F0 m 229 ls [])) : W p l e R s m args below meth c H locs cells slots Q (F0 m 191 ls []) := by
  rw [pI_half h hh] at hl
  by_cases h5 : 563 ≤ h
  · rw [if_pos h5] at hl
    refine lpX7_ru hx hb hown hts (e1 := h + 511) hR (fun r ls hd9 hl => ?_) (h - 563) 1074 r ls hd (by omega) (by omega) hl
    exact lpX7_rw hx hb hown hts (e1 := h + 511) hR k 0 (h + 511) r ls hd9 (by omega) (by omega) hl
  · rw [if_neg h5] at hl
    obtain ⟨n, hn⟩ : ∃ n, 563 - h = n + 1 := ⟨562 - h, by omega⟩
    rw [hn] at hl
    refine lpX7_rz hx hb hown hts (by omega) hl (fun ls hl => ?_)
    exact lpX7_rw hx hb hown hts (e1 := h + 511) hR k (n + 1) 1074 r ls hd (by omega) (by omega) hl
set_option maxRecDepth 100000 in
theorem M106 {N : Nat} (h : N < 2 ^ 54) : N * 2 ^ 52 < 2 ^ 106 := by omega
theorem nw_l2d {R : Nat} (hR : R ≤ 2 ^ 53) : dv (FP.l2d (lN R)) R 1074 := by
  have hT : (lN R).toInt = (R : Int) := pk_lT (by omega)
  have h1 := fv_int (FP.Core.l2d_int (a := lN R) (by rw [hT]; omega))
  rw [hT] at h1
  exact ⟨h1.1, by rw [h1.2, Int.natCast_mul]⟩
set_option maxHeartbeats 4000000 in
set_option maxRecDepth 100000 in
theorem lpX7_rt {p : Program} {l : Launch} {e : Env} {R : Room} {s : State} {m : MethodId} {args : Array Value} {below : List Frame} {meth : Method} {c : Code} {H : Heap} {locs : List Loc} {cells slots : Nat} {Q : State → Prop} (hx : p.tables.exec = Jvm.exec) (hb : c.code = cX7_root) (hown : s.vm.findClass RX7 = some m.cls) (hts : ∀ w ∈ wsX7_root, w.before args s = true) {x : UInt64} {N h : Nat} (hN1 : 2 ^ 52 ≤ N) (hN2 : N < 2 ^ 54) (hh : h < 1023) {ls : Array Slot} (hl : lv_has ls 16 [(7, .int (pI (2 * h))), (5, .long (lN N)), (0, .double x)]) (k : ∀ (A : Nat) (r : UInt64) (ls : Array Slot), A * A < N * 2 ^ 52 + A → N * 2 ^ 52 ≤ A * A + A → dv r A (h + 511) → lv_has ls 16 [(14, .int 0), (12, .double r), (0, .double x)] → W p l e R s m args below meth c H locs cells slots Q (F0 m 229 ls [])) : W p l e R s m args below meth c H locs cells slots Q (F0 m 78 ls []) := by
  refine lv_lload hx hb dX7_root_78 (lv_at hl 1 rfl) ?_
  refine lv_lload hx hb dX7_root_80 (lv_at hl 1 rfl) ?_
  refine lv_ladd hx hb dX7_root_82 ?_
  rw [lN_add]
  refine lv_lstore (lv' := [(5, .long (lN (N + N))), (7, .int (pI (2 * h))), (0, .double x)]) hx hb dX7_root_83 hl (by decide) rfl (fun ls hl => ?_)
  refine lv_lconst (v := 0) hx hb dX7_root_85 (by decide) ?_
  refine lv_lstore (lv' := [(8, .long 0), (5, .long (lN (N + N))), (7, .int (pI (2 * h))), (0, .double x)]) hx hb dX7_root_86 hl (by decide) rfl (fun ls hl => ?_)
  refine lv_lconst (v := 0) hx hb dX7_root_88 (by decide) ?_
  refine lv_lstore (lv' := [(10, .long 0), (8, .long 0), (5, .long (lN (N + N))), (7, .int (pI (2 * h))), (0, .double x)]) hx hb dX7_root_89 hl (by decide) rfl (fun ls hl => ?_)
  refine lv_ldc2 hx hb hown (hts (.constantLong RX7 11 (9007199254740992)) (by decide +kernel)) dX7_root_91 ?_
  refine lv_lstore (lv' := [(12, .long 9007199254740992), (10, .long 0), (8, .long 0), (5, .long (lN (N + N))), (7, .int (pI (2 * h))), (0, .double x)]) hx hb dX7_root_94 hl (by decide) rfl (fun ls hl => ?_)
  have h96 : lv_has ls 16 [(12, .long (lN (2 ^ 54 / 2))), (10, .long (lN (2 * 0))), (8, .long (lN 0)), (7, .int (pI (2 * h))), (5, .long (lN (N + N))), (0, .double x)] := (lv_sub hl [0, 1, 2, 4, 3, 5] rfl)
  refine lpX7_rd hx hb hown hts (X := N * 2 ^ 54) (fun d r ls q1 q2 q3 q4 hl => ?_) 54 0 (N + N) ls (by omega) (by omega) (by omega) (by omega) h96
  obtain ⟨q5, q6, q7⟩ := dg_end hN1 q1 q2
  refine lv_lload hx hb dX7_root_155 (lv_at hl 2 rfl) ?_
  refine lv_lload hx hb dX7_root_157 (lv_at hl 4 rfl) ?_
  refine lv_lconst (v := 0) hx hb dX7_root_159 (by decide) ?_
  refine W.lcmp hx hb dX7_root_160 ?_
  refine lv_if_eq (tgt := 171) hx hb dX7_root_161 (by decide) (fun c1 => ?_) (fun c1 => ?_)
  · rw [lg_cmp_eq] at c1
    have hr0 : r = 0 := (pk_lEQ (b := 0) (by omega) (by omega)).mp c1
    have hd0 : d % 2 = 0 := q5.resolve_right (fun hc => hc hr0)
    refine lv_lconst (v := 0) hx hb dX7_root_171 (by decide) ?_
    refine lv_ladd hx hb dX7_root_172 ?_
    rw [show lN d + 0 = lN (d + d % 2) by rw [hd0]; exact lN_add d 0]
    refine lv_lstore (lv' := [(8, .long (lN (d + d % 2))), (12, .long 0), (10, .long (lN (2 * d))), (7, .int (pI (2 * h))), (5, .long (lN r)), (0, .double x)]) hx hb dX7_root_173 hl (by decide) rfl (fun ls hl => ?_)
    refine lv_lload hx hb dX7_root_175 (lv_at hl 0 rfl) ?_
    refine lv_iconst (v := 1) hx hb dX7_root_177 (by decide) ?_
    refine lv_lshr (v := (lN (d + d % 2)) >>> (Int32.toInt64 1 &&& 63)) hx hb dX7_root_178 rfl ?_
    rw [show lN (d + d % 2) >>> (Int32.toInt64 1 &&& 63) = lN ((d + d % 2) / 2) from (pf_shr (d := 1) (by decide +kernel) (by omega))]
    refine lv_l2d hx hb dX7_root_179 ?_
    have hR : (d + d % 2) / 2 ≤ 2 ^ 53 := rt_sq_le (M106 hN2) q6
    have hf := nw_l2d hR
    refine lv_dstore (lv' := [(12, .double (FP.l2d (lN ((d + d % 2) / 2)))), (8, .long (lN (d + d % 2))), (10, .long (lN (2 * d))), (7, .int (pI (2 * h))), (5, .long (lN r)), (0, .double x)]) hx hb dX7_root_180 hl (by decide) rfl (fun ls hl => ?_)
    refine lv_iload hx hb dX7_root_182 (lv_at hl 3 rfl) ?_
    refine lv_iconst (v := 2) hx hb dX7_root_184 (by decide) ?_
    refine lv_idiv hx hb dX7_root_185 (by decide) ?_
    refine lv_bipush (v := 26) hx hb dX7_root_186 (by decide) ?_
    refine lv_isub hx hb dX7_root_188 ?_
    refine lv_istore (lv' := [(14, .int (((pI (2 * h)) / 2) - 26)), (12, .double (FP.l2d (lN ((d + d % 2) / 2)))), (8, .long (lN (d + d % 2))), (10, .long (lN (2 * d))), (7, .int (pI (2 * h))), (5, .long (lN r)), (0, .double x)]) hx hb dX7_root_189 hl (by decide) rfl (fun ls hl => ?_)
    have h191 : lv_has ls 16 [(14, .int (pI (2 * h) / 2 - 26)), (12, .double (FP.l2d (lN ((d + d % 2) / 2)))), (0, .double x)] := (lv_sub hl [0, 1, 6] rfl)
    exact lpX7_re hx hb hown hts hR hh hf h191 (fun r ls hd9 hl => k _ r ls q6 q7 hd9 hl)
  · rw [lg_cmp_eq] at c1
    refine lv_lload hx hb dX7_root_164 (lv_at hl 2 rfl) ?_
    refine lv_lconst (v := 1) hx hb dX7_root_166 (by decide) ?_
    refine lv_land hx hb dX7_root_167 ?_
    rw [g_and1 (by omega)]
    refine lv_goto (tgt := 172) hx hb dX7_root_168 (by decide) ?_
    refine lv_ladd hx hb dX7_root_172 ?_
    rw [lN_add]
    refine lv_lstore (lv' := [(8, .long (lN (d + d % 2))), (12, .long 0), (10, .long (lN (2 * d))), (7, .int (pI (2 * h))), (5, .long (lN r)), (0, .double x)]) hx hb dX7_root_173 hl (by decide) rfl (fun ls hl => ?_)
    refine lv_lload hx hb dX7_root_175 (lv_at hl 0 rfl) ?_
    refine lv_iconst (v := 1) hx hb dX7_root_177 (by decide) ?_
    refine lv_lshr (v := (lN (d + d % 2)) >>> (Int32.toInt64 1 &&& 63)) hx hb dX7_root_178 rfl ?_
    rw [show lN (d + d % 2) >>> (Int32.toInt64 1 &&& 63) = lN ((d + d % 2) / 2) from (pf_shr (d := 1) (by decide +kernel) (by omega))]
    refine lv_l2d hx hb dX7_root_179 ?_
    have hR : (d + d % 2) / 2 ≤ 2 ^ 53 := rt_sq_le (M106 hN2) q6
    have hf := nw_l2d hR
    refine lv_dstore (lv' := [(12, .double (FP.l2d (lN ((d + d % 2) / 2)))), (8, .long (lN (d + d % 2))), (10, .long (lN (2 * d))), (7, .int (pI (2 * h))), (5, .long (lN r)), (0, .double x)]) hx hb dX7_root_180 hl (by decide) rfl (fun ls hl => ?_)
    refine lv_iload hx hb dX7_root_182 (lv_at hl 3 rfl) ?_
    refine lv_iconst (v := 2) hx hb dX7_root_184 (by decide) ?_
    refine lv_idiv hx hb dX7_root_185 (by decide) ?_
    refine lv_bipush (v := 26) hx hb dX7_root_186 (by decide) ?_
    refine lv_isub hx hb dX7_root_188 ?_
    refine lv_istore (lv' := [(14, .int (((pI (2 * h)) / 2) - 26)), (12, .double (FP.l2d (lN ((d + d % 2) / 2)))), (8, .long (lN (d + d % 2))), (10, .long (lN (2 * d))), (7, .int (pI (2 * h))), (5, .long (lN r)), (0, .double x)]) hx hb dX7_root_189 hl (by decide) rfl (fun ls hl => ?_)
    have h191 : lv_has ls 16 [(14, .int (pI (2 * h) / 2 - 26)), (12, .double (FP.l2d (lN ((d + d % 2) / 2)))), (0, .double x)] := (lv_sub hl [0, 1, 6] rfl)
    exact lpX7_re hx hb hown hts hR hh hf h191 (fun r ls hd9 hl => k _ r ls q6 q7 hd9 hl)
set_option maxHeartbeats 4000000 in
set_option maxRecDepth 100000 in
theorem mX7_root (l : Launch) (x : UInt64)  (hok : fRt x) : Met l yX7_root wsX7_root ({ frames := 0, cells := 0, slots := 0, locals := 0 }) (va_Pc [.double x] (fun _ => True)) (va_Qd (fun (r : UInt64) (u : Unit) => r = fsq x ∧ IsRt x r) (fun _ _ => True) nA) 0 0 nA := by
  refine Met.ofW (cc := cX7_root) (maxL := 16) (ret := (some .double)) (by decide) rfl ?_
  intro p e s m args below meth c s₁ B hml hv
  obtain ⟨rfl, -⟩ := hv
  have hx := B.exec
  have hb := B.bytes
  have hr := B.returns
  have hts := atoms_spec (ws := wsX7_root) B.pre
  have hown : s.vm.findClass RX7 = some m.cls := findClass_of_methodNamed B.named
  have hlocks := B.notSynchronized
  have hS : va_S nA s.heap s.heap [] := va_S.rf
  have hl := lv_entry ([.double x]) (n := 16) (Nat.le_of_ble_eq_true rfl)
  rw [lg_entry_eq]
  generalize (lg_sl ([.double x]) ++ List.replicate (16 - (lg_sl ([.double x])).length) Slot.unset).toArray = ls at hl ⊢
  have hl : lv_has ls 16 [(0, .double x)] := hl
  skip
  rcases hok with h0 | ⟨hf, h0, hf2⟩
  · subst h0
    refine lv_dload_n hx hb dX7_root_0 rfl (lv_at hl 0 rfl) ?_
    refine lv_dconst0 hx hb dX7_root_1 ?_
    refine lv_dcmp hx hb dX7_root_2 ?_
    rw [show Op.cmpValue (FP.dcmp 0 FP.dconst0) CmpOp.l = 0 by decide +kernel]
    refine lv_if_ne (tgt := 8) hx hb dX7_root_3 (by decide) (fun c2 => absurd c2 (by decide)) (fun _ => ?_)
    refine lv_dload_n hx hb dX7_root_6 rfl (lv_at hl 0 rfl) ?_
    have hq : IsRt 0 0 := Or.inl ⟨rfl, rfl⟩
    exact W.dret (v := 0) hx hb hr (fun t ht hW => ⟨⟨0, (), rfl, ⟨fsq_eq hq, hq⟩, trivial⟩, hS.F ht⟩) hS.2.2 dX7_root_7
  · obtain ⟨sg, cc, i, hc1, hc2, hi, hv, -⟩ := fv_normb hf ⟨by omega, by generalize (2 : Nat) ^ 2090 = T at hf2 ⊢; omega⟩
    have hP0 : 0 < cc * 2 ^ i := Nat.mul_pos (by omega) (Nat.two_pow_pos i)
    have hd : dv x cc i := by
      cases sg with
      | false => exact ⟨hf, hv⟩
      | true =>
        have hv2 : fv x = -((cc * 2 ^ i : Nat) : Int) := hv
        omega
    refine lv_dload_n hx hb dX7_root_0 rfl (lv_at hl 0 rfl) ?_
    refine lv_dconst0 hx hb dX7_root_1 ?_
    refine lv_dcmp hx hb dX7_root_2 ?_
    rw [fp_cv hd.1 gf_c0.1]
    refine lv_if_ne (tgt := 8) hx hb dX7_root_3 (by decide) (fun c1 => ?_) (fun c1 => ?_)
    · rw [fcv_eq] at c1
      refine lv_dload_n hx hb dX7_root_8 rfl (lv_at hl 0 rfl) ?_
      refine lv_dstore_n (lv' := [(2, .double x), (0, .double x)]) hx hb dX7_root_9 rfl hl (by decide) rfl (fun ls hl => ?_)
      refine lv_iconst (v := 0) hx hb dX7_root_10 (by decide) ?_
      refine lv_istore (lv' := [(4, .int 0), (2, .double x), (0, .double x)]) hx hb dX7_root_11 hl (by decide) rfl (fun ls hl => ?_)
      have h13 : lv_has ls 16 [(4, .int (pI 1074)), (2, .double x), (0, .double x)] := (lv_sub hl [0, 1, 2] rfl)
      refine lpX7_r0 hx hb hown hts hc1 hc2 hi hd h13 (fun y ls hd9 hl => ?_)
      refine lv_dload_n hx hb dX7_root_53 rfl (lv_at hl 1 rfl) ?_
      refine lv_d2l hx hb dX7_root_54 ?_
      rw [fv_d2l hd9.1 hd9.2 (by omega)]
      refine lv_lstore (lv' := [(5, .long (lN cc)), (4, .int (pI i)), (2, .double y), (0, .double x)]) hx hb dX7_root_55 hl (by decide) rfl (fun ls hl => ?_)
      refine lv_iload hx hb dX7_root_57 (lv_at hl 1 rfl) ?_
      refine lv_istore (lv' := [(7, .int (pI i)), (5, .long (lN cc)), (4, .int (pI i)), (2, .double y), (0, .double x)]) hx hb dX7_root_59 hl (by decide) rfl (fun ls hl => ?_)
      refine lv_iload hx hb dX7_root_61 (lv_at hl 2 rfl) ?_
      refine lv_iconst (v := 2) hx hb dX7_root_63 (by decide) ?_
      refine lv_irem hx hb dX7_root_64 (by decide) ?_
      refine lv_if_eq (tgt := 78) hx hb dX7_root_65 (by decide) (fun c2 => ?_) (fun c2 => ?_)
      · have hpar := (pI_par i (by omega)).mp c2
        obtain ⟨h, rfl⟩ : ∃ h, i = 2 * h := ⟨i / 2, by omega⟩
        have hdN : dv x cc (2 * h) := hd
        obtain ⟨N, hNe⟩ : ∃ N, N = cc := ⟨_, rfl⟩
        have h78 : lv_has ls 16 [(7, .int (pI (2 * h))), (5, .long (lN cc)), (0, .double x)] := (lv_sub hl [0, 1, 4] rfl)
        rw [← hNe] at h78 hdN
        have hN1 : 2 ^ 52 ≤ N := by omega
        have hN2 : N < 2 ^ 54 := by omega
        refine lpX7_rt hx hb hown hts hN1 hN2 (by omega) h78 (fun R r ls hq1 hq2 hq3 hl => ?_)
        refine lv_dload hx hb dX7_root_229 (lv_at hl 1 rfl) ?_
        have hq : IsRt x r := Or.inr ⟨N, h, R, hdN, hN1, hN2, hq1, hq2, hq3⟩
        exact W.dret (v := r) hx hb hr (fun t ht hW => ⟨⟨r, (), rfl, ⟨fsq_eq hq, hq⟩, trivial⟩, hS.F ht⟩) hS.2.2 dX7_root_231
      · have hpar : i % 2 = 1 := by have := mt (pI_par i (by omega)).mpr c2; omega
        obtain ⟨h, rfl⟩ : ∃ h, i = 2 * h + 1 := ⟨i / 2, by omega⟩
        have hdN : dv x (cc + cc) (2 * h) := ⟨hd.1, by rw [hd.2, Nat.pow_succ, Nat.mul_comm (2 ^ (2 * h)) 2, ← Nat.mul_assoc]; congr 2; omega⟩
        refine lv_lload hx hb dX7_root_68 (lv_at hl 1 rfl) ?_
        refine lv_lload hx hb dX7_root_70 (lv_at hl 1 rfl) ?_
        refine lv_ladd hx hb dX7_root_72 ?_
        refine lv_lstore (lv' := [(5, .long ((lN cc) + (lN cc))), (7, .int (pI (2 * h + 1))), (4, .int (pI (2 * h + 1))), (2, .double y), (0, .double x)]) hx hb dX7_root_73 hl (by decide) rfl (fun ls hl => ?_)
        refine lv_iinc (v := (pI (2 * h + 1)) + (-1)) (lv' := [(7, .int ((pI (2 * h + 1)) + (-1))), (5, .long ((lN cc) + (lN cc))), (4, .int (pI (2 * h + 1))), (2, .double y), (0, .double x)]) hx hb dX7_root_75 hl (k := 1) rfl rfl (by decide) rfl (fun ls hl => ?_)
        obtain ⟨N, hNe⟩ : ∃ N, N = cc + cc := ⟨_, rfl⟩
        have h78 : lv_has ls 16 [(7, .int (pI (2 * h))), (5, .long (lN (cc + cc))), (0, .double x)] := by have h8 := (lv_sub hl [0, 1, 4] rfl); rw [lN_add, pI_p] at h8; exact h8
        rw [← hNe] at h78 hdN
        have hN1 : 2 ^ 52 ≤ N := by omega
        have hN2 : N < 2 ^ 54 := by omega
        refine lpX7_rt hx hb hown hts hN1 hN2 (by omega) h78 (fun R r ls hq1 hq2 hq3 hl => ?_)
        refine lv_dload hx hb dX7_root_229 (lv_at hl 1 rfl) ?_
        have hq : IsRt x r := Or.inr ⟨N, h, R, hdN, hN1, hN2, hq1, hq2, hq3⟩
        exact W.dret (v := r) hx hb hr (fun t ht hW => ⟨⟨r, (), rfl, ⟨fsq_eq hq, hq⟩, trivial⟩, hS.F ht⟩) hS.2.2 dX7_root_231
    · rw [fcv_eq] at c1
      exact absurd c1 (by rw [fv_c0]; omega)
end
section
/-! WHAT A HANGING TELLS, in doubles as the document has them; how big and how fine these numbers are -/
def cB (v : Int32) : Prop := -1000 ≤ v.toInt ∧ v.toInt ≤ 1000
def aB (v : Int32) : Prop := 50 ≤ v.toInt ∧ v.toInt ≤ 1000
def yB (v : Int32) : Prop := -1001 ≤ v.toInt ∧ v.toInt ≤ 1001
theorem i3_add {a b : Int32} (h : -2 ^ 31 ≤ a.toInt + b.toInt) (h' : a.toInt + b.toInt < 2 ^ 31) : (a + b).toInt = a.toInt + b.toInt := by
  rw [Int32.toInt_add]; exact Int.bmod_eq_of_le (by omega) (by omega)
theorem i3_sub {a b : Int32} (h : -2 ^ 31 ≤ a.toInt - b.toInt) (h' : a.toInt - b.toInt < 2 ^ 31) : (a - b).toInt = a.toInt - b.toInt := by
  rw [Int32.toInt_sub]; exact Int.bmod_eq_of_le (by omega) (by omega)
theorem i3_mul {a b : Int32} (h : -2 ^ 31 ≤ a.toInt * b.toInt) (h' : a.toInt * b.toInt < 2 ^ 31) : (a * b).toInt = a.toInt * b.toInt := by
  rw [Int32.toInt_mul]; exact Int.bmod_eq_of_le (by omega) (by omega)
theorem z_sq {z k : Int} (h1 : -k ≤ z) (h2 : z ≤ k) : z * z ≤ k * k ∧ 0 ≤ z * z := by
  have e1 : 0 ≤ (k - z) * (k + z) := Int.mul_nonneg (by omega) (by omega)
  have e2 : (k - z) * (k + z) = k * k - z * z := by rw [Int.sub_mul, Int.mul_add, Int.mul_add, Int.mul_comm z k]; omega
  have e3 : 0 ≤ z * z := by
    rcases Int.le_total 0 z with h | h
    · exact Int.mul_nonneg h h
    · exact Int.mul_nonneg_of_nonpos_of_nonpos h h
  omega
def tH (b ly y : Int32) : Int32 := b * b - (y - ly) * (y - ly)
noncomputable def tPx (lx ly b y : Int32) : UInt64 := FP.dadd (FP.i2d lx) (fsq (FP.i2d (tH b ly y)))
noncomputable def tDx (U lx ly b y : Int32) : UInt64 := FP.dsub (FP.i2d U) (tPx lx ly b y)
def tDy (V y : Int32) : UInt64 := FP.dsub (FP.i2d V) (FP.i2d y)
noncomputable def tE (U V lx ly b y : Int32) : UInt64 := FP.dadd (FP.dmul (tDx U lx ly b y) (tDx U lx ly b y)) (FP.dmul (tDy V y) (tDy V y))
noncomputable def tM (U V lx ly a b c y : Int32) : UInt64 := FP.ddiv (FP.dadd (FP.i2d (c * c - a * a)) (tE U V lx ly b y)) (FP.dmul 4611686018427387904 (tE U V lx ly b y))
noncomputable def tK (U V lx ly a b c y : Int32) : UInt64 := FP.dsub (FP.ddiv (FP.i2d (c * c)) (tE U V lx ly b y)) (FP.dmul (tM U V lx ly a b c y) (tM U V lx ly a b c y))
noncomputable def tS (U V lx ly a b c sd y : Int32) : UInt64 := FP.dmul (FP.i2d sd) (fsq (tK U V lx ly a b c y))
noncomputable def tQx (U V lx ly a b c sd y : Int32) : UInt64 := FP.dadd (FP.dadd (tPx lx ly b y) (FP.dmul (tM U V lx ly a b c y) (tDx U lx ly b y))) (FP.dmul (tS U V lx ly a b c sd y) (tDy V y))
noncomputable def tQy (U V lx ly a b c sd y : Int32) : UInt64 := FP.dsub (FP.dadd (FP.i2d y) (FP.dmul (tM U V lx ly a b c y) (tDy V y))) (FP.dmul (tS U V lx ly a b c sd y) (tDx U lx ly b y))
noncomputable def tVx (U V lx ly a b c sd y : Int32) : UInt64 := FP.ddiv (FP.dsub (tQx U V lx ly a b c sd y) (tPx lx ly b y)) (FP.i2d c)
noncomputable def tVy (U V lx ly a b c sd y : Int32) : UInt64 := FP.ddiv (FP.dsub (tQy U V lx ly a b c sd y) (FP.i2d y)) (FP.i2d c)
def tFree (U V lx ly a b c y : Int32) : Prop := 0 ≤ tH b ly y ∧ fv (tE U V lx ly b y) ≠ 0 ∧ 0 ≤ fv (tK U V lx ly a b c y)
def pB (U V lx ly a b c y : Int32) : Prop := cB U ∧ cB V ∧ cB lx ∧ cB ly ∧ aB a ∧ aB b ∧ aB c ∧ yB y
theorem cB_k {v : Int32} (h : cB v) : v.toInt.natAbs ≤ 2 ^ 10 := by obtain ⟨h1, h2⟩ := h; omega
theorem aB_k {v : Int32} (h : aB v) : v.toInt.natAbs ≤ 2 ^ 10 := by obtain ⟨h1, h2⟩ := h; omega
theorem yB_k {v : Int32} (h : yB v) : v.toInt.natAbs ≤ 2 ^ 10 := by obtain ⟨h1, h2⟩ := h; omega
theorem tH_int {b ly y : Int32} (hb : aB b) (hl : cB ly) (hy : yB y) : (tH b ly y).toInt = b.toInt * b.toInt - (y.toInt - ly.toInt) * (y.toInt - ly.toInt) ∧ (tH b ly y).toInt ≤ 2 ^ 20 := by
  obtain ⟨b1, b2⟩ := hb
  obtain ⟨l1, l2⟩ := hl
  obtain ⟨y1, y2⟩ := hy
  have e1 := i3_sub (a := y) (b := ly) (by omega) (by omega)
  have q1 := z_sq (z := b.toInt) (k := 1000) (by omega) (by omega)
  have q2 := z_sq (z := y.toInt - ly.toInt) (k := 2001) (by omega) (by omega)
  have e2 := i3_mul (a := b) (b := b) (by omega) (by omega)
  have e3 := i3_mul (a := y - ly) (b := y - ly) (by rw [e1]; omega) (by rw [e1]; omega)
  rw [e1] at e3
  have e4 := i3_sub (a := b * b) (b := (y - ly) * (y - ly)) (by rw [e2, e3]; omega) (by rw [e2, e3]; omega)
  rw [e2, e3] at e4
  unfold tH
  rw [e4]
  exact ⟨rfl, by omega⟩
theorem i_nn {x : Int32} : 0 ≤ x ↔ 0 ≤ x.toInt := Int32.le_iff_toInt_le
theorem tH_k {b ly y : Int32} (hb : aB b) (hl : cB ly) (hy : yB y) (h0 : 0 ≤ tH b ly y) : (tH b ly y).toInt.natAbs ≤ 2 ^ 20 := by
  have h1 := (tH_int hb hl hy).2
  have h2 := i_nn.mp h0
  omega
theorem sq2_k {c : Int32} (hc : aB c) : (c * c).toInt = c.toInt * c.toInt ∧ 2500 ≤ c.toInt * c.toInt ∧ c.toInt * c.toInt ≤ 1000000 := by
  obtain ⟨c1, c2⟩ := hc
  have q1 := z_sq (z := c.toInt) (k := 1000) (by omega) (by omega)
  have q2 : 50 * 50 ≤ c.toInt * c.toInt := Int.mul_le_mul c1 c1 (by omega) (by omega)
  exact ⟨i3_mul (by omega) (by omega), by omega, by omega⟩
theorem ca_k {a c : Int32} (ha : aB a) (hc : aB c) : (c * c - a * a).toInt.natAbs ≤ 2 ^ 20 := by
  obtain ⟨e1, e2, e3⟩ := sq2_k hc
  obtain ⟨f1, f2, f3⟩ := sq2_k ha
  rw [i3_sub (by rw [e1, f1]; omega) (by rw [e1, f1]; omega), e1, f1]
  omega
theorem cc_k {c : Int32} (hc : aB c) : (c * c).toInt.natAbs ≤ 2 ^ 20 := by
  obtain ⟨e1, e2, e3⟩ := sq2_k hc
  rw [e1]
  omega
/-! there is a root -/
theorem dv_ex (R i : Nat) (h1 : 2 ^ 52 ≤ R) (h2 : R ≤ 2 ^ 53) (hi : i ≤ 2000) : ∃ r, dv r R i := by
  have key : ∀ c j : Nat, 2 ^ 52 ≤ c → c < 2 ^ 53 → j ≤ 2001 → ∃ r, dv r c j := fun c j k1 k2 k3 => by
    have hf : FP.Core.fits FP.Core.b64 (.fin false c ((j : Int) - 1074)) := by
      refine ⟨k2, ?_, ?_, Or.inr ?_⟩
      · rw [fp_qmin]; omega
      · rw [fp_qmax]; omega
      · rw [fp_tails]; exact k1
    have hv := FP.Core.val64_of64 hf
    refine ⟨FP.Core.of64 (.fin false c ((j : Int) - 1074)), ⟨false, c, _, hv⟩, ?_⟩
    unfold fv
    rw [hv]
    show ((c * 2 ^ (((j : Int) - 1074) - FP.Core.b64.qmin).toNat : Nat) : Int) = _
    rw [fp_qmin, show (((j : Int) - 1074) - -1074).toNat = j by omega]
  rcases Nat.lt_or_ge R (2 ^ 53) with h | h
  · exact key R i h1 h (by omega)
  · obtain ⟨r, d1, d2⟩ := key (2 ^ 52) (i + 1) (by omega) (by omega) (by omega)
    refine ⟨r, d1, ?_⟩
    rw [d2, show R = 2 ^ 53 by omega, Nat.pow_succ 2 i]
    congr 1
    omega
set_option maxRecDepth 100000 in
theorem rt_ex {x : UInt64} (h : fRt x) : IsRt x (fsq x) := by
  refine Classical.epsilon_spec (p := IsRt x) ?_
  rcases h with h | ⟨h1, h2, -⟩
  · exact ⟨0, Or.inl ⟨h, rfl⟩⟩
  · obtain ⟨N, h, hd, hN1, hN2, hh⟩ := rt_norm h1 h2
    obtain ⟨A, a1, a2⟩ : ∃ A : Nat, A * A ≤ N * 2 ^ 52 ∧ N * 2 ^ 52 < (A + 1) * (A + 1) := ⟨_, FP.Core.sqrtFloor_spec (N * 2 ^ 52)⟩
    have e2 : (A + 1) * (A + 1) = A * A + 2 * A + 1 := by simp only [Nat.add_mul, Nat.mul_add, Nat.mul_one, Nat.one_mul]; omega
    have hA1 : 2 ^ 52 ≤ A := by
      refine Nat.le_of_not_lt fun hlt => ?_
      have := Nat.mul_le_mul (show A + 1 ≤ 2 ^ 52 by omega) (show A + 1 ≤ 2 ^ 52 by omega)
      omega
    have hM := M106 hN2
    obtain ⟨R, r1, r2, r3⟩ : ∃ R : Nat, R * R < N * 2 ^ 52 + R ∧ N * 2 ^ 52 ≤ R * R + R ∧ 2 ^ 52 ≤ R := by
      by_cases hc : N * 2 ^ 52 ≤ A * A + A
      · exact ⟨A, by omega, hc, hA1⟩
      · exact ⟨A + 1, by rw [e2]; omega, by rw [e2] at a2 ⊢; omega, by omega⟩
    obtain ⟨r, hr⟩ := dv_ex R (h + 511) r3 (rt_sq_le hM r1) (by omega)
    exact ⟨r, Or.inr ⟨N, h, R, hd, hN1, hN2, r1, r2, hr⟩⟩
/-! signs and zeros -/
theorem sqr_nn {x : UInt64} {a b : Nat} (h : fGr a b x) (hb : 2 * b ≤ 3170) : 0 ≤ fv (FP.dmul x x) := by
  have hlt : (fv x * fv x).natAbs < 2 ^ 1074 * 2 ^ 2097 := by
    rw [Int.natAbs_mul, ← Nat.pow_add]
    refine Nat.lt_of_le_of_lt (Nat.mul_le_mul h.2.2 h.2.2) ?_
    rw [← Nat.pow_add]
    exact Nat.pow_lt_pow_right (by omega) (by omega)
  obtain ⟨-, f⟩ := fp_mul h.1 h.1 hlt
  refine f.2.1 ?_
  rcases Int.le_total 0 (fv x) with h | h
  · exact Int.mul_nonneg h h
  · exact Int.mul_nonneg_of_nonpos_of_nonpos h h
theorem add_nn {x y : UInt64} {a1 b1 a2 b2 : Nat} (h1 : fGr a1 b1 x) (h2 : fGr a2 b2 y) (hx : 0 ≤ fv x) (hy : 0 ≤ fv y) (hb1 : b1 ≤ 2000) (hb2 : b2 ≤ 2000) : 0 ≤ fv (FP.dadd x y) ∧ (fv (FP.dadd x y) = 0 → fv x = 0 ∧ fv y = 0) := by
  have k1 : 2 ^ b1 ≤ 2 ^ 2000 := Nat.pow_le_pow_right (by omega) hb1
  have k2 : 2 ^ b2 ≤ 2 ^ 2000 := Nat.pow_le_pow_right (by omega) hb2
  have k3 : (2 : Nat) ^ 2001 = 2 * 2 ^ 2000 := by rw [Nat.pow_succ, Nat.mul_comm]
  have k4 : (2 : Nat) ^ 2001 < 2 ^ 2097 := Nat.pow_lt_pow_right (by omega) (by omega)
  have k5 := h1.2.2
  have k6 := h2.2.2
  have hlt : (fv x + fv y).natAbs < 2 ^ 2097 := by
    generalize (2 : Nat) ^ 2000 = T at k1 k2 k3
    generalize (2 : Nat) ^ 2001 = T1 at k3 k4
    generalize (2 : Nat) ^ 2097 = T2 at k4 ⊢
    generalize 2 ^ b1 = T3 at k1 k5
    generalize 2 ^ b2 = T4 at k2 k6
    omega
  obtain ⟨-, f1, f2, f3⟩ := fp_add h1.1 h2.1 hlt
  refine ⟨f2 (by omega), fun h0 => ?_⟩
  rw [h0] at f1
  have hz : (fv x + fv y).natAbs = 0 := by
    refine Nat.eq_zero_of_not_pos fun hp => ?_
    have := rn_lo (b := 0) (by omega) f1 (by rw [Nat.one_mul]; exact hp)
    exact absurd this (by decide)
  omega
theorem mul_pz {x : UInt64} {a b : Nat} (h : fGr a b x) (hb : 2 * b ≤ 3170) (h0 : fv (FP.dmul x x) = 0) : FP.dmul x x = 0 := by
  have hlt : (fv x * fv x).natAbs < 2 ^ 1074 * 2 ^ 2097 := by
    rw [Int.natAbs_mul, ← Nat.pow_add]
    refine Nat.lt_of_le_of_lt (Nat.mul_le_mul h.2.2 h.2.2) ?_
    rw [← Nat.pow_add]
    exact Nat.pow_lt_pow_right (by omega) (by omega)
  obtain ⟨⟨s, c, q, hv⟩, -⟩ := fp_mul h.1 h.1 hlt
  obtain ⟨s1, c1, q1, hx⟩ := h.1
  have hs : s = false := by
    have h1 := FP.Core.val64_dmul x x
    rw [hx, show FP.Core.exactProduct (.fin s1 c1 q1) (.fin s1 c1 q1) = .fin (s1 != s1) (c1 * c1) (q1 + q1) from rfl] at h1
    have h2 := congrArg FP.Core.sgn h1
    rw [show FP.Core.round FP.Core.b64 (.fin (s1 != s1) (c1 * c1) (q1 + q1)) = FP.Core.roundRatio FP.Core.b64 (s1 != s1) (c1 * c1) 1 (q1 + q1) from rfl, FP.Core.sgn_roundRatio, hv] at h2
    rw [show s = (s1 != s1) from h2]
    cases s1 <;> rfl
  subst hs
  have hc : c = 0 := by
    have : fv (FP.dmul x x) = ((c * 2 ^ (q - FP.Core.b64.qmin).toNat : Nat) : Int) := by unfold fv; rw [hv]; rfl
    rw [h0] at this
    have h2 : c * 2 ^ (q - FP.Core.b64.qmin).toNat = 0 := by omega
    rcases Nat.mul_eq_zero.mp h2 with h | h
    · exact h
    · exact absurd h (Nat.ne_of_gt (Nat.two_pow_pos _))
  subst hc
  have hq := FP.Core.fits_zero_q FP.Core.good_b64 (fp_fits hv)
  subst hq
  refine FP.Core.val64_inj ?_ (hv.trans FP.Core.val64_dconst0.symm)
  exact (fun hn => by rw [hv] at hn; exact nomatch hn)
end
section
/-! HOW BIG AND HOW FINE the numbers of a pose are -/
theorem i2d_0 : FP.i2d 0 = 0 := by decide +kernel
theorem rt_int {v : Int32} {k : Nat} (h0 : 0 ≤ v) (hk : v.toInt.natAbs ≤ 2 ^ k) (hk2 : k ≤ 31) : fRt (FP.i2d v) := by
  refine fRt_gr (gf_i2d k hk) (by omega) (by omega) ?_ ?_
  · rw [fv_i2d]
    exact Int.mul_nonneg (i_nn.mp h0) (Int.natCast_nonneg _)
  · intro hz
    rw [fv_i2d] at hz
    have : v.toInt = 0 := by
      rcases Int.mul_eq_zero.mp hz with h | h
      · exact h
      · exact absurd (Int.ofNat_eq_zero.mp h) (Nat.ne_of_gt (Nat.two_pow_pos _))
    have hv : v = 0 := Int32.toInt_inj.mp this
    rw [hv]
    exact i2d_0
theorem fv_grid0 {x : UInt64} (hx : FP.Core.DFin x) {a : Nat} (h : fv x = 0 ∨ 2 ^ (a + 52) ≤ (fv x).natAbs) : 2 ^ a ∣ (fv x).natAbs := by
  rcases h with h | h
  · rw [h]; exact Nat.dvd_zero _
  · exact fv_grid hx h
theorem dbl {e : UInt64} {a b : Nat} (he : fGr a b e) (hb : b ≤ 2090) : FP.Core.DFin (FP.dmul 4611686018427387904 e) ∧ fv (FP.dmul 4611686018427387904 e) = 2 * fv e := by
  have hl : (fv 4611686018427387904 * fv e).natAbs = 2 ^ 1074 * (2 * (fv e).natAbs) := by
    rw [Int.natAbs_mul, fv_2, Int.natAbs_natCast, show (1075 : Nat) = 1074 + 1 from rfl, Nat.pow_succ, Nat.mul_assoc]
  have hb2 : 2 * (fv e).natAbs ≤ 2 ^ (b + 1) := by rw [Nat.pow_succ, Nat.mul_comm]; exact Nat.mul_le_mul_right _ he.2.2
  obtain ⟨f1, f2⟩ := fp_mul gf_2.1 he.1 (by
    rw [hl]
    refine Nat.mul_lt_mul_of_pos_left (Nat.lt_of_le_of_lt hb2 (Nat.pow_lt_pow_right (by omega) (by omega))) (Nat.two_pow_pos _))
  obtain ⟨c, i, hc, e1⟩ := fv_rep he.1
  have h4 := rn_exact (m := c) (i := i + 1) (Nat.two_pow_pos 1074) f2.1 (by rw [hl, e1]; congr 1; rw [Nat.pow_succ, Nat.mul_comm 2, Nat.mul_assoc]) (Nat.le_of_lt hc)
  have e5 : c * 2 ^ (i + 1) = 2 * (fv e).natAbs := by rw [e1, Nat.pow_succ, ← Nat.mul_assoc, Nat.mul_comm]
  rw [e5] at h4
  refine ⟨f1, ?_⟩
  have g1 := f2.2.1
  have g2 := f2.2.2
  rw [fv_2] at g1 g2
  have hp : (0 : Int) ≤ ((2 ^ 1075 : Nat) : Int) := Int.natCast_nonneg _
  rcases Int.le_total 0 (fv e) with h | h
  · have := g1 (Int.mul_nonneg hp h)
    omega
  · have := g2 (Int.mul_nonpos_of_nonneg_of_nonpos hp h)
    omega
theorem rn_nz {A B Z : Nat} (hB : 0 < B) (h : fRn A B Z) (hA : B ≤ A) : 1 ≤ Z := rn_lo (b := 0) hB h (by rw [Nat.pow_zero, Nat.mul_one]; exact hA)
theorem gm_aux {C E S : Nat} {n : Int} (hE0 : 0 < E) (hE : E ≤ 2 ^ 1101) (hg : 2 ^ 1073 ≤ E → 2 ^ 1021 ∣ E) (hS : fRn (n * ((2 ^ 1074 : Nat) : Int) + (E : Int)).natAbs 1 S) (hx : n = 0 → S = E) : S = 0 ∨ 2 * E * 2 ^ 993 ≤ S * 2 ^ 1074 := by
  have p1 : (2 : Nat) ^ 1074 = 2 ^ 81 * 2 ^ 993 := by rw [← Nat.pow_add]
  by_cases hn : n = 0
  · right
    rw [hx hn, p1, ← Nat.mul_assoc]
    exact Nat.mul_le_mul_right _ (by omega)
  · rcases Nat.lt_or_ge E (2 ^ 1073) with h | h
    · right
      have p2 : (2 : Nat) ^ 1074 = 2 * 2 ^ 1073 := by rw [Nat.pow_succ, Nat.mul_comm]
      have hl : 1 * 2 ^ 1073 ≤ (n * ((2 ^ 1074 : Nat) : Int) + (E : Int)).natAbs := by
        rw [p2]
        generalize (2 : Nat) ^ 1073 = T at h ⊢
        rcases Int.lt_or_lt_of_ne hn with h1 | h1
        · have : n * ((2 * T : Nat) : Int) ≤ (-1) * ((2 * T : Nat) : Int) := Int.mul_le_mul_of_nonneg_right (by omega) (by omega)
          omega
        · have : 1 * ((2 * T : Nat) : Int) ≤ n * ((2 * T : Nat) : Int) := Int.mul_le_mul_of_nonneg_right (by omega) (by omega)
          omega
      have h2 := rn_lo (by omega) hS hl
      calc 2 * E * 2 ^ 993 ≤ 2 * 2 ^ 1073 * 2 ^ 993 := Nat.mul_le_mul_right _ (by omega)
        _ = 2 ^ 1074 * 2 ^ 993 := by rw [p2]
        _ ≤ 2 ^ 1074 * 2 ^ 1073 := Nat.mul_le_mul_left _ (Nat.pow_le_pow_right (by omega) (by omega))
        _ = 2 ^ 1073 * 2 ^ 1074 := Nat.mul_comm _ _
        _ ≤ S * 2 ^ 1074 := Nat.mul_le_mul_right _ h2
    · have d1 : ((2 ^ 1021 : Nat) : Int) ∣ (E : Int) := Int.ofNat_dvd.mpr (hg h)
      have d2 : ((2 ^ 1021 : Nat) : Int) ∣ n * ((2 ^ 1074 : Nat) : Int) := Int.dvd_mul_of_dvd_right (Int.ofNat_dvd.mpr (Nat.pow_dvd_pow 2 (by omega)))
      obtain ⟨t, ht⟩ := Int.ofNat_dvd_left.mp (Int.dvd_add d2 d1)
      have h3 := rn_gran (by omega) hS (by rw [ht, Nat.one_mul])
      by_cases h0 : S = 0
      · exact Or.inl h0
      · right
        have h4 := Nat.le_of_dvd (Nat.pos_of_ne_zero h0) h3
        have p3 : (2 : Nat) ^ 1102 = 2 * 2 ^ 1101 := by rw [Nat.pow_succ, Nat.mul_comm]
        calc 2 * E * 2 ^ 993 ≤ 2 ^ 1102 * 2 ^ 993 := Nat.mul_le_mul_right _ (by rw [p3]; exact Nat.mul_le_mul_left _ hE)
          _ = 2 ^ 1021 * 2 ^ 1074 := by rw [← Nat.pow_add, ← Nat.pow_add]
          _ ≤ S * 2 ^ 1074 := Nat.mul_le_mul_right _ h4
/-- (n + e) / (2 e): finer than its parts say -/
theorem gm_m {n : Int32} {e : UInt64} (hn : n.toInt.natAbs ≤ 2 ^ 20) (he : fGr 968 1101 e) (hp : 0 < fv e) : fGr 941 1207 (FP.ddiv (FP.dadd (FP.i2d n) e) (FP.dmul 4611686018427387904 e)) := by
  have hS := gf_add 968 1102 (gf_i2d 20 hn) he (by omega) (by omega) (by omega) (by omega) (by omega)
  obtain ⟨b1, b2⟩ := dbl he (by omega)
  have h2e := gf_mul 969 1102 gf_2 he (by omega) (by omega) (by omega)
  have hz : fv (FP.dmul 4611686018427387904 e) ≠ 0 := by rw [b2]; omega
  have hD := gf_div 888 1207 hS h2e hz (by omega) (by omega) (by omega)
  refine ⟨hD.1, ?_, hD.2.2⟩
  obtain ⟨E, hE⟩ : ∃ E : Nat, fv e = (E : Int) := ⟨(fv e).toNat, by omega⟩
  have hEn : (fv e).natAbs = E := by rw [hE, Int.natAbs_natCast]
  have hEb : E ≤ 2 ^ 1101 := by rw [← hEn]; exact he.2.2
  have hsum : fv (FP.i2d n) + fv e = n.toInt * ((2 ^ 1074 : Nat) : Int) + (E : Int) := by rw [fv_i2d, hE]
  have hlt : (fv (FP.i2d n) + fv e).natAbs < 2 ^ 2097 := by
    have h1 := (gf_i2d 20 hn).2.2
    have h2 := he.2.2
    have p1 : (2 : Nat) ^ (1074 + 20) ≤ 2 ^ 1101 := Nat.pow_le_pow_right (by omega) (by omega)
    have p2 : (2 : Nat) ^ 1102 = 2 * 2 ^ 1101 := by rw [Nat.pow_succ, Nat.mul_comm]
    have p3 : (2 : Nat) ^ 1102 < 2 ^ 2097 := Nat.pow_lt_pow_right (by omega) (by omega)
    have h3 := Int.natAbs_add_le (fv (FP.i2d n)) (fv e)
    generalize (2 : Nat) ^ (1074 + 20) = T0 at h1 p1
    generalize (2 : Nat) ^ 1101 = T1 at h2 p1 p2
    generalize (2 : Nat) ^ 1102 = T2 at p2 p3
    generalize (2 : Nat) ^ 2097 = T3 at p3 ⊢
    omega
  obtain ⟨s1, s2⟩ := fp_add (fin_i2d n) he.1 hlt
  have s3 := s2.1
  rw [hsum] at s3
  have hx : n.toInt = 0 → (fv (FP.dadd (FP.i2d n) e)).natAbs = E := fun h0 => by
    rw [h0, Int.zero_mul, Int.zero_add, Int.natAbs_natCast] at s3
    obtain ⟨c, i, hc, e1⟩ := fv_rep he.1
    rw [hEn] at e1
    have := rn_exact (m := c) (i := i) (by omega) s3 (by rw [Nat.one_mul, e1]) (Nat.le_of_lt hc)
    rw [this, e1]
  have key := gm_aux (C := 0) (E := E) (n := n.toInt) (by omega) hEb (fun h => by rw [← hEn] at h ⊢; exact fv_grid he.1 (a := 1021) h) s3 hx
  have hB : 0 < (fv (FP.dmul 4611686018427387904 e)).natAbs := Int.natAbs_pos.mpr hz
  have hBe : (fv (FP.dmul 4611686018427387904 e)).natAbs = 2 * E := by rw [b2, hE]; omega
  have hu : (fv (FP.dadd (FP.i2d n) e)).natAbs * 2 ^ 1074 < (fv (FP.dmul 4611686018427387904 e)).natAbs * 2 ^ 2097 := by
    have hy := fv_ne0 h2e hz
    refine Nat.lt_of_le_of_lt (Nat.mul_le_mul_right _ hS.2.2) (Nat.lt_of_lt_of_le ?_ (Nat.mul_le_mul_right _ hy))
    rw [← Nat.pow_add, ← Nat.pow_add]
    exact Nat.pow_lt_pow_right (by omega) (by omega)
  obtain ⟨-, q2⟩ := fp_div hS.1 h2e.1 hz hu
  have q3 := q2.1
  rw [Int.natAbs_mul, Int.natAbs_mul, Int.natAbs_sign_of_ne_zero hz, Int.natAbs_natCast, Nat.mul_one, hBe] at q3
  rw [hBe] at hB
  refine fv_grid0 hD.1 (a := 941) ?_
  rcases key with k | k
  · left
    rw [k, Nat.zero_mul] at q3
    exact Int.natAbs_eq_zero.mp (fp_rn0 hB q3)
  · right
    exact rn_lo hB q3 k
/-- a difference that isn't less than nothing, of a number that isn't small -/
theorem gm_k {P M : UInt64} {a1 a2 b2 : Nat} (hP : fGr a1 1200 P) (hM : fGr a2 b2 M) (hb2 : b2 ≤ 2000) (hp : 2 ^ 1058 ≤ fv P) (hm : 0 ≤ fv M) (hk : 0 ≤ fv (FP.dsub P M)) : fv M ≤ fv P ∧ fGr 1005 1200 (FP.dsub P M) ∧ (fv (FP.dsub P M) = 0 → FP.dsub P M = 0) := by
  have hlt : (fv P - fv M).natAbs < 2 ^ 2097 := by
    have h1 := hP.2.2
    have h2 := hM.2.2
    have p1 : (2 : Nat) ^ 1200 ≤ 2 ^ 2000 := Nat.pow_le_pow_right (by omega) (by omega)
    have p0 : (2 : Nat) ^ b2 ≤ 2 ^ 2000 := Nat.pow_le_pow_right (by omega) (by omega)
    have p2 : (2 : Nat) ^ 2001 = 2 * 2 ^ 2000 := by rw [Nat.pow_succ, Nat.mul_comm]
    have p3 : (2 : Nat) ^ 2001 < 2 ^ 2097 := Nat.pow_lt_pow_right (by omega) (by omega)
    generalize (2 : Nat) ^ 1200 = T0 at h1 p1
    generalize (2 : Nat) ^ b2 = T4 at h2 p0
    generalize (2 : Nat) ^ 2000 = T1 at p0 p1 p2
    generalize (2 : Nat) ^ 2001 = T2 at p2 p3
    generalize (2 : Nat) ^ 2097 = T3 at p3 ⊢
    omega
  obtain ⟨f1, f2, f3, f4⟩ := fp_sub hP.1 hM.1 hlt
  have hle : fv M ≤ fv P := by
    refine Int.not_lt.mp fun hc => ?_
    have h1 := f4 (by omega)
    have h2 := rn_nz (by omega) f2 (by omega)
    omega
  have hb : (fv P - fv M).natAbs ≤ 1 * 2 ^ 1200 := by
    have h1 := hP.2.2
    generalize (2 : Nat) ^ 1200 = T at h1 ⊢
    omega
  have hz : fv (FP.dsub P M) = 0 → fv P = fv M := fun h0 => by
    rw [h0] at f2
    refine Int.le_antisymm (Int.not_lt.mp fun hc => ?_) hle
    have := rn_nz (by omega) f2 (by omega)
    exact absurd this (by decide)
  refine ⟨hle, ⟨f1, ?_, rn_up (by omega) f2 hb⟩, fun h0 => ?_⟩
  · have hP52 : 2 ^ (1006 + 52) ≤ (fv P).natAbs := by
      have e : ((2 ^ (1006 + 52) : Nat) : Int) = 2 ^ 1058 := by decide +kernel
      generalize (2 : Nat) ^ (1006 + 52) = T at e ⊢
      rw [← e] at hp
      omega
    rcases Nat.lt_or_ge (fv M).natAbs (2 ^ 1057) with h | h
    · refine fv_grid f1 (a := 1005) (rn_lo (by omega) f2 ?_)
      have p2 : (2 : Nat) ^ (1006 + 52) = 2 * 2 ^ 1057 := by rw [show 1006 + 52 = 1057 + 1 from rfl, Nat.pow_succ, Nat.mul_comm]
      rw [p2] at hP52
      rw [Nat.one_mul]
      generalize (2 : Nat) ^ 1057 = T at h hP52 ⊢
      omega
    · have d1 : ((2 ^ 1005 : Nat) : Int) ∣ fv P := Int.ofNat_dvd_left.mpr (Nat.dvd_trans (Nat.pow_dvd_pow 2 (by omega)) (fv_grid hP.1 hP52))
      have d2 : ((2 ^ 1005 : Nat) : Int) ∣ fv M := Int.ofNat_dvd_left.mpr (fv_grid hM.1 (a := 1005) h)
      obtain ⟨t, ht⟩ := Int.ofNat_dvd_left.mp (Int.dvd_sub d1 d2)
      exact rn_gran (by omega) f2 (by rw [ht, Nat.one_mul])
  · have hPM := hz h0
    have hpp : fv P ≠ 0 := by
      intro hc
      rw [hc] at hp
      exact absurd hp (by decide +kernel)
    have := fv_inj hP.1 hM.1 hPM (by rw [← hPM]; exact hpp)
    subst this
    obtain ⟨s, c, q, hv⟩ := hP.1
    exact FP.Core.dsub_self hv
/-- and the root of what is taken off -/
theorem gm_m2 {m : UInt64} {b1 : Nat} (hm : fGr 941 b1 m) (hb1 : 2 * b1 ≤ 3170) (h : fv (FP.dmul m m) ≤ ((2 ^ 1200 : Nat) : Int)) : fGr 941 1138 m := by
  refine ⟨hm.1, hm.2.1, ?_⟩
  have hlt : (fv m * fv m).natAbs < 2 ^ 1074 * 2 ^ 2097 := by
    rw [Int.natAbs_mul, ← Nat.pow_add]
    refine Nat.lt_of_le_of_lt (Nat.mul_le_mul hm.2.2 hm.2.2) ?_
    rw [← Nat.pow_add]
    exact Nat.pow_lt_pow_right (by omega) (by omega)
  obtain ⟨-, f1, -⟩ := fp_mul hm.1 hm.1 hlt
  have hnn := sqr_nn hm hb1
  have h2 : (fv (FP.dmul m m)).natAbs < 2 ^ 1201 := by
    have p : (2 : Nat) ^ 1201 = 2 * 2 ^ 1200 := by rw [Nat.pow_succ, Nat.mul_comm]
    have p0 := Nat.two_pow_pos 1200
    rw [p]
    generalize (2 : Nat) ^ 1200 = T at h p0 ⊢
    omega
  have h3 := rn_back (Nat.two_pow_pos 1074) f1 h2
  rw [Int.natAbs_mul, ← Nat.pow_add] at h3
  refine Nat.le_of_not_lt fun hc => ?_
  have h4 := Nat.mul_le_mul (Nat.le_of_lt hc) (Nat.le_of_lt hc)
  rw [← Nat.pow_add] at h4
  have h5 := rn_powlt (Nat.lt_of_le_of_lt h4 h3)
  omega
theorem gz_px {U V lx ly a b c y : Int32} (h : pB U V lx ly a b c y) (h0 : 0 ≤ tH b ly y) : fGr 1021 1086 (tPx lx ly b y) := by
  obtain ⟨hU, hV, hlx, hly, ha, hb, hc, hy⟩ := h
  exact (gf_add 1021 1086 (gf_i2d 10 (cB_k hlx)) (gf_sq 1021 1085 (rt_ex (rt_int h0 (tH_k hb hly hy h0) (by omega))) (gf_i2d 20 (tH_k hb hly hy h0)) (Nat.le_of_ble_eq_true rfl) (Nat.le_of_ble_eq_true rfl)) (Nat.le_of_ble_eq_true rfl) (Nat.le_of_ble_eq_true rfl) (Nat.le_of_ble_eq_true rfl) (Nat.le_of_ble_eq_true rfl) (Nat.le_of_ble_eq_true rfl))
theorem gz_dx {U V lx ly a b c y : Int32} (h : pB U V lx ly a b c y) (h0 : 0 ≤ tH b ly y) : fGr 1021 1087 (tDx U lx ly b y) := by
  have hh := h
  obtain ⟨hU, hV, hlx, hly, ha, hb, hc, hy⟩ := h
  exact (gf_sub 1021 1087 (gf_i2d 10 (cB_k hU)) (gz_px hh h0) (Nat.le_of_ble_eq_true rfl) (Nat.le_of_ble_eq_true rfl) (Nat.le_of_ble_eq_true rfl) (Nat.le_of_ble_eq_true rfl) (Nat.le_of_ble_eq_true rfl))
theorem gz_dy {U V lx ly a b c y : Int32} (h : pB U V lx ly a b c y) (h0 : 0 ≤ tH b ly y) : fGr 1074 1085 (tDy V y) := by
  have hh := h
  obtain ⟨hU, hV, hlx, hly, ha, hb, hc, hy⟩ := h
  exact (gf_sub 1074 1085 (gf_i2d 10 (cB_k hV)) (gf_i2d 10 (yB_k hy)) (Nat.le_of_ble_eq_true rfl) (Nat.le_of_ble_eq_true rfl) (Nat.le_of_ble_eq_true rfl) (Nat.le_of_ble_eq_true rfl) (Nat.le_of_ble_eq_true rfl))
theorem gz_e {U V lx ly a b c y : Int32} (h : pB U V lx ly a b c y) (h0 : 0 ≤ tH b ly y) : fGr 968 1101 (tE U V lx ly b y) := by
  have hh := h
  obtain ⟨hU, hV, hlx, hly, ha, hb, hc, hy⟩ := h
  exact (gf_add 968 1101 (gf_mul 968 1100 (gz_dx hh h0) (gz_dx hh h0) (Nat.le_of_ble_eq_true rfl) (Nat.le_of_ble_eq_true rfl) (Nat.le_of_ble_eq_true rfl)) (gf_mul 1074 1096 (gz_dy hh h0) (gz_dy hh h0) (Nat.le_of_ble_eq_true rfl) (Nat.le_of_ble_eq_true rfl) (Nat.le_of_ble_eq_true rfl)) (Nat.le_of_ble_eq_true rfl) (Nat.le_of_ble_eq_true rfl) (Nat.le_of_ble_eq_true rfl) (Nat.le_of_ble_eq_true rfl) (Nat.le_of_ble_eq_true rfl))
theorem gz_enn {U V lx ly a b c y : Int32} (h : pB U V lx ly a b c y) (h0 : 0 ≤ tH b ly y) : 0 ≤ fv (tE U V lx ly b y) := by
  have hh := h
  obtain ⟨hU, hV, hlx, hly, ha, hb, hc, hy⟩ := h
  exact (add_nn (gf_mul 968 1100 (gz_dx hh h0) (gz_dx hh h0) (Nat.le_of_ble_eq_true rfl) (Nat.le_of_ble_eq_true rfl) (Nat.le_of_ble_eq_true rfl)) (gf_mul 1074 1096 (gz_dy hh h0) (gz_dy hh h0) (Nat.le_of_ble_eq_true rfl) (Nat.le_of_ble_eq_true rfl) (Nat.le_of_ble_eq_true rfl)) (sqr_nn (gz_dx hh h0) (by omega)) (sqr_nn (gz_dy hh h0) (by omega)) (by omega) (by omega)).1
theorem gz_m1 {U V lx ly a b c y : Int32} (h : pB U V lx ly a b c y) (h0 : 0 ≤ tH b ly y) (he : fv (tE U V lx ly b y) ≠ 0) : fGr 941 1207 (tM U V lx ly a b c y) := by
  have hh := h
  obtain ⟨hU, hV, hlx, hly, ha, hb, hc, hy⟩ := h
  have hn := gz_enn hh h0
  exact gm_m (ca_k ha hc) (gz_e hh h0) (by omega)
theorem gz_P {U V lx ly a b c y : Int32} (h : pB U V lx ly a b c y) (h0 : 0 ≤ tH b ly y) (he : fv (tE U V lx ly b y) ≠ 0) : fGr 995 1200 (FP.ddiv (FP.i2d (c * c)) (tE U V lx ly b y)) := by
  have hh := h
  obtain ⟨hU, hV, hlx, hly, ha, hb, hc, hy⟩ := h
  exact (gf_div 995 1200 (gf_i2d 20 (cc_k hc)) (gz_e hh h0) he (Nat.le_of_ble_eq_true rfl) (Nat.le_of_ble_eq_true rfl) (Nat.le_of_ble_eq_true rfl))
theorem gz_Pb {U V lx ly a b c y : Int32} (h : pB U V lx ly a b c y) (h0 : 0 ≤ tH b ly y) (he : fv (tE U V lx ly b y) ≠ 0) : 2 ^ 1058 ≤ fv (FP.ddiv (FP.i2d (c * c)) (tE U V lx ly b y)) := by
  have hh := h
  obtain ⟨hU, hV, hlx, hly, ha, hb, hc, hy⟩ := h
  have hn := gz_enn hh h0
  have hg := gz_e hh h0
  have hk := sq2_k hc
  have hi := gf_i2d 20 (cc_k hc)
  have hB : 0 < (fv (tE U V lx ly b y)).natAbs := Int.natAbs_pos.mpr he
  have hy2 := fv_ne0 hg he
  have hu : (fv (FP.i2d (c * c))).natAbs * 2 ^ 1074 < (fv (tE U V lx ly b y)).natAbs * 2 ^ 2097 := by
    refine Nat.lt_of_le_of_lt (Nat.mul_le_mul_right _ hi.2.2) (Nat.lt_of_lt_of_le ?_ (Nat.mul_le_mul_right _ hy2))
    rw [← Nat.pow_add, ← Nat.pow_add]
    exact Nat.pow_lt_pow_right (by omega) (by omega)
  obtain ⟨-, q1, q2, -⟩ := fp_div hi.1 hg.1 he hu
  have hs : (fv (tE U V lx ly b y)).sign = 1 := Int.sign_eq_one_of_pos (by omega)
  have hci : fv (FP.i2d (c * c)) = (c.toInt * c.toInt) * ((2 ^ 1074 : Nat) : Int) := by rw [fv_i2d, hk.1]
  have hnn : 0 ≤ fv (FP.i2d (c * c)) := by rw [hci]; exact Int.mul_nonneg (by omega) (Int.natCast_nonneg _)
  rw [hs, Int.mul_one, Int.natAbs_mul, Int.natAbs_natCast] at q1
  have h1 : 2 ^ 1085 ≤ (fv (FP.i2d (c * c))).natAbs := by
    rw [hci, Int.natAbs_mul, Int.natAbs_natCast, show (1085 : Nat) = 11 + 1074 from rfl, Nat.pow_add]
    exact Nat.mul_le_mul_right _ (by omega)
  have h2 := rn_lo (b := 1058) hB q1 (by
    refine Nat.le_trans (Nat.mul_le_mul_right _ hg.2.2) (Nat.le_trans ?_ (Nat.mul_le_mul_right _ h1))
    rw [← Nat.pow_add, ← Nat.pow_add]
    exact Nat.pow_le_pow_right (by omega) (by omega))
  have h3 := q2 (by rw [hs, Int.mul_one]; exact Int.mul_nonneg hnn (Int.natCast_nonneg _))
  have e : ((2 ^ 1058 : Nat) : Int) = 2 ^ 1058 := by decide +kernel
  rw [← e]
  generalize (2 : Nat) ^ 1058 = T at h2 ⊢
  omega
theorem gz_k0 {U V lx ly a b c y : Int32} (h : pB U V lx ly a b c y) (h0 : 0 ≤ tH b ly y) (he : fv (tE U V lx ly b y) ≠ 0) : fGr 808 1341 (tK U V lx ly a b c y) := by
  have hh := h
  obtain ⟨hU, hV, hlx, hly, ha, hb, hc, hy⟩ := h
  exact (gf_sub 808 1341 (gz_P hh h0 he) (gf_mul 808 1340 (gz_m1 hh h0 he) (gz_m1 hh h0 he) (Nat.le_of_ble_eq_true rfl) (Nat.le_of_ble_eq_true rfl) (Nat.le_of_ble_eq_true rfl)) (Nat.le_of_ble_eq_true rfl) (Nat.le_of_ble_eq_true rfl) (Nat.le_of_ble_eq_true rfl) (Nat.le_of_ble_eq_true rfl) (Nat.le_of_ble_eq_true rfl))
theorem gz_kk {U V lx ly a b c y : Int32} (h : pB U V lx ly a b c y) (h0 : 0 ≤ tH b ly y) (he : fv (tE U V lx ly b y) ≠ 0) (hk : 0 ≤ fv (tK U V lx ly a b c y)) : fv (FP.dmul (tM U V lx ly a b c y) (tM U V lx ly a b c y)) ≤ fv (FP.ddiv (FP.i2d (c * c)) (tE U V lx ly b y)) ∧ fGr 1005 1200 (tK U V lx ly a b c y) ∧ (fv (tK U V lx ly a b c y) = 0 → tK U V lx ly a b c y = 0) := by
  have hh := h
  obtain ⟨hU, hV, hlx, hly, ha, hb, hc, hy⟩ := h
  exact gm_k (gz_P hh h0 he) (gf_mul 808 1340 (gz_m1 hh h0 he) (gz_m1 hh h0 he) (Nat.le_of_ble_eq_true rfl) (Nat.le_of_ble_eq_true rfl) (Nat.le_of_ble_eq_true rfl)) (by omega) (gz_Pb hh h0 he) (sqr_nn (gz_m1 hh h0 he) (by omega)) hk
theorem gz_m {U V lx ly a b c y : Int32} (h : pB U V lx ly a b c y) (h0 : 0 ≤ tH b ly y) (he : fv (tE U V lx ly b y) ≠ 0) (hk : 0 ≤ fv (tK U V lx ly a b c y)) : fGr 941 1138 (tM U V lx ly a b c y) := by
  have hh := h
  obtain ⟨hU, hV, hlx, hly, ha, hb, hc, hy⟩ := h
  refine gm_m2 (gz_m1 hh h0 he) (by omega) (Int.le_trans (gz_kk hh h0 he hk).1 ?_)
  have h1 := (gz_P hh h0 he).2.2
  generalize (2 : Nat) ^ 1200 = T at h1 ⊢
  omega
theorem gz_krt {U V lx ly a b c y : Int32} (h : pB U V lx ly a b c y) (h0 : 0 ≤ tH b ly y) (he : fv (tE U V lx ly b y) ≠ 0) (hk : 0 ≤ fv (tK U V lx ly a b c y)) : fRt (tK U V lx ly a b c y) := by
  have hh := h
  obtain ⟨hU, hV, hlx, hly, ha, hb, hc, hy⟩ := h
  exact fRt_gr (gz_kk hh h0 he hk).2.1 (by omega) (by omega) hk (gz_kk hh h0 he hk).2.2
theorem sd_k {sd : Int32} (h : sd = 1 ∨ sd = -1) : sd.toInt.natAbs ≤ 2 ^ 0 := by rcases h with h | h <;> subst h <;> decide
theorem gz_s {U V lx ly a b c sd y : Int32} (h : pB U V lx ly a b c y) (h0 : 0 ≤ tH b ly y) (he : fv (tE U V lx ly b y) ≠ 0) (hk : 0 ≤ fv (tK U V lx ly a b c y)) (hsd : sd = 1 ∨ sd = -1) : fGr 987 1138 (tS U V lx ly a b c sd y) := by
  have hh := h
  obtain ⟨hU, hV, hlx, hly, ha, hb, hc, hy⟩ := h
  exact (gf_mul 987 1138 (gf_i2d 0 (sd_k hsd)) (gf_sq 987 1138 (rt_ex (gz_krt hh h0 he hk)) (gz_kk hh h0 he hk).2.1 (Nat.le_of_ble_eq_true rfl) (Nat.le_of_ble_eq_true rfl)) (Nat.le_of_ble_eq_true rfl) (Nat.le_of_ble_eq_true rfl) (Nat.le_of_ble_eq_true rfl))
theorem gz_qx {U V lx ly a b c sd y : Int32} (h : pB U V lx ly a b c y) (h0 : 0 ≤ tH b ly y) (he : fv (tE U V lx ly b y) ≠ 0) (hk : 0 ≤ fv (tK U V lx ly a b c y)) (hsd : sd = 1 ∨ sd = -1) : fGr 888 1153 (tQx U V lx ly a b c sd y) := by
  have hh := h
  obtain ⟨hU, hV, hlx, hly, ha, hb, hc, hy⟩ := h
  exact (gf_add 888 1153 (gf_add 888 1152 (gz_px hh h0) (gf_mul 888 1151 (gz_m hh h0 he hk) (gz_dx hh h0) (Nat.le_of_ble_eq_true rfl) (Nat.le_of_ble_eq_true rfl) (Nat.le_of_ble_eq_true rfl)) (Nat.le_of_ble_eq_true rfl) (Nat.le_of_ble_eq_true rfl) (Nat.le_of_ble_eq_true rfl) (Nat.le_of_ble_eq_true rfl) (Nat.le_of_ble_eq_true rfl)) (gf_mul 987 1149 (gz_s hh h0 he hk hsd) (gz_dy hh h0) (Nat.le_of_ble_eq_true rfl) (Nat.le_of_ble_eq_true rfl) (Nat.le_of_ble_eq_true rfl)) (Nat.le_of_ble_eq_true rfl) (Nat.le_of_ble_eq_true rfl) (Nat.le_of_ble_eq_true rfl) (Nat.le_of_ble_eq_true rfl) (Nat.le_of_ble_eq_true rfl))
theorem gz_qy {U V lx ly a b c sd y : Int32} (h : pB U V lx ly a b c y) (h0 : 0 ≤ tH b ly y) (he : fv (tE U V lx ly b y) ≠ 0) (hk : 0 ≤ fv (tK U V lx ly a b c y)) (hsd : sd = 1 ∨ sd = -1) : fGr 934 1152 (tQy U V lx ly a b c sd y) := by
  have hh := h
  obtain ⟨hU, hV, hlx, hly, ha, hb, hc, hy⟩ := h
  exact (gf_sub 934 1152 (gf_add 941 1150 (gf_i2d 10 (yB_k hy)) (gf_mul 941 1149 (gz_m hh h0 he hk) (gz_dy hh h0) (Nat.le_of_ble_eq_true rfl) (Nat.le_of_ble_eq_true rfl) (Nat.le_of_ble_eq_true rfl)) (Nat.le_of_ble_eq_true rfl) (Nat.le_of_ble_eq_true rfl) (Nat.le_of_ble_eq_true rfl) (Nat.le_of_ble_eq_true rfl) (Nat.le_of_ble_eq_true rfl)) (gf_mul 934 1151 (gz_s hh h0 he hk hsd) (gz_dx hh h0) (Nat.le_of_ble_eq_true rfl) (Nat.le_of_ble_eq_true rfl) (Nat.le_of_ble_eq_true rfl)) (Nat.le_of_ble_eq_true rfl) (Nat.le_of_ble_eq_true rfl) (Nat.le_of_ble_eq_true rfl) (Nat.le_of_ble_eq_true rfl) (Nat.le_of_ble_eq_true rfl))
theorem c_ne {c : Int32} (h : aB c) : fv (FP.i2d c) ≠ 0 := by
  rw [fv_i2d]
  refine Int.mul_ne_zero ?_ ?_
  · have := h.1; omega
  · exact fun h => absurd (Int.ofNat_eq_zero.mp h) (Nat.ne_of_gt (Nat.two_pow_pos _))
theorem gz_vx {U V lx ly a b c sd y : Int32} (h : pB U V lx ly a b c y) (h0 : 0 ≤ tH b ly y) (he : fv (tE U V lx ly b y) ≠ 0) (hk : 0 ≤ fv (tK U V lx ly a b c y)) (hsd : sd = 1 ∨ sd = -1) : fGr 826 1154 (tVx U V lx ly a b c sd y) := by
  have hh := h
  obtain ⟨hU, hV, hlx, hly, ha, hb, hc, hy⟩ := h
  exact (gf_div 826 1154 (gf_sub 888 1154 (gz_qx hh h0 he hk hsd) (gz_px hh h0) (Nat.le_of_ble_eq_true rfl) (Nat.le_of_ble_eq_true rfl) (Nat.le_of_ble_eq_true rfl) (Nat.le_of_ble_eq_true rfl) (Nat.le_of_ble_eq_true rfl)) (gf_i2d 10 (aB_k hc)) (c_ne hc) (Nat.le_of_ble_eq_true rfl) (Nat.le_of_ble_eq_true rfl) (Nat.le_of_ble_eq_true rfl))
theorem gz_vy {U V lx ly a b c sd y : Int32} (h : pB U V lx ly a b c y) (h0 : 0 ≤ tH b ly y) (he : fv (tE U V lx ly b y) ≠ 0) (hk : 0 ≤ fv (tK U V lx ly a b c y)) (hsd : sd = 1 ∨ sd = -1) : fGr 872 1153 (tVy U V lx ly a b c sd y) := by
  have hh := h
  obtain ⟨hU, hV, hlx, hly, ha, hb, hc, hy⟩ := h
  exact (gf_div 872 1153 (gf_sub 934 1153 (gz_qy hh h0 he hk hsd) (gf_i2d 10 (yB_k hy)) (Nat.le_of_ble_eq_true rfl) (Nat.le_of_ble_eq_true rfl) (Nat.le_of_ble_eq_true rfl) (Nat.le_of_ble_eq_true rfl) (Nat.le_of_ble_eq_true rfl)) (gf_i2d 10 (aB_k hc)) (c_ne hc) (Nat.le_of_ble_eq_true rfl) (Nat.le_of_ble_eq_true rfl) (Nat.le_of_ble_eq_true rfl))
end
section
/-! THE STAND: where a hanging stands at one y (class X5) -/
abbrev aE (a : Nat) : Nat → Prop := fun q => q = a
theorem at_heap {D : va_G} {cl : List vw_C} {q : Nat × va_E} {H : Heap} {t : State} (ht : t.heap = H) (h : va_at D cl q H) : va_at D cl q t.heap := by rw [ht]; exact h
def isSt (u : List Value) : Prop := ∃ (i j : Int32) (x0 x1 x2 x3 x4 x5 x6 x7 x8 x9 x10 x11 : UInt64), u = [.int i, .int j, .double x0, .double x1, .double x2, .double x3, .double x4, .double x5, .double x6, .double x7, .double x8, .double x9, .double x10, .double x11]
set_option maxHeartbeats 4000000 in
set_option maxRecDepth 100000 in
theorem mX5_reach (l : Launch) (D : va_G) (cI cH : ClassId) (st hg : Nat) (s0 s1 : Int32) (p0 p1 p2 p3 p4 p5 p6 p7 p8 p9 p10 p11 : UInt64) (ux uy a lx ly b c sd g d sx sy f : Int32) (U V y : Int32)  (hne : hg ≠ st) (hh : pB U V lx ly a b c y) : Met l yX5_reach wsX5_reach ({ frames := 3, cells := 0, slots := 0, locals := 79 }) (va_Pc [.ref st, .ref hg, .int U, .int V, .int y] (kB D cI cH [(st, .inr (4, [.int s0, .int s1, .double p0, .double p1, .double p2, .double p3, .double p4, .double p5, .double p6, .double p7, .double p8, .double p9, .double p10, .double p11])), (hg, .inr (1, [.int ux, .int uy, .int a, .int lx, .int ly, .int b, .int c, .int sd, .int g, .int d, .int sx, .int sy, .int f]))])) (va_Qi (fun (r : Int32) (u : List Value) => (r = 1 ∧ tFree U V lx ly a b c y ∧ u = [.int U, .int V, .double (tPx lx ly b y), .double (FP.i2d y), .double p2, .double p3, .double p4, .double p5, .double p6, .double p7, .double (tDx U lx ly b y), .double (tDy V y), .double (tM U V lx ly a b c y), .double (tK U V lx ly a b c y)]) ∨ (r = 0 ∧ ¬ tFree U V lx ly a b c y ∧ isSt u)) (fun u t => va_at D vwCl (st, .inr (4, u)) t.heap) (aE st)) 0 0 (aE st) := by
  refine Met.ofW (cc := cX5_reach) (maxL := 8) (ret := (some .boolean)) (by decide) rfl ?_
  intro p e s m args below meth co s₁ B hml hv
  obtain ⟨rfl, hP0, hw⟩ := hv
  have hx := B.exec
  have hb := B.bytes
  have hr := B.returns
  have hts := atoms_spec (ws := wsX5_reach) B.pre
  have hown : s.vm.findClass RX5 = some m.cls := findClass_of_methodNamed B.named
  have hlocks := B.notSynchronized
  have hinX2 : ∀ w ∈ wsX20, w ∈ wsX5_reach := by decide +kernel
  have hinX5 : ∀ w ∈ wsX50, w ∈ wsX5_reach := by decide +kernel
  have hS : va_S (aE st) s.heap s.heap [] := va_S.rf
  have hP : va_P D vwCl [(st, .inr (4, [.int s0, .int s1, .double p0, .double p1, .double p2, .double p3, .double p4, .double p5, .double p6, .double p7, .double p8, .double p9, .double p10, .double p11]))] s.heap := hP0.sub [0] rfl
  have hD : va_D (aE st) [(st, .inr (4, [.int s0, .int s1, .double p0, .double p1, .double p2, .double p3, .double p4, .double p5, .double p6, .double p7, .double p8, .double p9, .double p10, .double p11]))] := D_1 rfl
  have hR0 : va_P D vwCl [(hg, .inr (1, [.int ux, .int uy, .int a, .int lx, .int ly, .int b, .int c, .int sd, .int g, .int d, .int sx, .int sy, .int f]))] s.heap := hP0.sub [1] rfl
  have hR := hR0
  have hnr : ∀ (k : Nat) (q : Nat × va_E), ([(hg, .inr (1, [.int ux, .int uy, .int a, .int lx, .int ly, .int b, .int c, .int sd, .int g, .int d, .int sx, .int sy, .int f]))] : va_W)[k]? = some q → ¬ (aE st) q.1 := nn_1 hne nn_0
  obtain ⟨kU, kV, klx, kly, ka, kb, kc, ky⟩ := id hh
  have hl := lv_entry ([.ref st, .ref hg, .int U, .int V, .int y]) (n := 8) (Nat.le_of_ble_eq_true rfl)
  rw [lg_entry_eq]
  generalize (lg_sl ([.ref st, .ref hg, .int U, .int V, .int y]) ++ List.replicate (8 - (lg_sl ([.ref st, .ref hg, .int U, .int V, .int y])).length) Slot.unset).toArray = ls at hl ⊢
  have hl : lv_has ls 8 [(0, .ref st), (1, .ref hg), (2, .int U), (3, .int V), (4, .int y)] := hl
  skip
  refine lv_aload_n hx hb dX5_reach_0 rfl (lv_at hl 1 rfl) ?_
  refine va_getN (host := "WheelSwing") (D := D) (ci := 1) (v := .int b) (C := RX2) (T := TX2) (N := 13) hx hb hts hinX2 hown hw.1 hR 0 rfl rfl 5 (by decide) (va_Nw.use rfl (hw.2 (.fieldLinkNest RX5 7 "WheelSwing$Hanging" "b" "I" "WheelSwing") (by decide +kernel))) (fun _ h9 => h9) rfl dX5_reach_1 ?_
  refine lv_aload_n hx hb dX5_reach_4 rfl (lv_at hl 1 rfl) ?_
  refine va_getN (host := "WheelSwing") (D := D) (ci := 1) (v := .int b) (C := RX2) (T := TX2) (N := 13) hx hb hts hinX2 hown hw.1 hR 0 rfl rfl 5 (by decide) (va_Nw.use rfl (hw.2 (.fieldLinkNest RX5 7 "WheelSwing$Hanging" "b" "I" "WheelSwing") (by decide +kernel))) (fun _ h9 => h9) rfl dX5_reach_5 ?_
  refine lv_imul hx hb dX5_reach_8 ?_
  refine lv_iload hx hb dX5_reach_9 (lv_at hl 4 rfl) ?_
  refine lv_aload_n hx hb dX5_reach_11 rfl (lv_at hl 1 rfl) ?_
  refine va_getN (host := "WheelSwing") (D := D) (ci := 1) (v := .int ly) (C := RX2) (T := TX2) (N := 13) hx hb hts hinX2 hown hw.1 hR 0 rfl rfl 4 (by decide) (va_Nw.use rfl (hw.2 (.fieldLinkNest RX5 13 "WheelSwing$Hanging" "ly" "I" "WheelSwing") (by decide +kernel))) (fun _ h9 => h9) rfl dX5_reach_12 ?_
  refine lv_isub hx hb dX5_reach_15 ?_
  refine lv_iload hx hb dX5_reach_16 (lv_at hl 4 rfl) ?_
  refine lv_aload_n hx hb dX5_reach_18 rfl (lv_at hl 1 rfl) ?_
  refine va_getN (host := "WheelSwing") (D := D) (ci := 1) (v := .int ly) (C := RX2) (T := TX2) (N := 13) hx hb hts hinX2 hown hw.1 hR 0 rfl rfl 4 (by decide) (va_Nw.use rfl (hw.2 (.fieldLinkNest RX5 13 "WheelSwing$Hanging" "ly" "I" "WheelSwing") (by decide +kernel))) (fun _ h9 => h9) rfl dX5_reach_19 ?_
  refine lv_isub hx hb dX5_reach_22 ?_
  refine lv_imul hx hb dX5_reach_23 ?_
  refine lv_isub hx hb dX5_reach_24 ?_
  refine lv_topi (fun z1 ez1 => ?_)
  have ez1 : z1 = tH b ly y := ez1
  subst ez1
  refine lv_istore (lv' := [(5, .int (tH b ly y)), (0, .ref st), (1, .ref hg), (2, .int U), (3, .int V), (4, .int y)]) hx hb dX5_reach_25 hl (by decide) rfl (fun ls hl => ?_)
  refine lv_iload hx hb dX5_reach_27 (lv_at hl 0 rfl) ?_
  refine lv_if_ge (tgt := 34) hx hb dX5_reach_29 (by decide) (fun c2 => ?_) (fun c2 => ?_)
  · have h0 := c2
    refine lv_aload_n hx hb dX5_reach_34 rfl (lv_at hl 1 rfl) ?_
    refine lv_iload_n hx hb dX5_reach_35 rfl (lv_at hl 3 rfl) ?_
    refine va_put (D := D) (ci := 4) (v := .int U) (ty := .int) (C := RX5) (T := TX5) (N := 14) hx hb hts hinX5 tyX5 tyX5_ok nmX5 hown hw.1 hP hD hS 0 rfl rfl 0 (by decide) (hts (.fieldLink RX5 16 "WheelSwing$Stand" "ux" "I") (by decide +kernel)) (fun _ h9 => h9) rfl (by decide +kernel) rfl rfl (Nat.le_of_ble_eq_true rfl) dX5_reach_36 (fun H locs hP hD hS => ?_)
    have hP : va_P D vwCl [(st, .inr (4, [.int U, .int s1, .double p0, .double p1, .double p2, .double p3, .double p4, .double p5, .double p6, .double p7, .double p8, .double p9, .double p10, .double p11]))] H := hP
    have hD : va_D (aE st) [(st, .inr (4, [.int U, .int s1, .double p0, .double p1, .double p2, .double p3, .double p4, .double p5, .double p6, .double p7, .double p8, .double p9, .double p10, .double p11]))] := hD
    have hR := fr_rd hR0 hS hnr
    refine lv_aload_n hx hb dX5_reach_39 rfl (lv_at hl 1 rfl) ?_
    refine lv_iload_n hx hb dX5_reach_40 rfl (lv_at hl 4 rfl) ?_
    refine va_put (D := D) (ci := 4) (v := .int V) (ty := .int) (C := RX5) (T := TX5) (N := 14) hx hb hts hinX5 tyX5 tyX5_ok nmX5 hown hw.1 hP hD hS 0 rfl rfl 1 (by decide) (hts (.fieldLink RX5 21 "WheelSwing$Stand" "uy" "I") (by decide +kernel)) (fun _ h9 => h9) rfl (by decide +kernel) rfl rfl (Nat.le_of_ble_eq_true rfl) dX5_reach_41 (fun H locs hP hD hS => ?_)
    have hP : va_P D vwCl [(st, .inr (4, [.int U, .int V, .double p0, .double p1, .double p2, .double p3, .double p4, .double p5, .double p6, .double p7, .double p8, .double p9, .double p10, .double p11]))] H := hP
    have hD : va_D (aE st) [(st, .inr (4, [.int U, .int V, .double p0, .double p1, .double p2, .double p3, .double p4, .double p5, .double p6, .double p7, .double p8, .double p9, .double p10, .double p11]))] := hD
    have hR := fr_rd hR0 hS hnr
    refine lv_aload_n hx hb dX5_reach_44 rfl (lv_at hl 1 rfl) ?_
    refine lv_aload_n hx hb dX5_reach_45 rfl (lv_at hl 2 rfl) ?_
    refine va_getN (host := "WheelSwing") (D := D) (ci := 1) (v := .int lx) (C := RX2) (T := TX2) (N := 13) hx hb hts hinX2 hown hw.1 hR 0 rfl rfl 3 (by decide) (va_Nw.use rfl (hw.2 (.fieldLinkNest RX5 24 "WheelSwing$Hanging" "lx" "I" "WheelSwing") (by decide +kernel))) (fun _ h9 => h9) rfl dX5_reach_46 ?_
    refine lv_i2d hx hb dX5_reach_49 ?_
    have gw3 := gf_i2d 10 (cB_k klx)
    refine lv_iload hx hb dX5_reach_50 (lv_at hl 0 rfl) ?_
    refine lv_i2d hx hb dX5_reach_52 ?_
    have gw4 := gf_i2d 20 (tH_k kb kly ky h0)
    refine va_calld (va_runSN (As := [.double (FP.i2d (tH b ly y))]) (rest := [.double (FP.i2d lx), .ref st]) ⟨hx, hb, hml, hown, hts⟩ (mX1_squareRoot l (FP.i2d (tH b ly y)) (rt_int h0 (tH_k kb kly ky h0) (by omega))) (⟨va_cnB 1 hts gX5_reach_X1_squareRoot_n27 rfl rfl rfl (hw.2 (.methodLinkNest RX5 27 yX1_squareRoot "WheelSwing") (by decide +kernel)) (hts (.initialized RX1) (by decide +kernel)) (by decide +kernel) ⟨Nat.le_of_ble_eq_true rfl, Nat.le_of_ble_eq_true rfl⟩, hts (.static yX1_squareRoot) (by decide +kernel), trivial⟩) ⟨tB_blind, tB_go⟩ rfl rfl hl.1 rfl (lv_room (Nat.le_of_ble_eq_true rfl)) dX5_reach_53 ⟨Nat.le_of_ble_eq_true rfl, Nat.le_of_ble_eq_true rfl⟩) hS (fun q _ h => h.elim) (fun q h => h.elim) (fun r5 u6 t H locs ht hvm hp7 hB hz1 hk1 hS => ?_)
    have hP := fr_keep hP hk1 fr_nA
    have hR := fr_rd hR0 hS hnr
    obtain ⟨rfl, hi8⟩ := hp7
    have gw9 := gf_sq 1021 1085 hi8 gw4 (Nat.le_of_ble_eq_true rfl) (Nat.le_of_ble_eq_true rfl)
    have gw10 := gf_add 1021 1086 gw3 gw9 (Nat.le_of_ble_eq_true rfl) (Nat.le_of_ble_eq_true rfl) (Nat.le_of_ble_eq_true rfl) (Nat.le_of_ble_eq_true rfl) (Nat.le_of_ble_eq_true rfl)
    refine lv_dadd hx hb dX5_reach_56 (gf_n64 gw10) ?_
    refine lv_topd (fun v11 ev11 => ?_)
    rw [← ev11] at gw10
    have fv11 : v11 = tPx lx ly b y := by rw [ev11]; rfl
    clear ev11 gw10
    subst fv11
    refine va_put (D := D) (ci := 4) (v := .double (tPx lx ly b y)) (ty := .double) (C := RX5) (T := TX5) (N := 14) hx hb hts hinX5 tyX5 tyX5_ok nmX5 hown hw.1 hP hD hS 0 rfl rfl 2 (by decide) (hts (.fieldLink RX5 33 "WheelSwing$Stand" "px" "D") (by decide +kernel)) (fun _ h9 => h9) rfl (by decide +kernel) rfl rfl (Nat.le_of_ble_eq_true rfl) dX5_reach_57 (fun H locs hP hD hS => ?_)
    have hP : va_P D vwCl [(st, .inr (4, [.int U, .int V, .double (tPx lx ly b y), .double p1, .double p2, .double p3, .double p4, .double p5, .double p6, .double p7, .double p8, .double p9, .double p10, .double p11]))] H := hP
    have hD : va_D (aE st) [(st, .inr (4, [.int U, .int V, .double (tPx lx ly b y), .double p1, .double p2, .double p3, .double p4, .double p5, .double p6, .double p7, .double p8, .double p9, .double p10, .double p11]))] := hD
    have hR := fr_rd hR0 hS hnr
    refine lv_aload_n hx hb dX5_reach_60 rfl (lv_at hl 1 rfl) ?_
    refine lv_iload hx hb dX5_reach_61 (lv_at hl 5 rfl) ?_
    refine lv_i2d hx hb dX5_reach_63 ?_
    have gw12 := gf_i2d 10 (yB_k ky)
    refine va_put (D := D) (ci := 4) (v := .double (FP.i2d y)) (ty := .double) (C := RX5) (T := TX5) (N := 14) hx hb hts hinX5 tyX5 tyX5_ok nmX5 hown hw.1 hP hD hS 0 rfl rfl 3 (by decide) (hts (.fieldLink RX5 37 "WheelSwing$Stand" "py" "D") (by decide +kernel)) (fun _ h9 => h9) rfl (by decide +kernel) rfl rfl (Nat.le_of_ble_eq_true rfl) dX5_reach_64 (fun H locs hP hD hS => ?_)
    have hP : va_P D vwCl [(st, .inr (4, [.int U, .int V, .double (tPx lx ly b y), .double (FP.i2d y), .double p2, .double p3, .double p4, .double p5, .double p6, .double p7, .double p8, .double p9, .double p10, .double p11]))] H := hP
    have hD : va_D (aE st) [(st, .inr (4, [.int U, .int V, .double (tPx lx ly b y), .double (FP.i2d y), .double p2, .double p3, .double p4, .double p5, .double p6, .double p7, .double p8, .double p9, .double p10, .double p11]))] := hD
    have hR := fr_rd hR0 hS hnr
    refine lv_aload_n hx hb dX5_reach_67 rfl (lv_at hl 1 rfl) ?_
    refine lv_aload_n hx hb dX5_reach_68 rfl (lv_at hl 1 rfl) ?_
    refine va_get (D := D) (ci := 4) (v := .int U) (C := RX5) (T := TX5) (N := 14) hx hb hts hinX5 hown hw.1 hP 0 rfl rfl 0 (by decide) (hts (.fieldLink RX5 16 "WheelSwing$Stand" "ux" "I") (by decide +kernel)) (fun _ h9 => h9) rfl dX5_reach_69 ?_
    refine lv_i2d hx hb dX5_reach_72 ?_
    have gw13 := gf_i2d 10 (cB_k kU)
    refine lv_aload_n hx hb dX5_reach_73 rfl (lv_at hl 1 rfl) ?_
    refine va_get (D := D) (ci := 4) (v := .double (tPx lx ly b y)) (C := RX5) (T := TX5) (N := 14) hx hb hts hinX5 hown hw.1 hP 0 rfl rfl 2 (by decide) (hts (.fieldLink RX5 33 "WheelSwing$Stand" "px" "D") (by decide +kernel)) (fun _ h9 => h9) rfl dX5_reach_74 ?_
    have gw14 := gf_sub 1021 1087 gw13 (gz_px hh h0) (Nat.le_of_ble_eq_true rfl) (Nat.le_of_ble_eq_true rfl) (Nat.le_of_ble_eq_true rfl) (Nat.le_of_ble_eq_true rfl) (Nat.le_of_ble_eq_true rfl)
    refine lv_dsub hx hb dX5_reach_77 (gf_n64 gw14) ?_
    refine lv_topd (fun v15 ev15 => ?_)
    rw [← ev15] at gw14
    have fv15 : v15 = tDx U lx ly b y := by rw [ev15]; rfl
    clear ev15 gw14
    subst fv15
    refine va_put (D := D) (ci := 4) (v := .double (tDx U lx ly b y)) (ty := .double) (C := RX5) (T := TX5) (N := 14) hx hb hts hinX5 tyX5 tyX5_ok nmX5 hown hw.1 hP hD hS 0 rfl rfl 10 (by decide) (hts (.fieldLink RX5 40 "WheelSwing$Stand" "dx" "D") (by decide +kernel)) (fun _ h9 => h9) rfl (by decide +kernel) rfl rfl (Nat.le_of_ble_eq_true rfl) dX5_reach_78 (fun H locs hP hD hS => ?_)
    have hP : va_P D vwCl [(st, .inr (4, [.int U, .int V, .double (tPx lx ly b y), .double (FP.i2d y), .double p2, .double p3, .double p4, .double p5, .double p6, .double p7, .double (tDx U lx ly b y), .double p9, .double p10, .double p11]))] H := hP
    have hD : va_D (aE st) [(st, .inr (4, [.int U, .int V, .double (tPx lx ly b y), .double (FP.i2d y), .double p2, .double p3, .double p4, .double p5, .double p6, .double p7, .double (tDx U lx ly b y), .double p9, .double p10, .double p11]))] := hD
    have hR := fr_rd hR0 hS hnr
    refine lv_aload_n hx hb dX5_reach_81 rfl (lv_at hl 1 rfl) ?_
    refine lv_aload_n hx hb dX5_reach_82 rfl (lv_at hl 1 rfl) ?_
    refine va_get (D := D) (ci := 4) (v := .int V) (C := RX5) (T := TX5) (N := 14) hx hb hts hinX5 hown hw.1 hP 0 rfl rfl 1 (by decide) (hts (.fieldLink RX5 21 "WheelSwing$Stand" "uy" "I") (by decide +kernel)) (fun _ h9 => h9) rfl dX5_reach_83 ?_
    refine lv_i2d hx hb dX5_reach_86 ?_
    have gw16 := gf_i2d 10 (cB_k kV)
    refine lv_aload_n hx hb dX5_reach_87 rfl (lv_at hl 1 rfl) ?_
    refine va_get (D := D) (ci := 4) (v := .double (FP.i2d y)) (C := RX5) (T := TX5) (N := 14) hx hb hts hinX5 hown hw.1 hP 0 rfl rfl 3 (by decide) (hts (.fieldLink RX5 37 "WheelSwing$Stand" "py" "D") (by decide +kernel)) (fun _ h9 => h9) rfl dX5_reach_88 ?_
    have gw17 := gf_sub 1074 1085 gw16 gw12 (Nat.le_of_ble_eq_true rfl) (Nat.le_of_ble_eq_true rfl) (Nat.le_of_ble_eq_true rfl) (Nat.le_of_ble_eq_true rfl) (Nat.le_of_ble_eq_true rfl)
    refine lv_dsub hx hb dX5_reach_91 (gf_n64 gw17) ?_
    refine lv_topd (fun v18 ev18 => ?_)
    rw [← ev18] at gw17
    have fv18 : v18 = tDy V y := by rw [ev18]; rfl
    clear ev18 gw17
    subst fv18
    refine va_put (D := D) (ci := 4) (v := .double (tDy V y)) (ty := .double) (C := RX5) (T := TX5) (N := 14) hx hb hts hinX5 tyX5 tyX5_ok nmX5 hown hw.1 hP hD hS 0 rfl rfl 11 (by decide) (hts (.fieldLink RX5 43 "WheelSwing$Stand" "dy" "D") (by decide +kernel)) (fun _ h9 => h9) rfl (by decide +kernel) rfl rfl (Nat.le_of_ble_eq_true rfl) dX5_reach_92 (fun H locs hP hD hS => ?_)
    have hP : va_P D vwCl [(st, .inr (4, [.int U, .int V, .double (tPx lx ly b y), .double (FP.i2d y), .double p2, .double p3, .double p4, .double p5, .double p6, .double p7, .double (tDx U lx ly b y), .double (tDy V y), .double p10, .double p11]))] H := hP
    have hD : va_D (aE st) [(st, .inr (4, [.int U, .int V, .double (tPx lx ly b y), .double (FP.i2d y), .double p2, .double p3, .double p4, .double p5, .double p6, .double p7, .double (tDx U lx ly b y), .double (tDy V y), .double p10, .double p11]))] := hD
    have hR := fr_rd hR0 hS hnr
    refine lv_aload_n hx hb dX5_reach_95 rfl (lv_at hl 1 rfl) ?_
    refine va_get (D := D) (ci := 4) (v := .double (tDx U lx ly b y)) (C := RX5) (T := TX5) (N := 14) hx hb hts hinX5 hown hw.1 hP 0 rfl rfl 10 (by decide) (hts (.fieldLink RX5 40 "WheelSwing$Stand" "dx" "D") (by decide +kernel)) (fun _ h9 => h9) rfl dX5_reach_96 ?_
    refine lv_aload_n hx hb dX5_reach_99 rfl (lv_at hl 1 rfl) ?_
    refine va_get (D := D) (ci := 4) (v := .double (tDx U lx ly b y)) (C := RX5) (T := TX5) (N := 14) hx hb hts hinX5 hown hw.1 hP 0 rfl rfl 10 (by decide) (hts (.fieldLink RX5 40 "WheelSwing$Stand" "dx" "D") (by decide +kernel)) (fun _ h9 => h9) rfl dX5_reach_100 ?_
    have gw19 := gf_mul 968 1100 (gz_dx hh h0) (gz_dx hh h0) (Nat.le_of_ble_eq_true rfl) (Nat.le_of_ble_eq_true rfl) (Nat.le_of_ble_eq_true rfl)
    refine lv_dmul hx hb dX5_reach_103 (gf_n64 gw19) ?_
    refine lv_topd (fun v20 ev20 => ?_)
    rw [← ev20] at gw19
    refine lv_aload_n hx hb dX5_reach_104 rfl (lv_at hl 1 rfl) ?_
    refine va_get (D := D) (ci := 4) (v := .double (tDy V y)) (C := RX5) (T := TX5) (N := 14) hx hb hts hinX5 hown hw.1 hP 0 rfl rfl 11 (by decide) (hts (.fieldLink RX5 43 "WheelSwing$Stand" "dy" "D") (by decide +kernel)) (fun _ h9 => h9) rfl dX5_reach_105 ?_
    refine lv_aload_n hx hb dX5_reach_108 rfl (lv_at hl 1 rfl) ?_
    refine va_get (D := D) (ci := 4) (v := .double (tDy V y)) (C := RX5) (T := TX5) (N := 14) hx hb hts hinX5 hown hw.1 hP 0 rfl rfl 11 (by decide) (hts (.fieldLink RX5 43 "WheelSwing$Stand" "dy" "D") (by decide +kernel)) (fun _ h9 => h9) rfl dX5_reach_109 ?_
    have gw21 := gf_mul 1074 1096 (gz_dy hh h0) (gz_dy hh h0) (Nat.le_of_ble_eq_true rfl) (Nat.le_of_ble_eq_true rfl) (Nat.le_of_ble_eq_true rfl)
    refine lv_dmul hx hb dX5_reach_112 (gf_n64 gw21) ?_
    refine lv_topd (fun v22 ev22 => ?_)
    rw [← ev22] at gw21
    have gw23 := gf_add 968 1101 gw19 gw21 (Nat.le_of_ble_eq_true rfl) (Nat.le_of_ble_eq_true rfl) (Nat.le_of_ble_eq_true rfl) (Nat.le_of_ble_eq_true rfl) (Nat.le_of_ble_eq_true rfl)
    refine lv_dadd hx hb dX5_reach_113 (gf_n64 gw23) ?_
    refine lv_topd (fun v24 ev24 => ?_)
    rw [← ev24] at gw23
    have fv24 : v24 = tE U V lx ly b y := by rw [ev24, ev22, ev20]; rfl
    clear ev24 gw23
    subst fv24
    refine lv_dstore (lv' := [(6, .double (tE U V lx ly b y)), (5, .int (tH b ly y)), (0, .ref st), (1, .ref hg), (2, .int U), (3, .int V), (4, .int y)]) hx hb dX5_reach_114 hl (by decide) rfl (fun ls hl => ?_)
    refine lv_dload hx hb dX5_reach_116 (lv_at hl 0 rfl) ?_
    refine lv_dconst0 hx hb dX5_reach_118 ?_
    refine lv_dcmp hx hb dX5_reach_119 ?_
    rw [fp_cv (gz_e hh h0).1 gf_c0.1]
    refine lv_if_ne (tgt := 125) hx hb dX5_reach_120 (by decide) (fun c25 => ?_) (fun c25 => ?_)
    · rw [fcv_eq] at c25
      have he : fv (tE U V lx ly b y) ≠ 0 := by have hq := c25; rw [fv_c0] at hq; exact hq
      refine lv_aload_n hx hb dX5_reach_125 rfl (lv_at hl 2 rfl) ?_
      refine lv_aload_n hx hb dX5_reach_126 rfl (lv_at hl 3 rfl) ?_
      refine va_getN (host := "WheelSwing") (D := D) (ci := 1) (v := .int c) (C := RX2) (T := TX2) (N := 13) hx hb hts hinX2 hown hw.1 hR 0 rfl rfl 6 (by decide) (va_Nw.use rfl (hw.2 (.fieldLinkNest RX5 46 "WheelSwing$Hanging" "c" "I" "WheelSwing") (by decide +kernel))) (fun _ h9 => h9) rfl dX5_reach_127 ?_
      refine lv_aload_n hx hb dX5_reach_130 rfl (lv_at hl 3 rfl) ?_
      refine va_getN (host := "WheelSwing") (D := D) (ci := 1) (v := .int c) (C := RX2) (T := TX2) (N := 13) hx hb hts hinX2 hown hw.1 hR 0 rfl rfl 6 (by decide) (va_Nw.use rfl (hw.2 (.fieldLinkNest RX5 46 "WheelSwing$Hanging" "c" "I" "WheelSwing") (by decide +kernel))) (fun _ h9 => h9) rfl dX5_reach_131 ?_
      refine lv_imul hx hb dX5_reach_134 ?_
      refine lv_aload_n hx hb dX5_reach_135 rfl (lv_at hl 3 rfl) ?_
      refine va_getN (host := "WheelSwing") (D := D) (ci := 1) (v := .int a) (C := RX2) (T := TX2) (N := 13) hx hb hts hinX2 hown hw.1 hR 0 rfl rfl 2 (by decide) (va_Nw.use rfl (hw.2 (.fieldLinkNest RX5 49 "WheelSwing$Hanging" "a" "I" "WheelSwing") (by decide +kernel))) (fun _ h9 => h9) rfl dX5_reach_136 ?_
      refine lv_aload_n hx hb dX5_reach_139 rfl (lv_at hl 3 rfl) ?_
      refine va_getN (host := "WheelSwing") (D := D) (ci := 1) (v := .int a) (C := RX2) (T := TX2) (N := 13) hx hb hts hinX2 hown hw.1 hR 0 rfl rfl 2 (by decide) (va_Nw.use rfl (hw.2 (.fieldLinkNest RX5 49 "WheelSwing$Hanging" "a" "I" "WheelSwing") (by decide +kernel))) (fun _ h9 => h9) rfl dX5_reach_140 ?_
      refine lv_imul hx hb dX5_reach_143 ?_
      refine lv_isub hx hb dX5_reach_144 ?_
      refine lv_i2d hx hb dX5_reach_145 ?_
      have gw26 := gf_i2d 20 (ca_k ka kc)
      refine lv_dload hx hb dX5_reach_146 (lv_at hl 0 rfl) ?_
      have gw27 := gf_add 968 1102 gw26 (gz_e hh h0) (Nat.le_of_ble_eq_true rfl) (Nat.le_of_ble_eq_true rfl) (Nat.le_of_ble_eq_true rfl) (Nat.le_of_ble_eq_true rfl) (Nat.le_of_ble_eq_true rfl)
      refine lv_dadd hx hb dX5_reach_148 (gf_n64 gw27) ?_
      refine lv_topd (fun v28 ev28 => ?_)
      rw [← ev28] at gw27
      refine lv_ldc2d hx hb hown (hts (.constantDouble RX5 52 (4611686018427387904)) (by decide +kernel)) dX5_reach_149 ?_
      refine lv_dload hx hb dX5_reach_152 (lv_at hl 0 rfl) ?_
      have gw29 := gf_mul 969 1102 gf_2 (gz_e hh h0) (Nat.le_of_ble_eq_true rfl) (Nat.le_of_ble_eq_true rfl) (Nat.le_of_ble_eq_true rfl)
      refine lv_dmul hx hb dX5_reach_154 (gf_n64 gw29) ?_
      refine lv_topd (fun v30 ev30 => ?_)
      rw [← ev30] at gw29
      have hz155 : fv v30 ≠ 0 := by rw [ev30, (dbl (gz_e hh h0) (by omega)).2]; have hq := he; omega
      have gw31 := gf_div 888 1207 gw27 gw29 hz155 (Nat.le_of_ble_eq_true rfl) (Nat.le_of_ble_eq_true rfl) (Nat.le_of_ble_eq_true rfl)
      refine lv_ddiv hx hb dX5_reach_155 (gf_n64 gw31) ?_
      refine lv_topd (fun v32 ev32 => ?_)
      rw [← ev32] at gw31
      have fv32 : v32 = tM U V lx ly a b c y := by rw [ev32, ev30, ev28]; rfl
      clear ev32 gw31
      subst fv32
      refine va_put (D := D) (ci := 4) (v := .double (tM U V lx ly a b c y)) (ty := .double) (C := RX5) (T := TX5) (N := 14) hx hb hts hinX5 tyX5 tyX5_ok nmX5 hown hw.1 hP hD hS 0 rfl rfl 12 (by decide) (hts (.fieldLink RX5 54 "WheelSwing$Stand" "m" "D") (by decide +kernel)) (fun _ h9 => h9) rfl (by decide +kernel) rfl rfl (Nat.le_of_ble_eq_true rfl) dX5_reach_156 (fun H locs hP hD hS => ?_)
      have hP : va_P D vwCl [(st, .inr (4, [.int U, .int V, .double (tPx lx ly b y), .double (FP.i2d y), .double p2, .double p3, .double p4, .double p5, .double p6, .double p7, .double (tDx U lx ly b y), .double (tDy V y), .double (tM U V lx ly a b c y), .double p11]))] H := hP
      have hD : va_D (aE st) [(st, .inr (4, [.int U, .int V, .double (tPx lx ly b y), .double (FP.i2d y), .double p2, .double p3, .double p4, .double p5, .double p6, .double p7, .double (tDx U lx ly b y), .double (tDy V y), .double (tM U V lx ly a b c y), .double p11]))] := hD
      have hR := fr_rd hR0 hS hnr
      refine lv_aload_n hx hb dX5_reach_159 rfl (lv_at hl 2 rfl) ?_
      refine lv_aload_n hx hb dX5_reach_160 rfl (lv_at hl 3 rfl) ?_
      refine va_getN (host := "WheelSwing") (D := D) (ci := 1) (v := .int c) (C := RX2) (T := TX2) (N := 13) hx hb hts hinX2 hown hw.1 hR 0 rfl rfl 6 (by decide) (va_Nw.use rfl (hw.2 (.fieldLinkNest RX5 46 "WheelSwing$Hanging" "c" "I" "WheelSwing") (by decide +kernel))) (fun _ h9 => h9) rfl dX5_reach_161 ?_
      refine lv_aload_n hx hb dX5_reach_164 rfl (lv_at hl 3 rfl) ?_
      refine va_getN (host := "WheelSwing") (D := D) (ci := 1) (v := .int c) (C := RX2) (T := TX2) (N := 13) hx hb hts hinX2 hown hw.1 hR 0 rfl rfl 6 (by decide) (va_Nw.use rfl (hw.2 (.fieldLinkNest RX5 46 "WheelSwing$Hanging" "c" "I" "WheelSwing") (by decide +kernel))) (fun _ h9 => h9) rfl dX5_reach_165 ?_
      refine lv_imul hx hb dX5_reach_168 ?_
      refine lv_i2d hx hb dX5_reach_169 ?_
      have gw33 := gf_i2d 20 (cc_k kc)
      refine lv_dload hx hb dX5_reach_170 (lv_at hl 0 rfl) ?_
      have gw34 := gf_div 995 1200 gw33 (gz_e hh h0) he (Nat.le_of_ble_eq_true rfl) (Nat.le_of_ble_eq_true rfl) (Nat.le_of_ble_eq_true rfl)
      refine lv_ddiv hx hb dX5_reach_172 (gf_n64 gw34) ?_
      refine lv_topd (fun v35 ev35 => ?_)
      rw [← ev35] at gw34
      refine lv_aload_n hx hb dX5_reach_173 rfl (lv_at hl 2 rfl) ?_
      refine va_get (D := D) (ci := 4) (v := .double (tM U V lx ly a b c y)) (C := RX5) (T := TX5) (N := 14) hx hb hts hinX5 hown hw.1 hP 0 rfl rfl 12 (by decide) (hts (.fieldLink RX5 54 "WheelSwing$Stand" "m" "D") (by decide +kernel)) (fun _ h9 => h9) rfl dX5_reach_174 ?_
      refine lv_aload_n hx hb dX5_reach_177 rfl (lv_at hl 2 rfl) ?_
      refine va_get (D := D) (ci := 4) (v := .double (tM U V lx ly a b c y)) (C := RX5) (T := TX5) (N := 14) hx hb hts hinX5 hown hw.1 hP 0 rfl rfl 12 (by decide) (hts (.fieldLink RX5 54 "WheelSwing$Stand" "m" "D") (by decide +kernel)) (fun _ h9 => h9) rfl dX5_reach_178 ?_
      have gw36 := gf_mul 808 1340 (gz_m1 hh h0 he) (gz_m1 hh h0 he) (Nat.le_of_ble_eq_true rfl) (Nat.le_of_ble_eq_true rfl) (Nat.le_of_ble_eq_true rfl)
      refine lv_dmul hx hb dX5_reach_181 (gf_n64 gw36) ?_
      refine lv_topd (fun v37 ev37 => ?_)
      rw [← ev37] at gw36
      have gw38 := gf_sub 808 1341 gw34 gw36 (Nat.le_of_ble_eq_true rfl) (Nat.le_of_ble_eq_true rfl) (Nat.le_of_ble_eq_true rfl) (Nat.le_of_ble_eq_true rfl) (Nat.le_of_ble_eq_true rfl)
      refine lv_dsub hx hb dX5_reach_182 (gf_n64 gw38) ?_
      refine lv_topd (fun v39 ev39 => ?_)
      rw [← ev39] at gw38
      have fv39 : v39 = tK U V lx ly a b c y := by rw [ev39, ev37, ev35]; rfl
      clear ev39 gw38
      subst fv39
      refine va_put (D := D) (ci := 4) (v := .double (tK U V lx ly a b c y)) (ty := .double) (C := RX5) (T := TX5) (N := 14) hx hb hts hinX5 tyX5 tyX5_ok nmX5 hown hw.1 hP hD hS 0 rfl rfl 13 (by decide) (hts (.fieldLink RX5 57 "WheelSwing$Stand" "k" "D") (by decide +kernel)) (fun _ h9 => h9) rfl (by decide +kernel) rfl rfl (Nat.le_of_ble_eq_true rfl) dX5_reach_183 (fun H locs hP hD hS => ?_)
      have hP : va_P D vwCl [(st, .inr (4, [.int U, .int V, .double (tPx lx ly b y), .double (FP.i2d y), .double p2, .double p3, .double p4, .double p5, .double p6, .double p7, .double (tDx U lx ly b y), .double (tDy V y), .double (tM U V lx ly a b c y), .double (tK U V lx ly a b c y)]))] H := hP
      have hD : va_D (aE st) [(st, .inr (4, [.int U, .int V, .double (tPx lx ly b y), .double (FP.i2d y), .double p2, .double p3, .double p4, .double p5, .double p6, .double p7, .double (tDx U lx ly b y), .double (tDy V y), .double (tM U V lx ly a b c y), .double (tK U V lx ly a b c y)]))] := hD
      have hR := fr_rd hR0 hS hnr
      refine lv_aload_n hx hb dX5_reach_186 rfl (lv_at hl 2 rfl) ?_
      refine va_get (D := D) (ci := 4) (v := .double (tK U V lx ly a b c y)) (C := RX5) (T := TX5) (N := 14) hx hb hts hinX5 hown hw.1 hP 0 rfl rfl 13 (by decide) (hts (.fieldLink RX5 57 "WheelSwing$Stand" "k" "D") (by decide +kernel)) (fun _ h9 => h9) rfl dX5_reach_187 ?_
      refine lv_dconst0 hx hb dX5_reach_190 ?_
      refine lv_dcmp hx hb dX5_reach_191 ?_
      rw [fp_cv (gz_k0 hh h0 he).1 gf_c0.1]
      refine lv_if_lt (tgt := 199) hx hb dX5_reach_192 (by decide) (fun c40 => ?_) (fun c40 => ?_)
      · rw [fcv_lt] at c40
        refine lv_iconst (v := 0) hx hb dX5_reach_199 (by decide) ?_
        exact W.zret (v := 0) hx hb hr rfl (fun t ht hW => ⟨⟨0, [.int U, .int V, .double (tPx lx ly b y), .double (FP.i2d y), .double p2, .double p3, .double p4, .double p5, .double p6, .double p7, .double (tDx U lx ly b y), .double (tDy V y), .double (tM U V lx ly a b c y), .double (tK U V lx ly a b c y)], rfl, Or.inr ⟨rfl, fun hf => absurd hf.2.2 (by have hq := c40; rw [fv_c0] at hq; exact Int.not_le.mpr hq), ⟨_, _, _, _, _, _, _, _, _, _, _, _, _, _, rfl⟩⟩, at_heap ht (hP 0 _ rfl)⟩, hS.F ht⟩) hS.2.2 dX5_reach_200
      · rw [fcv_lt] at c40
        refine lv_iconst (v := 1) hx hb dX5_reach_195 (by decide) ?_
        refine lv_goto (tgt := 200) hx hb dX5_reach_196 (by decide) ?_
        exact W.zret (v := 1) hx hb hr rfl (fun t ht hW => ⟨⟨1, [.int U, .int V, .double (tPx lx ly b y), .double (FP.i2d y), .double p2, .double p3, .double p4, .double p5, .double p6, .double p7, .double (tDx U lx ly b y), .double (tDy V y), .double (tM U V lx ly a b c y), .double (tK U V lx ly a b c y)], rfl, Or.inl ⟨rfl, ⟨h0, he, by have hq := c40; rw [fv_c0] at hq; exact Int.not_lt.mp hq⟩, rfl⟩, at_heap ht (hP 0 _ rfl)⟩, hS.F ht⟩) hS.2.2 dX5_reach_200
    · rw [fcv_eq] at c25
      refine lv_iconst (v := 0) hx hb dX5_reach_123 (by decide) ?_
      exact W.zret (v := 0) hx hb hr rfl (fun t ht hW => ⟨⟨0, [.int U, .int V, .double (tPx lx ly b y), .double (FP.i2d y), .double p2, .double p3, .double p4, .double p5, .double p6, .double p7, .double (tDx U lx ly b y), .double (tDy V y), .double p10, .double p11], rfl, Or.inr ⟨rfl, fun hf => hf.2.1 (by have hq := c25; rw [fv_c0] at hq; exact hq), ⟨_, _, _, _, _, _, _, _, _, _, _, _, _, _, rfl⟩⟩, at_heap ht (hP 0 _ rfl)⟩, hS.F ht⟩) hS.2.2 dX5_reach_124
  · refine lv_iconst (v := 0) hx hb dX5_reach_32 (by decide) ?_
    exact W.zret (v := 0) hx hb hr rfl (fun t ht hW => ⟨⟨0, [.int s0, .int s1, .double p0, .double p1, .double p2, .double p3, .double p4, .double p5, .double p6, .double p7, .double p8, .double p9, .double p10, .double p11], rfl, Or.inr ⟨rfl, fun hf => c2 hf.1, ⟨_, _, _, _, _, _, _, _, _, _, _, _, _, _, rfl⟩⟩, at_heap ht (hP 0 _ rfl)⟩, hS.F ht⟩) hS.2.2 dX5_reach_33
set_option maxHeartbeats 4000000 in
set_option maxRecDepth 100000 in
theorem mX5_placeUpright (l : Launch) (D : va_G) (cI cH : ClassId) (st hg : Nat) (p2 p3 p4 p5 p6 p7 : UInt64) (ux uy a lx ly b c sd g d sx sy f : Int32) (U V y : Int32)  (hne : hg ≠ st) (hh : pB U V lx ly a b c y) (hsd : sd = 1 ∨ sd = -1) (hf : tFree U V lx ly a b c y) : Met l yX5_placeUpright wsX5_placeUpright ({ frames := 3, cells := 0, slots := 0, locals := 79 }) (va_Pc [.ref st, .ref hg] (kB D cI cH [(st, .inr (4, [.int U, .int V, .double (tPx lx ly b y), .double (FP.i2d y), .double p2, .double p3, .double p4, .double p5, .double p6, .double p7, .double (tDx U lx ly b y), .double (tDy V y), .double (tM U V lx ly a b c y), .double (tK U V lx ly a b c y)])), (hg, .inr (1, [.int ux, .int uy, .int a, .int lx, .int ly, .int b, .int c, .int sd, .int g, .int d, .int sx, .int sy, .int f]))])) (va_Qv (fun (u : List Value) => u = [.int U, .int V, .double (tPx lx ly b y), .double (FP.i2d y), .double (tQx U V lx ly a b c sd y), .double (tQy U V lx ly a b c sd y), .double (tVx U V lx ly a b c sd y), .double (tVy U V lx ly a b c sd y), .double p6, .double p7, .double (tDx U lx ly b y), .double (tDy V y), .double (tM U V lx ly a b c y), .double (tK U V lx ly a b c y)]) (fun u t => va_at D vwCl (st, .inr (4, u)) t.heap) (aE st)) 0 0 (aE st) := by
  refine Met.ofW (cc := cX5_placeUpright) (maxL := 4) (ret := none) (by decide) rfl ?_
  intro p e s m args below meth co s₁ B hml hv
  obtain ⟨rfl, hP0, hw⟩ := hv
  have hx := B.exec
  have hb := B.bytes
  have hr := B.returns
  have hts := atoms_spec (ws := wsX5_placeUpright) B.pre
  have hown : s.vm.findClass RX5 = some m.cls := findClass_of_methodNamed B.named
  have hlocks := B.notSynchronized
  have hinX2 : ∀ w ∈ wsX20, w ∈ wsX5_placeUpright := by decide +kernel
  have hinX5 : ∀ w ∈ wsX50, w ∈ wsX5_placeUpright := by decide +kernel
  have hS : va_S (aE st) s.heap s.heap [] := va_S.rf
  have hP : va_P D vwCl [(st, .inr (4, [.int U, .int V, .double (tPx lx ly b y), .double (FP.i2d y), .double p2, .double p3, .double p4, .double p5, .double p6, .double p7, .double (tDx U lx ly b y), .double (tDy V y), .double (tM U V lx ly a b c y), .double (tK U V lx ly a b c y)]))] s.heap := hP0.sub [0] rfl
  have hD : va_D (aE st) [(st, .inr (4, [.int U, .int V, .double (tPx lx ly b y), .double (FP.i2d y), .double p2, .double p3, .double p4, .double p5, .double p6, .double p7, .double (tDx U lx ly b y), .double (tDy V y), .double (tM U V lx ly a b c y), .double (tK U V lx ly a b c y)]))] := D_1 rfl
  have hR0 : va_P D vwCl [(hg, .inr (1, [.int ux, .int uy, .int a, .int lx, .int ly, .int b, .int c, .int sd, .int g, .int d, .int sx, .int sy, .int f]))] s.heap := hP0.sub [1] rfl
  have hR := hR0
  have hnr : ∀ (k : Nat) (q : Nat × va_E), ([(hg, .inr (1, [.int ux, .int uy, .int a, .int lx, .int ly, .int b, .int c, .int sd, .int g, .int d, .int sx, .int sy, .int f]))] : va_W)[k]? = some q → ¬ (aE st) q.1 := nn_1 hne nn_0
  obtain ⟨kU, kV, klx, kly, ka, kb, kc, ky⟩ := id hh
  have h0 := hf.1
  have he := hf.2.1
  have hk := hf.2.2
  have hl := lv_entry ([.ref st, .ref hg]) (n := 4) (Nat.le_of_ble_eq_true rfl)
  rw [lg_entry_eq]
  generalize (lg_sl ([.ref st, .ref hg]) ++ List.replicate (4 - (lg_sl ([.ref st, .ref hg])).length) Slot.unset).toArray = ls at hl ⊢
  have hl : lv_has ls 4 [(0, .ref st), (1, .ref hg)] := hl
  skip
  refine lv_aload_n hx hb dX5_placeUpright_0 rfl (lv_at hl 1 rfl) ?_
  refine va_getN (host := "WheelSwing") (D := D) (ci := 1) (v := .int sd) (C := RX2) (T := TX2) (N := 13) hx hb hts hinX2 hown hw.1 hR 0 rfl rfl 7 (by decide) (va_Nw.use rfl (hw.2 (.fieldLinkNest RX5 60 "WheelSwing$Hanging" "side" "I" "WheelSwing") (by decide +kernel))) (fun _ h9 => h9) rfl dX5_placeUpright_1 ?_
  refine lv_i2d hx hb dX5_placeUpright_4 ?_
  have gw1 := gf_i2d 0 (sd_k hsd)
  refine lv_aload_n hx hb dX5_placeUpright_5 rfl (lv_at hl 0 rfl) ?_
  refine va_get (D := D) (ci := 4) (v := .double (tK U V lx ly a b c y)) (C := RX5) (T := TX5) (N := 14) hx hb hts hinX5 hown hw.1 hP 0 rfl rfl 13 (by decide) (hts (.fieldLink RX5 57 "WheelSwing$Stand" "k" "D") (by decide +kernel)) (fun _ h9 => h9) rfl dX5_placeUpright_6 ?_
  refine va_calld (va_runSN (As := [.double (tK U V lx ly a b c y)]) (rest := [.double (FP.i2d sd)]) ⟨hx, hb, hml, hown, hts⟩ (mX1_squareRoot l (tK U V lx ly a b c y) (gz_krt hh h0 he hk)) (⟨va_cnB 1 hts gX5_placeUpright_X1_squareRoot_n27 rfl rfl rfl (hw.2 (.methodLinkNest RX5 27 yX1_squareRoot "WheelSwing") (by decide +kernel)) (hts (.initialized RX1) (by decide +kernel)) (by decide +kernel) ⟨Nat.le_of_ble_eq_true rfl, Nat.le_of_ble_eq_true rfl⟩, hts (.static yX1_squareRoot) (by decide +kernel), trivial⟩) ⟨tB_blind, tB_go⟩ rfl rfl hl.1 rfl (lv_room (Nat.le_of_ble_eq_true rfl)) dX5_placeUpright_9 ⟨Nat.le_of_ble_eq_true rfl, Nat.le_of_ble_eq_true rfl⟩) hS (fun q _ h => h.elim) (fun q h => h.elim) (fun r2 u3 t H locs ht hvm hp4 hB hz1 hk1 hS => ?_)
  have hP := fr_keep hP hk1 fr_nA
  have hR := fr_rd hR0 hS hnr
  obtain ⟨rfl, hi5⟩ := hp4
  have gw6 := gf_sq 987 1138 hi5 (gz_kk hh h0 he hk).2.1 (Nat.le_of_ble_eq_true rfl) (Nat.le_of_ble_eq_true rfl)
  have gw7 := gf_mul 987 1138 gw1 gw6 (Nat.le_of_ble_eq_true rfl) (Nat.le_of_ble_eq_true rfl) (Nat.le_of_ble_eq_true rfl)
  refine lv_dmul hx hb dX5_placeUpright_12 (gf_n64 gw7) ?_
  refine lv_topd (fun v8 ev8 => ?_)
  rw [← ev8] at gw7
  have fv8 : v8 = tS U V lx ly a b c sd y := by rw [ev8]; rfl
  clear ev8 gw7
  subst fv8
  refine lv_dstore_n (lv' := [(2, .double (tS U V lx ly a b c sd y)), (0, .ref st), (1, .ref hg)]) hx hb dX5_placeUpright_13 rfl hl (by decide) rfl (fun ls hl => ?_)
  refine lv_aload_n hx hb dX5_placeUpright_14 rfl (lv_at hl 1 rfl) ?_
  refine lv_aload_n hx hb dX5_placeUpright_15 rfl (lv_at hl 1 rfl) ?_
  refine va_get (D := D) (ci := 4) (v := .double (tPx lx ly b y)) (C := RX5) (T := TX5) (N := 14) hx hb hts hinX5 hown hw.1 hP 0 rfl rfl 2 (by decide) (hts (.fieldLink RX5 33 "WheelSwing$Stand" "px" "D") (by decide +kernel)) (fun _ h9 => h9) rfl dX5_placeUpright_16 ?_
  refine lv_aload_n hx hb dX5_placeUpright_19 rfl (lv_at hl 1 rfl) ?_
  refine va_get (D := D) (ci := 4) (v := .double (tM U V lx ly a b c y)) (C := RX5) (T := TX5) (N := 14) hx hb hts hinX5 hown hw.1 hP 0 rfl rfl 12 (by decide) (hts (.fieldLink RX5 54 "WheelSwing$Stand" "m" "D") (by decide +kernel)) (fun _ h9 => h9) rfl dX5_placeUpright_20 ?_
  refine lv_aload_n hx hb dX5_placeUpright_23 rfl (lv_at hl 1 rfl) ?_
  refine va_get (D := D) (ci := 4) (v := .double (tDx U lx ly b y)) (C := RX5) (T := TX5) (N := 14) hx hb hts hinX5 hown hw.1 hP 0 rfl rfl 10 (by decide) (hts (.fieldLink RX5 40 "WheelSwing$Stand" "dx" "D") (by decide +kernel)) (fun _ h9 => h9) rfl dX5_placeUpright_24 ?_
  have gw9 := gf_mul 888 1151 (gz_m hh h0 he hk) (gz_dx hh h0) (Nat.le_of_ble_eq_true rfl) (Nat.le_of_ble_eq_true rfl) (Nat.le_of_ble_eq_true rfl)
  refine lv_dmul hx hb dX5_placeUpright_27 (gf_n64 gw9) ?_
  refine lv_topd (fun v10 ev10 => ?_)
  rw [← ev10] at gw9
  have gw11 := gf_add 888 1152 (gz_px hh h0) gw9 (Nat.le_of_ble_eq_true rfl) (Nat.le_of_ble_eq_true rfl) (Nat.le_of_ble_eq_true rfl) (Nat.le_of_ble_eq_true rfl) (Nat.le_of_ble_eq_true rfl)
  refine lv_dadd hx hb dX5_placeUpright_28 (gf_n64 gw11) ?_
  refine lv_topd (fun v12 ev12 => ?_)
  rw [← ev12] at gw11
  refine lv_dload_n hx hb dX5_placeUpright_29 rfl (lv_at hl 0 rfl) ?_
  refine lv_aload_n hx hb dX5_placeUpright_30 rfl (lv_at hl 1 rfl) ?_
  refine va_get (D := D) (ci := 4) (v := .double (tDy V y)) (C := RX5) (T := TX5) (N := 14) hx hb hts hinX5 hown hw.1 hP 0 rfl rfl 11 (by decide) (hts (.fieldLink RX5 43 "WheelSwing$Stand" "dy" "D") (by decide +kernel)) (fun _ h9 => h9) rfl dX5_placeUpright_31 ?_
  have gw13 := gf_mul 987 1149 (gz_s hh h0 he hk hsd) (gz_dy hh h0) (Nat.le_of_ble_eq_true rfl) (Nat.le_of_ble_eq_true rfl) (Nat.le_of_ble_eq_true rfl)
  refine lv_dmul hx hb dX5_placeUpright_34 (gf_n64 gw13) ?_
  refine lv_topd (fun v14 ev14 => ?_)
  rw [← ev14] at gw13
  have gw15 := gf_add 888 1153 gw11 gw13 (Nat.le_of_ble_eq_true rfl) (Nat.le_of_ble_eq_true rfl) (Nat.le_of_ble_eq_true rfl) (Nat.le_of_ble_eq_true rfl) (Nat.le_of_ble_eq_true rfl)
  refine lv_dadd hx hb dX5_placeUpright_35 (gf_n64 gw15) ?_
  refine lv_topd (fun v16 ev16 => ?_)
  rw [← ev16] at gw15
  have fv16 : v16 = tQx U V lx ly a b c sd y := by rw [ev16, ev14, ev12, ev10]; rfl
  clear ev16 gw15
  subst fv16
  refine va_put (D := D) (ci := 4) (v := .double (tQx U V lx ly a b c sd y)) (ty := .double) (C := RX5) (T := TX5) (N := 14) hx hb hts hinX5 tyX5 tyX5_ok nmX5 hown hw.1 hP hD hS 0 rfl rfl 4 (by decide) (hts (.fieldLink RX5 63 "WheelSwing$Stand" "qx" "D") (by decide +kernel)) (fun _ h9 => h9) rfl (by decide +kernel) rfl rfl (Nat.le_of_ble_eq_true rfl) dX5_placeUpright_36 (fun H locs hP hD hS => ?_)
  have hP : va_P D vwCl [(st, .inr (4, [.int U, .int V, .double (tPx lx ly b y), .double (FP.i2d y), .double (tQx U V lx ly a b c sd y), .double p3, .double p4, .double p5, .double p6, .double p7, .double (tDx U lx ly b y), .double (tDy V y), .double (tM U V lx ly a b c y), .double (tK U V lx ly a b c y)]))] H := hP
  have hD : va_D (aE st) [(st, .inr (4, [.int U, .int V, .double (tPx lx ly b y), .double (FP.i2d y), .double (tQx U V lx ly a b c sd y), .double p3, .double p4, .double p5, .double p6, .double p7, .double (tDx U lx ly b y), .double (tDy V y), .double (tM U V lx ly a b c y), .double (tK U V lx ly a b c y)]))] := hD
  have hR := fr_rd hR0 hS hnr
  refine lv_aload_n hx hb dX5_placeUpright_39 rfl (lv_at hl 1 rfl) ?_
  refine lv_aload_n hx hb dX5_placeUpright_40 rfl (lv_at hl 1 rfl) ?_
  refine va_get (D := D) (ci := 4) (v := .double (FP.i2d y)) (C := RX5) (T := TX5) (N := 14) hx hb hts hinX5 hown hw.1 hP 0 rfl rfl 3 (by decide) (hts (.fieldLink RX5 37 "WheelSwing$Stand" "py" "D") (by decide +kernel)) (fun _ h9 => h9) rfl dX5_placeUpright_41 ?_
  refine lv_aload_n hx hb dX5_placeUpright_44 rfl (lv_at hl 1 rfl) ?_
  refine va_get (D := D) (ci := 4) (v := .double (tM U V lx ly a b c y)) (C := RX5) (T := TX5) (N := 14) hx hb hts hinX5 hown hw.1 hP 0 rfl rfl 12 (by decide) (hts (.fieldLink RX5 54 "WheelSwing$Stand" "m" "D") (by decide +kernel)) (fun _ h9 => h9) rfl dX5_placeUpright_45 ?_
  refine lv_aload_n hx hb dX5_placeUpright_48 rfl (lv_at hl 1 rfl) ?_
  refine va_get (D := D) (ci := 4) (v := .double (tDy V y)) (C := RX5) (T := TX5) (N := 14) hx hb hts hinX5 hown hw.1 hP 0 rfl rfl 11 (by decide) (hts (.fieldLink RX5 43 "WheelSwing$Stand" "dy" "D") (by decide +kernel)) (fun _ h9 => h9) rfl dX5_placeUpright_49 ?_
  have gw17 := gf_mul 941 1149 (gz_m hh h0 he hk) (gz_dy hh h0) (Nat.le_of_ble_eq_true rfl) (Nat.le_of_ble_eq_true rfl) (Nat.le_of_ble_eq_true rfl)
  refine lv_dmul hx hb dX5_placeUpright_52 (gf_n64 gw17) ?_
  refine lv_topd (fun v18 ev18 => ?_)
  rw [← ev18] at gw17
  have gw19 := gf_add 941 1150 (gf_i2d 10 (yB_k ky)) gw17 (Nat.le_of_ble_eq_true rfl) (Nat.le_of_ble_eq_true rfl) (Nat.le_of_ble_eq_true rfl) (Nat.le_of_ble_eq_true rfl) (Nat.le_of_ble_eq_true rfl)
  refine lv_dadd hx hb dX5_placeUpright_53 (gf_n64 gw19) ?_
  refine lv_topd (fun v20 ev20 => ?_)
  rw [← ev20] at gw19
  refine lv_dload_n hx hb dX5_placeUpright_54 rfl (lv_at hl 0 rfl) ?_
  refine lv_aload_n hx hb dX5_placeUpright_55 rfl (lv_at hl 1 rfl) ?_
  refine va_get (D := D) (ci := 4) (v := .double (tDx U lx ly b y)) (C := RX5) (T := TX5) (N := 14) hx hb hts hinX5 hown hw.1 hP 0 rfl rfl 10 (by decide) (hts (.fieldLink RX5 40 "WheelSwing$Stand" "dx" "D") (by decide +kernel)) (fun _ h9 => h9) rfl dX5_placeUpright_56 ?_
  have gw21 := gf_mul 934 1151 (gz_s hh h0 he hk hsd) (gz_dx hh h0) (Nat.le_of_ble_eq_true rfl) (Nat.le_of_ble_eq_true rfl) (Nat.le_of_ble_eq_true rfl)
  refine lv_dmul hx hb dX5_placeUpright_59 (gf_n64 gw21) ?_
  refine lv_topd (fun v22 ev22 => ?_)
  rw [← ev22] at gw21
  have gw23 := gf_sub 934 1152 gw19 gw21 (Nat.le_of_ble_eq_true rfl) (Nat.le_of_ble_eq_true rfl) (Nat.le_of_ble_eq_true rfl) (Nat.le_of_ble_eq_true rfl) (Nat.le_of_ble_eq_true rfl)
  refine lv_dsub hx hb dX5_placeUpright_60 (gf_n64 gw23) ?_
  refine lv_topd (fun v24 ev24 => ?_)
  rw [← ev24] at gw23
  have fv24 : v24 = tQy U V lx ly a b c sd y := by rw [ev24, ev22, ev20, ev18]; rfl
  clear ev24 gw23
  subst fv24
  refine va_put (D := D) (ci := 4) (v := .double (tQy U V lx ly a b c sd y)) (ty := .double) (C := RX5) (T := TX5) (N := 14) hx hb hts hinX5 tyX5 tyX5_ok nmX5 hown hw.1 hP hD hS 0 rfl rfl 5 (by decide) (hts (.fieldLink RX5 66 "WheelSwing$Stand" "qy" "D") (by decide +kernel)) (fun _ h9 => h9) rfl (by decide +kernel) rfl rfl (Nat.le_of_ble_eq_true rfl) dX5_placeUpright_61 (fun H locs hP hD hS => ?_)
  have hP : va_P D vwCl [(st, .inr (4, [.int U, .int V, .double (tPx lx ly b y), .double (FP.i2d y), .double (tQx U V lx ly a b c sd y), .double (tQy U V lx ly a b c sd y), .double p4, .double p5, .double p6, .double p7, .double (tDx U lx ly b y), .double (tDy V y), .double (tM U V lx ly a b c y), .double (tK U V lx ly a b c y)]))] H := hP
  have hD : va_D (aE st) [(st, .inr (4, [.int U, .int V, .double (tPx lx ly b y), .double (FP.i2d y), .double (tQx U V lx ly a b c sd y), .double (tQy U V lx ly a b c sd y), .double p4, .double p5, .double p6, .double p7, .double (tDx U lx ly b y), .double (tDy V y), .double (tM U V lx ly a b c y), .double (tK U V lx ly a b c y)]))] := hD
  have hR := fr_rd hR0 hS hnr
  refine lv_aload_n hx hb dX5_placeUpright_64 rfl (lv_at hl 1 rfl) ?_
  refine lv_aload_n hx hb dX5_placeUpright_65 rfl (lv_at hl 1 rfl) ?_
  refine va_get (D := D) (ci := 4) (v := .double (tQx U V lx ly a b c sd y)) (C := RX5) (T := TX5) (N := 14) hx hb hts hinX5 hown hw.1 hP 0 rfl rfl 4 (by decide) (hts (.fieldLink RX5 63 "WheelSwing$Stand" "qx" "D") (by decide +kernel)) (fun _ h9 => h9) rfl dX5_placeUpright_66 ?_
  refine lv_aload_n hx hb dX5_placeUpright_69 rfl (lv_at hl 1 rfl) ?_
  refine va_get (D := D) (ci := 4) (v := .double (tPx lx ly b y)) (C := RX5) (T := TX5) (N := 14) hx hb hts hinX5 hown hw.1 hP 0 rfl rfl 2 (by decide) (hts (.fieldLink RX5 33 "WheelSwing$Stand" "px" "D") (by decide +kernel)) (fun _ h9 => h9) rfl dX5_placeUpright_70 ?_
  have gw25 := gf_sub 888 1154 (gz_qx hh h0 he hk hsd) (gz_px hh h0) (Nat.le_of_ble_eq_true rfl) (Nat.le_of_ble_eq_true rfl) (Nat.le_of_ble_eq_true rfl) (Nat.le_of_ble_eq_true rfl) (Nat.le_of_ble_eq_true rfl)
  refine lv_dsub hx hb dX5_placeUpright_73 (gf_n64 gw25) ?_
  refine lv_topd (fun v26 ev26 => ?_)
  rw [← ev26] at gw25
  refine lv_aload_n hx hb dX5_placeUpright_74 rfl (lv_at hl 2 rfl) ?_
  refine va_getN (host := "WheelSwing") (D := D) (ci := 1) (v := .int c) (C := RX2) (T := TX2) (N := 13) hx hb hts hinX2 hown hw.1 hR 0 rfl rfl 6 (by decide) (va_Nw.use rfl (hw.2 (.fieldLinkNest RX5 46 "WheelSwing$Hanging" "c" "I" "WheelSwing") (by decide +kernel))) (fun _ h9 => h9) rfl dX5_placeUpright_75 ?_
  refine lv_i2d hx hb dX5_placeUpright_78 ?_
  have gw27 := gf_i2d 10 (aB_k kc)
  have gw28 := gf_div 826 1154 gw25 gw27 (c_ne kc) (Nat.le_of_ble_eq_true rfl) (Nat.le_of_ble_eq_true rfl) (Nat.le_of_ble_eq_true rfl)
  refine lv_ddiv hx hb dX5_placeUpright_79 (gf_n64 gw28) ?_
  refine lv_topd (fun v29 ev29 => ?_)
  rw [← ev29] at gw28
  have fv29 : v29 = tVx U V lx ly a b c sd y := by rw [ev29, ev26]; rfl
  clear ev29 gw28
  subst fv29
  refine va_put (D := D) (ci := 4) (v := .double (tVx U V lx ly a b c sd y)) (ty := .double) (C := RX5) (T := TX5) (N := 14) hx hb hts hinX5 tyX5 tyX5_ok nmX5 hown hw.1 hP hD hS 0 rfl rfl 6 (by decide) (hts (.fieldLink RX5 69 "WheelSwing$Stand" "vx" "D") (by decide +kernel)) (fun _ h9 => h9) rfl (by decide +kernel) rfl rfl (Nat.le_of_ble_eq_true rfl) dX5_placeUpright_80 (fun H locs hP hD hS => ?_)
  have hP : va_P D vwCl [(st, .inr (4, [.int U, .int V, .double (tPx lx ly b y), .double (FP.i2d y), .double (tQx U V lx ly a b c sd y), .double (tQy U V lx ly a b c sd y), .double (tVx U V lx ly a b c sd y), .double p5, .double p6, .double p7, .double (tDx U lx ly b y), .double (tDy V y), .double (tM U V lx ly a b c y), .double (tK U V lx ly a b c y)]))] H := hP
  have hD : va_D (aE st) [(st, .inr (4, [.int U, .int V, .double (tPx lx ly b y), .double (FP.i2d y), .double (tQx U V lx ly a b c sd y), .double (tQy U V lx ly a b c sd y), .double (tVx U V lx ly a b c sd y), .double p5, .double p6, .double p7, .double (tDx U lx ly b y), .double (tDy V y), .double (tM U V lx ly a b c y), .double (tK U V lx ly a b c y)]))] := hD
  have hR := fr_rd hR0 hS hnr
  refine lv_aload_n hx hb dX5_placeUpright_83 rfl (lv_at hl 1 rfl) ?_
  refine lv_aload_n hx hb dX5_placeUpright_84 rfl (lv_at hl 1 rfl) ?_
  refine va_get (D := D) (ci := 4) (v := .double (tQy U V lx ly a b c sd y)) (C := RX5) (T := TX5) (N := 14) hx hb hts hinX5 hown hw.1 hP 0 rfl rfl 5 (by decide) (hts (.fieldLink RX5 66 "WheelSwing$Stand" "qy" "D") (by decide +kernel)) (fun _ h9 => h9) rfl dX5_placeUpright_85 ?_
  refine lv_aload_n hx hb dX5_placeUpright_88 rfl (lv_at hl 1 rfl) ?_
  refine va_get (D := D) (ci := 4) (v := .double (FP.i2d y)) (C := RX5) (T := TX5) (N := 14) hx hb hts hinX5 hown hw.1 hP 0 rfl rfl 3 (by decide) (hts (.fieldLink RX5 37 "WheelSwing$Stand" "py" "D") (by decide +kernel)) (fun _ h9 => h9) rfl dX5_placeUpright_89 ?_
  have gw30 := gf_sub 934 1153 (gz_qy hh h0 he hk hsd) (gf_i2d 10 (yB_k ky)) (Nat.le_of_ble_eq_true rfl) (Nat.le_of_ble_eq_true rfl) (Nat.le_of_ble_eq_true rfl) (Nat.le_of_ble_eq_true rfl) (Nat.le_of_ble_eq_true rfl)
  refine lv_dsub hx hb dX5_placeUpright_92 (gf_n64 gw30) ?_
  refine lv_topd (fun v31 ev31 => ?_)
  rw [← ev31] at gw30
  refine lv_aload_n hx hb dX5_placeUpright_93 rfl (lv_at hl 2 rfl) ?_
  refine va_getN (host := "WheelSwing") (D := D) (ci := 1) (v := .int c) (C := RX2) (T := TX2) (N := 13) hx hb hts hinX2 hown hw.1 hR 0 rfl rfl 6 (by decide) (va_Nw.use rfl (hw.2 (.fieldLinkNest RX5 46 "WheelSwing$Hanging" "c" "I" "WheelSwing") (by decide +kernel))) (fun _ h9 => h9) rfl dX5_placeUpright_94 ?_
  refine lv_i2d hx hb dX5_placeUpright_97 ?_
  have gw32 := gf_i2d 10 (aB_k kc)
  have gw33 := gf_div 872 1153 gw30 gw32 (c_ne kc) (Nat.le_of_ble_eq_true rfl) (Nat.le_of_ble_eq_true rfl) (Nat.le_of_ble_eq_true rfl)
  refine lv_ddiv hx hb dX5_placeUpright_98 (gf_n64 gw33) ?_
  refine lv_topd (fun v34 ev34 => ?_)
  rw [← ev34] at gw33
  have fv34 : v34 = tVy U V lx ly a b c sd y := by rw [ev34, ev31]; rfl
  clear ev34 gw33
  subst fv34
  refine va_put (D := D) (ci := 4) (v := .double (tVy U V lx ly a b c sd y)) (ty := .double) (C := RX5) (T := TX5) (N := 14) hx hb hts hinX5 tyX5 tyX5_ok nmX5 hown hw.1 hP hD hS 0 rfl rfl 7 (by decide) (hts (.fieldLink RX5 72 "WheelSwing$Stand" "vy" "D") (by decide +kernel)) (fun _ h9 => h9) rfl (by decide +kernel) rfl rfl (Nat.le_of_ble_eq_true rfl) dX5_placeUpright_99 (fun H locs hP hD hS => ?_)
  have hP : va_P D vwCl [(st, .inr (4, [.int U, .int V, .double (tPx lx ly b y), .double (FP.i2d y), .double (tQx U V lx ly a b c sd y), .double (tQy U V lx ly a b c sd y), .double (tVx U V lx ly a b c sd y), .double (tVy U V lx ly a b c sd y), .double p6, .double p7, .double (tDx U lx ly b y), .double (tDy V y), .double (tM U V lx ly a b c y), .double (tK U V lx ly a b c y)]))] H := hP
  have hD : va_D (aE st) [(st, .inr (4, [.int U, .int V, .double (tPx lx ly b y), .double (FP.i2d y), .double (tQx U V lx ly a b c sd y), .double (tQy U V lx ly a b c sd y), .double (tVx U V lx ly a b c sd y), .double (tVy U V lx ly a b c sd y), .double p6, .double p7, .double (tDx U lx ly b y), .double (tDy V y), .double (tM U V lx ly a b c y), .double (tK U V lx ly a b c y)]))] := hD
  have hR := fr_rd hR0 hS hnr
  exact W.vret hx hb hr (fun t ht hW => ⟨⟨[.int U, .int V, .double (tPx lx ly b y), .double (FP.i2d y), .double (tQx U V lx ly a b c sd y), .double (tQy U V lx ly a b c sd y), .double (tVx U V lx ly a b c sd y), .double (tVy U V lx ly a b c sd y), .double p6, .double p7, .double (tDx U lx ly b y), .double (tDy V y), .double (tM U V lx ly a b c y), .double (tK U V lx ly a b c y)], rfl, rfl, at_heap ht (hP 0 _ rfl)⟩, hS.F ht⟩) hS.2.2 dX5_placeUpright_102
def tRx (g d : Int32) (px vx vy : UInt64) : UInt64 := FP.dadd (FP.dadd px (FP.dmul (FP.i2d g) vx)) (FP.dmul (FP.i2d d) vy)
def tRy (g d : Int32) (py vx vy : UInt64) : UInt64 := FP.dsub (FP.dadd py (FP.dmul (FP.i2d g) vy)) (FP.dmul (FP.i2d d) vx)
theorem gz_rx {g d : Int32} {px vx vy : UInt64} (kg : cB g) (kd : cB d) (g1 : fGr 1021 1086 px) (g2 : fGr 826 1154 vx) (g3 : fGr 872 1153 vy) : fGr 826 1166 (tRx g d px vx vy) := gf_w (gf_add 826 1166 (gf_add 826 1165 g1 (gf_mul 826 1164 (gf_i2d 10 (cB_k kg)) g2 (Nat.le_of_ble_eq_true rfl) (Nat.le_of_ble_eq_true rfl) (Nat.le_of_ble_eq_true rfl)) (Nat.le_of_ble_eq_true rfl) (Nat.le_of_ble_eq_true rfl) (Nat.le_of_ble_eq_true rfl) (Nat.le_of_ble_eq_true rfl) (Nat.le_of_ble_eq_true rfl)) (gf_mul 872 1163 (gf_i2d 10 (cB_k kd)) g3 (Nat.le_of_ble_eq_true rfl) (Nat.le_of_ble_eq_true rfl) (Nat.le_of_ble_eq_true rfl)) (Nat.le_of_ble_eq_true rfl) (Nat.le_of_ble_eq_true rfl) (Nat.le_of_ble_eq_true rfl) (Nat.le_of_ble_eq_true rfl) (Nat.le_of_ble_eq_true rfl)) (Nat.le_of_ble_eq_true rfl) (Nat.le_of_ble_eq_true rfl)
theorem gz_ry {g d : Int32} {py vx vy : UInt64} (kg : cB g) (kd : cB d) (g1 : fGr 1074 1084 py) (g2 : fGr 826 1154 vx) (g3 : fGr 872 1153 vy) : fGr 826 1166 (tRy g d py vx vy) := gf_w (gf_sub 826 1165 (gf_add 872 1164 g1 (gf_mul 872 1163 (gf_i2d 10 (cB_k kg)) g3 (Nat.le_of_ble_eq_true rfl) (Nat.le_of_ble_eq_true rfl) (Nat.le_of_ble_eq_true rfl)) (Nat.le_of_ble_eq_true rfl) (Nat.le_of_ble_eq_true rfl) (Nat.le_of_ble_eq_true rfl) (Nat.le_of_ble_eq_true rfl) (Nat.le_of_ble_eq_true rfl)) (gf_mul 826 1164 (gf_i2d 10 (cB_k kd)) g2 (Nat.le_of_ble_eq_true rfl) (Nat.le_of_ble_eq_true rfl) (Nat.le_of_ble_eq_true rfl)) (Nat.le_of_ble_eq_true rfl) (Nat.le_of_ble_eq_true rfl) (Nat.le_of_ble_eq_true rfl) (Nat.le_of_ble_eq_true rfl) (Nat.le_of_ble_eq_true rfl)) (Nat.le_of_ble_eq_true rfl) (Nat.le_of_ble_eq_true rfl)
set_option maxHeartbeats 4000000 in
set_option maxRecDepth 100000 in
theorem mX5_roadX (l : Launch) (D : va_G) (cI cH : ClassId) (st hg : Nat) (s0 s1 : Int32) (p0 p1 p2 p3 p4 p5 p6 p7 p8 p9 p10 p11 : UInt64) (ux uy a lx ly b c sd g d sx sy f : Int32)  (kg : cB g) (kd : cB d) (g0 : fGr 1021 1086 p0) (g1 : fGr 1074 1084 p1) (g2 : fGr 888 1153 p2) (g3 : fGr 934 1152 p3) (g4 : fGr 826 1154 p4) (g5 : fGr 872 1153 p5) : Met l yX5_roadX wsX5_roadX ({ frames := 0, cells := 0, slots := 0, locals := 0 }) (va_Pc [.ref st, .ref hg] (kB D cI cH [(st, .inr (4, [.int s0, .int s1, .double p0, .double p1, .double p2, .double p3, .double p4, .double p5, .double p6, .double p7, .double p8, .double p9, .double p10, .double p11])), (hg, .inr (1, [.int ux, .int uy, .int a, .int lx, .int ly, .int b, .int c, .int sd, .int g, .int d, .int sx, .int sy, .int f]))])) (va_Qd (fun (r : UInt64) (u : Unit) => r = tRx g d p0 p4 p5) (fun _ _ => True) nA) 0 0 nA := by
  refine Met.ofW (cc := cX5_roadX) (maxL := 2) (ret := (some .double)) (by decide) rfl ?_
  intro p e s m args below meth co s₁ B hml hv
  obtain ⟨rfl, hP0, hw⟩ := hv
  have hx := B.exec
  have hb := B.bytes
  have hr := B.returns
  have hts := atoms_spec (ws := wsX5_roadX) B.pre
  have hown : s.vm.findClass RX5 = some m.cls := findClass_of_methodNamed B.named
  have hlocks := B.notSynchronized
  have hinX2 : ∀ w ∈ wsX20, w ∈ wsX5_roadX := by decide +kernel
  have hinX5 : ∀ w ∈ wsX50, w ∈ wsX5_roadX := by decide +kernel
  have hS : va_S nA s.heap s.heap [] := va_S.rf
  have hR0 : va_P D vwCl [(st, .inr (4, [.int s0, .int s1, .double p0, .double p1, .double p2, .double p3, .double p4, .double p5, .double p6, .double p7, .double p8, .double p9, .double p10, .double p11])), (hg, .inr (1, [.int ux, .int uy, .int a, .int lx, .int ly, .int b, .int c, .int sd, .int g, .int d, .int sx, .int sy, .int f]))] s.heap := hP0.sub [0, 1] rfl
  have hR := hR0
  have hnr : ∀ (k : Nat) (q : Nat × va_E), ([(st, .inr (4, [.int s0, .int s1, .double p0, .double p1, .double p2, .double p3, .double p4, .double p5, .double p6, .double p7, .double p8, .double p9, .double p10, .double p11])), (hg, .inr (1, [.int ux, .int uy, .int a, .int lx, .int ly, .int b, .int c, .int sd, .int g, .int d, .int sx, .int sy, .int f]))] : va_W)[k]? = some q → ¬ nA q.1 := fr_nA
  have hl := lv_entry ([.ref st, .ref hg]) (n := 2) (Nat.le_of_ble_eq_true rfl)
  rw [lg_entry_eq]
  generalize (lg_sl ([.ref st, .ref hg]) ++ List.replicate (2 - (lg_sl ([.ref st, .ref hg])).length) Slot.unset).toArray = ls at hl ⊢
  have hl : lv_has ls 2 [(0, .ref st), (1, .ref hg)] := hl
  skip
  refine lv_aload_n hx hb dX5_roadX_0 rfl (lv_at hl 0 rfl) ?_
  refine va_get (D := D) (ci := 4) (v := .double p0) (C := RX5) (T := TX5) (N := 14) hx hb hts hinX5 hown hw.1 hR 0 rfl rfl 2 (by decide) (hts (.fieldLink RX5 33 "WheelSwing$Stand" "px" "D") (by decide +kernel)) (fun _ h9 => h9) rfl dX5_roadX_1 ?_
  refine lv_aload_n hx hb dX5_roadX_4 rfl (lv_at hl 1 rfl) ?_
  refine va_getN (host := "WheelSwing") (D := D) (ci := 1) (v := .int g) (C := RX2) (T := TX2) (N := 13) hx hb hts hinX2 hown hw.1 hR 1 rfl rfl 8 (by decide) (va_Nw.use rfl (hw.2 (.fieldLinkNest RX5 75 "WheelSwing$Hanging" "g" "I" "WheelSwing") (by decide +kernel))) (fun _ h9 => h9) rfl dX5_roadX_5 ?_
  refine lv_i2d hx hb dX5_roadX_8 ?_
  have gw1 := gf_i2d 10 (cB_k kg)
  refine lv_aload_n hx hb dX5_roadX_9 rfl (lv_at hl 0 rfl) ?_
  refine va_get (D := D) (ci := 4) (v := .double p4) (C := RX5) (T := TX5) (N := 14) hx hb hts hinX5 hown hw.1 hR 0 rfl rfl 6 (by decide) (hts (.fieldLink RX5 69 "WheelSwing$Stand" "vx" "D") (by decide +kernel)) (fun _ h9 => h9) rfl dX5_roadX_10 ?_
  have gw2 := gf_mul 826 1164 gw1 g4 (Nat.le_of_ble_eq_true rfl) (Nat.le_of_ble_eq_true rfl) (Nat.le_of_ble_eq_true rfl)
  refine lv_dmul hx hb dX5_roadX_13 (gf_n64 gw2) ?_
  refine lv_topd (fun v3 ev3 => ?_)
  rw [← ev3] at gw2
  have gw4 := gf_add 826 1165 g0 gw2 (Nat.le_of_ble_eq_true rfl) (Nat.le_of_ble_eq_true rfl) (Nat.le_of_ble_eq_true rfl) (Nat.le_of_ble_eq_true rfl) (Nat.le_of_ble_eq_true rfl)
  refine lv_dadd hx hb dX5_roadX_14 (gf_n64 gw4) ?_
  refine lv_topd (fun v5 ev5 => ?_)
  rw [← ev5] at gw4
  refine lv_aload_n hx hb dX5_roadX_15 rfl (lv_at hl 1 rfl) ?_
  refine va_getN (host := "WheelSwing") (D := D) (ci := 1) (v := .int d) (C := RX2) (T := TX2) (N := 13) hx hb hts hinX2 hown hw.1 hR 1 rfl rfl 9 (by decide) (va_Nw.use rfl (hw.2 (.fieldLinkNest RX5 78 "WheelSwing$Hanging" "d" "I" "WheelSwing") (by decide +kernel))) (fun _ h9 => h9) rfl dX5_roadX_16 ?_
  refine lv_i2d hx hb dX5_roadX_19 ?_
  have gw6 := gf_i2d 10 (cB_k kd)
  refine lv_aload_n hx hb dX5_roadX_20 rfl (lv_at hl 0 rfl) ?_
  refine va_get (D := D) (ci := 4) (v := .double p5) (C := RX5) (T := TX5) (N := 14) hx hb hts hinX5 hown hw.1 hR 0 rfl rfl 7 (by decide) (hts (.fieldLink RX5 72 "WheelSwing$Stand" "vy" "D") (by decide +kernel)) (fun _ h9 => h9) rfl dX5_roadX_21 ?_
  have gw7 := gf_mul 872 1163 gw6 g5 (Nat.le_of_ble_eq_true rfl) (Nat.le_of_ble_eq_true rfl) (Nat.le_of_ble_eq_true rfl)
  refine lv_dmul hx hb dX5_roadX_24 (gf_n64 gw7) ?_
  refine lv_topd (fun v8 ev8 => ?_)
  rw [← ev8] at gw7
  have gw9 := gf_add 826 1166 gw4 gw7 (Nat.le_of_ble_eq_true rfl) (Nat.le_of_ble_eq_true rfl) (Nat.le_of_ble_eq_true rfl) (Nat.le_of_ble_eq_true rfl) (Nat.le_of_ble_eq_true rfl)
  refine lv_dadd hx hb dX5_roadX_25 (gf_n64 gw9) ?_
  refine lv_topd (fun v10 ev10 => ?_)
  rw [← ev10] at gw9
  have fv10 : v10 = tRx g d p0 p4 p5 := by rw [ev10, ev8, ev5, ev3]; rfl
  clear ev10 gw9
  subst fv10
  exact W.dret (v := tRx g d p0 p4 p5) hx hb hr (fun t ht hW => ⟨⟨tRx g d p0 p4 p5, (), rfl, rfl, trivial⟩, hS.F ht⟩) hS.2.2 dX5_roadX_26
set_option maxHeartbeats 4000000 in
set_option maxRecDepth 100000 in
theorem mX5_roadY (l : Launch) (D : va_G) (cI cH : ClassId) (st hg : Nat) (s0 s1 : Int32) (p0 p1 p2 p3 p4 p5 p6 p7 p8 p9 p10 p11 : UInt64) (ux uy a lx ly b c sd g d sx sy f : Int32)  (kg : cB g) (kd : cB d) (g0 : fGr 1021 1086 p0) (g1 : fGr 1074 1084 p1) (g2 : fGr 888 1153 p2) (g3 : fGr 934 1152 p3) (g4 : fGr 826 1154 p4) (g5 : fGr 872 1153 p5) : Met l yX5_roadY wsX5_roadY ({ frames := 0, cells := 0, slots := 0, locals := 0 }) (va_Pc [.ref st, .ref hg] (kB D cI cH [(st, .inr (4, [.int s0, .int s1, .double p0, .double p1, .double p2, .double p3, .double p4, .double p5, .double p6, .double p7, .double p8, .double p9, .double p10, .double p11])), (hg, .inr (1, [.int ux, .int uy, .int a, .int lx, .int ly, .int b, .int c, .int sd, .int g, .int d, .int sx, .int sy, .int f]))])) (va_Qd (fun (r : UInt64) (u : Unit) => r = tRy g d p1 p4 p5) (fun _ _ => True) nA) 0 0 nA := by
  refine Met.ofW (cc := cX5_roadY) (maxL := 2) (ret := (some .double)) (by decide) rfl ?_
  intro p e s m args below meth co s₁ B hml hv
  obtain ⟨rfl, hP0, hw⟩ := hv
  have hx := B.exec
  have hb := B.bytes
  have hr := B.returns
  have hts := atoms_spec (ws := wsX5_roadY) B.pre
  have hown : s.vm.findClass RX5 = some m.cls := findClass_of_methodNamed B.named
  have hlocks := B.notSynchronized
  have hinX2 : ∀ w ∈ wsX20, w ∈ wsX5_roadY := by decide +kernel
  have hinX5 : ∀ w ∈ wsX50, w ∈ wsX5_roadY := by decide +kernel
  have hS : va_S nA s.heap s.heap [] := va_S.rf
  have hR0 : va_P D vwCl [(st, .inr (4, [.int s0, .int s1, .double p0, .double p1, .double p2, .double p3, .double p4, .double p5, .double p6, .double p7, .double p8, .double p9, .double p10, .double p11])), (hg, .inr (1, [.int ux, .int uy, .int a, .int lx, .int ly, .int b, .int c, .int sd, .int g, .int d, .int sx, .int sy, .int f]))] s.heap := hP0.sub [0, 1] rfl
  have hR := hR0
  have hnr : ∀ (k : Nat) (q : Nat × va_E), ([(st, .inr (4, [.int s0, .int s1, .double p0, .double p1, .double p2, .double p3, .double p4, .double p5, .double p6, .double p7, .double p8, .double p9, .double p10, .double p11])), (hg, .inr (1, [.int ux, .int uy, .int a, .int lx, .int ly, .int b, .int c, .int sd, .int g, .int d, .int sx, .int sy, .int f]))] : va_W)[k]? = some q → ¬ nA q.1 := fr_nA
  have hl := lv_entry ([.ref st, .ref hg]) (n := 2) (Nat.le_of_ble_eq_true rfl)
  rw [lg_entry_eq]
  generalize (lg_sl ([.ref st, .ref hg]) ++ List.replicate (2 - (lg_sl ([.ref st, .ref hg])).length) Slot.unset).toArray = ls at hl ⊢
  have hl : lv_has ls 2 [(0, .ref st), (1, .ref hg)] := hl
  skip
  refine lv_aload_n hx hb dX5_roadY_0 rfl (lv_at hl 0 rfl) ?_
  refine va_get (D := D) (ci := 4) (v := .double p1) (C := RX5) (T := TX5) (N := 14) hx hb hts hinX5 hown hw.1 hR 0 rfl rfl 3 (by decide) (hts (.fieldLink RX5 37 "WheelSwing$Stand" "py" "D") (by decide +kernel)) (fun _ h9 => h9) rfl dX5_roadY_1 ?_
  refine lv_aload_n hx hb dX5_roadY_4 rfl (lv_at hl 1 rfl) ?_
  refine va_getN (host := "WheelSwing") (D := D) (ci := 1) (v := .int g) (C := RX2) (T := TX2) (N := 13) hx hb hts hinX2 hown hw.1 hR 1 rfl rfl 8 (by decide) (va_Nw.use rfl (hw.2 (.fieldLinkNest RX5 75 "WheelSwing$Hanging" "g" "I" "WheelSwing") (by decide +kernel))) (fun _ h9 => h9) rfl dX5_roadY_5 ?_
  refine lv_i2d hx hb dX5_roadY_8 ?_
  have gw1 := gf_i2d 10 (cB_k kg)
  refine lv_aload_n hx hb dX5_roadY_9 rfl (lv_at hl 0 rfl) ?_
  refine va_get (D := D) (ci := 4) (v := .double p5) (C := RX5) (T := TX5) (N := 14) hx hb hts hinX5 hown hw.1 hR 0 rfl rfl 7 (by decide) (hts (.fieldLink RX5 72 "WheelSwing$Stand" "vy" "D") (by decide +kernel)) (fun _ h9 => h9) rfl dX5_roadY_10 ?_
  have gw2 := gf_mul 872 1163 gw1 g5 (Nat.le_of_ble_eq_true rfl) (Nat.le_of_ble_eq_true rfl) (Nat.le_of_ble_eq_true rfl)
  refine lv_dmul hx hb dX5_roadY_13 (gf_n64 gw2) ?_
  refine lv_topd (fun v3 ev3 => ?_)
  rw [← ev3] at gw2
  have gw4 := gf_add 872 1164 g1 gw2 (Nat.le_of_ble_eq_true rfl) (Nat.le_of_ble_eq_true rfl) (Nat.le_of_ble_eq_true rfl) (Nat.le_of_ble_eq_true rfl) (Nat.le_of_ble_eq_true rfl)
  refine lv_dadd hx hb dX5_roadY_14 (gf_n64 gw4) ?_
  refine lv_topd (fun v5 ev5 => ?_)
  rw [← ev5] at gw4
  refine lv_aload_n hx hb dX5_roadY_15 rfl (lv_at hl 1 rfl) ?_
  refine va_getN (host := "WheelSwing") (D := D) (ci := 1) (v := .int d) (C := RX2) (T := TX2) (N := 13) hx hb hts hinX2 hown hw.1 hR 1 rfl rfl 9 (by decide) (va_Nw.use rfl (hw.2 (.fieldLinkNest RX5 78 "WheelSwing$Hanging" "d" "I" "WheelSwing") (by decide +kernel))) (fun _ h9 => h9) rfl dX5_roadY_16 ?_
  refine lv_i2d hx hb dX5_roadY_19 ?_
  have gw6 := gf_i2d 10 (cB_k kd)
  refine lv_aload_n hx hb dX5_roadY_20 rfl (lv_at hl 0 rfl) ?_
  refine va_get (D := D) (ci := 4) (v := .double p4) (C := RX5) (T := TX5) (N := 14) hx hb hts hinX5 hown hw.1 hR 0 rfl rfl 6 (by decide) (hts (.fieldLink RX5 69 "WheelSwing$Stand" "vx" "D") (by decide +kernel)) (fun _ h9 => h9) rfl dX5_roadY_21 ?_
  have gw7 := gf_mul 826 1164 gw6 g4 (Nat.le_of_ble_eq_true rfl) (Nat.le_of_ble_eq_true rfl) (Nat.le_of_ble_eq_true rfl)
  refine lv_dmul hx hb dX5_roadY_24 (gf_n64 gw7) ?_
  refine lv_topd (fun v8 ev8 => ?_)
  rw [← ev8] at gw7
  have gw9 := gf_sub 826 1165 gw4 gw7 (Nat.le_of_ble_eq_true rfl) (Nat.le_of_ble_eq_true rfl) (Nat.le_of_ble_eq_true rfl) (Nat.le_of_ble_eq_true rfl) (Nat.le_of_ble_eq_true rfl)
  refine lv_dsub hx hb dX5_roadY_25 (gf_n64 gw9) ?_
  refine lv_topd (fun v10 ev10 => ?_)
  rw [← ev10] at gw9
  have fv10 : v10 = tRy g d p1 p4 p5 := by rw [ev10, ev8, ev5, ev3]; rfl
  clear ev10 gw9
  subst fv10
  exact W.dret (v := tRy g d p1 p4 p5) hx hb hr (fun t ht hW => ⟨⟨tRy g d p1 p4 p5, (), rfl, rfl, trivial⟩, hS.F ht⟩) hS.2.2 dX5_roadY_26
end
