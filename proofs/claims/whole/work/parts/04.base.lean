/-! THE BASE OF ALL WALKS: the tables' words of nest mates, what a contract asks and answers -/
abbrev tyW (cI cH : ClassId) : List (ClassId × FieldType) := [(cI, .int), (cH, .object "WheelSwing$Hanging")]
def nwL : List Cond := [
  .fieldLinkNest "WheelSwing" 136 "WheelSwing$Readings" "size" "I" "WheelSwing",
  .fieldLinkNest "WheelSwing" 154 "WheelSwing$ShimBox" "size" "I" "WheelSwing",
  .fieldLinkNest "WheelSwing" 169 "WheelSwing$Stand" "px" "D" "WheelSwing",
  .fieldLinkNest "WheelSwing" 173 "WheelSwing$Stand" "py" "D" "WheelSwing",
  .fieldLinkNest "WheelSwing" 176 "WheelSwing$Stand" "qx" "D" "WheelSwing",
  .fieldLinkNest "WheelSwing" 179 "WheelSwing$Stand" "qy" "D" "WheelSwing",
  .fieldLinkNest "WheelSwing" 182 "WheelSwing$Stand" "vy" "D" "WheelSwing",
  .fieldLinkNest "WheelSwing" 196 "WheelSwing$Stand" "vx" "D" "WheelSwing",
  .fieldLinkNest "WheelSwing" 208 "WheelSwing$Stand" "ix" "D" "WheelSwing",
  .fieldLinkNest "WheelSwing" 211 "WheelSwing$Stand" "iy" "D" "WheelSwing",
  .fieldLinkNest "WheelSwing" 216 "WheelSwing$Readings" "heights" "[I" "WheelSwing",
  .fieldLinkNest "WheelSwing" 222 "WheelSwing$Readings" "leans" "[I" "WheelSwing",
  .fieldLinkNest "WheelSwing" 89 "WheelSwing$Hanging" "ux" "I" "WheelSwing",
  .fieldLinkNest "WheelSwing" 93 "WheelSwing$Hanging" "uy" "I" "WheelSwing",
  .fieldLinkNest "WheelSwing$Stand" 13 "WheelSwing$Hanging" "ly" "I" "WheelSwing",
  .fieldLinkNest "WheelSwing$Stand" 24 "WheelSwing$Hanging" "lx" "I" "WheelSwing",
  .fieldLinkNest "WheelSwing$Stand" 46 "WheelSwing$Hanging" "c" "I" "WheelSwing",
  .fieldLinkNest "WheelSwing$Stand" 49 "WheelSwing$Hanging" "a" "I" "WheelSwing",
  .fieldLinkNest "WheelSwing$Stand" 60 "WheelSwing$Hanging" "side" "I" "WheelSwing",
  .fieldLinkNest "WheelSwing$Stand" 7 "WheelSwing$Hanging" "b" "I" "WheelSwing",
  .fieldLinkNest "WheelSwing$Stand" 75 "WheelSwing$Hanging" "g" "I" "WheelSwing",
  .fieldLinkNest "WheelSwing$Stand" 78 "WheelSwing$Hanging" "d" "I" "WheelSwing",
  .fieldLinkNest "WheelSwing$Stand" 87 "WheelSwing$Hanging" "f" "I" "WheelSwing",
  .fieldLinkNest "WheelSwing$Stand" 92 "WheelSwing$Hanging" "sx" "I" "WheelSwing",
  .fieldLinkNest "WheelSwing$Stand" 95 "WheelSwing$Hanging" "sy" "I" "WheelSwing",
  .methodLinkNest "WheelSwing" 102 ⟨"WheelSwing$Stand", "placeUpright", "(LWheelSwing$Hanging;)V"⟩ "WheelSwing",
  .methodLinkNest "WheelSwing" 115 ⟨"WheelSwing$Car", "load", "(III)V"⟩ "WheelSwing",
  .methodLinkNest "WheelSwing" 119 ⟨"WheelSwing$Car", "lean", "(II)V"⟩ "WheelSwing",
  .methodLinkNest "WheelSwing" 122 ⟨"WheelSwing$Car", "loadOf", "(I)I"⟩ "WheelSwing",
  .methodLinkNest "WheelSwing" 127 ⟨"WheelSwing$ShimBox", "add", "(I)I"⟩ "WheelSwing",
  .methodLinkNest "WheelSwing" 130 ⟨"WheelSwing$ShimBox", "nearestSet", "(II)I"⟩ "WheelSwing",
  .methodLinkNest "WheelSwing" 134 ⟨"WheelSwing$Readings", "add", "(II)I"⟩ "WheelSwing",
  .methodLinkNest "WheelSwing" 143 ⟨"WheelSwing$Doubles", "bits", "(D)J"⟩ "WheelSwing",
  .methodLinkNest "WheelSwing" 151 ⟨"WheelSwing$Stand", "squareFrom", "(LWheelSwing$Hanging;II)D"⟩ "WheelSwing",
  .methodLinkNest "WheelSwing" 161 ⟨"WheelSwing$Hanging", "mixInto", "(J)J"⟩ "WheelSwing",
  .methodLinkNest "WheelSwing" 165 ⟨"WheelSwing$ShimBox", "mixInto", "(J)J"⟩ "WheelSwing",
  .methodLinkNest "WheelSwing" 166 ⟨"WheelSwing$Readings", "mixInto", "(J)J"⟩ "WheelSwing",
  .methodLinkNest "WheelSwing" 17 ⟨"WheelSwing$Stand", "<init>", "()V"⟩ "WheelSwing",
  .methodLinkNest "WheelSwing" 189 ⟨"WheelSwing$Stand", "roadX", "(LWheelSwing$Hanging;)D"⟩ "WheelSwing",
  .methodLinkNest "WheelSwing" 193 ⟨"WheelSwing$Stand", "roadY", "(LWheelSwing$Hanging;)D"⟩ "WheelSwing",
  .methodLinkNest "WheelSwing" 201 ⟨"WheelSwing$Stand", "springLength", "(LWheelSwing$Hanging;)D"⟩ "WheelSwing",
  .methodLinkNest "WheelSwing" 204 ⟨"WheelSwing$Stand", "findCentre", "(LWheelSwing$Hanging;)Z"⟩ "WheelSwing",
  .methodLinkNest "WheelSwing" 24 ⟨"WheelSwing$Car", "<init>", "()V"⟩ "WheelSwing",
  .methodLinkNest "WheelSwing" 31 ⟨"WheelSwing$ShimBox", "<init>", "()V"⟩ "WheelSwing",
  .methodLinkNest "WheelSwing" 38 ⟨"WheelSwing$Readings", "<init>", "()V"⟩ "WheelSwing",
  .methodLinkNest "WheelSwing" 43 ⟨"WheelSwing$Hanging", "<init>", "()V"⟩ "WheelSwing",
  .methodLinkNest "WheelSwing" 55 ⟨"WheelSwing$Hanging", "setUpperArm", "(III)V"⟩ "WheelSwing",
  .methodLinkNest "WheelSwing" 59 ⟨"WheelSwing$Hanging", "setLowerArm", "(III)V"⟩ "WheelSwing",
  .methodLinkNest "WheelSwing" 62 ⟨"WheelSwing$Hanging", "setUpright", "(II)V"⟩ "WheelSwing",
  .methodLinkNest "WheelSwing" 66 ⟨"WheelSwing$Hanging", "setRoadPoint", "(II)V"⟩ "WheelSwing",
  .methodLinkNest "WheelSwing" 73 ⟨"WheelSwing$Hanging", "setSpring", "(III)V"⟩ "WheelSwing",
  .methodLinkNest "WheelSwing" 76 ⟨"WheelSwing$Hanging", "becomeMirrorOf", "(LWheelSwing$Hanging;)V"⟩ "WheelSwing",
  .methodLinkNest "WheelSwing" 96 ⟨"WheelSwing$Stand", "reach", "(LWheelSwing$Hanging;III)Z"⟩ "WheelSwing",
  .methodLinkNest "WheelSwing$Hanging" 66 ⟨"WheelSwing", "mix", "(JI)J"⟩ "WheelSwing",
  .methodLinkNest "WheelSwing$Readings" 22 ⟨"WheelSwing", "mix", "(JI)J"⟩ "WheelSwing",
  .methodLinkNest "WheelSwing$ShimBox" 33 ⟨"WheelSwing", "mix", "(JI)J"⟩ "WheelSwing",
  .methodLinkNest "WheelSwing$Stand" 27 ⟨"WheelSwing$Doubles", "squareRoot", "(D)D"⟩ "WheelSwing"]
def nw_ok : Cond → Bool
  | .fieldLinkNest .. => true
  | .methodLinkNest .. => true
  | _ => false
theorem nwL_ok : ∀ w ∈ nwL, nw_ok w = true := by decide +kernel
/-- what every method asks of the tables -/
def wk (D : va_G) (cI cH : ClassId) (U : State) : Prop := va_K D vwCl (tyW cI cH) U ∧ ∀ w ∈ nwL, va_Nw w U
theorem nw_warm {w : Cond} (hw : nw_ok w = true) {s U : State} (hW : s.WarmedH U.vm) (h : va_Nw w s) : va_Nw w U := by
  cases w <;> first | exact va_Nw.warmF hW h | exact va_Nw.warmM hW h | (exact absurd hw (by simp [nw_ok]))
theorem nw_same {w : Cond} (hw : nw_ok w = true) {s U : State} (hv : s.vm = U.vm) (h : va_Nw w s) : va_Nw w U := by
  cases w <;> first | exact va_Nw.same rfl hv h | (exact absurd hw (by simp [nw_ok]))
theorem wk.warm {D : va_G} {cI cH : ClassId} {s U : State} (h : wk D cI cH s) (hW : s.WarmedH U.vm) : wk D cI cH U := ⟨va_K.moved hW.alike h.1, fun w hw => nw_warm (nwL_ok w hw) hW (h.2 w hw)⟩
theorem wk.same {D : va_G} {cI cH : ClassId} {s U : State} (h : wk D cI cH s) (hv : s.vm = U.vm) : wk D cI cH U := ⟨va_K.moved (by rw [← hv]; exact Vm.Alike.refl s.vm) h.1, fun w hw => nw_same (nwL_ok w hw) hv (h.2 w hw)⟩
/-- nothing that was there before is changed -/
abbrev nA : Nat → Prop := fun _ => False
abbrev kB (D : va_G) (cI cH : ClassId) (ws : va_W) : State → Prop := fun U => va_P D vwCl ws U.heap ∧ wk D cI cH U
theorem kB_blind {D : va_G} {cI cH : ClassId} {ws : va_W} {av : List Value} : FrameBlind (va_Pc av (kB D cI cH ws)) := fun a U g mk q => ⟨q.1, q.2.1, wk.same q.2.2 rfl⟩
theorem kB_go {D : va_G} {cI cH : ClassId} {ws : va_W} {av : List Value} {s : State} {H : Heap} (hP : va_P D vwCl ws H) (hw : wk D cI cH s) : ∀ U : State, U.heap = H → s.WarmedH U.vm → va_Pc av (kB D cI cH ws) av.toArray U := fun U hU hW => ⟨rfl, by rw [hU]; exact hP, hw.warm hW⟩
theorem tB_blind {av : List Value} : FrameBlind (va_Pc av (fun _ => True)) := fun a U g mk q => q
theorem tB_go {av : List Value} {s : State} {H : Heap} : ∀ U : State, U.heap = H → s.WarmedH U.vm → va_Pc av (fun _ => True) av.toArray U := fun U hU hW => ⟨rfl, trivial⟩
theorem va_at_lt {D : va_G} {cl : List vw_C} {q : Nat × va_E} {H : Heap} (h : va_at D cl q H) : q.1 < H.size := by
  obtain ⟨a, e⟩ := q
  cases e with
  | inl x => exact (Array.getElem?_eq_some_iff.mp (show H[a]? = some _ from h)).1
  | inr o =>
    obtain ⟨r, -, cell, h3, -⟩ := h
    exact (Array.getElem?_eq_some_iff.mp h3).1
/-- cells that a method only reads, at any heap later on -/
theorem fr_rd {D : va_G} {cl : List vw_C} {A : Nat → Prop} {wr : va_W} {H0 H : Heap} {locs : List Loc} (hP : va_P D cl wr H0) (hS : va_S A H0 H locs) (hn : ∀ (k : Nat) (q : Nat × va_E), wr[k]? = some q → ¬ A q.1) : va_P D cl wr H :=
  fun k q hk => va_at.kept (hP k q hk) (hS.2.1 q.1 (va_at_lt (hP k q hk)) (hn k q hk))
/-- behind a call that wrote at A1 alone -/
theorem fr_keep {D : va_G} {cl : List vw_C} {A1 : Nat → Prop} {ws : va_W} {H H1 : Heap} (hP : va_P D cl ws H) (hk : ∀ q : Nat, q < H.size → ¬ A1 q → H1[q]? = H[q]?) (hn : ∀ (k : Nat) (q : Nat × va_E), ws[k]? = some q → ¬ A1 q.1) : va_P D cl ws H1 :=
  fun k q hq => va_at.kept (hP k q hq) (hk q.1 (va_at_lt (hP k q hq)) (hn k q hq))
theorem fr_nA {ws : va_W} : ∀ (k : Nat) (q : Nat × va_E), ws[k]? = some q → ¬ nA q.1 := fun _ _ _ h => h
theorem fr_one {D : va_G} {cl : List vw_C} {q : Nat × va_E} {H : Heap} (h : va_at D cl q H) : va_P D cl [q] H := by
  intro k x hk
  cases k with
  | zero => exact Option.some.inj hk ▸ h
  | succ n => exact absurd hk (by simp)
theorem fr_nil {D : va_G} {cl : List vw_C} {H : Heap} : va_P D cl [] H := fun k q h => by simp at h
theorem fr_cons {D : va_G} {cl : List vw_C} {q : Nat × va_E} {ws : va_W} {H : Heap} (h : va_at D cl q H) (hP : va_P D cl ws H) : va_P D cl (q :: ws) H := by
  intro k x hk
  cases k with
  | zero => exact Option.some.inj hk ▸ h
  | succ n => exact hP n x hk
theorem fr_app {D : va_G} {cl : List vw_C} {w1 w2 : va_W} {H : Heap} (h1 : va_P D cl w1 H) (h2 : va_P D cl w2 H) : va_P D cl (w1 ++ w2) H := by
  intro k x hk
  rcases List.mem_append.mp (List.mem_of_getElem? hk) with h | h
  · obtain ⟨i, hi⟩ := List.getElem?_of_mem h; exact h1 i x hi
  · obtain ⟨i, hi⟩ := List.getElem?_of_mem h; exact h2 i x hi
theorem D_0 {A : Nat → Prop} : va_D A [] := ⟨fun i j p q h => by simp at h, fun k q h => by simp at h⟩
theorem D_1 {A : Nat → Prop} {a : Nat} {e : va_E} (h : A a) : va_D A [(a, e)] := by
  refine ⟨fun i j p q hi hj _ => ?_, fun k q hk => ?_⟩
  · have h1 : i < 1 := (List.getElem?_eq_some_iff.mp hi).1
    have h2 : j < 1 := (List.getElem?_eq_some_iff.mp hj).1
    omega
  · cases k with
    | zero => exact Option.some.inj hk ▸ h
    | succ n => exact absurd hk (by simp)
theorem D_cons {A : Nat → Prop} {a : Nat} {e : va_E} {ws : va_W} (h : A a) (hD : va_D A ws) (hn : ∀ (k : Nat) (q : Nat × va_E), ws[k]? = some q → q.1 ≠ a) : va_D A ((a, e) :: ws) := by
  refine ⟨fun i j p q hi hj hpq => ?_, fun k q hk => ?_⟩
  · cases i with
    | zero =>
      cases j with
      | zero => rfl
      | succ j =>
        have h1 : p = (a, e) := (Option.some.inj hi).symm
        subst h1
        exact absurd hpq.symm (hn j q hj)
    | succ i =>
      cases j with
      | zero =>
        have h1 : q = (a, e) := (Option.some.inj hj).symm
        subst h1
        exact absurd hpq (hn i p hi)
      | succ j => rw [hD.1 i j p q hi hj hpq]
  · cases k with
    | zero => exact Option.some.inj hk ▸ h
    | succ n => exact hD.2 n q hk
theorem nn_0 {P : Nat × va_E → Prop} : ∀ (k : Nat) (q : Nat × va_E), ([] : va_W)[k]? = some q → P q := fun k q h => by simp at h
theorem nn_1 {P : Nat × va_E → Prop} {x : Nat × va_E} {ws : va_W} (h : P x) (ht : ∀ (k : Nat) (q : Nat × va_E), ws[k]? = some q → P q) : ∀ (k : Nat) (q : Nat × va_E), (x :: ws)[k]? = some q → P q := by
  intro k q hk
  cases k with
  | zero => exact Option.some.inj hk ▸ h
  | succ n => exact ht n q hk
/-- a truth as an int -/
def bI (b : Bool) : Int32 := if b then 1 else 0
theorem bI_1 : bI true = 1 := rfl
theorem bI_0 : bI false = 0 := rfl
theorem bI_e {b : Bool} : bI b = 0 ↔ b = false := by cases b <;> simp [bI]
theorem bI_n {b : Bool} : ¬ bI b = 0 ↔ b = true := by cases b <;> simp [bI]
theorem bI_d {p : Prop} [Decidable p] (h : p) : (1 : Int32) = bI (decide p) := by simp [bI, h]
theorem bI_nar {b : Bool} : narrow .boolean (.int (bI b)) = .int (bI b) := by cases b <;> rfl
def isW (v lo hi : Int32) : Bool := decide (lo ≤ v) && decide (v ≤ hi)
def okH (h : Int32) : Bool := isW h 0 3
def okC (v : Int32) : Bool := isW v (-1000) 1000
def okA (v : Int32) : Bool := isW v 50 1000
def okP (x y : Int32) : Bool := okC x && okC y
def okS (y0 y1 : Int32) : Bool := okC y0 && okC y1 && decide (y0 ≤ y1)
/-- what a comparison of two numbers pushes -/
def fcv (a b : Int) : Int32 := if a < b then -1 else if a = b then 0 else 1
theorem fp_cv {x y : UInt64} {op : CmpOp} (hx : FP.Core.DFin x) (hy : FP.Core.DFin y) : Op.cmpValue (FP.dcmp x y) op = fcv (fv x) (fv y) := by
  rw [fp_cmp hx hy]
  unfold fcv
  by_cases h1 : fv x < fv y
  · rw [if_pos h1, show compare (fv x) (fv y) = .lt from by rw [Int.compare_eq_lt.mpr h1]]; rfl
  · rw [if_neg h1]
    by_cases h2 : fv x = fv y
    · rw [if_pos h2, show compare (fv x) (fv y) = .eq from by rw [Int.compare_eq_eq.mpr h2]]; rfl
    · rw [if_neg h2, show compare (fv x) (fv y) = .gt from by rw [Int.compare_eq_gt.mpr (by omega)]]; rfl
theorem fcv_lt {a b : Int} : fcv a b < 0 ↔ a < b := by
  unfold fcv
  split
  · exact ⟨fun _ => by omega, fun _ => by decide⟩
  · split
    · exact ⟨fun h => absurd h (by decide), fun _ => by omega⟩
    · exact ⟨fun h => absurd h (by decide), fun _ => by omega⟩
theorem fcv_le {a b : Int} : fcv a b ≤ 0 ↔ a ≤ b := by
  unfold fcv
  split
  · exact ⟨fun _ => by omega, fun _ => by decide⟩
  · split
    · exact ⟨fun _ => by omega, fun _ => by decide⟩
    · exact ⟨fun h => absurd h (by decide), fun _ => by omega⟩
theorem fcv_gt {a b : Int} : 0 < fcv a b ↔ b < a := by
  unfold fcv
  split
  · exact ⟨fun h => absurd h (by decide), fun _ => by omega⟩
  · split
    · exact ⟨fun h => absurd h (by decide), fun _ => by omega⟩
    · exact ⟨fun _ => by omega, fun _ => by decide⟩
theorem fcv_ge {a b : Int} : 0 ≤ fcv a b ↔ b ≤ a := by
  unfold fcv
  split
  · exact ⟨fun h => absurd h (by decide), fun _ => by omega⟩
  · split
    · exact ⟨fun _ => by omega, fun _ => by decide⟩
    · exact ⟨fun _ => by omega, fun _ => by decide⟩
theorem fcv_eq {a b : Int} : fcv a b = 0 ↔ a = b := by
  unfold fcv
  split
  · exact ⟨fun h => absurd h (by decide), fun _ => by omega⟩
  · split
    · exact ⟨fun _ => by omega, fun _ => by decide⟩
    · exact ⟨fun h => absurd h (by decide), fun _ => by omega⟩
